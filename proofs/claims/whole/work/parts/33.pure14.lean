theorem fol_why {g : Nat → Nat} {cnt : Nat} {ro sh : Nat → Nat} : ∀ n k a t, ((fol g cnt ro sh n k a t).2.1 = none ↔ (fol g cnt ro sh n k a t).2.2.1 = none) := by
  intro n
  induction n with
  | zero => intro k a t; exact ⟨fun _ => rfl, fun _ => rfl⟩
  | succ n ih =>
    intro k a t
    rw [fol]
    split
    · split
      · exact ih _ _ _
      · next q => exact ⟨fun h => (by cases h), fun h => absurd h q⟩
    · exact ⟨fun _ => rfl, fun _ => rfl⟩
theorem jd_none {g : Nat → Nat} {cnt : Nat} {ro sh : Nat → Nat} {t : mvT} {r : Int32} {k : Nat} (h1 : r = oI (FRo g cnt ro sh t).2.1) (hn : (FRo g cnt ro sh t).2.1 = none) : r = if k = 0 then oI (FRo g cnt ro sh t).2.1 else oI (FRo g cnt ro sh t).2.2.1 := by
  rw [h1, (fol_why 61 0 0 t).mp hn, hn]
  split <;> rfl
theorem jd_some {g : Nat → Nat} {cnt : Nat} {ro sh : Nat → Nat} {t : mvT} {rs : Int32} (h2 : ∀ v, (FRo g cnt ro sh t).2.2.1 = some v → rs = nI v) (hn : ¬ (FRo g cnt ro sh t).2.1 = none) : rs = oI (FRo g cnt ro sh t).2.2.1 := by
  cases e : (FRo g cnt ro sh t).2.2.1 with
  | none => exact absurd ((fol_why 61 0 0 t).mpr e) hn
  | some v => rw [h2 v e]; rfl
theorem bh_lo {k r : Nat} (hr : r < 6) (hk : k < 2) (h ca un : Nat → Nat) (prs yrs : Nat) {z : Int32} : nI (bk h ca un prs yrs (6 * k + r)) = if k = 0 then nI (h r) else if k = 1 then nI (ca r) else z := by
  rcases (show k = 0 ∨ k = 1 by omega) with rfl | rfl
  · rw [if_pos rfl, Nat.mul_zero, Nat.zero_add, bk_h hr]
  · rw [if_neg (by decide), if_pos rfl, Nat.mul_one, bk_c hr]
