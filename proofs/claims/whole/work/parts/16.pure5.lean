theorem actT_obd {ro sh : Nat → Nat} {a : Nat} {t : mvT} {kd sb : Nat} (h : obd t.2.2.2.2.2.2.1) (ha : a < 1000) : obd (actT ro sh a t kd sb).2.2.2.2.2.2.1 := by
  unfold actT
  split
  · exact h
  · split
    · exact h
    · split
      · show obd (moA _ _ _ _)
        unfold moA
        split
        · intro n hn
          cases hn
          exact ha
        · exact h
      · exact h
theorem kdA_lt {g : Nat → Nat} {cnt k : Nat} (hg : ∀ k, k < cnt → g k < 128) : kdA g cnt k < 128 := by
  have h : ∀ j, sgn g cnt j < 128 := fun j => by
    unfold sgn
    split
    · next q => exact hg j q
    · decide
  unfold kdA
  split
  · exact h _
  · split
    · decide
    · exact h _
/-- where no fault is, an act stands -/
theorem fltn_valid {g : Nat → Nat} {cnt n k : Nat} (hg : ∀ k, k < cnt → g k < 128) (hf : flt g cnt (n + 1) k = none) (hk : k < cnt) : (isRa (kdA g cnt k) = true → sbA g cnt k < 6) ∧ sbA g cnt k < 10 ∧ (kdA g cnt k = 48 → sbA g cnt k < 10) := by
  have hs : sgn g cnt k = g k := if_pos hk
  rw [flt, if_pos hk] at hf
  unfold kdA sbA
  rw [hs]
  by_cases h1 : isLt (g k) = true
  · have := of_decide_eq_true h1
    rw [if_pos h1, if_pos h1]
    refine ⟨fun _ => ?_, ?_, fun _ => ?_⟩ <;> omega
  · rw [if_neg h1, if_neg h1]
    rw [if_neg h1] at hf
    by_cases h2 : isDg (g k) = true
    · have := of_decide_eq_true h2
      rw [if_pos h2, if_pos h2]
      refine ⟨fun q => ?_, ?_, fun _ => ?_⟩
      · exact absurd q (by decide)
      · omega
      · omega
    · rw [if_neg h2, if_neg h2]
      exact ⟨fun _ => by decide, by decide, fun _ => by decide⟩
theorem fltn_step {g : Nat → Nat} {cnt n k : Nat} (hf : flt g cnt (n + 1) k = none) (hk : k < cnt) : flt g cnt n ((if isLt (g k) then k + 1 else k) + 1) = none := by
  rw [flt, if_pos hk] at hf
  by_cases h1 : isLt (g k) = true
  · rw [if_pos h1] at hf ⊢
    split at hf
    · exact hf
    · cases hf
  · rw [if_neg h1] at hf ⊢
    split at hf
    · exact hf
    · cases hf
theorem fol_end {g : Nat → Nat} {cnt : Nat} {ro sh : Nat → Nat} {n k a : Nat} {t : mvT} (h : cnt ≤ k) : fol g cnt ro sh n k a t = (a, none, none, t) := by
  cases n with
  | zero => rfl
  | succ n => rw [fol, if_neg (by omega)]
theorem drk_all : ∀ j, j < 8 → mv_drkL.getD j 0 < 63 ∧ (isRa (mv_drkL.getD j 0) = true → mv_drkL.getD j 0 ≠ 48) := by decide
theorem drawn_valid (x : Nat) : (isRa (kdX x) = true → sbX x < 6) ∧ (sbX x < 10 ∧ kdX x < 63) ∧ (kdX x = 48 → sbX x < 10) := by
  have h := drk_all (x / 6 % 8) (Nat.mod_lt _ (by decide))
  have h1 : sbX x < 10 := by unfold sbX; split <;> omega
  refine ⟨fun q => ?_, ⟨h1, h.1⟩, fun _ => h1⟩
  unfold sbX
  rw [if_neg (show ¬ kdX x = 48 from h.2 q)]
  omega
theorem rsn_mend {h ca : Nat → Nat} {prs yrs : Nat} {un : Nat → Nat} {kd sb : Nat} (hr : isRa kd = true) (hz : rsn h ca prs yrs un kd sb = none) : kd ≠ 60 → kd ≠ 62 → kd ≠ 43 → 0 < h sb := by
  intro e1 e2 e3
  unfold rsn rsnR at hz
  rw [if_pos hr, if_neg e1, if_neg e2] at hz
  by_cases q : prs / 2 ^ sb % 2 = 1
  · rw [if_pos q] at hz
    cases hz
  · rw [if_neg q, if_neg e3] at hz
    by_cases q2 : h sb = 0
    · rw [if_pos q2] at hz
      cases hz
    · omega
