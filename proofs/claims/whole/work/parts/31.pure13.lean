theorem lsF_no {s : Nat} : ∀ n k, lsF s n k = none ↔ ∀ j, k ≤ j → j < k + n → s / 2 ^ j % 2 = 0 := by
  intro n
  induction n with
  | zero => intro k; exact ⟨fun _ j h1 h2 => by omega, fun _ => rfl⟩
  | succ n ih =>
    intro k
    have hb : s / 2 ^ k % 2 < 2 := Nat.mod_lt _ (by decide)
    rw [lsF]
    by_cases q : s / 2 ^ k % 2 = 1
    · rw [if_pos q]
      refine ⟨(fun h => by cases h), fun h => ?_⟩
      have := h k (Nat.le_refl _) (by omega)
      omega
    · rw [if_neg q, ih]
      refine ⟨fun h j h1 h2 => ?_, fun h j h1 h2 => h j (by omega) (by omega)⟩
      by_cases e : j = k
      · rw [e]; omega
      · exact h j (by omega) (by omega)
theorem lsF_more {s : Nat} (m : Nat) : ∀ n k j, lsF s n k = some j → lsF s (n + m) k = some j := by
  intro n
  induction n with
  | zero => intro k j h; cases h
  | succ n ih =>
    intro k j h
    rw [show n + 1 + m = (n + m) + 1 by omega, lsF]
    rw [lsF] at h
    split
    · next q => rw [if_pos q] at h; exact h
    · next q => rw [if_neg q] at h; exact ih _ _ h
theorem lsF_lt {s : Nat} : ∀ n k j, lsF s n k = some j → j < k + n := by
  intro n
  induction n with
  | zero => intro k j h; cases h
  | succ n ih =>
    intro k j h
    rw [lsF] at h
    split at h
    · cases h; omega
    · have := ih _ _ h; omega
theorem brd_lt (h h2 : Nat → Nat) : brd h h2 < 64 := Nat.lt_of_le_of_lt Nat.and_le_left (barS_lt h2 6)
theorem lsF_brd {G : Nat} (hG : G < 64) : (lsF G 6 0 ≠ none ↔ G ≠ 0) ∧ (G ≠ 0 → lsF G 6 0 = lsF G 32 0) := by
  have h1 : lsF G 6 0 ≠ none ↔ G ≠ 0 := by
    rw [ne_eq, lsF_no]
    constructor
    · intro h h0
      subst h0
      exact h fun j _ _ => by rw [Nat.zero_div]
    · intro h h2
      obtain ⟨k, hk, -, h3⟩ := lowE 6 G hG h
      have := h2 k (Nat.zero_le _) (by omega)
      omega
  refine ⟨h1, fun h => ?_⟩
  cases e : lsF G 6 0 with
  | none => exact absurd e (h1.mpr h)
  | some j => exact (lsF_more 26 6 0 j e).symm
theorem actT_brd {ro sh : Nat → Nat} {a : Nat} {t : mvT} {kd sb : Nat} (hh : ∀ j, j < 6 → t.1 j < 65536) (hk : kd = 42 → isRa kd = false) : (actT ro sh a t kd sb).2.2.2.2.2.2.1 = moA t.1 (actT ro sh a t kd sb).1 a t.2.2.2.2.2.2.1 ∧ (actT ro sh a t kd sb).2.2.2.2.2.2.2 = moR t.1 (actT ro sh a t kd sb).1 t.2.2.2.2.2.2.1 t.2.2.2.2.2.2.2 := by
  have key : ∀ h2 : Nat → Nat, brd t.1 h2 = 0 → t.2.2.2.2.2.2.1 = moA t.1 h2 a t.2.2.2.2.2.2.1 ∧ t.2.2.2.2.2.2.2 = moR t.1 h2 t.2.2.2.2.2.2.1 t.2.2.2.2.2.2.2 := fun h2 h0 => ⟨(if_neg (fun q => q.1 h0)).symm, (if_neg (fun q => q.1 h0)).symm⟩
  have same : brd t.1 t.1 = 0 := brd_0 fun j _ h => h
  unfold actT
  by_cases q1 : isRa kd = true
  · rw [if_pos q1]
    refine key _ (brd_0 fun j hj h => ?_)
    have h : dH kd sb t.1 j = 65535 := h
    unfold dH at h
    split at h
    · exact h
    · split at h
      · exact h
      · split at h
        · exact h
        · unfold uN at h
          split at h
          · next e =>
            have h1 := hh j hj
            have h2 : t.1 sb &&& (t.1 sb - 1) ≤ t.1 sb - 1 := Nat.and_le_right
            rw [← e] at h h2
            rcases Nat.eq_zero_or_pos (t.1 j) with z | z
            · rw [z, Nat.zero_and] at h; cases h
            · omega
          · exact h
  · rw [if_neg q1]
    by_cases q2 : kd = 48
    · rw [if_pos q2]
      exact key _ same
    · rw [if_neg q2]
      by_cases q3 : kd = 42
      · rw [if_pos q3]
        exact ⟨rfl, rfl⟩
      · rw [if_neg q3]
        exact key _ same
/-- an act of the reference: it can be and is done, or can not, and nothing changes -/
def HAc (ro sh : Nat → Nat) (a : Nat) (t : mvT) (kd sb : Nat) (rr : Int32) (h2 c2 : Nat → Nat) (p2 y2 : Nat) (u2 : Nat → Nat) (e2 : Nat) : Prop :=
  (rsT t kd sb = none ∧ rr = nI 0 ∧ h2 = (actT ro sh a t kd sb).1 ∧ c2 = (actT ro sh a t kd sb).2.1 ∧ p2 = (actT ro sh a t kd sb).2.2.1 ∧ y2 = (actT ro sh a t kd sb).2.2.2.1 ∧ u2 = (actT ro sh a t kd sb).2.2.2.2.1 ∧ e2 = (actT ro sh a t kd sb).2.2.2.2.2.1) ∨
  (∃ v, rsT t kd sb = some v ∧ 0 < v ∧ v < 7 ∧ rr = nI v ∧ h2 = t.1 ∧ c2 = t.2.1 ∧ p2 = t.2.2.1 ∧ y2 = t.2.2.2.1 ∧ u2 = t.2.2.2.2.1 ∧ e2 = t.2.2.2.2.2.1)
theorem rsnR_v {h ca : Nat → Nat} {prs kd r v : Nat} (h9 : rsnR h ca prs kd r = some v) : 0 < v ∧ v < 7 := by
  unfold rsnR at h9
  repeat' split at h9
  all_goals (first | (cases h9; omega) | cases h9)
theorem HA_ra {ro sh : Nat → Nat} {a : Nat} {t : mvT} {kd sb p1 : Nat} {r : Int32} {h1 c1 : Nat → Nat} (hk : isRa kd = true) (h : (r, h1, c1, p1) = raS t.1 t.2.1 t.2.2.1 kd sb) : HAc ro sh a t kd sb r h1 c1 p1 t.2.2.2.1 t.2.2.2.2.1 t.2.2.2.2.2.1 := by
  have e : rsT t kd sb = rsnR t.1 t.2.1 t.2.2.1 kd sb := if_pos hk
  have e2 : actT ro sh a t kd sb = _ := if_pos hk
  unfold raS at h
  by_cases q : rsnR t.1 t.2.1 t.2.2.1 kd sb = none
  · rw [if_pos q] at h
    simp only [Prod.mk.injEq] at h
    obtain ⟨rfl, rfl, rfl, rfl⟩ := h
    refine Or.inl ⟨e.trans q, rfl, ?_, ?_, ?_, ?_, ?_, ?_⟩ <;> rw [e2]
  · rw [if_neg q] at h
    simp only [Prod.mk.injEq] at h
    obtain ⟨rfl, rfl, rfl, rfl⟩ := h
    cases z : rsnR t.1 t.2.1 t.2.2.1 kd sb with
    | none => exact absurd z q
    | some v =>
      obtain ⟨v1, v2⟩ := rsnR_v z
      exact Or.inr ⟨v, e.trans z, v1, v2, rfl, rfl, rfl, rfl, rfl, rfl, rfl⟩
theorem HA_mo {ro sh : Nat → Nat} {a : Nat} {t : mvT} {sb e1 : Nat} {r : Int32} {h1 : Nat → Nat} (h : (r, h1, e1) = if t.2.2.1 = 0 then (nI 5, t.1, t.2.2.2.2.2.1) else (nI 0, (moS ro sh t.2.2.2.2.1 t.2.1 t.2.2.1 t.1 t.2.2.2.2.2.1 10).1, (moS ro sh t.2.2.2.2.1 t.2.1 t.2.2.1 t.1 t.2.2.2.2.2.1 10).2)) : HAc ro sh a t 42 sb r h1 t.2.1 t.2.2.1 t.2.2.2.1 t.2.2.2.2.1 e1 := by
  have n1 : ¬ isRa 42 = true := by decide
  have e : rsT t 42 sb = if t.2.2.1 = 0 then some 5 else none := (if_neg n1).trans ((if_neg (by decide)).trans (if_pos rfl))
  have e2 : actT ro sh a t 42 sb = _ := (if_neg n1).trans ((if_neg (by decide)).trans (if_pos rfl))
  by_cases q : t.2.2.1 = 0
  · rw [if_pos q] at h e
    simp only [Prod.mk.injEq] at h
    obtain ⟨rfl, rfl, rfl⟩ := h
    exact Or.inr ⟨5, e, by decide, by decide, rfl, rfl, rfl, rfl, rfl, rfl, rfl⟩
  · rw [if_neg q] at h e
    simp only [Prod.mk.injEq] at h
    obtain ⟨rfl, rfl, rfl⟩ := h
    refine Or.inl ⟨e, rfl, ?_, ?_, ?_, ?_, ?_, ?_⟩ <;> rw [e2]
theorem HA_ye {ro sh : Nat → Nat} {a : Nat} {t : mvT} {sb y1 : Nat} {r : Int32} {c1 : Nat → Nat} (h : (r, c1, y1) = if 99 ≤ t.2.2.2.1 then (nI 6, t.2.1, t.2.2.2.1) else (nI 0, yeC t.2.1 6, t.2.2.2.1 + 1)) : HAc ro sh a t 46 sb r t.1 c1 t.2.2.1 y1 t.2.2.2.2.1 t.2.2.2.2.2.1 := by
  have n1 : ¬ isRa 46 = true := by decide
  have e : rsT t 46 sb = if 99 ≤ t.2.2.2.1 then some 6 else none := (if_neg n1).trans ((if_neg (by decide)).trans (if_neg (by decide)))
  have e2 : actT ro sh a t 46 sb = _ := (if_neg n1).trans ((if_neg (by decide)).trans (if_neg (by decide)))
  by_cases q : 99 ≤ t.2.2.2.1
  · rw [if_pos q] at h e
    simp only [Prod.mk.injEq] at h
    obtain ⟨rfl, rfl, rfl⟩ := h
    exact Or.inr ⟨6, e, by decide, by decide, rfl, rfl, rfl, rfl, rfl, rfl, rfl⟩
  · rw [if_neg q] at h e
    simp only [Prod.mk.injEq] at h
    obtain ⟨rfl, rfl, rfl⟩ := h
    refine Or.inl ⟨e, rfl, ?_, ?_, ?_, ?_, ?_, ?_⟩ <;> rw [e2]
theorem HA_ow {ro sh : Nat → Nat} {a : Nat} {t : mvT} {sb : Nat} {r : Int32} {u1 : Nat → Nat} (h : (r, u1) = if t.2.2.2.2.1 sb = 0 then (nI 4, t.2.2.2.2.1) else (nI 0, uN t.2.2.2.2.1 sb 0)) : HAc ro sh a t 48 sb r t.1 t.2.1 t.2.2.1 t.2.2.2.1 u1 t.2.2.2.2.2.1 := by
  have n1 : ¬ isRa 48 = true := by decide
  have e : rsT t 48 sb = if t.2.2.2.2.1 sb = 0 then some 4 else none := (if_neg n1).trans (if_pos rfl)
  have e2 : actT ro sh a t 48 sb = _ := (if_neg n1).trans (if_pos rfl)
  by_cases q : t.2.2.2.2.1 sb = 0
  · rw [if_pos q] at h e
    obtain ⟨rfl, rfl⟩ := Prod.mk.inj h
    exact Or.inr ⟨4, e, by decide, by decide, rfl, rfl, rfl, rfl, rfl, rfl, rfl⟩
  · rw [if_neg q] at h e
    obtain ⟨rfl, rfl⟩ := Prod.mk.inj h
    refine Or.inl ⟨e, rfl, ?_, ?_, ?_, ?_, ?_, ?_⟩ <;> rw [e2]
theorem oI_lt {b : Nat} {o : Option Nat} (h : obn b o) (hb : b ≤ 2 ^ 31) : oI o < 0 ↔ o = none := by
  cases o with
  | none => exact ⟨fun _ => rfl, fun _ => by decide⟩
  | some n =>
    have h1 := h n rfl
    exact ⟨fun q => absurd q (nI_pos (by omega)), fun q => by cases q⟩
/-- the robes that an act has bared, told from the last robe down -/
def gnA (G a : Nat) (Az : Option Nat) (q : Nat) : Option Nat := if Az = none ∧ lsF G (6 - q) q ≠ none then some a else Az
def gnR (G : Nat) (Az Rz : Option Nat) (q : Nat) : Option Nat := if Az = none ∧ lsF G (6 - q) q ≠ none then lsF G (6 - q) q else Rz
theorem gn_0 {h h2 : Nat → Nat} {a : Nat} {Az Rz : Option Nat} : gnA (brd h h2) a Az 0 = moA h h2 a Az ∧ gnR (brd h h2) Az Rz 0 = moR h h2 Az Rz := by
  obtain ⟨l1, l2⟩ := lsF_brd (brd_lt h h2)
  by_cases q : Az = none
  · by_cases q2 : brd h h2 = 0
    · have n1 : ¬ (Az = none ∧ lsF (brd h h2) (6 - 0) 0 ≠ none) := fun z => (l1.mp z.2) q2
      have n2 : ¬ (brd h h2 ≠ 0 ∧ Az = none) := fun z => z.1 q2
      exact ⟨(if_neg n1).trans (if_neg n2).symm, (if_neg n1).trans (if_neg n2).symm⟩
    · have n1 : Az = none ∧ lsF (brd h h2) (6 - 0) 0 ≠ none := ⟨q, l1.mpr q2⟩
      have n2 : brd h h2 ≠ 0 ∧ Az = none := ⟨q2, q⟩
      exact ⟨(if_pos n1).trans (if_pos n2).symm, (if_pos n1).trans ((l2 q2).trans (if_pos n2).symm)⟩
  · have n1 : ¬ (Az = none ∧ lsF (brd h h2) (6 - 0) 0 ≠ none) := fun z => q z.1
    have n2 : ¬ (brd h h2 ≠ 0 ∧ Az = none) := fun z => q z.2
    exact ⟨(if_neg n1).trans (if_neg n2).symm, (if_neg n1).trans (if_neg n2).symm⟩
theorem gn_old {h h2 : Nat → Nat} {a : Nat} {Az Rz : Option Nat} (hA : Az ≠ none) (q : Nat) : gnA (brd h h2) a Az q = moA h h2 a Az ∧ gnR (brd h h2) Az Rz q = moR h h2 Az Rz := by
  have n1 : ¬ (Az = none ∧ lsF (brd h h2) (6 - q) q ≠ none) := fun z => hA z.1
  have n2 : ¬ (brd h h2 ≠ 0 ∧ Az = none) := fun z => hA z.2
  exact ⟨(if_neg n1).trans (if_neg n2).symm, (if_neg n1).trans (if_neg n2).symm⟩
theorem gn_bit {G a q : Nat} {Az Rz : Option Nat} (hq : 0 < q ∧ q ≤ 6) (hA : Az = none) (hb : G / 2 ^ (q - 1) % 2 = 1) : gnA G a Az (q - 1) = some a ∧ gnR G Az Rz (q - 1) = some (q - 1) := by
  have e : lsF G (6 - (q - 1)) (q - 1) = some (q - 1) := by
    rw [show 6 - (q - 1) = (6 - q) + 1 by omega, lsF, if_pos hb]
  unfold gnA gnR
  rw [e, if_pos ⟨hA, by simp⟩, if_pos ⟨hA, by simp⟩]
  exact ⟨rfl, rfl⟩
theorem gn_nob {G a q : Nat} {Az Rz : Option Nat} (hq : 0 < q ∧ q ≤ 6) (hb : G / 2 ^ (q - 1) % 2 = 0) : gnA G a Az (q - 1) = gnA G a Az q ∧ gnR G Az Rz (q - 1) = gnR G Az Rz q := by
  have e : lsF G (6 - (q - 1)) (q - 1) = lsF G (6 - q) q := by
    rw [show 6 - (q - 1) = (6 - q) + 1 by omega, lsF, if_neg (by omega), show q - 1 + 1 = q by omega]
  unfold gnA gnR
  rw [e]
  exact ⟨rfl, rfl⟩
theorem flt_letter {g : Nat → Nat} {cnt n k : Nat} (hn : cnt < k + n) (hf : flt g cnt n k = none) (hk : k < cnt) (hL : isLt (g k) = true) : k + 1 < cnt ∧ isRa (g (k + 1)) = true ∧ kdA g cnt k = g (k + 1) ∧ sbA g cnt k = g k - 65 := by
  obtain ⟨n2, rfl⟩ : ∃ z, n = z + 1 := ⟨n - 1, by omega⟩
  have hs : sgn g cnt k = g k := if_pos hk
  rw [flt, if_pos hk, if_pos hL] at hf
  by_cases q : isRa (sgn g cnt (k + 1)) = true
  · have h1 : k + 1 < cnt := by
      rcases Nat.lt_or_ge (k + 1) cnt with z | z
      · exact z
      · rw [show sgn g cnt (k + 1) = 0 from if_neg (by omega)] at q
        exact absurd q (by decide)
    have h2 : sgn g cnt (k + 1) = g (k + 1) := if_pos h1
    rw [h2] at q
    refine ⟨h1, q, ?_, ?_⟩
    · unfold kdA
      rw [hs, if_pos hL, h2]
    · unfold sbA
      rw [hs, if_pos hL]
  · rw [if_neg q] at hf
    cases hf
theorem flt_other {g : Nat → Nat} {cnt n k : Nat} (hn : cnt < k + n) (hf : flt g cnt n k = none) (hk : k < cnt) (hL : isLt (g k) = false) : (g k = 42 → kdA g cnt k = 42) ∧ (g k = 46 → kdA g cnt k = 46) ∧ (g k ≠ 42 → g k ≠ 46 → isDg (g k) = true) := by
  obtain ⟨n2, rfl⟩ : ∃ z, n = z + 1 := ⟨n - 1, by omega⟩
  have hs : sgn g cnt k = g k := if_pos hk
  have h0 : ¬ isLt (g k) = true := by rw [hL]; decide
  rw [flt, if_pos hk, if_neg h0] at hf
  refine ⟨fun q => ?_, fun q => ?_, fun q1 q2 => ?_⟩
  · unfold kdA
    rw [hs, if_neg h0, q]
    rfl
  · unfold kdA
    rw [hs, if_neg h0, q]
    rfl
  · by_cases z : isDg (g k) = true
    · exact z
    · rw [if_neg (by
        rintro (y | y | y)
        · exact z y
        · exact q1 y
        · exact q2 y)] at hf
      cases hf
theorem kd_dg {g : Nat → Nat} {cnt k : Nat} (hk : k < cnt) (hL : isLt (g k) = false) (hd : isDg (g k) = true) : kdA g cnt k = 48 ∧ sbA g cnt k = g k - 48 := by
  have hs : sgn g cnt k = g k := if_pos hk
  have h0 : ¬ isLt (g k) = true := by rw [hL]; decide
  unfold kdA sbA
  rw [hs, if_neg h0, if_pos hd, if_neg h0, if_pos hd]
  exact ⟨rfl, rfl⟩
theorem HA_pos {ro sh : Nat → Nat} {a : Nat} {t : mvT} {kd sb : Nat} {rr : Int32} {h2 c2 : Nat → Nat} {p2 y2 : Nat} {u2 : Nat → Nat} {e2 : Nat} (h : HAc ro sh a t kd sb rr h2 c2 p2 y2 u2 e2) (hr : rr ≤ 0) : rsT t kd sb = none ∧ rr = nI 0 ∧ h2 = (actT ro sh a t kd sb).1 ∧ c2 = (actT ro sh a t kd sb).2.1 ∧ p2 = (actT ro sh a t kd sb).2.2.1 ∧ y2 = (actT ro sh a t kd sb).2.2.2.1 ∧ u2 = (actT ro sh a t kd sb).2.2.2.2.1 ∧ e2 = (actT ro sh a t kd sb).2.2.2.2.2.1 := by
  rcases h with h | ⟨v, -, h1, h2, h3, -⟩
  · exact h
  · rw [h3] at hr
    exact absurd hr (nI_nle h1 (by omega))
theorem HA_neg {ro sh : Nat → Nat} {a : Nat} {t : mvT} {kd sb : Nat} {rr : Int32} {h2 c2 : Nat → Nat} {p2 y2 : Nat} {u2 : Nat → Nat} {e2 : Nat} (h : HAc ro sh a t kd sb rr h2 c2 p2 y2 u2 e2) (hr : ¬ rr ≤ 0) : ∃ v, rsT t kd sb = some v ∧ rr = nI v ∧ h2 = t.1 ∧ c2 = t.2.1 ∧ p2 = t.2.2.1 ∧ y2 = t.2.2.2.1 ∧ u2 = t.2.2.2.2.1 ∧ e2 = t.2.2.2.2.2.1 := by
  rcases h with ⟨-, h, -⟩ | ⟨v, h0, h1, h2, h3⟩
  · rw [h] at hr
    exact absurd (by decide) hr
  · exact ⟨v, h0, h3⟩
theorem act_eq {A t : mvT} {a : Nat} {h2 c2 : Nat → Nat} {p2 y2 : Nat} {u2 : Nat → Nat} {e2 : Nat} {Az2 Rz2 : Option Nat} (e1 : h2 = A.1) (e22 : c2 = A.2.1) (e3 : p2 = A.2.2.1) (e4 : y2 = A.2.2.2.1) (e5 : u2 = A.2.2.2.2.1) (e6 : e2 = A.2.2.2.2.2.1) (hA : Az2 = moA t.1 h2 a t.2.2.2.2.2.2.1) (hR : Rz2 = moR t.1 h2 t.2.2.2.2.2.2.1 t.2.2.2.2.2.2.2) (hb : A.2.2.2.2.2.2.1 = moA t.1 A.1 a t.2.2.2.2.2.2.1 ∧ A.2.2.2.2.2.2.2 = moR t.1 A.1 t.2.2.2.2.2.2.1 t.2.2.2.2.2.2.2) : A = (h2, c2, p2, y2, u2, e2, Az2, Rz2) := by
  rw [hA, hR, e1, e22, e3, e4, e5, e6, ← hb.1, ← hb.2]
theorem oI_sm {b a : Nat} {o : Option Nat} (h : obn b o) (ha : a < 1000 ∧ b ≤ 1000 ∨ a < 2 ^ 31 ∧ b ≤ 2 ^ 31) (e : oI o = nI a) : o = some a := by
  cases o with
  | none =>
    have h2 := congrArg Int32.toInt e
    rw [nI_toInt (by omega)] at h2
    have h3 : (oI none).toInt = -6 := by decide
    omega
  | some n =>
    have h1 := h n rfl
    have := (nI_eq (show n < 2 ^ 31 by omega) (show a < 2 ^ 31 by omega)).mp e
    rw [this]
theorem gn_n1 {G a q : Nat} {Az Az2 : Option Nat} (h : Az2 = gnA G a Az q) (h2 : Az2 = none) : Az = none := by
  unfold gnA at h
  split at h
  · rw [h2] at h; cases h
  · rw [← h, h2]
theorem gn_n2 {G a q : Nat} {Az Az2 : Option Nat} (h : Az2 = gnA G a Az q) (hb : ∀ v, Az = some v → v < a) (h2 : Az2 = some a) : Az = none := by
  unfold gnA at h
  split at h
  · next z => exact z.1
  · rw [h2] at h
    have := hb a h.symm
    omega
theorem gn_o1 {G a q : Nat} {Az Az2 : Option Nat} (h : Az2 = gnA G a Az q) (h2 : ¬ Az2 = none) (h3 : ¬ Az2 = some a) : Az ≠ none := by
  unfold gnA at h
  split at h
  · exact absurd h h3
  · rw [← h]
    exact h2
