/-! a number that a caller may give wrongly: is it between a and b -/
def inQ (x : Int32) (a b : Nat) : Bool := decide (nI a ≤ x ∧ x ≤ nI b)
theorem inQ_ex {x : Int32} {a b : Nat} (hb : a ≤ b ∧ b < 2 ^ 31) (h : inQ x a b = true) : ∃ k : Nat, a ≤ k ∧ k ≤ b ∧ x = nI k := by
  obtain ⟨h1, h2⟩ := of_decide_eq_true h
  have ha : a < 2 ^ 31 := by omega
  have h0 : ¬ x < 0 := fun z => by
    rw [Int32.le_iff_toInt_le, nI_toInt ha] at h1
    rw [Int32.lt_iff_toInt_lt] at z
    have : (0 : Int32).toInt = 0 := by decide
    omega
  obtain ⟨j, hj, rfl⟩ := nI_of h0
  exact ⟨j, (nI_leI ha hj).mp h1, (nI_leI hj hb.2).mp h2, rfl⟩
theorem inQ_nI {k a b : Nat} (hk : k < 2 ^ 31) (ha : a < 2 ^ 31) (hb : b < 2 ^ 31) : inQ (nI k) a b = decide (a ≤ k ∧ k ≤ b) := by
  unfold inQ
  rw [decide_eq_decide, nI_leI ha hk, nI_leI hk hb]
theorem inQ_t {x : Int32} {a b : Nat} (h1 : ¬ x < nI a) (h2 : ¬ nI b < x) : nI 1 = nI (bN (inQ x a b)) := bN_dt ⟨Int32.not_lt.mp h1, Int32.not_lt.mp h2⟩
theorem inQ_f1 {x : Int32} {a b : Nat} (h : x < nI a) : nI 0 = nI (bN (inQ x a b)) := bN_df (fun q => absurd q.1 (Int32.not_le.mpr h))
theorem inQ_f2 {x : Int32} {a b : Nat} (h : nI b < x) : nI 0 = nI (bN (inQ x a b)) := bN_df (fun q => absurd q.2 (Int32.not_le.mpr h))
theorem lt_le1 {x : Int32} {b : Nat} (hb : b < 2 ^ 30) : nI (b + 1) ≤ x ↔ nI b < x := by
  rw [Int32.le_iff_toInt_le, Int32.lt_iff_toInt_lt, nI_toInt (by omega), nI_toInt (by omega)]
  omega
