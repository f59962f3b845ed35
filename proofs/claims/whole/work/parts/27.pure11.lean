/-! the reference keeps holes, camphor, untruth, press and year in one row -/
def bk (h ca un : Nat → Nat) (prs yrs : Nat) : Nat → Nat := fun j => if j < 6 then h j else if j < 12 then ca (j - 6) else if j < 22 then un (j - 12) else if j = 22 then prs else if j = 23 then yrs else 0
theorem bk_h {h ca un : Nat → Nat} {prs yrs r : Nat} (hr : r < 6) : bk h ca un prs yrs r = h r := if_pos hr
theorem bk_c {h ca un : Nat → Nat} {prs yrs r : Nat} (hr : r < 6) : bk h ca un prs yrs (6 + r) = ca r := by
  unfold bk
  rw [if_neg (by omega), if_pos (by omega), Nat.add_sub_cancel_left]
theorem bk_u {h ca un : Nat → Nat} {prs yrs r : Nat} (hr : r < 10) : bk h ca un prs yrs (12 + r) = un r := by
  unfold bk
  rw [if_neg (by omega), if_neg (by omega), if_pos (by omega), Nat.add_sub_cancel_left]
theorem bk_p {h ca un : Nat → Nat} {prs yrs : Nat} : bk h ca un prs yrs 22 = prs := rfl
theorem bk_y {h ca un : Nat → Nat} {prs yrs : Nat} : bk h ca un prs yrs 23 = yrs := rfl
theorem uN_bk_h {h ca un : Nat → Nat} {prs yrs r v : Nat} (hr : r < 6) : uN (bk h ca un prs yrs) r v = bk (uN h r v) ca un prs yrs := by
  funext j
  unfold uN bk
  dsimp only
  by_cases q : j = r
  · rw [if_pos q, if_pos (by omega), if_pos q]
  · rw [if_neg q]
    split
    · rfl
    · rfl
theorem uN_bk_c {h ca un : Nat → Nat} {prs yrs r v : Nat} (hr : r < 6) : uN (bk h ca un prs yrs) (6 + r) v = bk h (uN ca r v) un prs yrs := by
  funext j
  unfold uN bk
  dsimp only
  by_cases q : j = 6 + r
  · rw [if_pos q, if_neg (by omega), if_pos (by omega), if_pos (by omega)]
  · rw [if_neg q]
    split
    · rfl
    · split
      · rw [if_neg (by omega)]
      · rfl
theorem uN_bk_u {h ca un : Nat → Nat} {prs yrs r v : Nat} (hr : r < 10) : uN (bk h ca un prs yrs) (12 + r) v = bk h ca (uN un r v) prs yrs := by
  funext j
  unfold uN bk
  dsimp only
  by_cases q : j = 12 + r
  · rw [if_pos q, if_neg (by omega), if_neg (by omega), if_pos (by omega), if_pos (by omega)]
  · rw [if_neg q]
    split
    · rfl
    · split
      · rfl
      · split
        · rw [if_neg (by omega)]
        · rfl
theorem uN_bk_p {h ca un : Nat → Nat} {prs yrs v : Nat} : uN (bk h ca un prs yrs) 22 v = bk h ca un v yrs := by
  funext j
  unfold uN bk
  by_cases q : j = 22
  · rw [if_pos q, if_neg (by omega), if_neg (by omega), if_neg (by omega), if_pos q]
  · rw [if_neg q, if_neg q, if_neg q]
theorem uN_bk_y {h ca un : Nat → Nat} {prs yrs v : Nat} : uN (bk h ca un prs yrs) 23 v = bk h ca un prs v := by
  funext j
  unfold uN bk
  by_cases q : j = 23
  · rw [if_pos q, if_neg (by omega), if_neg (by omega), if_neg (by omega), if_neg (by omega), if_pos q]
  · rw [if_neg q, if_neg q, if_neg q]
theorem bk_lt {h ca un : Nat → Nat} {prs yrs : Nat} (h1 : ∀ k, k < 6 → h k < 65536) (h2 : ∀ k, k < 6 → ca k ≤ 9) (h3 : prs < 64) (h4 : yrs ≤ 99) (h5 : ∀ k, k < 10 → un k ≤ 9) (j : Nat) : bk h ca un prs yrs j < 65536 := by
  unfold bk
  split
  · next q => exact h1 j q
  · split
    · next q => have := h2 (j - 6) (by omega); omega
    · split
      · next q => have := h5 (j - 12) (by omega); omega
      · split
        · omega
        · split
          · omega
          · decide
/-- sights, in one row -/
def sgt (si : Nat → Nat) (bs : Nat) : Nat → Nat := fun j => if j % 2 = 0 then si (j / 2) else bs / 2 ^ (j / 2) % 2
theorem sgt_e {si : Nat → Nat} {bs i : Nat} : sgt si bs (2 * i) = si i := by
  unfold sgt
  rw [if_pos (by omega), show 2 * i / 2 = i by omega]
theorem sgt_o {si : Nat → Nat} {bs i : Nat} : sgt si bs (2 * i + 1) = bs / 2 ^ i % 2 := by
  unfold sgt
  rw [if_neg (by omega), show (2 * i + 1) / 2 = i by omega]
theorem addB_bit {bs sc b i : Nat} (hbs : bs < 2 ^ 32) (hsc : sc < 32) (hb : b < 2) : addB bs sc b / 2 ^ i % 2 = if i = sc then b else bs / 2 ^ i % 2 := by
  unfold addB
  rw [Nat.one_mul]
  by_cases q : b = 0
  · subst q
    rw [if_neg (by simp), ← Nat.toNat_testBit, Nat.testBit_and, Nat.testBit_xor, Nat.testBit_two_pow, show (4294967295 : Nat) = 2 ^ 32 - 1 from rfl, Nat.testBit_two_pow_sub_one]
    by_cases e : i = sc
    · subst e
      simp [hsc]
    · rw [if_neg e, ← Nat.toNat_testBit]
      by_cases z : i < 32
      · simp [z, Ne.symm e]
      · have : bs.testBit i = false := Nat.testBit_lt_two_pow (Nat.lt_of_lt_of_le hbs (Nat.pow_le_pow_right (by decide) (by omega)))
        simp [this]
  · have hb1 : b = 1 := by omega
    subst hb1
    rw [if_pos (by decide), ← Nat.toNat_testBit, Nat.testBit_or, Nat.testBit_two_pow]
    by_cases e : i = sc
    · subst e
      simp
    · rw [if_neg e, ← Nat.toNat_testBit]
      simp [Ne.symm e]
theorem sgt_add {si : Nat → Nat} {bs sc k b : Nat} (hbs : bs < 2 ^ 32) (hsc : sc < 32) (hb : b < 2) : uN (uN (sgt si bs) (2 * sc) k) (2 * sc + 1) b = sgt (uN si sc k) (addB bs sc b) := by
  funext j
  unfold sgt uN
  dsimp only
  rcases Nat.mod_two_eq_zero_or_one j with e | e
  · by_cases q : j / 2 = sc
    · rw [if_neg (by omega), if_pos (by omega), if_pos e, if_pos q]
    · rw [if_neg (by omega), if_neg (by omega), if_pos e, if_pos e, if_neg q]
  · by_cases q : j / 2 = sc
    · rw [if_pos (by omega), if_neg (by omega), addB_bit hbs hsc hb, if_pos q]
    · rw [if_neg (by omega), if_neg (by omega), if_neg (by omega), if_neg (by omega), addB_bit hbs hsc hb, if_neg q]
section MV11
variable {H : Heap} {D : va_G} {A : Nat → Prop} {ws : va_W}
theorem mv_Prec {q0 a n : Nat} {cA : ClassId} {f f2 : Nat → Nat} (hP : va_P D vwCl ws H) (ha : ws[q0]? = some (a, .inl (cA, n, .inl (aN f)))) (h : ∀ j, j < n → f j = f2 j) : va_P D vwCl (ws.set q0 (a, .inl (cA, n, .inl (aN f2)))) H := by
  intro k q hk
  by_cases z : q0 = k
  · subst z
    by_cases hl : q0 < ws.length
    · rw [List.getElem?_set_self hl] at hk
      cases hk
      show H[a]? = some (vp_cell cA (n, .inl (aN f2)))
      rw [← mv_cellE (f := aN f) (fun j hj => by unfold aN; rw [h j hj])]
      exact hP q0 _ ha
    · rw [List.getElem?_eq_none (by rw [List.length_set]; omega)] at hk
      cases hk
  · rw [List.getElem?_set_ne z] at hk
    exact hP k q hk
end MV11
theorem inQ_lt {s : Nat} (h : s < 2 ^ 31) : decide (65 ≤ s ∧ s ≤ 70) = isLt s := by
  unfold isLt
  rw [decide_eq_decide]
  omega
theorem inQ_dg {s : Nat} (h : s < 2 ^ 31) : decide (48 ≤ s ∧ s ≤ 57) = isDg s := by
  unfold isDg
  rw [decide_eq_decide]
  omega
theorem dec_subc (k c : Nat) (h : 1 ≤ k) : nI k - nI c + Int32.ofInt (-1) = nI (k - 1) - nI c := by
  have e1 : nI (k - 1) + nI 1 = nI k := by rw [nI_add]; congr 1; omega
  have e2 : nI 1 + Int32.ofInt (-1) = 0 := by decide
  rw [← e1, Int32.sub_eq_add_neg, Int32.sub_eq_add_neg, Int32.add_assoc, Int32.add_assoc, Int32.add_comm (-nI c), ← Int32.add_assoc (nI 1), e2, Int32.zero_add]
theorem eaS_0 (sh h0 : Nat) : ∀ c, eaS sh h0 0 c = (h0, 0, 0) := by
  intro c
  induction c with
  | zero => rfl
  | succ c ih =>
    rw [eaS_s, ih, if_neg (fun q => absurd q.1 (Nat.lt_irrefl 0))]
theorem barS_bit {h : Nat → Nat} : ∀ n j, j < n → (barS h n / 2 ^ j % 2 = 1 ↔ h j = 65535) := by
  intro n
  induction n with
  | zero => intro j hj; omega
  | succ n ih =>
    intro j hj
    unfold barS
    by_cases q : j = n
    · subst q
      have hl := barS_lt h j
      have h0 : barS h j / 2 ^ j % 2 = 0 := by rw [Nat.div_eq_of_lt hl]
      split
      · next z =>
        refine ⟨fun _ => z, fun _ => ?_⟩
        rw [Nat.one_mul, ← Nat.toNat_testBit, Nat.testBit_or, Nat.testBit_two_pow_self]
        simp
      · next z =>
        refine ⟨fun y => by omega, fun y => absurd y z⟩
    · split
      · have := ih j (by omega)
        rw [Nat.one_mul, ← Nat.toNat_testBit, Nat.testBit_or, Nat.testBit_two_pow_of_ne (by omega), Bool.or_false, Nat.toNat_testBit]
        exact this
      · exact ih j (by omega)
theorem brd_0 {h h2 : Nat → Nat} (hs : ∀ j, j < 6 → h2 j = 65535 → h j = 65535) : brd h h2 = 0 := by
  unfold brd
  apply Nat.eq_of_testBit_eq
  intro i
  rw [Nat.zero_testBit]
  by_cases hi : i < 6
  · rw [Nat.testBit_and, Nat.testBit_xor, show (4294967295 : Nat) = 2 ^ 32 - 1 from rfl, Nat.testBit_two_pow_sub_one]
    by_cases q : h2 i = 65535
    · have := tb_t.mpr ((barS_bit 6 i hi).mpr (hs i hi q))
      rw [this]
      simp [show i < 32 by omega]
    · have h9 : (barS h2 6).testBit i = false := by
        cases z : (barS h2 6).testBit i with
        | false => rfl
        | true => exact absurd ((barS_bit 6 i hi).mp (tb_t.mp z)) q
      rw [h9, Bool.false_and]
  · apply Nat.testBit_lt_two_pow
    exact Nat.lt_of_lt_of_le (Nat.lt_of_le_of_lt Nat.and_le_left (barS_lt h2 6)) (Nat.pow_le_pow_right (by decide) (by omega))
/-! the fault, as a walk with a wish tells it -/
theorem flt_turn {g : Nat → Nat} {cnt k wn n : Nat} {z : Option Nat} (hk : k < cnt) (hw : wn < 2) (hn : cnt < k + n) (h1 : (if wn = 0 then (isLt (g k) || isDg (g k) || decide (g k = 42 ∨ g k = 46)) else isRa (g k)) = true) (hf : (if wn = 0 then flt g cnt n k else if isRa (sgn g cnt k) then flt g cnt n (k + 1) else some k) = z) : ∃ n2, (if wn = 0 then n = n2 + 1 else n = n2) ∧ (if bN (decide (wn = 0) && isLt (g k)) = 0 then flt g cnt n2 (k + 1) else if isRa (sgn g cnt (k + 1)) then flt g cnt n2 (k + 1 + 1) else some (k + 1)) = z := by
  by_cases q : wn = 0
  · rw [if_pos q] at h1 hf
    obtain ⟨n2, rfl⟩ : ∃ n2, n = n2 + 1 := ⟨n - 1, by omega⟩
    refine ⟨n2, by rw [if_pos q], ?_⟩
    rw [flt, if_pos hk] at hf
    rw [decide_eq_true q, Bool.true_and]
    by_cases q2 : isLt (g k) = true
    · rw [if_pos q2] at hf
      rw [q2, if_neg (by decide)]
      exact hf
    · have q3 : isLt (g k) = false := by cases z : isLt (g k) <;> simp_all
      rw [if_neg q2] at hf
      rw [q3, if_pos (by decide)]
      rw [q3, Bool.false_or, Bool.or_eq_true] at h1
      rw [if_pos (by
        rcases h1 with h1 | h1
        · exact Or.inl h1
        · exact Or.inr (of_decide_eq_true h1))] at hf
      exact hf
  · rw [if_neg q] at h1 hf
    refine ⟨n, by rw [if_neg q], ?_⟩
    have hs : sgn g cnt k = g k := if_pos hk
    rw [hs, if_pos h1] at hf
    rw [decide_eq_false q, Bool.false_and, if_pos (by decide)]
    exact hf
theorem flt_stop {g : Nat → Nat} {cnt k wn n : Nat} {z : Option Nat} (hk : k < cnt) (hw : wn < 2) (hn : cnt < k + n) (h1 : (if wn = 0 then (isLt (g k) || isDg (g k) || decide (g k = 42 ∨ g k = 46)) else isRa (g k)) = false) (hf : (if wn = 0 then flt g cnt n k else if isRa (sgn g cnt k) then flt g cnt n (k + 1) else some k) = z) : z = some k := by
  by_cases q : wn = 0
  · rw [if_pos q] at h1 hf
    obtain ⟨n2, rfl⟩ : ∃ n2, n = n2 + 1 := ⟨n - 1, by omega⟩
    rw [Bool.or_eq_false_iff, Bool.or_eq_false_iff] at h1
    rw [flt, if_pos hk, if_neg (by rw [h1.1.1]; decide), if_neg (by
      rintro (y | y)
      · rw [h1.1.2] at y; cases y
      · exact of_decide_eq_false h1.2 y)] at hf
    exact hf.symm
  · rw [if_neg q] at h1 hf
    have hs : sgn g cnt k = g k := if_pos hk
    rw [hs, h1, if_neg (by decide)] at hf
    exact hf.symm
theorem flt_fin1 {g : Nat → Nat} {cnt k wn n : Nat} {z : Option Nat} (hk : k = cnt) (hw : wn ≠ 0) (hf : (if wn = 0 then flt g cnt n k else if isRa (sgn g cnt k) then flt g cnt n (k + 1) else some k) = z) : z = some cnt := by
  rw [if_neg hw, show sgn g cnt k = 0 from if_neg (by omega), if_neg (by decide)] at hf
  rw [← hf, hk]
theorem flt_fin0 {g : Nat → Nat} {cnt k wn n : Nat} {z : Option Nat} (hk : k = cnt) (hw : wn = 0) (hf : (if wn = 0 then flt g cnt n k else if isRa (sgn g cnt k) then flt g cnt n (k + 1) else some k) = z) : z = none := by
  rw [if_pos hw] at hf
  cases n with
  | zero => exact hf.symm
  | succ n =>
    rw [flt, if_neg (by omega)] at hf
    exact hf.symm
