def obn (b : Nat) (o : Option Nat) : Prop := ∀ n, o = some n → n < b
theorem oI_nn {b : Nat} {o : Option Nat} (h : obn b o) (hb : b ≤ 2 ^ 31) : oI o = -6 ↔ o = none := by
  cases o with
  | none => exact ⟨fun _ => rfl, fun _ => rfl⟩
  | some n =>
    have h1 := h n rfl
    refine ⟨fun q => ?_, fun q => by cases q⟩
    have h2 : (nI n).toInt = (-6 : Int32).toInt := congrArg Int32.toInt q
    rw [nI_toInt (by omega)] at h2
    have h3 : (-6 : Int32).toInt = -6 := by decide
    omega
/-! whose lies the holes may be: the best of the first k sets; sd: what was said there, hol: the holes -/
def okB (sd hol : Nat) (sh : Nat → Nat) (k : Nat) : Bool := decide (k &&& (sd ^^^ 4294967295) = 0 ∧ hol &&& (shpS sh k 10 ^^^ 4294967295) = 0)
def fwB (f : Option Nat) (k : Nat) : Bool := match f with
  | none => true
  | some x => decide (popc k < popc x)
def blS (sd hol : Nat) (sh : Nat → Nat) : Nat → Option Nat
  | 0 => none
  | k + 1 => if fwB (blS sd hol sh k) k = true ∧ okB sd hol sh k = true then some k else blS sd hol sh k
theorem blS_bd (sd hol : Nat) (sh : Nat → Nat) : ∀ k, obn k (blS sd hol sh k) := by
  intro k
  induction k with
  | zero => intro n hn; cases hn
  | succ k ih =>
    intro n hn
    unfold blS at hn
    split at hn
    · cases hn; omega
    · have := ih n hn
      omega
/-! sets of liars: which fit (ft), how many of the first k, those in some, in all, how many have saying s -/
def ftS (m : Nat) (si : Nat → Nat) (bs sc k : Nat) : Bool := decide (popc k ≤ m) && fitS si bs k sc
def nuS (ft : Nat → Bool) : Nat → Nat
  | 0 => 0
  | k + 1 => if ft k then nuS ft k + 1 else nuS ft k
def smS (ft : Nat → Bool) : Nat → Nat
  | 0 => 0
  | k + 1 => if ft k then smS ft k ||| k else smS ft k
def alS (ft : Nat → Bool) : Nat → Nat
  | 0 => 1023
  | k + 1 => if ft k then alS ft k &&& k else alS ft k
def cvS (ft : Nat → Bool) (s : Nat) : Nat → Nat
  | 0 => 0
  | k + 1 => if ft k then cvS ft s k + k / 2 ^ s % 2 else cvS ft s k
def cntW (cw : Nat → Nat) (S : Nat) : Nat → Nat → Nat
  | 0 => cw
  | k + 1 => uN (cntW cw S k) k (cntW cw S k k + S / 2 ^ k % 2)
theorem cntW_hi (cw : Nat → Nat) (S : Nat) : ∀ k j, k ≤ j → cntW cw S k j = cw j := by
  intro k
  induction k with
  | zero => intro _ _; rfl
  | succ k ih =>
    intro j hj
    show uN (cntW cw S k) k _ j = _
    rw [uN_n _ _ (by omega)]
    exact ih j (by omega)
theorem cntW_lo (cw : Nat → Nat) (S : Nat) : ∀ k j, j < k → cntW cw S k j = cw j + S / 2 ^ j % 2 := by
  intro k
  induction k with
  | zero => intro _ h; omega
  | succ k ih =>
    intro j hj
    show uN (cntW cw S k) k _ j = _
    by_cases e : j = k
    · subst e
      rw [uN_s, cntW_hi cw S j j (Nat.le_refl _)]
    · rw [uN_n _ _ e]
      exact ih j (by omega)
theorem nuS_le (ft : Nat → Bool) : ∀ k, nuS ft k ≤ k := by
  intro k
  induction k with
  | zero => exact Nat.le_refl _
  | succ k ih => unfold nuS; split <;> omega
theorem cvS_le (ft : Nat → Bool) (s : Nat) : ∀ k, cvS ft s k ≤ nuS ft k := by
  intro k
  induction k with
  | zero => exact Nat.le_refl _
  | succ k ih =>
    have : k / 2 ^ s % 2 < 2 := Nat.mod_lt _ (by decide)
    unfold cvS nuS
    split <;> omega
def tryS (ml : Nat → Nat) : Nat → Nat
  | 0 => 0
  | k + 1 => if ml (k + 1) < ml (tryS ml k) then k + 1 else tryS ml k
theorem tryS_le (ml : Nat → Nat) : ∀ k, tryS ml k ≤ k := by
  intro k
  induction k with
  | zero => exact Nat.le_refl _
  | succ k ih => unfold tryS; split <;> omega
def mlS (cw : Nat → Nat) (n s : Nat) : Nat := mxN (cw s) (n - cw s)
/-! lengths: how many whole cells end at cell c; the table, by cells from the left -/
def runS (hol : Nat) : Nat → Nat
  | 0 => 0
  | c + 1 => if hol / 2 ^ c % 2 = 0 then runS hol c + 1 else 0
theorem runS_le (hol : Nat) : ∀ c, runS hol c ≤ c := by
  intro c
  induction c with
  | zero => exact Nat.le_refl _
  | succ c ih => unfold runS; split <;> omega
def twS (hol m v e : Nat) (t : Nat → Nat) : Nat → Nat := if m ≤ runS hol e then uN t e (mxN (t e) (t (e - m) + v)) else t
def tbS (hol m v n w : Nat) (g : Nat → Nat) : Nat → Nat → Nat
  | 0 => uN g 0 0
  | c + 1 => twS hol n w (c + 1) (twS hol m v (c + 1) (uN (tbS hol m v n w g c) (c + 1) (tbS hol m v n w g c c)))
theorem uN_le {g : Nat → Nat} {k v b : Nat} (h : ∀ j, g j ≤ b) (hv : v ≤ b) : ∀ j, uN g k v j ≤ b := fun j => by
  unfold uN
  split
  · exact hv
  · exact h j
theorem twS_hi {hol m v e j : Nat} {t : Nat → Nat} (h : j ≠ e) : twS hol m v e t j = t j := by
  unfold twS
  split
  · exact uN_n _ _ h
  · rfl
theorem tbS_bd {hol m v n w : Nat} {g : Nat → Nat} (hv : v ≤ 99) (hw : w ≤ 99) (hm : 1 ≤ m) (hn : 1 ≤ n) : ∀ c, c ≤ 16 → ∀ j, j ≤ c → tbS hol m v n w g c j ≤ 99 * j := by
  intro c
  induction c with
  | zero =>
    intro _ j hj
    rw [show j = 0 by omega]
    exact Nat.le_of_eq (uN_s g 0 0)
  | succ c ih =>
    intro hc j hj
    have ih := ih (by omega)
    show twS hol n w (c + 1) (twS hol m v (c + 1) (uN (tbS hol m v n w g c) (c + 1) (tbS hol m v n w g c c))) j ≤ _
    by_cases e : j = c + 1
    · subst e
      have h1 := ih c (Nat.le_refl _)
      have a1 : twS hol m v (c + 1) (uN (tbS hol m v n w g c) (c + 1) (tbS hol m v n w g c c)) (c + 1) ≤ 99 * (c + 1) := by
        unfold twS
        split
        · next q =>
          have := runS_le hol (c + 1)
          rw [uN_s, uN_s, uN_n _ _ (by omega)]
          have := ih (c + 1 - m) (by omega)
          unfold mxN
          split <;> omega
        · rw [uN_s]; omega
      have a2 : ∀ i, i ≤ c → twS hol m v (c + 1) (uN (tbS hol m v n w g c) (c + 1) (tbS hol m v n w g c c)) i ≤ 99 * i := fun i hi => by
        rw [twS_hi (by omega), uN_n _ _ (by omega)]
        exact ih i hi
      generalize twS hol m v (c + 1) (uN (tbS hol m v n w g c) (c + 1) (tbS hol m v n w g c c)) = t at a1 a2
      unfold twS
      split
      · next q =>
        have := runS_le hol (c + 1)
        have := a2 (c + 1 - n) (by omega)
        rw [uN_s]
        unfold mxN
        split <;> omega
      · exact a1
    · rw [twS_hi e, twS_hi e, uN_n _ _ e]
      exact ih j (by omega)
/-! darning: what a set of holes is worth; the least winning move -/
def nimS (hol : Nat) : Nat → Nat × Nat
  | 0 => (0, 0)
  | c + 1 => if hol / 2 ^ c % 2 = 1 then ((nimS hol c).1, (nimS hol c).2 + 1) else ((nimS hol c).1 ^^^ mv_nimL.getD (nimS hol c).2 0, 0)
def nimV (hol : Nat) : Nat := (nimS hol 16).1 ^^^ mv_nimL.getD (nimS hol 16).2 0
def wdS (hol : Nat) : Nat → Nat → Option Nat
  | 0, _ => none
  | n + 1, k => if hol / 2 ^ k % 2 = 1 ∧ nimV (hol &&& (1 * 2 ^ k ^^^ 4294967295)) = 0 then some (2 * k) else if hol &&& 3 * 2 ^ k = 3 * 2 ^ k ∧ nimV (hol &&& (3 * 2 ^ k ^^^ 4294967295)) = 0 then some (2 * k + 1) else wdS hol n (k + 1)
theorem nimL_lt (k : Nat) : mv_nimL.getD k 0 < 8 := by
  rcases Nat.lt_or_ge k 17 with h | h
  · exact (by decide : ∀ j, j < 17 → mv_nimL.getD j 0 < 8) k h
  · rw [List.getD_eq_getElem?_getD, List.getElem?_eq_none (show mv_nimL.length ≤ k from h)]
    decide
theorem nimS_bd (hol : Nat) : ∀ c, (nimS hol c).1 < 8 ∧ (nimS hol c).2 ≤ c := by
  intro c
  induction c with
  | zero => exact ⟨(by decide : (0 : Nat) < 8), Nat.le_refl _⟩
  | succ c ih =>
    unfold nimS
    split
    · exact ⟨ih.1, by dsimp only; omega⟩
    · exact ⟨Nat.xor_lt_two_pow (n := 3) ih.1 (nimL_lt _), Nat.zero_le _⟩
theorem nimV_lt (hol : Nat) : nimV hol < 8 := Nat.xor_lt_two_pow (n := 3) (nimS_bd hol 16).1 (nimL_lt _)
theorem tb_f {a k : Nat} : a.testBit k = false ↔ a / 2 ^ k % 2 = 0 := by
  rw [← Nat.toNat_testBit]
  cases a.testBit k <;> simp
theorem tb_t {a k : Nat} : a.testBit k = true ↔ a / 2 ^ k % 2 = 1 := by
  rw [← Nat.toNat_testBit]
  cases a.testBit k <;> simp
theorem bit_and1 {a k : Nat} : a &&& 1 * 2 ^ k = 0 ↔ a / 2 ^ k % 2 = 0 := by
  rw [Nat.one_mul, ← tb_f]
  constructor
  · intro h
    have h2 := congrArg (fun z => z.testBit k) h
    simpa [Nat.testBit_and, Nat.testBit_two_pow_self] using h2
  · intro h
    apply Nat.eq_of_testBit_eq
    intro j
    rw [Nat.testBit_and, Nat.testBit_two_pow, Nat.zero_testBit]
    by_cases e : k = j
    · subst e
      rw [h]
      rfl
    · simp [e]
