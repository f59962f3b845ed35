/-! the least member of a set of bits, from place k on, n places -/
def lsF (s : Nat) : Nat → Nat → Option Nat
  | 0, _ => none
  | n + 1, k => if s / 2 ^ k % 2 = 1 then some k else lsF s n (k + 1)
/-! what an act is, by its place on the pad -/
def kdA (g : Nat → Nat) (cnt k : Nat) : Nat := if isLt (sgn g cnt k) then sgn g cnt (k + 1) else if isDg (sgn g cnt k) then 48 else sgn g cnt k
def sbA (g : Nat → Nat) (cnt k : Nat) : Nat := if isLt (sgn g cnt k) then sgn g cnt k - 65 else if isDg (sgn g cnt k) then sgn g cnt k - 48 else 0
/-! why an act can not be -/
def rsnR (h ca : Nat → Nat) (prs kd r : Nat) : Option Nat :=
  if kd = 60 then (if prs / 2 ^ r % 2 = 1 then some 1 else none) else if kd = 62 then (if prs / 2 ^ r % 2 = 1 then none else some 1) else if prs / 2 ^ r % 2 = 1 then some 2 else if kd = 43 then (if 9 ≤ ca r then some 3 else none) else if h r = 0 then some 3 else none
def rsn (h ca : Nat → Nat) (prs yrs : Nat) (un : Nat → Nat) (kd sb : Nat) : Option Nat :=
  if isRa kd then rsnR h ca prs kd sb else if kd = 48 then (if un sb = 0 then some 4 else none) else if kd = 42 then (if prs = 0 then some 5 else none) else if 99 ≤ yrs then some 6 else none
/-! what it does -/
def dP (kd r prs : Nat) : Nat := if kd = 60 then prs ||| 1 * 2 ^ r else if kd = 62 then prs &&& (1 * 2 ^ r ^^^ 4294967295) else prs
def dC (kd r : Nat) (ca : Nat → Nat) : Nat → Nat := if kd = 60 then ca else if kd = 62 then ca else if kd = 43 then uN ca r (ca r + 1) else ca
def dH (kd r : Nat) (h : Nat → Nat) : Nat → Nat := if kd = 60 then h else if kd = 62 then h else if kd = 43 then h else uN h r (h r &&& (h r - 1))
/-- cells are eaten, the least first: of the first c cells, n at most: holes, how many may still be eaten, how many were -/
def eaS (sh h0 n : Nat) : Nat → Nat × Nat × Nat
  | 0 => (h0, n, 0)
  | c + 1 => if 0 < (eaS sh h0 n c).2.1 ∧ (sh &&& ((eaS sh h0 n c).1 ^^^ 4294967295)) / 2 ^ c % 2 = 1 then ((eaS sh h0 n c).1 ||| 1 * 2 ^ c, (eaS sh h0 n c).2.1 - 1, (eaS sh h0 n c).2.2 + 1) else eaS sh h0 n c
def eaH (sh h n : Nat) : Nat := (eaS sh h n 16).1
def eaE (sh h n : Nat) : Nat := (eaS sh h n 16).2.2
/-- moths, by the first s sayings: holes, and how many cells were eaten -/
def moS (ro sh un ca : Nat → Nat) (prs : Nat) (h0 : Nat → Nat) (e0 : Nat) : Nat → (Nat → Nat) × Nat
  | 0 => (h0, e0)
  | s + 1 => if prs / 2 ^ ro s % 2 = 1 then (uN (moS ro sh un ca prs h0 e0 s).1 (ro s) (eaH (sh s) ((moS ro sh un ca prs h0 e0 s).1 (ro s)) (un s - ca (ro s))), (moS ro sh un ca prs h0 e0 s).2 + eaE (sh s) ((moS ro sh un ca prs h0 e0 s).1 (ro s)) (un s - ca (ro s))) else moS ro sh un ca prs h0 e0 s
def brd (h h2 : Nat → Nat) : Nat := barS h2 6 &&& (barS h 6 ^^^ 4294967295)
def moA (h h2 : Nat → Nat) (acts : Nat) (bA : Option Nat) : Option Nat := if brd h h2 ≠ 0 ∧ bA = none then some acts else bA
def moR (h h2 : Nat → Nat) (bA bR : Option Nat) : Option Nat := if brd h h2 ≠ 0 ∧ bA = none then lsF (brd h h2) 32 0 else bR
/-- a year ends: camphor, of the first k robes -/
def yeC (ca : Nat → Nat) : Nat → Nat → Nat
  | 0 => ca
  | k + 1 => uN (yeC ca k) k (yeC ca k k - 1)
/-! a state: holes, camphor, press, years, untruth, cells eaten, the act that bared, the robe -/
abbrev mvT : Type := (Nat → Nat) × (Nat → Nat) × Nat × Nat × (Nat → Nat) × Nat × Option Nat × Option Nat
def actT (ro sh : Nat → Nat) (a : Nat) (t : mvT) (kd sb : Nat) : mvT :=
  if isRa kd then (dH kd sb t.1, dC kd sb t.2.1, dP kd sb t.2.2.1, t.2.2.2.1, t.2.2.2.2.1, t.2.2.2.2.2.1, t.2.2.2.2.2.2.1, t.2.2.2.2.2.2.2)
  else if kd = 48 then (t.1, t.2.1, t.2.2.1, t.2.2.2.1, uN t.2.2.2.2.1 sb 0, t.2.2.2.2.2.1, t.2.2.2.2.2.2.1, t.2.2.2.2.2.2.2)
  else if kd = 42 then ((moS ro sh t.2.2.2.2.1 t.2.1 t.2.2.1 t.1 t.2.2.2.2.2.1 10).1, t.2.1, t.2.2.1, t.2.2.2.1, t.2.2.2.2.1, (moS ro sh t.2.2.2.2.1 t.2.1 t.2.2.1 t.1 t.2.2.2.2.2.1 10).2, moA t.1 (moS ro sh t.2.2.2.2.1 t.2.1 t.2.2.1 t.1 t.2.2.2.2.2.1 10).1 a t.2.2.2.2.2.2.1, moR t.1 (moS ro sh t.2.2.2.2.1 t.2.1 t.2.2.1 t.1 t.2.2.2.2.2.1 10).1 t.2.2.2.2.2.2.1 t.2.2.2.2.2.2.2)
  else (t.1, yeC t.2.1 6, t.2.2.1, t.2.2.2.1 + 1, t.2.2.2.2.1, t.2.2.2.2.2.1, t.2.2.2.2.2.2.1, t.2.2.2.2.2.2.2)
abbrev rsT (t : mvT) (kd sb : Nat) : Option Nat := rsn t.1 t.2.1 t.2.2.1 t.2.2.2.1 t.2.2.2.2.1 kd sb
/-- what holds of every state -/
def okT (t : mvT) : Prop := (∀ k, k < 6 → t.1 k < 65536) ∧ (∀ k, k < 6 → t.2.1 k ≤ 9) ∧ t.2.2.1 < 64 ∧ t.2.2.2.1 ≤ 99 ∧ (∀ k, k < 10 → t.2.2.2.2.1 k ≤ 9)
/-! numbers -/
theorem lowE : ∀ (n W : Nat), W < 2 ^ n → W ≠ 0 → ∃ k, k < n ∧ W % 2 ^ k = 0 ∧ W / 2 ^ k % 2 = 1 := by
  intro n
  induction n with
  | zero => intro W h h0; exact absurd (by have : (2 : Nat) ^ 0 = 1 := rfl; omega) h0
  | succ n ih =>
    intro W h h0
    rcases Nat.mod_two_eq_zero_or_one W with h2 | h2
    · have hp : (2 : Nat) ^ (n + 1) = 2 ^ n * 2 := Nat.pow_succ ..
      obtain ⟨k, hk, h3, h4⟩ := ih (W / 2) (by omega) (by omega)
      refine ⟨k + 1, by omega, ?_, ?_⟩
      · have e : W = 2 * (W / 2) := by omega
        rw [e, Nat.pow_succ, Nat.mul_comm (2 ^ k) 2, Nat.mul_mod_mul_left, h3]
      · rw [Nat.pow_succ, Nat.mul_comm (2 ^ k) 2, ← Nat.div_div_eq_div_mul]
        exact h4
    · exact ⟨0, by omega, by simp [Nat.mod_one], by simpa using h2⟩
theorem and_compl {n q : Nat} (h : q < 2 ^ n) : q &&& (2 ^ n - (q + 1)) = 0 := by
  apply Nat.eq_of_testBit_eq
  intro i
  rw [Nat.testBit_and, Nat.testBit_two_pow_sub_succ h, Nat.zero_testBit]
  cases q.testBit i <;> simp
theorem and_odd (q t : Nat) : (2 * q + 1) &&& (2 * t + 1) = 2 * (q &&& t) + 1 := by
  have h1 : ((2 * q + 1) &&& (2 * t + 1)) % 2 = 1 := by rw [Nat.and_mod_two_eq_one]; omega
  have h2 : ((2 * q + 1) &&& (2 * t + 1)) / 2 = q &&& t := by
    rw [Nat.and_div_two]
    congr 1 <;> omega
  omega
theorem xor_odd (q : Nat) : (2 * q + 1) ^^^ 1 = 2 * q := by
  have h2 : ((2 * q + 1) ^^^ 1) / 2 = q := by
    rw [Nat.xor_div_two]
    have : (2 * q + 1) / 2 = q := by omega
    rw [this]
    simp
  have h1 : ((2 * q + 1) ^^^ 1) % 2 = 0 := by
    rw [show ((2 * q + 1) ^^^ 1) % 2 = ((2 * q + 1) ^^^ 1) % 2 ^ 1 from rfl, Nat.xor_mod_two_pow, show (2 * q + 1) % 2 ^ 1 = 1 by omega]
    rfl
  omega
theorem mul2_and (k a b : Nat) : (2 ^ k * a) &&& (2 ^ k * b) = 2 ^ k * (a &&& b) := by
  have := @Nat.shiftLeft_and_distrib k a b
  simp only [Nat.shiftLeft_eq] at this
  rw [Nat.mul_comm, Nat.mul_comm (2 ^ k) b, ← this, Nat.mul_comm]
theorem mul2_xor (k a b : Nat) : (2 ^ k * a) ^^^ (2 ^ k * b) = 2 ^ k * (a ^^^ b) := by
  have := @Nat.shiftLeft_xor_distrib k a b
  simp only [Nat.shiftLeft_eq] at this
  rw [Nat.mul_comm, Nat.mul_comm (2 ^ k) b, ← this, Nat.mul_comm]
/-- the lowest bit, and what is left without it -/
theorem low_bit {k W : Nat} (hk : k < 31) (hW : W < 2 ^ 31) (h0 : W % 2 ^ k = 0) (h1 : W / 2 ^ k % 2 = 1) : W &&& (4294967296 - W) = 2 ^ k ∧ W ^^^ 2 ^ k = W / 2 ^ (k + 1) * 2 ^ (k + 1) := by
  have hp : 0 < 2 ^ k := Nat.two_pow_pos k
  obtain ⟨q, hq⟩ : ∃ q, W / 2 ^ k = 2 * q + 1 := ⟨W / 2 ^ k / 2, by omega⟩
  have eW : W = 2 ^ k * (2 * q + 1) := by
    have := Nat.div_add_mod W (2 ^ k)
    rw [h0, hq] at this
    omega
  have e2 : (2 : Nat) ^ 31 = 2 ^ k * 2 ^ (31 - k) := by rw [← Nat.pow_add]; congr 1; omega
  have hq2 : 2 * q + 1 < 2 ^ (31 - k) := by
    rw [eW, e2] at hW
    exact Nat.lt_of_mul_lt_mul_left hW
  have hq3 : q < 2 ^ (31 - k) := by omega
  constructor
  · have e3 : 4294967296 - W = 2 ^ k * (2 * (2 ^ (31 - k) - (q + 1)) + 1) := by
      have e4 : (4294967296 : Nat) = 2 ^ k * (2 * 2 ^ (31 - k)) := by
        rw [Nat.mul_left_comm, ← e2]
      rw [e4, eW, ← Nat.mul_sub]
      congr 1
      omega
    rw [e3, eW, mul2_and, and_odd, and_compl hq3]
    simp
  · have e5 : W / 2 ^ (k + 1) = q := by
      rw [Nat.pow_succ, ← Nat.div_div_eq_div_mul, hq]
      omega
    rw [e5, eW]
    have := mul2_xor k (2 * q + 1) 1
    rw [Nat.mul_one] at this
    rw [this, xor_odd, Nat.pow_succ, Nat.mul_comm q, Nat.mul_assoc]
theorem eaS_s (sh h0 n c : Nat) : eaS sh h0 n (c + 1) = if 0 < (eaS sh h0 n c).2.1 ∧ (sh &&& ((eaS sh h0 n c).1 ^^^ 4294967295)) / 2 ^ c % 2 = 1 then ((eaS sh h0 n c).1 ||| 1 * 2 ^ c, (eaS sh h0 n c).2.1 - 1, (eaS sh h0 n c).2.2 + 1) else eaS sh h0 n c := rfl
/-! eating, least first, and eating by scanning, are one -/
theorem eaS_bd {sh h0 n : Nat} (c : Nat) (hh : h0 < 65536) (hc : c ≤ 16) : (eaS sh h0 n c).1 < 65536 ∧ (eaS sh h0 n c).2.1 ≤ n ∧ (eaS sh h0 n c).2.2 ≤ c ∧ (eaS sh h0 n c).2.1 + (eaS sh h0 n c).2.2 = n := by
  induction c with
  | zero => exact ⟨hh, Nat.le_refl _, Nat.le_refl _, rfl⟩
  | succ c ih =>
    obtain ⟨h1, h2, h3, h4⟩ := ih (by omega)
    unfold eaS
    split
    · next hq =>
      refine ⟨or_lt (k := 16) _ _ h1 (p2_lt (by omega)), ?_, ?_, ?_⟩ <;> dsimp only <;> omega
    · exact ⟨h1, h2, by omega, h4⟩
/-- a cell that is not yet reached is as it was -/
theorem eaS_hi {sh h0 n : Nat} : ∀ (c j : Nat), c ≤ j → (eaS sh h0 n c).1 / 2 ^ j % 2 = h0 / 2 ^ j % 2 := by
  intro c
  induction c with
  | zero => intro j _; rfl
  | succ c ih =>
    intro j hj
    unfold eaS
    split
    · show ((eaS sh h0 n c).1 ||| 1 * 2 ^ c) / 2 ^ j % 2 = _
      have e1 := Nat.toNat_testBit ((eaS sh h0 n c).1 ||| 1 * 2 ^ c) j
      have e2 := Nat.toNat_testBit (eaS sh h0 n c).1 j
      have h9 : ((eaS sh h0 n c).1 ||| 1 * 2 ^ c).testBit j = (eaS sh h0 n c).1.testBit j := by
        rw [Nat.one_mul, Nat.testBit_or, Nat.testBit_two_pow_of_ne (by omega)]
        simp
      rw [← e1, h9, e2]
      exact ih j (by omega)
    · exact ih j (by omega)
theorem bit_nand {a b j : Nat} (hj : j < 32) : (a &&& (b ^^^ 4294967295)) / 2 ^ j % 2 = 1 ↔ (a / 2 ^ j % 2 = 1 ∧ b / 2 ^ j % 2 = 0) := by
  rw [← Nat.toNat_testBit, ← Nat.toNat_testBit, ← Nat.toNat_testBit, Nat.testBit_and, Nat.testBit_xor, show (4294967295 : Nat) = 2 ^ 32 - 1 from rfl, Nat.testBit_two_pow_sub_one]
  cases a.testBit j <;> cases b.testBit j <;> simp [hj]
/-- where nothing is to be eaten, or no more may be, scanning on changes nothing -/
theorem eaS_skip {sh h0 n c : Nat} : ∀ d, c + d ≤ 16 → ((eaS sh h0 n c).2.1 = 0 ∨ ∀ j, c ≤ j → j < c + d → (sh &&& (h0 ^^^ 4294967295)) / 2 ^ j % 2 = 0) → eaS sh h0 n (c + d) = eaS sh h0 n c := by
  intro d
  induction d with
  | zero => intro _ _; rfl
  | succ d ih =>
    intro hd h
    have e := ih (by omega) (h.imp id fun q j h1 h2 => q j h1 (by omega))
    rw [show c + (d + 1) = (c + d) + 1 from rfl, eaS_s, if_neg]
    · exact e
    · rintro ⟨q1, q2⟩
      rcases h with h | h
      · rw [e] at q1; omega
      · have h3 := h (c + d) (by omega) (by omega)
        rw [bit_nand (by omega)] at q2
        rw [eaS_hi (c + d) (c + d) (Nat.le_refl _)] at q2
        have := (bit_nand (by omega : c + d < 32)).mpr q2
        omega
theorem eaS_step {sh h0 n c : Nat} (hc : c < 16) (h1 : 0 < (eaS sh h0 n c).2.1) (h2 : (sh &&& (h0 ^^^ 4294967295)) / 2 ^ c % 2 = 1) : eaS sh h0 n (c + 1) = ((eaS sh h0 n c).1 ||| 2 ^ c, (eaS sh h0 n c).2.1 - 1, (eaS sh h0 n c).2.2 + 1) := by
  rw [bit_nand (by omega)] at h2
  have h3 : (sh &&& ((eaS sh h0 n c).1 ^^^ 4294967295)) / 2 ^ c % 2 = 1 := by
    rw [bit_nand (by omega), eaS_hi c c (Nat.le_refl _)]
    exact h2
  rw [eaS_s, if_pos ⟨h1, h3⟩, Nat.one_mul]
