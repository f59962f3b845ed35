/-! the pad: signs g, of which cnt stand there -/
def sgn (g : Nat → Nat) (cnt k : Nat) : Nat := if k < cnt then g k else 0
def isLt (s : Nat) : Bool := decide (65 ≤ s ∧ s < 71)
def isDg (s : Nat) : Bool := decide (48 ≤ s ∧ s < 58)
def isRa (s : Nat) : Bool := decide (s = 60 ∨ s = 62 ∨ s = 43 ∨ s = 47)
/-- the first fault from place k on, n steps at most -/
def flt (g : Nat → Nat) (cnt : Nat) : Nat → Nat → Option Nat
  | 0, _ => none
  | n + 1, k => if k < cnt then (if isLt (g k) then (if isRa (sgn g cnt (k + 1)) then flt g cnt n (k + 2) else some (k + 1)) else if isDg (g k) ∨ g k = 42 ∨ g k = 46 then flt g cnt n (k + 1) else some k) else none
theorem bN_lt (b : Bool) : bN b < 2 := by cases b <;> decide
theorem bN_t {b : Bool} (h : b = true) : bN b = 1 := by rw [h]; rfl
theorem bN_f {b : Bool} (h : b = false) : bN b = 0 := by rw [h]; rfl
theorem bN_1 {b : Bool} : bN b ≠ 0 ↔ b = true := by cases b <;> decide
theorem bN_0 {b : Bool} : bN b = 0 ↔ b = false := by cases b <;> decide
theorem bN_dt {p : Prop} {i : Decidable p} (h : p) : nI 1 = nI (bN (@decide p i)) := by
  rw [bN_t (decide_eq_true h)]
theorem bN_df {p : Prop} {i : Decidable p} (h : ¬ p) : nI 0 = nI (bN (@decide p i)) := by
  rw [bN_f (decide_eq_false h)]
/-! how many of the first k bits of n are set; of sixteen -/
def pcN : Nat → Nat → Nat
  | 0, _ => 0
  | k + 1, n => pcN k n + n / 2 ^ k % 2
def popc (n : Nat) : Nat := pcN 16 n
theorem pcN_le (k n : Nat) : pcN k n ≤ k := by
  induction k with
  | zero => exact Nat.le_refl _
  | succ k ih =>
    have : n / 2 ^ k % 2 < 2 := Nat.mod_lt _ (by decide)
    unfold pcN
    omega
theorem popc_le (n : Nat) : popc n ≤ 16 := pcN_le 16 n
/-- the machine's way to count bits -/
def bc1 (n : Nat) : Nat := n - (n / 2 ^ 1 &&& 1431655765)
def bc2 (n : Nat) : Nat := (n &&& 858993459) + (n / 2 ^ 2 &&& 858993459)
def bc3 (n : Nat) : Nat := n + n / 2 ^ 4 &&& 252645135
def bc4 (n : Nat) : Nat := n + n / 2 ^ 8
def bc5 (n : Nat) : Nat := (n + n / 2 ^ 16) % 64
def popd (n : Nat) : Nat := n % 2 + n / 2 % 2 + n / 4 % 2 + n / 8 % 2 + n / 16 % 2 + n / 32 % 2 + n / 64 % 2 + n / 128 % 2 + n / 256 % 2 + n / 512 % 2 + n / 1024 % 2 + n / 2048 % 2 + n / 4096 % 2 + n / 8192 % 2 + n / 16384 % 2 + n / 32768 % 2
theorem popd_eq (n : Nat) : popd n = popc n := by
  simp only [popd, popc, pcN, Nat.reducePow, Nat.div_one, Nat.zero_add]
theorem bc_c0 : ∀ a, a < 16 → ∀ b, b < 256 → bc5 (bc4 (bc3 (bc2 (bc1 (0 + (256 * a + b)))))) = popd (0 + (256 * a + b)) := by decide +kernel
theorem bc_c1 : ∀ a, a < 16 → ∀ b, b < 256 → bc5 (bc4 (bc3 (bc2 (bc1 (4096 + (256 * a + b)))))) = popd (4096 + (256 * a + b)) := by decide +kernel
theorem bc_c2 : ∀ a, a < 16 → ∀ b, b < 256 → bc5 (bc4 (bc3 (bc2 (bc1 (8192 + (256 * a + b)))))) = popd (8192 + (256 * a + b)) := by decide +kernel
theorem bc_c3 : ∀ a, a < 16 → ∀ b, b < 256 → bc5 (bc4 (bc3 (bc2 (bc1 (12288 + (256 * a + b)))))) = popd (12288 + (256 * a + b)) := by decide +kernel
theorem bc_c4 : ∀ a, a < 16 → ∀ b, b < 256 → bc5 (bc4 (bc3 (bc2 (bc1 (16384 + (256 * a + b)))))) = popd (16384 + (256 * a + b)) := by decide +kernel
theorem bc_c5 : ∀ a, a < 16 → ∀ b, b < 256 → bc5 (bc4 (bc3 (bc2 (bc1 (20480 + (256 * a + b)))))) = popd (20480 + (256 * a + b)) := by decide +kernel
theorem bc_c6 : ∀ a, a < 16 → ∀ b, b < 256 → bc5 (bc4 (bc3 (bc2 (bc1 (24576 + (256 * a + b)))))) = popd (24576 + (256 * a + b)) := by decide +kernel
theorem bc_c7 : ∀ a, a < 16 → ∀ b, b < 256 → bc5 (bc4 (bc3 (bc2 (bc1 (28672 + (256 * a + b)))))) = popd (28672 + (256 * a + b)) := by decide +kernel
theorem bc_c8 : ∀ a, a < 16 → ∀ b, b < 256 → bc5 (bc4 (bc3 (bc2 (bc1 (32768 + (256 * a + b)))))) = popd (32768 + (256 * a + b)) := by decide +kernel
theorem bc_c9 : ∀ a, a < 16 → ∀ b, b < 256 → bc5 (bc4 (bc3 (bc2 (bc1 (36864 + (256 * a + b)))))) = popd (36864 + (256 * a + b)) := by decide +kernel
theorem bc_c10 : ∀ a, a < 16 → ∀ b, b < 256 → bc5 (bc4 (bc3 (bc2 (bc1 (40960 + (256 * a + b)))))) = popd (40960 + (256 * a + b)) := by decide +kernel
theorem bc_c11 : ∀ a, a < 16 → ∀ b, b < 256 → bc5 (bc4 (bc3 (bc2 (bc1 (45056 + (256 * a + b)))))) = popd (45056 + (256 * a + b)) := by decide +kernel
theorem bc_c12 : ∀ a, a < 16 → ∀ b, b < 256 → bc5 (bc4 (bc3 (bc2 (bc1 (49152 + (256 * a + b)))))) = popd (49152 + (256 * a + b)) := by decide +kernel
theorem bc_c13 : ∀ a, a < 16 → ∀ b, b < 256 → bc5 (bc4 (bc3 (bc2 (bc1 (53248 + (256 * a + b)))))) = popd (53248 + (256 * a + b)) := by decide +kernel
theorem bc_c14 : ∀ a, a < 16 → ∀ b, b < 256 → bc5 (bc4 (bc3 (bc2 (bc1 (57344 + (256 * a + b)))))) = popd (57344 + (256 * a + b)) := by decide +kernel
theorem bc_c15 : ∀ a, a < 16 → ∀ b, b < 256 → bc5 (bc4 (bc3 (bc2 (bc1 (61440 + (256 * a + b)))))) = popd (61440 + (256 * a + b)) := by decide +kernel
theorem bc_all (n : Nat) (h : n < 65536) : bc5 (bc4 (bc3 (bc2 (bc1 n)))) = popd n := by
  have e : n = 4096 * (n / 4096) + (256 * (n % 4096 / 256) + n % 256) := by omega
  have ha : n % 4096 / 256 < 16 := by omega
  have hb : n % 256 < 256 := Nat.mod_lt _ (by decide)
  have hk : n / 4096 < 16 := by omega
  rw [e]
  generalize n % 4096 / 256 = a at ha
  generalize n % 256 = b at hb
  generalize n / 4096 = k at hk
  rcases (show k = 0 ∨ k = 1 ∨ k = 2 ∨ k = 3 ∨ k = 4 ∨ k = 5 ∨ k = 6 ∨ k = 7 ∨ k = 8 ∨ k = 9 ∨ k = 10 ∨ k = 11 ∨ k = 12 ∨ k = 13 ∨ k = 14 ∨ k = 15 by omega) with rfl | rfl | rfl | rfl | rfl | rfl | rfl | rfl | rfl | rfl | rfl | rfl | rfl | rfl | rfl | rfl
  · exact bc_c0 a ha b hb
  · exact bc_c1 a ha b hb
  · exact bc_c2 a ha b hb
  · exact bc_c3 a ha b hb
  · exact bc_c4 a ha b hb
  · exact bc_c5 a ha b hb
  · exact bc_c6 a ha b hb
  · exact bc_c7 a ha b hb
  · exact bc_c8 a ha b hb
  · exact bc_c9 a ha b hb
  · exact bc_c10 a ha b hb
  · exact bc_c11 a ha b hb
  · exact bc_c12 a ha b hb
  · exact bc_c13 a ha b hb
  · exact bc_c14 a ha b hb
  · exact bc_c15 a ha b hb
theorem bc_ok {n : Nat} (h : n < 65536) : bc5 (bc4 (bc3 (bc2 (bc1 n)))) = popc n := (bc_all n h).trans (popd_eq n)
theorem and_lt31 (a : Nat) {b : Nat} (h : b < 2 ^ 31) : a &&& b < 2 ^ 31 := Nat.lt_of_le_of_lt Nat.and_le_right h
theorem or_lt (a b : Nat) {k : Nat} (ha : a < 2 ^ k) (hb : b < 2 ^ k) : a ||| b < 2 ^ k := Nat.or_lt_two_pow ha hb
theorem p2_lt {k n : Nat} (h : k < n) : 1 * 2 ^ k < 2 ^ n := by rw [Nat.one_mul]; exact Nat.pow_lt_pow_right (by decide) h
/-! of a wardrobe -/
def whC (h : Nat → Nat) : Nat → Nat
  | 0 => 0
  | k + 1 => whC h k + (16 - popc (h k))
def barS (h : Nat → Nat) : Nat → Nat
  | 0 => 0
  | k + 1 => if h k = 65535 then barS h k ||| 1 * 2 ^ k else barS h k
def flsS (u : Nat → Nat) : Nat → Nat
  | 0 => 0
  | k + 1 => if 0 < u k then flsS u k ||| 1 * 2 ^ k else flsS u k
def sinS (ro : Nat → Nat) (r : Nat) : Nat → Nat
  | 0 => 0
  | k + 1 => if ro k = r then sinS ro r k ||| 1 * 2 ^ k else sinS ro r k
def shpS (sh : Nat → Nat) (S : Nat) : Nat → Nat
  | 0 => 0
  | k + 1 => if S / 2 ^ k % 2 = 1 then shpS sh S k ||| sh k else shpS sh S k
def fitS (si : Nat → Nat) (bs S : Nat) : Nat → Bool
  | 0 => true
  | k + 1 => fitS si bs S k && decide ((si k &&& S ≠ 0) ↔ bs / 2 ^ k % 2 = 1)
theorem whC_le (h : Nat → Nat) (k : Nat) : whC h k ≤ 16 * k := by
  induction k with
  | zero => exact Nat.le_refl _
  | succ k ih => unfold whC; omega
theorem barS_lt (h : Nat → Nat) (k : Nat) : barS h k < 2 ^ k := by
  induction k with
  | zero => exact (by decide : (0 : Nat) < 2 ^ 0)
  | succ k ih =>
    have h2 : 2 ^ k < 2 ^ (k + 1) := Nat.pow_lt_pow_right (by decide) (by omega)
    unfold barS
    split
    · exact or_lt _ _ (by omega) (by omega)
    · omega
theorem flsS_lt (h : Nat → Nat) (k : Nat) : flsS h k < 2 ^ k := by
  induction k with
  | zero => exact (by decide : (0 : Nat) < 2 ^ 0)
  | succ k ih =>
    have h2 : 2 ^ k < 2 ^ (k + 1) := Nat.pow_lt_pow_right (by decide) (by omega)
    unfold flsS
    split
    · exact or_lt _ _ (by omega) (by omega)
    · omega
theorem sinS_lt (ro : Nat → Nat) (r k : Nat) : sinS ro r k < 2 ^ k := by
  induction k with
  | zero => exact (by decide : (0 : Nat) < 2 ^ 0)
  | succ k ih =>
    have h2 : 2 ^ k < 2 ^ (k + 1) := Nat.pow_lt_pow_right (by decide) (by omega)
    unfold sinS
    split
    · exact or_lt _ _ (by omega) (by omega)
    · omega
theorem shpS_lt {sh : Nat → Nat} (S k : Nat) (h : ∀ j, j < k → sh j < 65536) : shpS sh S k < 65536 := by
  induction k with
  | zero => exact (by decide : (0 : Nat) < 65536)
  | succ k ih =>
    have ih := ih (fun j hj => h j (by omega))
    unfold shpS
    split
    · exact Nat.or_lt_two_pow (n := 16) ih (h k (by omega))
    · exact ih
def addB (bs k b : Nat) : Nat := if b ≠ 0 then bs ||| 1 * 2 ^ k else bs &&& (1 * 2 ^ k ^^^ 4294967295)
theorem fitS_no {si : Nat → Nat} {bs S k n : Nat} (h : k < n) (hf : fitS si bs S (k + 1) = false) : fitS si bs S n = false := by
  obtain ⟨d, rfl⟩ : ∃ d, n = k + 1 + d := ⟨n - (k + 1), by omega⟩
  clear h
  induction d with
  | zero => exact hf
  | succ d ih =>
    show (fitS si bs S (k + 1 + d) && _) = false
    rw [ih, Bool.false_and]
