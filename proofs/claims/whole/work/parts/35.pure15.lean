/-! the Model's own loops, from whose lies the holes may be on -/
def hrS (ro : Nat → Nat) (r k : Nat) : Nat → Bool
  | 0 => true
  | n + 1 => hrS ro r k n && (decide (k / 2 ^ n % 2 = 0) || decide (ro n = r))
theorem hrS_iff {ro : Nat → Nat} {r k : Nat} : ∀ n, hrS ro r k n = true ↔ ∀ s, s < n → (k / 2 ^ s % 2 = 0 ∨ ro s = r) := by
  intro n
  induction n with
  | zero => exact ⟨fun _ s hs => absurd hs (Nat.not_lt_zero _), fun _ => rfl⟩
  | succ n ih =>
    unfold hrS
    rw [Bool.and_eq_true, ih, Bool.or_eq_true, decide_eq_true_iff, decide_eq_true_iff]
    constructor
    · rintro ⟨h1, h2⟩ s hs
      rcases Nat.lt_or_ge s n with q | q
      · exact h1 s q
      · rw [show s = n by omega]; exact h2
    · intro h
      exact ⟨fun s hs => h s (by omega), h n (by omega)⟩
theorem sinS_tb (ro : Nat → Nat) (r s : Nat) : ∀ n, (sinS ro r n).testBit s = (decide (s < n) && decide (ro s = r)) := by
  intro n
  induction n with
  | zero => show (0 : Nat).testBit s = _; rw [Nat.zero_testBit]; simp
  | succ n ih =>
    unfold sinS
    split
    · next q =>
      rw [Nat.testBit_or, ih, Nat.one_mul, Nat.testBit_two_pow]
      by_cases e : n = s
      · subst e; simp [q]
      · simp [e, show (s < n + 1) ↔ (s < n) by omega]
    · next q =>
      rw [ih]
      by_cases e : n = s
      · subst e; simp [q]
      · simp [show (s < n + 1) ↔ (s < n) by omega]
theorem sub_bits {a b : Nat} (ha : a < 2 ^ 32) : a &&& (b ^^^ 4294967295) = 0 ↔ ∀ i, i < 32 → a.testBit i = true → b.testBit i = true := by
  constructor
  · intro h i hi ht
    have h2 := congrArg (fun z => z.testBit i) h
    simp only [Nat.testBit_and, Nat.testBit_xor, Nat.zero_testBit] at h2
    rw [show (4294967295 : Nat) = 2 ^ 32 - 1 from rfl, Nat.testBit_two_pow_sub_one, ht, decide_eq_true hi] at h2
    cases z : b.testBit i
    · rw [z] at h2; cases h2
    · rfl
  · intro h
    apply Nat.eq_of_testBit_eq
    intro i
    rw [Nat.testBit_and, Nat.testBit_xor, Nat.zero_testBit, show (4294967295 : Nat) = 2 ^ 32 - 1 from rfl, Nat.testBit_two_pow_sub_one]
    rcases Nat.lt_or_ge i 32 with q | q
    · cases z : a.testBit i
      · rfl
      · rw [h i q z, decide_eq_true q]; rfl
    · rw [Nat.testBit_lt_two_pow (Nat.lt_of_lt_of_le ha (Nat.pow_le_pow_right (by decide) q))]; rfl
theorem hrS_in {ro : Nat → Nat} {r k : Nat} (hk : k < 1024) : hrS ro r k 10 = true ↔ k &&& (sinS ro r 10 ^^^ 4294967295) = 0 := by
  rw [hrS_iff, sub_bits (by omega)]
  constructor
  · intro h i _ ht
    have h10 : i < 10 := by
      rcases Nat.lt_or_ge i 10 with q | q
      · exact q
      · rw [Nat.testBit_lt_two_pow (Nat.lt_of_lt_of_le (show k < 2 ^ 10 by omega) (Nat.pow_le_pow_right (by decide) q))] at ht; cases ht
    rw [sinS_tb, decide_eq_true h10, Bool.true_and, decide_eq_true_iff]
    rcases h i h10 with q | q
    · rw [tb_t] at ht; omega
    · exact q
  · intro h s hs
    cases z : k.testBit s
    · exact Or.inl (tb_f.mp z)
    · have h2 := h s (by omega) z
      rw [sinS_tb, Bool.and_eq_true, decide_eq_true_iff, decide_eq_true_iff] at h2
      exact Or.inr h2.2
theorem okB_t {ro : Nat → Nat} {sh : Nat → Nat} {r k hol : Nat} (hk : k < 1024) (h1 : hrS ro r k 10 = true) (h2 : hol &&& (shpS sh k 10 ^^^ 4294967295) = 0) : okB (sinS ro r 10) hol sh k = true := decide_eq_true ⟨(hrS_in hk).mp h1, h2⟩
theorem okB_f1 {ro : Nat → Nat} {sh : Nat → Nat} {r k hol : Nat} (hk : k < 1024) (h1 : hrS ro r k 10 = false) : okB (sinS ro r 10) hol sh k = false := decide_eq_false fun q => by rw [(hrS_in hk).mpr q.1] at h1; cases h1
theorem okB_f2 {sd : Nat} {sh : Nat → Nat} {k hol : Nat} (h2 : hol &&& (shpS sh k 10 ^^^ 4294967295) ≠ 0) : okB sd hol sh k = false := decide_eq_false fun q => h2 q.2
/-! lengths: the table by cells from the right, and that both tables have one best -/
def frB (hol a m : Nat) : Prop := a + m ≤ 16 ∧ ∀ i, i < m → hol / 2 ^ (a + i) % 2 = 0
theorem runS_ge {hol : Nat} : ∀ c m, m ≤ c → (m ≤ runS hol c ↔ ∀ i, i < m → hol / 2 ^ (c - m + i) % 2 = 0) := by
  intro c
  induction c with
  | zero => intro m hm; rw [show m = 0 by omega]; exact ⟨fun _ i hi => absurd hi (Nat.not_lt_zero _), fun _ => Nat.zero_le _⟩
  | succ c ih =>
    intro m hm
    unfold runS
    cases m with
    | zero => exact ⟨fun _ i hi => absurd hi (Nat.not_lt_zero _), fun _ => Nat.zero_le _⟩
    | succ m =>
      have ih := ih m (by omega)
      split
      · next q =>
        rw [show m + 1 ≤ runS hol c + 1 ↔ m ≤ runS hol c by omega, ih]
        constructor
        · intro h i hi
          rcases Nat.lt_or_ge i m with z | z
          · rw [show c + 1 - (m + 1) + i = c - m + i by omega]; exact h i z
          · rw [show c + 1 - (m + 1) + i = c by omega]; exact q
        · intro h i hi
          have := h i (by omega)
          rwa [show c + 1 - (m + 1) + i = c - m + i by omega] at this
      · next q =>
        constructor
        · intro h; omega
        · intro h
          have := h m (by omega)
          rw [show c + 1 - (m + 1) + m = c by omega] at this
          exact absurd this q
theorem run_fr {hol c m : Nat} (hc : c ≤ 16) (h : m ≤ runS hol c) : m ≤ c ∧ frB hol (c - m) m := by
  have h1 := runS_le hol c
  exact ⟨by omega, by omega, (runS_ge c m (by omega)).mp h⟩
theorem fr_run {hol a m : Nat} (h : frB hol a m) : m ≤ runS hol (a + m) := (runS_ge (a + m) m (by omega)).mpr fun i hi => by
  rw [show a + m - m + i = a + i by omega]; exact h.2 i hi
def stR (hol m v n w : Nat) (T : Nat → Nat) (c : Nat) : Prop :=
  T 16 = 0 ∧ ∀ j, c ≤ j → j < 16 → T (j + 1) ≤ T j ∧ (frB hol j m → T (j + m) + v ≤ T j) ∧ (frB hol j n → T (j + n) + w ≤ T j) ∧
    (T j = T (j + 1) ∨ frB hol j m ∧ T j = T (j + m) + v ∨ frB hol j n ∧ T j = T (j + n) + w)
theorem tb_P {hol m v n w : Nat} {g : Nat → Nat} (hm : 1 ≤ m) (hn : 1 ≤ n) (c : Nat) : ∀ d, tbS hol m v n w g (c + d) c = tbS hol m v n w g c c := by
  intro d
  induction d with
  | zero => rfl
  | succ d ih =>
    show twS hol n w (c + d + 1) (twS hol m v (c + d + 1) (uN (tbS hol m v n w g (c + d)) (c + d + 1) _)) c = _
    rw [twS_hi (by omega), twS_hi (by omega), uN_n _ _ (by omega), ih]
theorem tb_S {hol m v n w : Nat} {g : Nat → Nat} (hm : 1 ≤ m) (hn : 1 ≤ n) {c : Nat} (hc : c < 16) : let P := tbS hol m v n w g 16
    P c ≤ P (c + 1) ∧ (m ≤ runS hol (c + 1) → P (c + 1 - m) + v ≤ P (c + 1)) ∧ (n ≤ runS hol (c + 1) → P (c + 1 - n) + w ≤ P (c + 1)) ∧
    (P (c + 1) = P c ∨ m ≤ runS hol (c + 1) ∧ P (c + 1) = P (c + 1 - m) + v ∨ n ≤ runS hol (c + 1) ∧ P (c + 1) = P (c + 1 - n) + w) := by
  intro P
  have e : ∀ j, j ≤ c + 1 → P j = tbS hol m v n w g (c + 1) j := fun j hj => by
    have h1 : P j = tbS hol m v n w g j j := by
      have := tb_P (hol := hol) (v := v) (w := w) (g := g) hm hn j (16 - j)
      rwa [show j + (16 - j) = 16 by omega] at this
    have h2 := tb_P (hol := hol) (v := v) (w := w) (g := g) hm hn j (c + 1 - j)
    rw [show j + (c + 1 - j) = c + 1 by omega] at h2
    rw [h1, h2]
  have q : ∀ j, j ≤ c → tbS hol m v n w g (c + 1) j = tbS hol m v n w g c j := fun j hj => by
    show twS hol n w (c + 1) (twS hol m v (c + 1) (uN (tbS hol m v n w g c) (c + 1) _)) j = _
    rw [twS_hi (by omega), twS_hi (by omega), uN_n _ _ (by omega)]
  have rm := runS_le hol (c + 1)
  have z : tbS hol m v n w g (c + 1) (c + 1) = mxN (mxN (tbS hol m v n w g c c) (if m ≤ runS hol (c + 1) then tbS hol m v n w g c (c + 1 - m) + v else 0)) (if n ≤ runS hol (c + 1) then tbS hol m v n w g c (c + 1 - n) + w else 0) := by
    show twS hol n w (c + 1) (twS hol m v (c + 1) (uN (tbS hol m v n w g c) (c + 1) _)) (c + 1) = _
    have a0 : ∀ x : Nat, mxN x 0 = x := fun x => by unfold mxN; split <;> omega
    have a1 : twS hol m v (c + 1) (uN (tbS hol m v n w g c) (c + 1) (tbS hol m v n w g c c)) (c + 1) = mxN (tbS hol m v n w g c c) (if m ≤ runS hol (c + 1) then tbS hol m v n w g c (c + 1 - m) + v else 0) := by
      unfold twS
      split
      · rw [uN_s, uN_s, uN_n _ _ (by omega)]
      · rw [uN_s, a0]
    rw [← a1]
    have a2 : n ≤ runS hol (c + 1) → twS hol m v (c + 1) (uN (tbS hol m v n w g c) (c + 1) (tbS hol m v n w g c c)) (c + 1 - n) = tbS hol m v n w g c (c + 1 - n) := fun _ => by
      rw [twS_hi (by omega), uN_n _ _ (by omega)]
    generalize twS hol m v (c + 1) (uN (tbS hol m v n w g c) (c + 1) (tbS hol m v n w g c c)) = t at a2
    unfold twS
    split
    · next h => rw [uN_s, a2 h]
    · rw [a0]
  rw [e c (by omega), e (c + 1) (by omega), q c (by omega)]
  have em : m ≤ runS hol (c + 1) → P (c + 1 - m) = tbS hol m v n w g c (c + 1 - m) := fun h => by rw [e _ (by omega), q _ (by omega)]
  have en : n ≤ runS hol (c + 1) → P (c + 1 - n) = tbS hol m v n w g c (c + 1 - n) := fun h => by rw [e _ (by omega), q _ (by omega)]
  by_cases h1 : m ≤ runS hol (c + 1) <;> by_cases h2 : n ≤ runS hol (c + 1)
  · rw [em h1, en h2, z, if_pos h1, if_pos h2]; simp only [h1, h2, true_and, true_implies]; unfold mxN; split <;> split <;> omega
  · rw [em h1, z, if_pos h1, if_neg h2]; simp only [h1, h2, true_and, true_implies, false_and, false_implies, or_false]; unfold mxN; split <;> split <;> omega
  · rw [en h2, z, if_neg h1, if_pos h2]; simp only [h1, h2, true_and, true_implies, false_and, false_implies, false_or]; unfold mxN; split <;> split <;> omega
  · rw [z, if_neg h1, if_neg h2]; simp only [h1, h2, false_and, false_implies, or_false, true_and]; unfold mxN; (repeat' split) <;> first | omega | exact ⟨Nat.le_refl _, rfl⟩
theorem ct_eq {hol m v n w : Nat} {g T : Nat → Nat} (hm : 1 ≤ m) (hn : 1 ≤ n) (h : stR hol m v n w T 0) : T 0 = tbS hol m v n w g 16 16 := by
  have hs := fun c hc => tb_S (hol := hol) (v := v) (w := w) (g := g) hm hn (c := c) hc
  have h0 : tbS hol m v n w g 16 0 = 0 := by
    have := tb_P (hol := hol) (v := v) (w := w) (g := g) hm hn 0 16
    rw [Nat.zero_add] at this
    rw [this]
    exact uN_s g 0 0
  generalize tbS hol m v n w g 16 = P at hs h0
  obtain ⟨t0, ht⟩ := h
  have A : ∀ c, c ≤ 16 → P c + T c ≤ T 0 := by
    intro c
    induction c using Nat.strongRecOn with
    | ind c ih =>
      intro hc
      cases c with
      | zero => omega
      | succ c =>
        have s := hs c (by omega)
        rcases s.2.2.2 with q | ⟨q1, q2⟩ | ⟨q1, q2⟩
        · have := ih c (by omega) (by omega)
          have := (ht c (Nat.zero_le _) (by omega)).1
          omega
        · have f := run_fr hc q1
          have := ih (c + 1 - m) (by omega) (by omega)
          have := (ht (c + 1 - m) (Nat.zero_le _) (by omega)).2.1 f.2
          rw [show c + 1 - m + m = c + 1 by omega] at this
          omega
        · have f := run_fr hc q1
          have := ih (c + 1 - n) (by omega) (by omega)
          have := (ht (c + 1 - n) (Nat.zero_le _) (by omega)).2.2.1 f.2
          rw [show c + 1 - n + n = c + 1 by omega] at this
          omega
  have B : ∀ d c, c + d = 16 → P c + T c ≤ P 16 := by
    intro d
    induction d using Nat.strongRecOn with
    | ind d ih =>
      intro c hc
      cases d with
      | zero => rw [show c = 16 by omega, t0]; exact Nat.le_refl _
      | succ d =>
        rcases (ht c (Nat.zero_le _) (by omega)).2.2.2 with q | ⟨q1, q2⟩ | ⟨q1, q2⟩
        · have := ih d (by omega) (c + 1) (by omega)
          have := (hs c (by omega)).1
          omega
        · have f := fr_run q1
          have q3 := q1.1
          have := ih (16 - (c + m)) (by omega) (c + m) (by omega)
          have s := (hs (c + m - 1) (by omega)).2.1
          rw [show c + m - 1 + 1 = c + m by omega] at s
          have := s f
          rw [show c + m - m = c by omega] at this
          omega
        · have f := fr_run q1
          have q3 := q1.1
          have := ih (16 - (c + n)) (by omega) (c + n) (by omega)
          have s := (hs (c + n - 1) (by omega)).2.2.1
          rw [show c + n - 1 + 1 = c + n by omega] at s
          have := s f
          rw [show c + n - n = c by omega] at this
          omega
  have a := A 16 (Nat.le_refl _)
  have b := B 16 0 rfl
  omega
theorem stR_step {hol m v n w : Nat} {T : Nat → Nat} {c b : Nat} (hm : 1 ≤ m) (hn : 1 ≤ n) (hc : c < 16) (h : stR hol m v n w T (c + 1))
    (h1 : T (c + 1) ≤ b) (h2 : frB hol c m → T (c + m) + v ≤ b) (h3 : frB hol c n → T (c + n) + w ≤ b) (h4 : b = T (c + 1) ∨ frB hol c m ∧ b = T (c + m) + v ∨ frB hol c n ∧ b = T (c + n) + w) : stR hol m v n w (uN T c b) c := by
  refine ⟨by rw [uN_n _ _ (by omega)]; exact h.1, fun j hj hj2 => ?_⟩
  by_cases e : j = c
  · subst e
    rw [uN_s, uN_n _ _ (show j + 1 ≠ j by omega), uN_n _ _ (show j + m ≠ j by omega), uN_n _ _ (show j + n ≠ j by omega)]
    exact ⟨h1, h2, h3, h4⟩
  · rw [uN_n _ _ e, uN_n _ _ (show j + 1 ≠ c by omega), uN_n _ _ (show j + m ≠ c by omega), uN_n _ _ (show j + n ≠ c by omega)]
    exact h.2 j (by omega) hj2
/-- how many whole cells begin at cell c -/
def wfS (hol : Nat) : Nat → Nat → Nat
  | 0, _ => 0
  | n + 1, c => if hol / 2 ^ c % 2 = 0 then wfS hol n (c + 1) + 1 else 0
theorem wfS_fr {hol : Nat} : ∀ n c m, c + n = 16 → (m ≤ wfS hol n c ↔ frB hol c m) := by
  intro n
  induction n with
  | zero =>
    intro c m hc
    show m ≤ 0 ↔ _
    constructor
    · intro h; exact ⟨by omega, fun i hi => by omega⟩
    · intro h; have := h.1; omega
  | succ n ih =>
    intro c m hc
    cases m with
    | zero => exact ⟨fun _ => ⟨by omega, fun i hi => by omega⟩, fun _ => Nat.zero_le _⟩
    | succ m =>
      unfold wfS
      split
      · next q =>
        rw [show m + 1 ≤ wfS hol n (c + 1) + 1 ↔ m ≤ wfS hol n (c + 1) by omega, ih (c + 1) m (by omega)]
        constructor
        · rintro ⟨h1, h2⟩
          refine ⟨by omega, fun i hi => ?_⟩
          cases i with
          | zero => exact q
          | succ i => have := h2 i (by omega); rwa [show c + 1 + i = c + (i + 1) by omega] at this
        · rintro ⟨h1, h2⟩
          refine ⟨by omega, fun i hi => ?_⟩
          rw [show c + 1 + i = c + (i + 1) by omega]
          exact h2 (i + 1) (by omega)
      · next q =>
        constructor
        · intro h; omega
        · intro h; exact absurd (h.2 0 (by omega)) q
theorem wfS_le {hol : Nat} : ∀ n c, wfS hol n c ≤ n := by
  intro n
  induction n with
  | zero => intro c; exact Nat.le_refl _
  | succ n ih => intro c; unfold wfS; have := ih (c + 1); split <;> omega
