/-! darning in the Model: the rows of worths; what a set of holes is worth -/
abbrev nmL (j : Nat) : Nat := mv_nimL.getD j 0
def meB (n tk lf j : Nat) : Prop := ∃ t l : Nat, ((1 ≤ t ∧ t < tk ∧ l + t ≤ n) ∨ (t = tk ∧ l < lf)) ∧ nmL l ^^^ nmL (n - t - l) = j
theorem me_0 {n j : Nat} : ¬ meB n 1 0 j := fun ⟨t, l, h, _⟩ => by omega
theorem me_up {n tk j : Nat} (h1 : 1 ≤ tk) {lf : Nat} (h2 : n < lf + tk) (h3 : lf + tk ≤ n + 1) : meB n (tk + 1) 0 j ↔ meB n tk lf j := by
  constructor
  · rintro ⟨t, l, h, e⟩
    refine ⟨t, l, ?_, e⟩
    rcases h with ⟨a, b, c⟩ | ⟨a, b⟩
    · by_cases q : t = tk
      · exact Or.inr ⟨q, by omega⟩
      · exact Or.inl ⟨a, by omega, c⟩
    · omega
  · rintro ⟨t, l, h, e⟩
    refine ⟨t, l, Or.inl ?_, e⟩
    rcases h with ⟨a, b, c⟩ | ⟨a, b⟩
    · exact ⟨a, by omega, c⟩
    · exact ⟨by omega, by omega, by omega⟩
theorem me_s {n tk lf j : Nat} : meB n tk (lf + 1) j ↔ (meB n tk lf j ∨ nmL lf ^^^ nmL (n - tk - lf) = j) := by
  constructor
  · rintro ⟨t, l, h, e⟩
    rcases h with h | ⟨a, b⟩
    · exact Or.inl ⟨t, l, Or.inl h, e⟩
    · by_cases q : l = lf
      · subst q; subst a; exact Or.inr e
      · exact Or.inl ⟨t, l, Or.inr ⟨a, by omega⟩, e⟩
  · rintro (⟨t, l, h, e⟩ | e)
    · refine ⟨t, l, ?_, e⟩
      rcases h with h | ⟨a, b⟩
      · exact Or.inl h
      · exact Or.inr ⟨a, by omega⟩
    · exact ⟨tk, lf, Or.inr ⟨rfl, by omega⟩, e⟩
theorem me_lo : ∀ n, n < 17 → 1 ≤ n → ∀ j, j < nmL n → (List.range 3).any (fun t => (List.range 17).any fun l => decide (1 ≤ t ∧ l + t ≤ n ∧ nmL l ^^^ nmL (n - t - l) = j)) = true := by decide +kernel
theorem me_hi0 : (List.range 17).all (fun n => (List.range 3).all fun t => (List.range 17).all fun l => decide (1 ≤ n ∧ 1 ≤ t ∧ l + t ≤ n → nmL l ^^^ nmL (n - t - l) ≠ nmL n)) = true := by decide +kernel
theorem me_hi : ∀ n, n < 17 → 1 ≤ n → ∀ t, t < 3 → ∀ l, l < 17 → 1 ≤ t → l + t ≤ n → nmL l ^^^ nmL (n - t - l) ≠ nmL n := fun n hn h1 t ht l hl h2 h3 =>
  of_decide_eq_true (List.all_eq_true.mp (List.all_eq_true.mp (List.all_eq_true.mp me_hi0 n (List.mem_range.mpr hn)) t (List.mem_range.mpr ht)) l (List.mem_range.mpr hl)) ⟨h1, h2, h3⟩
theorem me_f {n x : Nat} (h1 : 1 ≤ n) (h2 : n < 17) (hx : ¬ meB n 3 0 x) (hlo : ∀ j, j < x → meB n 3 0 j) : x = nmL n := by
  rcases Nat.lt_trichotomy x (nmL n) with q | q | q
  · exfalso
    have h := me_lo n h2 h1 x q
    rw [List.any_eq_true] at h
    obtain ⟨t, ht, h⟩ := h
    rw [List.any_eq_true] at h
    obtain ⟨l, hl, h⟩ := h
    have h3 := of_decide_eq_true h
    have h4 := List.mem_range.mp ht
    exact hx ⟨t, l, Or.inl ⟨h3.1, h4, h3.2.1⟩, h3.2.2⟩
  · exact q
  · exfalso
    obtain ⟨t, l, h, e⟩ := hlo _ q
    rcases h with ⟨a, b, c⟩ | ⟨a, b⟩
    · exact me_hi n h2 h1 t b l (by omega) a c e
    · omega
theorem me_ex {n : Nat} (h1 : 1 ≤ n) (h2 : n < 17) : ¬ meB n 3 0 (nmL n) := fun ⟨t, l, h, e⟩ => by
  rcases h with ⟨a, b, c⟩ | ⟨a, b⟩
  · exact me_hi n h2 h1 t b l (by omega) a c e
  · omega
def meG (n tk lf : Nat) (g : Nat → Nat) : Prop := ∀ j, j < 40 → g j < 2 ∧ (g j ≠ 0 ↔ meB n tk lf j)
theorem meG_s {n tk lf p : Nat} {g : Nat → Nat} (h : meG n tk lf g) (hp : p = nmL lf ^^^ nmL (n - tk - lf)) : meG n tk (lf + 1) (uN g p 1) := fun j hj => by
  by_cases e : j = p
  · rw [e, uN_s, me_s]
    exact ⟨by decide, fun _ => Or.inr hp.symm, fun _ => by decide⟩
  · rw [uN_n _ _ e, me_s]
    refine ⟨(h j hj).1, fun q => Or.inl ((h j hj).2.mp q), fun q => ?_⟩
    rcases q with q | q
    · exact (h j hj).2.mpr q
    · exact absurd (q.symm.trans hp.symm) e
theorem nm_xor (a b : Nat) : nmL a ^^^ nmL b < 8 := Nat.xor_lt_two_pow (n := 3) (nimL_lt a) (nimL_lt b)
theorem nimS_17 {hol : Nat} (h : hol < 65536) : (nimS hol 17).1 = nimV hol := by
  show (if hol / 2 ^ 16 % 2 = 1 then ((nimS hol 16).1, (nimS hol 16).2 + 1) else ((nimS hol 16).1 ^^^ mv_nimL.getD (nimS hol 16).2 0, 0)).1 = _
  rw [if_neg (by rw [Nat.div_eq_of_lt (show hol < 2 ^ 16 from h)]; decide)]
  rfl
theorem wd_step {hol c2 : Nat} (hc : c2 < 16) : wdS hol (16 - c2) c2 = if hol / 2 ^ c2 % 2 = 1 ∧ nimV (hol &&& (1 * 2 ^ c2 ^^^ 4294967295)) = 0 then some (2 * c2) else if hol &&& 3 * 2 ^ c2 = 3 * 2 ^ c2 ∧ nimV (hol &&& (3 * 2 ^ c2 ^^^ 4294967295)) = 0 then some (2 * c2 + 1) else wdS hol (16 - (c2 + 1)) (c2 + 1) := by
  obtain ⟨n, hn⟩ : ∃ z, 16 - c2 = z + 1 := ⟨16 - c2 - 1, by omega⟩
  rw [hn, show 16 - (c2 + 1) = n by omega]
  rfl
theorem three_lt {c : Nat} (h : c < 16) : 3 * 2 ^ c < 2 ^ 31 := by
  have := Nat.pow_lt_pow_right (show 1 < 2 by decide) h
  omega
theorem bit_in {a : Nat} (v : Nat) : (v &&& a ≤ v) := Nat.and_le_left
/-! chances -/
theorem sg_more {t n k : Nat} : ∀ d, sgS (wayS t n) k (n + 1 - k + d) = sgS (wayS t n) k (n + 1 - k) := by
  intro d
  induction d with
  | zero => rfl
  | succ d ih =>
    show sgS (wayS t n) k (n + 1 - k + d) + wayS t n (k + (n + 1 - k + d)) = _
    rw [ih, wayS_hi t n _ (by omega)]
    rfl
theorem sg_17 {t n k : Nat} (hn : n ≤ 16) (hk : k ≤ 16) : sgS (wayS t n) k (17 - k) = sgS (wayS t n) k (n + 1 - k) := by
  have := sg_more (t := t) (n := n) (k := k) (17 - k - (n + 1 - k))
  rwa [show n + 1 - k + (17 - k - (n + 1 - k)) = 17 - k by omega] at this
/-! years by draws -/
theorem T_eta (t : mvT) : t = (t.1, t.2.1, t.2.2.1, t.2.2.2.1, t.2.2.2.2.1, t.2.2.2.2.2.1, t.2.2.2.2.2.2.1, t.2.2.2.2.2.2.2) := rfl
theorem yr_turn {ro sh : Nat → Nat} (hr : ∀ s, s < 10 → ro s < 6) {n x a : Nat} {h c u : Nat → Nat} {p y e : Nat} {A R : Option Nat} {rr : Int32} {h2 c2 u2 : Nat → Nat} {p2 y2 e2 : Nat} (hok : okT (h, c, p, y, u, e, A, R)) (hx : HAc ro sh a (h, c, p, y, u, e, A, R) (kdX (nxX x)) (sbX (nxX x)) rr h2 c2 p2 y2 u2 e2) :
    ∃ (a3 : Nat) (A3 R3 : Option Nat), drw ro sh n (nxX x) a3 (h2, c2, p2, y2, u2, e2, A3, R3) = drw ro sh (n + 1) x a (h, c, p, y, u, e, A, R) ∧ okT (h2, c2, p2, y2, u2, e2, A3, R3) := by
  rcases hx with ⟨hn, -, rfl, rfl, rfl, rfl, rfl, rfl⟩ | ⟨v, hv, -, -, -, rfl, rfl, rfl, rfl, rfl, rfl⟩
  · refine ⟨a + 1, (actT ro sh a (h, c, p, y, u, e, A, R) (kdX (nxX x)) (sbX (nxX x))).2.2.2.2.2.2.1, (actT ro sh a (h, c, p, y, u, e, A, R) (kdX (nxX x)) (sbX (nxX x))).2.2.2.2.2.2.2, ?_, ?_⟩
    · rw [← T_eta, drw, if_pos hn]
    · rw [← T_eta]
      have hv := drawn_valid (nxX x)
      exact actT_ok hr hok hv.1 hv.2.2 hn
  · refine ⟨a, A, R, ?_, hok⟩
    rw [drw, if_neg (by rw [hv]; simp)]
theorem kd_0 {y : Nat} (h : y / 6 % 8 = 0) : kdX y = 60 ∧ sbX y = y % 6 := by
  have e : kdX y = 60 := by unfold kdX; rw [h]; rfl
  exact ⟨e, by unfold sbX; rw [e, if_neg (by decide)]⟩
theorem kd_1 {y : Nat} (h : y / 6 % 8 = 1) : kdX y = 62 ∧ sbX y = y % 6 := by
  have e : kdX y = 62 := by unfold kdX; rw [h]; rfl
  exact ⟨e, by unfold sbX; rw [e, if_neg (by decide)]⟩
theorem kd_2 {y : Nat} (h : y / 6 % 8 = 2) : kdX y = 43 ∧ sbX y = y % 6 := by
  have e : kdX y = 43 := by unfold kdX; rw [h]; rfl
  exact ⟨e, by unfold sbX; rw [e, if_neg (by decide)]⟩
theorem kd_3 {y : Nat} (h : y / 6 % 8 = 3) : kdX y = 47 ∧ sbX y = y % 6 := by
  have e : kdX y = 47 := by unfold kdX; rw [h]; rfl
  exact ⟨e, by unfold sbX; rw [e, if_neg (by decide)]⟩
theorem kd_4 {y : Nat} (h : y / 6 % 8 = 4) : kdX y = 48 ∧ sbX y = y / 48 % 10 := by
  have e : kdX y = 48 := by unfold kdX; rw [h]; rfl
  exact ⟨e, by unfold sbX; rw [e, if_pos rfl]⟩
theorem kd_7 {y : Nat} (h : y / 6 % 8 = 7) : kdX y = 46 := by unfold kdX; rw [h]; rfl
theorem kd_5 {y : Nat} (h : y / 6 % 8 = 5 ∨ y / 6 % 8 = 6) : kdX y = 42 := by
  unfold kdX
  rcases h with h | h <;> (rw [h]; rfl)
theorem pop_or : ∀ w, w < 1024 → ∀ r, r < 10 → w / 2 ^ r % 2 = 0 → popc (w ||| 1 * 2 ^ r) = popc w + 1 := by decide +kernel
theorem fls_pop {u : Nat → Nat} {k : Nat} (hk : k < 10) : popc (flsS u (k + 1)) = popc (flsS u k) + (if 0 < u k then 1 else 0) := by
  have h1 := flsS_lt u k
  have h2 : flsS u k < 2 ^ 10 := Nat.lt_trans h1 (Nat.pow_lt_pow_right (by decide) hk)
  rw [flsS]
  split
  · exact pop_or _ h2 k hk (by rw [Nat.div_eq_of_lt h1])
  · rfl
