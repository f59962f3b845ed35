/-! what to wear: all codes against the table -/
abbrev cst (h so : Nat → Nat) (r o : Nat) : Nat := popc (h r &&& so o)
def wrU (code : Nat) : Nat → Nat
  | 0 => 0
  | i + 1 => wrU code i ||| 1 * 2 ^ (code / 6 ^ i % 6)
def wrH (h so : Nat → Nat) (code : Nat) : Nat → Nat
  | 0 => 0
  | i + 1 => wrH h so code i + popc (h (code / 6 ^ i % 6) &&& so (4 - i))
def wrW (code : Nat) : Nat → Nat
  | 0 => 0
  | o + 1 => wrW code o ||| 1 * 2 ^ (code / 6 ^ (4 - o) % 6)
def wrC (h so : Nat → Nat) (code : Nat) : Nat → Nat
  | 0 => 0
  | o + 1 => wrC h so code o + popc (h (code / 6 ^ (4 - o) % 6) &&& so o)
theorem wrU_lt (code : Nat) : ∀ i, wrU code i < 64 := by
  intro i
  induction i with
  | zero => exact (by decide : (0 : Nat) < 64)
  | succ i ih => exact or_lt (k := 6) _ _ ih (p2_lt (Nat.mod_lt _ (by decide)))
theorem wrW_lt (code : Nat) : ∀ i, wrW code i < 64 := by
  intro i
  induction i with
  | zero => exact (by decide : (0 : Nat) < 64)
  | succ i ih => exact or_lt (k := 6) _ _ ih (p2_lt (Nat.mod_lt _ (by decide)))
theorem wrH_le (h so : Nat → Nat) (code : Nat) : ∀ i, wrH h so code i ≤ 16 * i := by
  intro i
  induction i with
  | zero => exact Nat.le_refl _
  | succ i ih => unfold wrH; have := popc_le (h (code / 6 ^ i % 6) &&& so (4 - i)); omega
theorem wrU_W (code : Nat) : wrU code 5 = wrW code 5 := by
  simp only [wrU, wrW, Nat.zero_or, Nat.sub_zero, show 4 - 1 = 3 from rfl, show 4 - 2 = 2 from rfl, show 4 - 3 = 1 from rfl, show 4 - 4 = 0 from rfl]
  ac_rfl
theorem wrH_C (h so : Nat → Nat) (code : Nat) : wrH h so code 5 = wrC h so code 5 := by
  simp only [wrH, wrC, Nat.sub_zero, show 4 - 1 = 3 from rfl, show 4 - 2 = 2 from rfl, show 4 - 3 = 1 from rfl, show 4 - 4 = 0 from rfl]
  omega
theorem w64_c : ∀ w, w < 64 → ∀ r, r < 6 → popc (w ||| 1 * 2 ^ r) = popc w + (1 - w / 2 ^ r % 2) := by decide +kernel
theorem wrW_up (code o : Nat) : popc (wrW code (o + 1)) = popc (wrW code o) + (1 - wrW code o / 2 ^ (code / 6 ^ (4 - o) % 6) % 2) := w64_c _ (wrW_lt code o) _ (Nat.mod_lt _ (by decide))
theorem wrW_le (code : Nat) : ∀ o, popc (wrW code o) ≤ o := by
  intro o
  induction o with
  | zero => exact (by decide : popc 0 ≤ 0)
  | succ o ih => have := wrW_up code o; omega
theorem wrW_ge (code : Nat) (h : popc (wrW code 5) = 5) : ∀ d o, o + d = 5 → popc (wrW code o) = o := by
  intro d
  induction d with
  | zero => intro o ho; rw [show o = 5 by omega]; exact h
  | succ d ih =>
    intro o ho
    have h1 := ih (o + 1) (by omega)
    have h2 := wrW_up code o
    have h3 := wrW_le code o
    omega
theorem wrW_bit {code : Nat} (h : popc (wrW code 5) = 5) {o : Nat} (ho : o < 5) : popc (wrW code o) = o ∧ wrW code o / 2 ^ (code / 6 ^ (4 - o) % 6) % 2 = 0 := by
  have h1 := wrW_ge code h (5 - o) o (by omega)
  have h2 := wrW_ge code h (5 - (o + 1)) (o + 1) (by omega)
  have h3 := wrW_up code o
  have h4 : wrW code o / 2 ^ (code / 6 ^ (4 - o) % 6) % 2 < 2 := Nat.mod_lt _ (by decide)
  exact ⟨h1, by omega⟩
/-! what the table says -/
def dpP (h so f n : Nat → Nat) (w : Nat) : Prop :=
  (5 ≤ popc w → f w = 0) ∧ (popc w < 5 → n w < 6 ∧ w / 2 ^ n w % 2 = 0 ∧ f w = cst h so (n w) (popc w) + f (w ||| 1 * 2 ^ n w) ∧
    (∀ r, r < 6 → w / 2 ^ r % 2 = 0 → f w ≤ cst h so r (popc w) + f (w ||| 1 * 2 ^ r)) ∧ ∀ r, r < n w → w / 2 ^ r % 2 = 0 → f w < cst h so r (popc w) + f (w ||| 1 * 2 ^ r))
theorem pbS_dp {h so f n : Nat → Nat} {w : Nat} (hw : w < 64) : ∀ r, r ≤ 6 → ((pbS h so w f n r).2 w = 4294967290 ∧ ∀ i, i < r → w / 2 ^ i % 2 = 1) ∨
    ((pbS h so w f n r).2 w < r ∧ w / 2 ^ (pbS h so w f n r).2 w % 2 = 0 ∧ (pbS h so w f n r).1 w = cst h so ((pbS h so w f n r).2 w) (popc w) + f (w ||| 1 * 2 ^ (pbS h so w f n r).2 w) ∧
     (∀ i, i < r → w / 2 ^ i % 2 = 0 → (pbS h so w f n r).1 w ≤ cst h so i (popc w) + f (w ||| 1 * 2 ^ i)) ∧ ∀ i, i < (pbS h so w f n r).2 w → w / 2 ^ i % 2 = 0 → (pbS h so w f n r).1 w < cst h so i (popc w) + f (w ||| 1 * 2 ^ i)) := by
  intro r
  induction r with
  | zero => intro _; exact Or.inl ⟨by show uN n w _ w = _; rw [uN_s], fun i hi => by omega⟩
  | succ r ih =>
    intro hr
    have ih := ih (by omega)
    have hb : w / 2 ^ r % 2 < 2 := Nat.mod_lt _ (by decide)
    have hup : w / 2 ^ r % 2 = 0 → (pbS h so w f n r).1 (w ||| 1 * 2 ^ r) = f (w ||| 1 * 2 ^ r) := fun q => by
      have a2 := or_new q
      have a4 := Nat.two_pow_pos r
      exact (pbS_hi r _ (by omega)).1
    unfold pbS
    split
    · next q =>
      rw [hup q]
      split
      · next z =>
        right
        dsimp only
        rw [uN_s, uN_s]
        refine ⟨by omega, q, rfl, fun i hi hz => ?_, fun i hi hz => ?_⟩
        · by_cases e : i = r
          · subst e; exact Nat.le_refl _
          · rcases ih with ⟨e1, e2⟩ | ⟨e1, e2, e3, e4, e5⟩
            · have := e2 i (by omega); omega
            · have := e4 i (by omega) hz
              rcases z with z | z
              · omega
              · omega
        · rcases ih with ⟨e1, e2⟩ | ⟨e1, e2, e3, e4, e5⟩
          · have := e2 i (by omega); omega
          · have := e4 i (by omega) hz
            rcases z with z | z
            · omega
            · omega
      · next z =>
        rcases ih with ⟨e1, e2⟩ | ⟨e1, e2, e3, e4, e5⟩
        · exact absurd (Or.inl e1) z
        · right
          refine ⟨by omega, e2, e3, fun i hi hz => ?_, e5⟩
          by_cases e : i = r
          · subst e
            exact Nat.le_of_not_lt fun y => z (Or.inr y)
          · exact e4 i (by omega) hz
    · next q =>
      rcases ih with ⟨e1, e2⟩ | ⟨e1, e2, e3, e4, e5⟩
      · left
        refine ⟨e1, fun i hi => ?_⟩
        rcases Nat.lt_or_ge i r with z | z
        · exact e2 i z
        · rw [show i = r by omega]; omega
      · right
        refine ⟨by omega, e2, e3, fun i hi hz => ?_, e5⟩
        by_cases e : i = r
        · subst e; exact absurd hz q
        · exact e4 i (by omega) hz
theorem dp_up {h so f n f2 n2 : Nat → Nat} {w : Nat} (h1 : dpP h so f n w) (hf : f2 w = f w) (hn : n2 w = n w) (hh : ∀ r, r < 6 → w / 2 ^ r % 2 = 0 → f2 (w ||| 1 * 2 ^ r) = f (w ||| 1 * 2 ^ r)) : dpP h so f2 n2 w := by
  unfold dpP
  rw [hf, hn]
  refine ⟨h1.1, fun hp => ?_⟩
  obtain ⟨a1, a2, a3, a4, a5⟩ := h1.2 hp
  refine ⟨a1, a2, by rw [hh _ a1 a2]; exact a3, fun r hr hz => by rw [hh r hr hz]; exact a4 r hr hz, fun r hr hz => by rw [hh r (by omega) hz]; exact a5 r hr hz⟩
theorem plS_dp {h so f n : Nat → Nat} : ∀ k, k ≤ 64 → ∀ j, 64 - k ≤ j → j < 64 → dpP h so (plS h so f n k).1 (plS h so f n k).2 j := by
  intro k
  induction k with
  | zero => intro _ j h1 h2; omega
  | succ k ih =>
    intro hk j h1 h2
    show dpP h so (pbF h so (63 - k) _ _).1 (pbF h so (63 - k) _ _).2 j
    by_cases q : j = 63 - k
    · subst q
      unfold pbF
      split
      · next z => exact ⟨fun _ => by show uN _ _ 0 _ = 0; rw [uN_s], fun y => by omega⟩
      · next z =>
        refine ⟨fun y => absurd y z, fun y => ?_⟩
        rcases pbS_dp (h := h) (so := so) (f := (plS h so f n k).1) (n := (plS h so f n k).2) (w := 63 - k) (by omega) 6 (Nat.le_refl _) with ⟨-, e⟩ | ⟨e1, e2, e3, e4, e5⟩
        · obtain ⟨r, hr, hz⟩ := w64_a (63 - k) (by omega) y
          have := e r hr
          omega
        · have hup : ∀ r, (63 - k) / 2 ^ r % 2 = 0 → (pbS h so (63 - k) (plS h so f n k).1 (plS h so f n k).2 6).1 ((63 - k) ||| 1 * 2 ^ r) = (plS h so f n k).1 ((63 - k) ||| 1 * 2 ^ r) := fun r q => by
            have a2 := or_new q
            have a4 := Nat.two_pow_pos r
            exact (pbS_hi 6 _ (by omega)).1
          refine ⟨e1, e2, ?_, fun r hr hz => ?_, fun r hr hz => ?_⟩
          · rw [hup _ e2]; exact e3
          · rw [hup _ hz]; exact e4 r hr hz
          · rw [hup _ hz]; exact e5 r hr hz
    · refine dp_up (ih (by omega) j (by omega) h2) (pbF_hi q).1 (pbF_hi q).2 fun r hr hz => ?_
      have a2 := or_new hz
      have a4 := Nat.two_pow_pos r
      exact (pbF_hi (by omega)).1
def wrV (h so : Nat → Nat) : Nat → Nat := (plS h so (fun _ => 0) (fun _ => 0) 64).1
theorem wr_dp {h so : Nat → Nat} {j : Nat} (hj : j < 64) : dpP h so (wrV h so) (wrN h so) j := plS_dp 64 (Nat.le_refl _) j (by omega) hj
abbrev wrS (h so : Nat → Nat) (o : Nat) : Nat := rfS (wrN h so) o
theorem wrN_ok {h so : Nat → Nat} : ∀ j, j < 64 → popc j < 5 → wrN h so j < 6 ∧ j / 2 ^ wrN h so j % 2 = 0 := fun j hj hp => plS_nxt 64 (Nat.le_refl _) j (by omega) hj hp
theorem wrS_ok {h so : Nat → Nat} {o : Nat} (ho : o ≤ 5) : wrS h so o < 64 ∧ popc (wrS h so o) = o := rfS_ok wrN_ok o ho
theorem wrR_N {h so : Nat → Nat} {o : Nat} (ho : o ≤ 5) : wrR h so o = wrN h so (wrS h so o) := by
  unfold wrR
  rw [Nat.mod_eq_of_lt (wrS_ok (h := h) (so := so) ho).1]
theorem wrR_lt {h so : Nat → Nat} {o : Nat} (ho : o < 5) : wrR h so o < 6 := by
  rw [wrR_N (by omega)]
  have := wrS_ok (h := h) (so := so) (show o ≤ 5 by omega)
  exact (wrN_ok _ this.1 (by omega)).1
def wrK (h so : Nat → Nat) : Nat := (((wrR h so 0 * 6 + wrR h so 1) * 6 + wrR h so 2) * 6 + wrR h so 3) * 6 + wrR h so 4
theorem wrK_dg {h so : Nat → Nat} : ∀ o, o < 5 → wrK h so / 6 ^ (4 - o) % 6 = wrR h so o := by
  have h0 := wrR_lt (h := h) (so := so) (o := 0) (by decide)
  have h1 := wrR_lt (h := h) (so := so) (o := 1) (by decide)
  have h2 := wrR_lt (h := h) (so := so) (o := 2) (by decide)
  have h3 := wrR_lt (h := h) (so := so) (o := 3) (by decide)
  have h4 := wrR_lt (h := h) (so := so) (o := 4) (by decide)
  unfold wrK
  intro o ho
  rcases (show o = 0 ∨ o = 1 ∨ o = 2 ∨ o = 3 ∨ o = 4 by omega) with rfl | rfl | rfl | rfl | rfl
  · rw [show 6 ^ (4 - 0) = 1296 from rfl]; omega
  · rw [show 6 ^ (4 - 1) = 216 from rfl]; omega
  · rw [show 6 ^ (4 - 2) = 36 from rfl]; omega
  · rw [show 6 ^ (4 - 3) = 6 from rfl]; omega
  · rw [show 6 ^ (4 - 4) = 1 from rfl]; omega
theorem wrK_lt (h so : Nat → Nat) : wrK h so < 7776 := by
  have h0 := wrR_lt (h := h) (so := so) (o := 0) (by decide)
  have h1 := wrR_lt (h := h) (so := so) (o := 1) (by decide)
  have h2 := wrR_lt (h := h) (so := so) (o := 2) (by decide)
  have h3 := wrR_lt (h := h) (so := so) (o := 3) (by decide)
  have h4 := wrR_lt (h := h) (so := so) (o := 4) (by decide)
  unfold wrK
  omega
theorem wrK_W {h so : Nat → Nat} : ∀ o, o ≤ 5 → wrW (wrK h so) o = wrS h so o := by
  intro o
  induction o with
  | zero => intro _; rfl
  | succ o ih =>
    intro ho
    have ih := ih (by omega)
    show wrW (wrK h so) o ||| 1 * 2 ^ (wrK h so / 6 ^ (4 - o) % 6) = rfS (wrN h so) o ||| 1 * 2 ^ wrN h so (rfS (wrN h so) o % 64)
    rw [wrK_dg o (by omega), ih]
    rfl
theorem wrK_C {h so : Nat → Nat} : ∀ o, o ≤ 5 → wrC h so (wrK h so) o + wrV h so (wrS h so o) = wrV h so 0 := by
  intro o
  induction o with
  | zero => intro _; show 0 + _ = _; rw [Nat.zero_add]; rfl
  | succ o ih =>
    intro ho
    have ih := ih (by omega)
    have hs := wrS_ok (h := h) (so := so) (show o ≤ 5 by omega)
    have hd := (wr_dp (h := h) (so := so) hs.1).2 (by omega)
    show wrC h so (wrK h so) o + popc (h (wrK h so / 6 ^ (4 - o) % 6) &&& so o) + wrV h so (wrS h so o ||| 1 * 2 ^ wrN h so (wrS h so o % 64)) = _
    rw [wrK_dg o (by omega), wrR_N (by omega), Nat.mod_eq_of_lt hs.1]
    have h3 := hd.2.2.1
    unfold cst at h3
    rw [hs.2] at h3
    omega
theorem wrK_v (h so : Nat → Nat) : popc (wrU (wrK h so) 5) = 5 ∧ wrH h so (wrK h so) 5 = wrF h so := by
  have hs := wrS_ok (h := h) (so := so) (Nat.le_refl 5)
  have h2 := wrK_C (h := h) (so := so) 5 (Nat.le_refl _)
  rw [(wr_dp (h := h) (so := so) hs.1).1 (by omega)] at h2
  exact ⟨by rw [wrU_W, wrK_W 5 (Nat.le_refl _)]; exact hs.2, by rw [wrH_C]; exact h2⟩
theorem wr_lo {h so : Nat → Nat} {code : Nat} (hv : popc (wrW code 5) = 5) {o : Nat} (ho : o < 5) : wrC h so code o + wrV h so (wrW code o) ≤ wrC h so code (o + 1) + wrV h so (wrW code (o + 1)) ∧
    (wrC h so code (o + 1) + wrV h so (wrW code (o + 1)) ≤ wrC h so code o + wrV h so (wrW code o) → wrN h so (wrW code o) ≤ code / 6 ^ (4 - o) % 6) := by
  have hb := wrW_bit hv ho
  have hd := (wr_dp (h := h) (so := so) (wrW_lt code o)).2 (by omega)
  have h6 : code / 6 ^ (4 - o) % 6 < 6 := Nat.mod_lt _ (by decide)
  have a1 := hd.2.2.2.1 _ h6 hb.2
  unfold cst at a1
  rw [hb.1] at a1
  show _ ≤ wrC h so code o + popc (h (code / 6 ^ (4 - o) % 6) &&& so o) + wrV h so (wrW code o ||| 1 * 2 ^ (code / 6 ^ (4 - o) % 6)) ∧ (wrC h so code o + popc (h (code / 6 ^ (4 - o) % 6) &&& so o) + wrV h so (wrW code o ||| 1 * 2 ^ (code / 6 ^ (4 - o) % 6)) ≤ _ → _)
  refine ⟨by omega, fun q => Nat.le_of_not_lt fun z => ?_⟩
  have a2 := hd.2.2.2.2 _ z hb.2
  unfold cst at a2
  rw [hb.1] at a2
  omega
theorem wr_all {h so : Nat → Nat} {code : Nat} (hv : popc (wrU code 5) = 5) : wrF h so ≤ wrH h so code 5 ∧ (wrH h so code 5 = wrF h so → ∀ o, o < 5 → wrN h so (wrW code o) ≤ code / 6 ^ (4 - o) % 6) := by
  rw [wrU_W] at hv
  have q0 := wr_lo (h := h) (so := so) hv (show 0 < 5 by decide)
  have q1 := wr_lo (h := h) (so := so) hv (show 1 < 5 by decide)
  have q2 := wr_lo (h := h) (so := so) hv (show 2 < 5 by decide)
  have q3 := wr_lo (h := h) (so := so) hv (show 3 < 5 by decide)
  have q4 := wr_lo (h := h) (so := so) hv (show 4 < 5 by decide)
  simp only [Nat.reduceAdd] at q0 q1 q2 q3 q4
  have e0 : wrC h so code 0 + wrV h so (wrW code 0) = wrF h so := by
    show 0 + wrV h so 0 = wrF h so
    rw [Nat.zero_add]
    unfold wrV wrF
    rfl
  have e5 : wrC h so code 5 + wrV h so (wrW code 5) = wrH h so code 5 := by
    rw [wrH_C, (wr_dp (h := h) (so := so) (wrW_lt code 5)).1 (by omega)]
    rfl
  rw [e0] at q0
  rw [e5] at q4
  refine ⟨by omega, fun e o ho => ?_⟩
  rcases (show o = 0 ∨ o = 1 ∨ o = 2 ∨ o = 3 ∨ o = 4 by omega) with rfl | rfl | rfl | rfl | rfl
  · exact q0.2 (by omega)
  · exact q1.2 (by omega)
  · exact q2.2 (by omega)
  · exact q3.2 (by omega)
  · exact q4.2 (by omega)
theorem wr_min {h so : Nat → Nat} {code : Nat} (hc : code < 7776) (hv : popc (wrU code 5) = 5) (he : wrH h so code 5 = wrF h so) : wrK h so ≤ code := by
  have ha := (wr_all hv).2 he
  have key : ∀ o, o < 5 → wrW code o = wrS h so o → wrR h so o ≤ code / 6 ^ (4 - o) % 6 ∧ (code / 6 ^ (4 - o) % 6 = wrR h so o → wrW code (o + 1) = wrS h so (o + 1)) := fun o ho e => by
    have hs := wrS_ok (h := h) (so := so) (show o ≤ 5 by omega)
    have := ha o ho
    rw [e] at this
    rw [wrR_N (show o ≤ 5 by omega)]
    refine ⟨this, fun q => ?_⟩
    show wrW code o ||| 1 * 2 ^ (code / 6 ^ (4 - o) % 6) = rfS (wrN h so) o ||| 1 * 2 ^ wrN h so (rfS (wrN h so) o % 64)
    rw [q, e, Nat.mod_eq_of_lt hs.1]
  have h0 := wrR_lt (h := h) (so := so) (o := 0) (by decide)
  have h1 := wrR_lt (h := h) (so := so) (o := 1) (by decide)
  have h2 := wrR_lt (h := h) (so := so) (o := 2) (by decide)
  have h3 := wrR_lt (h := h) (so := so) (o := 3) (by decide)
  have h4 := wrR_lt (h := h) (so := so) (o := 4) (by decide)
  have k0 := key 0 (by decide) rfl
  rw [show 6 ^ (4 - 0) = 1296 from rfl] at k0
  unfold wrK
  by_cases d0 : code / 1296 % 6 = wrR h so 0
  · have k1 := key 1 (by decide) (k0.2 d0)
    rw [show 6 ^ (4 - 1) = 216 from rfl] at k1
    by_cases d1 : code / 216 % 6 = wrR h so 1
    · have k2 := key 2 (by decide) (k1.2 d1)
      rw [show 6 ^ (4 - 2) = 36 from rfl] at k2
      by_cases d2 : code / 36 % 6 = wrR h so 2
      · have k3 := key 3 (by decide) (k2.2 d2)
        rw [show 6 ^ (4 - 3) = 6 from rfl] at k3
        by_cases d3 : code / 6 % 6 = wrR h so 3
        · have k4 := (key 4 (by decide) (k3.2 d3)).1
          rw [show 6 ^ (4 - 4) = 1 from rfl, Nat.div_one] at k4
          omega
        · have := k3.1; omega
      · have := k2.1; omega
    · have := k1.1; omega
  · have := k0.1; omega
def wrI (h so : Nat → Nat) (k lst fnd : Nat) : Prop := lst ≤ 1000000 ∧ (∀ j, j < k → popc (wrU j 5) = 5 → lst ≤ wrH h so j 5) ∧ (lst = 1000000 ∨ (fnd < k ∧ popc (wrU fnd 5) = 5 ∧ wrH h so fnd 5 = lst))  ∧ ∀ j, j < fnd → popc (wrU j 5) = 5 → lst < wrH h so j 5
theorem wrI_0 (h so : Nat → Nat) : wrI h so 0 1000000 0 := ⟨Nat.le_refl _, fun j hj => absurd hj (Nat.not_lt_zero _), Or.inl rfl, fun j hj => absurd hj (Nat.not_lt_zero _)⟩
theorem wrI_s {h so : Nat → Nat} {k lst fnd us hs f2 l2 : Nat} (hi : wrI h so k lst fnd) (hu : us = wrU k 5) (hh : hs = wrH h so k 5) (hf : f2 = if popc us = 5 ∧ hs < lst then k else fnd) (hl : l2 = if popc us = 5 ∧ hs < lst then hs else lst) : wrI h so (k + 1) l2 f2 := by
  obtain ⟨i1, i2, i3, i4⟩ := hi
  subst hu hh
  by_cases q : popc (wrU k 5) = 5 ∧ wrH h so k 5 < lst
  · rw [if_pos q] at hf hl
    subst hf hl
    refine ⟨by omega, fun j hj hp => ?_, Or.inr ⟨by omega, q.1, rfl⟩, fun j hj hp => ?_⟩
    · by_cases e : j = f2
      · rw [e]; exact Nat.le_refl _
      · have := i2 j (by omega) hp; omega
    · have := i2 j hj hp; omega
  · rw [if_neg q] at hf hl
    subst hf hl
    refine ⟨i1, fun j hj hp => ?_, ?_, i4⟩
    · by_cases e : j = k
      · subst e
        exact Nat.le_of_not_lt fun z => q ⟨hp, z⟩
      · exact i2 j (by omega) hp
    · rcases i3 with i3 | ⟨a, b⟩
      · exact Or.inl i3
      · exact Or.inr ⟨by omega, b⟩
theorem wrI_f {h so : Nat → Nat} {lst fnd : Nat} (hi : wrI h so 7776 lst fnd) : lst = wrF h so ∧ fnd = wrK h so := by
  obtain ⟨i1, i2, i3, i4⟩ := hi
  have hk := wrK_v h so
  have hl := i2 _ (wrK_lt h so) hk.1
  have h80 := wrH_le h so (wrK h so) 5
  rcases i3 with i3 | ⟨a, b, c⟩
  · omega
  · have h1 := (wr_all (h := h) (so := so) b).1
    have e : lst = wrF h so := by omega
    refine ⟨e, ?_⟩
    have h2 := wr_min a b (c.trans e)
    rcases Nat.lt_or_ge (wrK h so) fnd with z | z
    · have := i4 _ z hk.1
      omega
    · omega
theorem wr_no {x : Int32} {h so : Nat → Nat} (hq : inQ x 4294967295 4 = false) : sp_wear h so x = nI 4294967295 := by
  have h1 := of_decide_eq_false hq
  have e1 : ¬ x = nI 4294967295 := fun q => h1 (by rw [q]; decide)
  have e2 : inQ x 0 4 = false := decide_eq_false fun q => h1 ⟨Int32.le_trans (by decide) q.1, q.2⟩
  unfold sp_wear
  rw [if_neg e1, e2]
  rfl
theorem wr_m {x : Int32} (hq : inQ x 4294967295 4 = true) : ∃ m : Nat, m ≤ 5 ∧ x = nI m - nI 1 := by
  have h1 := of_decide_eq_true hq
  rcases x_sign x with h | ⟨k, hk, rfl⟩
  · refine ⟨0, by decide, ?_⟩
    have h2 := Int32.le_iff_toInt_le.mp h1.1
    have h3 := neg_int h
    have h4 : (nI 4294967295).toInt = -1 := by decide
    apply Int32.toInt_inj.mp
    have h5 : (nI 0 - nI 1).toInt = -1 := by decide
    omega
  · refine ⟨k + 1, ?_, ?_⟩
    · have := (nI_leI hk (by decide)).mp h1.2
      omega
    · rw [pk_sub (by omega)]
      rfl
theorem sub1_le {a b : Nat} (ha : a < 2 ^ 31) (hb : b < 2 ^ 31) : nI a - nI 1 ≤ nI b - nI 1 ↔ a ≤ b := by
  have t0 : (nI 0 - nI 1).toInt = -1 := by decide
  have key : ∀ c : Nat, c < 2 ^ 31 → (nI c - nI 1).toInt = (c : Int) - 1 := fun c hc => by
    rcases Nat.eq_zero_or_pos c with rfl | q
    · rw [t0]; rfl
    · rw [pk_sub q, nI_toInt (by omega)]; omega
  rw [Int32.le_iff_toInt_le, key a ha, key b hb]
  omega
theorem wr_rm {x : Int32} {h so : Nat → Nat} (hx : x = nI 0 - nI 1) : sp_wear h so x = nI (wrF h so) := if_pos (hx.trans (by decide))
theorem wr_rp {m : Nat} {x : Int32} {h so : Nat → Nat} (hm : m ≤ 5) (h0 : m ≠ 0) (hx : x = nI m - nI 1) : sp_wear h so x = nI (wrR h so (m - 1)) := by
  rw [pk_sub (by omega)] at hx
  subst hx
  unfold sp_wear
  rw [if_neg (fun q => by have := (nI_eqW (by omega) (by decide)).mp q; omega), inQ_nI (by omega) (by decide) (by decide), decide_eq_true ⟨by omega, by omega⟩, nI_clamp (by omega)]
  rfl
