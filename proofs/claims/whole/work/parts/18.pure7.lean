section MV7
variable {p : Program} {l : Launch} {e : Env} {R : Room} {s : State} {m : MethodId} {args : Array Value} {below : List Frame} {meth : Method} {c : Code} {H : Heap} {locs : List Loc} {cells slots : Nat} {Q : State → Prop}
variable {cc : ByteArray} {pc : Nat} {ls : Array Slot} {rest : List Value}
theorem lgc_eq {a b : Nat} (ha : a < 2 ^ 63) (hb : b < 2 ^ 63) : lg_cmp (lN a) (lN b) = 0 ↔ a = b := by
  have h := pk_lLT hb ha
  unfold lg_cmp
  rcases Nat.lt_trichotomy a b with q | q | q
  · have n1 : ¬ lN a > lN b := fun z => by have := h.mp z; omega
    have n2 : ¬ lN a = lN b := fun z => by have := (pk_lEQ ha hb).mp z; omega
    rw [if_neg n1, if_neg n2]
    exact ⟨fun z => absurd z (by decide), fun z => by omega⟩
  · subst q
    rw [if_neg (fun z => by have := h.mp z; omega), if_pos rfl]
    exact ⟨fun _ => rfl, fun _ => rfl⟩
  · rw [if_pos (h.mpr q)]
    exact ⟨fun z => absurd z (by decide), fun z => by omega⟩
theorem mv_lcmp_eq (hx : p.tables.exec = Jvm.exec) (hb : c.code = cc) {a b : Nat} (ha : a < 2 ^ 63) (hb2 : b < 2 ^ 63) {off : Int} {tgt : Nat} (hdg : decode cc pc = .ok (.ifCond .eq off, 3)) (ht : (pc : Int) + off = (tgt : Int)) (kt : a = b → W p l e R s m args below meth c H locs cells slots Q (F0 m tgt ls rest)) (kf : a ≠ b → W p l e R s m args below meth c H locs cells slots Q (F0 m (pc + 3) ls rest)) : W p l e R s m args below meth c H locs cells slots Q (F0 m pc ls (.int (lg_cmp (lN a) (lN b)) :: rest)) := lv_if_eq hx hb hdg ht (fun h => kt ((lgc_eq ha hb2).mp h)) (fun h => kf fun q => h ((lgc_eq ha hb2).mpr q))
theorem mv_lcmp_ge (hx : p.tables.exec = Jvm.exec) (hb : c.code = cc) {a b : Nat} (ha : a < 2 ^ 63) (hb2 : b < 2 ^ 63) {off : Int} {tgt : Nat} (hdg : decode cc pc = .ok (.ifCond .ge off, 3)) (ht : (pc : Int) + off = (tgt : Int)) (kt : b ≤ a → W p l e R s m args below meth c H locs cells slots Q (F0 m tgt ls rest)) (kf : a < b → W p l e R s m args below meth c H locs cells slots Q (F0 m (pc + 3) ls rest)) : W p l e R s m args below meth c H locs cells slots Q (F0 m pc ls (.int (lg_cmp (lN a) (lN b)) :: rest)) := lv_if_ge hx hb hdg ht (fun h => kt ((pk_lLE hb2 ha).mp ((lg_cmp_ge _ _).mp h))) (fun h => kf (Nat.not_le.mp fun q => h ((lg_cmp_ge _ _).mpr ((pk_lLE hb2 ha).mpr q))))
theorem nI_eqW {a b : Nat} (ha : a < 2 ^ 32) (hb : b < 2 ^ 32) : nI a = nI b ↔ a = b := by
  constructor
  · intro h
    have h2 := congrArg (fun z : Int32 => z.toBitVec.toNat) h
    simp only [mv_tn] at h2
    omega
  · intro h; rw [h]
theorem mv_icmp_eqW (hx : p.tables.exec = Jvm.exec) (hb : c.code = cc) {a b : Nat} (ha : a < 2 ^ 32) (hb2 : b < 2 ^ 32) {off : Int} {tgt : Nat} (hdg : decode cc pc = .ok (.if_icmp .eq off, 3)) (ht : (pc : Int) + off = (tgt : Int)) (kt : a = b → W p l e R s m args below meth c H locs cells slots Q (F0 m tgt ls rest)) (kf : a ≠ b → W p l e R s m args below meth c H locs cells slots Q (F0 m (pc + 3) ls rest)) : W p l e R s m args below meth c H locs cells slots Q (F0 m pc ls (.int (nI b) :: .int (nI a) :: rest)) := lv_icmp_eq hx hb hdg ht (fun h => kt ((nI_eqW ha hb2).mp h)) (fun h => kf fun q => h ((nI_eqW ha hb2).mpr q))
end MV7
theorem sub1_neg {k : Nat} (hk : k < 2 ^ 30) : nI k - nI 1 < 0 ↔ k = 0 := by
  rw [Int32.lt_iff_toInt_lt, pk_sub_toInt hk (by decide)]
  have h0 : (0 : Int32).toInt = 0 := by decide
  omega
theorem dec_sub (k : Nat) : nI k + Int32.ofInt (-1) = nI k - nI 1 := by
  rw [Int32.sub_eq_add_neg]
  rfl
/-! what to wear: of the robes 0 to r-1 as the next, what worn costs, and which is next -/
def pbS (h so : Nat → Nat) (wn : Nat) (f n : Nat → Nat) : Nat → (Nat → Nat) × (Nat → Nat)
  | 0 => (uN f wn 0, uN n wn 4294967290)
  | r + 1 => if wn / 2 ^ r % 2 = 0 then (if (pbS h so wn f n r).2 wn = 4294967290 ∨ popc (h r &&& so (popc wn)) + (pbS h so wn f n r).1 (wn ||| 1 * 2 ^ r) < (pbS h so wn f n r).1 wn then (uN (pbS h so wn f n r).1 wn (popc (h r &&& so (popc wn)) + (pbS h so wn f n r).1 (wn ||| 1 * 2 ^ r)), uN (pbS h so wn f n r).2 wn r) else pbS h so wn f n r) else pbS h so wn f n r
def pbF (h so : Nat → Nat) (wn : Nat) (f n : Nat → Nat) : (Nat → Nat) × (Nat → Nat) := if 5 ≤ popc wn then pbS h so wn f n 0 else pbS h so wn f n 6
def plS (h so : Nat → Nat) (f n : Nat → Nat) : Nat → (Nat → Nat) × (Nat → Nat)
  | 0 => (f, n)
  | k + 1 => pbF h so (63 - k) (plS h so f n k).1 (plS h so f n k).2
def rfS (nx : Nat → Nat) : Nat → Nat
  | 0 => 0
  | k + 1 => rfS nx k ||| 1 * 2 ^ nx (rfS nx k % 64)
theorem pbS_hi {h so : Nat → Nat} {wn : Nat} {f n : Nat → Nat} : ∀ r j, j ≠ wn → (pbS h so wn f n r).1 j = f j ∧ (pbS h so wn f n r).2 j = n j := by
  intro r
  induction r with
  | zero => intro j hj; exact ⟨uN_n _ _ hj, uN_n _ _ hj⟩
  | succ r ih =>
    intro j hj
    unfold pbS
    split
    · split
      · exact ⟨(uN_n _ _ hj).trans (ih j hj).1, (uN_n _ _ hj).trans (ih j hj).2⟩
      · exact ih j hj
    · exact ih j hj
theorem or_new {w r : Nat} (h : w / 2 ^ r % 2 = 0) : w ||| 1 * 2 ^ r = w + 2 ^ r := by
  have h1 : w = 2 ^ (r + 1) * (w / 2 ^ (r + 1)) + w % 2 ^ r := by
    have e1 := Nat.div_add_mod w (2 ^ (r + 1))
    have e2 : w % 2 ^ (r + 1) = w % 2 ^ r := by
      rw [Nat.mod_pow_succ, h]
      omega
    omega
  have hlt : w % 2 ^ r < 2 ^ r := Nat.mod_lt _ (Nat.two_pow_pos r)
  have h2 : w % 2 ^ r ||| 2 ^ r = w % 2 ^ r + 2 ^ r := by
    have := Nat.two_pow_add_eq_or_of_lt hlt 1
    rw [Nat.mul_one] at this
    rw [Nat.or_comm, ← this, Nat.add_comm]
  have h3 := Nat.two_pow_add_eq_or_of_lt (show w % 2 ^ r < 2 ^ (r + 1) by rw [Nat.pow_succ]; omega) (w / 2 ^ (r + 1))
  have h4 := Nat.two_pow_add_eq_or_of_lt (show w % 2 ^ r + 2 ^ r < 2 ^ (r + 1) by rw [Nat.pow_succ]; omega) (w / 2 ^ (r + 1))
  rw [Nat.one_mul]
  conv => lhs; rw [h1, h3, Nat.or_assoc, h2, ← h4]
  omega
theorem pbS_bd {h so : Nat → Nat} {wn : Nat} {f n : Nat → Nat} (hw : wn < 64) (hf : ∀ j, wn < j → j < 64 → f j ≤ 16 * (63 - j)) : ∀ r, r ≤ 6 → ∀ j, wn ≤ j → j < 64 → (pbS h so wn f n r).1 j ≤ 16 * (63 - j) := by
  intro r
  induction r with
  | zero =>
    intro _ j h1 h2
    show uN f wn 0 j ≤ _
    by_cases e : j = wn
    · rw [e, uN_s]; omega
    · rw [uN_n _ _ e]
      exact hf j (by omega) h2
  | succ r ih =>
    intro hr j h1 h2
    have ih := ih (by omega)
    unfold pbS
    split
    · next q =>
      split
      · show uN _ _ _ j ≤ _
        by_cases e : j = wn
        · rw [e, uN_s]
          have a1 := popc_le (h r &&& so (popc wn))
          have a2 := or_new q
          have a3 : wn ||| 1 * 2 ^ r < 2 ^ 6 := or_lt _ _ hw (p2_lt (by omega))
          have a4 := Nat.two_pow_pos r
          have a5 := ih (wn ||| 1 * 2 ^ r) (by omega) (by omega)
          omega
        · rw [uN_n _ _ e]
          exact ih j h1 h2
      · exact ih j h1 h2
    · exact ih j h1 h2
theorem pbF_bd {h so : Nat → Nat} {wn : Nat} {f n : Nat → Nat} (hw : wn < 64) (hf : ∀ j, wn < j → j < 64 → f j ≤ 16 * (63 - j)) : ∀ j, wn ≤ j → j < 64 → (pbF h so wn f n).1 j ≤ 16 * (63 - j) := by
  unfold pbF
  split
  · exact pbS_bd hw hf 0 (by omega)
  · exact pbS_bd hw hf 6 (by omega)
/-! chances -/
def wayS (t : Nat) : Nat → Nat → Nat
  | 0, j => if j = 0 then 1 else 0
  | n + 1, 0 => wayS t n 0 * (10 - t)
  | n + 1, j + 1 => wayS t n (j + 1) * (10 - t) + wayS t n j * t
def sgS (w : Nat → Nat) (k : Nat) : Nat → Nat
  | 0 => 0
  | c + 1 => sgS w k c + w (k + c)
theorem wayS_hi (t : Nat) : ∀ n j, n < j → wayS t n j = 0 := by
  intro n
  induction n with
  | zero => intro j h; exact if_neg (by omega)
  | succ n ih =>
    intro j h
    cases j with
    | zero => omega
    | succ j =>
      show wayS t n (j + 1) * (10 - t) + wayS t n j * t = 0
      rw [ih (j + 1) (by omega), ih j (by omega)]
      omega
theorem sgS_way (t n : Nat) : ∀ c, sgS (wayS t (n + 1)) 0 (c + 1) = sgS (wayS t n) 0 (c + 1) * (10 - t) + sgS (wayS t n) 0 c * t := by
  intro c
  induction c with
  | zero => simp [sgS, wayS]
  | succ c ih =>
    rw [sgS, ih]
    rw [show sgS (wayS t n) 0 (c + 1 + 1) = sgS (wayS t n) 0 (c + 1) + wayS t n (0 + (c + 1)) from rfl, show sgS (wayS t n) 0 (c + 1) = sgS (wayS t n) 0 c + wayS t n (0 + c) from rfl]
    rw [Nat.zero_add, Nat.zero_add, show wayS t (n + 1) (c + 1) = wayS t n (c + 1) * (10 - t) + wayS t n c * t from rfl]
    simp only [Nat.add_mul]
    omega
theorem sgS_le {t : Nat} (ht : t ≤ 10) : ∀ n c, sgS (wayS t n) 0 c ≤ 10 ^ n := by
  intro n
  induction n with
  | zero =>
    intro c
    have : ∀ c, sgS (wayS t 0) 0 c ≤ 1 ∧ (c ≤ 1 → True) := by
      intro c
      induction c with
      | zero => exact ⟨Nat.zero_le 1, fun _ => trivial⟩
      | succ c ih =>
        refine ⟨?_, fun _ => trivial⟩
        cases c with
        | zero => simp [sgS, wayS]
        | succ c =>
          rw [sgS, show wayS t 0 (0 + (c + 1)) = 0 from if_neg (by omega)]
          exact ih.1
    exact (this c).1
  | succ n ih =>
    intro c
    cases c with
    | zero => exact Nat.zero_le _
    | succ c =>
      rw [sgS_way]
      have h1 := Nat.mul_le_mul_right (10 - t) (ih (c + 1))
      have h2 := Nat.mul_le_mul_right t (ih c)
      have h3 : 10 ^ (n + 1) = 10 ^ n * (10 - t) + 10 ^ n * t := by
        rw [← Nat.mul_add, Nat.sub_add_cancel ht, Nat.pow_succ]
      omega
theorem sgS_tail (w : Nat → Nat) (k : Nat) : ∀ c, sgS w k c + sgS w 0 k = sgS w 0 (k + c) := by
  intro c
  induction c with
  | zero => simp [sgS]
  | succ c ih =>
    rw [sgS, show k + (c + 1) = (k + c) + 1 from rfl, show sgS w 0 (k + c + 1) = sgS w 0 (k + c) + w (0 + (k + c)) from rfl, ← ih, Nat.zero_add]
    omega
theorem sgS_le2 {t : Nat} (ht : t ≤ 10) (n k c : Nat) : sgS (wayS t n) k c ≤ 10 ^ n := by
  have h1 := sgS_tail (wayS t n) k c
  have h2 := sgS_le ht n (k + c)
  omega
theorem ten_lt {n : Nat} (h : n ≤ 16) : 10 ^ n ≤ 10000000000000000 := Nat.pow_le_pow_right (by decide) h
theorem euclid_half {a b : Nat} (h : b ≤ a) (h0 : 0 < b) : 2 * (b * (a % b)) ≤ a * b := by
  have h1 : a % b < b := Nat.mod_lt _ h0
  have h2 : 2 * (a % b) ≤ a := by
    have := Nat.div_add_mod a b
    have h3 : 1 ≤ a / b := (Nat.le_div_iff_mul_le h0).mpr (by omega)
    have h4 : b * 1 ≤ b * (a / b) := Nat.mul_le_mul_left b h3
    omega
  have := Nat.mul_le_mul_left b h2
  rw [Nat.mul_comm a b]
  rw [← Nat.mul_assoc, Nat.mul_comm b 2, Nat.mul_assoc] at this
  exact this
theorem pbS_nx {h so : Nat → Nat} {wn : Nat} {f n : Nat → Nat} : ∀ r, r ≤ 6 → (pbS h so wn f n r).2 wn < 4294967296 := by
  intro r
  induction r with
  | zero =>
    intro _
    show uN n wn _ wn < _
    rw [uN_s]
    decide
  | succ r ih =>
    intro hr
    unfold pbS
    split
    · split
      · show uN _ wn r wn < _
        rw [uN_s]
        omega
      · exact ih (by omega)
    · exact ih (by omega)
