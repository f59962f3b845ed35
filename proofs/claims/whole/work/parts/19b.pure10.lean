theorem twS_ind {hol m v e : Nat} {t t2 : Nat → Nat} (hm : 1 ≤ m) (h : ∀ j, j ≤ e → t j = t2 j) : ∀ j, j ≤ e → twS hol m v e t j = twS hol m v e t2 j := by
  intro j hj
  unfold twS
  split
  · by_cases q : j = e
    · subst q
      rw [uN_s, uN_s, h j (Nat.le_refl _), h (j - m) (by omega)]
    · rw [uN_n _ _ q, uN_n _ _ q]
      exact h j hj
  · exact h j hj
theorem tbS_ind {hol m v n w : Nat} {g g2 : Nat → Nat} (hm : 1 ≤ m) (hn : 1 ≤ n) : ∀ c j, j ≤ c → tbS hol m v n w g c j = tbS hol m v n w g2 c j := by
  intro c
  induction c with
  | zero =>
    intro j hj
    rw [show j = 0 by omega]
    show uN g 0 0 0 = uN g2 0 0 0
    rw [uN_s, uN_s]
  | succ c ih =>
    intro j hj
    refine twS_ind hn (twS_ind hm fun i hi => ?_) j hj
    by_cases q : i = c + 1
    · rw [q, uN_s, uN_s, ih c (Nat.le_refl _)]
    · rw [uN_n _ _ q, uN_n _ _ q]
      exact ih i (by omega)
def cutV (hol m v n w : Nat) : Nat := tbS hol m v n w (fun _ => 0) 16 16
theorem tryS_congr {a b : Nat → Nat} : ∀ k, (∀ j, j ≤ k → a j = b j) → tryS a k = tryS b k := by
  intro k
  induction k with
  | zero => intro _; rfl
  | succ k ih =>
    intro h
    have e := ih fun j hj => h j (by omega)
    unfold tryS
    rw [e, h (k + 1) (Nat.le_refl _), h (tryS b k) (by have := tryS_le b k; omega)]
theorem mlS_congr {a b : Nat → Nat} {n j : Nat} (h : a j = b j) : mlS a n j = mlS b n j := by
  unfold mlS
  rw [h]
/-! what to wear: the tables, whatever stood there -/
theorem pbS_congr {h so : Nat → Nat} {wn : Nat} {f n f2 n2 : Nat → Nat} (hf : ∀ j, wn < j → j < 64 → f j = f2 j) (hw : wn < 64) : ∀ r, r ≤ 6 → (pbS h so wn f n r).1 wn = (pbS h so wn f2 n2 r).1 wn ∧ (pbS h so wn f n r).2 wn = (pbS h so wn f2 n2 r).2 wn := by
  intro r
  induction r with
  | zero => intro _; exact ⟨by show uN f wn 0 wn = uN f2 wn 0 wn; rw [uN_s, uN_s], by show uN n wn _ wn = uN n2 wn _ wn; rw [uN_s, uN_s]⟩
  | succ r ih =>
    intro hr
    obtain ⟨i1, i2⟩ := ih (by omega)
    unfold pbS
    by_cases q : wn / 2 ^ r % 2 = 0
    · have a2 := or_new q
      have a3 : wn ||| 1 * 2 ^ r < 2 ^ 6 := or_lt _ _ hw (p2_lt (by omega))
      have a4 := Nat.two_pow_pos r
      have e1 : (pbS h so wn f n r).1 (wn ||| 1 * 2 ^ r) = (pbS h so wn f2 n2 r).1 (wn ||| 1 * 2 ^ r) := by
        rw [(pbS_hi r _ (by omega)).1, (pbS_hi r _ (by omega)).1]
        exact hf _ (by omega) (by omega)
      rw [if_pos q, if_pos q, e1, i1, i2]
      split
      · exact ⟨by dsimp only; rw [uN_s, uN_s], by dsimp only; rw [uN_s, uN_s]⟩
      · exact ⟨i1, i2⟩
    · rw [if_neg q, if_neg q]
      exact ⟨i1, i2⟩
theorem pbF_congr {h so : Nat → Nat} {wn : Nat} {f n f2 n2 : Nat → Nat} (hf : ∀ j, wn < j → j < 64 → f j = f2 j) (hw : wn < 64) : (pbF h so wn f n).1 wn = (pbF h so wn f2 n2).1 wn ∧ (pbF h so wn f n).2 wn = (pbF h so wn f2 n2).2 wn := by
  unfold pbF
  split
  · exact pbS_congr hf hw 0 (by omega)
  · exact pbS_congr hf hw 6 (by omega)
theorem pbF_hi {h so : Nat → Nat} {wn : Nat} {f n : Nat → Nat} {j : Nat} (hj : j ≠ wn) : (pbF h so wn f n).1 j = f j ∧ (pbF h so wn f n).2 j = n j := by
  unfold pbF
  split
  · exact pbS_hi 0 j hj
  · exact pbS_hi 6 j hj
theorem plS_ind {h so : Nat → Nat} {f n f2 n2 : Nat → Nat} : ∀ k, k ≤ 64 → ∀ j, 64 - k ≤ j → j < 64 → (plS h so f n k).1 j = (plS h so f2 n2 k).1 j ∧ (plS h so f n k).2 j = (plS h so f2 n2 k).2 j := by
  intro k
  induction k with
  | zero => intro _ j h1 h2; omega
  | succ k ih =>
    intro hk j h1 h2
    have ih := ih (by omega)
    show (pbF h so (63 - k) _ _).1 j = _ ∧ _
    by_cases q : j = 63 - k
    · subst q
      exact pbF_congr (fun j h3 h4 => (ih j (by omega) h4).1) (by omega)
    · obtain ⟨a1, a2⟩ := pbF_hi (h := h) (so := so) (f := (plS h so f n k).1) (n := (plS h so f n k).2) q
      obtain ⟨b1, b2⟩ := pbF_hi (h := h) (so := so) (f := (plS h so f2 n2 k).1) (n := (plS h so f2 n2 k).2) q
      obtain ⟨c1, c2⟩ := ih j (by omega) h2
      exact ⟨a1.trans (c1.trans b1.symm), a2.trans (c2.trans b2.symm)⟩
theorem pbS_nxt {h so : Nat → Nat} {wn : Nat} {f n : Nat → Nat} : ∀ r, r ≤ 6 → ((pbS h so wn f n r).2 wn = 4294967290 ∧ ∀ i, i < r → wn / 2 ^ i % 2 = 1) ∨ ((pbS h so wn f n r).2 wn < r ∧ wn / 2 ^ (pbS h so wn f n r).2 wn % 2 = 0) := by
  intro r
  induction r with
  | zero => intro _; exact Or.inl ⟨by show uN n wn _ wn = _; rw [uN_s], fun i hi => by omega⟩
  | succ r ih =>
    intro hr
    have hb : wn / 2 ^ r % 2 < 2 := Nat.mod_lt _ (by decide)
    unfold pbS
    split
    · next q =>
      split
      · refine Or.inr ?_
        dsimp only
        rw [uN_s]
        exact ⟨by omega, q⟩
      · next q2 =>
        rcases ih (by omega) with ⟨e1, e2⟩ | ⟨e1, e2⟩
        · exact absurd (Or.inl e1) q2
        · exact Or.inr ⟨by omega, e2⟩
    · next q =>
      rcases ih (by omega) with ⟨e1, e2⟩ | ⟨e1, e2⟩
      · refine Or.inl ⟨e1, fun i hi => ?_⟩
        rcases Nat.lt_or_ge i r with z | z
        · exact e2 i z
        · rw [show i = r by omega]
          omega
      · exact Or.inr ⟨by omega, e2⟩
theorem w64_a : ∀ w, w < 64 → popc w < 5 → ∃ r, r < 6 ∧ w / 2 ^ r % 2 = 0 := by decide +kernel
theorem w64_b : ∀ w, w < 64 → ∀ r, r < 6 → w / 2 ^ r % 2 = 0 → popc (w ||| 1 * 2 ^ r) = popc w + 1 := by decide +kernel
theorem plS_nxt {h so : Nat → Nat} {f n : Nat → Nat} : ∀ k, k ≤ 64 → ∀ j, 64 - k ≤ j → j < 64 → popc j < 5 → (plS h so f n k).2 j < 6 ∧ j / 2 ^ (plS h so f n k).2 j % 2 = 0 := by
  intro k
  induction k with
  | zero => intro _ j h1 h2; omega
  | succ k ih =>
    intro hk j h1 h2 hp
    show (pbF h so (63 - k) _ _).2 j < 6 ∧ j / 2 ^ (pbF h so (63 - k) _ _).2 j % 2 = 0
    by_cases q : j = 63 - k
    · subst q
      unfold pbF
      rw [if_neg (by omega)]
      rcases pbS_nxt (h := h) (so := so) (wn := 63 - k) (f := (plS h so f n k).1) (n := (plS h so f n k).2) 6 (Nat.le_refl _) with ⟨-, e⟩ | e
      · obtain ⟨r, hr, hz⟩ := w64_a (63 - k) (by omega) hp
        have := e r hr
        omega
      · exact e
    · rw [(pbF_hi q).2]
      exact ih (by omega) j (by omega) h2 hp
theorem rfS_ok {nx : Nat → Nat} (hn : ∀ j, j < 64 → popc j < 5 → nx j < 6 ∧ j / 2 ^ nx j % 2 = 0) : ∀ k, k ≤ 5 → rfS nx k < 64 ∧ popc (rfS nx k) = k := by
  intro k
  induction k with
  | zero => intro _; exact ⟨(by decide : (0 : Nat) < 64), (by decide : popc 0 = 0)⟩
  | succ k ih =>
    intro hk
    obtain ⟨i1, i2⟩ := ih (by omega)
    obtain ⟨j1, j2⟩ := hn (rfS nx k) i1 (by omega)
    have e : rfS nx k % 64 = rfS nx k := Nat.mod_eq_of_lt i1
    show rfS nx k ||| 1 * 2 ^ nx (rfS nx k % 64) < 64 ∧ popc (rfS nx k ||| 1 * 2 ^ nx (rfS nx k % 64)) = k + 1
    rw [e]
    exact ⟨or_lt (k := 6) _ _ i1 (p2_lt j1), by rw [w64_b _ i1 _ j1 j2, i2]⟩
theorem rfS_congr {a b : Nat → Nat} (h : ∀ j, j < 64 → a j = b j) : ∀ k, rfS a k = rfS b k := by
  intro k
  induction k with
  | zero => rfl
  | succ k ih =>
    unfold rfS
    rw [ih, h _ (Nat.mod_lt _ (by decide))]
def plF (h so f n : Nat → Nat) (k : Nat) : Nat → Nat := (plS h so f n k).1
def plN (h so f n : Nat → Nat) (k : Nat) : Nat → Nat := (plS h so f n k).2
def wrF (h so : Nat → Nat) : Nat := (plS h so (fun _ => 0) (fun _ => 0) 64).1 0
def wrN (h so : Nat → Nat) : Nat → Nat := (plS h so (fun _ => 0) (fun _ => 0) 64).2
def wrR (h so : Nat → Nat) (k : Nat) : Nat := wrN h so (rfS (wrN h so) k % 64)
theorem wrF_eq {h so f n : Nat → Nat} : plF h so f n 64 0 = wrF h so := (plS_ind 64 (Nat.le_refl _) 0 (by decide) (by decide)).1
theorem wrR_eq {h so f n : Nat → Nat} (k : Nat) : plN h so f n 64 (rfS (plN h so f n 64) k % 64) = wrR h so k := by
  unfold plN
  have e : ∀ j, j < 64 → (plS h so f n 64).2 j = wrN h so j := fun j hj => (plS_ind 64 (Nat.le_refl _) j (by omega) hj).2
  unfold wrR
  rw [rfS_congr e, e _ (Nat.mod_lt _ (by decide))]
theorem wr_path {h so f n : Nat → Nat} : ∀ k, k ≤ 4 → plN h so f n 64 (rfS (plN h so f n 64) k % 64) < 6 := by
  unfold plN
  intro k hk
  have hn : ∀ j, j < 64 → popc j < 5 → (plS h so f n 64).2 j < 6 ∧ j / 2 ^ (plS h so f n 64).2 j % 2 = 0 := fun j hj hp => plS_nxt 64 (Nat.le_refl _) j (by omega) hj hp
  obtain ⟨i1, i2⟩ := rfS_ok hn k (by omega)
  rw [Nat.mod_eq_of_lt i1]
  exact (hn _ i1 (by omega)).1
theorem drw_ok {ro sh : Nat → Nat} (hr : ∀ s, s < 10 → ro s < 6) : ∀ n x a t, okT t → okT (drw ro sh n x a t) := by
  intro n
  induction n with
  | zero => intro x a t h; exact h
  | succ n ih =>
    intro x a t h
    rw [drw]
    split
    · next hz =>
      have hv := drawn_valid (nxX x)
      exact ih _ _ _ (actT_ok hr h hv.1 hv.2.2 hz)
    · exact ih _ _ _ h
/-! the face, second half -/
def sp_blame (gh gro gsh : Nat → Nat) (x1 x2 : Int32) : Int32 :=
  if inQ x1 0 5 then (if inQ x2 0 1 then (if x2.toNatClampNeg = 0 then oI ((blS (sinS gro x1.toNatClampNeg 10) (gh x1.toNatClampNeg) gsh 1024).map popc) else oI (blS (sinS gro x1.toNatClampNeg 10) (gh x1.toNatClampNeg) gsh 1024)) else -2) else nI 4294967295
def sp_cuts (gh : Nat → Nat) (x1 x2 x3 x4 x5 : Int32) : Int32 :=
  if inQ x1 0 5 then (if inQ x2 1 16 then (if inQ x3 0 99 then (if inQ x4 1 16 then (if inQ x5 0 99 then nI (cutV (gh x1.toNatClampNeg) x2.toNatClampNeg x3.toNatClampNeg x4.toNatClampNeg x5.toNatClampNeg) else -2) else -2) else -2) else -2) else nI 4294967295
def sp_wear (gh gso : Nat → Nat) (x1 : Int32) : Int32 :=
  if x1 = nI 4294967295 then nI (wrF gh gso) else if inQ x1 0 4 then nI (wrR gh gso x1.toNatClampNeg) else nI 4294967295
def sp_seen (gsi : Nat → Nat) (bs sc : Nat) (x1 : Int32) (b : Nat) : Int32 × (Nat → Nat) × Nat × Nat :=
  if inQ x1 1 1023 then (if 8 ≤ sc then (-4, gsi, bs, sc) else (nI (sc + 1), uN gsi sc x1.toNatClampNeg, addB bs sc b, sc + 1)) else (-2, gsi, bs, sc)
def sp_liars (gsi : Nat → Nat) (bs sc : Nat) (x1 x2 : Int32) : Int32 :=
  if inQ x1 0 3 then (if inQ x2 0 2 then (if x2.toNatClampNeg = 0 then nI (nuS (ftS x1.toNatClampNeg gsi bs sc) 1024) else if x2.toNatClampNeg = 1 then nI (smS (ftS x1.toNatClampNeg gsi bs sc) 1024) else nI (if nuS (ftS x1.toNatClampNeg gsi bs sc) 1024 = 0 then 0 else alS (ftS x1.toNatClampNeg gsi bs sc) 1024)) else -2) else -2
def trM (ft : Nat → Bool) : Nat → Nat := mlS (fun j => cvS ft j 1024) (nuS ft 1024)
def sp_tries (gsi : Nat → Nat) (bs sc : Nat) (x1 x2 : Int32) : Int32 :=
  if inQ x1 0 3 then (if inQ x2 0 1 then (if nuS (ftS x1.toNatClampNeg gsi bs sc) 1024 = 0 then -6 else if x2.toNatClampNeg = 0 then nI (tryS (trM (ftS x1.toNatClampNeg gsi bs sc)) 9) else nI (trM (ftS x1.toNatClampNeg gsi bs sc) (tryS (trM (ftS x1.toNatClampNeg gsi bs sc)) 9))) else -2) else -2
def sp_darns (gh : Nat → Nat) (x1 x2 : Int32) : Int32 :=
  if inQ x1 0 5 then (if inQ x2 0 1 then (if x2.toNatClampNeg = 1 then oI (wdS (gh x1.toNatClampNeg) 16 0) else nI (if wdS (gh x1.toNatClampNeg) 16 0 = none then 0 else 1)) else -2) else nI 4294967295
def chV (n t k pt : Nat) : Nat := (if pt = 0 then sgS (wayS t n) k (n + 1 - k) else 10 ^ n) / Nat.gcd (10 ^ n) (sgS (wayS t n) k (n + 1 - k))
def sp_chance (x1 x2 x3 x4 : Int32) : Int64 :=
  if inQ x1 0 16 then (if inQ x2 0 10 then (if inQ x3 0 16 then (if inQ x4 0 1 then lN (chV x1.toNatClampNeg x2.toNatClampNeg x3.toNatClampNeg x4.toNatClampNeg) else -1000000000000000002) else -1000000000000000002) else -1000000000000000002) else -1000000000000000002
def sp_year (ro sh : Nat → Nat) (t : mvT) (x1 x2 x3 : Int32) : Int32 :=
  if inQ x1 0 9999 then (if inQ x2 1 99 then (if inQ x3 0 2 then (if x3.toNatClampNeg = 0 then nI (whC (drw ro sh x2.toNatClampNeg x1.toNatClampNeg 0 t).1 6) else if x3.toNatClampNeg = 1 then nI (drw ro sh x2.toNatClampNeg x1.toNatClampNeg 0 t).2.2.2.2.2.1 else nI (popc (flsS (drw ro sh x2.toNatClampNeg x1.toNatClampNeg 0 t).2.2.2.2.1 10))) else -2) else -2) else -2
def taS (cnt yrs prs sc : Nat) (gun : Nat → Nat) (k : Nat) : Nat := if k = 0 then cnt else if k = 1 then yrs else if k = 2 then prs else if k = 3 then sc else flsS gun 10
def trS (gh gca : Nat → Nat) (k it : Nat) : Int32 := if it = 0 then nI (gh k) else if it = 1 then nI (gca k) else -2
def tsS (gro gsh gun : Nat → Nat) (k it : Nat) : Int32 := if it = 0 then nI (gro k) else if it = 1 then nI (gsh k) else if it = 2 then nI (gun k) else -2
def sp_told (cnt yrs prs sc : Nat) (gh gca gro gsh gun gso : Nat → Nat) (x1 : Int32) : Int32 :=
  if inQ x1 0 4 then nI (taS cnt yrs prs sc gun x1.toNatClampNeg) else if inQ x1 10 69 then trS gh gca (x1.toNatClampNeg / 10 - 1) (x1.toNatClampNeg % 10) else if inQ x1 100 199 then tsS gro gsh gun ((x1.toNatClampNeg - 100) / 10) (x1.toNatClampNeg % 10) else if inQ x1 200 204 then nI (gso (x1.toNatClampNeg - 200)) else -2
theorem wdS_bd (hol : Nat) : ∀ n k, obn (2 * (k + n) + 2) (wdS hol n k) := by
  intro n
  induction n with
  | zero => intro k v h; cases h
  | succ n ih =>
    intro k v h
    rw [wdS] at h
    split at h
    · cases h; omega
    · split at h
      · cases h; omega
      · have := ih _ _ h
        omega
theorem wr_ret0 (h so f n : Nat → Nat) : nI (plF h so f n 64 0) = nI (wrF h so) := congrArg nI (wrF_eq (h := h) (so := so) (f := f) (n := n))
theorem wr_ret1 (h so f n : Nat → Nat) (k : Nat) : nI (plN h so f n 64 (rfS (plN h so f n 64) k % 64)) = nI (wrR h so k) := congrArg nI (wrR_eq (h := h) (so := so) (f := f) (n := n) k)
theorem wr_fin0 (h so f n : Nat → Nat) : nI (plF h so f n 64 0) = sp_wear h so (nI 4294967295) := (wr_ret0 h so f n).trans (if_pos rfl).symm
