theorem flt_bd {g : Nat → Nat} {cnt : Nat} : ∀ n k, ∀ v, flt g cnt n k = some v → v < k + 2 * n + 2 := by
  intro n
  induction n with
  | zero => intro k v h; cases h
  | succ n ih =>
    intro k v h
    rw [flt] at h
    repeat' split at h
    · have := ih _ _ h; omega
    · cases h; omega
    · have := ih _ _ h; omega
    · cases h; omega
    · cases h
theorem flt_obd (g : Nat → Nat) (cnt : Nat) : obd (flt g cnt 61 0) := fun v h => by
  have := flt_bd _ _ _ h
  omega
theorem fol_bd {g : Nat → Nat} {cnt : Nat} {ro sh : Nat → Nat} : ∀ n k a t, ∀ v, (fol g cnt ro sh n k a t).2.1 = some v → v < a + n + 1 := by
  intro n
  induction n with
  | zero => intro k a t v h; cases h
  | succ n ih =>
    intro k a t v h
    rw [fol] at h
    split at h
    · split at h
      · have := ih _ _ _ _ h
        omega
      · cases h
        omega
    · cases h
abbrev FRo (g : Nat → Nat) (cnt : Nat) (ro sh : Nat → Nat) (t : mvT) : Nat × Option Nat × Option Nat × mvT := fol g cnt ro sh 61 0 0 t
theorem FRo_obd (g : Nat → Nat) (cnt : Nat) (ro sh : Nat → Nat) (t : mvT) : obd (FRo g cnt ro sh t).2.1 := fun v h => by
  have := fol_bd _ _ _ _ _ h
  omega
def allB (g : Nat → Nat) (cnt : Nat) (ro sh : Nat → Nat) (t : mvT) : Bool := decide (flt g cnt 61 0 = none ∧ (FRo g cnt ro sh t).2.1 = none)
theorem obd_none : obd none := fun _ h => by cases h
/-! what the face answers, and what it leaves behind, by what the caller gives -/
abbrev tN (x : Int32) : Nat := x.toNatClampNeg
def sp_robe (gh gca : Nat → Nat) (prs : Nat) (x1 x2 x3 : Int32) : Int32 × (Nat → Nat) × (Nat → Nat) × Nat :=
  if inQ x1 0 5 then (if inQ x2 0 65535 then (if inQ x3 0 9 then (nI (gh x1.toNatClampNeg), uN gh x1.toNatClampNeg x2.toNatClampNeg, uN gca x1.toNatClampNeg x3.toNatClampNeg, prs &&& (1 * 2 ^ x1.toNatClampNeg ^^^ 4294967295)) else (-2, gh, gca, prs)) else (-2, gh, gca, prs)) else (nI 4294967295, gh, gca, prs)
def sp_saying (gro gsh gun : Nat → Nat) (x1 x2 x3 x4 : Int32) : Int32 × (Nat → Nat) × (Nat → Nat) × (Nat → Nat) :=
  if inQ x1 0 9 then (if inQ x2 0 5 then (if inQ x3 0 65535 then (if inQ x4 0 9 then (nI (gun x1.toNatClampNeg), uN gro x1.toNatClampNeg x2.toNatClampNeg, uN gsh x1.toNatClampNeg x3.toNatClampNeg, uN gun x1.toNatClampNeg x4.toNatClampNeg) else (-2, gro, gsh, gun)) else (-2, gro, gsh, gun)) else (nI 4294967295, gro, gsh, gun)) else (nI 4294967295, gro, gsh, gun)
def sp_occ (gso : Nat → Nat) (x1 x2 : Int32) : Int32 × (Nat → Nat) :=
  if inQ x1 0 4 then (if inQ x2 0 65535 then (nI (gso x1.toNatClampNeg), uN gso x1.toNatClampNeg x2.toNatClampNeg) else (-2, gso)) else (nI 4294967295, gso)
def sp_say (g : Nat → Nat) (cnt : Nat) (x1 : Int32) : Int32 × (Nat → Nat) × Nat :=
  if inQ x1 33 126 then (if 60 ≤ cnt then (-4, g, cnt) else (nI (cnt + 1), uN g cnt x1.toNatClampNeg, cnt + 1)) else (-2, g, cnt)
def sp_judge (g : Nat → Nat) (cnt : Nat) (ro sh : Nat → Nat) (t : mvT) (x1 : Int32) : Int32 :=
  if inQ x1 0 1 then (if flt g cnt 61 0 = none then (if x1.toNatClampNeg = 0 then oI (FRo g cnt ro sh t).2.1 else oI (FRo g cnt ro sh t).2.2.1) else -5) else -2
def sp_done (g : Nat → Nat) (cnt : Nat) (ro sh : Nat → Nat) (t : mvT) : Int32 × (Nat → Nat) × (Nat → Nat) × Nat × Nat × (Nat → Nat) × Nat :=
  if allB g cnt ro sh t then (nI (FRo g cnt ro sh t).1, (FRo g cnt ro sh t).2.2.2.1, (FRo g cnt ro sh t).2.2.2.2.1, (FRo g cnt ro sh t).2.2.2.2.2.1, (FRo g cnt ro sh t).2.2.2.2.2.2.1, (FRo g cnt ro sh t).2.2.2.2.2.2.2.1, 0) else (-5, t.1, t.2.1, t.2.2.1, t.2.2.2.1, t.2.2.2.2.1, cnt)
def sp_behind (g : Nat → Nat) (cnt : Nat) (ro sh : Nat → Nat) (t : mvT) (x1 x2 : Int32) : Int32 :=
  if inQ x1 0 5 then (if inQ x2 0 2 then (if allB g cnt ro sh t then (if x2.toNatClampNeg = 0 then nI ((FRo g cnt ro sh t).2.2.2.1 x1.toNatClampNeg) else if x2.toNatClampNeg = 1 then nI ((FRo g cnt ro sh t).2.2.2.2.1 x1.toNatClampNeg) else nI ((FRo g cnt ro sh t).2.2.2.2.2.1 / 2 ^ x1.toNatClampNeg % 2)) else -5) else -2) else nI 4294967295
def sp_untrue (g : Nat → Nat) (cnt : Nat) (ro sh : Nat → Nat) (t : mvT) (x1 : Int32) : Int32 :=
  if inQ x1 0 9 then (if allB g cnt ro sh t then nI ((FRo g cnt ro sh t).2.2.2.2.2.2.2.1 x1.toNatClampNeg) else -5) else nI 4294967295
def sp_eaten (g : Nat → Nat) (cnt : Nat) (ro sh : Nat → Nat) (t : mvT) (x1 : Int32) : Int32 :=
  if inQ x1 0 3 then (if allB g cnt ro sh t then (if x1.toNatClampNeg = 0 then nI (FRo g cnt ro sh t).2.2.2.2.2.2.2.2.1 else if x1.toNatClampNeg = 1 then oI (FRo g cnt ro sh t).2.2.2.2.2.2.2.2.2.1 else if x1.toNatClampNeg = 2 then oI (FRo g cnt ro sh t).2.2.2.2.2.2.2.2.2.2 else nI (FRo g cnt ro sh t).2.2.2.2.2.2.1) else -5) else -2
theorem fol_ok {g : Nat → Nat} {cnt : Nat} {ro sh : Nat → Nat} (hr : ∀ s, s < 10 → ro s < 6) (hg : ∀ k, k < cnt → g k < 128) : ∀ n k a t, okT t → flt g cnt n k = none → okT (fol g cnt ro sh n k a t).2.2.2 := by
  intro n
  induction n with
  | zero => intro k a t h _; exact h
  | succ n ih =>
    intro k a t h hf
    rw [fol]
    split
    · next hk =>
      split
      · next hz =>
        have hv := fltn_valid hg hf hk
        have h2 := fltn_step hf hk
        have e : (if isLt (g k) = true then k + 2 else k + 1) = (if isLt (g k) = true then k + 1 else k) + 1 := by split <;> rfl
        rw [e]
        exact ih _ _ _ (actT_ok hr h hv.1 hv.2.2 hz) h2
      · exact h
    · exact h
