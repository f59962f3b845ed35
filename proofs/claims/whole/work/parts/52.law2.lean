abbrev lwA : Type := (Nat × Nat × Nat × Nat × Nat × Nat × Nat × Nat × Nat) × (Nat × Nat × Nat × Nat × Nat × Nat × Nat × Nat × Nat) × (Nat × Nat × Nat × Nat × Nat × Nat × Nat × Nat × Nat) × (Nat × Nat × Nat × Nat × Nat × Nat × Nat × Nat × Nat) × (Nat × Nat × Nat × Nat × Nat × Nat × Nat × Nat × Nat)
abbrev lwI : Type := (Nat × Nat × Nat × Nat × Nat × Nat × Nat × Nat) × (Nat × Nat × Nat × Nat) × ((Nat → Nat) × (Nat → Nat) × (Nat → Nat) × (Nat → Nat) × (Nat → Nat) × (Nat → Nat) × (Nat → Nat))
abbrev lwSt : Type := ((Nat → Nat) × (Nat → Nat) × (Nat → Nat) × (Nat → Nat) × (Nat → Nat) × (Nat → Nat) × (Nat → Nat) × (Nat → Nat)) × (Nat × Nat × Nat × Nat × Nat) × (Nat × Nat × Nat × Nat × Nat × Nat) × ((Nat → Nat) × (Nat → Nat) × (Nat → Nat) × (Nat → Nat) × (Nat → Nat) × (Nat → Nat) × (Nat → Nat)) × (Option Nat × Option Nat × Option Nat × Option Nat × Option Nat × Option Nat) × (Nat × Nat × Nat × Nat × Nat × Int32) × ((Nat → Nat) × (Nat → Nat) × (Nat → Nat) × (Nat → Nat) × (Nat → Nat) × (Nat → Nat) × (Nat → Nat)) × ((Nat → Nat) × (Nat → Nat) × (Nat → Nat) × (Nat → Nat) × (Nat → Nat) × (Nat → Nat)) × (Nat → Option lwI)
def lwWI (Y : Nat → ClassId) (d : lwI) : va_W := [(d.1.1, .inr (6, [.ref d.1.2.1, .ref d.1.2.2.1, .int (nI d.2.1.1), .int (nI d.2.1.2.1), .ref d.1.2.2.2.1, .ref d.1.2.2.2.2.1, .ref d.1.2.2.2.2.2.1, .ref d.1.2.2.2.2.2.2.1, .ref d.1.2.2.2.2.2.2.2, .int (nI d.2.1.2.2.1), .int (nI d.2.1.2.2.2)])), (d.1.2.1, .inl (Y 0, 6, .inl (aN d.2.2.1))), (d.1.2.2.1, .inl (Y 0, 6, .inl (aN d.2.2.2.1))), (d.1.2.2.2.1, .inl (Y 0, 10, .inl (aN d.2.2.2.2.1))), (d.1.2.2.2.2.1, .inl (Y 0, 10, .inl (aN d.2.2.2.2.2.1))), (d.1.2.2.2.2.2.1, .inl (Y 0, 10, .inl (aN d.2.2.2.2.2.2.1))), (d.1.2.2.2.2.2.2.1, .inl (Y 0, 5, .inl (aN d.2.2.2.2.2.2.2.1))), (d.1.2.2.2.2.2.2.2, .inl (Y 0, 8, .inl (aN d.2.2.2.2.2.2.2.2)))]
def lwT (Y : Nat → ClassId) : Option lwI → va_W
  | none => []
  | some d => lwWI Y d
def lwTl (Y : Nat → ClassId) (im : Nat → Option lwI) : va_W := lwT Y (im 0) ++ lwT Y (im 1)
def lwF (im : Nat → Option lwI) : Nat → Option Nat := fun j => (im j).map (fun d => d.1.1)
def lwX (Y : Nat → ClassId) (a : lwA) (S : lwSt) : va_W := [(a.1.1, .inr (7, [.ref a.1.2.1, .ref a.1.2.2.1, .ref a.1.2.2.2.1, .ref a.1.2.2.2.2.1, .ref a.1.2.2.2.2.2.1, .ref a.1.2.2.2.2.2.2.1, .ref a.1.2.2.2.2.2.2.2.1, .ref a.1.2.2.2.2.2.2.2.2])), (a.1.2.2.2.2.1, .inl (Y 3, 2, .inr (.inr (.inr (.inr (lwF S.2.2.2.2.2.2.2.2)))))), (a.1.2.1, .inr (6, [.ref a.2.1.1, .ref a.2.1.2.1, .int (nI S.2.1.1), .int (nI S.2.1.2.1), .ref a.2.1.2.2.1, .ref a.2.1.2.2.2.1, .ref a.2.1.2.2.2.2.1, .ref a.2.1.2.2.2.2.2.1, .ref a.2.1.2.2.2.2.2.2.1, .int (nI S.2.1.2.2.1), .int (nI S.2.1.2.2.2.1)])), (a.2.1.1, .inl (Y 0, 6, .inl (aN S.1.1))), (a.2.1.2.1, .inl (Y 0, 6, .inl (aN S.1.2.1))), (a.2.1.2.2.1, .inl (Y 0, 10, .inl (aN S.1.2.2.2.1))), (a.2.1.2.2.2.1, .inl (Y 0, 10, .inl (aN S.1.2.2.2.2.1))), (a.2.1.2.2.2.2.1, .inl (Y 0, 10, .inl (aN S.1.2.2.1))), (a.2.1.2.2.2.2.2.1, .inl (Y 0, 5, .inl (aN S.1.2.2.2.2.2.1))), (a.2.1.2.2.2.2.2.2.1, .inl (Y 0, 8, .inl (aN S.1.2.2.2.2.2.2.1))), (a.1.2.2.1, .inr (2, [.ref a.2.1.2.2.2.2.2.2.2.1, .int (nI S.2.1.2.2.2.2)])), (a.2.1.2.2.2.2.2.2.2.1, .inl (Y 0, 60, .inl (aN S.1.2.2.2.2.2.2.2))), (a.1.2.2.2.1, .inr (3, [.ref a.2.1.2.2.2.2.2.2.2.2, .int (nI S.2.2.1.1), .int (oI S.2.2.2.2.1.1), .int (oI S.2.2.2.2.1.2.1), .int (nI S.2.2.1.2.1), .int (oI S.2.2.2.2.1.2.2.1), .int (oI S.2.2.2.2.1.2.2.2.1)])), (a.2.1.2.2.2.2.2.2.2.2, .inr (6, [.ref a.2.2.1.1, .ref a.2.2.1.2.1, .int (nI S.2.2.1.2.2.1), .int (nI S.2.2.1.2.2.2.1), .ref a.2.2.1.2.2.1, .ref a.2.2.1.2.2.2.1, .ref a.2.2.1.2.2.2.2.1, .ref a.2.2.1.2.2.2.2.2.1, .ref a.2.2.1.2.2.2.2.2.2.1, .int (nI S.2.2.1.2.2.2.2.1), .int (nI S.2.2.1.2.2.2.2.2)])), (a.2.2.1.1, .inl (Y 0, 6, .inl (aN S.2.2.2.1.1))), (a.2.2.1.2.1, .inl (Y 0, 6, .inl (aN S.2.2.2.1.2.1))), (a.2.2.1.2.2.1, .inl (Y 0, 10, .inl (aN S.2.2.2.1.2.2.1))), (a.2.2.1.2.2.2.1, .inl (Y 0, 10, .inl (aN S.2.2.2.1.2.2.2.1))), (a.2.2.1.2.2.2.2.1, .inl (Y 0, 10, .inl (aN S.2.2.2.1.2.2.2.2.1))), (a.2.2.1.2.2.2.2.2.1, .inl (Y 0, 5, .inl (aN S.2.2.2.1.2.2.2.2.2.1))), (a.2.2.1.2.2.2.2.2.2.1, .inl (Y 0, 8, .inl (aN S.2.2.2.1.2.2.2.2.2.2))), (a.1.2.2.2.2.2.1, .inr (4, [.ref a.2.2.1.2.2.2.2.2.2.2.1, .int (nI S.2.2.2.2.2.1.1), .int (nI S.2.2.2.2.2.1.2.1), .int (nI S.2.2.2.2.2.1.2.2.1)])), (a.2.2.1.2.2.2.2.2.2.2.1, .inl (Y 0, 10, .inl (aN S.2.2.2.2.2.2.1.1))), (a.1.2.2.2.2.2.2.1, .inr (5, [.ref a.2.2.1.2.2.2.2.2.2.2.2])), (a.2.2.1.2.2.2.2.2.2.2.2, .inl (Y 0, 17, .inl (aN S.2.2.2.2.2.2.1.2.1))), (a.1.2.2.2.2.2.2.2.1, .inr (0, [.ref a.2.2.2.1.1, .ref a.2.2.2.1.2.1])), (a.2.2.2.1.1, .inl (Y 0, 64, .inl (aN S.2.2.2.2.2.2.1.2.2.1))), (a.2.2.2.1.2.1, .inl (Y 0, 64, .inl (aN S.2.2.2.2.2.2.1.2.2.2.1))), (a.1.2.2.2.2.2.2.2.2, .inr (1, [.ref a.2.2.2.1.2.2.1])), (a.2.2.2.1.2.2.1, .inl (Y 1, 17, .inr (.inl (aL S.2.2.2.2.2.2.1.2.2.2.2.1)))), (a.2.2.2.1.2.2.2.1, .inr (8, [.ref a.2.2.2.1.2.2.2.2.1, .ref a.2.2.2.1.2.2.2.2.2.1, .ref a.2.2.2.1.2.2.2.2.2.2.1, .ref a.2.2.2.1.2.2.2.2.2.2.2.1, .ref a.2.2.2.1.2.2.2.2.2.2.2.2, .int (nI S.2.1.2.2.2.1), .ref a.2.2.2.2.1, .int (nI S.2.1.2.2.2.2), .ref a.2.2.2.2.2.1, .int (nI S.2.2.2.2.2.1.2.2.2.1), .int (oI S.2.2.2.2.1.2.2.2.2.1), .int (oI S.2.2.2.2.1.2.2.2.2.2), .int S.2.2.2.2.2.1.2.2.2.2.2, .int (nI S.2.2.2.2.2.1.2.2.2.2.1), .ref a.2.2.2.2.2.2.1, .ref a.2.2.2.2.2.2.2.1, .ref a.2.2.2.2.2.2.2.2.1, .ref a.2.2.2.2.2.2.2.2.2.1, .ref a.2.2.2.2.2.2.2.2.2.2.1, .ref a.2.2.2.2.2.2.2.2.2.2.2.1, .ref a.2.2.2.2.2.2.2.2.2.2.2.2])), (a.2.2.2.1.2.2.2.2.1, .inl (Y 0, 24, .inl (aN (bk S.1.1 S.1.2.1 S.1.2.2.1 S.2.1.1 S.2.1.2.1)))), (a.2.2.2.1.2.2.2.2.2.1, .inl (Y 0, 24, .inl (aN S.2.2.2.2.2.2.1.2.2.2.2.2.1))), (a.2.2.2.1.2.2.2.2.2.2.1, .inl (Y 0, 10, .inl (aN S.1.2.2.2.1))), (a.2.2.2.1.2.2.2.2.2.2.2.1, .inl (Y 0, 10, .inl (aN S.1.2.2.2.2.1))), (a.2.2.2.1.2.2.2.2.2.2.2.2, .inl (Y 0, 5, .inl (aN S.1.2.2.2.2.2.1))), (a.2.2.2.2.1, .inl (Y 0, 16, .inl (aN (sgt S.1.2.2.2.2.2.2.1 S.2.1.2.2.1)))), (a.2.2.2.2.2.1, .inl (Y 0, 60, .inl (aN S.1.2.2.2.2.2.2.2))), (a.2.2.2.2.2.2.1, .inl (Y 0, 17, .inl (aN S.2.2.2.2.2.2.1.2.2.2.2.2.2))), (a.2.2.2.2.2.2.2.1, .inl (Y 0, 10, .inl (aN S.2.2.2.2.2.2.2.1.1))), (a.2.2.2.2.2.2.2.2.1, .inl (Y 0, 17, .inl (aN S.2.2.2.2.2.2.2.1.2.1))), (a.2.2.2.2.2.2.2.2.2.1, .inl (Y 2, 40, .inl (aN S.2.2.2.2.2.2.2.1.2.2.1))), (a.2.2.2.2.2.2.2.2.2.2.1, .inl (Y 1, 17, .inr (.inl (aL S.2.2.2.2.2.2.2.1.2.2.2.1)))), (a.2.2.2.2.2.2.2.2.2.2.2.1, .inl (Y 0, 160, .inl (aN S.2.2.2.2.2.2.2.1.2.2.2.2.1))), (a.2.2.2.2.2.2.2.2.2.2.2.2, .inl (Y 2, 2, .inl (aN S.2.2.2.2.2.2.2.1.2.2.2.2.2)))]
def lwB (gh gca gun gro gsh gso gsi : Nat → Nat) (prs yrs bs sc : Nat) : Prop := (∀ k, k < 10 → gro k < 6) ∧ (∀ k, k < 10 → gsh k < 65536) ∧ (prs < 64) ∧ (yrs ≤ 99) ∧ (∀ k, k < 6 → gh k < 65536) ∧ (∀ k, k < 6 → gca k ≤ 9) ∧ (∀ k, k < 10 → gun k ≤ 9) ∧ (∀ k, k < 5 → gso k < 65536) ∧ (∀ k, k < 8 → gsi k < 1024) ∧ (bs < 256) ∧ (sc ≤ 8)
def lwOK (gi gk : Nat → Nat) (im : Nat → Option lwI) : Prop := ∀ k, k ≤ 1 → (im k = none ∧ gk k = 0) ∨ ∃ d : lwI, im k = some d ∧ gk k = 1 ∧ imR gi k d.2.2.1 d.2.2.2.1 d.2.2.2.2.2.2.1 d.2.1.1 d.2.1.2.1 d.2.2.2.2.1 d.2.2.2.2.2.1 d.2.2.2.2.2.2.2.2 d.2.1.2.2.1 d.2.2.2.2.2.2.2.1 d.2.1.2.2.2 ∧ lwB d.2.2.1 d.2.2.2.1 d.2.2.2.2.2.2.1 d.2.2.2.2.1 d.2.2.2.2.2.1 d.2.2.2.2.2.2.2.1 d.2.2.2.2.2.2.2.2 d.2.1.1 d.2.1.2.1 d.2.1.2.2.1 d.2.1.2.2.2
def lwWF (S : lwSt) : Prop := lwB S.1.1 S.1.2.1 S.1.2.2.1 S.1.2.2.2.1 S.1.2.2.2.2.1 S.1.2.2.2.2.2.1 S.1.2.2.2.2.2.2.1 S.2.1.1 S.2.1.2.1 S.2.1.2.2.1 S.2.1.2.2.2.1 ∧ S.2.1.2.2.2.2 ≤ 60 ∧ (∀ k, k < S.2.1.2.2.2.2 → S.1.2.2.2.2.2.2.2 k < 128) ∧ lwOK S.2.2.2.2.2.2.2.1.2.2.2.2.1 S.2.2.2.2.2.2.2.1.2.2.2.2.2 S.2.2.2.2.2.2.2.2
theorem inQ_cl {x : Int32} {a b : Nat} (hb : a ≤ b ∧ b < 2 ^ 31) (h : inQ x a b = true) : a ≤ x.toNatClampNeg ∧ x.toNatClampNeg ≤ b := by
  obtain ⟨k, h1, h2, rfl⟩ := inQ_ex hb h
  rw [nI_clamp (by omega)]
  exact ⟨h1, h2⟩
theorem uN_all {g : Nat → Nat} {p v n b : Nat} (h : ∀ k, k < n → g k < b) (hv : v < b) : ∀ k, k < n → uN g p v k < b := fun k hk => by
  by_cases e : k = p
  · rw [e, uN_s]; exact hv
  · rw [uN_n _ _ e]; exact h k hk
theorem uN_alle {g : Nat → Nat} {p v n b : Nat} (h : ∀ k, k < n → g k ≤ b) (hv : v ≤ b) : ∀ k, k < n → uN g p v k ≤ b := fun k hk => by
  by_cases e : k = p
  · rw [e, uN_s]; exact hv
  · rw [uN_n _ _ e]; exact h k hk
theorem wf_robe {gh gca gh1 gca1 : Nat → Nat} {prs prs1 : Nat} {r x1 x2 x3 : Int32} (e : (r, gh1, gca1, prs1) = sp_robe gh gca prs x1 x2 x3) (hh : ∀ k, k < 6 → gh k < 65536) (hc : ∀ k, k < 6 → gca k ≤ 9) (hp : prs < 64) : (∀ k, k < 6 → gh1 k < 65536) ∧ (∀ k, k < 6 → gca1 k ≤ 9) ∧ prs1 < 64 := by
  unfold sp_robe at e
  split at e
  · split at e
    · next q2 =>
      split at e
      · next q3 =>
        simp only [Prod.mk.injEq] at e
        obtain ⟨-, rfl, rfl, rfl⟩ := e
        have h2 := inQ_cl (by decide) q2
        have h3 := inQ_cl (by decide) q3
        exact ⟨uN_all hh (by omega), uN_alle hc h3.2, Nat.lt_of_le_of_lt Nat.and_le_left hp⟩
      · simp only [Prod.mk.injEq] at e
        obtain ⟨-, rfl, rfl, rfl⟩ := e
        exact ⟨hh, hc, hp⟩
    · simp only [Prod.mk.injEq] at e
      obtain ⟨-, rfl, rfl, rfl⟩ := e
      exact ⟨hh, hc, hp⟩
  · simp only [Prod.mk.injEq] at e
    obtain ⟨-, rfl, rfl, rfl⟩ := e
    exact ⟨hh, hc, hp⟩
theorem wf_saying {gro gsh gun gro1 gsh1 gun1 : Nat → Nat} {r x1 x2 x3 x4 : Int32} (e : (r, gro1, gsh1, gun1) = sp_saying gro gsh gun x1 x2 x3 x4) (hro : ∀ k, k < 10 → gro k < 6) (hsh : ∀ k, k < 10 → gsh k < 65536) (hu : ∀ k, k < 10 → gun k ≤ 9) : (∀ k, k < 10 → gro1 k < 6) ∧ (∀ k, k < 10 → gsh1 k < 65536) ∧ ∀ k, k < 10 → gun1 k ≤ 9 := by
  unfold sp_saying at e
  split at e
  · split at e
    · next q2 =>
      split at e
      · next q3 =>
        split at e
        · next q4 =>
          simp only [Prod.mk.injEq] at e
          obtain ⟨-, rfl, rfl, rfl⟩ := e
          have h2 := inQ_cl (by decide) q2
          have h3 := inQ_cl (by decide) q3
          have h4 := inQ_cl (by decide) q4
          exact ⟨uN_all hro (by omega), uN_all hsh (by omega), uN_alle hu h4.2⟩
        · simp only [Prod.mk.injEq] at e
          obtain ⟨-, rfl, rfl, rfl⟩ := e
          exact ⟨hro, hsh, hu⟩
      · simp only [Prod.mk.injEq] at e
        obtain ⟨-, rfl, rfl, rfl⟩ := e
        exact ⟨hro, hsh, hu⟩
    · simp only [Prod.mk.injEq] at e
      obtain ⟨-, rfl, rfl, rfl⟩ := e
      exact ⟨hro, hsh, hu⟩
  · simp only [Prod.mk.injEq] at e
    obtain ⟨-, rfl, rfl, rfl⟩ := e
    exact ⟨hro, hsh, hu⟩
theorem wf_occ {gso gso1 : Nat → Nat} {r x1 x2 : Int32} (e : (r, gso1) = sp_occ gso x1 x2) (hso : ∀ k, k < 5 → gso k < 65536) : ∀ k, k < 5 → gso1 k < 65536 := by
  unfold sp_occ at e
  split at e
  · split at e
    · next q2 =>
      obtain ⟨-, rfl⟩ := Prod.mk.inj e
      have h2 := inQ_cl (by decide) q2
      exact uN_all hso (by omega)
    · obtain ⟨-, rfl⟩ := Prod.mk.inj e
      exact hso
  · obtain ⟨-, rfl⟩ := Prod.mk.inj e
    exact hso
theorem wf_say {g g1 : Nat → Nat} {cnt cnt1 : Nat} {r x1 : Int32} (e : (r, g1, cnt1) = sp_say g cnt x1) (hcnt : cnt ≤ 60) (hg : ∀ k, k < cnt → g k < 128) : cnt1 ≤ 60 ∧ ∀ k, k < cnt1 → g1 k < 128 := by
  unfold sp_say at e
  split at e
  · next q1 =>
    split at e
    · simp only [Prod.mk.injEq] at e
      obtain ⟨-, rfl, rfl⟩ := e
      exact ⟨hcnt, hg⟩
    · next q2 =>
      simp only [Prod.mk.injEq] at e
      obtain ⟨-, rfl, rfl⟩ := e
      have h1 := inQ_cl (by decide) q1
      refine ⟨by omega, fun k hk => ?_⟩
      by_cases z : k = cnt
      · rw [z, uN_s]; omega
      · rw [uN_n _ _ z]; exact hg k (by omega)
  · simp only [Prod.mk.injEq] at e
    obtain ⟨-, rfl, rfl⟩ := e
    exact ⟨hcnt, hg⟩
theorem addB_lt {bs sc b : Nat} (h : bs < 256) (hsc : sc < 8) : addB bs sc b < 256 := by
  unfold addB
  split
  · exact or_lt (k := 8) _ _ h (p2_lt hsc)
  · exact Nat.lt_of_le_of_lt Nat.and_le_left h
theorem wf_seen {gsi gsi1 : Nat → Nat} {bs sc bs1 sc1 b : Nat} {r x1 : Int32} (e : (r, gsi1, bs1, sc1) = sp_seen gsi bs sc x1 b) (hsi : ∀ k, k < 8 → gsi k < 1024) (hbs : bs < 256) (hsc : sc ≤ 8) : (∀ k, k < 8 → gsi1 k < 1024) ∧ bs1 < 256 ∧ sc1 ≤ 8 := by
  unfold sp_seen at e
  split at e
  · next q1 =>
    split at e
    · simp only [Prod.mk.injEq] at e
      obtain ⟨-, rfl, rfl, rfl⟩ := e
      exact ⟨hsi, hbs, hsc⟩
    · next q2 =>
      simp only [Prod.mk.injEq] at e
      obtain ⟨-, rfl, rfl, rfl⟩ := e
      have h1 := inQ_cl (by decide) q1
      exact ⟨uN_all hsi (by omega), addB_lt hbs (by omega), by omega⟩
  · simp only [Prod.mk.injEq] at e
    obtain ⟨-, rfl, rfl, rfl⟩ := e
    exact ⟨hsi, hbs, hsc⟩
theorem wf_done {g gh gca gun gro gsh gh1 gca1 gun1 : Nat → Nat} {cnt prs yrs prs1 yrs1 cnt1 : Nat} {r : Int32} (e : (r, gh1, gca1, prs1, yrs1, gun1, cnt1) = sp_done g cnt gro gsh (gh, gca, prs, yrs, gun, 0, none, none)) (hro : ∀ k, k < 10 → gro k < 6) (hp : prs < 64) (hy : yrs ≤ 99) (hh : ∀ k, k < 6 → gh k < 65536) (hc : ∀ k, k < 6 → gca k ≤ 9) (hu : ∀ k, k < 10 → gun k ≤ 9) (hcnt : cnt ≤ 60) (hg : ∀ k, k < cnt → g k < 128) :
    prs1 < 64 ∧ yrs1 ≤ 99 ∧ (∀ k, k < 6 → gh1 k < 65536) ∧ (∀ k, k < 6 → gca1 k ≤ 9) ∧ (∀ k, k < 10 → gun1 k ≤ 9) ∧ cnt1 ≤ 60 ∧ ∀ k, k < cnt1 → g k < 128 := by
  unfold sp_done at e
  split at e
  · next hall =>
    have hfn := (of_decide_eq_true hall).1
    obtain ⟨k1, k2, k3, k4, k5⟩ := fol_ok (sh := gsh) hro hg 61 0 0 (gh, gca, prs, yrs, gun, 0, none, none) ⟨hh, hc, hp, hy, hu⟩ hfn
    simp only [Prod.mk.injEq] at e
    obtain ⟨-, rfl, rfl, rfl, rfl, rfl, rfl⟩ := e
    exact ⟨k3, k4, k1, k2, k5, Nat.zero_le _, fun k hk => absurd hk (Nat.not_lt_zero _)⟩
  · simp only [Prod.mk.injEq] at e
    obtain ⟨-, rfl, rfl, rfl, rfl, rfl, rfl⟩ := e
    exact ⟨hp, hy, hh, hc, hu, hcnt, hg⟩
theorem imR_o {gi gi1 h ca un ro sh si so : Nat → Nat} {kk j prs yrs bs sc : Nat} (hj : j ≤ 1) (hk : kk ≤ 1) (hn : j ≠ kk) (h1 : imR gi j h ca un prs yrs ro sh si bs so sc) (h2 : imO gi gi1 kk) : imR gi1 j h ca un prs yrs ro sh si bs so sc := by
  obtain ⟨i1, i2, i3, i4, i5, i6⟩ := h1
  have e : ∀ q, q < 80 → gi1 (80 * j + q) = gi (80 * j + q) := fun q hq => h2 _ (by omega)
  refine ⟨fun q hq => ?_, fun q hq => ?_, fun q hq => ?_, fun q hq => ?_, fun q hq => ?_, ?_⟩
  · rw [e q (by omega)]; exact i1 q hq
  · rw [Nat.add_assoc, e _ (by omega), ← Nat.add_assoc]; exact i2 q hq
  · rw [Nat.add_assoc, e _ (by omega), ← Nat.add_assoc]; exact i3 q hq
  · rw [Nat.add_assoc, e _ (by omega), ← Nat.add_assoc]; exact i4 q hq
  · rw [Nat.add_assoc, e _ (by omega), ← Nat.add_assoc]; exact i5 q hq
  · rw [e 70 (by omega)]; exact i6
def upI (im : Nat → Option lwI) (k : Nat) (d : lwI) : Nat → Option lwI := fun j => if j = k then some d else im j
theorem lwF_up (im : Nat → Option lwI) (k : Nat) (d : lwI) : va_up (lwF im) k (some d.1.1) = lwF (upI im k d) := by
  funext j
  unfold va_up lwF upI
  by_cases e : j = k <;> simp [e]
theorem lwF_sm {im : Nat → Option lwI} {k : Nat} {d d2 : lwI} (h : im k = some d) (hw : d2.1.1 = d.1.1) : lwF im = lwF (upI im k d2) := by
  funext j
  unfold lwF upI
  by_cases e : j = k
  · rw [if_pos e, e, h]; simp [hw]
  · rw [if_neg e]
theorem lwTl_to {Y : Nat → ClassId} {im : Nat → Option lwI} {k : Nat} (hk : k ≤ 1) : lwTl Y im = lwT Y (im k) ++ lwT Y (im (1 - k)) ∨ (k = 1 ∧ lwTl Y im = lwT Y (im (1 - k)) ++ lwT Y (im k)) := by
  rcases (show k = 0 ∨ k = 1 by omega) with rfl | rfl
  · exact Or.inl rfl
  · exact Or.inr ⟨rfl, rfl⟩
theorem lwP_to {D : va_G} {Y : Nat → ClassId} {im : Nat → Option lwI} {k : Nat} (hk : k ≤ 1) {X : va_W} {H : Heap} (h : va_P D vwCl (X ++ lwTl Y im) H) : va_P D vwCl (X ++ (lwT Y (im k) ++ lwT Y (im (1 - k)))) H := by
  rcases lwTl_to (Y := Y) (im := im) hk with e | ⟨-, e⟩
  · rw [← e]; exact h
  · rw [e, ← List.append_assoc] at h
    rw [← List.append_assoc]
    exact h.swap
theorem lwD_to {A : Nat → Prop} {Y : Nat → ClassId} {im : Nat → Option lwI} {k : Nat} (hk : k ≤ 1) {X : va_W} (h : va_D A (X ++ lwTl Y im)) : va_D A (X ++ (lwT Y (im k) ++ lwT Y (im (1 - k)))) := by
  rcases lwTl_to (Y := Y) (im := im) hk with e | ⟨-, e⟩
  · rw [← e]; exact h
  · rw [e, ← List.append_assoc] at h
    rw [← List.append_assoc]
    exact h.swap
theorem lwP_fr {D : va_G} {Y : Nat → ClassId} {im : Nat → Option lwI} {k : Nat} (hk : k ≤ 1) {X : va_W} {H : Heap} (h : va_P D vwCl (X ++ (lwT Y (im k) ++ lwT Y (im (1 - k)))) H) : va_P D vwCl (X ++ lwTl Y im) H := by
  rcases lwTl_to (Y := Y) (im := im) hk with e | ⟨-, e⟩
  · rw [e]; exact h
  · rw [← List.append_assoc] at h
    rw [e, ← List.append_assoc]
    exact h.swap
theorem lwD_fr {A : Nat → Prop} {Y : Nat → ClassId} {im : Nat → Option lwI} {k : Nat} (hk : k ≤ 1) {X : va_W} (h : va_D A (X ++ (lwT Y (im k) ++ lwT Y (im (1 - k))))) : va_D A (X ++ lwTl Y im) := by
  rcases lwTl_to (Y := Y) (im := im) hk with e | ⟨-, e⟩
  · rw [e]; exact h
  · rw [← List.append_assoc] at h
    rw [e, ← List.append_assoc]
    exact h.swap
