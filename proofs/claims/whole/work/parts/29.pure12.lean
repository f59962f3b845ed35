theorem mo_end {sh h0 n c : Nat} (hc : c ≤ 16) (hz : 16 ≤ c ∨ (eaS sh h0 n c).2.1 = 0) : eaS sh h0 n 16 = eaS sh h0 n c := by
  obtain ⟨d, hd⟩ : ∃ d, 16 = c + d := ⟨16 - c, by omega⟩
  rcases hz with hz | hz
  · rw [show c = 16 by omega]
  · rw [hd]
    exact eaS_skip d (by omega) (Or.inl hz)
theorem mo_turn {ro sh un ca : Nat → Nat} {prs : Nat} {h0 : Nat → Nat} {e0 k n c e2 ez : Nat} {gz gy : Nat → Nat} (hg : gz = (moS ro sh un ca prs h0 e0 k).1) (hez : ez = (moS ro sh un ca prs h0 e0 k).2) (hn : n = if prs / 2 ^ ro k % 2 = 1 then un k - ca (ro k) else 0) (hy : gy = uN gz (ro k) (eaS (sh k) (gz (ro k)) n c).1) (he : e2 = ez + (eaS (sh k) (gz (ro k)) n c).2.2) (hend : eaS (sh k) (gz (ro k)) n 16 = eaS (sh k) (gz (ro k)) n c) : gy = (moS ro sh un ca prs h0 e0 (k + 1)).1 ∧ e2 = (moS ro sh un ca prs h0 e0 (k + 1)).2 := by
  by_cases q : prs / 2 ^ ro k % 2 = 1
  · rw [if_pos q] at hn
    rw [moS_t q, ← hg, ← hez, ← hn]
    unfold eaH eaE
    rw [hend]
    exact ⟨hy, he⟩
  · rw [if_neg q] at hn
    rw [moS_f q, ← hg, ← hez]
    rw [hn, eaS_0] at hy he
    exact ⟨hy.trans (uN_id _ _), by rw [he]; rfl⟩
def raS (gh gca : Nat → Nat) (prs kd rb : Nat) : Int32 × (Nat → Nat) × (Nat → Nat) × Nat :=
  if rsnR gh gca prs kd rb = none then (nI 0, dH kd rb gh, dC kd rb gca, dP kd rb prs) else (oI (rsnR gh gca prs kd rb), gh, gca, prs)
theorem ra_60 {gh gca : Nat → Nat} {prs rb p1 : Nat} {r : Int32} (h : (r, p1) = if prs / 2 ^ rb % 2 = 1 then (nI 1, prs) else (nI 0, prs ||| 1 * 2 ^ rb)) : (r, gh, gca, p1) = raS gh gca prs 60 rb := by
  unfold raS
  by_cases q : prs / 2 ^ rb % 2 = 1
  · rw [if_pos q] at h
    obtain ⟨rfl, rfl⟩ := Prod.mk.inj h
    have e : rsnR gh gca p1 60 rb = some 1 := by unfold rsnR; rw [if_pos rfl, if_pos q]
    rw [e, if_neg (by simp)]
    rfl
  · rw [if_neg q] at h
    obtain ⟨rfl, rfl⟩ := Prod.mk.inj h
    have e : rsnR gh gca prs 60 rb = none := by unfold rsnR; rw [if_pos rfl, if_neg q]
    rw [e, if_pos rfl]
    rfl
theorem ra_62 {gh gca : Nat → Nat} {prs rb p1 : Nat} {r : Int32} (h : (r, p1) = if prs / 2 ^ rb % 2 = 1 then (nI 0, prs &&& (1 * 2 ^ rb ^^^ 4294967295)) else (nI 1, prs)) : (r, gh, gca, p1) = raS gh gca prs 62 rb := by
  unfold raS
  by_cases q : prs / 2 ^ rb % 2 = 1
  · rw [if_pos q] at h
    obtain ⟨rfl, rfl⟩ := Prod.mk.inj h
    have e : rsnR gh gca prs 62 rb = none := by unfold rsnR; rw [if_neg (by decide), if_pos rfl, if_pos q]
    rw [e, if_pos rfl]
    rfl
  · rw [if_neg q] at h
    obtain ⟨rfl, rfl⟩ := Prod.mk.inj h
    have e : rsnR gh gca p1 62 rb = some 1 := by unfold rsnR; rw [if_neg (by decide), if_pos rfl, if_neg q]
    rw [e, if_neg (by simp)]
    rfl
theorem ra_43 {gh gca c1 : Nat → Nat} {prs rb : Nat} {r : Int32} (h : (r, c1) = if prs / 2 ^ rb % 2 = 1 then (nI 2, gca) else if 9 ≤ gca rb then (nI 3, gca) else (nI 0, uN gca rb (gca rb + 1))) : (r, gh, c1, prs) = raS gh gca prs 43 rb := by
  unfold raS
  have e : rsnR gh gca prs 43 rb = if prs / 2 ^ rb % 2 = 1 then some 2 else if 9 ≤ gca rb then some 3 else none := by unfold rsnR; rw [if_neg (by decide), if_neg (by decide)]; rfl
  rw [e]
  by_cases q : prs / 2 ^ rb % 2 = 1
  · rw [if_pos q] at h
    obtain ⟨rfl, rfl⟩ := Prod.mk.inj h
    rw [if_pos q, if_neg (by simp)]
    rfl
  · rw [if_neg q] at h
    rw [if_neg q]
    by_cases q2 : 9 ≤ gca rb
    · rw [if_pos q2] at h
      obtain ⟨rfl, rfl⟩ := Prod.mk.inj h
      rw [if_pos q2, if_neg (by simp)]
      rfl
    · rw [if_neg q2] at h
      obtain ⟨rfl, rfl⟩ := Prod.mk.inj h
      rw [if_neg q2, if_pos rfl]
      rfl
theorem ra_47 {gh gca h1 : Nat → Nat} {prs rb : Nat} {r : Int32} (h : (r, h1) = if prs / 2 ^ rb % 2 = 1 then (nI 2, gh) else if gh rb = 0 then (nI 3, gh) else (nI 0, uN gh rb (gh rb &&& (gh rb - 1)))) : (r, h1, gca, prs) = raS gh gca prs 47 rb := by
  unfold raS
  have e : rsnR gh gca prs 47 rb = if prs / 2 ^ rb % 2 = 1 then some 2 else if gh rb = 0 then some 3 else none := by unfold rsnR; rw [if_neg (by decide), if_neg (by decide)]; rfl
  rw [e]
  by_cases q : prs / 2 ^ rb % 2 = 1
  · rw [if_pos q] at h
    obtain ⟨rfl, rfl⟩ := Prod.mk.inj h
    rw [if_pos q, if_neg (by simp)]
    rfl
  · rw [if_neg q] at h
    rw [if_neg q]
    by_cases q2 : gh rb = 0
    · rw [if_pos q2] at h
      obtain ⟨rfl, rfl⟩ := Prod.mk.inj h
      rw [if_pos q2, if_neg (by simp)]
      rfl
    · rw [if_neg q2] at h
      obtain ⟨rfl, rfl⟩ := Prod.mk.inj h
      rw [if_neg q2, if_pos rfl]
      rfl
theorem isRa_47 {kd : Nat} (h : isRa kd = true) (h1 : kd ≠ 60) (h2 : kd ≠ 62) (h3 : kd ≠ 43) : kd = 47 := by
  have := of_decide_eq_true h
  omega
