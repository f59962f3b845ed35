theorem uN_id (g : Nat → Nat) (k : Nat) : uN g k (g k) = g := by
  funext j
  unfold uN
  split
  · next h => rw [h]
  · rfl
theorem uN_uN (g : Nat → Nat) (k v w : Nat) : uN (uN g k v) k w = uN g k w := by
  funext j
  unfold uN
  split <;> rfl
theorem mv_sble {u c b : Nat} (hu : u < 2 ^ 30) (hc : c < 2 ^ 30) (hb : b < 2 ^ 30) : nI u - nI c ≤ nI b ↔ u - c ≤ b := by
  rw [Int32.le_iff_toInt_le, pk_sub_toInt hu hc, nI_toInt (by omega)]
  omega
def obd (o : Option Nat) : Prop := ∀ n, o = some n → n < 1000
theorem oI_no {o : Option Nat} (h : obd o) : oI o = -6 ↔ o = none := by
  cases o with
  | none => exact ⟨fun _ => rfl, fun _ => rfl⟩
  | some n =>
    have h1 := h n rfl
    refine ⟨fun q => ?_, fun q => by cases q⟩
    have h2 : (nI n).toInt = (-6 : Int32).toInt := congrArg Int32.toInt q
    rw [nI_toInt (by omega)] at h2
    have h3 : (-6 : Int32).toInt = -6 := by decide
    omega
theorem rsn_bd (h ca : Nat → Nat) (prs yrs : Nat) (un : Nat → Nat) (kd sb : Nat) : obd (rsn h ca prs yrs un kd sb) := by
  intro n hn
  unfold rsn rsnR at hn
  repeat' split at hn
  all_goals (first | (cases hn; omega) | cases hn)
theorem div_hi {w c j : Nat} (h : c ≤ j) : w / 2 ^ c * 2 ^ c / 2 ^ j = w / 2 ^ j := by
  have e : (2 : Nat) ^ j = 2 ^ c * 2 ^ (j - c) := by rw [← Nat.pow_add]; congr 1; omega
  rw [e, ← Nat.div_div_eq_div_mul, ← Nat.div_div_eq_div_mul, Nat.mul_div_cancel _ (Nat.two_pow_pos c)]
theorem even_lo {m c j : Nat} (h : j < c) : m * 2 ^ c / 2 ^ j % 2 = 0 := by
  have e : m * 2 ^ c = (m * 2 ^ (c - j - 1) * 2) * 2 ^ j := by
    rw [Nat.mul_assoc, Nat.mul_assoc, ← Nat.pow_succ', ← Nat.pow_add]
    congr 2
    omega
  rw [e, Nat.mul_div_cancel _ (Nat.two_pow_pos j)]
  omega
theorem ea_turn {sp h0 n c2 W k b : Nat} (hW : W = (sp &&& (h0 ^^^ 4294967295)) / 2 ^ c2 * 2 ^ c2) (hk : k < 16) (hk0 : W % 2 ^ k = 0) (hk1 : W / 2 ^ k % 2 = 1) (hl : (eaS sp h0 n c2).2.1 = n - b) (hbn : b < n) (he : (eaS sp h0 n c2).2.2 = b) (hx : W ^^^ 2 ^ k = W / 2 ^ (k + 1) * 2 ^ (k + 1)) : c2 ≤ k ∧ W ^^^ 2 ^ k = (sp &&& (h0 ^^^ 4294967295)) / 2 ^ (k + 1) * 2 ^ (k + 1) ∧ (eaS sp h0 n (k + 1)).1 = (eaS sp h0 n c2).1 ||| 2 ^ k ∧ (eaS sp h0 n (k + 1)).2.1 = n - (b + 1) ∧ (eaS sp h0 n (k + 1)).2.2 = b + 1 := by
  have h1 : c2 ≤ k := by
    rcases Nat.lt_or_ge k c2 with q | q
    · rw [hW, even_lo q] at hk1
      cases hk1
    · exact q
  have hd : ∀ j, c2 ≤ j → W / 2 ^ j = (sp &&& (h0 ^^^ 4294967295)) / 2 ^ j := fun j hj => by rw [hW]; exact div_hi hj
  have e : eaS sp h0 n k = eaS sp h0 n c2 := by
    obtain ⟨d, rfl⟩ : ∃ d, k = c2 + d := ⟨k - c2, by omega⟩
    refine eaS_skip d (by omega) (Or.inr fun j hj1 hj2 => ?_)
    rw [← hd j hj1]
    have e3 : W = W / 2 ^ (c2 + d) * 2 ^ (c2 + d) := by
      have := Nat.div_add_mod W (2 ^ (c2 + d))
      rw [hk0, Nat.add_zero, Nat.mul_comm] at this
      exact this.symm
    rw [e3]
    exact even_lo hj2
  have e2 := eaS_step (sh := sp) (h0 := h0) (n := n) hk (by rw [e, hl]; omega) (by rw [← hd k h1]; exact hk1)
  refine ⟨h1, by rw [hx, hd (k + 1) (by omega)], by rw [e2, e], by rw [e2, e]; dsimp only; omega, by rw [e2, e]; dsimp only; omega⟩
theorem ea_end {sp h0 n c2 W b : Nat} (hc : c2 ≤ 16) (hW : W = (sp &&& (h0 ^^^ 4294967295)) / 2 ^ c2 * 2 ^ c2) (hl : (eaS sp h0 n c2).2.1 = n - b) (he : (eaS sp h0 n c2).2.2 = b) (hz : n ≤ b ∨ W = 0) : eaH sp h0 n = (eaS sp h0 n c2).1 ∧ eaE sp h0 n = b := by
  have e : eaS sp h0 n 16 = eaS sp h0 n c2 := by
    obtain ⟨d, hd⟩ : ∃ d, 16 = c2 + d := ⟨16 - c2, by omega⟩
    rw [hd]
    refine eaS_skip d (by omega) ?_
    rcases hz with hz | hz
    · exact Or.inl (by omega)
    · refine Or.inr fun j hj1 hj2 => ?_
      have := div_hi (w := sp &&& (h0 ^^^ 4294967295)) hj1
      rw [← hW, hz, Nat.zero_div] at this
      omega
  unfold eaH eaE
  rw [e]
  exact ⟨rfl, he⟩
theorem moS_f {ro sh un ca : Nat → Nat} {prs : Nat} {h0 : Nat → Nat} {e0 s : Nat} (h : ¬ prs / 2 ^ ro s % 2 = 1) : moS ro sh un ca prs h0 e0 (s + 1) = moS ro sh un ca prs h0 e0 s := if_neg h
theorem moS_t {ro sh un ca : Nat → Nat} {prs : Nat} {h0 : Nat → Nat} {e0 s : Nat} (h : prs / 2 ^ ro s % 2 = 1) : moS ro sh un ca prs h0 e0 (s + 1) = (uN (moS ro sh un ca prs h0 e0 s).1 (ro s) (eaH (sh s) ((moS ro sh un ca prs h0 e0 s).1 (ro s)) (un s - ca (ro s))), (moS ro sh un ca prs h0 e0 s).2 + eaE (sh s) ((moS ro sh un ca prs h0 e0 s).1 (ro s)) (un s - ca (ro s))) := if_pos h
theorem uN_bd {g : Nat → Nat} {n k v b : Nat} (h : ∀ j, j < n → g j < b) (hv : v < b) : ∀ j, j < n → uN g k v j < b := fun j hj => by
  unfold uN
  split
  · exact hv
  · exact h j hj
theorem uN_bd2 {g : Nat → Nat} {n k v b : Nat} (h : ∀ j, j < n → g j ≤ b) (hv : v ≤ b) : ∀ j, j < n → uN g k v j ≤ b := fun j hj => by
  unfold uN
  split
  · exact hv
  · exact h j hj
theorem moS_bd {ro sh un ca : Nat → Nat} {prs : Nat} {h0 : Nat → Nat} {e0 : Nat} (hr : ∀ s, s < 10 → ro s < 6) (hh : ∀ j, j < 6 → h0 j < 65536) : ∀ s, s ≤ 10 → ∀ j, j < 6 → (moS ro sh un ca prs h0 e0 s).1 j < 65536 := by
  intro s
  induction s with
  | zero => intro _; exact hh
  | succ s ih =>
    intro hs
    by_cases q : prs / 2 ^ ro s % 2 = 1
    · rw [moS_t q]
      exact uN_bd (ih (by omega)) (eaS_bd 16 (ih (by omega) _ (hr s (by omega))) (by omega)).1
    · rw [moS_f q]
      exact ih (by omega)
theorem yeC_hi (ca : Nat → Nat) : ∀ k j, k ≤ j → yeC ca k j = ca j := by
  intro k
  induction k with
  | zero => intro _ _; rfl
  | succ k ih =>
    intro j hj
    show uN (yeC ca k) k _ j = _
    rw [uN_n _ _ (by omega)]
    exact ih j (by omega)
theorem yeC_bd {ca : Nat → Nat} (h : ∀ j, j < 6 → ca j ≤ 9) : ∀ k, k ≤ 6 → ∀ j, j < 6 → yeC ca k j ≤ 9 := by
  intro k
  induction k with
  | zero => intro _; exact h
  | succ k ih =>
    intro hk
    have := ih (by omega) k (by omega)
    exact uN_bd2 (ih (by omega)) (by omega)
theorem and_ones {a n : Nat} (h : a < 2 ^ n) : a &&& (2 ^ n - 1) = a := by
  rw [Nat.and_two_pow_sub_one_eq_mod]
  exact Nat.mod_eq_of_lt h
theorem actT_ok {ro sh : Nat → Nat} {a : Nat} {t : mvT} {kd sb : Nat} (hr : ∀ s, s < 10 → ro s < 6) (h : okT t) (hv : isRa kd = true → sb < 6) (hv2 : kd = 48 → sb < 10) (hz : rsT t kd sb = none) : okT (actT ro sh a t kd sb) := by
  obtain ⟨h1, h2, h3, h4, h5⟩ := h
  unfold actT
  unfold rsT rsn at hz
  by_cases q1 : isRa kd = true
  · rw [if_pos q1]
    rw [if_pos q1] at hz
    have hs := hv q1
    unfold rsnR at hz
    refine ⟨?_, ?_, ?_, h4, h5⟩
    · show ∀ k, k < 6 → dH kd sb t.1 k < 65536
      unfold dH
      repeat' split
      · exact h1
      · exact h1
      · exact h1
      · exact uN_bd h1 (Nat.lt_of_le_of_lt Nat.and_le_left (h1 sb hs))
    · show ∀ k, k < 6 → dC kd sb t.2.1 k ≤ 9
      unfold dC
      split
      · exact h2
      · split
        · exact h2
        · split
          · next e1 e2 e3 =>
            refine uN_bd2 h2 ?_
            rw [if_neg e1, if_neg e2] at hz
            split at hz
            · cases hz
            · (try rw [if_pos e3] at hz)
              split at hz
              · cases hz
              · omega
          · exact h2
    · show dP kd sb t.2.2.1 < 64
      unfold dP
      split
      · exact or_lt (k := 6) _ _ h3 (p2_lt hs)
      · split
        · exact Nat.lt_of_le_of_lt Nat.and_le_left h3
        · exact h3
  · rw [if_neg q1]
    rw [if_neg q1] at hz
    by_cases q2 : kd = 48
    · rw [if_pos q2]
      exact ⟨h1, h2, h3, h4, uN_bd2 h5 (Nat.zero_le _)⟩
    · rw [if_neg q2]
      rw [if_neg q2] at hz
      by_cases q3 : kd = 42
      · rw [if_pos q3]
        exact ⟨moS_bd hr h1 10 (Nat.le_refl _), h2, h3, h4, h5⟩
      · rw [if_neg q3]
        rw [if_neg q3] at hz
        refine ⟨h1, yeC_bd h2 6 (Nat.le_refl _), h3, ?_, h5⟩
        show t.2.2.2.1 + 1 ≤ 99
        split at hz
        · cases hz
        · omega
/-! all acts on a pad, from place k on: how many could be, the first that could not, why, the state behind them -/
def fol (g : Nat → Nat) (cnt : Nat) (ro sh : Nat → Nat) : Nat → Nat → Nat → mvT → Nat × Option Nat × Option Nat × mvT
  | 0, _, a, t => (a, none, none, t)
  | n + 1, k, a, t => if k < cnt then (if rsT t (kdA g cnt k) (sbA g cnt k) = none then fol g cnt ro sh n (if isLt (g k) then k + 2 else k + 1) (a + 1) (actT ro sh a t (kdA g cnt k) (sbA g cnt k)) else (a, some a, rsT t (kdA g cnt k) (sbA g cnt k), t)) else (a, none, none, t)
/-! acts that are drawn -/
def nxX (x : Nat) : Nat := (75 * x + 74) % 65537
def kdX (x : Nat) : Nat := mv_drkL.getD (x / 6 % 8) 0
def sbX (x : Nat) : Nat := if kdX x = 48 then x / 48 % 10 else x % 6
def drw (ro sh : Nat → Nat) : Nat → Nat → Nat → mvT → mvT
  | 0, _, _, t => t
  | n + 1, x, a, t => if rsT t (kdX (nxX x)) (sbX (nxX x)) = none then drw ro sh n (nxX x) (a + 1) (actT ro sh a t (kdX (nxX x)) (sbX (nxX x))) else drw ro sh n (nxX x) a t
