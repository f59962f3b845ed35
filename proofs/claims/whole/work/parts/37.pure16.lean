theorem fit_mono {si : Nat → Nat} {bs S i : Nat} (h : fitS si bs S i = false) : ∀ d, fitS si bs S (i + d) = false := by
  intro d
  induction d with
  | zero => exact h
  | succ d ih => show (fitS si bs S (i + d) && _) = false; rw [ih]; rfl
theorem al_end {p f g : Bool} {al : Nat} (h : al = bN (p && f)) (h0 : al = 0) (hm : f = false → g = false) : bN (p && g) = 0 := by
  cases p
  · rfl
  · cases f
    · rw [hm rfl]; rfl
    · rw [h] at h0; exact absurd h0 (by decide)
theorem ft_mono {si : Nat → Nat} {bs S i sc : Nat} (hi : i ≤ sc) : fitS si bs S i = false → fitS si bs S sc = false := fun h => by
  have := fit_mono h (sc - i)
  rwa [show i + (sc - i) = sc by omega] at this
theorem iff_dec {p q : Prop} [Decidable p] [Decidable q] (h : bN (decide p) = bN (decide q)) : (p ↔ q) := by
  by_cases hp : p <;> by_cases hq : q
  · exact ⟨fun _ => hq, fun _ => hp⟩
  · rw [decide_eq_true hp, decide_eq_false hq] at h; exact absurd h (by decide)
  · rw [decide_eq_false hp, decide_eq_true hq] at h; exact absurd h (by decide)
  · exact ⟨fun z => absurd z hp, fun z => absurd z hq⟩
theorem iff_dec2 {p q : Prop} [Decidable p] [Decidable q] (h : bN (decide p) ≠ bN (decide q)) : ¬ (p ↔ q) := fun z => by
  by_cases hp : p
  · rw [decide_eq_true hp, decide_eq_true (z.mp hp)] at h; exact h rfl
  · rw [decide_eq_false hp, decide_eq_false (fun w => hp (z.mpr w))] at h; exact h rfl
theorem tr_t1 {a : Nat → Nat} {s : Nat} (hb : a s < 1000000) : (if a s < (if s = 0 then 1000000 else a (tryS a (s - 1))) then some s else (if s = 0 then none else some (tryS a (s - 1)))) = (if s + 1 = 0 then none else some (tryS a (s + 1 - 1))) := by
  rw [if_neg (show ¬ s + 1 = 0 by omega), Nat.add_sub_cancel]
  cases s with
  | zero => rw [if_pos rfl, if_pos hb]; rfl
  | succ s =>
    have h9 : ¬ s + 1 = 0 := by omega
    simp only [if_neg h9, Nat.add_sub_cancel]
    rw [tryS]
    split <;> rfl
theorem tr_t2 {a : Nat → Nat} {s : Nat} (hb : a s < 1000000) : (if a s < (if s = 0 then 1000000 else a (tryS a (s - 1))) then a s else (if s = 0 then 1000000 else a (tryS a (s - 1)))) = (if s + 1 = 0 then 1000000 else a (tryS a (s + 1 - 1))) := by
  rw [if_neg (show ¬ s + 1 = 0 by omega), Nat.add_sub_cancel]
  cases s with
  | zero => rw [if_pos rfl, if_pos hb]; rfl
  | succ s =>
    have h9 : ¬ s + 1 = 0 := by omega
    simp only [if_neg h9, Nat.add_sub_cancel]
    rw [tryS]
    split <;> rfl
theorem mx_eq1 {a b : Nat} (h : b < a) : a = mxN a b := by unfold mxN; split <;> omega
theorem mx_eq2 {a b : Nat} (h : ¬ b < a) : b = mxN a b := by unfold mxN; split <;> omega
theorem trM_lt (ft : Nat → Bool) (s : Nat) : trM ft s ≤ 1024 := by
  have h1 := cvS_le ft s 1024
  have h2 := nuS_le ft 1024
  show mxN (cvS ft s 1024) (nuS ft 1024 - cvS ft s 1024) ≤ 1024
  unfold mxN
  split <;> omega
/-! one image -/
def imA (g : Nat → Nat) (b n : Nat) (f : Nat → Nat) : Prop := ∀ j, j < n → g (b + j) = f j
theorem imA_0 (g : Nat → Nat) (b : Nat) (f : Nat → Nat) : imA g b 0 f := fun _ h => absurd h (Nat.not_lt_zero _)
theorem imA_up {g f : Nat → Nat} {b n p v : Nat} (h : imA g b n f) (hp : p < b ∨ b + n ≤ p) : imA (uN g p v) b n f := fun j hj => by
  rw [uN_n _ _ (by omega)]
  exact h j hj
theorem imA_s {g f : Nat → Nat} {b n v : Nat} (h : imA g b n f) (hv : v = f n) : imA (uN g (b + n) v) b (n + 1) f := fun j hj => by
  by_cases e : j = n
  · rw [e, uN_s, hv]
  · rw [uN_n _ _ (by omega)]
    exact h j (by omega)
def imR (g : Nat → Nat) (kk : Nat) (h ca un : Nat → Nat) (prs yrs : Nat) (ro sh : Nat → Nat) (si : Nat → Nat) (bs : Nat) (so : Nat → Nat) (sc : Nat) : Prop :=
  imA g (80 * kk) 24 (bk h ca un prs yrs) ∧ imA g (80 * kk + 24) 10 ro ∧ imA g (80 * kk + 34) 10 sh ∧ imA g (80 * kk + 44) 16 (sgt si bs) ∧ imA g (80 * kk + 60) 5 so ∧ g (80 * kk + 70) = sc
def imO (g g2 : Nat → Nat) (kk : Nat) : Prop := ∀ j, j < 80 * kk ∨ 80 * kk + 80 ≤ j → g2 j = g j
theorem imO_up {g g2 : Nat → Nat} {kk p v : Nat} (h : imO g g2 kk) (h1 : 80 * kk ≤ p) (h2 : p < 80 * kk + 80) : imO g (uN g2 p v) kk := fun j hj => by
  rw [uN_n _ _ (by omega)]
  exact h j hj
/-! what is told, of a number -/
theorem tol_nat {k cnt yrs prs sc : Nat} {gh gca gro gsh gun gso : Nat → Nat} (hk : k < 2 ^ 31) : sp_told cnt yrs prs sc gh gca gro gsh gun gso (nI k) = if k ≤ 4 then nI (taS cnt yrs prs sc gun k) else if 10 ≤ k ∧ k ≤ 69 then trS gh gca (k / 10 - 1) (k % 10) else if 100 ≤ k ∧ k ≤ 199 then tsS gro gsh gun ((k - 100) / 10) (k % 10) else if 200 ≤ k ∧ k ≤ 204 then nI (gso (k - 200)) else -2 := by
  unfold sp_told
  rw [inQ_nI hk (by decide) (by decide), inQ_nI hk (by decide) (by decide), inQ_nI hk (by decide) (by decide), inQ_nI hk (by decide) (by decide), nI_clamp hk]
  simp only [Nat.zero_le, true_and, decide_eq_true_eq]
theorem tol_neg {x : Int32} {cnt yrs prs sc : Nat} {gh gca gro gsh gun gso : Nat → Nat} (hx : x < 0) : sp_told cnt yrs prs sc gh gca gro gsh gun gso x = -2 := by
  have hq : ∀ a b : Nat, a < 2 ^ 31 → inQ x a b = false := fun a b ha => decide_eq_false fun q => by
    have h1 : (nI a).toInt ≤ x.toInt := Int32.le_iff_toInt_le.mp q.1
    have h2 : x.toInt < (0 : Int32).toInt := Int32.lt_iff_toInt_lt.mp hx
    rw [nI_toInt ha] at h1
    have h3 : (0 : Int32).toInt = 0 := rfl
    omega
  unfold sp_told
  rw [hq 0 4 (by decide), hq 10 69 (by decide), hq 100 199 (by decide), hq 200 204 (by decide)]
  rfl
theorem x_sign (x : Int32) : x < 0 ∨ ∃ k : Nat, k < 2 ^ 31 ∧ x = nI k := by
  by_cases h : x < 0
  · exact Or.inl h
  · right
    have h2 : ¬ x.toInt < 0 := fun q => h (Int32.lt_iff_toInt_lt.mpr q)
    have h3 : x.toInt < 2 ^ 31 := Int32.toInt_lt x
    refine ⟨x.toInt.toNat, by omega, ?_⟩
    apply Int32.toInt_inj.mp
    rw [nI_toInt (by omega)]
    omega
theorem neg_lt {x : Int32} (h : x < 0) (a : Nat) (ha : a < 2 ^ 31) : x < nI a := Int32.lt_iff_toInt_lt.mpr (by
  have h2 : x.toInt < (0 : Int32).toInt := Int32.lt_iff_toInt_lt.mp h
  have h3 : (0 : Int32).toInt = 0 := rfl
  rw [nI_toInt ha]
  omega)
theorem neg_int {x : Int32} (h : x < 0) : x.toInt < 0 := Int32.lt_iff_toInt_lt.mp h
