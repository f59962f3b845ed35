abbrev q_X4_init (D : va_G) (Y : Nat → ClassId) (u : Nat) : (Nat → Prop) → Array Value → State → Outcome → State → Prop := mv_Qv D Y (fun (ux : Nat) => True) (fun ux : Nat => ([(u, .inr (4, [.ref ux, .int (nI 0), .int (nI 0), .int (nI 0)])), (ux, .inl (Y 0, 10, .inl (aN (fun _ => 0))))] : va_W))
set_option maxHeartbeats 4000000 in
set_option maxRecDepth 100000 in
theorem c_X4_init (l : Launch) (D : va_G) (Y : Nat → ClassId) (sz : Nat) (u : Nat)  : mv_C l D Y yX4_init cX4_init 1 none 1 1 10 [.ref u] sz [(u, .inr (4, [.null, .int (nI 0), .int (nI 0), .int (nI 0)]))] (q_X4_init D Y u) := by
  refine mv_ofW (by decide) (Nat.le_of_ble_eq_true rfl) ?_
  intro p e s m below meth c ls A hx hb hr hlocks hml hnm hown hts hsz hAe hP hK hD hS hST hA hl
  have hl : lv_has ls 1 [(0, .ref u)] := hl
  refine lv_aload_n hx hb dX4_init_0 rfl (lv_at hl 0 rfl) ?_
  refine W.objInit hx hb hown (hts _ mw_63) (hts _ mw_10) (hts _ mw_11) rfl (by rw [hml]; exact hl.1) rfl dX4_init_1 (Nat.le_of_ble_eq_true rfl) (Nat.le_of_ble_eq_true rfl) ?_
  refine W.eq (g2 := F0 m 4 ls []) rfl ?_
  refine lv_aload_n hx hb dX4_init_4 rfl (lv_at hl 0 rfl) ?_
  refine lv_bipush (v := nI 10) hx hb dX4_init_5 (by decide) ?_
  refine mv_newaI hx hb hts hK hP hD hS hA (n := 10) (by decide) (by decide) (Nat.le_of_ble_eq_true rfl) (Nat.le_of_ble_eq_true rfl) dX4_init_7 (fun q_1 H hP hD hS => ?_)
  have hP : va_P D vwCl [(u, .inr (4, [.null, .int (nI 0), .int (nI 0), .int (nI 0)])), (q_1, .inl (Y 0, 10, .inl (aN (fun _ => 0))))] H := hP
  have hD : va_D A [(u, .inr (4, [.null, .int (nI 0), .int (nI 0), .int (nI 0)])), (q_1, .inl (Y 0, 10, .inl (aN (fun _ => 0))))] := hD
  refine W.widen (k := 1) (n := 10) (by omega) (by omega) ?_
  refine va_putF (D := D) (ci := 4) (v := .ref q_1) (ty := .array .int) (C := RX4) (T := TX4) (N := 4) hx hb hts inlX4 tyX4 tyX4_ok nmX4 hown hK hP hD hS 0 rfl rfl 0 (by decide) (hts _ mw_64) (fun _ h9 => h9) rfl hnm rfl (by decide +kernel) rfl rfl (Nat.le_of_ble_eq_true rfl) dX4_init_9 (fun H locs hP hD hS => ?_)
  have hP : va_P D vwCl [(u, .inr (4, [.ref q_1, .int (nI 0), .int (nI 0), .int (nI 0)])), (q_1, .inl (Y 0, 10, .inl (aN (fun _ => 0))))] H := hP
  have hD : va_D A [(u, .inr (4, [.ref q_1, .int (nI 0), .int (nI 0), .int (nI 0)])), (q_1, .inl (Y 0, 10, .inl (aN (fun _ => 0))))] := hD
  exact mv_vret hx hb hr hlocks (q_1) (trivial) hP hK hD hS dX4_init_12
abbrev q_X4_count (D : va_G) (Y : Nat → ClassId) (u : Nat) (uw : Nat) (n : Nat) (z1 : Nat) (z2 : Nat) (cw : Nat → Nat) (k0 : Nat) : (Nat → Prop) → Array Value → State → Outcome → State → Prop := mv_Qv D Y (fun (_ : Unit) => True) (fun _ : Unit => ([(u, .inr (4, [.ref uw, .int (nI (n + 1)), .int (nI (z1 ||| k0)), .int (nI (z2 &&& k0))])), (uw, .inl (Y 0, 10, .inl (aN (cntW cw k0 10))))] : va_W))
set_option maxHeartbeats 4000000 in
set_option maxRecDepth 100000 in
theorem c_X4_count (l : Launch) (D : va_G) (Y : Nat → ClassId) (sz : Nat) (u : Nat) (uw : Nat) (n : Nat) (z1 : Nat) (z2 : Nat) (cw : Nat → Nat) (k0 : Nat) (hk0 : k0 < 1024) : mv_C l D Y yX4_count cX4_count 3 none 0 0 0 [.ref u, .int (nI k0)] sz [(u, .inr (4, [.ref uw, .int (nI n), .int (nI z1), .int (nI z2)])), (uw, .inl (Y 0, 10, .inl (aN cw)))] (q_X4_count D Y u uw n z1 z2 cw k0) := by
  refine mv_ofW (by decide) (Nat.le_of_ble_eq_true rfl) ?_
  intro p e s m below meth c ls A hx hb hr hlocks hml hnm hown hts hsz hAe hP hK hD hS hST hA hl
  have hl : lv_has ls 3 [(0, .ref u), (1, .int (nI k0))] := hl
  have L32 : ∀ (fu : Nat) (k : Nat) (gz : Nat → Nat) (hk : k ≤ 10) (hg : gz = cntW cw k0 k) (hmeas : 10 - k < fu) (H : Heap) (locs : List Loc) (ls : Array Slot), va_P D vwCl [(u, .inr (4, [.ref uw, .int (nI (n + 1)), .int (nI (z1 ||| k0)), .int (nI (z2 &&& k0))])), (uw, .inl (Y 0, 10, .inl (aN gz)))] H → va_D A [(u, .inr (4, [.ref uw, .int (nI (n + 1)), .int (nI (z1 ||| k0)), .int (nI (z2 &&& k0))])), (uw, .inl (Y 0, 10, .inl (aN gz)))] → va_S A s.heap H locs → lv_has ls 3 [(2, .int (nI k)), (0, .ref u), (1, .int (nI k0))] → W p l e (mv_R 0 0 0) s m [.ref u, .int (nI k0)].toArray below meth c H locs 0 0 (MQ below ((q_X4_count D Y u uw n z1 z2 cw k0) A) [.ref u, .int (nI k0)].toArray s 0 0 A) (F0 m 32 ls []) := by
    intro fu
    induction fu with
    | zero =>
      intro k gz hk hg hmeas
      exact absurd hmeas (Nat.not_lt_zero _)
    | succ fu L32ih =>
      intro k gz hk hg hmeas H locs ls hP hD hS hl
      refine lv_iload_n hx hb dX4_count_32 rfl (lv_at hl 0 rfl) ?_
      refine lv_bipush (v := nI 10) hx hb dX4_count_33 (by decide) ?_
      refine mv_icmp_ge (tgt := 58) hx hb (by omega) (by omega) dX4_count_35 (by decide) (fun c35 => ?_) (fun c35 => ?_)
      · skip
        exact mv_vret hx hb hr hlocks () (trivial) (by rw [show cntW cw k0 10 = gz by rw [hg, show k = 10 by omega]]; exact hP) hK (by rw [show cntW cw k0 10 = gz by rw [hg, show k = 10 by omega]]; exact hD) hS dX4_count_58
      · skip
        refine lv_aload_n hx hb dX4_count_38 rfl (lv_at hl 1 rfl) ?_
        refine va_get (D := D) (ci := 4) (v := .ref uw) (C := RX4) (T := TX4) (N := 4) hx hb hts inlX4 hown hK hP 0 rfl rfl 0 (by decide) (hts _ mw_64) (fun _ h9 => h9) rfl dX4_count_39 ?_
        refine lv_iload_n hx hb dX4_count_42 rfl (lv_at hl 0 rfl) ?_
        refine lv_dup2_11 hx hb dX4_count_43 rfl rfl ?_
        refine mv_iald hx hb hK hP 1 rfl (i := k) (by omega) (by decide) dX4_count_44 ?_
        refine lv_iload_n hx hb dX4_count_45 rfl (lv_at hl 2 rfl) ?_
        refine lv_iload_n hx hb dX4_count_46 rfl (lv_at hl 0 rfl) ?_
        refine mv_ishr hx hb (by omega) (by omega) dX4_count_47 ?_
        refine lv_iconst (v := nI 1) hx hb dX4_count_48 (by decide) ?_
        refine mv_iand1 hx hb dX4_count_49 ?_
        refine mv_iadd hx hb dX4_count_50 ?_
        refine mv_iast hx hb hK hP hD hS 1 rfl (i := k) (v := (gz k) + ((k0 / 2 ^ k) % 2)) (by omega) (by decide) dX4_count_51 (fun H locs hP hD hS => ?_)
        have hP : va_P D vwCl [(u, .inr (4, [.ref uw, .int (nI (n + 1)), .int (nI (z1 ||| k0)), .int (nI (z2 &&& k0))])), (uw, .inl (Y 0, 10, .inl (aN (uN gz k ((gz k) + ((k0 / 2 ^ k) % 2))))))] H := hP
        have hD : va_D A [(u, .inr (4, [.ref uw, .int (nI (n + 1)), .int (nI (z1 ||| k0)), .int (nI (z2 &&& k0))])), (uw, .inl (Y 0, 10, .inl (aN (uN gz k ((gz k) + ((k0 / 2 ^ k) % 2))))))] := hD
        refine lv_iinc (v := nI (k + 1)) (lv' := [(2, .int (nI (k + 1))), (0, .ref u), (1, .int (nI k0))]) hx hb dX4_count_52 hl (k := 0) rfl (by exact nI_add _ 1) (by decide) rfl (fun ls hl => ?_)
        refine lv_goto (tgt := 32) hx hb dX4_count_55 (by decide) ?_
        exact L32ih  (k + 1) (uN gz k ((gz k) + ((k0 / 2 ^ k) % 2))) (by first | assumption | omega | rfl) (by rw [hg]; rfl) (by omega) _ _ _ hP hD hS (lv_sub hl [0, 1, 2] rfl)
  refine lv_aload_n hx hb dX4_count_0 rfl (lv_at hl 0 rfl) ?_
  refine lv_dup hx hb dX4_count_1 rfl ?_
  refine va_get (D := D) (ci := 4) (v := .int (nI n)) (C := RX4) (T := TX4) (N := 4) hx hb hts inlX4 hown hK hP 0 rfl rfl 1 (by decide) (hts _ mw_517) (fun _ h9 => h9) rfl dX4_count_2 ?_
  refine lv_iconst (v := nI 1) hx hb dX4_count_5 (by decide) ?_
  refine mv_iadd hx hb dX4_count_6 ?_
  refine va_put (D := D) (ci := 4) (v := .int (nI (n + 1))) (ty := .int) (C := RX4) (T := TX4) (N := 4) hx hb hts inlX4 tyX4 tyX4_ok nmX4 hown hK hP hD hS 0 rfl rfl 1 (by decide) (hts _ mw_517) (fun _ h9 => h9) rfl (by decide +kernel) rfl rfl (Nat.le_of_ble_eq_true rfl) dX4_count_7 (fun H locs hP hD hS => ?_)
  have hP : va_P D vwCl [(u, .inr (4, [.ref uw, .int (nI (n + 1)), .int (nI z1), .int (nI z2)])), (uw, .inl (Y 0, 10, .inl (aN cw)))] H := hP
  have hD : va_D A [(u, .inr (4, [.ref uw, .int (nI (n + 1)), .int (nI z1), .int (nI z2)])), (uw, .inl (Y 0, 10, .inl (aN cw)))] := hD
  refine lv_aload_n hx hb dX4_count_10 rfl (lv_at hl 0 rfl) ?_
  refine lv_dup hx hb dX4_count_11 rfl ?_
  refine va_get (D := D) (ci := 4) (v := .int (nI z1)) (C := RX4) (T := TX4) (N := 4) hx hb hts inlX4 hown hK hP 0 rfl rfl 2 (by decide) (hts _ mw_518) (fun _ h9 => h9) rfl dX4_count_12 ?_
  refine lv_iload_n hx hb dX4_count_15 rfl (lv_at hl 1 rfl) ?_
  refine mv_ior hx hb dX4_count_16 ?_
  refine va_put (D := D) (ci := 4) (v := .int (nI (z1 ||| k0))) (ty := .int) (C := RX4) (T := TX4) (N := 4) hx hb hts inlX4 tyX4 tyX4_ok nmX4 hown hK hP hD hS 0 rfl rfl 2 (by decide) (hts _ mw_518) (fun _ h9 => h9) rfl (by decide +kernel) rfl rfl (Nat.le_of_ble_eq_true rfl) dX4_count_17 (fun H locs hP hD hS => ?_)
  have hP : va_P D vwCl [(u, .inr (4, [.ref uw, .int (nI (n + 1)), .int (nI (z1 ||| k0)), .int (nI z2)])), (uw, .inl (Y 0, 10, .inl (aN cw)))] H := hP
  have hD : va_D A [(u, .inr (4, [.ref uw, .int (nI (n + 1)), .int (nI (z1 ||| k0)), .int (nI z2)])), (uw, .inl (Y 0, 10, .inl (aN cw)))] := hD
  refine lv_aload_n hx hb dX4_count_20 rfl (lv_at hl 0 rfl) ?_
  refine lv_dup hx hb dX4_count_21 rfl ?_
  refine va_get (D := D) (ci := 4) (v := .int (nI z2)) (C := RX4) (T := TX4) (N := 4) hx hb hts inlX4 hown hK hP 0 rfl rfl 3 (by decide) (hts _ mw_519) (fun _ h9 => h9) rfl dX4_count_22 ?_
  refine lv_iload_n hx hb dX4_count_25 rfl (lv_at hl 1 rfl) ?_
  refine mv_iand hx hb dX4_count_26 ?_
  refine va_put (D := D) (ci := 4) (v := .int (nI (z2 &&& k0))) (ty := .int) (C := RX4) (T := TX4) (N := 4) hx hb hts inlX4 tyX4 tyX4_ok nmX4 hown hK hP hD hS 0 rfl rfl 3 (by decide) (hts _ mw_519) (fun _ h9 => h9) rfl (by decide +kernel) rfl rfl (Nat.le_of_ble_eq_true rfl) dX4_count_27 (fun H locs hP hD hS => ?_)
  have hP : va_P D vwCl [(u, .inr (4, [.ref uw, .int (nI (n + 1)), .int (nI (z1 ||| k0)), .int (nI (z2 &&& k0))])), (uw, .inl (Y 0, 10, .inl (aN cw)))] H := hP
  have hD : va_D A [(u, .inr (4, [.ref uw, .int (nI (n + 1)), .int (nI (z1 ||| k0)), .int (nI (z2 &&& k0))])), (uw, .inl (Y 0, 10, .inl (aN cw)))] := hD
  refine lv_iconst (v := nI 0) hx hb dX4_count_30 (by decide) ?_
  refine lv_istore_n (lv' := [(2, .int (nI 0)), (0, .ref u), (1, .int (nI k0))]) hx hb dX4_count_31 rfl hl (by decide) rfl (fun ls hl => ?_)
  exact L32 (10 - 0 + 1) 0 cw (by first | assumption | omega | rfl) (by first | assumption | omega | rfl) (Nat.lt_succ_self _) _ _ _ hP hD hS (lv_sub hl [0, 1, 2] rfl)
abbrev q_X4_mostLeft (D : va_G) (Y : Nat → ClassId) (u : Nat) (uw : Nat) (n : Nat) (z1 : Nat) (z2 : Nat) (cw : Nat → Nat) (k : Nat) : (Nat → Prop) → Array Value → State → Outcome → State → Prop := mv_Qi D Y (fun (r : Int32) (_ : Unit) => r = nI (mlS cw n k)) (fun _ : Unit => ([(u, .inr (4, [.ref uw, .int (nI n), .int (nI z1), .int (nI z2)])), (uw, .inl (Y 0, 10, .inl (aN cw)))] : va_W))
set_option maxHeartbeats 4000000 in
set_option maxRecDepth 100000 in
theorem c_X4_mostLeft (l : Launch) (D : va_G) (Y : Nat → ClassId) (sz : Nat) (u : Nat) (uw : Nat) (n : Nat) (z1 : Nat) (z2 : Nat) (cw : Nat → Nat) (k : Nat) (hk : k < 10) (hn : n < 2 ^ 31) (hc : cw k ≤ n) : mv_C l D Y yX4_mostLeft cX4_mostLeft 2 (some .int) 1 0 0 [.ref u, .int (nI k)] sz [(u, .inr (4, [.ref uw, .int (nI n), .int (nI z1), .int (nI z2)])), (uw, .inl (Y 0, 10, .inl (aN cw)))] (q_X4_mostLeft D Y u uw n z1 z2 cw k) := by
  refine mv_ofW (by decide) (Nat.le_of_ble_eq_true rfl) ?_
  intro p e s m below meth c ls A hx hb hr hlocks hml hnm hown hts hsz hAe hP hK hD hS hST hA hl
  have hl : lv_has ls 2 [(0, .ref u), (1, .int (nI k))] := hl
  refine lv_iload_n hx hb dX4_mostLeft_0 rfl (lv_at hl 1 rfl) ?_
  refine mv_callSNi (nA := 1) (As := [.int (nI k)]) (rest := []) (Wc := []) (wr := [(u, .inr (4, [.ref uw, .int (nI n), .int (nI z1), .int (nI z2)])), (uw, .inl (Y 0, 10, .inl (aN cw)))]) hx hb hml hown hts hK hP hD hS hST hA hl.1 (c_X7_isSaying l D Y _ k (by first | assumption | omega | rfl)) [] [0, 1] rfl rfl (by decide) (by decide) (by decide) rfl (by decide) mw_132 mw_2 mw_133 ⟨by decide, by decide, by decide +kernel⟩ rfl ⟨Nat.le_of_ble_eq_true rfl, Nat.le_of_ble_eq_true rfl⟩ rfl (Nat.le_of_ble_eq_true rfl) dX4_mostLeft_1 ⟨Nat.le_of_ble_eq_true rfl, Nat.le_of_ble_eq_true rfl⟩ (fun r_1 ux H locs hr1 hP hD hS hz1 => ?_)
  have hP := hP.sub (ws' := [(u, .inr (4, [.ref uw, .int (nI n), .int (nI z1), .int (nI z2)])), (uw, .inl (Y 0, 10, .inl (aN cw)))]) [0, 1] rfl
  have hD := hD.sub (ws' := [(u, .inr (4, [.ref uw, .int (nI n), .int (nI z1), .int (nI z2)])), (uw, .inl (Y 0, 10, .inl (aN cw)))]) [0, 1] (by decide) rfl
  have hr1 : r_1 = nI (bN (decide (k < 10))) := hr1
  subst hr1
  refine mv_if_eq (tgt := 30) hx hb (by first | omega | exact Nat.lt_trans (bN_lt _) (by decide)) dX4_mostLeft_4 (by decide) (fun c4 => ?_) (fun c4 => ?_)
  · skip
    exact absurd (bN_0.mp c4) (by rw [decide_eq_true hk]; decide)
  · skip
    refine lv_aload_n hx hb dX4_mostLeft_7 rfl (lv_at hl 0 rfl) ?_
    refine va_get (D := D) (ci := 4) (v := .ref uw) (C := RX4) (T := TX4) (N := 4) hx hb hts inlX4 hown hK hP 0 rfl rfl 0 (by decide) (hts _ mw_64) (fun _ h9 => h9) rfl dX4_mostLeft_8 ?_
    refine lv_iload_n hx hb dX4_mostLeft_11 rfl (lv_at hl 1 rfl) ?_
    refine mv_iald hx hb hK hP 1 rfl (i := k) (by omega) (by decide) dX4_mostLeft_12 ?_
    refine lv_aload_n hx hb dX4_mostLeft_13 rfl (lv_at hl 0 rfl) ?_
    refine va_get (D := D) (ci := 4) (v := .int (nI n)) (C := RX4) (T := TX4) (N := 4) hx hb hts inlX4 hown hK hP 0 rfl rfl 1 (by decide) (hts _ mw_517) (fun _ h9 => h9) rfl dX4_mostLeft_14 ?_
    refine lv_aload_n hx hb dX4_mostLeft_17 rfl (lv_at hl 0 rfl) ?_
    refine va_get (D := D) (ci := 4) (v := .ref uw) (C := RX4) (T := TX4) (N := 4) hx hb hts inlX4 hown hK hP 0 rfl rfl 0 (by decide) (hts _ mw_64) (fun _ h9 => h9) rfl dX4_mostLeft_18 ?_
    refine lv_iload_n hx hb dX4_mostLeft_21 rfl (lv_at hl 1 rfl) ?_
    refine mv_iald hx hb hK hP 1 rfl (i := k) (by omega) (by decide) dX4_mostLeft_22 ?_
    refine mv_isub hx hb (by omega) dX4_mostLeft_23 ?_
    refine mv_max hx hb (by rw [hml]; exact hl.1.symm) hown (hts _ mw_548) (hts _ mw_302) (hts _ mw_303) (hts _ mw_304) (Nat.le_of_ble_eq_true rfl) (Nat.le_of_ble_eq_true rfl) (Nat.le_of_ble_eq_true rfl) (Nat.le_of_ble_eq_true rfl) (by first | omega | exact Nat.lt_trans (bN_lt _) (by decide)) (by omega) dX4_mostLeft_24 ?_
    refine lv_goto (tgt := 34) hx hb dX4_mostLeft_27 (by decide) ?_
    exact mv_iret hx hb hr hlocks () (rfl) hP hK hD hS dX4_mostLeft_34
abbrev q_X4_sayingToTry (D : va_G) (Y : Nat → ClassId) (u : Nat) (uw : Nat) (n : Nat) (z1 : Nat) (z2 : Nat) (cw : Nat → Nat) : (Nat → Prop) → Array Value → State → Outcome → State → Prop := mv_Qi D Y (fun (r : Int32) (_ : Unit) => r = nI (tryS (mlS cw n) 9)) (fun _ : Unit => ([(u, .inr (4, [.ref uw, .int (nI n), .int (nI z1), .int (nI z2)])), (uw, .inl (Y 0, 10, .inl (aN cw)))] : va_W))
set_option maxHeartbeats 4000000 in
set_option maxRecDepth 100000 in
theorem c_X4_sayingToTry (l : Launch) (D : va_G) (Y : Nat → ClassId) (sz : Nat) (u : Nat) (uw : Nat) (n : Nat) (z1 : Nat) (z2 : Nat) (cw : Nat → Nat) (hn : n < 2 ^ 31) (hc : ∀ k, k < 10 → cw k ≤ n) : mv_C l D Y yX4_sayingToTry cX4_sayingToTry 3 (some .int) 2 0 0 [.ref u] sz [(u, .inr (4, [.ref uw, .int (nI n), .int (nI z1), .int (nI z2)])), (uw, .inl (Y 0, 10, .inl (aN cw)))] (q_X4_sayingToTry D Y u uw n z1 z2 cw) := by
  refine mv_ofW (by decide) (Nat.le_of_ble_eq_true rfl) ?_
  intro p e s m below meth c ls A hx hb hr hlocks hml hnm hown hts hsz hAe hP hK hD hS hST hA hl
  have hl : lv_has ls 3 [(0, .ref u)] := hl
  have L4 : ∀ (fu : Nat) (k : Nat) (t : Nat) (j : Nat) (hk : k ≤ 10) (hj : k = j + 1) (ht : t = tryS (mlS cw n) j) (hmeas : 10 - k < fu) (H : Heap) (locs : List Loc) (ls : Array Slot), va_P D vwCl [(u, .inr (4, [.ref uw, .int (nI n), .int (nI z1), .int (nI z2)])), (uw, .inl (Y 0, 10, .inl (aN cw)))] H → va_D A [(u, .inr (4, [.ref uw, .int (nI n), .int (nI z1), .int (nI z2)])), (uw, .inl (Y 0, 10, .inl (aN cw)))] → va_S A s.heap H locs → lv_has ls 3 [(2, .int (nI k)), (1, .int (nI t)), (0, .ref u)] → W p l e (mv_R 2 0 0) s m [.ref u].toArray below meth c H locs 0 0 (MQ below ((q_X4_sayingToTry D Y u uw n z1 z2 cw) A) [.ref u].toArray s 0 0 A) (F0 m 4 ls []) := by
    intro fu
    induction fu with
    | zero =>
      intro k t j hk hj ht hmeas
      exact absurd hmeas (Nat.not_lt_zero _)
    | succ fu L4ih =>
      intro k t j hk hj ht hmeas H locs ls hP hD hS hl
      have hmS : ∀ i, i < 10 → mlS cw n i < 2 ^ 31 := fun i hi => by have := hc i hi; unfold mlS mxN; split <;> omega
      have ht9 : t ≤ 9 := by have := tryS_le (mlS cw n) j; omega
      refine lv_iload_n hx hb dX4_sayingToTry_4 rfl (lv_at hl 0 rfl) ?_
      refine lv_bipush (v := nI 10) hx hb dX4_sayingToTry_5 (by decide) ?_
      refine mv_icmp_ge (tgt := 31) hx hb (by first | omega | exact hmS _ (by omega)) (by first | omega | exact hmS _ (by omega)) dX4_sayingToTry_7 (by decide) (fun c7 => ?_) (fun c7 => ?_)
      · skip
        refine lv_iload_n hx hb dX4_sayingToTry_31 rfl (lv_at hl 1 rfl) ?_
        exact mv_iret hx hb hr hlocks () (by rw [ht, show j = 9 by omega]) hP hK hD hS dX4_sayingToTry_32
      · skip
        refine lv_aload_n hx hb dX4_sayingToTry_10 rfl (lv_at hl 2 rfl) ?_
        refine lv_iload_n hx hb dX4_sayingToTry_11 rfl (lv_at hl 0 rfl) ?_
        refine mv_callVi (nA := 1) (As := [.int (nI k)]) (rest := []) (Wc := [(u, .inr (4, [.ref uw, .int (nI n), .int (nI z1), .int (nI z2)])), (uw, .inl (Y 0, 10, .inl (aN cw)))]) (wr := []) hx hb hml hown hts hK hP hD hS hST hA hl.1 (c_X4_mostLeft l D Y _ u uw n z1 z2 cw k (by first | assumption | omega | rfl) (by first | assumption | omega | rfl) (hc _ (by omega))) [0, 1] [] rfl rfl (by decide) (by decide) (by decide) rfl 0 rfl rfl rfl mw_544 mw_545 mw_546 mw_27 mw_547 ⟨by decide, by decide, by decide +kernel⟩ rfl ⟨Nat.le_of_ble_eq_true rfl, Nat.le_of_ble_eq_true rfl⟩ rfl (Nat.le_of_ble_eq_true rfl) dX4_sayingToTry_12 ⟨Nat.le_of_ble_eq_true rfl, Nat.le_of_ble_eq_true rfl⟩ (fun r_1 ux H locs hr12 hP hD hS hz12 => ?_)
        have hP := hP.sub (ws' := [(u, .inr (4, [.ref uw, .int (nI n), .int (nI z1), .int (nI z2)])), (uw, .inl (Y 0, 10, .inl (aN cw)))]) [0, 1] rfl
        have hD := hD.sub (ws' := [(u, .inr (4, [.ref uw, .int (nI n), .int (nI z1), .int (nI z2)])), (uw, .inl (Y 0, 10, .inl (aN cw)))]) [0, 1] (by decide) rfl
        have hr12 : r_1 = nI (mlS cw n k) := hr12
        subst hr12
        refine lv_aload_n hx hb dX4_sayingToTry_15 rfl (lv_at hl 2 rfl) ?_
        refine lv_iload_n hx hb dX4_sayingToTry_16 rfl (lv_at hl 1 rfl) ?_
        refine mv_callVi (nA := 1) (As := [.int (nI t)]) (rest := [.int (nI (mlS cw n k))]) (Wc := [(u, .inr (4, [.ref uw, .int (nI n), .int (nI z1), .int (nI z2)])), (uw, .inl (Y 0, 10, .inl (aN cw)))]) (wr := []) hx hb hml hown hts hK hP hD hS hST hA hl.1 (c_X4_mostLeft l D Y _ u uw n z1 z2 cw t (by first | assumption | omega | rfl) (by first | assumption | omega | rfl) (hc _ (by omega))) [0, 1] [] rfl rfl (by decide) (by decide) (by decide) rfl 0 rfl rfl rfl mw_544 mw_545 mw_546 mw_27 mw_547 ⟨by decide, by decide, by decide +kernel⟩ rfl ⟨Nat.le_of_ble_eq_true rfl, Nat.le_of_ble_eq_true rfl⟩ rfl (Nat.le_of_ble_eq_true rfl) dX4_sayingToTry_17 ⟨Nat.le_of_ble_eq_true rfl, Nat.le_of_ble_eq_true rfl⟩ (fun r_2 ux H locs hr17 hP hD hS hz17 => ?_)
        have hP := hP.sub (ws' := [(u, .inr (4, [.ref uw, .int (nI n), .int (nI z1), .int (nI z2)])), (uw, .inl (Y 0, 10, .inl (aN cw)))]) [0, 1] rfl
        have hD := hD.sub (ws' := [(u, .inr (4, [.ref uw, .int (nI n), .int (nI z1), .int (nI z2)])), (uw, .inl (Y 0, 10, .inl (aN cw)))]) [0, 1] (by decide) rfl
        have hr17 : r_2 = nI (mlS cw n t) := hr17
        subst hr17
        refine mv_icmp_ge (tgt := 25) hx hb (by first | omega | exact hmS _ (by omega)) (by first | omega | exact hmS _ (by omega)) dX4_sayingToTry_20 (by decide) (fun c20 => ?_) (fun c20 => ?_)
        · skip
          refine lv_iinc (v := nI (k + 1)) (lv' := [(2, .int (nI (k + 1))), (1, .int (nI t)), (0, .ref u)]) hx hb dX4_sayingToTry_25 hl (k := 0) rfl (by exact nI_add _ 1) (by decide) rfl (fun ls hl => ?_)
          refine lv_goto (tgt := 4) hx hb dX4_sayingToTry_28 (by decide) ?_
          exact L4ih  (k + 1) t (j + 1) (by first | assumption | omega | rfl) (by first | assumption | omega | rfl) (by subst hj; rw [ht] at c20 ⊢; exact (if_neg (by omega)).symm) (by omega) _ _ _ hP hD hS (lv_sub hl [0, 1, 2] rfl)
        · skip
          refine lv_iload_n hx hb dX4_sayingToTry_23 rfl (lv_at hl 0 rfl) ?_
          refine lv_istore_n (lv' := [(1, .int (nI k)), (2, .int (nI k)), (0, .ref u)]) hx hb dX4_sayingToTry_24 rfl hl (by decide) rfl (fun ls hl => ?_)
          refine lv_iinc (v := nI (k + 1)) (lv' := [(2, .int (nI (k + 1))), (1, .int (nI k)), (0, .ref u)]) hx hb dX4_sayingToTry_25 hl (k := 1) rfl (by exact nI_add _ 1) (by decide) rfl (fun ls hl => ?_)
          refine lv_goto (tgt := 4) hx hb dX4_sayingToTry_28 (by decide) ?_
          exact L4ih  (k + 1) k (j + 1) (by first | assumption | omega | rfl) (by first | assumption | omega | rfl) (by subst hj; rw [ht] at c20; exact (if_pos c20).symm) (by omega) _ _ _ hP hD hS (lv_sub hl [0, 1, 2] rfl)
  refine lv_iconst (v := nI 0) hx hb dX4_sayingToTry_0 (by decide) ?_
  refine lv_istore_n (lv' := [(1, .int (nI 0)), (0, .ref u)]) hx hb dX4_sayingToTry_1 rfl hl (by decide) rfl (fun ls hl => ?_)
  refine lv_iconst (v := nI 1) hx hb dX4_sayingToTry_2 (by decide) ?_
  refine lv_istore_n (lv' := [(2, .int (nI 1)), (1, .int (nI 0)), (0, .ref u)]) hx hb dX4_sayingToTry_3 rfl hl (by decide) rfl (fun ls hl => ?_)
  exact L4 (10 - 1 + 1) 1 0 0 (by first | assumption | omega | rfl) (by first | assumption | omega | rfl) (by first | assumption | omega | rfl) (Nat.lt_succ_self _) _ _ _ hP hD hS (lv_sub hl [0, 1, 2] rfl)
abbrev q_X4_fewestToBlame (D : va_G) (Y : Nat → ClassId) (w : Nat) (h : Nat) (ca : Nat) (ro : Nat) (sh : Nat) (un : Nat) (so : Nat) (si : Nat) (prs : Nat) (yrs : Nat) (bs : Nat) (sc : Nat) (gh : Nat → Nat) (gro : Nat → Nat) (gsh : Nat → Nat) (rb : Nat) : (Nat → Prop) → Array Value → State → Outcome → State → Prop := mv_Qi D Y (fun (r : Int32) (_ : Unit) => r = oI (blS (sinS gro rb 10) (gh rb) gsh 1024)) (fun _ : Unit => ([(w, .inr (6, [.ref h, .ref ca, .int (nI prs), .int (nI yrs), .ref ro, .ref sh, .ref un, .ref so, .ref si, .int (nI bs), .int (nI sc)])), (h, .inl (Y 0, 6, .inl (aN gh))), (ro, .inl (Y 0, 10, .inl (aN gro))), (sh, .inl (Y 0, 10, .inl (aN gsh)))] : va_W))
set_option maxHeartbeats 4000000 in
set_option maxRecDepth 100000 in
theorem c_X4_fewestToBlame (l : Launch) (D : va_G) (Y : Nat → ClassId) (sz : Nat) (w : Nat) (h : Nat) (ca : Nat) (ro : Nat) (sh : Nat) (un : Nat) (so : Nat) (si : Nat) (prs : Nat) (yrs : Nat) (bs : Nat) (sc : Nat) (gh : Nat → Nat) (gro : Nat → Nat) (gsh : Nat → Nat) (rb : Nat) (hrb : rb < 6) (hh : ∀ k, k < 6 → gh k < 65536) (hro : ∀ k, k < 10 → gro k < 6) (hsh : ∀ k, k < 10 → gsh k < 65536) : mv_C l D Y yX4_fewestToBlame cX4_fewestToBlame 6 (some .int) 1 0 0 [.ref w, .int (nI rb)] sz [(w, .inr (6, [.ref h, .ref ca, .int (nI prs), .int (nI yrs), .ref ro, .ref sh, .ref un, .ref so, .ref si, .int (nI bs), .int (nI sc)])), (h, .inl (Y 0, 6, .inl (aN gh))), (ro, .inl (Y 0, 10, .inl (aN gro))), (sh, .inl (Y 0, 10, .inl (aN gsh)))] (q_X4_fewestToBlame D Y w h ca ro sh un so si prs yrs bs sc gh gro gsh rb) := by
  refine mv_ofW (by decide) (Nat.le_of_ble_eq_true rfl) ?_
  intro p e s m below meth c ls A hx hb hr hlocks hml hnm hown hts hsz hAe hP hK hD hS hST hA hl
  have hl : lv_has ls 6 [(0, .ref w), (1, .int (nI rb))] := hl
  have L12 : ∀ (fu : Nat) (k : Nat) (ff : Option Nat) (hk : k ≤ 1024) (hf : ff = blS (sinS gro rb 10) (gh rb) gsh k) (hmeas : 1024 - k < fu) (H : Heap) (locs : List Loc) (ls : Array Slot), va_P D vwCl [(w, .inr (6, [.ref h, .ref ca, .int (nI prs), .int (nI yrs), .ref ro, .ref sh, .ref un, .ref so, .ref si, .int (nI bs), .int (nI sc)])), (h, .inl (Y 0, 6, .inl (aN gh))), (ro, .inl (Y 0, 10, .inl (aN gro))), (sh, .inl (Y 0, 10, .inl (aN gsh)))] H → va_D A [(w, .inr (6, [.ref h, .ref ca, .int (nI prs), .int (nI yrs), .ref ro, .ref sh, .ref un, .ref so, .ref si, .int (nI bs), .int (nI sc)])), (h, .inl (Y 0, 6, .inl (aN gh))), (ro, .inl (Y 0, 10, .inl (aN gro))), (sh, .inl (Y 0, 10, .inl (aN gsh)))] → va_S A s.heap H locs → lv_has ls 6 [(4, .int (nI k)), (3, .int (oI ff)), (0, .ref w), (1, .int (nI rb)), (2, .int (nI (sinS gro rb 10)))] → W p l e (mv_R 1 0 0) s m [.ref w, .int (nI rb)].toArray below meth c H locs 0 0 (MQ below ((q_X4_fewestToBlame D Y w h ca ro sh un so si prs yrs bs sc gh gro gsh rb) A) [.ref w, .int (nI rb)].toArray s 0 0 A) (F0 m 12 ls []) := by
    intro fu
    induction fu with
    | zero =>
      intro k ff hk hf hmeas
      exact absurd hmeas (Nat.not_lt_zero _)
    | succ fu L12ih =>
      intro k ff hk hf hmeas H locs ls hP hD hS hl
      have hsin : sinS gro rb 10 < 2 ^ 10 := sinS_lt gro rb 10
      have hfb : obn 1024 ff := fun x hx => by have := blS_bd (sinS gro rb 10) (gh rb) gsh k x (by rw [← hf]; exact hx); omega
      have L43 : ∀ (b : Nat) (hb9 : (b = 1 ∧ fwB ff k = true) ∨ (b = 0 ∧ fwB ff k = false)) (hk2 : k < 1024) (H : Heap) (locs : List Loc) (ls : Array Slot), va_P D vwCl [(w, .inr (6, [.ref h, .ref ca, .int (nI prs), .int (nI yrs), .ref ro, .ref sh, .ref un, .ref so, .ref si, .int (nI bs), .int (nI sc)])), (h, .inl (Y 0, 6, .inl (aN gh))), (ro, .inl (Y 0, 10, .inl (aN gro))), (sh, .inl (Y 0, 10, .inl (aN gsh)))] H → va_D A [(w, .inr (6, [.ref h, .ref ca, .int (nI prs), .int (nI yrs), .ref ro, .ref sh, .ref un, .ref so, .ref si, .int (nI bs), .int (nI sc)])), (h, .inl (Y 0, 6, .inl (aN gh))), (ro, .inl (Y 0, 10, .inl (aN gro))), (sh, .inl (Y 0, 10, .inl (aN gsh)))] → va_S A s.heap H locs → lv_has ls 6 [(4, .int (nI k)), (3, .int (oI ff)), (0, .ref w), (1, .int (nI rb)), (2, .int (nI (sinS gro rb 10)))] → W p l e (mv_R 1 0 0) s m [.ref w, .int (nI rb)].toArray below meth c H locs 0 0 (MQ below ((q_X4_fewestToBlame D Y w h ca ro sh un so si prs yrs bs sc gh gro gsh rb) A) [.ref w, .int (nI rb)].toArray s 0 0 A) (F0 m 43 ls [.int (nI b)]) := by
        intro b hb9 hk2 H locs ls hP hD hS hl
        refine lv_istore (lv' := [(5, .int (nI b)), (4, .int (nI k)), (3, .int (oI ff)), (0, .ref w), (1, .int (nI rb)), (2, .int (nI (sinS gro rb 10)))]) hx hb dX4_fewestToBlame_43 hl (by decide) rfl (fun ls hl => ?_)
        refine lv_iload hx hb dX4_fewestToBlame_45 (lv_at hl 0 rfl) ?_
        refine mv_if_eq (tgt := 80) hx hb (by first | omega | exact Nat.lt_of_le_of_lt Nat.and_le_left (by omega)) dX4_fewestToBlame_47 (by decide) (fun c47 => ?_) (fun c47 => ?_)
        · skip
          skip
          refine lv_iinc (v := nI (k + 1)) (lv' := [(4, .int (nI (k + 1))), (5, .int (nI b)), (3, .int (oI ff)), (0, .ref w), (1, .int (nI rb)), (2, .int (nI (sinS gro rb 10)))]) hx hb dX4_fewestToBlame_80 hl (k := 1) rfl (by exact nI_add _ 1) (by decide) rfl (fun ls hl => ?_)
          refine lv_goto (tgt := 12) hx hb dX4_fewestToBlame_83 (by decide) ?_
          exact L12ih  (k + 1) ff (by first | assumption | omega | rfl) (by rw [hf, blS, if_neg]; rintro ⟨q, -⟩; rw [← hf] at q; have hb8 : fwB ff k = false := (by rcases hb9 with hb9 | hb9; omega; exact hb9.2); rw [hb8] at q; cases q) (by omega) _ _ _ hP hD hS (lv_sub hl [0, 2, 3, 4, 5] rfl)
        · skip
          have hbt : fwB ff k = true := by rcases hb9 with hb9 | hb9; exact hb9.2; omega
          refine lv_iload hx hb dX4_fewestToBlame_50 (lv_at hl 1 rfl) ?_
          refine lv_iload_n hx hb dX4_fewestToBlame_52 rfl (lv_at hl 5 rfl) ?_
          refine lv_iconst (v := nI 4294967295) hx hb dX4_fewestToBlame_53 (by decide) ?_
          refine mv_ixor hx hb dX4_fewestToBlame_54 ?_
          refine mv_iand hx hb dX4_fewestToBlame_55 ?_
          refine mv_if_ne (tgt := 80) hx hb (by first | omega | exact Nat.lt_of_le_of_lt Nat.and_le_left (by omega)) dX4_fewestToBlame_56 (by decide) (fun c56 => ?_) (fun c56 => ?_)
          · skip
            skip
            refine lv_iinc (v := nI (k + 1)) (lv' := [(4, .int (nI (k + 1))), (5, .int (nI b)), (3, .int (oI ff)), (0, .ref w), (1, .int (nI rb)), (2, .int (nI (sinS gro rb 10)))]) hx hb dX4_fewestToBlame_80 hl (k := 1) rfl (by exact nI_add _ 1) (by decide) rfl (fun ls hl => ?_)
            refine lv_goto (tgt := 12) hx hb dX4_fewestToBlame_83 (by decide) ?_
            exact L12ih  (k + 1) ff (by first | assumption | omega | rfl) (by rw [hf, blS, if_neg]; rintro ⟨-, q⟩; exact c56 (of_decide_eq_true q).1) (by omega) _ _ _ hP hD hS (lv_sub hl [0, 2, 3, 4, 5] rfl)
          · skip
            have hhr := hh rb hrb
            refine lv_aload_n hx hb dX4_fewestToBlame_59 rfl (lv_at hl 3 rfl) ?_
            refine va_get (D := D) (ci := 6) (v := .ref h) (C := RX6) (T := TX6) (N := 11) hx hb hts inlX6 hown hK hP 0 rfl rfl 0 (by decide) (hts _ mw_416) (fun _ h9 => h9) rfl dX4_fewestToBlame_60 ?_
            refine lv_iload_n hx hb dX4_fewestToBlame_63 rfl (lv_at hl 4 rfl) ?_
            refine mv_iald hx hb hK hP 1 rfl (i := rb) (by omega) (by decide) dX4_fewestToBlame_64 ?_
            refine lv_aload_n hx hb dX4_fewestToBlame_65 rfl (lv_at hl 3 rfl) ?_
            refine lv_iload hx hb dX4_fewestToBlame_66 (lv_at hl 1 rfl) ?_
            refine mv_callVi (nA := 1) (As := [.int (nI k)]) (rest := [.int (nI (gh rb))]) (Wc := [(w, .inr (6, [.ref h, .ref ca, .int (nI prs), .int (nI yrs), .ref ro, .ref sh, .ref un, .ref so, .ref si, .int (nI bs), .int (nI sc)])), (sh, .inl (Y 0, 10, .inl (aN gsh)))]) (wr := [(h, .inl (Y 0, 6, .inl (aN gh))), (ro, .inl (Y 0, 10, .inl (aN gro)))]) hx hb hml hown hts hK hP hD hS hST hA hl.1 (c_X6_shapeOfAll l D Y _ w h ca ro sh un so si prs yrs bs sc gsh k (by first | assumption | omega | rfl) (by first | assumption | omega | rfl)) [0, 3] [1, 2] rfl rfl (by decide) (by decide) (by decide) rfl 0 rfl rfl rfl mw_428 mw_429 mw_430 mw_14 mw_431 ⟨by decide, by decide, by decide +kernel⟩ rfl ⟨Nat.le_of_ble_eq_true rfl, Nat.le_of_ble_eq_true rfl⟩ rfl (Nat.le_of_ble_eq_true rfl) dX4_fewestToBlame_68 ⟨Nat.le_of_ble_eq_true rfl, Nat.le_of_ble_eq_true rfl⟩ (fun r_1 ux H locs hr68 hP hD hS hz68 => ?_)
            have hP := hP.sub (ws' := [(w, .inr (6, [.ref h, .ref ca, .int (nI prs), .int (nI yrs), .ref ro, .ref sh, .ref un, .ref so, .ref si, .int (nI bs), .int (nI sc)])), (h, .inl (Y 0, 6, .inl (aN gh))), (ro, .inl (Y 0, 10, .inl (aN gro))), (sh, .inl (Y 0, 10, .inl (aN gsh)))]) [2, 0, 1, 3] rfl
            have hD := hD.sub (ws' := [(w, .inr (6, [.ref h, .ref ca, .int (nI prs), .int (nI yrs), .ref ro, .ref sh, .ref un, .ref so, .ref si, .int (nI bs), .int (nI sc)])), (h, .inl (Y 0, 6, .inl (aN gh))), (ro, .inl (Y 0, 10, .inl (aN gro))), (sh, .inl (Y 0, 10, .inl (aN gsh)))]) [2, 0, 1, 3] (by decide) rfl
            have hr68 : r_1 = nI (shpS gsh k 10) := hr68
            subst hr68
            refine lv_iconst (v := nI 4294967295) hx hb dX4_fewestToBlame_71 (by decide) ?_
            refine mv_ixor hx hb dX4_fewestToBlame_72 ?_
            refine mv_iand hx hb dX4_fewestToBlame_73 ?_
            refine mv_if_ne (tgt := 80) hx hb (by first | omega | exact Nat.lt_of_le_of_lt Nat.and_le_left (by omega)) dX4_fewestToBlame_74 (by decide) (fun c74 => ?_) (fun c74 => ?_)
            · skip
              skip
              refine lv_iinc (v := nI (k + 1)) (lv' := [(4, .int (nI (k + 1))), (5, .int (nI b)), (3, .int (oI ff)), (0, .ref w), (1, .int (nI rb)), (2, .int (nI (sinS gro rb 10)))]) hx hb dX4_fewestToBlame_80 hl (k := 1) rfl (by exact nI_add _ 1) (by decide) rfl (fun ls hl => ?_)
              refine lv_goto (tgt := 12) hx hb dX4_fewestToBlame_83 (by decide) ?_
              exact L12ih  (k + 1) ff (by first | assumption | omega | rfl) (by rw [hf, blS, if_neg]; rintro ⟨-, q⟩; exact c74 (of_decide_eq_true q).2) (by omega) _ _ _ hP hD hS (lv_sub hl [0, 2, 3, 4, 5] rfl)
            · skip
              refine lv_iload hx hb dX4_fewestToBlame_77 (lv_at hl 1 rfl) ?_
              refine lv_istore_n (lv' := [(3, .int (nI k)), (5, .int (nI b)), (4, .int (nI k)), (0, .ref w), (1, .int (nI rb)), (2, .int (nI (sinS gro rb 10)))]) hx hb dX4_fewestToBlame_79 rfl hl (by decide) rfl (fun ls hl => ?_)
              skip
              refine lv_iinc (v := nI (k + 1)) (lv' := [(4, .int (nI (k + 1))), (3, .int (nI k)), (5, .int (nI b)), (0, .ref w), (1, .int (nI rb)), (2, .int (nI (sinS gro rb 10)))]) hx hb dX4_fewestToBlame_80 hl (k := 2) rfl (by exact nI_add _ 1) (by decide) rfl (fun ls hl => ?_)
              refine lv_goto (tgt := 12) hx hb dX4_fewestToBlame_83 (by decide) ?_
              exact L12ih  (k + 1) (some k) (by first | assumption | omega | rfl) (by rw [blS, if_pos ⟨by rw [← hf]; exact hbt, decide_eq_true ⟨c56, c74⟩⟩]) (by omega) _ _ _ hP hD hS (lv_sub hl [0, 1, 3, 4, 5] rfl)
      refine lv_iload hx hb dX4_fewestToBlame_12 (lv_at hl 0 rfl) ?_
      refine lv_sipush (v := nI 1023) hx hb dX4_fewestToBlame_14 (by decide) ?_
      refine mv_icmp_gt (tgt := 86) hx hb (by first | omega | exact Nat.lt_of_le_of_lt Nat.and_le_left (by omega)) (by omega) dX4_fewestToBlame_17 (by decide) (fun c17 => ?_) (fun c17 => ?_)
      · skip
        refine lv_iload_n hx hb dX4_fewestToBlame_86 rfl (lv_at hl 1 rfl) ?_
        exact mv_iret hx hb hr hlocks () (by rw [hf, show k = 1024 by omega]) hP hK hD hS dX4_fewestToBlame_87
      · skip
        refine lv_iload_n hx hb dX4_fewestToBlame_20 rfl (lv_at hl 1 rfl) ?_
        refine lv_bipush (v := -6) hx hb dX4_fewestToBlame_21 (by decide) ?_
        refine lv_icmp_eq (tgt := 38) hx hb dX4_fewestToBlame_23 (by decide) (fun c23 => ?_) (fun c23 => ?_)
        · skip
          refine lv_iconst (v := nI 1) hx hb dX4_fewestToBlame_38 (by decide) ?_
          refine lv_goto (tgt := 43) hx hb dX4_fewestToBlame_39 (by decide) ?_
          exact L43  1 (Or.inl ⟨rfl, by rw [(oI_nn hfb (by decide)).mp c23]; rfl⟩) (by first | assumption | omega | rfl) _ _ _ hP hD hS (lv_sub hl [0, 1, 2, 3, 4] rfl)
        · skip
          obtain ⟨f2, rfl⟩ : ∃ z, ff = some z := by cases ff with | none => exact absurd rfl c23 | some z => exact ⟨z, rfl⟩
          have hf2 := hfb f2 rfl
          have hpk := popc_le k
          have hpf := popc_le f2
          change lv_has ls 6 [(4, .int (nI k)), (3, .int (nI f2)), (0, .ref w), (1, .int (nI rb)), (2, .int (nI (sinS gro rb 10)))] at hl
          refine lv_iload hx hb dX4_fewestToBlame_26 (lv_at hl 0 rfl) ?_
          refine mv_callSi (nA := 1) (As := [.int (nI k)]) (rest := []) (Wc := []) (wr := [(w, .inr (6, [.ref h, .ref ca, .int (nI prs), .int (nI yrs), .ref ro, .ref sh, .ref un, .ref so, .ref si, .int (nI bs), .int (nI sc)])), (h, .inl (Y 0, 6, .inl (aN gh))), (ro, .inl (Y 0, 10, .inl (aN gro))), (sh, .inl (Y 0, 10, .inl (aN gsh)))]) hx hb hml hown hts hK hP hD hS hST hA hl.1 (c_J6_bitCount_0f7a4 l D Y _ k (by first | assumption | omega | rfl)) [] [0, 1, 2, 3] rfl rfl (by decide) (by decide) (by decide) rfl mw_421 mw_422 mw_423 mw_424 ⟨by decide, by decide, by decide +kernel⟩ rfl ⟨Nat.le_of_ble_eq_true rfl, Nat.le_of_ble_eq_true rfl⟩ rfl (Nat.le_of_ble_eq_true rfl) dX4_fewestToBlame_28 ⟨Nat.le_of_ble_eq_true rfl, Nat.le_of_ble_eq_true rfl⟩ (fun r_2 ux H locs hr28 hP hD hS hz28 => ?_)
          have hP := hP.sub (ws' := [(w, .inr (6, [.ref h, .ref ca, .int (nI prs), .int (nI yrs), .ref ro, .ref sh, .ref un, .ref so, .ref si, .int (nI bs), .int (nI sc)])), (h, .inl (Y 0, 6, .inl (aN gh))), (ro, .inl (Y 0, 10, .inl (aN gro))), (sh, .inl (Y 0, 10, .inl (aN gsh)))]) [0, 1, 2, 3] rfl
          have hD := hD.sub (ws' := [(w, .inr (6, [.ref h, .ref ca, .int (nI prs), .int (nI yrs), .ref ro, .ref sh, .ref un, .ref so, .ref si, .int (nI bs), .int (nI sc)])), (h, .inl (Y 0, 6, .inl (aN gh))), (ro, .inl (Y 0, 10, .inl (aN gro))), (sh, .inl (Y 0, 10, .inl (aN gsh)))]) [0, 1, 2, 3] (by decide) rfl
          have hr28 : r_2 = nI (popc k) := hr28
          subst hr28
          refine lv_iload_n hx hb dX4_fewestToBlame_31 rfl (lv_at hl 1 rfl) ?_
          refine mv_callSi (nA := 1) (As := [.int (nI f2)]) (rest := [.int (nI (popc k))]) (Wc := []) (wr := [(w, .inr (6, [.ref h, .ref ca, .int (nI prs), .int (nI yrs), .ref ro, .ref sh, .ref un, .ref so, .ref si, .int (nI bs), .int (nI sc)])), (h, .inl (Y 0, 6, .inl (aN gh))), (ro, .inl (Y 0, 10, .inl (aN gro))), (sh, .inl (Y 0, 10, .inl (aN gsh)))]) hx hb hml hown hts hK hP hD hS hST hA hl.1 (c_J6_bitCount_0f7a4 l D Y _ f2 (by first | assumption | omega | rfl)) [] [0, 1, 2, 3] rfl rfl (by decide) (by decide) (by decide) rfl mw_421 mw_422 mw_423 mw_424 ⟨by decide, by decide, by decide +kernel⟩ rfl ⟨Nat.le_of_ble_eq_true rfl, Nat.le_of_ble_eq_true rfl⟩ rfl (Nat.le_of_ble_eq_true rfl) dX4_fewestToBlame_32 ⟨Nat.le_of_ble_eq_true rfl, Nat.le_of_ble_eq_true rfl⟩ (fun r_3 ux H locs hr32 hP hD hS hz32 => ?_)
          have hP := hP.sub (ws' := [(w, .inr (6, [.ref h, .ref ca, .int (nI prs), .int (nI yrs), .ref ro, .ref sh, .ref un, .ref so, .ref si, .int (nI bs), .int (nI sc)])), (h, .inl (Y 0, 6, .inl (aN gh))), (ro, .inl (Y 0, 10, .inl (aN gro))), (sh, .inl (Y 0, 10, .inl (aN gsh)))]) [0, 1, 2, 3] rfl
          have hD := hD.sub (ws' := [(w, .inr (6, [.ref h, .ref ca, .int (nI prs), .int (nI yrs), .ref ro, .ref sh, .ref un, .ref so, .ref si, .int (nI bs), .int (nI sc)])), (h, .inl (Y 0, 6, .inl (aN gh))), (ro, .inl (Y 0, 10, .inl (aN gro))), (sh, .inl (Y 0, 10, .inl (aN gsh)))]) [0, 1, 2, 3] (by decide) rfl
          have hr32 : r_3 = nI (popc f2) := hr32
          subst hr32
          refine mv_icmp_ge (tgt := 42) hx hb (by first | omega | exact Nat.lt_of_le_of_lt Nat.and_le_left (by omega)) (by omega) dX4_fewestToBlame_35 (by decide) (fun c35 => ?_) (fun c35 => ?_)
          · skip
            refine lv_iconst (v := nI 0) hx hb dX4_fewestToBlame_42 (by decide) ?_
            exact L43  0 (Or.inr ⟨rfl, decide_eq_false (by omega)⟩) (by first | assumption | omega | rfl) _ _ _ hP hD hS (lv_sub hl [0, 1, 2, 3, 4] rfl)
          · skip
            refine lv_iconst (v := nI 1) hx hb dX4_fewestToBlame_38 (by decide) ?_
            refine lv_goto (tgt := 43) hx hb dX4_fewestToBlame_39 (by decide) ?_
            exact L43  1 (Or.inl ⟨rfl, decide_eq_true c35⟩) (by first | assumption | omega | rfl) _ _ _ hP hD hS (lv_sub hl [0, 1, 2, 3, 4] rfl)
  refine lv_aload_n hx hb dX4_fewestToBlame_0 rfl (lv_at hl 0 rfl) ?_
  refine lv_iload_n hx hb dX4_fewestToBlame_1 rfl (lv_at hl 1 rfl) ?_
  refine mv_callVi (nA := 1) (As := [.int (nI rb)]) (rest := []) (Wc := [(w, .inr (6, [.ref h, .ref ca, .int (nI prs), .int (nI yrs), .ref ro, .ref sh, .ref un, .ref so, .ref si, .int (nI bs), .int (nI sc)])), (ro, .inl (Y 0, 10, .inl (aN gro)))]) (wr := [(h, .inl (Y 0, 6, .inl (aN gh))), (sh, .inl (Y 0, 10, .inl (aN gsh)))]) hx hb hml hown hts hK hP hD hS hST hA hl.1 (c_X6_sayingsIn l D Y _ w h ca ro sh un so si prs yrs bs sc gro rb (by first | assumption | omega | rfl) (by first | assumption | omega | rfl)) [0, 2] [1, 3] rfl rfl (by decide) (by decide) (by decide) rfl 0 rfl rfl rfl mw_417 mw_418 mw_419 mw_14 mw_420 ⟨by decide, by decide, by decide +kernel⟩ rfl ⟨Nat.le_of_ble_eq_true rfl, Nat.le_of_ble_eq_true rfl⟩ rfl (Nat.le_of_ble_eq_true rfl) dX4_fewestToBlame_2 ⟨Nat.le_of_ble_eq_true rfl, Nat.le_of_ble_eq_true rfl⟩ (fun r_4 ux H locs hr2 hP hD hS hz2 => ?_)
  have hP := hP.sub (ws' := [(w, .inr (6, [.ref h, .ref ca, .int (nI prs), .int (nI yrs), .ref ro, .ref sh, .ref un, .ref so, .ref si, .int (nI bs), .int (nI sc)])), (h, .inl (Y 0, 6, .inl (aN gh))), (ro, .inl (Y 0, 10, .inl (aN gro))), (sh, .inl (Y 0, 10, .inl (aN gsh)))]) [2, 0, 3, 1] rfl
  have hD := hD.sub (ws' := [(w, .inr (6, [.ref h, .ref ca, .int (nI prs), .int (nI yrs), .ref ro, .ref sh, .ref un, .ref so, .ref si, .int (nI bs), .int (nI sc)])), (h, .inl (Y 0, 6, .inl (aN gh))), (ro, .inl (Y 0, 10, .inl (aN gro))), (sh, .inl (Y 0, 10, .inl (aN gsh)))]) [2, 0, 3, 1] (by decide) rfl
  have hr2 : r_4 = nI (sinS gro rb 10) := hr2
  subst hr2
  refine lv_istore_n (lv' := [(2, .int (nI (sinS gro rb 10))), (0, .ref w), (1, .int (nI rb))]) hx hb dX4_fewestToBlame_5 rfl hl (by decide) rfl (fun ls hl => ?_)
  refine lv_bipush (v := -6) hx hb dX4_fewestToBlame_6 (by decide) ?_
  refine lv_istore_n (lv' := [(3, .int (-6)), (2, .int (nI (sinS gro rb 10))), (0, .ref w), (1, .int (nI rb))]) hx hb dX4_fewestToBlame_8 rfl hl (by decide) rfl (fun ls hl => ?_)
  refine lv_iconst (v := nI 0) hx hb dX4_fewestToBlame_9 (by decide) ?_
  refine lv_istore (lv' := [(4, .int (nI 0)), (3, .int (-6)), (2, .int (nI (sinS gro rb 10))), (0, .ref w), (1, .int (nI rb))]) hx hb dX4_fewestToBlame_10 hl (by decide) rfl (fun ls hl => ?_)
  exact L12 (1024 - 0 + 1) 0 none (by first | assumption | omega | rfl) (rfl) (Nat.lt_succ_self _) _ _ _ hP hD hS (lv_sub hl [0, 1, 3, 4, 2] rfl)
abbrev q_X4_weigh (D : va_G) (Y : Nat → ClassId) (u : Nat) (uw : Nat) (n : Nat) (z1 : Nat) (z2 : Nat) (cw : Nat → Nat) (w : Nat) (h : Nat) (ca : Nat) (ro : Nat) (sh : Nat) (un : Nat) (so : Nat) (si : Nat) (prs : Nat) (yrs : Nat) (bs : Nat) (sc : Nat) (gsi : Nat → Nat) (mm : Nat) : (Nat → Prop) → Array Value → State → Outcome → State → Prop := mv_Qv D Y (fun (ux : (Nat → Nat)) => ∀ j, j < 10 → ux j = cvS (ftS mm gsi bs sc) j 1024) (fun ux : (Nat → Nat) => ([(u, .inr (4, [.ref uw, .int (nI (nuS (ftS mm gsi bs sc) 1024)), .int (nI (smS (ftS mm gsi bs sc) 1024)), .int (nI (if nuS (ftS mm gsi bs sc) 1024 = 0 then 0 else alS (ftS mm gsi bs sc) 1024))])), (uw, .inl (Y 0, 10, .inl (aN ux))), (w, .inr (6, [.ref h, .ref ca, .int (nI prs), .int (nI yrs), .ref ro, .ref sh, .ref un, .ref so, .ref si, .int (nI bs), .int (nI sc)])), (si, .inl (Y 0, 8, .inl (aN gsi)))] : va_W))
set_option maxHeartbeats 4000000 in
set_option maxRecDepth 100000 in
theorem c_X4_weigh (l : Launch) (D : va_G) (Y : Nat → ClassId) (sz : Nat) (u : Nat) (uw : Nat) (n : Nat) (z1 : Nat) (z2 : Nat) (cw : Nat → Nat) (w : Nat) (h : Nat) (ca : Nat) (ro : Nat) (sh : Nat) (un : Nat) (so : Nat) (si : Nat) (prs : Nat) (yrs : Nat) (bs : Nat) (sc : Nat) (gsi : Nat → Nat) (mm : Nat) (hmm : mm ≤ 3) (hsc : sc ≤ 8) (hbs : bs < 2 ^ 31) (hu : ∀ k, k < 8 → gsi k < 1024) : mv_C l D Y yX4_weigh cX4_weigh 4 none 1 0 0 [.ref u, .ref w, .int (nI mm)] sz [(u, .inr (4, [.ref uw, .int (nI n), .int (nI z1), .int (nI z2)])), (uw, .inl (Y 0, 10, .inl (aN cw))), (w, .inr (6, [.ref h, .ref ca, .int (nI prs), .int (nI yrs), .ref ro, .ref sh, .ref un, .ref so, .ref si, .int (nI bs), .int (nI sc)])), (si, .inl (Y 0, 8, .inl (aN gsi)))] (q_X4_weigh D Y u uw n z1 z2 cw w h ca ro sh un so si prs yrs bs sc gsi mm) := by
  refine mv_ofW (by decide) (Nat.le_of_ble_eq_true rfl) ?_
  intro p e s m below meth c ls A hx hb hr hlocks hml hnm hown hts hsz hAe hP hK hD hS hST hA hl
  have hl : lv_has ls 4 [(0, .ref u), (1, .ref w), (2, .int (nI mm))] := hl
  have L40 : ∀ (fu : Nat) (k : Nat) (x1 : Nat) (x2 : Nat) (x3 : Nat) (gz : Nat → Nat) (hk : k ≤ 1024) (h1 : x1 = nuS (ftS mm gsi bs sc) k) (h2 : x2 = smS (ftS mm gsi bs sc) k) (h3 : x3 = alS (ftS mm gsi bs sc) k) (hg : ∀ j, j < 10 → gz j = cvS (ftS mm gsi bs sc) j k) (hmeas : 1024 - k < fu) (H : Heap) (locs : List Loc) (ls : Array Slot), va_P D vwCl [(u, .inr (4, [.ref uw, .int (nI x1), .int (nI x2), .int (nI x3)])), (uw, .inl (Y 0, 10, .inl (aN gz))), (w, .inr (6, [.ref h, .ref ca, .int (nI prs), .int (nI yrs), .ref ro, .ref sh, .ref un, .ref so, .ref si, .int (nI bs), .int (nI sc)])), (si, .inl (Y 0, 8, .inl (aN gsi)))] H → va_D A [(u, .inr (4, [.ref uw, .int (nI x1), .int (nI x2), .int (nI x3)])), (uw, .inl (Y 0, 10, .inl (aN gz))), (w, .inr (6, [.ref h, .ref ca, .int (nI prs), .int (nI yrs), .ref ro, .ref sh, .ref un, .ref so, .ref si, .int (nI bs), .int (nI sc)])), (si, .inl (Y 0, 8, .inl (aN gsi)))] → va_S A s.heap H locs → lv_has ls 4 [(3, .int (nI k)), (0, .ref u), (1, .ref w), (2, .int (nI mm))] → W p l e (mv_R 1 0 0) s m [.ref u, .ref w, .int (nI mm)].toArray below meth c H locs 0 0 (MQ below ((q_X4_weigh D Y u uw n z1 z2 cw w h ca ro sh un so si prs yrs bs sc gsi mm) A) [.ref u, .ref w, .int (nI mm)].toArray s 0 0 A) (F0 m 40 ls []) := by
    intro fu
    induction fu with
    | zero =>
      intro k x1 x2 x3 gz hk h1 h2 h3 hg hmeas
      exact absurd hmeas (Nat.not_lt_zero _)
    | succ fu L40ih =>
      intro k x1 x2 x3 gz hk h1 h2 h3 hg hmeas H locs ls hP hD hS hl
      refine lv_iload_n hx hb dX4_weigh_40 rfl (lv_at hl 0 rfl) ?_
      refine lv_sipush (v := nI 1023) hx hb dX4_weigh_41 (by decide) ?_
      refine mv_icmp_gt (tgt := 74) hx hb (by first | omega | exact Nat.lt_trans (bN_lt _) (by decide)) (by omega) dX4_weigh_44 (by decide) (fun c44 => ?_) (fun c44 => ?_)
      · skip
        obtain rfl : k = 1024 := by omega
        have hn9 := nuS_le (ftS mm gsi bs sc) 1024
        refine lv_aload_n hx hb dX4_weigh_74 rfl (lv_at hl 1 rfl) ?_
        refine va_get (D := D) (ci := 4) (v := .int (nI x1)) (C := RX4) (T := TX4) (N := 4) hx hb hts inlX4 hown hK hP 0 rfl rfl 1 (by decide) (hts _ mw_517) (fun _ h9 => h9) rfl dX4_weigh_75 ?_
        refine mv_if_ne (tgt := 86) hx hb (by first | omega | exact Nat.lt_trans (bN_lt _) (by decide)) dX4_weigh_78 (by decide) (fun c78 => ?_) (fun c78 => ?_)
        · skip
          exact mv_vret hx hb hr hlocks (gz) (hg) (by rw [if_neg (by omega), ← h1, ← h2, ← h3]; exact hP) hK (by rw [if_neg (by omega), ← h1, ← h2, ← h3]; exact hD) hS dX4_weigh_86
        · skip
          refine lv_aload_n hx hb dX4_weigh_81 rfl (lv_at hl 1 rfl) ?_
          refine lv_iconst (v := nI 0) hx hb dX4_weigh_82 (by decide) ?_
          refine va_put (D := D) (ci := 4) (v := .int (nI 0)) (ty := .int) (C := RX4) (T := TX4) (N := 4) hx hb hts inlX4 tyX4 tyX4_ok nmX4 hown hK hP hD hS 0 rfl rfl 3 (by decide) (hts _ mw_519) (fun _ h9 => h9) rfl (by decide +kernel) rfl rfl (Nat.le_of_ble_eq_true rfl) dX4_weigh_83 (fun H locs hP hD hS => ?_)
          have hP : va_P D vwCl [(u, .inr (4, [.ref uw, .int (nI x1), .int (nI x2), .int (nI 0)])), (uw, .inl (Y 0, 10, .inl (aN gz))), (w, .inr (6, [.ref h, .ref ca, .int (nI prs), .int (nI yrs), .ref ro, .ref sh, .ref un, .ref so, .ref si, .int (nI bs), .int (nI sc)])), (si, .inl (Y 0, 8, .inl (aN gsi)))] H := hP
          have hD : va_D A [(u, .inr (4, [.ref uw, .int (nI x1), .int (nI x2), .int (nI 0)])), (uw, .inl (Y 0, 10, .inl (aN gz))), (w, .inr (6, [.ref h, .ref ca, .int (nI prs), .int (nI yrs), .ref ro, .ref sh, .ref un, .ref so, .ref si, .int (nI bs), .int (nI sc)])), (si, .inl (Y 0, 8, .inl (aN gsi)))] := hD
          exact mv_vret hx hb hr hlocks (gz) (hg) (by rw [if_pos (by omega), ← h1, ← h2]; exact hP) hK (by rw [if_pos (by omega), ← h1, ← h2]; exact hD) hS dX4_weigh_86
      · skip
        have hpk := popc_le k
        refine lv_iload_n hx hb dX4_weigh_47 rfl (lv_at hl 0 rfl) ?_
        refine mv_callSi (nA := 1) (As := [.int (nI k)]) (rest := []) (Wc := []) (wr := [(u, .inr (4, [.ref uw, .int (nI x1), .int (nI x2), .int (nI x3)])), (uw, .inl (Y 0, 10, .inl (aN gz))), (w, .inr (6, [.ref h, .ref ca, .int (nI prs), .int (nI yrs), .ref ro, .ref sh, .ref un, .ref so, .ref si, .int (nI bs), .int (nI sc)])), (si, .inl (Y 0, 8, .inl (aN gsi)))]) hx hb hml hown hts hK hP hD hS hST hA hl.1 (c_J6_bitCount_0f7a4 l D Y _ k (by first | assumption | omega | rfl)) [] [0, 1, 2, 3] rfl rfl (by decide) (by decide) (by decide) rfl mw_421 mw_422 mw_423 mw_424 ⟨by decide, by decide, by decide +kernel⟩ rfl ⟨Nat.le_of_ble_eq_true rfl, Nat.le_of_ble_eq_true rfl⟩ rfl (Nat.le_of_ble_eq_true rfl) dX4_weigh_48 ⟨Nat.le_of_ble_eq_true rfl, Nat.le_of_ble_eq_true rfl⟩ (fun r_1 ux H locs hr48 hP hD hS hz48 => ?_)
        have hP := hP.sub (ws' := [(u, .inr (4, [.ref uw, .int (nI x1), .int (nI x2), .int (nI x3)])), (uw, .inl (Y 0, 10, .inl (aN gz))), (w, .inr (6, [.ref h, .ref ca, .int (nI prs), .int (nI yrs), .ref ro, .ref sh, .ref un, .ref so, .ref si, .int (nI bs), .int (nI sc)])), (si, .inl (Y 0, 8, .inl (aN gsi)))]) [0, 1, 2, 3] rfl
        have hD := hD.sub (ws' := [(u, .inr (4, [.ref uw, .int (nI x1), .int (nI x2), .int (nI x3)])), (uw, .inl (Y 0, 10, .inl (aN gz))), (w, .inr (6, [.ref h, .ref ca, .int (nI prs), .int (nI yrs), .ref ro, .ref sh, .ref un, .ref so, .ref si, .int (nI bs), .int (nI sc)])), (si, .inl (Y 0, 8, .inl (aN gsi)))]) [0, 1, 2, 3] (by decide) rfl
        have hr48 : r_1 = nI (popc k) := hr48
        subst hr48
        refine lv_iload_n hx hb dX4_weigh_51 rfl (lv_at hl 3 rfl) ?_
        refine mv_icmp_gt (tgt := 68) hx hb (by first | omega | exact Nat.lt_trans (bN_lt _) (by decide)) (by omega) dX4_weigh_52 (by decide) (fun c52 => ?_) (fun c52 => ?_)
        · skip
          have hft : ¬ (ftS mm gsi bs sc) k = true := by unfold ftS; rw [decide_eq_false (by omega), Bool.false_and]; decide
          refine lv_iinc (v := nI (k + 1)) (lv' := [(3, .int (nI (k + 1))), (0, .ref u), (1, .ref w), (2, .int (nI mm))]) hx hb dX4_weigh_68 hl (k := 0) rfl (by exact nI_add _ 1) (by decide) rfl (fun ls hl => ?_)
          refine lv_goto (tgt := 40) hx hb dX4_weigh_71 (by decide) ?_
          exact L40ih  (k + 1) x1 x2 x3 gz (by first | assumption | omega | rfl) (by rw [h1, nuS, if_neg hft]) (by rw [h2, smS, if_neg hft]) (by rw [h3, alS, if_neg hft]) (fun j hj => by rw [cvS, if_neg hft]; exact hg j hj) (by omega) _ _ _ hP hD hS (lv_sub hl [0, 1, 2, 3] rfl)
        · skip
          refine lv_aload_n hx hb dX4_weigh_55 rfl (lv_at hl 2 rfl) ?_
          refine lv_iload_n hx hb dX4_weigh_56 rfl (lv_at hl 0 rfl) ?_
          refine mv_callVi (nA := 1) (As := [.int (nI k)]) (rest := []) (Wc := [(w, .inr (6, [.ref h, .ref ca, .int (nI prs), .int (nI yrs), .ref ro, .ref sh, .ref un, .ref so, .ref si, .int (nI bs), .int (nI sc)])), (si, .inl (Y 0, 8, .inl (aN gsi)))]) (wr := [(u, .inr (4, [.ref uw, .int (nI x1), .int (nI x2), .int (nI x3)])), (uw, .inl (Y 0, 10, .inl (aN gz)))]) hx hb hml hown hts hK hP hD hS hST hA hl.1 (c_X6_fitsSights l D Y _ w h ca ro sh un so si prs yrs bs sc gsi k (by first | assumption | omega | rfl) (by first | assumption | omega | rfl) (by first | assumption | omega | rfl)) [2, 3] [0, 1] rfl rfl (by decide) (by decide) (by decide) rfl 2 rfl rfl rfl mw_520 mw_521 mw_522 mw_14 mw_523 ⟨by decide, by decide, by decide +kernel⟩ rfl ⟨Nat.le_of_ble_eq_true rfl, Nat.le_of_ble_eq_true rfl⟩ rfl (Nat.le_of_ble_eq_true rfl) dX4_weigh_57 ⟨Nat.le_of_ble_eq_true rfl, Nat.le_of_ble_eq_true rfl⟩ (fun r_2 ux H locs hr57 hP hD hS hz57 => ?_)
          have hP := hP.sub (ws' := [(u, .inr (4, [.ref uw, .int (nI x1), .int (nI x2), .int (nI x3)])), (uw, .inl (Y 0, 10, .inl (aN gz))), (w, .inr (6, [.ref h, .ref ca, .int (nI prs), .int (nI yrs), .ref ro, .ref sh, .ref un, .ref so, .ref si, .int (nI bs), .int (nI sc)])), (si, .inl (Y 0, 8, .inl (aN gsi)))]) [0, 1, 2, 3] rfl
          have hD := hD.sub (ws' := [(u, .inr (4, [.ref uw, .int (nI x1), .int (nI x2), .int (nI x3)])), (uw, .inl (Y 0, 10, .inl (aN gz))), (w, .inr (6, [.ref h, .ref ca, .int (nI prs), .int (nI yrs), .ref ro, .ref sh, .ref un, .ref so, .ref si, .int (nI bs), .int (nI sc)])), (si, .inl (Y 0, 8, .inl (aN gsi)))]) [0, 1, 2, 3] (by decide) rfl
          have hr57 : r_2 = nI (bN (fitS gsi bs k sc)) := hr57
          subst hr57
          refine mv_if_eq (tgt := 68) hx hb (by first | omega | exact Nat.lt_trans (bN_lt _) (by decide)) dX4_weigh_60 (by decide) (fun c60 => ?_) (fun c60 => ?_)
          · skip
            have hft : ¬ (ftS mm gsi bs sc) k = true := by unfold ftS; rw [bN_0.mp c60, Bool.and_false]; decide
            refine lv_iinc (v := nI (k + 1)) (lv' := [(3, .int (nI (k + 1))), (0, .ref u), (1, .ref w), (2, .int (nI mm))]) hx hb dX4_weigh_68 hl (k := 0) rfl (by exact nI_add _ 1) (by decide) rfl (fun ls hl => ?_)
            refine lv_goto (tgt := 40) hx hb dX4_weigh_71 (by decide) ?_
            exact L40ih  (k + 1) x1 x2 x3 gz (by first | assumption | omega | rfl) (by rw [h1, nuS, if_neg hft]) (by rw [h2, smS, if_neg hft]) (by rw [h3, alS, if_neg hft]) (fun j hj => by rw [cvS, if_neg hft]; exact hg j hj) (by omega) _ _ _ hP hD hS (lv_sub hl [0, 1, 2, 3] rfl)
          · skip
            refine lv_aload_n hx hb dX4_weigh_63 rfl (lv_at hl 1 rfl) ?_
            refine lv_iload_n hx hb dX4_weigh_64 rfl (lv_at hl 0 rfl) ?_
            refine mv_callVv (nA := 1) (As := [.int (nI k)]) (rest := []) (Wc := [(u, .inr (4, [.ref uw, .int (nI x1), .int (nI x2), .int (nI x3)])), (uw, .inl (Y 0, 10, .inl (aN gz)))]) (wr := [(w, .inr (6, [.ref h, .ref ca, .int (nI prs), .int (nI yrs), .ref ro, .ref sh, .ref un, .ref so, .ref si, .int (nI bs), .int (nI sc)])), (si, .inl (Y 0, 8, .inl (aN gsi)))]) hx hb hml hown hts hK hP hD hS hST hA hl.1 (c_X4_count l D Y _ u uw x1 x2 x3 gz k (by first | assumption | omega | rfl)) [0, 1] [2, 3] rfl rfl (by decide) (by decide) (by decide) rfl 0 rfl rfl rfl mw_524 mw_525 mw_526 mw_27 mw_527 ⟨by decide, by decide, by decide +kernel⟩ rfl ⟨Nat.le_of_ble_eq_true rfl, Nat.le_of_ble_eq_true rfl⟩ rfl (Nat.le_of_ble_eq_true rfl) dX4_weigh_65 ⟨Nat.le_of_ble_eq_true rfl, Nat.le_of_ble_eq_true rfl⟩ (fun ux H locs hr65 hP hD hS hz65 => ?_)
            have hP := hP.sub (ws' := [(u, .inr (4, [.ref uw, .int (nI (x1 + 1)), .int (nI (x2 ||| k)), .int (nI (x3 &&& k))])), (uw, .inl (Y 0, 10, .inl (aN (cntW gz k 10)))), (w, .inr (6, [.ref h, .ref ca, .int (nI prs), .int (nI yrs), .ref ro, .ref sh, .ref un, .ref so, .ref si, .int (nI bs), .int (nI sc)])), (si, .inl (Y 0, 8, .inl (aN gsi)))]) [2, 3, 0, 1] rfl
            have hD := hD.sub (ws' := [(u, .inr (4, [.ref uw, .int (nI (x1 + 1)), .int (nI (x2 ||| k)), .int (nI (x3 &&& k))])), (uw, .inl (Y 0, 10, .inl (aN (cntW gz k 10)))), (w, .inr (6, [.ref h, .ref ca, .int (nI prs), .int (nI yrs), .ref ro, .ref sh, .ref un, .ref so, .ref si, .int (nI bs), .int (nI sc)])), (si, .inl (Y 0, 8, .inl (aN gsi)))]) [2, 3, 0, 1] (by decide) rfl
            have hft : (ftS mm gsi bs sc) k = true := by unfold ftS; rw [bN_1.mp c60, decide_eq_true (by omega)]; rfl
            refine lv_iinc (v := nI (k + 1)) (lv' := [(3, .int (nI (k + 1))), (0, .ref u), (1, .ref w), (2, .int (nI mm))]) hx hb dX4_weigh_68 hl (k := 0) rfl (by exact nI_add _ 1) (by decide) rfl (fun ls hl => ?_)
            refine lv_goto (tgt := 40) hx hb dX4_weigh_71 (by decide) ?_
            exact L40ih  (k + 1) (x1 + 1) (x2 ||| k) (x3 &&& k) (cntW gz k 10) (by first | assumption | omega | rfl) (by rw [h1, nuS, if_pos hft]) (by rw [h2, smS, if_pos hft]) (by rw [h3, alS, if_pos hft]) (fun j hj => by rw [cntW_lo _ _ 10 j hj, cvS, if_pos hft, hg j hj]) (by omega) _ _ _ hP hD hS (lv_sub hl [0, 1, 2, 3] rfl)
  have L19 : ∀ (fu : Nat) (k : Nat) (gz : Nat → Nat) (hk : k ≤ 10) (hg : ∀ j, j < k → gz j = 0) (hmeas : 10 - k < fu) (H : Heap) (locs : List Loc) (ls : Array Slot), va_P D vwCl [(u, .inr (4, [.ref uw, .int (nI 0), .int (nI 0), .int (nI 1023)])), (uw, .inl (Y 0, 10, .inl (aN gz))), (w, .inr (6, [.ref h, .ref ca, .int (nI prs), .int (nI yrs), .ref ro, .ref sh, .ref un, .ref so, .ref si, .int (nI bs), .int (nI sc)])), (si, .inl (Y 0, 8, .inl (aN gsi)))] H → va_D A [(u, .inr (4, [.ref uw, .int (nI 0), .int (nI 0), .int (nI 1023)])), (uw, .inl (Y 0, 10, .inl (aN gz))), (w, .inr (6, [.ref h, .ref ca, .int (nI prs), .int (nI yrs), .ref ro, .ref sh, .ref un, .ref so, .ref si, .int (nI bs), .int (nI sc)])), (si, .inl (Y 0, 8, .inl (aN gsi)))] → va_S A s.heap H locs → lv_has ls 4 [(3, .int (nI k)), (0, .ref u), (1, .ref w), (2, .int (nI mm))] → W p l e (mv_R 1 0 0) s m [.ref u, .ref w, .int (nI mm)].toArray below meth c H locs 0 0 (MQ below ((q_X4_weigh D Y u uw n z1 z2 cw w h ca ro sh un so si prs yrs bs sc gsi mm) A) [.ref u, .ref w, .int (nI mm)].toArray s 0 0 A) (F0 m 19 ls []) := by
    intro fu
    induction fu with
    | zero =>
      intro k gz hk hg hmeas
      exact absurd hmeas (Nat.not_lt_zero _)
    | succ fu L19ih =>
      intro k gz hk hg hmeas H locs ls hP hD hS hl
      refine lv_iload_n hx hb dX4_weigh_19 rfl (lv_at hl 0 rfl) ?_
      refine lv_bipush (v := nI 10) hx hb dX4_weigh_20 (by decide) ?_
      refine mv_icmp_ge (tgt := 38) hx hb (by first | omega | exact Nat.lt_trans (bN_lt _) (by decide)) (by omega) dX4_weigh_22 (by decide) (fun c22 => ?_) (fun c22 => ?_)
      · skip
        refine lv_iconst (v := nI 0) hx hb dX4_weigh_38 (by decide) ?_
        refine lv_istore_n (lv' := [(3, .int (nI 0)), (0, .ref u), (1, .ref w), (2, .int (nI mm))]) hx hb dX4_weigh_39 rfl hl (by decide) rfl (fun ls hl => ?_)
        exact L40 (1024 - 0 + 1) 0 0 0 1023 gz (by first | assumption | omega | rfl) (rfl) (rfl) (rfl) (fun j hj => hg j (by omega)) (Nat.lt_succ_self _) _ _ _ hP hD hS (lv_sub hl [0, 1, 2, 3] rfl)
      · skip
        refine lv_aload_n hx hb dX4_weigh_25 rfl (lv_at hl 1 rfl) ?_
        refine va_get (D := D) (ci := 4) (v := .ref uw) (C := RX4) (T := TX4) (N := 4) hx hb hts inlX4 hown hK hP 0 rfl rfl 0 (by decide) (hts _ mw_64) (fun _ h9 => h9) rfl dX4_weigh_26 ?_
        refine lv_iload_n hx hb dX4_weigh_29 rfl (lv_at hl 0 rfl) ?_
        refine lv_iconst (v := nI 0) hx hb dX4_weigh_30 (by decide) ?_
        refine mv_iast hx hb hK hP hD hS 1 rfl (i := k) (v := 0) (by omega) (by decide) dX4_weigh_31 (fun H locs hP hD hS => ?_)
        have hP : va_P D vwCl [(u, .inr (4, [.ref uw, .int (nI 0), .int (nI 0), .int (nI 1023)])), (uw, .inl (Y 0, 10, .inl (aN (uN gz k 0)))), (w, .inr (6, [.ref h, .ref ca, .int (nI prs), .int (nI yrs), .ref ro, .ref sh, .ref un, .ref so, .ref si, .int (nI bs), .int (nI sc)])), (si, .inl (Y 0, 8, .inl (aN gsi)))] H := hP
        have hD : va_D A [(u, .inr (4, [.ref uw, .int (nI 0), .int (nI 0), .int (nI 1023)])), (uw, .inl (Y 0, 10, .inl (aN (uN gz k 0)))), (w, .inr (6, [.ref h, .ref ca, .int (nI prs), .int (nI yrs), .ref ro, .ref sh, .ref un, .ref so, .ref si, .int (nI bs), .int (nI sc)])), (si, .inl (Y 0, 8, .inl (aN gsi)))] := hD
        refine lv_iinc (v := nI (k + 1)) (lv' := [(3, .int (nI (k + 1))), (0, .ref u), (1, .ref w), (2, .int (nI mm))]) hx hb dX4_weigh_32 hl (k := 0) rfl (by exact nI_add _ 1) (by decide) rfl (fun ls hl => ?_)
        refine lv_goto (tgt := 19) hx hb dX4_weigh_35 (by decide) ?_
        exact L19ih  (k + 1) (uN gz k 0) (by first | assumption | omega | rfl) (fun j hj => by by_cases e9 : j = k; rw [e9, uN_s]; rw [uN_n _ _ e9]; exact hg j (by omega)) (by omega) _ _ _ hP hD hS (lv_sub hl [0, 1, 2, 3] rfl)
  refine lv_aload_n hx hb dX4_weigh_0 rfl (lv_at hl 0 rfl) ?_
  refine lv_iconst (v := nI 0) hx hb dX4_weigh_1 (by decide) ?_
  refine va_put (D := D) (ci := 4) (v := .int (nI 0)) (ty := .int) (C := RX4) (T := TX4) (N := 4) hx hb hts inlX4 tyX4 tyX4_ok nmX4 hown hK hP hD hS 0 rfl rfl 1 (by decide) (hts _ mw_517) (fun _ h9 => h9) rfl (by decide +kernel) rfl rfl (Nat.le_of_ble_eq_true rfl) dX4_weigh_2 (fun H locs hP hD hS => ?_)
  have hP : va_P D vwCl [(u, .inr (4, [.ref uw, .int (nI 0), .int (nI z1), .int (nI z2)])), (uw, .inl (Y 0, 10, .inl (aN cw))), (w, .inr (6, [.ref h, .ref ca, .int (nI prs), .int (nI yrs), .ref ro, .ref sh, .ref un, .ref so, .ref si, .int (nI bs), .int (nI sc)])), (si, .inl (Y 0, 8, .inl (aN gsi)))] H := hP
  have hD : va_D A [(u, .inr (4, [.ref uw, .int (nI 0), .int (nI z1), .int (nI z2)])), (uw, .inl (Y 0, 10, .inl (aN cw))), (w, .inr (6, [.ref h, .ref ca, .int (nI prs), .int (nI yrs), .ref ro, .ref sh, .ref un, .ref so, .ref si, .int (nI bs), .int (nI sc)])), (si, .inl (Y 0, 8, .inl (aN gsi)))] := hD
  refine lv_aload_n hx hb dX4_weigh_5 rfl (lv_at hl 0 rfl) ?_
  refine lv_iconst (v := nI 0) hx hb dX4_weigh_6 (by decide) ?_
  refine va_put (D := D) (ci := 4) (v := .int (nI 0)) (ty := .int) (C := RX4) (T := TX4) (N := 4) hx hb hts inlX4 tyX4 tyX4_ok nmX4 hown hK hP hD hS 0 rfl rfl 2 (by decide) (hts _ mw_518) (fun _ h9 => h9) rfl (by decide +kernel) rfl rfl (Nat.le_of_ble_eq_true rfl) dX4_weigh_7 (fun H locs hP hD hS => ?_)
  have hP : va_P D vwCl [(u, .inr (4, [.ref uw, .int (nI 0), .int (nI 0), .int (nI z2)])), (uw, .inl (Y 0, 10, .inl (aN cw))), (w, .inr (6, [.ref h, .ref ca, .int (nI prs), .int (nI yrs), .ref ro, .ref sh, .ref un, .ref so, .ref si, .int (nI bs), .int (nI sc)])), (si, .inl (Y 0, 8, .inl (aN gsi)))] H := hP
  have hD : va_D A [(u, .inr (4, [.ref uw, .int (nI 0), .int (nI 0), .int (nI z2)])), (uw, .inl (Y 0, 10, .inl (aN cw))), (w, .inr (6, [.ref h, .ref ca, .int (nI prs), .int (nI yrs), .ref ro, .ref sh, .ref un, .ref so, .ref si, .int (nI bs), .int (nI sc)])), (si, .inl (Y 0, 8, .inl (aN gsi)))] := hD
  refine lv_aload_n hx hb dX4_weigh_10 rfl (lv_at hl 0 rfl) ?_
  refine lv_sipush (v := nI 1023) hx hb dX4_weigh_11 (by decide) ?_
  refine va_put (D := D) (ci := 4) (v := .int (nI 1023)) (ty := .int) (C := RX4) (T := TX4) (N := 4) hx hb hts inlX4 tyX4 tyX4_ok nmX4 hown hK hP hD hS 0 rfl rfl 3 (by decide) (hts _ mw_519) (fun _ h9 => h9) rfl (by decide +kernel) rfl rfl (Nat.le_of_ble_eq_true rfl) dX4_weigh_14 (fun H locs hP hD hS => ?_)
  have hP : va_P D vwCl [(u, .inr (4, [.ref uw, .int (nI 0), .int (nI 0), .int (nI 1023)])), (uw, .inl (Y 0, 10, .inl (aN cw))), (w, .inr (6, [.ref h, .ref ca, .int (nI prs), .int (nI yrs), .ref ro, .ref sh, .ref un, .ref so, .ref si, .int (nI bs), .int (nI sc)])), (si, .inl (Y 0, 8, .inl (aN gsi)))] H := hP
  have hD : va_D A [(u, .inr (4, [.ref uw, .int (nI 0), .int (nI 0), .int (nI 1023)])), (uw, .inl (Y 0, 10, .inl (aN cw))), (w, .inr (6, [.ref h, .ref ca, .int (nI prs), .int (nI yrs), .ref ro, .ref sh, .ref un, .ref so, .ref si, .int (nI bs), .int (nI sc)])), (si, .inl (Y 0, 8, .inl (aN gsi)))] := hD
  refine lv_iconst (v := nI 0) hx hb dX4_weigh_17 (by decide) ?_
  refine lv_istore_n (lv' := [(3, .int (nI 0)), (0, .ref u), (1, .ref w), (2, .int (nI mm))]) hx hb dX4_weigh_18 rfl hl (by decide) rfl (fun ls hl => ?_)
  exact L19 (10 - 0 + 1) 0 cw (by first | assumption | omega | rfl) (fun _ h9 => absurd h9 (Nat.not_lt_zero _)) (Nat.lt_succ_self _) _ _ _ hP hD hS (lv_sub hl [0, 1, 2, 3] rfl)
abbrev q_X5_init (D : va_G) (Y : Nat → ClassId) (ta : Nat) : (Nat → Prop) → Array Value → State → Outcome → State → Prop := mv_Qv D Y (fun (ux : Nat) => True) (fun ux : Nat => ([(ta, .inr (5, [.ref ux])), (ux, .inl (Y 0, 17, .inl (aN (fun _ => 0))))] : va_W))
set_option maxHeartbeats 4000000 in
set_option maxRecDepth 100000 in
theorem c_X5_init (l : Launch) (D : va_G) (Y : Nat → ClassId) (sz : Nat) (ta : Nat)  : mv_C l D Y yX5_init cX5_init 1 none 1 1 17 [.ref ta] sz [(ta, .inr (5, [.null]))] (q_X5_init D Y ta) := by
  refine mv_ofW (by decide) (Nat.le_of_ble_eq_true rfl) ?_
  intro p e s m below meth c ls A hx hb hr hlocks hml hnm hown hts hsz hAe hP hK hD hS hST hA hl
  have hl : lv_has ls 1 [(0, .ref ta)] := hl
  refine lv_aload_n hx hb dX5_init_0 rfl (lv_at hl 0 rfl) ?_
  refine W.objInit hx hb hown (hts _ mw_67) (hts _ mw_10) (hts _ mw_11) rfl (by rw [hml]; exact hl.1) rfl dX5_init_1 (Nat.le_of_ble_eq_true rfl) (Nat.le_of_ble_eq_true rfl) ?_
  refine W.eq (g2 := F0 m 4 ls []) rfl ?_
  refine lv_aload_n hx hb dX5_init_4 rfl (lv_at hl 0 rfl) ?_
  refine lv_bipush (v := nI 17) hx hb dX5_init_5 (by decide) ?_
  refine mv_newaI hx hb hts hK hP hD hS hA (n := 17) (by decide) (by decide) (Nat.le_of_ble_eq_true rfl) (Nat.le_of_ble_eq_true rfl) dX5_init_7 (fun q_1 H hP hD hS => ?_)
  have hP : va_P D vwCl [(ta, .inr (5, [.null])), (q_1, .inl (Y 0, 17, .inl (aN (fun _ => 0))))] H := hP
  have hD : va_D A [(ta, .inr (5, [.null])), (q_1, .inl (Y 0, 17, .inl (aN (fun _ => 0))))] := hD
  refine W.widen (k := 1) (n := 17) (by omega) (by omega) ?_
  refine va_putF (D := D) (ci := 5) (v := .ref q_1) (ty := .array .int) (C := RX5) (T := TX5) (N := 1) hx hb hts inlX5 tyX5 tyX5_ok nmX5 hown hK hP hD hS 0 rfl rfl 0 (by decide) (hts _ mw_68) (fun _ h9 => h9) rfl hnm rfl (by decide +kernel) rfl rfl (Nat.le_of_ble_eq_true rfl) dX5_init_9 (fun H locs hP hD hS => ?_)
  have hP : va_P D vwCl [(ta, .inr (5, [.ref q_1])), (q_1, .inl (Y 0, 17, .inl (aN (fun _ => 0))))] H := hP
  have hD : va_D A [(ta, .inr (5, [.ref q_1])), (q_1, .inl (Y 0, 17, .inl (aN (fun _ => 0))))] := hD
  exact mv_vret hx hb hr hlocks (q_1) (trivial) hP hK hD hS dX5_init_12
abbrev q_X5_nimOfRow (D : va_G) (Y : Nat → ClassId) (k : Nat) : (Nat → Prop) → Array Value → State → Outcome → State → Prop := mv_Qi D Y (fun (r : Int32) (_ : Unit) => r = nI (mv_nimL.getD k 0)) (fun _ : Unit => ([] : va_W))
set_option maxHeartbeats 4000000 in
set_option maxRecDepth 100000 in
theorem c_X5_nimOfRow (l : Launch) (D : va_G) (Y : Nat → ClassId) (sz : Nat) (k : Nat) (hk : k < 2 ^ 31) : mv_C l D Y yX5_nimOfRow cX5_nimOfRow 1 (some .int) 0 0 0 [.int (nI k)] sz [] (q_X5_nimOfRow D Y k) := by
  refine mv_ofW (by decide) (Nat.le_of_ble_eq_true rfl) ?_
  intro p e s m below meth c ls A hx hb hr hlocks hml hnm hown hts hsz hAe hP hK hD hS hST hA hl
  have hl : lv_has ls 1 [(0, .int (nI k))] := hl
  refine lv_iconst (v := nI 0) hx hb dX5_nimOfRow_0 (by decide) ?_
  refine lv_iload_n hx hb dX5_nimOfRow_1 rfl (lv_at hl 0 rfl) ?_
  refine mv_icmp_gt (tgt := 21) hx hb (by omega) (by omega) dX5_nimOfRow_2 (by decide) (fun c2 => ?_) (fun c2 => ?_)
  · skip
    exfalso; omega
  · skip
    refine lv_iload_n hx hb dX5_nimOfRow_5 rfl (lv_at hl 0 rfl) ?_
    obtain ⟨⟨t1, hz1, ht1⟩, ⟨t2, hz2, ht2⟩, hnst, hao⟩ := id hST
    refine va_gets hx hb hz1 hS hown (hts _ mw_567) (fun _ h9 => h9) dX5_nimOfRow_6 ?_
    refine va_tlen (v := nI 17) hx hb ht1 hS rfl dX5_nimOfRow_9 ?_
    refine mv_icmp_ge (tgt := 21) hx hb (by omega) (by omega) dX5_nimOfRow_10 (by decide) (fun c10 => ?_) (fun c10 => ?_)
    · skip
      refine lv_iconst (v := nI 0) hx hb dX5_nimOfRow_21 (by decide) ?_
      exact mv_iret hx hb hr hlocks () (by rw [List.getD_eq_getElem?_getD, List.getElem?_eq_none (show mv_nimL.length ≤ k from c10)]; rfl) hP hK hD hS dX5_nimOfRow_22
    · skip
      obtain ⟨⟨t1, hz1, ht1⟩, ⟨t2, hz2, ht2⟩, hnst, hao⟩ := id hST
      refine va_gets hx hb hz1 hS hown (hts _ mw_567) (fun _ h9 => h9) dX5_nimOfRow_13 ?_
      refine lv_iload_n hx hb dX5_nimOfRow_16 rfl (lv_at hl 0 rfl) ?_
      refine va_ti (v := .int (nI ((mv_nimL).getD k 0))) hx hb ht1 hS (vp_in_nI (by omega) (by decide)) (by rw [nI_clamp (by omega)]; rfl) dX5_nimOfRow_17 ?_
      refine lv_goto (tgt := 22) hx hb dX5_nimOfRow_18 (by decide) ?_
      exact mv_iret hx hb hr hlocks () (rfl) hP hK hD hS dX5_nimOfRow_22
abbrev q_X5_nimOf (D : va_G) (Y : Nat → ClassId) (hol : Nat) : (Nat → Prop) → Array Value → State → Outcome → State → Prop := mv_Qi D Y (fun (r : Int32) (_ : Unit) => r = nI (nimV hol)) (fun _ : Unit => ([] : va_W))
set_option maxHeartbeats 4000000 in
set_option maxRecDepth 100000 in
theorem c_X5_nimOf (l : Launch) (D : va_G) (Y : Nat → ClassId) (sz : Nat) (hol : Nat) (hh : hol < 65536) : mv_C l D Y yX5_nimOf cX5_nimOf 4 (some .int) 1 0 0 [.int (nI hol)] sz [] (q_X5_nimOf D Y hol) := by
  refine mv_ofW (by decide) (Nat.le_of_ble_eq_true rfl) ?_
  intro p e s m below meth c ls A hx hb hr hlocks hml hnm hown hts hsz hAe hP hK hD hS hST hA hl
  have hl : lv_has ls 4 [(0, .int (nI hol))] := hl
  have L6 : ∀ (fu : Nat) (k : Nat) (a : Nat) (b : Nat) (hk : k ≤ 16) (ha : a = (nimS hol k).1) (hb2 : b = (nimS hol k).2) (hmeas : 16 - k < fu) (H : Heap) (locs : List Loc) (ls : Array Slot), va_P D vwCl [] H → va_D A [] → va_S A s.heap H locs → lv_has ls 4 [(3, .int (nI k)), (2, .int (nI b)), (1, .int (nI a)), (0, .int (nI hol))] → W p l e (mv_R 1 0 0) s m [.int (nI hol)].toArray below meth c H locs 0 0 (MQ below ((q_X5_nimOf D Y hol) A) [.int (nI hol)].toArray s 0 0 A) (F0 m 6 ls []) := by
    intro fu
    induction fu with
    | zero =>
      intro k a b hk ha hb2 hmeas
      exact absurd hmeas (Nat.not_lt_zero _)
    | succ fu L6ih =>
      intro k a b hk ha hb2 hmeas H locs ls hP hD hS hl
      have hbb := (nimS_bd hol k).2
      refine lv_iload_n hx hb dX5_nimOf_6 rfl (lv_at hl 0 rfl) ?_
      refine lv_bipush (v := nI 16) hx hb dX5_nimOf_7 (by decide) ?_
      refine mv_icmp_ge (tgt := 41) hx hb (by first | omega | exact Nat.lt_trans (Nat.mod_lt _ (by decide)) (by decide)) (by omega) dX5_nimOf_9 (by decide) (fun c9 => ?_) (fun c9 => ?_)
      · skip
        refine lv_iload_n hx hb dX5_nimOf_41 rfl (lv_at hl 2 rfl) ?_
        refine lv_iload_n hx hb dX5_nimOf_42 rfl (lv_at hl 1 rfl) ?_
        refine mv_callSi (nA := 1) (As := [.int (nI b)]) (rest := [.int (nI a)]) (Wc := []) (wr := []) hx hb hml hown hts hK hP hD hS hST hA hl.1 (c_X5_nimOfRow l D Y _ b (by first | assumption | omega | rfl)) [] [] rfl rfl (by decide) (by decide) (by decide) rfl mw_564 mw_565 mw_31 mw_566 ⟨by decide, by decide, by decide +kernel⟩ rfl ⟨Nat.le_of_ble_eq_true rfl, Nat.le_of_ble_eq_true rfl⟩ rfl (Nat.le_of_ble_eq_true rfl) dX5_nimOf_43 ⟨Nat.le_of_ble_eq_true rfl, Nat.le_of_ble_eq_true rfl⟩ (fun r_1 ux H locs hr43 hP hD hS hz43 => ?_)
        have hP := hP.sub (ws' := []) [] rfl
        have hD := hD.sub (ws' := []) [] (by decide) rfl
        have hr43 : r_1 = nI (mv_nimL.getD b 0) := hr43
        subst hr43
        refine mv_ixor hx hb dX5_nimOf_46 ?_
        exact mv_iret hx hb hr hlocks () (by rw [ha, hb2, show k = 16 by omega]; rfl) hP hK hD hS dX5_nimOf_47
      · skip
        refine lv_iload_n hx hb dX5_nimOf_12 rfl (lv_at hl 3 rfl) ?_
        refine lv_iload_n hx hb dX5_nimOf_13 rfl (lv_at hl 0 rfl) ?_
        refine mv_ishr hx hb (by first | omega | exact Nat.lt_trans (Nat.mod_lt _ (by decide)) (by decide)) (by omega) dX5_nimOf_14 ?_
        refine lv_iconst (v := nI 1) hx hb dX5_nimOf_15 (by decide) ?_
        refine mv_iand1 hx hb dX5_nimOf_16 ?_
        refine mv_if_eq (tgt := 26) hx hb (by first | omega | exact Nat.lt_trans (Nat.mod_lt _ (by decide)) (by decide)) dX5_nimOf_17 (by decide) (fun c17 => ?_) (fun c17 => ?_)
        · skip
          refine lv_iload_n hx hb dX5_nimOf_26 rfl (lv_at hl 2 rfl) ?_
          refine lv_iload_n hx hb dX5_nimOf_27 rfl (lv_at hl 1 rfl) ?_
          refine mv_callSi (nA := 1) (As := [.int (nI b)]) (rest := [.int (nI a)]) (Wc := []) (wr := []) hx hb hml hown hts hK hP hD hS hST hA hl.1 (c_X5_nimOfRow l D Y _ b (by first | assumption | omega | rfl)) [] [] rfl rfl (by decide) (by decide) (by decide) rfl mw_564 mw_565 mw_31 mw_566 ⟨by decide, by decide, by decide +kernel⟩ rfl ⟨Nat.le_of_ble_eq_true rfl, Nat.le_of_ble_eq_true rfl⟩ rfl (Nat.le_of_ble_eq_true rfl) dX5_nimOf_28 ⟨Nat.le_of_ble_eq_true rfl, Nat.le_of_ble_eq_true rfl⟩ (fun r_2 ux H locs hr28 hP hD hS hz28 => ?_)
          have hP := hP.sub (ws' := []) [] rfl
          have hD := hD.sub (ws' := []) [] (by decide) rfl
          have hr28 : r_2 = nI (mv_nimL.getD b 0) := hr28
          subst hr28
          refine mv_ixor hx hb dX5_nimOf_31 ?_
          refine lv_istore_n (lv' := [(1, .int (nI (a ^^^ (mv_nimL.getD b 0)))), (3, .int (nI k)), (2, .int (nI b)), (0, .int (nI hol))]) hx hb dX5_nimOf_32 rfl hl (by decide) rfl (fun ls hl => ?_)
          refine lv_iconst (v := nI 0) hx hb dX5_nimOf_33 (by decide) ?_
          refine lv_istore_n (lv' := [(2, .int (nI 0)), (1, .int (nI (a ^^^ (mv_nimL.getD b 0)))), (3, .int (nI k)), (0, .int (nI hol))]) hx hb dX5_nimOf_34 rfl hl (by decide) rfl (fun ls hl => ?_)
          refine lv_iinc (v := nI (k + 1)) (lv' := [(3, .int (nI (k + 1))), (2, .int (nI 0)), (1, .int (nI (a ^^^ (mv_nimL.getD b 0)))), (0, .int (nI hol))]) hx hb dX5_nimOf_35 hl (k := 2) rfl (by exact nI_add _ 1) (by decide) rfl (fun ls hl => ?_)
          refine lv_goto (tgt := 6) hx hb dX5_nimOf_38 (by decide) ?_
          exact L6ih  (k + 1) (a ^^^ (mv_nimL.getD b 0)) 0 (by first | assumption | omega | rfl) (by rw [nimS, if_neg (by omega), ha, hb2]) (by rw [nimS, if_neg (by omega)]) (by omega) _ _ _ hP hD hS (lv_sub hl [0, 1, 2, 3] rfl)
        · skip
          refine lv_iinc (v := nI (b + 1)) (lv' := [(2, .int (nI (b + 1))), (3, .int (nI k)), (1, .int (nI a)), (0, .int (nI hol))]) hx hb dX5_nimOf_20 hl (k := 1) rfl (by exact nI_add _ 1) (by decide) rfl (fun ls hl => ?_)
          refine lv_goto (tgt := 35) hx hb dX5_nimOf_23 (by decide) ?_
          refine lv_iinc (v := nI (k + 1)) (lv' := [(3, .int (nI (k + 1))), (2, .int (nI (b + 1))), (1, .int (nI a)), (0, .int (nI hol))]) hx hb dX5_nimOf_35 hl (k := 1) rfl (by exact nI_add _ 1) (by decide) rfl (fun ls hl => ?_)
          refine lv_goto (tgt := 6) hx hb dX5_nimOf_38 (by decide) ?_
          exact L6ih  (k + 1) a (b + 1) (by first | assumption | omega | rfl) (by rw [nimS, if_pos (by omega), ha]) (by rw [nimS, if_pos (by omega), hb2]) (by omega) _ _ _ hP hD hS (lv_sub hl [0, 1, 2, 3] rfl)
  refine lv_iconst (v := nI 0) hx hb dX5_nimOf_0 (by decide) ?_
  refine lv_istore_n (lv' := [(1, .int (nI 0)), (0, .int (nI hol))]) hx hb dX5_nimOf_1 rfl hl (by decide) rfl (fun ls hl => ?_)
  refine lv_iconst (v := nI 0) hx hb dX5_nimOf_2 (by decide) ?_
  refine lv_istore_n (lv' := [(2, .int (nI 0)), (1, .int (nI 0)), (0, .int (nI hol))]) hx hb dX5_nimOf_3 rfl hl (by decide) rfl (fun ls hl => ?_)
  refine lv_iconst (v := nI 0) hx hb dX5_nimOf_4 (by decide) ?_
  refine lv_istore_n (lv' := [(3, .int (nI 0)), (2, .int (nI 0)), (1, .int (nI 0)), (0, .int (nI hol))]) hx hb dX5_nimOf_5 rfl hl (by decide) rfl (fun ls hl => ?_)
  exact L6 (16 - 0 + 1) 0 0 0 (by first | assumption | omega | rfl) (rfl) (rfl) (Nat.lt_succ_self _) _ _ _ hP hD hS (lv_sub hl [0, 1, 2, 3] rfl)
abbrev q_X5_winningDarn (D : va_G) (Y : Nat → ClassId) (hol : Nat) : (Nat → Prop) → Array Value → State → Outcome → State → Prop := mv_Qi D Y (fun (r : Int32) (_ : Unit) => r = oI (wdS hol 16 0)) (fun _ : Unit => ([] : va_W))
set_option maxHeartbeats 4000000 in
set_option maxRecDepth 100000 in
theorem c_X5_winningDarn (l : Launch) (D : va_G) (Y : Nat → ClassId) (sz : Nat) (hol : Nat) (hh : hol < 65536) : mv_C l D Y yX5_winningDarn cX5_winningDarn 4 (some .int) 2 0 0 [.int (nI hol)] sz [] (q_X5_winningDarn D Y hol) := by
  refine mv_ofW (by decide) (Nat.le_of_ble_eq_true rfl) ?_
  intro p e s m below meth c ls A hx hb hr hlocks hml hnm hown hts hsz hAe hP hK hD hS hST hA hl
  have hl : lv_has ls 4 [(0, .int (nI hol))] := hl
  have L2 : ∀ (fu : Nat) (k : Nat) (n : Nat) (hn : k + n = 16) (hf : wdS hol n k = wdS hol 16 0) (hmeas : n < fu) (H : Heap) (locs : List Loc) (ls : Array Slot), va_P D vwCl [] H → va_D A [] → va_S A s.heap H locs → lv_has ls 4 [(1, .int (nI k)), (0, .int (nI hol))] → W p l e (mv_R 2 0 0) s m [.int (nI hol)].toArray below meth c H locs 0 0 (MQ below ((q_X5_winningDarn D Y hol) A) [.int (nI hol)].toArray s 0 0 A) (F0 m 2 ls []) := by
    intro fu
    induction fu with
    | zero =>
      intro k n hn hf hmeas
      exact absurd hmeas (Nat.not_lt_zero _)
    | succ fu L2ih =>
      intro k n hn hf hmeas H locs ls hP hD hS hl
      have L37 : ∀  (h1 : ¬ (hol / 2 ^ k % 2 = 1 ∧ nimV (hol &&& (1 * 2 ^ k ^^^ 4294967295)) = 0)) (hk2 : k < 16) (H : Heap) (locs : List Loc) (ls : Array Slot), va_P D vwCl [] H → va_D A [] → va_S A s.heap H locs → lv_has ls 4 [(0, .int (nI hol)), (1, .int (nI k)), (2, .int (nI (1 * 2 ^ k))), (3, .int (nI (3 * 2 ^ k)))] → W p l e (mv_R 2 0 0) s m [.int (nI hol)].toArray below meth c H locs 0 0 (MQ below ((q_X5_winningDarn D Y hol) A) [.int (nI hol)].toArray s 0 0 A) (F0 m 37 ls []) := by
        intro  h1 hk2 H locs ls hP hD hS hl
        obtain ⟨n2, rfl⟩ : ∃ z, n = z + 1 := ⟨n - 1, by omega⟩
        have hand : ∀ z, hol &&& z < 65536 := fun z => Nat.lt_of_le_of_lt Nat.and_le_left hh
        have hnv := nimV_lt (hol &&& (3 * 2 ^ k ^^^ 4294967295))
        have hp16 : 2 ^ k < 2 ^ 16 := Nat.pow_lt_pow_right (by decide) hk2
        refine lv_iload_n hx hb dX5_winningDarn_37 rfl (lv_at hl 0 rfl) ?_
        refine lv_iload_n hx hb dX5_winningDarn_38 rfl (lv_at hl 3 rfl) ?_
        refine mv_iand hx hb dX5_winningDarn_39 ?_
        refine lv_iload_n hx hb dX5_winningDarn_40 rfl (lv_at hl 3 rfl) ?_
        refine mv_icmp_ne (tgt := 61) hx hb (by first | omega | exact Nat.lt_trans (hand _) (by decide)) (by omega) dX5_winningDarn_41 (by decide) (fun c41 => ?_) (fun c41 => ?_)
        · skip
          refine lv_iinc (v := nI (k + 1)) (lv' := [(1, .int (nI (k + 1))), (0, .int (nI hol)), (2, .int (nI (1 * 2 ^ k))), (3, .int (nI (3 * 2 ^ k)))]) hx hb dX5_winningDarn_61 hl (k := 1) rfl (by exact nI_add _ 1) (by decide) rfl (fun ls hl => ?_)
          refine lv_goto (tgt := 2) hx hb dX5_winningDarn_64 (by decide) ?_
          exact L2ih  (k + 1) n2 (by first | assumption | omega | rfl) (by rw [wdS, if_neg h1, if_neg (fun q => c41 q.1)] at hf; exact hf) (by omega) _ _ _ hP hD hS (lv_sub hl [0, 1] rfl)
        · skip
          refine lv_iload_n hx hb dX5_winningDarn_44 rfl (lv_at hl 0 rfl) ?_
          refine lv_iload_n hx hb dX5_winningDarn_45 rfl (lv_at hl 3 rfl) ?_
          refine lv_iconst (v := nI 4294967295) hx hb dX5_winningDarn_46 (by decide) ?_
          refine mv_ixor hx hb dX5_winningDarn_47 ?_
          refine mv_iand hx hb dX5_winningDarn_48 ?_
          refine mv_callSi (nA := 1) (As := [.int (nI (hol &&& ((3 * 2 ^ k) ^^^ 4294967295)))]) (rest := []) (Wc := []) (wr := []) hx hb hml hown hts hK hP hD hS hST hA hl.1 (c_X5_nimOf l D Y _ (hol &&& ((3 * 2 ^ k) ^^^ 4294967295)) (hand _)) [] [] rfl rfl (by decide) (by decide) (by decide) rfl mw_561 mw_562 mw_31 mw_563 ⟨by decide, by decide, by decide +kernel⟩ rfl ⟨Nat.le_of_ble_eq_true rfl, Nat.le_of_ble_eq_true rfl⟩ rfl (Nat.le_of_ble_eq_true rfl) dX5_winningDarn_49 ⟨Nat.le_of_ble_eq_true rfl, Nat.le_of_ble_eq_true rfl⟩ (fun r_1 ux H locs hr49 hP hD hS hz49 => ?_)
          have hP := hP.sub (ws' := []) [] rfl
          have hD := hD.sub (ws' := []) [] (by decide) rfl
          have hr49 : r_1 = nI (nimV (hol &&& ((3 * 2 ^ k) ^^^ 4294967295))) := hr49
          subst hr49
          refine mv_if_ne (tgt := 61) hx hb (by first | omega | exact Nat.lt_trans (hand _) (by decide)) dX5_winningDarn_52 (by decide) (fun c52 => ?_) (fun c52 => ?_)
          · skip
            refine lv_iinc (v := nI (k + 1)) (lv' := [(1, .int (nI (k + 1))), (0, .int (nI hol)), (2, .int (nI (1 * 2 ^ k))), (3, .int (nI (3 * 2 ^ k)))]) hx hb dX5_winningDarn_61 hl (k := 1) rfl (by exact nI_add _ 1) (by decide) rfl (fun ls hl => ?_)
            refine lv_goto (tgt := 2) hx hb dX5_winningDarn_64 (by decide) ?_
            exact L2ih  (k + 1) n2 (by first | assumption | omega | rfl) (by rw [wdS, if_neg h1, if_neg (fun q => c52 q.2)] at hf; exact hf) (by omega) _ _ _ hP hD hS (lv_sub hl [0, 1] rfl)
          · skip
            refine lv_iconst (v := nI 2) hx hb dX5_winningDarn_55 (by decide) ?_
            refine lv_iload_n hx hb dX5_winningDarn_56 rfl (lv_at hl 1 rfl) ?_
            refine mv_imul hx hb dX5_winningDarn_57 ?_
            refine lv_iconst (v := nI 1) hx hb dX5_winningDarn_58 (by decide) ?_
            refine mv_iadd hx hb dX5_winningDarn_59 ?_
            exact mv_iret hx hb hr hlocks () (by rw [← hf, wdS, if_neg h1, if_pos ⟨c41, c52⟩]; rfl) hP hK hD hS dX5_winningDarn_60
      refine lv_iload_n hx hb dX5_winningDarn_2 rfl (lv_at hl 0 rfl) ?_
      refine lv_bipush (v := nI 16) hx hb dX5_winningDarn_3 (by decide) ?_
      refine mv_icmp_ge (tgt := 67) hx hb (by first | omega | exact Nat.lt_trans (hand _) (by decide)) (by omega) dX5_winningDarn_5 (by decide) (fun c5 => ?_) (fun c5 => ?_)
      · skip
        refine lv_bipush (v := -6) hx hb dX5_winningDarn_67 (by decide) ?_
        exact mv_iret hx hb hr hlocks () (by rw [← hf, show n = 0 by omega]; rfl) hP hK hD hS dX5_winningDarn_69
      · skip
        have hand : ∀ z, hol &&& z < 65536 := fun z => Nat.lt_of_le_of_lt Nat.and_le_left hh
        have hnv := nimV_lt (hol &&& (1 * 2 ^ k ^^^ 4294967295))
        refine lv_iconst (v := nI 1) hx hb dX5_winningDarn_8 (by decide) ?_
        refine lv_iload_n hx hb dX5_winningDarn_9 rfl (lv_at hl 0 rfl) ?_
        refine mv_ishl hx hb (by omega) dX5_winningDarn_10 ?_
        refine lv_istore_n (lv' := [(2, .int (nI (1 * 2 ^ k))), (1, .int (nI k)), (0, .int (nI hol))]) hx hb dX5_winningDarn_11 rfl hl (by decide) rfl (fun ls hl => ?_)
        refine lv_iconst (v := nI 3) hx hb dX5_winningDarn_12 (by decide) ?_
        refine lv_iload_n hx hb dX5_winningDarn_13 rfl (lv_at hl 1 rfl) ?_
        refine mv_ishl hx hb (by omega) dX5_winningDarn_14 ?_
        refine lv_istore_n (lv' := [(3, .int (nI (3 * 2 ^ k))), (2, .int (nI (1 * 2 ^ k))), (1, .int (nI k)), (0, .int (nI hol))]) hx hb dX5_winningDarn_15 rfl hl (by decide) rfl (fun ls hl => ?_)
        refine lv_iload_n hx hb dX5_winningDarn_16 rfl (lv_at hl 3 rfl) ?_
        refine lv_iload_n hx hb dX5_winningDarn_17 rfl (lv_at hl 1 rfl) ?_
        refine mv_iand hx hb dX5_winningDarn_18 ?_
        refine mv_if_eq (tgt := 37) hx hb (by first | omega | exact Nat.lt_trans (hand _) (by decide)) dX5_winningDarn_19 (by decide) (fun c19 => ?_) (fun c19 => ?_)
        · skip
          exact L37   (fun q => by have := bit_and1.mp c19; omega) (by first | assumption | omega | rfl) _ _ _ hP hD hS (lv_sub hl [3, 2, 1, 0] rfl)
        · skip
          refine lv_iload_n hx hb dX5_winningDarn_22 rfl (lv_at hl 3 rfl) ?_
          refine lv_iload_n hx hb dX5_winningDarn_23 rfl (lv_at hl 1 rfl) ?_
          refine lv_iconst (v := nI 4294967295) hx hb dX5_winningDarn_24 (by decide) ?_
          refine mv_ixor hx hb dX5_winningDarn_25 ?_
          refine mv_iand hx hb dX5_winningDarn_26 ?_
          refine mv_callSi (nA := 1) (As := [.int (nI (hol &&& ((1 * 2 ^ k) ^^^ 4294967295)))]) (rest := []) (Wc := []) (wr := []) hx hb hml hown hts hK hP hD hS hST hA hl.1 (c_X5_nimOf l D Y _ (hol &&& ((1 * 2 ^ k) ^^^ 4294967295)) (hand _)) [] [] rfl rfl (by decide) (by decide) (by decide) rfl mw_561 mw_562 mw_31 mw_563 ⟨by decide, by decide, by decide +kernel⟩ rfl ⟨Nat.le_of_ble_eq_true rfl, Nat.le_of_ble_eq_true rfl⟩ rfl (Nat.le_of_ble_eq_true rfl) dX5_winningDarn_27 ⟨Nat.le_of_ble_eq_true rfl, Nat.le_of_ble_eq_true rfl⟩ (fun r_2 ux H locs hr27 hP hD hS hz27 => ?_)
          have hP := hP.sub (ws' := []) [] rfl
          have hD := hD.sub (ws' := []) [] (by decide) rfl
          have hr27 : r_2 = nI (nimV (hol &&& ((1 * 2 ^ k) ^^^ 4294967295))) := hr27
          subst hr27
          refine mv_if_ne (tgt := 37) hx hb (by first | omega | exact Nat.lt_trans (hand _) (by decide)) dX5_winningDarn_30 (by decide) (fun c30 => ?_) (fun c30 => ?_)
          · skip
            exact L37   (fun q => c30 q.2) (by first | assumption | omega | rfl) _ _ _ hP hD hS (lv_sub hl [3, 2, 1, 0] rfl)
          · skip
            refine lv_iconst (v := nI 2) hx hb dX5_winningDarn_33 (by decide) ?_
            refine lv_iload_n hx hb dX5_winningDarn_34 rfl (lv_at hl 2 rfl) ?_
            refine mv_imul hx hb dX5_winningDarn_35 ?_
            exact mv_iret hx hb hr hlocks () (by obtain ⟨n2, rfl⟩ : ∃ z, n = z + 1 := ⟨n - 1, by omega⟩; rw [← hf, wdS, if_pos ⟨(by have h8 : hol / 2 ^ k % 2 ≠ 0 := fun q => c19 (bit_and1.mpr q); omega), c30⟩]; rfl) hP hK hD hS dX5_winningDarn_36
  refine lv_iconst (v := nI 0) hx hb dX5_winningDarn_0 (by decide) ?_
  refine lv_istore_n (lv' := [(1, .int (nI 0)), (0, .int (nI hol))]) hx hb dX5_winningDarn_1 rfl hl (by decide) rfl (fun ls hl => ?_)
  exact L2 (16 + 1) 0 16 (by first | assumption | omega | rfl) (by first | assumption | omega | rfl) (Nat.lt_succ_self _) _ _ _ hP hD hS (lv_sub hl [0, 1] rfl)
abbrev q_X5_mostWorth (D : va_G) (Y : Nat → ClassId) (ta : Nat) (tm : Nat) (gt : Nat → Nat) (hol : Nat) (m1 : Nat) (v1 : Nat) (n1 : Nat) (w1 : Nat) : (Nat → Prop) → Array Value → State → Outcome → State → Prop := mv_Qi D Y (fun (r : Int32) (_ : Unit) => r = nI (tbS hol m1 v1 n1 w1 gt 16 16)) (fun _ : Unit => ([(ta, .inr (5, [.ref tm])), (tm, .inl (Y 0, 17, .inl (aN (tbS hol m1 v1 n1 w1 gt 16))))] : va_W))
set_option maxHeartbeats 8000000 in
set_option maxRecDepth 100000 in
theorem c_X5_mostWorth (l : Launch) (D : va_G) (Y : Nat → ClassId) (sz : Nat) (ta : Nat) (tm : Nat) (gt : Nat → Nat) (hol : Nat) (m1 : Nat) (v1 : Nat) (n1 : Nat) (w1 : Nat) (hh : hol < 65536) (hm : 1 ≤ m1 ∧ m1 ≤ 16) (hn : 1 ≤ n1 ∧ n1 ≤ 16) (hv : v1 ≤ 99) (hw : w1 ≤ 99) : mv_C l D Y yX5_mostWorth cX5_mostWorth 9 (some .int) 1 0 0 [.ref ta, .int (nI hol), .int (nI m1), .int (nI v1), .int (nI n1), .int (nI w1)] sz [(ta, .inr (5, [.ref tm])), (tm, .inl (Y 0, 17, .inl (aN gt)))] (q_X5_mostWorth D Y ta tm gt hol m1 v1 n1 w1) := by
  refine mv_ofW (by decide) (Nat.le_of_ble_eq_true rfl) ?_
  intro p e s m below meth c ls A hx hb hr hlocks hml hnm hown hts hsz hAe hP hK hD hS hST hA hl
  have hl : lv_has ls 9 [(0, .ref ta), (1, .int (nI hol)), (2, .int (nI m1)), (3, .int (nI v1)), (4, .int (nI n1)), (5, .int (nI w1))] := hl
  have L13 : ∀ (fu : Nat) (k : Nat) (rn : Nat) (gz : Nat → Nat) (hk : k ≤ 16) (hr2 : rn = runS hol k) (hg : gz = tbS hol m1 v1 n1 w1 gt k) (hmeas : 16 - k < fu) (H : Heap) (locs : List Loc) (ls : Array Slot), va_P D vwCl [(ta, .inr (5, [.ref tm])), (tm, .inl (Y 0, 17, .inl (aN gz)))] H → va_D A [(ta, .inr (5, [.ref tm])), (tm, .inl (Y 0, 17, .inl (aN gz)))] → va_S A s.heap H locs → lv_has ls 9 [(7, .int (nI k)), (6, .int (nI rn)), (0, .ref ta), (1, .int (nI hol)), (2, .int (nI m1)), (3, .int (nI v1)), (4, .int (nI n1)), (5, .int (nI w1))] → W p l e (mv_R 1 0 0) s m [.ref ta, .int (nI hol), .int (nI m1), .int (nI v1), .int (nI n1), .int (nI w1)].toArray below meth c H locs 0 0 (MQ below ((q_X5_mostWorth D Y ta tm gt hol m1 v1 n1 w1) A) [.ref ta, .int (nI hol), .int (nI m1), .int (nI v1), .int (nI n1), .int (nI w1)].toArray s 0 0 A) (F0 m 13 ls []) := by
    intro fu
    induction fu with
    | zero =>
      intro k rn gz hk hr2 hg hmeas
      exact absurd hmeas (Nat.not_lt_zero _)
    | succ fu L13ih =>
      intro k rn gz hk hr2 hg hmeas H locs ls hP hD hS hl
      have hrl := runS_le hol k
      have hbd : ∀ j, j ≤ k → gz j ≤ 99 * j := fun j hj => by rw [hg]; exact tbS_bd hv hw hm.1 hn.1 k hk j hj
      have L43 : ∀ (rn2 : Nat) (hrn : rn2 = runS hol (k + 1)) (hk2 : k < 16) (H : Heap) (locs : List Loc) (ls : Array Slot), va_P D vwCl [(ta, .inr (5, [.ref tm])), (tm, .inl (Y 0, 17, .inl (aN gz)))] H → va_D A [(ta, .inr (5, [.ref tm])), (tm, .inl (Y 0, 17, .inl (aN gz)))] → va_S A s.heap H locs → lv_has ls 9 [(7, .int (nI k)), (8, .int (nI (k + 1))), (0, .ref ta), (1, .int (nI hol)), (2, .int (nI m1)), (3, .int (nI v1)), (4, .int (nI n1)), (5, .int (nI w1))] → W p l e (mv_R 1 0 0) s m [.ref ta, .int (nI hol), .int (nI m1), .int (nI v1), .int (nI n1), .int (nI w1)].toArray below meth c H locs 0 0 (MQ below ((q_X5_mostWorth D Y ta tm gt hol m1 v1 n1 w1) A) [.ref ta, .int (nI hol), .int (nI m1), .int (nI v1), .int (nI n1), .int (nI w1)].toArray s 0 0 A) (F0 m 43 ls [.int (nI rn2)]) := by
        intro rn2 hrn hk2 H locs ls hP hD hS hl
        have hrl2 := runS_le hol (k + 1)
        have hb9 : ∀ j, j ≤ k + 1 → (uN gz (k + 1) (gz k)) j ≤ 99 * j := fun j hj => by by_cases e9 : j = k + 1; rw [e9, uN_s]; have := hbd k (by omega); omega; rw [uN_n _ _ e9]; exact hbd j (by omega)
        have L104 : ∀ (gy : Nat → Nat) (hg2 : gy = twS hol m1 v1 (k + 1) (uN (tbS hol m1 v1 n1 w1 gt k) (k + 1) (tbS hol m1 v1 n1 w1 gt k k))) (H : Heap) (locs : List Loc) (ls : Array Slot), va_P D vwCl [(ta, .inr (5, [.ref tm])), (tm, .inl (Y 0, 17, .inl (aN gy)))] H → va_D A [(ta, .inr (5, [.ref tm])), (tm, .inl (Y 0, 17, .inl (aN gy)))] → va_S A s.heap H locs → lv_has ls 9 [(7, .int (nI k)), (8, .int (nI (k + 1))), (6, .int (nI rn2)), (0, .ref ta), (1, .int (nI hol)), (2, .int (nI m1)), (3, .int (nI v1)), (4, .int (nI n1)), (5, .int (nI w1))] → W p l e (mv_R 1 0 0) s m [.ref ta, .int (nI hol), .int (nI m1), .int (nI v1), .int (nI n1), .int (nI w1)].toArray below meth c H locs 0 0 (MQ below ((q_X5_mostWorth D Y ta tm gt hol m1 v1 n1 w1) A) [.ref ta, .int (nI hol), .int (nI m1), .int (nI v1), .int (nI n1), .int (nI w1)].toArray s 0 0 A) (F0 m 104 ls []) := by
          intro gy hg2 H locs ls hP hD hS hl
          have hby : ∀ j, j ≤ k + 1 → gy j ≤ 99 * j := fun j hj => by rw [hg2]; unfold twS; split; by_cases e9 : j = k + 1; rw [e9, uN_s, ← hg, uN_s]; have h1 := hb9 (k + 1 - m1) (by omega); have h2 := hbd k (by omega); unfold mxN; split <;> omega; rw [uN_n _ _ e9, ← hg]; exact hb9 j hj; rw [← hg]; exact hb9 j hj
          have L154 : ∀ (gx : Nat → Nat) (hg3 : gx = tbS hol m1 v1 n1 w1 gt (k + 1)) (H : Heap) (locs : List Loc) (ls : Array Slot), va_P D vwCl [(ta, .inr (5, [.ref tm])), (tm, .inl (Y 0, 17, .inl (aN gx)))] H → va_D A [(ta, .inr (5, [.ref tm])), (tm, .inl (Y 0, 17, .inl (aN gx)))] → va_S A s.heap H locs → lv_has ls 9 [(7, .int (nI k)), (8, .int (nI (k + 1))), (6, .int (nI rn2)), (0, .ref ta), (1, .int (nI hol)), (2, .int (nI m1)), (3, .int (nI v1)), (4, .int (nI n1)), (5, .int (nI w1))] → W p l e (mv_R 1 0 0) s m [.ref ta, .int (nI hol), .int (nI m1), .int (nI v1), .int (nI n1), .int (nI w1)].toArray below meth c H locs 0 0 (MQ below ((q_X5_mostWorth D Y ta tm gt hol m1 v1 n1 w1) A) [.ref ta, .int (nI hol), .int (nI m1), .int (nI v1), .int (nI n1), .int (nI w1)].toArray s 0 0 A) (F0 m 154 ls []) := by
            intro gx hg3 H locs ls hP hD hS hl
            refine lv_iinc (v := nI (k + 1)) (lv' := [(7, .int (nI (k + 1))), (8, .int (nI (k + 1))), (6, .int (nI rn2)), (0, .ref ta), (1, .int (nI hol)), (2, .int (nI m1)), (3, .int (nI v1)), (4, .int (nI n1)), (5, .int (nI w1))]) hx hb dX5_mostWorth_154 hl (k := 0) rfl (by exact nI_add _ 1) (by decide) rfl (fun ls hl => ?_)
            refine lv_goto (tgt := 13) hx hb dX5_mostWorth_157 (by decide) ?_
            exact L13ih  (k + 1) rn2 gx (by first | assumption | omega | rfl) (hrn) (hg3) (by omega) _ _ _ hP hD hS (lv_sub hl [0, 2, 3, 4, 5, 6, 7, 8] rfl)
          refine lv_iconst (v := nI 0) hx hb dX5_mostWorth_104 (by decide) ?_
          refine lv_iload hx hb dX5_mostWorth_105 (lv_at hl 7 rfl) ?_
          refine mv_icmp_ge (tgt := 154) hx hb (by first | omega | exact Nat.lt_trans (Nat.mod_lt _ (by decide)) (by decide) | (have := hb9 (k + 1) (by omega); omega) | (have := hby (k + 1) (by omega); omega)) (by first | omega | (have := hb9 (k + 1 - m1) (by omega); omega) | (have := hby (k + 1 - n1) (by omega); omega)) dX5_mostWorth_107 (by decide) (fun c107 => ?_) (fun c107 => ?_)
          · skip
            exfalso; omega
          · skip
            refine lv_iload hx hb dX5_mostWorth_110 (lv_at hl 7 rfl) ?_
            refine lv_iload hx hb dX5_mostWorth_112 (lv_at hl 2 rfl) ?_
            refine mv_icmp_gt (tgt := 154) hx hb (by first | omega | exact Nat.lt_trans (Nat.mod_lt _ (by decide)) (by decide) | (have := hb9 (k + 1) (by omega); omega) | (have := hby (k + 1) (by omega); omega)) (by first | omega | (have := hb9 (k + 1 - m1) (by omega); omega) | (have := hby (k + 1 - n1) (by omega); omega)) dX5_mostWorth_114 (by decide) (fun c114 => ?_) (fun c114 => ?_)
            · skip
              exact L154  gy (by rw [tbS, ← hg2, twS, if_neg (by omega)]) _ _ _ hP hD hS (lv_sub hl [0, 1, 2, 3, 4, 5, 6, 7, 8] rfl)
            · skip
              refine lv_iload hx hb dX5_mostWorth_117 (lv_at hl 7 rfl) ?_
              refine lv_iload hx hb dX5_mostWorth_119 (lv_at hl 1 rfl) ?_
              refine mv_icmp_gt (tgt := 154) hx hb (by first | omega | exact Nat.lt_trans (Nat.mod_lt _ (by decide)) (by decide) | (have := hb9 (k + 1) (by omega); omega) | (have := hby (k + 1) (by omega); omega)) (by first | omega | (have := hb9 (k + 1 - m1) (by omega); omega) | (have := hby (k + 1 - n1) (by omega); omega)) dX5_mostWorth_121 (by decide) (fun c121 => ?_) (fun c121 => ?_)
              · skip
                exfalso; omega
              · skip
                refine lv_aload_n hx hb dX5_mostWorth_124 rfl (lv_at hl 3 rfl) ?_
                refine va_get (D := D) (ci := 5) (v := .ref tm) (C := RX5) (T := TX5) (N := 1) hx hb hts inlX5 hown hK hP 0 rfl rfl 0 (by decide) (hts _ mw_68) (fun _ h9 => h9) rfl dX5_mostWorth_125 ?_
                refine lv_iload hx hb dX5_mostWorth_128 (lv_at hl 1 rfl) ?_
                refine lv_aload_n hx hb dX5_mostWorth_130 rfl (lv_at hl 3 rfl) ?_
                refine va_get (D := D) (ci := 5) (v := .ref tm) (C := RX5) (T := TX5) (N := 1) hx hb hts inlX5 hown hK hP 0 rfl rfl 0 (by decide) (hts _ mw_68) (fun _ h9 => h9) rfl dX5_mostWorth_131 ?_
                refine lv_iload hx hb dX5_mostWorth_134 (lv_at hl 1 rfl) ?_
                refine mv_iald hx hb hK hP 1 rfl (i := k + 1) (by omega) (by decide) dX5_mostWorth_136 ?_
                refine lv_aload_n hx hb dX5_mostWorth_137 rfl (lv_at hl 3 rfl) ?_
                refine va_get (D := D) (ci := 5) (v := .ref tm) (C := RX5) (T := TX5) (N := 1) hx hb hts inlX5 hown hK hP 0 rfl rfl 0 (by decide) (hts _ mw_68) (fun _ h9 => h9) rfl dX5_mostWorth_138 ?_
                refine lv_iload hx hb dX5_mostWorth_141 (lv_at hl 1 rfl) ?_
                refine lv_iload hx hb dX5_mostWorth_143 (lv_at hl 7 rfl) ?_
                refine mv_isub hx hb (by omega) dX5_mostWorth_145 ?_
                refine mv_iald hx hb hK hP 1 rfl (i := (k + 1) - n1) (by omega) (by decide) dX5_mostWorth_146 ?_
                refine lv_iload hx hb dX5_mostWorth_147 (lv_at hl 8 rfl) ?_
                refine mv_iadd hx hb dX5_mostWorth_149 ?_
                refine mv_max hx hb (by rw [hml]; exact hl.1.symm) hown (hts _ mw_448) (hts _ mw_302) (hts _ mw_303) (hts _ mw_304) (Nat.le_of_ble_eq_true rfl) (Nat.le_of_ble_eq_true rfl) (Nat.le_of_ble_eq_true rfl) (Nat.le_of_ble_eq_true rfl) (by first | omega | exact Nat.lt_trans (Nat.mod_lt _ (by decide)) (by decide) | (have := hb9 (k + 1) (by omega); omega) | (have := hby (k + 1) (by omega); omega)) (by first | omega | (have := hb9 (k + 1 - m1) (by omega); omega) | (have := hby (k + 1 - n1) (by omega); omega)) dX5_mostWorth_150 ?_
                refine mv_iast hx hb hK hP hD hS 1 rfl (i := k + 1) (v := mxN (gy (k + 1)) ((gy ((k + 1) - n1)) + w1)) (by omega) (by decide) dX5_mostWorth_153 (fun H locs hP hD hS => ?_)
                have hP : va_P D vwCl [(ta, .inr (5, [.ref tm])), (tm, .inl (Y 0, 17, .inl (aN (uN gy (k + 1) (mxN (gy (k + 1)) ((gy ((k + 1) - n1)) + w1))))))] H := hP
                have hD : va_D A [(ta, .inr (5, [.ref tm])), (tm, .inl (Y 0, 17, .inl (aN (uN gy (k + 1) (mxN (gy (k + 1)) ((gy ((k + 1) - n1)) + w1))))))] := hD
                exact L154  (uN gy (k + 1) (mxN (gy (k + 1)) ((gy ((k + 1) - n1)) + w1))) (by rw [tbS, ← hg2, twS, if_pos (by omega)]) _ _ _ hP hD hS (lv_sub hl [0, 1, 2, 3, 4, 5, 6, 7, 8] rfl)
        refine lv_istore (lv' := [(6, .int (nI rn2)), (7, .int (nI k)), (8, .int (nI (k + 1))), (0, .ref ta), (1, .int (nI hol)), (2, .int (nI m1)), (3, .int (nI v1)), (4, .int (nI n1)), (5, .int (nI w1))]) hx hb dX5_mostWorth_43 hl (by decide) rfl (fun ls hl => ?_)
        refine lv_aload_n hx hb dX5_mostWorth_45 rfl (lv_at hl 3 rfl) ?_
        refine va_get (D := D) (ci := 5) (v := .ref tm) (C := RX5) (T := TX5) (N := 1) hx hb hts inlX5 hown hK hP 0 rfl rfl 0 (by decide) (hts _ mw_68) (fun _ h9 => h9) rfl dX5_mostWorth_46 ?_
        refine lv_iload hx hb dX5_mostWorth_49 (lv_at hl 2 rfl) ?_
        refine lv_aload_n hx hb dX5_mostWorth_51 rfl (lv_at hl 3 rfl) ?_
        refine va_get (D := D) (ci := 5) (v := .ref tm) (C := RX5) (T := TX5) (N := 1) hx hb hts inlX5 hown hK hP 0 rfl rfl 0 (by decide) (hts _ mw_68) (fun _ h9 => h9) rfl dX5_mostWorth_52 ?_
        refine lv_iload hx hb dX5_mostWorth_55 (lv_at hl 1 rfl) ?_
        refine mv_iald hx hb hK hP 1 rfl (i := k) (by omega) (by decide) dX5_mostWorth_57 ?_
        refine mv_iast hx hb hK hP hD hS 1 rfl (i := k + 1) (v := gz k) (by omega) (by decide) dX5_mostWorth_58 (fun H locs hP hD hS => ?_)
        have hP : va_P D vwCl [(ta, .inr (5, [.ref tm])), (tm, .inl (Y 0, 17, .inl (aN (uN gz (k + 1) (gz k)))))] H := hP
        have hD : va_D A [(ta, .inr (5, [.ref tm])), (tm, .inl (Y 0, 17, .inl (aN (uN gz (k + 1) (gz k)))))] := hD
        refine lv_iconst (v := nI 0) hx hb dX5_mostWorth_59 (by decide) ?_
        refine lv_iload_n hx hb dX5_mostWorth_60 rfl (lv_at hl 5 rfl) ?_
        refine mv_icmp_ge (tgt := 104) hx hb (by first | omega | exact Nat.lt_trans (Nat.mod_lt _ (by decide)) (by decide) | (have := hb9 (k + 1) (by omega); omega) | (have := hby (k + 1) (by omega); omega)) (by first | omega | (have := hb9 (k + 1 - m1) (by omega); omega) | (have := hby (k + 1 - n1) (by omega); omega)) dX5_mostWorth_61 (by decide) (fun c61 => ?_) (fun c61 => ?_)
        · skip
          exfalso; omega
        · skip
          refine lv_iload_n hx hb dX5_mostWorth_64 rfl (lv_at hl 5 rfl) ?_
          refine lv_iload hx hb dX5_mostWorth_65 (lv_at hl 0 rfl) ?_
          refine mv_icmp_gt (tgt := 104) hx hb (by first | omega | exact Nat.lt_trans (Nat.mod_lt _ (by decide)) (by decide) | (have := hb9 (k + 1) (by omega); omega) | (have := hby (k + 1) (by omega); omega)) (by first | omega | (have := hb9 (k + 1 - m1) (by omega); omega) | (have := hby (k + 1 - n1) (by omega); omega)) dX5_mostWorth_67 (by decide) (fun c67 => ?_) (fun c67 => ?_)
          · skip
            exact L104  (uN gz (k + 1) (gz k)) (by rw [twS, if_neg (by omega), hg]) _ _ _ hP hD hS (lv_sub hl [1, 2, 0, 3, 4, 5, 6, 7, 8] rfl)
          · skip
            refine lv_iload_n hx hb dX5_mostWorth_70 rfl (lv_at hl 5 rfl) ?_
            refine lv_iload hx hb dX5_mostWorth_71 (lv_at hl 2 rfl) ?_
            refine mv_icmp_gt (tgt := 104) hx hb (by first | omega | exact Nat.lt_trans (Nat.mod_lt _ (by decide)) (by decide) | (have := hb9 (k + 1) (by omega); omega) | (have := hby (k + 1) (by omega); omega)) (by first | omega | (have := hb9 (k + 1 - m1) (by omega); omega) | (have := hby (k + 1 - n1) (by omega); omega)) dX5_mostWorth_73 (by decide) (fun c73 => ?_) (fun c73 => ?_)
            · skip
              exfalso; omega
            · skip
              refine lv_aload_n hx hb dX5_mostWorth_76 rfl (lv_at hl 3 rfl) ?_
              refine va_get (D := D) (ci := 5) (v := .ref tm) (C := RX5) (T := TX5) (N := 1) hx hb hts inlX5 hown hK hP 0 rfl rfl 0 (by decide) (hts _ mw_68) (fun _ h9 => h9) rfl dX5_mostWorth_77 ?_
              refine lv_iload hx hb dX5_mostWorth_80 (lv_at hl 2 rfl) ?_
              refine lv_aload_n hx hb dX5_mostWorth_82 rfl (lv_at hl 3 rfl) ?_
              refine va_get (D := D) (ci := 5) (v := .ref tm) (C := RX5) (T := TX5) (N := 1) hx hb hts inlX5 hown hK hP 0 rfl rfl 0 (by decide) (hts _ mw_68) (fun _ h9 => h9) rfl dX5_mostWorth_83 ?_
              refine lv_iload hx hb dX5_mostWorth_86 (lv_at hl 2 rfl) ?_
              refine mv_iald hx hb hK hP 1 rfl (i := k + 1) (by omega) (by decide) dX5_mostWorth_88 ?_
              refine lv_aload_n hx hb dX5_mostWorth_89 rfl (lv_at hl 3 rfl) ?_
              refine va_get (D := D) (ci := 5) (v := .ref tm) (C := RX5) (T := TX5) (N := 1) hx hb hts inlX5 hown hK hP 0 rfl rfl 0 (by decide) (hts _ mw_68) (fun _ h9 => h9) rfl dX5_mostWorth_90 ?_
              refine lv_iload hx hb dX5_mostWorth_93 (lv_at hl 2 rfl) ?_
              refine lv_iload_n hx hb dX5_mostWorth_95 rfl (lv_at hl 5 rfl) ?_
              refine mv_isub hx hb (by omega) dX5_mostWorth_96 ?_
              refine mv_iald hx hb hK hP 1 rfl (i := (k + 1) - m1) (by omega) (by decide) dX5_mostWorth_97 ?_
              refine lv_iload_n hx hb dX5_mostWorth_98 rfl (lv_at hl 6 rfl) ?_
              refine mv_iadd hx hb dX5_mostWorth_99 ?_
              refine mv_max hx hb (by rw [hml]; exact hl.1.symm) hown (hts _ mw_448) (hts _ mw_302) (hts _ mw_303) (hts _ mw_304) (Nat.le_of_ble_eq_true rfl) (Nat.le_of_ble_eq_true rfl) (Nat.le_of_ble_eq_true rfl) (Nat.le_of_ble_eq_true rfl) (by first | omega | exact Nat.lt_trans (Nat.mod_lt _ (by decide)) (by decide) | (have := hb9 (k + 1) (by omega); omega) | (have := hby (k + 1) (by omega); omega)) (by first | omega | (have := hb9 (k + 1 - m1) (by omega); omega) | (have := hby (k + 1 - n1) (by omega); omega)) dX5_mostWorth_100 ?_
              refine mv_iast hx hb hK hP hD hS 1 rfl (i := k + 1) (v := mxN ((uN gz (k + 1) (gz k)) (k + 1)) (((uN gz (k + 1) (gz k)) ((k + 1) - m1)) + v1)) (by omega) (by decide) dX5_mostWorth_103 (fun H locs hP hD hS => ?_)
              have hP : va_P D vwCl [(ta, .inr (5, [.ref tm])), (tm, .inl (Y 0, 17, .inl (aN (uN (uN gz (k + 1) (gz k)) (k + 1) (mxN ((uN gz (k + 1) (gz k)) (k + 1)) (((uN gz (k + 1) (gz k)) ((k + 1) - m1)) + v1))))))] H := hP
              have hD : va_D A [(ta, .inr (5, [.ref tm])), (tm, .inl (Y 0, 17, .inl (aN (uN (uN gz (k + 1) (gz k)) (k + 1) (mxN ((uN gz (k + 1) (gz k)) (k + 1)) (((uN gz (k + 1) (gz k)) ((k + 1) - m1)) + v1))))))] := hD
              exact L104  (uN (uN gz (k + 1) (gz k)) (k + 1) (mxN ((uN gz (k + 1) (gz k)) (k + 1)) (((uN gz (k + 1) (gz k)) ((k + 1) - m1)) + v1))) (by rw [twS, if_pos (by omega), hg]) _ _ _ hP hD hS (lv_sub hl [1, 2, 0, 3, 4, 5, 6, 7, 8] rfl)
      refine lv_iload hx hb dX5_mostWorth_13 (lv_at hl 0 rfl) ?_
      refine lv_bipush (v := nI 16) hx hb dX5_mostWorth_15 (by decide) ?_
      refine mv_icmp_ge (tgt := 160) hx hb (by first | omega | exact Nat.lt_trans (Nat.mod_lt _ (by decide)) (by decide) | (have := hb9 (k + 1) (by omega); omega) | (have := hby (k + 1) (by omega); omega)) (by first | omega | (have := hb9 (k + 1 - m1) (by omega); omega) | (have := hby (k + 1 - n1) (by omega); omega)) dX5_mostWorth_17 (by decide) (fun c17 => ?_) (fun c17 => ?_)
      · skip
        refine lv_aload_n hx hb dX5_mostWorth_160 rfl (lv_at hl 2 rfl) ?_
        refine va_get (D := D) (ci := 5) (v := .ref tm) (C := RX5) (T := TX5) (N := 1) hx hb hts inlX5 hown hK hP 0 rfl rfl 0 (by decide) (hts _ mw_68) (fun _ h9 => h9) rfl dX5_mostWorth_161 ?_
        refine lv_bipush (v := nI 16) hx hb dX5_mostWorth_164 (by decide) ?_
        refine mv_iald hx hb hK hP 1 rfl (i := 16) (by omega) (by decide) dX5_mostWorth_166 ?_
        exact mv_iret hx hb hr hlocks () (by rw [hg, show k = 16 by omega]) (by rw [show tbS hol m1 v1 n1 w1 gt 16 = gz by rw [hg, show k = 16 by omega]]; exact hP) hK (by rw [show tbS hol m1 v1 n1 w1 gt 16 = gz by rw [hg, show k = 16 by omega]]; exact hD) hS dX5_mostWorth_167
      · skip
        refine lv_iload hx hb dX5_mostWorth_20 (lv_at hl 0 rfl) ?_
        refine lv_iconst (v := nI 1) hx hb dX5_mostWorth_22 (by decide) ?_
        refine mv_iadd hx hb dX5_mostWorth_23 ?_
        refine lv_istore (lv' := [(8, .int (nI (k + 1))), (7, .int (nI k)), (6, .int (nI rn)), (0, .ref ta), (1, .int (nI hol)), (2, .int (nI m1)), (3, .int (nI v1)), (4, .int (nI n1)), (5, .int (nI w1))]) hx hb dX5_mostWorth_24 hl (by decide) rfl (fun ls hl => ?_)
        refine lv_iload_n hx hb dX5_mostWorth_26 rfl (lv_at hl 4 rfl) ?_
        refine lv_iload hx hb dX5_mostWorth_27 (lv_at hl 1 rfl) ?_
        refine mv_ishr hx hb (by first | omega | exact Nat.lt_trans (Nat.mod_lt _ (by decide)) (by decide) | (have := hb9 (k + 1) (by omega); omega) | (have := hby (k + 1) (by omega); omega)) (by omega) dX5_mostWorth_29 ?_
        refine lv_iconst (v := nI 1) hx hb dX5_mostWorth_30 (by decide) ?_
        refine mv_iand1 hx hb dX5_mostWorth_31 ?_
        refine mv_if_ne (tgt := 42) hx hb (by first | omega | exact Nat.lt_trans (Nat.mod_lt _ (by decide)) (by decide) | (have := hb9 (k + 1) (by omega); omega) | (have := hby (k + 1) (by omega); omega)) dX5_mostWorth_32 (by decide) (fun c32 => ?_) (fun c32 => ?_)
        · skip
          refine lv_iconst (v := nI 0) hx hb dX5_mostWorth_42 (by decide) ?_
          exact L43  0 (by rw [runS, if_neg c32]) (by first | assumption | omega | rfl) _ _ _ hP hD hS (lv_sub hl [1, 0, 3, 4, 5, 6, 7, 8] rfl)
        · skip
          refine lv_iload hx hb dX5_mostWorth_35 (lv_at hl 2 rfl) ?_
          refine lv_iconst (v := nI 1) hx hb dX5_mostWorth_37 (by decide) ?_
          refine mv_iadd hx hb dX5_mostWorth_38 ?_
          refine lv_goto (tgt := 43) hx hb dX5_mostWorth_39 (by decide) ?_
          exact L43  (rn + 1) (by rw [runS, if_pos c32, hr2]) (by first | assumption | omega | rfl) _ _ _ hP hD hS (lv_sub hl [1, 0, 3, 4, 5, 6, 7, 8] rfl)
  refine lv_iconst (v := nI 0) hx hb dX5_mostWorth_0 (by decide) ?_
  refine lv_istore (lv' := [(6, .int (nI 0)), (0, .ref ta), (1, .int (nI hol)), (2, .int (nI m1)), (3, .int (nI v1)), (4, .int (nI n1)), (5, .int (nI w1))]) hx hb dX5_mostWorth_1 hl (by decide) rfl (fun ls hl => ?_)
  refine lv_aload_n hx hb dX5_mostWorth_3 rfl (lv_at hl 1 rfl) ?_
  refine va_get (D := D) (ci := 5) (v := .ref tm) (C := RX5) (T := TX5) (N := 1) hx hb hts inlX5 hown hK hP 0 rfl rfl 0 (by decide) (hts _ mw_68) (fun _ h9 => h9) rfl dX5_mostWorth_4 ?_
  refine lv_iconst (v := nI 0) hx hb dX5_mostWorth_7 (by decide) ?_
  refine lv_iconst (v := nI 0) hx hb dX5_mostWorth_8 (by decide) ?_
  refine mv_iast hx hb hK hP hD hS 1 rfl (i := 0) (v := 0) (by omega) (by decide) dX5_mostWorth_9 (fun H locs hP hD hS => ?_)
  have hP : va_P D vwCl [(ta, .inr (5, [.ref tm])), (tm, .inl (Y 0, 17, .inl (aN (uN gt 0 0))))] H := hP
  have hD : va_D A [(ta, .inr (5, [.ref tm])), (tm, .inl (Y 0, 17, .inl (aN (uN gt 0 0))))] := hD
  refine lv_iconst (v := nI 0) hx hb dX5_mostWorth_10 (by decide) ?_
  refine lv_istore (lv' := [(7, .int (nI 0)), (6, .int (nI 0)), (0, .ref ta), (1, .int (nI hol)), (2, .int (nI m1)), (3, .int (nI v1)), (4, .int (nI n1)), (5, .int (nI w1))]) hx hb dX5_mostWorth_11 hl (by decide) rfl (fun ls hl => ?_)
  exact L13 (16 - 0 + 1) 0 0 (uN gt 0 0) (by first | assumption | omega | rfl) (rfl) (rfl) (Nat.lt_succ_self _) _ _ _ hP hD hS (lv_sub hl [0, 1, 2, 3, 4, 5, 6, 7] rfl)
