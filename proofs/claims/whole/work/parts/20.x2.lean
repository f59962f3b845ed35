abbrev q_X2_isLetter (D : va_G) (Y : Nat → ClassId) (k : Nat) : (Nat → Prop) → Array Value → State → Outcome → State → Prop := mv_Qi D Y (fun (r : Int32) (_ : Unit) => r = nI (bN (isLt k))) (fun _ : Unit => ([] : va_W))
set_option maxHeartbeats 4000000 in
set_option maxRecDepth 100000 in
theorem c_X2_isLetter (l : Launch) (D : va_G) (Y : Nat → ClassId) (sz : Nat) (k : Nat) (hk : k < 2 ^ 31) : mv_C l D Y yX2_isLetter cX2_isLetter 1 (some .boolean) 0 0 0 [.int (nI k)] sz [] (q_X2_isLetter D Y k) := by
  refine mv_ofW (by decide) (Nat.le_of_ble_eq_true rfl) ?_
  intro p e s m below meth c ls A hx hb hr hlocks hml hnm hown hts hsz hAe hP hK hD hS hST hA hl
  have hl : lv_has ls 1 [(0, .int (nI k))] := hl
  refine lv_bipush (v := nI 65) hx hb dX2_isLetter_0 (by decide) ?_
  refine lv_iload_n hx hb dX2_isLetter_2 rfl (lv_at hl 0 rfl) ?_
  refine mv_icmp_gt (tgt := 16) hx hb (by omega) (by omega) dX2_isLetter_3 (by decide) (fun c3 => ?_) (fun c3 => ?_)
  · skip
    refine lv_iconst (v := nI 0) hx hb dX2_isLetter_16 (by decide) ?_
    exact mv_zret hx hb hr hlocks (by omega) () (bN_df (by omega)) hP hK hD hS dX2_isLetter_17
  · skip
    refine lv_iload_n hx hb dX2_isLetter_6 rfl (lv_at hl 0 rfl) ?_
    refine lv_bipush (v := nI 71) hx hb dX2_isLetter_7 (by decide) ?_
    refine mv_icmp_ge (tgt := 16) hx hb (by omega) (by omega) dX2_isLetter_9 (by decide) (fun c9 => ?_) (fun c9 => ?_)
    · skip
      refine lv_iconst (v := nI 0) hx hb dX2_isLetter_16 (by decide) ?_
      exact mv_zret hx hb hr hlocks (by omega) () (bN_df (by omega)) hP hK hD hS dX2_isLetter_17
    · skip
      refine lv_iconst (v := nI 1) hx hb dX2_isLetter_12 (by decide) ?_
      refine lv_goto (tgt := 17) hx hb dX2_isLetter_13 (by decide) ?_
      exact mv_zret hx hb hr hlocks (by omega) () (bN_dt (by omega)) hP hK hD hS dX2_isLetter_17
abbrev q_X2_isDigit (D : va_G) (Y : Nat → ClassId) (k : Nat) : (Nat → Prop) → Array Value → State → Outcome → State → Prop := mv_Qi D Y (fun (r : Int32) (_ : Unit) => r = nI (bN (isDg k))) (fun _ : Unit => ([] : va_W))
set_option maxHeartbeats 4000000 in
set_option maxRecDepth 100000 in
theorem c_X2_isDigit (l : Launch) (D : va_G) (Y : Nat → ClassId) (sz : Nat) (k : Nat) (hk : k < 2 ^ 31) : mv_C l D Y yX2_isDigit cX2_isDigit 1 (some .boolean) 0 0 0 [.int (nI k)] sz [] (q_X2_isDigit D Y k) := by
  refine mv_ofW (by decide) (Nat.le_of_ble_eq_true rfl) ?_
  intro p e s m below meth c ls A hx hb hr hlocks hml hnm hown hts hsz hAe hP hK hD hS hST hA hl
  have hl : lv_has ls 1 [(0, .int (nI k))] := hl
  refine lv_bipush (v := nI 48) hx hb dX2_isDigit_0 (by decide) ?_
  refine lv_iload_n hx hb dX2_isDigit_2 rfl (lv_at hl 0 rfl) ?_
  refine mv_icmp_gt (tgt := 16) hx hb (by omega) (by omega) dX2_isDigit_3 (by decide) (fun c3 => ?_) (fun c3 => ?_)
  · skip
    refine lv_iconst (v := nI 0) hx hb dX2_isDigit_16 (by decide) ?_
    exact mv_zret hx hb hr hlocks (by omega) () (bN_df (by omega)) hP hK hD hS dX2_isDigit_17
  · skip
    refine lv_iload_n hx hb dX2_isDigit_6 rfl (lv_at hl 0 rfl) ?_
    refine lv_bipush (v := nI 58) hx hb dX2_isDigit_7 (by decide) ?_
    refine mv_icmp_ge (tgt := 16) hx hb (by omega) (by omega) dX2_isDigit_9 (by decide) (fun c9 => ?_) (fun c9 => ?_)
    · skip
      refine lv_iconst (v := nI 0) hx hb dX2_isDigit_16 (by decide) ?_
      exact mv_zret hx hb hr hlocks (by omega) () (bN_df (by omega)) hP hK hD hS dX2_isDigit_17
    · skip
      refine lv_iconst (v := nI 1) hx hb dX2_isDigit_12 (by decide) ?_
      refine lv_goto (tgt := 17) hx hb dX2_isDigit_13 (by decide) ?_
      exact mv_zret hx hb hr hlocks (by omega) () (bN_dt (by omega)) hP hK hD hS dX2_isDigit_17
abbrev q_X2_isRobeAct (D : va_G) (Y : Nat → ClassId) (k : Nat) : (Nat → Prop) → Array Value → State → Outcome → State → Prop := mv_Qi D Y (fun (r : Int32) (_ : Unit) => r = nI (bN (isRa k))) (fun _ : Unit => ([] : va_W))
set_option maxHeartbeats 4000000 in
set_option maxRecDepth 100000 in
theorem c_X2_isRobeAct (l : Launch) (D : va_G) (Y : Nat → ClassId) (sz : Nat) (k : Nat) (hk : k < 2 ^ 31) : mv_C l D Y yX2_isRobeAct cX2_isRobeAct 1 (some .boolean) 0 0 0 [.int (nI k)] sz [] (q_X2_isRobeAct D Y k) := by
  refine mv_ofW (by decide) (Nat.le_of_ble_eq_true rfl) ?_
  intro p e s m below meth c ls A hx hb hr hlocks hml hnm hown hts hsz hAe hP hK hD hS hST hA hl
  have hl : lv_has ls 1 [(0, .int (nI k))] := hl
  refine lv_iload_n hx hb dX2_isRobeAct_0 rfl (lv_at hl 0 rfl) ?_
  refine lv_bipush (v := nI 60) hx hb dX2_isRobeAct_1 (by decide) ?_
  refine mv_icmp_eq (tgt := 24) hx hb (by omega) (by omega) dX2_isRobeAct_3 (by decide) (fun c3 => ?_) (fun c3 => ?_)
  · skip
    refine lv_iconst (v := nI 1) hx hb dX2_isRobeAct_24 (by decide) ?_
    refine lv_goto (tgt := 29) hx hb dX2_isRobeAct_25 (by decide) ?_
    exact mv_zret hx hb hr hlocks (by omega) () (bN_dt (by omega)) hP hK hD hS dX2_isRobeAct_29
  · skip
    refine lv_iload_n hx hb dX2_isRobeAct_6 rfl (lv_at hl 0 rfl) ?_
    refine lv_bipush (v := nI 62) hx hb dX2_isRobeAct_7 (by decide) ?_
    refine mv_icmp_eq (tgt := 24) hx hb (by omega) (by omega) dX2_isRobeAct_9 (by decide) (fun c9 => ?_) (fun c9 => ?_)
    · skip
      refine lv_iconst (v := nI 1) hx hb dX2_isRobeAct_24 (by decide) ?_
      refine lv_goto (tgt := 29) hx hb dX2_isRobeAct_25 (by decide) ?_
      exact mv_zret hx hb hr hlocks (by omega) () (bN_dt (by omega)) hP hK hD hS dX2_isRobeAct_29
    · skip
      refine lv_iload_n hx hb dX2_isRobeAct_12 rfl (lv_at hl 0 rfl) ?_
      refine lv_bipush (v := nI 43) hx hb dX2_isRobeAct_13 (by decide) ?_
      refine mv_icmp_eq (tgt := 24) hx hb (by omega) (by omega) dX2_isRobeAct_15 (by decide) (fun c15 => ?_) (fun c15 => ?_)
      · skip
        refine lv_iconst (v := nI 1) hx hb dX2_isRobeAct_24 (by decide) ?_
        refine lv_goto (tgt := 29) hx hb dX2_isRobeAct_25 (by decide) ?_
        exact mv_zret hx hb hr hlocks (by omega) () (bN_dt (by omega)) hP hK hD hS dX2_isRobeAct_29
      · skip
        refine lv_iload_n hx hb dX2_isRobeAct_18 rfl (lv_at hl 0 rfl) ?_
        refine lv_bipush (v := nI 47) hx hb dX2_isRobeAct_19 (by decide) ?_
        refine mv_icmp_ne (tgt := 28) hx hb (by omega) (by omega) dX2_isRobeAct_21 (by decide) (fun c21 => ?_) (fun c21 => ?_)
        · skip
          refine lv_iconst (v := nI 0) hx hb dX2_isRobeAct_28 (by decide) ?_
          exact mv_zret hx hb hr hlocks (by omega) () (bN_df (by omega)) hP hK hD hS dX2_isRobeAct_29
        · skip
          refine lv_iconst (v := nI 1) hx hb dX2_isRobeAct_24 (by decide) ?_
          refine lv_goto (tgt := 29) hx hb dX2_isRobeAct_25 (by decide) ?_
          exact mv_zret hx hb hr hlocks (by omega) () (bN_dt (by omega)) hP hK hD hS dX2_isRobeAct_29
abbrev q_X2_add (D : va_G) (Y : Nat → ClassId) (pa : Nat) (ps : Nat) (cnt : Nat) (g : Nat → Nat) (k : Nat) : (Nat → Prop) → Array Value → State → Outcome → State → Prop := mv_Qv D Y (fun (_ : Unit) => True) (fun _ : Unit => ([(pa, .inr (2, [.ref ps, .int (nI (cnt + 1))])), (ps, .inl (Y 0, 60, .inl (aN (uN g cnt k))))] : va_W))
set_option maxHeartbeats 4000000 in
set_option maxRecDepth 100000 in
theorem c_X2_add (l : Launch) (D : va_G) (Y : Nat → ClassId) (sz : Nat) (pa : Nat) (ps : Nat) (cnt : Nat) (g : Nat → Nat) (k : Nat) (hcnt : cnt < 60) : mv_C l D Y yX2_add cX2_add 2 none 0 0 0 [.ref pa, .int (nI k)] sz [(pa, .inr (2, [.ref ps, .int (nI cnt)])), (ps, .inl (Y 0, 60, .inl (aN g)))] (q_X2_add D Y pa ps cnt g k) := by
  refine mv_ofW (by decide) (Nat.le_of_ble_eq_true rfl) ?_
  intro p e s m below meth c ls A hx hb hr hlocks hml hnm hown hts hsz hAe hP hK hD hS hST hA hl
  have hl : lv_has ls 2 [(0, .ref pa), (1, .int (nI k))] := hl
  refine lv_aload_n hx hb dX2_add_0 rfl (lv_at hl 0 rfl) ?_
  refine va_get (D := D) (ci := 2) (v := .int (nI cnt)) (C := RX2) (T := TX2) (N := 2) hx hb hts inlX2 hown hK hP 0 rfl rfl 1 (by decide) (hts _ mw_162) (fun _ h9 => h9) rfl dX2_add_1 ?_
  refine lv_bipush (v := nI 60) hx hb dX2_add_4 (by decide) ?_
  refine mv_icmp_ge (tgt := 29) hx hb (by omega) (by omega) dX2_add_6 (by decide) (fun c6 => ?_) (fun c6 => ?_)
  · skip
    exfalso; omega
  · skip
    refine lv_aload_n hx hb dX2_add_9 rfl (lv_at hl 0 rfl) ?_
    refine va_get (D := D) (ci := 2) (v := .ref ps) (C := RX2) (T := TX2) (N := 2) hx hb hts inlX2 hown hK hP 0 rfl rfl 0 (by decide) (hts _ mw_55) (fun _ h9 => h9) rfl dX2_add_10 ?_
    refine lv_aload_n hx hb dX2_add_13 rfl (lv_at hl 0 rfl) ?_
    refine va_get (D := D) (ci := 2) (v := .int (nI cnt)) (C := RX2) (T := TX2) (N := 2) hx hb hts inlX2 hown hK hP 0 rfl rfl 1 (by decide) (hts _ mw_162) (fun _ h9 => h9) rfl dX2_add_14 ?_
    refine lv_iload_n hx hb dX2_add_17 rfl (lv_at hl 1 rfl) ?_
    refine mv_iast hx hb hK hP hD hS 1 rfl (i := cnt) (v := k) (by omega) (by decide) dX2_add_18 (fun H locs hP hD hS => ?_)
    have hP : va_P D vwCl [(pa, .inr (2, [.ref ps, .int (nI cnt)])), (ps, .inl (Y 0, 60, .inl (aN (uN g cnt k))))] H := hP
    have hD : va_D A [(pa, .inr (2, [.ref ps, .int (nI cnt)])), (ps, .inl (Y 0, 60, .inl (aN (uN g cnt k))))] := hD
    refine lv_aload_n hx hb dX2_add_19 rfl (lv_at hl 0 rfl) ?_
    refine lv_dup hx hb dX2_add_20 rfl ?_
    refine va_get (D := D) (ci := 2) (v := .int (nI cnt)) (C := RX2) (T := TX2) (N := 2) hx hb hts inlX2 hown hK hP 0 rfl rfl 1 (by decide) (hts _ mw_162) (fun _ h9 => h9) rfl dX2_add_21 ?_
    refine lv_iconst (v := nI 1) hx hb dX2_add_24 (by decide) ?_
    refine mv_iadd hx hb dX2_add_25 ?_
    refine va_put (D := D) (ci := 2) (v := .int (nI (cnt + 1))) (ty := .int) (C := RX2) (T := TX2) (N := 2) hx hb hts inlX2 tyX2 tyX2_ok nmX2 hown hK hP hD hS 0 rfl rfl 1 (by decide) (hts _ mw_162) (fun _ h9 => h9) rfl (by decide +kernel) rfl rfl (Nat.le_of_ble_eq_true rfl) dX2_add_26 (fun H locs hP hD hS => ?_)
    have hP : va_P D vwCl [(pa, .inr (2, [.ref ps, .int (nI (cnt + 1))])), (ps, .inl (Y 0, 60, .inl (aN (uN g cnt k))))] H := hP
    have hD : va_D A [(pa, .inr (2, [.ref ps, .int (nI (cnt + 1))])), (ps, .inl (Y 0, 60, .inl (aN (uN g cnt k))))] := hD
    exact mv_vret hx hb hr hlocks () (trivial) hP hK hD hS dX2_add_29
abbrev q_X2_signAt (D : va_G) (Y : Nat → ClassId) (pa : Nat) (ps : Nat) (cnt : Nat) (g : Nat → Nat) (k : Nat) : (Nat → Prop) → Array Value → State → Outcome → State → Prop := mv_Qi D Y (fun (r : Int32) (_ : Unit) => r = nI (sgn g cnt k)) (fun _ : Unit => ([(pa, .inr (2, [.ref ps, .int (nI cnt)])), (ps, .inl (Y 0, 60, .inl (aN g)))] : va_W))
set_option maxHeartbeats 4000000 in
set_option maxRecDepth 100000 in
theorem c_X2_signAt (l : Launch) (D : va_G) (Y : Nat → ClassId) (sz : Nat) (pa : Nat) (ps : Nat) (cnt : Nat) (g : Nat → Nat) (k : Nat) (hcnt : cnt ≤ 60) (hg : ∀ k, k < cnt → g k < 128) (hk : k < 2 ^ 31) : mv_C l D Y yX2_signAt cX2_signAt 2 (some .int) 0 0 0 [.ref pa, .int (nI k)] sz [(pa, .inr (2, [.ref ps, .int (nI cnt)])), (ps, .inl (Y 0, 60, .inl (aN g)))] (q_X2_signAt D Y pa ps cnt g k) := by
  refine mv_ofW (by decide) (Nat.le_of_ble_eq_true rfl) ?_
  intro p e s m below meth c ls A hx hb hr hlocks hml hnm hown hts hsz hAe hP hK hD hS hST hA hl
  have hl : lv_has ls 2 [(0, .ref pa), (1, .int (nI k))] := hl
  refine lv_iconst (v := nI 0) hx hb dX2_signAt_0 (by decide) ?_
  refine lv_iload_n hx hb dX2_signAt_1 rfl (lv_at hl 1 rfl) ?_
  refine mv_icmp_gt (tgt := 28) hx hb (by omega) (by omega) dX2_signAt_2 (by decide) (fun c2 => ?_) (fun c2 => ?_)
  · skip
    exfalso; omega
  · skip
    refine lv_iload_n hx hb dX2_signAt_5 rfl (lv_at hl 1 rfl) ?_
    refine lv_aload_n hx hb dX2_signAt_6 rfl (lv_at hl 0 rfl) ?_
    refine va_get (D := D) (ci := 2) (v := .int (nI cnt)) (C := RX2) (T := TX2) (N := 2) hx hb hts inlX2 hown hK hP 0 rfl rfl 1 (by decide) (hts _ mw_162) (fun _ h9 => h9) rfl dX2_signAt_7 ?_
    refine mv_icmp_ge (tgt := 28) hx hb (by omega) (by omega) dX2_signAt_10 (by decide) (fun c10 => ?_) (fun c10 => ?_)
    · skip
      refine lv_iconst (v := nI 0) hx hb dX2_signAt_28 (by decide) ?_
      exact mv_iret hx hb hr hlocks () (by unfold sgn; first | rw [if_pos (by omega)] | rw [if_neg (by omega)]) hP hK hD hS dX2_signAt_29
    · skip
      refine lv_iload_n hx hb dX2_signAt_13 rfl (lv_at hl 1 rfl) ?_
      refine lv_bipush (v := nI 60) hx hb dX2_signAt_14 (by decide) ?_
      refine mv_icmp_ge (tgt := 28) hx hb (by omega) (by omega) dX2_signAt_16 (by decide) (fun c16 => ?_) (fun c16 => ?_)
      · skip
        exfalso; omega
      · skip
        refine lv_aload_n hx hb dX2_signAt_19 rfl (lv_at hl 0 rfl) ?_
        refine va_get (D := D) (ci := 2) (v := .ref ps) (C := RX2) (T := TX2) (N := 2) hx hb hts inlX2 hown hK hP 0 rfl rfl 0 (by decide) (hts _ mw_55) (fun _ h9 => h9) rfl dX2_signAt_20 ?_
        refine lv_iload_n hx hb dX2_signAt_23 rfl (lv_at hl 1 rfl) ?_
        refine mv_iald hx hb hK hP 1 rfl (i := k) (by omega) (by decide) dX2_signAt_24 ?_
        refine lv_goto (tgt := 29) hx hb dX2_signAt_25 (by decide) ?_
        exact mv_iret hx hb hr hlocks () (by unfold sgn; first | rw [if_pos (by omega)] | rw [if_neg (by omega)]) hP hK hD hS dX2_signAt_29
abbrev q_X2_firstFault (D : va_G) (Y : Nat → ClassId) (pa : Nat) (ps : Nat) (cnt : Nat) (g : Nat → Nat) : (Nat → Prop) → Array Value → State → Outcome → State → Prop := mv_Qi D Y (fun (r : Int32) (_ : Unit) => r = oI (flt g cnt 61 0)) (fun _ : Unit => ([(pa, .inr (2, [.ref ps, .int (nI cnt)])), (ps, .inl (Y 0, 60, .inl (aN g)))] : va_W))
set_option maxHeartbeats 4000000 in
set_option maxRecDepth 100000 in
theorem c_X2_firstFault (l : Launch) (D : va_G) (Y : Nat → ClassId) (sz : Nat) (pa : Nat) (ps : Nat) (cnt : Nat) (g : Nat → Nat) (hcnt : cnt ≤ 60) (hg : ∀ k, k < cnt → g k < 128) : mv_C l D Y yX2_firstFault cX2_firstFault 3 (some .int) 1 0 0 [.ref pa] sz [(pa, .inr (2, [.ref ps, .int (nI cnt)])), (ps, .inl (Y 0, 60, .inl (aN g)))] (q_X2_firstFault D Y pa ps cnt g) := by
  refine mv_ofW (by decide) (Nat.le_of_ble_eq_true rfl) ?_
  intro p e s m below meth c ls A hx hb hr hlocks hml hnm hown hts hsz hAe hP hK hD hS hST hA hl
  have hl : lv_has ls 3 [(0, .ref pa)] := hl
  have L2 : ∀ (fu : Nat) (k : Nat) (n : Nat) (hn : cnt < k + n) (hk : k ≤ 61) (hf : flt g cnt n k = flt g cnt 61 0) (hmeas : n < fu) (H : Heap) (locs : List Loc) (ls : Array Slot), va_P D vwCl [(pa, .inr (2, [.ref ps, .int (nI cnt)])), (ps, .inl (Y 0, 60, .inl (aN g)))] H → va_D A [(pa, .inr (2, [.ref ps, .int (nI cnt)])), (ps, .inl (Y 0, 60, .inl (aN g)))] → va_S A s.heap H locs → lv_has ls 3 [(1, .int (nI k)), (0, .ref pa)] → W p l e (mv_R 1 0 0) s m [.ref pa].toArray below meth c H locs 0 0 (MQ below ((q_X2_firstFault D Y pa ps cnt g) A) [.ref pa].toArray s 0 0 A) (F0 m 2 ls []) := by
    intro fu
    induction fu with
    | zero =>
      intro k n hn hk hf hmeas
      exact absurd hmeas (Nat.not_lt_zero _)
    | succ fu L2ih =>
      intro k n hn hk hf hmeas H locs ls hP hD hS hl
      refine lv_iload_n hx hb dX2_firstFault_2 rfl (lv_at hl 0 rfl) ?_
      refine lv_aload_n hx hb dX2_firstFault_3 rfl (lv_at hl 1 rfl) ?_
      refine va_get (D := D) (ci := 2) (v := .int (nI cnt)) (C := RX2) (T := TX2) (N := 2) hx hb hts inlX2 hown hK hP 0 rfl rfl 1 (by decide) (hts _ mw_162) (fun _ h9 => h9) rfl dX2_firstFault_4 ?_
      refine mv_icmp_ge (tgt := 66) hx hb (by first | omega | exact Nat.lt_trans (bN_lt _) (by decide)) (by omega) dX2_firstFault_7 (by decide) (fun c7 => ?_) (fun c7 => ?_)
      · skip
        refine lv_bipush (v := -6) hx hb dX2_firstFault_66 (by decide) ?_
        exact mv_iret hx hb hr hlocks () (by cases n with | zero => rw [← hf]; rfl | succ n => rw [← hf, flt, if_neg (by omega)]; rfl) hP hK hD hS dX2_firstFault_68
      · skip
        obtain ⟨n2, rfl⟩ : ∃ z, n = z + 1 := ⟨n - 1, by omega⟩
        have hs : sgn g cnt k = g k := if_pos (by omega)
        have hs2 : sgn g cnt k < 128 := by rw [hs]; exact hg k c7
        have hs3 : sgn g cnt (k + 1) < 128 := by unfold sgn; split <;> first | exact hg _ (by assumption) | decide
        refine lv_aload_n hx hb dX2_firstFault_10 rfl (lv_at hl 1 rfl) ?_
        refine lv_iload_n hx hb dX2_firstFault_11 rfl (lv_at hl 0 rfl) ?_
        refine mv_callVi (nA := 1) (As := [.int (nI k)]) (rest := []) (Wc := [(pa, .inr (2, [.ref ps, .int (nI cnt)])), (ps, .inl (Y 0, 60, .inl (aN g)))]) (wr := []) hx hb hml hown hts hK hP hD hS hST hA hl.1 (c_X2_signAt l D Y _ pa ps cnt g k (by first | assumption | omega | rfl) (by first | assumption | omega | rfl) (by first | assumption | omega | rfl)) [0, 1] [] rfl rfl (by decide) (by decide) (by decide) rfl 0 rfl rfl rfl mw_184 mw_185 mw_186 mw_18 mw_187 ⟨by decide, by decide, by decide +kernel⟩ rfl ⟨Nat.le_of_ble_eq_true rfl, Nat.le_of_ble_eq_true rfl⟩ rfl (Nat.le_of_ble_eq_true rfl) dX2_firstFault_12 ⟨Nat.le_of_ble_eq_true rfl, Nat.le_of_ble_eq_true rfl⟩ (fun r_1 u H locs hr12 hP hD hS hz12 => ?_)
        have hP := hP.sub (ws' := [(pa, .inr (2, [.ref ps, .int (nI cnt)])), (ps, .inl (Y 0, 60, .inl (aN g)))]) [0, 1] rfl
        have hD := hD.sub (ws' := [(pa, .inr (2, [.ref ps, .int (nI cnt)])), (ps, .inl (Y 0, 60, .inl (aN g)))]) [0, 1] (by decide) rfl
        have hr12 : r_1 = nI (sgn g cnt k) := hr12
        subst hr12
        refine lv_istore_n (lv' := [(2, .int (nI (sgn g cnt k))), (1, .int (nI k)), (0, .ref pa)]) hx hb dX2_firstFault_15 rfl hl (by decide) rfl (fun ls hl => ?_)
        refine lv_iload_n hx hb dX2_firstFault_16 rfl (lv_at hl 0 rfl) ?_
        refine mv_callSi (nA := 1) (As := [.int (nI (sgn g cnt k))]) (rest := []) (Wc := []) (wr := [(pa, .inr (2, [.ref ps, .int (nI cnt)])), (ps, .inl (Y 0, 60, .inl (aN g)))]) hx hb hml hown hts hK hP hD hS hST hA hl.1 (c_X2_isLetter l D Y _ (sgn g cnt k) (by first | assumption | omega | rfl)) [] [0, 1] rfl rfl (by decide) (by decide) (by decide) rfl mw_188 mw_189 mw_18 mw_190 ⟨by decide, by decide, by decide +kernel⟩ rfl ⟨Nat.le_of_ble_eq_true rfl, Nat.le_of_ble_eq_true rfl⟩ rfl (Nat.le_of_ble_eq_true rfl) dX2_firstFault_17 ⟨Nat.le_of_ble_eq_true rfl, Nat.le_of_ble_eq_true rfl⟩ (fun r_2 u H locs hr17 hP hD hS hz17 => ?_)
        have hP := hP.sub (ws' := [(pa, .inr (2, [.ref ps, .int (nI cnt)])), (ps, .inl (Y 0, 60, .inl (aN g)))]) [0, 1] rfl
        have hD := hD.sub (ws' := [(pa, .inr (2, [.ref ps, .int (nI cnt)])), (ps, .inl (Y 0, 60, .inl (aN g)))]) [0, 1] (by decide) rfl
        have hr17 : r_2 = nI (bN (isLt (sgn g cnt k))) := hr17
        subst hr17
        refine mv_if_eq (tgt := 39) hx hb (by first | omega | exact Nat.lt_trans (bN_lt _) (by decide)) dX2_firstFault_20 (by decide) (fun c20 => ?_) (fun c20 => ?_)
        · skip
          refine lv_iload_n hx hb dX2_firstFault_39 rfl (lv_at hl 0 rfl) ?_
          refine mv_callSi (nA := 1) (As := [.int (nI (sgn g cnt k))]) (rest := []) (Wc := []) (wr := [(pa, .inr (2, [.ref ps, .int (nI cnt)])), (ps, .inl (Y 0, 60, .inl (aN g)))]) hx hb hml hown hts hK hP hD hS hST hA hl.1 (c_X2_isDigit l D Y _ (sgn g cnt k) (by first | assumption | omega | rfl)) [] [0, 1] rfl rfl (by decide) (by decide) (by decide) rfl mw_194 mw_195 mw_18 mw_196 ⟨by decide, by decide, by decide +kernel⟩ rfl ⟨Nat.le_of_ble_eq_true rfl, Nat.le_of_ble_eq_true rfl⟩ rfl (Nat.le_of_ble_eq_true rfl) dX2_firstFault_40 ⟨Nat.le_of_ble_eq_true rfl, Nat.le_of_ble_eq_true rfl⟩ (fun r_3 u H locs hr40 hP hD hS hz40 => ?_)
          have hP := hP.sub (ws' := [(pa, .inr (2, [.ref ps, .int (nI cnt)])), (ps, .inl (Y 0, 60, .inl (aN g)))]) [0, 1] rfl
          have hD := hD.sub (ws' := [(pa, .inr (2, [.ref ps, .int (nI cnt)])), (ps, .inl (Y 0, 60, .inl (aN g)))]) [0, 1] (by decide) rfl
          have hr40 : r_3 = nI (bN (isDg (sgn g cnt k))) := hr40
          subst hr40
          refine mv_if_ne (tgt := 60) hx hb (by first | omega | exact Nat.lt_trans (bN_lt _) (by decide)) dX2_firstFault_43 (by decide) (fun c43 => ?_) (fun c43 => ?_)
          · skip
            refine lv_iinc (v := nI (k + 1)) (lv' := [(1, .int (nI (k + 1))), (2, .int (nI (sgn g cnt k))), (0, .ref pa)]) hx hb dX2_firstFault_60 hl (k := 1) rfl (by exact nI_add _ 1) (by decide) rfl (fun ls hl => ?_)
            refine lv_goto (tgt := 2) hx hb dX2_firstFault_63 (by decide) ?_
            exact L2ih  (k + 1) n2 (by first | assumption | omega | rfl) (by first | assumption | omega | rfl) (by rw [flt, if_pos c7, if_neg (by rw [← hs, bN_0.mp c20]; decide), if_pos (Or.inl (by rw [← hs]; exact bN_1.mp c43))] at hf; exact hf) (by omega) _ _ _ hP hD hS (lv_sub hl [0, 2] rfl)
          · skip
            refine lv_iload_n hx hb dX2_firstFault_46 rfl (lv_at hl 0 rfl) ?_
            refine lv_bipush (v := nI 42) hx hb dX2_firstFault_47 (by decide) ?_
            refine mv_icmp_eq (tgt := 60) hx hb (by first | omega | exact Nat.lt_trans (bN_lt _) (by decide)) (by omega) dX2_firstFault_49 (by decide) (fun c49 => ?_) (fun c49 => ?_)
            · skip
              refine lv_iinc (v := nI (k + 1)) (lv' := [(1, .int (nI (k + 1))), (2, .int (nI (sgn g cnt k))), (0, .ref pa)]) hx hb dX2_firstFault_60 hl (k := 1) rfl (by exact nI_add _ 1) (by decide) rfl (fun ls hl => ?_)
              refine lv_goto (tgt := 2) hx hb dX2_firstFault_63 (by decide) ?_
              exact L2ih  (k + 1) n2 (by first | assumption | omega | rfl) (by first | assumption | omega | rfl) (by rw [flt, if_pos c7, if_neg (by rw [← hs, bN_0.mp c20]; decide), if_pos (Or.inr (Or.inl (by rw [← hs]; exact c49)))] at hf; exact hf) (by omega) _ _ _ hP hD hS (lv_sub hl [0, 2] rfl)
            · skip
              refine lv_iload_n hx hb dX2_firstFault_52 rfl (lv_at hl 0 rfl) ?_
              refine lv_bipush (v := nI 46) hx hb dX2_firstFault_53 (by decide) ?_
              refine mv_icmp_eq (tgt := 60) hx hb (by first | omega | exact Nat.lt_trans (bN_lt _) (by decide)) (by omega) dX2_firstFault_55 (by decide) (fun c55 => ?_) (fun c55 => ?_)
              · skip
                refine lv_iinc (v := nI (k + 1)) (lv' := [(1, .int (nI (k + 1))), (2, .int (nI (sgn g cnt k))), (0, .ref pa)]) hx hb dX2_firstFault_60 hl (k := 1) rfl (by exact nI_add _ 1) (by decide) rfl (fun ls hl => ?_)
                refine lv_goto (tgt := 2) hx hb dX2_firstFault_63 (by decide) ?_
                exact L2ih  (k + 1) n2 (by first | assumption | omega | rfl) (by first | assumption | omega | rfl) (by rw [flt, if_pos c7, if_neg (by rw [← hs, bN_0.mp c20]; decide), if_pos (Or.inr (Or.inr (by rw [← hs]; exact c55)))] at hf; exact hf) (by omega) _ _ _ hP hD hS (lv_sub hl [0, 2] rfl)
              · skip
                refine lv_iload_n hx hb dX2_firstFault_58 rfl (lv_at hl 1 rfl) ?_
                exact mv_iret hx hb hr hlocks () (by rw [← hf, flt, if_pos c7, if_neg (by rw [← hs, bN_0.mp c20]; decide), if_neg (by rw [← hs, bN_0.mp c43]; intro q; rcases q with q | q | q; exact absurd q (by decide); exact absurd q c49; exact absurd q c55)]; rfl) hP hK hD hS dX2_firstFault_59
        · skip
          refine lv_iinc (v := nI (k + 1)) (lv' := [(1, .int (nI (k + 1))), (2, .int (nI (sgn g cnt k))), (0, .ref pa)]) hx hb dX2_firstFault_23 hl (k := 1) rfl (by exact nI_add _ 1) (by decide) rfl (fun ls hl => ?_)
          refine lv_aload_n hx hb dX2_firstFault_26 rfl (lv_at hl 2 rfl) ?_
          refine lv_iload_n hx hb dX2_firstFault_27 rfl (lv_at hl 0 rfl) ?_
          refine mv_callVi (nA := 1) (As := [.int (nI (k + 1))]) (rest := []) (Wc := [(pa, .inr (2, [.ref ps, .int (nI cnt)])), (ps, .inl (Y 0, 60, .inl (aN g)))]) (wr := []) hx hb hml hown hts hK hP hD hS hST hA hl.1 (c_X2_signAt l D Y _ pa ps cnt g (k + 1) (by first | assumption | omega | rfl) (by first | assumption | omega | rfl) (by first | assumption | omega | rfl)) [0, 1] [] rfl rfl (by decide) (by decide) (by decide) rfl 0 rfl rfl rfl mw_184 mw_185 mw_186 mw_18 mw_187 ⟨by decide, by decide, by decide +kernel⟩ rfl ⟨Nat.le_of_ble_eq_true rfl, Nat.le_of_ble_eq_true rfl⟩ rfl (Nat.le_of_ble_eq_true rfl) dX2_firstFault_28 ⟨Nat.le_of_ble_eq_true rfl, Nat.le_of_ble_eq_true rfl⟩ (fun r_4 u H locs hr28 hP hD hS hz28 => ?_)
          have hP := hP.sub (ws' := [(pa, .inr (2, [.ref ps, .int (nI cnt)])), (ps, .inl (Y 0, 60, .inl (aN g)))]) [0, 1] rfl
          have hD := hD.sub (ws' := [(pa, .inr (2, [.ref ps, .int (nI cnt)])), (ps, .inl (Y 0, 60, .inl (aN g)))]) [0, 1] (by decide) rfl
          have hr28 : r_4 = nI (sgn g cnt (k + 1)) := hr28
          subst hr28
          refine mv_callSi (nA := 1) (As := [.int (nI (sgn g cnt (k + 1)))]) (rest := []) (Wc := []) (wr := [(pa, .inr (2, [.ref ps, .int (nI cnt)])), (ps, .inl (Y 0, 60, .inl (aN g)))]) hx hb hml hown hts hK hP hD hS hST hA hl.1 (c_X2_isRobeAct l D Y _ (sgn g cnt (k + 1)) (by first | assumption | omega | rfl)) [] [0, 1] rfl rfl (by decide) (by decide) (by decide) rfl mw_191 mw_192 mw_18 mw_193 ⟨by decide, by decide, by decide +kernel⟩ rfl ⟨Nat.le_of_ble_eq_true rfl, Nat.le_of_ble_eq_true rfl⟩ rfl (Nat.le_of_ble_eq_true rfl) dX2_firstFault_31 ⟨Nat.le_of_ble_eq_true rfl, Nat.le_of_ble_eq_true rfl⟩ (fun r_5 u H locs hr31 hP hD hS hz31 => ?_)
          have hP := hP.sub (ws' := [(pa, .inr (2, [.ref ps, .int (nI cnt)])), (ps, .inl (Y 0, 60, .inl (aN g)))]) [0, 1] rfl
          have hD := hD.sub (ws' := [(pa, .inr (2, [.ref ps, .int (nI cnt)])), (ps, .inl (Y 0, 60, .inl (aN g)))]) [0, 1] (by decide) rfl
          have hr31 : r_5 = nI (bN (isRa (sgn g cnt (k + 1)))) := hr31
          subst hr31
          refine mv_if_ne (tgt := 60) hx hb (by first | omega | exact Nat.lt_trans (bN_lt _) (by decide)) dX2_firstFault_34 (by decide) (fun c34 => ?_) (fun c34 => ?_)
          · skip
            refine lv_iinc (v := nI ((k + 1) + 1)) (lv' := [(1, .int (nI ((k + 1) + 1))), (2, .int (nI (sgn g cnt k))), (0, .ref pa)]) hx hb dX2_firstFault_60 hl (k := 0) rfl (by exact nI_add _ 1) (by decide) rfl (fun ls hl => ?_)
            refine lv_goto (tgt := 2) hx hb dX2_firstFault_63 (by decide) ?_
            exact L2ih  ((k + 1) + 1) n2 (by first | assumption | omega | rfl) (by first | assumption | omega | rfl) (by rw [flt, if_pos c7, if_pos (by rw [← hs]; exact bN_1.mp c20), if_pos (bN_1.mp c34)] at hf; exact hf) (by omega) _ _ _ hP hD hS (lv_sub hl [0, 2] rfl)
          · skip
            refine lv_iload_n hx hb dX2_firstFault_37 rfl (lv_at hl 0 rfl) ?_
            exact mv_iret hx hb hr hlocks () (by rw [← hf, flt, if_pos c7, if_pos (by rw [← hs]; exact bN_1.mp c20), if_neg (by rw [bN_0.mp c34]; decide)]; rfl) hP hK hD hS dX2_firstFault_38
  refine lv_iconst (v := nI 0) hx hb dX2_firstFault_0 (by decide) ?_
  refine lv_istore_n (lv' := [(1, .int (nI 0)), (0, .ref pa)]) hx hb dX2_firstFault_1 rfl hl (by decide) rfl (fun ls hl => ?_)
  exact L2 (61 + 1) 0 61 (by first | assumption | omega | rfl) (by first | assumption | omega | rfl) (by first | assumption | omega | rfl) (Nat.lt_succ_self _) _ _ _ hP hD hS (lv_sub hl [0, 1] rfl)
abbrev q_X2_hasLetterAt (D : va_G) (Y : Nat → ClassId) (pa : Nat) (ps : Nat) (cnt : Nat) (g : Nat → Nat) (k : Nat) : (Nat → Prop) → Array Value → State → Outcome → State → Prop := mv_Qi D Y (fun (r : Int32) (_ : Unit) => r = nI (bN (isLt (sgn g cnt k)))) (fun _ : Unit => ([(pa, .inr (2, [.ref ps, .int (nI cnt)])), (ps, .inl (Y 0, 60, .inl (aN g)))] : va_W))
set_option maxHeartbeats 4000000 in
set_option maxRecDepth 100000 in
theorem c_X2_hasLetterAt (l : Launch) (D : va_G) (Y : Nat → ClassId) (sz : Nat) (pa : Nat) (ps : Nat) (cnt : Nat) (g : Nat → Nat) (k : Nat) (hcnt : cnt ≤ 60) (hg : ∀ k, k < cnt → g k < 128) (hk : k < 2 ^ 31) : mv_C l D Y yX2_hasLetterAt cX2_hasLetterAt 2 (some .boolean) 1 0 0 [.ref pa, .int (nI k)] sz [(pa, .inr (2, [.ref ps, .int (nI cnt)])), (ps, .inl (Y 0, 60, .inl (aN g)))] (q_X2_hasLetterAt D Y pa ps cnt g k) := by
  refine mv_ofW (by decide) (Nat.le_of_ble_eq_true rfl) ?_
  intro p e s m below meth c ls A hx hb hr hlocks hml hnm hown hts hsz hAe hP hK hD hS hST hA hl
  have hl : lv_has ls 2 [(0, .ref pa), (1, .int (nI k))] := hl
  refine lv_aload_n hx hb dX2_hasLetterAt_0 rfl (lv_at hl 0 rfl) ?_
  refine lv_iload_n hx hb dX2_hasLetterAt_1 rfl (lv_at hl 1 rfl) ?_
  refine mv_callVi (nA := 1) (As := [.int (nI k)]) (rest := []) (Wc := [(pa, .inr (2, [.ref ps, .int (nI cnt)])), (ps, .inl (Y 0, 60, .inl (aN g)))]) (wr := []) hx hb hml hown hts hK hP hD hS hST hA hl.1 (c_X2_signAt l D Y _ pa ps cnt g k (by first | assumption | omega | rfl) (by first | assumption | omega | rfl) (by first | assumption | omega | rfl)) [0, 1] [] rfl rfl (by decide) (by decide) (by decide) rfl 0 rfl rfl rfl mw_184 mw_185 mw_186 mw_18 mw_187 ⟨by decide, by decide, by decide +kernel⟩ rfl ⟨Nat.le_of_ble_eq_true rfl, Nat.le_of_ble_eq_true rfl⟩ rfl (Nat.le_of_ble_eq_true rfl) dX2_hasLetterAt_2 ⟨Nat.le_of_ble_eq_true rfl, Nat.le_of_ble_eq_true rfl⟩ (fun r_1 u H locs hr2 hP hD hS hz2 => ?_)
  have hP := hP.sub (ws' := [(pa, .inr (2, [.ref ps, .int (nI cnt)])), (ps, .inl (Y 0, 60, .inl (aN g)))]) [0, 1] rfl
  have hD := hD.sub (ws' := [(pa, .inr (2, [.ref ps, .int (nI cnt)])), (ps, .inl (Y 0, 60, .inl (aN g)))]) [0, 1] (by decide) rfl
  have hr2 : r_1 = nI (sgn g cnt k) := hr2
  subst hr2
  have hs3 : sgn g cnt k < 128 := by unfold sgn; split <;> first | exact hg _ (by assumption) | decide
  refine mv_callSi (nA := 1) (As := [.int (nI (sgn g cnt k))]) (rest := []) (Wc := []) (wr := [(pa, .inr (2, [.ref ps, .int (nI cnt)])), (ps, .inl (Y 0, 60, .inl (aN g)))]) hx hb hml hown hts hK hP hD hS hST hA hl.1 (c_X2_isLetter l D Y _ (sgn g cnt k) (by first | assumption | omega | rfl)) [] [0, 1] rfl rfl (by decide) (by decide) (by decide) rfl mw_188 mw_189 mw_18 mw_190 ⟨by decide, by decide, by decide +kernel⟩ rfl ⟨Nat.le_of_ble_eq_true rfl, Nat.le_of_ble_eq_true rfl⟩ rfl (Nat.le_of_ble_eq_true rfl) dX2_hasLetterAt_5 ⟨Nat.le_of_ble_eq_true rfl, Nat.le_of_ble_eq_true rfl⟩ (fun r_2 u H locs hr5 hP hD hS hz5 => ?_)
  have hP := hP.sub (ws' := [(pa, .inr (2, [.ref ps, .int (nI cnt)])), (ps, .inl (Y 0, 60, .inl (aN g)))]) [0, 1] rfl
  have hD := hD.sub (ws' := [(pa, .inr (2, [.ref ps, .int (nI cnt)])), (ps, .inl (Y 0, 60, .inl (aN g)))]) [0, 1] (by decide) rfl
  have hr5 : r_2 = nI (bN (isLt (sgn g cnt k))) := hr5
  subst hr5
  exact mv_zret hx hb hr hlocks (bN_lt _) () (rfl) hP hK hD hS dX2_hasLetterAt_8
abbrev q_X2_kindAt (D : va_G) (Y : Nat → ClassId) (pa : Nat) (ps : Nat) (cnt : Nat) (g : Nat → Nat) (k : Nat) : (Nat → Prop) → Array Value → State → Outcome → State → Prop := mv_Qi D Y (fun (r : Int32) (_ : Unit) => r = nI (kdA g cnt k)) (fun _ : Unit => ([(pa, .inr (2, [.ref ps, .int (nI cnt)])), (ps, .inl (Y 0, 60, .inl (aN g)))] : va_W))
set_option maxHeartbeats 4000000 in
set_option maxRecDepth 100000 in
theorem c_X2_kindAt (l : Launch) (D : va_G) (Y : Nat → ClassId) (sz : Nat) (pa : Nat) (ps : Nat) (cnt : Nat) (g : Nat → Nat) (k : Nat) (hcnt : cnt ≤ 60) (hg : ∀ k, k < cnt → g k < 128) (hk : k < 2 ^ 30) : mv_C l D Y yX2_kindAt cX2_kindAt 3 (some .int) 1 0 0 [.ref pa, .int (nI k)] sz [(pa, .inr (2, [.ref ps, .int (nI cnt)])), (ps, .inl (Y 0, 60, .inl (aN g)))] (q_X2_kindAt D Y pa ps cnt g k) := by
  refine mv_ofW (by decide) (Nat.le_of_ble_eq_true rfl) ?_
  intro p e s m below meth c ls A hx hb hr hlocks hml hnm hown hts hsz hAe hP hK hD hS hST hA hl
  have hl : lv_has ls 3 [(0, .ref pa), (1, .int (nI k))] := hl
  refine lv_aload_n hx hb dX2_kindAt_0 rfl (lv_at hl 0 rfl) ?_
  refine lv_iload_n hx hb dX2_kindAt_1 rfl (lv_at hl 1 rfl) ?_
  refine mv_callVi (nA := 1) (As := [.int (nI k)]) (rest := []) (Wc := [(pa, .inr (2, [.ref ps, .int (nI cnt)])), (ps, .inl (Y 0, 60, .inl (aN g)))]) (wr := []) hx hb hml hown hts hK hP hD hS hST hA hl.1 (c_X2_signAt l D Y _ pa ps cnt g k (by first | assumption | omega | rfl) (by first | assumption | omega | rfl) (by first | assumption | omega | rfl)) [0, 1] [] rfl rfl (by decide) (by decide) (by decide) rfl 0 rfl rfl rfl mw_184 mw_185 mw_186 mw_18 mw_187 ⟨by decide, by decide, by decide +kernel⟩ rfl ⟨Nat.le_of_ble_eq_true rfl, Nat.le_of_ble_eq_true rfl⟩ rfl (Nat.le_of_ble_eq_true rfl) dX2_kindAt_2 ⟨Nat.le_of_ble_eq_true rfl, Nat.le_of_ble_eq_true rfl⟩ (fun r_1 u H locs hr2 hP hD hS hz2 => ?_)
  have hP := hP.sub (ws' := [(pa, .inr (2, [.ref ps, .int (nI cnt)])), (ps, .inl (Y 0, 60, .inl (aN g)))]) [0, 1] rfl
  have hD := hD.sub (ws' := [(pa, .inr (2, [.ref ps, .int (nI cnt)])), (ps, .inl (Y 0, 60, .inl (aN g)))]) [0, 1] (by decide) rfl
  have hr2 : r_1 = nI (sgn g cnt k) := hr2
  subst hr2
  have hs3 : sgn g cnt k < 128 := by unfold sgn; split <;> first | exact hg _ (by assumption) | decide
  refine lv_istore_n (lv' := [(2, .int (nI (sgn g cnt k))), (0, .ref pa), (1, .int (nI k))]) hx hb dX2_kindAt_5 rfl hl (by decide) rfl (fun ls hl => ?_)
  refine lv_iload_n hx hb dX2_kindAt_6 rfl (lv_at hl 0 rfl) ?_
  refine mv_callSi (nA := 1) (As := [.int (nI (sgn g cnt k))]) (rest := []) (Wc := []) (wr := [(pa, .inr (2, [.ref ps, .int (nI cnt)])), (ps, .inl (Y 0, 60, .inl (aN g)))]) hx hb hml hown hts hK hP hD hS hST hA hl.1 (c_X2_isLetter l D Y _ (sgn g cnt k) (by first | assumption | omega | rfl)) [] [0, 1] rfl rfl (by decide) (by decide) (by decide) rfl mw_188 mw_189 mw_18 mw_190 ⟨by decide, by decide, by decide +kernel⟩ rfl ⟨Nat.le_of_ble_eq_true rfl, Nat.le_of_ble_eq_true rfl⟩ rfl (Nat.le_of_ble_eq_true rfl) dX2_kindAt_7 ⟨Nat.le_of_ble_eq_true rfl, Nat.le_of_ble_eq_true rfl⟩ (fun r_2 u H locs hr7 hP hD hS hz7 => ?_)
  have hP := hP.sub (ws' := [(pa, .inr (2, [.ref ps, .int (nI cnt)])), (ps, .inl (Y 0, 60, .inl (aN g)))]) [0, 1] rfl
  have hD := hD.sub (ws' := [(pa, .inr (2, [.ref ps, .int (nI cnt)])), (ps, .inl (Y 0, 60, .inl (aN g)))]) [0, 1] (by decide) rfl
  have hr7 : r_2 = nI (bN (isLt (sgn g cnt k))) := hr7
  subst hr7
  refine mv_if_eq (tgt := 21) hx hb (by first | omega | exact Nat.lt_trans (bN_lt _) (by decide)) dX2_kindAt_10 (by decide) (fun c10 => ?_) (fun c10 => ?_)
  · skip
    refine lv_iload_n hx hb dX2_kindAt_21 rfl (lv_at hl 0 rfl) ?_
    refine mv_callSi (nA := 1) (As := [.int (nI (sgn g cnt k))]) (rest := []) (Wc := []) (wr := [(pa, .inr (2, [.ref ps, .int (nI cnt)])), (ps, .inl (Y 0, 60, .inl (aN g)))]) hx hb hml hown hts hK hP hD hS hST hA hl.1 (c_X2_isDigit l D Y _ (sgn g cnt k) (by first | assumption | omega | rfl)) [] [0, 1] rfl rfl (by decide) (by decide) (by decide) rfl mw_194 mw_195 mw_18 mw_196 ⟨by decide, by decide, by decide +kernel⟩ rfl ⟨Nat.le_of_ble_eq_true rfl, Nat.le_of_ble_eq_true rfl⟩ rfl (Nat.le_of_ble_eq_true rfl) dX2_kindAt_22 ⟨Nat.le_of_ble_eq_true rfl, Nat.le_of_ble_eq_true rfl⟩ (fun r_3 u H locs hr22 hP hD hS hz22 => ?_)
    have hP := hP.sub (ws' := [(pa, .inr (2, [.ref ps, .int (nI cnt)])), (ps, .inl (Y 0, 60, .inl (aN g)))]) [0, 1] rfl
    have hD := hD.sub (ws' := [(pa, .inr (2, [.ref ps, .int (nI cnt)])), (ps, .inl (Y 0, 60, .inl (aN g)))]) [0, 1] (by decide) rfl
    have hr22 : r_3 = nI (bN (isDg (sgn g cnt k))) := hr22
    subst hr22
    refine mv_if_eq (tgt := 33) hx hb (by first | omega | exact Nat.lt_trans (bN_lt _) (by decide)) dX2_kindAt_25 (by decide) (fun c25 => ?_) (fun c25 => ?_)
    · skip
      refine lv_iload_n hx hb dX2_kindAt_33 rfl (lv_at hl 0 rfl) ?_
      exact mv_iret hx hb hr hlocks () (by unfold kdA; rw [if_neg (by rw [bN_0.mp c10]; decide), if_neg (by rw [bN_0.mp c25]; decide)]) hP hK hD hS dX2_kindAt_34
    · skip
      refine lv_bipush (v := nI 48) hx hb dX2_kindAt_28 (by decide) ?_
      refine lv_goto (tgt := 34) hx hb dX2_kindAt_30 (by decide) ?_
      exact mv_iret hx hb hr hlocks () (by unfold kdA; rw [if_neg (by rw [bN_0.mp c10]; decide), if_pos (bN_1.mp c25)]) hP hK hD hS dX2_kindAt_34
  · skip
    refine lv_aload_n hx hb dX2_kindAt_13 rfl (lv_at hl 1 rfl) ?_
    refine lv_iload_n hx hb dX2_kindAt_14 rfl (lv_at hl 2 rfl) ?_
    refine lv_iconst (v := nI 1) hx hb dX2_kindAt_15 (by decide) ?_
    refine mv_iadd hx hb dX2_kindAt_16 ?_
    refine mv_callVi (nA := 1) (As := [.int (nI (k + 1))]) (rest := []) (Wc := [(pa, .inr (2, [.ref ps, .int (nI cnt)])), (ps, .inl (Y 0, 60, .inl (aN g)))]) (wr := []) hx hb hml hown hts hK hP hD hS hST hA hl.1 (c_X2_signAt l D Y _ pa ps cnt g (k + 1) (by first | assumption | omega | rfl) (by first | assumption | omega | rfl) (by first | assumption | omega | rfl)) [0, 1] [] rfl rfl (by decide) (by decide) (by decide) rfl 0 rfl rfl rfl mw_184 mw_185 mw_186 mw_18 mw_187 ⟨by decide, by decide, by decide +kernel⟩ rfl ⟨Nat.le_of_ble_eq_true rfl, Nat.le_of_ble_eq_true rfl⟩ rfl (Nat.le_of_ble_eq_true rfl) dX2_kindAt_17 ⟨Nat.le_of_ble_eq_true rfl, Nat.le_of_ble_eq_true rfl⟩ (fun r_4 u H locs hr17 hP hD hS hz17 => ?_)
    have hP := hP.sub (ws' := [(pa, .inr (2, [.ref ps, .int (nI cnt)])), (ps, .inl (Y 0, 60, .inl (aN g)))]) [0, 1] rfl
    have hD := hD.sub (ws' := [(pa, .inr (2, [.ref ps, .int (nI cnt)])), (ps, .inl (Y 0, 60, .inl (aN g)))]) [0, 1] (by decide) rfl
    have hr17 : r_4 = nI (sgn g cnt (k + 1)) := hr17
    subst hr17
    exact mv_iret hx hb hr hlocks () (by unfold kdA; rw [if_pos (bN_1.mp c10)]) hP hK hD hS dX2_kindAt_20
abbrev q_X2_subjectAt (D : va_G) (Y : Nat → ClassId) (pa : Nat) (ps : Nat) (cnt : Nat) (g : Nat → Nat) (k : Nat) : (Nat → Prop) → Array Value → State → Outcome → State → Prop := mv_Qi D Y (fun (r : Int32) (_ : Unit) => r = nI (sbA g cnt k)) (fun _ : Unit => ([(pa, .inr (2, [.ref ps, .int (nI cnt)])), (ps, .inl (Y 0, 60, .inl (aN g)))] : va_W))
set_option maxHeartbeats 4000000 in
set_option maxRecDepth 100000 in
theorem c_X2_subjectAt (l : Launch) (D : va_G) (Y : Nat → ClassId) (sz : Nat) (pa : Nat) (ps : Nat) (cnt : Nat) (g : Nat → Nat) (k : Nat) (hcnt : cnt ≤ 60) (hg : ∀ k, k < cnt → g k < 128) (hk : k < 2 ^ 31) : mv_C l D Y yX2_subjectAt cX2_subjectAt 3 (some .int) 1 0 0 [.ref pa, .int (nI k)] sz [(pa, .inr (2, [.ref ps, .int (nI cnt)])), (ps, .inl (Y 0, 60, .inl (aN g)))] (q_X2_subjectAt D Y pa ps cnt g k) := by
  refine mv_ofW (by decide) (Nat.le_of_ble_eq_true rfl) ?_
  intro p e s m below meth c ls A hx hb hr hlocks hml hnm hown hts hsz hAe hP hK hD hS hST hA hl
  have hl : lv_has ls 3 [(0, .ref pa), (1, .int (nI k))] := hl
  refine lv_aload_n hx hb dX2_subjectAt_0 rfl (lv_at hl 0 rfl) ?_
  refine lv_iload_n hx hb dX2_subjectAt_1 rfl (lv_at hl 1 rfl) ?_
  refine mv_callVi (nA := 1) (As := [.int (nI k)]) (rest := []) (Wc := [(pa, .inr (2, [.ref ps, .int (nI cnt)])), (ps, .inl (Y 0, 60, .inl (aN g)))]) (wr := []) hx hb hml hown hts hK hP hD hS hST hA hl.1 (c_X2_signAt l D Y _ pa ps cnt g k (by first | assumption | omega | rfl) (by first | assumption | omega | rfl) (by first | assumption | omega | rfl)) [0, 1] [] rfl rfl (by decide) (by decide) (by decide) rfl 0 rfl rfl rfl mw_184 mw_185 mw_186 mw_18 mw_187 ⟨by decide, by decide, by decide +kernel⟩ rfl ⟨Nat.le_of_ble_eq_true rfl, Nat.le_of_ble_eq_true rfl⟩ rfl (Nat.le_of_ble_eq_true rfl) dX2_subjectAt_2 ⟨Nat.le_of_ble_eq_true rfl, Nat.le_of_ble_eq_true rfl⟩ (fun r_1 u H locs hr2 hP hD hS hz2 => ?_)
  have hP := hP.sub (ws' := [(pa, .inr (2, [.ref ps, .int (nI cnt)])), (ps, .inl (Y 0, 60, .inl (aN g)))]) [0, 1] rfl
  have hD := hD.sub (ws' := [(pa, .inr (2, [.ref ps, .int (nI cnt)])), (ps, .inl (Y 0, 60, .inl (aN g)))]) [0, 1] (by decide) rfl
  have hr2 : r_1 = nI (sgn g cnt k) := hr2
  subst hr2
  have hs3 : sgn g cnt k < 128 := by unfold sgn; split <;> first | exact hg _ (by assumption) | decide
  refine lv_istore_n (lv' := [(2, .int (nI (sgn g cnt k))), (0, .ref pa), (1, .int (nI k))]) hx hb dX2_subjectAt_5 rfl hl (by decide) rfl (fun ls hl => ?_)
  refine lv_iload_n hx hb dX2_subjectAt_6 rfl (lv_at hl 0 rfl) ?_
  refine mv_callSi (nA := 1) (As := [.int (nI (sgn g cnt k))]) (rest := []) (Wc := []) (wr := [(pa, .inr (2, [.ref ps, .int (nI cnt)])), (ps, .inl (Y 0, 60, .inl (aN g)))]) hx hb hml hown hts hK hP hD hS hST hA hl.1 (c_X2_isLetter l D Y _ (sgn g cnt k) (by first | assumption | omega | rfl)) [] [0, 1] rfl rfl (by decide) (by decide) (by decide) rfl mw_188 mw_189 mw_18 mw_190 ⟨by decide, by decide, by decide +kernel⟩ rfl ⟨Nat.le_of_ble_eq_true rfl, Nat.le_of_ble_eq_true rfl⟩ rfl (Nat.le_of_ble_eq_true rfl) dX2_subjectAt_7 ⟨Nat.le_of_ble_eq_true rfl, Nat.le_of_ble_eq_true rfl⟩ (fun r_2 u H locs hr7 hP hD hS hz7 => ?_)
  have hP := hP.sub (ws' := [(pa, .inr (2, [.ref ps, .int (nI cnt)])), (ps, .inl (Y 0, 60, .inl (aN g)))]) [0, 1] rfl
  have hD := hD.sub (ws' := [(pa, .inr (2, [.ref ps, .int (nI cnt)])), (ps, .inl (Y 0, 60, .inl (aN g)))]) [0, 1] (by decide) rfl
  have hr7 : r_2 = nI (bN (isLt (sgn g cnt k))) := hr7
  subst hr7
  refine mv_if_eq (tgt := 18) hx hb (by first | omega | exact Nat.lt_trans (bN_lt _) (by decide)) dX2_subjectAt_10 (by decide) (fun c10 => ?_) (fun c10 => ?_)
  · skip
    refine lv_iload_n hx hb dX2_subjectAt_18 rfl (lv_at hl 0 rfl) ?_
    refine mv_callSi (nA := 1) (As := [.int (nI (sgn g cnt k))]) (rest := []) (Wc := []) (wr := [(pa, .inr (2, [.ref ps, .int (nI cnt)])), (ps, .inl (Y 0, 60, .inl (aN g)))]) hx hb hml hown hts hK hP hD hS hST hA hl.1 (c_X2_isDigit l D Y _ (sgn g cnt k) (by first | assumption | omega | rfl)) [] [0, 1] rfl rfl (by decide) (by decide) (by decide) rfl mw_194 mw_195 mw_18 mw_196 ⟨by decide, by decide, by decide +kernel⟩ rfl ⟨Nat.le_of_ble_eq_true rfl, Nat.le_of_ble_eq_true rfl⟩ rfl (Nat.le_of_ble_eq_true rfl) dX2_subjectAt_19 ⟨Nat.le_of_ble_eq_true rfl, Nat.le_of_ble_eq_true rfl⟩ (fun r_3 u H locs hr19 hP hD hS hz19 => ?_)
    have hP := hP.sub (ws' := [(pa, .inr (2, [.ref ps, .int (nI cnt)])), (ps, .inl (Y 0, 60, .inl (aN g)))]) [0, 1] rfl
    have hD := hD.sub (ws' := [(pa, .inr (2, [.ref ps, .int (nI cnt)])), (ps, .inl (Y 0, 60, .inl (aN g)))]) [0, 1] (by decide) rfl
    have hr19 : r_3 = nI (bN (isDg (sgn g cnt k))) := hr19
    subst hr19
    refine mv_if_eq (tgt := 32) hx hb (by first | omega | exact Nat.lt_trans (bN_lt _) (by decide)) dX2_subjectAt_22 (by decide) (fun c22 => ?_) (fun c22 => ?_)
    · skip
      refine lv_iconst (v := nI 0) hx hb dX2_subjectAt_32 (by decide) ?_
      exact mv_iret hx hb hr hlocks () (by unfold sbA; rw [if_neg (by rw [bN_0.mp c10]; decide), if_neg (by rw [bN_0.mp c22]; decide)]) hP hK hD hS dX2_subjectAt_33
    · skip
      have hL9 := of_decide_eq_true (bN_1.mp c22)
      refine lv_iload_n hx hb dX2_subjectAt_25 rfl (lv_at hl 0 rfl) ?_
      refine lv_bipush (v := nI 48) hx hb dX2_subjectAt_26 (by decide) ?_
      refine mv_isub hx hb (by omega) dX2_subjectAt_28 ?_
      refine lv_goto (tgt := 33) hx hb dX2_subjectAt_29 (by decide) ?_
      exact mv_iret hx hb hr hlocks () (by unfold sbA; rw [if_neg (by rw [bN_0.mp c10]; decide), if_pos (bN_1.mp c22)]) hP hK hD hS dX2_subjectAt_33
  · skip
    have hL9 := of_decide_eq_true (bN_1.mp c10)
    refine lv_iload_n hx hb dX2_subjectAt_13 rfl (lv_at hl 0 rfl) ?_
    refine lv_bipush (v := nI 65) hx hb dX2_subjectAt_14 (by decide) ?_
    refine mv_isub hx hb (by omega) dX2_subjectAt_16 ?_
    exact mv_iret hx hb hr hlocks () (by unfold sbA; rw [if_pos (bN_1.mp c10)]) hP hK hD hS dX2_subjectAt_17
