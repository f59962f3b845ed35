abbrev q_J6_bitCount_0f7a4 (D : va_G) (Y : Nat → ClassId) (n : Nat) : (Nat → Prop) → Array Value → State → Outcome → State → Prop := mv_Qi D Y (fun (r : Int32) (_ : Unit) => r = nI (popc n)) (fun _ : Unit => ([] : va_W))
set_option maxHeartbeats 4000000 in
set_option maxRecDepth 100000 in
theorem c_J6_bitCount_0f7a4 (l : Launch) (D : va_G) (Y : Nat → ClassId) (sz : Nat) (n : Nat) (hn : n < 65536) : mv_C l D Y yJ6_bitCount_0f7a4 cJ6_bitCount_0f7a4 1 (some .int) 0 0 0 [.int (nI n)] sz [] (q_J6_bitCount_0f7a4 D Y n) := by
  refine mv_ofW (by decide) (Nat.le_of_ble_eq_true rfl) ?_
  intro p e s m below meth c ls A hx hb hr hlocks hml hnm hown hts hsz hAe hP hK hD hS hST hA hl
  have hl : lv_has ls 1 [(0, .int (nI n))] := hl
  refine lv_iload_n hx hb dJ6_bitCount_0f7a4_0 rfl (lv_at hl 0 rfl) ?_
  refine lv_iload_n hx hb dJ6_bitCount_0f7a4_1 rfl (lv_at hl 0 rfl) ?_
  refine lv_iconst (v := nI 1) hx hb dJ6_bitCount_0f7a4_2 (by decide) ?_
  refine mv_iushr hx hb (by omega) (by decide) dJ6_bitCount_0f7a4_3 ?_
  refine lv_ldcw (v := nI 1431655765) hx hb hown (hts _ mw_425) dJ6_bitCount_0f7a4_4 ?_
  refine mv_iand hx hb dJ6_bitCount_0f7a4_7 ?_
  refine mv_isub hx hb (Nat.le_trans Nat.and_le_left (by omega)) dJ6_bitCount_0f7a4_8 ?_
  refine lv_istore_n (lv' := [(0, .int (nI (n - ((n / 2 ^ 1) &&& 1431655765))))]) hx hb dJ6_bitCount_0f7a4_9 rfl hl (by decide) rfl (fun ls hl => ?_)
  have hb1 : bc1 n < 65536 := by unfold bc1; omega
  change lv_has ls 1 [(0, .int (nI (bc1 n)))] at hl
  refine lv_iload_n hx hb dJ6_bitCount_0f7a4_10 rfl (lv_at hl 0 rfl) ?_
  refine lv_ldcw (v := nI 858993459) hx hb hown (hts _ mw_426) dJ6_bitCount_0f7a4_11 ?_
  refine mv_iand hx hb dJ6_bitCount_0f7a4_14 ?_
  refine lv_iload_n hx hb dJ6_bitCount_0f7a4_15 rfl (lv_at hl 0 rfl) ?_
  refine lv_iconst (v := nI 2) hx hb dJ6_bitCount_0f7a4_16 (by decide) ?_
  refine mv_iushr hx hb (by omega) (by decide) dJ6_bitCount_0f7a4_17 ?_
  refine lv_ldcw (v := nI 858993459) hx hb hown (hts _ mw_426) dJ6_bitCount_0f7a4_18 ?_
  refine mv_iand hx hb dJ6_bitCount_0f7a4_21 ?_
  refine mv_iadd hx hb dJ6_bitCount_0f7a4_22 ?_
  refine lv_istore_n (lv' := [(0, .int (nI (((bc1 n) &&& 858993459) + (((bc1 n) / 2 ^ 2) &&& 858993459))))]) hx hb dJ6_bitCount_0f7a4_23 rfl hl (by decide) rfl (fun ls hl => ?_)
  have hb2 : bc2 (bc1 n) < 2 ^ 31 := by unfold bc2; have := and_lt31 (bc1 n) (b := 858993459) (by decide); have h9 : bc1 n / 2 ^ 2 &&& 858993459 ≤ bc1 n / 2 ^ 2 := Nat.and_le_left; have h8 : bc1 n &&& 858993459 ≤ bc1 n := Nat.and_le_left; omega
  change lv_has ls 1 [(0, .int (nI (bc2 (bc1 n))))] at hl
  refine lv_iload_n hx hb dJ6_bitCount_0f7a4_24 rfl (lv_at hl 0 rfl) ?_
  refine lv_iload_n hx hb dJ6_bitCount_0f7a4_25 rfl (lv_at hl 0 rfl) ?_
  refine lv_iconst (v := nI 4) hx hb dJ6_bitCount_0f7a4_26 (by decide) ?_
  refine mv_iushr hx hb (by omega) (by decide) dJ6_bitCount_0f7a4_27 ?_
  refine mv_iadd hx hb dJ6_bitCount_0f7a4_28 ?_
  refine lv_ldcw (v := nI 252645135) hx hb hown (hts _ mw_427) dJ6_bitCount_0f7a4_29 ?_
  refine mv_iand hx hb dJ6_bitCount_0f7a4_32 ?_
  refine lv_istore_n (lv' := [(0, .int (nI (((bc2 (bc1 n)) + ((bc2 (bc1 n)) / 2 ^ 4)) &&& 252645135)))]) hx hb dJ6_bitCount_0f7a4_33 rfl hl (by decide) rfl (fun ls hl => ?_)
  have hb3 : bc3 (bc2 (bc1 n)) ≤ 252645135 := Nat.and_le_right
  generalize hz3 : bc3 (bc2 (bc1 n)) = z3 at hb3
  change lv_has ls 1 [(0, .int (nI (bc3 (bc2 (bc1 n)))))] at hl
  rw [hz3] at hl
  refine lv_iload_n hx hb dJ6_bitCount_0f7a4_34 rfl (lv_at hl 0 rfl) ?_
  refine lv_iload_n hx hb dJ6_bitCount_0f7a4_35 rfl (lv_at hl 0 rfl) ?_
  refine lv_bipush (v := nI 8) hx hb dJ6_bitCount_0f7a4_36 (by decide) ?_
  refine mv_iushr hx hb (by omega) (by decide) dJ6_bitCount_0f7a4_38 ?_
  refine mv_iadd hx hb dJ6_bitCount_0f7a4_39 ?_
  refine lv_istore_n (lv' := [(0, .int (nI (z3 + (z3 / 2 ^ 8))))]) hx hb dJ6_bitCount_0f7a4_40 rfl hl (by decide) rfl (fun ls hl => ?_)
  have hb4 : bc4 z3 < 2 ^ 31 := by unfold bc4; omega
  change lv_has ls 1 [(0, .int (nI (bc4 z3)))] at hl
  refine lv_iload_n hx hb dJ6_bitCount_0f7a4_41 rfl (lv_at hl 0 rfl) ?_
  refine lv_iload_n hx hb dJ6_bitCount_0f7a4_42 rfl (lv_at hl 0 rfl) ?_
  refine lv_bipush (v := nI 16) hx hb dJ6_bitCount_0f7a4_43 (by decide) ?_
  refine mv_iushr hx hb (by omega) (by decide) dJ6_bitCount_0f7a4_45 ?_
  refine mv_iadd hx hb dJ6_bitCount_0f7a4_46 ?_
  refine lv_istore_n (lv' := [(0, .int (nI ((bc4 z3) + ((bc4 z3) / 2 ^ 16))))]) hx hb dJ6_bitCount_0f7a4_47 rfl hl (by decide) rfl (fun ls hl => ?_)
  refine lv_iload_n hx hb dJ6_bitCount_0f7a4_48 rfl (lv_at hl 0 rfl) ?_
  refine lv_bipush (v := nI 63) hx hb dJ6_bitCount_0f7a4_49 (by decide) ?_
  refine mv_iand63 hx hb dJ6_bitCount_0f7a4_51 ?_
  exact mv_iret hx hb hr hlocks () (by rw [← bc_ok hn, hz3]; rfl) hP hK hD hS dJ6_bitCount_0f7a4_52
abbrev q_X6_isInPress (D : va_G) (Y : Nat → ClassId) (w : Nat) (h : Nat) (ca : Nat) (ro : Nat) (sh : Nat) (un : Nat) (so : Nat) (si : Nat) (prs : Nat) (yrs : Nat) (bs : Nat) (sc : Nat) (k : Nat) : (Nat → Prop) → Array Value → State → Outcome → State → Prop := mv_Qi D Y (fun (r : Int32) (_ : Unit) => r = nI (prs / 2 ^ k % 2)) (fun _ : Unit => ([(w, .inr (6, [.ref h, .ref ca, .int (nI prs), .int (nI yrs), .ref ro, .ref sh, .ref un, .ref so, .ref si, .int (nI bs), .int (nI sc)]))] : va_W))
set_option maxHeartbeats 4000000 in
set_option maxRecDepth 100000 in
theorem c_X6_isInPress (l : Launch) (D : va_G) (Y : Nat → ClassId) (sz : Nat) (w : Nat) (h : Nat) (ca : Nat) (ro : Nat) (sh : Nat) (un : Nat) (so : Nat) (si : Nat) (prs : Nat) (yrs : Nat) (bs : Nat) (sc : Nat) (k : Nat) (hp : prs < 2 ^ 31) (hk : k < 32) : mv_C l D Y yX6_isInPress cX6_isInPress 2 (some .boolean) 0 0 0 [.ref w, .int (nI k)] sz [(w, .inr (6, [.ref h, .ref ca, .int (nI prs), .int (nI yrs), .ref ro, .ref sh, .ref un, .ref so, .ref si, .int (nI bs), .int (nI sc)]))] (q_X6_isInPress D Y w h ca ro sh un so si prs yrs bs sc k) := by
  refine mv_ofW (by decide) (Nat.le_of_ble_eq_true rfl) ?_
  intro p e s m below meth c ls A hx hb hr hlocks hml hnm hown hts hsz hAe hP hK hD hS hST hA hl
  have hl : lv_has ls 2 [(0, .ref w), (1, .int (nI k))] := hl
  refine lv_aload_n hx hb dX6_isInPress_0 rfl (lv_at hl 0 rfl) ?_
  refine va_get (D := D) (ci := 6) (v := .int (nI prs)) (C := RX6) (T := TX6) (N := 11) hx hb hts inlX6 hown hK hP 0 rfl rfl 2 (by decide) (hts _ mw_233) (fun _ h9 => h9) rfl dX6_isInPress_1 ?_
  refine lv_iload_n hx hb dX6_isInPress_4 rfl (lv_at hl 1 rfl) ?_
  refine mv_ishr hx hb (by first | omega | exact Nat.lt_trans (Nat.mod_lt _ (by decide)) (by decide)) (by omega) dX6_isInPress_5 ?_
  refine lv_iconst (v := nI 1) hx hb dX6_isInPress_6 (by decide) ?_
  refine mv_iand1 hx hb dX6_isInPress_7 ?_
  refine mv_if_eq (tgt := 15) hx hb (by first | omega | exact Nat.lt_trans (Nat.mod_lt _ (by decide)) (by decide)) dX6_isInPress_8 (by decide) (fun c8 => ?_) (fun c8 => ?_)
  · skip
    refine lv_iconst (v := nI 0) hx hb dX6_isInPress_15 (by decide) ?_
    exact mv_zret hx hb hr hlocks (by omega) () (congrArg nI (by omega)) hP hK hD hS dX6_isInPress_16
  · skip
    refine lv_iconst (v := nI 1) hx hb dX6_isInPress_11 (by decide) ?_
    refine lv_goto (tgt := 16) hx hb dX6_isInPress_12 (by decide) ?_
    exact mv_zret hx hb hr hlocks (by omega) () (congrArg nI (by omega)) hP hK hD hS dX6_isInPress_16
abbrev q_X6_wholeCells (D : va_G) (Y : Nat → ClassId) (w : Nat) (h : Nat) (ca : Nat) (ro : Nat) (sh : Nat) (un : Nat) (so : Nat) (si : Nat) (prs : Nat) (yrs : Nat) (bs : Nat) (sc : Nat) (gh : Nat → Nat) : (Nat → Prop) → Array Value → State → Outcome → State → Prop := mv_Qi D Y (fun (r : Int32) (_ : Unit) => r = nI (whC gh 6)) (fun _ : Unit => ([(w, .inr (6, [.ref h, .ref ca, .int (nI prs), .int (nI yrs), .ref ro, .ref sh, .ref un, .ref so, .ref si, .int (nI bs), .int (nI sc)])), (h, .inl (Y 0, 6, .inl (aN gh)))] : va_W))
set_option maxHeartbeats 4000000 in
set_option maxRecDepth 100000 in
theorem c_X6_wholeCells (l : Launch) (D : va_G) (Y : Nat → ClassId) (sz : Nat) (w : Nat) (h : Nat) (ca : Nat) (ro : Nat) (sh : Nat) (un : Nat) (so : Nat) (si : Nat) (prs : Nat) (yrs : Nat) (bs : Nat) (sc : Nat) (gh : Nat → Nat) (hh : ∀ k, k < 6 → gh k < 65536) : mv_C l D Y yX6_wholeCells cX6_wholeCells 3 (some .int) 1 0 0 [.ref w] sz [(w, .inr (6, [.ref h, .ref ca, .int (nI prs), .int (nI yrs), .ref ro, .ref sh, .ref un, .ref so, .ref si, .int (nI bs), .int (nI sc)])), (h, .inl (Y 0, 6, .inl (aN gh)))] (q_X6_wholeCells D Y w h ca ro sh un so si prs yrs bs sc gh) := by
  refine mv_ofW (by decide) (Nat.le_of_ble_eq_true rfl) ?_
  intro p e s m below meth c ls A hx hb hr hlocks hml hnm hown hts hsz hAe hP hK hD hS hST hA hl
  have hl : lv_has ls 3 [(0, .ref w)] := hl
  have L4 : ∀ (fu : Nat) (k : Nat) (t : Nat) (hk : k ≤ 6) (ht : t = whC gh k) (hmeas : 6 - k < fu) (H : Heap) (locs : List Loc) (ls : Array Slot), va_P D vwCl [(w, .inr (6, [.ref h, .ref ca, .int (nI prs), .int (nI yrs), .ref ro, .ref sh, .ref un, .ref so, .ref si, .int (nI bs), .int (nI sc)])), (h, .inl (Y 0, 6, .inl (aN gh)))] H → va_D A [(w, .inr (6, [.ref h, .ref ca, .int (nI prs), .int (nI yrs), .ref ro, .ref sh, .ref un, .ref so, .ref si, .int (nI bs), .int (nI sc)])), (h, .inl (Y 0, 6, .inl (aN gh)))] → va_S A s.heap H locs → lv_has ls 3 [(2, .int (nI k)), (1, .int (nI t)), (0, .ref w)] → W p l e (mv_R 1 0 0) s m [.ref w].toArray below meth c H locs 0 0 (MQ below ((q_X6_wholeCells D Y w h ca ro sh un so si prs yrs bs sc gh) A) [.ref w].toArray s 0 0 A) (F0 m 4 ls []) := by
    intro fu
    induction fu with
    | zero =>
      intro k t hk ht hmeas
      exact absurd hmeas (Nat.not_lt_zero _)
    | succ fu L4ih =>
      intro k t hk ht hmeas H locs ls hP hD hS hl
      refine lv_iload_n hx hb dX6_wholeCells_4 rfl (lv_at hl 0 rfl) ?_
      refine lv_bipush (v := nI 6) hx hb dX6_wholeCells_5 (by decide) ?_
      refine mv_icmp_ge (tgt := 31) hx hb (by omega) (by omega) dX6_wholeCells_7 (by decide) (fun c7 => ?_) (fun c7 => ?_)
      · skip
        refine lv_iload_n hx hb dX6_wholeCells_31 rfl (lv_at hl 1 rfl) ?_
        exact mv_iret hx hb hr hlocks () (by rw [ht, show k = 6 by omega]) hP hK hD hS dX6_wholeCells_32
      · skip
        refine lv_iload_n hx hb dX6_wholeCells_10 rfl (lv_at hl 1 rfl) ?_
        refine lv_bipush (v := nI 16) hx hb dX6_wholeCells_11 (by decide) ?_
        refine lv_aload_n hx hb dX6_wholeCells_13 rfl (lv_at hl 2 rfl) ?_
        refine va_get (D := D) (ci := 6) (v := .ref h) (C := RX6) (T := TX6) (N := 11) hx hb hts inlX6 hown hK hP 0 rfl rfl 0 (by decide) (hts _ mw_45) (fun _ h9 => h9) rfl dX6_wholeCells_14 ?_
        refine lv_iload_n hx hb dX6_wholeCells_17 rfl (lv_at hl 0 rfl) ?_
        refine mv_iald hx hb hK hP 1 rfl (i := k) (by omega) (by decide) dX6_wholeCells_18 ?_
        refine mv_callSi (nA := 1) (As := [.int (nI (gh k))]) (rest := [.int (nI 16), .int (nI t)]) (Wc := []) (wr := [(w, .inr (6, [.ref h, .ref ca, .int (nI prs), .int (nI yrs), .ref ro, .ref sh, .ref un, .ref so, .ref si, .int (nI bs), .int (nI sc)])), (h, .inl (Y 0, 6, .inl (aN gh)))]) hx hb hml hown hts hK hP hD hS hST hA hl.1 (c_J6_bitCount_0f7a4 l D Y _ (gh k) (hh k c7)) [] [0, 1] rfl rfl (by decide) (by decide) (by decide) rfl mw_618 mw_422 mw_423 mw_424 ⟨by decide, by decide, by decide +kernel⟩ rfl ⟨Nat.le_of_ble_eq_true rfl, Nat.le_of_ble_eq_true rfl⟩ rfl (Nat.le_of_ble_eq_true rfl) dX6_wholeCells_19 ⟨Nat.le_of_ble_eq_true rfl, Nat.le_of_ble_eq_true rfl⟩ (fun r_1 u H locs hr19 hP hD hS hz19 => ?_)
        have hP := hP.sub (ws' := [(w, .inr (6, [.ref h, .ref ca, .int (nI prs), .int (nI yrs), .ref ro, .ref sh, .ref un, .ref so, .ref si, .int (nI bs), .int (nI sc)])), (h, .inl (Y 0, 6, .inl (aN gh)))]) [0, 1] rfl
        have hD := hD.sub (ws' := [(w, .inr (6, [.ref h, .ref ca, .int (nI prs), .int (nI yrs), .ref ro, .ref sh, .ref un, .ref so, .ref si, .int (nI bs), .int (nI sc)])), (h, .inl (Y 0, 6, .inl (aN gh)))]) [0, 1] (by decide) rfl
        have hr19 : r_1 = nI (popc (gh k)) := hr19
        subst hr19
        refine mv_isub hx hb (popc_le _) dX6_wholeCells_22 ?_
        refine mv_iadd hx hb dX6_wholeCells_23 ?_
        refine lv_istore_n (lv' := [(1, .int (nI (t + (16 - (popc (gh k)))))), (2, .int (nI k)), (0, .ref w)]) hx hb dX6_wholeCells_24 rfl hl (by decide) rfl (fun ls hl => ?_)
        refine lv_iinc (v := nI (k + 1)) (lv' := [(2, .int (nI (k + 1))), (1, .int (nI (t + (16 - (popc (gh k)))))), (0, .ref w)]) hx hb dX6_wholeCells_25 hl (k := 1) rfl (by exact nI_add _ 1) (by decide) rfl (fun ls hl => ?_)
        refine lv_goto (tgt := 4) hx hb dX6_wholeCells_28 (by decide) ?_
        exact L4ih  (k + 1) (t + (16 - (popc (gh k)))) (by first | assumption | omega | rfl) (by rw [ht]; rfl) (by omega) _ _ _ hP hD hS (lv_sub hl [0, 1, 2] rfl)
  refine lv_iconst (v := nI 0) hx hb dX6_wholeCells_0 (by decide) ?_
  refine lv_istore_n (lv' := [(1, .int (nI 0)), (0, .ref w)]) hx hb dX6_wholeCells_1 rfl hl (by decide) rfl (fun ls hl => ?_)
  refine lv_iconst (v := nI 0) hx hb dX6_wholeCells_2 (by decide) ?_
  refine lv_istore_n (lv' := [(2, .int (nI 0)), (1, .int (nI 0)), (0, .ref w)]) hx hb dX6_wholeCells_3 rfl hl (by decide) rfl (fun ls hl => ?_)
  exact L4 (6 - 0 + 1) 0 0 (by first | assumption | omega | rfl) (by first | assumption | omega | rfl) (Nat.lt_succ_self _) _ _ _ hP hD hS (lv_sub hl [0, 1, 2] rfl)
abbrev q_X6_bareRobes (D : va_G) (Y : Nat → ClassId) (w : Nat) (h : Nat) (ca : Nat) (ro : Nat) (sh : Nat) (un : Nat) (so : Nat) (si : Nat) (prs : Nat) (yrs : Nat) (bs : Nat) (sc : Nat) (gh : Nat → Nat) : (Nat → Prop) → Array Value → State → Outcome → State → Prop := mv_Qi D Y (fun (r : Int32) (_ : Unit) => r = nI (barS gh 6)) (fun _ : Unit => ([(w, .inr (6, [.ref h, .ref ca, .int (nI prs), .int (nI yrs), .ref ro, .ref sh, .ref un, .ref so, .ref si, .int (nI bs), .int (nI sc)])), (h, .inl (Y 0, 6, .inl (aN gh)))] : va_W))
set_option maxHeartbeats 4000000 in
set_option maxRecDepth 100000 in
theorem c_X6_bareRobes (l : Launch) (D : va_G) (Y : Nat → ClassId) (sz : Nat) (w : Nat) (h : Nat) (ca : Nat) (ro : Nat) (sh : Nat) (un : Nat) (so : Nat) (si : Nat) (prs : Nat) (yrs : Nat) (bs : Nat) (sc : Nat) (gh : Nat → Nat) (hh : ∀ k, k < 6 → gh k < 65536) : mv_C l D Y yX6_bareRobes cX6_bareRobes 3 (some .int) 0 0 0 [.ref w] sz [(w, .inr (6, [.ref h, .ref ca, .int (nI prs), .int (nI yrs), .ref ro, .ref sh, .ref un, .ref so, .ref si, .int (nI bs), .int (nI sc)])), (h, .inl (Y 0, 6, .inl (aN gh)))] (q_X6_bareRobes D Y w h ca ro sh un so si prs yrs bs sc gh) := by
  refine mv_ofW (by decide) (Nat.le_of_ble_eq_true rfl) ?_
  intro p e s m below meth c ls A hx hb hr hlocks hml hnm hown hts hsz hAe hP hK hD hS hST hA hl
  have hl : lv_has ls 3 [(0, .ref w)] := hl
  have L4 : ∀ (fu : Nat) (k : Nat) (t : Nat) (hk : k ≤ 6) (ht : t = barS gh k) (hmeas : 6 - k < fu) (H : Heap) (locs : List Loc) (ls : Array Slot), va_P D vwCl [(w, .inr (6, [.ref h, .ref ca, .int (nI prs), .int (nI yrs), .ref ro, .ref sh, .ref un, .ref so, .ref si, .int (nI bs), .int (nI sc)])), (h, .inl (Y 0, 6, .inl (aN gh)))] H → va_D A [(w, .inr (6, [.ref h, .ref ca, .int (nI prs), .int (nI yrs), .ref ro, .ref sh, .ref un, .ref so, .ref si, .int (nI bs), .int (nI sc)])), (h, .inl (Y 0, 6, .inl (aN gh)))] → va_S A s.heap H locs → lv_has ls 3 [(2, .int (nI k)), (1, .int (nI t)), (0, .ref w)] → W p l e (mv_R 0 0 0) s m [.ref w].toArray below meth c H locs 0 0 (MQ below ((q_X6_bareRobes D Y w h ca ro sh un so si prs yrs bs sc gh) A) [.ref w].toArray s 0 0 A) (F0 m 4 ls []) := by
    intro fu
    induction fu with
    | zero =>
      intro k t hk ht hmeas
      exact absurd hmeas (Nat.not_lt_zero _)
    | succ fu L4ih =>
      intro k t hk ht hmeas H locs ls hP hD hS hl
      refine lv_iload_n hx hb dX6_bareRobes_4 rfl (lv_at hl 0 rfl) ?_
      refine lv_bipush (v := nI 6) hx hb dX6_bareRobes_5 (by decide) ?_
      refine mv_icmp_ge (tgt := 33) hx hb (by first | omega | exact Nat.lt_trans (hh _ (by omega)) (by decide)) (by omega) dX6_bareRobes_7 (by decide) (fun c7 => ?_) (fun c7 => ?_)
      · skip
        refine lv_iload_n hx hb dX6_bareRobes_33 rfl (lv_at hl 1 rfl) ?_
        exact mv_iret hx hb hr hlocks () (by rw [ht, show k = 6 by omega]) hP hK hD hS dX6_bareRobes_34
      · skip
        refine lv_aload_n hx hb dX6_bareRobes_10 rfl (lv_at hl 2 rfl) ?_
        refine va_get (D := D) (ci := 6) (v := .ref h) (C := RX6) (T := TX6) (N := 11) hx hb hts inlX6 hown hK hP 0 rfl rfl 0 (by decide) (hts _ mw_45) (fun _ h9 => h9) rfl dX6_bareRobes_11 ?_
        refine lv_iload_n hx hb dX6_bareRobes_14 rfl (lv_at hl 0 rfl) ?_
        refine mv_iald hx hb hK hP 1 rfl (i := k) (by omega) (by decide) dX6_bareRobes_15 ?_
        refine lv_ldc (v := nI 65535) hx hb hown (hts _ mw_290) dX6_bareRobes_16 ?_
        refine mv_icmp_ne (tgt := 27) hx hb (by first | omega | exact Nat.lt_trans (hh _ (by omega)) (by decide)) (by omega) dX6_bareRobes_18 (by decide) (fun c18 => ?_) (fun c18 => ?_)
        · skip
          refine lv_iinc (v := nI (k + 1)) (lv' := [(2, .int (nI (k + 1))), (1, .int (nI t)), (0, .ref w)]) hx hb dX6_bareRobes_27 hl (k := 0) rfl (by exact nI_add _ 1) (by decide) rfl (fun ls hl => ?_)
          refine lv_goto (tgt := 4) hx hb dX6_bareRobes_30 (by decide) ?_
          exact L4ih  (k + 1) t (by first | assumption | omega | rfl) (by rw [ht]; exact (if_neg c18).symm) (by omega) _ _ _ hP hD hS (lv_sub hl [0, 1, 2] rfl)
        · skip
          refine lv_iload_n hx hb dX6_bareRobes_21 rfl (lv_at hl 1 rfl) ?_
          refine lv_iconst (v := nI 1) hx hb dX6_bareRobes_22 (by decide) ?_
          refine lv_iload_n hx hb dX6_bareRobes_23 rfl (lv_at hl 0 rfl) ?_
          refine mv_ishl hx hb (by omega) dX6_bareRobes_24 ?_
          refine mv_ior hx hb dX6_bareRobes_25 ?_
          refine lv_istore_n (lv' := [(1, .int (nI (t ||| (1 * 2 ^ k)))), (2, .int (nI k)), (0, .ref w)]) hx hb dX6_bareRobes_26 rfl hl (by decide) rfl (fun ls hl => ?_)
          refine lv_iinc (v := nI (k + 1)) (lv' := [(2, .int (nI (k + 1))), (1, .int (nI (t ||| (1 * 2 ^ k)))), (0, .ref w)]) hx hb dX6_bareRobes_27 hl (k := 1) rfl (by exact nI_add _ 1) (by decide) rfl (fun ls hl => ?_)
          refine lv_goto (tgt := 4) hx hb dX6_bareRobes_30 (by decide) ?_
          exact L4ih  (k + 1) (t ||| (1 * 2 ^ k)) (by first | assumption | omega | rfl) (by rw [ht]; exact (if_pos c18).symm) (by omega) _ _ _ hP hD hS (lv_sub hl [0, 1, 2] rfl)
  refine lv_iconst (v := nI 0) hx hb dX6_bareRobes_0 (by decide) ?_
  refine lv_istore_n (lv' := [(1, .int (nI 0)), (0, .ref w)]) hx hb dX6_bareRobes_1 rfl hl (by decide) rfl (fun ls hl => ?_)
  refine lv_iconst (v := nI 0) hx hb dX6_bareRobes_2 (by decide) ?_
  refine lv_istore_n (lv' := [(2, .int (nI 0)), (1, .int (nI 0)), (0, .ref w)]) hx hb dX6_bareRobes_3 rfl hl (by decide) rfl (fun ls hl => ?_)
  exact L4 (6 - 0 + 1) 0 0 (by first | assumption | omega | rfl) (by first | assumption | omega | rfl) (Nat.lt_succ_self _) _ _ _ hP hD hS (lv_sub hl [0, 1, 2] rfl)
abbrev q_X6_falseSayings (D : va_G) (Y : Nat → ClassId) (w : Nat) (h : Nat) (ca : Nat) (ro : Nat) (sh : Nat) (un : Nat) (so : Nat) (si : Nat) (prs : Nat) (yrs : Nat) (bs : Nat) (sc : Nat) (gun : Nat → Nat) : (Nat → Prop) → Array Value → State → Outcome → State → Prop := mv_Qi D Y (fun (r : Int32) (_ : Unit) => r = nI (flsS gun 10)) (fun _ : Unit => ([(w, .inr (6, [.ref h, .ref ca, .int (nI prs), .int (nI yrs), .ref ro, .ref sh, .ref un, .ref so, .ref si, .int (nI bs), .int (nI sc)])), (un, .inl (Y 0, 10, .inl (aN gun)))] : va_W))
set_option maxHeartbeats 4000000 in
set_option maxRecDepth 100000 in
theorem c_X6_falseSayings (l : Launch) (D : va_G) (Y : Nat → ClassId) (sz : Nat) (w : Nat) (h : Nat) (ca : Nat) (ro : Nat) (sh : Nat) (un : Nat) (so : Nat) (si : Nat) (prs : Nat) (yrs : Nat) (bs : Nat) (sc : Nat) (gun : Nat → Nat) (hu : ∀ k, k < 10 → gun k < 10) : mv_C l D Y yX6_falseSayings cX6_falseSayings 3 (some .int) 0 0 0 [.ref w] sz [(w, .inr (6, [.ref h, .ref ca, .int (nI prs), .int (nI yrs), .ref ro, .ref sh, .ref un, .ref so, .ref si, .int (nI bs), .int (nI sc)])), (un, .inl (Y 0, 10, .inl (aN gun)))] (q_X6_falseSayings D Y w h ca ro sh un so si prs yrs bs sc gun) := by
  refine mv_ofW (by decide) (Nat.le_of_ble_eq_true rfl) ?_
  intro p e s m below meth c ls A hx hb hr hlocks hml hnm hown hts hsz hAe hP hK hD hS hST hA hl
  have hl : lv_has ls 3 [(0, .ref w)] := hl
  have L4 : ∀ (fu : Nat) (k : Nat) (t : Nat) (hk : k ≤ 10) (ht : t = flsS gun k) (hmeas : 10 - k < fu) (H : Heap) (locs : List Loc) (ls : Array Slot), va_P D vwCl [(w, .inr (6, [.ref h, .ref ca, .int (nI prs), .int (nI yrs), .ref ro, .ref sh, .ref un, .ref so, .ref si, .int (nI bs), .int (nI sc)])), (un, .inl (Y 0, 10, .inl (aN gun)))] H → va_D A [(w, .inr (6, [.ref h, .ref ca, .int (nI prs), .int (nI yrs), .ref ro, .ref sh, .ref un, .ref so, .ref si, .int (nI bs), .int (nI sc)])), (un, .inl (Y 0, 10, .inl (aN gun)))] → va_S A s.heap H locs → lv_has ls 3 [(2, .int (nI k)), (1, .int (nI t)), (0, .ref w)] → W p l e (mv_R 0 0 0) s m [.ref w].toArray below meth c H locs 0 0 (MQ below ((q_X6_falseSayings D Y w h ca ro sh un so si prs yrs bs sc gun) A) [.ref w].toArray s 0 0 A) (F0 m 4 ls []) := by
    intro fu
    induction fu with
    | zero =>
      intro k t hk ht hmeas
      exact absurd hmeas (Nat.not_lt_zero _)
    | succ fu L4ih =>
      intro k t hk ht hmeas H locs ls hP hD hS hl
      refine lv_iload_n hx hb dX6_falseSayings_4 rfl (lv_at hl 0 rfl) ?_
      refine lv_bipush (v := nI 10) hx hb dX6_falseSayings_5 (by decide) ?_
      refine mv_icmp_ge (tgt := 31) hx hb (by first | omega | exact Nat.lt_trans (hu _ (by omega)) (by decide)) (by omega) dX6_falseSayings_7 (by decide) (fun c7 => ?_) (fun c7 => ?_)
      · skip
        refine lv_iload_n hx hb dX6_falseSayings_31 rfl (lv_at hl 1 rfl) ?_
        exact mv_iret hx hb hr hlocks () (by rw [ht, show k = 10 by omega]) hP hK hD hS dX6_falseSayings_32
      · skip
        refine lv_aload_n hx hb dX6_falseSayings_10 rfl (lv_at hl 2 rfl) ?_
        refine va_get (D := D) (ci := 6) (v := .ref un) (C := RX6) (T := TX6) (N := 11) hx hb hts inlX6 hown hK hP 0 rfl rfl 6 (by decide) (hts _ mw_49) (fun _ h9 => h9) rfl dX6_falseSayings_11 ?_
        refine lv_iload_n hx hb dX6_falseSayings_14 rfl (lv_at hl 0 rfl) ?_
        refine mv_iald hx hb hK hP 1 rfl (i := k) (by omega) (by decide) dX6_falseSayings_15 ?_
        refine mv_if_le (tgt := 25) hx hb (by first | omega | exact Nat.lt_trans (hu _ (by omega)) (by decide)) dX6_falseSayings_16 (by decide) (fun c16 => ?_) (fun c16 => ?_)
        · skip
          refine lv_iinc (v := nI (k + 1)) (lv' := [(2, .int (nI (k + 1))), (1, .int (nI t)), (0, .ref w)]) hx hb dX6_falseSayings_25 hl (k := 0) rfl (by exact nI_add _ 1) (by decide) rfl (fun ls hl => ?_)
          refine lv_goto (tgt := 4) hx hb dX6_falseSayings_28 (by decide) ?_
          exact L4ih  (k + 1) t (by first | assumption | omega | rfl) (by rw [ht]; exact (if_neg (by omega)).symm) (by omega) _ _ _ hP hD hS (lv_sub hl [0, 1, 2] rfl)
        · skip
          refine lv_iload_n hx hb dX6_falseSayings_19 rfl (lv_at hl 1 rfl) ?_
          refine lv_iconst (v := nI 1) hx hb dX6_falseSayings_20 (by decide) ?_
          refine lv_iload_n hx hb dX6_falseSayings_21 rfl (lv_at hl 0 rfl) ?_
          refine mv_ishl hx hb (by omega) dX6_falseSayings_22 ?_
          refine mv_ior hx hb dX6_falseSayings_23 ?_
          refine lv_istore_n (lv' := [(1, .int (nI (t ||| (1 * 2 ^ k)))), (2, .int (nI k)), (0, .ref w)]) hx hb dX6_falseSayings_24 rfl hl (by decide) rfl (fun ls hl => ?_)
          refine lv_iinc (v := nI (k + 1)) (lv' := [(2, .int (nI (k + 1))), (1, .int (nI (t ||| (1 * 2 ^ k)))), (0, .ref w)]) hx hb dX6_falseSayings_25 hl (k := 1) rfl (by exact nI_add _ 1) (by decide) rfl (fun ls hl => ?_)
          refine lv_goto (tgt := 4) hx hb dX6_falseSayings_28 (by decide) ?_
          exact L4ih  (k + 1) (t ||| (1 * 2 ^ k)) (by first | assumption | omega | rfl) (by rw [ht]; exact (if_pos c16).symm) (by omega) _ _ _ hP hD hS (lv_sub hl [0, 1, 2] rfl)
  refine lv_iconst (v := nI 0) hx hb dX6_falseSayings_0 (by decide) ?_
  refine lv_istore_n (lv' := [(1, .int (nI 0)), (0, .ref w)]) hx hb dX6_falseSayings_1 rfl hl (by decide) rfl (fun ls hl => ?_)
  refine lv_iconst (v := nI 0) hx hb dX6_falseSayings_2 (by decide) ?_
  refine lv_istore_n (lv' := [(2, .int (nI 0)), (1, .int (nI 0)), (0, .ref w)]) hx hb dX6_falseSayings_3 rfl hl (by decide) rfl (fun ls hl => ?_)
  exact L4 (10 - 0 + 1) 0 0 (by first | assumption | omega | rfl) (by first | assumption | omega | rfl) (Nat.lt_succ_self _) _ _ _ hP hD hS (lv_sub hl [0, 1, 2] rfl)
abbrev q_X6_sayingsIn (D : va_G) (Y : Nat → ClassId) (w : Nat) (h : Nat) (ca : Nat) (ro : Nat) (sh : Nat) (un : Nat) (so : Nat) (si : Nat) (prs : Nat) (yrs : Nat) (bs : Nat) (sc : Nat) (gro : Nat → Nat) (rb : Nat) : (Nat → Prop) → Array Value → State → Outcome → State → Prop := mv_Qi D Y (fun (r : Int32) (_ : Unit) => r = nI (sinS gro rb 10)) (fun _ : Unit => ([(w, .inr (6, [.ref h, .ref ca, .int (nI prs), .int (nI yrs), .ref ro, .ref sh, .ref un, .ref so, .ref si, .int (nI bs), .int (nI sc)])), (ro, .inl (Y 0, 10, .inl (aN gro)))] : va_W))
set_option maxHeartbeats 4000000 in
set_option maxRecDepth 100000 in
theorem c_X6_sayingsIn (l : Launch) (D : va_G) (Y : Nat → ClassId) (sz : Nat) (w : Nat) (h : Nat) (ca : Nat) (ro : Nat) (sh : Nat) (un : Nat) (so : Nat) (si : Nat) (prs : Nat) (yrs : Nat) (bs : Nat) (sc : Nat) (gro : Nat → Nat) (rb : Nat) (hu : ∀ k, k < 10 → gro k < 6) (hr2 : rb < 6) : mv_C l D Y yX6_sayingsIn cX6_sayingsIn 4 (some .int) 0 0 0 [.ref w, .int (nI rb)] sz [(w, .inr (6, [.ref h, .ref ca, .int (nI prs), .int (nI yrs), .ref ro, .ref sh, .ref un, .ref so, .ref si, .int (nI bs), .int (nI sc)])), (ro, .inl (Y 0, 10, .inl (aN gro)))] (q_X6_sayingsIn D Y w h ca ro sh un so si prs yrs bs sc gro rb) := by
  refine mv_ofW (by decide) (Nat.le_of_ble_eq_true rfl) ?_
  intro p e s m below meth c ls A hx hb hr hlocks hml hnm hown hts hsz hAe hP hK hD hS hST hA hl
  have hl : lv_has ls 4 [(0, .ref w), (1, .int (nI rb))] := hl
  have L4 : ∀ (fu : Nat) (k : Nat) (t : Nat) (hk : k ≤ 10) (ht : t = sinS gro rb k) (hmeas : 10 - k < fu) (H : Heap) (locs : List Loc) (ls : Array Slot), va_P D vwCl [(w, .inr (6, [.ref h, .ref ca, .int (nI prs), .int (nI yrs), .ref ro, .ref sh, .ref un, .ref so, .ref si, .int (nI bs), .int (nI sc)])), (ro, .inl (Y 0, 10, .inl (aN gro)))] H → va_D A [(w, .inr (6, [.ref h, .ref ca, .int (nI prs), .int (nI yrs), .ref ro, .ref sh, .ref un, .ref so, .ref si, .int (nI bs), .int (nI sc)])), (ro, .inl (Y 0, 10, .inl (aN gro)))] → va_S A s.heap H locs → lv_has ls 4 [(3, .int (nI k)), (2, .int (nI t)), (0, .ref w), (1, .int (nI rb))] → W p l e (mv_R 0 0 0) s m [.ref w, .int (nI rb)].toArray below meth c H locs 0 0 (MQ below ((q_X6_sayingsIn D Y w h ca ro sh un so si prs yrs bs sc gro rb) A) [.ref w, .int (nI rb)].toArray s 0 0 A) (F0 m 4 ls []) := by
    intro fu
    induction fu with
    | zero =>
      intro k t hk ht hmeas
      exact absurd hmeas (Nat.not_lt_zero _)
    | succ fu L4ih =>
      intro k t hk ht hmeas H locs ls hP hD hS hl
      refine lv_iload_n hx hb dX6_sayingsIn_4 rfl (lv_at hl 0 rfl) ?_
      refine lv_bipush (v := nI 10) hx hb dX6_sayingsIn_5 (by decide) ?_
      refine mv_icmp_ge (tgt := 32) hx hb (by first | omega | exact Nat.lt_trans (hu _ (by omega)) (by decide)) (by omega) dX6_sayingsIn_7 (by decide) (fun c7 => ?_) (fun c7 => ?_)
      · skip
        refine lv_iload_n hx hb dX6_sayingsIn_32 rfl (lv_at hl 1 rfl) ?_
        exact mv_iret hx hb hr hlocks () (by rw [ht, show k = 10 by omega]) hP hK hD hS dX6_sayingsIn_33
      · skip
        refine lv_aload_n hx hb dX6_sayingsIn_10 rfl (lv_at hl 2 rfl) ?_
        refine va_get (D := D) (ci := 6) (v := .ref ro) (C := RX6) (T := TX6) (N := 11) hx hb hts inlX6 hown hK hP 0 rfl rfl 4 (by decide) (hts _ mw_47) (fun _ h9 => h9) rfl dX6_sayingsIn_11 ?_
        refine lv_iload_n hx hb dX6_sayingsIn_14 rfl (lv_at hl 0 rfl) ?_
        refine mv_iald hx hb hK hP 1 rfl (i := k) (by omega) (by decide) dX6_sayingsIn_15 ?_
        refine lv_iload_n hx hb dX6_sayingsIn_16 rfl (lv_at hl 3 rfl) ?_
        refine mv_icmp_ne (tgt := 26) hx hb (by first | omega | exact Nat.lt_trans (hu _ (by omega)) (by decide)) (by omega) dX6_sayingsIn_17 (by decide) (fun c17 => ?_) (fun c17 => ?_)
        · skip
          refine lv_iinc (v := nI (k + 1)) (lv' := [(3, .int (nI (k + 1))), (2, .int (nI t)), (0, .ref w), (1, .int (nI rb))]) hx hb dX6_sayingsIn_26 hl (k := 0) rfl (by exact nI_add _ 1) (by decide) rfl (fun ls hl => ?_)
          refine lv_goto (tgt := 4) hx hb dX6_sayingsIn_29 (by decide) ?_
          exact L4ih  (k + 1) t (by first | assumption | omega | rfl) (by rw [ht]; exact (if_neg c17).symm) (by omega) _ _ _ hP hD hS (lv_sub hl [0, 1, 2, 3] rfl)
        · skip
          refine lv_iload_n hx hb dX6_sayingsIn_20 rfl (lv_at hl 1 rfl) ?_
          refine lv_iconst (v := nI 1) hx hb dX6_sayingsIn_21 (by decide) ?_
          refine lv_iload_n hx hb dX6_sayingsIn_22 rfl (lv_at hl 0 rfl) ?_
          refine mv_ishl hx hb (by omega) dX6_sayingsIn_23 ?_
          refine mv_ior hx hb dX6_sayingsIn_24 ?_
          refine lv_istore_n (lv' := [(2, .int (nI (t ||| (1 * 2 ^ k)))), (3, .int (nI k)), (0, .ref w), (1, .int (nI rb))]) hx hb dX6_sayingsIn_25 rfl hl (by decide) rfl (fun ls hl => ?_)
          refine lv_iinc (v := nI (k + 1)) (lv' := [(3, .int (nI (k + 1))), (2, .int (nI (t ||| (1 * 2 ^ k)))), (0, .ref w), (1, .int (nI rb))]) hx hb dX6_sayingsIn_26 hl (k := 1) rfl (by exact nI_add _ 1) (by decide) rfl (fun ls hl => ?_)
          refine lv_goto (tgt := 4) hx hb dX6_sayingsIn_29 (by decide) ?_
          exact L4ih  (k + 1) (t ||| (1 * 2 ^ k)) (by first | assumption | omega | rfl) (by rw [ht]; exact (if_pos c17).symm) (by omega) _ _ _ hP hD hS (lv_sub hl [0, 1, 2, 3] rfl)
  refine lv_iconst (v := nI 0) hx hb dX6_sayingsIn_0 (by decide) ?_
  refine lv_istore_n (lv' := [(2, .int (nI 0)), (0, .ref w), (1, .int (nI rb))]) hx hb dX6_sayingsIn_1 rfl hl (by decide) rfl (fun ls hl => ?_)
  refine lv_iconst (v := nI 0) hx hb dX6_sayingsIn_2 (by decide) ?_
  refine lv_istore_n (lv' := [(3, .int (nI 0)), (2, .int (nI 0)), (0, .ref w), (1, .int (nI rb))]) hx hb dX6_sayingsIn_3 rfl hl (by decide) rfl (fun ls hl => ?_)
  exact L4 (10 - 0 + 1) 0 0 (by first | assumption | omega | rfl) (by first | assumption | omega | rfl) (Nat.lt_succ_self _) _ _ _ hP hD hS (lv_sub hl [0, 1, 2, 3] rfl)
abbrev q_X6_shapeOfAll (D : va_G) (Y : Nat → ClassId) (w : Nat) (h : Nat) (ca : Nat) (ro : Nat) (sh : Nat) (un : Nat) (so : Nat) (si : Nat) (prs : Nat) (yrs : Nat) (bs : Nat) (sc : Nat) (gsh : Nat → Nat) (sy : Nat) : (Nat → Prop) → Array Value → State → Outcome → State → Prop := mv_Qi D Y (fun (r : Int32) (_ : Unit) => r = nI (shpS gsh sy 10)) (fun _ : Unit => ([(w, .inr (6, [.ref h, .ref ca, .int (nI prs), .int (nI yrs), .ref ro, .ref sh, .ref un, .ref so, .ref si, .int (nI bs), .int (nI sc)])), (sh, .inl (Y 0, 10, .inl (aN gsh)))] : va_W))
set_option maxHeartbeats 4000000 in
set_option maxRecDepth 100000 in
theorem c_X6_shapeOfAll (l : Launch) (D : va_G) (Y : Nat → ClassId) (sz : Nat) (w : Nat) (h : Nat) (ca : Nat) (ro : Nat) (sh : Nat) (un : Nat) (so : Nat) (si : Nat) (prs : Nat) (yrs : Nat) (bs : Nat) (sc : Nat) (gsh : Nat → Nat) (sy : Nat) (hu : ∀ k, k < 10 → gsh k < 65536) (hr2 : sy < 1024) : mv_C l D Y yX6_shapeOfAll cX6_shapeOfAll 4 (some .int) 0 0 0 [.ref w, .int (nI sy)] sz [(w, .inr (6, [.ref h, .ref ca, .int (nI prs), .int (nI yrs), .ref ro, .ref sh, .ref un, .ref so, .ref si, .int (nI bs), .int (nI sc)])), (sh, .inl (Y 0, 10, .inl (aN gsh)))] (q_X6_shapeOfAll D Y w h ca ro sh un so si prs yrs bs sc gsh sy) := by
  refine mv_ofW (by decide) (Nat.le_of_ble_eq_true rfl) ?_
  intro p e s m below meth c ls A hx hb hr hlocks hml hnm hown hts hsz hAe hP hK hD hS hST hA hl
  have hl : lv_has ls 4 [(0, .ref w), (1, .int (nI sy))] := hl
  have L4 : ∀ (fu : Nat) (k : Nat) (t : Nat) (hk : k ≤ 10) (ht : t = shpS gsh sy k) (hmeas : 10 - k < fu) (H : Heap) (locs : List Loc) (ls : Array Slot), va_P D vwCl [(w, .inr (6, [.ref h, .ref ca, .int (nI prs), .int (nI yrs), .ref ro, .ref sh, .ref un, .ref so, .ref si, .int (nI bs), .int (nI sc)])), (sh, .inl (Y 0, 10, .inl (aN gsh)))] H → va_D A [(w, .inr (6, [.ref h, .ref ca, .int (nI prs), .int (nI yrs), .ref ro, .ref sh, .ref un, .ref so, .ref si, .int (nI bs), .int (nI sc)])), (sh, .inl (Y 0, 10, .inl (aN gsh)))] → va_S A s.heap H locs → lv_has ls 4 [(3, .int (nI k)), (2, .int (nI t)), (0, .ref w), (1, .int (nI sy))] → W p l e (mv_R 0 0 0) s m [.ref w, .int (nI sy)].toArray below meth c H locs 0 0 (MQ below ((q_X6_shapeOfAll D Y w h ca ro sh un so si prs yrs bs sc gsh sy) A) [.ref w, .int (nI sy)].toArray s 0 0 A) (F0 m 4 ls []) := by
    intro fu
    induction fu with
    | zero =>
      intro k t hk ht hmeas
      exact absurd hmeas (Nat.not_lt_zero _)
    | succ fu L4ih =>
      intro k t hk ht hmeas H locs ls hP hD hS hl
      refine lv_iload_n hx hb dX6_shapeOfAll_4 rfl (lv_at hl 0 rfl) ?_
      refine lv_bipush (v := nI 10) hx hb dX6_shapeOfAll_5 (by decide) ?_
      refine mv_icmp_ge (tgt := 33) hx hb (by first | omega | exact Nat.lt_trans (Nat.mod_lt _ (by decide)) (by decide)) (by omega) dX6_shapeOfAll_7 (by decide) (fun c7 => ?_) (fun c7 => ?_)
      · skip
        refine lv_iload_n hx hb dX6_shapeOfAll_33 rfl (lv_at hl 1 rfl) ?_
        exact mv_iret hx hb hr hlocks () (by rw [ht, show k = 10 by omega]) hP hK hD hS dX6_shapeOfAll_34
      · skip
        refine lv_iload_n hx hb dX6_shapeOfAll_10 rfl (lv_at hl 3 rfl) ?_
        refine lv_iload_n hx hb dX6_shapeOfAll_11 rfl (lv_at hl 0 rfl) ?_
        refine mv_ishr hx hb (by first | omega | exact Nat.lt_trans (Nat.mod_lt _ (by decide)) (by decide)) (by omega) dX6_shapeOfAll_12 ?_
        refine lv_iconst (v := nI 1) hx hb dX6_shapeOfAll_13 (by decide) ?_
        refine mv_iand1 hx hb dX6_shapeOfAll_14 ?_
        refine mv_if_eq (tgt := 27) hx hb (by first | omega | exact Nat.lt_trans (Nat.mod_lt _ (by decide)) (by decide)) dX6_shapeOfAll_15 (by decide) (fun c15 => ?_) (fun c15 => ?_)
        · skip
          refine lv_iinc (v := nI (k + 1)) (lv' := [(3, .int (nI (k + 1))), (2, .int (nI t)), (0, .ref w), (1, .int (nI sy))]) hx hb dX6_shapeOfAll_27 hl (k := 0) rfl (by exact nI_add _ 1) (by decide) rfl (fun ls hl => ?_)
          refine lv_goto (tgt := 4) hx hb dX6_shapeOfAll_30 (by decide) ?_
          exact L4ih  (k + 1) t (by first | assumption | omega | rfl) (by rw [ht]; exact (if_neg (by omega)).symm) (by omega) _ _ _ hP hD hS (lv_sub hl [0, 1, 2, 3] rfl)
        · skip
          refine lv_iload_n hx hb dX6_shapeOfAll_18 rfl (lv_at hl 1 rfl) ?_
          refine lv_aload_n hx hb dX6_shapeOfAll_19 rfl (lv_at hl 2 rfl) ?_
          refine va_get (D := D) (ci := 6) (v := .ref sh) (C := RX6) (T := TX6) (N := 11) hx hb hts inlX6 hown hK hP 0 rfl rfl 5 (by decide) (hts _ mw_48) (fun _ h9 => h9) rfl dX6_shapeOfAll_20 ?_
          refine lv_iload_n hx hb dX6_shapeOfAll_23 rfl (lv_at hl 0 rfl) ?_
          refine mv_iald hx hb hK hP 1 rfl (i := k) (by omega) (by decide) dX6_shapeOfAll_24 ?_
          refine mv_ior hx hb dX6_shapeOfAll_25 ?_
          refine lv_istore_n (lv' := [(2, .int (nI (t ||| (gsh k)))), (3, .int (nI k)), (0, .ref w), (1, .int (nI sy))]) hx hb dX6_shapeOfAll_26 rfl hl (by decide) rfl (fun ls hl => ?_)
          refine lv_iinc (v := nI (k + 1)) (lv' := [(3, .int (nI (k + 1))), (2, .int (nI (t ||| (gsh k)))), (0, .ref w), (1, .int (nI sy))]) hx hb dX6_shapeOfAll_27 hl (k := 1) rfl (by exact nI_add _ 1) (by decide) rfl (fun ls hl => ?_)
          refine lv_goto (tgt := 4) hx hb dX6_shapeOfAll_30 (by decide) ?_
          exact L4ih  (k + 1) (t ||| (gsh k)) (by first | assumption | omega | rfl) (by rw [ht]; exact (if_pos (by omega)).symm) (by omega) _ _ _ hP hD hS (lv_sub hl [0, 1, 2, 3] rfl)
  refine lv_iconst (v := nI 0) hx hb dX6_shapeOfAll_0 (by decide) ?_
  refine lv_istore_n (lv' := [(2, .int (nI 0)), (0, .ref w), (1, .int (nI sy))]) hx hb dX6_shapeOfAll_1 rfl hl (by decide) rfl (fun ls hl => ?_)
  refine lv_iconst (v := nI 0) hx hb dX6_shapeOfAll_2 (by decide) ?_
  refine lv_istore_n (lv' := [(3, .int (nI 0)), (2, .int (nI 0)), (0, .ref w), (1, .int (nI sy))]) hx hb dX6_shapeOfAll_3 rfl hl (by decide) rfl (fun ls hl => ?_)
  exact L4 (10 - 0 + 1) 0 0 (by first | assumption | omega | rfl) (by first | assumption | omega | rfl) (Nat.lt_succ_self _) _ _ _ hP hD hS (lv_sub hl [0, 1, 2, 3] rfl)
abbrev q_X6_addSight (D : va_G) (Y : Nat → ClassId) (w : Nat) (h : Nat) (ca : Nat) (ro : Nat) (sh : Nat) (un : Nat) (so : Nat) (si : Nat) (prs : Nat) (yrs : Nat) (bs : Nat) (sc : Nat) (gsi : Nat → Nat) (sy : Nat) (b : Nat) : (Nat → Prop) → Array Value → State → Outcome → State → Prop := mv_Qv D Y (fun (_ : Unit) => True) (fun _ : Unit => ([(w, .inr (6, [.ref h, .ref ca, .int (nI prs), .int (nI yrs), .ref ro, .ref sh, .ref un, .ref so, .ref si, .int (nI (addB bs sc b)), .int (nI (sc + 1))])), (si, .inl (Y 0, 8, .inl (aN (uN gsi sc sy))))] : va_W))
set_option maxHeartbeats 4000000 in
set_option maxRecDepth 100000 in
theorem c_X6_addSight (l : Launch) (D : va_G) (Y : Nat → ClassId) (sz : Nat) (w : Nat) (h : Nat) (ca : Nat) (ro : Nat) (sh : Nat) (un : Nat) (so : Nat) (si : Nat) (prs : Nat) (yrs : Nat) (bs : Nat) (sc : Nat) (gsi : Nat → Nat) (sy : Nat) (b : Nat) (hsc : sc < 8) (hb2 : b < 2) : mv_C l D Y yX6_addSight cX6_addSight 4 none 0 0 0 [.ref w, .int (nI sy), .int (nI b)] sz [(w, .inr (6, [.ref h, .ref ca, .int (nI prs), .int (nI yrs), .ref ro, .ref sh, .ref un, .ref so, .ref si, .int (nI bs), .int (nI sc)])), (si, .inl (Y 0, 8, .inl (aN gsi)))] (q_X6_addSight D Y w h ca ro sh un so si prs yrs bs sc gsi sy b) := by
  refine mv_ofW (by decide) (Nat.le_of_ble_eq_true rfl) ?_
  intro p e s m below meth c ls A hx hb hr hlocks hml hnm hown hts hsz hAe hP hK hD hS hST hA hl
  have hl : lv_has ls 4 [(0, .ref w), (1, .int (nI sy)), (2, .int (nI b))] := hl
  refine lv_aload_n hx hb dX6_addSight_0 rfl (lv_at hl 0 rfl) ?_
  refine va_get (D := D) (ci := 6) (v := .int (nI sc)) (C := RX6) (T := TX6) (N := 11) hx hb hts inlX6 hown hK hP 0 rfl rfl 10 (by decide) (hts _ mw_236) (fun _ h9 => h9) rfl dX6_addSight_1 ?_
  refine lv_bipush (v := nI 8) hx hb dX6_addSight_4 (by decide) ?_
  refine mv_icmp_lt (tgt := 10) hx hb (by omega) (by omega) dX6_addSight_6 (by decide) (fun c6 => ?_) (fun c6 => ?_)
  · skip
    refine lv_iconst (v := nI 1) hx hb dX6_addSight_10 (by decide) ?_
    refine lv_aload_n hx hb dX6_addSight_11 rfl (lv_at hl 0 rfl) ?_
    refine va_get (D := D) (ci := 6) (v := .int (nI sc)) (C := RX6) (T := TX6) (N := 11) hx hb hts inlX6 hown hK hP 0 rfl rfl 10 (by decide) (hts _ mw_236) (fun _ h9 => h9) rfl dX6_addSight_12 ?_
    refine mv_ishl hx hb (by omega) dX6_addSight_15 ?_
    refine lv_istore_n (lv' := [(3, .int (nI (1 * 2 ^ sc))), (0, .ref w), (1, .int (nI sy)), (2, .int (nI b))]) hx hb dX6_addSight_16 rfl hl (by decide) rfl (fun ls hl => ?_)
    refine lv_aload_n hx hb dX6_addSight_17 rfl (lv_at hl 1 rfl) ?_
    refine va_get (D := D) (ci := 6) (v := .ref si) (C := RX6) (T := TX6) (N := 11) hx hb hts inlX6 hown hK hP 0 rfl rfl 8 (by decide) (hts _ mw_51) (fun _ h9 => h9) rfl dX6_addSight_18 ?_
    refine lv_aload_n hx hb dX6_addSight_21 rfl (lv_at hl 1 rfl) ?_
    refine va_get (D := D) (ci := 6) (v := .int (nI sc)) (C := RX6) (T := TX6) (N := 11) hx hb hts inlX6 hown hK hP 0 rfl rfl 10 (by decide) (hts _ mw_236) (fun _ h9 => h9) rfl dX6_addSight_22 ?_
    refine lv_iload_n hx hb dX6_addSight_25 rfl (lv_at hl 2 rfl) ?_
    refine mv_iast hx hb hK hP hD hS 1 rfl (i := sc) (v := sy) (by omega) (by decide) dX6_addSight_26 (fun H locs hP hD hS => ?_)
    have hP : va_P D vwCl [(w, .inr (6, [.ref h, .ref ca, .int (nI prs), .int (nI yrs), .ref ro, .ref sh, .ref un, .ref so, .ref si, .int (nI bs), .int (nI sc)])), (si, .inl (Y 0, 8, .inl (aN (uN gsi sc sy))))] H := hP
    have hD : va_D A [(w, .inr (6, [.ref h, .ref ca, .int (nI prs), .int (nI yrs), .ref ro, .ref sh, .ref un, .ref so, .ref si, .int (nI bs), .int (nI sc)])), (si, .inl (Y 0, 8, .inl (aN (uN gsi sc sy))))] := hD
    refine lv_aload_n hx hb dX6_addSight_27 rfl (lv_at hl 1 rfl) ?_
    refine lv_iload_n hx hb dX6_addSight_28 rfl (lv_at hl 3 rfl) ?_
    refine mv_if_eq (tgt := 41) hx hb (by omega) dX6_addSight_29 (by decide) (fun c29 => ?_) (fun c29 => ?_)
    · skip
      refine lv_aload_n hx hb dX6_addSight_41 rfl (lv_at hl 1 rfl) ?_
      refine va_get (D := D) (ci := 6) (v := .int (nI bs)) (C := RX6) (T := TX6) (N := 11) hx hb hts inlX6 hown hK hP 0 rfl rfl 9 (by decide) (hts _ mw_235) (fun _ h9 => h9) rfl dX6_addSight_42 ?_
      refine lv_iload_n hx hb dX6_addSight_45 rfl (lv_at hl 0 rfl) ?_
      refine lv_iconst (v := nI 4294967295) hx hb dX6_addSight_46 (by decide) ?_
      refine mv_ixor hx hb dX6_addSight_47 ?_
      refine mv_iand hx hb dX6_addSight_48 ?_
      rw [show bs &&& (1 * 2 ^ sc ^^^ 4294967295) = addB bs sc b from (if_neg (by omega)).symm]
      refine va_put (D := D) (ci := 6) (v := .int (nI (addB bs sc b))) (ty := .int) (C := RX6) (T := TX6) (N := 11) hx hb hts inlX6 tyX6 tyX6_ok nmX6 hown hK hP hD hS 0 rfl rfl 9 (by decide) (hts _ mw_235) (fun _ h9 => h9) rfl (by decide +kernel) rfl rfl (Nat.le_of_ble_eq_true rfl) dX6_addSight_49 (fun H locs hP hD hS => ?_)
      have hP : va_P D vwCl [(w, .inr (6, [.ref h, .ref ca, .int (nI prs), .int (nI yrs), .ref ro, .ref sh, .ref un, .ref so, .ref si, .int (nI (addB bs sc b)), .int (nI sc)])), (si, .inl (Y 0, 8, .inl (aN (uN gsi sc sy))))] H := hP
      have hD : va_D A [(w, .inr (6, [.ref h, .ref ca, .int (nI prs), .int (nI yrs), .ref ro, .ref sh, .ref un, .ref so, .ref si, .int (nI (addB bs sc b)), .int (nI sc)])), (si, .inl (Y 0, 8, .inl (aN (uN gsi sc sy))))] := hD
      refine lv_aload_n hx hb dX6_addSight_52 rfl (lv_at hl 1 rfl) ?_
      refine lv_dup hx hb dX6_addSight_53 rfl ?_
      refine va_get (D := D) (ci := 6) (v := .int (nI sc)) (C := RX6) (T := TX6) (N := 11) hx hb hts inlX6 hown hK hP 0 rfl rfl 10 (by decide) (hts _ mw_236) (fun _ h9 => h9) rfl dX6_addSight_54 ?_
      refine lv_iconst (v := nI 1) hx hb dX6_addSight_57 (by decide) ?_
      refine mv_iadd hx hb dX6_addSight_58 ?_
      refine va_put (D := D) (ci := 6) (v := .int (nI (sc + 1))) (ty := .int) (C := RX6) (T := TX6) (N := 11) hx hb hts inlX6 tyX6 tyX6_ok nmX6 hown hK hP hD hS 0 rfl rfl 10 (by decide) (hts _ mw_236) (fun _ h9 => h9) rfl (by decide +kernel) rfl rfl (Nat.le_of_ble_eq_true rfl) dX6_addSight_59 (fun H locs hP hD hS => ?_)
      have hP : va_P D vwCl [(w, .inr (6, [.ref h, .ref ca, .int (nI prs), .int (nI yrs), .ref ro, .ref sh, .ref un, .ref so, .ref si, .int (nI (addB bs sc b)), .int (nI (sc + 1))])), (si, .inl (Y 0, 8, .inl (aN (uN gsi sc sy))))] H := hP
      have hD : va_D A [(w, .inr (6, [.ref h, .ref ca, .int (nI prs), .int (nI yrs), .ref ro, .ref sh, .ref un, .ref so, .ref si, .int (nI (addB bs sc b)), .int (nI (sc + 1))])), (si, .inl (Y 0, 8, .inl (aN (uN gsi sc sy))))] := hD
      exact mv_vret hx hb hr hlocks () (trivial) hP hK hD hS dX6_addSight_62
    · skip
      refine lv_aload_n hx hb dX6_addSight_32 rfl (lv_at hl 1 rfl) ?_
      refine va_get (D := D) (ci := 6) (v := .int (nI bs)) (C := RX6) (T := TX6) (N := 11) hx hb hts inlX6 hown hK hP 0 rfl rfl 9 (by decide) (hts _ mw_235) (fun _ h9 => h9) rfl dX6_addSight_33 ?_
      refine lv_iload_n hx hb dX6_addSight_36 rfl (lv_at hl 0 rfl) ?_
      refine mv_ior hx hb dX6_addSight_37 ?_
      refine lv_goto (tgt := 49) hx hb dX6_addSight_38 (by decide) ?_
      rw [show bs ||| 1 * 2 ^ sc = addB bs sc b from (if_pos c29).symm]
      refine va_put (D := D) (ci := 6) (v := .int (nI (addB bs sc b))) (ty := .int) (C := RX6) (T := TX6) (N := 11) hx hb hts inlX6 tyX6 tyX6_ok nmX6 hown hK hP hD hS 0 rfl rfl 9 (by decide) (hts _ mw_235) (fun _ h9 => h9) rfl (by decide +kernel) rfl rfl (Nat.le_of_ble_eq_true rfl) dX6_addSight_49 (fun H locs hP hD hS => ?_)
      have hP : va_P D vwCl [(w, .inr (6, [.ref h, .ref ca, .int (nI prs), .int (nI yrs), .ref ro, .ref sh, .ref un, .ref so, .ref si, .int (nI (addB bs sc b)), .int (nI sc)])), (si, .inl (Y 0, 8, .inl (aN (uN gsi sc sy))))] H := hP
      have hD : va_D A [(w, .inr (6, [.ref h, .ref ca, .int (nI prs), .int (nI yrs), .ref ro, .ref sh, .ref un, .ref so, .ref si, .int (nI (addB bs sc b)), .int (nI sc)])), (si, .inl (Y 0, 8, .inl (aN (uN gsi sc sy))))] := hD
      refine lv_aload_n hx hb dX6_addSight_52 rfl (lv_at hl 1 rfl) ?_
      refine lv_dup hx hb dX6_addSight_53 rfl ?_
      refine va_get (D := D) (ci := 6) (v := .int (nI sc)) (C := RX6) (T := TX6) (N := 11) hx hb hts inlX6 hown hK hP 0 rfl rfl 10 (by decide) (hts _ mw_236) (fun _ h9 => h9) rfl dX6_addSight_54 ?_
      refine lv_iconst (v := nI 1) hx hb dX6_addSight_57 (by decide) ?_
      refine mv_iadd hx hb dX6_addSight_58 ?_
      refine va_put (D := D) (ci := 6) (v := .int (nI (sc + 1))) (ty := .int) (C := RX6) (T := TX6) (N := 11) hx hb hts inlX6 tyX6 tyX6_ok nmX6 hown hK hP hD hS 0 rfl rfl 10 (by decide) (hts _ mw_236) (fun _ h9 => h9) rfl (by decide +kernel) rfl rfl (Nat.le_of_ble_eq_true rfl) dX6_addSight_59 (fun H locs hP hD hS => ?_)
      have hP : va_P D vwCl [(w, .inr (6, [.ref h, .ref ca, .int (nI prs), .int (nI yrs), .ref ro, .ref sh, .ref un, .ref so, .ref si, .int (nI (addB bs sc b)), .int (nI (sc + 1))])), (si, .inl (Y 0, 8, .inl (aN (uN gsi sc sy))))] H := hP
      have hD : va_D A [(w, .inr (6, [.ref h, .ref ca, .int (nI prs), .int (nI yrs), .ref ro, .ref sh, .ref un, .ref so, .ref si, .int (nI (addB bs sc b)), .int (nI (sc + 1))])), (si, .inl (Y 0, 8, .inl (aN (uN gsi sc sy))))] := hD
      exact mv_vret hx hb hr hlocks () (trivial) hP hK hD hS dX6_addSight_62
  · skip
    exfalso; omega
abbrev q_X6_fitsSights (D : va_G) (Y : Nat → ClassId) (w : Nat) (h : Nat) (ca : Nat) (ro : Nat) (sh : Nat) (un : Nat) (so : Nat) (si : Nat) (prs : Nat) (yrs : Nat) (bs : Nat) (sc : Nat) (gsi : Nat → Nat) (sy : Nat) : (Nat → Prop) → Array Value → State → Outcome → State → Prop := mv_Qi D Y (fun (r : Int32) (_ : Unit) => r = nI (bN (fitS gsi bs sy sc))) (fun _ : Unit => ([(w, .inr (6, [.ref h, .ref ca, .int (nI prs), .int (nI yrs), .ref ro, .ref sh, .ref un, .ref so, .ref si, .int (nI bs), .int (nI sc)])), (si, .inl (Y 0, 8, .inl (aN gsi)))] : va_W))
set_option maxHeartbeats 4000000 in
set_option maxRecDepth 100000 in
theorem c_X6_fitsSights (l : Launch) (D : va_G) (Y : Nat → ClassId) (sz : Nat) (w : Nat) (h : Nat) (ca : Nat) (ro : Nat) (sh : Nat) (un : Nat) (so : Nat) (si : Nat) (prs : Nat) (yrs : Nat) (bs : Nat) (sc : Nat) (gsi : Nat → Nat) (sy : Nat) (hsc : sc ≤ 8) (hbs : bs < 2 ^ 31) (hu : ∀ k, k < 8 → gsi k < 1024) : mv_C l D Y yX6_fitsSights cX6_fitsSights 4 (some .boolean) 0 0 0 [.ref w, .int (nI sy)] sz [(w, .inr (6, [.ref h, .ref ca, .int (nI prs), .int (nI yrs), .ref ro, .ref sh, .ref un, .ref so, .ref si, .int (nI bs), .int (nI sc)])), (si, .inl (Y 0, 8, .inl (aN gsi)))] (q_X6_fitsSights D Y w h ca ro sh un so si prs yrs bs sc gsi sy) := by
  refine mv_ofW (by decide) (Nat.le_of_ble_eq_true rfl) ?_
  intro p e s m below meth c ls A hx hb hr hlocks hml hnm hown hts hsz hAe hP hK hD hS hST hA hl
  have hl : lv_has ls 4 [(0, .ref w), (1, .int (nI sy))] := hl
  have L2 : ∀ (fu : Nat) (k : Nat) (hk : k ≤ sc) (hf : fitS gsi bs sy k = true) (hmeas : sc - k < fu) (H : Heap) (locs : List Loc) (ls : Array Slot), va_P D vwCl [(w, .inr (6, [.ref h, .ref ca, .int (nI prs), .int (nI yrs), .ref ro, .ref sh, .ref un, .ref so, .ref si, .int (nI bs), .int (nI sc)])), (si, .inl (Y 0, 8, .inl (aN gsi)))] H → va_D A [(w, .inr (6, [.ref h, .ref ca, .int (nI prs), .int (nI yrs), .ref ro, .ref sh, .ref un, .ref so, .ref si, .int (nI bs), .int (nI sc)])), (si, .inl (Y 0, 8, .inl (aN gsi)))] → va_S A s.heap H locs → lv_has ls 4 [(2, .int (nI k)), (0, .ref w), (1, .int (nI sy))] → W p l e (mv_R 0 0 0) s m [.ref w, .int (nI sy)].toArray below meth c H locs 0 0 (MQ below ((q_X6_fitsSights D Y w h ca ro sh un so si prs yrs bs sc gsi sy) A) [.ref w, .int (nI sy)].toArray s 0 0 A) (F0 m 2 ls []) := by
    intro fu
    induction fu with
    | zero =>
      intro k hk hf hmeas
      exact absurd hmeas (Nat.not_lt_zero _)
    | succ fu L2ih =>
      intro k hk hf hmeas H locs ls hP hD hS hl
      have L33 : ∀ (b : Nat) (hb3 : b = bs / 2 ^ k % 2) (hks : k < sc) (H : Heap) (locs : List Loc) (ls : Array Slot), va_P D vwCl [(w, .inr (6, [.ref h, .ref ca, .int (nI prs), .int (nI yrs), .ref ro, .ref sh, .ref un, .ref so, .ref si, .int (nI bs), .int (nI sc)])), (si, .inl (Y 0, 8, .inl (aN gsi)))] H → va_D A [(w, .inr (6, [.ref h, .ref ca, .int (nI prs), .int (nI yrs), .ref ro, .ref sh, .ref un, .ref so, .ref si, .int (nI bs), .int (nI sc)])), (si, .inl (Y 0, 8, .inl (aN gsi)))] → va_S A s.heap H locs → lv_has ls 4 [(3, .int (nI b)), (2, .int (nI k)), (0, .ref w), (1, .int (nI sy))] → W p l e (mv_R 0 0 0) s m [.ref w, .int (nI sy)].toArray below meth c H locs 0 0 (MQ below ((q_X6_fitsSights D Y w h ca ro sh un so si prs yrs bs sc gsi sy) A) [.ref w, .int (nI sy)].toArray s 0 0 A) (F0 m 33 ls []) := by
        intro b hb3 hks H locs ls hP hD hS hl
        have L49 : ∀ (z : Nat) (hz : (z = 1 ∧ gsi k &&& sy ≠ 0) ∨ (z = 0 ∧ gsi k &&& sy = 0)) (H : Heap) (locs : List Loc) (ls : Array Slot), va_P D vwCl [(w, .inr (6, [.ref h, .ref ca, .int (nI prs), .int (nI yrs), .ref ro, .ref sh, .ref un, .ref so, .ref si, .int (nI bs), .int (nI sc)])), (si, .inl (Y 0, 8, .inl (aN gsi)))] H → va_D A [(w, .inr (6, [.ref h, .ref ca, .int (nI prs), .int (nI yrs), .ref ro, .ref sh, .ref un, .ref so, .ref si, .int (nI bs), .int (nI sc)])), (si, .inl (Y 0, 8, .inl (aN gsi)))] → va_S A s.heap H locs → lv_has ls 4 [(3, .int (nI b)), (2, .int (nI k)), (0, .ref w), (1, .int (nI sy))] → W p l e (mv_R 0 0 0) s m [.ref w, .int (nI sy)].toArray below meth c H locs 0 0 (MQ below ((q_X6_fitsSights D Y w h ca ro sh un so si prs yrs bs sc gsi sy) A) [.ref w, .int (nI sy)].toArray s 0 0 A) (F0 m 49 ls [.int (nI z)]) := by
          intro z hz H locs ls hP hD hS hl
          refine lv_iload_n hx hb dX6_fitsSights_49 rfl (lv_at hl 0 rfl) ?_
          refine mv_icmp_eq (tgt := 55) hx hb (by first | omega | (have := Nat.and_le_left (n := gsi k) (m := sy); have := hu k (by omega); omega)) (by omega) dX6_fitsSights_50 (by decide) (fun c50 => ?_) (fun c50 => ?_)
          · skip
            refine lv_iinc (v := nI (k + 1)) (lv' := [(2, .int (nI (k + 1))), (3, .int (nI b)), (0, .ref w), (1, .int (nI sy))]) hx hb dX6_fitsSights_55 hl (k := 1) rfl (by exact nI_add _ 1) (by decide) rfl (fun ls hl => ?_)
            refine lv_goto (tgt := 2) hx hb dX6_fitsSights_58 (by decide) ?_
            exact L2ih  (k + 1) (by first | assumption | omega | rfl) (by first | rfl | (unfold fitS; rw [hf, Bool.true_and]; exact decide_eq_true ⟨fun q => by omega, fun q => by omega⟩)) (by omega) _ _ _ hP hD hS (lv_sub hl [0, 2, 3] rfl)
          · skip
            refine lv_iconst (v := nI 0) hx hb dX6_fitsSights_53 (by decide) ?_
            exact mv_zret hx hb hr hlocks (by omega) () (by have : fitS gsi bs sy (k + 1) = false := (by unfold fitS; rw [hf, Bool.true_and]; exact decide_eq_false fun q => c50 (by omega)); rw [fitS_no (by omega) this]; rfl) hP hK hD hS dX6_fitsSights_54
        refine lv_aload_n hx hb dX6_fitsSights_33 rfl (lv_at hl 2 rfl) ?_
        refine va_get (D := D) (ci := 6) (v := .ref si) (C := RX6) (T := TX6) (N := 11) hx hb hts inlX6 hown hK hP 0 rfl rfl 8 (by decide) (hts _ mw_51) (fun _ h9 => h9) rfl dX6_fitsSights_34 ?_
        refine lv_iload_n hx hb dX6_fitsSights_37 rfl (lv_at hl 1 rfl) ?_
        refine mv_iald hx hb hK hP 1 rfl (i := k) (by omega) (by decide) dX6_fitsSights_38 ?_
        refine lv_iload_n hx hb dX6_fitsSights_39 rfl (lv_at hl 3 rfl) ?_
        refine mv_iand hx hb dX6_fitsSights_40 ?_
        refine mv_if_eq (tgt := 48) hx hb (by first | omega | (have := Nat.and_le_left (n := gsi k) (m := sy); have := hu k (by omega); omega)) dX6_fitsSights_41 (by decide) (fun c41 => ?_) (fun c41 => ?_)
        · skip
          refine lv_iconst (v := nI 0) hx hb dX6_fitsSights_48 (by decide) ?_
          exact L49  0 (by first | exact Or.inl ⟨rfl, c41⟩ | exact Or.inr ⟨rfl, c41⟩) _ _ _ hP hD hS (lv_sub hl [0, 1, 2, 3] rfl)
        · skip
          refine lv_iconst (v := nI 1) hx hb dX6_fitsSights_44 (by decide) ?_
          refine lv_goto (tgt := 49) hx hb dX6_fitsSights_45 (by decide) ?_
          exact L49  1 (by first | exact Or.inl ⟨rfl, c41⟩ | exact Or.inr ⟨rfl, c41⟩) _ _ _ hP hD hS (lv_sub hl [0, 1, 2, 3] rfl)
      refine lv_iload_n hx hb dX6_fitsSights_2 rfl (lv_at hl 0 rfl) ?_
      refine lv_aload_n hx hb dX6_fitsSights_3 rfl (lv_at hl 1 rfl) ?_
      refine va_get (D := D) (ci := 6) (v := .int (nI sc)) (C := RX6) (T := TX6) (N := 11) hx hb hts inlX6 hown hK hP 0 rfl rfl 10 (by decide) (hts _ mw_236) (fun _ h9 => h9) rfl dX6_fitsSights_4 ?_
      refine mv_icmp_ge (tgt := 61) hx hb (by first | omega | (have := Nat.and_le_left (n := gsi k) (m := sy); have := hu k (by omega); omega)) (by omega) dX6_fitsSights_7 (by decide) (fun c7 => ?_) (fun c7 => ?_)
      · skip
        refine lv_iconst (v := nI 1) hx hb dX6_fitsSights_61 (by decide) ?_
        exact mv_zret hx hb hr hlocks (by omega) () (by rw [← show k = sc by omega, hf]; rfl) hP hK hD hS dX6_fitsSights_62
      · skip
        refine lv_iload_n hx hb dX6_fitsSights_10 rfl (lv_at hl 0 rfl) ?_
        refine lv_bipush (v := nI 8) hx hb dX6_fitsSights_11 (by decide) ?_
        refine mv_icmp_ge (tgt := 61) hx hb (by first | omega | (have := Nat.and_le_left (n := gsi k) (m := sy); have := hu k (by omega); omega)) (by omega) dX6_fitsSights_13 (by decide) (fun c13 => ?_) (fun c13 => ?_)
        · skip
          exfalso; omega
        · skip
          refine lv_aload_n hx hb dX6_fitsSights_16 rfl (lv_at hl 1 rfl) ?_
          refine va_get (D := D) (ci := 6) (v := .int (nI bs)) (C := RX6) (T := TX6) (N := 11) hx hb hts inlX6 hown hK hP 0 rfl rfl 9 (by decide) (hts _ mw_235) (fun _ h9 => h9) rfl dX6_fitsSights_17 ?_
          refine lv_iload_n hx hb dX6_fitsSights_20 rfl (lv_at hl 0 rfl) ?_
          refine mv_ishr hx hb (by first | omega | (have := Nat.and_le_left (n := gsi k) (m := sy); have := hu k (by omega); omega)) (by omega) dX6_fitsSights_21 ?_
          refine lv_iconst (v := nI 1) hx hb dX6_fitsSights_22 (by decide) ?_
          refine mv_iand1 hx hb dX6_fitsSights_23 ?_
          refine mv_if_eq (tgt := 31) hx hb (by first | omega | (have := Nat.and_le_left (n := gsi k) (m := sy); have := hu k (by omega); omega)) dX6_fitsSights_24 (by decide) (fun c24 => ?_) (fun c24 => ?_)
          · skip
            refine lv_iconst (v := nI 0) hx hb dX6_fitsSights_31 (by decide) ?_
            refine lv_istore_n (lv' := [(3, .int (nI 0)), (2, .int (nI k)), (0, .ref w), (1, .int (nI sy))]) hx hb dX6_fitsSights_32 rfl hl (by decide) rfl (fun ls hl => ?_)
            exact L33  0 (by first | assumption | omega | rfl) (by first | assumption | omega | rfl) _ _ _ hP hD hS (lv_sub hl [0, 1, 2, 3] rfl)
          · skip
            refine lv_iconst (v := nI 1) hx hb dX6_fitsSights_27 (by decide) ?_
            refine lv_goto (tgt := 32) hx hb dX6_fitsSights_28 (by decide) ?_
            refine lv_istore_n (lv' := [(3, .int (nI 1)), (2, .int (nI k)), (0, .ref w), (1, .int (nI sy))]) hx hb dX6_fitsSights_32 rfl hl (by decide) rfl (fun ls hl => ?_)
            exact L33  1 (by first | assumption | omega | rfl) (by first | assumption | omega | rfl) _ _ _ hP hD hS (lv_sub hl [0, 1, 2, 3] rfl)
  refine lv_iconst (v := nI 0) hx hb dX6_fitsSights_0 (by decide) ?_
  refine lv_istore_n (lv' := [(2, .int (nI 0)), (0, .ref w), (1, .int (nI sy))]) hx hb dX6_fitsSights_1 rfl hl (by decide) rfl (fun ls hl => ?_)
  exact L2 (sc - 0 + 1) 0 (by first | assumption | omega | rfl) (by first | rfl | (unfold fitS; rw [hf, Bool.true_and]; exact decide_eq_true ⟨fun q => by omega, fun q => by omega⟩)) (Nat.lt_succ_self _) _ _ _ hP hD hS (lv_sub hl [0, 1, 2] rfl)
abbrev q_X6_init (D : va_G) (Y : Nat → ClassId) (w : Nat) : (Nat → Prop) → Array Value → State → Outcome → State → Prop := mv_Qv D Y (fun (u : Nat × Nat × Nat × Nat × Nat × Nat × Nat) => True) (fun u : Nat × Nat × Nat × Nat × Nat × Nat × Nat => ([(w, .inr (6, [.ref u.1, .ref u.2.1, .int (nI 0), .int (nI 0), .ref u.2.2.1, .ref u.2.2.2.1, .ref u.2.2.2.2.1, .ref u.2.2.2.2.2.1, .ref u.2.2.2.2.2.2, .int (nI 0), .int (nI 0)])), (u.1, .inl (Y 0, 6, .inl (aN (fun _ => 0)))), (u.2.1, .inl (Y 0, 6, .inl (aN (fun _ => 0)))), (u.2.2.1, .inl (Y 0, 10, .inl (aN (fun _ => 0)))), (u.2.2.2.1, .inl (Y 0, 10, .inl (aN (fun _ => 0)))), (u.2.2.2.2.1, .inl (Y 0, 10, .inl (aN (fun _ => 0)))), (u.2.2.2.2.2.1, .inl (Y 0, 5, .inl (aN (fun _ => 0)))), (u.2.2.2.2.2.2, .inl (Y 0, 8, .inl (aN (fun _ => 0))))] : va_W))
set_option maxHeartbeats 4000000 in
set_option maxRecDepth 100000 in
theorem c_X6_init (l : Launch) (D : va_G) (Y : Nat → ClassId) (sz : Nat) (w : Nat)  : mv_C l D Y yX6_init cX6_init 1 none 1 7 55 [.ref w] sz [(w, .inr (6, [.null, .null, .int (nI 0), .int (nI 0), .null, .null, .null, .null, .null, .int (nI 0), .int (nI 0)]))] (q_X6_init D Y w) := by
  refine mv_ofW (by decide) (Nat.le_of_ble_eq_true rfl) ?_
  intro p e s m below meth c ls A hx hb hr hlocks hml hnm hown hts hsz hAe hP hK hD hS hST hA hl
  have hl : lv_has ls 1 [(0, .ref w)] := hl
  refine lv_aload_n hx hb dX6_init_0 rfl (lv_at hl 0 rfl) ?_
  refine W.objInit hx hb hown (hts _ mw_43) (hts _ mw_10) (hts _ mw_11) rfl (by rw [hml]; exact hl.1) rfl dX6_init_1 (Nat.le_of_ble_eq_true rfl) (Nat.le_of_ble_eq_true rfl) ?_
  refine W.eq (g2 := F0 m 4 ls []) rfl ?_
  refine lv_aload_n hx hb dX6_init_4 rfl (lv_at hl 0 rfl) ?_
  refine lv_bipush (v := nI 6) hx hb dX6_init_5 (by decide) ?_
  refine mv_newaI hx hb hts hK hP hD hS hA (n := 6) (by decide) (by decide) (Nat.le_of_ble_eq_true rfl) (Nat.le_of_ble_eq_true rfl) dX6_init_7 (fun q_1 H hP hD hS => ?_)
  have hP : va_P D vwCl [(w, .inr (6, [.null, .null, .int (nI 0), .int (nI 0), .null, .null, .null, .null, .null, .int (nI 0), .int (nI 0)])), (q_1, .inl (Y 0, 6, .inl (aN (fun _ => 0))))] H := hP
  have hD : va_D A [(w, .inr (6, [.null, .null, .int (nI 0), .int (nI 0), .null, .null, .null, .null, .null, .int (nI 0), .int (nI 0)])), (q_1, .inl (Y 0, 6, .inl (aN (fun _ => 0))))] := hD
  refine W.widen (k := 1) (n := 6) (by omega) (by omega) ?_
  refine va_putF (D := D) (ci := 6) (v := .ref q_1) (ty := .array .int) (C := RX6) (T := TX6) (N := 11) hx hb hts inlX6 tyX6 tyX6_ok nmX6 hown hK hP hD hS 0 rfl rfl 0 (by decide) (hts _ mw_45) (fun _ h9 => h9) rfl hnm rfl (by decide +kernel) rfl rfl (Nat.le_of_ble_eq_true rfl) dX6_init_9 (fun H locs hP hD hS => ?_)
  have hP : va_P D vwCl [(w, .inr (6, [.ref q_1, .null, .int (nI 0), .int (nI 0), .null, .null, .null, .null, .null, .int (nI 0), .int (nI 0)])), (q_1, .inl (Y 0, 6, .inl (aN (fun _ => 0))))] H := hP
  have hD : va_D A [(w, .inr (6, [.ref q_1, .null, .int (nI 0), .int (nI 0), .null, .null, .null, .null, .null, .int (nI 0), .int (nI 0)])), (q_1, .inl (Y 0, 6, .inl (aN (fun _ => 0))))] := hD
  refine lv_aload_n hx hb dX6_init_12 rfl (lv_at hl 0 rfl) ?_
  refine lv_bipush (v := nI 6) hx hb dX6_init_13 (by decide) ?_
  refine mv_newaI hx hb hts hK hP hD hS hA (n := 6) (by decide) (by decide) (Nat.le_of_ble_eq_true rfl) (Nat.le_of_ble_eq_true rfl) dX6_init_15 (fun q_2 H hP hD hS => ?_)
  have hP : va_P D vwCl [(w, .inr (6, [.ref q_1, .null, .int (nI 0), .int (nI 0), .null, .null, .null, .null, .null, .int (nI 0), .int (nI 0)])), (q_1, .inl (Y 0, 6, .inl (aN (fun _ => 0)))), (q_2, .inl (Y 0, 6, .inl (aN (fun _ => 0))))] H := hP
  have hD : va_D A [(w, .inr (6, [.ref q_1, .null, .int (nI 0), .int (nI 0), .null, .null, .null, .null, .null, .int (nI 0), .int (nI 0)])), (q_1, .inl (Y 0, 6, .inl (aN (fun _ => 0)))), (q_2, .inl (Y 0, 6, .inl (aN (fun _ => 0))))] := hD
  refine W.widen (k := 2) (n := 12) (by omega) (by omega) ?_
  refine va_putF (D := D) (ci := 6) (v := .ref q_2) (ty := .array .int) (C := RX6) (T := TX6) (N := 11) hx hb hts inlX6 tyX6 tyX6_ok nmX6 hown hK hP hD hS 0 rfl rfl 1 (by decide) (hts _ mw_46) (fun _ h9 => h9) rfl hnm rfl (by decide +kernel) rfl rfl (Nat.le_of_ble_eq_true rfl) dX6_init_17 (fun H locs hP hD hS => ?_)
  have hP : va_P D vwCl [(w, .inr (6, [.ref q_1, .ref q_2, .int (nI 0), .int (nI 0), .null, .null, .null, .null, .null, .int (nI 0), .int (nI 0)])), (q_1, .inl (Y 0, 6, .inl (aN (fun _ => 0)))), (q_2, .inl (Y 0, 6, .inl (aN (fun _ => 0))))] H := hP
  have hD : va_D A [(w, .inr (6, [.ref q_1, .ref q_2, .int (nI 0), .int (nI 0), .null, .null, .null, .null, .null, .int (nI 0), .int (nI 0)])), (q_1, .inl (Y 0, 6, .inl (aN (fun _ => 0)))), (q_2, .inl (Y 0, 6, .inl (aN (fun _ => 0))))] := hD
  refine lv_aload_n hx hb dX6_init_20 rfl (lv_at hl 0 rfl) ?_
  refine lv_bipush (v := nI 10) hx hb dX6_init_21 (by decide) ?_
  refine mv_newaI hx hb hts hK hP hD hS hA (n := 10) (by decide) (by decide) (Nat.le_of_ble_eq_true rfl) (Nat.le_of_ble_eq_true rfl) dX6_init_23 (fun q_3 H hP hD hS => ?_)
  have hP : va_P D vwCl [(w, .inr (6, [.ref q_1, .ref q_2, .int (nI 0), .int (nI 0), .null, .null, .null, .null, .null, .int (nI 0), .int (nI 0)])), (q_1, .inl (Y 0, 6, .inl (aN (fun _ => 0)))), (q_2, .inl (Y 0, 6, .inl (aN (fun _ => 0)))), (q_3, .inl (Y 0, 10, .inl (aN (fun _ => 0))))] H := hP
  have hD : va_D A [(w, .inr (6, [.ref q_1, .ref q_2, .int (nI 0), .int (nI 0), .null, .null, .null, .null, .null, .int (nI 0), .int (nI 0)])), (q_1, .inl (Y 0, 6, .inl (aN (fun _ => 0)))), (q_2, .inl (Y 0, 6, .inl (aN (fun _ => 0)))), (q_3, .inl (Y 0, 10, .inl (aN (fun _ => 0))))] := hD
  refine W.widen (k := 3) (n := 22) (by omega) (by omega) ?_
  refine va_putF (D := D) (ci := 6) (v := .ref q_3) (ty := .array .int) (C := RX6) (T := TX6) (N := 11) hx hb hts inlX6 tyX6 tyX6_ok nmX6 hown hK hP hD hS 0 rfl rfl 4 (by decide) (hts _ mw_47) (fun _ h9 => h9) rfl hnm rfl (by decide +kernel) rfl rfl (Nat.le_of_ble_eq_true rfl) dX6_init_25 (fun H locs hP hD hS => ?_)
  have hP : va_P D vwCl [(w, .inr (6, [.ref q_1, .ref q_2, .int (nI 0), .int (nI 0), .ref q_3, .null, .null, .null, .null, .int (nI 0), .int (nI 0)])), (q_1, .inl (Y 0, 6, .inl (aN (fun _ => 0)))), (q_2, .inl (Y 0, 6, .inl (aN (fun _ => 0)))), (q_3, .inl (Y 0, 10, .inl (aN (fun _ => 0))))] H := hP
  have hD : va_D A [(w, .inr (6, [.ref q_1, .ref q_2, .int (nI 0), .int (nI 0), .ref q_3, .null, .null, .null, .null, .int (nI 0), .int (nI 0)])), (q_1, .inl (Y 0, 6, .inl (aN (fun _ => 0)))), (q_2, .inl (Y 0, 6, .inl (aN (fun _ => 0)))), (q_3, .inl (Y 0, 10, .inl (aN (fun _ => 0))))] := hD
  refine lv_aload_n hx hb dX6_init_28 rfl (lv_at hl 0 rfl) ?_
  refine lv_bipush (v := nI 10) hx hb dX6_init_29 (by decide) ?_
  refine mv_newaI hx hb hts hK hP hD hS hA (n := 10) (by decide) (by decide) (Nat.le_of_ble_eq_true rfl) (Nat.le_of_ble_eq_true rfl) dX6_init_31 (fun q_4 H hP hD hS => ?_)
  have hP : va_P D vwCl [(w, .inr (6, [.ref q_1, .ref q_2, .int (nI 0), .int (nI 0), .ref q_3, .null, .null, .null, .null, .int (nI 0), .int (nI 0)])), (q_1, .inl (Y 0, 6, .inl (aN (fun _ => 0)))), (q_2, .inl (Y 0, 6, .inl (aN (fun _ => 0)))), (q_3, .inl (Y 0, 10, .inl (aN (fun _ => 0)))), (q_4, .inl (Y 0, 10, .inl (aN (fun _ => 0))))] H := hP
  have hD : va_D A [(w, .inr (6, [.ref q_1, .ref q_2, .int (nI 0), .int (nI 0), .ref q_3, .null, .null, .null, .null, .int (nI 0), .int (nI 0)])), (q_1, .inl (Y 0, 6, .inl (aN (fun _ => 0)))), (q_2, .inl (Y 0, 6, .inl (aN (fun _ => 0)))), (q_3, .inl (Y 0, 10, .inl (aN (fun _ => 0)))), (q_4, .inl (Y 0, 10, .inl (aN (fun _ => 0))))] := hD
  refine W.widen (k := 4) (n := 32) (by omega) (by omega) ?_
  refine va_putF (D := D) (ci := 6) (v := .ref q_4) (ty := .array .int) (C := RX6) (T := TX6) (N := 11) hx hb hts inlX6 tyX6 tyX6_ok nmX6 hown hK hP hD hS 0 rfl rfl 5 (by decide) (hts _ mw_48) (fun _ h9 => h9) rfl hnm rfl (by decide +kernel) rfl rfl (Nat.le_of_ble_eq_true rfl) dX6_init_33 (fun H locs hP hD hS => ?_)
  have hP : va_P D vwCl [(w, .inr (6, [.ref q_1, .ref q_2, .int (nI 0), .int (nI 0), .ref q_3, .ref q_4, .null, .null, .null, .int (nI 0), .int (nI 0)])), (q_1, .inl (Y 0, 6, .inl (aN (fun _ => 0)))), (q_2, .inl (Y 0, 6, .inl (aN (fun _ => 0)))), (q_3, .inl (Y 0, 10, .inl (aN (fun _ => 0)))), (q_4, .inl (Y 0, 10, .inl (aN (fun _ => 0))))] H := hP
  have hD : va_D A [(w, .inr (6, [.ref q_1, .ref q_2, .int (nI 0), .int (nI 0), .ref q_3, .ref q_4, .null, .null, .null, .int (nI 0), .int (nI 0)])), (q_1, .inl (Y 0, 6, .inl (aN (fun _ => 0)))), (q_2, .inl (Y 0, 6, .inl (aN (fun _ => 0)))), (q_3, .inl (Y 0, 10, .inl (aN (fun _ => 0)))), (q_4, .inl (Y 0, 10, .inl (aN (fun _ => 0))))] := hD
  refine lv_aload_n hx hb dX6_init_36 rfl (lv_at hl 0 rfl) ?_
  refine lv_bipush (v := nI 10) hx hb dX6_init_37 (by decide) ?_
  refine mv_newaI hx hb hts hK hP hD hS hA (n := 10) (by decide) (by decide) (Nat.le_of_ble_eq_true rfl) (Nat.le_of_ble_eq_true rfl) dX6_init_39 (fun q_5 H hP hD hS => ?_)
  have hP : va_P D vwCl [(w, .inr (6, [.ref q_1, .ref q_2, .int (nI 0), .int (nI 0), .ref q_3, .ref q_4, .null, .null, .null, .int (nI 0), .int (nI 0)])), (q_1, .inl (Y 0, 6, .inl (aN (fun _ => 0)))), (q_2, .inl (Y 0, 6, .inl (aN (fun _ => 0)))), (q_3, .inl (Y 0, 10, .inl (aN (fun _ => 0)))), (q_4, .inl (Y 0, 10, .inl (aN (fun _ => 0)))), (q_5, .inl (Y 0, 10, .inl (aN (fun _ => 0))))] H := hP
  have hD : va_D A [(w, .inr (6, [.ref q_1, .ref q_2, .int (nI 0), .int (nI 0), .ref q_3, .ref q_4, .null, .null, .null, .int (nI 0), .int (nI 0)])), (q_1, .inl (Y 0, 6, .inl (aN (fun _ => 0)))), (q_2, .inl (Y 0, 6, .inl (aN (fun _ => 0)))), (q_3, .inl (Y 0, 10, .inl (aN (fun _ => 0)))), (q_4, .inl (Y 0, 10, .inl (aN (fun _ => 0)))), (q_5, .inl (Y 0, 10, .inl (aN (fun _ => 0))))] := hD
  refine W.widen (k := 5) (n := 42) (by omega) (by omega) ?_
  refine va_putF (D := D) (ci := 6) (v := .ref q_5) (ty := .array .int) (C := RX6) (T := TX6) (N := 11) hx hb hts inlX6 tyX6 tyX6_ok nmX6 hown hK hP hD hS 0 rfl rfl 6 (by decide) (hts _ mw_49) (fun _ h9 => h9) rfl hnm rfl (by decide +kernel) rfl rfl (Nat.le_of_ble_eq_true rfl) dX6_init_41 (fun H locs hP hD hS => ?_)
  have hP : va_P D vwCl [(w, .inr (6, [.ref q_1, .ref q_2, .int (nI 0), .int (nI 0), .ref q_3, .ref q_4, .ref q_5, .null, .null, .int (nI 0), .int (nI 0)])), (q_1, .inl (Y 0, 6, .inl (aN (fun _ => 0)))), (q_2, .inl (Y 0, 6, .inl (aN (fun _ => 0)))), (q_3, .inl (Y 0, 10, .inl (aN (fun _ => 0)))), (q_4, .inl (Y 0, 10, .inl (aN (fun _ => 0)))), (q_5, .inl (Y 0, 10, .inl (aN (fun _ => 0))))] H := hP
  have hD : va_D A [(w, .inr (6, [.ref q_1, .ref q_2, .int (nI 0), .int (nI 0), .ref q_3, .ref q_4, .ref q_5, .null, .null, .int (nI 0), .int (nI 0)])), (q_1, .inl (Y 0, 6, .inl (aN (fun _ => 0)))), (q_2, .inl (Y 0, 6, .inl (aN (fun _ => 0)))), (q_3, .inl (Y 0, 10, .inl (aN (fun _ => 0)))), (q_4, .inl (Y 0, 10, .inl (aN (fun _ => 0)))), (q_5, .inl (Y 0, 10, .inl (aN (fun _ => 0))))] := hD
  refine lv_aload_n hx hb dX6_init_44 rfl (lv_at hl 0 rfl) ?_
  refine lv_iconst (v := nI 5) hx hb dX6_init_45 (by decide) ?_
  refine mv_newaI hx hb hts hK hP hD hS hA (n := 5) (by decide) (by decide) (Nat.le_of_ble_eq_true rfl) (Nat.le_of_ble_eq_true rfl) dX6_init_46 (fun q_6 H hP hD hS => ?_)
  have hP : va_P D vwCl [(w, .inr (6, [.ref q_1, .ref q_2, .int (nI 0), .int (nI 0), .ref q_3, .ref q_4, .ref q_5, .null, .null, .int (nI 0), .int (nI 0)])), (q_1, .inl (Y 0, 6, .inl (aN (fun _ => 0)))), (q_2, .inl (Y 0, 6, .inl (aN (fun _ => 0)))), (q_3, .inl (Y 0, 10, .inl (aN (fun _ => 0)))), (q_4, .inl (Y 0, 10, .inl (aN (fun _ => 0)))), (q_5, .inl (Y 0, 10, .inl (aN (fun _ => 0)))), (q_6, .inl (Y 0, 5, .inl (aN (fun _ => 0))))] H := hP
  have hD : va_D A [(w, .inr (6, [.ref q_1, .ref q_2, .int (nI 0), .int (nI 0), .ref q_3, .ref q_4, .ref q_5, .null, .null, .int (nI 0), .int (nI 0)])), (q_1, .inl (Y 0, 6, .inl (aN (fun _ => 0)))), (q_2, .inl (Y 0, 6, .inl (aN (fun _ => 0)))), (q_3, .inl (Y 0, 10, .inl (aN (fun _ => 0)))), (q_4, .inl (Y 0, 10, .inl (aN (fun _ => 0)))), (q_5, .inl (Y 0, 10, .inl (aN (fun _ => 0)))), (q_6, .inl (Y 0, 5, .inl (aN (fun _ => 0))))] := hD
  refine W.widen (k := 6) (n := 47) (by omega) (by omega) ?_
  refine va_putF (D := D) (ci := 6) (v := .ref q_6) (ty := .array .int) (C := RX6) (T := TX6) (N := 11) hx hb hts inlX6 tyX6 tyX6_ok nmX6 hown hK hP hD hS 0 rfl rfl 7 (by decide) (hts _ mw_50) (fun _ h9 => h9) rfl hnm rfl (by decide +kernel) rfl rfl (Nat.le_of_ble_eq_true rfl) dX6_init_48 (fun H locs hP hD hS => ?_)
  have hP : va_P D vwCl [(w, .inr (6, [.ref q_1, .ref q_2, .int (nI 0), .int (nI 0), .ref q_3, .ref q_4, .ref q_5, .ref q_6, .null, .int (nI 0), .int (nI 0)])), (q_1, .inl (Y 0, 6, .inl (aN (fun _ => 0)))), (q_2, .inl (Y 0, 6, .inl (aN (fun _ => 0)))), (q_3, .inl (Y 0, 10, .inl (aN (fun _ => 0)))), (q_4, .inl (Y 0, 10, .inl (aN (fun _ => 0)))), (q_5, .inl (Y 0, 10, .inl (aN (fun _ => 0)))), (q_6, .inl (Y 0, 5, .inl (aN (fun _ => 0))))] H := hP
  have hD : va_D A [(w, .inr (6, [.ref q_1, .ref q_2, .int (nI 0), .int (nI 0), .ref q_3, .ref q_4, .ref q_5, .ref q_6, .null, .int (nI 0), .int (nI 0)])), (q_1, .inl (Y 0, 6, .inl (aN (fun _ => 0)))), (q_2, .inl (Y 0, 6, .inl (aN (fun _ => 0)))), (q_3, .inl (Y 0, 10, .inl (aN (fun _ => 0)))), (q_4, .inl (Y 0, 10, .inl (aN (fun _ => 0)))), (q_5, .inl (Y 0, 10, .inl (aN (fun _ => 0)))), (q_6, .inl (Y 0, 5, .inl (aN (fun _ => 0))))] := hD
  refine lv_aload_n hx hb dX6_init_51 rfl (lv_at hl 0 rfl) ?_
  refine lv_bipush (v := nI 8) hx hb dX6_init_52 (by decide) ?_
  refine mv_newaI hx hb hts hK hP hD hS hA (n := 8) (by decide) (by decide) (Nat.le_of_ble_eq_true rfl) (Nat.le_of_ble_eq_true rfl) dX6_init_54 (fun q_7 H hP hD hS => ?_)
  have hP : va_P D vwCl [(w, .inr (6, [.ref q_1, .ref q_2, .int (nI 0), .int (nI 0), .ref q_3, .ref q_4, .ref q_5, .ref q_6, .null, .int (nI 0), .int (nI 0)])), (q_1, .inl (Y 0, 6, .inl (aN (fun _ => 0)))), (q_2, .inl (Y 0, 6, .inl (aN (fun _ => 0)))), (q_3, .inl (Y 0, 10, .inl (aN (fun _ => 0)))), (q_4, .inl (Y 0, 10, .inl (aN (fun _ => 0)))), (q_5, .inl (Y 0, 10, .inl (aN (fun _ => 0)))), (q_6, .inl (Y 0, 5, .inl (aN (fun _ => 0)))), (q_7, .inl (Y 0, 8, .inl (aN (fun _ => 0))))] H := hP
  have hD : va_D A [(w, .inr (6, [.ref q_1, .ref q_2, .int (nI 0), .int (nI 0), .ref q_3, .ref q_4, .ref q_5, .ref q_6, .null, .int (nI 0), .int (nI 0)])), (q_1, .inl (Y 0, 6, .inl (aN (fun _ => 0)))), (q_2, .inl (Y 0, 6, .inl (aN (fun _ => 0)))), (q_3, .inl (Y 0, 10, .inl (aN (fun _ => 0)))), (q_4, .inl (Y 0, 10, .inl (aN (fun _ => 0)))), (q_5, .inl (Y 0, 10, .inl (aN (fun _ => 0)))), (q_6, .inl (Y 0, 5, .inl (aN (fun _ => 0)))), (q_7, .inl (Y 0, 8, .inl (aN (fun _ => 0))))] := hD
  refine W.widen (k := 7) (n := 55) (by omega) (by omega) ?_
  refine va_putF (D := D) (ci := 6) (v := .ref q_7) (ty := .array .int) (C := RX6) (T := TX6) (N := 11) hx hb hts inlX6 tyX6 tyX6_ok nmX6 hown hK hP hD hS 0 rfl rfl 8 (by decide) (hts _ mw_51) (fun _ h9 => h9) rfl hnm rfl (by decide +kernel) rfl rfl (Nat.le_of_ble_eq_true rfl) dX6_init_56 (fun H locs hP hD hS => ?_)
  have hP : va_P D vwCl [(w, .inr (6, [.ref q_1, .ref q_2, .int (nI 0), .int (nI 0), .ref q_3, .ref q_4, .ref q_5, .ref q_6, .ref q_7, .int (nI 0), .int (nI 0)])), (q_1, .inl (Y 0, 6, .inl (aN (fun _ => 0)))), (q_2, .inl (Y 0, 6, .inl (aN (fun _ => 0)))), (q_3, .inl (Y 0, 10, .inl (aN (fun _ => 0)))), (q_4, .inl (Y 0, 10, .inl (aN (fun _ => 0)))), (q_5, .inl (Y 0, 10, .inl (aN (fun _ => 0)))), (q_6, .inl (Y 0, 5, .inl (aN (fun _ => 0)))), (q_7, .inl (Y 0, 8, .inl (aN (fun _ => 0))))] H := hP
  have hD : va_D A [(w, .inr (6, [.ref q_1, .ref q_2, .int (nI 0), .int (nI 0), .ref q_3, .ref q_4, .ref q_5, .ref q_6, .ref q_7, .int (nI 0), .int (nI 0)])), (q_1, .inl (Y 0, 6, .inl (aN (fun _ => 0)))), (q_2, .inl (Y 0, 6, .inl (aN (fun _ => 0)))), (q_3, .inl (Y 0, 10, .inl (aN (fun _ => 0)))), (q_4, .inl (Y 0, 10, .inl (aN (fun _ => 0)))), (q_5, .inl (Y 0, 10, .inl (aN (fun _ => 0)))), (q_6, .inl (Y 0, 5, .inl (aN (fun _ => 0)))), (q_7, .inl (Y 0, 8, .inl (aN (fun _ => 0))))] := hD
  exact mv_vret hx hb hr hlocks (q_1, q_2, q_3, q_4, q_5, q_6, q_7) (trivial) hP hK hD hS dX6_init_59
abbrev q_X6_copyFrom (D : va_G) (Y : Nat → ClassId) (w : Nat) (h : Nat) (ca : Nat) (ro : Nat) (sh : Nat) (un : Nat) (so : Nat) (si : Nat) (prs : Nat) (yrs : Nat) (bs : Nat) (sc : Nat) (gh : Nat → Nat) (gca : Nat → Nat) (gro : Nat → Nat) (gsh : Nat → Nat) (gun : Nat → Nat) (gso : Nat → Nat) (gsi : Nat → Nat) (w2 : Nat) (h2 : Nat) (ca2 : Nat) (ro2 : Nat) (sh2 : Nat) (un2 : Nat) (so2 : Nat) (si2 : Nat) (prs2 : Nat) (yrs2 : Nat) (bs2 : Nat) (sc2 : Nat) (gh2 : Nat → Nat) (gca2 : Nat → Nat) (gro2 : Nat → Nat) (gsh2 : Nat → Nat) (gun2 : Nat → Nat) (gso2 : Nat → Nat) (gsi2 : Nat → Nat) : (Nat → Prop) → Array Value → State → Outcome → State → Prop := mv_Qv D Y (fun (_ : Unit) => True) (fun _ : Unit => ([(w, .inr (6, [.ref h, .ref ca, .int (nI prs2), .int (nI yrs2), .ref ro, .ref sh, .ref un, .ref so, .ref si, .int (nI bs2), .int (nI sc2)])), (h, .inl (Y 0, 6, .inl (aN gh2))), (ca, .inl (Y 0, 6, .inl (aN gca2))), (ro, .inl (Y 0, 10, .inl (aN gro2))), (sh, .inl (Y 0, 10, .inl (aN gsh2))), (un, .inl (Y 0, 10, .inl (aN gun2))), (so, .inl (Y 0, 5, .inl (aN gso2))), (si, .inl (Y 0, 8, .inl (aN gsi2))), (w2, .inr (6, [.ref h2, .ref ca2, .int (nI prs2), .int (nI yrs2), .ref ro2, .ref sh2, .ref un2, .ref so2, .ref si2, .int (nI bs2), .int (nI sc2)])), (h2, .inl (Y 0, 6, .inl (aN gh2))), (ca2, .inl (Y 0, 6, .inl (aN gca2))), (ro2, .inl (Y 0, 10, .inl (aN gro2))), (sh2, .inl (Y 0, 10, .inl (aN gsh2))), (un2, .inl (Y 0, 10, .inl (aN gun2))), (so2, .inl (Y 0, 5, .inl (aN gso2))), (si2, .inl (Y 0, 8, .inl (aN gsi2)))] : va_W))
set_option maxHeartbeats 4000000 in
set_option maxRecDepth 100000 in
theorem c_X6_copyFrom (l : Launch) (D : va_G) (Y : Nat → ClassId) (sz : Nat) (w : Nat) (h : Nat) (ca : Nat) (ro : Nat) (sh : Nat) (un : Nat) (so : Nat) (si : Nat) (prs : Nat) (yrs : Nat) (bs : Nat) (sc : Nat) (gh : Nat → Nat) (gca : Nat → Nat) (gro : Nat → Nat) (gsh : Nat → Nat) (gun : Nat → Nat) (gso : Nat → Nat) (gsi : Nat → Nat) (w2 : Nat) (h2 : Nat) (ca2 : Nat) (ro2 : Nat) (sh2 : Nat) (un2 : Nat) (so2 : Nat) (si2 : Nat) (prs2 : Nat) (yrs2 : Nat) (bs2 : Nat) (sc2 : Nat) (gh2 : Nat → Nat) (gca2 : Nat → Nat) (gro2 : Nat → Nat) (gsh2 : Nat → Nat) (gun2 : Nat → Nat) (gso2 : Nat → Nat) (gsi2 : Nat → Nat)  : mv_C l D Y yX6_copyFrom cX6_copyFrom 2 none 1 0 0 [.ref w, .ref w2] sz [(w, .inr (6, [.ref h, .ref ca, .int (nI prs), .int (nI yrs), .ref ro, .ref sh, .ref un, .ref so, .ref si, .int (nI bs), .int (nI sc)])), (h, .inl (Y 0, 6, .inl (aN gh))), (ca, .inl (Y 0, 6, .inl (aN gca))), (ro, .inl (Y 0, 10, .inl (aN gro))), (sh, .inl (Y 0, 10, .inl (aN gsh))), (un, .inl (Y 0, 10, .inl (aN gun))), (so, .inl (Y 0, 5, .inl (aN gso))), (si, .inl (Y 0, 8, .inl (aN gsi))), (w2, .inr (6, [.ref h2, .ref ca2, .int (nI prs2), .int (nI yrs2), .ref ro2, .ref sh2, .ref un2, .ref so2, .ref si2, .int (nI bs2), .int (nI sc2)])), (h2, .inl (Y 0, 6, .inl (aN gh2))), (ca2, .inl (Y 0, 6, .inl (aN gca2))), (ro2, .inl (Y 0, 10, .inl (aN gro2))), (sh2, .inl (Y 0, 10, .inl (aN gsh2))), (un2, .inl (Y 0, 10, .inl (aN gun2))), (so2, .inl (Y 0, 5, .inl (aN gso2))), (si2, .inl (Y 0, 8, .inl (aN gsi2)))] (q_X6_copyFrom D Y w h ca ro sh un so si prs yrs bs sc gh gca gro gsh gun gso gsi w2 h2 ca2 ro2 sh2 un2 so2 si2 prs2 yrs2 bs2 sc2 gh2 gca2 gro2 gsh2 gun2 gso2 gsi2) := by
  refine mv_ofW (by decide) (Nat.le_of_ble_eq_true rfl) ?_
  intro p e s m below meth c ls A hx hb hr hlocks hml hnm hown hts hsz hAe hP hK hD hS hST hA hl
  have hl : lv_has ls 2 [(0, .ref w), (1, .ref w2)] := hl
  refine lv_aload_n hx hb dX6_copyFrom_0 rfl (lv_at hl 1 rfl) ?_
  refine va_get (D := D) (ci := 6) (v := .ref h2) (C := RX6) (T := TX6) (N := 11) hx hb hts inlX6 hown hK hP 8 rfl rfl 0 (by decide) (hts _ mw_45) (fun _ h9 => h9) rfl dX6_copyFrom_1 ?_
  refine lv_iconst (v := nI 0) hx hb dX6_copyFrom_4 (by decide) ?_
  refine lv_aload_n hx hb dX6_copyFrom_5 rfl (lv_at hl 0 rfl) ?_
  refine va_get (D := D) (ci := 6) (v := .ref h) (C := RX6) (T := TX6) (N := 11) hx hb hts inlX6 hown hK hP 0 rfl rfl 0 (by decide) (hts _ mw_45) (fun _ h9 => h9) rfl dX6_copyFrom_6 ?_
  refine lv_iconst (v := nI 0) hx hb dX6_copyFrom_9 (by decide) ?_
  refine lv_bipush (v := nI 6) hx hb dX6_copyFrom_10 (by decide) ?_
  refine mv_copy hx hb (by rw [hml]; exact hl.1.symm) hown (hts _ mw_229) (hts _ mw_230) (hts _ mw_231) (hts _ mw_232) hK hP hD hS 9 1 rfl rfl (n := 6) (by decide) (Nat.le_of_ble_eq_true rfl) (Nat.le_of_ble_eq_true rfl) dX6_copyFrom_12 (fun H locs hP hD hS => ?_)
  have hP : va_P D vwCl [(w, .inr (6, [.ref h, .ref ca, .int (nI prs), .int (nI yrs), .ref ro, .ref sh, .ref un, .ref so, .ref si, .int (nI bs), .int (nI sc)])), (h, .inl (Y 0, 6, .inl (aN gh2))), (ca, .inl (Y 0, 6, .inl (aN gca))), (ro, .inl (Y 0, 10, .inl (aN gro))), (sh, .inl (Y 0, 10, .inl (aN gsh))), (un, .inl (Y 0, 10, .inl (aN gun))), (so, .inl (Y 0, 5, .inl (aN gso))), (si, .inl (Y 0, 8, .inl (aN gsi))), (w2, .inr (6, [.ref h2, .ref ca2, .int (nI prs2), .int (nI yrs2), .ref ro2, .ref sh2, .ref un2, .ref so2, .ref si2, .int (nI bs2), .int (nI sc2)])), (h2, .inl (Y 0, 6, .inl (aN gh2))), (ca2, .inl (Y 0, 6, .inl (aN gca2))), (ro2, .inl (Y 0, 10, .inl (aN gro2))), (sh2, .inl (Y 0, 10, .inl (aN gsh2))), (un2, .inl (Y 0, 10, .inl (aN gun2))), (so2, .inl (Y 0, 5, .inl (aN gso2))), (si2, .inl (Y 0, 8, .inl (aN gsi2)))] H := hP
  have hD : va_D A [(w, .inr (6, [.ref h, .ref ca, .int (nI prs), .int (nI yrs), .ref ro, .ref sh, .ref un, .ref so, .ref si, .int (nI bs), .int (nI sc)])), (h, .inl (Y 0, 6, .inl (aN gh2))), (ca, .inl (Y 0, 6, .inl (aN gca))), (ro, .inl (Y 0, 10, .inl (aN gro))), (sh, .inl (Y 0, 10, .inl (aN gsh))), (un, .inl (Y 0, 10, .inl (aN gun))), (so, .inl (Y 0, 5, .inl (aN gso))), (si, .inl (Y 0, 8, .inl (aN gsi))), (w2, .inr (6, [.ref h2, .ref ca2, .int (nI prs2), .int (nI yrs2), .ref ro2, .ref sh2, .ref un2, .ref so2, .ref si2, .int (nI bs2), .int (nI sc2)])), (h2, .inl (Y 0, 6, .inl (aN gh2))), (ca2, .inl (Y 0, 6, .inl (aN gca2))), (ro2, .inl (Y 0, 10, .inl (aN gro2))), (sh2, .inl (Y 0, 10, .inl (aN gsh2))), (un2, .inl (Y 0, 10, .inl (aN gun2))), (so2, .inl (Y 0, 5, .inl (aN gso2))), (si2, .inl (Y 0, 8, .inl (aN gsi2)))] := hD
  refine lv_aload_n hx hb dX6_copyFrom_15 rfl (lv_at hl 1 rfl) ?_
  refine va_get (D := D) (ci := 6) (v := .ref ca2) (C := RX6) (T := TX6) (N := 11) hx hb hts inlX6 hown hK hP 8 rfl rfl 1 (by decide) (hts _ mw_46) (fun _ h9 => h9) rfl dX6_copyFrom_16 ?_
  refine lv_iconst (v := nI 0) hx hb dX6_copyFrom_19 (by decide) ?_
  refine lv_aload_n hx hb dX6_copyFrom_20 rfl (lv_at hl 0 rfl) ?_
  refine va_get (D := D) (ci := 6) (v := .ref ca) (C := RX6) (T := TX6) (N := 11) hx hb hts inlX6 hown hK hP 0 rfl rfl 1 (by decide) (hts _ mw_46) (fun _ h9 => h9) rfl dX6_copyFrom_21 ?_
  refine lv_iconst (v := nI 0) hx hb dX6_copyFrom_24 (by decide) ?_
  refine lv_bipush (v := nI 6) hx hb dX6_copyFrom_25 (by decide) ?_
  refine mv_copy hx hb (by rw [hml]; exact hl.1.symm) hown (hts _ mw_229) (hts _ mw_230) (hts _ mw_231) (hts _ mw_232) hK hP hD hS 10 2 rfl rfl (n := 6) (by decide) (Nat.le_of_ble_eq_true rfl) (Nat.le_of_ble_eq_true rfl) dX6_copyFrom_27 (fun H locs hP hD hS => ?_)
  have hP : va_P D vwCl [(w, .inr (6, [.ref h, .ref ca, .int (nI prs), .int (nI yrs), .ref ro, .ref sh, .ref un, .ref so, .ref si, .int (nI bs), .int (nI sc)])), (h, .inl (Y 0, 6, .inl (aN gh2))), (ca, .inl (Y 0, 6, .inl (aN gca2))), (ro, .inl (Y 0, 10, .inl (aN gro))), (sh, .inl (Y 0, 10, .inl (aN gsh))), (un, .inl (Y 0, 10, .inl (aN gun))), (so, .inl (Y 0, 5, .inl (aN gso))), (si, .inl (Y 0, 8, .inl (aN gsi))), (w2, .inr (6, [.ref h2, .ref ca2, .int (nI prs2), .int (nI yrs2), .ref ro2, .ref sh2, .ref un2, .ref so2, .ref si2, .int (nI bs2), .int (nI sc2)])), (h2, .inl (Y 0, 6, .inl (aN gh2))), (ca2, .inl (Y 0, 6, .inl (aN gca2))), (ro2, .inl (Y 0, 10, .inl (aN gro2))), (sh2, .inl (Y 0, 10, .inl (aN gsh2))), (un2, .inl (Y 0, 10, .inl (aN gun2))), (so2, .inl (Y 0, 5, .inl (aN gso2))), (si2, .inl (Y 0, 8, .inl (aN gsi2)))] H := hP
  have hD : va_D A [(w, .inr (6, [.ref h, .ref ca, .int (nI prs), .int (nI yrs), .ref ro, .ref sh, .ref un, .ref so, .ref si, .int (nI bs), .int (nI sc)])), (h, .inl (Y 0, 6, .inl (aN gh2))), (ca, .inl (Y 0, 6, .inl (aN gca2))), (ro, .inl (Y 0, 10, .inl (aN gro))), (sh, .inl (Y 0, 10, .inl (aN gsh))), (un, .inl (Y 0, 10, .inl (aN gun))), (so, .inl (Y 0, 5, .inl (aN gso))), (si, .inl (Y 0, 8, .inl (aN gsi))), (w2, .inr (6, [.ref h2, .ref ca2, .int (nI prs2), .int (nI yrs2), .ref ro2, .ref sh2, .ref un2, .ref so2, .ref si2, .int (nI bs2), .int (nI sc2)])), (h2, .inl (Y 0, 6, .inl (aN gh2))), (ca2, .inl (Y 0, 6, .inl (aN gca2))), (ro2, .inl (Y 0, 10, .inl (aN gro2))), (sh2, .inl (Y 0, 10, .inl (aN gsh2))), (un2, .inl (Y 0, 10, .inl (aN gun2))), (so2, .inl (Y 0, 5, .inl (aN gso2))), (si2, .inl (Y 0, 8, .inl (aN gsi2)))] := hD
  refine lv_aload_n hx hb dX6_copyFrom_30 rfl (lv_at hl 0 rfl) ?_
  refine lv_aload_n hx hb dX6_copyFrom_31 rfl (lv_at hl 1 rfl) ?_
  refine va_get (D := D) (ci := 6) (v := .int (nI prs2)) (C := RX6) (T := TX6) (N := 11) hx hb hts inlX6 hown hK hP 8 rfl rfl 2 (by decide) (hts _ mw_233) (fun _ h9 => h9) rfl dX6_copyFrom_32 ?_
  refine va_put (D := D) (ci := 6) (v := .int (nI prs2)) (ty := .int) (C := RX6) (T := TX6) (N := 11) hx hb hts inlX6 tyX6 tyX6_ok nmX6 hown hK hP hD hS 0 rfl rfl 2 (by decide) (hts _ mw_233) (fun _ h9 => h9) rfl (by decide +kernel) rfl rfl (Nat.le_of_ble_eq_true rfl) dX6_copyFrom_35 (fun H locs hP hD hS => ?_)
  have hP : va_P D vwCl [(w, .inr (6, [.ref h, .ref ca, .int (nI prs2), .int (nI yrs), .ref ro, .ref sh, .ref un, .ref so, .ref si, .int (nI bs), .int (nI sc)])), (h, .inl (Y 0, 6, .inl (aN gh2))), (ca, .inl (Y 0, 6, .inl (aN gca2))), (ro, .inl (Y 0, 10, .inl (aN gro))), (sh, .inl (Y 0, 10, .inl (aN gsh))), (un, .inl (Y 0, 10, .inl (aN gun))), (so, .inl (Y 0, 5, .inl (aN gso))), (si, .inl (Y 0, 8, .inl (aN gsi))), (w2, .inr (6, [.ref h2, .ref ca2, .int (nI prs2), .int (nI yrs2), .ref ro2, .ref sh2, .ref un2, .ref so2, .ref si2, .int (nI bs2), .int (nI sc2)])), (h2, .inl (Y 0, 6, .inl (aN gh2))), (ca2, .inl (Y 0, 6, .inl (aN gca2))), (ro2, .inl (Y 0, 10, .inl (aN gro2))), (sh2, .inl (Y 0, 10, .inl (aN gsh2))), (un2, .inl (Y 0, 10, .inl (aN gun2))), (so2, .inl (Y 0, 5, .inl (aN gso2))), (si2, .inl (Y 0, 8, .inl (aN gsi2)))] H := hP
  have hD : va_D A [(w, .inr (6, [.ref h, .ref ca, .int (nI prs2), .int (nI yrs), .ref ro, .ref sh, .ref un, .ref so, .ref si, .int (nI bs), .int (nI sc)])), (h, .inl (Y 0, 6, .inl (aN gh2))), (ca, .inl (Y 0, 6, .inl (aN gca2))), (ro, .inl (Y 0, 10, .inl (aN gro))), (sh, .inl (Y 0, 10, .inl (aN gsh))), (un, .inl (Y 0, 10, .inl (aN gun))), (so, .inl (Y 0, 5, .inl (aN gso))), (si, .inl (Y 0, 8, .inl (aN gsi))), (w2, .inr (6, [.ref h2, .ref ca2, .int (nI prs2), .int (nI yrs2), .ref ro2, .ref sh2, .ref un2, .ref so2, .ref si2, .int (nI bs2), .int (nI sc2)])), (h2, .inl (Y 0, 6, .inl (aN gh2))), (ca2, .inl (Y 0, 6, .inl (aN gca2))), (ro2, .inl (Y 0, 10, .inl (aN gro2))), (sh2, .inl (Y 0, 10, .inl (aN gsh2))), (un2, .inl (Y 0, 10, .inl (aN gun2))), (so2, .inl (Y 0, 5, .inl (aN gso2))), (si2, .inl (Y 0, 8, .inl (aN gsi2)))] := hD
  refine lv_aload_n hx hb dX6_copyFrom_38 rfl (lv_at hl 0 rfl) ?_
  refine lv_aload_n hx hb dX6_copyFrom_39 rfl (lv_at hl 1 rfl) ?_
  refine va_get (D := D) (ci := 6) (v := .int (nI yrs2)) (C := RX6) (T := TX6) (N := 11) hx hb hts inlX6 hown hK hP 8 rfl rfl 3 (by decide) (hts _ mw_234) (fun _ h9 => h9) rfl dX6_copyFrom_40 ?_
  refine va_put (D := D) (ci := 6) (v := .int (nI yrs2)) (ty := .int) (C := RX6) (T := TX6) (N := 11) hx hb hts inlX6 tyX6 tyX6_ok nmX6 hown hK hP hD hS 0 rfl rfl 3 (by decide) (hts _ mw_234) (fun _ h9 => h9) rfl (by decide +kernel) rfl rfl (Nat.le_of_ble_eq_true rfl) dX6_copyFrom_43 (fun H locs hP hD hS => ?_)
  have hP : va_P D vwCl [(w, .inr (6, [.ref h, .ref ca, .int (nI prs2), .int (nI yrs2), .ref ro, .ref sh, .ref un, .ref so, .ref si, .int (nI bs), .int (nI sc)])), (h, .inl (Y 0, 6, .inl (aN gh2))), (ca, .inl (Y 0, 6, .inl (aN gca2))), (ro, .inl (Y 0, 10, .inl (aN gro))), (sh, .inl (Y 0, 10, .inl (aN gsh))), (un, .inl (Y 0, 10, .inl (aN gun))), (so, .inl (Y 0, 5, .inl (aN gso))), (si, .inl (Y 0, 8, .inl (aN gsi))), (w2, .inr (6, [.ref h2, .ref ca2, .int (nI prs2), .int (nI yrs2), .ref ro2, .ref sh2, .ref un2, .ref so2, .ref si2, .int (nI bs2), .int (nI sc2)])), (h2, .inl (Y 0, 6, .inl (aN gh2))), (ca2, .inl (Y 0, 6, .inl (aN gca2))), (ro2, .inl (Y 0, 10, .inl (aN gro2))), (sh2, .inl (Y 0, 10, .inl (aN gsh2))), (un2, .inl (Y 0, 10, .inl (aN gun2))), (so2, .inl (Y 0, 5, .inl (aN gso2))), (si2, .inl (Y 0, 8, .inl (aN gsi2)))] H := hP
  have hD : va_D A [(w, .inr (6, [.ref h, .ref ca, .int (nI prs2), .int (nI yrs2), .ref ro, .ref sh, .ref un, .ref so, .ref si, .int (nI bs), .int (nI sc)])), (h, .inl (Y 0, 6, .inl (aN gh2))), (ca, .inl (Y 0, 6, .inl (aN gca2))), (ro, .inl (Y 0, 10, .inl (aN gro))), (sh, .inl (Y 0, 10, .inl (aN gsh))), (un, .inl (Y 0, 10, .inl (aN gun))), (so, .inl (Y 0, 5, .inl (aN gso))), (si, .inl (Y 0, 8, .inl (aN gsi))), (w2, .inr (6, [.ref h2, .ref ca2, .int (nI prs2), .int (nI yrs2), .ref ro2, .ref sh2, .ref un2, .ref so2, .ref si2, .int (nI bs2), .int (nI sc2)])), (h2, .inl (Y 0, 6, .inl (aN gh2))), (ca2, .inl (Y 0, 6, .inl (aN gca2))), (ro2, .inl (Y 0, 10, .inl (aN gro2))), (sh2, .inl (Y 0, 10, .inl (aN gsh2))), (un2, .inl (Y 0, 10, .inl (aN gun2))), (so2, .inl (Y 0, 5, .inl (aN gso2))), (si2, .inl (Y 0, 8, .inl (aN gsi2)))] := hD
  refine lv_aload_n hx hb dX6_copyFrom_46 rfl (lv_at hl 1 rfl) ?_
  refine va_get (D := D) (ci := 6) (v := .ref ro2) (C := RX6) (T := TX6) (N := 11) hx hb hts inlX6 hown hK hP 8 rfl rfl 4 (by decide) (hts _ mw_47) (fun _ h9 => h9) rfl dX6_copyFrom_47 ?_
  refine lv_iconst (v := nI 0) hx hb dX6_copyFrom_50 (by decide) ?_
  refine lv_aload_n hx hb dX6_copyFrom_51 rfl (lv_at hl 0 rfl) ?_
  refine va_get (D := D) (ci := 6) (v := .ref ro) (C := RX6) (T := TX6) (N := 11) hx hb hts inlX6 hown hK hP 0 rfl rfl 4 (by decide) (hts _ mw_47) (fun _ h9 => h9) rfl dX6_copyFrom_52 ?_
  refine lv_iconst (v := nI 0) hx hb dX6_copyFrom_55 (by decide) ?_
  refine lv_bipush (v := nI 10) hx hb dX6_copyFrom_56 (by decide) ?_
  refine mv_copy hx hb (by rw [hml]; exact hl.1.symm) hown (hts _ mw_229) (hts _ mw_230) (hts _ mw_231) (hts _ mw_232) hK hP hD hS 11 3 rfl rfl (n := 10) (by decide) (Nat.le_of_ble_eq_true rfl) (Nat.le_of_ble_eq_true rfl) dX6_copyFrom_58 (fun H locs hP hD hS => ?_)
  have hP : va_P D vwCl [(w, .inr (6, [.ref h, .ref ca, .int (nI prs2), .int (nI yrs2), .ref ro, .ref sh, .ref un, .ref so, .ref si, .int (nI bs), .int (nI sc)])), (h, .inl (Y 0, 6, .inl (aN gh2))), (ca, .inl (Y 0, 6, .inl (aN gca2))), (ro, .inl (Y 0, 10, .inl (aN gro2))), (sh, .inl (Y 0, 10, .inl (aN gsh))), (un, .inl (Y 0, 10, .inl (aN gun))), (so, .inl (Y 0, 5, .inl (aN gso))), (si, .inl (Y 0, 8, .inl (aN gsi))), (w2, .inr (6, [.ref h2, .ref ca2, .int (nI prs2), .int (nI yrs2), .ref ro2, .ref sh2, .ref un2, .ref so2, .ref si2, .int (nI bs2), .int (nI sc2)])), (h2, .inl (Y 0, 6, .inl (aN gh2))), (ca2, .inl (Y 0, 6, .inl (aN gca2))), (ro2, .inl (Y 0, 10, .inl (aN gro2))), (sh2, .inl (Y 0, 10, .inl (aN gsh2))), (un2, .inl (Y 0, 10, .inl (aN gun2))), (so2, .inl (Y 0, 5, .inl (aN gso2))), (si2, .inl (Y 0, 8, .inl (aN gsi2)))] H := hP
  have hD : va_D A [(w, .inr (6, [.ref h, .ref ca, .int (nI prs2), .int (nI yrs2), .ref ro, .ref sh, .ref un, .ref so, .ref si, .int (nI bs), .int (nI sc)])), (h, .inl (Y 0, 6, .inl (aN gh2))), (ca, .inl (Y 0, 6, .inl (aN gca2))), (ro, .inl (Y 0, 10, .inl (aN gro2))), (sh, .inl (Y 0, 10, .inl (aN gsh))), (un, .inl (Y 0, 10, .inl (aN gun))), (so, .inl (Y 0, 5, .inl (aN gso))), (si, .inl (Y 0, 8, .inl (aN gsi))), (w2, .inr (6, [.ref h2, .ref ca2, .int (nI prs2), .int (nI yrs2), .ref ro2, .ref sh2, .ref un2, .ref so2, .ref si2, .int (nI bs2), .int (nI sc2)])), (h2, .inl (Y 0, 6, .inl (aN gh2))), (ca2, .inl (Y 0, 6, .inl (aN gca2))), (ro2, .inl (Y 0, 10, .inl (aN gro2))), (sh2, .inl (Y 0, 10, .inl (aN gsh2))), (un2, .inl (Y 0, 10, .inl (aN gun2))), (so2, .inl (Y 0, 5, .inl (aN gso2))), (si2, .inl (Y 0, 8, .inl (aN gsi2)))] := hD
  refine lv_aload_n hx hb dX6_copyFrom_61 rfl (lv_at hl 1 rfl) ?_
  refine va_get (D := D) (ci := 6) (v := .ref sh2) (C := RX6) (T := TX6) (N := 11) hx hb hts inlX6 hown hK hP 8 rfl rfl 5 (by decide) (hts _ mw_48) (fun _ h9 => h9) rfl dX6_copyFrom_62 ?_
  refine lv_iconst (v := nI 0) hx hb dX6_copyFrom_65 (by decide) ?_
  refine lv_aload_n hx hb dX6_copyFrom_66 rfl (lv_at hl 0 rfl) ?_
  refine va_get (D := D) (ci := 6) (v := .ref sh) (C := RX6) (T := TX6) (N := 11) hx hb hts inlX6 hown hK hP 0 rfl rfl 5 (by decide) (hts _ mw_48) (fun _ h9 => h9) rfl dX6_copyFrom_67 ?_
  refine lv_iconst (v := nI 0) hx hb dX6_copyFrom_70 (by decide) ?_
  refine lv_bipush (v := nI 10) hx hb dX6_copyFrom_71 (by decide) ?_
  refine mv_copy hx hb (by rw [hml]; exact hl.1.symm) hown (hts _ mw_229) (hts _ mw_230) (hts _ mw_231) (hts _ mw_232) hK hP hD hS 12 4 rfl rfl (n := 10) (by decide) (Nat.le_of_ble_eq_true rfl) (Nat.le_of_ble_eq_true rfl) dX6_copyFrom_73 (fun H locs hP hD hS => ?_)
  have hP : va_P D vwCl [(w, .inr (6, [.ref h, .ref ca, .int (nI prs2), .int (nI yrs2), .ref ro, .ref sh, .ref un, .ref so, .ref si, .int (nI bs), .int (nI sc)])), (h, .inl (Y 0, 6, .inl (aN gh2))), (ca, .inl (Y 0, 6, .inl (aN gca2))), (ro, .inl (Y 0, 10, .inl (aN gro2))), (sh, .inl (Y 0, 10, .inl (aN gsh2))), (un, .inl (Y 0, 10, .inl (aN gun))), (so, .inl (Y 0, 5, .inl (aN gso))), (si, .inl (Y 0, 8, .inl (aN gsi))), (w2, .inr (6, [.ref h2, .ref ca2, .int (nI prs2), .int (nI yrs2), .ref ro2, .ref sh2, .ref un2, .ref so2, .ref si2, .int (nI bs2), .int (nI sc2)])), (h2, .inl (Y 0, 6, .inl (aN gh2))), (ca2, .inl (Y 0, 6, .inl (aN gca2))), (ro2, .inl (Y 0, 10, .inl (aN gro2))), (sh2, .inl (Y 0, 10, .inl (aN gsh2))), (un2, .inl (Y 0, 10, .inl (aN gun2))), (so2, .inl (Y 0, 5, .inl (aN gso2))), (si2, .inl (Y 0, 8, .inl (aN gsi2)))] H := hP
  have hD : va_D A [(w, .inr (6, [.ref h, .ref ca, .int (nI prs2), .int (nI yrs2), .ref ro, .ref sh, .ref un, .ref so, .ref si, .int (nI bs), .int (nI sc)])), (h, .inl (Y 0, 6, .inl (aN gh2))), (ca, .inl (Y 0, 6, .inl (aN gca2))), (ro, .inl (Y 0, 10, .inl (aN gro2))), (sh, .inl (Y 0, 10, .inl (aN gsh2))), (un, .inl (Y 0, 10, .inl (aN gun))), (so, .inl (Y 0, 5, .inl (aN gso))), (si, .inl (Y 0, 8, .inl (aN gsi))), (w2, .inr (6, [.ref h2, .ref ca2, .int (nI prs2), .int (nI yrs2), .ref ro2, .ref sh2, .ref un2, .ref so2, .ref si2, .int (nI bs2), .int (nI sc2)])), (h2, .inl (Y 0, 6, .inl (aN gh2))), (ca2, .inl (Y 0, 6, .inl (aN gca2))), (ro2, .inl (Y 0, 10, .inl (aN gro2))), (sh2, .inl (Y 0, 10, .inl (aN gsh2))), (un2, .inl (Y 0, 10, .inl (aN gun2))), (so2, .inl (Y 0, 5, .inl (aN gso2))), (si2, .inl (Y 0, 8, .inl (aN gsi2)))] := hD
  refine lv_aload_n hx hb dX6_copyFrom_76 rfl (lv_at hl 1 rfl) ?_
  refine va_get (D := D) (ci := 6) (v := .ref un2) (C := RX6) (T := TX6) (N := 11) hx hb hts inlX6 hown hK hP 8 rfl rfl 6 (by decide) (hts _ mw_49) (fun _ h9 => h9) rfl dX6_copyFrom_77 ?_
  refine lv_iconst (v := nI 0) hx hb dX6_copyFrom_80 (by decide) ?_
  refine lv_aload_n hx hb dX6_copyFrom_81 rfl (lv_at hl 0 rfl) ?_
  refine va_get (D := D) (ci := 6) (v := .ref un) (C := RX6) (T := TX6) (N := 11) hx hb hts inlX6 hown hK hP 0 rfl rfl 6 (by decide) (hts _ mw_49) (fun _ h9 => h9) rfl dX6_copyFrom_82 ?_
  refine lv_iconst (v := nI 0) hx hb dX6_copyFrom_85 (by decide) ?_
  refine lv_bipush (v := nI 10) hx hb dX6_copyFrom_86 (by decide) ?_
  refine mv_copy hx hb (by rw [hml]; exact hl.1.symm) hown (hts _ mw_229) (hts _ mw_230) (hts _ mw_231) (hts _ mw_232) hK hP hD hS 13 5 rfl rfl (n := 10) (by decide) (Nat.le_of_ble_eq_true rfl) (Nat.le_of_ble_eq_true rfl) dX6_copyFrom_88 (fun H locs hP hD hS => ?_)
  have hP : va_P D vwCl [(w, .inr (6, [.ref h, .ref ca, .int (nI prs2), .int (nI yrs2), .ref ro, .ref sh, .ref un, .ref so, .ref si, .int (nI bs), .int (nI sc)])), (h, .inl (Y 0, 6, .inl (aN gh2))), (ca, .inl (Y 0, 6, .inl (aN gca2))), (ro, .inl (Y 0, 10, .inl (aN gro2))), (sh, .inl (Y 0, 10, .inl (aN gsh2))), (un, .inl (Y 0, 10, .inl (aN gun2))), (so, .inl (Y 0, 5, .inl (aN gso))), (si, .inl (Y 0, 8, .inl (aN gsi))), (w2, .inr (6, [.ref h2, .ref ca2, .int (nI prs2), .int (nI yrs2), .ref ro2, .ref sh2, .ref un2, .ref so2, .ref si2, .int (nI bs2), .int (nI sc2)])), (h2, .inl (Y 0, 6, .inl (aN gh2))), (ca2, .inl (Y 0, 6, .inl (aN gca2))), (ro2, .inl (Y 0, 10, .inl (aN gro2))), (sh2, .inl (Y 0, 10, .inl (aN gsh2))), (un2, .inl (Y 0, 10, .inl (aN gun2))), (so2, .inl (Y 0, 5, .inl (aN gso2))), (si2, .inl (Y 0, 8, .inl (aN gsi2)))] H := hP
  have hD : va_D A [(w, .inr (6, [.ref h, .ref ca, .int (nI prs2), .int (nI yrs2), .ref ro, .ref sh, .ref un, .ref so, .ref si, .int (nI bs), .int (nI sc)])), (h, .inl (Y 0, 6, .inl (aN gh2))), (ca, .inl (Y 0, 6, .inl (aN gca2))), (ro, .inl (Y 0, 10, .inl (aN gro2))), (sh, .inl (Y 0, 10, .inl (aN gsh2))), (un, .inl (Y 0, 10, .inl (aN gun2))), (so, .inl (Y 0, 5, .inl (aN gso))), (si, .inl (Y 0, 8, .inl (aN gsi))), (w2, .inr (6, [.ref h2, .ref ca2, .int (nI prs2), .int (nI yrs2), .ref ro2, .ref sh2, .ref un2, .ref so2, .ref si2, .int (nI bs2), .int (nI sc2)])), (h2, .inl (Y 0, 6, .inl (aN gh2))), (ca2, .inl (Y 0, 6, .inl (aN gca2))), (ro2, .inl (Y 0, 10, .inl (aN gro2))), (sh2, .inl (Y 0, 10, .inl (aN gsh2))), (un2, .inl (Y 0, 10, .inl (aN gun2))), (so2, .inl (Y 0, 5, .inl (aN gso2))), (si2, .inl (Y 0, 8, .inl (aN gsi2)))] := hD
  refine lv_aload_n hx hb dX6_copyFrom_91 rfl (lv_at hl 1 rfl) ?_
  refine va_get (D := D) (ci := 6) (v := .ref so2) (C := RX6) (T := TX6) (N := 11) hx hb hts inlX6 hown hK hP 8 rfl rfl 7 (by decide) (hts _ mw_50) (fun _ h9 => h9) rfl dX6_copyFrom_92 ?_
  refine lv_iconst (v := nI 0) hx hb dX6_copyFrom_95 (by decide) ?_
  refine lv_aload_n hx hb dX6_copyFrom_96 rfl (lv_at hl 0 rfl) ?_
  refine va_get (D := D) (ci := 6) (v := .ref so) (C := RX6) (T := TX6) (N := 11) hx hb hts inlX6 hown hK hP 0 rfl rfl 7 (by decide) (hts _ mw_50) (fun _ h9 => h9) rfl dX6_copyFrom_97 ?_
  refine lv_iconst (v := nI 0) hx hb dX6_copyFrom_100 (by decide) ?_
  refine lv_iconst (v := nI 5) hx hb dX6_copyFrom_101 (by decide) ?_
  refine mv_copy hx hb (by rw [hml]; exact hl.1.symm) hown (hts _ mw_229) (hts _ mw_230) (hts _ mw_231) (hts _ mw_232) hK hP hD hS 14 6 rfl rfl (n := 5) (by decide) (Nat.le_of_ble_eq_true rfl) (Nat.le_of_ble_eq_true rfl) dX6_copyFrom_102 (fun H locs hP hD hS => ?_)
  have hP : va_P D vwCl [(w, .inr (6, [.ref h, .ref ca, .int (nI prs2), .int (nI yrs2), .ref ro, .ref sh, .ref un, .ref so, .ref si, .int (nI bs), .int (nI sc)])), (h, .inl (Y 0, 6, .inl (aN gh2))), (ca, .inl (Y 0, 6, .inl (aN gca2))), (ro, .inl (Y 0, 10, .inl (aN gro2))), (sh, .inl (Y 0, 10, .inl (aN gsh2))), (un, .inl (Y 0, 10, .inl (aN gun2))), (so, .inl (Y 0, 5, .inl (aN gso2))), (si, .inl (Y 0, 8, .inl (aN gsi))), (w2, .inr (6, [.ref h2, .ref ca2, .int (nI prs2), .int (nI yrs2), .ref ro2, .ref sh2, .ref un2, .ref so2, .ref si2, .int (nI bs2), .int (nI sc2)])), (h2, .inl (Y 0, 6, .inl (aN gh2))), (ca2, .inl (Y 0, 6, .inl (aN gca2))), (ro2, .inl (Y 0, 10, .inl (aN gro2))), (sh2, .inl (Y 0, 10, .inl (aN gsh2))), (un2, .inl (Y 0, 10, .inl (aN gun2))), (so2, .inl (Y 0, 5, .inl (aN gso2))), (si2, .inl (Y 0, 8, .inl (aN gsi2)))] H := hP
  have hD : va_D A [(w, .inr (6, [.ref h, .ref ca, .int (nI prs2), .int (nI yrs2), .ref ro, .ref sh, .ref un, .ref so, .ref si, .int (nI bs), .int (nI sc)])), (h, .inl (Y 0, 6, .inl (aN gh2))), (ca, .inl (Y 0, 6, .inl (aN gca2))), (ro, .inl (Y 0, 10, .inl (aN gro2))), (sh, .inl (Y 0, 10, .inl (aN gsh2))), (un, .inl (Y 0, 10, .inl (aN gun2))), (so, .inl (Y 0, 5, .inl (aN gso2))), (si, .inl (Y 0, 8, .inl (aN gsi))), (w2, .inr (6, [.ref h2, .ref ca2, .int (nI prs2), .int (nI yrs2), .ref ro2, .ref sh2, .ref un2, .ref so2, .ref si2, .int (nI bs2), .int (nI sc2)])), (h2, .inl (Y 0, 6, .inl (aN gh2))), (ca2, .inl (Y 0, 6, .inl (aN gca2))), (ro2, .inl (Y 0, 10, .inl (aN gro2))), (sh2, .inl (Y 0, 10, .inl (aN gsh2))), (un2, .inl (Y 0, 10, .inl (aN gun2))), (so2, .inl (Y 0, 5, .inl (aN gso2))), (si2, .inl (Y 0, 8, .inl (aN gsi2)))] := hD
  refine lv_aload_n hx hb dX6_copyFrom_105 rfl (lv_at hl 1 rfl) ?_
  refine va_get (D := D) (ci := 6) (v := .ref si2) (C := RX6) (T := TX6) (N := 11) hx hb hts inlX6 hown hK hP 8 rfl rfl 8 (by decide) (hts _ mw_51) (fun _ h9 => h9) rfl dX6_copyFrom_106 ?_
  refine lv_iconst (v := nI 0) hx hb dX6_copyFrom_109 (by decide) ?_
  refine lv_aload_n hx hb dX6_copyFrom_110 rfl (lv_at hl 0 rfl) ?_
  refine va_get (D := D) (ci := 6) (v := .ref si) (C := RX6) (T := TX6) (N := 11) hx hb hts inlX6 hown hK hP 0 rfl rfl 8 (by decide) (hts _ mw_51) (fun _ h9 => h9) rfl dX6_copyFrom_111 ?_
  refine lv_iconst (v := nI 0) hx hb dX6_copyFrom_114 (by decide) ?_
  refine lv_bipush (v := nI 8) hx hb dX6_copyFrom_115 (by decide) ?_
  refine mv_copy hx hb (by rw [hml]; exact hl.1.symm) hown (hts _ mw_229) (hts _ mw_230) (hts _ mw_231) (hts _ mw_232) hK hP hD hS 15 7 rfl rfl (n := 8) (by decide) (Nat.le_of_ble_eq_true rfl) (Nat.le_of_ble_eq_true rfl) dX6_copyFrom_117 (fun H locs hP hD hS => ?_)
  have hP : va_P D vwCl [(w, .inr (6, [.ref h, .ref ca, .int (nI prs2), .int (nI yrs2), .ref ro, .ref sh, .ref un, .ref so, .ref si, .int (nI bs), .int (nI sc)])), (h, .inl (Y 0, 6, .inl (aN gh2))), (ca, .inl (Y 0, 6, .inl (aN gca2))), (ro, .inl (Y 0, 10, .inl (aN gro2))), (sh, .inl (Y 0, 10, .inl (aN gsh2))), (un, .inl (Y 0, 10, .inl (aN gun2))), (so, .inl (Y 0, 5, .inl (aN gso2))), (si, .inl (Y 0, 8, .inl (aN gsi2))), (w2, .inr (6, [.ref h2, .ref ca2, .int (nI prs2), .int (nI yrs2), .ref ro2, .ref sh2, .ref un2, .ref so2, .ref si2, .int (nI bs2), .int (nI sc2)])), (h2, .inl (Y 0, 6, .inl (aN gh2))), (ca2, .inl (Y 0, 6, .inl (aN gca2))), (ro2, .inl (Y 0, 10, .inl (aN gro2))), (sh2, .inl (Y 0, 10, .inl (aN gsh2))), (un2, .inl (Y 0, 10, .inl (aN gun2))), (so2, .inl (Y 0, 5, .inl (aN gso2))), (si2, .inl (Y 0, 8, .inl (aN gsi2)))] H := hP
  have hD : va_D A [(w, .inr (6, [.ref h, .ref ca, .int (nI prs2), .int (nI yrs2), .ref ro, .ref sh, .ref un, .ref so, .ref si, .int (nI bs), .int (nI sc)])), (h, .inl (Y 0, 6, .inl (aN gh2))), (ca, .inl (Y 0, 6, .inl (aN gca2))), (ro, .inl (Y 0, 10, .inl (aN gro2))), (sh, .inl (Y 0, 10, .inl (aN gsh2))), (un, .inl (Y 0, 10, .inl (aN gun2))), (so, .inl (Y 0, 5, .inl (aN gso2))), (si, .inl (Y 0, 8, .inl (aN gsi2))), (w2, .inr (6, [.ref h2, .ref ca2, .int (nI prs2), .int (nI yrs2), .ref ro2, .ref sh2, .ref un2, .ref so2, .ref si2, .int (nI bs2), .int (nI sc2)])), (h2, .inl (Y 0, 6, .inl (aN gh2))), (ca2, .inl (Y 0, 6, .inl (aN gca2))), (ro2, .inl (Y 0, 10, .inl (aN gro2))), (sh2, .inl (Y 0, 10, .inl (aN gsh2))), (un2, .inl (Y 0, 10, .inl (aN gun2))), (so2, .inl (Y 0, 5, .inl (aN gso2))), (si2, .inl (Y 0, 8, .inl (aN gsi2)))] := hD
  refine lv_aload_n hx hb dX6_copyFrom_120 rfl (lv_at hl 0 rfl) ?_
  refine lv_aload_n hx hb dX6_copyFrom_121 rfl (lv_at hl 1 rfl) ?_
  refine va_get (D := D) (ci := 6) (v := .int (nI bs2)) (C := RX6) (T := TX6) (N := 11) hx hb hts inlX6 hown hK hP 8 rfl rfl 9 (by decide) (hts _ mw_235) (fun _ h9 => h9) rfl dX6_copyFrom_122 ?_
  refine va_put (D := D) (ci := 6) (v := .int (nI bs2)) (ty := .int) (C := RX6) (T := TX6) (N := 11) hx hb hts inlX6 tyX6 tyX6_ok nmX6 hown hK hP hD hS 0 rfl rfl 9 (by decide) (hts _ mw_235) (fun _ h9 => h9) rfl (by decide +kernel) rfl rfl (Nat.le_of_ble_eq_true rfl) dX6_copyFrom_125 (fun H locs hP hD hS => ?_)
  have hP : va_P D vwCl [(w, .inr (6, [.ref h, .ref ca, .int (nI prs2), .int (nI yrs2), .ref ro, .ref sh, .ref un, .ref so, .ref si, .int (nI bs2), .int (nI sc)])), (h, .inl (Y 0, 6, .inl (aN gh2))), (ca, .inl (Y 0, 6, .inl (aN gca2))), (ro, .inl (Y 0, 10, .inl (aN gro2))), (sh, .inl (Y 0, 10, .inl (aN gsh2))), (un, .inl (Y 0, 10, .inl (aN gun2))), (so, .inl (Y 0, 5, .inl (aN gso2))), (si, .inl (Y 0, 8, .inl (aN gsi2))), (w2, .inr (6, [.ref h2, .ref ca2, .int (nI prs2), .int (nI yrs2), .ref ro2, .ref sh2, .ref un2, .ref so2, .ref si2, .int (nI bs2), .int (nI sc2)])), (h2, .inl (Y 0, 6, .inl (aN gh2))), (ca2, .inl (Y 0, 6, .inl (aN gca2))), (ro2, .inl (Y 0, 10, .inl (aN gro2))), (sh2, .inl (Y 0, 10, .inl (aN gsh2))), (un2, .inl (Y 0, 10, .inl (aN gun2))), (so2, .inl (Y 0, 5, .inl (aN gso2))), (si2, .inl (Y 0, 8, .inl (aN gsi2)))] H := hP
  have hD : va_D A [(w, .inr (6, [.ref h, .ref ca, .int (nI prs2), .int (nI yrs2), .ref ro, .ref sh, .ref un, .ref so, .ref si, .int (nI bs2), .int (nI sc)])), (h, .inl (Y 0, 6, .inl (aN gh2))), (ca, .inl (Y 0, 6, .inl (aN gca2))), (ro, .inl (Y 0, 10, .inl (aN gro2))), (sh, .inl (Y 0, 10, .inl (aN gsh2))), (un, .inl (Y 0, 10, .inl (aN gun2))), (so, .inl (Y 0, 5, .inl (aN gso2))), (si, .inl (Y 0, 8, .inl (aN gsi2))), (w2, .inr (6, [.ref h2, .ref ca2, .int (nI prs2), .int (nI yrs2), .ref ro2, .ref sh2, .ref un2, .ref so2, .ref si2, .int (nI bs2), .int (nI sc2)])), (h2, .inl (Y 0, 6, .inl (aN gh2))), (ca2, .inl (Y 0, 6, .inl (aN gca2))), (ro2, .inl (Y 0, 10, .inl (aN gro2))), (sh2, .inl (Y 0, 10, .inl (aN gsh2))), (un2, .inl (Y 0, 10, .inl (aN gun2))), (so2, .inl (Y 0, 5, .inl (aN gso2))), (si2, .inl (Y 0, 8, .inl (aN gsi2)))] := hD
  refine lv_aload_n hx hb dX6_copyFrom_128 rfl (lv_at hl 0 rfl) ?_
  refine lv_aload_n hx hb dX6_copyFrom_129 rfl (lv_at hl 1 rfl) ?_
  refine va_get (D := D) (ci := 6) (v := .int (nI sc2)) (C := RX6) (T := TX6) (N := 11) hx hb hts inlX6 hown hK hP 8 rfl rfl 10 (by decide) (hts _ mw_236) (fun _ h9 => h9) rfl dX6_copyFrom_130 ?_
  refine va_put (D := D) (ci := 6) (v := .int (nI sc2)) (ty := .int) (C := RX6) (T := TX6) (N := 11) hx hb hts inlX6 tyX6 tyX6_ok nmX6 hown hK hP hD hS 0 rfl rfl 10 (by decide) (hts _ mw_236) (fun _ h9 => h9) rfl (by decide +kernel) rfl rfl (Nat.le_of_ble_eq_true rfl) dX6_copyFrom_133 (fun H locs hP hD hS => ?_)
  have hP : va_P D vwCl [(w, .inr (6, [.ref h, .ref ca, .int (nI prs2), .int (nI yrs2), .ref ro, .ref sh, .ref un, .ref so, .ref si, .int (nI bs2), .int (nI sc2)])), (h, .inl (Y 0, 6, .inl (aN gh2))), (ca, .inl (Y 0, 6, .inl (aN gca2))), (ro, .inl (Y 0, 10, .inl (aN gro2))), (sh, .inl (Y 0, 10, .inl (aN gsh2))), (un, .inl (Y 0, 10, .inl (aN gun2))), (so, .inl (Y 0, 5, .inl (aN gso2))), (si, .inl (Y 0, 8, .inl (aN gsi2))), (w2, .inr (6, [.ref h2, .ref ca2, .int (nI prs2), .int (nI yrs2), .ref ro2, .ref sh2, .ref un2, .ref so2, .ref si2, .int (nI bs2), .int (nI sc2)])), (h2, .inl (Y 0, 6, .inl (aN gh2))), (ca2, .inl (Y 0, 6, .inl (aN gca2))), (ro2, .inl (Y 0, 10, .inl (aN gro2))), (sh2, .inl (Y 0, 10, .inl (aN gsh2))), (un2, .inl (Y 0, 10, .inl (aN gun2))), (so2, .inl (Y 0, 5, .inl (aN gso2))), (si2, .inl (Y 0, 8, .inl (aN gsi2)))] H := hP
  have hD : va_D A [(w, .inr (6, [.ref h, .ref ca, .int (nI prs2), .int (nI yrs2), .ref ro, .ref sh, .ref un, .ref so, .ref si, .int (nI bs2), .int (nI sc2)])), (h, .inl (Y 0, 6, .inl (aN gh2))), (ca, .inl (Y 0, 6, .inl (aN gca2))), (ro, .inl (Y 0, 10, .inl (aN gro2))), (sh, .inl (Y 0, 10, .inl (aN gsh2))), (un, .inl (Y 0, 10, .inl (aN gun2))), (so, .inl (Y 0, 5, .inl (aN gso2))), (si, .inl (Y 0, 8, .inl (aN gsi2))), (w2, .inr (6, [.ref h2, .ref ca2, .int (nI prs2), .int (nI yrs2), .ref ro2, .ref sh2, .ref un2, .ref so2, .ref si2, .int (nI bs2), .int (nI sc2)])), (h2, .inl (Y 0, 6, .inl (aN gh2))), (ca2, .inl (Y 0, 6, .inl (aN gca2))), (ro2, .inl (Y 0, 10, .inl (aN gro2))), (sh2, .inl (Y 0, 10, .inl (aN gsh2))), (un2, .inl (Y 0, 10, .inl (aN gun2))), (so2, .inl (Y 0, 5, .inl (aN gso2))), (si2, .inl (Y 0, 8, .inl (aN gsi2)))] := hD
  exact mv_vret hx hb hr hlocks () (trivial) hP hK hD hS dX6_copyFrom_136
