abbrev q_X0_init (D : va_G) (Y : Nat → ClassId) (dr : Nat) : (Nat → Prop) → Array Value → State → Outcome → State → Prop := mv_Qv D Y (fun (ux : Nat × Nat) => True) (fun ux : Nat × Nat => ([(dr, .inr (0, [.ref ux.1, .ref ux.2])), (ux.1, .inl (Y 0, 64, .inl (aN (fun _ => 0)))), (ux.2, .inl (Y 0, 64, .inl (aN (fun _ => 0))))] : va_W))
set_option maxHeartbeats 4000000 in
set_option maxRecDepth 100000 in
theorem c_X0_init (l : Launch) (D : va_G) (Y : Nat → ClassId) (sz : Nat) (dr : Nat)  : mv_C l D Y yX0_init cX0_init 1 none 1 2 128 [.ref dr] sz [(dr, .inr (0, [.null, .null]))] (q_X0_init D Y dr) := by
  refine mv_ofW (by decide) (Nat.le_of_ble_eq_true rfl) ?_
  intro p e s m below meth c ls A hx hb hr hlocks hml hnm hown hts hsz hAe hP hK hD hS hST hA hl
  have hl : lv_has ls 1 [(0, .ref dr)] := hl
  refine lv_aload_n hx hb dX0_init_0 rfl (lv_at hl 0 rfl) ?_
  refine W.objInit hx hb hown (hts _ mw_71) (hts _ mw_10) (hts _ mw_11) rfl (by rw [hml]; exact hl.1) rfl dX0_init_1 (Nat.le_of_ble_eq_true rfl) (Nat.le_of_ble_eq_true rfl) ?_
  refine W.eq (g2 := F0 m 4 ls []) rfl ?_
  refine lv_aload_n hx hb dX0_init_4 rfl (lv_at hl 0 rfl) ?_
  refine lv_bipush (v := nI 64) hx hb dX0_init_5 (by decide) ?_
  refine mv_newaI hx hb hts hK hP hD hS hA (n := 64) (by decide) (by decide) (Nat.le_of_ble_eq_true rfl) (Nat.le_of_ble_eq_true rfl) dX0_init_7 (fun q_1 H hP hD hS => ?_)
  have hP : va_P D vwCl [(dr, .inr (0, [.null, .null])), (q_1, .inl (Y 0, 64, .inl (aN (fun _ => 0))))] H := hP
  have hD : va_D A [(dr, .inr (0, [.null, .null])), (q_1, .inl (Y 0, 64, .inl (aN (fun _ => 0))))] := hD
  refine W.widen (k := 1) (n := 64) (by omega) (by omega) ?_
  refine va_putF (D := D) (ci := 0) (v := .ref q_1) (ty := .array .int) (C := RX0) (T := TX0) (N := 2) hx hb hts inlX0 tyX0 tyX0_ok nmX0 hown hK hP hD hS 0 rfl rfl 0 (by decide) (hts _ mw_72) (fun _ h9 => h9) rfl hnm rfl (by decide +kernel) rfl rfl (Nat.le_of_ble_eq_true rfl) dX0_init_9 (fun H locs hP hD hS => ?_)
  have hP : va_P D vwCl [(dr, .inr (0, [.ref q_1, .null])), (q_1, .inl (Y 0, 64, .inl (aN (fun _ => 0))))] H := hP
  have hD : va_D A [(dr, .inr (0, [.ref q_1, .null])), (q_1, .inl (Y 0, 64, .inl (aN (fun _ => 0))))] := hD
  refine lv_aload_n hx hb dX0_init_12 rfl (lv_at hl 0 rfl) ?_
  refine lv_bipush (v := nI 64) hx hb dX0_init_13 (by decide) ?_
  refine mv_newaI hx hb hts hK hP hD hS hA (n := 64) (by decide) (by decide) (Nat.le_of_ble_eq_true rfl) (Nat.le_of_ble_eq_true rfl) dX0_init_15 (fun q_2 H hP hD hS => ?_)
  have hP : va_P D vwCl [(dr, .inr (0, [.ref q_1, .null])), (q_1, .inl (Y 0, 64, .inl (aN (fun _ => 0)))), (q_2, .inl (Y 0, 64, .inl (aN (fun _ => 0))))] H := hP
  have hD : va_D A [(dr, .inr (0, [.ref q_1, .null])), (q_1, .inl (Y 0, 64, .inl (aN (fun _ => 0)))), (q_2, .inl (Y 0, 64, .inl (aN (fun _ => 0))))] := hD
  refine W.widen (k := 2) (n := 128) (by omega) (by omega) ?_
  refine va_putF (D := D) (ci := 0) (v := .ref q_2) (ty := .array .int) (C := RX0) (T := TX0) (N := 2) hx hb hts inlX0 tyX0 tyX0_ok nmX0 hown hK hP hD hS 0 rfl rfl 1 (by decide) (hts _ mw_73) (fun _ h9 => h9) rfl hnm rfl (by decide +kernel) rfl rfl (Nat.le_of_ble_eq_true rfl) dX0_init_17 (fun H locs hP hD hS => ?_)
  have hP : va_P D vwCl [(dr, .inr (0, [.ref q_1, .ref q_2])), (q_1, .inl (Y 0, 64, .inl (aN (fun _ => 0)))), (q_2, .inl (Y 0, 64, .inl (aN (fun _ => 0))))] H := hP
  have hD : va_D A [(dr, .inr (0, [.ref q_1, .ref q_2])), (q_1, .inl (Y 0, 64, .inl (aN (fun _ => 0)))), (q_2, .inl (Y 0, 64, .inl (aN (fun _ => 0))))] := hD
  exact mv_vret hx hb hr hlocks (q_1, q_2) (trivial) hP hK hD hS dX0_init_20
abbrev q_X0_planBehind (D : va_G) (Y : Nat → ClassId) (dr : Nat) (da : Nat) (db : Nat) (df : Nat → Nat) (dn : Nat → Nat) (w : Nat) (h : Nat) (ca : Nat) (ro : Nat) (sh : Nat) (un : Nat) (so : Nat) (si : Nat) (prs : Nat) (yrs : Nat) (bs : Nat) (sc : Nat) (gh : Nat → Nat) (gso : Nat → Nat) (wn : Nat) : (Nat → Prop) → Array Value → State → Outcome → State → Prop := mv_Qv D Y (fun (_ : Unit) => True) (fun _ : Unit => ([(dr, .inr (0, [.ref da, .ref db])), (da, .inl (Y 0, 64, .inl (aN ((pbF gh gso wn df dn).1)))), (db, .inl (Y 0, 64, .inl (aN ((pbF gh gso wn df dn).2)))), (w, .inr (6, [.ref h, .ref ca, .int (nI prs), .int (nI yrs), .ref ro, .ref sh, .ref un, .ref so, .ref si, .int (nI bs), .int (nI sc)])), (h, .inl (Y 0, 6, .inl (aN gh))), (so, .inl (Y 0, 5, .inl (aN gso)))] : va_W))
set_option maxHeartbeats 4000000 in
set_option maxRecDepth 100000 in
theorem c_X0_planBehind (l : Launch) (D : va_G) (Y : Nat → ClassId) (sz : Nat) (dr : Nat) (da : Nat) (db : Nat) (df : Nat → Nat) (dn : Nat → Nat) (w : Nat) (h : Nat) (ca : Nat) (ro : Nat) (sh : Nat) (un : Nat) (so : Nat) (si : Nat) (prs : Nat) (yrs : Nat) (bs : Nat) (sc : Nat) (gh : Nat → Nat) (gso : Nat → Nat) (wn : Nat) (hw : wn < 64) (hf : ∀ j, wn < j → j < 64 → df j ≤ 16 * (63 - j)) (hh : ∀ k, k < 6 → gh k < 65536) (hso : ∀ k, k < 5 → gso k < 65536) : mv_C l D Y yX0_planBehind cX0_planBehind 7 none 1 0 0 [.ref dr, .ref w, .int (nI wn)] sz [(dr, .inr (0, [.ref da, .ref db])), (da, .inl (Y 0, 64, .inl (aN df))), (db, .inl (Y 0, 64, .inl (aN dn))), (w, .inr (6, [.ref h, .ref ca, .int (nI prs), .int (nI yrs), .ref ro, .ref sh, .ref un, .ref so, .ref si, .int (nI bs), .int (nI sc)])), (h, .inl (Y 0, 6, .inl (aN gh))), (so, .inl (Y 0, 5, .inl (aN gso)))] (q_X0_planBehind D Y dr da db df dn w h ca ro sh un so si prs yrs bs sc gh gso wn) := by
  refine mv_ofW (by decide) (Nat.le_of_ble_eq_true rfl) ?_
  intro p e s m below meth c ls A hx hb hr hlocks hml hnm hown hts hsz hAe hP hK hD hS hST hA hl
  have hl : lv_has ls 7 [(0, .ref dr), (1, .ref w), (2, .int (nI wn))] := hl
  have L29 : ∀ (fu : Nat) (k : Nat) (fz : Nat → Nat) (nz : Nat → Nat) (hk : k ≤ 6) (hf2 : fz = (pbS gh gso wn df dn k).1) (hn2 : nz = (pbS gh gso wn df dn k).2) (ho : popc wn < 5) (hmeas : 6 - k < fu) (H : Heap) (locs : List Loc) (ls : Array Slot), va_P D vwCl [(dr, .inr (0, [.ref da, .ref db])), (da, .inl (Y 0, 64, .inl (aN fz))), (db, .inl (Y 0, 64, .inl (aN nz))), (w, .inr (6, [.ref h, .ref ca, .int (nI prs), .int (nI yrs), .ref ro, .ref sh, .ref un, .ref so, .ref si, .int (nI bs), .int (nI sc)])), (h, .inl (Y 0, 6, .inl (aN gh))), (so, .inl (Y 0, 5, .inl (aN gso)))] H → va_D A [(dr, .inr (0, [.ref da, .ref db])), (da, .inl (Y 0, 64, .inl (aN fz))), (db, .inl (Y 0, 64, .inl (aN nz))), (w, .inr (6, [.ref h, .ref ca, .int (nI prs), .int (nI yrs), .ref ro, .ref sh, .ref un, .ref so, .ref si, .int (nI bs), .int (nI sc)])), (h, .inl (Y 0, 6, .inl (aN gh))), (so, .inl (Y 0, 5, .inl (aN gso)))] → va_S A s.heap H locs → lv_has ls 7 [(4, .int (nI k)), (3, .int (nI (popc wn))), (0, .ref dr), (1, .ref w), (2, .int (nI wn))] → W p l e (mv_R 1 0 0) s m [.ref dr, .ref w, .int (nI wn)].toArray below meth c H locs 0 0 (MQ below ((q_X0_planBehind D Y dr da db df dn w h ca ro sh un so si prs yrs bs sc gh gso wn) A) [.ref dr, .ref w, .int (nI wn)].toArray s 0 0 A) (F0 m 29 ls []) := by
    intro fu
    induction fu with
    | zero =>
      intro k fz nz hk hf2 hn2 ho hmeas
      exact absurd hmeas (Nat.not_lt_zero _)
    | succ fu L29ih =>
      intro k fz nz hk hf2 hn2 ho hmeas H locs ls hP hD hS hl
      have hfb : ∀ j, wn ≤ j → j < 64 → fz j ≤ 16 * (63 - j) := by rw [hf2]; exact pbS_bd hw hf k hk
      have hnb : nz wn < 4294967296 := by rw [hn2]; exact pbS_nx k hk
      refine lv_iload hx hb dX0_planBehind_29 (lv_at hl 0 rfl) ?_
      refine lv_bipush (v := nI 6) hx hb dX0_planBehind_31 (by decide) ?_
      refine mv_icmp_ge (tgt := 124) hx hb (by omega) (by omega) dX0_planBehind_33 (by decide) (fun c33 => ?_) (fun c33 => ?_)
      · skip
        exact mv_vret hx hb hr hlocks () (trivial) (by rw [show pbF gh gso wn df dn = pbS gh gso wn df dn 6 from if_neg (by omega), show pbS gh gso wn df dn 6 = pbS gh gso wn df dn k by rw [show k = 6 by omega], ← hf2, ← hn2]; exact hP) hK (by rw [show pbF gh gso wn df dn = pbS gh gso wn df dn 6 from if_neg (by omega), show pbS gh gso wn df dn 6 = pbS gh gso wn df dn k by rw [show k = 6 by omega], ← hf2, ← hn2]; exact hD) hS dX0_planBehind_124
      · skip
        refine lv_iload_n hx hb dX0_planBehind_36 rfl (lv_at hl 4 rfl) ?_
        refine lv_iload hx hb dX0_planBehind_37 (lv_at hl 0 rfl) ?_
        refine mv_ishr hx hb (by omega) (by omega) dX0_planBehind_39 ?_
        refine lv_iconst (v := nI 1) hx hb dX0_planBehind_40 (by decide) ?_
        refine mv_iand1 hx hb dX0_planBehind_41 ?_
        refine mv_if_ne (tgt := 118) hx hb (by omega) dX0_planBehind_42 (by decide) (fun c42 => ?_) (fun c42 => ?_)
        · skip
          refine lv_iinc (v := nI (k + 1)) (lv' := [(4, .int (nI (k + 1))), (3, .int (nI (popc wn))), (0, .ref dr), (1, .ref w), (2, .int (nI wn))]) hx hb dX0_planBehind_118 hl (k := 0) rfl (by exact nI_add _ 1) (by decide) rfl (fun ls hl => ?_)
          refine lv_goto (tgt := 29) hx hb dX0_planBehind_121 (by decide) ?_
          exact L29ih  (k + 1) fz nz (by first | assumption | omega | rfl) (by rw [pbS, if_neg (by omega), hf2]) (by rw [pbS, if_neg (by omega), hn2]) (by first | assumption | omega | rfl) (by omega) _ _ _ hP hD hS (lv_sub hl [0, 1, 2, 3, 4] rfl)
        · skip
          have hor := or_new c42
          have hpw := Nat.two_pow_pos k
          have hol : wn ||| 1 * 2 ^ k < 2 ^ 6 := or_lt _ _ hw (p2_lt (by omega))
          have hfo := hfb (wn ||| 1 * 2 ^ k) (by omega) (by omega)
          have hfw := hfb wn (Nat.le_refl _) hw
          have hpk := popc_le (gh k &&& gso (popc wn))
          have hhk := hh k (by omega)
          refine lv_aload_n hx hb dX0_planBehind_45 rfl (lv_at hl 3 rfl) ?_
          refine va_get (D := D) (ci := 6) (v := .ref h) (C := RX6) (T := TX6) (N := 11) hx hb hts inlX6 hown hK hP 3 rfl rfl 0 (by decide) (hts _ mw_469) (fun _ h9 => h9) rfl dX0_planBehind_46 ?_
          refine lv_iload hx hb dX0_planBehind_49 (lv_at hl 0 rfl) ?_
          refine mv_iald hx hb hK hP 4 rfl (i := k) (by omega) (by decide) dX0_planBehind_51 ?_
          refine lv_aload_n hx hb dX0_planBehind_52 rfl (lv_at hl 3 rfl) ?_
          refine va_get (D := D) (ci := 6) (v := .ref so) (C := RX6) (T := TX6) (N := 11) hx hb hts inlX6 hown hK hP 3 rfl rfl 7 (by decide) (hts _ mw_470) (fun _ h9 => h9) rfl dX0_planBehind_53 ?_
          refine lv_iload_n hx hb dX0_planBehind_56 rfl (lv_at hl 1 rfl) ?_
          refine mv_iald hx hb hK hP 5 rfl (i := popc wn) (by omega) (by decide) dX0_planBehind_57 ?_
          refine mv_iand hx hb dX0_planBehind_58 ?_
          refine lv_istore (lv' := [(5, .int (nI ((gh k) &&& (gso (popc wn))))), (4, .int (nI k)), (3, .int (nI (popc wn))), (0, .ref dr), (1, .ref w), (2, .int (nI wn))]) hx hb dX0_planBehind_59 hl (by decide) rfl (fun ls hl => ?_)
          refine lv_iload hx hb dX0_planBehind_61 (lv_at hl 0 rfl) ?_
          refine mv_callSi (nA := 1) (As := [.int (nI ((gh k) &&& (gso (popc wn))))]) (rest := []) (Wc := []) (wr := [(dr, .inr (0, [.ref da, .ref db])), (da, .inl (Y 0, 64, .inl (aN fz))), (db, .inl (Y 0, 64, .inl (aN nz))), (w, .inr (6, [.ref h, .ref ca, .int (nI prs), .int (nI yrs), .ref ro, .ref sh, .ref un, .ref so, .ref si, .int (nI bs), .int (nI sc)])), (h, .inl (Y 0, 6, .inl (aN gh))), (so, .inl (Y 0, 5, .inl (aN gso)))]) hx hb hml hown hts hK hP hD hS hST hA hl.1 (c_J6_bitCount_0f7a4 l D Y _ ((gh k) &&& (gso (popc wn))) (Nat.lt_of_le_of_lt Nat.and_le_left hhk)) [] [0, 1, 2, 3, 4, 5] rfl rfl (by decide) (by decide) (by decide) rfl mw_471 mw_422 mw_423 mw_424 ⟨by decide, by decide, by decide +kernel⟩ rfl ⟨Nat.le_of_ble_eq_true rfl, Nat.le_of_ble_eq_true rfl⟩ rfl (Nat.le_of_ble_eq_true rfl) dX0_planBehind_63 ⟨Nat.le_of_ble_eq_true rfl, Nat.le_of_ble_eq_true rfl⟩ (fun r_1 ux H locs hr63 hP hD hS hz63 => ?_)
          have hP := hP.sub (ws' := [(dr, .inr (0, [.ref da, .ref db])), (da, .inl (Y 0, 64, .inl (aN fz))), (db, .inl (Y 0, 64, .inl (aN nz))), (w, .inr (6, [.ref h, .ref ca, .int (nI prs), .int (nI yrs), .ref ro, .ref sh, .ref un, .ref so, .ref si, .int (nI bs), .int (nI sc)])), (h, .inl (Y 0, 6, .inl (aN gh))), (so, .inl (Y 0, 5, .inl (aN gso)))]) [0, 1, 2, 3, 4, 5] rfl
          have hD := hD.sub (ws' := [(dr, .inr (0, [.ref da, .ref db])), (da, .inl (Y 0, 64, .inl (aN fz))), (db, .inl (Y 0, 64, .inl (aN nz))), (w, .inr (6, [.ref h, .ref ca, .int (nI prs), .int (nI yrs), .ref ro, .ref sh, .ref un, .ref so, .ref si, .int (nI bs), .int (nI sc)])), (h, .inl (Y 0, 6, .inl (aN gh))), (so, .inl (Y 0, 5, .inl (aN gso)))]) [0, 1, 2, 3, 4, 5] (by decide) rfl
          have hr63 : r_1 = nI (popc ((gh k) &&& (gso (popc wn)))) := hr63
          subst hr63
          refine lv_aload_n hx hb dX0_planBehind_66 rfl (lv_at hl 3 rfl) ?_
          refine va_get (D := D) (ci := 0) (v := .ref da) (C := RX0) (T := TX0) (N := 2) hx hb hts inlX0 hown hK hP 0 rfl rfl 0 (by decide) (hts _ mw_72) (fun _ h9 => h9) rfl dX0_planBehind_67 ?_
          refine lv_iload_n hx hb dX0_planBehind_70 rfl (lv_at hl 5 rfl) ?_
          refine lv_iconst (v := nI 1) hx hb dX0_planBehind_71 (by decide) ?_
          refine lv_iload hx hb dX0_planBehind_72 (lv_at hl 1 rfl) ?_
          refine mv_ishl hx hb (by omega) dX0_planBehind_74 ?_
          refine mv_ior hx hb dX0_planBehind_75 ?_
          refine mv_iald hx hb hK hP 1 rfl (i := wn ||| (1 * 2 ^ k)) (by omega) (by decide) dX0_planBehind_76 ?_
          refine mv_iadd hx hb dX0_planBehind_77 ?_
          refine lv_istore (lv' := [(6, .int (nI ((popc ((gh k) &&& (gso (popc wn)))) + (fz (wn ||| (1 * 2 ^ k)))))), (5, .int (nI ((gh k) &&& (gso (popc wn))))), (4, .int (nI k)), (3, .int (nI (popc wn))), (0, .ref dr), (1, .ref w), (2, .int (nI wn))]) hx hb dX0_planBehind_78 hl (by decide) rfl (fun ls hl => ?_)
          refine lv_aload_n hx hb dX0_planBehind_80 rfl (lv_at hl 4 rfl) ?_
          refine va_get (D := D) (ci := 0) (v := .ref db) (C := RX0) (T := TX0) (N := 2) hx hb hts inlX0 hown hK hP 0 rfl rfl 1 (by decide) (hts _ mw_73) (fun _ h9 => h9) rfl dX0_planBehind_81 ?_
          refine lv_iload_n hx hb dX0_planBehind_84 rfl (lv_at hl 6 rfl) ?_
          refine mv_iald hx hb hK hP 2 rfl (i := wn) (by omega) (by decide) dX0_planBehind_85 ?_
          refine lv_bipush (v := nI 4294967290) hx hb dX0_planBehind_86 (by decide) ?_
          refine mv_icmp_eqW (tgt := 102) hx hb (by omega) (by omega) dX0_planBehind_88 (by decide) (fun c88 => ?_) (fun c88 => ?_)
          · skip
            refine lv_aload_n hx hb dX0_planBehind_102 rfl (lv_at hl 4 rfl) ?_
            refine va_get (D := D) (ci := 0) (v := .ref da) (C := RX0) (T := TX0) (N := 2) hx hb hts inlX0 hown hK hP 0 rfl rfl 0 (by decide) (hts _ mw_72) (fun _ h9 => h9) rfl dX0_planBehind_103 ?_
            refine lv_iload_n hx hb dX0_planBehind_106 rfl (lv_at hl 6 rfl) ?_
            refine lv_iload hx hb dX0_planBehind_107 (lv_at hl 0 rfl) ?_
            refine mv_iast hx hb hK hP hD hS 1 rfl (i := wn) (v := (popc ((gh k) &&& (gso (popc wn)))) + (fz (wn ||| (1 * 2 ^ k)))) (by omega) (by decide) dX0_planBehind_109 (fun H locs hP hD hS => ?_)
            have hP : va_P D vwCl [(dr, .inr (0, [.ref da, .ref db])), (da, .inl (Y 0, 64, .inl (aN (uN fz wn ((popc ((gh k) &&& (gso (popc wn)))) + (fz (wn ||| (1 * 2 ^ k)))))))), (db, .inl (Y 0, 64, .inl (aN nz))), (w, .inr (6, [.ref h, .ref ca, .int (nI prs), .int (nI yrs), .ref ro, .ref sh, .ref un, .ref so, .ref si, .int (nI bs), .int (nI sc)])), (h, .inl (Y 0, 6, .inl (aN gh))), (so, .inl (Y 0, 5, .inl (aN gso)))] H := hP
            have hD : va_D A [(dr, .inr (0, [.ref da, .ref db])), (da, .inl (Y 0, 64, .inl (aN (uN fz wn ((popc ((gh k) &&& (gso (popc wn)))) + (fz (wn ||| (1 * 2 ^ k)))))))), (db, .inl (Y 0, 64, .inl (aN nz))), (w, .inr (6, [.ref h, .ref ca, .int (nI prs), .int (nI yrs), .ref ro, .ref sh, .ref un, .ref so, .ref si, .int (nI bs), .int (nI sc)])), (h, .inl (Y 0, 6, .inl (aN gh))), (so, .inl (Y 0, 5, .inl (aN gso)))] := hD
            refine lv_aload_n hx hb dX0_planBehind_110 rfl (lv_at hl 4 rfl) ?_
            refine va_get (D := D) (ci := 0) (v := .ref db) (C := RX0) (T := TX0) (N := 2) hx hb hts inlX0 hown hK hP 0 rfl rfl 1 (by decide) (hts _ mw_73) (fun _ h9 => h9) rfl dX0_planBehind_111 ?_
            refine lv_iload_n hx hb dX0_planBehind_114 rfl (lv_at hl 6 rfl) ?_
            refine lv_iload hx hb dX0_planBehind_115 (lv_at hl 2 rfl) ?_
            refine mv_iast hx hb hK hP hD hS 2 rfl (i := wn) (v := k) (by omega) (by decide) dX0_planBehind_117 (fun H locs hP hD hS => ?_)
            have hP : va_P D vwCl [(dr, .inr (0, [.ref da, .ref db])), (da, .inl (Y 0, 64, .inl (aN (uN fz wn ((popc ((gh k) &&& (gso (popc wn)))) + (fz (wn ||| (1 * 2 ^ k)))))))), (db, .inl (Y 0, 64, .inl (aN (uN nz wn k)))), (w, .inr (6, [.ref h, .ref ca, .int (nI prs), .int (nI yrs), .ref ro, .ref sh, .ref un, .ref so, .ref si, .int (nI bs), .int (nI sc)])), (h, .inl (Y 0, 6, .inl (aN gh))), (so, .inl (Y 0, 5, .inl (aN gso)))] H := hP
            have hD : va_D A [(dr, .inr (0, [.ref da, .ref db])), (da, .inl (Y 0, 64, .inl (aN (uN fz wn ((popc ((gh k) &&& (gso (popc wn)))) + (fz (wn ||| (1 * 2 ^ k)))))))), (db, .inl (Y 0, 64, .inl (aN (uN nz wn k)))), (w, .inr (6, [.ref h, .ref ca, .int (nI prs), .int (nI yrs), .ref ro, .ref sh, .ref un, .ref so, .ref si, .int (nI bs), .int (nI sc)])), (h, .inl (Y 0, 6, .inl (aN gh))), (so, .inl (Y 0, 5, .inl (aN gso)))] := hD
            refine lv_iinc (v := nI (k + 1)) (lv' := [(4, .int (nI (k + 1))), (6, .int (nI ((popc ((gh k) &&& (gso (popc wn)))) + (fz (wn ||| (1 * 2 ^ k)))))), (5, .int (nI ((gh k) &&& (gso (popc wn))))), (3, .int (nI (popc wn))), (0, .ref dr), (1, .ref w), (2, .int (nI wn))]) hx hb dX0_planBehind_118 hl (k := 2) rfl (by exact nI_add _ 1) (by decide) rfl (fun ls hl => ?_)
            refine lv_goto (tgt := 29) hx hb dX0_planBehind_121 (by decide) ?_
            exact L29ih  (k + 1) (uN fz wn ((popc ((gh k) &&& (gso (popc wn)))) + (fz (wn ||| (1 * 2 ^ k))))) (uN nz wn k) (by first | assumption | omega | rfl) (by rw [pbS, if_pos c42, if_pos (Or.inl (by rw [← hn2]; exact c88)), hf2]) (by rw [pbS, if_pos c42, if_pos (Or.inl (by rw [← hn2]; exact c88)), hn2]) (by first | assumption | omega | rfl) (by omega) _ _ _ hP hD hS (lv_sub hl [0, 3, 4, 5, 6] rfl)
          · skip
            refine lv_iload hx hb dX0_planBehind_91 (lv_at hl 0 rfl) ?_
            refine lv_aload_n hx hb dX0_planBehind_93 rfl (lv_at hl 4 rfl) ?_
            refine va_get (D := D) (ci := 0) (v := .ref da) (C := RX0) (T := TX0) (N := 2) hx hb hts inlX0 hown hK hP 0 rfl rfl 0 (by decide) (hts _ mw_72) (fun _ h9 => h9) rfl dX0_planBehind_94 ?_
            refine lv_iload_n hx hb dX0_planBehind_97 rfl (lv_at hl 6 rfl) ?_
            refine mv_iald hx hb hK hP 1 rfl (i := wn) (by omega) (by decide) dX0_planBehind_98 ?_
            refine mv_icmp_ge (tgt := 118) hx hb (by omega) (by omega) dX0_planBehind_99 (by decide) (fun c99 => ?_) (fun c99 => ?_)
            · skip
              refine lv_iinc (v := nI (k + 1)) (lv' := [(4, .int (nI (k + 1))), (6, .int (nI ((popc ((gh k) &&& (gso (popc wn)))) + (fz (wn ||| (1 * 2 ^ k)))))), (5, .int (nI ((gh k) &&& (gso (popc wn))))), (3, .int (nI (popc wn))), (0, .ref dr), (1, .ref w), (2, .int (nI wn))]) hx hb dX0_planBehind_118 hl (k := 2) rfl (by exact nI_add _ 1) (by decide) rfl (fun ls hl => ?_)
              refine lv_goto (tgt := 29) hx hb dX0_planBehind_121 (by decide) ?_
              exact L29ih  (k + 1) fz nz (by first | assumption | omega | rfl) (by rw [pbS, if_pos c42, if_neg (by rw [← hf2, ← hn2]; rintro (q | q); exact c88 q; omega)]; exact hf2) (by rw [pbS, if_pos c42, if_neg (by rw [← hf2, ← hn2]; rintro (q | q); exact c88 q; omega)]; exact hn2) (by first | assumption | omega | rfl) (by omega) _ _ _ hP hD hS (lv_sub hl [0, 3, 4, 5, 6] rfl)
            · skip
              refine lv_aload_n hx hb dX0_planBehind_102 rfl (lv_at hl 4 rfl) ?_
              refine va_get (D := D) (ci := 0) (v := .ref da) (C := RX0) (T := TX0) (N := 2) hx hb hts inlX0 hown hK hP 0 rfl rfl 0 (by decide) (hts _ mw_72) (fun _ h9 => h9) rfl dX0_planBehind_103 ?_
              refine lv_iload_n hx hb dX0_planBehind_106 rfl (lv_at hl 6 rfl) ?_
              refine lv_iload hx hb dX0_planBehind_107 (lv_at hl 0 rfl) ?_
              refine mv_iast hx hb hK hP hD hS 1 rfl (i := wn) (v := (popc ((gh k) &&& (gso (popc wn)))) + (fz (wn ||| (1 * 2 ^ k)))) (by omega) (by decide) dX0_planBehind_109 (fun H locs hP hD hS => ?_)
              have hP : va_P D vwCl [(dr, .inr (0, [.ref da, .ref db])), (da, .inl (Y 0, 64, .inl (aN (uN fz wn ((popc ((gh k) &&& (gso (popc wn)))) + (fz (wn ||| (1 * 2 ^ k)))))))), (db, .inl (Y 0, 64, .inl (aN nz))), (w, .inr (6, [.ref h, .ref ca, .int (nI prs), .int (nI yrs), .ref ro, .ref sh, .ref un, .ref so, .ref si, .int (nI bs), .int (nI sc)])), (h, .inl (Y 0, 6, .inl (aN gh))), (so, .inl (Y 0, 5, .inl (aN gso)))] H := hP
              have hD : va_D A [(dr, .inr (0, [.ref da, .ref db])), (da, .inl (Y 0, 64, .inl (aN (uN fz wn ((popc ((gh k) &&& (gso (popc wn)))) + (fz (wn ||| (1 * 2 ^ k)))))))), (db, .inl (Y 0, 64, .inl (aN nz))), (w, .inr (6, [.ref h, .ref ca, .int (nI prs), .int (nI yrs), .ref ro, .ref sh, .ref un, .ref so, .ref si, .int (nI bs), .int (nI sc)])), (h, .inl (Y 0, 6, .inl (aN gh))), (so, .inl (Y 0, 5, .inl (aN gso)))] := hD
              refine lv_aload_n hx hb dX0_planBehind_110 rfl (lv_at hl 4 rfl) ?_
              refine va_get (D := D) (ci := 0) (v := .ref db) (C := RX0) (T := TX0) (N := 2) hx hb hts inlX0 hown hK hP 0 rfl rfl 1 (by decide) (hts _ mw_73) (fun _ h9 => h9) rfl dX0_planBehind_111 ?_
              refine lv_iload_n hx hb dX0_planBehind_114 rfl (lv_at hl 6 rfl) ?_
              refine lv_iload hx hb dX0_planBehind_115 (lv_at hl 2 rfl) ?_
              refine mv_iast hx hb hK hP hD hS 2 rfl (i := wn) (v := k) (by omega) (by decide) dX0_planBehind_117 (fun H locs hP hD hS => ?_)
              have hP : va_P D vwCl [(dr, .inr (0, [.ref da, .ref db])), (da, .inl (Y 0, 64, .inl (aN (uN fz wn ((popc ((gh k) &&& (gso (popc wn)))) + (fz (wn ||| (1 * 2 ^ k)))))))), (db, .inl (Y 0, 64, .inl (aN (uN nz wn k)))), (w, .inr (6, [.ref h, .ref ca, .int (nI prs), .int (nI yrs), .ref ro, .ref sh, .ref un, .ref so, .ref si, .int (nI bs), .int (nI sc)])), (h, .inl (Y 0, 6, .inl (aN gh))), (so, .inl (Y 0, 5, .inl (aN gso)))] H := hP
              have hD : va_D A [(dr, .inr (0, [.ref da, .ref db])), (da, .inl (Y 0, 64, .inl (aN (uN fz wn ((popc ((gh k) &&& (gso (popc wn)))) + (fz (wn ||| (1 * 2 ^ k)))))))), (db, .inl (Y 0, 64, .inl (aN (uN nz wn k)))), (w, .inr (6, [.ref h, .ref ca, .int (nI prs), .int (nI yrs), .ref ro, .ref sh, .ref un, .ref so, .ref si, .int (nI bs), .int (nI sc)])), (h, .inl (Y 0, 6, .inl (aN gh))), (so, .inl (Y 0, 5, .inl (aN gso)))] := hD
              refine lv_iinc (v := nI (k + 1)) (lv' := [(4, .int (nI (k + 1))), (6, .int (nI ((popc ((gh k) &&& (gso (popc wn)))) + (fz (wn ||| (1 * 2 ^ k)))))), (5, .int (nI ((gh k) &&& (gso (popc wn))))), (3, .int (nI (popc wn))), (0, .ref dr), (1, .ref w), (2, .int (nI wn))]) hx hb dX0_planBehind_118 hl (k := 2) rfl (by exact nI_add _ 1) (by decide) rfl (fun ls hl => ?_)
              refine lv_goto (tgt := 29) hx hb dX0_planBehind_121 (by decide) ?_
              exact L29ih  (k + 1) (uN fz wn ((popc ((gh k) &&& (gso (popc wn)))) + (fz (wn ||| (1 * 2 ^ k))))) (uN nz wn k) (by first | assumption | omega | rfl) (by rw [pbS, if_pos c42, if_pos (Or.inr (by rw [← hf2]; exact c99)), hf2]) (by rw [pbS, if_pos c42, if_pos (Or.inr (by rw [← hf2]; exact c99)), hn2]) (by first | assumption | omega | rfl) (by omega) _ _ _ hP hD hS (lv_sub hl [0, 3, 4, 5, 6] rfl)
  refine lv_iload_n hx hb dX0_planBehind_0 rfl (lv_at hl 2 rfl) ?_
  refine mv_callSi (nA := 1) (As := [.int (nI wn)]) (rest := []) (Wc := []) (wr := [(dr, .inr (0, [.ref da, .ref db])), (da, .inl (Y 0, 64, .inl (aN df))), (db, .inl (Y 0, 64, .inl (aN dn))), (w, .inr (6, [.ref h, .ref ca, .int (nI prs), .int (nI yrs), .ref ro, .ref sh, .ref un, .ref so, .ref si, .int (nI bs), .int (nI sc)])), (h, .inl (Y 0, 6, .inl (aN gh))), (so, .inl (Y 0, 5, .inl (aN gso)))]) hx hb hml hown hts hK hP hD hS hST hA hl.1 (c_J6_bitCount_0f7a4 l D Y _ wn (by first | assumption | omega | rfl)) [] [0, 1, 2, 3, 4, 5] rfl rfl (by decide) (by decide) (by decide) rfl mw_471 mw_422 mw_423 mw_424 ⟨by decide, by decide, by decide +kernel⟩ rfl ⟨Nat.le_of_ble_eq_true rfl, Nat.le_of_ble_eq_true rfl⟩ rfl (Nat.le_of_ble_eq_true rfl) dX0_planBehind_1 ⟨Nat.le_of_ble_eq_true rfl, Nat.le_of_ble_eq_true rfl⟩ (fun r_2 ux H locs hr1 hP hD hS hz1 => ?_)
  have hP := hP.sub (ws' := [(dr, .inr (0, [.ref da, .ref db])), (da, .inl (Y 0, 64, .inl (aN df))), (db, .inl (Y 0, 64, .inl (aN dn))), (w, .inr (6, [.ref h, .ref ca, .int (nI prs), .int (nI yrs), .ref ro, .ref sh, .ref un, .ref so, .ref si, .int (nI bs), .int (nI sc)])), (h, .inl (Y 0, 6, .inl (aN gh))), (so, .inl (Y 0, 5, .inl (aN gso)))]) [0, 1, 2, 3, 4, 5] rfl
  have hD := hD.sub (ws' := [(dr, .inr (0, [.ref da, .ref db])), (da, .inl (Y 0, 64, .inl (aN df))), (db, .inl (Y 0, 64, .inl (aN dn))), (w, .inr (6, [.ref h, .ref ca, .int (nI prs), .int (nI yrs), .ref ro, .ref sh, .ref un, .ref so, .ref si, .int (nI bs), .int (nI sc)])), (h, .inl (Y 0, 6, .inl (aN gh))), (so, .inl (Y 0, 5, .inl (aN gso)))]) [0, 1, 2, 3, 4, 5] (by decide) rfl
  have hr1 : r_2 = nI (popc wn) := hr1
  subst hr1
  refine lv_istore_n (lv' := [(3, .int (nI (popc wn))), (0, .ref dr), (1, .ref w), (2, .int (nI wn))]) hx hb dX0_planBehind_4 rfl hl (by decide) rfl (fun ls hl => ?_)
  have hpo := popc_le wn
  refine lv_aload_n hx hb dX0_planBehind_5 rfl (lv_at hl 1 rfl) ?_
  refine va_get (D := D) (ci := 0) (v := .ref da) (C := RX0) (T := TX0) (N := 2) hx hb hts inlX0 hown hK hP 0 rfl rfl 0 (by decide) (hts _ mw_72) (fun _ h9 => h9) rfl dX0_planBehind_6 ?_
  refine lv_iload_n hx hb dX0_planBehind_9 rfl (lv_at hl 3 rfl) ?_
  refine lv_iconst (v := nI 0) hx hb dX0_planBehind_10 (by decide) ?_
  refine mv_iast hx hb hK hP hD hS 1 rfl (i := wn) (v := 0) (by omega) (by decide) dX0_planBehind_11 (fun H locs hP hD hS => ?_)
  have hP : va_P D vwCl [(dr, .inr (0, [.ref da, .ref db])), (da, .inl (Y 0, 64, .inl (aN (uN df wn 0)))), (db, .inl (Y 0, 64, .inl (aN dn))), (w, .inr (6, [.ref h, .ref ca, .int (nI prs), .int (nI yrs), .ref ro, .ref sh, .ref un, .ref so, .ref si, .int (nI bs), .int (nI sc)])), (h, .inl (Y 0, 6, .inl (aN gh))), (so, .inl (Y 0, 5, .inl (aN gso)))] H := hP
  have hD : va_D A [(dr, .inr (0, [.ref da, .ref db])), (da, .inl (Y 0, 64, .inl (aN (uN df wn 0)))), (db, .inl (Y 0, 64, .inl (aN dn))), (w, .inr (6, [.ref h, .ref ca, .int (nI prs), .int (nI yrs), .ref ro, .ref sh, .ref un, .ref so, .ref si, .int (nI bs), .int (nI sc)])), (h, .inl (Y 0, 6, .inl (aN gh))), (so, .inl (Y 0, 5, .inl (aN gso)))] := hD
  refine lv_aload_n hx hb dX0_planBehind_12 rfl (lv_at hl 1 rfl) ?_
  refine va_get (D := D) (ci := 0) (v := .ref db) (C := RX0) (T := TX0) (N := 2) hx hb hts inlX0 hown hK hP 0 rfl rfl 1 (by decide) (hts _ mw_73) (fun _ h9 => h9) rfl dX0_planBehind_13 ?_
  refine lv_iload_n hx hb dX0_planBehind_16 rfl (lv_at hl 3 rfl) ?_
  refine lv_bipush (v := nI 4294967290) hx hb dX0_planBehind_17 (by decide) ?_
  refine mv_iast hx hb hK hP hD hS 2 rfl (i := wn) (v := 4294967290) (by omega) (by decide) dX0_planBehind_19 (fun H locs hP hD hS => ?_)
  have hP : va_P D vwCl [(dr, .inr (0, [.ref da, .ref db])), (da, .inl (Y 0, 64, .inl (aN (uN df wn 0)))), (db, .inl (Y 0, 64, .inl (aN (uN dn wn 4294967290)))), (w, .inr (6, [.ref h, .ref ca, .int (nI prs), .int (nI yrs), .ref ro, .ref sh, .ref un, .ref so, .ref si, .int (nI bs), .int (nI sc)])), (h, .inl (Y 0, 6, .inl (aN gh))), (so, .inl (Y 0, 5, .inl (aN gso)))] H := hP
  have hD : va_D A [(dr, .inr (0, [.ref da, .ref db])), (da, .inl (Y 0, 64, .inl (aN (uN df wn 0)))), (db, .inl (Y 0, 64, .inl (aN (uN dn wn 4294967290)))), (w, .inr (6, [.ref h, .ref ca, .int (nI prs), .int (nI yrs), .ref ro, .ref sh, .ref un, .ref so, .ref si, .int (nI bs), .int (nI sc)])), (h, .inl (Y 0, 6, .inl (aN gh))), (so, .inl (Y 0, 5, .inl (aN gso)))] := hD
  refine lv_iload_n hx hb dX0_planBehind_20 rfl (lv_at hl 0 rfl) ?_
  refine lv_iconst (v := nI 5) hx hb dX0_planBehind_21 (by decide) ?_
  refine mv_icmp_lt (tgt := 26) hx hb (by omega) (by omega) dX0_planBehind_22 (by decide) (fun c22 => ?_) (fun c22 => ?_)
  · skip
    refine lv_iconst (v := nI 0) hx hb dX0_planBehind_26 (by decide) ?_
    refine lv_istore (lv' := [(4, .int (nI 0)), (3, .int (nI (popc wn))), (0, .ref dr), (1, .ref w), (2, .int (nI wn))]) hx hb dX0_planBehind_27 hl (by decide) rfl (fun ls hl => ?_)
    exact L29 (6 - 0 + 1) 0 (uN df wn 0) (uN dn wn 4294967290) (by first | assumption | omega | rfl) (rfl) (rfl) (by first | assumption | omega | rfl) (Nat.lt_succ_self _) _ _ _ hP hD hS (lv_sub hl [0, 1, 2, 3, 4] rfl)
  · skip
    exact mv_vret hx hb hr hlocks () (trivial) (by rw [show pbF gh gso wn df dn = pbS gh gso wn df dn 0 from if_pos c22]; exact hP) hK (by rw [show pbF gh gso wn df dn = pbS gh gso wn df dn 0 from if_pos c22]; exact hD) hS dX0_planBehind_25
abbrev q_X0_plan (D : va_G) (Y : Nat → ClassId) (dr : Nat) (da : Nat) (db : Nat) (df : Nat → Nat) (dn : Nat → Nat) (w : Nat) (h : Nat) (ca : Nat) (ro : Nat) (sh : Nat) (un : Nat) (so : Nat) (si : Nat) (prs : Nat) (yrs : Nat) (bs : Nat) (sc : Nat) (gh : Nat → Nat) (gso : Nat → Nat) : (Nat → Prop) → Array Value → State → Outcome → State → Prop := mv_Qv D Y (fun (_ : Unit) => True) (fun _ : Unit => ([(dr, .inr (0, [.ref da, .ref db])), (da, .inl (Y 0, 64, .inl (aN (plF gh gso df dn 64)))), (db, .inl (Y 0, 64, .inl (aN (plN gh gso df dn 64)))), (w, .inr (6, [.ref h, .ref ca, .int (nI prs), .int (nI yrs), .ref ro, .ref sh, .ref un, .ref so, .ref si, .int (nI bs), .int (nI sc)])), (h, .inl (Y 0, 6, .inl (aN gh))), (so, .inl (Y 0, 5, .inl (aN gso)))] : va_W))
set_option maxHeartbeats 4000000 in
set_option maxRecDepth 100000 in
theorem c_X0_plan (l : Launch) (D : va_G) (Y : Nat → ClassId) (sz : Nat) (dr : Nat) (da : Nat) (db : Nat) (df : Nat → Nat) (dn : Nat → Nat) (w : Nat) (h : Nat) (ca : Nat) (ro : Nat) (sh : Nat) (un : Nat) (so : Nat) (si : Nat) (prs : Nat) (yrs : Nat) (bs : Nat) (sc : Nat) (gh : Nat → Nat) (gso : Nat → Nat) (hh : ∀ k, k < 6 → gh k < 65536) (hso : ∀ k, k < 5 → gso k < 65536) : mv_C l D Y yX0_plan cX0_plan 3 none 2 0 0 [.ref dr, .ref w] sz [(dr, .inr (0, [.ref da, .ref db])), (da, .inl (Y 0, 64, .inl (aN df))), (db, .inl (Y 0, 64, .inl (aN dn))), (w, .inr (6, [.ref h, .ref ca, .int (nI prs), .int (nI yrs), .ref ro, .ref sh, .ref un, .ref so, .ref si, .int (nI bs), .int (nI sc)])), (h, .inl (Y 0, 6, .inl (aN gh))), (so, .inl (Y 0, 5, .inl (aN gso)))] (q_X0_plan D Y dr da db df dn w h ca ro sh un so si prs yrs bs sc gh gso) := by
  refine mv_ofW (by decide) (Nat.le_of_ble_eq_true rfl) ?_
  intro p e s m below meth c ls A hx hb hr hlocks hml hnm hown hts hsz hAe hP hK hD hS hST hA hl
  have hl : lv_has ls 3 [(0, .ref dr), (1, .ref w)] := hl
  have L3 : ∀ (fu : Nat) (i : Nat) (fz : Nat → Nat) (nz : Nat → Nat) (hi : i ≤ 64) (hf2 : fz = plF gh gso df dn i) (hn2 : nz = plN gh gso df dn i) (hfb : ∀ j, 64 - i ≤ j → j < 64 → fz j ≤ 16 * (63 - j)) (hmeas : 64 - i < fu) (H : Heap) (locs : List Loc) (ls : Array Slot), va_P D vwCl [(dr, .inr (0, [.ref da, .ref db])), (da, .inl (Y 0, 64, .inl (aN fz))), (db, .inl (Y 0, 64, .inl (aN nz))), (w, .inr (6, [.ref h, .ref ca, .int (nI prs), .int (nI yrs), .ref ro, .ref sh, .ref un, .ref so, .ref si, .int (nI bs), .int (nI sc)])), (h, .inl (Y 0, 6, .inl (aN gh))), (so, .inl (Y 0, 5, .inl (aN gso)))] H → va_D A [(dr, .inr (0, [.ref da, .ref db])), (da, .inl (Y 0, 64, .inl (aN fz))), (db, .inl (Y 0, 64, .inl (aN nz))), (w, .inr (6, [.ref h, .ref ca, .int (nI prs), .int (nI yrs), .ref ro, .ref sh, .ref un, .ref so, .ref si, .int (nI bs), .int (nI sc)])), (h, .inl (Y 0, 6, .inl (aN gh))), (so, .inl (Y 0, 5, .inl (aN gso)))] → va_S A s.heap H locs → lv_has ls 3 [(2, .int (nI (64 - i) - nI 1)), (0, .ref dr), (1, .ref w)] → W p l e (mv_R 2 0 0) s m [.ref dr, .ref w].toArray below meth c H locs 0 0 (MQ below ((q_X0_plan D Y dr da db df dn w h ca ro sh un so si prs yrs bs sc gh gso) A) [.ref dr, .ref w].toArray s 0 0 A) (F0 m 3 ls []) := by
    intro fu
    induction fu with
    | zero =>
      intro i fz nz hi hf2 hn2 hfb hmeas
      exact absurd hmeas (Nat.not_lt_zero _)
    | succ fu L3ih =>
      intro i fz nz hi hf2 hn2 hfb hmeas H locs ls hP hD hS hl
      refine lv_iload_n hx hb dX0_plan_3 rfl (lv_at hl 0 rfl) ?_
      refine lv_if_lt (tgt := 19) hx hb dX0_plan_4 (by decide) (fun c4 => ?_) (fun c4 => ?_)
      · skip
        exact mv_vret hx hb hr hlocks () (trivial) (by rw [show plF gh gso df dn 64 = fz by rw [hf2, show i = 64 by have := (sub1_neg (k := 64 - i) (by omega)).mp c4; omega], show plN gh gso df dn 64 = nz by rw [hn2, show i = 64 by have := (sub1_neg (k := 64 - i) (by omega)).mp c4; omega]]; exact hP) hK (by rw [show plF gh gso df dn 64 = fz by rw [hf2, show i = 64 by have := (sub1_neg (k := 64 - i) (by omega)).mp c4; omega], show plN gh gso df dn 64 = nz by rw [hn2, show i = 64 by have := (sub1_neg (k := 64 - i) (by omega)).mp c4; omega]]; exact hD) hS dX0_plan_19
      · skip
        have hi2 : i < 64 := by rcases Nat.lt_or_ge i 64 with q | q; exact q; exact absurd ((sub1_neg (by omega)).mpr (by omega)) c4
        have he9 : nI (64 - i) - nI 1 = nI (63 - i) := (pk_sub (by omega)).trans (congrArg nI (by omega))
        rw [he9] at hl
        refine lv_aload_n hx hb dX0_plan_7 rfl (lv_at hl 1 rfl) ?_
        refine lv_aload_n hx hb dX0_plan_8 rfl (lv_at hl 2 rfl) ?_
        refine lv_iload_n hx hb dX0_plan_9 rfl (lv_at hl 0 rfl) ?_
        refine mv_callVv (nA := 2) (As := [.ref w, .int (nI (63 - i))]) (rest := []) (Wc := [(dr, .inr (0, [.ref da, .ref db])), (da, .inl (Y 0, 64, .inl (aN fz))), (db, .inl (Y 0, 64, .inl (aN nz))), (w, .inr (6, [.ref h, .ref ca, .int (nI prs), .int (nI yrs), .ref ro, .ref sh, .ref un, .ref so, .ref si, .int (nI bs), .int (nI sc)])), (h, .inl (Y 0, 6, .inl (aN gh))), (so, .inl (Y 0, 5, .inl (aN gso)))]) (wr := []) hx hb hml hown hts hK hP hD hS hST hA hl.1 (c_X0_planBehind l D Y _ dr da db fz nz w h ca ro sh un so si prs yrs bs sc gh gso (63 - i) (by omega) (fun j h1 h2 => hfb j (by omega) h2) (by first | assumption | omega | rfl) (by first | assumption | omega | rfl)) [0, 1, 2, 3, 4, 5] [] rfl rfl (by decide) (by decide) (by decide) rfl 0 rfl rfl rfl mw_465 mw_466 mw_467 mw_35 mw_468 ⟨by decide, by decide, by decide +kernel⟩ rfl ⟨Nat.le_of_ble_eq_true rfl, Nat.le_of_ble_eq_true rfl⟩ rfl (Nat.le_of_ble_eq_true rfl) dX0_plan_10 ⟨Nat.le_of_ble_eq_true rfl, Nat.le_of_ble_eq_true rfl⟩ (fun ux H locs hr10 hP hD hS hz10 => ?_)
        have hP := hP.sub (ws' := [(dr, .inr (0, [.ref da, .ref db])), (da, .inl (Y 0, 64, .inl (aN ((pbF gh gso (63 - i) fz nz).1)))), (db, .inl (Y 0, 64, .inl (aN ((pbF gh gso (63 - i) fz nz).2)))), (w, .inr (6, [.ref h, .ref ca, .int (nI prs), .int (nI yrs), .ref ro, .ref sh, .ref un, .ref so, .ref si, .int (nI bs), .int (nI sc)])), (h, .inl (Y 0, 6, .inl (aN gh))), (so, .inl (Y 0, 5, .inl (aN gso)))]) [0, 1, 2, 3, 4, 5] rfl
        have hD := hD.sub (ws' := [(dr, .inr (0, [.ref da, .ref db])), (da, .inl (Y 0, 64, .inl (aN ((pbF gh gso (63 - i) fz nz).1)))), (db, .inl (Y 0, 64, .inl (aN ((pbF gh gso (63 - i) fz nz).2)))), (w, .inr (6, [.ref h, .ref ca, .int (nI prs), .int (nI yrs), .ref ro, .ref sh, .ref un, .ref so, .ref si, .int (nI bs), .int (nI sc)])), (h, .inl (Y 0, 6, .inl (aN gh))), (so, .inl (Y 0, 5, .inl (aN gso)))]) [0, 1, 2, 3, 4, 5] (by decide) rfl
        refine lv_iinc (v := nI (63 - i) - nI 1) (lv' := [(2, .int (nI (63 - i) - nI 1)), (0, .ref dr), (1, .ref w)]) hx hb dX0_plan_13 hl (k := 0) rfl (dec_sub _) (by decide) rfl (fun ls hl => ?_)
        rw [show 63 - i = 64 - (i + 1) by omega] at hl
        refine lv_goto (tgt := 3) hx hb dX0_plan_16 (by decide) ?_
        exact L3ih  (i + 1) ((pbF gh gso (63 - i) fz nz).1) ((pbF gh gso (63 - i) fz nz).2) (by first | assumption | omega | rfl) (by rw [hf2, hn2]; rfl) (by rw [hf2, hn2]; rfl) (fun j h1 h2 => pbF_bd (by omega) (fun j2 h3 h4 => hfb j2 (by omega) h4) j (by omega) h2) (by omega) _ _ _ hP hD hS (lv_sub hl [0, 1, 2] rfl)
  refine lv_bipush (v := nI 63) hx hb dX0_plan_0 (by decide) ?_
  refine lv_istore_n (lv' := [(2, .int (nI 63)), (0, .ref dr), (1, .ref w)]) hx hb dX0_plan_2 rfl hl (by decide) rfl (fun ls hl => ?_)
  exact L3 (64 - 0 + 1) 0 df dn (by first | assumption | omega | rfl) (rfl) (rfl) (fun j h1 h2 => by omega) (Nat.lt_succ_self _) _ _ _ hP hD hS (lv_sub hl [0, 1, 2] rfl)
abbrev q_X0_fewestSeen (D : va_G) (Y : Nat → ClassId) (dr : Nat) (da : Nat) (db : Nat) (df : Nat → Nat) (dn : Nat → Nat) : (Nat → Prop) → Array Value → State → Outcome → State → Prop := mv_Qi D Y (fun (r : Int32) (_ : Unit) => r = nI (df 0)) (fun _ : Unit => ([(dr, .inr (0, [.ref da, .ref db])), (da, .inl (Y 0, 64, .inl (aN df))), (db, .inl (Y 0, 64, .inl (aN dn)))] : va_W))
set_option maxHeartbeats 4000000 in
set_option maxRecDepth 100000 in
theorem c_X0_fewestSeen (l : Launch) (D : va_G) (Y : Nat → ClassId) (sz : Nat) (dr : Nat) (da : Nat) (db : Nat) (df : Nat → Nat) (dn : Nat → Nat)  : mv_C l D Y yX0_fewestSeen cX0_fewestSeen 1 (some .int) 0 0 0 [.ref dr] sz [(dr, .inr (0, [.ref da, .ref db])), (da, .inl (Y 0, 64, .inl (aN df))), (db, .inl (Y 0, 64, .inl (aN dn)))] (q_X0_fewestSeen D Y dr da db df dn) := by
  refine mv_ofW (by decide) (Nat.le_of_ble_eq_true rfl) ?_
  intro p e s m below meth c ls A hx hb hr hlocks hml hnm hown hts hsz hAe hP hK hD hS hST hA hl
  have hl : lv_has ls 1 [(0, .ref dr)] := hl
  refine lv_aload_n hx hb dX0_fewestSeen_0 rfl (lv_at hl 0 rfl) ?_
  refine va_get (D := D) (ci := 0) (v := .ref da) (C := RX0) (T := TX0) (N := 2) hx hb hts inlX0 hown hK hP 0 rfl rfl 0 (by decide) (hts _ mw_72) (fun _ h9 => h9) rfl dX0_fewestSeen_1 ?_
  refine lv_iconst (v := nI 0) hx hb dX0_fewestSeen_4 (by decide) ?_
  refine mv_iald hx hb hK hP 1 rfl (i := 0) (by omega) (by decide) dX0_fewestSeen_5 ?_
  exact mv_iret hx hb hr hlocks () (rfl) hP hK hD hS dX0_fewestSeen_6
abbrev q_X0_robeFor (D : va_G) (Y : Nat → ClassId) (dr : Nat) (da : Nat) (db : Nat) (df : Nat → Nat) (dn : Nat → Nat) (oc : Nat) : (Nat → Prop) → Array Value → State → Outcome → State → Prop := mv_Qi D Y (fun (r : Int32) (_ : Unit) => r = nI (dn (rfS dn oc % 64))) (fun _ : Unit => ([(dr, .inr (0, [.ref da, .ref db])), (da, .inl (Y 0, 64, .inl (aN df))), (db, .inl (Y 0, 64, .inl (aN dn)))] : va_W))
set_option maxHeartbeats 4000000 in
set_option maxRecDepth 100000 in
theorem c_X0_robeFor (l : Launch) (D : va_G) (Y : Nat → ClassId) (sz : Nat) (dr : Nat) (da : Nat) (db : Nat) (df : Nat → Nat) (dn : Nat → Nat) (oc : Nat) (hoc : oc ≤ 4) (hpa : ∀ k, k ≤ 4 → dn (rfS dn k % 64) < 6) : mv_C l D Y yX0_robeFor cX0_robeFor 4 (some .int) 0 0 0 [.ref dr, .int (nI oc)] sz [(dr, .inr (0, [.ref da, .ref db])), (da, .inl (Y 0, 64, .inl (aN df))), (db, .inl (Y 0, 64, .inl (aN dn)))] (q_X0_robeFor D Y dr da db df dn oc) := by
  refine mv_ofW (by decide) (Nat.le_of_ble_eq_true rfl) ?_
  intro p e s m below meth c ls A hx hb hr hlocks hml hnm hown hts hsz hAe hP hK hD hS hST hA hl
  have hl : lv_has ls 4 [(0, .ref dr), (1, .int (nI oc))] := hl
  have L4 : ∀ (fu : Nat) (k : Nat) (t : Nat) (hk : k ≤ oc) (ht : t = rfS dn k) (hmeas : oc - k < fu) (H : Heap) (locs : List Loc) (ls : Array Slot), va_P D vwCl [(dr, .inr (0, [.ref da, .ref db])), (da, .inl (Y 0, 64, .inl (aN df))), (db, .inl (Y 0, 64, .inl (aN dn)))] H → va_D A [(dr, .inr (0, [.ref da, .ref db])), (da, .inl (Y 0, 64, .inl (aN df))), (db, .inl (Y 0, 64, .inl (aN dn)))] → va_S A s.heap H locs → lv_has ls 4 [(3, .int (nI k)), (2, .int (nI t)), (0, .ref dr), (1, .int (nI oc))] → W p l e (mv_R 0 0 0) s m [.ref dr, .int (nI oc)].toArray below meth c H locs 0 0 (MQ below ((q_X0_robeFor D Y dr da db df dn oc) A) [.ref dr, .int (nI oc)].toArray s 0 0 A) (F0 m 4 ls []) := by
    intro fu
    induction fu with
    | zero =>
      intro k t hk ht hmeas
      exact absurd hmeas (Nat.not_lt_zero _)
    | succ fu L4ih =>
      intro k t hk ht hmeas H locs ls hP hD hS hl
      have hpk := hpa k (by omega)
      refine lv_iload_n hx hb dX0_robeFor_4 rfl (lv_at hl 0 rfl) ?_
      refine lv_iload_n hx hb dX0_robeFor_5 rfl (lv_at hl 3 rfl) ?_
      refine mv_icmp_ge (tgt := 29) hx hb (by omega) (by omega) dX0_robeFor_6 (by decide) (fun c6 => ?_) (fun c6 => ?_)
      · skip
        refine lv_aload_n hx hb dX0_robeFor_29 rfl (lv_at hl 2 rfl) ?_
        refine va_get (D := D) (ci := 0) (v := .ref db) (C := RX0) (T := TX0) (N := 2) hx hb hts inlX0 hown hK hP 0 rfl rfl 1 (by decide) (hts _ mw_73) (fun _ h9 => h9) rfl dX0_robeFor_30 ?_
        refine lv_iload_n hx hb dX0_robeFor_33 rfl (lv_at hl 1 rfl) ?_
        refine lv_bipush (v := nI 63) hx hb dX0_robeFor_34 (by decide) ?_
        refine mv_iand63 hx hb dX0_robeFor_36 ?_
        refine mv_iald hx hb hK hP 2 rfl (i := t % 64) (Nat.mod_lt _ (by decide)) (by decide) dX0_robeFor_37 ?_
        exact mv_iret hx hb hr hlocks () (by rw [ht, show k = oc by omega]) hP hK hD hS dX0_robeFor_38
      · skip
        refine lv_iload_n hx hb dX0_robeFor_9 rfl (lv_at hl 1 rfl) ?_
        refine lv_iconst (v := nI 1) hx hb dX0_robeFor_10 (by decide) ?_
        refine lv_aload_n hx hb dX0_robeFor_11 rfl (lv_at hl 2 rfl) ?_
        refine va_get (D := D) (ci := 0) (v := .ref db) (C := RX0) (T := TX0) (N := 2) hx hb hts inlX0 hown hK hP 0 rfl rfl 1 (by decide) (hts _ mw_73) (fun _ h9 => h9) rfl dX0_robeFor_12 ?_
        refine lv_iload_n hx hb dX0_robeFor_15 rfl (lv_at hl 1 rfl) ?_
        refine lv_bipush (v := nI 63) hx hb dX0_robeFor_16 (by decide) ?_
        refine mv_iand63 hx hb dX0_robeFor_18 ?_
        refine mv_iald hx hb hK hP 2 rfl (i := t % 64) (Nat.mod_lt _ (by decide)) (by decide) dX0_robeFor_19 ?_
        refine mv_ishl hx hb (by rw [ht]; omega) dX0_robeFor_20 ?_
        refine mv_ior hx hb dX0_robeFor_21 ?_
        refine lv_istore_n (lv' := [(2, .int (nI (t ||| (1 * 2 ^ (dn (t % 64)))))), (3, .int (nI k)), (0, .ref dr), (1, .int (nI oc))]) hx hb dX0_robeFor_22 rfl hl (by decide) rfl (fun ls hl => ?_)
        refine lv_iinc (v := nI (k + 1)) (lv' := [(3, .int (nI (k + 1))), (2, .int (nI (t ||| (1 * 2 ^ (dn (t % 64)))))), (0, .ref dr), (1, .int (nI oc))]) hx hb dX0_robeFor_23 hl (k := 1) rfl (by exact nI_add _ 1) (by decide) rfl (fun ls hl => ?_)
        refine lv_goto (tgt := 4) hx hb dX0_robeFor_26 (by decide) ?_
        exact L4ih  (k + 1) (t ||| (1 * 2 ^ (dn (t % 64)))) (by first | assumption | omega | rfl) (by rw [ht]; rfl) (by omega) _ _ _ hP hD hS (lv_sub hl [0, 1, 2, 3] rfl)
  refine lv_iconst (v := nI 0) hx hb dX0_robeFor_0 (by decide) ?_
  refine lv_istore_n (lv' := [(2, .int (nI 0)), (0, .ref dr), (1, .int (nI oc))]) hx hb dX0_robeFor_1 rfl hl (by decide) rfl (fun ls hl => ?_)
  refine lv_iconst (v := nI 0) hx hb dX0_robeFor_2 (by decide) ?_
  refine lv_istore_n (lv' := [(3, .int (nI 0)), (2, .int (nI 0)), (0, .ref dr), (1, .int (nI oc))]) hx hb dX0_robeFor_3 rfl hl (by decide) rfl (fun ls hl => ?_)
  exact L4 (oc - 0 + 1) 0 0 (by first | assumption | omega | rfl) (rfl) (Nat.lt_succ_self _) _ _ _ hP hD hS (lv_sub hl [0, 1, 2, 3] rfl)
abbrev q_X1_init (D : va_G) (Y : Nat → ClassId) (od : Nat) : (Nat → Prop) → Array Value → State → Outcome → State → Prop := mv_Qv D Y (fun (ux : Nat) => True) (fun ux : Nat => ([(od, .inr (1, [.ref ux])), (ux, .inl (Y 1, 17, .inr (.inl (aL (fun _ => 0)))))] : va_W))
set_option maxHeartbeats 4000000 in
set_option maxRecDepth 100000 in
theorem c_X1_init (l : Launch) (D : va_G) (Y : Nat → ClassId) (sz : Nat) (od : Nat)  : mv_C l D Y yX1_init cX1_init 1 none 1 1 17 [.ref od] sz [(od, .inr (1, [.null]))] (q_X1_init D Y od) := by
  refine mv_ofW (by decide) (Nat.le_of_ble_eq_true rfl) ?_
  intro p e s m below meth c ls A hx hb hr hlocks hml hnm hown hts hsz hAe hP hK hD hS hST hA hl
  have hl : lv_has ls 1 [(0, .ref od)] := hl
  refine lv_aload_n hx hb dX1_init_0 rfl (lv_at hl 0 rfl) ?_
  refine W.objInit hx hb hown (hts _ mw_76) (hts _ mw_10) (hts _ mw_11) rfl (by rw [hml]; exact hl.1) rfl dX1_init_1 (Nat.le_of_ble_eq_true rfl) (Nat.le_of_ble_eq_true rfl) ?_
  refine W.eq (g2 := F0 m 4 ls []) rfl ?_
  refine lv_aload_n hx hb dX1_init_4 rfl (lv_at hl 0 rfl) ?_
  refine lv_bipush (v := nI 17) hx hb dX1_init_5 (by decide) ?_
  refine mv_newaJ hx hb hts hK hP hD hS hA (n := 17) (by decide) (by decide) (Nat.le_of_ble_eq_true rfl) (Nat.le_of_ble_eq_true rfl) dX1_init_7 (fun q_1 H hP hD hS => ?_)
  have hP : va_P D vwCl [(od, .inr (1, [.null])), (q_1, .inl (Y 1, 17, .inr (.inl (aL (fun _ => 0)))))] H := hP
  have hD : va_D A [(od, .inr (1, [.null])), (q_1, .inl (Y 1, 17, .inr (.inl (aL (fun _ => 0)))))] := hD
  refine W.widen (k := 1) (n := 17) (by omega) (by omega) ?_
  refine va_putF (D := D) (ci := 1) (v := .ref q_1) (ty := .array .long) (C := RX1) (T := TX1) (N := 1) hx hb hts inlX1 tyX1 tyX1_ok nmX1 hown hK hP hD hS 0 rfl rfl 0 (by decide) (hts _ mw_78) (fun _ h9 => h9) rfl hnm rfl (by decide +kernel) rfl rfl (Nat.le_of_ble_eq_true rfl) dX1_init_9 (fun H locs hP hD hS => ?_)
  have hP : va_P D vwCl [(od, .inr (1, [.ref q_1])), (q_1, .inl (Y 1, 17, .inr (.inl (aL (fun _ => 0)))))] H := hP
  have hD : va_D A [(od, .inr (1, [.ref q_1])), (q_1, .inl (Y 1, 17, .inr (.inl (aL (fun _ => 0)))))] := hD
  exact mv_vret hx hb hr hlocks (q_1) (trivial) hP hK hD hS dX1_init_12
abbrev q_X1_greatestDivisor (D : va_G) (Y : Nat → ClassId) (a0 : Nat) (b0 : Nat) : (Nat → Prop) → Array Value → State → Outcome → State → Prop := mv_Ql D Y (fun (r : Int64) (_ : Unit) => r = lN (Nat.gcd a0 b0)) (fun _ : Unit => ([] : va_W))
set_option maxHeartbeats 4000000 in
set_option maxRecDepth 100000 in
theorem c_X1_greatestDivisor (l : Launch) (D : va_G) (Y : Nat → ClassId) (sz : Nat) (a0 : Nat) (b0 : Nat) (ha : a0 < 2 ^ 63) (h0 : 0 < a0) (hb2 : b0 ≤ a0) : mv_C l D Y yX1_greatestDivisor cX1_greatestDivisor 11 (some .long) 0 0 0 [.long (lN a0), .long (lN b0)] sz [] (q_X1_greatestDivisor D Y a0 b0) := by
  refine mv_ofW (by decide) (Nat.le_of_ble_eq_true rfl) ?_
  intro p e s m below meth c ls A hx hb hr hlocks hml hnm hown hts hsz hAe hP hK hD hS hST hA hl
  have hl : lv_has ls 11 [(0, .long (lN a0)), (2, .long (lN b0))] := hl
  have L9 : ∀ (fu : Nat) (k : Nat) (a : Nat) (b : Nat) (hk : k ≤ 200) (hab : b ≤ a) (hap : 0 < a) (hal : a < 2 ^ 63) (hg : Nat.gcd a b = Nat.gcd a0 b0) (hp : a * b < 2 ^ (200 - k)) (hmeas : 200 - k < fu) (H : Heap) (locs : List Loc) (ls : Array Slot), va_P D vwCl [] H → va_D A [] → va_S A s.heap H locs → lv_has ls 11 [(8, .int (nI k)), (4, .long (lN a)), (6, .long (lN b)), (0, .long (lN a0)), (2, .long (lN b0))] → W p l e (mv_R 0 0 0) s m [.long (lN a0), .long (lN b0)].toArray below meth c H locs 0 0 (MQ below ((q_X1_greatestDivisor D Y a0 b0) A) [.long (lN a0), .long (lN b0)].toArray s 0 0 A) (F0 m 9 ls []) := by
    intro fu
    induction fu with
    | zero =>
      intro k a b hk hab hap hal hg hp hmeas
      exact absurd hmeas (Nat.not_lt_zero _)
    | succ fu L9ih =>
      intro k a b hk hab hap hal hg hp hmeas H locs ls hP hD hS hl
      refine lv_iload hx hb dX1_greatestDivisor_9 (lv_at hl 0 rfl) ?_
      refine lv_sipush (v := nI 200) hx hb dX1_greatestDivisor_11 (by decide) ?_
      refine mv_icmp_ge (tgt := 45) hx hb (by omega) (by decide) dX1_greatestDivisor_14 (by decide) (fun c14 => ?_) (fun c14 => ?_)
      · skip
        refine lv_lload hx hb dX1_greatestDivisor_45 (lv_at hl 1 rfl) ?_
        exact mv_lret hx hb hr hlocks () (by have hz : b = 0 := (by rw [show 200 - k = 0 by omega] at hp; rcases Nat.eq_zero_or_pos b with q | q; exact q; have := Nat.mul_pos hap q; omega); rw [← hg, hz, Nat.gcd_zero_right]) hP hK hD hS dX1_greatestDivisor_47
      · skip
        refine lv_lload hx hb dX1_greatestDivisor_17 (lv_at hl 2 rfl) ?_
        refine lv_lconst (v := lN 0) hx hb dX1_greatestDivisor_19 (by decide) ?_
        refine W.lcmp hx hb dX1_greatestDivisor_20 ?_
        refine mv_lcmp_eq (tgt := 45) hx hb (by omega) (by decide) dX1_greatestDivisor_21 (by decide) (fun c21 => ?_) (fun c21 => ?_)
        · skip
          refine lv_lload hx hb dX1_greatestDivisor_45 (lv_at hl 1 rfl) ?_
          exact mv_lret hx hb hr hlocks () (by rw [← hg, c21, Nat.gcd_zero_right]) hP hK hD hS dX1_greatestDivisor_47
        · skip
          refine lv_lload hx hb dX1_greatestDivisor_24 (lv_at hl 1 rfl) ?_
          refine lv_lload hx hb dX1_greatestDivisor_26 (lv_at hl 2 rfl) ?_
          refine mv_lrem hx hb (by omega) (by omega) (by omega) dX1_greatestDivisor_28 ?_
          refine lv_lstore (lv' := [(9, .long (lN (a % b))), (8, .int (nI k)), (4, .long (lN a)), (6, .long (lN b)), (0, .long (lN a0)), (2, .long (lN b0))]) hx hb dX1_greatestDivisor_29 hl (by decide) rfl (fun ls hl => ?_)
          refine lv_lload hx hb dX1_greatestDivisor_31 (lv_at hl 3 rfl) ?_
          refine lv_lstore (lv' := [(4, .long (lN b)), (9, .long (lN (a % b))), (8, .int (nI k)), (6, .long (lN b)), (0, .long (lN a0)), (2, .long (lN b0))]) hx hb dX1_greatestDivisor_33 hl (by decide) rfl (fun ls hl => ?_)
          refine lv_lload hx hb dX1_greatestDivisor_35 (lv_at hl 1 rfl) ?_
          refine lv_lstore (lv' := [(6, .long (lN (a % b))), (4, .long (lN b)), (9, .long (lN (a % b))), (8, .int (nI k)), (0, .long (lN a0)), (2, .long (lN b0))]) hx hb dX1_greatestDivisor_37 hl (by decide) rfl (fun ls hl => ?_)
          refine lv_iinc (v := nI (k + 1)) (lv' := [(8, .int (nI (k + 1))), (6, .long (lN (a % b))), (4, .long (lN b)), (9, .long (lN (a % b))), (0, .long (lN a0)), (2, .long (lN b0))]) hx hb dX1_greatestDivisor_39 hl (k := 3) rfl (by exact nI_add _ 1) (by decide) rfl (fun ls hl => ?_)
          refine lv_goto (tgt := 9) hx hb dX1_greatestDivisor_42 (by decide) ?_
          exact L9ih  (k + 1) b (a % b) (by first | assumption | omega | rfl) (Nat.le_of_lt (Nat.mod_lt _ (by omega))) (by omega) (by omega) (by rw [← hg, Nat.gcd_comm a b, Nat.gcd_rec b a, Nat.gcd_comm]) (by have h1 := euclid_half hab (by omega); have h2 : 2 ^ (200 - k) = 2 * 2 ^ (200 - (k + 1)) := (by rw [← Nat.pow_succ']; congr 1; omega); omega) (by omega) _ _ _ hP hD hS (lv_sub hl [0, 2, 1, 4, 5] rfl)
  refine lv_lload_n hx hb dX1_greatestDivisor_0 rfl (lv_at hl 0 rfl) ?_
  refine lv_lstore (lv' := [(4, .long (lN a0)), (0, .long (lN a0)), (2, .long (lN b0))]) hx hb dX1_greatestDivisor_1 hl (by decide) rfl (fun ls hl => ?_)
  refine lv_lload_n hx hb dX1_greatestDivisor_3 rfl (lv_at hl 2 rfl) ?_
  refine lv_lstore (lv' := [(6, .long (lN b0)), (4, .long (lN a0)), (0, .long (lN a0)), (2, .long (lN b0))]) hx hb dX1_greatestDivisor_4 hl (by decide) rfl (fun ls hl => ?_)
  refine lv_iconst (v := nI 0) hx hb dX1_greatestDivisor_6 (by decide) ?_
  refine lv_istore (lv' := [(8, .int (nI 0)), (6, .long (lN b0)), (4, .long (lN a0)), (0, .long (lN a0)), (2, .long (lN b0))]) hx hb dX1_greatestDivisor_7 hl (by decide) rfl (fun ls hl => ?_)
  exact L9 (200 - 0 + 1) 0 a0 b0 (by first | assumption | omega | rfl) (by first | assumption | omega | rfl) (by first | assumption | omega | rfl) (by first | assumption | omega | rfl) (rfl) (Nat.lt_of_le_of_lt (Nat.mul_le_mul (Nat.le_of_lt ha) (Nat.le_of_lt (Nat.lt_of_le_of_lt hb2 ha))) (by decide)) (Nat.lt_succ_self _) _ _ _ hP hD hS (lv_sub hl [0, 2, 1, 3, 4] rfl)
abbrev q_X1_countWays (D : va_G) (Y : Nat → ClassId) (od : Nat) (ow : Nat) (gw : Nat → Nat) (n : Nat) (t : Nat) : (Nat → Prop) → Array Value → State → Outcome → State → Prop := mv_Ql D Y (fun (r : Int64) (ux : (Nat → Nat)) => r = lN (10 ^ n) ∧ ∀ j, j ≤ 16 → ux j = wayS t n j) (fun ux : (Nat → Nat) => ([(od, .inr (1, [.ref ow])), (ow, .inl (Y 1, 17, .inr (.inl (aL ux))))] : va_W))
set_option maxHeartbeats 4000000 in
set_option maxRecDepth 100000 in
theorem c_X1_countWays (l : Launch) (D : va_G) (Y : Nat → ClassId) (sz : Nat) (od : Nat) (ow : Nat) (gw : Nat → Nat) (n : Nat) (t : Nat) (hn : n ≤ 16) (ht : t ≤ 10) : mv_C l D Y yX1_countWays cX1_countWays 7 (some .long) 0 0 0 [.ref od, .int (nI n), .int (nI t)] sz [(od, .inr (1, [.ref ow])), (ow, .inl (Y 1, 17, .inr (.inl (aL gw))))] (q_X1_countWays D Y od ow gw n t) := by
  refine mv_ofW (by decide) (Nat.le_of_ble_eq_true rfl) ?_
  intro p e s m below meth c ls A hx hb hr hlocks hml hnm hown hts hsz hAe hP hK hD hS hST hA hl
  have hl : lv_has ls 7 [(0, .ref od), (1, .int (nI n)), (2, .int (nI t))] := hl
  have L38 : ∀ (fu : Nat) (i : Nat) (a : Nat) (gz : Nat → Nat) (hi : i ≤ n) (ha : a = 10 ^ i) (hg : ∀ j, j ≤ 16 → gz j = wayS t i j) (hmeas : n - i < fu) (H : Heap) (locs : List Loc) (ls : Array Slot), va_P D vwCl [(od, .inr (1, [.ref ow])), (ow, .inl (Y 1, 17, .inr (.inl (aL gz))))] H → va_D A [(od, .inr (1, [.ref ow])), (ow, .inl (Y 1, 17, .inr (.inl (aL gz))))] → va_S A s.heap H locs → lv_has ls 7 [(5, .int (nI i)), (3, .long (lN a)), (0, .ref od), (1, .int (nI n)), (2, .int (nI t))] → W p l e (mv_R 0 0 0) s m [.ref od, .int (nI n), .int (nI t)].toArray below meth c H locs 0 0 (MQ below ((q_X1_countWays D Y od ow gw n t) A) [.ref od, .int (nI n), .int (nI t)].toArray s 0 0 A) (F0 m 38 ls []) := by
    intro fu
    induction fu with
    | zero =>
      intro i a gz hi ha hg hmeas
      exact absurd hmeas (Nat.not_lt_zero _)
    | succ fu L38ih =>
      intro i a gz hi ha hg hmeas H locs ls hP hD hS hl
      have L63 : ∀ (fu : Nat) (ee : Nat) (gy : Nat → Nat) (he : ee ≤ i + 1) (hi2 : i < n) (hg1 : ∀ j, ee < j → j ≤ 16 → gy j = wayS t (i + 1) j) (hg2 : ∀ j, j ≤ ee → gy j = wayS t i j) (hmeas : ee < fu) (H : Heap) (locs : List Loc) (ls : Array Slot), va_P D vwCl [(od, .inr (1, [.ref ow])), (ow, .inl (Y 1, 17, .inr (.inl (aL gy))))] H → va_D A [(od, .inr (1, [.ref ow])), (ow, .inl (Y 1, 17, .inr (.inl (aL gy))))] → va_S A s.heap H locs → lv_has ls 7 [(6, .int (nI ee)), (5, .int (nI i)), (3, .long (lN (a * 10))), (0, .ref od), (1, .int (nI n)), (2, .int (nI t))] → W p l e (mv_R 0 0 0) s m [.ref od, .int (nI n), .int (nI t)].toArray below meth c H locs 0 0 (MQ below ((q_X1_countWays D Y od ow gw n t) A) [.ref od, .int (nI n), .int (nI t)].toArray s 0 0 A) (F0 m 63 ls []) := by
        intro fu
        induction fu with
        | zero =>
          intro ee gy he hi2 hg1 hg2 hmeas
          exact absurd hmeas (Nat.not_lt_zero _)
        | succ fu L63ih =>
          intro ee gy he hi2 hg1 hg2 hmeas H locs ls hP hD hS hl
          refine lv_iload hx hb dX1_countWays_63 (lv_at hl 0 rfl) ?_
          refine mv_if_le (tgt := 107) hx hb (by omega) dX1_countWays_65 (by decide) (fun c65 => ?_) (fun c65 => ?_)
          · skip
            obtain rfl : ee = 0 := by omega
            refine lv_aload_n hx hb dX1_countWays_107 rfl (lv_at hl 3 rfl) ?_
            refine va_get (D := D) (ci := 1) (v := .ref ow) (C := RX1) (T := TX1) (N := 1) hx hb hts inlX1 hown hK hP 0 rfl rfl 0 (by decide) (hts _ mw_78) (fun _ h9 => h9) rfl dX1_countWays_108 ?_
            refine lv_iconst (v := nI 0) hx hb dX1_countWays_111 (by decide) ?_
            refine lv_dup2_11 hx hb dX1_countWays_112 rfl rfl ?_
            refine mv_lald hx hb hK hP 1 rfl (i := 0) (by omega) (by decide) dX1_countWays_113 ?_
            refine lv_bipush (v := nI 10) hx hb dX1_countWays_114 (by decide) ?_
            refine lv_iload_n hx hb dX1_countWays_116 rfl (lv_at hl 5 rfl) ?_
            refine mv_isub hx hb (by omega) dX1_countWays_117 ?_
            refine lv_i2l (v := lN (10 - t)) hx hb dX1_countWays_118 (nI_l (by omega)) ?_
            refine mv_lmul hx hb dX1_countWays_119 ?_
            refine mv_last hx hb hK hP hD hS 1 rfl (i := 0) (v := (gy 0) * (10 - t)) (by omega) (by decide) dX1_countWays_120 (fun H locs hP hD hS => ?_)
            have hP : va_P D vwCl [(od, .inr (1, [.ref ow])), (ow, .inl (Y 1, 17, .inr (.inl (aL (uN gy 0 ((gy 0) * (10 - t)))))))] H := hP
            have hD : va_D A [(od, .inr (1, [.ref ow])), (ow, .inl (Y 1, 17, .inr (.inl (aL (uN gy 0 ((gy 0) * (10 - t)))))))] := hD
            refine lv_iinc (v := nI (i + 1)) (lv' := [(5, .int (nI (i + 1))), (6, .int (nI 0)), (3, .long (lN (a * 10))), (0, .ref od), (1, .int (nI n)), (2, .int (nI t))]) hx hb dX1_countWays_121 hl (k := 1) rfl (by exact nI_add _ 1) (by decide) rfl (fun ls hl => ?_)
            refine lv_goto (tgt := 38) hx hb dX1_countWays_124 (by decide) ?_
            exact L38ih  (i + 1) (a * 10) (uN gy 0 ((gy 0) * (10 - t))) (by first | assumption | omega | rfl) (by rw [ha, Nat.pow_succ]) (fun j hj => by by_cases e9 : j = 0; rw [e9, uN_s, hg2 0 (Nat.zero_le _)]; rfl; rw [uN_n _ _ e9]; exact hg1 j (by omega) hj) (by omega) _ _ _ hP hD hS (lv_sub hl [0, 2, 3, 4, 5] rfl)
          · skip
            refine lv_aload_n hx hb dX1_countWays_68 rfl (lv_at hl 3 rfl) ?_
            refine va_get (D := D) (ci := 1) (v := .ref ow) (C := RX1) (T := TX1) (N := 1) hx hb hts inlX1 hown hK hP 0 rfl rfl 0 (by decide) (hts _ mw_78) (fun _ h9 => h9) rfl dX1_countWays_69 ?_
            refine lv_iload hx hb dX1_countWays_72 (lv_at hl 0 rfl) ?_
            refine lv_aload_n hx hb dX1_countWays_74 rfl (lv_at hl 3 rfl) ?_
            refine va_get (D := D) (ci := 1) (v := .ref ow) (C := RX1) (T := TX1) (N := 1) hx hb hts inlX1 hown hK hP 0 rfl rfl 0 (by decide) (hts _ mw_78) (fun _ h9 => h9) rfl dX1_countWays_75 ?_
            refine lv_iload hx hb dX1_countWays_78 (lv_at hl 0 rfl) ?_
            refine mv_lald hx hb hK hP 1 rfl (i := ee) (by omega) (by decide) dX1_countWays_80 ?_
            refine lv_bipush (v := nI 10) hx hb dX1_countWays_81 (by decide) ?_
            refine lv_iload_n hx hb dX1_countWays_83 rfl (lv_at hl 5 rfl) ?_
            refine mv_isub hx hb (by omega) dX1_countWays_84 ?_
            refine lv_i2l (v := lN (10 - t)) hx hb dX1_countWays_85 (nI_l (by omega)) ?_
            refine mv_lmul hx hb dX1_countWays_86 ?_
            refine lv_aload_n hx hb dX1_countWays_87 rfl (lv_at hl 3 rfl) ?_
            refine va_get (D := D) (ci := 1) (v := .ref ow) (C := RX1) (T := TX1) (N := 1) hx hb hts inlX1 hown hK hP 0 rfl rfl 0 (by decide) (hts _ mw_78) (fun _ h9 => h9) rfl dX1_countWays_88 ?_
            refine lv_iload hx hb dX1_countWays_91 (lv_at hl 0 rfl) ?_
            refine lv_iconst (v := nI 1) hx hb dX1_countWays_93 (by decide) ?_
            refine mv_isub hx hb (by omega) dX1_countWays_94 ?_
            refine mv_lald hx hb hK hP 1 rfl (i := ee - 1) (by omega) (by decide) dX1_countWays_95 ?_
            refine lv_iload_n hx hb dX1_countWays_96 rfl (lv_at hl 5 rfl) ?_
            refine lv_i2l (v := lN t) hx hb dX1_countWays_97 (nI_l (by omega)) ?_
            refine mv_lmul hx hb dX1_countWays_98 ?_
            refine mv_ladd hx hb dX1_countWays_99 ?_
            refine mv_last hx hb hK hP hD hS 1 rfl (i := ee) (v := ((gy ee) * (10 - t)) + ((gy (ee - 1)) * t)) (by omega) (by decide) dX1_countWays_100 (fun H locs hP hD hS => ?_)
            have hP : va_P D vwCl [(od, .inr (1, [.ref ow])), (ow, .inl (Y 1, 17, .inr (.inl (aL (uN gy ee (((gy ee) * (10 - t)) + ((gy (ee - 1)) * t)))))))] H := hP
            have hD : va_D A [(od, .inr (1, [.ref ow])), (ow, .inl (Y 1, 17, .inr (.inl (aL (uN gy ee (((gy ee) * (10 - t)) + ((gy (ee - 1)) * t)))))))] := hD
            refine lv_iinc (v := nI (ee - 1)) (lv' := [(6, .int (nI (ee - 1))), (5, .int (nI i)), (3, .long (lN (a * 10))), (0, .ref od), (1, .int (nI n)), (2, .int (nI t))]) hx hb dX1_countWays_101 hl (k := 0) rfl (by have hz : 1 ≤ ee := (by omega); exact (dec_sub _).trans (pk_sub hz)) (by decide) rfl (fun ls hl => ?_)
            refine lv_goto (tgt := 63) hx hb dX1_countWays_104 (by decide) ?_
            exact L63ih  (ee - 1) (uN gy ee (((gy ee) * (10 - t)) + ((gy (ee - 1)) * t))) (by first | assumption | omega | rfl) (by first | assumption | omega | rfl) (fun j h1 h2 => by by_cases e9 : j = ee; subst e9; rw [uN_s, hg2 j (Nat.le_refl _), hg2 (j - 1) (by omega)]; obtain ⟨j2, rfl⟩ : ∃ z, j = z + 1 := ⟨j - 1, by omega⟩; rfl; rw [uN_n _ _ e9]; exact hg1 j (by omega) h2) (fun j h1 => by rw [uN_n _ _ (by omega)]; exact hg2 j (by omega)) (by omega) _ _ _ hP hD hS (lv_sub hl [0, 1, 2, 3, 4, 5] rfl)
      refine lv_iload hx hb dX1_countWays_38 (lv_at hl 0 rfl) ?_
      refine lv_iload_n hx hb dX1_countWays_40 rfl (lv_at hl 3 rfl) ?_
      refine mv_icmp_ge (tgt := 127) hx hb (by omega) (by omega) dX1_countWays_41 (by decide) (fun c41 => ?_) (fun c41 => ?_)
      · skip
        refine lv_lload_n hx hb dX1_countWays_127 rfl (lv_at hl 1 rfl) ?_
        exact mv_lret hx hb hr hlocks (gz) (⟨by rw [ha, show i = n by omega], fun j hj => by rw [hg j hj, show i = n by omega]⟩) hP hK hD hS dX1_countWays_128
      · skip
        refine lv_iload hx hb dX1_countWays_44 (lv_at hl 0 rfl) ?_
        refine lv_bipush (v := nI 16) hx hb dX1_countWays_46 (by decide) ?_
        refine mv_icmp_ge (tgt := 127) hx hb (by omega) (by omega) dX1_countWays_48 (by decide) (fun c48 => ?_) (fun c48 => ?_)
        · skip
          exfalso; omega
        · skip
          refine lv_lload_n hx hb dX1_countWays_51 rfl (lv_at hl 1 rfl) ?_
          refine lv_ldc2 (v := lN 10) hx hb hown (hts _ mw_594) dX1_countWays_52 ?_
          refine mv_lmul hx hb dX1_countWays_55 ?_
          refine lv_lstore_n (lv' := [(3, .long (lN (a * 10))), (5, .int (nI i)), (0, .ref od), (1, .int (nI n)), (2, .int (nI t))]) hx hb dX1_countWays_56 rfl hl (by decide) rfl (fun ls hl => ?_)
          refine lv_iload hx hb dX1_countWays_57 (lv_at hl 1 rfl) ?_
          refine lv_iconst (v := nI 1) hx hb dX1_countWays_59 (by decide) ?_
          refine mv_iadd hx hb dX1_countWays_60 ?_
          refine lv_istore (lv' := [(6, .int (nI (i + 1))), (3, .long (lN (a * 10))), (5, .int (nI i)), (0, .ref od), (1, .int (nI n)), (2, .int (nI t))]) hx hb dX1_countWays_61 hl (by decide) rfl (fun ls hl => ?_)
          exact L63 ((i + 1) + 1) (i + 1) gz (by first | assumption | omega | rfl) (by first | assumption | omega | rfl) (fun j h1 h2 => by rw [hg j h2, wayS_hi t i j (by omega), wayS_hi t (i + 1) j (by omega)]) (fun j h1 => hg j (by omega)) (Nat.lt_succ_self _) _ _ _ hP hD hS (lv_sub hl [0, 2, 1, 3, 4, 5] rfl)
  have L5 : ∀ (fu : Nat) (k : Nat) (gz : Nat → Nat) (hk : k ≤ 17) (hg : ∀ j, j < k → gz j = wayS t 0 j) (hmeas : 17 - k < fu) (H : Heap) (locs : List Loc) (ls : Array Slot), va_P D vwCl [(od, .inr (1, [.ref ow])), (ow, .inl (Y 1, 17, .inr (.inl (aL gz))))] H → va_D A [(od, .inr (1, [.ref ow])), (ow, .inl (Y 1, 17, .inr (.inl (aL gz))))] → va_S A s.heap H locs → lv_has ls 7 [(5, .int (nI k)), (0, .ref od), (1, .int (nI n)), (2, .int (nI t)), (3, .long (lN 1))] → W p l e (mv_R 0 0 0) s m [.ref od, .int (nI n), .int (nI t)].toArray below meth c H locs 0 0 (MQ below ((q_X1_countWays D Y od ow gw n t) A) [.ref od, .int (nI n), .int (nI t)].toArray s 0 0 A) (F0 m 5 ls []) := by
    intro fu
    induction fu with
    | zero =>
      intro k gz hk hg hmeas
      exact absurd hmeas (Nat.not_lt_zero _)
    | succ fu L5ih =>
      intro k gz hk hg hmeas H locs ls hP hD hS hl
      have L28 : ∀ (z0 : Nat) (hz0 : z0 = wayS t 0 k) (hk2 : k ≤ 16) (H : Heap) (locs : List Loc) (ls : Array Slot), va_P D vwCl [(od, .inr (1, [.ref ow])), (ow, .inl (Y 1, 17, .inr (.inl (aL gz))))] H → va_D A [(od, .inr (1, [.ref ow])), (ow, .inl (Y 1, 17, .inr (.inl (aL gz))))] → va_S A s.heap H locs → lv_has ls 7 [(5, .int (nI k)), (0, .ref od), (1, .int (nI n)), (2, .int (nI t)), (3, .long (lN 1))] → W p l e (mv_R 0 0 0) s m [.ref od, .int (nI n), .int (nI t)].toArray below meth c H locs 0 0 (MQ below ((q_X1_countWays D Y od ow gw n t) A) [.ref od, .int (nI n), .int (nI t)].toArray s 0 0 A) (F0 m 28 ls [.long (lN z0), .int (nI k), .ref ow]) := by
        intro z0 hz0 hk2 H locs ls hP hD hS hl
        refine mv_last hx hb hK hP hD hS 1 rfl (i := k) (v := z0) (by omega) (by decide) dX1_countWays_28 (fun H locs hP hD hS => ?_)
        have hP : va_P D vwCl [(od, .inr (1, [.ref ow])), (ow, .inl (Y 1, 17, .inr (.inl (aL (uN gz k z0)))))] H := hP
        have hD : va_D A [(od, .inr (1, [.ref ow])), (ow, .inl (Y 1, 17, .inr (.inl (aL (uN gz k z0)))))] := hD
        refine lv_iinc (v := nI (k + 1)) (lv' := [(5, .int (nI (k + 1))), (0, .ref od), (1, .int (nI n)), (2, .int (nI t)), (3, .long (lN 1))]) hx hb dX1_countWays_29 hl (k := 0) rfl (by exact nI_add _ 1) (by decide) rfl (fun ls hl => ?_)
        refine lv_goto (tgt := 5) hx hb dX1_countWays_32 (by decide) ?_
        exact L5ih  (k + 1) (uN gz k z0) (by first | assumption | omega | rfl) (fun j hj => by by_cases e9 : j = k; rw [e9, uN_s]; exact hz0; rw [uN_n _ _ e9]; exact hg j (by omega)) (by omega) _ _ _ hP hD hS (lv_sub hl [0, 1, 2, 3, 4] rfl)
      refine lv_iload hx hb dX1_countWays_5 (lv_at hl 0 rfl) ?_
      refine lv_bipush (v := nI 16) hx hb dX1_countWays_7 (by decide) ?_
      refine mv_icmp_gt (tgt := 35) hx hb (by omega) (by omega) dX1_countWays_9 (by decide) (fun c9 => ?_) (fun c9 => ?_)
      · skip
        refine lv_iconst (v := nI 0) hx hb dX1_countWays_35 (by decide) ?_
        refine lv_istore (lv' := [(5, .int (nI 0)), (0, .ref od), (1, .int (nI n)), (2, .int (nI t)), (3, .long (lN 1))]) hx hb dX1_countWays_36 hl (by decide) rfl (fun ls hl => ?_)
        exact L38 (n - 0 + 1) 0 1 gz (by first | assumption | omega | rfl) (rfl) (fun j hj => hg j (by omega)) (Nat.lt_succ_self _) _ _ _ hP hD hS (lv_sub hl [0, 4, 1, 2, 3] rfl)
      · skip
        refine lv_aload_n hx hb dX1_countWays_12 rfl (lv_at hl 1 rfl) ?_
        refine va_get (D := D) (ci := 1) (v := .ref ow) (C := RX1) (T := TX1) (N := 1) hx hb hts inlX1 hown hK hP 0 rfl rfl 0 (by decide) (hts _ mw_78) (fun _ h9 => h9) rfl dX1_countWays_13 ?_
        refine lv_iload hx hb dX1_countWays_16 (lv_at hl 0 rfl) ?_
        refine lv_iload hx hb dX1_countWays_18 (lv_at hl 0 rfl) ?_
        refine mv_if_ne (tgt := 27) hx hb (by omega) dX1_countWays_20 (by decide) (fun c20 => ?_) (fun c20 => ?_)
        · skip
          refine lv_lconst (v := lN 0) hx hb dX1_countWays_27 (by decide) ?_
          exact L28  0 ((if_neg c20).symm) (by first | assumption | omega | rfl) _ _ _ hP hD hS (lv_sub hl [0, 1, 2, 3, 4] rfl)
        · skip
          refine lv_lconst (v := lN 1) hx hb dX1_countWays_23 (by decide) ?_
          refine lv_goto (tgt := 28) hx hb dX1_countWays_24 (by decide) ?_
          exact L28  1 ((if_pos c20).symm) (by first | assumption | omega | rfl) _ _ _ hP hD hS (lv_sub hl [0, 1, 2, 3, 4] rfl)
  refine lv_lconst (v := lN 1) hx hb dX1_countWays_0 (by decide) ?_
  refine lv_lstore_n (lv' := [(3, .long (lN 1)), (0, .ref od), (1, .int (nI n)), (2, .int (nI t))]) hx hb dX1_countWays_1 rfl hl (by decide) rfl (fun ls hl => ?_)
  refine lv_iconst (v := nI 0) hx hb dX1_countWays_2 (by decide) ?_
  refine lv_istore (lv' := [(5, .int (nI 0)), (3, .long (lN 1)), (0, .ref od), (1, .int (nI n)), (2, .int (nI t))]) hx hb dX1_countWays_3 hl (by decide) rfl (fun ls hl => ?_)
  exact L5 (17 - 0 + 1) 0 gw (by first | assumption | omega | rfl) (fun _ h9 => absurd h9 (Nat.not_lt_zero _)) (Nat.lt_succ_self _) _ _ _ hP hD hS (lv_sub hl [0, 2, 3, 4, 1] rfl)
abbrev q_X1_partOfAtLeast (D : va_G) (Y : Nat → ClassId) (od : Nat) (ow : Nat) (gw : Nat → Nat) (n : Nat) (t : Nat) (k : Nat) (pt : Nat) : (Nat → Prop) → Array Value → State → Outcome → State → Prop := mv_Ql D Y (fun (r : Int64) (ux : (Nat → Nat)) => r = lN ((if pt = 0 then sgS (wayS t n) k (n + 1 - k) else 10 ^ n) / Nat.gcd (10 ^ n) (sgS (wayS t n) k (n + 1 - k)))) (fun ux : (Nat → Nat) => ([(od, .inr (1, [.ref ow])), (ow, .inl (Y 1, 17, .inr (.inl (aL ux))))] : va_W))
set_option maxHeartbeats 4000000 in
set_option maxRecDepth 100000 in
theorem c_X1_partOfAtLeast (l : Launch) (D : va_G) (Y : Nat → ClassId) (sz : Nat) (od : Nat) (ow : Nat) (gw : Nat → Nat) (n : Nat) (t : Nat) (k : Nat) (pt : Nat) (hn : n ≤ 16) (ht : t ≤ 10) (hk : k ≤ 16) (hpt : pt ≤ 1) : mv_C l D Y yX1_partOfAtLeast cX1_partOfAtLeast 11 (some .long) 1 0 0 [.ref od, .int (nI n), .int (nI t), .int (nI k), .int (nI pt)] sz [(od, .inr (1, [.ref ow])), (ow, .inl (Y 1, 17, .inr (.inl (aL gw))))] (q_X1_partOfAtLeast D Y od ow gw n t k pt) := by
  refine mv_ofW (by decide) (Nat.le_of_ble_eq_true rfl) ?_
  intro p e s m below meth c ls A hx hb hr hlocks hml hnm hown hts hsz hAe hP hK hD hS hST hA hl
  have hl : lv_has ls 11 [(0, .ref od), (1, .int (nI n)), (2, .int (nI t)), (3, .int (nI k)), (4, .int (nI pt))] := hl
  have L14 : ∀ (fu : Nat) (e1 : Nat) (c1 : Nat) (sm : Nat) (gx : Nat → Nat) (hcx : ∀ j, j ≤ 16 → gx j = wayS t n j) (he1 : e1 = k + c1) (he2 : e1 ≤ n + 1 ∨ c1 = 0) (hsm : sm = sgS (wayS t n) k c1) (hmeas : 18 + k - e1 < fu) (H : Heap) (locs : List Loc) (ls : Array Slot), va_P D vwCl [(od, .inr (1, [.ref ow])), (ow, .inl (Y 1, 17, .inr (.inl (aL gx))))] H → va_D A [(od, .inr (1, [.ref ow])), (ow, .inl (Y 1, 17, .inr (.inl (aL gx))))] → va_S A s.heap H locs → lv_has ls 11 [(9, .int (nI e1)), (7, .long (lN sm)), (0, .ref od), (1, .int (nI n)), (2, .int (nI t)), (3, .int (nI k)), (4, .int (nI pt)), (5, .long (lN (10 ^ n)))] → W p l e (mv_R 1 0 0) s m [.ref od, .int (nI n), .int (nI t), .int (nI k), .int (nI pt)].toArray below meth c H locs 0 0 (MQ below ((q_X1_partOfAtLeast D Y od ow gw n t k pt) A) [.ref od, .int (nI n), .int (nI t), .int (nI k), .int (nI pt)].toArray s 0 0 A) (F0 m 14 ls []) := by
    intro fu
    induction fu with
    | zero =>
      intro e1 c1 sm gx hcx he1 he2 hsm hmeas
      exact absurd hmeas (Nat.not_lt_zero _)
    | succ fu L14ih =>
      intro e1 c1 sm gx hcx he1 he2 hsm hmeas H locs ls hP hD hS hl
      have L77 : ∀ (tp : Nat) (htp : tp = if pt = 0 then sm else 10 ^ n) (hS9 : sm = sgS (wayS t n) k (n + 1 - k)) (htl : tp < 2 ^ 63) (hgp : 0 < Nat.gcd (10 ^ n) sm) (hgl2 : Nat.gcd (10 ^ n) sm < 2 ^ 63) (H : Heap) (locs : List Loc) (ls : Array Slot), va_P D vwCl [(od, .inr (1, [.ref ow])), (ow, .inl (Y 1, 17, .inr (.inl (aL gx))))] H → va_D A [(od, .inr (1, [.ref ow])), (ow, .inl (Y 1, 17, .inr (.inl (aL gx))))] → va_S A s.heap H locs → lv_has ls 11 [(4, .int (nI pt)), (9, .long (lN (Nat.gcd (10 ^ n) sm))), (0, .ref od)] → W p l e (mv_R 1 0 0) s m [.ref od, .int (nI n), .int (nI t), .int (nI k), .int (nI pt)].toArray below meth c H locs 0 0 (MQ below ((q_X1_partOfAtLeast D Y od ow gw n t k pt) A) [.ref od, .int (nI n), .int (nI t), .int (nI k), .int (nI pt)].toArray s 0 0 A) (F0 m 77 ls [.long (lN tp)]) := by
        intro tp htp hS9 htl hgp hgl2 H locs ls hP hD hS hl
        refine lv_lload hx hb dX1_partOfAtLeast_77 (lv_at hl 1 rfl) ?_
        refine mv_ldiv hx hb (by omega) (by omega) (by omega) dX1_partOfAtLeast_79 ?_
        exact mv_lret hx hb hr hlocks (gx) (by rw [htp, ← hS9]) hP hK hD hS dX1_partOfAtLeast_80
      refine lv_iload hx hb dX1_partOfAtLeast_14 (lv_at hl 0 rfl) ?_
      refine lv_iload_n hx hb dX1_partOfAtLeast_16 rfl (lv_at hl 3 rfl) ?_
      refine mv_icmp_gt (tgt := 45) hx hb (by omega) (by omega) dX1_partOfAtLeast_17 (by decide) (fun c17 => ?_) (fun c17 => ?_)
      · skip
        have hS9 : sm = sgS (wayS t n) k (n + 1 - k) := by rw [hsm, show c1 = n + 1 - k by omega]
        have hSl := sgS_le2 ht n k (n + 1 - k)
        have h10 := ten_lt hn
        have h1p : 0 < 10 ^ n := Nat.pow_pos (by decide)
        have hgp : 0 < Nat.gcd (10 ^ n) sm := Nat.gcd_pos_of_pos_left _ h1p
        have hgl : Nat.gcd (10 ^ n) sm ≤ 10 ^ n := Nat.gcd_le_left _ h1p
        refine lv_lload hx hb dX1_partOfAtLeast_45 (lv_at hl 7 rfl) ?_
        refine lv_lload hx hb dX1_partOfAtLeast_47 (lv_at hl 1 rfl) ?_
        refine mv_callSl (nA := 2) (As := [.long (lN (10 ^ n)), .long (lN sm)]) (rest := []) (Wc := []) (wr := [(od, .inr (1, [.ref ow])), (ow, .inl (Y 1, 17, .inr (.inl (aL gx))))]) hx hb hml hown hts hK hP hD hS hST hA hl.1 (c_X1_greatestDivisor l D Y _ (10 ^ n) sm (by omega) (h1p) (by omega)) [] [0, 1] rfl rfl (by decide) (by decide) (by decide) rfl mw_595 mw_596 mw_39 mw_597 ⟨by decide, by decide, by decide +kernel⟩ rfl ⟨Nat.le_of_ble_eq_true rfl, Nat.le_of_ble_eq_true rfl⟩ rfl (Nat.le_of_ble_eq_true rfl) dX1_partOfAtLeast_49 ⟨Nat.le_of_ble_eq_true rfl, Nat.le_of_ble_eq_true rfl⟩ (fun r_1 ux H locs hr49 hP hD hS hz49 => ?_)
        have hP := hP.sub (ws' := [(od, .inr (1, [.ref ow])), (ow, .inl (Y 1, 17, .inr (.inl (aL gx))))]) [0, 1] rfl
        have hD := hD.sub (ws' := [(od, .inr (1, [.ref ow])), (ow, .inl (Y 1, 17, .inr (.inl (aL gx))))]) [0, 1] (by decide) rfl
        have hr49 : r_1 = lN (Nat.gcd (10 ^ n) sm) := hr49
        subst hr49
        refine lv_lstore (lv' := [(9, .long (lN (Nat.gcd (10 ^ n) sm))), (7, .long (lN sm)), (0, .ref od), (1, .int (nI n)), (2, .int (nI t)), (3, .int (nI k)), (4, .int (nI pt)), (5, .long (lN (10 ^ n)))]) hx hb dX1_partOfAtLeast_52 hl (by decide) rfl (fun ls hl => ?_)
        refine lv_lload hx hb dX1_partOfAtLeast_54 (lv_at hl 0 rfl) ?_
        refine lv_lconst (v := lN 1) hx hb dX1_partOfAtLeast_56 (by decide) ?_
        refine W.lcmp hx hb dX1_partOfAtLeast_57 ?_
        refine mv_lcmp_ge (tgt := 65) hx hb (by omega) (by omega) dX1_partOfAtLeast_58 (by decide) (fun c58 => ?_) (fun c58 => ?_)
        · skip
          refine lv_iload hx hb dX1_partOfAtLeast_65 (lv_at hl 6 rfl) ?_
          refine mv_if_ne (tgt := 75) hx hb (by omega) dX1_partOfAtLeast_67 (by decide) (fun c67 => ?_) (fun c67 => ?_)
          · skip
            refine lv_lload hx hb dX1_partOfAtLeast_75 (lv_at hl 7 rfl) ?_
            exact L77  (10 ^ n) ((if_neg c67).symm) (by first | assumption | omega | rfl) (by first | assumption | omega | rfl) (by first | assumption | omega | rfl) (by first | assumption | omega | rfl) _ _ _ hP hD hS (lv_sub hl [6, 0, 2] rfl)
          · skip
            refine lv_lload hx hb dX1_partOfAtLeast_70 (lv_at hl 1 rfl) ?_
            refine lv_goto (tgt := 77) hx hb dX1_partOfAtLeast_72 (by decide) ?_
            exact L77  sm ((if_pos c67).symm) (by first | assumption | omega | rfl) (by first | assumption | omega | rfl) (by first | assumption | omega | rfl) (by first | assumption | omega | rfl) _ _ _ hP hD hS (lv_sub hl [6, 0, 2] rfl)
        · skip
          exfalso; omega
      · skip
        refine lv_iload hx hb dX1_partOfAtLeast_20 (lv_at hl 0 rfl) ?_
        refine lv_bipush (v := nI 16) hx hb dX1_partOfAtLeast_22 (by decide) ?_
        refine mv_icmp_gt (tgt := 45) hx hb (by omega) (by omega) dX1_partOfAtLeast_24 (by decide) (fun c24 => ?_) (fun c24 => ?_)
        · skip
          exfalso; omega
        · skip
          refine lv_lload hx hb dX1_partOfAtLeast_27 (lv_at hl 1 rfl) ?_
          refine lv_aload_n hx hb dX1_partOfAtLeast_29 rfl (lv_at hl 2 rfl) ?_
          refine va_get (D := D) (ci := 1) (v := .ref ow) (C := RX1) (T := TX1) (N := 1) hx hb hts inlX1 hown hK hP 0 rfl rfl 0 (by decide) (hts _ mw_78) (fun _ h9 => h9) rfl dX1_partOfAtLeast_30 ?_
          refine lv_iload hx hb dX1_partOfAtLeast_33 (lv_at hl 0 rfl) ?_
          refine mv_lald hx hb hK hP 1 rfl (i := e1) (by omega) (by decide) dX1_partOfAtLeast_35 ?_
          refine mv_ladd hx hb dX1_partOfAtLeast_36 ?_
          refine lv_lstore (lv' := [(7, .long (lN (sm + (gx e1)))), (9, .int (nI e1)), (0, .ref od), (1, .int (nI n)), (2, .int (nI t)), (3, .int (nI k)), (4, .int (nI pt)), (5, .long (lN (10 ^ n)))]) hx hb dX1_partOfAtLeast_37 hl (by decide) rfl (fun ls hl => ?_)
          refine lv_iinc (v := nI (e1 + 1)) (lv' := [(9, .int (nI (e1 + 1))), (7, .long (lN (sm + (gx e1)))), (0, .ref od), (1, .int (nI n)), (2, .int (nI t)), (3, .int (nI k)), (4, .int (nI pt)), (5, .long (lN (10 ^ n)))]) hx hb dX1_partOfAtLeast_39 hl (k := 1) rfl (by exact nI_add _ 1) (by decide) rfl (fun ls hl => ?_)
          refine lv_goto (tgt := 14) hx hb dX1_partOfAtLeast_42 (by decide) ?_
          exact L14ih  (e1 + 1) (c1 + 1) (sm + (gx e1)) gx (by first | assumption | omega | rfl) (by first | assumption | omega | rfl) (by first | assumption | omega | rfl) (by rw [hsm, sgS, he1, hcx _ (by omega)]) (by omega) _ _ _ hP hD hS (lv_sub hl [0, 1, 2, 3, 4, 5, 6, 7] rfl)
  refine lv_aload_n hx hb dX1_partOfAtLeast_0 rfl (lv_at hl 0 rfl) ?_
  refine lv_iload_n hx hb dX1_partOfAtLeast_1 rfl (lv_at hl 1 rfl) ?_
  refine lv_iload_n hx hb dX1_partOfAtLeast_2 rfl (lv_at hl 2 rfl) ?_
  refine mv_callVl (nA := 2) (As := [.int (nI n), .int (nI t)]) (rest := []) (Wc := [(od, .inr (1, [.ref ow])), (ow, .inl (Y 1, 17, .inr (.inl (aL gw))))]) (wr := []) hx hb hml hown hts hK hP hD hS hST hA hl.1 (c_X1_countWays l D Y _ od ow gw n t (by first | assumption | omega | rfl) (by first | assumption | omega | rfl)) [0, 1] [] rfl rfl (by decide) (by decide) (by decide) rfl 0 rfl rfl rfl mw_590 mw_591 mw_592 mw_39 mw_593 ⟨by decide, by decide, by decide +kernel⟩ rfl ⟨Nat.le_of_ble_eq_true rfl, Nat.le_of_ble_eq_true rfl⟩ rfl (Nat.le_of_ble_eq_true rfl) dX1_partOfAtLeast_3 ⟨Nat.le_of_ble_eq_true rfl, Nat.le_of_ble_eq_true rfl⟩ (fun r_3 ux H locs hr3 hP hD hS hz3 => ?_)
  obtain ⟨x_2, hu9⟩ : ∃ z, z = ux := ⟨_, rfl⟩
  subst hu9
  have hP := hP.sub (ws' := [(od, .inr (1, [.ref ow])), (ow, .inl (Y 1, 17, .inr (.inl (aL x_2))))]) [0, 1] rfl
  have hD := hD.sub (ws' := [(od, .inr (1, [.ref ow])), (ow, .inl (Y 1, 17, .inr (.inl (aL x_2))))]) [0, 1] (by decide) rfl
  have hr3 : r_3 = lN (10 ^ n) ∧ ∀ j, j ≤ 16 → x_2 j = wayS t n j := hr3
  have hcx := hr3.2
  have hr9 := hr3.1
  subst hr9
  refine lv_lstore (lv' := [(5, .long (lN (10 ^ n))), (0, .ref od), (1, .int (nI n)), (2, .int (nI t)), (3, .int (nI k)), (4, .int (nI pt))]) hx hb dX1_partOfAtLeast_6 hl (by decide) rfl (fun ls hl => ?_)
  refine lv_lconst (v := lN 0) hx hb dX1_partOfAtLeast_8 (by decide) ?_
  refine lv_lstore (lv' := [(7, .long (lN 0)), (5, .long (lN (10 ^ n))), (0, .ref od), (1, .int (nI n)), (2, .int (nI t)), (3, .int (nI k)), (4, .int (nI pt))]) hx hb dX1_partOfAtLeast_9 hl (by decide) rfl (fun ls hl => ?_)
  refine lv_iload_n hx hb dX1_partOfAtLeast_11 rfl (lv_at hl 5 rfl) ?_
  refine lv_istore (lv' := [(9, .int (nI k)), (7, .long (lN 0)), (5, .long (lN (10 ^ n))), (0, .ref od), (1, .int (nI n)), (2, .int (nI t)), (3, .int (nI k)), (4, .int (nI pt))]) hx hb dX1_partOfAtLeast_12 hl (by decide) rfl (fun ls hl => ?_)
  exact L14 (18 + k - k + 1) k 0 0 x_2 (by first | assumption | omega | rfl) (by first | assumption | omega | rfl) (by first | assumption | omega | rfl) (rfl) (Nat.lt_succ_self _) _ _ _ hP hD hS (lv_sub hl [0, 1, 3, 4, 5, 6, 7, 2] rfl)
