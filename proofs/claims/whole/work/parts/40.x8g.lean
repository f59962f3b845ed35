abbrev q_X8_layRows (D : va_G) (Y : Nat → ClassId) (o : Nat) (ob : Nat) (on : Nat) (ow8 : Nat) (os : Nat) (oe : Nat) (oi : Nat) (op : Nat) (oz : Nat) (oc8 : Nat) (oq : Nat) (om : Nat) (oy : Nat) (og : Nat) (ok8 : Nat) (sc8 : Nat) (cn8 : Nat) (bt : Nat) (a8 : Nat) (rs8 : Int32) (gA : Option Nat) (gR : Option Nat) (gr : Nat → Nat) (gm : Nat → Nat) : (Nat → Prop) → Array Value → State → Outcome → State → Prop := mv_Qv D Y (fun (ux : (Nat → Nat) × (Nat → Nat)) => ∀ j, j ≤ 16 → ux.1 j = nmL j) (fun ux : (Nat → Nat) × (Nat → Nat) => ([(o, .inr (8, [.ref ob, .ref on, .ref ow8, .ref os, .ref oe, .int (nI sc8), .ref oi, .int (nI cn8), .ref op, .int (nI bt), .int (oI gA), .int (oI gR), .int rs8, .int (nI a8), .ref oz, .ref oc8, .ref oq, .ref om, .ref oy, .ref og, .ref ok8])), (oq, .inl (Y 0, 17, .inl (aN ux.1))), (om, .inl (Y 2, 40, .inl (aN ux.2)))] : va_W))
set_option maxHeartbeats 4000000 in
set_option maxRecDepth 100000 in
theorem c_X8_layRows (l : Launch) (D : va_G) (Y : Nat → ClassId) (sz : Nat) (o : Nat) (ob : Nat) (on : Nat) (ow8 : Nat) (os : Nat) (oe : Nat) (oi : Nat) (op : Nat) (oz : Nat) (oc8 : Nat) (oq : Nat) (om : Nat) (oy : Nat) (og : Nat) (ok8 : Nat) (sc8 : Nat) (cn8 : Nat) (bt : Nat) (a8 : Nat) (rs8 : Int32) (gA : Option Nat) (gR : Option Nat) (gr : Nat → Nat) (gm : Nat → Nat)  : mv_C l D Y yX8_layRows cX8_layRows 4 none 0 0 0 [.ref o] sz [(o, .inr (8, [.ref ob, .ref on, .ref ow8, .ref os, .ref oe, .int (nI sc8), .ref oi, .int (nI cn8), .ref op, .int (nI bt), .int (oI gA), .int (oI gR), .int rs8, .int (nI a8), .ref oz, .ref oc8, .ref oq, .ref om, .ref oy, .ref og, .ref ok8])), (oq, .inl (Y 0, 17, .inl (aN gr))), (om, .inl (Y 2, 40, .inl (aN gm)))] (q_X8_layRows D Y o ob on ow8 os oe oi op oz oc8 oq om oy og ok8 sc8 cn8 bt a8 rs8 gA gR gr gm) := by
  refine mv_ofW (by decide) (Nat.le_of_ble_eq_true rfl) ?_
  intro p e s m below meth c ls A hx hb hr hlocks hml hnm hown hts hsz hAe hP hK hD hS hST hA hl
  have hl : lv_has ls 4 [(0, .ref o)] := hl
  have L9 : ∀ (fu : Nat) (n : Nat) (gz : Nat → Nat) (gy : Nat → Nat) (hn1 : 1 ≤ n) (hn2 : n ≤ 17) (hg : ∀ j, j < n → gz j = nmL j) (hmeas : 17 - n < fu) (H : Heap) (locs : List Loc) (ls : Array Slot), va_P D vwCl [(o, .inr (8, [.ref ob, .ref on, .ref ow8, .ref os, .ref oe, .int (nI sc8), .ref oi, .int (nI cn8), .ref op, .int (nI bt), .int (oI gA), .int (oI gR), .int rs8, .int (nI a8), .ref oz, .ref oc8, .ref oq, .ref om, .ref oy, .ref og, .ref ok8])), (oq, .inl (Y 0, 17, .inl (aN gz))), (om, .inl (Y 2, 40, .inl (aN gy)))] H → va_D A [(o, .inr (8, [.ref ob, .ref on, .ref ow8, .ref os, .ref oe, .int (nI sc8), .ref oi, .int (nI cn8), .ref op, .int (nI bt), .int (oI gA), .int (oI gR), .int rs8, .int (nI a8), .ref oz, .ref oc8, .ref oq, .ref om, .ref oy, .ref og, .ref ok8])), (oq, .inl (Y 0, 17, .inl (aN gz))), (om, .inl (Y 2, 40, .inl (aN gy)))] → va_S A s.heap H locs → lv_has ls 4 [(1, .int (nI n)), (0, .ref o)] → W p l e (mv_R 0 0 0) s m [.ref o].toArray below meth c H locs 0 0 (MQ below ((q_X8_layRows D Y o ob on ow8 os oe oi op oz oc8 oq om oy og ok8 sc8 cn8 bt a8 rs8 gA gR gr gm) A) [.ref o].toArray s 0 0 A) (F0 m 9 ls []) := by
    intro fu
    induction fu with
    | zero =>
      intro n gz gy hn1 hn2 hg hmeas
      exact absurd hmeas (Nat.not_lt_zero _)
    | succ fu L9ih =>
      intro n gz gy hn1 hn2 hg hmeas H locs ls hP hD hS hl
      have L38 : ∀ (fu : Nat) (tk : Nat) (gx : Nat → Nat) (ht1 : 1 ≤ tk) (ht2 : tk ≤ 3) (hm : meG n tk 0 gx) (hn3 : n < 17) (hmeas : 3 - tk < fu) (H : Heap) (locs : List Loc) (ls : Array Slot), va_P D vwCl [(o, .inr (8, [.ref ob, .ref on, .ref ow8, .ref os, .ref oe, .int (nI sc8), .ref oi, .int (nI cn8), .ref op, .int (nI bt), .int (oI gA), .int (oI gR), .int rs8, .int (nI a8), .ref oz, .ref oc8, .ref oq, .ref om, .ref oy, .ref og, .ref ok8])), (oq, .inl (Y 0, 17, .inl (aN gz))), (om, .inl (Y 2, 40, .inl (aN gx)))] H → va_D A [(o, .inr (8, [.ref ob, .ref on, .ref ow8, .ref os, .ref oe, .int (nI sc8), .ref oi, .int (nI cn8), .ref op, .int (nI bt), .int (oI gA), .int (oI gR), .int rs8, .int (nI a8), .ref oz, .ref oc8, .ref oq, .ref om, .ref oy, .ref og, .ref ok8])), (oq, .inl (Y 0, 17, .inl (aN gz))), (om, .inl (Y 2, 40, .inl (aN gx)))] → va_S A s.heap H locs → lv_has ls 4 [(1, .int (nI n)), (2, .int (nI tk)), (0, .ref o)] → W p l e (mv_R 0 0 0) s m [.ref o].toArray below meth c H locs 0 0 (MQ below ((q_X8_layRows D Y o ob on ow8 os oe oi op oz oc8 oq om oy og ok8 sc8 cn8 bt a8 rs8 gA gR gr gm) A) [.ref o].toArray s 0 0 A) (F0 m 38 ls []) := by
        intro fu
        induction fu with
        | zero =>
          intro tk gx ht1 ht2 hm hn3 hmeas
          exact absurd hmeas (Nat.not_lt_zero _)
        | succ fu L38ih =>
          intro tk gx ht1 ht2 hm hn3 hmeas H locs ls hP hD hS hl
          have L89 : ∀ (fu : Nat) (lt : Nat) (hlt : lt ≤ nmL n) (hlo : ∀ j, j < lt → meB n 3 0 j) (hm : meG n 3 0 gx) (hn3 : n < 17) (hmeas : 10 - lt < fu) (H : Heap) (locs : List Loc) (ls : Array Slot), va_P D vwCl [(o, .inr (8, [.ref ob, .ref on, .ref ow8, .ref os, .ref oe, .int (nI sc8), .ref oi, .int (nI cn8), .ref op, .int (nI bt), .int (oI gA), .int (oI gR), .int rs8, .int (nI a8), .ref oz, .ref oc8, .ref oq, .ref om, .ref oy, .ref og, .ref ok8])), (oq, .inl (Y 0, 17, .inl (aN gz))), (om, .inl (Y 2, 40, .inl (aN gx)))] H → va_D A [(o, .inr (8, [.ref ob, .ref on, .ref ow8, .ref os, .ref oe, .int (nI sc8), .ref oi, .int (nI cn8), .ref op, .int (nI bt), .int (oI gA), .int (oI gR), .int rs8, .int (nI a8), .ref oz, .ref oc8, .ref oq, .ref om, .ref oy, .ref og, .ref ok8])), (oq, .inl (Y 0, 17, .inl (aN gz))), (om, .inl (Y 2, 40, .inl (aN gx)))] → va_S A s.heap H locs → lv_has ls 4 [(1, .int (nI n)), (2, .int (nI lt)), (0, .ref o)] → W p l e (mv_R 0 0 0) s m [.ref o].toArray below meth c H locs 0 0 (MQ below ((q_X8_layRows D Y o ob on ow8 os oe oi op oz oc8 oq om oy og ok8 sc8 cn8 bt a8 rs8 gA gR gr gm) A) [.ref o].toArray s 0 0 A) (F0 m 89 ls []) := by
            intro fu
            induction fu with
            | zero =>
              intro lt hlt hlo hm hn3 hmeas
              exact absurd hmeas (Nat.not_lt_zero _)
            | succ fu L89ih =>
              intro lt hlt hlo hm hn3 hmeas H locs ls hP hD hS hl
              have hlt8 : nmL n < 8 := nimL_lt n
              have hg2 := (hm lt (by omega)).1
              refine lv_aload_n hx hb dX8_layRows_89 rfl (lv_at hl 2 rfl) ?_
              refine va_get (D := D) (ci := 8) (v := .ref om) (C := RX8) (T := TX8) (N := 21) hx hb hts inlX8 hown hK hP 0 rfl rfl 17 (by decide) (hts _ mw_94) (fun _ h9 => h9) rfl dX8_layRows_90 ?_
              refine lv_iload_n hx hb dX8_layRows_93 rfl (lv_at hl 1 rfl) ?_
              refine mv_zald hx hb hK hP 2 rfl (i := lt) (by omega) (by decide) dX8_layRows_94 ?_
              refine mv_if_eq (tgt := 104) hx hb (by omega) dX8_layRows_95 (by decide) (fun c95 => ?_) (fun c95 => ?_)
              · skip
                have hnl : ¬ gx lt ≠ 0 := by omega
                refine lv_aload_n hx hb dX8_layRows_104 rfl (lv_at hl 2 rfl) ?_
                refine va_get (D := D) (ci := 8) (v := .ref oq) (C := RX8) (T := TX8) (N := 21) hx hb hts inlX8 hown hK hP 0 rfl rfl 16 (by decide) (hts _ mw_92) (fun _ h9 => h9) rfl dX8_layRows_105 ?_
                refine lv_iload_n hx hb dX8_layRows_108 rfl (lv_at hl 0 rfl) ?_
                refine lv_iload_n hx hb dX8_layRows_109 rfl (lv_at hl 1 rfl) ?_
                refine mv_iast hx hb hK hP hD hS 1 rfl (i := n) (v := lt) (by omega) (by decide) dX8_layRows_110 (fun H locs hP hD hS => ?_)
                have hP : va_P D vwCl [(o, .inr (8, [.ref ob, .ref on, .ref ow8, .ref os, .ref oe, .int (nI sc8), .ref oi, .int (nI cn8), .ref op, .int (nI bt), .int (oI gA), .int (oI gR), .int rs8, .int (nI a8), .ref oz, .ref oc8, .ref oq, .ref om, .ref oy, .ref og, .ref ok8])), (oq, .inl (Y 0, 17, .inl (aN (uN gz n lt)))), (om, .inl (Y 2, 40, .inl (aN gx)))] H := hP
                have hD : va_D A [(o, .inr (8, [.ref ob, .ref on, .ref ow8, .ref os, .ref oe, .int (nI sc8), .ref oi, .int (nI cn8), .ref op, .int (nI bt), .int (oI gA), .int (oI gR), .int rs8, .int (nI a8), .ref oz, .ref oc8, .ref oq, .ref om, .ref oy, .ref og, .ref ok8])), (oq, .inl (Y 0, 17, .inl (aN (uN gz n lt)))), (om, .inl (Y 2, 40, .inl (aN gx)))] := hD
                refine lv_iinc (v := nI (n + 1)) (lv' := [(1, .int (nI (n + 1))), (2, .int (nI lt)), (0, .ref o)]) hx hb dX8_layRows_111 hl (k := 0) rfl (by exact nI_add _ 1) (by decide) rfl (fun ls hl => ?_)
                refine lv_goto (tgt := 9) hx hb dX8_layRows_114 (by decide) ?_
                exact L9ih  (n + 1) (uN gz n lt) gx (by first | assumption | omega | rfl) (by first | assumption | omega | rfl) (fun j hj => by by_cases e9 : j = n; rw [e9, uN_s]; exact me_f hn1 hn3 (fun q => hnl ((hm lt (by omega)).2.mpr q)) hlo; rw [uN_n _ _ e9]; exact hg j (by omega)) (by omega) _ _ _ hP hD hS (lv_sub hl [0, 2] rfl)
              · skip
                have hb9 : meB n 3 0 lt := (hm lt (by omega)).2.mp (by omega)
                refine lv_iinc (v := nI (lt + 1)) (lv' := [(2, .int (nI (lt + 1))), (1, .int (nI n)), (0, .ref o)]) hx hb dX8_layRows_98 hl (k := 1) rfl (by exact nI_add _ 1) (by decide) rfl (fun ls hl => ?_)
                refine lv_goto (tgt := 89) hx hb dX8_layRows_101 (by decide) ?_
                exact L89ih  (lt + 1) (by have h8 : lt ≠ nmL n := (fun q => me_ex hn1 hn3 (q ▸ hb9)); omega) (fun j hj => by by_cases e9 : j = lt; rw [e9]; exact hb9; exact hlo j (by omega)) (by first | assumption | omega | rfl) (by first | assumption | omega | rfl) (by omega) _ _ _ hP hD hS (lv_sub hl [1, 0, 2] rfl)
          have L45 : ∀ (fu : Nat) (lf : Nat) (gx : Nat → Nat) (hlf : lf + tk ≤ n + 1) (hm : meG n tk lf gx) (ht3 : tk < 3) (hn3 : n < 17) (hmeas : 20 - lf < fu) (H : Heap) (locs : List Loc) (ls : Array Slot), va_P D vwCl [(o, .inr (8, [.ref ob, .ref on, .ref ow8, .ref os, .ref oe, .int (nI sc8), .ref oi, .int (nI cn8), .ref op, .int (nI bt), .int (oI gA), .int (oI gR), .int rs8, .int (nI a8), .ref oz, .ref oc8, .ref oq, .ref om, .ref oy, .ref og, .ref ok8])), (oq, .inl (Y 0, 17, .inl (aN gz))), (om, .inl (Y 2, 40, .inl (aN gx)))] H → va_D A [(o, .inr (8, [.ref ob, .ref on, .ref ow8, .ref os, .ref oe, .int (nI sc8), .ref oi, .int (nI cn8), .ref op, .int (nI bt), .int (oI gA), .int (oI gR), .int rs8, .int (nI a8), .ref oz, .ref oc8, .ref oq, .ref om, .ref oy, .ref og, .ref ok8])), (oq, .inl (Y 0, 17, .inl (aN gz))), (om, .inl (Y 2, 40, .inl (aN gx)))] → va_S A s.heap H locs → lv_has ls 4 [(1, .int (nI n)), (2, .int (nI tk)), (3, .int (nI lf)), (0, .ref o)] → W p l e (mv_R 0 0 0) s m [.ref o].toArray below meth c H locs 0 0 (MQ below ((q_X8_layRows D Y o ob on ow8 os oe oi op oz oc8 oq om oy og ok8 sc8 cn8 bt a8 rs8 gA gR gr gm) A) [.ref o].toArray s 0 0 A) (F0 m 45 ls []) := by
            intro fu
            induction fu with
            | zero =>
              intro lf gx hlf hm ht3 hn3 hmeas
              exact absurd hmeas (Nat.not_lt_zero _)
            | succ fu L45ih =>
              intro lf gx hlf hm ht3 hn3 hmeas H locs ls hP hD hS hl
              refine lv_iload_n hx hb dX8_layRows_45 rfl (lv_at hl 2 rfl) ?_
              refine lv_iload_n hx hb dX8_layRows_46 rfl (lv_at hl 1 rfl) ?_
              refine mv_iadd hx hb dX8_layRows_47 ?_
              refine lv_iload_n hx hb dX8_layRows_48 rfl (lv_at hl 0 rfl) ?_
              refine mv_icmp_gt (tgt := 81) hx hb (by omega) (by omega) dX8_layRows_49 (by decide) (fun c49 => ?_) (fun c49 => ?_)
              · skip
                refine lv_iinc (v := nI (tk + 1)) (lv' := [(2, .int (nI (tk + 1))), (1, .int (nI n)), (3, .int (nI lf)), (0, .ref o)]) hx hb dX8_layRows_81 hl (k := 1) rfl (by exact nI_add _ 1) (by decide) rfl (fun ls hl => ?_)
                refine lv_goto (tgt := 38) hx hb dX8_layRows_84 (by decide) ?_
                exact L38ih  (tk + 1) gx (by first | assumption | omega | rfl) (by first | assumption | omega | rfl) (fun j hj => ⟨(hm j hj).1, (hm j hj).2.trans (me_up ht1 (by omega) hlf).symm⟩) (by first | assumption | omega | rfl) (by omega) _ _ _ hP hD hS (lv_sub hl [1, 0, 3] rfl)
              · skip
                refine lv_aload_n hx hb dX8_layRows_52 rfl (lv_at hl 3 rfl) ?_
                refine va_get (D := D) (ci := 8) (v := .ref om) (C := RX8) (T := TX8) (N := 21) hx hb hts inlX8 hown hK hP 0 rfl rfl 17 (by decide) (hts _ mw_94) (fun _ h9 => h9) rfl dX8_layRows_53 ?_
                refine lv_aload_n hx hb dX8_layRows_56 rfl (lv_at hl 3 rfl) ?_
                refine va_get (D := D) (ci := 8) (v := .ref oq) (C := RX8) (T := TX8) (N := 21) hx hb hts inlX8 hown hK hP 0 rfl rfl 16 (by decide) (hts _ mw_92) (fun _ h9 => h9) rfl dX8_layRows_57 ?_
                refine lv_iload_n hx hb dX8_layRows_60 rfl (lv_at hl 2 rfl) ?_
                refine mv_iald hx hb hK hP 1 rfl (i := lf) (by omega) (by decide) dX8_layRows_61 ?_
                refine lv_aload_n hx hb dX8_layRows_62 rfl (lv_at hl 3 rfl) ?_
                refine va_get (D := D) (ci := 8) (v := .ref oq) (C := RX8) (T := TX8) (N := 21) hx hb hts inlX8 hown hK hP 0 rfl rfl 16 (by decide) (hts _ mw_92) (fun _ h9 => h9) rfl dX8_layRows_63 ?_
                refine lv_iload_n hx hb dX8_layRows_66 rfl (lv_at hl 0 rfl) ?_
                refine lv_iload_n hx hb dX8_layRows_67 rfl (lv_at hl 1 rfl) ?_
                refine mv_isub hx hb (by omega) dX8_layRows_68 ?_
                refine lv_iload_n hx hb dX8_layRows_69 rfl (lv_at hl 2 rfl) ?_
                refine mv_isub hx hb (by omega) dX8_layRows_70 ?_
                refine mv_iald hx hb hK hP 1 rfl (i := (n - tk) - lf) (by omega) (by decide) dX8_layRows_71 ?_
                refine mv_ixor hx hb dX8_layRows_72 ?_
                refine lv_iconst (v := nI 1) hx hb dX8_layRows_73 (by decide) ?_
                refine mv_zast hx hb hK hP hD hS 2 rfl (i := (gz lf) ^^^ (gz ((n - tk) - lf))) (v := 1) (by rw [hg lf (by omega), hg (n - tk - lf) (by omega)]; exact Nat.lt_trans (nm_xor _ _) (by decide)) (by decide) (by omega) dX8_layRows_74 (fun H locs hP hD hS => ?_)
                have hP : va_P D vwCl [(o, .inr (8, [.ref ob, .ref on, .ref ow8, .ref os, .ref oe, .int (nI sc8), .ref oi, .int (nI cn8), .ref op, .int (nI bt), .int (oI gA), .int (oI gR), .int rs8, .int (nI a8), .ref oz, .ref oc8, .ref oq, .ref om, .ref oy, .ref og, .ref ok8])), (oq, .inl (Y 0, 17, .inl (aN gz))), (om, .inl (Y 2, 40, .inl (aN (uN gx ((gz lf) ^^^ (gz ((n - tk) - lf))) 1))))] H := hP
                have hD : va_D A [(o, .inr (8, [.ref ob, .ref on, .ref ow8, .ref os, .ref oe, .int (nI sc8), .ref oi, .int (nI cn8), .ref op, .int (nI bt), .int (oI gA), .int (oI gR), .int rs8, .int (nI a8), .ref oz, .ref oc8, .ref oq, .ref om, .ref oy, .ref og, .ref ok8])), (oq, .inl (Y 0, 17, .inl (aN gz))), (om, .inl (Y 2, 40, .inl (aN (uN gx ((gz lf) ^^^ (gz ((n - tk) - lf))) 1))))] := hD
                refine lv_iinc (v := nI (lf + 1)) (lv' := [(3, .int (nI (lf + 1))), (1, .int (nI n)), (2, .int (nI tk)), (0, .ref o)]) hx hb dX8_layRows_75 hl (k := 2) rfl (by exact nI_add _ 1) (by decide) rfl (fun ls hl => ?_)
                refine lv_goto (tgt := 45) hx hb dX8_layRows_78 (by decide) ?_
                exact L45ih  (lf + 1) (uN gx ((gz lf) ^^^ (gz ((n - tk) - lf))) 1) (by first | assumption | omega | rfl) (meG_s hm (by rw [hg lf (by omega), hg (n - tk - lf) (by omega)])) (by first | assumption | omega | rfl) (by first | assumption | omega | rfl) (by omega) _ _ _ hP hD hS (lv_sub hl [1, 2, 0, 3] rfl)
          refine lv_iload_n hx hb dX8_layRows_38 rfl (lv_at hl 1 rfl) ?_
          refine lv_iconst (v := nI 3) hx hb dX8_layRows_39 (by decide) ?_
          refine mv_icmp_ge (tgt := 87) hx hb (by omega) (by omega) dX8_layRows_40 (by decide) (fun c40 => ?_) (fun c40 => ?_)
          · skip
            refine lv_iconst (v := nI 0) hx hb dX8_layRows_87 (by decide) ?_
            refine lv_istore_n (lv' := [(2, .int (nI 0)), (1, .int (nI n)), (0, .ref o)]) hx hb dX8_layRows_88 rfl hl (by decide) rfl (fun ls hl => ?_)
            exact L89 (10 - 0 + 1) 0 (Nat.zero_le _) (fun j hj => absurd hj (Nat.not_lt_zero _)) (by have h9 : tk = 3 := (by omega); subst h9; exact hm) (by first | assumption | omega | rfl) (Nat.lt_succ_self _) _ _ _ hP hD hS (lv_sub hl [1, 0, 2] rfl)
          · skip
            refine lv_iconst (v := nI 0) hx hb dX8_layRows_43 (by decide) ?_
            refine lv_istore_n (lv' := [(3, .int (nI 0)), (1, .int (nI n)), (2, .int (nI tk)), (0, .ref o)]) hx hb dX8_layRows_44 rfl hl (by decide) rfl (fun ls hl => ?_)
            exact L45 (20 - 0 + 1) 0 gx (by first | assumption | omega | rfl) (by first | assumption | omega | rfl) (by first | assumption | omega | rfl) (by first | assumption | omega | rfl) (Nat.lt_succ_self _) _ _ _ hP hD hS (lv_sub hl [1, 2, 0, 3] rfl)
      have L17 : ∀ (fu : Nat) (v : Nat) (gx : Nat → Nat) (hv : v ≤ 40) (hv2 : ∀ j, j < v → gx j = 0) (hn3 : n < 17) (hmeas : 40 - v < fu) (H : Heap) (locs : List Loc) (ls : Array Slot), va_P D vwCl [(o, .inr (8, [.ref ob, .ref on, .ref ow8, .ref os, .ref oe, .int (nI sc8), .ref oi, .int (nI cn8), .ref op, .int (nI bt), .int (oI gA), .int (oI gR), .int rs8, .int (nI a8), .ref oz, .ref oc8, .ref oq, .ref om, .ref oy, .ref og, .ref ok8])), (oq, .inl (Y 0, 17, .inl (aN gz))), (om, .inl (Y 2, 40, .inl (aN gx)))] H → va_D A [(o, .inr (8, [.ref ob, .ref on, .ref ow8, .ref os, .ref oe, .int (nI sc8), .ref oi, .int (nI cn8), .ref op, .int (nI bt), .int (oI gA), .int (oI gR), .int rs8, .int (nI a8), .ref oz, .ref oc8, .ref oq, .ref om, .ref oy, .ref og, .ref ok8])), (oq, .inl (Y 0, 17, .inl (aN gz))), (om, .inl (Y 2, 40, .inl (aN gx)))] → va_S A s.heap H locs → lv_has ls 4 [(1, .int (nI n)), (2, .int (nI v)), (0, .ref o)] → W p l e (mv_R 0 0 0) s m [.ref o].toArray below meth c H locs 0 0 (MQ below ((q_X8_layRows D Y o ob on ow8 os oe oi op oz oc8 oq om oy og ok8 sc8 cn8 bt a8 rs8 gA gR gr gm) A) [.ref o].toArray s 0 0 A) (F0 m 17 ls []) := by
        intro fu
        induction fu with
        | zero =>
          intro v gx hv hv2 hn3 hmeas
          exact absurd hmeas (Nat.not_lt_zero _)
        | succ fu L17ih =>
          intro v gx hv hv2 hn3 hmeas H locs ls hP hD hS hl
          refine lv_iload_n hx hb dX8_layRows_17 rfl (lv_at hl 1 rfl) ?_
          refine lv_bipush (v := nI 40) hx hb dX8_layRows_18 (by decide) ?_
          refine mv_icmp_ge (tgt := 36) hx hb (by omega) (by omega) dX8_layRows_20 (by decide) (fun c20 => ?_) (fun c20 => ?_)
          · skip
            refine lv_iconst (v := nI 1) hx hb dX8_layRows_36 (by decide) ?_
            refine lv_istore_n (lv' := [(2, .int (nI 1)), (1, .int (nI n)), (0, .ref o)]) hx hb dX8_layRows_37 rfl hl (by decide) rfl (fun ls hl => ?_)
            exact L38 (3 - 1 + 1) 1 gx (by first | assumption | omega | rfl) (by first | assumption | omega | rfl) (fun j hj => by rw [hv2 j (by omega)]; exact ⟨by decide, fun q => absurd rfl q, fun q => absurd q me_0⟩) (by first | assumption | omega | rfl) (Nat.lt_succ_self _) _ _ _ hP hD hS (lv_sub hl [1, 0, 2] rfl)
          · skip
            refine lv_aload_n hx hb dX8_layRows_23 rfl (lv_at hl 2 rfl) ?_
            refine va_get (D := D) (ci := 8) (v := .ref om) (C := RX8) (T := TX8) (N := 21) hx hb hts inlX8 hown hK hP 0 rfl rfl 17 (by decide) (hts _ mw_94) (fun _ h9 => h9) rfl dX8_layRows_24 ?_
            refine lv_iload_n hx hb dX8_layRows_27 rfl (lv_at hl 1 rfl) ?_
            refine lv_iconst (v := nI 0) hx hb dX8_layRows_28 (by decide) ?_
            refine mv_zast hx hb hK hP hD hS 2 rfl (i := v) (v := 0) (by omega) (by decide) (by omega) dX8_layRows_29 (fun H locs hP hD hS => ?_)
            have hP : va_P D vwCl [(o, .inr (8, [.ref ob, .ref on, .ref ow8, .ref os, .ref oe, .int (nI sc8), .ref oi, .int (nI cn8), .ref op, .int (nI bt), .int (oI gA), .int (oI gR), .int rs8, .int (nI a8), .ref oz, .ref oc8, .ref oq, .ref om, .ref oy, .ref og, .ref ok8])), (oq, .inl (Y 0, 17, .inl (aN gz))), (om, .inl (Y 2, 40, .inl (aN (uN gx v 0))))] H := hP
            have hD : va_D A [(o, .inr (8, [.ref ob, .ref on, .ref ow8, .ref os, .ref oe, .int (nI sc8), .ref oi, .int (nI cn8), .ref op, .int (nI bt), .int (oI gA), .int (oI gR), .int rs8, .int (nI a8), .ref oz, .ref oc8, .ref oq, .ref om, .ref oy, .ref og, .ref ok8])), (oq, .inl (Y 0, 17, .inl (aN gz))), (om, .inl (Y 2, 40, .inl (aN (uN gx v 0))))] := hD
            refine lv_iinc (v := nI (v + 1)) (lv' := [(2, .int (nI (v + 1))), (1, .int (nI n)), (0, .ref o)]) hx hb dX8_layRows_30 hl (k := 1) rfl (by exact nI_add _ 1) (by decide) rfl (fun ls hl => ?_)
            refine lv_goto (tgt := 17) hx hb dX8_layRows_33 (by decide) ?_
            exact L17ih  (v + 1) (uN gx v 0) (by first | assumption | omega | rfl) (fun j hj => by by_cases e9 : j = v; rw [e9, uN_s]; rw [uN_n _ _ e9]; exact hv2 j (by omega)) (by first | assumption | omega | rfl) (by omega) _ _ _ hP hD hS (lv_sub hl [1, 0, 2] rfl)
      refine lv_iload_n hx hb dX8_layRows_9 rfl (lv_at hl 0 rfl) ?_
      refine lv_bipush (v := nI 17) hx hb dX8_layRows_10 (by decide) ?_
      refine mv_icmp_ge (tgt := 117) hx hb (by omega) (by omega) dX8_layRows_12 (by decide) (fun c12 => ?_) (fun c12 => ?_)
      · skip
        exact mv_vret hx hb hr hlocks (gz, gy) (fun j hj => hg j (by omega)) hP hK hD hS dX8_layRows_117
      · skip
        refine lv_iconst (v := nI 0) hx hb dX8_layRows_15 (by decide) ?_
        refine lv_istore_n (lv' := [(2, .int (nI 0)), (1, .int (nI n)), (0, .ref o)]) hx hb dX8_layRows_16 rfl hl (by decide) rfl (fun ls hl => ?_)
        exact L17 (40 - 0 + 1) 0 gy (by first | assumption | omega | rfl) (fun j hj => absurd hj (Nat.not_lt_zero _)) (by first | assumption | omega | rfl) (Nat.lt_succ_self _) _ _ _ hP hD hS (lv_sub hl [1, 0, 2] rfl)
  refine lv_aload_n hx hb dX8_layRows_0 rfl (lv_at hl 0 rfl) ?_
  refine va_get (D := D) (ci := 8) (v := .ref oq) (C := RX8) (T := TX8) (N := 21) hx hb hts inlX8 hown hK hP 0 rfl rfl 16 (by decide) (hts _ mw_92) (fun _ h9 => h9) rfl dX8_layRows_1 ?_
  refine lv_iconst (v := nI 0) hx hb dX8_layRows_4 (by decide) ?_
  refine lv_iconst (v := nI 0) hx hb dX8_layRows_5 (by decide) ?_
  refine mv_iast hx hb hK hP hD hS 1 rfl (i := 0) (v := 0) (by omega) (by decide) dX8_layRows_6 (fun H locs hP hD hS => ?_)
  have hP : va_P D vwCl [(o, .inr (8, [.ref ob, .ref on, .ref ow8, .ref os, .ref oe, .int (nI sc8), .ref oi, .int (nI cn8), .ref op, .int (nI bt), .int (oI gA), .int (oI gR), .int rs8, .int (nI a8), .ref oz, .ref oc8, .ref oq, .ref om, .ref oy, .ref og, .ref ok8])), (oq, .inl (Y 0, 17, .inl (aN (uN gr 0 0)))), (om, .inl (Y 2, 40, .inl (aN gm)))] H := hP
  have hD : va_D A [(o, .inr (8, [.ref ob, .ref on, .ref ow8, .ref os, .ref oe, .int (nI sc8), .ref oi, .int (nI cn8), .ref op, .int (nI bt), .int (oI gA), .int (oI gR), .int rs8, .int (nI a8), .ref oz, .ref oc8, .ref oq, .ref om, .ref oy, .ref og, .ref ok8])), (oq, .inl (Y 0, 17, .inl (aN (uN gr 0 0)))), (om, .inl (Y 2, 40, .inl (aN gm)))] := hD
  refine lv_iconst (v := nI 1) hx hb dX8_layRows_7 (by decide) ?_
  refine lv_istore_n (lv' := [(1, .int (nI 1)), (0, .ref o)]) hx hb dX8_layRows_8 rfl hl (by decide) rfl (fun ls hl => ?_)
  exact L9 (17 - 1 + 1) 1 (uN gr 0 0) gm (by first | assumption | omega | rfl) (by first | assumption | omega | rfl) (fun j hj => by rw [show j = 0 by omega, uN_s]; rfl) (Nat.lt_succ_self _) _ _ _ hP hD hS (lv_sub hl [0, 1] rfl)
abbrev q_X8_worthOf (D : va_G) (Y : Nat → ClassId) (o : Nat) (ob : Nat) (on : Nat) (ow8 : Nat) (os : Nat) (oe : Nat) (oi : Nat) (op : Nat) (oz : Nat) (oc8 : Nat) (oq : Nat) (om : Nat) (oy : Nat) (og : Nat) (ok8 : Nat) (sc8 : Nat) (cn8 : Nat) (bt : Nat) (a8 : Nat) (rs8 : Int32) (gA : Option Nat) (gR : Option Nat) (gr : Nat → Nat) (hol : Nat) : (Nat → Prop) → Array Value → State → Outcome → State → Prop := mv_Qi D Y (fun (r : Int32) (_ : Unit) => r = nI (nimV hol)) (fun _ : Unit => ([(o, .inr (8, [.ref ob, .ref on, .ref ow8, .ref os, .ref oe, .int (nI sc8), .ref oi, .int (nI cn8), .ref op, .int (nI bt), .int (oI gA), .int (oI gR), .int rs8, .int (nI a8), .ref oz, .ref oc8, .ref oq, .ref om, .ref oy, .ref og, .ref ok8])), (oq, .inl (Y 0, 17, .inl (aN gr)))] : va_W))
set_option maxHeartbeats 4000000 in
set_option maxRecDepth 100000 in
theorem c_X8_worthOf (l : Launch) (D : va_G) (Y : Nat → ClassId) (sz : Nat) (o : Nat) (ob : Nat) (on : Nat) (ow8 : Nat) (os : Nat) (oe : Nat) (oi : Nat) (op : Nat) (oz : Nat) (oc8 : Nat) (oq : Nat) (om : Nat) (oy : Nat) (og : Nat) (ok8 : Nat) (sc8 : Nat) (cn8 : Nat) (bt : Nat) (a8 : Nat) (rs8 : Int32) (gA : Option Nat) (gR : Option Nat) (gr : Nat → Nat) (hol : Nat) (hh : hol < 65536) (hrw : ∀ j, j ≤ 16 → gr j = nmL j) : mv_C l D Y yX8_worthOf cX8_worthOf 5 (some .int) 1 0 0 [.ref o, .int (nI hol)] sz [(o, .inr (8, [.ref ob, .ref on, .ref ow8, .ref os, .ref oe, .int (nI sc8), .ref oi, .int (nI cn8), .ref op, .int (nI bt), .int (oI gA), .int (oI gR), .int rs8, .int (nI a8), .ref oz, .ref oc8, .ref oq, .ref om, .ref oy, .ref og, .ref ok8])), (oq, .inl (Y 0, 17, .inl (aN gr)))] (q_X8_worthOf D Y o ob on ow8 os oe oi op oz oc8 oq om oy og ok8 sc8 cn8 bt a8 rs8 gA gR gr hol) := by
  refine mv_ofW (by decide) (Nat.le_of_ble_eq_true rfl) ?_
  intro p e s m below meth c ls A hx hb hr hlocks hml hnm hown hts hsz hAe hP hK hD hS hST hA hl
  have hl : lv_has ls 5 [(0, .ref o), (1, .int (nI hol))] := hl
  have L7 : ∀ (fu : Nat) (k : Nat) (al : Nat) (n9 : Nat) (hk : k ≤ 17) (hal : al = (nimS hol k).1) (hn : n9 = (nimS hol k).2) (hmeas : 17 - k < fu) (H : Heap) (locs : List Loc) (ls : Array Slot), va_P D vwCl [(o, .inr (8, [.ref ob, .ref on, .ref ow8, .ref os, .ref oe, .int (nI sc8), .ref oi, .int (nI cn8), .ref op, .int (nI bt), .int (oI gA), .int (oI gR), .int rs8, .int (nI a8), .ref oz, .ref oc8, .ref oq, .ref om, .ref oy, .ref og, .ref ok8])), (oq, .inl (Y 0, 17, .inl (aN gr)))] H → va_D A [(o, .inr (8, [.ref ob, .ref on, .ref ow8, .ref os, .ref oe, .int (nI sc8), .ref oi, .int (nI cn8), .ref op, .int (nI bt), .int (oI gA), .int (oI gR), .int rs8, .int (nI a8), .ref oz, .ref oc8, .ref oq, .ref om, .ref oy, .ref og, .ref ok8])), (oq, .inl (Y 0, 17, .inl (aN gr)))] → va_S A s.heap H locs → lv_has ls 5 [(4, .int (nI k)), (2, .int (nI al)), (3, .int (nI n9)), (0, .ref o), (1, .int (nI hol))] → W p l e (mv_R 1 0 0) s m [.ref o, .int (nI hol)].toArray below meth c H locs 0 0 (MQ below ((q_X8_worthOf D Y o ob on ow8 os oe oi op oz oc8 oq om oy og ok8 sc8 cn8 bt a8 rs8 gA gR gr hol) A) [.ref o, .int (nI hol)].toArray s 0 0 A) (F0 m 7 ls []) := by
    intro fu
    induction fu with
    | zero =>
      intro k al n9 hk hal hn hmeas
      exact absurd hmeas (Nat.not_lt_zero _)
    | succ fu L7ih =>
      intro k al n9 hk hal hn hmeas H locs ls hP hD hS hl
      have hnb := (nimS_bd hol k).2
      rw [← hn] at hnb
      refine lv_iload hx hb dX8_worthOf_7 (lv_at hl 0 rfl) ?_
      refine lv_bipush (v := nI 17) hx hb dX8_worthOf_9 (by decide) ?_
      refine mv_icmp_ge (tgt := 46) hx hb (by first | omega | exact Nat.lt_trans (Nat.mod_lt _ (by decide)) (by decide)) (by omega) dX8_worthOf_11 (by decide) (fun c11 => ?_) (fun c11 => ?_)
      · skip
        refine lv_iload_n hx hb dX8_worthOf_46 rfl (lv_at hl 1 rfl) ?_
        exact mv_iret hx hb hr hlocks () (by rw [hal, show k = 17 by omega, nimS_17 hh]) hP hK hD hS dX8_worthOf_47
      · skip
        refine lv_iload_n hx hb dX8_worthOf_14 rfl (lv_at hl 4 rfl) ?_
        refine lv_iload hx hb dX8_worthOf_15 (lv_at hl 0 rfl) ?_
        refine mv_callSi (nA := 2) (As := [.int (nI hol), .int (nI k)]) (rest := []) (Wc := []) (wr := [(o, .inr (8, [.ref ob, .ref on, .ref ow8, .ref os, .ref oe, .int (nI sc8), .ref oi, .int (nI cn8), .ref op, .int (nI bt), .int (oI gA), .int (oI gR), .int rs8, .int (nI a8), .ref oz, .ref oc8, .ref oq, .ref om, .ref oy, .ref og, .ref ok8])), (oq, .inl (Y 0, 17, .inl (aN gr)))]) hx hb hml hown hts hK hP hD hS hST hA hl.1 (c_X8_has l D Y _ hol k (by first | assumption | omega | rfl) (by first | assumption | omega | rfl)) [] [0, 1] rfl rfl (by decide) (by decide) (by decide) rfl mw_334 mw_335 mw_5 mw_336 ⟨by decide, by decide, by decide +kernel⟩ rfl ⟨Nat.le_of_ble_eq_true rfl, Nat.le_of_ble_eq_true rfl⟩ rfl (Nat.le_of_ble_eq_true rfl) dX8_worthOf_17 ⟨Nat.le_of_ble_eq_true rfl, Nat.le_of_ble_eq_true rfl⟩ (fun r_1 ux H locs hr17 hP hD hS hz17 => ?_)
        have hP := hP.sub (ws' := [(o, .inr (8, [.ref ob, .ref on, .ref ow8, .ref os, .ref oe, .int (nI sc8), .ref oi, .int (nI cn8), .ref op, .int (nI bt), .int (oI gA), .int (oI gR), .int rs8, .int (nI a8), .ref oz, .ref oc8, .ref oq, .ref om, .ref oy, .ref og, .ref ok8])), (oq, .inl (Y 0, 17, .inl (aN gr)))]) [0, 1] rfl
        have hD := hD.sub (ws' := [(o, .inr (8, [.ref ob, .ref on, .ref ow8, .ref os, .ref oe, .int (nI sc8), .ref oi, .int (nI cn8), .ref op, .int (nI bt), .int (oI gA), .int (oI gR), .int rs8, .int (nI a8), .ref oz, .ref oc8, .ref oq, .ref om, .ref oy, .ref og, .ref ok8])), (oq, .inl (Y 0, 17, .inl (aN gr)))]) [0, 1] (by decide) rfl
        have hr17 : r_1 = nI (hol / 2 ^ k % 2) := hr17
        subst hr17
        refine mv_if_eq (tgt := 29) hx hb (by first | omega | exact Nat.lt_trans (Nat.mod_lt _ (by decide)) (by decide)) dX8_worthOf_20 (by decide) (fun c20 => ?_) (fun c20 => ?_)
        · skip
          refine lv_iload_n hx hb dX8_worthOf_29 rfl (lv_at hl 1 rfl) ?_
          refine lv_aload_n hx hb dX8_worthOf_30 rfl (lv_at hl 3 rfl) ?_
          refine va_get (D := D) (ci := 8) (v := .ref oq) (C := RX8) (T := TX8) (N := 21) hx hb hts inlX8 hown hK hP 0 rfl rfl 16 (by decide) (hts _ mw_92) (fun _ h9 => h9) rfl dX8_worthOf_31 ?_
          refine lv_iload_n hx hb dX8_worthOf_34 rfl (lv_at hl 2 rfl) ?_
          refine mv_iald hx hb hK hP 1 rfl (i := n9) (by omega) (by decide) dX8_worthOf_35 ?_
          refine mv_ixor hx hb dX8_worthOf_36 ?_
          refine lv_istore_n (lv' := [(2, .int (nI (al ^^^ (gr n9)))), (4, .int (nI k)), (3, .int (nI n9)), (0, .ref o), (1, .int (nI hol))]) hx hb dX8_worthOf_37 rfl hl (by decide) rfl (fun ls hl => ?_)
          refine lv_iconst (v := nI 0) hx hb dX8_worthOf_38 (by decide) ?_
          refine lv_istore_n (lv' := [(3, .int (nI 0)), (2, .int (nI (al ^^^ (gr n9)))), (4, .int (nI k)), (0, .ref o), (1, .int (nI hol))]) hx hb dX8_worthOf_39 rfl hl (by decide) rfl (fun ls hl => ?_)
          refine lv_iinc (v := nI (k + 1)) (lv' := [(4, .int (nI (k + 1))), (3, .int (nI 0)), (2, .int (nI (al ^^^ (gr n9)))), (0, .ref o), (1, .int (nI hol))]) hx hb dX8_worthOf_40 hl (k := 2) rfl (by exact nI_add _ 1) (by decide) rfl (fun ls hl => ?_)
          refine lv_goto (tgt := 7) hx hb dX8_worthOf_43 (by decide) ?_
          exact L7ih  (k + 1) (al ^^^ (gr n9)) 0 (by first | assumption | omega | rfl) (by rw [nimS, if_neg (by omega), hal, hrw n9 (by omega), hn]) (by rw [nimS, if_neg (by omega)]) (by omega) _ _ _ hP hD hS (lv_sub hl [0, 2, 1, 3, 4] rfl)
        · skip
          refine lv_iinc (v := nI (n9 + 1)) (lv' := [(3, .int (nI (n9 + 1))), (4, .int (nI k)), (2, .int (nI al)), (0, .ref o), (1, .int (nI hol))]) hx hb dX8_worthOf_23 hl (k := 2) rfl (by exact nI_add _ 1) (by decide) rfl (fun ls hl => ?_)
          refine lv_goto (tgt := 40) hx hb dX8_worthOf_26 (by decide) ?_
          refine lv_iinc (v := nI (k + 1)) (lv' := [(4, .int (nI (k + 1))), (3, .int (nI (n9 + 1))), (2, .int (nI al)), (0, .ref o), (1, .int (nI hol))]) hx hb dX8_worthOf_40 hl (k := 1) rfl (by exact nI_add _ 1) (by decide) rfl (fun ls hl => ?_)
          refine lv_goto (tgt := 7) hx hb dX8_worthOf_43 (by decide) ?_
          exact L7ih  (k + 1) al (n9 + 1) (by first | assumption | omega | rfl) (by rw [nimS, if_pos (by omega)]; exact hal) (by rw [nimS, if_pos (by omega), hn]) (by omega) _ _ _ hP hD hS (lv_sub hl [0, 2, 1, 3, 4] rfl)
  refine lv_iconst (v := nI 0) hx hb dX8_worthOf_0 (by decide) ?_
  refine lv_istore_n (lv' := [(2, .int (nI 0)), (0, .ref o), (1, .int (nI hol))]) hx hb dX8_worthOf_1 rfl hl (by decide) rfl (fun ls hl => ?_)
  refine lv_iconst (v := nI 0) hx hb dX8_worthOf_2 (by decide) ?_
  refine lv_istore_n (lv' := [(3, .int (nI 0)), (2, .int (nI 0)), (0, .ref o), (1, .int (nI hol))]) hx hb dX8_worthOf_3 rfl hl (by decide) rfl (fun ls hl => ?_)
  refine lv_iconst (v := nI 0) hx hb dX8_worthOf_4 (by decide) ?_
  refine lv_istore (lv' := [(4, .int (nI 0)), (3, .int (nI 0)), (2, .int (nI 0)), (0, .ref o), (1, .int (nI hol))]) hx hb dX8_worthOf_5 hl (by decide) rfl (fun ls hl => ?_)
  exact L7 (17 - 0 + 1) 0 0 0 (by first | assumption | omega | rfl) (rfl) (rfl) (Nat.lt_succ_self _) _ _ _ hP hD hS (lv_sub hl [0, 2, 1, 3, 4] rfl)
abbrev q_X8_darns (D : va_G) (Y : Nat → ClassId) (o : Nat) (ob : Nat) (on : Nat) (ow8 : Nat) (os : Nat) (oe : Nat) (oi : Nat) (op : Nat) (oz : Nat) (oc8 : Nat) (oq : Nat) (om : Nat) (oy : Nat) (og : Nat) (ok8 : Nat) (sc8 : Nat) (cn8 : Nat) (bt : Nat) (a8 : Nat) (rs8 : Int32) (gA : Option Nat) (gR : Option Nat) (gh : Nat → Nat) (gca : Nat → Nat) (gun : Nat → Nat) (prs : Nat) (yrs : Nat) (gr : Nat → Nat) (gm : Nat → Nat) (x1 : Int32) (x2 : Int32) : (Nat → Prop) → Array Value → State → Outcome → State → Prop := mv_Qi D Y (fun (r : Int32) (ux : (Nat → Nat) × (Nat → Nat)) => r = sp_darns gh x1 x2) (fun ux : (Nat → Nat) × (Nat → Nat) => ([(o, .inr (8, [.ref ob, .ref on, .ref ow8, .ref os, .ref oe, .int (nI sc8), .ref oi, .int (nI cn8), .ref op, .int (nI bt), .int (oI gA), .int (oI gR), .int rs8, .int (nI a8), .ref oz, .ref oc8, .ref oq, .ref om, .ref oy, .ref og, .ref ok8])), (ob, .inl (Y 0, 24, .inl (aN (bk gh gca gun prs yrs)))), (oq, .inl (Y 0, 17, .inl (aN ux.1))), (om, .inl (Y 2, 40, .inl (aN ux.2)))] : va_W))
set_option maxHeartbeats 8000000 in
set_option maxRecDepth 100000 in
theorem c_X8_darns (l : Launch) (D : va_G) (Y : Nat → ClassId) (sz : Nat) (o : Nat) (ob : Nat) (on : Nat) (ow8 : Nat) (os : Nat) (oe : Nat) (oi : Nat) (op : Nat) (oz : Nat) (oc8 : Nat) (oq : Nat) (om : Nat) (oy : Nat) (og : Nat) (ok8 : Nat) (sc8 : Nat) (cn8 : Nat) (bt : Nat) (a8 : Nat) (rs8 : Int32) (gA : Option Nat) (gR : Option Nat) (gh : Nat → Nat) (gca : Nat → Nat) (gun : Nat → Nat) (prs : Nat) (yrs : Nat) (gr : Nat → Nat) (gm : Nat → Nat) (x1 : Int32) (x2 : Int32) (hh : ∀ k, k < 6 → gh k < 65536) : mv_C l D Y yX8_darns cX8_darns 6 (some .int) 2 0 0 [.ref o, .int x1, .int x2] sz [(o, .inr (8, [.ref ob, .ref on, .ref ow8, .ref os, .ref oe, .int (nI sc8), .ref oi, .int (nI cn8), .ref op, .int (nI bt), .int (oI gA), .int (oI gR), .int rs8, .int (nI a8), .ref oz, .ref oc8, .ref oq, .ref om, .ref oy, .ref og, .ref ok8])), (ob, .inl (Y 0, 24, .inl (aN (bk gh gca gun prs yrs)))), (oq, .inl (Y 0, 17, .inl (aN gr))), (om, .inl (Y 2, 40, .inl (aN gm)))] (q_X8_darns D Y o ob on ow8 os oe oi op oz oc8 oq om oy og ok8 sc8 cn8 bt a8 rs8 gA gR gh gca gun prs yrs gr gm x1 x2) := by
  refine mv_ofW (by decide) (Nat.le_of_ble_eq_true rfl) ?_
  intro p e s m below meth c ls A hx hb hr hlocks hml hnm hown hts hsz hAe hP hK hD hS hST hA hl
  have hl : lv_has ls 6 [(0, .ref o), (1, .int x1), (2, .int x2)] := hl
  have L32 : ∀ (fu : Nat) (kx1 : Nat) (kx2 : Nat) (cc : Nat) (fd : Option Nat) (gz : Nat → Nat) (gy : Nat → Nat) (e1 : x1 = nI kx1) (hi1 : kx1 ≤ 5) (e2 : x2 = nI kx2) (hi2 : kx2 ≤ 1) (hc : cc ≤ 16) (hrw : ∀ j, j ≤ 16 → gz j = nmL j) (hfd : fd = wdS (gh kx1) (16 - cc) cc) (hmeas : cc < fu) (H : Heap) (locs : List Loc) (ls : Array Slot), va_P D vwCl [(o, .inr (8, [.ref ob, .ref on, .ref ow8, .ref os, .ref oe, .int (nI sc8), .ref oi, .int (nI cn8), .ref op, .int (nI bt), .int (oI gA), .int (oI gR), .int rs8, .int (nI a8), .ref oz, .ref oc8, .ref oq, .ref om, .ref oy, .ref og, .ref ok8])), (ob, .inl (Y 0, 24, .inl (aN (bk gh gca gun prs yrs)))), (oq, .inl (Y 0, 17, .inl (aN gz))), (om, .inl (Y 2, 40, .inl (aN gy)))] H → va_D A [(o, .inr (8, [.ref ob, .ref on, .ref ow8, .ref os, .ref oe, .int (nI sc8), .ref oi, .int (nI cn8), .ref op, .int (nI bt), .int (oI gA), .int (oI gR), .int rs8, .int (nI a8), .ref oz, .ref oc8, .ref oq, .ref om, .ref oy, .ref og, .ref ok8])), (ob, .inl (Y 0, 24, .inl (aN (bk gh gca gun prs yrs)))), (oq, .inl (Y 0, 17, .inl (aN gz))), (om, .inl (Y 2, 40, .inl (aN gy)))] → va_S A s.heap H locs → lv_has ls 6 [(3, .int (oI fd)), (4, .int (nI cc - nI 1)), (0, .ref o), (1, .int (nI kx1)), (2, .int (nI kx2))] → W p l e (mv_R 2 0 0) s m [.ref o, .int x1, .int x2].toArray below meth c H locs 0 0 (MQ below ((q_X8_darns D Y o ob on ow8 os oe oi op oz oc8 oq om oy og ok8 sc8 cn8 bt a8 rs8 gA gR gh gca gun prs yrs gr gm x1 x2) A) [.ref o, .int x1, .int x2].toArray s 0 0 A) (F0 m 32 ls []) := by
    intro fu
    induction fu with
    | zero =>
      intro kx1 kx2 cc fd gz gy e1 hi1 e2 hi2 hc hrw hfd hmeas
      exact absurd hmeas (Nat.not_lt_zero _)
    | succ fu L32ih =>
      intro kx1 kx2 cc fd gz gy e1 hi1 e2 hi2 hc hrw hfd hmeas H locs ls hP hD hS hl
      have hq1 : inQ (nI kx1) 0 5 = true := (inQ_nI (by omega) (by decide) (by decide)).trans (decide_eq_true ⟨by omega, by omega⟩)
      have hcl1 : (nI kx1).toNatClampNeg = kx1 := nI_clamp (by omega)
      have hq2 : inQ (nI kx2) 0 1 = true := (inQ_nI (by omega) (by decide) (by decide)).trans (decide_eq_true ⟨by omega, by omega⟩)
      have hcl2 : (nI kx2).toNatClampNeg = kx2 := nI_clamp (by omega)
      have hhk := hh kx1 (by omega)
      have L85 : ∀ (c2 : Nat) (f1 : Option Nat) (hc2 : cc = c2 + 1) (hf1 : f1 = if (gh kx1) &&& 3 * 2 ^ c2 = 3 * 2 ^ c2 ∧ nimV ((gh kx1) &&& (3 * 2 ^ c2 ^^^ 4294967295)) = 0 then some (2 * c2 + 1) else fd) (H : Heap) (locs : List Loc) (ls : Array Slot), va_P D vwCl [(o, .inr (8, [.ref ob, .ref on, .ref ow8, .ref os, .ref oe, .int (nI sc8), .ref oi, .int (nI cn8), .ref op, .int (nI bt), .int (oI gA), .int (oI gR), .int rs8, .int (nI a8), .ref oz, .ref oc8, .ref oq, .ref om, .ref oy, .ref og, .ref ok8])), (ob, .inl (Y 0, 24, .inl (aN (bk gh gca gun prs yrs)))), (oq, .inl (Y 0, 17, .inl (aN gz))), (om, .inl (Y 2, 40, .inl (aN gy)))] H → va_D A [(o, .inr (8, [.ref ob, .ref on, .ref ow8, .ref os, .ref oe, .int (nI sc8), .ref oi, .int (nI cn8), .ref op, .int (nI bt), .int (oI gA), .int (oI gR), .int rs8, .int (nI a8), .ref oz, .ref oc8, .ref oq, .ref om, .ref oy, .ref og, .ref ok8])), (ob, .inl (Y 0, 24, .inl (aN (bk gh gca gun prs yrs)))), (oq, .inl (Y 0, 17, .inl (aN gz))), (om, .inl (Y 2, 40, .inl (aN gy)))] → va_S A s.heap H locs → lv_has ls 6 [(4, .int (nI c2)), (0, .ref o), (1, .int (nI kx1)), (2, .int (nI kx2))] → W p l e (mv_R 2 0 0) s m [.ref o, .int x1, .int x2].toArray below meth c H locs 0 0 (MQ below ((q_X8_darns D Y o ob on ow8 os oe oi op oz oc8 oq om oy og ok8 sc8 cn8 bt a8 rs8 gA gR gh gca gun prs yrs gr gm x1 x2) A) [.ref o, .int x1, .int x2].toArray s 0 0 A) (F0 m 85 ls [.int (oI f1)]) := by
        intro c2 f1 hc2 hf1 H locs ls hP hD hS hl
        have L128 : ∀ (f2 : Option Nat) (hf2 : f2 = wdS (gh kx1) (16 - c2) c2) (H : Heap) (locs : List Loc) (ls : Array Slot), va_P D vwCl [(o, .inr (8, [.ref ob, .ref on, .ref ow8, .ref os, .ref oe, .int (nI sc8), .ref oi, .int (nI cn8), .ref op, .int (nI bt), .int (oI gA), .int (oI gR), .int rs8, .int (nI a8), .ref oz, .ref oc8, .ref oq, .ref om, .ref oy, .ref og, .ref ok8])), (ob, .inl (Y 0, 24, .inl (aN (bk gh gca gun prs yrs)))), (oq, .inl (Y 0, 17, .inl (aN gz))), (om, .inl (Y 2, 40, .inl (aN gy)))] H → va_D A [(o, .inr (8, [.ref ob, .ref on, .ref ow8, .ref os, .ref oe, .int (nI sc8), .ref oi, .int (nI cn8), .ref op, .int (nI bt), .int (oI gA), .int (oI gR), .int rs8, .int (nI a8), .ref oz, .ref oc8, .ref oq, .ref om, .ref oy, .ref og, .ref ok8])), (ob, .inl (Y 0, 24, .inl (aN (bk gh gca gun prs yrs)))), (oq, .inl (Y 0, 17, .inl (aN gz))), (om, .inl (Y 2, 40, .inl (aN gy)))] → va_S A s.heap H locs → lv_has ls 6 [(4, .int (nI c2)), (0, .ref o), (1, .int (nI kx1)), (2, .int (nI kx2))] → W p l e (mv_R 2 0 0) s m [.ref o, .int x1, .int x2].toArray below meth c H locs 0 0 (MQ below ((q_X8_darns D Y o ob on ow8 os oe oi op oz oc8 oq om oy og ok8 sc8 cn8 bt a8 rs8 gA gR gh gca gun prs yrs gr gm x1 x2) A) [.ref o, .int x1, .int x2].toArray s 0 0 A) (F0 m 128 ls [.int (oI f2)]) := by
          intro f2 hf2 H locs ls hP hD hS hl
          refine lv_istore_n (lv' := [(3, .int (oI f2)), (4, .int (nI c2)), (0, .ref o), (1, .int (nI kx1)), (2, .int (nI kx2))]) hx hb dX8_darns_128 rfl hl (by decide) rfl (fun ls hl => ?_)
          refine lv_iinc (v := nI c2 - nI 1) (lv' := [(4, .int (nI c2 - nI 1)), (3, .int (oI f2)), (0, .ref o), (1, .int (nI kx1)), (2, .int (nI kx2))]) hx hb dX8_darns_129 hl (k := 1) rfl (dec_sub _) (by decide) rfl (fun ls hl => ?_)
          refine lv_goto (tgt := 32) hx hb dX8_darns_132 (by decide) ?_
          exact L32ih  kx1 kx2 c2 f2 gz gy (by first | assumption | omega | rfl) (by first | assumption | omega | rfl) (by first | assumption | omega | rfl) (by first | assumption | omega | rfl) (by first | assumption | omega | rfl) (by first | assumption | omega | rfl) (hf2) (by omega) _ _ _ hP hD hS (lv_sub hl [1, 0, 2, 3, 4] rfl)
        refine lv_istore_n (lv' := [(3, .int (oI f1)), (4, .int (nI c2)), (0, .ref o), (1, .int (nI kx1)), (2, .int (nI kx2))]) hx hb dX8_darns_85 rfl hl (by decide) rfl (fun ls hl => ?_)
        refine lv_aload_n hx hb dX8_darns_86 rfl (lv_at hl 2 rfl) ?_
        refine va_get (D := D) (ci := 8) (v := .ref ob) (C := RX8) (T := TX8) (N := 21) hx hb hts inlX8 hown hK hP 0 rfl rfl 0 (by decide) (hts _ mw_83) (fun _ h9 => h9) rfl dX8_darns_87 ?_
        refine lv_iload_n hx hb dX8_darns_90 rfl (lv_at hl 3 rfl) ?_
        refine mv_iald hx hb hK hP 1 rfl (i := kx1) (by omega) (by decide) dX8_darns_91 ?_
        rw [show (bk gh gca gun prs yrs) kx1 = gh kx1 from bk_h (by omega)]
        refine lv_iload hx hb dX8_darns_92 (lv_at hl 1 rfl) ?_
        refine mv_callSi (nA := 2) (As := [.int (nI (gh kx1)), .int (nI c2)]) (rest := []) (Wc := []) (wr := [(o, .inr (8, [.ref ob, .ref on, .ref ow8, .ref os, .ref oe, .int (nI sc8), .ref oi, .int (nI cn8), .ref op, .int (nI bt), .int (oI gA), .int (oI gR), .int rs8, .int (nI a8), .ref oz, .ref oc8, .ref oq, .ref om, .ref oy, .ref og, .ref ok8])), (ob, .inl (Y 0, 24, .inl (aN (bk gh gca gun prs yrs)))), (oq, .inl (Y 0, 17, .inl (aN gz))), (om, .inl (Y 2, 40, .inl (aN gy)))]) hx hb hml hown hts hK hP hD hS hST hA hl.1 (c_X8_has l D Y _ (gh kx1) c2 (by omega) (by omega)) [] [0, 1, 2, 3] rfl rfl (by decide) (by decide) (by decide) rfl mw_334 mw_335 mw_5 mw_336 ⟨by decide, by decide, by decide +kernel⟩ rfl ⟨Nat.le_of_ble_eq_true rfl, Nat.le_of_ble_eq_true rfl⟩ rfl (Nat.le_of_ble_eq_true rfl) dX8_darns_94 ⟨Nat.le_of_ble_eq_true rfl, Nat.le_of_ble_eq_true rfl⟩ (fun r_1 ux H locs hr94 hP hD hS hz94 => ?_)
        have hP := hP.sub (ws' := [(o, .inr (8, [.ref ob, .ref on, .ref ow8, .ref os, .ref oe, .int (nI sc8), .ref oi, .int (nI cn8), .ref op, .int (nI bt), .int (oI gA), .int (oI gR), .int rs8, .int (nI a8), .ref oz, .ref oc8, .ref oq, .ref om, .ref oy, .ref og, .ref ok8])), (ob, .inl (Y 0, 24, .inl (aN (bk gh gca gun prs yrs)))), (oq, .inl (Y 0, 17, .inl (aN gz))), (om, .inl (Y 2, 40, .inl (aN gy)))]) [0, 1, 2, 3] rfl
        have hD := hD.sub (ws' := [(o, .inr (8, [.ref ob, .ref on, .ref ow8, .ref os, .ref oe, .int (nI sc8), .ref oi, .int (nI cn8), .ref op, .int (nI bt), .int (oI gA), .int (oI gR), .int rs8, .int (nI a8), .ref oz, .ref oc8, .ref oq, .ref om, .ref oy, .ref og, .ref ok8])), (ob, .inl (Y 0, 24, .inl (aN (bk gh gca gun prs yrs)))), (oq, .inl (Y 0, 17, .inl (aN gz))), (om, .inl (Y 2, 40, .inl (aN gy)))]) [0, 1, 2, 3] (by decide) rfl
        have hr94 : r_1 = nI ((gh kx1) / 2 ^ c2 % 2) := hr94
        subst hr94
        refine mv_if_eq (tgt := 127) hx hb (by first | omega | exact Nat.lt_trans (bN_lt _) (by decide) | exact Nat.lt_of_le_of_lt Nat.and_le_left (by omega) | exact Nat.lt_trans (nimV_lt _) (by decide) | exact Nat.lt_trans (Nat.mod_lt _ (by decide)) (by decide)) dX8_darns_97 (by decide) (fun c97 => ?_) (fun c97 => ?_)
        · skip
          refine lv_iload_n hx hb dX8_darns_127 rfl (lv_at hl 0 rfl) ?_
          exact L128  f1 (by rw [wd_step (by omega), if_neg (fun q => by omega), hf1, hfd, hc2]) _ _ _ hP hD hS (lv_sub hl [1, 2, 3, 4] rfl)
        · skip
          refine lv_aload_n hx hb dX8_darns_100 rfl (lv_at hl 2 rfl) ?_
          refine lv_aload_n hx hb dX8_darns_101 rfl (lv_at hl 2 rfl) ?_
          refine va_get (D := D) (ci := 8) (v := .ref ob) (C := RX8) (T := TX8) (N := 21) hx hb hts inlX8 hown hK hP 0 rfl rfl 0 (by decide) (hts _ mw_83) (fun _ h9 => h9) rfl dX8_darns_102 ?_
          refine lv_iload_n hx hb dX8_darns_105 rfl (lv_at hl 3 rfl) ?_
          refine mv_iald hx hb hK hP 1 rfl (i := kx1) (by omega) (by decide) dX8_darns_106 ?_
          rw [show (bk gh gca gun prs yrs) kx1 = gh kx1 from bk_h (by omega)]
          refine lv_iconst (v := nI 1) hx hb dX8_darns_107 (by decide) ?_
          refine lv_iload hx hb dX8_darns_108 (lv_at hl 1 rfl) ?_
          refine mv_ishl hx hb (by omega) dX8_darns_110 ?_
          refine lv_iconst (v := nI 4294967295) hx hb dX8_darns_111 (by decide) ?_
          refine mv_ixor hx hb dX8_darns_112 ?_
          refine mv_iand hx hb dX8_darns_113 ?_
          refine mv_callVi (nA := 1) (As := [.int (nI ((gh kx1) &&& ((1 * 2 ^ c2) ^^^ 4294967295)))]) (rest := []) (Wc := [(o, .inr (8, [.ref ob, .ref on, .ref ow8, .ref os, .ref oe, .int (nI sc8), .ref oi, .int (nI cn8), .ref op, .int (nI bt), .int (oI gA), .int (oI gR), .int rs8, .int (nI a8), .ref oz, .ref oc8, .ref oq, .ref om, .ref oy, .ref og, .ref ok8])), (oq, .inl (Y 0, 17, .inl (aN gz)))]) (wr := [(ob, .inl (Y 0, 24, .inl (aN (bk gh gca gun prs yrs)))), (om, .inl (Y 2, 40, .inl (aN gy)))]) hx hb hml hown hts hK hP hD hS hST hA hl.1 (c_X8_worthOf l D Y _ o ob on ow8 os oe oi op oz oc8 oq om oy og ok8 sc8 cn8 bt a8 rs8 gA gR gz ((gh kx1) &&& ((1 * 2 ^ c2) ^^^ 4294967295)) (Nat.lt_of_le_of_lt Nat.and_le_left hhk) (by first | assumption | omega | rfl)) [0, 2] [1, 3] rfl rfl (by decide) (by decide) (by decide) rfl 0 rfl rfl rfl mw_576 mw_577 mw_578 mw_5 mw_579 ⟨by decide, by decide, by decide +kernel⟩ rfl ⟨Nat.le_of_ble_eq_true rfl, Nat.le_of_ble_eq_true rfl⟩ rfl (Nat.le_of_ble_eq_true rfl) dX8_darns_114 ⟨Nat.le_of_ble_eq_true rfl, Nat.le_of_ble_eq_true rfl⟩ (fun r_2 ux H locs hr114 hP hD hS hz114 => ?_)
          have hP := hP.sub (ws' := [(o, .inr (8, [.ref ob, .ref on, .ref ow8, .ref os, .ref oe, .int (nI sc8), .ref oi, .int (nI cn8), .ref op, .int (nI bt), .int (oI gA), .int (oI gR), .int rs8, .int (nI a8), .ref oz, .ref oc8, .ref oq, .ref om, .ref oy, .ref og, .ref ok8])), (ob, .inl (Y 0, 24, .inl (aN (bk gh gca gun prs yrs)))), (oq, .inl (Y 0, 17, .inl (aN gz))), (om, .inl (Y 2, 40, .inl (aN gy)))]) [2, 0, 3, 1] rfl
          have hD := hD.sub (ws' := [(o, .inr (8, [.ref ob, .ref on, .ref ow8, .ref os, .ref oe, .int (nI sc8), .ref oi, .int (nI cn8), .ref op, .int (nI bt), .int (oI gA), .int (oI gR), .int rs8, .int (nI a8), .ref oz, .ref oc8, .ref oq, .ref om, .ref oy, .ref og, .ref ok8])), (ob, .inl (Y 0, 24, .inl (aN (bk gh gca gun prs yrs)))), (oq, .inl (Y 0, 17, .inl (aN gz))), (om, .inl (Y 2, 40, .inl (aN gy)))]) [2, 0, 3, 1] (by decide) rfl
          have hr114 : r_2 = nI (nimV ((gh kx1) &&& ((1 * 2 ^ c2) ^^^ 4294967295))) := hr114
          subst hr114
          refine mv_if_ne (tgt := 127) hx hb (by first | omega | exact Nat.lt_trans (bN_lt _) (by decide) | exact Nat.lt_of_le_of_lt Nat.and_le_left (by omega) | exact Nat.lt_trans (nimV_lt _) (by decide) | exact Nat.lt_trans (Nat.mod_lt _ (by decide)) (by decide)) dX8_darns_117 (by decide) (fun c117 => ?_) (fun c117 => ?_)
          · skip
            refine lv_iload_n hx hb dX8_darns_127 rfl (lv_at hl 0 rfl) ?_
            exact L128  f1 (by rw [wd_step (by omega), if_neg (fun q => c117 q.2), hf1, hfd, hc2]) _ _ _ hP hD hS (lv_sub hl [1, 2, 3, 4] rfl)
          · skip
            refine lv_iconst (v := nI 2) hx hb dX8_darns_120 (by decide) ?_
            refine lv_iload hx hb dX8_darns_121 (lv_at hl 1 rfl) ?_
            refine mv_imul hx hb dX8_darns_123 ?_
            refine lv_goto (tgt := 128) hx hb dX8_darns_124 (by decide) ?_
            exact L128  (some (2 * c2)) (by rw [wd_step (by omega), if_pos ⟨by omega, by omega⟩]) _ _ _ hP hD hS (lv_sub hl [1, 2, 3, 4] rfl)
      refine lv_iload hx hb dX8_darns_32 (lv_at hl 1 rfl) ?_
      refine lv_if_lt (tgt := 135) hx hb dX8_darns_34 (by decide) (fun c34 => ?_) (fun c34 => ?_)
      · skip
        have hc0 : cc = 0 := (sub1_neg (by omega)).mp c34
        rw [hc0] at hfd
        have hbd := wdS_bd (gh kx1) 16 0
        refine lv_iload_n hx hb dX8_darns_135 rfl (lv_at hl 4 rfl) ?_
        refine lv_iconst (v := nI 1) hx hb dX8_darns_136 (by decide) ?_
        refine mv_icmp_ne (tgt := 144) hx hb (by first | omega | exact Nat.lt_trans (bN_lt _) (by decide) | exact Nat.lt_of_le_of_lt Nat.and_le_left (by omega) | exact Nat.lt_trans (nimV_lt _) (by decide) | exact Nat.lt_trans (Nat.mod_lt _ (by decide)) (by decide)) (by omega) dX8_darns_137 (by decide) (fun c137 => ?_) (fun c137 => ?_)
        · skip
          refine lv_iload_n hx hb dX8_darns_144 rfl (lv_at hl 0 rfl) ?_
          refine lv_if_ge (tgt := 152) hx hb dX8_darns_145 (by decide) (fun c145 => ?_) (fun c145 => ?_)
          · skip
            have hfs : fd ≠ none := fun q => by rw [q] at c145; exact absurd c145 (by decide)
            refine lv_iconst (v := nI 1) hx hb dX8_darns_152 (by decide) ?_
            exact mv_iret hx hb hr hlocks (gz, gy) (by simp only [sp_darns, e1, hq1, hcl1, e2, hq2, hcl2, Bool.not_true, Bool.not_false, if_true, if_false, Bool.false_eq_true, reduceIte, Bool.true_and, Bool.and_true, Bool.false_and, Bool.and_false, Bool.or_false, Bool.or_true, ite_self] <;> (rw [if_neg (by omega), if_neg (fun q => hfs (hfd.trans q))])) hP hK hD hS dX8_darns_153
          · skip
            have hfn : fd = none := by rcases hq : fd with _ | v9; rfl; exact absurd (show oI fd < 0 by first | exact c145 | exact Int32.not_le.mp c145) (by rw [hq]; exact nI_pos (by have := hbd v9 (hfd.symm.trans hq); omega))
            refine lv_iconst (v := nI 0) hx hb dX8_darns_148 (by decide) ?_
            refine lv_goto (tgt := 153) hx hb dX8_darns_149 (by decide) ?_
            exact mv_iret hx hb hr hlocks (gz, gy) (by simp only [sp_darns, e1, hq1, hcl1, e2, hq2, hcl2, Bool.not_true, Bool.not_false, if_true, if_false, Bool.false_eq_true, reduceIte, Bool.true_and, Bool.and_true, Bool.false_and, Bool.and_false, Bool.or_false, Bool.or_true, ite_self] <;> (rw [if_neg (by omega), if_pos (hfd.symm.trans hfn)])) hP hK hD hS dX8_darns_153
        · skip
          refine lv_iload_n hx hb dX8_darns_140 rfl (lv_at hl 0 rfl) ?_
          refine lv_goto (tgt := 153) hx hb dX8_darns_141 (by decide) ?_
          exact mv_iret hx hb hr hlocks (gz, gy) (by simp only [sp_darns, e1, hq1, hcl1, e2, hq2, hcl2, Bool.not_true, Bool.not_false, if_true, if_false, Bool.false_eq_true, reduceIte, Bool.true_and, Bool.and_true, Bool.false_and, Bool.and_false, Bool.or_false, Bool.or_true, ite_self] <;> (rw [if_pos (by omega), hfd])) hP hK hD hS dX8_darns_153
      · skip
        obtain ⟨c2, rfl⟩ : ∃ z, cc = z + 1 := ⟨cc - 1, by rcases Nat.eq_zero_or_pos cc with q | q; exact absurd ((sub1_neg (by omega)).mpr q) c34; omega⟩
        have he9 : nI (c2 + 1) - nI 1 = nI c2 := (pk_sub (by omega)).trans (congrArg nI (by omega))
        rw [he9] at hl
        have h3 := three_lt (show c2 < 16 by omega)
        refine lv_iconst (v := nI 3) hx hb dX8_darns_37 (by decide) ?_
        refine lv_iload hx hb dX8_darns_38 (lv_at hl 1 rfl) ?_
        refine mv_ishl hx hb (by omega) dX8_darns_40 ?_
        refine lv_istore (lv' := [(5, .int (nI (3 * 2 ^ c2))), (3, .int (oI fd)), (4, .int (nI c2)), (0, .ref o), (1, .int (nI kx1)), (2, .int (nI kx2))]) hx hb dX8_darns_41 hl (by decide) rfl (fun ls hl => ?_)
        refine lv_aload_n hx hb dX8_darns_43 rfl (lv_at hl 3 rfl) ?_
        refine va_get (D := D) (ci := 8) (v := .ref ob) (C := RX8) (T := TX8) (N := 21) hx hb hts inlX8 hown hK hP 0 rfl rfl 0 (by decide) (hts _ mw_83) (fun _ h9 => h9) rfl dX8_darns_44 ?_
        refine lv_iload_n hx hb dX8_darns_47 rfl (lv_at hl 4 rfl) ?_
        refine mv_iald hx hb hK hP 1 rfl (i := kx1) (by omega) (by decide) dX8_darns_48 ?_
        rw [show (bk gh gca gun prs yrs) kx1 = gh kx1 from bk_h (by omega)]
        refine lv_iload hx hb dX8_darns_49 (lv_at hl 0 rfl) ?_
        refine mv_iand hx hb dX8_darns_51 ?_
        refine lv_iload hx hb dX8_darns_52 (lv_at hl 0 rfl) ?_
        refine mv_icmp_ne (tgt := 84) hx hb (by first | omega | exact Nat.lt_trans (bN_lt _) (by decide) | exact Nat.lt_of_le_of_lt Nat.and_le_left (by omega) | exact Nat.lt_trans (nimV_lt _) (by decide) | exact Nat.lt_trans (Nat.mod_lt _ (by decide)) (by decide)) (by omega) dX8_darns_54 (by decide) (fun c54 => ?_) (fun c54 => ?_)
        · skip
          refine lv_iload_n hx hb dX8_darns_84 rfl (lv_at hl 1 rfl) ?_
          exact L85  c2 fd (by first | assumption | omega | rfl) ((if_neg (fun q => c54 q.1)).symm) _ _ _ hP hD hS (lv_sub hl [2, 3, 4, 5] rfl)
        · skip
          refine lv_aload_n hx hb dX8_darns_57 rfl (lv_at hl 3 rfl) ?_
          refine lv_aload_n hx hb dX8_darns_58 rfl (lv_at hl 3 rfl) ?_
          refine va_get (D := D) (ci := 8) (v := .ref ob) (C := RX8) (T := TX8) (N := 21) hx hb hts inlX8 hown hK hP 0 rfl rfl 0 (by decide) (hts _ mw_83) (fun _ h9 => h9) rfl dX8_darns_59 ?_
          refine lv_iload_n hx hb dX8_darns_62 rfl (lv_at hl 4 rfl) ?_
          refine mv_iald hx hb hK hP 1 rfl (i := kx1) (by omega) (by decide) dX8_darns_63 ?_
          rw [show (bk gh gca gun prs yrs) kx1 = gh kx1 from bk_h (by omega)]
          refine lv_iload hx hb dX8_darns_64 (lv_at hl 0 rfl) ?_
          refine lv_iconst (v := nI 4294967295) hx hb dX8_darns_66 (by decide) ?_
          refine mv_ixor hx hb dX8_darns_67 ?_
          refine mv_iand hx hb dX8_darns_68 ?_
          refine mv_callVi (nA := 1) (As := [.int (nI ((gh kx1) &&& ((3 * 2 ^ c2) ^^^ 4294967295)))]) (rest := []) (Wc := [(o, .inr (8, [.ref ob, .ref on, .ref ow8, .ref os, .ref oe, .int (nI sc8), .ref oi, .int (nI cn8), .ref op, .int (nI bt), .int (oI gA), .int (oI gR), .int rs8, .int (nI a8), .ref oz, .ref oc8, .ref oq, .ref om, .ref oy, .ref og, .ref ok8])), (oq, .inl (Y 0, 17, .inl (aN gz)))]) (wr := [(ob, .inl (Y 0, 24, .inl (aN (bk gh gca gun prs yrs)))), (om, .inl (Y 2, 40, .inl (aN gy)))]) hx hb hml hown hts hK hP hD hS hST hA hl.1 (c_X8_worthOf l D Y _ o ob on ow8 os oe oi op oz oc8 oq om oy og ok8 sc8 cn8 bt a8 rs8 gA gR gz ((gh kx1) &&& ((3 * 2 ^ c2) ^^^ 4294967295)) (Nat.lt_of_le_of_lt Nat.and_le_left hhk) (by first | assumption | omega | rfl)) [0, 2] [1, 3] rfl rfl (by decide) (by decide) (by decide) rfl 0 rfl rfl rfl mw_576 mw_577 mw_578 mw_5 mw_579 ⟨by decide, by decide, by decide +kernel⟩ rfl ⟨Nat.le_of_ble_eq_true rfl, Nat.le_of_ble_eq_true rfl⟩ rfl (Nat.le_of_ble_eq_true rfl) dX8_darns_69 ⟨Nat.le_of_ble_eq_true rfl, Nat.le_of_ble_eq_true rfl⟩ (fun r_3 ux H locs hr69 hP hD hS hz69 => ?_)
          have hP := hP.sub (ws' := [(o, .inr (8, [.ref ob, .ref on, .ref ow8, .ref os, .ref oe, .int (nI sc8), .ref oi, .int (nI cn8), .ref op, .int (nI bt), .int (oI gA), .int (oI gR), .int rs8, .int (nI a8), .ref oz, .ref oc8, .ref oq, .ref om, .ref oy, .ref og, .ref ok8])), (ob, .inl (Y 0, 24, .inl (aN (bk gh gca gun prs yrs)))), (oq, .inl (Y 0, 17, .inl (aN gz))), (om, .inl (Y 2, 40, .inl (aN gy)))]) [2, 0, 3, 1] rfl
          have hD := hD.sub (ws' := [(o, .inr (8, [.ref ob, .ref on, .ref ow8, .ref os, .ref oe, .int (nI sc8), .ref oi, .int (nI cn8), .ref op, .int (nI bt), .int (oI gA), .int (oI gR), .int rs8, .int (nI a8), .ref oz, .ref oc8, .ref oq, .ref om, .ref oy, .ref og, .ref ok8])), (ob, .inl (Y 0, 24, .inl (aN (bk gh gca gun prs yrs)))), (oq, .inl (Y 0, 17, .inl (aN gz))), (om, .inl (Y 2, 40, .inl (aN gy)))]) [2, 0, 3, 1] (by decide) rfl
          have hr69 : r_3 = nI (nimV ((gh kx1) &&& ((3 * 2 ^ c2) ^^^ 4294967295))) := hr69
          subst hr69
          refine mv_if_ne (tgt := 84) hx hb (by first | omega | exact Nat.lt_trans (bN_lt _) (by decide) | exact Nat.lt_of_le_of_lt Nat.and_le_left (by omega) | exact Nat.lt_trans (nimV_lt _) (by decide) | exact Nat.lt_trans (Nat.mod_lt _ (by decide)) (by decide)) dX8_darns_72 (by decide) (fun c72 => ?_) (fun c72 => ?_)
          · skip
            refine lv_iload_n hx hb dX8_darns_84 rfl (lv_at hl 1 rfl) ?_
            exact L85  c2 fd (by first | assumption | omega | rfl) ((if_neg (fun q => c72 q.2)).symm) _ _ _ hP hD hS (lv_sub hl [2, 3, 4, 5] rfl)
          · skip
            refine lv_iconst (v := nI 2) hx hb dX8_darns_75 (by decide) ?_
            refine lv_iload hx hb dX8_darns_76 (lv_at hl 2 rfl) ?_
            refine mv_imul hx hb dX8_darns_78 ?_
            refine lv_iconst (v := nI 1) hx hb dX8_darns_79 (by decide) ?_
            refine mv_iadd hx hb dX8_darns_80 ?_
            refine lv_goto (tgt := 85) hx hb dX8_darns_81 (by decide) ?_
            exact L85  c2 (some ((2 * c2) + 1)) (by first | assumption | omega | rfl) ((if_pos ⟨by first | exact c54 | exact Classical.not_not.mp c54, by omega⟩).symm) _ _ _ hP hD hS (lv_sub hl [2, 3, 4, 5] rfl)
  refine lv_iload_n hx hb dX8_darns_0 rfl (lv_at hl 1 rfl) ?_
  refine mv_callSi (nA := 1) (As := [.int x1]) (rest := []) (Wc := []) (wr := [(o, .inr (8, [.ref ob, .ref on, .ref ow8, .ref os, .ref oe, .int (nI sc8), .ref oi, .int (nI cn8), .ref op, .int (nI bt), .int (oI gA), .int (oI gR), .int rs8, .int (nI a8), .ref oz, .ref oc8, .ref oq, .ref om, .ref oy, .ref og, .ref ok8])), (ob, .inl (Y 0, 24, .inl (aN (bk gh gca gun prs yrs)))), (oq, .inl (Y 0, 17, .inl (aN gr))), (om, .inl (Y 2, 40, .inl (aN gm)))]) hx hb hml hown hts hK hP hD hS hST hA hl.1 (c_X8_isRobe l D Y _ x1 ) [] [0, 1, 2, 3] rfl rfl (by decide) (by decide) (by decide) rfl mw_118 mw_119 mw_5 mw_120 ⟨by decide, by decide, by decide +kernel⟩ rfl ⟨Nat.le_of_ble_eq_true rfl, Nat.le_of_ble_eq_true rfl⟩ rfl (Nat.le_of_ble_eq_true rfl) dX8_darns_1 ⟨Nat.le_of_ble_eq_true rfl, Nat.le_of_ble_eq_true rfl⟩ (fun r_4 ux H locs hr1 hP hD hS hz1 => ?_)
  have hP := hP.sub (ws' := [(o, .inr (8, [.ref ob, .ref on, .ref ow8, .ref os, .ref oe, .int (nI sc8), .ref oi, .int (nI cn8), .ref op, .int (nI bt), .int (oI gA), .int (oI gR), .int rs8, .int (nI a8), .ref oz, .ref oc8, .ref oq, .ref om, .ref oy, .ref og, .ref ok8])), (ob, .inl (Y 0, 24, .inl (aN (bk gh gca gun prs yrs)))), (oq, .inl (Y 0, 17, .inl (aN gr))), (om, .inl (Y 2, 40, .inl (aN gm)))]) [0, 1, 2, 3] rfl
  have hD := hD.sub (ws' := [(o, .inr (8, [.ref ob, .ref on, .ref ow8, .ref os, .ref oe, .int (nI sc8), .ref oi, .int (nI cn8), .ref op, .int (nI bt), .int (oI gA), .int (oI gR), .int rs8, .int (nI a8), .ref oz, .ref oc8, .ref oq, .ref om, .ref oy, .ref og, .ref ok8])), (ob, .inl (Y 0, 24, .inl (aN (bk gh gca gun prs yrs)))), (oq, .inl (Y 0, 17, .inl (aN gr))), (om, .inl (Y 2, 40, .inl (aN gm)))]) [0, 1, 2, 3] (by decide) rfl
  have hr1 : r_4 = nI (bN (inQ x1 0 5)) := hr1
  subst hr1
  refine mv_if_ne (tgt := 9) hx hb (by first | omega | exact Nat.lt_trans (bN_lt _) (by decide) | exact Nat.lt_of_le_of_lt Nat.and_le_left (by omega) | exact Nat.lt_trans (nimV_lt _) (by decide) | exact Nat.lt_trans (Nat.mod_lt _ (by decide)) (by decide)) dX8_darns_4 (by decide) (fun c4 => ?_) (fun c4 => ?_)
  · skip
    obtain ⟨kx1, hka_x1, hkb_x1, rfl⟩ := inQ_ex (by decide) (bN_1.mp c4)
    have hq_x1 : inQ (nI kx1) 0 5 = true := bN_1.mp c4
    have hcl_x1 : (nI kx1).toNatClampNeg = kx1 := nI_clamp (by omega)
    refine lv_iload_n hx hb dX8_darns_9 rfl (lv_at hl 2 rfl) ?_
    refine lv_iconst (v := nI 0) hx hb dX8_darns_10 (by decide) ?_
    refine lv_iconst (v := nI 1) hx hb dX8_darns_11 (by decide) ?_
    refine mv_callSi (nA := 3) (As := [.int x2, .int (nI 0), .int (nI 1)]) (rest := []) (Wc := []) (wr := [(o, .inr (8, [.ref ob, .ref on, .ref ow8, .ref os, .ref oe, .int (nI sc8), .ref oi, .int (nI cn8), .ref op, .int (nI bt), .int (oI gA), .int (oI gR), .int rs8, .int (nI a8), .ref oz, .ref oc8, .ref oq, .ref om, .ref oy, .ref og, .ref ok8])), (ob, .inl (Y 0, 24, .inl (aN (bk gh gca gun prs yrs)))), (oq, .inl (Y 0, 17, .inl (aN gr))), (om, .inl (Y 2, 40, .inl (aN gm)))]) hx hb hml hown hts hK hP hD hS hST hA hl.1 (c_X8_inR l D Y _ x2 0 1 ) [] [0, 1, 2, 3] rfl rfl (by decide) (by decide) (by decide) rfl mw_121 mw_122 mw_5 mw_123 ⟨by decide, by decide, by decide +kernel⟩ rfl ⟨Nat.le_of_ble_eq_true rfl, Nat.le_of_ble_eq_true rfl⟩ rfl (Nat.le_of_ble_eq_true rfl) dX8_darns_12 ⟨Nat.le_of_ble_eq_true rfl, Nat.le_of_ble_eq_true rfl⟩ (fun r_5 ux H locs hr12 hP hD hS hz12 => ?_)
    have hP := hP.sub (ws' := [(o, .inr (8, [.ref ob, .ref on, .ref ow8, .ref os, .ref oe, .int (nI sc8), .ref oi, .int (nI cn8), .ref op, .int (nI bt), .int (oI gA), .int (oI gR), .int rs8, .int (nI a8), .ref oz, .ref oc8, .ref oq, .ref om, .ref oy, .ref og, .ref ok8])), (ob, .inl (Y 0, 24, .inl (aN (bk gh gca gun prs yrs)))), (oq, .inl (Y 0, 17, .inl (aN gr))), (om, .inl (Y 2, 40, .inl (aN gm)))]) [0, 1, 2, 3] rfl
    have hD := hD.sub (ws' := [(o, .inr (8, [.ref ob, .ref on, .ref ow8, .ref os, .ref oe, .int (nI sc8), .ref oi, .int (nI cn8), .ref op, .int (nI bt), .int (oI gA), .int (oI gR), .int rs8, .int (nI a8), .ref oz, .ref oc8, .ref oq, .ref om, .ref oy, .ref og, .ref ok8])), (ob, .inl (Y 0, 24, .inl (aN (bk gh gca gun prs yrs)))), (oq, .inl (Y 0, 17, .inl (aN gr))), (om, .inl (Y 2, 40, .inl (aN gm)))]) [0, 1, 2, 3] (by decide) rfl
    have hr12 : r_5 = nI (bN (inQ x2 0 1)) := hr12
    subst hr12
    refine mv_if_ne (tgt := 21) hx hb (by first | omega | exact Nat.lt_trans (bN_lt _) (by decide) | exact Nat.lt_of_le_of_lt Nat.and_le_left (by omega) | exact Nat.lt_trans (nimV_lt _) (by decide) | exact Nat.lt_trans (Nat.mod_lt _ (by decide)) (by decide)) dX8_darns_15 (by decide) (fun c15 => ?_) (fun c15 => ?_)
    · skip
      obtain ⟨kx2, hka_x2, hkb_x2, rfl⟩ := inQ_ex (by decide) (bN_1.mp c15)
      have hq_x2 : inQ (nI kx2) 0 1 = true := bN_1.mp c15
      have hcl_x2 : (nI kx2).toNatClampNeg = kx2 := nI_clamp (by omega)
      refine lv_aload_n hx hb dX8_darns_21 rfl (lv_at hl 0 rfl) ?_
      refine mv_callVv (nA := 0) (As := []) (rest := []) (Wc := [(o, .inr (8, [.ref ob, .ref on, .ref ow8, .ref os, .ref oe, .int (nI sc8), .ref oi, .int (nI cn8), .ref op, .int (nI bt), .int (oI gA), .int (oI gR), .int rs8, .int (nI a8), .ref oz, .ref oc8, .ref oq, .ref om, .ref oy, .ref og, .ref ok8])), (oq, .inl (Y 0, 17, .inl (aN gr))), (om, .inl (Y 2, 40, .inl (aN gm)))]) (wr := [(ob, .inl (Y 0, 24, .inl (aN (bk gh gca gun prs yrs))))]) hx hb hml hown hts hK hP hD hS hST hA hl.1 (c_X8_layRows l D Y _ o ob on ow8 os oe oi op oz oc8 oq om oy og ok8 sc8 cn8 bt a8 rs8 gA gR gr gm ) [0, 2, 3] [1] rfl rfl (by decide) (by decide) (by decide) rfl 0 rfl rfl rfl mw_572 mw_573 mw_574 mw_5 mw_575 ⟨by decide, by decide, by decide +kernel⟩ rfl ⟨Nat.le_of_ble_eq_true rfl, Nat.le_of_ble_eq_true rfl⟩ rfl (Nat.le_of_ble_eq_true rfl) dX8_darns_22 ⟨Nat.le_of_ble_eq_true rfl, Nat.le_of_ble_eq_true rfl⟩ (fun ux H locs hr22 hP hD hS hz22 => ?_)
      obtain ⟨x_6, x_7⟩ := ux
      have hP := hP.sub (ws' := [(o, .inr (8, [.ref ob, .ref on, .ref ow8, .ref os, .ref oe, .int (nI sc8), .ref oi, .int (nI cn8), .ref op, .int (nI bt), .int (oI gA), .int (oI gR), .int rs8, .int (nI a8), .ref oz, .ref oc8, .ref oq, .ref om, .ref oy, .ref og, .ref ok8])), (ob, .inl (Y 0, 24, .inl (aN (bk gh gca gun prs yrs)))), (oq, .inl (Y 0, 17, .inl (aN x_6))), (om, .inl (Y 2, 40, .inl (aN x_7)))]) [1, 0, 2, 3] rfl
      have hD := hD.sub (ws' := [(o, .inr (8, [.ref ob, .ref on, .ref ow8, .ref os, .ref oe, .int (nI sc8), .ref oi, .int (nI cn8), .ref op, .int (nI bt), .int (oI gA), .int (oI gR), .int rs8, .int (nI a8), .ref oz, .ref oc8, .ref oq, .ref om, .ref oy, .ref og, .ref ok8])), (ob, .inl (Y 0, 24, .inl (aN (bk gh gca gun prs yrs)))), (oq, .inl (Y 0, 17, .inl (aN x_6))), (om, .inl (Y 2, 40, .inl (aN x_7)))]) [1, 0, 2, 3] (by decide) rfl
      have hr22 : ∀ j, j ≤ 16 → x_6 j = nmL j := hr22
      refine lv_bipush (v := -6) hx hb dX8_darns_25 (by decide) ?_
      refine lv_istore_n (lv' := [(3, .int (-6)), (0, .ref o), (1, .int (nI kx1)), (2, .int (nI kx2))]) hx hb dX8_darns_27 rfl hl (by decide) rfl (fun ls hl => ?_)
      refine lv_bipush (v := nI 15) hx hb dX8_darns_28 (by decide) ?_
      refine lv_istore (lv' := [(4, .int (nI 15)), (3, .int (-6)), (0, .ref o), (1, .int (nI kx1)), (2, .int (nI kx2))]) hx hb dX8_darns_30 hl (by decide) rfl (fun ls hl => ?_)
      exact L32 (16 + 1) kx1 kx2 16 none x_6 x_7 (by first | assumption | omega | rfl) (by first | assumption | omega | rfl) (by first | assumption | omega | rfl) (by first | assumption | omega | rfl) (by first | assumption | omega | rfl) (hr22) (rfl) (Nat.lt_succ_self _) _ _ _ hP hD hS (lv_sub hl [1, 0, 2, 3, 4] rfl)
    · skip
      have hn_x2_c15 : inQ x2 0 1 = false := bN_0.mp c15
      refine lv_bipush (v := -2) hx hb dX8_darns_18 (by decide) ?_
      exact mv_iret hx hb hr hlocks (gr, gm) (by simp only [sp_darns, hq_x1, hcl_x1, hn_x2_c15, Bool.not_true, Bool.not_false, if_true, if_false, Bool.false_eq_true, reduceIte, Bool.true_and, Bool.and_true, Bool.false_and, Bool.and_false, Bool.or_false, Bool.or_true, ite_self]) hP hK hD hS dX8_darns_20
  · skip
    have hn_x1_c4 : inQ x1 0 5 = false := bN_0.mp c4
    refine lv_iconst (v := nI 4294967295) hx hb dX8_darns_7 (by decide) ?_
    exact mv_iret hx hb hr hlocks (gr, gm) (by simp only [sp_darns, hn_x1_c4, Bool.not_true, Bool.not_false, if_true, if_false, Bool.false_eq_true, reduceIte, Bool.true_and, Bool.and_true, Bool.false_and, Bool.and_false, Bool.or_false, Bool.or_true, ite_self]) hP hK hD hS dX8_darns_8
abbrev q_X8_chance (D : va_G) (Y : Nat → ClassId) (o : Nat) (ob : Nat) (on : Nat) (ow8 : Nat) (os : Nat) (oe : Nat) (oi : Nat) (op : Nat) (oz : Nat) (oc8 : Nat) (oq : Nat) (om : Nat) (oy : Nat) (og : Nat) (ok8 : Nat) (sc8 : Nat) (cn8 : Nat) (bt : Nat) (a8 : Nat) (rs8 : Int32) (gA : Option Nat) (gR : Option Nat) (gw : Nat → Nat) (x1 : Int32) (x2 : Int32) (x3 : Int32) (x4 : Int32) : (Nat → Prop) → Array Value → State → Outcome → State → Prop := mv_Ql D Y (fun (r : Int64) (ux : (Nat → Nat)) => r = sp_chance x1 x2 x3 x4) (fun ux : (Nat → Nat) => ([(o, .inr (8, [.ref ob, .ref on, .ref ow8, .ref os, .ref oe, .int (nI sc8), .ref oi, .int (nI cn8), .ref op, .int (nI bt), .int (oI gA), .int (oI gR), .int rs8, .int (nI a8), .ref oz, .ref oc8, .ref oq, .ref om, .ref oy, .ref og, .ref ok8])), (oy, .inl (Y 1, 17, .inr (.inl (aL ux))))] : va_W))
set_option maxHeartbeats 8000000 in
set_option maxRecDepth 100000 in
theorem c_X8_chance (l : Launch) (D : va_G) (Y : Nat → ClassId) (sz : Nat) (o : Nat) (ob : Nat) (on : Nat) (ow8 : Nat) (os : Nat) (oe : Nat) (oi : Nat) (op : Nat) (oz : Nat) (oc8 : Nat) (oq : Nat) (om : Nat) (oy : Nat) (og : Nat) (ok8 : Nat) (sc8 : Nat) (cn8 : Nat) (bt : Nat) (a8 : Nat) (rs8 : Int32) (gA : Option Nat) (gR : Option Nat) (gw : Nat → Nat) (x1 : Int32) (x2 : Int32) (x3 : Int32) (x4 : Int32)  : mv_C l D Y yX8_chance cX8_chance 15 (some .long) 1 0 0 [.ref o, .int x1, .int x2, .int x3, .int x4] sz [(o, .inr (8, [.ref ob, .ref on, .ref ow8, .ref os, .ref oe, .int (nI sc8), .ref oi, .int (nI cn8), .ref op, .int (nI bt), .int (oI gA), .int (oI gR), .int rs8, .int (nI a8), .ref oz, .ref oc8, .ref oq, .ref om, .ref oy, .ref og, .ref ok8])), (oy, .inl (Y 1, 17, .inr (.inl (aL gw))))] (q_X8_chance D Y o ob on ow8 os oe oi op oz oc8 oq om oy og ok8 sc8 cn8 bt a8 rs8 gA gR gw x1 x2 x3 x4) := by
  refine mv_ofW (by decide) (Nat.le_of_ble_eq_true rfl) ?_
  intro p e s m below meth c ls A hx hb hr hlocks hml hnm hown hts hsz hAe hP hK hD hS hST hA hl
  have hl : lv_has ls 15 [(0, .ref o), (1, .int x1), (2, .int x2), (3, .int x3), (4, .int x4)] := hl
  have L83 : ∀ (fu : Nat) (kx1 : Nat) (kx2 : Nat) (kx3 : Nat) (kx4 : Nat) (i : Nat) (lw : Nat) (gz : Nat → Nat) (e1 : x1 = nI kx1) (hi1 : kx1 ≤ 16) (e2 : x2 = nI kx2) (hi2 : kx2 ≤ 10) (e3 : x3 = nI kx3) (hi3 : kx3 ≤ 16) (e4 : x4 = nI kx4) (hi4 : kx4 ≤ 1) (hi : i ≤ kx1) (hlw : lw = 10 ^ i) (hg : ∀ j, j ≤ 16 → gz j = wayS kx2 i j) (hmeas : kx1 - i < fu) (H : Heap) (locs : List Loc) (ls : Array Slot), va_P D vwCl [(o, .inr (8, [.ref ob, .ref on, .ref ow8, .ref os, .ref oe, .int (nI sc8), .ref oi, .int (nI cn8), .ref op, .int (nI bt), .int (oI gA), .int (oI gR), .int rs8, .int (nI a8), .ref oz, .ref oc8, .ref oq, .ref om, .ref oy, .ref og, .ref ok8])), (oy, .inl (Y 1, 17, .inr (.inl (aL gz))))] H → va_D A [(o, .inr (8, [.ref ob, .ref on, .ref ow8, .ref os, .ref oe, .int (nI sc8), .ref oi, .int (nI cn8), .ref op, .int (nI bt), .int (oI gA), .int (oI gR), .int rs8, .int (nI a8), .ref oz, .ref oc8, .ref oq, .ref om, .ref oy, .ref og, .ref ok8])), (oy, .inl (Y 1, 17, .inr (.inl (aL gz))))] → va_S A s.heap H locs → lv_has ls 15 [(5, .long (lN lw)), (7, .int (nI i)), (0, .ref o), (1, .int (nI kx1)), (2, .int (nI kx2)), (3, .int (nI kx3)), (4, .int (nI kx4))] → W p l e (mv_R 1 0 0) s m [.ref o, .int x1, .int x2, .int x3, .int x4].toArray below meth c H locs 0 0 (MQ below ((q_X8_chance D Y o ob on ow8 os oe oi op oz oc8 oq om oy og ok8 sc8 cn8 bt a8 rs8 gA gR gw x1 x2 x3 x4) A) [.ref o, .int x1, .int x2, .int x3, .int x4].toArray s 0 0 A) (F0 m 83 ls []) := by
    intro fu
    induction fu with
    | zero =>
      intro kx1 kx2 kx3 kx4 i lw gz e1 hi1 e2 hi2 e3 hi3 e4 hi4 hi hlw hg hmeas
      exact absurd hmeas (Nat.not_lt_zero _)
    | succ fu L83ih =>
      intro kx1 kx2 kx3 kx4 i lw gz e1 hi1 e2 hi2 e3 hi3 e4 hi4 hi hlw hg hmeas H locs ls hP hD hS hl
      have hq1 : inQ (nI kx1) 0 16 = true := (inQ_nI (by omega) (by decide) (by decide)).trans (decide_eq_true ⟨by omega, by omega⟩)
      have hcl1 : (nI kx1).toNatClampNeg = kx1 := nI_clamp (by omega)
      have hq2 : inQ (nI kx2) 0 10 = true := (inQ_nI (by omega) (by decide) (by decide)).trans (decide_eq_true ⟨by omega, by omega⟩)
      have hcl2 : (nI kx2).toNatClampNeg = kx2 := nI_clamp (by omega)
      have hq3 : inQ (nI kx3) 0 16 = true := (inQ_nI (by omega) (by decide) (by decide)).trans (decide_eq_true ⟨by omega, by omega⟩)
      have hcl3 : (nI kx3).toNatClampNeg = kx3 := nI_clamp (by omega)
      have hq4 : inQ (nI kx4) 0 1 = true := (inQ_nI (by omega) (by decide) (by decide)).trans (decide_eq_true ⟨by omega, by omega⟩)
      have hcl4 : (nI kx4).toNatClampNeg = kx4 := nI_clamp (by omega)
      have L166 : ∀ (fu : Nat) (ee : Nat) (sm : Nat) (he1 : kx3 ≤ ee) (he2 : ee ≤ 17) (hsm : sm = sgS (wayS kx2 kx1) kx3 (ee - kx3)) (hw : ∀ j, j ≤ 16 → gz j = wayS kx2 kx1 j) (hl9 : lw = 10 ^ kx1) (hmeas : 17 - ee < fu) (H : Heap) (locs : List Loc) (ls : Array Slot), va_P D vwCl [(o, .inr (8, [.ref ob, .ref on, .ref ow8, .ref os, .ref oe, .int (nI sc8), .ref oi, .int (nI cn8), .ref op, .int (nI bt), .int (oI gA), .int (oI gR), .int rs8, .int (nI a8), .ref oz, .ref oc8, .ref oq, .ref om, .ref oy, .ref og, .ref ok8])), (oy, .inl (Y 1, 17, .inr (.inl (aL gz))))] H → va_D A [(o, .inr (8, [.ref ob, .ref on, .ref ow8, .ref os, .ref oe, .int (nI sc8), .ref oi, .int (nI cn8), .ref op, .int (nI bt), .int (oI gA), .int (oI gR), .int rs8, .int (nI a8), .ref oz, .ref oc8, .ref oq, .ref om, .ref oy, .ref og, .ref ok8])), (oy, .inl (Y 1, 17, .inr (.inl (aL gz))))] → va_S A s.heap H locs → lv_has ls 15 [(5, .long (lN lw)), (7, .long (lN sm)), (9, .int (nI ee)), (0, .ref o), (1, .int (nI kx1)), (2, .int (nI kx2)), (3, .int (nI kx3)), (4, .int (nI kx4))] → W p l e (mv_R 1 0 0) s m [.ref o, .int x1, .int x2, .int x3, .int x4].toArray below meth c H locs 0 0 (MQ below ((q_X8_chance D Y o ob on ow8 os oe oi op oz oc8 oq om oy og ok8 sc8 cn8 bt a8 rs8 gA gR gw x1 x2 x3 x4) A) [.ref o, .int x1, .int x2, .int x3, .int x4].toArray s 0 0 A) (F0 m 166 ls []) := by
        intro fu
        induction fu with
        | zero =>
          intro ee sm he1 he2 hsm hw hl9 hmeas
          exact absurd hmeas (Nat.not_lt_zero _)
        | succ fu L166ih =>
          intro ee sm he1 he2 hsm hw hl9 hmeas H locs ls hP hD hS hl
          have L199 : ∀ (fu : Nat) (a : Nat) (b : Nat) (hab : a < 2 ^ 63) (hbb : b < 2 ^ 63) (hgc : Nat.gcd a b = Nat.gcd sm lw) (hsm2 : sm = (sgS (wayS kx2 kx1) kx3 (17 - kx3))) (hsl : sm ≤ 10 ^ kx1) (hl0 : 0 < lw) (h10 : 10 ^ kx1 < 2 ^ 63) (hmeas : b < fu) (H : Heap) (locs : List Loc) (ls : Array Slot), va_P D vwCl [(o, .inr (8, [.ref ob, .ref on, .ref ow8, .ref os, .ref oe, .int (nI sc8), .ref oi, .int (nI cn8), .ref op, .int (nI bt), .int (oI gA), .int (oI gR), .int rs8, .int (nI a8), .ref oz, .ref oc8, .ref oq, .ref om, .ref oy, .ref og, .ref ok8])), (oy, .inl (Y 1, 17, .inr (.inl (aL gz))))] H → va_D A [(o, .inr (8, [.ref ob, .ref on, .ref ow8, .ref os, .ref oe, .int (nI sc8), .ref oi, .int (nI cn8), .ref op, .int (nI bt), .int (oI gA), .int (oI gR), .int rs8, .int (nI a8), .ref oz, .ref oc8, .ref oq, .ref om, .ref oy, .ref og, .ref ok8])), (oy, .inl (Y 1, 17, .inr (.inl (aL gz))))] → va_S A s.heap H locs → lv_has ls 15 [(5, .long (lN lw)), (7, .long (lN sm)), (9, .long (lN a)), (11, .long (lN b)), (0, .ref o), (1, .int (nI kx1)), (2, .int (nI kx2)), (3, .int (nI kx3)), (4, .int (nI kx4))] → W p l e (mv_R 1 0 0) s m [.ref o, .int x1, .int x2, .int x3, .int x4].toArray below meth c H locs 0 0 (MQ below ((q_X8_chance D Y o ob on ow8 os oe oi op oz oc8 oq om oy og ok8 sc8 cn8 bt a8 rs8 gA gR gw x1 x2 x3 x4) A) [.ref o, .int x1, .int x2, .int x3, .int x4].toArray s 0 0 A) (F0 m 199 ls []) := by
            intro fu
            induction fu with
            | zero =>
              intro a b hab hbb hgc hsm2 hsl hl0 h10 hmeas
              exact absurd hmeas (Nat.not_lt_zero _)
            | succ fu L199ih =>
              intro a b hab hbb hgc hsm2 hsl hl0 h10 hmeas H locs ls hP hD hS hl
              refine lv_lload hx hb dX8_chance_199 (lv_at hl 3 rfl) ?_
              refine lv_lconst (v := lN 0) hx hb dX8_chance_201 (by decide) ?_
              refine W.lcmp hx hb dX8_chance_202 ?_
              refine mv_lcmp_eq (tgt := 224) hx hb (by first | omega | exact Nat.lt_trans (bN_lt _) (by decide)) (by first | omega | decide) dX8_chance_203 (by decide) (fun c203 => ?_) (fun c203 => ?_)
              · skip
                have hb0 : b = 0 := by omega
                have hag : a = Nat.gcd sm lw := by rw [← hgc, hb0, Nat.gcd_zero_right]
                have hap : 0 < a := by rw [hag]; exact Nat.gcd_pos_of_pos_right _ hl0
                have hchv : ∀ z : Nat, z / a = z / Nat.gcd (10 ^ kx1) (sgS (wayS kx2 kx1) kx3 (kx1 + 1 - kx3)) := fun z => by rw [hag, Nat.gcd_comm sm lw, hl9, hsm2, sg_17 (by omega) (by omega)]
                refine lv_iload hx hb dX8_chance_224 (lv_at hl 8 rfl) ?_
                refine mv_if_ne (tgt := 237) hx hb (by first | omega | exact Nat.lt_trans (bN_lt _) (by decide)) dX8_chance_226 (by decide) (fun c226 => ?_) (fun c226 => ?_)
                · skip
                  refine lv_lload hx hb dX8_chance_237 (lv_at hl 0 rfl) ?_
                  refine lv_lload hx hb dX8_chance_239 (lv_at hl 2 rfl) ?_
                  refine mv_ldiv hx hb (by first | omega | exact Nat.lt_trans (bN_lt _) (by decide)) (by omega) (by omega) dX8_chance_241 ?_
                  exact mv_lret hx hb hr hlocks (gz) (by simp only [sp_chance, e1, hq1, hcl1, e2, hq2, hcl2, e3, hq3, hcl3, e4, hq4, hcl4, Bool.not_true, Bool.not_false, if_true, if_false, Bool.false_eq_true, reduceIte, Bool.true_and, Bool.and_true, Bool.false_and, Bool.and_false, Bool.or_false, Bool.or_true, ite_self] <;> (show lN (lw / a) = lN (chV kx1 kx2 kx3 kx4); unfold chV; rw [if_neg (by omega), hchv, hl9])) hP hK hD hS dX8_chance_242
                · skip
                  refine lv_lload hx hb dX8_chance_229 (lv_at hl 1 rfl) ?_
                  refine lv_lload hx hb dX8_chance_231 (lv_at hl 2 rfl) ?_
                  refine mv_ldiv hx hb (by first | omega | exact Nat.lt_trans (bN_lt _) (by decide)) (by omega) (by omega) dX8_chance_233 ?_
                  refine lv_goto (tgt := 242) hx hb dX8_chance_234 (by decide) ?_
                  exact mv_lret hx hb hr hlocks (gz) (by simp only [sp_chance, e1, hq1, hcl1, e2, hq2, hcl2, e3, hq3, hcl3, e4, hq4, hcl4, Bool.not_true, Bool.not_false, if_true, if_false, Bool.false_eq_true, reduceIte, Bool.true_and, Bool.and_true, Bool.false_and, Bool.and_false, Bool.or_false, Bool.or_true, ite_self] <;> (show lN (sm / a) = lN (chV kx1 kx2 kx3 kx4); unfold chV; rw [if_pos (by omega), hchv, hsm2, sg_17 (by omega) (by omega)])) hP hK hD hS dX8_chance_242
              · skip
                refine lv_lload hx hb dX8_chance_206 (lv_at hl 2 rfl) ?_
                refine lv_lload hx hb dX8_chance_208 (lv_at hl 3 rfl) ?_
                refine mv_lrem hx hb (by first | omega | exact Nat.lt_trans (bN_lt _) (by decide)) (by omega) (by omega) dX8_chance_210 ?_
                refine lv_lstore (lv' := [(13, .long (lN (a % b))), (5, .long (lN lw)), (7, .long (lN sm)), (9, .long (lN a)), (11, .long (lN b)), (0, .ref o), (1, .int (nI kx1)), (2, .int (nI kx2)), (3, .int (nI kx3)), (4, .int (nI kx4))]) hx hb dX8_chance_211 hl (by decide) rfl (fun ls hl => ?_)
                refine lv_lload hx hb dX8_chance_213 (lv_at hl 4 rfl) ?_
                refine lv_lstore (lv' := [(9, .long (lN b)), (13, .long (lN (a % b))), (5, .long (lN lw)), (7, .long (lN sm)), (11, .long (lN b)), (0, .ref o), (1, .int (nI kx1)), (2, .int (nI kx2)), (3, .int (nI kx3)), (4, .int (nI kx4))]) hx hb dX8_chance_215 hl (by decide) rfl (fun ls hl => ?_)
                refine lv_lload hx hb dX8_chance_217 (lv_at hl 1 rfl) ?_
                refine lv_lstore (lv' := [(11, .long (lN (a % b))), (9, .long (lN b)), (13, .long (lN (a % b))), (5, .long (lN lw)), (7, .long (lN sm)), (0, .ref o), (1, .int (nI kx1)), (2, .int (nI kx2)), (3, .int (nI kx3)), (4, .int (nI kx4))]) hx hb dX8_chance_219 hl (by decide) rfl (fun ls hl => ?_)
                refine lv_goto (tgt := 199) hx hb dX8_chance_221 (by decide) ?_
                exact L199ih  b (a % b) (hbb) (Nat.lt_trans (Nat.mod_lt _ (by omega)) hbb) (by rw [← hgc, Nat.gcd_comm a b, Nat.gcd_rec b a, Nat.gcd_comm]) (by first | assumption | omega | rfl) (by first | assumption | omega | rfl) (by first | assumption | omega | rfl) (by first | assumption | omega | rfl) (by have := Nat.mod_lt a (show 0 < b by omega); omega) _ _ _ hP hD hS (lv_sub hl [3, 4, 1, 0, 5, 6, 7, 8, 9] rfl)
          refine lv_iload hx hb dX8_chance_166 (lv_at hl 2 rfl) ?_
          refine lv_bipush (v := nI 17) hx hb dX8_chance_168 (by decide) ?_
          refine mv_icmp_ge (tgt := 191) hx hb (by first | omega | exact Nat.lt_trans (bN_lt _) (by decide)) (by first | omega | decide) dX8_chance_170 (by decide) (fun c170 => ?_) (fun c170 => ?_)
          · skip
            have hsm2 : sm = (sgS (wayS kx2 kx1) kx3 (17 - kx3)) := by rw [hsm, show ee = 17 by omega]
            have hsl : sm ≤ 10 ^ kx1 := by rw [hsm]; exact sgS_le2 (by omega) kx1 kx3 _
            have h10 : 10 ^ kx1 < 2 ^ 63 := Nat.lt_of_le_of_lt (ten_lt (show kx1 ≤ 16 by omega)) (by decide)
            have hl0 : 0 < lw := by rw [hl9]; exact Nat.pow_pos (by decide)
            refine lv_lload hx hb dX8_chance_191 (lv_at hl 1 rfl) ?_
            refine lv_lstore (lv' := [(9, .long (lN sm)), (5, .long (lN lw)), (7, .long (lN sm)), (0, .ref o), (1, .int (nI kx1)), (2, .int (nI kx2)), (3, .int (nI kx3)), (4, .int (nI kx4))]) hx hb dX8_chance_193 hl (by decide) rfl (fun ls hl => ?_)
            refine lv_lload hx hb dX8_chance_195 (lv_at hl 1 rfl) ?_
            refine lv_lstore (lv' := [(11, .long (lN lw)), (9, .long (lN sm)), (5, .long (lN lw)), (7, .long (lN sm)), (0, .ref o), (1, .int (nI kx1)), (2, .int (nI kx2)), (3, .int (nI kx3)), (4, .int (nI kx4))]) hx hb dX8_chance_197 hl (by decide) rfl (fun ls hl => ?_)
            exact L199 (lw + 1) sm lw (by first | assumption | omega | rfl) (by first | assumption | omega | rfl) (rfl) (by first | assumption | omega | rfl) (by first | assumption | omega | rfl) (by first | assumption | omega | rfl) (by first | assumption | omega | rfl) (Nat.lt_succ_self _) _ _ _ hP hD hS (lv_sub hl [2, 3, 1, 0, 4, 5, 6, 7, 8] rfl)
          · skip
            refine lv_lload hx hb dX8_chance_173 (lv_at hl 1 rfl) ?_
            refine lv_aload_n hx hb dX8_chance_175 rfl (lv_at hl 3 rfl) ?_
            refine va_get (D := D) (ci := 8) (v := .ref oy) (C := RX8) (T := TX8) (N := 21) hx hb hts inlX8 hown hK hP 0 rfl rfl 18 (by decide) (hts _ mw_95) (fun _ h9 => h9) rfl dX8_chance_176 ?_
            refine lv_iload hx hb dX8_chance_179 (lv_at hl 2 rfl) ?_
            refine mv_lald hx hb hK hP 1 rfl (i := ee) (by omega) (by decide) dX8_chance_181 ?_
            refine mv_ladd hx hb dX8_chance_182 ?_
            refine lv_lstore (lv' := [(7, .long (lN (sm + (gz ee)))), (5, .long (lN lw)), (9, .int (nI ee)), (0, .ref o), (1, .int (nI kx1)), (2, .int (nI kx2)), (3, .int (nI kx3)), (4, .int (nI kx4))]) hx hb dX8_chance_183 hl (by decide) rfl (fun ls hl => ?_)
            refine lv_iinc (v := nI (ee + 1)) (lv' := [(9, .int (nI (ee + 1))), (7, .long (lN (sm + (gz ee)))), (5, .long (lN lw)), (0, .ref o), (1, .int (nI kx1)), (2, .int (nI kx2)), (3, .int (nI kx3)), (4, .int (nI kx4))]) hx hb dX8_chance_185 hl (k := 2) rfl (by exact nI_add _ 1) (by decide) rfl (fun ls hl => ?_)
            refine lv_goto (tgt := 166) hx hb dX8_chance_188 (by decide) ?_
            exact L166ih  (ee + 1) (sm + (gz ee)) (by first | assumption | omega | rfl) (by first | assumption | omega | rfl) (by rw [show ee + 1 - kx3 = ee - kx3 + 1 by omega, sgS, show kx3 + (ee - kx3) = ee by omega, ← hsm, hw ee (by omega)]) (by first | assumption | omega | rfl) (by first | assumption | omega | rfl) (by omega) _ _ _ hP hD hS (lv_sub hl [2, 1, 0, 3, 4, 5, 6, 7] rfl)
      have L93 : ∀ (fu : Nat) (cc : Nat) (gy : Nat → Nat) (hc : cc ≤ 17) (hi2 : i < kx1) (hg1 : ∀ j, cc ≤ j → j ≤ 16 → gy j = wayS kx2 (i + 1) j) (hg2 : ∀ j, j < cc → gy j = wayS kx2 i j) (hmeas : cc < fu) (H : Heap) (locs : List Loc) (ls : Array Slot), va_P D vwCl [(o, .inr (8, [.ref ob, .ref on, .ref ow8, .ref os, .ref oe, .int (nI sc8), .ref oi, .int (nI cn8), .ref op, .int (nI bt), .int (oI gA), .int (oI gR), .int rs8, .int (nI a8), .ref oz, .ref oc8, .ref oq, .ref om, .ref oy, .ref og, .ref ok8])), (oy, .inl (Y 1, 17, .inr (.inl (aL gy))))] H → va_D A [(o, .inr (8, [.ref ob, .ref on, .ref ow8, .ref os, .ref oe, .int (nI sc8), .ref oi, .int (nI cn8), .ref op, .int (nI bt), .int (oI gA), .int (oI gR), .int rs8, .int (nI a8), .ref oz, .ref oc8, .ref oq, .ref om, .ref oy, .ref og, .ref ok8])), (oy, .inl (Y 1, 17, .inr (.inl (aL gy))))] → va_S A s.heap H locs → lv_has ls 15 [(5, .long (lN lw)), (7, .int (nI i)), (8, .int (nI cc - nI 1)), (0, .ref o), (1, .int (nI kx1)), (2, .int (nI kx2)), (3, .int (nI kx3)), (4, .int (nI kx4))] → W p l e (mv_R 1 0 0) s m [.ref o, .int x1, .int x2, .int x3, .int x4].toArray below meth c H locs 0 0 (MQ below ((q_X8_chance D Y o ob on ow8 os oe oi op oz oc8 oq om oy og ok8 sc8 cn8 bt a8 rs8 gA gR gw x1 x2 x3 x4) A) [.ref o, .int x1, .int x2, .int x3, .int x4].toArray s 0 0 A) (F0 m 93 ls []) := by
        intro fu
        induction fu with
        | zero =>
          intro cc gy hc hi2 hg1 hg2 hmeas
          exact absurd hmeas (Nat.not_lt_zero _)
        | succ fu L93ih =>
          intro cc gy hc hi2 hg1 hg2 hmeas H locs ls hP hD hS hl
          have L138 : ∀ (c2 : Nat) (z9 : Nat) (hc2 : cc = c2 + 1) (hz9 : wayS kx2 i c2 * (10 - kx2) + z9 = wayS kx2 (i + 1) c2) (H : Heap) (locs : List Loc) (ls : Array Slot), va_P D vwCl [(o, .inr (8, [.ref ob, .ref on, .ref ow8, .ref os, .ref oe, .int (nI sc8), .ref oi, .int (nI cn8), .ref op, .int (nI bt), .int (oI gA), .int (oI gR), .int rs8, .int (nI a8), .ref oz, .ref oc8, .ref oq, .ref om, .ref oy, .ref og, .ref ok8])), (oy, .inl (Y 1, 17, .inr (.inl (aL gy))))] H → va_D A [(o, .inr (8, [.ref ob, .ref on, .ref ow8, .ref os, .ref oe, .int (nI sc8), .ref oi, .int (nI cn8), .ref op, .int (nI bt), .int (oI gA), .int (oI gR), .int rs8, .int (nI a8), .ref oz, .ref oc8, .ref oq, .ref om, .ref oy, .ref og, .ref ok8])), (oy, .inl (Y 1, 17, .inr (.inl (aL gy))))] → va_S A s.heap H locs → lv_has ls 15 [(5, .long (lN lw)), (7, .int (nI i)), (8, .int (nI c2)), (0, .ref o), (1, .int (nI kx1)), (2, .int (nI kx2)), (3, .int (nI kx3)), (4, .int (nI kx4))] → W p l e (mv_R 1 0 0) s m [.ref o, .int x1, .int x2, .int x3, .int x4].toArray below meth c H locs 0 0 (MQ below ((q_X8_chance D Y o ob on ow8 os oe oi op oz oc8 oq om oy og ok8 sc8 cn8 bt a8 rs8 gA gR gw x1 x2 x3 x4) A) [.ref o, .int x1, .int x2, .int x3, .int x4].toArray s 0 0 A) (F0 m 138 ls [.long (lN z9), .long (lN (gy c2 * (10 - kx2))), .int (nI c2), .ref oy]) := by
            intro c2 z9 hc2 hz9 H locs ls hP hD hS hl
            refine mv_ladd hx hb dX8_chance_138 ?_
            refine mv_last hx hb hK hP hD hS 1 rfl (i := c2) (v := (gy c2 * (10 - kx2)) + z9) (by omega) (by decide) dX8_chance_139 (fun H locs hP hD hS => ?_)
            have hP : va_P D vwCl [(o, .inr (8, [.ref ob, .ref on, .ref ow8, .ref os, .ref oe, .int (nI sc8), .ref oi, .int (nI cn8), .ref op, .int (nI bt), .int (oI gA), .int (oI gR), .int rs8, .int (nI a8), .ref oz, .ref oc8, .ref oq, .ref om, .ref oy, .ref og, .ref ok8])), (oy, .inl (Y 1, 17, .inr (.inl (aL (uN gy c2 ((gy c2 * (10 - kx2)) + z9))))))] H := hP
            have hD : va_D A [(o, .inr (8, [.ref ob, .ref on, .ref ow8, .ref os, .ref oe, .int (nI sc8), .ref oi, .int (nI cn8), .ref op, .int (nI bt), .int (oI gA), .int (oI gR), .int rs8, .int (nI a8), .ref oz, .ref oc8, .ref oq, .ref om, .ref oy, .ref og, .ref ok8])), (oy, .inl (Y 1, 17, .inr (.inl (aL (uN gy c2 ((gy c2 * (10 - kx2)) + z9))))))] := hD
            refine lv_iinc (v := nI c2 - nI 1) (lv' := [(8, .int (nI c2 - nI 1)), (5, .long (lN lw)), (7, .int (nI i)), (0, .ref o), (1, .int (nI kx1)), (2, .int (nI kx2)), (3, .int (nI kx3)), (4, .int (nI kx4))]) hx hb dX8_chance_140 hl (k := 2) rfl (dec_sub _) (by decide) rfl (fun ls hl => ?_)
            refine lv_goto (tgt := 93) hx hb dX8_chance_143 (by decide) ?_
            exact L93ih  c2 (uN gy c2 ((gy c2 * (10 - kx2)) + z9)) (by first | assumption | omega | rfl) (by first | assumption | omega | rfl) (fun j h1 h2 => by by_cases e9 : j = c2; rw [e9, uN_s, hg2 c2 (by omega)]; exact hz9; rw [uN_n _ _ e9]; exact hg1 j (by omega) h2) (fun j h1 => by rw [uN_n _ _ (by omega)]; exact hg2 j (by omega)) (by omega) _ _ _ hP hD hS (lv_sub hl [1, 2, 0, 3, 4, 5, 6, 7] rfl)
          refine lv_iload hx hb dX8_chance_93 (lv_at hl 2 rfl) ?_
          refine lv_if_lt (tgt := 146) hx hb dX8_chance_95 (by decide) (fun c95 => ?_) (fun c95 => ?_)
          · skip
            refine lv_lload hx hb dX8_chance_146 (lv_at hl 0 rfl) ?_
            refine lv_ldc2 (v := lN 10) hx hb hown (hts _ mw_603) dX8_chance_148 ?_
            refine mv_lmul hx hb dX8_chance_151 ?_
            refine lv_lstore (lv' := [(5, .long (lN (lw * 10))), (7, .int (nI i)), (8, .int (nI cc - nI 1)), (0, .ref o), (1, .int (nI kx1)), (2, .int (nI kx2)), (3, .int (nI kx3)), (4, .int (nI kx4))]) hx hb dX8_chance_152 hl (by decide) rfl (fun ls hl => ?_)
            refine lv_iinc (v := nI (i + 1)) (lv' := [(7, .int (nI (i + 1))), (5, .long (lN (lw * 10))), (8, .int (nI cc - nI 1)), (0, .ref o), (1, .int (nI kx1)), (2, .int (nI kx2)), (3, .int (nI kx3)), (4, .int (nI kx4))]) hx hb dX8_chance_154 hl (k := 1) rfl (by exact nI_add _ 1) (by decide) rfl (fun ls hl => ?_)
            refine lv_goto (tgt := 83) hx hb dX8_chance_157 (by decide) ?_
            exact L83ih  kx1 kx2 kx3 kx4 (i + 1) (lw * 10) gy (by first | assumption | omega | rfl) (by first | assumption | omega | rfl) (by first | assumption | omega | rfl) (by first | assumption | omega | rfl) (by first | assumption | omega | rfl) (by first | assumption | omega | rfl) (by first | assumption | omega | rfl) (by first | assumption | omega | rfl) (by first | assumption | omega | rfl) (by rw [hlw, Nat.pow_succ]) (fun j hj => hg1 j (by have := (sub1_neg (by omega)).mp c95; omega) hj) (by omega) _ _ _ hP hD hS (lv_sub hl [1, 0, 3, 4, 5, 6, 7] rfl)
          · skip
            obtain ⟨c2, rfl⟩ : ∃ z, cc = z + 1 := ⟨cc - 1, by rcases Nat.eq_zero_or_pos cc with q | q; exact absurd ((sub1_neg (by omega)).mpr q) c95; omega⟩
            have he9 : nI (c2 + 1) - nI 1 = nI c2 := (pk_sub (by omega)).trans (congrArg nI (by omega))
            rw [he9] at hl
            refine lv_aload_n hx hb dX8_chance_98 rfl (lv_at hl 3 rfl) ?_
            refine va_get (D := D) (ci := 8) (v := .ref oy) (C := RX8) (T := TX8) (N := 21) hx hb hts inlX8 hown hK hP 0 rfl rfl 18 (by decide) (hts _ mw_95) (fun _ h9 => h9) rfl dX8_chance_99 ?_
            refine lv_iload hx hb dX8_chance_102 (lv_at hl 2 rfl) ?_
            refine lv_aload_n hx hb dX8_chance_104 rfl (lv_at hl 3 rfl) ?_
            refine va_get (D := D) (ci := 8) (v := .ref oy) (C := RX8) (T := TX8) (N := 21) hx hb hts inlX8 hown hK hP 0 rfl rfl 18 (by decide) (hts _ mw_95) (fun _ h9 => h9) rfl dX8_chance_105 ?_
            refine lv_iload hx hb dX8_chance_108 (lv_at hl 2 rfl) ?_
            refine mv_lald hx hb hK hP 1 rfl (i := c2) (by omega) (by decide) dX8_chance_110 ?_
            refine lv_bipush (v := nI 10) hx hb dX8_chance_111 (by decide) ?_
            refine lv_iload_n hx hb dX8_chance_113 rfl (lv_at hl 5 rfl) ?_
            refine mv_isub hx hb (by omega) dX8_chance_114 ?_
            refine lv_i2l (v := lN (10 - kx2)) hx hb dX8_chance_115 (nI_l (by first | omega | exact Nat.lt_trans (bN_lt _) (by decide))) ?_
            refine mv_lmul hx hb dX8_chance_116 ?_
            refine lv_iload hx hb dX8_chance_117 (lv_at hl 2 rfl) ?_
            refine mv_if_le (tgt := 137) hx hb (by first | omega | exact Nat.lt_trans (bN_lt _) (by decide)) dX8_chance_119 (by decide) (fun c119 => ?_) (fun c119 => ?_)
            · skip
              refine lv_lconst (v := lN 0) hx hb dX8_chance_137 (by decide) ?_
              exact L138  c2 0 (by first | assumption | omega | rfl) (by have h9 : c2 = 0 := (by omega); subst h9; rfl) _ _ _ hP hD hS (lv_sub hl [0, 1, 2, 3, 4, 5, 6, 7] rfl)
            · skip
              refine lv_aload_n hx hb dX8_chance_122 rfl (lv_at hl 3 rfl) ?_
              refine va_get (D := D) (ci := 8) (v := .ref oy) (C := RX8) (T := TX8) (N := 21) hx hb hts inlX8 hown hK hP 0 rfl rfl 18 (by decide) (hts _ mw_95) (fun _ h9 => h9) rfl dX8_chance_123 ?_
              refine lv_iload hx hb dX8_chance_126 (lv_at hl 2 rfl) ?_
              refine lv_iconst (v := nI 1) hx hb dX8_chance_128 (by decide) ?_
              refine mv_isub hx hb (by omega) dX8_chance_129 ?_
              refine mv_lald hx hb hK hP 1 rfl (i := c2 - 1) (by omega) (by decide) dX8_chance_130 ?_
              refine lv_iload_n hx hb dX8_chance_131 rfl (lv_at hl 5 rfl) ?_
              refine lv_i2l (v := lN kx2) hx hb dX8_chance_132 (nI_l (by first | omega | exact Nat.lt_trans (bN_lt _) (by decide))) ?_
              refine mv_lmul hx hb dX8_chance_133 ?_
              refine lv_goto (tgt := 138) hx hb dX8_chance_134 (by decide) ?_
              exact L138  c2 ((gy (c2 - 1)) * kx2) (by first | assumption | omega | rfl) (by obtain ⟨c3, hc3⟩ : ∃ z, c2 = z + 1 := ⟨c2 - 1, by omega⟩; subst hc3; rw [hg2 (c3 + 1 - 1) (by omega)]; rfl) _ _ _ hP hD hS (lv_sub hl [0, 1, 2, 3, 4, 5, 6, 7] rfl)
      refine lv_iload hx hb dX8_chance_83 (lv_at hl 1 rfl) ?_
      refine lv_iload_n hx hb dX8_chance_85 rfl (lv_at hl 3 rfl) ?_
      refine mv_icmp_ge (tgt := 160) hx hb (by first | omega | exact Nat.lt_trans (bN_lt _) (by decide)) (by first | omega | decide) dX8_chance_86 (by decide) (fun c86 => ?_) (fun c86 => ?_)
      · skip
        refine lv_lconst (v := lN 0) hx hb dX8_chance_160 (by decide) ?_
        refine lv_lstore (lv' := [(7, .long (lN 0)), (5, .long (lN lw)), (0, .ref o), (1, .int (nI kx1)), (2, .int (nI kx2)), (3, .int (nI kx3)), (4, .int (nI kx4))]) hx hb dX8_chance_161 hl (by decide) rfl (fun ls hl => ?_)
        refine lv_iload_n hx hb dX8_chance_163 rfl (lv_at hl 5 rfl) ?_
        refine lv_istore (lv' := [(9, .int (nI kx3)), (7, .long (lN 0)), (5, .long (lN lw)), (0, .ref o), (1, .int (nI kx1)), (2, .int (nI kx2)), (3, .int (nI kx3)), (4, .int (nI kx4))]) hx hb dX8_chance_164 hl (by decide) rfl (fun ls hl => ?_)
        exact L166 (17 - kx3 + 1) kx3 0 (by first | assumption | omega | rfl) (by first | assumption | omega | rfl) (by rw [Nat.sub_self]; rfl) (fun j hj => by rw [← show i = kx1 by omega]; exact hg j hj) (by rw [hlw, show i = kx1 by omega]) (Nat.lt_succ_self _) _ _ _ hP hD hS (lv_sub hl [2, 1, 0, 3, 4, 5, 6, 7] rfl)
      · skip
        refine lv_bipush (v := nI 16) hx hb dX8_chance_89 (by decide) ?_
        refine lv_istore (lv' := [(8, .int (nI 16)), (5, .long (lN lw)), (7, .int (nI i)), (0, .ref o), (1, .int (nI kx1)), (2, .int (nI kx2)), (3, .int (nI kx3)), (4, .int (nI kx4))]) hx hb dX8_chance_91 hl (by decide) rfl (fun ls hl => ?_)
        exact L93 (17 + 1) 17 gz (by first | assumption | omega | rfl) (by first | assumption | omega | rfl) (fun j h1 h2 => by omega) (fun j h1 => hg j (by omega)) (Nat.lt_succ_self _) _ _ _ hP hD hS (lv_sub hl [1, 2, 0, 3, 4, 5, 6, 7] rfl)
  have L50 : ∀ (fu : Nat) (kx1 : Nat) (kx2 : Nat) (kx3 : Nat) (kx4 : Nat) (k : Nat) (gz : Nat → Nat) (e1 : x1 = nI kx1) (hi1 : kx1 ≤ 16) (e2 : x2 = nI kx2) (hi2 : kx2 ≤ 10) (e3 : x3 = nI kx3) (hi3 : kx3 ≤ 16) (e4 : x4 = nI kx4) (hi4 : kx4 ≤ 1) (hk : k ≤ 17) (hg : ∀ j, j < k → gz j = wayS kx2 0 j) (hmeas : 17 - k < fu) (H : Heap) (locs : List Loc) (ls : Array Slot), va_P D vwCl [(o, .inr (8, [.ref ob, .ref on, .ref ow8, .ref os, .ref oe, .int (nI sc8), .ref oi, .int (nI cn8), .ref op, .int (nI bt), .int (oI gA), .int (oI gR), .int rs8, .int (nI a8), .ref oz, .ref oc8, .ref oq, .ref om, .ref oy, .ref og, .ref ok8])), (oy, .inl (Y 1, 17, .inr (.inl (aL gz))))] H → va_D A [(o, .inr (8, [.ref ob, .ref on, .ref ow8, .ref os, .ref oe, .int (nI sc8), .ref oi, .int (nI cn8), .ref op, .int (nI bt), .int (oI gA), .int (oI gR), .int rs8, .int (nI a8), .ref oz, .ref oc8, .ref oq, .ref om, .ref oy, .ref og, .ref ok8])), (oy, .inl (Y 1, 17, .inr (.inl (aL gz))))] → va_S A s.heap H locs → lv_has ls 15 [(5, .long (lN 1)), (7, .int (nI k)), (0, .ref o), (1, .int (nI kx1)), (2, .int (nI kx2)), (3, .int (nI kx3)), (4, .int (nI kx4))] → W p l e (mv_R 1 0 0) s m [.ref o, .int x1, .int x2, .int x3, .int x4].toArray below meth c H locs 0 0 (MQ below ((q_X8_chance D Y o ob on ow8 os oe oi op oz oc8 oq om oy og ok8 sc8 cn8 bt a8 rs8 gA gR gw x1 x2 x3 x4) A) [.ref o, .int x1, .int x2, .int x3, .int x4].toArray s 0 0 A) (F0 m 50 ls []) := by
    intro fu
    induction fu with
    | zero =>
      intro kx1 kx2 kx3 kx4 k gz e1 hi1 e2 hi2 e3 hi3 e4 hi4 hk hg hmeas
      exact absurd hmeas (Nat.not_lt_zero _)
    | succ fu L50ih =>
      intro kx1 kx2 kx3 kx4 k gz e1 hi1 e2 hi2 e3 hi3 e4 hi4 hk hg hmeas H locs ls hP hD hS hl
      have L73 : ∀ (z0 : Nat) (hz0 : z0 = wayS kx2 0 k) (hk2 : k ≤ 16) (H : Heap) (locs : List Loc) (ls : Array Slot), va_P D vwCl [(o, .inr (8, [.ref ob, .ref on, .ref ow8, .ref os, .ref oe, .int (nI sc8), .ref oi, .int (nI cn8), .ref op, .int (nI bt), .int (oI gA), .int (oI gR), .int rs8, .int (nI a8), .ref oz, .ref oc8, .ref oq, .ref om, .ref oy, .ref og, .ref ok8])), (oy, .inl (Y 1, 17, .inr (.inl (aL gz))))] H → va_D A [(o, .inr (8, [.ref ob, .ref on, .ref ow8, .ref os, .ref oe, .int (nI sc8), .ref oi, .int (nI cn8), .ref op, .int (nI bt), .int (oI gA), .int (oI gR), .int rs8, .int (nI a8), .ref oz, .ref oc8, .ref oq, .ref om, .ref oy, .ref og, .ref ok8])), (oy, .inl (Y 1, 17, .inr (.inl (aL gz))))] → va_S A s.heap H locs → lv_has ls 15 [(5, .long (lN 1)), (7, .int (nI k)), (0, .ref o), (1, .int (nI kx1)), (2, .int (nI kx2)), (3, .int (nI kx3)), (4, .int (nI kx4))] → W p l e (mv_R 1 0 0) s m [.ref o, .int x1, .int x2, .int x3, .int x4].toArray below meth c H locs 0 0 (MQ below ((q_X8_chance D Y o ob on ow8 os oe oi op oz oc8 oq om oy og ok8 sc8 cn8 bt a8 rs8 gA gR gw x1 x2 x3 x4) A) [.ref o, .int x1, .int x2, .int x3, .int x4].toArray s 0 0 A) (F0 m 73 ls [.long (lN z0), .int (nI k), .ref oy]) := by
        intro z0 hz0 hk2 H locs ls hP hD hS hl
        refine mv_last hx hb hK hP hD hS 1 rfl (i := k) (v := z0) (by omega) (by decide) dX8_chance_73 (fun H locs hP hD hS => ?_)
        have hP : va_P D vwCl [(o, .inr (8, [.ref ob, .ref on, .ref ow8, .ref os, .ref oe, .int (nI sc8), .ref oi, .int (nI cn8), .ref op, .int (nI bt), .int (oI gA), .int (oI gR), .int rs8, .int (nI a8), .ref oz, .ref oc8, .ref oq, .ref om, .ref oy, .ref og, .ref ok8])), (oy, .inl (Y 1, 17, .inr (.inl (aL (uN gz k z0)))))] H := hP
        have hD : va_D A [(o, .inr (8, [.ref ob, .ref on, .ref ow8, .ref os, .ref oe, .int (nI sc8), .ref oi, .int (nI cn8), .ref op, .int (nI bt), .int (oI gA), .int (oI gR), .int rs8, .int (nI a8), .ref oz, .ref oc8, .ref oq, .ref om, .ref oy, .ref og, .ref ok8])), (oy, .inl (Y 1, 17, .inr (.inl (aL (uN gz k z0)))))] := hD
        refine lv_iinc (v := nI (k + 1)) (lv' := [(7, .int (nI (k + 1))), (5, .long (lN 1)), (0, .ref o), (1, .int (nI kx1)), (2, .int (nI kx2)), (3, .int (nI kx3)), (4, .int (nI kx4))]) hx hb dX8_chance_74 hl (k := 1) rfl (by exact nI_add _ 1) (by decide) rfl (fun ls hl => ?_)
        refine lv_goto (tgt := 50) hx hb dX8_chance_77 (by decide) ?_
        exact L50ih  kx1 kx2 kx3 kx4 (k + 1) (uN gz k z0) (by first | assumption | omega | rfl) (by first | assumption | omega | rfl) (by first | assumption | omega | rfl) (by first | assumption | omega | rfl) (by first | assumption | omega | rfl) (by first | assumption | omega | rfl) (by first | assumption | omega | rfl) (by first | assumption | omega | rfl) (by first | assumption | omega | rfl) (fun j hj => by by_cases e9 : j = k; rw [e9, uN_s]; exact hz0; rw [uN_n _ _ e9]; exact hg j (by omega)) (by omega) _ _ _ hP hD hS (lv_sub hl [1, 0, 2, 3, 4, 5, 6] rfl)
      refine lv_iload hx hb dX8_chance_50 (lv_at hl 1 rfl) ?_
      refine lv_bipush (v := nI 17) hx hb dX8_chance_52 (by decide) ?_
      refine mv_icmp_ge (tgt := 80) hx hb (by first | omega | exact Nat.lt_trans (bN_lt _) (by decide)) (by first | omega | decide) dX8_chance_54 (by decide) (fun c54 => ?_) (fun c54 => ?_)
      · skip
        refine lv_iconst (v := nI 0) hx hb dX8_chance_80 (by decide) ?_
        refine lv_istore (lv' := [(7, .int (nI 0)), (5, .long (lN 1)), (0, .ref o), (1, .int (nI kx1)), (2, .int (nI kx2)), (3, .int (nI kx3)), (4, .int (nI kx4))]) hx hb dX8_chance_81 hl (by decide) rfl (fun ls hl => ?_)
        exact L83 (kx1 - 0 + 1) kx1 kx2 kx3 kx4 0 1 gz (by first | assumption | omega | rfl) (by first | assumption | omega | rfl) (by first | assumption | omega | rfl) (by first | assumption | omega | rfl) (by first | assumption | omega | rfl) (by first | assumption | omega | rfl) (by first | assumption | omega | rfl) (by first | assumption | omega | rfl) (by first | assumption | omega | rfl) (rfl) (fun j hj => hg j (by omega)) (Nat.lt_succ_self _) _ _ _ hP hD hS (lv_sub hl [1, 0, 2, 3, 4, 5, 6] rfl)
      · skip
        refine lv_aload_n hx hb dX8_chance_57 rfl (lv_at hl 2 rfl) ?_
        refine va_get (D := D) (ci := 8) (v := .ref oy) (C := RX8) (T := TX8) (N := 21) hx hb hts inlX8 hown hK hP 0 rfl rfl 18 (by decide) (hts _ mw_95) (fun _ h9 => h9) rfl dX8_chance_58 ?_
        refine lv_iload hx hb dX8_chance_61 (lv_at hl 1 rfl) ?_
        refine lv_iload hx hb dX8_chance_63 (lv_at hl 1 rfl) ?_
        refine mv_if_ne (tgt := 72) hx hb (by first | omega | exact Nat.lt_trans (bN_lt _) (by decide)) dX8_chance_65 (by decide) (fun c65 => ?_) (fun c65 => ?_)
        · skip
          refine lv_lconst (v := lN 0) hx hb dX8_chance_72 (by decide) ?_
          exact L73  0 ((if_neg c65).symm) (by first | assumption | omega | rfl) _ _ _ hP hD hS (lv_sub hl [0, 1, 2, 3, 4, 5, 6] rfl)
        · skip
          refine lv_lconst (v := lN 1) hx hb dX8_chance_68 (by decide) ?_
          refine lv_goto (tgt := 73) hx hb dX8_chance_69 (by decide) ?_
          exact L73  1 ((if_pos (by omega)).symm) (by first | assumption | omega | rfl) _ _ _ hP hD hS (lv_sub hl [0, 1, 2, 3, 4, 5, 6] rfl)
  refine lv_iload_n hx hb dX8_chance_0 rfl (lv_at hl 1 rfl) ?_
  refine lv_iconst (v := nI 0) hx hb dX8_chance_1 (by decide) ?_
  refine lv_bipush (v := nI 16) hx hb dX8_chance_2 (by decide) ?_
  refine mv_callSi (nA := 3) (As := [.int x1, .int (nI 0), .int (nI 16)]) (rest := []) (Wc := []) (wr := [(o, .inr (8, [.ref ob, .ref on, .ref ow8, .ref os, .ref oe, .int (nI sc8), .ref oi, .int (nI cn8), .ref op, .int (nI bt), .int (oI gA), .int (oI gR), .int rs8, .int (nI a8), .ref oz, .ref oc8, .ref oq, .ref om, .ref oy, .ref og, .ref ok8])), (oy, .inl (Y 1, 17, .inr (.inl (aL gw))))]) hx hb hml hown hts hK hP hD hS hST hA hl.1 (c_X8_inR l D Y _ x1 0 16 ) [] [0, 1] rfl rfl (by decide) (by decide) (by decide) rfl mw_121 mw_122 mw_5 mw_123 ⟨by decide, by decide, by decide +kernel⟩ rfl ⟨Nat.le_of_ble_eq_true rfl, Nat.le_of_ble_eq_true rfl⟩ rfl (Nat.le_of_ble_eq_true rfl) dX8_chance_4 ⟨Nat.le_of_ble_eq_true rfl, Nat.le_of_ble_eq_true rfl⟩ (fun r_1 ux H locs hr4 hP hD hS hz4 => ?_)
  have hP := hP.sub (ws' := [(o, .inr (8, [.ref ob, .ref on, .ref ow8, .ref os, .ref oe, .int (nI sc8), .ref oi, .int (nI cn8), .ref op, .int (nI bt), .int (oI gA), .int (oI gR), .int rs8, .int (nI a8), .ref oz, .ref oc8, .ref oq, .ref om, .ref oy, .ref og, .ref ok8])), (oy, .inl (Y 1, 17, .inr (.inl (aL gw))))]) [0, 1] rfl
  have hD := hD.sub (ws' := [(o, .inr (8, [.ref ob, .ref on, .ref ow8, .ref os, .ref oe, .int (nI sc8), .ref oi, .int (nI cn8), .ref op, .int (nI bt), .int (oI gA), .int (oI gR), .int rs8, .int (nI a8), .ref oz, .ref oc8, .ref oq, .ref om, .ref oy, .ref og, .ref ok8])), (oy, .inl (Y 1, 17, .inr (.inl (aL gw))))]) [0, 1] (by decide) rfl
  have hr4 : r_1 = nI (bN (inQ x1 0 16)) := hr4
  subst hr4
  refine mv_if_eq (tgt := 40) hx hb (by first | omega | exact Nat.lt_trans (bN_lt _) (by decide)) dX8_chance_7 (by decide) (fun c7 => ?_) (fun c7 => ?_)
  · skip
    have hn_x1_c7 : inQ x1 0 16 = false := bN_0.mp c7
    refine lv_ldc2 (v := -1000000000000000002) hx hb hown (hts _ mw_602) dX8_chance_40 ?_
    exact mv_lret hx hb hr hlocks (gw) (by simp only [sp_chance, hn_x1_c7, Bool.not_true, Bool.not_false, if_true, if_false, Bool.false_eq_true, reduceIte, Bool.true_and, Bool.and_true, Bool.false_and, Bool.and_false, Bool.or_false, Bool.or_true, ite_self]) hP hK hD hS dX8_chance_43
  · skip
    obtain ⟨kx1, hka_x1, hkb_x1, rfl⟩ := inQ_ex (by decide) (bN_1.mp c7)
    have hq_x1 : inQ (nI kx1) 0 16 = true := bN_1.mp c7
    have hcl_x1 : (nI kx1).toNatClampNeg = kx1 := nI_clamp (by omega)
    refine lv_iload_n hx hb dX8_chance_10 rfl (lv_at hl 2 rfl) ?_
    refine lv_iconst (v := nI 0) hx hb dX8_chance_11 (by decide) ?_
    refine lv_bipush (v := nI 10) hx hb dX8_chance_12 (by decide) ?_
    refine mv_callSi (nA := 3) (As := [.int x2, .int (nI 0), .int (nI 10)]) (rest := []) (Wc := []) (wr := [(o, .inr (8, [.ref ob, .ref on, .ref ow8, .ref os, .ref oe, .int (nI sc8), .ref oi, .int (nI cn8), .ref op, .int (nI bt), .int (oI gA), .int (oI gR), .int rs8, .int (nI a8), .ref oz, .ref oc8, .ref oq, .ref om, .ref oy, .ref og, .ref ok8])), (oy, .inl (Y 1, 17, .inr (.inl (aL gw))))]) hx hb hml hown hts hK hP hD hS hST hA hl.1 (c_X8_inR l D Y _ x2 0 10 ) [] [0, 1] rfl rfl (by decide) (by decide) (by decide) rfl mw_121 mw_122 mw_5 mw_123 ⟨by decide, by decide, by decide +kernel⟩ rfl ⟨Nat.le_of_ble_eq_true rfl, Nat.le_of_ble_eq_true rfl⟩ rfl (Nat.le_of_ble_eq_true rfl) dX8_chance_14 ⟨Nat.le_of_ble_eq_true rfl, Nat.le_of_ble_eq_true rfl⟩ (fun r_2 ux H locs hr14 hP hD hS hz14 => ?_)
    have hP := hP.sub (ws' := [(o, .inr (8, [.ref ob, .ref on, .ref ow8, .ref os, .ref oe, .int (nI sc8), .ref oi, .int (nI cn8), .ref op, .int (nI bt), .int (oI gA), .int (oI gR), .int rs8, .int (nI a8), .ref oz, .ref oc8, .ref oq, .ref om, .ref oy, .ref og, .ref ok8])), (oy, .inl (Y 1, 17, .inr (.inl (aL gw))))]) [0, 1] rfl
    have hD := hD.sub (ws' := [(o, .inr (8, [.ref ob, .ref on, .ref ow8, .ref os, .ref oe, .int (nI sc8), .ref oi, .int (nI cn8), .ref op, .int (nI bt), .int (oI gA), .int (oI gR), .int rs8, .int (nI a8), .ref oz, .ref oc8, .ref oq, .ref om, .ref oy, .ref og, .ref ok8])), (oy, .inl (Y 1, 17, .inr (.inl (aL gw))))]) [0, 1] (by decide) rfl
    have hr14 : r_2 = nI (bN (inQ x2 0 10)) := hr14
    subst hr14
    refine mv_if_eq (tgt := 40) hx hb (by first | omega | exact Nat.lt_trans (bN_lt _) (by decide)) dX8_chance_17 (by decide) (fun c17 => ?_) (fun c17 => ?_)
    · skip
      have hn_x2_c17 : inQ x2 0 10 = false := bN_0.mp c17
      refine lv_ldc2 (v := -1000000000000000002) hx hb hown (hts _ mw_602) dX8_chance_40 ?_
      exact mv_lret hx hb hr hlocks (gw) (by simp only [sp_chance, hq_x1, hcl_x1, hn_x2_c17, Bool.not_true, Bool.not_false, if_true, if_false, Bool.false_eq_true, reduceIte, Bool.true_and, Bool.and_true, Bool.false_and, Bool.and_false, Bool.or_false, Bool.or_true, ite_self]) hP hK hD hS dX8_chance_43
    · skip
      obtain ⟨kx2, hka_x2, hkb_x2, rfl⟩ := inQ_ex (by decide) (bN_1.mp c17)
      have hq_x2 : inQ (nI kx2) 0 10 = true := bN_1.mp c17
      have hcl_x2 : (nI kx2).toNatClampNeg = kx2 := nI_clamp (by omega)
      refine lv_iload_n hx hb dX8_chance_20 rfl (lv_at hl 3 rfl) ?_
      refine lv_iconst (v := nI 0) hx hb dX8_chance_21 (by decide) ?_
      refine lv_bipush (v := nI 16) hx hb dX8_chance_22 (by decide) ?_
      refine mv_callSi (nA := 3) (As := [.int x3, .int (nI 0), .int (nI 16)]) (rest := []) (Wc := []) (wr := [(o, .inr (8, [.ref ob, .ref on, .ref ow8, .ref os, .ref oe, .int (nI sc8), .ref oi, .int (nI cn8), .ref op, .int (nI bt), .int (oI gA), .int (oI gR), .int rs8, .int (nI a8), .ref oz, .ref oc8, .ref oq, .ref om, .ref oy, .ref og, .ref ok8])), (oy, .inl (Y 1, 17, .inr (.inl (aL gw))))]) hx hb hml hown hts hK hP hD hS hST hA hl.1 (c_X8_inR l D Y _ x3 0 16 ) [] [0, 1] rfl rfl (by decide) (by decide) (by decide) rfl mw_121 mw_122 mw_5 mw_123 ⟨by decide, by decide, by decide +kernel⟩ rfl ⟨Nat.le_of_ble_eq_true rfl, Nat.le_of_ble_eq_true rfl⟩ rfl (Nat.le_of_ble_eq_true rfl) dX8_chance_24 ⟨Nat.le_of_ble_eq_true rfl, Nat.le_of_ble_eq_true rfl⟩ (fun r_3 ux H locs hr24 hP hD hS hz24 => ?_)
      have hP := hP.sub (ws' := [(o, .inr (8, [.ref ob, .ref on, .ref ow8, .ref os, .ref oe, .int (nI sc8), .ref oi, .int (nI cn8), .ref op, .int (nI bt), .int (oI gA), .int (oI gR), .int rs8, .int (nI a8), .ref oz, .ref oc8, .ref oq, .ref om, .ref oy, .ref og, .ref ok8])), (oy, .inl (Y 1, 17, .inr (.inl (aL gw))))]) [0, 1] rfl
      have hD := hD.sub (ws' := [(o, .inr (8, [.ref ob, .ref on, .ref ow8, .ref os, .ref oe, .int (nI sc8), .ref oi, .int (nI cn8), .ref op, .int (nI bt), .int (oI gA), .int (oI gR), .int rs8, .int (nI a8), .ref oz, .ref oc8, .ref oq, .ref om, .ref oy, .ref og, .ref ok8])), (oy, .inl (Y 1, 17, .inr (.inl (aL gw))))]) [0, 1] (by decide) rfl
      have hr24 : r_3 = nI (bN (inQ x3 0 16)) := hr24
      subst hr24
      refine mv_if_eq (tgt := 40) hx hb (by first | omega | exact Nat.lt_trans (bN_lt _) (by decide)) dX8_chance_27 (by decide) (fun c27 => ?_) (fun c27 => ?_)
      · skip
        have hn_x3_c27 : inQ x3 0 16 = false := bN_0.mp c27
        refine lv_ldc2 (v := -1000000000000000002) hx hb hown (hts _ mw_602) dX8_chance_40 ?_
        exact mv_lret hx hb hr hlocks (gw) (by simp only [sp_chance, hq_x1, hcl_x1, hq_x2, hcl_x2, hn_x3_c27, Bool.not_true, Bool.not_false, if_true, if_false, Bool.false_eq_true, reduceIte, Bool.true_and, Bool.and_true, Bool.false_and, Bool.and_false, Bool.or_false, Bool.or_true, ite_self]) hP hK hD hS dX8_chance_43
      · skip
        obtain ⟨kx3, hka_x3, hkb_x3, rfl⟩ := inQ_ex (by decide) (bN_1.mp c27)
        have hq_x3 : inQ (nI kx3) 0 16 = true := bN_1.mp c27
        have hcl_x3 : (nI kx3).toNatClampNeg = kx3 := nI_clamp (by omega)
        refine lv_iload hx hb dX8_chance_30 (lv_at hl 4 rfl) ?_
        refine lv_iconst (v := nI 0) hx hb dX8_chance_32 (by decide) ?_
        refine lv_iconst (v := nI 1) hx hb dX8_chance_33 (by decide) ?_
        refine mv_callSi (nA := 3) (As := [.int x4, .int (nI 0), .int (nI 1)]) (rest := []) (Wc := []) (wr := [(o, .inr (8, [.ref ob, .ref on, .ref ow8, .ref os, .ref oe, .int (nI sc8), .ref oi, .int (nI cn8), .ref op, .int (nI bt), .int (oI gA), .int (oI gR), .int rs8, .int (nI a8), .ref oz, .ref oc8, .ref oq, .ref om, .ref oy, .ref og, .ref ok8])), (oy, .inl (Y 1, 17, .inr (.inl (aL gw))))]) hx hb hml hown hts hK hP hD hS hST hA hl.1 (c_X8_inR l D Y _ x4 0 1 ) [] [0, 1] rfl rfl (by decide) (by decide) (by decide) rfl mw_121 mw_122 mw_5 mw_123 ⟨by decide, by decide, by decide +kernel⟩ rfl ⟨Nat.le_of_ble_eq_true rfl, Nat.le_of_ble_eq_true rfl⟩ rfl (Nat.le_of_ble_eq_true rfl) dX8_chance_34 ⟨Nat.le_of_ble_eq_true rfl, Nat.le_of_ble_eq_true rfl⟩ (fun r_4 ux H locs hr34 hP hD hS hz34 => ?_)
        have hP := hP.sub (ws' := [(o, .inr (8, [.ref ob, .ref on, .ref ow8, .ref os, .ref oe, .int (nI sc8), .ref oi, .int (nI cn8), .ref op, .int (nI bt), .int (oI gA), .int (oI gR), .int rs8, .int (nI a8), .ref oz, .ref oc8, .ref oq, .ref om, .ref oy, .ref og, .ref ok8])), (oy, .inl (Y 1, 17, .inr (.inl (aL gw))))]) [0, 1] rfl
        have hD := hD.sub (ws' := [(o, .inr (8, [.ref ob, .ref on, .ref ow8, .ref os, .ref oe, .int (nI sc8), .ref oi, .int (nI cn8), .ref op, .int (nI bt), .int (oI gA), .int (oI gR), .int rs8, .int (nI a8), .ref oz, .ref oc8, .ref oq, .ref om, .ref oy, .ref og, .ref ok8])), (oy, .inl (Y 1, 17, .inr (.inl (aL gw))))]) [0, 1] (by decide) rfl
        have hr34 : r_4 = nI (bN (inQ x4 0 1)) := hr34
        subst hr34
        refine mv_if_ne (tgt := 44) hx hb (by first | omega | exact Nat.lt_trans (bN_lt _) (by decide)) dX8_chance_37 (by decide) (fun c37 => ?_) (fun c37 => ?_)
        · skip
          obtain ⟨kx4, hka_x4, hkb_x4, rfl⟩ := inQ_ex (by decide) (bN_1.mp c37)
          have hq_x4 : inQ (nI kx4) 0 1 = true := bN_1.mp c37
          have hcl_x4 : (nI kx4).toNatClampNeg = kx4 := nI_clamp (by omega)
          refine lv_lconst (v := lN 1) hx hb dX8_chance_44 (by decide) ?_
          refine lv_lstore (lv' := [(5, .long (lN 1)), (0, .ref o), (1, .int (nI kx1)), (2, .int (nI kx2)), (3, .int (nI kx3)), (4, .int (nI kx4))]) hx hb dX8_chance_45 hl (by decide) rfl (fun ls hl => ?_)
          refine lv_iconst (v := nI 0) hx hb dX8_chance_47 (by decide) ?_
          refine lv_istore (lv' := [(7, .int (nI 0)), (5, .long (lN 1)), (0, .ref o), (1, .int (nI kx1)), (2, .int (nI kx2)), (3, .int (nI kx3)), (4, .int (nI kx4))]) hx hb dX8_chance_48 hl (by decide) rfl (fun ls hl => ?_)
          exact L50 (17 - 0 + 1) kx1 kx2 kx3 kx4 0 gw (by first | assumption | omega | rfl) (by first | assumption | omega | rfl) (by first | assumption | omega | rfl) (by first | assumption | omega | rfl) (by first | assumption | omega | rfl) (by first | assumption | omega | rfl) (by first | assumption | omega | rfl) (by first | assumption | omega | rfl) (by first | assumption | omega | rfl) (fun j hj => absurd hj (Nat.not_lt_zero _)) (Nat.lt_succ_self _) _ _ _ hP hD hS (lv_sub hl [1, 0, 2, 3, 4, 5, 6] rfl)
        · skip
          have hn_x4_c37 : inQ x4 0 1 = false := bN_0.mp c37
          refine lv_ldc2 (v := -1000000000000000002) hx hb hown (hts _ mw_602) dX8_chance_40 ?_
          exact mv_lret hx hb hr hlocks (gw) (by simp only [sp_chance, hq_x1, hcl_x1, hq_x2, hcl_x2, hq_x3, hcl_x3, hn_x4_c37, Bool.not_true, Bool.not_false, if_true, if_false, Bool.false_eq_true, reduceIte, Bool.true_and, Bool.and_true, Bool.false_and, Bool.and_false, Bool.or_false, Bool.or_true, ite_self]) hP hK hD hS dX8_chance_43
