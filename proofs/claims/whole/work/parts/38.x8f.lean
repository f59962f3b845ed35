abbrev q_X8_seen (D : va_G) (Y : Nat → ClassId) (o : Nat) (ob : Nat) (on : Nat) (ow8 : Nat) (os : Nat) (oe : Nat) (oi : Nat) (op : Nat) (oz : Nat) (oc8 : Nat) (oq : Nat) (om : Nat) (oy : Nat) (og : Nat) (ok8 : Nat) (sc8 : Nat) (cn8 : Nat) (bt : Nat) (a8 : Nat) (rs8 : Int32) (gA : Option Nat) (gR : Option Nat) (gsi : Nat → Nat) (bs : Nat) (x1 : Int32) (b : Nat) : (Nat → Prop) → Array Value → State → Outcome → State → Prop := mv_Qi D Y (fun (r : Int32) (ux : (Nat → Nat) × Nat × Nat) => (r, ux.1, ux.2.1, ux.2.2) = sp_seen gsi bs sc8 x1 b) (fun ux : (Nat → Nat) × Nat × Nat => ([(o, .inr (8, [.ref ob, .ref on, .ref ow8, .ref os, .ref oe, .int (nI ux.2.2), .ref oi, .int (nI cn8), .ref op, .int (nI bt), .int (oI gA), .int (oI gR), .int rs8, .int (nI a8), .ref oz, .ref oc8, .ref oq, .ref om, .ref oy, .ref og, .ref ok8])), (oi, .inl (Y 0, 16, .inl (aN (sgt ux.1 ux.2.1))))] : va_W))
set_option maxHeartbeats 4000000 in
set_option maxRecDepth 100000 in
theorem c_X8_seen (l : Launch) (D : va_G) (Y : Nat → ClassId) (sz : Nat) (o : Nat) (ob : Nat) (on : Nat) (ow8 : Nat) (os : Nat) (oe : Nat) (oi : Nat) (op : Nat) (oz : Nat) (oc8 : Nat) (oq : Nat) (om : Nat) (oy : Nat) (og : Nat) (ok8 : Nat) (sc8 : Nat) (cn8 : Nat) (bt : Nat) (a8 : Nat) (rs8 : Int32) (gA : Option Nat) (gR : Option Nat) (gsi : Nat → Nat) (bs : Nat) (x1 : Int32) (b : Nat) (hsc : sc8 ≤ 8) (hbs : bs < 2 ^ 31) (hb2 : b < 2) : mv_C l D Y yX8_seen cX8_seen 3 (some .int) 1 0 0 [.ref o, .int x1, .int (nI b)] sz [(o, .inr (8, [.ref ob, .ref on, .ref ow8, .ref os, .ref oe, .int (nI sc8), .ref oi, .int (nI cn8), .ref op, .int (nI bt), .int (oI gA), .int (oI gR), .int rs8, .int (nI a8), .ref oz, .ref oc8, .ref oq, .ref om, .ref oy, .ref og, .ref ok8])), (oi, .inl (Y 0, 16, .inl (aN (sgt gsi bs))))] (q_X8_seen D Y o ob on ow8 os oe oi op oz oc8 oq om oy og ok8 sc8 cn8 bt a8 rs8 gA gR gsi bs x1 b) := by
  refine mv_ofW (by decide) (Nat.le_of_ble_eq_true rfl) ?_
  intro p e s m below meth c ls A hx hb hr hlocks hml hnm hown hts hsz hAe hP hK hD hS hST hA hl
  have hl : lv_has ls 3 [(0, .ref o), (1, .int x1), (2, .int (nI b))] := hl
  refine lv_iload_n hx hb dX8_seen_0 rfl (lv_at hl 1 rfl) ?_
  refine lv_iconst (v := nI 1) hx hb dX8_seen_1 (by decide) ?_
  refine lv_sipush (v := nI 1023) hx hb dX8_seen_2 (by decide) ?_
  refine mv_callSi (nA := 3) (As := [.int x1, .int (nI 1), .int (nI 1023)]) (rest := []) (Wc := []) (wr := [(o, .inr (8, [.ref ob, .ref on, .ref ow8, .ref os, .ref oe, .int (nI sc8), .ref oi, .int (nI cn8), .ref op, .int (nI bt), .int (oI gA), .int (oI gR), .int rs8, .int (nI a8), .ref oz, .ref oc8, .ref oq, .ref om, .ref oy, .ref og, .ref ok8])), (oi, .inl (Y 0, 16, .inl (aN (sgt gsi bs))))]) hx hb hml hown hts hK hP hD hS hST hA hl.1 (c_X8_inR l D Y _ x1 1 1023 ) [] [0, 1] rfl rfl (by decide) (by decide) (by decide) rfl mw_121 mw_122 mw_5 mw_123 ⟨by decide, by decide, by decide +kernel⟩ rfl ⟨Nat.le_of_ble_eq_true rfl, Nat.le_of_ble_eq_true rfl⟩ rfl (Nat.le_of_ble_eq_true rfl) dX8_seen_5 ⟨Nat.le_of_ble_eq_true rfl, Nat.le_of_ble_eq_true rfl⟩ (fun r_1 ux H locs hr5 hP hD hS hz5 => ?_)
  have hP := hP.sub (ws' := [(o, .inr (8, [.ref ob, .ref on, .ref ow8, .ref os, .ref oe, .int (nI sc8), .ref oi, .int (nI cn8), .ref op, .int (nI bt), .int (oI gA), .int (oI gR), .int rs8, .int (nI a8), .ref oz, .ref oc8, .ref oq, .ref om, .ref oy, .ref og, .ref ok8])), (oi, .inl (Y 0, 16, .inl (aN (sgt gsi bs))))]) [0, 1] rfl
  have hD := hD.sub (ws' := [(o, .inr (8, [.ref ob, .ref on, .ref ow8, .ref os, .ref oe, .int (nI sc8), .ref oi, .int (nI cn8), .ref op, .int (nI bt), .int (oI gA), .int (oI gR), .int rs8, .int (nI a8), .ref oz, .ref oc8, .ref oq, .ref om, .ref oy, .ref og, .ref ok8])), (oi, .inl (Y 0, 16, .inl (aN (sgt gsi bs))))]) [0, 1] (by decide) rfl
  have hr5 : r_1 = nI (bN (inQ x1 1 1023)) := hr5
  subst hr5
  refine mv_if_ne (tgt := 14) hx hb (by first | omega | exact Nat.lt_trans (bN_lt _) (by decide)) dX8_seen_8 (by decide) (fun c8 => ?_) (fun c8 => ?_)
  · skip
    obtain ⟨kx1, hka_x1, hkb_x1, rfl⟩ := inQ_ex (by decide) (bN_1.mp c8)
    have hq_x1 : inQ (nI kx1) 1 1023 = true := bN_1.mp c8
    have hcl_x1 : (nI kx1).toNatClampNeg = kx1 := nI_clamp (by omega)
    refine lv_aload_n hx hb dX8_seen_14 rfl (lv_at hl 0 rfl) ?_
    refine va_get (D := D) (ci := 8) (v := .int (nI sc8)) (C := RX8) (T := TX8) (N := 21) hx hb hts inlX8 hown hK hP 0 rfl rfl 5 (by decide) (hts _ mw_98) (fun _ h9 => h9) rfl dX8_seen_15 ?_
    refine lv_bipush (v := nI 8) hx hb dX8_seen_18 (by decide) ?_
    refine mv_icmp_ne (tgt := 26) hx hb (by first | omega | exact Nat.lt_trans (bN_lt _) (by decide)) (by omega) dX8_seen_20 (by decide) (fun c20 => ?_) (fun c20 => ?_)
    · skip
      refine lv_aload_n hx hb dX8_seen_26 rfl (lv_at hl 0 rfl) ?_
      refine va_get (D := D) (ci := 8) (v := .ref oi) (C := RX8) (T := TX8) (N := 21) hx hb hts inlX8 hown hK hP 0 rfl rfl 6 (by decide) (hts _ mw_88) (fun _ h9 => h9) rfl dX8_seen_27 ?_
      refine lv_iconst (v := nI 2) hx hb dX8_seen_30 (by decide) ?_
      refine lv_aload_n hx hb dX8_seen_31 rfl (lv_at hl 0 rfl) ?_
      refine va_get (D := D) (ci := 8) (v := .int (nI sc8)) (C := RX8) (T := TX8) (N := 21) hx hb hts inlX8 hown hK hP 0 rfl rfl 5 (by decide) (hts _ mw_98) (fun _ h9 => h9) rfl dX8_seen_32 ?_
      refine mv_imul hx hb dX8_seen_35 ?_
      refine lv_iload_n hx hb dX8_seen_36 rfl (lv_at hl 1 rfl) ?_
      refine mv_iast hx hb hK hP hD hS 1 rfl (i := 2 * sc8) (v := kx1) (by omega) (by decide) dX8_seen_37 (fun H locs hP hD hS => ?_)
      have hP : va_P D vwCl [(o, .inr (8, [.ref ob, .ref on, .ref ow8, .ref os, .ref oe, .int (nI sc8), .ref oi, .int (nI cn8), .ref op, .int (nI bt), .int (oI gA), .int (oI gR), .int rs8, .int (nI a8), .ref oz, .ref oc8, .ref oq, .ref om, .ref oy, .ref og, .ref ok8])), (oi, .inl (Y 0, 16, .inl (aN (uN (sgt gsi bs) (2 * sc8) kx1))))] H := hP
      have hD : va_D A [(o, .inr (8, [.ref ob, .ref on, .ref ow8, .ref os, .ref oe, .int (nI sc8), .ref oi, .int (nI cn8), .ref op, .int (nI bt), .int (oI gA), .int (oI gR), .int rs8, .int (nI a8), .ref oz, .ref oc8, .ref oq, .ref om, .ref oy, .ref og, .ref ok8])), (oi, .inl (Y 0, 16, .inl (aN (uN (sgt gsi bs) (2 * sc8) kx1))))] := hD
      refine lv_aload_n hx hb dX8_seen_38 rfl (lv_at hl 0 rfl) ?_
      refine va_get (D := D) (ci := 8) (v := .ref oi) (C := RX8) (T := TX8) (N := 21) hx hb hts inlX8 hown hK hP 0 rfl rfl 6 (by decide) (hts _ mw_88) (fun _ h9 => h9) rfl dX8_seen_39 ?_
      refine lv_iconst (v := nI 2) hx hb dX8_seen_42 (by decide) ?_
      refine lv_aload_n hx hb dX8_seen_43 rfl (lv_at hl 0 rfl) ?_
      refine va_get (D := D) (ci := 8) (v := .int (nI sc8)) (C := RX8) (T := TX8) (N := 21) hx hb hts inlX8 hown hK hP 0 rfl rfl 5 (by decide) (hts _ mw_98) (fun _ h9 => h9) rfl dX8_seen_44 ?_
      refine mv_imul hx hb dX8_seen_47 ?_
      refine lv_iconst (v := nI 1) hx hb dX8_seen_48 (by decide) ?_
      refine mv_iadd hx hb dX8_seen_49 ?_
      rcases (show b = 0 ∨ b = 1 by omega) with rfl | rfl
      · skip
        skip
        refine lv_iload_n hx hb dX8_seen_50 rfl (lv_at hl 2 rfl) ?_
        refine mv_if_eq (tgt := 58) hx hb (by first | omega | exact Nat.lt_trans (bN_lt _) (by decide)) dX8_seen_51 (by decide) (fun c51 => ?_) (fun c51 => ?_)
        · skip
          refine lv_iconst (v := nI 0) hx hb dX8_seen_58 (by decide) ?_
          refine mv_iast hx hb hK hP hD hS 1 rfl (i := (2 * sc8) + 1) (v := 0) (by omega) (by decide) dX8_seen_59 (fun H locs hP hD hS => ?_)
          have hP : va_P D vwCl [(o, .inr (8, [.ref ob, .ref on, .ref ow8, .ref os, .ref oe, .int (nI sc8), .ref oi, .int (nI cn8), .ref op, .int (nI bt), .int (oI gA), .int (oI gR), .int rs8, .int (nI a8), .ref oz, .ref oc8, .ref oq, .ref om, .ref oy, .ref og, .ref ok8])), (oi, .inl (Y 0, 16, .inl (aN (uN (uN (sgt gsi bs) (2 * sc8) kx1) ((2 * sc8) + 1) 0))))] H := hP
          have hD : va_D A [(o, .inr (8, [.ref ob, .ref on, .ref ow8, .ref os, .ref oe, .int (nI sc8), .ref oi, .int (nI cn8), .ref op, .int (nI bt), .int (oI gA), .int (oI gR), .int rs8, .int (nI a8), .ref oz, .ref oc8, .ref oq, .ref om, .ref oy, .ref og, .ref ok8])), (oi, .inl (Y 0, 16, .inl (aN (uN (uN (sgt gsi bs) (2 * sc8) kx1) ((2 * sc8) + 1) 0))))] := hD
          skip
          rw [show uN (uN (sgt gsi bs) (2 * sc8) kx1) (2 * sc8 + 1) 0 = sgt (uN gsi sc8 kx1) (addB bs sc8 0) from sgt_add (by omega) (by omega) (by omega)] at hP hD
          refine lv_aload_n hx hb dX8_seen_60 rfl (lv_at hl 0 rfl) ?_
          refine lv_dup hx hb dX8_seen_61 rfl ?_
          refine va_get (D := D) (ci := 8) (v := .int (nI sc8)) (C := RX8) (T := TX8) (N := 21) hx hb hts inlX8 hown hK hP 0 rfl rfl 5 (by decide) (hts _ mw_98) (fun _ h9 => h9) rfl dX8_seen_62 ?_
          refine lv_iconst (v := nI 1) hx hb dX8_seen_65 (by decide) ?_
          refine mv_iadd hx hb dX8_seen_66 ?_
          refine va_put (D := D) (ci := 8) (v := .int (nI (sc8 + 1))) (ty := .int) (C := RX8) (T := TX8) (N := 21) hx hb hts inlX8 tyX8 tyX8_ok nmX8 hown hK hP hD hS 0 rfl rfl 5 (by decide) (hts _ mw_98) (fun _ h9 => h9) rfl (by decide +kernel) rfl rfl (Nat.le_of_ble_eq_true rfl) dX8_seen_67 (fun H locs hP hD hS => ?_)
          have hP : va_P D vwCl [(o, .inr (8, [.ref ob, .ref on, .ref ow8, .ref os, .ref oe, .int (nI (sc8 + 1)), .ref oi, .int (nI cn8), .ref op, .int (nI bt), .int (oI gA), .int (oI gR), .int rs8, .int (nI a8), .ref oz, .ref oc8, .ref oq, .ref om, .ref oy, .ref og, .ref ok8])), (oi, .inl (Y 0, 16, .inl (aN (sgt (uN gsi sc8 kx1) (addB bs sc8 0)))))] H := hP
          have hD : va_D A [(o, .inr (8, [.ref ob, .ref on, .ref ow8, .ref os, .ref oe, .int (nI (sc8 + 1)), .ref oi, .int (nI cn8), .ref op, .int (nI bt), .int (oI gA), .int (oI gR), .int rs8, .int (nI a8), .ref oz, .ref oc8, .ref oq, .ref om, .ref oy, .ref og, .ref ok8])), (oi, .inl (Y 0, 16, .inl (aN (sgt (uN gsi sc8 kx1) (addB bs sc8 0)))))] := hD
          refine lv_aload_n hx hb dX8_seen_70 rfl (lv_at hl 0 rfl) ?_
          refine va_get (D := D) (ci := 8) (v := .int (nI (sc8 + 1))) (C := RX8) (T := TX8) (N := 21) hx hb hts inlX8 hown hK hP 0 rfl rfl 5 (by decide) (hts _ mw_98) (fun _ h9 => h9) rfl dX8_seen_71 ?_
          exact mv_iret hx hb hr hlocks (uN gsi sc8 kx1, addB bs sc8 0, sc8 + 1) (by simp only [sp_seen, hq_x1, hcl_x1, Bool.not_true, Bool.not_false, if_true, if_false, Bool.false_eq_true, reduceIte, Bool.true_and, Bool.and_true, Bool.false_and, Bool.and_false, Bool.or_false, Bool.or_true, ite_self] <;> rw [if_neg (by omega)]) hP hK hD hS dX8_seen_74
        · skip
          exact absurd rfl c51
      · skip
        skip
        refine lv_iload_n hx hb dX8_seen_50 rfl (lv_at hl 2 rfl) ?_
        refine mv_if_eq (tgt := 58) hx hb (by first | omega | exact Nat.lt_trans (bN_lt _) (by decide)) dX8_seen_51 (by decide) (fun c51 => ?_) (fun c51 => ?_)
        · skip
          exact absurd c51 (by decide)
        · skip
          refine lv_iconst (v := nI 1) hx hb dX8_seen_54 (by decide) ?_
          refine lv_goto (tgt := 59) hx hb dX8_seen_55 (by decide) ?_
          refine mv_iast hx hb hK hP hD hS 1 rfl (i := (2 * sc8) + 1) (v := 1) (by omega) (by decide) dX8_seen_59 (fun H locs hP hD hS => ?_)
          have hP : va_P D vwCl [(o, .inr (8, [.ref ob, .ref on, .ref ow8, .ref os, .ref oe, .int (nI sc8), .ref oi, .int (nI cn8), .ref op, .int (nI bt), .int (oI gA), .int (oI gR), .int rs8, .int (nI a8), .ref oz, .ref oc8, .ref oq, .ref om, .ref oy, .ref og, .ref ok8])), (oi, .inl (Y 0, 16, .inl (aN (uN (uN (sgt gsi bs) (2 * sc8) kx1) ((2 * sc8) + 1) 1))))] H := hP
          have hD : va_D A [(o, .inr (8, [.ref ob, .ref on, .ref ow8, .ref os, .ref oe, .int (nI sc8), .ref oi, .int (nI cn8), .ref op, .int (nI bt), .int (oI gA), .int (oI gR), .int rs8, .int (nI a8), .ref oz, .ref oc8, .ref oq, .ref om, .ref oy, .ref og, .ref ok8])), (oi, .inl (Y 0, 16, .inl (aN (uN (uN (sgt gsi bs) (2 * sc8) kx1) ((2 * sc8) + 1) 1))))] := hD
          skip
          rw [show uN (uN (sgt gsi bs) (2 * sc8) kx1) (2 * sc8 + 1) 1 = sgt (uN gsi sc8 kx1) (addB bs sc8 1) from sgt_add (by omega) (by omega) (by omega)] at hP hD
          refine lv_aload_n hx hb dX8_seen_60 rfl (lv_at hl 0 rfl) ?_
          refine lv_dup hx hb dX8_seen_61 rfl ?_
          refine va_get (D := D) (ci := 8) (v := .int (nI sc8)) (C := RX8) (T := TX8) (N := 21) hx hb hts inlX8 hown hK hP 0 rfl rfl 5 (by decide) (hts _ mw_98) (fun _ h9 => h9) rfl dX8_seen_62 ?_
          refine lv_iconst (v := nI 1) hx hb dX8_seen_65 (by decide) ?_
          refine mv_iadd hx hb dX8_seen_66 ?_
          refine va_put (D := D) (ci := 8) (v := .int (nI (sc8 + 1))) (ty := .int) (C := RX8) (T := TX8) (N := 21) hx hb hts inlX8 tyX8 tyX8_ok nmX8 hown hK hP hD hS 0 rfl rfl 5 (by decide) (hts _ mw_98) (fun _ h9 => h9) rfl (by decide +kernel) rfl rfl (Nat.le_of_ble_eq_true rfl) dX8_seen_67 (fun H locs hP hD hS => ?_)
          have hP : va_P D vwCl [(o, .inr (8, [.ref ob, .ref on, .ref ow8, .ref os, .ref oe, .int (nI (sc8 + 1)), .ref oi, .int (nI cn8), .ref op, .int (nI bt), .int (oI gA), .int (oI gR), .int rs8, .int (nI a8), .ref oz, .ref oc8, .ref oq, .ref om, .ref oy, .ref og, .ref ok8])), (oi, .inl (Y 0, 16, .inl (aN (sgt (uN gsi sc8 kx1) (addB bs sc8 1)))))] H := hP
          have hD : va_D A [(o, .inr (8, [.ref ob, .ref on, .ref ow8, .ref os, .ref oe, .int (nI (sc8 + 1)), .ref oi, .int (nI cn8), .ref op, .int (nI bt), .int (oI gA), .int (oI gR), .int rs8, .int (nI a8), .ref oz, .ref oc8, .ref oq, .ref om, .ref oy, .ref og, .ref ok8])), (oi, .inl (Y 0, 16, .inl (aN (sgt (uN gsi sc8 kx1) (addB bs sc8 1)))))] := hD
          refine lv_aload_n hx hb dX8_seen_70 rfl (lv_at hl 0 rfl) ?_
          refine va_get (D := D) (ci := 8) (v := .int (nI (sc8 + 1))) (C := RX8) (T := TX8) (N := 21) hx hb hts inlX8 hown hK hP 0 rfl rfl 5 (by decide) (hts _ mw_98) (fun _ h9 => h9) rfl dX8_seen_71 ?_
          exact mv_iret hx hb hr hlocks (uN gsi sc8 kx1, addB bs sc8 1, sc8 + 1) (by simp only [sp_seen, hq_x1, hcl_x1, Bool.not_true, Bool.not_false, if_true, if_false, Bool.false_eq_true, reduceIte, Bool.true_and, Bool.and_true, Bool.false_and, Bool.and_false, Bool.or_false, Bool.or_true, ite_self] <;> rw [if_neg (by omega)]) hP hK hD hS dX8_seen_74
    · skip
      refine lv_bipush (v := -4) hx hb dX8_seen_23 (by decide) ?_
      exact mv_iret hx hb hr hlocks (gsi, bs, sc8) (by simp only [sp_seen, hq_x1, hcl_x1, Bool.not_true, Bool.not_false, if_true, if_false, Bool.false_eq_true, reduceIte, Bool.true_and, Bool.and_true, Bool.false_and, Bool.and_false, Bool.or_false, Bool.or_true, ite_self] <;> rw [if_pos (by omega)]) hP hK hD hS dX8_seen_25
  · skip
    have hn_x1_c8 : inQ x1 1 1023 = false := bN_0.mp c8
    refine lv_bipush (v := -2) hx hb dX8_seen_11 (by decide) ?_
    exact mv_iret hx hb hr hlocks (gsi, bs, sc8) (by simp only [sp_seen, hn_x1_c8, Bool.not_true, Bool.not_false, if_true, if_false, Bool.false_eq_true, reduceIte, Bool.true_and, Bool.and_true, Bool.false_and, Bool.and_false, Bool.or_false, Bool.or_true, ite_self]) hP hK hD hS dX8_seen_13
abbrev q_X8_forget (D : va_G) (Y : Nat → ClassId) (o : Nat) (ob : Nat) (on : Nat) (ow8 : Nat) (os : Nat) (oe : Nat) (oi : Nat) (op : Nat) (oz : Nat) (oc8 : Nat) (oq : Nat) (om : Nat) (oy : Nat) (og : Nat) (ok8 : Nat) (sc8 : Nat) (cn8 : Nat) (bt : Nat) (a8 : Nat) (rs8 : Int32) (gA : Option Nat) (gR : Option Nat) : (Nat → Prop) → Array Value → State → Outcome → State → Prop := mv_Qi D Y (fun (r : Int32) (_ : Unit) => r = nI sc8) (fun _ : Unit => ([(o, .inr (8, [.ref ob, .ref on, .ref ow8, .ref os, .ref oe, .int (nI 0), .ref oi, .int (nI cn8), .ref op, .int (nI bt), .int (oI gA), .int (oI gR), .int rs8, .int (nI a8), .ref oz, .ref oc8, .ref oq, .ref om, .ref oy, .ref og, .ref ok8]))] : va_W))
set_option maxHeartbeats 4000000 in
set_option maxRecDepth 100000 in
theorem c_X8_forget (l : Launch) (D : va_G) (Y : Nat → ClassId) (sz : Nat) (o : Nat) (ob : Nat) (on : Nat) (ow8 : Nat) (os : Nat) (oe : Nat) (oi : Nat) (op : Nat) (oz : Nat) (oc8 : Nat) (oq : Nat) (om : Nat) (oy : Nat) (og : Nat) (ok8 : Nat) (sc8 : Nat) (cn8 : Nat) (bt : Nat) (a8 : Nat) (rs8 : Int32) (gA : Option Nat) (gR : Option Nat)  : mv_C l D Y yX8_forget cX8_forget 2 (some .int) 0 0 0 [.ref o] sz [(o, .inr (8, [.ref ob, .ref on, .ref ow8, .ref os, .ref oe, .int (nI sc8), .ref oi, .int (nI cn8), .ref op, .int (nI bt), .int (oI gA), .int (oI gR), .int rs8, .int (nI a8), .ref oz, .ref oc8, .ref oq, .ref om, .ref oy, .ref og, .ref ok8]))] (q_X8_forget D Y o ob on ow8 os oe oi op oz oc8 oq om oy og ok8 sc8 cn8 bt a8 rs8 gA gR) := by
  refine mv_ofW (by decide) (Nat.le_of_ble_eq_true rfl) ?_
  intro p e s m below meth c ls A hx hb hr hlocks hml hnm hown hts hsz hAe hP hK hD hS hST hA hl
  have hl : lv_has ls 2 [(0, .ref o)] := hl
  refine lv_aload_n hx hb dX8_forget_0 rfl (lv_at hl 0 rfl) ?_
  refine va_get (D := D) (ci := 8) (v := .int (nI sc8)) (C := RX8) (T := TX8) (N := 21) hx hb hts inlX8 hown hK hP 0 rfl rfl 5 (by decide) (hts _ mw_98) (fun _ h9 => h9) rfl dX8_forget_1 ?_
  refine lv_istore_n (lv' := [(1, .int (nI sc8)), (0, .ref o)]) hx hb dX8_forget_4 rfl hl (by decide) rfl (fun ls hl => ?_)
  refine lv_aload_n hx hb dX8_forget_5 rfl (lv_at hl 1 rfl) ?_
  refine lv_iconst (v := nI 0) hx hb dX8_forget_6 (by decide) ?_
  refine va_put (D := D) (ci := 8) (v := .int (nI 0)) (ty := .int) (C := RX8) (T := TX8) (N := 21) hx hb hts inlX8 tyX8 tyX8_ok nmX8 hown hK hP hD hS 0 rfl rfl 5 (by decide) (hts _ mw_98) (fun _ h9 => h9) rfl (by decide +kernel) rfl rfl (Nat.le_of_ble_eq_true rfl) dX8_forget_7 (fun H locs hP hD hS => ?_)
  have hP : va_P D vwCl [(o, .inr (8, [.ref ob, .ref on, .ref ow8, .ref os, .ref oe, .int (nI 0), .ref oi, .int (nI cn8), .ref op, .int (nI bt), .int (oI gA), .int (oI gR), .int rs8, .int (nI a8), .ref oz, .ref oc8, .ref oq, .ref om, .ref oy, .ref og, .ref ok8]))] H := hP
  have hD : va_D A [(o, .inr (8, [.ref ob, .ref on, .ref ow8, .ref os, .ref oe, .int (nI 0), .ref oi, .int (nI cn8), .ref op, .int (nI bt), .int (oI gA), .int (oI gR), .int rs8, .int (nI a8), .ref oz, .ref oc8, .ref oq, .ref om, .ref oy, .ref og, .ref ok8]))] := hD
  refine lv_iload_n hx hb dX8_forget_10 rfl (lv_at hl 0 rfl) ?_
  exact mv_iret hx hb hr hlocks () (rfl) hP hK hD hS dX8_forget_11
abbrev q_X8_areLies (D : va_G) (Y : Nat → ClassId) (o : Nat) (ob : Nat) (on : Nat) (ow8 : Nat) (os : Nat) (oe : Nat) (oi : Nat) (op : Nat) (oz : Nat) (oc8 : Nat) (oq : Nat) (om : Nat) (oy : Nat) (og : Nat) (ok8 : Nat) (sc8 : Nat) (cn8 : Nat) (bt : Nat) (a8 : Nat) (rs8 : Int32) (gA : Option Nat) (gR : Option Nat) (gsi : Nat → Nat) (bs : Nat) (k : Nat) (mm : Nat) : (Nat → Prop) → Array Value → State → Outcome → State → Prop := mv_Qi D Y (fun (r : Int32) (_ : Unit) => r = nI (bN (ftS mm gsi bs sc8 k))) (fun _ : Unit => ([(o, .inr (8, [.ref ob, .ref on, .ref ow8, .ref os, .ref oe, .int (nI sc8), .ref oi, .int (nI cn8), .ref op, .int (nI bt), .int (oI gA), .int (oI gR), .int rs8, .int (nI a8), .ref oz, .ref oc8, .ref oq, .ref om, .ref oy, .ref og, .ref ok8])), (oi, .inl (Y 0, 16, .inl (aN (sgt gsi bs))))] : va_W))
set_option maxHeartbeats 4000000 in
set_option maxRecDepth 100000 in
theorem c_X8_areLies (l : Launch) (D : va_G) (Y : Nat → ClassId) (sz : Nat) (o : Nat) (ob : Nat) (on : Nat) (ow8 : Nat) (os : Nat) (oe : Nat) (oi : Nat) (op : Nat) (oz : Nat) (oc8 : Nat) (oq : Nat) (om : Nat) (oy : Nat) (og : Nat) (ok8 : Nat) (sc8 : Nat) (cn8 : Nat) (bt : Nat) (a8 : Nat) (rs8 : Int32) (gA : Option Nat) (gR : Option Nat) (gsi : Nat → Nat) (bs : Nat) (k : Nat) (mm : Nat) (hsc : sc8 ≤ 8) (hk : k < 1024) (hmm : mm < 2 ^ 31) : mv_C l D Y yX8_areLies cX8_areLies 5 (some .boolean) 1 0 0 [.ref o, .int (nI k), .int (nI mm)] sz [(o, .inr (8, [.ref ob, .ref on, .ref ow8, .ref os, .ref oe, .int (nI sc8), .ref oi, .int (nI cn8), .ref op, .int (nI bt), .int (oI gA), .int (oI gR), .int rs8, .int (nI a8), .ref oz, .ref oc8, .ref oq, .ref om, .ref oy, .ref og, .ref ok8])), (oi, .inl (Y 0, 16, .inl (aN (sgt gsi bs))))] (q_X8_areLies D Y o ob on ow8 os oe oi op oz oc8 oq om oy og ok8 sc8 cn8 bt a8 rs8 gA gR gsi bs k mm) := by
  refine mv_ofW (by decide) (Nat.le_of_ble_eq_true rfl) ?_
  intro p e s m below meth c ls A hx hb hr hlocks hml hnm hown hts hsz hAe hP hK hD hS hST hA hl
  have hl : lv_has ls 5 [(0, .ref o), (1, .int (nI k)), (2, .int (nI mm))] := hl
  have L13 : ∀ (a9 : Nat) (ha9 : a9 = bN (decide (popc k ≤ mm))) (H : Heap) (locs : List Loc) (ls : Array Slot), va_P D vwCl [(o, .inr (8, [.ref ob, .ref on, .ref ow8, .ref os, .ref oe, .int (nI sc8), .ref oi, .int (nI cn8), .ref op, .int (nI bt), .int (oI gA), .int (oI gR), .int rs8, .int (nI a8), .ref oz, .ref oc8, .ref oq, .ref om, .ref oy, .ref og, .ref ok8])), (oi, .inl (Y 0, 16, .inl (aN (sgt gsi bs))))] H → va_D A [(o, .inr (8, [.ref ob, .ref on, .ref ow8, .ref os, .ref oe, .int (nI sc8), .ref oi, .int (nI cn8), .ref op, .int (nI bt), .int (oI gA), .int (oI gR), .int rs8, .int (nI a8), .ref oz, .ref oc8, .ref oq, .ref om, .ref oy, .ref og, .ref ok8])), (oi, .inl (Y 0, 16, .inl (aN (sgt gsi bs))))] → va_S A s.heap H locs → lv_has ls 5 [(0, .ref o), (1, .int (nI k)), (2, .int (nI mm))] → W p l e (mv_R 1 0 0) s m [.ref o, .int (nI k), .int (nI mm)].toArray below meth c H locs 0 0 (MQ below ((q_X8_areLies D Y o ob on ow8 os oe oi op oz oc8 oq om oy og ok8 sc8 cn8 bt a8 rs8 gA gR gsi bs k mm) A) [.ref o, .int (nI k), .int (nI mm)].toArray s 0 0 A) (F0 m 13 ls [.int (nI a9)]) := by
    intro a9 ha9 H locs ls hP hD hS hl
    have L17 : ∀ (fu : Nat) (i : Nat) (al : Nat) (hi : i ≤ sc8) (hal : al = bN (decide (popc k ≤ mm) && fitS gsi bs k i)) (hmeas : sc8 - i < fu) (H : Heap) (locs : List Loc) (ls : Array Slot), va_P D vwCl [(o, .inr (8, [.ref ob, .ref on, .ref ow8, .ref os, .ref oe, .int (nI sc8), .ref oi, .int (nI cn8), .ref op, .int (nI bt), .int (oI gA), .int (oI gR), .int rs8, .int (nI a8), .ref oz, .ref oc8, .ref oq, .ref om, .ref oy, .ref og, .ref ok8])), (oi, .inl (Y 0, 16, .inl (aN (sgt gsi bs))))] H → va_D A [(o, .inr (8, [.ref ob, .ref on, .ref ow8, .ref os, .ref oe, .int (nI sc8), .ref oi, .int (nI cn8), .ref op, .int (nI bt), .int (oI gA), .int (oI gR), .int rs8, .int (nI a8), .ref oz, .ref oc8, .ref oq, .ref om, .ref oy, .ref og, .ref ok8])), (oi, .inl (Y 0, 16, .inl (aN (sgt gsi bs))))] → va_S A s.heap H locs → lv_has ls 5 [(3, .int (nI al)), (4, .int (nI i)), (0, .ref o), (1, .int (nI k)), (2, .int (nI mm))] → W p l e (mv_R 1 0 0) s m [.ref o, .int (nI k), .int (nI mm)].toArray below meth c H locs 0 0 (MQ below ((q_X8_areLies D Y o ob on ow8 os oe oi op oz oc8 oq om oy og ok8 sc8 cn8 bt a8 rs8 gA gR gsi bs k mm) A) [.ref o, .int (nI k), .int (nI mm)].toArray s 0 0 A) (F0 m 17 ls []) := by
      intro fu
      induction fu with
      | zero =>
        intro i al hi hal hmeas
        exact absurd hmeas (Nat.not_lt_zero _)
      | succ fu L17ih =>
        intro i al hi hal hmeas H locs ls hP hD hS hl
        have halb : al < 2 := by rw [hal]; exact bN_lt _
        have L77 : ∀ (w9 : Nat) (hw9 : w9 = bN (decide (gsi i &&& k ≠ 0 ↔ bs / 2 ^ i % 2 = 1))) (hi2 : i < sc8) (hal1 : al ≠ 0) (H : Heap) (locs : List Loc) (ls : Array Slot), va_P D vwCl [(o, .inr (8, [.ref ob, .ref on, .ref ow8, .ref os, .ref oe, .int (nI sc8), .ref oi, .int (nI cn8), .ref op, .int (nI bt), .int (oI gA), .int (oI gR), .int rs8, .int (nI a8), .ref oz, .ref oc8, .ref oq, .ref om, .ref oy, .ref og, .ref ok8])), (oi, .inl (Y 0, 16, .inl (aN (sgt gsi bs))))] H → va_D A [(o, .inr (8, [.ref ob, .ref on, .ref ow8, .ref os, .ref oe, .int (nI sc8), .ref oi, .int (nI cn8), .ref op, .int (nI bt), .int (oI gA), .int (oI gR), .int rs8, .int (nI a8), .ref oz, .ref oc8, .ref oq, .ref om, .ref oy, .ref og, .ref ok8])), (oi, .inl (Y 0, 16, .inl (aN (sgt gsi bs))))] → va_S A s.heap H locs → lv_has ls 5 [(4, .int (nI i)), (0, .ref o), (1, .int (nI k)), (2, .int (nI mm))] → W p l e (mv_R 1 0 0) s m [.ref o, .int (nI k), .int (nI mm)].toArray below meth c H locs 0 0 (MQ below ((q_X8_areLies D Y o ob on ow8 os oe oi op oz oc8 oq om oy og ok8 sc8 cn8 bt a8 rs8 gA gR gsi bs k mm) A) [.ref o, .int (nI k), .int (nI mm)].toArray s 0 0 A) (F0 m 77 ls [.int (nI w9)]) := by
          intro w9 hw9 hi2 hal1 H locs ls hP hD hS hl
          refine lv_istore_n (lv' := [(3, .int (nI w9)), (4, .int (nI i)), (0, .ref o), (1, .int (nI k)), (2, .int (nI mm))]) hx hb dX8_areLies_77 rfl hl (by decide) rfl (fun ls hl => ?_)
          refine lv_iinc (v := nI (i + 1)) (lv' := [(4, .int (nI (i + 1))), (3, .int (nI w9)), (0, .ref o), (1, .int (nI k)), (2, .int (nI mm))]) hx hb dX8_areLies_78 hl (k := 1) rfl (by exact nI_add _ 1) (by decide) rfl (fun ls hl => ?_)
          refine lv_goto (tgt := 17) hx hb dX8_areLies_81 (by decide) ?_
          exact L17ih  (i + 1) w9 (by first | assumption | omega | rfl) (by rw [hw9]; have h9 : (decide (popc k ≤ mm) && fitS gsi bs k i) = true := bN_1.mp (by omega); rw [Bool.and_eq_true] at h9; show _ = bN (_ && (fitS gsi bs k i && _)); rw [h9.1, h9.2]; rfl) (by omega) _ _ _ hP hD hS (lv_sub hl [1, 0, 2, 3, 4] rfl)
        have L49 : ∀ (u9 : Nat) (hu9 : u9 = bN (decide (gsi i &&& k ≠ 0))) (hi2 : i < sc8) (hal1 : al ≠ 0) (H : Heap) (locs : List Loc) (ls : Array Slot), va_P D vwCl [(o, .inr (8, [.ref ob, .ref on, .ref ow8, .ref os, .ref oe, .int (nI sc8), .ref oi, .int (nI cn8), .ref op, .int (nI bt), .int (oI gA), .int (oI gR), .int rs8, .int (nI a8), .ref oz, .ref oc8, .ref oq, .ref om, .ref oy, .ref og, .ref ok8])), (oi, .inl (Y 0, 16, .inl (aN (sgt gsi bs))))] H → va_D A [(o, .inr (8, [.ref ob, .ref on, .ref ow8, .ref os, .ref oe, .int (nI sc8), .ref oi, .int (nI cn8), .ref op, .int (nI bt), .int (oI gA), .int (oI gR), .int rs8, .int (nI a8), .ref oz, .ref oc8, .ref oq, .ref om, .ref oy, .ref og, .ref ok8])), (oi, .inl (Y 0, 16, .inl (aN (sgt gsi bs))))] → va_S A s.heap H locs → lv_has ls 5 [(4, .int (nI i)), (0, .ref o), (1, .int (nI k)), (2, .int (nI mm))] → W p l e (mv_R 1 0 0) s m [.ref o, .int (nI k), .int (nI mm)].toArray below meth c H locs 0 0 (MQ below ((q_X8_areLies D Y o ob on ow8 os oe oi op oz oc8 oq om oy og ok8 sc8 cn8 bt a8 rs8 gA gR gsi bs k mm) A) [.ref o, .int (nI k), .int (nI mm)].toArray s 0 0 A) (F0 m 49 ls [.int (nI u9)]) := by
          intro u9 hu9 hi2 hal1 H locs ls hP hD hS hl
          have hu2 : u9 < 2 := by rw [hu9]; exact bN_lt _
          have hod : (sgt gsi bs) (2 * i + 1) < 2 := by rw [sgt_o]; exact Nat.mod_lt _ (by decide)
          have L69 : ∀ (v9 : Nat) (hv9 : v9 = bN (decide (bs / 2 ^ i % 2 = 1))) (H : Heap) (locs : List Loc) (ls : Array Slot), va_P D vwCl [(o, .inr (8, [.ref ob, .ref on, .ref ow8, .ref os, .ref oe, .int (nI sc8), .ref oi, .int (nI cn8), .ref op, .int (nI bt), .int (oI gA), .int (oI gR), .int rs8, .int (nI a8), .ref oz, .ref oc8, .ref oq, .ref om, .ref oy, .ref og, .ref ok8])), (oi, .inl (Y 0, 16, .inl (aN (sgt gsi bs))))] H → va_D A [(o, .inr (8, [.ref ob, .ref on, .ref ow8, .ref os, .ref oe, .int (nI sc8), .ref oi, .int (nI cn8), .ref op, .int (nI bt), .int (oI gA), .int (oI gR), .int rs8, .int (nI a8), .ref oz, .ref oc8, .ref oq, .ref om, .ref oy, .ref og, .ref ok8])), (oi, .inl (Y 0, 16, .inl (aN (sgt gsi bs))))] → va_S A s.heap H locs → lv_has ls 5 [(4, .int (nI i)), (0, .ref o), (1, .int (nI k)), (2, .int (nI mm))] → W p l e (mv_R 1 0 0) s m [.ref o, .int (nI k), .int (nI mm)].toArray below meth c H locs 0 0 (MQ below ((q_X8_areLies D Y o ob on ow8 os oe oi op oz oc8 oq om oy og ok8 sc8 cn8 bt a8 rs8 gA gR gsi bs k mm) A) [.ref o, .int (nI k), .int (nI mm)].toArray s 0 0 A) (F0 m 69 ls [.int (nI v9), .int (nI u9)]) := by
            intro v9 hv9 H locs ls hP hD hS hl
            have hv2 : v9 < 2 := by rw [hv9]; exact bN_lt _
            refine mv_icmp_ne (tgt := 76) hx hb (by first | omega | exact Nat.lt_of_le_of_lt (popc_le _) (by decide) | exact Nat.lt_of_le_of_lt Nat.and_le_left (by omega)) (by omega) dX8_areLies_69 (by decide) (fun c69 => ?_) (fun c69 => ?_)
            · skip
              refine lv_iconst (v := nI 0) hx hb dX8_areLies_76 (by decide) ?_
              exact L77  0 ((bN_f (decide_eq_false (iff_dec2 (by rw [← hu9, ← hv9]; omega)))).symm) (by first | assumption | omega | rfl) (by first | assumption | omega | rfl) _ _ _ hP hD hS (lv_sub hl [0, 1, 2, 3] rfl)
            · skip
              refine lv_iconst (v := nI 1) hx hb dX8_areLies_72 (by decide) ?_
              refine lv_goto (tgt := 77) hx hb dX8_areLies_73 (by decide) ?_
              exact L77  1 ((bN_t (decide_eq_true (iff_dec (by rw [← hu9, ← hv9]; omega)))).symm) (by first | assumption | omega | rfl) (by first | assumption | omega | rfl) _ _ _ hP hD hS (lv_sub hl [0, 1, 2, 3] rfl)
          refine lv_aload_n hx hb dX8_areLies_49 rfl (lv_at hl 1 rfl) ?_
          refine va_get (D := D) (ci := 8) (v := .ref oi) (C := RX8) (T := TX8) (N := 21) hx hb hts inlX8 hown hK hP 0 rfl rfl 6 (by decide) (hts _ mw_88) (fun _ h9 => h9) rfl dX8_areLies_50 ?_
          refine lv_iconst (v := nI 2) hx hb dX8_areLies_53 (by decide) ?_
          refine lv_iload hx hb dX8_areLies_54 (lv_at hl 0 rfl) ?_
          refine mv_imul hx hb dX8_areLies_56 ?_
          refine lv_iconst (v := nI 1) hx hb dX8_areLies_57 (by decide) ?_
          refine mv_iadd hx hb dX8_areLies_58 ?_
          refine mv_iald hx hb hK hP 1 rfl (i := (2 * i) + 1) (by omega) (by decide) dX8_areLies_59 ?_
          refine lv_iconst (v := nI 1) hx hb dX8_areLies_60 (by decide) ?_
          refine mv_icmp_ne (tgt := 68) hx hb (by first | omega | exact Nat.lt_of_le_of_lt (popc_le _) (by decide) | exact Nat.lt_of_le_of_lt Nat.and_le_left (by omega)) (by omega) dX8_areLies_61 (by decide) (fun c61 => ?_) (fun c61 => ?_)
          · skip
            refine lv_iconst (v := nI 0) hx hb dX8_areLies_68 (by decide) ?_
            exact L69  0 ((bN_f (decide_eq_false (by rw [← sgt_o (si := gsi)]; exact c61))).symm) _ _ _ hP hD hS (lv_sub hl [0, 1, 2, 3] rfl)
          · skip
            refine lv_iconst (v := nI 1) hx hb dX8_areLies_64 (by decide) ?_
            refine lv_goto (tgt := 69) hx hb dX8_areLies_65 (by decide) ?_
            exact L69  1 ((bN_t (decide_eq_true (by rw [← sgt_o (si := gsi)]; omega))).symm) _ _ _ hP hD hS (lv_sub hl [0, 1, 2, 3] rfl)
        refine lv_iload hx hb dX8_areLies_17 (lv_at hl 1 rfl) ?_
        refine lv_aload_n hx hb dX8_areLies_19 rfl (lv_at hl 2 rfl) ?_
        refine va_get (D := D) (ci := 8) (v := .int (nI sc8)) (C := RX8) (T := TX8) (N := 21) hx hb hts inlX8 hown hK hP 0 rfl rfl 5 (by decide) (hts _ mw_98) (fun _ h9 => h9) rfl dX8_areLies_20 ?_
        refine mv_icmp_ge (tgt := 84) hx hb (by first | omega | exact Nat.lt_of_le_of_lt (popc_le _) (by decide) | exact Nat.lt_of_le_of_lt Nat.and_le_left (by omega)) (by omega) dX8_areLies_23 (by decide) (fun c23 => ?_) (fun c23 => ?_)
        · skip
          refine lv_iload_n hx hb dX8_areLies_84 rfl (lv_at hl 0 rfl) ?_
          exact mv_zret hx hb hr hlocks (halb) () (by rw [hal, show i = sc8 by omega]; rfl) hP hK hD hS dX8_areLies_85
        · skip
          refine lv_iload_n hx hb dX8_areLies_26 rfl (lv_at hl 0 rfl) ?_
          refine mv_if_eq (tgt := 84) hx hb (by first | omega | exact Nat.lt_of_le_of_lt (popc_le _) (by decide) | exact Nat.lt_of_le_of_lt Nat.and_le_left (by omega)) dX8_areLies_27 (by decide) (fun c27 => ?_) (fun c27 => ?_)
          · skip
            refine lv_iload_n hx hb dX8_areLies_84 rfl (lv_at hl 0 rfl) ?_
            exact mv_zret hx hb hr hlocks (halb) () (congrArg nI (c27.trans (al_end hal c27 (ft_mono hi)).symm)) hP hK hD hS dX8_areLies_85
          · skip
            refine lv_iload_n hx hb dX8_areLies_30 rfl (lv_at hl 3 rfl) ?_
            refine lv_aload_n hx hb dX8_areLies_31 rfl (lv_at hl 2 rfl) ?_
            refine va_get (D := D) (ci := 8) (v := .ref oi) (C := RX8) (T := TX8) (N := 21) hx hb hts inlX8 hown hK hP 0 rfl rfl 6 (by decide) (hts _ mw_88) (fun _ h9 => h9) rfl dX8_areLies_32 ?_
            refine lv_iconst (v := nI 2) hx hb dX8_areLies_35 (by decide) ?_
            refine lv_iload hx hb dX8_areLies_36 (lv_at hl 1 rfl) ?_
            refine mv_imul hx hb dX8_areLies_38 ?_
            refine mv_iald hx hb hK hP 1 rfl (i := 2 * i) (by omega) (by decide) dX8_areLies_39 ?_
            refine mv_iand hx hb dX8_areLies_40 ?_
            refine mv_if_eq (tgt := 48) hx hb (by first | omega | exact Nat.lt_of_le_of_lt (popc_le _) (by decide) | exact Nat.lt_of_le_of_lt Nat.and_le_left (by omega)) dX8_areLies_41 (by decide) (fun c41 => ?_) (fun c41 => ?_)
            · skip
              refine lv_iconst (v := nI 0) hx hb dX8_areLies_48 (by decide) ?_
              exact L49  0 ((bN_f (b := decide (gsi i &&& k ≠ 0)) (decide_eq_false (fun q => q (by rw [Nat.and_comm]; rw [sgt_e] at c41; exact c41)))).symm) (by first | assumption | omega | rfl) (by first | assumption | omega | rfl) _ _ _ hP hD hS (lv_sub hl [1, 2, 3, 4] rfl)
            · skip
              refine lv_iconst (v := nI 1) hx hb dX8_areLies_44 (by decide) ?_
              refine lv_goto (tgt := 49) hx hb dX8_areLies_45 (by decide) ?_
              exact L49  1 ((bN_t (b := decide (gsi i &&& k ≠ 0)) (decide_eq_true (fun q => c41 (by rw [sgt_e, Nat.and_comm]; exact q)))).symm) (by first | assumption | omega | rfl) (by first | assumption | omega | rfl) _ _ _ hP hD hS (lv_sub hl [1, 2, 3, 4] rfl)
    refine lv_istore_n (lv' := [(3, .int (nI a9)), (0, .ref o), (1, .int (nI k)), (2, .int (nI mm))]) hx hb dX8_areLies_13 rfl hl (by decide) rfl (fun ls hl => ?_)
    refine lv_iconst (v := nI 0) hx hb dX8_areLies_14 (by decide) ?_
    refine lv_istore (lv' := [(4, .int (nI 0)), (3, .int (nI a9)), (0, .ref o), (1, .int (nI k)), (2, .int (nI mm))]) hx hb dX8_areLies_15 hl (by decide) rfl (fun ls hl => ?_)
    exact L17 (sc8 - 0 + 1) 0 a9 (by first | assumption | omega | rfl) (by rw [ha9]; show _ = bN (_ && true); rw [Bool.and_true]) (Nat.lt_succ_self _) _ _ _ hP hD hS (lv_sub hl [1, 0, 2, 3, 4] rfl)
  refine lv_iload_n hx hb dX8_areLies_0 rfl (lv_at hl 1 rfl) ?_
  refine mv_callSi (nA := 1) (As := [.int (nI k)]) (rest := []) (Wc := []) (wr := [(o, .inr (8, [.ref ob, .ref on, .ref ow8, .ref os, .ref oe, .int (nI sc8), .ref oi, .int (nI cn8), .ref op, .int (nI bt), .int (oI gA), .int (oI gR), .int rs8, .int (nI a8), .ref oz, .ref oc8, .ref oq, .ref om, .ref oy, .ref og, .ref ok8])), (oi, .inl (Y 0, 16, .inl (aN (sgt gsi bs))))]) hx hb hml hown hts hK hP hD hS hST hA hl.1 (c_X8_bits l D Y _ k (by first | assumption | omega | rfl)) [] [0, 1] rfl rfl (by decide) (by decide) (by decide) rfl mw_437 mw_438 mw_5 mw_439 ⟨by decide, by decide, by decide +kernel⟩ rfl ⟨Nat.le_of_ble_eq_true rfl, Nat.le_of_ble_eq_true rfl⟩ rfl (Nat.le_of_ble_eq_true rfl) dX8_areLies_1 ⟨Nat.le_of_ble_eq_true rfl, Nat.le_of_ble_eq_true rfl⟩ (fun r_1 ux H locs hr1 hP hD hS hz1 => ?_)
  have hP := hP.sub (ws' := [(o, .inr (8, [.ref ob, .ref on, .ref ow8, .ref os, .ref oe, .int (nI sc8), .ref oi, .int (nI cn8), .ref op, .int (nI bt), .int (oI gA), .int (oI gR), .int rs8, .int (nI a8), .ref oz, .ref oc8, .ref oq, .ref om, .ref oy, .ref og, .ref ok8])), (oi, .inl (Y 0, 16, .inl (aN (sgt gsi bs))))]) [0, 1] rfl
  have hD := hD.sub (ws' := [(o, .inr (8, [.ref ob, .ref on, .ref ow8, .ref os, .ref oe, .int (nI sc8), .ref oi, .int (nI cn8), .ref op, .int (nI bt), .int (oI gA), .int (oI gR), .int rs8, .int (nI a8), .ref oz, .ref oc8, .ref oq, .ref om, .ref oy, .ref og, .ref ok8])), (oi, .inl (Y 0, 16, .inl (aN (sgt gsi bs))))]) [0, 1] (by decide) rfl
  have hr1 : r_1 = nI (popc k) := hr1
  subst hr1
  refine lv_iload_n hx hb dX8_areLies_4 rfl (lv_at hl 2 rfl) ?_
  refine mv_icmp_gt (tgt := 12) hx hb (by first | omega | exact Nat.lt_of_le_of_lt (popc_le _) (by decide) | exact Nat.lt_of_le_of_lt Nat.and_le_left (by omega)) (by omega) dX8_areLies_5 (by decide) (fun c5 => ?_) (fun c5 => ?_)
  · skip
    refine lv_iconst (v := nI 0) hx hb dX8_areLies_12 (by decide) ?_
    exact L13  0 ((bN_f (decide_eq_false (by omega))).symm) _ _ _ hP hD hS (lv_sub hl [0, 1, 2] rfl)
  · skip
    refine lv_iconst (v := nI 1) hx hb dX8_areLies_8 (by decide) ?_
    refine lv_goto (tgt := 13) hx hb dX8_areLies_9 (by decide) ?_
    exact L13  1 ((bN_t (decide_eq_true (by omega))).symm) _ _ _ hP hD hS (lv_sub hl [0, 1, 2] rfl)
abbrev q_X8_liars (D : va_G) (Y : Nat → ClassId) (o : Nat) (ob : Nat) (on : Nat) (ow8 : Nat) (os : Nat) (oe : Nat) (oi : Nat) (op : Nat) (oz : Nat) (oc8 : Nat) (oq : Nat) (om : Nat) (oy : Nat) (og : Nat) (ok8 : Nat) (sc8 : Nat) (cn8 : Nat) (bt : Nat) (a8 : Nat) (rs8 : Int32) (gA : Option Nat) (gR : Option Nat) (gsi : Nat → Nat) (bs : Nat) (x1 : Int32) (x2 : Int32) : (Nat → Prop) → Array Value → State → Outcome → State → Prop := mv_Qi D Y (fun (r : Int32) (_ : Unit) => r = sp_liars gsi bs sc8 x1 x2) (fun _ : Unit => ([(o, .inr (8, [.ref ob, .ref on, .ref ow8, .ref os, .ref oe, .int (nI sc8), .ref oi, .int (nI cn8), .ref op, .int (nI bt), .int (oI gA), .int (oI gR), .int rs8, .int (nI a8), .ref oz, .ref oc8, .ref oq, .ref om, .ref oy, .ref og, .ref ok8])), (oi, .inl (Y 0, 16, .inl (aN (sgt gsi bs))))] : va_W))
set_option maxHeartbeats 4000000 in
set_option maxRecDepth 100000 in
theorem c_X8_liars (l : Launch) (D : va_G) (Y : Nat → ClassId) (sz : Nat) (o : Nat) (ob : Nat) (on : Nat) (ow8 : Nat) (os : Nat) (oe : Nat) (oi : Nat) (op : Nat) (oz : Nat) (oc8 : Nat) (oq : Nat) (om : Nat) (oy : Nat) (og : Nat) (ok8 : Nat) (sc8 : Nat) (cn8 : Nat) (bt : Nat) (a8 : Nat) (rs8 : Int32) (gA : Option Nat) (gR : Option Nat) (gsi : Nat → Nat) (bs : Nat) (x1 : Int32) (x2 : Int32) (hsc : sc8 ≤ 8) : mv_C l D Y yX8_liars cX8_liars 7 (some .int) 2 0 0 [.ref o, .int x1, .int x2] sz [(o, .inr (8, [.ref ob, .ref on, .ref ow8, .ref os, .ref oe, .int (nI sc8), .ref oi, .int (nI cn8), .ref op, .int (nI bt), .int (oI gA), .int (oI gR), .int rs8, .int (nI a8), .ref oz, .ref oc8, .ref oq, .ref om, .ref oy, .ref og, .ref ok8])), (oi, .inl (Y 0, 16, .inl (aN (sgt gsi bs))))] (q_X8_liars D Y o ob on ow8 os oe oi op oz oc8 oq om oy og ok8 sc8 cn8 bt a8 rs8 gA gR gsi bs x1 x2) := by
  refine mv_ofW (by decide) (Nat.le_of_ble_eq_true rfl) ?_
  intro p e s m below meth c ls A hx hb hr hlocks hml hnm hown hts hsz hAe hP hK hD hS hST hA hl
  have hl : lv_has ls 7 [(0, .ref o), (1, .int x1), (2, .int x2)] := hl
  have L34 : ∀ (fu : Nat) (kx1 : Nat) (kx2 : Nat) (k : Nat) (n9 : Nat) (sm : Nat) (al : Nat) (e1 : x1 = nI kx1) (hi1 : kx1 ≤ 3) (e2 : x2 = nI kx2) (hi2 : kx2 ≤ 2) (hk : k ≤ 1024) (hn : n9 = nuS (ftS kx1 gsi bs sc8) k) (hsm : sm = smS (ftS kx1 gsi bs sc8) k) (hal : al = alS (ftS kx1 gsi bs sc8) k) (hmeas : 1024 - k < fu) (H : Heap) (locs : List Loc) (ls : Array Slot), va_P D vwCl [(o, .inr (8, [.ref ob, .ref on, .ref ow8, .ref os, .ref oe, .int (nI sc8), .ref oi, .int (nI cn8), .ref op, .int (nI bt), .int (oI gA), .int (oI gR), .int rs8, .int (nI a8), .ref oz, .ref oc8, .ref oq, .ref om, .ref oy, .ref og, .ref ok8])), (oi, .inl (Y 0, 16, .inl (aN (sgt gsi bs))))] H → va_D A [(o, .inr (8, [.ref ob, .ref on, .ref ow8, .ref os, .ref oe, .int (nI sc8), .ref oi, .int (nI cn8), .ref op, .int (nI bt), .int (oI gA), .int (oI gR), .int rs8, .int (nI a8), .ref oz, .ref oc8, .ref oq, .ref om, .ref oy, .ref og, .ref ok8])), (oi, .inl (Y 0, 16, .inl (aN (sgt gsi bs))))] → va_S A s.heap H locs → lv_has ls 7 [(0, .ref o), (1, .int (nI kx1)), (2, .int (nI kx2)), (3, .int (nI n9)), (4, .int (nI sm)), (5, .int (nI al)), (6, .int (nI k))] → W p l e (mv_R 2 0 0) s m [.ref o, .int x1, .int x2].toArray below meth c H locs 0 0 (MQ below ((q_X8_liars D Y o ob on ow8 os oe oi op oz oc8 oq om oy og ok8 sc8 cn8 bt a8 rs8 gA gR gsi bs x1 x2) A) [.ref o, .int x1, .int x2].toArray s 0 0 A) (F0 m 34 ls []) := by
    intro fu
    induction fu with
    | zero =>
      intro kx1 kx2 k n9 sm al e1 hi1 e2 hi2 hk hn hsm hal hmeas
      exact absurd hmeas (Nat.not_lt_zero _)
    | succ fu L34ih =>
      intro kx1 kx2 k n9 sm al e1 hi1 e2 hi2 hk hn hsm hal hmeas H locs ls hP hD hS hl
      have hq1 : inQ (nI kx1) 0 3 = true := (inQ_nI (by omega) (by decide) (by decide)).trans (decide_eq_true ⟨by omega, by omega⟩)
      have hcl1 : (nI kx1).toNatClampNeg = kx1 := nI_clamp (by omega)
      have hq2 : inQ (nI kx2) 0 2 = true := (inQ_nI (by omega) (by decide) (by decide)).trans (decide_eq_true ⟨by omega, by omega⟩)
      have hcl2 : (nI kx2).toNatClampNeg = kx2 := nI_clamp (by omega)
      have hnl := nuS_le (ftS kx1 gsi bs sc8) k
      rw [← hn] at hnl
      refine lv_iload hx hb dX8_liars_34 (lv_at hl 6 rfl) ?_
      refine lv_sipush (v := nI 1024) hx hb dX8_liars_36 (by decide) ?_
      refine mv_icmp_ge (tgt := 75) hx hb (by first | omega | exact Nat.lt_trans (bN_lt _) (by decide)) (by omega) dX8_liars_39 (by decide) (fun c39 => ?_) (fun c39 => ?_)
      · skip
        refine lv_iload_n hx hb dX8_liars_75 rfl (lv_at hl 2 rfl) ?_
        refine mv_if_ne (tgt := 83) hx hb (by first | omega | exact Nat.lt_trans (bN_lt _) (by decide)) dX8_liars_76 (by decide) (fun c76 => ?_) (fun c76 => ?_)
        · skip
          refine lv_iload_n hx hb dX8_liars_83 rfl (lv_at hl 2 rfl) ?_
          refine lv_iconst (v := nI 1) hx hb dX8_liars_84 (by decide) ?_
          refine mv_icmp_ne (tgt := 93) hx hb (by first | omega | exact Nat.lt_trans (bN_lt _) (by decide)) (by omega) dX8_liars_85 (by decide) (fun c85 => ?_) (fun c85 => ?_)
          · skip
            refine lv_iload_n hx hb dX8_liars_93 rfl (lv_at hl 3 rfl) ?_
            refine mv_if_ne (tgt := 101) hx hb (by first | omega | exact Nat.lt_trans (bN_lt _) (by decide)) dX8_liars_94 (by decide) (fun c94 => ?_) (fun c94 => ?_)
            · skip
              refine lv_iload hx hb dX8_liars_101 (lv_at hl 5 rfl) ?_
              exact mv_iret hx hb hr hlocks () (by simp only [sp_liars, e1, hq1, hcl1, e2, hq2, hcl2, Bool.not_true, Bool.not_false, if_true, if_false, Bool.false_eq_true, reduceIte, Bool.true_and, Bool.and_true, Bool.false_and, Bool.and_false, Bool.or_false, Bool.or_true, ite_self] <;> rw [if_neg (by omega), if_neg (by omega), if_neg (by rw [← show k = 1024 by omega, ← hn]; omega), hal, show k = 1024 by omega]) hP hK hD hS dX8_liars_103
            · skip
              refine lv_iconst (v := nI 0) hx hb dX8_liars_97 (by decide) ?_
              refine lv_goto (tgt := 103) hx hb dX8_liars_98 (by decide) ?_
              exact mv_iret hx hb hr hlocks () (by simp only [sp_liars, e1, hq1, hcl1, e2, hq2, hcl2, Bool.not_true, Bool.not_false, if_true, if_false, Bool.false_eq_true, reduceIte, Bool.true_and, Bool.and_true, Bool.false_and, Bool.and_false, Bool.or_false, Bool.or_true, ite_self] <;> rw [if_neg (by omega), if_neg (by omega), if_pos (by rw [← show k = 1024 by omega, ← hn]; omega)]) hP hK hD hS dX8_liars_103
          · skip
            refine lv_iload hx hb dX8_liars_88 (lv_at hl 4 rfl) ?_
            refine lv_goto (tgt := 103) hx hb dX8_liars_90 (by decide) ?_
            exact mv_iret hx hb hr hlocks () (by simp only [sp_liars, e1, hq1, hcl1, e2, hq2, hcl2, Bool.not_true, Bool.not_false, if_true, if_false, Bool.false_eq_true, reduceIte, Bool.true_and, Bool.and_true, Bool.false_and, Bool.and_false, Bool.or_false, Bool.or_true, ite_self] <;> rw [if_neg (by omega), if_pos (by omega), hsm, show k = 1024 by omega]) hP hK hD hS dX8_liars_103
        · skip
          refine lv_iload_n hx hb dX8_liars_79 rfl (lv_at hl 3 rfl) ?_
          refine lv_goto (tgt := 103) hx hb dX8_liars_80 (by decide) ?_
          exact mv_iret hx hb hr hlocks () (by simp only [sp_liars, e1, hq1, hcl1, e2, hq2, hcl2, Bool.not_true, Bool.not_false, if_true, if_false, Bool.false_eq_true, reduceIte, Bool.true_and, Bool.and_true, Bool.false_and, Bool.and_false, Bool.or_false, Bool.or_true, ite_self] <;> rw [if_pos (by omega), hn, show k = 1024 by omega]) hP hK hD hS dX8_liars_103
      · skip
        refine lv_aload_n hx hb dX8_liars_42 rfl (lv_at hl 0 rfl) ?_
        refine lv_iload hx hb dX8_liars_43 (lv_at hl 6 rfl) ?_
        refine lv_iload_n hx hb dX8_liars_45 rfl (lv_at hl 1 rfl) ?_
        refine mv_callVi (nA := 2) (As := [.int (nI k), .int (nI kx1)]) (rest := []) (Wc := [(o, .inr (8, [.ref ob, .ref on, .ref ow8, .ref os, .ref oe, .int (nI sc8), .ref oi, .int (nI cn8), .ref op, .int (nI bt), .int (oI gA), .int (oI gR), .int rs8, .int (nI a8), .ref oz, .ref oc8, .ref oq, .ref om, .ref oy, .ref og, .ref ok8])), (oi, .inl (Y 0, 16, .inl (aN (sgt gsi bs))))]) (wr := []) hx hb hml hown hts hK hP hD hS hST hA hl.1 (c_X8_areLies l D Y _ o ob on ow8 os oe oi op oz oc8 oq om oy og ok8 sc8 cn8 bt a8 rs8 gA gR gsi bs k kx1 (by first | assumption | omega | rfl) (by first | assumption | omega | rfl) (by first | assumption | omega | rfl)) [0, 1] [] rfl rfl (by decide) (by decide) (by decide) rfl 0 rfl rfl rfl mw_532 mw_533 mw_534 mw_5 mw_535 ⟨by decide, by decide, by decide +kernel⟩ rfl ⟨Nat.le_of_ble_eq_true rfl, Nat.le_of_ble_eq_true rfl⟩ rfl (Nat.le_of_ble_eq_true rfl) dX8_liars_46 ⟨Nat.le_of_ble_eq_true rfl, Nat.le_of_ble_eq_true rfl⟩ (fun r_1 ux H locs hr46 hP hD hS hz46 => ?_)
        have hP := hP.sub (ws' := [(o, .inr (8, [.ref ob, .ref on, .ref ow8, .ref os, .ref oe, .int (nI sc8), .ref oi, .int (nI cn8), .ref op, .int (nI bt), .int (oI gA), .int (oI gR), .int rs8, .int (nI a8), .ref oz, .ref oc8, .ref oq, .ref om, .ref oy, .ref og, .ref ok8])), (oi, .inl (Y 0, 16, .inl (aN (sgt gsi bs))))]) [0, 1] rfl
        have hD := hD.sub (ws' := [(o, .inr (8, [.ref ob, .ref on, .ref ow8, .ref os, .ref oe, .int (nI sc8), .ref oi, .int (nI cn8), .ref op, .int (nI bt), .int (oI gA), .int (oI gR), .int rs8, .int (nI a8), .ref oz, .ref oc8, .ref oq, .ref om, .ref oy, .ref og, .ref ok8])), (oi, .inl (Y 0, 16, .inl (aN (sgt gsi bs))))]) [0, 1] (by decide) rfl
        have hr46 : r_1 = nI (bN (ftS kx1 gsi bs sc8 k)) := hr46
        subst hr46
        refine mv_if_eq (tgt := 69) hx hb (by first | omega | exact Nat.lt_trans (bN_lt _) (by decide)) dX8_liars_49 (by decide) (fun c49 => ?_) (fun c49 => ?_)
        · skip
          refine lv_iinc (v := nI (k + 1)) (lv' := [(6, .int (nI (k + 1))), (0, .ref o), (1, .int (nI kx1)), (2, .int (nI kx2)), (3, .int (nI n9)), (4, .int (nI sm)), (5, .int (nI al))]) hx hb dX8_liars_69 hl (k := 6) rfl (by exact nI_add _ 1) (by decide) rfl (fun ls hl => ?_)
          refine lv_goto (tgt := 34) hx hb dX8_liars_72 (by decide) ?_
          exact L34ih  kx1 kx2 (k + 1) n9 sm al (by first | assumption | omega | rfl) (by first | assumption | omega | rfl) (by first | assumption | omega | rfl) (by first | assumption | omega | rfl) (by first | assumption | omega | rfl) (by rw [nuS, if_neg (by rw [bN_0.mp c49]; decide), hn]) (by rw [smS, if_neg (by rw [bN_0.mp c49]; decide), hsm]) (by rw [alS, if_neg (by rw [bN_0.mp c49]; decide), hal]) (by omega) _ _ _ hP hD hS (lv_sub hl [1, 2, 3, 4, 5, 6, 0] rfl)
        · skip
          refine lv_iinc (v := nI (n9 + 1)) (lv' := [(3, .int (nI (n9 + 1))), (0, .ref o), (1, .int (nI kx1)), (2, .int (nI kx2)), (4, .int (nI sm)), (5, .int (nI al)), (6, .int (nI k))]) hx hb dX8_liars_52 hl (k := 3) rfl (by exact nI_add _ 1) (by decide) rfl (fun ls hl => ?_)
          refine lv_iload hx hb dX8_liars_55 (lv_at hl 4 rfl) ?_
          refine lv_iload hx hb dX8_liars_57 (lv_at hl 6 rfl) ?_
          refine mv_ior hx hb dX8_liars_59 ?_
          refine lv_istore (lv' := [(4, .int (nI (sm ||| k))), (3, .int (nI (n9 + 1))), (0, .ref o), (1, .int (nI kx1)), (2, .int (nI kx2)), (5, .int (nI al)), (6, .int (nI k))]) hx hb dX8_liars_60 hl (by decide) rfl (fun ls hl => ?_)
          refine lv_iload hx hb dX8_liars_62 (lv_at hl 5 rfl) ?_
          refine lv_iload hx hb dX8_liars_64 (lv_at hl 6 rfl) ?_
          refine mv_iand hx hb dX8_liars_66 ?_
          refine lv_istore (lv' := [(5, .int (nI (al &&& k))), (4, .int (nI (sm ||| k))), (3, .int (nI (n9 + 1))), (0, .ref o), (1, .int (nI kx1)), (2, .int (nI kx2)), (6, .int (nI k))]) hx hb dX8_liars_67 hl (by decide) rfl (fun ls hl => ?_)
          refine lv_iinc (v := nI (k + 1)) (lv' := [(6, .int (nI (k + 1))), (5, .int (nI (al &&& k))), (4, .int (nI (sm ||| k))), (3, .int (nI (n9 + 1))), (0, .ref o), (1, .int (nI kx1)), (2, .int (nI kx2))]) hx hb dX8_liars_69 hl (k := 6) rfl (by exact nI_add _ 1) (by decide) rfl (fun ls hl => ?_)
          refine lv_goto (tgt := 34) hx hb dX8_liars_72 (by decide) ?_
          exact L34ih  kx1 kx2 (k + 1) (n9 + 1) (sm ||| k) (al &&& k) (by first | assumption | omega | rfl) (by first | assumption | omega | rfl) (by first | assumption | omega | rfl) (by first | assumption | omega | rfl) (by first | assumption | omega | rfl) (by rw [nuS, if_pos (bN_1.mp c49), hn]) (by rw [smS, if_pos (bN_1.mp c49), hsm]) (by rw [alS, if_pos (bN_1.mp c49), hal]) (by omega) _ _ _ hP hD hS (lv_sub hl [4, 5, 6, 3, 2, 1, 0] rfl)
  refine lv_iload_n hx hb dX8_liars_0 rfl (lv_at hl 1 rfl) ?_
  refine lv_iconst (v := nI 0) hx hb dX8_liars_1 (by decide) ?_
  refine lv_iconst (v := nI 3) hx hb dX8_liars_2 (by decide) ?_
  refine mv_callSi (nA := 3) (As := [.int x1, .int (nI 0), .int (nI 3)]) (rest := []) (Wc := []) (wr := [(o, .inr (8, [.ref ob, .ref on, .ref ow8, .ref os, .ref oe, .int (nI sc8), .ref oi, .int (nI cn8), .ref op, .int (nI bt), .int (oI gA), .int (oI gR), .int rs8, .int (nI a8), .ref oz, .ref oc8, .ref oq, .ref om, .ref oy, .ref og, .ref ok8])), (oi, .inl (Y 0, 16, .inl (aN (sgt gsi bs))))]) hx hb hml hown hts hK hP hD hS hST hA hl.1 (c_X8_inR l D Y _ x1 0 3 ) [] [0, 1] rfl rfl (by decide) (by decide) (by decide) rfl mw_121 mw_122 mw_5 mw_123 ⟨by decide, by decide, by decide +kernel⟩ rfl ⟨Nat.le_of_ble_eq_true rfl, Nat.le_of_ble_eq_true rfl⟩ rfl (Nat.le_of_ble_eq_true rfl) dX8_liars_3 ⟨Nat.le_of_ble_eq_true rfl, Nat.le_of_ble_eq_true rfl⟩ (fun r_2 ux H locs hr3 hP hD hS hz3 => ?_)
  have hP := hP.sub (ws' := [(o, .inr (8, [.ref ob, .ref on, .ref ow8, .ref os, .ref oe, .int (nI sc8), .ref oi, .int (nI cn8), .ref op, .int (nI bt), .int (oI gA), .int (oI gR), .int rs8, .int (nI a8), .ref oz, .ref oc8, .ref oq, .ref om, .ref oy, .ref og, .ref ok8])), (oi, .inl (Y 0, 16, .inl (aN (sgt gsi bs))))]) [0, 1] rfl
  have hD := hD.sub (ws' := [(o, .inr (8, [.ref ob, .ref on, .ref ow8, .ref os, .ref oe, .int (nI sc8), .ref oi, .int (nI cn8), .ref op, .int (nI bt), .int (oI gA), .int (oI gR), .int rs8, .int (nI a8), .ref oz, .ref oc8, .ref oq, .ref om, .ref oy, .ref og, .ref ok8])), (oi, .inl (Y 0, 16, .inl (aN (sgt gsi bs))))]) [0, 1] (by decide) rfl
  have hr3 : r_2 = nI (bN (inQ x1 0 3)) := hr3
  subst hr3
  refine mv_if_eq (tgt := 18) hx hb (by first | omega | exact Nat.lt_trans (bN_lt _) (by decide)) dX8_liars_6 (by decide) (fun c6 => ?_) (fun c6 => ?_)
  · skip
    have hn_x1_c6 : inQ x1 0 3 = false := bN_0.mp c6
    refine lv_bipush (v := -2) hx hb dX8_liars_18 (by decide) ?_
    exact mv_iret hx hb hr hlocks () (by simp only [sp_liars, hn_x1_c6, Bool.not_true, Bool.not_false, if_true, if_false, Bool.false_eq_true, reduceIte, Bool.true_and, Bool.and_true, Bool.false_and, Bool.and_false, Bool.or_false, Bool.or_true, ite_self]) hP hK hD hS dX8_liars_20
  · skip
    obtain ⟨kx1, hka_x1, hkb_x1, rfl⟩ := inQ_ex (by decide) (bN_1.mp c6)
    have hq_x1 : inQ (nI kx1) 0 3 = true := bN_1.mp c6
    have hcl_x1 : (nI kx1).toNatClampNeg = kx1 := nI_clamp (by omega)
    refine lv_iload_n hx hb dX8_liars_9 rfl (lv_at hl 2 rfl) ?_
    refine lv_iconst (v := nI 0) hx hb dX8_liars_10 (by decide) ?_
    refine lv_iconst (v := nI 2) hx hb dX8_liars_11 (by decide) ?_
    refine mv_callSi (nA := 3) (As := [.int x2, .int (nI 0), .int (nI 2)]) (rest := []) (Wc := []) (wr := [(o, .inr (8, [.ref ob, .ref on, .ref ow8, .ref os, .ref oe, .int (nI sc8), .ref oi, .int (nI cn8), .ref op, .int (nI bt), .int (oI gA), .int (oI gR), .int rs8, .int (nI a8), .ref oz, .ref oc8, .ref oq, .ref om, .ref oy, .ref og, .ref ok8])), (oi, .inl (Y 0, 16, .inl (aN (sgt gsi bs))))]) hx hb hml hown hts hK hP hD hS hST hA hl.1 (c_X8_inR l D Y _ x2 0 2 ) [] [0, 1] rfl rfl (by decide) (by decide) (by decide) rfl mw_121 mw_122 mw_5 mw_123 ⟨by decide, by decide, by decide +kernel⟩ rfl ⟨Nat.le_of_ble_eq_true rfl, Nat.le_of_ble_eq_true rfl⟩ rfl (Nat.le_of_ble_eq_true rfl) dX8_liars_12 ⟨Nat.le_of_ble_eq_true rfl, Nat.le_of_ble_eq_true rfl⟩ (fun r_3 ux H locs hr12 hP hD hS hz12 => ?_)
    have hP := hP.sub (ws' := [(o, .inr (8, [.ref ob, .ref on, .ref ow8, .ref os, .ref oe, .int (nI sc8), .ref oi, .int (nI cn8), .ref op, .int (nI bt), .int (oI gA), .int (oI gR), .int rs8, .int (nI a8), .ref oz, .ref oc8, .ref oq, .ref om, .ref oy, .ref og, .ref ok8])), (oi, .inl (Y 0, 16, .inl (aN (sgt gsi bs))))]) [0, 1] rfl
    have hD := hD.sub (ws' := [(o, .inr (8, [.ref ob, .ref on, .ref ow8, .ref os, .ref oe, .int (nI sc8), .ref oi, .int (nI cn8), .ref op, .int (nI bt), .int (oI gA), .int (oI gR), .int rs8, .int (nI a8), .ref oz, .ref oc8, .ref oq, .ref om, .ref oy, .ref og, .ref ok8])), (oi, .inl (Y 0, 16, .inl (aN (sgt gsi bs))))]) [0, 1] (by decide) rfl
    have hr12 : r_3 = nI (bN (inQ x2 0 2)) := hr12
    subst hr12
    refine mv_if_ne (tgt := 21) hx hb (by first | omega | exact Nat.lt_trans (bN_lt _) (by decide)) dX8_liars_15 (by decide) (fun c15 => ?_) (fun c15 => ?_)
    · skip
      obtain ⟨kx2, hka_x2, hkb_x2, rfl⟩ := inQ_ex (by decide) (bN_1.mp c15)
      have hq_x2 : inQ (nI kx2) 0 2 = true := bN_1.mp c15
      have hcl_x2 : (nI kx2).toNatClampNeg = kx2 := nI_clamp (by omega)
      refine lv_iconst (v := nI 0) hx hb dX8_liars_21 (by decide) ?_
      refine lv_istore_n (lv' := [(3, .int (nI 0)), (0, .ref o), (1, .int (nI kx1)), (2, .int (nI kx2))]) hx hb dX8_liars_22 rfl hl (by decide) rfl (fun ls hl => ?_)
      refine lv_iconst (v := nI 0) hx hb dX8_liars_23 (by decide) ?_
      refine lv_istore (lv' := [(4, .int (nI 0)), (3, .int (nI 0)), (0, .ref o), (1, .int (nI kx1)), (2, .int (nI kx2))]) hx hb dX8_liars_24 hl (by decide) rfl (fun ls hl => ?_)
      refine lv_sipush (v := nI 1023) hx hb dX8_liars_26 (by decide) ?_
      refine lv_istore (lv' := [(5, .int (nI 1023)), (4, .int (nI 0)), (3, .int (nI 0)), (0, .ref o), (1, .int (nI kx1)), (2, .int (nI kx2))]) hx hb dX8_liars_29 hl (by decide) rfl (fun ls hl => ?_)
      refine lv_iconst (v := nI 0) hx hb dX8_liars_31 (by decide) ?_
      refine lv_istore (lv' := [(6, .int (nI 0)), (5, .int (nI 1023)), (4, .int (nI 0)), (3, .int (nI 0)), (0, .ref o), (1, .int (nI kx1)), (2, .int (nI kx2))]) hx hb dX8_liars_32 hl (by decide) rfl (fun ls hl => ?_)
      exact L34 (1024 - 0 + 1) kx1 kx2 0 0 0 1023 (by first | assumption | omega | rfl) (by first | assumption | omega | rfl) (by first | assumption | omega | rfl) (by first | assumption | omega | rfl) (by first | assumption | omega | rfl) (rfl) (rfl) (rfl) (Nat.lt_succ_self _) _ _ _ hP hD hS (lv_sub hl [4, 5, 6, 3, 2, 1, 0] rfl)
    · skip
      have hn_x2_c15 : inQ x2 0 2 = false := bN_0.mp c15
      refine lv_bipush (v := -2) hx hb dX8_liars_18 (by decide) ?_
      exact mv_iret hx hb hr hlocks () (by simp only [sp_liars, hq_x1, hcl_x1, hn_x2_c15, Bool.not_true, Bool.not_false, if_true, if_false, Bool.false_eq_true, reduceIte, Bool.true_and, Bool.and_true, Bool.false_and, Bool.and_false, Bool.or_false, Bool.or_true, ite_self]) hP hK hD hS dX8_liars_20
abbrev q_X8_tries (D : va_G) (Y : Nat → ClassId) (o : Nat) (ob : Nat) (on : Nat) (ow8 : Nat) (os : Nat) (oe : Nat) (oi : Nat) (op : Nat) (oz : Nat) (oc8 : Nat) (oq : Nat) (om : Nat) (oy : Nat) (og : Nat) (ok8 : Nat) (sc8 : Nat) (cn8 : Nat) (bt : Nat) (a8 : Nat) (rs8 : Int32) (gA : Option Nat) (gR : Option Nat) (gsi : Nat → Nat) (bs : Nat) (gc8 : Nat → Nat) (x1 : Int32) (x2 : Int32) : (Nat → Prop) → Array Value → State → Outcome → State → Prop := mv_Qi D Y (fun (r : Int32) (ux : (Nat → Nat)) => r = sp_tries gsi bs sc8 x1 x2) (fun ux : (Nat → Nat) => ([(o, .inr (8, [.ref ob, .ref on, .ref ow8, .ref os, .ref oe, .int (nI sc8), .ref oi, .int (nI cn8), .ref op, .int (nI bt), .int (oI gA), .int (oI gR), .int rs8, .int (nI a8), .ref oz, .ref oc8, .ref oq, .ref om, .ref oy, .ref og, .ref ok8])), (oi, .inl (Y 0, 16, .inl (aN (sgt gsi bs)))), (oc8, .inl (Y 0, 10, .inl (aN ux)))] : va_W))
set_option maxHeartbeats 8000000 in
set_option maxRecDepth 100000 in
theorem c_X8_tries (l : Launch) (D : va_G) (Y : Nat → ClassId) (sz : Nat) (o : Nat) (ob : Nat) (on : Nat) (ow8 : Nat) (os : Nat) (oe : Nat) (oi : Nat) (op : Nat) (oz : Nat) (oc8 : Nat) (oq : Nat) (om : Nat) (oy : Nat) (og : Nat) (ok8 : Nat) (sc8 : Nat) (cn8 : Nat) (bt : Nat) (a8 : Nat) (rs8 : Int32) (gA : Option Nat) (gR : Option Nat) (gsi : Nat → Nat) (bs : Nat) (gc8 : Nat → Nat) (x1 : Int32) (x2 : Int32) (hsc : sc8 ≤ 8) : mv_C l D Y yX8_tries cX8_tries 8 (some .int) 2 0 0 [.ref o, .int x1, .int x2] sz [(o, .inr (8, [.ref ob, .ref on, .ref ow8, .ref os, .ref oe, .int (nI sc8), .ref oi, .int (nI cn8), .ref op, .int (nI bt), .int (oI gA), .int (oI gR), .int rs8, .int (nI a8), .ref oz, .ref oc8, .ref oq, .ref om, .ref oy, .ref og, .ref ok8])), (oi, .inl (Y 0, 16, .inl (aN (sgt gsi bs)))), (oc8, .inl (Y 0, 10, .inl (aN gc8)))] (q_X8_tries D Y o ob on ow8 os oe oi op oz oc8 oq om oy og ok8 sc8 cn8 bt a8 rs8 gA gR gsi bs gc8 x1 x2) := by
  refine mv_ofW (by decide) (Nat.le_of_ble_eq_true rfl) ?_
  intro p e s m below meth c ls A hx hb hr hlocks hml hnm hown hts hsz hAe hP hK hD hS hST hA hl
  have hl : lv_has ls 8 [(0, .ref o), (1, .int x1), (2, .int x2)] := hl
  have L50 : ∀ (fu : Nat) (kx1 : Nat) (kx2 : Nat) (k : Nat) (n9 : Nat) (gz : Nat → Nat) (e1 : x1 = nI kx1) (hi1 : kx1 ≤ 3) (e2 : x2 = nI kx2) (hi2 : kx2 ≤ 1) (hk : k ≤ 1024) (hn : n9 = nuS (ftS kx1 gsi bs sc8) k) (hg : ∀ j, j < 10 → gz j = cvS (ftS kx1 gsi bs sc8) j k) (hmeas : 1024 - k < fu) (H : Heap) (locs : List Loc) (ls : Array Slot), va_P D vwCl [(o, .inr (8, [.ref ob, .ref on, .ref ow8, .ref os, .ref oe, .int (nI sc8), .ref oi, .int (nI cn8), .ref op, .int (nI bt), .int (oI gA), .int (oI gR), .int rs8, .int (nI a8), .ref oz, .ref oc8, .ref oq, .ref om, .ref oy, .ref og, .ref ok8])), (oi, .inl (Y 0, 16, .inl (aN (sgt gsi bs)))), (oc8, .inl (Y 0, 10, .inl (aN gz)))] H → va_D A [(o, .inr (8, [.ref ob, .ref on, .ref ow8, .ref os, .ref oe, .int (nI sc8), .ref oi, .int (nI cn8), .ref op, .int (nI bt), .int (oI gA), .int (oI gR), .int rs8, .int (nI a8), .ref oz, .ref oc8, .ref oq, .ref om, .ref oy, .ref og, .ref ok8])), (oi, .inl (Y 0, 16, .inl (aN (sgt gsi bs)))), (oc8, .inl (Y 0, 10, .inl (aN gz)))] → va_S A s.heap H locs → lv_has ls 8 [(3, .int (nI n9)), (4, .int (nI k)), (0, .ref o), (1, .int (nI kx1)), (2, .int (nI kx2))] → W p l e (mv_R 2 0 0) s m [.ref o, .int x1, .int x2].toArray below meth c H locs 0 0 (MQ below ((q_X8_tries D Y o ob on ow8 os oe oi op oz oc8 oq om oy og ok8 sc8 cn8 bt a8 rs8 gA gR gsi bs gc8 x1 x2) A) [.ref o, .int x1, .int x2].toArray s 0 0 A) (F0 m 50 ls []) := by
    intro fu
    induction fu with
    | zero =>
      intro kx1 kx2 k n9 gz e1 hi1 e2 hi2 hk hn hg hmeas
      exact absurd hmeas (Nat.not_lt_zero _)
    | succ fu L50ih =>
      intro kx1 kx2 k n9 gz e1 hi1 e2 hi2 hk hn hg hmeas H locs ls hP hD hS hl
      have hq1 : inQ (nI kx1) 0 3 = true := (inQ_nI (by omega) (by decide) (by decide)).trans (decide_eq_true ⟨by omega, by omega⟩)
      have hcl1 : (nI kx1).toNatClampNeg = kx1 := nI_clamp (by omega)
      have hq2 : inQ (nI kx2) 0 1 = true := (inQ_nI (by omega) (by decide) (by decide)).trans (decide_eq_true ⟨by omega, by omega⟩)
      have hcl2 : (nI kx2).toNatClampNeg = kx2 := nI_clamp (by omega)
      have hnl := nuS_le (ftS kx1 gsi bs sc8) k
      rw [← hn] at hnl
      have L121 : ∀ (fu : Nat) (s9 : Nat) (ls9 : Nat) (fd : Option Nat) (hs9 : s9 ≤ 10) (hn4 : n9 = (nuS (ftS kx1 gsi bs sc8) 1024)) (hc : ∀ j, j < 10 → gz j = cvS (ftS kx1 gsi bs sc8) j 1024) (hfd : fd = if s9 = 0 then none else some (tryS (trM (ftS kx1 gsi bs sc8)) (s9 - 1))) (hls : ls9 = if s9 = 0 then 1000000 else (trM (ftS kx1 gsi bs sc8)) (tryS (trM (ftS kx1 gsi bs sc8)) (s9 - 1))) (hz9 : s9 ≠ 0 → n9 ≠ 0) (hmeas : 10 - s9 < fu) (H : Heap) (locs : List Loc) (ls : Array Slot), va_P D vwCl [(o, .inr (8, [.ref ob, .ref on, .ref ow8, .ref os, .ref oe, .int (nI sc8), .ref oi, .int (nI cn8), .ref op, .int (nI bt), .int (oI gA), .int (oI gR), .int rs8, .int (nI a8), .ref oz, .ref oc8, .ref oq, .ref om, .ref oy, .ref og, .ref ok8])), (oi, .inl (Y 0, 16, .inl (aN (sgt gsi bs)))), (oc8, .inl (Y 0, 10, .inl (aN gz)))] H → va_D A [(o, .inr (8, [.ref ob, .ref on, .ref ow8, .ref os, .ref oe, .int (nI sc8), .ref oi, .int (nI cn8), .ref op, .int (nI bt), .int (oI gA), .int (oI gR), .int rs8, .int (nI a8), .ref oz, .ref oc8, .ref oq, .ref om, .ref oy, .ref og, .ref ok8])), (oi, .inl (Y 0, 16, .inl (aN (sgt gsi bs)))), (oc8, .inl (Y 0, 10, .inl (aN gz)))] → va_S A s.heap H locs → lv_has ls 8 [(3, .int (nI n9)), (4, .int (oI fd)), (5, .int (nI ls9)), (6, .int (nI s9)), (0, .ref o), (1, .int (nI kx1)), (2, .int (nI kx2))] → W p l e (mv_R 2 0 0) s m [.ref o, .int x1, .int x2].toArray below meth c H locs 0 0 (MQ below ((q_X8_tries D Y o ob on ow8 os oe oi op oz oc8 oq om oy og ok8 sc8 cn8 bt a8 rs8 gA gR gsi bs gc8 x1 x2) A) [.ref o, .int x1, .int x2].toArray s 0 0 A) (F0 m 121 ls []) := by
        intro fu
        induction fu with
        | zero =>
          intro s9 ls9 fd hs9 hn4 hc hfd hls hz9 hmeas
          exact absurd hmeas (Nat.not_lt_zero _)
        | succ fu L121ih =>
          intro s9 ls9 fd hs9 hn4 hc hfd hls hz9 hmeas H locs ls hP hD hS hl
          have hwb : (trM (ftS kx1 gsi bs sc8)) s9 < 1000000 := Nat.lt_of_le_of_lt (trM_lt _ _) (by decide)
          have hlb : ls9 ≤ 1000000 := by rw [hls]; split; exact Nat.le_refl _; exact Nat.le_trans (trM_lt _ _) (by decide)
          have L170 : ∀ (w9 : Nat) (hw9 : w9 = (trM (ftS kx1 gsi bs sc8)) s9) (hs2 : s9 < 10) (hn5 : n9 ≠ 0) (H : Heap) (locs : List Loc) (ls : Array Slot), va_P D vwCl [(o, .inr (8, [.ref ob, .ref on, .ref ow8, .ref os, .ref oe, .int (nI sc8), .ref oi, .int (nI cn8), .ref op, .int (nI bt), .int (oI gA), .int (oI gR), .int rs8, .int (nI a8), .ref oz, .ref oc8, .ref oq, .ref om, .ref oy, .ref og, .ref ok8])), (oi, .inl (Y 0, 16, .inl (aN (sgt gsi bs)))), (oc8, .inl (Y 0, 10, .inl (aN gz)))] H → va_D A [(o, .inr (8, [.ref ob, .ref on, .ref ow8, .ref os, .ref oe, .int (nI sc8), .ref oi, .int (nI cn8), .ref op, .int (nI bt), .int (oI gA), .int (oI gR), .int rs8, .int (nI a8), .ref oz, .ref oc8, .ref oq, .ref om, .ref oy, .ref og, .ref ok8])), (oi, .inl (Y 0, 16, .inl (aN (sgt gsi bs)))), (oc8, .inl (Y 0, 10, .inl (aN gz)))] → va_S A s.heap H locs → lv_has ls 8 [(3, .int (nI n9)), (4, .int (oI fd)), (5, .int (nI ls9)), (6, .int (nI s9)), (0, .ref o), (1, .int (nI kx1)), (2, .int (nI kx2))] → W p l e (mv_R 2 0 0) s m [.ref o, .int x1, .int x2].toArray below meth c H locs 0 0 (MQ below ((q_X8_tries D Y o ob on ow8 os oe oi op oz oc8 oq om oy og ok8 sc8 cn8 bt a8 rs8 gA gR gsi bs gc8 x1 x2) A) [.ref o, .int x1, .int x2].toArray s 0 0 A) (F0 m 170 ls [.int (nI w9)]) := by
            intro w9 hw9 hs2 hn5 H locs ls hP hD hS hl
            have L186 : ∀ (f2 : Option Nat) (hf2 : f2 = if w9 < ls9 then some s9 else fd) (H : Heap) (locs : List Loc) (ls : Array Slot), va_P D vwCl [(o, .inr (8, [.ref ob, .ref on, .ref ow8, .ref os, .ref oe, .int (nI sc8), .ref oi, .int (nI cn8), .ref op, .int (nI bt), .int (oI gA), .int (oI gR), .int rs8, .int (nI a8), .ref oz, .ref oc8, .ref oq, .ref om, .ref oy, .ref og, .ref ok8])), (oi, .inl (Y 0, 16, .inl (aN (sgt gsi bs)))), (oc8, .inl (Y 0, 10, .inl (aN gz)))] H → va_D A [(o, .inr (8, [.ref ob, .ref on, .ref ow8, .ref os, .ref oe, .int (nI sc8), .ref oi, .int (nI cn8), .ref op, .int (nI bt), .int (oI gA), .int (oI gR), .int rs8, .int (nI a8), .ref oz, .ref oc8, .ref oq, .ref om, .ref oy, .ref og, .ref ok8])), (oi, .inl (Y 0, 16, .inl (aN (sgt gsi bs)))), (oc8, .inl (Y 0, 10, .inl (aN gz)))] → va_S A s.heap H locs → lv_has ls 8 [(3, .int (nI n9)), (5, .int (nI ls9)), (6, .int (nI s9)), (7, .int (nI w9)), (0, .ref o), (1, .int (nI kx1)), (2, .int (nI kx2))] → W p l e (mv_R 2 0 0) s m [.ref o, .int x1, .int x2].toArray below meth c H locs 0 0 (MQ below ((q_X8_tries D Y o ob on ow8 os oe oi op oz oc8 oq om oy og ok8 sc8 cn8 bt a8 rs8 gA gR gsi bs gc8 x1 x2) A) [.ref o, .int x1, .int x2].toArray s 0 0 A) (F0 m 186 ls [.int (oI f2)]) := by
              intro f2 hf2 H locs ls hP hD hS hl
              have L202 : ∀ (l2 : Nat) (hl2 : l2 = if w9 < ls9 then w9 else ls9) (H : Heap) (locs : List Loc) (ls : Array Slot), va_P D vwCl [(o, .inr (8, [.ref ob, .ref on, .ref ow8, .ref os, .ref oe, .int (nI sc8), .ref oi, .int (nI cn8), .ref op, .int (nI bt), .int (oI gA), .int (oI gR), .int rs8, .int (nI a8), .ref oz, .ref oc8, .ref oq, .ref om, .ref oy, .ref og, .ref ok8])), (oi, .inl (Y 0, 16, .inl (aN (sgt gsi bs)))), (oc8, .inl (Y 0, 10, .inl (aN gz)))] H → va_D A [(o, .inr (8, [.ref ob, .ref on, .ref ow8, .ref os, .ref oe, .int (nI sc8), .ref oi, .int (nI cn8), .ref op, .int (nI bt), .int (oI gA), .int (oI gR), .int rs8, .int (nI a8), .ref oz, .ref oc8, .ref oq, .ref om, .ref oy, .ref og, .ref ok8])), (oi, .inl (Y 0, 16, .inl (aN (sgt gsi bs)))), (oc8, .inl (Y 0, 10, .inl (aN gz)))] → va_S A s.heap H locs → lv_has ls 8 [(3, .int (nI n9)), (4, .int (oI f2)), (6, .int (nI s9)), (0, .ref o), (1, .int (nI kx1)), (2, .int (nI kx2))] → W p l e (mv_R 2 0 0) s m [.ref o, .int x1, .int x2].toArray below meth c H locs 0 0 (MQ below ((q_X8_tries D Y o ob on ow8 os oe oi op oz oc8 oq om oy og ok8 sc8 cn8 bt a8 rs8 gA gR gsi bs gc8 x1 x2) A) [.ref o, .int x1, .int x2].toArray s 0 0 A) (F0 m 202 ls [.int (nI l2)]) := by
                intro l2 hl2 H locs ls hP hD hS hl
                refine lv_istore (lv' := [(5, .int (nI l2)), (3, .int (nI n9)), (4, .int (oI f2)), (6, .int (nI s9)), (0, .ref o), (1, .int (nI kx1)), (2, .int (nI kx2))]) hx hb dX8_tries_202 hl (by decide) rfl (fun ls hl => ?_)
                refine lv_iinc (v := nI (s9 + 1)) (lv' := [(6, .int (nI (s9 + 1))), (5, .int (nI l2)), (3, .int (nI n9)), (4, .int (oI f2)), (0, .ref o), (1, .int (nI kx1)), (2, .int (nI kx2))]) hx hb dX8_tries_204 hl (k := 3) rfl (by exact nI_add _ 1) (by decide) rfl (fun ls hl => ?_)
                refine lv_goto (tgt := 121) hx hb dX8_tries_207 (by decide) ?_
                exact L121ih  (s9 + 1) l2 f2 (by first | assumption | omega | rfl) (by first | assumption | omega | rfl) (by first | assumption | omega | rfl) (by rw [hf2, hw9, hfd, hls]; exact tr_t1 hwb) (by rw [hl2, hw9, hls]; exact tr_t2 hwb) (by first | assumption | omega | rfl) (by omega) _ _ _ hP hD hS (lv_sub hl [2, 3, 1, 0, 4, 5, 6] rfl)
              refine lv_istore (lv' := [(4, .int (oI f2)), (3, .int (nI n9)), (5, .int (nI ls9)), (6, .int (nI s9)), (7, .int (nI w9)), (0, .ref o), (1, .int (nI kx1)), (2, .int (nI kx2))]) hx hb dX8_tries_186 hl (by decide) rfl (fun ls hl => ?_)
              refine lv_iload hx hb dX8_tries_188 (lv_at hl 4 rfl) ?_
              refine lv_iload hx hb dX8_tries_190 (lv_at hl 2 rfl) ?_
              refine mv_icmp_ge (tgt := 200) hx hb (by first | omega | exact Nat.lt_trans (bN_lt _) (by decide)) (by omega) dX8_tries_192 (by decide) (fun c192 => ?_) (fun c192 => ?_)
              · skip
                refine lv_iload hx hb dX8_tries_200 (lv_at hl 2 rfl) ?_
                exact L202  ls9 ((if_neg (by omega)).symm) _ _ _ hP hD hS (lv_sub hl [1, 0, 3, 5, 6, 7] rfl)
              · skip
                refine lv_iload hx hb dX8_tries_195 (lv_at hl 4 rfl) ?_
                refine lv_goto (tgt := 202) hx hb dX8_tries_197 (by decide) ?_
                exact L202  w9 ((if_pos (by omega)).symm) _ _ _ hP hD hS (lv_sub hl [1, 0, 3, 5, 6, 7] rfl)
            refine lv_istore (lv' := [(7, .int (nI w9)), (3, .int (nI n9)), (4, .int (oI fd)), (5, .int (nI ls9)), (6, .int (nI s9)), (0, .ref o), (1, .int (nI kx1)), (2, .int (nI kx2))]) hx hb dX8_tries_170 hl (by decide) rfl (fun ls hl => ?_)
            refine lv_iload hx hb dX8_tries_172 (lv_at hl 0 rfl) ?_
            refine lv_iload hx hb dX8_tries_174 (lv_at hl 3 rfl) ?_
            refine mv_icmp_ge (tgt := 184) hx hb (by first | omega | exact Nat.lt_trans (bN_lt _) (by decide)) (by omega) dX8_tries_176 (by decide) (fun c176 => ?_) (fun c176 => ?_)
            · skip
              refine lv_iload hx hb dX8_tries_184 (lv_at hl 2 rfl) ?_
              exact L186  fd ((if_neg (by omega)).symm) _ _ _ hP hD hS (lv_sub hl [1, 3, 4, 0, 5, 6, 7] rfl)
            · skip
              refine lv_iload hx hb dX8_tries_179 (lv_at hl 4 rfl) ?_
              refine lv_goto (tgt := 186) hx hb dX8_tries_181 (by decide) ?_
              exact L186  (some s9) ((if_pos (by omega)).symm) _ _ _ hP hD hS (lv_sub hl [1, 3, 4, 0, 5, 6, 7] rfl)
          refine lv_iload hx hb dX8_tries_121 (lv_at hl 3 rfl) ?_
          refine lv_bipush (v := nI 10) hx hb dX8_tries_123 (by decide) ?_
          refine mv_icmp_ge (tgt := 210) hx hb (by first | omega | exact Nat.lt_trans (bN_lt _) (by decide)) (by omega) dX8_tries_125 (by decide) (fun c125 => ?_) (fun c125 => ?_)
          · skip
            rcases fd with _ | f9
            · skip
              have hs0 : s9 = 0 := by rcases Nat.eq_zero_or_pos s9 with q | q; exact q; rw [if_neg (by omega)] at hfd; cases hfd
              have hl : lv_has ls 8 [(3, .int (nI n9)), (4, .int (oI none)), (5, .int (nI ls9)), (6, .int (nI s9)), (0, .ref o), (1, .int (nI kx1)), (2, .int (nI kx2))] := hl
              refine lv_iload hx hb dX8_tries_210 (lv_at hl 1 rfl) ?_
              refine lv_if_lt (tgt := 219) hx hb dX8_tries_212 (by decide) (fun c212 => ?_) (fun c212 => ?_)
              · skip
                refine lv_iload hx hb dX8_tries_219 (lv_at hl 1 rfl) ?_
                refine lv_goto (tgt := 226) hx hb dX8_tries_221 (by decide) ?_
                exact mv_iret hx hb hr hlocks (gz) (by simp only [sp_tries, e1, hq1, hcl1, e2, hq2, hcl2, Bool.not_true, Bool.not_false, if_true, if_false, Bool.false_eq_true, reduceIte, Bool.true_and, Bool.and_true, Bool.false_and, Bool.and_false, Bool.or_false, Bool.or_true, ite_self] <;> (rw [if_pos (by rw [← hn4]; omega)]; rfl)) hP hK hD hS dX8_tries_226
              · skip
                exact absurd (by decide) c212
            · skip
              have hs0 : s9 ≠ 0 := by intro q; rw [if_pos q] at hfd; cases hfd
              rw [if_neg hs0] at hfd hls
              have hf9 : f9 = tryS (trM (ftS kx1 gsi bs sc8)) (s9 - 1) := Option.some.inj hfd
              have ht9 := tryS_le (trM (ftS kx1 gsi bs sc8)) (s9 - 1)
              have hn6 := hz9 hs0
              have h10 : s9 - 1 = 9 := by omega
              rw [h10] at hf9 hls ht9
              have hl : lv_has ls 8 [(3, .int (nI n9)), (4, .int (nI f9)), (5, .int (nI ls9)), (6, .int (nI s9)), (0, .ref o), (1, .int (nI kx1)), (2, .int (nI kx2))] := hl
              refine lv_iload hx hb dX8_tries_210 (lv_at hl 1 rfl) ?_
              refine mv_if_lt (tgt := 219) hx hb (by first | omega | exact Nat.lt_trans (bN_lt _) (by decide)) dX8_tries_212 (by decide) (fun c212 => ?_) (fun c212 => ?_)
              · skip
                exact absurd c212 (Nat.not_lt_zero _)
              · skip
                refine lv_iload_n hx hb dX8_tries_215 rfl (lv_at hl 6 rfl) ?_
                refine mv_if_ne (tgt := 224) hx hb (by first | omega | exact Nat.lt_trans (bN_lt _) (by decide)) dX8_tries_216 (by decide) (fun c216 => ?_) (fun c216 => ?_)
                · skip
                  refine lv_iload hx hb dX8_tries_224 (lv_at hl 2 rfl) ?_
                  exact mv_iret hx hb hr hlocks (gz) (by simp only [sp_tries, e1, hq1, hcl1, e2, hq2, hcl2, Bool.not_true, Bool.not_false, if_true, if_false, Bool.false_eq_true, reduceIte, Bool.true_and, Bool.and_true, Bool.false_and, Bool.and_false, Bool.or_false, Bool.or_true, ite_self] <;> (rw [if_neg (by rw [← hn4]; omega), if_neg (by omega), hls])) hP hK hD hS dX8_tries_226
                · skip
                  refine lv_iload hx hb dX8_tries_219 (lv_at hl 1 rfl) ?_
                  refine lv_goto (tgt := 226) hx hb dX8_tries_221 (by decide) ?_
                  exact mv_iret hx hb hr hlocks (gz) (by simp only [sp_tries, e1, hq1, hcl1, e2, hq2, hcl2, Bool.not_true, Bool.not_false, if_true, if_false, Bool.false_eq_true, reduceIte, Bool.true_and, Bool.and_true, Bool.false_and, Bool.and_false, Bool.or_false, Bool.or_true, ite_self] <;> (rw [if_neg (by rw [← hn4]; omega), if_pos (by omega), hf9])) hP hK hD hS dX8_tries_226
          · skip
            refine lv_iload_n hx hb dX8_tries_128 rfl (lv_at hl 0 rfl) ?_
            refine mv_if_le (tgt := 210) hx hb (by first | omega | exact Nat.lt_trans (bN_lt _) (by decide)) dX8_tries_129 (by decide) (fun c129 => ?_) (fun c129 => ?_)
            · skip
              rcases fd with _ | f9
              · skip
                have hs0 : s9 = 0 := by rcases Nat.eq_zero_or_pos s9 with q | q; exact q; rw [if_neg (by omega)] at hfd; cases hfd
                have hl : lv_has ls 8 [(3, .int (nI n9)), (4, .int (oI none)), (5, .int (nI ls9)), (6, .int (nI s9)), (0, .ref o), (1, .int (nI kx1)), (2, .int (nI kx2))] := hl
                refine lv_iload hx hb dX8_tries_210 (lv_at hl 1 rfl) ?_
                refine lv_if_lt (tgt := 219) hx hb dX8_tries_212 (by decide) (fun c212 => ?_) (fun c212 => ?_)
                · skip
                  refine lv_iload hx hb dX8_tries_219 (lv_at hl 1 rfl) ?_
                  refine lv_goto (tgt := 226) hx hb dX8_tries_221 (by decide) ?_
                  exact mv_iret hx hb hr hlocks (gz) (by simp only [sp_tries, e1, hq1, hcl1, e2, hq2, hcl2, Bool.not_true, Bool.not_false, if_true, if_false, Bool.false_eq_true, reduceIte, Bool.true_and, Bool.and_true, Bool.false_and, Bool.and_false, Bool.or_false, Bool.or_true, ite_self] <;> (rw [if_pos (by rw [← hn4]; omega)]; rfl)) hP hK hD hS dX8_tries_226
                · skip
                  exact absurd (by decide) c212
              · skip
                have hs0 : s9 ≠ 0 := by intro q; rw [if_pos q] at hfd; cases hfd
                rw [if_neg hs0] at hfd hls
                have hf9 : f9 = tryS (trM (ftS kx1 gsi bs sc8)) (s9 - 1) := Option.some.inj hfd
                have ht9 := tryS_le (trM (ftS kx1 gsi bs sc8)) (s9 - 1)
                have hn6 := hz9 hs0
                have h10 : s9 - 1 = 9 := by omega
                rw [h10] at hf9 hls ht9
                have hl : lv_has ls 8 [(3, .int (nI n9)), (4, .int (nI f9)), (5, .int (nI ls9)), (6, .int (nI s9)), (0, .ref o), (1, .int (nI kx1)), (2, .int (nI kx2))] := hl
                refine lv_iload hx hb dX8_tries_210 (lv_at hl 1 rfl) ?_
                refine mv_if_lt (tgt := 219) hx hb (by first | omega | exact Nat.lt_trans (bN_lt _) (by decide)) dX8_tries_212 (by decide) (fun c212 => ?_) (fun c212 => ?_)
                · skip
                  exact absurd c212 (Nat.not_lt_zero _)
                · skip
                  refine lv_iload_n hx hb dX8_tries_215 rfl (lv_at hl 6 rfl) ?_
                  refine mv_if_ne (tgt := 224) hx hb (by first | omega | exact Nat.lt_trans (bN_lt _) (by decide)) dX8_tries_216 (by decide) (fun c216 => ?_) (fun c216 => ?_)
                  · skip
                    refine lv_iload hx hb dX8_tries_224 (lv_at hl 2 rfl) ?_
                    exact mv_iret hx hb hr hlocks (gz) (by simp only [sp_tries, e1, hq1, hcl1, e2, hq2, hcl2, Bool.not_true, Bool.not_false, if_true, if_false, Bool.false_eq_true, reduceIte, Bool.true_and, Bool.and_true, Bool.false_and, Bool.and_false, Bool.or_false, Bool.or_true, ite_self] <;> (rw [if_neg (by rw [← hn4]; omega), if_neg (by omega), hls])) hP hK hD hS dX8_tries_226
                  · skip
                    refine lv_iload hx hb dX8_tries_219 (lv_at hl 1 rfl) ?_
                    refine lv_goto (tgt := 226) hx hb dX8_tries_221 (by decide) ?_
                    exact mv_iret hx hb hr hlocks (gz) (by simp only [sp_tries, e1, hq1, hcl1, e2, hq2, hcl2, Bool.not_true, Bool.not_false, if_true, if_false, Bool.false_eq_true, reduceIte, Bool.true_and, Bool.and_true, Bool.false_and, Bool.and_false, Bool.or_false, Bool.or_true, ite_self] <;> (rw [if_neg (by rw [← hn4]; omega), if_pos (by omega), hf9])) hP hK hD hS dX8_tries_226
            · skip
              have hgs := hc s9 (by omega)
              have hcl9 := cvS_le (ftS kx1 gsi bs sc8) s9 1024
              have hnu9 := nuS_le (ftS kx1 gsi bs sc8) 1024
              refine lv_aload_n hx hb dX8_tries_132 rfl (lv_at hl 4 rfl) ?_
              refine va_get (D := D) (ci := 8) (v := .ref oc8) (C := RX8) (T := TX8) (N := 21) hx hb hts inlX8 hown hK hP 0 rfl rfl 15 (by decide) (hts _ mw_91) (fun _ h9 => h9) rfl dX8_tries_133 ?_
              refine lv_iload hx hb dX8_tries_136 (lv_at hl 3 rfl) ?_
              refine mv_iald hx hb hK hP 2 rfl (i := s9) (by omega) (by decide) dX8_tries_138 ?_
              refine lv_iload_n hx hb dX8_tries_139 rfl (lv_at hl 0 rfl) ?_
              refine lv_aload_n hx hb dX8_tries_140 rfl (lv_at hl 4 rfl) ?_
              refine va_get (D := D) (ci := 8) (v := .ref oc8) (C := RX8) (T := TX8) (N := 21) hx hb hts inlX8 hown hK hP 0 rfl rfl 15 (by decide) (hts _ mw_91) (fun _ h9 => h9) rfl dX8_tries_141 ?_
              refine lv_iload hx hb dX8_tries_144 (lv_at hl 3 rfl) ?_
              refine mv_iald hx hb hK hP 2 rfl (i := s9) (by omega) (by decide) dX8_tries_146 ?_
              refine mv_isub hx hb (by omega) dX8_tries_147 ?_
              refine mv_icmp_le (tgt := 161) hx hb (by first | omega | exact Nat.lt_trans (bN_lt _) (by decide)) (by omega) dX8_tries_148 (by decide) (fun c148 => ?_) (fun c148 => ?_)
              · skip
                refine lv_iload_n hx hb dX8_tries_161 rfl (lv_at hl 0 rfl) ?_
                refine lv_aload_n hx hb dX8_tries_162 rfl (lv_at hl 4 rfl) ?_
                refine va_get (D := D) (ci := 8) (v := .ref oc8) (C := RX8) (T := TX8) (N := 21) hx hb hts inlX8 hown hK hP 0 rfl rfl 15 (by decide) (hts _ mw_91) (fun _ h9 => h9) rfl dX8_tries_163 ?_
                refine lv_iload hx hb dX8_tries_166 (lv_at hl 3 rfl) ?_
                refine mv_iald hx hb hK hP 2 rfl (i := s9) (by omega) (by decide) dX8_tries_168 ?_
                refine mv_isub hx hb (by omega) dX8_tries_169 ?_
                exact L170  (n9 - (gz s9)) (by show n9 - gz s9 = mxN (cvS (ftS kx1 gsi bs sc8) s9 1024) ((nuS (ftS kx1 gsi bs sc8) 1024) - cvS (ftS kx1 gsi bs sc8) s9 1024); rw [← hc s9 (by omega), ← hn4]; exact mx_eq2 (by omega)) (by first | assumption | omega | rfl) (by first | assumption | omega | rfl) _ _ _ hP hD hS (lv_sub hl [0, 1, 2, 3, 4, 5, 6] rfl)
              · skip
                refine lv_aload_n hx hb dX8_tries_151 rfl (lv_at hl 4 rfl) ?_
                refine va_get (D := D) (ci := 8) (v := .ref oc8) (C := RX8) (T := TX8) (N := 21) hx hb hts inlX8 hown hK hP 0 rfl rfl 15 (by decide) (hts _ mw_91) (fun _ h9 => h9) rfl dX8_tries_152 ?_
                refine lv_iload hx hb dX8_tries_155 (lv_at hl 3 rfl) ?_
                refine mv_iald hx hb hK hP 2 rfl (i := s9) (by omega) (by decide) dX8_tries_157 ?_
                refine lv_goto (tgt := 170) hx hb dX8_tries_158 (by decide) ?_
                exact L170  (gz s9) (by show gz s9 = mxN (cvS (ftS kx1 gsi bs sc8) s9 1024) ((nuS (ftS kx1 gsi bs sc8) 1024) - cvS (ftS kx1 gsi bs sc8) s9 1024); rw [← hc s9 (by omega), ← hn4]; exact mx_eq1 (by omega)) (by first | assumption | omega | rfl) (by first | assumption | omega | rfl) _ _ _ hP hD hS (lv_sub hl [0, 1, 2, 3, 4, 5, 6] rfl)
      have L74 : ∀ (fu : Nat) (s9 : Nat) (gy : Nat → Nat) (hs9 : s9 ≤ 10) (hft : (ftS kx1 gsi bs sc8) k = true) (hk2 : k < 1024) (hg1 : ∀ j, j < s9 → gy j = cvS (ftS kx1 gsi bs sc8) j k + k / 2 ^ j % 2) (hg2 : ∀ j, s9 ≤ j → j < 10 → gy j = cvS (ftS kx1 gsi bs sc8) j k) (hmeas : 10 - s9 < fu) (H : Heap) (locs : List Loc) (ls : Array Slot), va_P D vwCl [(o, .inr (8, [.ref ob, .ref on, .ref ow8, .ref os, .ref oe, .int (nI sc8), .ref oi, .int (nI cn8), .ref op, .int (nI bt), .int (oI gA), .int (oI gR), .int rs8, .int (nI a8), .ref oz, .ref oc8, .ref oq, .ref om, .ref oy, .ref og, .ref ok8])), (oi, .inl (Y 0, 16, .inl (aN (sgt gsi bs)))), (oc8, .inl (Y 0, 10, .inl (aN gy)))] H → va_D A [(o, .inr (8, [.ref ob, .ref on, .ref ow8, .ref os, .ref oe, .int (nI sc8), .ref oi, .int (nI cn8), .ref op, .int (nI bt), .int (oI gA), .int (oI gR), .int rs8, .int (nI a8), .ref oz, .ref oc8, .ref oq, .ref om, .ref oy, .ref og, .ref ok8])), (oi, .inl (Y 0, 16, .inl (aN (sgt gsi bs)))), (oc8, .inl (Y 0, 10, .inl (aN gy)))] → va_S A s.heap H locs → lv_has ls 8 [(3, .int (nI (n9 + 1))), (4, .int (nI k)), (5, .int (nI s9)), (0, .ref o), (1, .int (nI kx1)), (2, .int (nI kx2))] → W p l e (mv_R 2 0 0) s m [.ref o, .int x1, .int x2].toArray below meth c H locs 0 0 (MQ below ((q_X8_tries D Y o ob on ow8 os oe oi op oz oc8 oq om oy og ok8 sc8 cn8 bt a8 rs8 gA gR gsi bs gc8 x1 x2) A) [.ref o, .int x1, .int x2].toArray s 0 0 A) (F0 m 74 ls []) := by
        intro fu
        induction fu with
        | zero =>
          intro s9 gy hs9 hft hk2 hg1 hg2 hmeas
          exact absurd hmeas (Nat.not_lt_zero _)
        | succ fu L74ih =>
          intro s9 gy hs9 hft hk2 hg1 hg2 hmeas H locs ls hP hD hS hl
          refine lv_iload hx hb dX8_tries_74 (lv_at hl 2 rfl) ?_
          refine lv_bipush (v := nI 10) hx hb dX8_tries_76 (by decide) ?_
          refine mv_icmp_ge (tgt := 104) hx hb (by first | omega | exact Nat.lt_trans (bN_lt _) (by decide)) (by omega) dX8_tries_78 (by decide) (fun c78 => ?_) (fun c78 => ?_)
          · skip
            refine lv_iinc (v := nI (k + 1)) (lv' := [(4, .int (nI (k + 1))), (3, .int (nI (n9 + 1))), (5, .int (nI s9)), (0, .ref o), (1, .int (nI kx1)), (2, .int (nI kx2))]) hx hb dX8_tries_104 hl (k := 1) rfl (by exact nI_add _ 1) (by decide) rfl (fun ls hl => ?_)
            refine lv_goto (tgt := 50) hx hb dX8_tries_107 (by decide) ?_
            exact L50ih  kx1 kx2 (k + 1) (n9 + 1) gy (by first | assumption | omega | rfl) (by first | assumption | omega | rfl) (by first | assumption | omega | rfl) (by first | assumption | omega | rfl) (by first | assumption | omega | rfl) (by rw [nuS, if_pos hft, hn]) (fun j hj => by rw [cvS, if_pos hft]; exact hg1 j (by omega)) (by omega) _ _ _ hP hD hS (lv_sub hl [1, 0, 3, 4, 5] rfl)
          · skip
            refine lv_aload_n hx hb dX8_tries_81 rfl (lv_at hl 3 rfl) ?_
            refine va_get (D := D) (ci := 8) (v := .ref oc8) (C := RX8) (T := TX8) (N := 21) hx hb hts inlX8 hown hK hP 0 rfl rfl 15 (by decide) (hts _ mw_91) (fun _ h9 => h9) rfl dX8_tries_82 ?_
            refine lv_iload hx hb dX8_tries_85 (lv_at hl 2 rfl) ?_
            refine lv_dup2_11 hx hb dX8_tries_87 rfl rfl ?_
            refine mv_iald hx hb hK hP 2 rfl (i := s9) (by omega) (by decide) dX8_tries_88 ?_
            refine lv_iload hx hb dX8_tries_89 (lv_at hl 1 rfl) ?_
            refine lv_iload hx hb dX8_tries_91 (lv_at hl 2 rfl) ?_
            refine mv_ishr hx hb (by first | omega | exact Nat.lt_trans (bN_lt _) (by decide)) (by omega) dX8_tries_93 ?_
            refine lv_iconst (v := nI 1) hx hb dX8_tries_94 (by decide) ?_
            refine mv_iand1 hx hb dX8_tries_95 ?_
            refine mv_iadd hx hb dX8_tries_96 ?_
            refine mv_iast hx hb hK hP hD hS 2 rfl (i := s9) (v := (gy s9) + ((k / 2 ^ s9) % 2)) (by omega) (by decide) dX8_tries_97 (fun H locs hP hD hS => ?_)
            have hP : va_P D vwCl [(o, .inr (8, [.ref ob, .ref on, .ref ow8, .ref os, .ref oe, .int (nI sc8), .ref oi, .int (nI cn8), .ref op, .int (nI bt), .int (oI gA), .int (oI gR), .int rs8, .int (nI a8), .ref oz, .ref oc8, .ref oq, .ref om, .ref oy, .ref og, .ref ok8])), (oi, .inl (Y 0, 16, .inl (aN (sgt gsi bs)))), (oc8, .inl (Y 0, 10, .inl (aN (uN gy s9 ((gy s9) + ((k / 2 ^ s9) % 2))))))] H := hP
            have hD : va_D A [(o, .inr (8, [.ref ob, .ref on, .ref ow8, .ref os, .ref oe, .int (nI sc8), .ref oi, .int (nI cn8), .ref op, .int (nI bt), .int (oI gA), .int (oI gR), .int rs8, .int (nI a8), .ref oz, .ref oc8, .ref oq, .ref om, .ref oy, .ref og, .ref ok8])), (oi, .inl (Y 0, 16, .inl (aN (sgt gsi bs)))), (oc8, .inl (Y 0, 10, .inl (aN (uN gy s9 ((gy s9) + ((k / 2 ^ s9) % 2))))))] := hD
            refine lv_iinc (v := nI (s9 + 1)) (lv' := [(5, .int (nI (s9 + 1))), (3, .int (nI (n9 + 1))), (4, .int (nI k)), (0, .ref o), (1, .int (nI kx1)), (2, .int (nI kx2))]) hx hb dX8_tries_98 hl (k := 2) rfl (by exact nI_add _ 1) (by decide) rfl (fun ls hl => ?_)
            refine lv_goto (tgt := 74) hx hb dX8_tries_101 (by decide) ?_
            exact L74ih  (s9 + 1) (uN gy s9 ((gy s9) + ((k / 2 ^ s9) % 2))) (by first | assumption | omega | rfl) (by first | assumption | omega | rfl) (by first | assumption | omega | rfl) (fun j hj => by by_cases e9 : j = s9; rw [e9, uN_s, hg2 s9 (Nat.le_refl _) (by omega)]; rw [uN_n _ _ e9]; exact hg1 j (by omega)) (fun j h1 h2 => by rw [uN_n _ _ (by omega)]; exact hg2 j (by omega) h2) (by omega) _ _ _ hP hD hS (lv_sub hl [1, 2, 0, 3, 4, 5] rfl)
      refine lv_iload hx hb dX8_tries_50 (lv_at hl 1 rfl) ?_
      refine lv_sipush (v := nI 1024) hx hb dX8_tries_52 (by decide) ?_
      refine mv_icmp_ge (tgt := 110) hx hb (by first | omega | exact Nat.lt_trans (bN_lt _) (by decide)) (by omega) dX8_tries_55 (by decide) (fun c55 => ?_) (fun c55 => ?_)
      · skip
        refine lv_bipush (v := -6) hx hb dX8_tries_110 (by decide) ?_
        refine lv_istore (lv' := [(4, .int (-6)), (3, .int (nI n9)), (0, .ref o), (1, .int (nI kx1)), (2, .int (nI kx2))]) hx hb dX8_tries_112 hl (by decide) rfl (fun ls hl => ?_)
        refine lv_ldc (v := nI 1000000) hx hb hown (hts _ mw_484) dX8_tries_114 ?_
        refine lv_istore (lv' := [(5, .int (nI 1000000)), (4, .int (-6)), (3, .int (nI n9)), (0, .ref o), (1, .int (nI kx1)), (2, .int (nI kx2))]) hx hb dX8_tries_116 hl (by decide) rfl (fun ls hl => ?_)
        refine lv_iconst (v := nI 0) hx hb dX8_tries_118 (by decide) ?_
        refine lv_istore (lv' := [(6, .int (nI 0)), (5, .int (nI 1000000)), (4, .int (-6)), (3, .int (nI n9)), (0, .ref o), (1, .int (nI kx1)), (2, .int (nI kx2))]) hx hb dX8_tries_119 hl (by decide) rfl (fun ls hl => ?_)
        exact L121 (10 - 0 + 1) 0 1000000 none (by first | assumption | omega | rfl) (by rw [hn, show k = 1024 by omega]) (fun j hj => by rw [← show k = 1024 by omega]; exact hg j hj) (rfl) (rfl) (fun q => absurd rfl q) (Nat.lt_succ_self _) _ _ _ hP hD hS (lv_sub hl [3, 2, 1, 0, 4, 5, 6] rfl)
      · skip
        refine lv_aload_n hx hb dX8_tries_58 rfl (lv_at hl 2 rfl) ?_
        refine lv_iload hx hb dX8_tries_59 (lv_at hl 1 rfl) ?_
        refine lv_iload_n hx hb dX8_tries_61 rfl (lv_at hl 3 rfl) ?_
        refine mv_callVi (nA := 2) (As := [.int (nI k), .int (nI kx1)]) (rest := []) (Wc := [(o, .inr (8, [.ref ob, .ref on, .ref ow8, .ref os, .ref oe, .int (nI sc8), .ref oi, .int (nI cn8), .ref op, .int (nI bt), .int (oI gA), .int (oI gR), .int rs8, .int (nI a8), .ref oz, .ref oc8, .ref oq, .ref om, .ref oy, .ref og, .ref ok8])), (oi, .inl (Y 0, 16, .inl (aN (sgt gsi bs))))]) (wr := [(oc8, .inl (Y 0, 10, .inl (aN gz)))]) hx hb hml hown hts hK hP hD hS hST hA hl.1 (c_X8_areLies l D Y _ o ob on ow8 os oe oi op oz oc8 oq om oy og ok8 sc8 cn8 bt a8 rs8 gA gR gsi bs k kx1 (by first | assumption | omega | rfl) (by first | assumption | omega | rfl) (by first | assumption | omega | rfl)) [0, 1] [2] rfl rfl (by decide) (by decide) (by decide) rfl 0 rfl rfl rfl mw_532 mw_533 mw_534 mw_5 mw_535 ⟨by decide, by decide, by decide +kernel⟩ rfl ⟨Nat.le_of_ble_eq_true rfl, Nat.le_of_ble_eq_true rfl⟩ rfl (Nat.le_of_ble_eq_true rfl) dX8_tries_62 ⟨Nat.le_of_ble_eq_true rfl, Nat.le_of_ble_eq_true rfl⟩ (fun r_1 ux H locs hr62 hP hD hS hz62 => ?_)
        have hP := hP.sub (ws' := [(o, .inr (8, [.ref ob, .ref on, .ref ow8, .ref os, .ref oe, .int (nI sc8), .ref oi, .int (nI cn8), .ref op, .int (nI bt), .int (oI gA), .int (oI gR), .int rs8, .int (nI a8), .ref oz, .ref oc8, .ref oq, .ref om, .ref oy, .ref og, .ref ok8])), (oi, .inl (Y 0, 16, .inl (aN (sgt gsi bs)))), (oc8, .inl (Y 0, 10, .inl (aN gz)))]) [1, 2, 0] rfl
        have hD := hD.sub (ws' := [(o, .inr (8, [.ref ob, .ref on, .ref ow8, .ref os, .ref oe, .int (nI sc8), .ref oi, .int (nI cn8), .ref op, .int (nI bt), .int (oI gA), .int (oI gR), .int rs8, .int (nI a8), .ref oz, .ref oc8, .ref oq, .ref om, .ref oy, .ref og, .ref ok8])), (oi, .inl (Y 0, 16, .inl (aN (sgt gsi bs)))), (oc8, .inl (Y 0, 10, .inl (aN gz)))]) [1, 2, 0] (by decide) rfl
        have hr62 : r_1 = nI (bN (ftS kx1 gsi bs sc8 k)) := hr62
        subst hr62
        refine mv_if_eq (tgt := 104) hx hb (by first | omega | exact Nat.lt_trans (bN_lt _) (by decide)) dX8_tries_65 (by decide) (fun c65 => ?_) (fun c65 => ?_)
        · skip
          refine lv_iinc (v := nI (k + 1)) (lv' := [(4, .int (nI (k + 1))), (3, .int (nI n9)), (0, .ref o), (1, .int (nI kx1)), (2, .int (nI kx2))]) hx hb dX8_tries_104 hl (k := 1) rfl (by exact nI_add _ 1) (by decide) rfl (fun ls hl => ?_)
          refine lv_goto (tgt := 50) hx hb dX8_tries_107 (by decide) ?_
          exact L50ih  kx1 kx2 (k + 1) n9 gz (by first | assumption | omega | rfl) (by first | assumption | omega | rfl) (by first | assumption | omega | rfl) (by first | assumption | omega | rfl) (by first | assumption | omega | rfl) (by rw [nuS, if_neg (by rw [bN_0.mp c65]; decide), hn]) (fun j hj => by rw [cvS, if_neg (by rw [bN_0.mp c65]; decide)]; exact hg j hj) (by omega) _ _ _ hP hD hS (lv_sub hl [1, 0, 2, 3, 4] rfl)
        · skip
          refine lv_iinc (v := nI (n9 + 1)) (lv' := [(3, .int (nI (n9 + 1))), (4, .int (nI k)), (0, .ref o), (1, .int (nI kx1)), (2, .int (nI kx2))]) hx hb dX8_tries_68 hl (k := 0) rfl (by exact nI_add _ 1) (by decide) rfl (fun ls hl => ?_)
          refine lv_iconst (v := nI 0) hx hb dX8_tries_71 (by decide) ?_
          refine lv_istore (lv' := [(5, .int (nI 0)), (3, .int (nI (n9 + 1))), (4, .int (nI k)), (0, .ref o), (1, .int (nI kx1)), (2, .int (nI kx2))]) hx hb dX8_tries_72 hl (by decide) rfl (fun ls hl => ?_)
          exact L74 (10 - 0 + 1) 0 gz (by first | assumption | omega | rfl) (bN_1.mp c65) (by first | assumption | omega | rfl) (fun j hj => absurd hj (Nat.not_lt_zero _)) (fun j _ hj => hg j hj) (Nat.lt_succ_self _) _ _ _ hP hD hS (lv_sub hl [1, 2, 0, 3, 4, 5] rfl)
  have L26 : ∀ (fu : Nat) (kx1 : Nat) (kx2 : Nat) (k : Nat) (gz : Nat → Nat) (e1 : x1 = nI kx1) (hi1 : kx1 ≤ 3) (e2 : x2 = nI kx2) (hi2 : kx2 ≤ 1) (hk : k ≤ 10) (hg : ∀ j, j < k → gz j = 0) (hmeas : 10 - k < fu) (H : Heap) (locs : List Loc) (ls : Array Slot), va_P D vwCl [(o, .inr (8, [.ref ob, .ref on, .ref ow8, .ref os, .ref oe, .int (nI sc8), .ref oi, .int (nI cn8), .ref op, .int (nI bt), .int (oI gA), .int (oI gR), .int rs8, .int (nI a8), .ref oz, .ref oc8, .ref oq, .ref om, .ref oy, .ref og, .ref ok8])), (oi, .inl (Y 0, 16, .inl (aN (sgt gsi bs)))), (oc8, .inl (Y 0, 10, .inl (aN gz)))] H → va_D A [(o, .inr (8, [.ref ob, .ref on, .ref ow8, .ref os, .ref oe, .int (nI sc8), .ref oi, .int (nI cn8), .ref op, .int (nI bt), .int (oI gA), .int (oI gR), .int rs8, .int (nI a8), .ref oz, .ref oc8, .ref oq, .ref om, .ref oy, .ref og, .ref ok8])), (oi, .inl (Y 0, 16, .inl (aN (sgt gsi bs)))), (oc8, .inl (Y 0, 10, .inl (aN gz)))] → va_S A s.heap H locs → lv_has ls 8 [(3, .int (nI 0)), (4, .int (nI k)), (0, .ref o), (1, .int (nI kx1)), (2, .int (nI kx2))] → W p l e (mv_R 2 0 0) s m [.ref o, .int x1, .int x2].toArray below meth c H locs 0 0 (MQ below ((q_X8_tries D Y o ob on ow8 os oe oi op oz oc8 oq om oy og ok8 sc8 cn8 bt a8 rs8 gA gR gsi bs gc8 x1 x2) A) [.ref o, .int x1, .int x2].toArray s 0 0 A) (F0 m 26 ls []) := by
    intro fu
    induction fu with
    | zero =>
      intro kx1 kx2 k gz e1 hi1 e2 hi2 hk hg hmeas
      exact absurd hmeas (Nat.not_lt_zero _)
    | succ fu L26ih =>
      intro kx1 kx2 k gz e1 hi1 e2 hi2 hk hg hmeas H locs ls hP hD hS hl
      refine lv_iload hx hb dX8_tries_26 (lv_at hl 1 rfl) ?_
      refine lv_bipush (v := nI 10) hx hb dX8_tries_28 (by decide) ?_
      refine mv_icmp_ge (tgt := 47) hx hb (by first | omega | exact Nat.lt_trans (bN_lt _) (by decide)) (by omega) dX8_tries_30 (by decide) (fun c30 => ?_) (fun c30 => ?_)
      · skip
        refine lv_iconst (v := nI 0) hx hb dX8_tries_47 (by decide) ?_
        refine lv_istore (lv' := [(4, .int (nI 0)), (3, .int (nI 0)), (0, .ref o), (1, .int (nI kx1)), (2, .int (nI kx2))]) hx hb dX8_tries_48 hl (by decide) rfl (fun ls hl => ?_)
        exact L50 (1024 - 0 + 1) kx1 kx2 0 0 gz (by first | assumption | omega | rfl) (by first | assumption | omega | rfl) (by first | assumption | omega | rfl) (by first | assumption | omega | rfl) (by first | assumption | omega | rfl) (rfl) (fun j hj => hg j (by omega)) (Nat.lt_succ_self _) _ _ _ hP hD hS (lv_sub hl [1, 0, 2, 3, 4] rfl)
      · skip
        refine lv_aload_n hx hb dX8_tries_33 rfl (lv_at hl 2 rfl) ?_
        refine va_get (D := D) (ci := 8) (v := .ref oc8) (C := RX8) (T := TX8) (N := 21) hx hb hts inlX8 hown hK hP 0 rfl rfl 15 (by decide) (hts _ mw_91) (fun _ h9 => h9) rfl dX8_tries_34 ?_
        refine lv_iload hx hb dX8_tries_37 (lv_at hl 1 rfl) ?_
        refine lv_iconst (v := nI 0) hx hb dX8_tries_39 (by decide) ?_
        refine mv_iast hx hb hK hP hD hS 2 rfl (i := k) (v := 0) (by omega) (by decide) dX8_tries_40 (fun H locs hP hD hS => ?_)
        have hP : va_P D vwCl [(o, .inr (8, [.ref ob, .ref on, .ref ow8, .ref os, .ref oe, .int (nI sc8), .ref oi, .int (nI cn8), .ref op, .int (nI bt), .int (oI gA), .int (oI gR), .int rs8, .int (nI a8), .ref oz, .ref oc8, .ref oq, .ref om, .ref oy, .ref og, .ref ok8])), (oi, .inl (Y 0, 16, .inl (aN (sgt gsi bs)))), (oc8, .inl (Y 0, 10, .inl (aN (uN gz k 0))))] H := hP
        have hD : va_D A [(o, .inr (8, [.ref ob, .ref on, .ref ow8, .ref os, .ref oe, .int (nI sc8), .ref oi, .int (nI cn8), .ref op, .int (nI bt), .int (oI gA), .int (oI gR), .int rs8, .int (nI a8), .ref oz, .ref oc8, .ref oq, .ref om, .ref oy, .ref og, .ref ok8])), (oi, .inl (Y 0, 16, .inl (aN (sgt gsi bs)))), (oc8, .inl (Y 0, 10, .inl (aN (uN gz k 0))))] := hD
        refine lv_iinc (v := nI (k + 1)) (lv' := [(4, .int (nI (k + 1))), (3, .int (nI 0)), (0, .ref o), (1, .int (nI kx1)), (2, .int (nI kx2))]) hx hb dX8_tries_41 hl (k := 1) rfl (by exact nI_add _ 1) (by decide) rfl (fun ls hl => ?_)
        refine lv_goto (tgt := 26) hx hb dX8_tries_44 (by decide) ?_
        exact L26ih  kx1 kx2 (k + 1) (uN gz k 0) (by first | assumption | omega | rfl) (by first | assumption | omega | rfl) (by first | assumption | omega | rfl) (by first | assumption | omega | rfl) (by first | assumption | omega | rfl) (fun j hj => by by_cases e9 : j = k; rw [e9, uN_s]; rw [uN_n _ _ e9]; exact hg j (by omega)) (by omega) _ _ _ hP hD hS (lv_sub hl [1, 0, 2, 3, 4] rfl)
  refine lv_iload_n hx hb dX8_tries_0 rfl (lv_at hl 1 rfl) ?_
  refine lv_iconst (v := nI 0) hx hb dX8_tries_1 (by decide) ?_
  refine lv_iconst (v := nI 3) hx hb dX8_tries_2 (by decide) ?_
  refine mv_callSi (nA := 3) (As := [.int x1, .int (nI 0), .int (nI 3)]) (rest := []) (Wc := []) (wr := [(o, .inr (8, [.ref ob, .ref on, .ref ow8, .ref os, .ref oe, .int (nI sc8), .ref oi, .int (nI cn8), .ref op, .int (nI bt), .int (oI gA), .int (oI gR), .int rs8, .int (nI a8), .ref oz, .ref oc8, .ref oq, .ref om, .ref oy, .ref og, .ref ok8])), (oi, .inl (Y 0, 16, .inl (aN (sgt gsi bs)))), (oc8, .inl (Y 0, 10, .inl (aN gc8)))]) hx hb hml hown hts hK hP hD hS hST hA hl.1 (c_X8_inR l D Y _ x1 0 3 ) [] [0, 1, 2] rfl rfl (by decide) (by decide) (by decide) rfl mw_121 mw_122 mw_5 mw_123 ⟨by decide, by decide, by decide +kernel⟩ rfl ⟨Nat.le_of_ble_eq_true rfl, Nat.le_of_ble_eq_true rfl⟩ rfl (Nat.le_of_ble_eq_true rfl) dX8_tries_3 ⟨Nat.le_of_ble_eq_true rfl, Nat.le_of_ble_eq_true rfl⟩ (fun r_2 ux H locs hr3 hP hD hS hz3 => ?_)
  have hP := hP.sub (ws' := [(o, .inr (8, [.ref ob, .ref on, .ref ow8, .ref os, .ref oe, .int (nI sc8), .ref oi, .int (nI cn8), .ref op, .int (nI bt), .int (oI gA), .int (oI gR), .int rs8, .int (nI a8), .ref oz, .ref oc8, .ref oq, .ref om, .ref oy, .ref og, .ref ok8])), (oi, .inl (Y 0, 16, .inl (aN (sgt gsi bs)))), (oc8, .inl (Y 0, 10, .inl (aN gc8)))]) [0, 1, 2] rfl
  have hD := hD.sub (ws' := [(o, .inr (8, [.ref ob, .ref on, .ref ow8, .ref os, .ref oe, .int (nI sc8), .ref oi, .int (nI cn8), .ref op, .int (nI bt), .int (oI gA), .int (oI gR), .int rs8, .int (nI a8), .ref oz, .ref oc8, .ref oq, .ref om, .ref oy, .ref og, .ref ok8])), (oi, .inl (Y 0, 16, .inl (aN (sgt gsi bs)))), (oc8, .inl (Y 0, 10, .inl (aN gc8)))]) [0, 1, 2] (by decide) rfl
  have hr3 : r_2 = nI (bN (inQ x1 0 3)) := hr3
  subst hr3
  refine mv_if_eq (tgt := 18) hx hb (by first | omega | exact Nat.lt_trans (bN_lt _) (by decide)) dX8_tries_6 (by decide) (fun c6 => ?_) (fun c6 => ?_)
  · skip
    have hn_x1_c6 : inQ x1 0 3 = false := bN_0.mp c6
    refine lv_bipush (v := -2) hx hb dX8_tries_18 (by decide) ?_
    exact mv_iret hx hb hr hlocks (gc8) (by simp only [sp_tries, hn_x1_c6, Bool.not_true, Bool.not_false, if_true, if_false, Bool.false_eq_true, reduceIte, Bool.true_and, Bool.and_true, Bool.false_and, Bool.and_false, Bool.or_false, Bool.or_true, ite_self]) hP hK hD hS dX8_tries_20
  · skip
    obtain ⟨kx1, hka_x1, hkb_x1, rfl⟩ := inQ_ex (by decide) (bN_1.mp c6)
    have hq_x1 : inQ (nI kx1) 0 3 = true := bN_1.mp c6
    have hcl_x1 : (nI kx1).toNatClampNeg = kx1 := nI_clamp (by omega)
    refine lv_iload_n hx hb dX8_tries_9 rfl (lv_at hl 2 rfl) ?_
    refine lv_iconst (v := nI 0) hx hb dX8_tries_10 (by decide) ?_
    refine lv_iconst (v := nI 1) hx hb dX8_tries_11 (by decide) ?_
    refine mv_callSi (nA := 3) (As := [.int x2, .int (nI 0), .int (nI 1)]) (rest := []) (Wc := []) (wr := [(o, .inr (8, [.ref ob, .ref on, .ref ow8, .ref os, .ref oe, .int (nI sc8), .ref oi, .int (nI cn8), .ref op, .int (nI bt), .int (oI gA), .int (oI gR), .int rs8, .int (nI a8), .ref oz, .ref oc8, .ref oq, .ref om, .ref oy, .ref og, .ref ok8])), (oi, .inl (Y 0, 16, .inl (aN (sgt gsi bs)))), (oc8, .inl (Y 0, 10, .inl (aN gc8)))]) hx hb hml hown hts hK hP hD hS hST hA hl.1 (c_X8_inR l D Y _ x2 0 1 ) [] [0, 1, 2] rfl rfl (by decide) (by decide) (by decide) rfl mw_121 mw_122 mw_5 mw_123 ⟨by decide, by decide, by decide +kernel⟩ rfl ⟨Nat.le_of_ble_eq_true rfl, Nat.le_of_ble_eq_true rfl⟩ rfl (Nat.le_of_ble_eq_true rfl) dX8_tries_12 ⟨Nat.le_of_ble_eq_true rfl, Nat.le_of_ble_eq_true rfl⟩ (fun r_3 ux H locs hr12 hP hD hS hz12 => ?_)
    have hP := hP.sub (ws' := [(o, .inr (8, [.ref ob, .ref on, .ref ow8, .ref os, .ref oe, .int (nI sc8), .ref oi, .int (nI cn8), .ref op, .int (nI bt), .int (oI gA), .int (oI gR), .int rs8, .int (nI a8), .ref oz, .ref oc8, .ref oq, .ref om, .ref oy, .ref og, .ref ok8])), (oi, .inl (Y 0, 16, .inl (aN (sgt gsi bs)))), (oc8, .inl (Y 0, 10, .inl (aN gc8)))]) [0, 1, 2] rfl
    have hD := hD.sub (ws' := [(o, .inr (8, [.ref ob, .ref on, .ref ow8, .ref os, .ref oe, .int (nI sc8), .ref oi, .int (nI cn8), .ref op, .int (nI bt), .int (oI gA), .int (oI gR), .int rs8, .int (nI a8), .ref oz, .ref oc8, .ref oq, .ref om, .ref oy, .ref og, .ref ok8])), (oi, .inl (Y 0, 16, .inl (aN (sgt gsi bs)))), (oc8, .inl (Y 0, 10, .inl (aN gc8)))]) [0, 1, 2] (by decide) rfl
    have hr12 : r_3 = nI (bN (inQ x2 0 1)) := hr12
    subst hr12
    refine mv_if_ne (tgt := 21) hx hb (by first | omega | exact Nat.lt_trans (bN_lt _) (by decide)) dX8_tries_15 (by decide) (fun c15 => ?_) (fun c15 => ?_)
    · skip
      obtain ⟨kx2, hka_x2, hkb_x2, rfl⟩ := inQ_ex (by decide) (bN_1.mp c15)
      have hq_x2 : inQ (nI kx2) 0 1 = true := bN_1.mp c15
      have hcl_x2 : (nI kx2).toNatClampNeg = kx2 := nI_clamp (by omega)
      refine lv_iconst (v := nI 0) hx hb dX8_tries_21 (by decide) ?_
      refine lv_istore_n (lv' := [(3, .int (nI 0)), (0, .ref o), (1, .int (nI kx1)), (2, .int (nI kx2))]) hx hb dX8_tries_22 rfl hl (by decide) rfl (fun ls hl => ?_)
      refine lv_iconst (v := nI 0) hx hb dX8_tries_23 (by decide) ?_
      refine lv_istore (lv' := [(4, .int (nI 0)), (3, .int (nI 0)), (0, .ref o), (1, .int (nI kx1)), (2, .int (nI kx2))]) hx hb dX8_tries_24 hl (by decide) rfl (fun ls hl => ?_)
      exact L26 (10 - 0 + 1) kx1 kx2 0 gc8 (by first | assumption | omega | rfl) (by first | assumption | omega | rfl) (by first | assumption | omega | rfl) (by first | assumption | omega | rfl) (by first | assumption | omega | rfl) (fun j hj => absurd hj (Nat.not_lt_zero _)) (Nat.lt_succ_self _) _ _ _ hP hD hS (lv_sub hl [1, 0, 2, 3, 4] rfl)
    · skip
      have hn_x2_c15 : inQ x2 0 1 = false := bN_0.mp c15
      refine lv_bipush (v := -2) hx hb dX8_tries_18 (by decide) ?_
      exact mv_iret hx hb hr hlocks (gc8) (by simp only [sp_tries, hq_x1, hcl_x1, hn_x2_c15, Bool.not_true, Bool.not_false, if_true, if_false, Bool.false_eq_true, reduceIte, Bool.true_and, Bool.and_true, Bool.false_and, Bool.and_false, Bool.or_false, Bool.or_true, ite_self]) hP hK hD hS dX8_tries_20
abbrev q_X8_toldFalse (D : va_G) (Y : Nat → ClassId) (o : Nat) (ob : Nat) (on : Nat) (ow8 : Nat) (os : Nat) (oe : Nat) (oi : Nat) (op : Nat) (oz : Nat) (oc8 : Nat) (oq : Nat) (om : Nat) (oy : Nat) (og : Nat) (ok8 : Nat) (sc8 : Nat) (cn8 : Nat) (bt : Nat) (a8 : Nat) (rs8 : Int32) (gA : Option Nat) (gR : Option Nat) (gh : Nat → Nat) (gca : Nat → Nat) (gun : Nat → Nat) (prs : Nat) (yrs : Nat) : (Nat → Prop) → Array Value → State → Outcome → State → Prop := mv_Qi D Y (fun (r : Int32) (_ : Unit) => r = nI (flsS gun 10)) (fun _ : Unit => ([(o, .inr (8, [.ref ob, .ref on, .ref ow8, .ref os, .ref oe, .int (nI sc8), .ref oi, .int (nI cn8), .ref op, .int (nI bt), .int (oI gA), .int (oI gR), .int rs8, .int (nI a8), .ref oz, .ref oc8, .ref oq, .ref om, .ref oy, .ref og, .ref ok8])), (ob, .inl (Y 0, 24, .inl (aN (bk gh gca gun prs yrs))))] : va_W))
set_option maxHeartbeats 4000000 in
set_option maxRecDepth 100000 in
theorem c_X8_toldFalse (l : Launch) (D : va_G) (Y : Nat → ClassId) (sz : Nat) (o : Nat) (ob : Nat) (on : Nat) (ow8 : Nat) (os : Nat) (oe : Nat) (oi : Nat) (op : Nat) (oz : Nat) (oc8 : Nat) (oq : Nat) (om : Nat) (oy : Nat) (og : Nat) (ok8 : Nat) (sc8 : Nat) (cn8 : Nat) (bt : Nat) (a8 : Nat) (rs8 : Int32) (gA : Option Nat) (gR : Option Nat) (gh : Nat → Nat) (gca : Nat → Nat) (gun : Nat → Nat) (prs : Nat) (yrs : Nat) (hu : ∀ k, k < 10 → gun k ≤ 9) : mv_C l D Y yX8_toldFalse cX8_toldFalse 3 (some .int) 0 0 0 [.ref o] sz [(o, .inr (8, [.ref ob, .ref on, .ref ow8, .ref os, .ref oe, .int (nI sc8), .ref oi, .int (nI cn8), .ref op, .int (nI bt), .int (oI gA), .int (oI gR), .int rs8, .int (nI a8), .ref oz, .ref oc8, .ref oq, .ref om, .ref oy, .ref og, .ref ok8])), (ob, .inl (Y 0, 24, .inl (aN (bk gh gca gun prs yrs))))] (q_X8_toldFalse D Y o ob on ow8 os oe oi op oz oc8 oq om oy og ok8 sc8 cn8 bt a8 rs8 gA gR gh gca gun prs yrs) := by
  refine mv_ofW (by decide) (Nat.le_of_ble_eq_true rfl) ?_
  intro p e s m below meth c ls A hx hb hr hlocks hml hnm hown hts hsz hAe hP hK hD hS hST hA hl
  have hl : lv_has ls 3 [(0, .ref o)] := hl
  have L4 : ∀ (fu : Nat) (k : Nat) (t : Nat) (hk : k ≤ 10) (ht : t = flsS gun k) (hmeas : 10 - k < fu) (H : Heap) (locs : List Loc) (ls : Array Slot), va_P D vwCl [(o, .inr (8, [.ref ob, .ref on, .ref ow8, .ref os, .ref oe, .int (nI sc8), .ref oi, .int (nI cn8), .ref op, .int (nI bt), .int (oI gA), .int (oI gR), .int rs8, .int (nI a8), .ref oz, .ref oc8, .ref oq, .ref om, .ref oy, .ref og, .ref ok8])), (ob, .inl (Y 0, 24, .inl (aN (bk gh gca gun prs yrs))))] H → va_D A [(o, .inr (8, [.ref ob, .ref on, .ref ow8, .ref os, .ref oe, .int (nI sc8), .ref oi, .int (nI cn8), .ref op, .int (nI bt), .int (oI gA), .int (oI gR), .int rs8, .int (nI a8), .ref oz, .ref oc8, .ref oq, .ref om, .ref oy, .ref og, .ref ok8])), (ob, .inl (Y 0, 24, .inl (aN (bk gh gca gun prs yrs))))] → va_S A s.heap H locs → lv_has ls 3 [(2, .int (nI k)), (1, .int (nI t)), (0, .ref o)] → W p l e (mv_R 0 0 0) s m [.ref o].toArray below meth c H locs 0 0 (MQ below ((q_X8_toldFalse D Y o ob on ow8 os oe oi op oz oc8 oq om oy og ok8 sc8 cn8 bt a8 rs8 gA gR gh gca gun prs yrs) A) [.ref o].toArray s 0 0 A) (F0 m 4 ls []) := by
    intro fu
    induction fu with
    | zero =>
      intro k t hk ht hmeas
      exact absurd hmeas (Nat.not_lt_zero _)
    | succ fu L4ih =>
      intro k t hk ht hmeas H locs ls hP hD hS hl
      have L30 : ∀ (z9 : Nat) (hz9 : z9 = if 0 < gun k then 1 * 2 ^ k else 0) (hk2 : k < 10) (H : Heap) (locs : List Loc) (ls : Array Slot), va_P D vwCl [(o, .inr (8, [.ref ob, .ref on, .ref ow8, .ref os, .ref oe, .int (nI sc8), .ref oi, .int (nI cn8), .ref op, .int (nI bt), .int (oI gA), .int (oI gR), .int rs8, .int (nI a8), .ref oz, .ref oc8, .ref oq, .ref om, .ref oy, .ref og, .ref ok8])), (ob, .inl (Y 0, 24, .inl (aN (bk gh gca gun prs yrs))))] H → va_D A [(o, .inr (8, [.ref ob, .ref on, .ref ow8, .ref os, .ref oe, .int (nI sc8), .ref oi, .int (nI cn8), .ref op, .int (nI bt), .int (oI gA), .int (oI gR), .int rs8, .int (nI a8), .ref oz, .ref oc8, .ref oq, .ref om, .ref oy, .ref og, .ref ok8])), (ob, .inl (Y 0, 24, .inl (aN (bk gh gca gun prs yrs))))] → va_S A s.heap H locs → lv_has ls 3 [(2, .int (nI k)), (0, .ref o)] → W p l e (mv_R 0 0 0) s m [.ref o].toArray below meth c H locs 0 0 (MQ below ((q_X8_toldFalse D Y o ob on ow8 os oe oi op oz oc8 oq om oy og ok8 sc8 cn8 bt a8 rs8 gA gR gh gca gun prs yrs) A) [.ref o].toArray s 0 0 A) (F0 m 30 ls [.int (nI z9), .int (nI t)]) := by
        intro z9 hz9 hk2 H locs ls hP hD hS hl
        refine mv_ior hx hb dX8_toldFalse_30 ?_
        refine lv_istore_n (lv' := [(1, .int (nI (t ||| z9))), (2, .int (nI k)), (0, .ref o)]) hx hb dX8_toldFalse_31 rfl hl (by decide) rfl (fun ls hl => ?_)
        refine lv_iinc (v := nI (k + 1)) (lv' := [(2, .int (nI (k + 1))), (1, .int (nI (t ||| z9))), (0, .ref o)]) hx hb dX8_toldFalse_32 hl (k := 1) rfl (by exact nI_add _ 1) (by decide) rfl (fun ls hl => ?_)
        refine lv_goto (tgt := 4) hx hb dX8_toldFalse_35 (by decide) ?_
        exact L4ih  (k + 1) (t ||| z9) (by first | assumption | omega | rfl) (by rw [flsS, hz9, ht]; split; rfl; exact Nat.or_zero _) (by omega) _ _ _ hP hD hS (lv_sub hl [0, 1, 2] rfl)
      refine lv_iload_n hx hb dX8_toldFalse_4 rfl (lv_at hl 0 rfl) ?_
      refine lv_bipush (v := nI 10) hx hb dX8_toldFalse_5 (by decide) ?_
      refine mv_icmp_ge (tgt := 38) hx hb (by first | omega | (have := hu k (by omega); omega)) (by omega) dX8_toldFalse_7 (by decide) (fun c7 => ?_) (fun c7 => ?_)
      · skip
        refine lv_iload_n hx hb dX8_toldFalse_38 rfl (lv_at hl 1 rfl) ?_
        exact mv_iret hx hb hr hlocks () (by rw [ht, show k = 10 by omega]) hP hK hD hS dX8_toldFalse_39
      · skip
        refine lv_iload_n hx hb dX8_toldFalse_10 rfl (lv_at hl 1 rfl) ?_
        refine lv_aload_n hx hb dX8_toldFalse_11 rfl (lv_at hl 2 rfl) ?_
        refine va_get (D := D) (ci := 8) (v := .ref ob) (C := RX8) (T := TX8) (N := 21) hx hb hts inlX8 hown hK hP 0 rfl rfl 0 (by decide) (hts _ mw_83) (fun _ h9 => h9) rfl dX8_toldFalse_12 ?_
        refine lv_bipush (v := nI 12) hx hb dX8_toldFalse_15 (by decide) ?_
        refine lv_iload_n hx hb dX8_toldFalse_17 rfl (lv_at hl 0 rfl) ?_
        refine mv_iadd hx hb dX8_toldFalse_18 ?_
        refine mv_iald hx hb hK hP 1 rfl (i := 12 + k) (by omega) (by decide) dX8_toldFalse_19 ?_
        rw [show (bk gh gca gun prs yrs) (12 + k) = gun k from bk_u (by omega)]
        refine mv_if_le (tgt := 29) hx hb (by first | omega | (have := hu k (by omega); omega)) dX8_toldFalse_20 (by decide) (fun c20 => ?_) (fun c20 => ?_)
        · skip
          refine lv_iconst (v := nI 0) hx hb dX8_toldFalse_29 (by decide) ?_
          exact L30  0 ((if_neg (by omega)).symm) (by first | assumption | omega | rfl) _ _ _ hP hD hS (lv_sub hl [0, 2] rfl)
        · skip
          refine lv_iconst (v := nI 1) hx hb dX8_toldFalse_23 (by decide) ?_
          refine lv_iload_n hx hb dX8_toldFalse_24 rfl (lv_at hl 0 rfl) ?_
          refine mv_ishl hx hb (by omega) dX8_toldFalse_25 ?_
          refine lv_goto (tgt := 30) hx hb dX8_toldFalse_26 (by decide) ?_
          exact L30  (1 * 2 ^ k) ((if_pos (by omega)).symm) (by first | assumption | omega | rfl) _ _ _ hP hD hS (lv_sub hl [0, 2] rfl)
  refine lv_iconst (v := nI 0) hx hb dX8_toldFalse_0 (by decide) ?_
  refine lv_istore_n (lv' := [(1, .int (nI 0)), (0, .ref o)]) hx hb dX8_toldFalse_1 rfl hl (by decide) rfl (fun ls hl => ?_)
  refine lv_iconst (v := nI 0) hx hb dX8_toldFalse_2 (by decide) ?_
  refine lv_istore_n (lv' := [(2, .int (nI 0)), (1, .int (nI 0)), (0, .ref o)]) hx hb dX8_toldFalse_3 rfl hl (by decide) rfl (fun ls hl => ?_)
  exact L4 (10 - 0 + 1) 0 0 (by first | assumption | omega | rfl) (rfl) (Nat.lt_succ_self _) _ _ _ hP hD hS (lv_sub hl [0, 1, 2] rfl)
abbrev q_X8_told (D : va_G) (Y : Nat → ClassId) (o : Nat) (ob : Nat) (on : Nat) (ow8 : Nat) (os : Nat) (oe : Nat) (oi : Nat) (op : Nat) (oz : Nat) (oc8 : Nat) (oq : Nat) (om : Nat) (oy : Nat) (og : Nat) (ok8 : Nat) (sc8 : Nat) (cn8 : Nat) (bt : Nat) (a8 : Nat) (rs8 : Int32) (gA : Option Nat) (gR : Option Nat) (gh : Nat → Nat) (gca : Nat → Nat) (gun : Nat → Nat) (prs : Nat) (yrs : Nat) (gro : Nat → Nat) (gsh : Nat → Nat) (gso : Nat → Nat) (x1 : Int32) : (Nat → Prop) → Array Value → State → Outcome → State → Prop := mv_Qi D Y (fun (r : Int32) (_ : Unit) => r = sp_told cn8 yrs prs sc8 gh gca gro gsh gun gso x1) (fun _ : Unit => ([(o, .inr (8, [.ref ob, .ref on, .ref ow8, .ref os, .ref oe, .int (nI sc8), .ref oi, .int (nI cn8), .ref op, .int (nI bt), .int (oI gA), .int (oI gR), .int rs8, .int (nI a8), .ref oz, .ref oc8, .ref oq, .ref om, .ref oy, .ref og, .ref ok8])), (ob, .inl (Y 0, 24, .inl (aN (bk gh gca gun prs yrs)))), (ow8, .inl (Y 0, 10, .inl (aN gro))), (os, .inl (Y 0, 10, .inl (aN gsh))), (oe, .inl (Y 0, 5, .inl (aN gso)))] : va_W))
set_option maxHeartbeats 4000000 in
set_option maxRecDepth 100000 in
theorem c_X8_told (l : Launch) (D : va_G) (Y : Nat → ClassId) (sz : Nat) (o : Nat) (ob : Nat) (on : Nat) (ow8 : Nat) (os : Nat) (oe : Nat) (oi : Nat) (op : Nat) (oz : Nat) (oc8 : Nat) (oq : Nat) (om : Nat) (oy : Nat) (og : Nat) (ok8 : Nat) (sc8 : Nat) (cn8 : Nat) (bt : Nat) (a8 : Nat) (rs8 : Int32) (gA : Option Nat) (gR : Option Nat) (gh : Nat → Nat) (gca : Nat → Nat) (gun : Nat → Nat) (prs : Nat) (yrs : Nat) (gro : Nat → Nat) (gsh : Nat → Nat) (gso : Nat → Nat) (x1 : Int32) (hu : ∀ k, k < 10 → gun k ≤ 9) : mv_C l D Y yX8_told cX8_told 3 (some .int) 2 0 0 [.ref o, .int x1] sz [(o, .inr (8, [.ref ob, .ref on, .ref ow8, .ref os, .ref oe, .int (nI sc8), .ref oi, .int (nI cn8), .ref op, .int (nI bt), .int (oI gA), .int (oI gR), .int rs8, .int (nI a8), .ref oz, .ref oc8, .ref oq, .ref om, .ref oy, .ref og, .ref ok8])), (ob, .inl (Y 0, 24, .inl (aN (bk gh gca gun prs yrs)))), (ow8, .inl (Y 0, 10, .inl (aN gro))), (os, .inl (Y 0, 10, .inl (aN gsh))), (oe, .inl (Y 0, 5, .inl (aN gso)))] (q_X8_told D Y o ob on ow8 os oe oi op oz oc8 oq om oy og ok8 sc8 cn8 bt a8 rs8 gA gR gh gca gun prs yrs gro gsh gso x1) := by
  refine mv_ofW (by decide) (Nat.le_of_ble_eq_true rfl) ?_
  intro p e s m below meth c ls A hx hb hr hlocks hml hnm hown hts hsz hAe hP hK hD hS hST hA hl
  have hl : lv_has ls 3 [(0, .ref o), (1, .int x1)] := hl
  rcases x_sign x1 with hxn | ⟨kx, hkx, rfl⟩
  · skip
    skip
    refine lv_iload_n hx hb dX8_told_0 rfl (lv_at hl 1 rfl) ?_
    refine lv_sipush (v := nI 200) hx hb dX8_told_1 (by decide) ?_
    refine lv_icmp_lt (tgt := 36) hx hb dX8_told_4 (by decide) (fun c4 => ?_) (fun c4 => ?_)
    · skip
      refine lv_iload_n hx hb dX8_told_36 rfl (lv_at hl 1 rfl) ?_
      refine lv_bipush (v := nI 100) hx hb dX8_told_37 (by decide) ?_
      refine lv_icmp_lt (tgt := 117) hx hb dX8_told_39 (by decide) (fun c39 => ?_) (fun c39 => ?_)
      · skip
        refine lv_iload_n hx hb dX8_told_117 rfl (lv_at hl 1 rfl) ?_
        refine lv_bipush (v := nI 10) hx hb dX8_told_118 (by decide) ?_
        refine lv_icmp_lt (tgt := 165) hx hb dX8_told_120 (by decide) (fun c120 => ?_) (fun c120 => ?_)
        · skip
          refine lv_iload_n hx hb dX8_told_165 rfl (lv_at hl 1 rfl) ?_
          skip
          · skip
            refine lv_tableOut (tgt := 222) hx hb dX8_told_166 (Or.inl (neg_int hxn)) (by decide) ?_
            refine lv_iload_n hx hb dX8_told_222 rfl (lv_at hl 1 rfl) ?_
            refine lv_iconst (v := nI 4) hx hb dX8_told_223 (by decide) ?_
            refine lv_icmp_ne (tgt := 234) hx hb dX8_told_224 (by decide) (fun c224 => ?_) (fun c224 => ?_)
            · skip
              refine lv_bipush (v := -2) hx hb dX8_told_234 (by decide) ?_
              exact mv_iret hx hb hr hlocks () ((tol_neg hxn).symm) hP hK hD hS dX8_told_236
            · skip
              exact absurd (neg_lt hxn 4 (by decide)) (by rw [show x1 = nI 4 by first | exact c224 | exact Classical.not_not.mp c224]; exact Int32.lt_irrefl)
        · skip
          exact absurd (neg_lt hxn 10 (by decide)) c120
      · skip
        exact absurd (neg_lt hxn 100 (by decide)) c39
    · skip
      exact absurd (neg_lt hxn 200 (by decide)) c4
  · skip
    skip
    refine lv_iload_n hx hb dX8_told_0 rfl (lv_at hl 1 rfl) ?_
    refine lv_sipush (v := nI 200) hx hb dX8_told_1 (by decide) ?_
    refine mv_icmp_lt (tgt := 36) hx hb (by first | omega | exact Nat.lt_trans (bN_lt _) (by decide)) (by omega) dX8_told_4 (by decide) (fun c4 => ?_) (fun c4 => ?_)
    · skip
      refine lv_iload_n hx hb dX8_told_36 rfl (lv_at hl 1 rfl) ?_
      refine lv_bipush (v := nI 100) hx hb dX8_told_37 (by decide) ?_
      refine mv_icmp_lt (tgt := 117) hx hb (by first | omega | exact Nat.lt_trans (bN_lt _) (by decide)) (by omega) dX8_told_39 (by decide) (fun c39 => ?_) (fun c39 => ?_)
      · skip
        refine lv_iload_n hx hb dX8_told_117 rfl (lv_at hl 1 rfl) ?_
        refine lv_bipush (v := nI 10) hx hb dX8_told_118 (by decide) ?_
        refine mv_icmp_lt (tgt := 165) hx hb (by first | omega | exact Nat.lt_trans (bN_lt _) (by decide)) (by omega) dX8_told_120 (by decide) (fun c120 => ?_) (fun c120 => ?_)
        · skip
          refine lv_iload_n hx hb dX8_told_165 rfl (lv_at hl 1 rfl) ?_
          rcases (show kx = 0 ∨ kx = 1 ∨ kx = 2 ∨ kx = 3 ∨ 4 ≤ kx by omega) with rfl | rfl | rfl | rfl | hk4
          · skip
            refine lv_tableIn (off := 30) (tgt := 196) hx hb dX8_told_166 (by decide) (by decide) (by decide) (by decide) ?_
            refine lv_aload_n hx hb dX8_told_196 rfl (lv_at hl 0 rfl) ?_
            refine va_get (D := D) (ci := 8) (v := .int (nI cn8)) (C := RX8) (T := TX8) (N := 21) hx hb hts inlX8 hown hK hP 0 rfl rfl 7 (by decide) (hts _ mw_167) (fun _ h9 => h9) rfl dX8_told_197 ?_
            exact mv_iret hx hb hr hlocks () (by rw [tol_nat hkx, if_pos (by omega)]; rfl) hP hK hD hS dX8_told_200
          · skip
            refine lv_tableIn (off := 35) (tgt := 201) hx hb dX8_told_166 (by decide) (by decide) (by decide) (by decide) ?_
            refine lv_aload_n hx hb dX8_told_201 rfl (lv_at hl 0 rfl) ?_
            refine va_get (D := D) (ci := 8) (v := .ref ob) (C := RX8) (T := TX8) (N := 21) hx hb hts inlX8 hown hK hP 0 rfl rfl 0 (by decide) (hts _ mw_83) (fun _ h9 => h9) rfl dX8_told_202 ?_
            refine lv_bipush (v := nI 23) hx hb dX8_told_205 (by decide) ?_
            refine mv_iald hx hb hK hP 1 rfl (i := 23) (by omega) (by decide) dX8_told_207 ?_
            rw [show (bk gh gca gun prs yrs) 23 = yrs from bk_y]
            exact mv_iret hx hb hr hlocks () (by rw [tol_nat hkx, if_pos (by omega)]; rfl) hP hK hD hS dX8_told_208
          · skip
            refine lv_tableIn (off := 43) (tgt := 209) hx hb dX8_told_166 (by decide) (by decide) (by decide) (by decide) ?_
            refine lv_aload_n hx hb dX8_told_209 rfl (lv_at hl 0 rfl) ?_
            refine va_get (D := D) (ci := 8) (v := .ref ob) (C := RX8) (T := TX8) (N := 21) hx hb hts inlX8 hown hK hP 0 rfl rfl 0 (by decide) (hts _ mw_83) (fun _ h9 => h9) rfl dX8_told_210 ?_
            refine lv_bipush (v := nI 22) hx hb dX8_told_213 (by decide) ?_
            refine mv_iald hx hb hK hP 1 rfl (i := 22) (by omega) (by decide) dX8_told_215 ?_
            rw [show (bk gh gca gun prs yrs) 22 = prs from bk_p]
            exact mv_iret hx hb hr hlocks () (by rw [tol_nat hkx, if_pos (by omega)]; rfl) hP hK hD hS dX8_told_216
          · skip
            refine lv_tableIn (off := 51) (tgt := 217) hx hb dX8_told_166 (by decide) (by decide) (by decide) (by decide) ?_
            refine lv_aload_n hx hb dX8_told_217 rfl (lv_at hl 0 rfl) ?_
            refine va_get (D := D) (ci := 8) (v := .int (nI sc8)) (C := RX8) (T := TX8) (N := 21) hx hb hts inlX8 hown hK hP 0 rfl rfl 5 (by decide) (hts _ mw_98) (fun _ h9 => h9) rfl dX8_told_218 ?_
            exact mv_iret hx hb hr hlocks () (by rw [tol_nat hkx, if_pos (by omega)]; rfl) hP hK hD hS dX8_told_221
          · skip
            refine lv_tableOut (tgt := 222) hx hb dX8_told_166 (Or.inr (by rw [nI_toInt (by omega)]; omega)) (by decide) ?_
            refine lv_iload_n hx hb dX8_told_222 rfl (lv_at hl 1 rfl) ?_
            refine lv_iconst (v := nI 4) hx hb dX8_told_223 (by decide) ?_
            refine mv_icmp_ne (tgt := 234) hx hb (by first | omega | exact Nat.lt_trans (bN_lt _) (by decide)) (by omega) dX8_told_224 (by decide) (fun c224 => ?_) (fun c224 => ?_)
            · skip
              refine lv_bipush (v := -2) hx hb dX8_told_234 (by decide) ?_
              exact mv_iret hx hb hr hlocks () (by rw [tol_nat hkx, if_neg (by omega), if_neg (by omega), if_neg (by omega), if_neg (by omega)]) hP hK hD hS dX8_told_236
            · skip
              refine lv_aload_n hx hb dX8_told_227 rfl (lv_at hl 0 rfl) ?_
              refine mv_callVi (nA := 0) (As := []) (rest := []) (Wc := [(o, .inr (8, [.ref ob, .ref on, .ref ow8, .ref os, .ref oe, .int (nI sc8), .ref oi, .int (nI cn8), .ref op, .int (nI bt), .int (oI gA), .int (oI gR), .int rs8, .int (nI a8), .ref oz, .ref oc8, .ref oq, .ref om, .ref oy, .ref og, .ref ok8])), (ob, .inl (Y 0, 24, .inl (aN (bk gh gca gun prs yrs))))]) (wr := [(ow8, .inl (Y 0, 10, .inl (aN gro))), (os, .inl (Y 0, 10, .inl (aN gsh))), (oe, .inl (Y 0, 5, .inl (aN gso)))]) hx hb hml hown hts hK hP hD hS hST hA hl.1 (c_X8_toldFalse l D Y _ o ob on ow8 os oe oi op oz oc8 oq om oy og ok8 sc8 cn8 bt a8 rs8 gA gR gh gca gun prs yrs (by first | assumption | omega | rfl)) [0, 1] [2, 3, 4] rfl rfl (by decide) (by decide) (by decide) rfl 0 rfl rfl rfl mw_664 mw_665 mw_666 mw_5 mw_667 ⟨by decide, by decide, by decide +kernel⟩ rfl ⟨Nat.le_of_ble_eq_true rfl, Nat.le_of_ble_eq_true rfl⟩ rfl (Nat.le_of_ble_eq_true rfl) dX8_told_228 ⟨Nat.le_of_ble_eq_true rfl, Nat.le_of_ble_eq_true rfl⟩ (fun r_1 ux H locs hr228 hP hD hS hz228 => ?_)
              have hP := hP.sub (ws' := [(o, .inr (8, [.ref ob, .ref on, .ref ow8, .ref os, .ref oe, .int (nI sc8), .ref oi, .int (nI cn8), .ref op, .int (nI bt), .int (oI gA), .int (oI gR), .int rs8, .int (nI a8), .ref oz, .ref oc8, .ref oq, .ref om, .ref oy, .ref og, .ref ok8])), (ob, .inl (Y 0, 24, .inl (aN (bk gh gca gun prs yrs)))), (ow8, .inl (Y 0, 10, .inl (aN gro))), (os, .inl (Y 0, 10, .inl (aN gsh))), (oe, .inl (Y 0, 5, .inl (aN gso)))]) [3, 4, 0, 1, 2] rfl
              have hD := hD.sub (ws' := [(o, .inr (8, [.ref ob, .ref on, .ref ow8, .ref os, .ref oe, .int (nI sc8), .ref oi, .int (nI cn8), .ref op, .int (nI bt), .int (oI gA), .int (oI gR), .int rs8, .int (nI a8), .ref oz, .ref oc8, .ref oq, .ref om, .ref oy, .ref og, .ref ok8])), (ob, .inl (Y 0, 24, .inl (aN (bk gh gca gun prs yrs)))), (ow8, .inl (Y 0, 10, .inl (aN gro))), (os, .inl (Y 0, 10, .inl (aN gsh))), (oe, .inl (Y 0, 5, .inl (aN gso)))]) [3, 4, 0, 1, 2] (by decide) rfl
              have hr228 : r_1 = nI (flsS gun 10) := hr228
              subst hr228
              refine lv_goto (tgt := 236) hx hb dX8_told_231 (by decide) ?_
              exact mv_iret hx hb hr hlocks () (by have h4 : kx = 4 := (by omega); subst h4; rw [tol_nat hkx, if_pos (by omega)]; rfl) hP hK hD hS dX8_told_236
        · skip
          refine lv_iload_n hx hb dX8_told_123 rfl (lv_at hl 1 rfl) ?_
          refine lv_bipush (v := nI 10) hx hb dX8_told_124 (by decide) ?_
          refine mv_idiv hx hb (by first | omega | exact Nat.lt_trans (bN_lt _) (by decide)) (by omega) (by omega) dX8_told_126 ?_
          refine lv_iconst (v := nI 1) hx hb dX8_told_127 (by decide) ?_
          refine mv_isub hx hb (by omega) dX8_told_128 ?_
          refine lv_istore_n (lv' := [(2, .int (nI ((kx / 10) - 1))), (0, .ref o), (1, .int (nI kx))]) hx hb dX8_told_129 rfl hl (by decide) rfl (fun ls hl => ?_)
          refine lv_iload_n hx hb dX8_told_130 rfl (lv_at hl 0 rfl) ?_
          refine mv_callSi (nA := 1) (As := [.int (nI ((kx / 10) - 1))]) (rest := []) (Wc := []) (wr := [(o, .inr (8, [.ref ob, .ref on, .ref ow8, .ref os, .ref oe, .int (nI sc8), .ref oi, .int (nI cn8), .ref op, .int (nI bt), .int (oI gA), .int (oI gR), .int rs8, .int (nI a8), .ref oz, .ref oc8, .ref oq, .ref om, .ref oy, .ref og, .ref ok8])), (ob, .inl (Y 0, 24, .inl (aN (bk gh gca gun prs yrs)))), (ow8, .inl (Y 0, 10, .inl (aN gro))), (os, .inl (Y 0, 10, .inl (aN gsh))), (oe, .inl (Y 0, 5, .inl (aN gso)))]) hx hb hml hown hts hK hP hD hS hST hA hl.1 (c_X8_isRobe l D Y _ (nI ((kx / 10) - 1)) ) [] [0, 1, 2, 3, 4] rfl rfl (by decide) (by decide) (by decide) rfl mw_118 mw_119 mw_5 mw_120 ⟨by decide, by decide, by decide +kernel⟩ rfl ⟨Nat.le_of_ble_eq_true rfl, Nat.le_of_ble_eq_true rfl⟩ rfl (Nat.le_of_ble_eq_true rfl) dX8_told_131 ⟨Nat.le_of_ble_eq_true rfl, Nat.le_of_ble_eq_true rfl⟩ (fun r_2 ux H locs hr131 hP hD hS hz131 => ?_)
          have hP := hP.sub (ws' := [(o, .inr (8, [.ref ob, .ref on, .ref ow8, .ref os, .ref oe, .int (nI sc8), .ref oi, .int (nI cn8), .ref op, .int (nI bt), .int (oI gA), .int (oI gR), .int rs8, .int (nI a8), .ref oz, .ref oc8, .ref oq, .ref om, .ref oy, .ref og, .ref ok8])), (ob, .inl (Y 0, 24, .inl (aN (bk gh gca gun prs yrs)))), (ow8, .inl (Y 0, 10, .inl (aN gro))), (os, .inl (Y 0, 10, .inl (aN gsh))), (oe, .inl (Y 0, 5, .inl (aN gso)))]) [0, 1, 2, 3, 4] rfl
          have hD := hD.sub (ws' := [(o, .inr (8, [.ref ob, .ref on, .ref ow8, .ref os, .ref oe, .int (nI sc8), .ref oi, .int (nI cn8), .ref op, .int (nI bt), .int (oI gA), .int (oI gR), .int rs8, .int (nI a8), .ref oz, .ref oc8, .ref oq, .ref om, .ref oy, .ref og, .ref ok8])), (ob, .inl (Y 0, 24, .inl (aN (bk gh gca gun prs yrs)))), (ow8, .inl (Y 0, 10, .inl (aN gro))), (os, .inl (Y 0, 10, .inl (aN gsh))), (oe, .inl (Y 0, 5, .inl (aN gso)))]) [0, 1, 2, 3, 4] (by decide) rfl
          have hr131 : r_2 = nI (bN (inQ (nI ((kx / 10) - 1)) 0 5)) := hr131
          subst hr131
          refine mv_if_eq (tgt := 162) hx hb (by first | omega | exact Nat.lt_trans (bN_lt _) (by decide)) dX8_told_134 (by decide) (fun c134 => ?_) (fun c134 => ?_)
          · skip
            have h9 : ¬ (0 ≤ kx / 10 - 1 ∧ kx / 10 - 1 ≤ 5) := of_decide_eq_false ((inQ_nI (by omega) (by decide) (by decide)).symm.trans (bN_0.mp c134))
            refine lv_bipush (v := -2) hx hb dX8_told_162 (by decide) ?_
            exact mv_iret hx hb hr hlocks () (by rw [tol_nat hkx, if_neg (by omega), if_neg (by omega), if_neg (by omega), if_neg (by omega)]) hP hK hD hS dX8_told_164
          · skip
            have h9 : 0 ≤ kx / 10 - 1 ∧ kx / 10 - 1 ≤ 5 := of_decide_eq_true ((inQ_nI (by omega) (by decide) (by decide)).symm.trans (bN_1.mp c134))
            refine lv_iload_n hx hb dX8_told_137 rfl (lv_at hl 2 rfl) ?_
            refine lv_bipush (v := nI 10) hx hb dX8_told_138 (by decide) ?_
            refine mv_irem hx hb (by first | omega | exact Nat.lt_trans (bN_lt _) (by decide)) (by omega) (by omega) dX8_told_140 ?_
            refine lv_iconst (v := nI 2) hx hb dX8_told_141 (by decide) ?_
            refine mv_icmp_ge (tgt := 162) hx hb (by first | omega | exact Nat.lt_trans (bN_lt _) (by decide)) (by omega) dX8_told_142 (by decide) (fun c142 => ?_) (fun c142 => ?_)
            · skip
              refine lv_bipush (v := -2) hx hb dX8_told_162 (by decide) ?_
              exact mv_iret hx hb hr hlocks () (by rw [tol_nat hkx, if_neg (by omega), if_pos (by omega)]; unfold trS; rw [if_neg (by omega), if_neg (by omega)]) hP hK hD hS dX8_told_164
            · skip
              refine lv_aload_n hx hb dX8_told_145 rfl (lv_at hl 1 rfl) ?_
              refine va_get (D := D) (ci := 8) (v := .ref ob) (C := RX8) (T := TX8) (N := 21) hx hb hts inlX8 hown hK hP 0 rfl rfl 0 (by decide) (hts _ mw_83) (fun _ h9 => h9) rfl dX8_told_146 ?_
              refine lv_bipush (v := nI 6) hx hb dX8_told_149 (by decide) ?_
              refine lv_iload_n hx hb dX8_told_151 rfl (lv_at hl 2 rfl) ?_
              refine lv_bipush (v := nI 10) hx hb dX8_told_152 (by decide) ?_
              refine mv_irem hx hb (by first | omega | exact Nat.lt_trans (bN_lt _) (by decide)) (by omega) (by omega) dX8_told_154 ?_
              refine mv_imul hx hb dX8_told_155 ?_
              refine lv_iload_n hx hb dX8_told_156 rfl (lv_at hl 0 rfl) ?_
              refine mv_iadd hx hb dX8_told_157 ?_
              refine mv_iald hx hb hK hP 1 rfl (i := (6 * (kx % 10)) + ((kx / 10) - 1)) (by omega) (by decide) dX8_told_158 ?_
              refine lv_goto (tgt := 164) hx hb dX8_told_159 (by decide) ?_
              exact mv_iret hx hb hr hlocks () (by rw [tol_nat hkx, if_neg (by omega), if_pos (by omega)]; unfold trS; exact bh_lo (z := -2) (by omega) (by omega) gh gca gun prs yrs) hP hK hD hS dX8_told_164
      · skip
        refine lv_iload_n hx hb dX8_told_42 rfl (lv_at hl 1 rfl) ?_
        refine lv_bipush (v := nI 10) hx hb dX8_told_43 (by decide) ?_
        refine mv_idiv hx hb (by first | omega | exact Nat.lt_trans (bN_lt _) (by decide)) (by omega) (by omega) dX8_told_45 ?_
        refine lv_bipush (v := nI 10) hx hb dX8_told_46 (by decide) ?_
        refine mv_isub hx hb (by omega) dX8_told_48 ?_
        refine lv_istore_n (lv' := [(2, .int (nI ((kx / 10) - 10))), (0, .ref o), (1, .int (nI kx))]) hx hb dX8_told_49 rfl hl (by decide) rfl (fun ls hl => ?_)
        refine lv_iload_n hx hb dX8_told_50 rfl (lv_at hl 2 rfl) ?_
        refine lv_bipush (v := nI 10) hx hb dX8_told_51 (by decide) ?_
        refine mv_irem hx hb (by first | omega | exact Nat.lt_trans (bN_lt _) (by decide)) (by omega) (by omega) dX8_told_53 ?_
        rcases (show kx % 10 = 0 ∨ kx % 10 = 1 ∨ 2 ≤ kx % 10 by omega) with hm9 | hm9 | hm9
        · skip
          refine lv_lookup (off := 26) (tgt := 80) hx hb dX8_told_54 (by decide) (by rw [hm9]; rfl) (by decide) ?_
          refine lv_aload_n hx hb dX8_told_80 rfl (lv_at hl 1 rfl) ?_
          refine va_get (D := D) (ci := 8) (v := .ref ow8) (C := RX8) (T := TX8) (N := 21) hx hb hts inlX8 hown hK hP 0 rfl rfl 2 (by decide) (hts _ mw_85) (fun _ h9 => h9) rfl dX8_told_81 ?_
          refine lv_iload_n hx hb dX8_told_84 rfl (lv_at hl 0 rfl) ?_
          refine mv_iald hx hb hK hP 2 rfl (i := (kx / 10) - 10) (by omega) (by decide) dX8_told_85 ?_
          exact mv_iret hx hb hr hlocks () (by rw [tol_nat hkx, if_neg (by omega), if_neg (by omega), if_pos (by omega), show (kx - 100) / 10 = kx / 10 - 10 by omega]; unfold tsS; rw [if_pos hm9]) hP hK hD hS dX8_told_86
        · skip
          refine lv_lookup (off := 33) (tgt := 87) hx hb dX8_told_54 (by decide) (by rw [hm9]; rfl) (by decide) ?_
          refine lv_aload_n hx hb dX8_told_87 rfl (lv_at hl 1 rfl) ?_
          refine va_get (D := D) (ci := 8) (v := .ref os) (C := RX8) (T := TX8) (N := 21) hx hb hts inlX8 hown hK hP 0 rfl rfl 3 (by decide) (hts _ mw_86) (fun _ h9 => h9) rfl dX8_told_88 ?_
          refine lv_iload_n hx hb dX8_told_91 rfl (lv_at hl 0 rfl) ?_
          refine mv_iald hx hb hK hP 3 rfl (i := (kx / 10) - 10) (by omega) (by decide) dX8_told_92 ?_
          exact mv_iret hx hb hr hlocks () (by rw [tol_nat hkx, if_neg (by omega), if_neg (by omega), if_pos (by omega), show (kx - 100) / 10 = kx / 10 - 10 by omega]; unfold tsS; rw [if_neg (by omega), if_pos hm9]) hP hK hD hS dX8_told_93
        · skip
          refine lv_lookup (off := 40) (tgt := 94) hx hb dX8_told_54 (by decide) (by rw [nI_toInt (by omega), Op.lookupswitch.offset_cons, if_neg (by omega), Op.lookupswitch.offset_cons, if_neg (by omega)]; rfl) (by decide) ?_
          refine lv_iload_n hx hb dX8_told_94 rfl (lv_at hl 2 rfl) ?_
          refine lv_bipush (v := nI 10) hx hb dX8_told_95 (by decide) ?_
          refine mv_irem hx hb (by first | omega | exact Nat.lt_trans (bN_lt _) (by decide)) (by omega) (by omega) dX8_told_97 ?_
          refine lv_iconst (v := nI 2) hx hb dX8_told_98 (by decide) ?_
          refine mv_icmp_ne (tgt := 114) hx hb (by first | omega | exact Nat.lt_trans (bN_lt _) (by decide)) (by omega) dX8_told_99 (by decide) (fun c99 => ?_) (fun c99 => ?_)
          · skip
            refine lv_bipush (v := -2) hx hb dX8_told_114 (by decide) ?_
            exact mv_iret hx hb hr hlocks () (by rw [tol_nat hkx, if_neg (by omega), if_neg (by omega), if_pos (by omega), show (kx - 100) / 10 = kx / 10 - 10 by omega]; unfold tsS; rw [if_neg (by omega), if_neg (by omega), if_neg (by omega)]) hP hK hD hS dX8_told_116
          · skip
            refine lv_aload_n hx hb dX8_told_102 rfl (lv_at hl 1 rfl) ?_
            refine va_get (D := D) (ci := 8) (v := .ref ob) (C := RX8) (T := TX8) (N := 21) hx hb hts inlX8 hown hK hP 0 rfl rfl 0 (by decide) (hts _ mw_83) (fun _ h9 => h9) rfl dX8_told_103 ?_
            refine lv_bipush (v := nI 12) hx hb dX8_told_106 (by decide) ?_
            refine lv_iload_n hx hb dX8_told_108 rfl (lv_at hl 0 rfl) ?_
            refine mv_iadd hx hb dX8_told_109 ?_
            refine mv_iald hx hb hK hP 1 rfl (i := 12 + ((kx / 10) - 10)) (by omega) (by decide) dX8_told_110 ?_
            rw [show (bk gh gca gun prs yrs) (12 + ((kx / 10) - 10)) = gun ((kx / 10) - 10) from bk_u (by omega)]
            refine lv_goto (tgt := 116) hx hb dX8_told_111 (by decide) ?_
            exact mv_iret hx hb hr hlocks () (by rw [tol_nat hkx, if_neg (by omega), if_neg (by omega), if_pos (by omega), show (kx - 100) / 10 = kx / 10 - 10 by omega]; unfold tsS; rw [if_neg (by omega), if_neg (by omega), if_pos (by omega)]) hP hK hD hS dX8_told_116
    · skip
      refine lv_iload_n hx hb dX8_told_7 rfl (lv_at hl 1 rfl) ?_
      refine lv_sipush (v := nI 200) hx hb dX8_told_8 (by decide) ?_
      refine lv_sipush (v := nI 204) hx hb dX8_told_11 (by decide) ?_
      refine mv_callSi (nA := 3) (As := [.int (nI kx), .int (nI 200), .int (nI 204)]) (rest := []) (Wc := []) (wr := [(o, .inr (8, [.ref ob, .ref on, .ref ow8, .ref os, .ref oe, .int (nI sc8), .ref oi, .int (nI cn8), .ref op, .int (nI bt), .int (oI gA), .int (oI gR), .int rs8, .int (nI a8), .ref oz, .ref oc8, .ref oq, .ref om, .ref oy, .ref og, .ref ok8])), (ob, .inl (Y 0, 24, .inl (aN (bk gh gca gun prs yrs)))), (ow8, .inl (Y 0, 10, .inl (aN gro))), (os, .inl (Y 0, 10, .inl (aN gsh))), (oe, .inl (Y 0, 5, .inl (aN gso)))]) hx hb hml hown hts hK hP hD hS hST hA hl.1 (c_X8_in l D Y _ kx 200 204 (by first | assumption | omega | rfl) (by first | assumption | omega | rfl) (by first | assumption | omega | rfl)) [] [0, 1, 2, 3, 4] rfl rfl (by decide) (by decide) (by decide) rfl mw_121 mw_122 mw_5 mw_123 ⟨by decide, by decide, by decide +kernel⟩ rfl ⟨Nat.le_of_ble_eq_true rfl, Nat.le_of_ble_eq_true rfl⟩ rfl (Nat.le_of_ble_eq_true rfl) dX8_told_14 ⟨Nat.le_of_ble_eq_true rfl, Nat.le_of_ble_eq_true rfl⟩ (fun r_3 ux H locs hr14 hP hD hS hz14 => ?_)
      have hP := hP.sub (ws' := [(o, .inr (8, [.ref ob, .ref on, .ref ow8, .ref os, .ref oe, .int (nI sc8), .ref oi, .int (nI cn8), .ref op, .int (nI bt), .int (oI gA), .int (oI gR), .int rs8, .int (nI a8), .ref oz, .ref oc8, .ref oq, .ref om, .ref oy, .ref og, .ref ok8])), (ob, .inl (Y 0, 24, .inl (aN (bk gh gca gun prs yrs)))), (ow8, .inl (Y 0, 10, .inl (aN gro))), (os, .inl (Y 0, 10, .inl (aN gsh))), (oe, .inl (Y 0, 5, .inl (aN gso)))]) [0, 1, 2, 3, 4] rfl
      have hD := hD.sub (ws' := [(o, .inr (8, [.ref ob, .ref on, .ref ow8, .ref os, .ref oe, .int (nI sc8), .ref oi, .int (nI cn8), .ref op, .int (nI bt), .int (oI gA), .int (oI gR), .int rs8, .int (nI a8), .ref oz, .ref oc8, .ref oq, .ref om, .ref oy, .ref og, .ref ok8])), (ob, .inl (Y 0, 24, .inl (aN (bk gh gca gun prs yrs)))), (ow8, .inl (Y 0, 10, .inl (aN gro))), (os, .inl (Y 0, 10, .inl (aN gsh))), (oe, .inl (Y 0, 5, .inl (aN gso)))]) [0, 1, 2, 3, 4] (by decide) rfl
      have hr14 : r_3 = nI (bN (decide (200 ≤ kx ∧ kx ≤ 204))) := hr14
      subst hr14
      refine mv_if_eq (tgt := 33) hx hb (by first | omega | exact Nat.lt_trans (bN_lt _) (by decide)) dX8_told_17 (by decide) (fun c17 => ?_) (fun c17 => ?_)
      · skip
        refine lv_bipush (v := -2) hx hb dX8_told_33 (by decide) ?_
        exact mv_iret hx hb hr hlocks () (by have h9 := of_decide_eq_false (bN_0.mp c17); rw [tol_nat hkx, if_neg (by omega), if_neg (by omega), if_neg (by omega), if_neg h9]) hP hK hD hS dX8_told_35
      · skip
        have h9 := of_decide_eq_true (bN_1.mp c17)
        refine lv_aload_n hx hb dX8_told_20 rfl (lv_at hl 0 rfl) ?_
        refine va_get (D := D) (ci := 8) (v := .ref oe) (C := RX8) (T := TX8) (N := 21) hx hb hts inlX8 hown hK hP 0 rfl rfl 4 (by decide) (hts _ mw_87) (fun _ h9 => h9) rfl dX8_told_21 ?_
        refine lv_iload_n hx hb dX8_told_24 rfl (lv_at hl 1 rfl) ?_
        refine lv_sipush (v := nI 200) hx hb dX8_told_25 (by decide) ?_
        refine mv_isub hx hb (by omega) dX8_told_28 ?_
        refine mv_iald hx hb hK hP 4 rfl (i := kx - 200) (by omega) (by decide) dX8_told_29 ?_
        refine lv_goto (tgt := 35) hx hb dX8_told_30 (by decide) ?_
        exact mv_iret hx hb hr hlocks () (by rw [tol_nat hkx, if_neg (by have := of_decide_eq_true (bN_1.mp c17); omega), if_neg (by have := of_decide_eq_true (bN_1.mp c17); omega), if_neg (by have := of_decide_eq_true (bN_1.mp c17); omega), if_pos (of_decide_eq_true (bN_1.mp c17))]) hP hK hD hS dX8_told_35
abbrev q_X8_imageX (D : va_G) (Y : Nat → ClassId) (o : Nat) (ob : Nat) (on : Nat) (ow8 : Nat) (os : Nat) (oe : Nat) (oi : Nat) (op : Nat) (oz : Nat) (oc8 : Nat) (oq : Nat) (om : Nat) (oy : Nat) (og : Nat) (ok8 : Nat) (sc8 : Nat) (cn8 : Nat) (bt : Nat) (a8 : Nat) (rs8 : Int32) (gA : Option Nat) (gR : Option Nat) (gh : Nat → Nat) (gca : Nat → Nat) (gun : Nat → Nat) (prs : Nat) (yrs : Nat) (gro : Nat → Nat) (gsh : Nat → Nat) (gso : Nat → Nat) (gsi : Nat → Nat) (bs : Nat) (gi : Nat → Nat) (gk : Nat → Nat) (x1 : Int32) : (Nat → Prop) → Array Value → State → Outcome → State → Prop := mv_Qi D Y (fun (r : Int32) (_ : Unit) => r = -2) (fun _ : Unit => ([(o, .inr (8, [.ref ob, .ref on, .ref ow8, .ref os, .ref oe, .int (nI sc8), .ref oi, .int (nI cn8), .ref op, .int (nI bt), .int (oI gA), .int (oI gR), .int rs8, .int (nI a8), .ref oz, .ref oc8, .ref oq, .ref om, .ref oy, .ref og, .ref ok8])), (ob, .inl (Y 0, 24, .inl (aN (bk gh gca gun prs yrs)))), (ow8, .inl (Y 0, 10, .inl (aN gro))), (os, .inl (Y 0, 10, .inl (aN gsh))), (oi, .inl (Y 0, 16, .inl (aN (sgt gsi bs)))), (oe, .inl (Y 0, 5, .inl (aN gso))), (og, .inl (Y 0, 160, .inl (aN gi))), (ok8, .inl (Y 2, 2, .inl (aN gk)))] : va_W))
set_option maxHeartbeats 4000000 in
set_option maxRecDepth 100000 in
theorem c_X8_imageX (l : Launch) (D : va_G) (Y : Nat → ClassId) (sz : Nat) (o : Nat) (ob : Nat) (on : Nat) (ow8 : Nat) (os : Nat) (oe : Nat) (oi : Nat) (op : Nat) (oz : Nat) (oc8 : Nat) (oq : Nat) (om : Nat) (oy : Nat) (og : Nat) (ok8 : Nat) (sc8 : Nat) (cn8 : Nat) (bt : Nat) (a8 : Nat) (rs8 : Int32) (gA : Option Nat) (gR : Option Nat) (gh : Nat → Nat) (gca : Nat → Nat) (gun : Nat → Nat) (prs : Nat) (yrs : Nat) (gro : Nat → Nat) (gsh : Nat → Nat) (gso : Nat → Nat) (gsi : Nat → Nat) (bs : Nat) (gi : Nat → Nat) (gk : Nat → Nat) (x1 : Int32) (hbad : inQ x1 0 1 = false) : mv_C l D Y yX8_image cX8_image 4 (some .int) 1 0 0 [.ref o, .int x1] sz [(o, .inr (8, [.ref ob, .ref on, .ref ow8, .ref os, .ref oe, .int (nI sc8), .ref oi, .int (nI cn8), .ref op, .int (nI bt), .int (oI gA), .int (oI gR), .int rs8, .int (nI a8), .ref oz, .ref oc8, .ref oq, .ref om, .ref oy, .ref og, .ref ok8])), (ob, .inl (Y 0, 24, .inl (aN (bk gh gca gun prs yrs)))), (ow8, .inl (Y 0, 10, .inl (aN gro))), (os, .inl (Y 0, 10, .inl (aN gsh))), (oi, .inl (Y 0, 16, .inl (aN (sgt gsi bs)))), (oe, .inl (Y 0, 5, .inl (aN gso))), (og, .inl (Y 0, 160, .inl (aN gi))), (ok8, .inl (Y 2, 2, .inl (aN gk)))] (q_X8_imageX D Y o ob on ow8 os oe oi op oz oc8 oq om oy og ok8 sc8 cn8 bt a8 rs8 gA gR gh gca gun prs yrs gro gsh gso gsi bs gi gk x1) := by
  refine mv_ofW (by decide) (Nat.le_of_ble_eq_true rfl) ?_
  intro p e s m below meth c ls A hx hb hr hlocks hml hnm hown hts hsz hAe hP hK hD hS hST hA hl
  have hl : lv_has ls 4 [(0, .ref o), (1, .int x1)] := hl
  refine lv_iload_n hx hb dX8_image_0 rfl (lv_at hl 1 rfl) ?_
  refine lv_iconst (v := nI 0) hx hb dX8_image_1 (by decide) ?_
  refine lv_iconst (v := nI 1) hx hb dX8_image_2 (by decide) ?_
  refine mv_callSi (nA := 3) (As := [.int x1, .int (nI 0), .int (nI 1)]) (rest := []) (Wc := []) (wr := [(o, .inr (8, [.ref ob, .ref on, .ref ow8, .ref os, .ref oe, .int (nI sc8), .ref oi, .int (nI cn8), .ref op, .int (nI bt), .int (oI gA), .int (oI gR), .int rs8, .int (nI a8), .ref oz, .ref oc8, .ref oq, .ref om, .ref oy, .ref og, .ref ok8])), (ob, .inl (Y 0, 24, .inl (aN (bk gh gca gun prs yrs)))), (ow8, .inl (Y 0, 10, .inl (aN gro))), (os, .inl (Y 0, 10, .inl (aN gsh))), (oi, .inl (Y 0, 16, .inl (aN (sgt gsi bs)))), (oe, .inl (Y 0, 5, .inl (aN gso))), (og, .inl (Y 0, 160, .inl (aN gi))), (ok8, .inl (Y 2, 2, .inl (aN gk)))]) hx hb hml hown hts hK hP hD hS hST hA hl.1 (c_X8_inR l D Y _ x1 0 1 ) [] [0, 1, 2, 3, 4, 5, 6, 7] rfl rfl (by decide) (by decide) (by decide) rfl mw_121 mw_122 mw_5 mw_123 ⟨by decide, by decide, by decide +kernel⟩ rfl ⟨Nat.le_of_ble_eq_true rfl, Nat.le_of_ble_eq_true rfl⟩ rfl (Nat.le_of_ble_eq_true rfl) dX8_image_3 ⟨Nat.le_of_ble_eq_true rfl, Nat.le_of_ble_eq_true rfl⟩ (fun r_1 ux H locs hr3 hP hD hS hz3 => ?_)
  have hP := hP.sub (ws' := [(o, .inr (8, [.ref ob, .ref on, .ref ow8, .ref os, .ref oe, .int (nI sc8), .ref oi, .int (nI cn8), .ref op, .int (nI bt), .int (oI gA), .int (oI gR), .int rs8, .int (nI a8), .ref oz, .ref oc8, .ref oq, .ref om, .ref oy, .ref og, .ref ok8])), (ob, .inl (Y 0, 24, .inl (aN (bk gh gca gun prs yrs)))), (ow8, .inl (Y 0, 10, .inl (aN gro))), (os, .inl (Y 0, 10, .inl (aN gsh))), (oi, .inl (Y 0, 16, .inl (aN (sgt gsi bs)))), (oe, .inl (Y 0, 5, .inl (aN gso))), (og, .inl (Y 0, 160, .inl (aN gi))), (ok8, .inl (Y 2, 2, .inl (aN gk)))]) [0, 1, 2, 3, 4, 5, 6, 7] rfl
  have hD := hD.sub (ws' := [(o, .inr (8, [.ref ob, .ref on, .ref ow8, .ref os, .ref oe, .int (nI sc8), .ref oi, .int (nI cn8), .ref op, .int (nI bt), .int (oI gA), .int (oI gR), .int rs8, .int (nI a8), .ref oz, .ref oc8, .ref oq, .ref om, .ref oy, .ref og, .ref ok8])), (ob, .inl (Y 0, 24, .inl (aN (bk gh gca gun prs yrs)))), (ow8, .inl (Y 0, 10, .inl (aN gro))), (os, .inl (Y 0, 10, .inl (aN gsh))), (oi, .inl (Y 0, 16, .inl (aN (sgt gsi bs)))), (oe, .inl (Y 0, 5, .inl (aN gso))), (og, .inl (Y 0, 160, .inl (aN gi))), (ok8, .inl (Y 2, 2, .inl (aN gk)))]) [0, 1, 2, 3, 4, 5, 6, 7] (by decide) rfl
  have hr3 : r_1 = nI (bN (inQ x1 0 1)) := hr3
  subst hr3
  refine mv_if_ne (tgt := 12) hx hb (by first | omega | exact Nat.lt_trans (bN_lt _) (by decide)) dX8_image_6 (by decide) (fun c6 => ?_) (fun c6 => ?_)
  · skip
    obtain ⟨kx1, hka_x1, hkb_x1, rfl⟩ := inQ_ex (by decide) (bN_1.mp c6)
    have hq_x1 : inQ (nI kx1) 0 1 = true := bN_1.mp c6
    have hcl_x1 : (nI kx1).toNatClampNeg = kx1 := nI_clamp (by omega)
    exact absurd (bN_1.mp c6) (by rw [hbad]; decide)
  · skip
    have hn_x1_c6 : inQ x1 0 1 = false := bN_0.mp c6
    refine lv_bipush (v := -2) hx hb dX8_image_9 (by decide) ?_
    exact mv_iret hx hb hr hlocks () (rfl) hP hK hD hS dX8_image_11
abbrev q_X8_imageK (D : va_G) (Y : Nat → ClassId) (o : Nat) (ob : Nat) (on : Nat) (ow8 : Nat) (os : Nat) (oe : Nat) (oi : Nat) (op : Nat) (oz : Nat) (oc8 : Nat) (oq : Nat) (om : Nat) (oy : Nat) (og : Nat) (ok8 : Nat) (sc8 : Nat) (cn8 : Nat) (bt : Nat) (a8 : Nat) (rs8 : Int32) (gA : Option Nat) (gR : Option Nat) (gh : Nat → Nat) (gca : Nat → Nat) (gun : Nat → Nat) (prs : Nat) (yrs : Nat) (gro : Nat → Nat) (gsh : Nat → Nat) (gso : Nat → Nat) (gsi : Nat → Nat) (bs : Nat) (gi : Nat → Nat) (gk : Nat → Nat) (kk : Nat) : (Nat → Prop) → Array Value → State → Outcome → State → Prop := mv_Qi D Y (fun (r : Int32) (ux : (Nat → Nat)) => r = nI 1 ∧ imR ux kk gh gca gun prs yrs gro gsh gsi bs gso sc8 ∧ imO gi ux kk) (fun ux : (Nat → Nat) => ([(o, .inr (8, [.ref ob, .ref on, .ref ow8, .ref os, .ref oe, .int (nI sc8), .ref oi, .int (nI cn8), .ref op, .int (nI bt), .int (oI gA), .int (oI gR), .int rs8, .int (nI a8), .ref oz, .ref oc8, .ref oq, .ref om, .ref oy, .ref og, .ref ok8])), (ob, .inl (Y 0, 24, .inl (aN (bk gh gca gun prs yrs)))), (ow8, .inl (Y 0, 10, .inl (aN gro))), (os, .inl (Y 0, 10, .inl (aN gsh))), (oi, .inl (Y 0, 16, .inl (aN (sgt gsi bs)))), (oe, .inl (Y 0, 5, .inl (aN gso))), (og, .inl (Y 0, 160, .inl (aN ux))), (ok8, .inl (Y 2, 2, .inl (aN (uN gk kk 1))))] : va_W))
set_option maxHeartbeats 8000000 in
set_option maxRecDepth 100000 in
theorem c_X8_imageK (l : Launch) (D : va_G) (Y : Nat → ClassId) (sz : Nat) (o : Nat) (ob : Nat) (on : Nat) (ow8 : Nat) (os : Nat) (oe : Nat) (oi : Nat) (op : Nat) (oz : Nat) (oc8 : Nat) (oq : Nat) (om : Nat) (oy : Nat) (og : Nat) (ok8 : Nat) (sc8 : Nat) (cn8 : Nat) (bt : Nat) (a8 : Nat) (rs8 : Int32) (gA : Option Nat) (gR : Option Nat) (gh : Nat → Nat) (gca : Nat → Nat) (gun : Nat → Nat) (prs : Nat) (yrs : Nat) (gro : Nat → Nat) (gsh : Nat → Nat) (gso : Nat → Nat) (gsi : Nat → Nat) (bs : Nat) (gi : Nat → Nat) (gk : Nat → Nat) (kk : Nat) (hkk : kk ≤ 1) : mv_C l D Y yX8_image cX8_image 4 (some .int) 1 0 0 [.ref o, .int (nI kk)] sz [(o, .inr (8, [.ref ob, .ref on, .ref ow8, .ref os, .ref oe, .int (nI sc8), .ref oi, .int (nI cn8), .ref op, .int (nI bt), .int (oI gA), .int (oI gR), .int rs8, .int (nI a8), .ref oz, .ref oc8, .ref oq, .ref om, .ref oy, .ref og, .ref ok8])), (ob, .inl (Y 0, 24, .inl (aN (bk gh gca gun prs yrs)))), (ow8, .inl (Y 0, 10, .inl (aN gro))), (os, .inl (Y 0, 10, .inl (aN gsh))), (oi, .inl (Y 0, 16, .inl (aN (sgt gsi bs)))), (oe, .inl (Y 0, 5, .inl (aN gso))), (og, .inl (Y 0, 160, .inl (aN gi))), (ok8, .inl (Y 2, 2, .inl (aN gk)))] (q_X8_imageK D Y o ob on ow8 os oe oi op oz oc8 oq om oy og ok8 sc8 cn8 bt a8 rs8 gA gR gh gca gun prs yrs gro gsh gso gsi bs gi gk kk) := by
  refine mv_ofW (by decide) (Nat.le_of_ble_eq_true rfl) ?_
  intro p e s m below meth c ls A hx hb hr hlocks hml hnm hown hts hsz hAe hP hK hD hS hST hA hl
  have hl : lv_has ls 4 [(0, .ref o), (1, .int (nI kk))] := hl
  have L126 : ∀ (fu : Nat) (k : Nat) (gz : Nat → Nat) (hk : k ≤ 5) (i1 : imA gz (80 * kk) 24 (bk gh gca gun prs yrs)) (i2 : imA gz (80 * kk + 24) 10 gro) (i3 : imA gz (80 * kk + 34) 10 gsh) (i4 : imA gz (80 * kk + 44) 16 (sgt gsi bs)) (a5 : imA gz (80 * kk + 60) k gso) (io : imO gi gz kk) (hmeas : 5 - k < fu) (H : Heap) (locs : List Loc) (ls : Array Slot), va_P D vwCl [(o, .inr (8, [.ref ob, .ref on, .ref ow8, .ref os, .ref oe, .int (nI sc8), .ref oi, .int (nI cn8), .ref op, .int (nI bt), .int (oI gA), .int (oI gR), .int rs8, .int (nI a8), .ref oz, .ref oc8, .ref oq, .ref om, .ref oy, .ref og, .ref ok8])), (ob, .inl (Y 0, 24, .inl (aN (bk gh gca gun prs yrs)))), (ow8, .inl (Y 0, 10, .inl (aN gro))), (os, .inl (Y 0, 10, .inl (aN gsh))), (oi, .inl (Y 0, 16, .inl (aN (sgt gsi bs)))), (oe, .inl (Y 0, 5, .inl (aN gso))), (og, .inl (Y 0, 160, .inl (aN gz))), (ok8, .inl (Y 2, 2, .inl (aN gk)))] H → va_D A [(o, .inr (8, [.ref ob, .ref on, .ref ow8, .ref os, .ref oe, .int (nI sc8), .ref oi, .int (nI cn8), .ref op, .int (nI bt), .int (oI gA), .int (oI gR), .int rs8, .int (nI a8), .ref oz, .ref oc8, .ref oq, .ref om, .ref oy, .ref og, .ref ok8])), (ob, .inl (Y 0, 24, .inl (aN (bk gh gca gun prs yrs)))), (ow8, .inl (Y 0, 10, .inl (aN gro))), (os, .inl (Y 0, 10, .inl (aN gsh))), (oi, .inl (Y 0, 16, .inl (aN (sgt gsi bs)))), (oe, .inl (Y 0, 5, .inl (aN gso))), (og, .inl (Y 0, 160, .inl (aN gz))), (ok8, .inl (Y 2, 2, .inl (aN gk)))] → va_S A s.heap H locs → lv_has ls 4 [(3, .int (nI k)), (0, .ref o), (1, .int (nI kk)), (2, .int (nI (80 * kk)))] → W p l e (mv_R 1 0 0) s m [.ref o, .int (nI kk)].toArray below meth c H locs 0 0 (MQ below ((q_X8_imageK D Y o ob on ow8 os oe oi op oz oc8 oq om oy og ok8 sc8 cn8 bt a8 rs8 gA gR gh gca gun prs yrs gro gsh gso gsi bs gi gk kk) A) [.ref o, .int (nI kk)].toArray s 0 0 A) (F0 m 126 ls []) := by
    intro fu
    induction fu with
    | zero =>
      intro k gz hk i1 i2 i3 i4 a5 io hmeas
      exact absurd hmeas (Nat.not_lt_zero _)
    | succ fu L126ih =>
      intro k gz hk i1 i2 i3 i4 a5 io hmeas H locs ls hP hD hS hl
      refine lv_iload_n hx hb dX8_image_126 rfl (lv_at hl 0 rfl) ?_
      refine lv_iconst (v := nI 5) hx hb dX8_image_127 (by decide) ?_
      refine mv_icmp_ge (tgt := 154) hx hb (by first | omega | exact Nat.lt_trans (bN_lt _) (by decide)) (by omega) dX8_image_128 (by decide) (fun c128 => ?_) (fun c128 => ?_)
      · skip
        refine lv_aload_n hx hb dX8_image_154 rfl (lv_at hl 1 rfl) ?_
        refine va_get (D := D) (ci := 8) (v := .ref og) (C := RX8) (T := TX8) (N := 21) hx hb hts inlX8 hown hK hP 0 rfl rfl 19 (by decide) (hts _ mw_96) (fun _ h9 => h9) rfl dX8_image_155 ?_
        refine lv_iload_n hx hb dX8_image_158 rfl (lv_at hl 3 rfl) ?_
        refine lv_bipush (v := nI 70) hx hb dX8_image_159 (by decide) ?_
        refine mv_iadd hx hb dX8_image_161 ?_
        refine lv_aload_n hx hb dX8_image_162 rfl (lv_at hl 1 rfl) ?_
        refine va_get (D := D) (ci := 8) (v := .int (nI sc8)) (C := RX8) (T := TX8) (N := 21) hx hb hts inlX8 hown hK hP 0 rfl rfl 5 (by decide) (hts _ mw_98) (fun _ h9 => h9) rfl dX8_image_163 ?_
        refine mv_iast hx hb hK hP hD hS 6 rfl (i := (80 * kk) + 70) (v := sc8) (by omega) (by decide) dX8_image_166 (fun H locs hP hD hS => ?_)
        have hP : va_P D vwCl [(o, .inr (8, [.ref ob, .ref on, .ref ow8, .ref os, .ref oe, .int (nI sc8), .ref oi, .int (nI cn8), .ref op, .int (nI bt), .int (oI gA), .int (oI gR), .int rs8, .int (nI a8), .ref oz, .ref oc8, .ref oq, .ref om, .ref oy, .ref og, .ref ok8])), (ob, .inl (Y 0, 24, .inl (aN (bk gh gca gun prs yrs)))), (ow8, .inl (Y 0, 10, .inl (aN gro))), (os, .inl (Y 0, 10, .inl (aN gsh))), (oi, .inl (Y 0, 16, .inl (aN (sgt gsi bs)))), (oe, .inl (Y 0, 5, .inl (aN gso))), (og, .inl (Y 0, 160, .inl (aN (uN gz ((80 * kk) + 70) sc8)))), (ok8, .inl (Y 2, 2, .inl (aN gk)))] H := hP
        have hD : va_D A [(o, .inr (8, [.ref ob, .ref on, .ref ow8, .ref os, .ref oe, .int (nI sc8), .ref oi, .int (nI cn8), .ref op, .int (nI bt), .int (oI gA), .int (oI gR), .int rs8, .int (nI a8), .ref oz, .ref oc8, .ref oq, .ref om, .ref oy, .ref og, .ref ok8])), (ob, .inl (Y 0, 24, .inl (aN (bk gh gca gun prs yrs)))), (ow8, .inl (Y 0, 10, .inl (aN gro))), (os, .inl (Y 0, 10, .inl (aN gsh))), (oi, .inl (Y 0, 16, .inl (aN (sgt gsi bs)))), (oe, .inl (Y 0, 5, .inl (aN gso))), (og, .inl (Y 0, 160, .inl (aN (uN gz ((80 * kk) + 70) sc8)))), (ok8, .inl (Y 2, 2, .inl (aN gk)))] := hD
        refine lv_aload_n hx hb dX8_image_167 rfl (lv_at hl 1 rfl) ?_
        refine va_get (D := D) (ci := 8) (v := .ref ok8) (C := RX8) (T := TX8) (N := 21) hx hb hts inlX8 hown hK hP 0 rfl rfl 20 (by decide) (hts _ mw_97) (fun _ h9 => h9) rfl dX8_image_168 ?_
        refine lv_iload_n hx hb dX8_image_171 rfl (lv_at hl 2 rfl) ?_
        refine lv_iconst (v := nI 1) hx hb dX8_image_172 (by decide) ?_
        refine mv_zast hx hb hK hP hD hS 7 rfl (i := kk) (v := 1) (by omega) (by decide) (by omega) dX8_image_173 (fun H locs hP hD hS => ?_)
        have hP : va_P D vwCl [(o, .inr (8, [.ref ob, .ref on, .ref ow8, .ref os, .ref oe, .int (nI sc8), .ref oi, .int (nI cn8), .ref op, .int (nI bt), .int (oI gA), .int (oI gR), .int rs8, .int (nI a8), .ref oz, .ref oc8, .ref oq, .ref om, .ref oy, .ref og, .ref ok8])), (ob, .inl (Y 0, 24, .inl (aN (bk gh gca gun prs yrs)))), (ow8, .inl (Y 0, 10, .inl (aN gro))), (os, .inl (Y 0, 10, .inl (aN gsh))), (oi, .inl (Y 0, 16, .inl (aN (sgt gsi bs)))), (oe, .inl (Y 0, 5, .inl (aN gso))), (og, .inl (Y 0, 160, .inl (aN (uN gz ((80 * kk) + 70) sc8)))), (ok8, .inl (Y 2, 2, .inl (aN (uN gk kk 1))))] H := hP
        have hD : va_D A [(o, .inr (8, [.ref ob, .ref on, .ref ow8, .ref os, .ref oe, .int (nI sc8), .ref oi, .int (nI cn8), .ref op, .int (nI bt), .int (oI gA), .int (oI gR), .int rs8, .int (nI a8), .ref oz, .ref oc8, .ref oq, .ref om, .ref oy, .ref og, .ref ok8])), (ob, .inl (Y 0, 24, .inl (aN (bk gh gca gun prs yrs)))), (ow8, .inl (Y 0, 10, .inl (aN gro))), (os, .inl (Y 0, 10, .inl (aN gsh))), (oi, .inl (Y 0, 16, .inl (aN (sgt gsi bs)))), (oe, .inl (Y 0, 5, .inl (aN gso))), (og, .inl (Y 0, 160, .inl (aN (uN gz ((80 * kk) + 70) sc8)))), (ok8, .inl (Y 2, 2, .inl (aN (uN gk kk 1))))] := hD
        refine lv_iconst (v := nI 1) hx hb dX8_image_174 (by decide) ?_
        exact mv_iret hx hb hr hlocks (uN gz ((80 * kk) + 70) sc8) (⟨rfl, ⟨imA_up i1 (by omega), imA_up i2 (by omega), imA_up i3 (by omega), imA_up i4 (by omega), imA_up (by have h9 : k = 5 := (by omega); subst h9; exact a5) (by omega), uN_s _ _ _⟩, imO_up io (by omega) (by omega)⟩) hP hK hD hS dX8_image_175
      · skip
        refine lv_aload_n hx hb dX8_image_131 rfl (lv_at hl 1 rfl) ?_
        refine va_get (D := D) (ci := 8) (v := .ref og) (C := RX8) (T := TX8) (N := 21) hx hb hts inlX8 hown hK hP 0 rfl rfl 19 (by decide) (hts _ mw_96) (fun _ h9 => h9) rfl dX8_image_132 ?_
        refine lv_iload_n hx hb dX8_image_135 rfl (lv_at hl 3 rfl) ?_
        refine lv_bipush (v := nI 60) hx hb dX8_image_136 (by decide) ?_
        refine mv_iadd hx hb dX8_image_138 ?_
        refine lv_iload_n hx hb dX8_image_139 rfl (lv_at hl 0 rfl) ?_
        refine mv_iadd hx hb dX8_image_140 ?_
        refine lv_aload_n hx hb dX8_image_141 rfl (lv_at hl 1 rfl) ?_
        refine va_get (D := D) (ci := 8) (v := .ref oe) (C := RX8) (T := TX8) (N := 21) hx hb hts inlX8 hown hK hP 0 rfl rfl 4 (by decide) (hts _ mw_87) (fun _ h9 => h9) rfl dX8_image_142 ?_
        refine lv_iload_n hx hb dX8_image_145 rfl (lv_at hl 0 rfl) ?_
        refine mv_iald hx hb hK hP 5 rfl (i := k) (by omega) (by decide) dX8_image_146 ?_
        refine mv_iast hx hb hK hP hD hS 6 rfl (i := ((80 * kk) + 60) + k) (v := gso k) (by omega) (by decide) dX8_image_147 (fun H locs hP hD hS => ?_)
        have hP : va_P D vwCl [(o, .inr (8, [.ref ob, .ref on, .ref ow8, .ref os, .ref oe, .int (nI sc8), .ref oi, .int (nI cn8), .ref op, .int (nI bt), .int (oI gA), .int (oI gR), .int rs8, .int (nI a8), .ref oz, .ref oc8, .ref oq, .ref om, .ref oy, .ref og, .ref ok8])), (ob, .inl (Y 0, 24, .inl (aN (bk gh gca gun prs yrs)))), (ow8, .inl (Y 0, 10, .inl (aN gro))), (os, .inl (Y 0, 10, .inl (aN gsh))), (oi, .inl (Y 0, 16, .inl (aN (sgt gsi bs)))), (oe, .inl (Y 0, 5, .inl (aN gso))), (og, .inl (Y 0, 160, .inl (aN (uN gz (((80 * kk) + 60) + k) (gso k))))), (ok8, .inl (Y 2, 2, .inl (aN gk)))] H := hP
        have hD : va_D A [(o, .inr (8, [.ref ob, .ref on, .ref ow8, .ref os, .ref oe, .int (nI sc8), .ref oi, .int (nI cn8), .ref op, .int (nI bt), .int (oI gA), .int (oI gR), .int rs8, .int (nI a8), .ref oz, .ref oc8, .ref oq, .ref om, .ref oy, .ref og, .ref ok8])), (ob, .inl (Y 0, 24, .inl (aN (bk gh gca gun prs yrs)))), (ow8, .inl (Y 0, 10, .inl (aN gro))), (os, .inl (Y 0, 10, .inl (aN gsh))), (oi, .inl (Y 0, 16, .inl (aN (sgt gsi bs)))), (oe, .inl (Y 0, 5, .inl (aN gso))), (og, .inl (Y 0, 160, .inl (aN (uN gz (((80 * kk) + 60) + k) (gso k))))), (ok8, .inl (Y 2, 2, .inl (aN gk)))] := hD
        refine lv_iinc (v := nI (k + 1)) (lv' := [(3, .int (nI (k + 1))), (0, .ref o), (1, .int (nI kk)), (2, .int (nI (80 * kk)))]) hx hb dX8_image_148 hl (k := 0) rfl (by exact nI_add _ 1) (by decide) rfl (fun ls hl => ?_)
        refine lv_goto (tgt := 126) hx hb dX8_image_151 (by decide) ?_
        exact L126ih  (k + 1) (uN gz (((80 * kk) + 60) + k) (gso k)) (by first | assumption | omega | rfl) (imA_up i1 (by omega)) (imA_up i2 (by omega)) (imA_up i3 (by omega)) (imA_up i4 (by omega)) (imA_s a5 rfl) (imO_up io (by omega) (by omega)) (by omega) _ _ _ hP hD hS (lv_sub hl [0, 1, 2, 3] rfl)
  have L95 : ∀ (fu : Nat) (k : Nat) (gz : Nat → Nat) (hk : k ≤ 16) (i1 : imA gz (80 * kk) 24 (bk gh gca gun prs yrs)) (i2 : imA gz (80 * kk + 24) 10 gro) (i3 : imA gz (80 * kk + 34) 10 gsh) (a4 : imA gz (80 * kk + 44) k (sgt gsi bs)) (io : imO gi gz kk) (hmeas : 16 - k < fu) (H : Heap) (locs : List Loc) (ls : Array Slot), va_P D vwCl [(o, .inr (8, [.ref ob, .ref on, .ref ow8, .ref os, .ref oe, .int (nI sc8), .ref oi, .int (nI cn8), .ref op, .int (nI bt), .int (oI gA), .int (oI gR), .int rs8, .int (nI a8), .ref oz, .ref oc8, .ref oq, .ref om, .ref oy, .ref og, .ref ok8])), (ob, .inl (Y 0, 24, .inl (aN (bk gh gca gun prs yrs)))), (ow8, .inl (Y 0, 10, .inl (aN gro))), (os, .inl (Y 0, 10, .inl (aN gsh))), (oi, .inl (Y 0, 16, .inl (aN (sgt gsi bs)))), (oe, .inl (Y 0, 5, .inl (aN gso))), (og, .inl (Y 0, 160, .inl (aN gz))), (ok8, .inl (Y 2, 2, .inl (aN gk)))] H → va_D A [(o, .inr (8, [.ref ob, .ref on, .ref ow8, .ref os, .ref oe, .int (nI sc8), .ref oi, .int (nI cn8), .ref op, .int (nI bt), .int (oI gA), .int (oI gR), .int rs8, .int (nI a8), .ref oz, .ref oc8, .ref oq, .ref om, .ref oy, .ref og, .ref ok8])), (ob, .inl (Y 0, 24, .inl (aN (bk gh gca gun prs yrs)))), (ow8, .inl (Y 0, 10, .inl (aN gro))), (os, .inl (Y 0, 10, .inl (aN gsh))), (oi, .inl (Y 0, 16, .inl (aN (sgt gsi bs)))), (oe, .inl (Y 0, 5, .inl (aN gso))), (og, .inl (Y 0, 160, .inl (aN gz))), (ok8, .inl (Y 2, 2, .inl (aN gk)))] → va_S A s.heap H locs → lv_has ls 4 [(3, .int (nI k)), (0, .ref o), (1, .int (nI kk)), (2, .int (nI (80 * kk)))] → W p l e (mv_R 1 0 0) s m [.ref o, .int (nI kk)].toArray below meth c H locs 0 0 (MQ below ((q_X8_imageK D Y o ob on ow8 os oe oi op oz oc8 oq om oy og ok8 sc8 cn8 bt a8 rs8 gA gR gh gca gun prs yrs gro gsh gso gsi bs gi gk kk) A) [.ref o, .int (nI kk)].toArray s 0 0 A) (F0 m 95 ls []) := by
    intro fu
    induction fu with
    | zero =>
      intro k gz hk i1 i2 i3 a4 io hmeas
      exact absurd hmeas (Nat.not_lt_zero _)
    | succ fu L95ih =>
      intro k gz hk i1 i2 i3 a4 io hmeas H locs ls hP hD hS hl
      refine lv_iload_n hx hb dX8_image_95 rfl (lv_at hl 0 rfl) ?_
      refine lv_bipush (v := nI 16) hx hb dX8_image_96 (by decide) ?_
      refine mv_icmp_ge (tgt := 124) hx hb (by first | omega | exact Nat.lt_trans (bN_lt _) (by decide)) (by omega) dX8_image_98 (by decide) (fun c98 => ?_) (fun c98 => ?_)
      · skip
        refine lv_iconst (v := nI 0) hx hb dX8_image_124 (by decide) ?_
        refine lv_istore_n (lv' := [(3, .int (nI 0)), (0, .ref o), (1, .int (nI kk)), (2, .int (nI (80 * kk)))]) hx hb dX8_image_125 rfl hl (by decide) rfl (fun ls hl => ?_)
        exact L126 (5 - 0 + 1) 0 gz (by first | assumption | omega | rfl) (by first | assumption | omega | rfl) (by first | assumption | omega | rfl) (by first | assumption | omega | rfl) (by have h9 : k = 16 := (by omega); subst h9; exact a4) (imA_0 _ _ _) (by first | assumption | omega | rfl) (Nat.lt_succ_self _) _ _ _ hP hD hS (lv_sub hl [0, 1, 2, 3] rfl)
      · skip
        refine lv_aload_n hx hb dX8_image_101 rfl (lv_at hl 1 rfl) ?_
        refine va_get (D := D) (ci := 8) (v := .ref og) (C := RX8) (T := TX8) (N := 21) hx hb hts inlX8 hown hK hP 0 rfl rfl 19 (by decide) (hts _ mw_96) (fun _ h9 => h9) rfl dX8_image_102 ?_
        refine lv_iload_n hx hb dX8_image_105 rfl (lv_at hl 3 rfl) ?_
        refine lv_bipush (v := nI 44) hx hb dX8_image_106 (by decide) ?_
        refine mv_iadd hx hb dX8_image_108 ?_
        refine lv_iload_n hx hb dX8_image_109 rfl (lv_at hl 0 rfl) ?_
        refine mv_iadd hx hb dX8_image_110 ?_
        refine lv_aload_n hx hb dX8_image_111 rfl (lv_at hl 1 rfl) ?_
        refine va_get (D := D) (ci := 8) (v := .ref oi) (C := RX8) (T := TX8) (N := 21) hx hb hts inlX8 hown hK hP 0 rfl rfl 6 (by decide) (hts _ mw_88) (fun _ h9 => h9) rfl dX8_image_112 ?_
        refine lv_iload_n hx hb dX8_image_115 rfl (lv_at hl 0 rfl) ?_
        refine mv_iald hx hb hK hP 4 rfl (i := k) (by omega) (by decide) dX8_image_116 ?_
        refine mv_iast hx hb hK hP hD hS 6 rfl (i := ((80 * kk) + 44) + k) (v := (sgt gsi bs) k) (by omega) (by decide) dX8_image_117 (fun H locs hP hD hS => ?_)
        have hP : va_P D vwCl [(o, .inr (8, [.ref ob, .ref on, .ref ow8, .ref os, .ref oe, .int (nI sc8), .ref oi, .int (nI cn8), .ref op, .int (nI bt), .int (oI gA), .int (oI gR), .int rs8, .int (nI a8), .ref oz, .ref oc8, .ref oq, .ref om, .ref oy, .ref og, .ref ok8])), (ob, .inl (Y 0, 24, .inl (aN (bk gh gca gun prs yrs)))), (ow8, .inl (Y 0, 10, .inl (aN gro))), (os, .inl (Y 0, 10, .inl (aN gsh))), (oi, .inl (Y 0, 16, .inl (aN (sgt gsi bs)))), (oe, .inl (Y 0, 5, .inl (aN gso))), (og, .inl (Y 0, 160, .inl (aN (uN gz (((80 * kk) + 44) + k) ((sgt gsi bs) k))))), (ok8, .inl (Y 2, 2, .inl (aN gk)))] H := hP
        have hD : va_D A [(o, .inr (8, [.ref ob, .ref on, .ref ow8, .ref os, .ref oe, .int (nI sc8), .ref oi, .int (nI cn8), .ref op, .int (nI bt), .int (oI gA), .int (oI gR), .int rs8, .int (nI a8), .ref oz, .ref oc8, .ref oq, .ref om, .ref oy, .ref og, .ref ok8])), (ob, .inl (Y 0, 24, .inl (aN (bk gh gca gun prs yrs)))), (ow8, .inl (Y 0, 10, .inl (aN gro))), (os, .inl (Y 0, 10, .inl (aN gsh))), (oi, .inl (Y 0, 16, .inl (aN (sgt gsi bs)))), (oe, .inl (Y 0, 5, .inl (aN gso))), (og, .inl (Y 0, 160, .inl (aN (uN gz (((80 * kk) + 44) + k) ((sgt gsi bs) k))))), (ok8, .inl (Y 2, 2, .inl (aN gk)))] := hD
        refine lv_iinc (v := nI (k + 1)) (lv' := [(3, .int (nI (k + 1))), (0, .ref o), (1, .int (nI kk)), (2, .int (nI (80 * kk)))]) hx hb dX8_image_118 hl (k := 0) rfl (by exact nI_add _ 1) (by decide) rfl (fun ls hl => ?_)
        refine lv_goto (tgt := 95) hx hb dX8_image_121 (by decide) ?_
        exact L95ih  (k + 1) (uN gz (((80 * kk) + 44) + k) ((sgt gsi bs) k)) (by first | assumption | omega | rfl) (imA_up i1 (by omega)) (imA_up i2 (by omega)) (imA_up i3 (by omega)) (imA_s a4 rfl) (imO_up io (by omega) (by omega)) (by omega) _ _ _ hP hD hS (lv_sub hl [0, 1, 2, 3] rfl)
  have L47 : ∀ (fu : Nat) (k : Nat) (gz : Nat → Nat) (hk : k ≤ 10) (i1 : imA gz (80 * kk) 24 (bk gh gca gun prs yrs)) (a2 : imA gz (80 * kk + 24) k gro) (a3 : imA gz (80 * kk + 34) k gsh) (io : imO gi gz kk) (hmeas : 10 - k < fu) (H : Heap) (locs : List Loc) (ls : Array Slot), va_P D vwCl [(o, .inr (8, [.ref ob, .ref on, .ref ow8, .ref os, .ref oe, .int (nI sc8), .ref oi, .int (nI cn8), .ref op, .int (nI bt), .int (oI gA), .int (oI gR), .int rs8, .int (nI a8), .ref oz, .ref oc8, .ref oq, .ref om, .ref oy, .ref og, .ref ok8])), (ob, .inl (Y 0, 24, .inl (aN (bk gh gca gun prs yrs)))), (ow8, .inl (Y 0, 10, .inl (aN gro))), (os, .inl (Y 0, 10, .inl (aN gsh))), (oi, .inl (Y 0, 16, .inl (aN (sgt gsi bs)))), (oe, .inl (Y 0, 5, .inl (aN gso))), (og, .inl (Y 0, 160, .inl (aN gz))), (ok8, .inl (Y 2, 2, .inl (aN gk)))] H → va_D A [(o, .inr (8, [.ref ob, .ref on, .ref ow8, .ref os, .ref oe, .int (nI sc8), .ref oi, .int (nI cn8), .ref op, .int (nI bt), .int (oI gA), .int (oI gR), .int rs8, .int (nI a8), .ref oz, .ref oc8, .ref oq, .ref om, .ref oy, .ref og, .ref ok8])), (ob, .inl (Y 0, 24, .inl (aN (bk gh gca gun prs yrs)))), (ow8, .inl (Y 0, 10, .inl (aN gro))), (os, .inl (Y 0, 10, .inl (aN gsh))), (oi, .inl (Y 0, 16, .inl (aN (sgt gsi bs)))), (oe, .inl (Y 0, 5, .inl (aN gso))), (og, .inl (Y 0, 160, .inl (aN gz))), (ok8, .inl (Y 2, 2, .inl (aN gk)))] → va_S A s.heap H locs → lv_has ls 4 [(3, .int (nI k)), (0, .ref o), (1, .int (nI kk)), (2, .int (nI (80 * kk)))] → W p l e (mv_R 1 0 0) s m [.ref o, .int (nI kk)].toArray below meth c H locs 0 0 (MQ below ((q_X8_imageK D Y o ob on ow8 os oe oi op oz oc8 oq om oy og ok8 sc8 cn8 bt a8 rs8 gA gR gh gca gun prs yrs gro gsh gso gsi bs gi gk kk) A) [.ref o, .int (nI kk)].toArray s 0 0 A) (F0 m 47 ls []) := by
    intro fu
    induction fu with
    | zero =>
      intro k gz hk i1 a2 a3 io hmeas
      exact absurd hmeas (Nat.not_lt_zero _)
    | succ fu L47ih =>
      intro k gz hk i1 a2 a3 io hmeas H locs ls hP hD hS hl
      refine lv_iload_n hx hb dX8_image_47 rfl (lv_at hl 0 rfl) ?_
      refine lv_bipush (v := nI 10) hx hb dX8_image_48 (by decide) ?_
      refine mv_icmp_ge (tgt := 93) hx hb (by first | omega | exact Nat.lt_trans (bN_lt _) (by decide)) (by omega) dX8_image_50 (by decide) (fun c50 => ?_) (fun c50 => ?_)
      · skip
        refine lv_iconst (v := nI 0) hx hb dX8_image_93 (by decide) ?_
        refine lv_istore_n (lv' := [(3, .int (nI 0)), (0, .ref o), (1, .int (nI kk)), (2, .int (nI (80 * kk)))]) hx hb dX8_image_94 rfl hl (by decide) rfl (fun ls hl => ?_)
        exact L95 (16 - 0 + 1) 0 gz (by first | assumption | omega | rfl) (by first | assumption | omega | rfl) (by have h9 : k = 10 := (by omega); subst h9; exact a2) (by have h9 : k = 10 := (by omega); subst h9; exact a3) (imA_0 _ _ _) (by first | assumption | omega | rfl) (Nat.lt_succ_self _) _ _ _ hP hD hS (lv_sub hl [0, 1, 2, 3] rfl)
      · skip
        refine lv_aload_n hx hb dX8_image_53 rfl (lv_at hl 1 rfl) ?_
        refine va_get (D := D) (ci := 8) (v := .ref og) (C := RX8) (T := TX8) (N := 21) hx hb hts inlX8 hown hK hP 0 rfl rfl 19 (by decide) (hts _ mw_96) (fun _ h9 => h9) rfl dX8_image_54 ?_
        refine lv_iload_n hx hb dX8_image_57 rfl (lv_at hl 3 rfl) ?_
        refine lv_bipush (v := nI 24) hx hb dX8_image_58 (by decide) ?_
        refine mv_iadd hx hb dX8_image_60 ?_
        refine lv_iload_n hx hb dX8_image_61 rfl (lv_at hl 0 rfl) ?_
        refine mv_iadd hx hb dX8_image_62 ?_
        refine lv_aload_n hx hb dX8_image_63 rfl (lv_at hl 1 rfl) ?_
        refine va_get (D := D) (ci := 8) (v := .ref ow8) (C := RX8) (T := TX8) (N := 21) hx hb hts inlX8 hown hK hP 0 rfl rfl 2 (by decide) (hts _ mw_85) (fun _ h9 => h9) rfl dX8_image_64 ?_
        refine lv_iload_n hx hb dX8_image_67 rfl (lv_at hl 0 rfl) ?_
        refine mv_iald hx hb hK hP 2 rfl (i := k) (by omega) (by decide) dX8_image_68 ?_
        refine mv_iast hx hb hK hP hD hS 6 rfl (i := ((80 * kk) + 24) + k) (v := gro k) (by omega) (by decide) dX8_image_69 (fun H locs hP hD hS => ?_)
        have hP : va_P D vwCl [(o, .inr (8, [.ref ob, .ref on, .ref ow8, .ref os, .ref oe, .int (nI sc8), .ref oi, .int (nI cn8), .ref op, .int (nI bt), .int (oI gA), .int (oI gR), .int rs8, .int (nI a8), .ref oz, .ref oc8, .ref oq, .ref om, .ref oy, .ref og, .ref ok8])), (ob, .inl (Y 0, 24, .inl (aN (bk gh gca gun prs yrs)))), (ow8, .inl (Y 0, 10, .inl (aN gro))), (os, .inl (Y 0, 10, .inl (aN gsh))), (oi, .inl (Y 0, 16, .inl (aN (sgt gsi bs)))), (oe, .inl (Y 0, 5, .inl (aN gso))), (og, .inl (Y 0, 160, .inl (aN (uN gz (((80 * kk) + 24) + k) (gro k))))), (ok8, .inl (Y 2, 2, .inl (aN gk)))] H := hP
        have hD : va_D A [(o, .inr (8, [.ref ob, .ref on, .ref ow8, .ref os, .ref oe, .int (nI sc8), .ref oi, .int (nI cn8), .ref op, .int (nI bt), .int (oI gA), .int (oI gR), .int rs8, .int (nI a8), .ref oz, .ref oc8, .ref oq, .ref om, .ref oy, .ref og, .ref ok8])), (ob, .inl (Y 0, 24, .inl (aN (bk gh gca gun prs yrs)))), (ow8, .inl (Y 0, 10, .inl (aN gro))), (os, .inl (Y 0, 10, .inl (aN gsh))), (oi, .inl (Y 0, 16, .inl (aN (sgt gsi bs)))), (oe, .inl (Y 0, 5, .inl (aN gso))), (og, .inl (Y 0, 160, .inl (aN (uN gz (((80 * kk) + 24) + k) (gro k))))), (ok8, .inl (Y 2, 2, .inl (aN gk)))] := hD
        refine lv_aload_n hx hb dX8_image_70 rfl (lv_at hl 1 rfl) ?_
        refine va_get (D := D) (ci := 8) (v := .ref og) (C := RX8) (T := TX8) (N := 21) hx hb hts inlX8 hown hK hP 0 rfl rfl 19 (by decide) (hts _ mw_96) (fun _ h9 => h9) rfl dX8_image_71 ?_
        refine lv_iload_n hx hb dX8_image_74 rfl (lv_at hl 3 rfl) ?_
        refine lv_bipush (v := nI 34) hx hb dX8_image_75 (by decide) ?_
        refine mv_iadd hx hb dX8_image_77 ?_
        refine lv_iload_n hx hb dX8_image_78 rfl (lv_at hl 0 rfl) ?_
        refine mv_iadd hx hb dX8_image_79 ?_
        refine lv_aload_n hx hb dX8_image_80 rfl (lv_at hl 1 rfl) ?_
        refine va_get (D := D) (ci := 8) (v := .ref os) (C := RX8) (T := TX8) (N := 21) hx hb hts inlX8 hown hK hP 0 rfl rfl 3 (by decide) (hts _ mw_86) (fun _ h9 => h9) rfl dX8_image_81 ?_
        refine lv_iload_n hx hb dX8_image_84 rfl (lv_at hl 0 rfl) ?_
        refine mv_iald hx hb hK hP 3 rfl (i := k) (by omega) (by decide) dX8_image_85 ?_
        refine mv_iast hx hb hK hP hD hS 6 rfl (i := ((80 * kk) + 34) + k) (v := gsh k) (by omega) (by decide) dX8_image_86 (fun H locs hP hD hS => ?_)
        have hP : va_P D vwCl [(o, .inr (8, [.ref ob, .ref on, .ref ow8, .ref os, .ref oe, .int (nI sc8), .ref oi, .int (nI cn8), .ref op, .int (nI bt), .int (oI gA), .int (oI gR), .int rs8, .int (nI a8), .ref oz, .ref oc8, .ref oq, .ref om, .ref oy, .ref og, .ref ok8])), (ob, .inl (Y 0, 24, .inl (aN (bk gh gca gun prs yrs)))), (ow8, .inl (Y 0, 10, .inl (aN gro))), (os, .inl (Y 0, 10, .inl (aN gsh))), (oi, .inl (Y 0, 16, .inl (aN (sgt gsi bs)))), (oe, .inl (Y 0, 5, .inl (aN gso))), (og, .inl (Y 0, 160, .inl (aN (uN (uN gz (((80 * kk) + 24) + k) (gro k)) (((80 * kk) + 34) + k) (gsh k))))), (ok8, .inl (Y 2, 2, .inl (aN gk)))] H := hP
        have hD : va_D A [(o, .inr (8, [.ref ob, .ref on, .ref ow8, .ref os, .ref oe, .int (nI sc8), .ref oi, .int (nI cn8), .ref op, .int (nI bt), .int (oI gA), .int (oI gR), .int rs8, .int (nI a8), .ref oz, .ref oc8, .ref oq, .ref om, .ref oy, .ref og, .ref ok8])), (ob, .inl (Y 0, 24, .inl (aN (bk gh gca gun prs yrs)))), (ow8, .inl (Y 0, 10, .inl (aN gro))), (os, .inl (Y 0, 10, .inl (aN gsh))), (oi, .inl (Y 0, 16, .inl (aN (sgt gsi bs)))), (oe, .inl (Y 0, 5, .inl (aN gso))), (og, .inl (Y 0, 160, .inl (aN (uN (uN gz (((80 * kk) + 24) + k) (gro k)) (((80 * kk) + 34) + k) (gsh k))))), (ok8, .inl (Y 2, 2, .inl (aN gk)))] := hD
        refine lv_iinc (v := nI (k + 1)) (lv' := [(3, .int (nI (k + 1))), (0, .ref o), (1, .int (nI kk)), (2, .int (nI (80 * kk)))]) hx hb dX8_image_87 hl (k := 0) rfl (by exact nI_add _ 1) (by decide) rfl (fun ls hl => ?_)
        refine lv_goto (tgt := 47) hx hb dX8_image_90 (by decide) ?_
        exact L47ih  (k + 1) (uN (uN gz (((80 * kk) + 24) + k) (gro k)) (((80 * kk) + 34) + k) (gsh k)) (by first | assumption | omega | rfl) (imA_up (imA_up i1 (by omega)) (by omega)) (imA_up (imA_s a2 rfl) (by omega)) (imA_s (imA_up a3 (by omega)) rfl) (imO_up (imO_up io (by omega) (by omega)) (by omega) (by omega)) (by omega) _ _ _ hP hD hS (lv_sub hl [0, 1, 2, 3] rfl)
  have L19 : ∀ (fu : Nat) (k : Nat) (gz : Nat → Nat) (hk : k ≤ 24) (a1 : imA gz (80 * kk) k (bk gh gca gun prs yrs)) (io : imO gi gz kk) (hmeas : 24 - k < fu) (H : Heap) (locs : List Loc) (ls : Array Slot), va_P D vwCl [(o, .inr (8, [.ref ob, .ref on, .ref ow8, .ref os, .ref oe, .int (nI sc8), .ref oi, .int (nI cn8), .ref op, .int (nI bt), .int (oI gA), .int (oI gR), .int rs8, .int (nI a8), .ref oz, .ref oc8, .ref oq, .ref om, .ref oy, .ref og, .ref ok8])), (ob, .inl (Y 0, 24, .inl (aN (bk gh gca gun prs yrs)))), (ow8, .inl (Y 0, 10, .inl (aN gro))), (os, .inl (Y 0, 10, .inl (aN gsh))), (oi, .inl (Y 0, 16, .inl (aN (sgt gsi bs)))), (oe, .inl (Y 0, 5, .inl (aN gso))), (og, .inl (Y 0, 160, .inl (aN gz))), (ok8, .inl (Y 2, 2, .inl (aN gk)))] H → va_D A [(o, .inr (8, [.ref ob, .ref on, .ref ow8, .ref os, .ref oe, .int (nI sc8), .ref oi, .int (nI cn8), .ref op, .int (nI bt), .int (oI gA), .int (oI gR), .int rs8, .int (nI a8), .ref oz, .ref oc8, .ref oq, .ref om, .ref oy, .ref og, .ref ok8])), (ob, .inl (Y 0, 24, .inl (aN (bk gh gca gun prs yrs)))), (ow8, .inl (Y 0, 10, .inl (aN gro))), (os, .inl (Y 0, 10, .inl (aN gsh))), (oi, .inl (Y 0, 16, .inl (aN (sgt gsi bs)))), (oe, .inl (Y 0, 5, .inl (aN gso))), (og, .inl (Y 0, 160, .inl (aN gz))), (ok8, .inl (Y 2, 2, .inl (aN gk)))] → va_S A s.heap H locs → lv_has ls 4 [(3, .int (nI k)), (0, .ref o), (1, .int (nI kk)), (2, .int (nI (80 * kk)))] → W p l e (mv_R 1 0 0) s m [.ref o, .int (nI kk)].toArray below meth c H locs 0 0 (MQ below ((q_X8_imageK D Y o ob on ow8 os oe oi op oz oc8 oq om oy og ok8 sc8 cn8 bt a8 rs8 gA gR gh gca gun prs yrs gro gsh gso gsi bs gi gk kk) A) [.ref o, .int (nI kk)].toArray s 0 0 A) (F0 m 19 ls []) := by
    intro fu
    induction fu with
    | zero =>
      intro k gz hk a1 io hmeas
      exact absurd hmeas (Nat.not_lt_zero _)
    | succ fu L19ih =>
      intro k gz hk a1 io hmeas H locs ls hP hD hS hl
      refine lv_iload_n hx hb dX8_image_19 rfl (lv_at hl 0 rfl) ?_
      refine lv_bipush (v := nI 24) hx hb dX8_image_20 (by decide) ?_
      refine mv_icmp_ge (tgt := 45) hx hb (by first | omega | exact Nat.lt_trans (bN_lt _) (by decide)) (by omega) dX8_image_22 (by decide) (fun c22 => ?_) (fun c22 => ?_)
      · skip
        refine lv_iconst (v := nI 0) hx hb dX8_image_45 (by decide) ?_
        refine lv_istore_n (lv' := [(3, .int (nI 0)), (0, .ref o), (1, .int (nI kk)), (2, .int (nI (80 * kk)))]) hx hb dX8_image_46 rfl hl (by decide) rfl (fun ls hl => ?_)
        exact L47 (10 - 0 + 1) 0 gz (by first | assumption | omega | rfl) (by have h9 : k = 24 := (by omega); subst h9; exact a1) (imA_0 _ _ _) (imA_0 _ _ _) (by first | assumption | omega | rfl) (Nat.lt_succ_self _) _ _ _ hP hD hS (lv_sub hl [0, 1, 2, 3] rfl)
      · skip
        refine lv_aload_n hx hb dX8_image_25 rfl (lv_at hl 1 rfl) ?_
        refine va_get (D := D) (ci := 8) (v := .ref og) (C := RX8) (T := TX8) (N := 21) hx hb hts inlX8 hown hK hP 0 rfl rfl 19 (by decide) (hts _ mw_96) (fun _ h9 => h9) rfl dX8_image_26 ?_
        refine lv_iload_n hx hb dX8_image_29 rfl (lv_at hl 3 rfl) ?_
        refine lv_iload_n hx hb dX8_image_30 rfl (lv_at hl 0 rfl) ?_
        refine mv_iadd hx hb dX8_image_31 ?_
        refine lv_aload_n hx hb dX8_image_32 rfl (lv_at hl 1 rfl) ?_
        refine va_get (D := D) (ci := 8) (v := .ref ob) (C := RX8) (T := TX8) (N := 21) hx hb hts inlX8 hown hK hP 0 rfl rfl 0 (by decide) (hts _ mw_83) (fun _ h9 => h9) rfl dX8_image_33 ?_
        refine lv_iload_n hx hb dX8_image_36 rfl (lv_at hl 0 rfl) ?_
        refine mv_iald hx hb hK hP 1 rfl (i := k) (by omega) (by decide) dX8_image_37 ?_
        refine mv_iast hx hb hK hP hD hS 6 rfl (i := (80 * kk) + k) (v := (bk gh gca gun prs yrs) k) (by omega) (by decide) dX8_image_38 (fun H locs hP hD hS => ?_)
        have hP : va_P D vwCl [(o, .inr (8, [.ref ob, .ref on, .ref ow8, .ref os, .ref oe, .int (nI sc8), .ref oi, .int (nI cn8), .ref op, .int (nI bt), .int (oI gA), .int (oI gR), .int rs8, .int (nI a8), .ref oz, .ref oc8, .ref oq, .ref om, .ref oy, .ref og, .ref ok8])), (ob, .inl (Y 0, 24, .inl (aN (bk gh gca gun prs yrs)))), (ow8, .inl (Y 0, 10, .inl (aN gro))), (os, .inl (Y 0, 10, .inl (aN gsh))), (oi, .inl (Y 0, 16, .inl (aN (sgt gsi bs)))), (oe, .inl (Y 0, 5, .inl (aN gso))), (og, .inl (Y 0, 160, .inl (aN (uN gz ((80 * kk) + k) ((bk gh gca gun prs yrs) k))))), (ok8, .inl (Y 2, 2, .inl (aN gk)))] H := hP
        have hD : va_D A [(o, .inr (8, [.ref ob, .ref on, .ref ow8, .ref os, .ref oe, .int (nI sc8), .ref oi, .int (nI cn8), .ref op, .int (nI bt), .int (oI gA), .int (oI gR), .int rs8, .int (nI a8), .ref oz, .ref oc8, .ref oq, .ref om, .ref oy, .ref og, .ref ok8])), (ob, .inl (Y 0, 24, .inl (aN (bk gh gca gun prs yrs)))), (ow8, .inl (Y 0, 10, .inl (aN gro))), (os, .inl (Y 0, 10, .inl (aN gsh))), (oi, .inl (Y 0, 16, .inl (aN (sgt gsi bs)))), (oe, .inl (Y 0, 5, .inl (aN gso))), (og, .inl (Y 0, 160, .inl (aN (uN gz ((80 * kk) + k) ((bk gh gca gun prs yrs) k))))), (ok8, .inl (Y 2, 2, .inl (aN gk)))] := hD
        refine lv_iinc (v := nI (k + 1)) (lv' := [(3, .int (nI (k + 1))), (0, .ref o), (1, .int (nI kk)), (2, .int (nI (80 * kk)))]) hx hb dX8_image_39 hl (k := 0) rfl (by exact nI_add _ 1) (by decide) rfl (fun ls hl => ?_)
        refine lv_goto (tgt := 19) hx hb dX8_image_42 (by decide) ?_
        exact L19ih  (k + 1) (uN gz ((80 * kk) + k) ((bk gh gca gun prs yrs) k)) (by first | assumption | omega | rfl) (imA_s a1 rfl) (imO_up io (by omega) (by omega)) (by omega) _ _ _ hP hD hS (lv_sub hl [0, 1, 2, 3] rfl)
  refine lv_iload_n hx hb dX8_image_0 rfl (lv_at hl 1 rfl) ?_
  refine lv_iconst (v := nI 0) hx hb dX8_image_1 (by decide) ?_
  refine lv_iconst (v := nI 1) hx hb dX8_image_2 (by decide) ?_
  refine mv_callSi (nA := 3) (As := [.int (nI kk), .int (nI 0), .int (nI 1)]) (rest := []) (Wc := []) (wr := [(o, .inr (8, [.ref ob, .ref on, .ref ow8, .ref os, .ref oe, .int (nI sc8), .ref oi, .int (nI cn8), .ref op, .int (nI bt), .int (oI gA), .int (oI gR), .int rs8, .int (nI a8), .ref oz, .ref oc8, .ref oq, .ref om, .ref oy, .ref og, .ref ok8])), (ob, .inl (Y 0, 24, .inl (aN (bk gh gca gun prs yrs)))), (ow8, .inl (Y 0, 10, .inl (aN gro))), (os, .inl (Y 0, 10, .inl (aN gsh))), (oi, .inl (Y 0, 16, .inl (aN (sgt gsi bs)))), (oe, .inl (Y 0, 5, .inl (aN gso))), (og, .inl (Y 0, 160, .inl (aN gi))), (ok8, .inl (Y 2, 2, .inl (aN gk)))]) hx hb hml hown hts hK hP hD hS hST hA hl.1 (c_X8_in l D Y _ kk 0 1 (by first | assumption | omega | rfl) (by first | assumption | omega | rfl) (by first | assumption | omega | rfl)) [] [0, 1, 2, 3, 4, 5, 6, 7] rfl rfl (by decide) (by decide) (by decide) rfl mw_121 mw_122 mw_5 mw_123 ⟨by decide, by decide, by decide +kernel⟩ rfl ⟨Nat.le_of_ble_eq_true rfl, Nat.le_of_ble_eq_true rfl⟩ rfl (Nat.le_of_ble_eq_true rfl) dX8_image_3 ⟨Nat.le_of_ble_eq_true rfl, Nat.le_of_ble_eq_true rfl⟩ (fun r_1 ux H locs hr3 hP hD hS hz3 => ?_)
  have hP := hP.sub (ws' := [(o, .inr (8, [.ref ob, .ref on, .ref ow8, .ref os, .ref oe, .int (nI sc8), .ref oi, .int (nI cn8), .ref op, .int (nI bt), .int (oI gA), .int (oI gR), .int rs8, .int (nI a8), .ref oz, .ref oc8, .ref oq, .ref om, .ref oy, .ref og, .ref ok8])), (ob, .inl (Y 0, 24, .inl (aN (bk gh gca gun prs yrs)))), (ow8, .inl (Y 0, 10, .inl (aN gro))), (os, .inl (Y 0, 10, .inl (aN gsh))), (oi, .inl (Y 0, 16, .inl (aN (sgt gsi bs)))), (oe, .inl (Y 0, 5, .inl (aN gso))), (og, .inl (Y 0, 160, .inl (aN gi))), (ok8, .inl (Y 2, 2, .inl (aN gk)))]) [0, 1, 2, 3, 4, 5, 6, 7] rfl
  have hD := hD.sub (ws' := [(o, .inr (8, [.ref ob, .ref on, .ref ow8, .ref os, .ref oe, .int (nI sc8), .ref oi, .int (nI cn8), .ref op, .int (nI bt), .int (oI gA), .int (oI gR), .int rs8, .int (nI a8), .ref oz, .ref oc8, .ref oq, .ref om, .ref oy, .ref og, .ref ok8])), (ob, .inl (Y 0, 24, .inl (aN (bk gh gca gun prs yrs)))), (ow8, .inl (Y 0, 10, .inl (aN gro))), (os, .inl (Y 0, 10, .inl (aN gsh))), (oi, .inl (Y 0, 16, .inl (aN (sgt gsi bs)))), (oe, .inl (Y 0, 5, .inl (aN gso))), (og, .inl (Y 0, 160, .inl (aN gi))), (ok8, .inl (Y 2, 2, .inl (aN gk)))]) [0, 1, 2, 3, 4, 5, 6, 7] (by decide) rfl
  have hr3 : r_1 = nI (bN (decide (0 ≤ kk ∧ kk ≤ 1))) := hr3
  subst hr3
  refine mv_if_ne (tgt := 12) hx hb (by first | omega | exact Nat.lt_trans (bN_lt _) (by decide)) dX8_image_6 (by decide) (fun c6 => ?_) (fun c6 => ?_)
  · skip
    refine lv_bipush (v := nI 80) hx hb dX8_image_12 (by decide) ?_
    refine lv_iload_n hx hb dX8_image_14 rfl (lv_at hl 1 rfl) ?_
    refine mv_imul hx hb dX8_image_15 ?_
    refine lv_istore_n (lv' := [(2, .int (nI (80 * kk))), (0, .ref o), (1, .int (nI kk))]) hx hb dX8_image_16 rfl hl (by decide) rfl (fun ls hl => ?_)
    refine lv_iconst (v := nI 0) hx hb dX8_image_17 (by decide) ?_
    refine lv_istore_n (lv' := [(3, .int (nI 0)), (2, .int (nI (80 * kk))), (0, .ref o), (1, .int (nI kk))]) hx hb dX8_image_18 rfl hl (by decide) rfl (fun ls hl => ?_)
    exact L19 (24 - 0 + 1) 0 gi (by first | assumption | omega | rfl) (imA_0 _ _ _) (fun j _ => rfl) (Nat.lt_succ_self _) _ _ _ hP hD hS (lv_sub hl [0, 2, 3, 1] rfl)
  · skip
    exact absurd (bN_0.mp c6) (by rw [decide_eq_true ⟨Nat.zero_le _, hkk⟩]; decide)
abbrev q_X8_restoreX (D : va_G) (Y : Nat → ClassId) (o : Nat) (ob : Nat) (on : Nat) (ow8 : Nat) (os : Nat) (oe : Nat) (oi : Nat) (op : Nat) (oz : Nat) (oc8 : Nat) (oq : Nat) (om : Nat) (oy : Nat) (og : Nat) (ok8 : Nat) (sc8 : Nat) (cn8 : Nat) (bt : Nat) (a8 : Nat) (rs8 : Int32) (gA : Option Nat) (gR : Option Nat) (gh : Nat → Nat) (gca : Nat → Nat) (gun : Nat → Nat) (prs : Nat) (yrs : Nat) (gro : Nat → Nat) (gsh : Nat → Nat) (gso : Nat → Nat) (gsi : Nat → Nat) (bs : Nat) (gi : Nat → Nat) (gk : Nat → Nat) (x1 : Int32) : (Nat → Prop) → Array Value → State → Outcome → State → Prop := mv_Qi D Y (fun (r : Int32) (_ : Unit) => r = -2) (fun _ : Unit => ([(o, .inr (8, [.ref ob, .ref on, .ref ow8, .ref os, .ref oe, .int (nI sc8), .ref oi, .int (nI cn8), .ref op, .int (nI bt), .int (oI gA), .int (oI gR), .int rs8, .int (nI a8), .ref oz, .ref oc8, .ref oq, .ref om, .ref oy, .ref og, .ref ok8])), (ob, .inl (Y 0, 24, .inl (aN (bk gh gca gun prs yrs)))), (ow8, .inl (Y 0, 10, .inl (aN gro))), (os, .inl (Y 0, 10, .inl (aN gsh))), (oi, .inl (Y 0, 16, .inl (aN (sgt gsi bs)))), (oe, .inl (Y 0, 5, .inl (aN gso))), (og, .inl (Y 0, 160, .inl (aN gi))), (ok8, .inl (Y 2, 2, .inl (aN gk)))] : va_W))
set_option maxHeartbeats 4000000 in
set_option maxRecDepth 100000 in
theorem c_X8_restoreX (l : Launch) (D : va_G) (Y : Nat → ClassId) (sz : Nat) (o : Nat) (ob : Nat) (on : Nat) (ow8 : Nat) (os : Nat) (oe : Nat) (oi : Nat) (op : Nat) (oz : Nat) (oc8 : Nat) (oq : Nat) (om : Nat) (oy : Nat) (og : Nat) (ok8 : Nat) (sc8 : Nat) (cn8 : Nat) (bt : Nat) (a8 : Nat) (rs8 : Int32) (gA : Option Nat) (gR : Option Nat) (gh : Nat → Nat) (gca : Nat → Nat) (gun : Nat → Nat) (prs : Nat) (yrs : Nat) (gro : Nat → Nat) (gsh : Nat → Nat) (gso : Nat → Nat) (gsi : Nat → Nat) (bs : Nat) (gi : Nat → Nat) (gk : Nat → Nat) (x1 : Int32) (hbad : inQ x1 0 1 = false) : mv_C l D Y yX8_restore cX8_restore 4 (some .int) 1 0 0 [.ref o, .int x1] sz [(o, .inr (8, [.ref ob, .ref on, .ref ow8, .ref os, .ref oe, .int (nI sc8), .ref oi, .int (nI cn8), .ref op, .int (nI bt), .int (oI gA), .int (oI gR), .int rs8, .int (nI a8), .ref oz, .ref oc8, .ref oq, .ref om, .ref oy, .ref og, .ref ok8])), (ob, .inl (Y 0, 24, .inl (aN (bk gh gca gun prs yrs)))), (ow8, .inl (Y 0, 10, .inl (aN gro))), (os, .inl (Y 0, 10, .inl (aN gsh))), (oi, .inl (Y 0, 16, .inl (aN (sgt gsi bs)))), (oe, .inl (Y 0, 5, .inl (aN gso))), (og, .inl (Y 0, 160, .inl (aN gi))), (ok8, .inl (Y 2, 2, .inl (aN gk)))] (q_X8_restoreX D Y o ob on ow8 os oe oi op oz oc8 oq om oy og ok8 sc8 cn8 bt a8 rs8 gA gR gh gca gun prs yrs gro gsh gso gsi bs gi gk x1) := by
  refine mv_ofW (by decide) (Nat.le_of_ble_eq_true rfl) ?_
  intro p e s m below meth c ls A hx hb hr hlocks hml hnm hown hts hsz hAe hP hK hD hS hST hA hl
  have hl : lv_has ls 4 [(0, .ref o), (1, .int x1)] := hl
  refine lv_iload_n hx hb dX8_restore_0 rfl (lv_at hl 1 rfl) ?_
  refine lv_iconst (v := nI 0) hx hb dX8_restore_1 (by decide) ?_
  refine lv_iconst (v := nI 1) hx hb dX8_restore_2 (by decide) ?_
  refine mv_callSi (nA := 3) (As := [.int x1, .int (nI 0), .int (nI 1)]) (rest := []) (Wc := []) (wr := [(o, .inr (8, [.ref ob, .ref on, .ref ow8, .ref os, .ref oe, .int (nI sc8), .ref oi, .int (nI cn8), .ref op, .int (nI bt), .int (oI gA), .int (oI gR), .int rs8, .int (nI a8), .ref oz, .ref oc8, .ref oq, .ref om, .ref oy, .ref og, .ref ok8])), (ob, .inl (Y 0, 24, .inl (aN (bk gh gca gun prs yrs)))), (ow8, .inl (Y 0, 10, .inl (aN gro))), (os, .inl (Y 0, 10, .inl (aN gsh))), (oi, .inl (Y 0, 16, .inl (aN (sgt gsi bs)))), (oe, .inl (Y 0, 5, .inl (aN gso))), (og, .inl (Y 0, 160, .inl (aN gi))), (ok8, .inl (Y 2, 2, .inl (aN gk)))]) hx hb hml hown hts hK hP hD hS hST hA hl.1 (c_X8_inR l D Y _ x1 0 1 ) [] [0, 1, 2, 3, 4, 5, 6, 7] rfl rfl (by decide) (by decide) (by decide) rfl mw_121 mw_122 mw_5 mw_123 ⟨by decide, by decide, by decide +kernel⟩ rfl ⟨Nat.le_of_ble_eq_true rfl, Nat.le_of_ble_eq_true rfl⟩ rfl (Nat.le_of_ble_eq_true rfl) dX8_restore_3 ⟨Nat.le_of_ble_eq_true rfl, Nat.le_of_ble_eq_true rfl⟩ (fun r_1 ux H locs hr3 hP hD hS hz3 => ?_)
  have hP := hP.sub (ws' := [(o, .inr (8, [.ref ob, .ref on, .ref ow8, .ref os, .ref oe, .int (nI sc8), .ref oi, .int (nI cn8), .ref op, .int (nI bt), .int (oI gA), .int (oI gR), .int rs8, .int (nI a8), .ref oz, .ref oc8, .ref oq, .ref om, .ref oy, .ref og, .ref ok8])), (ob, .inl (Y 0, 24, .inl (aN (bk gh gca gun prs yrs)))), (ow8, .inl (Y 0, 10, .inl (aN gro))), (os, .inl (Y 0, 10, .inl (aN gsh))), (oi, .inl (Y 0, 16, .inl (aN (sgt gsi bs)))), (oe, .inl (Y 0, 5, .inl (aN gso))), (og, .inl (Y 0, 160, .inl (aN gi))), (ok8, .inl (Y 2, 2, .inl (aN gk)))]) [0, 1, 2, 3, 4, 5, 6, 7] rfl
  have hD := hD.sub (ws' := [(o, .inr (8, [.ref ob, .ref on, .ref ow8, .ref os, .ref oe, .int (nI sc8), .ref oi, .int (nI cn8), .ref op, .int (nI bt), .int (oI gA), .int (oI gR), .int rs8, .int (nI a8), .ref oz, .ref oc8, .ref oq, .ref om, .ref oy, .ref og, .ref ok8])), (ob, .inl (Y 0, 24, .inl (aN (bk gh gca gun prs yrs)))), (ow8, .inl (Y 0, 10, .inl (aN gro))), (os, .inl (Y 0, 10, .inl (aN gsh))), (oi, .inl (Y 0, 16, .inl (aN (sgt gsi bs)))), (oe, .inl (Y 0, 5, .inl (aN gso))), (og, .inl (Y 0, 160, .inl (aN gi))), (ok8, .inl (Y 2, 2, .inl (aN gk)))]) [0, 1, 2, 3, 4, 5, 6, 7] (by decide) rfl
  have hr3 : r_1 = nI (bN (inQ x1 0 1)) := hr3
  subst hr3
  refine mv_if_ne (tgt := 12) hx hb (by first | omega | exact Nat.lt_trans (bN_lt _) (by decide)) dX8_restore_6 (by decide) (fun c6 => ?_) (fun c6 => ?_)
  · skip
    obtain ⟨kx1, hka_x1, hkb_x1, rfl⟩ := inQ_ex (by decide) (bN_1.mp c6)
    have hq_x1 : inQ (nI kx1) 0 1 = true := bN_1.mp c6
    have hcl_x1 : (nI kx1).toNatClampNeg = kx1 := nI_clamp (by omega)
    exact absurd (bN_1.mp c6) (by rw [hbad]; decide)
  · skip
    have hn_x1_c6 : inQ x1 0 1 = false := bN_0.mp c6
    refine lv_bipush (v := -2) hx hb dX8_restore_9 (by decide) ?_
    exact mv_iret hx hb hr hlocks () (rfl) hP hK hD hS dX8_restore_11
abbrev q_X8_restoreN (D : va_G) (Y : Nat → ClassId) (o : Nat) (ob : Nat) (on : Nat) (ow8 : Nat) (os : Nat) (oe : Nat) (oi : Nat) (op : Nat) (oz : Nat) (oc8 : Nat) (oq : Nat) (om : Nat) (oy : Nat) (og : Nat) (ok8 : Nat) (sc8 : Nat) (cn8 : Nat) (bt : Nat) (a8 : Nat) (rs8 : Int32) (gA : Option Nat) (gR : Option Nat) (gh : Nat → Nat) (gca : Nat → Nat) (gun : Nat → Nat) (prs : Nat) (yrs : Nat) (gro : Nat → Nat) (gsh : Nat → Nat) (gso : Nat → Nat) (gsi : Nat → Nat) (bs : Nat) (gi : Nat → Nat) (gk : Nat → Nat) (kk : Nat) : (Nat → Prop) → Array Value → State → Outcome → State → Prop := mv_Qi D Y (fun (r : Int32) (_ : Unit) => r = -3) (fun _ : Unit => ([(o, .inr (8, [.ref ob, .ref on, .ref ow8, .ref os, .ref oe, .int (nI sc8), .ref oi, .int (nI cn8), .ref op, .int (nI bt), .int (oI gA), .int (oI gR), .int rs8, .int (nI a8), .ref oz, .ref oc8, .ref oq, .ref om, .ref oy, .ref og, .ref ok8])), (ob, .inl (Y 0, 24, .inl (aN (bk gh gca gun prs yrs)))), (ow8, .inl (Y 0, 10, .inl (aN gro))), (os, .inl (Y 0, 10, .inl (aN gsh))), (oi, .inl (Y 0, 16, .inl (aN (sgt gsi bs)))), (oe, .inl (Y 0, 5, .inl (aN gso))), (og, .inl (Y 0, 160, .inl (aN gi))), (ok8, .inl (Y 2, 2, .inl (aN gk)))] : va_W))
set_option maxHeartbeats 4000000 in
set_option maxRecDepth 100000 in
theorem c_X8_restoreN (l : Launch) (D : va_G) (Y : Nat → ClassId) (sz : Nat) (o : Nat) (ob : Nat) (on : Nat) (ow8 : Nat) (os : Nat) (oe : Nat) (oi : Nat) (op : Nat) (oz : Nat) (oc8 : Nat) (oq : Nat) (om : Nat) (oy : Nat) (og : Nat) (ok8 : Nat) (sc8 : Nat) (cn8 : Nat) (bt : Nat) (a8 : Nat) (rs8 : Int32) (gA : Option Nat) (gR : Option Nat) (gh : Nat → Nat) (gca : Nat → Nat) (gun : Nat → Nat) (prs : Nat) (yrs : Nat) (gro : Nat → Nat) (gsh : Nat → Nat) (gso : Nat → Nat) (gsi : Nat → Nat) (bs : Nat) (gi : Nat → Nat) (gk : Nat → Nat) (kk : Nat) (hkk : kk ≤ 1) (hgk : gk kk = 0) : mv_C l D Y yX8_restore cX8_restore 4 (some .int) 1 0 0 [.ref o, .int (nI kk)] sz [(o, .inr (8, [.ref ob, .ref on, .ref ow8, .ref os, .ref oe, .int (nI sc8), .ref oi, .int (nI cn8), .ref op, .int (nI bt), .int (oI gA), .int (oI gR), .int rs8, .int (nI a8), .ref oz, .ref oc8, .ref oq, .ref om, .ref oy, .ref og, .ref ok8])), (ob, .inl (Y 0, 24, .inl (aN (bk gh gca gun prs yrs)))), (ow8, .inl (Y 0, 10, .inl (aN gro))), (os, .inl (Y 0, 10, .inl (aN gsh))), (oi, .inl (Y 0, 16, .inl (aN (sgt gsi bs)))), (oe, .inl (Y 0, 5, .inl (aN gso))), (og, .inl (Y 0, 160, .inl (aN gi))), (ok8, .inl (Y 2, 2, .inl (aN gk)))] (q_X8_restoreN D Y o ob on ow8 os oe oi op oz oc8 oq om oy og ok8 sc8 cn8 bt a8 rs8 gA gR gh gca gun prs yrs gro gsh gso gsi bs gi gk kk) := by
  refine mv_ofW (by decide) (Nat.le_of_ble_eq_true rfl) ?_
  intro p e s m below meth c ls A hx hb hr hlocks hml hnm hown hts hsz hAe hP hK hD hS hST hA hl
  have hl : lv_has ls 4 [(0, .ref o), (1, .int (nI kk))] := hl
  refine lv_iload_n hx hb dX8_restore_0 rfl (lv_at hl 1 rfl) ?_
  refine lv_iconst (v := nI 0) hx hb dX8_restore_1 (by decide) ?_
  refine lv_iconst (v := nI 1) hx hb dX8_restore_2 (by decide) ?_
  refine mv_callSi (nA := 3) (As := [.int (nI kk), .int (nI 0), .int (nI 1)]) (rest := []) (Wc := []) (wr := [(o, .inr (8, [.ref ob, .ref on, .ref ow8, .ref os, .ref oe, .int (nI sc8), .ref oi, .int (nI cn8), .ref op, .int (nI bt), .int (oI gA), .int (oI gR), .int rs8, .int (nI a8), .ref oz, .ref oc8, .ref oq, .ref om, .ref oy, .ref og, .ref ok8])), (ob, .inl (Y 0, 24, .inl (aN (bk gh gca gun prs yrs)))), (ow8, .inl (Y 0, 10, .inl (aN gro))), (os, .inl (Y 0, 10, .inl (aN gsh))), (oi, .inl (Y 0, 16, .inl (aN (sgt gsi bs)))), (oe, .inl (Y 0, 5, .inl (aN gso))), (og, .inl (Y 0, 160, .inl (aN gi))), (ok8, .inl (Y 2, 2, .inl (aN gk)))]) hx hb hml hown hts hK hP hD hS hST hA hl.1 (c_X8_in l D Y _ kk 0 1 (by first | assumption | omega | rfl) (by first | assumption | omega | rfl) (by first | assumption | omega | rfl)) [] [0, 1, 2, 3, 4, 5, 6, 7] rfl rfl (by decide) (by decide) (by decide) rfl mw_121 mw_122 mw_5 mw_123 ⟨by decide, by decide, by decide +kernel⟩ rfl ⟨Nat.le_of_ble_eq_true rfl, Nat.le_of_ble_eq_true rfl⟩ rfl (Nat.le_of_ble_eq_true rfl) dX8_restore_3 ⟨Nat.le_of_ble_eq_true rfl, Nat.le_of_ble_eq_true rfl⟩ (fun r_1 ux H locs hr3 hP hD hS hz3 => ?_)
  have hP := hP.sub (ws' := [(o, .inr (8, [.ref ob, .ref on, .ref ow8, .ref os, .ref oe, .int (nI sc8), .ref oi, .int (nI cn8), .ref op, .int (nI bt), .int (oI gA), .int (oI gR), .int rs8, .int (nI a8), .ref oz, .ref oc8, .ref oq, .ref om, .ref oy, .ref og, .ref ok8])), (ob, .inl (Y 0, 24, .inl (aN (bk gh gca gun prs yrs)))), (ow8, .inl (Y 0, 10, .inl (aN gro))), (os, .inl (Y 0, 10, .inl (aN gsh))), (oi, .inl (Y 0, 16, .inl (aN (sgt gsi bs)))), (oe, .inl (Y 0, 5, .inl (aN gso))), (og, .inl (Y 0, 160, .inl (aN gi))), (ok8, .inl (Y 2, 2, .inl (aN gk)))]) [0, 1, 2, 3, 4, 5, 6, 7] rfl
  have hD := hD.sub (ws' := [(o, .inr (8, [.ref ob, .ref on, .ref ow8, .ref os, .ref oe, .int (nI sc8), .ref oi, .int (nI cn8), .ref op, .int (nI bt), .int (oI gA), .int (oI gR), .int rs8, .int (nI a8), .ref oz, .ref oc8, .ref oq, .ref om, .ref oy, .ref og, .ref ok8])), (ob, .inl (Y 0, 24, .inl (aN (bk gh gca gun prs yrs)))), (ow8, .inl (Y 0, 10, .inl (aN gro))), (os, .inl (Y 0, 10, .inl (aN gsh))), (oi, .inl (Y 0, 16, .inl (aN (sgt gsi bs)))), (oe, .inl (Y 0, 5, .inl (aN gso))), (og, .inl (Y 0, 160, .inl (aN gi))), (ok8, .inl (Y 2, 2, .inl (aN gk)))]) [0, 1, 2, 3, 4, 5, 6, 7] (by decide) rfl
  have hr3 : r_1 = nI (bN (decide (0 ≤ kk ∧ kk ≤ 1))) := hr3
  subst hr3
  refine mv_if_ne (tgt := 12) hx hb (by first | omega | exact Nat.lt_trans (bN_lt _) (by decide) | (rw [hgk]; decide)) dX8_restore_6 (by decide) (fun c6 => ?_) (fun c6 => ?_)
  · skip
    refine lv_aload_n hx hb dX8_restore_12 rfl (lv_at hl 0 rfl) ?_
    refine va_get (D := D) (ci := 8) (v := .ref ok8) (C := RX8) (T := TX8) (N := 21) hx hb hts inlX8 hown hK hP 0 rfl rfl 20 (by decide) (hts _ mw_97) (fun _ h9 => h9) rfl dX8_restore_13 ?_
    refine lv_iload_n hx hb dX8_restore_16 rfl (lv_at hl 1 rfl) ?_
    refine mv_zald hx hb hK hP 7 rfl (i := kk) (by omega) (by decide) dX8_restore_17 ?_
    refine mv_if_ne (tgt := 24) hx hb (by first | omega | exact Nat.lt_trans (bN_lt _) (by decide) | (rw [hgk]; decide)) dX8_restore_18 (by decide) (fun c18 => ?_) (fun c18 => ?_)
    · skip
      exact absurd hgk c18
    · skip
      refine lv_bipush (v := -3) hx hb dX8_restore_21 (by decide) ?_
      exact mv_iret hx hb hr hlocks () (rfl) hP hK hD hS dX8_restore_23
  · skip
    exact absurd (bN_0.mp c6) (by rw [decide_eq_true ⟨Nat.zero_le _, hkk⟩]; decide)
abbrev q_X8_restoreO (D : va_G) (Y : Nat → ClassId) (o : Nat) (ob : Nat) (on : Nat) (ow8 : Nat) (os : Nat) (oe : Nat) (oi : Nat) (op : Nat) (oz : Nat) (oc8 : Nat) (oq : Nat) (om : Nat) (oy : Nat) (og : Nat) (ok8 : Nat) (sc8 : Nat) (cn8 : Nat) (bt : Nat) (a8 : Nat) (rs8 : Int32) (gA : Option Nat) (gR : Option Nat) (gh : Nat → Nat) (gca : Nat → Nat) (gun : Nat → Nat) (prs : Nat) (yrs : Nat) (gro : Nat → Nat) (gsh : Nat → Nat) (gso : Nat → Nat) (gsi : Nat → Nat) (bs : Nat) (gi : Nat → Nat) (gk : Nat → Nat) (kk : Nat) (gh4 : Nat → Nat) (gca4 : Nat → Nat) (gun4 : Nat → Nat) (gro4 : Nat → Nat) (gsh4 : Nat → Nat) (gso4 : Nat → Nat) (gsi4 : Nat → Nat) (prs4 : Nat) (yrs4 : Nat) (bs4 : Nat) (sc4 : Nat) : (Nat → Prop) → Array Value → State → Outcome → State → Prop := mv_Qi D Y (fun (r : Int32) (_ : Unit) => r = nI 1) (fun _ : Unit => ([(o, .inr (8, [.ref ob, .ref on, .ref ow8, .ref os, .ref oe, .int (nI sc4), .ref oi, .int (nI cn8), .ref op, .int (nI bt), .int (oI gA), .int (oI gR), .int rs8, .int (nI a8), .ref oz, .ref oc8, .ref oq, .ref om, .ref oy, .ref og, .ref ok8])), (ob, .inl (Y 0, 24, .inl (aN (bk gh4 gca4 gun4 prs4 yrs4)))), (ow8, .inl (Y 0, 10, .inl (aN gro4))), (os, .inl (Y 0, 10, .inl (aN gsh4))), (oi, .inl (Y 0, 16, .inl (aN (sgt gsi4 bs4)))), (oe, .inl (Y 0, 5, .inl (aN gso4))), (og, .inl (Y 0, 160, .inl (aN gi))), (ok8, .inl (Y 2, 2, .inl (aN gk)))] : va_W))
set_option maxHeartbeats 8000000 in
set_option maxRecDepth 100000 in
theorem c_X8_restoreO (l : Launch) (D : va_G) (Y : Nat → ClassId) (sz : Nat) (o : Nat) (ob : Nat) (on : Nat) (ow8 : Nat) (os : Nat) (oe : Nat) (oi : Nat) (op : Nat) (oz : Nat) (oc8 : Nat) (oq : Nat) (om : Nat) (oy : Nat) (og : Nat) (ok8 : Nat) (sc8 : Nat) (cn8 : Nat) (bt : Nat) (a8 : Nat) (rs8 : Int32) (gA : Option Nat) (gR : Option Nat) (gh : Nat → Nat) (gca : Nat → Nat) (gun : Nat → Nat) (prs : Nat) (yrs : Nat) (gro : Nat → Nat) (gsh : Nat → Nat) (gso : Nat → Nat) (gsi : Nat → Nat) (bs : Nat) (gi : Nat → Nat) (gk : Nat → Nat) (kk : Nat) (gh4 : Nat → Nat) (gca4 : Nat → Nat) (gun4 : Nat → Nat) (gro4 : Nat → Nat) (gsh4 : Nat → Nat) (gso4 : Nat → Nat) (gsi4 : Nat → Nat) (prs4 : Nat) (yrs4 : Nat) (bs4 : Nat) (sc4 : Nat) (hkk : kk ≤ 1) (hgk : gk kk = 1) (him : imR gi kk gh4 gca4 gun4 prs4 yrs4 gro4 gsh4 gsi4 bs4 gso4 sc4) : mv_C l D Y yX8_restore cX8_restore 4 (some .int) 1 0 0 [.ref o, .int (nI kk)] sz [(o, .inr (8, [.ref ob, .ref on, .ref ow8, .ref os, .ref oe, .int (nI sc8), .ref oi, .int (nI cn8), .ref op, .int (nI bt), .int (oI gA), .int (oI gR), .int rs8, .int (nI a8), .ref oz, .ref oc8, .ref oq, .ref om, .ref oy, .ref og, .ref ok8])), (ob, .inl (Y 0, 24, .inl (aN (bk gh gca gun prs yrs)))), (ow8, .inl (Y 0, 10, .inl (aN gro))), (os, .inl (Y 0, 10, .inl (aN gsh))), (oi, .inl (Y 0, 16, .inl (aN (sgt gsi bs)))), (oe, .inl (Y 0, 5, .inl (aN gso))), (og, .inl (Y 0, 160, .inl (aN gi))), (ok8, .inl (Y 2, 2, .inl (aN gk)))] (q_X8_restoreO D Y o ob on ow8 os oe oi op oz oc8 oq om oy og ok8 sc8 cn8 bt a8 rs8 gA gR gh gca gun prs yrs gro gsh gso gsi bs gi gk kk gh4 gca4 gun4 gro4 gsh4 gso4 gsi4 prs4 yrs4 bs4 sc4) := by
  refine mv_ofW (by decide) (Nat.le_of_ble_eq_true rfl) ?_
  intro p e s m below meth c ls A hx hb hr hlocks hml hnm hown hts hsz hAe hP hK hD hS hST hA hl
  have hl : lv_has ls 4 [(0, .ref o), (1, .int (nI kk))] := hl
  obtain ⟨i1, i2, i3, i4, i5, i6⟩ := him
  have L138 : ∀ (fu : Nat) (k : Nat) (gz : Nat → Nat) (hk : k ≤ 5) (hg : ∀ j, j < k → gz j = gso4 j) (hmeas : 5 - k < fu) (H : Heap) (locs : List Loc) (ls : Array Slot), va_P D vwCl [(o, .inr (8, [.ref ob, .ref on, .ref ow8, .ref os, .ref oe, .int (nI sc8), .ref oi, .int (nI cn8), .ref op, .int (nI bt), .int (oI gA), .int (oI gR), .int rs8, .int (nI a8), .ref oz, .ref oc8, .ref oq, .ref om, .ref oy, .ref og, .ref ok8])), (ob, .inl (Y 0, 24, .inl (aN (bk gh4 gca4 gun4 prs4 yrs4)))), (ow8, .inl (Y 0, 10, .inl (aN gro4))), (os, .inl (Y 0, 10, .inl (aN gsh4))), (oi, .inl (Y 0, 16, .inl (aN (sgt gsi4 bs4)))), (oe, .inl (Y 0, 5, .inl (aN gz))), (og, .inl (Y 0, 160, .inl (aN gi))), (ok8, .inl (Y 2, 2, .inl (aN gk)))] H → va_D A [(o, .inr (8, [.ref ob, .ref on, .ref ow8, .ref os, .ref oe, .int (nI sc8), .ref oi, .int (nI cn8), .ref op, .int (nI bt), .int (oI gA), .int (oI gR), .int rs8, .int (nI a8), .ref oz, .ref oc8, .ref oq, .ref om, .ref oy, .ref og, .ref ok8])), (ob, .inl (Y 0, 24, .inl (aN (bk gh4 gca4 gun4 prs4 yrs4)))), (ow8, .inl (Y 0, 10, .inl (aN gro4))), (os, .inl (Y 0, 10, .inl (aN gsh4))), (oi, .inl (Y 0, 16, .inl (aN (sgt gsi4 bs4)))), (oe, .inl (Y 0, 5, .inl (aN gz))), (og, .inl (Y 0, 160, .inl (aN gi))), (ok8, .inl (Y 2, 2, .inl (aN gk)))] → va_S A s.heap H locs → lv_has ls 4 [(3, .int (nI k)), (0, .ref o), (1, .int (nI kk)), (2, .int (nI (80 * kk)))] → W p l e (mv_R 1 0 0) s m [.ref o, .int (nI kk)].toArray below meth c H locs 0 0 (MQ below ((q_X8_restoreO D Y o ob on ow8 os oe oi op oz oc8 oq om oy og ok8 sc8 cn8 bt a8 rs8 gA gR gh gca gun prs yrs gro gsh gso gsi bs gi gk kk gh4 gca4 gun4 gro4 gsh4 gso4 gsi4 prs4 yrs4 bs4 sc4) A) [.ref o, .int (nI kk)].toArray s 0 0 A) (F0 m 138 ls []) := by
    intro fu
    induction fu with
    | zero =>
      intro k gz hk hg hmeas
      exact absurd hmeas (Nat.not_lt_zero _)
    | succ fu L138ih =>
      intro k gz hk hg hmeas H locs ls hP hD hS hl
      refine lv_iload_n hx hb dX8_restore_138 rfl (lv_at hl 0 rfl) ?_
      refine lv_iconst (v := nI 5) hx hb dX8_restore_139 (by decide) ?_
      refine mv_icmp_ge (tgt := 166) hx hb (by first | omega | exact Nat.lt_trans (bN_lt _) (by decide) | (rw [hgk]; decide)) (by omega) dX8_restore_140 (by decide) (fun c140 => ?_) (fun c140 => ?_)
      · skip
        skip
        have hP := mv_Prec (q0 := 5) (f2 := gso4) hP rfl (fun j hj => hg j (by omega))
        have hD := hD.set (p := 5) (a := oe) (e := .inl (Y 0, 5, .inl (aN gso4))) rfl
        have hP : va_P D vwCl [(o, .inr (8, [.ref ob, .ref on, .ref ow8, .ref os, .ref oe, .int (nI sc8), .ref oi, .int (nI cn8), .ref op, .int (nI bt), .int (oI gA), .int (oI gR), .int rs8, .int (nI a8), .ref oz, .ref oc8, .ref oq, .ref om, .ref oy, .ref og, .ref ok8])), (ob, .inl (Y 0, 24, .inl (aN (bk gh4 gca4 gun4 prs4 yrs4)))), (ow8, .inl (Y 0, 10, .inl (aN gro4))), (os, .inl (Y 0, 10, .inl (aN gsh4))), (oi, .inl (Y 0, 16, .inl (aN (sgt gsi4 bs4)))), (oe, .inl (Y 0, 5, .inl (aN gso4))), (og, .inl (Y 0, 160, .inl (aN gi))), (ok8, .inl (Y 2, 2, .inl (aN gk)))] H := hP
        have hD : va_D A [(o, .inr (8, [.ref ob, .ref on, .ref ow8, .ref os, .ref oe, .int (nI sc8), .ref oi, .int (nI cn8), .ref op, .int (nI bt), .int (oI gA), .int (oI gR), .int rs8, .int (nI a8), .ref oz, .ref oc8, .ref oq, .ref om, .ref oy, .ref og, .ref ok8])), (ob, .inl (Y 0, 24, .inl (aN (bk gh4 gca4 gun4 prs4 yrs4)))), (ow8, .inl (Y 0, 10, .inl (aN gro4))), (os, .inl (Y 0, 10, .inl (aN gsh4))), (oi, .inl (Y 0, 16, .inl (aN (sgt gsi4 bs4)))), (oe, .inl (Y 0, 5, .inl (aN gso4))), (og, .inl (Y 0, 160, .inl (aN gi))), (ok8, .inl (Y 2, 2, .inl (aN gk)))] := hD
        refine lv_aload_n hx hb dX8_restore_166 rfl (lv_at hl 1 rfl) ?_
        refine lv_aload_n hx hb dX8_restore_167 rfl (lv_at hl 1 rfl) ?_
        refine va_get (D := D) (ci := 8) (v := .ref og) (C := RX8) (T := TX8) (N := 21) hx hb hts inlX8 hown hK hP 0 rfl rfl 19 (by decide) (hts _ mw_96) (fun _ h9 => h9) rfl dX8_restore_168 ?_
        refine lv_iload_n hx hb dX8_restore_171 rfl (lv_at hl 3 rfl) ?_
        refine lv_bipush (v := nI 70) hx hb dX8_restore_172 (by decide) ?_
        refine mv_iadd hx hb dX8_restore_174 ?_
        refine mv_iald hx hb hK hP 6 rfl (i := (80 * kk) + 70) (by omega) (by decide) dX8_restore_175 ?_
        rw [i6]
        refine va_put (D := D) (ci := 8) (v := .int (nI sc4)) (ty := .int) (C := RX8) (T := TX8) (N := 21) hx hb hts inlX8 tyX8 tyX8_ok nmX8 hown hK hP hD hS 0 rfl rfl 5 (by decide) (hts _ mw_98) (fun _ h9 => h9) rfl (by decide +kernel) rfl rfl (Nat.le_of_ble_eq_true rfl) dX8_restore_176 (fun H locs hP hD hS => ?_)
        have hP : va_P D vwCl [(o, .inr (8, [.ref ob, .ref on, .ref ow8, .ref os, .ref oe, .int (nI sc4), .ref oi, .int (nI cn8), .ref op, .int (nI bt), .int (oI gA), .int (oI gR), .int rs8, .int (nI a8), .ref oz, .ref oc8, .ref oq, .ref om, .ref oy, .ref og, .ref ok8])), (ob, .inl (Y 0, 24, .inl (aN (bk gh4 gca4 gun4 prs4 yrs4)))), (ow8, .inl (Y 0, 10, .inl (aN gro4))), (os, .inl (Y 0, 10, .inl (aN gsh4))), (oi, .inl (Y 0, 16, .inl (aN (sgt gsi4 bs4)))), (oe, .inl (Y 0, 5, .inl (aN gso4))), (og, .inl (Y 0, 160, .inl (aN gi))), (ok8, .inl (Y 2, 2, .inl (aN gk)))] H := hP
        have hD : va_D A [(o, .inr (8, [.ref ob, .ref on, .ref ow8, .ref os, .ref oe, .int (nI sc4), .ref oi, .int (nI cn8), .ref op, .int (nI bt), .int (oI gA), .int (oI gR), .int rs8, .int (nI a8), .ref oz, .ref oc8, .ref oq, .ref om, .ref oy, .ref og, .ref ok8])), (ob, .inl (Y 0, 24, .inl (aN (bk gh4 gca4 gun4 prs4 yrs4)))), (ow8, .inl (Y 0, 10, .inl (aN gro4))), (os, .inl (Y 0, 10, .inl (aN gsh4))), (oi, .inl (Y 0, 16, .inl (aN (sgt gsi4 bs4)))), (oe, .inl (Y 0, 5, .inl (aN gso4))), (og, .inl (Y 0, 160, .inl (aN gi))), (ok8, .inl (Y 2, 2, .inl (aN gk)))] := hD
        refine lv_iconst (v := nI 1) hx hb dX8_restore_179 (by decide) ?_
        exact mv_iret hx hb hr hlocks () (rfl) hP hK hD hS dX8_restore_180
      · skip
        refine lv_aload_n hx hb dX8_restore_143 rfl (lv_at hl 1 rfl) ?_
        refine va_get (D := D) (ci := 8) (v := .ref oe) (C := RX8) (T := TX8) (N := 21) hx hb hts inlX8 hown hK hP 0 rfl rfl 4 (by decide) (hts _ mw_87) (fun _ h9 => h9) rfl dX8_restore_144 ?_
        refine lv_iload_n hx hb dX8_restore_147 rfl (lv_at hl 0 rfl) ?_
        refine lv_aload_n hx hb dX8_restore_148 rfl (lv_at hl 1 rfl) ?_
        refine va_get (D := D) (ci := 8) (v := .ref og) (C := RX8) (T := TX8) (N := 21) hx hb hts inlX8 hown hK hP 0 rfl rfl 19 (by decide) (hts _ mw_96) (fun _ h9 => h9) rfl dX8_restore_149 ?_
        refine lv_iload_n hx hb dX8_restore_152 rfl (lv_at hl 3 rfl) ?_
        refine lv_bipush (v := nI 60) hx hb dX8_restore_153 (by decide) ?_
        refine mv_iadd hx hb dX8_restore_155 ?_
        refine lv_iload_n hx hb dX8_restore_156 rfl (lv_at hl 0 rfl) ?_
        refine mv_iadd hx hb dX8_restore_157 ?_
        refine mv_iald hx hb hK hP 6 rfl (i := ((80 * kk) + 60) + k) (by omega) (by decide) dX8_restore_158 ?_
        refine mv_iast hx hb hK hP hD hS 5 rfl (i := k) (v := gi (((80 * kk) + 60) + k)) (by omega) (by decide) dX8_restore_159 (fun H locs hP hD hS => ?_)
        have hP : va_P D vwCl [(o, .inr (8, [.ref ob, .ref on, .ref ow8, .ref os, .ref oe, .int (nI sc8), .ref oi, .int (nI cn8), .ref op, .int (nI bt), .int (oI gA), .int (oI gR), .int rs8, .int (nI a8), .ref oz, .ref oc8, .ref oq, .ref om, .ref oy, .ref og, .ref ok8])), (ob, .inl (Y 0, 24, .inl (aN (bk gh4 gca4 gun4 prs4 yrs4)))), (ow8, .inl (Y 0, 10, .inl (aN gro4))), (os, .inl (Y 0, 10, .inl (aN gsh4))), (oi, .inl (Y 0, 16, .inl (aN (sgt gsi4 bs4)))), (oe, .inl (Y 0, 5, .inl (aN (uN gz k (gi (((80 * kk) + 60) + k)))))), (og, .inl (Y 0, 160, .inl (aN gi))), (ok8, .inl (Y 2, 2, .inl (aN gk)))] H := hP
        have hD : va_D A [(o, .inr (8, [.ref ob, .ref on, .ref ow8, .ref os, .ref oe, .int (nI sc8), .ref oi, .int (nI cn8), .ref op, .int (nI bt), .int (oI gA), .int (oI gR), .int rs8, .int (nI a8), .ref oz, .ref oc8, .ref oq, .ref om, .ref oy, .ref og, .ref ok8])), (ob, .inl (Y 0, 24, .inl (aN (bk gh4 gca4 gun4 prs4 yrs4)))), (ow8, .inl (Y 0, 10, .inl (aN gro4))), (os, .inl (Y 0, 10, .inl (aN gsh4))), (oi, .inl (Y 0, 16, .inl (aN (sgt gsi4 bs4)))), (oe, .inl (Y 0, 5, .inl (aN (uN gz k (gi (((80 * kk) + 60) + k)))))), (og, .inl (Y 0, 160, .inl (aN gi))), (ok8, .inl (Y 2, 2, .inl (aN gk)))] := hD
        refine lv_iinc (v := nI (k + 1)) (lv' := [(3, .int (nI (k + 1))), (0, .ref o), (1, .int (nI kk)), (2, .int (nI (80 * kk)))]) hx hb dX8_restore_160 hl (k := 0) rfl (by exact nI_add _ 1) (by decide) rfl (fun ls hl => ?_)
        refine lv_goto (tgt := 138) hx hb dX8_restore_163 (by decide) ?_
        exact L138ih  (k + 1) (uN gz k (gi (((80 * kk) + 60) + k))) (by first | assumption | omega | rfl) (fun j hj => by by_cases e9 : j = k; rw [e9, uN_s]; exact i5 k (by omega); rw [uN_n _ _ e9]; exact hg j (by omega)) (by omega) _ _ _ hP hD hS (lv_sub hl [0, 1, 2, 3] rfl)
  have L107 : ∀ (fu : Nat) (k : Nat) (gz : Nat → Nat) (hk : k ≤ 16) (hg : ∀ j, j < k → gz j = (sgt gsi4 bs4) j) (hmeas : 16 - k < fu) (H : Heap) (locs : List Loc) (ls : Array Slot), va_P D vwCl [(o, .inr (8, [.ref ob, .ref on, .ref ow8, .ref os, .ref oe, .int (nI sc8), .ref oi, .int (nI cn8), .ref op, .int (nI bt), .int (oI gA), .int (oI gR), .int rs8, .int (nI a8), .ref oz, .ref oc8, .ref oq, .ref om, .ref oy, .ref og, .ref ok8])), (ob, .inl (Y 0, 24, .inl (aN (bk gh4 gca4 gun4 prs4 yrs4)))), (ow8, .inl (Y 0, 10, .inl (aN gro4))), (os, .inl (Y 0, 10, .inl (aN gsh4))), (oi, .inl (Y 0, 16, .inl (aN gz))), (oe, .inl (Y 0, 5, .inl (aN gso))), (og, .inl (Y 0, 160, .inl (aN gi))), (ok8, .inl (Y 2, 2, .inl (aN gk)))] H → va_D A [(o, .inr (8, [.ref ob, .ref on, .ref ow8, .ref os, .ref oe, .int (nI sc8), .ref oi, .int (nI cn8), .ref op, .int (nI bt), .int (oI gA), .int (oI gR), .int rs8, .int (nI a8), .ref oz, .ref oc8, .ref oq, .ref om, .ref oy, .ref og, .ref ok8])), (ob, .inl (Y 0, 24, .inl (aN (bk gh4 gca4 gun4 prs4 yrs4)))), (ow8, .inl (Y 0, 10, .inl (aN gro4))), (os, .inl (Y 0, 10, .inl (aN gsh4))), (oi, .inl (Y 0, 16, .inl (aN gz))), (oe, .inl (Y 0, 5, .inl (aN gso))), (og, .inl (Y 0, 160, .inl (aN gi))), (ok8, .inl (Y 2, 2, .inl (aN gk)))] → va_S A s.heap H locs → lv_has ls 4 [(3, .int (nI k)), (0, .ref o), (1, .int (nI kk)), (2, .int (nI (80 * kk)))] → W p l e (mv_R 1 0 0) s m [.ref o, .int (nI kk)].toArray below meth c H locs 0 0 (MQ below ((q_X8_restoreO D Y o ob on ow8 os oe oi op oz oc8 oq om oy og ok8 sc8 cn8 bt a8 rs8 gA gR gh gca gun prs yrs gro gsh gso gsi bs gi gk kk gh4 gca4 gun4 gro4 gsh4 gso4 gsi4 prs4 yrs4 bs4 sc4) A) [.ref o, .int (nI kk)].toArray s 0 0 A) (F0 m 107 ls []) := by
    intro fu
    induction fu with
    | zero =>
      intro k gz hk hg hmeas
      exact absurd hmeas (Nat.not_lt_zero _)
    | succ fu L107ih =>
      intro k gz hk hg hmeas H locs ls hP hD hS hl
      refine lv_iload_n hx hb dX8_restore_107 rfl (lv_at hl 0 rfl) ?_
      refine lv_bipush (v := nI 16) hx hb dX8_restore_108 (by decide) ?_
      refine mv_icmp_ge (tgt := 136) hx hb (by first | omega | exact Nat.lt_trans (bN_lt _) (by decide) | (rw [hgk]; decide)) (by omega) dX8_restore_110 (by decide) (fun c110 => ?_) (fun c110 => ?_)
      · skip
        skip
        have hP := mv_Prec (q0 := 4) (f2 := sgt gsi4 bs4) hP rfl (fun j hj => hg j (by omega))
        have hD := hD.set (p := 4) (a := oi) (e := .inl (Y 0, 16, .inl (aN (sgt gsi4 bs4)))) rfl
        have hP : va_P D vwCl [(o, .inr (8, [.ref ob, .ref on, .ref ow8, .ref os, .ref oe, .int (nI sc8), .ref oi, .int (nI cn8), .ref op, .int (nI bt), .int (oI gA), .int (oI gR), .int rs8, .int (nI a8), .ref oz, .ref oc8, .ref oq, .ref om, .ref oy, .ref og, .ref ok8])), (ob, .inl (Y 0, 24, .inl (aN (bk gh4 gca4 gun4 prs4 yrs4)))), (ow8, .inl (Y 0, 10, .inl (aN gro4))), (os, .inl (Y 0, 10, .inl (aN gsh4))), (oi, .inl (Y 0, 16, .inl (aN (sgt gsi4 bs4)))), (oe, .inl (Y 0, 5, .inl (aN gso))), (og, .inl (Y 0, 160, .inl (aN gi))), (ok8, .inl (Y 2, 2, .inl (aN gk)))] H := hP
        have hD : va_D A [(o, .inr (8, [.ref ob, .ref on, .ref ow8, .ref os, .ref oe, .int (nI sc8), .ref oi, .int (nI cn8), .ref op, .int (nI bt), .int (oI gA), .int (oI gR), .int rs8, .int (nI a8), .ref oz, .ref oc8, .ref oq, .ref om, .ref oy, .ref og, .ref ok8])), (ob, .inl (Y 0, 24, .inl (aN (bk gh4 gca4 gun4 prs4 yrs4)))), (ow8, .inl (Y 0, 10, .inl (aN gro4))), (os, .inl (Y 0, 10, .inl (aN gsh4))), (oi, .inl (Y 0, 16, .inl (aN (sgt gsi4 bs4)))), (oe, .inl (Y 0, 5, .inl (aN gso))), (og, .inl (Y 0, 160, .inl (aN gi))), (ok8, .inl (Y 2, 2, .inl (aN gk)))] := hD
        refine lv_iconst (v := nI 0) hx hb dX8_restore_136 (by decide) ?_
        refine lv_istore_n (lv' := [(3, .int (nI 0)), (0, .ref o), (1, .int (nI kk)), (2, .int (nI (80 * kk)))]) hx hb dX8_restore_137 rfl hl (by decide) rfl (fun ls hl => ?_)
        exact L138 (5 - 0 + 1) 0 gso (by first | assumption | omega | rfl) (fun j hj => absurd hj (Nat.not_lt_zero _)) (Nat.lt_succ_self _) _ _ _ hP hD hS (lv_sub hl [0, 1, 2, 3] rfl)
      · skip
        refine lv_aload_n hx hb dX8_restore_113 rfl (lv_at hl 1 rfl) ?_
        refine va_get (D := D) (ci := 8) (v := .ref oi) (C := RX8) (T := TX8) (N := 21) hx hb hts inlX8 hown hK hP 0 rfl rfl 6 (by decide) (hts _ mw_88) (fun _ h9 => h9) rfl dX8_restore_114 ?_
        refine lv_iload_n hx hb dX8_restore_117 rfl (lv_at hl 0 rfl) ?_
        refine lv_aload_n hx hb dX8_restore_118 rfl (lv_at hl 1 rfl) ?_
        refine va_get (D := D) (ci := 8) (v := .ref og) (C := RX8) (T := TX8) (N := 21) hx hb hts inlX8 hown hK hP 0 rfl rfl 19 (by decide) (hts _ mw_96) (fun _ h9 => h9) rfl dX8_restore_119 ?_
        refine lv_iload_n hx hb dX8_restore_122 rfl (lv_at hl 3 rfl) ?_
        refine lv_bipush (v := nI 44) hx hb dX8_restore_123 (by decide) ?_
        refine mv_iadd hx hb dX8_restore_125 ?_
        refine lv_iload_n hx hb dX8_restore_126 rfl (lv_at hl 0 rfl) ?_
        refine mv_iadd hx hb dX8_restore_127 ?_
        refine mv_iald hx hb hK hP 6 rfl (i := ((80 * kk) + 44) + k) (by omega) (by decide) dX8_restore_128 ?_
        refine mv_iast hx hb hK hP hD hS 4 rfl (i := k) (v := gi (((80 * kk) + 44) + k)) (by omega) (by decide) dX8_restore_129 (fun H locs hP hD hS => ?_)
        have hP : va_P D vwCl [(o, .inr (8, [.ref ob, .ref on, .ref ow8, .ref os, .ref oe, .int (nI sc8), .ref oi, .int (nI cn8), .ref op, .int (nI bt), .int (oI gA), .int (oI gR), .int rs8, .int (nI a8), .ref oz, .ref oc8, .ref oq, .ref om, .ref oy, .ref og, .ref ok8])), (ob, .inl (Y 0, 24, .inl (aN (bk gh4 gca4 gun4 prs4 yrs4)))), (ow8, .inl (Y 0, 10, .inl (aN gro4))), (os, .inl (Y 0, 10, .inl (aN gsh4))), (oi, .inl (Y 0, 16, .inl (aN (uN gz k (gi (((80 * kk) + 44) + k)))))), (oe, .inl (Y 0, 5, .inl (aN gso))), (og, .inl (Y 0, 160, .inl (aN gi))), (ok8, .inl (Y 2, 2, .inl (aN gk)))] H := hP
        have hD : va_D A [(o, .inr (8, [.ref ob, .ref on, .ref ow8, .ref os, .ref oe, .int (nI sc8), .ref oi, .int (nI cn8), .ref op, .int (nI bt), .int (oI gA), .int (oI gR), .int rs8, .int (nI a8), .ref oz, .ref oc8, .ref oq, .ref om, .ref oy, .ref og, .ref ok8])), (ob, .inl (Y 0, 24, .inl (aN (bk gh4 gca4 gun4 prs4 yrs4)))), (ow8, .inl (Y 0, 10, .inl (aN gro4))), (os, .inl (Y 0, 10, .inl (aN gsh4))), (oi, .inl (Y 0, 16, .inl (aN (uN gz k (gi (((80 * kk) + 44) + k)))))), (oe, .inl (Y 0, 5, .inl (aN gso))), (og, .inl (Y 0, 160, .inl (aN gi))), (ok8, .inl (Y 2, 2, .inl (aN gk)))] := hD
        refine lv_iinc (v := nI (k + 1)) (lv' := [(3, .int (nI (k + 1))), (0, .ref o), (1, .int (nI kk)), (2, .int (nI (80 * kk)))]) hx hb dX8_restore_130 hl (k := 0) rfl (by exact nI_add _ 1) (by decide) rfl (fun ls hl => ?_)
        refine lv_goto (tgt := 107) hx hb dX8_restore_133 (by decide) ?_
        exact L107ih  (k + 1) (uN gz k (gi (((80 * kk) + 44) + k))) (by first | assumption | omega | rfl) (fun j hj => by by_cases e9 : j = k; rw [e9, uN_s]; exact i4 k (by omega); rw [uN_n _ _ e9]; exact hg j (by omega)) (by omega) _ _ _ hP hD hS (lv_sub hl [0, 1, 2, 3] rfl)
  have L59 : ∀ (fu : Nat) (k : Nat) (gz : Nat → Nat) (gy : Nat → Nat) (hk : k ≤ 10) (hg : ∀ j, j < k → gz j = gro4 j) (hg2 : ∀ j, j < k → gy j = gsh4 j) (hmeas : 10 - k < fu) (H : Heap) (locs : List Loc) (ls : Array Slot), va_P D vwCl [(o, .inr (8, [.ref ob, .ref on, .ref ow8, .ref os, .ref oe, .int (nI sc8), .ref oi, .int (nI cn8), .ref op, .int (nI bt), .int (oI gA), .int (oI gR), .int rs8, .int (nI a8), .ref oz, .ref oc8, .ref oq, .ref om, .ref oy, .ref og, .ref ok8])), (ob, .inl (Y 0, 24, .inl (aN (bk gh4 gca4 gun4 prs4 yrs4)))), (ow8, .inl (Y 0, 10, .inl (aN gz))), (os, .inl (Y 0, 10, .inl (aN gy))), (oi, .inl (Y 0, 16, .inl (aN (sgt gsi bs)))), (oe, .inl (Y 0, 5, .inl (aN gso))), (og, .inl (Y 0, 160, .inl (aN gi))), (ok8, .inl (Y 2, 2, .inl (aN gk)))] H → va_D A [(o, .inr (8, [.ref ob, .ref on, .ref ow8, .ref os, .ref oe, .int (nI sc8), .ref oi, .int (nI cn8), .ref op, .int (nI bt), .int (oI gA), .int (oI gR), .int rs8, .int (nI a8), .ref oz, .ref oc8, .ref oq, .ref om, .ref oy, .ref og, .ref ok8])), (ob, .inl (Y 0, 24, .inl (aN (bk gh4 gca4 gun4 prs4 yrs4)))), (ow8, .inl (Y 0, 10, .inl (aN gz))), (os, .inl (Y 0, 10, .inl (aN gy))), (oi, .inl (Y 0, 16, .inl (aN (sgt gsi bs)))), (oe, .inl (Y 0, 5, .inl (aN gso))), (og, .inl (Y 0, 160, .inl (aN gi))), (ok8, .inl (Y 2, 2, .inl (aN gk)))] → va_S A s.heap H locs → lv_has ls 4 [(3, .int (nI k)), (0, .ref o), (1, .int (nI kk)), (2, .int (nI (80 * kk)))] → W p l e (mv_R 1 0 0) s m [.ref o, .int (nI kk)].toArray below meth c H locs 0 0 (MQ below ((q_X8_restoreO D Y o ob on ow8 os oe oi op oz oc8 oq om oy og ok8 sc8 cn8 bt a8 rs8 gA gR gh gca gun prs yrs gro gsh gso gsi bs gi gk kk gh4 gca4 gun4 gro4 gsh4 gso4 gsi4 prs4 yrs4 bs4 sc4) A) [.ref o, .int (nI kk)].toArray s 0 0 A) (F0 m 59 ls []) := by
    intro fu
    induction fu with
    | zero =>
      intro k gz gy hk hg hg2 hmeas
      exact absurd hmeas (Nat.not_lt_zero _)
    | succ fu L59ih =>
      intro k gz gy hk hg hg2 hmeas H locs ls hP hD hS hl
      refine lv_iload_n hx hb dX8_restore_59 rfl (lv_at hl 0 rfl) ?_
      refine lv_bipush (v := nI 10) hx hb dX8_restore_60 (by decide) ?_
      refine mv_icmp_ge (tgt := 105) hx hb (by first | omega | exact Nat.lt_trans (bN_lt _) (by decide) | (rw [hgk]; decide)) (by omega) dX8_restore_62 (by decide) (fun c62 => ?_) (fun c62 => ?_)
      · skip
        skip
        have hP := mv_Prec (q0 := 2) (f2 := gro4) hP rfl (fun j hj => hg j (by omega))
        have hD := hD.set (p := 2) (a := ow8) (e := .inl (Y 0, 10, .inl (aN gro4))) rfl
        have hP : va_P D vwCl [(o, .inr (8, [.ref ob, .ref on, .ref ow8, .ref os, .ref oe, .int (nI sc8), .ref oi, .int (nI cn8), .ref op, .int (nI bt), .int (oI gA), .int (oI gR), .int rs8, .int (nI a8), .ref oz, .ref oc8, .ref oq, .ref om, .ref oy, .ref og, .ref ok8])), (ob, .inl (Y 0, 24, .inl (aN (bk gh4 gca4 gun4 prs4 yrs4)))), (ow8, .inl (Y 0, 10, .inl (aN gro4))), (os, .inl (Y 0, 10, .inl (aN gy))), (oi, .inl (Y 0, 16, .inl (aN (sgt gsi bs)))), (oe, .inl (Y 0, 5, .inl (aN gso))), (og, .inl (Y 0, 160, .inl (aN gi))), (ok8, .inl (Y 2, 2, .inl (aN gk)))] H := hP
        have hD : va_D A [(o, .inr (8, [.ref ob, .ref on, .ref ow8, .ref os, .ref oe, .int (nI sc8), .ref oi, .int (nI cn8), .ref op, .int (nI bt), .int (oI gA), .int (oI gR), .int rs8, .int (nI a8), .ref oz, .ref oc8, .ref oq, .ref om, .ref oy, .ref og, .ref ok8])), (ob, .inl (Y 0, 24, .inl (aN (bk gh4 gca4 gun4 prs4 yrs4)))), (ow8, .inl (Y 0, 10, .inl (aN gro4))), (os, .inl (Y 0, 10, .inl (aN gy))), (oi, .inl (Y 0, 16, .inl (aN (sgt gsi bs)))), (oe, .inl (Y 0, 5, .inl (aN gso))), (og, .inl (Y 0, 160, .inl (aN gi))), (ok8, .inl (Y 2, 2, .inl (aN gk)))] := hD
        have hP := mv_Prec (q0 := 3) (f2 := gsh4) hP rfl (fun j hj => hg2 j (by omega))
        have hD := hD.set (p := 3) (a := os) (e := .inl (Y 0, 10, .inl (aN gsh4))) rfl
        have hP : va_P D vwCl [(o, .inr (8, [.ref ob, .ref on, .ref ow8, .ref os, .ref oe, .int (nI sc8), .ref oi, .int (nI cn8), .ref op, .int (nI bt), .int (oI gA), .int (oI gR), .int rs8, .int (nI a8), .ref oz, .ref oc8, .ref oq, .ref om, .ref oy, .ref og, .ref ok8])), (ob, .inl (Y 0, 24, .inl (aN (bk gh4 gca4 gun4 prs4 yrs4)))), (ow8, .inl (Y 0, 10, .inl (aN gro4))), (os, .inl (Y 0, 10, .inl (aN gsh4))), (oi, .inl (Y 0, 16, .inl (aN (sgt gsi bs)))), (oe, .inl (Y 0, 5, .inl (aN gso))), (og, .inl (Y 0, 160, .inl (aN gi))), (ok8, .inl (Y 2, 2, .inl (aN gk)))] H := hP
        have hD : va_D A [(o, .inr (8, [.ref ob, .ref on, .ref ow8, .ref os, .ref oe, .int (nI sc8), .ref oi, .int (nI cn8), .ref op, .int (nI bt), .int (oI gA), .int (oI gR), .int rs8, .int (nI a8), .ref oz, .ref oc8, .ref oq, .ref om, .ref oy, .ref og, .ref ok8])), (ob, .inl (Y 0, 24, .inl (aN (bk gh4 gca4 gun4 prs4 yrs4)))), (ow8, .inl (Y 0, 10, .inl (aN gro4))), (os, .inl (Y 0, 10, .inl (aN gsh4))), (oi, .inl (Y 0, 16, .inl (aN (sgt gsi bs)))), (oe, .inl (Y 0, 5, .inl (aN gso))), (og, .inl (Y 0, 160, .inl (aN gi))), (ok8, .inl (Y 2, 2, .inl (aN gk)))] := hD
        refine lv_iconst (v := nI 0) hx hb dX8_restore_105 (by decide) ?_
        refine lv_istore_n (lv' := [(3, .int (nI 0)), (0, .ref o), (1, .int (nI kk)), (2, .int (nI (80 * kk)))]) hx hb dX8_restore_106 rfl hl (by decide) rfl (fun ls hl => ?_)
        exact L107 (16 - 0 + 1) 0 (sgt gsi bs) (by first | assumption | omega | rfl) (fun j hj => absurd hj (Nat.not_lt_zero _)) (Nat.lt_succ_self _) _ _ _ hP hD hS (lv_sub hl [0, 1, 2, 3] rfl)
      · skip
        refine lv_aload_n hx hb dX8_restore_65 rfl (lv_at hl 1 rfl) ?_
        refine va_get (D := D) (ci := 8) (v := .ref ow8) (C := RX8) (T := TX8) (N := 21) hx hb hts inlX8 hown hK hP 0 rfl rfl 2 (by decide) (hts _ mw_85) (fun _ h9 => h9) rfl dX8_restore_66 ?_
        refine lv_iload_n hx hb dX8_restore_69 rfl (lv_at hl 0 rfl) ?_
        refine lv_aload_n hx hb dX8_restore_70 rfl (lv_at hl 1 rfl) ?_
        refine va_get (D := D) (ci := 8) (v := .ref og) (C := RX8) (T := TX8) (N := 21) hx hb hts inlX8 hown hK hP 0 rfl rfl 19 (by decide) (hts _ mw_96) (fun _ h9 => h9) rfl dX8_restore_71 ?_
        refine lv_iload_n hx hb dX8_restore_74 rfl (lv_at hl 3 rfl) ?_
        refine lv_bipush (v := nI 24) hx hb dX8_restore_75 (by decide) ?_
        refine mv_iadd hx hb dX8_restore_77 ?_
        refine lv_iload_n hx hb dX8_restore_78 rfl (lv_at hl 0 rfl) ?_
        refine mv_iadd hx hb dX8_restore_79 ?_
        refine mv_iald hx hb hK hP 6 rfl (i := ((80 * kk) + 24) + k) (by omega) (by decide) dX8_restore_80 ?_
        refine mv_iast hx hb hK hP hD hS 2 rfl (i := k) (v := gi (((80 * kk) + 24) + k)) (by omega) (by decide) dX8_restore_81 (fun H locs hP hD hS => ?_)
        have hP : va_P D vwCl [(o, .inr (8, [.ref ob, .ref on, .ref ow8, .ref os, .ref oe, .int (nI sc8), .ref oi, .int (nI cn8), .ref op, .int (nI bt), .int (oI gA), .int (oI gR), .int rs8, .int (nI a8), .ref oz, .ref oc8, .ref oq, .ref om, .ref oy, .ref og, .ref ok8])), (ob, .inl (Y 0, 24, .inl (aN (bk gh4 gca4 gun4 prs4 yrs4)))), (ow8, .inl (Y 0, 10, .inl (aN (uN gz k (gi (((80 * kk) + 24) + k)))))), (os, .inl (Y 0, 10, .inl (aN gy))), (oi, .inl (Y 0, 16, .inl (aN (sgt gsi bs)))), (oe, .inl (Y 0, 5, .inl (aN gso))), (og, .inl (Y 0, 160, .inl (aN gi))), (ok8, .inl (Y 2, 2, .inl (aN gk)))] H := hP
        have hD : va_D A [(o, .inr (8, [.ref ob, .ref on, .ref ow8, .ref os, .ref oe, .int (nI sc8), .ref oi, .int (nI cn8), .ref op, .int (nI bt), .int (oI gA), .int (oI gR), .int rs8, .int (nI a8), .ref oz, .ref oc8, .ref oq, .ref om, .ref oy, .ref og, .ref ok8])), (ob, .inl (Y 0, 24, .inl (aN (bk gh4 gca4 gun4 prs4 yrs4)))), (ow8, .inl (Y 0, 10, .inl (aN (uN gz k (gi (((80 * kk) + 24) + k)))))), (os, .inl (Y 0, 10, .inl (aN gy))), (oi, .inl (Y 0, 16, .inl (aN (sgt gsi bs)))), (oe, .inl (Y 0, 5, .inl (aN gso))), (og, .inl (Y 0, 160, .inl (aN gi))), (ok8, .inl (Y 2, 2, .inl (aN gk)))] := hD
        refine lv_aload_n hx hb dX8_restore_82 rfl (lv_at hl 1 rfl) ?_
        refine va_get (D := D) (ci := 8) (v := .ref os) (C := RX8) (T := TX8) (N := 21) hx hb hts inlX8 hown hK hP 0 rfl rfl 3 (by decide) (hts _ mw_86) (fun _ h9 => h9) rfl dX8_restore_83 ?_
        refine lv_iload_n hx hb dX8_restore_86 rfl (lv_at hl 0 rfl) ?_
        refine lv_aload_n hx hb dX8_restore_87 rfl (lv_at hl 1 rfl) ?_
        refine va_get (D := D) (ci := 8) (v := .ref og) (C := RX8) (T := TX8) (N := 21) hx hb hts inlX8 hown hK hP 0 rfl rfl 19 (by decide) (hts _ mw_96) (fun _ h9 => h9) rfl dX8_restore_88 ?_
        refine lv_iload_n hx hb dX8_restore_91 rfl (lv_at hl 3 rfl) ?_
        refine lv_bipush (v := nI 34) hx hb dX8_restore_92 (by decide) ?_
        refine mv_iadd hx hb dX8_restore_94 ?_
        refine lv_iload_n hx hb dX8_restore_95 rfl (lv_at hl 0 rfl) ?_
        refine mv_iadd hx hb dX8_restore_96 ?_
        refine mv_iald hx hb hK hP 6 rfl (i := ((80 * kk) + 34) + k) (by omega) (by decide) dX8_restore_97 ?_
        refine mv_iast hx hb hK hP hD hS 3 rfl (i := k) (v := gi (((80 * kk) + 34) + k)) (by omega) (by decide) dX8_restore_98 (fun H locs hP hD hS => ?_)
        have hP : va_P D vwCl [(o, .inr (8, [.ref ob, .ref on, .ref ow8, .ref os, .ref oe, .int (nI sc8), .ref oi, .int (nI cn8), .ref op, .int (nI bt), .int (oI gA), .int (oI gR), .int rs8, .int (nI a8), .ref oz, .ref oc8, .ref oq, .ref om, .ref oy, .ref og, .ref ok8])), (ob, .inl (Y 0, 24, .inl (aN (bk gh4 gca4 gun4 prs4 yrs4)))), (ow8, .inl (Y 0, 10, .inl (aN (uN gz k (gi (((80 * kk) + 24) + k)))))), (os, .inl (Y 0, 10, .inl (aN (uN gy k (gi (((80 * kk) + 34) + k)))))), (oi, .inl (Y 0, 16, .inl (aN (sgt gsi bs)))), (oe, .inl (Y 0, 5, .inl (aN gso))), (og, .inl (Y 0, 160, .inl (aN gi))), (ok8, .inl (Y 2, 2, .inl (aN gk)))] H := hP
        have hD : va_D A [(o, .inr (8, [.ref ob, .ref on, .ref ow8, .ref os, .ref oe, .int (nI sc8), .ref oi, .int (nI cn8), .ref op, .int (nI bt), .int (oI gA), .int (oI gR), .int rs8, .int (nI a8), .ref oz, .ref oc8, .ref oq, .ref om, .ref oy, .ref og, .ref ok8])), (ob, .inl (Y 0, 24, .inl (aN (bk gh4 gca4 gun4 prs4 yrs4)))), (ow8, .inl (Y 0, 10, .inl (aN (uN gz k (gi (((80 * kk) + 24) + k)))))), (os, .inl (Y 0, 10, .inl (aN (uN gy k (gi (((80 * kk) + 34) + k)))))), (oi, .inl (Y 0, 16, .inl (aN (sgt gsi bs)))), (oe, .inl (Y 0, 5, .inl (aN gso))), (og, .inl (Y 0, 160, .inl (aN gi))), (ok8, .inl (Y 2, 2, .inl (aN gk)))] := hD
        refine lv_iinc (v := nI (k + 1)) (lv' := [(3, .int (nI (k + 1))), (0, .ref o), (1, .int (nI kk)), (2, .int (nI (80 * kk)))]) hx hb dX8_restore_99 hl (k := 0) rfl (by exact nI_add _ 1) (by decide) rfl (fun ls hl => ?_)
        refine lv_goto (tgt := 59) hx hb dX8_restore_102 (by decide) ?_
        exact L59ih  (k + 1) (uN gz k (gi (((80 * kk) + 24) + k))) (uN gy k (gi (((80 * kk) + 34) + k))) (by first | assumption | omega | rfl) (fun j hj => by by_cases e9 : j = k; rw [e9, uN_s]; exact i2 k (by omega); rw [uN_n _ _ e9]; exact hg j (by omega)) (fun j hj => by by_cases e9 : j = k; rw [e9, uN_s]; exact i3 k (by omega); rw [uN_n _ _ e9]; exact hg2 j (by omega)) (by omega) _ _ _ hP hD hS (lv_sub hl [0, 1, 2, 3] rfl)
  have L31 : ∀ (fu : Nat) (k : Nat) (gz : Nat → Nat) (hk : k ≤ 24) (hg : ∀ j, j < k → gz j = (bk gh4 gca4 gun4 prs4 yrs4) j) (hmeas : 24 - k < fu) (H : Heap) (locs : List Loc) (ls : Array Slot), va_P D vwCl [(o, .inr (8, [.ref ob, .ref on, .ref ow8, .ref os, .ref oe, .int (nI sc8), .ref oi, .int (nI cn8), .ref op, .int (nI bt), .int (oI gA), .int (oI gR), .int rs8, .int (nI a8), .ref oz, .ref oc8, .ref oq, .ref om, .ref oy, .ref og, .ref ok8])), (ob, .inl (Y 0, 24, .inl (aN gz))), (ow8, .inl (Y 0, 10, .inl (aN gro))), (os, .inl (Y 0, 10, .inl (aN gsh))), (oi, .inl (Y 0, 16, .inl (aN (sgt gsi bs)))), (oe, .inl (Y 0, 5, .inl (aN gso))), (og, .inl (Y 0, 160, .inl (aN gi))), (ok8, .inl (Y 2, 2, .inl (aN gk)))] H → va_D A [(o, .inr (8, [.ref ob, .ref on, .ref ow8, .ref os, .ref oe, .int (nI sc8), .ref oi, .int (nI cn8), .ref op, .int (nI bt), .int (oI gA), .int (oI gR), .int rs8, .int (nI a8), .ref oz, .ref oc8, .ref oq, .ref om, .ref oy, .ref og, .ref ok8])), (ob, .inl (Y 0, 24, .inl (aN gz))), (ow8, .inl (Y 0, 10, .inl (aN gro))), (os, .inl (Y 0, 10, .inl (aN gsh))), (oi, .inl (Y 0, 16, .inl (aN (sgt gsi bs)))), (oe, .inl (Y 0, 5, .inl (aN gso))), (og, .inl (Y 0, 160, .inl (aN gi))), (ok8, .inl (Y 2, 2, .inl (aN gk)))] → va_S A s.heap H locs → lv_has ls 4 [(3, .int (nI k)), (0, .ref o), (1, .int (nI kk)), (2, .int (nI (80 * kk)))] → W p l e (mv_R 1 0 0) s m [.ref o, .int (nI kk)].toArray below meth c H locs 0 0 (MQ below ((q_X8_restoreO D Y o ob on ow8 os oe oi op oz oc8 oq om oy og ok8 sc8 cn8 bt a8 rs8 gA gR gh gca gun prs yrs gro gsh gso gsi bs gi gk kk gh4 gca4 gun4 gro4 gsh4 gso4 gsi4 prs4 yrs4 bs4 sc4) A) [.ref o, .int (nI kk)].toArray s 0 0 A) (F0 m 31 ls []) := by
    intro fu
    induction fu with
    | zero =>
      intro k gz hk hg hmeas
      exact absurd hmeas (Nat.not_lt_zero _)
    | succ fu L31ih =>
      intro k gz hk hg hmeas H locs ls hP hD hS hl
      refine lv_iload_n hx hb dX8_restore_31 rfl (lv_at hl 0 rfl) ?_
      refine lv_bipush (v := nI 24) hx hb dX8_restore_32 (by decide) ?_
      refine mv_icmp_ge (tgt := 57) hx hb (by first | omega | exact Nat.lt_trans (bN_lt _) (by decide) | (rw [hgk]; decide)) (by omega) dX8_restore_34 (by decide) (fun c34 => ?_) (fun c34 => ?_)
      · skip
        skip
        have hP := mv_Prec (q0 := 1) (f2 := bk gh4 gca4 gun4 prs4 yrs4) hP rfl (fun j hj => hg j (by omega))
        have hD := hD.set (p := 1) (a := ob) (e := .inl (Y 0, 24, .inl (aN (bk gh4 gca4 gun4 prs4 yrs4)))) rfl
        have hP : va_P D vwCl [(o, .inr (8, [.ref ob, .ref on, .ref ow8, .ref os, .ref oe, .int (nI sc8), .ref oi, .int (nI cn8), .ref op, .int (nI bt), .int (oI gA), .int (oI gR), .int rs8, .int (nI a8), .ref oz, .ref oc8, .ref oq, .ref om, .ref oy, .ref og, .ref ok8])), (ob, .inl (Y 0, 24, .inl (aN (bk gh4 gca4 gun4 prs4 yrs4)))), (ow8, .inl (Y 0, 10, .inl (aN gro))), (os, .inl (Y 0, 10, .inl (aN gsh))), (oi, .inl (Y 0, 16, .inl (aN (sgt gsi bs)))), (oe, .inl (Y 0, 5, .inl (aN gso))), (og, .inl (Y 0, 160, .inl (aN gi))), (ok8, .inl (Y 2, 2, .inl (aN gk)))] H := hP
        have hD : va_D A [(o, .inr (8, [.ref ob, .ref on, .ref ow8, .ref os, .ref oe, .int (nI sc8), .ref oi, .int (nI cn8), .ref op, .int (nI bt), .int (oI gA), .int (oI gR), .int rs8, .int (nI a8), .ref oz, .ref oc8, .ref oq, .ref om, .ref oy, .ref og, .ref ok8])), (ob, .inl (Y 0, 24, .inl (aN (bk gh4 gca4 gun4 prs4 yrs4)))), (ow8, .inl (Y 0, 10, .inl (aN gro))), (os, .inl (Y 0, 10, .inl (aN gsh))), (oi, .inl (Y 0, 16, .inl (aN (sgt gsi bs)))), (oe, .inl (Y 0, 5, .inl (aN gso))), (og, .inl (Y 0, 160, .inl (aN gi))), (ok8, .inl (Y 2, 2, .inl (aN gk)))] := hD
        refine lv_iconst (v := nI 0) hx hb dX8_restore_57 (by decide) ?_
        refine lv_istore_n (lv' := [(3, .int (nI 0)), (0, .ref o), (1, .int (nI kk)), (2, .int (nI (80 * kk)))]) hx hb dX8_restore_58 rfl hl (by decide) rfl (fun ls hl => ?_)
        exact L59 (10 - 0 + 1) 0 gro gsh (by first | assumption | omega | rfl) (fun j hj => absurd hj (Nat.not_lt_zero _)) (fun j hj => absurd hj (Nat.not_lt_zero _)) (Nat.lt_succ_self _) _ _ _ hP hD hS (lv_sub hl [0, 1, 2, 3] rfl)
      · skip
        refine lv_aload_n hx hb dX8_restore_37 rfl (lv_at hl 1 rfl) ?_
        refine va_get (D := D) (ci := 8) (v := .ref ob) (C := RX8) (T := TX8) (N := 21) hx hb hts inlX8 hown hK hP 0 rfl rfl 0 (by decide) (hts _ mw_83) (fun _ h9 => h9) rfl dX8_restore_38 ?_
        refine lv_iload_n hx hb dX8_restore_41 rfl (lv_at hl 0 rfl) ?_
        refine lv_aload_n hx hb dX8_restore_42 rfl (lv_at hl 1 rfl) ?_
        refine va_get (D := D) (ci := 8) (v := .ref og) (C := RX8) (T := TX8) (N := 21) hx hb hts inlX8 hown hK hP 0 rfl rfl 19 (by decide) (hts _ mw_96) (fun _ h9 => h9) rfl dX8_restore_43 ?_
        refine lv_iload_n hx hb dX8_restore_46 rfl (lv_at hl 3 rfl) ?_
        refine lv_iload_n hx hb dX8_restore_47 rfl (lv_at hl 0 rfl) ?_
        refine mv_iadd hx hb dX8_restore_48 ?_
        refine mv_iald hx hb hK hP 6 rfl (i := (80 * kk) + k) (by omega) (by decide) dX8_restore_49 ?_
        refine mv_iast hx hb hK hP hD hS 1 rfl (i := k) (v := gi ((80 * kk) + k)) (by omega) (by decide) dX8_restore_50 (fun H locs hP hD hS => ?_)
        have hP : va_P D vwCl [(o, .inr (8, [.ref ob, .ref on, .ref ow8, .ref os, .ref oe, .int (nI sc8), .ref oi, .int (nI cn8), .ref op, .int (nI bt), .int (oI gA), .int (oI gR), .int rs8, .int (nI a8), .ref oz, .ref oc8, .ref oq, .ref om, .ref oy, .ref og, .ref ok8])), (ob, .inl (Y 0, 24, .inl (aN (uN gz k (gi ((80 * kk) + k)))))), (ow8, .inl (Y 0, 10, .inl (aN gro))), (os, .inl (Y 0, 10, .inl (aN gsh))), (oi, .inl (Y 0, 16, .inl (aN (sgt gsi bs)))), (oe, .inl (Y 0, 5, .inl (aN gso))), (og, .inl (Y 0, 160, .inl (aN gi))), (ok8, .inl (Y 2, 2, .inl (aN gk)))] H := hP
        have hD : va_D A [(o, .inr (8, [.ref ob, .ref on, .ref ow8, .ref os, .ref oe, .int (nI sc8), .ref oi, .int (nI cn8), .ref op, .int (nI bt), .int (oI gA), .int (oI gR), .int rs8, .int (nI a8), .ref oz, .ref oc8, .ref oq, .ref om, .ref oy, .ref og, .ref ok8])), (ob, .inl (Y 0, 24, .inl (aN (uN gz k (gi ((80 * kk) + k)))))), (ow8, .inl (Y 0, 10, .inl (aN gro))), (os, .inl (Y 0, 10, .inl (aN gsh))), (oi, .inl (Y 0, 16, .inl (aN (sgt gsi bs)))), (oe, .inl (Y 0, 5, .inl (aN gso))), (og, .inl (Y 0, 160, .inl (aN gi))), (ok8, .inl (Y 2, 2, .inl (aN gk)))] := hD
        refine lv_iinc (v := nI (k + 1)) (lv' := [(3, .int (nI (k + 1))), (0, .ref o), (1, .int (nI kk)), (2, .int (nI (80 * kk)))]) hx hb dX8_restore_51 hl (k := 0) rfl (by exact nI_add _ 1) (by decide) rfl (fun ls hl => ?_)
        refine lv_goto (tgt := 31) hx hb dX8_restore_54 (by decide) ?_
        exact L31ih  (k + 1) (uN gz k (gi ((80 * kk) + k))) (by first | assumption | omega | rfl) (fun j hj => by by_cases e9 : j = k; rw [e9, uN_s]; exact i1 k (by omega); rw [uN_n _ _ e9]; exact hg j (by omega)) (by omega) _ _ _ hP hD hS (lv_sub hl [0, 1, 2, 3] rfl)
  refine lv_iload_n hx hb dX8_restore_0 rfl (lv_at hl 1 rfl) ?_
  refine lv_iconst (v := nI 0) hx hb dX8_restore_1 (by decide) ?_
  refine lv_iconst (v := nI 1) hx hb dX8_restore_2 (by decide) ?_
  refine mv_callSi (nA := 3) (As := [.int (nI kk), .int (nI 0), .int (nI 1)]) (rest := []) (Wc := []) (wr := [(o, .inr (8, [.ref ob, .ref on, .ref ow8, .ref os, .ref oe, .int (nI sc8), .ref oi, .int (nI cn8), .ref op, .int (nI bt), .int (oI gA), .int (oI gR), .int rs8, .int (nI a8), .ref oz, .ref oc8, .ref oq, .ref om, .ref oy, .ref og, .ref ok8])), (ob, .inl (Y 0, 24, .inl (aN (bk gh gca gun prs yrs)))), (ow8, .inl (Y 0, 10, .inl (aN gro))), (os, .inl (Y 0, 10, .inl (aN gsh))), (oi, .inl (Y 0, 16, .inl (aN (sgt gsi bs)))), (oe, .inl (Y 0, 5, .inl (aN gso))), (og, .inl (Y 0, 160, .inl (aN gi))), (ok8, .inl (Y 2, 2, .inl (aN gk)))]) hx hb hml hown hts hK hP hD hS hST hA hl.1 (c_X8_in l D Y _ kk 0 1 (by first | assumption | omega | rfl) (by first | assumption | omega | rfl) (by first | assumption | omega | rfl)) [] [0, 1, 2, 3, 4, 5, 6, 7] rfl rfl (by decide) (by decide) (by decide) rfl mw_121 mw_122 mw_5 mw_123 ⟨by decide, by decide, by decide +kernel⟩ rfl ⟨Nat.le_of_ble_eq_true rfl, Nat.le_of_ble_eq_true rfl⟩ rfl (Nat.le_of_ble_eq_true rfl) dX8_restore_3 ⟨Nat.le_of_ble_eq_true rfl, Nat.le_of_ble_eq_true rfl⟩ (fun r_1 ux H locs hr3 hP hD hS hz3 => ?_)
  have hP := hP.sub (ws' := [(o, .inr (8, [.ref ob, .ref on, .ref ow8, .ref os, .ref oe, .int (nI sc8), .ref oi, .int (nI cn8), .ref op, .int (nI bt), .int (oI gA), .int (oI gR), .int rs8, .int (nI a8), .ref oz, .ref oc8, .ref oq, .ref om, .ref oy, .ref og, .ref ok8])), (ob, .inl (Y 0, 24, .inl (aN (bk gh gca gun prs yrs)))), (ow8, .inl (Y 0, 10, .inl (aN gro))), (os, .inl (Y 0, 10, .inl (aN gsh))), (oi, .inl (Y 0, 16, .inl (aN (sgt gsi bs)))), (oe, .inl (Y 0, 5, .inl (aN gso))), (og, .inl (Y 0, 160, .inl (aN gi))), (ok8, .inl (Y 2, 2, .inl (aN gk)))]) [0, 1, 2, 3, 4, 5, 6, 7] rfl
  have hD := hD.sub (ws' := [(o, .inr (8, [.ref ob, .ref on, .ref ow8, .ref os, .ref oe, .int (nI sc8), .ref oi, .int (nI cn8), .ref op, .int (nI bt), .int (oI gA), .int (oI gR), .int rs8, .int (nI a8), .ref oz, .ref oc8, .ref oq, .ref om, .ref oy, .ref og, .ref ok8])), (ob, .inl (Y 0, 24, .inl (aN (bk gh gca gun prs yrs)))), (ow8, .inl (Y 0, 10, .inl (aN gro))), (os, .inl (Y 0, 10, .inl (aN gsh))), (oi, .inl (Y 0, 16, .inl (aN (sgt gsi bs)))), (oe, .inl (Y 0, 5, .inl (aN gso))), (og, .inl (Y 0, 160, .inl (aN gi))), (ok8, .inl (Y 2, 2, .inl (aN gk)))]) [0, 1, 2, 3, 4, 5, 6, 7] (by decide) rfl
  have hr3 : r_1 = nI (bN (decide (0 ≤ kk ∧ kk ≤ 1))) := hr3
  subst hr3
  refine mv_if_ne (tgt := 12) hx hb (by first | omega | exact Nat.lt_trans (bN_lt _) (by decide) | (rw [hgk]; decide)) dX8_restore_6 (by decide) (fun c6 => ?_) (fun c6 => ?_)
  · skip
    refine lv_aload_n hx hb dX8_restore_12 rfl (lv_at hl 0 rfl) ?_
    refine va_get (D := D) (ci := 8) (v := .ref ok8) (C := RX8) (T := TX8) (N := 21) hx hb hts inlX8 hown hK hP 0 rfl rfl 20 (by decide) (hts _ mw_97) (fun _ h9 => h9) rfl dX8_restore_13 ?_
    refine lv_iload_n hx hb dX8_restore_16 rfl (lv_at hl 1 rfl) ?_
    refine mv_zald hx hb hK hP 7 rfl (i := kk) (by omega) (by decide) dX8_restore_17 ?_
    refine mv_if_ne (tgt := 24) hx hb (by first | omega | exact Nat.lt_trans (bN_lt _) (by decide) | (rw [hgk]; decide)) dX8_restore_18 (by decide) (fun c18 => ?_) (fun c18 => ?_)
    · skip
      refine lv_bipush (v := nI 80) hx hb dX8_restore_24 (by decide) ?_
      refine lv_iload_n hx hb dX8_restore_26 rfl (lv_at hl 1 rfl) ?_
      refine mv_imul hx hb dX8_restore_27 ?_
      refine lv_istore_n (lv' := [(2, .int (nI (80 * kk))), (0, .ref o), (1, .int (nI kk))]) hx hb dX8_restore_28 rfl hl (by decide) rfl (fun ls hl => ?_)
      refine lv_iconst (v := nI 0) hx hb dX8_restore_29 (by decide) ?_
      refine lv_istore_n (lv' := [(3, .int (nI 0)), (2, .int (nI (80 * kk))), (0, .ref o), (1, .int (nI kk))]) hx hb dX8_restore_30 rfl hl (by decide) rfl (fun ls hl => ?_)
      exact L31 (24 - 0 + 1) 0 (bk gh gca gun prs yrs) (by first | assumption | omega | rfl) (fun j hj => absurd hj (Nat.not_lt_zero _)) (Nat.lt_succ_self _) _ _ _ hP hD hS (lv_sub hl [0, 2, 3, 1] rfl)
    · skip
      exact absurd (hgk.symm.trans (by first | exact c18 | exact Classical.not_not.mp c18)) (by decide)
  · skip
    exact absurd (bN_0.mp c6) (by rw [decide_eq_true ⟨Nat.zero_le _, hkk⟩]; decide)
