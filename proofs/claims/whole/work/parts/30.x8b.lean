abbrev q_X8_moths (D : va_G) (Y : Nat → ClassId) (o : Nat) (ob : Nat) (on : Nat) (ow8 : Nat) (os : Nat) (oe : Nat) (oi : Nat) (op : Nat) (oz : Nat) (oc8 : Nat) (oq : Nat) (om : Nat) (oy : Nat) (og : Nat) (ok8 : Nat) (sc8 : Nat) (cn8 : Nat) (bt : Nat) (a8 : Nat) (rs8 : Int32) (gA : Option Nat) (gR : Option Nat) (gh : Nat → Nat) (gca : Nat → Nat) (gun : Nat → Nat) (prs : Nat) (yrs : Nat) (gro : Nat → Nat) (gsh : Nat → Nat) : (Nat → Prop) → Array Value → State → Outcome → State → Prop := mv_Qi D Y (fun (r : Int32) (ux : (Nat → Nat) × Nat) => (r, ux.1, ux.2) = if prs = 0 then (nI 5, gh, bt) else (nI 0, (moS gro gsh gun gca prs gh bt 10).1, (moS gro gsh gun gca prs gh bt 10).2)) (fun ux : (Nat → Nat) × Nat => ([(o, .inr (8, [.ref ob, .ref on, .ref ow8, .ref os, .ref oe, .int (nI sc8), .ref oi, .int (nI cn8), .ref op, .int (nI ux.2), .int (oI gA), .int (oI gR), .int rs8, .int (nI a8), .ref oz, .ref oc8, .ref oq, .ref om, .ref oy, .ref og, .ref ok8])), (on, .inl (Y 0, 24, .inl (aN (bk ux.1 gca gun prs yrs)))), (ow8, .inl (Y 0, 10, .inl (aN gro))), (os, .inl (Y 0, 10, .inl (aN gsh)))] : va_W))
set_option maxHeartbeats 8000000 in
set_option maxRecDepth 100000 in
theorem c_X8_moths (l : Launch) (D : va_G) (Y : Nat → ClassId) (sz : Nat) (o : Nat) (ob : Nat) (on : Nat) (ow8 : Nat) (os : Nat) (oe : Nat) (oi : Nat) (op : Nat) (oz : Nat) (oc8 : Nat) (oq : Nat) (om : Nat) (oy : Nat) (og : Nat) (ok8 : Nat) (sc8 : Nat) (cn8 : Nat) (bt : Nat) (a8 : Nat) (rs8 : Int32) (gA : Option Nat) (gR : Option Nat) (gh : Nat → Nat) (gca : Nat → Nat) (gun : Nat → Nat) (prs : Nat) (yrs : Nat) (gro : Nat → Nat) (gsh : Nat → Nat) (hro : ∀ k, k < 10 → gro k < 6) (hsh : ∀ k, k < 10 → gsh k < 65536) (hp : prs < 64) (hy : yrs ≤ 99) (hh : ∀ k, k < 6 → gh k < 65536) (hc : ∀ k, k < 6 → gca k ≤ 9) (hu : ∀ k, k < 10 → gun k ≤ 9) : mv_C l D Y yX8_moths cX8_moths 5 (some .int) 1 0 0 [.ref o] sz [(o, .inr (8, [.ref ob, .ref on, .ref ow8, .ref os, .ref oe, .int (nI sc8), .ref oi, .int (nI cn8), .ref op, .int (nI bt), .int (oI gA), .int (oI gR), .int rs8, .int (nI a8), .ref oz, .ref oc8, .ref oq, .ref om, .ref oy, .ref og, .ref ok8])), (on, .inl (Y 0, 24, .inl (aN (bk gh gca gun prs yrs)))), (ow8, .inl (Y 0, 10, .inl (aN gro))), (os, .inl (Y 0, 10, .inl (aN gsh)))] (q_X8_moths D Y o ob on ow8 os oe oi op oz oc8 oq om oy og ok8 sc8 cn8 bt a8 rs8 gA gR gh gca gun prs yrs gro gsh) := by
  refine mv_ofW (by decide) (Nat.le_of_ble_eq_true rfl) ?_
  intro p e s m below meth c ls A hx hb hr hlocks hml hnm hown hts hsz hAe hP hK hD hS hST hA hl
  have hl : lv_has ls 5 [(0, .ref o)] := hl
  have L14 : ∀ (fu : Nat) (k : Nat) (gz : Nat → Nat) (ez : Nat) (hk : k ≤ 10) (hp0 : prs ≠ 0) (hg : gz = (moS gro gsh gun gca prs gh bt k).1) (hez : ez = (moS gro gsh gun gca prs gh bt k).2) (hmeas : 10 - k < fu) (H : Heap) (locs : List Loc) (ls : Array Slot), va_P D vwCl [(o, .inr (8, [.ref ob, .ref on, .ref ow8, .ref os, .ref oe, .int (nI sc8), .ref oi, .int (nI cn8), .ref op, .int (nI ez), .int (oI gA), .int (oI gR), .int rs8, .int (nI a8), .ref oz, .ref oc8, .ref oq, .ref om, .ref oy, .ref og, .ref ok8])), (on, .inl (Y 0, 24, .inl (aN (bk gz gca gun prs yrs)))), (ow8, .inl (Y 0, 10, .inl (aN gro))), (os, .inl (Y 0, 10, .inl (aN gsh)))] H → va_D A [(o, .inr (8, [.ref ob, .ref on, .ref ow8, .ref os, .ref oe, .int (nI sc8), .ref oi, .int (nI cn8), .ref op, .int (nI ez), .int (oI gA), .int (oI gR), .int rs8, .int (nI a8), .ref oz, .ref oc8, .ref oq, .ref om, .ref oy, .ref og, .ref ok8])), (on, .inl (Y 0, 24, .inl (aN (bk gz gca gun prs yrs)))), (ow8, .inl (Y 0, 10, .inl (aN gro))), (os, .inl (Y 0, 10, .inl (aN gsh)))] → va_S A s.heap H locs → lv_has ls 5 [(1, .int (nI k)), (0, .ref o)] → W p l e (mv_R 1 0 0) s m [.ref o].toArray below meth c H locs 0 0 (MQ below ((q_X8_moths D Y o ob on ow8 os oe oi op oz oc8 oq om oy og ok8 sc8 cn8 bt a8 rs8 gA gR gh gca gun prs yrs gro gsh) A) [.ref o].toArray s 0 0 A) (F0 m 14 ls []) := by
    intro fu
    induction fu with
    | zero =>
      intro k gz ez hk hp0 hg hez hmeas
      exact absurd hmeas (Nat.not_lt_zero _)
    | succ fu L14ih =>
      intro k gz ez hk hp0 hg hez hmeas H locs ls hP hD hS hl
      have hgz : ∀ j, j < 6 → gz j < 65536 := by rw [hg]; exact moS_bd hro hh k hk
      have L64 : ∀ (u9 : Nat) (c9 : Nat) (hu9 : u9 ≤ 9) (hc9 : c9 ≤ 9) (hl9 : u9 - c9 = if prs / 2 ^ gro k % 2 = 1 then gun k - gca (gro k) else 0) (hk2 : k < 10) (H : Heap) (locs : List Loc) (ls : Array Slot), va_P D vwCl [(o, .inr (8, [.ref ob, .ref on, .ref ow8, .ref os, .ref oe, .int (nI sc8), .ref oi, .int (nI cn8), .ref op, .int (nI ez), .int (oI gA), .int (oI gR), .int rs8, .int (nI a8), .ref oz, .ref oc8, .ref oq, .ref om, .ref oy, .ref og, .ref ok8])), (on, .inl (Y 0, 24, .inl (aN (bk gz gca gun prs yrs)))), (ow8, .inl (Y 0, 10, .inl (aN gro))), (os, .inl (Y 0, 10, .inl (aN gsh)))] H → va_D A [(o, .inr (8, [.ref ob, .ref on, .ref ow8, .ref os, .ref oe, .int (nI sc8), .ref oi, .int (nI cn8), .ref op, .int (nI ez), .int (oI gA), .int (oI gR), .int rs8, .int (nI a8), .ref oz, .ref oc8, .ref oq, .ref om, .ref oy, .ref og, .ref ok8])), (on, .inl (Y 0, 24, .inl (aN (bk gz gca gun prs yrs)))), (ow8, .inl (Y 0, 10, .inl (aN gro))), (os, .inl (Y 0, 10, .inl (aN gsh)))] → va_S A s.heap H locs → lv_has ls 5 [(0, .ref o), (1, .int (nI k)), (2, .int (nI (gro k)))] → W p l e (mv_R 1 0 0) s m [.ref o].toArray below meth c H locs 0 0 (MQ below ((q_X8_moths D Y o ob on ow8 os oe oi op oz oc8 oq om oy og ok8 sc8 cn8 bt a8 rs8 gA gR gh gca gun prs yrs gro gsh) A) [.ref o].toArray s 0 0 A) (F0 m 64 ls [.int (nI u9 - nI c9)]) := by
        intro u9 c9 hu9 hc9 hl9 hk2 H locs ls hP hD hS hl
        have hr6 := hro k hk2
        have hs6 := hsh k hk2
        have L68 : ∀ (fu : Nat) (cl : Nat) (uu : Nat) (gy : Nat → Nat) (e2 : Nat) (hcc : cl ≤ 16) (huu : uu ≤ 9) (h1 : (eaS (gsh k) (gz (gro k)) (u9 - c9) cl).2.1 = uu - c9) (h2 : gy = uN gz (gro k) (eaS (gsh k) (gz (gro k)) (u9 - c9) cl).1) (h3 : e2 = ez + (eaS (gsh k) (gz (gro k)) (u9 - c9) cl).2.2) (hmeas : 16 - cl < fu) (H : Heap) (locs : List Loc) (ls : Array Slot), va_P D vwCl [(o, .inr (8, [.ref ob, .ref on, .ref ow8, .ref os, .ref oe, .int (nI sc8), .ref oi, .int (nI cn8), .ref op, .int (nI e2), .int (oI gA), .int (oI gR), .int rs8, .int (nI a8), .ref oz, .ref oc8, .ref oq, .ref om, .ref oy, .ref og, .ref ok8])), (on, .inl (Y 0, 24, .inl (aN (bk gy gca gun prs yrs)))), (ow8, .inl (Y 0, 10, .inl (aN gro))), (os, .inl (Y 0, 10, .inl (aN gsh)))] H → va_D A [(o, .inr (8, [.ref ob, .ref on, .ref ow8, .ref os, .ref oe, .int (nI sc8), .ref oi, .int (nI cn8), .ref op, .int (nI e2), .int (oI gA), .int (oI gR), .int rs8, .int (nI a8), .ref oz, .ref oc8, .ref oq, .ref om, .ref oy, .ref og, .ref ok8])), (on, .inl (Y 0, 24, .inl (aN (bk gy gca gun prs yrs)))), (ow8, .inl (Y 0, 10, .inl (aN gro))), (os, .inl (Y 0, 10, .inl (aN gsh)))] → va_S A s.heap H locs → lv_has ls 5 [(4, .int (nI cl)), (3, .int (nI uu - nI c9)), (0, .ref o), (1, .int (nI k)), (2, .int (nI (gro k)))] → W p l e (mv_R 1 0 0) s m [.ref o].toArray below meth c H locs 0 0 (MQ below ((q_X8_moths D Y o ob on ow8 os oe oi op oz oc8 oq om oy og ok8 sc8 cn8 bt a8 rs8 gA gR gh gca gun prs yrs gro gsh) A) [.ref o].toArray s 0 0 A) (F0 m 68 ls []) := by
          intro fu
          induction fu with
          | zero =>
            intro cl uu gy e2 hcc huu h1 h2 h3 hmeas
            exact absurd hmeas (Nat.not_lt_zero _)
          | succ fu L68ih =>
            intro cl uu gy e2 hcc huu h1 h2 h3 hmeas H locs ls hP hD hS hl
            have hea := eaS_bd (sh := gsh k) (n := u9 - c9) cl (hgz _ hr6) hcc
            have hgy : gy (gro k) = (eaS (gsh k) (gz (gro k)) (u9 - c9) cl).1 := by rw [h2, uN_s]
            refine lv_iload hx hb dX8_moths_68 (lv_at hl 0 rfl) ?_
            refine lv_bipush (v := nI 16) hx hb dX8_moths_70 (by decide) ?_
            refine mv_icmp_ge (tgt := 134) hx hb (by first | omega | exact Nat.lt_trans (Nat.mod_lt _ (by decide)) (by decide)) (by omega) dX8_moths_72 (by decide) (fun c72 => ?_) (fun c72 => ?_)
            · skip
              have ht9 := mo_turn hg hez hl9 h2 h3 (mo_end hcc (Or.inl (by omega)))
              refine lv_iinc (v := nI (k + 1)) (lv' := [(1, .int (nI (k + 1))), (4, .int (nI cl)), (3, .int (nI uu - nI c9)), (0, .ref o), (2, .int (nI (gro k)))]) hx hb dX8_moths_134 hl (k := 3) rfl (by exact nI_add _ 1) (by decide) rfl (fun ls hl => ?_)
              refine lv_goto (tgt := 14) hx hb dX8_moths_137 (by decide) ?_
              exact L14ih  (k + 1) gy e2 (by first | assumption | omega | rfl) (by first | assumption | omega | rfl) (ht9.1) (ht9.2) (by omega) _ _ _ hP hD hS (lv_sub hl [0, 3] rfl)
            · skip
              refine lv_iload_n hx hb dX8_moths_75 rfl (lv_at hl 1 rfl) ?_
              refine lv_if_le (tgt := 134) hx hb dX8_moths_76 (by decide) (fun c76 => ?_) (fun c76 => ?_)
              · skip
                have ht9 := mo_turn hg hez hl9 h2 h3 (mo_end hcc (Or.inr (by have := (mv_sble (b := 0) (by omega) (by omega) (by omega)).mp c76; omega)))
                refine lv_iinc (v := nI (k + 1)) (lv' := [(1, .int (nI (k + 1))), (4, .int (nI cl)), (3, .int (nI uu - nI c9)), (0, .ref o), (2, .int (nI (gro k)))]) hx hb dX8_moths_134 hl (k := 3) rfl (by exact nI_add _ 1) (by decide) rfl (fun ls hl => ?_)
                refine lv_goto (tgt := 14) hx hb dX8_moths_137 (by decide) ?_
                exact L14ih  (k + 1) gy e2 (by first | assumption | omega | rfl) (by first | assumption | omega | rfl) (ht9.1) (ht9.2) (by omega) _ _ _ hP hD hS (lv_sub hl [0, 3] rfl)
              · skip
                have hlf : ¬ uu - c9 ≤ 0 := fun q => c76 ((mv_sble (b := 0) (by omega) (by omega) (by omega)).mpr q)
                have hsl : gsh k &&& (gy (gro k) ^^^ 4294967295) < 65536 := Nat.lt_of_le_of_lt Nat.and_le_left hs6
                refine lv_aload_n hx hb dX8_moths_79 rfl (lv_at hl 2 rfl) ?_
                refine va_get (D := D) (ci := 8) (v := .ref os) (C := RX8) (T := TX8) (N := 21) hx hb hts inlX8 hown hK hP 0 rfl rfl 3 (by decide) (hts _ mw_86) (fun _ h9 => h9) rfl dX8_moths_80 ?_
                refine lv_iload_n hx hb dX8_moths_83 rfl (lv_at hl 3 rfl) ?_
                refine mv_iald hx hb hK hP 3 rfl (i := k) (by omega) (by decide) dX8_moths_84 ?_
                refine lv_aload_n hx hb dX8_moths_85 rfl (lv_at hl 2 rfl) ?_
                refine va_get (D := D) (ci := 8) (v := .ref on) (C := RX8) (T := TX8) (N := 21) hx hb hts inlX8 hown hK hP 0 rfl rfl 1 (by decide) (hts _ mw_84) (fun _ h9 => h9) rfl dX8_moths_86 ?_
                refine lv_iload_n hx hb dX8_moths_89 rfl (lv_at hl 4 rfl) ?_
                refine mv_iald hx hb hK hP 1 rfl (i := gro k) (by omega) (by decide) dX8_moths_90 ?_
                rw [show (bk gy gca gun prs yrs) (gro k) = gy (gro k) from bk_h (by first | omega | exact hro k (by omega))]
                refine lv_iconst (v := nI 4294967295) hx hb dX8_moths_91 (by decide) ?_
                refine mv_ixor hx hb dX8_moths_92 ?_
                refine mv_iand hx hb dX8_moths_93 ?_
                refine lv_iload hx hb dX8_moths_94 (lv_at hl 0 rfl) ?_
                refine mv_callSi (nA := 2) (As := [.int (nI ((gsh k) &&& ((gy (gro k)) ^^^ 4294967295))), .int (nI cl)]) (rest := []) (Wc := []) (wr := [(o, .inr (8, [.ref ob, .ref on, .ref ow8, .ref os, .ref oe, .int (nI sc8), .ref oi, .int (nI cn8), .ref op, .int (nI e2), .int (oI gA), .int (oI gR), .int rs8, .int (nI a8), .ref oz, .ref oc8, .ref oq, .ref om, .ref oy, .ref og, .ref ok8])), (on, .inl (Y 0, 24, .inl (aN (bk gy gca gun prs yrs)))), (ow8, .inl (Y 0, 10, .inl (aN gro))), (os, .inl (Y 0, 10, .inl (aN gsh)))]) hx hb hml hown hts hK hP hD hS hST hA hl.1 (c_X8_has l D Y _ ((gsh k) &&& ((gy (gro k)) ^^^ 4294967295)) cl (by first | assumption | omega | rfl) (by first | assumption | omega | rfl)) [] [0, 1, 2, 3] rfl rfl (by decide) (by decide) (by decide) rfl mw_334 mw_335 mw_5 mw_336 ⟨by decide, by decide, by decide +kernel⟩ rfl ⟨Nat.le_of_ble_eq_true rfl, Nat.le_of_ble_eq_true rfl⟩ rfl (Nat.le_of_ble_eq_true rfl) dX8_moths_96 ⟨Nat.le_of_ble_eq_true rfl, Nat.le_of_ble_eq_true rfl⟩ (fun r_1 ux H locs hr96 hP hD hS hz96 => ?_)
                have hP := hP.sub (ws' := [(o, .inr (8, [.ref ob, .ref on, .ref ow8, .ref os, .ref oe, .int (nI sc8), .ref oi, .int (nI cn8), .ref op, .int (nI e2), .int (oI gA), .int (oI gR), .int rs8, .int (nI a8), .ref oz, .ref oc8, .ref oq, .ref om, .ref oy, .ref og, .ref ok8])), (on, .inl (Y 0, 24, .inl (aN (bk gy gca gun prs yrs)))), (ow8, .inl (Y 0, 10, .inl (aN gro))), (os, .inl (Y 0, 10, .inl (aN gsh)))]) [0, 1, 2, 3] rfl
                have hD := hD.sub (ws' := [(o, .inr (8, [.ref ob, .ref on, .ref ow8, .ref os, .ref oe, .int (nI sc8), .ref oi, .int (nI cn8), .ref op, .int (nI e2), .int (oI gA), .int (oI gR), .int rs8, .int (nI a8), .ref oz, .ref oc8, .ref oq, .ref om, .ref oy, .ref og, .ref ok8])), (on, .inl (Y 0, 24, .inl (aN (bk gy gca gun prs yrs)))), (ow8, .inl (Y 0, 10, .inl (aN gro))), (os, .inl (Y 0, 10, .inl (aN gsh)))]) [0, 1, 2, 3] (by decide) rfl
                have hr96 : r_1 = nI (((gsh k) &&& ((gy (gro k)) ^^^ 4294967295)) / 2 ^ cl % 2) := hr96
                subst hr96
                refine mv_if_eq (tgt := 128) hx hb (by first | omega | exact Nat.lt_trans (Nat.mod_lt _ (by decide)) (by decide)) dX8_moths_99 (by decide) (fun c99 => ?_) (fun c99 => ?_)
                · skip
                  have hst : eaS (gsh k) (gz (gro k)) (u9 - c9) (cl + 1) = (eaS (gsh k) (gz (gro k)) (u9 - c9) cl) := by rw [eaS_s, if_neg]; rintro ⟨-, q⟩; rw [← hgy] at q; omega
                  refine lv_iinc (v := nI (cl + 1)) (lv' := [(4, .int (nI (cl + 1))), (3, .int (nI uu - nI c9)), (0, .ref o), (1, .int (nI k)), (2, .int (nI (gro k)))]) hx hb dX8_moths_128 hl (k := 0) rfl (by exact nI_add _ 1) (by decide) rfl (fun ls hl => ?_)
                  refine lv_goto (tgt := 68) hx hb dX8_moths_131 (by decide) ?_
                  exact L68ih  (cl + 1) uu gy e2 (by first | assumption | omega | rfl) (by first | assumption | omega | rfl) (by rw [hst]; exact h1) (by rw [hst]; exact h2) (by rw [hst]; exact h3) (by omega) _ _ _ hP hD hS (lv_sub hl [0, 1, 2, 3, 4] rfl)
                · skip
                  refine lv_aload_n hx hb dX8_moths_102 rfl (lv_at hl 2 rfl) ?_
                  refine va_get (D := D) (ci := 8) (v := .ref on) (C := RX8) (T := TX8) (N := 21) hx hb hts inlX8 hown hK hP 0 rfl rfl 1 (by decide) (hts _ mw_84) (fun _ h9 => h9) rfl dX8_moths_103 ?_
                  refine lv_iload_n hx hb dX8_moths_106 rfl (lv_at hl 4 rfl) ?_
                  refine lv_dup2_11 hx hb dX8_moths_107 rfl rfl ?_
                  refine mv_iald hx hb hK hP 1 rfl (i := gro k) (by omega) (by decide) dX8_moths_108 ?_
                  rw [show (bk gy gca gun prs yrs) (gro k) = gy (gro k) from bk_h (by first | omega | exact hro k (by omega))]
                  refine lv_iconst (v := nI 1) hx hb dX8_moths_109 (by decide) ?_
                  refine lv_iload hx hb dX8_moths_110 (lv_at hl 0 rfl) ?_
                  refine mv_ishl hx hb (by omega) dX8_moths_112 ?_
                  refine mv_ior hx hb dX8_moths_113 ?_
                  refine mv_iast hx hb hK hP hD hS 1 rfl (i := gro k) (v := (gy (gro k)) ||| (1 * 2 ^ cl)) (by omega) (by decide) dX8_moths_114 (fun H locs hP hD hS => ?_)
                  have hP : va_P D vwCl [(o, .inr (8, [.ref ob, .ref on, .ref ow8, .ref os, .ref oe, .int (nI sc8), .ref oi, .int (nI cn8), .ref op, .int (nI e2), .int (oI gA), .int (oI gR), .int rs8, .int (nI a8), .ref oz, .ref oc8, .ref oq, .ref om, .ref oy, .ref og, .ref ok8])), (on, .inl (Y 0, 24, .inl (aN (uN (bk gy gca gun prs yrs) (gro k) ((gy (gro k)) ||| (1 * 2 ^ cl)))))), (ow8, .inl (Y 0, 10, .inl (aN gro))), (os, .inl (Y 0, 10, .inl (aN gsh)))] H := hP
                  have hD : va_D A [(o, .inr (8, [.ref ob, .ref on, .ref ow8, .ref os, .ref oe, .int (nI sc8), .ref oi, .int (nI cn8), .ref op, .int (nI e2), .int (oI gA), .int (oI gR), .int rs8, .int (nI a8), .ref oz, .ref oc8, .ref oq, .ref om, .ref oy, .ref og, .ref ok8])), (on, .inl (Y 0, 24, .inl (aN (uN (bk gy gca gun prs yrs) (gro k) ((gy (gro k)) ||| (1 * 2 ^ cl)))))), (ow8, .inl (Y 0, 10, .inl (aN gro))), (os, .inl (Y 0, 10, .inl (aN gsh)))] := hD
                  rw [show uN (bk gy gca gun prs yrs) (gro k) ((gy (gro k)) ||| (1 * 2 ^ cl)) = bk (uN gy (gro k) ((gy (gro k)) ||| (1 * 2 ^ cl))) gca gun prs yrs from uN_bk_h (by first | omega | exact hro k (by omega))] at hP hD
                  refine lv_aload_n hx hb dX8_moths_115 rfl (lv_at hl 2 rfl) ?_
                  refine lv_dup hx hb dX8_moths_116 rfl ?_
                  refine va_get (D := D) (ci := 8) (v := .int (nI e2)) (C := RX8) (T := TX8) (N := 21) hx hb hts inlX8 hown hK hP 0 rfl rfl 9 (by decide) (hts _ mw_321) (fun _ h9 => h9) rfl dX8_moths_117 ?_
                  refine lv_iconst (v := nI 1) hx hb dX8_moths_120 (by decide) ?_
                  refine mv_iadd hx hb dX8_moths_121 ?_
                  refine va_put (D := D) (ci := 8) (v := .int (nI (e2 + 1))) (ty := .int) (C := RX8) (T := TX8) (N := 21) hx hb hts inlX8 tyX8 tyX8_ok nmX8 hown hK hP hD hS 0 rfl rfl 9 (by decide) (hts _ mw_321) (fun _ h9 => h9) rfl (by decide +kernel) rfl rfl (Nat.le_of_ble_eq_true rfl) dX8_moths_122 (fun H locs hP hD hS => ?_)
                  have hP : va_P D vwCl [(o, .inr (8, [.ref ob, .ref on, .ref ow8, .ref os, .ref oe, .int (nI sc8), .ref oi, .int (nI cn8), .ref op, .int (nI (e2 + 1)), .int (oI gA), .int (oI gR), .int rs8, .int (nI a8), .ref oz, .ref oc8, .ref oq, .ref om, .ref oy, .ref og, .ref ok8])), (on, .inl (Y 0, 24, .inl (aN (bk (uN gy (gro k) ((gy (gro k)) ||| (1 * 2 ^ cl))) gca gun prs yrs)))), (ow8, .inl (Y 0, 10, .inl (aN gro))), (os, .inl (Y 0, 10, .inl (aN gsh)))] H := hP
                  have hD : va_D A [(o, .inr (8, [.ref ob, .ref on, .ref ow8, .ref os, .ref oe, .int (nI sc8), .ref oi, .int (nI cn8), .ref op, .int (nI (e2 + 1)), .int (oI gA), .int (oI gR), .int rs8, .int (nI a8), .ref oz, .ref oc8, .ref oq, .ref om, .ref oy, .ref og, .ref ok8])), (on, .inl (Y 0, 24, .inl (aN (bk (uN gy (gro k) ((gy (gro k)) ||| (1 * 2 ^ cl))) gca gun prs yrs)))), (ow8, .inl (Y 0, 10, .inl (aN gro))), (os, .inl (Y 0, 10, .inl (aN gsh)))] := hD
                  have hst : eaS (gsh k) (gz (gro k)) (u9 - c9) (cl + 1) = ((eaS (gsh k) (gz (gro k)) (u9 - c9) cl).1 ||| 1 * 2 ^ cl, (eaS (gsh k) (gz (gro k)) (u9 - c9) cl).2.1 - 1, (eaS (gsh k) (gz (gro k)) (u9 - c9) cl).2.2 + 1) := by rw [eaS_s, if_pos ⟨by omega, by rw [← hgy]; omega⟩]
                  refine lv_iinc (v := nI (uu - 1) - nI c9) (lv' := [(3, .int (nI (uu - 1) - nI c9)), (4, .int (nI cl)), (0, .ref o), (1, .int (nI k)), (2, .int (nI (gro k)))]) hx hb dX8_moths_125 hl (k := 1) rfl (dec_subc _ _ (by omega)) (by decide) rfl (fun ls hl => ?_)
                  refine lv_iinc (v := nI (cl + 1)) (lv' := [(4, .int (nI (cl + 1))), (3, .int (nI (uu - 1) - nI c9)), (0, .ref o), (1, .int (nI k)), (2, .int (nI (gro k)))]) hx hb dX8_moths_128 hl (k := 1) rfl (by exact nI_add _ 1) (by decide) rfl (fun ls hl => ?_)
                  refine lv_goto (tgt := 68) hx hb dX8_moths_131 (by decide) ?_
                  exact L68ih  (cl + 1) (uu - 1) (uN gy (gro k) ((gy (gro k)) ||| (1 * 2 ^ cl))) (e2 + 1) (by first | assumption | omega | rfl) (by first | assumption | omega | rfl) (by rw [hst]; dsimp only; omega) (by rw [hst, h2, uN_uN, uN_s]) (by rw [hst, h3]; rfl) (by omega) _ _ _ hP hD hS (lv_sub hl [0, 1, 2, 3, 4] rfl)
        refine lv_istore_n (lv' := [(3, .int (nI u9 - nI c9)), (0, .ref o), (1, .int (nI k)), (2, .int (nI (gro k)))]) hx hb dX8_moths_64 rfl hl (by decide) rfl (fun ls hl => ?_)
        refine lv_iconst (v := nI 0) hx hb dX8_moths_65 (by decide) ?_
        refine lv_istore (lv' := [(4, .int (nI 0)), (3, .int (nI u9 - nI c9)), (0, .ref o), (1, .int (nI k)), (2, .int (nI (gro k)))]) hx hb dX8_moths_66 hl (by decide) rfl (fun ls hl => ?_)
        exact L68 (16 - 0 + 1) 0 u9 gz ez (by first | assumption | omega | rfl) (by first | assumption | omega | rfl) (rfl) ((uN_id _ _).symm) (rfl) (Nat.lt_succ_self _) _ _ _ hP hD hS (lv_sub hl [0, 1, 2, 3, 4] rfl)
      refine lv_iload_n hx hb dX8_moths_14 rfl (lv_at hl 0 rfl) ?_
      refine lv_bipush (v := nI 10) hx hb dX8_moths_15 (by decide) ?_
      refine mv_icmp_ge (tgt := 140) hx hb (by first | omega | exact Nat.lt_trans (Nat.mod_lt _ (by decide)) (by decide)) (by omega) dX8_moths_17 (by decide) (fun c17 => ?_) (fun c17 => ?_)
      · skip
        refine lv_iconst (v := nI 0) hx hb dX8_moths_140 (by decide) ?_
        exact mv_iret hx hb hr hlocks (gz, ez) (by rw [if_neg hp0, hg, hez, show k = 10 by omega]) hP hK hD hS dX8_moths_141
      · skip
        have hr6 := hro k (by omega)
        refine lv_aload_n hx hb dX8_moths_20 rfl (lv_at hl 1 rfl) ?_
        refine va_get (D := D) (ci := 8) (v := .ref ow8) (C := RX8) (T := TX8) (N := 21) hx hb hts inlX8 hown hK hP 0 rfl rfl 2 (by decide) (hts _ mw_85) (fun _ h9 => h9) rfl dX8_moths_21 ?_
        refine lv_iload_n hx hb dX8_moths_24 rfl (lv_at hl 0 rfl) ?_
        refine mv_iald hx hb hK hP 2 rfl (i := k) (by omega) (by decide) dX8_moths_25 ?_
        refine lv_istore_n (lv' := [(2, .int (nI (gro k))), (1, .int (nI k)), (0, .ref o)]) hx hb dX8_moths_26 rfl hl (by decide) rfl (fun ls hl => ?_)
        refine lv_aload_n hx hb dX8_moths_27 rfl (lv_at hl 2 rfl) ?_
        refine va_get (D := D) (ci := 8) (v := .ref on) (C := RX8) (T := TX8) (N := 21) hx hb hts inlX8 hown hK hP 0 rfl rfl 1 (by decide) (hts _ mw_84) (fun _ h9 => h9) rfl dX8_moths_28 ?_
        refine lv_bipush (v := nI 22) hx hb dX8_moths_31 (by decide) ?_
        refine mv_iald hx hb hK hP 1 rfl (i := 22) (by omega) (by decide) dX8_moths_33 ?_
        rw [show (bk gz gca gun prs yrs) 22 = prs from bk_p]
        refine lv_iload_n hx hb dX8_moths_34 rfl (lv_at hl 0 rfl) ?_
        refine mv_callSi (nA := 2) (As := [.int (nI prs), .int (nI (gro k))]) (rest := []) (Wc := []) (wr := [(o, .inr (8, [.ref ob, .ref on, .ref ow8, .ref os, .ref oe, .int (nI sc8), .ref oi, .int (nI cn8), .ref op, .int (nI ez), .int (oI gA), .int (oI gR), .int rs8, .int (nI a8), .ref oz, .ref oc8, .ref oq, .ref om, .ref oy, .ref og, .ref ok8])), (on, .inl (Y 0, 24, .inl (aN (bk gz gca gun prs yrs)))), (ow8, .inl (Y 0, 10, .inl (aN gro))), (os, .inl (Y 0, 10, .inl (aN gsh)))]) hx hb hml hown hts hK hP hD hS hST hA hl.1 (c_X8_has l D Y _ prs (gro k) (by first | assumption | omega | rfl) (Nat.lt_trans hr6 (by decide))) [] [0, 1, 2, 3] rfl rfl (by decide) (by decide) (by decide) rfl mw_334 mw_335 mw_5 mw_336 ⟨by decide, by decide, by decide +kernel⟩ rfl ⟨Nat.le_of_ble_eq_true rfl, Nat.le_of_ble_eq_true rfl⟩ rfl (Nat.le_of_ble_eq_true rfl) dX8_moths_35 ⟨Nat.le_of_ble_eq_true rfl, Nat.le_of_ble_eq_true rfl⟩ (fun r_2 ux H locs hr35 hP hD hS hz35 => ?_)
        have hP := hP.sub (ws' := [(o, .inr (8, [.ref ob, .ref on, .ref ow8, .ref os, .ref oe, .int (nI sc8), .ref oi, .int (nI cn8), .ref op, .int (nI ez), .int (oI gA), .int (oI gR), .int rs8, .int (nI a8), .ref oz, .ref oc8, .ref oq, .ref om, .ref oy, .ref og, .ref ok8])), (on, .inl (Y 0, 24, .inl (aN (bk gz gca gun prs yrs)))), (ow8, .inl (Y 0, 10, .inl (aN gro))), (os, .inl (Y 0, 10, .inl (aN gsh)))]) [0, 1, 2, 3] rfl
        have hD := hD.sub (ws' := [(o, .inr (8, [.ref ob, .ref on, .ref ow8, .ref os, .ref oe, .int (nI sc8), .ref oi, .int (nI cn8), .ref op, .int (nI ez), .int (oI gA), .int (oI gR), .int rs8, .int (nI a8), .ref oz, .ref oc8, .ref oq, .ref om, .ref oy, .ref og, .ref ok8])), (on, .inl (Y 0, 24, .inl (aN (bk gz gca gun prs yrs)))), (ow8, .inl (Y 0, 10, .inl (aN gro))), (os, .inl (Y 0, 10, .inl (aN gsh)))]) [0, 1, 2, 3] (by decide) rfl
        have hr35 : r_2 = nI (prs / 2 ^ (gro k) % 2) := hr35
        subst hr35
        refine mv_if_eq (tgt := 63) hx hb (by first | omega | exact Nat.lt_trans (Nat.mod_lt _ (by decide)) (by decide)) dX8_moths_38 (by decide) (fun c38 => ?_) (fun c38 => ?_)
        · skip
          refine lv_iconst (v := nI 0) hx hb dX8_moths_63 (by decide) ?_
          exact L64  0 0 (by first | assumption | omega | rfl) (by first | assumption | omega | rfl) (by rw [if_neg (by omega)]) (by first | assumption | omega | rfl) _ _ _ hP hD hS (lv_sub hl [2, 1, 0] rfl)
        · skip
          refine lv_aload_n hx hb dX8_moths_41 rfl (lv_at hl 2 rfl) ?_
          refine va_get (D := D) (ci := 8) (v := .ref on) (C := RX8) (T := TX8) (N := 21) hx hb hts inlX8 hown hK hP 0 rfl rfl 1 (by decide) (hts _ mw_84) (fun _ h9 => h9) rfl dX8_moths_42 ?_
          refine lv_bipush (v := nI 12) hx hb dX8_moths_45 (by decide) ?_
          refine lv_iload_n hx hb dX8_moths_47 rfl (lv_at hl 1 rfl) ?_
          refine mv_iadd hx hb dX8_moths_48 ?_
          refine mv_iald hx hb hK hP 1 rfl (i := 12 + k) (by omega) (by decide) dX8_moths_49 ?_
          rw [show (bk gz gca gun prs yrs) (12 + k) = gun k from bk_u (by first | omega | exact hro k (by omega))]
          refine lv_aload_n hx hb dX8_moths_50 rfl (lv_at hl 2 rfl) ?_
          refine va_get (D := D) (ci := 8) (v := .ref on) (C := RX8) (T := TX8) (N := 21) hx hb hts inlX8 hown hK hP 0 rfl rfl 1 (by decide) (hts _ mw_84) (fun _ h9 => h9) rfl dX8_moths_51 ?_
          refine lv_bipush (v := nI 6) hx hb dX8_moths_54 (by decide) ?_
          refine lv_iload_n hx hb dX8_moths_56 rfl (lv_at hl 0 rfl) ?_
          refine mv_iadd hx hb dX8_moths_57 ?_
          refine mv_iald hx hb hK hP 1 rfl (i := 6 + (gro k)) (by omega) (by decide) dX8_moths_58 ?_
          rw [show (bk gz gca gun prs yrs) (6 + (gro k)) = gca (gro k) from bk_c (by first | omega | exact hro k (by omega))]
          refine lv_isub hx hb dX8_moths_59 ?_
          refine lv_goto (tgt := 64) hx hb dX8_moths_60 (by decide) ?_
          exact L64  (gun k) (gca (gro k)) (hu k (by omega)) (hc _ (hro k (by omega))) (by rw [if_pos (by omega)]) (by first | assumption | omega | rfl) _ _ _ hP hD hS (lv_sub hl [2, 1, 0] rfl)
  refine lv_aload_n hx hb dX8_moths_0 rfl (lv_at hl 0 rfl) ?_
  refine va_get (D := D) (ci := 8) (v := .ref on) (C := RX8) (T := TX8) (N := 21) hx hb hts inlX8 hown hK hP 0 rfl rfl 1 (by decide) (hts _ mw_84) (fun _ h9 => h9) rfl dX8_moths_1 ?_
  refine lv_bipush (v := nI 22) hx hb dX8_moths_4 (by decide) ?_
  refine mv_iald hx hb hK hP 1 rfl (i := 22) (by omega) (by decide) dX8_moths_6 ?_
  rw [show (bk gh gca gun prs yrs) 22 = prs from bk_p]
  refine mv_if_ne (tgt := 12) hx hb (by first | omega | exact Nat.lt_trans (Nat.mod_lt _ (by decide)) (by decide)) dX8_moths_7 (by decide) (fun c7 => ?_) (fun c7 => ?_)
  · skip
    have hp0 : prs ≠ 0 := c7
    refine lv_iconst (v := nI 0) hx hb dX8_moths_12 (by decide) ?_
    refine lv_istore_n (lv' := [(1, .int (nI 0)), (0, .ref o)]) hx hb dX8_moths_13 rfl hl (by decide) rfl (fun ls hl => ?_)
    exact L14 (10 - 0 + 1) 0 gh bt (by first | assumption | omega | rfl) (by first | assumption | omega | rfl) (rfl) (rfl) (Nat.lt_succ_self _) _ _ _ hP hD hS (lv_sub hl [0, 1] rfl)
  · skip
    refine lv_iconst (v := nI 5) hx hb dX8_moths_10 (by decide) ?_
    exact mv_iret hx hb hr hlocks (gh, bt) (by rw [if_pos c7]) hP hK hD hS dX8_moths_11
abbrev q_X8_robeAct (D : va_G) (Y : Nat → ClassId) (o : Nat) (ob : Nat) (on : Nat) (ow8 : Nat) (os : Nat) (oe : Nat) (oi : Nat) (op : Nat) (oz : Nat) (oc8 : Nat) (oq : Nat) (om : Nat) (oy : Nat) (og : Nat) (ok8 : Nat) (sc8 : Nat) (cn8 : Nat) (bt : Nat) (a8 : Nat) (rs8 : Int32) (gA : Option Nat) (gR : Option Nat) (gh : Nat → Nat) (gca : Nat → Nat) (gun : Nat → Nat) (prs : Nat) (yrs : Nat) (rb : Nat) (kd : Nat) : (Nat → Prop) → Array Value → State → Outcome → State → Prop := mv_Qi D Y (fun (r : Int32) (ux : (Nat → Nat) × (Nat → Nat) × Nat) => (r, ux.1, ux.2.1, ux.2.2) = raS gh gca prs kd rb) (fun ux : (Nat → Nat) × (Nat → Nat) × Nat => ([(o, .inr (8, [.ref ob, .ref on, .ref ow8, .ref os, .ref oe, .int (nI sc8), .ref oi, .int (nI cn8), .ref op, .int (nI bt), .int (oI gA), .int (oI gR), .int rs8, .int (nI a8), .ref oz, .ref oc8, .ref oq, .ref om, .ref oy, .ref og, .ref ok8])), (on, .inl (Y 0, 24, .inl (aN (bk ux.1 ux.2.1 gun ux.2.2 yrs))))] : va_W))
set_option maxHeartbeats 4000000 in
set_option maxRecDepth 100000 in
theorem c_X8_robeAct (l : Launch) (D : va_G) (Y : Nat → ClassId) (sz : Nat) (o : Nat) (ob : Nat) (on : Nat) (ow8 : Nat) (os : Nat) (oe : Nat) (oi : Nat) (op : Nat) (oz : Nat) (oc8 : Nat) (oq : Nat) (om : Nat) (oy : Nat) (og : Nat) (ok8 : Nat) (sc8 : Nat) (cn8 : Nat) (bt : Nat) (a8 : Nat) (rs8 : Int32) (gA : Option Nat) (gR : Option Nat) (gh : Nat → Nat) (gca : Nat → Nat) (gun : Nat → Nat) (prs : Nat) (yrs : Nat) (rb : Nat) (kd : Nat) (hrb : rb < 6) (hkd : kd < 2 ^ 31) (hra : isRa kd = true) (hp : prs < 64) (hh : ∀ k, k < 6 → gh k < 65536) (hc : ∀ k, k < 6 → gca k ≤ 9) : mv_C l D Y yX8_robeAct cX8_robeAct 3 (some .int) 2 0 0 [.ref o, .int (nI rb), .int (nI kd)] sz [(o, .inr (8, [.ref ob, .ref on, .ref ow8, .ref os, .ref oe, .int (nI sc8), .ref oi, .int (nI cn8), .ref op, .int (nI bt), .int (oI gA), .int (oI gR), .int rs8, .int (nI a8), .ref oz, .ref oc8, .ref oq, .ref om, .ref oy, .ref og, .ref ok8])), (on, .inl (Y 0, 24, .inl (aN (bk gh gca gun prs yrs))))] (q_X8_robeAct D Y o ob on ow8 os oe oi op oz oc8 oq om oy og ok8 sc8 cn8 bt a8 rs8 gA gR gh gca gun prs yrs rb kd) := by
  refine mv_ofW (by decide) (Nat.le_of_ble_eq_true rfl) ?_
  intro p e s m below meth c ls A hx hb hr hlocks hml hnm hown hts hsz hAe hP hK hD hS hST hA hl
  have hl : lv_has ls 3 [(0, .ref o), (1, .int (nI rb)), (2, .int (nI kd))] := hl
  refine lv_iload_n hx hb dX8_robeAct_0 rfl (lv_at hl 2 rfl) ?_
  refine lv_bipush (v := nI 60) hx hb dX8_robeAct_1 (by decide) ?_
  refine mv_icmp_ne (tgt := 14) hx hb (by omega) (by omega) dX8_robeAct_3 (by decide) (fun c3 => ?_) (fun c3 => ?_)
  · skip
    refine lv_iload_n hx hb dX8_robeAct_14 rfl (lv_at hl 2 rfl) ?_
    refine lv_bipush (v := nI 62) hx hb dX8_robeAct_15 (by decide) ?_
    refine mv_icmp_ne (tgt := 28) hx hb (by omega) (by omega) dX8_robeAct_17 (by decide) (fun c17 => ?_) (fun c17 => ?_)
    · skip
      refine lv_iload_n hx hb dX8_robeAct_28 rfl (lv_at hl 2 rfl) ?_
      refine lv_bipush (v := nI 43) hx hb dX8_robeAct_29 (by decide) ?_
      refine mv_icmp_ne (tgt := 42) hx hb (by omega) (by omega) dX8_robeAct_31 (by decide) (fun c31 => ?_) (fun c31 => ?_)
      · skip
        refine lv_aload_n hx hb dX8_robeAct_42 rfl (lv_at hl 0 rfl) ?_
        refine lv_iload_n hx hb dX8_robeAct_43 rfl (lv_at hl 1 rfl) ?_
        refine mv_callVi (nA := 1) (As := [.int (nI rb)]) (rest := []) (Wc := [(o, .inr (8, [.ref ob, .ref on, .ref ow8, .ref os, .ref oe, .int (nI sc8), .ref oi, .int (nI cn8), .ref op, .int (nI bt), .int (oI gA), .int (oI gR), .int rs8, .int (nI a8), .ref oz, .ref oc8, .ref oq, .ref om, .ref oy, .ref og, .ref ok8])), (on, .inl (Y 0, 24, .inl (aN (bk gh gca gun prs yrs))))]) (wr := []) hx hb hml hown hts hK hP hD hS hST hA hl.1 (c_X8_darn l D Y _ o ob on ow8 os oe oi op oz oc8 oq om oy og ok8 sc8 cn8 bt a8 rs8 gA gR gh gca gun prs yrs rb (by first | assumption | omega | rfl) (by first | assumption | omega | rfl) (by first | assumption | omega | rfl)) [0, 1] [] rfl rfl (by decide) (by decide) (by decide) rfl 0 rfl rfl rfl mw_345 mw_346 mw_347 mw_5 mw_348 ⟨by decide, by decide, by decide +kernel⟩ rfl ⟨Nat.le_of_ble_eq_true rfl, Nat.le_of_ble_eq_true rfl⟩ rfl (Nat.le_of_ble_eq_true rfl) dX8_robeAct_44 ⟨Nat.le_of_ble_eq_true rfl, Nat.le_of_ble_eq_true rfl⟩ (fun r_2 ux H locs hr44 hP hD hS hz44 => ?_)
        obtain ⟨x_1, hu9⟩ : ∃ z, z = ux := ⟨_, rfl⟩
        subst hu9
        have hP := hP.sub (ws' := [(o, .inr (8, [.ref ob, .ref on, .ref ow8, .ref os, .ref oe, .int (nI sc8), .ref oi, .int (nI cn8), .ref op, .int (nI bt), .int (oI gA), .int (oI gR), .int rs8, .int (nI a8), .ref oz, .ref oc8, .ref oq, .ref om, .ref oy, .ref og, .ref ok8])), (on, .inl (Y 0, 24, .inl (aN (bk x_1 gca gun prs yrs))))]) [0, 1] rfl
        have hD := hD.sub (ws' := [(o, .inr (8, [.ref ob, .ref on, .ref ow8, .ref os, .ref oe, .int (nI sc8), .ref oi, .int (nI cn8), .ref op, .int (nI bt), .int (oI gA), .int (oI gR), .int rs8, .int (nI a8), .ref oz, .ref oc8, .ref oq, .ref om, .ref oy, .ref og, .ref ok8])), (on, .inl (Y 0, 24, .inl (aN (bk x_1 gca gun prs yrs))))]) [0, 1] (by decide) rfl
        have hr44 : (r_2, x_1) = if prs / 2 ^ rb % 2 = 1 then (nI 2, gh) else if gh rb = 0 then (nI 3, gh) else (nI 0, uN gh rb (gh rb &&& (gh rb - 1))) := hr44
        exact mv_iret hx hb hr hlocks (x_1, gca, prs) (by rw [isRa_47 hra c3 c17 c31]; exact ra_47 hr44) hP hK hD hS dX8_robeAct_47
      · skip
        refine lv_aload_n hx hb dX8_robeAct_34 rfl (lv_at hl 0 rfl) ?_
        refine lv_iload_n hx hb dX8_robeAct_35 rfl (lv_at hl 1 rfl) ?_
        refine mv_callVi (nA := 1) (As := [.int (nI rb)]) (rest := []) (Wc := [(o, .inr (8, [.ref ob, .ref on, .ref ow8, .ref os, .ref oe, .int (nI sc8), .ref oi, .int (nI cn8), .ref op, .int (nI bt), .int (oI gA), .int (oI gR), .int rs8, .int (nI a8), .ref oz, .ref oc8, .ref oq, .ref om, .ref oy, .ref og, .ref ok8])), (on, .inl (Y 0, 24, .inl (aN (bk gh gca gun prs yrs))))]) (wr := []) hx hb hml hown hts hK hP hD hS hST hA hl.1 (c_X8_strew l D Y _ o ob on ow8 os oe oi op oz oc8 oq om oy og ok8 sc8 cn8 bt a8 rs8 gA gR gh gca gun prs yrs rb (by first | assumption | omega | rfl) (by first | assumption | omega | rfl) (by first | assumption | omega | rfl)) [0, 1] [] rfl rfl (by decide) (by decide) (by decide) rfl 0 rfl rfl rfl mw_341 mw_342 mw_343 mw_5 mw_344 ⟨by decide, by decide, by decide +kernel⟩ rfl ⟨Nat.le_of_ble_eq_true rfl, Nat.le_of_ble_eq_true rfl⟩ rfl (Nat.le_of_ble_eq_true rfl) dX8_robeAct_36 ⟨Nat.le_of_ble_eq_true rfl, Nat.le_of_ble_eq_true rfl⟩ (fun r_4 ux H locs hr36 hP hD hS hz36 => ?_)
        obtain ⟨x_3, hu9⟩ : ∃ z, z = ux := ⟨_, rfl⟩
        subst hu9
        have hP := hP.sub (ws' := [(o, .inr (8, [.ref ob, .ref on, .ref ow8, .ref os, .ref oe, .int (nI sc8), .ref oi, .int (nI cn8), .ref op, .int (nI bt), .int (oI gA), .int (oI gR), .int rs8, .int (nI a8), .ref oz, .ref oc8, .ref oq, .ref om, .ref oy, .ref og, .ref ok8])), (on, .inl (Y 0, 24, .inl (aN (bk gh x_3 gun prs yrs))))]) [0, 1] rfl
        have hD := hD.sub (ws' := [(o, .inr (8, [.ref ob, .ref on, .ref ow8, .ref os, .ref oe, .int (nI sc8), .ref oi, .int (nI cn8), .ref op, .int (nI bt), .int (oI gA), .int (oI gR), .int rs8, .int (nI a8), .ref oz, .ref oc8, .ref oq, .ref om, .ref oy, .ref og, .ref ok8])), (on, .inl (Y 0, 24, .inl (aN (bk gh x_3 gun prs yrs))))]) [0, 1] (by decide) rfl
        have hr36 : (r_4, x_3) = if prs / 2 ^ rb % 2 = 1 then (nI 2, gca) else if 9 ≤ gca rb then (nI 3, gca) else (nI 0, uN gca rb (gca rb + 1)) := hr36
        refine lv_goto (tgt := 47) hx hb dX8_robeAct_39 (by decide) ?_
        exact mv_iret hx hb hr hlocks (gh, x_3, prs) (by rw [c31]; exact ra_43 hr36) hP hK hD hS dX8_robeAct_47
    · skip
      refine lv_aload_n hx hb dX8_robeAct_20 rfl (lv_at hl 0 rfl) ?_
      refine lv_iload_n hx hb dX8_robeAct_21 rfl (lv_at hl 1 rfl) ?_
      refine mv_callVi (nA := 1) (As := [.int (nI rb)]) (rest := []) (Wc := [(o, .inr (8, [.ref ob, .ref on, .ref ow8, .ref os, .ref oe, .int (nI sc8), .ref oi, .int (nI cn8), .ref op, .int (nI bt), .int (oI gA), .int (oI gR), .int rs8, .int (nI a8), .ref oz, .ref oc8, .ref oq, .ref om, .ref oy, .ref og, .ref ok8])), (on, .inl (Y 0, 24, .inl (aN (bk gh gca gun prs yrs))))]) (wr := []) hx hb hml hown hts hK hP hD hS hST hA hl.1 (c_X8_takeOut l D Y _ o ob on ow8 os oe oi op oz oc8 oq om oy og ok8 sc8 cn8 bt a8 rs8 gA gR gh gca gun prs yrs rb (by first | assumption | omega | rfl) (by first | assumption | omega | rfl)) [0, 1] [] rfl rfl (by decide) (by decide) (by decide) rfl 0 rfl rfl rfl mw_337 mw_338 mw_339 mw_5 mw_340 ⟨by decide, by decide, by decide +kernel⟩ rfl ⟨Nat.le_of_ble_eq_true rfl, Nat.le_of_ble_eq_true rfl⟩ rfl (Nat.le_of_ble_eq_true rfl) dX8_robeAct_22 ⟨Nat.le_of_ble_eq_true rfl, Nat.le_of_ble_eq_true rfl⟩ (fun r_6 ux H locs hr22 hP hD hS hz22 => ?_)
      obtain ⟨x_5, hu9⟩ : ∃ z, z = ux := ⟨_, rfl⟩
      subst hu9
      have hP := hP.sub (ws' := [(o, .inr (8, [.ref ob, .ref on, .ref ow8, .ref os, .ref oe, .int (nI sc8), .ref oi, .int (nI cn8), .ref op, .int (nI bt), .int (oI gA), .int (oI gR), .int rs8, .int (nI a8), .ref oz, .ref oc8, .ref oq, .ref om, .ref oy, .ref og, .ref ok8])), (on, .inl (Y 0, 24, .inl (aN (bk gh gca gun x_5 yrs))))]) [0, 1] rfl
      have hD := hD.sub (ws' := [(o, .inr (8, [.ref ob, .ref on, .ref ow8, .ref os, .ref oe, .int (nI sc8), .ref oi, .int (nI cn8), .ref op, .int (nI bt), .int (oI gA), .int (oI gR), .int rs8, .int (nI a8), .ref oz, .ref oc8, .ref oq, .ref om, .ref oy, .ref og, .ref ok8])), (on, .inl (Y 0, 24, .inl (aN (bk gh gca gun x_5 yrs))))]) [0, 1] (by decide) rfl
      have hr22 : (r_6, x_5) = if prs / 2 ^ rb % 2 = 1 then (nI 0, prs &&& (1 * 2 ^ rb ^^^ 4294967295)) else (nI 1, prs) := hr22
      refine lv_goto (tgt := 47) hx hb dX8_robeAct_25 (by decide) ?_
      exact mv_iret hx hb hr hlocks (gh, gca, x_5) (by rw [c17]; exact ra_62 hr22) hP hK hD hS dX8_robeAct_47
  · skip
    refine lv_aload_n hx hb dX8_robeAct_6 rfl (lv_at hl 0 rfl) ?_
    refine lv_iload_n hx hb dX8_robeAct_7 rfl (lv_at hl 1 rfl) ?_
    refine mv_callVi (nA := 1) (As := [.int (nI rb)]) (rest := []) (Wc := [(o, .inr (8, [.ref ob, .ref on, .ref ow8, .ref os, .ref oe, .int (nI sc8), .ref oi, .int (nI cn8), .ref op, .int (nI bt), .int (oI gA), .int (oI gR), .int rs8, .int (nI a8), .ref oz, .ref oc8, .ref oq, .ref om, .ref oy, .ref og, .ref ok8])), (on, .inl (Y 0, 24, .inl (aN (bk gh gca gun prs yrs))))]) (wr := []) hx hb hml hown hts hK hP hD hS hST hA hl.1 (c_X8_layIn l D Y _ o ob on ow8 os oe oi op oz oc8 oq om oy og ok8 sc8 cn8 bt a8 rs8 gA gR gh gca gun prs yrs rb (by first | assumption | omega | rfl) (by first | assumption | omega | rfl)) [0, 1] [] rfl rfl (by decide) (by decide) (by decide) rfl 0 rfl rfl rfl mw_330 mw_331 mw_332 mw_5 mw_333 ⟨by decide, by decide, by decide +kernel⟩ rfl ⟨Nat.le_of_ble_eq_true rfl, Nat.le_of_ble_eq_true rfl⟩ rfl (Nat.le_of_ble_eq_true rfl) dX8_robeAct_8 ⟨Nat.le_of_ble_eq_true rfl, Nat.le_of_ble_eq_true rfl⟩ (fun r_8 ux H locs hr8 hP hD hS hz8 => ?_)
    obtain ⟨x_7, hu9⟩ : ∃ z, z = ux := ⟨_, rfl⟩
    subst hu9
    have hP := hP.sub (ws' := [(o, .inr (8, [.ref ob, .ref on, .ref ow8, .ref os, .ref oe, .int (nI sc8), .ref oi, .int (nI cn8), .ref op, .int (nI bt), .int (oI gA), .int (oI gR), .int rs8, .int (nI a8), .ref oz, .ref oc8, .ref oq, .ref om, .ref oy, .ref og, .ref ok8])), (on, .inl (Y 0, 24, .inl (aN (bk gh gca gun x_7 yrs))))]) [0, 1] rfl
    have hD := hD.sub (ws' := [(o, .inr (8, [.ref ob, .ref on, .ref ow8, .ref os, .ref oe, .int (nI sc8), .ref oi, .int (nI cn8), .ref op, .int (nI bt), .int (oI gA), .int (oI gR), .int rs8, .int (nI a8), .ref oz, .ref oc8, .ref oq, .ref om, .ref oy, .ref og, .ref ok8])), (on, .inl (Y 0, 24, .inl (aN (bk gh gca gun x_7 yrs))))]) [0, 1] (by decide) rfl
    have hr8 : (r_8, x_7) = if prs / 2 ^ rb % 2 = 1 then (nI 1, prs) else (nI 0, prs ||| 1 * 2 ^ rb) := hr8
    refine lv_goto (tgt := 47) hx hb dX8_robeAct_11 (by decide) ?_
    exact mv_iret hx hb hr hlocks (gh, gca, x_7) (by rw [c3]; exact ra_60 hr8) hP hK hD hS dX8_robeAct_47
