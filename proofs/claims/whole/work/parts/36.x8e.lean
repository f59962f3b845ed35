abbrev q_X8_blame (D : va_G) (Y : Nat → ClassId) (o : Nat) (ob : Nat) (on : Nat) (ow8 : Nat) (os : Nat) (oe : Nat) (oi : Nat) (op : Nat) (oz : Nat) (oc8 : Nat) (oq : Nat) (om : Nat) (oy : Nat) (og : Nat) (ok8 : Nat) (sc8 : Nat) (cn8 : Nat) (bt : Nat) (a8 : Nat) (rs8 : Int32) (gA : Option Nat) (gR : Option Nat) (gh : Nat → Nat) (gca : Nat → Nat) (gun : Nat → Nat) (prs : Nat) (yrs : Nat) (gro : Nat → Nat) (gsh : Nat → Nat) (x1 : Int32) (x2 : Int32) : (Nat → Prop) → Array Value → State → Outcome → State → Prop := mv_Qi D Y (fun (r : Int32) (_ : Unit) => r = sp_blame gh gro gsh x1 x2) (fun _ : Unit => ([(o, .inr (8, [.ref ob, .ref on, .ref ow8, .ref os, .ref oe, .int (nI sc8), .ref oi, .int (nI cn8), .ref op, .int (nI bt), .int (oI gA), .int (oI gR), .int rs8, .int (nI a8), .ref oz, .ref oc8, .ref oq, .ref om, .ref oy, .ref og, .ref ok8])), (ob, .inl (Y 0, 24, .inl (aN (bk gh gca gun prs yrs)))), (ow8, .inl (Y 0, 10, .inl (aN gro))), (os, .inl (Y 0, 10, .inl (aN gsh)))] : va_W))
set_option maxHeartbeats 8000000 in
set_option maxRecDepth 100000 in
theorem c_X8_blame (l : Launch) (D : va_G) (Y : Nat → ClassId) (sz : Nat) (o : Nat) (ob : Nat) (on : Nat) (ow8 : Nat) (os : Nat) (oe : Nat) (oi : Nat) (op : Nat) (oz : Nat) (oc8 : Nat) (oq : Nat) (om : Nat) (oy : Nat) (og : Nat) (ok8 : Nat) (sc8 : Nat) (cn8 : Nat) (bt : Nat) (a8 : Nat) (rs8 : Int32) (gA : Option Nat) (gR : Option Nat) (gh : Nat → Nat) (gca : Nat → Nat) (gun : Nat → Nat) (prs : Nat) (yrs : Nat) (gro : Nat → Nat) (gsh : Nat → Nat) (x1 : Int32) (x2 : Int32) (hh : ∀ k, k < 6 → gh k < 65536) (hro : ∀ k, k < 10 → gro k < 6) : mv_C l D Y yX8_blame cX8_blame 8 (some .int) 2 0 0 [.ref o, .int x1, .int x2] sz [(o, .inr (8, [.ref ob, .ref on, .ref ow8, .ref os, .ref oe, .int (nI sc8), .ref oi, .int (nI cn8), .ref op, .int (nI bt), .int (oI gA), .int (oI gR), .int rs8, .int (nI a8), .ref oz, .ref oc8, .ref oq, .ref om, .ref oy, .ref og, .ref ok8])), (ob, .inl (Y 0, 24, .inl (aN (bk gh gca gun prs yrs)))), (ow8, .inl (Y 0, 10, .inl (aN gro))), (os, .inl (Y 0, 10, .inl (aN gsh)))] (q_X8_blame D Y o ob on ow8 os oe oi op oz oc8 oq om oy og ok8 sc8 cn8 bt a8 rs8 gA gR gh gca gun prs yrs gro gsh x1 x2) := by
  refine mv_ofW (by decide) (Nat.le_of_ble_eq_true rfl) ?_
  intro p e s m below meth c ls A hx hb hr hlocks hml hnm hown hts hsz hAe hP hK hD hS hST hA hl
  have hl : lv_has ls 8 [(0, .ref o), (1, .int x1), (2, .int x2)] := hl
  have L27 : ∀ (fu : Nat) (kx1 : Nat) (kx2 : Nat) (k : Nat) (fd : Option Nat) (e1 : x1 = nI kx1) (hi1 : kx1 ≤ 5) (e2 : x2 = nI kx2) (hi2 : kx2 ≤ 1) (hk : k ≤ 1024) (hfd : fd = blS (sinS gro kx1 10) (gh kx1) gsh k) (hmeas : 1024 - k < fu) (H : Heap) (locs : List Loc) (ls : Array Slot), va_P D vwCl [(o, .inr (8, [.ref ob, .ref on, .ref ow8, .ref os, .ref oe, .int (nI sc8), .ref oi, .int (nI cn8), .ref op, .int (nI bt), .int (oI gA), .int (oI gR), .int rs8, .int (nI a8), .ref oz, .ref oc8, .ref oq, .ref om, .ref oy, .ref og, .ref ok8])), (ob, .inl (Y 0, 24, .inl (aN (bk gh gca gun prs yrs)))), (ow8, .inl (Y 0, 10, .inl (aN gro))), (os, .inl (Y 0, 10, .inl (aN gsh)))] H → va_D A [(o, .inr (8, [.ref ob, .ref on, .ref ow8, .ref os, .ref oe, .int (nI sc8), .ref oi, .int (nI cn8), .ref op, .int (nI bt), .int (oI gA), .int (oI gR), .int rs8, .int (nI a8), .ref oz, .ref oc8, .ref oq, .ref om, .ref oy, .ref og, .ref ok8])), (ob, .inl (Y 0, 24, .inl (aN (bk gh gca gun prs yrs)))), (ow8, .inl (Y 0, 10, .inl (aN gro))), (os, .inl (Y 0, 10, .inl (aN gsh)))] → va_S A s.heap H locs → lv_has ls 8 [(3, .int (oI fd)), (4, .int (nI k)), (0, .ref o), (1, .int (nI kx1)), (2, .int (nI kx2))] → W p l e (mv_R 2 0 0) s m [.ref o, .int x1, .int x2].toArray below meth c H locs 0 0 (MQ below ((q_X8_blame D Y o ob on ow8 os oe oi op oz oc8 oq om oy og ok8 sc8 cn8 bt a8 rs8 gA gR gh gca gun prs yrs gro gsh x1 x2) A) [.ref o, .int x1, .int x2].toArray s 0 0 A) (F0 m 27 ls []) := by
    intro fu
    induction fu with
    | zero =>
      intro kx1 kx2 k fd e1 hi1 e2 hi2 hk hfd hmeas
      exact absurd hmeas (Nat.not_lt_zero _)
    | succ fu L27ih =>
      intro kx1 kx2 k fd e1 hi1 e2 hi2 hk hfd hmeas H locs ls hP hD hS hl
      have hq1 : inQ (nI kx1) 0 5 = true := (inQ_nI (by omega) (by decide) (by decide)).trans (decide_eq_true ⟨by omega, by omega⟩)
      have hcl1 : (nI kx1).toNatClampNeg = kx1 := nI_clamp (by omega)
      have hq2 : inQ (nI kx2) 0 1 = true := (inQ_nI (by omega) (by decide) (by decide)).trans (decide_eq_true ⟨by omega, by omega⟩)
      have hcl2 : (nI kx2).toNatClampNeg = kx2 := nI_clamp (by omega)
      have hhk := hh kx1 (by omega)
      have L169 : ∀ (f9 : Option Nat) (hf9 : f9 = blS (sinS gro kx1 10) (gh kx1) gsh (k + 1)) (hk2 : k < 1024) (H : Heap) (locs : List Loc) (ls : Array Slot), va_P D vwCl [(o, .inr (8, [.ref ob, .ref on, .ref ow8, .ref os, .ref oe, .int (nI sc8), .ref oi, .int (nI cn8), .ref op, .int (nI bt), .int (oI gA), .int (oI gR), .int rs8, .int (nI a8), .ref oz, .ref oc8, .ref oq, .ref om, .ref oy, .ref og, .ref ok8])), (ob, .inl (Y 0, 24, .inl (aN (bk gh gca gun prs yrs)))), (ow8, .inl (Y 0, 10, .inl (aN gro))), (os, .inl (Y 0, 10, .inl (aN gsh)))] H → va_D A [(o, .inr (8, [.ref ob, .ref on, .ref ow8, .ref os, .ref oe, .int (nI sc8), .ref oi, .int (nI cn8), .ref op, .int (nI bt), .int (oI gA), .int (oI gR), .int rs8, .int (nI a8), .ref oz, .ref oc8, .ref oq, .ref om, .ref oy, .ref og, .ref ok8])), (ob, .inl (Y 0, 24, .inl (aN (bk gh gca gun prs yrs)))), (ow8, .inl (Y 0, 10, .inl (aN gro))), (os, .inl (Y 0, 10, .inl (aN gsh)))] → va_S A s.heap H locs → lv_has ls 8 [(4, .int (nI k)), (0, .ref o), (1, .int (nI kx1)), (2, .int (nI kx2))] → W p l e (mv_R 2 0 0) s m [.ref o, .int x1, .int x2].toArray below meth c H locs 0 0 (MQ below ((q_X8_blame D Y o ob on ow8 os oe oi op oz oc8 oq om oy og ok8 sc8 cn8 bt a8 rs8 gA gR gh gca gun prs yrs gro gsh x1 x2) A) [.ref o, .int x1, .int x2].toArray s 0 0 A) (F0 m 169 ls [.int (oI f9)]) := by
        intro f9 hf9 hk2 H locs ls hP hD hS hl
        refine lv_istore_n (lv' := [(3, .int (oI f9)), (4, .int (nI k)), (0, .ref o), (1, .int (nI kx1)), (2, .int (nI kx2))]) hx hb dX8_blame_169 rfl hl (by decide) rfl (fun ls hl => ?_)
        refine lv_iinc (v := nI (k + 1)) (lv' := [(4, .int (nI (k + 1))), (3, .int (oI f9)), (0, .ref o), (1, .int (nI kx1)), (2, .int (nI kx2))]) hx hb dX8_blame_170 hl (k := 1) rfl (by exact nI_add _ 1) (by decide) rfl (fun ls hl => ?_)
        refine lv_goto (tgt := 27) hx hb dX8_blame_173 (by decide) ?_
        exact L27ih  kx1 kx2 (k + 1) f9 (by first | assumption | omega | rfl) (by first | assumption | omega | rfl) (by first | assumption | omega | rfl) (by first | assumption | omega | rfl) (by first | assumption | omega | rfl) (by first | assumption | omega | rfl) (by omega) _ _ _ hP hD hS (lv_sub hl [1, 0, 2, 3, 4] rfl)
      have L156 : ∀ (bt9 : Nat) (hbt : bt9 = bN (fwB fd k && okB (sinS gro kx1 10) (gh kx1) gsh k)) (hk2 : k < 1024) (H : Heap) (locs : List Loc) (ls : Array Slot), va_P D vwCl [(o, .inr (8, [.ref ob, .ref on, .ref ow8, .ref os, .ref oe, .int (nI sc8), .ref oi, .int (nI cn8), .ref op, .int (nI bt), .int (oI gA), .int (oI gR), .int rs8, .int (nI a8), .ref oz, .ref oc8, .ref oq, .ref om, .ref oy, .ref og, .ref ok8])), (ob, .inl (Y 0, 24, .inl (aN (bk gh gca gun prs yrs)))), (ow8, .inl (Y 0, 10, .inl (aN gro))), (os, .inl (Y 0, 10, .inl (aN gsh)))] H → va_D A [(o, .inr (8, [.ref ob, .ref on, .ref ow8, .ref os, .ref oe, .int (nI sc8), .ref oi, .int (nI cn8), .ref op, .int (nI bt), .int (oI gA), .int (oI gR), .int rs8, .int (nI a8), .ref oz, .ref oc8, .ref oq, .ref om, .ref oy, .ref og, .ref ok8])), (ob, .inl (Y 0, 24, .inl (aN (bk gh gca gun prs yrs)))), (ow8, .inl (Y 0, 10, .inl (aN gro))), (os, .inl (Y 0, 10, .inl (aN gsh)))] → va_S A s.heap H locs → lv_has ls 8 [(4, .int (nI k)), (3, .int (oI fd)), (0, .ref o), (1, .int (nI kx1)), (2, .int (nI kx2))] → W p l e (mv_R 2 0 0) s m [.ref o, .int x1, .int x2].toArray below meth c H locs 0 0 (MQ below ((q_X8_blame D Y o ob on ow8 os oe oi op oz oc8 oq om oy og ok8 sc8 cn8 bt a8 rs8 gA gR gh gca gun prs yrs gro gsh x1 x2) A) [.ref o, .int x1, .int x2].toArray s 0 0 A) (F0 m 156 ls [.int (nI bt9)]) := by
        intro bt9 hbt hk2 H locs ls hP hD hS hl
        have hbb : bt9 < 2 := by rw [hbt]; exact bN_lt _
        refine lv_istore (lv' := [(7, .int (nI bt9)), (4, .int (nI k)), (3, .int (oI fd)), (0, .ref o), (1, .int (nI kx1)), (2, .int (nI kx2))]) hx hb dX8_blame_156 hl (by decide) rfl (fun ls hl => ?_)
        refine lv_iload hx hb dX8_blame_158 (lv_at hl 0 rfl) ?_
        refine mv_if_eq (tgt := 168) hx hb (by first | omega | exact Nat.lt_trans (bN_lt _) (by decide) | exact Nat.lt_of_le_of_lt Nat.and_le_left (by omega) | exact Nat.lt_trans (hro s9 (by omega)) (by decide) | exact Nat.lt_of_le_of_lt (popc_le _) (by decide) | exact Nat.lt_trans (Nat.mod_lt _ (by decide)) (by decide)) dX8_blame_160 (by decide) (fun c160 => ?_) (fun c160 => ?_)
        · skip
          refine lv_iload_n hx hb dX8_blame_168 rfl (lv_at hl 2 rfl) ?_
          exact L169  fd (by rw [blS, if_neg (by rw [← hfd, ← Bool.and_eq_true]; exact fun q => by rw [q] at hbt; exact absurd (hbt.symm.trans c160) (by decide))]; exact hfd) (by first | assumption | omega | rfl) _ _ _ hP hD hS (lv_sub hl [1, 3, 4, 5] rfl)
        · skip
          refine lv_iload hx hb dX8_blame_163 (lv_at hl 1 rfl) ?_
          refine lv_goto (tgt := 169) hx hb dX8_blame_165 (by decide) ?_
          exact L169  (some k) (by rw [blS, if_pos (by rw [← hfd, ← Bool.and_eq_true]; exact bN_1.mp (by omega))]) (by first | assumption | omega | rfl) _ _ _ hP hD hS (lv_sub hl [1, 3, 4, 5] rfl)
      have L44 : ∀ (fu : Nat) (s9 : Nat) (cv : Nat) (hr : Nat) (hs9 : s9 ≤ 10) (hcv : cv = shpS gsh k s9) (hhr : hr = bN (hrS gro kx1 k s9)) (hk2 : k < 1024) (hmeas : 10 - s9 < fu) (H : Heap) (locs : List Loc) (ls : Array Slot), va_P D vwCl [(o, .inr (8, [.ref ob, .ref on, .ref ow8, .ref os, .ref oe, .int (nI sc8), .ref oi, .int (nI cn8), .ref op, .int (nI bt), .int (oI gA), .int (oI gR), .int rs8, .int (nI a8), .ref oz, .ref oc8, .ref oq, .ref om, .ref oy, .ref og, .ref ok8])), (ob, .inl (Y 0, 24, .inl (aN (bk gh gca gun prs yrs)))), (ow8, .inl (Y 0, 10, .inl (aN gro))), (os, .inl (Y 0, 10, .inl (aN gsh)))] H → va_D A [(o, .inr (8, [.ref ob, .ref on, .ref ow8, .ref os, .ref oe, .int (nI sc8), .ref oi, .int (nI cn8), .ref op, .int (nI bt), .int (oI gA), .int (oI gR), .int rs8, .int (nI a8), .ref oz, .ref oc8, .ref oq, .ref om, .ref oy, .ref og, .ref ok8])), (ob, .inl (Y 0, 24, .inl (aN (bk gh gca gun prs yrs)))), (ow8, .inl (Y 0, 10, .inl (aN gro))), (os, .inl (Y 0, 10, .inl (aN gsh)))] → va_S A s.heap H locs → lv_has ls 8 [(7, .int (nI s9)), (6, .int (nI hr)), (5, .int (nI cv)), (4, .int (nI k)), (3, .int (oI fd)), (0, .ref o), (1, .int (nI kx1)), (2, .int (nI kx2))] → W p l e (mv_R 2 0 0) s m [.ref o, .int x1, .int x2].toArray below meth c H locs 0 0 (MQ below ((q_X8_blame D Y o ob on ow8 os oe oi op oz oc8 oq om oy og ok8 sc8 cn8 bt a8 rs8 gA gR gh gca gun prs yrs gro gsh x1 x2) A) [.ref o, .int x1, .int x2].toArray s 0 0 A) (F0 m 44 ls []) := by
        intro fu
        induction fu with
        | zero =>
          intro s9 cv hr hs9 hcv hhr hk2 hmeas
          exact absurd hmeas (Nat.not_lt_zero _)
        | succ fu L44ih =>
          intro s9 cv hr hs9 hcv hhr hk2 hmeas H locs ls hP hD hS hl
          have hrb : hr < 2 := by rw [hhr]; exact bN_lt _
          have L82 : ∀ (h2 : Nat) (hh2 : h2 = bN (hrS gro kx1 k (s9 + 1))) (hs2 : s9 < 10) (H : Heap) (locs : List Loc) (ls : Array Slot), va_P D vwCl [(o, .inr (8, [.ref ob, .ref on, .ref ow8, .ref os, .ref oe, .int (nI sc8), .ref oi, .int (nI cn8), .ref op, .int (nI bt), .int (oI gA), .int (oI gR), .int rs8, .int (nI a8), .ref oz, .ref oc8, .ref oq, .ref om, .ref oy, .ref og, .ref ok8])), (ob, .inl (Y 0, 24, .inl (aN (bk gh gca gun prs yrs)))), (ow8, .inl (Y 0, 10, .inl (aN gro))), (os, .inl (Y 0, 10, .inl (aN gsh)))] H → va_D A [(o, .inr (8, [.ref ob, .ref on, .ref ow8, .ref os, .ref oe, .int (nI sc8), .ref oi, .int (nI cn8), .ref op, .int (nI bt), .int (oI gA), .int (oI gR), .int rs8, .int (nI a8), .ref oz, .ref oc8, .ref oq, .ref om, .ref oy, .ref og, .ref ok8])), (ob, .inl (Y 0, 24, .inl (aN (bk gh gca gun prs yrs)))), (ow8, .inl (Y 0, 10, .inl (aN gro))), (os, .inl (Y 0, 10, .inl (aN gsh)))] → va_S A s.heap H locs → lv_has ls 8 [(7, .int (nI s9)), (5, .int (nI cv)), (4, .int (nI k)), (3, .int (oI fd)), (0, .ref o), (1, .int (nI kx1)), (2, .int (nI kx2))] → W p l e (mv_R 2 0 0) s m [.ref o, .int x1, .int x2].toArray below meth c H locs 0 0 (MQ below ((q_X8_blame D Y o ob on ow8 os oe oi op oz oc8 oq om oy og ok8 sc8 cn8 bt a8 rs8 gA gR gh gca gun prs yrs gro gsh x1 x2) A) [.ref o, .int x1, .int x2].toArray s 0 0 A) (F0 m 82 ls [.int (nI h2)]) := by
            intro h2 hh2 hs2 H locs ls hP hD hS hl
            have L107 : ∀ (z9 : Nat) (hz9 : z9 = if k / 2 ^ s9 % 2 = 1 then gsh s9 else 0) (H : Heap) (locs : List Loc) (ls : Array Slot), va_P D vwCl [(o, .inr (8, [.ref ob, .ref on, .ref ow8, .ref os, .ref oe, .int (nI sc8), .ref oi, .int (nI cn8), .ref op, .int (nI bt), .int (oI gA), .int (oI gR), .int rs8, .int (nI a8), .ref oz, .ref oc8, .ref oq, .ref om, .ref oy, .ref og, .ref ok8])), (ob, .inl (Y 0, 24, .inl (aN (bk gh gca gun prs yrs)))), (ow8, .inl (Y 0, 10, .inl (aN gro))), (os, .inl (Y 0, 10, .inl (aN gsh)))] H → va_D A [(o, .inr (8, [.ref ob, .ref on, .ref ow8, .ref os, .ref oe, .int (nI sc8), .ref oi, .int (nI cn8), .ref op, .int (nI bt), .int (oI gA), .int (oI gR), .int rs8, .int (nI a8), .ref oz, .ref oc8, .ref oq, .ref om, .ref oy, .ref og, .ref ok8])), (ob, .inl (Y 0, 24, .inl (aN (bk gh gca gun prs yrs)))), (ow8, .inl (Y 0, 10, .inl (aN gro))), (os, .inl (Y 0, 10, .inl (aN gsh)))] → va_S A s.heap H locs → lv_has ls 8 [(7, .int (nI s9)), (6, .int (nI h2)), (4, .int (nI k)), (3, .int (oI fd)), (0, .ref o), (1, .int (nI kx1)), (2, .int (nI kx2))] → W p l e (mv_R 2 0 0) s m [.ref o, .int x1, .int x2].toArray below meth c H locs 0 0 (MQ below ((q_X8_blame D Y o ob on ow8 os oe oi op oz oc8 oq om oy og ok8 sc8 cn8 bt a8 rs8 gA gR gh gca gun prs yrs gro gsh x1 x2) A) [.ref o, .int x1, .int x2].toArray s 0 0 A) (F0 m 107 ls [.int (nI z9), .int (nI cv)]) := by
              intro z9 hz9 H locs ls hP hD hS hl
              refine mv_ior hx hb dX8_blame_107 ?_
              refine lv_istore (lv' := [(5, .int (nI (cv ||| z9))), (7, .int (nI s9)), (6, .int (nI h2)), (4, .int (nI k)), (3, .int (oI fd)), (0, .ref o), (1, .int (nI kx1)), (2, .int (nI kx2))]) hx hb dX8_blame_108 hl (by decide) rfl (fun ls hl => ?_)
              refine lv_iinc (v := nI (s9 + 1)) (lv' := [(7, .int (nI (s9 + 1))), (5, .int (nI (cv ||| z9))), (6, .int (nI h2)), (4, .int (nI k)), (3, .int (oI fd)), (0, .ref o), (1, .int (nI kx1)), (2, .int (nI kx2))]) hx hb dX8_blame_110 hl (k := 1) rfl (by exact nI_add _ 1) (by decide) rfl (fun ls hl => ?_)
              refine lv_goto (tgt := 44) hx hb dX8_blame_113 (by decide) ?_
              exact L44ih  (s9 + 1) (cv ||| z9) h2 (by first | assumption | omega | rfl) (by rw [shpS, hz9, hcv]; split; rfl; exact Nat.or_zero _) (hh2) (by first | assumption | omega | rfl) (by omega) _ _ _ hP hD hS (lv_sub hl [0, 2, 1, 3, 4, 5, 6, 7] rfl)
            refine lv_istore (lv' := [(6, .int (nI h2)), (7, .int (nI s9)), (5, .int (nI cv)), (4, .int (nI k)), (3, .int (oI fd)), (0, .ref o), (1, .int (nI kx1)), (2, .int (nI kx2))]) hx hb dX8_blame_82 hl (by decide) rfl (fun ls hl => ?_)
            refine lv_iload hx hb dX8_blame_84 (lv_at hl 2 rfl) ?_
            refine lv_iload hx hb dX8_blame_86 (lv_at hl 3 rfl) ?_
            refine lv_iload hx hb dX8_blame_88 (lv_at hl 1 rfl) ?_
            refine mv_callSi (nA := 2) (As := [.int (nI k), .int (nI s9)]) (rest := [.int (nI cv)]) (Wc := []) (wr := [(o, .inr (8, [.ref ob, .ref on, .ref ow8, .ref os, .ref oe, .int (nI sc8), .ref oi, .int (nI cn8), .ref op, .int (nI bt), .int (oI gA), .int (oI gR), .int rs8, .int (nI a8), .ref oz, .ref oc8, .ref oq, .ref om, .ref oy, .ref og, .ref ok8])), (ob, .inl (Y 0, 24, .inl (aN (bk gh gca gun prs yrs)))), (ow8, .inl (Y 0, 10, .inl (aN gro))), (os, .inl (Y 0, 10, .inl (aN gsh)))]) hx hb hml hown hts hK hP hD hS hST hA hl.1 (c_X8_has l D Y _ k s9 (by first | assumption | omega | rfl) (by first | assumption | omega | rfl)) [] [0, 1, 2, 3] rfl rfl (by decide) (by decide) (by decide) rfl mw_334 mw_335 mw_5 mw_336 ⟨by decide, by decide, by decide +kernel⟩ rfl ⟨Nat.le_of_ble_eq_true rfl, Nat.le_of_ble_eq_true rfl⟩ rfl (Nat.le_of_ble_eq_true rfl) dX8_blame_90 ⟨Nat.le_of_ble_eq_true rfl, Nat.le_of_ble_eq_true rfl⟩ (fun r_1 ux H locs hr90 hP hD hS hz90 => ?_)
            have hP := hP.sub (ws' := [(o, .inr (8, [.ref ob, .ref on, .ref ow8, .ref os, .ref oe, .int (nI sc8), .ref oi, .int (nI cn8), .ref op, .int (nI bt), .int (oI gA), .int (oI gR), .int rs8, .int (nI a8), .ref oz, .ref oc8, .ref oq, .ref om, .ref oy, .ref og, .ref ok8])), (ob, .inl (Y 0, 24, .inl (aN (bk gh gca gun prs yrs)))), (ow8, .inl (Y 0, 10, .inl (aN gro))), (os, .inl (Y 0, 10, .inl (aN gsh)))]) [0, 1, 2, 3] rfl
            have hD := hD.sub (ws' := [(o, .inr (8, [.ref ob, .ref on, .ref ow8, .ref os, .ref oe, .int (nI sc8), .ref oi, .int (nI cn8), .ref op, .int (nI bt), .int (oI gA), .int (oI gR), .int rs8, .int (nI a8), .ref oz, .ref oc8, .ref oq, .ref om, .ref oy, .ref og, .ref ok8])), (ob, .inl (Y 0, 24, .inl (aN (bk gh gca gun prs yrs)))), (ow8, .inl (Y 0, 10, .inl (aN gro))), (os, .inl (Y 0, 10, .inl (aN gsh)))]) [0, 1, 2, 3] (by decide) rfl
            have hr90 : r_1 = nI (k / 2 ^ s9 % 2) := hr90
            subst hr90
            refine mv_if_eq (tgt := 106) hx hb (by first | omega | exact Nat.lt_trans (bN_lt _) (by decide) | exact Nat.lt_of_le_of_lt Nat.and_le_left (by omega) | exact Nat.lt_trans (hro s9 (by omega)) (by decide) | exact Nat.lt_of_le_of_lt (popc_le _) (by decide) | exact Nat.lt_trans (Nat.mod_lt _ (by decide)) (by decide)) dX8_blame_93 (by decide) (fun c93 => ?_) (fun c93 => ?_)
            · skip
              refine lv_iconst (v := nI 0) hx hb dX8_blame_106 (by decide) ?_
              exact L107  0 (by rw [if_neg (by omega)]) _ _ _ hP hD hS (lv_sub hl [1, 0, 3, 4, 5, 6, 7] rfl)
            · skip
              refine lv_aload_n hx hb dX8_blame_96 rfl (lv_at hl 5 rfl) ?_
              refine va_get (D := D) (ci := 8) (v := .ref os) (C := RX8) (T := TX8) (N := 21) hx hb hts inlX8 hown hK hP 0 rfl rfl 3 (by decide) (hts _ mw_86) (fun _ h9 => h9) rfl dX8_blame_97 ?_
              refine lv_iload hx hb dX8_blame_100 (lv_at hl 1 rfl) ?_
              refine mv_iald hx hb hK hP 3 rfl (i := s9) (by omega) (by decide) dX8_blame_102 ?_
              refine lv_goto (tgt := 107) hx hb dX8_blame_103 (by decide) ?_
              exact L107  (gsh s9) (by rw [if_pos (by omega)]) _ _ _ hP hD hS (lv_sub hl [1, 0, 3, 4, 5, 6, 7] rfl)
          refine lv_iload hx hb dX8_blame_44 (lv_at hl 0 rfl) ?_
          refine lv_bipush (v := nI 10) hx hb dX8_blame_46 (by decide) ?_
          refine mv_icmp_ge (tgt := 116) hx hb (by first | omega | exact Nat.lt_trans (bN_lt _) (by decide) | exact Nat.lt_of_le_of_lt Nat.and_le_left (by omega) | exact Nat.lt_trans (hro s9 (by omega)) (by decide) | exact Nat.lt_of_le_of_lt (popc_le _) (by decide) | exact Nat.lt_trans (Nat.mod_lt _ (by decide)) (by decide)) (by first | omega | exact Nat.lt_of_le_of_lt (popc_le _) (by decide)) dX8_blame_48 (by decide) (fun c48 => ?_) (fun c48 => ?_)
          · skip
            refine lv_iload hx hb dX8_blame_116 (lv_at hl 1 rfl) ?_
            refine mv_if_eq (tgt := 155) hx hb (by first | omega | exact Nat.lt_trans (bN_lt _) (by decide) | exact Nat.lt_of_le_of_lt Nat.and_le_left (by omega) | exact Nat.lt_trans (hro s9 (by omega)) (by decide) | exact Nat.lt_of_le_of_lt (popc_le _) (by decide) | exact Nat.lt_trans (Nat.mod_lt _ (by decide)) (by decide)) dX8_blame_118 (by decide) (fun c118 => ?_) (fun c118 => ?_)
            · skip
              refine lv_iconst (v := nI 0) hx hb dX8_blame_155 (by decide) ?_
              exact L156  0 (by rw [okB_f1 hk2 (bN_0.mp (by rw [← show s9 = 10 by omega]; omega)), Bool.and_false]; rfl) (by first | assumption | omega | rfl) _ _ _ hP hD hS (lv_sub hl [3, 4, 5, 6, 7] rfl)
            · skip
              refine lv_aload_n hx hb dX8_blame_121 rfl (lv_at hl 5 rfl) ?_
              refine va_get (D := D) (ci := 8) (v := .ref ob) (C := RX8) (T := TX8) (N := 21) hx hb hts inlX8 hown hK hP 0 rfl rfl 0 (by decide) (hts _ mw_83) (fun _ h9 => h9) rfl dX8_blame_122 ?_
              refine lv_iload_n hx hb dX8_blame_125 rfl (lv_at hl 6 rfl) ?_
              refine mv_iald hx hb hK hP 1 rfl (i := kx1) (by omega) (by decide) dX8_blame_126 ?_
              rw [show (bk gh gca gun prs yrs) kx1 = gh kx1 from bk_h (by omega)]
              refine lv_iload hx hb dX8_blame_127 (lv_at hl 2 rfl) ?_
              refine lv_iconst (v := nI 4294967295) hx hb dX8_blame_129 (by decide) ?_
              refine mv_ixor hx hb dX8_blame_130 ?_
              refine mv_iand hx hb dX8_blame_131 ?_
              refine mv_if_ne (tgt := 155) hx hb (by first | omega | exact Nat.lt_trans (bN_lt _) (by decide) | exact Nat.lt_of_le_of_lt Nat.and_le_left (by omega) | exact Nat.lt_trans (hro s9 (by omega)) (by decide) | exact Nat.lt_of_le_of_lt (popc_le _) (by decide) | exact Nat.lt_trans (Nat.mod_lt _ (by decide)) (by decide)) dX8_blame_132 (by decide) (fun c132 => ?_) (fun c132 => ?_)
              · skip
                refine lv_iconst (v := nI 0) hx hb dX8_blame_155 (by decide) ?_
                exact L156  0 (by rw [okB_f2 (by rw [← show s9 = 10 by omega, ← hcv]; exact c132), Bool.and_false]; rfl) (by first | assumption | omega | rfl) _ _ _ hP hD hS (lv_sub hl [3, 4, 5, 6, 7] rfl)
              · skip
                have hok9 : okB (sinS gro kx1 10) (gh kx1) gsh k = true := okB_t hk2 (bN_1.mp (by rw [← show s9 = 10 by omega]; omega)) (by rw [← show s9 = 10 by omega, ← hcv]; omega)
                rcases fd with _ | f2
                · skip
                  skip
                  have hl : lv_has ls 8 [(7, .int (nI s9)), (6, .int (nI hr)), (5, .int (nI cv)), (4, .int (nI k)), (3, .int (oI none)), (0, .ref o), (1, .int (nI kx1)), (2, .int (nI kx2))] := hl
                  refine lv_iload_n hx hb dX8_blame_135 rfl (lv_at hl 4 rfl) ?_
                  refine lv_if_lt (tgt := 151) hx hb dX8_blame_136 (by decide) (fun c136 => ?_) (fun c136 => ?_)
                  · skip
                    refine lv_iconst (v := nI 1) hx hb dX8_blame_151 (by decide) ?_
                    refine lv_goto (tgt := 156) hx hb dX8_blame_152 (by decide) ?_
                    exact L156  1 (by rw [hok9]; rfl) (by first | assumption | omega | rfl) _ _ _ hP hD hS (lv_sub hl [3, 4, 5, 6, 7] rfl)
                  · skip
                    exact absurd (by decide) c136
                · skip
                  have hf2 := blS_bd _ _ _ _ f2 hfd.symm
                  have hl : lv_has ls 8 [(7, .int (nI s9)), (6, .int (nI hr)), (5, .int (nI cv)), (4, .int (nI k)), (3, .int (nI f2)), (0, .ref o), (1, .int (nI kx1)), (2, .int (nI kx2))] := hl
                  refine lv_iload_n hx hb dX8_blame_135 rfl (lv_at hl 4 rfl) ?_
                  refine mv_if_lt (tgt := 151) hx hb (by first | omega | exact Nat.lt_trans (bN_lt _) (by decide) | exact Nat.lt_of_le_of_lt Nat.and_le_left (by omega) | exact Nat.lt_trans (hro s9 (by omega)) (by decide) | exact Nat.lt_of_le_of_lt (popc_le _) (by decide) | exact Nat.lt_trans (Nat.mod_lt _ (by decide)) (by decide)) dX8_blame_136 (by decide) (fun c136 => ?_) (fun c136 => ?_)
                  · skip
                    exact absurd c136 (Nat.not_lt_zero _)
                  · skip
                    refine lv_iload hx hb dX8_blame_139 (lv_at hl 3 rfl) ?_
                    refine mv_callSi (nA := 1) (As := [.int (nI k)]) (rest := []) (Wc := []) (wr := [(o, .inr (8, [.ref ob, .ref on, .ref ow8, .ref os, .ref oe, .int (nI sc8), .ref oi, .int (nI cn8), .ref op, .int (nI bt), .int (oI gA), .int (oI gR), .int rs8, .int (nI a8), .ref oz, .ref oc8, .ref oq, .ref om, .ref oy, .ref og, .ref ok8])), (ob, .inl (Y 0, 24, .inl (aN (bk gh gca gun prs yrs)))), (ow8, .inl (Y 0, 10, .inl (aN gro))), (os, .inl (Y 0, 10, .inl (aN gsh)))]) hx hb hml hown hts hK hP hD hS hST hA hl.1 (c_X8_bits l D Y _ k (by first | assumption | omega | rfl)) [] [0, 1, 2, 3] rfl rfl (by decide) (by decide) (by decide) rfl mw_437 mw_438 mw_5 mw_439 ⟨by decide, by decide, by decide +kernel⟩ rfl ⟨Nat.le_of_ble_eq_true rfl, Nat.le_of_ble_eq_true rfl⟩ rfl (Nat.le_of_ble_eq_true rfl) dX8_blame_141 ⟨Nat.le_of_ble_eq_true rfl, Nat.le_of_ble_eq_true rfl⟩ (fun r_2 ux H locs hr141 hP hD hS hz141 => ?_)
                    have hP := hP.sub (ws' := [(o, .inr (8, [.ref ob, .ref on, .ref ow8, .ref os, .ref oe, .int (nI sc8), .ref oi, .int (nI cn8), .ref op, .int (nI bt), .int (oI gA), .int (oI gR), .int rs8, .int (nI a8), .ref oz, .ref oc8, .ref oq, .ref om, .ref oy, .ref og, .ref ok8])), (ob, .inl (Y 0, 24, .inl (aN (bk gh gca gun prs yrs)))), (ow8, .inl (Y 0, 10, .inl (aN gro))), (os, .inl (Y 0, 10, .inl (aN gsh)))]) [0, 1, 2, 3] rfl
                    have hD := hD.sub (ws' := [(o, .inr (8, [.ref ob, .ref on, .ref ow8, .ref os, .ref oe, .int (nI sc8), .ref oi, .int (nI cn8), .ref op, .int (nI bt), .int (oI gA), .int (oI gR), .int rs8, .int (nI a8), .ref oz, .ref oc8, .ref oq, .ref om, .ref oy, .ref og, .ref ok8])), (ob, .inl (Y 0, 24, .inl (aN (bk gh gca gun prs yrs)))), (ow8, .inl (Y 0, 10, .inl (aN gro))), (os, .inl (Y 0, 10, .inl (aN gsh)))]) [0, 1, 2, 3] (by decide) rfl
                    have hr141 : r_2 = nI (popc k) := hr141
                    subst hr141
                    refine lv_iload_n hx hb dX8_blame_144 rfl (lv_at hl 4 rfl) ?_
                    refine mv_callSi (nA := 1) (As := [.int (nI f2)]) (rest := [.int (nI (popc k))]) (Wc := []) (wr := [(o, .inr (8, [.ref ob, .ref on, .ref ow8, .ref os, .ref oe, .int (nI sc8), .ref oi, .int (nI cn8), .ref op, .int (nI bt), .int (oI gA), .int (oI gR), .int rs8, .int (nI a8), .ref oz, .ref oc8, .ref oq, .ref om, .ref oy, .ref og, .ref ok8])), (ob, .inl (Y 0, 24, .inl (aN (bk gh gca gun prs yrs)))), (ow8, .inl (Y 0, 10, .inl (aN gro))), (os, .inl (Y 0, 10, .inl (aN gsh)))]) hx hb hml hown hts hK hP hD hS hST hA hl.1 (c_X8_bits l D Y _ f2 (by first | assumption | omega | rfl)) [] [0, 1, 2, 3] rfl rfl (by decide) (by decide) (by decide) rfl mw_437 mw_438 mw_5 mw_439 ⟨by decide, by decide, by decide +kernel⟩ rfl ⟨Nat.le_of_ble_eq_true rfl, Nat.le_of_ble_eq_true rfl⟩ rfl (Nat.le_of_ble_eq_true rfl) dX8_blame_145 ⟨Nat.le_of_ble_eq_true rfl, Nat.le_of_ble_eq_true rfl⟩ (fun r_3 ux H locs hr145 hP hD hS hz145 => ?_)
                    have hP := hP.sub (ws' := [(o, .inr (8, [.ref ob, .ref on, .ref ow8, .ref os, .ref oe, .int (nI sc8), .ref oi, .int (nI cn8), .ref op, .int (nI bt), .int (oI gA), .int (oI gR), .int rs8, .int (nI a8), .ref oz, .ref oc8, .ref oq, .ref om, .ref oy, .ref og, .ref ok8])), (ob, .inl (Y 0, 24, .inl (aN (bk gh gca gun prs yrs)))), (ow8, .inl (Y 0, 10, .inl (aN gro))), (os, .inl (Y 0, 10, .inl (aN gsh)))]) [0, 1, 2, 3] rfl
                    have hD := hD.sub (ws' := [(o, .inr (8, [.ref ob, .ref on, .ref ow8, .ref os, .ref oe, .int (nI sc8), .ref oi, .int (nI cn8), .ref op, .int (nI bt), .int (oI gA), .int (oI gR), .int rs8, .int (nI a8), .ref oz, .ref oc8, .ref oq, .ref om, .ref oy, .ref og, .ref ok8])), (ob, .inl (Y 0, 24, .inl (aN (bk gh gca gun prs yrs)))), (ow8, .inl (Y 0, 10, .inl (aN gro))), (os, .inl (Y 0, 10, .inl (aN gsh)))]) [0, 1, 2, 3] (by decide) rfl
                    have hr145 : r_3 = nI (popc f2) := hr145
                    subst hr145
                    refine mv_icmp_ge (tgt := 155) hx hb (by first | omega | exact Nat.lt_trans (bN_lt _) (by decide) | exact Nat.lt_of_le_of_lt Nat.and_le_left (by omega) | exact Nat.lt_trans (hro s9 (by omega)) (by decide) | exact Nat.lt_of_le_of_lt (popc_le _) (by decide) | exact Nat.lt_trans (Nat.mod_lt _ (by decide)) (by decide)) (by first | omega | exact Nat.lt_of_le_of_lt (popc_le _) (by decide)) dX8_blame_148 (by decide) (fun c148 => ?_) (fun c148 => ?_)
                    · skip
                      refine lv_iconst (v := nI 0) hx hb dX8_blame_155 (by decide) ?_
                      exact L156  0 (by rw [hok9, show fwB (some f2) k = false from decide_eq_false (by omega)]; rfl) (by first | assumption | omega | rfl) _ _ _ hP hD hS (lv_sub hl [3, 4, 5, 6, 7] rfl)
                    · skip
                      refine lv_iconst (v := nI 1) hx hb dX8_blame_151 (by decide) ?_
                      refine lv_goto (tgt := 156) hx hb dX8_blame_152 (by decide) ?_
                      exact L156  1 (by rw [hok9, show fwB (some f2) k = true from decide_eq_true (by omega)]; rfl) (by first | assumption | omega | rfl) _ _ _ hP hD hS (lv_sub hl [3, 4, 5, 6, 7] rfl)
          · skip
            refine lv_iload hx hb dX8_blame_51 (lv_at hl 1 rfl) ?_
            refine mv_if_eq (tgt := 81) hx hb (by first | omega | exact Nat.lt_trans (bN_lt _) (by decide) | exact Nat.lt_of_le_of_lt Nat.and_le_left (by omega) | exact Nat.lt_trans (hro s9 (by omega)) (by decide) | exact Nat.lt_of_le_of_lt (popc_le _) (by decide) | exact Nat.lt_trans (Nat.mod_lt _ (by decide)) (by decide)) dX8_blame_53 (by decide) (fun c53 => ?_) (fun c53 => ?_)
            · skip
              refine lv_iconst (v := nI 0) hx hb dX8_blame_81 (by decide) ?_
              exact L82  0 (by rw [hrS, show hrS gro kx1 k s9 = false from bN_0.mp (by omega)]; rfl) (by first | assumption | omega | rfl) _ _ _ hP hD hS (lv_sub hl [0, 2, 3, 4, 5, 6, 7] rfl)
            · skip
              refine lv_iload hx hb dX8_blame_56 (lv_at hl 3 rfl) ?_
              refine lv_iload hx hb dX8_blame_58 (lv_at hl 0 rfl) ?_
              refine mv_callSi (nA := 2) (As := [.int (nI k), .int (nI s9)]) (rest := []) (Wc := []) (wr := [(o, .inr (8, [.ref ob, .ref on, .ref ow8, .ref os, .ref oe, .int (nI sc8), .ref oi, .int (nI cn8), .ref op, .int (nI bt), .int (oI gA), .int (oI gR), .int rs8, .int (nI a8), .ref oz, .ref oc8, .ref oq, .ref om, .ref oy, .ref og, .ref ok8])), (ob, .inl (Y 0, 24, .inl (aN (bk gh gca gun prs yrs)))), (ow8, .inl (Y 0, 10, .inl (aN gro))), (os, .inl (Y 0, 10, .inl (aN gsh)))]) hx hb hml hown hts hK hP hD hS hST hA hl.1 (c_X8_has l D Y _ k s9 (by first | assumption | omega | rfl) (by first | assumption | omega | rfl)) [] [0, 1, 2, 3] rfl rfl (by decide) (by decide) (by decide) rfl mw_334 mw_335 mw_5 mw_336 ⟨by decide, by decide, by decide +kernel⟩ rfl ⟨Nat.le_of_ble_eq_true rfl, Nat.le_of_ble_eq_true rfl⟩ rfl (Nat.le_of_ble_eq_true rfl) dX8_blame_60 ⟨Nat.le_of_ble_eq_true rfl, Nat.le_of_ble_eq_true rfl⟩ (fun r_4 ux H locs hr60 hP hD hS hz60 => ?_)
              have hP := hP.sub (ws' := [(o, .inr (8, [.ref ob, .ref on, .ref ow8, .ref os, .ref oe, .int (nI sc8), .ref oi, .int (nI cn8), .ref op, .int (nI bt), .int (oI gA), .int (oI gR), .int rs8, .int (nI a8), .ref oz, .ref oc8, .ref oq, .ref om, .ref oy, .ref og, .ref ok8])), (ob, .inl (Y 0, 24, .inl (aN (bk gh gca gun prs yrs)))), (ow8, .inl (Y 0, 10, .inl (aN gro))), (os, .inl (Y 0, 10, .inl (aN gsh)))]) [0, 1, 2, 3] rfl
              have hD := hD.sub (ws' := [(o, .inr (8, [.ref ob, .ref on, .ref ow8, .ref os, .ref oe, .int (nI sc8), .ref oi, .int (nI cn8), .ref op, .int (nI bt), .int (oI gA), .int (oI gR), .int rs8, .int (nI a8), .ref oz, .ref oc8, .ref oq, .ref om, .ref oy, .ref og, .ref ok8])), (ob, .inl (Y 0, 24, .inl (aN (bk gh gca gun prs yrs)))), (ow8, .inl (Y 0, 10, .inl (aN gro))), (os, .inl (Y 0, 10, .inl (aN gsh)))]) [0, 1, 2, 3] (by decide) rfl
              have hr60 : r_4 = nI (k / 2 ^ s9 % 2) := hr60
              subst hr60
              refine mv_if_eq (tgt := 77) hx hb (by first | omega | exact Nat.lt_trans (bN_lt _) (by decide) | exact Nat.lt_of_le_of_lt Nat.and_le_left (by omega) | exact Nat.lt_trans (hro s9 (by omega)) (by decide) | exact Nat.lt_of_le_of_lt (popc_le _) (by decide) | exact Nat.lt_trans (Nat.mod_lt _ (by decide)) (by decide)) dX8_blame_63 (by decide) (fun c63 => ?_) (fun c63 => ?_)
              · skip
                refine lv_iconst (v := nI 1) hx hb dX8_blame_77 (by decide) ?_
                refine lv_goto (tgt := 82) hx hb dX8_blame_78 (by decide) ?_
                exact L82  1 (by rw [hrS, show hrS gro kx1 k s9 = true from bN_1.mp (by omega), decide_eq_true (by omega)]; rfl) (by first | assumption | omega | rfl) _ _ _ hP hD hS (lv_sub hl [0, 2, 3, 4, 5, 6, 7] rfl)
              · skip
                refine lv_aload_n hx hb dX8_blame_66 rfl (lv_at hl 5 rfl) ?_
                refine va_get (D := D) (ci := 8) (v := .ref ow8) (C := RX8) (T := TX8) (N := 21) hx hb hts inlX8 hown hK hP 0 rfl rfl 2 (by decide) (hts _ mw_85) (fun _ h9 => h9) rfl dX8_blame_67 ?_
                refine lv_iload hx hb dX8_blame_70 (lv_at hl 0 rfl) ?_
                refine mv_iald hx hb hK hP 2 rfl (i := s9) (by omega) (by decide) dX8_blame_72 ?_
                refine lv_iload_n hx hb dX8_blame_73 rfl (lv_at hl 6 rfl) ?_
                refine mv_icmp_ne (tgt := 81) hx hb (by first | omega | exact Nat.lt_trans (bN_lt _) (by decide) | exact Nat.lt_of_le_of_lt Nat.and_le_left (by omega) | exact Nat.lt_trans (hro s9 (by omega)) (by decide) | exact Nat.lt_of_le_of_lt (popc_le _) (by decide) | exact Nat.lt_trans (Nat.mod_lt _ (by decide)) (by decide)) (by first | omega | exact Nat.lt_of_le_of_lt (popc_le _) (by decide)) dX8_blame_74 (by decide) (fun c74 => ?_) (fun c74 => ?_)
                · skip
                  refine lv_iconst (v := nI 0) hx hb dX8_blame_81 (by decide) ?_
                  exact L82  0 (by rw [hrS, decide_eq_false (by omega), decide_eq_false c74, Bool.or_false, Bool.and_false]; rfl) (by first | assumption | omega | rfl) _ _ _ hP hD hS (lv_sub hl [0, 2, 3, 4, 5, 6, 7] rfl)
                · skip
                  refine lv_iconst (v := nI 1) hx hb dX8_blame_77 (by decide) ?_
                  refine lv_goto (tgt := 82) hx hb dX8_blame_78 (by decide) ?_
                  exact L82  1 (by rw [hrS, show hrS gro kx1 k s9 = true from bN_1.mp (by omega), decide_eq_true (show gro s9 = kx1 by omega), Bool.or_true]; rfl) (by first | assumption | omega | rfl) _ _ _ hP hD hS (lv_sub hl [0, 2, 3, 4, 5, 6, 7] rfl)
      refine lv_iload hx hb dX8_blame_27 (lv_at hl 1 rfl) ?_
      refine lv_sipush (v := nI 1024) hx hb dX8_blame_29 (by decide) ?_
      refine mv_icmp_ge (tgt := 176) hx hb (by first | omega | exact Nat.lt_trans (bN_lt _) (by decide) | exact Nat.lt_of_le_of_lt Nat.and_le_left (by omega) | exact Nat.lt_trans (hro s9 (by omega)) (by decide) | exact Nat.lt_of_le_of_lt (popc_le _) (by decide) | exact Nat.lt_trans (Nat.mod_lt _ (by decide)) (by decide)) (by first | omega | exact Nat.lt_of_le_of_lt (popc_le _) (by decide)) dX8_blame_32 (by decide) (fun c32 => ?_) (fun c32 => ?_)
      · skip
        rcases fd with _ | f2
        · skip
          have hbl := hfd.symm
          rw [show k = 1024 by omega] at hbl
          have hl : lv_has ls 8 [(3, .int (oI none)), (4, .int (nI k)), (0, .ref o), (1, .int (nI kx1)), (2, .int (nI kx2))] := hl
          refine lv_iload_n hx hb dX8_blame_176 rfl (lv_at hl 0 rfl) ?_
          refine lv_if_lt (tgt := 185) hx hb dX8_blame_177 (by decide) (fun c177 => ?_) (fun c177 => ?_)
          · skip
            refine lv_iload_n hx hb dX8_blame_185 rfl (lv_at hl 0 rfl) ?_
            refine lv_goto (tgt := 193) hx hb dX8_blame_186 (by decide) ?_
            exact mv_iret hx hb hr hlocks () (by simp only [sp_blame, e1, hq1, hcl1, e2, hq2, hcl2, hbl, Bool.not_true, Bool.not_false, if_true, if_false, Bool.false_eq_true, reduceIte, Bool.true_and, Bool.and_true, Bool.false_and, Bool.and_false, Bool.or_false, Bool.or_true, ite_self] <;> (split <;> rfl)) hP hK hD hS dX8_blame_193
          · skip
            exact absurd (by decide) c177
        · skip
          have hf2 := blS_bd _ _ _ _ f2 hfd.symm
          have hbl := hfd.symm
          rw [show k = 1024 by omega] at hbl
          have hl : lv_has ls 8 [(3, .int (nI f2)), (4, .int (nI k)), (0, .ref o), (1, .int (nI kx1)), (2, .int (nI kx2))] := hl
          refine lv_iload_n hx hb dX8_blame_176 rfl (lv_at hl 0 rfl) ?_
          refine mv_if_lt (tgt := 185) hx hb (by first | omega | exact Nat.lt_trans (bN_lt _) (by decide) | exact Nat.lt_of_le_of_lt Nat.and_le_left (by omega) | exact Nat.lt_trans (hro s9 (by omega)) (by decide) | exact Nat.lt_of_le_of_lt (popc_le _) (by decide) | exact Nat.lt_trans (Nat.mod_lt _ (by decide)) (by decide)) dX8_blame_177 (by decide) (fun c177 => ?_) (fun c177 => ?_)
          · skip
            exact absurd c177 (Nat.not_lt_zero _)
          · skip
            refine lv_iload_n hx hb dX8_blame_180 rfl (lv_at hl 4 rfl) ?_
            refine lv_iconst (v := nI 1) hx hb dX8_blame_181 (by decide) ?_
            refine mv_icmp_ne (tgt := 189) hx hb (by first | omega | exact Nat.lt_trans (bN_lt _) (by decide) | exact Nat.lt_of_le_of_lt Nat.and_le_left (by omega) | exact Nat.lt_trans (hro s9 (by omega)) (by decide) | exact Nat.lt_of_le_of_lt (popc_le _) (by decide) | exact Nat.lt_trans (Nat.mod_lt _ (by decide)) (by decide)) (by first | omega | exact Nat.lt_of_le_of_lt (popc_le _) (by decide)) dX8_blame_182 (by decide) (fun c182 => ?_) (fun c182 => ?_)
            · skip
              refine lv_iload_n hx hb dX8_blame_189 rfl (lv_at hl 0 rfl) ?_
              refine mv_callSi (nA := 1) (As := [.int (nI f2)]) (rest := []) (Wc := []) (wr := [(o, .inr (8, [.ref ob, .ref on, .ref ow8, .ref os, .ref oe, .int (nI sc8), .ref oi, .int (nI cn8), .ref op, .int (nI bt), .int (oI gA), .int (oI gR), .int rs8, .int (nI a8), .ref oz, .ref oc8, .ref oq, .ref om, .ref oy, .ref og, .ref ok8])), (ob, .inl (Y 0, 24, .inl (aN (bk gh gca gun prs yrs)))), (ow8, .inl (Y 0, 10, .inl (aN gro))), (os, .inl (Y 0, 10, .inl (aN gsh)))]) hx hb hml hown hts hK hP hD hS hST hA hl.1 (c_X8_bits l D Y _ f2 (by first | assumption | omega | rfl)) [] [0, 1, 2, 3] rfl rfl (by decide) (by decide) (by decide) rfl mw_437 mw_438 mw_5 mw_439 ⟨by decide, by decide, by decide +kernel⟩ rfl ⟨Nat.le_of_ble_eq_true rfl, Nat.le_of_ble_eq_true rfl⟩ rfl (Nat.le_of_ble_eq_true rfl) dX8_blame_190 ⟨Nat.le_of_ble_eq_true rfl, Nat.le_of_ble_eq_true rfl⟩ (fun r_5 ux H locs hr190 hP hD hS hz190 => ?_)
              have hP := hP.sub (ws' := [(o, .inr (8, [.ref ob, .ref on, .ref ow8, .ref os, .ref oe, .int (nI sc8), .ref oi, .int (nI cn8), .ref op, .int (nI bt), .int (oI gA), .int (oI gR), .int rs8, .int (nI a8), .ref oz, .ref oc8, .ref oq, .ref om, .ref oy, .ref og, .ref ok8])), (ob, .inl (Y 0, 24, .inl (aN (bk gh gca gun prs yrs)))), (ow8, .inl (Y 0, 10, .inl (aN gro))), (os, .inl (Y 0, 10, .inl (aN gsh)))]) [0, 1, 2, 3] rfl
              have hD := hD.sub (ws' := [(o, .inr (8, [.ref ob, .ref on, .ref ow8, .ref os, .ref oe, .int (nI sc8), .ref oi, .int (nI cn8), .ref op, .int (nI bt), .int (oI gA), .int (oI gR), .int rs8, .int (nI a8), .ref oz, .ref oc8, .ref oq, .ref om, .ref oy, .ref og, .ref ok8])), (ob, .inl (Y 0, 24, .inl (aN (bk gh gca gun prs yrs)))), (ow8, .inl (Y 0, 10, .inl (aN gro))), (os, .inl (Y 0, 10, .inl (aN gsh)))]) [0, 1, 2, 3] (by decide) rfl
              have hr190 : r_5 = nI (popc f2) := hr190
              subst hr190
              exact mv_iret hx hb hr hlocks () (by simp only [sp_blame, e1, hq1, hcl1, e2, hq2, hcl2, hbl, Bool.not_true, Bool.not_false, if_true, if_false, Bool.false_eq_true, reduceIte, Bool.true_and, Bool.and_true, Bool.false_and, Bool.and_false, Bool.or_false, Bool.or_true, ite_self] <;> (rw [if_pos (by omega)]; rfl)) hP hK hD hS dX8_blame_193
            · skip
              refine lv_iload_n hx hb dX8_blame_185 rfl (lv_at hl 0 rfl) ?_
              refine lv_goto (tgt := 193) hx hb dX8_blame_186 (by decide) ?_
              exact mv_iret hx hb hr hlocks () (by simp only [sp_blame, e1, hq1, hcl1, e2, hq2, hcl2, hbl, Bool.not_true, Bool.not_false, if_true, if_false, Bool.false_eq_true, reduceIte, Bool.true_and, Bool.and_true, Bool.false_and, Bool.and_false, Bool.or_false, Bool.or_true, ite_self] <;> (rw [if_neg (by omega)]; rfl)) hP hK hD hS dX8_blame_193
      · skip
        refine lv_iconst (v := nI 0) hx hb dX8_blame_35 (by decide) ?_
        refine lv_istore (lv' := [(5, .int (nI 0)), (3, .int (oI fd)), (4, .int (nI k)), (0, .ref o), (1, .int (nI kx1)), (2, .int (nI kx2))]) hx hb dX8_blame_36 hl (by decide) rfl (fun ls hl => ?_)
        refine lv_iconst (v := nI 1) hx hb dX8_blame_38 (by decide) ?_
        refine lv_istore (lv' := [(6, .int (nI 1)), (5, .int (nI 0)), (3, .int (oI fd)), (4, .int (nI k)), (0, .ref o), (1, .int (nI kx1)), (2, .int (nI kx2))]) hx hb dX8_blame_39 hl (by decide) rfl (fun ls hl => ?_)
        refine lv_iconst (v := nI 0) hx hb dX8_blame_41 (by decide) ?_
        refine lv_istore (lv' := [(7, .int (nI 0)), (6, .int (nI 1)), (5, .int (nI 0)), (3, .int (oI fd)), (4, .int (nI k)), (0, .ref o), (1, .int (nI kx1)), (2, .int (nI kx2))]) hx hb dX8_blame_42 hl (by decide) rfl (fun ls hl => ?_)
        exact L44 (10 - 0 + 1) 0 0 1 (by first | assumption | omega | rfl) (rfl) (rfl) (by first | assumption | omega | rfl) (Nat.lt_succ_self _) _ _ _ hP hD hS (lv_sub hl [0, 1, 2, 4, 3, 5, 6, 7] rfl)
  refine lv_iload_n hx hb dX8_blame_0 rfl (lv_at hl 1 rfl) ?_
  refine mv_callSi (nA := 1) (As := [.int x1]) (rest := []) (Wc := []) (wr := [(o, .inr (8, [.ref ob, .ref on, .ref ow8, .ref os, .ref oe, .int (nI sc8), .ref oi, .int (nI cn8), .ref op, .int (nI bt), .int (oI gA), .int (oI gR), .int rs8, .int (nI a8), .ref oz, .ref oc8, .ref oq, .ref om, .ref oy, .ref og, .ref ok8])), (ob, .inl (Y 0, 24, .inl (aN (bk gh gca gun prs yrs)))), (ow8, .inl (Y 0, 10, .inl (aN gro))), (os, .inl (Y 0, 10, .inl (aN gsh)))]) hx hb hml hown hts hK hP hD hS hST hA hl.1 (c_X8_isRobe l D Y _ x1 ) [] [0, 1, 2, 3] rfl rfl (by decide) (by decide) (by decide) rfl mw_118 mw_119 mw_5 mw_120 ⟨by decide, by decide, by decide +kernel⟩ rfl ⟨Nat.le_of_ble_eq_true rfl, Nat.le_of_ble_eq_true rfl⟩ rfl (Nat.le_of_ble_eq_true rfl) dX8_blame_1 ⟨Nat.le_of_ble_eq_true rfl, Nat.le_of_ble_eq_true rfl⟩ (fun r_6 ux H locs hr1 hP hD hS hz1 => ?_)
  have hP := hP.sub (ws' := [(o, .inr (8, [.ref ob, .ref on, .ref ow8, .ref os, .ref oe, .int (nI sc8), .ref oi, .int (nI cn8), .ref op, .int (nI bt), .int (oI gA), .int (oI gR), .int rs8, .int (nI a8), .ref oz, .ref oc8, .ref oq, .ref om, .ref oy, .ref og, .ref ok8])), (ob, .inl (Y 0, 24, .inl (aN (bk gh gca gun prs yrs)))), (ow8, .inl (Y 0, 10, .inl (aN gro))), (os, .inl (Y 0, 10, .inl (aN gsh)))]) [0, 1, 2, 3] rfl
  have hD := hD.sub (ws' := [(o, .inr (8, [.ref ob, .ref on, .ref ow8, .ref os, .ref oe, .int (nI sc8), .ref oi, .int (nI cn8), .ref op, .int (nI bt), .int (oI gA), .int (oI gR), .int rs8, .int (nI a8), .ref oz, .ref oc8, .ref oq, .ref om, .ref oy, .ref og, .ref ok8])), (ob, .inl (Y 0, 24, .inl (aN (bk gh gca gun prs yrs)))), (ow8, .inl (Y 0, 10, .inl (aN gro))), (os, .inl (Y 0, 10, .inl (aN gsh)))]) [0, 1, 2, 3] (by decide) rfl
  have hr1 : r_6 = nI (bN (inQ x1 0 5)) := hr1
  subst hr1
  refine mv_if_ne (tgt := 9) hx hb (by first | omega | exact Nat.lt_trans (bN_lt _) (by decide) | exact Nat.lt_of_le_of_lt Nat.and_le_left (by omega) | exact Nat.lt_trans (hro s9 (by omega)) (by decide) | exact Nat.lt_of_le_of_lt (popc_le _) (by decide) | exact Nat.lt_trans (Nat.mod_lt _ (by decide)) (by decide)) dX8_blame_4 (by decide) (fun c4 => ?_) (fun c4 => ?_)
  · skip
    obtain ⟨kx1, hka_x1, hkb_x1, rfl⟩ := inQ_ex (by decide) (bN_1.mp c4)
    have hq_x1 : inQ (nI kx1) 0 5 = true := bN_1.mp c4
    have hcl_x1 : (nI kx1).toNatClampNeg = kx1 := nI_clamp (by omega)
    refine lv_iload_n hx hb dX8_blame_9 rfl (lv_at hl 2 rfl) ?_
    refine lv_iconst (v := nI 0) hx hb dX8_blame_10 (by decide) ?_
    refine lv_iconst (v := nI 1) hx hb dX8_blame_11 (by decide) ?_
    refine mv_callSi (nA := 3) (As := [.int x2, .int (nI 0), .int (nI 1)]) (rest := []) (Wc := []) (wr := [(o, .inr (8, [.ref ob, .ref on, .ref ow8, .ref os, .ref oe, .int (nI sc8), .ref oi, .int (nI cn8), .ref op, .int (nI bt), .int (oI gA), .int (oI gR), .int rs8, .int (nI a8), .ref oz, .ref oc8, .ref oq, .ref om, .ref oy, .ref og, .ref ok8])), (ob, .inl (Y 0, 24, .inl (aN (bk gh gca gun prs yrs)))), (ow8, .inl (Y 0, 10, .inl (aN gro))), (os, .inl (Y 0, 10, .inl (aN gsh)))]) hx hb hml hown hts hK hP hD hS hST hA hl.1 (c_X8_inR l D Y _ x2 0 1 ) [] [0, 1, 2, 3] rfl rfl (by decide) (by decide) (by decide) rfl mw_121 mw_122 mw_5 mw_123 ⟨by decide, by decide, by decide +kernel⟩ rfl ⟨Nat.le_of_ble_eq_true rfl, Nat.le_of_ble_eq_true rfl⟩ rfl (Nat.le_of_ble_eq_true rfl) dX8_blame_12 ⟨Nat.le_of_ble_eq_true rfl, Nat.le_of_ble_eq_true rfl⟩ (fun r_7 ux H locs hr12 hP hD hS hz12 => ?_)
    have hP := hP.sub (ws' := [(o, .inr (8, [.ref ob, .ref on, .ref ow8, .ref os, .ref oe, .int (nI sc8), .ref oi, .int (nI cn8), .ref op, .int (nI bt), .int (oI gA), .int (oI gR), .int rs8, .int (nI a8), .ref oz, .ref oc8, .ref oq, .ref om, .ref oy, .ref og, .ref ok8])), (ob, .inl (Y 0, 24, .inl (aN (bk gh gca gun prs yrs)))), (ow8, .inl (Y 0, 10, .inl (aN gro))), (os, .inl (Y 0, 10, .inl (aN gsh)))]) [0, 1, 2, 3] rfl
    have hD := hD.sub (ws' := [(o, .inr (8, [.ref ob, .ref on, .ref ow8, .ref os, .ref oe, .int (nI sc8), .ref oi, .int (nI cn8), .ref op, .int (nI bt), .int (oI gA), .int (oI gR), .int rs8, .int (nI a8), .ref oz, .ref oc8, .ref oq, .ref om, .ref oy, .ref og, .ref ok8])), (ob, .inl (Y 0, 24, .inl (aN (bk gh gca gun prs yrs)))), (ow8, .inl (Y 0, 10, .inl (aN gro))), (os, .inl (Y 0, 10, .inl (aN gsh)))]) [0, 1, 2, 3] (by decide) rfl
    have hr12 : r_7 = nI (bN (inQ x2 0 1)) := hr12
    subst hr12
    refine mv_if_ne (tgt := 21) hx hb (by first | omega | exact Nat.lt_trans (bN_lt _) (by decide) | exact Nat.lt_of_le_of_lt Nat.and_le_left (by omega) | exact Nat.lt_trans (hro s9 (by omega)) (by decide) | exact Nat.lt_of_le_of_lt (popc_le _) (by decide) | exact Nat.lt_trans (Nat.mod_lt _ (by decide)) (by decide)) dX8_blame_15 (by decide) (fun c15 => ?_) (fun c15 => ?_)
    · skip
      obtain ⟨kx2, hka_x2, hkb_x2, rfl⟩ := inQ_ex (by decide) (bN_1.mp c15)
      have hq_x2 : inQ (nI kx2) 0 1 = true := bN_1.mp c15
      have hcl_x2 : (nI kx2).toNatClampNeg = kx2 := nI_clamp (by omega)
      refine lv_bipush (v := -6) hx hb dX8_blame_21 (by decide) ?_
      refine lv_istore_n (lv' := [(3, .int (-6)), (0, .ref o), (1, .int (nI kx1)), (2, .int (nI kx2))]) hx hb dX8_blame_23 rfl hl (by decide) rfl (fun ls hl => ?_)
      refine lv_iconst (v := nI 0) hx hb dX8_blame_24 (by decide) ?_
      refine lv_istore (lv' := [(4, .int (nI 0)), (3, .int (-6)), (0, .ref o), (1, .int (nI kx1)), (2, .int (nI kx2))]) hx hb dX8_blame_25 hl (by decide) rfl (fun ls hl => ?_)
      exact L27 (1024 - 0 + 1) kx1 kx2 0 none (by first | assumption | omega | rfl) (by first | assumption | omega | rfl) (by first | assumption | omega | rfl) (by first | assumption | omega | rfl) (by first | assumption | omega | rfl) (rfl) (Nat.lt_succ_self _) _ _ _ hP hD hS (lv_sub hl [1, 0, 2, 3, 4] rfl)
    · skip
      have hn_x2_c15 : inQ x2 0 1 = false := bN_0.mp c15
      refine lv_bipush (v := -2) hx hb dX8_blame_18 (by decide) ?_
      exact mv_iret hx hb hr hlocks () (by simp only [sp_blame, hq_x1, hcl_x1, hn_x2_c15, Bool.not_true, Bool.not_false, if_true, if_false, Bool.false_eq_true, reduceIte, Bool.true_and, Bool.and_true, Bool.false_and, Bool.and_false, Bool.or_false, Bool.or_true, ite_self]) hP hK hD hS dX8_blame_20
  · skip
    have hn_x1_c4 : inQ x1 0 5 = false := bN_0.mp c4
    refine lv_iconst (v := nI 4294967295) hx hb dX8_blame_7 (by decide) ?_
    exact mv_iret hx hb hr hlocks () (by simp only [sp_blame, hn_x1_c4, Bool.not_true, Bool.not_false, if_true, if_false, Bool.false_eq_true, reduceIte, Bool.true_and, Bool.and_true, Bool.false_and, Bool.and_false, Bool.or_false, Bool.or_true, ite_self]) hP hK hD hS dX8_blame_8
abbrev q_X8_wholeFrom (D : va_G) (Y : Nat → ClassId) (o : Nat) (ob : Nat) (on : Nat) (ow8 : Nat) (os : Nat) (oe : Nat) (oi : Nat) (op : Nat) (oz : Nat) (oc8 : Nat) (oq : Nat) (om : Nat) (oy : Nat) (og : Nat) (ok8 : Nat) (sc8 : Nat) (cn8 : Nat) (bt : Nat) (a8 : Nat) (rs8 : Int32) (gA : Option Nat) (gR : Option Nat) (gh : Nat → Nat) (gca : Nat → Nat) (gun : Nat → Nat) (prs : Nat) (yrs : Nat) (rb : Nat) (c0 : Nat) : (Nat → Prop) → Array Value → State → Outcome → State → Prop := mv_Qi D Y (fun (r : Int32) (_ : Unit) => r = nI (wfS (gh rb) (16 - c0) c0)) (fun _ : Unit => ([(o, .inr (8, [.ref ob, .ref on, .ref ow8, .ref os, .ref oe, .int (nI sc8), .ref oi, .int (nI cn8), .ref op, .int (nI bt), .int (oI gA), .int (oI gR), .int rs8, .int (nI a8), .ref oz, .ref oc8, .ref oq, .ref om, .ref oy, .ref og, .ref ok8])), (ob, .inl (Y 0, 24, .inl (aN (bk gh gca gun prs yrs))))] : va_W))
set_option maxHeartbeats 4000000 in
set_option maxRecDepth 100000 in
theorem c_X8_wholeFrom (l : Launch) (D : va_G) (Y : Nat → ClassId) (sz : Nat) (o : Nat) (ob : Nat) (on : Nat) (ow8 : Nat) (os : Nat) (oe : Nat) (oi : Nat) (op : Nat) (oz : Nat) (oc8 : Nat) (oq : Nat) (om : Nat) (oy : Nat) (og : Nat) (ok8 : Nat) (sc8 : Nat) (cn8 : Nat) (bt : Nat) (a8 : Nat) (rs8 : Int32) (gA : Option Nat) (gR : Option Nat) (gh : Nat → Nat) (gca : Nat → Nat) (gun : Nat → Nat) (prs : Nat) (yrs : Nat) (rb : Nat) (c0 : Nat) (hrb : rb < 6) (hc0 : c0 ≤ 15) (hh : ∀ k, k < 6 → gh k < 65536) : mv_C l D Y yX8_wholeFrom cX8_wholeFrom 4 (some .int) 1 0 0 [.ref o, .int (nI rb), .int (nI c0)] sz [(o, .inr (8, [.ref ob, .ref on, .ref ow8, .ref os, .ref oe, .int (nI sc8), .ref oi, .int (nI cn8), .ref op, .int (nI bt), .int (oI gA), .int (oI gR), .int rs8, .int (nI a8), .ref oz, .ref oc8, .ref oq, .ref om, .ref oy, .ref og, .ref ok8])), (ob, .inl (Y 0, 24, .inl (aN (bk gh gca gun prs yrs))))] (q_X8_wholeFrom D Y o ob on ow8 os oe oi op oz oc8 oq om oy og ok8 sc8 cn8 bt a8 rs8 gA gR gh gca gun prs yrs rb c0) := by
  refine mv_ofW (by decide) (Nat.le_of_ble_eq_true rfl) ?_
  intro p e s m below meth c ls A hx hb hr hlocks hml hnm hown hts hsz hAe hP hK hD hS hST hA hl
  have hl : lv_has ls 4 [(0, .ref o), (1, .int (nI rb)), (2, .int (nI c0))] := hl
  have hhr := hh rb hrb
  have L2 : ∀ (fu : Nat) (k : Nat) (hk : c0 + k ≤ 16) (hf : wfS (gh rb) (16 - c0 - k) (c0 + k) + k = wfS (gh rb) (16 - c0) c0) (hmeas : 16 - k < fu) (H : Heap) (locs : List Loc) (ls : Array Slot), va_P D vwCl [(o, .inr (8, [.ref ob, .ref on, .ref ow8, .ref os, .ref oe, .int (nI sc8), .ref oi, .int (nI cn8), .ref op, .int (nI bt), .int (oI gA), .int (oI gR), .int rs8, .int (nI a8), .ref oz, .ref oc8, .ref oq, .ref om, .ref oy, .ref og, .ref ok8])), (ob, .inl (Y 0, 24, .inl (aN (bk gh gca gun prs yrs))))] H → va_D A [(o, .inr (8, [.ref ob, .ref on, .ref ow8, .ref os, .ref oe, .int (nI sc8), .ref oi, .int (nI cn8), .ref op, .int (nI bt), .int (oI gA), .int (oI gR), .int rs8, .int (nI a8), .ref oz, .ref oc8, .ref oq, .ref om, .ref oy, .ref og, .ref ok8])), (ob, .inl (Y 0, 24, .inl (aN (bk gh gca gun prs yrs))))] → va_S A s.heap H locs → lv_has ls 4 [(3, .int (nI k)), (0, .ref o), (1, .int (nI rb)), (2, .int (nI c0))] → W p l e (mv_R 1 0 0) s m [.ref o, .int (nI rb), .int (nI c0)].toArray below meth c H locs 0 0 (MQ below ((q_X8_wholeFrom D Y o ob on ow8 os oe oi op oz oc8 oq om oy og ok8 sc8 cn8 bt a8 rs8 gA gR gh gca gun prs yrs rb c0) A) [.ref o, .int (nI rb), .int (nI c0)].toArray s 0 0 A) (F0 m 2 ls []) := by
    intro fu
    induction fu with
    | zero =>
      intro k hk hf hmeas
      exact absurd hmeas (Nat.not_lt_zero _)
    | succ fu L2ih =>
      intro k hk hf hmeas H locs ls hP hD hS hl
      refine lv_iload_n hx hb dX8_wholeFrom_2 rfl (lv_at hl 3 rfl) ?_
      refine lv_iload_n hx hb dX8_wholeFrom_3 rfl (lv_at hl 0 rfl) ?_
      refine mv_iadd hx hb dX8_wholeFrom_4 ?_
      refine lv_bipush (v := nI 16) hx hb dX8_wholeFrom_5 (by decide) ?_
      refine mv_icmp_ge (tgt := 31) hx hb (by first | omega | exact Nat.lt_trans (Nat.mod_lt _ (by decide)) (by decide)) (by omega) dX8_wholeFrom_7 (by decide) (fun c7 => ?_) (fun c7 => ?_)
      · skip
        refine lv_iload_n hx hb dX8_wholeFrom_31 rfl (lv_at hl 0 rfl) ?_
        exact mv_iret hx hb hr hlocks () (by rw [← hf, show 16 - c0 - k = 0 by omega]; exact congrArg nI (Nat.zero_add k).symm) hP hK hD hS dX8_wholeFrom_32
      · skip
        refine lv_aload_n hx hb dX8_wholeFrom_10 rfl (lv_at hl 1 rfl) ?_
        refine va_get (D := D) (ci := 8) (v := .ref ob) (C := RX8) (T := TX8) (N := 21) hx hb hts inlX8 hown hK hP 0 rfl rfl 0 (by decide) (hts _ mw_83) (fun _ h9 => h9) rfl dX8_wholeFrom_11 ?_
        refine lv_iload_n hx hb dX8_wholeFrom_14 rfl (lv_at hl 2 rfl) ?_
        refine mv_iald hx hb hK hP 1 rfl (i := rb) (by omega) (by decide) dX8_wholeFrom_15 ?_
        rw [show (bk gh gca gun prs yrs) rb = gh rb from bk_h (by omega)]
        refine lv_iload_n hx hb dX8_wholeFrom_16 rfl (lv_at hl 3 rfl) ?_
        refine lv_iload_n hx hb dX8_wholeFrom_17 rfl (lv_at hl 0 rfl) ?_
        refine mv_iadd hx hb dX8_wholeFrom_18 ?_
        refine mv_callSi (nA := 2) (As := [.int (nI (gh rb)), .int (nI (c0 + k))]) (rest := []) (Wc := []) (wr := [(o, .inr (8, [.ref ob, .ref on, .ref ow8, .ref os, .ref oe, .int (nI sc8), .ref oi, .int (nI cn8), .ref op, .int (nI bt), .int (oI gA), .int (oI gR), .int rs8, .int (nI a8), .ref oz, .ref oc8, .ref oq, .ref om, .ref oy, .ref og, .ref ok8])), (ob, .inl (Y 0, 24, .inl (aN (bk gh gca gun prs yrs))))]) hx hb hml hown hts hK hP hD hS hST hA hl.1 (c_X8_has l D Y _ (gh rb) (c0 + k) (by first | assumption | omega | rfl) (by first | assumption | omega | rfl)) [] [0, 1] rfl rfl (by decide) (by decide) (by decide) rfl mw_334 mw_335 mw_5 mw_336 ⟨by decide, by decide, by decide +kernel⟩ rfl ⟨Nat.le_of_ble_eq_true rfl, Nat.le_of_ble_eq_true rfl⟩ rfl (Nat.le_of_ble_eq_true rfl) dX8_wholeFrom_19 ⟨Nat.le_of_ble_eq_true rfl, Nat.le_of_ble_eq_true rfl⟩ (fun r_1 ux H locs hr19 hP hD hS hz19 => ?_)
        have hP := hP.sub (ws' := [(o, .inr (8, [.ref ob, .ref on, .ref ow8, .ref os, .ref oe, .int (nI sc8), .ref oi, .int (nI cn8), .ref op, .int (nI bt), .int (oI gA), .int (oI gR), .int rs8, .int (nI a8), .ref oz, .ref oc8, .ref oq, .ref om, .ref oy, .ref og, .ref ok8])), (ob, .inl (Y 0, 24, .inl (aN (bk gh gca gun prs yrs))))]) [0, 1] rfl
        have hD := hD.sub (ws' := [(o, .inr (8, [.ref ob, .ref on, .ref ow8, .ref os, .ref oe, .int (nI sc8), .ref oi, .int (nI cn8), .ref op, .int (nI bt), .int (oI gA), .int (oI gR), .int rs8, .int (nI a8), .ref oz, .ref oc8, .ref oq, .ref om, .ref oy, .ref og, .ref ok8])), (ob, .inl (Y 0, 24, .inl (aN (bk gh gca gun prs yrs))))]) [0, 1] (by decide) rfl
        have hr19 : r_1 = nI ((gh rb) / 2 ^ (c0 + k) % 2) := hr19
        subst hr19
        refine mv_if_ne (tgt := 31) hx hb (by first | omega | exact Nat.lt_trans (Nat.mod_lt _ (by decide)) (by decide)) dX8_wholeFrom_22 (by decide) (fun c22 => ?_) (fun c22 => ?_)
        · skip
          refine lv_iload_n hx hb dX8_wholeFrom_31 rfl (lv_at hl 0 rfl) ?_
          exact mv_iret hx hb hr hlocks () (by obtain ⟨n2, hn2⟩ : ∃ z, 16 - c0 - k = z + 1 := ⟨16 - c0 - k - 1, by omega⟩; rw [← hf, hn2, wfS, if_neg (by omega), Nat.zero_add]) hP hK hD hS dX8_wholeFrom_32
        · skip
          refine lv_iinc (v := nI (k + 1)) (lv' := [(3, .int (nI (k + 1))), (0, .ref o), (1, .int (nI rb)), (2, .int (nI c0))]) hx hb dX8_wholeFrom_25 hl (k := 0) rfl (by exact nI_add _ 1) (by decide) rfl (fun ls hl => ?_)
          refine lv_goto (tgt := 2) hx hb dX8_wholeFrom_28 (by decide) ?_
          exact L2ih  (k + 1) (by first | assumption | omega | rfl) (by obtain ⟨n2, hn2⟩ : ∃ z, 16 - c0 - k = z + 1 := ⟨16 - c0 - k - 1, by omega⟩; rw [hn2, wfS, if_pos (by omega)] at hf; rw [show 16 - c0 - (k + 1) = n2 by omega, show c0 + (k + 1) = c0 + k + 1 by omega]; omega) (by omega) _ _ _ hP hD hS (lv_sub hl [0, 1, 2, 3] rfl)
  refine lv_iconst (v := nI 0) hx hb dX8_wholeFrom_0 (by decide) ?_
  refine lv_istore_n (lv' := [(3, .int (nI 0)), (0, .ref o), (1, .int (nI rb)), (2, .int (nI c0))]) hx hb dX8_wholeFrom_1 rfl hl (by decide) rfl (fun ls hl => ?_)
  exact L2 (16 - 0 + 1) 0 (by first | assumption | omega | rfl) (rfl) (Nat.lt_succ_self _) _ _ _ hP hD hS (lv_sub hl [0, 1, 2, 3] rfl)
abbrev q_X8_cuts (D : va_G) (Y : Nat → ClassId) (o : Nat) (ob : Nat) (on : Nat) (ow8 : Nat) (os : Nat) (oe : Nat) (oi : Nat) (op : Nat) (oz : Nat) (oc8 : Nat) (oq : Nat) (om : Nat) (oy : Nat) (og : Nat) (ok8 : Nat) (sc8 : Nat) (cn8 : Nat) (bt : Nat) (a8 : Nat) (rs8 : Int32) (gA : Option Nat) (gR : Option Nat) (gh : Nat → Nat) (gca : Nat → Nat) (gun : Nat → Nat) (prs : Nat) (yrs : Nat) (gt : Nat → Nat) (x1 : Int32) (x2 : Int32) (x3 : Int32) (x4 : Int32) (x5 : Int32) : (Nat → Prop) → Array Value → State → Outcome → State → Prop := mv_Qi D Y (fun (r : Int32) (ux : (Nat → Nat)) => r = sp_cuts gh x1 x2 x3 x4 x5) (fun ux : (Nat → Nat) => ([(o, .inr (8, [.ref ob, .ref on, .ref ow8, .ref os, .ref oe, .int (nI sc8), .ref oi, .int (nI cn8), .ref op, .int (nI bt), .int (oI gA), .int (oI gR), .int rs8, .int (nI a8), .ref oz, .ref oc8, .ref oq, .ref om, .ref oy, .ref og, .ref ok8])), (ob, .inl (Y 0, 24, .inl (aN (bk gh gca gun prs yrs)))), (oz, .inl (Y 0, 17, .inl (aN ux)))] : va_W))
set_option maxHeartbeats 8000000 in
set_option maxRecDepth 100000 in
theorem c_X8_cuts (l : Launch) (D : va_G) (Y : Nat → ClassId) (sz : Nat) (o : Nat) (ob : Nat) (on : Nat) (ow8 : Nat) (os : Nat) (oe : Nat) (oi : Nat) (op : Nat) (oz : Nat) (oc8 : Nat) (oq : Nat) (om : Nat) (oy : Nat) (og : Nat) (ok8 : Nat) (sc8 : Nat) (cn8 : Nat) (bt : Nat) (a8 : Nat) (rs8 : Int32) (gA : Option Nat) (gR : Option Nat) (gh : Nat → Nat) (gca : Nat → Nat) (gun : Nat → Nat) (prs : Nat) (yrs : Nat) (gt : Nat → Nat) (x1 : Int32) (x2 : Int32) (x3 : Int32) (x4 : Int32) (x5 : Int32) (hh : ∀ k, k < 6 → gh k < 65536) : mv_C l D Y yX8_cuts cX8_cuts 9 (some .int) 2 0 0 [.ref o, .int x1, .int x2, .int x3, .int x4, .int x5] sz [(o, .inr (8, [.ref ob, .ref on, .ref ow8, .ref os, .ref oe, .int (nI sc8), .ref oi, .int (nI cn8), .ref op, .int (nI bt), .int (oI gA), .int (oI gR), .int rs8, .int (nI a8), .ref oz, .ref oc8, .ref oq, .ref om, .ref oy, .ref og, .ref ok8])), (ob, .inl (Y 0, 24, .inl (aN (bk gh gca gun prs yrs)))), (oz, .inl (Y 0, 17, .inl (aN gt)))] (q_X8_cuts D Y o ob on ow8 os oe oi op oz oc8 oq om oy og ok8 sc8 cn8 bt a8 rs8 gA gR gh gca gun prs yrs gt x1 x2 x3 x4 x5) := by
  refine mv_ofW (by decide) (Nat.le_of_ble_eq_true rfl) ?_
  intro p e s m below meth c ls A hx hb hr hlocks hml hnm hown hts hsz hAe hP hK hD hS hST hA hl
  have hl : lv_has ls 9 [(0, .ref o), (1, .int x1), (2, .int x2), (3, .int x3), (4, .int x4), (5, .int x5)] := hl
  have L66 : ∀ (fu : Nat) (kx1 : Nat) (kx2 : Nat) (kx3 : Nat) (kx4 : Nat) (kx5 : Nat) (cc : Nat) (gz : Nat → Nat) (e1 : x1 = nI kx1) (hi1 : kx1 ≤ 5) (e2 : x2 = nI kx2) (lo2 : 1 ≤ kx2) (hi2 : kx2 ≤ 16) (e3 : x3 = nI kx3) (hi3 : kx3 ≤ 99) (e4 : x4 = nI kx4) (lo4 : 1 ≤ kx4) (hi4 : kx4 ≤ 16) (e5 : x5 = nI kx5) (hi5 : kx5 ≤ 99) (hc : cc ≤ 16) (ht : stR (gh kx1) kx2 kx3 kx4 kx5 gz cc) (hbd : ∀ j, cc ≤ j → j ≤ 16 → gz j ≤ 99 * (16 - j)) (hmeas : cc < fu) (H : Heap) (locs : List Loc) (ls : Array Slot), va_P D vwCl [(o, .inr (8, [.ref ob, .ref on, .ref ow8, .ref os, .ref oe, .int (nI sc8), .ref oi, .int (nI cn8), .ref op, .int (nI bt), .int (oI gA), .int (oI gR), .int rs8, .int (nI a8), .ref oz, .ref oc8, .ref oq, .ref om, .ref oy, .ref og, .ref ok8])), (ob, .inl (Y 0, 24, .inl (aN (bk gh gca gun prs yrs)))), (oz, .inl (Y 0, 17, .inl (aN gz)))] H → va_D A [(o, .inr (8, [.ref ob, .ref on, .ref ow8, .ref os, .ref oe, .int (nI sc8), .ref oi, .int (nI cn8), .ref op, .int (nI bt), .int (oI gA), .int (oI gR), .int rs8, .int (nI a8), .ref oz, .ref oc8, .ref oq, .ref om, .ref oy, .ref og, .ref ok8])), (ob, .inl (Y 0, 24, .inl (aN (bk gh gca gun prs yrs)))), (oz, .inl (Y 0, 17, .inl (aN gz)))] → va_S A s.heap H locs → lv_has ls 9 [(6, .int (nI cc - nI 1)), (0, .ref o), (1, .int (nI kx1)), (2, .int (nI kx2)), (3, .int (nI kx3)), (4, .int (nI kx4)), (5, .int (nI kx5))] → W p l e (mv_R 2 0 0) s m [.ref o, .int x1, .int x2, .int x3, .int x4, .int x5].toArray below meth c H locs 0 0 (MQ below ((q_X8_cuts D Y o ob on ow8 os oe oi op oz oc8 oq om oy og ok8 sc8 cn8 bt a8 rs8 gA gR gh gca gun prs yrs gt x1 x2 x3 x4 x5) A) [.ref o, .int x1, .int x2, .int x3, .int x4, .int x5].toArray s 0 0 A) (F0 m 66 ls []) := by
    intro fu
    induction fu with
    | zero =>
      intro kx1 kx2 kx3 kx4 kx5 cc gz e1 hi1 e2 lo2 hi2 e3 hi3 e4 lo4 hi4 e5 hi5 hc ht hbd hmeas
      exact absurd hmeas (Nat.not_lt_zero _)
    | succ fu L66ih =>
      intro kx1 kx2 kx3 kx4 kx5 cc gz e1 hi1 e2 lo2 hi2 e3 hi3 e4 lo4 hi4 e5 hi5 hc ht hbd hmeas H locs ls hP hD hS hl
      have hq1 : inQ (nI kx1) 0 5 = true := (inQ_nI (by omega) (by decide) (by decide)).trans (decide_eq_true ⟨by omega, by omega⟩)
      have hcl1 : (nI kx1).toNatClampNeg = kx1 := nI_clamp (by omega)
      have hq2 : inQ (nI kx2) 1 16 = true := (inQ_nI (by omega) (by decide) (by decide)).trans (decide_eq_true ⟨by omega, by omega⟩)
      have hcl2 : (nI kx2).toNatClampNeg = kx2 := nI_clamp (by omega)
      have hq3 : inQ (nI kx3) 0 99 = true := (inQ_nI (by omega) (by decide) (by decide)).trans (decide_eq_true ⟨by omega, by omega⟩)
      have hcl3 : (nI kx3).toNatClampNeg = kx3 := nI_clamp (by omega)
      have hq4 : inQ (nI kx4) 1 16 = true := (inQ_nI (by omega) (by decide) (by decide)).trans (decide_eq_true ⟨by omega, by omega⟩)
      have hcl4 : (nI kx4).toNatClampNeg = kx4 := nI_clamp (by omega)
      have hq5 : inQ (nI kx5) 0 99 = true := (inQ_nI (by omega) (by decide) (by decide)).trans (decide_eq_true ⟨by omega, by omega⟩)
      have hcl5 : (nI kx5).toNatClampNeg = kx5 := nI_clamp (by omega)
      have L129 : ∀ (c2 : Nat) (b1 : Nat) (hc2 : cc = c2 + 1) (hb1 : gz (c2 + 1) ≤ b1 ∧ (frB (gh kx1) c2 kx2 → gz (c2 + kx2) + kx3 ≤ b1) ∧ (b1 = gz (c2 + 1) ∨ frB (gh kx1) c2 kx2 ∧ b1 = gz (c2 + kx2) + kx3) ∧ b1 ≤ 99 * (16 - c2)) (H : Heap) (locs : List Loc) (ls : Array Slot), va_P D vwCl [(o, .inr (8, [.ref ob, .ref on, .ref ow8, .ref os, .ref oe, .int (nI sc8), .ref oi, .int (nI cn8), .ref op, .int (nI bt), .int (oI gA), .int (oI gR), .int rs8, .int (nI a8), .ref oz, .ref oc8, .ref oq, .ref om, .ref oy, .ref og, .ref ok8])), (ob, .inl (Y 0, 24, .inl (aN (bk gh gca gun prs yrs)))), (oz, .inl (Y 0, 17, .inl (aN gz)))] H → va_D A [(o, .inr (8, [.ref ob, .ref on, .ref ow8, .ref os, .ref oe, .int (nI sc8), .ref oi, .int (nI cn8), .ref op, .int (nI bt), .int (oI gA), .int (oI gR), .int rs8, .int (nI a8), .ref oz, .ref oc8, .ref oq, .ref om, .ref oy, .ref og, .ref ok8])), (ob, .inl (Y 0, 24, .inl (aN (bk gh gca gun prs yrs)))), (oz, .inl (Y 0, 17, .inl (aN gz)))] → va_S A s.heap H locs → lv_has ls 9 [(6, .int (nI c2)), (7, .int (nI (wfS (gh kx1) (16 - c2) c2))), (0, .ref o), (1, .int (nI kx1)), (2, .int (nI kx2)), (3, .int (nI kx3)), (4, .int (nI kx4)), (5, .int (nI kx5))] → W p l e (mv_R 2 0 0) s m [.ref o, .int x1, .int x2, .int x3, .int x4, .int x5].toArray below meth c H locs 0 0 (MQ below ((q_X8_cuts D Y o ob on ow8 os oe oi op oz oc8 oq om oy og ok8 sc8 cn8 bt a8 rs8 gA gR gh gca gun prs yrs gt x1 x2 x3 x4 x5) A) [.ref o, .int x1, .int x2, .int x3, .int x4, .int x5].toArray s 0 0 A) (F0 m 129 ls [.int (nI b1)]) := by
        intro c2 b1 hc2 hb1 H locs ls hP hD hS hl
        rw [hc2] at ht hbd
        have hwn := wfS_fr (hol := (gh kx1)) (16 - c2) c2 kx4 (by omega)
        have hwl := wfS_le (hol := (gh kx1)) (16 - c2) c2
        obtain ⟨hb1a, hb1b, hb1c, hb1d⟩ := hb1
        have L174 : ∀ (b2 : Nat) (hb2 : gz (c2 + 1) ≤ b2 ∧ (frB (gh kx1) c2 kx2 → gz (c2 + kx2) + kx3 ≤ b2) ∧ (frB (gh kx1) c2 kx4 → gz (c2 + kx4) + kx5 ≤ b2) ∧ (b2 = gz (c2 + 1) ∨ frB (gh kx1) c2 kx2 ∧ b2 = gz (c2 + kx2) + kx3 ∨ frB (gh kx1) c2 kx4 ∧ b2 = gz (c2 + kx4) + kx5) ∧ b2 ≤ 99 * (16 - c2)) (H : Heap) (locs : List Loc) (ls : Array Slot), va_P D vwCl [(o, .inr (8, [.ref ob, .ref on, .ref ow8, .ref os, .ref oe, .int (nI sc8), .ref oi, .int (nI cn8), .ref op, .int (nI bt), .int (oI gA), .int (oI gR), .int rs8, .int (nI a8), .ref oz, .ref oc8, .ref oq, .ref om, .ref oy, .ref og, .ref ok8])), (ob, .inl (Y 0, 24, .inl (aN (bk gh gca gun prs yrs)))), (oz, .inl (Y 0, 17, .inl (aN gz)))] H → va_D A [(o, .inr (8, [.ref ob, .ref on, .ref ow8, .ref os, .ref oe, .int (nI sc8), .ref oi, .int (nI cn8), .ref op, .int (nI bt), .int (oI gA), .int (oI gR), .int rs8, .int (nI a8), .ref oz, .ref oc8, .ref oq, .ref om, .ref oy, .ref og, .ref ok8])), (ob, .inl (Y 0, 24, .inl (aN (bk gh gca gun prs yrs)))), (oz, .inl (Y 0, 17, .inl (aN gz)))] → va_S A s.heap H locs → lv_has ls 9 [(6, .int (nI c2)), (0, .ref o), (1, .int (nI kx1)), (2, .int (nI kx2)), (3, .int (nI kx3)), (4, .int (nI kx4)), (5, .int (nI kx5))] → W p l e (mv_R 2 0 0) s m [.ref o, .int x1, .int x2, .int x3, .int x4, .int x5].toArray below meth c H locs 0 0 (MQ below ((q_X8_cuts D Y o ob on ow8 os oe oi op oz oc8 oq om oy og ok8 sc8 cn8 bt a8 rs8 gA gR gh gca gun prs yrs gt x1 x2 x3 x4 x5) A) [.ref o, .int x1, .int x2, .int x3, .int x4, .int x5].toArray s 0 0 A) (F0 m 174 ls [.int (nI b2)]) := by
          intro b2 hb2 H locs ls hP hD hS hl
          refine lv_istore (lv' := [(8, .int (nI b2)), (6, .int (nI c2)), (0, .ref o), (1, .int (nI kx1)), (2, .int (nI kx2)), (3, .int (nI kx3)), (4, .int (nI kx4)), (5, .int (nI kx5))]) hx hb dX8_cuts_174 hl (by decide) rfl (fun ls hl => ?_)
          refine lv_aload_n hx hb dX8_cuts_176 rfl (lv_at hl 2 rfl) ?_
          refine va_get (D := D) (ci := 8) (v := .ref oz) (C := RX8) (T := TX8) (N := 21) hx hb hts inlX8 hown hK hP 0 rfl rfl 14 (by decide) (hts _ mw_90) (fun _ h9 => h9) rfl dX8_cuts_177 ?_
          refine lv_iload hx hb dX8_cuts_180 (lv_at hl 1 rfl) ?_
          refine lv_iload hx hb dX8_cuts_182 (lv_at hl 0 rfl) ?_
          refine mv_iast hx hb hK hP hD hS 2 rfl (i := c2) (v := b2) (by omega) (by decide) dX8_cuts_184 (fun H locs hP hD hS => ?_)
          have hP : va_P D vwCl [(o, .inr (8, [.ref ob, .ref on, .ref ow8, .ref os, .ref oe, .int (nI sc8), .ref oi, .int (nI cn8), .ref op, .int (nI bt), .int (oI gA), .int (oI gR), .int rs8, .int (nI a8), .ref oz, .ref oc8, .ref oq, .ref om, .ref oy, .ref og, .ref ok8])), (ob, .inl (Y 0, 24, .inl (aN (bk gh gca gun prs yrs)))), (oz, .inl (Y 0, 17, .inl (aN (uN gz c2 b2))))] H := hP
          have hD : va_D A [(o, .inr (8, [.ref ob, .ref on, .ref ow8, .ref os, .ref oe, .int (nI sc8), .ref oi, .int (nI cn8), .ref op, .int (nI bt), .int (oI gA), .int (oI gR), .int rs8, .int (nI a8), .ref oz, .ref oc8, .ref oq, .ref om, .ref oy, .ref og, .ref ok8])), (ob, .inl (Y 0, 24, .inl (aN (bk gh gca gun prs yrs)))), (oz, .inl (Y 0, 17, .inl (aN (uN gz c2 b2))))] := hD
          refine lv_iinc (v := nI c2 - nI 1) (lv' := [(6, .int (nI c2 - nI 1)), (8, .int (nI b2)), (0, .ref o), (1, .int (nI kx1)), (2, .int (nI kx2)), (3, .int (nI kx3)), (4, .int (nI kx4)), (5, .int (nI kx5))]) hx hb dX8_cuts_185 hl (k := 1) rfl (dec_sub _) (by decide) rfl (fun ls hl => ?_)
          refine lv_goto (tgt := 66) hx hb dX8_cuts_188 (by decide) ?_
          exact L66ih  kx1 kx2 kx3 kx4 kx5 c2 (uN gz c2 b2) (by first | assumption | omega | rfl) (by first | assumption | omega | rfl) (by first | assumption | omega | rfl) (by first | assumption | omega | rfl) (by first | assumption | omega | rfl) (by first | assumption | omega | rfl) (by first | assumption | omega | rfl) (by first | assumption | omega | rfl) (by first | assumption | omega | rfl) (by first | assumption | omega | rfl) (by first | assumption | omega | rfl) (by first | assumption | omega | rfl) (by first | assumption | omega | rfl) (stR_step (by omega) (by omega) (by omega) ht hb2.1 hb2.2.1 hb2.2.2.1 hb2.2.2.2.1) (fun j h1 h2 => by by_cases e9 : j = c2; rw [e9, uN_s]; exact hb2.2.2.2.2; rw [uN_n _ _ e9]; exact hbd j (by omega) h2) (by omega) _ _ _ hP hD hS (lv_sub hl [0, 2, 3, 4, 5, 6, 7] rfl)
        refine lv_istore (lv' := [(8, .int (nI b1)), (6, .int (nI c2)), (7, .int (nI (wfS (gh kx1) (16 - c2) c2))), (0, .ref o), (1, .int (nI kx1)), (2, .int (nI kx2)), (3, .int (nI kx3)), (4, .int (nI kx4)), (5, .int (nI kx5))]) hx hb dX8_cuts_129 hl (by decide) rfl (fun ls hl => ?_)
        refine lv_iload hx hb dX8_cuts_131 (lv_at hl 7 rfl) ?_
        refine lv_iload hx hb dX8_cuts_133 (lv_at hl 2 rfl) ?_
        refine mv_icmp_gt (tgt := 172) hx hb (by first | omega | exact Nat.lt_trans (bN_lt _) (by decide)) (by omega) dX8_cuts_135 (by decide) (fun c135 => ?_) (fun c135 => ?_)
        · skip
          refine lv_iload hx hb dX8_cuts_172 (lv_at hl 0 rfl) ?_
          exact L174  b1 (⟨hb1a, hb1b, fun q => absurd (hwn.mpr q) (by omega), hb1c.elim Or.inl (fun q => Or.inr (Or.inl q)), hb1d⟩) _ _ _ hP hD hS (lv_sub hl [1, 3, 4, 5, 6, 7, 8] rfl)
        · skip
          have hf2 := hwn.mp (by omega)
          have hf2b := hf2.1
          have hgb := hbd (c2 + kx4) (by omega) (by omega)
          refine lv_aload_n hx hb dX8_cuts_138 rfl (lv_at hl 3 rfl) ?_
          refine va_get (D := D) (ci := 8) (v := .ref oz) (C := RX8) (T := TX8) (N := 21) hx hb hts inlX8 hown hK hP 0 rfl rfl 14 (by decide) (hts _ mw_90) (fun _ h9 => h9) rfl dX8_cuts_139 ?_
          refine lv_iload hx hb dX8_cuts_142 (lv_at hl 1 rfl) ?_
          refine lv_iload hx hb dX8_cuts_144 (lv_at hl 7 rfl) ?_
          refine mv_iadd hx hb dX8_cuts_146 ?_
          refine mv_iald hx hb hK hP 2 rfl (i := c2 + kx4) (by omega) (by decide) dX8_cuts_147 ?_
          refine lv_iload hx hb dX8_cuts_148 (lv_at hl 8 rfl) ?_
          refine mv_iadd hx hb dX8_cuts_150 ?_
          refine lv_iload hx hb dX8_cuts_151 (lv_at hl 0 rfl) ?_
          refine mv_icmp_le (tgt := 172) hx hb (by first | omega | exact Nat.lt_trans (bN_lt _) (by decide)) (by omega) dX8_cuts_153 (by decide) (fun c153 => ?_) (fun c153 => ?_)
          · skip
            refine lv_iload hx hb dX8_cuts_172 (lv_at hl 0 rfl) ?_
            exact L174  b1 (⟨hb1a, hb1b, fun _ => by omega, hb1c.elim Or.inl (fun q => Or.inr (Or.inl q)), hb1d⟩) _ _ _ hP hD hS (lv_sub hl [1, 3, 4, 5, 6, 7, 8] rfl)
          · skip
            refine lv_aload_n hx hb dX8_cuts_156 rfl (lv_at hl 3 rfl) ?_
            refine va_get (D := D) (ci := 8) (v := .ref oz) (C := RX8) (T := TX8) (N := 21) hx hb hts inlX8 hown hK hP 0 rfl rfl 14 (by decide) (hts _ mw_90) (fun _ h9 => h9) rfl dX8_cuts_157 ?_
            refine lv_iload hx hb dX8_cuts_160 (lv_at hl 1 rfl) ?_
            refine lv_iload hx hb dX8_cuts_162 (lv_at hl 7 rfl) ?_
            refine mv_iadd hx hb dX8_cuts_164 ?_
            refine mv_iald hx hb hK hP 2 rfl (i := c2 + kx4) (by omega) (by decide) dX8_cuts_165 ?_
            refine lv_iload hx hb dX8_cuts_166 (lv_at hl 8 rfl) ?_
            refine mv_iadd hx hb dX8_cuts_168 ?_
            refine lv_goto (tgt := 174) hx hb dX8_cuts_169 (by decide) ?_
            exact L174  ((gz (c2 + kx4)) + kx5) (⟨by omega, fun q => by have := hb1b q; omega, fun _ => Nat.le_refl _, Or.inr (Or.inr ⟨hf2, rfl⟩), by omega⟩) _ _ _ hP hD hS (lv_sub hl [1, 3, 4, 5, 6, 7, 8] rfl)
      refine lv_iload hx hb dX8_cuts_66 (lv_at hl 0 rfl) ?_
      refine lv_if_lt (tgt := 191) hx hb dX8_cuts_68 (by decide) (fun c68 => ?_) (fun c68 => ?_)
      · skip
        refine lv_aload_n hx hb dX8_cuts_191 rfl (lv_at hl 1 rfl) ?_
        refine va_get (D := D) (ci := 8) (v := .ref oz) (C := RX8) (T := TX8) (N := 21) hx hb hts inlX8 hown hK hP 0 rfl rfl 14 (by decide) (hts _ mw_90) (fun _ h9 => h9) rfl dX8_cuts_192 ?_
        refine lv_iconst (v := nI 0) hx hb dX8_cuts_195 (by decide) ?_
        refine mv_iald hx hb hK hP 2 rfl (i := 0) (by omega) (by decide) dX8_cuts_196 ?_
        exact mv_iret hx hb hr hlocks (gz) (by simp only [sp_cuts, e1, hq1, hcl1, e2, hq2, hcl2, e3, hq3, hcl3, e4, hq4, hcl4, e5, hq5, hcl5, Bool.not_true, Bool.not_false, if_true, if_false, Bool.false_eq_true, reduceIte, Bool.true_and, Bool.and_true, Bool.false_and, Bool.and_false, Bool.or_false, Bool.or_true, ite_self] <;> (have hc0 := (sub1_neg (by omega)).mp c68; subst hc0; exact congrArg nI (ct_eq (by omega) (by omega) ht))) hP hK hD hS dX8_cuts_197
      · skip
        obtain ⟨c2, rfl⟩ : ∃ z, cc = z + 1 := ⟨cc - 1, by rcases Nat.eq_zero_or_pos cc with q | q; exact absurd ((sub1_neg (by omega)).mpr q) c68; omega⟩
        have he9 : nI (c2 + 1) - nI 1 = nI c2 := (pk_sub (by omega)).trans (congrArg nI (by omega))
        rw [he9] at hl
        refine lv_aload_n hx hb dX8_cuts_71 rfl (lv_at hl 1 rfl) ?_
        refine lv_iload_n hx hb dX8_cuts_72 rfl (lv_at hl 2 rfl) ?_
        refine lv_iload hx hb dX8_cuts_73 (lv_at hl 0 rfl) ?_
        refine mv_callVi (nA := 2) (As := [.int (nI kx1), .int (nI c2)]) (rest := []) (Wc := [(o, .inr (8, [.ref ob, .ref on, .ref ow8, .ref os, .ref oe, .int (nI sc8), .ref oi, .int (nI cn8), .ref op, .int (nI bt), .int (oI gA), .int (oI gR), .int rs8, .int (nI a8), .ref oz, .ref oc8, .ref oq, .ref om, .ref oy, .ref og, .ref ok8])), (ob, .inl (Y 0, 24, .inl (aN (bk gh gca gun prs yrs))))]) (wr := [(oz, .inl (Y 0, 17, .inl (aN gz)))]) hx hb hml hown hts hK hP hD hS hST hA hl.1 (c_X8_wholeFrom l D Y _ o ob on ow8 os oe oi op oz oc8 oq om oy og ok8 sc8 cn8 bt a8 rs8 gA gR gh gca gun prs yrs kx1 c2 (by first | assumption | omega | rfl) (by first | assumption | omega | rfl) (by first | assumption | omega | rfl)) [0, 1] [2] rfl rfl (by decide) (by decide) (by decide) rfl 0 rfl rfl rfl mw_453 mw_454 mw_455 mw_5 mw_456 ⟨by decide, by decide, by decide +kernel⟩ rfl ⟨Nat.le_of_ble_eq_true rfl, Nat.le_of_ble_eq_true rfl⟩ rfl (Nat.le_of_ble_eq_true rfl) dX8_cuts_75 ⟨Nat.le_of_ble_eq_true rfl, Nat.le_of_ble_eq_true rfl⟩ (fun r_1 ux H locs hr75 hP hD hS hz75 => ?_)
        have hP := hP.sub (ws' := [(o, .inr (8, [.ref ob, .ref on, .ref ow8, .ref os, .ref oe, .int (nI sc8), .ref oi, .int (nI cn8), .ref op, .int (nI bt), .int (oI gA), .int (oI gR), .int rs8, .int (nI a8), .ref oz, .ref oc8, .ref oq, .ref om, .ref oy, .ref og, .ref ok8])), (ob, .inl (Y 0, 24, .inl (aN (bk gh gca gun prs yrs)))), (oz, .inl (Y 0, 17, .inl (aN gz)))]) [1, 2, 0] rfl
        have hD := hD.sub (ws' := [(o, .inr (8, [.ref ob, .ref on, .ref ow8, .ref os, .ref oe, .int (nI sc8), .ref oi, .int (nI cn8), .ref op, .int (nI bt), .int (oI gA), .int (oI gR), .int rs8, .int (nI a8), .ref oz, .ref oc8, .ref oq, .ref om, .ref oy, .ref og, .ref ok8])), (ob, .inl (Y 0, 24, .inl (aN (bk gh gca gun prs yrs)))), (oz, .inl (Y 0, 17, .inl (aN gz)))]) [1, 2, 0] (by decide) rfl
        have hr75 : r_1 = nI (wfS (gh kx1) (16 - c2) c2) := hr75
        subst hr75
        refine lv_istore (lv' := [(7, .int (nI (wfS (gh kx1) (16 - c2) c2))), (6, .int (nI c2)), (0, .ref o), (1, .int (nI kx1)), (2, .int (nI kx2)), (3, .int (nI kx3)), (4, .int (nI kx4)), (5, .int (nI kx5))]) hx hb dX8_cuts_78 hl (by decide) rfl (fun ls hl => ?_)
        have hwm := wfS_fr (hol := (gh kx1)) (16 - c2) c2 kx2 (by omega)
        have hwl := wfS_le (hol := (gh kx1)) (16 - c2) c2
        have hg1 := hbd (c2 + 1) (by omega) (by omega)
        refine lv_aload_n hx hb dX8_cuts_80 rfl (lv_at hl 2 rfl) ?_
        refine va_get (D := D) (ci := 8) (v := .ref oz) (C := RX8) (T := TX8) (N := 21) hx hb hts inlX8 hown hK hP 0 rfl rfl 14 (by decide) (hts _ mw_90) (fun _ h9 => h9) rfl dX8_cuts_81 ?_
        refine lv_iload hx hb dX8_cuts_84 (lv_at hl 1 rfl) ?_
        refine lv_iconst (v := nI 1) hx hb dX8_cuts_86 (by decide) ?_
        refine mv_iadd hx hb dX8_cuts_87 ?_
        refine mv_iald hx hb hK hP 2 rfl (i := c2 + 1) (by omega) (by decide) dX8_cuts_88 ?_
        refine lv_istore (lv' := [(8, .int (nI (gz (c2 + 1)))), (7, .int (nI (wfS (gh kx1) (16 - c2) c2))), (6, .int (nI c2)), (0, .ref o), (1, .int (nI kx1)), (2, .int (nI kx2)), (3, .int (nI kx3)), (4, .int (nI kx4)), (5, .int (nI kx5))]) hx hb dX8_cuts_89 hl (by decide) rfl (fun ls hl => ?_)
        refine lv_iload_n hx hb dX8_cuts_91 rfl (lv_at hl 5 rfl) ?_
        refine lv_iload hx hb dX8_cuts_92 (lv_at hl 1 rfl) ?_
        refine mv_icmp_gt (tgt := 127) hx hb (by first | omega | exact Nat.lt_trans (bN_lt _) (by decide)) (by omega) dX8_cuts_94 (by decide) (fun c94 => ?_) (fun c94 => ?_)
        · skip
          refine lv_iload hx hb dX8_cuts_127 (lv_at hl 0 rfl) ?_
          exact L129  c2 (gz (c2 + 1)) (by first | assumption | omega | rfl) (⟨Nat.le_refl _, fun q => absurd (hwm.mpr q) (by omega), Or.inl rfl, by have := hbd (c2 + 1) (by omega) (by omega); omega⟩) _ _ _ hP hD hS (lv_sub hl [2, 1, 3, 4, 5, 6, 7, 8] rfl)
        · skip
          have hf1 := hwm.mp (by omega)
          have hf1b := hf1.1
          have hgb := hbd (c2 + kx2) (by omega) (by omega)
          refine lv_aload_n hx hb dX8_cuts_97 rfl (lv_at hl 3 rfl) ?_
          refine va_get (D := D) (ci := 8) (v := .ref oz) (C := RX8) (T := TX8) (N := 21) hx hb hts inlX8 hown hK hP 0 rfl rfl 14 (by decide) (hts _ mw_90) (fun _ h9 => h9) rfl dX8_cuts_98 ?_
          refine lv_iload hx hb dX8_cuts_101 (lv_at hl 2 rfl) ?_
          refine lv_iload_n hx hb dX8_cuts_103 rfl (lv_at hl 5 rfl) ?_
          refine mv_iadd hx hb dX8_cuts_104 ?_
          refine mv_iald hx hb hK hP 2 rfl (i := c2 + kx2) (by omega) (by decide) dX8_cuts_105 ?_
          refine lv_iload_n hx hb dX8_cuts_106 rfl (lv_at hl 6 rfl) ?_
          refine mv_iadd hx hb dX8_cuts_107 ?_
          refine lv_iload hx hb dX8_cuts_108 (lv_at hl 0 rfl) ?_
          refine mv_icmp_le (tgt := 127) hx hb (by first | omega | exact Nat.lt_trans (bN_lt _) (by decide)) (by omega) dX8_cuts_110 (by decide) (fun c110 => ?_) (fun c110 => ?_)
          · skip
            refine lv_iload hx hb dX8_cuts_127 (lv_at hl 0 rfl) ?_
            exact L129  c2 (gz (c2 + 1)) (by first | assumption | omega | rfl) (⟨Nat.le_refl _, fun _ => by omega, Or.inl rfl, by have := hbd (c2 + 1) (by omega) (by omega); omega⟩) _ _ _ hP hD hS (lv_sub hl [2, 1, 3, 4, 5, 6, 7, 8] rfl)
          · skip
            refine lv_aload_n hx hb dX8_cuts_113 rfl (lv_at hl 3 rfl) ?_
            refine va_get (D := D) (ci := 8) (v := .ref oz) (C := RX8) (T := TX8) (N := 21) hx hb hts inlX8 hown hK hP 0 rfl rfl 14 (by decide) (hts _ mw_90) (fun _ h9 => h9) rfl dX8_cuts_114 ?_
            refine lv_iload hx hb dX8_cuts_117 (lv_at hl 2 rfl) ?_
            refine lv_iload_n hx hb dX8_cuts_119 rfl (lv_at hl 5 rfl) ?_
            refine mv_iadd hx hb dX8_cuts_120 ?_
            refine mv_iald hx hb hK hP 2 rfl (i := c2 + kx2) (by omega) (by decide) dX8_cuts_121 ?_
            refine lv_iload_n hx hb dX8_cuts_122 rfl (lv_at hl 6 rfl) ?_
            refine mv_iadd hx hb dX8_cuts_123 ?_
            refine lv_goto (tgt := 129) hx hb dX8_cuts_124 (by decide) ?_
            exact L129  c2 ((gz (c2 + kx2)) + kx3) (by first | assumption | omega | rfl) (⟨by omega, fun _ => Nat.le_refl _, Or.inr ⟨hf1, rfl⟩, by omega⟩) _ _ _ hP hD hS (lv_sub hl [2, 1, 3, 4, 5, 6, 7, 8] rfl)
  refine lv_iload_n hx hb dX8_cuts_0 rfl (lv_at hl 1 rfl) ?_
  refine mv_callSi (nA := 1) (As := [.int x1]) (rest := []) (Wc := []) (wr := [(o, .inr (8, [.ref ob, .ref on, .ref ow8, .ref os, .ref oe, .int (nI sc8), .ref oi, .int (nI cn8), .ref op, .int (nI bt), .int (oI gA), .int (oI gR), .int rs8, .int (nI a8), .ref oz, .ref oc8, .ref oq, .ref om, .ref oy, .ref og, .ref ok8])), (ob, .inl (Y 0, 24, .inl (aN (bk gh gca gun prs yrs)))), (oz, .inl (Y 0, 17, .inl (aN gt)))]) hx hb hml hown hts hK hP hD hS hST hA hl.1 (c_X8_isRobe l D Y _ x1 ) [] [0, 1, 2] rfl rfl (by decide) (by decide) (by decide) rfl mw_118 mw_119 mw_5 mw_120 ⟨by decide, by decide, by decide +kernel⟩ rfl ⟨Nat.le_of_ble_eq_true rfl, Nat.le_of_ble_eq_true rfl⟩ rfl (Nat.le_of_ble_eq_true rfl) dX8_cuts_1 ⟨Nat.le_of_ble_eq_true rfl, Nat.le_of_ble_eq_true rfl⟩ (fun r_2 ux H locs hr1 hP hD hS hz1 => ?_)
  have hP := hP.sub (ws' := [(o, .inr (8, [.ref ob, .ref on, .ref ow8, .ref os, .ref oe, .int (nI sc8), .ref oi, .int (nI cn8), .ref op, .int (nI bt), .int (oI gA), .int (oI gR), .int rs8, .int (nI a8), .ref oz, .ref oc8, .ref oq, .ref om, .ref oy, .ref og, .ref ok8])), (ob, .inl (Y 0, 24, .inl (aN (bk gh gca gun prs yrs)))), (oz, .inl (Y 0, 17, .inl (aN gt)))]) [0, 1, 2] rfl
  have hD := hD.sub (ws' := [(o, .inr (8, [.ref ob, .ref on, .ref ow8, .ref os, .ref oe, .int (nI sc8), .ref oi, .int (nI cn8), .ref op, .int (nI bt), .int (oI gA), .int (oI gR), .int rs8, .int (nI a8), .ref oz, .ref oc8, .ref oq, .ref om, .ref oy, .ref og, .ref ok8])), (ob, .inl (Y 0, 24, .inl (aN (bk gh gca gun prs yrs)))), (oz, .inl (Y 0, 17, .inl (aN gt)))]) [0, 1, 2] (by decide) rfl
  have hr1 : r_2 = nI (bN (inQ x1 0 5)) := hr1
  subst hr1
  refine mv_if_ne (tgt := 9) hx hb (by first | omega | exact Nat.lt_trans (bN_lt _) (by decide)) dX8_cuts_4 (by decide) (fun c4 => ?_) (fun c4 => ?_)
  · skip
    obtain ⟨kx1, hka_x1, hkb_x1, rfl⟩ := inQ_ex (by decide) (bN_1.mp c4)
    have hq_x1 : inQ (nI kx1) 0 5 = true := bN_1.mp c4
    have hcl_x1 : (nI kx1).toNatClampNeg = kx1 := nI_clamp (by omega)
    refine lv_iload_n hx hb dX8_cuts_9 rfl (lv_at hl 2 rfl) ?_
    refine lv_iconst (v := nI 1) hx hb dX8_cuts_10 (by decide) ?_
    refine lv_bipush (v := nI 16) hx hb dX8_cuts_11 (by decide) ?_
    refine mv_callSi (nA := 3) (As := [.int x2, .int (nI 1), .int (nI 16)]) (rest := []) (Wc := []) (wr := [(o, .inr (8, [.ref ob, .ref on, .ref ow8, .ref os, .ref oe, .int (nI sc8), .ref oi, .int (nI cn8), .ref op, .int (nI bt), .int (oI gA), .int (oI gR), .int rs8, .int (nI a8), .ref oz, .ref oc8, .ref oq, .ref om, .ref oy, .ref og, .ref ok8])), (ob, .inl (Y 0, 24, .inl (aN (bk gh gca gun prs yrs)))), (oz, .inl (Y 0, 17, .inl (aN gt)))]) hx hb hml hown hts hK hP hD hS hST hA hl.1 (c_X8_inR l D Y _ x2 1 16 ) [] [0, 1, 2] rfl rfl (by decide) (by decide) (by decide) rfl mw_121 mw_122 mw_5 mw_123 ⟨by decide, by decide, by decide +kernel⟩ rfl ⟨Nat.le_of_ble_eq_true rfl, Nat.le_of_ble_eq_true rfl⟩ rfl (Nat.le_of_ble_eq_true rfl) dX8_cuts_13 ⟨Nat.le_of_ble_eq_true rfl, Nat.le_of_ble_eq_true rfl⟩ (fun r_3 ux H locs hr13 hP hD hS hz13 => ?_)
    have hP := hP.sub (ws' := [(o, .inr (8, [.ref ob, .ref on, .ref ow8, .ref os, .ref oe, .int (nI sc8), .ref oi, .int (nI cn8), .ref op, .int (nI bt), .int (oI gA), .int (oI gR), .int rs8, .int (nI a8), .ref oz, .ref oc8, .ref oq, .ref om, .ref oy, .ref og, .ref ok8])), (ob, .inl (Y 0, 24, .inl (aN (bk gh gca gun prs yrs)))), (oz, .inl (Y 0, 17, .inl (aN gt)))]) [0, 1, 2] rfl
    have hD := hD.sub (ws' := [(o, .inr (8, [.ref ob, .ref on, .ref ow8, .ref os, .ref oe, .int (nI sc8), .ref oi, .int (nI cn8), .ref op, .int (nI bt), .int (oI gA), .int (oI gR), .int rs8, .int (nI a8), .ref oz, .ref oc8, .ref oq, .ref om, .ref oy, .ref og, .ref ok8])), (ob, .inl (Y 0, 24, .inl (aN (bk gh gca gun prs yrs)))), (oz, .inl (Y 0, 17, .inl (aN gt)))]) [0, 1, 2] (by decide) rfl
    have hr13 : r_3 = nI (bN (inQ x2 1 16)) := hr13
    subst hr13
    refine mv_if_eq (tgt := 51) hx hb (by first | omega | exact Nat.lt_trans (bN_lt _) (by decide)) dX8_cuts_16 (by decide) (fun c16 => ?_) (fun c16 => ?_)
    · skip
      have hn_x2_c16 : inQ x2 1 16 = false := bN_0.mp c16
      refine lv_bipush (v := -2) hx hb dX8_cuts_51 (by decide) ?_
      exact mv_iret hx hb hr hlocks (gt) (by simp only [sp_cuts, hq_x1, hcl_x1, hn_x2_c16, Bool.not_true, Bool.not_false, if_true, if_false, Bool.false_eq_true, reduceIte, Bool.true_and, Bool.and_true, Bool.false_and, Bool.and_false, Bool.or_false, Bool.or_true, ite_self]) hP hK hD hS dX8_cuts_53
    · skip
      obtain ⟨kx2, hka_x2, hkb_x2, rfl⟩ := inQ_ex (by decide) (bN_1.mp c16)
      have hq_x2 : inQ (nI kx2) 1 16 = true := bN_1.mp c16
      have hcl_x2 : (nI kx2).toNatClampNeg = kx2 := nI_clamp (by omega)
      refine lv_iload hx hb dX8_cuts_19 (lv_at hl 4 rfl) ?_
      refine lv_iconst (v := nI 1) hx hb dX8_cuts_21 (by decide) ?_
      refine lv_bipush (v := nI 16) hx hb dX8_cuts_22 (by decide) ?_
      refine mv_callSi (nA := 3) (As := [.int x4, .int (nI 1), .int (nI 16)]) (rest := []) (Wc := []) (wr := [(o, .inr (8, [.ref ob, .ref on, .ref ow8, .ref os, .ref oe, .int (nI sc8), .ref oi, .int (nI cn8), .ref op, .int (nI bt), .int (oI gA), .int (oI gR), .int rs8, .int (nI a8), .ref oz, .ref oc8, .ref oq, .ref om, .ref oy, .ref og, .ref ok8])), (ob, .inl (Y 0, 24, .inl (aN (bk gh gca gun prs yrs)))), (oz, .inl (Y 0, 17, .inl (aN gt)))]) hx hb hml hown hts hK hP hD hS hST hA hl.1 (c_X8_inR l D Y _ x4 1 16 ) [] [0, 1, 2] rfl rfl (by decide) (by decide) (by decide) rfl mw_121 mw_122 mw_5 mw_123 ⟨by decide, by decide, by decide +kernel⟩ rfl ⟨Nat.le_of_ble_eq_true rfl, Nat.le_of_ble_eq_true rfl⟩ rfl (Nat.le_of_ble_eq_true rfl) dX8_cuts_24 ⟨Nat.le_of_ble_eq_true rfl, Nat.le_of_ble_eq_true rfl⟩ (fun r_4 ux H locs hr24 hP hD hS hz24 => ?_)
      have hP := hP.sub (ws' := [(o, .inr (8, [.ref ob, .ref on, .ref ow8, .ref os, .ref oe, .int (nI sc8), .ref oi, .int (nI cn8), .ref op, .int (nI bt), .int (oI gA), .int (oI gR), .int rs8, .int (nI a8), .ref oz, .ref oc8, .ref oq, .ref om, .ref oy, .ref og, .ref ok8])), (ob, .inl (Y 0, 24, .inl (aN (bk gh gca gun prs yrs)))), (oz, .inl (Y 0, 17, .inl (aN gt)))]) [0, 1, 2] rfl
      have hD := hD.sub (ws' := [(o, .inr (8, [.ref ob, .ref on, .ref ow8, .ref os, .ref oe, .int (nI sc8), .ref oi, .int (nI cn8), .ref op, .int (nI bt), .int (oI gA), .int (oI gR), .int rs8, .int (nI a8), .ref oz, .ref oc8, .ref oq, .ref om, .ref oy, .ref og, .ref ok8])), (ob, .inl (Y 0, 24, .inl (aN (bk gh gca gun prs yrs)))), (oz, .inl (Y 0, 17, .inl (aN gt)))]) [0, 1, 2] (by decide) rfl
      have hr24 : r_4 = nI (bN (inQ x4 1 16)) := hr24
      subst hr24
      refine mv_if_eq (tgt := 51) hx hb (by first | omega | exact Nat.lt_trans (bN_lt _) (by decide)) dX8_cuts_27 (by decide) (fun c27 => ?_) (fun c27 => ?_)
      · skip
        have hn_x4_c27 : inQ x4 1 16 = false := bN_0.mp c27
        refine lv_bipush (v := -2) hx hb dX8_cuts_51 (by decide) ?_
        exact mv_iret hx hb hr hlocks (gt) (by simp only [sp_cuts, hq_x1, hcl_x1, hq_x2, hcl_x2, hn_x4_c27, Bool.not_true, Bool.not_false, if_true, if_false, Bool.false_eq_true, reduceIte, Bool.true_and, Bool.and_true, Bool.false_and, Bool.and_false, Bool.or_false, Bool.or_true, ite_self]) hP hK hD hS dX8_cuts_53
      · skip
        obtain ⟨kx4, hka_x4, hkb_x4, rfl⟩ := inQ_ex (by decide) (bN_1.mp c27)
        have hq_x4 : inQ (nI kx4) 1 16 = true := bN_1.mp c27
        have hcl_x4 : (nI kx4).toNatClampNeg = kx4 := nI_clamp (by omega)
        refine lv_iload_n hx hb dX8_cuts_30 rfl (lv_at hl 3 rfl) ?_
        refine lv_iconst (v := nI 0) hx hb dX8_cuts_31 (by decide) ?_
        refine lv_bipush (v := nI 99) hx hb dX8_cuts_32 (by decide) ?_
        refine mv_callSi (nA := 3) (As := [.int x3, .int (nI 0), .int (nI 99)]) (rest := []) (Wc := []) (wr := [(o, .inr (8, [.ref ob, .ref on, .ref ow8, .ref os, .ref oe, .int (nI sc8), .ref oi, .int (nI cn8), .ref op, .int (nI bt), .int (oI gA), .int (oI gR), .int rs8, .int (nI a8), .ref oz, .ref oc8, .ref oq, .ref om, .ref oy, .ref og, .ref ok8])), (ob, .inl (Y 0, 24, .inl (aN (bk gh gca gun prs yrs)))), (oz, .inl (Y 0, 17, .inl (aN gt)))]) hx hb hml hown hts hK hP hD hS hST hA hl.1 (c_X8_inR l D Y _ x3 0 99 ) [] [0, 1, 2] rfl rfl (by decide) (by decide) (by decide) rfl mw_121 mw_122 mw_5 mw_123 ⟨by decide, by decide, by decide +kernel⟩ rfl ⟨Nat.le_of_ble_eq_true rfl, Nat.le_of_ble_eq_true rfl⟩ rfl (Nat.le_of_ble_eq_true rfl) dX8_cuts_34 ⟨Nat.le_of_ble_eq_true rfl, Nat.le_of_ble_eq_true rfl⟩ (fun r_5 ux H locs hr34 hP hD hS hz34 => ?_)
        have hP := hP.sub (ws' := [(o, .inr (8, [.ref ob, .ref on, .ref ow8, .ref os, .ref oe, .int (nI sc8), .ref oi, .int (nI cn8), .ref op, .int (nI bt), .int (oI gA), .int (oI gR), .int rs8, .int (nI a8), .ref oz, .ref oc8, .ref oq, .ref om, .ref oy, .ref og, .ref ok8])), (ob, .inl (Y 0, 24, .inl (aN (bk gh gca gun prs yrs)))), (oz, .inl (Y 0, 17, .inl (aN gt)))]) [0, 1, 2] rfl
        have hD := hD.sub (ws' := [(o, .inr (8, [.ref ob, .ref on, .ref ow8, .ref os, .ref oe, .int (nI sc8), .ref oi, .int (nI cn8), .ref op, .int (nI bt), .int (oI gA), .int (oI gR), .int rs8, .int (nI a8), .ref oz, .ref oc8, .ref oq, .ref om, .ref oy, .ref og, .ref ok8])), (ob, .inl (Y 0, 24, .inl (aN (bk gh gca gun prs yrs)))), (oz, .inl (Y 0, 17, .inl (aN gt)))]) [0, 1, 2] (by decide) rfl
        have hr34 : r_5 = nI (bN (inQ x3 0 99)) := hr34
        subst hr34
        refine mv_if_eq (tgt := 51) hx hb (by first | omega | exact Nat.lt_trans (bN_lt _) (by decide)) dX8_cuts_37 (by decide) (fun c37 => ?_) (fun c37 => ?_)
        · skip
          have hn_x3_c37 : inQ x3 0 99 = false := bN_0.mp c37
          refine lv_bipush (v := -2) hx hb dX8_cuts_51 (by decide) ?_
          exact mv_iret hx hb hr hlocks (gt) (by simp only [sp_cuts, hq_x1, hcl_x1, hq_x2, hcl_x2, hq_x4, hcl_x4, hn_x3_c37, Bool.not_true, Bool.not_false, if_true, if_false, Bool.false_eq_true, reduceIte, Bool.true_and, Bool.and_true, Bool.false_and, Bool.and_false, Bool.or_false, Bool.or_true, ite_self]) hP hK hD hS dX8_cuts_53
        · skip
          obtain ⟨kx3, hka_x3, hkb_x3, rfl⟩ := inQ_ex (by decide) (bN_1.mp c37)
          have hq_x3 : inQ (nI kx3) 0 99 = true := bN_1.mp c37
          have hcl_x3 : (nI kx3).toNatClampNeg = kx3 := nI_clamp (by omega)
          refine lv_iload hx hb dX8_cuts_40 (lv_at hl 5 rfl) ?_
          refine lv_iconst (v := nI 0) hx hb dX8_cuts_42 (by decide) ?_
          refine lv_bipush (v := nI 99) hx hb dX8_cuts_43 (by decide) ?_
          refine mv_callSi (nA := 3) (As := [.int x5, .int (nI 0), .int (nI 99)]) (rest := []) (Wc := []) (wr := [(o, .inr (8, [.ref ob, .ref on, .ref ow8, .ref os, .ref oe, .int (nI sc8), .ref oi, .int (nI cn8), .ref op, .int (nI bt), .int (oI gA), .int (oI gR), .int rs8, .int (nI a8), .ref oz, .ref oc8, .ref oq, .ref om, .ref oy, .ref og, .ref ok8])), (ob, .inl (Y 0, 24, .inl (aN (bk gh gca gun prs yrs)))), (oz, .inl (Y 0, 17, .inl (aN gt)))]) hx hb hml hown hts hK hP hD hS hST hA hl.1 (c_X8_inR l D Y _ x5 0 99 ) [] [0, 1, 2] rfl rfl (by decide) (by decide) (by decide) rfl mw_121 mw_122 mw_5 mw_123 ⟨by decide, by decide, by decide +kernel⟩ rfl ⟨Nat.le_of_ble_eq_true rfl, Nat.le_of_ble_eq_true rfl⟩ rfl (Nat.le_of_ble_eq_true rfl) dX8_cuts_45 ⟨Nat.le_of_ble_eq_true rfl, Nat.le_of_ble_eq_true rfl⟩ (fun r_6 ux H locs hr45 hP hD hS hz45 => ?_)
          have hP := hP.sub (ws' := [(o, .inr (8, [.ref ob, .ref on, .ref ow8, .ref os, .ref oe, .int (nI sc8), .ref oi, .int (nI cn8), .ref op, .int (nI bt), .int (oI gA), .int (oI gR), .int rs8, .int (nI a8), .ref oz, .ref oc8, .ref oq, .ref om, .ref oy, .ref og, .ref ok8])), (ob, .inl (Y 0, 24, .inl (aN (bk gh gca gun prs yrs)))), (oz, .inl (Y 0, 17, .inl (aN gt)))]) [0, 1, 2] rfl
          have hD := hD.sub (ws' := [(o, .inr (8, [.ref ob, .ref on, .ref ow8, .ref os, .ref oe, .int (nI sc8), .ref oi, .int (nI cn8), .ref op, .int (nI bt), .int (oI gA), .int (oI gR), .int rs8, .int (nI a8), .ref oz, .ref oc8, .ref oq, .ref om, .ref oy, .ref og, .ref ok8])), (ob, .inl (Y 0, 24, .inl (aN (bk gh gca gun prs yrs)))), (oz, .inl (Y 0, 17, .inl (aN gt)))]) [0, 1, 2] (by decide) rfl
          have hr45 : r_6 = nI (bN (inQ x5 0 99)) := hr45
          subst hr45
          refine mv_if_ne (tgt := 54) hx hb (by first | omega | exact Nat.lt_trans (bN_lt _) (by decide)) dX8_cuts_48 (by decide) (fun c48 => ?_) (fun c48 => ?_)
          · skip
            obtain ⟨kx5, hka_x5, hkb_x5, rfl⟩ := inQ_ex (by decide) (bN_1.mp c48)
            have hq_x5 : inQ (nI kx5) 0 99 = true := bN_1.mp c48
            have hcl_x5 : (nI kx5).toNatClampNeg = kx5 := nI_clamp (by omega)
            refine lv_aload_n hx hb dX8_cuts_54 rfl (lv_at hl 0 rfl) ?_
            refine va_get (D := D) (ci := 8) (v := .ref oz) (C := RX8) (T := TX8) (N := 21) hx hb hts inlX8 hown hK hP 0 rfl rfl 14 (by decide) (hts _ mw_90) (fun _ h9 => h9) rfl dX8_cuts_55 ?_
            refine lv_bipush (v := nI 16) hx hb dX8_cuts_58 (by decide) ?_
            refine lv_iconst (v := nI 0) hx hb dX8_cuts_60 (by decide) ?_
            refine mv_iast hx hb hK hP hD hS 2 rfl (i := 16) (v := 0) (by omega) (by decide) dX8_cuts_61 (fun H locs hP hD hS => ?_)
            have hP : va_P D vwCl [(o, .inr (8, [.ref ob, .ref on, .ref ow8, .ref os, .ref oe, .int (nI sc8), .ref oi, .int (nI cn8), .ref op, .int (nI bt), .int (oI gA), .int (oI gR), .int rs8, .int (nI a8), .ref oz, .ref oc8, .ref oq, .ref om, .ref oy, .ref og, .ref ok8])), (ob, .inl (Y 0, 24, .inl (aN (bk gh gca gun prs yrs)))), (oz, .inl (Y 0, 17, .inl (aN (uN gt 16 0))))] H := hP
            have hD : va_D A [(o, .inr (8, [.ref ob, .ref on, .ref ow8, .ref os, .ref oe, .int (nI sc8), .ref oi, .int (nI cn8), .ref op, .int (nI bt), .int (oI gA), .int (oI gR), .int rs8, .int (nI a8), .ref oz, .ref oc8, .ref oq, .ref om, .ref oy, .ref og, .ref ok8])), (ob, .inl (Y 0, 24, .inl (aN (bk gh gca gun prs yrs)))), (oz, .inl (Y 0, 17, .inl (aN (uN gt 16 0))))] := hD
            refine lv_bipush (v := nI 15) hx hb dX8_cuts_62 (by decide) ?_
            refine lv_istore (lv' := [(6, .int (nI 15)), (0, .ref o), (1, .int (nI kx1)), (2, .int (nI kx2)), (3, .int (nI kx3)), (4, .int (nI kx4)), (5, .int (nI kx5))]) hx hb dX8_cuts_64 hl (by decide) rfl (fun ls hl => ?_)
            exact L66 (16 + 1) kx1 kx2 kx3 kx4 kx5 16 (uN gt 16 0) (by first | assumption | omega | rfl) (by first | assumption | omega | rfl) (by first | assumption | omega | rfl) (by first | assumption | omega | rfl) (by first | assumption | omega | rfl) (by first | assumption | omega | rfl) (by first | assumption | omega | rfl) (by first | assumption | omega | rfl) (by first | assumption | omega | rfl) (by first | assumption | omega | rfl) (by first | assumption | omega | rfl) (by first | assumption | omega | rfl) (by first | assumption | omega | rfl) (⟨by rw [uN_s], fun j h1 h2 => by omega⟩) (fun j h1 h2 => by rw [show j = 16 by omega, uN_s]; exact Nat.zero_le _) (Nat.lt_succ_self _) _ _ _ hP hD hS (lv_sub hl [0, 1, 2, 3, 4, 5, 6] rfl)
          · skip
            have hn_x5_c48 : inQ x5 0 99 = false := bN_0.mp c48
            refine lv_bipush (v := -2) hx hb dX8_cuts_51 (by decide) ?_
            exact mv_iret hx hb hr hlocks (gt) (by simp only [sp_cuts, hq_x1, hcl_x1, hq_x2, hcl_x2, hq_x4, hcl_x4, hq_x3, hcl_x3, hn_x5_c48, Bool.not_true, Bool.not_false, if_true, if_false, Bool.false_eq_true, reduceIte, Bool.true_and, Bool.and_true, Bool.false_and, Bool.and_false, Bool.or_false, Bool.or_true, ite_self]) hP hK hD hS dX8_cuts_53
  · skip
    have hn_x1_c4 : inQ x1 0 5 = false := bN_0.mp c4
    refine lv_iconst (v := nI 4294967295) hx hb dX8_cuts_7 (by decide) ?_
    exact mv_iret hx hb hr hlocks (gt) (by simp only [sp_cuts, hn_x1_c4, Bool.not_true, Bool.not_false, if_true, if_false, Bool.false_eq_true, reduceIte, Bool.true_and, Bool.and_true, Bool.false_and, Bool.and_false, Bool.or_false, Bool.or_true, ite_self]) hP hK hD hS dX8_cuts_8
