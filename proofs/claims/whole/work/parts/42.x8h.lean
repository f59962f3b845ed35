abbrev q_X8_wear (D : va_G) (Y : Nat → ClassId) (o : Nat) (ob : Nat) (on : Nat) (ow8 : Nat) (os : Nat) (oe : Nat) (oi : Nat) (op : Nat) (oz : Nat) (oc8 : Nat) (oq : Nat) (om : Nat) (oy : Nat) (og : Nat) (ok8 : Nat) (sc8 : Nat) (cn8 : Nat) (bt : Nat) (a8 : Nat) (rs8 : Int32) (gA : Option Nat) (gR : Option Nat) (gh : Nat → Nat) (gca : Nat → Nat) (gun : Nat → Nat) (prs : Nat) (yrs : Nat) (gso : Nat → Nat) (xw : Int32) : (Nat → Prop) → Array Value → State → Outcome → State → Prop := mv_Qi D Y (fun (r : Int32) (_ : Unit) => r = sp_wear gh gso xw) (fun _ : Unit => ([(o, .inr (8, [.ref ob, .ref on, .ref ow8, .ref os, .ref oe, .int (nI sc8), .ref oi, .int (nI cn8), .ref op, .int (nI bt), .int (oI gA), .int (oI gR), .int rs8, .int (nI a8), .ref oz, .ref oc8, .ref oq, .ref om, .ref oy, .ref og, .ref ok8])), (ob, .inl (Y 0, 24, .inl (aN (bk gh gca gun prs yrs)))), (oe, .inl (Y 0, 5, .inl (aN gso)))] : va_W))
set_option maxHeartbeats 8000000 in
set_option maxRecDepth 100000 in
theorem c_X8_wear (l : Launch) (D : va_G) (Y : Nat → ClassId) (sz : Nat) (o : Nat) (ob : Nat) (on : Nat) (ow8 : Nat) (os : Nat) (oe : Nat) (oi : Nat) (op : Nat) (oz : Nat) (oc8 : Nat) (oq : Nat) (om : Nat) (oy : Nat) (og : Nat) (ok8 : Nat) (sc8 : Nat) (cn8 : Nat) (bt : Nat) (a8 : Nat) (rs8 : Int32) (gA : Option Nat) (gR : Option Nat) (gh : Nat → Nat) (gca : Nat → Nat) (gun : Nat → Nat) (prs : Nat) (yrs : Nat) (gso : Nat → Nat) (xw : Int32) (hh : ∀ k, k < 6 → gh k < 65536) : mv_C l D Y yX8_wear cX8_wear 10 (some .int) 1 0 0 [.ref o, .int xw] sz [(o, .inr (8, [.ref ob, .ref on, .ref ow8, .ref os, .ref oe, .int (nI sc8), .ref oi, .int (nI cn8), .ref op, .int (nI bt), .int (oI gA), .int (oI gR), .int rs8, .int (nI a8), .ref oz, .ref oc8, .ref oq, .ref om, .ref oy, .ref og, .ref ok8])), (ob, .inl (Y 0, 24, .inl (aN (bk gh gca gun prs yrs)))), (oe, .inl (Y 0, 5, .inl (aN gso)))] (q_X8_wear D Y o ob on ow8 os oe oi op oz oc8 oq om oy og ok8 sc8 cn8 bt a8 rs8 gA gR gh gca gun prs yrs gso xw) := by
  refine mv_ofW (by decide) (Nat.le_of_ble_eq_true rfl) ?_
  intro p e s m below meth c ls A hx hb hr hlocks hml hnm hown hts hsz hAe hP hK hD hS hST hA hl
  have hl : lv_has ls 10 [(0, .ref o), (1, .int xw)] := hl
  have L19 : ∀ (fu : Nat) (k : Nat) (lst : Nat) (fnd : Nat) (hk : k ≤ 7776) (hxw : inQ xw 4294967295 4 = true) (hI : wrI gh gso k lst fnd) (hmeas : 7776 - k < fu) (H : Heap) (locs : List Loc) (ls : Array Slot), va_P D vwCl [(o, .inr (8, [.ref ob, .ref on, .ref ow8, .ref os, .ref oe, .int (nI sc8), .ref oi, .int (nI cn8), .ref op, .int (nI bt), .int (oI gA), .int (oI gR), .int rs8, .int (nI a8), .ref oz, .ref oc8, .ref oq, .ref om, .ref oy, .ref og, .ref ok8])), (ob, .inl (Y 0, 24, .inl (aN (bk gh gca gun prs yrs)))), (oe, .inl (Y 0, 5, .inl (aN gso)))] H → va_D A [(o, .inr (8, [.ref ob, .ref on, .ref ow8, .ref os, .ref oe, .int (nI sc8), .ref oi, .int (nI cn8), .ref op, .int (nI bt), .int (oI gA), .int (oI gR), .int rs8, .int (nI a8), .ref oz, .ref oc8, .ref oq, .ref om, .ref oy, .ref og, .ref ok8])), (ob, .inl (Y 0, 24, .inl (aN (bk gh gca gun prs yrs)))), (oe, .inl (Y 0, 5, .inl (aN gso)))] → va_S A s.heap H locs → lv_has ls 10 [(2, .int (nI lst)), (3, .int (nI fnd)), (4, .int (nI k)), (0, .ref o), (1, .int xw)] → W p l e (mv_R 1 0 0) s m [.ref o, .int xw].toArray below meth c H locs 0 0 (MQ below ((q_X8_wear D Y o ob on ow8 os oe oi op oz oc8 oq om oy og ok8 sc8 cn8 bt a8 rs8 gA gR gh gca gun prs yrs gso xw) A) [.ref o, .int xw].toArray s 0 0 A) (F0 m 19 ls []) := by
    intro fu
    induction fu with
    | zero =>
      intro k lst fnd hk hxw hI hmeas
      exact absurd hmeas (Nat.not_lt_zero _)
    | succ fu L19ih =>
      intro k lst fnd hk hxw hI hmeas H locs ls hP hD hS hl
      have hlb := hI.1
      have L155 : ∀ (fu : Nat) (m9 : Nat) (cc : Nat) (rs : Nat) (hm : m9 ≤ 5) (hxm : xw = nI m9 - nI 1) (hmc : m9 ≤ cc) (hcc : cc ≤ 5) (hrs : rs = wrK gh gso / 6 ^ (5 - cc)) (hlf : lst = wrF gh gso) (hmeas : cc < fu) (H : Heap) (locs : List Loc) (ls : Array Slot), va_P D vwCl [(o, .inr (8, [.ref ob, .ref on, .ref ow8, .ref os, .ref oe, .int (nI sc8), .ref oi, .int (nI cn8), .ref op, .int (nI bt), .int (oI gA), .int (oI gR), .int rs8, .int (nI a8), .ref oz, .ref oc8, .ref oq, .ref om, .ref oy, .ref og, .ref ok8])), (ob, .inl (Y 0, 24, .inl (aN (bk gh gca gun prs yrs)))), (oe, .inl (Y 0, 5, .inl (aN gso)))] H → va_D A [(o, .inr (8, [.ref ob, .ref on, .ref ow8, .ref os, .ref oe, .int (nI sc8), .ref oi, .int (nI cn8), .ref op, .int (nI bt), .int (oI gA), .int (oI gR), .int rs8, .int (nI a8), .ref oz, .ref oc8, .ref oq, .ref om, .ref oy, .ref og, .ref ok8])), (ob, .inl (Y 0, 24, .inl (aN (bk gh gca gun prs yrs)))), (oe, .inl (Y 0, 5, .inl (aN gso)))] → va_S A s.heap H locs → lv_has ls 10 [(2, .int (nI lst)), (4, .int (nI rs)), (5, .int (nI cc - nI 1)), (0, .ref o), (1, .int xw)] → W p l e (mv_R 1 0 0) s m [.ref o, .int xw].toArray below meth c H locs 0 0 (MQ below ((q_X8_wear D Y o ob on ow8 os oe oi op oz oc8 oq om oy og ok8 sc8 cn8 bt a8 rs8 gA gR gh gca gun prs yrs gso xw) A) [.ref o, .int xw].toArray s 0 0 A) (F0 m 155 ls []) := by
        intro fu
        induction fu with
        | zero =>
          intro m9 cc rs hm hxm hmc hcc hrs hlf hmeas
          exact absurd hmeas (Nat.not_lt_zero _)
        | succ fu L155ih =>
          intro m9 cc rs hm hxm hmc hcc hrs hlf hmeas H locs ls hP hD hS hl
          have hrl : rs < 7776 := by rw [hrs]; exact Nat.lt_of_le_of_lt (Nat.div_le_self _ _) (wrK_lt _ _)
          refine lv_iload hx hb dX8_wear_155 (lv_at hl 2 rfl) ?_
          refine lv_iload_n hx hb dX8_wear_157 rfl (lv_at hl 4 rfl) ?_
          refine lv_icmp_le (tgt := 174) hx hb dX8_wear_158 (by decide) (fun c158 => ?_) (fun c158 => ?_)
          · skip
            have hcm : cc = m9 := by have := (sub1_le (show cc < 2 ^ 31 by omega) (show m9 < 2 ^ 31 by omega)).mp (by rw [← hxm]; exact c158); omega
            refine lv_iload_n hx hb dX8_wear_174 rfl (lv_at hl 4 rfl) ?_
            refine lv_if_ge (tgt := 182) hx hb dX8_wear_175 (by decide) (fun c175 => ?_) (fun c175 => ?_)
            · skip
              refine lv_iload hx hb dX8_wear_182 (lv_at hl 1 rfl) ?_
              refine lv_bipush (v := nI 6) hx hb dX8_wear_184 (by decide) ?_
              refine mv_irem hx hb (by first | omega | exact Nat.lt_trans (bN_lt _) (by decide) | exact Nat.lt_of_le_of_lt (popc_le _) (by decide) | exact Nat.lt_of_le_of_lt Nat.and_le_left (by have := hh (rs % 6) (Nat.mod_lt _ (by decide)); omega)) (by omega) (by omega) dX8_wear_186 ?_
              exact mv_iret hx hb hr hlocks () (by have hm0 : m9 ≠ 0 := (fun q => by have h9 := hxm; rw [q] at h9; exact absurd (show xw < 0 by rw [h9]; decide) (by first | exact c175 | exact Int32.not_lt.mpr c175)); rw [wr_rp hm hm0 hxm, ← wrK_dg (m9 - 1) (by omega), show 4 - (m9 - 1) = 5 - cc by omega, ← hrs]) hP hK hD hS dX8_wear_187
            · skip
              refine lv_iload_n hx hb dX8_wear_178 rfl (lv_at hl 0 rfl) ?_
              refine lv_goto (tgt := 187) hx hb dX8_wear_179 (by decide) ?_
              exact mv_iret hx hb hr hlocks () (by rw [hlf]; exact (wr_rm (by have hm0 : m9 = 0 := (by rcases Nat.eq_zero_or_pos m9 with q | q; exact q; exact absurd (show ¬ nI m9 - nI 1 < 0 from fun w => by have := (sub1_neg (by omega)).mp w; omega) (fun w => w (by rw [← hxm]; first | exact c175 | exact Int32.not_le.mp c175))); rw [hxm, hm0])).symm) hP hK hD hS dX8_wear_187
          · skip
            have hnc : ¬ cc ≤ m9 := fun q => c158 (by rw [hxm]; exact (sub1_le (by omega) (by omega)).mpr q)
            obtain ⟨c2, rfl⟩ : ∃ z, cc = z + 1 := ⟨cc - 1, by rcases Nat.eq_zero_or_pos cc with q | q; omega; omega⟩
            have he9 : nI (c2 + 1) - nI 1 = nI c2 := (pk_sub (by omega)).trans (congrArg nI (by omega))
            rw [he9] at hl
            refine lv_iload hx hb dX8_wear_161 (lv_at hl 1 rfl) ?_
            refine lv_bipush (v := nI 6) hx hb dX8_wear_163 (by decide) ?_
            refine mv_idiv hx hb (by first | omega | exact Nat.lt_trans (bN_lt _) (by decide) | exact Nat.lt_of_le_of_lt (popc_le _) (by decide) | exact Nat.lt_of_le_of_lt Nat.and_le_left (by have := hh (rs % 6) (Nat.mod_lt _ (by decide)); omega)) (by omega) (by omega) dX8_wear_165 ?_
            refine lv_istore (lv' := [(4, .int (nI (rs / 6))), (2, .int (nI lst)), (5, .int (nI c2)), (0, .ref o), (1, .int xw)]) hx hb dX8_wear_166 hl (by decide) rfl (fun ls hl => ?_)
            refine lv_iinc (v := nI c2 - nI 1) (lv' := [(5, .int (nI c2 - nI 1)), (4, .int (nI (rs / 6))), (2, .int (nI lst)), (0, .ref o), (1, .int xw)]) hx hb dX8_wear_168 hl (k := 2) rfl (dec_sub _) (by decide) rfl (fun ls hl => ?_)
            refine lv_goto (tgt := 155) hx hb dX8_wear_171 (by decide) ?_
            exact L155ih  m9 c2 (rs / 6) (by first | assumption | omega | rfl) (by first | assumption | omega | rfl) (by first | assumption | omega | rfl) (by first | assumption | omega | rfl) (by rw [hrs, Nat.div_div_eq_div_mul, show 5 - c2 = 5 - (c2 + 1) + 1 by omega, Nat.pow_succ]) (by first | assumption | omega | rfl) (by omega) _ _ _ hP hD hS (lv_sub hl [2, 1, 0, 3, 4] rfl)
      have L40 : ∀ (fu : Nat) (cc : Nat) (us : Nat) (hs : Nat) (rs : Nat) (hc : cc ≤ 5) (hk2 : k < 7776) (hrs : rs = k / 6 ^ (5 - cc)) (hus0 : us = wrU k (5 - cc)) (hhs0 : hs = wrH gh gso k (5 - cc)) (hmeas : cc < fu) (H : Heap) (locs : List Loc) (ls : Array Slot), va_P D vwCl [(o, .inr (8, [.ref ob, .ref on, .ref ow8, .ref os, .ref oe, .int (nI sc8), .ref oi, .int (nI cn8), .ref op, .int (nI bt), .int (oI gA), .int (oI gR), .int rs8, .int (nI a8), .ref oz, .ref oc8, .ref oq, .ref om, .ref oy, .ref og, .ref ok8])), (ob, .inl (Y 0, 24, .inl (aN (bk gh gca gun prs yrs)))), (oe, .inl (Y 0, 5, .inl (aN gso)))] H → va_D A [(o, .inr (8, [.ref ob, .ref on, .ref ow8, .ref os, .ref oe, .int (nI sc8), .ref oi, .int (nI cn8), .ref op, .int (nI bt), .int (oI gA), .int (oI gR), .int rs8, .int (nI a8), .ref oz, .ref oc8, .ref oq, .ref om, .ref oy, .ref og, .ref ok8])), (ob, .inl (Y 0, 24, .inl (aN (bk gh gca gun prs yrs)))), (oe, .inl (Y 0, 5, .inl (aN gso)))] → va_S A s.heap H locs → lv_has ls 10 [(2, .int (nI lst)), (3, .int (nI fnd)), (4, .int (nI k)), (5, .int (nI rs)), (6, .int (nI us)), (7, .int (nI hs)), (8, .int (nI cc - nI 1)), (0, .ref o), (1, .int xw)] → W p l e (mv_R 1 0 0) s m [.ref o, .int xw].toArray below meth c H locs 0 0 (MQ below ((q_X8_wear D Y o ob on ow8 os oe oi op oz oc8 oq om oy og ok8 sc8 cn8 bt a8 rs8 gA gR gh gca gun prs yrs gso xw) A) [.ref o, .int xw].toArray s 0 0 A) (F0 m 40 ls []) := by
        intro fu
        induction fu with
        | zero =>
          intro cc us hs rs hc hk2 hrs hus0 hhs0 hmeas
          exact absurd hmeas (Nat.not_lt_zero _)
        | succ fu L40ih =>
          intro cc us hs rs hc hk2 hrs hus0 hhs0 hmeas H locs ls hP hD hS hl
          have hrl : rs < 7776 := by rw [hrs]; exact Nat.lt_of_le_of_lt (Nat.div_le_self _ _) hk2
          have hul : us < 64 := by rw [hus0]; exact wrU_lt _ _
          have hhl : hs ≤ 16 * (5 - cc) := by rw [hhs0]; exact wrH_le _ _ _ _
          have L117 : ∀ (bt9 : Nat) (hus : us = wrU k 5) (hhs : hs = wrH gh gso k 5) (hbt : bt9 = bN (decide (popc us = 5 ∧ hs < lst))) (H : Heap) (locs : List Loc) (ls : Array Slot), va_P D vwCl [(o, .inr (8, [.ref ob, .ref on, .ref ow8, .ref os, .ref oe, .int (nI sc8), .ref oi, .int (nI cn8), .ref op, .int (nI bt), .int (oI gA), .int (oI gR), .int rs8, .int (nI a8), .ref oz, .ref oc8, .ref oq, .ref om, .ref oy, .ref og, .ref ok8])), (ob, .inl (Y 0, 24, .inl (aN (bk gh gca gun prs yrs)))), (oe, .inl (Y 0, 5, .inl (aN gso)))] H → va_D A [(o, .inr (8, [.ref ob, .ref on, .ref ow8, .ref os, .ref oe, .int (nI sc8), .ref oi, .int (nI cn8), .ref op, .int (nI bt), .int (oI gA), .int (oI gR), .int rs8, .int (nI a8), .ref oz, .ref oc8, .ref oq, .ref om, .ref oy, .ref og, .ref ok8])), (ob, .inl (Y 0, 24, .inl (aN (bk gh gca gun prs yrs)))), (oe, .inl (Y 0, 5, .inl (aN gso)))] → va_S A s.heap H locs → lv_has ls 10 [(2, .int (nI lst)), (3, .int (nI fnd)), (4, .int (nI k)), (7, .int (nI hs)), (0, .ref o), (1, .int xw)] → W p l e (mv_R 1 0 0) s m [.ref o, .int xw].toArray below meth c H locs 0 0 (MQ below ((q_X8_wear D Y o ob on ow8 os oe oi op oz oc8 oq om oy og ok8 sc8 cn8 bt a8 rs8 gA gR gh gca gun prs yrs gso xw) A) [.ref o, .int xw].toArray s 0 0 A) (F0 m 117 ls [.int (nI bt9)]) := by
            intro bt9 hus hhs hbt H locs ls hP hD hS hl
            have hbb : bt9 < 2 := by rw [hbt]; exact bN_lt _
            have L130 : ∀ (f2 : Nat) (hf2 : f2 = if popc us = 5 ∧ hs < lst then k else fnd) (H : Heap) (locs : List Loc) (ls : Array Slot), va_P D vwCl [(o, .inr (8, [.ref ob, .ref on, .ref ow8, .ref os, .ref oe, .int (nI sc8), .ref oi, .int (nI cn8), .ref op, .int (nI bt), .int (oI gA), .int (oI gR), .int rs8, .int (nI a8), .ref oz, .ref oc8, .ref oq, .ref om, .ref oy, .ref og, .ref ok8])), (ob, .inl (Y 0, 24, .inl (aN (bk gh gca gun prs yrs)))), (oe, .inl (Y 0, 5, .inl (aN gso)))] H → va_D A [(o, .inr (8, [.ref ob, .ref on, .ref ow8, .ref os, .ref oe, .int (nI sc8), .ref oi, .int (nI cn8), .ref op, .int (nI bt), .int (oI gA), .int (oI gR), .int rs8, .int (nI a8), .ref oz, .ref oc8, .ref oq, .ref om, .ref oy, .ref og, .ref ok8])), (ob, .inl (Y 0, 24, .inl (aN (bk gh gca gun prs yrs)))), (oe, .inl (Y 0, 5, .inl (aN gso)))] → va_S A s.heap H locs → lv_has ls 10 [(2, .int (nI lst)), (4, .int (nI k)), (7, .int (nI hs)), (8, .int (nI bt9)), (0, .ref o), (1, .int xw)] → W p l e (mv_R 1 0 0) s m [.ref o, .int xw].toArray below meth c H locs 0 0 (MQ below ((q_X8_wear D Y o ob on ow8 os oe oi op oz oc8 oq om oy og ok8 sc8 cn8 bt a8 rs8 gA gR gh gca gun prs yrs gso xw) A) [.ref o, .int xw].toArray s 0 0 A) (F0 m 130 ls [.int (nI f2)]) := by
              intro f2 hf2 H locs ls hP hD hS hl
              have L142 : ∀ (l2 : Nat) (hl2 : l2 = if popc us = 5 ∧ hs < lst then hs else lst) (H : Heap) (locs : List Loc) (ls : Array Slot), va_P D vwCl [(o, .inr (8, [.ref ob, .ref on, .ref ow8, .ref os, .ref oe, .int (nI sc8), .ref oi, .int (nI cn8), .ref op, .int (nI bt), .int (oI gA), .int (oI gR), .int rs8, .int (nI a8), .ref oz, .ref oc8, .ref oq, .ref om, .ref oy, .ref og, .ref ok8])), (ob, .inl (Y 0, 24, .inl (aN (bk gh gca gun prs yrs)))), (oe, .inl (Y 0, 5, .inl (aN gso)))] H → va_D A [(o, .inr (8, [.ref ob, .ref on, .ref ow8, .ref os, .ref oe, .int (nI sc8), .ref oi, .int (nI cn8), .ref op, .int (nI bt), .int (oI gA), .int (oI gR), .int rs8, .int (nI a8), .ref oz, .ref oc8, .ref oq, .ref om, .ref oy, .ref og, .ref ok8])), (ob, .inl (Y 0, 24, .inl (aN (bk gh gca gun prs yrs)))), (oe, .inl (Y 0, 5, .inl (aN gso)))] → va_S A s.heap H locs → lv_has ls 10 [(3, .int (nI f2)), (4, .int (nI k)), (0, .ref o), (1, .int xw)] → W p l e (mv_R 1 0 0) s m [.ref o, .int xw].toArray below meth c H locs 0 0 (MQ below ((q_X8_wear D Y o ob on ow8 os oe oi op oz oc8 oq om oy og ok8 sc8 cn8 bt a8 rs8 gA gR gh gca gun prs yrs gso xw) A) [.ref o, .int xw].toArray s 0 0 A) (F0 m 142 ls [.int (nI l2)]) := by
                intro l2 hl2 H locs ls hP hD hS hl
                refine lv_istore_n (lv' := [(2, .int (nI l2)), (3, .int (nI f2)), (4, .int (nI k)), (0, .ref o), (1, .int xw)]) hx hb dX8_wear_142 rfl hl (by decide) rfl (fun ls hl => ?_)
                refine lv_iinc (v := nI (k + 1)) (lv' := [(4, .int (nI (k + 1))), (2, .int (nI l2)), (3, .int (nI f2)), (0, .ref o), (1, .int xw)]) hx hb dX8_wear_143 hl (k := 2) rfl (by exact nI_add _ 1) (by decide) rfl (fun ls hl => ?_)
                refine lv_goto (tgt := 19) hx hb dX8_wear_146 (by decide) ?_
                exact L19ih  (k + 1) l2 f2 (by first | assumption | omega | rfl) (by first | assumption | omega | rfl) (wrI_s hI hus hhs hf2 hl2) (by omega) _ _ _ hP hD hS (lv_sub hl [1, 2, 0, 3, 4] rfl)
              refine lv_istore_n (lv' := [(3, .int (nI f2)), (2, .int (nI lst)), (4, .int (nI k)), (7, .int (nI hs)), (8, .int (nI bt9)), (0, .ref o), (1, .int xw)]) hx hb dX8_wear_130 rfl hl (by decide) rfl (fun ls hl => ?_)
              refine lv_iload hx hb dX8_wear_131 (lv_at hl 4 rfl) ?_
              refine mv_if_eq (tgt := 141) hx hb (by first | omega | exact Nat.lt_trans (bN_lt _) (by decide) | exact Nat.lt_of_le_of_lt (popc_le _) (by decide) | exact Nat.lt_of_le_of_lt Nat.and_le_left (by have := hh (rs % 6) (Nat.mod_lt _ (by decide)); omega)) dX8_wear_133 (by decide) (fun c133 => ?_) (fun c133 => ?_)
              · skip
                refine lv_iload_n hx hb dX8_wear_141 rfl (lv_at hl 1 rfl) ?_
                exact L142  lst ((if_neg (of_decide_eq_false (bN_0.mp (hbt.symm.trans (by omega))))).symm) _ _ _ hP hD hS (lv_sub hl [0, 2, 5, 6] rfl)
              · skip
                refine lv_iload hx hb dX8_wear_136 (lv_at hl 3 rfl) ?_
                refine lv_goto (tgt := 142) hx hb dX8_wear_138 (by decide) ?_
                exact L142  hs ((if_pos (of_decide_eq_true (bN_1.mp (by rw [← hbt]; omega)))).symm) _ _ _ hP hD hS (lv_sub hl [0, 2, 5, 6] rfl)
            refine lv_istore (lv' := [(8, .int (nI bt9)), (2, .int (nI lst)), (3, .int (nI fnd)), (4, .int (nI k)), (7, .int (nI hs)), (0, .ref o), (1, .int xw)]) hx hb dX8_wear_117 hl (by decide) rfl (fun ls hl => ?_)
            refine lv_iload hx hb dX8_wear_119 (lv_at hl 0 rfl) ?_
            refine mv_if_eq (tgt := 129) hx hb (by first | omega | exact Nat.lt_trans (bN_lt _) (by decide) | exact Nat.lt_of_le_of_lt (popc_le _) (by decide) | exact Nat.lt_of_le_of_lt Nat.and_le_left (by have := hh (rs % 6) (Nat.mod_lt _ (by decide)); omega)) dX8_wear_121 (by decide) (fun c121 => ?_) (fun c121 => ?_)
            · skip
              refine lv_iload_n hx hb dX8_wear_129 rfl (lv_at hl 2 rfl) ?_
              exact L130  fnd ((if_neg (of_decide_eq_false (bN_0.mp (hbt.symm.trans (by omega))))).symm) _ _ _ hP hD hS (lv_sub hl [1, 3, 4, 0, 5, 6] rfl)
            · skip
              refine lv_iload hx hb dX8_wear_124 (lv_at hl 3 rfl) ?_
              refine lv_goto (tgt := 130) hx hb dX8_wear_126 (by decide) ?_
              exact L130  k ((if_pos (of_decide_eq_true (bN_1.mp (by rw [← hbt]; omega)))).symm) _ _ _ hP hD hS (lv_sub hl [1, 3, 4, 0, 5, 6] rfl)
          refine lv_iload hx hb dX8_wear_40 (lv_at hl 6 rfl) ?_
          refine lv_if_lt (tgt := 97) hx hb dX8_wear_42 (by decide) (fun c42 => ?_) (fun c42 => ?_)
          · skip
            have hc0 : cc = 0 := (sub1_neg (by omega)).mp c42
            have hpu := popc_le us
            refine lv_iload hx hb dX8_wear_97 (lv_at hl 4 rfl) ?_
            refine mv_callSi (nA := 1) (As := [.int (nI us)]) (rest := []) (Wc := []) (wr := [(o, .inr (8, [.ref ob, .ref on, .ref ow8, .ref os, .ref oe, .int (nI sc8), .ref oi, .int (nI cn8), .ref op, .int (nI bt), .int (oI gA), .int (oI gR), .int rs8, .int (nI a8), .ref oz, .ref oc8, .ref oq, .ref om, .ref oy, .ref og, .ref ok8])), (ob, .inl (Y 0, 24, .inl (aN (bk gh gca gun prs yrs)))), (oe, .inl (Y 0, 5, .inl (aN gso)))]) hx hb hml hown hts hK hP hD hS hST hA hl.1 (c_X8_bits l D Y _ us (by first | assumption | omega | rfl)) [] [0, 1, 2] rfl rfl (by decide) (by decide) (by decide) rfl mw_437 mw_438 mw_5 mw_439 ⟨by decide, by decide, by decide +kernel⟩ rfl ⟨Nat.le_of_ble_eq_true rfl, Nat.le_of_ble_eq_true rfl⟩ rfl (Nat.le_of_ble_eq_true rfl) dX8_wear_99 ⟨Nat.le_of_ble_eq_true rfl, Nat.le_of_ble_eq_true rfl⟩ (fun r_1 ux H locs hr99 hP hD hS hz99 => ?_)
            have hP := hP.sub (ws' := [(o, .inr (8, [.ref ob, .ref on, .ref ow8, .ref os, .ref oe, .int (nI sc8), .ref oi, .int (nI cn8), .ref op, .int (nI bt), .int (oI gA), .int (oI gR), .int rs8, .int (nI a8), .ref oz, .ref oc8, .ref oq, .ref om, .ref oy, .ref og, .ref ok8])), (ob, .inl (Y 0, 24, .inl (aN (bk gh gca gun prs yrs)))), (oe, .inl (Y 0, 5, .inl (aN gso)))]) [0, 1, 2] rfl
            have hD := hD.sub (ws' := [(o, .inr (8, [.ref ob, .ref on, .ref ow8, .ref os, .ref oe, .int (nI sc8), .ref oi, .int (nI cn8), .ref op, .int (nI bt), .int (oI gA), .int (oI gR), .int rs8, .int (nI a8), .ref oz, .ref oc8, .ref oq, .ref om, .ref oy, .ref og, .ref ok8])), (ob, .inl (Y 0, 24, .inl (aN (bk gh gca gun prs yrs)))), (oe, .inl (Y 0, 5, .inl (aN gso)))]) [0, 1, 2] (by decide) rfl
            have hr99 : r_1 = nI (popc us) := hr99
            subst hr99
            refine lv_iconst (v := nI 5) hx hb dX8_wear_102 (by decide) ?_
            refine mv_icmp_ne (tgt := 116) hx hb (by first | omega | exact Nat.lt_trans (bN_lt _) (by decide) | exact Nat.lt_of_le_of_lt (popc_le _) (by decide) | exact Nat.lt_of_le_of_lt Nat.and_le_left (by have := hh (rs % 6) (Nat.mod_lt _ (by decide)); omega)) (by omega) dX8_wear_103 (by decide) (fun c103 => ?_) (fun c103 => ?_)
            · skip
              refine lv_iconst (v := nI 0) hx hb dX8_wear_116 (by decide) ?_
              exact L117  0 (by rw [hus0, hc0]) (by rw [hhs0, hc0]) ((bN_f (decide_eq_false (fun q => by omega))).symm) _ _ _ hP hD hS (lv_sub hl [0, 1, 2, 5, 7, 8] rfl)
            · skip
              refine lv_iload hx hb dX8_wear_106 (lv_at hl 5 rfl) ?_
              refine lv_iload_n hx hb dX8_wear_108 rfl (lv_at hl 0 rfl) ?_
              refine mv_icmp_ge (tgt := 116) hx hb (by first | omega | exact Nat.lt_trans (bN_lt _) (by decide) | exact Nat.lt_of_le_of_lt (popc_le _) (by decide) | exact Nat.lt_of_le_of_lt Nat.and_le_left (by have := hh (rs % 6) (Nat.mod_lt _ (by decide)); omega)) (by omega) dX8_wear_109 (by decide) (fun c109 => ?_) (fun c109 => ?_)
              · skip
                refine lv_iconst (v := nI 0) hx hb dX8_wear_116 (by decide) ?_
                exact L117  0 (by rw [hus0, hc0]) (by rw [hhs0, hc0]) ((bN_f (decide_eq_false (fun q => by omega))).symm) _ _ _ hP hD hS (lv_sub hl [0, 1, 2, 5, 7, 8] rfl)
              · skip
                refine lv_iconst (v := nI 1) hx hb dX8_wear_112 (by decide) ?_
                refine lv_goto (tgt := 117) hx hb dX8_wear_113 (by decide) ?_
                exact L117  1 (by rw [hus0, hc0]) (by rw [hhs0, hc0]) ((bN_t (decide_eq_true ⟨by omega, by omega⟩)).symm) _ _ _ hP hD hS (lv_sub hl [0, 1, 2, 5, 7, 8] rfl)
          · skip
            obtain ⟨c2, rfl⟩ : ∃ z, cc = z + 1 := ⟨cc - 1, by rcases Nat.eq_zero_or_pos cc with q | q; exact absurd ((sub1_neg (by omega)).mpr q) c42; omega⟩
            have he9 : nI (c2 + 1) - nI 1 = nI c2 := (pk_sub (by omega)).trans (congrArg nI (by omega))
            rw [he9] at hl
            refine lv_iload hx hb dX8_wear_45 (lv_at hl 3 rfl) ?_
            refine lv_bipush (v := nI 6) hx hb dX8_wear_47 (by decide) ?_
            refine mv_irem hx hb (by first | omega | exact Nat.lt_trans (bN_lt _) (by decide) | exact Nat.lt_of_le_of_lt (popc_le _) (by decide) | exact Nat.lt_of_le_of_lt Nat.and_le_left (by have := hh (rs % 6) (Nat.mod_lt _ (by decide)); omega)) (by omega) (by omega) dX8_wear_49 ?_
            refine lv_istore (lv' := [(9, .int (nI (rs % 6))), (2, .int (nI lst)), (3, .int (nI fnd)), (4, .int (nI k)), (5, .int (nI rs)), (6, .int (nI us)), (7, .int (nI hs)), (8, .int (nI c2)), (0, .ref o), (1, .int xw)]) hx hb dX8_wear_50 hl (by decide) rfl (fun ls hl => ?_)
            refine lv_iload hx hb dX8_wear_52 (lv_at hl 4 rfl) ?_
            refine lv_bipush (v := nI 6) hx hb dX8_wear_54 (by decide) ?_
            refine mv_idiv hx hb (by first | omega | exact Nat.lt_trans (bN_lt _) (by decide) | exact Nat.lt_of_le_of_lt (popc_le _) (by decide) | exact Nat.lt_of_le_of_lt Nat.and_le_left (by have := hh (rs % 6) (Nat.mod_lt _ (by decide)); omega)) (by omega) (by omega) dX8_wear_56 ?_
            refine lv_istore (lv' := [(5, .int (nI (rs / 6))), (9, .int (nI (rs % 6))), (2, .int (nI lst)), (3, .int (nI fnd)), (4, .int (nI k)), (6, .int (nI us)), (7, .int (nI hs)), (8, .int (nI c2)), (0, .ref o), (1, .int xw)]) hx hb dX8_wear_57 hl (by decide) rfl (fun ls hl => ?_)
            refine lv_iload hx hb dX8_wear_59 (lv_at hl 5 rfl) ?_
            refine lv_iconst (v := nI 1) hx hb dX8_wear_61 (by decide) ?_
            refine lv_iload hx hb dX8_wear_62 (lv_at hl 1 rfl) ?_
            refine mv_ishl hx hb (by omega) dX8_wear_64 ?_
            refine mv_ior hx hb dX8_wear_65 ?_
            refine lv_istore (lv' := [(6, .int (nI (us ||| (1 * 2 ^ (rs % 6))))), (5, .int (nI (rs / 6))), (9, .int (nI (rs % 6))), (2, .int (nI lst)), (3, .int (nI fnd)), (4, .int (nI k)), (7, .int (nI hs)), (8, .int (nI c2)), (0, .ref o), (1, .int xw)]) hx hb dX8_wear_66 hl (by decide) rfl (fun ls hl => ?_)
            refine lv_iload hx hb dX8_wear_68 (lv_at hl 6 rfl) ?_
            refine lv_aload_n hx hb dX8_wear_70 rfl (lv_at hl 8 rfl) ?_
            refine va_get (D := D) (ci := 8) (v := .ref ob) (C := RX8) (T := TX8) (N := 21) hx hb hts inlX8 hown hK hP 0 rfl rfl 0 (by decide) (hts _ mw_83) (fun _ h9 => h9) rfl dX8_wear_71 ?_
            refine lv_iload hx hb dX8_wear_74 (lv_at hl 2 rfl) ?_
            refine mv_iald hx hb hK hP 1 rfl (i := rs % 6) (by omega) (by decide) dX8_wear_76 ?_
            rw [show (bk gh gca gun prs yrs) (rs % 6) = gh (rs % 6) from bk_h (by omega)]
            refine lv_aload_n hx hb dX8_wear_77 rfl (lv_at hl 8 rfl) ?_
            refine va_get (D := D) (ci := 8) (v := .ref oe) (C := RX8) (T := TX8) (N := 21) hx hb hts inlX8 hown hK hP 0 rfl rfl 4 (by decide) (hts _ mw_87) (fun _ h9 => h9) rfl dX8_wear_78 ?_
            refine lv_iload hx hb dX8_wear_81 (lv_at hl 7 rfl) ?_
            refine mv_iald hx hb hK hP 2 rfl (i := c2) (by omega) (by decide) dX8_wear_83 ?_
            refine mv_iand hx hb dX8_wear_84 ?_
            refine mv_callSi (nA := 1) (As := [.int (nI ((gh (rs % 6)) &&& (gso c2)))]) (rest := [.int (nI hs)]) (Wc := []) (wr := [(o, .inr (8, [.ref ob, .ref on, .ref ow8, .ref os, .ref oe, .int (nI sc8), .ref oi, .int (nI cn8), .ref op, .int (nI bt), .int (oI gA), .int (oI gR), .int rs8, .int (nI a8), .ref oz, .ref oc8, .ref oq, .ref om, .ref oy, .ref og, .ref ok8])), (ob, .inl (Y 0, 24, .inl (aN (bk gh gca gun prs yrs)))), (oe, .inl (Y 0, 5, .inl (aN gso)))]) hx hb hml hown hts hK hP hD hS hST hA hl.1 (c_X8_bits l D Y _ ((gh (rs % 6)) &&& (gso c2)) (Nat.lt_of_le_of_lt Nat.and_le_left (by have := hh (rs % 6) (Nat.mod_lt _ (by decide)); omega))) [] [0, 1, 2] rfl rfl (by decide) (by decide) (by decide) rfl mw_437 mw_438 mw_5 mw_439 ⟨by decide, by decide, by decide +kernel⟩ rfl ⟨Nat.le_of_ble_eq_true rfl, Nat.le_of_ble_eq_true rfl⟩ rfl (Nat.le_of_ble_eq_true rfl) dX8_wear_85 ⟨Nat.le_of_ble_eq_true rfl, Nat.le_of_ble_eq_true rfl⟩ (fun r_2 ux H locs hr85 hP hD hS hz85 => ?_)
            have hP := hP.sub (ws' := [(o, .inr (8, [.ref ob, .ref on, .ref ow8, .ref os, .ref oe, .int (nI sc8), .ref oi, .int (nI cn8), .ref op, .int (nI bt), .int (oI gA), .int (oI gR), .int rs8, .int (nI a8), .ref oz, .ref oc8, .ref oq, .ref om, .ref oy, .ref og, .ref ok8])), (ob, .inl (Y 0, 24, .inl (aN (bk gh gca gun prs yrs)))), (oe, .inl (Y 0, 5, .inl (aN gso)))]) [0, 1, 2] rfl
            have hD := hD.sub (ws' := [(o, .inr (8, [.ref ob, .ref on, .ref ow8, .ref os, .ref oe, .int (nI sc8), .ref oi, .int (nI cn8), .ref op, .int (nI bt), .int (oI gA), .int (oI gR), .int rs8, .int (nI a8), .ref oz, .ref oc8, .ref oq, .ref om, .ref oy, .ref og, .ref ok8])), (ob, .inl (Y 0, 24, .inl (aN (bk gh gca gun prs yrs)))), (oe, .inl (Y 0, 5, .inl (aN gso)))]) [0, 1, 2] (by decide) rfl
            have hr85 : r_2 = nI (popc ((gh (rs % 6)) &&& (gso c2))) := hr85
            subst hr85
            refine mv_iadd hx hb dX8_wear_88 ?_
            refine lv_istore (lv' := [(7, .int (nI (hs + (popc ((gh (rs % 6)) &&& (gso c2)))))), (6, .int (nI (us ||| (1 * 2 ^ (rs % 6))))), (5, .int (nI (rs / 6))), (9, .int (nI (rs % 6))), (2, .int (nI lst)), (3, .int (nI fnd)), (4, .int (nI k)), (8, .int (nI c2)), (0, .ref o), (1, .int xw)]) hx hb dX8_wear_89 hl (by decide) rfl (fun ls hl => ?_)
            refine lv_iinc (v := nI c2 - nI 1) (lv' := [(8, .int (nI c2 - nI 1)), (7, .int (nI (hs + (popc ((gh (rs % 6)) &&& (gso c2)))))), (6, .int (nI (us ||| (1 * 2 ^ (rs % 6))))), (5, .int (nI (rs / 6))), (9, .int (nI (rs % 6))), (2, .int (nI lst)), (3, .int (nI fnd)), (4, .int (nI k)), (0, .ref o), (1, .int xw)]) hx hb dX8_wear_91 hl (k := 7) rfl (dec_sub _) (by decide) rfl (fun ls hl => ?_)
            refine lv_goto (tgt := 40) hx hb dX8_wear_94 (by decide) ?_
            exact L40ih  c2 (us ||| (1 * 2 ^ (rs % 6))) (hs + (popc ((gh (rs % 6)) &&& (gso c2)))) (rs / 6) (by first | assumption | omega | rfl) (by first | assumption | omega | rfl) (by rw [hrs, Nat.div_div_eq_div_mul, show 5 - c2 = 5 - (c2 + 1) + 1 by omega, Nat.pow_succ]) (by rw [show 5 - c2 = 5 - (c2 + 1) + 1 by omega, wrU, ← hus0, ← hrs]) (by rw [show 5 - c2 = 5 - (c2 + 1) + 1 by omega, wrH, ← hhs0, ← hrs, show 4 - (5 - (c2 + 1)) = c2 by omega]) (by omega) _ _ _ hP hD hS (lv_sub hl [5, 6, 7, 3, 2, 1, 0, 8, 9] rfl)
      refine lv_iload hx hb dX8_wear_19 (lv_at hl 2 rfl) ?_
      refine lv_sipush (v := nI 7776) hx hb dX8_wear_21 (by decide) ?_
      refine mv_icmp_ge (tgt := 149) hx hb (by first | omega | exact Nat.lt_trans (bN_lt _) (by decide) | exact Nat.lt_of_le_of_lt (popc_le _) (by decide) | exact Nat.lt_of_le_of_lt Nat.and_le_left (by have := hh (rs % 6) (Nat.mod_lt _ (by decide)); omega)) (by omega) dX8_wear_24 (by decide) (fun c24 => ?_) (fun c24 => ?_)
      · skip
        obtain ⟨m9, hm, hxm⟩ := wr_m hxw
        have hI9 := hI
        rw [show k = 7776 by omega] at hI9
        obtain ⟨hlf, hfk⟩ := wrI_f hI9
        refine lv_iload_n hx hb dX8_wear_149 rfl (lv_at hl 1 rfl) ?_
        refine lv_istore (lv' := [(4, .int (nI fnd)), (2, .int (nI lst)), (3, .int (nI fnd)), (0, .ref o), (1, .int xw)]) hx hb dX8_wear_150 hl (by decide) rfl (fun ls hl => ?_)
        refine lv_iconst (v := nI 4) hx hb dX8_wear_152 (by decide) ?_
        refine lv_istore (lv' := [(5, .int (nI 4)), (4, .int (nI fnd)), (2, .int (nI lst)), (3, .int (nI fnd)), (0, .ref o), (1, .int xw)]) hx hb dX8_wear_153 hl (by decide) rfl (fun ls hl => ?_)
        exact L155 (5 + 1) m9 5 fnd (by first | assumption | omega | rfl) (by first | assumption | omega | rfl) (by first | assumption | omega | rfl) (by first | assumption | omega | rfl) (by rw [hfk]; exact (Nat.div_one _).symm) (by first | assumption | omega | rfl) (Nat.lt_succ_self _) _ _ _ hP hD hS (lv_sub hl [2, 1, 0, 4, 5] rfl)
      · skip
        refine lv_iload hx hb dX8_wear_27 (lv_at hl 2 rfl) ?_
        refine lv_istore (lv' := [(5, .int (nI k)), (2, .int (nI lst)), (3, .int (nI fnd)), (4, .int (nI k)), (0, .ref o), (1, .int xw)]) hx hb dX8_wear_29 hl (by decide) rfl (fun ls hl => ?_)
        refine lv_iconst (v := nI 0) hx hb dX8_wear_31 (by decide) ?_
        refine lv_istore (lv' := [(6, .int (nI 0)), (5, .int (nI k)), (2, .int (nI lst)), (3, .int (nI fnd)), (4, .int (nI k)), (0, .ref o), (1, .int xw)]) hx hb dX8_wear_32 hl (by decide) rfl (fun ls hl => ?_)
        refine lv_iconst (v := nI 0) hx hb dX8_wear_34 (by decide) ?_
        refine lv_istore (lv' := [(7, .int (nI 0)), (6, .int (nI 0)), (5, .int (nI k)), (2, .int (nI lst)), (3, .int (nI fnd)), (4, .int (nI k)), (0, .ref o), (1, .int xw)]) hx hb dX8_wear_35 hl (by decide) rfl (fun ls hl => ?_)
        refine lv_iconst (v := nI 4) hx hb dX8_wear_37 (by decide) ?_
        refine lv_istore (lv' := [(8, .int (nI 4)), (7, .int (nI 0)), (6, .int (nI 0)), (5, .int (nI k)), (2, .int (nI lst)), (3, .int (nI fnd)), (4, .int (nI k)), (0, .ref o), (1, .int xw)]) hx hb dX8_wear_38 hl (by decide) rfl (fun ls hl => ?_)
        exact L40 (5 + 1) 5 0 0 k (by first | assumption | omega | rfl) (by first | assumption | omega | rfl) ((Nat.div_one k).symm) (rfl) (rfl) (Nat.lt_succ_self _) _ _ _ hP hD hS (lv_sub hl [4, 5, 6, 3, 2, 1, 0, 7, 8] rfl)
  refine lv_iload_n hx hb dX8_wear_0 rfl (lv_at hl 1 rfl) ?_
  refine lv_iconst (v := nI 4294967295) hx hb dX8_wear_1 (by decide) ?_
  refine lv_iconst (v := nI 4) hx hb dX8_wear_2 (by decide) ?_
  refine mv_callSi (nA := 3) (As := [.int xw, .int (nI 4294967295), .int (nI 4)]) (rest := []) (Wc := []) (wr := [(o, .inr (8, [.ref ob, .ref on, .ref ow8, .ref os, .ref oe, .int (nI sc8), .ref oi, .int (nI cn8), .ref op, .int (nI bt), .int (oI gA), .int (oI gR), .int rs8, .int (nI a8), .ref oz, .ref oc8, .ref oq, .ref om, .ref oy, .ref og, .ref ok8])), (ob, .inl (Y 0, 24, .inl (aN (bk gh gca gun prs yrs)))), (oe, .inl (Y 0, 5, .inl (aN gso)))]) hx hb hml hown hts hK hP hD hS hST hA hl.1 (c_X8_inR l D Y _ xw 4294967295 4 ) [] [0, 1, 2] rfl rfl (by decide) (by decide) (by decide) rfl mw_121 mw_122 mw_5 mw_123 ⟨by decide, by decide, by decide +kernel⟩ rfl ⟨Nat.le_of_ble_eq_true rfl, Nat.le_of_ble_eq_true rfl⟩ rfl (Nat.le_of_ble_eq_true rfl) dX8_wear_3 ⟨Nat.le_of_ble_eq_true rfl, Nat.le_of_ble_eq_true rfl⟩ (fun r_3 ux H locs hr3 hP hD hS hz3 => ?_)
  have hP := hP.sub (ws' := [(o, .inr (8, [.ref ob, .ref on, .ref ow8, .ref os, .ref oe, .int (nI sc8), .ref oi, .int (nI cn8), .ref op, .int (nI bt), .int (oI gA), .int (oI gR), .int rs8, .int (nI a8), .ref oz, .ref oc8, .ref oq, .ref om, .ref oy, .ref og, .ref ok8])), (ob, .inl (Y 0, 24, .inl (aN (bk gh gca gun prs yrs)))), (oe, .inl (Y 0, 5, .inl (aN gso)))]) [0, 1, 2] rfl
  have hD := hD.sub (ws' := [(o, .inr (8, [.ref ob, .ref on, .ref ow8, .ref os, .ref oe, .int (nI sc8), .ref oi, .int (nI cn8), .ref op, .int (nI bt), .int (oI gA), .int (oI gR), .int rs8, .int (nI a8), .ref oz, .ref oc8, .ref oq, .ref om, .ref oy, .ref og, .ref ok8])), (ob, .inl (Y 0, 24, .inl (aN (bk gh gca gun prs yrs)))), (oe, .inl (Y 0, 5, .inl (aN gso)))]) [0, 1, 2] (by decide) rfl
  have hr3 : r_3 = nI (bN (inQ xw 4294967295 4)) := hr3
  subst hr3
  refine mv_if_ne (tgt := 11) hx hb (by first | omega | exact Nat.lt_trans (bN_lt _) (by decide) | exact Nat.lt_of_le_of_lt (popc_le _) (by decide) | exact Nat.lt_of_le_of_lt Nat.and_le_left (by have := hh (rs % 6) (Nat.mod_lt _ (by decide)); omega)) dX8_wear_6 (by decide) (fun c6 => ?_) (fun c6 => ?_)
  · skip
    refine lv_ldc (v := nI 1000000) hx hb hown (hts _ mw_484) dX8_wear_11 ?_
    refine lv_istore_n (lv' := [(2, .int (nI 1000000)), (0, .ref o), (1, .int xw)]) hx hb dX8_wear_13 rfl hl (by decide) rfl (fun ls hl => ?_)
    refine lv_iconst (v := nI 0) hx hb dX8_wear_14 (by decide) ?_
    refine lv_istore_n (lv' := [(3, .int (nI 0)), (2, .int (nI 1000000)), (0, .ref o), (1, .int xw)]) hx hb dX8_wear_15 rfl hl (by decide) rfl (fun ls hl => ?_)
    refine lv_iconst (v := nI 0) hx hb dX8_wear_16 (by decide) ?_
    refine lv_istore (lv' := [(4, .int (nI 0)), (3, .int (nI 0)), (2, .int (nI 1000000)), (0, .ref o), (1, .int xw)]) hx hb dX8_wear_17 hl (by decide) rfl (fun ls hl => ?_)
    exact L19 (7776 - 0 + 1) 0 1000000 0 (by first | assumption | omega | rfl) (bN_1.mp c6) (wrI_0 _ _) (Nat.lt_succ_self _) _ _ _ hP hD hS (lv_sub hl [2, 1, 0, 3, 4] rfl)
  · skip
    have hn_xw_c6 : inQ xw 4294967295 4 = false := bN_0.mp c6
    refine lv_iconst (v := nI 4294967295) hx hb dX8_wear_9 (by decide) ?_
    exact mv_iret hx hb hr hlocks () ((wr_no (bN_0.mp c6)).symm) hP hK hD hS dX8_wear_10
abbrev q_X8_year (D : va_G) (Y : Nat → ClassId) (o : Nat) (ob : Nat) (on : Nat) (ow8 : Nat) (os : Nat) (oe : Nat) (oi : Nat) (op : Nat) (oz : Nat) (oc8 : Nat) (oq : Nat) (om : Nat) (oy : Nat) (og : Nat) (ok8 : Nat) (sc8 : Nat) (cn8 : Nat) (bt : Nat) (a8 : Nat) (rs8 : Int32) (gA : Option Nat) (gR : Option Nat) (gh : Nat → Nat) (gca : Nat → Nat) (gun : Nat → Nat) (prs : Nat) (yrs : Nat) (gro : Nat → Nat) (gsh : Nat → Nat) (gz0 : Nat → Nat) (x1 : Int32) (x2 : Int32) (x3 : Int32) : (Nat → Prop) → Array Value → State → Outcome → State → Prop := mv_Qi D Y (fun (r : Int32) (ux : Nat × Option Nat × Option Nat × (Nat → Nat)) => r = sp_year gro gsh (gh, gca, prs, yrs, gun, 0, none, none) x1 x2 x3) (fun ux : Nat × Option Nat × Option Nat × (Nat → Nat) => ([(o, .inr (8, [.ref ob, .ref on, .ref ow8, .ref os, .ref oe, .int (nI sc8), .ref oi, .int (nI cn8), .ref op, .int (nI ux.1), .int (oI ux.2.1), .int (oI ux.2.2.1), .int rs8, .int (nI a8), .ref oz, .ref oc8, .ref oq, .ref om, .ref oy, .ref og, .ref ok8])), (ob, .inl (Y 0, 24, .inl (aN (bk gh gca gun prs yrs)))), (on, .inl (Y 0, 24, .inl (aN ux.2.2.2))), (ow8, .inl (Y 0, 10, .inl (aN gro))), (os, .inl (Y 0, 10, .inl (aN gsh)))] : va_W))
set_option maxHeartbeats 16000000 in
set_option maxRecDepth 100000 in
theorem c_X8_year (l : Launch) (D : va_G) (Y : Nat → ClassId) (sz : Nat) (o : Nat) (ob : Nat) (on : Nat) (ow8 : Nat) (os : Nat) (oe : Nat) (oi : Nat) (op : Nat) (oz : Nat) (oc8 : Nat) (oq : Nat) (om : Nat) (oy : Nat) (og : Nat) (ok8 : Nat) (sc8 : Nat) (cn8 : Nat) (bt : Nat) (a8 : Nat) (rs8 : Int32) (gA : Option Nat) (gR : Option Nat) (gh : Nat → Nat) (gca : Nat → Nat) (gun : Nat → Nat) (prs : Nat) (yrs : Nat) (gro : Nat → Nat) (gsh : Nat → Nat) (gz0 : Nat → Nat) (x1 : Int32) (x2 : Int32) (x3 : Int32) (hro : ∀ k, k < 10 → gro k < 6) (hsh : ∀ k, k < 10 → gsh k < 65536) (hp : prs < 64) (hy : yrs ≤ 99) (hh : ∀ k, k < 6 → gh k < 65536) (hc : ∀ k, k < 6 → gca k ≤ 9) (hu : ∀ k, k < 10 → gun k ≤ 9) : mv_C l D Y yX8_year cX8_year 9 (some .int) 2 0 0 [.ref o, .int x1, .int x2, .int x3] sz [(o, .inr (8, [.ref ob, .ref on, .ref ow8, .ref os, .ref oe, .int (nI sc8), .ref oi, .int (nI cn8), .ref op, .int (nI bt), .int (oI gA), .int (oI gR), .int rs8, .int (nI a8), .ref oz, .ref oc8, .ref oq, .ref om, .ref oy, .ref og, .ref ok8])), (ob, .inl (Y 0, 24, .inl (aN (bk gh gca gun prs yrs)))), (on, .inl (Y 0, 24, .inl (aN gz0))), (ow8, .inl (Y 0, 10, .inl (aN gro))), (os, .inl (Y 0, 10, .inl (aN gsh)))] (q_X8_year D Y o ob on ow8 os oe oi op oz oc8 oq om oy og ok8 sc8 cn8 bt a8 rs8 gA gR gh gca gun prs yrs gro gsh gz0 x1 x2 x3) := by
  refine mv_ofW (by decide) (Nat.le_of_ble_eq_true rfl) ?_
  intro p e s m below meth c ls A hx hb hr hlocks hml hnm hown hts hsz hAe hP hK hD hS hST hA hl
  have hl : lv_has ls 9 [(0, .ref o), (1, .int x1), (2, .int x2), (3, .int x3)] := hl
  have L43 : ∀ (fu : Nat) (kx1 : Nat) (kx2 : Nat) (kx3 : Nat) (k : Nat) (n : Nat) (az : Nat) (xz : Nat) (hz : Nat → Nat) (caz : Nat → Nat) (pz : Nat) (yz : Nat) (uz : Nat → Nat) (ez : Nat) (Az : Option Nat) (Rz : Option Nat) (e1 : x1 = nI kx1) (hi1 : kx1 ≤ 9999) (e2 : x2 = nI kx2) (lo2 : 1 ≤ kx2) (hi2 : kx2 ≤ 99) (e3 : x3 = nI kx3) (hi3 : kx3 ≤ 2) (hn : n + k = kx2) (hxz : xz < 65537) (hd : drw gro gsh n xz az (hz, caz, pz, yz, uz, ez, Az, Rz) = drw gro gsh kx2 kx1 0 (gh, gca, prs, yrs, gun, 0, none, none)) (hok : okT (hz, caz, pz, yz, uz, ez, Az, Rz)) (hmeas : n < fu) (H : Heap) (locs : List Loc) (ls : Array Slot), va_P D vwCl [(o, .inr (8, [.ref ob, .ref on, .ref ow8, .ref os, .ref oe, .int (nI sc8), .ref oi, .int (nI cn8), .ref op, .int (nI ez), .int (-6), .int (-6), .int rs8, .int (nI a8), .ref oz, .ref oc8, .ref oq, .ref om, .ref oy, .ref og, .ref ok8])), (ob, .inl (Y 0, 24, .inl (aN (bk gh gca gun prs yrs)))), (on, .inl (Y 0, 24, .inl (aN (bk hz caz uz pz yz)))), (ow8, .inl (Y 0, 10, .inl (aN gro))), (os, .inl (Y 0, 10, .inl (aN gsh)))] H → va_D A [(o, .inr (8, [.ref ob, .ref on, .ref ow8, .ref os, .ref oe, .int (nI sc8), .ref oi, .int (nI cn8), .ref op, .int (nI ez), .int (-6), .int (-6), .int rs8, .int (nI a8), .ref oz, .ref oc8, .ref oq, .ref om, .ref oy, .ref og, .ref ok8])), (ob, .inl (Y 0, 24, .inl (aN (bk gh gca gun prs yrs)))), (on, .inl (Y 0, 24, .inl (aN (bk hz caz uz pz yz)))), (ow8, .inl (Y 0, 10, .inl (aN gro))), (os, .inl (Y 0, 10, .inl (aN gsh)))] → va_S A s.heap H locs → lv_has ls 9 [(4, .int (nI xz)), (5, .int (nI k)), (0, .ref o), (1, .int (nI kx1)), (2, .int (nI kx2)), (3, .int (nI kx3))] → W p l e (mv_R 2 0 0) s m [.ref o, .int x1, .int x2, .int x3].toArray below meth c H locs 0 0 (MQ below ((q_X8_year D Y o ob on ow8 os oe oi op oz oc8 oq om oy og ok8 sc8 cn8 bt a8 rs8 gA gR gh gca gun prs yrs gro gsh gz0 x1 x2 x3) A) [.ref o, .int x1, .int x2, .int x3].toArray s 0 0 A) (F0 m 43 ls []) := by
    intro fu
    induction fu with
    | zero =>
      intro kx1 kx2 kx3 k n az xz hz caz pz yz uz ez Az Rz e1 hi1 e2 lo2 hi2 e3 hi3 hn hxz hd hok hmeas
      exact absurd hmeas (Nat.not_lt_zero _)
    | succ fu L43ih =>
      intro kx1 kx2 kx3 k n az xz hz caz pz yz uz ez Az Rz e1 hi1 e2 lo2 hi2 e3 hi3 hn hxz hd hok hmeas H locs ls hP hD hS hl
      have hq1 : inQ (nI kx1) 0 9999 = true := (inQ_nI (by omega) (by decide) (by decide)).trans (decide_eq_true ⟨by omega, by omega⟩)
      have hcl1 : (nI kx1).toNatClampNeg = kx1 := nI_clamp (by omega)
      have hq2 : inQ (nI kx2) 1 99 = true := (inQ_nI (by omega) (by decide) (by decide)).trans (decide_eq_true ⟨by omega, by omega⟩)
      have hcl2 : (nI kx2).toNatClampNeg = kx2 := nI_clamp (by omega)
      have hq3 : inQ (nI kx3) 0 2 = true := (inQ_nI (by omega) (by decide) (by decide)).trans (decide_eq_true ⟨by omega, by omega⟩)
      have hcl3 : (nI kx3).toNatClampNeg = kx3 := nI_clamp (by omega)
      obtain ⟨ok1, ok2, ok3, ok4, ok5⟩ := id hok
      have L195 : ∀ (fu : Nat) (r9 : Nat) (wh : Nat) (hr9 : r9 ≤ 6) (hwh : wh + 16 * r9 = 96 + whC hz r9) (hfi : drw gro gsh kx2 kx1 0 (gh, gca, prs, yrs, gun, 0, none, none) = (hz, caz, pz, yz, uz, ez, Az, Rz)) (hmeas : 6 - r9 < fu) (H : Heap) (locs : List Loc) (ls : Array Slot), va_P D vwCl [(o, .inr (8, [.ref ob, .ref on, .ref ow8, .ref os, .ref oe, .int (nI sc8), .ref oi, .int (nI cn8), .ref op, .int (nI ez), .int (-6), .int (-6), .int rs8, .int (nI a8), .ref oz, .ref oc8, .ref oq, .ref om, .ref oy, .ref og, .ref ok8])), (ob, .inl (Y 0, 24, .inl (aN (bk gh gca gun prs yrs)))), (on, .inl (Y 0, 24, .inl (aN (bk hz caz uz pz yz)))), (ow8, .inl (Y 0, 10, .inl (aN gro))), (os, .inl (Y 0, 10, .inl (aN gsh)))] H → va_D A [(o, .inr (8, [.ref ob, .ref on, .ref ow8, .ref os, .ref oe, .int (nI sc8), .ref oi, .int (nI cn8), .ref op, .int (nI ez), .int (-6), .int (-6), .int rs8, .int (nI a8), .ref oz, .ref oc8, .ref oq, .ref om, .ref oy, .ref og, .ref ok8])), (ob, .inl (Y 0, 24, .inl (aN (bk gh gca gun prs yrs)))), (on, .inl (Y 0, 24, .inl (aN (bk hz caz uz pz yz)))), (ow8, .inl (Y 0, 10, .inl (aN gro))), (os, .inl (Y 0, 10, .inl (aN gsh)))] → va_S A s.heap H locs → lv_has ls 9 [(5, .int (nI wh)), (6, .int (nI 0)), (7, .int (nI r9)), (0, .ref o), (1, .int (nI kx1)), (2, .int (nI kx2)), (3, .int (nI kx3))] → W p l e (mv_R 2 0 0) s m [.ref o, .int x1, .int x2, .int x3].toArray below meth c H locs 0 0 (MQ below ((q_X8_year D Y o ob on ow8 os oe oi op oz oc8 oq om oy og ok8 sc8 cn8 bt a8 rs8 gA gR gh gca gun prs yrs gro gsh gz0 x1 x2 x3) A) [.ref o, .int x1, .int x2, .int x3].toArray s 0 0 A) (F0 m 195 ls []) := by
        intro fu
        induction fu with
        | zero =>
          intro r9 wh hr9 hwh hfi hmeas
          exact absurd hmeas (Nat.not_lt_zero _)
        | succ fu L195ih =>
          intro r9 wh hr9 hwh hfi hmeas H locs ls hP hD hS hl
          have hpl := popc_le (hz r9)
          have L226 : ∀ (fu : Nat) (s9 : Nat) (un : Nat) (hs9 : s9 ≤ 10) (hun : un = popc (flsS uz s9)) (hw6 : wh = whC hz 6) (hmeas : 10 - s9 < fu) (H : Heap) (locs : List Loc) (ls : Array Slot), va_P D vwCl [(o, .inr (8, [.ref ob, .ref on, .ref ow8, .ref os, .ref oe, .int (nI sc8), .ref oi, .int (nI cn8), .ref op, .int (nI ez), .int (-6), .int (-6), .int rs8, .int (nI a8), .ref oz, .ref oc8, .ref oq, .ref om, .ref oy, .ref og, .ref ok8])), (ob, .inl (Y 0, 24, .inl (aN (bk gh gca gun prs yrs)))), (on, .inl (Y 0, 24, .inl (aN (bk hz caz uz pz yz)))), (ow8, .inl (Y 0, 10, .inl (aN gro))), (os, .inl (Y 0, 10, .inl (aN gsh)))] H → va_D A [(o, .inr (8, [.ref ob, .ref on, .ref ow8, .ref os, .ref oe, .int (nI sc8), .ref oi, .int (nI cn8), .ref op, .int (nI ez), .int (-6), .int (-6), .int rs8, .int (nI a8), .ref oz, .ref oc8, .ref oq, .ref om, .ref oy, .ref og, .ref ok8])), (ob, .inl (Y 0, 24, .inl (aN (bk gh gca gun prs yrs)))), (on, .inl (Y 0, 24, .inl (aN (bk hz caz uz pz yz)))), (ow8, .inl (Y 0, 10, .inl (aN gro))), (os, .inl (Y 0, 10, .inl (aN gsh)))] → va_S A s.heap H locs → lv_has ls 9 [(5, .int (nI wh)), (6, .int (nI un)), (7, .int (nI s9)), (0, .ref o), (1, .int (nI kx1)), (2, .int (nI kx2)), (3, .int (nI kx3))] → W p l e (mv_R 2 0 0) s m [.ref o, .int x1, .int x2, .int x3].toArray below meth c H locs 0 0 (MQ below ((q_X8_year D Y o ob on ow8 os oe oi op oz oc8 oq om oy og ok8 sc8 cn8 bt a8 rs8 gA gR gh gca gun prs yrs gro gsh gz0 x1 x2 x3) A) [.ref o, .int x1, .int x2, .int x3].toArray s 0 0 A) (F0 m 226 ls []) := by
            intro fu
            induction fu with
            | zero =>
              intro s9 un hs9 hun hw6 hmeas
              exact absurd hmeas (Nat.not_lt_zero _)
            | succ fu L226ih =>
              intro s9 un hs9 hun hw6 hmeas H locs ls hP hD hS hl
              have L253 : ∀ (z9 : Nat) (hz9 : z9 = if 0 < uz s9 then 1 else 0) (hs10 : s9 < 10) (H : Heap) (locs : List Loc) (ls : Array Slot), va_P D vwCl [(o, .inr (8, [.ref ob, .ref on, .ref ow8, .ref os, .ref oe, .int (nI sc8), .ref oi, .int (nI cn8), .ref op, .int (nI ez), .int (-6), .int (-6), .int rs8, .int (nI a8), .ref oz, .ref oc8, .ref oq, .ref om, .ref oy, .ref og, .ref ok8])), (ob, .inl (Y 0, 24, .inl (aN (bk gh gca gun prs yrs)))), (on, .inl (Y 0, 24, .inl (aN (bk hz caz uz pz yz)))), (ow8, .inl (Y 0, 10, .inl (aN gro))), (os, .inl (Y 0, 10, .inl (aN gsh)))] H → va_D A [(o, .inr (8, [.ref ob, .ref on, .ref ow8, .ref os, .ref oe, .int (nI sc8), .ref oi, .int (nI cn8), .ref op, .int (nI ez), .int (-6), .int (-6), .int rs8, .int (nI a8), .ref oz, .ref oc8, .ref oq, .ref om, .ref oy, .ref og, .ref ok8])), (ob, .inl (Y 0, 24, .inl (aN (bk gh gca gun prs yrs)))), (on, .inl (Y 0, 24, .inl (aN (bk hz caz uz pz yz)))), (ow8, .inl (Y 0, 10, .inl (aN gro))), (os, .inl (Y 0, 10, .inl (aN gsh)))] → va_S A s.heap H locs → lv_has ls 9 [(5, .int (nI wh)), (7, .int (nI s9)), (0, .ref o), (1, .int (nI kx1)), (2, .int (nI kx2)), (3, .int (nI kx3))] → W p l e (mv_R 2 0 0) s m [.ref o, .int x1, .int x2, .int x3].toArray below meth c H locs 0 0 (MQ below ((q_X8_year D Y o ob on ow8 os oe oi op oz oc8 oq om oy og ok8 sc8 cn8 bt a8 rs8 gA gR gh gca gun prs yrs gro gsh gz0 x1 x2 x3) A) [.ref o, .int x1, .int x2, .int x3].toArray s 0 0 A) (F0 m 253 ls [.int (nI z9), .int (nI un)]) := by
                intro z9 hz9 hs10 H locs ls hP hD hS hl
                refine mv_iadd hx hb dX8_year_253 ?_
                refine lv_istore (lv' := [(6, .int (nI (un + z9))), (5, .int (nI wh)), (7, .int (nI s9)), (0, .ref o), (1, .int (nI kx1)), (2, .int (nI kx2)), (3, .int (nI kx3))]) hx hb dX8_year_254 hl (by decide) rfl (fun ls hl => ?_)
                refine lv_iinc (v := nI (s9 + 1)) (lv' := [(7, .int (nI (s9 + 1))), (6, .int (nI (un + z9))), (5, .int (nI wh)), (0, .ref o), (1, .int (nI kx1)), (2, .int (nI kx2)), (3, .int (nI kx3))]) hx hb dX8_year_256 hl (k := 2) rfl (by exact nI_add _ 1) (by decide) rfl (fun ls hl => ?_)
                refine lv_goto (tgt := 226) hx hb dX8_year_259 (by decide) ?_
                exact L226ih  (s9 + 1) (un + z9) (by first | assumption | omega | rfl) (by rw [fls_pop (by omega), ← hun, ← hz9]) (by first | assumption | omega | rfl) (by omega) _ _ _ hP hD hS (lv_sub hl [2, 1, 0, 3, 4, 5, 6] rfl)
              refine lv_iload hx hb dX8_year_226 (lv_at hl 2 rfl) ?_
              refine lv_bipush (v := nI 10) hx hb dX8_year_228 (by decide) ?_
              refine mv_icmp_ge (tgt := 262) hx hb (by first | omega | exact Nat.lt_trans (bN_lt _) (by decide) | (have := ok5 s9 (by omega); dsimp only at this; omega)) (by omega) dX8_year_230 (by decide) (fun c230 => ?_) (fun c230 => ?_)
              · skip
                refine lv_iload_n hx hb dX8_year_262 rfl (lv_at hl 6 rfl) ?_
                refine mv_if_ne (tgt := 271) hx hb (by first | omega | exact Nat.lt_trans (bN_lt _) (by decide) | (have := ok5 s9 (by omega); dsimp only at this; omega)) dX8_year_263 (by decide) (fun c263 => ?_) (fun c263 => ?_)
                · skip
                  refine lv_iload_n hx hb dX8_year_271 rfl (lv_at hl 6 rfl) ?_
                  refine lv_iconst (v := nI 1) hx hb dX8_year_272 (by decide) ?_
                  refine mv_icmp_ne (tgt := 283) hx hb (by first | omega | exact Nat.lt_trans (bN_lt _) (by decide) | (have := ok5 s9 (by omega); dsimp only at this; omega)) (by omega) dX8_year_273 (by decide) (fun c273 => ?_) (fun c273 => ?_)
                  · skip
                    refine lv_iload hx hb dX8_year_283 (lv_at hl 1 rfl) ?_
                    exact mv_iret hx hb hr hlocks (ez, none, none, bk hz caz uz pz yz) (by simp only [sp_year, e1, hq1, hcl1, e2, hq2, hcl2, e3, hq3, hcl3, hfi, Bool.not_true, Bool.not_false, if_true, if_false, Bool.false_eq_true, reduceIte, Bool.true_and, Bool.and_true, Bool.false_and, Bool.and_false, Bool.or_false, Bool.or_true, ite_self] <;> (rw [if_neg (by omega), if_neg (by omega), hun, show s9 = 10 by omega])) hP hK hD hS dX8_year_285
                  · skip
                    refine lv_aload_n hx hb dX8_year_276 rfl (lv_at hl 3 rfl) ?_
                    refine va_get (D := D) (ci := 8) (v := .int (nI ez)) (C := RX8) (T := TX8) (N := 21) hx hb hts inlX8 hown hK hP 0 rfl rfl 9 (by decide) (hts _ mw_321) (fun _ h9 => h9) rfl dX8_year_277 ?_
                    refine lv_goto (tgt := 285) hx hb dX8_year_280 (by decide) ?_
                    exact mv_iret hx hb hr hlocks (ez, none, none, bk hz caz uz pz yz) (by simp only [sp_year, e1, hq1, hcl1, e2, hq2, hcl2, e3, hq3, hcl3, hfi, Bool.not_true, Bool.not_false, if_true, if_false, Bool.false_eq_true, reduceIte, Bool.true_and, Bool.and_true, Bool.false_and, Bool.and_false, Bool.or_false, Bool.or_true, ite_self] <;> (rw [if_neg (by omega), if_pos (by omega)])) hP hK hD hS dX8_year_285
                · skip
                  refine lv_iload hx hb dX8_year_266 (lv_at hl 0 rfl) ?_
                  refine lv_goto (tgt := 285) hx hb dX8_year_268 (by decide) ?_
                  exact mv_iret hx hb hr hlocks (ez, none, none, bk hz caz uz pz yz) (by simp only [sp_year, e1, hq1, hcl1, e2, hq2, hcl2, e3, hq3, hcl3, hfi, Bool.not_true, Bool.not_false, if_true, if_false, Bool.false_eq_true, reduceIte, Bool.true_and, Bool.and_true, Bool.false_and, Bool.and_false, Bool.or_false, Bool.or_true, ite_self] <;> (rw [if_pos (by omega), hw6])) hP hK hD hS dX8_year_285
              · skip
                refine lv_iload hx hb dX8_year_233 (lv_at hl 1 rfl) ?_
                refine lv_aload_n hx hb dX8_year_235 rfl (lv_at hl 3 rfl) ?_
                refine va_get (D := D) (ci := 8) (v := .ref on) (C := RX8) (T := TX8) (N := 21) hx hb hts inlX8 hown hK hP 0 rfl rfl 1 (by decide) (hts _ mw_84) (fun _ h9 => h9) rfl dX8_year_236 ?_
                refine lv_bipush (v := nI 12) hx hb dX8_year_239 (by decide) ?_
                refine lv_iload hx hb dX8_year_241 (lv_at hl 2 rfl) ?_
                refine mv_iadd hx hb dX8_year_243 ?_
                refine mv_iald hx hb hK hP 2 rfl (i := 12 + s9) (by omega) (by decide) dX8_year_244 ?_
                rw [show (bk hz caz uz pz yz) (12 + s9) = uz s9 from bk_u (by omega)]
                refine mv_if_le (tgt := 252) hx hb (by first | omega | exact Nat.lt_trans (bN_lt _) (by decide) | (have := ok5 s9 (by omega); dsimp only at this; omega)) dX8_year_245 (by decide) (fun c245 => ?_) (fun c245 => ?_)
                · skip
                  refine lv_iconst (v := nI 0) hx hb dX8_year_252 (by decide) ?_
                  exact L253  0 ((if_neg (by omega)).symm) (by first | assumption | omega | rfl) _ _ _ hP hD hS (lv_sub hl [0, 2, 3, 4, 5, 6] rfl)
                · skip
                  refine lv_iconst (v := nI 1) hx hb dX8_year_248 (by decide) ?_
                  refine lv_goto (tgt := 253) hx hb dX8_year_249 (by decide) ?_
                  exact L253  1 ((if_pos (by omega)).symm) (by first | assumption | omega | rfl) _ _ _ hP hD hS (lv_sub hl [0, 2, 3, 4, 5, 6] rfl)
          refine lv_iload hx hb dX8_year_195 (lv_at hl 2 rfl) ?_
          refine lv_bipush (v := nI 6) hx hb dX8_year_197 (by decide) ?_
          refine mv_icmp_ge (tgt := 223) hx hb (by first | omega | exact Nat.lt_trans (bN_lt _) (by decide) | (have := ok5 s9 (by omega); dsimp only at this; omega)) (by omega) dX8_year_199 (by decide) (fun c199 => ?_) (fun c199 => ?_)
          · skip
            refine lv_iconst (v := nI 0) hx hb dX8_year_223 (by decide) ?_
            refine lv_istore (lv' := [(7, .int (nI 0)), (5, .int (nI wh)), (6, .int (nI 0)), (0, .ref o), (1, .int (nI kx1)), (2, .int (nI kx2)), (3, .int (nI kx3))]) hx hb dX8_year_224 hl (by decide) rfl (fun ls hl => ?_)
            exact L226 (10 - 0 + 1) 0 0 (by first | assumption | omega | rfl) ((by decide : 0 = popc 0)) (by rw [show r9 = 6 by omega] at hwh; omega) (Nat.lt_succ_self _) _ _ _ hP hD hS (lv_sub hl [1, 2, 0, 3, 4, 5, 6] rfl)
          · skip
            refine lv_iload hx hb dX8_year_202 (lv_at hl 0 rfl) ?_
            refine lv_aload_n hx hb dX8_year_204 rfl (lv_at hl 3 rfl) ?_
            refine va_get (D := D) (ci := 8) (v := .ref on) (C := RX8) (T := TX8) (N := 21) hx hb hts inlX8 hown hK hP 0 rfl rfl 1 (by decide) (hts _ mw_84) (fun _ h9 => h9) rfl dX8_year_205 ?_
            refine lv_iload hx hb dX8_year_208 (lv_at hl 2 rfl) ?_
            refine mv_iald hx hb hK hP 2 rfl (i := r9) (by omega) (by decide) dX8_year_210 ?_
            rw [show (bk hz caz uz pz yz) r9 = hz r9 from bk_h (by omega)]
            refine mv_callSi (nA := 1) (As := [.int (nI (hz r9))]) (rest := [.int (nI wh)]) (Wc := []) (wr := [(o, .inr (8, [.ref ob, .ref on, .ref ow8, .ref os, .ref oe, .int (nI sc8), .ref oi, .int (nI cn8), .ref op, .int (nI ez), .int (-6), .int (-6), .int rs8, .int (nI a8), .ref oz, .ref oc8, .ref oq, .ref om, .ref oy, .ref og, .ref ok8])), (ob, .inl (Y 0, 24, .inl (aN (bk gh gca gun prs yrs)))), (on, .inl (Y 0, 24, .inl (aN (bk hz caz uz pz yz)))), (ow8, .inl (Y 0, 10, .inl (aN gro))), (os, .inl (Y 0, 10, .inl (aN gsh)))]) hx hb hml hown hts hK hP hD hS hST hA hl.1 (c_X8_bits l D Y _ (hz r9) (by have := ok1 r9 (by omega); dsimp only at this; omega)) [] [0, 1, 2, 3, 4] rfl rfl (by decide) (by decide) (by decide) rfl mw_437 mw_438 mw_5 mw_439 ⟨by decide, by decide, by decide +kernel⟩ rfl ⟨Nat.le_of_ble_eq_true rfl, Nat.le_of_ble_eq_true rfl⟩ rfl (Nat.le_of_ble_eq_true rfl) dX8_year_211 ⟨Nat.le_of_ble_eq_true rfl, Nat.le_of_ble_eq_true rfl⟩ (fun r_1 ux H locs hr211 hP hD hS hz211 => ?_)
            have hP := hP.sub (ws' := [(o, .inr (8, [.ref ob, .ref on, .ref ow8, .ref os, .ref oe, .int (nI sc8), .ref oi, .int (nI cn8), .ref op, .int (nI ez), .int (-6), .int (-6), .int rs8, .int (nI a8), .ref oz, .ref oc8, .ref oq, .ref om, .ref oy, .ref og, .ref ok8])), (ob, .inl (Y 0, 24, .inl (aN (bk gh gca gun prs yrs)))), (on, .inl (Y 0, 24, .inl (aN (bk hz caz uz pz yz)))), (ow8, .inl (Y 0, 10, .inl (aN gro))), (os, .inl (Y 0, 10, .inl (aN gsh)))]) [0, 1, 2, 3, 4] rfl
            have hD := hD.sub (ws' := [(o, .inr (8, [.ref ob, .ref on, .ref ow8, .ref os, .ref oe, .int (nI sc8), .ref oi, .int (nI cn8), .ref op, .int (nI ez), .int (-6), .int (-6), .int rs8, .int (nI a8), .ref oz, .ref oc8, .ref oq, .ref om, .ref oy, .ref og, .ref ok8])), (ob, .inl (Y 0, 24, .inl (aN (bk gh gca gun prs yrs)))), (on, .inl (Y 0, 24, .inl (aN (bk hz caz uz pz yz)))), (ow8, .inl (Y 0, 10, .inl (aN gro))), (os, .inl (Y 0, 10, .inl (aN gsh)))]) [0, 1, 2, 3, 4] (by decide) rfl
            have hr211 : r_1 = nI (popc (hz r9)) := hr211
            subst hr211
            refine mv_isub hx hb (by omega) dX8_year_214 ?_
            refine lv_istore (lv' := [(5, .int (nI (wh - (popc (hz r9))))), (6, .int (nI 0)), (7, .int (nI r9)), (0, .ref o), (1, .int (nI kx1)), (2, .int (nI kx2)), (3, .int (nI kx3))]) hx hb dX8_year_215 hl (by decide) rfl (fun ls hl => ?_)
            refine lv_iinc (v := nI (r9 + 1)) (lv' := [(7, .int (nI (r9 + 1))), (5, .int (nI (wh - (popc (hz r9))))), (6, .int (nI 0)), (0, .ref o), (1, .int (nI kx1)), (2, .int (nI kx2)), (3, .int (nI kx3))]) hx hb dX8_year_217 hl (k := 2) rfl (by exact nI_add _ 1) (by decide) rfl (fun ls hl => ?_)
            refine lv_goto (tgt := 195) hx hb dX8_year_220 (by decide) ?_
            exact L195ih  (r9 + 1) (wh - (popc (hz r9))) (by first | assumption | omega | rfl) (by show _ = 96 + (whC hz r9 + (16 - popc (hz r9))); omega) (by first | assumption | omega | rfl) (by omega) _ _ _ hP hD hS (lv_sub hl [1, 2, 0, 3, 4, 5, 6] rfl)
      have L177 : ∀ (rr : Int32) (h2 : Nat → Nat) (c2 : Nat → Nat) (p2 : Nat) (y2 : Nat) (u2 : Nat → Nat) (e2 : Nat) (hHA : HAc gro gsh az (hz, caz, pz, yz, uz, ez, Az, Rz) (kdX (nxX xz)) (sbX (nxX xz)) rr h2 c2 p2 y2 u2 e2) (hk2 : k < kx2) (H : Heap) (locs : List Loc) (ls : Array Slot), va_P D vwCl [(o, .inr (8, [.ref ob, .ref on, .ref ow8, .ref os, .ref oe, .int (nI sc8), .ref oi, .int (nI cn8), .ref op, .int (nI e2), .int (-6), .int (-6), .int rs8, .int (nI a8), .ref oz, .ref oc8, .ref oq, .ref om, .ref oy, .ref og, .ref ok8])), (ob, .inl (Y 0, 24, .inl (aN (bk gh gca gun prs yrs)))), (on, .inl (Y 0, 24, .inl (aN (bk h2 c2 u2 p2 y2)))), (ow8, .inl (Y 0, 10, .inl (aN gro))), (os, .inl (Y 0, 10, .inl (aN gsh)))] H → va_D A [(o, .inr (8, [.ref ob, .ref on, .ref ow8, .ref os, .ref oe, .int (nI sc8), .ref oi, .int (nI cn8), .ref op, .int (nI e2), .int (-6), .int (-6), .int rs8, .int (nI a8), .ref oz, .ref oc8, .ref oq, .ref om, .ref oy, .ref og, .ref ok8])), (ob, .inl (Y 0, 24, .inl (aN (bk gh gca gun prs yrs)))), (on, .inl (Y 0, 24, .inl (aN (bk h2 c2 u2 p2 y2)))), (ow8, .inl (Y 0, 10, .inl (aN gro))), (os, .inl (Y 0, 10, .inl (aN gsh)))] → va_S A s.heap H locs → lv_has ls 9 [(4, .int (nI (nxX xz))), (5, .int (nI k)), (0, .ref o), (1, .int (nI kx1)), (2, .int (nI kx2)), (3, .int (nI kx3))] → W p l e (mv_R 2 0 0) s m [.ref o, .int x1, .int x2, .int x3].toArray below meth c H locs 0 0 (MQ below ((q_X8_year D Y o ob on ow8 os oe oi op oz oc8 oq om oy og ok8 sc8 cn8 bt a8 rs8 gA gR gh gca gun prs yrs gro gsh gz0 x1 x2 x3) A) [.ref o, .int x1, .int x2, .int x3].toArray s 0 0 A) (F0 m 177 ls [.int rr]) := by
        intro rr h2 c2 p2 y2 u2 e2 hHA hk2 H locs ls hP hD hS hl
        refine lv_istore (lv' := [(8, .int rr), (4, .int (nI (nxX xz))), (5, .int (nI k)), (0, .ref o), (1, .int (nI kx1)), (2, .int (nI kx2)), (3, .int (nI kx3))]) hx hb dX8_year_177 hl (by decide) rfl (fun ls hl => ?_)
        obtain ⟨n2, rfl⟩ : ∃ z, n = z + 1 := ⟨n - 1, by omega⟩
        obtain ⟨az2, Az2, Rz2, hd2, ho2⟩ := yr_turn (n := n2) hro hok hHA
        refine lv_iinc (v := nI (k + 1)) (lv' := [(5, .int (nI (k + 1))), (8, .int rr), (4, .int (nI (nxX xz))), (0, .ref o), (1, .int (nI kx1)), (2, .int (nI kx2)), (3, .int (nI kx3))]) hx hb dX8_year_179 hl (k := 2) rfl (by exact nI_add _ 1) (by decide) rfl (fun ls hl => ?_)
        refine lv_goto (tgt := 43) hx hb dX8_year_182 (by decide) ?_
        exact L43ih  kx1 kx2 kx3 (k + 1) n2 az2 (nxX xz) h2 c2 p2 y2 u2 e2 Az2 Rz2 (by first | assumption | omega | rfl) (by first | assumption | omega | rfl) (by first | assumption | omega | rfl) (by first | assumption | omega | rfl) (by first | assumption | omega | rfl) (by first | assumption | omega | rfl) (by first | assumption | omega | rfl) (by first | assumption | omega | rfl) (Nat.mod_lt _ (by decide)) (hd2.trans hd) (ho2) (by omega) _ _ _ hP hD hS (lv_sub hl [2, 0, 3, 4, 5, 6] rfl)
      refine lv_iload hx hb dX8_year_43 (lv_at hl 1 rfl) ?_
      refine lv_iload_n hx hb dX8_year_45 rfl (lv_at hl 4 rfl) ?_
      refine mv_icmp_ge (tgt := 185) hx hb (by first | omega | exact Nat.lt_trans (bN_lt _) (by decide) | (have := ok5 s9 (by omega); dsimp only at this; omega)) (by omega) dX8_year_46 (by decide) (fun c46 => ?_) (fun c46 => ?_)
      · skip
        refine lv_bipush (v := nI 96) hx hb dX8_year_185 (by decide) ?_
        refine lv_istore (lv' := [(5, .int (nI 96)), (4, .int (nI xz)), (0, .ref o), (1, .int (nI kx1)), (2, .int (nI kx2)), (3, .int (nI kx3))]) hx hb dX8_year_187 hl (by decide) rfl (fun ls hl => ?_)
        refine lv_iconst (v := nI 0) hx hb dX8_year_189 (by decide) ?_
        refine lv_istore (lv' := [(6, .int (nI 0)), (5, .int (nI 96)), (4, .int (nI xz)), (0, .ref o), (1, .int (nI kx1)), (2, .int (nI kx2)), (3, .int (nI kx3))]) hx hb dX8_year_190 hl (by decide) rfl (fun ls hl => ?_)
        refine lv_iconst (v := nI 0) hx hb dX8_year_192 (by decide) ?_
        refine lv_istore (lv' := [(7, .int (nI 0)), (6, .int (nI 0)), (5, .int (nI 96)), (4, .int (nI xz)), (0, .ref o), (1, .int (nI kx1)), (2, .int (nI kx2)), (3, .int (nI kx3))]) hx hb dX8_year_193 hl (by decide) rfl (fun ls hl => ?_)
        exact L195 (6 - 0 + 1) 0 96 (by first | assumption | omega | rfl) (rfl) (by rw [← hd, show n = 0 by omega]; rfl) (Nat.lt_succ_self _) _ _ _ hP hD hS (lv_sub hl [2, 1, 0, 4, 5, 6, 7] rfl)
      · skip
        refine lv_bipush (v := nI 75) hx hb dX8_year_49 (by decide) ?_
        refine lv_iload hx hb dX8_year_51 (lv_at hl 0 rfl) ?_
        refine mv_imul hx hb dX8_year_53 ?_
        refine lv_bipush (v := nI 74) hx hb dX8_year_54 (by decide) ?_
        refine mv_iadd hx hb dX8_year_56 ?_
        refine lv_ldc (v := nI 65537) hx hb hown (hts _ mw_627) dX8_year_57 ?_
        refine mv_irem hx hb (by first | omega | exact Nat.lt_trans (bN_lt _) (by decide) | (have := ok5 s9 (by omega); dsimp only at this; omega)) (by omega) (by omega) dX8_year_59 ?_
        refine lv_istore (lv' := [(4, .int (nI (((75 * xz) + 74) % 65537))), (5, .int (nI k)), (0, .ref o), (1, .int (nI kx1)), (2, .int (nI kx2)), (3, .int (nI kx3))]) hx hb dX8_year_60 hl (by decide) rfl (fun ls hl => ?_)
        skip
        have hl : lv_has ls 9 [(4, .int (nI (nxX xz))), (5, .int (nI k)), (0, .ref o), (1, .int (nI kx1)), (2, .int (nI kx2)), (3, .int (nI kx3))] := hl
        have hx9 : nxX xz < 65537 := Nat.mod_lt _ (by decide)
        refine lv_iload hx hb dX8_year_62 (lv_at hl 0 rfl) ?_
        refine lv_bipush (v := nI 6) hx hb dX8_year_64 (by decide) ?_
        refine mv_irem hx hb (by first | omega | exact Nat.lt_trans (bN_lt _) (by decide) | (have := ok5 s9 (by omega); dsimp only at this; omega)) (by omega) (by omega) dX8_year_66 ?_
        refine lv_istore (lv' := [(6, .int (nI ((nxX xz) % 6))), (4, .int (nI (nxX xz))), (5, .int (nI k)), (0, .ref o), (1, .int (nI kx1)), (2, .int (nI kx2)), (3, .int (nI kx3))]) hx hb dX8_year_67 hl (by decide) rfl (fun ls hl => ?_)
        refine lv_iload hx hb dX8_year_69 (lv_at hl 1 rfl) ?_
        refine lv_bipush (v := nI 6) hx hb dX8_year_71 (by decide) ?_
        refine mv_idiv hx hb (by first | omega | exact Nat.lt_trans (bN_lt _) (by decide) | (have := ok5 s9 (by omega); dsimp only at this; omega)) (by omega) (by omega) dX8_year_73 ?_
        refine lv_bipush (v := nI 8) hx hb dX8_year_74 (by decide) ?_
        refine mv_irem hx hb (by first | omega | exact Nat.lt_trans (bN_lt _) (by decide) | (have := ok5 s9 (by omega); dsimp only at this; omega)) (by omega) (by omega) dX8_year_76 ?_
        refine lv_istore (lv' := [(7, .int (nI (((nxX xz) / 6) % 8))), (6, .int (nI ((nxX xz) % 6))), (4, .int (nI (nxX xz))), (5, .int (nI k)), (0, .ref o), (1, .int (nI kx1)), (2, .int (nI kx2)), (3, .int (nI kx3))]) hx hb dX8_year_77 hl (by decide) rfl (fun ls hl => ?_)
        refine lv_iload hx hb dX8_year_79 (lv_at hl 0 rfl) ?_
        refine mv_if_ne (tgt := 93) hx hb (by first | omega | exact Nat.lt_trans (bN_lt _) (by decide) | (have := ok5 s9 (by omega); dsimp only at this; omega)) dX8_year_81 (by decide) (fun c81 => ?_) (fun c81 => ?_)
        · skip
          refine lv_iload hx hb dX8_year_93 (lv_at hl 0 rfl) ?_
          refine lv_iconst (v := nI 1) hx hb dX8_year_95 (by decide) ?_
          refine mv_icmp_ne (tgt := 108) hx hb (by first | omega | exact Nat.lt_trans (bN_lt _) (by decide) | (have := ok5 s9 (by omega); dsimp only at this; omega)) (by omega) dX8_year_96 (by decide) (fun c96 => ?_) (fun c96 => ?_)
          · skip
            refine lv_iload hx hb dX8_year_108 (lv_at hl 0 rfl) ?_
            refine lv_iconst (v := nI 2) hx hb dX8_year_110 (by decide) ?_
            refine mv_icmp_ne (tgt := 123) hx hb (by first | omega | exact Nat.lt_trans (bN_lt _) (by decide) | (have := ok5 s9 (by omega); dsimp only at this; omega)) (by omega) dX8_year_111 (by decide) (fun c111 => ?_) (fun c111 => ?_)
            · skip
              refine lv_iload hx hb dX8_year_123 (lv_at hl 0 rfl) ?_
              refine lv_iconst (v := nI 3) hx hb dX8_year_125 (by decide) ?_
              refine mv_icmp_ne (tgt := 138) hx hb (by first | omega | exact Nat.lt_trans (bN_lt _) (by decide) | (have := ok5 s9 (by omega); dsimp only at this; omega)) (by omega) dX8_year_126 (by decide) (fun c126 => ?_) (fun c126 => ?_)
              · skip
                refine lv_iload hx hb dX8_year_138 (lv_at hl 0 rfl) ?_
                refine lv_iconst (v := nI 4) hx hb dX8_year_140 (by decide) ?_
                refine mv_icmp_ne (tgt := 159) hx hb (by first | omega | exact Nat.lt_trans (bN_lt _) (by decide) | (have := ok5 s9 (by omega); dsimp only at this; omega)) (by omega) dX8_year_141 (by decide) (fun c141 => ?_) (fun c141 => ?_)
                · skip
                  refine lv_iload hx hb dX8_year_159 (lv_at hl 0 rfl) ?_
                  refine lv_bipush (v := nI 7) hx hb dX8_year_161 (by decide) ?_
                  refine mv_icmp_ne (tgt := 173) hx hb (by first | omega | exact Nat.lt_trans (bN_lt _) (by decide) | (have := ok5 s9 (by omega); dsimp only at this; omega)) (by omega) dX8_year_163 (by decide) (fun c163 => ?_) (fun c163 => ?_)
                  · skip
                    refine lv_aload_n hx hb dX8_year_173 rfl (lv_at hl 4 rfl) ?_
                    refine mv_callVi (nA := 0) (As := []) (rest := []) (Wc := [(o, .inr (8, [.ref ob, .ref on, .ref ow8, .ref os, .ref oe, .int (nI sc8), .ref oi, .int (nI cn8), .ref op, .int (nI ez), .int (-6), .int (-6), .int rs8, .int (nI a8), .ref oz, .ref oc8, .ref oq, .ref om, .ref oy, .ref og, .ref ok8])), (on, .inl (Y 0, 24, .inl (aN (bk hz caz uz pz yz)))), (ow8, .inl (Y 0, 10, .inl (aN gro))), (os, .inl (Y 0, 10, .inl (aN gsh)))]) (wr := [(ob, .inl (Y 0, 24, .inl (aN (bk gh gca gun prs yrs))))]) hx hb hml hown hts hK hP hD hS hST hA hl.1 (c_X8_moths l D Y _ o ob on ow8 os oe oi op oz oc8 oq om oy og ok8 sc8 cn8 ez a8 rs8 none none hz caz uz pz yz gro gsh (by first | assumption | omega | rfl) (by first | assumption | omega | rfl) (ok3) (ok4) (ok1) (ok2) (ok5)) [0, 2, 3, 4] [1] rfl rfl (by decide) (by decide) (by decide) rfl 0 rfl rfl rfl mw_349 mw_350 mw_351 mw_5 mw_352 ⟨by decide, by decide, by decide +kernel⟩ rfl ⟨Nat.le_of_ble_eq_true rfl, Nat.le_of_ble_eq_true rfl⟩ rfl (Nat.le_of_ble_eq_true rfl) dX8_year_174 ⟨Nat.le_of_ble_eq_true rfl, Nat.le_of_ble_eq_true rfl⟩ (fun r_4 ux H locs hr174 hP hD hS hz174 => ?_)
                    obtain ⟨x_2, x_3⟩ := ux
                    have hP := hP.sub (ws' := [(o, .inr (8, [.ref ob, .ref on, .ref ow8, .ref os, .ref oe, .int (nI sc8), .ref oi, .int (nI cn8), .ref op, .int (nI x_3), .int (oI none), .int (oI none), .int rs8, .int (nI a8), .ref oz, .ref oc8, .ref oq, .ref om, .ref oy, .ref og, .ref ok8])), (ob, .inl (Y 0, 24, .inl (aN (bk gh gca gun prs yrs)))), (on, .inl (Y 0, 24, .inl (aN (bk x_2 caz uz pz yz)))), (ow8, .inl (Y 0, 10, .inl (aN gro))), (os, .inl (Y 0, 10, .inl (aN gsh)))]) [1, 0, 2, 3, 4] rfl
                    have hD := hD.sub (ws' := [(o, .inr (8, [.ref ob, .ref on, .ref ow8, .ref os, .ref oe, .int (nI sc8), .ref oi, .int (nI cn8), .ref op, .int (nI x_3), .int (oI none), .int (oI none), .int rs8, .int (nI a8), .ref oz, .ref oc8, .ref oq, .ref om, .ref oy, .ref og, .ref ok8])), (ob, .inl (Y 0, 24, .inl (aN (bk gh gca gun prs yrs)))), (on, .inl (Y 0, 24, .inl (aN (bk x_2 caz uz pz yz)))), (ow8, .inl (Y 0, 10, .inl (aN gro))), (os, .inl (Y 0, 10, .inl (aN gsh)))]) [1, 0, 2, 3, 4] (by decide) rfl
                    have hr174 : (r_4, x_2, x_3) = if pz = 0 then (nI 5, hz, ez) else (nI 0, (moS gro gsh uz caz pz hz ez 10).1, (moS gro gsh uz caz pz hz ez 10).2) := hr174
                    exact L177  r_4 x_2 caz pz yz uz x_3 (by rw [kd_5 (by omega)]; exact HA_mo (t := (hz, caz, pz, yz, uz, ez, Az, Rz)) hr174) (by first | assumption | omega | rfl) _ _ _ hP hD hS (lv_sub hl [2, 3, 4, 5, 6, 7] rfl)
                  · skip
                    refine lv_aload_n hx hb dX8_year_166 rfl (lv_at hl 4 rfl) ?_
                    refine mv_callVi (nA := 0) (As := []) (rest := []) (Wc := [(o, .inr (8, [.ref ob, .ref on, .ref ow8, .ref os, .ref oe, .int (nI sc8), .ref oi, .int (nI cn8), .ref op, .int (nI ez), .int (-6), .int (-6), .int rs8, .int (nI a8), .ref oz, .ref oc8, .ref oq, .ref om, .ref oy, .ref og, .ref ok8])), (on, .inl (Y 0, 24, .inl (aN (bk hz caz uz pz yz))))]) (wr := [(ob, .inl (Y 0, 24, .inl (aN (bk gh gca gun prs yrs)))), (ow8, .inl (Y 0, 10, .inl (aN gro))), (os, .inl (Y 0, 10, .inl (aN gsh)))]) hx hb hml hown hts hK hP hD hS hST hA hl.1 (c_X8_endYear l D Y _ o ob on ow8 os oe oi op oz oc8 oq om oy og ok8 sc8 cn8 ez a8 rs8 none none hz caz uz pz yz (ok3) (ok4) (ok1) (ok2) (ok5)) [0, 2] [1, 3, 4] rfl rfl (by decide) (by decide) (by decide) rfl 0 rfl rfl rfl mw_353 mw_354 mw_355 mw_5 mw_356 ⟨by decide, by decide, by decide +kernel⟩ rfl ⟨Nat.le_of_ble_eq_true rfl, Nat.le_of_ble_eq_true rfl⟩ rfl (Nat.le_of_ble_eq_true rfl) dX8_year_167 ⟨Nat.le_of_ble_eq_true rfl, Nat.le_of_ble_eq_true rfl⟩ (fun r_7 ux H locs hr167 hP hD hS hz167 => ?_)
                    obtain ⟨x_5, x_6⟩ := ux
                    have hP := hP.sub (ws' := [(o, .inr (8, [.ref ob, .ref on, .ref ow8, .ref os, .ref oe, .int (nI sc8), .ref oi, .int (nI cn8), .ref op, .int (nI ez), .int (oI none), .int (oI none), .int rs8, .int (nI a8), .ref oz, .ref oc8, .ref oq, .ref om, .ref oy, .ref og, .ref ok8])), (ob, .inl (Y 0, 24, .inl (aN (bk gh gca gun prs yrs)))), (on, .inl (Y 0, 24, .inl (aN (bk hz x_5 uz pz x_6)))), (ow8, .inl (Y 0, 10, .inl (aN gro))), (os, .inl (Y 0, 10, .inl (aN gsh)))]) [3, 0, 4, 1, 2] rfl
                    have hD := hD.sub (ws' := [(o, .inr (8, [.ref ob, .ref on, .ref ow8, .ref os, .ref oe, .int (nI sc8), .ref oi, .int (nI cn8), .ref op, .int (nI ez), .int (oI none), .int (oI none), .int rs8, .int (nI a8), .ref oz, .ref oc8, .ref oq, .ref om, .ref oy, .ref og, .ref ok8])), (ob, .inl (Y 0, 24, .inl (aN (bk gh gca gun prs yrs)))), (on, .inl (Y 0, 24, .inl (aN (bk hz x_5 uz pz x_6)))), (ow8, .inl (Y 0, 10, .inl (aN gro))), (os, .inl (Y 0, 10, .inl (aN gsh)))]) [3, 0, 4, 1, 2] (by decide) rfl
                    have hr167 : (r_7, x_5, x_6) = if 99 ≤ yz then (nI 6, caz, yz) else (nI 0, yeC caz 6, yz + 1) := hr167
                    refine lv_goto (tgt := 177) hx hb dX8_year_170 (by decide) ?_
                    exact L177  r_7 hz x_5 pz x_6 uz ez (by rw [kd_7 (by omega)]; exact HA_ye (t := (hz, caz, pz, yz, uz, ez, Az, Rz)) hr167) (by first | assumption | omega | rfl) _ _ _ hP hD hS (lv_sub hl [2, 3, 4, 5, 6, 7] rfl)
                · skip
                  refine lv_aload_n hx hb dX8_year_144 rfl (lv_at hl 4 rfl) ?_
                  refine lv_iload hx hb dX8_year_145 (lv_at hl 2 rfl) ?_
                  refine lv_bipush (v := nI 48) hx hb dX8_year_147 (by decide) ?_
                  refine mv_idiv hx hb (by first | omega | exact Nat.lt_trans (bN_lt _) (by decide) | (have := ok5 s9 (by omega); dsimp only at this; omega)) (by omega) (by omega) dX8_year_149 ?_
                  refine lv_bipush (v := nI 10) hx hb dX8_year_150 (by decide) ?_
                  refine mv_irem hx hb (by first | omega | exact Nat.lt_trans (bN_lt _) (by decide) | (have := ok5 s9 (by omega); dsimp only at this; omega)) (by omega) (by omega) dX8_year_152 ?_
                  refine mv_callVi (nA := 1) (As := [.int (nI (((nxX xz) / 48) % 10))]) (rest := []) (Wc := [(o, .inr (8, [.ref ob, .ref on, .ref ow8, .ref os, .ref oe, .int (nI sc8), .ref oi, .int (nI cn8), .ref op, .int (nI ez), .int (-6), .int (-6), .int rs8, .int (nI a8), .ref oz, .ref oc8, .ref oq, .ref om, .ref oy, .ref og, .ref ok8])), (on, .inl (Y 0, 24, .inl (aN (bk hz caz uz pz yz))))]) (wr := [(ob, .inl (Y 0, 24, .inl (aN (bk gh gca gun prs yrs)))), (ow8, .inl (Y 0, 10, .inl (aN gro))), (os, .inl (Y 0, 10, .inl (aN gsh)))]) hx hb hml hown hts hK hP hD hS hST hA hl.1 (c_X8_ownUp l D Y _ o ob on ow8 os oe oi op oz oc8 oq om oy og ok8 sc8 cn8 ez a8 rs8 none none hz caz uz pz yz (((nxX xz) / 48) % 10) (by omega) (ok5)) [0, 2] [1, 3, 4] rfl rfl (by decide) (by decide) (by decide) rfl 0 rfl rfl rfl mw_357 mw_358 mw_359 mw_5 mw_360 ⟨by decide, by decide, by decide +kernel⟩ rfl ⟨Nat.le_of_ble_eq_true rfl, Nat.le_of_ble_eq_true rfl⟩ rfl (Nat.le_of_ble_eq_true rfl) dX8_year_153 ⟨Nat.le_of_ble_eq_true rfl, Nat.le_of_ble_eq_true rfl⟩ (fun r_9 ux H locs hr153 hP hD hS hz153 => ?_)
                  obtain ⟨x_8, hu9⟩ : ∃ z, z = ux := ⟨_, rfl⟩
                  subst hu9
                  have hP := hP.sub (ws' := [(o, .inr (8, [.ref ob, .ref on, .ref ow8, .ref os, .ref oe, .int (nI sc8), .ref oi, .int (nI cn8), .ref op, .int (nI ez), .int (oI none), .int (oI none), .int rs8, .int (nI a8), .ref oz, .ref oc8, .ref oq, .ref om, .ref oy, .ref og, .ref ok8])), (ob, .inl (Y 0, 24, .inl (aN (bk gh gca gun prs yrs)))), (on, .inl (Y 0, 24, .inl (aN (bk hz caz x_8 pz yz)))), (ow8, .inl (Y 0, 10, .inl (aN gro))), (os, .inl (Y 0, 10, .inl (aN gsh)))]) [3, 0, 4, 1, 2] rfl
                  have hD := hD.sub (ws' := [(o, .inr (8, [.ref ob, .ref on, .ref ow8, .ref os, .ref oe, .int (nI sc8), .ref oi, .int (nI cn8), .ref op, .int (nI ez), .int (oI none), .int (oI none), .int rs8, .int (nI a8), .ref oz, .ref oc8, .ref oq, .ref om, .ref oy, .ref og, .ref ok8])), (ob, .inl (Y 0, 24, .inl (aN (bk gh gca gun prs yrs)))), (on, .inl (Y 0, 24, .inl (aN (bk hz caz x_8 pz yz)))), (ow8, .inl (Y 0, 10, .inl (aN gro))), (os, .inl (Y 0, 10, .inl (aN gsh)))]) [3, 0, 4, 1, 2] (by decide) rfl
                  have hr153 : (r_9, x_8) = if uz (((nxX xz) / 48) % 10) = 0 then (nI 4, uz) else (nI 0, uN uz (((nxX xz) / 48) % 10) 0) := hr153
                  refine lv_goto (tgt := 177) hx hb dX8_year_156 (by decide) ?_
                  exact L177  r_9 hz caz pz yz x_8 ez (by rw [(kd_4 (by omega)).1, (kd_4 (by omega)).2]; exact HA_ow (t := (hz, caz, pz, yz, uz, ez, Az, Rz)) hr153) (by first | assumption | omega | rfl) _ _ _ hP hD hS (lv_sub hl [2, 3, 4, 5, 6, 7] rfl)
              · skip
                refine lv_aload_n hx hb dX8_year_129 rfl (lv_at hl 4 rfl) ?_
                refine lv_iload hx hb dX8_year_130 (lv_at hl 1 rfl) ?_
                refine mv_callVi (nA := 1) (As := [.int (nI ((nxX xz) % 6))]) (rest := []) (Wc := [(o, .inr (8, [.ref ob, .ref on, .ref ow8, .ref os, .ref oe, .int (nI sc8), .ref oi, .int (nI cn8), .ref op, .int (nI ez), .int (-6), .int (-6), .int rs8, .int (nI a8), .ref oz, .ref oc8, .ref oq, .ref om, .ref oy, .ref og, .ref ok8])), (on, .inl (Y 0, 24, .inl (aN (bk hz caz uz pz yz))))]) (wr := [(ob, .inl (Y 0, 24, .inl (aN (bk gh gca gun prs yrs)))), (ow8, .inl (Y 0, 10, .inl (aN gro))), (os, .inl (Y 0, 10, .inl (aN gsh)))]) hx hb hml hown hts hK hP hD hS hST hA hl.1 (c_X8_darn l D Y _ o ob on ow8 os oe oi op oz oc8 oq om oy og ok8 sc8 cn8 ez a8 rs8 none none hz caz uz pz yz ((nxX xz) % 6) (by omega) (ok3) (ok1)) [0, 2] [1, 3, 4] rfl rfl (by decide) (by decide) (by decide) rfl 0 rfl rfl rfl mw_345 mw_346 mw_347 mw_5 mw_348 ⟨by decide, by decide, by decide +kernel⟩ rfl ⟨Nat.le_of_ble_eq_true rfl, Nat.le_of_ble_eq_true rfl⟩ rfl (Nat.le_of_ble_eq_true rfl) dX8_year_132 ⟨Nat.le_of_ble_eq_true rfl, Nat.le_of_ble_eq_true rfl⟩ (fun r_11 ux H locs hr132 hP hD hS hz132 => ?_)
                obtain ⟨x_10, hu9⟩ : ∃ z, z = ux := ⟨_, rfl⟩
                subst hu9
                have hP := hP.sub (ws' := [(o, .inr (8, [.ref ob, .ref on, .ref ow8, .ref os, .ref oe, .int (nI sc8), .ref oi, .int (nI cn8), .ref op, .int (nI ez), .int (oI none), .int (oI none), .int rs8, .int (nI a8), .ref oz, .ref oc8, .ref oq, .ref om, .ref oy, .ref og, .ref ok8])), (ob, .inl (Y 0, 24, .inl (aN (bk gh gca gun prs yrs)))), (on, .inl (Y 0, 24, .inl (aN (bk x_10 caz uz pz yz)))), (ow8, .inl (Y 0, 10, .inl (aN gro))), (os, .inl (Y 0, 10, .inl (aN gsh)))]) [3, 0, 4, 1, 2] rfl
                have hD := hD.sub (ws' := [(o, .inr (8, [.ref ob, .ref on, .ref ow8, .ref os, .ref oe, .int (nI sc8), .ref oi, .int (nI cn8), .ref op, .int (nI ez), .int (oI none), .int (oI none), .int rs8, .int (nI a8), .ref oz, .ref oc8, .ref oq, .ref om, .ref oy, .ref og, .ref ok8])), (ob, .inl (Y 0, 24, .inl (aN (bk gh gca gun prs yrs)))), (on, .inl (Y 0, 24, .inl (aN (bk x_10 caz uz pz yz)))), (ow8, .inl (Y 0, 10, .inl (aN gro))), (os, .inl (Y 0, 10, .inl (aN gsh)))]) [3, 0, 4, 1, 2] (by decide) rfl
                have hr132 : (r_11, x_10) = if pz / 2 ^ ((nxX xz) % 6) % 2 = 1 then (nI 2, hz) else if hz ((nxX xz) % 6) = 0 then (nI 3, hz) else (nI 0, uN hz ((nxX xz) % 6) (hz ((nxX xz) % 6) &&& (hz ((nxX xz) % 6) - 1))) := hr132
                refine lv_goto (tgt := 177) hx hb dX8_year_135 (by decide) ?_
                exact L177  r_11 x_10 caz pz yz uz ez (by rw [(kd_3 (by omega)).1, (kd_3 (by omega)).2]; exact HA_ra (t := (hz, caz, pz, yz, uz, ez, Az, Rz)) rfl (ra_47 hr132)) (by first | assumption | omega | rfl) _ _ _ hP hD hS (lv_sub hl [2, 3, 4, 5, 6, 7] rfl)
            · skip
              refine lv_aload_n hx hb dX8_year_114 rfl (lv_at hl 4 rfl) ?_
              refine lv_iload hx hb dX8_year_115 (lv_at hl 1 rfl) ?_
              refine mv_callVi (nA := 1) (As := [.int (nI ((nxX xz) % 6))]) (rest := []) (Wc := [(o, .inr (8, [.ref ob, .ref on, .ref ow8, .ref os, .ref oe, .int (nI sc8), .ref oi, .int (nI cn8), .ref op, .int (nI ez), .int (-6), .int (-6), .int rs8, .int (nI a8), .ref oz, .ref oc8, .ref oq, .ref om, .ref oy, .ref og, .ref ok8])), (on, .inl (Y 0, 24, .inl (aN (bk hz caz uz pz yz))))]) (wr := [(ob, .inl (Y 0, 24, .inl (aN (bk gh gca gun prs yrs)))), (ow8, .inl (Y 0, 10, .inl (aN gro))), (os, .inl (Y 0, 10, .inl (aN gsh)))]) hx hb hml hown hts hK hP hD hS hST hA hl.1 (c_X8_strew l D Y _ o ob on ow8 os oe oi op oz oc8 oq om oy og ok8 sc8 cn8 ez a8 rs8 none none hz caz uz pz yz ((nxX xz) % 6) (by omega) (ok3) (ok2)) [0, 2] [1, 3, 4] rfl rfl (by decide) (by decide) (by decide) rfl 0 rfl rfl rfl mw_341 mw_342 mw_343 mw_5 mw_344 ⟨by decide, by decide, by decide +kernel⟩ rfl ⟨Nat.le_of_ble_eq_true rfl, Nat.le_of_ble_eq_true rfl⟩ rfl (Nat.le_of_ble_eq_true rfl) dX8_year_117 ⟨Nat.le_of_ble_eq_true rfl, Nat.le_of_ble_eq_true rfl⟩ (fun r_13 ux H locs hr117 hP hD hS hz117 => ?_)
              obtain ⟨x_12, hu9⟩ : ∃ z, z = ux := ⟨_, rfl⟩
              subst hu9
              have hP := hP.sub (ws' := [(o, .inr (8, [.ref ob, .ref on, .ref ow8, .ref os, .ref oe, .int (nI sc8), .ref oi, .int (nI cn8), .ref op, .int (nI ez), .int (oI none), .int (oI none), .int rs8, .int (nI a8), .ref oz, .ref oc8, .ref oq, .ref om, .ref oy, .ref og, .ref ok8])), (ob, .inl (Y 0, 24, .inl (aN (bk gh gca gun prs yrs)))), (on, .inl (Y 0, 24, .inl (aN (bk hz x_12 uz pz yz)))), (ow8, .inl (Y 0, 10, .inl (aN gro))), (os, .inl (Y 0, 10, .inl (aN gsh)))]) [3, 0, 4, 1, 2] rfl
              have hD := hD.sub (ws' := [(o, .inr (8, [.ref ob, .ref on, .ref ow8, .ref os, .ref oe, .int (nI sc8), .ref oi, .int (nI cn8), .ref op, .int (nI ez), .int (oI none), .int (oI none), .int rs8, .int (nI a8), .ref oz, .ref oc8, .ref oq, .ref om, .ref oy, .ref og, .ref ok8])), (ob, .inl (Y 0, 24, .inl (aN (bk gh gca gun prs yrs)))), (on, .inl (Y 0, 24, .inl (aN (bk hz x_12 uz pz yz)))), (ow8, .inl (Y 0, 10, .inl (aN gro))), (os, .inl (Y 0, 10, .inl (aN gsh)))]) [3, 0, 4, 1, 2] (by decide) rfl
              have hr117 : (r_13, x_12) = if pz / 2 ^ ((nxX xz) % 6) % 2 = 1 then (nI 2, caz) else if 9 ≤ caz ((nxX xz) % 6) then (nI 3, caz) else (nI 0, uN caz ((nxX xz) % 6) (caz ((nxX xz) % 6) + 1)) := hr117
              refine lv_goto (tgt := 177) hx hb dX8_year_120 (by decide) ?_
              exact L177  r_13 hz x_12 pz yz uz ez (by rw [(kd_2 (by omega)).1, (kd_2 (by omega)).2]; exact HA_ra (t := (hz, caz, pz, yz, uz, ez, Az, Rz)) rfl (ra_43 hr117)) (by first | assumption | omega | rfl) _ _ _ hP hD hS (lv_sub hl [2, 3, 4, 5, 6, 7] rfl)
          · skip
            refine lv_aload_n hx hb dX8_year_99 rfl (lv_at hl 4 rfl) ?_
            refine lv_iload hx hb dX8_year_100 (lv_at hl 1 rfl) ?_
            refine mv_callVi (nA := 1) (As := [.int (nI ((nxX xz) % 6))]) (rest := []) (Wc := [(o, .inr (8, [.ref ob, .ref on, .ref ow8, .ref os, .ref oe, .int (nI sc8), .ref oi, .int (nI cn8), .ref op, .int (nI ez), .int (-6), .int (-6), .int rs8, .int (nI a8), .ref oz, .ref oc8, .ref oq, .ref om, .ref oy, .ref og, .ref ok8])), (on, .inl (Y 0, 24, .inl (aN (bk hz caz uz pz yz))))]) (wr := [(ob, .inl (Y 0, 24, .inl (aN (bk gh gca gun prs yrs)))), (ow8, .inl (Y 0, 10, .inl (aN gro))), (os, .inl (Y 0, 10, .inl (aN gsh)))]) hx hb hml hown hts hK hP hD hS hST hA hl.1 (c_X8_takeOut l D Y _ o ob on ow8 os oe oi op oz oc8 oq om oy og ok8 sc8 cn8 ez a8 rs8 none none hz caz uz pz yz ((nxX xz) % 6) (by omega) (ok3)) [0, 2] [1, 3, 4] rfl rfl (by decide) (by decide) (by decide) rfl 0 rfl rfl rfl mw_337 mw_338 mw_339 mw_5 mw_340 ⟨by decide, by decide, by decide +kernel⟩ rfl ⟨Nat.le_of_ble_eq_true rfl, Nat.le_of_ble_eq_true rfl⟩ rfl (Nat.le_of_ble_eq_true rfl) dX8_year_102 ⟨Nat.le_of_ble_eq_true rfl, Nat.le_of_ble_eq_true rfl⟩ (fun r_15 ux H locs hr102 hP hD hS hz102 => ?_)
            obtain ⟨x_14, hu9⟩ : ∃ z, z = ux := ⟨_, rfl⟩
            subst hu9
            have hP := hP.sub (ws' := [(o, .inr (8, [.ref ob, .ref on, .ref ow8, .ref os, .ref oe, .int (nI sc8), .ref oi, .int (nI cn8), .ref op, .int (nI ez), .int (oI none), .int (oI none), .int rs8, .int (nI a8), .ref oz, .ref oc8, .ref oq, .ref om, .ref oy, .ref og, .ref ok8])), (ob, .inl (Y 0, 24, .inl (aN (bk gh gca gun prs yrs)))), (on, .inl (Y 0, 24, .inl (aN (bk hz caz uz x_14 yz)))), (ow8, .inl (Y 0, 10, .inl (aN gro))), (os, .inl (Y 0, 10, .inl (aN gsh)))]) [3, 0, 4, 1, 2] rfl
            have hD := hD.sub (ws' := [(o, .inr (8, [.ref ob, .ref on, .ref ow8, .ref os, .ref oe, .int (nI sc8), .ref oi, .int (nI cn8), .ref op, .int (nI ez), .int (oI none), .int (oI none), .int rs8, .int (nI a8), .ref oz, .ref oc8, .ref oq, .ref om, .ref oy, .ref og, .ref ok8])), (ob, .inl (Y 0, 24, .inl (aN (bk gh gca gun prs yrs)))), (on, .inl (Y 0, 24, .inl (aN (bk hz caz uz x_14 yz)))), (ow8, .inl (Y 0, 10, .inl (aN gro))), (os, .inl (Y 0, 10, .inl (aN gsh)))]) [3, 0, 4, 1, 2] (by decide) rfl
            have hr102 : (r_15, x_14) = if pz / 2 ^ ((nxX xz) % 6) % 2 = 1 then (nI 0, pz &&& (1 * 2 ^ ((nxX xz) % 6) ^^^ 4294967295)) else (nI 1, pz) := hr102
            refine lv_goto (tgt := 177) hx hb dX8_year_105 (by decide) ?_
            exact L177  r_15 hz caz x_14 yz uz ez (by rw [(kd_1 (by omega)).1, (kd_1 (by omega)).2]; exact HA_ra (t := (hz, caz, pz, yz, uz, ez, Az, Rz)) rfl (ra_62 hr102)) (by first | assumption | omega | rfl) _ _ _ hP hD hS (lv_sub hl [2, 3, 4, 5, 6, 7] rfl)
        · skip
          refine lv_aload_n hx hb dX8_year_84 rfl (lv_at hl 4 rfl) ?_
          refine lv_iload hx hb dX8_year_85 (lv_at hl 1 rfl) ?_
          refine mv_callVi (nA := 1) (As := [.int (nI ((nxX xz) % 6))]) (rest := []) (Wc := [(o, .inr (8, [.ref ob, .ref on, .ref ow8, .ref os, .ref oe, .int (nI sc8), .ref oi, .int (nI cn8), .ref op, .int (nI ez), .int (-6), .int (-6), .int rs8, .int (nI a8), .ref oz, .ref oc8, .ref oq, .ref om, .ref oy, .ref og, .ref ok8])), (on, .inl (Y 0, 24, .inl (aN (bk hz caz uz pz yz))))]) (wr := [(ob, .inl (Y 0, 24, .inl (aN (bk gh gca gun prs yrs)))), (ow8, .inl (Y 0, 10, .inl (aN gro))), (os, .inl (Y 0, 10, .inl (aN gsh)))]) hx hb hml hown hts hK hP hD hS hST hA hl.1 (c_X8_layIn l D Y _ o ob on ow8 os oe oi op oz oc8 oq om oy og ok8 sc8 cn8 ez a8 rs8 none none hz caz uz pz yz ((nxX xz) % 6) (by omega) (ok3)) [0, 2] [1, 3, 4] rfl rfl (by decide) (by decide) (by decide) rfl 0 rfl rfl rfl mw_330 mw_331 mw_332 mw_5 mw_333 ⟨by decide, by decide, by decide +kernel⟩ rfl ⟨Nat.le_of_ble_eq_true rfl, Nat.le_of_ble_eq_true rfl⟩ rfl (Nat.le_of_ble_eq_true rfl) dX8_year_87 ⟨Nat.le_of_ble_eq_true rfl, Nat.le_of_ble_eq_true rfl⟩ (fun r_17 ux H locs hr87 hP hD hS hz87 => ?_)
          obtain ⟨x_16, hu9⟩ : ∃ z, z = ux := ⟨_, rfl⟩
          subst hu9
          have hP := hP.sub (ws' := [(o, .inr (8, [.ref ob, .ref on, .ref ow8, .ref os, .ref oe, .int (nI sc8), .ref oi, .int (nI cn8), .ref op, .int (nI ez), .int (oI none), .int (oI none), .int rs8, .int (nI a8), .ref oz, .ref oc8, .ref oq, .ref om, .ref oy, .ref og, .ref ok8])), (ob, .inl (Y 0, 24, .inl (aN (bk gh gca gun prs yrs)))), (on, .inl (Y 0, 24, .inl (aN (bk hz caz uz x_16 yz)))), (ow8, .inl (Y 0, 10, .inl (aN gro))), (os, .inl (Y 0, 10, .inl (aN gsh)))]) [3, 0, 4, 1, 2] rfl
          have hD := hD.sub (ws' := [(o, .inr (8, [.ref ob, .ref on, .ref ow8, .ref os, .ref oe, .int (nI sc8), .ref oi, .int (nI cn8), .ref op, .int (nI ez), .int (oI none), .int (oI none), .int rs8, .int (nI a8), .ref oz, .ref oc8, .ref oq, .ref om, .ref oy, .ref og, .ref ok8])), (ob, .inl (Y 0, 24, .inl (aN (bk gh gca gun prs yrs)))), (on, .inl (Y 0, 24, .inl (aN (bk hz caz uz x_16 yz)))), (ow8, .inl (Y 0, 10, .inl (aN gro))), (os, .inl (Y 0, 10, .inl (aN gsh)))]) [3, 0, 4, 1, 2] (by decide) rfl
          have hr87 : (r_17, x_16) = if pz / 2 ^ ((nxX xz) % 6) % 2 = 1 then (nI 1, pz) else (nI 0, pz ||| 1 * 2 ^ ((nxX xz) % 6)) := hr87
          refine lv_goto (tgt := 177) hx hb dX8_year_90 (by decide) ?_
          exact L177  r_17 hz caz x_16 yz uz ez (by rw [(kd_0 (by omega)).1, (kd_0 (by omega)).2]; exact HA_ra (t := (hz, caz, pz, yz, uz, ez, Az, Rz)) rfl (ra_60 hr87)) (by first | assumption | omega | rfl) _ _ _ hP hD hS (lv_sub hl [2, 3, 4, 5, 6, 7] rfl)
  refine lv_iload_n hx hb dX8_year_0 rfl (lv_at hl 1 rfl) ?_
  refine lv_iconst (v := nI 0) hx hb dX8_year_1 (by decide) ?_
  refine lv_sipush (v := nI 9999) hx hb dX8_year_2 (by decide) ?_
  refine mv_callSi (nA := 3) (As := [.int x1, .int (nI 0), .int (nI 9999)]) (rest := []) (Wc := []) (wr := [(o, .inr (8, [.ref ob, .ref on, .ref ow8, .ref os, .ref oe, .int (nI sc8), .ref oi, .int (nI cn8), .ref op, .int (nI bt), .int (oI gA), .int (oI gR), .int rs8, .int (nI a8), .ref oz, .ref oc8, .ref oq, .ref om, .ref oy, .ref og, .ref ok8])), (ob, .inl (Y 0, 24, .inl (aN (bk gh gca gun prs yrs)))), (on, .inl (Y 0, 24, .inl (aN gz0))), (ow8, .inl (Y 0, 10, .inl (aN gro))), (os, .inl (Y 0, 10, .inl (aN gsh)))]) hx hb hml hown hts hK hP hD hS hST hA hl.1 (c_X8_inR l D Y _ x1 0 9999 ) [] [0, 1, 2, 3, 4] rfl rfl (by decide) (by decide) (by decide) rfl mw_121 mw_122 mw_5 mw_123 ⟨by decide, by decide, by decide +kernel⟩ rfl ⟨Nat.le_of_ble_eq_true rfl, Nat.le_of_ble_eq_true rfl⟩ rfl (Nat.le_of_ble_eq_true rfl) dX8_year_5 ⟨Nat.le_of_ble_eq_true rfl, Nat.le_of_ble_eq_true rfl⟩ (fun r_18 ux H locs hr5 hP hD hS hz5 => ?_)
  have hP := hP.sub (ws' := [(o, .inr (8, [.ref ob, .ref on, .ref ow8, .ref os, .ref oe, .int (nI sc8), .ref oi, .int (nI cn8), .ref op, .int (nI bt), .int (oI gA), .int (oI gR), .int rs8, .int (nI a8), .ref oz, .ref oc8, .ref oq, .ref om, .ref oy, .ref og, .ref ok8])), (ob, .inl (Y 0, 24, .inl (aN (bk gh gca gun prs yrs)))), (on, .inl (Y 0, 24, .inl (aN gz0))), (ow8, .inl (Y 0, 10, .inl (aN gro))), (os, .inl (Y 0, 10, .inl (aN gsh)))]) [0, 1, 2, 3, 4] rfl
  have hD := hD.sub (ws' := [(o, .inr (8, [.ref ob, .ref on, .ref ow8, .ref os, .ref oe, .int (nI sc8), .ref oi, .int (nI cn8), .ref op, .int (nI bt), .int (oI gA), .int (oI gR), .int rs8, .int (nI a8), .ref oz, .ref oc8, .ref oq, .ref om, .ref oy, .ref og, .ref ok8])), (ob, .inl (Y 0, 24, .inl (aN (bk gh gca gun prs yrs)))), (on, .inl (Y 0, 24, .inl (aN gz0))), (ow8, .inl (Y 0, 10, .inl (aN gro))), (os, .inl (Y 0, 10, .inl (aN gsh)))]) [0, 1, 2, 3, 4] (by decide) rfl
  have hr5 : r_18 = nI (bN (inQ x1 0 9999)) := hr5
  subst hr5
  refine mv_if_eq (tgt := 30) hx hb (by first | omega | exact Nat.lt_trans (bN_lt _) (by decide) | (have := ok5 s9 (by omega); dsimp only at this; omega)) dX8_year_8 (by decide) (fun c8 => ?_) (fun c8 => ?_)
  · skip
    have hn_x1_c8 : inQ x1 0 9999 = false := bN_0.mp c8
    refine lv_bipush (v := -2) hx hb dX8_year_30 (by decide) ?_
    exact mv_iret hx hb hr hlocks (bt, gA, gR, gz0) (by simp only [sp_year, hn_x1_c8, Bool.not_true, Bool.not_false, if_true, if_false, Bool.false_eq_true, reduceIte, Bool.true_and, Bool.and_true, Bool.false_and, Bool.and_false, Bool.or_false, Bool.or_true, ite_self]) hP hK hD hS dX8_year_32
  · skip
    obtain ⟨kx1, hka_x1, hkb_x1, rfl⟩ := inQ_ex (by decide) (bN_1.mp c8)
    have hq_x1 : inQ (nI kx1) 0 9999 = true := bN_1.mp c8
    have hcl_x1 : (nI kx1).toNatClampNeg = kx1 := nI_clamp (by omega)
    refine lv_iload_n hx hb dX8_year_11 rfl (lv_at hl 2 rfl) ?_
    refine lv_iconst (v := nI 1) hx hb dX8_year_12 (by decide) ?_
    refine lv_bipush (v := nI 99) hx hb dX8_year_13 (by decide) ?_
    refine mv_callSi (nA := 3) (As := [.int x2, .int (nI 1), .int (nI 99)]) (rest := []) (Wc := []) (wr := [(o, .inr (8, [.ref ob, .ref on, .ref ow8, .ref os, .ref oe, .int (nI sc8), .ref oi, .int (nI cn8), .ref op, .int (nI bt), .int (oI gA), .int (oI gR), .int rs8, .int (nI a8), .ref oz, .ref oc8, .ref oq, .ref om, .ref oy, .ref og, .ref ok8])), (ob, .inl (Y 0, 24, .inl (aN (bk gh gca gun prs yrs)))), (on, .inl (Y 0, 24, .inl (aN gz0))), (ow8, .inl (Y 0, 10, .inl (aN gro))), (os, .inl (Y 0, 10, .inl (aN gsh)))]) hx hb hml hown hts hK hP hD hS hST hA hl.1 (c_X8_inR l D Y _ x2 1 99 ) [] [0, 1, 2, 3, 4] rfl rfl (by decide) (by decide) (by decide) rfl mw_121 mw_122 mw_5 mw_123 ⟨by decide, by decide, by decide +kernel⟩ rfl ⟨Nat.le_of_ble_eq_true rfl, Nat.le_of_ble_eq_true rfl⟩ rfl (Nat.le_of_ble_eq_true rfl) dX8_year_15 ⟨Nat.le_of_ble_eq_true rfl, Nat.le_of_ble_eq_true rfl⟩ (fun r_19 ux H locs hr15 hP hD hS hz15 => ?_)
    have hP := hP.sub (ws' := [(o, .inr (8, [.ref ob, .ref on, .ref ow8, .ref os, .ref oe, .int (nI sc8), .ref oi, .int (nI cn8), .ref op, .int (nI bt), .int (oI gA), .int (oI gR), .int rs8, .int (nI a8), .ref oz, .ref oc8, .ref oq, .ref om, .ref oy, .ref og, .ref ok8])), (ob, .inl (Y 0, 24, .inl (aN (bk gh gca gun prs yrs)))), (on, .inl (Y 0, 24, .inl (aN gz0))), (ow8, .inl (Y 0, 10, .inl (aN gro))), (os, .inl (Y 0, 10, .inl (aN gsh)))]) [0, 1, 2, 3, 4] rfl
    have hD := hD.sub (ws' := [(o, .inr (8, [.ref ob, .ref on, .ref ow8, .ref os, .ref oe, .int (nI sc8), .ref oi, .int (nI cn8), .ref op, .int (nI bt), .int (oI gA), .int (oI gR), .int rs8, .int (nI a8), .ref oz, .ref oc8, .ref oq, .ref om, .ref oy, .ref og, .ref ok8])), (ob, .inl (Y 0, 24, .inl (aN (bk gh gca gun prs yrs)))), (on, .inl (Y 0, 24, .inl (aN gz0))), (ow8, .inl (Y 0, 10, .inl (aN gro))), (os, .inl (Y 0, 10, .inl (aN gsh)))]) [0, 1, 2, 3, 4] (by decide) rfl
    have hr15 : r_19 = nI (bN (inQ x2 1 99)) := hr15
    subst hr15
    refine mv_if_eq (tgt := 30) hx hb (by first | omega | exact Nat.lt_trans (bN_lt _) (by decide) | (have := ok5 s9 (by omega); dsimp only at this; omega)) dX8_year_18 (by decide) (fun c18 => ?_) (fun c18 => ?_)
    · skip
      have hn_x2_c18 : inQ x2 1 99 = false := bN_0.mp c18
      refine lv_bipush (v := -2) hx hb dX8_year_30 (by decide) ?_
      exact mv_iret hx hb hr hlocks (bt, gA, gR, gz0) (by simp only [sp_year, hq_x1, hcl_x1, hn_x2_c18, Bool.not_true, Bool.not_false, if_true, if_false, Bool.false_eq_true, reduceIte, Bool.true_and, Bool.and_true, Bool.false_and, Bool.and_false, Bool.or_false, Bool.or_true, ite_self]) hP hK hD hS dX8_year_32
    · skip
      obtain ⟨kx2, hka_x2, hkb_x2, rfl⟩ := inQ_ex (by decide) (bN_1.mp c18)
      have hq_x2 : inQ (nI kx2) 1 99 = true := bN_1.mp c18
      have hcl_x2 : (nI kx2).toNatClampNeg = kx2 := nI_clamp (by omega)
      refine lv_iload_n hx hb dX8_year_21 rfl (lv_at hl 3 rfl) ?_
      refine lv_iconst (v := nI 0) hx hb dX8_year_22 (by decide) ?_
      refine lv_iconst (v := nI 2) hx hb dX8_year_23 (by decide) ?_
      refine mv_callSi (nA := 3) (As := [.int x3, .int (nI 0), .int (nI 2)]) (rest := []) (Wc := []) (wr := [(o, .inr (8, [.ref ob, .ref on, .ref ow8, .ref os, .ref oe, .int (nI sc8), .ref oi, .int (nI cn8), .ref op, .int (nI bt), .int (oI gA), .int (oI gR), .int rs8, .int (nI a8), .ref oz, .ref oc8, .ref oq, .ref om, .ref oy, .ref og, .ref ok8])), (ob, .inl (Y 0, 24, .inl (aN (bk gh gca gun prs yrs)))), (on, .inl (Y 0, 24, .inl (aN gz0))), (ow8, .inl (Y 0, 10, .inl (aN gro))), (os, .inl (Y 0, 10, .inl (aN gsh)))]) hx hb hml hown hts hK hP hD hS hST hA hl.1 (c_X8_inR l D Y _ x3 0 2 ) [] [0, 1, 2, 3, 4] rfl rfl (by decide) (by decide) (by decide) rfl mw_121 mw_122 mw_5 mw_123 ⟨by decide, by decide, by decide +kernel⟩ rfl ⟨Nat.le_of_ble_eq_true rfl, Nat.le_of_ble_eq_true rfl⟩ rfl (Nat.le_of_ble_eq_true rfl) dX8_year_24 ⟨Nat.le_of_ble_eq_true rfl, Nat.le_of_ble_eq_true rfl⟩ (fun r_20 ux H locs hr24 hP hD hS hz24 => ?_)
      have hP := hP.sub (ws' := [(o, .inr (8, [.ref ob, .ref on, .ref ow8, .ref os, .ref oe, .int (nI sc8), .ref oi, .int (nI cn8), .ref op, .int (nI bt), .int (oI gA), .int (oI gR), .int rs8, .int (nI a8), .ref oz, .ref oc8, .ref oq, .ref om, .ref oy, .ref og, .ref ok8])), (ob, .inl (Y 0, 24, .inl (aN (bk gh gca gun prs yrs)))), (on, .inl (Y 0, 24, .inl (aN gz0))), (ow8, .inl (Y 0, 10, .inl (aN gro))), (os, .inl (Y 0, 10, .inl (aN gsh)))]) [0, 1, 2, 3, 4] rfl
      have hD := hD.sub (ws' := [(o, .inr (8, [.ref ob, .ref on, .ref ow8, .ref os, .ref oe, .int (nI sc8), .ref oi, .int (nI cn8), .ref op, .int (nI bt), .int (oI gA), .int (oI gR), .int rs8, .int (nI a8), .ref oz, .ref oc8, .ref oq, .ref om, .ref oy, .ref og, .ref ok8])), (ob, .inl (Y 0, 24, .inl (aN (bk gh gca gun prs yrs)))), (on, .inl (Y 0, 24, .inl (aN gz0))), (ow8, .inl (Y 0, 10, .inl (aN gro))), (os, .inl (Y 0, 10, .inl (aN gsh)))]) [0, 1, 2, 3, 4] (by decide) rfl
      have hr24 : r_20 = nI (bN (inQ x3 0 2)) := hr24
      subst hr24
      refine mv_if_ne (tgt := 33) hx hb (by first | omega | exact Nat.lt_trans (bN_lt _) (by decide) | (have := ok5 s9 (by omega); dsimp only at this; omega)) dX8_year_27 (by decide) (fun c27 => ?_) (fun c27 => ?_)
      · skip
        obtain ⟨kx3, hka_x3, hkb_x3, rfl⟩ := inQ_ex (by decide) (bN_1.mp c27)
        have hq_x3 : inQ (nI kx3) 0 2 = true := bN_1.mp c27
        have hcl_x3 : (nI kx3).toNatClampNeg = kx3 := nI_clamp (by omega)
        refine lv_aload_n hx hb dX8_year_33 rfl (lv_at hl 0 rfl) ?_
        refine mv_callVv (nA := 0) (As := []) (rest := []) (Wc := [(o, .inr (8, [.ref ob, .ref on, .ref ow8, .ref os, .ref oe, .int (nI sc8), .ref oi, .int (nI cn8), .ref op, .int (nI bt), .int (oI gA), .int (oI gR), .int rs8, .int (nI a8), .ref oz, .ref oc8, .ref oq, .ref om, .ref oy, .ref og, .ref ok8])), (ob, .inl (Y 0, 24, .inl (aN (bk gh gca gun prs yrs)))), (on, .inl (Y 0, 24, .inl (aN gz0)))]) (wr := [(ow8, .inl (Y 0, 10, .inl (aN gro))), (os, .inl (Y 0, 10, .inl (aN gsh)))]) hx hb hml hown hts hK hP hD hS hST hA hl.1 (c_X8_asNow l D Y _ o ob on ow8 os oe oi op oz oc8 oq om oy og ok8 sc8 cn8 bt a8 rs8 gA gR gh gca gun prs yrs gz0 ) [0, 1, 2] [3, 4] rfl rfl (by decide) (by decide) (by decide) rfl 0 rfl rfl rfl mw_317 mw_318 mw_319 mw_5 mw_320 ⟨by decide, by decide, by decide +kernel⟩ rfl ⟨Nat.le_of_ble_eq_true rfl, Nat.le_of_ble_eq_true rfl⟩ rfl (Nat.le_of_ble_eq_true rfl) dX8_year_34 ⟨Nat.le_of_ble_eq_true rfl, Nat.le_of_ble_eq_true rfl⟩ (fun ux H locs hr34 hP hD hS hz34 => ?_)
        have hP := hP.sub (ws' := [(o, .inr (8, [.ref ob, .ref on, .ref ow8, .ref os, .ref oe, .int (nI sc8), .ref oi, .int (nI cn8), .ref op, .int (nI 0), .int (-6), .int (-6), .int rs8, .int (nI a8), .ref oz, .ref oc8, .ref oq, .ref om, .ref oy, .ref og, .ref ok8])), (ob, .inl (Y 0, 24, .inl (aN (bk gh gca gun prs yrs)))), (on, .inl (Y 0, 24, .inl (aN (bk gh gca gun prs yrs)))), (ow8, .inl (Y 0, 10, .inl (aN gro))), (os, .inl (Y 0, 10, .inl (aN gsh)))]) [2, 3, 4, 0, 1] rfl
        have hD := hD.sub (ws' := [(o, .inr (8, [.ref ob, .ref on, .ref ow8, .ref os, .ref oe, .int (nI sc8), .ref oi, .int (nI cn8), .ref op, .int (nI 0), .int (-6), .int (-6), .int rs8, .int (nI a8), .ref oz, .ref oc8, .ref oq, .ref om, .ref oy, .ref og, .ref ok8])), (ob, .inl (Y 0, 24, .inl (aN (bk gh gca gun prs yrs)))), (on, .inl (Y 0, 24, .inl (aN (bk gh gca gun prs yrs)))), (ow8, .inl (Y 0, 10, .inl (aN gro))), (os, .inl (Y 0, 10, .inl (aN gsh)))]) [2, 3, 4, 0, 1] (by decide) rfl
        refine lv_iload_n hx hb dX8_year_37 rfl (lv_at hl 1 rfl) ?_
        refine lv_istore (lv' := [(4, .int (nI kx1)), (0, .ref o), (1, .int (nI kx1)), (2, .int (nI kx2)), (3, .int (nI kx3))]) hx hb dX8_year_38 hl (by decide) rfl (fun ls hl => ?_)
        refine lv_iconst (v := nI 0) hx hb dX8_year_40 (by decide) ?_
        refine lv_istore (lv' := [(5, .int (nI 0)), (4, .int (nI kx1)), (0, .ref o), (1, .int (nI kx1)), (2, .int (nI kx2)), (3, .int (nI kx3))]) hx hb dX8_year_41 hl (by decide) rfl (fun ls hl => ?_)
        exact L43 (kx2 + 1) kx1 kx2 kx3 0 kx2 0 kx1 gh gca prs yrs gun 0 none none (by first | assumption | omega | rfl) (by first | assumption | omega | rfl) (by first | assumption | omega | rfl) (by first | assumption | omega | rfl) (by first | assumption | omega | rfl) (by first | assumption | omega | rfl) (by first | assumption | omega | rfl) (by first | assumption | omega | rfl) (by first | assumption | omega | rfl) (rfl) (⟨hh, hc, hp, hy, hu⟩) (Nat.lt_succ_self _) _ _ _ hP hD hS (lv_sub hl [1, 0, 2, 3, 4, 5] rfl)
      · skip
        have hn_x3_c27 : inQ x3 0 2 = false := bN_0.mp c27
        refine lv_bipush (v := -2) hx hb dX8_year_30 (by decide) ?_
        exact mv_iret hx hb hr hlocks (bt, gA, gR, gz0) (by simp only [sp_year, hq_x1, hcl_x1, hq_x2, hcl_x2, hn_x3_c27, Bool.not_true, Bool.not_false, if_true, if_false, Bool.false_eq_true, reduceIte, Bool.true_and, Bool.and_true, Bool.false_and, Bool.and_false, Bool.or_false, Bool.or_true, ite_self]) hP hK hD hS dX8_year_32
