theorem lw_cmp {i L : Nat} (hi : i ≤ 1000) (hL : L ≤ 384) : nI L - nI 6 < nI i ↔ L < i + 6 := by
  rw [Int32.lt_iff_toInt_lt, pk_sub_toInt (by omega) (by decide), nI_toInt (by omega)]
  omega
theorem x_and31 (x : Int32) : ∃ k, k < 32 ∧ x &&& nI 31 = nI k :=
  ⟨x.toBitVec.toNat % 32, Nat.mod_lt _ (by decide), by
    have hx : x = nI x.toBitVec.toNat := mv_ext (by rw [mv_tn]; exact (Nat.mod_eq_of_lt x.toBitVec.isLt).symm)
    exact (congrArg (fun z => z &&& nI 31) hx).trans (mv_and31 _)⟩
set_option maxHeartbeats 16000000 in
set_option maxRecDepth 100000 in
theorem lw_loop {p : Program} {l : Launch} {e : Env} {s : State} {m : MethodId} {below : List Frame} {meth : Method} {c : Code} {D : va_G} {Y : Nat → ClassId} {A : Nat → Prop} {b L : Nat} {xs : Nat → Int32} {Q : State → Prop} (hC : lwCx p s m c D Y A b L xs) (hend : ∀ (ce sl : Nat) (H : Heap) (locs : List Loc) (ls : Array Slot), ce ≤ 500000 → sl ≤ 7000000 → va_S A s.heap H locs → W p l e room_1 s m #[Value.ref b] below meth c H locs ce sl Q (F0 m 889 ls [])) (a : lwA) : ∀ (n : Nat) (S : lwSt) (i ce sl : Nat), i ≤ 390 → L < i + 6 * n + 6 → ce + 8 * n ≤ 500000 → sl + 66 * n ≤ 7000000 → lwWF S → ∀ (H : Heap) (locs : List Loc) (ls : Array Slot), va_P D vwCl (lwX Y a S ++ lwTl Y S.2.2.2.2.2.2.2.2) H → va_D A (lwX Y a S ++ lwTl Y S.2.2.2.2.2.2.2.2) → va_S A s.heap H locs → lv_has ls 4 [(0, .ref b), (1, .ref a.1.1), (2, .ref a.2.2.2.1.2.2.2.1), (3, .int (nI i))] → W p l e room_1 s m #[Value.ref b] below meth c H locs ce sl Q (F0 m 18 ls []) := by
  have hC9 := hC
  obtain ⟨hL, hx, hb, hml, hown, hts, hK, hST, hA, hX, hbl, hbA⟩ := hC9
  intro n
  induction n with
  | zero =>
    intro S i ce sl hi hn hce hsl hW H locs ls hP hD hS hl
    refine lv_iload_n hx hb dL_law_18 rfl (lv_at hl 3 rfl) ?_
    refine lv_aload_n hx hb dL_law_19 rfl (lv_at hl 0 rfl) ?_
    refine va_slen hx hb hX hbl hbA hS dL_law_20 ?_
    refine lv_bipush (v := nI 6) hx hb dL_law_21 (by decide) ?_
    refine lv_isub hx hb dL_law_23 ?_
    refine lv_icmp_gt (tgt := 889) hx hb dL_law_24 (by decide) (fun _ => ?_) (fun c9 => ?_)
    · exact hend ce sl H locs ls (by omega) (by omega) hS
    · exact absurd ((lw_cmp (by omega) hL).mpr (by omega)) c9
  | succ n ih =>
    intro S i ce sl hi hn hce hsl hW H locs ls hP hD hS hl
    refine lv_iload_n hx hb dL_law_18 rfl (lv_at hl 3 rfl) ?_
    refine lv_aload_n hx hb dL_law_19 rfl (lv_at hl 0 rfl) ?_
    refine va_slen hx hb hX hbl hbA hS dL_law_20 ?_
    refine lv_bipush (v := nI 6) hx hb dL_law_21 (by decide) ?_
    refine lv_isub hx hb dL_law_23 ?_
    refine lv_icmp_gt (tgt := 889) hx hb dL_law_24 (by decide) (fun _ => ?_) (fun c9 => ?_)
    · exact hend ce sl H locs ls (by omega) (by omega) hS
    · have hiL : i + 6 ≤ L := Nat.le_of_not_lt (fun q => c9 ((lw_cmp (by omega) hL).mpr q))
      have kk : ∀ (S2 : lwSt) (H : Heap) (locs : List Loc) (ls : Array Slot), lwWF S2 → va_P D vwCl (lwX Y a S2 ++ lwTl Y S2.2.2.2.2.2.2.2.2) H → va_D A (lwX Y a S2 ++ lwTl Y S2.2.2.2.2.2.2.2.2) → va_S A s.heap H locs → lv_has ls 4 [(0, .ref b), (1, .ref a.1.1), (2, .ref a.2.2.2.1.2.2.2.1), (3, .int (nI i))] → W p l e room_1 s m #[Value.ref b] below meth c H locs (ce + 8) (sl + 66) Q (F0 m 883 ls []) := by
        intro S2 H locs ls hW hP hD hS hl
        refine lv_iinc (v := nI (i + 6)) (lv' := [(3, .int (nI (i + 6))), (0, .ref b), (1, .ref a.1.1), (2, .ref a.2.2.2.1.2.2.2.1)]) hx hb dL_law_883 hl (k := 3) rfl (by exact nI_add _ 6) (by decide) rfl (fun ls hl => ?_)
        refine lv_goto (tgt := 18) hx hb dL_law_886 (by decide) ?_
        exact ih S2 (i + 6) (ce + 8) (sl + 66) (by omega) (by omega) (by omega) (by omega) hW H locs ls hP hD hS (lv_sub hl [1, 2, 3, 0] rfl)
      refine lv_aload_n hx hb dL_law_27 rfl (lv_at hl 0 rfl) ?_
      refine lv_iload_n hx hb dL_law_28 rfl (lv_at hl 3 rfl) ?_
      refine va_sld hx hb hX hbl hbA hS (vp_in_nI (by omega) (by omega)) dL_law_29 ?_
      refine lv_bipush (v := nI 31) hx hb dL_law_30 (by decide) ?_
      refine lv_iand hx hb dL_law_32 ?_
      obtain ⟨k, hk, ek⟩ := x_and31 (xs (nI i).toNatClampNeg)
      rw [ek]
      have hce2 : ce ≤ 500000 := by omega
      have hsl2 : sl ≤ 7000000 := by omega
      by_cases hk24 : k < 24
      · rcases (show k = 0 ∨ k = 1 ∨ k = 2 ∨ k = 3 ∨ k = 4 ∨ k = 5 ∨ k = 6 ∨ k = 7 ∨ k = 8 ∨ k = 9 ∨ k = 10 ∨ k = 11 ∨ k = 12 ∨ k = 13 ∨ k = 14 ∨ k = 15 ∨ k = 16 ∨ k = 17 ∨ k = 18 ∨ k = 19 ∨ k = 20 ∨ k = 21 ∨ k = 22 ∨ k = 23 by omega) with rfl | rfl | rfl | rfl | rfl | rfl | rfl | rfl | rfl | rfl | rfl | rfl | rfl | rfl | rfl | rfl | rfl | rfl | rfl | rfl | rfl | rfl | rfl | rfl
        · refine lv_tableIn (off := 111) (tgt := 144) hx hb dL_law_33 (by decide) (by decide) (by decide) (by decide) ?_
          exact lc_0 hC a S i ce sl hiL hce2 hsl2 hW hP hD hS hl kk
        · refine lv_tableIn (off := 154) (tgt := 187) hx hb dL_law_33 (by decide) (by decide) (by decide) (by decide) ?_
          exact lc_1 hC a S i ce sl hiL hce2 hsl2 hW hP hD hS hl kk
        · refine lv_tableIn (off := 207) (tgt := 240) hx hb dL_law_33 (by decide) (by decide) (by decide) (by decide) ?_
          exact lc_2 hC a S i ce sl hiL hce2 hsl2 hW hP hD hS hl kk
        · refine lv_tableIn (off := 240) (tgt := 273) hx hb dL_law_33 (by decide) (by decide) (by decide) (by decide) ?_
          exact lc_3 hC a S i ce sl hiL hce2 hsl2 hW hP hD hS hl kk
        · refine lv_tableIn (off := 263) (tgt := 296) hx hb dL_law_33 (by decide) (by decide) (by decide) (by decide) ?_
          exact lc_4 hC a S i ce sl hiL hce2 hsl2 hW hP hD hS hl kk
        · refine lv_tableIn (off := 276) (tgt := 309) hx hb dL_law_33 (by decide) (by decide) (by decide) (by decide) ?_
          exact lc_5 hC a S i ce sl hiL hce2 hsl2 hW hP hD hS hl kk
        · refine lv_tableIn (off := 289) (tgt := 322) hx hb dL_law_33 (by decide) (by decide) (by decide) (by decide) ?_
          exact lc_6 hC a S i ce sl hiL hce2 hsl2 hW hP hD hS hl kk
        · refine lv_tableIn (off := 312) (tgt := 345) hx hb dL_law_33 (by decide) (by decide) (by decide) (by decide) ?_
          exact lc_7 hC a S i ce sl hiL hce2 hsl2 hW hP hD hS hl kk
        · refine lv_tableIn (off := 325) (tgt := 358) hx hb dL_law_33 (by decide) (by decide) (by decide) (by decide) ?_
          exact lc_8 hC a S i ce sl hiL hce2 hsl2 hW hP hD hS hl kk
        · refine lv_tableIn (off := 358) (tgt := 391) hx hb dL_law_33 (by decide) (by decide) (by decide) (by decide) ?_
          exact lc_9 hC a S i ce sl hiL hce2 hsl2 hW hP hD hS hl kk
        · refine lv_tableIn (off := 381) (tgt := 414) hx hb dL_law_33 (by decide) (by decide) (by decide) (by decide) ?_
          exact lc_10 hC a S i ce sl hiL hce2 hsl2 hW hP hD hS hl kk
        · refine lv_tableIn (off := 404) (tgt := 437) hx hb dL_law_33 (by decide) (by decide) (by decide) (by decide) ?_
          exact lc_11 hC a S i ce sl hiL hce2 hsl2 hW hP hD hS hl kk
        · refine lv_tableIn (off := 437) (tgt := 470) hx hb dL_law_33 (by decide) (by decide) (by decide) (by decide) ?_
          exact lc_12 hC a S i ce sl hiL hce2 hsl2 hW hP hD hS hl kk
        · refine lv_tableIn (off := 500) (tgt := 533) hx hb dL_law_33 (by decide) (by decide) (by decide) (by decide) ?_
          exact lc_13 hC a S i ce sl hiL hce2 hsl2 hW hP hD hS hl kk
        · refine lv_tableIn (off := 523) (tgt := 556) hx hb dL_law_33 (by decide) (by decide) (by decide) (by decide) ?_
          exact lc_14 hC a S i ce sl hiL hce2 hsl2 hW hP hD hS hl kk
        · refine lv_tableIn (off := 572) (tgt := 605) hx hb dL_law_33 (by decide) (by decide) (by decide) (by decide) ?_
          exact lc_15 hC a S i ce sl hiL hce2 hsl2 hW hP hD hS hl kk
        · refine lv_tableIn (off := 585) (tgt := 618) hx hb dL_law_33 (by decide) (by decide) (by decide) (by decide) ?_
          exact lc_16 hC a S i ce sl hiL hce2 hsl2 hW hP hD hS hl kk
        · refine lv_tableIn (off := 618) (tgt := 651) hx hb dL_law_33 (by decide) (by decide) (by decide) (by decide) ?_
          exact lc_17 hC a S i ce sl hiL hce2 hsl2 hW hP hD hS hl kk
        · refine lv_tableIn (off := 651) (tgt := 684) hx hb dL_law_33 (by decide) (by decide) (by decide) (by decide) ?_
          exact lc_18 hC a S i ce sl hiL hce2 hsl2 hW hP hD hS hl kk
        · refine lv_tableIn (off := 684) (tgt := 717) hx hb dL_law_33 (by decide) (by decide) (by decide) (by decide) ?_
          exact lc_19 hC a S i ce sl hiL hce2 hsl2 hW hP hD hS hl kk
        · refine lv_tableIn (off := 738) (tgt := 771) hx hb dL_law_33 (by decide) (by decide) (by decide) (by decide) ?_
          exact lc_20 hC a S i ce sl hiL hce2 hsl2 hW hP hD hS hl kk
        · refine lv_tableIn (off := 781) (tgt := 814) hx hb dL_law_33 (by decide) (by decide) (by decide) (by decide) ?_
          exact lc_21 hC a S i ce sl hiL hce2 hsl2 hW hP hD hS hl kk
        · refine lv_tableIn (off := 804) (tgt := 837) hx hb dL_law_33 (by decide) (by decide) (by decide) (by decide) ?_
          exact lc_22 hC a S i ce sl hiL hce2 hsl2 hW hP hD hS hl kk
        · refine lv_tableIn (off := 827) (tgt := 860) hx hb dL_law_33 (by decide) (by decide) (by decide) (by decide) ?_
          exact lc_23 hC a S i ce sl hiL hce2 hsl2 hW hP hD hS hl kk
      · refine lv_tableOut (tgt := 883) hx hb dL_law_33 (Or.inr (by rw [nI_toInt (by omega)]; omega)) (by decide) ?_
        refine W.widen (k := ce + 8) (n := sl + 66) (by omega) (by omega) ?_
        exact kk S H locs ls hW hP hD hS hl
