/-! the law: what stands at its start; the worlds with a tail; the state that both systems share -/
theorem mv_Ppre {D : va_G} {X tl : va_W} {H : Heap} (h : va_P D vwCl (X ++ tl) H) : va_P D vwCl X H := fun k q hk => h k q (by rw [List.getElem?_append_left (List.getElem?_eq_some_iff.mp hk).1]; exact hk)
theorem mv_Dpre {A : Nat → Prop} {X tl : va_W} (h : va_D A (X ++ tl)) : va_D A X := h.by id (fun k q hk => by show (X ++ tl)[k]? = some q; rw [List.getElem?_append_left (List.getElem?_eq_some_iff.mp hk).1]; exact hk) (fun i j _ _ e => e)
section MVT
variable {p : Program} {l : Launch} {e : Env} {R : Room} {s : State} {m : MethodId} {args : Array Value} {below : List Frame} {meth : Method} {c : Code} {H : Heap} {locs : List Loc} {cells slots : Nat} {Q : State → Prop} {D : va_G} {Y : Nat → ClassId} {A : Nat → Prop}
variable {cc : ByteArray} {pc : Nat} {ls : Array Slot} {rest : List Value}
theorem mv_callViT {S : Type} {post : Int32 → S → Prop} {W1 : S → va_W} {own : String} {y : MethodName} {b : ByteArray} {n nL idx d2 mc2 ms2 nA : Nat} {rt : Option FieldType} {As st : List Value} {b2 : Nat} {Wc wr X tl : va_W} (hx : p.tables.exec = Jvm.exec) (hb : c.code = cc) (hml : c.maxLocals = nL) (hown : s.vm.findClass own = some m.cls) (hts : ∀ w ∈ wsL_law, w.before args s = true) (hK : va_K D vwCl (mv_T Y) s) (hP : va_P D vwCl (X ++ tl) H) (hD : va_D A (X ++ tl)) (hS : va_S A s.heap H locs) (hST : mv_S A s s.heap) (hA : ∀ q : Nat, s.heap.size ≤ q → A q) (hsz : ls.size = nL)
    (hM : mv_C l D Y y b n rt d2 mc2 ms2 (.ref b2 :: As) H.size Wc (mv_Qi D Y post W1)) (isC isR : List Nat) (hC : isC.map (fun i => X[i]?) = Wc.map some) (hR : isR.map (fun i => X[i]?) = wr.map some) (hnC : va_nd isC = true) (hn : va_nd isR = true) (hdis : ∀ i ∈ isR, i ∉ isC) (hC2 : isC.filterMap (fun i => X[i]?) = Wc) (q0 : Nat) {ci : Nat} {fs : List Value} {q : vw_C} (hq0 : X[q0]? = some (b2, .inr (ci, fs))) (hci : vwCl[ci]? = some q) (hq1 : q.1 = y.cls) (h1 : .methodLink own idx y ∈ wsL_law) (h2 : .instanceMethod y ∈ wsL_law) (h3 : .selects y.cls y y ∈ wsL_law) (h4 : .initialized y.cls ∈ wsL_law) (h5 : .code y b n rt ∈ wsL_law) (hnp : y.cls ≠ "java/lang/invoke/MethodHandle" ∧ y.cls ≠ "java/lang/invoke/VarHandle" ∧ (parseMethodDescriptor y.desc).map (fun d => d.parameters.length) = some nA) (hna : As.length = nA) (hrm : d2 + 1 ≤ R.frames ∧ 8 + (n + 11) + 35 * d2 ≤ R.locals) (hst : st = As.reverse ++ .ref b2 :: rest) (hcat : (rest.map fun v => v.category).sum ≤ 8) (hdg : decode cc pc = .ok (.invokevirtual idx, 3)) (hf : cells + mc2 ≤ R.cells ∧ slots + ms2 ≤ R.slots)
    (kk : ∀ (r : Int32) (u : S) (H1 : Heap) (locs1 : List Loc), post r u → va_P D vwCl ((wr ++ W1 u) ++ tl) H1 → va_D A ((wr ++ W1 u) ++ tl) → va_S A s.heap H1 locs1 → H.size ≤ H1.size → W p l e R s m args below meth c H1 locs1 (cells + mc2) (slots + ms2) Q (F0 m (pc + 3) ls (.int r :: rest))) : W p l e R s m args below meth c H locs cells slots Q (F0 m pc ls st) := by
  subst hst
  have hPX := mv_Ppre hP
  have hDX := mv_Dpre hD
  have hPc := hPX.sub (ws' := Wc) isC hC2
  have hDc := hDX.sub (ws' := Wc) isC hnC hC
  have hFc := va_free (wc := Wc) hDX hS hA isC hC
  refine va_calli (va_runV (As := As) (rest := rest) ⟨hx, hb, hml, hown, hts⟩ hM (cwV nA hts (mv_gV h1 h2 h3 h4 h5) rfl rfl rfl ⟨rfl, hnp⟩ hrm) (⟨mv_blind, by rw [← hq1]; exact va_recv hK hPX hci hq0, fun U hU hW => ⟨rfl, by rw [hU], by rw [hU]; exact hPc, va_K.moved hW.alike hK, hDc.weaken (fun _ _ _ _ => trivial), hST.to hS hFc hW hU⟩⟩) rfl hna hsz rfl (lv_room hcat) hdg hf) hS (fun q _ h => hFc q h) hFc (fun r u t H1 locs1 ht hvm hw hB hz1 hk1 hS1 => ?_)
  obtain ⟨hP1, hK1, hD1⟩ := hB
  rw [ht] at hP1
  obtain ⟨hP2, hD2⟩ := va_joinQ (wr := wr) (w1 := W1 u) hP hD isC isR hC hR hn hdis hk1 hFc hP1 hD1
  exact kk r u H1 locs1 hw hP2 hD2 hS1 hz1
theorem mv_callVlT {S : Type} {post : Int64 → S → Prop} {W1 : S → va_W} {own : String} {y : MethodName} {b : ByteArray} {n nL idx d2 mc2 ms2 nA : Nat} {rt : Option FieldType} {As st : List Value} {b2 : Nat} {Wc wr X tl : va_W} (hx : p.tables.exec = Jvm.exec) (hb : c.code = cc) (hml : c.maxLocals = nL) (hown : s.vm.findClass own = some m.cls) (hts : ∀ w ∈ wsL_law, w.before args s = true) (hK : va_K D vwCl (mv_T Y) s) (hP : va_P D vwCl (X ++ tl) H) (hD : va_D A (X ++ tl)) (hS : va_S A s.heap H locs) (hST : mv_S A s s.heap) (hA : ∀ q : Nat, s.heap.size ≤ q → A q) (hsz : ls.size = nL)
    (hM : mv_C l D Y y b n rt d2 mc2 ms2 (.ref b2 :: As) H.size Wc (mv_Ql D Y post W1)) (isC isR : List Nat) (hC : isC.map (fun i => X[i]?) = Wc.map some) (hR : isR.map (fun i => X[i]?) = wr.map some) (hnC : va_nd isC = true) (hn : va_nd isR = true) (hdis : ∀ i ∈ isR, i ∉ isC) (hC2 : isC.filterMap (fun i => X[i]?) = Wc) (q0 : Nat) {ci : Nat} {fs : List Value} {q : vw_C} (hq0 : X[q0]? = some (b2, .inr (ci, fs))) (hci : vwCl[ci]? = some q) (hq1 : q.1 = y.cls) (h1 : .methodLink own idx y ∈ wsL_law) (h2 : .instanceMethod y ∈ wsL_law) (h3 : .selects y.cls y y ∈ wsL_law) (h4 : .initialized y.cls ∈ wsL_law) (h5 : .code y b n rt ∈ wsL_law) (hnp : y.cls ≠ "java/lang/invoke/MethodHandle" ∧ y.cls ≠ "java/lang/invoke/VarHandle" ∧ (parseMethodDescriptor y.desc).map (fun d => d.parameters.length) = some nA) (hna : As.length = nA) (hrm : d2 + 1 ≤ R.frames ∧ 8 + (n + 11) + 35 * d2 ≤ R.locals) (hst : st = As.reverse ++ .ref b2 :: rest) (hcat : (rest.map fun v => v.category).sum ≤ 8) (hdg : decode cc pc = .ok (.invokevirtual idx, 3)) (hf : cells + mc2 ≤ R.cells ∧ slots + ms2 ≤ R.slots)
    (kk : ∀ (r : Int64) (u : S) (H1 : Heap) (locs1 : List Loc), post r u → va_P D vwCl ((wr ++ W1 u) ++ tl) H1 → va_D A ((wr ++ W1 u) ++ tl) → va_S A s.heap H1 locs1 → H.size ≤ H1.size → W p l e R s m args below meth c H1 locs1 (cells + mc2) (slots + ms2) Q (F0 m (pc + 3) ls (.long r :: rest))) : W p l e R s m args below meth c H locs cells slots Q (F0 m pc ls st) := by
  subst hst
  have hPX := mv_Ppre hP
  have hDX := mv_Dpre hD
  have hPc := hPX.sub (ws' := Wc) isC hC2
  have hDc := hDX.sub (ws' := Wc) isC hnC hC
  have hFc := va_free (wc := Wc) hDX hS hA isC hC
  refine va_calll (va_runV (As := As) (rest := rest) ⟨hx, hb, hml, hown, hts⟩ hM (cwV nA hts (mv_gV h1 h2 h3 h4 h5) rfl rfl rfl ⟨rfl, hnp⟩ hrm) (⟨mv_blind, by rw [← hq1]; exact va_recv hK hPX hci hq0, fun U hU hW => ⟨rfl, by rw [hU], by rw [hU]; exact hPc, va_K.moved hW.alike hK, hDc.weaken (fun _ _ _ _ => trivial), hST.to hS hFc hW hU⟩⟩) rfl hna hsz rfl (lv_room hcat) hdg hf) hS (fun q _ h => hFc q h) hFc (fun r u t H1 locs1 ht hvm hw hB hz1 hk1 hS1 => ?_)
  obtain ⟨hP1, hK1, hD1⟩ := hB
  rw [ht] at hP1
  obtain ⟨hP2, hD2⟩ := va_joinQ (wr := wr) (w1 := W1 u) hP hD isC isR hC hR hn hdis hk1 hFc hP1 hD1
  exact kk r u H1 locs1 hw hP2 hD2 hS1 hz1
end MVT
theorem lw_st5 {b : Nat} {s : State} {A : Nat → Prop} (hgv : (Jvm.Cond.and given_1 narrow_1).before #[Value.ref b] s = true) (hts : ∀ w ∈ lw_tbl, w.before #[Value.ref b] s = true) (hA : ∀ a : Nat, a < s.heap.size → ¬ A a) : ∃ t : Nat, va_Z RX5 "NIM_OF_ROW" "[I" (.ref t) A s s.heap ∧ va_T .int t 17 (mv_tab mv_nimL) A s s.heap := by
  have hs := flat_of_before _ hgv
  have harr : (Cond.arrayOf (Term.static "MothAudit$Tailor" "NIM_OF_ROW" "[I") .int).before #[Value.ref b] s = true := hs _ (by decide +kernel)
  have hlen : (Cond.eq (.length (Term.static "MothAudit$Tailor" "NIM_OF_ROW" "[I")) (.int 17)).before #[Value.ref b] s = true := hs _ (by decide +kernel)
  have h0 : (Cond.eq (Term.elem (Term.static "MothAudit$Tailor" "NIM_OF_ROW" "[I") (.int 0)) (.int 0)).before #[Value.ref b] s = true := hs _ (by decide +kernel)
  have h1 : (Cond.eq (Term.elem (Term.static "MothAudit$Tailor" "NIM_OF_ROW" "[I") (.int 1)) (.int 1)).before #[Value.ref b] s = true := hs _ (by decide +kernel)
  have h2 : (Cond.eq (Term.elem (Term.static "MothAudit$Tailor" "NIM_OF_ROW" "[I") (.int 2)) (.int 2)).before #[Value.ref b] s = true := hs _ (by decide +kernel)
  have h3 : (Cond.eq (Term.elem (Term.static "MothAudit$Tailor" "NIM_OF_ROW" "[I") (.int 3)) (.int 3)).before #[Value.ref b] s = true := hs _ (by decide +kernel)
  have h4 : (Cond.eq (Term.elem (Term.static "MothAudit$Tailor" "NIM_OF_ROW" "[I") (.int 4)) (.int 1)).before #[Value.ref b] s = true := hs _ (by decide +kernel)
  have h5 : (Cond.eq (Term.elem (Term.static "MothAudit$Tailor" "NIM_OF_ROW" "[I") (.int 5)) (.int 4)).before #[Value.ref b] s = true := hs _ (by decide +kernel)
  have h6 : (Cond.eq (Term.elem (Term.static "MothAudit$Tailor" "NIM_OF_ROW" "[I") (.int 6)) (.int 3)).before #[Value.ref b] s = true := hs _ (by decide +kernel)
  have h7 : (Cond.eq (Term.elem (Term.static "MothAudit$Tailor" "NIM_OF_ROW" "[I") (.int 7)) (.int 2)).before #[Value.ref b] s = true := hs _ (by decide +kernel)
  have h8 : (Cond.eq (Term.elem (Term.static "MothAudit$Tailor" "NIM_OF_ROW" "[I") (.int 8)) (.int 1)).before #[Value.ref b] s = true := hs _ (by decide +kernel)
  have h9 : (Cond.eq (Term.elem (Term.static "MothAudit$Tailor" "NIM_OF_ROW" "[I") (.int 9)) (.int 4)).before #[Value.ref b] s = true := hs _ (by decide +kernel)
  have h10 : (Cond.eq (Term.elem (Term.static "MothAudit$Tailor" "NIM_OF_ROW" "[I") (.int 10)) (.int 2)).before #[Value.ref b] s = true := hs _ (by decide +kernel)
  have h11 : (Cond.eq (Term.elem (Term.static "MothAudit$Tailor" "NIM_OF_ROW" "[I") (.int 11)) (.int 6)).before #[Value.ref b] s = true := hs _ (by decide +kernel)
  have h12 : (Cond.eq (Term.elem (Term.static "MothAudit$Tailor" "NIM_OF_ROW" "[I") (.int 12)) (.int 4)).before #[Value.ref b] s = true := hs _ (by decide +kernel)
  have h13 : (Cond.eq (Term.elem (Term.static "MothAudit$Tailor" "NIM_OF_ROW" "[I") (.int 13)) (.int 1)).before #[Value.ref b] s = true := hs _ (by decide +kernel)
  have h14 : (Cond.eq (Term.elem (Term.static "MothAudit$Tailor" "NIM_OF_ROW" "[I") (.int 14)) (.int 2)).before #[Value.ref b] s = true := hs _ (by decide +kernel)
  have h15 : (Cond.eq (Term.elem (Term.static "MothAudit$Tailor" "NIM_OF_ROW" "[I") (.int 15)) (.int 7)).before #[Value.ref b] s = true := hs _ (by decide +kernel)
  have h16 : (Cond.eq (Term.elem (Term.static "MothAudit$Tailor" "NIM_OF_ROW" "[I") (.int 16)) (.int 1)).before #[Value.ref b] s = true := hs _ (by decide +kernel)
  obtain ⟨t, h9, h10⟩ := va_Tof (N := 17) (f := mv_tab mv_nimL) (by decide) harr (va_eqt hlen) (fun j hj => by
    rcases (show j = 0 ∨ j = 1 ∨ j = 2 ∨ j = 3 ∨ j = 4 ∨ j = 5 ∨ j = 6 ∨ j = 7 ∨ j = 8 ∨ j = 9 ∨ j = 10 ∨ j = 11 ∨ j = 12 ∨ j = 13 ∨ j = 14 ∨ j = 15 ∨ j = 16 by omega) with rfl | rfl | rfl | rfl | rfl | rfl | rfl | rfl | rfl | rfl | rfl | rfl | rfl | rfl | rfl | rfl | rfl
    · exact va_eqt h0
    · exact va_eqt h1
    · exact va_eqt h2
    · exact va_eqt h3
    · exact va_eqt h4
    · exact va_eqt h5
    · exact va_eqt h6
    · exact va_eqt h7
    · exact va_eqt h8
    · exact va_eqt h9
    · exact va_eqt h10
    · exact va_eqt h11
    · exact va_eqt h12
    · exact va_eqt h13
    · exact va_eqt h14
    · exact va_eqt h15
    · exact va_eqt h16) hA
  exact ⟨t, va_Zof (hts _ wl_5) (hts _ wz_5) h9 hA, h10⟩
theorem lw_st3 {b : Nat} {s : State} {A : Nat → Prop} (hgv : (Jvm.Cond.and given_1 narrow_1).before #[Value.ref b] s = true) (hts : ∀ w ∈ lw_tbl, w.before #[Value.ref b] s = true) (hA : ∀ a : Nat, a < s.heap.size → ¬ A a) : ∃ t : Nat, va_Z RX3 "DRAWN_KINDS" "[I" (.ref t) A s s.heap ∧ va_T .int t 8 (mv_tab mv_drkL) A s s.heap := by
  have hs := flat_of_before _ hgv
  have harr : (Cond.arrayOf (Term.static "MothAudit$Rehearsal" "DRAWN_KINDS" "[I") .int).before #[Value.ref b] s = true := hs _ (by decide +kernel)
  have hlen : (Cond.eq (.length (Term.static "MothAudit$Rehearsal" "DRAWN_KINDS" "[I")) (.int 8)).before #[Value.ref b] s = true := hs _ (by decide +kernel)
  have h0 : (Cond.eq (Term.elem (Term.static "MothAudit$Rehearsal" "DRAWN_KINDS" "[I") (.int 0)) (.int 60)).before #[Value.ref b] s = true := hs _ (by decide +kernel)
  have h1 : (Cond.eq (Term.elem (Term.static "MothAudit$Rehearsal" "DRAWN_KINDS" "[I") (.int 1)) (.int 62)).before #[Value.ref b] s = true := hs _ (by decide +kernel)
  have h2 : (Cond.eq (Term.elem (Term.static "MothAudit$Rehearsal" "DRAWN_KINDS" "[I") (.int 2)) (.int 43)).before #[Value.ref b] s = true := hs _ (by decide +kernel)
  have h3 : (Cond.eq (Term.elem (Term.static "MothAudit$Rehearsal" "DRAWN_KINDS" "[I") (.int 3)) (.int 47)).before #[Value.ref b] s = true := hs _ (by decide +kernel)
  have h4 : (Cond.eq (Term.elem (Term.static "MothAudit$Rehearsal" "DRAWN_KINDS" "[I") (.int 4)) (.int 48)).before #[Value.ref b] s = true := hs _ (by decide +kernel)
  have h5 : (Cond.eq (Term.elem (Term.static "MothAudit$Rehearsal" "DRAWN_KINDS" "[I") (.int 5)) (.int 42)).before #[Value.ref b] s = true := hs _ (by decide +kernel)
  have h6 : (Cond.eq (Term.elem (Term.static "MothAudit$Rehearsal" "DRAWN_KINDS" "[I") (.int 6)) (.int 42)).before #[Value.ref b] s = true := hs _ (by decide +kernel)
  have h7 : (Cond.eq (Term.elem (Term.static "MothAudit$Rehearsal" "DRAWN_KINDS" "[I") (.int 7)) (.int 46)).before #[Value.ref b] s = true := hs _ (by decide +kernel)
  obtain ⟨t, h9, h10⟩ := va_Tof (N := 8) (f := mv_tab mv_drkL) (by decide) harr (va_eqt hlen) (fun j hj => by
    rcases (show j = 0 ∨ j = 1 ∨ j = 2 ∨ j = 3 ∨ j = 4 ∨ j = 5 ∨ j = 6 ∨ j = 7 by omega) with rfl | rfl | rfl | rfl | rfl | rfl | rfl | rfl
    · exact va_eqt h0
    · exact va_eqt h1
    · exact va_eqt h2
    · exact va_eqt h3
    · exact va_eqt h4
    · exact va_eqt h5
    · exact va_eqt h6
    · exact va_eqt h7) hA
  exact ⟨t, va_Zof (hts _ wl_3) (hts _ wz_3) h9 hA, h10⟩
theorem lw_S {b : Nat} {s : State} {A : Nat → Prop} (hgv : (Jvm.Cond.and given_1 narrow_1).before #[Value.ref b] s = true) (hts : ∀ w ∈ lw_tbl, w.before #[Value.ref b] s = true) (hA : ∀ a : Nat, a < s.heap.size → ¬ A a) : mv_S A s s.heap := by
  refine ⟨lw_st5 hgv hts hA, lw_st3 hgv hts hA, fun q hq => va_Nw.of rfl (hts _ (wn_in q hq)), va_AO.of (hts _ wa_Q)⟩
theorem lw_arr {ty : FieldType} {s : State} {A : Array Value} (h : (Cond.arrayClass ty).before A s = true) : ∃ c k comp, s.vm.findClass ("[" ++ ty.toString) = some c ∧ s.vm.classes[c]? = some k ∧ k.kind = .array comp ty := Cond.arrayClass_spec h
theorem lw_K {b : Nat} {s : State} (hts : ∀ w ∈ lw_tbl, w.before #[Value.ref b] s = true) : ∃ (D : va_G) (Y : Nat → ClassId), va_K D vwCl (mv_T Y) s := by
  obtain ⟨c0, iS0, hKn0⟩ := u_known (C := RX0) (T := TX0) (N := 2) (n := 2) hts tx_0 (hts _ wi_0)
  obtain ⟨c1, iS1, hKn1⟩ := u_known (C := RX1) (T := TX1) (N := 1) (n := 1) hts tx_1 (hts _ wi_1)
  obtain ⟨c2, iS2, hKn2⟩ := u_known (C := RX2) (T := TX2) (N := 2) (n := 2) hts tx_2 (hts _ wi_2)
  obtain ⟨c3, iS3, hKn3⟩ := u_known (C := RX3) (T := TX3) (N := 7) (n := 7) hts tx_3 (hts _ wi_3)
  obtain ⟨c4, iS4, hKn4⟩ := u_known (C := RX4) (T := TX4) (N := 4) (n := 4) hts tx_4 (hts _ wi_4)
  obtain ⟨c5, iS5, hKn5⟩ := u_known (C := RX5) (T := TX5) (N := 1) (n := 1) hts tx_5 (hts _ wi_5)
  obtain ⟨c6, iS6, hKn6⟩ := u_known (C := RX6) (T := TX6) (N := 11) (n := 11) hts tx_6 (hts _ wi_6)
  obtain ⟨c7, iS7, hKn7⟩ := u_known (C := RX7) (T := TX7) (N := 8) (n := 8) hts tx_7 (hts _ wi_7)
  obtain ⟨c8, iS8, hKn8⟩ := u_known (C := RX8) (T := TX8) (N := 21) (n := 21) hts tx_8 (hts _ wi_8)
  obtain ⟨a0, k0, m0, f0, g0, e0⟩ := lw_arr (hts _ wa_I)
  obtain ⟨a1, k1, m1, f1, g1, e1⟩ := lw_arr (hts _ wa_J)
  obtain ⟨a2, k2, m2, f2, g2, e2⟩ := lw_arr (hts _ wa_Z)
  obtain ⟨m3, a3, k3, f3, -, g3, e3, n3⟩ := Cond.arrayOver_spec (hts _ wa_Q)
  refine ⟨(fun k => match k with | 0 => c0 | 1 => c1 | 2 => c2 | 3 => c3 | 4 => c4 | 5 => c5 | 6 => c6 | 7 => c7 | _ => c8, fun k => match k with | 0 => iS0 | 1 => iS1 | 2 => iS2 | 3 => iS3 | 4 => iS4 | 5 => iS5 | 6 => iS6 | 7 => iS7 | _ => iS8), fun k => match k with | 0 => a0 | 1 => a1 | 2 => a2 | _ => a3, ?_, ?_⟩
  · intro k q hq
    match k, hq with
    | 0, hq => cases hq; exact hKn0
    | 1, hq => cases hq; exact hKn1
    | 2, hq => cases hq; exact hKn2
    | 3, hq => cases hq; exact hKn3
    | 4, hq => cases hq; exact hKn4
    | 5, hq => cases hq; exact hKn5
    | 6, hq => cases hq; exact hKn6
    | 7, hq => cases hq; exact hKn7
    | 8, hq => cases hq; exact hKn8
    | k + 9, hq => simp [vwCl] at hq
  · intro k q hq
    match k, hq with
    | 0, hq => cases hq; exact ⟨fun n z => ⟨fun k h => (by cases h), k0, g0, m0, e0⟩, f0⟩
    | 1, hq => cases hq; exact ⟨fun n z => ⟨fun k h => (by cases h), k1, g1, m1, e1⟩, f1⟩
    | 2, hq => cases hq; exact ⟨fun n z => ⟨fun k h => (by cases h), k2, g2, m2, e2⟩, f2⟩
    | 3, hq => cases hq; exact ⟨fun n z => ⟨fun k h => (by cases h), k3, g3, m3, e3⟩, k3, m3, g3, e3, f3, n3⟩
    | k + 4, hq => simp [mv_T] at hq
