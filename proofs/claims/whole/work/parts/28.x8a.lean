abbrev q_X8_init (D : va_G) (Y : Nat → ClassId) (o : Nat) : (Nat → Prop) → Array Value → State → Outcome → State → Prop := mv_Qv D Y (fun (ux : Nat × Nat × Nat × Nat × Nat × Nat × Nat × Nat × Nat × Nat × Nat × Nat × Nat × Nat) => True) (fun ux : Nat × Nat × Nat × Nat × Nat × Nat × Nat × Nat × Nat × Nat × Nat × Nat × Nat × Nat => ([(o, .inr (8, [.ref ux.1, .ref ux.2.1, .ref ux.2.2.1, .ref ux.2.2.2.1, .ref ux.2.2.2.2.1, .int (nI 0), .ref ux.2.2.2.2.2.1, .int (nI 0), .ref ux.2.2.2.2.2.2.1, .int (nI 0), .int (nI 0), .int (nI 0), .int (nI 0), .int (nI 0), .ref ux.2.2.2.2.2.2.2.1, .ref ux.2.2.2.2.2.2.2.2.1, .ref ux.2.2.2.2.2.2.2.2.2.1, .ref ux.2.2.2.2.2.2.2.2.2.2.1, .ref ux.2.2.2.2.2.2.2.2.2.2.2.1, .ref ux.2.2.2.2.2.2.2.2.2.2.2.2.1, .ref ux.2.2.2.2.2.2.2.2.2.2.2.2.2])), (ux.1, .inl (Y 0, 24, .inl (aN (fun _ => 0)))), (ux.2.1, .inl (Y 0, 24, .inl (aN (fun _ => 0)))), (ux.2.2.1, .inl (Y 0, 10, .inl (aN (fun _ => 0)))), (ux.2.2.2.1, .inl (Y 0, 10, .inl (aN (fun _ => 0)))), (ux.2.2.2.2.1, .inl (Y 0, 5, .inl (aN (fun _ => 0)))), (ux.2.2.2.2.2.1, .inl (Y 0, 16, .inl (aN (fun _ => 0)))), (ux.2.2.2.2.2.2.1, .inl (Y 0, 60, .inl (aN (fun _ => 0)))), (ux.2.2.2.2.2.2.2.1, .inl (Y 0, 17, .inl (aN (fun _ => 0)))), (ux.2.2.2.2.2.2.2.2.1, .inl (Y 0, 10, .inl (aN (fun _ => 0)))), (ux.2.2.2.2.2.2.2.2.2.1, .inl (Y 0, 17, .inl (aN (fun _ => 0)))), (ux.2.2.2.2.2.2.2.2.2.2.1, .inl (Y 2, 40, .inl (aN (fun _ => 0)))), (ux.2.2.2.2.2.2.2.2.2.2.2.1, .inl (Y 1, 17, .inr (.inl (aL (fun _ => 0))))), (ux.2.2.2.2.2.2.2.2.2.2.2.2.1, .inl (Y 0, 160, .inl (aN (fun _ => 0)))), (ux.2.2.2.2.2.2.2.2.2.2.2.2.2, .inl (Y 2, 2, .inl (aN (fun _ => 0))))] : va_W))
set_option maxHeartbeats 8000000 in
set_option maxRecDepth 100000 in
theorem c_X8_init (l : Launch) (D : va_G) (Y : Nat → ClassId) (sz : Nat) (o : Nat)  : mv_C l D Y yX8_init cX8_init 1 none 1 14 412 [.ref o] sz [(o, .inr (8, [.null, .null, .null, .null, .null, .int (nI 0), .null, .int (nI 0), .null, .int (nI 0), .int (nI 0), .int (nI 0), .int (nI 0), .int (nI 0), .null, .null, .null, .null, .null, .null, .null]))] (q_X8_init D Y o) := by
  refine mv_ofW (by decide) (Nat.le_of_ble_eq_true rfl) ?_
  intro p e s m below meth c ls A hx hb hr hlocks hml hnm hown hts hsz hAe hP hK hD hS hST hA hl
  have hl : lv_has ls 1 [(0, .ref o)] := hl
  refine lv_aload_n hx hb dX8_init_0 rfl (lv_at hl 0 rfl) ?_
  refine W.objInit hx hb hown (hts _ mw_82) (hts _ mw_10) (hts _ mw_11) rfl (by rw [hml]; exact hl.1) rfl dX8_init_1 (Nat.le_of_ble_eq_true rfl) (Nat.le_of_ble_eq_true rfl) ?_
  refine W.eq (g2 := F0 m 4 ls []) rfl ?_
  refine lv_aload_n hx hb dX8_init_4 rfl (lv_at hl 0 rfl) ?_
  refine lv_bipush (v := nI 24) hx hb dX8_init_5 (by decide) ?_
  refine mv_newaI hx hb hts hK hP hD hS hA (n := 24) (by decide) (by decide) (Nat.le_of_ble_eq_true rfl) (Nat.le_of_ble_eq_true rfl) dX8_init_7 (fun q_1 H hP hD hS => ?_)
  have hP : va_P D vwCl [(o, .inr (8, [.null, .null, .null, .null, .null, .int (nI 0), .null, .int (nI 0), .null, .int (nI 0), .int (nI 0), .int (nI 0), .int (nI 0), .int (nI 0), .null, .null, .null, .null, .null, .null, .null])), (q_1, .inl (Y 0, 24, .inl (aN (fun _ => 0))))] H := hP
  have hD : va_D A [(o, .inr (8, [.null, .null, .null, .null, .null, .int (nI 0), .null, .int (nI 0), .null, .int (nI 0), .int (nI 0), .int (nI 0), .int (nI 0), .int (nI 0), .null, .null, .null, .null, .null, .null, .null])), (q_1, .inl (Y 0, 24, .inl (aN (fun _ => 0))))] := hD
  refine W.widen (k := 1) (n := 24) (by omega) (by omega) ?_
  refine va_putF (D := D) (ci := 8) (v := .ref q_1) (ty := .array .int) (C := RX8) (T := TX8) (N := 21) hx hb hts inlX8 tyX8 tyX8_ok nmX8 hown hK hP hD hS 0 rfl rfl 0 (by decide) (hts _ mw_83) (fun _ h9 => h9) rfl hnm rfl (by decide +kernel) rfl rfl (Nat.le_of_ble_eq_true rfl) dX8_init_9 (fun H locs hP hD hS => ?_)
  have hP : va_P D vwCl [(o, .inr (8, [.ref q_1, .null, .null, .null, .null, .int (nI 0), .null, .int (nI 0), .null, .int (nI 0), .int (nI 0), .int (nI 0), .int (nI 0), .int (nI 0), .null, .null, .null, .null, .null, .null, .null])), (q_1, .inl (Y 0, 24, .inl (aN (fun _ => 0))))] H := hP
  have hD : va_D A [(o, .inr (8, [.ref q_1, .null, .null, .null, .null, .int (nI 0), .null, .int (nI 0), .null, .int (nI 0), .int (nI 0), .int (nI 0), .int (nI 0), .int (nI 0), .null, .null, .null, .null, .null, .null, .null])), (q_1, .inl (Y 0, 24, .inl (aN (fun _ => 0))))] := hD
  refine lv_aload_n hx hb dX8_init_12 rfl (lv_at hl 0 rfl) ?_
  refine lv_bipush (v := nI 24) hx hb dX8_init_13 (by decide) ?_
  refine mv_newaI hx hb hts hK hP hD hS hA (n := 24) (by decide) (by decide) (Nat.le_of_ble_eq_true rfl) (Nat.le_of_ble_eq_true rfl) dX8_init_15 (fun q_2 H hP hD hS => ?_)
  have hP : va_P D vwCl [(o, .inr (8, [.ref q_1, .null, .null, .null, .null, .int (nI 0), .null, .int (nI 0), .null, .int (nI 0), .int (nI 0), .int (nI 0), .int (nI 0), .int (nI 0), .null, .null, .null, .null, .null, .null, .null])), (q_1, .inl (Y 0, 24, .inl (aN (fun _ => 0)))), (q_2, .inl (Y 0, 24, .inl (aN (fun _ => 0))))] H := hP
  have hD : va_D A [(o, .inr (8, [.ref q_1, .null, .null, .null, .null, .int (nI 0), .null, .int (nI 0), .null, .int (nI 0), .int (nI 0), .int (nI 0), .int (nI 0), .int (nI 0), .null, .null, .null, .null, .null, .null, .null])), (q_1, .inl (Y 0, 24, .inl (aN (fun _ => 0)))), (q_2, .inl (Y 0, 24, .inl (aN (fun _ => 0))))] := hD
  refine W.widen (k := 2) (n := 48) (by omega) (by omega) ?_
  refine va_putF (D := D) (ci := 8) (v := .ref q_2) (ty := .array .int) (C := RX8) (T := TX8) (N := 21) hx hb hts inlX8 tyX8 tyX8_ok nmX8 hown hK hP hD hS 0 rfl rfl 1 (by decide) (hts _ mw_84) (fun _ h9 => h9) rfl hnm rfl (by decide +kernel) rfl rfl (Nat.le_of_ble_eq_true rfl) dX8_init_17 (fun H locs hP hD hS => ?_)
  have hP : va_P D vwCl [(o, .inr (8, [.ref q_1, .ref q_2, .null, .null, .null, .int (nI 0), .null, .int (nI 0), .null, .int (nI 0), .int (nI 0), .int (nI 0), .int (nI 0), .int (nI 0), .null, .null, .null, .null, .null, .null, .null])), (q_1, .inl (Y 0, 24, .inl (aN (fun _ => 0)))), (q_2, .inl (Y 0, 24, .inl (aN (fun _ => 0))))] H := hP
  have hD : va_D A [(o, .inr (8, [.ref q_1, .ref q_2, .null, .null, .null, .int (nI 0), .null, .int (nI 0), .null, .int (nI 0), .int (nI 0), .int (nI 0), .int (nI 0), .int (nI 0), .null, .null, .null, .null, .null, .null, .null])), (q_1, .inl (Y 0, 24, .inl (aN (fun _ => 0)))), (q_2, .inl (Y 0, 24, .inl (aN (fun _ => 0))))] := hD
  refine lv_aload_n hx hb dX8_init_20 rfl (lv_at hl 0 rfl) ?_
  refine lv_bipush (v := nI 10) hx hb dX8_init_21 (by decide) ?_
  refine mv_newaI hx hb hts hK hP hD hS hA (n := 10) (by decide) (by decide) (Nat.le_of_ble_eq_true rfl) (Nat.le_of_ble_eq_true rfl) dX8_init_23 (fun q_3 H hP hD hS => ?_)
  have hP : va_P D vwCl [(o, .inr (8, [.ref q_1, .ref q_2, .null, .null, .null, .int (nI 0), .null, .int (nI 0), .null, .int (nI 0), .int (nI 0), .int (nI 0), .int (nI 0), .int (nI 0), .null, .null, .null, .null, .null, .null, .null])), (q_1, .inl (Y 0, 24, .inl (aN (fun _ => 0)))), (q_2, .inl (Y 0, 24, .inl (aN (fun _ => 0)))), (q_3, .inl (Y 0, 10, .inl (aN (fun _ => 0))))] H := hP
  have hD : va_D A [(o, .inr (8, [.ref q_1, .ref q_2, .null, .null, .null, .int (nI 0), .null, .int (nI 0), .null, .int (nI 0), .int (nI 0), .int (nI 0), .int (nI 0), .int (nI 0), .null, .null, .null, .null, .null, .null, .null])), (q_1, .inl (Y 0, 24, .inl (aN (fun _ => 0)))), (q_2, .inl (Y 0, 24, .inl (aN (fun _ => 0)))), (q_3, .inl (Y 0, 10, .inl (aN (fun _ => 0))))] := hD
  refine W.widen (k := 3) (n := 58) (by omega) (by omega) ?_
  refine va_putF (D := D) (ci := 8) (v := .ref q_3) (ty := .array .int) (C := RX8) (T := TX8) (N := 21) hx hb hts inlX8 tyX8 tyX8_ok nmX8 hown hK hP hD hS 0 rfl rfl 2 (by decide) (hts _ mw_85) (fun _ h9 => h9) rfl hnm rfl (by decide +kernel) rfl rfl (Nat.le_of_ble_eq_true rfl) dX8_init_25 (fun H locs hP hD hS => ?_)
  have hP : va_P D vwCl [(o, .inr (8, [.ref q_1, .ref q_2, .ref q_3, .null, .null, .int (nI 0), .null, .int (nI 0), .null, .int (nI 0), .int (nI 0), .int (nI 0), .int (nI 0), .int (nI 0), .null, .null, .null, .null, .null, .null, .null])), (q_1, .inl (Y 0, 24, .inl (aN (fun _ => 0)))), (q_2, .inl (Y 0, 24, .inl (aN (fun _ => 0)))), (q_3, .inl (Y 0, 10, .inl (aN (fun _ => 0))))] H := hP
  have hD : va_D A [(o, .inr (8, [.ref q_1, .ref q_2, .ref q_3, .null, .null, .int (nI 0), .null, .int (nI 0), .null, .int (nI 0), .int (nI 0), .int (nI 0), .int (nI 0), .int (nI 0), .null, .null, .null, .null, .null, .null, .null])), (q_1, .inl (Y 0, 24, .inl (aN (fun _ => 0)))), (q_2, .inl (Y 0, 24, .inl (aN (fun _ => 0)))), (q_3, .inl (Y 0, 10, .inl (aN (fun _ => 0))))] := hD
  refine lv_aload_n hx hb dX8_init_28 rfl (lv_at hl 0 rfl) ?_
  refine lv_bipush (v := nI 10) hx hb dX8_init_29 (by decide) ?_
  refine mv_newaI hx hb hts hK hP hD hS hA (n := 10) (by decide) (by decide) (Nat.le_of_ble_eq_true rfl) (Nat.le_of_ble_eq_true rfl) dX8_init_31 (fun q_4 H hP hD hS => ?_)
  have hP : va_P D vwCl [(o, .inr (8, [.ref q_1, .ref q_2, .ref q_3, .null, .null, .int (nI 0), .null, .int (nI 0), .null, .int (nI 0), .int (nI 0), .int (nI 0), .int (nI 0), .int (nI 0), .null, .null, .null, .null, .null, .null, .null])), (q_1, .inl (Y 0, 24, .inl (aN (fun _ => 0)))), (q_2, .inl (Y 0, 24, .inl (aN (fun _ => 0)))), (q_3, .inl (Y 0, 10, .inl (aN (fun _ => 0)))), (q_4, .inl (Y 0, 10, .inl (aN (fun _ => 0))))] H := hP
  have hD : va_D A [(o, .inr (8, [.ref q_1, .ref q_2, .ref q_3, .null, .null, .int (nI 0), .null, .int (nI 0), .null, .int (nI 0), .int (nI 0), .int (nI 0), .int (nI 0), .int (nI 0), .null, .null, .null, .null, .null, .null, .null])), (q_1, .inl (Y 0, 24, .inl (aN (fun _ => 0)))), (q_2, .inl (Y 0, 24, .inl (aN (fun _ => 0)))), (q_3, .inl (Y 0, 10, .inl (aN (fun _ => 0)))), (q_4, .inl (Y 0, 10, .inl (aN (fun _ => 0))))] := hD
  refine W.widen (k := 4) (n := 68) (by omega) (by omega) ?_
  refine va_putF (D := D) (ci := 8) (v := .ref q_4) (ty := .array .int) (C := RX8) (T := TX8) (N := 21) hx hb hts inlX8 tyX8 tyX8_ok nmX8 hown hK hP hD hS 0 rfl rfl 3 (by decide) (hts _ mw_86) (fun _ h9 => h9) rfl hnm rfl (by decide +kernel) rfl rfl (Nat.le_of_ble_eq_true rfl) dX8_init_33 (fun H locs hP hD hS => ?_)
  have hP : va_P D vwCl [(o, .inr (8, [.ref q_1, .ref q_2, .ref q_3, .ref q_4, .null, .int (nI 0), .null, .int (nI 0), .null, .int (nI 0), .int (nI 0), .int (nI 0), .int (nI 0), .int (nI 0), .null, .null, .null, .null, .null, .null, .null])), (q_1, .inl (Y 0, 24, .inl (aN (fun _ => 0)))), (q_2, .inl (Y 0, 24, .inl (aN (fun _ => 0)))), (q_3, .inl (Y 0, 10, .inl (aN (fun _ => 0)))), (q_4, .inl (Y 0, 10, .inl (aN (fun _ => 0))))] H := hP
  have hD : va_D A [(o, .inr (8, [.ref q_1, .ref q_2, .ref q_3, .ref q_4, .null, .int (nI 0), .null, .int (nI 0), .null, .int (nI 0), .int (nI 0), .int (nI 0), .int (nI 0), .int (nI 0), .null, .null, .null, .null, .null, .null, .null])), (q_1, .inl (Y 0, 24, .inl (aN (fun _ => 0)))), (q_2, .inl (Y 0, 24, .inl (aN (fun _ => 0)))), (q_3, .inl (Y 0, 10, .inl (aN (fun _ => 0)))), (q_4, .inl (Y 0, 10, .inl (aN (fun _ => 0))))] := hD
  refine lv_aload_n hx hb dX8_init_36 rfl (lv_at hl 0 rfl) ?_
  refine lv_iconst (v := nI 5) hx hb dX8_init_37 (by decide) ?_
  refine mv_newaI hx hb hts hK hP hD hS hA (n := 5) (by decide) (by decide) (Nat.le_of_ble_eq_true rfl) (Nat.le_of_ble_eq_true rfl) dX8_init_38 (fun q_5 H hP hD hS => ?_)
  have hP : va_P D vwCl [(o, .inr (8, [.ref q_1, .ref q_2, .ref q_3, .ref q_4, .null, .int (nI 0), .null, .int (nI 0), .null, .int (nI 0), .int (nI 0), .int (nI 0), .int (nI 0), .int (nI 0), .null, .null, .null, .null, .null, .null, .null])), (q_1, .inl (Y 0, 24, .inl (aN (fun _ => 0)))), (q_2, .inl (Y 0, 24, .inl (aN (fun _ => 0)))), (q_3, .inl (Y 0, 10, .inl (aN (fun _ => 0)))), (q_4, .inl (Y 0, 10, .inl (aN (fun _ => 0)))), (q_5, .inl (Y 0, 5, .inl (aN (fun _ => 0))))] H := hP
  have hD : va_D A [(o, .inr (8, [.ref q_1, .ref q_2, .ref q_3, .ref q_4, .null, .int (nI 0), .null, .int (nI 0), .null, .int (nI 0), .int (nI 0), .int (nI 0), .int (nI 0), .int (nI 0), .null, .null, .null, .null, .null, .null, .null])), (q_1, .inl (Y 0, 24, .inl (aN (fun _ => 0)))), (q_2, .inl (Y 0, 24, .inl (aN (fun _ => 0)))), (q_3, .inl (Y 0, 10, .inl (aN (fun _ => 0)))), (q_4, .inl (Y 0, 10, .inl (aN (fun _ => 0)))), (q_5, .inl (Y 0, 5, .inl (aN (fun _ => 0))))] := hD
  refine W.widen (k := 5) (n := 73) (by omega) (by omega) ?_
  refine va_putF (D := D) (ci := 8) (v := .ref q_5) (ty := .array .int) (C := RX8) (T := TX8) (N := 21) hx hb hts inlX8 tyX8 tyX8_ok nmX8 hown hK hP hD hS 0 rfl rfl 4 (by decide) (hts _ mw_87) (fun _ h9 => h9) rfl hnm rfl (by decide +kernel) rfl rfl (Nat.le_of_ble_eq_true rfl) dX8_init_40 (fun H locs hP hD hS => ?_)
  have hP : va_P D vwCl [(o, .inr (8, [.ref q_1, .ref q_2, .ref q_3, .ref q_4, .ref q_5, .int (nI 0), .null, .int (nI 0), .null, .int (nI 0), .int (nI 0), .int (nI 0), .int (nI 0), .int (nI 0), .null, .null, .null, .null, .null, .null, .null])), (q_1, .inl (Y 0, 24, .inl (aN (fun _ => 0)))), (q_2, .inl (Y 0, 24, .inl (aN (fun _ => 0)))), (q_3, .inl (Y 0, 10, .inl (aN (fun _ => 0)))), (q_4, .inl (Y 0, 10, .inl (aN (fun _ => 0)))), (q_5, .inl (Y 0, 5, .inl (aN (fun _ => 0))))] H := hP
  have hD : va_D A [(o, .inr (8, [.ref q_1, .ref q_2, .ref q_3, .ref q_4, .ref q_5, .int (nI 0), .null, .int (nI 0), .null, .int (nI 0), .int (nI 0), .int (nI 0), .int (nI 0), .int (nI 0), .null, .null, .null, .null, .null, .null, .null])), (q_1, .inl (Y 0, 24, .inl (aN (fun _ => 0)))), (q_2, .inl (Y 0, 24, .inl (aN (fun _ => 0)))), (q_3, .inl (Y 0, 10, .inl (aN (fun _ => 0)))), (q_4, .inl (Y 0, 10, .inl (aN (fun _ => 0)))), (q_5, .inl (Y 0, 5, .inl (aN (fun _ => 0))))] := hD
  refine lv_aload_n hx hb dX8_init_43 rfl (lv_at hl 0 rfl) ?_
  refine lv_bipush (v := nI 16) hx hb dX8_init_44 (by decide) ?_
  refine mv_newaI hx hb hts hK hP hD hS hA (n := 16) (by decide) (by decide) (Nat.le_of_ble_eq_true rfl) (Nat.le_of_ble_eq_true rfl) dX8_init_46 (fun q_6 H hP hD hS => ?_)
  have hP : va_P D vwCl [(o, .inr (8, [.ref q_1, .ref q_2, .ref q_3, .ref q_4, .ref q_5, .int (nI 0), .null, .int (nI 0), .null, .int (nI 0), .int (nI 0), .int (nI 0), .int (nI 0), .int (nI 0), .null, .null, .null, .null, .null, .null, .null])), (q_1, .inl (Y 0, 24, .inl (aN (fun _ => 0)))), (q_2, .inl (Y 0, 24, .inl (aN (fun _ => 0)))), (q_3, .inl (Y 0, 10, .inl (aN (fun _ => 0)))), (q_4, .inl (Y 0, 10, .inl (aN (fun _ => 0)))), (q_5, .inl (Y 0, 5, .inl (aN (fun _ => 0)))), (q_6, .inl (Y 0, 16, .inl (aN (fun _ => 0))))] H := hP
  have hD : va_D A [(o, .inr (8, [.ref q_1, .ref q_2, .ref q_3, .ref q_4, .ref q_5, .int (nI 0), .null, .int (nI 0), .null, .int (nI 0), .int (nI 0), .int (nI 0), .int (nI 0), .int (nI 0), .null, .null, .null, .null, .null, .null, .null])), (q_1, .inl (Y 0, 24, .inl (aN (fun _ => 0)))), (q_2, .inl (Y 0, 24, .inl (aN (fun _ => 0)))), (q_3, .inl (Y 0, 10, .inl (aN (fun _ => 0)))), (q_4, .inl (Y 0, 10, .inl (aN (fun _ => 0)))), (q_5, .inl (Y 0, 5, .inl (aN (fun _ => 0)))), (q_6, .inl (Y 0, 16, .inl (aN (fun _ => 0))))] := hD
  refine W.widen (k := 6) (n := 89) (by omega) (by omega) ?_
  refine va_putF (D := D) (ci := 8) (v := .ref q_6) (ty := .array .int) (C := RX8) (T := TX8) (N := 21) hx hb hts inlX8 tyX8 tyX8_ok nmX8 hown hK hP hD hS 0 rfl rfl 6 (by decide) (hts _ mw_88) (fun _ h9 => h9) rfl hnm rfl (by decide +kernel) rfl rfl (Nat.le_of_ble_eq_true rfl) dX8_init_48 (fun H locs hP hD hS => ?_)
  have hP : va_P D vwCl [(o, .inr (8, [.ref q_1, .ref q_2, .ref q_3, .ref q_4, .ref q_5, .int (nI 0), .ref q_6, .int (nI 0), .null, .int (nI 0), .int (nI 0), .int (nI 0), .int (nI 0), .int (nI 0), .null, .null, .null, .null, .null, .null, .null])), (q_1, .inl (Y 0, 24, .inl (aN (fun _ => 0)))), (q_2, .inl (Y 0, 24, .inl (aN (fun _ => 0)))), (q_3, .inl (Y 0, 10, .inl (aN (fun _ => 0)))), (q_4, .inl (Y 0, 10, .inl (aN (fun _ => 0)))), (q_5, .inl (Y 0, 5, .inl (aN (fun _ => 0)))), (q_6, .inl (Y 0, 16, .inl (aN (fun _ => 0))))] H := hP
  have hD : va_D A [(o, .inr (8, [.ref q_1, .ref q_2, .ref q_3, .ref q_4, .ref q_5, .int (nI 0), .ref q_6, .int (nI 0), .null, .int (nI 0), .int (nI 0), .int (nI 0), .int (nI 0), .int (nI 0), .null, .null, .null, .null, .null, .null, .null])), (q_1, .inl (Y 0, 24, .inl (aN (fun _ => 0)))), (q_2, .inl (Y 0, 24, .inl (aN (fun _ => 0)))), (q_3, .inl (Y 0, 10, .inl (aN (fun _ => 0)))), (q_4, .inl (Y 0, 10, .inl (aN (fun _ => 0)))), (q_5, .inl (Y 0, 5, .inl (aN (fun _ => 0)))), (q_6, .inl (Y 0, 16, .inl (aN (fun _ => 0))))] := hD
  refine lv_aload_n hx hb dX8_init_51 rfl (lv_at hl 0 rfl) ?_
  refine lv_bipush (v := nI 60) hx hb dX8_init_52 (by decide) ?_
  refine mv_newaI hx hb hts hK hP hD hS hA (n := 60) (by decide) (by decide) (Nat.le_of_ble_eq_true rfl) (Nat.le_of_ble_eq_true rfl) dX8_init_54 (fun q_7 H hP hD hS => ?_)
  have hP : va_P D vwCl [(o, .inr (8, [.ref q_1, .ref q_2, .ref q_3, .ref q_4, .ref q_5, .int (nI 0), .ref q_6, .int (nI 0), .null, .int (nI 0), .int (nI 0), .int (nI 0), .int (nI 0), .int (nI 0), .null, .null, .null, .null, .null, .null, .null])), (q_1, .inl (Y 0, 24, .inl (aN (fun _ => 0)))), (q_2, .inl (Y 0, 24, .inl (aN (fun _ => 0)))), (q_3, .inl (Y 0, 10, .inl (aN (fun _ => 0)))), (q_4, .inl (Y 0, 10, .inl (aN (fun _ => 0)))), (q_5, .inl (Y 0, 5, .inl (aN (fun _ => 0)))), (q_6, .inl (Y 0, 16, .inl (aN (fun _ => 0)))), (q_7, .inl (Y 0, 60, .inl (aN (fun _ => 0))))] H := hP
  have hD : va_D A [(o, .inr (8, [.ref q_1, .ref q_2, .ref q_3, .ref q_4, .ref q_5, .int (nI 0), .ref q_6, .int (nI 0), .null, .int (nI 0), .int (nI 0), .int (nI 0), .int (nI 0), .int (nI 0), .null, .null, .null, .null, .null, .null, .null])), (q_1, .inl (Y 0, 24, .inl (aN (fun _ => 0)))), (q_2, .inl (Y 0, 24, .inl (aN (fun _ => 0)))), (q_3, .inl (Y 0, 10, .inl (aN (fun _ => 0)))), (q_4, .inl (Y 0, 10, .inl (aN (fun _ => 0)))), (q_5, .inl (Y 0, 5, .inl (aN (fun _ => 0)))), (q_6, .inl (Y 0, 16, .inl (aN (fun _ => 0)))), (q_7, .inl (Y 0, 60, .inl (aN (fun _ => 0))))] := hD
  refine W.widen (k := 7) (n := 149) (by omega) (by omega) ?_
  refine va_putF (D := D) (ci := 8) (v := .ref q_7) (ty := .array .int) (C := RX8) (T := TX8) (N := 21) hx hb hts inlX8 tyX8 tyX8_ok nmX8 hown hK hP hD hS 0 rfl rfl 8 (by decide) (hts _ mw_89) (fun _ h9 => h9) rfl hnm rfl (by decide +kernel) rfl rfl (Nat.le_of_ble_eq_true rfl) dX8_init_56 (fun H locs hP hD hS => ?_)
  have hP : va_P D vwCl [(o, .inr (8, [.ref q_1, .ref q_2, .ref q_3, .ref q_4, .ref q_5, .int (nI 0), .ref q_6, .int (nI 0), .ref q_7, .int (nI 0), .int (nI 0), .int (nI 0), .int (nI 0), .int (nI 0), .null, .null, .null, .null, .null, .null, .null])), (q_1, .inl (Y 0, 24, .inl (aN (fun _ => 0)))), (q_2, .inl (Y 0, 24, .inl (aN (fun _ => 0)))), (q_3, .inl (Y 0, 10, .inl (aN (fun _ => 0)))), (q_4, .inl (Y 0, 10, .inl (aN (fun _ => 0)))), (q_5, .inl (Y 0, 5, .inl (aN (fun _ => 0)))), (q_6, .inl (Y 0, 16, .inl (aN (fun _ => 0)))), (q_7, .inl (Y 0, 60, .inl (aN (fun _ => 0))))] H := hP
  have hD : va_D A [(o, .inr (8, [.ref q_1, .ref q_2, .ref q_3, .ref q_4, .ref q_5, .int (nI 0), .ref q_6, .int (nI 0), .ref q_7, .int (nI 0), .int (nI 0), .int (nI 0), .int (nI 0), .int (nI 0), .null, .null, .null, .null, .null, .null, .null])), (q_1, .inl (Y 0, 24, .inl (aN (fun _ => 0)))), (q_2, .inl (Y 0, 24, .inl (aN (fun _ => 0)))), (q_3, .inl (Y 0, 10, .inl (aN (fun _ => 0)))), (q_4, .inl (Y 0, 10, .inl (aN (fun _ => 0)))), (q_5, .inl (Y 0, 5, .inl (aN (fun _ => 0)))), (q_6, .inl (Y 0, 16, .inl (aN (fun _ => 0)))), (q_7, .inl (Y 0, 60, .inl (aN (fun _ => 0))))] := hD
  refine lv_aload_n hx hb dX8_init_59 rfl (lv_at hl 0 rfl) ?_
  refine lv_bipush (v := nI 17) hx hb dX8_init_60 (by decide) ?_
  refine mv_newaI hx hb hts hK hP hD hS hA (n := 17) (by decide) (by decide) (Nat.le_of_ble_eq_true rfl) (Nat.le_of_ble_eq_true rfl) dX8_init_62 (fun q_8 H hP hD hS => ?_)
  have hP : va_P D vwCl [(o, .inr (8, [.ref q_1, .ref q_2, .ref q_3, .ref q_4, .ref q_5, .int (nI 0), .ref q_6, .int (nI 0), .ref q_7, .int (nI 0), .int (nI 0), .int (nI 0), .int (nI 0), .int (nI 0), .null, .null, .null, .null, .null, .null, .null])), (q_1, .inl (Y 0, 24, .inl (aN (fun _ => 0)))), (q_2, .inl (Y 0, 24, .inl (aN (fun _ => 0)))), (q_3, .inl (Y 0, 10, .inl (aN (fun _ => 0)))), (q_4, .inl (Y 0, 10, .inl (aN (fun _ => 0)))), (q_5, .inl (Y 0, 5, .inl (aN (fun _ => 0)))), (q_6, .inl (Y 0, 16, .inl (aN (fun _ => 0)))), (q_7, .inl (Y 0, 60, .inl (aN (fun _ => 0)))), (q_8, .inl (Y 0, 17, .inl (aN (fun _ => 0))))] H := hP
  have hD : va_D A [(o, .inr (8, [.ref q_1, .ref q_2, .ref q_3, .ref q_4, .ref q_5, .int (nI 0), .ref q_6, .int (nI 0), .ref q_7, .int (nI 0), .int (nI 0), .int (nI 0), .int (nI 0), .int (nI 0), .null, .null, .null, .null, .null, .null, .null])), (q_1, .inl (Y 0, 24, .inl (aN (fun _ => 0)))), (q_2, .inl (Y 0, 24, .inl (aN (fun _ => 0)))), (q_3, .inl (Y 0, 10, .inl (aN (fun _ => 0)))), (q_4, .inl (Y 0, 10, .inl (aN (fun _ => 0)))), (q_5, .inl (Y 0, 5, .inl (aN (fun _ => 0)))), (q_6, .inl (Y 0, 16, .inl (aN (fun _ => 0)))), (q_7, .inl (Y 0, 60, .inl (aN (fun _ => 0)))), (q_8, .inl (Y 0, 17, .inl (aN (fun _ => 0))))] := hD
  refine W.widen (k := 8) (n := 166) (by omega) (by omega) ?_
  refine va_putF (D := D) (ci := 8) (v := .ref q_8) (ty := .array .int) (C := RX8) (T := TX8) (N := 21) hx hb hts inlX8 tyX8 tyX8_ok nmX8 hown hK hP hD hS 0 rfl rfl 14 (by decide) (hts _ mw_90) (fun _ h9 => h9) rfl hnm rfl (by decide +kernel) rfl rfl (Nat.le_of_ble_eq_true rfl) dX8_init_64 (fun H locs hP hD hS => ?_)
  have hP : va_P D vwCl [(o, .inr (8, [.ref q_1, .ref q_2, .ref q_3, .ref q_4, .ref q_5, .int (nI 0), .ref q_6, .int (nI 0), .ref q_7, .int (nI 0), .int (nI 0), .int (nI 0), .int (nI 0), .int (nI 0), .ref q_8, .null, .null, .null, .null, .null, .null])), (q_1, .inl (Y 0, 24, .inl (aN (fun _ => 0)))), (q_2, .inl (Y 0, 24, .inl (aN (fun _ => 0)))), (q_3, .inl (Y 0, 10, .inl (aN (fun _ => 0)))), (q_4, .inl (Y 0, 10, .inl (aN (fun _ => 0)))), (q_5, .inl (Y 0, 5, .inl (aN (fun _ => 0)))), (q_6, .inl (Y 0, 16, .inl (aN (fun _ => 0)))), (q_7, .inl (Y 0, 60, .inl (aN (fun _ => 0)))), (q_8, .inl (Y 0, 17, .inl (aN (fun _ => 0))))] H := hP
  have hD : va_D A [(o, .inr (8, [.ref q_1, .ref q_2, .ref q_3, .ref q_4, .ref q_5, .int (nI 0), .ref q_6, .int (nI 0), .ref q_7, .int (nI 0), .int (nI 0), .int (nI 0), .int (nI 0), .int (nI 0), .ref q_8, .null, .null, .null, .null, .null, .null])), (q_1, .inl (Y 0, 24, .inl (aN (fun _ => 0)))), (q_2, .inl (Y 0, 24, .inl (aN (fun _ => 0)))), (q_3, .inl (Y 0, 10, .inl (aN (fun _ => 0)))), (q_4, .inl (Y 0, 10, .inl (aN (fun _ => 0)))), (q_5, .inl (Y 0, 5, .inl (aN (fun _ => 0)))), (q_6, .inl (Y 0, 16, .inl (aN (fun _ => 0)))), (q_7, .inl (Y 0, 60, .inl (aN (fun _ => 0)))), (q_8, .inl (Y 0, 17, .inl (aN (fun _ => 0))))] := hD
  refine lv_aload_n hx hb dX8_init_67 rfl (lv_at hl 0 rfl) ?_
  refine lv_bipush (v := nI 10) hx hb dX8_init_68 (by decide) ?_
  refine mv_newaI hx hb hts hK hP hD hS hA (n := 10) (by decide) (by decide) (Nat.le_of_ble_eq_true rfl) (Nat.le_of_ble_eq_true rfl) dX8_init_70 (fun q_9 H hP hD hS => ?_)
  have hP : va_P D vwCl [(o, .inr (8, [.ref q_1, .ref q_2, .ref q_3, .ref q_4, .ref q_5, .int (nI 0), .ref q_6, .int (nI 0), .ref q_7, .int (nI 0), .int (nI 0), .int (nI 0), .int (nI 0), .int (nI 0), .ref q_8, .null, .null, .null, .null, .null, .null])), (q_1, .inl (Y 0, 24, .inl (aN (fun _ => 0)))), (q_2, .inl (Y 0, 24, .inl (aN (fun _ => 0)))), (q_3, .inl (Y 0, 10, .inl (aN (fun _ => 0)))), (q_4, .inl (Y 0, 10, .inl (aN (fun _ => 0)))), (q_5, .inl (Y 0, 5, .inl (aN (fun _ => 0)))), (q_6, .inl (Y 0, 16, .inl (aN (fun _ => 0)))), (q_7, .inl (Y 0, 60, .inl (aN (fun _ => 0)))), (q_8, .inl (Y 0, 17, .inl (aN (fun _ => 0)))), (q_9, .inl (Y 0, 10, .inl (aN (fun _ => 0))))] H := hP
  have hD : va_D A [(o, .inr (8, [.ref q_1, .ref q_2, .ref q_3, .ref q_4, .ref q_5, .int (nI 0), .ref q_6, .int (nI 0), .ref q_7, .int (nI 0), .int (nI 0), .int (nI 0), .int (nI 0), .int (nI 0), .ref q_8, .null, .null, .null, .null, .null, .null])), (q_1, .inl (Y 0, 24, .inl (aN (fun _ => 0)))), (q_2, .inl (Y 0, 24, .inl (aN (fun _ => 0)))), (q_3, .inl (Y 0, 10, .inl (aN (fun _ => 0)))), (q_4, .inl (Y 0, 10, .inl (aN (fun _ => 0)))), (q_5, .inl (Y 0, 5, .inl (aN (fun _ => 0)))), (q_6, .inl (Y 0, 16, .inl (aN (fun _ => 0)))), (q_7, .inl (Y 0, 60, .inl (aN (fun _ => 0)))), (q_8, .inl (Y 0, 17, .inl (aN (fun _ => 0)))), (q_9, .inl (Y 0, 10, .inl (aN (fun _ => 0))))] := hD
  refine W.widen (k := 9) (n := 176) (by omega) (by omega) ?_
  refine va_putF (D := D) (ci := 8) (v := .ref q_9) (ty := .array .int) (C := RX8) (T := TX8) (N := 21) hx hb hts inlX8 tyX8 tyX8_ok nmX8 hown hK hP hD hS 0 rfl rfl 15 (by decide) (hts _ mw_91) (fun _ h9 => h9) rfl hnm rfl (by decide +kernel) rfl rfl (Nat.le_of_ble_eq_true rfl) dX8_init_72 (fun H locs hP hD hS => ?_)
  have hP : va_P D vwCl [(o, .inr (8, [.ref q_1, .ref q_2, .ref q_3, .ref q_4, .ref q_5, .int (nI 0), .ref q_6, .int (nI 0), .ref q_7, .int (nI 0), .int (nI 0), .int (nI 0), .int (nI 0), .int (nI 0), .ref q_8, .ref q_9, .null, .null, .null, .null, .null])), (q_1, .inl (Y 0, 24, .inl (aN (fun _ => 0)))), (q_2, .inl (Y 0, 24, .inl (aN (fun _ => 0)))), (q_3, .inl (Y 0, 10, .inl (aN (fun _ => 0)))), (q_4, .inl (Y 0, 10, .inl (aN (fun _ => 0)))), (q_5, .inl (Y 0, 5, .inl (aN (fun _ => 0)))), (q_6, .inl (Y 0, 16, .inl (aN (fun _ => 0)))), (q_7, .inl (Y 0, 60, .inl (aN (fun _ => 0)))), (q_8, .inl (Y 0, 17, .inl (aN (fun _ => 0)))), (q_9, .inl (Y 0, 10, .inl (aN (fun _ => 0))))] H := hP
  have hD : va_D A [(o, .inr (8, [.ref q_1, .ref q_2, .ref q_3, .ref q_4, .ref q_5, .int (nI 0), .ref q_6, .int (nI 0), .ref q_7, .int (nI 0), .int (nI 0), .int (nI 0), .int (nI 0), .int (nI 0), .ref q_8, .ref q_9, .null, .null, .null, .null, .null])), (q_1, .inl (Y 0, 24, .inl (aN (fun _ => 0)))), (q_2, .inl (Y 0, 24, .inl (aN (fun _ => 0)))), (q_3, .inl (Y 0, 10, .inl (aN (fun _ => 0)))), (q_4, .inl (Y 0, 10, .inl (aN (fun _ => 0)))), (q_5, .inl (Y 0, 5, .inl (aN (fun _ => 0)))), (q_6, .inl (Y 0, 16, .inl (aN (fun _ => 0)))), (q_7, .inl (Y 0, 60, .inl (aN (fun _ => 0)))), (q_8, .inl (Y 0, 17, .inl (aN (fun _ => 0)))), (q_9, .inl (Y 0, 10, .inl (aN (fun _ => 0))))] := hD
  refine lv_aload_n hx hb dX8_init_75 rfl (lv_at hl 0 rfl) ?_
  refine lv_bipush (v := nI 17) hx hb dX8_init_76 (by decide) ?_
  refine mv_newaI hx hb hts hK hP hD hS hA (n := 17) (by decide) (by decide) (Nat.le_of_ble_eq_true rfl) (Nat.le_of_ble_eq_true rfl) dX8_init_78 (fun q_10 H hP hD hS => ?_)
  have hP : va_P D vwCl [(o, .inr (8, [.ref q_1, .ref q_2, .ref q_3, .ref q_4, .ref q_5, .int (nI 0), .ref q_6, .int (nI 0), .ref q_7, .int (nI 0), .int (nI 0), .int (nI 0), .int (nI 0), .int (nI 0), .ref q_8, .ref q_9, .null, .null, .null, .null, .null])), (q_1, .inl (Y 0, 24, .inl (aN (fun _ => 0)))), (q_2, .inl (Y 0, 24, .inl (aN (fun _ => 0)))), (q_3, .inl (Y 0, 10, .inl (aN (fun _ => 0)))), (q_4, .inl (Y 0, 10, .inl (aN (fun _ => 0)))), (q_5, .inl (Y 0, 5, .inl (aN (fun _ => 0)))), (q_6, .inl (Y 0, 16, .inl (aN (fun _ => 0)))), (q_7, .inl (Y 0, 60, .inl (aN (fun _ => 0)))), (q_8, .inl (Y 0, 17, .inl (aN (fun _ => 0)))), (q_9, .inl (Y 0, 10, .inl (aN (fun _ => 0)))), (q_10, .inl (Y 0, 17, .inl (aN (fun _ => 0))))] H := hP
  have hD : va_D A [(o, .inr (8, [.ref q_1, .ref q_2, .ref q_3, .ref q_4, .ref q_5, .int (nI 0), .ref q_6, .int (nI 0), .ref q_7, .int (nI 0), .int (nI 0), .int (nI 0), .int (nI 0), .int (nI 0), .ref q_8, .ref q_9, .null, .null, .null, .null, .null])), (q_1, .inl (Y 0, 24, .inl (aN (fun _ => 0)))), (q_2, .inl (Y 0, 24, .inl (aN (fun _ => 0)))), (q_3, .inl (Y 0, 10, .inl (aN (fun _ => 0)))), (q_4, .inl (Y 0, 10, .inl (aN (fun _ => 0)))), (q_5, .inl (Y 0, 5, .inl (aN (fun _ => 0)))), (q_6, .inl (Y 0, 16, .inl (aN (fun _ => 0)))), (q_7, .inl (Y 0, 60, .inl (aN (fun _ => 0)))), (q_8, .inl (Y 0, 17, .inl (aN (fun _ => 0)))), (q_9, .inl (Y 0, 10, .inl (aN (fun _ => 0)))), (q_10, .inl (Y 0, 17, .inl (aN (fun _ => 0))))] := hD
  refine W.widen (k := 10) (n := 193) (by omega) (by omega) ?_
  refine va_putF (D := D) (ci := 8) (v := .ref q_10) (ty := .array .int) (C := RX8) (T := TX8) (N := 21) hx hb hts inlX8 tyX8 tyX8_ok nmX8 hown hK hP hD hS 0 rfl rfl 16 (by decide) (hts _ mw_92) (fun _ h9 => h9) rfl hnm rfl (by decide +kernel) rfl rfl (Nat.le_of_ble_eq_true rfl) dX8_init_80 (fun H locs hP hD hS => ?_)
  have hP : va_P D vwCl [(o, .inr (8, [.ref q_1, .ref q_2, .ref q_3, .ref q_4, .ref q_5, .int (nI 0), .ref q_6, .int (nI 0), .ref q_7, .int (nI 0), .int (nI 0), .int (nI 0), .int (nI 0), .int (nI 0), .ref q_8, .ref q_9, .ref q_10, .null, .null, .null, .null])), (q_1, .inl (Y 0, 24, .inl (aN (fun _ => 0)))), (q_2, .inl (Y 0, 24, .inl (aN (fun _ => 0)))), (q_3, .inl (Y 0, 10, .inl (aN (fun _ => 0)))), (q_4, .inl (Y 0, 10, .inl (aN (fun _ => 0)))), (q_5, .inl (Y 0, 5, .inl (aN (fun _ => 0)))), (q_6, .inl (Y 0, 16, .inl (aN (fun _ => 0)))), (q_7, .inl (Y 0, 60, .inl (aN (fun _ => 0)))), (q_8, .inl (Y 0, 17, .inl (aN (fun _ => 0)))), (q_9, .inl (Y 0, 10, .inl (aN (fun _ => 0)))), (q_10, .inl (Y 0, 17, .inl (aN (fun _ => 0))))] H := hP
  have hD : va_D A [(o, .inr (8, [.ref q_1, .ref q_2, .ref q_3, .ref q_4, .ref q_5, .int (nI 0), .ref q_6, .int (nI 0), .ref q_7, .int (nI 0), .int (nI 0), .int (nI 0), .int (nI 0), .int (nI 0), .ref q_8, .ref q_9, .ref q_10, .null, .null, .null, .null])), (q_1, .inl (Y 0, 24, .inl (aN (fun _ => 0)))), (q_2, .inl (Y 0, 24, .inl (aN (fun _ => 0)))), (q_3, .inl (Y 0, 10, .inl (aN (fun _ => 0)))), (q_4, .inl (Y 0, 10, .inl (aN (fun _ => 0)))), (q_5, .inl (Y 0, 5, .inl (aN (fun _ => 0)))), (q_6, .inl (Y 0, 16, .inl (aN (fun _ => 0)))), (q_7, .inl (Y 0, 60, .inl (aN (fun _ => 0)))), (q_8, .inl (Y 0, 17, .inl (aN (fun _ => 0)))), (q_9, .inl (Y 0, 10, .inl (aN (fun _ => 0)))), (q_10, .inl (Y 0, 17, .inl (aN (fun _ => 0))))] := hD
  refine lv_aload_n hx hb dX8_init_83 rfl (lv_at hl 0 rfl) ?_
  refine lv_bipush (v := nI 40) hx hb dX8_init_84 (by decide) ?_
  refine mv_newaZ hx hb hts hK hP hD hS hA (n := 40) (by decide) (by decide) (Nat.le_of_ble_eq_true rfl) (Nat.le_of_ble_eq_true rfl) dX8_init_86 (fun q_11 H hP hD hS => ?_)
  have hP : va_P D vwCl [(o, .inr (8, [.ref q_1, .ref q_2, .ref q_3, .ref q_4, .ref q_5, .int (nI 0), .ref q_6, .int (nI 0), .ref q_7, .int (nI 0), .int (nI 0), .int (nI 0), .int (nI 0), .int (nI 0), .ref q_8, .ref q_9, .ref q_10, .null, .null, .null, .null])), (q_1, .inl (Y 0, 24, .inl (aN (fun _ => 0)))), (q_2, .inl (Y 0, 24, .inl (aN (fun _ => 0)))), (q_3, .inl (Y 0, 10, .inl (aN (fun _ => 0)))), (q_4, .inl (Y 0, 10, .inl (aN (fun _ => 0)))), (q_5, .inl (Y 0, 5, .inl (aN (fun _ => 0)))), (q_6, .inl (Y 0, 16, .inl (aN (fun _ => 0)))), (q_7, .inl (Y 0, 60, .inl (aN (fun _ => 0)))), (q_8, .inl (Y 0, 17, .inl (aN (fun _ => 0)))), (q_9, .inl (Y 0, 10, .inl (aN (fun _ => 0)))), (q_10, .inl (Y 0, 17, .inl (aN (fun _ => 0)))), (q_11, .inl (Y 2, 40, .inl (aN (fun _ => 0))))] H := hP
  have hD : va_D A [(o, .inr (8, [.ref q_1, .ref q_2, .ref q_3, .ref q_4, .ref q_5, .int (nI 0), .ref q_6, .int (nI 0), .ref q_7, .int (nI 0), .int (nI 0), .int (nI 0), .int (nI 0), .int (nI 0), .ref q_8, .ref q_9, .ref q_10, .null, .null, .null, .null])), (q_1, .inl (Y 0, 24, .inl (aN (fun _ => 0)))), (q_2, .inl (Y 0, 24, .inl (aN (fun _ => 0)))), (q_3, .inl (Y 0, 10, .inl (aN (fun _ => 0)))), (q_4, .inl (Y 0, 10, .inl (aN (fun _ => 0)))), (q_5, .inl (Y 0, 5, .inl (aN (fun _ => 0)))), (q_6, .inl (Y 0, 16, .inl (aN (fun _ => 0)))), (q_7, .inl (Y 0, 60, .inl (aN (fun _ => 0)))), (q_8, .inl (Y 0, 17, .inl (aN (fun _ => 0)))), (q_9, .inl (Y 0, 10, .inl (aN (fun _ => 0)))), (q_10, .inl (Y 0, 17, .inl (aN (fun _ => 0)))), (q_11, .inl (Y 2, 40, .inl (aN (fun _ => 0))))] := hD
  refine W.widen (k := 11) (n := 233) (by omega) (by omega) ?_
  refine va_putF (D := D) (ci := 8) (v := .ref q_11) (ty := .array .boolean) (C := RX8) (T := TX8) (N := 21) hx hb hts inlX8 tyX8 tyX8_ok nmX8 hown hK hP hD hS 0 rfl rfl 17 (by decide) (hts _ mw_94) (fun _ h9 => h9) rfl hnm rfl (by decide +kernel) rfl rfl (Nat.le_of_ble_eq_true rfl) dX8_init_88 (fun H locs hP hD hS => ?_)
  have hP : va_P D vwCl [(o, .inr (8, [.ref q_1, .ref q_2, .ref q_3, .ref q_4, .ref q_5, .int (nI 0), .ref q_6, .int (nI 0), .ref q_7, .int (nI 0), .int (nI 0), .int (nI 0), .int (nI 0), .int (nI 0), .ref q_8, .ref q_9, .ref q_10, .ref q_11, .null, .null, .null])), (q_1, .inl (Y 0, 24, .inl (aN (fun _ => 0)))), (q_2, .inl (Y 0, 24, .inl (aN (fun _ => 0)))), (q_3, .inl (Y 0, 10, .inl (aN (fun _ => 0)))), (q_4, .inl (Y 0, 10, .inl (aN (fun _ => 0)))), (q_5, .inl (Y 0, 5, .inl (aN (fun _ => 0)))), (q_6, .inl (Y 0, 16, .inl (aN (fun _ => 0)))), (q_7, .inl (Y 0, 60, .inl (aN (fun _ => 0)))), (q_8, .inl (Y 0, 17, .inl (aN (fun _ => 0)))), (q_9, .inl (Y 0, 10, .inl (aN (fun _ => 0)))), (q_10, .inl (Y 0, 17, .inl (aN (fun _ => 0)))), (q_11, .inl (Y 2, 40, .inl (aN (fun _ => 0))))] H := hP
  have hD : va_D A [(o, .inr (8, [.ref q_1, .ref q_2, .ref q_3, .ref q_4, .ref q_5, .int (nI 0), .ref q_6, .int (nI 0), .ref q_7, .int (nI 0), .int (nI 0), .int (nI 0), .int (nI 0), .int (nI 0), .ref q_8, .ref q_9, .ref q_10, .ref q_11, .null, .null, .null])), (q_1, .inl (Y 0, 24, .inl (aN (fun _ => 0)))), (q_2, .inl (Y 0, 24, .inl (aN (fun _ => 0)))), (q_3, .inl (Y 0, 10, .inl (aN (fun _ => 0)))), (q_4, .inl (Y 0, 10, .inl (aN (fun _ => 0)))), (q_5, .inl (Y 0, 5, .inl (aN (fun _ => 0)))), (q_6, .inl (Y 0, 16, .inl (aN (fun _ => 0)))), (q_7, .inl (Y 0, 60, .inl (aN (fun _ => 0)))), (q_8, .inl (Y 0, 17, .inl (aN (fun _ => 0)))), (q_9, .inl (Y 0, 10, .inl (aN (fun _ => 0)))), (q_10, .inl (Y 0, 17, .inl (aN (fun _ => 0)))), (q_11, .inl (Y 2, 40, .inl (aN (fun _ => 0))))] := hD
  refine lv_aload_n hx hb dX8_init_91 rfl (lv_at hl 0 rfl) ?_
  refine lv_bipush (v := nI 17) hx hb dX8_init_92 (by decide) ?_
  refine mv_newaJ hx hb hts hK hP hD hS hA (n := 17) (by decide) (by decide) (Nat.le_of_ble_eq_true rfl) (Nat.le_of_ble_eq_true rfl) dX8_init_94 (fun q_12 H hP hD hS => ?_)
  have hP : va_P D vwCl [(o, .inr (8, [.ref q_1, .ref q_2, .ref q_3, .ref q_4, .ref q_5, .int (nI 0), .ref q_6, .int (nI 0), .ref q_7, .int (nI 0), .int (nI 0), .int (nI 0), .int (nI 0), .int (nI 0), .ref q_8, .ref q_9, .ref q_10, .ref q_11, .null, .null, .null])), (q_1, .inl (Y 0, 24, .inl (aN (fun _ => 0)))), (q_2, .inl (Y 0, 24, .inl (aN (fun _ => 0)))), (q_3, .inl (Y 0, 10, .inl (aN (fun _ => 0)))), (q_4, .inl (Y 0, 10, .inl (aN (fun _ => 0)))), (q_5, .inl (Y 0, 5, .inl (aN (fun _ => 0)))), (q_6, .inl (Y 0, 16, .inl (aN (fun _ => 0)))), (q_7, .inl (Y 0, 60, .inl (aN (fun _ => 0)))), (q_8, .inl (Y 0, 17, .inl (aN (fun _ => 0)))), (q_9, .inl (Y 0, 10, .inl (aN (fun _ => 0)))), (q_10, .inl (Y 0, 17, .inl (aN (fun _ => 0)))), (q_11, .inl (Y 2, 40, .inl (aN (fun _ => 0)))), (q_12, .inl (Y 1, 17, .inr (.inl (aL (fun _ => 0)))))] H := hP
  have hD : va_D A [(o, .inr (8, [.ref q_1, .ref q_2, .ref q_3, .ref q_4, .ref q_5, .int (nI 0), .ref q_6, .int (nI 0), .ref q_7, .int (nI 0), .int (nI 0), .int (nI 0), .int (nI 0), .int (nI 0), .ref q_8, .ref q_9, .ref q_10, .ref q_11, .null, .null, .null])), (q_1, .inl (Y 0, 24, .inl (aN (fun _ => 0)))), (q_2, .inl (Y 0, 24, .inl (aN (fun _ => 0)))), (q_3, .inl (Y 0, 10, .inl (aN (fun _ => 0)))), (q_4, .inl (Y 0, 10, .inl (aN (fun _ => 0)))), (q_5, .inl (Y 0, 5, .inl (aN (fun _ => 0)))), (q_6, .inl (Y 0, 16, .inl (aN (fun _ => 0)))), (q_7, .inl (Y 0, 60, .inl (aN (fun _ => 0)))), (q_8, .inl (Y 0, 17, .inl (aN (fun _ => 0)))), (q_9, .inl (Y 0, 10, .inl (aN (fun _ => 0)))), (q_10, .inl (Y 0, 17, .inl (aN (fun _ => 0)))), (q_11, .inl (Y 2, 40, .inl (aN (fun _ => 0)))), (q_12, .inl (Y 1, 17, .inr (.inl (aL (fun _ => 0)))))] := hD
  refine W.widen (k := 12) (n := 250) (by omega) (by omega) ?_
  refine va_putF (D := D) (ci := 8) (v := .ref q_12) (ty := .array .long) (C := RX8) (T := TX8) (N := 21) hx hb hts inlX8 tyX8 tyX8_ok nmX8 hown hK hP hD hS 0 rfl rfl 18 (by decide) (hts _ mw_95) (fun _ h9 => h9) rfl hnm rfl (by decide +kernel) rfl rfl (Nat.le_of_ble_eq_true rfl) dX8_init_96 (fun H locs hP hD hS => ?_)
  have hP : va_P D vwCl [(o, .inr (8, [.ref q_1, .ref q_2, .ref q_3, .ref q_4, .ref q_5, .int (nI 0), .ref q_6, .int (nI 0), .ref q_7, .int (nI 0), .int (nI 0), .int (nI 0), .int (nI 0), .int (nI 0), .ref q_8, .ref q_9, .ref q_10, .ref q_11, .ref q_12, .null, .null])), (q_1, .inl (Y 0, 24, .inl (aN (fun _ => 0)))), (q_2, .inl (Y 0, 24, .inl (aN (fun _ => 0)))), (q_3, .inl (Y 0, 10, .inl (aN (fun _ => 0)))), (q_4, .inl (Y 0, 10, .inl (aN (fun _ => 0)))), (q_5, .inl (Y 0, 5, .inl (aN (fun _ => 0)))), (q_6, .inl (Y 0, 16, .inl (aN (fun _ => 0)))), (q_7, .inl (Y 0, 60, .inl (aN (fun _ => 0)))), (q_8, .inl (Y 0, 17, .inl (aN (fun _ => 0)))), (q_9, .inl (Y 0, 10, .inl (aN (fun _ => 0)))), (q_10, .inl (Y 0, 17, .inl (aN (fun _ => 0)))), (q_11, .inl (Y 2, 40, .inl (aN (fun _ => 0)))), (q_12, .inl (Y 1, 17, .inr (.inl (aL (fun _ => 0)))))] H := hP
  have hD : va_D A [(o, .inr (8, [.ref q_1, .ref q_2, .ref q_3, .ref q_4, .ref q_5, .int (nI 0), .ref q_6, .int (nI 0), .ref q_7, .int (nI 0), .int (nI 0), .int (nI 0), .int (nI 0), .int (nI 0), .ref q_8, .ref q_9, .ref q_10, .ref q_11, .ref q_12, .null, .null])), (q_1, .inl (Y 0, 24, .inl (aN (fun _ => 0)))), (q_2, .inl (Y 0, 24, .inl (aN (fun _ => 0)))), (q_3, .inl (Y 0, 10, .inl (aN (fun _ => 0)))), (q_4, .inl (Y 0, 10, .inl (aN (fun _ => 0)))), (q_5, .inl (Y 0, 5, .inl (aN (fun _ => 0)))), (q_6, .inl (Y 0, 16, .inl (aN (fun _ => 0)))), (q_7, .inl (Y 0, 60, .inl (aN (fun _ => 0)))), (q_8, .inl (Y 0, 17, .inl (aN (fun _ => 0)))), (q_9, .inl (Y 0, 10, .inl (aN (fun _ => 0)))), (q_10, .inl (Y 0, 17, .inl (aN (fun _ => 0)))), (q_11, .inl (Y 2, 40, .inl (aN (fun _ => 0)))), (q_12, .inl (Y 1, 17, .inr (.inl (aL (fun _ => 0)))))] := hD
  refine lv_aload_n hx hb dX8_init_99 rfl (lv_at hl 0 rfl) ?_
  refine lv_sipush (v := nI 160) hx hb dX8_init_100 (by decide) ?_
  refine mv_newaI hx hb hts hK hP hD hS hA (n := 160) (by decide) (by decide) (Nat.le_of_ble_eq_true rfl) (Nat.le_of_ble_eq_true rfl) dX8_init_103 (fun q_13 H hP hD hS => ?_)
  have hP : va_P D vwCl [(o, .inr (8, [.ref q_1, .ref q_2, .ref q_3, .ref q_4, .ref q_5, .int (nI 0), .ref q_6, .int (nI 0), .ref q_7, .int (nI 0), .int (nI 0), .int (nI 0), .int (nI 0), .int (nI 0), .ref q_8, .ref q_9, .ref q_10, .ref q_11, .ref q_12, .null, .null])), (q_1, .inl (Y 0, 24, .inl (aN (fun _ => 0)))), (q_2, .inl (Y 0, 24, .inl (aN (fun _ => 0)))), (q_3, .inl (Y 0, 10, .inl (aN (fun _ => 0)))), (q_4, .inl (Y 0, 10, .inl (aN (fun _ => 0)))), (q_5, .inl (Y 0, 5, .inl (aN (fun _ => 0)))), (q_6, .inl (Y 0, 16, .inl (aN (fun _ => 0)))), (q_7, .inl (Y 0, 60, .inl (aN (fun _ => 0)))), (q_8, .inl (Y 0, 17, .inl (aN (fun _ => 0)))), (q_9, .inl (Y 0, 10, .inl (aN (fun _ => 0)))), (q_10, .inl (Y 0, 17, .inl (aN (fun _ => 0)))), (q_11, .inl (Y 2, 40, .inl (aN (fun _ => 0)))), (q_12, .inl (Y 1, 17, .inr (.inl (aL (fun _ => 0))))), (q_13, .inl (Y 0, 160, .inl (aN (fun _ => 0))))] H := hP
  have hD : va_D A [(o, .inr (8, [.ref q_1, .ref q_2, .ref q_3, .ref q_4, .ref q_5, .int (nI 0), .ref q_6, .int (nI 0), .ref q_7, .int (nI 0), .int (nI 0), .int (nI 0), .int (nI 0), .int (nI 0), .ref q_8, .ref q_9, .ref q_10, .ref q_11, .ref q_12, .null, .null])), (q_1, .inl (Y 0, 24, .inl (aN (fun _ => 0)))), (q_2, .inl (Y 0, 24, .inl (aN (fun _ => 0)))), (q_3, .inl (Y 0, 10, .inl (aN (fun _ => 0)))), (q_4, .inl (Y 0, 10, .inl (aN (fun _ => 0)))), (q_5, .inl (Y 0, 5, .inl (aN (fun _ => 0)))), (q_6, .inl (Y 0, 16, .inl (aN (fun _ => 0)))), (q_7, .inl (Y 0, 60, .inl (aN (fun _ => 0)))), (q_8, .inl (Y 0, 17, .inl (aN (fun _ => 0)))), (q_9, .inl (Y 0, 10, .inl (aN (fun _ => 0)))), (q_10, .inl (Y 0, 17, .inl (aN (fun _ => 0)))), (q_11, .inl (Y 2, 40, .inl (aN (fun _ => 0)))), (q_12, .inl (Y 1, 17, .inr (.inl (aL (fun _ => 0))))), (q_13, .inl (Y 0, 160, .inl (aN (fun _ => 0))))] := hD
  refine W.widen (k := 13) (n := 410) (by omega) (by omega) ?_
  refine va_putF (D := D) (ci := 8) (v := .ref q_13) (ty := .array .int) (C := RX8) (T := TX8) (N := 21) hx hb hts inlX8 tyX8 tyX8_ok nmX8 hown hK hP hD hS 0 rfl rfl 19 (by decide) (hts _ mw_96) (fun _ h9 => h9) rfl hnm rfl (by decide +kernel) rfl rfl (Nat.le_of_ble_eq_true rfl) dX8_init_105 (fun H locs hP hD hS => ?_)
  have hP : va_P D vwCl [(o, .inr (8, [.ref q_1, .ref q_2, .ref q_3, .ref q_4, .ref q_5, .int (nI 0), .ref q_6, .int (nI 0), .ref q_7, .int (nI 0), .int (nI 0), .int (nI 0), .int (nI 0), .int (nI 0), .ref q_8, .ref q_9, .ref q_10, .ref q_11, .ref q_12, .ref q_13, .null])), (q_1, .inl (Y 0, 24, .inl (aN (fun _ => 0)))), (q_2, .inl (Y 0, 24, .inl (aN (fun _ => 0)))), (q_3, .inl (Y 0, 10, .inl (aN (fun _ => 0)))), (q_4, .inl (Y 0, 10, .inl (aN (fun _ => 0)))), (q_5, .inl (Y 0, 5, .inl (aN (fun _ => 0)))), (q_6, .inl (Y 0, 16, .inl (aN (fun _ => 0)))), (q_7, .inl (Y 0, 60, .inl (aN (fun _ => 0)))), (q_8, .inl (Y 0, 17, .inl (aN (fun _ => 0)))), (q_9, .inl (Y 0, 10, .inl (aN (fun _ => 0)))), (q_10, .inl (Y 0, 17, .inl (aN (fun _ => 0)))), (q_11, .inl (Y 2, 40, .inl (aN (fun _ => 0)))), (q_12, .inl (Y 1, 17, .inr (.inl (aL (fun _ => 0))))), (q_13, .inl (Y 0, 160, .inl (aN (fun _ => 0))))] H := hP
  have hD : va_D A [(o, .inr (8, [.ref q_1, .ref q_2, .ref q_3, .ref q_4, .ref q_5, .int (nI 0), .ref q_6, .int (nI 0), .ref q_7, .int (nI 0), .int (nI 0), .int (nI 0), .int (nI 0), .int (nI 0), .ref q_8, .ref q_9, .ref q_10, .ref q_11, .ref q_12, .ref q_13, .null])), (q_1, .inl (Y 0, 24, .inl (aN (fun _ => 0)))), (q_2, .inl (Y 0, 24, .inl (aN (fun _ => 0)))), (q_3, .inl (Y 0, 10, .inl (aN (fun _ => 0)))), (q_4, .inl (Y 0, 10, .inl (aN (fun _ => 0)))), (q_5, .inl (Y 0, 5, .inl (aN (fun _ => 0)))), (q_6, .inl (Y 0, 16, .inl (aN (fun _ => 0)))), (q_7, .inl (Y 0, 60, .inl (aN (fun _ => 0)))), (q_8, .inl (Y 0, 17, .inl (aN (fun _ => 0)))), (q_9, .inl (Y 0, 10, .inl (aN (fun _ => 0)))), (q_10, .inl (Y 0, 17, .inl (aN (fun _ => 0)))), (q_11, .inl (Y 2, 40, .inl (aN (fun _ => 0)))), (q_12, .inl (Y 1, 17, .inr (.inl (aL (fun _ => 0))))), (q_13, .inl (Y 0, 160, .inl (aN (fun _ => 0))))] := hD
  refine lv_aload_n hx hb dX8_init_108 rfl (lv_at hl 0 rfl) ?_
  refine lv_iconst (v := nI 2) hx hb dX8_init_109 (by decide) ?_
  refine mv_newaZ hx hb hts hK hP hD hS hA (n := 2) (by decide) (by decide) (Nat.le_of_ble_eq_true rfl) (Nat.le_of_ble_eq_true rfl) dX8_init_110 (fun q_14 H hP hD hS => ?_)
  have hP : va_P D vwCl [(o, .inr (8, [.ref q_1, .ref q_2, .ref q_3, .ref q_4, .ref q_5, .int (nI 0), .ref q_6, .int (nI 0), .ref q_7, .int (nI 0), .int (nI 0), .int (nI 0), .int (nI 0), .int (nI 0), .ref q_8, .ref q_9, .ref q_10, .ref q_11, .ref q_12, .ref q_13, .null])), (q_1, .inl (Y 0, 24, .inl (aN (fun _ => 0)))), (q_2, .inl (Y 0, 24, .inl (aN (fun _ => 0)))), (q_3, .inl (Y 0, 10, .inl (aN (fun _ => 0)))), (q_4, .inl (Y 0, 10, .inl (aN (fun _ => 0)))), (q_5, .inl (Y 0, 5, .inl (aN (fun _ => 0)))), (q_6, .inl (Y 0, 16, .inl (aN (fun _ => 0)))), (q_7, .inl (Y 0, 60, .inl (aN (fun _ => 0)))), (q_8, .inl (Y 0, 17, .inl (aN (fun _ => 0)))), (q_9, .inl (Y 0, 10, .inl (aN (fun _ => 0)))), (q_10, .inl (Y 0, 17, .inl (aN (fun _ => 0)))), (q_11, .inl (Y 2, 40, .inl (aN (fun _ => 0)))), (q_12, .inl (Y 1, 17, .inr (.inl (aL (fun _ => 0))))), (q_13, .inl (Y 0, 160, .inl (aN (fun _ => 0)))), (q_14, .inl (Y 2, 2, .inl (aN (fun _ => 0))))] H := hP
  have hD : va_D A [(o, .inr (8, [.ref q_1, .ref q_2, .ref q_3, .ref q_4, .ref q_5, .int (nI 0), .ref q_6, .int (nI 0), .ref q_7, .int (nI 0), .int (nI 0), .int (nI 0), .int (nI 0), .int (nI 0), .ref q_8, .ref q_9, .ref q_10, .ref q_11, .ref q_12, .ref q_13, .null])), (q_1, .inl (Y 0, 24, .inl (aN (fun _ => 0)))), (q_2, .inl (Y 0, 24, .inl (aN (fun _ => 0)))), (q_3, .inl (Y 0, 10, .inl (aN (fun _ => 0)))), (q_4, .inl (Y 0, 10, .inl (aN (fun _ => 0)))), (q_5, .inl (Y 0, 5, .inl (aN (fun _ => 0)))), (q_6, .inl (Y 0, 16, .inl (aN (fun _ => 0)))), (q_7, .inl (Y 0, 60, .inl (aN (fun _ => 0)))), (q_8, .inl (Y 0, 17, .inl (aN (fun _ => 0)))), (q_9, .inl (Y 0, 10, .inl (aN (fun _ => 0)))), (q_10, .inl (Y 0, 17, .inl (aN (fun _ => 0)))), (q_11, .inl (Y 2, 40, .inl (aN (fun _ => 0)))), (q_12, .inl (Y 1, 17, .inr (.inl (aL (fun _ => 0))))), (q_13, .inl (Y 0, 160, .inl (aN (fun _ => 0)))), (q_14, .inl (Y 2, 2, .inl (aN (fun _ => 0))))] := hD
  refine W.widen (k := 14) (n := 412) (by omega) (by omega) ?_
  refine va_putF (D := D) (ci := 8) (v := .ref q_14) (ty := .array .boolean) (C := RX8) (T := TX8) (N := 21) hx hb hts inlX8 tyX8 tyX8_ok nmX8 hown hK hP hD hS 0 rfl rfl 20 (by decide) (hts _ mw_97) (fun _ h9 => h9) rfl hnm rfl (by decide +kernel) rfl rfl (Nat.le_of_ble_eq_true rfl) dX8_init_112 (fun H locs hP hD hS => ?_)
  have hP : va_P D vwCl [(o, .inr (8, [.ref q_1, .ref q_2, .ref q_3, .ref q_4, .ref q_5, .int (nI 0), .ref q_6, .int (nI 0), .ref q_7, .int (nI 0), .int (nI 0), .int (nI 0), .int (nI 0), .int (nI 0), .ref q_8, .ref q_9, .ref q_10, .ref q_11, .ref q_12, .ref q_13, .ref q_14])), (q_1, .inl (Y 0, 24, .inl (aN (fun _ => 0)))), (q_2, .inl (Y 0, 24, .inl (aN (fun _ => 0)))), (q_3, .inl (Y 0, 10, .inl (aN (fun _ => 0)))), (q_4, .inl (Y 0, 10, .inl (aN (fun _ => 0)))), (q_5, .inl (Y 0, 5, .inl (aN (fun _ => 0)))), (q_6, .inl (Y 0, 16, .inl (aN (fun _ => 0)))), (q_7, .inl (Y 0, 60, .inl (aN (fun _ => 0)))), (q_8, .inl (Y 0, 17, .inl (aN (fun _ => 0)))), (q_9, .inl (Y 0, 10, .inl (aN (fun _ => 0)))), (q_10, .inl (Y 0, 17, .inl (aN (fun _ => 0)))), (q_11, .inl (Y 2, 40, .inl (aN (fun _ => 0)))), (q_12, .inl (Y 1, 17, .inr (.inl (aL (fun _ => 0))))), (q_13, .inl (Y 0, 160, .inl (aN (fun _ => 0)))), (q_14, .inl (Y 2, 2, .inl (aN (fun _ => 0))))] H := hP
  have hD : va_D A [(o, .inr (8, [.ref q_1, .ref q_2, .ref q_3, .ref q_4, .ref q_5, .int (nI 0), .ref q_6, .int (nI 0), .ref q_7, .int (nI 0), .int (nI 0), .int (nI 0), .int (nI 0), .int (nI 0), .ref q_8, .ref q_9, .ref q_10, .ref q_11, .ref q_12, .ref q_13, .ref q_14])), (q_1, .inl (Y 0, 24, .inl (aN (fun _ => 0)))), (q_2, .inl (Y 0, 24, .inl (aN (fun _ => 0)))), (q_3, .inl (Y 0, 10, .inl (aN (fun _ => 0)))), (q_4, .inl (Y 0, 10, .inl (aN (fun _ => 0)))), (q_5, .inl (Y 0, 5, .inl (aN (fun _ => 0)))), (q_6, .inl (Y 0, 16, .inl (aN (fun _ => 0)))), (q_7, .inl (Y 0, 60, .inl (aN (fun _ => 0)))), (q_8, .inl (Y 0, 17, .inl (aN (fun _ => 0)))), (q_9, .inl (Y 0, 10, .inl (aN (fun _ => 0)))), (q_10, .inl (Y 0, 17, .inl (aN (fun _ => 0)))), (q_11, .inl (Y 2, 40, .inl (aN (fun _ => 0)))), (q_12, .inl (Y 1, 17, .inr (.inl (aL (fun _ => 0))))), (q_13, .inl (Y 0, 160, .inl (aN (fun _ => 0)))), (q_14, .inl (Y 2, 2, .inl (aN (fun _ => 0))))] := hD
  refine lv_aload_n hx hb dX8_init_115 rfl (lv_at hl 0 rfl) ?_
  refine lv_iconst (v := nI 0) hx hb dX8_init_116 (by decide) ?_
  refine va_put (D := D) (ci := 8) (v := .int (nI 0)) (ty := .int) (C := RX8) (T := TX8) (N := 21) hx hb hts inlX8 tyX8 tyX8_ok nmX8 hown hK hP hD hS 0 rfl rfl 5 (by decide) (hts _ mw_98) (fun _ h9 => h9) rfl (by decide +kernel) rfl rfl (Nat.le_of_ble_eq_true rfl) dX8_init_117 (fun H locs hP hD hS => ?_)
  have hP : va_P D vwCl [(o, .inr (8, [.ref q_1, .ref q_2, .ref q_3, .ref q_4, .ref q_5, .int (nI 0), .ref q_6, .int (nI 0), .ref q_7, .int (nI 0), .int (nI 0), .int (nI 0), .int (nI 0), .int (nI 0), .ref q_8, .ref q_9, .ref q_10, .ref q_11, .ref q_12, .ref q_13, .ref q_14])), (q_1, .inl (Y 0, 24, .inl (aN (fun _ => 0)))), (q_2, .inl (Y 0, 24, .inl (aN (fun _ => 0)))), (q_3, .inl (Y 0, 10, .inl (aN (fun _ => 0)))), (q_4, .inl (Y 0, 10, .inl (aN (fun _ => 0)))), (q_5, .inl (Y 0, 5, .inl (aN (fun _ => 0)))), (q_6, .inl (Y 0, 16, .inl (aN (fun _ => 0)))), (q_7, .inl (Y 0, 60, .inl (aN (fun _ => 0)))), (q_8, .inl (Y 0, 17, .inl (aN (fun _ => 0)))), (q_9, .inl (Y 0, 10, .inl (aN (fun _ => 0)))), (q_10, .inl (Y 0, 17, .inl (aN (fun _ => 0)))), (q_11, .inl (Y 2, 40, .inl (aN (fun _ => 0)))), (q_12, .inl (Y 1, 17, .inr (.inl (aL (fun _ => 0))))), (q_13, .inl (Y 0, 160, .inl (aN (fun _ => 0)))), (q_14, .inl (Y 2, 2, .inl (aN (fun _ => 0))))] H := hP
  have hD : va_D A [(o, .inr (8, [.ref q_1, .ref q_2, .ref q_3, .ref q_4, .ref q_5, .int (nI 0), .ref q_6, .int (nI 0), .ref q_7, .int (nI 0), .int (nI 0), .int (nI 0), .int (nI 0), .int (nI 0), .ref q_8, .ref q_9, .ref q_10, .ref q_11, .ref q_12, .ref q_13, .ref q_14])), (q_1, .inl (Y 0, 24, .inl (aN (fun _ => 0)))), (q_2, .inl (Y 0, 24, .inl (aN (fun _ => 0)))), (q_3, .inl (Y 0, 10, .inl (aN (fun _ => 0)))), (q_4, .inl (Y 0, 10, .inl (aN (fun _ => 0)))), (q_5, .inl (Y 0, 5, .inl (aN (fun _ => 0)))), (q_6, .inl (Y 0, 16, .inl (aN (fun _ => 0)))), (q_7, .inl (Y 0, 60, .inl (aN (fun _ => 0)))), (q_8, .inl (Y 0, 17, .inl (aN (fun _ => 0)))), (q_9, .inl (Y 0, 10, .inl (aN (fun _ => 0)))), (q_10, .inl (Y 0, 17, .inl (aN (fun _ => 0)))), (q_11, .inl (Y 2, 40, .inl (aN (fun _ => 0)))), (q_12, .inl (Y 1, 17, .inr (.inl (aL (fun _ => 0))))), (q_13, .inl (Y 0, 160, .inl (aN (fun _ => 0)))), (q_14, .inl (Y 2, 2, .inl (aN (fun _ => 0))))] := hD
  exact mv_vret hx hb hr hlocks (q_1, q_2, q_3, q_4, q_5, q_6, q_7, q_8, q_9, q_10, q_11, q_12, q_13, q_14) (trivial) hP hK hD hS dX8_init_120
abbrev q_X8_in (D : va_G) (Y : Nat → ClassId) (v : Nat) (a : Nat) (b : Nat) : (Nat → Prop) → Array Value → State → Outcome → State → Prop := mv_Qi D Y (fun (r : Int32) (_ : Unit) => r = nI (bN (decide (a ≤ v ∧ v ≤ b)))) (fun _ : Unit => ([] : va_W))
set_option maxHeartbeats 4000000 in
set_option maxRecDepth 100000 in
theorem c_X8_in (l : Launch) (D : va_G) (Y : Nat → ClassId) (sz : Nat) (v : Nat) (a : Nat) (b : Nat) (hv : v < 2 ^ 31) (ha : a < 2 ^ 31) (hb2 : b < 2 ^ 31) : mv_C l D Y yX8_in cX8_in 3 (some .boolean) 0 0 0 [.int (nI v), .int (nI a), .int (nI b)] sz [] (q_X8_in D Y v a b) := by
  refine mv_ofW (by decide) (Nat.le_of_ble_eq_true rfl) ?_
  intro p e s m below meth c ls A hx hb hr hlocks hml hnm hown hts hsz hAe hP hK hD hS hST hA hl
  have hl : lv_has ls 3 [(0, .int (nI v)), (1, .int (nI a)), (2, .int (nI b))] := hl
  refine lv_iload_n hx hb dX8_in_0 rfl (lv_at hl 0 rfl) ?_
  refine lv_iload_n hx hb dX8_in_1 rfl (lv_at hl 1 rfl) ?_
  refine mv_icmp_lt (tgt := 14) hx hb (by omega) (by omega) dX8_in_2 (by decide) (fun c2 => ?_) (fun c2 => ?_)
  · skip
    refine lv_iconst (v := nI 0) hx hb dX8_in_14 (by decide) ?_
    exact mv_zret hx hb hr hlocks (by omega) () (bN_df (by omega)) hP hK hD hS dX8_in_15
  · skip
    refine lv_iload_n hx hb dX8_in_5 rfl (lv_at hl 0 rfl) ?_
    refine lv_iload_n hx hb dX8_in_6 rfl (lv_at hl 2 rfl) ?_
    refine mv_icmp_gt (tgt := 14) hx hb (by omega) (by omega) dX8_in_7 (by decide) (fun c7 => ?_) (fun c7 => ?_)
    · skip
      refine lv_iconst (v := nI 0) hx hb dX8_in_14 (by decide) ?_
      exact mv_zret hx hb hr hlocks (by omega) () (bN_df (by omega)) hP hK hD hS dX8_in_15
    · skip
      refine lv_iconst (v := nI 1) hx hb dX8_in_10 (by decide) ?_
      refine lv_goto (tgt := 15) hx hb dX8_in_11 (by decide) ?_
      exact mv_zret hx hb hr hlocks (by omega) () (bN_dt (by omega)) hP hK hD hS dX8_in_15
abbrev q_X8_inR (D : va_G) (Y : Nat → ClassId) (x1 : Int32) (a : Nat) (b : Nat) : (Nat → Prop) → Array Value → State → Outcome → State → Prop := mv_Qi D Y (fun (r : Int32) (_ : Unit) => r = nI (bN (inQ x1 a b))) (fun _ : Unit => ([] : va_W))
set_option maxHeartbeats 4000000 in
set_option maxRecDepth 100000 in
theorem c_X8_inR (l : Launch) (D : va_G) (Y : Nat → ClassId) (sz : Nat) (x1 : Int32) (a : Nat) (b : Nat)  : mv_C l D Y yX8_in cX8_in 3 (some .boolean) 0 0 0 [.int x1, .int (nI a), .int (nI b)] sz [] (q_X8_inR D Y x1 a b) := by
  refine mv_ofW (by decide) (Nat.le_of_ble_eq_true rfl) ?_
  intro p e s m below meth c ls A hx hb hr hlocks hml hnm hown hts hsz hAe hP hK hD hS hST hA hl
  have hl : lv_has ls 3 [(0, .int x1), (1, .int (nI a)), (2, .int (nI b))] := hl
  refine lv_iload_n hx hb dX8_in_0 rfl (lv_at hl 0 rfl) ?_
  refine lv_iload_n hx hb dX8_in_1 rfl (lv_at hl 1 rfl) ?_
  refine lv_icmp_lt (tgt := 14) hx hb dX8_in_2 (by decide) (fun c2 => ?_) (fun c2 => ?_)
  · skip
    refine lv_iconst (v := nI 0) hx hb dX8_in_14 (by decide) ?_
    exact mv_zret hx hb hr hlocks (by omega) () (inQ_f1 c2) hP hK hD hS dX8_in_15
  · skip
    refine lv_iload_n hx hb dX8_in_5 rfl (lv_at hl 0 rfl) ?_
    refine lv_iload_n hx hb dX8_in_6 rfl (lv_at hl 2 rfl) ?_
    refine lv_icmp_gt (tgt := 14) hx hb dX8_in_7 (by decide) (fun c7 => ?_) (fun c7 => ?_)
    · skip
      refine lv_iconst (v := nI 0) hx hb dX8_in_14 (by decide) ?_
      exact mv_zret hx hb hr hlocks (by omega) () (inQ_f2 c7) hP hK hD hS dX8_in_15
    · skip
      refine lv_iconst (v := nI 1) hx hb dX8_in_10 (by decide) ?_
      refine lv_goto (tgt := 15) hx hb dX8_in_11 (by decide) ?_
      exact mv_zret hx hb hr hlocks (by omega) () (inQ_t c2 c7) hP hK hD hS dX8_in_15
abbrev q_X8_has (D : va_G) (Y : Nat → ClassId) (v : Nat) (k : Nat) : (Nat → Prop) → Array Value → State → Outcome → State → Prop := mv_Qi D Y (fun (r : Int32) (_ : Unit) => r = nI (v / 2 ^ k % 2)) (fun _ : Unit => ([] : va_W))
set_option maxHeartbeats 4000000 in
set_option maxRecDepth 100000 in
theorem c_X8_has (l : Launch) (D : va_G) (Y : Nat → ClassId) (sz : Nat) (v : Nat) (k : Nat) (hv : v < 2 ^ 31) (hk : k < 32) : mv_C l D Y yX8_has cX8_has 2 (some .boolean) 0 0 0 [.int (nI v), .int (nI k)] sz [] (q_X8_has D Y v k) := by
  refine mv_ofW (by decide) (Nat.le_of_ble_eq_true rfl) ?_
  intro p e s m below meth c ls A hx hb hr hlocks hml hnm hown hts hsz hAe hP hK hD hS hST hA hl
  have hl : lv_has ls 2 [(0, .int (nI v)), (1, .int (nI k))] := hl
  refine lv_iload_n hx hb dX8_has_0 rfl (lv_at hl 0 rfl) ?_
  refine lv_iload_n hx hb dX8_has_1 rfl (lv_at hl 1 rfl) ?_
  refine mv_ishr hx hb (by first | omega | exact Nat.lt_trans (Nat.mod_lt _ (by decide)) (by decide)) (by omega) dX8_has_2 ?_
  refine lv_iconst (v := nI 1) hx hb dX8_has_3 (by decide) ?_
  refine mv_iand1 hx hb dX8_has_4 ?_
  refine lv_iconst (v := nI 1) hx hb dX8_has_5 (by decide) ?_
  refine mv_icmp_ne (tgt := 13) hx hb (by first | omega | exact Nat.lt_trans (Nat.mod_lt _ (by decide)) (by decide)) (by omega) dX8_has_6 (by decide) (fun c6 => ?_) (fun c6 => ?_)
  · skip
    refine lv_iconst (v := nI 0) hx hb dX8_has_13 (by decide) ?_
    exact mv_zret hx hb hr hlocks (by omega) () (congrArg nI (by omega)) hP hK hD hS dX8_has_14
  · skip
    refine lv_iconst (v := nI 1) hx hb dX8_has_9 (by decide) ?_
    refine lv_goto (tgt := 14) hx hb dX8_has_10 (by decide) ?_
    exact mv_zret hx hb hr hlocks (by omega) () (congrArg nI (by omega)) hP hK hD hS dX8_has_14
abbrev q_X8_bits (D : va_G) (Y : Nat → ClassId) (v : Nat) : (Nat → Prop) → Array Value → State → Outcome → State → Prop := mv_Qi D Y (fun (r : Int32) (_ : Unit) => r = nI (popc v)) (fun _ : Unit => ([] : va_W))
set_option maxHeartbeats 4000000 in
set_option maxRecDepth 100000 in
theorem c_X8_bits (l : Launch) (D : va_G) (Y : Nat → ClassId) (sz : Nat) (v : Nat) (hv : v < 2 ^ 31) : mv_C l D Y yX8_bits cX8_bits 3 (some .int) 0 0 0 [.int (nI v)] sz [] (q_X8_bits D Y v) := by
  refine mv_ofW (by decide) (Nat.le_of_ble_eq_true rfl) ?_
  intro p e s m below meth c ls A hx hb hr hlocks hml hnm hown hts hsz hAe hP hK hD hS hST hA hl
  have hl : lv_has ls 3 [(0, .int (nI v))] := hl
  have L4 : ∀ (fu : Nat) (k : Nat) (t : Nat) (hk : k ≤ 16) (ht : t = pcN k v) (hmeas : 16 - k < fu) (H : Heap) (locs : List Loc) (ls : Array Slot), va_P D vwCl [] H → va_D A [] → va_S A s.heap H locs → lv_has ls 3 [(2, .int (nI k)), (1, .int (nI t)), (0, .int (nI v))] → W p l e (mv_R 0 0 0) s m [.int (nI v)].toArray below meth c H locs 0 0 (MQ below ((q_X8_bits D Y v) A) [.int (nI v)].toArray s 0 0 A) (F0 m 4 ls []) := by
    intro fu
    induction fu with
    | zero =>
      intro k t hk ht hmeas
      exact absurd hmeas (Nat.not_lt_zero _)
    | succ fu L4ih =>
      intro k t hk ht hmeas H locs ls hP hD hS hl
      refine lv_iload_n hx hb dX8_bits_4 rfl (lv_at hl 0 rfl) ?_
      refine lv_bipush (v := nI 16) hx hb dX8_bits_5 (by decide) ?_
      refine mv_icmp_ge (tgt := 24) hx hb (by omega) (by omega) dX8_bits_7 (by decide) (fun c7 => ?_) (fun c7 => ?_)
      · skip
        refine lv_iload_n hx hb dX8_bits_24 rfl (lv_at hl 1 rfl) ?_
        exact mv_iret hx hb hr hlocks () (by rw [ht, show k = 16 by omega]; rfl) hP hK hD hS dX8_bits_25
      · skip
        refine lv_iload_n hx hb dX8_bits_10 rfl (lv_at hl 1 rfl) ?_
        refine lv_iload_n hx hb dX8_bits_11 rfl (lv_at hl 2 rfl) ?_
        refine lv_iload_n hx hb dX8_bits_12 rfl (lv_at hl 0 rfl) ?_
        refine mv_ishr hx hb (by omega) (by omega) dX8_bits_13 ?_
        refine lv_iconst (v := nI 1) hx hb dX8_bits_14 (by decide) ?_
        refine mv_iand1 hx hb dX8_bits_15 ?_
        refine mv_iadd hx hb dX8_bits_16 ?_
        refine lv_istore_n (lv' := [(1, .int (nI (t + ((v / 2 ^ k) % 2)))), (2, .int (nI k)), (0, .int (nI v))]) hx hb dX8_bits_17 rfl hl (by decide) rfl (fun ls hl => ?_)
        refine lv_iinc (v := nI (k + 1)) (lv' := [(2, .int (nI (k + 1))), (1, .int (nI (t + ((v / 2 ^ k) % 2)))), (0, .int (nI v))]) hx hb dX8_bits_18 hl (k := 1) rfl (by exact nI_add _ 1) (by decide) rfl (fun ls hl => ?_)
        refine lv_goto (tgt := 4) hx hb dX8_bits_21 (by decide) ?_
        exact L4ih  (k + 1) (t + ((v / 2 ^ k) % 2)) (by first | assumption | omega | rfl) (by rw [ht]; rfl) (by omega) _ _ _ hP hD hS (lv_sub hl [0, 1, 2] rfl)
  refine lv_iconst (v := nI 0) hx hb dX8_bits_0 (by decide) ?_
  refine lv_istore_n (lv' := [(1, .int (nI 0)), (0, .int (nI v))]) hx hb dX8_bits_1 rfl hl (by decide) rfl (fun ls hl => ?_)
  refine lv_iconst (v := nI 0) hx hb dX8_bits_2 (by decide) ?_
  refine lv_istore_n (lv' := [(2, .int (nI 0)), (1, .int (nI 0)), (0, .int (nI v))]) hx hb dX8_bits_3 rfl hl (by decide) rfl (fun ls hl => ?_)
  exact L4 (16 - 0 + 1) 0 0 (by first | assumption | omega | rfl) (rfl) (Nat.lt_succ_self _) _ _ _ hP hD hS (lv_sub hl [0, 1, 2] rfl)
abbrev q_X8_isRobe (D : va_G) (Y : Nat → ClassId) (x1 : Int32) : (Nat → Prop) → Array Value → State → Outcome → State → Prop := mv_Qi D Y (fun (r : Int32) (_ : Unit) => r = nI (bN (inQ x1 0 5))) (fun _ : Unit => ([] : va_W))
set_option maxHeartbeats 4000000 in
set_option maxRecDepth 100000 in
theorem c_X8_isRobe (l : Launch) (D : va_G) (Y : Nat → ClassId) (sz : Nat) (x1 : Int32)  : mv_C l D Y yX8_isRobe cX8_isRobe 1 (some .boolean) 1 0 0 [.int x1] sz [] (q_X8_isRobe D Y x1) := by
  refine mv_ofW (by decide) (Nat.le_of_ble_eq_true rfl) ?_
  intro p e s m below meth c ls A hx hb hr hlocks hml hnm hown hts hsz hAe hP hK hD hS hST hA hl
  have hl : lv_has ls 1 [(0, .int x1)] := hl
  refine lv_iload_n hx hb dX8_isRobe_0 rfl (lv_at hl 0 rfl) ?_
  refine lv_iconst (v := nI 0) hx hb dX8_isRobe_1 (by decide) ?_
  refine lv_iconst (v := nI 5) hx hb dX8_isRobe_2 (by decide) ?_
  refine mv_callSi (nA := 3) (As := [.int x1, .int (nI 0), .int (nI 5)]) (rest := []) (Wc := []) (wr := []) hx hb hml hown hts hK hP hD hS hST hA hl.1 (c_X8_inR l D Y _ x1 0 5 ) [] [] rfl rfl (by decide) (by decide) (by decide) rfl mw_121 mw_122 mw_5 mw_123 ⟨by decide, by decide, by decide +kernel⟩ rfl ⟨Nat.le_of_ble_eq_true rfl, Nat.le_of_ble_eq_true rfl⟩ rfl (Nat.le_of_ble_eq_true rfl) dX8_isRobe_3 ⟨Nat.le_of_ble_eq_true rfl, Nat.le_of_ble_eq_true rfl⟩ (fun r_1 ux H locs hr3 hP hD hS hz3 => ?_)
  have hP := hP.sub (ws' := []) [] rfl
  have hD := hD.sub (ws' := []) [] (by decide) rfl
  have hr3 : r_1 = nI (bN (inQ x1 0 5)) := hr3
  subst hr3
  exact mv_zret hx hb hr hlocks (bN_lt _) () (rfl) hP hK hD hS dX8_isRobe_6
abbrev q_X8_isSaying (D : va_G) (Y : Nat → ClassId) (x1 : Int32) : (Nat → Prop) → Array Value → State → Outcome → State → Prop := mv_Qi D Y (fun (r : Int32) (_ : Unit) => r = nI (bN (inQ x1 0 9))) (fun _ : Unit => ([] : va_W))
set_option maxHeartbeats 4000000 in
set_option maxRecDepth 100000 in
theorem c_X8_isSaying (l : Launch) (D : va_G) (Y : Nat → ClassId) (sz : Nat) (x1 : Int32)  : mv_C l D Y yX8_isSaying cX8_isSaying 1 (some .boolean) 1 0 0 [.int x1] sz [] (q_X8_isSaying D Y x1) := by
  refine mv_ofW (by decide) (Nat.le_of_ble_eq_true rfl) ?_
  intro p e s m below meth c ls A hx hb hr hlocks hml hnm hown hts hsz hAe hP hK hD hS hST hA hl
  have hl : lv_has ls 1 [(0, .int x1)] := hl
  refine lv_iload_n hx hb dX8_isSaying_0 rfl (lv_at hl 0 rfl) ?_
  refine lv_iconst (v := nI 0) hx hb dX8_isSaying_1 (by decide) ?_
  refine lv_bipush (v := nI 9) hx hb dX8_isSaying_2 (by decide) ?_
  refine mv_callSi (nA := 3) (As := [.int x1, .int (nI 0), .int (nI 9)]) (rest := []) (Wc := []) (wr := []) hx hb hml hown hts hK hP hD hS hST hA hl.1 (c_X8_inR l D Y _ x1 0 9 ) [] [] rfl rfl (by decide) (by decide) (by decide) rfl mw_121 mw_122 mw_5 mw_123 ⟨by decide, by decide, by decide +kernel⟩ rfl ⟨Nat.le_of_ble_eq_true rfl, Nat.le_of_ble_eq_true rfl⟩ rfl (Nat.le_of_ble_eq_true rfl) dX8_isSaying_4 ⟨Nat.le_of_ble_eq_true rfl, Nat.le_of_ble_eq_true rfl⟩ (fun r_1 ux H locs hr4 hP hD hS hz4 => ?_)
  have hP := hP.sub (ws' := []) [] rfl
  have hD := hD.sub (ws' := []) [] (by decide) rfl
  have hr4 : r_1 = nI (bN (inQ x1 0 9)) := hr4
  subst hr4
  exact mv_zret hx hb hr hlocks (bN_lt _) () (rfl) hP hK hD hS dX8_isSaying_7
abbrev q_X8_robe (D : va_G) (Y : Nat → ClassId) (o : Nat) (ob : Nat) (on : Nat) (ow8 : Nat) (os : Nat) (oe : Nat) (oi : Nat) (op : Nat) (oz : Nat) (oc8 : Nat) (oq : Nat) (om : Nat) (oy : Nat) (og : Nat) (ok8 : Nat) (sc8 : Nat) (cn8 : Nat) (bt : Nat) (a8 : Nat) (rs8 : Int32) (gA : Option Nat) (gR : Option Nat) (gh : Nat → Nat) (gca : Nat → Nat) (gun : Nat → Nat) (prs : Nat) (yrs : Nat) (x1 : Int32) (x2 : Int32) (x3 : Int32) : (Nat → Prop) → Array Value → State → Outcome → State → Prop := mv_Qi D Y (fun (r : Int32) (ux : (Nat → Nat) × (Nat → Nat) × Nat) => (r, ux.1, ux.2.1, ux.2.2) = sp_robe gh gca prs x1 x2 x3) (fun ux : (Nat → Nat) × (Nat → Nat) × Nat => ([(o, .inr (8, [.ref ob, .ref on, .ref ow8, .ref os, .ref oe, .int (nI sc8), .ref oi, .int (nI cn8), .ref op, .int (nI bt), .int (oI gA), .int (oI gR), .int rs8, .int (nI a8), .ref oz, .ref oc8, .ref oq, .ref om, .ref oy, .ref og, .ref ok8])), (ob, .inl (Y 0, 24, .inl (aN (bk ux.1 ux.2.1 gun ux.2.2 yrs))))] : va_W))
set_option maxHeartbeats 4000000 in
set_option maxRecDepth 100000 in
theorem c_X8_robe (l : Launch) (D : va_G) (Y : Nat → ClassId) (sz : Nat) (o : Nat) (ob : Nat) (on : Nat) (ow8 : Nat) (os : Nat) (oe : Nat) (oi : Nat) (op : Nat) (oz : Nat) (oc8 : Nat) (oq : Nat) (om : Nat) (oy : Nat) (og : Nat) (ok8 : Nat) (sc8 : Nat) (cn8 : Nat) (bt : Nat) (a8 : Nat) (rs8 : Int32) (gA : Option Nat) (gR : Option Nat) (gh : Nat → Nat) (gca : Nat → Nat) (gun : Nat → Nat) (prs : Nat) (yrs : Nat) (x1 : Int32) (x2 : Int32) (x3 : Int32)  : mv_C l D Y yX8_robe cX8_robe 5 (some .int) 2 0 0 [.ref o, .int x1, .int x2, .int x3] sz [(o, .inr (8, [.ref ob, .ref on, .ref ow8, .ref os, .ref oe, .int (nI sc8), .ref oi, .int (nI cn8), .ref op, .int (nI bt), .int (oI gA), .int (oI gR), .int rs8, .int (nI a8), .ref oz, .ref oc8, .ref oq, .ref om, .ref oy, .ref og, .ref ok8])), (ob, .inl (Y 0, 24, .inl (aN (bk gh gca gun prs yrs))))] (q_X8_robe D Y o ob on ow8 os oe oi op oz oc8 oq om oy og ok8 sc8 cn8 bt a8 rs8 gA gR gh gca gun prs yrs x1 x2 x3) := by
  refine mv_ofW (by decide) (Nat.le_of_ble_eq_true rfl) ?_
  intro p e s m below meth c ls A hx hb hr hlocks hml hnm hown hts hsz hAe hP hK hD hS hST hA hl
  have hl : lv_has ls 5 [(0, .ref o), (1, .int x1), (2, .int x2), (3, .int x3)] := hl
  refine lv_iload_n hx hb dX8_robe_0 rfl (lv_at hl 1 rfl) ?_
  refine mv_callSi (nA := 1) (As := [.int x1]) (rest := []) (Wc := []) (wr := [(o, .inr (8, [.ref ob, .ref on, .ref ow8, .ref os, .ref oe, .int (nI sc8), .ref oi, .int (nI cn8), .ref op, .int (nI bt), .int (oI gA), .int (oI gR), .int rs8, .int (nI a8), .ref oz, .ref oc8, .ref oq, .ref om, .ref oy, .ref og, .ref ok8])), (ob, .inl (Y 0, 24, .inl (aN (bk gh gca gun prs yrs))))]) hx hb hml hown hts hK hP hD hS hST hA hl.1 (c_X8_isRobe l D Y _ x1 ) [] [0, 1] rfl rfl (by decide) (by decide) (by decide) rfl mw_118 mw_119 mw_5 mw_120 ⟨by decide, by decide, by decide +kernel⟩ rfl ⟨Nat.le_of_ble_eq_true rfl, Nat.le_of_ble_eq_true rfl⟩ rfl (Nat.le_of_ble_eq_true rfl) dX8_robe_1 ⟨Nat.le_of_ble_eq_true rfl, Nat.le_of_ble_eq_true rfl⟩ (fun r_1 ux H locs hr1 hP hD hS hz1 => ?_)
  have hP := hP.sub (ws' := [(o, .inr (8, [.ref ob, .ref on, .ref ow8, .ref os, .ref oe, .int (nI sc8), .ref oi, .int (nI cn8), .ref op, .int (nI bt), .int (oI gA), .int (oI gR), .int rs8, .int (nI a8), .ref oz, .ref oc8, .ref oq, .ref om, .ref oy, .ref og, .ref ok8])), (ob, .inl (Y 0, 24, .inl (aN (bk gh gca gun prs yrs))))]) [0, 1] rfl
  have hD := hD.sub (ws' := [(o, .inr (8, [.ref ob, .ref on, .ref ow8, .ref os, .ref oe, .int (nI sc8), .ref oi, .int (nI cn8), .ref op, .int (nI bt), .int (oI gA), .int (oI gR), .int rs8, .int (nI a8), .ref oz, .ref oc8, .ref oq, .ref om, .ref oy, .ref og, .ref ok8])), (ob, .inl (Y 0, 24, .inl (aN (bk gh gca gun prs yrs))))]) [0, 1] (by decide) rfl
  have hr1 : r_1 = nI (bN (inQ x1 0 5)) := hr1
  subst hr1
  refine mv_if_ne (tgt := 9) hx hb (by first | omega | exact Nat.lt_trans (bN_lt _) (by decide)) dX8_robe_4 (by decide) (fun c4 => ?_) (fun c4 => ?_)
  · skip
    obtain ⟨kx1, hka_x1, hkb_x1, rfl⟩ := inQ_ex (by decide) (bN_1.mp c4)
    have hq_x1 : inQ (nI kx1) 0 5 = true := bN_1.mp c4
    have hcl_x1 : (nI kx1).toNatClampNeg = kx1 := nI_clamp (by omega)
    refine lv_iload_n hx hb dX8_robe_9 rfl (lv_at hl 2 rfl) ?_
    refine lv_iconst (v := nI 0) hx hb dX8_robe_10 (by decide) ?_
    refine lv_ldc (v := nI 65535) hx hb hown (hts _ mw_117) dX8_robe_11 ?_
    refine mv_callSi (nA := 3) (As := [.int x2, .int (nI 0), .int (nI 65535)]) (rest := []) (Wc := []) (wr := [(o, .inr (8, [.ref ob, .ref on, .ref ow8, .ref os, .ref oe, .int (nI sc8), .ref oi, .int (nI cn8), .ref op, .int (nI bt), .int (oI gA), .int (oI gR), .int rs8, .int (nI a8), .ref oz, .ref oc8, .ref oq, .ref om, .ref oy, .ref og, .ref ok8])), (ob, .inl (Y 0, 24, .inl (aN (bk gh gca gun prs yrs))))]) hx hb hml hown hts hK hP hD hS hST hA hl.1 (c_X8_inR l D Y _ x2 0 65535 ) [] [0, 1] rfl rfl (by decide) (by decide) (by decide) rfl mw_121 mw_122 mw_5 mw_123 ⟨by decide, by decide, by decide +kernel⟩ rfl ⟨Nat.le_of_ble_eq_true rfl, Nat.le_of_ble_eq_true rfl⟩ rfl (Nat.le_of_ble_eq_true rfl) dX8_robe_13 ⟨Nat.le_of_ble_eq_true rfl, Nat.le_of_ble_eq_true rfl⟩ (fun r_2 ux H locs hr13 hP hD hS hz13 => ?_)
    have hP := hP.sub (ws' := [(o, .inr (8, [.ref ob, .ref on, .ref ow8, .ref os, .ref oe, .int (nI sc8), .ref oi, .int (nI cn8), .ref op, .int (nI bt), .int (oI gA), .int (oI gR), .int rs8, .int (nI a8), .ref oz, .ref oc8, .ref oq, .ref om, .ref oy, .ref og, .ref ok8])), (ob, .inl (Y 0, 24, .inl (aN (bk gh gca gun prs yrs))))]) [0, 1] rfl
    have hD := hD.sub (ws' := [(o, .inr (8, [.ref ob, .ref on, .ref ow8, .ref os, .ref oe, .int (nI sc8), .ref oi, .int (nI cn8), .ref op, .int (nI bt), .int (oI gA), .int (oI gR), .int rs8, .int (nI a8), .ref oz, .ref oc8, .ref oq, .ref om, .ref oy, .ref og, .ref ok8])), (ob, .inl (Y 0, 24, .inl (aN (bk gh gca gun prs yrs))))]) [0, 1] (by decide) rfl
    have hr13 : r_2 = nI (bN (inQ x2 0 65535)) := hr13
    subst hr13
    refine mv_if_eq (tgt := 29) hx hb (by first | omega | exact Nat.lt_trans (bN_lt _) (by decide)) dX8_robe_16 (by decide) (fun c16 => ?_) (fun c16 => ?_)
    · skip
      have hn_x2_c16 : inQ x2 0 65535 = false := bN_0.mp c16
      refine lv_bipush (v := -2) hx hb dX8_robe_29 (by decide) ?_
      exact mv_iret hx hb hr hlocks (gh, gca, prs) (by simp only [sp_robe, hq_x1, hcl_x1, hn_x2_c16, Bool.not_true, Bool.not_false, if_true, if_false, Bool.false_eq_true, reduceIte, Bool.true_and, Bool.and_true, Bool.false_and, Bool.and_false, Bool.or_false, Bool.or_true]) hP hK hD hS dX8_robe_31
    · skip
      obtain ⟨kx2, hka_x2, hkb_x2, rfl⟩ := inQ_ex (by decide) (bN_1.mp c16)
      have hq_x2 : inQ (nI kx2) 0 65535 = true := bN_1.mp c16
      have hcl_x2 : (nI kx2).toNatClampNeg = kx2 := nI_clamp (by omega)
      refine lv_iload_n hx hb dX8_robe_19 rfl (lv_at hl 3 rfl) ?_
      refine lv_iconst (v := nI 0) hx hb dX8_robe_20 (by decide) ?_
      refine lv_bipush (v := nI 9) hx hb dX8_robe_21 (by decide) ?_
      refine mv_callSi (nA := 3) (As := [.int x3, .int (nI 0), .int (nI 9)]) (rest := []) (Wc := []) (wr := [(o, .inr (8, [.ref ob, .ref on, .ref ow8, .ref os, .ref oe, .int (nI sc8), .ref oi, .int (nI cn8), .ref op, .int (nI bt), .int (oI gA), .int (oI gR), .int rs8, .int (nI a8), .ref oz, .ref oc8, .ref oq, .ref om, .ref oy, .ref og, .ref ok8])), (ob, .inl (Y 0, 24, .inl (aN (bk gh gca gun prs yrs))))]) hx hb hml hown hts hK hP hD hS hST hA hl.1 (c_X8_inR l D Y _ x3 0 9 ) [] [0, 1] rfl rfl (by decide) (by decide) (by decide) rfl mw_121 mw_122 mw_5 mw_123 ⟨by decide, by decide, by decide +kernel⟩ rfl ⟨Nat.le_of_ble_eq_true rfl, Nat.le_of_ble_eq_true rfl⟩ rfl (Nat.le_of_ble_eq_true rfl) dX8_robe_23 ⟨Nat.le_of_ble_eq_true rfl, Nat.le_of_ble_eq_true rfl⟩ (fun r_3 ux H locs hr23 hP hD hS hz23 => ?_)
      have hP := hP.sub (ws' := [(o, .inr (8, [.ref ob, .ref on, .ref ow8, .ref os, .ref oe, .int (nI sc8), .ref oi, .int (nI cn8), .ref op, .int (nI bt), .int (oI gA), .int (oI gR), .int rs8, .int (nI a8), .ref oz, .ref oc8, .ref oq, .ref om, .ref oy, .ref og, .ref ok8])), (ob, .inl (Y 0, 24, .inl (aN (bk gh gca gun prs yrs))))]) [0, 1] rfl
      have hD := hD.sub (ws' := [(o, .inr (8, [.ref ob, .ref on, .ref ow8, .ref os, .ref oe, .int (nI sc8), .ref oi, .int (nI cn8), .ref op, .int (nI bt), .int (oI gA), .int (oI gR), .int rs8, .int (nI a8), .ref oz, .ref oc8, .ref oq, .ref om, .ref oy, .ref og, .ref ok8])), (ob, .inl (Y 0, 24, .inl (aN (bk gh gca gun prs yrs))))]) [0, 1] (by decide) rfl
      have hr23 : r_3 = nI (bN (inQ x3 0 9)) := hr23
      subst hr23
      refine mv_if_ne (tgt := 32) hx hb (by first | omega | exact Nat.lt_trans (bN_lt _) (by decide)) dX8_robe_26 (by decide) (fun c26 => ?_) (fun c26 => ?_)
      · skip
        obtain ⟨kx3, hka_x3, hkb_x3, rfl⟩ := inQ_ex (by decide) (bN_1.mp c26)
        have hq_x3 : inQ (nI kx3) 0 9 = true := bN_1.mp c26
        have hcl_x3 : (nI kx3).toNatClampNeg = kx3 := nI_clamp (by omega)
        refine lv_aload_n hx hb dX8_robe_32 rfl (lv_at hl 0 rfl) ?_
        refine va_get (D := D) (ci := 8) (v := .ref ob) (C := RX8) (T := TX8) (N := 21) hx hb hts inlX8 hown hK hP 0 rfl rfl 0 (by decide) (hts _ mw_83) (fun _ h9 => h9) rfl dX8_robe_33 ?_
        refine lv_iload_n hx hb dX8_robe_36 rfl (lv_at hl 1 rfl) ?_
        refine mv_iald hx hb hK hP 1 rfl (i := kx1) (by omega) (by decide) dX8_robe_37 ?_
        rw [show (bk gh gca gun prs yrs) kx1 = gh kx1 from bk_h (by omega)]
        refine lv_istore (lv' := [(4, .int (nI (gh kx1))), (0, .ref o), (1, .int (nI kx1)), (2, .int (nI kx2)), (3, .int (nI kx3))]) hx hb dX8_robe_38 hl (by decide) rfl (fun ls hl => ?_)
        refine lv_aload_n hx hb dX8_robe_40 rfl (lv_at hl 1 rfl) ?_
        refine va_get (D := D) (ci := 8) (v := .ref ob) (C := RX8) (T := TX8) (N := 21) hx hb hts inlX8 hown hK hP 0 rfl rfl 0 (by decide) (hts _ mw_83) (fun _ h9 => h9) rfl dX8_robe_41 ?_
        refine lv_iload_n hx hb dX8_robe_44 rfl (lv_at hl 2 rfl) ?_
        refine lv_iload_n hx hb dX8_robe_45 rfl (lv_at hl 3 rfl) ?_
        refine mv_iast hx hb hK hP hD hS 1 rfl (i := kx1) (v := kx2) (by omega) (by decide) dX8_robe_46 (fun H locs hP hD hS => ?_)
        have hP : va_P D vwCl [(o, .inr (8, [.ref ob, .ref on, .ref ow8, .ref os, .ref oe, .int (nI sc8), .ref oi, .int (nI cn8), .ref op, .int (nI bt), .int (oI gA), .int (oI gR), .int rs8, .int (nI a8), .ref oz, .ref oc8, .ref oq, .ref om, .ref oy, .ref og, .ref ok8])), (ob, .inl (Y 0, 24, .inl (aN (uN (bk gh gca gun prs yrs) kx1 kx2))))] H := hP
        have hD : va_D A [(o, .inr (8, [.ref ob, .ref on, .ref ow8, .ref os, .ref oe, .int (nI sc8), .ref oi, .int (nI cn8), .ref op, .int (nI bt), .int (oI gA), .int (oI gR), .int rs8, .int (nI a8), .ref oz, .ref oc8, .ref oq, .ref om, .ref oy, .ref og, .ref ok8])), (ob, .inl (Y 0, 24, .inl (aN (uN (bk gh gca gun prs yrs) kx1 kx2))))] := hD
        rw [show uN (bk gh gca gun prs yrs) kx1 kx2 = bk (uN gh kx1 kx2) gca gun prs yrs from uN_bk_h (by omega)] at hP hD
        refine lv_aload_n hx hb dX8_robe_47 rfl (lv_at hl 1 rfl) ?_
        refine va_get (D := D) (ci := 8) (v := .ref ob) (C := RX8) (T := TX8) (N := 21) hx hb hts inlX8 hown hK hP 0 rfl rfl 0 (by decide) (hts _ mw_83) (fun _ h9 => h9) rfl dX8_robe_48 ?_
        refine lv_bipush (v := nI 6) hx hb dX8_robe_51 (by decide) ?_
        refine lv_iload_n hx hb dX8_robe_53 rfl (lv_at hl 2 rfl) ?_
        refine mv_iadd hx hb dX8_robe_54 ?_
        refine lv_iload_n hx hb dX8_robe_55 rfl (lv_at hl 4 rfl) ?_
        refine mv_iast hx hb hK hP hD hS 1 rfl (i := 6 + kx1) (v := kx3) (by omega) (by decide) dX8_robe_56 (fun H locs hP hD hS => ?_)
        have hP : va_P D vwCl [(o, .inr (8, [.ref ob, .ref on, .ref ow8, .ref os, .ref oe, .int (nI sc8), .ref oi, .int (nI cn8), .ref op, .int (nI bt), .int (oI gA), .int (oI gR), .int rs8, .int (nI a8), .ref oz, .ref oc8, .ref oq, .ref om, .ref oy, .ref og, .ref ok8])), (ob, .inl (Y 0, 24, .inl (aN (uN (bk (uN gh kx1 kx2) gca gun prs yrs) (6 + kx1) kx3))))] H := hP
        have hD : va_D A [(o, .inr (8, [.ref ob, .ref on, .ref ow8, .ref os, .ref oe, .int (nI sc8), .ref oi, .int (nI cn8), .ref op, .int (nI bt), .int (oI gA), .int (oI gR), .int rs8, .int (nI a8), .ref oz, .ref oc8, .ref oq, .ref om, .ref oy, .ref og, .ref ok8])), (ob, .inl (Y 0, 24, .inl (aN (uN (bk (uN gh kx1 kx2) gca gun prs yrs) (6 + kx1) kx3))))] := hD
        rw [show uN (bk (uN gh kx1 kx2) gca gun prs yrs) (6 + kx1) kx3 = bk (uN gh kx1 kx2) (uN gca kx1 kx3) gun prs yrs from uN_bk_c (by omega)] at hP hD
        refine lv_aload_n hx hb dX8_robe_57 rfl (lv_at hl 1 rfl) ?_
        refine va_get (D := D) (ci := 8) (v := .ref ob) (C := RX8) (T := TX8) (N := 21) hx hb hts inlX8 hown hK hP 0 rfl rfl 0 (by decide) (hts _ mw_83) (fun _ h9 => h9) rfl dX8_robe_58 ?_
        refine lv_bipush (v := nI 22) hx hb dX8_robe_61 (by decide) ?_
        refine lv_dup2_11 hx hb dX8_robe_63 rfl rfl ?_
        refine mv_iald hx hb hK hP 1 rfl (i := 22) (by omega) (by decide) dX8_robe_64 ?_
        rw [show (bk (uN gh kx1 kx2) (uN gca kx1 kx3) gun prs yrs) 22 = prs from bk_p]
        refine lv_iconst (v := nI 1) hx hb dX8_robe_65 (by decide) ?_
        refine lv_iload_n hx hb dX8_robe_66 rfl (lv_at hl 2 rfl) ?_
        refine mv_ishl hx hb (by omega) dX8_robe_67 ?_
        refine lv_iconst (v := nI 4294967295) hx hb dX8_robe_68 (by decide) ?_
        refine mv_ixor hx hb dX8_robe_69 ?_
        refine mv_iand hx hb dX8_robe_70 ?_
        refine mv_iast hx hb hK hP hD hS 1 rfl (i := 22) (v := prs &&& ((1 * 2 ^ kx1) ^^^ 4294967295)) (by omega) (by decide) dX8_robe_71 (fun H locs hP hD hS => ?_)
        have hP : va_P D vwCl [(o, .inr (8, [.ref ob, .ref on, .ref ow8, .ref os, .ref oe, .int (nI sc8), .ref oi, .int (nI cn8), .ref op, .int (nI bt), .int (oI gA), .int (oI gR), .int rs8, .int (nI a8), .ref oz, .ref oc8, .ref oq, .ref om, .ref oy, .ref og, .ref ok8])), (ob, .inl (Y 0, 24, .inl (aN (uN (bk (uN gh kx1 kx2) (uN gca kx1 kx3) gun prs yrs) 22 (prs &&& ((1 * 2 ^ kx1) ^^^ 4294967295))))))] H := hP
        have hD : va_D A [(o, .inr (8, [.ref ob, .ref on, .ref ow8, .ref os, .ref oe, .int (nI sc8), .ref oi, .int (nI cn8), .ref op, .int (nI bt), .int (oI gA), .int (oI gR), .int rs8, .int (nI a8), .ref oz, .ref oc8, .ref oq, .ref om, .ref oy, .ref og, .ref ok8])), (ob, .inl (Y 0, 24, .inl (aN (uN (bk (uN gh kx1 kx2) (uN gca kx1 kx3) gun prs yrs) 22 (prs &&& ((1 * 2 ^ kx1) ^^^ 4294967295))))))] := hD
        rw [show uN (bk (uN gh kx1 kx2) (uN gca kx1 kx3) gun prs yrs) 22 (prs &&& ((1 * 2 ^ kx1) ^^^ 4294967295)) = bk (uN gh kx1 kx2) (uN gca kx1 kx3) gun (prs &&& ((1 * 2 ^ kx1) ^^^ 4294967295)) yrs from uN_bk_p] at hP hD
        refine lv_iload hx hb dX8_robe_72 (lv_at hl 0 rfl) ?_
        exact mv_iret hx hb hr hlocks (uN gh kx1 kx2, uN gca kx1 kx3, prs &&& ((1 * 2 ^ kx1) ^^^ 4294967295)) (by simp only [sp_robe, hq_x1, hcl_x1, hq_x2, hcl_x2, hq_x3, hcl_x3, Bool.not_true, Bool.not_false, if_true, if_false, Bool.false_eq_true, reduceIte, Bool.true_and, Bool.and_true, Bool.false_and, Bool.and_false, Bool.or_false, Bool.or_true]) hP hK hD hS dX8_robe_74
      · skip
        have hn_x3_c26 : inQ x3 0 9 = false := bN_0.mp c26
        refine lv_bipush (v := -2) hx hb dX8_robe_29 (by decide) ?_
        exact mv_iret hx hb hr hlocks (gh, gca, prs) (by simp only [sp_robe, hq_x1, hcl_x1, hq_x2, hcl_x2, hn_x3_c26, Bool.not_true, Bool.not_false, if_true, if_false, Bool.false_eq_true, reduceIte, Bool.true_and, Bool.and_true, Bool.false_and, Bool.and_false, Bool.or_false, Bool.or_true]) hP hK hD hS dX8_robe_31
  · skip
    have hn_x1_c4 : inQ x1 0 5 = false := bN_0.mp c4
    refine lv_iconst (v := nI 4294967295) hx hb dX8_robe_7 (by decide) ?_
    exact mv_iret hx hb hr hlocks (gh, gca, prs) (by simp only [sp_robe, hn_x1_c4, Bool.not_true, Bool.not_false, if_true, if_false, Bool.false_eq_true, reduceIte, Bool.true_and, Bool.and_true, Bool.false_and, Bool.and_false, Bool.or_false, Bool.or_true]) hP hK hD hS dX8_robe_8
abbrev q_X8_saying (D : va_G) (Y : Nat → ClassId) (o : Nat) (ob : Nat) (on : Nat) (ow8 : Nat) (os : Nat) (oe : Nat) (oi : Nat) (op : Nat) (oz : Nat) (oc8 : Nat) (oq : Nat) (om : Nat) (oy : Nat) (og : Nat) (ok8 : Nat) (sc8 : Nat) (cn8 : Nat) (bt : Nat) (a8 : Nat) (rs8 : Int32) (gA : Option Nat) (gR : Option Nat) (gh : Nat → Nat) (gca : Nat → Nat) (gun : Nat → Nat) (prs : Nat) (yrs : Nat) (gro : Nat → Nat) (gsh : Nat → Nat) (x1 : Int32) (x2 : Int32) (x3 : Int32) (x4 : Int32) : (Nat → Prop) → Array Value → State → Outcome → State → Prop := mv_Qi D Y (fun (r : Int32) (ux : (Nat → Nat) × (Nat → Nat) × (Nat → Nat)) => (r, ux.1, ux.2.1, ux.2.2) = sp_saying gro gsh gun x1 x2 x3 x4) (fun ux : (Nat → Nat) × (Nat → Nat) × (Nat → Nat) => ([(o, .inr (8, [.ref ob, .ref on, .ref ow8, .ref os, .ref oe, .int (nI sc8), .ref oi, .int (nI cn8), .ref op, .int (nI bt), .int (oI gA), .int (oI gR), .int rs8, .int (nI a8), .ref oz, .ref oc8, .ref oq, .ref om, .ref oy, .ref og, .ref ok8])), (ob, .inl (Y 0, 24, .inl (aN (bk gh gca ux.2.2 prs yrs)))), (ow8, .inl (Y 0, 10, .inl (aN ux.1))), (os, .inl (Y 0, 10, .inl (aN ux.2.1)))] : va_W))
set_option maxHeartbeats 4000000 in
set_option maxRecDepth 100000 in
theorem c_X8_saying (l : Launch) (D : va_G) (Y : Nat → ClassId) (sz : Nat) (o : Nat) (ob : Nat) (on : Nat) (ow8 : Nat) (os : Nat) (oe : Nat) (oi : Nat) (op : Nat) (oz : Nat) (oc8 : Nat) (oq : Nat) (om : Nat) (oy : Nat) (og : Nat) (ok8 : Nat) (sc8 : Nat) (cn8 : Nat) (bt : Nat) (a8 : Nat) (rs8 : Int32) (gA : Option Nat) (gR : Option Nat) (gh : Nat → Nat) (gca : Nat → Nat) (gun : Nat → Nat) (prs : Nat) (yrs : Nat) (gro : Nat → Nat) (gsh : Nat → Nat) (x1 : Int32) (x2 : Int32) (x3 : Int32) (x4 : Int32)  : mv_C l D Y yX8_saying cX8_saying 6 (some .int) 2 0 0 [.ref o, .int x1, .int x2, .int x3, .int x4] sz [(o, .inr (8, [.ref ob, .ref on, .ref ow8, .ref os, .ref oe, .int (nI sc8), .ref oi, .int (nI cn8), .ref op, .int (nI bt), .int (oI gA), .int (oI gR), .int rs8, .int (nI a8), .ref oz, .ref oc8, .ref oq, .ref om, .ref oy, .ref og, .ref ok8])), (ob, .inl (Y 0, 24, .inl (aN (bk gh gca gun prs yrs)))), (ow8, .inl (Y 0, 10, .inl (aN gro))), (os, .inl (Y 0, 10, .inl (aN gsh)))] (q_X8_saying D Y o ob on ow8 os oe oi op oz oc8 oq om oy og ok8 sc8 cn8 bt a8 rs8 gA gR gh gca gun prs yrs gro gsh x1 x2 x3 x4) := by
  refine mv_ofW (by decide) (Nat.le_of_ble_eq_true rfl) ?_
  intro p e s m below meth c ls A hx hb hr hlocks hml hnm hown hts hsz hAe hP hK hD hS hST hA hl
  have hl : lv_has ls 6 [(0, .ref o), (1, .int x1), (2, .int x2), (3, .int x3), (4, .int x4)] := hl
  refine lv_iload_n hx hb dX8_saying_0 rfl (lv_at hl 1 rfl) ?_
  refine mv_callSi (nA := 1) (As := [.int x1]) (rest := []) (Wc := []) (wr := [(o, .inr (8, [.ref ob, .ref on, .ref ow8, .ref os, .ref oe, .int (nI sc8), .ref oi, .int (nI cn8), .ref op, .int (nI bt), .int (oI gA), .int (oI gR), .int rs8, .int (nI a8), .ref oz, .ref oc8, .ref oq, .ref om, .ref oy, .ref og, .ref ok8])), (ob, .inl (Y 0, 24, .inl (aN (bk gh gca gun prs yrs)))), (ow8, .inl (Y 0, 10, .inl (aN gro))), (os, .inl (Y 0, 10, .inl (aN gsh)))]) hx hb hml hown hts hK hP hD hS hST hA hl.1 (c_X8_isSaying l D Y _ x1 ) [] [0, 1, 2, 3] rfl rfl (by decide) (by decide) (by decide) rfl mw_138 mw_139 mw_5 mw_140 ⟨by decide, by decide, by decide +kernel⟩ rfl ⟨Nat.le_of_ble_eq_true rfl, Nat.le_of_ble_eq_true rfl⟩ rfl (Nat.le_of_ble_eq_true rfl) dX8_saying_1 ⟨Nat.le_of_ble_eq_true rfl, Nat.le_of_ble_eq_true rfl⟩ (fun r_1 ux H locs hr1 hP hD hS hz1 => ?_)
  have hP := hP.sub (ws' := [(o, .inr (8, [.ref ob, .ref on, .ref ow8, .ref os, .ref oe, .int (nI sc8), .ref oi, .int (nI cn8), .ref op, .int (nI bt), .int (oI gA), .int (oI gR), .int rs8, .int (nI a8), .ref oz, .ref oc8, .ref oq, .ref om, .ref oy, .ref og, .ref ok8])), (ob, .inl (Y 0, 24, .inl (aN (bk gh gca gun prs yrs)))), (ow8, .inl (Y 0, 10, .inl (aN gro))), (os, .inl (Y 0, 10, .inl (aN gsh)))]) [0, 1, 2, 3] rfl
  have hD := hD.sub (ws' := [(o, .inr (8, [.ref ob, .ref on, .ref ow8, .ref os, .ref oe, .int (nI sc8), .ref oi, .int (nI cn8), .ref op, .int (nI bt), .int (oI gA), .int (oI gR), .int rs8, .int (nI a8), .ref oz, .ref oc8, .ref oq, .ref om, .ref oy, .ref og, .ref ok8])), (ob, .inl (Y 0, 24, .inl (aN (bk gh gca gun prs yrs)))), (ow8, .inl (Y 0, 10, .inl (aN gro))), (os, .inl (Y 0, 10, .inl (aN gsh)))]) [0, 1, 2, 3] (by decide) rfl
  have hr1 : r_1 = nI (bN (inQ x1 0 9)) := hr1
  subst hr1
  refine mv_if_eq (tgt := 14) hx hb (by first | omega | exact Nat.lt_trans (bN_lt _) (by decide)) dX8_saying_4 (by decide) (fun c4 => ?_) (fun c4 => ?_)
  · skip
    have hn_x1_c4 : inQ x1 0 9 = false := bN_0.mp c4
    refine lv_iconst (v := nI 4294967295) hx hb dX8_saying_14 (by decide) ?_
    exact mv_iret hx hb hr hlocks (gro, gsh, gun) (by simp only [sp_saying, hn_x1_c4, Bool.not_true, Bool.not_false, if_true, if_false, Bool.false_eq_true, reduceIte, Bool.true_and, Bool.and_true, Bool.false_and, Bool.and_false, Bool.or_false, Bool.or_true]) hP hK hD hS dX8_saying_15
  · skip
    obtain ⟨kx1, hka_x1, hkb_x1, rfl⟩ := inQ_ex (by decide) (bN_1.mp c4)
    have hq_x1 : inQ (nI kx1) 0 9 = true := bN_1.mp c4
    have hcl_x1 : (nI kx1).toNatClampNeg = kx1 := nI_clamp (by omega)
    refine lv_iload_n hx hb dX8_saying_7 rfl (lv_at hl 2 rfl) ?_
    refine mv_callSi (nA := 1) (As := [.int x2]) (rest := []) (Wc := []) (wr := [(o, .inr (8, [.ref ob, .ref on, .ref ow8, .ref os, .ref oe, .int (nI sc8), .ref oi, .int (nI cn8), .ref op, .int (nI bt), .int (oI gA), .int (oI gR), .int rs8, .int (nI a8), .ref oz, .ref oc8, .ref oq, .ref om, .ref oy, .ref og, .ref ok8])), (ob, .inl (Y 0, 24, .inl (aN (bk gh gca gun prs yrs)))), (ow8, .inl (Y 0, 10, .inl (aN gro))), (os, .inl (Y 0, 10, .inl (aN gsh)))]) hx hb hml hown hts hK hP hD hS hST hA hl.1 (c_X8_isRobe l D Y _ x2 ) [] [0, 1, 2, 3] rfl rfl (by decide) (by decide) (by decide) rfl mw_118 mw_119 mw_5 mw_120 ⟨by decide, by decide, by decide +kernel⟩ rfl ⟨Nat.le_of_ble_eq_true rfl, Nat.le_of_ble_eq_true rfl⟩ rfl (Nat.le_of_ble_eq_true rfl) dX8_saying_8 ⟨Nat.le_of_ble_eq_true rfl, Nat.le_of_ble_eq_true rfl⟩ (fun r_2 ux H locs hr8 hP hD hS hz8 => ?_)
    have hP := hP.sub (ws' := [(o, .inr (8, [.ref ob, .ref on, .ref ow8, .ref os, .ref oe, .int (nI sc8), .ref oi, .int (nI cn8), .ref op, .int (nI bt), .int (oI gA), .int (oI gR), .int rs8, .int (nI a8), .ref oz, .ref oc8, .ref oq, .ref om, .ref oy, .ref og, .ref ok8])), (ob, .inl (Y 0, 24, .inl (aN (bk gh gca gun prs yrs)))), (ow8, .inl (Y 0, 10, .inl (aN gro))), (os, .inl (Y 0, 10, .inl (aN gsh)))]) [0, 1, 2, 3] rfl
    have hD := hD.sub (ws' := [(o, .inr (8, [.ref ob, .ref on, .ref ow8, .ref os, .ref oe, .int (nI sc8), .ref oi, .int (nI cn8), .ref op, .int (nI bt), .int (oI gA), .int (oI gR), .int rs8, .int (nI a8), .ref oz, .ref oc8, .ref oq, .ref om, .ref oy, .ref og, .ref ok8])), (ob, .inl (Y 0, 24, .inl (aN (bk gh gca gun prs yrs)))), (ow8, .inl (Y 0, 10, .inl (aN gro))), (os, .inl (Y 0, 10, .inl (aN gsh)))]) [0, 1, 2, 3] (by decide) rfl
    have hr8 : r_2 = nI (bN (inQ x2 0 5)) := hr8
    subst hr8
    refine mv_if_ne (tgt := 16) hx hb (by first | omega | exact Nat.lt_trans (bN_lt _) (by decide)) dX8_saying_11 (by decide) (fun c11 => ?_) (fun c11 => ?_)
    · skip
      obtain ⟨kx2, hka_x2, hkb_x2, rfl⟩ := inQ_ex (by decide) (bN_1.mp c11)
      have hq_x2 : inQ (nI kx2) 0 5 = true := bN_1.mp c11
      have hcl_x2 : (nI kx2).toNatClampNeg = kx2 := nI_clamp (by omega)
      refine lv_iload_n hx hb dX8_saying_16 rfl (lv_at hl 3 rfl) ?_
      refine lv_iconst (v := nI 0) hx hb dX8_saying_17 (by decide) ?_
      refine lv_ldc (v := nI 65535) hx hb hown (hts _ mw_117) dX8_saying_18 ?_
      refine mv_callSi (nA := 3) (As := [.int x3, .int (nI 0), .int (nI 65535)]) (rest := []) (Wc := []) (wr := [(o, .inr (8, [.ref ob, .ref on, .ref ow8, .ref os, .ref oe, .int (nI sc8), .ref oi, .int (nI cn8), .ref op, .int (nI bt), .int (oI gA), .int (oI gR), .int rs8, .int (nI a8), .ref oz, .ref oc8, .ref oq, .ref om, .ref oy, .ref og, .ref ok8])), (ob, .inl (Y 0, 24, .inl (aN (bk gh gca gun prs yrs)))), (ow8, .inl (Y 0, 10, .inl (aN gro))), (os, .inl (Y 0, 10, .inl (aN gsh)))]) hx hb hml hown hts hK hP hD hS hST hA hl.1 (c_X8_inR l D Y _ x3 0 65535 ) [] [0, 1, 2, 3] rfl rfl (by decide) (by decide) (by decide) rfl mw_121 mw_122 mw_5 mw_123 ⟨by decide, by decide, by decide +kernel⟩ rfl ⟨Nat.le_of_ble_eq_true rfl, Nat.le_of_ble_eq_true rfl⟩ rfl (Nat.le_of_ble_eq_true rfl) dX8_saying_20 ⟨Nat.le_of_ble_eq_true rfl, Nat.le_of_ble_eq_true rfl⟩ (fun r_3 ux H locs hr20 hP hD hS hz20 => ?_)
      have hP := hP.sub (ws' := [(o, .inr (8, [.ref ob, .ref on, .ref ow8, .ref os, .ref oe, .int (nI sc8), .ref oi, .int (nI cn8), .ref op, .int (nI bt), .int (oI gA), .int (oI gR), .int rs8, .int (nI a8), .ref oz, .ref oc8, .ref oq, .ref om, .ref oy, .ref og, .ref ok8])), (ob, .inl (Y 0, 24, .inl (aN (bk gh gca gun prs yrs)))), (ow8, .inl (Y 0, 10, .inl (aN gro))), (os, .inl (Y 0, 10, .inl (aN gsh)))]) [0, 1, 2, 3] rfl
      have hD := hD.sub (ws' := [(o, .inr (8, [.ref ob, .ref on, .ref ow8, .ref os, .ref oe, .int (nI sc8), .ref oi, .int (nI cn8), .ref op, .int (nI bt), .int (oI gA), .int (oI gR), .int rs8, .int (nI a8), .ref oz, .ref oc8, .ref oq, .ref om, .ref oy, .ref og, .ref ok8])), (ob, .inl (Y 0, 24, .inl (aN (bk gh gca gun prs yrs)))), (ow8, .inl (Y 0, 10, .inl (aN gro))), (os, .inl (Y 0, 10, .inl (aN gsh)))]) [0, 1, 2, 3] (by decide) rfl
      have hr20 : r_3 = nI (bN (inQ x3 0 65535)) := hr20
      subst hr20
      refine mv_if_eq (tgt := 37) hx hb (by first | omega | exact Nat.lt_trans (bN_lt _) (by decide)) dX8_saying_23 (by decide) (fun c23 => ?_) (fun c23 => ?_)
      · skip
        have hn_x3_c23 : inQ x3 0 65535 = false := bN_0.mp c23
        refine lv_bipush (v := -2) hx hb dX8_saying_37 (by decide) ?_
        exact mv_iret hx hb hr hlocks (gro, gsh, gun) (by simp only [sp_saying, hq_x1, hcl_x1, hq_x2, hcl_x2, hn_x3_c23, Bool.not_true, Bool.not_false, if_true, if_false, Bool.false_eq_true, reduceIte, Bool.true_and, Bool.and_true, Bool.false_and, Bool.and_false, Bool.or_false, Bool.or_true]) hP hK hD hS dX8_saying_39
      · skip
        obtain ⟨kx3, hka_x3, hkb_x3, rfl⟩ := inQ_ex (by decide) (bN_1.mp c23)
        have hq_x3 : inQ (nI kx3) 0 65535 = true := bN_1.mp c23
        have hcl_x3 : (nI kx3).toNatClampNeg = kx3 := nI_clamp (by omega)
        refine lv_iload hx hb dX8_saying_26 (lv_at hl 4 rfl) ?_
        refine lv_iconst (v := nI 0) hx hb dX8_saying_28 (by decide) ?_
        refine lv_bipush (v := nI 9) hx hb dX8_saying_29 (by decide) ?_
        refine mv_callSi (nA := 3) (As := [.int x4, .int (nI 0), .int (nI 9)]) (rest := []) (Wc := []) (wr := [(o, .inr (8, [.ref ob, .ref on, .ref ow8, .ref os, .ref oe, .int (nI sc8), .ref oi, .int (nI cn8), .ref op, .int (nI bt), .int (oI gA), .int (oI gR), .int rs8, .int (nI a8), .ref oz, .ref oc8, .ref oq, .ref om, .ref oy, .ref og, .ref ok8])), (ob, .inl (Y 0, 24, .inl (aN (bk gh gca gun prs yrs)))), (ow8, .inl (Y 0, 10, .inl (aN gro))), (os, .inl (Y 0, 10, .inl (aN gsh)))]) hx hb hml hown hts hK hP hD hS hST hA hl.1 (c_X8_inR l D Y _ x4 0 9 ) [] [0, 1, 2, 3] rfl rfl (by decide) (by decide) (by decide) rfl mw_121 mw_122 mw_5 mw_123 ⟨by decide, by decide, by decide +kernel⟩ rfl ⟨Nat.le_of_ble_eq_true rfl, Nat.le_of_ble_eq_true rfl⟩ rfl (Nat.le_of_ble_eq_true rfl) dX8_saying_31 ⟨Nat.le_of_ble_eq_true rfl, Nat.le_of_ble_eq_true rfl⟩ (fun r_4 ux H locs hr31 hP hD hS hz31 => ?_)
        have hP := hP.sub (ws' := [(o, .inr (8, [.ref ob, .ref on, .ref ow8, .ref os, .ref oe, .int (nI sc8), .ref oi, .int (nI cn8), .ref op, .int (nI bt), .int (oI gA), .int (oI gR), .int rs8, .int (nI a8), .ref oz, .ref oc8, .ref oq, .ref om, .ref oy, .ref og, .ref ok8])), (ob, .inl (Y 0, 24, .inl (aN (bk gh gca gun prs yrs)))), (ow8, .inl (Y 0, 10, .inl (aN gro))), (os, .inl (Y 0, 10, .inl (aN gsh)))]) [0, 1, 2, 3] rfl
        have hD := hD.sub (ws' := [(o, .inr (8, [.ref ob, .ref on, .ref ow8, .ref os, .ref oe, .int (nI sc8), .ref oi, .int (nI cn8), .ref op, .int (nI bt), .int (oI gA), .int (oI gR), .int rs8, .int (nI a8), .ref oz, .ref oc8, .ref oq, .ref om, .ref oy, .ref og, .ref ok8])), (ob, .inl (Y 0, 24, .inl (aN (bk gh gca gun prs yrs)))), (ow8, .inl (Y 0, 10, .inl (aN gro))), (os, .inl (Y 0, 10, .inl (aN gsh)))]) [0, 1, 2, 3] (by decide) rfl
        have hr31 : r_4 = nI (bN (inQ x4 0 9)) := hr31
        subst hr31
        refine mv_if_ne (tgt := 40) hx hb (by first | omega | exact Nat.lt_trans (bN_lt _) (by decide)) dX8_saying_34 (by decide) (fun c34 => ?_) (fun c34 => ?_)
        · skip
          obtain ⟨kx4, hka_x4, hkb_x4, rfl⟩ := inQ_ex (by decide) (bN_1.mp c34)
          have hq_x4 : inQ (nI kx4) 0 9 = true := bN_1.mp c34
          have hcl_x4 : (nI kx4).toNatClampNeg = kx4 := nI_clamp (by omega)
          refine lv_aload_n hx hb dX8_saying_40 rfl (lv_at hl 0 rfl) ?_
          refine va_get (D := D) (ci := 8) (v := .ref ob) (C := RX8) (T := TX8) (N := 21) hx hb hts inlX8 hown hK hP 0 rfl rfl 0 (by decide) (hts _ mw_83) (fun _ h9 => h9) rfl dX8_saying_41 ?_
          refine lv_bipush (v := nI 12) hx hb dX8_saying_44 (by decide) ?_
          refine lv_iload_n hx hb dX8_saying_46 rfl (lv_at hl 1 rfl) ?_
          refine mv_iadd hx hb dX8_saying_47 ?_
          refine mv_iald hx hb hK hP 1 rfl (i := 12 + kx1) (by omega) (by decide) dX8_saying_48 ?_
          rw [show (bk gh gca gun prs yrs) (12 + kx1) = gun kx1 from bk_u (by omega)]
          refine lv_istore (lv' := [(5, .int (nI (gun kx1))), (0, .ref o), (1, .int (nI kx1)), (2, .int (nI kx2)), (3, .int (nI kx3)), (4, .int (nI kx4))]) hx hb dX8_saying_49 hl (by decide) rfl (fun ls hl => ?_)
          refine lv_aload_n hx hb dX8_saying_51 rfl (lv_at hl 1 rfl) ?_
          refine va_get (D := D) (ci := 8) (v := .ref ow8) (C := RX8) (T := TX8) (N := 21) hx hb hts inlX8 hown hK hP 0 rfl rfl 2 (by decide) (hts _ mw_85) (fun _ h9 => h9) rfl dX8_saying_52 ?_
          refine lv_iload_n hx hb dX8_saying_55 rfl (lv_at hl 2 rfl) ?_
          refine lv_iload_n hx hb dX8_saying_56 rfl (lv_at hl 3 rfl) ?_
          refine mv_iast hx hb hK hP hD hS 2 rfl (i := kx1) (v := kx2) (by omega) (by decide) dX8_saying_57 (fun H locs hP hD hS => ?_)
          have hP : va_P D vwCl [(o, .inr (8, [.ref ob, .ref on, .ref ow8, .ref os, .ref oe, .int (nI sc8), .ref oi, .int (nI cn8), .ref op, .int (nI bt), .int (oI gA), .int (oI gR), .int rs8, .int (nI a8), .ref oz, .ref oc8, .ref oq, .ref om, .ref oy, .ref og, .ref ok8])), (ob, .inl (Y 0, 24, .inl (aN (bk gh gca gun prs yrs)))), (ow8, .inl (Y 0, 10, .inl (aN (uN gro kx1 kx2)))), (os, .inl (Y 0, 10, .inl (aN gsh)))] H := hP
          have hD : va_D A [(o, .inr (8, [.ref ob, .ref on, .ref ow8, .ref os, .ref oe, .int (nI sc8), .ref oi, .int (nI cn8), .ref op, .int (nI bt), .int (oI gA), .int (oI gR), .int rs8, .int (nI a8), .ref oz, .ref oc8, .ref oq, .ref om, .ref oy, .ref og, .ref ok8])), (ob, .inl (Y 0, 24, .inl (aN (bk gh gca gun prs yrs)))), (ow8, .inl (Y 0, 10, .inl (aN (uN gro kx1 kx2)))), (os, .inl (Y 0, 10, .inl (aN gsh)))] := hD
          refine lv_aload_n hx hb dX8_saying_58 rfl (lv_at hl 1 rfl) ?_
          refine va_get (D := D) (ci := 8) (v := .ref os) (C := RX8) (T := TX8) (N := 21) hx hb hts inlX8 hown hK hP 0 rfl rfl 3 (by decide) (hts _ mw_86) (fun _ h9 => h9) rfl dX8_saying_59 ?_
          refine lv_iload_n hx hb dX8_saying_62 rfl (lv_at hl 2 rfl) ?_
          refine lv_iload_n hx hb dX8_saying_63 rfl (lv_at hl 4 rfl) ?_
          refine mv_iast hx hb hK hP hD hS 3 rfl (i := kx1) (v := kx3) (by omega) (by decide) dX8_saying_64 (fun H locs hP hD hS => ?_)
          have hP : va_P D vwCl [(o, .inr (8, [.ref ob, .ref on, .ref ow8, .ref os, .ref oe, .int (nI sc8), .ref oi, .int (nI cn8), .ref op, .int (nI bt), .int (oI gA), .int (oI gR), .int rs8, .int (nI a8), .ref oz, .ref oc8, .ref oq, .ref om, .ref oy, .ref og, .ref ok8])), (ob, .inl (Y 0, 24, .inl (aN (bk gh gca gun prs yrs)))), (ow8, .inl (Y 0, 10, .inl (aN (uN gro kx1 kx2)))), (os, .inl (Y 0, 10, .inl (aN (uN gsh kx1 kx3))))] H := hP
          have hD : va_D A [(o, .inr (8, [.ref ob, .ref on, .ref ow8, .ref os, .ref oe, .int (nI sc8), .ref oi, .int (nI cn8), .ref op, .int (nI bt), .int (oI gA), .int (oI gR), .int rs8, .int (nI a8), .ref oz, .ref oc8, .ref oq, .ref om, .ref oy, .ref og, .ref ok8])), (ob, .inl (Y 0, 24, .inl (aN (bk gh gca gun prs yrs)))), (ow8, .inl (Y 0, 10, .inl (aN (uN gro kx1 kx2)))), (os, .inl (Y 0, 10, .inl (aN (uN gsh kx1 kx3))))] := hD
          refine lv_aload_n hx hb dX8_saying_65 rfl (lv_at hl 1 rfl) ?_
          refine va_get (D := D) (ci := 8) (v := .ref ob) (C := RX8) (T := TX8) (N := 21) hx hb hts inlX8 hown hK hP 0 rfl rfl 0 (by decide) (hts _ mw_83) (fun _ h9 => h9) rfl dX8_saying_66 ?_
          refine lv_bipush (v := nI 12) hx hb dX8_saying_69 (by decide) ?_
          refine lv_iload_n hx hb dX8_saying_71 rfl (lv_at hl 2 rfl) ?_
          refine mv_iadd hx hb dX8_saying_72 ?_
          refine lv_iload hx hb dX8_saying_73 (lv_at hl 5 rfl) ?_
          refine mv_iast hx hb hK hP hD hS 1 rfl (i := 12 + kx1) (v := kx4) (by omega) (by decide) dX8_saying_75 (fun H locs hP hD hS => ?_)
          have hP : va_P D vwCl [(o, .inr (8, [.ref ob, .ref on, .ref ow8, .ref os, .ref oe, .int (nI sc8), .ref oi, .int (nI cn8), .ref op, .int (nI bt), .int (oI gA), .int (oI gR), .int rs8, .int (nI a8), .ref oz, .ref oc8, .ref oq, .ref om, .ref oy, .ref og, .ref ok8])), (ob, .inl (Y 0, 24, .inl (aN (uN (bk gh gca gun prs yrs) (12 + kx1) kx4)))), (ow8, .inl (Y 0, 10, .inl (aN (uN gro kx1 kx2)))), (os, .inl (Y 0, 10, .inl (aN (uN gsh kx1 kx3))))] H := hP
          have hD : va_D A [(o, .inr (8, [.ref ob, .ref on, .ref ow8, .ref os, .ref oe, .int (nI sc8), .ref oi, .int (nI cn8), .ref op, .int (nI bt), .int (oI gA), .int (oI gR), .int rs8, .int (nI a8), .ref oz, .ref oc8, .ref oq, .ref om, .ref oy, .ref og, .ref ok8])), (ob, .inl (Y 0, 24, .inl (aN (uN (bk gh gca gun prs yrs) (12 + kx1) kx4)))), (ow8, .inl (Y 0, 10, .inl (aN (uN gro kx1 kx2)))), (os, .inl (Y 0, 10, .inl (aN (uN gsh kx1 kx3))))] := hD
          rw [show uN (bk gh gca gun prs yrs) (12 + kx1) kx4 = bk gh gca (uN gun kx1 kx4) prs yrs from uN_bk_u (by omega)] at hP hD
          refine lv_iload hx hb dX8_saying_76 (lv_at hl 0 rfl) ?_
          exact mv_iret hx hb hr hlocks (uN gro kx1 kx2, uN gsh kx1 kx3, uN gun kx1 kx4) (by simp only [sp_saying, hq_x1, hcl_x1, hq_x2, hcl_x2, hq_x3, hcl_x3, hq_x4, hcl_x4, Bool.not_true, Bool.not_false, if_true, if_false, Bool.false_eq_true, reduceIte, Bool.true_and, Bool.and_true, Bool.false_and, Bool.and_false, Bool.or_false, Bool.or_true]) hP hK hD hS dX8_saying_78
        · skip
          have hn_x4_c34 : inQ x4 0 9 = false := bN_0.mp c34
          refine lv_bipush (v := -2) hx hb dX8_saying_37 (by decide) ?_
          exact mv_iret hx hb hr hlocks (gro, gsh, gun) (by simp only [sp_saying, hq_x1, hcl_x1, hq_x2, hcl_x2, hq_x3, hcl_x3, hn_x4_c34, Bool.not_true, Bool.not_false, if_true, if_false, Bool.false_eq_true, reduceIte, Bool.true_and, Bool.and_true, Bool.false_and, Bool.and_false, Bool.or_false, Bool.or_true]) hP hK hD hS dX8_saying_39
    · skip
      have hn_x2_c11 : inQ x2 0 5 = false := bN_0.mp c11
      refine lv_iconst (v := nI 4294967295) hx hb dX8_saying_14 (by decide) ?_
      exact mv_iret hx hb hr hlocks (gro, gsh, gun) (by simp only [sp_saying, hq_x1, hcl_x1, hn_x2_c11, Bool.not_true, Bool.not_false, if_true, if_false, Bool.false_eq_true, reduceIte, Bool.true_and, Bool.and_true, Bool.false_and, Bool.and_false, Bool.or_false, Bool.or_true]) hP hK hD hS dX8_saying_15
abbrev q_X8_occasion (D : va_G) (Y : Nat → ClassId) (o : Nat) (ob : Nat) (on : Nat) (ow8 : Nat) (os : Nat) (oe : Nat) (oi : Nat) (op : Nat) (oz : Nat) (oc8 : Nat) (oq : Nat) (om : Nat) (oy : Nat) (og : Nat) (ok8 : Nat) (sc8 : Nat) (cn8 : Nat) (bt : Nat) (a8 : Nat) (rs8 : Int32) (gA : Option Nat) (gR : Option Nat) (gso : Nat → Nat) (x1 : Int32) (x2 : Int32) : (Nat → Prop) → Array Value → State → Outcome → State → Prop := mv_Qi D Y (fun (r : Int32) (ux : (Nat → Nat)) => (r, ux) = sp_occ gso x1 x2) (fun ux : (Nat → Nat) => ([(o, .inr (8, [.ref ob, .ref on, .ref ow8, .ref os, .ref oe, .int (nI sc8), .ref oi, .int (nI cn8), .ref op, .int (nI bt), .int (oI gA), .int (oI gR), .int rs8, .int (nI a8), .ref oz, .ref oc8, .ref oq, .ref om, .ref oy, .ref og, .ref ok8])), (oe, .inl (Y 0, 5, .inl (aN ux)))] : va_W))
set_option maxHeartbeats 4000000 in
set_option maxRecDepth 100000 in
theorem c_X8_occasion (l : Launch) (D : va_G) (Y : Nat → ClassId) (sz : Nat) (o : Nat) (ob : Nat) (on : Nat) (ow8 : Nat) (os : Nat) (oe : Nat) (oi : Nat) (op : Nat) (oz : Nat) (oc8 : Nat) (oq : Nat) (om : Nat) (oy : Nat) (og : Nat) (ok8 : Nat) (sc8 : Nat) (cn8 : Nat) (bt : Nat) (a8 : Nat) (rs8 : Int32) (gA : Option Nat) (gR : Option Nat) (gso : Nat → Nat) (x1 : Int32) (x2 : Int32)  : mv_C l D Y yX8_occasion cX8_occasion 4 (some .int) 1 0 0 [.ref o, .int x1, .int x2] sz [(o, .inr (8, [.ref ob, .ref on, .ref ow8, .ref os, .ref oe, .int (nI sc8), .ref oi, .int (nI cn8), .ref op, .int (nI bt), .int (oI gA), .int (oI gR), .int rs8, .int (nI a8), .ref oz, .ref oc8, .ref oq, .ref om, .ref oy, .ref og, .ref ok8])), (oe, .inl (Y 0, 5, .inl (aN gso)))] (q_X8_occasion D Y o ob on ow8 os oe oi op oz oc8 oq om oy og ok8 sc8 cn8 bt a8 rs8 gA gR gso x1 x2) := by
  refine mv_ofW (by decide) (Nat.le_of_ble_eq_true rfl) ?_
  intro p e s m below meth c ls A hx hb hr hlocks hml hnm hown hts hsz hAe hP hK hD hS hST hA hl
  have hl : lv_has ls 4 [(0, .ref o), (1, .int x1), (2, .int x2)] := hl
  refine lv_iload_n hx hb dX8_occasion_0 rfl (lv_at hl 1 rfl) ?_
  refine lv_iconst (v := nI 0) hx hb dX8_occasion_1 (by decide) ?_
  refine lv_iconst (v := nI 4) hx hb dX8_occasion_2 (by decide) ?_
  refine mv_callSi (nA := 3) (As := [.int x1, .int (nI 0), .int (nI 4)]) (rest := []) (Wc := []) (wr := [(o, .inr (8, [.ref ob, .ref on, .ref ow8, .ref os, .ref oe, .int (nI sc8), .ref oi, .int (nI cn8), .ref op, .int (nI bt), .int (oI gA), .int (oI gR), .int rs8, .int (nI a8), .ref oz, .ref oc8, .ref oq, .ref om, .ref oy, .ref og, .ref ok8])), (oe, .inl (Y 0, 5, .inl (aN gso)))]) hx hb hml hown hts hK hP hD hS hST hA hl.1 (c_X8_inR l D Y _ x1 0 4 ) [] [0, 1] rfl rfl (by decide) (by decide) (by decide) rfl mw_121 mw_122 mw_5 mw_123 ⟨by decide, by decide, by decide +kernel⟩ rfl ⟨Nat.le_of_ble_eq_true rfl, Nat.le_of_ble_eq_true rfl⟩ rfl (Nat.le_of_ble_eq_true rfl) dX8_occasion_3 ⟨Nat.le_of_ble_eq_true rfl, Nat.le_of_ble_eq_true rfl⟩ (fun r_1 ux H locs hr3 hP hD hS hz3 => ?_)
  have hP := hP.sub (ws' := [(o, .inr (8, [.ref ob, .ref on, .ref ow8, .ref os, .ref oe, .int (nI sc8), .ref oi, .int (nI cn8), .ref op, .int (nI bt), .int (oI gA), .int (oI gR), .int rs8, .int (nI a8), .ref oz, .ref oc8, .ref oq, .ref om, .ref oy, .ref og, .ref ok8])), (oe, .inl (Y 0, 5, .inl (aN gso)))]) [0, 1] rfl
  have hD := hD.sub (ws' := [(o, .inr (8, [.ref ob, .ref on, .ref ow8, .ref os, .ref oe, .int (nI sc8), .ref oi, .int (nI cn8), .ref op, .int (nI bt), .int (oI gA), .int (oI gR), .int rs8, .int (nI a8), .ref oz, .ref oc8, .ref oq, .ref om, .ref oy, .ref og, .ref ok8])), (oe, .inl (Y 0, 5, .inl (aN gso)))]) [0, 1] (by decide) rfl
  have hr3 : r_1 = nI (bN (inQ x1 0 4)) := hr3
  subst hr3
  refine mv_if_ne (tgt := 11) hx hb (by first | omega | exact Nat.lt_trans (bN_lt _) (by decide)) dX8_occasion_6 (by decide) (fun c6 => ?_) (fun c6 => ?_)
  · skip
    obtain ⟨kx1, hka_x1, hkb_x1, rfl⟩ := inQ_ex (by decide) (bN_1.mp c6)
    have hq_x1 : inQ (nI kx1) 0 4 = true := bN_1.mp c6
    have hcl_x1 : (nI kx1).toNatClampNeg = kx1 := nI_clamp (by omega)
    refine lv_iload_n hx hb dX8_occasion_11 rfl (lv_at hl 2 rfl) ?_
    refine lv_iconst (v := nI 0) hx hb dX8_occasion_12 (by decide) ?_
    refine lv_ldc (v := nI 65535) hx hb hown (hts _ mw_117) dX8_occasion_13 ?_
    refine mv_callSi (nA := 3) (As := [.int x2, .int (nI 0), .int (nI 65535)]) (rest := []) (Wc := []) (wr := [(o, .inr (8, [.ref ob, .ref on, .ref ow8, .ref os, .ref oe, .int (nI sc8), .ref oi, .int (nI cn8), .ref op, .int (nI bt), .int (oI gA), .int (oI gR), .int rs8, .int (nI a8), .ref oz, .ref oc8, .ref oq, .ref om, .ref oy, .ref og, .ref ok8])), (oe, .inl (Y 0, 5, .inl (aN gso)))]) hx hb hml hown hts hK hP hD hS hST hA hl.1 (c_X8_inR l D Y _ x2 0 65535 ) [] [0, 1] rfl rfl (by decide) (by decide) (by decide) rfl mw_121 mw_122 mw_5 mw_123 ⟨by decide, by decide, by decide +kernel⟩ rfl ⟨Nat.le_of_ble_eq_true rfl, Nat.le_of_ble_eq_true rfl⟩ rfl (Nat.le_of_ble_eq_true rfl) dX8_occasion_15 ⟨Nat.le_of_ble_eq_true rfl, Nat.le_of_ble_eq_true rfl⟩ (fun r_2 ux H locs hr15 hP hD hS hz15 => ?_)
    have hP := hP.sub (ws' := [(o, .inr (8, [.ref ob, .ref on, .ref ow8, .ref os, .ref oe, .int (nI sc8), .ref oi, .int (nI cn8), .ref op, .int (nI bt), .int (oI gA), .int (oI gR), .int rs8, .int (nI a8), .ref oz, .ref oc8, .ref oq, .ref om, .ref oy, .ref og, .ref ok8])), (oe, .inl (Y 0, 5, .inl (aN gso)))]) [0, 1] rfl
    have hD := hD.sub (ws' := [(o, .inr (8, [.ref ob, .ref on, .ref ow8, .ref os, .ref oe, .int (nI sc8), .ref oi, .int (nI cn8), .ref op, .int (nI bt), .int (oI gA), .int (oI gR), .int rs8, .int (nI a8), .ref oz, .ref oc8, .ref oq, .ref om, .ref oy, .ref og, .ref ok8])), (oe, .inl (Y 0, 5, .inl (aN gso)))]) [0, 1] (by decide) rfl
    have hr15 : r_2 = nI (bN (inQ x2 0 65535)) := hr15
    subst hr15
    refine mv_if_ne (tgt := 24) hx hb (by first | omega | exact Nat.lt_trans (bN_lt _) (by decide)) dX8_occasion_18 (by decide) (fun c18 => ?_) (fun c18 => ?_)
    · skip
      obtain ⟨kx2, hka_x2, hkb_x2, rfl⟩ := inQ_ex (by decide) (bN_1.mp c18)
      have hq_x2 : inQ (nI kx2) 0 65535 = true := bN_1.mp c18
      have hcl_x2 : (nI kx2).toNatClampNeg = kx2 := nI_clamp (by omega)
      refine lv_aload_n hx hb dX8_occasion_24 rfl (lv_at hl 0 rfl) ?_
      refine va_get (D := D) (ci := 8) (v := .ref oe) (C := RX8) (T := TX8) (N := 21) hx hb hts inlX8 hown hK hP 0 rfl rfl 4 (by decide) (hts _ mw_87) (fun _ h9 => h9) rfl dX8_occasion_25 ?_
      refine lv_iload_n hx hb dX8_occasion_28 rfl (lv_at hl 1 rfl) ?_
      refine mv_iald hx hb hK hP 1 rfl (i := kx1) (by omega) (by decide) dX8_occasion_29 ?_
      refine lv_istore_n (lv' := [(3, .int (nI (gso kx1))), (0, .ref o), (1, .int (nI kx1)), (2, .int (nI kx2))]) hx hb dX8_occasion_30 rfl hl (by decide) rfl (fun ls hl => ?_)
      refine lv_aload_n hx hb dX8_occasion_31 rfl (lv_at hl 1 rfl) ?_
      refine va_get (D := D) (ci := 8) (v := .ref oe) (C := RX8) (T := TX8) (N := 21) hx hb hts inlX8 hown hK hP 0 rfl rfl 4 (by decide) (hts _ mw_87) (fun _ h9 => h9) rfl dX8_occasion_32 ?_
      refine lv_iload_n hx hb dX8_occasion_35 rfl (lv_at hl 2 rfl) ?_
      refine lv_iload_n hx hb dX8_occasion_36 rfl (lv_at hl 3 rfl) ?_
      refine mv_iast hx hb hK hP hD hS 1 rfl (i := kx1) (v := kx2) (by omega) (by decide) dX8_occasion_37 (fun H locs hP hD hS => ?_)
      have hP : va_P D vwCl [(o, .inr (8, [.ref ob, .ref on, .ref ow8, .ref os, .ref oe, .int (nI sc8), .ref oi, .int (nI cn8), .ref op, .int (nI bt), .int (oI gA), .int (oI gR), .int rs8, .int (nI a8), .ref oz, .ref oc8, .ref oq, .ref om, .ref oy, .ref og, .ref ok8])), (oe, .inl (Y 0, 5, .inl (aN (uN gso kx1 kx2))))] H := hP
      have hD : va_D A [(o, .inr (8, [.ref ob, .ref on, .ref ow8, .ref os, .ref oe, .int (nI sc8), .ref oi, .int (nI cn8), .ref op, .int (nI bt), .int (oI gA), .int (oI gR), .int rs8, .int (nI a8), .ref oz, .ref oc8, .ref oq, .ref om, .ref oy, .ref og, .ref ok8])), (oe, .inl (Y 0, 5, .inl (aN (uN gso kx1 kx2))))] := hD
      refine lv_iload_n hx hb dX8_occasion_38 rfl (lv_at hl 0 rfl) ?_
      exact mv_iret hx hb hr hlocks (uN gso kx1 kx2) (by simp only [sp_occ, hq_x1, hcl_x1, hq_x2, hcl_x2, Bool.not_true, Bool.not_false, if_true, if_false, Bool.false_eq_true, reduceIte, Bool.true_and, Bool.and_true, Bool.false_and, Bool.and_false, Bool.or_false, Bool.or_true]) hP hK hD hS dX8_occasion_39
    · skip
      have hn_x2_c18 : inQ x2 0 65535 = false := bN_0.mp c18
      refine lv_bipush (v := -2) hx hb dX8_occasion_21 (by decide) ?_
      exact mv_iret hx hb hr hlocks (gso) (by simp only [sp_occ, hq_x1, hcl_x1, hn_x2_c18, Bool.not_true, Bool.not_false, if_true, if_false, Bool.false_eq_true, reduceIte, Bool.true_and, Bool.and_true, Bool.false_and, Bool.and_false, Bool.or_false, Bool.or_true]) hP hK hD hS dX8_occasion_23
  · skip
    have hn_x1_c6 : inQ x1 0 4 = false := bN_0.mp c6
    refine lv_iconst (v := nI 4294967295) hx hb dX8_occasion_9 (by decide) ?_
    exact mv_iret hx hb hr hlocks (gso) (by simp only [sp_occ, hn_x1_c6, Bool.not_true, Bool.not_false, if_true, if_false, Bool.false_eq_true, reduceIte, Bool.true_and, Bool.and_true, Bool.false_and, Bool.and_false, Bool.or_false, Bool.or_true]) hP hK hD hS dX8_occasion_10
abbrev q_X8_say (D : va_G) (Y : Nat → ClassId) (o : Nat) (ob : Nat) (on : Nat) (ow8 : Nat) (os : Nat) (oe : Nat) (oi : Nat) (op : Nat) (oz : Nat) (oc8 : Nat) (oq : Nat) (om : Nat) (oy : Nat) (og : Nat) (ok8 : Nat) (sc8 : Nat) (cn8 : Nat) (bt : Nat) (a8 : Nat) (rs8 : Int32) (gA : Option Nat) (gR : Option Nat) (g : Nat → Nat) (x1 : Int32) : (Nat → Prop) → Array Value → State → Outcome → State → Prop := mv_Qi D Y (fun (r : Int32) (ux : (Nat → Nat) × Nat) => (r, ux.1, ux.2) = sp_say g cn8 x1) (fun ux : (Nat → Nat) × Nat => ([(o, .inr (8, [.ref ob, .ref on, .ref ow8, .ref os, .ref oe, .int (nI sc8), .ref oi, .int (nI ux.2), .ref op, .int (nI bt), .int (oI gA), .int (oI gR), .int rs8, .int (nI a8), .ref oz, .ref oc8, .ref oq, .ref om, .ref oy, .ref og, .ref ok8])), (op, .inl (Y 0, 60, .inl (aN ux.1)))] : va_W))
set_option maxHeartbeats 4000000 in
set_option maxRecDepth 100000 in
theorem c_X8_say (l : Launch) (D : va_G) (Y : Nat → ClassId) (sz : Nat) (o : Nat) (ob : Nat) (on : Nat) (ow8 : Nat) (os : Nat) (oe : Nat) (oi : Nat) (op : Nat) (oz : Nat) (oc8 : Nat) (oq : Nat) (om : Nat) (oy : Nat) (og : Nat) (ok8 : Nat) (sc8 : Nat) (cn8 : Nat) (bt : Nat) (a8 : Nat) (rs8 : Int32) (gA : Option Nat) (gR : Option Nat) (g : Nat → Nat) (x1 : Int32) (hcnt : cn8 ≤ 60) : mv_C l D Y yX8_say cX8_say 2 (some .int) 1 0 0 [.ref o, .int x1] sz [(o, .inr (8, [.ref ob, .ref on, .ref ow8, .ref os, .ref oe, .int (nI sc8), .ref oi, .int (nI cn8), .ref op, .int (nI bt), .int (oI gA), .int (oI gR), .int rs8, .int (nI a8), .ref oz, .ref oc8, .ref oq, .ref om, .ref oy, .ref og, .ref ok8])), (op, .inl (Y 0, 60, .inl (aN g)))] (q_X8_say D Y o ob on ow8 os oe oi op oz oc8 oq om oy og ok8 sc8 cn8 bt a8 rs8 gA gR g x1) := by
  refine mv_ofW (by decide) (Nat.le_of_ble_eq_true rfl) ?_
  intro p e s m below meth c ls A hx hb hr hlocks hml hnm hown hts hsz hAe hP hK hD hS hST hA hl
  have hl : lv_has ls 2 [(0, .ref o), (1, .int x1)] := hl
  refine lv_iload_n hx hb dX8_say_0 rfl (lv_at hl 1 rfl) ?_
  refine lv_bipush (v := nI 33) hx hb dX8_say_1 (by decide) ?_
  refine lv_bipush (v := nI 126) hx hb dX8_say_3 (by decide) ?_
  refine mv_callSi (nA := 3) (As := [.int x1, .int (nI 33), .int (nI 126)]) (rest := []) (Wc := []) (wr := [(o, .inr (8, [.ref ob, .ref on, .ref ow8, .ref os, .ref oe, .int (nI sc8), .ref oi, .int (nI cn8), .ref op, .int (nI bt), .int (oI gA), .int (oI gR), .int rs8, .int (nI a8), .ref oz, .ref oc8, .ref oq, .ref om, .ref oy, .ref og, .ref ok8])), (op, .inl (Y 0, 60, .inl (aN g)))]) hx hb hml hown hts hK hP hD hS hST hA hl.1 (c_X8_inR l D Y _ x1 33 126 ) [] [0, 1] rfl rfl (by decide) (by decide) (by decide) rfl mw_121 mw_122 mw_5 mw_123 ⟨by decide, by decide, by decide +kernel⟩ rfl ⟨Nat.le_of_ble_eq_true rfl, Nat.le_of_ble_eq_true rfl⟩ rfl (Nat.le_of_ble_eq_true rfl) dX8_say_5 ⟨Nat.le_of_ble_eq_true rfl, Nat.le_of_ble_eq_true rfl⟩ (fun r_1 ux H locs hr5 hP hD hS hz5 => ?_)
  have hP := hP.sub (ws' := [(o, .inr (8, [.ref ob, .ref on, .ref ow8, .ref os, .ref oe, .int (nI sc8), .ref oi, .int (nI cn8), .ref op, .int (nI bt), .int (oI gA), .int (oI gR), .int rs8, .int (nI a8), .ref oz, .ref oc8, .ref oq, .ref om, .ref oy, .ref og, .ref ok8])), (op, .inl (Y 0, 60, .inl (aN g)))]) [0, 1] rfl
  have hD := hD.sub (ws' := [(o, .inr (8, [.ref ob, .ref on, .ref ow8, .ref os, .ref oe, .int (nI sc8), .ref oi, .int (nI cn8), .ref op, .int (nI bt), .int (oI gA), .int (oI gR), .int rs8, .int (nI a8), .ref oz, .ref oc8, .ref oq, .ref om, .ref oy, .ref og, .ref ok8])), (op, .inl (Y 0, 60, .inl (aN g)))]) [0, 1] (by decide) rfl
  have hr5 : r_1 = nI (bN (inQ x1 33 126)) := hr5
  subst hr5
  refine mv_if_ne (tgt := 14) hx hb (by first | omega | exact Nat.lt_trans (bN_lt _) (by decide)) dX8_say_8 (by decide) (fun c8 => ?_) (fun c8 => ?_)
  · skip
    obtain ⟨kx1, hka_x1, hkb_x1, rfl⟩ := inQ_ex (by decide) (bN_1.mp c8)
    have hq_x1 : inQ (nI kx1) 33 126 = true := bN_1.mp c8
    have hcl_x1 : (nI kx1).toNatClampNeg = kx1 := nI_clamp (by omega)
    refine lv_aload_n hx hb dX8_say_14 rfl (lv_at hl 0 rfl) ?_
    refine va_get (D := D) (ci := 8) (v := .int (nI cn8)) (C := RX8) (T := TX8) (N := 21) hx hb hts inlX8 hown hK hP 0 rfl rfl 7 (by decide) (hts _ mw_167) (fun _ h9 => h9) rfl dX8_say_15 ?_
    refine lv_bipush (v := nI 60) hx hb dX8_say_18 (by decide) ?_
    refine mv_icmp_ne (tgt := 26) hx hb (by first | omega | exact Nat.lt_trans (bN_lt _) (by decide)) (by omega) dX8_say_20 (by decide) (fun c20 => ?_) (fun c20 => ?_)
    · skip
      refine lv_aload_n hx hb dX8_say_26 rfl (lv_at hl 0 rfl) ?_
      refine va_get (D := D) (ci := 8) (v := .ref op) (C := RX8) (T := TX8) (N := 21) hx hb hts inlX8 hown hK hP 0 rfl rfl 8 (by decide) (hts _ mw_89) (fun _ h9 => h9) rfl dX8_say_27 ?_
      refine lv_aload_n hx hb dX8_say_30 rfl (lv_at hl 0 rfl) ?_
      refine va_get (D := D) (ci := 8) (v := .int (nI cn8)) (C := RX8) (T := TX8) (N := 21) hx hb hts inlX8 hown hK hP 0 rfl rfl 7 (by decide) (hts _ mw_167) (fun _ h9 => h9) rfl dX8_say_31 ?_
      refine lv_iload_n hx hb dX8_say_34 rfl (lv_at hl 1 rfl) ?_
      refine mv_iast hx hb hK hP hD hS 1 rfl (i := cn8) (v := kx1) (by omega) (by decide) dX8_say_35 (fun H locs hP hD hS => ?_)
      have hP : va_P D vwCl [(o, .inr (8, [.ref ob, .ref on, .ref ow8, .ref os, .ref oe, .int (nI sc8), .ref oi, .int (nI cn8), .ref op, .int (nI bt), .int (oI gA), .int (oI gR), .int rs8, .int (nI a8), .ref oz, .ref oc8, .ref oq, .ref om, .ref oy, .ref og, .ref ok8])), (op, .inl (Y 0, 60, .inl (aN (uN g cn8 kx1))))] H := hP
      have hD : va_D A [(o, .inr (8, [.ref ob, .ref on, .ref ow8, .ref os, .ref oe, .int (nI sc8), .ref oi, .int (nI cn8), .ref op, .int (nI bt), .int (oI gA), .int (oI gR), .int rs8, .int (nI a8), .ref oz, .ref oc8, .ref oq, .ref om, .ref oy, .ref og, .ref ok8])), (op, .inl (Y 0, 60, .inl (aN (uN g cn8 kx1))))] := hD
      refine lv_aload_n hx hb dX8_say_36 rfl (lv_at hl 0 rfl) ?_
      refine lv_dup hx hb dX8_say_37 rfl ?_
      refine va_get (D := D) (ci := 8) (v := .int (nI cn8)) (C := RX8) (T := TX8) (N := 21) hx hb hts inlX8 hown hK hP 0 rfl rfl 7 (by decide) (hts _ mw_167) (fun _ h9 => h9) rfl dX8_say_38 ?_
      refine lv_iconst (v := nI 1) hx hb dX8_say_41 (by decide) ?_
      refine mv_iadd hx hb dX8_say_42 ?_
      refine va_put (D := D) (ci := 8) (v := .int (nI (cn8 + 1))) (ty := .int) (C := RX8) (T := TX8) (N := 21) hx hb hts inlX8 tyX8 tyX8_ok nmX8 hown hK hP hD hS 0 rfl rfl 7 (by decide) (hts _ mw_167) (fun _ h9 => h9) rfl (by decide +kernel) rfl rfl (Nat.le_of_ble_eq_true rfl) dX8_say_43 (fun H locs hP hD hS => ?_)
      have hP : va_P D vwCl [(o, .inr (8, [.ref ob, .ref on, .ref ow8, .ref os, .ref oe, .int (nI sc8), .ref oi, .int (nI (cn8 + 1)), .ref op, .int (nI bt), .int (oI gA), .int (oI gR), .int rs8, .int (nI a8), .ref oz, .ref oc8, .ref oq, .ref om, .ref oy, .ref og, .ref ok8])), (op, .inl (Y 0, 60, .inl (aN (uN g cn8 kx1))))] H := hP
      have hD : va_D A [(o, .inr (8, [.ref ob, .ref on, .ref ow8, .ref os, .ref oe, .int (nI sc8), .ref oi, .int (nI (cn8 + 1)), .ref op, .int (nI bt), .int (oI gA), .int (oI gR), .int rs8, .int (nI a8), .ref oz, .ref oc8, .ref oq, .ref om, .ref oy, .ref og, .ref ok8])), (op, .inl (Y 0, 60, .inl (aN (uN g cn8 kx1))))] := hD
      refine lv_aload_n hx hb dX8_say_46 rfl (lv_at hl 0 rfl) ?_
      refine va_get (D := D) (ci := 8) (v := .int (nI (cn8 + 1))) (C := RX8) (T := TX8) (N := 21) hx hb hts inlX8 hown hK hP 0 rfl rfl 7 (by decide) (hts _ mw_167) (fun _ h9 => h9) rfl dX8_say_47 ?_
      exact mv_iret hx hb hr hlocks (uN g cn8 kx1, cn8 + 1) (by simp only [sp_say, hq_x1, hcl_x1, Bool.not_true, Bool.not_false, if_true, if_false, Bool.false_eq_true, reduceIte, Bool.true_and, Bool.and_true, Bool.false_and, Bool.and_false, Bool.or_false, Bool.or_true] <;> rw [if_neg (by omega)]) hP hK hD hS dX8_say_50
    · skip
      refine lv_bipush (v := -4) hx hb dX8_say_23 (by decide) ?_
      exact mv_iret hx hb hr hlocks (g, cn8) (by simp only [sp_say, hq_x1, hcl_x1, Bool.not_true, Bool.not_false, if_true, if_false, Bool.false_eq_true, reduceIte, Bool.true_and, Bool.and_true, Bool.false_and, Bool.and_false, Bool.or_false, Bool.or_true] <;> rw [if_pos (by omega)]) hP hK hD hS dX8_say_25
  · skip
    have hn_x1_c8 : inQ x1 33 126 = false := bN_0.mp c8
    refine lv_bipush (v := -2) hx hb dX8_say_11 (by decide) ?_
    exact mv_iret hx hb hr hlocks (g, cn8) (by simp only [sp_say, hn_x1_c8, Bool.not_true, Bool.not_false, if_true, if_false, Bool.false_eq_true, reduceIte, Bool.true_and, Bool.and_true, Bool.false_and, Bool.and_false, Bool.or_false, Bool.or_true]) hP hK hD hS dX8_say_13
abbrev q_X8_wipe (D : va_G) (Y : Nat → ClassId) (o : Nat) (ob : Nat) (on : Nat) (ow8 : Nat) (os : Nat) (oe : Nat) (oi : Nat) (op : Nat) (oz : Nat) (oc8 : Nat) (oq : Nat) (om : Nat) (oy : Nat) (og : Nat) (ok8 : Nat) (sc8 : Nat) (cn8 : Nat) (bt : Nat) (a8 : Nat) (rs8 : Int32) (gA : Option Nat) (gR : Option Nat) : (Nat → Prop) → Array Value → State → Outcome → State → Prop := mv_Qi D Y (fun (r : Int32) (_ : Unit) => r = nI cn8) (fun _ : Unit => ([(o, .inr (8, [.ref ob, .ref on, .ref ow8, .ref os, .ref oe, .int (nI sc8), .ref oi, .int (nI 0), .ref op, .int (nI bt), .int (oI gA), .int (oI gR), .int rs8, .int (nI a8), .ref oz, .ref oc8, .ref oq, .ref om, .ref oy, .ref og, .ref ok8]))] : va_W))
set_option maxHeartbeats 4000000 in
set_option maxRecDepth 100000 in
theorem c_X8_wipe (l : Launch) (D : va_G) (Y : Nat → ClassId) (sz : Nat) (o : Nat) (ob : Nat) (on : Nat) (ow8 : Nat) (os : Nat) (oe : Nat) (oi : Nat) (op : Nat) (oz : Nat) (oc8 : Nat) (oq : Nat) (om : Nat) (oy : Nat) (og : Nat) (ok8 : Nat) (sc8 : Nat) (cn8 : Nat) (bt : Nat) (a8 : Nat) (rs8 : Int32) (gA : Option Nat) (gR : Option Nat)  : mv_C l D Y yX8_wipe cX8_wipe 2 (some .int) 0 0 0 [.ref o] sz [(o, .inr (8, [.ref ob, .ref on, .ref ow8, .ref os, .ref oe, .int (nI sc8), .ref oi, .int (nI cn8), .ref op, .int (nI bt), .int (oI gA), .int (oI gR), .int rs8, .int (nI a8), .ref oz, .ref oc8, .ref oq, .ref om, .ref oy, .ref og, .ref ok8]))] (q_X8_wipe D Y o ob on ow8 os oe oi op oz oc8 oq om oy og ok8 sc8 cn8 bt a8 rs8 gA gR) := by
  refine mv_ofW (by decide) (Nat.le_of_ble_eq_true rfl) ?_
  intro p e s m below meth c ls A hx hb hr hlocks hml hnm hown hts hsz hAe hP hK hD hS hST hA hl
  have hl : lv_has ls 2 [(0, .ref o)] := hl
  refine lv_aload_n hx hb dX8_wipe_0 rfl (lv_at hl 0 rfl) ?_
  refine va_get (D := D) (ci := 8) (v := .int (nI cn8)) (C := RX8) (T := TX8) (N := 21) hx hb hts inlX8 hown hK hP 0 rfl rfl 7 (by decide) (hts _ mw_167) (fun _ h9 => h9) rfl dX8_wipe_1 ?_
  refine lv_istore_n (lv' := [(1, .int (nI cn8)), (0, .ref o)]) hx hb dX8_wipe_4 rfl hl (by decide) rfl (fun ls hl => ?_)
  refine lv_aload_n hx hb dX8_wipe_5 rfl (lv_at hl 1 rfl) ?_
  refine lv_iconst (v := nI 0) hx hb dX8_wipe_6 (by decide) ?_
  refine va_put (D := D) (ci := 8) (v := .int (nI 0)) (ty := .int) (C := RX8) (T := TX8) (N := 21) hx hb hts inlX8 tyX8 tyX8_ok nmX8 hown hK hP hD hS 0 rfl rfl 7 (by decide) (hts _ mw_167) (fun _ h9 => h9) rfl (by decide +kernel) rfl rfl (Nat.le_of_ble_eq_true rfl) dX8_wipe_7 (fun H locs hP hD hS => ?_)
  have hP : va_P D vwCl [(o, .inr (8, [.ref ob, .ref on, .ref ow8, .ref os, .ref oe, .int (nI sc8), .ref oi, .int (nI 0), .ref op, .int (nI bt), .int (oI gA), .int (oI gR), .int rs8, .int (nI a8), .ref oz, .ref oc8, .ref oq, .ref om, .ref oy, .ref og, .ref ok8]))] H := hP
  have hD : va_D A [(o, .inr (8, [.ref ob, .ref on, .ref ow8, .ref os, .ref oe, .int (nI sc8), .ref oi, .int (nI 0), .ref op, .int (nI bt), .int (oI gA), .int (oI gR), .int rs8, .int (nI a8), .ref oz, .ref oc8, .ref oq, .ref om, .ref oy, .ref og, .ref ok8]))] := hD
  refine lv_iload_n hx hb dX8_wipe_10 rfl (lv_at hl 0 rfl) ?_
  exact mv_iret hx hb hr hlocks () (rfl) hP hK hD hS dX8_wipe_11
abbrev q_X8_faultOf (D : va_G) (Y : Nat → ClassId) (o : Nat) (ob : Nat) (on : Nat) (ow8 : Nat) (os : Nat) (oe : Nat) (oi : Nat) (op : Nat) (oz : Nat) (oc8 : Nat) (oq : Nat) (om : Nat) (oy : Nat) (og : Nat) (ok8 : Nat) (sc8 : Nat) (cn8 : Nat) (bt : Nat) (a8 : Nat) (rs8 : Int32) (gA : Option Nat) (gR : Option Nat) (g : Nat → Nat) : (Nat → Prop) → Array Value → State → Outcome → State → Prop := mv_Qi D Y (fun (r : Int32) (_ : Unit) => r = oI (flt g cn8 61 0)) (fun _ : Unit => ([(o, .inr (8, [.ref ob, .ref on, .ref ow8, .ref os, .ref oe, .int (nI sc8), .ref oi, .int (nI cn8), .ref op, .int (nI bt), .int (oI gA), .int (oI gR), .int rs8, .int (nI a8), .ref oz, .ref oc8, .ref oq, .ref om, .ref oy, .ref og, .ref ok8])), (op, .inl (Y 0, 60, .inl (aN g)))] : va_W))
set_option maxHeartbeats 4000000 in
set_option maxRecDepth 100000 in
theorem c_X8_faultOf (l : Launch) (D : va_G) (Y : Nat → ClassId) (sz : Nat) (o : Nat) (ob : Nat) (on : Nat) (ow8 : Nat) (os : Nat) (oe : Nat) (oi : Nat) (op : Nat) (oz : Nat) (oc8 : Nat) (oq : Nat) (om : Nat) (oy : Nat) (og : Nat) (ok8 : Nat) (sc8 : Nat) (cn8 : Nat) (bt : Nat) (a8 : Nat) (rs8 : Int32) (gA : Option Nat) (gR : Option Nat) (g : Nat → Nat) (hcnt : cn8 ≤ 60) (hg : ∀ k, k < cn8 → g k < 128) : mv_C l D Y yX8_faultOf cX8_faultOf 5 (some .int) 1 0 0 [.ref o] sz [(o, .inr (8, [.ref ob, .ref on, .ref ow8, .ref os, .ref oe, .int (nI sc8), .ref oi, .int (nI cn8), .ref op, .int (nI bt), .int (oI gA), .int (oI gR), .int rs8, .int (nI a8), .ref oz, .ref oc8, .ref oq, .ref om, .ref oy, .ref og, .ref ok8])), (op, .inl (Y 0, 60, .inl (aN g)))] (q_X8_faultOf D Y o ob on ow8 os oe oi op oz oc8 oq om oy og ok8 sc8 cn8 bt a8 rs8 gA gR g) := by
  refine mv_ofW (by decide) (Nat.le_of_ble_eq_true rfl) ?_
  intro p e s m below meth c ls A hx hb hr hlocks hml hnm hown hts hsz hAe hP hK hD hS hST hA hl
  have hl : lv_has ls 5 [(0, .ref o)] := hl
  have L4 : ∀ (fu : Nat) (k : Nat) (wn : Nat) (n : Nat) (hk : k ≤ cn8) (hwn : wn < 2) (hn : cn8 < k + n) (hf : (if wn = 0 then flt g cn8 n k else if isRa (sgn g cn8 k) then flt g cn8 n (k + 1) else some k) = flt g cn8 61 0) (hmeas : cn8 - k < fu) (H : Heap) (locs : List Loc) (ls : Array Slot), va_P D vwCl [(o, .inr (8, [.ref ob, .ref on, .ref ow8, .ref os, .ref oe, .int (nI sc8), .ref oi, .int (nI cn8), .ref op, .int (nI bt), .int (oI gA), .int (oI gR), .int rs8, .int (nI a8), .ref oz, .ref oc8, .ref oq, .ref om, .ref oy, .ref og, .ref ok8])), (op, .inl (Y 0, 60, .inl (aN g)))] H → va_D A [(o, .inr (8, [.ref ob, .ref on, .ref ow8, .ref os, .ref oe, .int (nI sc8), .ref oi, .int (nI cn8), .ref op, .int (nI bt), .int (oI gA), .int (oI gR), .int rs8, .int (nI a8), .ref oz, .ref oc8, .ref oq, .ref om, .ref oy, .ref og, .ref ok8])), (op, .inl (Y 0, 60, .inl (aN g)))] → va_S A s.heap H locs → lv_has ls 5 [(2, .int (nI k)), (1, .int (nI wn)), (0, .ref o)] → W p l e (mv_R 1 0 0) s m [.ref o].toArray below meth c H locs 0 0 (MQ below ((q_X8_faultOf D Y o ob on ow8 os oe oi op oz oc8 oq om oy og ok8 sc8 cn8 bt a8 rs8 gA gR g) A) [.ref o].toArray s 0 0 A) (F0 m 4 ls []) := by
    intro fu
    induction fu with
    | zero =>
      intro k wn n hk hwn hn hf hmeas
      exact absurd hmeas (Nat.not_lt_zero _)
    | succ fu L4ih =>
      intro k wn n hk hwn hn hf hmeas H locs ls hP hD hS hl
      have L123 : ∀ (w2 : Nat) (hw2 : w2 = bN (decide (wn = 0) && isLt (g k))) (hkc : k < cn8) (hft1 : (if wn = 0 then (isLt (g k) || isDg (g k) || decide (g k = 42 ∨ g k = 46)) else isRa (g k)) = true) (H : Heap) (locs : List Loc) (ls : Array Slot), va_P D vwCl [(o, .inr (8, [.ref ob, .ref on, .ref ow8, .ref os, .ref oe, .int (nI sc8), .ref oi, .int (nI cn8), .ref op, .int (nI bt), .int (oI gA), .int (oI gR), .int rs8, .int (nI a8), .ref oz, .ref oc8, .ref oq, .ref om, .ref oy, .ref og, .ref ok8])), (op, .inl (Y 0, 60, .inl (aN g)))] H → va_D A [(o, .inr (8, [.ref ob, .ref on, .ref ow8, .ref os, .ref oe, .int (nI sc8), .ref oi, .int (nI cn8), .ref op, .int (nI bt), .int (oI gA), .int (oI gR), .int rs8, .int (nI a8), .ref oz, .ref oc8, .ref oq, .ref om, .ref oy, .ref og, .ref ok8])), (op, .inl (Y 0, 60, .inl (aN g)))] → va_S A s.heap H locs → lv_has ls 5 [(0, .ref o), (2, .int (nI k))] → W p l e (mv_R 1 0 0) s m [.ref o].toArray below meth c H locs 0 0 (MQ below ((q_X8_faultOf D Y o ob on ow8 os oe oi op oz oc8 oq om oy og ok8 sc8 cn8 bt a8 rs8 gA gR g) A) [.ref o].toArray s 0 0 A) (F0 m 123 ls [.int (nI w2)]) := by
        intro w2 hw2 hkc hft1 H locs ls hP hD hS hl
        obtain ⟨n2, hn2, hf2⟩ := flt_turn hkc hwn hn hft1 hf
        rw [← hw2] at hf2
        have hw2b : w2 < 2 := by rw [hw2]; exact bN_lt _
        refine lv_istore_n (lv' := [(1, .int (nI w2)), (0, .ref o), (2, .int (nI k))]) hx hb dX8_faultOf_123 rfl hl (by decide) rfl (fun ls hl => ?_)
        refine lv_iinc (v := nI (k + 1)) (lv' := [(2, .int (nI (k + 1))), (1, .int (nI w2)), (0, .ref o)]) hx hb dX8_faultOf_124 hl (k := 2) rfl (by exact nI_add _ 1) (by decide) rfl (fun ls hl => ?_)
        refine lv_goto (tgt := 4) hx hb dX8_faultOf_127 (by decide) ?_
        exact L4ih  (k + 1) w2 n2 (by first | assumption | omega | rfl) (by first | assumption | omega | rfl) (by split at hn2 <;> omega) (hf2) (by omega) _ _ _ hP hD hS (lv_sub hl [0, 1, 2] rfl)
      have L94 : ∀ (ft : Nat) (hft : ft = bN (if wn = 0 then (isLt (g k) || isDg (g k) || decide (g k = 42 ∨ g k = 46)) else isRa (g k))) (hkc : k < cn8) (H : Heap) (locs : List Loc) (ls : Array Slot), va_P D vwCl [(o, .inr (8, [.ref ob, .ref on, .ref ow8, .ref os, .ref oe, .int (nI sc8), .ref oi, .int (nI cn8), .ref op, .int (nI bt), .int (oI gA), .int (oI gR), .int rs8, .int (nI a8), .ref oz, .ref oc8, .ref oq, .ref om, .ref oy, .ref og, .ref ok8])), (op, .inl (Y 0, 60, .inl (aN g)))] H → va_D A [(o, .inr (8, [.ref ob, .ref on, .ref ow8, .ref os, .ref oe, .int (nI sc8), .ref oi, .int (nI cn8), .ref op, .int (nI bt), .int (oI gA), .int (oI gR), .int rs8, .int (nI a8), .ref oz, .ref oc8, .ref oq, .ref om, .ref oy, .ref og, .ref ok8])), (op, .inl (Y 0, 60, .inl (aN g)))] → va_S A s.heap H locs → lv_has ls 5 [(0, .ref o), (1, .int (nI wn)), (2, .int (nI k)), (3, .int (nI (g k)))] → W p l e (mv_R 1 0 0) s m [.ref o].toArray below meth c H locs 0 0 (MQ below ((q_X8_faultOf D Y o ob on ow8 os oe oi op oz oc8 oq om oy og ok8 sc8 cn8 bt a8 rs8 gA gR g) A) [.ref o].toArray s 0 0 A) (F0 m 94 ls [.int (nI ft)]) := by
        intro ft hft hkc H locs ls hP hD hS hl
        have hgk := hg k hkc
        have hsk : sgn g cn8 k = g k := if_pos hkc
        have hftb : ft < 2 := by rw [hft]; exact bN_lt _
        refine lv_istore (lv' := [(4, .int (nI ft)), (0, .ref o), (1, .int (nI wn)), (2, .int (nI k)), (3, .int (nI (g k)))]) hx hb dX8_faultOf_94 hl (by decide) rfl (fun ls hl => ?_)
        refine lv_iload hx hb dX8_faultOf_96 (lv_at hl 0 rfl) ?_
        refine mv_if_ne (tgt := 103) hx hb (by first | omega | exact Nat.lt_trans (bN_lt _) (by decide)) dX8_faultOf_98 (by decide) (fun c98 => ?_) (fun c98 => ?_)
        · skip
          have hft1 := bN_1.mp (fun q => c98 (hft.trans q))
          refine lv_iload_n hx hb dX8_faultOf_103 rfl (lv_at hl 2 rfl) ?_
          refine mv_if_ne (tgt := 122) hx hb (by first | omega | exact Nat.lt_trans (bN_lt _) (by decide)) dX8_faultOf_104 (by decide) (fun c104 => ?_) (fun c104 => ?_)
          · skip
            refine lv_iconst (v := nI 0) hx hb dX8_faultOf_122 (by decide) ?_
            exact L123  0 (by rw [decide_eq_false c104, Bool.false_and]; rfl) (by first | assumption | omega | rfl) (by first | assumption | omega | rfl) _ _ _ hP hD hS (lv_sub hl [1, 3] rfl)
          · skip
            refine lv_iload_n hx hb dX8_faultOf_107 rfl (lv_at hl 4 rfl) ?_
            refine lv_bipush (v := nI 65) hx hb dX8_faultOf_108 (by decide) ?_
            refine lv_bipush (v := nI 70) hx hb dX8_faultOf_110 (by decide) ?_
            refine mv_callSi (nA := 3) (As := [.int (nI (g k)), .int (nI 65), .int (nI 70)]) (rest := []) (Wc := []) (wr := [(o, .inr (8, [.ref ob, .ref on, .ref ow8, .ref os, .ref oe, .int (nI sc8), .ref oi, .int (nI cn8), .ref op, .int (nI bt), .int (oI gA), .int (oI gR), .int rs8, .int (nI a8), .ref oz, .ref oc8, .ref oq, .ref om, .ref oy, .ref og, .ref ok8])), (op, .inl (Y 0, 60, .inl (aN g)))]) hx hb hml hown hts hK hP hD hS hST hA hl.1 (c_X8_in l D Y _ (g k) 65 70 (by first | assumption | omega | rfl) (by first | assumption | omega | rfl) (by first | assumption | omega | rfl)) [] [0, 1] rfl rfl (by decide) (by decide) (by decide) rfl mw_121 mw_122 mw_5 mw_123 ⟨by decide, by decide, by decide +kernel⟩ rfl ⟨Nat.le_of_ble_eq_true rfl, Nat.le_of_ble_eq_true rfl⟩ rfl (Nat.le_of_ble_eq_true rfl) dX8_faultOf_112 ⟨Nat.le_of_ble_eq_true rfl, Nat.le_of_ble_eq_true rfl⟩ (fun r_1 ux H locs hr112 hP hD hS hz112 => ?_)
            have hP := hP.sub (ws' := [(o, .inr (8, [.ref ob, .ref on, .ref ow8, .ref os, .ref oe, .int (nI sc8), .ref oi, .int (nI cn8), .ref op, .int (nI bt), .int (oI gA), .int (oI gR), .int rs8, .int (nI a8), .ref oz, .ref oc8, .ref oq, .ref om, .ref oy, .ref og, .ref ok8])), (op, .inl (Y 0, 60, .inl (aN g)))]) [0, 1] rfl
            have hD := hD.sub (ws' := [(o, .inr (8, [.ref ob, .ref on, .ref ow8, .ref os, .ref oe, .int (nI sc8), .ref oi, .int (nI cn8), .ref op, .int (nI bt), .int (oI gA), .int (oI gR), .int rs8, .int (nI a8), .ref oz, .ref oc8, .ref oq, .ref om, .ref oy, .ref og, .ref ok8])), (op, .inl (Y 0, 60, .inl (aN g)))]) [0, 1] (by decide) rfl
            have hr112 : r_1 = nI (bN (decide (65 ≤ (g k) ∧ (g k) ≤ 70))) := hr112
            subst hr112
            refine mv_if_eq (tgt := 122) hx hb (by first | omega | exact Nat.lt_trans (bN_lt _) (by decide)) dX8_faultOf_115 (by decide) (fun c115 => ?_) (fun c115 => ?_)
            · skip
              refine lv_iconst (v := nI 0) hx hb dX8_faultOf_122 (by decide) ?_
              exact L123  0 (by rw [← inQ_lt (by omega), bN_0.mp c115, Bool.and_false]; rfl) (by first | assumption | omega | rfl) (by first | assumption | omega | rfl) _ _ _ hP hD hS (lv_sub hl [1, 3] rfl)
            · skip
              refine lv_iconst (v := nI 1) hx hb dX8_faultOf_118 (by decide) ?_
              refine lv_goto (tgt := 123) hx hb dX8_faultOf_119 (by decide) ?_
              exact L123  1 (by rw [decide_eq_true c104, ← inQ_lt (by omega), bN_1.mp c115]; rfl) (by first | assumption | omega | rfl) (by first | assumption | omega | rfl) _ _ _ hP hD hS (lv_sub hl [1, 3] rfl)
        · skip
          have hft0 := bN_0.mp (hft.symm.trans c98)
          refine lv_iload_n hx hb dX8_faultOf_101 rfl (lv_at hl 3 rfl) ?_
          exact mv_iret hx hb hr hlocks () (by rw [flt_stop hkc hwn hn hft0 hf]; rfl) hP hK hD hS dX8_faultOf_102
      refine lv_iload_n hx hb dX8_faultOf_4 rfl (lv_at hl 0 rfl) ?_
      refine lv_aload_n hx hb dX8_faultOf_5 rfl (lv_at hl 2 rfl) ?_
      refine va_get (D := D) (ci := 8) (v := .int (nI cn8)) (C := RX8) (T := TX8) (N := 21) hx hb hts inlX8 hown hK hP 0 rfl rfl 7 (by decide) (hts _ mw_167) (fun _ h9 => h9) rfl dX8_faultOf_6 ?_
      refine mv_icmp_ge (tgt := 130) hx hb (by first | omega | exact Nat.lt_trans (bN_lt _) (by decide)) (by omega) dX8_faultOf_9 (by decide) (fun c9 => ?_) (fun c9 => ?_)
      · skip
        refine lv_iload_n hx hb dX8_faultOf_130 rfl (lv_at hl 1 rfl) ?_
        refine mv_if_eq (tgt := 141) hx hb (by first | omega | exact Nat.lt_trans (bN_lt _) (by decide)) dX8_faultOf_131 (by decide) (fun c131 => ?_) (fun c131 => ?_)
        · skip
          refine lv_bipush (v := -6) hx hb dX8_faultOf_141 (by decide) ?_
          exact mv_iret hx hb hr hlocks () (by rw [flt_fin0 (show k = cn8 by omega) c131 hf]; rfl) hP hK hD hS dX8_faultOf_143
        · skip
          refine lv_aload_n hx hb dX8_faultOf_134 rfl (lv_at hl 2 rfl) ?_
          refine va_get (D := D) (ci := 8) (v := .int (nI cn8)) (C := RX8) (T := TX8) (N := 21) hx hb hts inlX8 hown hK hP 0 rfl rfl 7 (by decide) (hts _ mw_167) (fun _ h9 => h9) rfl dX8_faultOf_135 ?_
          refine lv_goto (tgt := 143) hx hb dX8_faultOf_138 (by decide) ?_
          exact mv_iret hx hb hr hlocks () (by rw [flt_fin1 (show k = cn8 by omega) c131 hf]; rfl) hP hK hD hS dX8_faultOf_143
      · skip
        refine lv_aload_n hx hb dX8_faultOf_12 rfl (lv_at hl 2 rfl) ?_
        refine va_get (D := D) (ci := 8) (v := .ref op) (C := RX8) (T := TX8) (N := 21) hx hb hts inlX8 hown hK hP 0 rfl rfl 8 (by decide) (hts _ mw_89) (fun _ h9 => h9) rfl dX8_faultOf_13 ?_
        refine lv_iload_n hx hb dX8_faultOf_16 rfl (lv_at hl 0 rfl) ?_
        refine mv_iald hx hb hK hP 1 rfl (i := k) (by omega) (by decide) dX8_faultOf_17 ?_
        have hgk := hg k c9
        refine lv_istore_n (lv' := [(3, .int (nI (g k))), (2, .int (nI k)), (1, .int (nI wn)), (0, .ref o)]) hx hb dX8_faultOf_18 rfl hl (by decide) rfl (fun ls hl => ?_)
        refine lv_iload_n hx hb dX8_faultOf_19 rfl (lv_at hl 2 rfl) ?_
        refine mv_if_eq (tgt := 55) hx hb (by first | omega | exact Nat.lt_trans (bN_lt _) (by decide)) dX8_faultOf_20 (by decide) (fun c20 => ?_) (fun c20 => ?_)
        · skip
          refine lv_iload_n hx hb dX8_faultOf_55 rfl (lv_at hl 0 rfl) ?_
          refine lv_bipush (v := nI 65) hx hb dX8_faultOf_56 (by decide) ?_
          refine lv_bipush (v := nI 70) hx hb dX8_faultOf_58 (by decide) ?_
          refine mv_callSi (nA := 3) (As := [.int (nI (g k)), .int (nI 65), .int (nI 70)]) (rest := []) (Wc := []) (wr := [(o, .inr (8, [.ref ob, .ref on, .ref ow8, .ref os, .ref oe, .int (nI sc8), .ref oi, .int (nI cn8), .ref op, .int (nI bt), .int (oI gA), .int (oI gR), .int rs8, .int (nI a8), .ref oz, .ref oc8, .ref oq, .ref om, .ref oy, .ref og, .ref ok8])), (op, .inl (Y 0, 60, .inl (aN g)))]) hx hb hml hown hts hK hP hD hS hST hA hl.1 (c_X8_in l D Y _ (g k) 65 70 (by first | assumption | omega | rfl) (by first | assumption | omega | rfl) (by first | assumption | omega | rfl)) [] [0, 1] rfl rfl (by decide) (by decide) (by decide) rfl mw_121 mw_122 mw_5 mw_123 ⟨by decide, by decide, by decide +kernel⟩ rfl ⟨Nat.le_of_ble_eq_true rfl, Nat.le_of_ble_eq_true rfl⟩ rfl (Nat.le_of_ble_eq_true rfl) dX8_faultOf_60 ⟨Nat.le_of_ble_eq_true rfl, Nat.le_of_ble_eq_true rfl⟩ (fun r_2 ux H locs hr60 hP hD hS hz60 => ?_)
          have hP := hP.sub (ws' := [(o, .inr (8, [.ref ob, .ref on, .ref ow8, .ref os, .ref oe, .int (nI sc8), .ref oi, .int (nI cn8), .ref op, .int (nI bt), .int (oI gA), .int (oI gR), .int rs8, .int (nI a8), .ref oz, .ref oc8, .ref oq, .ref om, .ref oy, .ref og, .ref ok8])), (op, .inl (Y 0, 60, .inl (aN g)))]) [0, 1] rfl
          have hD := hD.sub (ws' := [(o, .inr (8, [.ref ob, .ref on, .ref ow8, .ref os, .ref oe, .int (nI sc8), .ref oi, .int (nI cn8), .ref op, .int (nI bt), .int (oI gA), .int (oI gR), .int rs8, .int (nI a8), .ref oz, .ref oc8, .ref oq, .ref om, .ref oy, .ref og, .ref ok8])), (op, .inl (Y 0, 60, .inl (aN g)))]) [0, 1] (by decide) rfl
          have hr60 : r_2 = nI (bN (decide (65 ≤ (g k) ∧ (g k) ≤ 70))) := hr60
          subst hr60
          refine mv_if_ne (tgt := 89) hx hb (by first | omega | exact Nat.lt_trans (bN_lt _) (by decide)) dX8_faultOf_63 (by decide) (fun c63 => ?_) (fun c63 => ?_)
          · skip
            refine lv_iconst (v := nI 1) hx hb dX8_faultOf_89 (by decide) ?_
            refine lv_goto (tgt := 94) hx hb dX8_faultOf_90 (by decide) ?_
            exact L94  1 (by rw [if_pos c20, ← inQ_lt (by omega), bN_1.mp c63]; rfl) (by first | assumption | omega | rfl) _ _ _ hP hD hS (lv_sub hl [3, 2, 1, 0] rfl)
          · skip
            refine lv_iload_n hx hb dX8_faultOf_66 rfl (lv_at hl 0 rfl) ?_
            refine lv_bipush (v := nI 48) hx hb dX8_faultOf_67 (by decide) ?_
            refine lv_bipush (v := nI 57) hx hb dX8_faultOf_69 (by decide) ?_
            refine mv_callSi (nA := 3) (As := [.int (nI (g k)), .int (nI 48), .int (nI 57)]) (rest := []) (Wc := []) (wr := [(o, .inr (8, [.ref ob, .ref on, .ref ow8, .ref os, .ref oe, .int (nI sc8), .ref oi, .int (nI cn8), .ref op, .int (nI bt), .int (oI gA), .int (oI gR), .int rs8, .int (nI a8), .ref oz, .ref oc8, .ref oq, .ref om, .ref oy, .ref og, .ref ok8])), (op, .inl (Y 0, 60, .inl (aN g)))]) hx hb hml hown hts hK hP hD hS hST hA hl.1 (c_X8_in l D Y _ (g k) 48 57 (by first | assumption | omega | rfl) (by first | assumption | omega | rfl) (by first | assumption | omega | rfl)) [] [0, 1] rfl rfl (by decide) (by decide) (by decide) rfl mw_121 mw_122 mw_5 mw_123 ⟨by decide, by decide, by decide +kernel⟩ rfl ⟨Nat.le_of_ble_eq_true rfl, Nat.le_of_ble_eq_true rfl⟩ rfl (Nat.le_of_ble_eq_true rfl) dX8_faultOf_71 ⟨Nat.le_of_ble_eq_true rfl, Nat.le_of_ble_eq_true rfl⟩ (fun r_3 ux H locs hr71 hP hD hS hz71 => ?_)
            have hP := hP.sub (ws' := [(o, .inr (8, [.ref ob, .ref on, .ref ow8, .ref os, .ref oe, .int (nI sc8), .ref oi, .int (nI cn8), .ref op, .int (nI bt), .int (oI gA), .int (oI gR), .int rs8, .int (nI a8), .ref oz, .ref oc8, .ref oq, .ref om, .ref oy, .ref og, .ref ok8])), (op, .inl (Y 0, 60, .inl (aN g)))]) [0, 1] rfl
            have hD := hD.sub (ws' := [(o, .inr (8, [.ref ob, .ref on, .ref ow8, .ref os, .ref oe, .int (nI sc8), .ref oi, .int (nI cn8), .ref op, .int (nI bt), .int (oI gA), .int (oI gR), .int rs8, .int (nI a8), .ref oz, .ref oc8, .ref oq, .ref om, .ref oy, .ref og, .ref ok8])), (op, .inl (Y 0, 60, .inl (aN g)))]) [0, 1] (by decide) rfl
            have hr71 : r_3 = nI (bN (decide (48 ≤ (g k) ∧ (g k) ≤ 57))) := hr71
            subst hr71
            refine mv_if_ne (tgt := 89) hx hb (by first | omega | exact Nat.lt_trans (bN_lt _) (by decide)) dX8_faultOf_74 (by decide) (fun c74 => ?_) (fun c74 => ?_)
            · skip
              refine lv_iconst (v := nI 1) hx hb dX8_faultOf_89 (by decide) ?_
              refine lv_goto (tgt := 94) hx hb dX8_faultOf_90 (by decide) ?_
              exact L94  1 (by rw [if_pos c20, ← inQ_dg (by omega), bN_1.mp c74, Bool.or_true]; rfl) (by first | assumption | omega | rfl) _ _ _ hP hD hS (lv_sub hl [3, 2, 1, 0] rfl)
            · skip
              refine lv_iload_n hx hb dX8_faultOf_77 rfl (lv_at hl 0 rfl) ?_
              refine lv_bipush (v := nI 42) hx hb dX8_faultOf_78 (by decide) ?_
              refine mv_icmp_eq (tgt := 89) hx hb (by first | omega | exact Nat.lt_trans (bN_lt _) (by decide)) (by omega) dX8_faultOf_80 (by decide) (fun c80 => ?_) (fun c80 => ?_)
              · skip
                refine lv_iconst (v := nI 1) hx hb dX8_faultOf_89 (by decide) ?_
                refine lv_goto (tgt := 94) hx hb dX8_faultOf_90 (by decide) ?_
                exact L94  1 (by rw [if_pos c20, decide_eq_true (Or.inl c80), Bool.or_true]; rfl) (by first | assumption | omega | rfl) _ _ _ hP hD hS (lv_sub hl [3, 2, 1, 0] rfl)
              · skip
                refine lv_iload_n hx hb dX8_faultOf_83 rfl (lv_at hl 0 rfl) ?_
                refine lv_bipush (v := nI 46) hx hb dX8_faultOf_84 (by decide) ?_
                refine mv_icmp_ne (tgt := 93) hx hb (by first | omega | exact Nat.lt_trans (bN_lt _) (by decide)) (by omega) dX8_faultOf_86 (by decide) (fun c86 => ?_) (fun c86 => ?_)
                · skip
                  refine lv_iconst (v := nI 0) hx hb dX8_faultOf_93 (by decide) ?_
                  exact L94  0 (by rw [if_pos c20, ← inQ_lt (by omega), ← inQ_dg (by omega), bN_0.mp c63, bN_0.mp c74, decide_eq_false (by omega)]; rfl) (by first | assumption | omega | rfl) _ _ _ hP hD hS (lv_sub hl [3, 2, 1, 0] rfl)
                · skip
                  refine lv_iconst (v := nI 1) hx hb dX8_faultOf_89 (by decide) ?_
                  refine lv_goto (tgt := 94) hx hb dX8_faultOf_90 (by decide) ?_
                  exact L94  1 (by rw [if_pos c20, decide_eq_true (Or.inr c86), Bool.or_true]; rfl) (by first | assumption | omega | rfl) _ _ _ hP hD hS (lv_sub hl [3, 2, 1, 0] rfl)
        · skip
          refine lv_iload_n hx hb dX8_faultOf_23 rfl (lv_at hl 0 rfl) ?_
          refine lv_bipush (v := nI 60) hx hb dX8_faultOf_24 (by decide) ?_
          refine mv_icmp_eq (tgt := 47) hx hb (by first | omega | exact Nat.lt_trans (bN_lt _) (by decide)) (by omega) dX8_faultOf_26 (by decide) (fun c26 => ?_) (fun c26 => ?_)
          · skip
            refine lv_iconst (v := nI 1) hx hb dX8_faultOf_47 (by decide) ?_
            refine lv_goto (tgt := 94) hx hb dX8_faultOf_48 (by decide) ?_
            exact L94  1 (by rw [if_neg c20]; exact (bN_t (decide_eq_true (by omega))).symm) (by first | assumption | omega | rfl) _ _ _ hP hD hS (lv_sub hl [3, 2, 1, 0] rfl)
          · skip
            refine lv_iload_n hx hb dX8_faultOf_29 rfl (lv_at hl 0 rfl) ?_
            refine lv_bipush (v := nI 62) hx hb dX8_faultOf_30 (by decide) ?_
            refine mv_icmp_eq (tgt := 47) hx hb (by first | omega | exact Nat.lt_trans (bN_lt _) (by decide)) (by omega) dX8_faultOf_32 (by decide) (fun c32 => ?_) (fun c32 => ?_)
            · skip
              refine lv_iconst (v := nI 1) hx hb dX8_faultOf_47 (by decide) ?_
              refine lv_goto (tgt := 94) hx hb dX8_faultOf_48 (by decide) ?_
              exact L94  1 (by rw [if_neg c20]; exact (bN_t (decide_eq_true (by omega))).symm) (by first | assumption | omega | rfl) _ _ _ hP hD hS (lv_sub hl [3, 2, 1, 0] rfl)
            · skip
              refine lv_iload_n hx hb dX8_faultOf_35 rfl (lv_at hl 0 rfl) ?_
              refine lv_bipush (v := nI 43) hx hb dX8_faultOf_36 (by decide) ?_
              refine mv_icmp_eq (tgt := 47) hx hb (by first | omega | exact Nat.lt_trans (bN_lt _) (by decide)) (by omega) dX8_faultOf_38 (by decide) (fun c38 => ?_) (fun c38 => ?_)
              · skip
                refine lv_iconst (v := nI 1) hx hb dX8_faultOf_47 (by decide) ?_
                refine lv_goto (tgt := 94) hx hb dX8_faultOf_48 (by decide) ?_
                exact L94  1 (by rw [if_neg c20]; exact (bN_t (decide_eq_true (by omega))).symm) (by first | assumption | omega | rfl) _ _ _ hP hD hS (lv_sub hl [3, 2, 1, 0] rfl)
              · skip
                refine lv_iload_n hx hb dX8_faultOf_41 rfl (lv_at hl 0 rfl) ?_
                refine lv_bipush (v := nI 47) hx hb dX8_faultOf_42 (by decide) ?_
                refine mv_icmp_ne (tgt := 51) hx hb (by first | omega | exact Nat.lt_trans (bN_lt _) (by decide)) (by omega) dX8_faultOf_44 (by decide) (fun c44 => ?_) (fun c44 => ?_)
                · skip
                  refine lv_iconst (v := nI 0) hx hb dX8_faultOf_51 (by decide) ?_
                  refine lv_goto (tgt := 94) hx hb dX8_faultOf_52 (by decide) ?_
                  exact L94  0 (by rw [if_neg c20]; exact (bN_f (decide_eq_false (by omega))).symm) (by first | assumption | omega | rfl) _ _ _ hP hD hS (lv_sub hl [3, 2, 1, 0] rfl)
                · skip
                  refine lv_iconst (v := nI 1) hx hb dX8_faultOf_47 (by decide) ?_
                  refine lv_goto (tgt := 94) hx hb dX8_faultOf_48 (by decide) ?_
                  exact L94  1 (by rw [if_neg c20]; exact (bN_t (decide_eq_true (by omega))).symm) (by first | assumption | omega | rfl) _ _ _ hP hD hS (lv_sub hl [3, 2, 1, 0] rfl)
  refine lv_iconst (v := nI 0) hx hb dX8_faultOf_0 (by decide) ?_
  refine lv_istore_n (lv' := [(1, .int (nI 0)), (0, .ref o)]) hx hb dX8_faultOf_1 rfl hl (by decide) rfl (fun ls hl => ?_)
  refine lv_iconst (v := nI 0) hx hb dX8_faultOf_2 (by decide) ?_
  refine lv_istore_n (lv' := [(2, .int (nI 0)), (1, .int (nI 0)), (0, .ref o)]) hx hb dX8_faultOf_3 rfl hl (by decide) rfl (fun ls hl => ?_)
  exact L4 (cn8 - 0 + 1) 0 0 61 (by first | assumption | omega | rfl) (by first | assumption | omega | rfl) (by first | assumption | omega | rfl) (if_pos rfl) (Nat.lt_succ_self _) _ _ _ hP hD hS (lv_sub hl [0, 1, 2] rfl)
abbrev q_X8_fault (D : va_G) (Y : Nat → ClassId) (o : Nat) (ob : Nat) (on : Nat) (ow8 : Nat) (os : Nat) (oe : Nat) (oi : Nat) (op : Nat) (oz : Nat) (oc8 : Nat) (oq : Nat) (om : Nat) (oy : Nat) (og : Nat) (ok8 : Nat) (sc8 : Nat) (cn8 : Nat) (bt : Nat) (a8 : Nat) (rs8 : Int32) (gA : Option Nat) (gR : Option Nat) (g : Nat → Nat) : (Nat → Prop) → Array Value → State → Outcome → State → Prop := mv_Qi D Y (fun (r : Int32) (_ : Unit) => r = oI (flt g cn8 61 0)) (fun _ : Unit => ([(o, .inr (8, [.ref ob, .ref on, .ref ow8, .ref os, .ref oe, .int (nI sc8), .ref oi, .int (nI cn8), .ref op, .int (nI bt), .int (oI gA), .int (oI gR), .int rs8, .int (nI a8), .ref oz, .ref oc8, .ref oq, .ref om, .ref oy, .ref og, .ref ok8])), (op, .inl (Y 0, 60, .inl (aN g)))] : va_W))
set_option maxHeartbeats 4000000 in
set_option maxRecDepth 100000 in
theorem c_X8_fault (l : Launch) (D : va_G) (Y : Nat → ClassId) (sz : Nat) (o : Nat) (ob : Nat) (on : Nat) (ow8 : Nat) (os : Nat) (oe : Nat) (oi : Nat) (op : Nat) (oz : Nat) (oc8 : Nat) (oq : Nat) (om : Nat) (oy : Nat) (og : Nat) (ok8 : Nat) (sc8 : Nat) (cn8 : Nat) (bt : Nat) (a8 : Nat) (rs8 : Int32) (gA : Option Nat) (gR : Option Nat) (g : Nat → Nat) (hcnt : cn8 ≤ 60) (hg : ∀ k, k < cn8 → g k < 128) : mv_C l D Y yX8_fault cX8_fault 1 (some .int) 2 0 0 [.ref o] sz [(o, .inr (8, [.ref ob, .ref on, .ref ow8, .ref os, .ref oe, .int (nI sc8), .ref oi, .int (nI cn8), .ref op, .int (nI bt), .int (oI gA), .int (oI gR), .int rs8, .int (nI a8), .ref oz, .ref oc8, .ref oq, .ref om, .ref oy, .ref og, .ref ok8])), (op, .inl (Y 0, 60, .inl (aN g)))] (q_X8_fault D Y o ob on ow8 os oe oi op oz oc8 oq om oy og ok8 sc8 cn8 bt a8 rs8 gA gR g) := by
  refine mv_ofW (by decide) (Nat.le_of_ble_eq_true rfl) ?_
  intro p e s m below meth c ls A hx hb hr hlocks hml hnm hown hts hsz hAe hP hK hD hS hST hA hl
  have hl : lv_has ls 1 [(0, .ref o)] := hl
  refine lv_aload_n hx hb dX8_fault_0 rfl (lv_at hl 0 rfl) ?_
  refine mv_callVi (nA := 0) (As := []) (rest := []) (Wc := [(o, .inr (8, [.ref ob, .ref on, .ref ow8, .ref os, .ref oe, .int (nI sc8), .ref oi, .int (nI cn8), .ref op, .int (nI bt), .int (oI gA), .int (oI gR), .int rs8, .int (nI a8), .ref oz, .ref oc8, .ref oq, .ref om, .ref oy, .ref og, .ref ok8])), (op, .inl (Y 0, 60, .inl (aN g)))]) (wr := []) hx hb hml hown hts hK hP hD hS hST hA hl.1 (c_X8_faultOf l D Y _ o ob on ow8 os oe oi op oz oc8 oq om oy og ok8 sc8 cn8 bt a8 rs8 gA gR g (by first | assumption | omega | rfl) (by first | assumption | omega | rfl)) [0, 1] [] rfl rfl (by decide) (by decide) (by decide) rfl 0 rfl rfl rfl mw_201 mw_202 mw_203 mw_5 mw_204 ⟨by decide, by decide, by decide +kernel⟩ rfl ⟨Nat.le_of_ble_eq_true rfl, Nat.le_of_ble_eq_true rfl⟩ rfl (Nat.le_of_ble_eq_true rfl) dX8_fault_1 ⟨Nat.le_of_ble_eq_true rfl, Nat.le_of_ble_eq_true rfl⟩ (fun r_1 ux H locs hr1 hP hD hS hz1 => ?_)
  have hP := hP.sub (ws' := [(o, .inr (8, [.ref ob, .ref on, .ref ow8, .ref os, .ref oe, .int (nI sc8), .ref oi, .int (nI cn8), .ref op, .int (nI bt), .int (oI gA), .int (oI gR), .int rs8, .int (nI a8), .ref oz, .ref oc8, .ref oq, .ref om, .ref oy, .ref og, .ref ok8])), (op, .inl (Y 0, 60, .inl (aN g)))]) [0, 1] rfl
  have hD := hD.sub (ws' := [(o, .inr (8, [.ref ob, .ref on, .ref ow8, .ref os, .ref oe, .int (nI sc8), .ref oi, .int (nI cn8), .ref op, .int (nI bt), .int (oI gA), .int (oI gR), .int rs8, .int (nI a8), .ref oz, .ref oc8, .ref oq, .ref om, .ref oy, .ref og, .ref ok8])), (op, .inl (Y 0, 60, .inl (aN g)))]) [0, 1] (by decide) rfl
  have hr1 : r_1 = oI (flt g cn8 61 0) := hr1
  subst hr1
  exact mv_iret hx hb hr hlocks () (rfl) hP hK hD hS dX8_fault_4
abbrev q_X8_asNow (D : va_G) (Y : Nat → ClassId) (o : Nat) (ob : Nat) (on : Nat) (ow8 : Nat) (os : Nat) (oe : Nat) (oi : Nat) (op : Nat) (oz : Nat) (oc8 : Nat) (oq : Nat) (om : Nat) (oy : Nat) (og : Nat) (ok8 : Nat) (sc8 : Nat) (cn8 : Nat) (bt : Nat) (a8 : Nat) (rs8 : Int32) (gA : Option Nat) (gR : Option Nat) (gh : Nat → Nat) (gca : Nat → Nat) (gun : Nat → Nat) (prs : Nat) (yrs : Nat) (gz0 : Nat → Nat) : (Nat → Prop) → Array Value → State → Outcome → State → Prop := mv_Qv D Y (fun (_ : Unit) => True) (fun _ : Unit => ([(o, .inr (8, [.ref ob, .ref on, .ref ow8, .ref os, .ref oe, .int (nI sc8), .ref oi, .int (nI cn8), .ref op, .int (nI 0), .int (-6), .int (-6), .int rs8, .int (nI a8), .ref oz, .ref oc8, .ref oq, .ref om, .ref oy, .ref og, .ref ok8])), (ob, .inl (Y 0, 24, .inl (aN (bk gh gca gun prs yrs)))), (on, .inl (Y 0, 24, .inl (aN (bk gh gca gun prs yrs))))] : va_W))
set_option maxHeartbeats 4000000 in
set_option maxRecDepth 100000 in
theorem c_X8_asNow (l : Launch) (D : va_G) (Y : Nat → ClassId) (sz : Nat) (o : Nat) (ob : Nat) (on : Nat) (ow8 : Nat) (os : Nat) (oe : Nat) (oi : Nat) (op : Nat) (oz : Nat) (oc8 : Nat) (oq : Nat) (om : Nat) (oy : Nat) (og : Nat) (ok8 : Nat) (sc8 : Nat) (cn8 : Nat) (bt : Nat) (a8 : Nat) (rs8 : Int32) (gA : Option Nat) (gR : Option Nat) (gh : Nat → Nat) (gca : Nat → Nat) (gun : Nat → Nat) (prs : Nat) (yrs : Nat) (gz0 : Nat → Nat)  : mv_C l D Y yX8_asNow cX8_asNow 2 none 0 0 0 [.ref o] sz [(o, .inr (8, [.ref ob, .ref on, .ref ow8, .ref os, .ref oe, .int (nI sc8), .ref oi, .int (nI cn8), .ref op, .int (nI bt), .int (oI gA), .int (oI gR), .int rs8, .int (nI a8), .ref oz, .ref oc8, .ref oq, .ref om, .ref oy, .ref og, .ref ok8])), (ob, .inl (Y 0, 24, .inl (aN (bk gh gca gun prs yrs)))), (on, .inl (Y 0, 24, .inl (aN gz0)))] (q_X8_asNow D Y o ob on ow8 os oe oi op oz oc8 oq om oy og ok8 sc8 cn8 bt a8 rs8 gA gR gh gca gun prs yrs gz0) := by
  refine mv_ofW (by decide) (Nat.le_of_ble_eq_true rfl) ?_
  intro p e s m below meth c ls A hx hb hr hlocks hml hnm hown hts hsz hAe hP hK hD hS hST hA hl
  have hl : lv_has ls 2 [(0, .ref o)] := hl
  have L2 : ∀ (fu : Nat) (k : Nat) (gz : Nat → Nat) (hk : k ≤ 24) (hg : ∀ j, j < k → gz j = bk gh gca gun prs yrs j) (hmeas : 24 - k < fu) (H : Heap) (locs : List Loc) (ls : Array Slot), va_P D vwCl [(o, .inr (8, [.ref ob, .ref on, .ref ow8, .ref os, .ref oe, .int (nI sc8), .ref oi, .int (nI cn8), .ref op, .int (nI bt), .int (oI gA), .int (oI gR), .int rs8, .int (nI a8), .ref oz, .ref oc8, .ref oq, .ref om, .ref oy, .ref og, .ref ok8])), (ob, .inl (Y 0, 24, .inl (aN (bk gh gca gun prs yrs)))), (on, .inl (Y 0, 24, .inl (aN gz)))] H → va_D A [(o, .inr (8, [.ref ob, .ref on, .ref ow8, .ref os, .ref oe, .int (nI sc8), .ref oi, .int (nI cn8), .ref op, .int (nI bt), .int (oI gA), .int (oI gR), .int rs8, .int (nI a8), .ref oz, .ref oc8, .ref oq, .ref om, .ref oy, .ref og, .ref ok8])), (ob, .inl (Y 0, 24, .inl (aN (bk gh gca gun prs yrs)))), (on, .inl (Y 0, 24, .inl (aN gz)))] → va_S A s.heap H locs → lv_has ls 2 [(1, .int (nI k)), (0, .ref o)] → W p l e (mv_R 0 0 0) s m [.ref o].toArray below meth c H locs 0 0 (MQ below ((q_X8_asNow D Y o ob on ow8 os oe oi op oz oc8 oq om oy og ok8 sc8 cn8 bt a8 rs8 gA gR gh gca gun prs yrs gz0) A) [.ref o].toArray s 0 0 A) (F0 m 2 ls []) := by
    intro fu
    induction fu with
    | zero =>
      intro k gz hk hg hmeas
      exact absurd hmeas (Nat.not_lt_zero _)
    | succ fu L2ih =>
      intro k gz hk hg hmeas H locs ls hP hD hS hl
      refine lv_iload_n hx hb dX8_asNow_2 rfl (lv_at hl 0 rfl) ?_
      refine lv_bipush (v := nI 24) hx hb dX8_asNow_3 (by decide) ?_
      refine mv_icmp_ge (tgt := 26) hx hb (by omega) (by omega) dX8_asNow_5 (by decide) (fun c5 => ?_) (fun c5 => ?_)
      · skip
        skip
        have hP := mv_Prec (q0 := 2) (f2 := bk gh gca gun prs yrs) hP rfl (fun j hj => hg j (by omega))
        have hD := hD.set (p := 2) (a := on) (e := .inl (Y 0, 24, .inl (aN (bk gh gca gun prs yrs)))) rfl
        have hP : va_P D vwCl [(o, .inr (8, [.ref ob, .ref on, .ref ow8, .ref os, .ref oe, .int (nI sc8), .ref oi, .int (nI cn8), .ref op, .int (nI bt), .int (oI gA), .int (oI gR), .int rs8, .int (nI a8), .ref oz, .ref oc8, .ref oq, .ref om, .ref oy, .ref og, .ref ok8])), (ob, .inl (Y 0, 24, .inl (aN (bk gh gca gun prs yrs)))), (on, .inl (Y 0, 24, .inl (aN (bk gh gca gun prs yrs))))] H := hP
        have hD : va_D A [(o, .inr (8, [.ref ob, .ref on, .ref ow8, .ref os, .ref oe, .int (nI sc8), .ref oi, .int (nI cn8), .ref op, .int (nI bt), .int (oI gA), .int (oI gR), .int rs8, .int (nI a8), .ref oz, .ref oc8, .ref oq, .ref om, .ref oy, .ref og, .ref ok8])), (ob, .inl (Y 0, 24, .inl (aN (bk gh gca gun prs yrs)))), (on, .inl (Y 0, 24, .inl (aN (bk gh gca gun prs yrs))))] := hD
        refine lv_aload_n hx hb dX8_asNow_26 rfl (lv_at hl 1 rfl) ?_
        refine lv_iconst (v := nI 0) hx hb dX8_asNow_27 (by decide) ?_
        refine va_put (D := D) (ci := 8) (v := .int (nI 0)) (ty := .int) (C := RX8) (T := TX8) (N := 21) hx hb hts inlX8 tyX8 tyX8_ok nmX8 hown hK hP hD hS 0 rfl rfl 9 (by decide) (hts _ mw_321) (fun _ h9 => h9) rfl (by decide +kernel) rfl rfl (Nat.le_of_ble_eq_true rfl) dX8_asNow_28 (fun H locs hP hD hS => ?_)
        have hP : va_P D vwCl [(o, .inr (8, [.ref ob, .ref on, .ref ow8, .ref os, .ref oe, .int (nI sc8), .ref oi, .int (nI cn8), .ref op, .int (nI 0), .int (oI gA), .int (oI gR), .int rs8, .int (nI a8), .ref oz, .ref oc8, .ref oq, .ref om, .ref oy, .ref og, .ref ok8])), (ob, .inl (Y 0, 24, .inl (aN (bk gh gca gun prs yrs)))), (on, .inl (Y 0, 24, .inl (aN (bk gh gca gun prs yrs))))] H := hP
        have hD : va_D A [(o, .inr (8, [.ref ob, .ref on, .ref ow8, .ref os, .ref oe, .int (nI sc8), .ref oi, .int (nI cn8), .ref op, .int (nI 0), .int (oI gA), .int (oI gR), .int rs8, .int (nI a8), .ref oz, .ref oc8, .ref oq, .ref om, .ref oy, .ref og, .ref ok8])), (ob, .inl (Y 0, 24, .inl (aN (bk gh gca gun prs yrs)))), (on, .inl (Y 0, 24, .inl (aN (bk gh gca gun prs yrs))))] := hD
        refine lv_aload_n hx hb dX8_asNow_31 rfl (lv_at hl 1 rfl) ?_
        refine lv_bipush (v := -6) hx hb dX8_asNow_32 (by decide) ?_
        refine va_put (D := D) (ci := 8) (v := .int (-6)) (ty := .int) (C := RX8) (T := TX8) (N := 21) hx hb hts inlX8 tyX8 tyX8_ok nmX8 hown hK hP hD hS 0 rfl rfl 10 (by decide) (hts _ mw_315) (fun _ h9 => h9) rfl (by decide +kernel) rfl rfl (Nat.le_of_ble_eq_true rfl) dX8_asNow_34 (fun H locs hP hD hS => ?_)
        have hP : va_P D vwCl [(o, .inr (8, [.ref ob, .ref on, .ref ow8, .ref os, .ref oe, .int (nI sc8), .ref oi, .int (nI cn8), .ref op, .int (nI 0), .int (-6), .int (oI gR), .int rs8, .int (nI a8), .ref oz, .ref oc8, .ref oq, .ref om, .ref oy, .ref og, .ref ok8])), (ob, .inl (Y 0, 24, .inl (aN (bk gh gca gun prs yrs)))), (on, .inl (Y 0, 24, .inl (aN (bk gh gca gun prs yrs))))] H := hP
        have hD : va_D A [(o, .inr (8, [.ref ob, .ref on, .ref ow8, .ref os, .ref oe, .int (nI sc8), .ref oi, .int (nI cn8), .ref op, .int (nI 0), .int (-6), .int (oI gR), .int rs8, .int (nI a8), .ref oz, .ref oc8, .ref oq, .ref om, .ref oy, .ref og, .ref ok8])), (ob, .inl (Y 0, 24, .inl (aN (bk gh gca gun prs yrs)))), (on, .inl (Y 0, 24, .inl (aN (bk gh gca gun prs yrs))))] := hD
        refine lv_aload_n hx hb dX8_asNow_37 rfl (lv_at hl 1 rfl) ?_
        refine lv_bipush (v := -6) hx hb dX8_asNow_38 (by decide) ?_
        refine va_put (D := D) (ci := 8) (v := .int (-6)) (ty := .int) (C := RX8) (T := TX8) (N := 21) hx hb hts inlX8 tyX8 tyX8_ok nmX8 hown hK hP hD hS 0 rfl rfl 11 (by decide) (hts _ mw_316) (fun _ h9 => h9) rfl (by decide +kernel) rfl rfl (Nat.le_of_ble_eq_true rfl) dX8_asNow_40 (fun H locs hP hD hS => ?_)
        have hP : va_P D vwCl [(o, .inr (8, [.ref ob, .ref on, .ref ow8, .ref os, .ref oe, .int (nI sc8), .ref oi, .int (nI cn8), .ref op, .int (nI 0), .int (-6), .int (-6), .int rs8, .int (nI a8), .ref oz, .ref oc8, .ref oq, .ref om, .ref oy, .ref og, .ref ok8])), (ob, .inl (Y 0, 24, .inl (aN (bk gh gca gun prs yrs)))), (on, .inl (Y 0, 24, .inl (aN (bk gh gca gun prs yrs))))] H := hP
        have hD : va_D A [(o, .inr (8, [.ref ob, .ref on, .ref ow8, .ref os, .ref oe, .int (nI sc8), .ref oi, .int (nI cn8), .ref op, .int (nI 0), .int (-6), .int (-6), .int rs8, .int (nI a8), .ref oz, .ref oc8, .ref oq, .ref om, .ref oy, .ref og, .ref ok8])), (ob, .inl (Y 0, 24, .inl (aN (bk gh gca gun prs yrs)))), (on, .inl (Y 0, 24, .inl (aN (bk gh gca gun prs yrs))))] := hD
        exact mv_vret hx hb hr hlocks () (trivial) hP hK hD hS dX8_asNow_43
      · skip
        refine lv_aload_n hx hb dX8_asNow_8 rfl (lv_at hl 1 rfl) ?_
        refine va_get (D := D) (ci := 8) (v := .ref on) (C := RX8) (T := TX8) (N := 21) hx hb hts inlX8 hown hK hP 0 rfl rfl 1 (by decide) (hts _ mw_84) (fun _ h9 => h9) rfl dX8_asNow_9 ?_
        refine lv_iload_n hx hb dX8_asNow_12 rfl (lv_at hl 0 rfl) ?_
        refine lv_aload_n hx hb dX8_asNow_13 rfl (lv_at hl 1 rfl) ?_
        refine va_get (D := D) (ci := 8) (v := .ref ob) (C := RX8) (T := TX8) (N := 21) hx hb hts inlX8 hown hK hP 0 rfl rfl 0 (by decide) (hts _ mw_83) (fun _ h9 => h9) rfl dX8_asNow_14 ?_
        refine lv_iload_n hx hb dX8_asNow_17 rfl (lv_at hl 0 rfl) ?_
        refine mv_iald hx hb hK hP 1 rfl (i := k) (by omega) (by decide) dX8_asNow_18 ?_
        refine mv_iast hx hb hK hP hD hS 2 rfl (i := k) (v := (bk gh gca gun prs yrs) k) (by omega) (by decide) dX8_asNow_19 (fun H locs hP hD hS => ?_)
        have hP : va_P D vwCl [(o, .inr (8, [.ref ob, .ref on, .ref ow8, .ref os, .ref oe, .int (nI sc8), .ref oi, .int (nI cn8), .ref op, .int (nI bt), .int (oI gA), .int (oI gR), .int rs8, .int (nI a8), .ref oz, .ref oc8, .ref oq, .ref om, .ref oy, .ref og, .ref ok8])), (ob, .inl (Y 0, 24, .inl (aN (bk gh gca gun prs yrs)))), (on, .inl (Y 0, 24, .inl (aN (uN gz k ((bk gh gca gun prs yrs) k)))))] H := hP
        have hD : va_D A [(o, .inr (8, [.ref ob, .ref on, .ref ow8, .ref os, .ref oe, .int (nI sc8), .ref oi, .int (nI cn8), .ref op, .int (nI bt), .int (oI gA), .int (oI gR), .int rs8, .int (nI a8), .ref oz, .ref oc8, .ref oq, .ref om, .ref oy, .ref og, .ref ok8])), (ob, .inl (Y 0, 24, .inl (aN (bk gh gca gun prs yrs)))), (on, .inl (Y 0, 24, .inl (aN (uN gz k ((bk gh gca gun prs yrs) k)))))] := hD
        refine lv_iinc (v := nI (k + 1)) (lv' := [(1, .int (nI (k + 1))), (0, .ref o)]) hx hb dX8_asNow_20 hl (k := 0) rfl (by exact nI_add _ 1) (by decide) rfl (fun ls hl => ?_)
        refine lv_goto (tgt := 2) hx hb dX8_asNow_23 (by decide) ?_
        exact L2ih  (k + 1) (uN gz k ((bk gh gca gun prs yrs) k)) (by first | assumption | omega | rfl) (fun j hj => by by_cases e9 : j = k; rw [e9, uN_s]; rw [uN_n _ _ e9]; exact hg j (by omega)) (by omega) _ _ _ hP hD hS (lv_sub hl [0, 1] rfl)
  refine lv_iconst (v := nI 0) hx hb dX8_asNow_0 (by decide) ?_
  refine lv_istore_n (lv' := [(1, .int (nI 0)), (0, .ref o)]) hx hb dX8_asNow_1 rfl hl (by decide) rfl (fun ls hl => ?_)
  exact L2 (24 - 0 + 1) 0 gz0 (by first | assumption | omega | rfl) (fun j hj => absurd hj (Nat.not_lt_zero _)) (Nat.lt_succ_self _) _ _ _ hP hD hS (lv_sub hl [0, 1] rfl)
abbrev q_X8_layIn (D : va_G) (Y : Nat → ClassId) (o : Nat) (ob : Nat) (on : Nat) (ow8 : Nat) (os : Nat) (oe : Nat) (oi : Nat) (op : Nat) (oz : Nat) (oc8 : Nat) (oq : Nat) (om : Nat) (oy : Nat) (og : Nat) (ok8 : Nat) (sc8 : Nat) (cn8 : Nat) (bt : Nat) (a8 : Nat) (rs8 : Int32) (gA : Option Nat) (gR : Option Nat) (gh : Nat → Nat) (gca : Nat → Nat) (gun : Nat → Nat) (prs : Nat) (yrs : Nat) (rb : Nat) : (Nat → Prop) → Array Value → State → Outcome → State → Prop := mv_Qi D Y (fun (r : Int32) (ux : Nat) => (r, ux) = if prs / 2 ^ rb % 2 = 1 then (nI 1, prs) else (nI 0, prs ||| 1 * 2 ^ rb)) (fun ux : Nat => ([(o, .inr (8, [.ref ob, .ref on, .ref ow8, .ref os, .ref oe, .int (nI sc8), .ref oi, .int (nI cn8), .ref op, .int (nI bt), .int (oI gA), .int (oI gR), .int rs8, .int (nI a8), .ref oz, .ref oc8, .ref oq, .ref om, .ref oy, .ref og, .ref ok8])), (on, .inl (Y 0, 24, .inl (aN (bk gh gca gun ux yrs))))] : va_W))
set_option maxHeartbeats 4000000 in
set_option maxRecDepth 100000 in
theorem c_X8_layIn (l : Launch) (D : va_G) (Y : Nat → ClassId) (sz : Nat) (o : Nat) (ob : Nat) (on : Nat) (ow8 : Nat) (os : Nat) (oe : Nat) (oi : Nat) (op : Nat) (oz : Nat) (oc8 : Nat) (oq : Nat) (om : Nat) (oy : Nat) (og : Nat) (ok8 : Nat) (sc8 : Nat) (cn8 : Nat) (bt : Nat) (a8 : Nat) (rs8 : Int32) (gA : Option Nat) (gR : Option Nat) (gh : Nat → Nat) (gca : Nat → Nat) (gun : Nat → Nat) (prs : Nat) (yrs : Nat) (rb : Nat) (hrb : rb < 6) (hp : prs < 64) : mv_C l D Y yX8_layIn cX8_layIn 2 (some .int) 1 0 0 [.ref o, .int (nI rb)] sz [(o, .inr (8, [.ref ob, .ref on, .ref ow8, .ref os, .ref oe, .int (nI sc8), .ref oi, .int (nI cn8), .ref op, .int (nI bt), .int (oI gA), .int (oI gR), .int rs8, .int (nI a8), .ref oz, .ref oc8, .ref oq, .ref om, .ref oy, .ref og, .ref ok8])), (on, .inl (Y 0, 24, .inl (aN (bk gh gca gun prs yrs))))] (q_X8_layIn D Y o ob on ow8 os oe oi op oz oc8 oq om oy og ok8 sc8 cn8 bt a8 rs8 gA gR gh gca gun prs yrs rb) := by
  refine mv_ofW (by decide) (Nat.le_of_ble_eq_true rfl) ?_
  intro p e s m below meth c ls A hx hb hr hlocks hml hnm hown hts hsz hAe hP hK hD hS hST hA hl
  have hl : lv_has ls 2 [(0, .ref o), (1, .int (nI rb))] := hl
  refine lv_aload_n hx hb dX8_layIn_0 rfl (lv_at hl 0 rfl) ?_
  refine va_get (D := D) (ci := 8) (v := .ref on) (C := RX8) (T := TX8) (N := 21) hx hb hts inlX8 hown hK hP 0 rfl rfl 1 (by decide) (hts _ mw_84) (fun _ h9 => h9) rfl dX8_layIn_1 ?_
  refine lv_bipush (v := nI 22) hx hb dX8_layIn_4 (by decide) ?_
  refine mv_iald hx hb hK hP 1 rfl (i := 22) (by omega) (by decide) dX8_layIn_6 ?_
  rw [show (bk gh gca gun prs yrs) 22 = prs from bk_p]
  refine lv_iload_n hx hb dX8_layIn_7 rfl (lv_at hl 1 rfl) ?_
  refine mv_callSi (nA := 2) (As := [.int (nI prs), .int (nI rb)]) (rest := []) (Wc := []) (wr := [(o, .inr (8, [.ref ob, .ref on, .ref ow8, .ref os, .ref oe, .int (nI sc8), .ref oi, .int (nI cn8), .ref op, .int (nI bt), .int (oI gA), .int (oI gR), .int rs8, .int (nI a8), .ref oz, .ref oc8, .ref oq, .ref om, .ref oy, .ref og, .ref ok8])), (on, .inl (Y 0, 24, .inl (aN (bk gh gca gun prs yrs))))]) hx hb hml hown hts hK hP hD hS hST hA hl.1 (c_X8_has l D Y _ prs rb (by first | assumption | omega | rfl) (by first | assumption | omega | rfl)) [] [0, 1] rfl rfl (by decide) (by decide) (by decide) rfl mw_334 mw_335 mw_5 mw_336 ⟨by decide, by decide, by decide +kernel⟩ rfl ⟨Nat.le_of_ble_eq_true rfl, Nat.le_of_ble_eq_true rfl⟩ rfl (Nat.le_of_ble_eq_true rfl) dX8_layIn_8 ⟨Nat.le_of_ble_eq_true rfl, Nat.le_of_ble_eq_true rfl⟩ (fun r_1 ux H locs hr8 hP hD hS hz8 => ?_)
  have hP := hP.sub (ws' := [(o, .inr (8, [.ref ob, .ref on, .ref ow8, .ref os, .ref oe, .int (nI sc8), .ref oi, .int (nI cn8), .ref op, .int (nI bt), .int (oI gA), .int (oI gR), .int rs8, .int (nI a8), .ref oz, .ref oc8, .ref oq, .ref om, .ref oy, .ref og, .ref ok8])), (on, .inl (Y 0, 24, .inl (aN (bk gh gca gun prs yrs))))]) [0, 1] rfl
  have hD := hD.sub (ws' := [(o, .inr (8, [.ref ob, .ref on, .ref ow8, .ref os, .ref oe, .int (nI sc8), .ref oi, .int (nI cn8), .ref op, .int (nI bt), .int (oI gA), .int (oI gR), .int rs8, .int (nI a8), .ref oz, .ref oc8, .ref oq, .ref om, .ref oy, .ref og, .ref ok8])), (on, .inl (Y 0, 24, .inl (aN (bk gh gca gun prs yrs))))]) [0, 1] (by decide) rfl
  have hr8 : r_1 = nI (prs / 2 ^ rb % 2) := hr8
  subst hr8
  refine mv_if_eq (tgt := 16) hx hb (by first | omega | exact Nat.lt_trans (Nat.mod_lt _ (by decide)) (by decide)) dX8_layIn_11 (by decide) (fun c11 => ?_) (fun c11 => ?_)
  · skip
    refine lv_aload_n hx hb dX8_layIn_16 rfl (lv_at hl 0 rfl) ?_
    refine va_get (D := D) (ci := 8) (v := .ref on) (C := RX8) (T := TX8) (N := 21) hx hb hts inlX8 hown hK hP 0 rfl rfl 1 (by decide) (hts _ mw_84) (fun _ h9 => h9) rfl dX8_layIn_17 ?_
    refine lv_bipush (v := nI 22) hx hb dX8_layIn_20 (by decide) ?_
    refine lv_dup2_11 hx hb dX8_layIn_22 rfl rfl ?_
    refine mv_iald hx hb hK hP 1 rfl (i := 22) (by omega) (by decide) dX8_layIn_23 ?_
    rw [show (bk gh gca gun prs yrs) 22 = prs from bk_p]
    refine lv_iconst (v := nI 1) hx hb dX8_layIn_24 (by decide) ?_
    refine lv_iload_n hx hb dX8_layIn_25 rfl (lv_at hl 1 rfl) ?_
    refine mv_ishl hx hb (by omega) dX8_layIn_26 ?_
    refine mv_ior hx hb dX8_layIn_27 ?_
    refine mv_iast hx hb hK hP hD hS 1 rfl (i := 22) (v := prs ||| (1 * 2 ^ rb)) (by omega) (by decide) dX8_layIn_28 (fun H locs hP hD hS => ?_)
    have hP : va_P D vwCl [(o, .inr (8, [.ref ob, .ref on, .ref ow8, .ref os, .ref oe, .int (nI sc8), .ref oi, .int (nI cn8), .ref op, .int (nI bt), .int (oI gA), .int (oI gR), .int rs8, .int (nI a8), .ref oz, .ref oc8, .ref oq, .ref om, .ref oy, .ref og, .ref ok8])), (on, .inl (Y 0, 24, .inl (aN (uN (bk gh gca gun prs yrs) 22 (prs ||| (1 * 2 ^ rb))))))] H := hP
    have hD : va_D A [(o, .inr (8, [.ref ob, .ref on, .ref ow8, .ref os, .ref oe, .int (nI sc8), .ref oi, .int (nI cn8), .ref op, .int (nI bt), .int (oI gA), .int (oI gR), .int rs8, .int (nI a8), .ref oz, .ref oc8, .ref oq, .ref om, .ref oy, .ref og, .ref ok8])), (on, .inl (Y 0, 24, .inl (aN (uN (bk gh gca gun prs yrs) 22 (prs ||| (1 * 2 ^ rb))))))] := hD
    rw [show uN (bk gh gca gun prs yrs) 22 (prs ||| (1 * 2 ^ rb)) = bk gh gca gun (prs ||| (1 * 2 ^ rb)) yrs from uN_bk_p] at hP hD
    refine lv_iconst (v := nI 0) hx hb dX8_layIn_29 (by decide) ?_
    exact mv_iret hx hb hr hlocks (prs ||| (1 * 2 ^ rb)) (by rw [if_neg (by omega)]) hP hK hD hS dX8_layIn_30
  · skip
    refine lv_iconst (v := nI 1) hx hb dX8_layIn_14 (by decide) ?_
    exact mv_iret hx hb hr hlocks (prs) (by rw [if_pos (by omega)]) hP hK hD hS dX8_layIn_15
abbrev q_X8_takeOut (D : va_G) (Y : Nat → ClassId) (o : Nat) (ob : Nat) (on : Nat) (ow8 : Nat) (os : Nat) (oe : Nat) (oi : Nat) (op : Nat) (oz : Nat) (oc8 : Nat) (oq : Nat) (om : Nat) (oy : Nat) (og : Nat) (ok8 : Nat) (sc8 : Nat) (cn8 : Nat) (bt : Nat) (a8 : Nat) (rs8 : Int32) (gA : Option Nat) (gR : Option Nat) (gh : Nat → Nat) (gca : Nat → Nat) (gun : Nat → Nat) (prs : Nat) (yrs : Nat) (rb : Nat) : (Nat → Prop) → Array Value → State → Outcome → State → Prop := mv_Qi D Y (fun (r : Int32) (ux : Nat) => (r, ux) = if prs / 2 ^ rb % 2 = 1 then (nI 0, prs &&& (1 * 2 ^ rb ^^^ 4294967295)) else (nI 1, prs)) (fun ux : Nat => ([(o, .inr (8, [.ref ob, .ref on, .ref ow8, .ref os, .ref oe, .int (nI sc8), .ref oi, .int (nI cn8), .ref op, .int (nI bt), .int (oI gA), .int (oI gR), .int rs8, .int (nI a8), .ref oz, .ref oc8, .ref oq, .ref om, .ref oy, .ref og, .ref ok8])), (on, .inl (Y 0, 24, .inl (aN (bk gh gca gun ux yrs))))] : va_W))
set_option maxHeartbeats 4000000 in
set_option maxRecDepth 100000 in
theorem c_X8_takeOut (l : Launch) (D : va_G) (Y : Nat → ClassId) (sz : Nat) (o : Nat) (ob : Nat) (on : Nat) (ow8 : Nat) (os : Nat) (oe : Nat) (oi : Nat) (op : Nat) (oz : Nat) (oc8 : Nat) (oq : Nat) (om : Nat) (oy : Nat) (og : Nat) (ok8 : Nat) (sc8 : Nat) (cn8 : Nat) (bt : Nat) (a8 : Nat) (rs8 : Int32) (gA : Option Nat) (gR : Option Nat) (gh : Nat → Nat) (gca : Nat → Nat) (gun : Nat → Nat) (prs : Nat) (yrs : Nat) (rb : Nat) (hrb : rb < 6) (hp : prs < 64) : mv_C l D Y yX8_takeOut cX8_takeOut 2 (some .int) 1 0 0 [.ref o, .int (nI rb)] sz [(o, .inr (8, [.ref ob, .ref on, .ref ow8, .ref os, .ref oe, .int (nI sc8), .ref oi, .int (nI cn8), .ref op, .int (nI bt), .int (oI gA), .int (oI gR), .int rs8, .int (nI a8), .ref oz, .ref oc8, .ref oq, .ref om, .ref oy, .ref og, .ref ok8])), (on, .inl (Y 0, 24, .inl (aN (bk gh gca gun prs yrs))))] (q_X8_takeOut D Y o ob on ow8 os oe oi op oz oc8 oq om oy og ok8 sc8 cn8 bt a8 rs8 gA gR gh gca gun prs yrs rb) := by
  refine mv_ofW (by decide) (Nat.le_of_ble_eq_true rfl) ?_
  intro p e s m below meth c ls A hx hb hr hlocks hml hnm hown hts hsz hAe hP hK hD hS hST hA hl
  have hl : lv_has ls 2 [(0, .ref o), (1, .int (nI rb))] := hl
  refine lv_aload_n hx hb dX8_takeOut_0 rfl (lv_at hl 0 rfl) ?_
  refine va_get (D := D) (ci := 8) (v := .ref on) (C := RX8) (T := TX8) (N := 21) hx hb hts inlX8 hown hK hP 0 rfl rfl 1 (by decide) (hts _ mw_84) (fun _ h9 => h9) rfl dX8_takeOut_1 ?_
  refine lv_bipush (v := nI 22) hx hb dX8_takeOut_4 (by decide) ?_
  refine mv_iald hx hb hK hP 1 rfl (i := 22) (by omega) (by decide) dX8_takeOut_6 ?_
  rw [show (bk gh gca gun prs yrs) 22 = prs from bk_p]
  refine lv_iload_n hx hb dX8_takeOut_7 rfl (lv_at hl 1 rfl) ?_
  refine mv_callSi (nA := 2) (As := [.int (nI prs), .int (nI rb)]) (rest := []) (Wc := []) (wr := [(o, .inr (8, [.ref ob, .ref on, .ref ow8, .ref os, .ref oe, .int (nI sc8), .ref oi, .int (nI cn8), .ref op, .int (nI bt), .int (oI gA), .int (oI gR), .int rs8, .int (nI a8), .ref oz, .ref oc8, .ref oq, .ref om, .ref oy, .ref og, .ref ok8])), (on, .inl (Y 0, 24, .inl (aN (bk gh gca gun prs yrs))))]) hx hb hml hown hts hK hP hD hS hST hA hl.1 (c_X8_has l D Y _ prs rb (by first | assumption | omega | rfl) (by first | assumption | omega | rfl)) [] [0, 1] rfl rfl (by decide) (by decide) (by decide) rfl mw_334 mw_335 mw_5 mw_336 ⟨by decide, by decide, by decide +kernel⟩ rfl ⟨Nat.le_of_ble_eq_true rfl, Nat.le_of_ble_eq_true rfl⟩ rfl (Nat.le_of_ble_eq_true rfl) dX8_takeOut_8 ⟨Nat.le_of_ble_eq_true rfl, Nat.le_of_ble_eq_true rfl⟩ (fun r_1 ux H locs hr8 hP hD hS hz8 => ?_)
  have hP := hP.sub (ws' := [(o, .inr (8, [.ref ob, .ref on, .ref ow8, .ref os, .ref oe, .int (nI sc8), .ref oi, .int (nI cn8), .ref op, .int (nI bt), .int (oI gA), .int (oI gR), .int rs8, .int (nI a8), .ref oz, .ref oc8, .ref oq, .ref om, .ref oy, .ref og, .ref ok8])), (on, .inl (Y 0, 24, .inl (aN (bk gh gca gun prs yrs))))]) [0, 1] rfl
  have hD := hD.sub (ws' := [(o, .inr (8, [.ref ob, .ref on, .ref ow8, .ref os, .ref oe, .int (nI sc8), .ref oi, .int (nI cn8), .ref op, .int (nI bt), .int (oI gA), .int (oI gR), .int rs8, .int (nI a8), .ref oz, .ref oc8, .ref oq, .ref om, .ref oy, .ref og, .ref ok8])), (on, .inl (Y 0, 24, .inl (aN (bk gh gca gun prs yrs))))]) [0, 1] (by decide) rfl
  have hr8 : r_1 = nI (prs / 2 ^ rb % 2) := hr8
  subst hr8
  refine mv_if_ne (tgt := 16) hx hb (by first | omega | exact Nat.lt_trans (Nat.mod_lt _ (by decide)) (by decide)) dX8_takeOut_11 (by decide) (fun c11 => ?_) (fun c11 => ?_)
  · skip
    refine lv_aload_n hx hb dX8_takeOut_16 rfl (lv_at hl 0 rfl) ?_
    refine va_get (D := D) (ci := 8) (v := .ref on) (C := RX8) (T := TX8) (N := 21) hx hb hts inlX8 hown hK hP 0 rfl rfl 1 (by decide) (hts _ mw_84) (fun _ h9 => h9) rfl dX8_takeOut_17 ?_
    refine lv_bipush (v := nI 22) hx hb dX8_takeOut_20 (by decide) ?_
    refine lv_dup2_11 hx hb dX8_takeOut_22 rfl rfl ?_
    refine mv_iald hx hb hK hP 1 rfl (i := 22) (by omega) (by decide) dX8_takeOut_23 ?_
    rw [show (bk gh gca gun prs yrs) 22 = prs from bk_p]
    refine lv_iconst (v := nI 1) hx hb dX8_takeOut_24 (by decide) ?_
    refine lv_iload_n hx hb dX8_takeOut_25 rfl (lv_at hl 1 rfl) ?_
    refine mv_ishl hx hb (by omega) dX8_takeOut_26 ?_
    refine lv_iconst (v := nI 4294967295) hx hb dX8_takeOut_27 (by decide) ?_
    refine mv_ixor hx hb dX8_takeOut_28 ?_
    refine mv_iand hx hb dX8_takeOut_29 ?_
    refine mv_iast hx hb hK hP hD hS 1 rfl (i := 22) (v := prs &&& ((1 * 2 ^ rb) ^^^ 4294967295)) (by omega) (by decide) dX8_takeOut_30 (fun H locs hP hD hS => ?_)
    have hP : va_P D vwCl [(o, .inr (8, [.ref ob, .ref on, .ref ow8, .ref os, .ref oe, .int (nI sc8), .ref oi, .int (nI cn8), .ref op, .int (nI bt), .int (oI gA), .int (oI gR), .int rs8, .int (nI a8), .ref oz, .ref oc8, .ref oq, .ref om, .ref oy, .ref og, .ref ok8])), (on, .inl (Y 0, 24, .inl (aN (uN (bk gh gca gun prs yrs) 22 (prs &&& ((1 * 2 ^ rb) ^^^ 4294967295))))))] H := hP
    have hD : va_D A [(o, .inr (8, [.ref ob, .ref on, .ref ow8, .ref os, .ref oe, .int (nI sc8), .ref oi, .int (nI cn8), .ref op, .int (nI bt), .int (oI gA), .int (oI gR), .int rs8, .int (nI a8), .ref oz, .ref oc8, .ref oq, .ref om, .ref oy, .ref og, .ref ok8])), (on, .inl (Y 0, 24, .inl (aN (uN (bk gh gca gun prs yrs) 22 (prs &&& ((1 * 2 ^ rb) ^^^ 4294967295))))))] := hD
    rw [show uN (bk gh gca gun prs yrs) 22 (prs &&& ((1 * 2 ^ rb) ^^^ 4294967295)) = bk gh gca gun (prs &&& ((1 * 2 ^ rb) ^^^ 4294967295)) yrs from uN_bk_p] at hP hD
    refine lv_iconst (v := nI 0) hx hb dX8_takeOut_31 (by decide) ?_
    exact mv_iret hx hb hr hlocks (prs &&& ((1 * 2 ^ rb) ^^^ 4294967295)) (by rw [if_pos (by omega)]) hP hK hD hS dX8_takeOut_32
  · skip
    refine lv_iconst (v := nI 1) hx hb dX8_takeOut_14 (by decide) ?_
    exact mv_iret hx hb hr hlocks (prs) (by rw [if_neg (by omega)]) hP hK hD hS dX8_takeOut_15
abbrev q_X8_strew (D : va_G) (Y : Nat → ClassId) (o : Nat) (ob : Nat) (on : Nat) (ow8 : Nat) (os : Nat) (oe : Nat) (oi : Nat) (op : Nat) (oz : Nat) (oc8 : Nat) (oq : Nat) (om : Nat) (oy : Nat) (og : Nat) (ok8 : Nat) (sc8 : Nat) (cn8 : Nat) (bt : Nat) (a8 : Nat) (rs8 : Int32) (gA : Option Nat) (gR : Option Nat) (gh : Nat → Nat) (gca : Nat → Nat) (gun : Nat → Nat) (prs : Nat) (yrs : Nat) (rb : Nat) : (Nat → Prop) → Array Value → State → Outcome → State → Prop := mv_Qi D Y (fun (r : Int32) (ux : (Nat → Nat)) => (r, ux) = if prs / 2 ^ rb % 2 = 1 then (nI 2, gca) else if 9 ≤ gca rb then (nI 3, gca) else (nI 0, uN gca rb (gca rb + 1))) (fun ux : (Nat → Nat) => ([(o, .inr (8, [.ref ob, .ref on, .ref ow8, .ref os, .ref oe, .int (nI sc8), .ref oi, .int (nI cn8), .ref op, .int (nI bt), .int (oI gA), .int (oI gR), .int rs8, .int (nI a8), .ref oz, .ref oc8, .ref oq, .ref om, .ref oy, .ref og, .ref ok8])), (on, .inl (Y 0, 24, .inl (aN (bk gh ux gun prs yrs))))] : va_W))
set_option maxHeartbeats 4000000 in
set_option maxRecDepth 100000 in
theorem c_X8_strew (l : Launch) (D : va_G) (Y : Nat → ClassId) (sz : Nat) (o : Nat) (ob : Nat) (on : Nat) (ow8 : Nat) (os : Nat) (oe : Nat) (oi : Nat) (op : Nat) (oz : Nat) (oc8 : Nat) (oq : Nat) (om : Nat) (oy : Nat) (og : Nat) (ok8 : Nat) (sc8 : Nat) (cn8 : Nat) (bt : Nat) (a8 : Nat) (rs8 : Int32) (gA : Option Nat) (gR : Option Nat) (gh : Nat → Nat) (gca : Nat → Nat) (gun : Nat → Nat) (prs : Nat) (yrs : Nat) (rb : Nat) (hrb : rb < 6) (hp : prs < 64) (hc : ∀ k, k < 6 → gca k ≤ 9) : mv_C l D Y yX8_strew cX8_strew 2 (some .int) 1 0 0 [.ref o, .int (nI rb)] sz [(o, .inr (8, [.ref ob, .ref on, .ref ow8, .ref os, .ref oe, .int (nI sc8), .ref oi, .int (nI cn8), .ref op, .int (nI bt), .int (oI gA), .int (oI gR), .int rs8, .int (nI a8), .ref oz, .ref oc8, .ref oq, .ref om, .ref oy, .ref og, .ref ok8])), (on, .inl (Y 0, 24, .inl (aN (bk gh gca gun prs yrs))))] (q_X8_strew D Y o ob on ow8 os oe oi op oz oc8 oq om oy og ok8 sc8 cn8 bt a8 rs8 gA gR gh gca gun prs yrs rb) := by
  refine mv_ofW (by decide) (Nat.le_of_ble_eq_true rfl) ?_
  intro p e s m below meth c ls A hx hb hr hlocks hml hnm hown hts hsz hAe hP hK hD hS hST hA hl
  have hl : lv_has ls 2 [(0, .ref o), (1, .int (nI rb))] := hl
  refine lv_aload_n hx hb dX8_strew_0 rfl (lv_at hl 0 rfl) ?_
  refine va_get (D := D) (ci := 8) (v := .ref on) (C := RX8) (T := TX8) (N := 21) hx hb hts inlX8 hown hK hP 0 rfl rfl 1 (by decide) (hts _ mw_84) (fun _ h9 => h9) rfl dX8_strew_1 ?_
  refine lv_bipush (v := nI 22) hx hb dX8_strew_4 (by decide) ?_
  refine mv_iald hx hb hK hP 1 rfl (i := 22) (by omega) (by decide) dX8_strew_6 ?_
  rw [show (bk gh gca gun prs yrs) 22 = prs from bk_p]
  refine lv_iload_n hx hb dX8_strew_7 rfl (lv_at hl 1 rfl) ?_
  refine mv_callSi (nA := 2) (As := [.int (nI prs), .int (nI rb)]) (rest := []) (Wc := []) (wr := [(o, .inr (8, [.ref ob, .ref on, .ref ow8, .ref os, .ref oe, .int (nI sc8), .ref oi, .int (nI cn8), .ref op, .int (nI bt), .int (oI gA), .int (oI gR), .int rs8, .int (nI a8), .ref oz, .ref oc8, .ref oq, .ref om, .ref oy, .ref og, .ref ok8])), (on, .inl (Y 0, 24, .inl (aN (bk gh gca gun prs yrs))))]) hx hb hml hown hts hK hP hD hS hST hA hl.1 (c_X8_has l D Y _ prs rb (by first | assumption | omega | rfl) (by first | assumption | omega | rfl)) [] [0, 1] rfl rfl (by decide) (by decide) (by decide) rfl mw_334 mw_335 mw_5 mw_336 ⟨by decide, by decide, by decide +kernel⟩ rfl ⟨Nat.le_of_ble_eq_true rfl, Nat.le_of_ble_eq_true rfl⟩ rfl (Nat.le_of_ble_eq_true rfl) dX8_strew_8 ⟨Nat.le_of_ble_eq_true rfl, Nat.le_of_ble_eq_true rfl⟩ (fun r_1 ux H locs hr8 hP hD hS hz8 => ?_)
  have hP := hP.sub (ws' := [(o, .inr (8, [.ref ob, .ref on, .ref ow8, .ref os, .ref oe, .int (nI sc8), .ref oi, .int (nI cn8), .ref op, .int (nI bt), .int (oI gA), .int (oI gR), .int rs8, .int (nI a8), .ref oz, .ref oc8, .ref oq, .ref om, .ref oy, .ref og, .ref ok8])), (on, .inl (Y 0, 24, .inl (aN (bk gh gca gun prs yrs))))]) [0, 1] rfl
  have hD := hD.sub (ws' := [(o, .inr (8, [.ref ob, .ref on, .ref ow8, .ref os, .ref oe, .int (nI sc8), .ref oi, .int (nI cn8), .ref op, .int (nI bt), .int (oI gA), .int (oI gR), .int rs8, .int (nI a8), .ref oz, .ref oc8, .ref oq, .ref om, .ref oy, .ref og, .ref ok8])), (on, .inl (Y 0, 24, .inl (aN (bk gh gca gun prs yrs))))]) [0, 1] (by decide) rfl
  have hr8 : r_1 = nI (prs / 2 ^ rb % 2) := hr8
  subst hr8
  refine mv_if_eq (tgt := 16) hx hb (by first | omega | exact Nat.lt_trans (Nat.mod_lt _ (by decide)) (by decide) | (have := hc rb (by omega); omega)) dX8_strew_11 (by decide) (fun c11 => ?_) (fun c11 => ?_)
  · skip
    refine lv_aload_n hx hb dX8_strew_16 rfl (lv_at hl 0 rfl) ?_
    refine va_get (D := D) (ci := 8) (v := .ref on) (C := RX8) (T := TX8) (N := 21) hx hb hts inlX8 hown hK hP 0 rfl rfl 1 (by decide) (hts _ mw_84) (fun _ h9 => h9) rfl dX8_strew_17 ?_
    refine lv_bipush (v := nI 6) hx hb dX8_strew_20 (by decide) ?_
    refine lv_iload_n hx hb dX8_strew_22 rfl (lv_at hl 1 rfl) ?_
    refine mv_iadd hx hb dX8_strew_23 ?_
    refine mv_iald hx hb hK hP 1 rfl (i := 6 + rb) (by omega) (by decide) dX8_strew_24 ?_
    rw [show (bk gh gca gun prs yrs) (6 + rb) = gca rb from bk_c (by omega)]
    refine lv_bipush (v := nI 9) hx hb dX8_strew_25 (by decide) ?_
    refine mv_icmp_ne (tgt := 32) hx hb (by first | omega | exact Nat.lt_trans (Nat.mod_lt _ (by decide)) (by decide) | (have := hc rb (by omega); omega)) (by omega) dX8_strew_27 (by decide) (fun c27 => ?_) (fun c27 => ?_)
    · skip
      refine lv_aload_n hx hb dX8_strew_32 rfl (lv_at hl 0 rfl) ?_
      refine va_get (D := D) (ci := 8) (v := .ref on) (C := RX8) (T := TX8) (N := 21) hx hb hts inlX8 hown hK hP 0 rfl rfl 1 (by decide) (hts _ mw_84) (fun _ h9 => h9) rfl dX8_strew_33 ?_
      refine lv_bipush (v := nI 6) hx hb dX8_strew_36 (by decide) ?_
      refine lv_iload_n hx hb dX8_strew_38 rfl (lv_at hl 1 rfl) ?_
      refine mv_iadd hx hb dX8_strew_39 ?_
      refine lv_dup2_11 hx hb dX8_strew_40 rfl rfl ?_
      refine mv_iald hx hb hK hP 1 rfl (i := 6 + rb) (by omega) (by decide) dX8_strew_41 ?_
      rw [show (bk gh gca gun prs yrs) (6 + rb) = gca rb from bk_c (by omega)]
      refine lv_iconst (v := nI 1) hx hb dX8_strew_42 (by decide) ?_
      refine mv_iadd hx hb dX8_strew_43 ?_
      refine mv_iast hx hb hK hP hD hS 1 rfl (i := 6 + rb) (v := (gca rb) + 1) (by omega) (by decide) dX8_strew_44 (fun H locs hP hD hS => ?_)
      have hP : va_P D vwCl [(o, .inr (8, [.ref ob, .ref on, .ref ow8, .ref os, .ref oe, .int (nI sc8), .ref oi, .int (nI cn8), .ref op, .int (nI bt), .int (oI gA), .int (oI gR), .int rs8, .int (nI a8), .ref oz, .ref oc8, .ref oq, .ref om, .ref oy, .ref og, .ref ok8])), (on, .inl (Y 0, 24, .inl (aN (uN (bk gh gca gun prs yrs) (6 + rb) ((gca rb) + 1)))))] H := hP
      have hD : va_D A [(o, .inr (8, [.ref ob, .ref on, .ref ow8, .ref os, .ref oe, .int (nI sc8), .ref oi, .int (nI cn8), .ref op, .int (nI bt), .int (oI gA), .int (oI gR), .int rs8, .int (nI a8), .ref oz, .ref oc8, .ref oq, .ref om, .ref oy, .ref og, .ref ok8])), (on, .inl (Y 0, 24, .inl (aN (uN (bk gh gca gun prs yrs) (6 + rb) ((gca rb) + 1)))))] := hD
      rw [show uN (bk gh gca gun prs yrs) (6 + rb) ((gca rb) + 1) = bk gh (uN gca rb ((gca rb) + 1)) gun prs yrs from uN_bk_c (by omega)] at hP hD
      refine lv_iconst (v := nI 0) hx hb dX8_strew_45 (by decide) ?_
      exact mv_iret hx hb hr hlocks (uN gca rb ((gca rb) + 1)) (by have h9 := hc rb hrb; rw [if_neg (by omega), if_neg (by omega)]) hP hK hD hS dX8_strew_46
    · skip
      refine lv_iconst (v := nI 3) hx hb dX8_strew_30 (by decide) ?_
      exact mv_iret hx hb hr hlocks (gca) (by rw [if_neg (by omega), if_pos (by omega)]) hP hK hD hS dX8_strew_31
  · skip
    refine lv_iconst (v := nI 2) hx hb dX8_strew_14 (by decide) ?_
    exact mv_iret hx hb hr hlocks (gca) (by rw [if_pos (by omega)]) hP hK hD hS dX8_strew_15
abbrev q_X8_darn (D : va_G) (Y : Nat → ClassId) (o : Nat) (ob : Nat) (on : Nat) (ow8 : Nat) (os : Nat) (oe : Nat) (oi : Nat) (op : Nat) (oz : Nat) (oc8 : Nat) (oq : Nat) (om : Nat) (oy : Nat) (og : Nat) (ok8 : Nat) (sc8 : Nat) (cn8 : Nat) (bt : Nat) (a8 : Nat) (rs8 : Int32) (gA : Option Nat) (gR : Option Nat) (gh : Nat → Nat) (gca : Nat → Nat) (gun : Nat → Nat) (prs : Nat) (yrs : Nat) (rb : Nat) : (Nat → Prop) → Array Value → State → Outcome → State → Prop := mv_Qi D Y (fun (r : Int32) (ux : (Nat → Nat)) => (r, ux) = if prs / 2 ^ rb % 2 = 1 then (nI 2, gh) else if gh rb = 0 then (nI 3, gh) else (nI 0, uN gh rb (gh rb &&& (gh rb - 1)))) (fun ux : (Nat → Nat) => ([(o, .inr (8, [.ref ob, .ref on, .ref ow8, .ref os, .ref oe, .int (nI sc8), .ref oi, .int (nI cn8), .ref op, .int (nI bt), .int (oI gA), .int (oI gR), .int rs8, .int (nI a8), .ref oz, .ref oc8, .ref oq, .ref om, .ref oy, .ref og, .ref ok8])), (on, .inl (Y 0, 24, .inl (aN (bk ux gca gun prs yrs))))] : va_W))
set_option maxHeartbeats 4000000 in
set_option maxRecDepth 100000 in
theorem c_X8_darn (l : Launch) (D : va_G) (Y : Nat → ClassId) (sz : Nat) (o : Nat) (ob : Nat) (on : Nat) (ow8 : Nat) (os : Nat) (oe : Nat) (oi : Nat) (op : Nat) (oz : Nat) (oc8 : Nat) (oq : Nat) (om : Nat) (oy : Nat) (og : Nat) (ok8 : Nat) (sc8 : Nat) (cn8 : Nat) (bt : Nat) (a8 : Nat) (rs8 : Int32) (gA : Option Nat) (gR : Option Nat) (gh : Nat → Nat) (gca : Nat → Nat) (gun : Nat → Nat) (prs : Nat) (yrs : Nat) (rb : Nat) (hrb : rb < 6) (hp : prs < 64) (hh : ∀ k, k < 6 → gh k < 65536) : mv_C l D Y yX8_darn cX8_darn 2 (some .int) 1 0 0 [.ref o, .int (nI rb)] sz [(o, .inr (8, [.ref ob, .ref on, .ref ow8, .ref os, .ref oe, .int (nI sc8), .ref oi, .int (nI cn8), .ref op, .int (nI bt), .int (oI gA), .int (oI gR), .int rs8, .int (nI a8), .ref oz, .ref oc8, .ref oq, .ref om, .ref oy, .ref og, .ref ok8])), (on, .inl (Y 0, 24, .inl (aN (bk gh gca gun prs yrs))))] (q_X8_darn D Y o ob on ow8 os oe oi op oz oc8 oq om oy og ok8 sc8 cn8 bt a8 rs8 gA gR gh gca gun prs yrs rb) := by
  refine mv_ofW (by decide) (Nat.le_of_ble_eq_true rfl) ?_
  intro p e s m below meth c ls A hx hb hr hlocks hml hnm hown hts hsz hAe hP hK hD hS hST hA hl
  have hl : lv_has ls 2 [(0, .ref o), (1, .int (nI rb))] := hl
  refine lv_aload_n hx hb dX8_darn_0 rfl (lv_at hl 0 rfl) ?_
  refine va_get (D := D) (ci := 8) (v := .ref on) (C := RX8) (T := TX8) (N := 21) hx hb hts inlX8 hown hK hP 0 rfl rfl 1 (by decide) (hts _ mw_84) (fun _ h9 => h9) rfl dX8_darn_1 ?_
  refine lv_bipush (v := nI 22) hx hb dX8_darn_4 (by decide) ?_
  refine mv_iald hx hb hK hP 1 rfl (i := 22) (by omega) (by decide) dX8_darn_6 ?_
  rw [show (bk gh gca gun prs yrs) 22 = prs from bk_p]
  refine lv_iload_n hx hb dX8_darn_7 rfl (lv_at hl 1 rfl) ?_
  refine mv_callSi (nA := 2) (As := [.int (nI prs), .int (nI rb)]) (rest := []) (Wc := []) (wr := [(o, .inr (8, [.ref ob, .ref on, .ref ow8, .ref os, .ref oe, .int (nI sc8), .ref oi, .int (nI cn8), .ref op, .int (nI bt), .int (oI gA), .int (oI gR), .int rs8, .int (nI a8), .ref oz, .ref oc8, .ref oq, .ref om, .ref oy, .ref og, .ref ok8])), (on, .inl (Y 0, 24, .inl (aN (bk gh gca gun prs yrs))))]) hx hb hml hown hts hK hP hD hS hST hA hl.1 (c_X8_has l D Y _ prs rb (by first | assumption | omega | rfl) (by first | assumption | omega | rfl)) [] [0, 1] rfl rfl (by decide) (by decide) (by decide) rfl mw_334 mw_335 mw_5 mw_336 ⟨by decide, by decide, by decide +kernel⟩ rfl ⟨Nat.le_of_ble_eq_true rfl, Nat.le_of_ble_eq_true rfl⟩ rfl (Nat.le_of_ble_eq_true rfl) dX8_darn_8 ⟨Nat.le_of_ble_eq_true rfl, Nat.le_of_ble_eq_true rfl⟩ (fun r_1 ux H locs hr8 hP hD hS hz8 => ?_)
  have hP := hP.sub (ws' := [(o, .inr (8, [.ref ob, .ref on, .ref ow8, .ref os, .ref oe, .int (nI sc8), .ref oi, .int (nI cn8), .ref op, .int (nI bt), .int (oI gA), .int (oI gR), .int rs8, .int (nI a8), .ref oz, .ref oc8, .ref oq, .ref om, .ref oy, .ref og, .ref ok8])), (on, .inl (Y 0, 24, .inl (aN (bk gh gca gun prs yrs))))]) [0, 1] rfl
  have hD := hD.sub (ws' := [(o, .inr (8, [.ref ob, .ref on, .ref ow8, .ref os, .ref oe, .int (nI sc8), .ref oi, .int (nI cn8), .ref op, .int (nI bt), .int (oI gA), .int (oI gR), .int rs8, .int (nI a8), .ref oz, .ref oc8, .ref oq, .ref om, .ref oy, .ref og, .ref ok8])), (on, .inl (Y 0, 24, .inl (aN (bk gh gca gun prs yrs))))]) [0, 1] (by decide) rfl
  have hr8 : r_1 = nI (prs / 2 ^ rb % 2) := hr8
  subst hr8
  refine mv_if_eq (tgt := 16) hx hb (by first | omega | exact Nat.lt_trans (Nat.mod_lt _ (by decide)) (by decide) | (have := hh rb (by omega); omega)) dX8_darn_11 (by decide) (fun c11 => ?_) (fun c11 => ?_)
  · skip
    refine lv_aload_n hx hb dX8_darn_16 rfl (lv_at hl 0 rfl) ?_
    refine va_get (D := D) (ci := 8) (v := .ref on) (C := RX8) (T := TX8) (N := 21) hx hb hts inlX8 hown hK hP 0 rfl rfl 1 (by decide) (hts _ mw_84) (fun _ h9 => h9) rfl dX8_darn_17 ?_
    refine lv_iload_n hx hb dX8_darn_20 rfl (lv_at hl 1 rfl) ?_
    refine mv_iald hx hb hK hP 1 rfl (i := rb) (by omega) (by decide) dX8_darn_21 ?_
    rw [show (bk gh gca gun prs yrs) rb = gh rb from bk_h (by omega)]
    refine mv_if_ne (tgt := 27) hx hb (by first | omega | exact Nat.lt_trans (Nat.mod_lt _ (by decide)) (by decide) | (have := hh rb (by omega); omega)) dX8_darn_22 (by decide) (fun c22 => ?_) (fun c22 => ?_)
    · skip
      refine lv_aload_n hx hb dX8_darn_27 rfl (lv_at hl 0 rfl) ?_
      refine va_get (D := D) (ci := 8) (v := .ref on) (C := RX8) (T := TX8) (N := 21) hx hb hts inlX8 hown hK hP 0 rfl rfl 1 (by decide) (hts _ mw_84) (fun _ h9 => h9) rfl dX8_darn_28 ?_
      refine lv_iload_n hx hb dX8_darn_31 rfl (lv_at hl 1 rfl) ?_
      refine lv_dup2_11 hx hb dX8_darn_32 rfl rfl ?_
      refine mv_iald hx hb hK hP 1 rfl (i := rb) (by omega) (by decide) dX8_darn_33 ?_
      rw [show (bk gh gca gun prs yrs) rb = gh rb from bk_h (by omega)]
      refine lv_aload_n hx hb dX8_darn_34 rfl (lv_at hl 0 rfl) ?_
      refine va_get (D := D) (ci := 8) (v := .ref on) (C := RX8) (T := TX8) (N := 21) hx hb hts inlX8 hown hK hP 0 rfl rfl 1 (by decide) (hts _ mw_84) (fun _ h9 => h9) rfl dX8_darn_35 ?_
      refine lv_iload_n hx hb dX8_darn_38 rfl (lv_at hl 1 rfl) ?_
      refine mv_iald hx hb hK hP 1 rfl (i := rb) (by omega) (by decide) dX8_darn_39 ?_
      rw [show (bk gh gca gun prs yrs) rb = gh rb from bk_h (by omega)]
      refine lv_iconst (v := nI 1) hx hb dX8_darn_40 (by decide) ?_
      refine mv_isub hx hb (by omega) dX8_darn_41 ?_
      refine mv_iand hx hb dX8_darn_42 ?_
      refine mv_iast hx hb hK hP hD hS 1 rfl (i := rb) (v := (gh rb) &&& ((gh rb) - 1)) (by omega) (by decide) dX8_darn_43 (fun H locs hP hD hS => ?_)
      have hP : va_P D vwCl [(o, .inr (8, [.ref ob, .ref on, .ref ow8, .ref os, .ref oe, .int (nI sc8), .ref oi, .int (nI cn8), .ref op, .int (nI bt), .int (oI gA), .int (oI gR), .int rs8, .int (nI a8), .ref oz, .ref oc8, .ref oq, .ref om, .ref oy, .ref og, .ref ok8])), (on, .inl (Y 0, 24, .inl (aN (uN (bk gh gca gun prs yrs) rb ((gh rb) &&& ((gh rb) - 1))))))] H := hP
      have hD : va_D A [(o, .inr (8, [.ref ob, .ref on, .ref ow8, .ref os, .ref oe, .int (nI sc8), .ref oi, .int (nI cn8), .ref op, .int (nI bt), .int (oI gA), .int (oI gR), .int rs8, .int (nI a8), .ref oz, .ref oc8, .ref oq, .ref om, .ref oy, .ref og, .ref ok8])), (on, .inl (Y 0, 24, .inl (aN (uN (bk gh gca gun prs yrs) rb ((gh rb) &&& ((gh rb) - 1))))))] := hD
      rw [show uN (bk gh gca gun prs yrs) rb ((gh rb) &&& ((gh rb) - 1)) = bk (uN gh rb ((gh rb) &&& ((gh rb) - 1))) gca gun prs yrs from uN_bk_h (by omega)] at hP hD
      refine lv_iconst (v := nI 0) hx hb dX8_darn_44 (by decide) ?_
      exact mv_iret hx hb hr hlocks (uN gh rb ((gh rb) &&& ((gh rb) - 1))) (by rw [if_neg (by omega), if_neg c22]) hP hK hD hS dX8_darn_45
    · skip
      refine lv_iconst (v := nI 3) hx hb dX8_darn_25 (by decide) ?_
      exact mv_iret hx hb hr hlocks (gh) (by rw [if_neg (by omega), if_pos c22]) hP hK hD hS dX8_darn_26
  · skip
    refine lv_iconst (v := nI 2) hx hb dX8_darn_14 (by decide) ?_
    exact mv_iret hx hb hr hlocks (gh) (by rw [if_pos (by omega)]) hP hK hD hS dX8_darn_15
abbrev q_X8_ownUp (D : va_G) (Y : Nat → ClassId) (o : Nat) (ob : Nat) (on : Nat) (ow8 : Nat) (os : Nat) (oe : Nat) (oi : Nat) (op : Nat) (oz : Nat) (oc8 : Nat) (oq : Nat) (om : Nat) (oy : Nat) (og : Nat) (ok8 : Nat) (sc8 : Nat) (cn8 : Nat) (bt : Nat) (a8 : Nat) (rs8 : Int32) (gA : Option Nat) (gR : Option Nat) (gh : Nat → Nat) (gca : Nat → Nat) (gun : Nat → Nat) (prs : Nat) (yrs : Nat) (sb : Nat) : (Nat → Prop) → Array Value → State → Outcome → State → Prop := mv_Qi D Y (fun (r : Int32) (ux : (Nat → Nat)) => (r, ux) = if gun sb = 0 then (nI 4, gun) else (nI 0, uN gun sb 0)) (fun ux : (Nat → Nat) => ([(o, .inr (8, [.ref ob, .ref on, .ref ow8, .ref os, .ref oe, .int (nI sc8), .ref oi, .int (nI cn8), .ref op, .int (nI bt), .int (oI gA), .int (oI gR), .int rs8, .int (nI a8), .ref oz, .ref oc8, .ref oq, .ref om, .ref oy, .ref og, .ref ok8])), (on, .inl (Y 0, 24, .inl (aN (bk gh gca ux prs yrs))))] : va_W))
set_option maxHeartbeats 4000000 in
set_option maxRecDepth 100000 in
theorem c_X8_ownUp (l : Launch) (D : va_G) (Y : Nat → ClassId) (sz : Nat) (o : Nat) (ob : Nat) (on : Nat) (ow8 : Nat) (os : Nat) (oe : Nat) (oi : Nat) (op : Nat) (oz : Nat) (oc8 : Nat) (oq : Nat) (om : Nat) (oy : Nat) (og : Nat) (ok8 : Nat) (sc8 : Nat) (cn8 : Nat) (bt : Nat) (a8 : Nat) (rs8 : Int32) (gA : Option Nat) (gR : Option Nat) (gh : Nat → Nat) (gca : Nat → Nat) (gun : Nat → Nat) (prs : Nat) (yrs : Nat) (sb : Nat) (hsb : sb < 10) (hu : ∀ k, k < 10 → gun k ≤ 9) : mv_C l D Y yX8_ownUp cX8_ownUp 2 (some .int) 0 0 0 [.ref o, .int (nI sb)] sz [(o, .inr (8, [.ref ob, .ref on, .ref ow8, .ref os, .ref oe, .int (nI sc8), .ref oi, .int (nI cn8), .ref op, .int (nI bt), .int (oI gA), .int (oI gR), .int rs8, .int (nI a8), .ref oz, .ref oc8, .ref oq, .ref om, .ref oy, .ref og, .ref ok8])), (on, .inl (Y 0, 24, .inl (aN (bk gh gca gun prs yrs))))] (q_X8_ownUp D Y o ob on ow8 os oe oi op oz oc8 oq om oy og ok8 sc8 cn8 bt a8 rs8 gA gR gh gca gun prs yrs sb) := by
  refine mv_ofW (by decide) (Nat.le_of_ble_eq_true rfl) ?_
  intro p e s m below meth c ls A hx hb hr hlocks hml hnm hown hts hsz hAe hP hK hD hS hST hA hl
  have hl : lv_has ls 2 [(0, .ref o), (1, .int (nI sb))] := hl
  refine lv_aload_n hx hb dX8_ownUp_0 rfl (lv_at hl 0 rfl) ?_
  refine va_get (D := D) (ci := 8) (v := .ref on) (C := RX8) (T := TX8) (N := 21) hx hb hts inlX8 hown hK hP 0 rfl rfl 1 (by decide) (hts _ mw_84) (fun _ h9 => h9) rfl dX8_ownUp_1 ?_
  refine lv_bipush (v := nI 12) hx hb dX8_ownUp_4 (by decide) ?_
  refine lv_iload_n hx hb dX8_ownUp_6 rfl (lv_at hl 1 rfl) ?_
  refine mv_iadd hx hb dX8_ownUp_7 ?_
  refine mv_iald hx hb hK hP 1 rfl (i := 12 + sb) (by omega) (by decide) dX8_ownUp_8 ?_
  rw [show (bk gh gca gun prs yrs) (12 + sb) = gun sb from bk_u (by omega)]
  refine mv_if_ne (tgt := 14) hx hb (by first | omega | (have := hu sb hsb; omega)) dX8_ownUp_9 (by decide) (fun c9 => ?_) (fun c9 => ?_)
  · skip
    refine lv_aload_n hx hb dX8_ownUp_14 rfl (lv_at hl 0 rfl) ?_
    refine va_get (D := D) (ci := 8) (v := .ref on) (C := RX8) (T := TX8) (N := 21) hx hb hts inlX8 hown hK hP 0 rfl rfl 1 (by decide) (hts _ mw_84) (fun _ h9 => h9) rfl dX8_ownUp_15 ?_
    refine lv_bipush (v := nI 12) hx hb dX8_ownUp_18 (by decide) ?_
    refine lv_iload_n hx hb dX8_ownUp_20 rfl (lv_at hl 1 rfl) ?_
    refine mv_iadd hx hb dX8_ownUp_21 ?_
    refine lv_iconst (v := nI 0) hx hb dX8_ownUp_22 (by decide) ?_
    refine mv_iast hx hb hK hP hD hS 1 rfl (i := 12 + sb) (v := 0) (by omega) (by decide) dX8_ownUp_23 (fun H locs hP hD hS => ?_)
    have hP : va_P D vwCl [(o, .inr (8, [.ref ob, .ref on, .ref ow8, .ref os, .ref oe, .int (nI sc8), .ref oi, .int (nI cn8), .ref op, .int (nI bt), .int (oI gA), .int (oI gR), .int rs8, .int (nI a8), .ref oz, .ref oc8, .ref oq, .ref om, .ref oy, .ref og, .ref ok8])), (on, .inl (Y 0, 24, .inl (aN (uN (bk gh gca gun prs yrs) (12 + sb) 0))))] H := hP
    have hD : va_D A [(o, .inr (8, [.ref ob, .ref on, .ref ow8, .ref os, .ref oe, .int (nI sc8), .ref oi, .int (nI cn8), .ref op, .int (nI bt), .int (oI gA), .int (oI gR), .int rs8, .int (nI a8), .ref oz, .ref oc8, .ref oq, .ref om, .ref oy, .ref og, .ref ok8])), (on, .inl (Y 0, 24, .inl (aN (uN (bk gh gca gun prs yrs) (12 + sb) 0))))] := hD
    rw [show uN (bk gh gca gun prs yrs) (12 + sb) 0 = bk gh gca (uN gun sb 0) prs yrs from uN_bk_u (by omega)] at hP hD
    refine lv_iconst (v := nI 0) hx hb dX8_ownUp_24 (by decide) ?_
    exact mv_iret hx hb hr hlocks (uN gun sb 0) (by rw [if_neg c9]) hP hK hD hS dX8_ownUp_25
  · skip
    refine lv_iconst (v := nI 4) hx hb dX8_ownUp_12 (by decide) ?_
    exact mv_iret hx hb hr hlocks (gun) (by rw [if_pos c9]) hP hK hD hS dX8_ownUp_13
abbrev q_X8_goneNow (D : va_G) (Y : Nat → ClassId) (o : Nat) (ob : Nat) (on : Nat) (ow8 : Nat) (os : Nat) (oe : Nat) (oi : Nat) (op : Nat) (oz : Nat) (oc8 : Nat) (oq : Nat) (om : Nat) (oy : Nat) (og : Nat) (ok8 : Nat) (sc8 : Nat) (cn8 : Nat) (bt : Nat) (a8 : Nat) (rs8 : Int32) (gA : Option Nat) (gR : Option Nat) (gh : Nat → Nat) (gca : Nat → Nat) (gun : Nat → Nat) (prs : Nat) (yrs : Nat) : (Nat → Prop) → Array Value → State → Outcome → State → Prop := mv_Qi D Y (fun (r : Int32) (_ : Unit) => r = nI (barS gh 6)) (fun _ : Unit => ([(o, .inr (8, [.ref ob, .ref on, .ref ow8, .ref os, .ref oe, .int (nI sc8), .ref oi, .int (nI cn8), .ref op, .int (nI bt), .int (oI gA), .int (oI gR), .int rs8, .int (nI a8), .ref oz, .ref oc8, .ref oq, .ref om, .ref oy, .ref og, .ref ok8])), (on, .inl (Y 0, 24, .inl (aN (bk gh gca gun prs yrs))))] : va_W))
set_option maxHeartbeats 4000000 in
set_option maxRecDepth 100000 in
theorem c_X8_goneNow (l : Launch) (D : va_G) (Y : Nat → ClassId) (sz : Nat) (o : Nat) (ob : Nat) (on : Nat) (ow8 : Nat) (os : Nat) (oe : Nat) (oi : Nat) (op : Nat) (oz : Nat) (oc8 : Nat) (oq : Nat) (om : Nat) (oy : Nat) (og : Nat) (ok8 : Nat) (sc8 : Nat) (cn8 : Nat) (bt : Nat) (a8 : Nat) (rs8 : Int32) (gA : Option Nat) (gR : Option Nat) (gh : Nat → Nat) (gca : Nat → Nat) (gun : Nat → Nat) (prs : Nat) (yrs : Nat) (hh : ∀ k, k < 6 → gh k < 65536) : mv_C l D Y yX8_goneNow cX8_goneNow 3 (some .int) 0 0 0 [.ref o] sz [(o, .inr (8, [.ref ob, .ref on, .ref ow8, .ref os, .ref oe, .int (nI sc8), .ref oi, .int (nI cn8), .ref op, .int (nI bt), .int (oI gA), .int (oI gR), .int rs8, .int (nI a8), .ref oz, .ref oc8, .ref oq, .ref om, .ref oy, .ref og, .ref ok8])), (on, .inl (Y 0, 24, .inl (aN (bk gh gca gun prs yrs))))] (q_X8_goneNow D Y o ob on ow8 os oe oi op oz oc8 oq om oy og ok8 sc8 cn8 bt a8 rs8 gA gR gh gca gun prs yrs) := by
  refine mv_ofW (by decide) (Nat.le_of_ble_eq_true rfl) ?_
  intro p e s m below meth c ls A hx hb hr hlocks hml hnm hown hts hsz hAe hP hK hD hS hST hA hl
  have hl : lv_has ls 3 [(0, .ref o)] := hl
  have L4 : ∀ (fu : Nat) (k : Nat) (t : Nat) (hk : k ≤ 6) (ht : t = barS gh k) (hmeas : 6 - k < fu) (H : Heap) (locs : List Loc) (ls : Array Slot), va_P D vwCl [(o, .inr (8, [.ref ob, .ref on, .ref ow8, .ref os, .ref oe, .int (nI sc8), .ref oi, .int (nI cn8), .ref op, .int (nI bt), .int (oI gA), .int (oI gR), .int rs8, .int (nI a8), .ref oz, .ref oc8, .ref oq, .ref om, .ref oy, .ref og, .ref ok8])), (on, .inl (Y 0, 24, .inl (aN (bk gh gca gun prs yrs))))] H → va_D A [(o, .inr (8, [.ref ob, .ref on, .ref ow8, .ref os, .ref oe, .int (nI sc8), .ref oi, .int (nI cn8), .ref op, .int (nI bt), .int (oI gA), .int (oI gR), .int rs8, .int (nI a8), .ref oz, .ref oc8, .ref oq, .ref om, .ref oy, .ref og, .ref ok8])), (on, .inl (Y 0, 24, .inl (aN (bk gh gca gun prs yrs))))] → va_S A s.heap H locs → lv_has ls 3 [(2, .int (nI k)), (1, .int (nI t)), (0, .ref o)] → W p l e (mv_R 0 0 0) s m [.ref o].toArray below meth c H locs 0 0 (MQ below ((q_X8_goneNow D Y o ob on ow8 os oe oi op oz oc8 oq om oy og ok8 sc8 cn8 bt a8 rs8 gA gR gh gca gun prs yrs) A) [.ref o].toArray s 0 0 A) (F0 m 4 ls []) := by
    intro fu
    induction fu with
    | zero =>
      intro k t hk ht hmeas
      exact absurd hmeas (Nat.not_lt_zero _)
    | succ fu L4ih =>
      intro k t hk ht hmeas H locs ls hP hD hS hl
      have L29 : ∀ (z9 : Nat) (hz9 : z9 = if gh k = 65535 then 1 * 2 ^ k else 0) (hk2 : k < 6) (H : Heap) (locs : List Loc) (ls : Array Slot), va_P D vwCl [(o, .inr (8, [.ref ob, .ref on, .ref ow8, .ref os, .ref oe, .int (nI sc8), .ref oi, .int (nI cn8), .ref op, .int (nI bt), .int (oI gA), .int (oI gR), .int rs8, .int (nI a8), .ref oz, .ref oc8, .ref oq, .ref om, .ref oy, .ref og, .ref ok8])), (on, .inl (Y 0, 24, .inl (aN (bk gh gca gun prs yrs))))] H → va_D A [(o, .inr (8, [.ref ob, .ref on, .ref ow8, .ref os, .ref oe, .int (nI sc8), .ref oi, .int (nI cn8), .ref op, .int (nI bt), .int (oI gA), .int (oI gR), .int rs8, .int (nI a8), .ref oz, .ref oc8, .ref oq, .ref om, .ref oy, .ref og, .ref ok8])), (on, .inl (Y 0, 24, .inl (aN (bk gh gca gun prs yrs))))] → va_S A s.heap H locs → lv_has ls 3 [(2, .int (nI k)), (0, .ref o)] → W p l e (mv_R 0 0 0) s m [.ref o].toArray below meth c H locs 0 0 (MQ below ((q_X8_goneNow D Y o ob on ow8 os oe oi op oz oc8 oq om oy og ok8 sc8 cn8 bt a8 rs8 gA gR gh gca gun prs yrs) A) [.ref o].toArray s 0 0 A) (F0 m 29 ls [.int (nI z9), .int (nI t)]) := by
        intro z9 hz9 hk2 H locs ls hP hD hS hl
        refine mv_ior hx hb dX8_goneNow_29 ?_
        refine lv_istore_n (lv' := [(1, .int (nI (t ||| z9))), (2, .int (nI k)), (0, .ref o)]) hx hb dX8_goneNow_30 rfl hl (by decide) rfl (fun ls hl => ?_)
        refine lv_iinc (v := nI (k + 1)) (lv' := [(2, .int (nI (k + 1))), (1, .int (nI (t ||| z9))), (0, .ref o)]) hx hb dX8_goneNow_31 hl (k := 1) rfl (by exact nI_add _ 1) (by decide) rfl (fun ls hl => ?_)
        refine lv_goto (tgt := 4) hx hb dX8_goneNow_34 (by decide) ?_
        exact L4ih  (k + 1) (t ||| z9) (by first | assumption | omega | rfl) (by rw [barS, hz9, ht]; split; rfl; exact Nat.or_zero _) (by omega) _ _ _ hP hD hS (lv_sub hl [0, 1, 2] rfl)
      refine lv_iload_n hx hb dX8_goneNow_4 rfl (lv_at hl 0 rfl) ?_
      refine lv_bipush (v := nI 6) hx hb dX8_goneNow_5 (by decide) ?_
      refine mv_icmp_ge (tgt := 37) hx hb (by first | omega | (have := hh k (by omega); omega)) (by omega) dX8_goneNow_7 (by decide) (fun c7 => ?_) (fun c7 => ?_)
      · skip
        refine lv_iload_n hx hb dX8_goneNow_37 rfl (lv_at hl 1 rfl) ?_
        exact mv_iret hx hb hr hlocks () (by rw [ht, show k = 6 by omega]) hP hK hD hS dX8_goneNow_38
      · skip
        refine lv_iload_n hx hb dX8_goneNow_10 rfl (lv_at hl 1 rfl) ?_
        refine lv_aload_n hx hb dX8_goneNow_11 rfl (lv_at hl 2 rfl) ?_
        refine va_get (D := D) (ci := 8) (v := .ref on) (C := RX8) (T := TX8) (N := 21) hx hb hts inlX8 hown hK hP 0 rfl rfl 1 (by decide) (hts _ mw_84) (fun _ h9 => h9) rfl dX8_goneNow_12 ?_
        refine lv_iload_n hx hb dX8_goneNow_15 rfl (lv_at hl 0 rfl) ?_
        refine mv_iald hx hb hK hP 1 rfl (i := k) (by omega) (by decide) dX8_goneNow_16 ?_
        rw [show (bk gh gca gun prs yrs) k = gh k from bk_h (by omega)]
        refine lv_ldc (v := nI 65535) hx hb hown (hts _ mw_117) dX8_goneNow_17 ?_
        refine mv_icmp_ne (tgt := 28) hx hb (by first | omega | (have := hh k (by omega); omega)) (by omega) dX8_goneNow_19 (by decide) (fun c19 => ?_) (fun c19 => ?_)
        · skip
          refine lv_iconst (v := nI 0) hx hb dX8_goneNow_28 (by decide) ?_
          exact L29  0 ((if_neg c19).symm) (by first | assumption | omega | rfl) _ _ _ hP hD hS (lv_sub hl [0, 2] rfl)
        · skip
          refine lv_iconst (v := nI 1) hx hb dX8_goneNow_22 (by decide) ?_
          refine lv_iload_n hx hb dX8_goneNow_23 rfl (lv_at hl 0 rfl) ?_
          refine mv_ishl hx hb (by omega) dX8_goneNow_24 ?_
          refine lv_goto (tgt := 29) hx hb dX8_goneNow_25 (by decide) ?_
          exact L29  (1 * 2 ^ k) ((if_pos c19).symm) (by first | assumption | omega | rfl) _ _ _ hP hD hS (lv_sub hl [0, 2] rfl)
  refine lv_iconst (v := nI 0) hx hb dX8_goneNow_0 (by decide) ?_
  refine lv_istore_n (lv' := [(1, .int (nI 0)), (0, .ref o)]) hx hb dX8_goneNow_1 rfl hl (by decide) rfl (fun ls hl => ?_)
  refine lv_iconst (v := nI 0) hx hb dX8_goneNow_2 (by decide) ?_
  refine lv_istore_n (lv' := [(2, .int (nI 0)), (1, .int (nI 0)), (0, .ref o)]) hx hb dX8_goneNow_3 rfl hl (by decide) rfl (fun ls hl => ?_)
  exact L4 (6 - 0 + 1) 0 0 (by first | assumption | omega | rfl) (by first | assumption | omega | rfl) (Nat.lt_succ_self _) _ _ _ hP hD hS (lv_sub hl [0, 1, 2] rfl)
abbrev q_X8_endYear (D : va_G) (Y : Nat → ClassId) (o : Nat) (ob : Nat) (on : Nat) (ow8 : Nat) (os : Nat) (oe : Nat) (oi : Nat) (op : Nat) (oz : Nat) (oc8 : Nat) (oq : Nat) (om : Nat) (oy : Nat) (og : Nat) (ok8 : Nat) (sc8 : Nat) (cn8 : Nat) (bt : Nat) (a8 : Nat) (rs8 : Int32) (gA : Option Nat) (gR : Option Nat) (gh : Nat → Nat) (gca : Nat → Nat) (gun : Nat → Nat) (prs : Nat) (yrs : Nat) : (Nat → Prop) → Array Value → State → Outcome → State → Prop := mv_Qi D Y (fun (r : Int32) (ux : (Nat → Nat) × Nat) => (r, ux.1, ux.2) = if 99 ≤ yrs then (nI 6, gca, yrs) else (nI 0, yeC gca 6, yrs + 1)) (fun ux : (Nat → Nat) × Nat => ([(o, .inr (8, [.ref ob, .ref on, .ref ow8, .ref os, .ref oe, .int (nI sc8), .ref oi, .int (nI cn8), .ref op, .int (nI bt), .int (oI gA), .int (oI gR), .int rs8, .int (nI a8), .ref oz, .ref oc8, .ref oq, .ref om, .ref oy, .ref og, .ref ok8])), (on, .inl (Y 0, 24, .inl (aN (bk gh ux.1 gun prs ux.2))))] : va_W))
set_option maxHeartbeats 4000000 in
set_option maxRecDepth 100000 in
theorem c_X8_endYear (l : Launch) (D : va_G) (Y : Nat → ClassId) (sz : Nat) (o : Nat) (ob : Nat) (on : Nat) (ow8 : Nat) (os : Nat) (oe : Nat) (oi : Nat) (op : Nat) (oz : Nat) (oc8 : Nat) (oq : Nat) (om : Nat) (oy : Nat) (og : Nat) (ok8 : Nat) (sc8 : Nat) (cn8 : Nat) (bt : Nat) (a8 : Nat) (rs8 : Int32) (gA : Option Nat) (gR : Option Nat) (gh : Nat → Nat) (gca : Nat → Nat) (gun : Nat → Nat) (prs : Nat) (yrs : Nat) (hp : prs < 64) (hy : yrs ≤ 99) (hh : ∀ k, k < 6 → gh k < 65536) (hc : ∀ k, k < 6 → gca k ≤ 9) (hu : ∀ k, k < 10 → gun k ≤ 9) : mv_C l D Y yX8_endYear cX8_endYear 2 (some .int) 0 0 0 [.ref o] sz [(o, .inr (8, [.ref ob, .ref on, .ref ow8, .ref os, .ref oe, .int (nI sc8), .ref oi, .int (nI cn8), .ref op, .int (nI bt), .int (oI gA), .int (oI gR), .int rs8, .int (nI a8), .ref oz, .ref oc8, .ref oq, .ref om, .ref oy, .ref og, .ref ok8])), (on, .inl (Y 0, 24, .inl (aN (bk gh gca gun prs yrs))))] (q_X8_endYear D Y o ob on ow8 os oe oi op oz oc8 oq om oy og ok8 sc8 cn8 bt a8 rs8 gA gR gh gca gun prs yrs) := by
  refine mv_ofW (by decide) (Nat.le_of_ble_eq_true rfl) ?_
  intro p e s m below meth c ls A hx hb hr hlocks hml hnm hown hts hsz hAe hP hK hD hS hST hA hl
  have hl : lv_has ls 2 [(0, .ref o)] := hl
  have L28 : ∀ (fu : Nat) (k : Nat) (cz : Nat → Nat) (hk : k ≤ 6) (hcz : cz = yeC gca k) (hy9 : yrs ≠ 99) (hmeas : 6 - k < fu) (H : Heap) (locs : List Loc) (ls : Array Slot), va_P D vwCl [(o, .inr (8, [.ref ob, .ref on, .ref ow8, .ref os, .ref oe, .int (nI sc8), .ref oi, .int (nI cn8), .ref op, .int (nI bt), .int (oI gA), .int (oI gR), .int rs8, .int (nI a8), .ref oz, .ref oc8, .ref oq, .ref om, .ref oy, .ref og, .ref ok8])), (on, .inl (Y 0, 24, .inl (aN (bk gh cz gun prs (yrs + 1)))))] H → va_D A [(o, .inr (8, [.ref ob, .ref on, .ref ow8, .ref os, .ref oe, .int (nI sc8), .ref oi, .int (nI cn8), .ref op, .int (nI bt), .int (oI gA), .int (oI gR), .int rs8, .int (nI a8), .ref oz, .ref oc8, .ref oq, .ref om, .ref oy, .ref og, .ref ok8])), (on, .inl (Y 0, 24, .inl (aN (bk gh cz gun prs (yrs + 1)))))] → va_S A s.heap H locs → lv_has ls 2 [(1, .int (nI k)), (0, .ref o)] → W p l e (mv_R 0 0 0) s m [.ref o].toArray below meth c H locs 0 0 (MQ below ((q_X8_endYear D Y o ob on ow8 os oe oi op oz oc8 oq om oy og ok8 sc8 cn8 bt a8 rs8 gA gR gh gca gun prs yrs) A) [.ref o].toArray s 0 0 A) (F0 m 28 ls []) := by
    intro fu
    induction fu with
    | zero =>
      intro k cz hk hcz hy9 hmeas
      exact absurd hmeas (Nat.not_lt_zero _)
    | succ fu L28ih =>
      intro k cz hk hcz hy9 hmeas H locs ls hP hD hS hl
      have hcb : ∀ j, j < 6 → cz j ≤ 9 := by rw [hcz]; exact yeC_bd hc k hk
      have L61 : ∀ (z9 : Nat) (hz9a : z9 ≤ cz k) (hz9b : cz k - z9 = cz k - 1) (hk2 : k < 6) (H : Heap) (locs : List Loc) (ls : Array Slot), va_P D vwCl [(o, .inr (8, [.ref ob, .ref on, .ref ow8, .ref os, .ref oe, .int (nI sc8), .ref oi, .int (nI cn8), .ref op, .int (nI bt), .int (oI gA), .int (oI gR), .int rs8, .int (nI a8), .ref oz, .ref oc8, .ref oq, .ref om, .ref oy, .ref og, .ref ok8])), (on, .inl (Y 0, 24, .inl (aN (bk gh cz gun prs (yrs + 1)))))] H → va_D A [(o, .inr (8, [.ref ob, .ref on, .ref ow8, .ref os, .ref oe, .int (nI sc8), .ref oi, .int (nI cn8), .ref op, .int (nI bt), .int (oI gA), .int (oI gR), .int rs8, .int (nI a8), .ref oz, .ref oc8, .ref oq, .ref om, .ref oy, .ref og, .ref ok8])), (on, .inl (Y 0, 24, .inl (aN (bk gh cz gun prs (yrs + 1)))))] → va_S A s.heap H locs → lv_has ls 2 [(1, .int (nI k)), (0, .ref o)] → W p l e (mv_R 0 0 0) s m [.ref o].toArray below meth c H locs 0 0 (MQ below ((q_X8_endYear D Y o ob on ow8 os oe oi op oz oc8 oq om oy og ok8 sc8 cn8 bt a8 rs8 gA gR gh gca gun prs yrs) A) [.ref o].toArray s 0 0 A) (F0 m 61 ls [.int (nI z9), .int (nI (cz k)), .int (nI (6 + k)), .ref on]) := by
        intro z9 hz9a hz9b hk2 H locs ls hP hD hS hl
        refine mv_isub hx hb (by omega) dX8_endYear_61 ?_
        refine mv_iast hx hb hK hP hD hS 1 rfl (i := 6 + k) (v := (cz k) - z9) (by omega) (by decide) dX8_endYear_62 (fun H locs hP hD hS => ?_)
        have hP : va_P D vwCl [(o, .inr (8, [.ref ob, .ref on, .ref ow8, .ref os, .ref oe, .int (nI sc8), .ref oi, .int (nI cn8), .ref op, .int (nI bt), .int (oI gA), .int (oI gR), .int rs8, .int (nI a8), .ref oz, .ref oc8, .ref oq, .ref om, .ref oy, .ref og, .ref ok8])), (on, .inl (Y 0, 24, .inl (aN (uN (bk gh cz gun prs (yrs + 1)) (6 + k) ((cz k) - z9)))))] H := hP
        have hD : va_D A [(o, .inr (8, [.ref ob, .ref on, .ref ow8, .ref os, .ref oe, .int (nI sc8), .ref oi, .int (nI cn8), .ref op, .int (nI bt), .int (oI gA), .int (oI gR), .int rs8, .int (nI a8), .ref oz, .ref oc8, .ref oq, .ref om, .ref oy, .ref og, .ref ok8])), (on, .inl (Y 0, 24, .inl (aN (uN (bk gh cz gun prs (yrs + 1)) (6 + k) ((cz k) - z9)))))] := hD
        rw [show uN (bk gh cz gun prs (yrs + 1)) (6 + k) ((cz k) - z9) = bk gh (uN cz k ((cz k) - z9)) gun prs (yrs + 1) from uN_bk_c (by omega)] at hP hD
        refine lv_iinc (v := nI (k + 1)) (lv' := [(1, .int (nI (k + 1))), (0, .ref o)]) hx hb dX8_endYear_63 hl (k := 0) rfl (by exact nI_add _ 1) (by decide) rfl (fun ls hl => ?_)
        refine lv_goto (tgt := 28) hx hb dX8_endYear_66 (by decide) ?_
        exact L28ih  (k + 1) (uN cz k ((cz k) - z9)) (by first | assumption | omega | rfl) (by rw [hz9b, hcz]; rfl) (by first | assumption | omega | rfl) (by omega) _ _ _ hP hD hS (lv_sub hl [0, 1] rfl)
      refine lv_iload_n hx hb dX8_endYear_28 rfl (lv_at hl 0 rfl) ?_
      refine lv_bipush (v := nI 6) hx hb dX8_endYear_29 (by decide) ?_
      refine mv_icmp_ge (tgt := 69) hx hb (by first | omega | (have := hcb k (by omega); omega)) (by omega) dX8_endYear_31 (by decide) (fun c31 => ?_) (fun c31 => ?_)
      · skip
        refine lv_iconst (v := nI 0) hx hb dX8_endYear_69 (by decide) ?_
        exact mv_iret hx hb hr hlocks (cz, yrs + 1) (by rw [if_neg (by omega), hcz, show k = 6 by omega]) hP hK hD hS dX8_endYear_70
      · skip
        refine lv_aload_n hx hb dX8_endYear_34 rfl (lv_at hl 1 rfl) ?_
        refine va_get (D := D) (ci := 8) (v := .ref on) (C := RX8) (T := TX8) (N := 21) hx hb hts inlX8 hown hK hP 0 rfl rfl 1 (by decide) (hts _ mw_84) (fun _ h9 => h9) rfl dX8_endYear_35 ?_
        refine lv_bipush (v := nI 6) hx hb dX8_endYear_38 (by decide) ?_
        refine lv_iload_n hx hb dX8_endYear_40 rfl (lv_at hl 0 rfl) ?_
        refine mv_iadd hx hb dX8_endYear_41 ?_
        refine lv_dup2_11 hx hb dX8_endYear_42 rfl rfl ?_
        refine mv_iald hx hb hK hP 1 rfl (i := 6 + k) (by omega) (by decide) dX8_endYear_43 ?_
        rw [show (bk gh cz gun prs (yrs + 1)) (6 + k) = cz k from bk_c (by omega)]
        refine lv_aload_n hx hb dX8_endYear_44 rfl (lv_at hl 1 rfl) ?_
        refine va_get (D := D) (ci := 8) (v := .ref on) (C := RX8) (T := TX8) (N := 21) hx hb hts inlX8 hown hK hP 0 rfl rfl 1 (by decide) (hts _ mw_84) (fun _ h9 => h9) rfl dX8_endYear_45 ?_
        refine lv_bipush (v := nI 6) hx hb dX8_endYear_48 (by decide) ?_
        refine lv_iload_n hx hb dX8_endYear_50 rfl (lv_at hl 0 rfl) ?_
        refine mv_iadd hx hb dX8_endYear_51 ?_
        refine mv_iald hx hb hK hP 1 rfl (i := 6 + k) (by omega) (by decide) dX8_endYear_52 ?_
        rw [show (bk gh cz gun prs (yrs + 1)) (6 + k) = cz k from bk_c (by omega)]
        refine mv_if_le (tgt := 60) hx hb (by first | omega | (have := hcb k (by omega); omega)) dX8_endYear_53 (by decide) (fun c53 => ?_) (fun c53 => ?_)
        · skip
          refine lv_iconst (v := nI 0) hx hb dX8_endYear_60 (by decide) ?_
          exact L61  0 (by first | assumption | omega | rfl) (by first | assumption | omega | rfl) (by first | assumption | omega | rfl) _ _ _ hP hD hS (lv_sub hl [0, 1] rfl)
        · skip
          refine lv_iconst (v := nI 1) hx hb dX8_endYear_56 (by decide) ?_
          refine lv_goto (tgt := 61) hx hb dX8_endYear_57 (by decide) ?_
          exact L61  1 (by first | assumption | omega | rfl) (by first | assumption | omega | rfl) (by first | assumption | omega | rfl) _ _ _ hP hD hS (lv_sub hl [0, 1] rfl)
  refine lv_aload_n hx hb dX8_endYear_0 rfl (lv_at hl 0 rfl) ?_
  refine va_get (D := D) (ci := 8) (v := .ref on) (C := RX8) (T := TX8) (N := 21) hx hb hts inlX8 hown hK hP 0 rfl rfl 1 (by decide) (hts _ mw_84) (fun _ h9 => h9) rfl dX8_endYear_1 ?_
  refine lv_bipush (v := nI 23) hx hb dX8_endYear_4 (by decide) ?_
  refine mv_iald hx hb hK hP 1 rfl (i := 23) (by omega) (by decide) dX8_endYear_6 ?_
  rw [show (bk gh gca gun prs yrs) 23 = yrs from bk_y]
  refine lv_bipush (v := nI 99) hx hb dX8_endYear_7 (by decide) ?_
  refine mv_icmp_ne (tgt := 15) hx hb (by first | omega | (have := hcb k (by omega); omega)) (by omega) dX8_endYear_9 (by decide) (fun c9 => ?_) (fun c9 => ?_)
  · skip
    refine lv_aload_n hx hb dX8_endYear_15 rfl (lv_at hl 0 rfl) ?_
    refine va_get (D := D) (ci := 8) (v := .ref on) (C := RX8) (T := TX8) (N := 21) hx hb hts inlX8 hown hK hP 0 rfl rfl 1 (by decide) (hts _ mw_84) (fun _ h9 => h9) rfl dX8_endYear_16 ?_
    refine lv_bipush (v := nI 23) hx hb dX8_endYear_19 (by decide) ?_
    refine lv_dup2_11 hx hb dX8_endYear_21 rfl rfl ?_
    refine mv_iald hx hb hK hP 1 rfl (i := 23) (by omega) (by decide) dX8_endYear_22 ?_
    rw [show (bk gh gca gun prs yrs) 23 = yrs from bk_y]
    refine lv_iconst (v := nI 1) hx hb dX8_endYear_23 (by decide) ?_
    refine mv_iadd hx hb dX8_endYear_24 ?_
    refine mv_iast hx hb hK hP hD hS 1 rfl (i := 23) (v := yrs + 1) (by omega) (by decide) dX8_endYear_25 (fun H locs hP hD hS => ?_)
    have hP : va_P D vwCl [(o, .inr (8, [.ref ob, .ref on, .ref ow8, .ref os, .ref oe, .int (nI sc8), .ref oi, .int (nI cn8), .ref op, .int (nI bt), .int (oI gA), .int (oI gR), .int rs8, .int (nI a8), .ref oz, .ref oc8, .ref oq, .ref om, .ref oy, .ref og, .ref ok8])), (on, .inl (Y 0, 24, .inl (aN (uN (bk gh gca gun prs yrs) 23 (yrs + 1)))))] H := hP
    have hD : va_D A [(o, .inr (8, [.ref ob, .ref on, .ref ow8, .ref os, .ref oe, .int (nI sc8), .ref oi, .int (nI cn8), .ref op, .int (nI bt), .int (oI gA), .int (oI gR), .int rs8, .int (nI a8), .ref oz, .ref oc8, .ref oq, .ref om, .ref oy, .ref og, .ref ok8])), (on, .inl (Y 0, 24, .inl (aN (uN (bk gh gca gun prs yrs) 23 (yrs + 1)))))] := hD
    rw [show uN (bk gh gca gun prs yrs) 23 (yrs + 1) = bk gh gca gun prs (yrs + 1) from uN_bk_y] at hP hD
    refine lv_iconst (v := nI 0) hx hb dX8_endYear_26 (by decide) ?_
    refine lv_istore_n (lv' := [(1, .int (nI 0)), (0, .ref o)]) hx hb dX8_endYear_27 rfl hl (by decide) rfl (fun ls hl => ?_)
    exact L28 (6 - 0 + 1) 0 gca (by first | assumption | omega | rfl) (rfl) (by first | assumption | omega | rfl) (Nat.lt_succ_self _) _ _ _ hP hD hS (lv_sub hl [0, 1] rfl)
  · skip
    refine lv_bipush (v := nI 6) hx hb dX8_endYear_12 (by decide) ?_
    exact mv_iret hx hb hr hlocks (gca, yrs) (by rw [if_pos (by omega)]) hP hK hD hS dX8_endYear_14
