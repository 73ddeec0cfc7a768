/-! constructors (written by wip/gen/gen_init.py) -/
theorem dX0_init_0 : decode cX0_init 0 = .ok (.aload_n 0, 1) := by decide +kernel
theorem dX0_init_1 : decode cX0_init 1 = .ok (.invokespecial 3, 3) := by decide +kernel
theorem dX0_init_4 : decode cX0_init 4 = .ok (.aload_n 0, 1) := by decide +kernel
theorem dX0_init_5 : decode cX0_init 5 = .ok (.bipush 8, 2) := by decide +kernel
theorem dX0_init_7 : decode cX0_init 7 = .ok (.newarray .int, 2) := by decide +kernel
theorem dX0_init_9 : decode cX0_init 9 = .ok (.putfield 9, 3) := by decide +kernel
theorem dX0_init_12 : decode cX0_init 12 = .ok (.aload_n 0, 1) := by decide +kernel
theorem dX0_init_13 : decode cX0_init 13 = .ok (.bipush 8, 2) := by decide +kernel
theorem dX0_init_15 : decode cX0_init 15 = .ok (.newarray .int, 2) := by decide +kernel
theorem dX0_init_17 : decode cX0_init 17 = .ok (.putfield 15, 3) := by decide +kernel
theorem dX0_init_20 : decode cX0_init 20 = .ok (.aload_n 0, 1) := by decide +kernel
theorem dX0_init_21 : decode cX0_init 21 = .ok (.bipush 8, 2) := by decide +kernel
theorem dX0_init_23 : decode cX0_init 23 = .ok (.newarray .int, 2) := by decide +kernel
theorem dX0_init_25 : decode cX0_init 25 = .ok (.putfield 18, 3) := by decide +kernel
theorem dX0_init_28 : decode cX0_init 28 = .ok (.aload_n 0, 1) := by decide +kernel
theorem dX0_init_29 : decode cX0_init 29 = .ok (.bipush 8, 2) := by decide +kernel
theorem dX0_init_31 : decode cX0_init 31 = .ok (.newarray .int, 2) := by decide +kernel
theorem dX0_init_33 : decode cX0_init 33 = .ok (.putfield 21, 3) := by decide +kernel
theorem dX0_init_36 : decode cX0_init 36 = .ok (.return_, 1) := by decide +kernel
theorem cal_X0_init : CalI yX0_init cX0_init 1 0 := ⟨mw_4_2, mw_2_2, mw_4_1, rfl, ⟨by decide +kernel, by decide +kernel, by decide +kernel⟩⟩
def p_X0_init (K : tF → tA → Prop) : Prop := K (fun _ => 0) (fun _ _ => 0)
set_option maxHeartbeats 4000000 in
set_option maxRecDepth 100000 in
theorem w_X0_init (l : Launch) (D : va_G) (cI cZ cR : ClassId) (adK adV : Nat → Nat) (sz : Nat) (o : Nat) (K : tF → tA → Prop) (h : p_X0_init K) : MVc l D cI cZ cR adK adV yX0_init cX0_init 1 ({ frames := 1, cells := 4, slots := 32, locals := 12 }) [.ref o] ([(o, .inr (0, [.null, .null, .null, .null]))] : va_W) sz 4 32 (fun (u : (Nat → Nat) × tF × tA) => K u.2.1 u.2.2) (fun (u : (Nat → Nat) × tF × tA) => (wX0 cI cZ o u.1 u.2.1 u.2.2 : va_W)) := by
  refine M_vc (by decide +kernel) (Nat.le_of_ble_eq_true rfl) rfl ?_
  intro p e s m args below meth c Q A9 ls X hin ret hP hD hS hl
  obtain ⟨hx, hb, hml, ht, hown, hK, hA, hE⟩ := id X
  have hl : lv_has ls 1 [(0, .ref o)] := hl
  unfold p_X0_init at h
  refine lv_aload_n hx hb dX0_init_0 rfl (lv_at hl 0 rfl) ?_
  refine W.objInit hx hb hown (ht _ mw_4_3) (ht _ mw_1_11) (ht _ mw_1_12) rfl (by rw [hml]; exact hl.1) rfl dX0_init_1 (Nat.le_of_ble_eq_true rfl) (Nat.le_of_ble_eq_true rfl) ?_
  refine W.eq (g2 := F0 m 4 ls []) rfl ?_
  refine lv_aload_n hx hb dX0_init_4 rfl (lv_at hl 0 rfl) ?_
  refine lv_bipush (v := 8) hx hb dX0_init_5 (by decide) ?_
  refine g_newI (N' := 8) hx hb (ht _ mw_2_12) hK hP hD hS hA (by decide) (by decide) (Nat.le_of_ble_eq_true rfl) (Nat.le_of_ble_eq_true rfl) (Nat.le_of_ble_eq_true rfl) dX0_init_7 (fun a7 H hP hD hS => ?_)
  have hP : va_P D vwCl ([(o, .inr (0, [.null, .null, .null, .null])), (a7, .inl (cI, (8, .inl (fun _ => 0))))] : va_W) H := hP
  have hD : va_D A9 ([(o, .inr (0, [.null, .null, .null, .null])), (a7, .inl (cI, (8, .inl (fun _ => 0))))] : va_W) := hD
  refine va_putF (C := RX0) (T := TX0) (N := 4) (own := RX0) (v := .ref a7) (D := D) (ty := tyX0 0) hx hb ht inlX0 tyX0 tyX0_ok nmX0 hown hK hP hD hS 0 rfl rfl 0 (Nat.le_of_ble_eq_true rfl) (ht _ mw_4_4) (fun _ h9 => h9) rfl hin rfl (tyX0_ok 0 (Nat.le_of_ble_eq_true rfl)) rfl rfl (Nat.le_of_ble_eq_true rfl) dX0_init_9 (fun H locs hP hD hS => ?_)
  have hP : va_P D vwCl ([(o, .inr (0, [.ref a7, .null, .null, .null])), (a7, .inl (cI, (8, .inl (fun _ => 0))))] : va_W) H := hP
  have hD : va_D A9 ([(o, .inr (0, [.ref a7, .null, .null, .null])), (a7, .inl (cI, (8, .inl (fun _ => 0))))] : va_W) := hD
  refine lv_aload_n hx hb dX0_init_12 rfl (lv_at hl 0 rfl) ?_
  refine lv_bipush (v := 8) hx hb dX0_init_13 (by decide) ?_
  refine g_newI (N' := 8) hx hb (ht _ mw_2_12) hK hP hD hS hA (by decide) (by decide) (Nat.le_of_ble_eq_true rfl) (Nat.le_of_ble_eq_true rfl) (Nat.le_of_ble_eq_true rfl) dX0_init_15 (fun a15 H hP hD hS => ?_)
  have hP : va_P D vwCl ([(o, .inr (0, [.ref a7, .null, .null, .null])), (a7, .inl (cI, (8, .inl (fun _ => 0)))), (a15, .inl (cI, (8, .inl (fun _ => 0))))] : va_W) H := hP
  have hD : va_D A9 ([(o, .inr (0, [.ref a7, .null, .null, .null])), (a7, .inl (cI, (8, .inl (fun _ => 0)))), (a15, .inl (cI, (8, .inl (fun _ => 0))))] : va_W) := hD
  refine va_putF (C := RX0) (T := TX0) (N := 4) (own := RX0) (v := .ref a15) (D := D) (ty := tyX0 1) hx hb ht inlX0 tyX0 tyX0_ok nmX0 hown hK hP hD hS 0 rfl rfl 1 (Nat.le_of_ble_eq_true rfl) (ht _ mw_4_5) (fun _ h9 => h9) rfl hin rfl (tyX0_ok 1 (Nat.le_of_ble_eq_true rfl)) rfl rfl (Nat.le_of_ble_eq_true rfl) dX0_init_17 (fun H locs hP hD hS => ?_)
  have hP : va_P D vwCl ([(o, .inr (0, [.ref a7, .ref a15, .null, .null])), (a7, .inl (cI, (8, .inl (fun _ => 0)))), (a15, .inl (cI, (8, .inl (fun _ => 0))))] : va_W) H := hP
  have hD : va_D A9 ([(o, .inr (0, [.ref a7, .ref a15, .null, .null])), (a7, .inl (cI, (8, .inl (fun _ => 0)))), (a15, .inl (cI, (8, .inl (fun _ => 0))))] : va_W) := hD
  refine lv_aload_n hx hb dX0_init_20 rfl (lv_at hl 0 rfl) ?_
  refine lv_bipush (v := 8) hx hb dX0_init_21 (by decide) ?_
  refine g_newI (N' := 8) hx hb (ht _ mw_2_12) hK hP hD hS hA (by decide) (by decide) (Nat.le_of_ble_eq_true rfl) (Nat.le_of_ble_eq_true rfl) (Nat.le_of_ble_eq_true rfl) dX0_init_23 (fun a23 H hP hD hS => ?_)
  have hP : va_P D vwCl ([(o, .inr (0, [.ref a7, .ref a15, .null, .null])), (a7, .inl (cI, (8, .inl (fun _ => 0)))), (a15, .inl (cI, (8, .inl (fun _ => 0)))), (a23, .inl (cI, (8, .inl (fun _ => 0))))] : va_W) H := hP
  have hD : va_D A9 ([(o, .inr (0, [.ref a7, .ref a15, .null, .null])), (a7, .inl (cI, (8, .inl (fun _ => 0)))), (a15, .inl (cI, (8, .inl (fun _ => 0)))), (a23, .inl (cI, (8, .inl (fun _ => 0))))] : va_W) := hD
  refine va_putF (C := RX0) (T := TX0) (N := 4) (own := RX0) (v := .ref a23) (D := D) (ty := tyX0 2) hx hb ht inlX0 tyX0 tyX0_ok nmX0 hown hK hP hD hS 0 rfl rfl 2 (Nat.le_of_ble_eq_true rfl) (ht _ mw_4_6) (fun _ h9 => h9) rfl hin rfl (tyX0_ok 2 (Nat.le_of_ble_eq_true rfl)) rfl rfl (Nat.le_of_ble_eq_true rfl) dX0_init_25 (fun H locs hP hD hS => ?_)
  have hP : va_P D vwCl ([(o, .inr (0, [.ref a7, .ref a15, .ref a23, .null])), (a7, .inl (cI, (8, .inl (fun _ => 0)))), (a15, .inl (cI, (8, .inl (fun _ => 0)))), (a23, .inl (cI, (8, .inl (fun _ => 0))))] : va_W) H := hP
  have hD : va_D A9 ([(o, .inr (0, [.ref a7, .ref a15, .ref a23, .null])), (a7, .inl (cI, (8, .inl (fun _ => 0)))), (a15, .inl (cI, (8, .inl (fun _ => 0)))), (a23, .inl (cI, (8, .inl (fun _ => 0))))] : va_W) := hD
  refine lv_aload_n hx hb dX0_init_28 rfl (lv_at hl 0 rfl) ?_
  refine lv_bipush (v := 8) hx hb dX0_init_29 (by decide) ?_
  refine g_newI (N' := 8) hx hb (ht _ mw_2_12) hK hP hD hS hA (by decide) (by decide) (Nat.le_of_ble_eq_true rfl) (Nat.le_of_ble_eq_true rfl) (Nat.le_of_ble_eq_true rfl) dX0_init_31 (fun a31 H hP hD hS => ?_)
  have hP : va_P D vwCl ([(o, .inr (0, [.ref a7, .ref a15, .ref a23, .null])), (a7, .inl (cI, (8, .inl (fun _ => 0)))), (a15, .inl (cI, (8, .inl (fun _ => 0)))), (a23, .inl (cI, (8, .inl (fun _ => 0)))), (a31, .inl (cI, (8, .inl (fun _ => 0))))] : va_W) H := hP
  have hD : va_D A9 ([(o, .inr (0, [.ref a7, .ref a15, .ref a23, .null])), (a7, .inl (cI, (8, .inl (fun _ => 0)))), (a15, .inl (cI, (8, .inl (fun _ => 0)))), (a23, .inl (cI, (8, .inl (fun _ => 0)))), (a31, .inl (cI, (8, .inl (fun _ => 0))))] : va_W) := hD
  refine va_putF (C := RX0) (T := TX0) (N := 4) (own := RX0) (v := .ref a31) (D := D) (ty := tyX0 3) hx hb ht inlX0 tyX0 tyX0_ok nmX0 hown hK hP hD hS 0 rfl rfl 3 (Nat.le_of_ble_eq_true rfl) (ht _ mw_4_7) (fun _ h9 => h9) rfl hin rfl (tyX0_ok 3 (Nat.le_of_ble_eq_true rfl)) rfl rfl (Nat.le_of_ble_eq_true rfl) dX0_init_33 (fun H locs hP hD hS => ?_)
  have hP : va_P D vwCl ([(o, .inr (0, [.ref a7, .ref a15, .ref a23, .ref a31])), (a7, .inl (cI, (8, .inl (fun _ => 0)))), (a15, .inl (cI, (8, .inl (fun _ => 0)))), (a23, .inl (cI, (8, .inl (fun _ => 0)))), (a31, .inl (cI, (8, .inl (fun _ => 0))))] : va_W) H := hP
  have hD : va_D A9 ([(o, .inr (0, [.ref a7, .ref a15, .ref a23, .ref a31])), (a7, .inl (cI, (8, .inl (fun _ => 0)))), (a15, .inl (cI, (8, .inl (fun _ => 0)))), (a23, .inl (cI, (8, .inl (fun _ => 0)))), (a31, .inl (cI, (8, .inl (fun _ => 0))))] : va_W) := hD
  have hP : va_P D vwCl (wX0 cI cZ o (fun k => [a7, a15, a23, a31].getD k 0) (fun _ => 0) (fun _ _ => 0) : va_W) H := hP
  have hD : va_D A9 (wX0 cI cZ o (fun k => [a7, a15, a23, a31].getD k 0) (fun _ => 0) (fun _ _ => 0) : va_W) := hD
  refine W.widen (k := 4) (n := 32) (Nat.le_of_ble_eq_true rfl) (Nat.le_of_ble_eq_true rfl) ?_
  exact ret ((fun k => [a7, a15, a23, a31].getD k 0), (fun _ => 0), (fun _ _ => 0)) _ _ _ _ dX0_init_36 h hP hD hS
theorem dX1_init_0 : decode cX1_init 0 = .ok (.aload_n 0, 1) := by decide +kernel
theorem dX1_init_1 : decode cX1_init 1 = .ok (.invokespecial 3, 3) := by decide +kernel
theorem dX1_init_4 : decode cX1_init 4 = .ok (.aload_n 0, 1) := by decide +kernel
theorem dX1_init_5 : decode cX1_init 5 = .ok (.bipush 36, 2) := by decide +kernel
theorem dX1_init_7 : decode cX1_init 7 = .ok (.newarray .boolean, 2) := by decide +kernel
theorem dX1_init_9 : decode cX1_init 9 = .ok (.putfield 9, 3) := by decide +kernel
theorem dX1_init_12 : decode cX1_init 12 = .ok (.aload_n 0, 1) := by decide +kernel
theorem dX1_init_13 : decode cX1_init 13 = .ok (.bipush 6, 2) := by decide +kernel
theorem dX1_init_15 : decode cX1_init 15 = .ok (.newarray .int, 2) := by decide +kernel
theorem dX1_init_17 : decode cX1_init 17 = .ok (.putfield 15, 3) := by decide +kernel
theorem dX1_init_20 : decode cX1_init 20 = .ok (.aload_n 0, 1) := by decide +kernel
theorem dX1_init_21 : decode cX1_init 21 = .ok (.iconst 0, 1) := by decide +kernel
theorem dX1_init_22 : decode cX1_init 22 = .ok (.putfield 19, 3) := by decide +kernel
theorem dX1_init_25 : decode cX1_init 25 = .ok (.aload_n 0, 1) := by decide +kernel
theorem dX1_init_26 : decode cX1_init 26 = .ok (.iconst 0, 1) := by decide +kernel
theorem dX1_init_27 : decode cX1_init 27 = .ok (.putfield 23, 3) := by decide +kernel
theorem dX1_init_30 : decode cX1_init 30 = .ok (.return_, 1) := by decide +kernel
theorem cal_X1_init : CalI yX1_init cX1_init 1 0 := ⟨mw_4_10, mw_2_6, mw_4_9, rfl, ⟨by decide +kernel, by decide +kernel, by decide +kernel⟩⟩
def p_X1_init (K : tF → tA → Prop) : Prop := K (fun _ => 0) (fun _ _ => 0)
set_option maxHeartbeats 4000000 in
set_option maxRecDepth 100000 in
theorem w_X1_init (l : Launch) (D : va_G) (cI cZ cR : ClassId) (adK adV : Nat → Nat) (sz : Nat) (o : Nat) (K : tF → tA → Prop) (h : p_X1_init K) : MVc l D cI cZ cR adK adV yX1_init cX1_init 1 ({ frames := 1, cells := 2, slots := 42, locals := 12 }) [.ref o] ([(o, .inr (1, [.null, .null, .int 0, .int 0]))] : va_W) sz 2 42 (fun (u : (Nat → Nat) × tF × tA) => K u.2.1 u.2.2) (fun (u : (Nat → Nat) × tF × tA) => (wX1 cI cZ o u.1 u.2.1 u.2.2 : va_W)) := by
  refine M_vc (by decide +kernel) (Nat.le_of_ble_eq_true rfl) rfl ?_
  intro p e s m args below meth c Q A9 ls X hin ret hP hD hS hl
  obtain ⟨hx, hb, hml, ht, hown, hK, hA, hE⟩ := id X
  have hl : lv_has ls 1 [(0, .ref o)] := hl
  unfold p_X1_init at h
  refine lv_aload_n hx hb dX1_init_0 rfl (lv_at hl 0 rfl) ?_
  refine W.objInit hx hb hown (ht _ mw_4_11) (ht _ mw_1_11) (ht _ mw_1_12) rfl (by rw [hml]; exact hl.1) rfl dX1_init_1 (Nat.le_of_ble_eq_true rfl) (Nat.le_of_ble_eq_true rfl) ?_
  refine W.eq (g2 := F0 m 4 ls []) rfl ?_
  refine lv_aload_n hx hb dX1_init_4 rfl (lv_at hl 0 rfl) ?_
  refine lv_bipush (v := 36) hx hb dX1_init_5 (by decide) ?_
  refine g_newZ (N' := 36) hx hb (ht _ mw_4_12) hK hP hD hS hA (by decide) (by decide) (Nat.le_of_ble_eq_true rfl) (Nat.le_of_ble_eq_true rfl) (Nat.le_of_ble_eq_true rfl) dX1_init_7 (fun a7 H hP hD hS => ?_)
  have hP : va_P D vwCl ([(o, .inr (1, [.null, .null, .int 0, .int 0])), (a7, .inl (cZ, (36, .inl (fun _ => 0))))] : va_W) H := hP
  have hD : va_D A9 ([(o, .inr (1, [.null, .null, .int 0, .int 0])), (a7, .inl (cZ, (36, .inl (fun _ => 0))))] : va_W) := hD
  refine va_putF (C := RX1) (T := TX1) (N := 4) (own := RX1) (v := .ref a7) (D := D) (ty := tyX1 0) hx hb ht inlX1 tyX1 tyX1_ok nmX1 hown hK hP hD hS 0 rfl rfl 0 (Nat.le_of_ble_eq_true rfl) (ht _ mw_4_13) (fun _ h9 => h9) rfl hin rfl (tyX1_ok 0 (Nat.le_of_ble_eq_true rfl)) rfl rfl (Nat.le_of_ble_eq_true rfl) dX1_init_9 (fun H locs hP hD hS => ?_)
  have hP : va_P D vwCl ([(o, .inr (1, [.ref a7, .null, .int 0, .int 0])), (a7, .inl (cZ, (36, .inl (fun _ => 0))))] : va_W) H := hP
  have hD : va_D A9 ([(o, .inr (1, [.ref a7, .null, .int 0, .int 0])), (a7, .inl (cZ, (36, .inl (fun _ => 0))))] : va_W) := hD
  refine lv_aload_n hx hb dX1_init_12 rfl (lv_at hl 0 rfl) ?_
  refine lv_bipush (v := 6) hx hb dX1_init_13 (by decide) ?_
  refine g_newI (N' := 6) hx hb (ht _ mw_2_12) hK hP hD hS hA (by decide) (by decide) (Nat.le_of_ble_eq_true rfl) (Nat.le_of_ble_eq_true rfl) (Nat.le_of_ble_eq_true rfl) dX1_init_15 (fun a15 H hP hD hS => ?_)
  have hP : va_P D vwCl ([(o, .inr (1, [.ref a7, .null, .int 0, .int 0])), (a7, .inl (cZ, (36, .inl (fun _ => 0)))), (a15, .inl (cI, (6, .inl (fun _ => 0))))] : va_W) H := hP
  have hD : va_D A9 ([(o, .inr (1, [.ref a7, .null, .int 0, .int 0])), (a7, .inl (cZ, (36, .inl (fun _ => 0)))), (a15, .inl (cI, (6, .inl (fun _ => 0))))] : va_W) := hD
  refine va_putF (C := RX1) (T := TX1) (N := 4) (own := RX1) (v := .ref a15) (D := D) (ty := tyX1 1) hx hb ht inlX1 tyX1 tyX1_ok nmX1 hown hK hP hD hS 0 rfl rfl 1 (Nat.le_of_ble_eq_true rfl) (ht _ mw_4_14) (fun _ h9 => h9) rfl hin rfl (tyX1_ok 1 (Nat.le_of_ble_eq_true rfl)) rfl rfl (Nat.le_of_ble_eq_true rfl) dX1_init_17 (fun H locs hP hD hS => ?_)
  have hP : va_P D vwCl ([(o, .inr (1, [.ref a7, .ref a15, .int 0, .int 0])), (a7, .inl (cZ, (36, .inl (fun _ => 0)))), (a15, .inl (cI, (6, .inl (fun _ => 0))))] : va_W) H := hP
  have hD : va_D A9 ([(o, .inr (1, [.ref a7, .ref a15, .int 0, .int 0])), (a7, .inl (cZ, (36, .inl (fun _ => 0)))), (a15, .inl (cI, (6, .inl (fun _ => 0))))] : va_W) := hD
  refine lv_aload_n hx hb dX1_init_20 rfl (lv_at hl 0 rfl) ?_
  refine lv_iconst (v := 0) hx hb dX1_init_21 (by decide) ?_
  refine va_put (C := RX1) (T := TX1) (N := 4) (own := RX1) (v := .int (0 : Int32)) (D := D) (ty := tyX1 2) hx hb ht inlX1 tyX1 tyX1_ok nmX1 hown hK hP hD hS 0 rfl rfl 2 (Nat.le_of_ble_eq_true rfl) (ht _ mw_4_15) (fun _ h9 => h9) rfl (tyX1_ok 2 (Nat.le_of_ble_eq_true rfl)) rfl rfl (Nat.le_of_ble_eq_true rfl) dX1_init_22 (fun H locs hP hD hS => ?_)
  have hP : va_P D vwCl ([(o, .inr (1, [.ref a7, .ref a15, .int (0 : Int32), .int 0])), (a7, .inl (cZ, (36, .inl (fun _ => 0)))), (a15, .inl (cI, (6, .inl (fun _ => 0))))] : va_W) H := hP
  have hD : va_D A9 ([(o, .inr (1, [.ref a7, .ref a15, .int (0 : Int32), .int 0])), (a7, .inl (cZ, (36, .inl (fun _ => 0)))), (a15, .inl (cI, (6, .inl (fun _ => 0))))] : va_W) := hD
  refine lv_aload_n hx hb dX1_init_25 rfl (lv_at hl 0 rfl) ?_
  refine lv_iconst (v := 0) hx hb dX1_init_26 (by decide) ?_
  refine va_put (C := RX1) (T := TX1) (N := 4) (own := RX1) (v := .int (0 : Int32)) (D := D) (ty := tyX1 3) hx hb ht inlX1 tyX1 tyX1_ok nmX1 hown hK hP hD hS 0 rfl rfl 3 (Nat.le_of_ble_eq_true rfl) (ht _ mw_4_16) (fun _ h9 => h9) rfl (tyX1_ok 3 (Nat.le_of_ble_eq_true rfl)) rfl rfl (Nat.le_of_ble_eq_true rfl) dX1_init_27 (fun H locs hP hD hS => ?_)
  have hP : va_P D vwCl ([(o, .inr (1, [.ref a7, .ref a15, .int (0 : Int32), .int (0 : Int32)])), (a7, .inl (cZ, (36, .inl (fun _ => 0)))), (a15, .inl (cI, (6, .inl (fun _ => 0))))] : va_W) H := hP
  have hD : va_D A9 ([(o, .inr (1, [.ref a7, .ref a15, .int (0 : Int32), .int (0 : Int32)])), (a7, .inl (cZ, (36, .inl (fun _ => 0)))), (a15, .inl (cI, (6, .inl (fun _ => 0))))] : va_W) := hD
  have hP : va_P D vwCl (wX1 cI cZ o (fun k => [a7, a15, 0, 0].getD k 0) (fun _ => 0) (fun _ _ => 0) : va_W) H := hP
  have hD : va_D A9 (wX1 cI cZ o (fun k => [a7, a15, 0, 0].getD k 0) (fun _ => 0) (fun _ _ => 0) : va_W) := hD
  refine W.widen (k := 2) (n := 42) (Nat.le_of_ble_eq_true rfl) (Nat.le_of_ble_eq_true rfl) ?_
  exact ret ((fun k => [a7, a15, 0, 0].getD k 0), (fun _ => 0), (fun _ _ => 0)) _ _ _ _ dX1_init_30 h hP hD hS
theorem dX2_init_0 : decode cX2_init 0 = .ok (.aload_n 0, 1) := by decide +kernel
theorem dX2_init_1 : decode cX2_init 1 = .ok (.invokespecial 3, 3) := by decide +kernel
theorem dX2_init_4 : decode cX2_init 4 = .ok (.aload_n 0, 1) := by decide +kernel
theorem dX2_init_5 : decode cX2_init 5 = .ok (.iconst 4, 1) := by decide +kernel
theorem dX2_init_6 : decode cX2_init 6 = .ok (.newarray .int, 2) := by decide +kernel
theorem dX2_init_8 : decode cX2_init 8 = .ok (.putfield 9, 3) := by decide +kernel
theorem dX2_init_11 : decode cX2_init 11 = .ok (.aload_n 0, 1) := by decide +kernel
theorem dX2_init_12 : decode cX2_init 12 = .ok (.bipush 6, 2) := by decide +kernel
theorem dX2_init_14 : decode cX2_init 14 = .ok (.newarray .int, 2) := by decide +kernel
theorem dX2_init_16 : decode cX2_init 16 = .ok (.putfield 15, 3) := by decide +kernel
theorem dX2_init_19 : decode cX2_init 19 = .ok (.aload_n 0, 1) := by decide +kernel
theorem dX2_init_20 : decode cX2_init 20 = .ok (.bipush 6, 2) := by decide +kernel
theorem dX2_init_22 : decode cX2_init 22 = .ok (.newarray .int, 2) := by decide +kernel
theorem dX2_init_24 : decode cX2_init 24 = .ok (.putfield 18, 3) := by decide +kernel
theorem dX2_init_27 : decode cX2_init 27 = .ok (.aload_n 0, 1) := by decide +kernel
theorem dX2_init_28 : decode cX2_init 28 = .ok (.bipush 8, 2) := by decide +kernel
theorem dX2_init_30 : decode cX2_init 30 = .ok (.newarray .int, 2) := by decide +kernel
theorem dX2_init_32 : decode cX2_init 32 = .ok (.putfield 21, 3) := by decide +kernel
theorem dX2_init_35 : decode cX2_init 35 = .ok (.aload_n 0, 1) := by decide +kernel
theorem dX2_init_36 : decode cX2_init 36 = .ok (.bipush 8, 2) := by decide +kernel
theorem dX2_init_38 : decode cX2_init 38 = .ok (.newarray .int, 2) := by decide +kernel
theorem dX2_init_40 : decode cX2_init 40 = .ok (.putfield 24, 3) := by decide +kernel
theorem dX2_init_43 : decode cX2_init 43 = .ok (.aload_n 0, 1) := by decide +kernel
theorem dX2_init_44 : decode cX2_init 44 = .ok (.bipush 8, 2) := by decide +kernel
theorem dX2_init_46 : decode cX2_init 46 = .ok (.newarray .int, 2) := by decide +kernel
theorem dX2_init_48 : decode cX2_init 48 = .ok (.putfield 27, 3) := by decide +kernel
theorem dX2_init_51 : decode cX2_init 51 = .ok (.aload_n 0, 1) := by decide +kernel
theorem dX2_init_52 : decode cX2_init 52 = .ok (.bipush 8, 2) := by decide +kernel
theorem dX2_init_54 : decode cX2_init 54 = .ok (.newarray .int, 2) := by decide +kernel
theorem dX2_init_56 : decode cX2_init 56 = .ok (.putfield 30, 3) := by decide +kernel
theorem dX2_init_59 : decode cX2_init 59 = .ok (.aload_n 0, 1) := by decide +kernel
theorem dX2_init_60 : decode cX2_init 60 = .ok (.bipush 6, 2) := by decide +kernel
theorem dX2_init_62 : decode cX2_init 62 = .ok (.newarray .int, 2) := by decide +kernel
theorem dX2_init_64 : decode cX2_init 64 = .ok (.putfield 33, 3) := by decide +kernel
theorem dX2_init_67 : decode cX2_init 67 = .ok (.aload_n 0, 1) := by decide +kernel
theorem dX2_init_68 : decode cX2_init 68 = .ok (.iconst 0, 1) := by decide +kernel
theorem dX2_init_69 : decode cX2_init 69 = .ok (.putfield 36, 3) := by decide +kernel
theorem dX2_init_72 : decode cX2_init 72 = .ok (.aload_n 0, 1) := by decide +kernel
theorem dX2_init_73 : decode cX2_init 73 = .ok (.iconst 0, 1) := by decide +kernel
theorem dX2_init_74 : decode cX2_init 74 = .ok (.putfield 40, 3) := by decide +kernel
theorem dX2_init_77 : decode cX2_init 77 = .ok (.aload_n 0, 1) := by decide +kernel
theorem dX2_init_78 : decode cX2_init 78 = .ok (.iconst 0, 1) := by decide +kernel
theorem dX2_init_79 : decode cX2_init 79 = .ok (.putfield 43, 3) := by decide +kernel
theorem dX2_init_82 : decode cX2_init 82 = .ok (.aload_n 0, 1) := by decide +kernel
theorem dX2_init_83 : decode cX2_init 83 = .ok (.iconst 0, 1) := by decide +kernel
theorem dX2_init_84 : decode cX2_init 84 = .ok (.putfield 46, 3) := by decide +kernel
theorem dX2_init_87 : decode cX2_init 87 = .ok (.aload_n 0, 1) := by decide +kernel
theorem dX2_init_88 : decode cX2_init 88 = .ok (.iconst 1, 1) := by decide +kernel
theorem dX2_init_89 : decode cX2_init 89 = .ok (.putfield 49, 3) := by decide +kernel
theorem dX2_init_92 : decode cX2_init 92 = .ok (.aload_n 0, 1) := by decide +kernel
theorem dX2_init_93 : decode cX2_init 93 = .ok (.invokevirtual 52, 3) := by decide +kernel
theorem dX2_init_96 : decode cX2_init 96 = .ok (.return_, 1) := by decide +kernel
theorem cal_X2_init : CalI yX2_init cX2_init 1 0 := ⟨mw_2_21, mw_1_15, mw_2_20, rfl, ⟨by decide +kernel, by decide +kernel, by decide +kernel⟩⟩
def p_X2_init (K : tF → tA → Prop) : Prop := p_X2_startOver (upd (fun _ => 0) 12 (1 : Int32)) (fun _ _ => 0) (fun F1 A1 => K F1 A1)
set_option maxHeartbeats 4000000 in
set_option maxRecDepth 100000 in
theorem w_X2_init (l : Launch) (D : va_G) (cI cZ cR : ClassId) (adK adV : Nat → Nat) (sz : Nat) (o : Nat) (K : tF → tA → Prop) (h : p_X2_init K) : MVc l D cI cZ cR adK adV yX2_init cX2_init 1 ({ frames := 1, cells := 8, slots := 54, locals := 21 }) [.ref o] ([(o, .inr (2, [.null, .null, .null, .null, .null, .null, .null, .null, .int 0, .int 0, .int 0, .int 0, .int 0]))] : va_W) sz 8 54 (fun (u : (Nat → Nat) × tF × tA) => K u.2.1 u.2.2) (fun (u : (Nat → Nat) × tF × tA) => (wX2 cI cZ o u.1 u.2.1 u.2.2 : va_W)) := by
  refine M_vc (by decide +kernel) (Nat.le_of_ble_eq_true rfl) rfl ?_
  intro p e s m args below meth c Q A9 ls X hin ret hP hD hS hl
  obtain ⟨hx, hb, hml, ht, hown, hK, hA, hE⟩ := id X
  have hl : lv_has ls 1 [(0, .ref o)] := hl
  unfold p_X2_init at h
  refine lv_aload_n hx hb dX2_init_0 rfl (lv_at hl 0 rfl) ?_
  refine W.objInit hx hb hown (ht _ mw_2_22) (ht _ mw_1_11) (ht _ mw_1_12) rfl (by rw [hml]; exact hl.1) rfl dX2_init_1 (Nat.le_of_ble_eq_true rfl) (Nat.le_of_ble_eq_true rfl) ?_
  refine W.eq (g2 := F0 m 4 ls []) rfl ?_
  refine lv_aload_n hx hb dX2_init_4 rfl (lv_at hl 0 rfl) ?_
  refine lv_iconst (v := 4) hx hb dX2_init_5 (by decide) ?_
  refine g_newI (N' := 4) hx hb (ht _ mw_2_12) hK hP hD hS hA (by decide) (by decide) (Nat.le_of_ble_eq_true rfl) (Nat.le_of_ble_eq_true rfl) (Nat.le_of_ble_eq_true rfl) dX2_init_6 (fun a6 H hP hD hS => ?_)
  have hP : va_P D vwCl ([(o, .inr (2, [.null, .null, .null, .null, .null, .null, .null, .null, .int 0, .int 0, .int 0, .int 0, .int 0])), (a6, .inl (cI, (4, .inl (fun _ => 0))))] : va_W) H := hP
  have hD : va_D A9 ([(o, .inr (2, [.null, .null, .null, .null, .null, .null, .null, .null, .int 0, .int 0, .int 0, .int 0, .int 0])), (a6, .inl (cI, (4, .inl (fun _ => 0))))] : va_W) := hD
  refine va_putF (C := RX2) (T := TX2) (N := 13) (own := RX2) (v := .ref a6) (D := D) (ty := tyX2 0) hx hb ht inlX2 tyX2 tyX2_ok nmX2 hown hK hP hD hS 0 rfl rfl 0 (Nat.le_of_ble_eq_true rfl) (ht _ mw_2_23) (fun _ h9 => h9) rfl hin rfl (tyX2_ok 0 (Nat.le_of_ble_eq_true rfl)) rfl rfl (Nat.le_of_ble_eq_true rfl) dX2_init_8 (fun H locs hP hD hS => ?_)
  have hP : va_P D vwCl ([(o, .inr (2, [.ref a6, .null, .null, .null, .null, .null, .null, .null, .int 0, .int 0, .int 0, .int 0, .int 0])), (a6, .inl (cI, (4, .inl (fun _ => 0))))] : va_W) H := hP
  have hD : va_D A9 ([(o, .inr (2, [.ref a6, .null, .null, .null, .null, .null, .null, .null, .int 0, .int 0, .int 0, .int 0, .int 0])), (a6, .inl (cI, (4, .inl (fun _ => 0))))] : va_W) := hD
  refine lv_aload_n hx hb dX2_init_11 rfl (lv_at hl 0 rfl) ?_
  refine lv_bipush (v := 6) hx hb dX2_init_12 (by decide) ?_
  refine g_newI (N' := 6) hx hb (ht _ mw_2_12) hK hP hD hS hA (by decide) (by decide) (Nat.le_of_ble_eq_true rfl) (Nat.le_of_ble_eq_true rfl) (Nat.le_of_ble_eq_true rfl) dX2_init_14 (fun a14 H hP hD hS => ?_)
  have hP : va_P D vwCl ([(o, .inr (2, [.ref a6, .null, .null, .null, .null, .null, .null, .null, .int 0, .int 0, .int 0, .int 0, .int 0])), (a6, .inl (cI, (4, .inl (fun _ => 0)))), (a14, .inl (cI, (6, .inl (fun _ => 0))))] : va_W) H := hP
  have hD : va_D A9 ([(o, .inr (2, [.ref a6, .null, .null, .null, .null, .null, .null, .null, .int 0, .int 0, .int 0, .int 0, .int 0])), (a6, .inl (cI, (4, .inl (fun _ => 0)))), (a14, .inl (cI, (6, .inl (fun _ => 0))))] : va_W) := hD
  refine va_putF (C := RX2) (T := TX2) (N := 13) (own := RX2) (v := .ref a14) (D := D) (ty := tyX2 1) hx hb ht inlX2 tyX2 tyX2_ok nmX2 hown hK hP hD hS 0 rfl rfl 1 (Nat.le_of_ble_eq_true rfl) (ht _ mw_3_0) (fun _ h9 => h9) rfl hin rfl (tyX2_ok 1 (Nat.le_of_ble_eq_true rfl)) rfl rfl (Nat.le_of_ble_eq_true rfl) dX2_init_16 (fun H locs hP hD hS => ?_)
  have hP : va_P D vwCl ([(o, .inr (2, [.ref a6, .ref a14, .null, .null, .null, .null, .null, .null, .int 0, .int 0, .int 0, .int 0, .int 0])), (a6, .inl (cI, (4, .inl (fun _ => 0)))), (a14, .inl (cI, (6, .inl (fun _ => 0))))] : va_W) H := hP
  have hD : va_D A9 ([(o, .inr (2, [.ref a6, .ref a14, .null, .null, .null, .null, .null, .null, .int 0, .int 0, .int 0, .int 0, .int 0])), (a6, .inl (cI, (4, .inl (fun _ => 0)))), (a14, .inl (cI, (6, .inl (fun _ => 0))))] : va_W) := hD
  refine lv_aload_n hx hb dX2_init_19 rfl (lv_at hl 0 rfl) ?_
  refine lv_bipush (v := 6) hx hb dX2_init_20 (by decide) ?_
  refine g_newI (N' := 6) hx hb (ht _ mw_2_12) hK hP hD hS hA (by decide) (by decide) (Nat.le_of_ble_eq_true rfl) (Nat.le_of_ble_eq_true rfl) (Nat.le_of_ble_eq_true rfl) dX2_init_22 (fun a22 H hP hD hS => ?_)
  have hP : va_P D vwCl ([(o, .inr (2, [.ref a6, .ref a14, .null, .null, .null, .null, .null, .null, .int 0, .int 0, .int 0, .int 0, .int 0])), (a6, .inl (cI, (4, .inl (fun _ => 0)))), (a14, .inl (cI, (6, .inl (fun _ => 0)))), (a22, .inl (cI, (6, .inl (fun _ => 0))))] : va_W) H := hP
  have hD : va_D A9 ([(o, .inr (2, [.ref a6, .ref a14, .null, .null, .null, .null, .null, .null, .int 0, .int 0, .int 0, .int 0, .int 0])), (a6, .inl (cI, (4, .inl (fun _ => 0)))), (a14, .inl (cI, (6, .inl (fun _ => 0)))), (a22, .inl (cI, (6, .inl (fun _ => 0))))] : va_W) := hD
  refine va_putF (C := RX2) (T := TX2) (N := 13) (own := RX2) (v := .ref a22) (D := D) (ty := tyX2 2) hx hb ht inlX2 tyX2 tyX2_ok nmX2 hown hK hP hD hS 0 rfl rfl 2 (Nat.le_of_ble_eq_true rfl) (ht _ mw_3_1) (fun _ h9 => h9) rfl hin rfl (tyX2_ok 2 (Nat.le_of_ble_eq_true rfl)) rfl rfl (Nat.le_of_ble_eq_true rfl) dX2_init_24 (fun H locs hP hD hS => ?_)
  have hP : va_P D vwCl ([(o, .inr (2, [.ref a6, .ref a14, .ref a22, .null, .null, .null, .null, .null, .int 0, .int 0, .int 0, .int 0, .int 0])), (a6, .inl (cI, (4, .inl (fun _ => 0)))), (a14, .inl (cI, (6, .inl (fun _ => 0)))), (a22, .inl (cI, (6, .inl (fun _ => 0))))] : va_W) H := hP
  have hD : va_D A9 ([(o, .inr (2, [.ref a6, .ref a14, .ref a22, .null, .null, .null, .null, .null, .int 0, .int 0, .int 0, .int 0, .int 0])), (a6, .inl (cI, (4, .inl (fun _ => 0)))), (a14, .inl (cI, (6, .inl (fun _ => 0)))), (a22, .inl (cI, (6, .inl (fun _ => 0))))] : va_W) := hD
  refine lv_aload_n hx hb dX2_init_27 rfl (lv_at hl 0 rfl) ?_
  refine lv_bipush (v := 8) hx hb dX2_init_28 (by decide) ?_
  refine g_newI (N' := 8) hx hb (ht _ mw_2_12) hK hP hD hS hA (by decide) (by decide) (Nat.le_of_ble_eq_true rfl) (Nat.le_of_ble_eq_true rfl) (Nat.le_of_ble_eq_true rfl) dX2_init_30 (fun a30 H hP hD hS => ?_)
  have hP : va_P D vwCl ([(o, .inr (2, [.ref a6, .ref a14, .ref a22, .null, .null, .null, .null, .null, .int 0, .int 0, .int 0, .int 0, .int 0])), (a6, .inl (cI, (4, .inl (fun _ => 0)))), (a14, .inl (cI, (6, .inl (fun _ => 0)))), (a22, .inl (cI, (6, .inl (fun _ => 0)))), (a30, .inl (cI, (8, .inl (fun _ => 0))))] : va_W) H := hP
  have hD : va_D A9 ([(o, .inr (2, [.ref a6, .ref a14, .ref a22, .null, .null, .null, .null, .null, .int 0, .int 0, .int 0, .int 0, .int 0])), (a6, .inl (cI, (4, .inl (fun _ => 0)))), (a14, .inl (cI, (6, .inl (fun _ => 0)))), (a22, .inl (cI, (6, .inl (fun _ => 0)))), (a30, .inl (cI, (8, .inl (fun _ => 0))))] : va_W) := hD
  refine va_putF (C := RX2) (T := TX2) (N := 13) (own := RX2) (v := .ref a30) (D := D) (ty := tyX2 3) hx hb ht inlX2 tyX2 tyX2_ok nmX2 hown hK hP hD hS 0 rfl rfl 3 (Nat.le_of_ble_eq_true rfl) (ht _ mw_3_2) (fun _ h9 => h9) rfl hin rfl (tyX2_ok 3 (Nat.le_of_ble_eq_true rfl)) rfl rfl (Nat.le_of_ble_eq_true rfl) dX2_init_32 (fun H locs hP hD hS => ?_)
  have hP : va_P D vwCl ([(o, .inr (2, [.ref a6, .ref a14, .ref a22, .ref a30, .null, .null, .null, .null, .int 0, .int 0, .int 0, .int 0, .int 0])), (a6, .inl (cI, (4, .inl (fun _ => 0)))), (a14, .inl (cI, (6, .inl (fun _ => 0)))), (a22, .inl (cI, (6, .inl (fun _ => 0)))), (a30, .inl (cI, (8, .inl (fun _ => 0))))] : va_W) H := hP
  have hD : va_D A9 ([(o, .inr (2, [.ref a6, .ref a14, .ref a22, .ref a30, .null, .null, .null, .null, .int 0, .int 0, .int 0, .int 0, .int 0])), (a6, .inl (cI, (4, .inl (fun _ => 0)))), (a14, .inl (cI, (6, .inl (fun _ => 0)))), (a22, .inl (cI, (6, .inl (fun _ => 0)))), (a30, .inl (cI, (8, .inl (fun _ => 0))))] : va_W) := hD
  refine lv_aload_n hx hb dX2_init_35 rfl (lv_at hl 0 rfl) ?_
  refine lv_bipush (v := 8) hx hb dX2_init_36 (by decide) ?_
  refine g_newI (N' := 8) hx hb (ht _ mw_2_12) hK hP hD hS hA (by decide) (by decide) (Nat.le_of_ble_eq_true rfl) (Nat.le_of_ble_eq_true rfl) (Nat.le_of_ble_eq_true rfl) dX2_init_38 (fun a38 H hP hD hS => ?_)
  have hP : va_P D vwCl ([(o, .inr (2, [.ref a6, .ref a14, .ref a22, .ref a30, .null, .null, .null, .null, .int 0, .int 0, .int 0, .int 0, .int 0])), (a6, .inl (cI, (4, .inl (fun _ => 0)))), (a14, .inl (cI, (6, .inl (fun _ => 0)))), (a22, .inl (cI, (6, .inl (fun _ => 0)))), (a30, .inl (cI, (8, .inl (fun _ => 0)))), (a38, .inl (cI, (8, .inl (fun _ => 0))))] : va_W) H := hP
  have hD : va_D A9 ([(o, .inr (2, [.ref a6, .ref a14, .ref a22, .ref a30, .null, .null, .null, .null, .int 0, .int 0, .int 0, .int 0, .int 0])), (a6, .inl (cI, (4, .inl (fun _ => 0)))), (a14, .inl (cI, (6, .inl (fun _ => 0)))), (a22, .inl (cI, (6, .inl (fun _ => 0)))), (a30, .inl (cI, (8, .inl (fun _ => 0)))), (a38, .inl (cI, (8, .inl (fun _ => 0))))] : va_W) := hD
  refine va_putF (C := RX2) (T := TX2) (N := 13) (own := RX2) (v := .ref a38) (D := D) (ty := tyX2 4) hx hb ht inlX2 tyX2 tyX2_ok nmX2 hown hK hP hD hS 0 rfl rfl 4 (Nat.le_of_ble_eq_true rfl) (ht _ mw_3_3) (fun _ h9 => h9) rfl hin rfl (tyX2_ok 4 (Nat.le_of_ble_eq_true rfl)) rfl rfl (Nat.le_of_ble_eq_true rfl) dX2_init_40 (fun H locs hP hD hS => ?_)
  have hP : va_P D vwCl ([(o, .inr (2, [.ref a6, .ref a14, .ref a22, .ref a30, .ref a38, .null, .null, .null, .int 0, .int 0, .int 0, .int 0, .int 0])), (a6, .inl (cI, (4, .inl (fun _ => 0)))), (a14, .inl (cI, (6, .inl (fun _ => 0)))), (a22, .inl (cI, (6, .inl (fun _ => 0)))), (a30, .inl (cI, (8, .inl (fun _ => 0)))), (a38, .inl (cI, (8, .inl (fun _ => 0))))] : va_W) H := hP
  have hD : va_D A9 ([(o, .inr (2, [.ref a6, .ref a14, .ref a22, .ref a30, .ref a38, .null, .null, .null, .int 0, .int 0, .int 0, .int 0, .int 0])), (a6, .inl (cI, (4, .inl (fun _ => 0)))), (a14, .inl (cI, (6, .inl (fun _ => 0)))), (a22, .inl (cI, (6, .inl (fun _ => 0)))), (a30, .inl (cI, (8, .inl (fun _ => 0)))), (a38, .inl (cI, (8, .inl (fun _ => 0))))] : va_W) := hD
  refine lv_aload_n hx hb dX2_init_43 rfl (lv_at hl 0 rfl) ?_
  refine lv_bipush (v := 8) hx hb dX2_init_44 (by decide) ?_
  refine g_newI (N' := 8) hx hb (ht _ mw_2_12) hK hP hD hS hA (by decide) (by decide) (Nat.le_of_ble_eq_true rfl) (Nat.le_of_ble_eq_true rfl) (Nat.le_of_ble_eq_true rfl) dX2_init_46 (fun a46 H hP hD hS => ?_)
  have hP : va_P D vwCl ([(o, .inr (2, [.ref a6, .ref a14, .ref a22, .ref a30, .ref a38, .null, .null, .null, .int 0, .int 0, .int 0, .int 0, .int 0])), (a6, .inl (cI, (4, .inl (fun _ => 0)))), (a14, .inl (cI, (6, .inl (fun _ => 0)))), (a22, .inl (cI, (6, .inl (fun _ => 0)))), (a30, .inl (cI, (8, .inl (fun _ => 0)))), (a38, .inl (cI, (8, .inl (fun _ => 0)))), (a46, .inl (cI, (8, .inl (fun _ => 0))))] : va_W) H := hP
  have hD : va_D A9 ([(o, .inr (2, [.ref a6, .ref a14, .ref a22, .ref a30, .ref a38, .null, .null, .null, .int 0, .int 0, .int 0, .int 0, .int 0])), (a6, .inl (cI, (4, .inl (fun _ => 0)))), (a14, .inl (cI, (6, .inl (fun _ => 0)))), (a22, .inl (cI, (6, .inl (fun _ => 0)))), (a30, .inl (cI, (8, .inl (fun _ => 0)))), (a38, .inl (cI, (8, .inl (fun _ => 0)))), (a46, .inl (cI, (8, .inl (fun _ => 0))))] : va_W) := hD
  refine va_putF (C := RX2) (T := TX2) (N := 13) (own := RX2) (v := .ref a46) (D := D) (ty := tyX2 5) hx hb ht inlX2 tyX2 tyX2_ok nmX2 hown hK hP hD hS 0 rfl rfl 5 (Nat.le_of_ble_eq_true rfl) (ht _ mw_3_4) (fun _ h9 => h9) rfl hin rfl (tyX2_ok 5 (Nat.le_of_ble_eq_true rfl)) rfl rfl (Nat.le_of_ble_eq_true rfl) dX2_init_48 (fun H locs hP hD hS => ?_)
  have hP : va_P D vwCl ([(o, .inr (2, [.ref a6, .ref a14, .ref a22, .ref a30, .ref a38, .ref a46, .null, .null, .int 0, .int 0, .int 0, .int 0, .int 0])), (a6, .inl (cI, (4, .inl (fun _ => 0)))), (a14, .inl (cI, (6, .inl (fun _ => 0)))), (a22, .inl (cI, (6, .inl (fun _ => 0)))), (a30, .inl (cI, (8, .inl (fun _ => 0)))), (a38, .inl (cI, (8, .inl (fun _ => 0)))), (a46, .inl (cI, (8, .inl (fun _ => 0))))] : va_W) H := hP
  have hD : va_D A9 ([(o, .inr (2, [.ref a6, .ref a14, .ref a22, .ref a30, .ref a38, .ref a46, .null, .null, .int 0, .int 0, .int 0, .int 0, .int 0])), (a6, .inl (cI, (4, .inl (fun _ => 0)))), (a14, .inl (cI, (6, .inl (fun _ => 0)))), (a22, .inl (cI, (6, .inl (fun _ => 0)))), (a30, .inl (cI, (8, .inl (fun _ => 0)))), (a38, .inl (cI, (8, .inl (fun _ => 0)))), (a46, .inl (cI, (8, .inl (fun _ => 0))))] : va_W) := hD
  refine lv_aload_n hx hb dX2_init_51 rfl (lv_at hl 0 rfl) ?_
  refine lv_bipush (v := 8) hx hb dX2_init_52 (by decide) ?_
  refine g_newI (N' := 8) hx hb (ht _ mw_2_12) hK hP hD hS hA (by decide) (by decide) (Nat.le_of_ble_eq_true rfl) (Nat.le_of_ble_eq_true rfl) (Nat.le_of_ble_eq_true rfl) dX2_init_54 (fun a54 H hP hD hS => ?_)
  have hP : va_P D vwCl ([(o, .inr (2, [.ref a6, .ref a14, .ref a22, .ref a30, .ref a38, .ref a46, .null, .null, .int 0, .int 0, .int 0, .int 0, .int 0])), (a6, .inl (cI, (4, .inl (fun _ => 0)))), (a14, .inl (cI, (6, .inl (fun _ => 0)))), (a22, .inl (cI, (6, .inl (fun _ => 0)))), (a30, .inl (cI, (8, .inl (fun _ => 0)))), (a38, .inl (cI, (8, .inl (fun _ => 0)))), (a46, .inl (cI, (8, .inl (fun _ => 0)))), (a54, .inl (cI, (8, .inl (fun _ => 0))))] : va_W) H := hP
  have hD : va_D A9 ([(o, .inr (2, [.ref a6, .ref a14, .ref a22, .ref a30, .ref a38, .ref a46, .null, .null, .int 0, .int 0, .int 0, .int 0, .int 0])), (a6, .inl (cI, (4, .inl (fun _ => 0)))), (a14, .inl (cI, (6, .inl (fun _ => 0)))), (a22, .inl (cI, (6, .inl (fun _ => 0)))), (a30, .inl (cI, (8, .inl (fun _ => 0)))), (a38, .inl (cI, (8, .inl (fun _ => 0)))), (a46, .inl (cI, (8, .inl (fun _ => 0)))), (a54, .inl (cI, (8, .inl (fun _ => 0))))] : va_W) := hD
  refine va_putF (C := RX2) (T := TX2) (N := 13) (own := RX2) (v := .ref a54) (D := D) (ty := tyX2 6) hx hb ht inlX2 tyX2 tyX2_ok nmX2 hown hK hP hD hS 0 rfl rfl 6 (Nat.le_of_ble_eq_true rfl) (ht _ mw_3_5) (fun _ h9 => h9) rfl hin rfl (tyX2_ok 6 (Nat.le_of_ble_eq_true rfl)) rfl rfl (Nat.le_of_ble_eq_true rfl) dX2_init_56 (fun H locs hP hD hS => ?_)
  have hP : va_P D vwCl ([(o, .inr (2, [.ref a6, .ref a14, .ref a22, .ref a30, .ref a38, .ref a46, .ref a54, .null, .int 0, .int 0, .int 0, .int 0, .int 0])), (a6, .inl (cI, (4, .inl (fun _ => 0)))), (a14, .inl (cI, (6, .inl (fun _ => 0)))), (a22, .inl (cI, (6, .inl (fun _ => 0)))), (a30, .inl (cI, (8, .inl (fun _ => 0)))), (a38, .inl (cI, (8, .inl (fun _ => 0)))), (a46, .inl (cI, (8, .inl (fun _ => 0)))), (a54, .inl (cI, (8, .inl (fun _ => 0))))] : va_W) H := hP
  have hD : va_D A9 ([(o, .inr (2, [.ref a6, .ref a14, .ref a22, .ref a30, .ref a38, .ref a46, .ref a54, .null, .int 0, .int 0, .int 0, .int 0, .int 0])), (a6, .inl (cI, (4, .inl (fun _ => 0)))), (a14, .inl (cI, (6, .inl (fun _ => 0)))), (a22, .inl (cI, (6, .inl (fun _ => 0)))), (a30, .inl (cI, (8, .inl (fun _ => 0)))), (a38, .inl (cI, (8, .inl (fun _ => 0)))), (a46, .inl (cI, (8, .inl (fun _ => 0)))), (a54, .inl (cI, (8, .inl (fun _ => 0))))] : va_W) := hD
  refine lv_aload_n hx hb dX2_init_59 rfl (lv_at hl 0 rfl) ?_
  refine lv_bipush (v := 6) hx hb dX2_init_60 (by decide) ?_
  refine g_newI (N' := 6) hx hb (ht _ mw_2_12) hK hP hD hS hA (by decide) (by decide) (Nat.le_of_ble_eq_true rfl) (Nat.le_of_ble_eq_true rfl) (Nat.le_of_ble_eq_true rfl) dX2_init_62 (fun a62 H hP hD hS => ?_)
  have hP : va_P D vwCl ([(o, .inr (2, [.ref a6, .ref a14, .ref a22, .ref a30, .ref a38, .ref a46, .ref a54, .null, .int 0, .int 0, .int 0, .int 0, .int 0])), (a6, .inl (cI, (4, .inl (fun _ => 0)))), (a14, .inl (cI, (6, .inl (fun _ => 0)))), (a22, .inl (cI, (6, .inl (fun _ => 0)))), (a30, .inl (cI, (8, .inl (fun _ => 0)))), (a38, .inl (cI, (8, .inl (fun _ => 0)))), (a46, .inl (cI, (8, .inl (fun _ => 0)))), (a54, .inl (cI, (8, .inl (fun _ => 0)))), (a62, .inl (cI, (6, .inl (fun _ => 0))))] : va_W) H := hP
  have hD : va_D A9 ([(o, .inr (2, [.ref a6, .ref a14, .ref a22, .ref a30, .ref a38, .ref a46, .ref a54, .null, .int 0, .int 0, .int 0, .int 0, .int 0])), (a6, .inl (cI, (4, .inl (fun _ => 0)))), (a14, .inl (cI, (6, .inl (fun _ => 0)))), (a22, .inl (cI, (6, .inl (fun _ => 0)))), (a30, .inl (cI, (8, .inl (fun _ => 0)))), (a38, .inl (cI, (8, .inl (fun _ => 0)))), (a46, .inl (cI, (8, .inl (fun _ => 0)))), (a54, .inl (cI, (8, .inl (fun _ => 0)))), (a62, .inl (cI, (6, .inl (fun _ => 0))))] : va_W) := hD
  refine va_putF (C := RX2) (T := TX2) (N := 13) (own := RX2) (v := .ref a62) (D := D) (ty := tyX2 7) hx hb ht inlX2 tyX2 tyX2_ok nmX2 hown hK hP hD hS 0 rfl rfl 7 (Nat.le_of_ble_eq_true rfl) (ht _ mw_3_6) (fun _ h9 => h9) rfl hin rfl (tyX2_ok 7 (Nat.le_of_ble_eq_true rfl)) rfl rfl (Nat.le_of_ble_eq_true rfl) dX2_init_64 (fun H locs hP hD hS => ?_)
  have hP : va_P D vwCl ([(o, .inr (2, [.ref a6, .ref a14, .ref a22, .ref a30, .ref a38, .ref a46, .ref a54, .ref a62, .int 0, .int 0, .int 0, .int 0, .int 0])), (a6, .inl (cI, (4, .inl (fun _ => 0)))), (a14, .inl (cI, (6, .inl (fun _ => 0)))), (a22, .inl (cI, (6, .inl (fun _ => 0)))), (a30, .inl (cI, (8, .inl (fun _ => 0)))), (a38, .inl (cI, (8, .inl (fun _ => 0)))), (a46, .inl (cI, (8, .inl (fun _ => 0)))), (a54, .inl (cI, (8, .inl (fun _ => 0)))), (a62, .inl (cI, (6, .inl (fun _ => 0))))] : va_W) H := hP
  have hD : va_D A9 ([(o, .inr (2, [.ref a6, .ref a14, .ref a22, .ref a30, .ref a38, .ref a46, .ref a54, .ref a62, .int 0, .int 0, .int 0, .int 0, .int 0])), (a6, .inl (cI, (4, .inl (fun _ => 0)))), (a14, .inl (cI, (6, .inl (fun _ => 0)))), (a22, .inl (cI, (6, .inl (fun _ => 0)))), (a30, .inl (cI, (8, .inl (fun _ => 0)))), (a38, .inl (cI, (8, .inl (fun _ => 0)))), (a46, .inl (cI, (8, .inl (fun _ => 0)))), (a54, .inl (cI, (8, .inl (fun _ => 0)))), (a62, .inl (cI, (6, .inl (fun _ => 0))))] : va_W) := hD
  refine lv_aload_n hx hb dX2_init_67 rfl (lv_at hl 0 rfl) ?_
  refine lv_iconst (v := 0) hx hb dX2_init_68 (by decide) ?_
  refine va_put (C := RX2) (T := TX2) (N := 13) (own := RX2) (v := .int (0 : Int32)) (D := D) (ty := tyX2 8) hx hb ht inlX2 tyX2 tyX2_ok nmX2 hown hK hP hD hS 0 rfl rfl 8 (Nat.le_of_ble_eq_true rfl) (ht _ mw_3_7) (fun _ h9 => h9) rfl (tyX2_ok 8 (Nat.le_of_ble_eq_true rfl)) rfl rfl (Nat.le_of_ble_eq_true rfl) dX2_init_69 (fun H locs hP hD hS => ?_)
  have hP : va_P D vwCl ([(o, .inr (2, [.ref a6, .ref a14, .ref a22, .ref a30, .ref a38, .ref a46, .ref a54, .ref a62, .int (0 : Int32), .int 0, .int 0, .int 0, .int 0])), (a6, .inl (cI, (4, .inl (fun _ => 0)))), (a14, .inl (cI, (6, .inl (fun _ => 0)))), (a22, .inl (cI, (6, .inl (fun _ => 0)))), (a30, .inl (cI, (8, .inl (fun _ => 0)))), (a38, .inl (cI, (8, .inl (fun _ => 0)))), (a46, .inl (cI, (8, .inl (fun _ => 0)))), (a54, .inl (cI, (8, .inl (fun _ => 0)))), (a62, .inl (cI, (6, .inl (fun _ => 0))))] : va_W) H := hP
  have hD : va_D A9 ([(o, .inr (2, [.ref a6, .ref a14, .ref a22, .ref a30, .ref a38, .ref a46, .ref a54, .ref a62, .int (0 : Int32), .int 0, .int 0, .int 0, .int 0])), (a6, .inl (cI, (4, .inl (fun _ => 0)))), (a14, .inl (cI, (6, .inl (fun _ => 0)))), (a22, .inl (cI, (6, .inl (fun _ => 0)))), (a30, .inl (cI, (8, .inl (fun _ => 0)))), (a38, .inl (cI, (8, .inl (fun _ => 0)))), (a46, .inl (cI, (8, .inl (fun _ => 0)))), (a54, .inl (cI, (8, .inl (fun _ => 0)))), (a62, .inl (cI, (6, .inl (fun _ => 0))))] : va_W) := hD
  refine lv_aload_n hx hb dX2_init_72 rfl (lv_at hl 0 rfl) ?_
  refine lv_iconst (v := 0) hx hb dX2_init_73 (by decide) ?_
  refine va_put (C := RX2) (T := TX2) (N := 13) (own := RX2) (v := .int (0 : Int32)) (D := D) (ty := tyX2 9) hx hb ht inlX2 tyX2 tyX2_ok nmX2 hown hK hP hD hS 0 rfl rfl 9 (Nat.le_of_ble_eq_true rfl) (ht _ mw_3_8) (fun _ h9 => h9) rfl (tyX2_ok 9 (Nat.le_of_ble_eq_true rfl)) rfl rfl (Nat.le_of_ble_eq_true rfl) dX2_init_74 (fun H locs hP hD hS => ?_)
  have hP : va_P D vwCl ([(o, .inr (2, [.ref a6, .ref a14, .ref a22, .ref a30, .ref a38, .ref a46, .ref a54, .ref a62, .int (0 : Int32), .int (0 : Int32), .int 0, .int 0, .int 0])), (a6, .inl (cI, (4, .inl (fun _ => 0)))), (a14, .inl (cI, (6, .inl (fun _ => 0)))), (a22, .inl (cI, (6, .inl (fun _ => 0)))), (a30, .inl (cI, (8, .inl (fun _ => 0)))), (a38, .inl (cI, (8, .inl (fun _ => 0)))), (a46, .inl (cI, (8, .inl (fun _ => 0)))), (a54, .inl (cI, (8, .inl (fun _ => 0)))), (a62, .inl (cI, (6, .inl (fun _ => 0))))] : va_W) H := hP
  have hD : va_D A9 ([(o, .inr (2, [.ref a6, .ref a14, .ref a22, .ref a30, .ref a38, .ref a46, .ref a54, .ref a62, .int (0 : Int32), .int (0 : Int32), .int 0, .int 0, .int 0])), (a6, .inl (cI, (4, .inl (fun _ => 0)))), (a14, .inl (cI, (6, .inl (fun _ => 0)))), (a22, .inl (cI, (6, .inl (fun _ => 0)))), (a30, .inl (cI, (8, .inl (fun _ => 0)))), (a38, .inl (cI, (8, .inl (fun _ => 0)))), (a46, .inl (cI, (8, .inl (fun _ => 0)))), (a54, .inl (cI, (8, .inl (fun _ => 0)))), (a62, .inl (cI, (6, .inl (fun _ => 0))))] : va_W) := hD
  refine lv_aload_n hx hb dX2_init_77 rfl (lv_at hl 0 rfl) ?_
  refine lv_iconst (v := 0) hx hb dX2_init_78 (by decide) ?_
  refine va_put (C := RX2) (T := TX2) (N := 13) (own := RX2) (v := .int (0 : Int32)) (D := D) (ty := tyX2 10) hx hb ht inlX2 tyX2 tyX2_ok nmX2 hown hK hP hD hS 0 rfl rfl 10 (Nat.le_of_ble_eq_true rfl) (ht _ mw_3_9) (fun _ h9 => h9) rfl (tyX2_ok 10 (Nat.le_of_ble_eq_true rfl)) rfl rfl (Nat.le_of_ble_eq_true rfl) dX2_init_79 (fun H locs hP hD hS => ?_)
  have hP : va_P D vwCl ([(o, .inr (2, [.ref a6, .ref a14, .ref a22, .ref a30, .ref a38, .ref a46, .ref a54, .ref a62, .int (0 : Int32), .int (0 : Int32), .int (0 : Int32), .int 0, .int 0])), (a6, .inl (cI, (4, .inl (fun _ => 0)))), (a14, .inl (cI, (6, .inl (fun _ => 0)))), (a22, .inl (cI, (6, .inl (fun _ => 0)))), (a30, .inl (cI, (8, .inl (fun _ => 0)))), (a38, .inl (cI, (8, .inl (fun _ => 0)))), (a46, .inl (cI, (8, .inl (fun _ => 0)))), (a54, .inl (cI, (8, .inl (fun _ => 0)))), (a62, .inl (cI, (6, .inl (fun _ => 0))))] : va_W) H := hP
  have hD : va_D A9 ([(o, .inr (2, [.ref a6, .ref a14, .ref a22, .ref a30, .ref a38, .ref a46, .ref a54, .ref a62, .int (0 : Int32), .int (0 : Int32), .int (0 : Int32), .int 0, .int 0])), (a6, .inl (cI, (4, .inl (fun _ => 0)))), (a14, .inl (cI, (6, .inl (fun _ => 0)))), (a22, .inl (cI, (6, .inl (fun _ => 0)))), (a30, .inl (cI, (8, .inl (fun _ => 0)))), (a38, .inl (cI, (8, .inl (fun _ => 0)))), (a46, .inl (cI, (8, .inl (fun _ => 0)))), (a54, .inl (cI, (8, .inl (fun _ => 0)))), (a62, .inl (cI, (6, .inl (fun _ => 0))))] : va_W) := hD
  refine lv_aload_n hx hb dX2_init_82 rfl (lv_at hl 0 rfl) ?_
  refine lv_iconst (v := 0) hx hb dX2_init_83 (by decide) ?_
  refine va_put (C := RX2) (T := TX2) (N := 13) (own := RX2) (v := .int (0 : Int32)) (D := D) (ty := tyX2 11) hx hb ht inlX2 tyX2 tyX2_ok nmX2 hown hK hP hD hS 0 rfl rfl 11 (Nat.le_of_ble_eq_true rfl) (ht _ mw_3_10) (fun _ h9 => h9) rfl (tyX2_ok 11 (Nat.le_of_ble_eq_true rfl)) rfl rfl (Nat.le_of_ble_eq_true rfl) dX2_init_84 (fun H locs hP hD hS => ?_)
  have hP : va_P D vwCl ([(o, .inr (2, [.ref a6, .ref a14, .ref a22, .ref a30, .ref a38, .ref a46, .ref a54, .ref a62, .int (0 : Int32), .int (0 : Int32), .int (0 : Int32), .int (0 : Int32), .int 0])), (a6, .inl (cI, (4, .inl (fun _ => 0)))), (a14, .inl (cI, (6, .inl (fun _ => 0)))), (a22, .inl (cI, (6, .inl (fun _ => 0)))), (a30, .inl (cI, (8, .inl (fun _ => 0)))), (a38, .inl (cI, (8, .inl (fun _ => 0)))), (a46, .inl (cI, (8, .inl (fun _ => 0)))), (a54, .inl (cI, (8, .inl (fun _ => 0)))), (a62, .inl (cI, (6, .inl (fun _ => 0))))] : va_W) H := hP
  have hD : va_D A9 ([(o, .inr (2, [.ref a6, .ref a14, .ref a22, .ref a30, .ref a38, .ref a46, .ref a54, .ref a62, .int (0 : Int32), .int (0 : Int32), .int (0 : Int32), .int (0 : Int32), .int 0])), (a6, .inl (cI, (4, .inl (fun _ => 0)))), (a14, .inl (cI, (6, .inl (fun _ => 0)))), (a22, .inl (cI, (6, .inl (fun _ => 0)))), (a30, .inl (cI, (8, .inl (fun _ => 0)))), (a38, .inl (cI, (8, .inl (fun _ => 0)))), (a46, .inl (cI, (8, .inl (fun _ => 0)))), (a54, .inl (cI, (8, .inl (fun _ => 0)))), (a62, .inl (cI, (6, .inl (fun _ => 0))))] : va_W) := hD
  refine lv_aload_n hx hb dX2_init_87 rfl (lv_at hl 0 rfl) ?_
  refine lv_iconst (v := 1) hx hb dX2_init_88 (by decide) ?_
  refine va_put (C := RX2) (T := TX2) (N := 13) (own := RX2) (v := .int (1 : Int32)) (D := D) (ty := tyX2 12) hx hb ht inlX2 tyX2 tyX2_ok nmX2 hown hK hP hD hS 0 rfl rfl 12 (Nat.le_of_ble_eq_true rfl) (ht _ mw_3_11) (fun _ h9 => h9) rfl (tyX2_ok 12 (Nat.le_of_ble_eq_true rfl)) rfl rfl (Nat.le_of_ble_eq_true rfl) dX2_init_89 (fun H locs hP hD hS => ?_)
  have hP : va_P D vwCl ([(o, .inr (2, [.ref a6, .ref a14, .ref a22, .ref a30, .ref a38, .ref a46, .ref a54, .ref a62, .int (0 : Int32), .int (0 : Int32), .int (0 : Int32), .int (0 : Int32), .int (1 : Int32)])), (a6, .inl (cI, (4, .inl (fun _ => 0)))), (a14, .inl (cI, (6, .inl (fun _ => 0)))), (a22, .inl (cI, (6, .inl (fun _ => 0)))), (a30, .inl (cI, (8, .inl (fun _ => 0)))), (a38, .inl (cI, (8, .inl (fun _ => 0)))), (a46, .inl (cI, (8, .inl (fun _ => 0)))), (a54, .inl (cI, (8, .inl (fun _ => 0)))), (a62, .inl (cI, (6, .inl (fun _ => 0))))] : va_W) H := hP
  have hD : va_D A9 ([(o, .inr (2, [.ref a6, .ref a14, .ref a22, .ref a30, .ref a38, .ref a46, .ref a54, .ref a62, .int (0 : Int32), .int (0 : Int32), .int (0 : Int32), .int (0 : Int32), .int (1 : Int32)])), (a6, .inl (cI, (4, .inl (fun _ => 0)))), (a14, .inl (cI, (6, .inl (fun _ => 0)))), (a22, .inl (cI, (6, .inl (fun _ => 0)))), (a30, .inl (cI, (8, .inl (fun _ => 0)))), (a38, .inl (cI, (8, .inl (fun _ => 0)))), (a46, .inl (cI, (8, .inl (fun _ => 0)))), (a54, .inl (cI, (8, .inl (fun _ => 0)))), (a62, .inl (cI, (6, .inl (fun _ => 0))))] : va_W) := hD
  refine lv_aload_n hx hb dX2_init_92 rfl (lv_at hl 0 rfl) ?_
  have hP : va_P D vwCl (wX2 cI cZ o (fun k => [a6, a14, a22, a30, a38, a46, a54, a62, 0, 0, 0, 0, 0].getD k 0) (upd (fun _ => 0) 12 (1 : Int32)) (fun _ _ => 0) : va_W) H := hP
  have hD : va_D A9 (wX2 cI cZ o (fun k => [a6, a14, a22, a30, a38, a46, a54, a62, 0, 0, 0, 0, 0].getD k 0) (upd (fun _ => 0) 12 (1 : Int32)) (fun _ _ => 0) : va_W) := hD
  refine W.widen (k := 8) (n := 54) (Nat.le_of_ble_eq_true rfl) (Nat.le_of_ble_eq_true rfl) ?_
  refine C_vv (wr := []) X hP hD hS [] [] (w_X2_startOver l D cI cZ cR adK adV _ o (fun k => [a6, a14, a22, a30, a38, a46, a54, a62, 0, 0, 0, 0, 0].getD k 0) (upd (fun _ => 0) 12 (1 : Int32)) (fun _ _ => 0) _ h) cal_X2_startOver mw_3_12 rfl [0, 1, 2, 3, 4, 5, 6, 7, 8] [] [0, 1, 2, 3, 4, 5, 6, 7, 8] (fun u => (wX2 cI cZ o (fun k => [a6, a14, a22, a30, a38, a46, a54, a62, 0, 0, 0, 0, 0].getD k 0) u.1 u.2 : va_W)) rfl rfl (fun _ => rfl) rfl 0 rfl rfl ⟨rfl, rfl⟩ ⟨Nat.le_of_ble_eq_true rfl, Nat.le_of_ble_eq_true rfl⟩ hl.1 rfl (Nat.le_of_ble_eq_true rfl) ⟨Nat.le_of_ble_eq_true rfl, Nat.le_of_ble_eq_true rfl⟩ dX2_init_93 (fun u H locs h hP hD hS => ?_)
  obtain ⟨F1, A1⟩ := u
  try dsimp only at h
  have hP : va_P D vwCl (wX2 cI cZ o (fun k => [a6, a14, a22, a30, a38, a46, a54, a62, 0, 0, 0, 0, 0].getD k 0) F1 A1 : va_W) H := hP
  have hD : va_D A9 (wX2 cI cZ o (fun k => [a6, a14, a22, a30, a38, a46, a54, a62, 0, 0, 0, 0, 0].getD k 0) F1 A1 : va_W) := hD
  exact ret ((fun k => [a6, a14, a22, a30, a38, a46, a54, a62, 0, 0, 0, 0, 0].getD k 0), F1, A1) _ _ _ _ dX2_init_96 h hP hD hS
theorem dX3_init_0 : decode cX3_init 0 = .ok (.aload_n 0, 1) := by decide +kernel
theorem dX3_init_1 : decode cX3_init 1 = .ok (.invokespecial 3, 3) := by decide +kernel
theorem dX3_init_4 : decode cX3_init 4 = .ok (.aload_n 0, 1) := by decide +kernel
theorem dX3_init_5 : decode cX3_init 5 = .ok (.sipush 200, 3) := by decide +kernel
theorem dX3_init_8 : decode cX3_init 8 = .ok (.newarray .int, 2) := by decide +kernel
theorem dX3_init_10 : decode cX3_init 10 = .ok (.putfield 9, 3) := by decide +kernel
theorem dX3_init_13 : decode cX3_init 13 = .ok (.aload_n 0, 1) := by decide +kernel
theorem dX3_init_14 : decode cX3_init 14 = .ok (.iconst 0, 1) := by decide +kernel
theorem dX3_init_15 : decode cX3_init 15 = .ok (.putfield 15, 3) := by decide +kernel
theorem dX3_init_18 : decode cX3_init 18 = .ok (.aload_n 0, 1) := by decide +kernel
theorem dX3_init_19 : decode cX3_init 19 = .ok (.iconst 0, 1) := by decide +kernel
theorem dX3_init_20 : decode cX3_init 20 = .ok (.putfield 19, 3) := by decide +kernel
theorem dX3_init_23 : decode cX3_init 23 = .ok (.aload_n 0, 1) := by decide +kernel
theorem dX3_init_24 : decode cX3_init 24 = .ok (.iconst (-1), 1) := by decide +kernel
theorem dX3_init_25 : decode cX3_init 25 = .ok (.putfield 22, 3) := by decide +kernel
theorem dX3_init_28 : decode cX3_init 28 = .ok (.return_, 1) := by decide +kernel
theorem cal_X3_init : CalI yX3_init cX3_init 1 0 := ⟨mw_3_18, mw_1_22, mw_3_17, rfl, ⟨by decide +kernel, by decide +kernel, by decide +kernel⟩⟩
def p_X3_init (K : tF → tA → Prop) : Prop := K (upd (fun _ => 0) 3 (-1 : Int32)) (fun _ _ => 0)
set_option maxHeartbeats 4000000 in
set_option maxRecDepth 100000 in
theorem w_X3_init (l : Launch) (D : va_G) (cI cZ cR : ClassId) (adK adV : Nat → Nat) (sz : Nat) (o : Nat) (K : tF → tA → Prop) (h : p_X3_init K) : MVc l D cI cZ cR adK adV yX3_init cX3_init 1 ({ frames := 1, cells := 1, slots := 200, locals := 12 }) [.ref o] ([(o, .inr (3, [.null, .int 0, .int 0, .int 0]))] : va_W) sz 1 200 (fun (u : (Nat → Nat) × tF × tA) => K u.2.1 u.2.2) (fun (u : (Nat → Nat) × tF × tA) => (wX3 cI cZ o u.1 u.2.1 u.2.2 : va_W)) := by
  refine M_vc (by decide +kernel) (Nat.le_of_ble_eq_true rfl) rfl ?_
  intro p e s m args below meth c Q A9 ls X hin ret hP hD hS hl
  obtain ⟨hx, hb, hml, ht, hown, hK, hA, hE⟩ := id X
  have hl : lv_has ls 1 [(0, .ref o)] := hl
  unfold p_X3_init at h
  refine lv_aload_n hx hb dX3_init_0 rfl (lv_at hl 0 rfl) ?_
  refine W.objInit hx hb hown (ht _ mw_3_19) (ht _ mw_1_11) (ht _ mw_1_12) rfl (by rw [hml]; exact hl.1) rfl dX3_init_1 (Nat.le_of_ble_eq_true rfl) (Nat.le_of_ble_eq_true rfl) ?_
  refine W.eq (g2 := F0 m 4 ls []) rfl ?_
  refine lv_aload_n hx hb dX3_init_4 rfl (lv_at hl 0 rfl) ?_
  refine lv_sipush (v := 200) hx hb dX3_init_5 (by decide) ?_
  refine g_newI (N' := 200) hx hb (ht _ mw_2_12) hK hP hD hS hA (by decide) (by decide) (Nat.le_of_ble_eq_true rfl) (Nat.le_of_ble_eq_true rfl) (Nat.le_of_ble_eq_true rfl) dX3_init_8 (fun a8 H hP hD hS => ?_)
  have hP : va_P D vwCl ([(o, .inr (3, [.null, .int 0, .int 0, .int 0])), (a8, .inl (cI, (200, .inl (fun _ => 0))))] : va_W) H := hP
  have hD : va_D A9 ([(o, .inr (3, [.null, .int 0, .int 0, .int 0])), (a8, .inl (cI, (200, .inl (fun _ => 0))))] : va_W) := hD
  refine va_putF (C := RX3) (T := TX3) (N := 4) (own := RX3) (v := .ref a8) (D := D) (ty := tyX3 0) hx hb ht inlX3 tyX3 tyX3_ok nmX3 hown hK hP hD hS 0 rfl rfl 0 (Nat.le_of_ble_eq_true rfl) (ht _ mw_3_20) (fun _ h9 => h9) rfl hin rfl (tyX3_ok 0 (Nat.le_of_ble_eq_true rfl)) rfl rfl (Nat.le_of_ble_eq_true rfl) dX3_init_10 (fun H locs hP hD hS => ?_)
  have hP : va_P D vwCl ([(o, .inr (3, [.ref a8, .int 0, .int 0, .int 0])), (a8, .inl (cI, (200, .inl (fun _ => 0))))] : va_W) H := hP
  have hD : va_D A9 ([(o, .inr (3, [.ref a8, .int 0, .int 0, .int 0])), (a8, .inl (cI, (200, .inl (fun _ => 0))))] : va_W) := hD
  refine lv_aload_n hx hb dX3_init_13 rfl (lv_at hl 0 rfl) ?_
  refine lv_iconst (v := 0) hx hb dX3_init_14 (by decide) ?_
  refine va_put (C := RX3) (T := TX3) (N := 4) (own := RX3) (v := .int (0 : Int32)) (D := D) (ty := tyX3 1) hx hb ht inlX3 tyX3 tyX3_ok nmX3 hown hK hP hD hS 0 rfl rfl 1 (Nat.le_of_ble_eq_true rfl) (ht _ mw_3_21) (fun _ h9 => h9) rfl (tyX3_ok 1 (Nat.le_of_ble_eq_true rfl)) rfl rfl (Nat.le_of_ble_eq_true rfl) dX3_init_15 (fun H locs hP hD hS => ?_)
  have hP : va_P D vwCl ([(o, .inr (3, [.ref a8, .int (0 : Int32), .int 0, .int 0])), (a8, .inl (cI, (200, .inl (fun _ => 0))))] : va_W) H := hP
  have hD : va_D A9 ([(o, .inr (3, [.ref a8, .int (0 : Int32), .int 0, .int 0])), (a8, .inl (cI, (200, .inl (fun _ => 0))))] : va_W) := hD
  refine lv_aload_n hx hb dX3_init_18 rfl (lv_at hl 0 rfl) ?_
  refine lv_iconst (v := 0) hx hb dX3_init_19 (by decide) ?_
  refine va_put (C := RX3) (T := TX3) (N := 4) (own := RX3) (v := .int (0 : Int32)) (D := D) (ty := tyX3 2) hx hb ht inlX3 tyX3 tyX3_ok nmX3 hown hK hP hD hS 0 rfl rfl 2 (Nat.le_of_ble_eq_true rfl) (ht _ mw_3_22) (fun _ h9 => h9) rfl (tyX3_ok 2 (Nat.le_of_ble_eq_true rfl)) rfl rfl (Nat.le_of_ble_eq_true rfl) dX3_init_20 (fun H locs hP hD hS => ?_)
  have hP : va_P D vwCl ([(o, .inr (3, [.ref a8, .int (0 : Int32), .int (0 : Int32), .int 0])), (a8, .inl (cI, (200, .inl (fun _ => 0))))] : va_W) H := hP
  have hD : va_D A9 ([(o, .inr (3, [.ref a8, .int (0 : Int32), .int (0 : Int32), .int 0])), (a8, .inl (cI, (200, .inl (fun _ => 0))))] : va_W) := hD
  refine lv_aload_n hx hb dX3_init_23 rfl (lv_at hl 0 rfl) ?_
  refine lv_iconst (v := -1) hx hb dX3_init_24 (by decide) ?_
  refine va_put (C := RX3) (T := TX3) (N := 4) (own := RX3) (v := .int (-1 : Int32)) (D := D) (ty := tyX3 3) hx hb ht inlX3 tyX3 tyX3_ok nmX3 hown hK hP hD hS 0 rfl rfl 3 (Nat.le_of_ble_eq_true rfl) (ht _ mw_3_23) (fun _ h9 => h9) rfl (tyX3_ok 3 (Nat.le_of_ble_eq_true rfl)) rfl rfl (Nat.le_of_ble_eq_true rfl) dX3_init_25 (fun H locs hP hD hS => ?_)
  have hP : va_P D vwCl ([(o, .inr (3, [.ref a8, .int (0 : Int32), .int (0 : Int32), .int (-1 : Int32)])), (a8, .inl (cI, (200, .inl (fun _ => 0))))] : va_W) H := hP
  have hD : va_D A9 ([(o, .inr (3, [.ref a8, .int (0 : Int32), .int (0 : Int32), .int (-1 : Int32)])), (a8, .inl (cI, (200, .inl (fun _ => 0))))] : va_W) := hD
  have hP : va_P D vwCl (wX3 cI cZ o (fun k => [a8, 0, 0, 0].getD k 0) (upd (fun _ => 0) 3 (-1 : Int32)) (fun _ _ => 0) : va_W) H := hP
  have hD : va_D A9 (wX3 cI cZ o (fun k => [a8, 0, 0, 0].getD k 0) (upd (fun _ => 0) 3 (-1 : Int32)) (fun _ _ => 0) : va_W) := hD
  refine W.widen (k := 1) (n := 200) (Nat.le_of_ble_eq_true rfl) (Nat.le_of_ble_eq_true rfl) ?_
  exact ret ((fun k => [a8, 0, 0, 0].getD k 0), (upd (fun _ => 0) 3 (-1 : Int32)), (fun _ _ => 0)) _ _ _ _ dX3_init_28 h hP hD hS
theorem dX4_init_0 : decode cX4_init 0 = .ok (.aload_n 0, 1) := by decide +kernel
theorem dX4_init_1 : decode cX4_init 1 = .ok (.invokespecial 3, 3) := by decide +kernel
theorem dX4_init_4 : decode cX4_init 4 = .ok (.aload_n 0, 1) := by decide +kernel
theorem dX4_init_5 : decode cX4_init 5 = .ok (.bipush 30, 2) := by decide +kernel
theorem dX4_init_7 : decode cX4_init 7 = .ok (.newarray .int, 2) := by decide +kernel
theorem dX4_init_9 : decode cX4_init 9 = .ok (.putfield 11, 3) := by decide +kernel
theorem dX4_init_12 : decode cX4_init 12 = .ok (.aload_n 0, 1) := by decide +kernel
theorem dX4_init_13 : decode cX4_init 13 = .ok (.iconst 0, 1) := by decide +kernel
theorem dX4_init_14 : decode cX4_init 14 = .ok (.putfield 15, 3) := by decide +kernel
theorem dX4_init_17 : decode cX4_init 17 = .ok (.aload_n 0, 1) := by decide +kernel
theorem dX4_init_18 : decode cX4_init 18 = .ok (.iconst 0, 1) := by decide +kernel
theorem dX4_init_19 : decode cX4_init 19 = .ok (.putfield 19, 3) := by decide +kernel
theorem dX4_init_22 : decode cX4_init 22 = .ok (.aload_n 0, 1) := by decide +kernel
theorem dX4_init_23 : decode cX4_init 23 = .ok (.iconst 0, 1) := by decide +kernel
theorem dX4_init_24 : decode cX4_init 24 = .ok (.putfield 23, 3) := by decide +kernel
theorem dX4_init_27 : decode cX4_init 27 = .ok (.aload_n 0, 1) := by decide +kernel
theorem dX4_init_28 : decode cX4_init 28 = .ok (.iconst 0, 1) := by decide +kernel
theorem dX4_init_29 : decode cX4_init 29 = .ok (.putfield 26, 3) := by decide +kernel
theorem dX4_init_32 : decode cX4_init 32 = .ok (.aload_n 0, 1) := by decide +kernel
theorem dX4_init_33 : decode cX4_init 33 = .ok (.iconst 0, 1) := by decide +kernel
theorem dX4_init_34 : decode cX4_init 34 = .ok (.putfield 29, 3) := by decide +kernel
theorem dX4_init_37 : decode cX4_init 37 = .ok (.return_, 1) := by decide +kernel
theorem cal_X4_init : CalI yX4_init cX4_init 1 0 := ⟨mw_4_19, mw_2_10, mw_4_18, rfl, ⟨by decide +kernel, by decide +kernel, by decide +kernel⟩⟩
def p_X4_init (K : tF → tA → Prop) : Prop := K (fun _ => 0) (fun _ _ => 0)
set_option maxHeartbeats 4000000 in
set_option maxRecDepth 100000 in
theorem w_X4_init (l : Launch) (D : va_G) (cI cZ cR : ClassId) (adK adV : Nat → Nat) (sz : Nat) (o : Nat) (K : tF → tA → Prop) (h : p_X4_init K) : MVc l D cI cZ cR adK adV yX4_init cX4_init 1 ({ frames := 1, cells := 1, slots := 30, locals := 12 }) [.ref o] ([(o, .inr (4, [.null, .int 0, .int 0, .int 0, .int 0, .int 0]))] : va_W) sz 1 30 (fun (u : (Nat → Nat) × tF × tA) => K u.2.1 u.2.2) (fun (u : (Nat → Nat) × tF × tA) => (wX4 cI cZ o u.1 u.2.1 u.2.2 : va_W)) := by
  refine M_vc (by decide +kernel) (Nat.le_of_ble_eq_true rfl) rfl ?_
  intro p e s m args below meth c Q A9 ls X hin ret hP hD hS hl
  obtain ⟨hx, hb, hml, ht, hown, hK, hA, hE⟩ := id X
  have hl : lv_has ls 1 [(0, .ref o)] := hl
  unfold p_X4_init at h
  refine lv_aload_n hx hb dX4_init_0 rfl (lv_at hl 0 rfl) ?_
  refine W.objInit hx hb hown (ht _ mw_4_20) (ht _ mw_1_11) (ht _ mw_1_12) rfl (by rw [hml]; exact hl.1) rfl dX4_init_1 (Nat.le_of_ble_eq_true rfl) (Nat.le_of_ble_eq_true rfl) ?_
  refine W.eq (g2 := F0 m 4 ls []) rfl ?_
  refine lv_aload_n hx hb dX4_init_4 rfl (lv_at hl 0 rfl) ?_
  refine lv_bipush (v := 30) hx hb dX4_init_5 (by decide) ?_
  refine g_newI (N' := 30) hx hb (ht _ mw_2_12) hK hP hD hS hA (by decide) (by decide) (Nat.le_of_ble_eq_true rfl) (Nat.le_of_ble_eq_true rfl) (Nat.le_of_ble_eq_true rfl) dX4_init_7 (fun a7 H hP hD hS => ?_)
  have hP : va_P D vwCl ([(o, .inr (4, [.null, .int 0, .int 0, .int 0, .int 0, .int 0])), (a7, .inl (cI, (30, .inl (fun _ => 0))))] : va_W) H := hP
  have hD : va_D A9 ([(o, .inr (4, [.null, .int 0, .int 0, .int 0, .int 0, .int 0])), (a7, .inl (cI, (30, .inl (fun _ => 0))))] : va_W) := hD
  refine va_putF (C := RX4) (T := TX4) (N := 6) (own := RX4) (v := .ref a7) (D := D) (ty := tyX4 0) hx hb ht inlX4 tyX4 tyX4_ok nmX4 hown hK hP hD hS 0 rfl rfl 0 (Nat.le_of_ble_eq_true rfl) (ht _ mw_4_21) (fun _ h9 => h9) rfl hin rfl (tyX4_ok 0 (Nat.le_of_ble_eq_true rfl)) rfl rfl (Nat.le_of_ble_eq_true rfl) dX4_init_9 (fun H locs hP hD hS => ?_)
  have hP : va_P D vwCl ([(o, .inr (4, [.ref a7, .int 0, .int 0, .int 0, .int 0, .int 0])), (a7, .inl (cI, (30, .inl (fun _ => 0))))] : va_W) H := hP
  have hD : va_D A9 ([(o, .inr (4, [.ref a7, .int 0, .int 0, .int 0, .int 0, .int 0])), (a7, .inl (cI, (30, .inl (fun _ => 0))))] : va_W) := hD
  refine lv_aload_n hx hb dX4_init_12 rfl (lv_at hl 0 rfl) ?_
  refine lv_iconst (v := 0) hx hb dX4_init_13 (by decide) ?_
  refine va_put (C := RX4) (T := TX4) (N := 6) (own := RX4) (v := .int (0 : Int32)) (D := D) (ty := tyX4 1) hx hb ht inlX4 tyX4 tyX4_ok nmX4 hown hK hP hD hS 0 rfl rfl 1 (Nat.le_of_ble_eq_true rfl) (ht _ mw_4_22) (fun _ h9 => h9) rfl (tyX4_ok 1 (Nat.le_of_ble_eq_true rfl)) rfl rfl (Nat.le_of_ble_eq_true rfl) dX4_init_14 (fun H locs hP hD hS => ?_)
  have hP : va_P D vwCl ([(o, .inr (4, [.ref a7, .int (0 : Int32), .int 0, .int 0, .int 0, .int 0])), (a7, .inl (cI, (30, .inl (fun _ => 0))))] : va_W) H := hP
  have hD : va_D A9 ([(o, .inr (4, [.ref a7, .int (0 : Int32), .int 0, .int 0, .int 0, .int 0])), (a7, .inl (cI, (30, .inl (fun _ => 0))))] : va_W) := hD
  refine lv_aload_n hx hb dX4_init_17 rfl (lv_at hl 0 rfl) ?_
  refine lv_iconst (v := 0) hx hb dX4_init_18 (by decide) ?_
  refine va_put (C := RX4) (T := TX4) (N := 6) (own := RX4) (v := .int (0 : Int32)) (D := D) (ty := tyX4 2) hx hb ht inlX4 tyX4 tyX4_ok nmX4 hown hK hP hD hS 0 rfl rfl 2 (Nat.le_of_ble_eq_true rfl) (ht _ mw_4_23) (fun _ h9 => h9) rfl (tyX4_ok 2 (Nat.le_of_ble_eq_true rfl)) rfl rfl (Nat.le_of_ble_eq_true rfl) dX4_init_19 (fun H locs hP hD hS => ?_)
  have hP : va_P D vwCl ([(o, .inr (4, [.ref a7, .int (0 : Int32), .int (0 : Int32), .int 0, .int 0, .int 0])), (a7, .inl (cI, (30, .inl (fun _ => 0))))] : va_W) H := hP
  have hD : va_D A9 ([(o, .inr (4, [.ref a7, .int (0 : Int32), .int (0 : Int32), .int 0, .int 0, .int 0])), (a7, .inl (cI, (30, .inl (fun _ => 0))))] : va_W) := hD
  refine lv_aload_n hx hb dX4_init_22 rfl (lv_at hl 0 rfl) ?_
  refine lv_iconst (v := 0) hx hb dX4_init_23 (by decide) ?_
  refine va_put (C := RX4) (T := TX4) (N := 6) (own := RX4) (v := .int (0 : Int32)) (D := D) (ty := tyX4 3) hx hb ht inlX4 tyX4 tyX4_ok nmX4 hown hK hP hD hS 0 rfl rfl 3 (Nat.le_of_ble_eq_true rfl) (ht _ mw_5_0) (fun _ h9 => h9) rfl (tyX4_ok 3 (Nat.le_of_ble_eq_true rfl)) rfl rfl (Nat.le_of_ble_eq_true rfl) dX4_init_24 (fun H locs hP hD hS => ?_)
  have hP : va_P D vwCl ([(o, .inr (4, [.ref a7, .int (0 : Int32), .int (0 : Int32), .int (0 : Int32), .int 0, .int 0])), (a7, .inl (cI, (30, .inl (fun _ => 0))))] : va_W) H := hP
  have hD : va_D A9 ([(o, .inr (4, [.ref a7, .int (0 : Int32), .int (0 : Int32), .int (0 : Int32), .int 0, .int 0])), (a7, .inl (cI, (30, .inl (fun _ => 0))))] : va_W) := hD
  refine lv_aload_n hx hb dX4_init_27 rfl (lv_at hl 0 rfl) ?_
  refine lv_iconst (v := 0) hx hb dX4_init_28 (by decide) ?_
  refine va_put (C := RX4) (T := TX4) (N := 6) (own := RX4) (v := .int (0 : Int32)) (D := D) (ty := tyX4 4) hx hb ht inlX4 tyX4 tyX4_ok nmX4 hown hK hP hD hS 0 rfl rfl 4 (Nat.le_of_ble_eq_true rfl) (ht _ mw_5_1) (fun _ h9 => h9) rfl (tyX4_ok 4 (Nat.le_of_ble_eq_true rfl)) rfl rfl (Nat.le_of_ble_eq_true rfl) dX4_init_29 (fun H locs hP hD hS => ?_)
  have hP : va_P D vwCl ([(o, .inr (4, [.ref a7, .int (0 : Int32), .int (0 : Int32), .int (0 : Int32), .int (0 : Int32), .int 0])), (a7, .inl (cI, (30, .inl (fun _ => 0))))] : va_W) H := hP
  have hD : va_D A9 ([(o, .inr (4, [.ref a7, .int (0 : Int32), .int (0 : Int32), .int (0 : Int32), .int (0 : Int32), .int 0])), (a7, .inl (cI, (30, .inl (fun _ => 0))))] : va_W) := hD
  refine lv_aload_n hx hb dX4_init_32 rfl (lv_at hl 0 rfl) ?_
  refine lv_iconst (v := 0) hx hb dX4_init_33 (by decide) ?_
  refine va_put (C := RX4) (T := TX4) (N := 6) (own := RX4) (v := .int (0 : Int32)) (D := D) (ty := tyX4 5) hx hb ht inlX4 tyX4 tyX4_ok nmX4 hown hK hP hD hS 0 rfl rfl 5 (Nat.le_of_ble_eq_true rfl) (ht _ mw_5_2) (fun _ h9 => h9) rfl (tyX4_ok 5 (Nat.le_of_ble_eq_true rfl)) rfl rfl (Nat.le_of_ble_eq_true rfl) dX4_init_34 (fun H locs hP hD hS => ?_)
  have hP : va_P D vwCl ([(o, .inr (4, [.ref a7, .int (0 : Int32), .int (0 : Int32), .int (0 : Int32), .int (0 : Int32), .int (0 : Int32)])), (a7, .inl (cI, (30, .inl (fun _ => 0))))] : va_W) H := hP
  have hD : va_D A9 ([(o, .inr (4, [.ref a7, .int (0 : Int32), .int (0 : Int32), .int (0 : Int32), .int (0 : Int32), .int (0 : Int32)])), (a7, .inl (cI, (30, .inl (fun _ => 0))))] : va_W) := hD
  have hP : va_P D vwCl (wX4 cI cZ o (fun k => [a7, 0, 0, 0, 0, 0].getD k 0) (fun _ => 0) (fun _ _ => 0) : va_W) H := hP
  have hD : va_D A9 (wX4 cI cZ o (fun k => [a7, 0, 0, 0, 0, 0].getD k 0) (fun _ => 0) (fun _ _ => 0) : va_W) := hD
  refine W.widen (k := 1) (n := 30) (Nat.le_of_ble_eq_true rfl) (Nat.le_of_ble_eq_true rfl) ?_
  exact ret ((fun k => [a7, 0, 0, 0, 0, 0].getD k 0), (fun _ => 0), (fun _ _ => 0)) _ _ _ _ dX4_init_37 h hP hD hS
theorem dX7_init_0 : decode cX7_init 0 = .ok (.aload_n 0, 1) := by decide +kernel
theorem dX7_init_1 : decode cX7_init 1 = .ok (.invokespecial 1, 3) := by decide +kernel
theorem dX7_init_4 : decode cX7_init 4 = .ok (.aload_n 0, 1) := by decide +kernel
theorem dX7_init_5 : decode cX7_init 5 = .ok (.bipush 53, 2) := by decide +kernel
theorem dX7_init_7 : decode cX7_init 7 = .ok (.newarray .int, 2) := by decide +kernel
theorem dX7_init_9 : decode cX7_init 9 = .ok (.putfield 7, 3) := by decide +kernel
theorem dX7_init_12 : decode cX7_init 12 = .ok (.aload_n 0, 1) := by decide +kernel
theorem dX7_init_13 : decode cX7_init 13 = .ok (.bipush 53, 2) := by decide +kernel
theorem dX7_init_15 : decode cX7_init 15 = .ok (.newarray .int, 2) := by decide +kernel
theorem dX7_init_17 : decode cX7_init 17 = .ok (.putfield 13, 3) := by decide +kernel
theorem dX7_init_20 : decode cX7_init 20 = .ok (.aload_n 0, 1) := by decide +kernel
theorem dX7_init_21 : decode cX7_init 21 = .ok (.bipush 53, 2) := by decide +kernel
theorem dX7_init_23 : decode cX7_init 23 = .ok (.newarray .int, 2) := by decide +kernel
theorem dX7_init_25 : decode cX7_init 25 = .ok (.putfield 16, 3) := by decide +kernel
theorem dX7_init_28 : decode cX7_init 28 = .ok (.aload_n 0, 1) := by decide +kernel
theorem dX7_init_29 : decode cX7_init 29 = .ok (.bipush 53, 2) := by decide +kernel
theorem dX7_init_31 : decode cX7_init 31 = .ok (.newarray .int, 2) := by decide +kernel
theorem dX7_init_33 : decode cX7_init 33 = .ok (.putfield 19, 3) := by decide +kernel
theorem dX7_init_36 : decode cX7_init 36 = .ok (.aload_n 0, 1) := by decide +kernel
theorem dX7_init_37 : decode cX7_init 37 = .ok (.sipush 200, 3) := by decide +kernel
theorem dX7_init_40 : decode cX7_init 40 = .ok (.newarray .int, 2) := by decide +kernel
theorem dX7_init_42 : decode cX7_init 42 = .ok (.putfield 22, 3) := by decide +kernel
theorem dX7_init_45 : decode cX7_init 45 = .ok (.aload_n 0, 1) := by decide +kernel
theorem dX7_init_46 : decode cX7_init 46 = .ok (.bipush 6, 2) := by decide +kernel
theorem dX7_init_48 : decode cX7_init 48 = .ok (.newarray .int, 2) := by decide +kernel
theorem dX7_init_50 : decode cX7_init 50 = .ok (.putfield 25, 3) := by decide +kernel
theorem dX7_init_53 : decode cX7_init 53 = .ok (.aload_n 0, 1) := by decide +kernel
theorem dX7_init_54 : decode cX7_init 54 = .ok (.bipush 36, 2) := by decide +kernel
theorem dX7_init_56 : decode cX7_init 56 = .ok (.newarray .boolean, 2) := by decide +kernel
theorem dX7_init_58 : decode cX7_init 58 = .ok (.putfield 28, 3) := by decide +kernel
theorem dX7_init_61 : decode cX7_init 61 = .ok (.aload_n 0, 1) := by decide +kernel
theorem dX7_init_62 : decode cX7_init 62 = .ok (.bipush 30, 2) := by decide +kernel
theorem dX7_init_64 : decode cX7_init 64 = .ok (.newarray .int, 2) := by decide +kernel
theorem dX7_init_66 : decode cX7_init 66 = .ok (.putfield 32, 3) := by decide +kernel
theorem dX7_init_69 : decode cX7_init 69 = .ok (.aload_n 0, 1) := by decide +kernel
theorem dX7_init_70 : decode cX7_init 70 = .ok (.iconst 4, 1) := by decide +kernel
theorem dX7_init_71 : decode cX7_init 71 = .ok (.newarray .int, 2) := by decide +kernel
theorem dX7_init_73 : decode cX7_init 73 = .ok (.dup, 1) := by decide +kernel
theorem dX7_init_74 : decode cX7_init 74 = .ok (.iconst 0, 1) := by decide +kernel
theorem dX7_init_75 : decode cX7_init 75 = .ok (.iconst (-1), 1) := by decide +kernel
theorem dX7_init_76 : decode cX7_init 76 = .ok (.iastore, 1) := by decide +kernel
theorem dX7_init_77 : decode cX7_init 77 = .ok (.dup, 1) := by decide +kernel
theorem dX7_init_78 : decode cX7_init 78 = .ok (.iconst 1, 1) := by decide +kernel
theorem dX7_init_79 : decode cX7_init 79 = .ok (.iconst (-1), 1) := by decide +kernel
theorem dX7_init_80 : decode cX7_init 80 = .ok (.iastore, 1) := by decide +kernel
theorem dX7_init_81 : decode cX7_init 81 = .ok (.dup, 1) := by decide +kernel
theorem dX7_init_82 : decode cX7_init 82 = .ok (.iconst 2, 1) := by decide +kernel
theorem dX7_init_83 : decode cX7_init 83 = .ok (.iconst (-1), 1) := by decide +kernel
theorem dX7_init_84 : decode cX7_init 84 = .ok (.iastore, 1) := by decide +kernel
theorem dX7_init_85 : decode cX7_init 85 = .ok (.dup, 1) := by decide +kernel
theorem dX7_init_86 : decode cX7_init 86 = .ok (.iconst 3, 1) := by decide +kernel
theorem dX7_init_87 : decode cX7_init 87 = .ok (.iconst (-1), 1) := by decide +kernel
theorem dX7_init_88 : decode cX7_init 88 = .ok (.iastore, 1) := by decide +kernel
theorem dX7_init_89 : decode cX7_init 89 = .ok (.putfield 35, 3) := by decide +kernel
theorem dX7_init_92 : decode cX7_init 92 = .ok (.aload_n 0, 1) := by decide +kernel
theorem dX7_init_93 : decode cX7_init 93 = .ok (.iconst 4, 1) := by decide +kernel
theorem dX7_init_94 : decode cX7_init 94 = .ok (.newarray .int, 2) := by decide +kernel
theorem dX7_init_96 : decode cX7_init 96 = .ok (.putfield 38, 3) := by decide +kernel
theorem dX7_init_99 : decode cX7_init 99 = .ok (.aload_n 0, 1) := by decide +kernel
theorem dX7_init_100 : decode cX7_init 100 = .ok (.sipush 160, 3) := by decide +kernel
theorem dX7_init_103 : decode cX7_init 103 = .ok (.newarray .int, 2) := by decide +kernel
theorem dX7_init_105 : decode cX7_init 105 = .ok (.putfield 41, 3) := by decide +kernel
theorem dX7_init_108 : decode cX7_init 108 = .ok (.aload_n 0, 1) := by decide +kernel
theorem dX7_init_109 : decode cX7_init 109 = .ok (.iconst 4, 1) := by decide +kernel
theorem dX7_init_110 : decode cX7_init 110 = .ok (.newarray .int, 2) := by decide +kernel
theorem dX7_init_112 : decode cX7_init 112 = .ok (.putfield 44, 3) := by decide +kernel
theorem dX7_init_115 : decode cX7_init 115 = .ok (.aload_n 0, 1) := by decide +kernel
theorem dX7_init_116 : decode cX7_init 116 = .ok (.iconst 4, 1) := by decide +kernel
theorem dX7_init_117 : decode cX7_init 117 = .ok (.newarray .int, 2) := by decide +kernel
theorem dX7_init_119 : decode cX7_init 119 = .ok (.putfield 47, 3) := by decide +kernel
theorem dX7_init_122 : decode cX7_init 122 = .ok (.aload_n 0, 1) := by decide +kernel
theorem dX7_init_123 : decode cX7_init 123 = .ok (.iconst 4, 1) := by decide +kernel
theorem dX7_init_124 : decode cX7_init 124 = .ok (.newarray .int, 2) := by decide +kernel
theorem dX7_init_126 : decode cX7_init 126 = .ok (.putfield 50, 3) := by decide +kernel
theorem dX7_init_129 : decode cX7_init 129 = .ok (.aload_n 0, 1) := by decide +kernel
theorem dX7_init_130 : decode cX7_init 130 = .ok (.bipush 30, 2) := by decide +kernel
theorem dX7_init_132 : decode cX7_init 132 = .ok (.newarray .int, 2) := by decide +kernel
theorem dX7_init_134 : decode cX7_init 134 = .ok (.putfield 53, 3) := by decide +kernel
theorem dX7_init_137 : decode cX7_init 137 = .ok (.aload_n 0, 1) := by decide +kernel
theorem dX7_init_138 : decode cX7_init 138 = .ok (.invokevirtual 56, 3) := by decide +kernel
theorem dX7_init_141 : decode cX7_init 141 = .ok (.aload_n 0, 1) := by decide +kernel
theorem dX7_init_142 : decode cX7_init 142 = .ok (.getfield 7, 3) := by decide +kernel
theorem dX7_init_145 : decode cX7_init 145 = .ok (.iconst 2, 1) := by decide +kernel
theorem dX7_init_146 : decode cX7_init 146 = .ok (.iconst 1, 1) := by decide +kernel
theorem dX7_init_147 : decode cX7_init 147 = .ok (.iastore, 1) := by decide +kernel
theorem dX7_init_148 : decode cX7_init 148 = .ok (.return_, 1) := by decide +kernel
theorem cal_X7_init : CalI yX7_init cX7_init 1 0 := ⟨mw_5_5, mw_1_5, mw_5_4, rfl, ⟨by decide +kernel, by decide +kernel, by decide +kernel⟩⟩
def p_X7_init (K : tF → tA → Prop) : Prop := p_X7_begins (fun _ => 0) (va_up (fun _ _ => 0) 16 (upd (upd (upd (upd (fun _ => 0) 0 (-1 : Int32)) 1 (-1 : Int32)) 2 (-1 : Int32)) 3 (-1 : Int32))) (fun F1 A1 => K F1 (va_up A1 0 (upd (A1 0) 2 (1 : Int32))))
set_option maxHeartbeats 4000000 in
set_option maxRecDepth 100000 in
theorem w_X7_init (l : Launch) (D : va_G) (cI cZ cR : ClassId) (adK adV : Nat → Nat) (sz : Nat) (o : Nat) (K : tF → tA → Prop) (h : p_X7_init K) : MVc l D cI cZ cR adK adV yX7_init cX7_init 1 ({ frames := 1, cells := 15, slots := 694, locals := 22 }) [.ref o] ([(o, .inr (7, [.null, .null, .null, .null, .int 0, .null, .int 0, .int 0, .int 0, .int 0, .int 0, .int 0, .null, .null, .null, .int 0, .null, .null, .null, .null, .null, .null, .null, .int 0, .int 0, .int 0, .int 0, .int 0]))] : va_W) sz 15 694 (fun (u : (Nat → Nat) × tF × tA) => K u.2.1 u.2.2) (fun (u : (Nat → Nat) × tF × tA) => (wX7 cI cZ o u.1 u.2.1 u.2.2 : va_W)) := by
  refine M_vc (by decide +kernel) (Nat.le_of_ble_eq_true rfl) rfl ?_
  intro p e s m args below meth c Q A9 ls X hin ret hP hD hS hl
  obtain ⟨hx, hb, hml, ht, hown, hK, hA, hE⟩ := id X
  have hl : lv_has ls 1 [(0, .ref o)] := hl
  unfold p_X7_init at h
  refine lv_aload_n hx hb dX7_init_0 rfl (lv_at hl 0 rfl) ?_
  refine W.objInit hx hb hown (ht _ mw_5_6) (ht _ mw_1_11) (ht _ mw_1_12) rfl (by rw [hml]; exact hl.1) rfl dX7_init_1 (Nat.le_of_ble_eq_true rfl) (Nat.le_of_ble_eq_true rfl) ?_
  refine W.eq (g2 := F0 m 4 ls []) rfl ?_
  refine lv_aload_n hx hb dX7_init_4 rfl (lv_at hl 0 rfl) ?_
  refine lv_bipush (v := 53) hx hb dX7_init_5 (by decide) ?_
  refine g_newI (N' := 53) hx hb (ht _ mw_2_12) hK hP hD hS hA (by decide) (by decide) (Nat.le_of_ble_eq_true rfl) (Nat.le_of_ble_eq_true rfl) (Nat.le_of_ble_eq_true rfl) dX7_init_7 (fun a7 H hP hD hS => ?_)
  have hP : va_P D vwCl ([(o, .inr (7, [.null, .null, .null, .null, .int 0, .null, .int 0, .int 0, .int 0, .int 0, .int 0, .int 0, .null, .null, .null, .int 0, .null, .null, .null, .null, .null, .null, .null, .int 0, .int 0, .int 0, .int 0, .int 0])), (a7, .inl (cI, (53, .inl (fun _ => 0))))] : va_W) H := hP
  have hD : va_D A9 ([(o, .inr (7, [.null, .null, .null, .null, .int 0, .null, .int 0, .int 0, .int 0, .int 0, .int 0, .int 0, .null, .null, .null, .int 0, .null, .null, .null, .null, .null, .null, .null, .int 0, .int 0, .int 0, .int 0, .int 0])), (a7, .inl (cI, (53, .inl (fun _ => 0))))] : va_W) := hD
  refine va_putF (C := RX7) (T := TX7) (N := 28) (own := RX7) (v := .ref a7) (D := D) (ty := tyX7 0) hx hb ht inlX7 tyX7 tyX7_ok nmX7 hown hK hP hD hS 0 rfl rfl 0 (Nat.le_of_ble_eq_true rfl) (ht _ mw_5_7) (fun _ h9 => h9) rfl hin rfl (tyX7_ok 0 (Nat.le_of_ble_eq_true rfl)) rfl rfl (Nat.le_of_ble_eq_true rfl) dX7_init_9 (fun H locs hP hD hS => ?_)
  have hP : va_P D vwCl ([(o, .inr (7, [.ref a7, .null, .null, .null, .int 0, .null, .int 0, .int 0, .int 0, .int 0, .int 0, .int 0, .null, .null, .null, .int 0, .null, .null, .null, .null, .null, .null, .null, .int 0, .int 0, .int 0, .int 0, .int 0])), (a7, .inl (cI, (53, .inl (fun _ => 0))))] : va_W) H := hP
  have hD : va_D A9 ([(o, .inr (7, [.ref a7, .null, .null, .null, .int 0, .null, .int 0, .int 0, .int 0, .int 0, .int 0, .int 0, .null, .null, .null, .int 0, .null, .null, .null, .null, .null, .null, .null, .int 0, .int 0, .int 0, .int 0, .int 0])), (a7, .inl (cI, (53, .inl (fun _ => 0))))] : va_W) := hD
  refine lv_aload_n hx hb dX7_init_12 rfl (lv_at hl 0 rfl) ?_
  refine lv_bipush (v := 53) hx hb dX7_init_13 (by decide) ?_
  refine g_newI (N' := 53) hx hb (ht _ mw_2_12) hK hP hD hS hA (by decide) (by decide) (Nat.le_of_ble_eq_true rfl) (Nat.le_of_ble_eq_true rfl) (Nat.le_of_ble_eq_true rfl) dX7_init_15 (fun a15 H hP hD hS => ?_)
  have hP : va_P D vwCl ([(o, .inr (7, [.ref a7, .null, .null, .null, .int 0, .null, .int 0, .int 0, .int 0, .int 0, .int 0, .int 0, .null, .null, .null, .int 0, .null, .null, .null, .null, .null, .null, .null, .int 0, .int 0, .int 0, .int 0, .int 0])), (a7, .inl (cI, (53, .inl (fun _ => 0)))), (a15, .inl (cI, (53, .inl (fun _ => 0))))] : va_W) H := hP
  have hD : va_D A9 ([(o, .inr (7, [.ref a7, .null, .null, .null, .int 0, .null, .int 0, .int 0, .int 0, .int 0, .int 0, .int 0, .null, .null, .null, .int 0, .null, .null, .null, .null, .null, .null, .null, .int 0, .int 0, .int 0, .int 0, .int 0])), (a7, .inl (cI, (53, .inl (fun _ => 0)))), (a15, .inl (cI, (53, .inl (fun _ => 0))))] : va_W) := hD
  refine va_putF (C := RX7) (T := TX7) (N := 28) (own := RX7) (v := .ref a15) (D := D) (ty := tyX7 1) hx hb ht inlX7 tyX7 tyX7_ok nmX7 hown hK hP hD hS 0 rfl rfl 1 (Nat.le_of_ble_eq_true rfl) (ht _ mw_5_8) (fun _ h9 => h9) rfl hin rfl (tyX7_ok 1 (Nat.le_of_ble_eq_true rfl)) rfl rfl (Nat.le_of_ble_eq_true rfl) dX7_init_17 (fun H locs hP hD hS => ?_)
  have hP : va_P D vwCl ([(o, .inr (7, [.ref a7, .ref a15, .null, .null, .int 0, .null, .int 0, .int 0, .int 0, .int 0, .int 0, .int 0, .null, .null, .null, .int 0, .null, .null, .null, .null, .null, .null, .null, .int 0, .int 0, .int 0, .int 0, .int 0])), (a7, .inl (cI, (53, .inl (fun _ => 0)))), (a15, .inl (cI, (53, .inl (fun _ => 0))))] : va_W) H := hP
  have hD : va_D A9 ([(o, .inr (7, [.ref a7, .ref a15, .null, .null, .int 0, .null, .int 0, .int 0, .int 0, .int 0, .int 0, .int 0, .null, .null, .null, .int 0, .null, .null, .null, .null, .null, .null, .null, .int 0, .int 0, .int 0, .int 0, .int 0])), (a7, .inl (cI, (53, .inl (fun _ => 0)))), (a15, .inl (cI, (53, .inl (fun _ => 0))))] : va_W) := hD
  refine lv_aload_n hx hb dX7_init_20 rfl (lv_at hl 0 rfl) ?_
  refine lv_bipush (v := 53) hx hb dX7_init_21 (by decide) ?_
  refine g_newI (N' := 53) hx hb (ht _ mw_2_12) hK hP hD hS hA (by decide) (by decide) (Nat.le_of_ble_eq_true rfl) (Nat.le_of_ble_eq_true rfl) (Nat.le_of_ble_eq_true rfl) dX7_init_23 (fun a23 H hP hD hS => ?_)
  have hP : va_P D vwCl ([(o, .inr (7, [.ref a7, .ref a15, .null, .null, .int 0, .null, .int 0, .int 0, .int 0, .int 0, .int 0, .int 0, .null, .null, .null, .int 0, .null, .null, .null, .null, .null, .null, .null, .int 0, .int 0, .int 0, .int 0, .int 0])), (a7, .inl (cI, (53, .inl (fun _ => 0)))), (a15, .inl (cI, (53, .inl (fun _ => 0)))), (a23, .inl (cI, (53, .inl (fun _ => 0))))] : va_W) H := hP
  have hD : va_D A9 ([(o, .inr (7, [.ref a7, .ref a15, .null, .null, .int 0, .null, .int 0, .int 0, .int 0, .int 0, .int 0, .int 0, .null, .null, .null, .int 0, .null, .null, .null, .null, .null, .null, .null, .int 0, .int 0, .int 0, .int 0, .int 0])), (a7, .inl (cI, (53, .inl (fun _ => 0)))), (a15, .inl (cI, (53, .inl (fun _ => 0)))), (a23, .inl (cI, (53, .inl (fun _ => 0))))] : va_W) := hD
  refine va_putF (C := RX7) (T := TX7) (N := 28) (own := RX7) (v := .ref a23) (D := D) (ty := tyX7 2) hx hb ht inlX7 tyX7 tyX7_ok nmX7 hown hK hP hD hS 0 rfl rfl 2 (Nat.le_of_ble_eq_true rfl) (ht _ mw_5_9) (fun _ h9 => h9) rfl hin rfl (tyX7_ok 2 (Nat.le_of_ble_eq_true rfl)) rfl rfl (Nat.le_of_ble_eq_true rfl) dX7_init_25 (fun H locs hP hD hS => ?_)
  have hP : va_P D vwCl ([(o, .inr (7, [.ref a7, .ref a15, .ref a23, .null, .int 0, .null, .int 0, .int 0, .int 0, .int 0, .int 0, .int 0, .null, .null, .null, .int 0, .null, .null, .null, .null, .null, .null, .null, .int 0, .int 0, .int 0, .int 0, .int 0])), (a7, .inl (cI, (53, .inl (fun _ => 0)))), (a15, .inl (cI, (53, .inl (fun _ => 0)))), (a23, .inl (cI, (53, .inl (fun _ => 0))))] : va_W) H := hP
  have hD : va_D A9 ([(o, .inr (7, [.ref a7, .ref a15, .ref a23, .null, .int 0, .null, .int 0, .int 0, .int 0, .int 0, .int 0, .int 0, .null, .null, .null, .int 0, .null, .null, .null, .null, .null, .null, .null, .int 0, .int 0, .int 0, .int 0, .int 0])), (a7, .inl (cI, (53, .inl (fun _ => 0)))), (a15, .inl (cI, (53, .inl (fun _ => 0)))), (a23, .inl (cI, (53, .inl (fun _ => 0))))] : va_W) := hD
  refine lv_aload_n hx hb dX7_init_28 rfl (lv_at hl 0 rfl) ?_
  refine lv_bipush (v := 53) hx hb dX7_init_29 (by decide) ?_
  refine g_newI (N' := 53) hx hb (ht _ mw_2_12) hK hP hD hS hA (by decide) (by decide) (Nat.le_of_ble_eq_true rfl) (Nat.le_of_ble_eq_true rfl) (Nat.le_of_ble_eq_true rfl) dX7_init_31 (fun a31 H hP hD hS => ?_)
  have hP : va_P D vwCl ([(o, .inr (7, [.ref a7, .ref a15, .ref a23, .null, .int 0, .null, .int 0, .int 0, .int 0, .int 0, .int 0, .int 0, .null, .null, .null, .int 0, .null, .null, .null, .null, .null, .null, .null, .int 0, .int 0, .int 0, .int 0, .int 0])), (a7, .inl (cI, (53, .inl (fun _ => 0)))), (a15, .inl (cI, (53, .inl (fun _ => 0)))), (a23, .inl (cI, (53, .inl (fun _ => 0)))), (a31, .inl (cI, (53, .inl (fun _ => 0))))] : va_W) H := hP
  have hD : va_D A9 ([(o, .inr (7, [.ref a7, .ref a15, .ref a23, .null, .int 0, .null, .int 0, .int 0, .int 0, .int 0, .int 0, .int 0, .null, .null, .null, .int 0, .null, .null, .null, .null, .null, .null, .null, .int 0, .int 0, .int 0, .int 0, .int 0])), (a7, .inl (cI, (53, .inl (fun _ => 0)))), (a15, .inl (cI, (53, .inl (fun _ => 0)))), (a23, .inl (cI, (53, .inl (fun _ => 0)))), (a31, .inl (cI, (53, .inl (fun _ => 0))))] : va_W) := hD
  refine va_putF (C := RX7) (T := TX7) (N := 28) (own := RX7) (v := .ref a31) (D := D) (ty := tyX7 3) hx hb ht inlX7 tyX7 tyX7_ok nmX7 hown hK hP hD hS 0 rfl rfl 3 (Nat.le_of_ble_eq_true rfl) (ht _ mw_5_10) (fun _ h9 => h9) rfl hin rfl (tyX7_ok 3 (Nat.le_of_ble_eq_true rfl)) rfl rfl (Nat.le_of_ble_eq_true rfl) dX7_init_33 (fun H locs hP hD hS => ?_)
  have hP : va_P D vwCl ([(o, .inr (7, [.ref a7, .ref a15, .ref a23, .ref a31, .int 0, .null, .int 0, .int 0, .int 0, .int 0, .int 0, .int 0, .null, .null, .null, .int 0, .null, .null, .null, .null, .null, .null, .null, .int 0, .int 0, .int 0, .int 0, .int 0])), (a7, .inl (cI, (53, .inl (fun _ => 0)))), (a15, .inl (cI, (53, .inl (fun _ => 0)))), (a23, .inl (cI, (53, .inl (fun _ => 0)))), (a31, .inl (cI, (53, .inl (fun _ => 0))))] : va_W) H := hP
  have hD : va_D A9 ([(o, .inr (7, [.ref a7, .ref a15, .ref a23, .ref a31, .int 0, .null, .int 0, .int 0, .int 0, .int 0, .int 0, .int 0, .null, .null, .null, .int 0, .null, .null, .null, .null, .null, .null, .null, .int 0, .int 0, .int 0, .int 0, .int 0])), (a7, .inl (cI, (53, .inl (fun _ => 0)))), (a15, .inl (cI, (53, .inl (fun _ => 0)))), (a23, .inl (cI, (53, .inl (fun _ => 0)))), (a31, .inl (cI, (53, .inl (fun _ => 0))))] : va_W) := hD
  refine lv_aload_n hx hb dX7_init_36 rfl (lv_at hl 0 rfl) ?_
  refine lv_sipush (v := 200) hx hb dX7_init_37 (by decide) ?_
  refine g_newI (N' := 200) hx hb (ht _ mw_2_12) hK hP hD hS hA (by decide) (by decide) (Nat.le_of_ble_eq_true rfl) (Nat.le_of_ble_eq_true rfl) (Nat.le_of_ble_eq_true rfl) dX7_init_40 (fun a40 H hP hD hS => ?_)
  have hP : va_P D vwCl ([(o, .inr (7, [.ref a7, .ref a15, .ref a23, .ref a31, .int 0, .null, .int 0, .int 0, .int 0, .int 0, .int 0, .int 0, .null, .null, .null, .int 0, .null, .null, .null, .null, .null, .null, .null, .int 0, .int 0, .int 0, .int 0, .int 0])), (a7, .inl (cI, (53, .inl (fun _ => 0)))), (a15, .inl (cI, (53, .inl (fun _ => 0)))), (a23, .inl (cI, (53, .inl (fun _ => 0)))), (a31, .inl (cI, (53, .inl (fun _ => 0)))), (a40, .inl (cI, (200, .inl (fun _ => 0))))] : va_W) H := hP
  have hD : va_D A9 ([(o, .inr (7, [.ref a7, .ref a15, .ref a23, .ref a31, .int 0, .null, .int 0, .int 0, .int 0, .int 0, .int 0, .int 0, .null, .null, .null, .int 0, .null, .null, .null, .null, .null, .null, .null, .int 0, .int 0, .int 0, .int 0, .int 0])), (a7, .inl (cI, (53, .inl (fun _ => 0)))), (a15, .inl (cI, (53, .inl (fun _ => 0)))), (a23, .inl (cI, (53, .inl (fun _ => 0)))), (a31, .inl (cI, (53, .inl (fun _ => 0)))), (a40, .inl (cI, (200, .inl (fun _ => 0))))] : va_W) := hD
  refine va_putF (C := RX7) (T := TX7) (N := 28) (own := RX7) (v := .ref a40) (D := D) (ty := tyX7 5) hx hb ht inlX7 tyX7 tyX7_ok nmX7 hown hK hP hD hS 0 rfl rfl 5 (Nat.le_of_ble_eq_true rfl) (ht _ mw_5_11) (fun _ h9 => h9) rfl hin rfl (tyX7_ok 5 (Nat.le_of_ble_eq_true rfl)) rfl rfl (Nat.le_of_ble_eq_true rfl) dX7_init_42 (fun H locs hP hD hS => ?_)
  have hP : va_P D vwCl ([(o, .inr (7, [.ref a7, .ref a15, .ref a23, .ref a31, .int 0, .ref a40, .int 0, .int 0, .int 0, .int 0, .int 0, .int 0, .null, .null, .null, .int 0, .null, .null, .null, .null, .null, .null, .null, .int 0, .int 0, .int 0, .int 0, .int 0])), (a7, .inl (cI, (53, .inl (fun _ => 0)))), (a15, .inl (cI, (53, .inl (fun _ => 0)))), (a23, .inl (cI, (53, .inl (fun _ => 0)))), (a31, .inl (cI, (53, .inl (fun _ => 0)))), (a40, .inl (cI, (200, .inl (fun _ => 0))))] : va_W) H := hP
  have hD : va_D A9 ([(o, .inr (7, [.ref a7, .ref a15, .ref a23, .ref a31, .int 0, .ref a40, .int 0, .int 0, .int 0, .int 0, .int 0, .int 0, .null, .null, .null, .int 0, .null, .null, .null, .null, .null, .null, .null, .int 0, .int 0, .int 0, .int 0, .int 0])), (a7, .inl (cI, (53, .inl (fun _ => 0)))), (a15, .inl (cI, (53, .inl (fun _ => 0)))), (a23, .inl (cI, (53, .inl (fun _ => 0)))), (a31, .inl (cI, (53, .inl (fun _ => 0)))), (a40, .inl (cI, (200, .inl (fun _ => 0))))] : va_W) := hD
  refine lv_aload_n hx hb dX7_init_45 rfl (lv_at hl 0 rfl) ?_
  refine lv_bipush (v := 6) hx hb dX7_init_46 (by decide) ?_
  refine g_newI (N' := 6) hx hb (ht _ mw_2_12) hK hP hD hS hA (by decide) (by decide) (Nat.le_of_ble_eq_true rfl) (Nat.le_of_ble_eq_true rfl) (Nat.le_of_ble_eq_true rfl) dX7_init_48 (fun a48 H hP hD hS => ?_)
  have hP : va_P D vwCl ([(o, .inr (7, [.ref a7, .ref a15, .ref a23, .ref a31, .int 0, .ref a40, .int 0, .int 0, .int 0, .int 0, .int 0, .int 0, .null, .null, .null, .int 0, .null, .null, .null, .null, .null, .null, .null, .int 0, .int 0, .int 0, .int 0, .int 0])), (a7, .inl (cI, (53, .inl (fun _ => 0)))), (a15, .inl (cI, (53, .inl (fun _ => 0)))), (a23, .inl (cI, (53, .inl (fun _ => 0)))), (a31, .inl (cI, (53, .inl (fun _ => 0)))), (a40, .inl (cI, (200, .inl (fun _ => 0)))), (a48, .inl (cI, (6, .inl (fun _ => 0))))] : va_W) H := hP
  have hD : va_D A9 ([(o, .inr (7, [.ref a7, .ref a15, .ref a23, .ref a31, .int 0, .ref a40, .int 0, .int 0, .int 0, .int 0, .int 0, .int 0, .null, .null, .null, .int 0, .null, .null, .null, .null, .null, .null, .null, .int 0, .int 0, .int 0, .int 0, .int 0])), (a7, .inl (cI, (53, .inl (fun _ => 0)))), (a15, .inl (cI, (53, .inl (fun _ => 0)))), (a23, .inl (cI, (53, .inl (fun _ => 0)))), (a31, .inl (cI, (53, .inl (fun _ => 0)))), (a40, .inl (cI, (200, .inl (fun _ => 0)))), (a48, .inl (cI, (6, .inl (fun _ => 0))))] : va_W) := hD
  refine va_putF (C := RX7) (T := TX7) (N := 28) (own := RX7) (v := .ref a48) (D := D) (ty := tyX7 12) hx hb ht inlX7 tyX7 tyX7_ok nmX7 hown hK hP hD hS 0 rfl rfl 12 (Nat.le_of_ble_eq_true rfl) (ht _ mw_5_12) (fun _ h9 => h9) rfl hin rfl (tyX7_ok 12 (Nat.le_of_ble_eq_true rfl)) rfl rfl (Nat.le_of_ble_eq_true rfl) dX7_init_50 (fun H locs hP hD hS => ?_)
  have hP : va_P D vwCl ([(o, .inr (7, [.ref a7, .ref a15, .ref a23, .ref a31, .int 0, .ref a40, .int 0, .int 0, .int 0, .int 0, .int 0, .int 0, .ref a48, .null, .null, .int 0, .null, .null, .null, .null, .null, .null, .null, .int 0, .int 0, .int 0, .int 0, .int 0])), (a7, .inl (cI, (53, .inl (fun _ => 0)))), (a15, .inl (cI, (53, .inl (fun _ => 0)))), (a23, .inl (cI, (53, .inl (fun _ => 0)))), (a31, .inl (cI, (53, .inl (fun _ => 0)))), (a40, .inl (cI, (200, .inl (fun _ => 0)))), (a48, .inl (cI, (6, .inl (fun _ => 0))))] : va_W) H := hP
  have hD : va_D A9 ([(o, .inr (7, [.ref a7, .ref a15, .ref a23, .ref a31, .int 0, .ref a40, .int 0, .int 0, .int 0, .int 0, .int 0, .int 0, .ref a48, .null, .null, .int 0, .null, .null, .null, .null, .null, .null, .null, .int 0, .int 0, .int 0, .int 0, .int 0])), (a7, .inl (cI, (53, .inl (fun _ => 0)))), (a15, .inl (cI, (53, .inl (fun _ => 0)))), (a23, .inl (cI, (53, .inl (fun _ => 0)))), (a31, .inl (cI, (53, .inl (fun _ => 0)))), (a40, .inl (cI, (200, .inl (fun _ => 0)))), (a48, .inl (cI, (6, .inl (fun _ => 0))))] : va_W) := hD
  refine lv_aload_n hx hb dX7_init_53 rfl (lv_at hl 0 rfl) ?_
  refine lv_bipush (v := 36) hx hb dX7_init_54 (by decide) ?_
  refine g_newZ (N' := 36) hx hb (ht _ mw_4_12) hK hP hD hS hA (by decide) (by decide) (Nat.le_of_ble_eq_true rfl) (Nat.le_of_ble_eq_true rfl) (Nat.le_of_ble_eq_true rfl) dX7_init_56 (fun a56 H hP hD hS => ?_)
  have hP : va_P D vwCl ([(o, .inr (7, [.ref a7, .ref a15, .ref a23, .ref a31, .int 0, .ref a40, .int 0, .int 0, .int 0, .int 0, .int 0, .int 0, .ref a48, .null, .null, .int 0, .null, .null, .null, .null, .null, .null, .null, .int 0, .int 0, .int 0, .int 0, .int 0])), (a7, .inl (cI, (53, .inl (fun _ => 0)))), (a15, .inl (cI, (53, .inl (fun _ => 0)))), (a23, .inl (cI, (53, .inl (fun _ => 0)))), (a31, .inl (cI, (53, .inl (fun _ => 0)))), (a40, .inl (cI, (200, .inl (fun _ => 0)))), (a48, .inl (cI, (6, .inl (fun _ => 0)))), (a56, .inl (cZ, (36, .inl (fun _ => 0))))] : va_W) H := hP
  have hD : va_D A9 ([(o, .inr (7, [.ref a7, .ref a15, .ref a23, .ref a31, .int 0, .ref a40, .int 0, .int 0, .int 0, .int 0, .int 0, .int 0, .ref a48, .null, .null, .int 0, .null, .null, .null, .null, .null, .null, .null, .int 0, .int 0, .int 0, .int 0, .int 0])), (a7, .inl (cI, (53, .inl (fun _ => 0)))), (a15, .inl (cI, (53, .inl (fun _ => 0)))), (a23, .inl (cI, (53, .inl (fun _ => 0)))), (a31, .inl (cI, (53, .inl (fun _ => 0)))), (a40, .inl (cI, (200, .inl (fun _ => 0)))), (a48, .inl (cI, (6, .inl (fun _ => 0)))), (a56, .inl (cZ, (36, .inl (fun _ => 0))))] : va_W) := hD
  refine va_putF (C := RX7) (T := TX7) (N := 28) (own := RX7) (v := .ref a56) (D := D) (ty := tyX7 13) hx hb ht inlX7 tyX7 tyX7_ok nmX7 hown hK hP hD hS 0 rfl rfl 13 (Nat.le_of_ble_eq_true rfl) (ht _ mw_5_13) (fun _ h9 => h9) rfl hin rfl (tyX7_ok 13 (Nat.le_of_ble_eq_true rfl)) rfl rfl (Nat.le_of_ble_eq_true rfl) dX7_init_58 (fun H locs hP hD hS => ?_)
  have hP : va_P D vwCl ([(o, .inr (7, [.ref a7, .ref a15, .ref a23, .ref a31, .int 0, .ref a40, .int 0, .int 0, .int 0, .int 0, .int 0, .int 0, .ref a48, .ref a56, .null, .int 0, .null, .null, .null, .null, .null, .null, .null, .int 0, .int 0, .int 0, .int 0, .int 0])), (a7, .inl (cI, (53, .inl (fun _ => 0)))), (a15, .inl (cI, (53, .inl (fun _ => 0)))), (a23, .inl (cI, (53, .inl (fun _ => 0)))), (a31, .inl (cI, (53, .inl (fun _ => 0)))), (a40, .inl (cI, (200, .inl (fun _ => 0)))), (a48, .inl (cI, (6, .inl (fun _ => 0)))), (a56, .inl (cZ, (36, .inl (fun _ => 0))))] : va_W) H := hP
  have hD : va_D A9 ([(o, .inr (7, [.ref a7, .ref a15, .ref a23, .ref a31, .int 0, .ref a40, .int 0, .int 0, .int 0, .int 0, .int 0, .int 0, .ref a48, .ref a56, .null, .int 0, .null, .null, .null, .null, .null, .null, .null, .int 0, .int 0, .int 0, .int 0, .int 0])), (a7, .inl (cI, (53, .inl (fun _ => 0)))), (a15, .inl (cI, (53, .inl (fun _ => 0)))), (a23, .inl (cI, (53, .inl (fun _ => 0)))), (a31, .inl (cI, (53, .inl (fun _ => 0)))), (a40, .inl (cI, (200, .inl (fun _ => 0)))), (a48, .inl (cI, (6, .inl (fun _ => 0)))), (a56, .inl (cZ, (36, .inl (fun _ => 0))))] : va_W) := hD
  refine lv_aload_n hx hb dX7_init_61 rfl (lv_at hl 0 rfl) ?_
  refine lv_bipush (v := 30) hx hb dX7_init_62 (by decide) ?_
  refine g_newI (N' := 30) hx hb (ht _ mw_2_12) hK hP hD hS hA (by decide) (by decide) (Nat.le_of_ble_eq_true rfl) (Nat.le_of_ble_eq_true rfl) (Nat.le_of_ble_eq_true rfl) dX7_init_64 (fun a64 H hP hD hS => ?_)
  have hP : va_P D vwCl ([(o, .inr (7, [.ref a7, .ref a15, .ref a23, .ref a31, .int 0, .ref a40, .int 0, .int 0, .int 0, .int 0, .int 0, .int 0, .ref a48, .ref a56, .null, .int 0, .null, .null, .null, .null, .null, .null, .null, .int 0, .int 0, .int 0, .int 0, .int 0])), (a7, .inl (cI, (53, .inl (fun _ => 0)))), (a15, .inl (cI, (53, .inl (fun _ => 0)))), (a23, .inl (cI, (53, .inl (fun _ => 0)))), (a31, .inl (cI, (53, .inl (fun _ => 0)))), (a40, .inl (cI, (200, .inl (fun _ => 0)))), (a48, .inl (cI, (6, .inl (fun _ => 0)))), (a56, .inl (cZ, (36, .inl (fun _ => 0)))), (a64, .inl (cI, (30, .inl (fun _ => 0))))] : va_W) H := hP
  have hD : va_D A9 ([(o, .inr (7, [.ref a7, .ref a15, .ref a23, .ref a31, .int 0, .ref a40, .int 0, .int 0, .int 0, .int 0, .int 0, .int 0, .ref a48, .ref a56, .null, .int 0, .null, .null, .null, .null, .null, .null, .null, .int 0, .int 0, .int 0, .int 0, .int 0])), (a7, .inl (cI, (53, .inl (fun _ => 0)))), (a15, .inl (cI, (53, .inl (fun _ => 0)))), (a23, .inl (cI, (53, .inl (fun _ => 0)))), (a31, .inl (cI, (53, .inl (fun _ => 0)))), (a40, .inl (cI, (200, .inl (fun _ => 0)))), (a48, .inl (cI, (6, .inl (fun _ => 0)))), (a56, .inl (cZ, (36, .inl (fun _ => 0)))), (a64, .inl (cI, (30, .inl (fun _ => 0))))] : va_W) := hD
  refine va_putF (C := RX7) (T := TX7) (N := 28) (own := RX7) (v := .ref a64) (D := D) (ty := tyX7 14) hx hb ht inlX7 tyX7 tyX7_ok nmX7 hown hK hP hD hS 0 rfl rfl 14 (Nat.le_of_ble_eq_true rfl) (ht _ mw_5_14) (fun _ h9 => h9) rfl hin rfl (tyX7_ok 14 (Nat.le_of_ble_eq_true rfl)) rfl rfl (Nat.le_of_ble_eq_true rfl) dX7_init_66 (fun H locs hP hD hS => ?_)
  have hP : va_P D vwCl ([(o, .inr (7, [.ref a7, .ref a15, .ref a23, .ref a31, .int 0, .ref a40, .int 0, .int 0, .int 0, .int 0, .int 0, .int 0, .ref a48, .ref a56, .ref a64, .int 0, .null, .null, .null, .null, .null, .null, .null, .int 0, .int 0, .int 0, .int 0, .int 0])), (a7, .inl (cI, (53, .inl (fun _ => 0)))), (a15, .inl (cI, (53, .inl (fun _ => 0)))), (a23, .inl (cI, (53, .inl (fun _ => 0)))), (a31, .inl (cI, (53, .inl (fun _ => 0)))), (a40, .inl (cI, (200, .inl (fun _ => 0)))), (a48, .inl (cI, (6, .inl (fun _ => 0)))), (a56, .inl (cZ, (36, .inl (fun _ => 0)))), (a64, .inl (cI, (30, .inl (fun _ => 0))))] : va_W) H := hP
  have hD : va_D A9 ([(o, .inr (7, [.ref a7, .ref a15, .ref a23, .ref a31, .int 0, .ref a40, .int 0, .int 0, .int 0, .int 0, .int 0, .int 0, .ref a48, .ref a56, .ref a64, .int 0, .null, .null, .null, .null, .null, .null, .null, .int 0, .int 0, .int 0, .int 0, .int 0])), (a7, .inl (cI, (53, .inl (fun _ => 0)))), (a15, .inl (cI, (53, .inl (fun _ => 0)))), (a23, .inl (cI, (53, .inl (fun _ => 0)))), (a31, .inl (cI, (53, .inl (fun _ => 0)))), (a40, .inl (cI, (200, .inl (fun _ => 0)))), (a48, .inl (cI, (6, .inl (fun _ => 0)))), (a56, .inl (cZ, (36, .inl (fun _ => 0)))), (a64, .inl (cI, (30, .inl (fun _ => 0))))] : va_W) := hD
  refine lv_aload_n hx hb dX7_init_69 rfl (lv_at hl 0 rfl) ?_
  refine lv_iconst (v := 4) hx hb dX7_init_70 (by decide) ?_
  refine g_newI (N' := 4) hx hb (ht _ mw_2_12) hK hP hD hS hA (by decide) (by decide) (Nat.le_of_ble_eq_true rfl) (Nat.le_of_ble_eq_true rfl) (Nat.le_of_ble_eq_true rfl) dX7_init_71 (fun a71 H hP hD hS => ?_)
  have hP : va_P D vwCl ([(o, .inr (7, [.ref a7, .ref a15, .ref a23, .ref a31, .int 0, .ref a40, .int 0, .int 0, .int 0, .int 0, .int 0, .int 0, .ref a48, .ref a56, .ref a64, .int 0, .null, .null, .null, .null, .null, .null, .null, .int 0, .int 0, .int 0, .int 0, .int 0])), (a7, .inl (cI, (53, .inl (fun _ => 0)))), (a15, .inl (cI, (53, .inl (fun _ => 0)))), (a23, .inl (cI, (53, .inl (fun _ => 0)))), (a31, .inl (cI, (53, .inl (fun _ => 0)))), (a40, .inl (cI, (200, .inl (fun _ => 0)))), (a48, .inl (cI, (6, .inl (fun _ => 0)))), (a56, .inl (cZ, (36, .inl (fun _ => 0)))), (a64, .inl (cI, (30, .inl (fun _ => 0)))), (a71, .inl (cI, (4, .inl (fun _ => 0))))] : va_W) H := hP
  have hD : va_D A9 ([(o, .inr (7, [.ref a7, .ref a15, .ref a23, .ref a31, .int 0, .ref a40, .int 0, .int 0, .int 0, .int 0, .int 0, .int 0, .ref a48, .ref a56, .ref a64, .int 0, .null, .null, .null, .null, .null, .null, .null, .int 0, .int 0, .int 0, .int 0, .int 0])), (a7, .inl (cI, (53, .inl (fun _ => 0)))), (a15, .inl (cI, (53, .inl (fun _ => 0)))), (a23, .inl (cI, (53, .inl (fun _ => 0)))), (a31, .inl (cI, (53, .inl (fun _ => 0)))), (a40, .inl (cI, (200, .inl (fun _ => 0)))), (a48, .inl (cI, (6, .inl (fun _ => 0)))), (a56, .inl (cZ, (36, .inl (fun _ => 0)))), (a64, .inl (cI, (30, .inl (fun _ => 0)))), (a71, .inl (cI, (4, .inl (fun _ => 0))))] : va_W) := hD
  refine lv_dup hx hb dX7_init_73 rfl ?_
  refine lv_iconst (v := 0) hx hb dX7_init_74 (by decide) ?_
  refine lv_iconst (v := -1) hx hb dX7_init_75 (by decide) ?_
  refine g_iast (f := (fun _ => 0)) (k := 0) (f2 := (upd (fun _ => 0) 0 (-1 : Int32))) hx hb hK hP hD hS 9 0 rfl rfl (vp_in_lit rfl) (by decide) rfl dX7_init_76 (fun H locs hP hD hS => ?_)
  have hP : va_P D vwCl ([(o, .inr (7, [.ref a7, .ref a15, .ref a23, .ref a31, .int 0, .ref a40, .int 0, .int 0, .int 0, .int 0, .int 0, .int 0, .ref a48, .ref a56, .ref a64, .int 0, .null, .null, .null, .null, .null, .null, .null, .int 0, .int 0, .int 0, .int 0, .int 0])), (a7, .inl (cI, (53, .inl (fun _ => 0)))), (a15, .inl (cI, (53, .inl (fun _ => 0)))), (a23, .inl (cI, (53, .inl (fun _ => 0)))), (a31, .inl (cI, (53, .inl (fun _ => 0)))), (a40, .inl (cI, (200, .inl (fun _ => 0)))), (a48, .inl (cI, (6, .inl (fun _ => 0)))), (a56, .inl (cZ, (36, .inl (fun _ => 0)))), (a64, .inl (cI, (30, .inl (fun _ => 0)))), (a71, .inl (cI, (4, .inl (upd (fun _ => 0) 0 (-1 : Int32)))))] : va_W) H := hP
  have hD : va_D A9 ([(o, .inr (7, [.ref a7, .ref a15, .ref a23, .ref a31, .int 0, .ref a40, .int 0, .int 0, .int 0, .int 0, .int 0, .int 0, .ref a48, .ref a56, .ref a64, .int 0, .null, .null, .null, .null, .null, .null, .null, .int 0, .int 0, .int 0, .int 0, .int 0])), (a7, .inl (cI, (53, .inl (fun _ => 0)))), (a15, .inl (cI, (53, .inl (fun _ => 0)))), (a23, .inl (cI, (53, .inl (fun _ => 0)))), (a31, .inl (cI, (53, .inl (fun _ => 0)))), (a40, .inl (cI, (200, .inl (fun _ => 0)))), (a48, .inl (cI, (6, .inl (fun _ => 0)))), (a56, .inl (cZ, (36, .inl (fun _ => 0)))), (a64, .inl (cI, (30, .inl (fun _ => 0)))), (a71, .inl (cI, (4, .inl (upd (fun _ => 0) 0 (-1 : Int32)))))] : va_W) := hD
  refine lv_dup hx hb dX7_init_77 rfl ?_
  refine lv_iconst (v := 1) hx hb dX7_init_78 (by decide) ?_
  refine lv_iconst (v := -1) hx hb dX7_init_79 (by decide) ?_
  refine g_iast (f := (upd (fun _ => 0) 0 (-1 : Int32))) (k := 1) (f2 := (upd (upd (fun _ => 0) 0 (-1 : Int32)) 1 (-1 : Int32))) hx hb hK hP hD hS 9 0 rfl rfl (vp_in_lit rfl) (by decide) rfl dX7_init_80 (fun H locs hP hD hS => ?_)
  have hP : va_P D vwCl ([(o, .inr (7, [.ref a7, .ref a15, .ref a23, .ref a31, .int 0, .ref a40, .int 0, .int 0, .int 0, .int 0, .int 0, .int 0, .ref a48, .ref a56, .ref a64, .int 0, .null, .null, .null, .null, .null, .null, .null, .int 0, .int 0, .int 0, .int 0, .int 0])), (a7, .inl (cI, (53, .inl (fun _ => 0)))), (a15, .inl (cI, (53, .inl (fun _ => 0)))), (a23, .inl (cI, (53, .inl (fun _ => 0)))), (a31, .inl (cI, (53, .inl (fun _ => 0)))), (a40, .inl (cI, (200, .inl (fun _ => 0)))), (a48, .inl (cI, (6, .inl (fun _ => 0)))), (a56, .inl (cZ, (36, .inl (fun _ => 0)))), (a64, .inl (cI, (30, .inl (fun _ => 0)))), (a71, .inl (cI, (4, .inl (upd (upd (fun _ => 0) 0 (-1 : Int32)) 1 (-1 : Int32)))))] : va_W) H := hP
  have hD : va_D A9 ([(o, .inr (7, [.ref a7, .ref a15, .ref a23, .ref a31, .int 0, .ref a40, .int 0, .int 0, .int 0, .int 0, .int 0, .int 0, .ref a48, .ref a56, .ref a64, .int 0, .null, .null, .null, .null, .null, .null, .null, .int 0, .int 0, .int 0, .int 0, .int 0])), (a7, .inl (cI, (53, .inl (fun _ => 0)))), (a15, .inl (cI, (53, .inl (fun _ => 0)))), (a23, .inl (cI, (53, .inl (fun _ => 0)))), (a31, .inl (cI, (53, .inl (fun _ => 0)))), (a40, .inl (cI, (200, .inl (fun _ => 0)))), (a48, .inl (cI, (6, .inl (fun _ => 0)))), (a56, .inl (cZ, (36, .inl (fun _ => 0)))), (a64, .inl (cI, (30, .inl (fun _ => 0)))), (a71, .inl (cI, (4, .inl (upd (upd (fun _ => 0) 0 (-1 : Int32)) 1 (-1 : Int32)))))] : va_W) := hD
  refine lv_dup hx hb dX7_init_81 rfl ?_
  refine lv_iconst (v := 2) hx hb dX7_init_82 (by decide) ?_
  refine lv_iconst (v := -1) hx hb dX7_init_83 (by decide) ?_
  refine g_iast (f := (upd (upd (fun _ => 0) 0 (-1 : Int32)) 1 (-1 : Int32))) (k := 2) (f2 := (upd (upd (upd (fun _ => 0) 0 (-1 : Int32)) 1 (-1 : Int32)) 2 (-1 : Int32))) hx hb hK hP hD hS 9 0 rfl rfl (vp_in_lit rfl) (by decide) rfl dX7_init_84 (fun H locs hP hD hS => ?_)
  have hP : va_P D vwCl ([(o, .inr (7, [.ref a7, .ref a15, .ref a23, .ref a31, .int 0, .ref a40, .int 0, .int 0, .int 0, .int 0, .int 0, .int 0, .ref a48, .ref a56, .ref a64, .int 0, .null, .null, .null, .null, .null, .null, .null, .int 0, .int 0, .int 0, .int 0, .int 0])), (a7, .inl (cI, (53, .inl (fun _ => 0)))), (a15, .inl (cI, (53, .inl (fun _ => 0)))), (a23, .inl (cI, (53, .inl (fun _ => 0)))), (a31, .inl (cI, (53, .inl (fun _ => 0)))), (a40, .inl (cI, (200, .inl (fun _ => 0)))), (a48, .inl (cI, (6, .inl (fun _ => 0)))), (a56, .inl (cZ, (36, .inl (fun _ => 0)))), (a64, .inl (cI, (30, .inl (fun _ => 0)))), (a71, .inl (cI, (4, .inl (upd (upd (upd (fun _ => 0) 0 (-1 : Int32)) 1 (-1 : Int32)) 2 (-1 : Int32)))))] : va_W) H := hP
  have hD : va_D A9 ([(o, .inr (7, [.ref a7, .ref a15, .ref a23, .ref a31, .int 0, .ref a40, .int 0, .int 0, .int 0, .int 0, .int 0, .int 0, .ref a48, .ref a56, .ref a64, .int 0, .null, .null, .null, .null, .null, .null, .null, .int 0, .int 0, .int 0, .int 0, .int 0])), (a7, .inl (cI, (53, .inl (fun _ => 0)))), (a15, .inl (cI, (53, .inl (fun _ => 0)))), (a23, .inl (cI, (53, .inl (fun _ => 0)))), (a31, .inl (cI, (53, .inl (fun _ => 0)))), (a40, .inl (cI, (200, .inl (fun _ => 0)))), (a48, .inl (cI, (6, .inl (fun _ => 0)))), (a56, .inl (cZ, (36, .inl (fun _ => 0)))), (a64, .inl (cI, (30, .inl (fun _ => 0)))), (a71, .inl (cI, (4, .inl (upd (upd (upd (fun _ => 0) 0 (-1 : Int32)) 1 (-1 : Int32)) 2 (-1 : Int32)))))] : va_W) := hD
  refine lv_dup hx hb dX7_init_85 rfl ?_
  refine lv_iconst (v := 3) hx hb dX7_init_86 (by decide) ?_
  refine lv_iconst (v := -1) hx hb dX7_init_87 (by decide) ?_
  refine g_iast (f := (upd (upd (upd (fun _ => 0) 0 (-1 : Int32)) 1 (-1 : Int32)) 2 (-1 : Int32))) (k := 3) (f2 := (upd (upd (upd (upd (fun _ => 0) 0 (-1 : Int32)) 1 (-1 : Int32)) 2 (-1 : Int32)) 3 (-1 : Int32))) hx hb hK hP hD hS 9 0 rfl rfl (vp_in_lit rfl) (by decide) rfl dX7_init_88 (fun H locs hP hD hS => ?_)
  have hP : va_P D vwCl ([(o, .inr (7, [.ref a7, .ref a15, .ref a23, .ref a31, .int 0, .ref a40, .int 0, .int 0, .int 0, .int 0, .int 0, .int 0, .ref a48, .ref a56, .ref a64, .int 0, .null, .null, .null, .null, .null, .null, .null, .int 0, .int 0, .int 0, .int 0, .int 0])), (a7, .inl (cI, (53, .inl (fun _ => 0)))), (a15, .inl (cI, (53, .inl (fun _ => 0)))), (a23, .inl (cI, (53, .inl (fun _ => 0)))), (a31, .inl (cI, (53, .inl (fun _ => 0)))), (a40, .inl (cI, (200, .inl (fun _ => 0)))), (a48, .inl (cI, (6, .inl (fun _ => 0)))), (a56, .inl (cZ, (36, .inl (fun _ => 0)))), (a64, .inl (cI, (30, .inl (fun _ => 0)))), (a71, .inl (cI, (4, .inl (upd (upd (upd (upd (fun _ => 0) 0 (-1 : Int32)) 1 (-1 : Int32)) 2 (-1 : Int32)) 3 (-1 : Int32)))))] : va_W) H := hP
  have hD : va_D A9 ([(o, .inr (7, [.ref a7, .ref a15, .ref a23, .ref a31, .int 0, .ref a40, .int 0, .int 0, .int 0, .int 0, .int 0, .int 0, .ref a48, .ref a56, .ref a64, .int 0, .null, .null, .null, .null, .null, .null, .null, .int 0, .int 0, .int 0, .int 0, .int 0])), (a7, .inl (cI, (53, .inl (fun _ => 0)))), (a15, .inl (cI, (53, .inl (fun _ => 0)))), (a23, .inl (cI, (53, .inl (fun _ => 0)))), (a31, .inl (cI, (53, .inl (fun _ => 0)))), (a40, .inl (cI, (200, .inl (fun _ => 0)))), (a48, .inl (cI, (6, .inl (fun _ => 0)))), (a56, .inl (cZ, (36, .inl (fun _ => 0)))), (a64, .inl (cI, (30, .inl (fun _ => 0)))), (a71, .inl (cI, (4, .inl (upd (upd (upd (upd (fun _ => 0) 0 (-1 : Int32)) 1 (-1 : Int32)) 2 (-1 : Int32)) 3 (-1 : Int32)))))] : va_W) := hD
  refine va_putF (C := RX7) (T := TX7) (N := 28) (own := RX7) (v := .ref a71) (D := D) (ty := tyX7 16) hx hb ht inlX7 tyX7 tyX7_ok nmX7 hown hK hP hD hS 0 rfl rfl 16 (Nat.le_of_ble_eq_true rfl) (ht _ mw_5_15) (fun _ h9 => h9) rfl hin rfl (tyX7_ok 16 (Nat.le_of_ble_eq_true rfl)) rfl rfl (Nat.le_of_ble_eq_true rfl) dX7_init_89 (fun H locs hP hD hS => ?_)
  have hP : va_P D vwCl ([(o, .inr (7, [.ref a7, .ref a15, .ref a23, .ref a31, .int 0, .ref a40, .int 0, .int 0, .int 0, .int 0, .int 0, .int 0, .ref a48, .ref a56, .ref a64, .int 0, .ref a71, .null, .null, .null, .null, .null, .null, .int 0, .int 0, .int 0, .int 0, .int 0])), (a7, .inl (cI, (53, .inl (fun _ => 0)))), (a15, .inl (cI, (53, .inl (fun _ => 0)))), (a23, .inl (cI, (53, .inl (fun _ => 0)))), (a31, .inl (cI, (53, .inl (fun _ => 0)))), (a40, .inl (cI, (200, .inl (fun _ => 0)))), (a48, .inl (cI, (6, .inl (fun _ => 0)))), (a56, .inl (cZ, (36, .inl (fun _ => 0)))), (a64, .inl (cI, (30, .inl (fun _ => 0)))), (a71, .inl (cI, (4, .inl (upd (upd (upd (upd (fun _ => 0) 0 (-1 : Int32)) 1 (-1 : Int32)) 2 (-1 : Int32)) 3 (-1 : Int32)))))] : va_W) H := hP
  have hD : va_D A9 ([(o, .inr (7, [.ref a7, .ref a15, .ref a23, .ref a31, .int 0, .ref a40, .int 0, .int 0, .int 0, .int 0, .int 0, .int 0, .ref a48, .ref a56, .ref a64, .int 0, .ref a71, .null, .null, .null, .null, .null, .null, .int 0, .int 0, .int 0, .int 0, .int 0])), (a7, .inl (cI, (53, .inl (fun _ => 0)))), (a15, .inl (cI, (53, .inl (fun _ => 0)))), (a23, .inl (cI, (53, .inl (fun _ => 0)))), (a31, .inl (cI, (53, .inl (fun _ => 0)))), (a40, .inl (cI, (200, .inl (fun _ => 0)))), (a48, .inl (cI, (6, .inl (fun _ => 0)))), (a56, .inl (cZ, (36, .inl (fun _ => 0)))), (a64, .inl (cI, (30, .inl (fun _ => 0)))), (a71, .inl (cI, (4, .inl (upd (upd (upd (upd (fun _ => 0) 0 (-1 : Int32)) 1 (-1 : Int32)) 2 (-1 : Int32)) 3 (-1 : Int32)))))] : va_W) := hD
  refine lv_aload_n hx hb dX7_init_92 rfl (lv_at hl 0 rfl) ?_
  refine lv_iconst (v := 4) hx hb dX7_init_93 (by decide) ?_
  refine g_newI (N' := 4) hx hb (ht _ mw_2_12) hK hP hD hS hA (by decide) (by decide) (Nat.le_of_ble_eq_true rfl) (Nat.le_of_ble_eq_true rfl) (Nat.le_of_ble_eq_true rfl) dX7_init_94 (fun a94 H hP hD hS => ?_)
  have hP : va_P D vwCl ([(o, .inr (7, [.ref a7, .ref a15, .ref a23, .ref a31, .int 0, .ref a40, .int 0, .int 0, .int 0, .int 0, .int 0, .int 0, .ref a48, .ref a56, .ref a64, .int 0, .ref a71, .null, .null, .null, .null, .null, .null, .int 0, .int 0, .int 0, .int 0, .int 0])), (a7, .inl (cI, (53, .inl (fun _ => 0)))), (a15, .inl (cI, (53, .inl (fun _ => 0)))), (a23, .inl (cI, (53, .inl (fun _ => 0)))), (a31, .inl (cI, (53, .inl (fun _ => 0)))), (a40, .inl (cI, (200, .inl (fun _ => 0)))), (a48, .inl (cI, (6, .inl (fun _ => 0)))), (a56, .inl (cZ, (36, .inl (fun _ => 0)))), (a64, .inl (cI, (30, .inl (fun _ => 0)))), (a71, .inl (cI, (4, .inl (upd (upd (upd (upd (fun _ => 0) 0 (-1 : Int32)) 1 (-1 : Int32)) 2 (-1 : Int32)) 3 (-1 : Int32))))), (a94, .inl (cI, (4, .inl (fun _ => 0))))] : va_W) H := hP
  have hD : va_D A9 ([(o, .inr (7, [.ref a7, .ref a15, .ref a23, .ref a31, .int 0, .ref a40, .int 0, .int 0, .int 0, .int 0, .int 0, .int 0, .ref a48, .ref a56, .ref a64, .int 0, .ref a71, .null, .null, .null, .null, .null, .null, .int 0, .int 0, .int 0, .int 0, .int 0])), (a7, .inl (cI, (53, .inl (fun _ => 0)))), (a15, .inl (cI, (53, .inl (fun _ => 0)))), (a23, .inl (cI, (53, .inl (fun _ => 0)))), (a31, .inl (cI, (53, .inl (fun _ => 0)))), (a40, .inl (cI, (200, .inl (fun _ => 0)))), (a48, .inl (cI, (6, .inl (fun _ => 0)))), (a56, .inl (cZ, (36, .inl (fun _ => 0)))), (a64, .inl (cI, (30, .inl (fun _ => 0)))), (a71, .inl (cI, (4, .inl (upd (upd (upd (upd (fun _ => 0) 0 (-1 : Int32)) 1 (-1 : Int32)) 2 (-1 : Int32)) 3 (-1 : Int32))))), (a94, .inl (cI, (4, .inl (fun _ => 0))))] : va_W) := hD
  refine va_putF (C := RX7) (T := TX7) (N := 28) (own := RX7) (v := .ref a94) (D := D) (ty := tyX7 17) hx hb ht inlX7 tyX7 tyX7_ok nmX7 hown hK hP hD hS 0 rfl rfl 17 (Nat.le_of_ble_eq_true rfl) (ht _ mw_5_16) (fun _ h9 => h9) rfl hin rfl (tyX7_ok 17 (Nat.le_of_ble_eq_true rfl)) rfl rfl (Nat.le_of_ble_eq_true rfl) dX7_init_96 (fun H locs hP hD hS => ?_)
  have hP : va_P D vwCl ([(o, .inr (7, [.ref a7, .ref a15, .ref a23, .ref a31, .int 0, .ref a40, .int 0, .int 0, .int 0, .int 0, .int 0, .int 0, .ref a48, .ref a56, .ref a64, .int 0, .ref a71, .ref a94, .null, .null, .null, .null, .null, .int 0, .int 0, .int 0, .int 0, .int 0])), (a7, .inl (cI, (53, .inl (fun _ => 0)))), (a15, .inl (cI, (53, .inl (fun _ => 0)))), (a23, .inl (cI, (53, .inl (fun _ => 0)))), (a31, .inl (cI, (53, .inl (fun _ => 0)))), (a40, .inl (cI, (200, .inl (fun _ => 0)))), (a48, .inl (cI, (6, .inl (fun _ => 0)))), (a56, .inl (cZ, (36, .inl (fun _ => 0)))), (a64, .inl (cI, (30, .inl (fun _ => 0)))), (a71, .inl (cI, (4, .inl (upd (upd (upd (upd (fun _ => 0) 0 (-1 : Int32)) 1 (-1 : Int32)) 2 (-1 : Int32)) 3 (-1 : Int32))))), (a94, .inl (cI, (4, .inl (fun _ => 0))))] : va_W) H := hP
  have hD : va_D A9 ([(o, .inr (7, [.ref a7, .ref a15, .ref a23, .ref a31, .int 0, .ref a40, .int 0, .int 0, .int 0, .int 0, .int 0, .int 0, .ref a48, .ref a56, .ref a64, .int 0, .ref a71, .ref a94, .null, .null, .null, .null, .null, .int 0, .int 0, .int 0, .int 0, .int 0])), (a7, .inl (cI, (53, .inl (fun _ => 0)))), (a15, .inl (cI, (53, .inl (fun _ => 0)))), (a23, .inl (cI, (53, .inl (fun _ => 0)))), (a31, .inl (cI, (53, .inl (fun _ => 0)))), (a40, .inl (cI, (200, .inl (fun _ => 0)))), (a48, .inl (cI, (6, .inl (fun _ => 0)))), (a56, .inl (cZ, (36, .inl (fun _ => 0)))), (a64, .inl (cI, (30, .inl (fun _ => 0)))), (a71, .inl (cI, (4, .inl (upd (upd (upd (upd (fun _ => 0) 0 (-1 : Int32)) 1 (-1 : Int32)) 2 (-1 : Int32)) 3 (-1 : Int32))))), (a94, .inl (cI, (4, .inl (fun _ => 0))))] : va_W) := hD
  refine lv_aload_n hx hb dX7_init_99 rfl (lv_at hl 0 rfl) ?_
  refine lv_sipush (v := 160) hx hb dX7_init_100 (by decide) ?_
  refine g_newI (N' := 160) hx hb (ht _ mw_2_12) hK hP hD hS hA (by decide) (by decide) (Nat.le_of_ble_eq_true rfl) (Nat.le_of_ble_eq_true rfl) (Nat.le_of_ble_eq_true rfl) dX7_init_103 (fun a103 H hP hD hS => ?_)
  have hP : va_P D vwCl ([(o, .inr (7, [.ref a7, .ref a15, .ref a23, .ref a31, .int 0, .ref a40, .int 0, .int 0, .int 0, .int 0, .int 0, .int 0, .ref a48, .ref a56, .ref a64, .int 0, .ref a71, .ref a94, .null, .null, .null, .null, .null, .int 0, .int 0, .int 0, .int 0, .int 0])), (a7, .inl (cI, (53, .inl (fun _ => 0)))), (a15, .inl (cI, (53, .inl (fun _ => 0)))), (a23, .inl (cI, (53, .inl (fun _ => 0)))), (a31, .inl (cI, (53, .inl (fun _ => 0)))), (a40, .inl (cI, (200, .inl (fun _ => 0)))), (a48, .inl (cI, (6, .inl (fun _ => 0)))), (a56, .inl (cZ, (36, .inl (fun _ => 0)))), (a64, .inl (cI, (30, .inl (fun _ => 0)))), (a71, .inl (cI, (4, .inl (upd (upd (upd (upd (fun _ => 0) 0 (-1 : Int32)) 1 (-1 : Int32)) 2 (-1 : Int32)) 3 (-1 : Int32))))), (a94, .inl (cI, (4, .inl (fun _ => 0)))), (a103, .inl (cI, (160, .inl (fun _ => 0))))] : va_W) H := hP
  have hD : va_D A9 ([(o, .inr (7, [.ref a7, .ref a15, .ref a23, .ref a31, .int 0, .ref a40, .int 0, .int 0, .int 0, .int 0, .int 0, .int 0, .ref a48, .ref a56, .ref a64, .int 0, .ref a71, .ref a94, .null, .null, .null, .null, .null, .int 0, .int 0, .int 0, .int 0, .int 0])), (a7, .inl (cI, (53, .inl (fun _ => 0)))), (a15, .inl (cI, (53, .inl (fun _ => 0)))), (a23, .inl (cI, (53, .inl (fun _ => 0)))), (a31, .inl (cI, (53, .inl (fun _ => 0)))), (a40, .inl (cI, (200, .inl (fun _ => 0)))), (a48, .inl (cI, (6, .inl (fun _ => 0)))), (a56, .inl (cZ, (36, .inl (fun _ => 0)))), (a64, .inl (cI, (30, .inl (fun _ => 0)))), (a71, .inl (cI, (4, .inl (upd (upd (upd (upd (fun _ => 0) 0 (-1 : Int32)) 1 (-1 : Int32)) 2 (-1 : Int32)) 3 (-1 : Int32))))), (a94, .inl (cI, (4, .inl (fun _ => 0)))), (a103, .inl (cI, (160, .inl (fun _ => 0))))] : va_W) := hD
  refine va_putF (C := RX7) (T := TX7) (N := 28) (own := RX7) (v := .ref a103) (D := D) (ty := tyX7 18) hx hb ht inlX7 tyX7 tyX7_ok nmX7 hown hK hP hD hS 0 rfl rfl 18 (Nat.le_of_ble_eq_true rfl) (ht _ mw_5_17) (fun _ h9 => h9) rfl hin rfl (tyX7_ok 18 (Nat.le_of_ble_eq_true rfl)) rfl rfl (Nat.le_of_ble_eq_true rfl) dX7_init_105 (fun H locs hP hD hS => ?_)
  have hP : va_P D vwCl ([(o, .inr (7, [.ref a7, .ref a15, .ref a23, .ref a31, .int 0, .ref a40, .int 0, .int 0, .int 0, .int 0, .int 0, .int 0, .ref a48, .ref a56, .ref a64, .int 0, .ref a71, .ref a94, .ref a103, .null, .null, .null, .null, .int 0, .int 0, .int 0, .int 0, .int 0])), (a7, .inl (cI, (53, .inl (fun _ => 0)))), (a15, .inl (cI, (53, .inl (fun _ => 0)))), (a23, .inl (cI, (53, .inl (fun _ => 0)))), (a31, .inl (cI, (53, .inl (fun _ => 0)))), (a40, .inl (cI, (200, .inl (fun _ => 0)))), (a48, .inl (cI, (6, .inl (fun _ => 0)))), (a56, .inl (cZ, (36, .inl (fun _ => 0)))), (a64, .inl (cI, (30, .inl (fun _ => 0)))), (a71, .inl (cI, (4, .inl (upd (upd (upd (upd (fun _ => 0) 0 (-1 : Int32)) 1 (-1 : Int32)) 2 (-1 : Int32)) 3 (-1 : Int32))))), (a94, .inl (cI, (4, .inl (fun _ => 0)))), (a103, .inl (cI, (160, .inl (fun _ => 0))))] : va_W) H := hP
  have hD : va_D A9 ([(o, .inr (7, [.ref a7, .ref a15, .ref a23, .ref a31, .int 0, .ref a40, .int 0, .int 0, .int 0, .int 0, .int 0, .int 0, .ref a48, .ref a56, .ref a64, .int 0, .ref a71, .ref a94, .ref a103, .null, .null, .null, .null, .int 0, .int 0, .int 0, .int 0, .int 0])), (a7, .inl (cI, (53, .inl (fun _ => 0)))), (a15, .inl (cI, (53, .inl (fun _ => 0)))), (a23, .inl (cI, (53, .inl (fun _ => 0)))), (a31, .inl (cI, (53, .inl (fun _ => 0)))), (a40, .inl (cI, (200, .inl (fun _ => 0)))), (a48, .inl (cI, (6, .inl (fun _ => 0)))), (a56, .inl (cZ, (36, .inl (fun _ => 0)))), (a64, .inl (cI, (30, .inl (fun _ => 0)))), (a71, .inl (cI, (4, .inl (upd (upd (upd (upd (fun _ => 0) 0 (-1 : Int32)) 1 (-1 : Int32)) 2 (-1 : Int32)) 3 (-1 : Int32))))), (a94, .inl (cI, (4, .inl (fun _ => 0)))), (a103, .inl (cI, (160, .inl (fun _ => 0))))] : va_W) := hD
  refine lv_aload_n hx hb dX7_init_108 rfl (lv_at hl 0 rfl) ?_
  refine lv_iconst (v := 4) hx hb dX7_init_109 (by decide) ?_
  refine g_newI (N' := 4) hx hb (ht _ mw_2_12) hK hP hD hS hA (by decide) (by decide) (Nat.le_of_ble_eq_true rfl) (Nat.le_of_ble_eq_true rfl) (Nat.le_of_ble_eq_true rfl) dX7_init_110 (fun a110 H hP hD hS => ?_)
  have hP : va_P D vwCl ([(o, .inr (7, [.ref a7, .ref a15, .ref a23, .ref a31, .int 0, .ref a40, .int 0, .int 0, .int 0, .int 0, .int 0, .int 0, .ref a48, .ref a56, .ref a64, .int 0, .ref a71, .ref a94, .ref a103, .null, .null, .null, .null, .int 0, .int 0, .int 0, .int 0, .int 0])), (a7, .inl (cI, (53, .inl (fun _ => 0)))), (a15, .inl (cI, (53, .inl (fun _ => 0)))), (a23, .inl (cI, (53, .inl (fun _ => 0)))), (a31, .inl (cI, (53, .inl (fun _ => 0)))), (a40, .inl (cI, (200, .inl (fun _ => 0)))), (a48, .inl (cI, (6, .inl (fun _ => 0)))), (a56, .inl (cZ, (36, .inl (fun _ => 0)))), (a64, .inl (cI, (30, .inl (fun _ => 0)))), (a71, .inl (cI, (4, .inl (upd (upd (upd (upd (fun _ => 0) 0 (-1 : Int32)) 1 (-1 : Int32)) 2 (-1 : Int32)) 3 (-1 : Int32))))), (a94, .inl (cI, (4, .inl (fun _ => 0)))), (a103, .inl (cI, (160, .inl (fun _ => 0)))), (a110, .inl (cI, (4, .inl (fun _ => 0))))] : va_W) H := hP
  have hD : va_D A9 ([(o, .inr (7, [.ref a7, .ref a15, .ref a23, .ref a31, .int 0, .ref a40, .int 0, .int 0, .int 0, .int 0, .int 0, .int 0, .ref a48, .ref a56, .ref a64, .int 0, .ref a71, .ref a94, .ref a103, .null, .null, .null, .null, .int 0, .int 0, .int 0, .int 0, .int 0])), (a7, .inl (cI, (53, .inl (fun _ => 0)))), (a15, .inl (cI, (53, .inl (fun _ => 0)))), (a23, .inl (cI, (53, .inl (fun _ => 0)))), (a31, .inl (cI, (53, .inl (fun _ => 0)))), (a40, .inl (cI, (200, .inl (fun _ => 0)))), (a48, .inl (cI, (6, .inl (fun _ => 0)))), (a56, .inl (cZ, (36, .inl (fun _ => 0)))), (a64, .inl (cI, (30, .inl (fun _ => 0)))), (a71, .inl (cI, (4, .inl (upd (upd (upd (upd (fun _ => 0) 0 (-1 : Int32)) 1 (-1 : Int32)) 2 (-1 : Int32)) 3 (-1 : Int32))))), (a94, .inl (cI, (4, .inl (fun _ => 0)))), (a103, .inl (cI, (160, .inl (fun _ => 0)))), (a110, .inl (cI, (4, .inl (fun _ => 0))))] : va_W) := hD
  refine va_putF (C := RX7) (T := TX7) (N := 28) (own := RX7) (v := .ref a110) (D := D) (ty := tyX7 19) hx hb ht inlX7 tyX7 tyX7_ok nmX7 hown hK hP hD hS 0 rfl rfl 19 (Nat.le_of_ble_eq_true rfl) (ht _ mw_5_18) (fun _ h9 => h9) rfl hin rfl (tyX7_ok 19 (Nat.le_of_ble_eq_true rfl)) rfl rfl (Nat.le_of_ble_eq_true rfl) dX7_init_112 (fun H locs hP hD hS => ?_)
  have hP : va_P D vwCl ([(o, .inr (7, [.ref a7, .ref a15, .ref a23, .ref a31, .int 0, .ref a40, .int 0, .int 0, .int 0, .int 0, .int 0, .int 0, .ref a48, .ref a56, .ref a64, .int 0, .ref a71, .ref a94, .ref a103, .ref a110, .null, .null, .null, .int 0, .int 0, .int 0, .int 0, .int 0])), (a7, .inl (cI, (53, .inl (fun _ => 0)))), (a15, .inl (cI, (53, .inl (fun _ => 0)))), (a23, .inl (cI, (53, .inl (fun _ => 0)))), (a31, .inl (cI, (53, .inl (fun _ => 0)))), (a40, .inl (cI, (200, .inl (fun _ => 0)))), (a48, .inl (cI, (6, .inl (fun _ => 0)))), (a56, .inl (cZ, (36, .inl (fun _ => 0)))), (a64, .inl (cI, (30, .inl (fun _ => 0)))), (a71, .inl (cI, (4, .inl (upd (upd (upd (upd (fun _ => 0) 0 (-1 : Int32)) 1 (-1 : Int32)) 2 (-1 : Int32)) 3 (-1 : Int32))))), (a94, .inl (cI, (4, .inl (fun _ => 0)))), (a103, .inl (cI, (160, .inl (fun _ => 0)))), (a110, .inl (cI, (4, .inl (fun _ => 0))))] : va_W) H := hP
  have hD : va_D A9 ([(o, .inr (7, [.ref a7, .ref a15, .ref a23, .ref a31, .int 0, .ref a40, .int 0, .int 0, .int 0, .int 0, .int 0, .int 0, .ref a48, .ref a56, .ref a64, .int 0, .ref a71, .ref a94, .ref a103, .ref a110, .null, .null, .null, .int 0, .int 0, .int 0, .int 0, .int 0])), (a7, .inl (cI, (53, .inl (fun _ => 0)))), (a15, .inl (cI, (53, .inl (fun _ => 0)))), (a23, .inl (cI, (53, .inl (fun _ => 0)))), (a31, .inl (cI, (53, .inl (fun _ => 0)))), (a40, .inl (cI, (200, .inl (fun _ => 0)))), (a48, .inl (cI, (6, .inl (fun _ => 0)))), (a56, .inl (cZ, (36, .inl (fun _ => 0)))), (a64, .inl (cI, (30, .inl (fun _ => 0)))), (a71, .inl (cI, (4, .inl (upd (upd (upd (upd (fun _ => 0) 0 (-1 : Int32)) 1 (-1 : Int32)) 2 (-1 : Int32)) 3 (-1 : Int32))))), (a94, .inl (cI, (4, .inl (fun _ => 0)))), (a103, .inl (cI, (160, .inl (fun _ => 0)))), (a110, .inl (cI, (4, .inl (fun _ => 0))))] : va_W) := hD
  refine lv_aload_n hx hb dX7_init_115 rfl (lv_at hl 0 rfl) ?_
  refine lv_iconst (v := 4) hx hb dX7_init_116 (by decide) ?_
  refine g_newI (N' := 4) hx hb (ht _ mw_2_12) hK hP hD hS hA (by decide) (by decide) (Nat.le_of_ble_eq_true rfl) (Nat.le_of_ble_eq_true rfl) (Nat.le_of_ble_eq_true rfl) dX7_init_117 (fun a117 H hP hD hS => ?_)
  have hP : va_P D vwCl ([(o, .inr (7, [.ref a7, .ref a15, .ref a23, .ref a31, .int 0, .ref a40, .int 0, .int 0, .int 0, .int 0, .int 0, .int 0, .ref a48, .ref a56, .ref a64, .int 0, .ref a71, .ref a94, .ref a103, .ref a110, .null, .null, .null, .int 0, .int 0, .int 0, .int 0, .int 0])), (a7, .inl (cI, (53, .inl (fun _ => 0)))), (a15, .inl (cI, (53, .inl (fun _ => 0)))), (a23, .inl (cI, (53, .inl (fun _ => 0)))), (a31, .inl (cI, (53, .inl (fun _ => 0)))), (a40, .inl (cI, (200, .inl (fun _ => 0)))), (a48, .inl (cI, (6, .inl (fun _ => 0)))), (a56, .inl (cZ, (36, .inl (fun _ => 0)))), (a64, .inl (cI, (30, .inl (fun _ => 0)))), (a71, .inl (cI, (4, .inl (upd (upd (upd (upd (fun _ => 0) 0 (-1 : Int32)) 1 (-1 : Int32)) 2 (-1 : Int32)) 3 (-1 : Int32))))), (a94, .inl (cI, (4, .inl (fun _ => 0)))), (a103, .inl (cI, (160, .inl (fun _ => 0)))), (a110, .inl (cI, (4, .inl (fun _ => 0)))), (a117, .inl (cI, (4, .inl (fun _ => 0))))] : va_W) H := hP
  have hD : va_D A9 ([(o, .inr (7, [.ref a7, .ref a15, .ref a23, .ref a31, .int 0, .ref a40, .int 0, .int 0, .int 0, .int 0, .int 0, .int 0, .ref a48, .ref a56, .ref a64, .int 0, .ref a71, .ref a94, .ref a103, .ref a110, .null, .null, .null, .int 0, .int 0, .int 0, .int 0, .int 0])), (a7, .inl (cI, (53, .inl (fun _ => 0)))), (a15, .inl (cI, (53, .inl (fun _ => 0)))), (a23, .inl (cI, (53, .inl (fun _ => 0)))), (a31, .inl (cI, (53, .inl (fun _ => 0)))), (a40, .inl (cI, (200, .inl (fun _ => 0)))), (a48, .inl (cI, (6, .inl (fun _ => 0)))), (a56, .inl (cZ, (36, .inl (fun _ => 0)))), (a64, .inl (cI, (30, .inl (fun _ => 0)))), (a71, .inl (cI, (4, .inl (upd (upd (upd (upd (fun _ => 0) 0 (-1 : Int32)) 1 (-1 : Int32)) 2 (-1 : Int32)) 3 (-1 : Int32))))), (a94, .inl (cI, (4, .inl (fun _ => 0)))), (a103, .inl (cI, (160, .inl (fun _ => 0)))), (a110, .inl (cI, (4, .inl (fun _ => 0)))), (a117, .inl (cI, (4, .inl (fun _ => 0))))] : va_W) := hD
  refine va_putF (C := RX7) (T := TX7) (N := 28) (own := RX7) (v := .ref a117) (D := D) (ty := tyX7 20) hx hb ht inlX7 tyX7 tyX7_ok nmX7 hown hK hP hD hS 0 rfl rfl 20 (Nat.le_of_ble_eq_true rfl) (ht _ mw_5_19) (fun _ h9 => h9) rfl hin rfl (tyX7_ok 20 (Nat.le_of_ble_eq_true rfl)) rfl rfl (Nat.le_of_ble_eq_true rfl) dX7_init_119 (fun H locs hP hD hS => ?_)
  have hP : va_P D vwCl ([(o, .inr (7, [.ref a7, .ref a15, .ref a23, .ref a31, .int 0, .ref a40, .int 0, .int 0, .int 0, .int 0, .int 0, .int 0, .ref a48, .ref a56, .ref a64, .int 0, .ref a71, .ref a94, .ref a103, .ref a110, .ref a117, .null, .null, .int 0, .int 0, .int 0, .int 0, .int 0])), (a7, .inl (cI, (53, .inl (fun _ => 0)))), (a15, .inl (cI, (53, .inl (fun _ => 0)))), (a23, .inl (cI, (53, .inl (fun _ => 0)))), (a31, .inl (cI, (53, .inl (fun _ => 0)))), (a40, .inl (cI, (200, .inl (fun _ => 0)))), (a48, .inl (cI, (6, .inl (fun _ => 0)))), (a56, .inl (cZ, (36, .inl (fun _ => 0)))), (a64, .inl (cI, (30, .inl (fun _ => 0)))), (a71, .inl (cI, (4, .inl (upd (upd (upd (upd (fun _ => 0) 0 (-1 : Int32)) 1 (-1 : Int32)) 2 (-1 : Int32)) 3 (-1 : Int32))))), (a94, .inl (cI, (4, .inl (fun _ => 0)))), (a103, .inl (cI, (160, .inl (fun _ => 0)))), (a110, .inl (cI, (4, .inl (fun _ => 0)))), (a117, .inl (cI, (4, .inl (fun _ => 0))))] : va_W) H := hP
  have hD : va_D A9 ([(o, .inr (7, [.ref a7, .ref a15, .ref a23, .ref a31, .int 0, .ref a40, .int 0, .int 0, .int 0, .int 0, .int 0, .int 0, .ref a48, .ref a56, .ref a64, .int 0, .ref a71, .ref a94, .ref a103, .ref a110, .ref a117, .null, .null, .int 0, .int 0, .int 0, .int 0, .int 0])), (a7, .inl (cI, (53, .inl (fun _ => 0)))), (a15, .inl (cI, (53, .inl (fun _ => 0)))), (a23, .inl (cI, (53, .inl (fun _ => 0)))), (a31, .inl (cI, (53, .inl (fun _ => 0)))), (a40, .inl (cI, (200, .inl (fun _ => 0)))), (a48, .inl (cI, (6, .inl (fun _ => 0)))), (a56, .inl (cZ, (36, .inl (fun _ => 0)))), (a64, .inl (cI, (30, .inl (fun _ => 0)))), (a71, .inl (cI, (4, .inl (upd (upd (upd (upd (fun _ => 0) 0 (-1 : Int32)) 1 (-1 : Int32)) 2 (-1 : Int32)) 3 (-1 : Int32))))), (a94, .inl (cI, (4, .inl (fun _ => 0)))), (a103, .inl (cI, (160, .inl (fun _ => 0)))), (a110, .inl (cI, (4, .inl (fun _ => 0)))), (a117, .inl (cI, (4, .inl (fun _ => 0))))] : va_W) := hD
  refine lv_aload_n hx hb dX7_init_122 rfl (lv_at hl 0 rfl) ?_
  refine lv_iconst (v := 4) hx hb dX7_init_123 (by decide) ?_
  refine g_newI (N' := 4) hx hb (ht _ mw_2_12) hK hP hD hS hA (by decide) (by decide) (Nat.le_of_ble_eq_true rfl) (Nat.le_of_ble_eq_true rfl) (Nat.le_of_ble_eq_true rfl) dX7_init_124 (fun a124 H hP hD hS => ?_)
  have hP : va_P D vwCl ([(o, .inr (7, [.ref a7, .ref a15, .ref a23, .ref a31, .int 0, .ref a40, .int 0, .int 0, .int 0, .int 0, .int 0, .int 0, .ref a48, .ref a56, .ref a64, .int 0, .ref a71, .ref a94, .ref a103, .ref a110, .ref a117, .null, .null, .int 0, .int 0, .int 0, .int 0, .int 0])), (a7, .inl (cI, (53, .inl (fun _ => 0)))), (a15, .inl (cI, (53, .inl (fun _ => 0)))), (a23, .inl (cI, (53, .inl (fun _ => 0)))), (a31, .inl (cI, (53, .inl (fun _ => 0)))), (a40, .inl (cI, (200, .inl (fun _ => 0)))), (a48, .inl (cI, (6, .inl (fun _ => 0)))), (a56, .inl (cZ, (36, .inl (fun _ => 0)))), (a64, .inl (cI, (30, .inl (fun _ => 0)))), (a71, .inl (cI, (4, .inl (upd (upd (upd (upd (fun _ => 0) 0 (-1 : Int32)) 1 (-1 : Int32)) 2 (-1 : Int32)) 3 (-1 : Int32))))), (a94, .inl (cI, (4, .inl (fun _ => 0)))), (a103, .inl (cI, (160, .inl (fun _ => 0)))), (a110, .inl (cI, (4, .inl (fun _ => 0)))), (a117, .inl (cI, (4, .inl (fun _ => 0)))), (a124, .inl (cI, (4, .inl (fun _ => 0))))] : va_W) H := hP
  have hD : va_D A9 ([(o, .inr (7, [.ref a7, .ref a15, .ref a23, .ref a31, .int 0, .ref a40, .int 0, .int 0, .int 0, .int 0, .int 0, .int 0, .ref a48, .ref a56, .ref a64, .int 0, .ref a71, .ref a94, .ref a103, .ref a110, .ref a117, .null, .null, .int 0, .int 0, .int 0, .int 0, .int 0])), (a7, .inl (cI, (53, .inl (fun _ => 0)))), (a15, .inl (cI, (53, .inl (fun _ => 0)))), (a23, .inl (cI, (53, .inl (fun _ => 0)))), (a31, .inl (cI, (53, .inl (fun _ => 0)))), (a40, .inl (cI, (200, .inl (fun _ => 0)))), (a48, .inl (cI, (6, .inl (fun _ => 0)))), (a56, .inl (cZ, (36, .inl (fun _ => 0)))), (a64, .inl (cI, (30, .inl (fun _ => 0)))), (a71, .inl (cI, (4, .inl (upd (upd (upd (upd (fun _ => 0) 0 (-1 : Int32)) 1 (-1 : Int32)) 2 (-1 : Int32)) 3 (-1 : Int32))))), (a94, .inl (cI, (4, .inl (fun _ => 0)))), (a103, .inl (cI, (160, .inl (fun _ => 0)))), (a110, .inl (cI, (4, .inl (fun _ => 0)))), (a117, .inl (cI, (4, .inl (fun _ => 0)))), (a124, .inl (cI, (4, .inl (fun _ => 0))))] : va_W) := hD
  refine va_putF (C := RX7) (T := TX7) (N := 28) (own := RX7) (v := .ref a124) (D := D) (ty := tyX7 21) hx hb ht inlX7 tyX7 tyX7_ok nmX7 hown hK hP hD hS 0 rfl rfl 21 (Nat.le_of_ble_eq_true rfl) (ht _ mw_5_20) (fun _ h9 => h9) rfl hin rfl (tyX7_ok 21 (Nat.le_of_ble_eq_true rfl)) rfl rfl (Nat.le_of_ble_eq_true rfl) dX7_init_126 (fun H locs hP hD hS => ?_)
  have hP : va_P D vwCl ([(o, .inr (7, [.ref a7, .ref a15, .ref a23, .ref a31, .int 0, .ref a40, .int 0, .int 0, .int 0, .int 0, .int 0, .int 0, .ref a48, .ref a56, .ref a64, .int 0, .ref a71, .ref a94, .ref a103, .ref a110, .ref a117, .ref a124, .null, .int 0, .int 0, .int 0, .int 0, .int 0])), (a7, .inl (cI, (53, .inl (fun _ => 0)))), (a15, .inl (cI, (53, .inl (fun _ => 0)))), (a23, .inl (cI, (53, .inl (fun _ => 0)))), (a31, .inl (cI, (53, .inl (fun _ => 0)))), (a40, .inl (cI, (200, .inl (fun _ => 0)))), (a48, .inl (cI, (6, .inl (fun _ => 0)))), (a56, .inl (cZ, (36, .inl (fun _ => 0)))), (a64, .inl (cI, (30, .inl (fun _ => 0)))), (a71, .inl (cI, (4, .inl (upd (upd (upd (upd (fun _ => 0) 0 (-1 : Int32)) 1 (-1 : Int32)) 2 (-1 : Int32)) 3 (-1 : Int32))))), (a94, .inl (cI, (4, .inl (fun _ => 0)))), (a103, .inl (cI, (160, .inl (fun _ => 0)))), (a110, .inl (cI, (4, .inl (fun _ => 0)))), (a117, .inl (cI, (4, .inl (fun _ => 0)))), (a124, .inl (cI, (4, .inl (fun _ => 0))))] : va_W) H := hP
  have hD : va_D A9 ([(o, .inr (7, [.ref a7, .ref a15, .ref a23, .ref a31, .int 0, .ref a40, .int 0, .int 0, .int 0, .int 0, .int 0, .int 0, .ref a48, .ref a56, .ref a64, .int 0, .ref a71, .ref a94, .ref a103, .ref a110, .ref a117, .ref a124, .null, .int 0, .int 0, .int 0, .int 0, .int 0])), (a7, .inl (cI, (53, .inl (fun _ => 0)))), (a15, .inl (cI, (53, .inl (fun _ => 0)))), (a23, .inl (cI, (53, .inl (fun _ => 0)))), (a31, .inl (cI, (53, .inl (fun _ => 0)))), (a40, .inl (cI, (200, .inl (fun _ => 0)))), (a48, .inl (cI, (6, .inl (fun _ => 0)))), (a56, .inl (cZ, (36, .inl (fun _ => 0)))), (a64, .inl (cI, (30, .inl (fun _ => 0)))), (a71, .inl (cI, (4, .inl (upd (upd (upd (upd (fun _ => 0) 0 (-1 : Int32)) 1 (-1 : Int32)) 2 (-1 : Int32)) 3 (-1 : Int32))))), (a94, .inl (cI, (4, .inl (fun _ => 0)))), (a103, .inl (cI, (160, .inl (fun _ => 0)))), (a110, .inl (cI, (4, .inl (fun _ => 0)))), (a117, .inl (cI, (4, .inl (fun _ => 0)))), (a124, .inl (cI, (4, .inl (fun _ => 0))))] : va_W) := hD
  refine lv_aload_n hx hb dX7_init_129 rfl (lv_at hl 0 rfl) ?_
  refine lv_bipush (v := 30) hx hb dX7_init_130 (by decide) ?_
  refine g_newI (N' := 30) hx hb (ht _ mw_2_12) hK hP hD hS hA (by decide) (by decide) (Nat.le_of_ble_eq_true rfl) (Nat.le_of_ble_eq_true rfl) (Nat.le_of_ble_eq_true rfl) dX7_init_132 (fun a132 H hP hD hS => ?_)
  have hP : va_P D vwCl ([(o, .inr (7, [.ref a7, .ref a15, .ref a23, .ref a31, .int 0, .ref a40, .int 0, .int 0, .int 0, .int 0, .int 0, .int 0, .ref a48, .ref a56, .ref a64, .int 0, .ref a71, .ref a94, .ref a103, .ref a110, .ref a117, .ref a124, .null, .int 0, .int 0, .int 0, .int 0, .int 0])), (a7, .inl (cI, (53, .inl (fun _ => 0)))), (a15, .inl (cI, (53, .inl (fun _ => 0)))), (a23, .inl (cI, (53, .inl (fun _ => 0)))), (a31, .inl (cI, (53, .inl (fun _ => 0)))), (a40, .inl (cI, (200, .inl (fun _ => 0)))), (a48, .inl (cI, (6, .inl (fun _ => 0)))), (a56, .inl (cZ, (36, .inl (fun _ => 0)))), (a64, .inl (cI, (30, .inl (fun _ => 0)))), (a71, .inl (cI, (4, .inl (upd (upd (upd (upd (fun _ => 0) 0 (-1 : Int32)) 1 (-1 : Int32)) 2 (-1 : Int32)) 3 (-1 : Int32))))), (a94, .inl (cI, (4, .inl (fun _ => 0)))), (a103, .inl (cI, (160, .inl (fun _ => 0)))), (a110, .inl (cI, (4, .inl (fun _ => 0)))), (a117, .inl (cI, (4, .inl (fun _ => 0)))), (a124, .inl (cI, (4, .inl (fun _ => 0)))), (a132, .inl (cI, (30, .inl (fun _ => 0))))] : va_W) H := hP
  have hD : va_D A9 ([(o, .inr (7, [.ref a7, .ref a15, .ref a23, .ref a31, .int 0, .ref a40, .int 0, .int 0, .int 0, .int 0, .int 0, .int 0, .ref a48, .ref a56, .ref a64, .int 0, .ref a71, .ref a94, .ref a103, .ref a110, .ref a117, .ref a124, .null, .int 0, .int 0, .int 0, .int 0, .int 0])), (a7, .inl (cI, (53, .inl (fun _ => 0)))), (a15, .inl (cI, (53, .inl (fun _ => 0)))), (a23, .inl (cI, (53, .inl (fun _ => 0)))), (a31, .inl (cI, (53, .inl (fun _ => 0)))), (a40, .inl (cI, (200, .inl (fun _ => 0)))), (a48, .inl (cI, (6, .inl (fun _ => 0)))), (a56, .inl (cZ, (36, .inl (fun _ => 0)))), (a64, .inl (cI, (30, .inl (fun _ => 0)))), (a71, .inl (cI, (4, .inl (upd (upd (upd (upd (fun _ => 0) 0 (-1 : Int32)) 1 (-1 : Int32)) 2 (-1 : Int32)) 3 (-1 : Int32))))), (a94, .inl (cI, (4, .inl (fun _ => 0)))), (a103, .inl (cI, (160, .inl (fun _ => 0)))), (a110, .inl (cI, (4, .inl (fun _ => 0)))), (a117, .inl (cI, (4, .inl (fun _ => 0)))), (a124, .inl (cI, (4, .inl (fun _ => 0)))), (a132, .inl (cI, (30, .inl (fun _ => 0))))] : va_W) := hD
  refine va_putF (C := RX7) (T := TX7) (N := 28) (own := RX7) (v := .ref a132) (D := D) (ty := tyX7 22) hx hb ht inlX7 tyX7 tyX7_ok nmX7 hown hK hP hD hS 0 rfl rfl 22 (Nat.le_of_ble_eq_true rfl) (ht _ mw_5_21) (fun _ h9 => h9) rfl hin rfl (tyX7_ok 22 (Nat.le_of_ble_eq_true rfl)) rfl rfl (Nat.le_of_ble_eq_true rfl) dX7_init_134 (fun H locs hP hD hS => ?_)
  have hP : va_P D vwCl ([(o, .inr (7, [.ref a7, .ref a15, .ref a23, .ref a31, .int 0, .ref a40, .int 0, .int 0, .int 0, .int 0, .int 0, .int 0, .ref a48, .ref a56, .ref a64, .int 0, .ref a71, .ref a94, .ref a103, .ref a110, .ref a117, .ref a124, .ref a132, .int 0, .int 0, .int 0, .int 0, .int 0])), (a7, .inl (cI, (53, .inl (fun _ => 0)))), (a15, .inl (cI, (53, .inl (fun _ => 0)))), (a23, .inl (cI, (53, .inl (fun _ => 0)))), (a31, .inl (cI, (53, .inl (fun _ => 0)))), (a40, .inl (cI, (200, .inl (fun _ => 0)))), (a48, .inl (cI, (6, .inl (fun _ => 0)))), (a56, .inl (cZ, (36, .inl (fun _ => 0)))), (a64, .inl (cI, (30, .inl (fun _ => 0)))), (a71, .inl (cI, (4, .inl (upd (upd (upd (upd (fun _ => 0) 0 (-1 : Int32)) 1 (-1 : Int32)) 2 (-1 : Int32)) 3 (-1 : Int32))))), (a94, .inl (cI, (4, .inl (fun _ => 0)))), (a103, .inl (cI, (160, .inl (fun _ => 0)))), (a110, .inl (cI, (4, .inl (fun _ => 0)))), (a117, .inl (cI, (4, .inl (fun _ => 0)))), (a124, .inl (cI, (4, .inl (fun _ => 0)))), (a132, .inl (cI, (30, .inl (fun _ => 0))))] : va_W) H := hP
  have hD : va_D A9 ([(o, .inr (7, [.ref a7, .ref a15, .ref a23, .ref a31, .int 0, .ref a40, .int 0, .int 0, .int 0, .int 0, .int 0, .int 0, .ref a48, .ref a56, .ref a64, .int 0, .ref a71, .ref a94, .ref a103, .ref a110, .ref a117, .ref a124, .ref a132, .int 0, .int 0, .int 0, .int 0, .int 0])), (a7, .inl (cI, (53, .inl (fun _ => 0)))), (a15, .inl (cI, (53, .inl (fun _ => 0)))), (a23, .inl (cI, (53, .inl (fun _ => 0)))), (a31, .inl (cI, (53, .inl (fun _ => 0)))), (a40, .inl (cI, (200, .inl (fun _ => 0)))), (a48, .inl (cI, (6, .inl (fun _ => 0)))), (a56, .inl (cZ, (36, .inl (fun _ => 0)))), (a64, .inl (cI, (30, .inl (fun _ => 0)))), (a71, .inl (cI, (4, .inl (upd (upd (upd (upd (fun _ => 0) 0 (-1 : Int32)) 1 (-1 : Int32)) 2 (-1 : Int32)) 3 (-1 : Int32))))), (a94, .inl (cI, (4, .inl (fun _ => 0)))), (a103, .inl (cI, (160, .inl (fun _ => 0)))), (a110, .inl (cI, (4, .inl (fun _ => 0)))), (a117, .inl (cI, (4, .inl (fun _ => 0)))), (a124, .inl (cI, (4, .inl (fun _ => 0)))), (a132, .inl (cI, (30, .inl (fun _ => 0))))] : va_W) := hD
  refine lv_aload_n hx hb dX7_init_137 rfl (lv_at hl 0 rfl) ?_
  have hP : va_P D vwCl (wX7 cI cZ o (fun k => [a7, a15, a23, a31, 0, a40, 0, 0, 0, 0, 0, 0, a48, a56, a64, 0, a71, a94, a103, a110, a117, a124, a132, 0, 0, 0, 0, 0].getD k 0) (fun _ => 0) (va_up (fun _ _ => 0) 16 (upd (upd (upd (upd (fun _ => 0) 0 (-1 : Int32)) 1 (-1 : Int32)) 2 (-1 : Int32)) 3 (-1 : Int32))) : va_W) H := hP
  have hD : va_D A9 (wX7 cI cZ o (fun k => [a7, a15, a23, a31, 0, a40, 0, 0, 0, 0, 0, 0, a48, a56, a64, 0, a71, a94, a103, a110, a117, a124, a132, 0, 0, 0, 0, 0].getD k 0) (fun _ => 0) (va_up (fun _ _ => 0) 16 (upd (upd (upd (upd (fun _ => 0) 0 (-1 : Int32)) 1 (-1 : Int32)) 2 (-1 : Int32)) 3 (-1 : Int32))) : va_W) := hD
  refine W.widen (k := 15) (n := 694) (Nat.le_of_ble_eq_true rfl) (Nat.le_of_ble_eq_true rfl) ?_
  refine C_vv (wr := []) X hP hD hS [] [] (w_X7_begins l D cI cZ cR adK adV _ o (fun k => [a7, a15, a23, a31, 0, a40, 0, 0, 0, 0, 0, 0, a48, a56, a64, 0, a71, a94, a103, a110, a117, a124, a132, 0, 0, 0, 0, 0].getD k 0) (fun _ => 0) (va_up (fun _ _ => 0) 16 (upd (upd (upd (upd (fun _ => 0) 0 (-1 : Int32)) 1 (-1 : Int32)) 2 (-1 : Int32)) 3 (-1 : Int32))) _ h) cal_X7_begins mw_5_22 rfl [0, 1, 2, 3, 4, 5, 6, 7, 8, 9, 10, 11, 12, 13, 14, 15] [] [0, 1, 2, 3, 4, 5, 6, 7, 8, 9, 10, 11, 12, 13, 14, 15] (fun u => (wX7 cI cZ o (fun k => [a7, a15, a23, a31, 0, a40, 0, 0, 0, 0, 0, 0, a48, a56, a64, 0, a71, a94, a103, a110, a117, a124, a132, 0, 0, 0, 0, 0].getD k 0) u.1 u.2 : va_W)) rfl rfl (fun _ => rfl) rfl 0 rfl rfl ⟨rfl, rfl⟩ ⟨Nat.le_of_ble_eq_true rfl, Nat.le_of_ble_eq_true rfl⟩ hl.1 rfl (Nat.le_of_ble_eq_true rfl) ⟨Nat.le_of_ble_eq_true rfl, Nat.le_of_ble_eq_true rfl⟩ dX7_init_138 (fun u H locs h hP hD hS => ?_)
  obtain ⟨F1, A1⟩ := u
  try dsimp only at h
  have hP : va_P D vwCl (wX7 cI cZ o (fun k => [a7, a15, a23, a31, 0, a40, 0, 0, 0, 0, 0, 0, a48, a56, a64, 0, a71, a94, a103, a110, a117, a124, a132, 0, 0, 0, 0, 0].getD k 0) F1 A1 : va_W) H := hP
  have hD : va_D A9 (wX7 cI cZ o (fun k => [a7, a15, a23, a31, 0, a40, 0, 0, 0, 0, 0, 0, a48, a56, a64, 0, a71, a94, a103, a110, a117, a124, a132, 0, 0, 0, 0, 0].getD k 0) F1 A1 : va_W) := hD
  refine lv_aload_n hx hb dX7_init_141 rfl (lv_at hl 0 rfl) ?_
  refine va_get (C := RX7) (T := TX7) (N := 28) (own := RX7) (v := .ref ((fun k => [a7, a15, a23, a31, 0, a40, 0, 0, 0, 0, 0, 0, a48, a56, a64, 0, a71, a94, a103, a110, a117, a124, a132, 0, 0, 0, 0, 0].getD k 0) 0)) hx hb ht inlX7 hown hK hP 0 rfl rfl 0 (Nat.le_of_ble_eq_true rfl) (ht _ mw_5_7) (fun _ h9 => h9) rfl dX7_init_142 ?_
  refine lv_iconst (v := 2) hx hb dX7_init_145 (by decide) ?_
  refine lv_iconst (v := 1) hx hb dX7_init_146 (by decide) ?_
  refine g_iast (f := (A1 0)) (k := 2) (f2 := (upd (A1 0) 2 (1 : Int32))) hx hb hK hP hD hS 1 0 rfl rfl (vp_in_lit rfl) (by decide) rfl dX7_init_147 (fun H locs hP hD hS => ?_)
  have hP : va_P D vwCl (wX7 cI cZ o (fun k => [a7, a15, a23, a31, 0, a40, 0, 0, 0, 0, 0, 0, a48, a56, a64, 0, a71, a94, a103, a110, a117, a124, a132, 0, 0, 0, 0, 0].getD k 0) F1 (va_up A1 0 (upd (A1 0) 2 (1 : Int32))) : va_W) H := hP
  have hD : va_D A9 (wX7 cI cZ o (fun k => [a7, a15, a23, a31, 0, a40, 0, 0, 0, 0, 0, 0, a48, a56, a64, 0, a71, a94, a103, a110, a117, a124, a132, 0, 0, 0, 0, 0].getD k 0) F1 (va_up A1 0 (upd (A1 0) 2 (1 : Int32))) : va_W) := hD
  exact ret ((fun k => [a7, a15, a23, a31, 0, a40, 0, 0, 0, 0, 0, 0, a48, a56, a64, 0, a71, a94, a103, a110, a117, a124, a132, 0, 0, 0, 0, 0].getD k 0), F1, (va_up A1 0 (upd (A1 0) 2 (1 : Int32)))) _ _ _ _ dX7_init_148 h hP hD hS
theorem dX6_init_0 : decode cX6_init 0 = .ok (.aload_n 0, 1) := by decide +kernel
theorem dX6_init_1 : decode cX6_init 1 = .ok (.invokespecial 1, 3) := by decide +kernel
theorem dX6_init_4 : decode cX6_init 4 = .ok (.aload_n 0, 1) := by decide +kernel
theorem dX6_init_5 : decode cX6_init 5 = .ok (.new 7, 3) := by decide +kernel
theorem dX6_init_8 : decode cX6_init 8 = .ok (.dup, 1) := by decide +kernel
theorem dX6_init_9 : decode cX6_init 9 = .ok (.invokespecial 9, 3) := by decide +kernel
theorem dX6_init_12 : decode cX6_init 12 = .ok (.putfield 10, 3) := by decide +kernel
theorem dX6_init_15 : decode cX6_init 15 = .ok (.aload_n 0, 1) := by decide +kernel
theorem dX6_init_16 : decode cX6_init 16 = .ok (.new 7, 3) := by decide +kernel
theorem dX6_init_19 : decode cX6_init 19 = .ok (.dup, 1) := by decide +kernel
theorem dX6_init_20 : decode cX6_init 20 = .ok (.invokespecial 9, 3) := by decide +kernel
theorem dX6_init_23 : decode cX6_init 23 = .ok (.putfield 16, 3) := by decide +kernel
theorem dX6_init_26 : decode cX6_init 26 = .ok (.aload_n 0, 1) := by decide +kernel
theorem dX6_init_27 : decode cX6_init 27 = .ok (.new 7, 3) := by decide +kernel
theorem dX6_init_30 : decode cX6_init 30 = .ok (.dup, 1) := by decide +kernel
theorem dX6_init_31 : decode cX6_init 31 = .ok (.invokespecial 9, 3) := by decide +kernel
theorem dX6_init_34 : decode cX6_init 34 = .ok (.putfield 19, 3) := by decide +kernel
theorem dX6_init_37 : decode cX6_init 37 = .ok (.aload_n 0, 1) := by decide +kernel
theorem dX6_init_38 : decode cX6_init 38 = .ok (.iconst 0, 1) := by decide +kernel
theorem dX6_init_39 : decode cX6_init 39 = .ok (.putfield 22, 3) := by decide +kernel
theorem dX6_init_42 : decode cX6_init 42 = .ok (.aload_n 0, 1) := by decide +kernel
theorem dX6_init_43 : decode cX6_init 43 = .ok (.new 26, 3) := by decide +kernel
theorem dX6_init_46 : decode cX6_init 46 = .ok (.dup, 1) := by decide +kernel
theorem dX6_init_47 : decode cX6_init 47 = .ok (.invokespecial 28, 3) := by decide +kernel
theorem dX6_init_50 : decode cX6_init 50 = .ok (.putfield 29, 3) := by decide +kernel
theorem dX6_init_53 : decode cX6_init 53 = .ok (.aload_n 0, 1) := by decide +kernel
theorem dX6_init_54 : decode cX6_init 54 = .ok (.new 33, 3) := by decide +kernel
theorem dX6_init_57 : decode cX6_init 57 = .ok (.dup, 1) := by decide +kernel
theorem dX6_init_58 : decode cX6_init 58 = .ok (.invokespecial 35, 3) := by decide +kernel
theorem dX6_init_61 : decode cX6_init 61 = .ok (.putfield 36, 3) := by decide +kernel
theorem dX6_init_64 : decode cX6_init 64 = .ok (.aload_n 0, 1) := by decide +kernel
theorem dX6_init_65 : decode cX6_init 65 = .ok (.new 40, 3) := by decide +kernel
theorem dX6_init_68 : decode cX6_init 68 = .ok (.dup, 1) := by decide +kernel
theorem dX6_init_69 : decode cX6_init 69 = .ok (.invokespecial 42, 3) := by decide +kernel
theorem dX6_init_72 : decode cX6_init 72 = .ok (.putfield 43, 3) := by decide +kernel
theorem dX6_init_75 : decode cX6_init 75 = .ok (.aload_n 0, 1) := by decide +kernel
theorem dX6_init_76 : decode cX6_init 76 = .ok (.new 47, 3) := by decide +kernel
theorem dX6_init_79 : decode cX6_init 79 = .ok (.dup, 1) := by decide +kernel
theorem dX6_init_80 : decode cX6_init 80 = .ok (.invokespecial 49, 3) := by decide +kernel
theorem dX6_init_83 : decode cX6_init 83 = .ok (.putfield 50, 3) := by decide +kernel
theorem dX6_init_86 : decode cX6_init 86 = .ok (.aload_n 0, 1) := by decide +kernel
theorem dX6_init_87 : decode cX6_init 87 = .ok (.bipush 30, 2) := by decide +kernel
theorem dX6_init_89 : decode cX6_init 89 = .ok (.newarray .int, 2) := by decide +kernel
theorem dX6_init_91 : decode cX6_init 91 = .ok (.putfield 54, 3) := by decide +kernel
theorem dX6_init_94 : decode cX6_init 94 = .ok (.aload_n 0, 1) := by decide +kernel
theorem dX6_init_95 : decode cX6_init 95 = .ok (.iconst 0, 1) := by decide +kernel
theorem dX6_init_96 : decode cX6_init 96 = .ok (.putfield 58, 3) := by decide +kernel
theorem dX6_init_99 : decode cX6_init 99 = .ok (.aload_n 0, 1) := by decide +kernel
theorem dX6_init_100 : decode cX6_init 100 = .ok (.iconst 4, 1) := by decide +kernel
theorem dX6_init_101 : decode cX6_init 101 = .ok (.anewarray 62, 3) := by decide +kernel
theorem dX6_init_104 : decode cX6_init 104 = .ok (.putfield 64, 3) := by decide +kernel
theorem dX6_init_107 : decode cX6_init 107 = .ok (.aload_n 0, 1) := by decide +kernel
theorem dX6_init_108 : decode cX6_init 108 = .ok (.iconst 4, 1) := by decide +kernel
theorem dX6_init_109 : decode cX6_init 109 = .ok (.anewarray 62, 3) := by decide +kernel
theorem dX6_init_112 : decode cX6_init 112 = .ok (.putfield 68, 3) := by decide +kernel
theorem dX6_init_115 : decode cX6_init 115 = .ok (.aload_n 0, 1) := by decide +kernel
theorem dX6_init_116 : decode cX6_init 116 = .ok (.iconst 4, 1) := by decide +kernel
theorem dX6_init_117 : decode cX6_init 117 = .ok (.newarray .int, 2) := by decide +kernel
theorem dX6_init_119 : decode cX6_init 119 = .ok (.putfield 71, 3) := by decide +kernel
theorem dX6_init_122 : decode cX6_init 122 = .ok (.iconst 0, 1) := by decide +kernel
theorem dX6_init_123 : decode cX6_init 123 = .ok (.istore_n 1, 1) := by decide +kernel
theorem dX6_init_124 : decode cX6_init 124 = .ok (.iload_n 1, 1) := by decide +kernel
theorem dX6_init_125 : decode cX6_init 125 = .ok (.iconst 4, 1) := by decide +kernel
theorem dX6_init_126 : decode cX6_init 126 = .ok (.if_icmp .ge 16, 3) := by decide +kernel
theorem dX6_init_129 : decode cX6_init 129 = .ok (.aload_n 0, 1) := by decide +kernel
theorem dX6_init_130 : decode cX6_init 130 = .ok (.getfield 71, 3) := by decide +kernel
theorem dX6_init_133 : decode cX6_init 133 = .ok (.iload_n 1, 1) := by decide +kernel
theorem dX6_init_134 : decode cX6_init 134 = .ok (.iconst (-1), 1) := by decide +kernel
theorem dX6_init_135 : decode cX6_init 135 = .ok (.iastore, 1) := by decide +kernel
theorem dX6_init_136 : decode cX6_init 136 = .ok (.iinc 1 1, 3) := by decide +kernel
theorem dX6_init_139 : decode cX6_init 139 = .ok (.goto (-15), 3) := by decide +kernel
theorem dX6_init_142 : decode cX6_init 142 = .ok (.return_, 1) := by decide +kernel
theorem cal_X6_init : CalI yX6_init cX6_init 2 0 := ⟨mw_1_9, mw_1_2, mw_1_8, rfl, ⟨by decide +kernel, by decide +kernel, by decide +kernel⟩⟩
abbrev tS6 : Type := (Nat → Nat) × tF × (Nat → Nat) × tF × tA × (Nat → Nat) × tF × tA × (Nat → Nat) × tF × tA × (Nat → Nat) × tF × tA × (Nat → Nat) × tF × tA × (Nat → Nat) × tF × tA × (Nat → Nat) × tF × tA × tF × tG × tG × tF
def p_X6_init (K : tF → tF → tA → tF → tA → tF → tA → tF → tA → tF → tA → tF → tA → tF → tA → tF → tG → tG → tF → Prop) : Prop := p_X2_init (fun Fn An => p_X2_init (fun Ft At => p_X2_init (fun Fk Ak => p_X3_init (fun Fp Ap => p_X0_init (fun Fb Ab => p_X1_init (fun Fd Ad => p_X4_init (fun Ff Af => K (fun _ => 0) Fn An Ft At Fk Ak Fp Ap Fb Ab Fd Ad Ff Af (fun _ => 0) (fun _ => none) (fun _ => none) (upd (upd (upd (upd (fun _ => 0) 0 (-1 : Int32)) 1 (-1 : Int32)) 2 (-1 : Int32)) 3 (-1 : Int32)))))))))
set_option maxHeartbeats 16000000 in
set_option maxRecDepth 100000 in
theorem w_X6_init (l : Launch) (D : va_G) (cI cZ cR : ClassId) (adK adV : Nat → Nat) (sz : Nat) (o : Nat) (K : tF → tF → tA → tF → tA → tF → tA → tF → tA → tF → tA → tF → tA → tF → tA → tF → tG → tG → tF → Prop) (h : p_X6_init K) : MVc l D cI cZ cR adK adV yX6_init cX6_init 2 ({ frames := 2, cells := 43, slots := 565, locals := 41 }) [.ref o] ([(o, .inr (6, [.null, .null, .null, .int 0, .null, .null, .null, .null, .null, .int 0, .null, .null, .null]))] : va_W) sz 43 565 (fun (u : tS6) => K u.2.1 u.2.2.2.1 u.2.2.2.2.1 u.2.2.2.2.2.2.1 u.2.2.2.2.2.2.2.1 u.2.2.2.2.2.2.2.2.2.1 u.2.2.2.2.2.2.2.2.2.2.1 u.2.2.2.2.2.2.2.2.2.2.2.2.1 u.2.2.2.2.2.2.2.2.2.2.2.2.2.1 u.2.2.2.2.2.2.2.2.2.2.2.2.2.2.2.1 u.2.2.2.2.2.2.2.2.2.2.2.2.2.2.2.2.1 u.2.2.2.2.2.2.2.2.2.2.2.2.2.2.2.2.2.2.1 u.2.2.2.2.2.2.2.2.2.2.2.2.2.2.2.2.2.2.2.1 u.2.2.2.2.2.2.2.2.2.2.2.2.2.2.2.2.2.2.2.2.2.1 u.2.2.2.2.2.2.2.2.2.2.2.2.2.2.2.2.2.2.2.2.2.2.1 u.2.2.2.2.2.2.2.2.2.2.2.2.2.2.2.2.2.2.2.2.2.2.2.1 u.2.2.2.2.2.2.2.2.2.2.2.2.2.2.2.2.2.2.2.2.2.2.2.2.1 u.2.2.2.2.2.2.2.2.2.2.2.2.2.2.2.2.2.2.2.2.2.2.2.2.2.1 u.2.2.2.2.2.2.2.2.2.2.2.2.2.2.2.2.2.2.2.2.2.2.2.2.2.2) (fun (u : tS6) => (wX6 o u.1 u.2.1 ++ wX2 cI cZ (u.1 0) u.2.2.1 u.2.2.2.1 u.2.2.2.2.1 ++ wX2 cI cZ (u.1 1) u.2.2.2.2.2.1 u.2.2.2.2.2.2.1 u.2.2.2.2.2.2.2.1 ++ wX2 cI cZ (u.1 2) u.2.2.2.2.2.2.2.2.1 u.2.2.2.2.2.2.2.2.2.1 u.2.2.2.2.2.2.2.2.2.2.1 ++ wX3 cI cZ (u.1 4) u.2.2.2.2.2.2.2.2.2.2.2.1 u.2.2.2.2.2.2.2.2.2.2.2.2.1 u.2.2.2.2.2.2.2.2.2.2.2.2.2.1 ++ wX0 cI cZ (u.1 5) u.2.2.2.2.2.2.2.2.2.2.2.2.2.2.1 u.2.2.2.2.2.2.2.2.2.2.2.2.2.2.2.1 u.2.2.2.2.2.2.2.2.2.2.2.2.2.2.2.2.1 ++ wX1 cI cZ (u.1 6) u.2.2.2.2.2.2.2.2.2.2.2.2.2.2.2.2.2.1 u.2.2.2.2.2.2.2.2.2.2.2.2.2.2.2.2.2.2.1 u.2.2.2.2.2.2.2.2.2.2.2.2.2.2.2.2.2.2.2.1 ++ wX4 cI cZ (u.1 7) u.2.2.2.2.2.2.2.2.2.2.2.2.2.2.2.2.2.2.2.2.1 u.2.2.2.2.2.2.2.2.2.2.2.2.2.2.2.2.2.2.2.2.2.1 u.2.2.2.2.2.2.2.2.2.2.2.2.2.2.2.2.2.2.2.2.2.2.1 ++ wI cI (u.1 8) 30 u.2.2.2.2.2.2.2.2.2.2.2.2.2.2.2.2.2.2.2.2.2.2.2.1 ++ wQ cR (u.1 10) u.2.2.2.2.2.2.2.2.2.2.2.2.2.2.2.2.2.2.2.2.2.2.2.2.1 ++ wQ cR (u.1 11) u.2.2.2.2.2.2.2.2.2.2.2.2.2.2.2.2.2.2.2.2.2.2.2.2.2.1 ++ wI cI (u.1 12) 4 u.2.2.2.2.2.2.2.2.2.2.2.2.2.2.2.2.2.2.2.2.2.2.2.2.2.2 : va_W)) := by
  refine M_vc (by decide +kernel) (Nat.le_of_ble_eq_true rfl) rfl ?_
  intro p e s m args below meth c Q A9 ls X hin ret hP hD hS hl
  obtain ⟨hx, hb, hml, ht, hown, hK, hA, hE⟩ := id X
  have hl : lv_has ls 2 [(0, .ref o)] := hl
  unfold p_X6_init at h
  refine lv_aload_n hx hb dX6_init_0 rfl (lv_at hl 0 rfl) ?_
  refine W.objInit hx hb hown (ht _ mw_1_10) (ht _ mw_1_11) (ht _ mw_1_12) rfl (by rw [hml]; exact hl.1) rfl dX6_init_1 (Nat.le_of_ble_eq_true rfl) (Nat.le_of_ble_eq_true rfl) ?_
  refine W.eq (g2 := F0 m 4 ls []) rfl ?_
  refine lv_aload_n hx hb dX6_init_4 rfl (lv_at hl 0 rfl) ?_
  refine va_new (ci := 2) (fs := [.null, .null, .null, .null, .null, .null, .null, .null, .int 0, .int 0, .int 0, .int 0, .int 0]) (C := RX2) (T := TX2) (N := 13) (own := RX6) hx hb ht inlX2 tyX2 tyX2_ok hown (ht _ mw_1_13) (ht _ mw_1_14) (ht _ mw_1_15) hK hP hD hS hA rfl (by intro j hj; rcases (show j = 0 ∨ j = 1 ∨ j = 2 ∨ j = 3 ∨ j = 4 ∨ j = 5 ∨ j = 6 ∨ j = 7 ∨ j = 8 ∨ j = 9 ∨ j = 10 ∨ j = 11 ∨ j = 12 by omega) with rfl | rfl | rfl | rfl | rfl | rfl | rfl | rfl | rfl | rfl | rfl | rfl | rfl <;> rfl) (Nat.le_of_ble_eq_true rfl) (Nat.le_of_ble_eq_true rfl) dX6_init_5 (fun on H hP hD hS => ?_)
  have hP : va_P D vwCl ([(o, .inr (6, [.null, .null, .null, .int 0, .null, .null, .null, .null, .null, .int 0, .null, .null, .null]))] ++ [(on, .inr (2, [.null, .null, .null, .null, .null, .null, .null, .null, .int 0, .int 0, .int 0, .int 0, .int 0]))] : va_W) H := hP
  have hD : va_D A9 ([(o, .inr (6, [.null, .null, .null, .int 0, .null, .null, .null, .null, .null, .int 0, .null, .null, .null]))] ++ [(on, .inr (2, [.null, .null, .null, .null, .null, .null, .null, .null, .int 0, .int 0, .int 0, .int 0, .int 0]))] : va_W) := hD
  refine W.widen (k := 1) (n := 13) (Nat.le_of_ble_eq_true rfl) (Nat.le_of_ble_eq_true rfl) ?_
  refine lv_dup hx hb dX6_init_8 rfl ?_
  refine C_I (wr := [0].filterMap (fun i => ([(o, .inr (6, [.null, .null, .null, .int 0, .null, .null, .null, .null, .null, .int 0, .null, .null, .null]))] ++ [(on, .inr (2, [.null, .null, .null, .null, .null, .null, .null, .null, .int 0, .int 0, .int 0, .int 0, .int 0]))] : va_W)[i]?)) X hP hD hS [] [.ref on, .ref o] (w_X2_init l D cI cZ cR adK adV _ on _ h) cal_X2_init mw_2_19 rfl [1] [0] [0, 1, 2, 3, 4, 5, 6, 7, 8, 9] (fun u => ([(o, .inr (6, [.null, .null, .null, .int 0, .null, .null, .null, .null, .null, .int 0, .null, .null, .null]))] ++ wX2 cI cZ on u.1 u.2.1 u.2.2 : va_W)) rfl rfl (fun _ => rfl) rfl ⟨rfl, rfl⟩ ⟨Nat.le_of_ble_eq_true rfl, Nat.le_of_ble_eq_true rfl⟩ hl.1 rfl (Nat.le_of_ble_eq_true rfl) ⟨Nat.le_of_ble_eq_true rfl, Nat.le_of_ble_eq_true rfl⟩ dX6_init_9 (fun u H locs h hP hD hS => ?_)
  obtain ⟨qn, Fn, An⟩ := u
  try dsimp only at h
  have hP : va_P D vwCl ([(o, .inr (6, [.null, .null, .null, .int 0, .null, .null, .null, .null, .null, .int 0, .null, .null, .null]))] ++ wX2 cI cZ on qn Fn An : va_W) H := hP
  have hD : va_D A9 ([(o, .inr (6, [.null, .null, .null, .int 0, .null, .null, .null, .null, .null, .int 0, .null, .null, .null]))] ++ wX2 cI cZ on qn Fn An : va_W) := hD
  refine W.widen (k := 9) (n := 67) (Nat.le_of_ble_eq_true rfl) (Nat.le_of_ble_eq_true rfl) ?_
  refine va_putF (C := RX6) (T := TX6) (N := 13) (own := RX6) (v := .ref on) (D := D) (ty := tyX6 0) hx hb ht inlX6 tyX6 tyX6_ok nmX6 hown hK hP hD hS 0 rfl rfl 0 (Nat.le_of_ble_eq_true rfl) (ht _ mw_1_16) (fun _ h9 => h9) rfl hin rfl (tyX6_ok 0 (Nat.le_of_ble_eq_true rfl)) rfl rfl (Nat.le_of_ble_eq_true rfl) dX6_init_12 (fun H locs hP hD hS => ?_)
  have hP : va_P D vwCl ([(o, .inr (6, [.ref on, .null, .null, .int 0, .null, .null, .null, .null, .null, .int 0, .null, .null, .null]))] ++ wX2 cI cZ on qn Fn An : va_W) H := hP
  have hD : va_D A9 ([(o, .inr (6, [.ref on, .null, .null, .int 0, .null, .null, .null, .null, .null, .int 0, .null, .null, .null]))] ++ wX2 cI cZ on qn Fn An : va_W) := hD
  refine lv_aload_n hx hb dX6_init_15 rfl (lv_at hl 0 rfl) ?_
  refine va_new (ci := 2) (fs := [.null, .null, .null, .null, .null, .null, .null, .null, .int 0, .int 0, .int 0, .int 0, .int 0]) (C := RX2) (T := TX2) (N := 13) (own := RX6) hx hb ht inlX2 tyX2 tyX2_ok hown (ht _ mw_1_13) (ht _ mw_1_14) (ht _ mw_1_15) hK hP hD hS hA rfl (by intro j hj; rcases (show j = 0 ∨ j = 1 ∨ j = 2 ∨ j = 3 ∨ j = 4 ∨ j = 5 ∨ j = 6 ∨ j = 7 ∨ j = 8 ∨ j = 9 ∨ j = 10 ∨ j = 11 ∨ j = 12 by omega) with rfl | rfl | rfl | rfl | rfl | rfl | rfl | rfl | rfl | rfl | rfl | rfl | rfl <;> rfl) (Nat.le_of_ble_eq_true rfl) (Nat.le_of_ble_eq_true rfl) dX6_init_16 (fun ot H hP hD hS => ?_)
  have hP : va_P D vwCl ([(o, .inr (6, [.ref on, .null, .null, .int 0, .null, .null, .null, .null, .null, .int 0, .null, .null, .null]))] ++ wX2 cI cZ on qn Fn An ++ [(ot, .inr (2, [.null, .null, .null, .null, .null, .null, .null, .null, .int 0, .int 0, .int 0, .int 0, .int 0]))] : va_W) H := hP
  have hD : va_D A9 ([(o, .inr (6, [.ref on, .null, .null, .int 0, .null, .null, .null, .null, .null, .int 0, .null, .null, .null]))] ++ wX2 cI cZ on qn Fn An ++ [(ot, .inr (2, [.null, .null, .null, .null, .null, .null, .null, .null, .int 0, .int 0, .int 0, .int 0, .int 0]))] : va_W) := hD
  refine W.widen (k := 10) (n := 80) (Nat.le_of_ble_eq_true rfl) (Nat.le_of_ble_eq_true rfl) ?_
  refine lv_dup hx hb dX6_init_19 rfl ?_
  refine C_I (wr := [0, 1, 2, 3, 4, 5, 6, 7, 8, 9].filterMap (fun i => ([(o, .inr (6, [.ref on, .null, .null, .int 0, .null, .null, .null, .null, .null, .int 0, .null, .null, .null]))] ++ wX2 cI cZ on qn Fn An ++ [(ot, .inr (2, [.null, .null, .null, .null, .null, .null, .null, .null, .int 0, .int 0, .int 0, .int 0, .int 0]))] : va_W)[i]?)) X hP hD hS [] [.ref ot, .ref o] (w_X2_init l D cI cZ cR adK adV _ ot _ h) cal_X2_init mw_2_19 rfl [10] [0, 1, 2, 3, 4, 5, 6, 7, 8, 9] [0, 1, 2, 3, 4, 5, 6, 7, 8, 9, 10, 11, 12, 13, 14, 15, 16, 17, 18] (fun u => ([(o, .inr (6, [.ref on, .null, .null, .int 0, .null, .null, .null, .null, .null, .int 0, .null, .null, .null]))] ++ wX2 cI cZ on qn Fn An ++ wX2 cI cZ ot u.1 u.2.1 u.2.2 : va_W)) rfl rfl (fun _ => rfl) rfl ⟨rfl, rfl⟩ ⟨Nat.le_of_ble_eq_true rfl, Nat.le_of_ble_eq_true rfl⟩ hl.1 rfl (Nat.le_of_ble_eq_true rfl) ⟨Nat.le_of_ble_eq_true rfl, Nat.le_of_ble_eq_true rfl⟩ dX6_init_20 (fun u H locs h hP hD hS => ?_)
  obtain ⟨qt, Ft, At⟩ := u
  try dsimp only at h
  have hP : va_P D vwCl ([(o, .inr (6, [.ref on, .null, .null, .int 0, .null, .null, .null, .null, .null, .int 0, .null, .null, .null]))] ++ wX2 cI cZ on qn Fn An ++ wX2 cI cZ ot qt Ft At : va_W) H := hP
  have hD : va_D A9 ([(o, .inr (6, [.ref on, .null, .null, .int 0, .null, .null, .null, .null, .null, .int 0, .null, .null, .null]))] ++ wX2 cI cZ on qn Fn An ++ wX2 cI cZ ot qt Ft At : va_W) := hD
  refine W.widen (k := 18) (n := 134) (Nat.le_of_ble_eq_true rfl) (Nat.le_of_ble_eq_true rfl) ?_
  refine va_putF (C := RX6) (T := TX6) (N := 13) (own := RX6) (v := .ref ot) (D := D) (ty := tyX6 1) hx hb ht inlX6 tyX6 tyX6_ok nmX6 hown hK hP hD hS 0 rfl rfl 1 (Nat.le_of_ble_eq_true rfl) (ht _ mw_1_17) (fun _ h9 => h9) rfl hin rfl (tyX6_ok 1 (Nat.le_of_ble_eq_true rfl)) rfl rfl (Nat.le_of_ble_eq_true rfl) dX6_init_23 (fun H locs hP hD hS => ?_)
  have hP : va_P D vwCl ([(o, .inr (6, [.ref on, .ref ot, .null, .int 0, .null, .null, .null, .null, .null, .int 0, .null, .null, .null]))] ++ wX2 cI cZ on qn Fn An ++ wX2 cI cZ ot qt Ft At : va_W) H := hP
  have hD : va_D A9 ([(o, .inr (6, [.ref on, .ref ot, .null, .int 0, .null, .null, .null, .null, .null, .int 0, .null, .null, .null]))] ++ wX2 cI cZ on qn Fn An ++ wX2 cI cZ ot qt Ft At : va_W) := hD
  refine lv_aload_n hx hb dX6_init_26 rfl (lv_at hl 0 rfl) ?_
  refine va_new (ci := 2) (fs := [.null, .null, .null, .null, .null, .null, .null, .null, .int 0, .int 0, .int 0, .int 0, .int 0]) (C := RX2) (T := TX2) (N := 13) (own := RX6) hx hb ht inlX2 tyX2 tyX2_ok hown (ht _ mw_1_13) (ht _ mw_1_14) (ht _ mw_1_15) hK hP hD hS hA rfl (by intro j hj; rcases (show j = 0 ∨ j = 1 ∨ j = 2 ∨ j = 3 ∨ j = 4 ∨ j = 5 ∨ j = 6 ∨ j = 7 ∨ j = 8 ∨ j = 9 ∨ j = 10 ∨ j = 11 ∨ j = 12 by omega) with rfl | rfl | rfl | rfl | rfl | rfl | rfl | rfl | rfl | rfl | rfl | rfl | rfl <;> rfl) (Nat.le_of_ble_eq_true rfl) (Nat.le_of_ble_eq_true rfl) dX6_init_27 (fun ok H hP hD hS => ?_)
  have hP : va_P D vwCl ([(o, .inr (6, [.ref on, .ref ot, .null, .int 0, .null, .null, .null, .null, .null, .int 0, .null, .null, .null]))] ++ wX2 cI cZ on qn Fn An ++ wX2 cI cZ ot qt Ft At ++ [(ok, .inr (2, [.null, .null, .null, .null, .null, .null, .null, .null, .int 0, .int 0, .int 0, .int 0, .int 0]))] : va_W) H := hP
  have hD : va_D A9 ([(o, .inr (6, [.ref on, .ref ot, .null, .int 0, .null, .null, .null, .null, .null, .int 0, .null, .null, .null]))] ++ wX2 cI cZ on qn Fn An ++ wX2 cI cZ ot qt Ft At ++ [(ok, .inr (2, [.null, .null, .null, .null, .null, .null, .null, .null, .int 0, .int 0, .int 0, .int 0, .int 0]))] : va_W) := hD
  refine W.widen (k := 19) (n := 147) (Nat.le_of_ble_eq_true rfl) (Nat.le_of_ble_eq_true rfl) ?_
  refine lv_dup hx hb dX6_init_30 rfl ?_
  refine C_I (wr := [0, 1, 2, 3, 4, 5, 6, 7, 8, 9, 10, 11, 12, 13, 14, 15, 16, 17, 18].filterMap (fun i => ([(o, .inr (6, [.ref on, .ref ot, .null, .int 0, .null, .null, .null, .null, .null, .int 0, .null, .null, .null]))] ++ wX2 cI cZ on qn Fn An ++ wX2 cI cZ ot qt Ft At ++ [(ok, .inr (2, [.null, .null, .null, .null, .null, .null, .null, .null, .int 0, .int 0, .int 0, .int 0, .int 0]))] : va_W)[i]?)) X hP hD hS [] [.ref ok, .ref o] (w_X2_init l D cI cZ cR adK adV _ ok _ h) cal_X2_init mw_2_19 rfl [19] [0, 1, 2, 3, 4, 5, 6, 7, 8, 9, 10, 11, 12, 13, 14, 15, 16, 17, 18] [0, 1, 2, 3, 4, 5, 6, 7, 8, 9, 10, 11, 12, 13, 14, 15, 16, 17, 18, 19, 20, 21, 22, 23, 24, 25, 26, 27] (fun u => ([(o, .inr (6, [.ref on, .ref ot, .null, .int 0, .null, .null, .null, .null, .null, .int 0, .null, .null, .null]))] ++ wX2 cI cZ on qn Fn An ++ wX2 cI cZ ot qt Ft At ++ wX2 cI cZ ok u.1 u.2.1 u.2.2 : va_W)) rfl rfl (fun _ => rfl) rfl ⟨rfl, rfl⟩ ⟨Nat.le_of_ble_eq_true rfl, Nat.le_of_ble_eq_true rfl⟩ hl.1 rfl (Nat.le_of_ble_eq_true rfl) ⟨Nat.le_of_ble_eq_true rfl, Nat.le_of_ble_eq_true rfl⟩ dX6_init_31 (fun u H locs h hP hD hS => ?_)
  obtain ⟨qk, Fk, Ak⟩ := u
  try dsimp only at h
  have hP : va_P D vwCl ([(o, .inr (6, [.ref on, .ref ot, .null, .int 0, .null, .null, .null, .null, .null, .int 0, .null, .null, .null]))] ++ wX2 cI cZ on qn Fn An ++ wX2 cI cZ ot qt Ft At ++ wX2 cI cZ ok qk Fk Ak : va_W) H := hP
  have hD : va_D A9 ([(o, .inr (6, [.ref on, .ref ot, .null, .int 0, .null, .null, .null, .null, .null, .int 0, .null, .null, .null]))] ++ wX2 cI cZ on qn Fn An ++ wX2 cI cZ ot qt Ft At ++ wX2 cI cZ ok qk Fk Ak : va_W) := hD
  refine W.widen (k := 27) (n := 201) (Nat.le_of_ble_eq_true rfl) (Nat.le_of_ble_eq_true rfl) ?_
  refine va_putF (C := RX6) (T := TX6) (N := 13) (own := RX6) (v := .ref ok) (D := D) (ty := tyX6 2) hx hb ht inlX6 tyX6 tyX6_ok nmX6 hown hK hP hD hS 0 rfl rfl 2 (Nat.le_of_ble_eq_true rfl) (ht _ mw_1_18) (fun _ h9 => h9) rfl hin rfl (tyX6_ok 2 (Nat.le_of_ble_eq_true rfl)) rfl rfl (Nat.le_of_ble_eq_true rfl) dX6_init_34 (fun H locs hP hD hS => ?_)
  have hP : va_P D vwCl ([(o, .inr (6, [.ref on, .ref ot, .ref ok, .int 0, .null, .null, .null, .null, .null, .int 0, .null, .null, .null]))] ++ wX2 cI cZ on qn Fn An ++ wX2 cI cZ ot qt Ft At ++ wX2 cI cZ ok qk Fk Ak : va_W) H := hP
  have hD : va_D A9 ([(o, .inr (6, [.ref on, .ref ot, .ref ok, .int 0, .null, .null, .null, .null, .null, .int 0, .null, .null, .null]))] ++ wX2 cI cZ on qn Fn An ++ wX2 cI cZ ot qt Ft At ++ wX2 cI cZ ok qk Fk Ak : va_W) := hD
  refine lv_aload_n hx hb dX6_init_37 rfl (lv_at hl 0 rfl) ?_
  refine lv_iconst (v := 0) hx hb dX6_init_38 (by decide) ?_
  refine va_put (C := RX6) (T := TX6) (N := 13) (own := RX6) (v := .int (0 : Int32)) (D := D) (ty := tyX6 3) hx hb ht inlX6 tyX6 tyX6_ok nmX6 hown hK hP hD hS 0 rfl rfl 3 (Nat.le_of_ble_eq_true rfl) (ht _ mw_1_19) (fun _ h9 => h9) rfl (tyX6_ok 3 (Nat.le_of_ble_eq_true rfl)) rfl rfl (Nat.le_of_ble_eq_true rfl) dX6_init_39 (fun H locs hP hD hS => ?_)
  have hP : va_P D vwCl ([(o, .inr (6, [.ref on, .ref ot, .ref ok, .int (0 : Int32), .null, .null, .null, .null, .null, .int 0, .null, .null, .null]))] ++ wX2 cI cZ on qn Fn An ++ wX2 cI cZ ot qt Ft At ++ wX2 cI cZ ok qk Fk Ak : va_W) H := hP
  have hD : va_D A9 ([(o, .inr (6, [.ref on, .ref ot, .ref ok, .int (0 : Int32), .null, .null, .null, .null, .null, .int 0, .null, .null, .null]))] ++ wX2 cI cZ on qn Fn An ++ wX2 cI cZ ot qt Ft At ++ wX2 cI cZ ok qk Fk Ak : va_W) := hD
  refine lv_aload_n hx hb dX6_init_42 rfl (lv_at hl 0 rfl) ?_
  refine va_new (ci := 3) (fs := [.null, .int 0, .int 0, .int 0]) (C := RX3) (T := TX3) (N := 4) (own := RX6) hx hb ht inlX3 tyX3 tyX3_ok hown (ht _ mw_1_20) (ht _ mw_1_21) (ht _ mw_1_22) hK hP hD hS hA rfl (by intro j hj; rcases (show j = 0 ∨ j = 1 ∨ j = 2 ∨ j = 3 by omega) with rfl | rfl | rfl | rfl <;> rfl) (Nat.le_of_ble_eq_true rfl) (Nat.le_of_ble_eq_true rfl) dX6_init_43 (fun op H hP hD hS => ?_)
  have hP : va_P D vwCl ([(o, .inr (6, [.ref on, .ref ot, .ref ok, .int (0 : Int32), .null, .null, .null, .null, .null, .int 0, .null, .null, .null]))] ++ wX2 cI cZ on qn Fn An ++ wX2 cI cZ ot qt Ft At ++ wX2 cI cZ ok qk Fk Ak ++ [(op, .inr (3, [.null, .int 0, .int 0, .int 0]))] : va_W) H := hP
  have hD : va_D A9 ([(o, .inr (6, [.ref on, .ref ot, .ref ok, .int (0 : Int32), .null, .null, .null, .null, .null, .int 0, .null, .null, .null]))] ++ wX2 cI cZ on qn Fn An ++ wX2 cI cZ ot qt Ft At ++ wX2 cI cZ ok qk Fk Ak ++ [(op, .inr (3, [.null, .int 0, .int 0, .int 0]))] : va_W) := hD
  refine W.widen (k := 28) (n := 205) (Nat.le_of_ble_eq_true rfl) (Nat.le_of_ble_eq_true rfl) ?_
  refine lv_dup hx hb dX6_init_46 rfl ?_
  refine C_I (wr := [0, 1, 2, 3, 4, 5, 6, 7, 8, 9, 10, 11, 12, 13, 14, 15, 16, 17, 18, 19, 20, 21, 22, 23, 24, 25, 26, 27].filterMap (fun i => ([(o, .inr (6, [.ref on, .ref ot, .ref ok, .int (0 : Int32), .null, .null, .null, .null, .null, .int 0, .null, .null, .null]))] ++ wX2 cI cZ on qn Fn An ++ wX2 cI cZ ot qt Ft At ++ wX2 cI cZ ok qk Fk Ak ++ [(op, .inr (3, [.null, .int 0, .int 0, .int 0]))] : va_W)[i]?)) X hP hD hS [] [.ref op, .ref o] (w_X3_init l D cI cZ cR adK adV _ op _ h) cal_X3_init mw_3_16 rfl [28] [0, 1, 2, 3, 4, 5, 6, 7, 8, 9, 10, 11, 12, 13, 14, 15, 16, 17, 18, 19, 20, 21, 22, 23, 24, 25, 26, 27] [0, 1, 2, 3, 4, 5, 6, 7, 8, 9, 10, 11, 12, 13, 14, 15, 16, 17, 18, 19, 20, 21, 22, 23, 24, 25, 26, 27, 28, 29] (fun u => ([(o, .inr (6, [.ref on, .ref ot, .ref ok, .int (0 : Int32), .null, .null, .null, .null, .null, .int 0, .null, .null, .null]))] ++ wX2 cI cZ on qn Fn An ++ wX2 cI cZ ot qt Ft At ++ wX2 cI cZ ok qk Fk Ak ++ wX3 cI cZ op u.1 u.2.1 u.2.2 : va_W)) rfl rfl (fun _ => rfl) rfl ⟨rfl, rfl⟩ ⟨Nat.le_of_ble_eq_true rfl, Nat.le_of_ble_eq_true rfl⟩ hl.1 rfl (Nat.le_of_ble_eq_true rfl) ⟨Nat.le_of_ble_eq_true rfl, Nat.le_of_ble_eq_true rfl⟩ dX6_init_47 (fun u H locs h hP hD hS => ?_)
  obtain ⟨qp, Fp, Ap⟩ := u
  try dsimp only at h
  have hP : va_P D vwCl ([(o, .inr (6, [.ref on, .ref ot, .ref ok, .int (0 : Int32), .null, .null, .null, .null, .null, .int 0, .null, .null, .null]))] ++ wX2 cI cZ on qn Fn An ++ wX2 cI cZ ot qt Ft At ++ wX2 cI cZ ok qk Fk Ak ++ wX3 cI cZ op qp Fp Ap : va_W) H := hP
  have hD : va_D A9 ([(o, .inr (6, [.ref on, .ref ot, .ref ok, .int (0 : Int32), .null, .null, .null, .null, .null, .int 0, .null, .null, .null]))] ++ wX2 cI cZ on qn Fn An ++ wX2 cI cZ ot qt Ft At ++ wX2 cI cZ ok qk Fk Ak ++ wX3 cI cZ op qp Fp Ap : va_W) := hD
  refine W.widen (k := 29) (n := 405) (Nat.le_of_ble_eq_true rfl) (Nat.le_of_ble_eq_true rfl) ?_
  refine va_putF (C := RX6) (T := TX6) (N := 13) (own := RX6) (v := .ref op) (D := D) (ty := tyX6 4) hx hb ht inlX6 tyX6 tyX6_ok nmX6 hown hK hP hD hS 0 rfl rfl 4 (Nat.le_of_ble_eq_true rfl) (ht _ mw_1_23) (fun _ h9 => h9) rfl hin rfl (tyX6_ok 4 (Nat.le_of_ble_eq_true rfl)) rfl rfl (Nat.le_of_ble_eq_true rfl) dX6_init_50 (fun H locs hP hD hS => ?_)
  have hP : va_P D vwCl ([(o, .inr (6, [.ref on, .ref ot, .ref ok, .int (0 : Int32), .ref op, .null, .null, .null, .null, .int 0, .null, .null, .null]))] ++ wX2 cI cZ on qn Fn An ++ wX2 cI cZ ot qt Ft At ++ wX2 cI cZ ok qk Fk Ak ++ wX3 cI cZ op qp Fp Ap : va_W) H := hP
  have hD : va_D A9 ([(o, .inr (6, [.ref on, .ref ot, .ref ok, .int (0 : Int32), .ref op, .null, .null, .null, .null, .int 0, .null, .null, .null]))] ++ wX2 cI cZ on qn Fn An ++ wX2 cI cZ ot qt Ft At ++ wX2 cI cZ ok qk Fk Ak ++ wX3 cI cZ op qp Fp Ap : va_W) := hD
  refine lv_aload_n hx hb dX6_init_53 rfl (lv_at hl 0 rfl) ?_
  refine va_new (ci := 0) (fs := [.null, .null, .null, .null]) (C := RX0) (T := TX0) (N := 4) (own := RX6) hx hb ht inlX0 tyX0 tyX0_ok hown (ht _ mw_2_0) (ht _ mw_2_1) (ht _ mw_2_2) hK hP hD hS hA rfl (by intro j hj; rcases (show j = 0 ∨ j = 1 ∨ j = 2 ∨ j = 3 by omega) with rfl | rfl | rfl | rfl <;> rfl) (Nat.le_of_ble_eq_true rfl) (Nat.le_of_ble_eq_true rfl) dX6_init_54 (fun ob H hP hD hS => ?_)
  have hP : va_P D vwCl ([(o, .inr (6, [.ref on, .ref ot, .ref ok, .int (0 : Int32), .ref op, .null, .null, .null, .null, .int 0, .null, .null, .null]))] ++ wX2 cI cZ on qn Fn An ++ wX2 cI cZ ot qt Ft At ++ wX2 cI cZ ok qk Fk Ak ++ wX3 cI cZ op qp Fp Ap ++ [(ob, .inr (0, [.null, .null, .null, .null]))] : va_W) H := hP
  have hD : va_D A9 ([(o, .inr (6, [.ref on, .ref ot, .ref ok, .int (0 : Int32), .ref op, .null, .null, .null, .null, .int 0, .null, .null, .null]))] ++ wX2 cI cZ on qn Fn An ++ wX2 cI cZ ot qt Ft At ++ wX2 cI cZ ok qk Fk Ak ++ wX3 cI cZ op qp Fp Ap ++ [(ob, .inr (0, [.null, .null, .null, .null]))] : va_W) := hD
  refine W.widen (k := 30) (n := 409) (Nat.le_of_ble_eq_true rfl) (Nat.le_of_ble_eq_true rfl) ?_
  refine lv_dup hx hb dX6_init_57 rfl ?_
  refine C_I (wr := [0, 1, 2, 3, 4, 5, 6, 7, 8, 9, 10, 11, 12, 13, 14, 15, 16, 17, 18, 19, 20, 21, 22, 23, 24, 25, 26, 27, 28, 29].filterMap (fun i => ([(o, .inr (6, [.ref on, .ref ot, .ref ok, .int (0 : Int32), .ref op, .null, .null, .null, .null, .int 0, .null, .null, .null]))] ++ wX2 cI cZ on qn Fn An ++ wX2 cI cZ ot qt Ft At ++ wX2 cI cZ ok qk Fk Ak ++ wX3 cI cZ op qp Fp Ap ++ [(ob, .inr (0, [.null, .null, .null, .null]))] : va_W)[i]?)) X hP hD hS [] [.ref ob, .ref o] (w_X0_init l D cI cZ cR adK adV _ ob _ h) cal_X0_init mw_4_0 rfl [30] [0, 1, 2, 3, 4, 5, 6, 7, 8, 9, 10, 11, 12, 13, 14, 15, 16, 17, 18, 19, 20, 21, 22, 23, 24, 25, 26, 27, 28, 29] [0, 1, 2, 3, 4, 5, 6, 7, 8, 9, 10, 11, 12, 13, 14, 15, 16, 17, 18, 19, 20, 21, 22, 23, 24, 25, 26, 27, 28, 29, 30, 31, 32, 33, 34] (fun u => ([(o, .inr (6, [.ref on, .ref ot, .ref ok, .int (0 : Int32), .ref op, .null, .null, .null, .null, .int 0, .null, .null, .null]))] ++ wX2 cI cZ on qn Fn An ++ wX2 cI cZ ot qt Ft At ++ wX2 cI cZ ok qk Fk Ak ++ wX3 cI cZ op qp Fp Ap ++ wX0 cI cZ ob u.1 u.2.1 u.2.2 : va_W)) rfl rfl (fun _ => rfl) rfl ⟨rfl, rfl⟩ ⟨Nat.le_of_ble_eq_true rfl, Nat.le_of_ble_eq_true rfl⟩ hl.1 rfl (Nat.le_of_ble_eq_true rfl) ⟨Nat.le_of_ble_eq_true rfl, Nat.le_of_ble_eq_true rfl⟩ dX6_init_58 (fun u H locs h hP hD hS => ?_)
  obtain ⟨qb, Fb, Ab⟩ := u
  try dsimp only at h
  have hP : va_P D vwCl ([(o, .inr (6, [.ref on, .ref ot, .ref ok, .int (0 : Int32), .ref op, .null, .null, .null, .null, .int 0, .null, .null, .null]))] ++ wX2 cI cZ on qn Fn An ++ wX2 cI cZ ot qt Ft At ++ wX2 cI cZ ok qk Fk Ak ++ wX3 cI cZ op qp Fp Ap ++ wX0 cI cZ ob qb Fb Ab : va_W) H := hP
  have hD : va_D A9 ([(o, .inr (6, [.ref on, .ref ot, .ref ok, .int (0 : Int32), .ref op, .null, .null, .null, .null, .int 0, .null, .null, .null]))] ++ wX2 cI cZ on qn Fn An ++ wX2 cI cZ ot qt Ft At ++ wX2 cI cZ ok qk Fk Ak ++ wX3 cI cZ op qp Fp Ap ++ wX0 cI cZ ob qb Fb Ab : va_W) := hD
  refine W.widen (k := 34) (n := 441) (Nat.le_of_ble_eq_true rfl) (Nat.le_of_ble_eq_true rfl) ?_
  refine va_putF (C := RX6) (T := TX6) (N := 13) (own := RX6) (v := .ref ob) (D := D) (ty := tyX6 5) hx hb ht inlX6 tyX6 tyX6_ok nmX6 hown hK hP hD hS 0 rfl rfl 5 (Nat.le_of_ble_eq_true rfl) (ht _ mw_2_3) (fun _ h9 => h9) rfl hin rfl (tyX6_ok 5 (Nat.le_of_ble_eq_true rfl)) rfl rfl (Nat.le_of_ble_eq_true rfl) dX6_init_61 (fun H locs hP hD hS => ?_)
  have hP : va_P D vwCl ([(o, .inr (6, [.ref on, .ref ot, .ref ok, .int (0 : Int32), .ref op, .ref ob, .null, .null, .null, .int 0, .null, .null, .null]))] ++ wX2 cI cZ on qn Fn An ++ wX2 cI cZ ot qt Ft At ++ wX2 cI cZ ok qk Fk Ak ++ wX3 cI cZ op qp Fp Ap ++ wX0 cI cZ ob qb Fb Ab : va_W) H := hP
  have hD : va_D A9 ([(o, .inr (6, [.ref on, .ref ot, .ref ok, .int (0 : Int32), .ref op, .ref ob, .null, .null, .null, .int 0, .null, .null, .null]))] ++ wX2 cI cZ on qn Fn An ++ wX2 cI cZ ot qt Ft At ++ wX2 cI cZ ok qk Fk Ak ++ wX3 cI cZ op qp Fp Ap ++ wX0 cI cZ ob qb Fb Ab : va_W) := hD
  refine lv_aload_n hx hb dX6_init_64 rfl (lv_at hl 0 rfl) ?_
  refine va_new (ci := 1) (fs := [.null, .null, .int 0, .int 0]) (C := RX1) (T := TX1) (N := 4) (own := RX6) hx hb ht inlX1 tyX1 tyX1_ok hown (ht _ mw_2_4) (ht _ mw_2_5) (ht _ mw_2_6) hK hP hD hS hA rfl (by intro j hj; rcases (show j = 0 ∨ j = 1 ∨ j = 2 ∨ j = 3 by omega) with rfl | rfl | rfl | rfl <;> rfl) (Nat.le_of_ble_eq_true rfl) (Nat.le_of_ble_eq_true rfl) dX6_init_65 (fun od H hP hD hS => ?_)
  have hP : va_P D vwCl ([(o, .inr (6, [.ref on, .ref ot, .ref ok, .int (0 : Int32), .ref op, .ref ob, .null, .null, .null, .int 0, .null, .null, .null]))] ++ wX2 cI cZ on qn Fn An ++ wX2 cI cZ ot qt Ft At ++ wX2 cI cZ ok qk Fk Ak ++ wX3 cI cZ op qp Fp Ap ++ wX0 cI cZ ob qb Fb Ab ++ [(od, .inr (1, [.null, .null, .int 0, .int 0]))] : va_W) H := hP
  have hD : va_D A9 ([(o, .inr (6, [.ref on, .ref ot, .ref ok, .int (0 : Int32), .ref op, .ref ob, .null, .null, .null, .int 0, .null, .null, .null]))] ++ wX2 cI cZ on qn Fn An ++ wX2 cI cZ ot qt Ft At ++ wX2 cI cZ ok qk Fk Ak ++ wX3 cI cZ op qp Fp Ap ++ wX0 cI cZ ob qb Fb Ab ++ [(od, .inr (1, [.null, .null, .int 0, .int 0]))] : va_W) := hD
  refine W.widen (k := 35) (n := 445) (Nat.le_of_ble_eq_true rfl) (Nat.le_of_ble_eq_true rfl) ?_
  refine lv_dup hx hb dX6_init_68 rfl ?_
  refine C_I (wr := [0, 1, 2, 3, 4, 5, 6, 7, 8, 9, 10, 11, 12, 13, 14, 15, 16, 17, 18, 19, 20, 21, 22, 23, 24, 25, 26, 27, 28, 29, 30, 31, 32, 33, 34].filterMap (fun i => ([(o, .inr (6, [.ref on, .ref ot, .ref ok, .int (0 : Int32), .ref op, .ref ob, .null, .null, .null, .int 0, .null, .null, .null]))] ++ wX2 cI cZ on qn Fn An ++ wX2 cI cZ ot qt Ft At ++ wX2 cI cZ ok qk Fk Ak ++ wX3 cI cZ op qp Fp Ap ++ wX0 cI cZ ob qb Fb Ab ++ [(od, .inr (1, [.null, .null, .int 0, .int 0]))] : va_W)[i]?)) X hP hD hS [] [.ref od, .ref o] (w_X1_init l D cI cZ cR adK adV _ od _ h) cal_X1_init mw_4_8 rfl [35] [0, 1, 2, 3, 4, 5, 6, 7, 8, 9, 10, 11, 12, 13, 14, 15, 16, 17, 18, 19, 20, 21, 22, 23, 24, 25, 26, 27, 28, 29, 30, 31, 32, 33, 34] [0, 1, 2, 3, 4, 5, 6, 7, 8, 9, 10, 11, 12, 13, 14, 15, 16, 17, 18, 19, 20, 21, 22, 23, 24, 25, 26, 27, 28, 29, 30, 31, 32, 33, 34, 35, 36, 37] (fun u => ([(o, .inr (6, [.ref on, .ref ot, .ref ok, .int (0 : Int32), .ref op, .ref ob, .null, .null, .null, .int 0, .null, .null, .null]))] ++ wX2 cI cZ on qn Fn An ++ wX2 cI cZ ot qt Ft At ++ wX2 cI cZ ok qk Fk Ak ++ wX3 cI cZ op qp Fp Ap ++ wX0 cI cZ ob qb Fb Ab ++ wX1 cI cZ od u.1 u.2.1 u.2.2 : va_W)) rfl rfl (fun _ => rfl) rfl ⟨rfl, rfl⟩ ⟨Nat.le_of_ble_eq_true rfl, Nat.le_of_ble_eq_true rfl⟩ hl.1 rfl (Nat.le_of_ble_eq_true rfl) ⟨Nat.le_of_ble_eq_true rfl, Nat.le_of_ble_eq_true rfl⟩ dX6_init_69 (fun u H locs h hP hD hS => ?_)
  obtain ⟨qd, Fd, Ad⟩ := u
  try dsimp only at h
  have hP : va_P D vwCl ([(o, .inr (6, [.ref on, .ref ot, .ref ok, .int (0 : Int32), .ref op, .ref ob, .null, .null, .null, .int 0, .null, .null, .null]))] ++ wX2 cI cZ on qn Fn An ++ wX2 cI cZ ot qt Ft At ++ wX2 cI cZ ok qk Fk Ak ++ wX3 cI cZ op qp Fp Ap ++ wX0 cI cZ ob qb Fb Ab ++ wX1 cI cZ od qd Fd Ad : va_W) H := hP
  have hD : va_D A9 ([(o, .inr (6, [.ref on, .ref ot, .ref ok, .int (0 : Int32), .ref op, .ref ob, .null, .null, .null, .int 0, .null, .null, .null]))] ++ wX2 cI cZ on qn Fn An ++ wX2 cI cZ ot qt Ft At ++ wX2 cI cZ ok qk Fk Ak ++ wX3 cI cZ op qp Fp Ap ++ wX0 cI cZ ob qb Fb Ab ++ wX1 cI cZ od qd Fd Ad : va_W) := hD
  refine W.widen (k := 37) (n := 487) (Nat.le_of_ble_eq_true rfl) (Nat.le_of_ble_eq_true rfl) ?_
  refine va_putF (C := RX6) (T := TX6) (N := 13) (own := RX6) (v := .ref od) (D := D) (ty := tyX6 6) hx hb ht inlX6 tyX6 tyX6_ok nmX6 hown hK hP hD hS 0 rfl rfl 6 (Nat.le_of_ble_eq_true rfl) (ht _ mw_2_7) (fun _ h9 => h9) rfl hin rfl (tyX6_ok 6 (Nat.le_of_ble_eq_true rfl)) rfl rfl (Nat.le_of_ble_eq_true rfl) dX6_init_72 (fun H locs hP hD hS => ?_)
  have hP : va_P D vwCl ([(o, .inr (6, [.ref on, .ref ot, .ref ok, .int (0 : Int32), .ref op, .ref ob, .ref od, .null, .null, .int 0, .null, .null, .null]))] ++ wX2 cI cZ on qn Fn An ++ wX2 cI cZ ot qt Ft At ++ wX2 cI cZ ok qk Fk Ak ++ wX3 cI cZ op qp Fp Ap ++ wX0 cI cZ ob qb Fb Ab ++ wX1 cI cZ od qd Fd Ad : va_W) H := hP
  have hD : va_D A9 ([(o, .inr (6, [.ref on, .ref ot, .ref ok, .int (0 : Int32), .ref op, .ref ob, .ref od, .null, .null, .int 0, .null, .null, .null]))] ++ wX2 cI cZ on qn Fn An ++ wX2 cI cZ ot qt Ft At ++ wX2 cI cZ ok qk Fk Ak ++ wX3 cI cZ op qp Fp Ap ++ wX0 cI cZ ob qb Fb Ab ++ wX1 cI cZ od qd Fd Ad : va_W) := hD
  refine lv_aload_n hx hb dX6_init_75 rfl (lv_at hl 0 rfl) ?_
  refine va_new (ci := 4) (fs := [.null, .int 0, .int 0, .int 0, .int 0, .int 0]) (C := RX4) (T := TX4) (N := 6) (own := RX6) hx hb ht inlX4 tyX4 tyX4_ok hown (ht _ mw_2_8) (ht _ mw_2_9) (ht _ mw_2_10) hK hP hD hS hA rfl (by intro j hj; rcases (show j = 0 ∨ j = 1 ∨ j = 2 ∨ j = 3 ∨ j = 4 ∨ j = 5 by omega) with rfl | rfl | rfl | rfl | rfl | rfl <;> rfl) (Nat.le_of_ble_eq_true rfl) (Nat.le_of_ble_eq_true rfl) dX6_init_76 (fun of H hP hD hS => ?_)
  have hP : va_P D vwCl ([(o, .inr (6, [.ref on, .ref ot, .ref ok, .int (0 : Int32), .ref op, .ref ob, .ref od, .null, .null, .int 0, .null, .null, .null]))] ++ wX2 cI cZ on qn Fn An ++ wX2 cI cZ ot qt Ft At ++ wX2 cI cZ ok qk Fk Ak ++ wX3 cI cZ op qp Fp Ap ++ wX0 cI cZ ob qb Fb Ab ++ wX1 cI cZ od qd Fd Ad ++ [(of, .inr (4, [.null, .int 0, .int 0, .int 0, .int 0, .int 0]))] : va_W) H := hP
  have hD : va_D A9 ([(o, .inr (6, [.ref on, .ref ot, .ref ok, .int (0 : Int32), .ref op, .ref ob, .ref od, .null, .null, .int 0, .null, .null, .null]))] ++ wX2 cI cZ on qn Fn An ++ wX2 cI cZ ot qt Ft At ++ wX2 cI cZ ok qk Fk Ak ++ wX3 cI cZ op qp Fp Ap ++ wX0 cI cZ ob qb Fb Ab ++ wX1 cI cZ od qd Fd Ad ++ [(of, .inr (4, [.null, .int 0, .int 0, .int 0, .int 0, .int 0]))] : va_W) := hD
  refine W.widen (k := 38) (n := 493) (Nat.le_of_ble_eq_true rfl) (Nat.le_of_ble_eq_true rfl) ?_
  refine lv_dup hx hb dX6_init_79 rfl ?_
  refine C_I (wr := [0, 1, 2, 3, 4, 5, 6, 7, 8, 9, 10, 11, 12, 13, 14, 15, 16, 17, 18, 19, 20, 21, 22, 23, 24, 25, 26, 27, 28, 29, 30, 31, 32, 33, 34, 35, 36, 37].filterMap (fun i => ([(o, .inr (6, [.ref on, .ref ot, .ref ok, .int (0 : Int32), .ref op, .ref ob, .ref od, .null, .null, .int 0, .null, .null, .null]))] ++ wX2 cI cZ on qn Fn An ++ wX2 cI cZ ot qt Ft At ++ wX2 cI cZ ok qk Fk Ak ++ wX3 cI cZ op qp Fp Ap ++ wX0 cI cZ ob qb Fb Ab ++ wX1 cI cZ od qd Fd Ad ++ [(of, .inr (4, [.null, .int 0, .int 0, .int 0, .int 0, .int 0]))] : va_W)[i]?)) X hP hD hS [] [.ref of, .ref o] (w_X4_init l D cI cZ cR adK adV _ of _ h) cal_X4_init mw_4_17 rfl [38] [0, 1, 2, 3, 4, 5, 6, 7, 8, 9, 10, 11, 12, 13, 14, 15, 16, 17, 18, 19, 20, 21, 22, 23, 24, 25, 26, 27, 28, 29, 30, 31, 32, 33, 34, 35, 36, 37] [0, 1, 2, 3, 4, 5, 6, 7, 8, 9, 10, 11, 12, 13, 14, 15, 16, 17, 18, 19, 20, 21, 22, 23, 24, 25, 26, 27, 28, 29, 30, 31, 32, 33, 34, 35, 36, 37, 38, 39] (fun u => ([(o, .inr (6, [.ref on, .ref ot, .ref ok, .int (0 : Int32), .ref op, .ref ob, .ref od, .null, .null, .int 0, .null, .null, .null]))] ++ wX2 cI cZ on qn Fn An ++ wX2 cI cZ ot qt Ft At ++ wX2 cI cZ ok qk Fk Ak ++ wX3 cI cZ op qp Fp Ap ++ wX0 cI cZ ob qb Fb Ab ++ wX1 cI cZ od qd Fd Ad ++ wX4 cI cZ of u.1 u.2.1 u.2.2 : va_W)) rfl rfl (fun _ => rfl) rfl ⟨rfl, rfl⟩ ⟨Nat.le_of_ble_eq_true rfl, Nat.le_of_ble_eq_true rfl⟩ hl.1 rfl (Nat.le_of_ble_eq_true rfl) ⟨Nat.le_of_ble_eq_true rfl, Nat.le_of_ble_eq_true rfl⟩ dX6_init_80 (fun u H locs h hP hD hS => ?_)
  obtain ⟨qf, Ff, Af⟩ := u
  try dsimp only at h
  have hP : va_P D vwCl ([(o, .inr (6, [.ref on, .ref ot, .ref ok, .int (0 : Int32), .ref op, .ref ob, .ref od, .null, .null, .int 0, .null, .null, .null]))] ++ wX2 cI cZ on qn Fn An ++ wX2 cI cZ ot qt Ft At ++ wX2 cI cZ ok qk Fk Ak ++ wX3 cI cZ op qp Fp Ap ++ wX0 cI cZ ob qb Fb Ab ++ wX1 cI cZ od qd Fd Ad ++ wX4 cI cZ of qf Ff Af : va_W) H := hP
  have hD : va_D A9 ([(o, .inr (6, [.ref on, .ref ot, .ref ok, .int (0 : Int32), .ref op, .ref ob, .ref od, .null, .null, .int 0, .null, .null, .null]))] ++ wX2 cI cZ on qn Fn An ++ wX2 cI cZ ot qt Ft At ++ wX2 cI cZ ok qk Fk Ak ++ wX3 cI cZ op qp Fp Ap ++ wX0 cI cZ ob qb Fb Ab ++ wX1 cI cZ od qd Fd Ad ++ wX4 cI cZ of qf Ff Af : va_W) := hD
  refine W.widen (k := 39) (n := 523) (Nat.le_of_ble_eq_true rfl) (Nat.le_of_ble_eq_true rfl) ?_
  refine va_putF (C := RX6) (T := TX6) (N := 13) (own := RX6) (v := .ref of) (D := D) (ty := tyX6 7) hx hb ht inlX6 tyX6 tyX6_ok nmX6 hown hK hP hD hS 0 rfl rfl 7 (Nat.le_of_ble_eq_true rfl) (ht _ mw_2_11) (fun _ h9 => h9) rfl hin rfl (tyX6_ok 7 (Nat.le_of_ble_eq_true rfl)) rfl rfl (Nat.le_of_ble_eq_true rfl) dX6_init_83 (fun H locs hP hD hS => ?_)
  have hP : va_P D vwCl ([(o, .inr (6, [.ref on, .ref ot, .ref ok, .int (0 : Int32), .ref op, .ref ob, .ref od, .ref of, .null, .int 0, .null, .null, .null]))] ++ wX2 cI cZ on qn Fn An ++ wX2 cI cZ ot qt Ft At ++ wX2 cI cZ ok qk Fk Ak ++ wX3 cI cZ op qp Fp Ap ++ wX0 cI cZ ob qb Fb Ab ++ wX1 cI cZ od qd Fd Ad ++ wX4 cI cZ of qf Ff Af : va_W) H := hP
  have hD : va_D A9 ([(o, .inr (6, [.ref on, .ref ot, .ref ok, .int (0 : Int32), .ref op, .ref ob, .ref od, .ref of, .null, .int 0, .null, .null, .null]))] ++ wX2 cI cZ on qn Fn An ++ wX2 cI cZ ot qt Ft At ++ wX2 cI cZ ok qk Fk Ak ++ wX3 cI cZ op qp Fp Ap ++ wX0 cI cZ ob qb Fb Ab ++ wX1 cI cZ od qd Fd Ad ++ wX4 cI cZ of qf Ff Af : va_W) := hD
  refine lv_aload_n hx hb dX6_init_86 rfl (lv_at hl 0 rfl) ?_
  refine lv_bipush (v := 30) hx hb dX6_init_87 (by decide) ?_
  refine g_newI (N' := 30) hx hb (ht _ mw_2_12) hK hP hD hS hA (by decide) (by decide) (Nat.le_of_ble_eq_true rfl) (Nat.le_of_ble_eq_true rfl) (Nat.le_of_ble_eq_true rfl) dX6_init_89 (fun a89 H hP hD hS => ?_)
  have hP : va_P D vwCl ([(o, .inr (6, [.ref on, .ref ot, .ref ok, .int (0 : Int32), .ref op, .ref ob, .ref od, .ref of, .null, .int 0, .null, .null, .null]))] ++ wX2 cI cZ on qn Fn An ++ wX2 cI cZ ot qt Ft At ++ wX2 cI cZ ok qk Fk Ak ++ wX3 cI cZ op qp Fp Ap ++ wX0 cI cZ ob qb Fb Ab ++ wX1 cI cZ od qd Fd Ad ++ wX4 cI cZ of qf Ff Af ++ wI cI a89 30 (fun _ => 0) : va_W) H := hP
  have hD : va_D A9 ([(o, .inr (6, [.ref on, .ref ot, .ref ok, .int (0 : Int32), .ref op, .ref ob, .ref od, .ref of, .null, .int 0, .null, .null, .null]))] ++ wX2 cI cZ on qn Fn An ++ wX2 cI cZ ot qt Ft At ++ wX2 cI cZ ok qk Fk Ak ++ wX3 cI cZ op qp Fp Ap ++ wX0 cI cZ ob qb Fb Ab ++ wX1 cI cZ od qd Fd Ad ++ wX4 cI cZ of qf Ff Af ++ wI cI a89 30 (fun _ => 0) : va_W) := hD
  refine W.widen (k := 40) (n := 553) (Nat.le_of_ble_eq_true rfl) (Nat.le_of_ble_eq_true rfl) ?_
  refine va_putF (C := RX6) (T := TX6) (N := 13) (own := RX6) (v := .ref a89) (D := D) (ty := tyX6 8) hx hb ht inlX6 tyX6 tyX6_ok nmX6 hown hK hP hD hS 0 rfl rfl 8 (Nat.le_of_ble_eq_true rfl) (ht _ mw_2_13) (fun _ h9 => h9) rfl hin rfl (tyX6_ok 8 (Nat.le_of_ble_eq_true rfl)) rfl rfl (Nat.le_of_ble_eq_true rfl) dX6_init_91 (fun H locs hP hD hS => ?_)
  have hP : va_P D vwCl ([(o, .inr (6, [.ref on, .ref ot, .ref ok, .int (0 : Int32), .ref op, .ref ob, .ref od, .ref of, .ref a89, .int 0, .null, .null, .null]))] ++ wX2 cI cZ on qn Fn An ++ wX2 cI cZ ot qt Ft At ++ wX2 cI cZ ok qk Fk Ak ++ wX3 cI cZ op qp Fp Ap ++ wX0 cI cZ ob qb Fb Ab ++ wX1 cI cZ od qd Fd Ad ++ wX4 cI cZ of qf Ff Af ++ wI cI a89 30 (fun _ => 0) : va_W) H := hP
  have hD : va_D A9 ([(o, .inr (6, [.ref on, .ref ot, .ref ok, .int (0 : Int32), .ref op, .ref ob, .ref od, .ref of, .ref a89, .int 0, .null, .null, .null]))] ++ wX2 cI cZ on qn Fn An ++ wX2 cI cZ ot qt Ft At ++ wX2 cI cZ ok qk Fk Ak ++ wX3 cI cZ op qp Fp Ap ++ wX0 cI cZ ob qb Fb Ab ++ wX1 cI cZ od qd Fd Ad ++ wX4 cI cZ of qf Ff Af ++ wI cI a89 30 (fun _ => 0) : va_W) := hD
  refine lv_aload_n hx hb dX6_init_94 rfl (lv_at hl 0 rfl) ?_
  refine lv_iconst (v := 0) hx hb dX6_init_95 (by decide) ?_
  refine va_put (C := RX6) (T := TX6) (N := 13) (own := RX6) (v := .int (0 : Int32)) (D := D) (ty := tyX6 9) hx hb ht inlX6 tyX6 tyX6_ok nmX6 hown hK hP hD hS 0 rfl rfl 9 (Nat.le_of_ble_eq_true rfl) (ht _ mw_2_14) (fun _ h9 => h9) rfl (tyX6_ok 9 (Nat.le_of_ble_eq_true rfl)) rfl rfl (Nat.le_of_ble_eq_true rfl) dX6_init_96 (fun H locs hP hD hS => ?_)
  have hP : va_P D vwCl ([(o, .inr (6, [.ref on, .ref ot, .ref ok, .int (0 : Int32), .ref op, .ref ob, .ref od, .ref of, .ref a89, .int (0 : Int32), .null, .null, .null]))] ++ wX2 cI cZ on qn Fn An ++ wX2 cI cZ ot qt Ft At ++ wX2 cI cZ ok qk Fk Ak ++ wX3 cI cZ op qp Fp Ap ++ wX0 cI cZ ob qb Fb Ab ++ wX1 cI cZ od qd Fd Ad ++ wX4 cI cZ of qf Ff Af ++ wI cI a89 30 (fun _ => 0) : va_W) H := hP
  have hD : va_D A9 ([(o, .inr (6, [.ref on, .ref ot, .ref ok, .int (0 : Int32), .ref op, .ref ob, .ref od, .ref of, .ref a89, .int (0 : Int32), .null, .null, .null]))] ++ wX2 cI cZ on qn Fn An ++ wX2 cI cZ ot qt Ft At ++ wX2 cI cZ ok qk Fk Ak ++ wX3 cI cZ op qp Fp Ap ++ wX0 cI cZ ob qb Fb Ab ++ wX1 cI cZ od qd Fd Ad ++ wX4 cI cZ of qf Ff Af ++ wI cI a89 30 (fun _ => 0) : va_W) := hD
  refine lv_aload_n hx hb dX6_init_99 rfl (lv_at hl 0 rfl) ?_
  refine lv_iconst (v := 4) hx hb dX6_init_100 (by decide) ?_
  refine g_newR (N' := 4) hx hb hown (ht _ mw_2_15) hE.2.2.2.2.2 hK hP hD hS hA (by decide) (by decide) (Nat.le_of_ble_eq_true rfl) (Nat.le_of_ble_eq_true rfl) (Nat.le_of_ble_eq_true rfl) dX6_init_101 (fun a101 H hP hD hS => ?_)
  have hP : va_P D vwCl ([(o, .inr (6, [.ref on, .ref ot, .ref ok, .int (0 : Int32), .ref op, .ref ob, .ref od, .ref of, .ref a89, .int (0 : Int32), .null, .null, .null]))] ++ wX2 cI cZ on qn Fn An ++ wX2 cI cZ ot qt Ft At ++ wX2 cI cZ ok qk Fk Ak ++ wX3 cI cZ op qp Fp Ap ++ wX0 cI cZ ob qb Fb Ab ++ wX1 cI cZ od qd Fd Ad ++ wX4 cI cZ of qf Ff Af ++ wI cI a89 30 (fun _ => 0) ++ wQ cR a101 (fun _ => none) : va_W) H := hP
  have hD : va_D A9 ([(o, .inr (6, [.ref on, .ref ot, .ref ok, .int (0 : Int32), .ref op, .ref ob, .ref od, .ref of, .ref a89, .int (0 : Int32), .null, .null, .null]))] ++ wX2 cI cZ on qn Fn An ++ wX2 cI cZ ot qt Ft At ++ wX2 cI cZ ok qk Fk Ak ++ wX3 cI cZ op qp Fp Ap ++ wX0 cI cZ ob qb Fb Ab ++ wX1 cI cZ od qd Fd Ad ++ wX4 cI cZ of qf Ff Af ++ wI cI a89 30 (fun _ => 0) ++ wQ cR a101 (fun _ => none) : va_W) := hD
  refine W.widen (k := 41) (n := 557) (Nat.le_of_ble_eq_true rfl) (Nat.le_of_ble_eq_true rfl) ?_
  refine va_putF (C := RX6) (T := TX6) (N := 13) (own := RX6) (v := .ref a101) (D := D) (ty := tyX6 10) hx hb ht inlX6 tyX6 tyX6_ok nmX6 hown hK hP hD hS 0 rfl rfl 10 (Nat.le_of_ble_eq_true rfl) (ht _ mw_2_16) (fun _ h9 => h9) rfl hin rfl (tyX6_ok 10 (Nat.le_of_ble_eq_true rfl)) rfl rfl (Nat.le_of_ble_eq_true rfl) dX6_init_104 (fun H locs hP hD hS => ?_)
  have hP : va_P D vwCl ([(o, .inr (6, [.ref on, .ref ot, .ref ok, .int (0 : Int32), .ref op, .ref ob, .ref od, .ref of, .ref a89, .int (0 : Int32), .ref a101, .null, .null]))] ++ wX2 cI cZ on qn Fn An ++ wX2 cI cZ ot qt Ft At ++ wX2 cI cZ ok qk Fk Ak ++ wX3 cI cZ op qp Fp Ap ++ wX0 cI cZ ob qb Fb Ab ++ wX1 cI cZ od qd Fd Ad ++ wX4 cI cZ of qf Ff Af ++ wI cI a89 30 (fun _ => 0) ++ wQ cR a101 (fun _ => none) : va_W) H := hP
  have hD : va_D A9 ([(o, .inr (6, [.ref on, .ref ot, .ref ok, .int (0 : Int32), .ref op, .ref ob, .ref od, .ref of, .ref a89, .int (0 : Int32), .ref a101, .null, .null]))] ++ wX2 cI cZ on qn Fn An ++ wX2 cI cZ ot qt Ft At ++ wX2 cI cZ ok qk Fk Ak ++ wX3 cI cZ op qp Fp Ap ++ wX0 cI cZ ob qb Fb Ab ++ wX1 cI cZ od qd Fd Ad ++ wX4 cI cZ of qf Ff Af ++ wI cI a89 30 (fun _ => 0) ++ wQ cR a101 (fun _ => none) : va_W) := hD
  refine lv_aload_n hx hb dX6_init_107 rfl (lv_at hl 0 rfl) ?_
  refine lv_iconst (v := 4) hx hb dX6_init_108 (by decide) ?_
  refine g_newR (N' := 4) hx hb hown (ht _ mw_2_15) hE.2.2.2.2.2 hK hP hD hS hA (by decide) (by decide) (Nat.le_of_ble_eq_true rfl) (Nat.le_of_ble_eq_true rfl) (Nat.le_of_ble_eq_true rfl) dX6_init_109 (fun a109 H hP hD hS => ?_)
  have hP : va_P D vwCl ([(o, .inr (6, [.ref on, .ref ot, .ref ok, .int (0 : Int32), .ref op, .ref ob, .ref od, .ref of, .ref a89, .int (0 : Int32), .ref a101, .null, .null]))] ++ wX2 cI cZ on qn Fn An ++ wX2 cI cZ ot qt Ft At ++ wX2 cI cZ ok qk Fk Ak ++ wX3 cI cZ op qp Fp Ap ++ wX0 cI cZ ob qb Fb Ab ++ wX1 cI cZ od qd Fd Ad ++ wX4 cI cZ of qf Ff Af ++ wI cI a89 30 (fun _ => 0) ++ wQ cR a101 (fun _ => none) ++ wQ cR a109 (fun _ => none) : va_W) H := hP
  have hD : va_D A9 ([(o, .inr (6, [.ref on, .ref ot, .ref ok, .int (0 : Int32), .ref op, .ref ob, .ref od, .ref of, .ref a89, .int (0 : Int32), .ref a101, .null, .null]))] ++ wX2 cI cZ on qn Fn An ++ wX2 cI cZ ot qt Ft At ++ wX2 cI cZ ok qk Fk Ak ++ wX3 cI cZ op qp Fp Ap ++ wX0 cI cZ ob qb Fb Ab ++ wX1 cI cZ od qd Fd Ad ++ wX4 cI cZ of qf Ff Af ++ wI cI a89 30 (fun _ => 0) ++ wQ cR a101 (fun _ => none) ++ wQ cR a109 (fun _ => none) : va_W) := hD
  refine W.widen (k := 42) (n := 561) (Nat.le_of_ble_eq_true rfl) (Nat.le_of_ble_eq_true rfl) ?_
  refine va_putF (C := RX6) (T := TX6) (N := 13) (own := RX6) (v := .ref a109) (D := D) (ty := tyX6 11) hx hb ht inlX6 tyX6 tyX6_ok nmX6 hown hK hP hD hS 0 rfl rfl 11 (Nat.le_of_ble_eq_true rfl) (ht _ mw_2_17) (fun _ h9 => h9) rfl hin rfl (tyX6_ok 11 (Nat.le_of_ble_eq_true rfl)) rfl rfl (Nat.le_of_ble_eq_true rfl) dX6_init_112 (fun H locs hP hD hS => ?_)
  have hP : va_P D vwCl ([(o, .inr (6, [.ref on, .ref ot, .ref ok, .int (0 : Int32), .ref op, .ref ob, .ref od, .ref of, .ref a89, .int (0 : Int32), .ref a101, .ref a109, .null]))] ++ wX2 cI cZ on qn Fn An ++ wX2 cI cZ ot qt Ft At ++ wX2 cI cZ ok qk Fk Ak ++ wX3 cI cZ op qp Fp Ap ++ wX0 cI cZ ob qb Fb Ab ++ wX1 cI cZ od qd Fd Ad ++ wX4 cI cZ of qf Ff Af ++ wI cI a89 30 (fun _ => 0) ++ wQ cR a101 (fun _ => none) ++ wQ cR a109 (fun _ => none) : va_W) H := hP
  have hD : va_D A9 ([(o, .inr (6, [.ref on, .ref ot, .ref ok, .int (0 : Int32), .ref op, .ref ob, .ref od, .ref of, .ref a89, .int (0 : Int32), .ref a101, .ref a109, .null]))] ++ wX2 cI cZ on qn Fn An ++ wX2 cI cZ ot qt Ft At ++ wX2 cI cZ ok qk Fk Ak ++ wX3 cI cZ op qp Fp Ap ++ wX0 cI cZ ob qb Fb Ab ++ wX1 cI cZ od qd Fd Ad ++ wX4 cI cZ of qf Ff Af ++ wI cI a89 30 (fun _ => 0) ++ wQ cR a101 (fun _ => none) ++ wQ cR a109 (fun _ => none) : va_W) := hD
  refine lv_aload_n hx hb dX6_init_115 rfl (lv_at hl 0 rfl) ?_
  refine lv_iconst (v := 4) hx hb dX6_init_116 (by decide) ?_
  refine g_newI (N' := 4) hx hb (ht _ mw_2_12) hK hP hD hS hA (by decide) (by decide) (Nat.le_of_ble_eq_true rfl) (Nat.le_of_ble_eq_true rfl) (Nat.le_of_ble_eq_true rfl) dX6_init_117 (fun a117 H hP hD hS => ?_)
  have hP : va_P D vwCl ([(o, .inr (6, [.ref on, .ref ot, .ref ok, .int (0 : Int32), .ref op, .ref ob, .ref od, .ref of, .ref a89, .int (0 : Int32), .ref a101, .ref a109, .null]))] ++ wX2 cI cZ on qn Fn An ++ wX2 cI cZ ot qt Ft At ++ wX2 cI cZ ok qk Fk Ak ++ wX3 cI cZ op qp Fp Ap ++ wX0 cI cZ ob qb Fb Ab ++ wX1 cI cZ od qd Fd Ad ++ wX4 cI cZ of qf Ff Af ++ wI cI a89 30 (fun _ => 0) ++ wQ cR a101 (fun _ => none) ++ wQ cR a109 (fun _ => none) ++ wI cI a117 4 (fun _ => 0) : va_W) H := hP
  have hD : va_D A9 ([(o, .inr (6, [.ref on, .ref ot, .ref ok, .int (0 : Int32), .ref op, .ref ob, .ref od, .ref of, .ref a89, .int (0 : Int32), .ref a101, .ref a109, .null]))] ++ wX2 cI cZ on qn Fn An ++ wX2 cI cZ ot qt Ft At ++ wX2 cI cZ ok qk Fk Ak ++ wX3 cI cZ op qp Fp Ap ++ wX0 cI cZ ob qb Fb Ab ++ wX1 cI cZ od qd Fd Ad ++ wX4 cI cZ of qf Ff Af ++ wI cI a89 30 (fun _ => 0) ++ wQ cR a101 (fun _ => none) ++ wQ cR a109 (fun _ => none) ++ wI cI a117 4 (fun _ => 0) : va_W) := hD
  refine W.widen (k := 43) (n := 565) (Nat.le_of_ble_eq_true rfl) (Nat.le_of_ble_eq_true rfl) ?_
  refine va_putF (C := RX6) (T := TX6) (N := 13) (own := RX6) (v := .ref a117) (D := D) (ty := tyX6 12) hx hb ht inlX6 tyX6 tyX6_ok nmX6 hown hK hP hD hS 0 rfl rfl 12 (Nat.le_of_ble_eq_true rfl) (ht _ mw_2_18) (fun _ h9 => h9) rfl hin rfl (tyX6_ok 12 (Nat.le_of_ble_eq_true rfl)) rfl rfl (Nat.le_of_ble_eq_true rfl) dX6_init_119 (fun H locs hP hD hS => ?_)
  have hP : va_P D vwCl ([(o, .inr (6, [.ref on, .ref ot, .ref ok, .int (0 : Int32), .ref op, .ref ob, .ref od, .ref of, .ref a89, .int (0 : Int32), .ref a101, .ref a109, .ref a117]))] ++ wX2 cI cZ on qn Fn An ++ wX2 cI cZ ot qt Ft At ++ wX2 cI cZ ok qk Fk Ak ++ wX3 cI cZ op qp Fp Ap ++ wX0 cI cZ ob qb Fb Ab ++ wX1 cI cZ od qd Fd Ad ++ wX4 cI cZ of qf Ff Af ++ wI cI a89 30 (fun _ => 0) ++ wQ cR a101 (fun _ => none) ++ wQ cR a109 (fun _ => none) ++ wI cI a117 4 (fun _ => 0) : va_W) H := hP
  have hD : va_D A9 ([(o, .inr (6, [.ref on, .ref ot, .ref ok, .int (0 : Int32), .ref op, .ref ob, .ref od, .ref of, .ref a89, .int (0 : Int32), .ref a101, .ref a109, .ref a117]))] ++ wX2 cI cZ on qn Fn An ++ wX2 cI cZ ot qt Ft At ++ wX2 cI cZ ok qk Fk Ak ++ wX3 cI cZ op qp Fp Ap ++ wX0 cI cZ ob qb Fb Ab ++ wX1 cI cZ od qd Fd Ad ++ wX4 cI cZ of qf Ff Af ++ wI cI a89 30 (fun _ => 0) ++ wQ cR a101 (fun _ => none) ++ wQ cR a109 (fun _ => none) ++ wI cI a117 4 (fun _ => 0) : va_W) := hD
  obtain ⟨q, hq⟩ : ∃ z : Nat → Nat, z = (fun k => [on, ot, ok, 0, op, ob, od, of, a89, 0, a101, a109, a117].getD k 0) := ⟨_, rfl⟩
  have hP : va_P D vwCl (wX6 o q (fun _ => 0) ++ wX2 cI cZ (q 0) qn Fn An ++ wX2 cI cZ (q 1) qt Ft At ++ wX2 cI cZ (q 2) qk Fk Ak ++ wX3 cI cZ (q 4) qp Fp Ap ++ wX0 cI cZ (q 5) qb Fb Ab ++ wX1 cI cZ (q 6) qd Fd Ad ++ wX4 cI cZ (q 7) qf Ff Af ++ wI cI (q 8) 30 (fun _ => 0) ++ wQ cR (q 10) (fun _ => none) ++ wQ cR (q 11) (fun _ => none) ++ wI cI (q 12) 4 (fun _ => 0) : va_W) H := by rw [hq]; exact hP
  have hD : va_D A9 (wX6 o q (fun _ => 0) ++ wX2 cI cZ (q 0) qn Fn An ++ wX2 cI cZ (q 1) qt Ft At ++ wX2 cI cZ (q 2) qk Fk Ak ++ wX3 cI cZ (q 4) qp Fp Ap ++ wX0 cI cZ (q 5) qb Fb Ab ++ wX1 cI cZ (q 6) qd Fd Ad ++ wX4 cI cZ (q 7) qf Ff Af ++ wI cI (q 8) 30 (fun _ => 0) ++ wQ cR (q 10) (fun _ => none) ++ wQ cR (q 11) (fun _ => none) ++ wI cI (q 12) 4 (fun _ => 0) : va_W) := by rw [hq]; exact hD
  refine W.widen (k := 43) (n := 565) (Nat.le_of_ble_eq_true rfl) (Nat.le_of_ble_eq_true rfl) ?_
  refine lv_iconst (v := 0) hx hb dX6_init_122 (by decide) ?_
  refine lv_istore_n (lv' := [(1, .int (0 : Int32)), (0, .ref o)]) hx hb dX6_init_123 rfl hl (by decide) rfl (fun ls hl => ?_)
  refine lv_iload_n hx hb dX6_init_124 rfl (lv_at hl 0 rfl) ?_
  refine lv_iconst (v := 4) hx hb dX6_init_125 (by decide) ?_
  refine lv_icmp_ge (tgt := 142) hx hb dX6_init_126 (by decide) (fun c9 => absurd c9 (by decide)) (fun c9 => ?_)
  refine lv_aload_n hx hb dX6_init_129 rfl (lv_at hl 1 rfl) ?_
  refine va_get (C := RX6) (T := TX6) (N := 13) (own := RX6) (v := .ref (q 12)) hx hb ht inlX6 hown hK hP 0 rfl rfl 12 (Nat.le_of_ble_eq_true rfl) (ht _ mw_2_18) (fun _ h9 => h9) rfl dX6_init_130 ?_
  refine lv_iload_n hx hb dX6_init_133 rfl (lv_at hl 0 rfl) ?_
  refine lv_iconst (v := -1) hx hb dX6_init_134 (by decide) ?_
  refine g_iast (f := (fun _ => 0)) (k := 0) (f2 := (upd (fun _ => 0) 0 (-1 : Int32))) hx hb hK hP hD hS 43 0 rfl rfl (vp_in_lit rfl) (by decide) rfl dX6_init_135 (fun H locs hP hD hS => ?_)
  have hP : va_P D vwCl (wX6 o q (fun _ => 0) ++ wX2 cI cZ (q 0) qn Fn An ++ wX2 cI cZ (q 1) qt Ft At ++ wX2 cI cZ (q 2) qk Fk Ak ++ wX3 cI cZ (q 4) qp Fp Ap ++ wX0 cI cZ (q 5) qb Fb Ab ++ wX1 cI cZ (q 6) qd Fd Ad ++ wX4 cI cZ (q 7) qf Ff Af ++ wI cI (q 8) 30 (fun _ => 0) ++ wQ cR (q 10) (fun _ => none) ++ wQ cR (q 11) (fun _ => none) ++ wI cI (q 12) 4 (upd (fun _ => 0) 0 (-1 : Int32)) : va_W) H := hP
  have hD : va_D A9 (wX6 o q (fun _ => 0) ++ wX2 cI cZ (q 0) qn Fn An ++ wX2 cI cZ (q 1) qt Ft At ++ wX2 cI cZ (q 2) qk Fk Ak ++ wX3 cI cZ (q 4) qp Fp Ap ++ wX0 cI cZ (q 5) qb Fb Ab ++ wX1 cI cZ (q 6) qd Fd Ad ++ wX4 cI cZ (q 7) qf Ff Af ++ wI cI (q 8) 30 (fun _ => 0) ++ wQ cR (q 10) (fun _ => none) ++ wQ cR (q 11) (fun _ => none) ++ wI cI (q 12) 4 (upd (fun _ => 0) 0 (-1 : Int32)) : va_W) := hD
  refine lv_iinc (v := 1) (lv' := [(1, .int (1 : Int32)), (0, .ref o)]) hx hb dX6_init_136 hl (k := 0) rfl (by decide) (by decide) rfl (fun ls hl => ?_)
  refine lv_goto (tgt := 124) hx hb dX6_init_139 (by decide) ?_
  refine lv_iload_n hx hb dX6_init_124 rfl (lv_at hl 0 rfl) ?_
  refine lv_iconst (v := 4) hx hb dX6_init_125 (by decide) ?_
  refine lv_icmp_ge (tgt := 142) hx hb dX6_init_126 (by decide) (fun c9 => absurd c9 (by decide)) (fun c9 => ?_)
  refine lv_aload_n hx hb dX6_init_129 rfl (lv_at hl 1 rfl) ?_
  refine va_get (C := RX6) (T := TX6) (N := 13) (own := RX6) (v := .ref (q 12)) hx hb ht inlX6 hown hK hP 0 rfl rfl 12 (Nat.le_of_ble_eq_true rfl) (ht _ mw_2_18) (fun _ h9 => h9) rfl dX6_init_130 ?_
  refine lv_iload_n hx hb dX6_init_133 rfl (lv_at hl 0 rfl) ?_
  refine lv_iconst (v := -1) hx hb dX6_init_134 (by decide) ?_
  refine g_iast (f := (upd (fun _ => 0) 0 (-1 : Int32))) (k := 1) (f2 := (upd (upd (fun _ => 0) 0 (-1 : Int32)) 1 (-1 : Int32))) hx hb hK hP hD hS 43 0 rfl rfl (vp_in_lit rfl) (by decide) rfl dX6_init_135 (fun H locs hP hD hS => ?_)
  have hP : va_P D vwCl (wX6 o q (fun _ => 0) ++ wX2 cI cZ (q 0) qn Fn An ++ wX2 cI cZ (q 1) qt Ft At ++ wX2 cI cZ (q 2) qk Fk Ak ++ wX3 cI cZ (q 4) qp Fp Ap ++ wX0 cI cZ (q 5) qb Fb Ab ++ wX1 cI cZ (q 6) qd Fd Ad ++ wX4 cI cZ (q 7) qf Ff Af ++ wI cI (q 8) 30 (fun _ => 0) ++ wQ cR (q 10) (fun _ => none) ++ wQ cR (q 11) (fun _ => none) ++ wI cI (q 12) 4 (upd (upd (fun _ => 0) 0 (-1 : Int32)) 1 (-1 : Int32)) : va_W) H := hP
  have hD : va_D A9 (wX6 o q (fun _ => 0) ++ wX2 cI cZ (q 0) qn Fn An ++ wX2 cI cZ (q 1) qt Ft At ++ wX2 cI cZ (q 2) qk Fk Ak ++ wX3 cI cZ (q 4) qp Fp Ap ++ wX0 cI cZ (q 5) qb Fb Ab ++ wX1 cI cZ (q 6) qd Fd Ad ++ wX4 cI cZ (q 7) qf Ff Af ++ wI cI (q 8) 30 (fun _ => 0) ++ wQ cR (q 10) (fun _ => none) ++ wQ cR (q 11) (fun _ => none) ++ wI cI (q 12) 4 (upd (upd (fun _ => 0) 0 (-1 : Int32)) 1 (-1 : Int32)) : va_W) := hD
  refine lv_iinc (v := 2) (lv' := [(1, .int (2 : Int32)), (0, .ref o)]) hx hb dX6_init_136 hl (k := 0) rfl (by decide) (by decide) rfl (fun ls hl => ?_)
  refine lv_goto (tgt := 124) hx hb dX6_init_139 (by decide) ?_
  refine lv_iload_n hx hb dX6_init_124 rfl (lv_at hl 0 rfl) ?_
  refine lv_iconst (v := 4) hx hb dX6_init_125 (by decide) ?_
  refine lv_icmp_ge (tgt := 142) hx hb dX6_init_126 (by decide) (fun c9 => absurd c9 (by decide)) (fun c9 => ?_)
  refine lv_aload_n hx hb dX6_init_129 rfl (lv_at hl 1 rfl) ?_
  refine va_get (C := RX6) (T := TX6) (N := 13) (own := RX6) (v := .ref (q 12)) hx hb ht inlX6 hown hK hP 0 rfl rfl 12 (Nat.le_of_ble_eq_true rfl) (ht _ mw_2_18) (fun _ h9 => h9) rfl dX6_init_130 ?_
  refine lv_iload_n hx hb dX6_init_133 rfl (lv_at hl 0 rfl) ?_
  refine lv_iconst (v := -1) hx hb dX6_init_134 (by decide) ?_
  refine g_iast (f := (upd (upd (fun _ => 0) 0 (-1 : Int32)) 1 (-1 : Int32))) (k := 2) (f2 := (upd (upd (upd (fun _ => 0) 0 (-1 : Int32)) 1 (-1 : Int32)) 2 (-1 : Int32))) hx hb hK hP hD hS 43 0 rfl rfl (vp_in_lit rfl) (by decide) rfl dX6_init_135 (fun H locs hP hD hS => ?_)
  have hP : va_P D vwCl (wX6 o q (fun _ => 0) ++ wX2 cI cZ (q 0) qn Fn An ++ wX2 cI cZ (q 1) qt Ft At ++ wX2 cI cZ (q 2) qk Fk Ak ++ wX3 cI cZ (q 4) qp Fp Ap ++ wX0 cI cZ (q 5) qb Fb Ab ++ wX1 cI cZ (q 6) qd Fd Ad ++ wX4 cI cZ (q 7) qf Ff Af ++ wI cI (q 8) 30 (fun _ => 0) ++ wQ cR (q 10) (fun _ => none) ++ wQ cR (q 11) (fun _ => none) ++ wI cI (q 12) 4 (upd (upd (upd (fun _ => 0) 0 (-1 : Int32)) 1 (-1 : Int32)) 2 (-1 : Int32)) : va_W) H := hP
  have hD : va_D A9 (wX6 o q (fun _ => 0) ++ wX2 cI cZ (q 0) qn Fn An ++ wX2 cI cZ (q 1) qt Ft At ++ wX2 cI cZ (q 2) qk Fk Ak ++ wX3 cI cZ (q 4) qp Fp Ap ++ wX0 cI cZ (q 5) qb Fb Ab ++ wX1 cI cZ (q 6) qd Fd Ad ++ wX4 cI cZ (q 7) qf Ff Af ++ wI cI (q 8) 30 (fun _ => 0) ++ wQ cR (q 10) (fun _ => none) ++ wQ cR (q 11) (fun _ => none) ++ wI cI (q 12) 4 (upd (upd (upd (fun _ => 0) 0 (-1 : Int32)) 1 (-1 : Int32)) 2 (-1 : Int32)) : va_W) := hD
  refine lv_iinc (v := 3) (lv' := [(1, .int (3 : Int32)), (0, .ref o)]) hx hb dX6_init_136 hl (k := 0) rfl (by decide) (by decide) rfl (fun ls hl => ?_)
  refine lv_goto (tgt := 124) hx hb dX6_init_139 (by decide) ?_
  refine lv_iload_n hx hb dX6_init_124 rfl (lv_at hl 0 rfl) ?_
  refine lv_iconst (v := 4) hx hb dX6_init_125 (by decide) ?_
  refine lv_icmp_ge (tgt := 142) hx hb dX6_init_126 (by decide) (fun c9 => absurd c9 (by decide)) (fun c9 => ?_)
  refine lv_aload_n hx hb dX6_init_129 rfl (lv_at hl 1 rfl) ?_
  refine va_get (C := RX6) (T := TX6) (N := 13) (own := RX6) (v := .ref (q 12)) hx hb ht inlX6 hown hK hP 0 rfl rfl 12 (Nat.le_of_ble_eq_true rfl) (ht _ mw_2_18) (fun _ h9 => h9) rfl dX6_init_130 ?_
  refine lv_iload_n hx hb dX6_init_133 rfl (lv_at hl 0 rfl) ?_
  refine lv_iconst (v := -1) hx hb dX6_init_134 (by decide) ?_
  refine g_iast (f := (upd (upd (upd (fun _ => 0) 0 (-1 : Int32)) 1 (-1 : Int32)) 2 (-1 : Int32))) (k := 3) (f2 := (upd (upd (upd (upd (fun _ => 0) 0 (-1 : Int32)) 1 (-1 : Int32)) 2 (-1 : Int32)) 3 (-1 : Int32))) hx hb hK hP hD hS 43 0 rfl rfl (vp_in_lit rfl) (by decide) rfl dX6_init_135 (fun H locs hP hD hS => ?_)
  have hP : va_P D vwCl (wX6 o q (fun _ => 0) ++ wX2 cI cZ (q 0) qn Fn An ++ wX2 cI cZ (q 1) qt Ft At ++ wX2 cI cZ (q 2) qk Fk Ak ++ wX3 cI cZ (q 4) qp Fp Ap ++ wX0 cI cZ (q 5) qb Fb Ab ++ wX1 cI cZ (q 6) qd Fd Ad ++ wX4 cI cZ (q 7) qf Ff Af ++ wI cI (q 8) 30 (fun _ => 0) ++ wQ cR (q 10) (fun _ => none) ++ wQ cR (q 11) (fun _ => none) ++ wI cI (q 12) 4 (upd (upd (upd (upd (fun _ => 0) 0 (-1 : Int32)) 1 (-1 : Int32)) 2 (-1 : Int32)) 3 (-1 : Int32)) : va_W) H := hP
  have hD : va_D A9 (wX6 o q (fun _ => 0) ++ wX2 cI cZ (q 0) qn Fn An ++ wX2 cI cZ (q 1) qt Ft At ++ wX2 cI cZ (q 2) qk Fk Ak ++ wX3 cI cZ (q 4) qp Fp Ap ++ wX0 cI cZ (q 5) qb Fb Ab ++ wX1 cI cZ (q 6) qd Fd Ad ++ wX4 cI cZ (q 7) qf Ff Af ++ wI cI (q 8) 30 (fun _ => 0) ++ wQ cR (q 10) (fun _ => none) ++ wQ cR (q 11) (fun _ => none) ++ wI cI (q 12) 4 (upd (upd (upd (upd (fun _ => 0) 0 (-1 : Int32)) 1 (-1 : Int32)) 2 (-1 : Int32)) 3 (-1 : Int32)) : va_W) := hD
  refine lv_iinc (v := 4) (lv' := [(1, .int (4 : Int32)), (0, .ref o)]) hx hb dX6_init_136 hl (k := 0) rfl (by decide) (by decide) rfl (fun ls hl => ?_)
  refine lv_goto (tgt := 124) hx hb dX6_init_139 (by decide) ?_
  refine lv_iload_n hx hb dX6_init_124 rfl (lv_at hl 0 rfl) ?_
  refine lv_iconst (v := 4) hx hb dX6_init_125 (by decide) ?_
  refine lv_icmp_ge (tgt := 142) hx hb dX6_init_126 (by decide) (fun c9 => ?_) (fun c9 => absurd (by decide) c9)
  exact ret (q, (fun _ => 0), qn, Fn, An, qt, Ft, At, qk, Fk, Ak, qp, Fp, Ap, qb, Fb, Ab, qd, Fd, Ad, qf, Ff, Af, (fun _ => 0), (fun _ => none), (fun _ => none), (upd (upd (upd (upd (fun _ => 0) 0 (-1 : Int32)) 1 (-1 : Int32)) 2 (-1 : Int32)) 3 (-1 : Int32))) _ _ _ _ dX6_init_142 h hP hD hS
