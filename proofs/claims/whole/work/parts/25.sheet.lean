theorem dX5_init_0 : decode cX5_init 0 = .ok (.aload_n 0, 1) := by decide +kernel
theorem dX5_init_1 : decode cX5_init 1 = .ok (.invokespecial 1, 3) := by decide +kernel
theorem dX5_init_4 : decode cX5_init 4 = .ok (.aload_n 0, 1) := by decide +kernel
theorem dX5_init_5 : decode cX5_init 5 = .ok (.iload_n 1, 1) := by decide +kernel
theorem dX5_init_6 : decode cX5_init 6 = .ok (.putfield 7, 3) := by decide +kernel
theorem dX5_init_9 : decode cX5_init 9 = .ok (.aload_n 0, 1) := by decide +kernel
theorem dX5_init_10 : decode cX5_init 10 = .ok (.iconst 0, 1) := by decide +kernel
theorem dX5_init_11 : decode cX5_init 11 = .ok (.iload_n 2, 1) := by decide +kernel
theorem dX5_init_12 : decode cX5_init 12 = .ok (.invokestatic 13, 3) := by decide +kernel
theorem dX5_init_15 : decode cX5_init 15 = .ok (.newarray .int, 2) := by decide +kernel
theorem dX5_init_17 : decode cX5_init 17 = .ok (.putfield 19, 3) := by decide +kernel
theorem dX5_init_20 : decode cX5_init 20 = .ok (.return_, 1) := by decide +kernel
/-! a new row: Row(sort, n), and sheet() where it makes one -/
theorem cal_X5_init : CalI yX5_init cX5_init 3 2 := ⟨mw_43_22, mw_43_19, mw_43_21, rfl, ⟨by decide +kernel, by decide +kernel, by decide +kernel⟩⟩
set_option maxHeartbeats 4000000 in
set_option maxRecDepth 100000 in
theorem w_X5_init (l : Launch) (D : va_G) (cI cZ cR : ClassId) (adK adV : Nat → Nat) (sz : Nat) (o : Nat) (x1 : Int32) (N : Nat) (hN : N ≤ 40) : MVc l D cI cZ cR adK adV yX5_init cX5_init 3 ({ frames := 1, cells := 1, slots := N, locals := 100 }) [.ref o, .int x1, .int (nI N)] ([(o, .inr (5, [.int 0, .null]))] : va_W) sz 1 N (fun (_ : Nat) => True) (fun (a : Nat) => (wX5 cI cZ N o (fun _ => a) (fun _ => x1) (fun _ _ => 0) : va_W)) := by
  refine M_vc (by decide +kernel) (Nat.le_of_ble_eq_true rfl) rfl ?_
  intro p e s m args below meth c Q A9 ls X hin ret hP hD hS hl
  obtain ⟨hx, hb, hml, ht, hown, hK, hA, hE⟩ := id X
  have hl : lv_has ls 3 [(0, .ref o), (1, .int x1), (2, .int (nI N))] := hl
  refine lv_aload_n hx hb dX5_init_0 rfl (lv_at hl 0 rfl) ?_
  refine W.objInit hx hb hown (ht _ mw_43_23) (ht _ mw_1_11) (ht _ mw_1_12) rfl (by rw [hml]; exact hl.1) rfl dX5_init_1 (Nat.le_of_ble_eq_true rfl) (Nat.le_of_ble_eq_true rfl) ?_
  refine W.eq (g2 := F0 m 4 ls []) rfl ?_
  refine lv_aload_n hx hb dX5_init_4 rfl (lv_at hl 0 rfl) ?_
  refine lv_iload_n hx hb dX5_init_5 rfl (lv_at hl 1 rfl) ?_
  refine va_putF (C := RX5) (T := TX5) (N := 2) (own := RX5) (v := .int x1) (D := D) (ty := tyX5 0) hx hb ht inlX5 tyX5 tyX5_ok nmX5 hown hK hP hD hS 0 rfl rfl 0 (Nat.le_of_ble_eq_true rfl) (ht _ mw_44_0) (fun _ h9 => h9) rfl hin rfl (tyX5_ok 0 (Nat.le_of_ble_eq_true rfl)) rfl rfl (Nat.le_of_ble_eq_true rfl) dX5_init_6 (fun H locs hP hD hS => ?_)
  have hP : va_P D vwCl ([(o, .inr (5, [.int x1, .null]))] : va_W) H := hP
  have hD : va_D A9 ([(o, .inr (5, [.int x1, .null]))] : va_W) := hD
  refine lv_aload_n hx hb dX5_init_9 rfl (lv_at hl 0 rfl) ?_
  refine lv_iconst (v := 0) hx hb dX5_init_10 (by decide) ?_
  refine lv_iload_n hx hb dX5_init_11 rfl (lv_at hl 2 rfl) ?_
  refine va_mmax hx hb (hml.trans hl.1.symm) hown (ht _ mw_44_1) (ht _ mw_25_12) (ht _ mw_18_2) (ht _ mw_25_13) (Nat.le_of_ble_eq_true rfl) (Nat.le_of_ble_eq_true rfl) (Nat.zero_le _) (Nat.zero_le _) dX5_init_12 ?_
  have e9 : (if (0 : Int32) < nI N then nI N else 0) = nI N := by
    by_cases h0 : N = 0
    · subst h0; rfl
    · rw [if_pos]
      have := nI_lt (a := 0) (b := N) (by omega) (by omega)
      exact this
  rw [e9]
  refine g_newI (N' := N) hx hb (ht _ mw_2_12) hK hP hD hS hA (nI_pos (by omega)) (nI_clamp (by omega)) (by show N * 4 ≤ 536870912; omega) (Nat.le_of_ble_eq_true rfl) (by show 0 + N ≤ N; omega) dX5_init_15 (fun a H hP hD hS => ?_)
  refine va_putF (C := RX5) (T := TX5) (N := 2) (own := RX5) (v := .ref a) (D := D) (ty := tyX5 1) hx hb ht inlX5 tyX5 tyX5_ok nmX5 hown hK hP hD hS 0 rfl rfl 1 (Nat.le_of_ble_eq_true rfl) (ht _ mw_44_2) (fun _ h9 => h9) rfl hin rfl (tyX5_ok 1 (Nat.le_of_ble_eq_true rfl)) rfl rfl (Nat.le_of_ble_eq_true rfl) dX5_init_17 (fun H locs hP hD hS => ?_)
  refine W.widen (k := 1) (n := N) (Nat.le_of_ble_eq_true rfl) (by omega) ?_
  exact ret a _ _ _ _ dX5_init_20 trivial hP hD hS
set_option maxHeartbeats 4000000 in
set_option maxRecDepth 100000 in
theorem w_X6_sheet_A (l : Launch) (D : va_G) (cI cZ cR : ClassId) (adK adV : Nat → Nat) (sz : Nat) (o : Nat) (q : Nat → Nat) (F : tF) (g : tG) (k : Nat) (hk : k < 4) (x2 : Int32) (h1 : ¬ x2 < -1) (h2 : x2 < 4) (h3 : ¬ x2 = -1) (N : Nat) (hN : N ≤ 40) (hw : ∀ K : Int32 → Prop, K 1 → p_X6_within (nI k) 4 K) : MIc l D cI cZ cR adK adV yX6_sheet cX6_sheet 4 ({ frames := 2, cells := 2, slots := 42, locals := 122 }) [.ref o, .int (nI k), .int x2, .int (nI N)] (wX6 o q F ++ wQ cR (q 10) g : va_W) sz 2 42 (fun (r : Int32) (_ : Nat × Nat) => r = 1) (fun (u : Nat × Nat) => (wX6 o q F ++ wQ cR (q 10) (va_up g k (some u.1)) ++ wX5 cI cZ N u.1 (fun _ => u.2) (fun _ => x2) (fun _ _ => 0) : va_W)) := by
  refine M_ic (by decide +kernel) (Nat.le_of_ble_eq_true rfl) ?_
  intro p e s m args below meth c Q A9 ls X ret hP hD hS hl
  obtain ⟨hx, hb, hml, ht, hown, hK, hA, hE⟩ := id X
  have hl : lv_has ls 4 [(0, .ref o), (1, .int (nI k)), (2, .int x2), (3, .int (nI N))] := hl
  refine lv_iload_n hx hb dX6_sheet_0 rfl (lv_at hl 1 rfl) ?_
  refine lv_iconst (v := 4) hx hb dX6_sheet_1 (by decide) ?_
  refine C_si (wr := [0, 1].filterMap (fun i => (wX6 o q F ++ wQ cR (q 10) g : va_W)[i]?)) X hP hD hS [.int (nI k), .int (4 : Int32)] [] (w_X6_within l D cI cZ cR adK adV _ (nI k) (4 : Int32) _ (hw (fun r => r = 1) rfl)) cal_X6_within mw_15_9 rfl [] [0, 1] [0, 1] (fun u => (wX6 o q F ++ wQ cR (q 10) g : va_W)) rfl rfl (fun _ => rfl) rfl ⟨rfl, rfl⟩ ⟨Nat.le_of_ble_eq_true rfl, Nat.le_of_ble_eq_true rfl⟩ hl.1 rfl (Nat.le_of_ble_eq_true rfl) ⟨Nat.zero_le _, Nat.zero_le _⟩ dX6_sheet_2 (fun r2 u H locs hr hP hD hS => ?_)
  have hr : r2 = 1 := hr
  subst hr
  refine lv_if_eq (tgt := 18) hx hb dX6_sheet_5 (by decide) (fun c5 => absurd c5 (by decide)) (fun c5 => ?_)
  refine lv_iload_n hx hb dX6_sheet_8 rfl (lv_at hl 2 rfl) ?_
  refine lv_iconst (v := -1) hx hb dX6_sheet_9 (by decide) ?_
  refine lv_icmp_lt (tgt := 18) hx hb dX6_sheet_10 (by decide) (fun c5 => absurd c5 h1) (fun c5 => ?_)
  refine lv_iload_n hx hb dX6_sheet_13 rfl (lv_at hl 2 rfl) ?_
  refine lv_iconst (v := 4) hx hb dX6_sheet_14 (by decide) ?_
  refine lv_icmp_lt (tgt := 20) hx hb dX6_sheet_15 (by decide) (fun c5 => ?_) (fun c5 => absurd h2 c5)
  refine lv_iload_n hx hb dX6_sheet_20 rfl (lv_at hl 2 rfl) ?_
  refine lv_iconst (v := -1) hx hb dX6_sheet_21 (by decide) ?_
  refine lv_icmp_ne (tgt := 34) hx hb dX6_sheet_22 (by decide) (fun c5 => ?_) (fun c5 => absurd c5 h3)
  refine lv_iload_n hx hb dX6_sheet_34 rfl (lv_at hl 3 rfl) ?_
  refine lv_bipush (v := 40) hx hb dX6_sheet_35 (by decide) ?_
  have e40 : nI N ≤ (40 : Int32) := nI_le (a := N) (b := 40) hN (by omega)
  refine lv_icmp_le (tgt := 42) hx hb dX6_sheet_37 (by decide) (fun c5 => ?_) (fun c5 => absurd e40 c5)
  refine lv_iload_n hx hb dX6_sheet_42 rfl (lv_at hl 3 rfl) ?_
  refine lv_if_ge (tgt := 49) hx hb dX6_sheet_43 (by decide) (fun c5 => ?_) (fun c5 => absurd (nI_pos' (by omega)) c5)
  refine lv_aload_n hx hb dX6_sheet_49 rfl (lv_at hl 0 rfl) ?_
  refine va_get (C := RX6) (T := TX6) (N := 13) (own := RX6) (v := .ref (q 10)) hx hb ht inlX6 hown hK hP 0 rfl rfl 10 (Nat.le_of_ble_eq_true rfl) (ht _ mw_2_16) (fun _ h9 => h9) rfl dX6_sheet_50 ?_
  refine lv_iload_n hx hb dX6_sheet_53 rfl (lv_at hl 1 rfl) ?_
  refine va_new (ci := 5) (fs := [.int 0, .null]) (C := RX5) (T := TX5) (N := 2) (own := RX6) hx hb ht inlX5 tyX5 tyX5_ok hown (ht _ mw_2_15) (ht _ mw_43_18) (ht _ mw_43_19) hK hP hD hS hA rfl (by intro j hj; rcases (show j = 0 ∨ j = 1 by omega) with rfl | rfl <;> rfl) (Nat.le_of_ble_eq_true rfl) (Nat.le_of_ble_eq_true rfl) dX6_sheet_54 (fun a H hP hD hS => ?_)
  have hP : va_P D vwCl (wX6 o q F ++ wQ cR (q 10) g ++ [(a, .inr (5, [.int 0, .null]))] : va_W) H := hP
  have hD : va_D A9 (wX6 o q F ++ wQ cR (q 10) g ++ [(a, .inr (5, [.int 0, .null]))] : va_W) := hD
  refine lv_dup hx hb dX6_sheet_57 rfl ?_
  refine lv_iload_n hx hb dX6_sheet_58 rfl (lv_at hl 2 rfl) ?_
  refine lv_iload_n hx hb dX6_sheet_59 rfl (lv_at hl 3 rfl) ?_
  refine C_I (wr := [0, 1].filterMap (fun i => (wX6 o q F ++ wQ cR (q 10) g ++ [(a, .inr (5, [.int 0, .null]))] : va_W)[i]?)) X hP hD hS [.int x2, .int (nI N)] [.ref a, .int (nI k), .ref (q 10)] (w_X5_init l D cI cZ cR adK adV _ a x2 N hN) cal_X5_init mw_43_20 rfl [2] [0, 1] [0, 1, 2, 3] (fun u => (wX6 o q F ++ wQ cR (q 10) g ++ wX5 cI cZ N a (fun _ => u) (fun _ => x2) (fun _ _ => 0) : va_W)) rfl rfl (fun _ => rfl) rfl ⟨rfl, rfl⟩ ⟨Nat.le_of_ble_eq_true rfl, Nat.le_of_ble_eq_true rfl⟩ hl.1 rfl (Nat.le_of_ble_eq_true rfl) ⟨Nat.le_of_ble_eq_true rfl, by show 0 + 2 + N ≤ 42; omega⟩ dX6_sheet_60 (fun u H locs _ hP hD hS => ?_)
  have hin : vp_in (nI k) 4 := vp_in_nI hk (by omega)
  refine g_astR (f := g) (k := k) hx hb hK hP hD hS 1 2 2 rfl rfl rfl hin (nI_clamp (by omega)) dX6_sheet_63 (fun H locs hP hD hS => ?_)
  refine W.widen (k := 2) (n := 42) (Nat.le_of_ble_eq_true rfl) (by omega) ?_
  refine lv_iconst (v := 1) hx hb dX6_sheet_64 (by decide) ?_
  exact ret _ (a, u) _ _ _ _ dX6_sheet_65 rfl hP hD hS
