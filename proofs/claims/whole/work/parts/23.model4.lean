/-! 23.model4: what the bytecode of these methods asks, and the walks (written by wip/gen/mk.py) -/
theorem cal_X7_isRow : CalV yX7_isRow cX7_isRow 3 (some .boolean) 2 := ⟨mw_42_6, mw_1_5, mw_42_4, mw_42_5, ⟨by decide +kernel, by decide +kernel, by decide +kernel⟩⟩
theorem dX7_row_0 : decode cX7_row 0 = .ok (.aload_n 0, 1) := by decide +kernel
theorem dX7_row_1 : decode cX7_row 1 = .ok (.iload_n 1, 1) := by decide +kernel
theorem dX7_row_2 : decode cX7_row 2 = .ok (.iload_n 2, 1) := by decide +kernel
theorem dX7_row_3 : decode cX7_row 3 = .ok (.invokevirtual 290, 3) := by decide +kernel
theorem dX7_row_6 : decode cX7_row 6 = .ok (.ifCond .eq 16, 3) := by decide +kernel
theorem dX7_row_9 : decode cX7_row 9 = .ok (.aload_n 0, 1) := by decide +kernel
theorem dX7_row_10 : decode cX7_row 10 = .ok (.getfield 32, 3) := by decide +kernel
theorem dX7_row_13 : decode cX7_row 13 = .ok (.iconst 3, 1) := by decide +kernel
theorem dX7_row_14 : decode cX7_row 14 = .ok (.iload_n 1, 1) := by decide +kernel
theorem dX7_row_15 : decode cX7_row 15 = .ok (.imul, 1) := by decide +kernel
theorem dX7_row_16 : decode cX7_row 16 = .ok (.iload_n 2, 1) := by decide +kernel
theorem dX7_row_17 : decode cX7_row 17 = .ok (.iadd, 1) := by decide +kernel
theorem dX7_row_18 : decode cX7_row 18 = .ok (.iaload, 1) := by decide +kernel
theorem dX7_row_19 : decode cX7_row 19 = .ok (.goto 5, 3) := by decide +kernel
theorem dX7_row_22 : decode cX7_row 22 = .ok (.bipush (-9), 2) := by decide +kernel
theorem dX7_row_24 : decode cX7_row 24 = .ok (.ireturn, 1) := by decide +kernel
def p_X7_row (F : tF) (A : tA) (x1 : Int32) (x2 : Int32) (K : Int32 → Prop) : Prop := (p_X7_isRow F A x1 x2 (fun r3 => ((r3 = 0 → (K (-9 : Int32))) ∧ (¬ r3 = 0 → (vp_in (((3 : Int32) * x1) + x2) 30 ∧ (K ((A 14) ((((3 : Int32) * x1) + x2)).toNatClampNeg)))))))
set_option maxHeartbeats 4000000 in
set_option maxRecDepth 100000 in
theorem w_X7_row (l : Launch) (D : va_G) (cI cZ cR : ClassId) (adK adV : Nat → Nat) (sz : Nat) (o : Nat) (q : Nat → Nat) (F : tF) (A : tA) (x1 : Int32) (x2 : Int32) (K : Int32 → Prop) (h : p_X7_row F A x1 x2 K) : MI l D cI cZ cR adK adV yX7_row cX7_row 3 (some .int) (rmN 2 47) [.ref o, .int x1, .int x2] (wX7 cI cZ o q F A : va_W) sz (fun (r : Int32) (u : Unit) => K r) (fun (u : Unit) => (wX7 cI cZ o q F A : va_W)) := by
  refine M_i (by decide +kernel) (Nat.le_of_ble_eq_true rfl) ?_
  intro p e s m args below meth c Q A9 ls X ret hP hD hS hl
  obtain ⟨hx, hb, hml, ht, hown, hK, hA, hE⟩ := id X
  have hl : lv_has ls 3 [(0, .ref o), (1, .int x1), (2, .int x2)] := hl
  unfold p_X7_row at h
  refine lv_aload_n hx hb dX7_row_0 rfl (lv_at hl 0 rfl) ?_
  refine lv_iload_n hx hb dX7_row_1 rfl (lv_at hl 1 rfl) ?_
  refine lv_iload_n hx hb dX7_row_2 rfl (lv_at hl 2 rfl) ?_
  refine C_vi (wr := []) X hP hD hS [.int x1, .int x2] [] (w_X7_isRow l D cI cZ cR adK adV _ o q F A x1 x2 _ h) cal_X7_isRow mw_42_3 rfl [0, 1, 2, 3, 4, 5, 6, 7, 8, 9, 10, 11, 12, 13, 14, 15] [] [0, 1, 2, 3, 4, 5, 6, 7, 8, 9, 10, 11, 12, 13, 14, 15] (fun u => (wX7 cI cZ o q F A : va_W)) rfl rfl (fun _ => rfl) rfl 0 rfl rfl ⟨rfl, rfl⟩ ⟨Nat.le_of_ble_eq_true rfl, Nat.le_of_ble_eq_true rfl⟩ hl.1 rfl (Nat.le_of_ble_eq_true rfl) ⟨Nat.zero_le _, Nat.zero_le _⟩ dX7_row_3 (fun r3 u H locs h hP hD hS => ?_)
  refine lv_if_eq (tgt := 22) hx hb dX7_row_6 (by decide) (fun c6 => ?_) (fun c6 => ?_)
  · replace h := h.1 c6
    refine lv_bipush (v := -9) hx hb dX7_row_22 (by decide) ?_
    exact ret _ () _ _ _ _ dX7_row_24 h hP hD hS
  · replace h := h.2 c6
    refine lv_aload_n hx hb dX7_row_9 rfl (lv_at hl 0 rfl) ?_
    refine va_get (C := RX7) (T := TX7) (N := 28) (own := RX7) (v := .ref (q 14)) hx hb ht inlX7 hown hK hP 0 rfl rfl 14 (Nat.le_of_ble_eq_true rfl) (ht _ mw_5_14) (fun _ h9 => h9) rfl dX7_row_10 ?_
    refine lv_iconst (v := 3) hx hb dX7_row_13 (by decide) ?_
    refine lv_iload_n hx hb dX7_row_14 rfl (lv_at hl 1 rfl) ?_
    refine lv_imul hx hb dX7_row_15 ?_
    refine lv_iload_n hx hb dX7_row_16 rfl (lv_at hl 2 rfl) ?_
    refine lv_iadd hx hb dX7_row_17 ?_
    obtain ⟨hi18, h⟩ := h
    refine g_iald (f := (A 14)) (k := ((((3 : Int32) * x1) + x2)).toNatClampNeg) hx hb hK hP 8 0 rfl rfl hi18 rfl dX7_row_18 ?_
    refine lv_goto (tgt := 24) hx hb dX7_row_19 (by decide) ?_
    exact ret _ () _ _ _ _ dX7_row_24 h hP hD hS
theorem dX7_alterRow_0 : decode cX7_alterRow 0 = .ok (.aload_n 0, 1) := by decide +kernel
theorem dX7_alterRow_1 : decode cX7_alterRow 1 = .ok (.iload_n 1, 1) := by decide +kernel
theorem dX7_alterRow_2 : decode cX7_alterRow 2 = .ok (.iload_n 2, 1) := by decide +kernel
theorem dX7_alterRow_3 : decode cX7_alterRow 3 = .ok (.invokevirtual 290, 3) := by decide +kernel
theorem dX7_alterRow_6 : decode cX7_alterRow 6 = .ok (.ifCond .ne 6, 3) := by decide +kernel
theorem dX7_alterRow_9 : decode cX7_alterRow 9 = .ok (.bipush (-9), 2) := by decide +kernel
theorem dX7_alterRow_11 : decode cX7_alterRow 11 = .ok (.ireturn, 1) := by decide +kernel
theorem dX7_alterRow_12 : decode cX7_alterRow 12 = .ok (.aload_n 0, 1) := by decide +kernel
theorem dX7_alterRow_13 : decode cX7_alterRow 13 = .ok (.getfield 32, 3) := by decide +kernel
theorem dX7_alterRow_16 : decode cX7_alterRow 16 = .ok (.iconst 3, 1) := by decide +kernel
theorem dX7_alterRow_17 : decode cX7_alterRow 17 = .ok (.iload_n 1, 1) := by decide +kernel
theorem dX7_alterRow_18 : decode cX7_alterRow 18 = .ok (.imul, 1) := by decide +kernel
theorem dX7_alterRow_19 : decode cX7_alterRow 19 = .ok (.iload_n 2, 1) := by decide +kernel
theorem dX7_alterRow_20 : decode cX7_alterRow 20 = .ok (.iadd, 1) := by decide +kernel
theorem dX7_alterRow_21 : decode cX7_alterRow 21 = .ok (.iaload, 1) := by decide +kernel
theorem dX7_alterRow_22 : decode cX7_alterRow 22 = .ok (.istore 4, 2) := by decide +kernel
theorem dX7_alterRow_24 : decode cX7_alterRow 24 = .ok (.aload_n 0, 1) := by decide +kernel
theorem dX7_alterRow_25 : decode cX7_alterRow 25 = .ok (.getfield 32, 3) := by decide +kernel
theorem dX7_alterRow_28 : decode cX7_alterRow 28 = .ok (.iconst 3, 1) := by decide +kernel
theorem dX7_alterRow_29 : decode cX7_alterRow 29 = .ok (.iload_n 1, 1) := by decide +kernel
theorem dX7_alterRow_30 : decode cX7_alterRow 30 = .ok (.imul, 1) := by decide +kernel
theorem dX7_alterRow_31 : decode cX7_alterRow 31 = .ok (.iload_n 2, 1) := by decide +kernel
theorem dX7_alterRow_32 : decode cX7_alterRow 32 = .ok (.iadd, 1) := by decide +kernel
theorem dX7_alterRow_33 : decode cX7_alterRow 33 = .ok (.iload_n 3, 1) := by decide +kernel
theorem dX7_alterRow_34 : decode cX7_alterRow 34 = .ok (.iastore, 1) := by decide +kernel
theorem dX7_alterRow_35 : decode cX7_alterRow 35 = .ok (.iload 4, 2) := by decide +kernel
theorem dX7_alterRow_37 : decode cX7_alterRow 37 = .ok (.ireturn, 1) := by decide +kernel
def p_X7_alterRow (F : tF) (A : tA) (x1 : Int32) (x2 : Int32) (x3 : Int32) (K : Int32 → tF → tA → Prop) : Prop := (p_X7_isRow F A x1 x2 (fun r3 => ((¬ r3 = 0 → (vp_in (((3 : Int32) * x1) + x2) 30 ∧ (∀ y22 : Int32, y22 = ((A 14) ((((3 : Int32) * x1) + x2)).toNatClampNeg) → (vp_in (((3 : Int32) * x1) + x2) 30 ∧ (∀ f_34 : tF, f_34 = (upd (A 14) ((((3 : Int32) * x1) + x2)).toNatClampNeg x3) → (K y22 F (va_up A 14 f_34))))))) ∧ (r3 = 0 → (K (-9 : Int32) F A)))))
set_option maxHeartbeats 4000000 in
set_option maxRecDepth 100000 in
theorem w_X7_alterRow (l : Launch) (D : va_G) (cI cZ cR : ClassId) (adK adV : Nat → Nat) (sz : Nat) (o : Nat) (q : Nat → Nat) (F : tF) (A : tA) (x1 : Int32) (x2 : Int32) (x3 : Int32) (K : Int32 → tF → tA → Prop) (h : p_X7_alterRow F A x1 x2 x3 K) : MI l D cI cZ cR adK adV yX7_alterRow cX7_alterRow 5 (some .int) (rmN 2 47) [.ref o, .int x1, .int x2, .int x3] (wX7 cI cZ o q F A : va_W) sz (fun (r : Int32) (u : (tF × tA)) => K r u.1 u.2) (fun (u : (tF × tA)) => (wX7 cI cZ o q u.1 u.2 : va_W)) := by
  refine M_i (by decide +kernel) (Nat.le_of_ble_eq_true rfl) ?_
  intro p e s m args below meth c Q A9 ls X ret hP hD hS hl
  obtain ⟨hx, hb, hml, ht, hown, hK, hA, hE⟩ := id X
  have hl : lv_has ls 5 [(0, .ref o), (1, .int x1), (2, .int x2), (3, .int x3)] := hl
  unfold p_X7_alterRow at h
  refine lv_aload_n hx hb dX7_alterRow_0 rfl (lv_at hl 0 rfl) ?_
  refine lv_iload_n hx hb dX7_alterRow_1 rfl (lv_at hl 1 rfl) ?_
  refine lv_iload_n hx hb dX7_alterRow_2 rfl (lv_at hl 2 rfl) ?_
  refine C_vi (wr := []) X hP hD hS [.int x1, .int x2] [] (w_X7_isRow l D cI cZ cR adK adV _ o q F A x1 x2 _ h) cal_X7_isRow mw_42_3 rfl [0, 1, 2, 3, 4, 5, 6, 7, 8, 9, 10, 11, 12, 13, 14, 15] [] [0, 1, 2, 3, 4, 5, 6, 7, 8, 9, 10, 11, 12, 13, 14, 15] (fun u => (wX7 cI cZ o q F A : va_W)) rfl rfl (fun _ => rfl) rfl 0 rfl rfl ⟨rfl, rfl⟩ ⟨Nat.le_of_ble_eq_true rfl, Nat.le_of_ble_eq_true rfl⟩ hl.1 rfl (Nat.le_of_ble_eq_true rfl) ⟨Nat.zero_le _, Nat.zero_le _⟩ dX7_alterRow_3 (fun r3 u H locs h hP hD hS => ?_)
  refine lv_if_ne (tgt := 12) hx hb dX7_alterRow_6 (by decide) (fun c6 => ?_) (fun c6 => ?_)
  · replace h := h.1 c6
    refine lv_aload_n hx hb dX7_alterRow_12 rfl (lv_at hl 0 rfl) ?_
    refine va_get (C := RX7) (T := TX7) (N := 28) (own := RX7) (v := .ref (q 14)) hx hb ht inlX7 hown hK hP 0 rfl rfl 14 (Nat.le_of_ble_eq_true rfl) (ht _ mw_5_14) (fun _ h9 => h9) rfl dX7_alterRow_13 ?_
    refine lv_iconst (v := 3) hx hb dX7_alterRow_16 (by decide) ?_
    refine lv_iload_n hx hb dX7_alterRow_17 rfl (lv_at hl 1 rfl) ?_
    refine lv_imul hx hb dX7_alterRow_18 ?_
    refine lv_iload_n hx hb dX7_alterRow_19 rfl (lv_at hl 2 rfl) ?_
    refine lv_iadd hx hb dX7_alterRow_20 ?_
    obtain ⟨hi21, h⟩ := h
    refine g_iald (f := (A 14)) (k := ((((3 : Int32) * x1) + x2)).toNatClampNeg) hx hb hK hP 8 0 rfl rfl hi21 rfl dX7_alterRow_21 ?_
    refine lv_topi (fun y22 ey22 => ?_)
    replace h := h y22 ey22
    refine lv_istore (lv' := [(4, .int y22), (0, .ref o), (1, .int x1), (2, .int x2), (3, .int x3)]) hx hb dX7_alterRow_22 hl (by decide) rfl (fun ls hl => ?_)
    refine lv_aload_n hx hb dX7_alterRow_24 rfl (lv_at hl 1 rfl) ?_
    refine va_get (C := RX7) (T := TX7) (N := 28) (own := RX7) (v := .ref (q 14)) hx hb ht inlX7 hown hK hP 0 rfl rfl 14 (Nat.le_of_ble_eq_true rfl) (ht _ mw_5_14) (fun _ h9 => h9) rfl dX7_alterRow_25 ?_
    refine lv_iconst (v := 3) hx hb dX7_alterRow_28 (by decide) ?_
    refine lv_iload_n hx hb dX7_alterRow_29 rfl (lv_at hl 2 rfl) ?_
    refine lv_imul hx hb dX7_alterRow_30 ?_
    refine lv_iload_n hx hb dX7_alterRow_31 rfl (lv_at hl 3 rfl) ?_
    refine lv_iadd hx hb dX7_alterRow_32 ?_
    refine lv_iload_n hx hb dX7_alterRow_33 rfl (lv_at hl 4 rfl) ?_
    obtain ⟨hi34, h⟩ := h
    obtain ⟨f_34, ef_34⟩ : ∃ z : tF, z = (upd (A 14) ((((3 : Int32) * x1) + x2)).toNatClampNeg x3) := ⟨_, rfl⟩
    replace h := h f_34 ef_34
    refine g_iast (f := (A 14)) (k := ((((3 : Int32) * x1) + x2)).toNatClampNeg) hx hb hK hP hD hS 8 0 rfl rfl hi34 rfl ef_34 dX7_alterRow_34 (fun H locs hP hD hS => ?_)
    have hP : va_P D vwCl (wX7 cI cZ o q F (va_up A 14 f_34) : va_W) H := hP
    have hD : va_D A9 (wX7 cI cZ o q F (va_up A 14 f_34) : va_W) := hD
    refine lv_iload hx hb dX7_alterRow_35 (lv_at hl 0 rfl) ?_
    exact ret _ (F, (va_up A 14 f_34)) _ _ _ _ dX7_alterRow_37 h hP hD hS
  · replace h := h.2 c6
    refine lv_bipush (v := -9) hx hb dX7_alterRow_9 (by decide) ?_
    exact ret _ (F, A) _ _ _ _ dX7_alterRow_11 h hP hD hS
theorem dX7_judge_0 : decode cX7_judge 0 = .ok (.aload_n 0, 1) := by decide +kernel
theorem dX7_judge_1 : decode cX7_judge 1 = .ok (.iload_n 1, 1) := by decide +kernel
theorem dX7_judge_2 : decode cX7_judge 2 = .ok (.invokevirtual 178, 3) := by decide +kernel
theorem dX7_judge_5 : decode cX7_judge 5 = .ok (.ifCond .ne 5, 3) := by decide +kernel
theorem dX7_judge_8 : decode cX7_judge 8 = .ok (.iconst (-1), 1) := by decide +kernel
theorem dX7_judge_9 : decode cX7_judge 9 = .ok (.ireturn, 1) := by decide +kernel
theorem dX7_judge_10 : decode cX7_judge 10 = .ok (.aload_n 0, 1) := by decide +kernel
theorem dX7_judge_11 : decode cX7_judge 11 = .ok (.getfield 7, 3) := by decide +kernel
theorem dX7_judge_14 : decode cX7_judge 14 = .ok (.aload_n 0, 1) := by decide +kernel
theorem dX7_judge_15 : decode cX7_judge 15 = .ok (.getfield 16, 3) := by decide +kernel
theorem dX7_judge_18 : decode cX7_judge 18 = .ok (.invokestatic 144, 3) := by decide +kernel
theorem dX7_judge_21 : decode cX7_judge 21 = .ok (.iconst 0, 1) := by decide +kernel
theorem dX7_judge_22 : decode cX7_judge 22 = .ok (.istore_n 2, 1) := by decide +kernel
theorem dX7_judge_23 : decode cX7_judge 23 = .ok (.iconst 1, 1) := by decide +kernel
theorem dX7_judge_24 : decode cX7_judge 24 = .ok (.istore_n 3, 1) := by decide +kernel
theorem dX7_judge_25 : decode cX7_judge 25 = .ok (.iload_n 2, 1) := by decide +kernel
theorem dX7_judge_26 : decode cX7_judge 26 = .ok (.aload_n 0, 1) := by decide +kernel
theorem dX7_judge_27 : decode cX7_judge 27 = .ok (.getfield 151, 3) := by decide +kernel
theorem dX7_judge_30 : decode cX7_judge 30 = .ok (.if_icmp .ge 77, 3) := by decide +kernel
theorem dX7_judge_33 : decode cX7_judge 33 = .ok (.iload_n 3, 1) := by decide +kernel
theorem dX7_judge_34 : decode cX7_judge 34 = .ok (.ifCond .eq 73, 3) := by decide +kernel
theorem dX7_judge_37 : decode cX7_judge 37 = .ok (.aload_n 0, 1) := by decide +kernel
theorem dX7_judge_38 : decode cX7_judge 38 = .ok (.invokevirtual 206, 3) := by decide +kernel
theorem dX7_judge_41 : decode cX7_judge 41 = .ok (.aload_n 0, 1) := by decide +kernel
theorem dX7_judge_42 : decode cX7_judge 42 = .ok (.getfield 32, 3) := by decide +kernel
theorem dX7_judge_45 : decode cX7_judge 45 = .ok (.iconst 3, 1) := by decide +kernel
theorem dX7_judge_46 : decode cX7_judge 46 = .ok (.iload_n 2, 1) := by decide +kernel
theorem dX7_judge_47 : decode cX7_judge 47 = .ok (.imul, 1) := by decide +kernel
theorem dX7_judge_48 : decode cX7_judge 48 = .ok (.iaload, 1) := by decide +kernel
theorem dX7_judge_49 : decode cX7_judge 49 = .ok (.aload_n 0, 1) := by decide +kernel
theorem dX7_judge_50 : decode cX7_judge 50 = .ok (.iload_n 1, 1) := by decide +kernel
theorem dX7_judge_51 : decode cX7_judge 51 = .ok (.iconst 2, 1) := by decide +kernel
theorem dX7_judge_52 : decode cX7_judge 52 = .ok (.invokevirtual 169, 3) := by decide +kernel
theorem dX7_judge_55 : decode cX7_judge 55 = .ok (.if_icmp .ne 44, 3) := by decide +kernel
theorem dX7_judge_58 : decode cX7_judge 58 = .ok (.aload_n 0, 1) := by decide +kernel
theorem dX7_judge_59 : decode cX7_judge 59 = .ok (.getfield 32, 3) := by decide +kernel
theorem dX7_judge_62 : decode cX7_judge 62 = .ok (.iconst 3, 1) := by decide +kernel
theorem dX7_judge_63 : decode cX7_judge 63 = .ok (.iload_n 2, 1) := by decide +kernel
theorem dX7_judge_64 : decode cX7_judge 64 = .ok (.imul, 1) := by decide +kernel
theorem dX7_judge_65 : decode cX7_judge 65 = .ok (.iconst 1, 1) := by decide +kernel
theorem dX7_judge_66 : decode cX7_judge 66 = .ok (.iadd, 1) := by decide +kernel
theorem dX7_judge_67 : decode cX7_judge 67 = .ok (.iaload, 1) := by decide +kernel
theorem dX7_judge_68 : decode cX7_judge 68 = .ok (.aload_n 0, 1) := by decide +kernel
theorem dX7_judge_69 : decode cX7_judge 69 = .ok (.iload_n 1, 1) := by decide +kernel
theorem dX7_judge_70 : decode cX7_judge 70 = .ok (.invokevirtual 184, 3) := by decide +kernel
theorem dX7_judge_73 : decode cX7_judge 73 = .ok (.if_icmp .ne 26, 3) := by decide +kernel
theorem dX7_judge_76 : decode cX7_judge 76 = .ok (.aload_n 0, 1) := by decide +kernel
theorem dX7_judge_77 : decode cX7_judge 77 = .ok (.getfield 32, 3) := by decide +kernel
theorem dX7_judge_80 : decode cX7_judge 80 = .ok (.iconst 3, 1) := by decide +kernel
theorem dX7_judge_81 : decode cX7_judge 81 = .ok (.iload_n 2, 1) := by decide +kernel
theorem dX7_judge_82 : decode cX7_judge 82 = .ok (.imul, 1) := by decide +kernel
theorem dX7_judge_83 : decode cX7_judge 83 = .ok (.iconst 2, 1) := by decide +kernel
theorem dX7_judge_84 : decode cX7_judge 84 = .ok (.iadd, 1) := by decide +kernel
theorem dX7_judge_85 : decode cX7_judge 85 = .ok (.iaload, 1) := by decide +kernel
theorem dX7_judge_86 : decode cX7_judge 86 = .ok (.aload_n 0, 1) := by decide +kernel
theorem dX7_judge_87 : decode cX7_judge 87 = .ok (.getfield 7, 3) := by decide +kernel
theorem dX7_judge_90 : decode cX7_judge 90 = .ok (.iconst 3, 1) := by decide +kernel
theorem dX7_judge_91 : decode cX7_judge 91 = .ok (.iaload, 1) := by decide +kernel
theorem dX7_judge_92 : decode cX7_judge 92 = .ok (.if_icmp .ne 7, 3) := by decide +kernel
theorem dX7_judge_95 : decode cX7_judge 95 = .ok (.iconst 1, 1) := by decide +kernel
theorem dX7_judge_96 : decode cX7_judge 96 = .ok (.goto 4, 3) := by decide +kernel
theorem dX7_judge_99 : decode cX7_judge 99 = .ok (.iconst 0, 1) := by decide +kernel
theorem dX7_judge_100 : decode cX7_judge 100 = .ok (.istore_n 3, 1) := by decide +kernel
theorem dX7_judge_101 : decode cX7_judge 101 = .ok (.iinc 2 1, 3) := by decide +kernel
theorem dX7_judge_104 : decode cX7_judge 104 = .ok (.goto (-79), 3) := by decide +kernel
theorem dX7_judge_107 : decode cX7_judge 107 = .ok (.aload_n 0, 1) := by decide +kernel
theorem dX7_judge_108 : decode cX7_judge 108 = .ok (.getfield 16, 3) := by decide +kernel
theorem dX7_judge_111 : decode cX7_judge 111 = .ok (.aload_n 0, 1) := by decide +kernel
theorem dX7_judge_112 : decode cX7_judge 112 = .ok (.getfield 7, 3) := by decide +kernel
theorem dX7_judge_115 : decode cX7_judge 115 = .ok (.invokestatic 144, 3) := by decide +kernel
theorem dX7_judge_118 : decode cX7_judge 118 = .ok (.iload_n 3, 1) := by decide +kernel
theorem dX7_judge_119 : decode cX7_judge 119 = .ok (.ifCond .eq 7, 3) := by decide +kernel
theorem dX7_judge_122 : decode cX7_judge 122 = .ok (.iconst 0, 1) := by decide +kernel
theorem dX7_judge_123 : decode cX7_judge 123 = .ok (.goto 4, 3) := by decide +kernel
theorem dX7_judge_126 : decode cX7_judge 126 = .ok (.iload_n 2, 1) := by decide +kernel
theorem dX7_judge_127 : decode cX7_judge 127 = .ok (.ireturn, 1) := by decide +kernel
def p_X7_judge_J107 (F : tF) (A : tA) (K : Int32 → tF → tA → Prop) (x2 : Int32) (x3 : Int32) : Prop := (p_X7_copyRow 53 (A 2) 53 (A 0) (fun g0_115 => ((x3 = 0 → (K x2 F (va_up A 0 g0_115))) ∧ (¬ x3 = 0 → (K (0 : Int32) F (va_up A 0 g0_115))))))
set_option maxHeartbeats 4000000 in
set_option maxRecDepth 100000 in
theorem b_X7_judge_J107 {p : Program} {l : Launch} {e : Env} {s : State} {m : MethodId} {args : Array Value} {below : List Frame} {meth : Method} {c : Code} {Q : State → Prop} {D : va_G} {cI cZ cR : ClassId} {adK adV : Nat → Nat} {A9 : Nat → Prop} {o : Nat} {q : Nat → Nat} {K : Int32 → tF → tA → Prop}  (F : tF) (A : tA) (x2 : Int32) (x3 : Int32) (X : CX p s m args c yX7_judge.cls cX7_judge 4 D cI cZ cR adK adV A9) (ret : RTi p l e (rmN 6 142) s m args below meth c Q cX7_judge D A9 (fun (r : Int32) (u : (tF × tA)) => K r u.1 u.2) (fun (u : (tF × tA)) => (wX7 cI cZ o q u.1 u.2 : va_W)))  (H : Heap) (locs : List Loc) (ls : Array Slot) (h : p_X7_judge_J107 F A K x2 x3) (hP : va_P D vwCl (wX7 cI cZ o q F A : va_W) H) (hD : va_D A9 (wX7 cI cZ o q F A : va_W)) (hS : va_S A9 s.heap H locs) (hl : lv_has ls 4 [(0, .ref o), (2, .int x2), (3, .int x3)]) : W p l e (rmN 6 142) s m args below meth c H locs 0 0 Q (F0 m 107 ls []) := by
  obtain ⟨hx, hb, hml, ht, hown, hK, hA, hE⟩ := id X
  unfold p_X7_judge_J107 at h
  refine lv_aload_n hx hb dX7_judge_107 rfl (lv_at hl 0 rfl) ?_
  refine va_get (C := RX7) (T := TX7) (N := 28) (own := RX7) (v := .ref (q 2)) hx hb ht inlX7 hown hK hP 0 rfl rfl 2 (Nat.le_of_ble_eq_true rfl) (ht _ mw_5_9) (fun _ h9 => h9) rfl dX7_judge_108 ?_
  refine lv_aload_n hx hb dX7_judge_111 rfl (lv_at hl 0 rfl) ?_
  refine va_get (C := RX7) (T := TX7) (N := 28) (own := RX7) (v := .ref (q 0)) hx hb ht inlX7 hown hK hP 0 rfl rfl 0 (Nat.le_of_ble_eq_true rfl) (ht _ mw_5_7) (fun _ h9 => h9) rfl dX7_judge_112 ?_
  refine C_sv (wr := [0, 2, 4, 5, 6, 7, 8, 9, 10, 11, 12, 13, 14, 15].filterMap (fun i => (wX7 cI cZ o q F A : va_W)[i]?)) X hP hD hS [.ref (q 2), .ref (q 0)] [] (w_X7_copyRow l D cI cZ cR adK adV _ (q 2) (q 0) 53 (A 2) 53 (A 0) _ h) cal_X7_copyRow mw_12_6 rfl [3, 1] [0, 2, 4, 5, 6, 7, 8, 9, 10, 11, 12, 13, 14, 15] [0, 15, 1, 14, 2, 3, 4, 5, 6, 7, 8, 9, 10, 11, 12, 13] (fun u => (wX7 cI cZ o q F (va_up A 0 u) : va_W)) rfl rfl (fun _ => rfl) rfl ⟨rfl, rfl⟩ ⟨Nat.le_of_ble_eq_true rfl, Nat.le_of_ble_eq_true rfl⟩ hl.1 rfl (Nat.le_of_ble_eq_true rfl) ⟨Nat.zero_le _, Nat.zero_le _⟩ dX7_judge_115 (fun u H locs h hP hD hS => ?_)
  obtain ⟨g0_115, rfl⟩ : ∃ z, z = u := ⟨_, rfl⟩
  try dsimp only at h
  have hP : va_P D vwCl (wX7 cI cZ o q F (va_up A 0 g0_115) : va_W) H := hP
  have hD : va_D A9 (wX7 cI cZ o q F (va_up A 0 g0_115) : va_W) := hD
  refine lv_iload_n hx hb dX7_judge_118 rfl (lv_at hl 2 rfl) ?_
  refine lv_if_eq (tgt := 126) hx hb dX7_judge_119 (by decide) (fun c119 => ?_) (fun c119 => ?_)
  · replace h := h.1 c119
    refine lv_iload_n hx hb dX7_judge_126 rfl (lv_at hl 1 rfl) ?_
    exact ret _ (F, (va_up A 0 g0_115)) _ _ _ _ dX7_judge_127 h hP hD hS
  · replace h := h.2 c119
    refine lv_iconst (v := 0) hx hb dX7_judge_122 (by decide) ?_
    refine lv_goto (tgt := 127) hx hb dX7_judge_123 (by decide) ?_
    exact ret _ (F, (va_up A 0 g0_115)) _ _ _ _ dX7_judge_127 h hP hD hS
def p_X7_judge_J100 (F : tF) (A : tA) (B25 : (tF → tA → Int32 → Int32 → Prop)) (K : Int32 → tF → tA → Prop) (x1 : Int32) (x2 : Int32) (s0 : Int32) : Prop := (∀ y101 : Int32, y101 = (x2 + (1 : Int32)) → (B25 F A y101 s0))
set_option maxHeartbeats 4000000 in
set_option maxRecDepth 100000 in
theorem b_X7_judge_J100 {p : Program} {l : Launch} {e : Env} {s : State} {m : MethodId} {args : Array Value} {below : List Frame} {meth : Method} {c : Code} {Q : State → Prop} {D : va_G} {cI cZ cR : ClassId} {adK adV : Nat → Nat} {A9 : Nat → Prop} {o : Nat} {q : Nat → Nat} {K : Int32 → tF → tA → Prop} {B25 : (tF → tA → Int32 → Int32 → Prop)} (F : tF) (A : tA) (x1 : Int32) (x2 : Int32) (s0 : Int32) (X : CX p s m args c yX7_judge.cls cX7_judge 4 D cI cZ cR adK adV A9) (ret : RTi p l e (rmN 6 142) s m args below meth c Q cX7_judge D A9 (fun (r : Int32) (u : (tF × tA)) => K r u.1 u.2) (fun (u : (tF × tA)) => (wX7 cI cZ o q u.1 u.2 : va_W))) (hB25 : ∀ (F : tF) (A : tA) (x2 : Int32) (x3 : Int32) (H : Heap) (locs : List Loc) (ls : Array Slot), B25 F A x2 x3 → va_P D vwCl (wX7 cI cZ o q F A : va_W) H → va_D A9 (wX7 cI cZ o q F A : va_W) → va_S A9 s.heap H locs → lv_has ls 4 [(0, .ref o), (1, .int x1), (2, .int x2), (3, .int x3)] → W p l e (rmN 6 142) s m args below meth c H locs 0 0 Q (F0 m 25 ls [])) (H : Heap) (locs : List Loc) (ls : Array Slot) (h : p_X7_judge_J100 F A B25 K x1 x2 s0) (hP : va_P D vwCl (wX7 cI cZ o q F A : va_W) H) (hD : va_D A9 (wX7 cI cZ o q F A : va_W)) (hS : va_S A9 s.heap H locs) (hl : lv_has ls 4 [(0, .ref o), (1, .int x1), (2, .int x2)]) : W p l e (rmN 6 142) s m args below meth c H locs 0 0 Q (F0 m 100 ls [.int s0]) := by
  obtain ⟨hx, hb, hml, ht, hown, hK, hA, hE⟩ := id X
  unfold p_X7_judge_J100 at h
  refine lv_istore_n (lv' := [(3, .int s0), (0, .ref o), (1, .int x1), (2, .int x2)]) hx hb dX7_judge_100 rfl hl (by decide) rfl (fun ls hl => ?_)
  obtain ⟨y101, ey101⟩ : ∃ y : Int32, y = (x2 + (1 : Int32)) := ⟨_, rfl⟩
  replace h := h y101 ey101
  refine lv_iinc (v := y101) (lv' := [(2, .int y101), (3, .int s0), (0, .ref o), (1, .int x1)]) hx hb dX7_judge_101 hl (k := 3) rfl (by rw [ey101]; rfl) (by decide) rfl (fun ls hl => ?_)
  refine lv_goto (tgt := 25) hx hb dX7_judge_104 (by decide) ?_
  exact hB25 F A y101 s0 _ _ _ h hP hD hS (lv_sub hl [2, 3, 0, 1] rfl)
def p_X7_judge_J99 (F : tF) (A : tA) (B25 : (tF → tA → Int32 → Int32 → Prop)) (K : Int32 → tF → tA → Prop) (x1 : Int32) (x2 : Int32) : Prop := (p_X7_judge_J100 F A B25 K x1 x2 (0 : Int32))
set_option maxHeartbeats 4000000 in
set_option maxRecDepth 100000 in
theorem b_X7_judge_J99 {p : Program} {l : Launch} {e : Env} {s : State} {m : MethodId} {args : Array Value} {below : List Frame} {meth : Method} {c : Code} {Q : State → Prop} {D : va_G} {cI cZ cR : ClassId} {adK adV : Nat → Nat} {A9 : Nat → Prop} {o : Nat} {q : Nat → Nat} {K : Int32 → tF → tA → Prop} {B25 : (tF → tA → Int32 → Int32 → Prop)} (F : tF) (A : tA) (x1 : Int32) (x2 : Int32) (X : CX p s m args c yX7_judge.cls cX7_judge 4 D cI cZ cR adK adV A9) (ret : RTi p l e (rmN 6 142) s m args below meth c Q cX7_judge D A9 (fun (r : Int32) (u : (tF × tA)) => K r u.1 u.2) (fun (u : (tF × tA)) => (wX7 cI cZ o q u.1 u.2 : va_W))) (hB25 : ∀ (F : tF) (A : tA) (x2 : Int32) (x3 : Int32) (H : Heap) (locs : List Loc) (ls : Array Slot), B25 F A x2 x3 → va_P D vwCl (wX7 cI cZ o q F A : va_W) H → va_D A9 (wX7 cI cZ o q F A : va_W) → va_S A9 s.heap H locs → lv_has ls 4 [(0, .ref o), (1, .int x1), (2, .int x2), (3, .int x3)] → W p l e (rmN 6 142) s m args below meth c H locs 0 0 Q (F0 m 25 ls [])) (H : Heap) (locs : List Loc) (ls : Array Slot) (h : p_X7_judge_J99 F A B25 K x1 x2) (hP : va_P D vwCl (wX7 cI cZ o q F A : va_W) H) (hD : va_D A9 (wX7 cI cZ o q F A : va_W)) (hS : va_S A9 s.heap H locs) (hl : lv_has ls 4 [(0, .ref o), (1, .int x1), (2, .int x2)]) : W p l e (rmN 6 142) s m args below meth c H locs 0 0 Q (F0 m 99 ls []) := by
  obtain ⟨hx, hb, hml, ht, hown, hK, hA, hE⟩ := id X
  unfold p_X7_judge_J99 at h
  refine lv_iconst (v := 0) hx hb dX7_judge_99 (by decide) ?_
  exact b_X7_judge_J100 F A x1 x2 (0 : Int32) X ret hB25 _ _ _ h hP hD hS (lv_sub hl [0, 1, 2] rfl)
def p_X7_judge_L25 (x1 : Int32) (K : Int32 → tF → tA → Prop) : Nat → tF → tA → Int32 → Int32 → Prop
  | 0, _, _, _, _ => False
  | n25 + 1, F, A, x2, x3 => (((F 15) ≤ x2 → (p_X7_judge_J107 F A K x2 x3)) ∧ (¬ (F 15) ≤ x2 → ((x3 = 0 → (p_X7_judge_J107 F A K x2 x3)) ∧ (¬ x3 = 0 → (p_X7_goesOn F A (fun F_38 A_38 => (vp_in ((3 : Int32) * x2) 30 ∧ (p_X7_its F_38 A_38 x1 (2 : Int32) (fun r52 => ((¬ ((A_38 14) (((3 : Int32) * x2)).toNatClampNeg) = r52 → (p_X7_judge_J99 F_38 A_38 (p_X7_judge_L25 x1 K n25) K x1 x2)) ∧ (((A_38 14) (((3 : Int32) * x2)).toNatClampNeg) = r52 → (vp_in (((3 : Int32) * x2) + (1 : Int32)) 30 ∧ (p_X7_voteOf F_38 A_38 x1 (fun r70 => ((¬ ((A_38 14) ((((3 : Int32) * x2) + (1 : Int32))).toNatClampNeg) = r70 → (p_X7_judge_J99 F_38 A_38 (p_X7_judge_L25 x1 K n25) K x1 x2)) ∧ (((A_38 14) ((((3 : Int32) * x2) + (1 : Int32))).toNatClampNeg) = r70 → (vp_in (((3 : Int32) * x2) + (2 : Int32)) 30 ∧ ((¬ ((A_38 14) ((((3 : Int32) * x2) + (2 : Int32))).toNatClampNeg) = ((A_38 0) 3) → (p_X7_judge_J99 F_38 A_38 (p_X7_judge_L25 x1 K n25) K x1 x2)) ∧ (((A_38 14) ((((3 : Int32) * x2) + (2 : Int32))).toNatClampNeg) = ((A_38 0) 3) → (p_X7_judge_J100 F_38 A_38 (p_X7_judge_L25 x1 K n25) K x1 x2 (1 : Int32)))))))))))))))))))))
set_option maxHeartbeats 4000000 in
set_option maxRecDepth 100000 in
theorem b_X7_judge_L25 {p : Program} {l : Launch} {e : Env} {s : State} {m : MethodId} {args : Array Value} {below : List Frame} {meth : Method} {c : Code} {Q : State → Prop} {D : va_G} {cI cZ cR : ClassId} {adK adV : Nat → Nat} {A9 : Nat → Prop} {o : Nat} {q : Nat → Nat} {K : Int32 → tF → tA → Prop}  (x1 : Int32) (X : CX p s m args c yX7_judge.cls cX7_judge 4 D cI cZ cR adK adV A9) (ret : RTi p l e (rmN 6 142) s m args below meth c Q cX7_judge D A9 (fun (r : Int32) (u : (tF × tA)) => K r u.1 u.2) (fun (u : (tF × tA)) => (wX7 cI cZ o q u.1 u.2 : va_W)))   : ∀ (n : Nat) (F : tF) (A : tA) (x2 : Int32) (x3 : Int32) (H : Heap) (locs : List Loc) (ls : Array Slot), p_X7_judge_L25 x1 K n F A x2 x3 → va_P D vwCl (wX7 cI cZ o q F A : va_W) H → va_D A9 (wX7 cI cZ o q F A : va_W) → va_S A9 s.heap H locs → lv_has ls 4 [(0, .ref o), (1, .int x1), (2, .int x2), (3, .int x3)] → W p l e (rmN 6 142) s m args below meth c H locs 0 0 Q (F0 m 25 ls []) := by
  obtain ⟨hx, hb, hml, ht, hown, hK, hA, hE⟩ := id X
  intro n
  induction n with
  | zero => intro F A x2 x3 H locs ls h; exact False.elim h
  | succ n25 ih =>
    intro F A x2 x3 H locs ls h hP hD hS hl
    rw [p_X7_judge_L25] at h
    refine lv_iload_n hx hb dX7_judge_25 rfl (lv_at hl 2 rfl) ?_
    refine lv_aload_n hx hb dX7_judge_26 rfl (lv_at hl 0 rfl) ?_
    refine va_get (C := RX7) (T := TX7) (N := 28) (own := RX7) (v := .int (F 15)) hx hb ht inlX7 hown hK hP 0 rfl rfl 15 (Nat.le_of_ble_eq_true rfl) (ht _ mw_12_5) (fun _ h9 => h9) rfl dX7_judge_27 ?_
    refine lv_icmp_ge (tgt := 107) hx hb dX7_judge_30 (by decide) (fun c30 => ?_) (fun c30 => ?_)
    · replace h := h.1 c30
      exact b_X7_judge_J107 F A x2 x3 X ret  _ _ _ h hP hD hS (lv_sub hl [0, 2, 3] rfl)
    · replace h := h.2 c30
      refine lv_iload_n hx hb dX7_judge_33 rfl (lv_at hl 3 rfl) ?_
      refine lv_if_eq (tgt := 107) hx hb dX7_judge_34 (by decide) (fun c34 => ?_) (fun c34 => ?_)
      · replace h := h.1 c34
        exact b_X7_judge_J107 F A x2 x3 X ret  _ _ _ h hP hD hS (lv_sub hl [0, 2, 3] rfl)
      · replace h := h.2 c34
        refine lv_aload_n hx hb dX7_judge_37 rfl (lv_at hl 0 rfl) ?_
        refine C_vv (wr := []) X hP hD hS [] [] (w_X7_goesOn l D cI cZ cR adK adV _ o q F A _ h) cal_X7_goesOn mw_26_0 rfl [0, 1, 2, 3, 4, 5, 6, 7, 8, 9, 10, 11, 12, 13, 14, 15] [] [0, 1, 2, 3, 4, 5, 6, 7, 8, 9, 10, 11, 12, 13, 14, 15] (fun u => (wX7 cI cZ o q u.1 u.2 : va_W)) rfl rfl (fun _ => rfl) rfl 0 rfl rfl ⟨rfl, rfl⟩ ⟨Nat.le_of_ble_eq_true rfl, Nat.le_of_ble_eq_true rfl⟩ hl.1 rfl (Nat.le_of_ble_eq_true rfl) ⟨Nat.zero_le _, Nat.zero_le _⟩ dX7_judge_38 (fun u H locs h hP hD hS => ?_)
        obtain ⟨F_38, A_38⟩ := u
        try dsimp only at h
        have hP : va_P D vwCl (wX7 cI cZ o q F_38 A_38 : va_W) H := hP
        have hD : va_D A9 (wX7 cI cZ o q F_38 A_38 : va_W) := hD
        refine lv_aload_n hx hb dX7_judge_41 rfl (lv_at hl 0 rfl) ?_
        refine va_get (C := RX7) (T := TX7) (N := 28) (own := RX7) (v := .ref (q 14)) hx hb ht inlX7 hown hK hP 0 rfl rfl 14 (Nat.le_of_ble_eq_true rfl) (ht _ mw_5_14) (fun _ h9 => h9) rfl dX7_judge_42 ?_
        refine lv_iconst (v := 3) hx hb dX7_judge_45 (by decide) ?_
        refine lv_iload_n hx hb dX7_judge_46 rfl (lv_at hl 2 rfl) ?_
        refine lv_imul hx hb dX7_judge_47 ?_
        obtain ⟨hi48, h⟩ := h
        refine g_iald (f := (A_38 14)) (k := (((3 : Int32) * x2)).toNatClampNeg) hx hb hK hP 8 0 rfl rfl hi48 rfl dX7_judge_48 ?_
        refine lv_aload_n hx hb dX7_judge_49 rfl (lv_at hl 0 rfl) ?_
        refine lv_iload_n hx hb dX7_judge_50 rfl (lv_at hl 1 rfl) ?_
        refine lv_iconst (v := 2) hx hb dX7_judge_51 (by decide) ?_
        refine C_vi (wr := []) X hP hD hS [.int x1, .int (2 : Int32)] [.int ((A_38 14) (((3 : Int32) * x2)).toNatClampNeg)] (w_X7_its l D cI cZ cR adK adV _ o q F_38 A_38 x1 (2 : Int32) _ h) cal_X7_its mw_18_16 rfl [0, 1, 2, 3, 4, 5, 6, 7, 8, 9, 10, 11, 12, 13, 14, 15] [] [0, 1, 2, 3, 4, 5, 6, 7, 8, 9, 10, 11, 12, 13, 14, 15] (fun u => (wX7 cI cZ o q F_38 A_38 : va_W)) rfl rfl (fun _ => rfl) rfl 0 rfl rfl ⟨rfl, rfl⟩ ⟨Nat.le_of_ble_eq_true rfl, Nat.le_of_ble_eq_true rfl⟩ hl.1 rfl (Nat.le_of_ble_eq_true rfl) ⟨Nat.zero_le _, Nat.zero_le _⟩ dX7_judge_52 (fun r52 u H locs h hP hD hS => ?_)
        refine lv_icmp_ne (tgt := 99) hx hb dX7_judge_55 (by decide) (fun c55 => ?_) (fun c55 => ?_)
        · replace h := h.1 c55
          exact b_X7_judge_J99 F_38 A_38 x1 x2 X ret ih _ _ _ h hP hD hS (lv_sub hl [0, 1, 2] rfl)
        · replace h := h.2 c55
          refine lv_aload_n hx hb dX7_judge_58 rfl (lv_at hl 0 rfl) ?_
          refine va_get (C := RX7) (T := TX7) (N := 28) (own := RX7) (v := .ref (q 14)) hx hb ht inlX7 hown hK hP 0 rfl rfl 14 (Nat.le_of_ble_eq_true rfl) (ht _ mw_5_14) (fun _ h9 => h9) rfl dX7_judge_59 ?_
          refine lv_iconst (v := 3) hx hb dX7_judge_62 (by decide) ?_
          refine lv_iload_n hx hb dX7_judge_63 rfl (lv_at hl 2 rfl) ?_
          refine lv_imul hx hb dX7_judge_64 ?_
          refine lv_iconst (v := 1) hx hb dX7_judge_65 (by decide) ?_
          refine lv_iadd hx hb dX7_judge_66 ?_
          obtain ⟨hi67, h⟩ := h
          refine g_iald (f := (A_38 14)) (k := ((((3 : Int32) * x2) + (1 : Int32))).toNatClampNeg) hx hb hK hP 8 0 rfl rfl hi67 rfl dX7_judge_67 ?_
          refine lv_aload_n hx hb dX7_judge_68 rfl (lv_at hl 0 rfl) ?_
          refine lv_iload_n hx hb dX7_judge_69 rfl (lv_at hl 1 rfl) ?_
          refine C_vi (wr := []) X hP hD hS [.int x1] [.int ((A_38 14) ((((3 : Int32) * x2) + (1 : Int32))).toNatClampNeg)] (w_X7_voteOf l D cI cZ cR adK adV _ o q F_38 A_38 x1 _ h) cal_X7_voteOf mw_19_0 rfl [0, 1, 2, 3, 4, 5, 6, 7, 8, 9, 10, 11, 12, 13, 14, 15] [] [0, 1, 2, 3, 4, 5, 6, 7, 8, 9, 10, 11, 12, 13, 14, 15] (fun u => (wX7 cI cZ o q F_38 A_38 : va_W)) rfl rfl (fun _ => rfl) rfl 0 rfl rfl ⟨rfl, rfl⟩ ⟨Nat.le_of_ble_eq_true rfl, Nat.le_of_ble_eq_true rfl⟩ hl.1 rfl (Nat.le_of_ble_eq_true rfl) ⟨Nat.zero_le _, Nat.zero_le _⟩ dX7_judge_70 (fun r70 u H locs h hP hD hS => ?_)
          refine lv_icmp_ne (tgt := 99) hx hb dX7_judge_73 (by decide) (fun c73 => ?_) (fun c73 => ?_)
          · replace h := h.1 c73
            exact b_X7_judge_J99 F_38 A_38 x1 x2 X ret ih _ _ _ h hP hD hS (lv_sub hl [0, 1, 2] rfl)
          · replace h := h.2 c73
            refine lv_aload_n hx hb dX7_judge_76 rfl (lv_at hl 0 rfl) ?_
            refine va_get (C := RX7) (T := TX7) (N := 28) (own := RX7) (v := .ref (q 14)) hx hb ht inlX7 hown hK hP 0 rfl rfl 14 (Nat.le_of_ble_eq_true rfl) (ht _ mw_5_14) (fun _ h9 => h9) rfl dX7_judge_77 ?_
            refine lv_iconst (v := 3) hx hb dX7_judge_80 (by decide) ?_
            refine lv_iload_n hx hb dX7_judge_81 rfl (lv_at hl 2 rfl) ?_
            refine lv_imul hx hb dX7_judge_82 ?_
            refine lv_iconst (v := 2) hx hb dX7_judge_83 (by decide) ?_
            refine lv_iadd hx hb dX7_judge_84 ?_
            obtain ⟨hi85, h⟩ := h
            refine g_iald (f := (A_38 14)) (k := ((((3 : Int32) * x2) + (2 : Int32))).toNatClampNeg) hx hb hK hP 8 0 rfl rfl hi85 rfl dX7_judge_85 ?_
            refine lv_aload_n hx hb dX7_judge_86 rfl (lv_at hl 0 rfl) ?_
            refine va_get (C := RX7) (T := TX7) (N := 28) (own := RX7) (v := .ref (q 0)) hx hb ht inlX7 hown hK hP 0 rfl rfl 0 (Nat.le_of_ble_eq_true rfl) (ht _ mw_5_7) (fun _ h9 => h9) rfl dX7_judge_87 ?_
            refine lv_iconst (v := 3) hx hb dX7_judge_90 (by decide) ?_
            refine g_iald (f := (A_38 0)) (k := 3) hx hb hK hP 1 0 rfl rfl (vp_in_lit rfl : vp_in (3 : Int32) 53) (by decide) dX7_judge_91 ?_
            refine lv_icmp_ne (tgt := 99) hx hb dX7_judge_92 (by decide) (fun c92 => ?_) (fun c92 => ?_)
            · replace h := h.1 c92
              exact b_X7_judge_J99 F_38 A_38 x1 x2 X ret ih _ _ _ h hP hD hS (lv_sub hl [0, 1, 2] rfl)
            · replace h := h.2 c92
              refine lv_iconst (v := 1) hx hb dX7_judge_95 (by decide) ?_
              refine lv_goto (tgt := 100) hx hb dX7_judge_96 (by decide) ?_
              exact b_X7_judge_J100 F_38 A_38 x1 x2 (1 : Int32) X ret ih _ _ _ h hP hD hS (lv_sub hl [0, 1, 2] rfl)
def p_X7_judge (F : tF) (A : tA) (x1 : Int32) (K : Int32 → tF → tA → Prop) : Prop := (p_X7_isOne F A x1 (fun r2 => ((¬ r2 = 0 → (p_X7_copyRow 53 (A 0) 53 (A 2) (fun g0_18 => (∃ n25, p_X7_judge_L25 x1 K n25 F (va_up A 2 g0_18) (0 : Int32) (1 : Int32))))) ∧ (r2 = 0 → (K (-1 : Int32) F A)))))
set_option maxHeartbeats 4000000 in
set_option maxRecDepth 100000 in
theorem w_X7_judge (l : Launch) (D : va_G) (cI cZ cR : ClassId) (adK adV : Nat → Nat) (sz : Nat) (o : Nat) (q : Nat → Nat) (F : tF) (A : tA) (x1 : Int32) (K : Int32 → tF → tA → Prop) (h : p_X7_judge F A x1 K) : MI l D cI cZ cR adK adV yX7_judge cX7_judge 4 (some .int) (rmN 6 142) [.ref o, .int x1] (wX7 cI cZ o q F A : va_W) sz (fun (r : Int32) (u : (tF × tA)) => K r u.1 u.2) (fun (u : (tF × tA)) => (wX7 cI cZ o q u.1 u.2 : va_W)) := by
  refine M_i (by decide +kernel) (Nat.le_of_ble_eq_true rfl) ?_
  intro p e s m args below meth c Q A9 ls X ret hP hD hS hl
  obtain ⟨hx, hb, hml, ht, hown, hK, hA, hE⟩ := id X
  have hl : lv_has ls 4 [(0, .ref o), (1, .int x1)] := hl
  unfold p_X7_judge at h
  refine lv_aload_n hx hb dX7_judge_0 rfl (lv_at hl 0 rfl) ?_
  refine lv_iload_n hx hb dX7_judge_1 rfl (lv_at hl 1 rfl) ?_
  refine C_vi (wr := []) X hP hD hS [.int x1] [] (w_X7_isOne l D cI cZ cR adK adV _ o q F A x1 _ h) cal_X7_isOne mw_18_12 rfl [0, 1, 2, 3, 4, 5, 6, 7, 8, 9, 10, 11, 12, 13, 14, 15] [] [0, 1, 2, 3, 4, 5, 6, 7, 8, 9, 10, 11, 12, 13, 14, 15] (fun u => (wX7 cI cZ o q F A : va_W)) rfl rfl (fun _ => rfl) rfl 0 rfl rfl ⟨rfl, rfl⟩ ⟨Nat.le_of_ble_eq_true rfl, Nat.le_of_ble_eq_true rfl⟩ hl.1 rfl (Nat.le_of_ble_eq_true rfl) ⟨Nat.zero_le _, Nat.zero_le _⟩ dX7_judge_2 (fun r2 u H locs h hP hD hS => ?_)
  refine lv_if_ne (tgt := 10) hx hb dX7_judge_5 (by decide) (fun c5 => ?_) (fun c5 => ?_)
  · replace h := h.1 c5
    refine lv_aload_n hx hb dX7_judge_10 rfl (lv_at hl 0 rfl) ?_
    refine va_get (C := RX7) (T := TX7) (N := 28) (own := RX7) (v := .ref (q 0)) hx hb ht inlX7 hown hK hP 0 rfl rfl 0 (Nat.le_of_ble_eq_true rfl) (ht _ mw_5_7) (fun _ h9 => h9) rfl dX7_judge_11 ?_
    refine lv_aload_n hx hb dX7_judge_14 rfl (lv_at hl 0 rfl) ?_
    refine va_get (C := RX7) (T := TX7) (N := 28) (own := RX7) (v := .ref (q 2)) hx hb ht inlX7 hown hK hP 0 rfl rfl 2 (Nat.le_of_ble_eq_true rfl) (ht _ mw_5_9) (fun _ h9 => h9) rfl dX7_judge_15 ?_
    refine C_sv (wr := [0, 2, 4, 5, 6, 7, 8, 9, 10, 11, 12, 13, 14, 15].filterMap (fun i => (wX7 cI cZ o q F A : va_W)[i]?)) X hP hD hS [.ref (q 0), .ref (q 2)] [] (w_X7_copyRow l D cI cZ cR adK adV _ (q 0) (q 2) 53 (A 0) 53 (A 2) _ h) cal_X7_copyRow mw_12_6 rfl [1, 3] [0, 2, 4, 5, 6, 7, 8, 9, 10, 11, 12, 13, 14, 15] [0, 14, 1, 15, 2, 3, 4, 5, 6, 7, 8, 9, 10, 11, 12, 13] (fun u => (wX7 cI cZ o q F (va_up A 2 u) : va_W)) rfl rfl (fun _ => rfl) rfl ⟨rfl, rfl⟩ ⟨Nat.le_of_ble_eq_true rfl, Nat.le_of_ble_eq_true rfl⟩ hl.1 rfl (Nat.le_of_ble_eq_true rfl) ⟨Nat.zero_le _, Nat.zero_le _⟩ dX7_judge_18 (fun u H locs h hP hD hS => ?_)
    obtain ⟨g0_18, rfl⟩ : ∃ z, z = u := ⟨_, rfl⟩
    try dsimp only at h
    have hP : va_P D vwCl (wX7 cI cZ o q F (va_up A 2 g0_18) : va_W) H := hP
    have hD : va_D A9 (wX7 cI cZ o q F (va_up A 2 g0_18) : va_W) := hD
    refine lv_iconst (v := 0) hx hb dX7_judge_21 (by decide) ?_
    refine lv_istore_n (lv' := [(2, .int (0 : Int32)), (0, .ref o), (1, .int x1)]) hx hb dX7_judge_22 rfl hl (by decide) rfl (fun ls hl => ?_)
    refine lv_iconst (v := 1) hx hb dX7_judge_23 (by decide) ?_
    refine lv_istore_n (lv' := [(3, .int (1 : Int32)), (2, .int (0 : Int32)), (0, .ref o), (1, .int x1)]) hx hb dX7_judge_24 rfl hl (by decide) rfl (fun ls hl => ?_)
    obtain ⟨n25, h⟩ := h
    exact b_X7_judge_L25 x1 X ret  n25 F (va_up A 2 g0_18) (0 : Int32) (1 : Int32) _ _ _ h hP hD hS (lv_sub hl [2, 3, 1, 0] rfl)
  · replace h := h.2 c5
    refine lv_iconst (v := -1) hx hb dX7_judge_8 (by decide) ?_
    exact ret _ (F, A) _ _ _ _ dX7_judge_9 h hP hD hS
theorem dX7_isShelf_0 : decode cX7_isShelf 0 = .ok (.iload_n 0, 1) := by decide +kernel
theorem dX7_isShelf_1 : decode cX7_isShelf 1 = .ok (.i2l, 1) := by decide +kernel
theorem dX7_isShelf_2 : decode cX7_isShelf 2 = .ok (.lconst 0, 1) := by decide +kernel
theorem dX7_isShelf_3 : decode cX7_isShelf 3 = .ok (.ldc2_w 154, 3) := by decide +kernel
theorem dX7_isShelf_6 : decode cX7_isShelf 6 = .ok (.invokestatic 61, 3) := by decide +kernel
theorem dX7_isShelf_9 : decode cX7_isShelf 9 = .ok (.ireturn, 1) := by decide +kernel
def p_X7_isShelf (x0 : Int32) (K : Int32 → Prop) : Prop := (p_X7_isIn ((x0).toInt64) (0 : Int64) (3 : Int64) (fun r6 => (bo r6 ∧ (K r6))))
set_option maxHeartbeats 4000000 in
set_option maxRecDepth 100000 in
theorem w_X7_isShelf (l : Launch) (D : va_G) (cI cZ cR : ClassId) (adK adV : Nat → Nat) (sz : Nat)  (x0 : Int32) (K : Int32 → Prop) (h : p_X7_isShelf x0 K) : MI l D cI cZ cR adK adV yX7_isShelf cX7_isShelf 1 (some .boolean) (rmN 1 25) [.int x0] ([] : va_W) sz (fun (r : Int32) (u : Unit) => K r) (fun (u : Unit) => ([] : va_W)) := by
  refine M_z (by decide +kernel) (Nat.le_of_ble_eq_true rfl) ?_
  intro p e s m args below meth c Q A9 ls X ret hP hD hS hl
  obtain ⟨hx, hb, hml, ht, hown, hK, hA, hE⟩ := id X
  have hl : lv_has ls 1 [(0, .int x0)] := hl
  unfold p_X7_isShelf at h
  refine lv_iload_n hx hb dX7_isShelf_0 rfl (lv_at hl 0 rfl) ?_
  refine lv_i2l (v := (x0).toInt64) hx hb dX7_isShelf_1 rfl ?_
  refine lv_lconst (v := 0) hx hb dX7_isShelf_2 (by decide) ?_
  refine lv_ldc2 (v := 3) hx hb hown (ht _ mw_15_17) dX7_isShelf_3 ?_
  refine C_si (wr := []) X hP hD hS [.long (x0).toInt64, .long (0 : Int64), .long (3 : Int64)] [] (w_X7_isIn l D cI cZ cR adK adV _ ((x0).toInt64) (0 : Int64) (3 : Int64) _ h) cal_X7_isIn mw_6_19 rfl [] [] [] (fun u => ([] : va_W)) rfl rfl (fun _ => rfl) rfl ⟨rfl, rfl⟩ ⟨Nat.le_of_ble_eq_true rfl, Nat.le_of_ble_eq_true rfl⟩ hl.1 rfl (Nat.le_of_ble_eq_true rfl) ⟨Nat.zero_le _, Nat.zero_le _⟩ dX7_isShelf_6 (fun r6 u H locs h hP hD hS => ?_)
  obtain ⟨hz9, h⟩ := h
  exact ret _ () _ _ _ _ dX7_isShelf_9 hz9 h hP hD hS
theorem dX7_sheet_0 : decode cX7_sheet 0 = .ok (.iload_n 1, 1) := by decide +kernel
theorem dX7_sheet_1 : decode cX7_sheet 1 = .ok (.invokestatic 278, 3) := by decide +kernel
theorem dX7_sheet_4 : decode cX7_sheet 4 = .ok (.ifCond .eq 27, 3) := by decide +kernel
theorem dX7_sheet_7 : decode cX7_sheet 7 = .ok (.iload_n 2, 1) := by decide +kernel
theorem dX7_sheet_8 : decode cX7_sheet 8 = .ok (.i2l, 1) := by decide +kernel
theorem dX7_sheet_9 : decode cX7_sheet 9 = .ok (.ldc2_w 268, 3) := by decide +kernel
theorem dX7_sheet_12 : decode cX7_sheet 12 = .ok (.ldc2_w 154, 3) := by decide +kernel
theorem dX7_sheet_15 : decode cX7_sheet 15 = .ok (.invokestatic 61, 3) := by decide +kernel
theorem dX7_sheet_18 : decode cX7_sheet 18 = .ok (.ifCond .eq 13, 3) := by decide +kernel
theorem dX7_sheet_21 : decode cX7_sheet 21 = .ok (.iload_n 2, 1) := by decide +kernel
theorem dX7_sheet_22 : decode cX7_sheet 22 = .ok (.ifCond .lt 11, 3) := by decide +kernel
theorem dX7_sheet_25 : decode cX7_sheet 25 = .ok (.iload_n 3, 1) := by decide +kernel
theorem dX7_sheet_26 : decode cX7_sheet 26 = .ok (.bipush 40, 2) := by decide +kernel
theorem dX7_sheet_28 : decode cX7_sheet 28 = .ok (.if_icmp .le 5, 3) := by decide +kernel
theorem dX7_sheet_31 : decode cX7_sheet 31 = .ok (.iconst (-1), 1) := by decide +kernel
theorem dX7_sheet_32 : decode cX7_sheet 32 = .ok (.ireturn, 1) := by decide +kernel
theorem dX7_sheet_33 : decode cX7_sheet 33 = .ok (.iload_n 2, 1) := by decide +kernel
theorem dX7_sheet_34 : decode cX7_sheet 34 = .ok (.ifCond .lt 10, 3) := by decide +kernel
theorem dX7_sheet_37 : decode cX7_sheet 37 = .ok (.iload_n 3, 1) := by decide +kernel
theorem dX7_sheet_38 : decode cX7_sheet 38 = .ok (.ifCond .ge 6, 3) := by decide +kernel
theorem dX7_sheet_41 : decode cX7_sheet 41 = .ok (.bipush (-14), 2) := by decide +kernel
theorem dX7_sheet_43 : decode cX7_sheet 43 = .ok (.ireturn, 1) := by decide +kernel
theorem dX7_sheet_44 : decode cX7_sheet 44 = .ok (.aload_n 0, 1) := by decide +kernel
theorem dX7_sheet_45 : decode cX7_sheet 45 = .ok (.getfield 35, 3) := by decide +kernel
theorem dX7_sheet_48 : decode cX7_sheet 48 = .ok (.iload_n 1, 1) := by decide +kernel
theorem dX7_sheet_49 : decode cX7_sheet 49 = .ok (.iload_n 2, 1) := by decide +kernel
theorem dX7_sheet_50 : decode cX7_sheet 50 = .ok (.iastore, 1) := by decide +kernel
theorem dX7_sheet_51 : decode cX7_sheet 51 = .ok (.aload_n 0, 1) := by decide +kernel
theorem dX7_sheet_52 : decode cX7_sheet 52 = .ok (.getfield 38, 3) := by decide +kernel
theorem dX7_sheet_55 : decode cX7_sheet 55 = .ok (.iload_n 1, 1) := by decide +kernel
theorem dX7_sheet_56 : decode cX7_sheet 56 = .ok (.iload_n 2, 1) := by decide +kernel
theorem dX7_sheet_57 : decode cX7_sheet 57 = .ok (.ifCond .ge 7, 3) := by decide +kernel
theorem dX7_sheet_60 : decode cX7_sheet 60 = .ok (.iconst 0, 1) := by decide +kernel
theorem dX7_sheet_61 : decode cX7_sheet 61 = .ok (.goto 4, 3) := by decide +kernel
theorem dX7_sheet_64 : decode cX7_sheet 64 = .ok (.iload_n 3, 1) := by decide +kernel
theorem dX7_sheet_65 : decode cX7_sheet 65 = .ok (.iastore, 1) := by decide +kernel
theorem dX7_sheet_66 : decode cX7_sheet 66 = .ok (.iconst 0, 1) := by decide +kernel
theorem dX7_sheet_67 : decode cX7_sheet 67 = .ok (.istore 4, 2) := by decide +kernel
theorem dX7_sheet_69 : decode cX7_sheet 69 = .ok (.iload 4, 2) := by decide +kernel
theorem dX7_sheet_71 : decode cX7_sheet 71 = .ok (.bipush 40, 2) := by decide +kernel
theorem dX7_sheet_73 : decode cX7_sheet 73 = .ok (.if_icmp .ge 22, 3) := by decide +kernel
theorem dX7_sheet_76 : decode cX7_sheet 76 = .ok (.aload_n 0, 1) := by decide +kernel
theorem dX7_sheet_77 : decode cX7_sheet 77 = .ok (.getfield 41, 3) := by decide +kernel
theorem dX7_sheet_80 : decode cX7_sheet 80 = .ok (.bipush 40, 2) := by decide +kernel
theorem dX7_sheet_82 : decode cX7_sheet 82 = .ok (.iload_n 1, 1) := by decide +kernel
theorem dX7_sheet_83 : decode cX7_sheet 83 = .ok (.imul, 1) := by decide +kernel
theorem dX7_sheet_84 : decode cX7_sheet 84 = .ok (.iload 4, 2) := by decide +kernel
theorem dX7_sheet_86 : decode cX7_sheet 86 = .ok (.iadd, 1) := by decide +kernel
theorem dX7_sheet_87 : decode cX7_sheet 87 = .ok (.iconst 0, 1) := by decide +kernel
theorem dX7_sheet_88 : decode cX7_sheet 88 = .ok (.iastore, 1) := by decide +kernel
theorem dX7_sheet_89 : decode cX7_sheet 89 = .ok (.iinc 4 1, 3) := by decide +kernel
theorem dX7_sheet_92 : decode cX7_sheet 92 = .ok (.goto (-23), 3) := by decide +kernel
theorem dX7_sheet_95 : decode cX7_sheet 95 = .ok (.iconst 1, 1) := by decide +kernel
theorem dX7_sheet_96 : decode cX7_sheet 96 = .ok (.ireturn, 1) := by decide +kernel
def p_X7_sheet_L69 (x1 : Int32) (K : Int32 → tF → tA → Prop) : Nat → tF → tA → Int32 → Prop
  | 0, _, _, _ => False
  | n69 + 1, F, A, x4 => (((40 : Int32) ≤ x4 → (K (1 : Int32) F A)) ∧ (¬ (40 : Int32) ≤ x4 → (vp_in (((40 : Int32) * x1) + x4) 160 ∧ (∀ f_88 : tF, f_88 = (upd (A 18) ((((40 : Int32) * x1) + x4)).toNatClampNeg (0 : Int32)) → (∀ y89 : Int32, y89 = (x4 + (1 : Int32)) → ((p_X7_sheet_L69 x1 K n69) F (va_up A 18 f_88) y89))))))
set_option maxHeartbeats 4000000 in
set_option maxRecDepth 100000 in
theorem b_X7_sheet_L69 {p : Program} {l : Launch} {e : Env} {s : State} {m : MethodId} {args : Array Value} {below : List Frame} {meth : Method} {c : Code} {Q : State → Prop} {D : va_G} {cI cZ cR : ClassId} {adK adV : Nat → Nat} {A9 : Nat → Prop} {o : Nat} {q : Nat → Nat} {K : Int32 → tF → tA → Prop}  (x1 : Int32) (X : CX p s m args c yX7_sheet.cls cX7_sheet 5 D cI cZ cR adK adV A9) (ret : RTi p l e (rmN 2 45) s m args below meth c Q cX7_sheet D A9 (fun (r : Int32) (u : (tF × tA)) => K r u.1 u.2) (fun (u : (tF × tA)) => (wX7 cI cZ o q u.1 u.2 : va_W)))   : ∀ (n : Nat) (F : tF) (A : tA) (x4 : Int32) (H : Heap) (locs : List Loc) (ls : Array Slot), p_X7_sheet_L69 x1 K n F A x4 → va_P D vwCl (wX7 cI cZ o q F A : va_W) H → va_D A9 (wX7 cI cZ o q F A : va_W) → va_S A9 s.heap H locs → lv_has ls 5 [(0, .ref o), (1, .int x1), (4, .int x4)] → W p l e (rmN 2 45) s m args below meth c H locs 0 0 Q (F0 m 69 ls []) := by
  obtain ⟨hx, hb, hml, ht, hown, hK, hA, hE⟩ := id X
  intro n
  induction n with
  | zero => intro F A x4 H locs ls h; exact False.elim h
  | succ n69 ih =>
    intro F A x4 H locs ls h hP hD hS hl
    rw [p_X7_sheet_L69] at h
    refine lv_iload hx hb dX7_sheet_69 (lv_at hl 2 rfl) ?_
    refine lv_bipush (v := 40) hx hb dX7_sheet_71 (by decide) ?_
    refine lv_icmp_ge (tgt := 95) hx hb dX7_sheet_73 (by decide) (fun c73 => ?_) (fun c73 => ?_)
    · replace h := h.1 c73
      refine lv_iconst (v := 1) hx hb dX7_sheet_95 (by decide) ?_
      exact ret _ (F, A) _ _ _ _ dX7_sheet_96 h hP hD hS
    · replace h := h.2 c73
      refine lv_aload_n hx hb dX7_sheet_76 rfl (lv_at hl 0 rfl) ?_
      refine va_get (C := RX7) (T := TX7) (N := 28) (own := RX7) (v := .ref (q 18)) hx hb ht inlX7 hown hK hP 0 rfl rfl 18 (Nat.le_of_ble_eq_true rfl) (ht _ mw_5_17) (fun _ h9 => h9) rfl dX7_sheet_77 ?_
      refine lv_bipush (v := 40) hx hb dX7_sheet_80 (by decide) ?_
      refine lv_iload_n hx hb dX7_sheet_82 rfl (lv_at hl 1 rfl) ?_
      refine lv_imul hx hb dX7_sheet_83 ?_
      refine lv_iload hx hb dX7_sheet_84 (lv_at hl 2 rfl) ?_
      refine lv_iadd hx hb dX7_sheet_86 ?_
      refine lv_iconst (v := 0) hx hb dX7_sheet_87 (by decide) ?_
      obtain ⟨hi88, h⟩ := h
      obtain ⟨f_88, ef_88⟩ : ∃ z : tF, z = (upd (A 18) ((((40 : Int32) * x1) + x4)).toNatClampNeg (0 : Int32)) := ⟨_, rfl⟩
      replace h := h f_88 ef_88
      refine g_iast (f := (A 18)) (k := ((((40 : Int32) * x1) + x4)).toNatClampNeg) hx hb hK hP hD hS 11 0 rfl rfl hi88 rfl ef_88 dX7_sheet_88 (fun H locs hP hD hS => ?_)
      have hP : va_P D vwCl (wX7 cI cZ o q F (va_up A 18 f_88) : va_W) H := hP
      have hD : va_D A9 (wX7 cI cZ o q F (va_up A 18 f_88) : va_W) := hD
      obtain ⟨y89, ey89⟩ : ∃ y : Int32, y = (x4 + (1 : Int32)) := ⟨_, rfl⟩
      replace h := h y89 ey89
      refine lv_iinc (v := y89) (lv' := [(4, .int y89), (0, .ref o), (1, .int x1)]) hx hb dX7_sheet_89 hl (k := 2) rfl (by rw [ey89]; rfl) (by decide) rfl (fun ls hl => ?_)
      refine lv_goto (tgt := 69) hx hb dX7_sheet_92 (by decide) ?_
      exact ih F (va_up A 18 f_88) y89 _ _ _ h hP hD hS (lv_sub hl [1, 2, 0] rfl)
def p_X7_sheet_J65 (F : tF) (A : tA) (K : Int32 → tF → tA → Prop) (x1 : Int32) (s0 : Int32) (s1 : Int32) : Prop := (vp_in s1 4 ∧ (∀ f_65 : tF, f_65 = (upd (A 17) (s1).toNatClampNeg s0) → (∃ n69, p_X7_sheet_L69 x1 K n69 F (va_up A 17 f_65) (0 : Int32))))
set_option maxHeartbeats 4000000 in
set_option maxRecDepth 100000 in
theorem b_X7_sheet_J65 {p : Program} {l : Launch} {e : Env} {s : State} {m : MethodId} {args : Array Value} {below : List Frame} {meth : Method} {c : Code} {Q : State → Prop} {D : va_G} {cI cZ cR : ClassId} {adK adV : Nat → Nat} {A9 : Nat → Prop} {o : Nat} {q : Nat → Nat} {K : Int32 → tF → tA → Prop}  (F : tF) (A : tA) (x1 : Int32) (s0 : Int32) (s1 : Int32) (X : CX p s m args c yX7_sheet.cls cX7_sheet 5 D cI cZ cR adK adV A9) (ret : RTi p l e (rmN 2 45) s m args below meth c Q cX7_sheet D A9 (fun (r : Int32) (u : (tF × tA)) => K r u.1 u.2) (fun (u : (tF × tA)) => (wX7 cI cZ o q u.1 u.2 : va_W)))  (H : Heap) (locs : List Loc) (ls : Array Slot) (h : p_X7_sheet_J65 F A K x1 s0 s1) (hP : va_P D vwCl (wX7 cI cZ o q F A : va_W) H) (hD : va_D A9 (wX7 cI cZ o q F A : va_W)) (hS : va_S A9 s.heap H locs) (hl : lv_has ls 5 [(0, .ref o), (1, .int x1)]) : W p l e (rmN 2 45) s m args below meth c H locs 0 0 Q (F0 m 65 ls [.int s0, .int s1, .ref (q 17)]) := by
  obtain ⟨hx, hb, hml, ht, hown, hK, hA, hE⟩ := id X
  unfold p_X7_sheet_J65 at h
  obtain ⟨hi65, h⟩ := h
  obtain ⟨f_65, ef_65⟩ : ∃ z : tF, z = (upd (A 17) (s1).toNatClampNeg s0) := ⟨_, rfl⟩
  replace h := h f_65 ef_65
  refine g_iast (f := (A 17)) (k := (s1).toNatClampNeg) hx hb hK hP hD hS 10 0 rfl rfl hi65 rfl ef_65 dX7_sheet_65 (fun H locs hP hD hS => ?_)
  have hP : va_P D vwCl (wX7 cI cZ o q F (va_up A 17 f_65) : va_W) H := hP
  have hD : va_D A9 (wX7 cI cZ o q F (va_up A 17 f_65) : va_W) := hD
  refine lv_iconst (v := 0) hx hb dX7_sheet_66 (by decide) ?_
  refine lv_istore (lv' := [(4, .int (0 : Int32)), (0, .ref o), (1, .int x1)]) hx hb dX7_sheet_67 hl (by decide) rfl (fun ls hl => ?_)
  obtain ⟨n69, h⟩ := h
  exact b_X7_sheet_L69 x1 X ret  n69 F (va_up A 17 f_65) (0 : Int32) _ _ _ h hP hD hS (lv_sub hl [1, 2, 0] rfl)
def p_X7_sheet_J44 (F : tF) (A : tA) (K : Int32 → tF → tA → Prop) (x1 : Int32) (x2 : Int32) (x3 : Int32) : Prop := (vp_in x1 4 ∧ (∀ f_50 : tF, f_50 = (upd (A 16) (x1).toNatClampNeg x2) → ((0 ≤ x2 → (p_X7_sheet_J65 F (va_up A 16 f_50) K x1 x3 x1)) ∧ (¬ 0 ≤ x2 → (p_X7_sheet_J65 F (va_up A 16 f_50) K x1 (0 : Int32) x1)))))
set_option maxHeartbeats 4000000 in
set_option maxRecDepth 100000 in
theorem b_X7_sheet_J44 {p : Program} {l : Launch} {e : Env} {s : State} {m : MethodId} {args : Array Value} {below : List Frame} {meth : Method} {c : Code} {Q : State → Prop} {D : va_G} {cI cZ cR : ClassId} {adK adV : Nat → Nat} {A9 : Nat → Prop} {o : Nat} {q : Nat → Nat} {K : Int32 → tF → tA → Prop}  (F : tF) (A : tA) (x1 : Int32) (x2 : Int32) (x3 : Int32) (X : CX p s m args c yX7_sheet.cls cX7_sheet 5 D cI cZ cR adK adV A9) (ret : RTi p l e (rmN 2 45) s m args below meth c Q cX7_sheet D A9 (fun (r : Int32) (u : (tF × tA)) => K r u.1 u.2) (fun (u : (tF × tA)) => (wX7 cI cZ o q u.1 u.2 : va_W)))  (H : Heap) (locs : List Loc) (ls : Array Slot) (h : p_X7_sheet_J44 F A K x1 x2 x3) (hP : va_P D vwCl (wX7 cI cZ o q F A : va_W) H) (hD : va_D A9 (wX7 cI cZ o q F A : va_W)) (hS : va_S A9 s.heap H locs) (hl : lv_has ls 5 [(0, .ref o), (1, .int x1), (2, .int x2), (3, .int x3)]) : W p l e (rmN 2 45) s m args below meth c H locs 0 0 Q (F0 m 44 ls []) := by
  obtain ⟨hx, hb, hml, ht, hown, hK, hA, hE⟩ := id X
  unfold p_X7_sheet_J44 at h
  refine lv_aload_n hx hb dX7_sheet_44 rfl (lv_at hl 0 rfl) ?_
  refine va_get (C := RX7) (T := TX7) (N := 28) (own := RX7) (v := .ref (q 16)) hx hb ht inlX7 hown hK hP 0 rfl rfl 16 (Nat.le_of_ble_eq_true rfl) (ht _ mw_5_15) (fun _ h9 => h9) rfl dX7_sheet_45 ?_
  refine lv_iload_n hx hb dX7_sheet_48 rfl (lv_at hl 1 rfl) ?_
  refine lv_iload_n hx hb dX7_sheet_49 rfl (lv_at hl 2 rfl) ?_
  obtain ⟨hi50, h⟩ := h
  obtain ⟨f_50, ef_50⟩ : ∃ z : tF, z = (upd (A 16) (x1).toNatClampNeg x2) := ⟨_, rfl⟩
  replace h := h f_50 ef_50
  refine g_iast (f := (A 16)) (k := (x1).toNatClampNeg) hx hb hK hP hD hS 9 0 rfl rfl hi50 rfl ef_50 dX7_sheet_50 (fun H locs hP hD hS => ?_)
  have hP : va_P D vwCl (wX7 cI cZ o q F (va_up A 16 f_50) : va_W) H := hP
  have hD : va_D A9 (wX7 cI cZ o q F (va_up A 16 f_50) : va_W) := hD
  refine lv_aload_n hx hb dX7_sheet_51 rfl (lv_at hl 0 rfl) ?_
  refine va_get (C := RX7) (T := TX7) (N := 28) (own := RX7) (v := .ref (q 17)) hx hb ht inlX7 hown hK hP 0 rfl rfl 17 (Nat.le_of_ble_eq_true rfl) (ht _ mw_5_16) (fun _ h9 => h9) rfl dX7_sheet_52 ?_
  refine lv_iload_n hx hb dX7_sheet_55 rfl (lv_at hl 1 rfl) ?_
  refine lv_iload_n hx hb dX7_sheet_56 rfl (lv_at hl 2 rfl) ?_
  refine lv_if_ge (tgt := 64) hx hb dX7_sheet_57 (by decide) (fun c57 => ?_) (fun c57 => ?_)
  · replace h := h.1 c57
    refine lv_iload_n hx hb dX7_sheet_64 rfl (lv_at hl 3 rfl) ?_
    exact b_X7_sheet_J65 F (va_up A 16 f_50) x1 x3 x1 X ret  _ _ _ h hP hD hS (lv_sub hl [0, 1] rfl)
  · replace h := h.2 c57
    refine lv_iconst (v := 0) hx hb dX7_sheet_60 (by decide) ?_
    refine lv_goto (tgt := 65) hx hb dX7_sheet_61 (by decide) ?_
    exact b_X7_sheet_J65 F (va_up A 16 f_50) x1 (0 : Int32) x1 X ret  _ _ _ h hP hD hS (lv_sub hl [0, 1] rfl)
def p_X7_sheet_J33 (F : tF) (A : tA) (K : Int32 → tF → tA → Prop) (x1 : Int32) (x2 : Int32) (x3 : Int32) : Prop := ((x2 < 0 → (p_X7_sheet_J44 F A K x1 x2 x3)) ∧ (¬ x2 < 0 → ((0 ≤ x3 → (p_X7_sheet_J44 F A K x1 x2 x3)) ∧ (¬ 0 ≤ x3 → (K (-14 : Int32) F A)))))
set_option maxHeartbeats 4000000 in
set_option maxRecDepth 100000 in
theorem b_X7_sheet_J33 {p : Program} {l : Launch} {e : Env} {s : State} {m : MethodId} {args : Array Value} {below : List Frame} {meth : Method} {c : Code} {Q : State → Prop} {D : va_G} {cI cZ cR : ClassId} {adK adV : Nat → Nat} {A9 : Nat → Prop} {o : Nat} {q : Nat → Nat} {K : Int32 → tF → tA → Prop}  (F : tF) (A : tA) (x1 : Int32) (x2 : Int32) (x3 : Int32) (X : CX p s m args c yX7_sheet.cls cX7_sheet 5 D cI cZ cR adK adV A9) (ret : RTi p l e (rmN 2 45) s m args below meth c Q cX7_sheet D A9 (fun (r : Int32) (u : (tF × tA)) => K r u.1 u.2) (fun (u : (tF × tA)) => (wX7 cI cZ o q u.1 u.2 : va_W)))  (H : Heap) (locs : List Loc) (ls : Array Slot) (h : p_X7_sheet_J33 F A K x1 x2 x3) (hP : va_P D vwCl (wX7 cI cZ o q F A : va_W) H) (hD : va_D A9 (wX7 cI cZ o q F A : va_W)) (hS : va_S A9 s.heap H locs) (hl : lv_has ls 5 [(0, .ref o), (1, .int x1), (2, .int x2), (3, .int x3)]) : W p l e (rmN 2 45) s m args below meth c H locs 0 0 Q (F0 m 33 ls []) := by
  obtain ⟨hx, hb, hml, ht, hown, hK, hA, hE⟩ := id X
  unfold p_X7_sheet_J33 at h
  refine lv_iload_n hx hb dX7_sheet_33 rfl (lv_at hl 2 rfl) ?_
  refine lv_if_lt (tgt := 44) hx hb dX7_sheet_34 (by decide) (fun c34 => ?_) (fun c34 => ?_)
  · replace h := h.1 c34
    exact b_X7_sheet_J44 F A x1 x2 x3 X ret  _ _ _ h hP hD hS (lv_sub hl [0, 1, 2, 3] rfl)
  · replace h := h.2 c34
    refine lv_iload_n hx hb dX7_sheet_37 rfl (lv_at hl 3 rfl) ?_
    refine lv_if_ge (tgt := 44) hx hb dX7_sheet_38 (by decide) (fun c38 => ?_) (fun c38 => ?_)
    · replace h := h.1 c38
      exact b_X7_sheet_J44 F A x1 x2 x3 X ret  _ _ _ h hP hD hS (lv_sub hl [0, 1, 2, 3] rfl)
    · replace h := h.2 c38
      refine lv_bipush (v := -14) hx hb dX7_sheet_41 (by decide) ?_
      exact ret _ (F, A) _ _ _ _ dX7_sheet_43 h hP hD hS
def p_X7_sheet (F : tF) (A : tA) (x1 : Int32) (x2 : Int32) (x3 : Int32) (K : Int32 → tF → tA → Prop) : Prop := (p_X7_isSheet x1 (fun r1 => ((r1 = 0 → (K (-1 : Int32) F A)) ∧ (¬ r1 = 0 → (p_X7_isIn ((x2).toInt64) (-1 : Int64) (3 : Int64) (fun r15 => ((r15 = 0 → (K (-1 : Int32) F A)) ∧ (¬ r15 = 0 → ((x2 < 0 → (p_X7_sheet_J33 F A K x1 x2 x3)) ∧ (¬ x2 < 0 → ((x3 ≤ (40 : Int32) → (p_X7_sheet_J33 F A K x1 x2 x3)) ∧ (¬ x3 ≤ (40 : Int32) → (K (-1 : Int32) F A)))))))))))))
set_option maxHeartbeats 4000000 in
set_option maxRecDepth 100000 in
theorem w_X7_sheet (l : Launch) (D : va_G) (cI cZ cR : ClassId) (adK adV : Nat → Nat) (sz : Nat) (o : Nat) (q : Nat → Nat) (F : tF) (A : tA) (x1 : Int32) (x2 : Int32) (x3 : Int32) (K : Int32 → tF → tA → Prop) (h : p_X7_sheet F A x1 x2 x3 K) : MI l D cI cZ cR adK adV yX7_sheet cX7_sheet 5 (some .int) (rmN 2 45) [.ref o, .int x1, .int x2, .int x3] (wX7 cI cZ o q F A : va_W) sz (fun (r : Int32) (u : (tF × tA)) => K r u.1 u.2) (fun (u : (tF × tA)) => (wX7 cI cZ o q u.1 u.2 : va_W)) := by
  refine M_i (by decide +kernel) (Nat.le_of_ble_eq_true rfl) ?_
  intro p e s m args below meth c Q A9 ls X ret hP hD hS hl
  obtain ⟨hx, hb, hml, ht, hown, hK, hA, hE⟩ := id X
  have hl : lv_has ls 5 [(0, .ref o), (1, .int x1), (2, .int x2), (3, .int x3)] := hl
  unfold p_X7_sheet at h
  refine lv_iload_n hx hb dX7_sheet_0 rfl (lv_at hl 1 rfl) ?_
  refine C_si (wr := [0, 1, 2, 3, 4, 5, 6, 7, 8, 9, 10, 11, 12, 13, 14, 15].filterMap (fun i => (wX7 cI cZ o q F A : va_W)[i]?)) X hP hD hS [.int x1] [] (w_X7_isSheet l D cI cZ cR adK adV _ x1 _ h) cal_X7_isSheet mw_40_9 rfl [] [0, 1, 2, 3, 4, 5, 6, 7, 8, 9, 10, 11, 12, 13, 14, 15] [0, 1, 2, 3, 4, 5, 6, 7, 8, 9, 10, 11, 12, 13, 14, 15] (fun u => (wX7 cI cZ o q F A : va_W)) rfl rfl (fun _ => rfl) rfl ⟨rfl, rfl⟩ ⟨Nat.le_of_ble_eq_true rfl, Nat.le_of_ble_eq_true rfl⟩ hl.1 rfl (Nat.le_of_ble_eq_true rfl) ⟨Nat.zero_le _, Nat.zero_le _⟩ dX7_sheet_1 (fun r1 u H locs h hP hD hS => ?_)
  refine lv_if_eq (tgt := 31) hx hb dX7_sheet_4 (by decide) (fun c4 => ?_) (fun c4 => ?_)
  · replace h := h.1 c4
    refine lv_iconst (v := -1) hx hb dX7_sheet_31 (by decide) ?_
    exact ret _ (F, A) _ _ _ _ dX7_sheet_32 h hP hD hS
  · replace h := h.2 c4
    refine lv_iload_n hx hb dX7_sheet_7 rfl (lv_at hl 2 rfl) ?_
    refine lv_i2l (v := (x2).toInt64) hx hb dX7_sheet_8 rfl ?_
    refine lv_ldc2 (v := -1) hx hb hown (ht _ mw_39_13) dX7_sheet_9 ?_
    refine lv_ldc2 (v := 3) hx hb hown (ht _ mw_15_17) dX7_sheet_12 ?_
    refine C_si (wr := [0, 1, 2, 3, 4, 5, 6, 7, 8, 9, 10, 11, 12, 13, 14, 15].filterMap (fun i => (wX7 cI cZ o q F A : va_W)[i]?)) X hP hD hS [.long (x2).toInt64, .long (-1 : Int64), .long (3 : Int64)] [] (w_X7_isIn l D cI cZ cR adK adV _ ((x2).toInt64) (-1 : Int64) (3 : Int64) _ h) cal_X7_isIn mw_6_19 rfl [] [0, 1, 2, 3, 4, 5, 6, 7, 8, 9, 10, 11, 12, 13, 14, 15] [0, 1, 2, 3, 4, 5, 6, 7, 8, 9, 10, 11, 12, 13, 14, 15] (fun u => (wX7 cI cZ o q F A : va_W)) rfl rfl (fun _ => rfl) rfl ⟨rfl, rfl⟩ ⟨Nat.le_of_ble_eq_true rfl, Nat.le_of_ble_eq_true rfl⟩ hl.1 rfl (Nat.le_of_ble_eq_true rfl) ⟨Nat.zero_le _, Nat.zero_le _⟩ dX7_sheet_15 (fun r15 u H locs h hP hD hS => ?_)
    refine lv_if_eq (tgt := 31) hx hb dX7_sheet_18 (by decide) (fun c18 => ?_) (fun c18 => ?_)
    · replace h := h.1 c18
      refine lv_iconst (v := -1) hx hb dX7_sheet_31 (by decide) ?_
      exact ret _ (F, A) _ _ _ _ dX7_sheet_32 h hP hD hS
    · replace h := h.2 c18
      refine lv_iload_n hx hb dX7_sheet_21 rfl (lv_at hl 2 rfl) ?_
      refine lv_if_lt (tgt := 33) hx hb dX7_sheet_22 (by decide) (fun c22 => ?_) (fun c22 => ?_)
      · replace h := h.1 c22
        exact b_X7_sheet_J33 F A x1 x2 x3 X ret  _ _ _ h hP hD hS (lv_sub hl [0, 1, 2, 3] rfl)
      · replace h := h.2 c22
        refine lv_iload_n hx hb dX7_sheet_25 rfl (lv_at hl 3 rfl) ?_
        refine lv_bipush (v := 40) hx hb dX7_sheet_26 (by decide) ?_
        refine lv_icmp_le (tgt := 33) hx hb dX7_sheet_28 (by decide) (fun c28 => ?_) (fun c28 => ?_)
        · replace h := h.1 c28
          exact b_X7_sheet_J33 F A x1 x2 x3 X ret  _ _ _ h hP hD hS (lv_sub hl [0, 1, 2, 3] rfl)
        · replace h := h.2 c28
          refine lv_iconst (v := -1) hx hb dX7_sheet_31 (by decide) ?_
          exact ret _ (F, A) _ _ _ _ dX7_sheet_32 h hP hD hS
theorem dX7_put_0 : decode cX7_put 0 = .ok (.iload_n 1, 1) := by decide +kernel
theorem dX7_put_1 : decode cX7_put 1 = .ok (.invokestatic 278, 3) := by decide +kernel
theorem dX7_put_4 : decode cX7_put 4 = .ok (.ifCond .ne 5, 3) := by decide +kernel
theorem dX7_put_7 : decode cX7_put 7 = .ok (.iconst (-1), 1) := by decide +kernel
theorem dX7_put_8 : decode cX7_put 8 = .ok (.ireturn, 1) := by decide +kernel
theorem dX7_put_9 : decode cX7_put 9 = .ok (.aload_n 0, 1) := by decide +kernel
theorem dX7_put_10 : decode cX7_put 10 = .ok (.getfield 35, 3) := by decide +kernel
theorem dX7_put_13 : decode cX7_put 13 = .ok (.iload_n 1, 1) := by decide +kernel
theorem dX7_put_14 : decode cX7_put 14 = .ok (.iaload, 1) := by decide +kernel
theorem dX7_put_15 : decode cX7_put 15 = .ok (.ifCond .ge 6, 3) := by decide +kernel
theorem dX7_put_18 : decode cX7_put 18 = .ok (.bipush (-11), 2) := by decide +kernel
theorem dX7_put_20 : decode cX7_put 20 = .ok (.ireturn, 1) := by decide +kernel
theorem dX7_put_21 : decode cX7_put 21 = .ok (.iload_n 2, 1) := by decide +kernel
theorem dX7_put_22 : decode cX7_put 22 = .ok (.i2l, 1) := by decide +kernel
theorem dX7_put_23 : decode cX7_put 23 = .ok (.lconst 0, 1) := by decide +kernel
theorem dX7_put_24 : decode cX7_put 24 = .ok (.aload_n 0, 1) := by decide +kernel
theorem dX7_put_25 : decode cX7_put 25 = .ok (.getfield 38, 3) := by decide +kernel
theorem dX7_put_28 : decode cX7_put 28 = .ok (.iload_n 1, 1) := by decide +kernel
theorem dX7_put_29 : decode cX7_put 29 = .ok (.iaload, 1) := by decide +kernel
theorem dX7_put_30 : decode cX7_put 30 = .ok (.iconst 1, 1) := by decide +kernel
theorem dX7_put_31 : decode cX7_put 31 = .ok (.isub, 1) := by decide +kernel
theorem dX7_put_32 : decode cX7_put 32 = .ok (.i2l, 1) := by decide +kernel
theorem dX7_put_33 : decode cX7_put 33 = .ok (.invokestatic 61, 3) := by decide +kernel
theorem dX7_put_36 : decode cX7_put 36 = .ok (.ifCond .ne 6, 3) := by decide +kernel
theorem dX7_put_39 : decode cX7_put 39 = .ok (.bipush (-12), 2) := by decide +kernel
theorem dX7_put_41 : decode cX7_put 41 = .ok (.ireturn, 1) := by decide +kernel
theorem dX7_put_42 : decode cX7_put 42 = .ok (.aload_n 0, 1) := by decide +kernel
theorem dX7_put_43 : decode cX7_put 43 = .ok (.getfield 41, 3) := by decide +kernel
theorem dX7_put_46 : decode cX7_put 46 = .ok (.bipush 40, 2) := by decide +kernel
theorem dX7_put_48 : decode cX7_put 48 = .ok (.iload_n 1, 1) := by decide +kernel
theorem dX7_put_49 : decode cX7_put 49 = .ok (.imul, 1) := by decide +kernel
theorem dX7_put_50 : decode cX7_put 50 = .ok (.iload_n 2, 1) := by decide +kernel
theorem dX7_put_51 : decode cX7_put 51 = .ok (.iadd, 1) := by decide +kernel
theorem dX7_put_52 : decode cX7_put 52 = .ok (.aload_n 0, 1) := by decide +kernel
theorem dX7_put_53 : decode cX7_put 53 = .ok (.getfield 35, 3) := by decide +kernel
theorem dX7_put_56 : decode cX7_put 56 = .ok (.iload_n 1, 1) := by decide +kernel
theorem dX7_put_57 : decode cX7_put 57 = .ok (.iaload, 1) := by decide +kernel
theorem dX7_put_58 : decode cX7_put 58 = .ok (.ifCond .ne 8, 3) := by decide +kernel
theorem dX7_put_61 : decode cX7_put 61 = .ok (.iload_n 3, 1) := by decide +kernel
theorem dX7_put_62 : decode cX7_put 62 = .ok (.i2b, 1) := by decide +kernel
theorem dX7_put_63 : decode cX7_put 63 = .ok (.goto 19, 3) := by decide +kernel
theorem dX7_put_66 : decode cX7_put 66 = .ok (.aload_n 0, 1) := by decide +kernel
theorem dX7_put_67 : decode cX7_put 67 = .ok (.getfield 35, 3) := by decide +kernel
theorem dX7_put_70 : decode cX7_put 70 = .ok (.iload_n 1, 1) := by decide +kernel
theorem dX7_put_71 : decode cX7_put 71 = .ok (.iaload, 1) := by decide +kernel
theorem dX7_put_72 : decode cX7_put 72 = .ok (.iconst 1, 1) := by decide +kernel
theorem dX7_put_73 : decode cX7_put 73 = .ok (.if_icmp .ne 8, 3) := by decide +kernel
theorem dX7_put_76 : decode cX7_put 76 = .ok (.iload_n 3, 1) := by decide +kernel
theorem dX7_put_77 : decode cX7_put 77 = .ok (.i2s, 1) := by decide +kernel
theorem dX7_put_78 : decode cX7_put 78 = .ok (.goto 4, 3) := by decide +kernel
theorem dX7_put_81 : decode cX7_put 81 = .ok (.iload_n 3, 1) := by decide +kernel
theorem dX7_put_82 : decode cX7_put 82 = .ok (.iastore, 1) := by decide +kernel
theorem dX7_put_83 : decode cX7_put 83 = .ok (.iconst 1, 1) := by decide +kernel
theorem dX7_put_84 : decode cX7_put 84 = .ok (.ireturn, 1) := by decide +kernel
def p_X7_put (F : tF) (A : tA) (x1 : Int32) (x2 : Int32) (x3 : Int32) (K : Int32 → tF → tA → Prop) : Prop := (p_X7_isSheet x1 (fun r1 => ((¬ r1 = 0 → (vp_in x1 4 ∧ ((0 ≤ ((A 16) (x1).toNatClampNeg) → (vp_in x1 4 ∧ (p_X7_isIn ((x2).toInt64) (0 : Int64) (((((A 17) (x1).toNatClampNeg) - (1 : Int32))).toInt64) (fun r33 => ((¬ r33 = 0 → (vp_in x1 4 ∧ ((¬ ((A 16) (x1).toNatClampNeg) = 0 → (vp_in x1 4 ∧ ((¬ ((A 16) (x1).toNatClampNeg) = (1 : Int32) → (vp_in (((40 : Int32) * x1) + x2) 160 ∧ (∀ f_82 : tF, f_82 = (upd (A 18) ((((40 : Int32) * x1) + x2)).toNatClampNeg x3) → (K (1 : Int32) F (va_up A 18 f_82))))) ∧ (((A 16) (x1).toNatClampNeg) = (1 : Int32) → (vp_in (((40 : Int32) * x1) + x2) 160 ∧ (∀ f_82 : tF, f_82 = (upd (A 18) ((((40 : Int32) * x1) + x2)).toNatClampNeg (x3).toInt16.toInt32) → (K (1 : Int32) F (va_up A 18 f_82)))))))) ∧ (((A 16) (x1).toNatClampNeg) = 0 → (vp_in (((40 : Int32) * x1) + x2) 160 ∧ (∀ f_82 : tF, f_82 = (upd (A 18) ((((40 : Int32) * x1) + x2)).toNatClampNeg (x3).toInt8.toInt32) → (K (1 : Int32) F (va_up A 18 f_82)))))))) ∧ (r33 = 0 → (K (-12 : Int32) F A))))))) ∧ (¬ 0 ≤ ((A 16) (x1).toNatClampNeg) → (K (-11 : Int32) F A))))) ∧ (r1 = 0 → (K (-1 : Int32) F A)))))
set_option maxHeartbeats 4000000 in
set_option maxRecDepth 100000 in
theorem w_X7_put (l : Launch) (D : va_G) (cI cZ cR : ClassId) (adK adV : Nat → Nat) (sz : Nat) (o : Nat) (q : Nat → Nat) (F : tF) (A : tA) (x1 : Int32) (x2 : Int32) (x3 : Int32) (K : Int32 → tF → tA → Prop) (h : p_X7_put F A x1 x2 x3 K) : MI l D cI cZ cR adK adV yX7_put cX7_put 4 (some .int) (rmN 2 45) [.ref o, .int x1, .int x2, .int x3] (wX7 cI cZ o q F A : va_W) sz (fun (r : Int32) (u : (tF × tA)) => K r u.1 u.2) (fun (u : (tF × tA)) => (wX7 cI cZ o q u.1 u.2 : va_W)) := by
  refine M_i (by decide +kernel) (Nat.le_of_ble_eq_true rfl) ?_
  intro p e s m args below meth c Q A9 ls X ret hP hD hS hl
  obtain ⟨hx, hb, hml, ht, hown, hK, hA, hE⟩ := id X
  have hl : lv_has ls 4 [(0, .ref o), (1, .int x1), (2, .int x2), (3, .int x3)] := hl
  unfold p_X7_put at h
  refine lv_iload_n hx hb dX7_put_0 rfl (lv_at hl 1 rfl) ?_
  refine C_si (wr := [0, 1, 2, 3, 4, 5, 6, 7, 8, 9, 10, 11, 12, 13, 14, 15].filterMap (fun i => (wX7 cI cZ o q F A : va_W)[i]?)) X hP hD hS [.int x1] [] (w_X7_isSheet l D cI cZ cR adK adV _ x1 _ h) cal_X7_isSheet mw_40_9 rfl [] [0, 1, 2, 3, 4, 5, 6, 7, 8, 9, 10, 11, 12, 13, 14, 15] [0, 1, 2, 3, 4, 5, 6, 7, 8, 9, 10, 11, 12, 13, 14, 15] (fun u => (wX7 cI cZ o q F A : va_W)) rfl rfl (fun _ => rfl) rfl ⟨rfl, rfl⟩ ⟨Nat.le_of_ble_eq_true rfl, Nat.le_of_ble_eq_true rfl⟩ hl.1 rfl (Nat.le_of_ble_eq_true rfl) ⟨Nat.zero_le _, Nat.zero_le _⟩ dX7_put_1 (fun r1 u H locs h hP hD hS => ?_)
  refine lv_if_ne (tgt := 9) hx hb dX7_put_4 (by decide) (fun c4 => ?_) (fun c4 => ?_)
  · replace h := h.1 c4
    refine lv_aload_n hx hb dX7_put_9 rfl (lv_at hl 0 rfl) ?_
    refine va_get (C := RX7) (T := TX7) (N := 28) (own := RX7) (v := .ref (q 16)) hx hb ht inlX7 hown hK hP 0 rfl rfl 16 (Nat.le_of_ble_eq_true rfl) (ht _ mw_5_15) (fun _ h9 => h9) rfl dX7_put_10 ?_
    refine lv_iload_n hx hb dX7_put_13 rfl (lv_at hl 1 rfl) ?_
    obtain ⟨hi14, h⟩ := h
    refine g_iald (f := (A 16)) (k := (x1).toNatClampNeg) hx hb hK hP 9 0 rfl rfl hi14 rfl dX7_put_14 ?_
    refine lv_if_ge (tgt := 21) hx hb dX7_put_15 (by decide) (fun c15 => ?_) (fun c15 => ?_)
    · replace h := h.1 c15
      refine lv_iload_n hx hb dX7_put_21 rfl (lv_at hl 2 rfl) ?_
      refine lv_i2l (v := (x2).toInt64) hx hb dX7_put_22 rfl ?_
      refine lv_lconst (v := 0) hx hb dX7_put_23 (by decide) ?_
      refine lv_aload_n hx hb dX7_put_24 rfl (lv_at hl 0 rfl) ?_
      refine va_get (C := RX7) (T := TX7) (N := 28) (own := RX7) (v := .ref (q 17)) hx hb ht inlX7 hown hK hP 0 rfl rfl 17 (Nat.le_of_ble_eq_true rfl) (ht _ mw_5_16) (fun _ h9 => h9) rfl dX7_put_25 ?_
      refine lv_iload_n hx hb dX7_put_28 rfl (lv_at hl 1 rfl) ?_
      obtain ⟨hi29, h⟩ := h
      refine g_iald (f := (A 17)) (k := (x1).toNatClampNeg) hx hb hK hP 10 0 rfl rfl hi29 rfl dX7_put_29 ?_
      refine lv_iconst (v := 1) hx hb dX7_put_30 (by decide) ?_
      refine lv_isub hx hb dX7_put_31 ?_
      refine lv_i2l (v := ((((A 17) (x1).toNatClampNeg) - (1 : Int32))).toInt64) hx hb dX7_put_32 rfl ?_
      refine C_si (wr := [0, 1, 2, 3, 4, 5, 6, 7, 8, 9, 10, 11, 12, 13, 14, 15].filterMap (fun i => (wX7 cI cZ o q F A : va_W)[i]?)) X hP hD hS [.long (x2).toInt64, .long (0 : Int64), .long ((((A 17) (x1).toNatClampNeg) - (1 : Int32))).toInt64] [] (w_X7_isIn l D cI cZ cR adK adV _ ((x2).toInt64) (0 : Int64) (((((A 17) (x1).toNatClampNeg) - (1 : Int32))).toInt64) _ h) cal_X7_isIn mw_6_19 rfl [] [0, 1, 2, 3, 4, 5, 6, 7, 8, 9, 10, 11, 12, 13, 14, 15] [0, 1, 2, 3, 4, 5, 6, 7, 8, 9, 10, 11, 12, 13, 14, 15] (fun u => (wX7 cI cZ o q F A : va_W)) rfl rfl (fun _ => rfl) rfl ⟨rfl, rfl⟩ ⟨Nat.le_of_ble_eq_true rfl, Nat.le_of_ble_eq_true rfl⟩ hl.1 rfl (Nat.le_of_ble_eq_true rfl) ⟨Nat.zero_le _, Nat.zero_le _⟩ dX7_put_33 (fun r33 u H locs h hP hD hS => ?_)
      refine lv_if_ne (tgt := 42) hx hb dX7_put_36 (by decide) (fun c36 => ?_) (fun c36 => ?_)
      · replace h := h.1 c36
        refine lv_aload_n hx hb dX7_put_42 rfl (lv_at hl 0 rfl) ?_
        refine va_get (C := RX7) (T := TX7) (N := 28) (own := RX7) (v := .ref (q 18)) hx hb ht inlX7 hown hK hP 0 rfl rfl 18 (Nat.le_of_ble_eq_true rfl) (ht _ mw_5_17) (fun _ h9 => h9) rfl dX7_put_43 ?_
        refine lv_bipush (v := 40) hx hb dX7_put_46 (by decide) ?_
        refine lv_iload_n hx hb dX7_put_48 rfl (lv_at hl 1 rfl) ?_
        refine lv_imul hx hb dX7_put_49 ?_
        refine lv_iload_n hx hb dX7_put_50 rfl (lv_at hl 2 rfl) ?_
        refine lv_iadd hx hb dX7_put_51 ?_
        refine lv_aload_n hx hb dX7_put_52 rfl (lv_at hl 0 rfl) ?_
        refine va_get (C := RX7) (T := TX7) (N := 28) (own := RX7) (v := .ref (q 16)) hx hb ht inlX7 hown hK hP 0 rfl rfl 16 (Nat.le_of_ble_eq_true rfl) (ht _ mw_5_15) (fun _ h9 => h9) rfl dX7_put_53 ?_
        refine lv_iload_n hx hb dX7_put_56 rfl (lv_at hl 1 rfl) ?_
        obtain ⟨hi57, h⟩ := h
        refine g_iald (f := (A 16)) (k := (x1).toNatClampNeg) hx hb hK hP 9 0 rfl rfl hi57 rfl dX7_put_57 ?_
        refine lv_if_ne (tgt := 66) hx hb dX7_put_58 (by decide) (fun c58 => ?_) (fun c58 => ?_)
        · replace h := h.1 c58
          refine lv_aload_n hx hb dX7_put_66 rfl (lv_at hl 0 rfl) ?_
          refine va_get (C := RX7) (T := TX7) (N := 28) (own := RX7) (v := .ref (q 16)) hx hb ht inlX7 hown hK hP 0 rfl rfl 16 (Nat.le_of_ble_eq_true rfl) (ht _ mw_5_15) (fun _ h9 => h9) rfl dX7_put_67 ?_
          refine lv_iload_n hx hb dX7_put_70 rfl (lv_at hl 1 rfl) ?_
          obtain ⟨hi71, h⟩ := h
          refine g_iald (f := (A 16)) (k := (x1).toNatClampNeg) hx hb hK hP 9 0 rfl rfl hi71 rfl dX7_put_71 ?_
          refine lv_iconst (v := 1) hx hb dX7_put_72 (by decide) ?_
          refine lv_icmp_ne (tgt := 81) hx hb dX7_put_73 (by decide) (fun c73 => ?_) (fun c73 => ?_)
          · replace h := h.1 c73
            refine lv_iload_n hx hb dX7_put_81 rfl (lv_at hl 3 rfl) ?_
            obtain ⟨hi82, h⟩ := h
            obtain ⟨f_82, ef_82⟩ : ∃ z : tF, z = (upd (A 18) ((((40 : Int32) * x1) + x2)).toNatClampNeg x3) := ⟨_, rfl⟩
            replace h := h f_82 ef_82
            refine g_iast (f := (A 18)) (k := ((((40 : Int32) * x1) + x2)).toNatClampNeg) hx hb hK hP hD hS 11 0 rfl rfl hi82 rfl ef_82 dX7_put_82 (fun H locs hP hD hS => ?_)
            have hP : va_P D vwCl (wX7 cI cZ o q F (va_up A 18 f_82) : va_W) H := hP
            have hD : va_D A9 (wX7 cI cZ o q F (va_up A 18 f_82) : va_W) := hD
            refine lv_iconst (v := 1) hx hb dX7_put_83 (by decide) ?_
            exact ret _ (F, (va_up A 18 f_82)) _ _ _ _ dX7_put_84 h hP hD hS
          · replace h := h.2 c73
            refine lv_iload_n hx hb dX7_put_76 rfl (lv_at hl 3 rfl) ?_
            refine lv_i2s (v := (x3).toInt16.toInt32) hx hb dX7_put_77 rfl ?_
            refine lv_goto (tgt := 82) hx hb dX7_put_78 (by decide) ?_
            obtain ⟨hi82, h⟩ := h
            obtain ⟨f_82, ef_82⟩ : ∃ z : tF, z = (upd (A 18) ((((40 : Int32) * x1) + x2)).toNatClampNeg (x3).toInt16.toInt32) := ⟨_, rfl⟩
            replace h := h f_82 ef_82
            refine g_iast (f := (A 18)) (k := ((((40 : Int32) * x1) + x2)).toNatClampNeg) hx hb hK hP hD hS 11 0 rfl rfl hi82 rfl ef_82 dX7_put_82 (fun H locs hP hD hS => ?_)
            have hP : va_P D vwCl (wX7 cI cZ o q F (va_up A 18 f_82) : va_W) H := hP
            have hD : va_D A9 (wX7 cI cZ o q F (va_up A 18 f_82) : va_W) := hD
            refine lv_iconst (v := 1) hx hb dX7_put_83 (by decide) ?_
            exact ret _ (F, (va_up A 18 f_82)) _ _ _ _ dX7_put_84 h hP hD hS
        · replace h := h.2 c58
          refine lv_iload_n hx hb dX7_put_61 rfl (lv_at hl 3 rfl) ?_
          refine lv_i2b (v := (x3).toInt8.toInt32) hx hb dX7_put_62 rfl ?_
          refine lv_goto (tgt := 82) hx hb dX7_put_63 (by decide) ?_
          obtain ⟨hi82, h⟩ := h
          obtain ⟨f_82, ef_82⟩ : ∃ z : tF, z = (upd (A 18) ((((40 : Int32) * x1) + x2)).toNatClampNeg (x3).toInt8.toInt32) := ⟨_, rfl⟩
          replace h := h f_82 ef_82
          refine g_iast (f := (A 18)) (k := ((((40 : Int32) * x1) + x2)).toNatClampNeg) hx hb hK hP hD hS 11 0 rfl rfl hi82 rfl ef_82 dX7_put_82 (fun H locs hP hD hS => ?_)
          have hP : va_P D vwCl (wX7 cI cZ o q F (va_up A 18 f_82) : va_W) H := hP
          have hD : va_D A9 (wX7 cI cZ o q F (va_up A 18 f_82) : va_W) := hD
          refine lv_iconst (v := 1) hx hb dX7_put_83 (by decide) ?_
          exact ret _ (F, (va_up A 18 f_82)) _ _ _ _ dX7_put_84 h hP hD hS
      · replace h := h.2 c36
        refine lv_bipush (v := -12) hx hb dX7_put_39 (by decide) ?_
        exact ret _ (F, A) _ _ _ _ dX7_put_41 h hP hD hS
    · replace h := h.2 c15
      refine lv_bipush (v := -11) hx hb dX7_put_18 (by decide) ?_
      exact ret _ (F, A) _ _ _ _ dX7_put_20 h hP hD hS
  · replace h := h.2 c4
    refine lv_iconst (v := -1) hx hb dX7_put_7 (by decide) ?_
    exact ret _ (F, A) _ _ _ _ dX7_put_8 h hP hD hS
theorem dX7_lacks_0 : decode cX7_lacks 0 = .ok (.aload_n 0, 1) := by decide +kernel
theorem dX7_lacks_1 : decode cX7_lacks 1 = .ok (.getfield 35, 3) := by decide +kernel
theorem dX7_lacks_4 : decode cX7_lacks 4 = .ok (.iload_n 1, 1) := by decide +kernel
theorem dX7_lacks_5 : decode cX7_lacks 5 = .ok (.iaload, 1) := by decide +kernel
theorem dX7_lacks_6 : decode cX7_lacks 6 = .ok (.ifCond .ge 8, 3) := by decide +kernel
theorem dX7_lacks_9 : decode cX7_lacks 9 = .ok (.bipush (-11), 2) := by decide +kernel
theorem dX7_lacks_11 : decode cX7_lacks 11 = .ok (.goto 19, 3) := by decide +kernel
theorem dX7_lacks_14 : decode cX7_lacks 14 = .ok (.aload_n 0, 1) := by decide +kernel
theorem dX7_lacks_15 : decode cX7_lacks 15 = .ok (.getfield 35, 3) := by decide +kernel
theorem dX7_lacks_18 : decode cX7_lacks 18 = .ok (.iload_n 1, 1) := by decide +kernel
theorem dX7_lacks_19 : decode cX7_lacks 19 = .ok (.iaload, 1) := by decide +kernel
theorem dX7_lacks_20 : decode cX7_lacks 20 = .ok (.iload_n 2, 1) := by decide +kernel
theorem dX7_lacks_21 : decode cX7_lacks 21 = .ok (.if_icmp .eq 8, 3) := by decide +kernel
theorem dX7_lacks_24 : decode cX7_lacks 24 = .ok (.bipush (-13), 2) := by decide +kernel
theorem dX7_lacks_26 : decode cX7_lacks 26 = .ok (.goto 4, 3) := by decide +kernel
theorem dX7_lacks_29 : decode cX7_lacks 29 = .ok (.iconst 0, 1) := by decide +kernel
theorem dX7_lacks_30 : decode cX7_lacks 30 = .ok (.ireturn, 1) := by decide +kernel
def p_X7_lacks (F : tF) (A : tA) (x1 : Int32) (x2 : Int32) (K : Int32 → Prop) : Prop := (vp_in x1 4 ∧ ((0 ≤ ((A 16) (x1).toNatClampNeg) → (vp_in x1 4 ∧ ((((A 16) (x1).toNatClampNeg) = x2 → (K (0 : Int32))) ∧ (¬ ((A 16) (x1).toNatClampNeg) = x2 → (K (-13 : Int32)))))) ∧ (¬ 0 ≤ ((A 16) (x1).toNatClampNeg) → (K (-11 : Int32)))))
set_option maxHeartbeats 4000000 in
set_option maxRecDepth 100000 in
theorem w_X7_lacks (l : Launch) (D : va_G) (cI cZ cR : ClassId) (adK adV : Nat → Nat) (sz : Nat) (o : Nat) (q : Nat → Nat) (F : tF) (A : tA) (x1 : Int32) (x2 : Int32) (K : Int32 → Prop) (h : p_X7_lacks F A x1 x2 K) : MI l D cI cZ cR adK adV yX7_lacks cX7_lacks 3 (some .int) (rmN 0 0) [.ref o, .int x1, .int x2] (wX7 cI cZ o q F A : va_W) sz (fun (r : Int32) (u : Unit) => K r) (fun (u : Unit) => (wX7 cI cZ o q F A : va_W)) := by
  refine M_i (by decide +kernel) (Nat.le_of_ble_eq_true rfl) ?_
  intro p e s m args below meth c Q A9 ls X ret hP hD hS hl
  obtain ⟨hx, hb, hml, ht, hown, hK, hA, hE⟩ := id X
  have hl : lv_has ls 3 [(0, .ref o), (1, .int x1), (2, .int x2)] := hl
  unfold p_X7_lacks at h
  refine lv_aload_n hx hb dX7_lacks_0 rfl (lv_at hl 0 rfl) ?_
  refine va_get (C := RX7) (T := TX7) (N := 28) (own := RX7) (v := .ref (q 16)) hx hb ht inlX7 hown hK hP 0 rfl rfl 16 (Nat.le_of_ble_eq_true rfl) (ht _ mw_5_15) (fun _ h9 => h9) rfl dX7_lacks_1 ?_
  refine lv_iload_n hx hb dX7_lacks_4 rfl (lv_at hl 1 rfl) ?_
  obtain ⟨hi5, h⟩ := h
  refine g_iald (f := (A 16)) (k := (x1).toNatClampNeg) hx hb hK hP 9 0 rfl rfl hi5 rfl dX7_lacks_5 ?_
  refine lv_if_ge (tgt := 14) hx hb dX7_lacks_6 (by decide) (fun c6 => ?_) (fun c6 => ?_)
  · replace h := h.1 c6
    refine lv_aload_n hx hb dX7_lacks_14 rfl (lv_at hl 0 rfl) ?_
    refine va_get (C := RX7) (T := TX7) (N := 28) (own := RX7) (v := .ref (q 16)) hx hb ht inlX7 hown hK hP 0 rfl rfl 16 (Nat.le_of_ble_eq_true rfl) (ht _ mw_5_15) (fun _ h9 => h9) rfl dX7_lacks_15 ?_
    refine lv_iload_n hx hb dX7_lacks_18 rfl (lv_at hl 1 rfl) ?_
    obtain ⟨hi19, h⟩ := h
    refine g_iald (f := (A 16)) (k := (x1).toNatClampNeg) hx hb hK hP 9 0 rfl rfl hi19 rfl dX7_lacks_19 ?_
    refine lv_iload_n hx hb dX7_lacks_20 rfl (lv_at hl 2 rfl) ?_
    refine lv_icmp_eq (tgt := 29) hx hb dX7_lacks_21 (by decide) (fun c21 => ?_) (fun c21 => ?_)
    · replace h := h.1 c21
      refine lv_iconst (v := 0) hx hb dX7_lacks_29 (by decide) ?_
      exact ret _ () _ _ _ _ dX7_lacks_30 h hP hD hS
    · replace h := h.2 c21
      refine lv_bipush (v := -13) hx hb dX7_lacks_24 (by decide) ?_
      refine lv_goto (tgt := 30) hx hb dX7_lacks_26 (by decide) ?_
      exact ret _ () _ _ _ _ dX7_lacks_30 h hP hD hS
  · replace h := h.2 c6
    refine lv_bipush (v := -11) hx hb dX7_lacks_9 (by decide) ?_
    refine lv_goto (tgt := 30) hx hb dX7_lacks_11 (by decide) ?_
    exact ret _ () _ _ _ _ dX7_lacks_30 h hP hD hS
theorem cal_X7_lacks : CalV yX7_lacks cX7_lacks 3 (some .int) 2 := ⟨mw_43_13, mw_1_5, mw_43_11, mw_43_12, ⟨by decide +kernel, by decide +kernel, by decide +kernel⟩⟩
theorem dX7_item_0 : decode cX7_item 0 = .ok (.iload_n 1, 1) := by decide +kernel
theorem dX7_item_1 : decode cX7_item 1 = .ok (.invokestatic 278, 3) := by decide +kernel
theorem dX7_item_4 : decode cX7_item 4 = .ok (.ifCond .eq 15, 3) := by decide +kernel
theorem dX7_item_7 : decode cX7_item 7 = .ok (.iload_n 2, 1) := by decide +kernel
theorem dX7_item_8 : decode cX7_item 8 = .ok (.i2l, 1) := by decide +kernel
theorem dX7_item_9 : decode cX7_item 9 = .ok (.lconst 0, 1) := by decide +kernel
theorem dX7_item_10 : decode cX7_item 10 = .ok (.ldc2_w 154, 3) := by decide +kernel
theorem dX7_item_13 : decode cX7_item 13 = .ok (.invokestatic 61, 3) := by decide +kernel
theorem dX7_item_16 : decode cX7_item 16 = .ok (.ifCond .ne 5, 3) := by decide +kernel
theorem dX7_item_19 : decode cX7_item 19 = .ok (.iconst (-1), 1) := by decide +kernel
theorem dX7_item_20 : decode cX7_item 20 = .ok (.ireturn, 1) := by decide +kernel
theorem dX7_item_21 : decode cX7_item 21 = .ok (.aload_n 0, 1) := by decide +kernel
theorem dX7_item_22 : decode cX7_item 22 = .ok (.iload_n 1, 1) := by decide +kernel
theorem dX7_item_23 : decode cX7_item 23 = .ok (.iload_n 2, 1) := by decide +kernel
theorem dX7_item_24 : decode cX7_item 24 = .ok (.invokevirtual 293, 3) := by decide +kernel
theorem dX7_item_27 : decode cX7_item 27 = .ok (.ifCond .eq 10, 3) := by decide +kernel
theorem dX7_item_30 : decode cX7_item 30 = .ok (.aload_n 0, 1) := by decide +kernel
theorem dX7_item_31 : decode cX7_item 31 = .ok (.iload_n 1, 1) := by decide +kernel
theorem dX7_item_32 : decode cX7_item 32 = .ok (.iload_n 2, 1) := by decide +kernel
theorem dX7_item_33 : decode cX7_item 33 = .ok (.invokevirtual 293, 3) := by decide +kernel
theorem dX7_item_36 : decode cX7_item 36 = .ok (.ireturn, 1) := by decide +kernel
theorem dX7_item_37 : decode cX7_item 37 = .ok (.iload_n 3, 1) := by decide +kernel
theorem dX7_item_38 : decode cX7_item 38 = .ok (.i2l, 1) := by decide +kernel
theorem dX7_item_39 : decode cX7_item 39 = .ok (.lconst 0, 1) := by decide +kernel
theorem dX7_item_40 : decode cX7_item 40 = .ok (.aload_n 0, 1) := by decide +kernel
theorem dX7_item_41 : decode cX7_item 41 = .ok (.getfield 38, 3) := by decide +kernel
theorem dX7_item_44 : decode cX7_item 44 = .ok (.iload_n 1, 1) := by decide +kernel
theorem dX7_item_45 : decode cX7_item 45 = .ok (.iaload, 1) := by decide +kernel
theorem dX7_item_46 : decode cX7_item 46 = .ok (.iconst 1, 1) := by decide +kernel
theorem dX7_item_47 : decode cX7_item 47 = .ok (.isub, 1) := by decide +kernel
theorem dX7_item_48 : decode cX7_item 48 = .ok (.i2l, 1) := by decide +kernel
theorem dX7_item_49 : decode cX7_item 49 = .ok (.invokestatic 61, 3) := by decide +kernel
theorem dX7_item_52 : decode cX7_item 52 = .ok (.ifCond .eq 17, 3) := by decide +kernel
theorem dX7_item_55 : decode cX7_item 55 = .ok (.aload_n 0, 1) := by decide +kernel
theorem dX7_item_56 : decode cX7_item 56 = .ok (.getfield 41, 3) := by decide +kernel
theorem dX7_item_59 : decode cX7_item 59 = .ok (.bipush 40, 2) := by decide +kernel
theorem dX7_item_61 : decode cX7_item 61 = .ok (.iload_n 1, 1) := by decide +kernel
theorem dX7_item_62 : decode cX7_item 62 = .ok (.imul, 1) := by decide +kernel
theorem dX7_item_63 : decode cX7_item 63 = .ok (.iload_n 3, 1) := by decide +kernel
theorem dX7_item_64 : decode cX7_item 64 = .ok (.iadd, 1) := by decide +kernel
theorem dX7_item_65 : decode cX7_item 65 = .ok (.iaload, 1) := by decide +kernel
theorem dX7_item_66 : decode cX7_item 66 = .ok (.goto 5, 3) := by decide +kernel
theorem dX7_item_69 : decode cX7_item 69 = .ok (.bipush (-12), 2) := by decide +kernel
theorem dX7_item_71 : decode cX7_item 71 = .ok (.ireturn, 1) := by decide +kernel
def p_X7_item (F : tF) (A : tA) (x1 : Int32) (x2 : Int32) (x3 : Int32) (K : Int32 → Prop) : Prop := (p_X7_isSheet x1 (fun r1 => ((r1 = 0 → (K (-1 : Int32))) ∧ (¬ r1 = 0 → (p_X7_isIn ((x2).toInt64) (0 : Int64) (3 : Int64) (fun r13 => ((¬ r13 = 0 → (p_X7_lacks F A x1 x2 (fun r24 => ((r24 = 0 → (vp_in x1 4 ∧ (p_X7_isIn ((x3).toInt64) (0 : Int64) (((((A 17) (x1).toNatClampNeg) - (1 : Int32))).toInt64) (fun r49 => ((r49 = 0 → (K (-12 : Int32))) ∧ (¬ r49 = 0 → (vp_in (((40 : Int32) * x1) + x3) 160 ∧ (K ((A 18) ((((40 : Int32) * x1) + x3)).toNatClampNeg))))))))) ∧ (¬ r24 = 0 → (p_X7_lacks F A x1 x2 (fun r33 => (K r33)))))))) ∧ (r13 = 0 → (K (-1 : Int32))))))))))
set_option maxHeartbeats 4000000 in
set_option maxRecDepth 100000 in
theorem w_X7_item (l : Launch) (D : va_G) (cI cZ cR : ClassId) (adK adV : Nat → Nat) (sz : Nat) (o : Nat) (q : Nat → Nat) (F : tF) (A : tA) (x1 : Int32) (x2 : Int32) (x3 : Int32) (K : Int32 → Prop) (h : p_X7_item F A x1 x2 x3 K) : MI l D cI cZ cR adK adV yX7_item cX7_item 4 (some .int) (rmN 2 45) [.ref o, .int x1, .int x2, .int x3] (wX7 cI cZ o q F A : va_W) sz (fun (r : Int32) (u : Unit) => K r) (fun (u : Unit) => (wX7 cI cZ o q F A : va_W)) := by
  refine M_i (by decide +kernel) (Nat.le_of_ble_eq_true rfl) ?_
  intro p e s m args below meth c Q A9 ls X ret hP hD hS hl
  obtain ⟨hx, hb, hml, ht, hown, hK, hA, hE⟩ := id X
  have hl : lv_has ls 4 [(0, .ref o), (1, .int x1), (2, .int x2), (3, .int x3)] := hl
  unfold p_X7_item at h
  refine lv_iload_n hx hb dX7_item_0 rfl (lv_at hl 1 rfl) ?_
  refine C_si (wr := [0, 1, 2, 3, 4, 5, 6, 7, 8, 9, 10, 11, 12, 13, 14, 15].filterMap (fun i => (wX7 cI cZ o q F A : va_W)[i]?)) X hP hD hS [.int x1] [] (w_X7_isSheet l D cI cZ cR adK adV _ x1 _ h) cal_X7_isSheet mw_40_9 rfl [] [0, 1, 2, 3, 4, 5, 6, 7, 8, 9, 10, 11, 12, 13, 14, 15] [0, 1, 2, 3, 4, 5, 6, 7, 8, 9, 10, 11, 12, 13, 14, 15] (fun u => (wX7 cI cZ o q F A : va_W)) rfl rfl (fun _ => rfl) rfl ⟨rfl, rfl⟩ ⟨Nat.le_of_ble_eq_true rfl, Nat.le_of_ble_eq_true rfl⟩ hl.1 rfl (Nat.le_of_ble_eq_true rfl) ⟨Nat.zero_le _, Nat.zero_le _⟩ dX7_item_1 (fun r1 u H locs h hP hD hS => ?_)
  refine lv_if_eq (tgt := 19) hx hb dX7_item_4 (by decide) (fun c4 => ?_) (fun c4 => ?_)
  · replace h := h.1 c4
    refine lv_iconst (v := -1) hx hb dX7_item_19 (by decide) ?_
    exact ret _ () _ _ _ _ dX7_item_20 h hP hD hS
  · replace h := h.2 c4
    refine lv_iload_n hx hb dX7_item_7 rfl (lv_at hl 2 rfl) ?_
    refine lv_i2l (v := (x2).toInt64) hx hb dX7_item_8 rfl ?_
    refine lv_lconst (v := 0) hx hb dX7_item_9 (by decide) ?_
    refine lv_ldc2 (v := 3) hx hb hown (ht _ mw_15_17) dX7_item_10 ?_
    refine C_si (wr := [0, 1, 2, 3, 4, 5, 6, 7, 8, 9, 10, 11, 12, 13, 14, 15].filterMap (fun i => (wX7 cI cZ o q F A : va_W)[i]?)) X hP hD hS [.long (x2).toInt64, .long (0 : Int64), .long (3 : Int64)] [] (w_X7_isIn l D cI cZ cR adK adV _ ((x2).toInt64) (0 : Int64) (3 : Int64) _ h) cal_X7_isIn mw_6_19 rfl [] [0, 1, 2, 3, 4, 5, 6, 7, 8, 9, 10, 11, 12, 13, 14, 15] [0, 1, 2, 3, 4, 5, 6, 7, 8, 9, 10, 11, 12, 13, 14, 15] (fun u => (wX7 cI cZ o q F A : va_W)) rfl rfl (fun _ => rfl) rfl ⟨rfl, rfl⟩ ⟨Nat.le_of_ble_eq_true rfl, Nat.le_of_ble_eq_true rfl⟩ hl.1 rfl (Nat.le_of_ble_eq_true rfl) ⟨Nat.zero_le _, Nat.zero_le _⟩ dX7_item_13 (fun r13 u H locs h hP hD hS => ?_)
    refine lv_if_ne (tgt := 21) hx hb dX7_item_16 (by decide) (fun c16 => ?_) (fun c16 => ?_)
    · replace h := h.1 c16
      refine lv_aload_n hx hb dX7_item_21 rfl (lv_at hl 0 rfl) ?_
      refine lv_iload_n hx hb dX7_item_22 rfl (lv_at hl 1 rfl) ?_
      refine lv_iload_n hx hb dX7_item_23 rfl (lv_at hl 2 rfl) ?_
      refine C_vi (wr := []) X hP hD hS [.int x1, .int x2] [] (w_X7_lacks l D cI cZ cR adK adV _ o q F A x1 x2 _ h) cal_X7_lacks mw_43_10 rfl [0, 1, 2, 3, 4, 5, 6, 7, 8, 9, 10, 11, 12, 13, 14, 15] [] [0, 1, 2, 3, 4, 5, 6, 7, 8, 9, 10, 11, 12, 13, 14, 15] (fun u => (wX7 cI cZ o q F A : va_W)) rfl rfl (fun _ => rfl) rfl 0 rfl rfl ⟨rfl, rfl⟩ ⟨Nat.le_of_ble_eq_true rfl, Nat.le_of_ble_eq_true rfl⟩ hl.1 rfl (Nat.le_of_ble_eq_true rfl) ⟨Nat.zero_le _, Nat.zero_le _⟩ dX7_item_24 (fun r24 u H locs h hP hD hS => ?_)
      refine lv_if_eq (tgt := 37) hx hb dX7_item_27 (by decide) (fun c27 => ?_) (fun c27 => ?_)
      · replace h := h.1 c27
        refine lv_iload_n hx hb dX7_item_37 rfl (lv_at hl 3 rfl) ?_
        refine lv_i2l (v := (x3).toInt64) hx hb dX7_item_38 rfl ?_
        refine lv_lconst (v := 0) hx hb dX7_item_39 (by decide) ?_
        refine lv_aload_n hx hb dX7_item_40 rfl (lv_at hl 0 rfl) ?_
        refine va_get (C := RX7) (T := TX7) (N := 28) (own := RX7) (v := .ref (q 17)) hx hb ht inlX7 hown hK hP 0 rfl rfl 17 (Nat.le_of_ble_eq_true rfl) (ht _ mw_5_16) (fun _ h9 => h9) rfl dX7_item_41 ?_
        refine lv_iload_n hx hb dX7_item_44 rfl (lv_at hl 1 rfl) ?_
        obtain ⟨hi45, h⟩ := h
        refine g_iald (f := (A 17)) (k := (x1).toNatClampNeg) hx hb hK hP 10 0 rfl rfl hi45 rfl dX7_item_45 ?_
        refine lv_iconst (v := 1) hx hb dX7_item_46 (by decide) ?_
        refine lv_isub hx hb dX7_item_47 ?_
        refine lv_i2l (v := ((((A 17) (x1).toNatClampNeg) - (1 : Int32))).toInt64) hx hb dX7_item_48 rfl ?_
        refine C_si (wr := [0, 1, 2, 3, 4, 5, 6, 7, 8, 9, 10, 11, 12, 13, 14, 15].filterMap (fun i => (wX7 cI cZ o q F A : va_W)[i]?)) X hP hD hS [.long (x3).toInt64, .long (0 : Int64), .long ((((A 17) (x1).toNatClampNeg) - (1 : Int32))).toInt64] [] (w_X7_isIn l D cI cZ cR adK adV _ ((x3).toInt64) (0 : Int64) (((((A 17) (x1).toNatClampNeg) - (1 : Int32))).toInt64) _ h) cal_X7_isIn mw_6_19 rfl [] [0, 1, 2, 3, 4, 5, 6, 7, 8, 9, 10, 11, 12, 13, 14, 15] [0, 1, 2, 3, 4, 5, 6, 7, 8, 9, 10, 11, 12, 13, 14, 15] (fun u => (wX7 cI cZ o q F A : va_W)) rfl rfl (fun _ => rfl) rfl ⟨rfl, rfl⟩ ⟨Nat.le_of_ble_eq_true rfl, Nat.le_of_ble_eq_true rfl⟩ hl.1 rfl (Nat.le_of_ble_eq_true rfl) ⟨Nat.zero_le _, Nat.zero_le _⟩ dX7_item_49 (fun r49 u H locs h hP hD hS => ?_)
        refine lv_if_eq (tgt := 69) hx hb dX7_item_52 (by decide) (fun c52 => ?_) (fun c52 => ?_)
        · replace h := h.1 c52
          refine lv_bipush (v := -12) hx hb dX7_item_69 (by decide) ?_
          exact ret _ () _ _ _ _ dX7_item_71 h hP hD hS
        · replace h := h.2 c52
          refine lv_aload_n hx hb dX7_item_55 rfl (lv_at hl 0 rfl) ?_
          refine va_get (C := RX7) (T := TX7) (N := 28) (own := RX7) (v := .ref (q 18)) hx hb ht inlX7 hown hK hP 0 rfl rfl 18 (Nat.le_of_ble_eq_true rfl) (ht _ mw_5_17) (fun _ h9 => h9) rfl dX7_item_56 ?_
          refine lv_bipush (v := 40) hx hb dX7_item_59 (by decide) ?_
          refine lv_iload_n hx hb dX7_item_61 rfl (lv_at hl 1 rfl) ?_
          refine lv_imul hx hb dX7_item_62 ?_
          refine lv_iload_n hx hb dX7_item_63 rfl (lv_at hl 3 rfl) ?_
          refine lv_iadd hx hb dX7_item_64 ?_
          obtain ⟨hi65, h⟩ := h
          refine g_iald (f := (A 18)) (k := ((((40 : Int32) * x1) + x3)).toNatClampNeg) hx hb hK hP 11 0 rfl rfl hi65 rfl dX7_item_65 ?_
          refine lv_goto (tgt := 71) hx hb dX7_item_66 (by decide) ?_
          exact ret _ () _ _ _ _ dX7_item_71 h hP hD hS
      · replace h := h.2 c27
        refine lv_aload_n hx hb dX7_item_30 rfl (lv_at hl 0 rfl) ?_
        refine lv_iload_n hx hb dX7_item_31 rfl (lv_at hl 1 rfl) ?_
        refine lv_iload_n hx hb dX7_item_32 rfl (lv_at hl 2 rfl) ?_
        refine C_vi (wr := []) X hP hD hS [.int x1, .int x2] [] (w_X7_lacks l D cI cZ cR adK adV _ o q F A x1 x2 _ h) cal_X7_lacks mw_43_10 rfl [0, 1, 2, 3, 4, 5, 6, 7, 8, 9, 10, 11, 12, 13, 14, 15] [] [0, 1, 2, 3, 4, 5, 6, 7, 8, 9, 10, 11, 12, 13, 14, 15] (fun u => (wX7 cI cZ o q F A : va_W)) rfl rfl (fun _ => rfl) rfl 0 rfl rfl ⟨rfl, rfl⟩ ⟨Nat.le_of_ble_eq_true rfl, Nat.le_of_ble_eq_true rfl⟩ hl.1 rfl (Nat.le_of_ble_eq_true rfl) ⟨Nat.zero_le _, Nat.zero_le _⟩ dX7_item_33 (fun r33 u H locs h hP hD hS => ?_)
        exact ret _ () _ _ _ _ dX7_item_36 h hP hD hS
    · replace h := h.2 c16
      refine lv_iconst (v := -1) hx hb dX7_item_19 (by decide) ?_
      exact ret _ () _ _ _ _ dX7_item_20 h hP hD hS
theorem dX7_minds_0 : decode cX7_minds 0 = .ok (.iload_n 1, 1) := by decide +kernel
theorem dX7_minds_1 : decode cX7_minds 1 = .ok (.invokestatic 278, 3) := by decide +kernel
theorem dX7_minds_4 : decode cX7_minds 4 = .ok (.ifCond .eq 37, 3) := by decide +kernel
theorem dX7_minds_7 : decode cX7_minds 7 = .ok (.aload_n 0, 1) := by decide +kernel
theorem dX7_minds_8 : decode cX7_minds 8 = .ok (.iload_n 3, 1) := by decide +kernel
theorem dX7_minds_9 : decode cX7_minds 9 = .ok (.invokevirtual 178, 3) := by decide +kernel
theorem dX7_minds_12 : decode cX7_minds 12 = .ok (.ifCond .eq 29, 3) := by decide +kernel
theorem dX7_minds_15 : decode cX7_minds 15 = .ok (.iload 4, 2) := by decide +kernel
theorem dX7_minds_17 : decode cX7_minds 17 = .ok (.i2l, 1) := by decide +kernel
theorem dX7_minds_18 : decode cX7_minds 18 = .ok (.lconst 0, 1) := by decide +kernel
theorem dX7_minds_19 : decode cX7_minds 19 = .ok (.ldc2_w 59, 3) := by decide +kernel
theorem dX7_minds_22 : decode cX7_minds 22 = .ok (.invokestatic 61, 3) := by decide +kernel
theorem dX7_minds_25 : decode cX7_minds 25 = .ok (.ifCond .eq 16, 3) := by decide +kernel
theorem dX7_minds_28 : decode cX7_minds 28 = .ok (.iload_n 3, 1) := by decide +kernel
theorem dX7_minds_29 : decode cX7_minds 29 = .ok (.iload 4, 2) := by decide +kernel
theorem dX7_minds_31 : decode cX7_minds 31 = .ok (.iadd, 1) := by decide +kernel
theorem dX7_minds_32 : decode cX7_minds 32 = .ok (.aload_n 0, 1) := by decide +kernel
theorem dX7_minds_33 : decode cX7_minds 33 = .ok (.getfield 7, 3) := by decide +kernel
theorem dX7_minds_36 : decode cX7_minds 36 = .ok (.iconst 0, 1) := by decide +kernel
theorem dX7_minds_37 : decode cX7_minds 37 = .ok (.iaload, 1) := by decide +kernel
theorem dX7_minds_38 : decode cX7_minds 38 = .ok (.if_icmp .le 5, 3) := by decide +kernel
theorem dX7_minds_41 : decode cX7_minds 41 = .ok (.iconst (-1), 1) := by decide +kernel
theorem dX7_minds_42 : decode cX7_minds 42 = .ok (.ireturn, 1) := by decide +kernel
theorem dX7_minds_43 : decode cX7_minds 43 = .ok (.aload_n 0, 1) := by decide +kernel
theorem dX7_minds_44 : decode cX7_minds 44 = .ok (.iload_n 1, 1) := by decide +kernel
theorem dX7_minds_45 : decode cX7_minds 45 = .ok (.iconst 0, 1) := by decide +kernel
theorem dX7_minds_46 : decode cX7_minds 46 = .ok (.invokevirtual 293, 3) := by decide +kernel
theorem dX7_minds_49 : decode cX7_minds 49 = .ok (.ifCond .eq 10, 3) := by decide +kernel
theorem dX7_minds_52 : decode cX7_minds 52 = .ok (.aload_n 0, 1) := by decide +kernel
theorem dX7_minds_53 : decode cX7_minds 53 = .ok (.iload_n 1, 1) := by decide +kernel
theorem dX7_minds_54 : decode cX7_minds 54 = .ok (.iconst 0, 1) := by decide +kernel
theorem dX7_minds_55 : decode cX7_minds 55 = .ok (.invokevirtual 293, 3) := by decide +kernel
theorem dX7_minds_58 : decode cX7_minds 58 = .ok (.ireturn, 1) := by decide +kernel
theorem dX7_minds_59 : decode cX7_minds 59 = .ok (.iload_n 2, 1) := by decide +kernel
theorem dX7_minds_60 : decode cX7_minds 60 = .ok (.i2l, 1) := by decide +kernel
theorem dX7_minds_61 : decode cX7_minds 61 = .ok (.lconst 0, 1) := by decide +kernel
theorem dX7_minds_62 : decode cX7_minds 62 = .ok (.aload_n 0, 1) := by decide +kernel
theorem dX7_minds_63 : decode cX7_minds 63 = .ok (.getfield 38, 3) := by decide +kernel
theorem dX7_minds_66 : decode cX7_minds 66 = .ok (.iload_n 1, 1) := by decide +kernel
theorem dX7_minds_67 : decode cX7_minds 67 = .ok (.iaload, 1) := by decide +kernel
theorem dX7_minds_68 : decode cX7_minds 68 = .ok (.i2l, 1) := by decide +kernel
theorem dX7_minds_69 : decode cX7_minds 69 = .ok (.invokestatic 61, 3) := by decide +kernel
theorem dX7_minds_72 : decode cX7_minds 72 = .ok (.ifCond .eq 20, 3) := by decide +kernel
theorem dX7_minds_75 : decode cX7_minds 75 = .ok (.iload_n 2, 1) := by decide +kernel
theorem dX7_minds_76 : decode cX7_minds 76 = .ok (.i2l, 1) := by decide +kernel
theorem dX7_minds_77 : decode cX7_minds 77 = .ok (.iload 4, 2) := by decide +kernel
theorem dX7_minds_79 : decode cX7_minds 79 = .ok (.i2l, 1) := by decide +kernel
theorem dX7_minds_80 : decode cX7_minds 80 = .ok (.ladd, 1) := by decide +kernel
theorem dX7_minds_81 : decode cX7_minds 81 = .ok (.aload_n 0, 1) := by decide +kernel
theorem dX7_minds_82 : decode cX7_minds 82 = .ok (.getfield 38, 3) := by decide +kernel
theorem dX7_minds_85 : decode cX7_minds 85 = .ok (.iload_n 1, 1) := by decide +kernel
theorem dX7_minds_86 : decode cX7_minds 86 = .ok (.iaload, 1) := by decide +kernel
theorem dX7_minds_87 : decode cX7_minds 87 = .ok (.i2l, 1) := by decide +kernel
theorem dX7_minds_88 : decode cX7_minds 88 = .ok (.lcmp, 1) := by decide +kernel
theorem dX7_minds_89 : decode cX7_minds 89 = .ok (.ifCond .le 6, 3) := by decide +kernel
theorem dX7_minds_92 : decode cX7_minds 92 = .ok (.bipush (-12), 2) := by decide +kernel
theorem dX7_minds_94 : decode cX7_minds 94 = .ok (.ireturn, 1) := by decide +kernel
theorem dX7_minds_95 : decode cX7_minds 95 = .ok (.iconst 0, 1) := by decide +kernel
theorem dX7_minds_96 : decode cX7_minds 96 = .ok (.istore 5, 2) := by decide +kernel
theorem dX7_minds_98 : decode cX7_minds 98 = .ok (.iload 5, 2) := by decide +kernel
theorem dX7_minds_100 : decode cX7_minds 100 = .ok (.iload 4, 2) := by decide +kernel
theorem dX7_minds_102 : decode cX7_minds 102 = .ok (.if_icmp .ge 42, 3) := by decide +kernel
theorem dX7_minds_105 : decode cX7_minds 105 = .ok (.aload_n 0, 1) := by decide +kernel
theorem dX7_minds_106 : decode cX7_minds 106 = .ok (.getfield 7, 3) := by decide +kernel
theorem dX7_minds_109 : decode cX7_minds 109 = .ok (.bipush 21, 2) := by decide +kernel
theorem dX7_minds_111 : decode cX7_minds 111 = .ok (.iconst 4, 1) := by decide +kernel
theorem dX7_minds_112 : decode cX7_minds 112 = .ok (.iload_n 3, 1) := by decide +kernel
theorem dX7_minds_113 : decode cX7_minds 113 = .ok (.iload 5, 2) := by decide +kernel
theorem dX7_minds_115 : decode cX7_minds 115 = .ok (.iadd, 1) := by decide +kernel
theorem dX7_minds_116 : decode cX7_minds 116 = .ok (.imul, 1) := by decide +kernel
theorem dX7_minds_117 : decode cX7_minds 117 = .ok (.iadd, 1) := by decide +kernel
theorem dX7_minds_118 : decode cX7_minds 118 = .ok (.iconst 2, 1) := by decide +kernel
theorem dX7_minds_119 : decode cX7_minds 119 = .ok (.iadd, 1) := by decide +kernel
theorem dX7_minds_120 : decode cX7_minds 120 = .ok (.aload_n 0, 1) := by decide +kernel
theorem dX7_minds_121 : decode cX7_minds 121 = .ok (.getfield 41, 3) := by decide +kernel
theorem dX7_minds_124 : decode cX7_minds 124 = .ok (.bipush 40, 2) := by decide +kernel
theorem dX7_minds_126 : decode cX7_minds 126 = .ok (.iload_n 1, 1) := by decide +kernel
theorem dX7_minds_127 : decode cX7_minds 127 = .ok (.imul, 1) := by decide +kernel
theorem dX7_minds_128 : decode cX7_minds 128 = .ok (.iload_n 2, 1) := by decide +kernel
theorem dX7_minds_129 : decode cX7_minds 129 = .ok (.iadd, 1) := by decide +kernel
theorem dX7_minds_130 : decode cX7_minds 130 = .ok (.iload 5, 2) := by decide +kernel
theorem dX7_minds_132 : decode cX7_minds 132 = .ok (.iadd, 1) := by decide +kernel
theorem dX7_minds_133 : decode cX7_minds 133 = .ok (.iaload, 1) := by decide +kernel
theorem dX7_minds_134 : decode cX7_minds 134 = .ok (.invokestatic 203, 3) := by decide +kernel
theorem dX7_minds_137 : decode cX7_minds 137 = .ok (.iastore, 1) := by decide +kernel
theorem dX7_minds_138 : decode cX7_minds 138 = .ok (.iinc 5 1, 3) := by decide +kernel
theorem dX7_minds_141 : decode cX7_minds 141 = .ok (.goto (-43), 3) := by decide +kernel
theorem dX7_minds_144 : decode cX7_minds 144 = .ok (.iload 4, 2) := by decide +kernel
theorem dX7_minds_146 : decode cX7_minds 146 = .ok (.ireturn, 1) := by decide +kernel
def p_X7_minds_L98 (x1 : Int32) (x2 : Int32) (x3 : Int32) (x4 : Int32) (K : Int32 → tF → tA → Prop) : Nat → tF → tA → Int32 → Prop
  | 0, _, _, _ => False
  | n98 + 1, F, A, x5 => ((x4 ≤ x5 → (K x4 F A)) ∧ (¬ x4 ≤ x5 → (vp_in ((((40 : Int32) * x1) + x2) + x5) 160 ∧ (p_X7_within ((A 18) (((((40 : Int32) * x1) + x2) + x5)).toNatClampNeg) (fun r134 => (vp_in (((21 : Int32) + ((4 : Int32) * (x3 + x5))) + (2 : Int32)) 53 ∧ (∀ f_137 : tF, f_137 = (upd (A 0) ((((21 : Int32) + ((4 : Int32) * (x3 + x5))) + (2 : Int32))).toNatClampNeg r134) → (∀ y138 : Int32, y138 = (x5 + (1 : Int32)) → ((p_X7_minds_L98 x1 x2 x3 x4 K n98) F (va_up A 0 f_137) y138)))))))))
set_option maxHeartbeats 4000000 in
set_option maxRecDepth 100000 in
theorem b_X7_minds_L98 {p : Program} {l : Launch} {e : Env} {s : State} {m : MethodId} {args : Array Value} {below : List Frame} {meth : Method} {c : Code} {Q : State → Prop} {D : va_G} {cI cZ cR : ClassId} {adK adV : Nat → Nat} {A9 : Nat → Prop} {o : Nat} {q : Nat → Nat} {K : Int32 → tF → tA → Prop}  (x1 : Int32) (x2 : Int32) (x3 : Int32) (x4 : Int32) (X : CX p s m args c yX7_minds.cls cX7_minds 6 D cI cZ cR adK adV A9) (ret : RTi p l e (rmN 2 45) s m args below meth c Q cX7_minds D A9 (fun (r : Int32) (u : (tF × tA)) => K r u.1 u.2) (fun (u : (tF × tA)) => (wX7 cI cZ o q u.1 u.2 : va_W)))   : ∀ (n : Nat) (F : tF) (A : tA) (x5 : Int32) (H : Heap) (locs : List Loc) (ls : Array Slot), p_X7_minds_L98 x1 x2 x3 x4 K n F A x5 → va_P D vwCl (wX7 cI cZ o q F A : va_W) H → va_D A9 (wX7 cI cZ o q F A : va_W) → va_S A9 s.heap H locs → lv_has ls 6 [(0, .ref o), (1, .int x1), (2, .int x2), (3, .int x3), (4, .int x4), (5, .int x5)] → W p l e (rmN 2 45) s m args below meth c H locs 0 0 Q (F0 m 98 ls []) := by
  obtain ⟨hx, hb, hml, ht, hown, hK, hA, hE⟩ := id X
  intro n
  induction n with
  | zero => intro F A x5 H locs ls h; exact False.elim h
  | succ n98 ih =>
    intro F A x5 H locs ls h hP hD hS hl
    rw [p_X7_minds_L98] at h
    refine lv_iload hx hb dX7_minds_98 (lv_at hl 5 rfl) ?_
    refine lv_iload hx hb dX7_minds_100 (lv_at hl 4 rfl) ?_
    refine lv_icmp_ge (tgt := 144) hx hb dX7_minds_102 (by decide) (fun c102 => ?_) (fun c102 => ?_)
    · replace h := h.1 c102
      refine lv_iload hx hb dX7_minds_144 (lv_at hl 4 rfl) ?_
      exact ret _ (F, A) _ _ _ _ dX7_minds_146 h hP hD hS
    · replace h := h.2 c102
      refine lv_aload_n hx hb dX7_minds_105 rfl (lv_at hl 0 rfl) ?_
      refine va_get (C := RX7) (T := TX7) (N := 28) (own := RX7) (v := .ref (q 0)) hx hb ht inlX7 hown hK hP 0 rfl rfl 0 (Nat.le_of_ble_eq_true rfl) (ht _ mw_5_7) (fun _ h9 => h9) rfl dX7_minds_106 ?_
      refine lv_bipush (v := 21) hx hb dX7_minds_109 (by decide) ?_
      refine lv_iconst (v := 4) hx hb dX7_minds_111 (by decide) ?_
      refine lv_iload_n hx hb dX7_minds_112 rfl (lv_at hl 3 rfl) ?_
      refine lv_iload hx hb dX7_minds_113 (lv_at hl 5 rfl) ?_
      refine lv_iadd hx hb dX7_minds_115 ?_
      refine lv_imul hx hb dX7_minds_116 ?_
      refine lv_iadd hx hb dX7_minds_117 ?_
      refine lv_iconst (v := 2) hx hb dX7_minds_118 (by decide) ?_
      refine lv_iadd hx hb dX7_minds_119 ?_
      refine lv_aload_n hx hb dX7_minds_120 rfl (lv_at hl 0 rfl) ?_
      refine va_get (C := RX7) (T := TX7) (N := 28) (own := RX7) (v := .ref (q 18)) hx hb ht inlX7 hown hK hP 0 rfl rfl 18 (Nat.le_of_ble_eq_true rfl) (ht _ mw_5_17) (fun _ h9 => h9) rfl dX7_minds_121 ?_
      refine lv_bipush (v := 40) hx hb dX7_minds_124 (by decide) ?_
      refine lv_iload_n hx hb dX7_minds_126 rfl (lv_at hl 1 rfl) ?_
      refine lv_imul hx hb dX7_minds_127 ?_
      refine lv_iload_n hx hb dX7_minds_128 rfl (lv_at hl 2 rfl) ?_
      refine lv_iadd hx hb dX7_minds_129 ?_
      refine lv_iload hx hb dX7_minds_130 (lv_at hl 5 rfl) ?_
      refine lv_iadd hx hb dX7_minds_132 ?_
      obtain ⟨hi133, h⟩ := h
      refine g_iald (f := (A 18)) (k := (((((40 : Int32) * x1) + x2) + x5)).toNatClampNeg) hx hb hK hP 11 0 rfl rfl hi133 rfl dX7_minds_133 ?_
      refine C_si (wr := [0, 1, 2, 3, 4, 5, 6, 7, 8, 9, 10, 11, 12, 13, 14, 15].filterMap (fun i => (wX7 cI cZ o q F A : va_W)[i]?)) X hP hD hS [.int ((A 18) (((((40 : Int32) * x1) + x2) + x5)).toNatClampNeg)] [.int (((21 : Int32) + ((4 : Int32) * (x3 + x5))) + (2 : Int32)), .ref (q 0)] (w_X7_within l D cI cZ cR adK adV _ ((A 18) (((((40 : Int32) * x1) + x2) + x5)).toNatClampNeg) _ h) cal_X7_within mw_26_4 rfl [] [0, 1, 2, 3, 4, 5, 6, 7, 8, 9, 10, 11, 12, 13, 14, 15] [0, 1, 2, 3, 4, 5, 6, 7, 8, 9, 10, 11, 12, 13, 14, 15] (fun u => (wX7 cI cZ o q F A : va_W)) rfl rfl (fun _ => rfl) rfl ⟨rfl, rfl⟩ ⟨Nat.le_of_ble_eq_true rfl, Nat.le_of_ble_eq_true rfl⟩ hl.1 rfl (Nat.le_of_ble_eq_true rfl) ⟨Nat.zero_le _, Nat.zero_le _⟩ dX7_minds_134 (fun r134 u H locs h hP hD hS => ?_)
      obtain ⟨hi137, h⟩ := h
      obtain ⟨f_137, ef_137⟩ : ∃ z : tF, z = (upd (A 0) ((((21 : Int32) + ((4 : Int32) * (x3 + x5))) + (2 : Int32))).toNatClampNeg r134) := ⟨_, rfl⟩
      replace h := h f_137 ef_137
      refine g_iast (f := (A 0)) (k := ((((21 : Int32) + ((4 : Int32) * (x3 + x5))) + (2 : Int32))).toNatClampNeg) hx hb hK hP hD hS 1 0 rfl rfl hi137 rfl ef_137 dX7_minds_137 (fun H locs hP hD hS => ?_)
      have hP : va_P D vwCl (wX7 cI cZ o q F (va_up A 0 f_137) : va_W) H := hP
      have hD : va_D A9 (wX7 cI cZ o q F (va_up A 0 f_137) : va_W) := hD
      obtain ⟨y138, ey138⟩ : ∃ y : Int32, y = (x5 + (1 : Int32)) := ⟨_, rfl⟩
      replace h := h y138 ey138
      refine lv_iinc (v := y138) (lv' := [(5, .int y138), (0, .ref o), (1, .int x1), (2, .int x2), (3, .int x3), (4, .int x4)]) hx hb dX7_minds_138 hl (k := 5) rfl (by rw [ey138]; rfl) (by decide) rfl (fun ls hl => ?_)
      refine lv_goto (tgt := 98) hx hb dX7_minds_141 (by decide) ?_
      exact ih F (va_up A 0 f_137) y138 _ _ _ h hP hD hS (lv_sub hl [1, 2, 3, 4, 5, 0] rfl)
def p_X7_minds (F : tF) (A : tA) (x1 : Int32) (x2 : Int32) (x3 : Int32) (x4 : Int32) (K : Int32 → tF → tA → Prop) : Prop := (p_X7_isSheet x1 (fun r1 => ((r1 = 0 → (K (-1 : Int32) F A)) ∧ (¬ r1 = 0 → (p_X7_isOne F A x3 (fun r9 => ((r9 = 0 → (K (-1 : Int32) F A)) ∧ (¬ r9 = 0 → (p_X7_isIn ((x4).toInt64) (0 : Int64) (8 : Int64) (fun r22 => ((r22 = 0 → (K (-1 : Int32) F A)) ∧ (¬ r22 = 0 → (((x3 + x4) ≤ ((A 0) 0) → (p_X7_lacks F A x1 (0 : Int32) (fun r46 => ((r46 = 0 → (vp_in x1 4 ∧ (p_X7_isIn ((x2).toInt64) (0 : Int64) ((((A 17) (x1).toNatClampNeg)).toInt64) (fun r69 => ((r69 = 0 → (K (-12 : Int32) F A)) ∧ (¬ r69 = 0 → (vp_in x1 4 ∧ (((lg_cmp ((x2).toInt64 + (x4).toInt64) (((A 17) (x1).toNatClampNeg)).toInt64) ≤ 0 → (∃ n98, p_X7_minds_L98 x1 x2 x3 x4 K n98 F A (0 : Int32))) ∧ (¬ (lg_cmp ((x2).toInt64 + (x4).toInt64) (((A 17) (x1).toNatClampNeg)).toInt64) ≤ 0 → (K (-12 : Int32) F A)))))))))) ∧ (¬ r46 = 0 → (p_X7_lacks F A x1 (0 : Int32) (fun r55 => (K r55 F A)))))))) ∧ (¬ (x3 + x4) ≤ ((A 0) 0) → (K (-1 : Int32) F A)))))))))))))))
set_option maxHeartbeats 4000000 in
set_option maxRecDepth 100000 in
theorem w_X7_minds (l : Launch) (D : va_G) (cI cZ cR : ClassId) (adK adV : Nat → Nat) (sz : Nat) (o : Nat) (q : Nat → Nat) (F : tF) (A : tA) (x1 : Int32) (x2 : Int32) (x3 : Int32) (x4 : Int32) (K : Int32 → tF → tA → Prop) (h : p_X7_minds F A x1 x2 x3 x4 K) : MI l D cI cZ cR adK adV yX7_minds cX7_minds 6 (some .int) (rmN 2 45) [.ref o, .int x1, .int x2, .int x3, .int x4] (wX7 cI cZ o q F A : va_W) sz (fun (r : Int32) (u : (tF × tA)) => K r u.1 u.2) (fun (u : (tF × tA)) => (wX7 cI cZ o q u.1 u.2 : va_W)) := by
  refine M_i (by decide +kernel) (Nat.le_of_ble_eq_true rfl) ?_
  intro p e s m args below meth c Q A9 ls X ret hP hD hS hl
  obtain ⟨hx, hb, hml, ht, hown, hK, hA, hE⟩ := id X
  have hl : lv_has ls 6 [(0, .ref o), (1, .int x1), (2, .int x2), (3, .int x3), (4, .int x4)] := hl
  unfold p_X7_minds at h
  refine lv_iload_n hx hb dX7_minds_0 rfl (lv_at hl 1 rfl) ?_
  refine C_si (wr := [0, 1, 2, 3, 4, 5, 6, 7, 8, 9, 10, 11, 12, 13, 14, 15].filterMap (fun i => (wX7 cI cZ o q F A : va_W)[i]?)) X hP hD hS [.int x1] [] (w_X7_isSheet l D cI cZ cR adK adV _ x1 _ h) cal_X7_isSheet mw_40_9 rfl [] [0, 1, 2, 3, 4, 5, 6, 7, 8, 9, 10, 11, 12, 13, 14, 15] [0, 1, 2, 3, 4, 5, 6, 7, 8, 9, 10, 11, 12, 13, 14, 15] (fun u => (wX7 cI cZ o q F A : va_W)) rfl rfl (fun _ => rfl) rfl ⟨rfl, rfl⟩ ⟨Nat.le_of_ble_eq_true rfl, Nat.le_of_ble_eq_true rfl⟩ hl.1 rfl (Nat.le_of_ble_eq_true rfl) ⟨Nat.zero_le _, Nat.zero_le _⟩ dX7_minds_1 (fun r1 u H locs h hP hD hS => ?_)
  refine lv_if_eq (tgt := 41) hx hb dX7_minds_4 (by decide) (fun c4 => ?_) (fun c4 => ?_)
  · replace h := h.1 c4
    refine lv_iconst (v := -1) hx hb dX7_minds_41 (by decide) ?_
    exact ret _ (F, A) _ _ _ _ dX7_minds_42 h hP hD hS
  · replace h := h.2 c4
    refine lv_aload_n hx hb dX7_minds_7 rfl (lv_at hl 0 rfl) ?_
    refine lv_iload_n hx hb dX7_minds_8 rfl (lv_at hl 3 rfl) ?_
    refine C_vi (wr := []) X hP hD hS [.int x3] [] (w_X7_isOne l D cI cZ cR adK adV _ o q F A x3 _ h) cal_X7_isOne mw_18_12 rfl [0, 1, 2, 3, 4, 5, 6, 7, 8, 9, 10, 11, 12, 13, 14, 15] [] [0, 1, 2, 3, 4, 5, 6, 7, 8, 9, 10, 11, 12, 13, 14, 15] (fun u => (wX7 cI cZ o q F A : va_W)) rfl rfl (fun _ => rfl) rfl 0 rfl rfl ⟨rfl, rfl⟩ ⟨Nat.le_of_ble_eq_true rfl, Nat.le_of_ble_eq_true rfl⟩ hl.1 rfl (Nat.le_of_ble_eq_true rfl) ⟨Nat.zero_le _, Nat.zero_le _⟩ dX7_minds_9 (fun r9 u H locs h hP hD hS => ?_)
    refine lv_if_eq (tgt := 41) hx hb dX7_minds_12 (by decide) (fun c12 => ?_) (fun c12 => ?_)
    · replace h := h.1 c12
      refine lv_iconst (v := -1) hx hb dX7_minds_41 (by decide) ?_
      exact ret _ (F, A) _ _ _ _ dX7_minds_42 h hP hD hS
    · replace h := h.2 c12
      refine lv_iload hx hb dX7_minds_15 (lv_at hl 4 rfl) ?_
      refine lv_i2l (v := (x4).toInt64) hx hb dX7_minds_17 rfl ?_
      refine lv_lconst (v := 0) hx hb dX7_minds_18 (by decide) ?_
      refine lv_ldc2 (v := 8) hx hb hown (ht _ mw_6_16) dX7_minds_19 ?_
      refine C_si (wr := [0, 1, 2, 3, 4, 5, 6, 7, 8, 9, 10, 11, 12, 13, 14, 15].filterMap (fun i => (wX7 cI cZ o q F A : va_W)[i]?)) X hP hD hS [.long (x4).toInt64, .long (0 : Int64), .long (8 : Int64)] [] (w_X7_isIn l D cI cZ cR adK adV _ ((x4).toInt64) (0 : Int64) (8 : Int64) _ h) cal_X7_isIn mw_6_19 rfl [] [0, 1, 2, 3, 4, 5, 6, 7, 8, 9, 10, 11, 12, 13, 14, 15] [0, 1, 2, 3, 4, 5, 6, 7, 8, 9, 10, 11, 12, 13, 14, 15] (fun u => (wX7 cI cZ o q F A : va_W)) rfl rfl (fun _ => rfl) rfl ⟨rfl, rfl⟩ ⟨Nat.le_of_ble_eq_true rfl, Nat.le_of_ble_eq_true rfl⟩ hl.1 rfl (Nat.le_of_ble_eq_true rfl) ⟨Nat.zero_le _, Nat.zero_le _⟩ dX7_minds_22 (fun r22 u H locs h hP hD hS => ?_)
      refine lv_if_eq (tgt := 41) hx hb dX7_minds_25 (by decide) (fun c25 => ?_) (fun c25 => ?_)
      · replace h := h.1 c25
        refine lv_iconst (v := -1) hx hb dX7_minds_41 (by decide) ?_
        exact ret _ (F, A) _ _ _ _ dX7_minds_42 h hP hD hS
      · replace h := h.2 c25
        refine lv_iload_n hx hb dX7_minds_28 rfl (lv_at hl 3 rfl) ?_
        refine lv_iload hx hb dX7_minds_29 (lv_at hl 4 rfl) ?_
        refine lv_iadd hx hb dX7_minds_31 ?_
        refine lv_aload_n hx hb dX7_minds_32 rfl (lv_at hl 0 rfl) ?_
        refine va_get (C := RX7) (T := TX7) (N := 28) (own := RX7) (v := .ref (q 0)) hx hb ht inlX7 hown hK hP 0 rfl rfl 0 (Nat.le_of_ble_eq_true rfl) (ht _ mw_5_7) (fun _ h9 => h9) rfl dX7_minds_33 ?_
        refine lv_iconst (v := 0) hx hb dX7_minds_36 (by decide) ?_
        refine g_iald (f := (A 0)) (k := 0) hx hb hK hP 1 0 rfl rfl (vp_in_lit rfl : vp_in (0 : Int32) 53) (by decide) dX7_minds_37 ?_
        refine lv_icmp_le (tgt := 43) hx hb dX7_minds_38 (by decide) (fun c38 => ?_) (fun c38 => ?_)
        · replace h := h.1 c38
          refine lv_aload_n hx hb dX7_minds_43 rfl (lv_at hl 0 rfl) ?_
          refine lv_iload_n hx hb dX7_minds_44 rfl (lv_at hl 1 rfl) ?_
          refine lv_iconst (v := 0) hx hb dX7_minds_45 (by decide) ?_
          refine C_vi (wr := []) X hP hD hS [.int x1, .int (0 : Int32)] [] (w_X7_lacks l D cI cZ cR adK adV _ o q F A x1 (0 : Int32) _ h) cal_X7_lacks mw_43_10 rfl [0, 1, 2, 3, 4, 5, 6, 7, 8, 9, 10, 11, 12, 13, 14, 15] [] [0, 1, 2, 3, 4, 5, 6, 7, 8, 9, 10, 11, 12, 13, 14, 15] (fun u => (wX7 cI cZ o q F A : va_W)) rfl rfl (fun _ => rfl) rfl 0 rfl rfl ⟨rfl, rfl⟩ ⟨Nat.le_of_ble_eq_true rfl, Nat.le_of_ble_eq_true rfl⟩ hl.1 rfl (Nat.le_of_ble_eq_true rfl) ⟨Nat.zero_le _, Nat.zero_le _⟩ dX7_minds_46 (fun r46 u H locs h hP hD hS => ?_)
          refine lv_if_eq (tgt := 59) hx hb dX7_minds_49 (by decide) (fun c49 => ?_) (fun c49 => ?_)
          · replace h := h.1 c49
            refine lv_iload_n hx hb dX7_minds_59 rfl (lv_at hl 2 rfl) ?_
            refine lv_i2l (v := (x2).toInt64) hx hb dX7_minds_60 rfl ?_
            refine lv_lconst (v := 0) hx hb dX7_minds_61 (by decide) ?_
            refine lv_aload_n hx hb dX7_minds_62 rfl (lv_at hl 0 rfl) ?_
            refine va_get (C := RX7) (T := TX7) (N := 28) (own := RX7) (v := .ref (q 17)) hx hb ht inlX7 hown hK hP 0 rfl rfl 17 (Nat.le_of_ble_eq_true rfl) (ht _ mw_5_16) (fun _ h9 => h9) rfl dX7_minds_63 ?_
            refine lv_iload_n hx hb dX7_minds_66 rfl (lv_at hl 1 rfl) ?_
            obtain ⟨hi67, h⟩ := h
            refine g_iald (f := (A 17)) (k := (x1).toNatClampNeg) hx hb hK hP 10 0 rfl rfl hi67 rfl dX7_minds_67 ?_
            refine lv_i2l (v := (((A 17) (x1).toNatClampNeg)).toInt64) hx hb dX7_minds_68 rfl ?_
            refine C_si (wr := [0, 1, 2, 3, 4, 5, 6, 7, 8, 9, 10, 11, 12, 13, 14, 15].filterMap (fun i => (wX7 cI cZ o q F A : va_W)[i]?)) X hP hD hS [.long (x2).toInt64, .long (0 : Int64), .long (((A 17) (x1).toNatClampNeg)).toInt64] [] (w_X7_isIn l D cI cZ cR adK adV _ ((x2).toInt64) (0 : Int64) ((((A 17) (x1).toNatClampNeg)).toInt64) _ h) cal_X7_isIn mw_6_19 rfl [] [0, 1, 2, 3, 4, 5, 6, 7, 8, 9, 10, 11, 12, 13, 14, 15] [0, 1, 2, 3, 4, 5, 6, 7, 8, 9, 10, 11, 12, 13, 14, 15] (fun u => (wX7 cI cZ o q F A : va_W)) rfl rfl (fun _ => rfl) rfl ⟨rfl, rfl⟩ ⟨Nat.le_of_ble_eq_true rfl, Nat.le_of_ble_eq_true rfl⟩ hl.1 rfl (Nat.le_of_ble_eq_true rfl) ⟨Nat.zero_le _, Nat.zero_le _⟩ dX7_minds_69 (fun r69 u H locs h hP hD hS => ?_)
            refine lv_if_eq (tgt := 92) hx hb dX7_minds_72 (by decide) (fun c72 => ?_) (fun c72 => ?_)
            · replace h := h.1 c72
              refine lv_bipush (v := -12) hx hb dX7_minds_92 (by decide) ?_
              exact ret _ (F, A) _ _ _ _ dX7_minds_94 h hP hD hS
            · replace h := h.2 c72
              refine lv_iload_n hx hb dX7_minds_75 rfl (lv_at hl 2 rfl) ?_
              refine lv_i2l (v := (x2).toInt64) hx hb dX7_minds_76 rfl ?_
              refine lv_iload hx hb dX7_minds_77 (lv_at hl 4 rfl) ?_
              refine lv_i2l (v := (x4).toInt64) hx hb dX7_minds_79 rfl ?_
              refine lv_ladd hx hb dX7_minds_80 ?_
              refine lv_aload_n hx hb dX7_minds_81 rfl (lv_at hl 0 rfl) ?_
              refine va_get (C := RX7) (T := TX7) (N := 28) (own := RX7) (v := .ref (q 17)) hx hb ht inlX7 hown hK hP 0 rfl rfl 17 (Nat.le_of_ble_eq_true rfl) (ht _ mw_5_16) (fun _ h9 => h9) rfl dX7_minds_82 ?_
              refine lv_iload_n hx hb dX7_minds_85 rfl (lv_at hl 1 rfl) ?_
              obtain ⟨hi86, h⟩ := h
              refine g_iald (f := (A 17)) (k := (x1).toNatClampNeg) hx hb hK hP 10 0 rfl rfl hi86 rfl dX7_minds_86 ?_
              refine lv_i2l (v := (((A 17) (x1).toNatClampNeg)).toInt64) hx hb dX7_minds_87 rfl ?_
              refine W.lcmp hx hb dX7_minds_88 ?_
              refine lv_if_le (tgt := 95) hx hb dX7_minds_89 (by decide) (fun c89 => ?_) (fun c89 => ?_)
              · replace h := h.1 c89
                refine lv_iconst (v := 0) hx hb dX7_minds_95 (by decide) ?_
                refine lv_istore (lv' := [(5, .int (0 : Int32)), (0, .ref o), (1, .int x1), (2, .int x2), (3, .int x3), (4, .int x4)]) hx hb dX7_minds_96 hl (by decide) rfl (fun ls hl => ?_)
                obtain ⟨n98, h⟩ := h
                exact b_X7_minds_L98 x1 x2 x3 x4 X ret  n98 F A (0 : Int32) _ _ _ h hP hD hS (lv_sub hl [1, 2, 3, 4, 5, 0] rfl)
              · replace h := h.2 c89
                refine lv_bipush (v := -12) hx hb dX7_minds_92 (by decide) ?_
                exact ret _ (F, A) _ _ _ _ dX7_minds_94 h hP hD hS
          · replace h := h.2 c49
            refine lv_aload_n hx hb dX7_minds_52 rfl (lv_at hl 0 rfl) ?_
            refine lv_iload_n hx hb dX7_minds_53 rfl (lv_at hl 1 rfl) ?_
            refine lv_iconst (v := 0) hx hb dX7_minds_54 (by decide) ?_
            refine C_vi (wr := []) X hP hD hS [.int x1, .int (0 : Int32)] [] (w_X7_lacks l D cI cZ cR adK adV _ o q F A x1 (0 : Int32) _ h) cal_X7_lacks mw_43_10 rfl [0, 1, 2, 3, 4, 5, 6, 7, 8, 9, 10, 11, 12, 13, 14, 15] [] [0, 1, 2, 3, 4, 5, 6, 7, 8, 9, 10, 11, 12, 13, 14, 15] (fun u => (wX7 cI cZ o q F A : va_W)) rfl rfl (fun _ => rfl) rfl 0 rfl rfl ⟨rfl, rfl⟩ ⟨Nat.le_of_ble_eq_true rfl, Nat.le_of_ble_eq_true rfl⟩ hl.1 rfl (Nat.le_of_ble_eq_true rfl) ⟨Nat.zero_le _, Nat.zero_le _⟩ dX7_minds_55 (fun r55 u H locs h hP hD hS => ?_)
            exact ret _ (F, A) _ _ _ _ dX7_minds_58 h hP hD hS
        · replace h := h.2 c38
          refine lv_iconst (v := -1) hx hb dX7_minds_41 (by decide) ?_
          exact ret _ (F, A) _ _ _ _ dX7_minds_42 h hP hD hS
theorem cal_X7_isShelf : CalS yX7_isShelf cX7_isShelf 1 (some .boolean) 1 := ⟨mw_45_17, mw_1_5, mw_45_16, ⟨by decide +kernel, by decide +kernel, by decide +kernel⟩⟩
theorem dX7_shelf_0 : decode cX7_shelf 0 = .ok (.iload_n 1, 1) := by decide +kernel
theorem dX7_shelf_1 : decode cX7_shelf 1 = .ok (.invokestatic 296, 3) := by decide +kernel
theorem dX7_shelf_4 : decode cX7_shelf 4 = .ok (.ifCond .eq 39, 3) := by decide +kernel
theorem dX7_shelf_7 : decode cX7_shelf 7 = .ok (.iload_n 2, 1) := by decide +kernel
theorem dX7_shelf_8 : decode cX7_shelf 8 = .ok (.i2l, 1) := by decide +kernel
theorem dX7_shelf_9 : decode cX7_shelf 9 = .ok (.lconst 0, 1) := by decide +kernel
theorem dX7_shelf_10 : decode cX7_shelf 10 = .ok (.ldc2_w 288, 3) := by decide +kernel
theorem dX7_shelf_13 : decode cX7_shelf 13 = .ok (.invokestatic 61, 3) := by decide +kernel
theorem dX7_shelf_16 : decode cX7_shelf 16 = .ok (.ifCond .eq 27, 3) := by decide +kernel
theorem dX7_shelf_19 : decode cX7_shelf 19 = .ok (.iload_n 2, 1) := by decide +kernel
theorem dX7_shelf_20 : decode cX7_shelf 20 = .ok (.ifCond .ne 11, 3) := by decide +kernel
theorem dX7_shelf_23 : decode cX7_shelf 23 = .ok (.aload_n 0, 1) := by decide +kernel
theorem dX7_shelf_24 : decode cX7_shelf 24 = .ok (.iload_n 3, 1) := by decide +kernel
theorem dX7_shelf_25 : decode cX7_shelf 25 = .ok (.invokevirtual 178, 3) := by decide +kernel
theorem dX7_shelf_28 : decode cX7_shelf 28 = .ok (.ifCond .eq 15, 3) := by decide +kernel
theorem dX7_shelf_31 : decode cX7_shelf 31 = .ok (.iload_n 2, 1) := by decide +kernel
theorem dX7_shelf_32 : decode cX7_shelf 32 = .ok (.iconst 1, 1) := by decide +kernel
theorem dX7_shelf_33 : decode cX7_shelf 33 = .ok (.if_icmp .ne 12, 3) := by decide +kernel
theorem dX7_shelf_36 : decode cX7_shelf 36 = .ok (.iload_n 3, 1) := by decide +kernel
theorem dX7_shelf_37 : decode cX7_shelf 37 = .ok (.invokestatic 278, 3) := by decide +kernel
theorem dX7_shelf_40 : decode cX7_shelf 40 = .ok (.ifCond .ne 5, 3) := by decide +kernel
theorem dX7_shelf_43 : decode cX7_shelf 43 = .ok (.iconst (-1), 1) := by decide +kernel
theorem dX7_shelf_44 : decode cX7_shelf 44 = .ok (.ireturn, 1) := by decide +kernel
theorem dX7_shelf_45 : decode cX7_shelf 45 = .ok (.iload_n 2, 1) := by decide +kernel
theorem dX7_shelf_46 : decode cX7_shelf 46 = .ok (.iconst 1, 1) := by decide +kernel
theorem dX7_shelf_47 : decode cX7_shelf 47 = .ok (.if_icmp .ne 16, 3) := by decide +kernel
theorem dX7_shelf_50 : decode cX7_shelf 50 = .ok (.aload_n 0, 1) := by decide +kernel
theorem dX7_shelf_51 : decode cX7_shelf 51 = .ok (.getfield 35, 3) := by decide +kernel
theorem dX7_shelf_54 : decode cX7_shelf 54 = .ok (.iload_n 3, 1) := by decide +kernel
theorem dX7_shelf_55 : decode cX7_shelf 55 = .ok (.iaload, 1) := by decide +kernel
theorem dX7_shelf_56 : decode cX7_shelf 56 = .ok (.ifCond .lt 7, 3) := by decide +kernel
theorem dX7_shelf_59 : decode cX7_shelf 59 = .ok (.iconst 1, 1) := by decide +kernel
theorem dX7_shelf_60 : decode cX7_shelf 60 = .ok (.goto 4, 3) := by decide +kernel
theorem dX7_shelf_63 : decode cX7_shelf 63 = .ok (.iconst 0, 1) := by decide +kernel
theorem dX7_shelf_64 : decode cX7_shelf 64 = .ok (.istore 4, 2) := by decide +kernel
theorem dX7_shelf_66 : decode cX7_shelf 66 = .ok (.aload_n 0, 1) := by decide +kernel
theorem dX7_shelf_67 : decode cX7_shelf 67 = .ok (.getfield 44, 3) := by decide +kernel
theorem dX7_shelf_70 : decode cX7_shelf 70 = .ok (.iload_n 1, 1) := by decide +kernel
theorem dX7_shelf_71 : decode cX7_shelf 71 = .ok (.iload_n 2, 1) := by decide +kernel
theorem dX7_shelf_72 : decode cX7_shelf 72 = .ok (.ifCond .ne 7, 3) := by decide +kernel
theorem dX7_shelf_75 : decode cX7_shelf 75 = .ok (.iconst 1, 1) := by decide +kernel
theorem dX7_shelf_76 : decode cX7_shelf 76 = .ok (.goto 13, 3) := by decide +kernel
theorem dX7_shelf_79 : decode cX7_shelf 79 = .ok (.iload 4, 2) := by decide +kernel
theorem dX7_shelf_81 : decode cX7_shelf 81 = .ok (.ifCond .eq 7, 3) := by decide +kernel
theorem dX7_shelf_84 : decode cX7_shelf 84 = .ok (.iconst 2, 1) := by decide +kernel
theorem dX7_shelf_85 : decode cX7_shelf 85 = .ok (.goto 4, 3) := by decide +kernel
theorem dX7_shelf_88 : decode cX7_shelf 88 = .ok (.iconst 0, 1) := by decide +kernel
theorem dX7_shelf_89 : decode cX7_shelf 89 = .ok (.iastore, 1) := by decide +kernel
theorem dX7_shelf_90 : decode cX7_shelf 90 = .ok (.aload_n 0, 1) := by decide +kernel
theorem dX7_shelf_91 : decode cX7_shelf 91 = .ok (.getfield 47, 3) := by decide +kernel
theorem dX7_shelf_94 : decode cX7_shelf 94 = .ok (.iload_n 1, 1) := by decide +kernel
theorem dX7_shelf_95 : decode cX7_shelf 95 = .ok (.iload_n 2, 1) := by decide +kernel
theorem dX7_shelf_96 : decode cX7_shelf 96 = .ok (.ifCond .ne 7, 3) := by decide +kernel
theorem dX7_shelf_99 : decode cX7_shelf 99 = .ok (.iload_n 3, 1) := by decide +kernel
theorem dX7_shelf_100 : decode cX7_shelf 100 = .ok (.goto 18, 3) := by decide +kernel
theorem dX7_shelf_103 : decode cX7_shelf 103 = .ok (.iload 4, 2) := by decide +kernel
theorem dX7_shelf_105 : decode cX7_shelf 105 = .ok (.ifCond .eq 12, 3) := by decide +kernel
theorem dX7_shelf_108 : decode cX7_shelf 108 = .ok (.aload_n 0, 1) := by decide +kernel
theorem dX7_shelf_109 : decode cX7_shelf 109 = .ok (.getfield 35, 3) := by decide +kernel
theorem dX7_shelf_112 : decode cX7_shelf 112 = .ok (.iload_n 3, 1) := by decide +kernel
theorem dX7_shelf_113 : decode cX7_shelf 113 = .ok (.iaload, 1) := by decide +kernel
theorem dX7_shelf_114 : decode cX7_shelf 114 = .ok (.goto 4, 3) := by decide +kernel
theorem dX7_shelf_117 : decode cX7_shelf 117 = .ok (.iconst 0, 1) := by decide +kernel
theorem dX7_shelf_118 : decode cX7_shelf 118 = .ok (.iastore, 1) := by decide +kernel
theorem dX7_shelf_119 : decode cX7_shelf 119 = .ok (.aload_n 0, 1) := by decide +kernel
theorem dX7_shelf_120 : decode cX7_shelf 120 = .ok (.getfield 50, 3) := by decide +kernel
theorem dX7_shelf_123 : decode cX7_shelf 123 = .ok (.iload_n 1, 1) := by decide +kernel
theorem dX7_shelf_124 : decode cX7_shelf 124 = .ok (.iload 4, 2) := by decide +kernel
theorem dX7_shelf_126 : decode cX7_shelf 126 = .ok (.ifCond .eq 12, 3) := by decide +kernel
theorem dX7_shelf_129 : decode cX7_shelf 129 = .ok (.aload_n 0, 1) := by decide +kernel
theorem dX7_shelf_130 : decode cX7_shelf 130 = .ok (.getfield 38, 3) := by decide +kernel
theorem dX7_shelf_133 : decode cX7_shelf 133 = .ok (.iload_n 3, 1) := by decide +kernel
theorem dX7_shelf_134 : decode cX7_shelf 134 = .ok (.iaload, 1) := by decide +kernel
theorem dX7_shelf_135 : decode cX7_shelf 135 = .ok (.goto 4, 3) := by decide +kernel
theorem dX7_shelf_138 : decode cX7_shelf 138 = .ok (.iconst 0, 1) := by decide +kernel
theorem dX7_shelf_139 : decode cX7_shelf 139 = .ok (.iastore, 1) := by decide +kernel
theorem dX7_shelf_140 : decode cX7_shelf 140 = .ok (.iconst 1, 1) := by decide +kernel
theorem dX7_shelf_141 : decode cX7_shelf 141 = .ok (.ireturn, 1) := by decide +kernel
def p_X7_shelf_J118 (F : tF) (A : tA) (K : Int32 → tF → tA → Prop) (x1 : Int32) (x3 : Int32) (x4 : Int32) (s0 : Int32) (s1 : Int32) : Prop := (vp_in s1 4 ∧ (∀ f_118 : tF, f_118 = (upd (A 20) (s1).toNatClampNeg s0) → ((x4 = 0 → (vp_in x1 4 ∧ (∀ f_139 : tF, f_139 = (upd (A 21) (x1).toNatClampNeg (0 : Int32)) → (K (1 : Int32) F (va_up (va_up A 20 f_118) 21 f_139))))) ∧ (¬ x4 = 0 → (vp_in x3 4 ∧ (vp_in x1 4 ∧ (∀ f_139 : tF, f_139 = (upd (A 21) (x1).toNatClampNeg ((A 17) (x3).toNatClampNeg)) → (K (1 : Int32) F (va_up (va_up A 20 f_118) 21 f_139)))))))))
set_option maxHeartbeats 4000000 in
set_option maxRecDepth 100000 in
theorem b_X7_shelf_J118 {p : Program} {l : Launch} {e : Env} {s : State} {m : MethodId} {args : Array Value} {below : List Frame} {meth : Method} {c : Code} {Q : State → Prop} {D : va_G} {cI cZ cR : ClassId} {adK adV : Nat → Nat} {A9 : Nat → Prop} {o : Nat} {q : Nat → Nat} {K : Int32 → tF → tA → Prop}  (F : tF) (A : tA) (x1 : Int32) (x3 : Int32) (x4 : Int32) (s0 : Int32) (s1 : Int32) (X : CX p s m args c yX7_shelf.cls cX7_shelf 5 D cI cZ cR adK adV A9) (ret : RTi p l e (rmN 2 45) s m args below meth c Q cX7_shelf D A9 (fun (r : Int32) (u : (tF × tA)) => K r u.1 u.2) (fun (u : (tF × tA)) => (wX7 cI cZ o q u.1 u.2 : va_W)))  (H : Heap) (locs : List Loc) (ls : Array Slot) (h : p_X7_shelf_J118 F A K x1 x3 x4 s0 s1) (hP : va_P D vwCl (wX7 cI cZ o q F A : va_W) H) (hD : va_D A9 (wX7 cI cZ o q F A : va_W)) (hS : va_S A9 s.heap H locs) (hl : lv_has ls 5 [(0, .ref o), (1, .int x1), (3, .int x3), (4, .int x4)]) : W p l e (rmN 2 45) s m args below meth c H locs 0 0 Q (F0 m 118 ls [.int s0, .int s1, .ref (q 20)]) := by
  obtain ⟨hx, hb, hml, ht, hown, hK, hA, hE⟩ := id X
  unfold p_X7_shelf_J118 at h
  obtain ⟨hi118, h⟩ := h
  obtain ⟨f_118, ef_118⟩ : ∃ z : tF, z = (upd (A 20) (s1).toNatClampNeg s0) := ⟨_, rfl⟩
  replace h := h f_118 ef_118
  refine g_iast (f := (A 20)) (k := (s1).toNatClampNeg) hx hb hK hP hD hS 13 0 rfl rfl hi118 rfl ef_118 dX7_shelf_118 (fun H locs hP hD hS => ?_)
  have hP : va_P D vwCl (wX7 cI cZ o q F (va_up A 20 f_118) : va_W) H := hP
  have hD : va_D A9 (wX7 cI cZ o q F (va_up A 20 f_118) : va_W) := hD
  refine lv_aload_n hx hb dX7_shelf_119 rfl (lv_at hl 0 rfl) ?_
  refine va_get (C := RX7) (T := TX7) (N := 28) (own := RX7) (v := .ref (q 21)) hx hb ht inlX7 hown hK hP 0 rfl rfl 21 (Nat.le_of_ble_eq_true rfl) (ht _ mw_5_20) (fun _ h9 => h9) rfl dX7_shelf_120 ?_
  refine lv_iload_n hx hb dX7_shelf_123 rfl (lv_at hl 1 rfl) ?_
  refine lv_iload hx hb dX7_shelf_124 (lv_at hl 3 rfl) ?_
  refine lv_if_eq (tgt := 138) hx hb dX7_shelf_126 (by decide) (fun c126 => ?_) (fun c126 => ?_)
  · replace h := h.1 c126
    refine lv_iconst (v := 0) hx hb dX7_shelf_138 (by decide) ?_
    obtain ⟨hi139, h⟩ := h
    obtain ⟨f_139, ef_139⟩ : ∃ z : tF, z = (upd (A 21) (x1).toNatClampNeg (0 : Int32)) := ⟨_, rfl⟩
    replace h := h f_139 ef_139
    refine g_iast (f := (A 21)) (k := (x1).toNatClampNeg) hx hb hK hP hD hS 14 0 rfl rfl hi139 rfl ef_139 dX7_shelf_139 (fun H locs hP hD hS => ?_)
    have hP : va_P D vwCl (wX7 cI cZ o q F (va_up (va_up A 20 f_118) 21 f_139) : va_W) H := hP
    have hD : va_D A9 (wX7 cI cZ o q F (va_up (va_up A 20 f_118) 21 f_139) : va_W) := hD
    refine lv_iconst (v := 1) hx hb dX7_shelf_140 (by decide) ?_
    exact ret _ (F, (va_up (va_up A 20 f_118) 21 f_139)) _ _ _ _ dX7_shelf_141 h hP hD hS
  · replace h := h.2 c126
    refine lv_aload_n hx hb dX7_shelf_129 rfl (lv_at hl 0 rfl) ?_
    refine va_get (C := RX7) (T := TX7) (N := 28) (own := RX7) (v := .ref (q 17)) hx hb ht inlX7 hown hK hP 0 rfl rfl 17 (Nat.le_of_ble_eq_true rfl) (ht _ mw_5_16) (fun _ h9 => h9) rfl dX7_shelf_130 ?_
    refine lv_iload_n hx hb dX7_shelf_133 rfl (lv_at hl 2 rfl) ?_
    obtain ⟨hi134, h⟩ := h
    refine g_iald (f := (A 17)) (k := (x3).toNatClampNeg) hx hb hK hP 10 0 rfl rfl hi134 rfl dX7_shelf_134 ?_
    refine lv_goto (tgt := 139) hx hb dX7_shelf_135 (by decide) ?_
    obtain ⟨hi139, h⟩ := h
    obtain ⟨f_139, ef_139⟩ : ∃ z : tF, z = (upd (A 21) (x1).toNatClampNeg ((A 17) (x3).toNatClampNeg)) := ⟨_, rfl⟩
    replace h := h f_139 ef_139
    refine g_iast (f := (A 21)) (k := (x1).toNatClampNeg) hx hb hK hP hD hS 14 0 rfl rfl hi139 rfl ef_139 dX7_shelf_139 (fun H locs hP hD hS => ?_)
    have hP : va_P D vwCl (wX7 cI cZ o q F (va_up (va_up A 20 f_118) 21 f_139) : va_W) H := hP
    have hD : va_D A9 (wX7 cI cZ o q F (va_up (va_up A 20 f_118) 21 f_139) : va_W) := hD
    refine lv_iconst (v := 1) hx hb dX7_shelf_140 (by decide) ?_
    exact ret _ (F, (va_up (va_up A 20 f_118) 21 f_139)) _ _ _ _ dX7_shelf_141 h hP hD hS
def p_X7_shelf_J89 (F : tF) (A : tA) (K : Int32 → tF → tA → Prop) (x1 : Int32) (x2 : Int32) (x3 : Int32) (x4 : Int32) (s0 : Int32) (s1 : Int32) : Prop := (vp_in s1 4 ∧ (∀ f_89 : tF, f_89 = (upd (A 19) (s1).toNatClampNeg s0) → ((¬ x2 = 0 → ((x4 = 0 → (p_X7_shelf_J118 F (va_up A 19 f_89) K x1 x3 x4 (0 : Int32) x1)) ∧ (¬ x4 = 0 → (vp_in x3 4 ∧ (p_X7_shelf_J118 F (va_up A 19 f_89) K x1 x3 x4 ((A 16) (x3).toNatClampNeg) x1))))) ∧ (x2 = 0 → (p_X7_shelf_J118 F (va_up A 19 f_89) K x1 x3 x4 x3 x1)))))
set_option maxHeartbeats 4000000 in
set_option maxRecDepth 100000 in
theorem b_X7_shelf_J89 {p : Program} {l : Launch} {e : Env} {s : State} {m : MethodId} {args : Array Value} {below : List Frame} {meth : Method} {c : Code} {Q : State → Prop} {D : va_G} {cI cZ cR : ClassId} {adK adV : Nat → Nat} {A9 : Nat → Prop} {o : Nat} {q : Nat → Nat} {K : Int32 → tF → tA → Prop}  (F : tF) (A : tA) (x1 : Int32) (x2 : Int32) (x3 : Int32) (x4 : Int32) (s0 : Int32) (s1 : Int32) (X : CX p s m args c yX7_shelf.cls cX7_shelf 5 D cI cZ cR adK adV A9) (ret : RTi p l e (rmN 2 45) s m args below meth c Q cX7_shelf D A9 (fun (r : Int32) (u : (tF × tA)) => K r u.1 u.2) (fun (u : (tF × tA)) => (wX7 cI cZ o q u.1 u.2 : va_W)))  (H : Heap) (locs : List Loc) (ls : Array Slot) (h : p_X7_shelf_J89 F A K x1 x2 x3 x4 s0 s1) (hP : va_P D vwCl (wX7 cI cZ o q F A : va_W) H) (hD : va_D A9 (wX7 cI cZ o q F A : va_W)) (hS : va_S A9 s.heap H locs) (hl : lv_has ls 5 [(0, .ref o), (1, .int x1), (2, .int x2), (3, .int x3), (4, .int x4)]) : W p l e (rmN 2 45) s m args below meth c H locs 0 0 Q (F0 m 89 ls [.int s0, .int s1, .ref (q 19)]) := by
  obtain ⟨hx, hb, hml, ht, hown, hK, hA, hE⟩ := id X
  unfold p_X7_shelf_J89 at h
  obtain ⟨hi89, h⟩ := h
  obtain ⟨f_89, ef_89⟩ : ∃ z : tF, z = (upd (A 19) (s1).toNatClampNeg s0) := ⟨_, rfl⟩
  replace h := h f_89 ef_89
  refine g_iast (f := (A 19)) (k := (s1).toNatClampNeg) hx hb hK hP hD hS 12 0 rfl rfl hi89 rfl ef_89 dX7_shelf_89 (fun H locs hP hD hS => ?_)
  have hP : va_P D vwCl (wX7 cI cZ o q F (va_up A 19 f_89) : va_W) H := hP
  have hD : va_D A9 (wX7 cI cZ o q F (va_up A 19 f_89) : va_W) := hD
  refine lv_aload_n hx hb dX7_shelf_90 rfl (lv_at hl 0 rfl) ?_
  refine va_get (C := RX7) (T := TX7) (N := 28) (own := RX7) (v := .ref (q 20)) hx hb ht inlX7 hown hK hP 0 rfl rfl 20 (Nat.le_of_ble_eq_true rfl) (ht _ mw_5_19) (fun _ h9 => h9) rfl dX7_shelf_91 ?_
  refine lv_iload_n hx hb dX7_shelf_94 rfl (lv_at hl 1 rfl) ?_
  refine lv_iload_n hx hb dX7_shelf_95 rfl (lv_at hl 2 rfl) ?_
  refine lv_if_ne (tgt := 103) hx hb dX7_shelf_96 (by decide) (fun c96 => ?_) (fun c96 => ?_)
  · replace h := h.1 c96
    refine lv_iload hx hb dX7_shelf_103 (lv_at hl 4 rfl) ?_
    refine lv_if_eq (tgt := 117) hx hb dX7_shelf_105 (by decide) (fun c105 => ?_) (fun c105 => ?_)
    · replace h := h.1 c105
      refine lv_iconst (v := 0) hx hb dX7_shelf_117 (by decide) ?_
      exact b_X7_shelf_J118 F (va_up A 19 f_89) x1 x3 x4 (0 : Int32) x1 X ret  _ _ _ h hP hD hS (lv_sub hl [0, 1, 3, 4] rfl)
    · replace h := h.2 c105
      refine lv_aload_n hx hb dX7_shelf_108 rfl (lv_at hl 0 rfl) ?_
      refine va_get (C := RX7) (T := TX7) (N := 28) (own := RX7) (v := .ref (q 16)) hx hb ht inlX7 hown hK hP 0 rfl rfl 16 (Nat.le_of_ble_eq_true rfl) (ht _ mw_5_15) (fun _ h9 => h9) rfl dX7_shelf_109 ?_
      refine lv_iload_n hx hb dX7_shelf_112 rfl (lv_at hl 3 rfl) ?_
      obtain ⟨hi113, h⟩ := h
      refine g_iald (f := (A 16)) (k := (x3).toNatClampNeg) hx hb hK hP 9 0 rfl rfl hi113 rfl dX7_shelf_113 ?_
      refine lv_goto (tgt := 118) hx hb dX7_shelf_114 (by decide) ?_
      exact b_X7_shelf_J118 F (va_up A 19 f_89) x1 x3 x4 ((A 16) (x3).toNatClampNeg) x1 X ret  _ _ _ h hP hD hS (lv_sub hl [0, 1, 3, 4] rfl)
  · replace h := h.2 c96
    refine lv_iload_n hx hb dX7_shelf_99 rfl (lv_at hl 3 rfl) ?_
    refine lv_goto (tgt := 118) hx hb dX7_shelf_100 (by decide) ?_
    exact b_X7_shelf_J118 F (va_up A 19 f_89) x1 x3 x4 x3 x1 X ret  _ _ _ h hP hD hS (lv_sub hl [0, 1, 3, 4] rfl)
def p_X7_shelf_J64 (F : tF) (A : tA) (K : Int32 → tF → tA → Prop) (x1 : Int32) (x2 : Int32) (x3 : Int32) (s0 : Int32) : Prop := ((¬ x2 = 0 → ((s0 = 0 → (p_X7_shelf_J89 F A K x1 x2 x3 s0 (0 : Int32) x1)) ∧ (¬ s0 = 0 → (p_X7_shelf_J89 F A K x1 x2 x3 s0 (2 : Int32) x1)))) ∧ (x2 = 0 → (p_X7_shelf_J89 F A K x1 x2 x3 s0 (1 : Int32) x1)))
set_option maxHeartbeats 4000000 in
set_option maxRecDepth 100000 in
theorem b_X7_shelf_J64 {p : Program} {l : Launch} {e : Env} {s : State} {m : MethodId} {args : Array Value} {below : List Frame} {meth : Method} {c : Code} {Q : State → Prop} {D : va_G} {cI cZ cR : ClassId} {adK adV : Nat → Nat} {A9 : Nat → Prop} {o : Nat} {q : Nat → Nat} {K : Int32 → tF → tA → Prop}  (F : tF) (A : tA) (x1 : Int32) (x2 : Int32) (x3 : Int32) (s0 : Int32) (X : CX p s m args c yX7_shelf.cls cX7_shelf 5 D cI cZ cR adK adV A9) (ret : RTi p l e (rmN 2 45) s m args below meth c Q cX7_shelf D A9 (fun (r : Int32) (u : (tF × tA)) => K r u.1 u.2) (fun (u : (tF × tA)) => (wX7 cI cZ o q u.1 u.2 : va_W)))  (H : Heap) (locs : List Loc) (ls : Array Slot) (h : p_X7_shelf_J64 F A K x1 x2 x3 s0) (hP : va_P D vwCl (wX7 cI cZ o q F A : va_W) H) (hD : va_D A9 (wX7 cI cZ o q F A : va_W)) (hS : va_S A9 s.heap H locs) (hl : lv_has ls 5 [(0, .ref o), (1, .int x1), (2, .int x2), (3, .int x3)]) : W p l e (rmN 2 45) s m args below meth c H locs 0 0 Q (F0 m 64 ls [.int s0]) := by
  obtain ⟨hx, hb, hml, ht, hown, hK, hA, hE⟩ := id X
  unfold p_X7_shelf_J64 at h
  refine lv_istore (lv' := [(4, .int s0), (0, .ref o), (1, .int x1), (2, .int x2), (3, .int x3)]) hx hb dX7_shelf_64 hl (by decide) rfl (fun ls hl => ?_)
  refine lv_aload_n hx hb dX7_shelf_66 rfl (lv_at hl 1 rfl) ?_
  refine va_get (C := RX7) (T := TX7) (N := 28) (own := RX7) (v := .ref (q 19)) hx hb ht inlX7 hown hK hP 0 rfl rfl 19 (Nat.le_of_ble_eq_true rfl) (ht _ mw_5_18) (fun _ h9 => h9) rfl dX7_shelf_67 ?_
  refine lv_iload_n hx hb dX7_shelf_70 rfl (lv_at hl 2 rfl) ?_
  refine lv_iload_n hx hb dX7_shelf_71 rfl (lv_at hl 3 rfl) ?_
  refine lv_if_ne (tgt := 79) hx hb dX7_shelf_72 (by decide) (fun c72 => ?_) (fun c72 => ?_)
  · replace h := h.1 c72
    refine lv_iload hx hb dX7_shelf_79 (lv_at hl 0 rfl) ?_
    refine lv_if_eq (tgt := 88) hx hb dX7_shelf_81 (by decide) (fun c81 => ?_) (fun c81 => ?_)
    · replace h := h.1 c81
      refine lv_iconst (v := 0) hx hb dX7_shelf_88 (by decide) ?_
      exact b_X7_shelf_J89 F A x1 x2 x3 s0 (0 : Int32) x1 X ret  _ _ _ h hP hD hS (lv_sub hl [1, 2, 3, 4, 0] rfl)
    · replace h := h.2 c81
      refine lv_iconst (v := 2) hx hb dX7_shelf_84 (by decide) ?_
      refine lv_goto (tgt := 89) hx hb dX7_shelf_85 (by decide) ?_
      exact b_X7_shelf_J89 F A x1 x2 x3 s0 (2 : Int32) x1 X ret  _ _ _ h hP hD hS (lv_sub hl [1, 2, 3, 4, 0] rfl)
  · replace h := h.2 c72
    refine lv_iconst (v := 1) hx hb dX7_shelf_75 (by decide) ?_
    refine lv_goto (tgt := 89) hx hb dX7_shelf_76 (by decide) ?_
    exact b_X7_shelf_J89 F A x1 x2 x3 s0 (1 : Int32) x1 X ret  _ _ _ h hP hD hS (lv_sub hl [1, 2, 3, 4, 0] rfl)
def p_X7_shelf_J63 (F : tF) (A : tA) (K : Int32 → tF → tA → Prop) (x1 : Int32) (x2 : Int32) (x3 : Int32) : Prop := (p_X7_shelf_J64 F A K x1 x2 x3 (0 : Int32))
set_option maxHeartbeats 4000000 in
set_option maxRecDepth 100000 in
theorem b_X7_shelf_J63 {p : Program} {l : Launch} {e : Env} {s : State} {m : MethodId} {args : Array Value} {below : List Frame} {meth : Method} {c : Code} {Q : State → Prop} {D : va_G} {cI cZ cR : ClassId} {adK adV : Nat → Nat} {A9 : Nat → Prop} {o : Nat} {q : Nat → Nat} {K : Int32 → tF → tA → Prop}  (F : tF) (A : tA) (x1 : Int32) (x2 : Int32) (x3 : Int32) (X : CX p s m args c yX7_shelf.cls cX7_shelf 5 D cI cZ cR adK adV A9) (ret : RTi p l e (rmN 2 45) s m args below meth c Q cX7_shelf D A9 (fun (r : Int32) (u : (tF × tA)) => K r u.1 u.2) (fun (u : (tF × tA)) => (wX7 cI cZ o q u.1 u.2 : va_W)))  (H : Heap) (locs : List Loc) (ls : Array Slot) (h : p_X7_shelf_J63 F A K x1 x2 x3) (hP : va_P D vwCl (wX7 cI cZ o q F A : va_W) H) (hD : va_D A9 (wX7 cI cZ o q F A : va_W)) (hS : va_S A9 s.heap H locs) (hl : lv_has ls 5 [(0, .ref o), (1, .int x1), (2, .int x2), (3, .int x3)]) : W p l e (rmN 2 45) s m args below meth c H locs 0 0 Q (F0 m 63 ls []) := by
  obtain ⟨hx, hb, hml, ht, hown, hK, hA, hE⟩ := id X
  unfold p_X7_shelf_J63 at h
  refine lv_iconst (v := 0) hx hb dX7_shelf_63 (by decide) ?_
  exact b_X7_shelf_J64 F A x1 x2 x3 (0 : Int32) X ret  _ _ _ h hP hD hS (lv_sub hl [0, 1, 2, 3] rfl)
def p_X7_shelf_J45 (F : tF) (A : tA) (K : Int32 → tF → tA → Prop) (x1 : Int32) (x2 : Int32) (x3 : Int32) : Prop := ((¬ x2 = (1 : Int32) → (p_X7_shelf_J63 F A K x1 x2 x3)) ∧ (x2 = (1 : Int32) → (vp_in x3 4 ∧ ((((A 16) (x3).toNatClampNeg) < 0 → (p_X7_shelf_J63 F A K x1 x2 x3)) ∧ (¬ ((A 16) (x3).toNatClampNeg) < 0 → (p_X7_shelf_J64 F A K x1 x2 x3 (1 : Int32)))))))
set_option maxHeartbeats 4000000 in
set_option maxRecDepth 100000 in
theorem b_X7_shelf_J45 {p : Program} {l : Launch} {e : Env} {s : State} {m : MethodId} {args : Array Value} {below : List Frame} {meth : Method} {c : Code} {Q : State → Prop} {D : va_G} {cI cZ cR : ClassId} {adK adV : Nat → Nat} {A9 : Nat → Prop} {o : Nat} {q : Nat → Nat} {K : Int32 → tF → tA → Prop}  (F : tF) (A : tA) (x1 : Int32) (x2 : Int32) (x3 : Int32) (X : CX p s m args c yX7_shelf.cls cX7_shelf 5 D cI cZ cR adK adV A9) (ret : RTi p l e (rmN 2 45) s m args below meth c Q cX7_shelf D A9 (fun (r : Int32) (u : (tF × tA)) => K r u.1 u.2) (fun (u : (tF × tA)) => (wX7 cI cZ o q u.1 u.2 : va_W)))  (H : Heap) (locs : List Loc) (ls : Array Slot) (h : p_X7_shelf_J45 F A K x1 x2 x3) (hP : va_P D vwCl (wX7 cI cZ o q F A : va_W) H) (hD : va_D A9 (wX7 cI cZ o q F A : va_W)) (hS : va_S A9 s.heap H locs) (hl : lv_has ls 5 [(0, .ref o), (1, .int x1), (2, .int x2), (3, .int x3)]) : W p l e (rmN 2 45) s m args below meth c H locs 0 0 Q (F0 m 45 ls []) := by
  obtain ⟨hx, hb, hml, ht, hown, hK, hA, hE⟩ := id X
  unfold p_X7_shelf_J45 at h
  refine lv_iload_n hx hb dX7_shelf_45 rfl (lv_at hl 2 rfl) ?_
  refine lv_iconst (v := 1) hx hb dX7_shelf_46 (by decide) ?_
  refine lv_icmp_ne (tgt := 63) hx hb dX7_shelf_47 (by decide) (fun c47 => ?_) (fun c47 => ?_)
  · replace h := h.1 c47
    exact b_X7_shelf_J63 F A x1 x2 x3 X ret  _ _ _ h hP hD hS (lv_sub hl [0, 1, 2, 3] rfl)
  · replace h := h.2 c47
    refine lv_aload_n hx hb dX7_shelf_50 rfl (lv_at hl 0 rfl) ?_
    refine va_get (C := RX7) (T := TX7) (N := 28) (own := RX7) (v := .ref (q 16)) hx hb ht inlX7 hown hK hP 0 rfl rfl 16 (Nat.le_of_ble_eq_true rfl) (ht _ mw_5_15) (fun _ h9 => h9) rfl dX7_shelf_51 ?_
    refine lv_iload_n hx hb dX7_shelf_54 rfl (lv_at hl 3 rfl) ?_
    obtain ⟨hi55, h⟩ := h
    refine g_iald (f := (A 16)) (k := (x3).toNatClampNeg) hx hb hK hP 9 0 rfl rfl hi55 rfl dX7_shelf_55 ?_
    refine lv_if_lt (tgt := 63) hx hb dX7_shelf_56 (by decide) (fun c56 => ?_) (fun c56 => ?_)
    · replace h := h.1 c56
      exact b_X7_shelf_J63 F A x1 x2 x3 X ret  _ _ _ h hP hD hS (lv_sub hl [0, 1, 2, 3] rfl)
    · replace h := h.2 c56
      refine lv_iconst (v := 1) hx hb dX7_shelf_59 (by decide) ?_
      refine lv_goto (tgt := 64) hx hb dX7_shelf_60 (by decide) ?_
      exact b_X7_shelf_J64 F A x1 x2 x3 (1 : Int32) X ret  _ _ _ h hP hD hS (lv_sub hl [0, 1, 2, 3] rfl)
def p_X7_shelf_J31 (F : tF) (A : tA) (K : Int32 → tF → tA → Prop) (x1 : Int32) (x2 : Int32) (x3 : Int32) : Prop := ((¬ x2 = (1 : Int32) → (p_X7_shelf_J45 F A K x1 x2 x3)) ∧ (x2 = (1 : Int32) → (p_X7_isSheet x3 (fun r37 => ((¬ r37 = 0 → (p_X7_shelf_J45 F A K x1 x2 x3)) ∧ (r37 = 0 → (K (-1 : Int32) F A)))))))
set_option maxHeartbeats 4000000 in
set_option maxRecDepth 100000 in
theorem b_X7_shelf_J31 {p : Program} {l : Launch} {e : Env} {s : State} {m : MethodId} {args : Array Value} {below : List Frame} {meth : Method} {c : Code} {Q : State → Prop} {D : va_G} {cI cZ cR : ClassId} {adK adV : Nat → Nat} {A9 : Nat → Prop} {o : Nat} {q : Nat → Nat} {K : Int32 → tF → tA → Prop}  (F : tF) (A : tA) (x1 : Int32) (x2 : Int32) (x3 : Int32) (X : CX p s m args c yX7_shelf.cls cX7_shelf 5 D cI cZ cR adK adV A9) (ret : RTi p l e (rmN 2 45) s m args below meth c Q cX7_shelf D A9 (fun (r : Int32) (u : (tF × tA)) => K r u.1 u.2) (fun (u : (tF × tA)) => (wX7 cI cZ o q u.1 u.2 : va_W)))  (H : Heap) (locs : List Loc) (ls : Array Slot) (h : p_X7_shelf_J31 F A K x1 x2 x3) (hP : va_P D vwCl (wX7 cI cZ o q F A : va_W) H) (hD : va_D A9 (wX7 cI cZ o q F A : va_W)) (hS : va_S A9 s.heap H locs) (hl : lv_has ls 5 [(0, .ref o), (1, .int x1), (2, .int x2), (3, .int x3)]) : W p l e (rmN 2 45) s m args below meth c H locs 0 0 Q (F0 m 31 ls []) := by
  obtain ⟨hx, hb, hml, ht, hown, hK, hA, hE⟩ := id X
  unfold p_X7_shelf_J31 at h
  refine lv_iload_n hx hb dX7_shelf_31 rfl (lv_at hl 2 rfl) ?_
  refine lv_iconst (v := 1) hx hb dX7_shelf_32 (by decide) ?_
  refine lv_icmp_ne (tgt := 45) hx hb dX7_shelf_33 (by decide) (fun c33 => ?_) (fun c33 => ?_)
  · replace h := h.1 c33
    exact b_X7_shelf_J45 F A x1 x2 x3 X ret  _ _ _ h hP hD hS (lv_sub hl [0, 1, 2, 3] rfl)
  · replace h := h.2 c33
    refine lv_iload_n hx hb dX7_shelf_36 rfl (lv_at hl 3 rfl) ?_
    refine C_si (wr := [0, 1, 2, 3, 4, 5, 6, 7, 8, 9, 10, 11, 12, 13, 14, 15].filterMap (fun i => (wX7 cI cZ o q F A : va_W)[i]?)) X hP hD hS [.int x3] [] (w_X7_isSheet l D cI cZ cR adK adV _ x3 _ h) cal_X7_isSheet mw_40_9 rfl [] [0, 1, 2, 3, 4, 5, 6, 7, 8, 9, 10, 11, 12, 13, 14, 15] [0, 1, 2, 3, 4, 5, 6, 7, 8, 9, 10, 11, 12, 13, 14, 15] (fun u => (wX7 cI cZ o q F A : va_W)) rfl rfl (fun _ => rfl) rfl ⟨rfl, rfl⟩ ⟨Nat.le_of_ble_eq_true rfl, Nat.le_of_ble_eq_true rfl⟩ hl.1 rfl (Nat.le_of_ble_eq_true rfl) ⟨Nat.zero_le _, Nat.zero_le _⟩ dX7_shelf_37 (fun r37 u H locs h hP hD hS => ?_)
    refine lv_if_ne (tgt := 45) hx hb dX7_shelf_40 (by decide) (fun c40 => ?_) (fun c40 => ?_)
    · replace h := h.1 c40
      exact b_X7_shelf_J45 F A x1 x2 x3 X ret  _ _ _ h hP hD hS (lv_sub hl [0, 1, 2, 3] rfl)
    · replace h := h.2 c40
      refine lv_iconst (v := -1) hx hb dX7_shelf_43 (by decide) ?_
      exact ret _ (F, A) _ _ _ _ dX7_shelf_44 h hP hD hS
def p_X7_shelf (F : tF) (A : tA) (x1 : Int32) (x2 : Int32) (x3 : Int32) (K : Int32 → tF → tA → Prop) : Prop := (p_X7_isShelf x1 (fun r1 => ((r1 = 0 → (K (-1 : Int32) F A)) ∧ (¬ r1 = 0 → (p_X7_isIn ((x2).toInt64) (0 : Int64) (2 : Int64) (fun r13 => ((r13 = 0 → (K (-1 : Int32) F A)) ∧ (¬ r13 = 0 → ((¬ x2 = 0 → (p_X7_shelf_J31 F A K x1 x2 x3)) ∧ (x2 = 0 → (p_X7_isOne F A x3 (fun r25 => ((r25 = 0 → (K (-1 : Int32) F A)) ∧ (¬ r25 = 0 → (p_X7_shelf_J31 F A K x1 x2 x3)))))))))))))))
set_option maxHeartbeats 4000000 in
set_option maxRecDepth 100000 in
theorem w_X7_shelf (l : Launch) (D : va_G) (cI cZ cR : ClassId) (adK adV : Nat → Nat) (sz : Nat) (o : Nat) (q : Nat → Nat) (F : tF) (A : tA) (x1 : Int32) (x2 : Int32) (x3 : Int32) (K : Int32 → tF → tA → Prop) (h : p_X7_shelf F A x1 x2 x3 K) : MI l D cI cZ cR adK adV yX7_shelf cX7_shelf 5 (some .int) (rmN 2 45) [.ref o, .int x1, .int x2, .int x3] (wX7 cI cZ o q F A : va_W) sz (fun (r : Int32) (u : (tF × tA)) => K r u.1 u.2) (fun (u : (tF × tA)) => (wX7 cI cZ o q u.1 u.2 : va_W)) := by
  refine M_i (by decide +kernel) (Nat.le_of_ble_eq_true rfl) ?_
  intro p e s m args below meth c Q A9 ls X ret hP hD hS hl
  obtain ⟨hx, hb, hml, ht, hown, hK, hA, hE⟩ := id X
  have hl : lv_has ls 5 [(0, .ref o), (1, .int x1), (2, .int x2), (3, .int x3)] := hl
  unfold p_X7_shelf at h
  refine lv_iload_n hx hb dX7_shelf_0 rfl (lv_at hl 1 rfl) ?_
  refine C_si (wr := [0, 1, 2, 3, 4, 5, 6, 7, 8, 9, 10, 11, 12, 13, 14, 15].filterMap (fun i => (wX7 cI cZ o q F A : va_W)[i]?)) X hP hD hS [.int x1] [] (w_X7_isShelf l D cI cZ cR adK adV _ x1 _ h) cal_X7_isShelf mw_45_15 rfl [] [0, 1, 2, 3, 4, 5, 6, 7, 8, 9, 10, 11, 12, 13, 14, 15] [0, 1, 2, 3, 4, 5, 6, 7, 8, 9, 10, 11, 12, 13, 14, 15] (fun u => (wX7 cI cZ o q F A : va_W)) rfl rfl (fun _ => rfl) rfl ⟨rfl, rfl⟩ ⟨Nat.le_of_ble_eq_true rfl, Nat.le_of_ble_eq_true rfl⟩ hl.1 rfl (Nat.le_of_ble_eq_true rfl) ⟨Nat.zero_le _, Nat.zero_le _⟩ dX7_shelf_1 (fun r1 u H locs h hP hD hS => ?_)
  refine lv_if_eq (tgt := 43) hx hb dX7_shelf_4 (by decide) (fun c4 => ?_) (fun c4 => ?_)
  · replace h := h.1 c4
    refine lv_iconst (v := -1) hx hb dX7_shelf_43 (by decide) ?_
    exact ret _ (F, A) _ _ _ _ dX7_shelf_44 h hP hD hS
  · replace h := h.2 c4
    refine lv_iload_n hx hb dX7_shelf_7 rfl (lv_at hl 2 rfl) ?_
    refine lv_i2l (v := (x2).toInt64) hx hb dX7_shelf_8 rfl ?_
    refine lv_lconst (v := 0) hx hb dX7_shelf_9 (by decide) ?_
    refine lv_ldc2 (v := 2) hx hb hown (ht _ mw_42_7) dX7_shelf_10 ?_
    refine C_si (wr := [0, 1, 2, 3, 4, 5, 6, 7, 8, 9, 10, 11, 12, 13, 14, 15].filterMap (fun i => (wX7 cI cZ o q F A : va_W)[i]?)) X hP hD hS [.long (x2).toInt64, .long (0 : Int64), .long (2 : Int64)] [] (w_X7_isIn l D cI cZ cR adK adV _ ((x2).toInt64) (0 : Int64) (2 : Int64) _ h) cal_X7_isIn mw_6_19 rfl [] [0, 1, 2, 3, 4, 5, 6, 7, 8, 9, 10, 11, 12, 13, 14, 15] [0, 1, 2, 3, 4, 5, 6, 7, 8, 9, 10, 11, 12, 13, 14, 15] (fun u => (wX7 cI cZ o q F A : va_W)) rfl rfl (fun _ => rfl) rfl ⟨rfl, rfl⟩ ⟨Nat.le_of_ble_eq_true rfl, Nat.le_of_ble_eq_true rfl⟩ hl.1 rfl (Nat.le_of_ble_eq_true rfl) ⟨Nat.zero_le _, Nat.zero_le _⟩ dX7_shelf_13 (fun r13 u H locs h hP hD hS => ?_)
    refine lv_if_eq (tgt := 43) hx hb dX7_shelf_16 (by decide) (fun c16 => ?_) (fun c16 => ?_)
    · replace h := h.1 c16
      refine lv_iconst (v := -1) hx hb dX7_shelf_43 (by decide) ?_
      exact ret _ (F, A) _ _ _ _ dX7_shelf_44 h hP hD hS
    · replace h := h.2 c16
      refine lv_iload_n hx hb dX7_shelf_19 rfl (lv_at hl 2 rfl) ?_
      refine lv_if_ne (tgt := 31) hx hb dX7_shelf_20 (by decide) (fun c20 => ?_) (fun c20 => ?_)
      · replace h := h.1 c20
        exact b_X7_shelf_J31 F A x1 x2 x3 X ret  _ _ _ h hP hD hS (lv_sub hl [0, 1, 2, 3] rfl)
      · replace h := h.2 c20
        refine lv_aload_n hx hb dX7_shelf_23 rfl (lv_at hl 0 rfl) ?_
        refine lv_iload_n hx hb dX7_shelf_24 rfl (lv_at hl 3 rfl) ?_
        refine C_vi (wr := []) X hP hD hS [.int x3] [] (w_X7_isOne l D cI cZ cR adK adV _ o q F A x3 _ h) cal_X7_isOne mw_18_12 rfl [0, 1, 2, 3, 4, 5, 6, 7, 8, 9, 10, 11, 12, 13, 14, 15] [] [0, 1, 2, 3, 4, 5, 6, 7, 8, 9, 10, 11, 12, 13, 14, 15] (fun u => (wX7 cI cZ o q F A : va_W)) rfl rfl (fun _ => rfl) rfl 0 rfl rfl ⟨rfl, rfl⟩ ⟨Nat.le_of_ble_eq_true rfl, Nat.le_of_ble_eq_true rfl⟩ hl.1 rfl (Nat.le_of_ble_eq_true rfl) ⟨Nat.zero_le _, Nat.zero_le _⟩ dX7_shelf_25 (fun r25 u H locs h hP hD hS => ?_)
        refine lv_if_eq (tgt := 43) hx hb dX7_shelf_28 (by decide) (fun c28 => ?_) (fun c28 => ?_)
        · replace h := h.1 c28
          refine lv_iconst (v := -1) hx hb dX7_shelf_43 (by decide) ?_
          exact ret _ (F, A) _ _ _ _ dX7_shelf_44 h hP hD hS
        · replace h := h.2 c28
          exact b_X7_shelf_J31 F A x1 x2 x3 X ret  _ _ _ h hP hD hS (lv_sub hl [0, 1, 2, 3] rfl)
theorem dX7_heldOn_0 : decode cX7_heldOn 0 = .ok (.aload_n 0, 1) := by decide +kernel
theorem dX7_heldOn_1 : decode cX7_heldOn 1 = .ok (.getfield 44, 3) := by decide +kernel
theorem dX7_heldOn_4 : decode cX7_heldOn 4 = .ok (.iload_n 1, 1) := by decide +kernel
theorem dX7_heldOn_5 : decode cX7_heldOn 5 = .ok (.iaload, 1) := by decide +kernel
theorem dX7_heldOn_6 : decode cX7_heldOn 6 = .ok (.iconst 1, 1) := by decide +kernel
theorem dX7_heldOn_7 : decode cX7_heldOn 7 = .ok (.if_icmp .ne 20, 3) := by decide +kernel
theorem dX7_heldOn_10 : decode cX7_heldOn 10 = .ok (.aload_n 0, 1) := by decide +kernel
theorem dX7_heldOn_11 : decode cX7_heldOn 11 = .ok (.aload_n 0, 1) := by decide +kernel
theorem dX7_heldOn_12 : decode cX7_heldOn 12 = .ok (.getfield 47, 3) := by decide +kernel
theorem dX7_heldOn_15 : decode cX7_heldOn 15 = .ok (.iload_n 1, 1) := by decide +kernel
theorem dX7_heldOn_16 : decode cX7_heldOn 16 = .ok (.iaload, 1) := by decide +kernel
theorem dX7_heldOn_17 : decode cX7_heldOn 17 = .ok (.invokevirtual 178, 3) := by decide +kernel
theorem dX7_heldOn_20 : decode cX7_heldOn 20 = .ok (.ifCond .ne 7, 3) := by decide +kernel
theorem dX7_heldOn_23 : decode cX7_heldOn 23 = .ok (.iconst 0, 1) := by decide +kernel
theorem dX7_heldOn_24 : decode cX7_heldOn 24 = .ok (.goto 9, 3) := by decide +kernel
theorem dX7_heldOn_27 : decode cX7_heldOn 27 = .ok (.aload_n 0, 1) := by decide +kernel
theorem dX7_heldOn_28 : decode cX7_heldOn 28 = .ok (.getfield 44, 3) := by decide +kernel
theorem dX7_heldOn_31 : decode cX7_heldOn 31 = .ok (.iload_n 1, 1) := by decide +kernel
theorem dX7_heldOn_32 : decode cX7_heldOn 32 = .ok (.iaload, 1) := by decide +kernel
theorem dX7_heldOn_33 : decode cX7_heldOn 33 = .ok (.ireturn, 1) := by decide +kernel
def p_X7_heldOn_J27 (F : tF) (A : tA) (K : Int32 → Prop) (x1 : Int32) : Prop := (vp_in x1 4 ∧ (K ((A 19) (x1).toNatClampNeg)))
set_option maxHeartbeats 4000000 in
set_option maxRecDepth 100000 in
theorem b_X7_heldOn_J27 {p : Program} {l : Launch} {e : Env} {s : State} {m : MethodId} {args : Array Value} {below : List Frame} {meth : Method} {c : Code} {Q : State → Prop} {D : va_G} {cI cZ cR : ClassId} {adK adV : Nat → Nat} {A9 : Nat → Prop} {o : Nat} {q : Nat → Nat} {K : Int32 → Prop}  (F : tF) (A : tA) (x1 : Int32) (X : CX p s m args c yX7_heldOn.cls cX7_heldOn 2 D cI cZ cR adK adV A9) (ret : RTi p l e (rmN 1 21) s m args below meth c Q cX7_heldOn D A9 (fun (r : Int32) (u : Unit) => K r) (fun (u : Unit) => (wX7 cI cZ o q F A : va_W)))  (H : Heap) (locs : List Loc) (ls : Array Slot) (h : p_X7_heldOn_J27 F A K x1) (hP : va_P D vwCl (wX7 cI cZ o q F A : va_W) H) (hD : va_D A9 (wX7 cI cZ o q F A : va_W)) (hS : va_S A9 s.heap H locs) (hl : lv_has ls 2 [(0, .ref o), (1, .int x1)]) : W p l e (rmN 1 21) s m args below meth c H locs 0 0 Q (F0 m 27 ls []) := by
  obtain ⟨hx, hb, hml, ht, hown, hK, hA, hE⟩ := id X
  unfold p_X7_heldOn_J27 at h
  refine lv_aload_n hx hb dX7_heldOn_27 rfl (lv_at hl 0 rfl) ?_
  refine va_get (C := RX7) (T := TX7) (N := 28) (own := RX7) (v := .ref (q 19)) hx hb ht inlX7 hown hK hP 0 rfl rfl 19 (Nat.le_of_ble_eq_true rfl) (ht _ mw_5_18) (fun _ h9 => h9) rfl dX7_heldOn_28 ?_
  refine lv_iload_n hx hb dX7_heldOn_31 rfl (lv_at hl 1 rfl) ?_
  obtain ⟨hi32, h⟩ := h
  refine g_iald (f := (A 19)) (k := (x1).toNatClampNeg) hx hb hK hP 12 0 rfl rfl hi32 rfl dX7_heldOn_32 ?_
  exact ret _ () _ _ _ _ dX7_heldOn_33 h hP hD hS
def p_X7_heldOn (F : tF) (A : tA) (x1 : Int32) (K : Int32 → Prop) : Prop := (vp_in x1 4 ∧ ((¬ ((A 19) (x1).toNatClampNeg) = (1 : Int32) → (p_X7_heldOn_J27 F A K x1)) ∧ (((A 19) (x1).toNatClampNeg) = (1 : Int32) → (vp_in x1 4 ∧ (p_X7_isOne F A ((A 20) (x1).toNatClampNeg) (fun r17 => ((¬ r17 = 0 → (p_X7_heldOn_J27 F A K x1)) ∧ (r17 = 0 → (K (0 : Int32))))))))))
set_option maxHeartbeats 4000000 in
set_option maxRecDepth 100000 in
theorem w_X7_heldOn (l : Launch) (D : va_G) (cI cZ cR : ClassId) (adK adV : Nat → Nat) (sz : Nat) (o : Nat) (q : Nat → Nat) (F : tF) (A : tA) (x1 : Int32) (K : Int32 → Prop) (h : p_X7_heldOn F A x1 K) : MI l D cI cZ cR adK adV yX7_heldOn cX7_heldOn 2 (some .int) (rmN 1 21) [.ref o, .int x1] (wX7 cI cZ o q F A : va_W) sz (fun (r : Int32) (u : Unit) => K r) (fun (u : Unit) => (wX7 cI cZ o q F A : va_W)) := by
  refine M_i (by decide +kernel) (Nat.le_of_ble_eq_true rfl) ?_
  intro p e s m args below meth c Q A9 ls X ret hP hD hS hl
  obtain ⟨hx, hb, hml, ht, hown, hK, hA, hE⟩ := id X
  have hl : lv_has ls 2 [(0, .ref o), (1, .int x1)] := hl
  unfold p_X7_heldOn at h
  refine lv_aload_n hx hb dX7_heldOn_0 rfl (lv_at hl 0 rfl) ?_
  refine va_get (C := RX7) (T := TX7) (N := 28) (own := RX7) (v := .ref (q 19)) hx hb ht inlX7 hown hK hP 0 rfl rfl 19 (Nat.le_of_ble_eq_true rfl) (ht _ mw_5_18) (fun _ h9 => h9) rfl dX7_heldOn_1 ?_
  refine lv_iload_n hx hb dX7_heldOn_4 rfl (lv_at hl 1 rfl) ?_
  obtain ⟨hi5, h⟩ := h
  refine g_iald (f := (A 19)) (k := (x1).toNatClampNeg) hx hb hK hP 12 0 rfl rfl hi5 rfl dX7_heldOn_5 ?_
  refine lv_iconst (v := 1) hx hb dX7_heldOn_6 (by decide) ?_
  refine lv_icmp_ne (tgt := 27) hx hb dX7_heldOn_7 (by decide) (fun c7 => ?_) (fun c7 => ?_)
  · replace h := h.1 c7
    exact b_X7_heldOn_J27 F A x1 X ret  _ _ _ h hP hD hS (lv_sub hl [0, 1] rfl)
  · replace h := h.2 c7
    refine lv_aload_n hx hb dX7_heldOn_10 rfl (lv_at hl 0 rfl) ?_
    refine lv_aload_n hx hb dX7_heldOn_11 rfl (lv_at hl 0 rfl) ?_
    refine va_get (C := RX7) (T := TX7) (N := 28) (own := RX7) (v := .ref (q 20)) hx hb ht inlX7 hown hK hP 0 rfl rfl 20 (Nat.le_of_ble_eq_true rfl) (ht _ mw_5_19) (fun _ h9 => h9) rfl dX7_heldOn_12 ?_
    refine lv_iload_n hx hb dX7_heldOn_15 rfl (lv_at hl 1 rfl) ?_
    obtain ⟨hi16, h⟩ := h
    refine g_iald (f := (A 20)) (k := (x1).toNatClampNeg) hx hb hK hP 13 0 rfl rfl hi16 rfl dX7_heldOn_16 ?_
    refine C_vi (wr := []) X hP hD hS [.int ((A 20) (x1).toNatClampNeg)] [] (w_X7_isOne l D cI cZ cR adK adV _ o q F A ((A 20) (x1).toNatClampNeg) _ h) cal_X7_isOne mw_18_12 rfl [0, 1, 2, 3, 4, 5, 6, 7, 8, 9, 10, 11, 12, 13, 14, 15] [] [0, 1, 2, 3, 4, 5, 6, 7, 8, 9, 10, 11, 12, 13, 14, 15] (fun u => (wX7 cI cZ o q F A : va_W)) rfl rfl (fun _ => rfl) rfl 0 rfl rfl ⟨rfl, rfl⟩ ⟨Nat.le_of_ble_eq_true rfl, Nat.le_of_ble_eq_true rfl⟩ hl.1 rfl (Nat.le_of_ble_eq_true rfl) ⟨Nat.zero_le _, Nat.zero_le _⟩ dX7_heldOn_17 (fun r17 u H locs h hP hD hS => ?_)
    refine lv_if_ne (tgt := 27) hx hb dX7_heldOn_20 (by decide) (fun c20 => ?_) (fun c20 => ?_)
    · replace h := h.1 c20
      exact b_X7_heldOn_J27 F A x1 X ret  _ _ _ h hP hD hS (lv_sub hl [0, 1] rfl)
    · replace h := h.2 c20
      refine lv_iconst (v := 0) hx hb dX7_heldOn_23 (by decide) ?_
      refine lv_goto (tgt := 33) hx hb dX7_heldOn_24 (by decide) ?_
      exact ret _ () _ _ _ _ dX7_heldOn_33 h hP hD hS
theorem cal_X7_heldOn : CalV yX7_heldOn cX7_heldOn 2 (some .int) 1 := ⟨mw_46_9, mw_1_5, mw_46_7, mw_46_8, ⟨by decide +kernel, by decide +kernel, by decide +kernel⟩⟩
theorem cal_X7_isUnder : CalS yX7_isUnder cX7_isUnder 2 (some .boolean) 2 := ⟨mw_46_12, mw_1_5, mw_46_11, ⟨by decide +kernel, by decide +kernel, by decide +kernel⟩⟩
theorem dX7_taken_0 : decode cX7_taken 0 = .ok (.iload_n 1, 1) := by decide +kernel
theorem dX7_taken_1 : decode cX7_taken 1 = .ok (.invokestatic 296, 3) := by decide +kernel
theorem dX7_taken_4 : decode cX7_taken 4 = .ok (.ifCond .eq 29, 3) := by decide +kernel
theorem dX7_taken_7 : decode cX7_taken 7 = .ok (.iload_n 2, 1) := by decide +kernel
theorem dX7_taken_8 : decode cX7_taken 8 = .ok (.i2l, 1) := by decide +kernel
theorem dX7_taken_9 : decode cX7_taken 9 = .ok (.lconst 0, 1) := by decide +kernel
theorem dX7_taken_10 : decode cX7_taken 10 = .ok (.ldc2_w 299, 3) := by decide +kernel
theorem dX7_taken_13 : decode cX7_taken 13 = .ok (.invokestatic 61, 3) := by decide +kernel
theorem dX7_taken_16 : decode cX7_taken 16 = .ok (.ifCond .eq 17, 3) := by decide +kernel
theorem dX7_taken_19 : decode cX7_taken 19 = .ok (.iload_n 2, 1) := by decide +kernel
theorem dX7_taken_20 : decode cX7_taken 20 = .ok (.i2l, 1) := by decide +kernel
theorem dX7_taken_21 : decode cX7_taken 21 = .ok (.ldc2_w 197, 3) := by decide +kernel
theorem dX7_taken_24 : decode cX7_taken 24 = .ok (.ldc2_w 158, 3) := by decide +kernel
theorem dX7_taken_27 : decode cX7_taken 27 = .ok (.invokestatic 61, 3) := by decide +kernel
theorem dX7_taken_30 : decode cX7_taken 30 = .ok (.ifCond .eq 5, 3) := by decide +kernel
theorem dX7_taken_33 : decode cX7_taken 33 = .ok (.iconst (-1), 1) := by decide +kernel
theorem dX7_taken_34 : decode cX7_taken 34 = .ok (.ireturn, 1) := by decide +kernel
theorem dX7_taken_35 : decode cX7_taken 35 = .ok (.aload_n 0, 1) := by decide +kernel
theorem dX7_taken_36 : decode cX7_taken 36 = .ok (.iload_n 1, 1) := by decide +kernel
theorem dX7_taken_37 : decode cX7_taken 37 = .ok (.invokevirtual 301, 3) := by decide +kernel
theorem dX7_taken_40 : decode cX7_taken 40 = .ok (.istore_n 3, 1) := by decide +kernel
theorem dX7_taken_41 : decode cX7_taken 41 = .ok (.iload_n 3, 1) := by decide +kernel
theorem dX7_taken_42 : decode cX7_taken 42 = .ok (.ifCond .ne 6, 3) := by decide +kernel
theorem dX7_taken_45 : decode cX7_taken 45 = .ok (.bipush (-11), 2) := by decide +kernel
theorem dX7_taken_47 : decode cX7_taken 47 = .ok (.ireturn, 1) := by decide +kernel
theorem dX7_taken_48 : decode cX7_taken 48 = .ok (.iload_n 2, 1) := by decide +kernel
theorem dX7_taken_49 : decode cX7_taken 49 = .ok (.bipush 10, 2) := by decide +kernel
theorem dX7_taken_51 : decode cX7_taken 51 = .ok (.if_icmp .ge 38, 3) := by decide +kernel
theorem dX7_taken_54 : decode cX7_taken 54 = .ok (.iload_n 3, 1) := by decide +kernel
theorem dX7_taken_55 : decode cX7_taken 55 = .ok (.iconst 1, 1) := by decide +kernel
theorem dX7_taken_56 : decode cX7_taken 56 = .ok (.if_icmp .ne 30, 3) := by decide +kernel
theorem dX7_taken_59 : decode cX7_taken 59 = .ok (.aload_n 0, 1) := by decide +kernel
theorem dX7_taken_60 : decode cX7_taken 60 = .ok (.aload_n 0, 1) := by decide +kernel
theorem dX7_taken_61 : decode cX7_taken 61 = .ok (.getfield 47, 3) := by decide +kernel
theorem dX7_taken_64 : decode cX7_taken 64 = .ok (.iload_n 1, 1) := by decide +kernel
theorem dX7_taken_65 : decode cX7_taken 65 = .ok (.iaload, 1) := by decide +kernel
theorem dX7_taken_66 : decode cX7_taken 66 = .ok (.iconst 0, 1) := by decide +kernel
theorem dX7_taken_67 : decode cX7_taken 67 = .ok (.invokevirtual 169, 3) := by decide +kernel
theorem dX7_taken_70 : decode cX7_taken 70 = .ok (.iload_n 2, 1) := by decide +kernel
theorem dX7_taken_71 : decode cX7_taken 71 = .ok (.invokestatic 304, 3) := by decide +kernel
theorem dX7_taken_74 : decode cX7_taken 74 = .ok (.ifCond .eq 12, 3) := by decide +kernel
theorem dX7_taken_77 : decode cX7_taken 77 = .ok (.aload_n 0, 1) := by decide +kernel
theorem dX7_taken_78 : decode cX7_taken 78 = .ok (.getfield 47, 3) := by decide +kernel
theorem dX7_taken_81 : decode cX7_taken 81 = .ok (.iload_n 1, 1) := by decide +kernel
theorem dX7_taken_82 : decode cX7_taken 82 = .ok (.iaload, 1) := by decide +kernel
theorem dX7_taken_83 : decode cX7_taken 83 = .ok (.goto 5, 3) := by decide +kernel
theorem dX7_taken_86 : decode cX7_taken 86 = .ok (.bipush (-13), 2) := by decide +kernel
theorem dX7_taken_88 : decode cX7_taken 88 = .ok (.ireturn, 1) := by decide +kernel
theorem dX7_taken_89 : decode cX7_taken 89 = .ok (.iload_n 3, 1) := by decide +kernel
theorem dX7_taken_90 : decode cX7_taken 90 = .ok (.iconst 2, 1) := by decide +kernel
theorem dX7_taken_91 : decode cX7_taken 91 = .ok (.if_icmp .ne 25, 3) := by decide +kernel
theorem dX7_taken_94 : decode cX7_taken 94 = .ok (.aload_n 0, 1) := by decide +kernel
theorem dX7_taken_95 : decode cX7_taken 95 = .ok (.getfield 47, 3) := by decide +kernel
theorem dX7_taken_98 : decode cX7_taken 98 = .ok (.iload_n 1, 1) := by decide +kernel
theorem dX7_taken_99 : decode cX7_taken 99 = .ok (.iaload, 1) := by decide +kernel
theorem dX7_taken_100 : decode cX7_taken 100 = .ok (.iload_n 2, 1) := by decide +kernel
theorem dX7_taken_101 : decode cX7_taken 101 = .ok (.bipush 10, 2) := by decide +kernel
theorem dX7_taken_103 : decode cX7_taken 103 = .ok (.isub, 1) := by decide +kernel
theorem dX7_taken_104 : decode cX7_taken 104 = .ok (.if_icmp .ne 12, 3) := by decide +kernel
theorem dX7_taken_107 : decode cX7_taken 107 = .ok (.aload_n 0, 1) := by decide +kernel
theorem dX7_taken_108 : decode cX7_taken 108 = .ok (.getfield 50, 3) := by decide +kernel
theorem dX7_taken_111 : decode cX7_taken 111 = .ok (.iload_n 1, 1) := by decide +kernel
theorem dX7_taken_112 : decode cX7_taken 112 = .ok (.iaload, 1) := by decide +kernel
theorem dX7_taken_113 : decode cX7_taken 113 = .ok (.goto 5, 3) := by decide +kernel
theorem dX7_taken_116 : decode cX7_taken 116 = .ok (.bipush (-13), 2) := by decide +kernel
theorem dX7_taken_118 : decode cX7_taken 118 = .ok (.ireturn, 1) := by decide +kernel
def p_X7_taken (F : tF) (A : tA) (x1 : Int32) (x2 : Int32) (K : Int32 → Prop) : Prop := (p_X7_isShelf x1 (fun r1 => ((r1 = 0 → (K (-1 : Int32))) ∧ (¬ r1 = 0 → (p_X7_isIn ((x2).toInt64) (0 : Int64) (13 : Int64) (fun r13 => ((r13 = 0 → (K (-1 : Int32))) ∧ (¬ r13 = 0 → (p_X7_isIn ((x2).toInt64) (6 : Int64) (9 : Int64) (fun r27 => ((r27 = 0 → (p_X7_heldOn F A x1 (fun r37 => ((¬ r37 = 0 → (((10 : Int32) ≤ x2 → ((¬ r37 = (2 : Int32) → (K (-13 : Int32))) ∧ (r37 = (2 : Int32) → (vp_in x1 4 ∧ ((¬ ((A 20) (x1).toNatClampNeg) = (x2 - (10 : Int32)) → (K (-13 : Int32))) ∧ (((A 20) (x1).toNatClampNeg) = (x2 - (10 : Int32)) → (vp_in x1 4 ∧ (K ((A 21) (x1).toNatClampNeg))))))))) ∧ (¬ (10 : Int32) ≤ x2 → ((¬ r37 = (1 : Int32) → (K (-13 : Int32))) ∧ (r37 = (1 : Int32) → (vp_in x1 4 ∧ (p_X7_its F A ((A 20) (x1).toNatClampNeg) (0 : Int32) (fun r67 => (p_X7_isUnder r67 x2 (fun r71 => ((r71 = 0 → (K (-13 : Int32))) ∧ (¬ r71 = 0 → (vp_in x1 4 ∧ (K ((A 20) (x1).toNatClampNeg))))))))))))))) ∧ (r37 = 0 → (K (-11 : Int32))))))) ∧ (¬ r27 = 0 → (K (-1 : Int32))))))))))))))
set_option maxHeartbeats 4000000 in
set_option maxRecDepth 100000 in
theorem w_X7_taken (l : Launch) (D : va_G) (cI cZ cR : ClassId) (adK adV : Nat → Nat) (sz : Nat) (o : Nat) (q : Nat → Nat) (F : tF) (A : tA) (x1 : Int32) (x2 : Int32) (K : Int32 → Prop) (h : p_X7_taken F A x1 x2 K) : MI l D cI cZ cR adK adV yX7_taken cX7_taken 4 (some .int) (rmN 2 45) [.ref o, .int x1, .int x2] (wX7 cI cZ o q F A : va_W) sz (fun (r : Int32) (u : Unit) => K r) (fun (u : Unit) => (wX7 cI cZ o q F A : va_W)) := by
  refine M_i (by decide +kernel) (Nat.le_of_ble_eq_true rfl) ?_
  intro p e s m args below meth c Q A9 ls X ret hP hD hS hl
  obtain ⟨hx, hb, hml, ht, hown, hK, hA, hE⟩ := id X
  have hl : lv_has ls 4 [(0, .ref o), (1, .int x1), (2, .int x2)] := hl
  unfold p_X7_taken at h
  refine lv_iload_n hx hb dX7_taken_0 rfl (lv_at hl 1 rfl) ?_
  refine C_si (wr := [0, 1, 2, 3, 4, 5, 6, 7, 8, 9, 10, 11, 12, 13, 14, 15].filterMap (fun i => (wX7 cI cZ o q F A : va_W)[i]?)) X hP hD hS [.int x1] [] (w_X7_isShelf l D cI cZ cR adK adV _ x1 _ h) cal_X7_isShelf mw_45_15 rfl [] [0, 1, 2, 3, 4, 5, 6, 7, 8, 9, 10, 11, 12, 13, 14, 15] [0, 1, 2, 3, 4, 5, 6, 7, 8, 9, 10, 11, 12, 13, 14, 15] (fun u => (wX7 cI cZ o q F A : va_W)) rfl rfl (fun _ => rfl) rfl ⟨rfl, rfl⟩ ⟨Nat.le_of_ble_eq_true rfl, Nat.le_of_ble_eq_true rfl⟩ hl.1 rfl (Nat.le_of_ble_eq_true rfl) ⟨Nat.zero_le _, Nat.zero_le _⟩ dX7_taken_1 (fun r1 u H locs h hP hD hS => ?_)
  refine lv_if_eq (tgt := 33) hx hb dX7_taken_4 (by decide) (fun c4 => ?_) (fun c4 => ?_)
  · replace h := h.1 c4
    refine lv_iconst (v := -1) hx hb dX7_taken_33 (by decide) ?_
    exact ret _ () _ _ _ _ dX7_taken_34 h hP hD hS
  · replace h := h.2 c4
    refine lv_iload_n hx hb dX7_taken_7 rfl (lv_at hl 2 rfl) ?_
    refine lv_i2l (v := (x2).toInt64) hx hb dX7_taken_8 rfl ?_
    refine lv_lconst (v := 0) hx hb dX7_taken_9 (by decide) ?_
    refine lv_ldc2 (v := 13) hx hb hown (ht _ mw_46_5) dX7_taken_10 ?_
    refine C_si (wr := [0, 1, 2, 3, 4, 5, 6, 7, 8, 9, 10, 11, 12, 13, 14, 15].filterMap (fun i => (wX7 cI cZ o q F A : va_W)[i]?)) X hP hD hS [.long (x2).toInt64, .long (0 : Int64), .long (13 : Int64)] [] (w_X7_isIn l D cI cZ cR adK adV _ ((x2).toInt64) (0 : Int64) (13 : Int64) _ h) cal_X7_isIn mw_6_19 rfl [] [0, 1, 2, 3, 4, 5, 6, 7, 8, 9, 10, 11, 12, 13, 14, 15] [0, 1, 2, 3, 4, 5, 6, 7, 8, 9, 10, 11, 12, 13, 14, 15] (fun u => (wX7 cI cZ o q F A : va_W)) rfl rfl (fun _ => rfl) rfl ⟨rfl, rfl⟩ ⟨Nat.le_of_ble_eq_true rfl, Nat.le_of_ble_eq_true rfl⟩ hl.1 rfl (Nat.le_of_ble_eq_true rfl) ⟨Nat.zero_le _, Nat.zero_le _⟩ dX7_taken_13 (fun r13 u H locs h hP hD hS => ?_)
    refine lv_if_eq (tgt := 33) hx hb dX7_taken_16 (by decide) (fun c16 => ?_) (fun c16 => ?_)
    · replace h := h.1 c16
      refine lv_iconst (v := -1) hx hb dX7_taken_33 (by decide) ?_
      exact ret _ () _ _ _ _ dX7_taken_34 h hP hD hS
    · replace h := h.2 c16
      refine lv_iload_n hx hb dX7_taken_19 rfl (lv_at hl 2 rfl) ?_
      refine lv_i2l (v := (x2).toInt64) hx hb dX7_taken_20 rfl ?_
      refine lv_ldc2 (v := 6) hx hb hown (ht _ mw_23_23) dX7_taken_21 ?_
      refine lv_ldc2 (v := 9) hx hb hown (ht _ mw_15_19) dX7_taken_24 ?_
      refine C_si (wr := [0, 1, 2, 3, 4, 5, 6, 7, 8, 9, 10, 11, 12, 13, 14, 15].filterMap (fun i => (wX7 cI cZ o q F A : va_W)[i]?)) X hP hD hS [.long (x2).toInt64, .long (6 : Int64), .long (9 : Int64)] [] (w_X7_isIn l D cI cZ cR adK adV _ ((x2).toInt64) (6 : Int64) (9 : Int64) _ h) cal_X7_isIn mw_6_19 rfl [] [0, 1, 2, 3, 4, 5, 6, 7, 8, 9, 10, 11, 12, 13, 14, 15] [0, 1, 2, 3, 4, 5, 6, 7, 8, 9, 10, 11, 12, 13, 14, 15] (fun u => (wX7 cI cZ o q F A : va_W)) rfl rfl (fun _ => rfl) rfl ⟨rfl, rfl⟩ ⟨Nat.le_of_ble_eq_true rfl, Nat.le_of_ble_eq_true rfl⟩ hl.1 rfl (Nat.le_of_ble_eq_true rfl) ⟨Nat.zero_le _, Nat.zero_le _⟩ dX7_taken_27 (fun r27 u H locs h hP hD hS => ?_)
      refine lv_if_eq (tgt := 35) hx hb dX7_taken_30 (by decide) (fun c30 => ?_) (fun c30 => ?_)
      · replace h := h.1 c30
        refine lv_aload_n hx hb dX7_taken_35 rfl (lv_at hl 0 rfl) ?_
        refine lv_iload_n hx hb dX7_taken_36 rfl (lv_at hl 1 rfl) ?_
        refine C_vi (wr := []) X hP hD hS [.int x1] [] (w_X7_heldOn l D cI cZ cR adK adV _ o q F A x1 _ h) cal_X7_heldOn mw_46_6 rfl [0, 1, 2, 3, 4, 5, 6, 7, 8, 9, 10, 11, 12, 13, 14, 15] [] [0, 1, 2, 3, 4, 5, 6, 7, 8, 9, 10, 11, 12, 13, 14, 15] (fun u => (wX7 cI cZ o q F A : va_W)) rfl rfl (fun _ => rfl) rfl 0 rfl rfl ⟨rfl, rfl⟩ ⟨Nat.le_of_ble_eq_true rfl, Nat.le_of_ble_eq_true rfl⟩ hl.1 rfl (Nat.le_of_ble_eq_true rfl) ⟨Nat.zero_le _, Nat.zero_le _⟩ dX7_taken_37 (fun r37 u H locs h hP hD hS => ?_)
        refine lv_istore_n (lv' := [(3, .int r37), (0, .ref o), (1, .int x1), (2, .int x2)]) hx hb dX7_taken_40 rfl hl (by decide) rfl (fun ls hl => ?_)
        refine lv_iload_n hx hb dX7_taken_41 rfl (lv_at hl 0 rfl) ?_
        refine lv_if_ne (tgt := 48) hx hb dX7_taken_42 (by decide) (fun c42 => ?_) (fun c42 => ?_)
        · replace h := h.1 c42
          refine lv_iload_n hx hb dX7_taken_48 rfl (lv_at hl 3 rfl) ?_
          refine lv_bipush (v := 10) hx hb dX7_taken_49 (by decide) ?_
          refine lv_icmp_ge (tgt := 89) hx hb dX7_taken_51 (by decide) (fun c51 => ?_) (fun c51 => ?_)
          · replace h := h.1 c51
            refine lv_iload_n hx hb dX7_taken_89 rfl (lv_at hl 0 rfl) ?_
            refine lv_iconst (v := 2) hx hb dX7_taken_90 (by decide) ?_
            refine lv_icmp_ne (tgt := 116) hx hb dX7_taken_91 (by decide) (fun c91 => ?_) (fun c91 => ?_)
            · replace h := h.1 c91
              refine lv_bipush (v := -13) hx hb dX7_taken_116 (by decide) ?_
              exact ret _ () _ _ _ _ dX7_taken_118 h hP hD hS
            · replace h := h.2 c91
              refine lv_aload_n hx hb dX7_taken_94 rfl (lv_at hl 1 rfl) ?_
              refine va_get (C := RX7) (T := TX7) (N := 28) (own := RX7) (v := .ref (q 20)) hx hb ht inlX7 hown hK hP 0 rfl rfl 20 (Nat.le_of_ble_eq_true rfl) (ht _ mw_5_19) (fun _ h9 => h9) rfl dX7_taken_95 ?_
              refine lv_iload_n hx hb dX7_taken_98 rfl (lv_at hl 2 rfl) ?_
              obtain ⟨hi99, h⟩ := h
              refine g_iald (f := (A 20)) (k := (x1).toNatClampNeg) hx hb hK hP 13 0 rfl rfl hi99 rfl dX7_taken_99 ?_
              refine lv_iload_n hx hb dX7_taken_100 rfl (lv_at hl 3 rfl) ?_
              refine lv_bipush (v := 10) hx hb dX7_taken_101 (by decide) ?_
              refine lv_isub hx hb dX7_taken_103 ?_
              refine lv_icmp_ne (tgt := 116) hx hb dX7_taken_104 (by decide) (fun c104 => ?_) (fun c104 => ?_)
              · replace h := h.1 c104
                refine lv_bipush (v := -13) hx hb dX7_taken_116 (by decide) ?_
                exact ret _ () _ _ _ _ dX7_taken_118 h hP hD hS
              · replace h := h.2 c104
                refine lv_aload_n hx hb dX7_taken_107 rfl (lv_at hl 1 rfl) ?_
                refine va_get (C := RX7) (T := TX7) (N := 28) (own := RX7) (v := .ref (q 21)) hx hb ht inlX7 hown hK hP 0 rfl rfl 21 (Nat.le_of_ble_eq_true rfl) (ht _ mw_5_20) (fun _ h9 => h9) rfl dX7_taken_108 ?_
                refine lv_iload_n hx hb dX7_taken_111 rfl (lv_at hl 2 rfl) ?_
                obtain ⟨hi112, h⟩ := h
                refine g_iald (f := (A 21)) (k := (x1).toNatClampNeg) hx hb hK hP 14 0 rfl rfl hi112 rfl dX7_taken_112 ?_
                refine lv_goto (tgt := 118) hx hb dX7_taken_113 (by decide) ?_
                exact ret _ () _ _ _ _ dX7_taken_118 h hP hD hS
          · replace h := h.2 c51
            refine lv_iload_n hx hb dX7_taken_54 rfl (lv_at hl 0 rfl) ?_
            refine lv_iconst (v := 1) hx hb dX7_taken_55 (by decide) ?_
            refine lv_icmp_ne (tgt := 86) hx hb dX7_taken_56 (by decide) (fun c56 => ?_) (fun c56 => ?_)
            · replace h := h.1 c56
              refine lv_bipush (v := -13) hx hb dX7_taken_86 (by decide) ?_
              exact ret _ () _ _ _ _ dX7_taken_88 h hP hD hS
            · replace h := h.2 c56
              refine lv_aload_n hx hb dX7_taken_59 rfl (lv_at hl 1 rfl) ?_
              refine lv_aload_n hx hb dX7_taken_60 rfl (lv_at hl 1 rfl) ?_
              refine va_get (C := RX7) (T := TX7) (N := 28) (own := RX7) (v := .ref (q 20)) hx hb ht inlX7 hown hK hP 0 rfl rfl 20 (Nat.le_of_ble_eq_true rfl) (ht _ mw_5_19) (fun _ h9 => h9) rfl dX7_taken_61 ?_
              refine lv_iload_n hx hb dX7_taken_64 rfl (lv_at hl 2 rfl) ?_
              obtain ⟨hi65, h⟩ := h
              refine g_iald (f := (A 20)) (k := (x1).toNatClampNeg) hx hb hK hP 13 0 rfl rfl hi65 rfl dX7_taken_65 ?_
              refine lv_iconst (v := 0) hx hb dX7_taken_66 (by decide) ?_
              refine C_vi (wr := []) X hP hD hS [.int ((A 20) (x1).toNatClampNeg), .int (0 : Int32)] [] (w_X7_its l D cI cZ cR adK adV _ o q F A ((A 20) (x1).toNatClampNeg) (0 : Int32) _ h) cal_X7_its mw_18_16 rfl [0, 1, 2, 3, 4, 5, 6, 7, 8, 9, 10, 11, 12, 13, 14, 15] [] [0, 1, 2, 3, 4, 5, 6, 7, 8, 9, 10, 11, 12, 13, 14, 15] (fun u => (wX7 cI cZ o q F A : va_W)) rfl rfl (fun _ => rfl) rfl 0 rfl rfl ⟨rfl, rfl⟩ ⟨Nat.le_of_ble_eq_true rfl, Nat.le_of_ble_eq_true rfl⟩ hl.1 rfl (Nat.le_of_ble_eq_true rfl) ⟨Nat.zero_le _, Nat.zero_le _⟩ dX7_taken_67 (fun r67 u H locs h hP hD hS => ?_)
              refine lv_iload_n hx hb dX7_taken_70 rfl (lv_at hl 3 rfl) ?_
              refine C_si (wr := [0, 1, 2, 3, 4, 5, 6, 7, 8, 9, 10, 11, 12, 13, 14, 15].filterMap (fun i => (wX7 cI cZ o q F A : va_W)[i]?)) X hP hD hS [.int r67, .int x2] [] (w_X7_isUnder l D cI cZ cR adK adV _ r67 x2 _ h) cal_X7_isUnder mw_46_10 rfl [] [0, 1, 2, 3, 4, 5, 6, 7, 8, 9, 10, 11, 12, 13, 14, 15] [0, 1, 2, 3, 4, 5, 6, 7, 8, 9, 10, 11, 12, 13, 14, 15] (fun u => (wX7 cI cZ o q F A : va_W)) rfl rfl (fun _ => rfl) rfl ⟨rfl, rfl⟩ ⟨Nat.le_of_ble_eq_true rfl, Nat.le_of_ble_eq_true rfl⟩ hl.1 rfl (Nat.le_of_ble_eq_true rfl) ⟨Nat.zero_le _, Nat.zero_le _⟩ dX7_taken_71 (fun r71 u H locs h hP hD hS => ?_)
              refine lv_if_eq (tgt := 86) hx hb dX7_taken_74 (by decide) (fun c74 => ?_) (fun c74 => ?_)
              · replace h := h.1 c74
                refine lv_bipush (v := -13) hx hb dX7_taken_86 (by decide) ?_
                exact ret _ () _ _ _ _ dX7_taken_88 h hP hD hS
              · replace h := h.2 c74
                refine lv_aload_n hx hb dX7_taken_77 rfl (lv_at hl 1 rfl) ?_
                refine va_get (C := RX7) (T := TX7) (N := 28) (own := RX7) (v := .ref (q 20)) hx hb ht inlX7 hown hK hP 0 rfl rfl 20 (Nat.le_of_ble_eq_true rfl) (ht _ mw_5_19) (fun _ h9 => h9) rfl dX7_taken_78 ?_
                refine lv_iload_n hx hb dX7_taken_81 rfl (lv_at hl 2 rfl) ?_
                obtain ⟨hi82, h⟩ := h
                refine g_iald (f := (A 20)) (k := (x1).toNatClampNeg) hx hb hK hP 13 0 rfl rfl hi82 rfl dX7_taken_82 ?_
                refine lv_goto (tgt := 88) hx hb dX7_taken_83 (by decide) ?_
                exact ret _ () _ _ _ _ dX7_taken_88 h hP hD hS
        · replace h := h.2 c42
          refine lv_bipush (v := -11) hx hb dX7_taken_45 (by decide) ?_
          exact ret _ () _ _ _ _ dX7_taken_47 h hP hD hS
      · replace h := h.2 c30
        refine lv_iconst (v := -1) hx hb dX7_taken_33 (by decide) ?_
        exact ret _ () _ _ _ _ dX7_taken_34 h hP hD hS
theorem dX7_runs_0 : decode cX7_runs 0 = .ok (.aload_n 0, 1) := by decide +kernel
theorem dX7_runs_1 : decode cX7_runs 1 = .ok (.getfield 307, 3) := by decide +kernel
theorem dX7_runs_4 : decode cX7_runs 4 = .ok (.bipush 30, 2) := by decide +kernel
theorem dX7_runs_6 : decode cX7_runs 6 = .ok (.if_icmp .ge 23, 3) := by decide +kernel
theorem dX7_runs_9 : decode cX7_runs 9 = .ok (.aload_n 0, 1) := by decide +kernel
theorem dX7_runs_10 : decode cX7_runs 10 = .ok (.getfield 53, 3) := by decide +kernel
theorem dX7_runs_13 : decode cX7_runs 13 = .ok (.aload_n 0, 1) := by decide +kernel
theorem dX7_runs_14 : decode cX7_runs 14 = .ok (.getfield 307, 3) := by decide +kernel
theorem dX7_runs_17 : decode cX7_runs 17 = .ok (.iload_n 1, 1) := by decide +kernel
theorem dX7_runs_18 : decode cX7_runs 18 = .ok (.iastore, 1) := by decide +kernel
theorem dX7_runs_19 : decode cX7_runs 19 = .ok (.aload_n 0, 1) := by decide +kernel
theorem dX7_runs_20 : decode cX7_runs 20 = .ok (.dup, 1) := by decide +kernel
theorem dX7_runs_21 : decode cX7_runs 21 = .ok (.getfield 307, 3) := by decide +kernel
theorem dX7_runs_24 : decode cX7_runs 24 = .ok (.iconst 1, 1) := by decide +kernel
theorem dX7_runs_25 : decode cX7_runs 25 = .ok (.iadd, 1) := by decide +kernel
theorem dX7_runs_26 : decode cX7_runs 26 = .ok (.putfield 307, 3) := by decide +kernel
theorem dX7_runs_29 : decode cX7_runs 29 = .ok (.return_, 1) := by decide +kernel
def p_X7_runs (F : tF) (A : tA) (x1 : Int32) (K : tF → tA → Prop) : Prop := (((30 : Int32) ≤ (F 23) → (K F A)) ∧ (¬ (30 : Int32) ≤ (F 23) → (vp_in (F 23) 30 ∧ (∀ f_18 : tF, f_18 = (upd (A 22) ((F 23)).toNatClampNeg x1) → (∀ y26 : Int32, y26 = ((F 23) + (1 : Int32)) → (K (upd F 23 y26) (va_up A 22 f_18)))))))
set_option maxHeartbeats 4000000 in
set_option maxRecDepth 100000 in
theorem w_X7_runs (l : Launch) (D : va_G) (cI cZ cR : ClassId) (adK adV : Nat → Nat) (sz : Nat) (o : Nat) (q : Nat → Nat) (F : tF) (A : tA) (x1 : Int32) (K : tF → tA → Prop) (h : p_X7_runs F A x1 K) : MV l D cI cZ cR adK adV yX7_runs cX7_runs 2 none (rmN 0 0) [.ref o, .int x1] (wX7 cI cZ o q F A : va_W) sz (fun (u : (tF × tA)) => K u.1 u.2) (fun (u : (tF × tA)) => (wX7 cI cZ o q u.1 u.2 : va_W)) := by
  refine M_v (by decide +kernel) (Nat.le_of_ble_eq_true rfl) ?_
  intro p e s m args below meth c Q A9 ls X ret hP hD hS hl
  obtain ⟨hx, hb, hml, ht, hown, hK, hA, hE⟩ := id X
  have hl : lv_has ls 2 [(0, .ref o), (1, .int x1)] := hl
  unfold p_X7_runs at h
  refine lv_aload_n hx hb dX7_runs_0 rfl (lv_at hl 0 rfl) ?_
  refine va_get (C := RX7) (T := TX7) (N := 28) (own := RX7) (v := .int (F 23)) hx hb ht inlX7 hown hK hP 0 rfl rfl 23 (Nat.le_of_ble_eq_true rfl) (ht _ mw_48_9) (fun _ h9 => h9) rfl dX7_runs_1 ?_
  refine lv_bipush (v := 30) hx hb dX7_runs_4 (by decide) ?_
  refine lv_icmp_ge (tgt := 29) hx hb dX7_runs_6 (by decide) (fun c6 => ?_) (fun c6 => ?_)
  · replace h := h.1 c6
    exact ret (F, A) _ _ _ _ dX7_runs_29 h hP hD hS
  · replace h := h.2 c6
    refine lv_aload_n hx hb dX7_runs_9 rfl (lv_at hl 0 rfl) ?_
    refine va_get (C := RX7) (T := TX7) (N := 28) (own := RX7) (v := .ref (q 22)) hx hb ht inlX7 hown hK hP 0 rfl rfl 22 (Nat.le_of_ble_eq_true rfl) (ht _ mw_5_21) (fun _ h9 => h9) rfl dX7_runs_10 ?_
    refine lv_aload_n hx hb dX7_runs_13 rfl (lv_at hl 0 rfl) ?_
    refine va_get (C := RX7) (T := TX7) (N := 28) (own := RX7) (v := .int (F 23)) hx hb ht inlX7 hown hK hP 0 rfl rfl 23 (Nat.le_of_ble_eq_true rfl) (ht _ mw_48_9) (fun _ h9 => h9) rfl dX7_runs_14 ?_
    refine lv_iload_n hx hb dX7_runs_17 rfl (lv_at hl 1 rfl) ?_
    obtain ⟨hi18, h⟩ := h
    obtain ⟨f_18, ef_18⟩ : ∃ z : tF, z = (upd (A 22) ((F 23)).toNatClampNeg x1) := ⟨_, rfl⟩
    replace h := h f_18 ef_18
    refine g_iast (f := (A 22)) (k := ((F 23)).toNatClampNeg) hx hb hK hP hD hS 15 0 rfl rfl hi18 rfl ef_18 dX7_runs_18 (fun H locs hP hD hS => ?_)
    have hP : va_P D vwCl (wX7 cI cZ o q F (va_up A 22 f_18) : va_W) H := hP
    have hD : va_D A9 (wX7 cI cZ o q F (va_up A 22 f_18) : va_W) := hD
    refine lv_aload_n hx hb dX7_runs_19 rfl (lv_at hl 0 rfl) ?_
    refine lv_dup hx hb dX7_runs_20 rfl ?_
    refine va_get (C := RX7) (T := TX7) (N := 28) (own := RX7) (v := .int (F 23)) hx hb ht inlX7 hown hK hP 0 rfl rfl 23 (Nat.le_of_ble_eq_true rfl) (ht _ mw_48_9) (fun _ h9 => h9) rfl dX7_runs_21 ?_
    refine lv_iconst (v := 1) hx hb dX7_runs_24 (by decide) ?_
    refine lv_iadd hx hb dX7_runs_25 ?_
    refine lv_topi (fun y26 ey26 => ?_)
    replace h := h y26 ey26
    refine va_put (C := RX7) (T := TX7) (N := 28) (own := RX7) (v := .int y26) hx hb ht inlX7 tyX7 tyX7_ok nmX7 hown hK hP hD hS 0 rfl rfl 23 (Nat.le_of_ble_eq_true rfl) (ht _ mw_48_9) (fun _ h9 => h9) rfl (tyX7_ok 23 (Nat.le_of_ble_eq_true rfl)) rfl rfl (Nat.le_of_ble_eq_true rfl) dX7_runs_26 (fun H locs hP hD hS => ?_)
    have hP : va_P D vwCl (wX7 cI cZ o q (upd F 23 y26) (va_up A 22 f_18) : va_W) H := hP
    have hD : va_D A9 (wX7 cI cZ o q (upd F 23 y26) (va_up A 22 f_18) : va_W) := hD
    exact ret ((upd F 23 y26), (va_up A 22 f_18)) _ _ _ _ dX7_runs_29 h hP hD hS
theorem cal_X7_runs : CalV yX7_runs cX7_runs 2 none 1 := ⟨mw_49_1, mw_1_5, mw_48_23, mw_49_0, ⟨by decide +kernel, by decide +kernel, by decide +kernel⟩⟩
theorem dX7_asksPlain_0 : decode cX7_asksPlain 0 = .ok (.aload_n 0, 1) := by decide +kernel
theorem dX7_asksPlain_1 : decode cX7_asksPlain 1 = .ok (.bipush 10, 2) := by decide +kernel
theorem dX7_asksPlain_3 : decode cX7_asksPlain 3 = .ok (.invokevirtual 310, 3) := by decide +kernel
theorem dX7_asksPlain_6 : decode cX7_asksPlain 6 = .ok (.iload_n 1, 1) := by decide +kernel
theorem dX7_asksPlain_7 : decode cX7_asksPlain 7 = .ok (.iconst 2, 1) := by decide +kernel
theorem dX7_asksPlain_8 : decode cX7_asksPlain 8 = .ok (.imul, 1) := by decide +kernel
theorem dX7_asksPlain_9 : decode cX7_asksPlain 9 = .ok (.aload_n 0, 1) := by decide +kernel
theorem dX7_asksPlain_10 : decode cX7_asksPlain 10 = .ok (.getfield 313, 3) := by decide +kernel
theorem dX7_asksPlain_13 : decode cX7_asksPlain 13 = .ok (.isub, 1) := by decide +kernel
theorem dX7_asksPlain_14 : decode cX7_asksPlain 14 = .ok (.ireturn, 1) := by decide +kernel
def p_X7_asksPlain (F : tF) (A : tA) (x1 : Int32) (K : Int32 → tF → tA → Prop) : Prop := (p_X7_runs F A (10 : Int32) (fun F_3 A_3 => (K ((x1 * (2 : Int32)) - (F_3 25)) F_3 A_3)))
set_option maxHeartbeats 4000000 in
set_option maxRecDepth 100000 in
theorem w_X7_asksPlain (l : Launch) (D : va_G) (cI cZ cR : ClassId) (adK adV : Nat → Nat) (sz : Nat) (o : Nat) (q : Nat → Nat) (F : tF) (A : tA) (x1 : Int32) (K : Int32 → tF → tA → Prop) (h : p_X7_asksPlain F A x1 K) : MI l D cI cZ cR adK adV yX7_asksPlain cX7_asksPlain 2 (some .int) (rmN 1 21) [.ref o, .int x1] (wX7 cI cZ o q F A : va_W) sz (fun (r : Int32) (u : (tF × tA)) => K r u.1 u.2) (fun (u : (tF × tA)) => (wX7 cI cZ o q u.1 u.2 : va_W)) := by
  refine M_i (by decide +kernel) (Nat.le_of_ble_eq_true rfl) ?_
  intro p e s m args below meth c Q A9 ls X ret hP hD hS hl
  obtain ⟨hx, hb, hml, ht, hown, hK, hA, hE⟩ := id X
  have hl : lv_has ls 2 [(0, .ref o), (1, .int x1)] := hl
  unfold p_X7_asksPlain at h
  refine lv_aload_n hx hb dX7_asksPlain_0 rfl (lv_at hl 0 rfl) ?_
  refine lv_bipush (v := 10) hx hb dX7_asksPlain_1 (by decide) ?_
  refine C_vv (wr := []) X hP hD hS [.int (10 : Int32)] [] (w_X7_runs l D cI cZ cR adK adV _ o q F A (10 : Int32) _ h) cal_X7_runs mw_48_22 rfl [0, 1, 2, 3, 4, 5, 6, 7, 8, 9, 10, 11, 12, 13, 14, 15] [] [0, 1, 2, 3, 4, 5, 6, 7, 8, 9, 10, 11, 12, 13, 14, 15] (fun u => (wX7 cI cZ o q u.1 u.2 : va_W)) rfl rfl (fun _ => rfl) rfl 0 rfl rfl ⟨rfl, rfl⟩ ⟨Nat.le_of_ble_eq_true rfl, Nat.le_of_ble_eq_true rfl⟩ hl.1 rfl (Nat.le_of_ble_eq_true rfl) ⟨Nat.zero_le _, Nat.zero_le _⟩ dX7_asksPlain_3 (fun u H locs h hP hD hS => ?_)
  obtain ⟨F_3, A_3⟩ := u
  try dsimp only at h
  have hP : va_P D vwCl (wX7 cI cZ o q F_3 A_3 : va_W) H := hP
  have hD : va_D A9 (wX7 cI cZ o q F_3 A_3 : va_W) := hD
  refine lv_iload_n hx hb dX7_asksPlain_6 rfl (lv_at hl 1 rfl) ?_
  refine lv_iconst (v := 2) hx hb dX7_asksPlain_7 (by decide) ?_
  refine lv_imul hx hb dX7_asksPlain_8 ?_
  refine lv_aload_n hx hb dX7_asksPlain_9 rfl (lv_at hl 0 rfl) ?_
  refine va_get (C := RX7) (T := TX7) (N := 28) (own := RX7) (v := .int (F_3 25)) hx hb ht inlX7 hown hK hP 0 rfl rfl 25 (Nat.le_of_ble_eq_true rfl) (ht _ mw_48_12) (fun _ h9 => h9) rfl dX7_asksPlain_10 ?_
  refine lv_isub hx hb dX7_asksPlain_13 ?_
  exact ret _ (F_3, A_3) _ _ _ _ dX7_asksPlain_14 h hP hD hS
theorem cal_X7_asksPlain : CalV yX7_asksPlain cX7_asksPlain 2 (some .int) 1 := ⟨mw_49_5, mw_1_5, mw_49_3, mw_49_4, ⟨by decide +kernel, by decide +kernel, by decide +kernel⟩⟩
theorem dX7_asksOfWether_0 : decode cX7_asksOfWether 0 = .ok (.aload_n 0, 1) := by decide +kernel
theorem dX7_asksOfWether_1 : decode cX7_asksOfWether 1 = .ok (.bipush 30, 2) := by decide +kernel
theorem dX7_asksOfWether_3 : decode cX7_asksOfWether 3 = .ok (.invokevirtual 310, 3) := by decide +kernel
theorem dX7_asksOfWether_6 : decode cX7_asksOfWether 6 = .ok (.iconst 0, 1) := by decide +kernel
theorem dX7_asksOfWether_7 : decode cX7_asksOfWether 7 = .ok (.aload_n 0, 1) := by decide +kernel
theorem dX7_asksOfWether_8 : decode cX7_asksOfWether 8 = .ok (.iload_n 1, 1) := by decide +kernel
theorem dX7_asksOfWether_9 : decode cX7_asksOfWether 9 = .ok (.invokevirtual 316, 3) := by decide +kernel
theorem dX7_asksOfWether_12 : decode cX7_asksOfWether 12 = .ok (.isub, 1) := by decide +kernel
theorem dX7_asksOfWether_13 : decode cX7_asksOfWether 13 = .ok (.ireturn, 1) := by decide +kernel
def p_X7_asksOfWether (F : tF) (A : tA) (x1 : Int32) (K : Int32 → tF → tA → Prop) : Prop := (p_X7_runs F A (30 : Int32) (fun F_3 A_3 => (p_X7_asksPlain F_3 A_3 x1 (fun r9 F_9 A_9 => (K ((0 : Int32) - r9) F_9 A_9)))))
set_option maxHeartbeats 4000000 in
set_option maxRecDepth 100000 in
theorem w_X7_asksOfWether (l : Launch) (D : va_G) (cI cZ cR : ClassId) (adK adV : Nat → Nat) (sz : Nat) (o : Nat) (q : Nat → Nat) (F : tF) (A : tA) (x1 : Int32) (K : Int32 → tF → tA → Prop) (h : p_X7_asksOfWether F A x1 K) : MI l D cI cZ cR adK adV yX7_asksOfWether cX7_asksOfWether 2 (some .int) (rmN 2 42) [.ref o, .int x1] (wX7 cI cZ o q F A : va_W) sz (fun (r : Int32) (u : (tF × tA)) => K r u.1 u.2) (fun (u : (tF × tA)) => (wX7 cI cZ o q u.1 u.2 : va_W)) := by
  refine M_i (by decide +kernel) (Nat.le_of_ble_eq_true rfl) ?_
  intro p e s m args below meth c Q A9 ls X ret hP hD hS hl
  obtain ⟨hx, hb, hml, ht, hown, hK, hA, hE⟩ := id X
  have hl : lv_has ls 2 [(0, .ref o), (1, .int x1)] := hl
  unfold p_X7_asksOfWether at h
  refine lv_aload_n hx hb dX7_asksOfWether_0 rfl (lv_at hl 0 rfl) ?_
  refine lv_bipush (v := 30) hx hb dX7_asksOfWether_1 (by decide) ?_
  refine C_vv (wr := []) X hP hD hS [.int (30 : Int32)] [] (w_X7_runs l D cI cZ cR adK adV _ o q F A (30 : Int32) _ h) cal_X7_runs mw_48_22 rfl [0, 1, 2, 3, 4, 5, 6, 7, 8, 9, 10, 11, 12, 13, 14, 15] [] [0, 1, 2, 3, 4, 5, 6, 7, 8, 9, 10, 11, 12, 13, 14, 15] (fun u => (wX7 cI cZ o q u.1 u.2 : va_W)) rfl rfl (fun _ => rfl) rfl 0 rfl rfl ⟨rfl, rfl⟩ ⟨Nat.le_of_ble_eq_true rfl, Nat.le_of_ble_eq_true rfl⟩ hl.1 rfl (Nat.le_of_ble_eq_true rfl) ⟨Nat.zero_le _, Nat.zero_le _⟩ dX7_asksOfWether_3 (fun u H locs h hP hD hS => ?_)
  obtain ⟨F_3, A_3⟩ := u
  try dsimp only at h
  have hP : va_P D vwCl (wX7 cI cZ o q F_3 A_3 : va_W) H := hP
  have hD : va_D A9 (wX7 cI cZ o q F_3 A_3 : va_W) := hD
  refine lv_iconst (v := 0) hx hb dX7_asksOfWether_6 (by decide) ?_
  refine lv_aload_n hx hb dX7_asksOfWether_7 rfl (lv_at hl 0 rfl) ?_
  refine lv_iload_n hx hb dX7_asksOfWether_8 rfl (lv_at hl 1 rfl) ?_
  refine C_vi (wr := []) X hP hD hS [.int x1] [.int (0 : Int32)] (w_X7_asksPlain l D cI cZ cR adK adV _ o q F_3 A_3 x1 _ h) cal_X7_asksPlain mw_49_2 rfl [0, 1, 2, 3, 4, 5, 6, 7, 8, 9, 10, 11, 12, 13, 14, 15] [] [0, 1, 2, 3, 4, 5, 6, 7, 8, 9, 10, 11, 12, 13, 14, 15] (fun u => (wX7 cI cZ o q u.1 u.2 : va_W)) rfl rfl (fun _ => rfl) rfl 0 rfl rfl ⟨rfl, rfl⟩ ⟨Nat.le_of_ble_eq_true rfl, Nat.le_of_ble_eq_true rfl⟩ hl.1 rfl (Nat.le_of_ble_eq_true rfl) ⟨Nat.zero_le _, Nat.zero_le _⟩ dX7_asksOfWether_9 (fun r9 u H locs h hP hD hS => ?_)
  obtain ⟨F_9, A_9⟩ := u
  try dsimp only at h
  have hP : va_P D vwCl (wX7 cI cZ o q F_9 A_9 : va_W) H := hP
  have hD : va_D A9 (wX7 cI cZ o q F_9 A_9 : va_W) := hD
  refine lv_isub hx hb dX7_asksOfWether_12 ?_
  exact ret _ (F_9, A_9) _ _ _ _ dX7_asksOfWether_13 h hP hD hS
theorem cal_X7_asksOfWether : CalV yX7_asksOfWether cX7_asksOfWether 2 (some .int) 1 := ⟨mw_48_21, mw_1_5, mw_48_19, mw_48_20, ⟨by decide +kernel, by decide +kernel, by decide +kernel⟩⟩
theorem dX7_asks_0 : decode cX7_asks 0 = .ok (.aload_n 0, 1) := by decide +kernel
theorem dX7_asks_1 : decode cX7_asks 1 = .ok (.getfield 319, 3) := by decide +kernel
theorem dX7_asks_4 : decode cX7_asks 4 = .ok (.tableswitch 62 2 4 #[28, 48, 34], 28) := by decide +kernel
theorem dX7_asks_32 : decode cX7_asks 32 = .ok (.aload_n 0, 1) := by decide +kernel
theorem dX7_asks_33 : decode cX7_asks 33 = .ok (.iload_n 1, 1) := by decide +kernel
theorem dX7_asks_34 : decode cX7_asks 34 = .ok (.invokevirtual 322, 3) := by decide +kernel
theorem dX7_asks_37 : decode cX7_asks 37 = .ok (.ireturn, 1) := by decide +kernel
theorem dX7_asks_38 : decode cX7_asks 38 = .ok (.aload_n 0, 1) := by decide +kernel
theorem dX7_asks_39 : decode cX7_asks 39 = .ok (.bipush 40, 2) := by decide +kernel
theorem dX7_asks_41 : decode cX7_asks 41 = .ok (.invokevirtual 310, 3) := by decide +kernel
theorem dX7_asks_44 : decode cX7_asks 44 = .ok (.aload_n 0, 1) := by decide +kernel
theorem dX7_asks_45 : decode cX7_asks 45 = .ok (.iload_n 1, 1) := by decide +kernel
theorem dX7_asks_46 : decode cX7_asks 46 = .ok (.invokevirtual 322, 3) := by decide +kernel
theorem dX7_asks_49 : decode cX7_asks 49 = .ok (.iconst 3, 1) := by decide +kernel
theorem dX7_asks_50 : decode cX7_asks 50 = .ok (.imul, 1) := by decide +kernel
theorem dX7_asks_51 : decode cX7_asks 51 = .ok (.ireturn, 1) := by decide +kernel
theorem dX7_asks_52 : decode cX7_asks 52 = .ok (.aload_n 0, 1) := by decide +kernel
theorem dX7_asks_53 : decode cX7_asks 53 = .ok (.bipush 51, 2) := by decide +kernel
theorem dX7_asks_55 : decode cX7_asks 55 = .ok (.invokevirtual 310, 3) := by decide +kernel
theorem dX7_asks_58 : decode cX7_asks 58 = .ok (.aload_n 0, 1) := by decide +kernel
theorem dX7_asks_59 : decode cX7_asks 59 = .ok (.iload_n 1, 1) := by decide +kernel
theorem dX7_asks_60 : decode cX7_asks 60 = .ok (.invokevirtual 316, 3) := by decide +kernel
theorem dX7_asks_63 : decode cX7_asks 63 = .ok (.iconst 1, 1) := by decide +kernel
theorem dX7_asks_64 : decode cX7_asks 64 = .ok (.iadd, 1) := by decide +kernel
theorem dX7_asks_65 : decode cX7_asks 65 = .ok (.ireturn, 1) := by decide +kernel
theorem dX7_asks_66 : decode cX7_asks 66 = .ok (.aload_n 0, 1) := by decide +kernel
theorem dX7_asks_67 : decode cX7_asks 67 = .ok (.iload_n 1, 1) := by decide +kernel
theorem dX7_asks_68 : decode cX7_asks 68 = .ok (.invokevirtual 316, 3) := by decide +kernel
theorem dX7_asks_71 : decode cX7_asks 71 = .ok (.ireturn, 1) := by decide +kernel
def p_X7_asks (F : tF) (A : tA) (x1 : Int32) (K : Int32 → tF → tA → Prop) : Prop := (((F 24) = (2 : Int32) → (p_X7_asksOfWether F A x1 (fun r34 F_34 A_34 => (K r34 F_34 A_34)))) ∧ ((F 24) = (3 : Int32) → (p_X7_runs F A (51 : Int32) (fun F_55 A_55 => (p_X7_asksPlain F_55 A_55 x1 (fun r60 F_60 A_60 => (K (r60 + (1 : Int32)) F_60 A_60)))))) ∧ ((F 24) = (4 : Int32) → (p_X7_runs F A (40 : Int32) (fun F_41 A_41 => (p_X7_asksOfWether F_41 A_41 x1 (fun r46 F_46 A_46 => (K (r46 * (3 : Int32)) F_46 A_46)))))) ∧ (¬ (F 24) = (2 : Int32) → ¬ (F 24) = (3 : Int32) → ¬ (F 24) = (4 : Int32) → (p_X7_asksPlain F A x1 (fun r68 F_68 A_68 => (K r68 F_68 A_68)))))
set_option maxHeartbeats 4000000 in
set_option maxRecDepth 100000 in
theorem w_X7_asks (l : Launch) (D : va_G) (cI cZ cR : ClassId) (adK adV : Nat → Nat) (sz : Nat) (o : Nat) (q : Nat → Nat) (F : tF) (A : tA) (x1 : Int32) (K : Int32 → tF → tA → Prop) (h : p_X7_asks F A x1 K) : MI l D cI cZ cR adK adV yX7_asks cX7_asks 2 (some .int) (rmN 3 63) [.ref o, .int x1] (wX7 cI cZ o q F A : va_W) sz (fun (r : Int32) (u : (tF × tA)) => K r u.1 u.2) (fun (u : (tF × tA)) => (wX7 cI cZ o q u.1 u.2 : va_W)) := by
  refine M_i (by decide +kernel) (Nat.le_of_ble_eq_true rfl) ?_
  intro p e s m args below meth c Q A9 ls X ret hP hD hS hl
  obtain ⟨hx, hb, hml, ht, hown, hK, hA, hE⟩ := id X
  have hl : lv_has ls 2 [(0, .ref o), (1, .int x1)] := hl
  unfold p_X7_asks at h
  refine lv_aload_n hx hb dX7_asks_0 rfl (lv_at hl 0 rfl) ?_
  refine va_get (C := RX7) (T := TX7) (N := 28) (own := RX7) (v := .int (F 24)) hx hb ht inlX7 hown hK hP 0 rfl rfl 24 (Nat.le_of_ble_eq_true rfl) (ht _ mw_48_11) (fun _ h9 => h9) rfl dX7_asks_1 ?_
  by_cases c4_2 : (F 24) = (2 : Int32)
  · replace h := h.1 c4_2
    refine lv_tableIn (tgt := 32) hx hb dX7_asks_4 (by rw [c4_2]; decide) (by rw [c4_2]; decide) (by rw [c4_2]; rfl) (by decide) ?_
    refine lv_aload_n hx hb dX7_asks_32 rfl (lv_at hl 0 rfl) ?_
    refine lv_iload_n hx hb dX7_asks_33 rfl (lv_at hl 1 rfl) ?_
    refine C_vi (wr := []) X hP hD hS [.int x1] [] (w_X7_asksOfWether l D cI cZ cR adK adV _ o q F A x1 _ h) cal_X7_asksOfWether mw_48_18 rfl [0, 1, 2, 3, 4, 5, 6, 7, 8, 9, 10, 11, 12, 13, 14, 15] [] [0, 1, 2, 3, 4, 5, 6, 7, 8, 9, 10, 11, 12, 13, 14, 15] (fun u => (wX7 cI cZ o q u.1 u.2 : va_W)) rfl rfl (fun _ => rfl) rfl 0 rfl rfl ⟨rfl, rfl⟩ ⟨Nat.le_of_ble_eq_true rfl, Nat.le_of_ble_eq_true rfl⟩ hl.1 rfl (Nat.le_of_ble_eq_true rfl) ⟨Nat.zero_le _, Nat.zero_le _⟩ dX7_asks_34 (fun r34 u H locs h hP hD hS => ?_)
    obtain ⟨F_34, A_34⟩ := u
    try dsimp only at h
    have hP : va_P D vwCl (wX7 cI cZ o q F_34 A_34 : va_W) H := hP
    have hD : va_D A9 (wX7 cI cZ o q F_34 A_34 : va_W) := hD
    exact ret _ (F_34, A_34) _ _ _ _ dX7_asks_37 h hP hD hS
  by_cases c4_3 : (F 24) = (3 : Int32)
  · replace h := h.2.1 c4_3
    refine lv_tableIn (tgt := 52) hx hb dX7_asks_4 (by rw [c4_3]; decide) (by rw [c4_3]; decide) (by rw [c4_3]; rfl) (by decide) ?_
    refine lv_aload_n hx hb dX7_asks_52 rfl (lv_at hl 0 rfl) ?_
    refine lv_bipush (v := 51) hx hb dX7_asks_53 (by decide) ?_
    refine C_vv (wr := []) X hP hD hS [.int (51 : Int32)] [] (w_X7_runs l D cI cZ cR adK adV _ o q F A (51 : Int32) _ h) cal_X7_runs mw_48_22 rfl [0, 1, 2, 3, 4, 5, 6, 7, 8, 9, 10, 11, 12, 13, 14, 15] [] [0, 1, 2, 3, 4, 5, 6, 7, 8, 9, 10, 11, 12, 13, 14, 15] (fun u => (wX7 cI cZ o q u.1 u.2 : va_W)) rfl rfl (fun _ => rfl) rfl 0 rfl rfl ⟨rfl, rfl⟩ ⟨Nat.le_of_ble_eq_true rfl, Nat.le_of_ble_eq_true rfl⟩ hl.1 rfl (Nat.le_of_ble_eq_true rfl) ⟨Nat.zero_le _, Nat.zero_le _⟩ dX7_asks_55 (fun u H locs h hP hD hS => ?_)
    obtain ⟨F_55, A_55⟩ := u
    try dsimp only at h
    have hP : va_P D vwCl (wX7 cI cZ o q F_55 A_55 : va_W) H := hP
    have hD : va_D A9 (wX7 cI cZ o q F_55 A_55 : va_W) := hD
    refine lv_aload_n hx hb dX7_asks_58 rfl (lv_at hl 0 rfl) ?_
    refine lv_iload_n hx hb dX7_asks_59 rfl (lv_at hl 1 rfl) ?_
    refine C_vi (wr := []) X hP hD hS [.int x1] [] (w_X7_asksPlain l D cI cZ cR adK adV _ o q F_55 A_55 x1 _ h) cal_X7_asksPlain mw_49_2 rfl [0, 1, 2, 3, 4, 5, 6, 7, 8, 9, 10, 11, 12, 13, 14, 15] [] [0, 1, 2, 3, 4, 5, 6, 7, 8, 9, 10, 11, 12, 13, 14, 15] (fun u => (wX7 cI cZ o q u.1 u.2 : va_W)) rfl rfl (fun _ => rfl) rfl 0 rfl rfl ⟨rfl, rfl⟩ ⟨Nat.le_of_ble_eq_true rfl, Nat.le_of_ble_eq_true rfl⟩ hl.1 rfl (Nat.le_of_ble_eq_true rfl) ⟨Nat.zero_le _, Nat.zero_le _⟩ dX7_asks_60 (fun r60 u H locs h hP hD hS => ?_)
    obtain ⟨F_60, A_60⟩ := u
    try dsimp only at h
    have hP : va_P D vwCl (wX7 cI cZ o q F_60 A_60 : va_W) H := hP
    have hD : va_D A9 (wX7 cI cZ o q F_60 A_60 : va_W) := hD
    refine lv_iconst (v := 1) hx hb dX7_asks_63 (by decide) ?_
    refine lv_iadd hx hb dX7_asks_64 ?_
    exact ret _ (F_60, A_60) _ _ _ _ dX7_asks_65 h hP hD hS
  by_cases c4_4 : (F 24) = (4 : Int32)
  · replace h := h.2.2.1 c4_4
    refine lv_tableIn (tgt := 38) hx hb dX7_asks_4 (by rw [c4_4]; decide) (by rw [c4_4]; decide) (by rw [c4_4]; rfl) (by decide) ?_
    refine lv_aload_n hx hb dX7_asks_38 rfl (lv_at hl 0 rfl) ?_
    refine lv_bipush (v := 40) hx hb dX7_asks_39 (by decide) ?_
    refine C_vv (wr := []) X hP hD hS [.int (40 : Int32)] [] (w_X7_runs l D cI cZ cR adK adV _ o q F A (40 : Int32) _ h) cal_X7_runs mw_48_22 rfl [0, 1, 2, 3, 4, 5, 6, 7, 8, 9, 10, 11, 12, 13, 14, 15] [] [0, 1, 2, 3, 4, 5, 6, 7, 8, 9, 10, 11, 12, 13, 14, 15] (fun u => (wX7 cI cZ o q u.1 u.2 : va_W)) rfl rfl (fun _ => rfl) rfl 0 rfl rfl ⟨rfl, rfl⟩ ⟨Nat.le_of_ble_eq_true rfl, Nat.le_of_ble_eq_true rfl⟩ hl.1 rfl (Nat.le_of_ble_eq_true rfl) ⟨Nat.zero_le _, Nat.zero_le _⟩ dX7_asks_41 (fun u H locs h hP hD hS => ?_)
    obtain ⟨F_41, A_41⟩ := u
    try dsimp only at h
    have hP : va_P D vwCl (wX7 cI cZ o q F_41 A_41 : va_W) H := hP
    have hD : va_D A9 (wX7 cI cZ o q F_41 A_41 : va_W) := hD
    refine lv_aload_n hx hb dX7_asks_44 rfl (lv_at hl 0 rfl) ?_
    refine lv_iload_n hx hb dX7_asks_45 rfl (lv_at hl 1 rfl) ?_
    refine C_vi (wr := []) X hP hD hS [.int x1] [] (w_X7_asksOfWether l D cI cZ cR adK adV _ o q F_41 A_41 x1 _ h) cal_X7_asksOfWether mw_48_18 rfl [0, 1, 2, 3, 4, 5, 6, 7, 8, 9, 10, 11, 12, 13, 14, 15] [] [0, 1, 2, 3, 4, 5, 6, 7, 8, 9, 10, 11, 12, 13, 14, 15] (fun u => (wX7 cI cZ o q u.1 u.2 : va_W)) rfl rfl (fun _ => rfl) rfl 0 rfl rfl ⟨rfl, rfl⟩ ⟨Nat.le_of_ble_eq_true rfl, Nat.le_of_ble_eq_true rfl⟩ hl.1 rfl (Nat.le_of_ble_eq_true rfl) ⟨Nat.zero_le _, Nat.zero_le _⟩ dX7_asks_46 (fun r46 u H locs h hP hD hS => ?_)
    obtain ⟨F_46, A_46⟩ := u
    try dsimp only at h
    have hP : va_P D vwCl (wX7 cI cZ o q F_46 A_46 : va_W) H := hP
    have hD : va_D A9 (wX7 cI cZ o q F_46 A_46 : va_W) := hD
    refine lv_iconst (v := 3) hx hb dX7_asks_49 (by decide) ?_
    refine lv_imul hx hb dX7_asks_50 ?_
    exact ret _ (F_46, A_46) _ _ _ _ dX7_asks_51 h hP hD hS
  replace h := h.2.2.2 c4_2 c4_3 c4_4
  refine g_tdef (tgt := 66) hx hb dX7_asks_4 ?_ (by decide) ?_
  · exact Or.inl (sw2_4 c4_2 c4_3 c4_4)
  refine lv_aload_n hx hb dX7_asks_66 rfl (lv_at hl 0 rfl) ?_
  refine lv_iload_n hx hb dX7_asks_67 rfl (lv_at hl 1 rfl) ?_
  refine C_vi (wr := []) X hP hD hS [.int x1] [] (w_X7_asksPlain l D cI cZ cR adK adV _ o q F A x1 _ h) cal_X7_asksPlain mw_49_2 rfl [0, 1, 2, 3, 4, 5, 6, 7, 8, 9, 10, 11, 12, 13, 14, 15] [] [0, 1, 2, 3, 4, 5, 6, 7, 8, 9, 10, 11, 12, 13, 14, 15] (fun u => (wX7 cI cZ o q u.1 u.2 : va_W)) rfl rfl (fun _ => rfl) rfl 0 rfl rfl ⟨rfl, rfl⟩ ⟨Nat.le_of_ble_eq_true rfl, Nat.le_of_ble_eq_true rfl⟩ hl.1 rfl (Nat.le_of_ble_eq_true rfl) ⟨Nat.zero_le _, Nat.zero_le _⟩ dX7_asks_68 (fun r68 u H locs h hP hD hS => ?_)
  obtain ⟨F_68, A_68⟩ := u
  try dsimp only at h
  have hP : va_P D vwCl (wX7 cI cZ o q F_68 A_68 : va_W) H := hP
  have hD : va_D A9 (wX7 cI cZ o q F_68 A_68 : va_W) := hD
  exact ret _ (F_68, A_68) _ _ _ _ dX7_asks_71 h hP hD hS
theorem cal_X7_asks : CalV yX7_asks cX7_asks 2 (some .int) 1 := ⟨mw_48_17, mw_1_5, mw_48_15, mw_48_16, ⟨by decide +kernel, by decide +kernel, by decide +kernel⟩⟩
theorem dX7_bleatsPlain_0 : decode cX7_bleatsPlain 0 = .ok (.aload_n 0, 1) := by decide +kernel
theorem dX7_bleatsPlain_1 : decode cX7_bleatsPlain 1 = .ok (.bipush 11, 2) := by decide +kernel
theorem dX7_bleatsPlain_3 : decode cX7_bleatsPlain 3 = .ok (.invokevirtual 310, 3) := by decide +kernel
theorem dX7_bleatsPlain_6 : decode cX7_bleatsPlain 6 = .ok (.aload_n 0, 1) := by decide +kernel
theorem dX7_bleatsPlain_7 : decode cX7_bleatsPlain 7 = .ok (.iload_n 1, 1) := by decide +kernel
theorem dX7_bleatsPlain_8 : decode cX7_bleatsPlain 8 = .ok (.invokevirtual 325, 3) := by decide +kernel
theorem dX7_bleatsPlain_11 : decode cX7_bleatsPlain 11 = .ok (.aload_n 0, 1) := by decide +kernel
theorem dX7_bleatsPlain_12 : decode cX7_bleatsPlain 12 = .ok (.getfield 328, 3) := by decide +kernel
theorem dX7_bleatsPlain_15 : decode cX7_bleatsPlain 15 = .ok (.iadd, 1) := by decide +kernel
theorem dX7_bleatsPlain_16 : decode cX7_bleatsPlain 16 = .ok (.ireturn, 1) := by decide +kernel
def p_X7_bleatsPlain (F : tF) (A : tA) (x1 : Int32) (K : Int32 → tF → tA → Prop) : Prop := (p_X7_runs F A (11 : Int32) (fun F_3 A_3 => (p_X7_asks F_3 A_3 x1 (fun r8 F_8 A_8 => (K (r8 + (F_8 26)) F_8 A_8)))))
set_option maxHeartbeats 4000000 in
set_option maxRecDepth 100000 in
theorem w_X7_bleatsPlain (l : Launch) (D : va_G) (cI cZ cR : ClassId) (adK adV : Nat → Nat) (sz : Nat) (o : Nat) (q : Nat → Nat) (F : tF) (A : tA) (x1 : Int32) (K : Int32 → tF → tA → Prop) (h : p_X7_bleatsPlain F A x1 K) : MI l D cI cZ cR adK adV yX7_bleatsPlain cX7_bleatsPlain 2 (some .int) (rmN 4 84) [.ref o, .int x1] (wX7 cI cZ o q F A : va_W) sz (fun (r : Int32) (u : (tF × tA)) => K r u.1 u.2) (fun (u : (tF × tA)) => (wX7 cI cZ o q u.1 u.2 : va_W)) := by
  refine M_i (by decide +kernel) (Nat.le_of_ble_eq_true rfl) ?_
  intro p e s m args below meth c Q A9 ls X ret hP hD hS hl
  obtain ⟨hx, hb, hml, ht, hown, hK, hA, hE⟩ := id X
  have hl : lv_has ls 2 [(0, .ref o), (1, .int x1)] := hl
  unfold p_X7_bleatsPlain at h
  refine lv_aload_n hx hb dX7_bleatsPlain_0 rfl (lv_at hl 0 rfl) ?_
  refine lv_bipush (v := 11) hx hb dX7_bleatsPlain_1 (by decide) ?_
  refine C_vv (wr := []) X hP hD hS [.int (11 : Int32)] [] (w_X7_runs l D cI cZ cR adK adV _ o q F A (11 : Int32) _ h) cal_X7_runs mw_48_22 rfl [0, 1, 2, 3, 4, 5, 6, 7, 8, 9, 10, 11, 12, 13, 14, 15] [] [0, 1, 2, 3, 4, 5, 6, 7, 8, 9, 10, 11, 12, 13, 14, 15] (fun u => (wX7 cI cZ o q u.1 u.2 : va_W)) rfl rfl (fun _ => rfl) rfl 0 rfl rfl ⟨rfl, rfl⟩ ⟨Nat.le_of_ble_eq_true rfl, Nat.le_of_ble_eq_true rfl⟩ hl.1 rfl (Nat.le_of_ble_eq_true rfl) ⟨Nat.zero_le _, Nat.zero_le _⟩ dX7_bleatsPlain_3 (fun u H locs h hP hD hS => ?_)
  obtain ⟨F_3, A_3⟩ := u
  try dsimp only at h
  have hP : va_P D vwCl (wX7 cI cZ o q F_3 A_3 : va_W) H := hP
  have hD : va_D A9 (wX7 cI cZ o q F_3 A_3 : va_W) := hD
  refine lv_aload_n hx hb dX7_bleatsPlain_6 rfl (lv_at hl 0 rfl) ?_
  refine lv_iload_n hx hb dX7_bleatsPlain_7 rfl (lv_at hl 1 rfl) ?_
  refine C_vi (wr := []) X hP hD hS [.int x1] [] (w_X7_asks l D cI cZ cR adK adV _ o q F_3 A_3 x1 _ h) cal_X7_asks mw_48_14 rfl [0, 1, 2, 3, 4, 5, 6, 7, 8, 9, 10, 11, 12, 13, 14, 15] [] [0, 1, 2, 3, 4, 5, 6, 7, 8, 9, 10, 11, 12, 13, 14, 15] (fun u => (wX7 cI cZ o q u.1 u.2 : va_W)) rfl rfl (fun _ => rfl) rfl 0 rfl rfl ⟨rfl, rfl⟩ ⟨Nat.le_of_ble_eq_true rfl, Nat.le_of_ble_eq_true rfl⟩ hl.1 rfl (Nat.le_of_ble_eq_true rfl) ⟨Nat.zero_le _, Nat.zero_le _⟩ dX7_bleatsPlain_8 (fun r8 u H locs h hP hD hS => ?_)
  obtain ⟨F_8, A_8⟩ := u
  try dsimp only at h
  have hP : va_P D vwCl (wX7 cI cZ o q F_8 A_8 : va_W) H := hP
  have hD : va_D A9 (wX7 cI cZ o q F_8 A_8 : va_W) := hD
  refine lv_aload_n hx hb dX7_bleatsPlain_11 rfl (lv_at hl 0 rfl) ?_
  refine va_get (C := RX7) (T := TX7) (N := 28) (own := RX7) (v := .int (F_8 26)) hx hb ht inlX7 hown hK hP 0 rfl rfl 26 (Nat.le_of_ble_eq_true rfl) (ht _ mw_48_13) (fun _ h9 => h9) rfl dX7_bleatsPlain_12 ?_
  refine lv_iadd hx hb dX7_bleatsPlain_15 ?_
  exact ret _ (F_8, A_8) _ _ _ _ dX7_bleatsPlain_16 h hP hD hS
theorem cal_X7_bleatsPlain : CalV yX7_bleatsPlain cX7_bleatsPlain 2 (some .int) 1 := ⟨mw_49_13, mw_1_5, mw_49_11, mw_49_12, ⟨by decide +kernel, by decide +kernel, by decide +kernel⟩⟩
theorem dX7_bleats_0 : decode cX7_bleats 0 = .ok (.aload_n 0, 1) := by decide +kernel
theorem dX7_bleats_1 : decode cX7_bleats 1 = .ok (.getfield 319, 3) := by decide +kernel
theorem dX7_bleats_4 : decode cX7_bleats 4 = .ok (.iconst 1, 1) := by decide +kernel
theorem dX7_bleats_5 : decode cX7_bleats 5 = .ok (.if_icmp .eq 11, 3) := by decide +kernel
theorem dX7_bleats_8 : decode cX7_bleats 8 = .ok (.aload_n 0, 1) := by decide +kernel
theorem dX7_bleats_9 : decode cX7_bleats 9 = .ok (.getfield 319, 3) := by decide +kernel
theorem dX7_bleats_12 : decode cX7_bleats 12 = .ok (.iconst 3, 1) := by decide +kernel
theorem dX7_bleats_13 : decode cX7_bleats 13 = .ok (.if_icmp .ne 17, 3) := by decide +kernel
theorem dX7_bleats_16 : decode cX7_bleats 16 = .ok (.aload_n 0, 1) := by decide +kernel
theorem dX7_bleats_17 : decode cX7_bleats 17 = .ok (.bipush 20, 2) := by decide +kernel
theorem dX7_bleats_19 : decode cX7_bleats 19 = .ok (.invokevirtual 310, 3) := by decide +kernel
theorem dX7_bleats_22 : decode cX7_bleats 22 = .ok (.aload_n 0, 1) := by decide +kernel
theorem dX7_bleats_23 : decode cX7_bleats 23 = .ok (.iload_n 1, 1) := by decide +kernel
theorem dX7_bleats_24 : decode cX7_bleats 24 = .ok (.invokevirtual 331, 3) := by decide +kernel
theorem dX7_bleats_27 : decode cX7_bleats 27 = .ok (.iconst 4, 1) := by decide +kernel
theorem dX7_bleats_28 : decode cX7_bleats 28 = .ok (.isub, 1) := by decide +kernel
theorem dX7_bleats_29 : decode cX7_bleats 29 = .ok (.ireturn, 1) := by decide +kernel
theorem dX7_bleats_30 : decode cX7_bleats 30 = .ok (.aload_n 0, 1) := by decide +kernel
theorem dX7_bleats_31 : decode cX7_bleats 31 = .ok (.getfield 319, 3) := by decide +kernel
theorem dX7_bleats_34 : decode cX7_bleats 34 = .ok (.iconst 4, 1) := by decide +kernel
theorem dX7_bleats_35 : decode cX7_bleats 35 = .ok (.if_icmp .ne 26, 3) := by decide +kernel
theorem dX7_bleats_38 : decode cX7_bleats 38 = .ok (.aload_n 0, 1) := by decide +kernel
theorem dX7_bleats_39 : decode cX7_bleats 39 = .ok (.bipush 41, 2) := by decide +kernel
theorem dX7_bleats_41 : decode cX7_bleats 41 = .ok (.invokevirtual 310, 3) := by decide +kernel
theorem dX7_bleats_44 : decode cX7_bleats 44 = .ok (.aload_n 0, 1) := by decide +kernel
theorem dX7_bleats_45 : decode cX7_bleats 45 = .ok (.iload_n 1, 1) := by decide +kernel
theorem dX7_bleats_46 : decode cX7_bleats 46 = .ok (.invokevirtual 331, 3) := by decide +kernel
theorem dX7_bleats_49 : decode cX7_bleats 49 = .ok (.istore_n 2, 1) := by decide +kernel
theorem dX7_bleats_50 : decode cX7_bleats 50 = .ok (.iload_n 2, 1) := by decide +kernel
theorem dX7_bleats_51 : decode cX7_bleats 51 = .ok (.aload_n 0, 1) := by decide +kernel
theorem dX7_bleats_52 : decode cX7_bleats 52 = .ok (.aload_n 0, 1) := by decide +kernel
theorem dX7_bleats_53 : decode cX7_bleats 53 = .ok (.getfield 328, 3) := by decide +kernel
theorem dX7_bleats_56 : decode cX7_bleats 56 = .ok (.invokevirtual 325, 3) := by decide +kernel
theorem dX7_bleats_59 : decode cX7_bleats 59 = .ok (.ixor, 1) := by decide +kernel
theorem dX7_bleats_60 : decode cX7_bleats 60 = .ok (.ireturn, 1) := by decide +kernel
theorem dX7_bleats_61 : decode cX7_bleats 61 = .ok (.aload_n 0, 1) := by decide +kernel
theorem dX7_bleats_62 : decode cX7_bleats 62 = .ok (.iload_n 1, 1) := by decide +kernel
theorem dX7_bleats_63 : decode cX7_bleats 63 = .ok (.invokevirtual 331, 3) := by decide +kernel
theorem dX7_bleats_66 : decode cX7_bleats 66 = .ok (.ireturn, 1) := by decide +kernel
def p_X7_bleats_J16 (F : tF) (A : tA) (K : Int32 → tF → tA → Prop) (x1 : Int32) : Prop := (p_X7_runs F A (20 : Int32) (fun F_19 A_19 => (p_X7_bleatsPlain F_19 A_19 x1 (fun r24 F_24 A_24 => (K (r24 - (4 : Int32)) F_24 A_24)))))
set_option maxHeartbeats 4000000 in
set_option maxRecDepth 100000 in
theorem b_X7_bleats_J16 {p : Program} {l : Launch} {e : Env} {s : State} {m : MethodId} {args : Array Value} {below : List Frame} {meth : Method} {c : Code} {Q : State → Prop} {D : va_G} {cI cZ cR : ClassId} {adK adV : Nat → Nat} {A9 : Nat → Prop} {o : Nat} {q : Nat → Nat} {K : Int32 → tF → tA → Prop}  (F : tF) (A : tA) (x1 : Int32) (X : CX p s m args c yX7_bleats.cls cX7_bleats 3 D cI cZ cR adK adV A9) (ret : RTi p l e (rmN 5 105) s m args below meth c Q cX7_bleats D A9 (fun (r : Int32) (u : (tF × tA)) => K r u.1 u.2) (fun (u : (tF × tA)) => (wX7 cI cZ o q u.1 u.2 : va_W)))  (H : Heap) (locs : List Loc) (ls : Array Slot) (h : p_X7_bleats_J16 F A K x1) (hP : va_P D vwCl (wX7 cI cZ o q F A : va_W) H) (hD : va_D A9 (wX7 cI cZ o q F A : va_W)) (hS : va_S A9 s.heap H locs) (hl : lv_has ls 3 [(0, .ref o), (1, .int x1)]) : W p l e (rmN 5 105) s m args below meth c H locs 0 0 Q (F0 m 16 ls []) := by
  obtain ⟨hx, hb, hml, ht, hown, hK, hA, hE⟩ := id X
  unfold p_X7_bleats_J16 at h
  refine lv_aload_n hx hb dX7_bleats_16 rfl (lv_at hl 0 rfl) ?_
  refine lv_bipush (v := 20) hx hb dX7_bleats_17 (by decide) ?_
  refine C_vv (wr := []) X hP hD hS [.int (20 : Int32)] [] (w_X7_runs l D cI cZ cR adK adV _ o q F A (20 : Int32) _ h) cal_X7_runs mw_48_22 rfl [0, 1, 2, 3, 4, 5, 6, 7, 8, 9, 10, 11, 12, 13, 14, 15] [] [0, 1, 2, 3, 4, 5, 6, 7, 8, 9, 10, 11, 12, 13, 14, 15] (fun u => (wX7 cI cZ o q u.1 u.2 : va_W)) rfl rfl (fun _ => rfl) rfl 0 rfl rfl ⟨rfl, rfl⟩ ⟨Nat.le_of_ble_eq_true rfl, Nat.le_of_ble_eq_true rfl⟩ hl.1 rfl (Nat.le_of_ble_eq_true rfl) ⟨Nat.zero_le _, Nat.zero_le _⟩ dX7_bleats_19 (fun u H locs h hP hD hS => ?_)
  obtain ⟨F_19, A_19⟩ := u
  try dsimp only at h
  have hP : va_P D vwCl (wX7 cI cZ o q F_19 A_19 : va_W) H := hP
  have hD : va_D A9 (wX7 cI cZ o q F_19 A_19 : va_W) := hD
  refine lv_aload_n hx hb dX7_bleats_22 rfl (lv_at hl 0 rfl) ?_
  refine lv_iload_n hx hb dX7_bleats_23 rfl (lv_at hl 1 rfl) ?_
  refine C_vi (wr := []) X hP hD hS [.int x1] [] (w_X7_bleatsPlain l D cI cZ cR adK adV _ o q F_19 A_19 x1 _ h) cal_X7_bleatsPlain mw_49_10 rfl [0, 1, 2, 3, 4, 5, 6, 7, 8, 9, 10, 11, 12, 13, 14, 15] [] [0, 1, 2, 3, 4, 5, 6, 7, 8, 9, 10, 11, 12, 13, 14, 15] (fun u => (wX7 cI cZ o q u.1 u.2 : va_W)) rfl rfl (fun _ => rfl) rfl 0 rfl rfl ⟨rfl, rfl⟩ ⟨Nat.le_of_ble_eq_true rfl, Nat.le_of_ble_eq_true rfl⟩ hl.1 rfl (Nat.le_of_ble_eq_true rfl) ⟨Nat.zero_le _, Nat.zero_le _⟩ dX7_bleats_24 (fun r24 u H locs h hP hD hS => ?_)
  obtain ⟨F_24, A_24⟩ := u
  try dsimp only at h
  have hP : va_P D vwCl (wX7 cI cZ o q F_24 A_24 : va_W) H := hP
  have hD : va_D A9 (wX7 cI cZ o q F_24 A_24 : va_W) := hD
  refine lv_iconst (v := 4) hx hb dX7_bleats_27 (by decide) ?_
  refine lv_isub hx hb dX7_bleats_28 ?_
  exact ret _ (F_24, A_24) _ _ _ _ dX7_bleats_29 h hP hD hS
def p_X7_bleats (F : tF) (A : tA) (x1 : Int32) (K : Int32 → tF → tA → Prop) : Prop := (((F 24) = (1 : Int32) → (p_X7_bleats_J16 F A K x1)) ∧ (¬ (F 24) = (1 : Int32) → ((¬ (F 24) = (3 : Int32) → ((¬ (F 24) = (4 : Int32) → (p_X7_bleatsPlain F A x1 (fun r63 F_63 A_63 => (K r63 F_63 A_63)))) ∧ ((F 24) = (4 : Int32) → (p_X7_runs F A (41 : Int32) (fun F_41 A_41 => (p_X7_bleatsPlain F_41 A_41 x1 (fun r46 F_46 A_46 => (p_X7_asks F_46 A_46 (F_46 26) (fun r56 F_56 A_56 => (K (r46 ^^^ r56) F_56 A_56)))))))))) ∧ ((F 24) = (3 : Int32) → (p_X7_bleats_J16 F A K x1)))))
set_option maxHeartbeats 4000000 in
set_option maxRecDepth 100000 in
theorem w_X7_bleats (l : Launch) (D : va_G) (cI cZ cR : ClassId) (adK adV : Nat → Nat) (sz : Nat) (o : Nat) (q : Nat → Nat) (F : tF) (A : tA) (x1 : Int32) (K : Int32 → tF → tA → Prop) (h : p_X7_bleats F A x1 K) : MI l D cI cZ cR adK adV yX7_bleats cX7_bleats 3 (some .int) (rmN 5 105) [.ref o, .int x1] (wX7 cI cZ o q F A : va_W) sz (fun (r : Int32) (u : (tF × tA)) => K r u.1 u.2) (fun (u : (tF × tA)) => (wX7 cI cZ o q u.1 u.2 : va_W)) := by
  refine M_i (by decide +kernel) (Nat.le_of_ble_eq_true rfl) ?_
  intro p e s m args below meth c Q A9 ls X ret hP hD hS hl
  obtain ⟨hx, hb, hml, ht, hown, hK, hA, hE⟩ := id X
  have hl : lv_has ls 3 [(0, .ref o), (1, .int x1)] := hl
  unfold p_X7_bleats at h
  refine lv_aload_n hx hb dX7_bleats_0 rfl (lv_at hl 0 rfl) ?_
  refine va_get (C := RX7) (T := TX7) (N := 28) (own := RX7) (v := .int (F 24)) hx hb ht inlX7 hown hK hP 0 rfl rfl 24 (Nat.le_of_ble_eq_true rfl) (ht _ mw_48_11) (fun _ h9 => h9) rfl dX7_bleats_1 ?_
  refine lv_iconst (v := 1) hx hb dX7_bleats_4 (by decide) ?_
  refine lv_icmp_eq (tgt := 16) hx hb dX7_bleats_5 (by decide) (fun c5 => ?_) (fun c5 => ?_)
  · replace h := h.1 c5
    exact b_X7_bleats_J16 F A x1 X ret  _ _ _ h hP hD hS (lv_sub hl [0, 1] rfl)
  · replace h := h.2 c5
    refine lv_aload_n hx hb dX7_bleats_8 rfl (lv_at hl 0 rfl) ?_
    refine va_get (C := RX7) (T := TX7) (N := 28) (own := RX7) (v := .int (F 24)) hx hb ht inlX7 hown hK hP 0 rfl rfl 24 (Nat.le_of_ble_eq_true rfl) (ht _ mw_48_11) (fun _ h9 => h9) rfl dX7_bleats_9 ?_
    refine lv_iconst (v := 3) hx hb dX7_bleats_12 (by decide) ?_
    refine lv_icmp_ne (tgt := 30) hx hb dX7_bleats_13 (by decide) (fun c13 => ?_) (fun c13 => ?_)
    · replace h := h.1 c13
      refine lv_aload_n hx hb dX7_bleats_30 rfl (lv_at hl 0 rfl) ?_
      refine va_get (C := RX7) (T := TX7) (N := 28) (own := RX7) (v := .int (F 24)) hx hb ht inlX7 hown hK hP 0 rfl rfl 24 (Nat.le_of_ble_eq_true rfl) (ht _ mw_48_11) (fun _ h9 => h9) rfl dX7_bleats_31 ?_
      refine lv_iconst (v := 4) hx hb dX7_bleats_34 (by decide) ?_
      refine lv_icmp_ne (tgt := 61) hx hb dX7_bleats_35 (by decide) (fun c35 => ?_) (fun c35 => ?_)
      · replace h := h.1 c35
        refine lv_aload_n hx hb dX7_bleats_61 rfl (lv_at hl 0 rfl) ?_
        refine lv_iload_n hx hb dX7_bleats_62 rfl (lv_at hl 1 rfl) ?_
        refine C_vi (wr := []) X hP hD hS [.int x1] [] (w_X7_bleatsPlain l D cI cZ cR adK adV _ o q F A x1 _ h) cal_X7_bleatsPlain mw_49_10 rfl [0, 1, 2, 3, 4, 5, 6, 7, 8, 9, 10, 11, 12, 13, 14, 15] [] [0, 1, 2, 3, 4, 5, 6, 7, 8, 9, 10, 11, 12, 13, 14, 15] (fun u => (wX7 cI cZ o q u.1 u.2 : va_W)) rfl rfl (fun _ => rfl) rfl 0 rfl rfl ⟨rfl, rfl⟩ ⟨Nat.le_of_ble_eq_true rfl, Nat.le_of_ble_eq_true rfl⟩ hl.1 rfl (Nat.le_of_ble_eq_true rfl) ⟨Nat.zero_le _, Nat.zero_le _⟩ dX7_bleats_63 (fun r63 u H locs h hP hD hS => ?_)
        obtain ⟨F_63, A_63⟩ := u
        try dsimp only at h
        have hP : va_P D vwCl (wX7 cI cZ o q F_63 A_63 : va_W) H := hP
        have hD : va_D A9 (wX7 cI cZ o q F_63 A_63 : va_W) := hD
        exact ret _ (F_63, A_63) _ _ _ _ dX7_bleats_66 h hP hD hS
      · replace h := h.2 c35
        refine lv_aload_n hx hb dX7_bleats_38 rfl (lv_at hl 0 rfl) ?_
        refine lv_bipush (v := 41) hx hb dX7_bleats_39 (by decide) ?_
        refine C_vv (wr := []) X hP hD hS [.int (41 : Int32)] [] (w_X7_runs l D cI cZ cR adK adV _ o q F A (41 : Int32) _ h) cal_X7_runs mw_48_22 rfl [0, 1, 2, 3, 4, 5, 6, 7, 8, 9, 10, 11, 12, 13, 14, 15] [] [0, 1, 2, 3, 4, 5, 6, 7, 8, 9, 10, 11, 12, 13, 14, 15] (fun u => (wX7 cI cZ o q u.1 u.2 : va_W)) rfl rfl (fun _ => rfl) rfl 0 rfl rfl ⟨rfl, rfl⟩ ⟨Nat.le_of_ble_eq_true rfl, Nat.le_of_ble_eq_true rfl⟩ hl.1 rfl (Nat.le_of_ble_eq_true rfl) ⟨Nat.zero_le _, Nat.zero_le _⟩ dX7_bleats_41 (fun u H locs h hP hD hS => ?_)
        obtain ⟨F_41, A_41⟩ := u
        try dsimp only at h
        have hP : va_P D vwCl (wX7 cI cZ o q F_41 A_41 : va_W) H := hP
        have hD : va_D A9 (wX7 cI cZ o q F_41 A_41 : va_W) := hD
        refine lv_aload_n hx hb dX7_bleats_44 rfl (lv_at hl 0 rfl) ?_
        refine lv_iload_n hx hb dX7_bleats_45 rfl (lv_at hl 1 rfl) ?_
        refine C_vi (wr := []) X hP hD hS [.int x1] [] (w_X7_bleatsPlain l D cI cZ cR adK adV _ o q F_41 A_41 x1 _ h) cal_X7_bleatsPlain mw_49_10 rfl [0, 1, 2, 3, 4, 5, 6, 7, 8, 9, 10, 11, 12, 13, 14, 15] [] [0, 1, 2, 3, 4, 5, 6, 7, 8, 9, 10, 11, 12, 13, 14, 15] (fun u => (wX7 cI cZ o q u.1 u.2 : va_W)) rfl rfl (fun _ => rfl) rfl 0 rfl rfl ⟨rfl, rfl⟩ ⟨Nat.le_of_ble_eq_true rfl, Nat.le_of_ble_eq_true rfl⟩ hl.1 rfl (Nat.le_of_ble_eq_true rfl) ⟨Nat.zero_le _, Nat.zero_le _⟩ dX7_bleats_46 (fun r46 u H locs h hP hD hS => ?_)
        obtain ⟨F_46, A_46⟩ := u
        try dsimp only at h
        have hP : va_P D vwCl (wX7 cI cZ o q F_46 A_46 : va_W) H := hP
        have hD : va_D A9 (wX7 cI cZ o q F_46 A_46 : va_W) := hD
        refine lv_istore_n (lv' := [(2, .int r46), (0, .ref o), (1, .int x1)]) hx hb dX7_bleats_49 rfl hl (by decide) rfl (fun ls hl => ?_)
        refine lv_iload_n hx hb dX7_bleats_50 rfl (lv_at hl 0 rfl) ?_
        refine lv_aload_n hx hb dX7_bleats_51 rfl (lv_at hl 1 rfl) ?_
        refine lv_aload_n hx hb dX7_bleats_52 rfl (lv_at hl 1 rfl) ?_
        refine va_get (C := RX7) (T := TX7) (N := 28) (own := RX7) (v := .int (F_46 26)) hx hb ht inlX7 hown hK hP 0 rfl rfl 26 (Nat.le_of_ble_eq_true rfl) (ht _ mw_48_13) (fun _ h9 => h9) rfl dX7_bleats_53 ?_
        refine C_vi (wr := []) X hP hD hS [.int (F_46 26)] [.int r46] (w_X7_asks l D cI cZ cR adK adV _ o q F_46 A_46 (F_46 26) _ h) cal_X7_asks mw_48_14 rfl [0, 1, 2, 3, 4, 5, 6, 7, 8, 9, 10, 11, 12, 13, 14, 15] [] [0, 1, 2, 3, 4, 5, 6, 7, 8, 9, 10, 11, 12, 13, 14, 15] (fun u => (wX7 cI cZ o q u.1 u.2 : va_W)) rfl rfl (fun _ => rfl) rfl 0 rfl rfl ⟨rfl, rfl⟩ ⟨Nat.le_of_ble_eq_true rfl, Nat.le_of_ble_eq_true rfl⟩ hl.1 rfl (Nat.le_of_ble_eq_true rfl) ⟨Nat.zero_le _, Nat.zero_le _⟩ dX7_bleats_56 (fun r56 u H locs h hP hD hS => ?_)
        obtain ⟨F_56, A_56⟩ := u
        try dsimp only at h
        have hP : va_P D vwCl (wX7 cI cZ o q F_56 A_56 : va_W) H := hP
        have hD : va_D A9 (wX7 cI cZ o q F_56 A_56 : va_W) := hD
        refine lv_ixor hx hb dX7_bleats_59 ?_
        exact ret _ (F_56, A_56) _ _ _ _ dX7_bleats_60 h hP hD hS
    · replace h := h.2 c13
      exact b_X7_bleats_J16 F A x1 X ret  _ _ _ h hP hD hS (lv_sub hl [0, 1] rfl)
theorem dX7_turnsPlain_0 : decode cX7_turnsPlain 0 = .ok (.aload_n 0, 1) := by decide +kernel
theorem dX7_turnsPlain_1 : decode cX7_turnsPlain 1 = .ok (.bipush 12, 2) := by decide +kernel
theorem dX7_turnsPlain_3 : decode cX7_turnsPlain 3 = .ok (.invokevirtual 310, 3) := by decide +kernel
theorem dX7_turnsPlain_6 : decode cX7_turnsPlain 6 = .ok (.aload_n 0, 1) := by decide +kernel
theorem dX7_turnsPlain_7 : decode cX7_turnsPlain 7 = .ok (.aload_n 0, 1) := by decide +kernel
theorem dX7_turnsPlain_8 : decode cX7_turnsPlain 8 = .ok (.getfield 334, 3) := by decide +kernel
theorem dX7_turnsPlain_11 : decode cX7_turnsPlain 11 = .ok (.ifCond .ne 14, 3) := by decide +kernel
theorem dX7_turnsPlain_14 : decode cX7_turnsPlain 14 = .ok (.aload_n 0, 1) := by decide +kernel
theorem dX7_turnsPlain_15 : decode cX7_turnsPlain 15 = .ok (.getfield 313, 3) := by decide +kernel
theorem dX7_turnsPlain_18 : decode cX7_turnsPlain 18 = .ok (.aload_n 0, 1) := by decide +kernel
theorem dX7_turnsPlain_19 : decode cX7_turnsPlain 19 = .ok (.getfield 328, 3) := by decide +kernel
theorem dX7_turnsPlain_22 : decode cX7_turnsPlain 22 = .ok (.if_icmp .ne 7, 3) := by decide +kernel
theorem dX7_turnsPlain_25 : decode cX7_turnsPlain 25 = .ok (.iconst 1, 1) := by decide +kernel
theorem dX7_turnsPlain_26 : decode cX7_turnsPlain 26 = .ok (.goto 4, 3) := by decide +kernel
theorem dX7_turnsPlain_29 : decode cX7_turnsPlain 29 = .ok (.iconst 0, 1) := by decide +kernel
theorem dX7_turnsPlain_30 : decode cX7_turnsPlain 30 = .ok (.putfield 334, 3) := by decide +kernel
theorem dX7_turnsPlain_33 : decode cX7_turnsPlain 33 = .ok (.aload_n 0, 1) := by decide +kernel
theorem dX7_turnsPlain_34 : decode cX7_turnsPlain 34 = .ok (.getfield 334, 3) := by decide +kernel
theorem dX7_turnsPlain_37 : decode cX7_turnsPlain 37 = .ok (.ifCond .eq 7, 3) := by decide +kernel
theorem dX7_turnsPlain_40 : decode cX7_turnsPlain 40 = .ok (.iconst 0, 1) := by decide +kernel
theorem dX7_turnsPlain_41 : decode cX7_turnsPlain 41 = .ok (.goto 14, 3) := by decide +kernel
theorem dX7_turnsPlain_44 : decode cX7_turnsPlain 44 = .ok (.iload_n 1, 1) := by decide +kernel
theorem dX7_turnsPlain_45 : decode cX7_turnsPlain 45 = .ok (.aload_n 0, 1) := by decide +kernel
theorem dX7_turnsPlain_46 : decode cX7_turnsPlain 46 = .ok (.getfield 328, 3) := by decide +kernel
theorem dX7_turnsPlain_49 : decode cX7_turnsPlain 49 = .ok (.aload_n 0, 1) := by decide +kernel
theorem dX7_turnsPlain_50 : decode cX7_turnsPlain 50 = .ok (.getfield 313, 3) := by decide +kernel
theorem dX7_turnsPlain_53 : decode cX7_turnsPlain 53 = .ok (.isub, 1) := by decide +kernel
theorem dX7_turnsPlain_54 : decode cX7_turnsPlain 54 = .ok (.idiv, 1) := by decide +kernel
theorem dX7_turnsPlain_55 : decode cX7_turnsPlain 55 = .ok (.ireturn, 1) := by decide +kernel
def p_X7_turnsPlain_J30 (F : tF) (A : tA) (K : Int32 → tF → tA → Prop) (x1 : Int32) (s0 : Int32) : Prop := (bo s0 ∧ ((s0 = 0 → (¬ ((F 26) - (F 25)) = 0 ∧ (K (x1 / ((F 26) - (F 25))) (upd F 27 s0) A))) ∧ (¬ s0 = 0 → (K (0 : Int32) (upd F 27 s0) A))))
set_option maxHeartbeats 4000000 in
set_option maxRecDepth 100000 in
theorem b_X7_turnsPlain_J30 {p : Program} {l : Launch} {e : Env} {s : State} {m : MethodId} {args : Array Value} {below : List Frame} {meth : Method} {c : Code} {Q : State → Prop} {D : va_G} {cI cZ cR : ClassId} {adK adV : Nat → Nat} {A9 : Nat → Prop} {o : Nat} {q : Nat → Nat} {K : Int32 → tF → tA → Prop}  (F : tF) (A : tA) (x1 : Int32) (s0 : Int32) (X : CX p s m args c yX7_turnsPlain.cls cX7_turnsPlain 2 D cI cZ cR adK adV A9) (ret : RTi p l e (rmN 1 21) s m args below meth c Q cX7_turnsPlain D A9 (fun (r : Int32) (u : (tF × tA)) => K r u.1 u.2) (fun (u : (tF × tA)) => (wX7 cI cZ o q u.1 u.2 : va_W)))  (H : Heap) (locs : List Loc) (ls : Array Slot) (h : p_X7_turnsPlain_J30 F A K x1 s0) (hP : va_P D vwCl (wX7 cI cZ o q F A : va_W) H) (hD : va_D A9 (wX7 cI cZ o q F A : va_W)) (hS : va_S A9 s.heap H locs) (hl : lv_has ls 2 [(0, .ref o), (1, .int x1)]) : W p l e (rmN 1 21) s m args below meth c H locs 0 0 Q (F0 m 30 ls [.int s0, .ref o]) := by
  obtain ⟨hx, hb, hml, ht, hown, hK, hA, hE⟩ := id X
  unfold p_X7_turnsPlain_J30 at h
  obtain ⟨hz30, h⟩ := h
  refine va_put (C := RX7) (T := TX7) (N := 28) (own := RX7) (v := .int s0) hx hb ht inlX7 tyX7 tyX7_ok nmX7 hown hK hP hD hS 0 rfl rfl 27 (Nat.le_of_ble_eq_true rfl) (ht _ mw_48_10) (fun _ h9 => h9) rfl (tyX7_ok 27 (Nat.le_of_ble_eq_true rfl)) (bo_n hz30) (bo_f hz30) (Nat.le_of_ble_eq_true rfl) dX7_turnsPlain_30 (fun H locs hP hD hS => ?_)
  have hP : va_P D vwCl (wX7 cI cZ o q (upd F 27 s0) A : va_W) H := hP
  have hD : va_D A9 (wX7 cI cZ o q (upd F 27 s0) A : va_W) := hD
  refine lv_aload_n hx hb dX7_turnsPlain_33 rfl (lv_at hl 0 rfl) ?_
  refine va_get (C := RX7) (T := TX7) (N := 28) (own := RX7) (v := .int s0) hx hb ht inlX7 hown hK hP 0 rfl rfl 27 (Nat.le_of_ble_eq_true rfl) (ht _ mw_48_10) (fun _ h9 => h9) rfl dX7_turnsPlain_34 ?_
  refine lv_if_eq (tgt := 44) hx hb dX7_turnsPlain_37 (by decide) (fun c37 => ?_) (fun c37 => ?_)
  · replace h := h.1 c37
    refine lv_iload_n hx hb dX7_turnsPlain_44 rfl (lv_at hl 1 rfl) ?_
    refine lv_aload_n hx hb dX7_turnsPlain_45 rfl (lv_at hl 0 rfl) ?_
    refine va_get (C := RX7) (T := TX7) (N := 28) (own := RX7) (v := .int (F 26)) hx hb ht inlX7 hown hK hP 0 rfl rfl 26 (Nat.le_of_ble_eq_true rfl) (ht _ mw_48_13) (fun _ h9 => h9) rfl dX7_turnsPlain_46 ?_
    refine lv_aload_n hx hb dX7_turnsPlain_49 rfl (lv_at hl 0 rfl) ?_
    refine va_get (C := RX7) (T := TX7) (N := 28) (own := RX7) (v := .int (F 25)) hx hb ht inlX7 hown hK hP 0 rfl rfl 25 (Nat.le_of_ble_eq_true rfl) (ht _ mw_48_12) (fun _ h9 => h9) rfl dX7_turnsPlain_50 ?_
    refine lv_isub hx hb dX7_turnsPlain_53 ?_
    obtain ⟨hz54, h⟩ := h
    refine lv_idiv hx hb dX7_turnsPlain_54 hz54 ?_
    exact ret _ ((upd F 27 s0), A) _ _ _ _ dX7_turnsPlain_55 h hP hD hS
  · replace h := h.2 c37
    refine lv_iconst (v := 0) hx hb dX7_turnsPlain_40 (by decide) ?_
    refine lv_goto (tgt := 55) hx hb dX7_turnsPlain_41 (by decide) ?_
    exact ret _ ((upd F 27 s0), A) _ _ _ _ dX7_turnsPlain_55 h hP hD hS
def p_X7_turnsPlain_J25 (F : tF) (A : tA) (K : Int32 → tF → tA → Prop) (x1 : Int32) : Prop := (p_X7_turnsPlain_J30 F A K x1 (1 : Int32))
set_option maxHeartbeats 4000000 in
set_option maxRecDepth 100000 in
theorem b_X7_turnsPlain_J25 {p : Program} {l : Launch} {e : Env} {s : State} {m : MethodId} {args : Array Value} {below : List Frame} {meth : Method} {c : Code} {Q : State → Prop} {D : va_G} {cI cZ cR : ClassId} {adK adV : Nat → Nat} {A9 : Nat → Prop} {o : Nat} {q : Nat → Nat} {K : Int32 → tF → tA → Prop}  (F : tF) (A : tA) (x1 : Int32) (X : CX p s m args c yX7_turnsPlain.cls cX7_turnsPlain 2 D cI cZ cR adK adV A9) (ret : RTi p l e (rmN 1 21) s m args below meth c Q cX7_turnsPlain D A9 (fun (r : Int32) (u : (tF × tA)) => K r u.1 u.2) (fun (u : (tF × tA)) => (wX7 cI cZ o q u.1 u.2 : va_W)))  (H : Heap) (locs : List Loc) (ls : Array Slot) (h : p_X7_turnsPlain_J25 F A K x1) (hP : va_P D vwCl (wX7 cI cZ o q F A : va_W) H) (hD : va_D A9 (wX7 cI cZ o q F A : va_W)) (hS : va_S A9 s.heap H locs) (hl : lv_has ls 2 [(0, .ref o), (1, .int x1)]) : W p l e (rmN 1 21) s m args below meth c H locs 0 0 Q (F0 m 25 ls [.ref o]) := by
  obtain ⟨hx, hb, hml, ht, hown, hK, hA, hE⟩ := id X
  unfold p_X7_turnsPlain_J25 at h
  refine lv_iconst (v := 1) hx hb dX7_turnsPlain_25 (by decide) ?_
  refine lv_goto (tgt := 30) hx hb dX7_turnsPlain_26 (by decide) ?_
  exact b_X7_turnsPlain_J30 F A x1 (1 : Int32) X ret  _ _ _ h hP hD hS (lv_sub hl [0, 1] rfl)
def p_X7_turnsPlain (F : tF) (A : tA) (x1 : Int32) (K : Int32 → tF → tA → Prop) : Prop := (p_X7_runs F A (12 : Int32) (fun F_3 A_3 => ((¬ (F_3 27) = 0 → (p_X7_turnsPlain_J25 F_3 A_3 K x1)) ∧ ((F_3 27) = 0 → ((¬ (F_3 25) = (F_3 26) → (p_X7_turnsPlain_J30 F_3 A_3 K x1 (0 : Int32))) ∧ ((F_3 25) = (F_3 26) → (p_X7_turnsPlain_J25 F_3 A_3 K x1)))))))
set_option maxHeartbeats 4000000 in
set_option maxRecDepth 100000 in
theorem w_X7_turnsPlain (l : Launch) (D : va_G) (cI cZ cR : ClassId) (adK adV : Nat → Nat) (sz : Nat) (o : Nat) (q : Nat → Nat) (F : tF) (A : tA) (x1 : Int32) (K : Int32 → tF → tA → Prop) (h : p_X7_turnsPlain F A x1 K) : MI l D cI cZ cR adK adV yX7_turnsPlain cX7_turnsPlain 2 (some .int) (rmN 1 21) [.ref o, .int x1] (wX7 cI cZ o q F A : va_W) sz (fun (r : Int32) (u : (tF × tA)) => K r u.1 u.2) (fun (u : (tF × tA)) => (wX7 cI cZ o q u.1 u.2 : va_W)) := by
  refine M_i (by decide +kernel) (Nat.le_of_ble_eq_true rfl) ?_
  intro p e s m args below meth c Q A9 ls X ret hP hD hS hl
  obtain ⟨hx, hb, hml, ht, hown, hK, hA, hE⟩ := id X
  have hl : lv_has ls 2 [(0, .ref o), (1, .int x1)] := hl
  unfold p_X7_turnsPlain at h
  refine lv_aload_n hx hb dX7_turnsPlain_0 rfl (lv_at hl 0 rfl) ?_
  refine lv_bipush (v := 12) hx hb dX7_turnsPlain_1 (by decide) ?_
  refine C_vv (wr := []) X hP hD hS [.int (12 : Int32)] [] (w_X7_runs l D cI cZ cR adK adV _ o q F A (12 : Int32) _ h) cal_X7_runs mw_48_22 rfl [0, 1, 2, 3, 4, 5, 6, 7, 8, 9, 10, 11, 12, 13, 14, 15] [] [0, 1, 2, 3, 4, 5, 6, 7, 8, 9, 10, 11, 12, 13, 14, 15] (fun u => (wX7 cI cZ o q u.1 u.2 : va_W)) rfl rfl (fun _ => rfl) rfl 0 rfl rfl ⟨rfl, rfl⟩ ⟨Nat.le_of_ble_eq_true rfl, Nat.le_of_ble_eq_true rfl⟩ hl.1 rfl (Nat.le_of_ble_eq_true rfl) ⟨Nat.zero_le _, Nat.zero_le _⟩ dX7_turnsPlain_3 (fun u H locs h hP hD hS => ?_)
  obtain ⟨F_3, A_3⟩ := u
  try dsimp only at h
  have hP : va_P D vwCl (wX7 cI cZ o q F_3 A_3 : va_W) H := hP
  have hD : va_D A9 (wX7 cI cZ o q F_3 A_3 : va_W) := hD
  refine lv_aload_n hx hb dX7_turnsPlain_6 rfl (lv_at hl 0 rfl) ?_
  refine lv_aload_n hx hb dX7_turnsPlain_7 rfl (lv_at hl 0 rfl) ?_
  refine va_get (C := RX7) (T := TX7) (N := 28) (own := RX7) (v := .int (F_3 27)) hx hb ht inlX7 hown hK hP 0 rfl rfl 27 (Nat.le_of_ble_eq_true rfl) (ht _ mw_48_10) (fun _ h9 => h9) rfl dX7_turnsPlain_8 ?_
  refine lv_if_ne (tgt := 25) hx hb dX7_turnsPlain_11 (by decide) (fun c11 => ?_) (fun c11 => ?_)
  · replace h := h.1 c11
    exact b_X7_turnsPlain_J25 F_3 A_3 x1 X ret  _ _ _ h hP hD hS (lv_sub hl [0, 1] rfl)
  · replace h := h.2 c11
    refine lv_aload_n hx hb dX7_turnsPlain_14 rfl (lv_at hl 0 rfl) ?_
    refine va_get (C := RX7) (T := TX7) (N := 28) (own := RX7) (v := .int (F_3 25)) hx hb ht inlX7 hown hK hP 0 rfl rfl 25 (Nat.le_of_ble_eq_true rfl) (ht _ mw_48_12) (fun _ h9 => h9) rfl dX7_turnsPlain_15 ?_
    refine lv_aload_n hx hb dX7_turnsPlain_18 rfl (lv_at hl 0 rfl) ?_
    refine va_get (C := RX7) (T := TX7) (N := 28) (own := RX7) (v := .int (F_3 26)) hx hb ht inlX7 hown hK hP 0 rfl rfl 26 (Nat.le_of_ble_eq_true rfl) (ht _ mw_48_13) (fun _ h9 => h9) rfl dX7_turnsPlain_19 ?_
    refine lv_icmp_ne (tgt := 29) hx hb dX7_turnsPlain_22 (by decide) (fun c22 => ?_) (fun c22 => ?_)
    · replace h := h.1 c22
      refine lv_iconst (v := 0) hx hb dX7_turnsPlain_29 (by decide) ?_
      exact b_X7_turnsPlain_J30 F_3 A_3 x1 (0 : Int32) X ret  _ _ _ h hP hD hS (lv_sub hl [0, 1] rfl)
    · replace h := h.2 c22
      exact b_X7_turnsPlain_J25 F_3 A_3 x1 X ret  _ _ _ h hP hD hS (lv_sub hl [0, 1] rfl)
theorem cal_X7_turnsPlain : CalV yX7_turnsPlain cX7_turnsPlain 2 (some .int) 1 := ⟨mw_49_21, mw_1_5, mw_49_19, mw_49_20, ⟨by decide +kernel, by decide +kernel, by decide +kernel⟩⟩
theorem dX7_turns_0 : decode cX7_turns 0 = .ok (.aload_n 0, 1) := by decide +kernel
theorem dX7_turns_1 : decode cX7_turns 1 = .ok (.getfield 319, 3) := by decide +kernel
theorem dX7_turns_4 : decode cX7_turns 4 = .ok (.iconst 3, 1) := by decide +kernel
theorem dX7_turns_5 : decode cX7_turns 5 = .ok (.if_icmp .ne 23, 3) := by decide +kernel
theorem dX7_turns_8 : decode cX7_turns 8 = .ok (.aload_n 0, 1) := by decide +kernel
theorem dX7_turns_9 : decode cX7_turns 9 = .ok (.bipush 50, 2) := by decide +kernel
theorem dX7_turns_11 : decode cX7_turns 11 = .ok (.invokevirtual 310, 3) := by decide +kernel
theorem dX7_turns_14 : decode cX7_turns 14 = .ok (.aload_n 0, 1) := by decide +kernel
theorem dX7_turns_15 : decode cX7_turns 15 = .ok (.iload_n 1, 1) := by decide +kernel
theorem dX7_turns_16 : decode cX7_turns 16 = .ok (.bipush 7, 2) := by decide +kernel
theorem dX7_turns_18 : decode cX7_turns 18 = .ok (.isub, 1) := by decide +kernel
theorem dX7_turns_19 : decode cX7_turns 19 = .ok (.invokevirtual 337, 3) := by decide +kernel
theorem dX7_turns_22 : decode cX7_turns 22 = .ok (.aload_n 0, 1) := by decide +kernel
theorem dX7_turns_23 : decode cX7_turns 23 = .ok (.getfield 328, 3) := by decide +kernel
theorem dX7_turns_26 : decode cX7_turns 26 = .ok (.iadd, 1) := by decide +kernel
theorem dX7_turns_27 : decode cX7_turns 27 = .ok (.ireturn, 1) := by decide +kernel
theorem dX7_turns_28 : decode cX7_turns 28 = .ok (.aload_n 0, 1) := by decide +kernel
theorem dX7_turns_29 : decode cX7_turns 29 = .ok (.getfield 319, 3) := by decide +kernel
theorem dX7_turns_32 : decode cX7_turns 32 = .ok (.iconst 5, 1) := by decide +kernel
theorem dX7_turns_33 : decode cX7_turns 33 = .ok (.if_icmp .ne 37, 3) := by decide +kernel
theorem dX7_turns_36 : decode cX7_turns 36 = .ok (.aload_n 0, 1) := by decide +kernel
theorem dX7_turns_37 : decode cX7_turns 37 = .ok (.bipush 61, 2) := by decide +kernel
theorem dX7_turns_39 : decode cX7_turns 39 = .ok (.invokevirtual 310, 3) := by decide +kernel
theorem dX7_turns_42 : decode cX7_turns 42 = .ok (.aload_n 0, 1) := by decide +kernel
theorem dX7_turns_43 : decode cX7_turns 43 = .ok (.iload_n 1, 1) := by decide +kernel
theorem dX7_turns_44 : decode cX7_turns 44 = .ok (.invokevirtual 337, 3) := by decide +kernel
theorem dX7_turns_47 : decode cX7_turns 47 = .ok (.istore_n 2, 1) := by decide +kernel
theorem dX7_turns_48 : decode cX7_turns 48 = .ok (.aload_n 0, 1) := by decide +kernel
theorem dX7_turns_49 : decode cX7_turns 49 = .ok (.getfield 334, 3) := by decide +kernel
theorem dX7_turns_52 : decode cX7_turns 52 = .ok (.ifCond .eq 7, 3) := by decide +kernel
theorem dX7_turns_55 : decode cX7_turns 55 = .ok (.iconst 0, 1) := by decide +kernel
theorem dX7_turns_56 : decode cX7_turns 56 = .ok (.goto 13, 3) := by decide +kernel
theorem dX7_turns_59 : decode cX7_turns 59 = .ok (.iload_n 2, 1) := by decide +kernel
theorem dX7_turns_60 : decode cX7_turns 60 = .ok (.aload_n 0, 1) := by decide +kernel
theorem dX7_turns_61 : decode cX7_turns 61 = .ok (.aload_n 0, 1) := by decide +kernel
theorem dX7_turns_62 : decode cX7_turns 62 = .ok (.getfield 313, 3) := by decide +kernel
theorem dX7_turns_65 : decode cX7_turns 65 = .ok (.invokevirtual 325, 3) := by decide +kernel
theorem dX7_turns_68 : decode cX7_turns 68 = .ok (.isub, 1) := by decide +kernel
theorem dX7_turns_69 : decode cX7_turns 69 = .ok (.ireturn, 1) := by decide +kernel
theorem dX7_turns_70 : decode cX7_turns 70 = .ok (.aload_n 0, 1) := by decide +kernel
theorem dX7_turns_71 : decode cX7_turns 71 = .ok (.iload_n 1, 1) := by decide +kernel
theorem dX7_turns_72 : decode cX7_turns 72 = .ok (.invokevirtual 337, 3) := by decide +kernel
theorem dX7_turns_75 : decode cX7_turns 75 = .ok (.ireturn, 1) := by decide +kernel
def p_X7_turns (F : tF) (A : tA) (x1 : Int32) (K : Int32 → tF → tA → Prop) : Prop := ((¬ (F 24) = (3 : Int32) → ((¬ (F 24) = (5 : Int32) → (p_X7_turnsPlain F A x1 (fun r72 F_72 A_72 => (K r72 F_72 A_72)))) ∧ ((F 24) = (5 : Int32) → (p_X7_runs F A (61 : Int32) (fun F_39 A_39 => (p_X7_turnsPlain F_39 A_39 x1 (fun r44 F_44 A_44 => (((F_44 27) = 0 → (p_X7_asks F_44 A_44 (F_44 25) (fun r65 F_65 A_65 => (K (r44 - r65) F_65 A_65)))) ∧ (¬ (F_44 27) = 0 → (K (0 : Int32) F_44 A_44)))))))))) ∧ ((F 24) = (3 : Int32) → (p_X7_runs F A (50 : Int32) (fun F_11 A_11 => (p_X7_turnsPlain F_11 A_11 (x1 - (7 : Int32)) (fun r19 F_19 A_19 => (K (r19 + (F_19 26)) F_19 A_19)))))))
set_option maxHeartbeats 4000000 in
set_option maxRecDepth 100000 in
theorem w_X7_turns (l : Launch) (D : va_G) (cI cZ cR : ClassId) (adK adV : Nat → Nat) (sz : Nat) (o : Nat) (q : Nat → Nat) (F : tF) (A : tA) (x1 : Int32) (K : Int32 → tF → tA → Prop) (h : p_X7_turns F A x1 K) : MI l D cI cZ cR adK adV yX7_turns cX7_turns 3 (some .int) (rmN 4 84) [.ref o, .int x1] (wX7 cI cZ o q F A : va_W) sz (fun (r : Int32) (u : (tF × tA)) => K r u.1 u.2) (fun (u : (tF × tA)) => (wX7 cI cZ o q u.1 u.2 : va_W)) := by
  refine M_i (by decide +kernel) (Nat.le_of_ble_eq_true rfl) ?_
  intro p e s m args below meth c Q A9 ls X ret hP hD hS hl
  obtain ⟨hx, hb, hml, ht, hown, hK, hA, hE⟩ := id X
  have hl : lv_has ls 3 [(0, .ref o), (1, .int x1)] := hl
  unfold p_X7_turns at h
  refine lv_aload_n hx hb dX7_turns_0 rfl (lv_at hl 0 rfl) ?_
  refine va_get (C := RX7) (T := TX7) (N := 28) (own := RX7) (v := .int (F 24)) hx hb ht inlX7 hown hK hP 0 rfl rfl 24 (Nat.le_of_ble_eq_true rfl) (ht _ mw_48_11) (fun _ h9 => h9) rfl dX7_turns_1 ?_
  refine lv_iconst (v := 3) hx hb dX7_turns_4 (by decide) ?_
  refine lv_icmp_ne (tgt := 28) hx hb dX7_turns_5 (by decide) (fun c5 => ?_) (fun c5 => ?_)
  · replace h := h.1 c5
    refine lv_aload_n hx hb dX7_turns_28 rfl (lv_at hl 0 rfl) ?_
    refine va_get (C := RX7) (T := TX7) (N := 28) (own := RX7) (v := .int (F 24)) hx hb ht inlX7 hown hK hP 0 rfl rfl 24 (Nat.le_of_ble_eq_true rfl) (ht _ mw_48_11) (fun _ h9 => h9) rfl dX7_turns_29 ?_
    refine lv_iconst (v := 5) hx hb dX7_turns_32 (by decide) ?_
    refine lv_icmp_ne (tgt := 70) hx hb dX7_turns_33 (by decide) (fun c33 => ?_) (fun c33 => ?_)
    · replace h := h.1 c33
      refine lv_aload_n hx hb dX7_turns_70 rfl (lv_at hl 0 rfl) ?_
      refine lv_iload_n hx hb dX7_turns_71 rfl (lv_at hl 1 rfl) ?_
      refine C_vi (wr := []) X hP hD hS [.int x1] [] (w_X7_turnsPlain l D cI cZ cR adK adV _ o q F A x1 _ h) cal_X7_turnsPlain mw_49_18 rfl [0, 1, 2, 3, 4, 5, 6, 7, 8, 9, 10, 11, 12, 13, 14, 15] [] [0, 1, 2, 3, 4, 5, 6, 7, 8, 9, 10, 11, 12, 13, 14, 15] (fun u => (wX7 cI cZ o q u.1 u.2 : va_W)) rfl rfl (fun _ => rfl) rfl 0 rfl rfl ⟨rfl, rfl⟩ ⟨Nat.le_of_ble_eq_true rfl, Nat.le_of_ble_eq_true rfl⟩ hl.1 rfl (Nat.le_of_ble_eq_true rfl) ⟨Nat.zero_le _, Nat.zero_le _⟩ dX7_turns_72 (fun r72 u H locs h hP hD hS => ?_)
      obtain ⟨F_72, A_72⟩ := u
      try dsimp only at h
      have hP : va_P D vwCl (wX7 cI cZ o q F_72 A_72 : va_W) H := hP
      have hD : va_D A9 (wX7 cI cZ o q F_72 A_72 : va_W) := hD
      exact ret _ (F_72, A_72) _ _ _ _ dX7_turns_75 h hP hD hS
    · replace h := h.2 c33
      refine lv_aload_n hx hb dX7_turns_36 rfl (lv_at hl 0 rfl) ?_
      refine lv_bipush (v := 61) hx hb dX7_turns_37 (by decide) ?_
      refine C_vv (wr := []) X hP hD hS [.int (61 : Int32)] [] (w_X7_runs l D cI cZ cR adK adV _ o q F A (61 : Int32) _ h) cal_X7_runs mw_48_22 rfl [0, 1, 2, 3, 4, 5, 6, 7, 8, 9, 10, 11, 12, 13, 14, 15] [] [0, 1, 2, 3, 4, 5, 6, 7, 8, 9, 10, 11, 12, 13, 14, 15] (fun u => (wX7 cI cZ o q u.1 u.2 : va_W)) rfl rfl (fun _ => rfl) rfl 0 rfl rfl ⟨rfl, rfl⟩ ⟨Nat.le_of_ble_eq_true rfl, Nat.le_of_ble_eq_true rfl⟩ hl.1 rfl (Nat.le_of_ble_eq_true rfl) ⟨Nat.zero_le _, Nat.zero_le _⟩ dX7_turns_39 (fun u H locs h hP hD hS => ?_)
      obtain ⟨F_39, A_39⟩ := u
      try dsimp only at h
      have hP : va_P D vwCl (wX7 cI cZ o q F_39 A_39 : va_W) H := hP
      have hD : va_D A9 (wX7 cI cZ o q F_39 A_39 : va_W) := hD
      refine lv_aload_n hx hb dX7_turns_42 rfl (lv_at hl 0 rfl) ?_
      refine lv_iload_n hx hb dX7_turns_43 rfl (lv_at hl 1 rfl) ?_
      refine C_vi (wr := []) X hP hD hS [.int x1] [] (w_X7_turnsPlain l D cI cZ cR adK adV _ o q F_39 A_39 x1 _ h) cal_X7_turnsPlain mw_49_18 rfl [0, 1, 2, 3, 4, 5, 6, 7, 8, 9, 10, 11, 12, 13, 14, 15] [] [0, 1, 2, 3, 4, 5, 6, 7, 8, 9, 10, 11, 12, 13, 14, 15] (fun u => (wX7 cI cZ o q u.1 u.2 : va_W)) rfl rfl (fun _ => rfl) rfl 0 rfl rfl ⟨rfl, rfl⟩ ⟨Nat.le_of_ble_eq_true rfl, Nat.le_of_ble_eq_true rfl⟩ hl.1 rfl (Nat.le_of_ble_eq_true rfl) ⟨Nat.zero_le _, Nat.zero_le _⟩ dX7_turns_44 (fun r44 u H locs h hP hD hS => ?_)
      obtain ⟨F_44, A_44⟩ := u
      try dsimp only at h
      have hP : va_P D vwCl (wX7 cI cZ o q F_44 A_44 : va_W) H := hP
      have hD : va_D A9 (wX7 cI cZ o q F_44 A_44 : va_W) := hD
      refine lv_istore_n (lv' := [(2, .int r44), (0, .ref o), (1, .int x1)]) hx hb dX7_turns_47 rfl hl (by decide) rfl (fun ls hl => ?_)
      refine lv_aload_n hx hb dX7_turns_48 rfl (lv_at hl 1 rfl) ?_
      refine va_get (C := RX7) (T := TX7) (N := 28) (own := RX7) (v := .int (F_44 27)) hx hb ht inlX7 hown hK hP 0 rfl rfl 27 (Nat.le_of_ble_eq_true rfl) (ht _ mw_48_10) (fun _ h9 => h9) rfl dX7_turns_49 ?_
      refine lv_if_eq (tgt := 59) hx hb dX7_turns_52 (by decide) (fun c52 => ?_) (fun c52 => ?_)
      · replace h := h.1 c52
        refine lv_iload_n hx hb dX7_turns_59 rfl (lv_at hl 0 rfl) ?_
        refine lv_aload_n hx hb dX7_turns_60 rfl (lv_at hl 1 rfl) ?_
        refine lv_aload_n hx hb dX7_turns_61 rfl (lv_at hl 1 rfl) ?_
        refine va_get (C := RX7) (T := TX7) (N := 28) (own := RX7) (v := .int (F_44 25)) hx hb ht inlX7 hown hK hP 0 rfl rfl 25 (Nat.le_of_ble_eq_true rfl) (ht _ mw_48_12) (fun _ h9 => h9) rfl dX7_turns_62 ?_
        refine C_vi (wr := []) X hP hD hS [.int (F_44 25)] [.int r44] (w_X7_asks l D cI cZ cR adK adV _ o q F_44 A_44 (F_44 25) _ h) cal_X7_asks mw_48_14 rfl [0, 1, 2, 3, 4, 5, 6, 7, 8, 9, 10, 11, 12, 13, 14, 15] [] [0, 1, 2, 3, 4, 5, 6, 7, 8, 9, 10, 11, 12, 13, 14, 15] (fun u => (wX7 cI cZ o q u.1 u.2 : va_W)) rfl rfl (fun _ => rfl) rfl 0 rfl rfl ⟨rfl, rfl⟩ ⟨Nat.le_of_ble_eq_true rfl, Nat.le_of_ble_eq_true rfl⟩ hl.1 rfl (Nat.le_of_ble_eq_true rfl) ⟨Nat.zero_le _, Nat.zero_le _⟩ dX7_turns_65 (fun r65 u H locs h hP hD hS => ?_)
        obtain ⟨F_65, A_65⟩ := u
        try dsimp only at h
        have hP : va_P D vwCl (wX7 cI cZ o q F_65 A_65 : va_W) H := hP
        have hD : va_D A9 (wX7 cI cZ o q F_65 A_65 : va_W) := hD
        refine lv_isub hx hb dX7_turns_68 ?_
        exact ret _ (F_65, A_65) _ _ _ _ dX7_turns_69 h hP hD hS
      · replace h := h.2 c52
        refine lv_iconst (v := 0) hx hb dX7_turns_55 (by decide) ?_
        refine lv_goto (tgt := 69) hx hb dX7_turns_56 (by decide) ?_
        exact ret _ (F_44, A_44) _ _ _ _ dX7_turns_69 h hP hD hS
  · replace h := h.2 c5
    refine lv_aload_n hx hb dX7_turns_8 rfl (lv_at hl 0 rfl) ?_
    refine lv_bipush (v := 50) hx hb dX7_turns_9 (by decide) ?_
    refine C_vv (wr := []) X hP hD hS [.int (50 : Int32)] [] (w_X7_runs l D cI cZ cR adK adV _ o q F A (50 : Int32) _ h) cal_X7_runs mw_48_22 rfl [0, 1, 2, 3, 4, 5, 6, 7, 8, 9, 10, 11, 12, 13, 14, 15] [] [0, 1, 2, 3, 4, 5, 6, 7, 8, 9, 10, 11, 12, 13, 14, 15] (fun u => (wX7 cI cZ o q u.1 u.2 : va_W)) rfl rfl (fun _ => rfl) rfl 0 rfl rfl ⟨rfl, rfl⟩ ⟨Nat.le_of_ble_eq_true rfl, Nat.le_of_ble_eq_true rfl⟩ hl.1 rfl (Nat.le_of_ble_eq_true rfl) ⟨Nat.zero_le _, Nat.zero_le _⟩ dX7_turns_11 (fun u H locs h hP hD hS => ?_)
    obtain ⟨F_11, A_11⟩ := u
    try dsimp only at h
    have hP : va_P D vwCl (wX7 cI cZ o q F_11 A_11 : va_W) H := hP
    have hD : va_D A9 (wX7 cI cZ o q F_11 A_11 : va_W) := hD
    refine lv_aload_n hx hb dX7_turns_14 rfl (lv_at hl 0 rfl) ?_
    refine lv_iload_n hx hb dX7_turns_15 rfl (lv_at hl 1 rfl) ?_
    refine lv_bipush (v := 7) hx hb dX7_turns_16 (by decide) ?_
    refine lv_isub hx hb dX7_turns_18 ?_
    refine C_vi (wr := []) X hP hD hS [.int (x1 - (7 : Int32))] [] (w_X7_turnsPlain l D cI cZ cR adK adV _ o q F_11 A_11 (x1 - (7 : Int32)) _ h) cal_X7_turnsPlain mw_49_18 rfl [0, 1, 2, 3, 4, 5, 6, 7, 8, 9, 10, 11, 12, 13, 14, 15] [] [0, 1, 2, 3, 4, 5, 6, 7, 8, 9, 10, 11, 12, 13, 14, 15] (fun u => (wX7 cI cZ o q u.1 u.2 : va_W)) rfl rfl (fun _ => rfl) rfl 0 rfl rfl ⟨rfl, rfl⟩ ⟨Nat.le_of_ble_eq_true rfl, Nat.le_of_ble_eq_true rfl⟩ hl.1 rfl (Nat.le_of_ble_eq_true rfl) ⟨Nat.zero_le _, Nat.zero_le _⟩ dX7_turns_19 (fun r19 u H locs h hP hD hS => ?_)
    obtain ⟨F_19, A_19⟩ := u
    try dsimp only at h
    have hP : va_P D vwCl (wX7 cI cZ o q F_19 A_19 : va_W) H := hP
    have hD : va_D A9 (wX7 cI cZ o q F_19 A_19 : va_W) := hD
    refine lv_aload_n hx hb dX7_turns_22 rfl (lv_at hl 0 rfl) ?_
    refine va_get (C := RX7) (T := TX7) (N := 28) (own := RX7) (v := .int (F_19 26)) hx hb ht inlX7 hown hK hP 0 rfl rfl 26 (Nat.le_of_ble_eq_true rfl) (ht _ mw_48_13) (fun _ h9 => h9) rfl dX7_turns_23 ?_
    refine lv_iadd hx hb dX7_turns_26 ?_
    exact ret _ (F_19, A_19) _ _ _ _ dX7_turns_27 h hP hD hS
theorem cal_X7_bleats : CalV yX7_bleats cX7_bleats 3 (some .int) 1 := ⟨mw_49_9, mw_1_5, mw_49_7, mw_49_8, ⟨by decide +kernel, by decide +kernel, by decide +kernel⟩⟩
theorem dX7_leadsPlain_0 : decode cX7_leadsPlain 0 = .ok (.aload_n 0, 1) := by decide +kernel
theorem dX7_leadsPlain_1 : decode cX7_leadsPlain 1 = .ok (.bipush 13, 2) := by decide +kernel
theorem dX7_leadsPlain_3 : decode cX7_leadsPlain 3 = .ok (.invokevirtual 310, 3) := by decide +kernel
theorem dX7_leadsPlain_6 : decode cX7_leadsPlain 6 = .ok (.aload_n 0, 1) := by decide +kernel
theorem dX7_leadsPlain_7 : decode cX7_leadsPlain 7 = .ok (.iload_n 1, 1) := by decide +kernel
theorem dX7_leadsPlain_8 : decode cX7_leadsPlain 8 = .ok (.invokevirtual 340, 3) := by decide +kernel
theorem dX7_leadsPlain_11 : decode cX7_leadsPlain 11 = .ok (.bipush 6, 2) := by decide +kernel
theorem dX7_leadsPlain_13 : decode cX7_leadsPlain 13 = .ok (.ixor, 1) := by decide +kernel
theorem dX7_leadsPlain_14 : decode cX7_leadsPlain 14 = .ok (.ireturn, 1) := by decide +kernel
def p_X7_leadsPlain (F : tF) (A : tA) (x1 : Int32) (K : Int32 → tF → tA → Prop) : Prop := (p_X7_runs F A (13 : Int32) (fun F_3 A_3 => (p_X7_bleats F_3 A_3 x1 (fun r8 F_8 A_8 => (K (r8 ^^^ (6 : Int32)) F_8 A_8)))))
set_option maxHeartbeats 4000000 in
set_option maxRecDepth 100000 in
theorem w_X7_leadsPlain (l : Launch) (D : va_G) (cI cZ cR : ClassId) (adK adV : Nat → Nat) (sz : Nat) (o : Nat) (q : Nat → Nat) (F : tF) (A : tA) (x1 : Int32) (K : Int32 → tF → tA → Prop) (h : p_X7_leadsPlain F A x1 K) : MI l D cI cZ cR adK adV yX7_leadsPlain cX7_leadsPlain 2 (some .int) (rmN 6 127) [.ref o, .int x1] (wX7 cI cZ o q F A : va_W) sz (fun (r : Int32) (u : (tF × tA)) => K r u.1 u.2) (fun (u : (tF × tA)) => (wX7 cI cZ o q u.1 u.2 : va_W)) := by
  refine M_i (by decide +kernel) (Nat.le_of_ble_eq_true rfl) ?_
  intro p e s m args below meth c Q A9 ls X ret hP hD hS hl
  obtain ⟨hx, hb, hml, ht, hown, hK, hA, hE⟩ := id X
  have hl : lv_has ls 2 [(0, .ref o), (1, .int x1)] := hl
  unfold p_X7_leadsPlain at h
  refine lv_aload_n hx hb dX7_leadsPlain_0 rfl (lv_at hl 0 rfl) ?_
  refine lv_bipush (v := 13) hx hb dX7_leadsPlain_1 (by decide) ?_
  refine C_vv (wr := []) X hP hD hS [.int (13 : Int32)] [] (w_X7_runs l D cI cZ cR adK adV _ o q F A (13 : Int32) _ h) cal_X7_runs mw_48_22 rfl [0, 1, 2, 3, 4, 5, 6, 7, 8, 9, 10, 11, 12, 13, 14, 15] [] [0, 1, 2, 3, 4, 5, 6, 7, 8, 9, 10, 11, 12, 13, 14, 15] (fun u => (wX7 cI cZ o q u.1 u.2 : va_W)) rfl rfl (fun _ => rfl) rfl 0 rfl rfl ⟨rfl, rfl⟩ ⟨Nat.le_of_ble_eq_true rfl, Nat.le_of_ble_eq_true rfl⟩ hl.1 rfl (Nat.le_of_ble_eq_true rfl) ⟨Nat.zero_le _, Nat.zero_le _⟩ dX7_leadsPlain_3 (fun u H locs h hP hD hS => ?_)
  obtain ⟨F_3, A_3⟩ := u
  try dsimp only at h
  have hP : va_P D vwCl (wX7 cI cZ o q F_3 A_3 : va_W) H := hP
  have hD : va_D A9 (wX7 cI cZ o q F_3 A_3 : va_W) := hD
  refine lv_aload_n hx hb dX7_leadsPlain_6 rfl (lv_at hl 0 rfl) ?_
  refine lv_iload_n hx hb dX7_leadsPlain_7 rfl (lv_at hl 1 rfl) ?_
  refine C_vi (wr := []) X hP hD hS [.int x1] [] (w_X7_bleats l D cI cZ cR adK adV _ o q F_3 A_3 x1 _ h) cal_X7_bleats mw_49_6 rfl [0, 1, 2, 3, 4, 5, 6, 7, 8, 9, 10, 11, 12, 13, 14, 15] [] [0, 1, 2, 3, 4, 5, 6, 7, 8, 9, 10, 11, 12, 13, 14, 15] (fun u => (wX7 cI cZ o q u.1 u.2 : va_W)) rfl rfl (fun _ => rfl) rfl 0 rfl rfl ⟨rfl, rfl⟩ ⟨Nat.le_of_ble_eq_true rfl, Nat.le_of_ble_eq_true rfl⟩ hl.1 rfl (Nat.le_of_ble_eq_true rfl) ⟨Nat.zero_le _, Nat.zero_le _⟩ dX7_leadsPlain_8 (fun r8 u H locs h hP hD hS => ?_)
  obtain ⟨F_8, A_8⟩ := u
  try dsimp only at h
  have hP : va_P D vwCl (wX7 cI cZ o q F_8 A_8 : va_W) H := hP
  have hD : va_D A9 (wX7 cI cZ o q F_8 A_8 : va_W) := hD
  refine lv_bipush (v := 6) hx hb dX7_leadsPlain_11 (by decide) ?_
  refine lv_ixor hx hb dX7_leadsPlain_13 ?_
  exact ret _ (F_8, A_8) _ _ _ _ dX7_leadsPlain_14 h hP hD hS
theorem cal_X7_leadsPlain : CalV yX7_leadsPlain cX7_leadsPlain 2 (some .int) 1 := ⟨mw_50_5, mw_1_5, mw_50_3, mw_50_4, ⟨by decide +kernel, by decide +kernel, by decide +kernel⟩⟩
theorem cal_X7_turns : CalV yX7_turns cX7_turns 3 (some .int) 1 := ⟨mw_49_17, mw_1_5, mw_49_15, mw_49_16, ⟨by decide +kernel, by decide +kernel, by decide +kernel⟩⟩
theorem dX7_leads_0 : decode cX7_leads 0 = .ok (.aload_n 0, 1) := by decide +kernel
theorem dX7_leads_1 : decode cX7_leads 1 = .ok (.getfield 319, 3) := by decide +kernel
theorem dX7_leads_4 : decode cX7_leads 4 = .ok (.iconst 2, 1) := by decide +kernel
theorem dX7_leads_5 : decode cX7_leads 5 = .ok (.if_icmp .eq 11, 3) := by decide +kernel
theorem dX7_leads_8 : decode cX7_leads 8 = .ok (.aload_n 0, 1) := by decide +kernel
theorem dX7_leads_9 : decode cX7_leads 9 = .ok (.getfield 319, 3) := by decide +kernel
theorem dX7_leads_12 : decode cX7_leads 12 = .ok (.iconst 4, 1) := by decide +kernel
theorem dX7_leads_13 : decode cX7_leads 13 = .ok (.if_icmp .ne 26, 3) := by decide +kernel
theorem dX7_leads_16 : decode cX7_leads 16 = .ok (.aload_n 0, 1) := by decide +kernel
theorem dX7_leads_17 : decode cX7_leads 17 = .ok (.bipush 31, 2) := by decide +kernel
theorem dX7_leads_19 : decode cX7_leads 19 = .ok (.invokevirtual 310, 3) := by decide +kernel
theorem dX7_leads_22 : decode cX7_leads 22 = .ok (.aload_n 0, 1) := by decide +kernel
theorem dX7_leads_23 : decode cX7_leads 23 = .ok (.iload_n 1, 1) := by decide +kernel
theorem dX7_leads_24 : decode cX7_leads 24 = .ok (.invokevirtual 343, 3) := by decide +kernel
theorem dX7_leads_27 : decode cX7_leads 27 = .ok (.istore_n 2, 1) := by decide +kernel
theorem dX7_leads_28 : decode cX7_leads 28 = .ok (.iload_n 2, 1) := by decide +kernel
theorem dX7_leads_29 : decode cX7_leads 29 = .ok (.aload_n 0, 1) := by decide +kernel
theorem dX7_leads_30 : decode cX7_leads 30 = .ok (.aload_n 0, 1) := by decide +kernel
theorem dX7_leads_31 : decode cX7_leads 31 = .ok (.getfield 313, 3) := by decide +kernel
theorem dX7_leads_34 : decode cX7_leads 34 = .ok (.invokevirtual 346, 3) := by decide +kernel
theorem dX7_leads_37 : decode cX7_leads 37 = .ok (.iadd, 1) := by decide +kernel
theorem dX7_leads_38 : decode cX7_leads 38 = .ok (.ireturn, 1) := by decide +kernel
theorem dX7_leads_39 : decode cX7_leads 39 = .ok (.aload_n 0, 1) := by decide +kernel
theorem dX7_leads_40 : decode cX7_leads 40 = .ok (.getfield 319, 3) := by decide +kernel
theorem dX7_leads_43 : decode cX7_leads 43 = .ok (.iconst 5, 1) := by decide +kernel
theorem dX7_leads_44 : decode cX7_leads 44 = .ok (.if_icmp .ne 18, 3) := by decide +kernel
theorem dX7_leads_47 : decode cX7_leads 47 = .ok (.aload_n 0, 1) := by decide +kernel
theorem dX7_leads_48 : decode cX7_leads 48 = .ok (.bipush 60, 2) := by decide +kernel
theorem dX7_leads_50 : decode cX7_leads 50 = .ok (.invokevirtual 310, 3) := by decide +kernel
theorem dX7_leads_53 : decode cX7_leads 53 = .ok (.bipush 100, 2) := by decide +kernel
theorem dX7_leads_55 : decode cX7_leads 55 = .ok (.aload_n 0, 1) := by decide +kernel
theorem dX7_leads_56 : decode cX7_leads 56 = .ok (.iload_n 1, 1) := by decide +kernel
theorem dX7_leads_57 : decode cX7_leads 57 = .ok (.invokevirtual 343, 3) := by decide +kernel
theorem dX7_leads_60 : decode cX7_leads 60 = .ok (.isub, 1) := by decide +kernel
theorem dX7_leads_61 : decode cX7_leads 61 = .ok (.ireturn, 1) := by decide +kernel
theorem dX7_leads_62 : decode cX7_leads 62 = .ok (.aload_n 0, 1) := by decide +kernel
theorem dX7_leads_63 : decode cX7_leads 63 = .ok (.iload_n 1, 1) := by decide +kernel
theorem dX7_leads_64 : decode cX7_leads 64 = .ok (.invokevirtual 343, 3) := by decide +kernel
theorem dX7_leads_67 : decode cX7_leads 67 = .ok (.ireturn, 1) := by decide +kernel
def p_X7_leads_J16 (F : tF) (A : tA) (K : Int32 → tF → tA → Prop) (x1 : Int32) : Prop := (p_X7_runs F A (31 : Int32) (fun F_19 A_19 => (p_X7_leadsPlain F_19 A_19 x1 (fun r24 F_24 A_24 => (p_X7_turns F_24 A_24 (F_24 25) (fun r34 F_34 A_34 => (K (r24 + r34) F_34 A_34)))))))
set_option maxHeartbeats 4000000 in
set_option maxRecDepth 100000 in
theorem b_X7_leads_J16 {p : Program} {l : Launch} {e : Env} {s : State} {m : MethodId} {args : Array Value} {below : List Frame} {meth : Method} {c : Code} {Q : State → Prop} {D : va_G} {cI cZ cR : ClassId} {adK adV : Nat → Nat} {A9 : Nat → Prop} {o : Nat} {q : Nat → Nat} {K : Int32 → tF → tA → Prop}  (F : tF) (A : tA) (x1 : Int32) (X : CX p s m args c yX7_leads.cls cX7_leads 3 D cI cZ cR adK adV A9) (ret : RTi p l e (rmN 7 148) s m args below meth c Q cX7_leads D A9 (fun (r : Int32) (u : (tF × tA)) => K r u.1 u.2) (fun (u : (tF × tA)) => (wX7 cI cZ o q u.1 u.2 : va_W)))  (H : Heap) (locs : List Loc) (ls : Array Slot) (h : p_X7_leads_J16 F A K x1) (hP : va_P D vwCl (wX7 cI cZ o q F A : va_W) H) (hD : va_D A9 (wX7 cI cZ o q F A : va_W)) (hS : va_S A9 s.heap H locs) (hl : lv_has ls 3 [(0, .ref o), (1, .int x1)]) : W p l e (rmN 7 148) s m args below meth c H locs 0 0 Q (F0 m 16 ls []) := by
  obtain ⟨hx, hb, hml, ht, hown, hK, hA, hE⟩ := id X
  unfold p_X7_leads_J16 at h
  refine lv_aload_n hx hb dX7_leads_16 rfl (lv_at hl 0 rfl) ?_
  refine lv_bipush (v := 31) hx hb dX7_leads_17 (by decide) ?_
  refine C_vv (wr := []) X hP hD hS [.int (31 : Int32)] [] (w_X7_runs l D cI cZ cR adK adV _ o q F A (31 : Int32) _ h) cal_X7_runs mw_48_22 rfl [0, 1, 2, 3, 4, 5, 6, 7, 8, 9, 10, 11, 12, 13, 14, 15] [] [0, 1, 2, 3, 4, 5, 6, 7, 8, 9, 10, 11, 12, 13, 14, 15] (fun u => (wX7 cI cZ o q u.1 u.2 : va_W)) rfl rfl (fun _ => rfl) rfl 0 rfl rfl ⟨rfl, rfl⟩ ⟨Nat.le_of_ble_eq_true rfl, Nat.le_of_ble_eq_true rfl⟩ hl.1 rfl (Nat.le_of_ble_eq_true rfl) ⟨Nat.zero_le _, Nat.zero_le _⟩ dX7_leads_19 (fun u H locs h hP hD hS => ?_)
  obtain ⟨F_19, A_19⟩ := u
  try dsimp only at h
  have hP : va_P D vwCl (wX7 cI cZ o q F_19 A_19 : va_W) H := hP
  have hD : va_D A9 (wX7 cI cZ o q F_19 A_19 : va_W) := hD
  refine lv_aload_n hx hb dX7_leads_22 rfl (lv_at hl 0 rfl) ?_
  refine lv_iload_n hx hb dX7_leads_23 rfl (lv_at hl 1 rfl) ?_
  refine C_vi (wr := []) X hP hD hS [.int x1] [] (w_X7_leadsPlain l D cI cZ cR adK adV _ o q F_19 A_19 x1 _ h) cal_X7_leadsPlain mw_50_2 rfl [0, 1, 2, 3, 4, 5, 6, 7, 8, 9, 10, 11, 12, 13, 14, 15] [] [0, 1, 2, 3, 4, 5, 6, 7, 8, 9, 10, 11, 12, 13, 14, 15] (fun u => (wX7 cI cZ o q u.1 u.2 : va_W)) rfl rfl (fun _ => rfl) rfl 0 rfl rfl ⟨rfl, rfl⟩ ⟨Nat.le_of_ble_eq_true rfl, Nat.le_of_ble_eq_true rfl⟩ hl.1 rfl (Nat.le_of_ble_eq_true rfl) ⟨Nat.zero_le _, Nat.zero_le _⟩ dX7_leads_24 (fun r24 u H locs h hP hD hS => ?_)
  obtain ⟨F_24, A_24⟩ := u
  try dsimp only at h
  have hP : va_P D vwCl (wX7 cI cZ o q F_24 A_24 : va_W) H := hP
  have hD : va_D A9 (wX7 cI cZ o q F_24 A_24 : va_W) := hD
  refine lv_istore_n (lv' := [(2, .int r24), (0, .ref o), (1, .int x1)]) hx hb dX7_leads_27 rfl hl (by decide) rfl (fun ls hl => ?_)
  refine lv_iload_n hx hb dX7_leads_28 rfl (lv_at hl 0 rfl) ?_
  refine lv_aload_n hx hb dX7_leads_29 rfl (lv_at hl 1 rfl) ?_
  refine lv_aload_n hx hb dX7_leads_30 rfl (lv_at hl 1 rfl) ?_
  refine va_get (C := RX7) (T := TX7) (N := 28) (own := RX7) (v := .int (F_24 25)) hx hb ht inlX7 hown hK hP 0 rfl rfl 25 (Nat.le_of_ble_eq_true rfl) (ht _ mw_48_12) (fun _ h9 => h9) rfl dX7_leads_31 ?_
  refine C_vi (wr := []) X hP hD hS [.int (F_24 25)] [.int r24] (w_X7_turns l D cI cZ cR adK adV _ o q F_24 A_24 (F_24 25) _ h) cal_X7_turns mw_49_14 rfl [0, 1, 2, 3, 4, 5, 6, 7, 8, 9, 10, 11, 12, 13, 14, 15] [] [0, 1, 2, 3, 4, 5, 6, 7, 8, 9, 10, 11, 12, 13, 14, 15] (fun u => (wX7 cI cZ o q u.1 u.2 : va_W)) rfl rfl (fun _ => rfl) rfl 0 rfl rfl ⟨rfl, rfl⟩ ⟨Nat.le_of_ble_eq_true rfl, Nat.le_of_ble_eq_true rfl⟩ hl.1 rfl (Nat.le_of_ble_eq_true rfl) ⟨Nat.zero_le _, Nat.zero_le _⟩ dX7_leads_34 (fun r34 u H locs h hP hD hS => ?_)
  obtain ⟨F_34, A_34⟩ := u
  try dsimp only at h
  have hP : va_P D vwCl (wX7 cI cZ o q F_34 A_34 : va_W) H := hP
  have hD : va_D A9 (wX7 cI cZ o q F_34 A_34 : va_W) := hD
  refine lv_iadd hx hb dX7_leads_37 ?_
  exact ret _ (F_34, A_34) _ _ _ _ dX7_leads_38 h hP hD hS
def p_X7_leads (F : tF) (A : tA) (x1 : Int32) (K : Int32 → tF → tA → Prop) : Prop := (((F 24) = (2 : Int32) → (p_X7_leads_J16 F A K x1)) ∧ (¬ (F 24) = (2 : Int32) → ((¬ (F 24) = (4 : Int32) → ((¬ (F 24) = (5 : Int32) → (p_X7_leadsPlain F A x1 (fun r64 F_64 A_64 => (K r64 F_64 A_64)))) ∧ ((F 24) = (5 : Int32) → (p_X7_runs F A (60 : Int32) (fun F_50 A_50 => (p_X7_leadsPlain F_50 A_50 x1 (fun r57 F_57 A_57 => (K ((100 : Int32) - r57) F_57 A_57)))))))) ∧ ((F 24) = (4 : Int32) → (p_X7_leads_J16 F A K x1)))))
set_option maxHeartbeats 4000000 in
set_option maxRecDepth 100000 in
theorem w_X7_leads (l : Launch) (D : va_G) (cI cZ cR : ClassId) (adK adV : Nat → Nat) (sz : Nat) (o : Nat) (q : Nat → Nat) (F : tF) (A : tA) (x1 : Int32) (K : Int32 → tF → tA → Prop) (h : p_X7_leads F A x1 K) : MI l D cI cZ cR adK adV yX7_leads cX7_leads 3 (some .int) (rmN 7 148) [.ref o, .int x1] (wX7 cI cZ o q F A : va_W) sz (fun (r : Int32) (u : (tF × tA)) => K r u.1 u.2) (fun (u : (tF × tA)) => (wX7 cI cZ o q u.1 u.2 : va_W)) := by
  refine M_i (by decide +kernel) (Nat.le_of_ble_eq_true rfl) ?_
  intro p e s m args below meth c Q A9 ls X ret hP hD hS hl
  obtain ⟨hx, hb, hml, ht, hown, hK, hA, hE⟩ := id X
  have hl : lv_has ls 3 [(0, .ref o), (1, .int x1)] := hl
  unfold p_X7_leads at h
  refine lv_aload_n hx hb dX7_leads_0 rfl (lv_at hl 0 rfl) ?_
  refine va_get (C := RX7) (T := TX7) (N := 28) (own := RX7) (v := .int (F 24)) hx hb ht inlX7 hown hK hP 0 rfl rfl 24 (Nat.le_of_ble_eq_true rfl) (ht _ mw_48_11) (fun _ h9 => h9) rfl dX7_leads_1 ?_
  refine lv_iconst (v := 2) hx hb dX7_leads_4 (by decide) ?_
  refine lv_icmp_eq (tgt := 16) hx hb dX7_leads_5 (by decide) (fun c5 => ?_) (fun c5 => ?_)
  · replace h := h.1 c5
    exact b_X7_leads_J16 F A x1 X ret  _ _ _ h hP hD hS (lv_sub hl [0, 1] rfl)
  · replace h := h.2 c5
    refine lv_aload_n hx hb dX7_leads_8 rfl (lv_at hl 0 rfl) ?_
    refine va_get (C := RX7) (T := TX7) (N := 28) (own := RX7) (v := .int (F 24)) hx hb ht inlX7 hown hK hP 0 rfl rfl 24 (Nat.le_of_ble_eq_true rfl) (ht _ mw_48_11) (fun _ h9 => h9) rfl dX7_leads_9 ?_
    refine lv_iconst (v := 4) hx hb dX7_leads_12 (by decide) ?_
    refine lv_icmp_ne (tgt := 39) hx hb dX7_leads_13 (by decide) (fun c13 => ?_) (fun c13 => ?_)
    · replace h := h.1 c13
      refine lv_aload_n hx hb dX7_leads_39 rfl (lv_at hl 0 rfl) ?_
      refine va_get (C := RX7) (T := TX7) (N := 28) (own := RX7) (v := .int (F 24)) hx hb ht inlX7 hown hK hP 0 rfl rfl 24 (Nat.le_of_ble_eq_true rfl) (ht _ mw_48_11) (fun _ h9 => h9) rfl dX7_leads_40 ?_
      refine lv_iconst (v := 5) hx hb dX7_leads_43 (by decide) ?_
      refine lv_icmp_ne (tgt := 62) hx hb dX7_leads_44 (by decide) (fun c44 => ?_) (fun c44 => ?_)
      · replace h := h.1 c44
        refine lv_aload_n hx hb dX7_leads_62 rfl (lv_at hl 0 rfl) ?_
        refine lv_iload_n hx hb dX7_leads_63 rfl (lv_at hl 1 rfl) ?_
        refine C_vi (wr := []) X hP hD hS [.int x1] [] (w_X7_leadsPlain l D cI cZ cR adK adV _ o q F A x1 _ h) cal_X7_leadsPlain mw_50_2 rfl [0, 1, 2, 3, 4, 5, 6, 7, 8, 9, 10, 11, 12, 13, 14, 15] [] [0, 1, 2, 3, 4, 5, 6, 7, 8, 9, 10, 11, 12, 13, 14, 15] (fun u => (wX7 cI cZ o q u.1 u.2 : va_W)) rfl rfl (fun _ => rfl) rfl 0 rfl rfl ⟨rfl, rfl⟩ ⟨Nat.le_of_ble_eq_true rfl, Nat.le_of_ble_eq_true rfl⟩ hl.1 rfl (Nat.le_of_ble_eq_true rfl) ⟨Nat.zero_le _, Nat.zero_le _⟩ dX7_leads_64 (fun r64 u H locs h hP hD hS => ?_)
        obtain ⟨F_64, A_64⟩ := u
        try dsimp only at h
        have hP : va_P D vwCl (wX7 cI cZ o q F_64 A_64 : va_W) H := hP
        have hD : va_D A9 (wX7 cI cZ o q F_64 A_64 : va_W) := hD
        exact ret _ (F_64, A_64) _ _ _ _ dX7_leads_67 h hP hD hS
      · replace h := h.2 c44
        refine lv_aload_n hx hb dX7_leads_47 rfl (lv_at hl 0 rfl) ?_
        refine lv_bipush (v := 60) hx hb dX7_leads_48 (by decide) ?_
        refine C_vv (wr := []) X hP hD hS [.int (60 : Int32)] [] (w_X7_runs l D cI cZ cR adK adV _ o q F A (60 : Int32) _ h) cal_X7_runs mw_48_22 rfl [0, 1, 2, 3, 4, 5, 6, 7, 8, 9, 10, 11, 12, 13, 14, 15] [] [0, 1, 2, 3, 4, 5, 6, 7, 8, 9, 10, 11, 12, 13, 14, 15] (fun u => (wX7 cI cZ o q u.1 u.2 : va_W)) rfl rfl (fun _ => rfl) rfl 0 rfl rfl ⟨rfl, rfl⟩ ⟨Nat.le_of_ble_eq_true rfl, Nat.le_of_ble_eq_true rfl⟩ hl.1 rfl (Nat.le_of_ble_eq_true rfl) ⟨Nat.zero_le _, Nat.zero_le _⟩ dX7_leads_50 (fun u H locs h hP hD hS => ?_)
        obtain ⟨F_50, A_50⟩ := u
        try dsimp only at h
        have hP : va_P D vwCl (wX7 cI cZ o q F_50 A_50 : va_W) H := hP
        have hD : va_D A9 (wX7 cI cZ o q F_50 A_50 : va_W) := hD
        refine lv_bipush (v := 100) hx hb dX7_leads_53 (by decide) ?_
        refine lv_aload_n hx hb dX7_leads_55 rfl (lv_at hl 0 rfl) ?_
        refine lv_iload_n hx hb dX7_leads_56 rfl (lv_at hl 1 rfl) ?_
        refine C_vi (wr := []) X hP hD hS [.int x1] [.int (100 : Int32)] (w_X7_leadsPlain l D cI cZ cR adK adV _ o q F_50 A_50 x1 _ h) cal_X7_leadsPlain mw_50_2 rfl [0, 1, 2, 3, 4, 5, 6, 7, 8, 9, 10, 11, 12, 13, 14, 15] [] [0, 1, 2, 3, 4, 5, 6, 7, 8, 9, 10, 11, 12, 13, 14, 15] (fun u => (wX7 cI cZ o q u.1 u.2 : va_W)) rfl rfl (fun _ => rfl) rfl 0 rfl rfl ⟨rfl, rfl⟩ ⟨Nat.le_of_ble_eq_true rfl, Nat.le_of_ble_eq_true rfl⟩ hl.1 rfl (Nat.le_of_ble_eq_true rfl) ⟨Nat.zero_le _, Nat.zero_le _⟩ dX7_leads_57 (fun r57 u H locs h hP hD hS => ?_)
        obtain ⟨F_57, A_57⟩ := u
        try dsimp only at h
        have hP : va_P D vwCl (wX7 cI cZ o q F_57 A_57 : va_W) H := hP
        have hD : va_D A9 (wX7 cI cZ o q F_57 A_57 : va_W) := hD
        refine lv_isub hx hb dX7_leads_60 ?_
        exact ret _ (F_57, A_57) _ _ _ _ dX7_leads_61 h hP hD hS
    · replace h := h.2 c13
      exact b_X7_leads_J16 F A x1 X ret  _ _ _ h hP hD hS (lv_sub hl [0, 1] rfl)
theorem cal_X7_leads : CalV yX7_leads cX7_leads 3 (some .int) 1 := ⟨mw_50_1, mw_1_5, mw_49_23, mw_50_0, ⟨by decide +kernel, by decide +kernel, by decide +kernel⟩⟩
theorem dX7_act_0 : decode cX7_act 0 = .ok (.aload_n 0, 1) := by decide +kernel
theorem dX7_act_1 : decode cX7_act 1 = .ok (.iconst 0, 1) := by decide +kernel
theorem dX7_act_2 : decode cX7_act 2 = .ok (.putfield 307, 3) := by decide +kernel
theorem dX7_act_5 : decode cX7_act 5 = .ok (.iload_n 1, 1) := by decide +kernel
theorem dX7_act_6 : decode cX7_act 6 = .ok (.invokestatic 296, 3) := by decide +kernel
theorem dX7_act_9 : decode cX7_act 9 = .ok (.ifCond .eq 24, 3) := by decide +kernel
theorem dX7_act_12 : decode cX7_act 12 = .ok (.iload_n 2, 1) := by decide +kernel
theorem dX7_act_13 : decode cX7_act 13 = .ok (.i2l, 1) := by decide +kernel
theorem dX7_act_14 : decode cX7_act 14 = .ok (.lconst 0, 1) := by decide +kernel
theorem dX7_act_15 : decode cX7_act 15 = .ok (.ldc2_w 154, 3) := by decide +kernel
theorem dX7_act_18 : decode cX7_act 18 = .ok (.invokestatic 61, 3) := by decide +kernel
theorem dX7_act_21 : decode cX7_act 21 = .ok (.ifCond .eq 12, 3) := by decide +kernel
theorem dX7_act_24 : decode cX7_act 24 = .ok (.aload_n 0, 1) := by decide +kernel
theorem dX7_act_25 : decode cX7_act 25 = .ok (.iload_n 1, 1) := by decide +kernel
theorem dX7_act_26 : decode cX7_act 26 = .ok (.invokevirtual 301, 3) := by decide +kernel
theorem dX7_act_29 : decode cX7_act 29 = .ok (.iconst 1, 1) := by decide +kernel
theorem dX7_act_30 : decode cX7_act 30 = .ok (.if_icmp .eq 5, 3) := by decide +kernel
theorem dX7_act_33 : decode cX7_act 33 = .ok (.iconst 0, 1) := by decide +kernel
theorem dX7_act_34 : decode cX7_act 34 = .ok (.ireturn, 1) := by decide +kernel
theorem dX7_act_35 : decode cX7_act 35 = .ok (.aload_n 0, 1) := by decide +kernel
theorem dX7_act_36 : decode cX7_act 36 = .ok (.iconst 0, 1) := by decide +kernel
theorem dX7_act_37 : decode cX7_act 37 = .ok (.putfield 334, 3) := by decide +kernel
theorem dX7_act_40 : decode cX7_act 40 = .ok (.aload_n 0, 1) := by decide +kernel
theorem dX7_act_41 : decode cX7_act 41 = .ok (.aload_n 0, 1) := by decide +kernel
theorem dX7_act_42 : decode cX7_act 42 = .ok (.aload_n 0, 1) := by decide +kernel
theorem dX7_act_43 : decode cX7_act 43 = .ok (.getfield 47, 3) := by decide +kernel
theorem dX7_act_46 : decode cX7_act 46 = .ok (.iload_n 1, 1) := by decide +kernel
theorem dX7_act_47 : decode cX7_act 47 = .ok (.iaload, 1) := by decide +kernel
theorem dX7_act_48 : decode cX7_act 48 = .ok (.iconst 0, 1) := by decide +kernel
theorem dX7_act_49 : decode cX7_act 49 = .ok (.invokevirtual 169, 3) := by decide +kernel
theorem dX7_act_52 : decode cX7_act 52 = .ok (.putfield 319, 3) := by decide +kernel
theorem dX7_act_55 : decode cX7_act 55 = .ok (.aload_n 0, 1) := by decide +kernel
theorem dX7_act_56 : decode cX7_act 56 = .ok (.aload_n 0, 1) := by decide +kernel
theorem dX7_act_57 : decode cX7_act 57 = .ok (.getfield 47, 3) := by decide +kernel
theorem dX7_act_60 : decode cX7_act 60 = .ok (.iload_n 1, 1) := by decide +kernel
theorem dX7_act_61 : decode cX7_act 61 = .ok (.iaload, 1) := by decide +kernel
theorem dX7_act_62 : decode cX7_act 62 = .ok (.putfield 313, 3) := by decide +kernel
theorem dX7_act_65 : decode cX7_act 65 = .ok (.aload_n 0, 1) := by decide +kernel
theorem dX7_act_66 : decode cX7_act 66 = .ok (.aload_n 0, 1) := by decide +kernel
theorem dX7_act_67 : decode cX7_act 67 = .ok (.aload_n 0, 1) := by decide +kernel
theorem dX7_act_68 : decode cX7_act 68 = .ok (.getfield 47, 3) := by decide +kernel
theorem dX7_act_71 : decode cX7_act 71 = .ok (.iload_n 1, 1) := by decide +kernel
theorem dX7_act_72 : decode cX7_act 72 = .ok (.iaload, 1) := by decide +kernel
theorem dX7_act_73 : decode cX7_act 73 = .ok (.iconst 1, 1) := by decide +kernel
theorem dX7_act_74 : decode cX7_act 74 = .ok (.invokevirtual 169, 3) := by decide +kernel
theorem dX7_act_77 : decode cX7_act 77 = .ok (.putfield 328, 3) := by decide +kernel
theorem dX7_act_80 : decode cX7_act 80 = .ok (.iload_n 2, 1) := by decide +kernel
theorem dX7_act_81 : decode cX7_act 81 = .ok (.ifCond .ne 11, 3) := by decide +kernel
theorem dX7_act_84 : decode cX7_act 84 = .ok (.aload_n 0, 1) := by decide +kernel
theorem dX7_act_85 : decode cX7_act 85 = .ok (.iload_n 3, 1) := by decide +kernel
theorem dX7_act_86 : decode cX7_act 86 = .ok (.invokevirtual 325, 3) := by decide +kernel
theorem dX7_act_89 : decode cX7_act 89 = .ok (.goto 34, 3) := by decide +kernel
theorem dX7_act_92 : decode cX7_act 92 = .ok (.iload_n 2, 1) := by decide +kernel
theorem dX7_act_93 : decode cX7_act 93 = .ok (.iconst 1, 1) := by decide +kernel
theorem dX7_act_94 : decode cX7_act 94 = .ok (.if_icmp .ne 11, 3) := by decide +kernel
theorem dX7_act_97 : decode cX7_act 97 = .ok (.aload_n 0, 1) := by decide +kernel
theorem dX7_act_98 : decode cX7_act 98 = .ok (.iload_n 3, 1) := by decide +kernel
theorem dX7_act_99 : decode cX7_act 99 = .ok (.invokevirtual 340, 3) := by decide +kernel
theorem dX7_act_102 : decode cX7_act 102 = .ok (.goto 21, 3) := by decide +kernel
theorem dX7_act_105 : decode cX7_act 105 = .ok (.iload_n 2, 1) := by decide +kernel
theorem dX7_act_106 : decode cX7_act 106 = .ok (.iconst 2, 1) := by decide +kernel
theorem dX7_act_107 : decode cX7_act 107 = .ok (.if_icmp .ne 11, 3) := by decide +kernel
theorem dX7_act_110 : decode cX7_act 110 = .ok (.aload_n 0, 1) := by decide +kernel
theorem dX7_act_111 : decode cX7_act 111 = .ok (.iload_n 3, 1) := by decide +kernel
theorem dX7_act_112 : decode cX7_act 112 = .ok (.invokevirtual 346, 3) := by decide +kernel
theorem dX7_act_115 : decode cX7_act 115 = .ok (.goto 8, 3) := by decide +kernel
theorem dX7_act_118 : decode cX7_act 118 = .ok (.aload_n 0, 1) := by decide +kernel
theorem dX7_act_119 : decode cX7_act 119 = .ok (.iload_n 3, 1) := by decide +kernel
theorem dX7_act_120 : decode cX7_act 120 = .ok (.invokevirtual 349, 3) := by decide +kernel
theorem dX7_act_123 : decode cX7_act 123 = .ok (.istore 4, 2) := by decide +kernel
theorem dX7_act_125 : decode cX7_act 125 = .ok (.aload_n 0, 1) := by decide +kernel
theorem dX7_act_126 : decode cX7_act 126 = .ok (.getfield 334, 3) := by decide +kernel
theorem dX7_act_129 : decode cX7_act 129 = .ok (.ifCond .eq 8, 3) := by decide +kernel
theorem dX7_act_132 : decode cX7_act 132 = .ok (.bipush (-15), 2) := by decide +kernel
theorem dX7_act_134 : decode cX7_act 134 = .ok (.goto 5, 3) := by decide +kernel
theorem dX7_act_137 : decode cX7_act 137 = .ok (.iload 4, 2) := by decide +kernel
theorem dX7_act_139 : decode cX7_act 139 = .ok (.ireturn, 1) := by decide +kernel
def p_X7_act_J123 (F : tF) (A : tA) (K : Int32 → tF → tA → Prop) (s0 : Int32) : Prop := (((F 27) = 0 → (K s0 F A)) ∧ (¬ (F 27) = 0 → (K (-15 : Int32) F A)))
set_option maxHeartbeats 4000000 in
set_option maxRecDepth 100000 in
theorem b_X7_act_J123 {p : Program} {l : Launch} {e : Env} {s : State} {m : MethodId} {args : Array Value} {below : List Frame} {meth : Method} {c : Code} {Q : State → Prop} {D : va_G} {cI cZ cR : ClassId} {adK adV : Nat → Nat} {A9 : Nat → Prop} {o : Nat} {q : Nat → Nat} {K : Int32 → tF → tA → Prop}  (F : tF) (A : tA) (s0 : Int32) (X : CX p s m args c yX7_act.cls cX7_act 5 D cI cZ cR adK adV A9) (ret : RTi p l e (rmN 8 170) s m args below meth c Q cX7_act D A9 (fun (r : Int32) (u : (tF × tA)) => K r u.1 u.2) (fun (u : (tF × tA)) => (wX7 cI cZ o q u.1 u.2 : va_W)))  (H : Heap) (locs : List Loc) (ls : Array Slot) (h : p_X7_act_J123 F A K s0) (hP : va_P D vwCl (wX7 cI cZ o q F A : va_W) H) (hD : va_D A9 (wX7 cI cZ o q F A : va_W)) (hS : va_S A9 s.heap H locs) (hl : lv_has ls 5 [(0, .ref o)]) : W p l e (rmN 8 170) s m args below meth c H locs 0 0 Q (F0 m 123 ls [.int s0]) := by
  obtain ⟨hx, hb, hml, ht, hown, hK, hA, hE⟩ := id X
  unfold p_X7_act_J123 at h
  refine lv_istore (lv' := [(4, .int s0), (0, .ref o)]) hx hb dX7_act_123 hl (by decide) rfl (fun ls hl => ?_)
  refine lv_aload_n hx hb dX7_act_125 rfl (lv_at hl 1 rfl) ?_
  refine va_get (C := RX7) (T := TX7) (N := 28) (own := RX7) (v := .int (F 27)) hx hb ht inlX7 hown hK hP 0 rfl rfl 27 (Nat.le_of_ble_eq_true rfl) (ht _ mw_48_10) (fun _ h9 => h9) rfl dX7_act_126 ?_
  refine lv_if_eq (tgt := 137) hx hb dX7_act_129 (by decide) (fun c129 => ?_) (fun c129 => ?_)
  · replace h := h.1 c129
    refine lv_iload hx hb dX7_act_137 (lv_at hl 0 rfl) ?_
    exact ret _ (F, A) _ _ _ _ dX7_act_139 h hP hD hS
  · replace h := h.2 c129
    refine lv_bipush (v := -15) hx hb dX7_act_132 (by decide) ?_
    refine lv_goto (tgt := 139) hx hb dX7_act_134 (by decide) ?_
    exact ret _ (F, A) _ _ _ _ dX7_act_139 h hP hD hS
def p_X7_act (F : tF) (A : tA) (x1 : Int32) (x2 : Int32) (x3 : Int32) (K : Int32 → tF → tA → Prop) : Prop := (p_X7_isShelf x1 (fun r6 => ((r6 = 0 → (K (0 : Int32) (upd F 23 (0 : Int32)) A)) ∧ (¬ r6 = 0 → (p_X7_isIn ((x2).toInt64) (0 : Int64) (3 : Int64) (fun r18 => ((r18 = 0 → (K (0 : Int32) (upd F 23 (0 : Int32)) A)) ∧ (¬ r18 = 0 → (p_X7_heldOn (upd F 23 (0 : Int32)) A x1 (fun r26 => ((r26 = (1 : Int32) → (vp_in x1 4 ∧ (p_X7_its (upd (upd F 23 (0 : Int32)) 27 (0 : Int32)) A ((A 20) (x1).toNatClampNeg) (0 : Int32) (fun r49 => (vp_in x1 4 ∧ (∀ y62 : Int32, y62 = ((A 20) (x1).toNatClampNeg) → (vp_in x1 4 ∧ (p_X7_its (upd (upd (upd (upd F 23 (0 : Int32)) 27 (0 : Int32)) 24 r49) 25 y62) A ((A 20) (x1).toNatClampNeg) (1 : Int32) (fun r74 => ((¬ x2 = 0 → ((¬ x2 = (1 : Int32) → ((¬ x2 = (2 : Int32) → (p_X7_leads (upd (upd (upd (upd (upd F 23 (0 : Int32)) 27 (0 : Int32)) 24 r49) 25 y62) 26 r74) A x3 (fun r120 F_120 A_120 => (p_X7_act_J123 F_120 A_120 K r120)))) ∧ (x2 = (2 : Int32) → (p_X7_turns (upd (upd (upd (upd (upd F 23 (0 : Int32)) 27 (0 : Int32)) 24 r49) 25 y62) 26 r74) A x3 (fun r112 F_112 A_112 => (p_X7_act_J123 F_112 A_112 K r112)))))) ∧ (x2 = (1 : Int32) → (p_X7_bleats (upd (upd (upd (upd (upd F 23 (0 : Int32)) 27 (0 : Int32)) 24 r49) 25 y62) 26 r74) A x3 (fun r99 F_99 A_99 => (p_X7_act_J123 F_99 A_99 K r99)))))) ∧ (x2 = 0 → (p_X7_asks (upd (upd (upd (upd (upd F 23 (0 : Int32)) 27 (0 : Int32)) 24 r49) 25 y62) 26 r74) A x3 (fun r86 F_86 A_86 => (p_X7_act_J123 F_86 A_86 K r86)))))))))))))) ∧ (¬ r26 = (1 : Int32) → (K (0 : Int32) (upd F 23 (0 : Int32)) A)))))))))))))
set_option maxHeartbeats 4000000 in
set_option maxRecDepth 100000 in
theorem w_X7_act (l : Launch) (D : va_G) (cI cZ cR : ClassId) (adK adV : Nat → Nat) (sz : Nat) (o : Nat) (q : Nat → Nat) (F : tF) (A : tA) (x1 : Int32) (x2 : Int32) (x3 : Int32) (K : Int32 → tF → tA → Prop) (h : p_X7_act F A x1 x2 x3 K) : MI l D cI cZ cR adK adV yX7_act cX7_act 5 (some .int) (rmN 8 170) [.ref o, .int x1, .int x2, .int x3] (wX7 cI cZ o q F A : va_W) sz (fun (r : Int32) (u : (tF × tA)) => K r u.1 u.2) (fun (u : (tF × tA)) => (wX7 cI cZ o q u.1 u.2 : va_W)) := by
  refine M_i (by decide +kernel) (Nat.le_of_ble_eq_true rfl) ?_
  intro p e s m args below meth c Q A9 ls X ret hP hD hS hl
  obtain ⟨hx, hb, hml, ht, hown, hK, hA, hE⟩ := id X
  have hl : lv_has ls 5 [(0, .ref o), (1, .int x1), (2, .int x2), (3, .int x3)] := hl
  unfold p_X7_act at h
  refine lv_aload_n hx hb dX7_act_0 rfl (lv_at hl 0 rfl) ?_
  refine lv_iconst (v := 0) hx hb dX7_act_1 (by decide) ?_
  refine va_put (C := RX7) (T := TX7) (N := 28) (own := RX7) (v := .int (0 : Int32)) hx hb ht inlX7 tyX7 tyX7_ok nmX7 hown hK hP hD hS 0 rfl rfl 23 (Nat.le_of_ble_eq_true rfl) (ht _ mw_48_9) (fun _ h9 => h9) rfl (tyX7_ok 23 (Nat.le_of_ble_eq_true rfl)) rfl rfl (Nat.le_of_ble_eq_true rfl) dX7_act_2 (fun H locs hP hD hS => ?_)
  have hP : va_P D vwCl (wX7 cI cZ o q (upd F 23 (0 : Int32)) A : va_W) H := hP
  have hD : va_D A9 (wX7 cI cZ o q (upd F 23 (0 : Int32)) A : va_W) := hD
  refine lv_iload_n hx hb dX7_act_5 rfl (lv_at hl 1 rfl) ?_
  refine C_si (wr := [0, 1, 2, 3, 4, 5, 6, 7, 8, 9, 10, 11, 12, 13, 14, 15].filterMap (fun i => (wX7 cI cZ o q (upd F 23 (0 : Int32)) A : va_W)[i]?)) X hP hD hS [.int x1] [] (w_X7_isShelf l D cI cZ cR adK adV _ x1 _ h) cal_X7_isShelf mw_45_15 rfl [] [0, 1, 2, 3, 4, 5, 6, 7, 8, 9, 10, 11, 12, 13, 14, 15] [0, 1, 2, 3, 4, 5, 6, 7, 8, 9, 10, 11, 12, 13, 14, 15] (fun u => (wX7 cI cZ o q (upd F 23 (0 : Int32)) A : va_W)) rfl rfl (fun _ => rfl) rfl ⟨rfl, rfl⟩ ⟨Nat.le_of_ble_eq_true rfl, Nat.le_of_ble_eq_true rfl⟩ hl.1 rfl (Nat.le_of_ble_eq_true rfl) ⟨Nat.zero_le _, Nat.zero_le _⟩ dX7_act_6 (fun r6 u H locs h hP hD hS => ?_)
  refine lv_if_eq (tgt := 33) hx hb dX7_act_9 (by decide) (fun c9 => ?_) (fun c9 => ?_)
  · replace h := h.1 c9
    refine lv_iconst (v := 0) hx hb dX7_act_33 (by decide) ?_
    exact ret _ ((upd F 23 (0 : Int32)), A) _ _ _ _ dX7_act_34 h hP hD hS
  · replace h := h.2 c9
    refine lv_iload_n hx hb dX7_act_12 rfl (lv_at hl 2 rfl) ?_
    refine lv_i2l (v := (x2).toInt64) hx hb dX7_act_13 rfl ?_
    refine lv_lconst (v := 0) hx hb dX7_act_14 (by decide) ?_
    refine lv_ldc2 (v := 3) hx hb hown (ht _ mw_15_17) dX7_act_15 ?_
    refine C_si (wr := [0, 1, 2, 3, 4, 5, 6, 7, 8, 9, 10, 11, 12, 13, 14, 15].filterMap (fun i => (wX7 cI cZ o q (upd F 23 (0 : Int32)) A : va_W)[i]?)) X hP hD hS [.long (x2).toInt64, .long (0 : Int64), .long (3 : Int64)] [] (w_X7_isIn l D cI cZ cR adK adV _ ((x2).toInt64) (0 : Int64) (3 : Int64) _ h) cal_X7_isIn mw_6_19 rfl [] [0, 1, 2, 3, 4, 5, 6, 7, 8, 9, 10, 11, 12, 13, 14, 15] [0, 1, 2, 3, 4, 5, 6, 7, 8, 9, 10, 11, 12, 13, 14, 15] (fun u => (wX7 cI cZ o q (upd F 23 (0 : Int32)) A : va_W)) rfl rfl (fun _ => rfl) rfl ⟨rfl, rfl⟩ ⟨Nat.le_of_ble_eq_true rfl, Nat.le_of_ble_eq_true rfl⟩ hl.1 rfl (Nat.le_of_ble_eq_true rfl) ⟨Nat.zero_le _, Nat.zero_le _⟩ dX7_act_18 (fun r18 u H locs h hP hD hS => ?_)
    refine lv_if_eq (tgt := 33) hx hb dX7_act_21 (by decide) (fun c21 => ?_) (fun c21 => ?_)
    · replace h := h.1 c21
      refine lv_iconst (v := 0) hx hb dX7_act_33 (by decide) ?_
      exact ret _ ((upd F 23 (0 : Int32)), A) _ _ _ _ dX7_act_34 h hP hD hS
    · replace h := h.2 c21
      refine lv_aload_n hx hb dX7_act_24 rfl (lv_at hl 0 rfl) ?_
      refine lv_iload_n hx hb dX7_act_25 rfl (lv_at hl 1 rfl) ?_
      refine C_vi (wr := []) X hP hD hS [.int x1] [] (w_X7_heldOn l D cI cZ cR adK adV _ o q (upd F 23 (0 : Int32)) A x1 _ h) cal_X7_heldOn mw_46_6 rfl [0, 1, 2, 3, 4, 5, 6, 7, 8, 9, 10, 11, 12, 13, 14, 15] [] [0, 1, 2, 3, 4, 5, 6, 7, 8, 9, 10, 11, 12, 13, 14, 15] (fun u => (wX7 cI cZ o q (upd F 23 (0 : Int32)) A : va_W)) rfl rfl (fun _ => rfl) rfl 0 rfl rfl ⟨rfl, rfl⟩ ⟨Nat.le_of_ble_eq_true rfl, Nat.le_of_ble_eq_true rfl⟩ hl.1 rfl (Nat.le_of_ble_eq_true rfl) ⟨Nat.zero_le _, Nat.zero_le _⟩ dX7_act_26 (fun r26 u H locs h hP hD hS => ?_)
      refine lv_iconst (v := 1) hx hb dX7_act_29 (by decide) ?_
      refine lv_icmp_eq (tgt := 35) hx hb dX7_act_30 (by decide) (fun c30 => ?_) (fun c30 => ?_)
      · replace h := h.1 c30
        refine lv_aload_n hx hb dX7_act_35 rfl (lv_at hl 0 rfl) ?_
        refine lv_iconst (v := 0) hx hb dX7_act_36 (by decide) ?_
        refine va_put (C := RX7) (T := TX7) (N := 28) (own := RX7) (v := .int (0 : Int32)) hx hb ht inlX7 tyX7 tyX7_ok nmX7 hown hK hP hD hS 0 rfl rfl 27 (Nat.le_of_ble_eq_true rfl) (ht _ mw_48_10) (fun _ h9 => h9) rfl (tyX7_ok 27 (Nat.le_of_ble_eq_true rfl)) rfl rfl (Nat.le_of_ble_eq_true rfl) dX7_act_37 (fun H locs hP hD hS => ?_)
        have hP : va_P D vwCl (wX7 cI cZ o q (upd (upd F 23 (0 : Int32)) 27 (0 : Int32)) A : va_W) H := hP
        have hD : va_D A9 (wX7 cI cZ o q (upd (upd F 23 (0 : Int32)) 27 (0 : Int32)) A : va_W) := hD
        refine lv_aload_n hx hb dX7_act_40 rfl (lv_at hl 0 rfl) ?_
        refine lv_aload_n hx hb dX7_act_41 rfl (lv_at hl 0 rfl) ?_
        refine lv_aload_n hx hb dX7_act_42 rfl (lv_at hl 0 rfl) ?_
        refine va_get (C := RX7) (T := TX7) (N := 28) (own := RX7) (v := .ref (q 20)) hx hb ht inlX7 hown hK hP 0 rfl rfl 20 (Nat.le_of_ble_eq_true rfl) (ht _ mw_5_19) (fun _ h9 => h9) rfl dX7_act_43 ?_
        refine lv_iload_n hx hb dX7_act_46 rfl (lv_at hl 1 rfl) ?_
        obtain ⟨hi47, h⟩ := h
        refine g_iald (f := (A 20)) (k := (x1).toNatClampNeg) hx hb hK hP 13 0 rfl rfl hi47 rfl dX7_act_47 ?_
        refine lv_iconst (v := 0) hx hb dX7_act_48 (by decide) ?_
        refine C_vi (wr := []) X hP hD hS [.int ((A 20) (x1).toNatClampNeg), .int (0 : Int32)] [.ref o] (w_X7_its l D cI cZ cR adK adV _ o q (upd (upd F 23 (0 : Int32)) 27 (0 : Int32)) A ((A 20) (x1).toNatClampNeg) (0 : Int32) _ h) cal_X7_its mw_18_16 rfl [0, 1, 2, 3, 4, 5, 6, 7, 8, 9, 10, 11, 12, 13, 14, 15] [] [0, 1, 2, 3, 4, 5, 6, 7, 8, 9, 10, 11, 12, 13, 14, 15] (fun u => (wX7 cI cZ o q (upd (upd F 23 (0 : Int32)) 27 (0 : Int32)) A : va_W)) rfl rfl (fun _ => rfl) rfl 0 rfl rfl ⟨rfl, rfl⟩ ⟨Nat.le_of_ble_eq_true rfl, Nat.le_of_ble_eq_true rfl⟩ hl.1 rfl (Nat.le_of_ble_eq_true rfl) ⟨Nat.zero_le _, Nat.zero_le _⟩ dX7_act_49 (fun r49 u H locs h hP hD hS => ?_)
        refine va_put (C := RX7) (T := TX7) (N := 28) (own := RX7) (v := .int r49) hx hb ht inlX7 tyX7 tyX7_ok nmX7 hown hK hP hD hS 0 rfl rfl 24 (Nat.le_of_ble_eq_true rfl) (ht _ mw_48_11) (fun _ h9 => h9) rfl (tyX7_ok 24 (Nat.le_of_ble_eq_true rfl)) rfl rfl (Nat.le_of_ble_eq_true rfl) dX7_act_52 (fun H locs hP hD hS => ?_)
        have hP : va_P D vwCl (wX7 cI cZ o q (upd (upd (upd F 23 (0 : Int32)) 27 (0 : Int32)) 24 r49) A : va_W) H := hP
        have hD : va_D A9 (wX7 cI cZ o q (upd (upd (upd F 23 (0 : Int32)) 27 (0 : Int32)) 24 r49) A : va_W) := hD
        refine lv_aload_n hx hb dX7_act_55 rfl (lv_at hl 0 rfl) ?_
        refine lv_aload_n hx hb dX7_act_56 rfl (lv_at hl 0 rfl) ?_
        refine va_get (C := RX7) (T := TX7) (N := 28) (own := RX7) (v := .ref (q 20)) hx hb ht inlX7 hown hK hP 0 rfl rfl 20 (Nat.le_of_ble_eq_true rfl) (ht _ mw_5_19) (fun _ h9 => h9) rfl dX7_act_57 ?_
        refine lv_iload_n hx hb dX7_act_60 rfl (lv_at hl 1 rfl) ?_
        obtain ⟨hi61, h⟩ := h
        refine g_iald (f := (A 20)) (k := (x1).toNatClampNeg) hx hb hK hP 13 0 rfl rfl hi61 rfl dX7_act_61 ?_
        refine lv_topi (fun y62 ey62 => ?_)
        replace h := h y62 ey62
        refine va_put (C := RX7) (T := TX7) (N := 28) (own := RX7) (v := .int y62) hx hb ht inlX7 tyX7 tyX7_ok nmX7 hown hK hP hD hS 0 rfl rfl 25 (Nat.le_of_ble_eq_true rfl) (ht _ mw_48_12) (fun _ h9 => h9) rfl (tyX7_ok 25 (Nat.le_of_ble_eq_true rfl)) rfl rfl (Nat.le_of_ble_eq_true rfl) dX7_act_62 (fun H locs hP hD hS => ?_)
        have hP : va_P D vwCl (wX7 cI cZ o q (upd (upd (upd (upd F 23 (0 : Int32)) 27 (0 : Int32)) 24 r49) 25 y62) A : va_W) H := hP
        have hD : va_D A9 (wX7 cI cZ o q (upd (upd (upd (upd F 23 (0 : Int32)) 27 (0 : Int32)) 24 r49) 25 y62) A : va_W) := hD
        refine lv_aload_n hx hb dX7_act_65 rfl (lv_at hl 0 rfl) ?_
        refine lv_aload_n hx hb dX7_act_66 rfl (lv_at hl 0 rfl) ?_
        refine lv_aload_n hx hb dX7_act_67 rfl (lv_at hl 0 rfl) ?_
        refine va_get (C := RX7) (T := TX7) (N := 28) (own := RX7) (v := .ref (q 20)) hx hb ht inlX7 hown hK hP 0 rfl rfl 20 (Nat.le_of_ble_eq_true rfl) (ht _ mw_5_19) (fun _ h9 => h9) rfl dX7_act_68 ?_
        refine lv_iload_n hx hb dX7_act_71 rfl (lv_at hl 1 rfl) ?_
        obtain ⟨hi72, h⟩ := h
        refine g_iald (f := (A 20)) (k := (x1).toNatClampNeg) hx hb hK hP 13 0 rfl rfl hi72 rfl dX7_act_72 ?_
        refine lv_iconst (v := 1) hx hb dX7_act_73 (by decide) ?_
        refine C_vi (wr := []) X hP hD hS [.int ((A 20) (x1).toNatClampNeg), .int (1 : Int32)] [.ref o] (w_X7_its l D cI cZ cR adK adV _ o q (upd (upd (upd (upd F 23 (0 : Int32)) 27 (0 : Int32)) 24 r49) 25 y62) A ((A 20) (x1).toNatClampNeg) (1 : Int32) _ h) cal_X7_its mw_18_16 rfl [0, 1, 2, 3, 4, 5, 6, 7, 8, 9, 10, 11, 12, 13, 14, 15] [] [0, 1, 2, 3, 4, 5, 6, 7, 8, 9, 10, 11, 12, 13, 14, 15] (fun u => (wX7 cI cZ o q (upd (upd (upd (upd F 23 (0 : Int32)) 27 (0 : Int32)) 24 r49) 25 y62) A : va_W)) rfl rfl (fun _ => rfl) rfl 0 rfl rfl ⟨rfl, rfl⟩ ⟨Nat.le_of_ble_eq_true rfl, Nat.le_of_ble_eq_true rfl⟩ hl.1 rfl (Nat.le_of_ble_eq_true rfl) ⟨Nat.zero_le _, Nat.zero_le _⟩ dX7_act_74 (fun r74 u H locs h hP hD hS => ?_)
        refine va_put (C := RX7) (T := TX7) (N := 28) (own := RX7) (v := .int r74) hx hb ht inlX7 tyX7 tyX7_ok nmX7 hown hK hP hD hS 0 rfl rfl 26 (Nat.le_of_ble_eq_true rfl) (ht _ mw_48_13) (fun _ h9 => h9) rfl (tyX7_ok 26 (Nat.le_of_ble_eq_true rfl)) rfl rfl (Nat.le_of_ble_eq_true rfl) dX7_act_77 (fun H locs hP hD hS => ?_)
        have hP : va_P D vwCl (wX7 cI cZ o q (upd (upd (upd (upd (upd F 23 (0 : Int32)) 27 (0 : Int32)) 24 r49) 25 y62) 26 r74) A : va_W) H := hP
        have hD : va_D A9 (wX7 cI cZ o q (upd (upd (upd (upd (upd F 23 (0 : Int32)) 27 (0 : Int32)) 24 r49) 25 y62) 26 r74) A : va_W) := hD
        refine lv_iload_n hx hb dX7_act_80 rfl (lv_at hl 2 rfl) ?_
        refine lv_if_ne (tgt := 92) hx hb dX7_act_81 (by decide) (fun c81 => ?_) (fun c81 => ?_)
        · replace h := h.1 c81
          refine lv_iload_n hx hb dX7_act_92 rfl (lv_at hl 2 rfl) ?_
          refine lv_iconst (v := 1) hx hb dX7_act_93 (by decide) ?_
          refine lv_icmp_ne (tgt := 105) hx hb dX7_act_94 (by decide) (fun c94 => ?_) (fun c94 => ?_)
          · replace h := h.1 c94
            refine lv_iload_n hx hb dX7_act_105 rfl (lv_at hl 2 rfl) ?_
            refine lv_iconst (v := 2) hx hb dX7_act_106 (by decide) ?_
            refine lv_icmp_ne (tgt := 118) hx hb dX7_act_107 (by decide) (fun c107 => ?_) (fun c107 => ?_)
            · replace h := h.1 c107
              refine lv_aload_n hx hb dX7_act_118 rfl (lv_at hl 0 rfl) ?_
              refine lv_iload_n hx hb dX7_act_119 rfl (lv_at hl 3 rfl) ?_
              refine C_vi (wr := []) X hP hD hS [.int x3] [] (w_X7_leads l D cI cZ cR adK adV _ o q (upd (upd (upd (upd (upd F 23 (0 : Int32)) 27 (0 : Int32)) 24 r49) 25 y62) 26 r74) A x3 _ h) cal_X7_leads mw_49_22 rfl [0, 1, 2, 3, 4, 5, 6, 7, 8, 9, 10, 11, 12, 13, 14, 15] [] [0, 1, 2, 3, 4, 5, 6, 7, 8, 9, 10, 11, 12, 13, 14, 15] (fun u => (wX7 cI cZ o q u.1 u.2 : va_W)) rfl rfl (fun _ => rfl) rfl 0 rfl rfl ⟨rfl, rfl⟩ ⟨Nat.le_of_ble_eq_true rfl, Nat.le_of_ble_eq_true rfl⟩ hl.1 rfl (Nat.le_of_ble_eq_true rfl) ⟨Nat.zero_le _, Nat.zero_le _⟩ dX7_act_120 (fun r120 u H locs h hP hD hS => ?_)
              obtain ⟨F_120, A_120⟩ := u
              try dsimp only at h
              have hP : va_P D vwCl (wX7 cI cZ o q F_120 A_120 : va_W) H := hP
              have hD : va_D A9 (wX7 cI cZ o q F_120 A_120 : va_W) := hD
              exact b_X7_act_J123 F_120 A_120 r120 X ret  _ _ _ h hP hD hS (lv_sub hl [0] rfl)
            · replace h := h.2 c107
              refine lv_aload_n hx hb dX7_act_110 rfl (lv_at hl 0 rfl) ?_
              refine lv_iload_n hx hb dX7_act_111 rfl (lv_at hl 3 rfl) ?_
              refine C_vi (wr := []) X hP hD hS [.int x3] [] (w_X7_turns l D cI cZ cR adK adV _ o q (upd (upd (upd (upd (upd F 23 (0 : Int32)) 27 (0 : Int32)) 24 r49) 25 y62) 26 r74) A x3 _ h) cal_X7_turns mw_49_14 rfl [0, 1, 2, 3, 4, 5, 6, 7, 8, 9, 10, 11, 12, 13, 14, 15] [] [0, 1, 2, 3, 4, 5, 6, 7, 8, 9, 10, 11, 12, 13, 14, 15] (fun u => (wX7 cI cZ o q u.1 u.2 : va_W)) rfl rfl (fun _ => rfl) rfl 0 rfl rfl ⟨rfl, rfl⟩ ⟨Nat.le_of_ble_eq_true rfl, Nat.le_of_ble_eq_true rfl⟩ hl.1 rfl (Nat.le_of_ble_eq_true rfl) ⟨Nat.zero_le _, Nat.zero_le _⟩ dX7_act_112 (fun r112 u H locs h hP hD hS => ?_)
              obtain ⟨F_112, A_112⟩ := u
              try dsimp only at h
              have hP : va_P D vwCl (wX7 cI cZ o q F_112 A_112 : va_W) H := hP
              have hD : va_D A9 (wX7 cI cZ o q F_112 A_112 : va_W) := hD
              refine lv_goto (tgt := 123) hx hb dX7_act_115 (by decide) ?_
              exact b_X7_act_J123 F_112 A_112 r112 X ret  _ _ _ h hP hD hS (lv_sub hl [0] rfl)
          · replace h := h.2 c94
            refine lv_aload_n hx hb dX7_act_97 rfl (lv_at hl 0 rfl) ?_
            refine lv_iload_n hx hb dX7_act_98 rfl (lv_at hl 3 rfl) ?_
            refine C_vi (wr := []) X hP hD hS [.int x3] [] (w_X7_bleats l D cI cZ cR adK adV _ o q (upd (upd (upd (upd (upd F 23 (0 : Int32)) 27 (0 : Int32)) 24 r49) 25 y62) 26 r74) A x3 _ h) cal_X7_bleats mw_49_6 rfl [0, 1, 2, 3, 4, 5, 6, 7, 8, 9, 10, 11, 12, 13, 14, 15] [] [0, 1, 2, 3, 4, 5, 6, 7, 8, 9, 10, 11, 12, 13, 14, 15] (fun u => (wX7 cI cZ o q u.1 u.2 : va_W)) rfl rfl (fun _ => rfl) rfl 0 rfl rfl ⟨rfl, rfl⟩ ⟨Nat.le_of_ble_eq_true rfl, Nat.le_of_ble_eq_true rfl⟩ hl.1 rfl (Nat.le_of_ble_eq_true rfl) ⟨Nat.zero_le _, Nat.zero_le _⟩ dX7_act_99 (fun r99 u H locs h hP hD hS => ?_)
            obtain ⟨F_99, A_99⟩ := u
            try dsimp only at h
            have hP : va_P D vwCl (wX7 cI cZ o q F_99 A_99 : va_W) H := hP
            have hD : va_D A9 (wX7 cI cZ o q F_99 A_99 : va_W) := hD
            refine lv_goto (tgt := 123) hx hb dX7_act_102 (by decide) ?_
            exact b_X7_act_J123 F_99 A_99 r99 X ret  _ _ _ h hP hD hS (lv_sub hl [0] rfl)
        · replace h := h.2 c81
          refine lv_aload_n hx hb dX7_act_84 rfl (lv_at hl 0 rfl) ?_
          refine lv_iload_n hx hb dX7_act_85 rfl (lv_at hl 3 rfl) ?_
          refine C_vi (wr := []) X hP hD hS [.int x3] [] (w_X7_asks l D cI cZ cR adK adV _ o q (upd (upd (upd (upd (upd F 23 (0 : Int32)) 27 (0 : Int32)) 24 r49) 25 y62) 26 r74) A x3 _ h) cal_X7_asks mw_48_14 rfl [0, 1, 2, 3, 4, 5, 6, 7, 8, 9, 10, 11, 12, 13, 14, 15] [] [0, 1, 2, 3, 4, 5, 6, 7, 8, 9, 10, 11, 12, 13, 14, 15] (fun u => (wX7 cI cZ o q u.1 u.2 : va_W)) rfl rfl (fun _ => rfl) rfl 0 rfl rfl ⟨rfl, rfl⟩ ⟨Nat.le_of_ble_eq_true rfl, Nat.le_of_ble_eq_true rfl⟩ hl.1 rfl (Nat.le_of_ble_eq_true rfl) ⟨Nat.zero_le _, Nat.zero_le _⟩ dX7_act_86 (fun r86 u H locs h hP hD hS => ?_)
          obtain ⟨F_86, A_86⟩ := u
          try dsimp only at h
          have hP : va_P D vwCl (wX7 cI cZ o q F_86 A_86 : va_W) H := hP
          have hD : va_D A9 (wX7 cI cZ o q F_86 A_86 : va_W) := hD
          refine lv_goto (tgt := 123) hx hb dX7_act_89 (by decide) ?_
          exact b_X7_act_J123 F_86 A_86 r86 X ret  _ _ _ h hP hD hS (lv_sub hl [0] rfl)
      · replace h := h.2 c30
        refine lv_iconst (v := 0) hx hb dX7_act_33 (by decide) ?_
        exact ret _ ((upd F 23 (0 : Int32)), A) _ _ _ _ dX7_act_34 h hP hD hS
theorem dX7_trace_0 : decode cX7_trace 0 = .ok (.iload_n 1, 1) := by decide +kernel
theorem dX7_trace_1 : decode cX7_trace 1 = .ok (.i2l, 1) := by decide +kernel
theorem dX7_trace_2 : decode cX7_trace 2 = .ok (.lconst 0, 1) := by decide +kernel
theorem dX7_trace_3 : decode cX7_trace 3 = .ok (.aload_n 0, 1) := by decide +kernel
theorem dX7_trace_4 : decode cX7_trace 4 = .ok (.getfield 307, 3) := by decide +kernel
theorem dX7_trace_7 : decode cX7_trace 7 = .ok (.iconst 1, 1) := by decide +kernel
theorem dX7_trace_8 : decode cX7_trace 8 = .ok (.isub, 1) := by decide +kernel
theorem dX7_trace_9 : decode cX7_trace 9 = .ok (.i2l, 1) := by decide +kernel
theorem dX7_trace_10 : decode cX7_trace 10 = .ok (.invokestatic 61, 3) := by decide +kernel
theorem dX7_trace_13 : decode cX7_trace 13 = .ok (.ifCond .eq 12, 3) := by decide +kernel
theorem dX7_trace_16 : decode cX7_trace 16 = .ok (.aload_n 0, 1) := by decide +kernel
theorem dX7_trace_17 : decode cX7_trace 17 = .ok (.getfield 53, 3) := by decide +kernel
theorem dX7_trace_20 : decode cX7_trace 20 = .ok (.iload_n 1, 1) := by decide +kernel
theorem dX7_trace_21 : decode cX7_trace 21 = .ok (.iaload, 1) := by decide +kernel
theorem dX7_trace_22 : decode cX7_trace 22 = .ok (.goto 5, 3) := by decide +kernel
theorem dX7_trace_25 : decode cX7_trace 25 = .ok (.bipush (-3), 2) := by decide +kernel
theorem dX7_trace_27 : decode cX7_trace 27 = .ok (.ireturn, 1) := by decide +kernel
def p_X7_trace (F : tF) (A : tA) (x1 : Int32) (K : Int32 → Prop) : Prop := (p_X7_isIn ((x1).toInt64) (0 : Int64) ((((F 23) - (1 : Int32))).toInt64) (fun r10 => ((r10 = 0 → (K (-3 : Int32))) ∧ (¬ r10 = 0 → (vp_in x1 30 ∧ (K ((A 22) (x1).toNatClampNeg)))))))
set_option maxHeartbeats 4000000 in
set_option maxRecDepth 100000 in
theorem w_X7_trace (l : Launch) (D : va_G) (cI cZ cR : ClassId) (adK adV : Nat → Nat) (sz : Nat) (o : Nat) (q : Nat → Nat) (F : tF) (A : tA) (x1 : Int32) (K : Int32 → Prop) (h : p_X7_trace F A x1 K) : MI l D cI cZ cR adK adV yX7_trace cX7_trace 2 (some .int) (rmN 1 25) [.ref o, .int x1] (wX7 cI cZ o q F A : va_W) sz (fun (r : Int32) (u : Unit) => K r) (fun (u : Unit) => (wX7 cI cZ o q F A : va_W)) := by
  refine M_i (by decide +kernel) (Nat.le_of_ble_eq_true rfl) ?_
  intro p e s m args below meth c Q A9 ls X ret hP hD hS hl
  obtain ⟨hx, hb, hml, ht, hown, hK, hA, hE⟩ := id X
  have hl : lv_has ls 2 [(0, .ref o), (1, .int x1)] := hl
  unfold p_X7_trace at h
  refine lv_iload_n hx hb dX7_trace_0 rfl (lv_at hl 1 rfl) ?_
  refine lv_i2l (v := (x1).toInt64) hx hb dX7_trace_1 rfl ?_
  refine lv_lconst (v := 0) hx hb dX7_trace_2 (by decide) ?_
  refine lv_aload_n hx hb dX7_trace_3 rfl (lv_at hl 0 rfl) ?_
  refine va_get (C := RX7) (T := TX7) (N := 28) (own := RX7) (v := .int (F 23)) hx hb ht inlX7 hown hK hP 0 rfl rfl 23 (Nat.le_of_ble_eq_true rfl) (ht _ mw_48_9) (fun _ h9 => h9) rfl dX7_trace_4 ?_
  refine lv_iconst (v := 1) hx hb dX7_trace_7 (by decide) ?_
  refine lv_isub hx hb dX7_trace_8 ?_
  refine lv_i2l (v := (((F 23) - (1 : Int32))).toInt64) hx hb dX7_trace_9 rfl ?_
  refine C_si (wr := [0, 1, 2, 3, 4, 5, 6, 7, 8, 9, 10, 11, 12, 13, 14, 15].filterMap (fun i => (wX7 cI cZ o q F A : va_W)[i]?)) X hP hD hS [.long (x1).toInt64, .long (0 : Int64), .long (((F 23) - (1 : Int32))).toInt64] [] (w_X7_isIn l D cI cZ cR adK adV _ ((x1).toInt64) (0 : Int64) ((((F 23) - (1 : Int32))).toInt64) _ h) cal_X7_isIn mw_6_19 rfl [] [0, 1, 2, 3, 4, 5, 6, 7, 8, 9, 10, 11, 12, 13, 14, 15] [0, 1, 2, 3, 4, 5, 6, 7, 8, 9, 10, 11, 12, 13, 14, 15] (fun u => (wX7 cI cZ o q F A : va_W)) rfl rfl (fun _ => rfl) rfl ⟨rfl, rfl⟩ ⟨Nat.le_of_ble_eq_true rfl, Nat.le_of_ble_eq_true rfl⟩ hl.1 rfl (Nat.le_of_ble_eq_true rfl) ⟨Nat.zero_le _, Nat.zero_le _⟩ dX7_trace_10 (fun r10 u H locs h hP hD hS => ?_)
  refine lv_if_eq (tgt := 25) hx hb dX7_trace_13 (by decide) (fun c13 => ?_) (fun c13 => ?_)
  · replace h := h.1 c13
    refine lv_bipush (v := -3) hx hb dX7_trace_25 (by decide) ?_
    exact ret _ () _ _ _ _ dX7_trace_27 h hP hD hS
  · replace h := h.2 c13
    refine lv_aload_n hx hb dX7_trace_16 rfl (lv_at hl 0 rfl) ?_
    refine va_get (C := RX7) (T := TX7) (N := 28) (own := RX7) (v := .ref (q 22)) hx hb ht inlX7 hown hK hP 0 rfl rfl 22 (Nat.le_of_ble_eq_true rfl) (ht _ mw_5_21) (fun _ h9 => h9) rfl dX7_trace_17 ?_
    refine lv_iload_n hx hb dX7_trace_20 rfl (lv_at hl 1 rfl) ?_
    obtain ⟨hi21, h⟩ := h
    refine g_iald (f := (A 22)) (k := (x1).toNatClampNeg) hx hb hK hP 15 0 rfl rfl hi21 rfl dX7_trace_21 ?_
    refine lv_goto (tgt := 27) hx hb dX7_trace_22 (by decide) ?_
    exact ret _ () _ _ _ _ dX7_trace_27 h hP hD hS
theorem dX7_placesWithVotes_0 : decode cX7_placesWithVotes 0 = .ok (.aload_n 0, 1) := by decide +kernel
theorem dX7_placesWithVotes_1 : decode cX7_placesWithVotes 1 = .ok (.iconst 0, 1) := by decide +kernel
theorem dX7_placesWithVotes_2 : decode cX7_placesWithVotes 2 = .ok (.iconst (-1), 1) := by decide +kernel
theorem dX7_placesWithVotes_3 : decode cX7_placesWithVotes 3 = .ok (.iconst 0, 1) := by decide +kernel
theorem dX7_placesWithVotes_4 : decode cX7_placesWithVotes 4 = .ok (.invokevirtual 190, 3) := by decide +kernel
theorem dX7_placesWithVotes_7 : decode cX7_placesWithVotes 7 = .ok (.iconst 0, 1) := by decide +kernel
theorem dX7_placesWithVotes_8 : decode cX7_placesWithVotes 8 = .ok (.istore_n 1, 1) := by decide +kernel
theorem dX7_placesWithVotes_9 : decode cX7_placesWithVotes 9 = .ok (.iconst 0, 1) := by decide +kernel
theorem dX7_placesWithVotes_10 : decode cX7_placesWithVotes 10 = .ok (.istore_n 2, 1) := by decide +kernel
theorem dX7_placesWithVotes_11 : decode cX7_placesWithVotes 11 = .ok (.iload_n 2, 1) := by decide +kernel
theorem dX7_placesWithVotes_12 : decode cX7_placesWithVotes 12 = .ok (.bipush 6, 2) := by decide +kernel
theorem dX7_placesWithVotes_14 : decode cX7_placesWithVotes 14 = .ok (.if_icmp .ge 26, 3) := by decide +kernel
theorem dX7_placesWithVotes_17 : decode cX7_placesWithVotes 17 = .ok (.iload_n 1, 1) := by decide +kernel
theorem dX7_placesWithVotes_18 : decode cX7_placesWithVotes 18 = .ok (.aload_n 0, 1) := by decide +kernel
theorem dX7_placesWithVotes_19 : decode cX7_placesWithVotes 19 = .ok (.getfield 25, 3) := by decide +kernel
theorem dX7_placesWithVotes_22 : decode cX7_placesWithVotes 22 = .ok (.iload_n 2, 1) := by decide +kernel
theorem dX7_placesWithVotes_23 : decode cX7_placesWithVotes 23 = .ok (.iaload, 1) := by decide +kernel
theorem dX7_placesWithVotes_24 : decode cX7_placesWithVotes 24 = .ok (.ifCond .le 7, 3) := by decide +kernel
theorem dX7_placesWithVotes_27 : decode cX7_placesWithVotes 27 = .ok (.iconst 1, 1) := by decide +kernel
theorem dX7_placesWithVotes_28 : decode cX7_placesWithVotes 28 = .ok (.goto 4, 3) := by decide +kernel
theorem dX7_placesWithVotes_31 : decode cX7_placesWithVotes 31 = .ok (.iconst 0, 1) := by decide +kernel
theorem dX7_placesWithVotes_32 : decode cX7_placesWithVotes 32 = .ok (.iadd, 1) := by decide +kernel
theorem dX7_placesWithVotes_33 : decode cX7_placesWithVotes 33 = .ok (.istore_n 1, 1) := by decide +kernel
theorem dX7_placesWithVotes_34 : decode cX7_placesWithVotes 34 = .ok (.iinc 2 1, 3) := by decide +kernel
theorem dX7_placesWithVotes_37 : decode cX7_placesWithVotes 37 = .ok (.goto (-26), 3) := by decide +kernel
theorem dX7_placesWithVotes_40 : decode cX7_placesWithVotes 40 = .ok (.iload_n 1, 1) := by decide +kernel
theorem dX7_placesWithVotes_41 : decode cX7_placesWithVotes 41 = .ok (.ireturn, 1) := by decide +kernel
def p_X7_placesWithVotes_J32 (F : tF) (A : tA) (B11 : (Int32 → Int32 → Prop)) (K : Int32 → tF → tA → Prop) (x2 : Int32) (s0 : Int32) (s1 : Int32) : Prop := (∀ y33 : Int32, y33 = (s1 + s0) → (∀ y34 : Int32, y34 = (x2 + (1 : Int32)) → (B11 y33 y34)))
set_option maxHeartbeats 4000000 in
set_option maxRecDepth 100000 in
theorem b_X7_placesWithVotes_J32 {p : Program} {l : Launch} {e : Env} {s : State} {m : MethodId} {args : Array Value} {below : List Frame} {meth : Method} {c : Code} {Q : State → Prop} {D : va_G} {cI cZ cR : ClassId} {adK adV : Nat → Nat} {A9 : Nat → Prop} {o : Nat} {q : Nat → Nat} {K : Int32 → tF → tA → Prop} {B11 : (Int32 → Int32 → Prop)} (F : tF) (A : tA) (x2 : Int32) (s0 : Int32) (s1 : Int32) (X : CX p s m args c yX7_placesWithVotes.cls cX7_placesWithVotes 3 D cI cZ cR adK adV A9) (ret : RTi p l e (rmN 4 93) s m args below meth c Q cX7_placesWithVotes D A9 (fun (r : Int32) (u : (tF × tA)) => K r u.1 u.2) (fun (u : (tF × tA)) => (wX7 cI cZ o q u.1 u.2 : va_W))) (hB11 : ∀ (x1 : Int32) (x2 : Int32) (H : Heap) (locs : List Loc) (ls : Array Slot), B11 x1 x2 → va_P D vwCl (wX7 cI cZ o q F A : va_W) H → va_D A9 (wX7 cI cZ o q F A : va_W) → va_S A9 s.heap H locs → lv_has ls 3 [(0, .ref o), (1, .int x1), (2, .int x2)] → W p l e (rmN 4 93) s m args below meth c H locs 0 0 Q (F0 m 11 ls [])) (H : Heap) (locs : List Loc) (ls : Array Slot) (h : p_X7_placesWithVotes_J32 F A B11 K x2 s0 s1) (hP : va_P D vwCl (wX7 cI cZ o q F A : va_W) H) (hD : va_D A9 (wX7 cI cZ o q F A : va_W)) (hS : va_S A9 s.heap H locs) (hl : lv_has ls 3 [(0, .ref o), (2, .int x2)]) : W p l e (rmN 4 93) s m args below meth c H locs 0 0 Q (F0 m 32 ls [.int s0, .int s1]) := by
  obtain ⟨hx, hb, hml, ht, hown, hK, hA, hE⟩ := id X
  unfold p_X7_placesWithVotes_J32 at h
  refine lv_iadd hx hb dX7_placesWithVotes_32 ?_
  refine lv_topi (fun y33 ey33 => ?_)
  replace h := h y33 ey33
  refine lv_istore_n (lv' := [(1, .int y33), (0, .ref o), (2, .int x2)]) hx hb dX7_placesWithVotes_33 rfl hl (by decide) rfl (fun ls hl => ?_)
  obtain ⟨y34, ey34⟩ : ∃ y : Int32, y = (x2 + (1 : Int32)) := ⟨_, rfl⟩
  replace h := h y34 ey34
  refine lv_iinc (v := y34) (lv' := [(2, .int y34), (1, .int y33), (0, .ref o)]) hx hb dX7_placesWithVotes_34 hl (k := 2) rfl (by rw [ey34]; rfl) (by decide) rfl (fun ls hl => ?_)
  refine lv_goto (tgt := 11) hx hb dX7_placesWithVotes_37 (by decide) ?_
  exact hB11 y33 y34 _ _ _ h hP hD hS (lv_sub hl [2, 1, 0] rfl)
def p_X7_placesWithVotes_L11 (F : tF) (A : tA) (K : Int32 → tF → tA → Prop) : Nat → Int32 → Int32 → Prop
  | 0, _, _ => False
  | n11 + 1, x1, x2 => (((6 : Int32) ≤ x2 → (K x1 F A)) ∧ (¬ (6 : Int32) ≤ x2 → (vp_in x2 6 ∧ ((((A 12) (x2).toNatClampNeg) ≤ 0 → (p_X7_placesWithVotes_J32 F A (p_X7_placesWithVotes_L11 F A K n11) K x2 (0 : Int32) x1)) ∧ (¬ ((A 12) (x2).toNatClampNeg) ≤ 0 → (p_X7_placesWithVotes_J32 F A (p_X7_placesWithVotes_L11 F A K n11) K x2 (1 : Int32) x1))))))
set_option maxHeartbeats 4000000 in
set_option maxRecDepth 100000 in
theorem b_X7_placesWithVotes_L11 {p : Program} {l : Launch} {e : Env} {s : State} {m : MethodId} {args : Array Value} {below : List Frame} {meth : Method} {c : Code} {Q : State → Prop} {D : va_G} {cI cZ cR : ClassId} {adK adV : Nat → Nat} {A9 : Nat → Prop} {o : Nat} {q : Nat → Nat} {K : Int32 → tF → tA → Prop}  (F : tF) (A : tA) (X : CX p s m args c yX7_placesWithVotes.cls cX7_placesWithVotes 3 D cI cZ cR adK adV A9) (ret : RTi p l e (rmN 4 93) s m args below meth c Q cX7_placesWithVotes D A9 (fun (r : Int32) (u : (tF × tA)) => K r u.1 u.2) (fun (u : (tF × tA)) => (wX7 cI cZ o q u.1 u.2 : va_W)))   : ∀ (n : Nat) (x1 : Int32) (x2 : Int32) (H : Heap) (locs : List Loc) (ls : Array Slot), p_X7_placesWithVotes_L11 F A K n x1 x2 → va_P D vwCl (wX7 cI cZ o q F A : va_W) H → va_D A9 (wX7 cI cZ o q F A : va_W) → va_S A9 s.heap H locs → lv_has ls 3 [(0, .ref o), (1, .int x1), (2, .int x2)] → W p l e (rmN 4 93) s m args below meth c H locs 0 0 Q (F0 m 11 ls []) := by
  obtain ⟨hx, hb, hml, ht, hown, hK, hA, hE⟩ := id X
  intro n
  induction n with
  | zero => intro x1 x2 H locs ls h; exact False.elim h
  | succ n11 ih =>
    intro x1 x2 H locs ls h hP hD hS hl
    rw [p_X7_placesWithVotes_L11] at h
    refine lv_iload_n hx hb dX7_placesWithVotes_11 rfl (lv_at hl 2 rfl) ?_
    refine lv_bipush (v := 6) hx hb dX7_placesWithVotes_12 (by decide) ?_
    refine lv_icmp_ge (tgt := 40) hx hb dX7_placesWithVotes_14 (by decide) (fun c14 => ?_) (fun c14 => ?_)
    · replace h := h.1 c14
      refine lv_iload_n hx hb dX7_placesWithVotes_40 rfl (lv_at hl 1 rfl) ?_
      exact ret _ (F, A) _ _ _ _ dX7_placesWithVotes_41 h hP hD hS
    · replace h := h.2 c14
      refine lv_iload_n hx hb dX7_placesWithVotes_17 rfl (lv_at hl 1 rfl) ?_
      refine lv_aload_n hx hb dX7_placesWithVotes_18 rfl (lv_at hl 0 rfl) ?_
      refine va_get (C := RX7) (T := TX7) (N := 28) (own := RX7) (v := .ref (q 12)) hx hb ht inlX7 hown hK hP 0 rfl rfl 12 (Nat.le_of_ble_eq_true rfl) (ht _ mw_5_12) (fun _ h9 => h9) rfl dX7_placesWithVotes_19 ?_
      refine lv_iload_n hx hb dX7_placesWithVotes_22 rfl (lv_at hl 2 rfl) ?_
      obtain ⟨hi23, h⟩ := h
      refine g_iald (f := (A 12)) (k := (x2).toNatClampNeg) hx hb hK hP 6 0 rfl rfl hi23 rfl dX7_placesWithVotes_23 ?_
      refine lv_if_le (tgt := 31) hx hb dX7_placesWithVotes_24 (by decide) (fun c24 => ?_) (fun c24 => ?_)
      · replace h := h.1 c24
        refine lv_iconst (v := 0) hx hb dX7_placesWithVotes_31 (by decide) ?_
        exact b_X7_placesWithVotes_J32 F A x2 (0 : Int32) x1 X ret ih _ _ _ h hP hD hS (lv_sub hl [0, 2] rfl)
      · replace h := h.2 c24
        refine lv_iconst (v := 1) hx hb dX7_placesWithVotes_27 (by decide) ?_
        refine lv_goto (tgt := 32) hx hb dX7_placesWithVotes_28 (by decide) ?_
        exact b_X7_placesWithVotes_J32 F A x2 (1 : Int32) x1 X ret ih _ _ _ h hP hD hS (lv_sub hl [0, 2] rfl)
def p_X7_placesWithVotes (F : tF) (A : tA) (K : Int32 → tF → tA → Prop) : Prop := (p_X7_polls F A (0 : Int32) (-1 : Int32) (0 : Int32) (fun F_4 A_4 => (∃ n11, p_X7_placesWithVotes_L11 F_4 A_4 K n11 (0 : Int32) (0 : Int32))))
set_option maxHeartbeats 4000000 in
set_option maxRecDepth 100000 in
theorem w_X7_placesWithVotes (l : Launch) (D : va_G) (cI cZ cR : ClassId) (adK adV : Nat → Nat) (sz : Nat) (o : Nat) (q : Nat → Nat) (F : tF) (A : tA) (K : Int32 → tF → tA → Prop) (h : p_X7_placesWithVotes F A K) : MI l D cI cZ cR adK adV yX7_placesWithVotes cX7_placesWithVotes 3 (some .int) (rmN 4 93) [.ref o] (wX7 cI cZ o q F A : va_W) sz (fun (r : Int32) (u : (tF × tA)) => K r u.1 u.2) (fun (u : (tF × tA)) => (wX7 cI cZ o q u.1 u.2 : va_W)) := by
  refine M_i (by decide +kernel) (Nat.le_of_ble_eq_true rfl) ?_
  intro p e s m args below meth c Q A9 ls X ret hP hD hS hl
  obtain ⟨hx, hb, hml, ht, hown, hK, hA, hE⟩ := id X
  have hl : lv_has ls 3 [(0, .ref o)] := hl
  unfold p_X7_placesWithVotes at h
  refine lv_aload_n hx hb dX7_placesWithVotes_0 rfl (lv_at hl 0 rfl) ?_
  refine lv_iconst (v := 0) hx hb dX7_placesWithVotes_1 (by decide) ?_
  refine lv_iconst (v := -1) hx hb dX7_placesWithVotes_2 (by decide) ?_
  refine lv_iconst (v := 0) hx hb dX7_placesWithVotes_3 (by decide) ?_
  refine C_vv (wr := []) X hP hD hS [.int (0 : Int32), .int (-1 : Int32), .int (0 : Int32)] [] (w_X7_polls l D cI cZ cR adK adV _ o q F A (0 : Int32) (-1 : Int32) (0 : Int32) _ h) cal_X7_polls mw_22_13 rfl [0, 1, 2, 3, 4, 5, 6, 7, 8, 9, 10, 11, 12, 13, 14, 15] [] [0, 1, 2, 3, 4, 5, 6, 7, 8, 9, 10, 11, 12, 13, 14, 15] (fun u => (wX7 cI cZ o q u.1 u.2 : va_W)) rfl rfl (fun _ => rfl) rfl 0 rfl rfl ⟨rfl, rfl⟩ ⟨Nat.le_of_ble_eq_true rfl, Nat.le_of_ble_eq_true rfl⟩ hl.1 rfl (Nat.le_of_ble_eq_true rfl) ⟨Nat.zero_le _, Nat.zero_le _⟩ dX7_placesWithVotes_4 (fun u H locs h hP hD hS => ?_)
  obtain ⟨F_4, A_4⟩ := u
  try dsimp only at h
  have hP : va_P D vwCl (wX7 cI cZ o q F_4 A_4 : va_W) H := hP
  have hD : va_D A9 (wX7 cI cZ o q F_4 A_4 : va_W) := hD
  refine lv_iconst (v := 0) hx hb dX7_placesWithVotes_7 (by decide) ?_
  refine lv_istore_n (lv' := [(1, .int (0 : Int32)), (0, .ref o)]) hx hb dX7_placesWithVotes_8 rfl hl (by decide) rfl (fun ls hl => ?_)
  refine lv_iconst (v := 0) hx hb dX7_placesWithVotes_9 (by decide) ?_
  refine lv_istore_n (lv' := [(2, .int (0 : Int32)), (1, .int (0 : Int32)), (0, .ref o)]) hx hb dX7_placesWithVotes_10 rfl hl (by decide) rfl (fun ls hl => ?_)
  obtain ⟨n11, h⟩ := h
  exact b_X7_placesWithVotes_L11 F_4 A_4 X ret  n11 (0 : Int32) (0 : Int32) _ _ _ h hP hD hS (lv_sub hl [2, 1, 0] rfl)
theorem dX7_heardOnes_0 : decode cX7_heardOnes 0 = .ok (.iconst 0, 1) := by decide +kernel
theorem dX7_heardOnes_1 : decode cX7_heardOnes 1 = .ok (.istore_n 1, 1) := by decide +kernel
theorem dX7_heardOnes_2 : decode cX7_heardOnes 2 = .ok (.iconst 0, 1) := by decide +kernel
theorem dX7_heardOnes_3 : decode cX7_heardOnes 3 = .ok (.istore_n 2, 1) := by decide +kernel
theorem dX7_heardOnes_4 : decode cX7_heardOnes 4 = .ok (.iload_n 2, 1) := by decide +kernel
theorem dX7_heardOnes_5 : decode cX7_heardOnes 5 = .ok (.aload_n 0, 1) := by decide +kernel
theorem dX7_heardOnes_6 : decode cX7_heardOnes 6 = .ok (.getfield 7, 3) := by decide +kernel
theorem dX7_heardOnes_9 : decode cX7_heardOnes 9 = .ok (.iconst 0, 1) := by decide +kernel
theorem dX7_heardOnes_10 : decode cX7_heardOnes 10 = .ok (.iaload, 1) := by decide +kernel
theorem dX7_heardOnes_11 : decode cX7_heardOnes 11 = .ok (.if_icmp .ge 25, 3) := by decide +kernel
theorem dX7_heardOnes_14 : decode cX7_heardOnes 14 = .ok (.iload_n 1, 1) := by decide +kernel
theorem dX7_heardOnes_15 : decode cX7_heardOnes 15 = .ok (.aload_n 0, 1) := by decide +kernel
theorem dX7_heardOnes_16 : decode cX7_heardOnes 16 = .ok (.iload_n 2, 1) := by decide +kernel
theorem dX7_heardOnes_17 : decode cX7_heardOnes 17 = .ok (.invokevirtual 181, 3) := by decide +kernel
theorem dX7_heardOnes_20 : decode cX7_heardOnes 20 = .ok (.ifCond .ne 7, 3) := by decide +kernel
theorem dX7_heardOnes_23 : decode cX7_heardOnes 23 = .ok (.iconst 0, 1) := by decide +kernel
theorem dX7_heardOnes_24 : decode cX7_heardOnes 24 = .ok (.goto 4, 3) := by decide +kernel
theorem dX7_heardOnes_27 : decode cX7_heardOnes 27 = .ok (.iconst 1, 1) := by decide +kernel
theorem dX7_heardOnes_28 : decode cX7_heardOnes 28 = .ok (.iadd, 1) := by decide +kernel
theorem dX7_heardOnes_29 : decode cX7_heardOnes 29 = .ok (.istore_n 1, 1) := by decide +kernel
theorem dX7_heardOnes_30 : decode cX7_heardOnes 30 = .ok (.iinc 2 1, 3) := by decide +kernel
theorem dX7_heardOnes_33 : decode cX7_heardOnes 33 = .ok (.goto (-29), 3) := by decide +kernel
theorem dX7_heardOnes_36 : decode cX7_heardOnes 36 = .ok (.iload_n 1, 1) := by decide +kernel
theorem dX7_heardOnes_37 : decode cX7_heardOnes 37 = .ok (.ireturn, 1) := by decide +kernel
def p_X7_heardOnes_J28 (F : tF) (A : tA) (B4 : (Int32 → Int32 → Prop)) (K : Int32 → Prop) (x2 : Int32) (s0 : Int32) (s1 : Int32) : Prop := (∀ y29 : Int32, y29 = (s1 + s0) → (∀ y30 : Int32, y30 = (x2 + (1 : Int32)) → (B4 y29 y30)))
set_option maxHeartbeats 4000000 in
set_option maxRecDepth 100000 in
theorem b_X7_heardOnes_J28 {p : Program} {l : Launch} {e : Env} {s : State} {m : MethodId} {args : Array Value} {below : List Frame} {meth : Method} {c : Code} {Q : State → Prop} {D : va_G} {cI cZ cR : ClassId} {adK adV : Nat → Nat} {A9 : Nat → Prop} {o : Nat} {q : Nat → Nat} {K : Int32 → Prop} {B4 : (Int32 → Int32 → Prop)} (F : tF) (A : tA) (x2 : Int32) (s0 : Int32) (s1 : Int32) (X : CX p s m args c yX7_heardOnes.cls cX7_heardOnes 3 D cI cZ cR adK adV A9) (ret : RTi p l e (rmN 2 44) s m args below meth c Q cX7_heardOnes D A9 (fun (r : Int32) (u : Unit) => K r) (fun (u : Unit) => (wX7 cI cZ o q F A : va_W))) (hB4 : ∀ (x1 : Int32) (x2 : Int32) (H : Heap) (locs : List Loc) (ls : Array Slot), B4 x1 x2 → va_P D vwCl (wX7 cI cZ o q F A : va_W) H → va_D A9 (wX7 cI cZ o q F A : va_W) → va_S A9 s.heap H locs → lv_has ls 3 [(0, .ref o), (1, .int x1), (2, .int x2)] → W p l e (rmN 2 44) s m args below meth c H locs 0 0 Q (F0 m 4 ls [])) (H : Heap) (locs : List Loc) (ls : Array Slot) (h : p_X7_heardOnes_J28 F A B4 K x2 s0 s1) (hP : va_P D vwCl (wX7 cI cZ o q F A : va_W) H) (hD : va_D A9 (wX7 cI cZ o q F A : va_W)) (hS : va_S A9 s.heap H locs) (hl : lv_has ls 3 [(0, .ref o), (2, .int x2)]) : W p l e (rmN 2 44) s m args below meth c H locs 0 0 Q (F0 m 28 ls [.int s0, .int s1]) := by
  obtain ⟨hx, hb, hml, ht, hown, hK, hA, hE⟩ := id X
  unfold p_X7_heardOnes_J28 at h
  refine lv_iadd hx hb dX7_heardOnes_28 ?_
  refine lv_topi (fun y29 ey29 => ?_)
  replace h := h y29 ey29
  refine lv_istore_n (lv' := [(1, .int y29), (0, .ref o), (2, .int x2)]) hx hb dX7_heardOnes_29 rfl hl (by decide) rfl (fun ls hl => ?_)
  obtain ⟨y30, ey30⟩ : ∃ y : Int32, y = (x2 + (1 : Int32)) := ⟨_, rfl⟩
  replace h := h y30 ey30
  refine lv_iinc (v := y30) (lv' := [(2, .int y30), (1, .int y29), (0, .ref o)]) hx hb dX7_heardOnes_30 hl (k := 2) rfl (by rw [ey30]; rfl) (by decide) rfl (fun ls hl => ?_)
  refine lv_goto (tgt := 4) hx hb dX7_heardOnes_33 (by decide) ?_
  exact hB4 y29 y30 _ _ _ h hP hD hS (lv_sub hl [2, 1, 0] rfl)
def p_X7_heardOnes_L4 (F : tF) (A : tA) (K : Int32 → Prop) : Nat → Int32 → Int32 → Prop
  | 0, _, _ => False
  | n4 + 1, x1, x2 => ((((A 0) 0) ≤ x2 → (K x1)) ∧ (¬ ((A 0) 0) ≤ x2 → (p_X7_counts F A x2 (fun r17 => ((¬ r17 = 0 → (p_X7_heardOnes_J28 F A (p_X7_heardOnes_L4 F A K n4) K x2 (1 : Int32) x1)) ∧ (r17 = 0 → (p_X7_heardOnes_J28 F A (p_X7_heardOnes_L4 F A K n4) K x2 (0 : Int32) x1)))))))
set_option maxHeartbeats 4000000 in
set_option maxRecDepth 100000 in
theorem b_X7_heardOnes_L4 {p : Program} {l : Launch} {e : Env} {s : State} {m : MethodId} {args : Array Value} {below : List Frame} {meth : Method} {c : Code} {Q : State → Prop} {D : va_G} {cI cZ cR : ClassId} {adK adV : Nat → Nat} {A9 : Nat → Prop} {o : Nat} {q : Nat → Nat} {K : Int32 → Prop}  (F : tF) (A : tA) (X : CX p s m args c yX7_heardOnes.cls cX7_heardOnes 3 D cI cZ cR adK adV A9) (ret : RTi p l e (rmN 2 44) s m args below meth c Q cX7_heardOnes D A9 (fun (r : Int32) (u : Unit) => K r) (fun (u : Unit) => (wX7 cI cZ o q F A : va_W)))   : ∀ (n : Nat) (x1 : Int32) (x2 : Int32) (H : Heap) (locs : List Loc) (ls : Array Slot), p_X7_heardOnes_L4 F A K n x1 x2 → va_P D vwCl (wX7 cI cZ o q F A : va_W) H → va_D A9 (wX7 cI cZ o q F A : va_W) → va_S A9 s.heap H locs → lv_has ls 3 [(0, .ref o), (1, .int x1), (2, .int x2)] → W p l e (rmN 2 44) s m args below meth c H locs 0 0 Q (F0 m 4 ls []) := by
  obtain ⟨hx, hb, hml, ht, hown, hK, hA, hE⟩ := id X
  intro n
  induction n with
  | zero => intro x1 x2 H locs ls h; exact False.elim h
  | succ n4 ih =>
    intro x1 x2 H locs ls h hP hD hS hl
    rw [p_X7_heardOnes_L4] at h
    refine lv_iload_n hx hb dX7_heardOnes_4 rfl (lv_at hl 2 rfl) ?_
    refine lv_aload_n hx hb dX7_heardOnes_5 rfl (lv_at hl 0 rfl) ?_
    refine va_get (C := RX7) (T := TX7) (N := 28) (own := RX7) (v := .ref (q 0)) hx hb ht inlX7 hown hK hP 0 rfl rfl 0 (Nat.le_of_ble_eq_true rfl) (ht _ mw_5_7) (fun _ h9 => h9) rfl dX7_heardOnes_6 ?_
    refine lv_iconst (v := 0) hx hb dX7_heardOnes_9 (by decide) ?_
    refine g_iald (f := (A 0)) (k := 0) hx hb hK hP 1 0 rfl rfl (vp_in_lit rfl : vp_in (0 : Int32) 53) (by decide) dX7_heardOnes_10 ?_
    refine lv_icmp_ge (tgt := 36) hx hb dX7_heardOnes_11 (by decide) (fun c11 => ?_) (fun c11 => ?_)
    · replace h := h.1 c11
      refine lv_iload_n hx hb dX7_heardOnes_36 rfl (lv_at hl 1 rfl) ?_
      exact ret _ () _ _ _ _ dX7_heardOnes_37 h hP hD hS
    · replace h := h.2 c11
      refine lv_iload_n hx hb dX7_heardOnes_14 rfl (lv_at hl 1 rfl) ?_
      refine lv_aload_n hx hb dX7_heardOnes_15 rfl (lv_at hl 0 rfl) ?_
      refine lv_iload_n hx hb dX7_heardOnes_16 rfl (lv_at hl 2 rfl) ?_
      refine C_vi (wr := []) X hP hD hS [.int x2] [.int x1] (w_X7_counts l D cI cZ cR adK adV _ o q F A x2 _ h) cal_X7_counts mw_18_20 rfl [0, 1, 2, 3, 4, 5, 6, 7, 8, 9, 10, 11, 12, 13, 14, 15] [] [0, 1, 2, 3, 4, 5, 6, 7, 8, 9, 10, 11, 12, 13, 14, 15] (fun u => (wX7 cI cZ o q F A : va_W)) rfl rfl (fun _ => rfl) rfl 0 rfl rfl ⟨rfl, rfl⟩ ⟨Nat.le_of_ble_eq_true rfl, Nat.le_of_ble_eq_true rfl⟩ hl.1 rfl (Nat.le_of_ble_eq_true rfl) ⟨Nat.zero_le _, Nat.zero_le _⟩ dX7_heardOnes_17 (fun r17 u H locs h hP hD hS => ?_)
      refine lv_if_ne (tgt := 27) hx hb dX7_heardOnes_20 (by decide) (fun c20 => ?_) (fun c20 => ?_)
      · replace h := h.1 c20
        refine lv_iconst (v := 1) hx hb dX7_heardOnes_27 (by decide) ?_
        exact b_X7_heardOnes_J28 F A x2 (1 : Int32) x1 X ret ih _ _ _ h hP hD hS (lv_sub hl [0, 2] rfl)
      · replace h := h.2 c20
        refine lv_iconst (v := 0) hx hb dX7_heardOnes_23 (by decide) ?_
        refine lv_goto (tgt := 28) hx hb dX7_heardOnes_24 (by decide) ?_
        exact b_X7_heardOnes_J28 F A x2 (0 : Int32) x1 X ret ih _ _ _ h hP hD hS (lv_sub hl [0, 2] rfl)
def p_X7_heardOnes (F : tF) (A : tA) (K : Int32 → Prop) : Prop := (∃ n4, p_X7_heardOnes_L4 F A K n4 (0 : Int32) (0 : Int32))
set_option maxHeartbeats 4000000 in
set_option maxRecDepth 100000 in
theorem w_X7_heardOnes (l : Launch) (D : va_G) (cI cZ cR : ClassId) (adK adV : Nat → Nat) (sz : Nat) (o : Nat) (q : Nat → Nat) (F : tF) (A : tA) (K : Int32 → Prop) (h : p_X7_heardOnes F A K) : MI l D cI cZ cR adK adV yX7_heardOnes cX7_heardOnes 3 (some .int) (rmN 2 44) [.ref o] (wX7 cI cZ o q F A : va_W) sz (fun (r : Int32) (u : Unit) => K r) (fun (u : Unit) => (wX7 cI cZ o q F A : va_W)) := by
  refine M_i (by decide +kernel) (Nat.le_of_ble_eq_true rfl) ?_
  intro p e s m args below meth c Q A9 ls X ret hP hD hS hl
  obtain ⟨hx, hb, hml, ht, hown, hK, hA, hE⟩ := id X
  have hl : lv_has ls 3 [(0, .ref o)] := hl
  unfold p_X7_heardOnes at h
  refine lv_iconst (v := 0) hx hb dX7_heardOnes_0 (by decide) ?_
  refine lv_istore_n (lv' := [(1, .int (0 : Int32)), (0, .ref o)]) hx hb dX7_heardOnes_1 rfl hl (by decide) rfl (fun ls hl => ?_)
  refine lv_iconst (v := 0) hx hb dX7_heardOnes_2 (by decide) ?_
  refine lv_istore_n (lv' := [(2, .int (0 : Int32)), (1, .int (0 : Int32)), (0, .ref o)]) hx hb dX7_heardOnes_3 rfl hl (by decide) rfl (fun ls hl => ?_)
  obtain ⟨n4, h⟩ := h
  exact b_X7_heardOnes_L4 F A X ret  n4 (0 : Int32) (0 : Int32) _ _ _ h hP hD hS (lv_sub hl [2, 1, 0] rfl)
theorem cal_X7_placesWithVotes : CalV yX7_placesWithVotes cX7_placesWithVotes 3 (some .int) 0 := ⟨mw_51_12, mw_1_5, mw_51_10, mw_51_11, ⟨by decide +kernel, by decide +kernel, by decide +kernel⟩⟩
theorem cal_X7_heardOnes : CalV yX7_heardOnes cX7_heardOnes 3 (some .int) 0 := ⟨mw_51_16, mw_1_5, mw_51_14, mw_51_15, ⟨by decide +kernel, by decide +kernel, by decide +kernel⟩⟩
theorem dX7_many_0 : decode cX7_many 0 = .ok (.iload_n 1, 1) := by decide +kernel
theorem dX7_many_1 : decode cX7_many 1 = .ok (.tableswitch 83 0 6 #[43, 50, 55, 60, 68, 73, 78], 43) := by decide +kernel
theorem dX7_many_44 : decode cX7_many 44 = .ok (.aload_n 0, 1) := by decide +kernel
theorem dX7_many_45 : decode cX7_many 45 = .ok (.getfield 7, 3) := by decide +kernel
theorem dX7_many_48 : decode cX7_many 48 = .ok (.iconst 0, 1) := by decide +kernel
theorem dX7_many_49 : decode cX7_many 49 = .ok (.iaload, 1) := by decide +kernel
theorem dX7_many_50 : decode cX7_many 50 = .ok (.ireturn, 1) := by decide +kernel
theorem dX7_many_51 : decode cX7_many 51 = .ok (.aload_n 0, 1) := by decide +kernel
theorem dX7_many_52 : decode cX7_many 52 = .ok (.invokevirtual 352, 3) := by decide +kernel
theorem dX7_many_55 : decode cX7_many 55 = .ok (.ireturn, 1) := by decide +kernel
theorem dX7_many_56 : decode cX7_many 56 = .ok (.aload_n 0, 1) := by decide +kernel
theorem dX7_many_57 : decode cX7_many 57 = .ok (.invokevirtual 355, 3) := by decide +kernel
theorem dX7_many_60 : decode cX7_many 60 = .ok (.ireturn, 1) := by decide +kernel
theorem dX7_many_61 : decode cX7_many 61 = .ok (.aload_n 0, 1) := by decide +kernel
theorem dX7_many_62 : decode cX7_many 62 = .ok (.invokevirtual 226, 3) := by decide +kernel
theorem dX7_many_65 : decode cX7_many 65 = .ok (.invokestatic 244, 3) := by decide +kernel
theorem dX7_many_68 : decode cX7_many 68 = .ok (.ireturn, 1) := by decide +kernel
theorem dX7_many_69 : decode cX7_many 69 = .ok (.aload_n 0, 1) := by decide +kernel
theorem dX7_many_70 : decode cX7_many 70 = .ok (.getfield 151, 3) := by decide +kernel
theorem dX7_many_73 : decode cX7_many 73 = .ok (.ireturn, 1) := by decide +kernel
theorem dX7_many_74 : decode cX7_many 74 = .ok (.aload_n 0, 1) := by decide +kernel
theorem dX7_many_75 : decode cX7_many 75 = .ok (.getfield 65, 3) := by decide +kernel
theorem dX7_many_78 : decode cX7_many 78 = .ok (.ireturn, 1) := by decide +kernel
theorem dX7_many_79 : decode cX7_many 79 = .ok (.aload_n 0, 1) := by decide +kernel
theorem dX7_many_80 : decode cX7_many 80 = .ok (.getfield 307, 3) := by decide +kernel
theorem dX7_many_83 : decode cX7_many 83 = .ok (.ireturn, 1) := by decide +kernel
theorem dX7_many_84 : decode cX7_many 84 = .ok (.iconst (-1), 1) := by decide +kernel
theorem dX7_many_85 : decode cX7_many 85 = .ok (.ireturn, 1) := by decide +kernel
def p_X7_many (F : tF) (A : tA) (x1 : Int32) (K : Int32 → tF → tA → Prop) : Prop := ((x1 = (0 : Int32) → (K ((A 0) 0) F A)) ∧ (x1 = (1 : Int32) → (p_X7_placesWithVotes F A (fun r52 F_52 A_52 => (K r52 F_52 A_52)))) ∧ (x1 = (2 : Int32) → (p_X7_heardOnes F A (fun r57 => (K r57 F A)))) ∧ (x1 = (3 : Int32) → (p_X7_scaredOnes F A (fun r62 => (p_X7_size r62 (fun r65 => (K r65 F A)))))) ∧ (x1 = (4 : Int32) → (K (F 15) F A)) ∧ (x1 = (5 : Int32) → (K (F 6) F A)) ∧ (x1 = (6 : Int32) → (K (F 23) F A)) ∧ (¬ x1 = (0 : Int32) → ¬ x1 = (1 : Int32) → ¬ x1 = (2 : Int32) → ¬ x1 = (3 : Int32) → ¬ x1 = (4 : Int32) → ¬ x1 = (5 : Int32) → ¬ x1 = (6 : Int32) → (K (-1 : Int32) F A)))
set_option maxHeartbeats 4000000 in
set_option maxRecDepth 100000 in
theorem w_X7_many (l : Launch) (D : va_G) (cI cZ cR : ClassId) (adK adV : Nat → Nat) (sz : Nat) (o : Nat) (q : Nat → Nat) (F : tF) (A : tA) (x1 : Int32) (K : Int32 → tF → tA → Prop) (h : p_X7_many F A x1 K) : MI l D cI cZ cR adK adV yX7_many cX7_many 2 (some .int) (rmN 5 115) [.ref o, .int x1] (wX7 cI cZ o q F A : va_W) sz (fun (r : Int32) (u : (tF × tA)) => K r u.1 u.2) (fun (u : (tF × tA)) => (wX7 cI cZ o q u.1 u.2 : va_W)) := by
  refine M_i (by decide +kernel) (Nat.le_of_ble_eq_true rfl) ?_
  intro p e s m args below meth c Q A9 ls X ret hP hD hS hl
  obtain ⟨hx, hb, hml, ht, hown, hK, hA, hE⟩ := id X
  have hl : lv_has ls 2 [(0, .ref o), (1, .int x1)] := hl
  unfold p_X7_many at h
  refine lv_iload_n hx hb dX7_many_0 rfl (lv_at hl 1 rfl) ?_
  by_cases c1_0 : x1 = (0 : Int32)
  · replace h := h.1 c1_0
    refine lv_tableIn (tgt := 44) hx hb dX7_many_1 (by rw [c1_0]; decide) (by rw [c1_0]; decide) (by rw [c1_0]; rfl) (by decide) ?_
    refine lv_aload_n hx hb dX7_many_44 rfl (lv_at hl 0 rfl) ?_
    refine va_get (C := RX7) (T := TX7) (N := 28) (own := RX7) (v := .ref (q 0)) hx hb ht inlX7 hown hK hP 0 rfl rfl 0 (Nat.le_of_ble_eq_true rfl) (ht _ mw_5_7) (fun _ h9 => h9) rfl dX7_many_45 ?_
    refine lv_iconst (v := 0) hx hb dX7_many_48 (by decide) ?_
    refine g_iald (f := (A 0)) (k := 0) hx hb hK hP 1 0 rfl rfl (vp_in_lit rfl : vp_in (0 : Int32) 53) (by decide) dX7_many_49 ?_
    exact ret _ (F, A) _ _ _ _ dX7_many_50 h hP hD hS
  by_cases c1_1 : x1 = (1 : Int32)
  · replace h := h.2.1 c1_1
    refine lv_tableIn (tgt := 51) hx hb dX7_many_1 (by rw [c1_1]; decide) (by rw [c1_1]; decide) (by rw [c1_1]; rfl) (by decide) ?_
    refine lv_aload_n hx hb dX7_many_51 rfl (lv_at hl 0 rfl) ?_
    refine C_vi (wr := []) X hP hD hS [] [] (w_X7_placesWithVotes l D cI cZ cR adK adV _ o q F A _ h) cal_X7_placesWithVotes mw_51_9 rfl [0, 1, 2, 3, 4, 5, 6, 7, 8, 9, 10, 11, 12, 13, 14, 15] [] [0, 1, 2, 3, 4, 5, 6, 7, 8, 9, 10, 11, 12, 13, 14, 15] (fun u => (wX7 cI cZ o q u.1 u.2 : va_W)) rfl rfl (fun _ => rfl) rfl 0 rfl rfl ⟨rfl, rfl⟩ ⟨Nat.le_of_ble_eq_true rfl, Nat.le_of_ble_eq_true rfl⟩ hl.1 rfl (Nat.le_of_ble_eq_true rfl) ⟨Nat.zero_le _, Nat.zero_le _⟩ dX7_many_52 (fun r52 u H locs h hP hD hS => ?_)
    obtain ⟨F_52, A_52⟩ := u
    try dsimp only at h
    have hP : va_P D vwCl (wX7 cI cZ o q F_52 A_52 : va_W) H := hP
    have hD : va_D A9 (wX7 cI cZ o q F_52 A_52 : va_W) := hD
    exact ret _ (F_52, A_52) _ _ _ _ dX7_many_55 h hP hD hS
  by_cases c1_2 : x1 = (2 : Int32)
  · replace h := h.2.2.1 c1_2
    refine lv_tableIn (tgt := 56) hx hb dX7_many_1 (by rw [c1_2]; decide) (by rw [c1_2]; decide) (by rw [c1_2]; rfl) (by decide) ?_
    refine lv_aload_n hx hb dX7_many_56 rfl (lv_at hl 0 rfl) ?_
    refine C_vi (wr := []) X hP hD hS [] [] (w_X7_heardOnes l D cI cZ cR adK adV _ o q F A _ h) cal_X7_heardOnes mw_51_13 rfl [0, 1, 2, 3, 4, 5, 6, 7, 8, 9, 10, 11, 12, 13, 14, 15] [] [0, 1, 2, 3, 4, 5, 6, 7, 8, 9, 10, 11, 12, 13, 14, 15] (fun u => (wX7 cI cZ o q F A : va_W)) rfl rfl (fun _ => rfl) rfl 0 rfl rfl ⟨rfl, rfl⟩ ⟨Nat.le_of_ble_eq_true rfl, Nat.le_of_ble_eq_true rfl⟩ hl.1 rfl (Nat.le_of_ble_eq_true rfl) ⟨Nat.zero_le _, Nat.zero_le _⟩ dX7_many_57 (fun r57 u H locs h hP hD hS => ?_)
    exact ret _ (F, A) _ _ _ _ dX7_many_60 h hP hD hS
  by_cases c1_3 : x1 = (3 : Int32)
  · replace h := h.2.2.2.1 c1_3
    refine lv_tableIn (tgt := 61) hx hb dX7_many_1 (by rw [c1_3]; decide) (by rw [c1_3]; decide) (by rw [c1_3]; rfl) (by decide) ?_
    refine lv_aload_n hx hb dX7_many_61 rfl (lv_at hl 0 rfl) ?_
    refine C_vi (wr := []) X hP hD hS [] [] (w_X7_scaredOnes l D cI cZ cR adK adV _ o q F A _ h) cal_X7_scaredOnes mw_29_1 rfl [0, 1, 2, 3, 4, 5, 6, 7, 8, 9, 10, 11, 12, 13, 14, 15] [] [0, 1, 2, 3, 4, 5, 6, 7, 8, 9, 10, 11, 12, 13, 14, 15] (fun u => (wX7 cI cZ o q F A : va_W)) rfl rfl (fun _ => rfl) rfl 0 rfl rfl ⟨rfl, rfl⟩ ⟨Nat.le_of_ble_eq_true rfl, Nat.le_of_ble_eq_true rfl⟩ hl.1 rfl (Nat.le_of_ble_eq_true rfl) ⟨Nat.zero_le _, Nat.zero_le _⟩ dX7_many_62 (fun r62 u H locs h hP hD hS => ?_)
    refine C_si (wr := [0, 1, 2, 3, 4, 5, 6, 7, 8, 9, 10, 11, 12, 13, 14, 15].filterMap (fun i => (wX7 cI cZ o q F A : va_W)[i]?)) X hP hD hS [.int r62] [] (w_X7_size l D cI cZ cR adK adV _ r62 _ h) cal_X7_size mw_33_13 rfl [] [0, 1, 2, 3, 4, 5, 6, 7, 8, 9, 10, 11, 12, 13, 14, 15] [0, 1, 2, 3, 4, 5, 6, 7, 8, 9, 10, 11, 12, 13, 14, 15] (fun u => (wX7 cI cZ o q F A : va_W)) rfl rfl (fun _ => rfl) rfl ⟨rfl, rfl⟩ ⟨Nat.le_of_ble_eq_true rfl, Nat.le_of_ble_eq_true rfl⟩ hl.1 rfl (Nat.le_of_ble_eq_true rfl) ⟨Nat.zero_le _, Nat.zero_le _⟩ dX7_many_65 (fun r65 u H locs h hP hD hS => ?_)
    exact ret _ (F, A) _ _ _ _ dX7_many_68 h hP hD hS
  by_cases c1_4 : x1 = (4 : Int32)
  · replace h := h.2.2.2.2.1 c1_4
    refine lv_tableIn (tgt := 69) hx hb dX7_many_1 (by rw [c1_4]; decide) (by rw [c1_4]; decide) (by rw [c1_4]; rfl) (by decide) ?_
    refine lv_aload_n hx hb dX7_many_69 rfl (lv_at hl 0 rfl) ?_
    refine va_get (C := RX7) (T := TX7) (N := 28) (own := RX7) (v := .int (F 15)) hx hb ht inlX7 hown hK hP 0 rfl rfl 15 (Nat.le_of_ble_eq_true rfl) (ht _ mw_12_5) (fun _ h9 => h9) rfl dX7_many_70 ?_
    exact ret _ (F, A) _ _ _ _ dX7_many_73 h hP hD hS
  by_cases c1_5 : x1 = (5 : Int32)
  · replace h := h.2.2.2.2.2.1 c1_5
    refine lv_tableIn (tgt := 74) hx hb dX7_many_1 (by rw [c1_5]; decide) (by rw [c1_5]; decide) (by rw [c1_5]; rfl) (by decide) ?_
    refine lv_aload_n hx hb dX7_many_74 rfl (lv_at hl 0 rfl) ?_
    refine va_get (C := RX7) (T := TX7) (N := 28) (own := RX7) (v := .int (F 6)) hx hb ht inlX7 hown hK hP 0 rfl rfl 6 (Nat.le_of_ble_eq_true rfl) (ht _ mw_6_17) (fun _ h9 => h9) rfl dX7_many_75 ?_
    exact ret _ (F, A) _ _ _ _ dX7_many_78 h hP hD hS
  by_cases c1_6 : x1 = (6 : Int32)
  · replace h := h.2.2.2.2.2.2.1 c1_6
    refine lv_tableIn (tgt := 79) hx hb dX7_many_1 (by rw [c1_6]; decide) (by rw [c1_6]; decide) (by rw [c1_6]; rfl) (by decide) ?_
    refine lv_aload_n hx hb dX7_many_79 rfl (lv_at hl 0 rfl) ?_
    refine va_get (C := RX7) (T := TX7) (N := 28) (own := RX7) (v := .int (F 23)) hx hb ht inlX7 hown hK hP 0 rfl rfl 23 (Nat.le_of_ble_eq_true rfl) (ht _ mw_48_9) (fun _ h9 => h9) rfl dX7_many_80 ?_
    exact ret _ (F, A) _ _ _ _ dX7_many_83 h hP hD hS
  replace h := h.2.2.2.2.2.2.2 c1_0 c1_1 c1_2 c1_3 c1_4 c1_5 c1_6
  refine g_tdef (tgt := 84) hx hb dX7_many_1 ?_ (by decide) ?_
  · exact Or.inl (sw0_6 c1_0 c1_1 c1_2 c1_3 c1_4 c1_5 c1_6)
  refine lv_iconst (v := -1) hx hb dX7_many_84 (by decide) ?_
  exact ret _ (F, A) _ _ _ _ dX7_many_85 h hP hD hS
theorem dX7_keep_0 : decode cX7_keep 0 = .ok (.iconst 0, 1) := by decide +kernel
theorem dX7_keep_1 : decode cX7_keep 1 = .ok (.istore_n 1, 1) := by decide +kernel
theorem dX7_keep_2 : decode cX7_keep 2 = .ok (.iload_n 1, 1) := by decide +kernel
theorem dX7_keep_3 : decode cX7_keep 3 = .ok (.bipush 53, 2) := by decide +kernel
theorem dX7_keep_5 : decode cX7_keep 5 = .ok (.if_icmp .ge 21, 3) := by decide +kernel
theorem dX7_keep_8 : decode cX7_keep 8 = .ok (.aload_n 0, 1) := by decide +kernel
theorem dX7_keep_9 : decode cX7_keep 9 = .ok (.getfield 13, 3) := by decide +kernel
theorem dX7_keep_12 : decode cX7_keep 12 = .ok (.iload_n 1, 1) := by decide +kernel
theorem dX7_keep_13 : decode cX7_keep 13 = .ok (.aload_n 0, 1) := by decide +kernel
theorem dX7_keep_14 : decode cX7_keep 14 = .ok (.getfield 7, 3) := by decide +kernel
theorem dX7_keep_17 : decode cX7_keep 17 = .ok (.iload_n 1, 1) := by decide +kernel
theorem dX7_keep_18 : decode cX7_keep 18 = .ok (.iaload, 1) := by decide +kernel
theorem dX7_keep_19 : decode cX7_keep 19 = .ok (.iastore, 1) := by decide +kernel
theorem dX7_keep_20 : decode cX7_keep 20 = .ok (.iinc 1 1, 3) := by decide +kernel
theorem dX7_keep_23 : decode cX7_keep 23 = .ok (.goto (-21), 3) := by decide +kernel
theorem dX7_keep_26 : decode cX7_keep 26 = .ok (.aload_n 0, 1) := by decide +kernel
theorem dX7_keep_27 : decode cX7_keep 27 = .ok (.iconst 1, 1) := by decide +kernel
theorem dX7_keep_28 : decode cX7_keep 28 = .ok (.putfield 358, 3) := by decide +kernel
theorem dX7_keep_31 : decode cX7_keep 31 = .ok (.iconst 1, 1) := by decide +kernel
theorem dX7_keep_32 : decode cX7_keep 32 = .ok (.ireturn, 1) := by decide +kernel
def p_X7_keep_L2 (K : Int32 → tF → tA → Prop) : Nat → tF → tA → Int32 → Prop
  | 0, _, _, _ => False
  | n2 + 1, F, A, x1 => (((53 : Int32) ≤ x1 → (K (1 : Int32) (upd F 4 (1 : Int32)) A)) ∧ (¬ (53 : Int32) ≤ x1 → (vp_in x1 53 ∧ (vp_in x1 53 ∧ (∀ f_19 : tF, f_19 = (upd (A 1) (x1).toNatClampNeg ((A 0) (x1).toNatClampNeg)) → (∀ y20 : Int32, y20 = (x1 + (1 : Int32)) → ((p_X7_keep_L2 K n2) F (va_up A 1 f_19) y20)))))))
set_option maxHeartbeats 4000000 in
set_option maxRecDepth 100000 in
theorem b_X7_keep_L2 {p : Program} {l : Launch} {e : Env} {s : State} {m : MethodId} {args : Array Value} {below : List Frame} {meth : Method} {c : Code} {Q : State → Prop} {D : va_G} {cI cZ cR : ClassId} {adK adV : Nat → Nat} {A9 : Nat → Prop} {o : Nat} {q : Nat → Nat} {K : Int32 → tF → tA → Prop}   (X : CX p s m args c yX7_keep.cls cX7_keep 2 D cI cZ cR adK adV A9) (ret : RTi p l e (rmN 0 0) s m args below meth c Q cX7_keep D A9 (fun (r : Int32) (u : (tF × tA)) => K r u.1 u.2) (fun (u : (tF × tA)) => (wX7 cI cZ o q u.1 u.2 : va_W)))   : ∀ (n : Nat) (F : tF) (A : tA) (x1 : Int32) (H : Heap) (locs : List Loc) (ls : Array Slot), p_X7_keep_L2 K n F A x1 → va_P D vwCl (wX7 cI cZ o q F A : va_W) H → va_D A9 (wX7 cI cZ o q F A : va_W) → va_S A9 s.heap H locs → lv_has ls 2 [(0, .ref o), (1, .int x1)] → W p l e (rmN 0 0) s m args below meth c H locs 0 0 Q (F0 m 2 ls []) := by
  obtain ⟨hx, hb, hml, ht, hown, hK, hA, hE⟩ := id X
  intro n
  induction n with
  | zero => intro F A x1 H locs ls h; exact False.elim h
  | succ n2 ih =>
    intro F A x1 H locs ls h hP hD hS hl
    rw [p_X7_keep_L2] at h
    refine lv_iload_n hx hb dX7_keep_2 rfl (lv_at hl 1 rfl) ?_
    refine lv_bipush (v := 53) hx hb dX7_keep_3 (by decide) ?_
    refine lv_icmp_ge (tgt := 26) hx hb dX7_keep_5 (by decide) (fun c5 => ?_) (fun c5 => ?_)
    · replace h := h.1 c5
      refine lv_aload_n hx hb dX7_keep_26 rfl (lv_at hl 0 rfl) ?_
      refine lv_iconst (v := 1) hx hb dX7_keep_27 (by decide) ?_
      refine va_put (C := RX7) (T := TX7) (N := 28) (own := RX7) (v := .int (1 : Int32)) hx hb ht inlX7 tyX7 tyX7_ok nmX7 hown hK hP hD hS 0 rfl rfl 4 (Nat.le_of_ble_eq_true rfl) (ht _ mw_52_1) (fun _ h9 => h9) rfl (tyX7_ok 4 (Nat.le_of_ble_eq_true rfl)) rfl rfl (Nat.le_of_ble_eq_true rfl) dX7_keep_28 (fun H locs hP hD hS => ?_)
      have hP : va_P D vwCl (wX7 cI cZ o q (upd F 4 (1 : Int32)) A : va_W) H := hP
      have hD : va_D A9 (wX7 cI cZ o q (upd F 4 (1 : Int32)) A : va_W) := hD
      refine lv_iconst (v := 1) hx hb dX7_keep_31 (by decide) ?_
      exact ret _ ((upd F 4 (1 : Int32)), A) _ _ _ _ dX7_keep_32 h hP hD hS
    · replace h := h.2 c5
      refine lv_aload_n hx hb dX7_keep_8 rfl (lv_at hl 0 rfl) ?_
      refine va_get (C := RX7) (T := TX7) (N := 28) (own := RX7) (v := .ref (q 1)) hx hb ht inlX7 hown hK hP 0 rfl rfl 1 (Nat.le_of_ble_eq_true rfl) (ht _ mw_5_8) (fun _ h9 => h9) rfl dX7_keep_9 ?_
      refine lv_iload_n hx hb dX7_keep_12 rfl (lv_at hl 1 rfl) ?_
      refine lv_aload_n hx hb dX7_keep_13 rfl (lv_at hl 0 rfl) ?_
      refine va_get (C := RX7) (T := TX7) (N := 28) (own := RX7) (v := .ref (q 0)) hx hb ht inlX7 hown hK hP 0 rfl rfl 0 (Nat.le_of_ble_eq_true rfl) (ht _ mw_5_7) (fun _ h9 => h9) rfl dX7_keep_14 ?_
      refine lv_iload_n hx hb dX7_keep_17 rfl (lv_at hl 1 rfl) ?_
      obtain ⟨hi18, h⟩ := h
      refine g_iald (f := (A 0)) (k := (x1).toNatClampNeg) hx hb hK hP 1 0 rfl rfl hi18 rfl dX7_keep_18 ?_
      obtain ⟨hi19, h⟩ := h
      obtain ⟨f_19, ef_19⟩ : ∃ z : tF, z = (upd (A 1) (x1).toNatClampNeg ((A 0) (x1).toNatClampNeg)) := ⟨_, rfl⟩
      replace h := h f_19 ef_19
      refine g_iast (f := (A 1)) (k := (x1).toNatClampNeg) hx hb hK hP hD hS 2 0 rfl rfl hi19 rfl ef_19 dX7_keep_19 (fun H locs hP hD hS => ?_)
      have hP : va_P D vwCl (wX7 cI cZ o q F (va_up A 1 f_19) : va_W) H := hP
      have hD : va_D A9 (wX7 cI cZ o q F (va_up A 1 f_19) : va_W) := hD
      obtain ⟨y20, ey20⟩ : ∃ y : Int32, y = (x1 + (1 : Int32)) := ⟨_, rfl⟩
      replace h := h y20 ey20
      refine lv_iinc (v := y20) (lv' := [(1, .int y20), (0, .ref o)]) hx hb dX7_keep_20 hl (k := 1) rfl (by rw [ey20]; rfl) (by decide) rfl (fun ls hl => ?_)
      refine lv_goto (tgt := 2) hx hb dX7_keep_23 (by decide) ?_
      exact ih F (va_up A 1 f_19) y20 _ _ _ h hP hD hS (lv_sub hl [1, 0] rfl)
def p_X7_keep (F : tF) (A : tA) (K : Int32 → tF → tA → Prop) : Prop := (∃ n2, p_X7_keep_L2 K n2 F A (0 : Int32))
set_option maxHeartbeats 4000000 in
set_option maxRecDepth 100000 in
theorem w_X7_keep (l : Launch) (D : va_G) (cI cZ cR : ClassId) (adK adV : Nat → Nat) (sz : Nat) (o : Nat) (q : Nat → Nat) (F : tF) (A : tA) (K : Int32 → tF → tA → Prop) (h : p_X7_keep F A K) : MI l D cI cZ cR adK adV yX7_keep cX7_keep 2 (some .int) (rmN 0 0) [.ref o] (wX7 cI cZ o q F A : va_W) sz (fun (r : Int32) (u : (tF × tA)) => K r u.1 u.2) (fun (u : (tF × tA)) => (wX7 cI cZ o q u.1 u.2 : va_W)) := by
  refine M_i (by decide +kernel) (Nat.le_of_ble_eq_true rfl) ?_
  intro p e s m args below meth c Q A9 ls X ret hP hD hS hl
  obtain ⟨hx, hb, hml, ht, hown, hK, hA, hE⟩ := id X
  have hl : lv_has ls 2 [(0, .ref o)] := hl
  unfold p_X7_keep at h
  refine lv_iconst (v := 0) hx hb dX7_keep_0 (by decide) ?_
  refine lv_istore_n (lv' := [(1, .int (0 : Int32)), (0, .ref o)]) hx hb dX7_keep_1 rfl hl (by decide) rfl (fun ls hl => ?_)
  obtain ⟨n2, h⟩ := h
  exact b_X7_keep_L2  X ret  n2 F A (0 : Int32) _ _ _ h hP hD hS (lv_sub hl [1, 0] rfl)
theorem dX7_again_0 : decode cX7_again 0 = .ok (.aload_n 0, 1) := by decide +kernel
theorem dX7_again_1 : decode cX7_again 1 = .ok (.getfield 358, 3) := by decide +kernel
theorem dX7_again_4 : decode cX7_again 4 = .ok (.ifCond .ne 6, 3) := by decide +kernel
theorem dX7_again_7 : decode cX7_again 7 = .ok (.bipush (-3), 2) := by decide +kernel
theorem dX7_again_9 : decode cX7_again 9 = .ok (.ireturn, 1) := by decide +kernel
theorem dX7_again_10 : decode cX7_again 10 = .ok (.iconst 0, 1) := by decide +kernel
theorem dX7_again_11 : decode cX7_again 11 = .ok (.istore_n 1, 1) := by decide +kernel
theorem dX7_again_12 : decode cX7_again 12 = .ok (.iload_n 1, 1) := by decide +kernel
theorem dX7_again_13 : decode cX7_again 13 = .ok (.bipush 53, 2) := by decide +kernel
theorem dX7_again_15 : decode cX7_again 15 = .ok (.if_icmp .ge 21, 3) := by decide +kernel
theorem dX7_again_18 : decode cX7_again 18 = .ok (.aload_n 0, 1) := by decide +kernel
theorem dX7_again_19 : decode cX7_again 19 = .ok (.getfield 7, 3) := by decide +kernel
theorem dX7_again_22 : decode cX7_again 22 = .ok (.iload_n 1, 1) := by decide +kernel
theorem dX7_again_23 : decode cX7_again 23 = .ok (.aload_n 0, 1) := by decide +kernel
theorem dX7_again_24 : decode cX7_again 24 = .ok (.getfield 13, 3) := by decide +kernel
theorem dX7_again_27 : decode cX7_again 27 = .ok (.iload_n 1, 1) := by decide +kernel
theorem dX7_again_28 : decode cX7_again 28 = .ok (.iaload, 1) := by decide +kernel
theorem dX7_again_29 : decode cX7_again 29 = .ok (.iastore, 1) := by decide +kernel
theorem dX7_again_30 : decode cX7_again 30 = .ok (.iinc 1 1, 3) := by decide +kernel
theorem dX7_again_33 : decode cX7_again 33 = .ok (.goto (-21), 3) := by decide +kernel
theorem dX7_again_36 : decode cX7_again 36 = .ok (.aload_n 0, 1) := by decide +kernel
theorem dX7_again_37 : decode cX7_again 37 = .ok (.getfield 7, 3) := by decide +kernel
theorem dX7_again_40 : decode cX7_again 40 = .ok (.iconst 0, 1) := by decide +kernel
theorem dX7_again_41 : decode cX7_again 41 = .ok (.iaload, 1) := by decide +kernel
theorem dX7_again_42 : decode cX7_again 42 = .ok (.ireturn, 1) := by decide +kernel
def p_X7_again_L12 (K : Int32 → tF → tA → Prop) : Nat → tF → tA → Int32 → Prop
  | 0, _, _, _ => False
  | n12 + 1, F, A, x1 => (((53 : Int32) ≤ x1 → (K ((A 0) 0) F A)) ∧ (¬ (53 : Int32) ≤ x1 → (vp_in x1 53 ∧ (vp_in x1 53 ∧ (∀ f_29 : tF, f_29 = (upd (A 0) (x1).toNatClampNeg ((A 1) (x1).toNatClampNeg)) → (∀ y30 : Int32, y30 = (x1 + (1 : Int32)) → ((p_X7_again_L12 K n12) F (va_up A 0 f_29) y30)))))))
set_option maxHeartbeats 4000000 in
set_option maxRecDepth 100000 in
theorem b_X7_again_L12 {p : Program} {l : Launch} {e : Env} {s : State} {m : MethodId} {args : Array Value} {below : List Frame} {meth : Method} {c : Code} {Q : State → Prop} {D : va_G} {cI cZ cR : ClassId} {adK adV : Nat → Nat} {A9 : Nat → Prop} {o : Nat} {q : Nat → Nat} {K : Int32 → tF → tA → Prop}   (X : CX p s m args c yX7_again.cls cX7_again 2 D cI cZ cR adK adV A9) (ret : RTi p l e (rmN 0 0) s m args below meth c Q cX7_again D A9 (fun (r : Int32) (u : (tF × tA)) => K r u.1 u.2) (fun (u : (tF × tA)) => (wX7 cI cZ o q u.1 u.2 : va_W)))   : ∀ (n : Nat) (F : tF) (A : tA) (x1 : Int32) (H : Heap) (locs : List Loc) (ls : Array Slot), p_X7_again_L12 K n F A x1 → va_P D vwCl (wX7 cI cZ o q F A : va_W) H → va_D A9 (wX7 cI cZ o q F A : va_W) → va_S A9 s.heap H locs → lv_has ls 2 [(0, .ref o), (1, .int x1)] → W p l e (rmN 0 0) s m args below meth c H locs 0 0 Q (F0 m 12 ls []) := by
  obtain ⟨hx, hb, hml, ht, hown, hK, hA, hE⟩ := id X
  intro n
  induction n with
  | zero => intro F A x1 H locs ls h; exact False.elim h
  | succ n12 ih =>
    intro F A x1 H locs ls h hP hD hS hl
    rw [p_X7_again_L12] at h
    refine lv_iload_n hx hb dX7_again_12 rfl (lv_at hl 1 rfl) ?_
    refine lv_bipush (v := 53) hx hb dX7_again_13 (by decide) ?_
    refine lv_icmp_ge (tgt := 36) hx hb dX7_again_15 (by decide) (fun c15 => ?_) (fun c15 => ?_)
    · replace h := h.1 c15
      refine lv_aload_n hx hb dX7_again_36 rfl (lv_at hl 0 rfl) ?_
      refine va_get (C := RX7) (T := TX7) (N := 28) (own := RX7) (v := .ref (q 0)) hx hb ht inlX7 hown hK hP 0 rfl rfl 0 (Nat.le_of_ble_eq_true rfl) (ht _ mw_5_7) (fun _ h9 => h9) rfl dX7_again_37 ?_
      refine lv_iconst (v := 0) hx hb dX7_again_40 (by decide) ?_
      refine g_iald (f := (A 0)) (k := 0) hx hb hK hP 1 0 rfl rfl (vp_in_lit rfl : vp_in (0 : Int32) 53) (by decide) dX7_again_41 ?_
      exact ret _ (F, A) _ _ _ _ dX7_again_42 h hP hD hS
    · replace h := h.2 c15
      refine lv_aload_n hx hb dX7_again_18 rfl (lv_at hl 0 rfl) ?_
      refine va_get (C := RX7) (T := TX7) (N := 28) (own := RX7) (v := .ref (q 0)) hx hb ht inlX7 hown hK hP 0 rfl rfl 0 (Nat.le_of_ble_eq_true rfl) (ht _ mw_5_7) (fun _ h9 => h9) rfl dX7_again_19 ?_
      refine lv_iload_n hx hb dX7_again_22 rfl (lv_at hl 1 rfl) ?_
      refine lv_aload_n hx hb dX7_again_23 rfl (lv_at hl 0 rfl) ?_
      refine va_get (C := RX7) (T := TX7) (N := 28) (own := RX7) (v := .ref (q 1)) hx hb ht inlX7 hown hK hP 0 rfl rfl 1 (Nat.le_of_ble_eq_true rfl) (ht _ mw_5_8) (fun _ h9 => h9) rfl dX7_again_24 ?_
      refine lv_iload_n hx hb dX7_again_27 rfl (lv_at hl 1 rfl) ?_
      obtain ⟨hi28, h⟩ := h
      refine g_iald (f := (A 1)) (k := (x1).toNatClampNeg) hx hb hK hP 2 0 rfl rfl hi28 rfl dX7_again_28 ?_
      obtain ⟨hi29, h⟩ := h
      obtain ⟨f_29, ef_29⟩ : ∃ z : tF, z = (upd (A 0) (x1).toNatClampNeg ((A 1) (x1).toNatClampNeg)) := ⟨_, rfl⟩
      replace h := h f_29 ef_29
      refine g_iast (f := (A 0)) (k := (x1).toNatClampNeg) hx hb hK hP hD hS 1 0 rfl rfl hi29 rfl ef_29 dX7_again_29 (fun H locs hP hD hS => ?_)
      have hP : va_P D vwCl (wX7 cI cZ o q F (va_up A 0 f_29) : va_W) H := hP
      have hD : va_D A9 (wX7 cI cZ o q F (va_up A 0 f_29) : va_W) := hD
      obtain ⟨y30, ey30⟩ : ∃ y : Int32, y = (x1 + (1 : Int32)) := ⟨_, rfl⟩
      replace h := h y30 ey30
      refine lv_iinc (v := y30) (lv' := [(1, .int y30), (0, .ref o)]) hx hb dX7_again_30 hl (k := 1) rfl (by rw [ey30]; rfl) (by decide) rfl (fun ls hl => ?_)
      refine lv_goto (tgt := 12) hx hb dX7_again_33 (by decide) ?_
      exact ih F (va_up A 0 f_29) y30 _ _ _ h hP hD hS (lv_sub hl [1, 0] rfl)
def p_X7_again (F : tF) (A : tA) (K : Int32 → tF → tA → Prop) : Prop := ((¬ (F 4) = 0 → (∃ n12, p_X7_again_L12 K n12 F A (0 : Int32))) ∧ ((F 4) = 0 → (K (-3 : Int32) F A)))
set_option maxHeartbeats 4000000 in
set_option maxRecDepth 100000 in
theorem w_X7_again (l : Launch) (D : va_G) (cI cZ cR : ClassId) (adK adV : Nat → Nat) (sz : Nat) (o : Nat) (q : Nat → Nat) (F : tF) (A : tA) (K : Int32 → tF → tA → Prop) (h : p_X7_again F A K) : MI l D cI cZ cR adK adV yX7_again cX7_again 2 (some .int) (rmN 0 0) [.ref o] (wX7 cI cZ o q F A : va_W) sz (fun (r : Int32) (u : (tF × tA)) => K r u.1 u.2) (fun (u : (tF × tA)) => (wX7 cI cZ o q u.1 u.2 : va_W)) := by
  refine M_i (by decide +kernel) (Nat.le_of_ble_eq_true rfl) ?_
  intro p e s m args below meth c Q A9 ls X ret hP hD hS hl
  obtain ⟨hx, hb, hml, ht, hown, hK, hA, hE⟩ := id X
  have hl : lv_has ls 2 [(0, .ref o)] := hl
  unfold p_X7_again at h
  refine lv_aload_n hx hb dX7_again_0 rfl (lv_at hl 0 rfl) ?_
  refine va_get (C := RX7) (T := TX7) (N := 28) (own := RX7) (v := .int (F 4)) hx hb ht inlX7 hown hK hP 0 rfl rfl 4 (Nat.le_of_ble_eq_true rfl) (ht _ mw_52_1) (fun _ h9 => h9) rfl dX7_again_1 ?_
  refine lv_if_ne (tgt := 10) hx hb dX7_again_4 (by decide) (fun c4 => ?_) (fun c4 => ?_)
  · replace h := h.1 c4
    refine lv_iconst (v := 0) hx hb dX7_again_10 (by decide) ?_
    refine lv_istore_n (lv' := [(1, .int (0 : Int32)), (0, .ref o)]) hx hb dX7_again_11 rfl hl (by decide) rfl (fun ls hl => ?_)
    obtain ⟨n12, h⟩ := h
    exact b_X7_again_L12  X ret  n12 F A (0 : Int32) _ _ _ h hP hD hS (lv_sub hl [1, 0] rfl)
  · replace h := h.2 c4
    refine lv_bipush (v := -3) hx hb dX7_again_7 (by decide) ?_
    exact ret _ (F, A) _ _ _ _ dX7_again_9 h hP hD hS
