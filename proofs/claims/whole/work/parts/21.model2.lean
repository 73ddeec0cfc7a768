/-! 21.model2: what the bytecode of these methods asks, and the walks (written by wip/gen/mk.py) -/
theorem dX7_lawOf_0 : decode cX7_lawOf 0 = .ok (.iload_n 1, 1) := by decide +kernel
theorem dX7_lawOf_1 : decode cX7_lawOf 1 = .ok (.i2l, 1) := by decide +kernel
theorem dX7_lawOf_2 : decode cX7_lawOf 2 = .ok (.lconst 0, 1) := by decide +kernel
theorem dX7_lawOf_3 : decode cX7_lawOf 3 = .ok (.ldc2_w 154, 3) := by decide +kernel
theorem dX7_lawOf_6 : decode cX7_lawOf 6 = .ok (.invokestatic 61, 3) := by decide +kernel
theorem dX7_lawOf_9 : decode cX7_lawOf 9 = .ok (.ifCond .eq 14, 3) := by decide +kernel
theorem dX7_lawOf_12 : decode cX7_lawOf 12 = .ok (.aload_n 0, 1) := by decide +kernel
theorem dX7_lawOf_13 : decode cX7_lawOf 13 = .ok (.getfield 7, 3) := by decide +kernel
theorem dX7_lawOf_16 : decode cX7_lawOf 16 = .ok (.iconst 5, 1) := by decide +kernel
theorem dX7_lawOf_17 : decode cX7_lawOf 17 = .ok (.iload_n 1, 1) := by decide +kernel
theorem dX7_lawOf_18 : decode cX7_lawOf 18 = .ok (.iadd, 1) := by decide +kernel
theorem dX7_lawOf_19 : decode cX7_lawOf 19 = .ok (.iaload, 1) := by decide +kernel
theorem dX7_lawOf_20 : decode cX7_lawOf 20 = .ok (.goto 4, 3) := by decide +kernel
theorem dX7_lawOf_23 : decode cX7_lawOf 23 = .ok (.iconst (-1), 1) := by decide +kernel
theorem dX7_lawOf_24 : decode cX7_lawOf 24 = .ok (.ireturn, 1) := by decide +kernel
def p_X7_lawOf (F : tF) (A : tA) (x1 : Int32) (K : Int32 → Prop) : Prop := (p_X7_isIn ((x1).toInt64) (0 : Int64) (3 : Int64) (fun r6 => ((r6 = 0 → (K (-1 : Int32))) ∧ (¬ r6 = 0 → (vp_in ((5 : Int32) + x1) 53 ∧ (K ((A 0) (((5 : Int32) + x1)).toNatClampNeg)))))))
set_option maxHeartbeats 4000000 in
set_option maxRecDepth 100000 in
theorem w_X7_lawOf (l : Launch) (D : va_G) (cI cZ cR : ClassId) (adK adV : Nat → Nat) (sz : Nat) (o : Nat) (q : Nat → Nat) (F : tF) (A : tA) (x1 : Int32) (K : Int32 → Prop) (h : p_X7_lawOf F A x1 K) : MI l D cI cZ cR adK adV yX7_lawOf cX7_lawOf 2 (some .int) (rmN 1 25) [.ref o, .int x1] (wX7 cI cZ o q F A : va_W) sz (fun (r : Int32) (u : Unit) => K r) (fun (u : Unit) => (wX7 cI cZ o q F A : va_W)) := by
  refine M_i (by decide +kernel) (Nat.le_of_ble_eq_true rfl) ?_
  intro p e s m args below meth c Q A9 ls X ret hP hD hS hl
  obtain ⟨hx, hb, hml, ht, hown, hK, hA, hE⟩ := id X
  have hl : lv_has ls 2 [(0, .ref o), (1, .int x1)] := hl
  unfold p_X7_lawOf at h
  refine lv_iload_n hx hb dX7_lawOf_0 rfl (lv_at hl 1 rfl) ?_
  refine lv_i2l (v := (x1).toInt64) hx hb dX7_lawOf_1 rfl ?_
  refine lv_lconst (v := 0) hx hb dX7_lawOf_2 (by decide) ?_
  refine lv_ldc2 (v := 3) hx hb hown (ht _ mw_15_17) dX7_lawOf_3 ?_
  refine C_si (wr := [0, 1, 2, 3, 4, 5, 6, 7, 8, 9, 10, 11, 12, 13, 14, 15].filterMap (fun i => (wX7 cI cZ o q F A : va_W)[i]?)) X hP hD hS [.long (x1).toInt64, .long (0 : Int64), .long (3 : Int64)] [] (w_X7_isIn l D cI cZ cR adK adV _ ((x1).toInt64) (0 : Int64) (3 : Int64) _ h) cal_X7_isIn mw_6_19 rfl [] [0, 1, 2, 3, 4, 5, 6, 7, 8, 9, 10, 11, 12, 13, 14, 15] [0, 1, 2, 3, 4, 5, 6, 7, 8, 9, 10, 11, 12, 13, 14, 15] (fun u => (wX7 cI cZ o q F A : va_W)) rfl rfl (fun _ => rfl) rfl ⟨rfl, rfl⟩ ⟨Nat.le_of_ble_eq_true rfl, Nat.le_of_ble_eq_true rfl⟩ hl.1 rfl (Nat.le_of_ble_eq_true rfl) ⟨Nat.zero_le _, Nat.zero_le _⟩ dX7_lawOf_6 (fun r6 u H locs h hP hD hS => ?_)
  refine lv_if_eq (tgt := 23) hx hb dX7_lawOf_9 (by decide) (fun c9 => ?_) (fun c9 => ?_)
  · replace h := h.1 c9
    refine lv_iconst (v := -1) hx hb dX7_lawOf_23 (by decide) ?_
    exact ret _ () _ _ _ _ dX7_lawOf_24 h hP hD hS
  · replace h := h.2 c9
    refine lv_aload_n hx hb dX7_lawOf_12 rfl (lv_at hl 0 rfl) ?_
    refine va_get (C := RX7) (T := TX7) (N := 28) (own := RX7) (v := .ref (q 0)) hx hb ht inlX7 hown hK hP 0 rfl rfl 0 (Nat.le_of_ble_eq_true rfl) (ht _ mw_5_7) (fun _ h9 => h9) rfl dX7_lawOf_13 ?_
    refine lv_iconst (v := 5) hx hb dX7_lawOf_16 (by decide) ?_
    refine lv_iload_n hx hb dX7_lawOf_17 rfl (lv_at hl 1 rfl) ?_
    refine lv_iadd hx hb dX7_lawOf_18 ?_
    obtain ⟨hi19, h⟩ := h
    refine g_iald (f := (A 0)) (k := (((5 : Int32) + x1)).toNatClampNeg) hx hb hK hP 1 0 rfl rfl hi19 rfl dX7_lawOf_19 ?_
    refine lv_goto (tgt := 24) hx hb dX7_lawOf_20 (by decide) ?_
    exact ret _ () _ _ _ _ dX7_lawOf_24 h hP hD hS
theorem cal_X7_isPlace : CalS yX7_isPlace cX7_isPlace 1 (some .boolean) 1 := ⟨mw_16_23, mw_1_5, mw_16_22, ⟨by decide +kernel, by decide +kernel, by decide +kernel⟩⟩
theorem dX7_sheep_0 : decode cX7_sheep 0 = .ok (.iload_n 1, 1) := by decide +kernel
theorem dX7_sheep_1 : decode cX7_sheep 1 = .ok (.i2l, 1) := by decide +kernel
theorem dX7_sheep_2 : decode cX7_sheep 2 = .ok (.lconst 0, 1) := by decide +kernel
theorem dX7_sheep_3 : decode cX7_sheep 3 = .ok (.ldc2_w 164, 3) := by decide +kernel
theorem dX7_sheep_6 : decode cX7_sheep 6 = .ok (.invokestatic 61, 3) := by decide +kernel
theorem dX7_sheep_9 : decode cX7_sheep 9 = .ok (.ifCond .eq 35, 3) := by decide +kernel
theorem dX7_sheep_12 : decode cX7_sheep 12 = .ok (.iload_n 2, 1) := by decide +kernel
theorem dX7_sheep_13 : decode cX7_sheep 13 = .ok (.i2l, 1) := by decide +kernel
theorem dX7_sheep_14 : decode cX7_sheep 14 = .ok (.lconst 0, 1) := by decide +kernel
theorem dX7_sheep_15 : decode cX7_sheep 15 = .ok (.ldc2_w 158, 3) := by decide +kernel
theorem dX7_sheep_18 : decode cX7_sheep 18 = .ok (.invokestatic 61, 3) := by decide +kernel
theorem dX7_sheep_21 : decode cX7_sheep 21 = .ok (.ifCond .eq 23, 3) := by decide +kernel
theorem dX7_sheep_24 : decode cX7_sheep 24 = .ok (.iload_n 3, 1) := by decide +kernel
theorem dX7_sheep_25 : decode cX7_sheep 25 = .ok (.i2l, 1) := by decide +kernel
theorem dX7_sheep_26 : decode cX7_sheep 26 = .ok (.lconst 0, 1) := by decide +kernel
theorem dX7_sheep_27 : decode cX7_sheep 27 = .ok (.ldc2_w 158, 3) := by decide +kernel
theorem dX7_sheep_30 : decode cX7_sheep 30 = .ok (.invokestatic 61, 3) := by decide +kernel
theorem dX7_sheep_33 : decode cX7_sheep 33 = .ok (.ifCond .eq 11, 3) := by decide +kernel
theorem dX7_sheep_36 : decode cX7_sheep 36 = .ok (.iload 4, 2) := by decide +kernel
theorem dX7_sheep_38 : decode cX7_sheep 38 = .ok (.invokestatic 166, 3) := by decide +kernel
theorem dX7_sheep_41 : decode cX7_sheep 41 = .ok (.ifCond .ne 5, 3) := by decide +kernel
theorem dX7_sheep_44 : decode cX7_sheep 44 = .ok (.iconst (-1), 1) := by decide +kernel
theorem dX7_sheep_45 : decode cX7_sheep 45 = .ok (.ireturn, 1) := by decide +kernel
theorem dX7_sheep_46 : decode cX7_sheep 46 = .ok (.aload_n 0, 1) := by decide +kernel
theorem dX7_sheep_47 : decode cX7_sheep 47 = .ok (.getfield 7, 3) := by decide +kernel
theorem dX7_sheep_50 : decode cX7_sheep 50 = .ok (.iconst 0, 1) := by decide +kernel
theorem dX7_sheep_51 : decode cX7_sheep 51 = .ok (.iaload, 1) := by decide +kernel
theorem dX7_sheep_52 : decode cX7_sheep 52 = .ok (.bipush 8, 2) := by decide +kernel
theorem dX7_sheep_54 : decode cX7_sheep 54 = .ok (.if_icmp .ne 6, 3) := by decide +kernel
theorem dX7_sheep_57 : decode cX7_sheep 57 = .ok (.bipush (-2), 2) := by decide +kernel
theorem dX7_sheep_59 : decode cX7_sheep 59 = .ok (.ireturn, 1) := by decide +kernel
theorem dX7_sheep_60 : decode cX7_sheep 60 = .ok (.bipush 21, 2) := by decide +kernel
theorem dX7_sheep_62 : decode cX7_sheep 62 = .ok (.iconst 4, 1) := by decide +kernel
theorem dX7_sheep_63 : decode cX7_sheep 63 = .ok (.aload_n 0, 1) := by decide +kernel
theorem dX7_sheep_64 : decode cX7_sheep 64 = .ok (.getfield 7, 3) := by decide +kernel
theorem dX7_sheep_67 : decode cX7_sheep 67 = .ok (.iconst 0, 1) := by decide +kernel
theorem dX7_sheep_68 : decode cX7_sheep 68 = .ok (.iaload, 1) := by decide +kernel
theorem dX7_sheep_69 : decode cX7_sheep 69 = .ok (.imul, 1) := by decide +kernel
theorem dX7_sheep_70 : decode cX7_sheep 70 = .ok (.iadd, 1) := by decide +kernel
theorem dX7_sheep_71 : decode cX7_sheep 71 = .ok (.istore 5, 2) := by decide +kernel
theorem dX7_sheep_73 : decode cX7_sheep 73 = .ok (.aload_n 0, 1) := by decide +kernel
theorem dX7_sheep_74 : decode cX7_sheep 74 = .ok (.getfield 7, 3) := by decide +kernel
theorem dX7_sheep_77 : decode cX7_sheep 77 = .ok (.iload 5, 2) := by decide +kernel
theorem dX7_sheep_79 : decode cX7_sheep 79 = .ok (.iload_n 1, 1) := by decide +kernel
theorem dX7_sheep_80 : decode cX7_sheep 80 = .ok (.iastore, 1) := by decide +kernel
theorem dX7_sheep_81 : decode cX7_sheep 81 = .ok (.aload_n 0, 1) := by decide +kernel
theorem dX7_sheep_82 : decode cX7_sheep 82 = .ok (.getfield 7, 3) := by decide +kernel
theorem dX7_sheep_85 : decode cX7_sheep 85 = .ok (.iload 5, 2) := by decide +kernel
theorem dX7_sheep_87 : decode cX7_sheep 87 = .ok (.iconst 1, 1) := by decide +kernel
theorem dX7_sheep_88 : decode cX7_sheep 88 = .ok (.iadd, 1) := by decide +kernel
theorem dX7_sheep_89 : decode cX7_sheep 89 = .ok (.iload_n 2, 1) := by decide +kernel
theorem dX7_sheep_90 : decode cX7_sheep 90 = .ok (.iastore, 1) := by decide +kernel
theorem dX7_sheep_91 : decode cX7_sheep 91 = .ok (.aload_n 0, 1) := by decide +kernel
theorem dX7_sheep_92 : decode cX7_sheep 92 = .ok (.getfield 7, 3) := by decide +kernel
theorem dX7_sheep_95 : decode cX7_sheep 95 = .ok (.iload 5, 2) := by decide +kernel
theorem dX7_sheep_97 : decode cX7_sheep 97 = .ok (.iconst 2, 1) := by decide +kernel
theorem dX7_sheep_98 : decode cX7_sheep 98 = .ok (.iadd, 1) := by decide +kernel
theorem dX7_sheep_99 : decode cX7_sheep 99 = .ok (.iload_n 3, 1) := by decide +kernel
theorem dX7_sheep_100 : decode cX7_sheep 100 = .ok (.iastore, 1) := by decide +kernel
theorem dX7_sheep_101 : decode cX7_sheep 101 = .ok (.aload_n 0, 1) := by decide +kernel
theorem dX7_sheep_102 : decode cX7_sheep 102 = .ok (.getfield 7, 3) := by decide +kernel
theorem dX7_sheep_105 : decode cX7_sheep 105 = .ok (.iload 5, 2) := by decide +kernel
theorem dX7_sheep_107 : decode cX7_sheep 107 = .ok (.iconst 3, 1) := by decide +kernel
theorem dX7_sheep_108 : decode cX7_sheep 108 = .ok (.iadd, 1) := by decide +kernel
theorem dX7_sheep_109 : decode cX7_sheep 109 = .ok (.iload 4, 2) := by decide +kernel
theorem dX7_sheep_111 : decode cX7_sheep 111 = .ok (.iastore, 1) := by decide +kernel
theorem dX7_sheep_112 : decode cX7_sheep 112 = .ok (.aload_n 0, 1) := by decide +kernel
theorem dX7_sheep_113 : decode cX7_sheep 113 = .ok (.getfield 7, 3) := by decide +kernel
theorem dX7_sheep_116 : decode cX7_sheep 116 = .ok (.iconst 0, 1) := by decide +kernel
theorem dX7_sheep_117 : decode cX7_sheep 117 = .ok (.dup2, 1) := by decide +kernel
theorem dX7_sheep_118 : decode cX7_sheep 118 = .ok (.iaload, 1) := by decide +kernel
theorem dX7_sheep_119 : decode cX7_sheep 119 = .ok (.iconst 1, 1) := by decide +kernel
theorem dX7_sheep_120 : decode cX7_sheep 120 = .ok (.iadd, 1) := by decide +kernel
theorem dX7_sheep_121 : decode cX7_sheep 121 = .ok (.iastore, 1) := by decide +kernel
theorem dX7_sheep_122 : decode cX7_sheep 122 = .ok (.aload_n 0, 1) := by decide +kernel
theorem dX7_sheep_123 : decode cX7_sheep 123 = .ok (.getfield 7, 3) := by decide +kernel
theorem dX7_sheep_126 : decode cX7_sheep 126 = .ok (.iconst 0, 1) := by decide +kernel
theorem dX7_sheep_127 : decode cX7_sheep 127 = .ok (.iaload, 1) := by decide +kernel
theorem dX7_sheep_128 : decode cX7_sheep 128 = .ok (.iconst 1, 1) := by decide +kernel
theorem dX7_sheep_129 : decode cX7_sheep 129 = .ok (.isub, 1) := by decide +kernel
theorem dX7_sheep_130 : decode cX7_sheep 130 = .ok (.ireturn, 1) := by decide +kernel
def p_X7_sheep (F : tF) (A : tA) (x1 : Int32) (x2 : Int32) (x3 : Int32) (x4 : Int32) (K : Int32 → tF → tA → Prop) : Prop := (p_X7_isIn ((x1).toInt64) (0 : Int64) (5 : Int64) (fun r6 => ((r6 = 0 → (K (-1 : Int32) F A)) ∧ (¬ r6 = 0 → (p_X7_isIn ((x2).toInt64) (0 : Int64) (9 : Int64) (fun r18 => ((r18 = 0 → (K (-1 : Int32) F A)) ∧ (¬ r18 = 0 → (p_X7_isIn ((x3).toInt64) (0 : Int64) (9 : Int64) (fun r30 => ((r30 = 0 → (K (-1 : Int32) F A)) ∧ (¬ r30 = 0 → (p_X7_isPlace x4 (fun r38 => ((¬ r38 = 0 → ((¬ ((A 0) 0) = (8 : Int32) → (∀ y71 : Int32, y71 = ((21 : Int32) + ((4 : Int32) * ((A 0) 0))) → (vp_in y71 53 ∧ (∀ f_80 : tF, f_80 = (upd (A 0) (y71).toNatClampNeg x1) → (vp_in (y71 + (1 : Int32)) 53 ∧ (∀ f_90 : tF, f_90 = (upd f_80 ((y71 + (1 : Int32))).toNatClampNeg x2) → (vp_in (y71 + (2 : Int32)) 53 ∧ (∀ f_100 : tF, f_100 = (upd f_90 ((y71 + (2 : Int32))).toNatClampNeg x3) → (vp_in (y71 + (3 : Int32)) 53 ∧ (∀ f_111 : tF, f_111 = (upd f_100 ((y71 + (3 : Int32))).toNatClampNeg x4) → (∀ f_121 : tF, f_121 = (upd f_111 0 ((f_111 0) + (1 : Int32))) → (K ((f_121 0) - (1 : Int32)) F (va_up A 0 f_121))))))))))))) ∧ (((A 0) 0) = (8 : Int32) → (K (-2 : Int32) F A)))) ∧ (r38 = 0 → (K (-1 : Int32) F A)))))))))))))))))
set_option maxHeartbeats 4000000 in
set_option maxRecDepth 100000 in
theorem w_X7_sheep (l : Launch) (D : va_G) (cI cZ cR : ClassId) (adK adV : Nat → Nat) (sz : Nat) (o : Nat) (q : Nat → Nat) (F : tF) (A : tA) (x1 : Int32) (x2 : Int32) (x3 : Int32) (x4 : Int32) (K : Int32 → tF → tA → Prop) (h : p_X7_sheep F A x1 x2 x3 x4 K) : MI l D cI cZ cR adK adV yX7_sheep cX7_sheep 6 (some .int) (rmN 1 25) [.ref o, .int x1, .int x2, .int x3, .int x4] (wX7 cI cZ o q F A : va_W) sz (fun (r : Int32) (u : (tF × tA)) => K r u.1 u.2) (fun (u : (tF × tA)) => (wX7 cI cZ o q u.1 u.2 : va_W)) := by
  refine M_i (by decide +kernel) (Nat.le_of_ble_eq_true rfl) ?_
  intro p e s m args below meth c Q A9 ls X ret hP hD hS hl
  obtain ⟨hx, hb, hml, ht, hown, hK, hA, hE⟩ := id X
  have hl : lv_has ls 6 [(0, .ref o), (1, .int x1), (2, .int x2), (3, .int x3), (4, .int x4)] := hl
  unfold p_X7_sheep at h
  refine lv_iload_n hx hb dX7_sheep_0 rfl (lv_at hl 1 rfl) ?_
  refine lv_i2l (v := (x1).toInt64) hx hb dX7_sheep_1 rfl ?_
  refine lv_lconst (v := 0) hx hb dX7_sheep_2 (by decide) ?_
  refine lv_ldc2 (v := 5) hx hb hown (ht _ mw_16_20) dX7_sheep_3 ?_
  refine C_si (wr := [0, 1, 2, 3, 4, 5, 6, 7, 8, 9, 10, 11, 12, 13, 14, 15].filterMap (fun i => (wX7 cI cZ o q F A : va_W)[i]?)) X hP hD hS [.long (x1).toInt64, .long (0 : Int64), .long (5 : Int64)] [] (w_X7_isIn l D cI cZ cR adK adV _ ((x1).toInt64) (0 : Int64) (5 : Int64) _ h) cal_X7_isIn mw_6_19 rfl [] [0, 1, 2, 3, 4, 5, 6, 7, 8, 9, 10, 11, 12, 13, 14, 15] [0, 1, 2, 3, 4, 5, 6, 7, 8, 9, 10, 11, 12, 13, 14, 15] (fun u => (wX7 cI cZ o q F A : va_W)) rfl rfl (fun _ => rfl) rfl ⟨rfl, rfl⟩ ⟨Nat.le_of_ble_eq_true rfl, Nat.le_of_ble_eq_true rfl⟩ hl.1 rfl (Nat.le_of_ble_eq_true rfl) ⟨Nat.zero_le _, Nat.zero_le _⟩ dX7_sheep_6 (fun r6 u H locs h hP hD hS => ?_)
  refine lv_if_eq (tgt := 44) hx hb dX7_sheep_9 (by decide) (fun c9 => ?_) (fun c9 => ?_)
  · replace h := h.1 c9
    refine lv_iconst (v := -1) hx hb dX7_sheep_44 (by decide) ?_
    exact ret _ (F, A) _ _ _ _ dX7_sheep_45 h hP hD hS
  · replace h := h.2 c9
    refine lv_iload_n hx hb dX7_sheep_12 rfl (lv_at hl 2 rfl) ?_
    refine lv_i2l (v := (x2).toInt64) hx hb dX7_sheep_13 rfl ?_
    refine lv_lconst (v := 0) hx hb dX7_sheep_14 (by decide) ?_
    refine lv_ldc2 (v := 9) hx hb hown (ht _ mw_15_19) dX7_sheep_15 ?_
    refine C_si (wr := [0, 1, 2, 3, 4, 5, 6, 7, 8, 9, 10, 11, 12, 13, 14, 15].filterMap (fun i => (wX7 cI cZ o q F A : va_W)[i]?)) X hP hD hS [.long (x2).toInt64, .long (0 : Int64), .long (9 : Int64)] [] (w_X7_isIn l D cI cZ cR adK adV _ ((x2).toInt64) (0 : Int64) (9 : Int64) _ h) cal_X7_isIn mw_6_19 rfl [] [0, 1, 2, 3, 4, 5, 6, 7, 8, 9, 10, 11, 12, 13, 14, 15] [0, 1, 2, 3, 4, 5, 6, 7, 8, 9, 10, 11, 12, 13, 14, 15] (fun u => (wX7 cI cZ o q F A : va_W)) rfl rfl (fun _ => rfl) rfl ⟨rfl, rfl⟩ ⟨Nat.le_of_ble_eq_true rfl, Nat.le_of_ble_eq_true rfl⟩ hl.1 rfl (Nat.le_of_ble_eq_true rfl) ⟨Nat.zero_le _, Nat.zero_le _⟩ dX7_sheep_18 (fun r18 u H locs h hP hD hS => ?_)
    refine lv_if_eq (tgt := 44) hx hb dX7_sheep_21 (by decide) (fun c21 => ?_) (fun c21 => ?_)
    · replace h := h.1 c21
      refine lv_iconst (v := -1) hx hb dX7_sheep_44 (by decide) ?_
      exact ret _ (F, A) _ _ _ _ dX7_sheep_45 h hP hD hS
    · replace h := h.2 c21
      refine lv_iload_n hx hb dX7_sheep_24 rfl (lv_at hl 3 rfl) ?_
      refine lv_i2l (v := (x3).toInt64) hx hb dX7_sheep_25 rfl ?_
      refine lv_lconst (v := 0) hx hb dX7_sheep_26 (by decide) ?_
      refine lv_ldc2 (v := 9) hx hb hown (ht _ mw_15_19) dX7_sheep_27 ?_
      refine C_si (wr := [0, 1, 2, 3, 4, 5, 6, 7, 8, 9, 10, 11, 12, 13, 14, 15].filterMap (fun i => (wX7 cI cZ o q F A : va_W)[i]?)) X hP hD hS [.long (x3).toInt64, .long (0 : Int64), .long (9 : Int64)] [] (w_X7_isIn l D cI cZ cR adK adV _ ((x3).toInt64) (0 : Int64) (9 : Int64) _ h) cal_X7_isIn mw_6_19 rfl [] [0, 1, 2, 3, 4, 5, 6, 7, 8, 9, 10, 11, 12, 13, 14, 15] [0, 1, 2, 3, 4, 5, 6, 7, 8, 9, 10, 11, 12, 13, 14, 15] (fun u => (wX7 cI cZ o q F A : va_W)) rfl rfl (fun _ => rfl) rfl ⟨rfl, rfl⟩ ⟨Nat.le_of_ble_eq_true rfl, Nat.le_of_ble_eq_true rfl⟩ hl.1 rfl (Nat.le_of_ble_eq_true rfl) ⟨Nat.zero_le _, Nat.zero_le _⟩ dX7_sheep_30 (fun r30 u H locs h hP hD hS => ?_)
      refine lv_if_eq (tgt := 44) hx hb dX7_sheep_33 (by decide) (fun c33 => ?_) (fun c33 => ?_)
      · replace h := h.1 c33
        refine lv_iconst (v := -1) hx hb dX7_sheep_44 (by decide) ?_
        exact ret _ (F, A) _ _ _ _ dX7_sheep_45 h hP hD hS
      · replace h := h.2 c33
        refine lv_iload hx hb dX7_sheep_36 (lv_at hl 4 rfl) ?_
        refine C_si (wr := [0, 1, 2, 3, 4, 5, 6, 7, 8, 9, 10, 11, 12, 13, 14, 15].filterMap (fun i => (wX7 cI cZ o q F A : va_W)[i]?)) X hP hD hS [.int x4] [] (w_X7_isPlace l D cI cZ cR adK adV _ x4 _ h) cal_X7_isPlace mw_16_21 rfl [] [0, 1, 2, 3, 4, 5, 6, 7, 8, 9, 10, 11, 12, 13, 14, 15] [0, 1, 2, 3, 4, 5, 6, 7, 8, 9, 10, 11, 12, 13, 14, 15] (fun u => (wX7 cI cZ o q F A : va_W)) rfl rfl (fun _ => rfl) rfl ⟨rfl, rfl⟩ ⟨Nat.le_of_ble_eq_true rfl, Nat.le_of_ble_eq_true rfl⟩ hl.1 rfl (Nat.le_of_ble_eq_true rfl) ⟨Nat.zero_le _, Nat.zero_le _⟩ dX7_sheep_38 (fun r38 u H locs h hP hD hS => ?_)
        refine lv_if_ne (tgt := 46) hx hb dX7_sheep_41 (by decide) (fun c41 => ?_) (fun c41 => ?_)
        · replace h := h.1 c41
          refine lv_aload_n hx hb dX7_sheep_46 rfl (lv_at hl 0 rfl) ?_
          refine va_get (C := RX7) (T := TX7) (N := 28) (own := RX7) (v := .ref (q 0)) hx hb ht inlX7 hown hK hP 0 rfl rfl 0 (Nat.le_of_ble_eq_true rfl) (ht _ mw_5_7) (fun _ h9 => h9) rfl dX7_sheep_47 ?_
          refine lv_iconst (v := 0) hx hb dX7_sheep_50 (by decide) ?_
          refine g_iald (f := (A 0)) (k := 0) hx hb hK hP 1 0 rfl rfl (vp_in_lit rfl : vp_in (0 : Int32) 53) (by decide) dX7_sheep_51 ?_
          refine lv_bipush (v := 8) hx hb dX7_sheep_52 (by decide) ?_
          refine lv_icmp_ne (tgt := 60) hx hb dX7_sheep_54 (by decide) (fun c54 => ?_) (fun c54 => ?_)
          · replace h := h.1 c54
            refine lv_bipush (v := 21) hx hb dX7_sheep_60 (by decide) ?_
            refine lv_iconst (v := 4) hx hb dX7_sheep_62 (by decide) ?_
            refine lv_aload_n hx hb dX7_sheep_63 rfl (lv_at hl 0 rfl) ?_
            refine va_get (C := RX7) (T := TX7) (N := 28) (own := RX7) (v := .ref (q 0)) hx hb ht inlX7 hown hK hP 0 rfl rfl 0 (Nat.le_of_ble_eq_true rfl) (ht _ mw_5_7) (fun _ h9 => h9) rfl dX7_sheep_64 ?_
            refine lv_iconst (v := 0) hx hb dX7_sheep_67 (by decide) ?_
            refine g_iald (f := (A 0)) (k := 0) hx hb hK hP 1 0 rfl rfl (vp_in_lit rfl : vp_in (0 : Int32) 53) (by decide) dX7_sheep_68 ?_
            refine lv_imul hx hb dX7_sheep_69 ?_
            refine lv_iadd hx hb dX7_sheep_70 ?_
            refine lv_topi (fun y71 ey71 => ?_)
            replace h := h y71 ey71
            refine lv_istore (lv' := [(5, .int y71), (0, .ref o), (1, .int x1), (2, .int x2), (3, .int x3), (4, .int x4)]) hx hb dX7_sheep_71 hl (by decide) rfl (fun ls hl => ?_)
            refine lv_aload_n hx hb dX7_sheep_73 rfl (lv_at hl 1 rfl) ?_
            refine va_get (C := RX7) (T := TX7) (N := 28) (own := RX7) (v := .ref (q 0)) hx hb ht inlX7 hown hK hP 0 rfl rfl 0 (Nat.le_of_ble_eq_true rfl) (ht _ mw_5_7) (fun _ h9 => h9) rfl dX7_sheep_74 ?_
            refine lv_iload hx hb dX7_sheep_77 (lv_at hl 0 rfl) ?_
            refine lv_iload_n hx hb dX7_sheep_79 rfl (lv_at hl 2 rfl) ?_
            obtain ⟨hi80, h⟩ := h
            obtain ⟨f_80, ef_80⟩ : ∃ z : tF, z = (upd (A 0) (y71).toNatClampNeg x1) := ⟨_, rfl⟩
            replace h := h f_80 ef_80
            refine g_iast (f := (A 0)) (k := (y71).toNatClampNeg) hx hb hK hP hD hS 1 0 rfl rfl hi80 rfl ef_80 dX7_sheep_80 (fun H locs hP hD hS => ?_)
            have hP : va_P D vwCl (wX7 cI cZ o q F (va_up A 0 f_80) : va_W) H := hP
            have hD : va_D A9 (wX7 cI cZ o q F (va_up A 0 f_80) : va_W) := hD
            refine lv_aload_n hx hb dX7_sheep_81 rfl (lv_at hl 1 rfl) ?_
            refine va_get (C := RX7) (T := TX7) (N := 28) (own := RX7) (v := .ref (q 0)) hx hb ht inlX7 hown hK hP 0 rfl rfl 0 (Nat.le_of_ble_eq_true rfl) (ht _ mw_5_7) (fun _ h9 => h9) rfl dX7_sheep_82 ?_
            refine lv_iload hx hb dX7_sheep_85 (lv_at hl 0 rfl) ?_
            refine lv_iconst (v := 1) hx hb dX7_sheep_87 (by decide) ?_
            refine lv_iadd hx hb dX7_sheep_88 ?_
            refine lv_iload_n hx hb dX7_sheep_89 rfl (lv_at hl 3 rfl) ?_
            obtain ⟨hi90, h⟩ := h
            obtain ⟨f_90, ef_90⟩ : ∃ z : tF, z = (upd f_80 ((y71 + (1 : Int32))).toNatClampNeg x2) := ⟨_, rfl⟩
            replace h := h f_90 ef_90
            refine g_iast (f := f_80) (k := ((y71 + (1 : Int32))).toNatClampNeg) hx hb hK hP hD hS 1 0 rfl rfl hi90 rfl ef_90 dX7_sheep_90 (fun H locs hP hD hS => ?_)
            have hP : va_P D vwCl (wX7 cI cZ o q F (va_up A 0 f_90) : va_W) H := hP
            have hD : va_D A9 (wX7 cI cZ o q F (va_up A 0 f_90) : va_W) := hD
            refine lv_aload_n hx hb dX7_sheep_91 rfl (lv_at hl 1 rfl) ?_
            refine va_get (C := RX7) (T := TX7) (N := 28) (own := RX7) (v := .ref (q 0)) hx hb ht inlX7 hown hK hP 0 rfl rfl 0 (Nat.le_of_ble_eq_true rfl) (ht _ mw_5_7) (fun _ h9 => h9) rfl dX7_sheep_92 ?_
            refine lv_iload hx hb dX7_sheep_95 (lv_at hl 0 rfl) ?_
            refine lv_iconst (v := 2) hx hb dX7_sheep_97 (by decide) ?_
            refine lv_iadd hx hb dX7_sheep_98 ?_
            refine lv_iload_n hx hb dX7_sheep_99 rfl (lv_at hl 4 rfl) ?_
            obtain ⟨hi100, h⟩ := h
            obtain ⟨f_100, ef_100⟩ : ∃ z : tF, z = (upd f_90 ((y71 + (2 : Int32))).toNatClampNeg x3) := ⟨_, rfl⟩
            replace h := h f_100 ef_100
            refine g_iast (f := f_90) (k := ((y71 + (2 : Int32))).toNatClampNeg) hx hb hK hP hD hS 1 0 rfl rfl hi100 rfl ef_100 dX7_sheep_100 (fun H locs hP hD hS => ?_)
            have hP : va_P D vwCl (wX7 cI cZ o q F (va_up A 0 f_100) : va_W) H := hP
            have hD : va_D A9 (wX7 cI cZ o q F (va_up A 0 f_100) : va_W) := hD
            refine lv_aload_n hx hb dX7_sheep_101 rfl (lv_at hl 1 rfl) ?_
            refine va_get (C := RX7) (T := TX7) (N := 28) (own := RX7) (v := .ref (q 0)) hx hb ht inlX7 hown hK hP 0 rfl rfl 0 (Nat.le_of_ble_eq_true rfl) (ht _ mw_5_7) (fun _ h9 => h9) rfl dX7_sheep_102 ?_
            refine lv_iload hx hb dX7_sheep_105 (lv_at hl 0 rfl) ?_
            refine lv_iconst (v := 3) hx hb dX7_sheep_107 (by decide) ?_
            refine lv_iadd hx hb dX7_sheep_108 ?_
            refine lv_iload hx hb dX7_sheep_109 (lv_at hl 5 rfl) ?_
            obtain ⟨hi111, h⟩ := h
            obtain ⟨f_111, ef_111⟩ : ∃ z : tF, z = (upd f_100 ((y71 + (3 : Int32))).toNatClampNeg x4) := ⟨_, rfl⟩
            replace h := h f_111 ef_111
            refine g_iast (f := f_100) (k := ((y71 + (3 : Int32))).toNatClampNeg) hx hb hK hP hD hS 1 0 rfl rfl hi111 rfl ef_111 dX7_sheep_111 (fun H locs hP hD hS => ?_)
            have hP : va_P D vwCl (wX7 cI cZ o q F (va_up A 0 f_111) : va_W) H := hP
            have hD : va_D A9 (wX7 cI cZ o q F (va_up A 0 f_111) : va_W) := hD
            refine lv_aload_n hx hb dX7_sheep_112 rfl (lv_at hl 1 rfl) ?_
            refine va_get (C := RX7) (T := TX7) (N := 28) (own := RX7) (v := .ref (q 0)) hx hb ht inlX7 hown hK hP 0 rfl rfl 0 (Nat.le_of_ble_eq_true rfl) (ht _ mw_5_7) (fun _ h9 => h9) rfl dX7_sheep_113 ?_
            refine lv_iconst (v := 0) hx hb dX7_sheep_116 (by decide) ?_
            refine lv_dup2_11 hx hb dX7_sheep_117 rfl rfl ?_
            refine g_iald (f := f_111) (k := 0) hx hb hK hP 1 0 rfl rfl (vp_in_lit rfl : vp_in (0 : Int32) 53) (by decide) dX7_sheep_118 ?_
            refine lv_iconst (v := 1) hx hb dX7_sheep_119 (by decide) ?_
            refine lv_iadd hx hb dX7_sheep_120 ?_
            obtain ⟨f_121, ef_121⟩ : ∃ z : tF, z = (upd f_111 0 ((f_111 0) + (1 : Int32))) := ⟨_, rfl⟩
            replace h := h f_121 ef_121
            refine g_iast (f := f_111) (k := 0) hx hb hK hP hD hS 1 0 rfl rfl (vp_in_lit rfl : vp_in (0 : Int32) 53) (by decide) ef_121 dX7_sheep_121 (fun H locs hP hD hS => ?_)
            have hP : va_P D vwCl (wX7 cI cZ o q F (va_up A 0 f_121) : va_W) H := hP
            have hD : va_D A9 (wX7 cI cZ o q F (va_up A 0 f_121) : va_W) := hD
            refine lv_aload_n hx hb dX7_sheep_122 rfl (lv_at hl 1 rfl) ?_
            refine va_get (C := RX7) (T := TX7) (N := 28) (own := RX7) (v := .ref (q 0)) hx hb ht inlX7 hown hK hP 0 rfl rfl 0 (Nat.le_of_ble_eq_true rfl) (ht _ mw_5_7) (fun _ h9 => h9) rfl dX7_sheep_123 ?_
            refine lv_iconst (v := 0) hx hb dX7_sheep_126 (by decide) ?_
            refine g_iald (f := f_121) (k := 0) hx hb hK hP 1 0 rfl rfl (vp_in_lit rfl : vp_in (0 : Int32) 53) (by decide) dX7_sheep_127 ?_
            refine lv_iconst (v := 1) hx hb dX7_sheep_128 (by decide) ?_
            refine lv_isub hx hb dX7_sheep_129 ?_
            exact ret _ (F, (va_up A 0 f_121)) _ _ _ _ dX7_sheep_130 h hP hD hS
          · replace h := h.2 c54
            refine lv_bipush (v := -2) hx hb dX7_sheep_57 (by decide) ?_
            exact ret _ (F, A) _ _ _ _ dX7_sheep_59 h hP hD hS
        · replace h := h.2 c41
          refine lv_iconst (v := -1) hx hb dX7_sheep_44 (by decide) ?_
          exact ret _ (F, A) _ _ _ _ dX7_sheep_45 h hP hD hS
theorem cal_X7_its : CalV yX7_its cX7_its 3 (some .int) 2 := ⟨mw_18_19, mw_1_5, mw_18_17, mw_18_18, ⟨by decide +kernel, by decide +kernel, by decide +kernel⟩⟩
theorem cal_X7_apart : CalS yX7_apart cX7_apart 2 (some .int) 2 := ⟨mw_19_10, mw_1_5, mw_19_9, ⟨by decide +kernel, by decide +kernel, by decide +kernel⟩⟩
theorem dX7_worthOf_0 : decode cX7_worthOf 0 = .ok (.iconst 2, 1) := by decide +kernel
theorem dX7_worthOf_1 : decode cX7_worthOf 1 = .ok (.aload_n 0, 1) := by decide +kernel
theorem dX7_worthOf_2 : decode cX7_worthOf 2 = .ok (.getfield 7, 3) := by decide +kernel
theorem dX7_worthOf_5 : decode cX7_worthOf 5 = .ok (.bipush 9, 2) := by decide +kernel
theorem dX7_worthOf_7 : decode cX7_worthOf 7 = .ok (.iload_n 2, 1) := by decide +kernel
theorem dX7_worthOf_8 : decode cX7_worthOf 8 = .ok (.iadd, 1) := by decide +kernel
theorem dX7_worthOf_9 : decode cX7_worthOf 9 = .ok (.iaload, 1) := by decide +kernel
theorem dX7_worthOf_10 : decode cX7_worthOf 10 = .ok (.imul, 1) := by decide +kernel
theorem dX7_worthOf_11 : decode cX7_worthOf 11 = .ok (.aload_n 0, 1) := by decide +kernel
theorem dX7_worthOf_12 : decode cX7_worthOf 12 = .ok (.getfield 7, 3) := by decide +kernel
theorem dX7_worthOf_15 : decode cX7_worthOf 15 = .ok (.bipush 15, 2) := by decide +kernel
theorem dX7_worthOf_17 : decode cX7_worthOf 17 = .ok (.iload_n 2, 1) := by decide +kernel
theorem dX7_worthOf_18 : decode cX7_worthOf 18 = .ok (.iadd, 1) := by decide +kernel
theorem dX7_worthOf_19 : decode cX7_worthOf 19 = .ok (.iaload, 1) := by decide +kernel
theorem dX7_worthOf_20 : decode cX7_worthOf 20 = .ok (.isub, 1) := by decide +kernel
theorem dX7_worthOf_21 : decode cX7_worthOf 21 = .ok (.aload_n 0, 1) := by decide +kernel
theorem dX7_worthOf_22 : decode cX7_worthOf 22 = .ok (.iload_n 1, 1) := by decide +kernel
theorem dX7_worthOf_23 : decode cX7_worthOf 23 = .ok (.iconst 2, 1) := by decide +kernel
theorem dX7_worthOf_24 : decode cX7_worthOf 24 = .ok (.invokevirtual 169, 3) := by decide +kernel
theorem dX7_worthOf_27 : decode cX7_worthOf 27 = .ok (.iconst 3, 1) := by decide +kernel
theorem dX7_worthOf_28 : decode cX7_worthOf 28 = .ok (.idiv, 1) := by decide +kernel
theorem dX7_worthOf_29 : decode cX7_worthOf 29 = .ok (.iload_n 2, 1) := by decide +kernel
theorem dX7_worthOf_30 : decode cX7_worthOf 30 = .ok (.aload_n 0, 1) := by decide +kernel
theorem dX7_worthOf_31 : decode cX7_worthOf 31 = .ok (.getfield 7, 3) := by decide +kernel
theorem dX7_worthOf_34 : decode cX7_worthOf 34 = .ok (.iconst 3, 1) := by decide +kernel
theorem dX7_worthOf_35 : decode cX7_worthOf 35 = .ok (.iaload, 1) := by decide +kernel
theorem dX7_worthOf_36 : decode cX7_worthOf 36 = .ok (.invokestatic 172, 3) := by decide +kernel
theorem dX7_worthOf_39 : decode cX7_worthOf 39 = .ok (.imul, 1) := by decide +kernel
theorem dX7_worthOf_40 : decode cX7_worthOf 40 = .ok (.isub, 1) := by decide +kernel
theorem dX7_worthOf_41 : decode cX7_worthOf 41 = .ok (.istore_n 3, 1) := by decide +kernel
theorem dX7_worthOf_42 : decode cX7_worthOf 42 = .ok (.iload_n 3, 1) := by decide +kernel
theorem dX7_worthOf_43 : decode cX7_worthOf 43 = .ok (.aload_n 0, 1) := by decide +kernel
theorem dX7_worthOf_44 : decode cX7_worthOf 44 = .ok (.iload_n 1, 1) := by decide +kernel
theorem dX7_worthOf_45 : decode cX7_worthOf 45 = .ok (.iconst 3, 1) := by decide +kernel
theorem dX7_worthOf_46 : decode cX7_worthOf 46 = .ok (.invokevirtual 169, 3) := by decide +kernel
theorem dX7_worthOf_49 : decode cX7_worthOf 49 = .ok (.iload_n 2, 1) := by decide +kernel
theorem dX7_worthOf_50 : decode cX7_worthOf 50 = .ok (.if_icmp .ne 12, 3) := by decide +kernel
theorem dX7_worthOf_53 : decode cX7_worthOf 53 = .ok (.aload_n 0, 1) := by decide +kernel
theorem dX7_worthOf_54 : decode cX7_worthOf 54 = .ok (.iload_n 1, 1) := by decide +kernel
theorem dX7_worthOf_55 : decode cX7_worthOf 55 = .ok (.iconst 1, 1) := by decide +kernel
theorem dX7_worthOf_56 : decode cX7_worthOf 56 = .ok (.invokevirtual 169, 3) := by decide +kernel
theorem dX7_worthOf_59 : decode cX7_worthOf 59 = .ok (.goto 4, 3) := by decide +kernel
theorem dX7_worthOf_62 : decode cX7_worthOf 62 = .ok (.iconst 0, 1) := by decide +kernel
theorem dX7_worthOf_63 : decode cX7_worthOf 63 = .ok (.iadd, 1) := by decide +kernel
theorem dX7_worthOf_64 : decode cX7_worthOf 64 = .ok (.istore 4, 2) := by decide +kernel
theorem dX7_worthOf_66 : decode cX7_worthOf 66 = .ok (.aload_n 0, 1) := by decide +kernel
theorem dX7_worthOf_67 : decode cX7_worthOf 67 = .ok (.iload_n 1, 1) := by decide +kernel
theorem dX7_worthOf_68 : decode cX7_worthOf 68 = .ok (.iconst 0, 1) := by decide +kernel
theorem dX7_worthOf_69 : decode cX7_worthOf 69 = .ok (.invokevirtual 169, 3) := by decide +kernel
theorem dX7_worthOf_72 : decode cX7_worthOf 72 = .ok (.tableswitch 112 1 5 #[36, 39, 43, 63, 90], 36) := by decide +kernel
theorem dX7_worthOf_108 : decode cX7_worthOf 108 = .ok (.iload 4, 2) := by decide +kernel
theorem dX7_worthOf_110 : decode cX7_worthOf 110 = .ok (.ireturn, 1) := by decide +kernel
theorem dX7_worthOf_111 : decode cX7_worthOf 111 = .ok (.iload_n 3, 1) := by decide +kernel
theorem dX7_worthOf_112 : decode cX7_worthOf 112 = .ok (.iconst 2, 1) := by decide +kernel
theorem dX7_worthOf_113 : decode cX7_worthOf 113 = .ok (.idiv, 1) := by decide +kernel
theorem dX7_worthOf_114 : decode cX7_worthOf 114 = .ok (.ireturn, 1) := by decide +kernel
theorem dX7_worthOf_115 : decode cX7_worthOf 115 = .ok (.iload_n 2, 1) := by decide +kernel
theorem dX7_worthOf_116 : decode cX7_worthOf 116 = .ok (.iconst 5, 1) := by decide +kernel
theorem dX7_worthOf_117 : decode cX7_worthOf 117 = .ok (.if_icmp .ne 15, 3) := by decide +kernel
theorem dX7_worthOf_120 : decode cX7_worthOf 120 = .ok (.iload 4, 2) := by decide +kernel
theorem dX7_worthOf_122 : decode cX7_worthOf 122 = .ok (.aload_n 0, 1) := by decide +kernel
theorem dX7_worthOf_123 : decode cX7_worthOf 123 = .ok (.getfield 7, 3) := by decide +kernel
theorem dX7_worthOf_126 : decode cX7_worthOf 126 = .ok (.iconst 5, 1) := by decide +kernel
theorem dX7_worthOf_127 : decode cX7_worthOf 127 = .ok (.iaload, 1) := by decide +kernel
theorem dX7_worthOf_128 : decode cX7_worthOf 128 = .ok (.isub, 1) := by decide +kernel
theorem dX7_worthOf_129 : decode cX7_worthOf 129 = .ok (.goto 5, 3) := by decide +kernel
theorem dX7_worthOf_132 : decode cX7_worthOf 132 = .ok (.iload 4, 2) := by decide +kernel
theorem dX7_worthOf_134 : decode cX7_worthOf 134 = .ok (.ireturn, 1) := by decide +kernel
theorem dX7_worthOf_135 : decode cX7_worthOf 135 = .ok (.iload_n 3, 1) := by decide +kernel
theorem dX7_worthOf_136 : decode cX7_worthOf 136 = .ok (.iconst 2, 1) := by decide +kernel
theorem dX7_worthOf_137 : decode cX7_worthOf 137 = .ok (.idiv, 1) := by decide +kernel
theorem dX7_worthOf_138 : decode cX7_worthOf 138 = .ok (.aload_n 0, 1) := by decide +kernel
theorem dX7_worthOf_139 : decode cX7_worthOf 139 = .ok (.getfield 7, 3) := by decide +kernel
theorem dX7_worthOf_142 : decode cX7_worthOf 142 = .ok (.iconst 4, 1) := by decide +kernel
theorem dX7_worthOf_143 : decode cX7_worthOf 143 = .ok (.iaload, 1) := by decide +kernel
theorem dX7_worthOf_144 : decode cX7_worthOf 144 = .ok (.iconst 1, 1) := by decide +kernel
theorem dX7_worthOf_145 : decode cX7_worthOf 145 = .ok (.iload_n 2, 1) := by decide +kernel
theorem dX7_worthOf_146 : decode cX7_worthOf 146 = .ok (.iadd, 1) := by decide +kernel
theorem dX7_worthOf_147 : decode cX7_worthOf 147 = .ok (.if_icmp .ne 12, 3) := by decide +kernel
theorem dX7_worthOf_150 : decode cX7_worthOf 150 = .ok (.aload_n 0, 1) := by decide +kernel
theorem dX7_worthOf_151 : decode cX7_worthOf 151 = .ok (.iload_n 1, 1) := by decide +kernel
theorem dX7_worthOf_152 : decode cX7_worthOf 152 = .ok (.iconst 1, 1) := by decide +kernel
theorem dX7_worthOf_153 : decode cX7_worthOf 153 = .ok (.invokevirtual 169, 3) := by decide +kernel
theorem dX7_worthOf_156 : decode cX7_worthOf 156 = .ok (.goto 4, 3) := by decide +kernel
theorem dX7_worthOf_159 : decode cX7_worthOf 159 = .ok (.iconst 0, 1) := by decide +kernel
theorem dX7_worthOf_160 : decode cX7_worthOf 160 = .ok (.iadd, 1) := by decide +kernel
theorem dX7_worthOf_161 : decode cX7_worthOf 161 = .ok (.ireturn, 1) := by decide +kernel
theorem dX7_worthOf_162 : decode cX7_worthOf 162 = .ok (.iload_n 3, 1) := by decide +kernel
theorem dX7_worthOf_163 : decode cX7_worthOf 163 = .ok (.aload_n 0, 1) := by decide +kernel
theorem dX7_worthOf_164 : decode cX7_worthOf 164 = .ok (.getfield 7, 3) := by decide +kernel
theorem dX7_worthOf_167 : decode cX7_worthOf 167 = .ok (.bipush 9, 2) := by decide +kernel
theorem dX7_worthOf_169 : decode cX7_worthOf 169 = .ok (.iload_n 2, 1) := by decide +kernel
theorem dX7_worthOf_170 : decode cX7_worthOf 170 = .ok (.iadd, 1) := by decide +kernel
theorem dX7_worthOf_171 : decode cX7_worthOf 171 = .ok (.iaload, 1) := by decide +kernel
theorem dX7_worthOf_172 : decode cX7_worthOf 172 = .ok (.iadd, 1) := by decide +kernel
theorem dX7_worthOf_173 : decode cX7_worthOf 173 = .ok (.aload_n 0, 1) := by decide +kernel
theorem dX7_worthOf_174 : decode cX7_worthOf 174 = .ok (.getfield 7, 3) := by decide +kernel
theorem dX7_worthOf_177 : decode cX7_worthOf 177 = .ok (.bipush 15, 2) := by decide +kernel
theorem dX7_worthOf_179 : decode cX7_worthOf 179 = .ok (.iload_n 2, 1) := by decide +kernel
theorem dX7_worthOf_180 : decode cX7_worthOf 180 = .ok (.iadd, 1) := by decide +kernel
theorem dX7_worthOf_181 : decode cX7_worthOf 181 = .ok (.iaload, 1) := by decide +kernel
theorem dX7_worthOf_182 : decode cX7_worthOf 182 = .ok (.iadd, 1) := by decide +kernel
theorem dX7_worthOf_183 : decode cX7_worthOf 183 = .ok (.ireturn, 1) := by decide +kernel
theorem dX7_worthOf_184 : decode cX7_worthOf 184 = .ok (.iload_n 3, 1) := by decide +kernel
theorem dX7_worthOf_185 : decode cX7_worthOf 185 = .ok (.ireturn, 1) := by decide +kernel
def p_X7_worthOf_J63 (F : tF) (A : tA) (K : Int32 → Prop) (x1 : Int32) (x2 : Int32) (x3 : Int32) (s0 : Int32) (s1 : Int32) : Prop := (∀ y64 : Int32, y64 = (s1 + s0) → (p_X7_its F A x1 (0 : Int32) (fun r69 => ((r69 = (1 : Int32) → (K y64)) ∧ (r69 = (2 : Int32) → (K (x3 / (2 : Int32)))) ∧ (r69 = (3 : Int32) → ((¬ x2 = (5 : Int32) → (K y64)) ∧ (x2 = (5 : Int32) → (K (y64 - ((A 0) 5)))))) ∧ (r69 = (4 : Int32) → ((¬ ((A 0) 4) = ((1 : Int32) + x2) → (K ((x3 / (2 : Int32)) + (0 : Int32)))) ∧ (((A 0) 4) = ((1 : Int32) + x2) → (p_X7_its F A x1 (1 : Int32) (fun r153 => (K ((x3 / (2 : Int32)) + r153))))))) ∧ (r69 = (5 : Int32) → (vp_in ((9 : Int32) + x2) 53 ∧ (vp_in ((15 : Int32) + x2) 53 ∧ (K ((x3 + ((A 0) (((9 : Int32) + x2)).toNatClampNeg)) + ((A 0) (((15 : Int32) + x2)).toNatClampNeg)))))) ∧ (¬ r69 = (1 : Int32) → ¬ r69 = (2 : Int32) → ¬ r69 = (3 : Int32) → ¬ r69 = (4 : Int32) → ¬ r69 = (5 : Int32) → (K x3))))))
set_option maxHeartbeats 4000000 in
set_option maxRecDepth 100000 in
theorem b_X7_worthOf_J63 {p : Program} {l : Launch} {e : Env} {s : State} {m : MethodId} {args : Array Value} {below : List Frame} {meth : Method} {c : Code} {Q : State → Prop} {D : va_G} {cI cZ cR : ClassId} {adK adV : Nat → Nat} {A9 : Nat → Prop} {o : Nat} {q : Nat → Nat} {K : Int32 → Prop}  (F : tF) (A : tA) (x1 : Int32) (x2 : Int32) (x3 : Int32) (s0 : Int32) (s1 : Int32) (X : CX p s m args c yX7_worthOf.cls cX7_worthOf 5 D cI cZ cR adK adV A9) (ret : RTi p l e (rmN 1 22) s m args below meth c Q cX7_worthOf D A9 (fun (r : Int32) (u : Unit) => K r) (fun (u : Unit) => (wX7 cI cZ o q F A : va_W)))  (H : Heap) (locs : List Loc) (ls : Array Slot) (h : p_X7_worthOf_J63 F A K x1 x2 x3 s0 s1) (hP : va_P D vwCl (wX7 cI cZ o q F A : va_W) H) (hD : va_D A9 (wX7 cI cZ o q F A : va_W)) (hS : va_S A9 s.heap H locs) (hl : lv_has ls 5 [(0, .ref o), (1, .int x1), (2, .int x2), (3, .int x3)]) : W p l e (rmN 1 22) s m args below meth c H locs 0 0 Q (F0 m 63 ls [.int s0, .int s1]) := by
  obtain ⟨hx, hb, hml, ht, hown, hK, hA, hE⟩ := id X
  unfold p_X7_worthOf_J63 at h
  refine lv_iadd hx hb dX7_worthOf_63 ?_
  refine lv_topi (fun y64 ey64 => ?_)
  replace h := h y64 ey64
  refine lv_istore (lv' := [(4, .int y64), (0, .ref o), (1, .int x1), (2, .int x2), (3, .int x3)]) hx hb dX7_worthOf_64 hl (by decide) rfl (fun ls hl => ?_)
  refine lv_aload_n hx hb dX7_worthOf_66 rfl (lv_at hl 1 rfl) ?_
  refine lv_iload_n hx hb dX7_worthOf_67 rfl (lv_at hl 2 rfl) ?_
  refine lv_iconst (v := 0) hx hb dX7_worthOf_68 (by decide) ?_
  refine C_vi (wr := []) X hP hD hS [.int x1, .int (0 : Int32)] [] (w_X7_its l D cI cZ cR adK adV _ o q F A x1 (0 : Int32) _ h) cal_X7_its mw_18_16 rfl [0, 1, 2, 3, 4, 5, 6, 7, 8, 9, 10, 11, 12, 13, 14, 15] [] [0, 1, 2, 3, 4, 5, 6, 7, 8, 9, 10, 11, 12, 13, 14, 15] (fun u => (wX7 cI cZ o q F A : va_W)) rfl rfl (fun _ => rfl) rfl 0 rfl rfl ⟨rfl, rfl⟩ ⟨Nat.le_of_ble_eq_true rfl, Nat.le_of_ble_eq_true rfl⟩ hl.1 rfl (Nat.le_of_ble_eq_true rfl) ⟨Nat.zero_le _, Nat.zero_le _⟩ dX7_worthOf_69 (fun r69 u H locs h hP hD hS => ?_)
  by_cases c72_1 : r69 = (1 : Int32)
  · replace h := h.1 c72_1
    refine lv_tableIn (tgt := 108) hx hb dX7_worthOf_72 (by rw [c72_1]; decide) (by rw [c72_1]; decide) (by rw [c72_1]; rfl) (by decide) ?_
    refine lv_iload hx hb dX7_worthOf_108 (lv_at hl 0 rfl) ?_
    exact ret _ () _ _ _ _ dX7_worthOf_110 h hP hD hS
  by_cases c72_2 : r69 = (2 : Int32)
  · replace h := h.2.1 c72_2
    refine lv_tableIn (tgt := 111) hx hb dX7_worthOf_72 (by rw [c72_2]; decide) (by rw [c72_2]; decide) (by rw [c72_2]; rfl) (by decide) ?_
    refine lv_iload_n hx hb dX7_worthOf_111 rfl (lv_at hl 4 rfl) ?_
    refine lv_iconst (v := 2) hx hb dX7_worthOf_112 (by decide) ?_
    refine lv_idiv hx hb dX7_worthOf_113 (by decide) ?_
    exact ret _ () _ _ _ _ dX7_worthOf_114 h hP hD hS
  by_cases c72_3 : r69 = (3 : Int32)
  · replace h := h.2.2.1 c72_3
    refine lv_tableIn (tgt := 115) hx hb dX7_worthOf_72 (by rw [c72_3]; decide) (by rw [c72_3]; decide) (by rw [c72_3]; rfl) (by decide) ?_
    refine lv_iload_n hx hb dX7_worthOf_115 rfl (lv_at hl 3 rfl) ?_
    refine lv_iconst (v := 5) hx hb dX7_worthOf_116 (by decide) ?_
    refine lv_icmp_ne (tgt := 132) hx hb dX7_worthOf_117 (by decide) (fun c117 => ?_) (fun c117 => ?_)
    · replace h := h.1 c117
      refine lv_iload hx hb dX7_worthOf_132 (lv_at hl 0 rfl) ?_
      exact ret _ () _ _ _ _ dX7_worthOf_134 h hP hD hS
    · replace h := h.2 c117
      refine lv_iload hx hb dX7_worthOf_120 (lv_at hl 0 rfl) ?_
      refine lv_aload_n hx hb dX7_worthOf_122 rfl (lv_at hl 1 rfl) ?_
      refine va_get (C := RX7) (T := TX7) (N := 28) (own := RX7) (v := .ref (q 0)) hx hb ht inlX7 hown hK hP 0 rfl rfl 0 (Nat.le_of_ble_eq_true rfl) (ht _ mw_5_7) (fun _ h9 => h9) rfl dX7_worthOf_123 ?_
      refine lv_iconst (v := 5) hx hb dX7_worthOf_126 (by decide) ?_
      refine g_iald (f := (A 0)) (k := 5) hx hb hK hP 1 0 rfl rfl (vp_in_lit rfl : vp_in (5 : Int32) 53) (by decide) dX7_worthOf_127 ?_
      refine lv_isub hx hb dX7_worthOf_128 ?_
      refine lv_goto (tgt := 134) hx hb dX7_worthOf_129 (by decide) ?_
      exact ret _ () _ _ _ _ dX7_worthOf_134 h hP hD hS
  by_cases c72_4 : r69 = (4 : Int32)
  · replace h := h.2.2.2.1 c72_4
    refine lv_tableIn (tgt := 135) hx hb dX7_worthOf_72 (by rw [c72_4]; decide) (by rw [c72_4]; decide) (by rw [c72_4]; rfl) (by decide) ?_
    refine lv_iload_n hx hb dX7_worthOf_135 rfl (lv_at hl 4 rfl) ?_
    refine lv_iconst (v := 2) hx hb dX7_worthOf_136 (by decide) ?_
    refine lv_idiv hx hb dX7_worthOf_137 (by decide) ?_
    refine lv_aload_n hx hb dX7_worthOf_138 rfl (lv_at hl 1 rfl) ?_
    refine va_get (C := RX7) (T := TX7) (N := 28) (own := RX7) (v := .ref (q 0)) hx hb ht inlX7 hown hK hP 0 rfl rfl 0 (Nat.le_of_ble_eq_true rfl) (ht _ mw_5_7) (fun _ h9 => h9) rfl dX7_worthOf_139 ?_
    refine lv_iconst (v := 4) hx hb dX7_worthOf_142 (by decide) ?_
    refine g_iald (f := (A 0)) (k := 4) hx hb hK hP 1 0 rfl rfl (vp_in_lit rfl : vp_in (4 : Int32) 53) (by decide) dX7_worthOf_143 ?_
    refine lv_iconst (v := 1) hx hb dX7_worthOf_144 (by decide) ?_
    refine lv_iload_n hx hb dX7_worthOf_145 rfl (lv_at hl 3 rfl) ?_
    refine lv_iadd hx hb dX7_worthOf_146 ?_
    refine lv_icmp_ne (tgt := 159) hx hb dX7_worthOf_147 (by decide) (fun c147 => ?_) (fun c147 => ?_)
    · replace h := h.1 c147
      refine lv_iconst (v := 0) hx hb dX7_worthOf_159 (by decide) ?_
      refine lv_iadd hx hb dX7_worthOf_160 ?_
      exact ret _ () _ _ _ _ dX7_worthOf_161 h hP hD hS
    · replace h := h.2 c147
      refine lv_aload_n hx hb dX7_worthOf_150 rfl (lv_at hl 1 rfl) ?_
      refine lv_iload_n hx hb dX7_worthOf_151 rfl (lv_at hl 2 rfl) ?_
      refine lv_iconst (v := 1) hx hb dX7_worthOf_152 (by decide) ?_
      refine C_vi (wr := []) X hP hD hS [.int x1, .int (1 : Int32)] [.int (x3 / (2 : Int32))] (w_X7_its l D cI cZ cR adK adV _ o q F A x1 (1 : Int32) _ h) cal_X7_its mw_18_16 rfl [0, 1, 2, 3, 4, 5, 6, 7, 8, 9, 10, 11, 12, 13, 14, 15] [] [0, 1, 2, 3, 4, 5, 6, 7, 8, 9, 10, 11, 12, 13, 14, 15] (fun u => (wX7 cI cZ o q F A : va_W)) rfl rfl (fun _ => rfl) rfl 0 rfl rfl ⟨rfl, rfl⟩ ⟨Nat.le_of_ble_eq_true rfl, Nat.le_of_ble_eq_true rfl⟩ hl.1 rfl (Nat.le_of_ble_eq_true rfl) ⟨Nat.zero_le _, Nat.zero_le _⟩ dX7_worthOf_153 (fun r153 u H locs h hP hD hS => ?_)
      refine lv_goto (tgt := 160) hx hb dX7_worthOf_156 (by decide) ?_
      refine lv_iadd hx hb dX7_worthOf_160 ?_
      exact ret _ () _ _ _ _ dX7_worthOf_161 h hP hD hS
  by_cases c72_5 : r69 = (5 : Int32)
  · replace h := h.2.2.2.2.1 c72_5
    refine lv_tableIn (tgt := 162) hx hb dX7_worthOf_72 (by rw [c72_5]; decide) (by rw [c72_5]; decide) (by rw [c72_5]; rfl) (by decide) ?_
    refine lv_iload_n hx hb dX7_worthOf_162 rfl (lv_at hl 4 rfl) ?_
    refine lv_aload_n hx hb dX7_worthOf_163 rfl (lv_at hl 1 rfl) ?_
    refine va_get (C := RX7) (T := TX7) (N := 28) (own := RX7) (v := .ref (q 0)) hx hb ht inlX7 hown hK hP 0 rfl rfl 0 (Nat.le_of_ble_eq_true rfl) (ht _ mw_5_7) (fun _ h9 => h9) rfl dX7_worthOf_164 ?_
    refine lv_bipush (v := 9) hx hb dX7_worthOf_167 (by decide) ?_
    refine lv_iload_n hx hb dX7_worthOf_169 rfl (lv_at hl 3 rfl) ?_
    refine lv_iadd hx hb dX7_worthOf_170 ?_
    obtain ⟨hi171, h⟩ := h
    refine g_iald (f := (A 0)) (k := (((9 : Int32) + x2)).toNatClampNeg) hx hb hK hP 1 0 rfl rfl hi171 rfl dX7_worthOf_171 ?_
    refine lv_iadd hx hb dX7_worthOf_172 ?_
    refine lv_aload_n hx hb dX7_worthOf_173 rfl (lv_at hl 1 rfl) ?_
    refine va_get (C := RX7) (T := TX7) (N := 28) (own := RX7) (v := .ref (q 0)) hx hb ht inlX7 hown hK hP 0 rfl rfl 0 (Nat.le_of_ble_eq_true rfl) (ht _ mw_5_7) (fun _ h9 => h9) rfl dX7_worthOf_174 ?_
    refine lv_bipush (v := 15) hx hb dX7_worthOf_177 (by decide) ?_
    refine lv_iload_n hx hb dX7_worthOf_179 rfl (lv_at hl 3 rfl) ?_
    refine lv_iadd hx hb dX7_worthOf_180 ?_
    obtain ⟨hi181, h⟩ := h
    refine g_iald (f := (A 0)) (k := (((15 : Int32) + x2)).toNatClampNeg) hx hb hK hP 1 0 rfl rfl hi181 rfl dX7_worthOf_181 ?_
    refine lv_iadd hx hb dX7_worthOf_182 ?_
    exact ret _ () _ _ _ _ dX7_worthOf_183 h hP hD hS
  replace h := h.2.2.2.2.2 c72_1 c72_2 c72_3 c72_4 c72_5
  refine g_tdef (tgt := 184) hx hb dX7_worthOf_72 ?_ (by decide) ?_
  · exact Or.inl (sw1_5 c72_1 c72_2 c72_3 c72_4 c72_5)
  refine lv_iload_n hx hb dX7_worthOf_184 rfl (lv_at hl 4 rfl) ?_
  exact ret _ () _ _ _ _ dX7_worthOf_185 h hP hD hS
def p_X7_worthOf (F : tF) (A : tA) (x1 : Int32) (x2 : Int32) (K : Int32 → Prop) : Prop := (vp_in ((9 : Int32) + x2) 53 ∧ (vp_in ((15 : Int32) + x2) 53 ∧ (p_X7_its F A x1 (2 : Int32) (fun r24 => (p_X7_apart x2 ((A 0) 3) (fun r36 => (∀ y41 : Int32, y41 = ((((2 : Int32) * ((A 0) (((9 : Int32) + x2)).toNatClampNeg)) - ((A 0) (((15 : Int32) + x2)).toNatClampNeg)) - ((r24 / (3 : Int32)) * r36)) → (p_X7_its F A x1 (3 : Int32) (fun r46 => ((¬ r46 = x2 → (p_X7_worthOf_J63 F A K x1 x2 y41 (0 : Int32) y41)) ∧ (r46 = x2 → (p_X7_its F A x1 (1 : Int32) (fun r56 => (p_X7_worthOf_J63 F A K x1 x2 y41 r56 y41))))))))))))))
set_option maxHeartbeats 4000000 in
set_option maxRecDepth 100000 in
theorem w_X7_worthOf (l : Launch) (D : va_G) (cI cZ cR : ClassId) (adK adV : Nat → Nat) (sz : Nat) (o : Nat) (q : Nat → Nat) (F : tF) (A : tA) (x1 : Int32) (x2 : Int32) (K : Int32 → Prop) (h : p_X7_worthOf F A x1 x2 K) : MI l D cI cZ cR adK adV yX7_worthOf cX7_worthOf 5 (some .int) (rmN 1 22) [.ref o, .int x1, .int x2] (wX7 cI cZ o q F A : va_W) sz (fun (r : Int32) (u : Unit) => K r) (fun (u : Unit) => (wX7 cI cZ o q F A : va_W)) := by
  refine M_i (by decide +kernel) (Nat.le_of_ble_eq_true rfl) ?_
  intro p e s m args below meth c Q A9 ls X ret hP hD hS hl
  obtain ⟨hx, hb, hml, ht, hown, hK, hA, hE⟩ := id X
  have hl : lv_has ls 5 [(0, .ref o), (1, .int x1), (2, .int x2)] := hl
  unfold p_X7_worthOf at h
  refine lv_iconst (v := 2) hx hb dX7_worthOf_0 (by decide) ?_
  refine lv_aload_n hx hb dX7_worthOf_1 rfl (lv_at hl 0 rfl) ?_
  refine va_get (C := RX7) (T := TX7) (N := 28) (own := RX7) (v := .ref (q 0)) hx hb ht inlX7 hown hK hP 0 rfl rfl 0 (Nat.le_of_ble_eq_true rfl) (ht _ mw_5_7) (fun _ h9 => h9) rfl dX7_worthOf_2 ?_
  refine lv_bipush (v := 9) hx hb dX7_worthOf_5 (by decide) ?_
  refine lv_iload_n hx hb dX7_worthOf_7 rfl (lv_at hl 2 rfl) ?_
  refine lv_iadd hx hb dX7_worthOf_8 ?_
  obtain ⟨hi9, h⟩ := h
  refine g_iald (f := (A 0)) (k := (((9 : Int32) + x2)).toNatClampNeg) hx hb hK hP 1 0 rfl rfl hi9 rfl dX7_worthOf_9 ?_
  refine lv_imul hx hb dX7_worthOf_10 ?_
  refine lv_aload_n hx hb dX7_worthOf_11 rfl (lv_at hl 0 rfl) ?_
  refine va_get (C := RX7) (T := TX7) (N := 28) (own := RX7) (v := .ref (q 0)) hx hb ht inlX7 hown hK hP 0 rfl rfl 0 (Nat.le_of_ble_eq_true rfl) (ht _ mw_5_7) (fun _ h9 => h9) rfl dX7_worthOf_12 ?_
  refine lv_bipush (v := 15) hx hb dX7_worthOf_15 (by decide) ?_
  refine lv_iload_n hx hb dX7_worthOf_17 rfl (lv_at hl 2 rfl) ?_
  refine lv_iadd hx hb dX7_worthOf_18 ?_
  obtain ⟨hi19, h⟩ := h
  refine g_iald (f := (A 0)) (k := (((15 : Int32) + x2)).toNatClampNeg) hx hb hK hP 1 0 rfl rfl hi19 rfl dX7_worthOf_19 ?_
  refine lv_isub hx hb dX7_worthOf_20 ?_
  refine lv_aload_n hx hb dX7_worthOf_21 rfl (lv_at hl 0 rfl) ?_
  refine lv_iload_n hx hb dX7_worthOf_22 rfl (lv_at hl 1 rfl) ?_
  refine lv_iconst (v := 2) hx hb dX7_worthOf_23 (by decide) ?_
  refine C_vi (wr := []) X hP hD hS [.int x1, .int (2 : Int32)] [.int (((2 : Int32) * ((A 0) (((9 : Int32) + x2)).toNatClampNeg)) - ((A 0) (((15 : Int32) + x2)).toNatClampNeg))] (w_X7_its l D cI cZ cR adK adV _ o q F A x1 (2 : Int32) _ h) cal_X7_its mw_18_16 rfl [0, 1, 2, 3, 4, 5, 6, 7, 8, 9, 10, 11, 12, 13, 14, 15] [] [0, 1, 2, 3, 4, 5, 6, 7, 8, 9, 10, 11, 12, 13, 14, 15] (fun u => (wX7 cI cZ o q F A : va_W)) rfl rfl (fun _ => rfl) rfl 0 rfl rfl ⟨rfl, rfl⟩ ⟨Nat.le_of_ble_eq_true rfl, Nat.le_of_ble_eq_true rfl⟩ hl.1 rfl (Nat.le_of_ble_eq_true rfl) ⟨Nat.zero_le _, Nat.zero_le _⟩ dX7_worthOf_24 (fun r24 u H locs h hP hD hS => ?_)
  refine lv_iconst (v := 3) hx hb dX7_worthOf_27 (by decide) ?_
  refine lv_idiv hx hb dX7_worthOf_28 (by decide) ?_
  refine lv_iload_n hx hb dX7_worthOf_29 rfl (lv_at hl 2 rfl) ?_
  refine lv_aload_n hx hb dX7_worthOf_30 rfl (lv_at hl 0 rfl) ?_
  refine va_get (C := RX7) (T := TX7) (N := 28) (own := RX7) (v := .ref (q 0)) hx hb ht inlX7 hown hK hP 0 rfl rfl 0 (Nat.le_of_ble_eq_true rfl) (ht _ mw_5_7) (fun _ h9 => h9) rfl dX7_worthOf_31 ?_
  refine lv_iconst (v := 3) hx hb dX7_worthOf_34 (by decide) ?_
  refine g_iald (f := (A 0)) (k := 3) hx hb hK hP 1 0 rfl rfl (vp_in_lit rfl : vp_in (3 : Int32) 53) (by decide) dX7_worthOf_35 ?_
  refine C_si (wr := [0, 1, 2, 3, 4, 5, 6, 7, 8, 9, 10, 11, 12, 13, 14, 15].filterMap (fun i => (wX7 cI cZ o q F A : va_W)[i]?)) X hP hD hS [.int x2, .int ((A 0) 3)] [.int (r24 / (3 : Int32)), .int (((2 : Int32) * ((A 0) (((9 : Int32) + x2)).toNatClampNeg)) - ((A 0) (((15 : Int32) + x2)).toNatClampNeg))] (w_X7_apart l D cI cZ cR adK adV _ x2 ((A 0) 3) _ h) cal_X7_apart mw_19_8 rfl [] [0, 1, 2, 3, 4, 5, 6, 7, 8, 9, 10, 11, 12, 13, 14, 15] [0, 1, 2, 3, 4, 5, 6, 7, 8, 9, 10, 11, 12, 13, 14, 15] (fun u => (wX7 cI cZ o q F A : va_W)) rfl rfl (fun _ => rfl) rfl ⟨rfl, rfl⟩ ⟨Nat.le_of_ble_eq_true rfl, Nat.le_of_ble_eq_true rfl⟩ hl.1 rfl (Nat.le_of_ble_eq_true rfl) ⟨Nat.zero_le _, Nat.zero_le _⟩ dX7_worthOf_36 (fun r36 u H locs h hP hD hS => ?_)
  refine lv_imul hx hb dX7_worthOf_39 ?_
  refine lv_isub hx hb dX7_worthOf_40 ?_
  refine lv_topi (fun y41 ey41 => ?_)
  replace h := h y41 ey41
  refine lv_istore_n (lv' := [(3, .int y41), (0, .ref o), (1, .int x1), (2, .int x2)]) hx hb dX7_worthOf_41 rfl hl (by decide) rfl (fun ls hl => ?_)
  refine lv_iload_n hx hb dX7_worthOf_42 rfl (lv_at hl 0 rfl) ?_
  refine lv_aload_n hx hb dX7_worthOf_43 rfl (lv_at hl 1 rfl) ?_
  refine lv_iload_n hx hb dX7_worthOf_44 rfl (lv_at hl 2 rfl) ?_
  refine lv_iconst (v := 3) hx hb dX7_worthOf_45 (by decide) ?_
  refine C_vi (wr := []) X hP hD hS [.int x1, .int (3 : Int32)] [.int y41] (w_X7_its l D cI cZ cR adK adV _ o q F A x1 (3 : Int32) _ h) cal_X7_its mw_18_16 rfl [0, 1, 2, 3, 4, 5, 6, 7, 8, 9, 10, 11, 12, 13, 14, 15] [] [0, 1, 2, 3, 4, 5, 6, 7, 8, 9, 10, 11, 12, 13, 14, 15] (fun u => (wX7 cI cZ o q F A : va_W)) rfl rfl (fun _ => rfl) rfl 0 rfl rfl ⟨rfl, rfl⟩ ⟨Nat.le_of_ble_eq_true rfl, Nat.le_of_ble_eq_true rfl⟩ hl.1 rfl (Nat.le_of_ble_eq_true rfl) ⟨Nat.zero_le _, Nat.zero_le _⟩ dX7_worthOf_46 (fun r46 u H locs h hP hD hS => ?_)
  refine lv_iload_n hx hb dX7_worthOf_49 rfl (lv_at hl 3 rfl) ?_
  refine lv_icmp_ne (tgt := 62) hx hb dX7_worthOf_50 (by decide) (fun c50 => ?_) (fun c50 => ?_)
  · replace h := h.1 c50
    refine lv_iconst (v := 0) hx hb dX7_worthOf_62 (by decide) ?_
    exact b_X7_worthOf_J63 F A x1 x2 y41 (0 : Int32) y41 X ret  _ _ _ h hP hD hS (lv_sub hl [1, 2, 3, 0] rfl)
  · replace h := h.2 c50
    refine lv_aload_n hx hb dX7_worthOf_53 rfl (lv_at hl 1 rfl) ?_
    refine lv_iload_n hx hb dX7_worthOf_54 rfl (lv_at hl 2 rfl) ?_
    refine lv_iconst (v := 1) hx hb dX7_worthOf_55 (by decide) ?_
    refine C_vi (wr := []) X hP hD hS [.int x1, .int (1 : Int32)] [.int y41] (w_X7_its l D cI cZ cR adK adV _ o q F A x1 (1 : Int32) _ h) cal_X7_its mw_18_16 rfl [0, 1, 2, 3, 4, 5, 6, 7, 8, 9, 10, 11, 12, 13, 14, 15] [] [0, 1, 2, 3, 4, 5, 6, 7, 8, 9, 10, 11, 12, 13, 14, 15] (fun u => (wX7 cI cZ o q F A : va_W)) rfl rfl (fun _ => rfl) rfl 0 rfl rfl ⟨rfl, rfl⟩ ⟨Nat.le_of_ble_eq_true rfl, Nat.le_of_ble_eq_true rfl⟩ hl.1 rfl (Nat.le_of_ble_eq_true rfl) ⟨Nat.zero_le _, Nat.zero_le _⟩ dX7_worthOf_56 (fun r56 u H locs h hP hD hS => ?_)
    refine lv_goto (tgt := 63) hx hb dX7_worthOf_59 (by decide) ?_
    exact b_X7_worthOf_J63 F A x1 x2 y41 r56 y41 X ret  _ _ _ h hP hD hS (lv_sub hl [1, 2, 3, 0] rfl)
theorem dX7_counts_0 : decode cX7_counts 0 = .ok (.aload_n 0, 1) := by decide +kernel
theorem dX7_counts_1 : decode cX7_counts 1 = .ok (.getfield 7, 3) := by decide +kernel
theorem dX7_counts_4 : decode cX7_counts 4 = .ok (.iconst 3, 1) := by decide +kernel
theorem dX7_counts_5 : decode cX7_counts 5 = .ok (.iaload, 1) := by decide +kernel
theorem dX7_counts_6 : decode cX7_counts 6 = .ok (.aload_n 0, 1) := by decide +kernel
theorem dX7_counts_7 : decode cX7_counts 7 = .ok (.iload_n 1, 1) := by decide +kernel
theorem dX7_counts_8 : decode cX7_counts 8 = .ok (.iconst 3, 1) := by decide +kernel
theorem dX7_counts_9 : decode cX7_counts 9 = .ok (.invokevirtual 169, 3) := by decide +kernel
theorem dX7_counts_12 : decode cX7_counts 12 = .ok (.if_icmp .ne 7, 3) := by decide +kernel
theorem dX7_counts_15 : decode cX7_counts 15 = .ok (.iconst 2, 1) := by decide +kernel
theorem dX7_counts_16 : decode cX7_counts 16 = .ok (.goto 4, 3) := by decide +kernel
theorem dX7_counts_19 : decode cX7_counts 19 = .ok (.iconst 1, 1) := by decide +kernel
theorem dX7_counts_20 : decode cX7_counts 20 = .ok (.istore_n 2, 1) := by decide +kernel
theorem dX7_counts_21 : decode cX7_counts 21 = .ok (.aload_n 0, 1) := by decide +kernel
theorem dX7_counts_22 : decode cX7_counts 22 = .ok (.iload_n 1, 1) := by decide +kernel
theorem dX7_counts_23 : decode cX7_counts 23 = .ok (.iconst 0, 1) := by decide +kernel
theorem dX7_counts_24 : decode cX7_counts 24 = .ok (.invokevirtual 169, 3) := by decide +kernel
theorem dX7_counts_27 : decode cX7_counts 27 = .ok (.tableswitch 67 1 5 #[33, 35, 37, 41, 43], 33) := by decide +kernel
theorem dX7_counts_60 : decode cX7_counts 60 = .ok (.iload_n 2, 1) := by decide +kernel
theorem dX7_counts_61 : decode cX7_counts 61 = .ok (.ireturn, 1) := by decide +kernel
theorem dX7_counts_62 : decode cX7_counts 62 = .ok (.iconst 0, 1) := by decide +kernel
theorem dX7_counts_63 : decode cX7_counts 63 = .ok (.ireturn, 1) := by decide +kernel
theorem dX7_counts_64 : decode cX7_counts 64 = .ok (.iconst 2, 1) := by decide +kernel
theorem dX7_counts_65 : decode cX7_counts 65 = .ok (.iload_n 2, 1) := by decide +kernel
theorem dX7_counts_66 : decode cX7_counts 66 = .ok (.imul, 1) := by decide +kernel
theorem dX7_counts_67 : decode cX7_counts 67 = .ok (.ireturn, 1) := by decide +kernel
theorem dX7_counts_68 : decode cX7_counts 68 = .ok (.iconst 2, 1) := by decide +kernel
theorem dX7_counts_69 : decode cX7_counts 69 = .ok (.ireturn, 1) := by decide +kernel
theorem dX7_counts_70 : decode cX7_counts 70 = .ok (.aload_n 0, 1) := by decide +kernel
theorem dX7_counts_71 : decode cX7_counts 71 = .ok (.getfield 7, 3) := by decide +kernel
theorem dX7_counts_74 : decode cX7_counts 74 = .ok (.bipush 9, 2) := by decide +kernel
theorem dX7_counts_76 : decode cX7_counts 76 = .ok (.aload_n 0, 1) := by decide +kernel
theorem dX7_counts_77 : decode cX7_counts 77 = .ok (.getfield 7, 3) := by decide +kernel
theorem dX7_counts_80 : decode cX7_counts 80 = .ok (.iconst 3, 1) := by decide +kernel
theorem dX7_counts_81 : decode cX7_counts 81 = .ok (.iaload, 1) := by decide +kernel
theorem dX7_counts_82 : decode cX7_counts 82 = .ok (.iadd, 1) := by decide +kernel
theorem dX7_counts_83 : decode cX7_counts 83 = .ok (.iaload, 1) := by decide +kernel
theorem dX7_counts_84 : decode cX7_counts 84 = .ok (.iconst 3, 1) := by decide +kernel
theorem dX7_counts_85 : decode cX7_counts 85 = .ok (.if_icmp .ge 7, 3) := by decide +kernel
theorem dX7_counts_88 : decode cX7_counts 88 = .ok (.iconst 3, 1) := by decide +kernel
theorem dX7_counts_89 : decode cX7_counts 89 = .ok (.goto 4, 3) := by decide +kernel
theorem dX7_counts_92 : decode cX7_counts 92 = .ok (.iconst 1, 1) := by decide +kernel
theorem dX7_counts_93 : decode cX7_counts 93 = .ok (.ireturn, 1) := by decide +kernel
theorem dX7_counts_94 : decode cX7_counts 94 = .ok (.iconst 1, 1) := by decide +kernel
theorem dX7_counts_95 : decode cX7_counts 95 = .ok (.ireturn, 1) := by decide +kernel
def p_X7_counts_J20 (F : tF) (A : tA) (K : Int32 → Prop) (x1 : Int32) (s0 : Int32) : Prop := (p_X7_its F A x1 (0 : Int32) (fun r24 => ((r24 = (1 : Int32) → (K s0)) ∧ (r24 = (2 : Int32) → (K (0 : Int32))) ∧ (r24 = (3 : Int32) → (K ((2 : Int32) * s0))) ∧ (r24 = (4 : Int32) → (K (2 : Int32))) ∧ (r24 = (5 : Int32) → (vp_in ((9 : Int32) + ((A 0) 3)) 53 ∧ (((3 : Int32) ≤ ((A 0) (((9 : Int32) + ((A 0) 3))).toNatClampNeg) → (K (1 : Int32))) ∧ (¬ (3 : Int32) ≤ ((A 0) (((9 : Int32) + ((A 0) 3))).toNatClampNeg) → (K (3 : Int32)))))) ∧ (¬ r24 = (1 : Int32) → ¬ r24 = (2 : Int32) → ¬ r24 = (3 : Int32) → ¬ r24 = (4 : Int32) → ¬ r24 = (5 : Int32) → (K (1 : Int32))))))
set_option maxHeartbeats 4000000 in
set_option maxRecDepth 100000 in
theorem b_X7_counts_J20 {p : Program} {l : Launch} {e : Env} {s : State} {m : MethodId} {args : Array Value} {below : List Frame} {meth : Method} {c : Code} {Q : State → Prop} {D : va_G} {cI cZ cR : ClassId} {adK adV : Nat → Nat} {A9 : Nat → Prop} {o : Nat} {q : Nat → Nat} {K : Int32 → Prop}  (F : tF) (A : tA) (x1 : Int32) (s0 : Int32) (X : CX p s m args c yX7_counts.cls cX7_counts 3 D cI cZ cR adK adV A9) (ret : RTi p l e (rmN 1 22) s m args below meth c Q cX7_counts D A9 (fun (r : Int32) (u : Unit) => K r) (fun (u : Unit) => (wX7 cI cZ o q F A : va_W)))  (H : Heap) (locs : List Loc) (ls : Array Slot) (h : p_X7_counts_J20 F A K x1 s0) (hP : va_P D vwCl (wX7 cI cZ o q F A : va_W) H) (hD : va_D A9 (wX7 cI cZ o q F A : va_W)) (hS : va_S A9 s.heap H locs) (hl : lv_has ls 3 [(0, .ref o), (1, .int x1)]) : W p l e (rmN 1 22) s m args below meth c H locs 0 0 Q (F0 m 20 ls [.int s0]) := by
  obtain ⟨hx, hb, hml, ht, hown, hK, hA, hE⟩ := id X
  unfold p_X7_counts_J20 at h
  refine lv_istore_n (lv' := [(2, .int s0), (0, .ref o), (1, .int x1)]) hx hb dX7_counts_20 rfl hl (by decide) rfl (fun ls hl => ?_)
  refine lv_aload_n hx hb dX7_counts_21 rfl (lv_at hl 1 rfl) ?_
  refine lv_iload_n hx hb dX7_counts_22 rfl (lv_at hl 2 rfl) ?_
  refine lv_iconst (v := 0) hx hb dX7_counts_23 (by decide) ?_
  refine C_vi (wr := []) X hP hD hS [.int x1, .int (0 : Int32)] [] (w_X7_its l D cI cZ cR adK adV _ o q F A x1 (0 : Int32) _ h) cal_X7_its mw_18_16 rfl [0, 1, 2, 3, 4, 5, 6, 7, 8, 9, 10, 11, 12, 13, 14, 15] [] [0, 1, 2, 3, 4, 5, 6, 7, 8, 9, 10, 11, 12, 13, 14, 15] (fun u => (wX7 cI cZ o q F A : va_W)) rfl rfl (fun _ => rfl) rfl 0 rfl rfl ⟨rfl, rfl⟩ ⟨Nat.le_of_ble_eq_true rfl, Nat.le_of_ble_eq_true rfl⟩ hl.1 rfl (Nat.le_of_ble_eq_true rfl) ⟨Nat.zero_le _, Nat.zero_le _⟩ dX7_counts_24 (fun r24 u H locs h hP hD hS => ?_)
  by_cases c27_1 : r24 = (1 : Int32)
  · replace h := h.1 c27_1
    refine lv_tableIn (tgt := 60) hx hb dX7_counts_27 (by rw [c27_1]; decide) (by rw [c27_1]; decide) (by rw [c27_1]; rfl) (by decide) ?_
    refine lv_iload_n hx hb dX7_counts_60 rfl (lv_at hl 0 rfl) ?_
    exact ret _ () _ _ _ _ dX7_counts_61 h hP hD hS
  by_cases c27_2 : r24 = (2 : Int32)
  · replace h := h.2.1 c27_2
    refine lv_tableIn (tgt := 62) hx hb dX7_counts_27 (by rw [c27_2]; decide) (by rw [c27_2]; decide) (by rw [c27_2]; rfl) (by decide) ?_
    refine lv_iconst (v := 0) hx hb dX7_counts_62 (by decide) ?_
    exact ret _ () _ _ _ _ dX7_counts_63 h hP hD hS
  by_cases c27_3 : r24 = (3 : Int32)
  · replace h := h.2.2.1 c27_3
    refine lv_tableIn (tgt := 64) hx hb dX7_counts_27 (by rw [c27_3]; decide) (by rw [c27_3]; decide) (by rw [c27_3]; rfl) (by decide) ?_
    refine lv_iconst (v := 2) hx hb dX7_counts_64 (by decide) ?_
    refine lv_iload_n hx hb dX7_counts_65 rfl (lv_at hl 0 rfl) ?_
    refine lv_imul hx hb dX7_counts_66 ?_
    exact ret _ () _ _ _ _ dX7_counts_67 h hP hD hS
  by_cases c27_4 : r24 = (4 : Int32)
  · replace h := h.2.2.2.1 c27_4
    refine lv_tableIn (tgt := 68) hx hb dX7_counts_27 (by rw [c27_4]; decide) (by rw [c27_4]; decide) (by rw [c27_4]; rfl) (by decide) ?_
    refine lv_iconst (v := 2) hx hb dX7_counts_68 (by decide) ?_
    exact ret _ () _ _ _ _ dX7_counts_69 h hP hD hS
  by_cases c27_5 : r24 = (5 : Int32)
  · replace h := h.2.2.2.2.1 c27_5
    refine lv_tableIn (tgt := 70) hx hb dX7_counts_27 (by rw [c27_5]; decide) (by rw [c27_5]; decide) (by rw [c27_5]; rfl) (by decide) ?_
    refine lv_aload_n hx hb dX7_counts_70 rfl (lv_at hl 1 rfl) ?_
    refine va_get (C := RX7) (T := TX7) (N := 28) (own := RX7) (v := .ref (q 0)) hx hb ht inlX7 hown hK hP 0 rfl rfl 0 (Nat.le_of_ble_eq_true rfl) (ht _ mw_5_7) (fun _ h9 => h9) rfl dX7_counts_71 ?_
    refine lv_bipush (v := 9) hx hb dX7_counts_74 (by decide) ?_
    refine lv_aload_n hx hb dX7_counts_76 rfl (lv_at hl 1 rfl) ?_
    refine va_get (C := RX7) (T := TX7) (N := 28) (own := RX7) (v := .ref (q 0)) hx hb ht inlX7 hown hK hP 0 rfl rfl 0 (Nat.le_of_ble_eq_true rfl) (ht _ mw_5_7) (fun _ h9 => h9) rfl dX7_counts_77 ?_
    refine lv_iconst (v := 3) hx hb dX7_counts_80 (by decide) ?_
    refine g_iald (f := (A 0)) (k := 3) hx hb hK hP 1 0 rfl rfl (vp_in_lit rfl : vp_in (3 : Int32) 53) (by decide) dX7_counts_81 ?_
    refine lv_iadd hx hb dX7_counts_82 ?_
    obtain ⟨hi83, h⟩ := h
    refine g_iald (f := (A 0)) (k := (((9 : Int32) + ((A 0) 3))).toNatClampNeg) hx hb hK hP 1 0 rfl rfl hi83 rfl dX7_counts_83 ?_
    refine lv_iconst (v := 3) hx hb dX7_counts_84 (by decide) ?_
    refine lv_icmp_ge (tgt := 92) hx hb dX7_counts_85 (by decide) (fun c85 => ?_) (fun c85 => ?_)
    · replace h := h.1 c85
      refine lv_iconst (v := 1) hx hb dX7_counts_92 (by decide) ?_
      exact ret _ () _ _ _ _ dX7_counts_93 h hP hD hS
    · replace h := h.2 c85
      refine lv_iconst (v := 3) hx hb dX7_counts_88 (by decide) ?_
      refine lv_goto (tgt := 93) hx hb dX7_counts_89 (by decide) ?_
      exact ret _ () _ _ _ _ dX7_counts_93 h hP hD hS
  replace h := h.2.2.2.2.2 c27_1 c27_2 c27_3 c27_4 c27_5
  refine g_tdef (tgt := 94) hx hb dX7_counts_27 ?_ (by decide) ?_
  · exact Or.inl (sw1_5 c27_1 c27_2 c27_3 c27_4 c27_5)
  refine lv_iconst (v := 1) hx hb dX7_counts_94 (by decide) ?_
  exact ret _ () _ _ _ _ dX7_counts_95 h hP hD hS
def p_X7_counts (F : tF) (A : tA) (x1 : Int32) (K : Int32 → Prop) : Prop := (p_X7_its F A x1 (3 : Int32) (fun r9 => ((¬ ((A 0) 3) = r9 → (p_X7_counts_J20 F A K x1 (1 : Int32))) ∧ (((A 0) 3) = r9 → (p_X7_counts_J20 F A K x1 (2 : Int32))))))
set_option maxHeartbeats 4000000 in
set_option maxRecDepth 100000 in
theorem w_X7_counts (l : Launch) (D : va_G) (cI cZ cR : ClassId) (adK adV : Nat → Nat) (sz : Nat) (o : Nat) (q : Nat → Nat) (F : tF) (A : tA) (x1 : Int32) (K : Int32 → Prop) (h : p_X7_counts F A x1 K) : MI l D cI cZ cR adK adV yX7_counts cX7_counts 3 (some .int) (rmN 1 22) [.ref o, .int x1] (wX7 cI cZ o q F A : va_W) sz (fun (r : Int32) (u : Unit) => K r) (fun (u : Unit) => (wX7 cI cZ o q F A : va_W)) := by
  refine M_i (by decide +kernel) (Nat.le_of_ble_eq_true rfl) ?_
  intro p e s m args below meth c Q A9 ls X ret hP hD hS hl
  obtain ⟨hx, hb, hml, ht, hown, hK, hA, hE⟩ := id X
  have hl : lv_has ls 3 [(0, .ref o), (1, .int x1)] := hl
  unfold p_X7_counts at h
  refine lv_aload_n hx hb dX7_counts_0 rfl (lv_at hl 0 rfl) ?_
  refine va_get (C := RX7) (T := TX7) (N := 28) (own := RX7) (v := .ref (q 0)) hx hb ht inlX7 hown hK hP 0 rfl rfl 0 (Nat.le_of_ble_eq_true rfl) (ht _ mw_5_7) (fun _ h9 => h9) rfl dX7_counts_1 ?_
  refine lv_iconst (v := 3) hx hb dX7_counts_4 (by decide) ?_
  refine g_iald (f := (A 0)) (k := 3) hx hb hK hP 1 0 rfl rfl (vp_in_lit rfl : vp_in (3 : Int32) 53) (by decide) dX7_counts_5 ?_
  refine lv_aload_n hx hb dX7_counts_6 rfl (lv_at hl 0 rfl) ?_
  refine lv_iload_n hx hb dX7_counts_7 rfl (lv_at hl 1 rfl) ?_
  refine lv_iconst (v := 3) hx hb dX7_counts_8 (by decide) ?_
  refine C_vi (wr := []) X hP hD hS [.int x1, .int (3 : Int32)] [.int ((A 0) 3)] (w_X7_its l D cI cZ cR adK adV _ o q F A x1 (3 : Int32) _ h) cal_X7_its mw_18_16 rfl [0, 1, 2, 3, 4, 5, 6, 7, 8, 9, 10, 11, 12, 13, 14, 15] [] [0, 1, 2, 3, 4, 5, 6, 7, 8, 9, 10, 11, 12, 13, 14, 15] (fun u => (wX7 cI cZ o q F A : va_W)) rfl rfl (fun _ => rfl) rfl 0 rfl rfl ⟨rfl, rfl⟩ ⟨Nat.le_of_ble_eq_true rfl, Nat.le_of_ble_eq_true rfl⟩ hl.1 rfl (Nat.le_of_ble_eq_true rfl) ⟨Nat.zero_le _, Nat.zero_le _⟩ dX7_counts_9 (fun r9 u H locs h hP hD hS => ?_)
  refine lv_icmp_ne (tgt := 19) hx hb dX7_counts_12 (by decide) (fun c12 => ?_) (fun c12 => ?_)
  · replace h := h.1 c12
    refine lv_iconst (v := 1) hx hb dX7_counts_19 (by decide) ?_
    exact b_X7_counts_J20 F A x1 (1 : Int32) X ret  _ _ _ h hP hD hS (lv_sub hl [0, 1] rfl)
  · replace h := h.2 c12
    refine lv_iconst (v := 2) hx hb dX7_counts_15 (by decide) ?_
    refine lv_goto (tgt := 20) hx hb dX7_counts_16 (by decide) ?_
    exact b_X7_counts_J20 F A x1 (2 : Int32) X ret  _ _ _ h hP hD hS (lv_sub hl [0, 1] rfl)
theorem dX7_tamesOf_0 : decode cX7_tamesOf 0 = .ok (.aload_n 0, 1) := by decide +kernel
theorem dX7_tamesOf_1 : decode cX7_tamesOf 1 = .ok (.iload_n 1, 1) := by decide +kernel
theorem dX7_tamesOf_2 : decode cX7_tamesOf 2 = .ok (.iconst 0, 1) := by decide +kernel
theorem dX7_tamesOf_3 : decode cX7_tamesOf 3 = .ok (.invokevirtual 169, 3) := by decide +kernel
theorem dX7_tamesOf_6 : decode cX7_tamesOf 6 = .ok (.tableswitch 42 1 5 #[34, 36, 38, 36, 40], 34) := by decide +kernel
theorem dX7_tamesOf_40 : decode cX7_tamesOf 40 = .ok (.iconst 2, 1) := by decide +kernel
theorem dX7_tamesOf_41 : decode cX7_tamesOf 41 = .ok (.ireturn, 1) := by decide +kernel
theorem dX7_tamesOf_42 : decode cX7_tamesOf 42 = .ok (.iconst 3, 1) := by decide +kernel
theorem dX7_tamesOf_43 : decode cX7_tamesOf 43 = .ok (.ireturn, 1) := by decide +kernel
theorem dX7_tamesOf_44 : decode cX7_tamesOf 44 = .ok (.iconst (-1), 1) := by decide +kernel
theorem dX7_tamesOf_45 : decode cX7_tamesOf 45 = .ok (.ireturn, 1) := by decide +kernel
theorem dX7_tamesOf_46 : decode cX7_tamesOf 46 = .ok (.iconst 0, 1) := by decide +kernel
theorem dX7_tamesOf_47 : decode cX7_tamesOf 47 = .ok (.ireturn, 1) := by decide +kernel
theorem dX7_tamesOf_48 : decode cX7_tamesOf 48 = .ok (.iconst 1, 1) := by decide +kernel
theorem dX7_tamesOf_49 : decode cX7_tamesOf 49 = .ok (.ireturn, 1) := by decide +kernel
def p_X7_tamesOf (F : tF) (A : tA) (x1 : Int32) (K : Int32 → Prop) : Prop := (p_X7_its F A x1 (0 : Int32) (fun r3 => ((r3 = (1 : Int32) → (K (2 : Int32))) ∧ (r3 = (2 : Int32) → (K (3 : Int32))) ∧ (r3 = (3 : Int32) → (K (-1 : Int32))) ∧ (r3 = (4 : Int32) → (K (3 : Int32))) ∧ (r3 = (5 : Int32) → (K (0 : Int32))) ∧ (¬ r3 = (1 : Int32) → ¬ r3 = (2 : Int32) → ¬ r3 = (3 : Int32) → ¬ r3 = (4 : Int32) → ¬ r3 = (5 : Int32) → (K (1 : Int32))))))
set_option maxHeartbeats 4000000 in
set_option maxRecDepth 100000 in
theorem w_X7_tamesOf (l : Launch) (D : va_G) (cI cZ cR : ClassId) (adK adV : Nat → Nat) (sz : Nat) (o : Nat) (q : Nat → Nat) (F : tF) (A : tA) (x1 : Int32) (K : Int32 → Prop) (h : p_X7_tamesOf F A x1 K) : MI l D cI cZ cR adK adV yX7_tamesOf cX7_tamesOf 2 (some .int) (rmN 1 22) [.ref o, .int x1] (wX7 cI cZ o q F A : va_W) sz (fun (r : Int32) (u : Unit) => K r) (fun (u : Unit) => (wX7 cI cZ o q F A : va_W)) := by
  refine M_i (by decide +kernel) (Nat.le_of_ble_eq_true rfl) ?_
  intro p e s m args below meth c Q A9 ls X ret hP hD hS hl
  obtain ⟨hx, hb, hml, ht, hown, hK, hA, hE⟩ := id X
  have hl : lv_has ls 2 [(0, .ref o), (1, .int x1)] := hl
  unfold p_X7_tamesOf at h
  refine lv_aload_n hx hb dX7_tamesOf_0 rfl (lv_at hl 0 rfl) ?_
  refine lv_iload_n hx hb dX7_tamesOf_1 rfl (lv_at hl 1 rfl) ?_
  refine lv_iconst (v := 0) hx hb dX7_tamesOf_2 (by decide) ?_
  refine C_vi (wr := []) X hP hD hS [.int x1, .int (0 : Int32)] [] (w_X7_its l D cI cZ cR adK adV _ o q F A x1 (0 : Int32) _ h) cal_X7_its mw_18_16 rfl [0, 1, 2, 3, 4, 5, 6, 7, 8, 9, 10, 11, 12, 13, 14, 15] [] [0, 1, 2, 3, 4, 5, 6, 7, 8, 9, 10, 11, 12, 13, 14, 15] (fun u => (wX7 cI cZ o q F A : va_W)) rfl rfl (fun _ => rfl) rfl 0 rfl rfl ⟨rfl, rfl⟩ ⟨Nat.le_of_ble_eq_true rfl, Nat.le_of_ble_eq_true rfl⟩ hl.1 rfl (Nat.le_of_ble_eq_true rfl) ⟨Nat.zero_le _, Nat.zero_le _⟩ dX7_tamesOf_3 (fun r3 u H locs h hP hD hS => ?_)
  by_cases c6_1 : r3 = (1 : Int32)
  · replace h := h.1 c6_1
    refine lv_tableIn (tgt := 40) hx hb dX7_tamesOf_6 (by rw [c6_1]; decide) (by rw [c6_1]; decide) (by rw [c6_1]; rfl) (by decide) ?_
    refine lv_iconst (v := 2) hx hb dX7_tamesOf_40 (by decide) ?_
    exact ret _ () _ _ _ _ dX7_tamesOf_41 h hP hD hS
  by_cases c6_2 : r3 = (2 : Int32)
  · replace h := h.2.1 c6_2
    refine lv_tableIn (tgt := 42) hx hb dX7_tamesOf_6 (by rw [c6_2]; decide) (by rw [c6_2]; decide) (by rw [c6_2]; rfl) (by decide) ?_
    refine lv_iconst (v := 3) hx hb dX7_tamesOf_42 (by decide) ?_
    exact ret _ () _ _ _ _ dX7_tamesOf_43 h hP hD hS
  by_cases c6_3 : r3 = (3 : Int32)
  · replace h := h.2.2.1 c6_3
    refine lv_tableIn (tgt := 44) hx hb dX7_tamesOf_6 (by rw [c6_3]; decide) (by rw [c6_3]; decide) (by rw [c6_3]; rfl) (by decide) ?_
    refine lv_iconst (v := -1) hx hb dX7_tamesOf_44 (by decide) ?_
    exact ret _ () _ _ _ _ dX7_tamesOf_45 h hP hD hS
  by_cases c6_4 : r3 = (4 : Int32)
  · replace h := h.2.2.2.1 c6_4
    refine lv_tableIn (tgt := 42) hx hb dX7_tamesOf_6 (by rw [c6_4]; decide) (by rw [c6_4]; decide) (by rw [c6_4]; rfl) (by decide) ?_
    refine lv_iconst (v := 3) hx hb dX7_tamesOf_42 (by decide) ?_
    exact ret _ () _ _ _ _ dX7_tamesOf_43 h hP hD hS
  by_cases c6_5 : r3 = (5 : Int32)
  · replace h := h.2.2.2.2.1 c6_5
    refine lv_tableIn (tgt := 46) hx hb dX7_tamesOf_6 (by rw [c6_5]; decide) (by rw [c6_5]; decide) (by rw [c6_5]; rfl) (by decide) ?_
    refine lv_iconst (v := 0) hx hb dX7_tamesOf_46 (by decide) ?_
    exact ret _ () _ _ _ _ dX7_tamesOf_47 h hP hD hS
  replace h := h.2.2.2.2.2 c6_1 c6_2 c6_3 c6_4 c6_5
  refine g_tdef (tgt := 48) hx hb dX7_tamesOf_6 ?_ (by decide) ?_
  · exact Or.inl (sw1_5 c6_1 c6_2 c6_3 c6_4 c6_5)
  refine lv_iconst (v := 1) hx hb dX7_tamesOf_48 (by decide) ?_
  exact ret _ () _ _ _ _ dX7_tamesOf_49 h hP hD hS
theorem cal_X7_worthOf : CalV yX7_worthOf cX7_worthOf 5 (some .int) 2 := ⟨mw_19_7, mw_1_5, mw_19_5, mw_19_6, ⟨by decide +kernel, by decide +kernel, by decide +kernel⟩⟩
theorem dX7_voteOf_0 : decode cX7_voteOf 0 = .ok (.iconst 0, 1) := by decide +kernel
theorem dX7_voteOf_1 : decode cX7_voteOf 1 = .ok (.istore_n 2, 1) := by decide +kernel
theorem dX7_voteOf_2 : decode cX7_voteOf 2 = .ok (.iconst 1, 1) := by decide +kernel
theorem dX7_voteOf_3 : decode cX7_voteOf 3 = .ok (.istore_n 3, 1) := by decide +kernel
theorem dX7_voteOf_4 : decode cX7_voteOf 4 = .ok (.iload_n 3, 1) := by decide +kernel
theorem dX7_voteOf_5 : decode cX7_voteOf 5 = .ok (.bipush 6, 2) := by decide +kernel
theorem dX7_voteOf_7 : decode cX7_voteOf 7 = .ok (.if_icmp .ge 30, 3) := by decide +kernel
theorem dX7_voteOf_10 : decode cX7_voteOf 10 = .ok (.aload_n 0, 1) := by decide +kernel
theorem dX7_voteOf_11 : decode cX7_voteOf 11 = .ok (.iload_n 1, 1) := by decide +kernel
theorem dX7_voteOf_12 : decode cX7_voteOf 12 = .ok (.iload_n 3, 1) := by decide +kernel
theorem dX7_voteOf_13 : decode cX7_voteOf 13 = .ok (.invokevirtual 175, 3) := by decide +kernel
theorem dX7_voteOf_16 : decode cX7_voteOf 16 = .ok (.aload_n 0, 1) := by decide +kernel
theorem dX7_voteOf_17 : decode cX7_voteOf 17 = .ok (.iload_n 1, 1) := by decide +kernel
theorem dX7_voteOf_18 : decode cX7_voteOf 18 = .ok (.iload_n 2, 1) := by decide +kernel
theorem dX7_voteOf_19 : decode cX7_voteOf 19 = .ok (.invokevirtual 175, 3) := by decide +kernel
theorem dX7_voteOf_22 : decode cX7_voteOf 22 = .ok (.if_icmp .le 7, 3) := by decide +kernel
theorem dX7_voteOf_25 : decode cX7_voteOf 25 = .ok (.iload_n 3, 1) := by decide +kernel
theorem dX7_voteOf_26 : decode cX7_voteOf 26 = .ok (.goto 4, 3) := by decide +kernel
theorem dX7_voteOf_29 : decode cX7_voteOf 29 = .ok (.iload_n 2, 1) := by decide +kernel
theorem dX7_voteOf_30 : decode cX7_voteOf 30 = .ok (.istore_n 2, 1) := by decide +kernel
theorem dX7_voteOf_31 : decode cX7_voteOf 31 = .ok (.iinc 3 1, 3) := by decide +kernel
theorem dX7_voteOf_34 : decode cX7_voteOf 34 = .ok (.goto (-30), 3) := by decide +kernel
theorem dX7_voteOf_37 : decode cX7_voteOf 37 = .ok (.iload_n 2, 1) := by decide +kernel
theorem dX7_voteOf_38 : decode cX7_voteOf 38 = .ok (.ireturn, 1) := by decide +kernel
def p_X7_voteOf_J30 (F : tF) (A : tA) (B4 : (Int32 → Int32 → Prop)) (K : Int32 → Prop) (x1 : Int32) (x3 : Int32) (s0 : Int32) : Prop := (∀ y31 : Int32, y31 = (x3 + (1 : Int32)) → (B4 s0 y31))
set_option maxHeartbeats 4000000 in
set_option maxRecDepth 100000 in
theorem b_X7_voteOf_J30 {p : Program} {l : Launch} {e : Env} {s : State} {m : MethodId} {args : Array Value} {below : List Frame} {meth : Method} {c : Code} {Q : State → Prop} {D : va_G} {cI cZ cR : ClassId} {adK adV : Nat → Nat} {A9 : Nat → Prop} {o : Nat} {q : Nat → Nat} {K : Int32 → Prop} {B4 : (Int32 → Int32 → Prop)} (F : tF) (A : tA) (x1 : Int32) (x3 : Int32) (s0 : Int32) (X : CX p s m args c yX7_voteOf.cls cX7_voteOf 4 D cI cZ cR adK adV A9) (ret : RTi p l e (rmN 2 46) s m args below meth c Q cX7_voteOf D A9 (fun (r : Int32) (u : Unit) => K r) (fun (u : Unit) => (wX7 cI cZ o q F A : va_W))) (hB4 : ∀ (x2 : Int32) (x3 : Int32) (H : Heap) (locs : List Loc) (ls : Array Slot), B4 x2 x3 → va_P D vwCl (wX7 cI cZ o q F A : va_W) H → va_D A9 (wX7 cI cZ o q F A : va_W) → va_S A9 s.heap H locs → lv_has ls 4 [(0, .ref o), (1, .int x1), (2, .int x2), (3, .int x3)] → W p l e (rmN 2 46) s m args below meth c H locs 0 0 Q (F0 m 4 ls [])) (H : Heap) (locs : List Loc) (ls : Array Slot) (h : p_X7_voteOf_J30 F A B4 K x1 x3 s0) (hP : va_P D vwCl (wX7 cI cZ o q F A : va_W) H) (hD : va_D A9 (wX7 cI cZ o q F A : va_W)) (hS : va_S A9 s.heap H locs) (hl : lv_has ls 4 [(0, .ref o), (1, .int x1), (3, .int x3)]) : W p l e (rmN 2 46) s m args below meth c H locs 0 0 Q (F0 m 30 ls [.int s0]) := by
  obtain ⟨hx, hb, hml, ht, hown, hK, hA, hE⟩ := id X
  unfold p_X7_voteOf_J30 at h
  refine lv_istore_n (lv' := [(2, .int s0), (0, .ref o), (1, .int x1), (3, .int x3)]) hx hb dX7_voteOf_30 rfl hl (by decide) rfl (fun ls hl => ?_)
  obtain ⟨y31, ey31⟩ : ∃ y : Int32, y = (x3 + (1 : Int32)) := ⟨_, rfl⟩
  replace h := h y31 ey31
  refine lv_iinc (v := y31) (lv' := [(3, .int y31), (2, .int s0), (0, .ref o), (1, .int x1)]) hx hb dX7_voteOf_31 hl (k := 3) rfl (by rw [ey31]; rfl) (by decide) rfl (fun ls hl => ?_)
  refine lv_goto (tgt := 4) hx hb dX7_voteOf_34 (by decide) ?_
  exact hB4 s0 y31 _ _ _ h hP hD hS (lv_sub hl [2, 3, 1, 0] rfl)
def p_X7_voteOf_L4 (F : tF) (A : tA) (x1 : Int32) (K : Int32 → Prop) : Nat → Int32 → Int32 → Prop
  | 0, _, _ => False
  | n4 + 1, x2, x3 => (((6 : Int32) ≤ x3 → (K x2)) ∧ (¬ (6 : Int32) ≤ x3 → (p_X7_worthOf F A x1 x3 (fun r13 => (p_X7_worthOf F A x1 x2 (fun r19 => ((r13 ≤ r19 → (p_X7_voteOf_J30 F A (p_X7_voteOf_L4 F A x1 K n4) K x1 x3 x2)) ∧ (¬ r13 ≤ r19 → (p_X7_voteOf_J30 F A (p_X7_voteOf_L4 F A x1 K n4) K x1 x3 x3)))))))))
set_option maxHeartbeats 4000000 in
set_option maxRecDepth 100000 in
theorem b_X7_voteOf_L4 {p : Program} {l : Launch} {e : Env} {s : State} {m : MethodId} {args : Array Value} {below : List Frame} {meth : Method} {c : Code} {Q : State → Prop} {D : va_G} {cI cZ cR : ClassId} {adK adV : Nat → Nat} {A9 : Nat → Prop} {o : Nat} {q : Nat → Nat} {K : Int32 → Prop}  (F : tF) (A : tA) (x1 : Int32) (X : CX p s m args c yX7_voteOf.cls cX7_voteOf 4 D cI cZ cR adK adV A9) (ret : RTi p l e (rmN 2 46) s m args below meth c Q cX7_voteOf D A9 (fun (r : Int32) (u : Unit) => K r) (fun (u : Unit) => (wX7 cI cZ o q F A : va_W)))   : ∀ (n : Nat) (x2 : Int32) (x3 : Int32) (H : Heap) (locs : List Loc) (ls : Array Slot), p_X7_voteOf_L4 F A x1 K n x2 x3 → va_P D vwCl (wX7 cI cZ o q F A : va_W) H → va_D A9 (wX7 cI cZ o q F A : va_W) → va_S A9 s.heap H locs → lv_has ls 4 [(0, .ref o), (1, .int x1), (2, .int x2), (3, .int x3)] → W p l e (rmN 2 46) s m args below meth c H locs 0 0 Q (F0 m 4 ls []) := by
  obtain ⟨hx, hb, hml, ht, hown, hK, hA, hE⟩ := id X
  intro n
  induction n with
  | zero => intro x2 x3 H locs ls h; exact False.elim h
  | succ n4 ih =>
    intro x2 x3 H locs ls h hP hD hS hl
    rw [p_X7_voteOf_L4] at h
    refine lv_iload_n hx hb dX7_voteOf_4 rfl (lv_at hl 3 rfl) ?_
    refine lv_bipush (v := 6) hx hb dX7_voteOf_5 (by decide) ?_
    refine lv_icmp_ge (tgt := 37) hx hb dX7_voteOf_7 (by decide) (fun c7 => ?_) (fun c7 => ?_)
    · replace h := h.1 c7
      refine lv_iload_n hx hb dX7_voteOf_37 rfl (lv_at hl 2 rfl) ?_
      exact ret _ () _ _ _ _ dX7_voteOf_38 h hP hD hS
    · replace h := h.2 c7
      refine lv_aload_n hx hb dX7_voteOf_10 rfl (lv_at hl 0 rfl) ?_
      refine lv_iload_n hx hb dX7_voteOf_11 rfl (lv_at hl 1 rfl) ?_
      refine lv_iload_n hx hb dX7_voteOf_12 rfl (lv_at hl 3 rfl) ?_
      refine C_vi (wr := []) X hP hD hS [.int x1, .int x3] [] (w_X7_worthOf l D cI cZ cR adK adV _ o q F A x1 x3 _ h) cal_X7_worthOf mw_19_4 rfl [0, 1, 2, 3, 4, 5, 6, 7, 8, 9, 10, 11, 12, 13, 14, 15] [] [0, 1, 2, 3, 4, 5, 6, 7, 8, 9, 10, 11, 12, 13, 14, 15] (fun u => (wX7 cI cZ o q F A : va_W)) rfl rfl (fun _ => rfl) rfl 0 rfl rfl ⟨rfl, rfl⟩ ⟨Nat.le_of_ble_eq_true rfl, Nat.le_of_ble_eq_true rfl⟩ hl.1 rfl (Nat.le_of_ble_eq_true rfl) ⟨Nat.zero_le _, Nat.zero_le _⟩ dX7_voteOf_13 (fun r13 u H locs h hP hD hS => ?_)
      refine lv_aload_n hx hb dX7_voteOf_16 rfl (lv_at hl 0 rfl) ?_
      refine lv_iload_n hx hb dX7_voteOf_17 rfl (lv_at hl 1 rfl) ?_
      refine lv_iload_n hx hb dX7_voteOf_18 rfl (lv_at hl 2 rfl) ?_
      refine C_vi (wr := []) X hP hD hS [.int x1, .int x2] [.int r13] (w_X7_worthOf l D cI cZ cR adK adV _ o q F A x1 x2 _ h) cal_X7_worthOf mw_19_4 rfl [0, 1, 2, 3, 4, 5, 6, 7, 8, 9, 10, 11, 12, 13, 14, 15] [] [0, 1, 2, 3, 4, 5, 6, 7, 8, 9, 10, 11, 12, 13, 14, 15] (fun u => (wX7 cI cZ o q F A : va_W)) rfl rfl (fun _ => rfl) rfl 0 rfl rfl ⟨rfl, rfl⟩ ⟨Nat.le_of_ble_eq_true rfl, Nat.le_of_ble_eq_true rfl⟩ hl.1 rfl (Nat.le_of_ble_eq_true rfl) ⟨Nat.zero_le _, Nat.zero_le _⟩ dX7_voteOf_19 (fun r19 u H locs h hP hD hS => ?_)
      refine lv_icmp_le (tgt := 29) hx hb dX7_voteOf_22 (by decide) (fun c22 => ?_) (fun c22 => ?_)
      · replace h := h.1 c22
        refine lv_iload_n hx hb dX7_voteOf_29 rfl (lv_at hl 2 rfl) ?_
        exact b_X7_voteOf_J30 F A x1 x3 x2 X ret ih _ _ _ h hP hD hS (lv_sub hl [0, 1, 3] rfl)
      · replace h := h.2 c22
        refine lv_iload_n hx hb dX7_voteOf_25 rfl (lv_at hl 3 rfl) ?_
        refine lv_goto (tgt := 30) hx hb dX7_voteOf_26 (by decide) ?_
        exact b_X7_voteOf_J30 F A x1 x3 x3 X ret ih _ _ _ h hP hD hS (lv_sub hl [0, 1, 3] rfl)
def p_X7_voteOf (F : tF) (A : tA) (x1 : Int32) (K : Int32 → Prop) : Prop := (∃ n4, p_X7_voteOf_L4 F A x1 K n4 (0 : Int32) (1 : Int32))
set_option maxHeartbeats 4000000 in
set_option maxRecDepth 100000 in
theorem w_X7_voteOf (l : Launch) (D : va_G) (cI cZ cR : ClassId) (adK adV : Nat → Nat) (sz : Nat) (o : Nat) (q : Nat → Nat) (F : tF) (A : tA) (x1 : Int32) (K : Int32 → Prop) (h : p_X7_voteOf F A x1 K) : MI l D cI cZ cR adK adV yX7_voteOf cX7_voteOf 4 (some .int) (rmN 2 46) [.ref o, .int x1] (wX7 cI cZ o q F A : va_W) sz (fun (r : Int32) (u : Unit) => K r) (fun (u : Unit) => (wX7 cI cZ o q F A : va_W)) := by
  refine M_i (by decide +kernel) (Nat.le_of_ble_eq_true rfl) ?_
  intro p e s m args below meth c Q A9 ls X ret hP hD hS hl
  obtain ⟨hx, hb, hml, ht, hown, hK, hA, hE⟩ := id X
  have hl : lv_has ls 4 [(0, .ref o), (1, .int x1)] := hl
  unfold p_X7_voteOf at h
  refine lv_iconst (v := 0) hx hb dX7_voteOf_0 (by decide) ?_
  refine lv_istore_n (lv' := [(2, .int (0 : Int32)), (0, .ref o), (1, .int x1)]) hx hb dX7_voteOf_1 rfl hl (by decide) rfl (fun ls hl => ?_)
  refine lv_iconst (v := 1) hx hb dX7_voteOf_2 (by decide) ?_
  refine lv_istore_n (lv' := [(3, .int (1 : Int32)), (2, .int (0 : Int32)), (0, .ref o), (1, .int x1)]) hx hb dX7_voteOf_3 rfl hl (by decide) rfl (fun ls hl => ?_)
  obtain ⟨n4, h⟩ := h
  exact b_X7_voteOf_L4 F A x1 X ret  n4 (0 : Int32) (1 : Int32) _ _ _ h hP hD hS (lv_sub hl [2, 3, 1, 0] rfl)
theorem cal_X7_isOne : CalV yX7_isOne cX7_isOne 2 (some .boolean) 1 := ⟨mw_18_15, mw_1_5, mw_18_13, mw_18_14, ⟨by decide +kernel, by decide +kernel, by decide +kernel⟩⟩
theorem cal_X7_voteOf : CalV yX7_voteOf cX7_voteOf 4 (some .int) 1 := ⟨mw_19_3, mw_1_5, mw_19_1, mw_19_2, ⟨by decide +kernel, by decide +kernel, by decide +kernel⟩⟩
theorem cal_X7_counts : CalV yX7_counts cX7_counts 3 (some .int) 1 := ⟨mw_18_23, mw_1_5, mw_18_21, mw_18_22, ⟨by decide +kernel, by decide +kernel, by decide +kernel⟩⟩
theorem dX7_of_0 : decode cX7_of 0 = .ok (.aload_n 0, 1) := by decide +kernel
theorem dX7_of_1 : decode cX7_of 1 = .ok (.iload_n 1, 1) := by decide +kernel
theorem dX7_of_2 : decode cX7_of 2 = .ok (.invokevirtual 178, 3) := by decide +kernel
theorem dX7_of_5 : decode cX7_of 5 = .ok (.ifCond .eq 15, 3) := by decide +kernel
theorem dX7_of_8 : decode cX7_of 8 = .ok (.iload_n 2, 1) := by decide +kernel
theorem dX7_of_9 : decode cX7_of 9 = .ok (.i2l, 1) := by decide +kernel
theorem dX7_of_10 : decode cX7_of 10 = .ok (.lconst 0, 1) := by decide +kernel
theorem dX7_of_11 : decode cX7_of 11 = .ok (.ldc2_w 164, 3) := by decide +kernel
theorem dX7_of_14 : decode cX7_of 14 = .ok (.invokestatic 61, 3) := by decide +kernel
theorem dX7_of_17 : decode cX7_of 17 = .ok (.ifCond .ne 5, 3) := by decide +kernel
theorem dX7_of_20 : decode cX7_of 20 = .ok (.iconst (-1), 1) := by decide +kernel
theorem dX7_of_21 : decode cX7_of 21 = .ok (.ireturn, 1) := by decide +kernel
theorem dX7_of_22 : decode cX7_of 22 = .ok (.iload_n 2, 1) := by decide +kernel
theorem dX7_of_23 : decode cX7_of 23 = .ok (.iconst 4, 1) := by decide +kernel
theorem dX7_of_24 : decode cX7_of 24 = .ok (.if_icmp .ge 12, 3) := by decide +kernel
theorem dX7_of_27 : decode cX7_of 27 = .ok (.aload_n 0, 1) := by decide +kernel
theorem dX7_of_28 : decode cX7_of 28 = .ok (.iload_n 1, 1) := by decide +kernel
theorem dX7_of_29 : decode cX7_of 29 = .ok (.iload_n 2, 1) := by decide +kernel
theorem dX7_of_30 : decode cX7_of 30 = .ok (.invokevirtual 169, 3) := by decide +kernel
theorem dX7_of_33 : decode cX7_of 33 = .ok (.goto 21, 3) := by decide +kernel
theorem dX7_of_36 : decode cX7_of 36 = .ok (.iload_n 2, 1) := by decide +kernel
theorem dX7_of_37 : decode cX7_of 37 = .ok (.iconst 4, 1) := by decide +kernel
theorem dX7_of_38 : decode cX7_of 38 = .ok (.if_icmp .ne 11, 3) := by decide +kernel
theorem dX7_of_41 : decode cX7_of 41 = .ok (.aload_n 0, 1) := by decide +kernel
theorem dX7_of_42 : decode cX7_of 42 = .ok (.iload_n 1, 1) := by decide +kernel
theorem dX7_of_43 : decode cX7_of 43 = .ok (.invokevirtual 181, 3) := by decide +kernel
theorem dX7_of_46 : decode cX7_of 46 = .ok (.goto 8, 3) := by decide +kernel
theorem dX7_of_49 : decode cX7_of 49 = .ok (.aload_n 0, 1) := by decide +kernel
theorem dX7_of_50 : decode cX7_of 50 = .ok (.iload_n 1, 1) := by decide +kernel
theorem dX7_of_51 : decode cX7_of 51 = .ok (.invokevirtual 184, 3) := by decide +kernel
theorem dX7_of_54 : decode cX7_of 54 = .ok (.ireturn, 1) := by decide +kernel
def p_X7_of (F : tF) (A : tA) (x1 : Int32) (x2 : Int32) (K : Int32 → Prop) : Prop := (p_X7_isOne F A x1 (fun r2 => ((r2 = 0 → (K (-1 : Int32))) ∧ (¬ r2 = 0 → (p_X7_isIn ((x2).toInt64) (0 : Int64) (5 : Int64) (fun r14 => ((¬ r14 = 0 → (((4 : Int32) ≤ x2 → ((¬ x2 = (4 : Int32) → (p_X7_voteOf F A x1 (fun r51 => (K r51)))) ∧ (x2 = (4 : Int32) → (p_X7_counts F A x1 (fun r43 => (K r43)))))) ∧ (¬ (4 : Int32) ≤ x2 → (p_X7_its F A x1 x2 (fun r30 => (K r30)))))) ∧ (r14 = 0 → (K (-1 : Int32))))))))))
set_option maxHeartbeats 4000000 in
set_option maxRecDepth 100000 in
theorem w_X7_of (l : Launch) (D : va_G) (cI cZ cR : ClassId) (adK adV : Nat → Nat) (sz : Nat) (o : Nat) (q : Nat → Nat) (F : tF) (A : tA) (x1 : Int32) (x2 : Int32) (K : Int32 → Prop) (h : p_X7_of F A x1 x2 K) : MI l D cI cZ cR adK adV yX7_of cX7_of 3 (some .int) (rmN 3 69) [.ref o, .int x1, .int x2] (wX7 cI cZ o q F A : va_W) sz (fun (r : Int32) (u : Unit) => K r) (fun (u : Unit) => (wX7 cI cZ o q F A : va_W)) := by
  refine M_i (by decide +kernel) (Nat.le_of_ble_eq_true rfl) ?_
  intro p e s m args below meth c Q A9 ls X ret hP hD hS hl
  obtain ⟨hx, hb, hml, ht, hown, hK, hA, hE⟩ := id X
  have hl : lv_has ls 3 [(0, .ref o), (1, .int x1), (2, .int x2)] := hl
  unfold p_X7_of at h
  refine lv_aload_n hx hb dX7_of_0 rfl (lv_at hl 0 rfl) ?_
  refine lv_iload_n hx hb dX7_of_1 rfl (lv_at hl 1 rfl) ?_
  refine C_vi (wr := []) X hP hD hS [.int x1] [] (w_X7_isOne l D cI cZ cR adK adV _ o q F A x1 _ h) cal_X7_isOne mw_18_12 rfl [0, 1, 2, 3, 4, 5, 6, 7, 8, 9, 10, 11, 12, 13, 14, 15] [] [0, 1, 2, 3, 4, 5, 6, 7, 8, 9, 10, 11, 12, 13, 14, 15] (fun u => (wX7 cI cZ o q F A : va_W)) rfl rfl (fun _ => rfl) rfl 0 rfl rfl ⟨rfl, rfl⟩ ⟨Nat.le_of_ble_eq_true rfl, Nat.le_of_ble_eq_true rfl⟩ hl.1 rfl (Nat.le_of_ble_eq_true rfl) ⟨Nat.zero_le _, Nat.zero_le _⟩ dX7_of_2 (fun r2 u H locs h hP hD hS => ?_)
  refine lv_if_eq (tgt := 20) hx hb dX7_of_5 (by decide) (fun c5 => ?_) (fun c5 => ?_)
  · replace h := h.1 c5
    refine lv_iconst (v := -1) hx hb dX7_of_20 (by decide) ?_
    exact ret _ () _ _ _ _ dX7_of_21 h hP hD hS
  · replace h := h.2 c5
    refine lv_iload_n hx hb dX7_of_8 rfl (lv_at hl 2 rfl) ?_
    refine lv_i2l (v := (x2).toInt64) hx hb dX7_of_9 rfl ?_
    refine lv_lconst (v := 0) hx hb dX7_of_10 (by decide) ?_
    refine lv_ldc2 (v := 5) hx hb hown (ht _ mw_16_20) dX7_of_11 ?_
    refine C_si (wr := [0, 1, 2, 3, 4, 5, 6, 7, 8, 9, 10, 11, 12, 13, 14, 15].filterMap (fun i => (wX7 cI cZ o q F A : va_W)[i]?)) X hP hD hS [.long (x2).toInt64, .long (0 : Int64), .long (5 : Int64)] [] (w_X7_isIn l D cI cZ cR adK adV _ ((x2).toInt64) (0 : Int64) (5 : Int64) _ h) cal_X7_isIn mw_6_19 rfl [] [0, 1, 2, 3, 4, 5, 6, 7, 8, 9, 10, 11, 12, 13, 14, 15] [0, 1, 2, 3, 4, 5, 6, 7, 8, 9, 10, 11, 12, 13, 14, 15] (fun u => (wX7 cI cZ o q F A : va_W)) rfl rfl (fun _ => rfl) rfl ⟨rfl, rfl⟩ ⟨Nat.le_of_ble_eq_true rfl, Nat.le_of_ble_eq_true rfl⟩ hl.1 rfl (Nat.le_of_ble_eq_true rfl) ⟨Nat.zero_le _, Nat.zero_le _⟩ dX7_of_14 (fun r14 u H locs h hP hD hS => ?_)
    refine lv_if_ne (tgt := 22) hx hb dX7_of_17 (by decide) (fun c17 => ?_) (fun c17 => ?_)
    · replace h := h.1 c17
      refine lv_iload_n hx hb dX7_of_22 rfl (lv_at hl 2 rfl) ?_
      refine lv_iconst (v := 4) hx hb dX7_of_23 (by decide) ?_
      refine lv_icmp_ge (tgt := 36) hx hb dX7_of_24 (by decide) (fun c24 => ?_) (fun c24 => ?_)
      · replace h := h.1 c24
        refine lv_iload_n hx hb dX7_of_36 rfl (lv_at hl 2 rfl) ?_
        refine lv_iconst (v := 4) hx hb dX7_of_37 (by decide) ?_
        refine lv_icmp_ne (tgt := 49) hx hb dX7_of_38 (by decide) (fun c38 => ?_) (fun c38 => ?_)
        · replace h := h.1 c38
          refine lv_aload_n hx hb dX7_of_49 rfl (lv_at hl 0 rfl) ?_
          refine lv_iload_n hx hb dX7_of_50 rfl (lv_at hl 1 rfl) ?_
          refine C_vi (wr := []) X hP hD hS [.int x1] [] (w_X7_voteOf l D cI cZ cR adK adV _ o q F A x1 _ h) cal_X7_voteOf mw_19_0 rfl [0, 1, 2, 3, 4, 5, 6, 7, 8, 9, 10, 11, 12, 13, 14, 15] [] [0, 1, 2, 3, 4, 5, 6, 7, 8, 9, 10, 11, 12, 13, 14, 15] (fun u => (wX7 cI cZ o q F A : va_W)) rfl rfl (fun _ => rfl) rfl 0 rfl rfl ⟨rfl, rfl⟩ ⟨Nat.le_of_ble_eq_true rfl, Nat.le_of_ble_eq_true rfl⟩ hl.1 rfl (Nat.le_of_ble_eq_true rfl) ⟨Nat.zero_le _, Nat.zero_le _⟩ dX7_of_51 (fun r51 u H locs h hP hD hS => ?_)
          exact ret _ () _ _ _ _ dX7_of_54 h hP hD hS
        · replace h := h.2 c38
          refine lv_aload_n hx hb dX7_of_41 rfl (lv_at hl 0 rfl) ?_
          refine lv_iload_n hx hb dX7_of_42 rfl (lv_at hl 1 rfl) ?_
          refine C_vi (wr := []) X hP hD hS [.int x1] [] (w_X7_counts l D cI cZ cR adK adV _ o q F A x1 _ h) cal_X7_counts mw_18_20 rfl [0, 1, 2, 3, 4, 5, 6, 7, 8, 9, 10, 11, 12, 13, 14, 15] [] [0, 1, 2, 3, 4, 5, 6, 7, 8, 9, 10, 11, 12, 13, 14, 15] (fun u => (wX7 cI cZ o q F A : va_W)) rfl rfl (fun _ => rfl) rfl 0 rfl rfl ⟨rfl, rfl⟩ ⟨Nat.le_of_ble_eq_true rfl, Nat.le_of_ble_eq_true rfl⟩ hl.1 rfl (Nat.le_of_ble_eq_true rfl) ⟨Nat.zero_le _, Nat.zero_le _⟩ dX7_of_43 (fun r43 u H locs h hP hD hS => ?_)
          refine lv_goto (tgt := 54) hx hb dX7_of_46 (by decide) ?_
          exact ret _ () _ _ _ _ dX7_of_54 h hP hD hS
      · replace h := h.2 c24
        refine lv_aload_n hx hb dX7_of_27 rfl (lv_at hl 0 rfl) ?_
        refine lv_iload_n hx hb dX7_of_28 rfl (lv_at hl 1 rfl) ?_
        refine lv_iload_n hx hb dX7_of_29 rfl (lv_at hl 2 rfl) ?_
        refine C_vi (wr := []) X hP hD hS [.int x1, .int x2] [] (w_X7_its l D cI cZ cR adK adV _ o q F A x1 x2 _ h) cal_X7_its mw_18_16 rfl [0, 1, 2, 3, 4, 5, 6, 7, 8, 9, 10, 11, 12, 13, 14, 15] [] [0, 1, 2, 3, 4, 5, 6, 7, 8, 9, 10, 11, 12, 13, 14, 15] (fun u => (wX7 cI cZ o q F A : va_W)) rfl rfl (fun _ => rfl) rfl 0 rfl rfl ⟨rfl, rfl⟩ ⟨Nat.le_of_ble_eq_true rfl, Nat.le_of_ble_eq_true rfl⟩ hl.1 rfl (Nat.le_of_ble_eq_true rfl) ⟨Nat.zero_le _, Nat.zero_le _⟩ dX7_of_30 (fun r30 u H locs h hP hD hS => ?_)
        refine lv_goto (tgt := 54) hx hb dX7_of_33 (by decide) ?_
        exact ret _ () _ _ _ _ dX7_of_54 h hP hD hS
    · replace h := h.2 c17
      refine lv_iconst (v := -1) hx hb dX7_of_20 (by decide) ?_
      exact ret _ () _ _ _ _ dX7_of_21 h hP hD hS
theorem dX7_worth_0 : decode cX7_worth 0 = .ok (.aload_n 0, 1) := by decide +kernel
theorem dX7_worth_1 : decode cX7_worth 1 = .ok (.iload_n 1, 1) := by decide +kernel
theorem dX7_worth_2 : decode cX7_worth 2 = .ok (.invokevirtual 178, 3) := by decide +kernel
theorem dX7_worth_5 : decode cX7_worth 5 = .ok (.ifCond .eq 23, 3) := by decide +kernel
theorem dX7_worth_8 : decode cX7_worth 8 = .ok (.iload_n 2, 1) := by decide +kernel
theorem dX7_worth_9 : decode cX7_worth 9 = .ok (.invokestatic 166, 3) := by decide +kernel
theorem dX7_worth_12 : decode cX7_worth 12 = .ok (.ifCond .eq 16, 3) := by decide +kernel
theorem dX7_worth_15 : decode cX7_worth 15 = .ok (.sipush 1000, 3) := by decide +kernel
theorem dX7_worth_18 : decode cX7_worth 18 = .ok (.aload_n 0, 1) := by decide +kernel
theorem dX7_worth_19 : decode cX7_worth 19 = .ok (.iload_n 1, 1) := by decide +kernel
theorem dX7_worth_20 : decode cX7_worth 20 = .ok (.iload_n 2, 1) := by decide +kernel
theorem dX7_worth_21 : decode cX7_worth 21 = .ok (.invokevirtual 175, 3) := by decide +kernel
theorem dX7_worth_24 : decode cX7_worth 24 = .ok (.iadd, 1) := by decide +kernel
theorem dX7_worth_25 : decode cX7_worth 25 = .ok (.goto 4, 3) := by decide +kernel
theorem dX7_worth_28 : decode cX7_worth 28 = .ok (.iconst (-1), 1) := by decide +kernel
theorem dX7_worth_29 : decode cX7_worth 29 = .ok (.ireturn, 1) := by decide +kernel
def p_X7_worth (F : tF) (A : tA) (x1 : Int32) (x2 : Int32) (K : Int32 → Prop) : Prop := (p_X7_isOne F A x1 (fun r2 => ((r2 = 0 → (K (-1 : Int32))) ∧ (¬ r2 = 0 → (p_X7_isPlace x2 (fun r9 => ((r9 = 0 → (K (-1 : Int32))) ∧ (¬ r9 = 0 → (p_X7_worthOf F A x1 x2 (fun r21 => (K ((1000 : Int32) + r21))))))))))))
set_option maxHeartbeats 4000000 in
set_option maxRecDepth 100000 in
theorem w_X7_worth (l : Launch) (D : va_G) (cI cZ cR : ClassId) (adK adV : Nat → Nat) (sz : Nat) (o : Nat) (q : Nat → Nat) (F : tF) (A : tA) (x1 : Int32) (x2 : Int32) (K : Int32 → Prop) (h : p_X7_worth F A x1 x2 K) : MI l D cI cZ cR adK adV yX7_worth cX7_worth 3 (some .int) (rmN 2 46) [.ref o, .int x1, .int x2] (wX7 cI cZ o q F A : va_W) sz (fun (r : Int32) (u : Unit) => K r) (fun (u : Unit) => (wX7 cI cZ o q F A : va_W)) := by
  refine M_i (by decide +kernel) (Nat.le_of_ble_eq_true rfl) ?_
  intro p e s m args below meth c Q A9 ls X ret hP hD hS hl
  obtain ⟨hx, hb, hml, ht, hown, hK, hA, hE⟩ := id X
  have hl : lv_has ls 3 [(0, .ref o), (1, .int x1), (2, .int x2)] := hl
  unfold p_X7_worth at h
  refine lv_aload_n hx hb dX7_worth_0 rfl (lv_at hl 0 rfl) ?_
  refine lv_iload_n hx hb dX7_worth_1 rfl (lv_at hl 1 rfl) ?_
  refine C_vi (wr := []) X hP hD hS [.int x1] [] (w_X7_isOne l D cI cZ cR adK adV _ o q F A x1 _ h) cal_X7_isOne mw_18_12 rfl [0, 1, 2, 3, 4, 5, 6, 7, 8, 9, 10, 11, 12, 13, 14, 15] [] [0, 1, 2, 3, 4, 5, 6, 7, 8, 9, 10, 11, 12, 13, 14, 15] (fun u => (wX7 cI cZ o q F A : va_W)) rfl rfl (fun _ => rfl) rfl 0 rfl rfl ⟨rfl, rfl⟩ ⟨Nat.le_of_ble_eq_true rfl, Nat.le_of_ble_eq_true rfl⟩ hl.1 rfl (Nat.le_of_ble_eq_true rfl) ⟨Nat.zero_le _, Nat.zero_le _⟩ dX7_worth_2 (fun r2 u H locs h hP hD hS => ?_)
  refine lv_if_eq (tgt := 28) hx hb dX7_worth_5 (by decide) (fun c5 => ?_) (fun c5 => ?_)
  · replace h := h.1 c5
    refine lv_iconst (v := -1) hx hb dX7_worth_28 (by decide) ?_
    exact ret _ () _ _ _ _ dX7_worth_29 h hP hD hS
  · replace h := h.2 c5
    refine lv_iload_n hx hb dX7_worth_8 rfl (lv_at hl 2 rfl) ?_
    refine C_si (wr := [0, 1, 2, 3, 4, 5, 6, 7, 8, 9, 10, 11, 12, 13, 14, 15].filterMap (fun i => (wX7 cI cZ o q F A : va_W)[i]?)) X hP hD hS [.int x2] [] (w_X7_isPlace l D cI cZ cR adK adV _ x2 _ h) cal_X7_isPlace mw_16_21 rfl [] [0, 1, 2, 3, 4, 5, 6, 7, 8, 9, 10, 11, 12, 13, 14, 15] [0, 1, 2, 3, 4, 5, 6, 7, 8, 9, 10, 11, 12, 13, 14, 15] (fun u => (wX7 cI cZ o q F A : va_W)) rfl rfl (fun _ => rfl) rfl ⟨rfl, rfl⟩ ⟨Nat.le_of_ble_eq_true rfl, Nat.le_of_ble_eq_true rfl⟩ hl.1 rfl (Nat.le_of_ble_eq_true rfl) ⟨Nat.zero_le _, Nat.zero_le _⟩ dX7_worth_9 (fun r9 u H locs h hP hD hS => ?_)
    refine lv_if_eq (tgt := 28) hx hb dX7_worth_12 (by decide) (fun c12 => ?_) (fun c12 => ?_)
    · replace h := h.1 c12
      refine lv_iconst (v := -1) hx hb dX7_worth_28 (by decide) ?_
      exact ret _ () _ _ _ _ dX7_worth_29 h hP hD hS
    · replace h := h.2 c12
      refine lv_sipush (v := 1000) hx hb dX7_worth_15 (by decide) ?_
      refine lv_aload_n hx hb dX7_worth_18 rfl (lv_at hl 0 rfl) ?_
      refine lv_iload_n hx hb dX7_worth_19 rfl (lv_at hl 1 rfl) ?_
      refine lv_iload_n hx hb dX7_worth_20 rfl (lv_at hl 2 rfl) ?_
      refine C_vi (wr := []) X hP hD hS [.int x1, .int x2] [.int (1000 : Int32)] (w_X7_worthOf l D cI cZ cR adK adV _ o q F A x1 x2 _ h) cal_X7_worthOf mw_19_4 rfl [0, 1, 2, 3, 4, 5, 6, 7, 8, 9, 10, 11, 12, 13, 14, 15] [] [0, 1, 2, 3, 4, 5, 6, 7, 8, 9, 10, 11, 12, 13, 14, 15] (fun u => (wX7 cI cZ o q F A : va_W)) rfl rfl (fun _ => rfl) rfl 0 rfl rfl ⟨rfl, rfl⟩ ⟨Nat.le_of_ble_eq_true rfl, Nat.le_of_ble_eq_true rfl⟩ hl.1 rfl (Nat.le_of_ble_eq_true rfl) ⟨Nat.zero_le _, Nat.zero_le _⟩ dX7_worth_21 (fun r21 u H locs h hP hD hS => ?_)
      refine lv_iadd hx hb dX7_worth_24 ?_
      refine lv_goto (tgt := 29) hx hb dX7_worth_25 (by decide) ?_
      exact ret _ () _ _ _ _ dX7_worth_29 h hP hD hS
theorem cal_X7_tamesOf : CalV yX7_tamesOf cX7_tamesOf 2 (some .int) 1 := ⟨mw_20_11, mw_1_5, mw_20_9, mw_20_10, ⟨by decide +kernel, by decide +kernel, by decide +kernel⟩⟩
theorem dX7_tames_0 : decode cX7_tames 0 = .ok (.aload_n 0, 1) := by decide +kernel
theorem dX7_tames_1 : decode cX7_tames 1 = .ok (.iload_n 1, 1) := by decide +kernel
theorem dX7_tames_2 : decode cX7_tames 2 = .ok (.invokevirtual 178, 3) := by decide +kernel
theorem dX7_tames_5 : decode cX7_tames 5 = .ok (.ifCond .eq 15, 3) := by decide +kernel
theorem dX7_tames_8 : decode cX7_tames 8 = .ok (.sipush 1000, 3) := by decide +kernel
theorem dX7_tames_11 : decode cX7_tames 11 = .ok (.aload_n 0, 1) := by decide +kernel
theorem dX7_tames_12 : decode cX7_tames 12 = .ok (.iload_n 1, 1) := by decide +kernel
theorem dX7_tames_13 : decode cX7_tames 13 = .ok (.invokevirtual 187, 3) := by decide +kernel
theorem dX7_tames_16 : decode cX7_tames 16 = .ok (.iadd, 1) := by decide +kernel
theorem dX7_tames_17 : decode cX7_tames 17 = .ok (.goto 4, 3) := by decide +kernel
theorem dX7_tames_20 : decode cX7_tames 20 = .ok (.iconst (-1), 1) := by decide +kernel
theorem dX7_tames_21 : decode cX7_tames 21 = .ok (.ireturn, 1) := by decide +kernel
def p_X7_tames (F : tF) (A : tA) (x1 : Int32) (K : Int32 → Prop) : Prop := (p_X7_isOne F A x1 (fun r2 => ((r2 = 0 → (K (-1 : Int32))) ∧ (¬ r2 = 0 → (p_X7_tamesOf F A x1 (fun r13 => (K ((1000 : Int32) + r13))))))))
set_option maxHeartbeats 4000000 in
set_option maxRecDepth 100000 in
theorem w_X7_tames (l : Launch) (D : va_G) (cI cZ cR : ClassId) (adK adV : Nat → Nat) (sz : Nat) (o : Nat) (q : Nat → Nat) (F : tF) (A : tA) (x1 : Int32) (K : Int32 → Prop) (h : p_X7_tames F A x1 K) : MI l D cI cZ cR adK adV yX7_tames cX7_tames 2 (some .int) (rmN 2 43) [.ref o, .int x1] (wX7 cI cZ o q F A : va_W) sz (fun (r : Int32) (u : Unit) => K r) (fun (u : Unit) => (wX7 cI cZ o q F A : va_W)) := by
  refine M_i (by decide +kernel) (Nat.le_of_ble_eq_true rfl) ?_
  intro p e s m args below meth c Q A9 ls X ret hP hD hS hl
  obtain ⟨hx, hb, hml, ht, hown, hK, hA, hE⟩ := id X
  have hl : lv_has ls 2 [(0, .ref o), (1, .int x1)] := hl
  unfold p_X7_tames at h
  refine lv_aload_n hx hb dX7_tames_0 rfl (lv_at hl 0 rfl) ?_
  refine lv_iload_n hx hb dX7_tames_1 rfl (lv_at hl 1 rfl) ?_
  refine C_vi (wr := []) X hP hD hS [.int x1] [] (w_X7_isOne l D cI cZ cR adK adV _ o q F A x1 _ h) cal_X7_isOne mw_18_12 rfl [0, 1, 2, 3, 4, 5, 6, 7, 8, 9, 10, 11, 12, 13, 14, 15] [] [0, 1, 2, 3, 4, 5, 6, 7, 8, 9, 10, 11, 12, 13, 14, 15] (fun u => (wX7 cI cZ o q F A : va_W)) rfl rfl (fun _ => rfl) rfl 0 rfl rfl ⟨rfl, rfl⟩ ⟨Nat.le_of_ble_eq_true rfl, Nat.le_of_ble_eq_true rfl⟩ hl.1 rfl (Nat.le_of_ble_eq_true rfl) ⟨Nat.zero_le _, Nat.zero_le _⟩ dX7_tames_2 (fun r2 u H locs h hP hD hS => ?_)
  refine lv_if_eq (tgt := 20) hx hb dX7_tames_5 (by decide) (fun c5 => ?_) (fun c5 => ?_)
  · replace h := h.1 c5
    refine lv_iconst (v := -1) hx hb dX7_tames_20 (by decide) ?_
    exact ret _ () _ _ _ _ dX7_tames_21 h hP hD hS
  · replace h := h.2 c5
    refine lv_sipush (v := 1000) hx hb dX7_tames_8 (by decide) ?_
    refine lv_aload_n hx hb dX7_tames_11 rfl (lv_at hl 0 rfl) ?_
    refine lv_iload_n hx hb dX7_tames_12 rfl (lv_at hl 1 rfl) ?_
    refine C_vi (wr := []) X hP hD hS [.int x1] [.int (1000 : Int32)] (w_X7_tamesOf l D cI cZ cR adK adV _ o q F A x1 _ h) cal_X7_tamesOf mw_20_8 rfl [0, 1, 2, 3, 4, 5, 6, 7, 8, 9, 10, 11, 12, 13, 14, 15] [] [0, 1, 2, 3, 4, 5, 6, 7, 8, 9, 10, 11, 12, 13, 14, 15] (fun u => (wX7 cI cZ o q F A : va_W)) rfl rfl (fun _ => rfl) rfl 0 rfl rfl ⟨rfl, rfl⟩ ⟨Nat.le_of_ble_eq_true rfl, Nat.le_of_ble_eq_true rfl⟩ hl.1 rfl (Nat.le_of_ble_eq_true rfl) ⟨Nat.zero_le _, Nat.zero_le _⟩ dX7_tames_13 (fun r13 u H locs h hP hD hS => ?_)
    refine lv_iadd hx hb dX7_tames_16 ?_
    refine lv_goto (tgt := 21) hx hb dX7_tames_17 (by decide) ?_
    exact ret _ () _ _ _ _ dX7_tames_21 h hP hD hS
theorem dX7_mind_0 : decode cX7_mind 0 = .ok (.aload_n 0, 1) := by decide +kernel
theorem dX7_mind_1 : decode cX7_mind 1 = .ok (.iload_n 1, 1) := by decide +kernel
theorem dX7_mind_2 : decode cX7_mind 2 = .ok (.invokevirtual 178, 3) := by decide +kernel
theorem dX7_mind_5 : decode cX7_mind 5 = .ok (.ifCond .eq 27, 3) := by decide +kernel
theorem dX7_mind_8 : decode cX7_mind 8 = .ok (.iload_n 2, 1) := by decide +kernel
theorem dX7_mind_9 : decode cX7_mind 9 = .ok (.i2l, 1) := by decide +kernel
theorem dX7_mind_10 : decode cX7_mind 10 = .ok (.lconst 0, 1) := by decide +kernel
theorem dX7_mind_11 : decode cX7_mind 11 = .ok (.ldc2_w 164, 3) := by decide +kernel
theorem dX7_mind_14 : decode cX7_mind 14 = .ok (.invokestatic 61, 3) := by decide +kernel
theorem dX7_mind_17 : decode cX7_mind 17 = .ok (.ifCond .eq 15, 3) := by decide +kernel
theorem dX7_mind_20 : decode cX7_mind 20 = .ok (.iload_n 3, 1) := by decide +kernel
theorem dX7_mind_21 : decode cX7_mind 21 = .ok (.i2l, 1) := by decide +kernel
theorem dX7_mind_22 : decode cX7_mind 22 = .ok (.lconst 0, 1) := by decide +kernel
theorem dX7_mind_23 : decode cX7_mind 23 = .ok (.ldc2_w 158, 3) := by decide +kernel
theorem dX7_mind_26 : decode cX7_mind 26 = .ok (.invokestatic 61, 3) := by decide +kernel
theorem dX7_mind_29 : decode cX7_mind 29 = .ok (.ifCond .ne 5, 3) := by decide +kernel
theorem dX7_mind_32 : decode cX7_mind 32 = .ok (.iconst (-1), 1) := by decide +kernel
theorem dX7_mind_33 : decode cX7_mind 33 = .ok (.ireturn, 1) := by decide +kernel
theorem dX7_mind_34 : decode cX7_mind 34 = .ok (.aload_n 0, 1) := by decide +kernel
theorem dX7_mind_35 : decode cX7_mind 35 = .ok (.getfield 7, 3) := by decide +kernel
theorem dX7_mind_38 : decode cX7_mind 38 = .ok (.bipush 21, 2) := by decide +kernel
theorem dX7_mind_40 : decode cX7_mind 40 = .ok (.iconst 4, 1) := by decide +kernel
theorem dX7_mind_41 : decode cX7_mind 41 = .ok (.iload_n 1, 1) := by decide +kernel
theorem dX7_mind_42 : decode cX7_mind 42 = .ok (.imul, 1) := by decide +kernel
theorem dX7_mind_43 : decode cX7_mind 43 = .ok (.iadd, 1) := by decide +kernel
theorem dX7_mind_44 : decode cX7_mind 44 = .ok (.iconst 1, 1) := by decide +kernel
theorem dX7_mind_45 : decode cX7_mind 45 = .ok (.iadd, 1) := by decide +kernel
theorem dX7_mind_46 : decode cX7_mind 46 = .ok (.iload_n 3, 1) := by decide +kernel
theorem dX7_mind_47 : decode cX7_mind 47 = .ok (.iastore, 1) := by decide +kernel
theorem dX7_mind_48 : decode cX7_mind 48 = .ok (.aload_n 0, 1) := by decide +kernel
theorem dX7_mind_49 : decode cX7_mind 49 = .ok (.bipush 21, 2) := by decide +kernel
theorem dX7_mind_51 : decode cX7_mind 51 = .ok (.iconst 4, 1) := by decide +kernel
theorem dX7_mind_52 : decode cX7_mind 52 = .ok (.iload_n 1, 1) := by decide +kernel
theorem dX7_mind_53 : decode cX7_mind 53 = .ok (.imul, 1) := by decide +kernel
theorem dX7_mind_54 : decode cX7_mind 54 = .ok (.iadd, 1) := by decide +kernel
theorem dX7_mind_55 : decode cX7_mind 55 = .ok (.iload_n 2, 1) := by decide +kernel
theorem dX7_mind_56 : decode cX7_mind 56 = .ok (.invokevirtual 160, 3) := by decide +kernel
theorem dX7_mind_59 : decode cX7_mind 59 = .ok (.ireturn, 1) := by decide +kernel
def p_X7_mind (F : tF) (A : tA) (x1 : Int32) (x2 : Int32) (x3 : Int32) (K : Int32 → tF → tA → Prop) : Prop := (p_X7_isOne F A x1 (fun r2 => ((r2 = 0 → (K (-1 : Int32) F A)) ∧ (¬ r2 = 0 → (p_X7_isIn ((x2).toInt64) (0 : Int64) (5 : Int64) (fun r14 => ((r14 = 0 → (K (-1 : Int32) F A)) ∧ (¬ r14 = 0 → (p_X7_isIn ((x3).toInt64) (0 : Int64) (9 : Int64) (fun r26 => ((¬ r26 = 0 → (vp_in (((21 : Int32) + ((4 : Int32) * x1)) + (1 : Int32)) 53 ∧ (∀ f_47 : tF, f_47 = (upd (A 0) ((((21 : Int32) + ((4 : Int32) * x1)) + (1 : Int32))).toNatClampNeg x3) → (p_X7_becomes F (va_up A 0 f_47) ((21 : Int32) + ((4 : Int32) * x1)) x2 (fun r56 F_56 A_56 => (K r56 F_56 A_56)))))) ∧ (r26 = 0 → (K (-1 : Int32) F A)))))))))))))
set_option maxHeartbeats 4000000 in
set_option maxRecDepth 100000 in
theorem w_X7_mind (l : Launch) (D : va_G) (cI cZ cR : ClassId) (adK adV : Nat → Nat) (sz : Nat) (o : Nat) (q : Nat → Nat) (F : tF) (A : tA) (x1 : Int32) (x2 : Int32) (x3 : Int32) (K : Int32 → tF → tA → Prop) (h : p_X7_mind F A x1 x2 x3 K) : MI l D cI cZ cR adK adV yX7_mind cX7_mind 4 (some .int) (rmN 1 25) [.ref o, .int x1, .int x2, .int x3] (wX7 cI cZ o q F A : va_W) sz (fun (r : Int32) (u : (tF × tA)) => K r u.1 u.2) (fun (u : (tF × tA)) => (wX7 cI cZ o q u.1 u.2 : va_W)) := by
  refine M_i (by decide +kernel) (Nat.le_of_ble_eq_true rfl) ?_
  intro p e s m args below meth c Q A9 ls X ret hP hD hS hl
  obtain ⟨hx, hb, hml, ht, hown, hK, hA, hE⟩ := id X
  have hl : lv_has ls 4 [(0, .ref o), (1, .int x1), (2, .int x2), (3, .int x3)] := hl
  unfold p_X7_mind at h
  refine lv_aload_n hx hb dX7_mind_0 rfl (lv_at hl 0 rfl) ?_
  refine lv_iload_n hx hb dX7_mind_1 rfl (lv_at hl 1 rfl) ?_
  refine C_vi (wr := []) X hP hD hS [.int x1] [] (w_X7_isOne l D cI cZ cR adK adV _ o q F A x1 _ h) cal_X7_isOne mw_18_12 rfl [0, 1, 2, 3, 4, 5, 6, 7, 8, 9, 10, 11, 12, 13, 14, 15] [] [0, 1, 2, 3, 4, 5, 6, 7, 8, 9, 10, 11, 12, 13, 14, 15] (fun u => (wX7 cI cZ o q F A : va_W)) rfl rfl (fun _ => rfl) rfl 0 rfl rfl ⟨rfl, rfl⟩ ⟨Nat.le_of_ble_eq_true rfl, Nat.le_of_ble_eq_true rfl⟩ hl.1 rfl (Nat.le_of_ble_eq_true rfl) ⟨Nat.zero_le _, Nat.zero_le _⟩ dX7_mind_2 (fun r2 u H locs h hP hD hS => ?_)
  refine lv_if_eq (tgt := 32) hx hb dX7_mind_5 (by decide) (fun c5 => ?_) (fun c5 => ?_)
  · replace h := h.1 c5
    refine lv_iconst (v := -1) hx hb dX7_mind_32 (by decide) ?_
    exact ret _ (F, A) _ _ _ _ dX7_mind_33 h hP hD hS
  · replace h := h.2 c5
    refine lv_iload_n hx hb dX7_mind_8 rfl (lv_at hl 2 rfl) ?_
    refine lv_i2l (v := (x2).toInt64) hx hb dX7_mind_9 rfl ?_
    refine lv_lconst (v := 0) hx hb dX7_mind_10 (by decide) ?_
    refine lv_ldc2 (v := 5) hx hb hown (ht _ mw_16_20) dX7_mind_11 ?_
    refine C_si (wr := [0, 1, 2, 3, 4, 5, 6, 7, 8, 9, 10, 11, 12, 13, 14, 15].filterMap (fun i => (wX7 cI cZ o q F A : va_W)[i]?)) X hP hD hS [.long (x2).toInt64, .long (0 : Int64), .long (5 : Int64)] [] (w_X7_isIn l D cI cZ cR adK adV _ ((x2).toInt64) (0 : Int64) (5 : Int64) _ h) cal_X7_isIn mw_6_19 rfl [] [0, 1, 2, 3, 4, 5, 6, 7, 8, 9, 10, 11, 12, 13, 14, 15] [0, 1, 2, 3, 4, 5, 6, 7, 8, 9, 10, 11, 12, 13, 14, 15] (fun u => (wX7 cI cZ o q F A : va_W)) rfl rfl (fun _ => rfl) rfl ⟨rfl, rfl⟩ ⟨Nat.le_of_ble_eq_true rfl, Nat.le_of_ble_eq_true rfl⟩ hl.1 rfl (Nat.le_of_ble_eq_true rfl) ⟨Nat.zero_le _, Nat.zero_le _⟩ dX7_mind_14 (fun r14 u H locs h hP hD hS => ?_)
    refine lv_if_eq (tgt := 32) hx hb dX7_mind_17 (by decide) (fun c17 => ?_) (fun c17 => ?_)
    · replace h := h.1 c17
      refine lv_iconst (v := -1) hx hb dX7_mind_32 (by decide) ?_
      exact ret _ (F, A) _ _ _ _ dX7_mind_33 h hP hD hS
    · replace h := h.2 c17
      refine lv_iload_n hx hb dX7_mind_20 rfl (lv_at hl 3 rfl) ?_
      refine lv_i2l (v := (x3).toInt64) hx hb dX7_mind_21 rfl ?_
      refine lv_lconst (v := 0) hx hb dX7_mind_22 (by decide) ?_
      refine lv_ldc2 (v := 9) hx hb hown (ht _ mw_15_19) dX7_mind_23 ?_
      refine C_si (wr := [0, 1, 2, 3, 4, 5, 6, 7, 8, 9, 10, 11, 12, 13, 14, 15].filterMap (fun i => (wX7 cI cZ o q F A : va_W)[i]?)) X hP hD hS [.long (x3).toInt64, .long (0 : Int64), .long (9 : Int64)] [] (w_X7_isIn l D cI cZ cR adK adV _ ((x3).toInt64) (0 : Int64) (9 : Int64) _ h) cal_X7_isIn mw_6_19 rfl [] [0, 1, 2, 3, 4, 5, 6, 7, 8, 9, 10, 11, 12, 13, 14, 15] [0, 1, 2, 3, 4, 5, 6, 7, 8, 9, 10, 11, 12, 13, 14, 15] (fun u => (wX7 cI cZ o q F A : va_W)) rfl rfl (fun _ => rfl) rfl ⟨rfl, rfl⟩ ⟨Nat.le_of_ble_eq_true rfl, Nat.le_of_ble_eq_true rfl⟩ hl.1 rfl (Nat.le_of_ble_eq_true rfl) ⟨Nat.zero_le _, Nat.zero_le _⟩ dX7_mind_26 (fun r26 u H locs h hP hD hS => ?_)
      refine lv_if_ne (tgt := 34) hx hb dX7_mind_29 (by decide) (fun c29 => ?_) (fun c29 => ?_)
      · replace h := h.1 c29
        refine lv_aload_n hx hb dX7_mind_34 rfl (lv_at hl 0 rfl) ?_
        refine va_get (C := RX7) (T := TX7) (N := 28) (own := RX7) (v := .ref (q 0)) hx hb ht inlX7 hown hK hP 0 rfl rfl 0 (Nat.le_of_ble_eq_true rfl) (ht _ mw_5_7) (fun _ h9 => h9) rfl dX7_mind_35 ?_
        refine lv_bipush (v := 21) hx hb dX7_mind_38 (by decide) ?_
        refine lv_iconst (v := 4) hx hb dX7_mind_40 (by decide) ?_
        refine lv_iload_n hx hb dX7_mind_41 rfl (lv_at hl 1 rfl) ?_
        refine lv_imul hx hb dX7_mind_42 ?_
        refine lv_iadd hx hb dX7_mind_43 ?_
        refine lv_iconst (v := 1) hx hb dX7_mind_44 (by decide) ?_
        refine lv_iadd hx hb dX7_mind_45 ?_
        refine lv_iload_n hx hb dX7_mind_46 rfl (lv_at hl 3 rfl) ?_
        obtain ⟨hi47, h⟩ := h
        obtain ⟨f_47, ef_47⟩ : ∃ z : tF, z = (upd (A 0) ((((21 : Int32) + ((4 : Int32) * x1)) + (1 : Int32))).toNatClampNeg x3) := ⟨_, rfl⟩
        replace h := h f_47 ef_47
        refine g_iast (f := (A 0)) (k := ((((21 : Int32) + ((4 : Int32) * x1)) + (1 : Int32))).toNatClampNeg) hx hb hK hP hD hS 1 0 rfl rfl hi47 rfl ef_47 dX7_mind_47 (fun H locs hP hD hS => ?_)
        have hP : va_P D vwCl (wX7 cI cZ o q F (va_up A 0 f_47) : va_W) H := hP
        have hD : va_D A9 (wX7 cI cZ o q F (va_up A 0 f_47) : va_W) := hD
        refine lv_aload_n hx hb dX7_mind_48 rfl (lv_at hl 0 rfl) ?_
        refine lv_bipush (v := 21) hx hb dX7_mind_49 (by decide) ?_
        refine lv_iconst (v := 4) hx hb dX7_mind_51 (by decide) ?_
        refine lv_iload_n hx hb dX7_mind_52 rfl (lv_at hl 1 rfl) ?_
        refine lv_imul hx hb dX7_mind_53 ?_
        refine lv_iadd hx hb dX7_mind_54 ?_
        refine lv_iload_n hx hb dX7_mind_55 rfl (lv_at hl 2 rfl) ?_
        refine C_vi (wr := []) X hP hD hS [.int ((21 : Int32) + ((4 : Int32) * x1)), .int x2] [] (w_X7_becomes l D cI cZ cR adK adV _ o q F (va_up A 0 f_47) ((21 : Int32) + ((4 : Int32) * x1)) x2 _ h) cal_X7_becomes mw_15_20 rfl [0, 1, 2, 3, 4, 5, 6, 7, 8, 9, 10, 11, 12, 13, 14, 15] [] [0, 1, 2, 3, 4, 5, 6, 7, 8, 9, 10, 11, 12, 13, 14, 15] (fun u => (wX7 cI cZ o q u.1 u.2 : va_W)) rfl rfl (fun _ => rfl) rfl 0 rfl rfl ⟨rfl, rfl⟩ ⟨Nat.le_of_ble_eq_true rfl, Nat.le_of_ble_eq_true rfl⟩ hl.1 rfl (Nat.le_of_ble_eq_true rfl) ⟨Nat.zero_le _, Nat.zero_le _⟩ dX7_mind_56 (fun r56 u H locs h hP hD hS => ?_)
        obtain ⟨F_56, A_56⟩ := u
        try dsimp only at h
        have hP : va_P D vwCl (wX7 cI cZ o q F_56 A_56 : va_W) H := hP
        have hD : va_D A9 (wX7 cI cZ o q F_56 A_56 : va_W) := hD
        exact ret _ (F_56, A_56) _ _ _ _ dX7_mind_59 h hP hD hS
      · replace h := h.2 c29
        refine lv_iconst (v := -1) hx hb dX7_mind_32 (by decide) ?_
        exact ret _ (F, A) _ _ _ _ dX7_mind_33 h hP hD hS
theorem dX7_fear_0 : decode cX7_fear 0 = .ok (.aload_n 0, 1) := by decide +kernel
theorem dX7_fear_1 : decode cX7_fear 1 = .ok (.iload_n 1, 1) := by decide +kernel
theorem dX7_fear_2 : decode cX7_fear 2 = .ok (.invokevirtual 178, 3) := by decide +kernel
theorem dX7_fear_5 : decode cX7_fear 5 = .ok (.ifCond .eq 31, 3) := by decide +kernel
theorem dX7_fear_8 : decode cX7_fear 8 = .ok (.iload_n 2, 1) := by decide +kernel
theorem dX7_fear_9 : decode cX7_fear 9 = .ok (.i2l, 1) := by decide +kernel
theorem dX7_fear_10 : decode cX7_fear 10 = .ok (.lconst 0, 1) := by decide +kernel
theorem dX7_fear_11 : decode cX7_fear 11 = .ok (.ldc2_w 158, 3) := by decide +kernel
theorem dX7_fear_14 : decode cX7_fear 14 = .ok (.invokestatic 61, 3) := by decide +kernel
theorem dX7_fear_17 : decode cX7_fear 17 = .ok (.ifCond .eq 19, 3) := by decide +kernel
theorem dX7_fear_20 : decode cX7_fear 20 = .ok (.aload_n 0, 1) := by decide +kernel
theorem dX7_fear_21 : decode cX7_fear 21 = .ok (.bipush 21, 2) := by decide +kernel
theorem dX7_fear_23 : decode cX7_fear 23 = .ok (.iconst 4, 1) := by decide +kernel
theorem dX7_fear_24 : decode cX7_fear 24 = .ok (.iload_n 1, 1) := by decide +kernel
theorem dX7_fear_25 : decode cX7_fear 25 = .ok (.imul, 1) := by decide +kernel
theorem dX7_fear_26 : decode cX7_fear 26 = .ok (.iadd, 1) := by decide +kernel
theorem dX7_fear_27 : decode cX7_fear 27 = .ok (.iconst 2, 1) := by decide +kernel
theorem dX7_fear_28 : decode cX7_fear 28 = .ok (.iadd, 1) := by decide +kernel
theorem dX7_fear_29 : decode cX7_fear 29 = .ok (.iload_n 2, 1) := by decide +kernel
theorem dX7_fear_30 : decode cX7_fear 30 = .ok (.invokevirtual 160, 3) := by decide +kernel
theorem dX7_fear_33 : decode cX7_fear 33 = .ok (.goto 4, 3) := by decide +kernel
theorem dX7_fear_36 : decode cX7_fear 36 = .ok (.iconst (-1), 1) := by decide +kernel
theorem dX7_fear_37 : decode cX7_fear 37 = .ok (.ireturn, 1) := by decide +kernel
def p_X7_fear (F : tF) (A : tA) (x1 : Int32) (x2 : Int32) (K : Int32 → tF → tA → Prop) : Prop := (p_X7_isOne F A x1 (fun r2 => ((r2 = 0 → (K (-1 : Int32) F A)) ∧ (¬ r2 = 0 → (p_X7_isIn ((x2).toInt64) (0 : Int64) (9 : Int64) (fun r14 => ((r14 = 0 → (K (-1 : Int32) F A)) ∧ (¬ r14 = 0 → (p_X7_becomes F A (((21 : Int32) + ((4 : Int32) * x1)) + (2 : Int32)) x2 (fun r30 F_30 A_30 => (K r30 F_30 A_30)))))))))))
set_option maxHeartbeats 4000000 in
set_option maxRecDepth 100000 in
theorem w_X7_fear (l : Launch) (D : va_G) (cI cZ cR : ClassId) (adK adV : Nat → Nat) (sz : Nat) (o : Nat) (q : Nat → Nat) (F : tF) (A : tA) (x1 : Int32) (x2 : Int32) (K : Int32 → tF → tA → Prop) (h : p_X7_fear F A x1 x2 K) : MI l D cI cZ cR adK adV yX7_fear cX7_fear 3 (some .int) (rmN 1 25) [.ref o, .int x1, .int x2] (wX7 cI cZ o q F A : va_W) sz (fun (r : Int32) (u : (tF × tA)) => K r u.1 u.2) (fun (u : (tF × tA)) => (wX7 cI cZ o q u.1 u.2 : va_W)) := by
  refine M_i (by decide +kernel) (Nat.le_of_ble_eq_true rfl) ?_
  intro p e s m args below meth c Q A9 ls X ret hP hD hS hl
  obtain ⟨hx, hb, hml, ht, hown, hK, hA, hE⟩ := id X
  have hl : lv_has ls 3 [(0, .ref o), (1, .int x1), (2, .int x2)] := hl
  unfold p_X7_fear at h
  refine lv_aload_n hx hb dX7_fear_0 rfl (lv_at hl 0 rfl) ?_
  refine lv_iload_n hx hb dX7_fear_1 rfl (lv_at hl 1 rfl) ?_
  refine C_vi (wr := []) X hP hD hS [.int x1] [] (w_X7_isOne l D cI cZ cR adK adV _ o q F A x1 _ h) cal_X7_isOne mw_18_12 rfl [0, 1, 2, 3, 4, 5, 6, 7, 8, 9, 10, 11, 12, 13, 14, 15] [] [0, 1, 2, 3, 4, 5, 6, 7, 8, 9, 10, 11, 12, 13, 14, 15] (fun u => (wX7 cI cZ o q F A : va_W)) rfl rfl (fun _ => rfl) rfl 0 rfl rfl ⟨rfl, rfl⟩ ⟨Nat.le_of_ble_eq_true rfl, Nat.le_of_ble_eq_true rfl⟩ hl.1 rfl (Nat.le_of_ble_eq_true rfl) ⟨Nat.zero_le _, Nat.zero_le _⟩ dX7_fear_2 (fun r2 u H locs h hP hD hS => ?_)
  refine lv_if_eq (tgt := 36) hx hb dX7_fear_5 (by decide) (fun c5 => ?_) (fun c5 => ?_)
  · replace h := h.1 c5
    refine lv_iconst (v := -1) hx hb dX7_fear_36 (by decide) ?_
    exact ret _ (F, A) _ _ _ _ dX7_fear_37 h hP hD hS
  · replace h := h.2 c5
    refine lv_iload_n hx hb dX7_fear_8 rfl (lv_at hl 2 rfl) ?_
    refine lv_i2l (v := (x2).toInt64) hx hb dX7_fear_9 rfl ?_
    refine lv_lconst (v := 0) hx hb dX7_fear_10 (by decide) ?_
    refine lv_ldc2 (v := 9) hx hb hown (ht _ mw_15_19) dX7_fear_11 ?_
    refine C_si (wr := [0, 1, 2, 3, 4, 5, 6, 7, 8, 9, 10, 11, 12, 13, 14, 15].filterMap (fun i => (wX7 cI cZ o q F A : va_W)[i]?)) X hP hD hS [.long (x2).toInt64, .long (0 : Int64), .long (9 : Int64)] [] (w_X7_isIn l D cI cZ cR adK adV _ ((x2).toInt64) (0 : Int64) (9 : Int64) _ h) cal_X7_isIn mw_6_19 rfl [] [0, 1, 2, 3, 4, 5, 6, 7, 8, 9, 10, 11, 12, 13, 14, 15] [0, 1, 2, 3, 4, 5, 6, 7, 8, 9, 10, 11, 12, 13, 14, 15] (fun u => (wX7 cI cZ o q F A : va_W)) rfl rfl (fun _ => rfl) rfl ⟨rfl, rfl⟩ ⟨Nat.le_of_ble_eq_true rfl, Nat.le_of_ble_eq_true rfl⟩ hl.1 rfl (Nat.le_of_ble_eq_true rfl) ⟨Nat.zero_le _, Nat.zero_le _⟩ dX7_fear_14 (fun r14 u H locs h hP hD hS => ?_)
    refine lv_if_eq (tgt := 36) hx hb dX7_fear_17 (by decide) (fun c17 => ?_) (fun c17 => ?_)
    · replace h := h.1 c17
      refine lv_iconst (v := -1) hx hb dX7_fear_36 (by decide) ?_
      exact ret _ (F, A) _ _ _ _ dX7_fear_37 h hP hD hS
    · replace h := h.2 c17
      refine lv_aload_n hx hb dX7_fear_20 rfl (lv_at hl 0 rfl) ?_
      refine lv_bipush (v := 21) hx hb dX7_fear_21 (by decide) ?_
      refine lv_iconst (v := 4) hx hb dX7_fear_23 (by decide) ?_
      refine lv_iload_n hx hb dX7_fear_24 rfl (lv_at hl 1 rfl) ?_
      refine lv_imul hx hb dX7_fear_25 ?_
      refine lv_iadd hx hb dX7_fear_26 ?_
      refine lv_iconst (v := 2) hx hb dX7_fear_27 (by decide) ?_
      refine lv_iadd hx hb dX7_fear_28 ?_
      refine lv_iload_n hx hb dX7_fear_29 rfl (lv_at hl 2 rfl) ?_
      refine C_vi (wr := []) X hP hD hS [.int (((21 : Int32) + ((4 : Int32) * x1)) + (2 : Int32)), .int x2] [] (w_X7_becomes l D cI cZ cR adK adV _ o q F A (((21 : Int32) + ((4 : Int32) * x1)) + (2 : Int32)) x2 _ h) cal_X7_becomes mw_15_20 rfl [0, 1, 2, 3, 4, 5, 6, 7, 8, 9, 10, 11, 12, 13, 14, 15] [] [0, 1, 2, 3, 4, 5, 6, 7, 8, 9, 10, 11, 12, 13, 14, 15] (fun u => (wX7 cI cZ o q u.1 u.2 : va_W)) rfl rfl (fun _ => rfl) rfl 0 rfl rfl ⟨rfl, rfl⟩ ⟨Nat.le_of_ble_eq_true rfl, Nat.le_of_ble_eq_true rfl⟩ hl.1 rfl (Nat.le_of_ble_eq_true rfl) ⟨Nat.zero_le _, Nat.zero_le _⟩ dX7_fear_30 (fun r30 u H locs h hP hD hS => ?_)
      obtain ⟨F_30, A_30⟩ := u
      try dsimp only at h
      have hP : va_P D vwCl (wX7 cI cZ o q F_30 A_30 : va_W) H := hP
      have hD : va_D A9 (wX7 cI cZ o q F_30 A_30 : va_W) := hD
      refine lv_goto (tgt := 37) hx hb dX7_fear_33 (by decide) ?_
      exact ret _ (F_30, A_30) _ _ _ _ dX7_fear_37 h hP hD hS
theorem dX7_look_0 : decode cX7_look 0 = .ok (.aload_n 0, 1) := by decide +kernel
theorem dX7_look_1 : decode cX7_look 1 = .ok (.iload_n 1, 1) := by decide +kernel
theorem dX7_look_2 : decode cX7_look 2 = .ok (.invokevirtual 178, 3) := by decide +kernel
theorem dX7_look_5 : decode cX7_look 5 = .ok (.ifCond .eq 26, 3) := by decide +kernel
theorem dX7_look_8 : decode cX7_look 8 = .ok (.iload_n 2, 1) := by decide +kernel
theorem dX7_look_9 : decode cX7_look 9 = .ok (.invokestatic 166, 3) := by decide +kernel
theorem dX7_look_12 : decode cX7_look 12 = .ok (.ifCond .eq 19, 3) := by decide +kernel
theorem dX7_look_15 : decode cX7_look 15 = .ok (.aload_n 0, 1) := by decide +kernel
theorem dX7_look_16 : decode cX7_look 16 = .ok (.bipush 21, 2) := by decide +kernel
theorem dX7_look_18 : decode cX7_look 18 = .ok (.iconst 4, 1) := by decide +kernel
theorem dX7_look_19 : decode cX7_look 19 = .ok (.iload_n 1, 1) := by decide +kernel
theorem dX7_look_20 : decode cX7_look 20 = .ok (.imul, 1) := by decide +kernel
theorem dX7_look_21 : decode cX7_look 21 = .ok (.iadd, 1) := by decide +kernel
theorem dX7_look_22 : decode cX7_look 22 = .ok (.iconst 3, 1) := by decide +kernel
theorem dX7_look_23 : decode cX7_look 23 = .ok (.iadd, 1) := by decide +kernel
theorem dX7_look_24 : decode cX7_look 24 = .ok (.iload_n 2, 1) := by decide +kernel
theorem dX7_look_25 : decode cX7_look 25 = .ok (.invokevirtual 160, 3) := by decide +kernel
theorem dX7_look_28 : decode cX7_look 28 = .ok (.goto 4, 3) := by decide +kernel
theorem dX7_look_31 : decode cX7_look 31 = .ok (.iconst (-1), 1) := by decide +kernel
theorem dX7_look_32 : decode cX7_look 32 = .ok (.ireturn, 1) := by decide +kernel
def p_X7_look (F : tF) (A : tA) (x1 : Int32) (x2 : Int32) (K : Int32 → tF → tA → Prop) : Prop := (p_X7_isOne F A x1 (fun r2 => ((r2 = 0 → (K (-1 : Int32) F A)) ∧ (¬ r2 = 0 → (p_X7_isPlace x2 (fun r9 => ((r9 = 0 → (K (-1 : Int32) F A)) ∧ (¬ r9 = 0 → (p_X7_becomes F A (((21 : Int32) + ((4 : Int32) * x1)) + (3 : Int32)) x2 (fun r25 F_25 A_25 => (K r25 F_25 A_25)))))))))))
set_option maxHeartbeats 4000000 in
set_option maxRecDepth 100000 in
theorem w_X7_look (l : Launch) (D : va_G) (cI cZ cR : ClassId) (adK adV : Nat → Nat) (sz : Nat) (o : Nat) (q : Nat → Nat) (F : tF) (A : tA) (x1 : Int32) (x2 : Int32) (K : Int32 → tF → tA → Prop) (h : p_X7_look F A x1 x2 K) : MI l D cI cZ cR adK adV yX7_look cX7_look 3 (some .int) (rmN 1 23) [.ref o, .int x1, .int x2] (wX7 cI cZ o q F A : va_W) sz (fun (r : Int32) (u : (tF × tA)) => K r u.1 u.2) (fun (u : (tF × tA)) => (wX7 cI cZ o q u.1 u.2 : va_W)) := by
  refine M_i (by decide +kernel) (Nat.le_of_ble_eq_true rfl) ?_
  intro p e s m args below meth c Q A9 ls X ret hP hD hS hl
  obtain ⟨hx, hb, hml, ht, hown, hK, hA, hE⟩ := id X
  have hl : lv_has ls 3 [(0, .ref o), (1, .int x1), (2, .int x2)] := hl
  unfold p_X7_look at h
  refine lv_aload_n hx hb dX7_look_0 rfl (lv_at hl 0 rfl) ?_
  refine lv_iload_n hx hb dX7_look_1 rfl (lv_at hl 1 rfl) ?_
  refine C_vi (wr := []) X hP hD hS [.int x1] [] (w_X7_isOne l D cI cZ cR adK adV _ o q F A x1 _ h) cal_X7_isOne mw_18_12 rfl [0, 1, 2, 3, 4, 5, 6, 7, 8, 9, 10, 11, 12, 13, 14, 15] [] [0, 1, 2, 3, 4, 5, 6, 7, 8, 9, 10, 11, 12, 13, 14, 15] (fun u => (wX7 cI cZ o q F A : va_W)) rfl rfl (fun _ => rfl) rfl 0 rfl rfl ⟨rfl, rfl⟩ ⟨Nat.le_of_ble_eq_true rfl, Nat.le_of_ble_eq_true rfl⟩ hl.1 rfl (Nat.le_of_ble_eq_true rfl) ⟨Nat.zero_le _, Nat.zero_le _⟩ dX7_look_2 (fun r2 u H locs h hP hD hS => ?_)
  refine lv_if_eq (tgt := 31) hx hb dX7_look_5 (by decide) (fun c5 => ?_) (fun c5 => ?_)
  · replace h := h.1 c5
    refine lv_iconst (v := -1) hx hb dX7_look_31 (by decide) ?_
    exact ret _ (F, A) _ _ _ _ dX7_look_32 h hP hD hS
  · replace h := h.2 c5
    refine lv_iload_n hx hb dX7_look_8 rfl (lv_at hl 2 rfl) ?_
    refine C_si (wr := [0, 1, 2, 3, 4, 5, 6, 7, 8, 9, 10, 11, 12, 13, 14, 15].filterMap (fun i => (wX7 cI cZ o q F A : va_W)[i]?)) X hP hD hS [.int x2] [] (w_X7_isPlace l D cI cZ cR adK adV _ x2 _ h) cal_X7_isPlace mw_16_21 rfl [] [0, 1, 2, 3, 4, 5, 6, 7, 8, 9, 10, 11, 12, 13, 14, 15] [0, 1, 2, 3, 4, 5, 6, 7, 8, 9, 10, 11, 12, 13, 14, 15] (fun u => (wX7 cI cZ o q F A : va_W)) rfl rfl (fun _ => rfl) rfl ⟨rfl, rfl⟩ ⟨Nat.le_of_ble_eq_true rfl, Nat.le_of_ble_eq_true rfl⟩ hl.1 rfl (Nat.le_of_ble_eq_true rfl) ⟨Nat.zero_le _, Nat.zero_le _⟩ dX7_look_9 (fun r9 u H locs h hP hD hS => ?_)
    refine lv_if_eq (tgt := 31) hx hb dX7_look_12 (by decide) (fun c12 => ?_) (fun c12 => ?_)
    · replace h := h.1 c12
      refine lv_iconst (v := -1) hx hb dX7_look_31 (by decide) ?_
      exact ret _ (F, A) _ _ _ _ dX7_look_32 h hP hD hS
    · replace h := h.2 c12
      refine lv_aload_n hx hb dX7_look_15 rfl (lv_at hl 0 rfl) ?_
      refine lv_bipush (v := 21) hx hb dX7_look_16 (by decide) ?_
      refine lv_iconst (v := 4) hx hb dX7_look_18 (by decide) ?_
      refine lv_iload_n hx hb dX7_look_19 rfl (lv_at hl 1 rfl) ?_
      refine lv_imul hx hb dX7_look_20 ?_
      refine lv_iadd hx hb dX7_look_21 ?_
      refine lv_iconst (v := 3) hx hb dX7_look_22 (by decide) ?_
      refine lv_iadd hx hb dX7_look_23 ?_
      refine lv_iload_n hx hb dX7_look_24 rfl (lv_at hl 2 rfl) ?_
      refine C_vi (wr := []) X hP hD hS [.int (((21 : Int32) + ((4 : Int32) * x1)) + (3 : Int32)), .int x2] [] (w_X7_becomes l D cI cZ cR adK adV _ o q F A (((21 : Int32) + ((4 : Int32) * x1)) + (3 : Int32)) x2 _ h) cal_X7_becomes mw_15_20 rfl [0, 1, 2, 3, 4, 5, 6, 7, 8, 9, 10, 11, 12, 13, 14, 15] [] [0, 1, 2, 3, 4, 5, 6, 7, 8, 9, 10, 11, 12, 13, 14, 15] (fun u => (wX7 cI cZ o q u.1 u.2 : va_W)) rfl rfl (fun _ => rfl) rfl 0 rfl rfl ⟨rfl, rfl⟩ ⟨Nat.le_of_ble_eq_true rfl, Nat.le_of_ble_eq_true rfl⟩ hl.1 rfl (Nat.le_of_ble_eq_true rfl) ⟨Nat.zero_le _, Nat.zero_le _⟩ dX7_look_25 (fun r25 u H locs h hP hD hS => ?_)
      obtain ⟨F_25, A_25⟩ := u
      try dsimp only at h
      have hP : va_P D vwCl (wX7 cI cZ o q F_25 A_25 : va_W) H := hP
      have hD : va_D A9 (wX7 cI cZ o q F_25 A_25 : va_W) := hD
      refine lv_goto (tgt := 32) hx hb dX7_look_28 (by decide) ?_
      exact ret _ (F_25, A_25) _ _ _ _ dX7_look_32 h hP hD hS
theorem dX7_polls_0 : decode cX7_polls 0 = .ok (.iconst 0, 1) := by decide +kernel
theorem dX7_polls_1 : decode cX7_polls 1 = .ok (.istore 4, 2) := by decide +kernel
theorem dX7_polls_3 : decode cX7_polls 3 = .ok (.iload 4, 2) := by decide +kernel
theorem dX7_polls_5 : decode cX7_polls 5 = .ok (.bipush 6, 2) := by decide +kernel
theorem dX7_polls_7 : decode cX7_polls 7 = .ok (.if_icmp .ge 40, 3) := by decide +kernel
theorem dX7_polls_10 : decode cX7_polls 10 = .ok (.aload_n 0, 1) := by decide +kernel
theorem dX7_polls_11 : decode cX7_polls 11 = .ok (.getfield 25, 3) := by decide +kernel
theorem dX7_polls_14 : decode cX7_polls 14 = .ok (.iload 4, 2) := by decide +kernel
theorem dX7_polls_16 : decode cX7_polls 16 = .ok (.aload_n 0, 1) := by decide +kernel
theorem dX7_polls_17 : decode cX7_polls 17 = .ok (.getfield 7, 3) := by decide +kernel
theorem dX7_polls_20 : decode cX7_polls 20 = .ok (.iconst 4, 1) := by decide +kernel
theorem dX7_polls_21 : decode cX7_polls 21 = .ok (.iaload, 1) := by decide +kernel
theorem dX7_polls_22 : decode cX7_polls 22 = .ok (.iconst 1, 1) := by decide +kernel
theorem dX7_polls_23 : decode cX7_polls 23 = .ok (.iload 4, 2) := by decide +kernel
theorem dX7_polls_25 : decode cX7_polls 25 = .ok (.iadd, 1) := by decide +kernel
theorem dX7_polls_26 : decode cX7_polls 26 = .ok (.if_icmp .ne 13, 3) := by decide +kernel
theorem dX7_polls_29 : decode cX7_polls 29 = .ok (.aload_n 0, 1) := by decide +kernel
theorem dX7_polls_30 : decode cX7_polls 30 = .ok (.getfield 7, 3) := by decide +kernel
theorem dX7_polls_33 : decode cX7_polls 33 = .ok (.bipush 6, 2) := by decide +kernel
theorem dX7_polls_35 : decode cX7_polls 35 = .ok (.iaload, 1) := by decide +kernel
theorem dX7_polls_36 : decode cX7_polls 36 = .ok (.goto 4, 3) := by decide +kernel
theorem dX7_polls_39 : decode cX7_polls 39 = .ok (.iconst 0, 1) := by decide +kernel
theorem dX7_polls_40 : decode cX7_polls 40 = .ok (.iastore, 1) := by decide +kernel
theorem dX7_polls_41 : decode cX7_polls 41 = .ok (.iinc 4 1, 3) := by decide +kernel
theorem dX7_polls_44 : decode cX7_polls 44 = .ok (.goto (-41), 3) := by decide +kernel
theorem dX7_polls_47 : decode cX7_polls 47 = .ok (.iconst 0, 1) := by decide +kernel
theorem dX7_polls_48 : decode cX7_polls 48 = .ok (.istore 4, 2) := by decide +kernel
theorem dX7_polls_50 : decode cX7_polls 50 = .ok (.iload 4, 2) := by decide +kernel
theorem dX7_polls_52 : decode cX7_polls 52 = .ok (.aload_n 0, 1) := by decide +kernel
theorem dX7_polls_53 : decode cX7_polls 53 = .ok (.getfield 7, 3) := by decide +kernel
theorem dX7_polls_56 : decode cX7_polls 56 = .ok (.iconst 0, 1) := by decide +kernel
theorem dX7_polls_57 : decode cX7_polls 57 = .ok (.iaload, 1) := by decide +kernel
theorem dX7_polls_58 : decode cX7_polls 58 = .ok (.if_icmp .ge 53, 3) := by decide +kernel
theorem dX7_polls_61 : decode cX7_polls 61 = .ok (.aload_n 0, 1) := by decide +kernel
theorem dX7_polls_62 : decode cX7_polls 62 = .ok (.getfield 25, 3) := by decide +kernel
theorem dX7_polls_65 : decode cX7_polls 65 = .ok (.iload 4, 2) := by decide +kernel
theorem dX7_polls_67 : decode cX7_polls 67 = .ok (.iload_n 2, 1) := by decide +kernel
theorem dX7_polls_68 : decode cX7_polls 68 = .ok (.if_icmp .ne 7, 3) := by decide +kernel
theorem dX7_polls_71 : decode cX7_polls 71 = .ok (.iload_n 3, 1) := by decide +kernel
theorem dX7_polls_72 : decode cX7_polls 72 = .ok (.goto 9, 3) := by decide +kernel
theorem dX7_polls_75 : decode cX7_polls 75 = .ok (.aload_n 0, 1) := by decide +kernel
theorem dX7_polls_76 : decode cX7_polls 76 = .ok (.iload 4, 2) := by decide +kernel
theorem dX7_polls_78 : decode cX7_polls 78 = .ok (.invokevirtual 184, 3) := by decide +kernel
theorem dX7_polls_81 : decode cX7_polls 81 = .ok (.dup2, 1) := by decide +kernel
theorem dX7_polls_82 : decode cX7_polls 82 = .ok (.iaload, 1) := by decide +kernel
theorem dX7_polls_83 : decode cX7_polls 83 = .ok (.iload_n 1, 1) := by decide +kernel
theorem dX7_polls_84 : decode cX7_polls 84 = .ok (.iload 4, 2) := by decide +kernel
theorem dX7_polls_86 : decode cX7_polls 86 = .ok (.ishr, 1) := by decide +kernel
theorem dX7_polls_87 : decode cX7_polls 87 = .ok (.iconst 1, 1) := by decide +kernel
theorem dX7_polls_88 : decode cX7_polls 88 = .ok (.iand, 1) := by decide +kernel
theorem dX7_polls_89 : decode cX7_polls 89 = .ok (.iconst 1, 1) := by decide +kernel
theorem dX7_polls_90 : decode cX7_polls 90 = .ok (.if_icmp .ne 7, 3) := by decide +kernel
theorem dX7_polls_93 : decode cX7_polls 93 = .ok (.iconst 0, 1) := by decide +kernel
theorem dX7_polls_94 : decode cX7_polls 94 = .ok (.goto 9, 3) := by decide +kernel
theorem dX7_polls_97 : decode cX7_polls 97 = .ok (.aload_n 0, 1) := by decide +kernel
theorem dX7_polls_98 : decode cX7_polls 98 = .ok (.iload 4, 2) := by decide +kernel
theorem dX7_polls_100 : decode cX7_polls 100 = .ok (.invokevirtual 181, 3) := by decide +kernel
theorem dX7_polls_103 : decode cX7_polls 103 = .ok (.iadd, 1) := by decide +kernel
theorem dX7_polls_104 : decode cX7_polls 104 = .ok (.iastore, 1) := by decide +kernel
theorem dX7_polls_105 : decode cX7_polls 105 = .ok (.iinc 4 1, 3) := by decide +kernel
theorem dX7_polls_108 : decode cX7_polls 108 = .ok (.goto (-58), 3) := by decide +kernel
theorem dX7_polls_111 : decode cX7_polls 111 = .ok (.return_, 1) := by decide +kernel
def p_X7_polls_J103 (F : tF) (A : tA) (B50 : (tF → tA → Int32 → Prop)) (K : tF → tA → Prop) (x1 : Int32) (x2 : Int32) (x3 : Int32) (x4 : Int32) (s0 : Int32) (s1 : Int32) (s2 : Int32) : Prop := (vp_in s2 6 ∧ (∀ f_104 : tF, f_104 = (upd (A 12) (s2).toNatClampNeg (s1 + s0)) → (∀ y105 : Int32, y105 = (x4 + (1 : Int32)) → (B50 F (va_up A 12 f_104) y105))))
set_option maxHeartbeats 4000000 in
set_option maxRecDepth 100000 in
theorem b_X7_polls_J103 {p : Program} {l : Launch} {e : Env} {s : State} {m : MethodId} {args : Array Value} {below : List Frame} {meth : Method} {c : Code} {Q : State → Prop} {D : va_G} {cI cZ cR : ClassId} {adK adV : Nat → Nat} {A9 : Nat → Prop} {o : Nat} {q : Nat → Nat} {K : tF → tA → Prop} {B50 : (tF → tA → Int32 → Prop)} (F : tF) (A : tA) (x1 : Int32) (x2 : Int32) (x3 : Int32) (x4 : Int32) (s0 : Int32) (s1 : Int32) (s2 : Int32) (X : CX p s m args c yX7_polls.cls cX7_polls 5 D cI cZ cR adK adV A9) (ret : RTv p l e (rmN 3 69) s m args below meth c Q cX7_polls D A9 (fun (u : (tF × tA)) => K u.1 u.2) (fun (u : (tF × tA)) => (wX7 cI cZ o q u.1 u.2 : va_W))) (hB50 : ∀ (F : tF) (A : tA) (x4 : Int32) (H : Heap) (locs : List Loc) (ls : Array Slot), B50 F A x4 → va_P D vwCl (wX7 cI cZ o q F A : va_W) H → va_D A9 (wX7 cI cZ o q F A : va_W) → va_S A9 s.heap H locs → lv_has ls 5 [(0, .ref o), (1, .int x1), (2, .int x2), (3, .int x3), (4, .int x4)] → W p l e (rmN 3 69) s m args below meth c H locs 0 0 Q (F0 m 50 ls [])) (H : Heap) (locs : List Loc) (ls : Array Slot) (h : p_X7_polls_J103 F A B50 K x1 x2 x3 x4 s0 s1 s2) (hP : va_P D vwCl (wX7 cI cZ o q F A : va_W) H) (hD : va_D A9 (wX7 cI cZ o q F A : va_W)) (hS : va_S A9 s.heap H locs) (hl : lv_has ls 5 [(0, .ref o), (1, .int x1), (2, .int x2), (3, .int x3), (4, .int x4)]) : W p l e (rmN 3 69) s m args below meth c H locs 0 0 Q (F0 m 103 ls [.int s0, .int s1, .int s2, .ref (q 12)]) := by
  obtain ⟨hx, hb, hml, ht, hown, hK, hA, hE⟩ := id X
  unfold p_X7_polls_J103 at h
  refine lv_iadd hx hb dX7_polls_103 ?_
  obtain ⟨hi104, h⟩ := h
  obtain ⟨f_104, ef_104⟩ : ∃ z : tF, z = (upd (A 12) (s2).toNatClampNeg (s1 + s0)) := ⟨_, rfl⟩
  replace h := h f_104 ef_104
  refine g_iast (f := (A 12)) (k := (s2).toNatClampNeg) hx hb hK hP hD hS 6 0 rfl rfl hi104 rfl ef_104 dX7_polls_104 (fun H locs hP hD hS => ?_)
  have hP : va_P D vwCl (wX7 cI cZ o q F (va_up A 12 f_104) : va_W) H := hP
  have hD : va_D A9 (wX7 cI cZ o q F (va_up A 12 f_104) : va_W) := hD
  obtain ⟨y105, ey105⟩ : ∃ y : Int32, y = (x4 + (1 : Int32)) := ⟨_, rfl⟩
  replace h := h y105 ey105
  refine lv_iinc (v := y105) (lv' := [(4, .int y105), (0, .ref o), (1, .int x1), (2, .int x2), (3, .int x3)]) hx hb dX7_polls_105 hl (k := 4) rfl (by rw [ey105]; rfl) (by decide) rfl (fun ls hl => ?_)
  refine lv_goto (tgt := 50) hx hb dX7_polls_108 (by decide) ?_
  exact hB50 F (va_up A 12 f_104) y105 _ _ _ h hP hD hS (lv_sub hl [1, 2, 3, 4, 0] rfl)
def p_X7_polls_J81 (F : tF) (A : tA) (B50 : (tF → tA → Int32 → Prop)) (K : tF → tA → Prop) (x1 : Int32) (x2 : Int32) (x3 : Int32) (x4 : Int32) (s0 : Int32) : Prop := (vp_in s0 6 ∧ ((¬ ((x1 >>> (x4 &&& 31)) &&& (1 : Int32)) = (1 : Int32) → (p_X7_counts F A x4 (fun r100 => (p_X7_polls_J103 F A B50 K x1 x2 x3 x4 r100 ((A 12) (s0).toNatClampNeg) s0)))) ∧ (((x1 >>> (x4 &&& 31)) &&& (1 : Int32)) = (1 : Int32) → (p_X7_polls_J103 F A B50 K x1 x2 x3 x4 (0 : Int32) ((A 12) (s0).toNatClampNeg) s0))))
set_option maxHeartbeats 4000000 in
set_option maxRecDepth 100000 in
theorem b_X7_polls_J81 {p : Program} {l : Launch} {e : Env} {s : State} {m : MethodId} {args : Array Value} {below : List Frame} {meth : Method} {c : Code} {Q : State → Prop} {D : va_G} {cI cZ cR : ClassId} {adK adV : Nat → Nat} {A9 : Nat → Prop} {o : Nat} {q : Nat → Nat} {K : tF → tA → Prop} {B50 : (tF → tA → Int32 → Prop)} (F : tF) (A : tA) (x1 : Int32) (x2 : Int32) (x3 : Int32) (x4 : Int32) (s0 : Int32) (X : CX p s m args c yX7_polls.cls cX7_polls 5 D cI cZ cR adK adV A9) (ret : RTv p l e (rmN 3 69) s m args below meth c Q cX7_polls D A9 (fun (u : (tF × tA)) => K u.1 u.2) (fun (u : (tF × tA)) => (wX7 cI cZ o q u.1 u.2 : va_W))) (hB50 : ∀ (F : tF) (A : tA) (x4 : Int32) (H : Heap) (locs : List Loc) (ls : Array Slot), B50 F A x4 → va_P D vwCl (wX7 cI cZ o q F A : va_W) H → va_D A9 (wX7 cI cZ o q F A : va_W) → va_S A9 s.heap H locs → lv_has ls 5 [(0, .ref o), (1, .int x1), (2, .int x2), (3, .int x3), (4, .int x4)] → W p l e (rmN 3 69) s m args below meth c H locs 0 0 Q (F0 m 50 ls [])) (H : Heap) (locs : List Loc) (ls : Array Slot) (h : p_X7_polls_J81 F A B50 K x1 x2 x3 x4 s0) (hP : va_P D vwCl (wX7 cI cZ o q F A : va_W) H) (hD : va_D A9 (wX7 cI cZ o q F A : va_W)) (hS : va_S A9 s.heap H locs) (hl : lv_has ls 5 [(0, .ref o), (1, .int x1), (2, .int x2), (3, .int x3), (4, .int x4)]) : W p l e (rmN 3 69) s m args below meth c H locs 0 0 Q (F0 m 81 ls [.int s0, .ref (q 12)]) := by
  obtain ⟨hx, hb, hml, ht, hown, hK, hA, hE⟩ := id X
  unfold p_X7_polls_J81 at h
  refine lv_dup2_11 hx hb dX7_polls_81 rfl rfl ?_
  obtain ⟨hi82, h⟩ := h
  refine g_iald (f := (A 12)) (k := (s0).toNatClampNeg) hx hb hK hP 6 0 rfl rfl hi82 rfl dX7_polls_82 ?_
  refine lv_iload_n hx hb dX7_polls_83 rfl (lv_at hl 1 rfl) ?_
  refine lv_iload hx hb dX7_polls_84 (lv_at hl 4 rfl) ?_
  refine lv_ishr hx hb dX7_polls_86 ?_
  refine lv_iconst (v := 1) hx hb dX7_polls_87 (by decide) ?_
  refine lv_iand hx hb dX7_polls_88 ?_
  refine lv_iconst (v := 1) hx hb dX7_polls_89 (by decide) ?_
  refine lv_icmp_ne (tgt := 97) hx hb dX7_polls_90 (by decide) (fun c90 => ?_) (fun c90 => ?_)
  · replace h := h.1 c90
    refine lv_aload_n hx hb dX7_polls_97 rfl (lv_at hl 0 rfl) ?_
    refine lv_iload hx hb dX7_polls_98 (lv_at hl 4 rfl) ?_
    refine C_vi (wr := []) X hP hD hS [.int x4] [.int ((A 12) (s0).toNatClampNeg), .int s0, .ref (q 12)] (w_X7_counts l D cI cZ cR adK adV _ o q F A x4 _ h) cal_X7_counts mw_18_20 rfl [0, 1, 2, 3, 4, 5, 6, 7, 8, 9, 10, 11, 12, 13, 14, 15] [] [0, 1, 2, 3, 4, 5, 6, 7, 8, 9, 10, 11, 12, 13, 14, 15] (fun u => (wX7 cI cZ o q F A : va_W)) rfl rfl (fun _ => rfl) rfl 0 rfl rfl ⟨rfl, rfl⟩ ⟨Nat.le_of_ble_eq_true rfl, Nat.le_of_ble_eq_true rfl⟩ hl.1 rfl (Nat.le_of_ble_eq_true rfl) ⟨Nat.zero_le _, Nat.zero_le _⟩ dX7_polls_100 (fun r100 u H locs h hP hD hS => ?_)
    exact b_X7_polls_J103 F A x1 x2 x3 x4 r100 ((A 12) (s0).toNatClampNeg) s0 X ret hB50 _ _ _ h hP hD hS (lv_sub hl [0, 1, 2, 3, 4] rfl)
  · replace h := h.2 c90
    refine lv_iconst (v := 0) hx hb dX7_polls_93 (by decide) ?_
    refine lv_goto (tgt := 103) hx hb dX7_polls_94 (by decide) ?_
    exact b_X7_polls_J103 F A x1 x2 x3 x4 (0 : Int32) ((A 12) (s0).toNatClampNeg) s0 X ret hB50 _ _ _ h hP hD hS (lv_sub hl [0, 1, 2, 3, 4] rfl)
def p_X7_polls_L50 (x1 : Int32) (x2 : Int32) (x3 : Int32) (K : tF → tA → Prop) : Nat → tF → tA → Int32 → Prop
  | 0, _, _, _ => False
  | n50 + 1, F, A, x4 => ((((A 0) 0) ≤ x4 → (K F A)) ∧ (¬ ((A 0) 0) ≤ x4 → ((¬ x4 = x2 → (p_X7_voteOf F A x4 (fun r78 => (p_X7_polls_J81 F A (p_X7_polls_L50 x1 x2 x3 K n50) K x1 x2 x3 x4 r78)))) ∧ (x4 = x2 → (p_X7_polls_J81 F A (p_X7_polls_L50 x1 x2 x3 K n50) K x1 x2 x3 x4 x3)))))
set_option maxHeartbeats 4000000 in
set_option maxRecDepth 100000 in
theorem b_X7_polls_L50 {p : Program} {l : Launch} {e : Env} {s : State} {m : MethodId} {args : Array Value} {below : List Frame} {meth : Method} {c : Code} {Q : State → Prop} {D : va_G} {cI cZ cR : ClassId} {adK adV : Nat → Nat} {A9 : Nat → Prop} {o : Nat} {q : Nat → Nat} {K : tF → tA → Prop}  (x1 : Int32) (x2 : Int32) (x3 : Int32) (X : CX p s m args c yX7_polls.cls cX7_polls 5 D cI cZ cR adK adV A9) (ret : RTv p l e (rmN 3 69) s m args below meth c Q cX7_polls D A9 (fun (u : (tF × tA)) => K u.1 u.2) (fun (u : (tF × tA)) => (wX7 cI cZ o q u.1 u.2 : va_W)))   : ∀ (n : Nat) (F : tF) (A : tA) (x4 : Int32) (H : Heap) (locs : List Loc) (ls : Array Slot), p_X7_polls_L50 x1 x2 x3 K n F A x4 → va_P D vwCl (wX7 cI cZ o q F A : va_W) H → va_D A9 (wX7 cI cZ o q F A : va_W) → va_S A9 s.heap H locs → lv_has ls 5 [(0, .ref o), (1, .int x1), (2, .int x2), (3, .int x3), (4, .int x4)] → W p l e (rmN 3 69) s m args below meth c H locs 0 0 Q (F0 m 50 ls []) := by
  obtain ⟨hx, hb, hml, ht, hown, hK, hA, hE⟩ := id X
  intro n
  induction n with
  | zero => intro F A x4 H locs ls h; exact False.elim h
  | succ n50 ih =>
    intro F A x4 H locs ls h hP hD hS hl
    rw [p_X7_polls_L50] at h
    refine lv_iload hx hb dX7_polls_50 (lv_at hl 4 rfl) ?_
    refine lv_aload_n hx hb dX7_polls_52 rfl (lv_at hl 0 rfl) ?_
    refine va_get (C := RX7) (T := TX7) (N := 28) (own := RX7) (v := .ref (q 0)) hx hb ht inlX7 hown hK hP 0 rfl rfl 0 (Nat.le_of_ble_eq_true rfl) (ht _ mw_5_7) (fun _ h9 => h9) rfl dX7_polls_53 ?_
    refine lv_iconst (v := 0) hx hb dX7_polls_56 (by decide) ?_
    refine g_iald (f := (A 0)) (k := 0) hx hb hK hP 1 0 rfl rfl (vp_in_lit rfl : vp_in (0 : Int32) 53) (by decide) dX7_polls_57 ?_
    refine lv_icmp_ge (tgt := 111) hx hb dX7_polls_58 (by decide) (fun c58 => ?_) (fun c58 => ?_)
    · replace h := h.1 c58
      exact ret (F, A) _ _ _ _ dX7_polls_111 h hP hD hS
    · replace h := h.2 c58
      refine lv_aload_n hx hb dX7_polls_61 rfl (lv_at hl 0 rfl) ?_
      refine va_get (C := RX7) (T := TX7) (N := 28) (own := RX7) (v := .ref (q 12)) hx hb ht inlX7 hown hK hP 0 rfl rfl 12 (Nat.le_of_ble_eq_true rfl) (ht _ mw_5_12) (fun _ h9 => h9) rfl dX7_polls_62 ?_
      refine lv_iload hx hb dX7_polls_65 (lv_at hl 4 rfl) ?_
      refine lv_iload_n hx hb dX7_polls_67 rfl (lv_at hl 2 rfl) ?_
      refine lv_icmp_ne (tgt := 75) hx hb dX7_polls_68 (by decide) (fun c68 => ?_) (fun c68 => ?_)
      · replace h := h.1 c68
        refine lv_aload_n hx hb dX7_polls_75 rfl (lv_at hl 0 rfl) ?_
        refine lv_iload hx hb dX7_polls_76 (lv_at hl 4 rfl) ?_
        refine C_vi (wr := []) X hP hD hS [.int x4] [.ref (q 12)] (w_X7_voteOf l D cI cZ cR adK adV _ o q F A x4 _ h) cal_X7_voteOf mw_19_0 rfl [0, 1, 2, 3, 4, 5, 6, 7, 8, 9, 10, 11, 12, 13, 14, 15] [] [0, 1, 2, 3, 4, 5, 6, 7, 8, 9, 10, 11, 12, 13, 14, 15] (fun u => (wX7 cI cZ o q F A : va_W)) rfl rfl (fun _ => rfl) rfl 0 rfl rfl ⟨rfl, rfl⟩ ⟨Nat.le_of_ble_eq_true rfl, Nat.le_of_ble_eq_true rfl⟩ hl.1 rfl (Nat.le_of_ble_eq_true rfl) ⟨Nat.zero_le _, Nat.zero_le _⟩ dX7_polls_78 (fun r78 u H locs h hP hD hS => ?_)
        exact b_X7_polls_J81 F A x1 x2 x3 x4 r78 X ret ih _ _ _ h hP hD hS (lv_sub hl [0, 1, 2, 3, 4] rfl)
      · replace h := h.2 c68
        refine lv_iload_n hx hb dX7_polls_71 rfl (lv_at hl 3 rfl) ?_
        refine lv_goto (tgt := 81) hx hb dX7_polls_72 (by decide) ?_
        exact b_X7_polls_J81 F A x1 x2 x3 x4 x3 X ret ih _ _ _ h hP hD hS (lv_sub hl [0, 1, 2, 3, 4] rfl)
def p_X7_polls_J40 (F : tF) (A : tA) (B3 : (tF → tA → Int32 → Prop)) (K : tF → tA → Prop) (x1 : Int32) (x2 : Int32) (x3 : Int32) (x4 : Int32) (s0 : Int32) (s1 : Int32) : Prop := (vp_in s1 6 ∧ (∀ f_40 : tF, f_40 = (upd (A 12) (s1).toNatClampNeg s0) → (∀ y41 : Int32, y41 = (x4 + (1 : Int32)) → (B3 F (va_up A 12 f_40) y41))))
set_option maxHeartbeats 4000000 in
set_option maxRecDepth 100000 in
theorem b_X7_polls_J40 {p : Program} {l : Launch} {e : Env} {s : State} {m : MethodId} {args : Array Value} {below : List Frame} {meth : Method} {c : Code} {Q : State → Prop} {D : va_G} {cI cZ cR : ClassId} {adK adV : Nat → Nat} {A9 : Nat → Prop} {o : Nat} {q : Nat → Nat} {K : tF → tA → Prop} {B3 : (tF → tA → Int32 → Prop)} (F : tF) (A : tA) (x1 : Int32) (x2 : Int32) (x3 : Int32) (x4 : Int32) (s0 : Int32) (s1 : Int32) (X : CX p s m args c yX7_polls.cls cX7_polls 5 D cI cZ cR adK adV A9) (ret : RTv p l e (rmN 3 69) s m args below meth c Q cX7_polls D A9 (fun (u : (tF × tA)) => K u.1 u.2) (fun (u : (tF × tA)) => (wX7 cI cZ o q u.1 u.2 : va_W))) (hB3 : ∀ (F : tF) (A : tA) (x4 : Int32) (H : Heap) (locs : List Loc) (ls : Array Slot), B3 F A x4 → va_P D vwCl (wX7 cI cZ o q F A : va_W) H → va_D A9 (wX7 cI cZ o q F A : va_W) → va_S A9 s.heap H locs → lv_has ls 5 [(0, .ref o), (1, .int x1), (2, .int x2), (3, .int x3), (4, .int x4)] → W p l e (rmN 3 69) s m args below meth c H locs 0 0 Q (F0 m 3 ls [])) (H : Heap) (locs : List Loc) (ls : Array Slot) (h : p_X7_polls_J40 F A B3 K x1 x2 x3 x4 s0 s1) (hP : va_P D vwCl (wX7 cI cZ o q F A : va_W) H) (hD : va_D A9 (wX7 cI cZ o q F A : va_W)) (hS : va_S A9 s.heap H locs) (hl : lv_has ls 5 [(0, .ref o), (1, .int x1), (2, .int x2), (3, .int x3), (4, .int x4)]) : W p l e (rmN 3 69) s m args below meth c H locs 0 0 Q (F0 m 40 ls [.int s0, .int s1, .ref (q 12)]) := by
  obtain ⟨hx, hb, hml, ht, hown, hK, hA, hE⟩ := id X
  unfold p_X7_polls_J40 at h
  obtain ⟨hi40, h⟩ := h
  obtain ⟨f_40, ef_40⟩ : ∃ z : tF, z = (upd (A 12) (s1).toNatClampNeg s0) := ⟨_, rfl⟩
  replace h := h f_40 ef_40
  refine g_iast (f := (A 12)) (k := (s1).toNatClampNeg) hx hb hK hP hD hS 6 0 rfl rfl hi40 rfl ef_40 dX7_polls_40 (fun H locs hP hD hS => ?_)
  have hP : va_P D vwCl (wX7 cI cZ o q F (va_up A 12 f_40) : va_W) H := hP
  have hD : va_D A9 (wX7 cI cZ o q F (va_up A 12 f_40) : va_W) := hD
  obtain ⟨y41, ey41⟩ : ∃ y : Int32, y = (x4 + (1 : Int32)) := ⟨_, rfl⟩
  replace h := h y41 ey41
  refine lv_iinc (v := y41) (lv' := [(4, .int y41), (0, .ref o), (1, .int x1), (2, .int x2), (3, .int x3)]) hx hb dX7_polls_41 hl (k := 4) rfl (by rw [ey41]; rfl) (by decide) rfl (fun ls hl => ?_)
  refine lv_goto (tgt := 3) hx hb dX7_polls_44 (by decide) ?_
  exact hB3 F (va_up A 12 f_40) y41 _ _ _ h hP hD hS (lv_sub hl [1, 2, 3, 4, 0] rfl)
def p_X7_polls_L3 (x1 : Int32) (x2 : Int32) (x3 : Int32) (K : tF → tA → Prop) : Nat → tF → tA → Int32 → Prop
  | 0, _, _, _ => False
  | n3 + 1, F, A, x4 => (((6 : Int32) ≤ x4 → (∃ n50, p_X7_polls_L50 x1 x2 x3 K n50 F A (0 : Int32))) ∧ (¬ (6 : Int32) ≤ x4 → ((¬ ((A 0) 4) = ((1 : Int32) + x4) → (p_X7_polls_J40 F A (p_X7_polls_L3 x1 x2 x3 K n3) K x1 x2 x3 x4 (0 : Int32) x4)) ∧ (((A 0) 4) = ((1 : Int32) + x4) → (p_X7_polls_J40 F A (p_X7_polls_L3 x1 x2 x3 K n3) K x1 x2 x3 x4 ((A 0) 6) x4)))))
set_option maxHeartbeats 4000000 in
set_option maxRecDepth 100000 in
theorem b_X7_polls_L3 {p : Program} {l : Launch} {e : Env} {s : State} {m : MethodId} {args : Array Value} {below : List Frame} {meth : Method} {c : Code} {Q : State → Prop} {D : va_G} {cI cZ cR : ClassId} {adK adV : Nat → Nat} {A9 : Nat → Prop} {o : Nat} {q : Nat → Nat} {K : tF → tA → Prop}  (x1 : Int32) (x2 : Int32) (x3 : Int32) (X : CX p s m args c yX7_polls.cls cX7_polls 5 D cI cZ cR adK adV A9) (ret : RTv p l e (rmN 3 69) s m args below meth c Q cX7_polls D A9 (fun (u : (tF × tA)) => K u.1 u.2) (fun (u : (tF × tA)) => (wX7 cI cZ o q u.1 u.2 : va_W)))   : ∀ (n : Nat) (F : tF) (A : tA) (x4 : Int32) (H : Heap) (locs : List Loc) (ls : Array Slot), p_X7_polls_L3 x1 x2 x3 K n F A x4 → va_P D vwCl (wX7 cI cZ o q F A : va_W) H → va_D A9 (wX7 cI cZ o q F A : va_W) → va_S A9 s.heap H locs → lv_has ls 5 [(0, .ref o), (1, .int x1), (2, .int x2), (3, .int x3), (4, .int x4)] → W p l e (rmN 3 69) s m args below meth c H locs 0 0 Q (F0 m 3 ls []) := by
  obtain ⟨hx, hb, hml, ht, hown, hK, hA, hE⟩ := id X
  intro n
  induction n with
  | zero => intro F A x4 H locs ls h; exact False.elim h
  | succ n3 ih =>
    intro F A x4 H locs ls h hP hD hS hl
    rw [p_X7_polls_L3] at h
    refine lv_iload hx hb dX7_polls_3 (lv_at hl 4 rfl) ?_
    refine lv_bipush (v := 6) hx hb dX7_polls_5 (by decide) ?_
    refine lv_icmp_ge (tgt := 47) hx hb dX7_polls_7 (by decide) (fun c7 => ?_) (fun c7 => ?_)
    · replace h := h.1 c7
      refine lv_iconst (v := 0) hx hb dX7_polls_47 (by decide) ?_
      refine lv_istore (lv' := [(4, .int (0 : Int32)), (0, .ref o), (1, .int x1), (2, .int x2), (3, .int x3)]) hx hb dX7_polls_48 hl (by decide) rfl (fun ls hl => ?_)
      obtain ⟨n50, h⟩ := h
      exact b_X7_polls_L50 x1 x2 x3 X ret  n50 F A (0 : Int32) _ _ _ h hP hD hS (lv_sub hl [1, 2, 3, 4, 0] rfl)
    · replace h := h.2 c7
      refine lv_aload_n hx hb dX7_polls_10 rfl (lv_at hl 0 rfl) ?_
      refine va_get (C := RX7) (T := TX7) (N := 28) (own := RX7) (v := .ref (q 12)) hx hb ht inlX7 hown hK hP 0 rfl rfl 12 (Nat.le_of_ble_eq_true rfl) (ht _ mw_5_12) (fun _ h9 => h9) rfl dX7_polls_11 ?_
      refine lv_iload hx hb dX7_polls_14 (lv_at hl 4 rfl) ?_
      refine lv_aload_n hx hb dX7_polls_16 rfl (lv_at hl 0 rfl) ?_
      refine va_get (C := RX7) (T := TX7) (N := 28) (own := RX7) (v := .ref (q 0)) hx hb ht inlX7 hown hK hP 0 rfl rfl 0 (Nat.le_of_ble_eq_true rfl) (ht _ mw_5_7) (fun _ h9 => h9) rfl dX7_polls_17 ?_
      refine lv_iconst (v := 4) hx hb dX7_polls_20 (by decide) ?_
      refine g_iald (f := (A 0)) (k := 4) hx hb hK hP 1 0 rfl rfl (vp_in_lit rfl : vp_in (4 : Int32) 53) (by decide) dX7_polls_21 ?_
      refine lv_iconst (v := 1) hx hb dX7_polls_22 (by decide) ?_
      refine lv_iload hx hb dX7_polls_23 (lv_at hl 4 rfl) ?_
      refine lv_iadd hx hb dX7_polls_25 ?_
      refine lv_icmp_ne (tgt := 39) hx hb dX7_polls_26 (by decide) (fun c26 => ?_) (fun c26 => ?_)
      · replace h := h.1 c26
        refine lv_iconst (v := 0) hx hb dX7_polls_39 (by decide) ?_
        exact b_X7_polls_J40 F A x1 x2 x3 x4 (0 : Int32) x4 X ret ih _ _ _ h hP hD hS (lv_sub hl [0, 1, 2, 3, 4] rfl)
      · replace h := h.2 c26
        refine lv_aload_n hx hb dX7_polls_29 rfl (lv_at hl 0 rfl) ?_
        refine va_get (C := RX7) (T := TX7) (N := 28) (own := RX7) (v := .ref (q 0)) hx hb ht inlX7 hown hK hP 0 rfl rfl 0 (Nat.le_of_ble_eq_true rfl) (ht _ mw_5_7) (fun _ h9 => h9) rfl dX7_polls_30 ?_
        refine lv_bipush (v := 6) hx hb dX7_polls_33 (by decide) ?_
        refine g_iald (f := (A 0)) (k := 6) hx hb hK hP 1 0 rfl rfl (vp_in_lit rfl : vp_in (6 : Int32) 53) (by decide) dX7_polls_35 ?_
        refine lv_goto (tgt := 40) hx hb dX7_polls_36 (by decide) ?_
        exact b_X7_polls_J40 F A x1 x2 x3 x4 ((A 0) 6) x4 X ret ih _ _ _ h hP hD hS (lv_sub hl [0, 1, 2, 3, 4] rfl)
def p_X7_polls (F : tF) (A : tA) (x1 : Int32) (x2 : Int32) (x3 : Int32) (K : tF → tA → Prop) : Prop := (∃ n3, p_X7_polls_L3 x1 x2 x3 K n3 F A (0 : Int32))
set_option maxHeartbeats 4000000 in
set_option maxRecDepth 100000 in
theorem w_X7_polls (l : Launch) (D : va_G) (cI cZ cR : ClassId) (adK adV : Nat → Nat) (sz : Nat) (o : Nat) (q : Nat → Nat) (F : tF) (A : tA) (x1 : Int32) (x2 : Int32) (x3 : Int32) (K : tF → tA → Prop) (h : p_X7_polls F A x1 x2 x3 K) : MV l D cI cZ cR adK adV yX7_polls cX7_polls 5 none (rmN 3 69) [.ref o, .int x1, .int x2, .int x3] (wX7 cI cZ o q F A : va_W) sz (fun (u : (tF × tA)) => K u.1 u.2) (fun (u : (tF × tA)) => (wX7 cI cZ o q u.1 u.2 : va_W)) := by
  refine M_v (by decide +kernel) (Nat.le_of_ble_eq_true rfl) ?_
  intro p e s m args below meth c Q A9 ls X ret hP hD hS hl
  obtain ⟨hx, hb, hml, ht, hown, hK, hA, hE⟩ := id X
  have hl : lv_has ls 5 [(0, .ref o), (1, .int x1), (2, .int x2), (3, .int x3)] := hl
  unfold p_X7_polls at h
  refine lv_iconst (v := 0) hx hb dX7_polls_0 (by decide) ?_
  refine lv_istore (lv' := [(4, .int (0 : Int32)), (0, .ref o), (1, .int x1), (2, .int x2), (3, .int x3)]) hx hb dX7_polls_1 hl (by decide) rfl (fun ls hl => ?_)
  obtain ⟨n3, h⟩ := h
  exact b_X7_polls_L3 x1 x2 x3 X ret  n3 F A (0 : Int32) _ _ _ h hP hD hS (lv_sub hl [1, 2, 3, 4, 0] rfl)
theorem cal_X7_polls : CalV yX7_polls cX7_polls 5 none 3 := ⟨mw_22_16, mw_1_5, mw_22_14, mw_22_15, ⟨by decide +kernel, by decide +kernel, by decide +kernel⟩⟩
theorem dX7_winnerOf_0 : decode cX7_winnerOf 0 = .ok (.aload_n 0, 1) := by decide +kernel
theorem dX7_winnerOf_1 : decode cX7_winnerOf 1 = .ok (.iload_n 1, 1) := by decide +kernel
theorem dX7_winnerOf_2 : decode cX7_winnerOf 2 = .ok (.iload_n 2, 1) := by decide +kernel
theorem dX7_winnerOf_3 : decode cX7_winnerOf 3 = .ok (.iload_n 3, 1) := by decide +kernel
theorem dX7_winnerOf_4 : decode cX7_winnerOf 4 = .ok (.invokevirtual 190, 3) := by decide +kernel
theorem dX7_winnerOf_7 : decode cX7_winnerOf 7 = .ok (.iconst 0, 1) := by decide +kernel
theorem dX7_winnerOf_8 : decode cX7_winnerOf 8 = .ok (.istore 4, 2) := by decide +kernel
theorem dX7_winnerOf_10 : decode cX7_winnerOf 10 = .ok (.iconst 1, 1) := by decide +kernel
theorem dX7_winnerOf_11 : decode cX7_winnerOf 11 = .ok (.istore 5, 2) := by decide +kernel
theorem dX7_winnerOf_13 : decode cX7_winnerOf 13 = .ok (.iload 5, 2) := by decide +kernel
theorem dX7_winnerOf_15 : decode cX7_winnerOf 15 = .ok (.bipush 6, 2) := by decide +kernel
theorem dX7_winnerOf_17 : decode cX7_winnerOf 17 = .ok (.if_icmp .ge 89, 3) := by decide +kernel
theorem dX7_winnerOf_20 : decode cX7_winnerOf 20 = .ok (.aload_n 0, 1) := by decide +kernel
theorem dX7_winnerOf_21 : decode cX7_winnerOf 21 = .ok (.getfield 25, 3) := by decide +kernel
theorem dX7_winnerOf_24 : decode cX7_winnerOf 24 = .ok (.iload 5, 2) := by decide +kernel
theorem dX7_winnerOf_26 : decode cX7_winnerOf 26 = .ok (.iaload, 1) := by decide +kernel
theorem dX7_winnerOf_27 : decode cX7_winnerOf 27 = .ok (.aload_n 0, 1) := by decide +kernel
theorem dX7_winnerOf_28 : decode cX7_winnerOf 28 = .ok (.getfield 25, 3) := by decide +kernel
theorem dX7_winnerOf_31 : decode cX7_winnerOf 31 = .ok (.iload 4, 2) := by decide +kernel
theorem dX7_winnerOf_33 : decode cX7_winnerOf 33 = .ok (.iaload, 1) := by decide +kernel
theorem dX7_winnerOf_34 : decode cX7_winnerOf 34 = .ok (.if_icmp .ne 32, 3) := by decide +kernel
theorem dX7_winnerOf_37 : decode cX7_winnerOf 37 = .ok (.iload 5, 2) := by decide +kernel
theorem dX7_winnerOf_39 : decode cX7_winnerOf 39 = .ok (.aload_n 0, 1) := by decide +kernel
theorem dX7_winnerOf_40 : decode cX7_winnerOf 40 = .ok (.getfield 7, 3) := by decide +kernel
theorem dX7_winnerOf_43 : decode cX7_winnerOf 43 = .ok (.iconst 3, 1) := by decide +kernel
theorem dX7_winnerOf_44 : decode cX7_winnerOf 44 = .ok (.iaload, 1) := by decide +kernel
theorem dX7_winnerOf_45 : decode cX7_winnerOf 45 = .ok (.invokestatic 172, 3) := by decide +kernel
theorem dX7_winnerOf_48 : decode cX7_winnerOf 48 = .ok (.iload 4, 2) := by decide +kernel
theorem dX7_winnerOf_50 : decode cX7_winnerOf 50 = .ok (.aload_n 0, 1) := by decide +kernel
theorem dX7_winnerOf_51 : decode cX7_winnerOf 51 = .ok (.getfield 7, 3) := by decide +kernel
theorem dX7_winnerOf_54 : decode cX7_winnerOf 54 = .ok (.iconst 3, 1) := by decide +kernel
theorem dX7_winnerOf_55 : decode cX7_winnerOf 55 = .ok (.iaload, 1) := by decide +kernel
theorem dX7_winnerOf_56 : decode cX7_winnerOf 56 = .ok (.invokestatic 172, 3) := by decide +kernel
theorem dX7_winnerOf_59 : decode cX7_winnerOf 59 = .ok (.if_icmp .ge 7, 3) := by decide +kernel
theorem dX7_winnerOf_62 : decode cX7_winnerOf 62 = .ok (.iconst 1, 1) := by decide +kernel
theorem dX7_winnerOf_63 : decode cX7_winnerOf 63 = .ok (.goto 4, 3) := by decide +kernel
theorem dX7_winnerOf_66 : decode cX7_winnerOf 66 = .ok (.iconst 0, 1) := by decide +kernel
theorem dX7_winnerOf_67 : decode cX7_winnerOf 67 = .ok (.istore 6, 2) := by decide +kernel
theorem dX7_winnerOf_69 : decode cX7_winnerOf 69 = .ok (.aload_n 0, 1) := by decide +kernel
theorem dX7_winnerOf_70 : decode cX7_winnerOf 70 = .ok (.getfield 25, 3) := by decide +kernel
theorem dX7_winnerOf_73 : decode cX7_winnerOf 73 = .ok (.iload 5, 2) := by decide +kernel
theorem dX7_winnerOf_75 : decode cX7_winnerOf 75 = .ok (.iaload, 1) := by decide +kernel
theorem dX7_winnerOf_76 : decode cX7_winnerOf 76 = .ok (.aload_n 0, 1) := by decide +kernel
theorem dX7_winnerOf_77 : decode cX7_winnerOf 77 = .ok (.getfield 25, 3) := by decide +kernel
theorem dX7_winnerOf_80 : decode cX7_winnerOf 80 = .ok (.iload 4, 2) := by decide +kernel
theorem dX7_winnerOf_82 : decode cX7_winnerOf 82 = .ok (.iaload, 1) := by decide +kernel
theorem dX7_winnerOf_83 : decode cX7_winnerOf 83 = .ok (.if_icmp .gt 8, 3) := by decide +kernel
theorem dX7_winnerOf_86 : decode cX7_winnerOf 86 = .ok (.iload 6, 2) := by decide +kernel
theorem dX7_winnerOf_88 : decode cX7_winnerOf 88 = .ok (.ifCond .eq 8, 3) := by decide +kernel
theorem dX7_winnerOf_91 : decode cX7_winnerOf 91 = .ok (.iload 5, 2) := by decide +kernel
theorem dX7_winnerOf_93 : decode cX7_winnerOf 93 = .ok (.goto 5, 3) := by decide +kernel
theorem dX7_winnerOf_96 : decode cX7_winnerOf 96 = .ok (.iload 4, 2) := by decide +kernel
theorem dX7_winnerOf_98 : decode cX7_winnerOf 98 = .ok (.istore 4, 2) := by decide +kernel
theorem dX7_winnerOf_100 : decode cX7_winnerOf 100 = .ok (.iinc 5 1, 3) := by decide +kernel
theorem dX7_winnerOf_103 : decode cX7_winnerOf 103 = .ok (.goto (-90), 3) := by decide +kernel
theorem dX7_winnerOf_106 : decode cX7_winnerOf 106 = .ok (.iload 4, 2) := by decide +kernel
theorem dX7_winnerOf_108 : decode cX7_winnerOf 108 = .ok (.ireturn, 1) := by decide +kernel
def p_X7_winnerOf_J98 (F : tF) (A : tA) (B13 : (Int32 → Int32 → Prop)) (K : Int32 → tF → tA → Prop) (x5 : Int32) (s0 : Int32) : Prop := (∀ y100 : Int32, y100 = (x5 + (1 : Int32)) → (B13 s0 y100))
set_option maxHeartbeats 4000000 in
set_option maxRecDepth 100000 in
theorem b_X7_winnerOf_J98 {p : Program} {l : Launch} {e : Env} {s : State} {m : MethodId} {args : Array Value} {below : List Frame} {meth : Method} {c : Code} {Q : State → Prop} {D : va_G} {cI cZ cR : ClassId} {adK adV : Nat → Nat} {A9 : Nat → Prop} {o : Nat} {q : Nat → Nat} {K : Int32 → tF → tA → Prop} {B13 : (Int32 → Int32 → Prop)} (F : tF) (A : tA) (x5 : Int32) (s0 : Int32) (X : CX p s m args c yX7_winnerOf.cls cX7_winnerOf 7 D cI cZ cR adK adV A9) (ret : RTi p l e (rmN 4 93) s m args below meth c Q cX7_winnerOf D A9 (fun (r : Int32) (u : (tF × tA)) => K r u.1 u.2) (fun (u : (tF × tA)) => (wX7 cI cZ o q u.1 u.2 : va_W))) (hB13 : ∀ (x4 : Int32) (x5 : Int32) (H : Heap) (locs : List Loc) (ls : Array Slot), B13 x4 x5 → va_P D vwCl (wX7 cI cZ o q F A : va_W) H → va_D A9 (wX7 cI cZ o q F A : va_W) → va_S A9 s.heap H locs → lv_has ls 7 [(0, .ref o), (4, .int x4), (5, .int x5)] → W p l e (rmN 4 93) s m args below meth c H locs 0 0 Q (F0 m 13 ls [])) (H : Heap) (locs : List Loc) (ls : Array Slot) (h : p_X7_winnerOf_J98 F A B13 K x5 s0) (hP : va_P D vwCl (wX7 cI cZ o q F A : va_W) H) (hD : va_D A9 (wX7 cI cZ o q F A : va_W)) (hS : va_S A9 s.heap H locs) (hl : lv_has ls 7 [(0, .ref o), (5, .int x5)]) : W p l e (rmN 4 93) s m args below meth c H locs 0 0 Q (F0 m 98 ls [.int s0]) := by
  obtain ⟨hx, hb, hml, ht, hown, hK, hA, hE⟩ := id X
  unfold p_X7_winnerOf_J98 at h
  refine lv_istore (lv' := [(4, .int s0), (0, .ref o), (5, .int x5)]) hx hb dX7_winnerOf_98 hl (by decide) rfl (fun ls hl => ?_)
  obtain ⟨y100, ey100⟩ : ∃ y : Int32, y = (x5 + (1 : Int32)) := ⟨_, rfl⟩
  replace h := h y100 ey100
  refine lv_iinc (v := y100) (lv' := [(5, .int y100), (4, .int s0), (0, .ref o)]) hx hb dX7_winnerOf_100 hl (k := 2) rfl (by rw [ey100]; rfl) (by decide) rfl (fun ls hl => ?_)
  refine lv_goto (tgt := 13) hx hb dX7_winnerOf_103 (by decide) ?_
  exact hB13 s0 y100 _ _ _ h hP hD hS (lv_sub hl [2, 1, 0] rfl)
def p_X7_winnerOf_J91 (F : tF) (A : tA) (B13 : (Int32 → Int32 → Prop)) (K : Int32 → tF → tA → Prop) (x5 : Int32) : Prop := (p_X7_winnerOf_J98 F A B13 K x5 x5)
set_option maxHeartbeats 4000000 in
set_option maxRecDepth 100000 in
theorem b_X7_winnerOf_J91 {p : Program} {l : Launch} {e : Env} {s : State} {m : MethodId} {args : Array Value} {below : List Frame} {meth : Method} {c : Code} {Q : State → Prop} {D : va_G} {cI cZ cR : ClassId} {adK adV : Nat → Nat} {A9 : Nat → Prop} {o : Nat} {q : Nat → Nat} {K : Int32 → tF → tA → Prop} {B13 : (Int32 → Int32 → Prop)} (F : tF) (A : tA) (x5 : Int32) (X : CX p s m args c yX7_winnerOf.cls cX7_winnerOf 7 D cI cZ cR adK adV A9) (ret : RTi p l e (rmN 4 93) s m args below meth c Q cX7_winnerOf D A9 (fun (r : Int32) (u : (tF × tA)) => K r u.1 u.2) (fun (u : (tF × tA)) => (wX7 cI cZ o q u.1 u.2 : va_W))) (hB13 : ∀ (x4 : Int32) (x5 : Int32) (H : Heap) (locs : List Loc) (ls : Array Slot), B13 x4 x5 → va_P D vwCl (wX7 cI cZ o q F A : va_W) H → va_D A9 (wX7 cI cZ o q F A : va_W) → va_S A9 s.heap H locs → lv_has ls 7 [(0, .ref o), (4, .int x4), (5, .int x5)] → W p l e (rmN 4 93) s m args below meth c H locs 0 0 Q (F0 m 13 ls [])) (H : Heap) (locs : List Loc) (ls : Array Slot) (h : p_X7_winnerOf_J91 F A B13 K x5) (hP : va_P D vwCl (wX7 cI cZ o q F A : va_W) H) (hD : va_D A9 (wX7 cI cZ o q F A : va_W)) (hS : va_S A9 s.heap H locs) (hl : lv_has ls 7 [(0, .ref o), (5, .int x5)]) : W p l e (rmN 4 93) s m args below meth c H locs 0 0 Q (F0 m 91 ls []) := by
  obtain ⟨hx, hb, hml, ht, hown, hK, hA, hE⟩ := id X
  unfold p_X7_winnerOf_J91 at h
  refine lv_iload hx hb dX7_winnerOf_91 (lv_at hl 1 rfl) ?_
  refine lv_goto (tgt := 98) hx hb dX7_winnerOf_93 (by decide) ?_
  exact b_X7_winnerOf_J98 F A x5 x5 X ret hB13 _ _ _ h hP hD hS (lv_sub hl [0, 1] rfl)
def p_X7_winnerOf_J67 (F : tF) (A : tA) (B13 : (Int32 → Int32 → Prop)) (K : Int32 → tF → tA → Prop) (x4 : Int32) (x5 : Int32) (s0 : Int32) : Prop := (vp_in x5 6 ∧ (vp_in x4 6 ∧ ((((A 12) (x4).toNatClampNeg) < ((A 12) (x5).toNatClampNeg) → (p_X7_winnerOf_J91 F A B13 K x5)) ∧ (¬ ((A 12) (x4).toNatClampNeg) < ((A 12) (x5).toNatClampNeg) → ((s0 = 0 → (p_X7_winnerOf_J98 F A B13 K x5 x4)) ∧ (¬ s0 = 0 → (p_X7_winnerOf_J91 F A B13 K x5)))))))
set_option maxHeartbeats 4000000 in
set_option maxRecDepth 100000 in
theorem b_X7_winnerOf_J67 {p : Program} {l : Launch} {e : Env} {s : State} {m : MethodId} {args : Array Value} {below : List Frame} {meth : Method} {c : Code} {Q : State → Prop} {D : va_G} {cI cZ cR : ClassId} {adK adV : Nat → Nat} {A9 : Nat → Prop} {o : Nat} {q : Nat → Nat} {K : Int32 → tF → tA → Prop} {B13 : (Int32 → Int32 → Prop)} (F : tF) (A : tA) (x4 : Int32) (x5 : Int32) (s0 : Int32) (X : CX p s m args c yX7_winnerOf.cls cX7_winnerOf 7 D cI cZ cR adK adV A9) (ret : RTi p l e (rmN 4 93) s m args below meth c Q cX7_winnerOf D A9 (fun (r : Int32) (u : (tF × tA)) => K r u.1 u.2) (fun (u : (tF × tA)) => (wX7 cI cZ o q u.1 u.2 : va_W))) (hB13 : ∀ (x4 : Int32) (x5 : Int32) (H : Heap) (locs : List Loc) (ls : Array Slot), B13 x4 x5 → va_P D vwCl (wX7 cI cZ o q F A : va_W) H → va_D A9 (wX7 cI cZ o q F A : va_W) → va_S A9 s.heap H locs → lv_has ls 7 [(0, .ref o), (4, .int x4), (5, .int x5)] → W p l e (rmN 4 93) s m args below meth c H locs 0 0 Q (F0 m 13 ls [])) (H : Heap) (locs : List Loc) (ls : Array Slot) (h : p_X7_winnerOf_J67 F A B13 K x4 x5 s0) (hP : va_P D vwCl (wX7 cI cZ o q F A : va_W) H) (hD : va_D A9 (wX7 cI cZ o q F A : va_W)) (hS : va_S A9 s.heap H locs) (hl : lv_has ls 7 [(0, .ref o), (4, .int x4), (5, .int x5)]) : W p l e (rmN 4 93) s m args below meth c H locs 0 0 Q (F0 m 67 ls [.int s0]) := by
  obtain ⟨hx, hb, hml, ht, hown, hK, hA, hE⟩ := id X
  unfold p_X7_winnerOf_J67 at h
  refine lv_istore (lv' := [(6, .int s0), (0, .ref o), (4, .int x4), (5, .int x5)]) hx hb dX7_winnerOf_67 hl (by decide) rfl (fun ls hl => ?_)
  refine lv_aload_n hx hb dX7_winnerOf_69 rfl (lv_at hl 1 rfl) ?_
  refine va_get (C := RX7) (T := TX7) (N := 28) (own := RX7) (v := .ref (q 12)) hx hb ht inlX7 hown hK hP 0 rfl rfl 12 (Nat.le_of_ble_eq_true rfl) (ht _ mw_5_12) (fun _ h9 => h9) rfl dX7_winnerOf_70 ?_
  refine lv_iload hx hb dX7_winnerOf_73 (lv_at hl 3 rfl) ?_
  obtain ⟨hi75, h⟩ := h
  refine g_iald (f := (A 12)) (k := (x5).toNatClampNeg) hx hb hK hP 6 0 rfl rfl hi75 rfl dX7_winnerOf_75 ?_
  refine lv_aload_n hx hb dX7_winnerOf_76 rfl (lv_at hl 1 rfl) ?_
  refine va_get (C := RX7) (T := TX7) (N := 28) (own := RX7) (v := .ref (q 12)) hx hb ht inlX7 hown hK hP 0 rfl rfl 12 (Nat.le_of_ble_eq_true rfl) (ht _ mw_5_12) (fun _ h9 => h9) rfl dX7_winnerOf_77 ?_
  refine lv_iload hx hb dX7_winnerOf_80 (lv_at hl 2 rfl) ?_
  obtain ⟨hi82, h⟩ := h
  refine g_iald (f := (A 12)) (k := (x4).toNatClampNeg) hx hb hK hP 6 0 rfl rfl hi82 rfl dX7_winnerOf_82 ?_
  refine lv_icmp_gt (tgt := 91) hx hb dX7_winnerOf_83 (by decide) (fun c83 => ?_) (fun c83 => ?_)
  · replace h := h.1 c83
    exact b_X7_winnerOf_J91 F A x5 X ret hB13 _ _ _ h hP hD hS (lv_sub hl [1, 3] rfl)
  · replace h := h.2 c83
    refine lv_iload hx hb dX7_winnerOf_86 (lv_at hl 0 rfl) ?_
    refine lv_if_eq (tgt := 96) hx hb dX7_winnerOf_88 (by decide) (fun c88 => ?_) (fun c88 => ?_)
    · replace h := h.1 c88
      refine lv_iload hx hb dX7_winnerOf_96 (lv_at hl 2 rfl) ?_
      exact b_X7_winnerOf_J98 F A x5 x4 X ret hB13 _ _ _ h hP hD hS (lv_sub hl [1, 3] rfl)
    · replace h := h.2 c88
      exact b_X7_winnerOf_J91 F A x5 X ret hB13 _ _ _ h hP hD hS (lv_sub hl [1, 3] rfl)
def p_X7_winnerOf_J66 (F : tF) (A : tA) (B13 : (Int32 → Int32 → Prop)) (K : Int32 → tF → tA → Prop) (x4 : Int32) (x5 : Int32) : Prop := (p_X7_winnerOf_J67 F A B13 K x4 x5 (0 : Int32))
set_option maxHeartbeats 4000000 in
set_option maxRecDepth 100000 in
theorem b_X7_winnerOf_J66 {p : Program} {l : Launch} {e : Env} {s : State} {m : MethodId} {args : Array Value} {below : List Frame} {meth : Method} {c : Code} {Q : State → Prop} {D : va_G} {cI cZ cR : ClassId} {adK adV : Nat → Nat} {A9 : Nat → Prop} {o : Nat} {q : Nat → Nat} {K : Int32 → tF → tA → Prop} {B13 : (Int32 → Int32 → Prop)} (F : tF) (A : tA) (x4 : Int32) (x5 : Int32) (X : CX p s m args c yX7_winnerOf.cls cX7_winnerOf 7 D cI cZ cR adK adV A9) (ret : RTi p l e (rmN 4 93) s m args below meth c Q cX7_winnerOf D A9 (fun (r : Int32) (u : (tF × tA)) => K r u.1 u.2) (fun (u : (tF × tA)) => (wX7 cI cZ o q u.1 u.2 : va_W))) (hB13 : ∀ (x4 : Int32) (x5 : Int32) (H : Heap) (locs : List Loc) (ls : Array Slot), B13 x4 x5 → va_P D vwCl (wX7 cI cZ o q F A : va_W) H → va_D A9 (wX7 cI cZ o q F A : va_W) → va_S A9 s.heap H locs → lv_has ls 7 [(0, .ref o), (4, .int x4), (5, .int x5)] → W p l e (rmN 4 93) s m args below meth c H locs 0 0 Q (F0 m 13 ls [])) (H : Heap) (locs : List Loc) (ls : Array Slot) (h : p_X7_winnerOf_J66 F A B13 K x4 x5) (hP : va_P D vwCl (wX7 cI cZ o q F A : va_W) H) (hD : va_D A9 (wX7 cI cZ o q F A : va_W)) (hS : va_S A9 s.heap H locs) (hl : lv_has ls 7 [(0, .ref o), (4, .int x4), (5, .int x5)]) : W p l e (rmN 4 93) s m args below meth c H locs 0 0 Q (F0 m 66 ls []) := by
  obtain ⟨hx, hb, hml, ht, hown, hK, hA, hE⟩ := id X
  unfold p_X7_winnerOf_J66 at h
  refine lv_iconst (v := 0) hx hb dX7_winnerOf_66 (by decide) ?_
  exact b_X7_winnerOf_J67 F A x4 x5 (0 : Int32) X ret hB13 _ _ _ h hP hD hS (lv_sub hl [0, 1, 2] rfl)
def p_X7_winnerOf_L13 (F : tF) (A : tA) (K : Int32 → tF → tA → Prop) : Nat → Int32 → Int32 → Prop
  | 0, _, _ => False
  | n13 + 1, x4, x5 => (((6 : Int32) ≤ x5 → (K x4 F A)) ∧ (¬ (6 : Int32) ≤ x5 → (vp_in x5 6 ∧ (vp_in x4 6 ∧ ((¬ ((A 12) (x5).toNatClampNeg) = ((A 12) (x4).toNatClampNeg) → (p_X7_winnerOf_J66 F A (p_X7_winnerOf_L13 F A K n13) K x4 x5)) ∧ (((A 12) (x5).toNatClampNeg) = ((A 12) (x4).toNatClampNeg) → (p_X7_apart x5 ((A 0) 3) (fun r45 => (p_X7_apart x4 ((A 0) 3) (fun r56 => ((r56 ≤ r45 → (p_X7_winnerOf_J66 F A (p_X7_winnerOf_L13 F A K n13) K x4 x5)) ∧ (¬ r56 ≤ r45 → (p_X7_winnerOf_J67 F A (p_X7_winnerOf_L13 F A K n13) K x4 x5 (1 : Int32))))))))))))))
set_option maxHeartbeats 4000000 in
set_option maxRecDepth 100000 in
theorem b_X7_winnerOf_L13 {p : Program} {l : Launch} {e : Env} {s : State} {m : MethodId} {args : Array Value} {below : List Frame} {meth : Method} {c : Code} {Q : State → Prop} {D : va_G} {cI cZ cR : ClassId} {adK adV : Nat → Nat} {A9 : Nat → Prop} {o : Nat} {q : Nat → Nat} {K : Int32 → tF → tA → Prop}  (F : tF) (A : tA) (X : CX p s m args c yX7_winnerOf.cls cX7_winnerOf 7 D cI cZ cR adK adV A9) (ret : RTi p l e (rmN 4 93) s m args below meth c Q cX7_winnerOf D A9 (fun (r : Int32) (u : (tF × tA)) => K r u.1 u.2) (fun (u : (tF × tA)) => (wX7 cI cZ o q u.1 u.2 : va_W)))   : ∀ (n : Nat) (x4 : Int32) (x5 : Int32) (H : Heap) (locs : List Loc) (ls : Array Slot), p_X7_winnerOf_L13 F A K n x4 x5 → va_P D vwCl (wX7 cI cZ o q F A : va_W) H → va_D A9 (wX7 cI cZ o q F A : va_W) → va_S A9 s.heap H locs → lv_has ls 7 [(0, .ref o), (4, .int x4), (5, .int x5)] → W p l e (rmN 4 93) s m args below meth c H locs 0 0 Q (F0 m 13 ls []) := by
  obtain ⟨hx, hb, hml, ht, hown, hK, hA, hE⟩ := id X
  intro n
  induction n with
  | zero => intro x4 x5 H locs ls h; exact False.elim h
  | succ n13 ih =>
    intro x4 x5 H locs ls h hP hD hS hl
    rw [p_X7_winnerOf_L13] at h
    refine lv_iload hx hb dX7_winnerOf_13 (lv_at hl 2 rfl) ?_
    refine lv_bipush (v := 6) hx hb dX7_winnerOf_15 (by decide) ?_
    refine lv_icmp_ge (tgt := 106) hx hb dX7_winnerOf_17 (by decide) (fun c17 => ?_) (fun c17 => ?_)
    · replace h := h.1 c17
      refine lv_iload hx hb dX7_winnerOf_106 (lv_at hl 1 rfl) ?_
      exact ret _ (F, A) _ _ _ _ dX7_winnerOf_108 h hP hD hS
    · replace h := h.2 c17
      refine lv_aload_n hx hb dX7_winnerOf_20 rfl (lv_at hl 0 rfl) ?_
      refine va_get (C := RX7) (T := TX7) (N := 28) (own := RX7) (v := .ref (q 12)) hx hb ht inlX7 hown hK hP 0 rfl rfl 12 (Nat.le_of_ble_eq_true rfl) (ht _ mw_5_12) (fun _ h9 => h9) rfl dX7_winnerOf_21 ?_
      refine lv_iload hx hb dX7_winnerOf_24 (lv_at hl 2 rfl) ?_
      obtain ⟨hi26, h⟩ := h
      refine g_iald (f := (A 12)) (k := (x5).toNatClampNeg) hx hb hK hP 6 0 rfl rfl hi26 rfl dX7_winnerOf_26 ?_
      refine lv_aload_n hx hb dX7_winnerOf_27 rfl (lv_at hl 0 rfl) ?_
      refine va_get (C := RX7) (T := TX7) (N := 28) (own := RX7) (v := .ref (q 12)) hx hb ht inlX7 hown hK hP 0 rfl rfl 12 (Nat.le_of_ble_eq_true rfl) (ht _ mw_5_12) (fun _ h9 => h9) rfl dX7_winnerOf_28 ?_
      refine lv_iload hx hb dX7_winnerOf_31 (lv_at hl 1 rfl) ?_
      obtain ⟨hi33, h⟩ := h
      refine g_iald (f := (A 12)) (k := (x4).toNatClampNeg) hx hb hK hP 6 0 rfl rfl hi33 rfl dX7_winnerOf_33 ?_
      refine lv_icmp_ne (tgt := 66) hx hb dX7_winnerOf_34 (by decide) (fun c34 => ?_) (fun c34 => ?_)
      · replace h := h.1 c34
        exact b_X7_winnerOf_J66 F A x4 x5 X ret ih _ _ _ h hP hD hS (lv_sub hl [0, 1, 2] rfl)
      · replace h := h.2 c34
        refine lv_iload hx hb dX7_winnerOf_37 (lv_at hl 2 rfl) ?_
        refine lv_aload_n hx hb dX7_winnerOf_39 rfl (lv_at hl 0 rfl) ?_
        refine va_get (C := RX7) (T := TX7) (N := 28) (own := RX7) (v := .ref (q 0)) hx hb ht inlX7 hown hK hP 0 rfl rfl 0 (Nat.le_of_ble_eq_true rfl) (ht _ mw_5_7) (fun _ h9 => h9) rfl dX7_winnerOf_40 ?_
        refine lv_iconst (v := 3) hx hb dX7_winnerOf_43 (by decide) ?_
        refine g_iald (f := (A 0)) (k := 3) hx hb hK hP 1 0 rfl rfl (vp_in_lit rfl : vp_in (3 : Int32) 53) (by decide) dX7_winnerOf_44 ?_
        refine C_si (wr := [0, 1, 2, 3, 4, 5, 6, 7, 8, 9, 10, 11, 12, 13, 14, 15].filterMap (fun i => (wX7 cI cZ o q F A : va_W)[i]?)) X hP hD hS [.int x5, .int ((A 0) 3)] [] (w_X7_apart l D cI cZ cR adK adV _ x5 ((A 0) 3) _ h) cal_X7_apart mw_19_8 rfl [] [0, 1, 2, 3, 4, 5, 6, 7, 8, 9, 10, 11, 12, 13, 14, 15] [0, 1, 2, 3, 4, 5, 6, 7, 8, 9, 10, 11, 12, 13, 14, 15] (fun u => (wX7 cI cZ o q F A : va_W)) rfl rfl (fun _ => rfl) rfl ⟨rfl, rfl⟩ ⟨Nat.le_of_ble_eq_true rfl, Nat.le_of_ble_eq_true rfl⟩ hl.1 rfl (Nat.le_of_ble_eq_true rfl) ⟨Nat.zero_le _, Nat.zero_le _⟩ dX7_winnerOf_45 (fun r45 u H locs h hP hD hS => ?_)
        refine lv_iload hx hb dX7_winnerOf_48 (lv_at hl 1 rfl) ?_
        refine lv_aload_n hx hb dX7_winnerOf_50 rfl (lv_at hl 0 rfl) ?_
        refine va_get (C := RX7) (T := TX7) (N := 28) (own := RX7) (v := .ref (q 0)) hx hb ht inlX7 hown hK hP 0 rfl rfl 0 (Nat.le_of_ble_eq_true rfl) (ht _ mw_5_7) (fun _ h9 => h9) rfl dX7_winnerOf_51 ?_
        refine lv_iconst (v := 3) hx hb dX7_winnerOf_54 (by decide) ?_
        refine g_iald (f := (A 0)) (k := 3) hx hb hK hP 1 0 rfl rfl (vp_in_lit rfl : vp_in (3 : Int32) 53) (by decide) dX7_winnerOf_55 ?_
        refine C_si (wr := [0, 1, 2, 3, 4, 5, 6, 7, 8, 9, 10, 11, 12, 13, 14, 15].filterMap (fun i => (wX7 cI cZ o q F A : va_W)[i]?)) X hP hD hS [.int x4, .int ((A 0) 3)] [.int r45] (w_X7_apart l D cI cZ cR adK adV _ x4 ((A 0) 3) _ h) cal_X7_apart mw_19_8 rfl [] [0, 1, 2, 3, 4, 5, 6, 7, 8, 9, 10, 11, 12, 13, 14, 15] [0, 1, 2, 3, 4, 5, 6, 7, 8, 9, 10, 11, 12, 13, 14, 15] (fun u => (wX7 cI cZ o q F A : va_W)) rfl rfl (fun _ => rfl) rfl ⟨rfl, rfl⟩ ⟨Nat.le_of_ble_eq_true rfl, Nat.le_of_ble_eq_true rfl⟩ hl.1 rfl (Nat.le_of_ble_eq_true rfl) ⟨Nat.zero_le _, Nat.zero_le _⟩ dX7_winnerOf_56 (fun r56 u H locs h hP hD hS => ?_)
        refine lv_icmp_ge (tgt := 66) hx hb dX7_winnerOf_59 (by decide) (fun c59 => ?_) (fun c59 => ?_)
        · replace h := h.1 c59
          exact b_X7_winnerOf_J66 F A x4 x5 X ret ih _ _ _ h hP hD hS (lv_sub hl [0, 1, 2] rfl)
        · replace h := h.2 c59
          refine lv_iconst (v := 1) hx hb dX7_winnerOf_62 (by decide) ?_
          refine lv_goto (tgt := 67) hx hb dX7_winnerOf_63 (by decide) ?_
          exact b_X7_winnerOf_J67 F A x4 x5 (1 : Int32) X ret ih _ _ _ h hP hD hS (lv_sub hl [0, 1, 2] rfl)
def p_X7_winnerOf (F : tF) (A : tA) (x1 : Int32) (x2 : Int32) (x3 : Int32) (K : Int32 → tF → tA → Prop) : Prop := (p_X7_polls F A x1 x2 x3 (fun F_4 A_4 => (∃ n13, p_X7_winnerOf_L13 F_4 A_4 K n13 (0 : Int32) (1 : Int32))))
set_option maxHeartbeats 4000000 in
set_option maxRecDepth 100000 in
theorem w_X7_winnerOf (l : Launch) (D : va_G) (cI cZ cR : ClassId) (adK adV : Nat → Nat) (sz : Nat) (o : Nat) (q : Nat → Nat) (F : tF) (A : tA) (x1 : Int32) (x2 : Int32) (x3 : Int32) (K : Int32 → tF → tA → Prop) (h : p_X7_winnerOf F A x1 x2 x3 K) : MI l D cI cZ cR adK adV yX7_winnerOf cX7_winnerOf 7 (some .int) (rmN 4 93) [.ref o, .int x1, .int x2, .int x3] (wX7 cI cZ o q F A : va_W) sz (fun (r : Int32) (u : (tF × tA)) => K r u.1 u.2) (fun (u : (tF × tA)) => (wX7 cI cZ o q u.1 u.2 : va_W)) := by
  refine M_i (by decide +kernel) (Nat.le_of_ble_eq_true rfl) ?_
  intro p e s m args below meth c Q A9 ls X ret hP hD hS hl
  obtain ⟨hx, hb, hml, ht, hown, hK, hA, hE⟩ := id X
  have hl : lv_has ls 7 [(0, .ref o), (1, .int x1), (2, .int x2), (3, .int x3)] := hl
  unfold p_X7_winnerOf at h
  refine lv_aload_n hx hb dX7_winnerOf_0 rfl (lv_at hl 0 rfl) ?_
  refine lv_iload_n hx hb dX7_winnerOf_1 rfl (lv_at hl 1 rfl) ?_
  refine lv_iload_n hx hb dX7_winnerOf_2 rfl (lv_at hl 2 rfl) ?_
  refine lv_iload_n hx hb dX7_winnerOf_3 rfl (lv_at hl 3 rfl) ?_
  refine C_vv (wr := []) X hP hD hS [.int x1, .int x2, .int x3] [] (w_X7_polls l D cI cZ cR adK adV _ o q F A x1 x2 x3 _ h) cal_X7_polls mw_22_13 rfl [0, 1, 2, 3, 4, 5, 6, 7, 8, 9, 10, 11, 12, 13, 14, 15] [] [0, 1, 2, 3, 4, 5, 6, 7, 8, 9, 10, 11, 12, 13, 14, 15] (fun u => (wX7 cI cZ o q u.1 u.2 : va_W)) rfl rfl (fun _ => rfl) rfl 0 rfl rfl ⟨rfl, rfl⟩ ⟨Nat.le_of_ble_eq_true rfl, Nat.le_of_ble_eq_true rfl⟩ hl.1 rfl (Nat.le_of_ble_eq_true rfl) ⟨Nat.zero_le _, Nat.zero_le _⟩ dX7_winnerOf_4 (fun u H locs h hP hD hS => ?_)
  obtain ⟨F_4, A_4⟩ := u
  try dsimp only at h
  have hP : va_P D vwCl (wX7 cI cZ o q F_4 A_4 : va_W) H := hP
  have hD : va_D A9 (wX7 cI cZ o q F_4 A_4 : va_W) := hD
  refine lv_iconst (v := 0) hx hb dX7_winnerOf_7 (by decide) ?_
  refine lv_istore (lv' := [(4, .int (0 : Int32)), (0, .ref o), (1, .int x1), (2, .int x2), (3, .int x3)]) hx hb dX7_winnerOf_8 hl (by decide) rfl (fun ls hl => ?_)
  refine lv_iconst (v := 1) hx hb dX7_winnerOf_10 (by decide) ?_
  refine lv_istore (lv' := [(5, .int (1 : Int32)), (4, .int (0 : Int32)), (0, .ref o), (1, .int x1), (2, .int x2), (3, .int x3)]) hx hb dX7_winnerOf_11 hl (by decide) rfl (fun ls hl => ?_)
  obtain ⟨n13, h⟩ := h
  exact b_X7_winnerOf_L13 F_4 A_4 X ret  n13 (0 : Int32) (1 : Int32) _ _ _ h hP hD hS (lv_sub hl [2, 1, 0] rfl)
theorem dX7_voters_0 : decode cX7_voters 0 = .ok (.iconst 0, 1) := by decide +kernel
theorem dX7_voters_1 : decode cX7_voters 1 = .ok (.istore_n 2, 1) := by decide +kernel
theorem dX7_voters_2 : decode cX7_voters 2 = .ok (.iconst 0, 1) := by decide +kernel
theorem dX7_voters_3 : decode cX7_voters 3 = .ok (.istore_n 3, 1) := by decide +kernel
theorem dX7_voters_4 : decode cX7_voters 4 = .ok (.iload_n 3, 1) := by decide +kernel
theorem dX7_voters_5 : decode cX7_voters 5 = .ok (.aload_n 0, 1) := by decide +kernel
theorem dX7_voters_6 : decode cX7_voters 6 = .ok (.getfield 7, 3) := by decide +kernel
theorem dX7_voters_9 : decode cX7_voters 9 = .ok (.iconst 0, 1) := by decide +kernel
theorem dX7_voters_10 : decode cX7_voters 10 = .ok (.iaload, 1) := by decide +kernel
theorem dX7_voters_11 : decode cX7_voters 11 = .ok (.if_icmp .ge 28, 3) := by decide +kernel
theorem dX7_voters_14 : decode cX7_voters 14 = .ok (.iload_n 2, 1) := by decide +kernel
theorem dX7_voters_15 : decode cX7_voters 15 = .ok (.aload_n 0, 1) := by decide +kernel
theorem dX7_voters_16 : decode cX7_voters 16 = .ok (.iload_n 3, 1) := by decide +kernel
theorem dX7_voters_17 : decode cX7_voters 17 = .ok (.invokevirtual 184, 3) := by decide +kernel
theorem dX7_voters_20 : decode cX7_voters 20 = .ok (.iload_n 1, 1) := by decide +kernel
theorem dX7_voters_21 : decode cX7_voters 21 = .ok (.if_icmp .ne 9, 3) := by decide +kernel
theorem dX7_voters_24 : decode cX7_voters 24 = .ok (.iconst 1, 1) := by decide +kernel
theorem dX7_voters_25 : decode cX7_voters 25 = .ok (.iload_n 3, 1) := by decide +kernel
theorem dX7_voters_26 : decode cX7_voters 26 = .ok (.ishl, 1) := by decide +kernel
theorem dX7_voters_27 : decode cX7_voters 27 = .ok (.goto 4, 3) := by decide +kernel
theorem dX7_voters_30 : decode cX7_voters 30 = .ok (.iconst 0, 1) := by decide +kernel
theorem dX7_voters_31 : decode cX7_voters 31 = .ok (.ior, 1) := by decide +kernel
theorem dX7_voters_32 : decode cX7_voters 32 = .ok (.istore_n 2, 1) := by decide +kernel
theorem dX7_voters_33 : decode cX7_voters 33 = .ok (.iinc 3 1, 3) := by decide +kernel
theorem dX7_voters_36 : decode cX7_voters 36 = .ok (.goto (-32), 3) := by decide +kernel
theorem dX7_voters_39 : decode cX7_voters 39 = .ok (.iload_n 2, 1) := by decide +kernel
theorem dX7_voters_40 : decode cX7_voters 40 = .ok (.ireturn, 1) := by decide +kernel
def p_X7_voters_J31 (F : tF) (A : tA) (B4 : (Int32 → Int32 → Prop)) (K : Int32 → Prop) (x1 : Int32) (x3 : Int32) (s0 : Int32) (s1 : Int32) : Prop := (∀ y32 : Int32, y32 = (s1 ||| s0) → (∀ y33 : Int32, y33 = (x3 + (1 : Int32)) → (B4 y32 y33)))
set_option maxHeartbeats 4000000 in
set_option maxRecDepth 100000 in
theorem b_X7_voters_J31 {p : Program} {l : Launch} {e : Env} {s : State} {m : MethodId} {args : Array Value} {below : List Frame} {meth : Method} {c : Code} {Q : State → Prop} {D : va_G} {cI cZ cR : ClassId} {adK adV : Nat → Nat} {A9 : Nat → Prop} {o : Nat} {q : Nat → Nat} {K : Int32 → Prop} {B4 : (Int32 → Int32 → Prop)} (F : tF) (A : tA) (x1 : Int32) (x3 : Int32) (s0 : Int32) (s1 : Int32) (X : CX p s m args c yX7_voters.cls cX7_voters 4 D cI cZ cR adK adV A9) (ret : RTi p l e (rmN 3 69) s m args below meth c Q cX7_voters D A9 (fun (r : Int32) (u : Unit) => K r) (fun (u : Unit) => (wX7 cI cZ o q F A : va_W))) (hB4 : ∀ (x2 : Int32) (x3 : Int32) (H : Heap) (locs : List Loc) (ls : Array Slot), B4 x2 x3 → va_P D vwCl (wX7 cI cZ o q F A : va_W) H → va_D A9 (wX7 cI cZ o q F A : va_W) → va_S A9 s.heap H locs → lv_has ls 4 [(0, .ref o), (1, .int x1), (2, .int x2), (3, .int x3)] → W p l e (rmN 3 69) s m args below meth c H locs 0 0 Q (F0 m 4 ls [])) (H : Heap) (locs : List Loc) (ls : Array Slot) (h : p_X7_voters_J31 F A B4 K x1 x3 s0 s1) (hP : va_P D vwCl (wX7 cI cZ o q F A : va_W) H) (hD : va_D A9 (wX7 cI cZ o q F A : va_W)) (hS : va_S A9 s.heap H locs) (hl : lv_has ls 4 [(0, .ref o), (1, .int x1), (3, .int x3)]) : W p l e (rmN 3 69) s m args below meth c H locs 0 0 Q (F0 m 31 ls [.int s0, .int s1]) := by
  obtain ⟨hx, hb, hml, ht, hown, hK, hA, hE⟩ := id X
  unfold p_X7_voters_J31 at h
  refine lv_ior hx hb dX7_voters_31 ?_
  refine lv_topi (fun y32 ey32 => ?_)
  replace h := h y32 ey32
  refine lv_istore_n (lv' := [(2, .int y32), (0, .ref o), (1, .int x1), (3, .int x3)]) hx hb dX7_voters_32 rfl hl (by decide) rfl (fun ls hl => ?_)
  obtain ⟨y33, ey33⟩ : ∃ y : Int32, y = (x3 + (1 : Int32)) := ⟨_, rfl⟩
  replace h := h y33 ey33
  refine lv_iinc (v := y33) (lv' := [(3, .int y33), (2, .int y32), (0, .ref o), (1, .int x1)]) hx hb dX7_voters_33 hl (k := 3) rfl (by rw [ey33]; rfl) (by decide) rfl (fun ls hl => ?_)
  refine lv_goto (tgt := 4) hx hb dX7_voters_36 (by decide) ?_
  exact hB4 y32 y33 _ _ _ h hP hD hS (lv_sub hl [2, 3, 1, 0] rfl)
def p_X7_voters_L4 (F : tF) (A : tA) (x1 : Int32) (K : Int32 → Prop) : Nat → Int32 → Int32 → Prop
  | 0, _, _ => False
  | n4 + 1, x2, x3 => ((((A 0) 0) ≤ x3 → (K x2)) ∧ (¬ ((A 0) 0) ≤ x3 → (p_X7_voteOf F A x3 (fun r17 => ((¬ r17 = x1 → (p_X7_voters_J31 F A (p_X7_voters_L4 F A x1 K n4) K x1 x3 (0 : Int32) x2)) ∧ (r17 = x1 → (p_X7_voters_J31 F A (p_X7_voters_L4 F A x1 K n4) K x1 x3 ((1 : Int32) <<< (x3 &&& 31)) x2)))))))
set_option maxHeartbeats 4000000 in
set_option maxRecDepth 100000 in
theorem b_X7_voters_L4 {p : Program} {l : Launch} {e : Env} {s : State} {m : MethodId} {args : Array Value} {below : List Frame} {meth : Method} {c : Code} {Q : State → Prop} {D : va_G} {cI cZ cR : ClassId} {adK adV : Nat → Nat} {A9 : Nat → Prop} {o : Nat} {q : Nat → Nat} {K : Int32 → Prop}  (F : tF) (A : tA) (x1 : Int32) (X : CX p s m args c yX7_voters.cls cX7_voters 4 D cI cZ cR adK adV A9) (ret : RTi p l e (rmN 3 69) s m args below meth c Q cX7_voters D A9 (fun (r : Int32) (u : Unit) => K r) (fun (u : Unit) => (wX7 cI cZ o q F A : va_W)))   : ∀ (n : Nat) (x2 : Int32) (x3 : Int32) (H : Heap) (locs : List Loc) (ls : Array Slot), p_X7_voters_L4 F A x1 K n x2 x3 → va_P D vwCl (wX7 cI cZ o q F A : va_W) H → va_D A9 (wX7 cI cZ o q F A : va_W) → va_S A9 s.heap H locs → lv_has ls 4 [(0, .ref o), (1, .int x1), (2, .int x2), (3, .int x3)] → W p l e (rmN 3 69) s m args below meth c H locs 0 0 Q (F0 m 4 ls []) := by
  obtain ⟨hx, hb, hml, ht, hown, hK, hA, hE⟩ := id X
  intro n
  induction n with
  | zero => intro x2 x3 H locs ls h; exact False.elim h
  | succ n4 ih =>
    intro x2 x3 H locs ls h hP hD hS hl
    rw [p_X7_voters_L4] at h
    refine lv_iload_n hx hb dX7_voters_4 rfl (lv_at hl 3 rfl) ?_
    refine lv_aload_n hx hb dX7_voters_5 rfl (lv_at hl 0 rfl) ?_
    refine va_get (C := RX7) (T := TX7) (N := 28) (own := RX7) (v := .ref (q 0)) hx hb ht inlX7 hown hK hP 0 rfl rfl 0 (Nat.le_of_ble_eq_true rfl) (ht _ mw_5_7) (fun _ h9 => h9) rfl dX7_voters_6 ?_
    refine lv_iconst (v := 0) hx hb dX7_voters_9 (by decide) ?_
    refine g_iald (f := (A 0)) (k := 0) hx hb hK hP 1 0 rfl rfl (vp_in_lit rfl : vp_in (0 : Int32) 53) (by decide) dX7_voters_10 ?_
    refine lv_icmp_ge (tgt := 39) hx hb dX7_voters_11 (by decide) (fun c11 => ?_) (fun c11 => ?_)
    · replace h := h.1 c11
      refine lv_iload_n hx hb dX7_voters_39 rfl (lv_at hl 2 rfl) ?_
      exact ret _ () _ _ _ _ dX7_voters_40 h hP hD hS
    · replace h := h.2 c11
      refine lv_iload_n hx hb dX7_voters_14 rfl (lv_at hl 2 rfl) ?_
      refine lv_aload_n hx hb dX7_voters_15 rfl (lv_at hl 0 rfl) ?_
      refine lv_iload_n hx hb dX7_voters_16 rfl (lv_at hl 3 rfl) ?_
      refine C_vi (wr := []) X hP hD hS [.int x3] [.int x2] (w_X7_voteOf l D cI cZ cR adK adV _ o q F A x3 _ h) cal_X7_voteOf mw_19_0 rfl [0, 1, 2, 3, 4, 5, 6, 7, 8, 9, 10, 11, 12, 13, 14, 15] [] [0, 1, 2, 3, 4, 5, 6, 7, 8, 9, 10, 11, 12, 13, 14, 15] (fun u => (wX7 cI cZ o q F A : va_W)) rfl rfl (fun _ => rfl) rfl 0 rfl rfl ⟨rfl, rfl⟩ ⟨Nat.le_of_ble_eq_true rfl, Nat.le_of_ble_eq_true rfl⟩ hl.1 rfl (Nat.le_of_ble_eq_true rfl) ⟨Nat.zero_le _, Nat.zero_le _⟩ dX7_voters_17 (fun r17 u H locs h hP hD hS => ?_)
      refine lv_iload_n hx hb dX7_voters_20 rfl (lv_at hl 1 rfl) ?_
      refine lv_icmp_ne (tgt := 30) hx hb dX7_voters_21 (by decide) (fun c21 => ?_) (fun c21 => ?_)
      · replace h := h.1 c21
        refine lv_iconst (v := 0) hx hb dX7_voters_30 (by decide) ?_
        exact b_X7_voters_J31 F A x1 x3 (0 : Int32) x2 X ret ih _ _ _ h hP hD hS (lv_sub hl [0, 1, 3] rfl)
      · replace h := h.2 c21
        refine lv_iconst (v := 1) hx hb dX7_voters_24 (by decide) ?_
        refine lv_iload_n hx hb dX7_voters_25 rfl (lv_at hl 3 rfl) ?_
        refine lv_ishl hx hb dX7_voters_26 ?_
        refine lv_goto (tgt := 31) hx hb dX7_voters_27 (by decide) ?_
        exact b_X7_voters_J31 F A x1 x3 ((1 : Int32) <<< (x3 &&& 31)) x2 X ret ih _ _ _ h hP hD hS (lv_sub hl [0, 1, 3] rfl)
def p_X7_voters (F : tF) (A : tA) (x1 : Int32) (K : Int32 → Prop) : Prop := (∃ n4, p_X7_voters_L4 F A x1 K n4 (0 : Int32) (0 : Int32))
set_option maxHeartbeats 4000000 in
set_option maxRecDepth 100000 in
theorem w_X7_voters (l : Launch) (D : va_G) (cI cZ cR : ClassId) (adK adV : Nat → Nat) (sz : Nat) (o : Nat) (q : Nat → Nat) (F : tF) (A : tA) (x1 : Int32) (K : Int32 → Prop) (h : p_X7_voters F A x1 K) : MI l D cI cZ cR adK adV yX7_voters cX7_voters 4 (some .int) (rmN 3 69) [.ref o, .int x1] (wX7 cI cZ o q F A : va_W) sz (fun (r : Int32) (u : Unit) => K r) (fun (u : Unit) => (wX7 cI cZ o q F A : va_W)) := by
  refine M_i (by decide +kernel) (Nat.le_of_ble_eq_true rfl) ?_
  intro p e s m args below meth c Q A9 ls X ret hP hD hS hl
  obtain ⟨hx, hb, hml, ht, hown, hK, hA, hE⟩ := id X
  have hl : lv_has ls 4 [(0, .ref o), (1, .int x1)] := hl
  unfold p_X7_voters at h
  refine lv_iconst (v := 0) hx hb dX7_voters_0 (by decide) ?_
  refine lv_istore_n (lv' := [(2, .int (0 : Int32)), (0, .ref o), (1, .int x1)]) hx hb dX7_voters_1 rfl hl (by decide) rfl (fun ls hl => ?_)
  refine lv_iconst (v := 0) hx hb dX7_voters_2 (by decide) ?_
  refine lv_istore_n (lv' := [(3, .int (0 : Int32)), (2, .int (0 : Int32)), (0, .ref o), (1, .int x1)]) hx hb dX7_voters_3 rfl hl (by decide) rfl (fun ls hl => ?_)
  obtain ⟨n4, h⟩ := h
  exact b_X7_voters_L4 F A x1 X ret  n4 (0 : Int32) (0 : Int32) _ _ _ h hP hD hS (lv_sub hl [2, 3, 1, 0] rfl)
theorem cal_X7_voters : CalV yX7_voters cX7_voters 4 (some .int) 1 := ⟨mw_22_20, mw_1_5, mw_22_18, mw_22_19, ⟨by decide +kernel, by decide +kernel, by decide +kernel⟩⟩
theorem dX7_place_0 : decode cX7_place 0 = .ok (.iload_n 1, 1) := by decide +kernel
theorem dX7_place_1 : decode cX7_place 1 = .ok (.invokestatic 166, 3) := by decide +kernel
theorem dX7_place_4 : decode cX7_place 4 = .ok (.ifCond .eq 15, 3) := by decide +kernel
theorem dX7_place_7 : decode cX7_place 7 = .ok (.iload_n 2, 1) := by decide +kernel
theorem dX7_place_8 : decode cX7_place 8 = .ok (.i2l, 1) := by decide +kernel
theorem dX7_place_9 : decode cX7_place 9 = .ok (.lconst 0, 1) := by decide +kernel
theorem dX7_place_10 : decode cX7_place 10 = .ok (.ldc2_w 154, 3) := by decide +kernel
theorem dX7_place_13 : decode cX7_place 13 = .ok (.invokestatic 61, 3) := by decide +kernel
theorem dX7_place_16 : decode cX7_place 16 = .ok (.ifCond .ne 5, 3) := by decide +kernel
theorem dX7_place_19 : decode cX7_place 19 = .ok (.iconst (-1), 1) := by decide +kernel
theorem dX7_place_20 : decode cX7_place 20 = .ok (.ireturn, 1) := by decide +kernel
theorem dX7_place_21 : decode cX7_place 21 = .ok (.aload_n 0, 1) := by decide +kernel
theorem dX7_place_22 : decode cX7_place 22 = .ok (.iconst 0, 1) := by decide +kernel
theorem dX7_place_23 : decode cX7_place 23 = .ok (.iconst (-1), 1) := by decide +kernel
theorem dX7_place_24 : decode cX7_place 24 = .ok (.iconst 0, 1) := by decide +kernel
theorem dX7_place_25 : decode cX7_place 25 = .ok (.invokevirtual 190, 3) := by decide +kernel
theorem dX7_place_28 : decode cX7_place 28 = .ok (.iload_n 2, 1) := by decide +kernel
theorem dX7_place_29 : decode cX7_place 29 = .ok (.ifCond .ne 15, 3) := by decide +kernel
theorem dX7_place_32 : decode cX7_place 32 = .ok (.aload_n 0, 1) := by decide +kernel
theorem dX7_place_33 : decode cX7_place 33 = .ok (.getfield 7, 3) := by decide +kernel
theorem dX7_place_36 : decode cX7_place 36 = .ok (.bipush 9, 2) := by decide +kernel
theorem dX7_place_38 : decode cX7_place 38 = .ok (.iload_n 1, 1) := by decide +kernel
theorem dX7_place_39 : decode cX7_place 39 = .ok (.iadd, 1) := by decide +kernel
theorem dX7_place_40 : decode cX7_place 40 = .ok (.iaload, 1) := by decide +kernel
theorem dX7_place_41 : decode cX7_place 41 = .ok (.goto 39, 3) := by decide +kernel
theorem dX7_place_44 : decode cX7_place 44 = .ok (.iload_n 2, 1) := by decide +kernel
theorem dX7_place_45 : decode cX7_place 45 = .ok (.iconst 1, 1) := by decide +kernel
theorem dX7_place_46 : decode cX7_place 46 = .ok (.if_icmp .ne 15, 3) := by decide +kernel
theorem dX7_place_49 : decode cX7_place 49 = .ok (.aload_n 0, 1) := by decide +kernel
theorem dX7_place_50 : decode cX7_place 50 = .ok (.getfield 7, 3) := by decide +kernel
theorem dX7_place_53 : decode cX7_place 53 = .ok (.bipush 15, 2) := by decide +kernel
theorem dX7_place_55 : decode cX7_place 55 = .ok (.iload_n 1, 1) := by decide +kernel
theorem dX7_place_56 : decode cX7_place 56 = .ok (.iadd, 1) := by decide +kernel
theorem dX7_place_57 : decode cX7_place 57 = .ok (.iaload, 1) := by decide +kernel
theorem dX7_place_58 : decode cX7_place 58 = .ok (.goto 22, 3) := by decide +kernel
theorem dX7_place_61 : decode cX7_place 61 = .ok (.iload_n 2, 1) := by decide +kernel
theorem dX7_place_62 : decode cX7_place 62 = .ok (.iconst 2, 1) := by decide +kernel
theorem dX7_place_63 : decode cX7_place 63 = .ok (.if_icmp .ne 11, 3) := by decide +kernel
theorem dX7_place_66 : decode cX7_place 66 = .ok (.aload_n 0, 1) := by decide +kernel
theorem dX7_place_67 : decode cX7_place 67 = .ok (.iload_n 1, 1) := by decide +kernel
theorem dX7_place_68 : decode cX7_place 68 = .ok (.invokevirtual 194, 3) := by decide +kernel
theorem dX7_place_71 : decode cX7_place 71 = .ok (.goto 9, 3) := by decide +kernel
theorem dX7_place_74 : decode cX7_place 74 = .ok (.aload_n 0, 1) := by decide +kernel
theorem dX7_place_75 : decode cX7_place 75 = .ok (.getfield 25, 3) := by decide +kernel
theorem dX7_place_78 : decode cX7_place 78 = .ok (.iload_n 1, 1) := by decide +kernel
theorem dX7_place_79 : decode cX7_place 79 = .ok (.iaload, 1) := by decide +kernel
theorem dX7_place_80 : decode cX7_place 80 = .ok (.ireturn, 1) := by decide +kernel
def p_X7_place (F : tF) (A : tA) (x1 : Int32) (x2 : Int32) (K : Int32 → tF → tA → Prop) : Prop := (p_X7_isPlace x1 (fun r1 => ((r1 = 0 → (K (-1 : Int32) F A)) ∧ (¬ r1 = 0 → (p_X7_isIn ((x2).toInt64) (0 : Int64) (3 : Int64) (fun r13 => ((¬ r13 = 0 → (p_X7_polls F A (0 : Int32) (-1 : Int32) (0 : Int32) (fun F_25 A_25 => ((¬ x2 = 0 → ((¬ x2 = (1 : Int32) → ((¬ x2 = (2 : Int32) → (vp_in x1 6 ∧ (K ((A_25 12) (x1).toNatClampNeg) F_25 A_25))) ∧ (x2 = (2 : Int32) → (p_X7_voters F_25 A_25 x1 (fun r68 => (K r68 F_25 A_25)))))) ∧ (x2 = (1 : Int32) → (vp_in ((15 : Int32) + x1) 53 ∧ (K ((A_25 0) (((15 : Int32) + x1)).toNatClampNeg) F_25 A_25))))) ∧ (x2 = 0 → (vp_in ((9 : Int32) + x1) 53 ∧ (K ((A_25 0) (((9 : Int32) + x1)).toNatClampNeg) F_25 A_25))))))) ∧ (r13 = 0 → (K (-1 : Int32) F A)))))))))
set_option maxHeartbeats 4000000 in
set_option maxRecDepth 100000 in
theorem w_X7_place (l : Launch) (D : va_G) (cI cZ cR : ClassId) (adK adV : Nat → Nat) (sz : Nat) (o : Nat) (q : Nat → Nat) (F : tF) (A : tA) (x1 : Int32) (x2 : Int32) (K : Int32 → tF → tA → Prop) (h : p_X7_place F A x1 x2 K) : MI l D cI cZ cR adK adV yX7_place cX7_place 3 (some .int) (rmN 4 93) [.ref o, .int x1, .int x2] (wX7 cI cZ o q F A : va_W) sz (fun (r : Int32) (u : (tF × tA)) => K r u.1 u.2) (fun (u : (tF × tA)) => (wX7 cI cZ o q u.1 u.2 : va_W)) := by
  refine M_i (by decide +kernel) (Nat.le_of_ble_eq_true rfl) ?_
  intro p e s m args below meth c Q A9 ls X ret hP hD hS hl
  obtain ⟨hx, hb, hml, ht, hown, hK, hA, hE⟩ := id X
  have hl : lv_has ls 3 [(0, .ref o), (1, .int x1), (2, .int x2)] := hl
  unfold p_X7_place at h
  refine lv_iload_n hx hb dX7_place_0 rfl (lv_at hl 1 rfl) ?_
  refine C_si (wr := [0, 1, 2, 3, 4, 5, 6, 7, 8, 9, 10, 11, 12, 13, 14, 15].filterMap (fun i => (wX7 cI cZ o q F A : va_W)[i]?)) X hP hD hS [.int x1] [] (w_X7_isPlace l D cI cZ cR adK adV _ x1 _ h) cal_X7_isPlace mw_16_21 rfl [] [0, 1, 2, 3, 4, 5, 6, 7, 8, 9, 10, 11, 12, 13, 14, 15] [0, 1, 2, 3, 4, 5, 6, 7, 8, 9, 10, 11, 12, 13, 14, 15] (fun u => (wX7 cI cZ o q F A : va_W)) rfl rfl (fun _ => rfl) rfl ⟨rfl, rfl⟩ ⟨Nat.le_of_ble_eq_true rfl, Nat.le_of_ble_eq_true rfl⟩ hl.1 rfl (Nat.le_of_ble_eq_true rfl) ⟨Nat.zero_le _, Nat.zero_le _⟩ dX7_place_1 (fun r1 u H locs h hP hD hS => ?_)
  refine lv_if_eq (tgt := 19) hx hb dX7_place_4 (by decide) (fun c4 => ?_) (fun c4 => ?_)
  · replace h := h.1 c4
    refine lv_iconst (v := -1) hx hb dX7_place_19 (by decide) ?_
    exact ret _ (F, A) _ _ _ _ dX7_place_20 h hP hD hS
  · replace h := h.2 c4
    refine lv_iload_n hx hb dX7_place_7 rfl (lv_at hl 2 rfl) ?_
    refine lv_i2l (v := (x2).toInt64) hx hb dX7_place_8 rfl ?_
    refine lv_lconst (v := 0) hx hb dX7_place_9 (by decide) ?_
    refine lv_ldc2 (v := 3) hx hb hown (ht _ mw_15_17) dX7_place_10 ?_
    refine C_si (wr := [0, 1, 2, 3, 4, 5, 6, 7, 8, 9, 10, 11, 12, 13, 14, 15].filterMap (fun i => (wX7 cI cZ o q F A : va_W)[i]?)) X hP hD hS [.long (x2).toInt64, .long (0 : Int64), .long (3 : Int64)] [] (w_X7_isIn l D cI cZ cR adK adV _ ((x2).toInt64) (0 : Int64) (3 : Int64) _ h) cal_X7_isIn mw_6_19 rfl [] [0, 1, 2, 3, 4, 5, 6, 7, 8, 9, 10, 11, 12, 13, 14, 15] [0, 1, 2, 3, 4, 5, 6, 7, 8, 9, 10, 11, 12, 13, 14, 15] (fun u => (wX7 cI cZ o q F A : va_W)) rfl rfl (fun _ => rfl) rfl ⟨rfl, rfl⟩ ⟨Nat.le_of_ble_eq_true rfl, Nat.le_of_ble_eq_true rfl⟩ hl.1 rfl (Nat.le_of_ble_eq_true rfl) ⟨Nat.zero_le _, Nat.zero_le _⟩ dX7_place_13 (fun r13 u H locs h hP hD hS => ?_)
    refine lv_if_ne (tgt := 21) hx hb dX7_place_16 (by decide) (fun c16 => ?_) (fun c16 => ?_)
    · replace h := h.1 c16
      refine lv_aload_n hx hb dX7_place_21 rfl (lv_at hl 0 rfl) ?_
      refine lv_iconst (v := 0) hx hb dX7_place_22 (by decide) ?_
      refine lv_iconst (v := -1) hx hb dX7_place_23 (by decide) ?_
      refine lv_iconst (v := 0) hx hb dX7_place_24 (by decide) ?_
      refine C_vv (wr := []) X hP hD hS [.int (0 : Int32), .int (-1 : Int32), .int (0 : Int32)] [] (w_X7_polls l D cI cZ cR adK adV _ o q F A (0 : Int32) (-1 : Int32) (0 : Int32) _ h) cal_X7_polls mw_22_13 rfl [0, 1, 2, 3, 4, 5, 6, 7, 8, 9, 10, 11, 12, 13, 14, 15] [] [0, 1, 2, 3, 4, 5, 6, 7, 8, 9, 10, 11, 12, 13, 14, 15] (fun u => (wX7 cI cZ o q u.1 u.2 : va_W)) rfl rfl (fun _ => rfl) rfl 0 rfl rfl ⟨rfl, rfl⟩ ⟨Nat.le_of_ble_eq_true rfl, Nat.le_of_ble_eq_true rfl⟩ hl.1 rfl (Nat.le_of_ble_eq_true rfl) ⟨Nat.zero_le _, Nat.zero_le _⟩ dX7_place_25 (fun u H locs h hP hD hS => ?_)
      obtain ⟨F_25, A_25⟩ := u
      try dsimp only at h
      have hP : va_P D vwCl (wX7 cI cZ o q F_25 A_25 : va_W) H := hP
      have hD : va_D A9 (wX7 cI cZ o q F_25 A_25 : va_W) := hD
      refine lv_iload_n hx hb dX7_place_28 rfl (lv_at hl 2 rfl) ?_
      refine lv_if_ne (tgt := 44) hx hb dX7_place_29 (by decide) (fun c29 => ?_) (fun c29 => ?_)
      · replace h := h.1 c29
        refine lv_iload_n hx hb dX7_place_44 rfl (lv_at hl 2 rfl) ?_
        refine lv_iconst (v := 1) hx hb dX7_place_45 (by decide) ?_
        refine lv_icmp_ne (tgt := 61) hx hb dX7_place_46 (by decide) (fun c46 => ?_) (fun c46 => ?_)
        · replace h := h.1 c46
          refine lv_iload_n hx hb dX7_place_61 rfl (lv_at hl 2 rfl) ?_
          refine lv_iconst (v := 2) hx hb dX7_place_62 (by decide) ?_
          refine lv_icmp_ne (tgt := 74) hx hb dX7_place_63 (by decide) (fun c63 => ?_) (fun c63 => ?_)
          · replace h := h.1 c63
            refine lv_aload_n hx hb dX7_place_74 rfl (lv_at hl 0 rfl) ?_
            refine va_get (C := RX7) (T := TX7) (N := 28) (own := RX7) (v := .ref (q 12)) hx hb ht inlX7 hown hK hP 0 rfl rfl 12 (Nat.le_of_ble_eq_true rfl) (ht _ mw_5_12) (fun _ h9 => h9) rfl dX7_place_75 ?_
            refine lv_iload_n hx hb dX7_place_78 rfl (lv_at hl 1 rfl) ?_
            obtain ⟨hi79, h⟩ := h
            refine g_iald (f := (A_25 12)) (k := (x1).toNatClampNeg) hx hb hK hP 6 0 rfl rfl hi79 rfl dX7_place_79 ?_
            exact ret _ (F_25, A_25) _ _ _ _ dX7_place_80 h hP hD hS
          · replace h := h.2 c63
            refine lv_aload_n hx hb dX7_place_66 rfl (lv_at hl 0 rfl) ?_
            refine lv_iload_n hx hb dX7_place_67 rfl (lv_at hl 1 rfl) ?_
            refine C_vi (wr := []) X hP hD hS [.int x1] [] (w_X7_voters l D cI cZ cR adK adV _ o q F_25 A_25 x1 _ h) cal_X7_voters mw_22_17 rfl [0, 1, 2, 3, 4, 5, 6, 7, 8, 9, 10, 11, 12, 13, 14, 15] [] [0, 1, 2, 3, 4, 5, 6, 7, 8, 9, 10, 11, 12, 13, 14, 15] (fun u => (wX7 cI cZ o q F_25 A_25 : va_W)) rfl rfl (fun _ => rfl) rfl 0 rfl rfl ⟨rfl, rfl⟩ ⟨Nat.le_of_ble_eq_true rfl, Nat.le_of_ble_eq_true rfl⟩ hl.1 rfl (Nat.le_of_ble_eq_true rfl) ⟨Nat.zero_le _, Nat.zero_le _⟩ dX7_place_68 (fun r68 u H locs h hP hD hS => ?_)
            refine lv_goto (tgt := 80) hx hb dX7_place_71 (by decide) ?_
            exact ret _ (F_25, A_25) _ _ _ _ dX7_place_80 h hP hD hS
        · replace h := h.2 c46
          refine lv_aload_n hx hb dX7_place_49 rfl (lv_at hl 0 rfl) ?_
          refine va_get (C := RX7) (T := TX7) (N := 28) (own := RX7) (v := .ref (q 0)) hx hb ht inlX7 hown hK hP 0 rfl rfl 0 (Nat.le_of_ble_eq_true rfl) (ht _ mw_5_7) (fun _ h9 => h9) rfl dX7_place_50 ?_
          refine lv_bipush (v := 15) hx hb dX7_place_53 (by decide) ?_
          refine lv_iload_n hx hb dX7_place_55 rfl (lv_at hl 1 rfl) ?_
          refine lv_iadd hx hb dX7_place_56 ?_
          obtain ⟨hi57, h⟩ := h
          refine g_iald (f := (A_25 0)) (k := (((15 : Int32) + x1)).toNatClampNeg) hx hb hK hP 1 0 rfl rfl hi57 rfl dX7_place_57 ?_
          refine lv_goto (tgt := 80) hx hb dX7_place_58 (by decide) ?_
          exact ret _ (F_25, A_25) _ _ _ _ dX7_place_80 h hP hD hS
      · replace h := h.2 c29
        refine lv_aload_n hx hb dX7_place_32 rfl (lv_at hl 0 rfl) ?_
        refine va_get (C := RX7) (T := TX7) (N := 28) (own := RX7) (v := .ref (q 0)) hx hb ht inlX7 hown hK hP 0 rfl rfl 0 (Nat.le_of_ble_eq_true rfl) (ht _ mw_5_7) (fun _ h9 => h9) rfl dX7_place_33 ?_
        refine lv_bipush (v := 9) hx hb dX7_place_36 (by decide) ?_
        refine lv_iload_n hx hb dX7_place_38 rfl (lv_at hl 1 rfl) ?_
        refine lv_iadd hx hb dX7_place_39 ?_
        obtain ⟨hi40, h⟩ := h
        refine g_iald (f := (A_25 0)) (k := (((9 : Int32) + x1)).toNatClampNeg) hx hb hK hP 1 0 rfl rfl hi40 rfl dX7_place_40 ?_
        refine lv_goto (tgt := 80) hx hb dX7_place_41 (by decide) ?_
        exact ret _ (F_25, A_25) _ _ _ _ dX7_place_80 h hP hD hS
    · replace h := h.2 c16
      refine lv_iconst (v := -1) hx hb dX7_place_19 (by decide) ?_
      exact ret _ (F, A) _ _ _ _ dX7_place_20 h hP hD hS
theorem dX7_grow_0 : decode cX7_grow 0 = .ok (.iload_n 1, 1) := by decide +kernel
theorem dX7_grow_1 : decode cX7_grow 1 = .ok (.invokestatic 166, 3) := by decide +kernel
theorem dX7_grow_4 : decode cX7_grow 4 = .ok (.ifCond .eq 46, 3) := by decide +kernel
theorem dX7_grow_7 : decode cX7_grow 7 = .ok (.iload_n 2, 1) := by decide +kernel
theorem dX7_grow_8 : decode cX7_grow 8 = .ok (.i2l, 1) := by decide +kernel
theorem dX7_grow_9 : decode cX7_grow 9 = .ok (.lconst 0, 1) := by decide +kernel
theorem dX7_grow_10 : decode cX7_grow 10 = .ok (.lconst 1, 1) := by decide +kernel
theorem dX7_grow_11 : decode cX7_grow 11 = .ok (.invokestatic 61, 3) := by decide +kernel
theorem dX7_grow_14 : decode cX7_grow 14 = .ok (.ifCond .eq 36, 3) := by decide +kernel
theorem dX7_grow_17 : decode cX7_grow 17 = .ok (.iload_n 3, 1) := by decide +kernel
theorem dX7_grow_18 : decode cX7_grow 18 = .ok (.i2l, 1) := by decide +kernel
theorem dX7_grow_19 : decode cX7_grow 19 = .ok (.lconst 0, 1) := by decide +kernel
theorem dX7_grow_20 : decode cX7_grow 20 = .ok (.ldc2_w 158, 3) := by decide +kernel
theorem dX7_grow_23 : decode cX7_grow 23 = .ok (.invokestatic 61, 3) := by decide +kernel
theorem dX7_grow_26 : decode cX7_grow 26 = .ok (.ifCond .eq 24, 3) := by decide +kernel
theorem dX7_grow_29 : decode cX7_grow 29 = .ok (.aload_n 0, 1) := by decide +kernel
theorem dX7_grow_30 : decode cX7_grow 30 = .ok (.iload_n 2, 1) := by decide +kernel
theorem dX7_grow_31 : decode cX7_grow 31 = .ok (.ifCond .ne 8, 3) := by decide +kernel
theorem dX7_grow_34 : decode cX7_grow 34 = .ok (.bipush 9, 2) := by decide +kernel
theorem dX7_grow_36 : decode cX7_grow 36 = .ok (.goto 5, 3) := by decide +kernel
theorem dX7_grow_39 : decode cX7_grow 39 = .ok (.bipush 15, 2) := by decide +kernel
theorem dX7_grow_41 : decode cX7_grow 41 = .ok (.iload_n 1, 1) := by decide +kernel
theorem dX7_grow_42 : decode cX7_grow 42 = .ok (.iadd, 1) := by decide +kernel
theorem dX7_grow_43 : decode cX7_grow 43 = .ok (.iload_n 3, 1) := by decide +kernel
theorem dX7_grow_44 : decode cX7_grow 44 = .ok (.invokevirtual 160, 3) := by decide +kernel
theorem dX7_grow_47 : decode cX7_grow 47 = .ok (.goto 4, 3) := by decide +kernel
theorem dX7_grow_50 : decode cX7_grow 50 = .ok (.iconst (-1), 1) := by decide +kernel
theorem dX7_grow_51 : decode cX7_grow 51 = .ok (.ireturn, 1) := by decide +kernel
def p_X7_grow_J41 (F : tF) (A : tA) (K : Int32 → tF → tA → Prop) (x1 : Int32) (x3 : Int32) (s0 : Int32) : Prop := (p_X7_becomes F A (s0 + x1) x3 (fun r44 F_44 A_44 => (K r44 F_44 A_44)))
set_option maxHeartbeats 4000000 in
set_option maxRecDepth 100000 in
theorem b_X7_grow_J41 {p : Program} {l : Launch} {e : Env} {s : State} {m : MethodId} {args : Array Value} {below : List Frame} {meth : Method} {c : Code} {Q : State → Prop} {D : va_G} {cI cZ cR : ClassId} {adK adV : Nat → Nat} {A9 : Nat → Prop} {o : Nat} {q : Nat → Nat} {K : Int32 → tF → tA → Prop}  (F : tF) (A : tA) (x1 : Int32) (x3 : Int32) (s0 : Int32) (X : CX p s m args c yX7_grow.cls cX7_grow 4 D cI cZ cR adK adV A9) (ret : RTi p l e (rmN 1 25) s m args below meth c Q cX7_grow D A9 (fun (r : Int32) (u : (tF × tA)) => K r u.1 u.2) (fun (u : (tF × tA)) => (wX7 cI cZ o q u.1 u.2 : va_W)))  (H : Heap) (locs : List Loc) (ls : Array Slot) (h : p_X7_grow_J41 F A K x1 x3 s0) (hP : va_P D vwCl (wX7 cI cZ o q F A : va_W) H) (hD : va_D A9 (wX7 cI cZ o q F A : va_W)) (hS : va_S A9 s.heap H locs) (hl : lv_has ls 4 [(1, .int x1), (3, .int x3)]) : W p l e (rmN 1 25) s m args below meth c H locs 0 0 Q (F0 m 41 ls [.int s0, .ref o]) := by
  obtain ⟨hx, hb, hml, ht, hown, hK, hA, hE⟩ := id X
  unfold p_X7_grow_J41 at h
  refine lv_iload_n hx hb dX7_grow_41 rfl (lv_at hl 0 rfl) ?_
  refine lv_iadd hx hb dX7_grow_42 ?_
  refine lv_iload_n hx hb dX7_grow_43 rfl (lv_at hl 1 rfl) ?_
  refine C_vi (wr := []) X hP hD hS [.int (s0 + x1), .int x3] [] (w_X7_becomes l D cI cZ cR adK adV _ o q F A (s0 + x1) x3 _ h) cal_X7_becomes mw_15_20 rfl [0, 1, 2, 3, 4, 5, 6, 7, 8, 9, 10, 11, 12, 13, 14, 15] [] [0, 1, 2, 3, 4, 5, 6, 7, 8, 9, 10, 11, 12, 13, 14, 15] (fun u => (wX7 cI cZ o q u.1 u.2 : va_W)) rfl rfl (fun _ => rfl) rfl 0 rfl rfl ⟨rfl, rfl⟩ ⟨Nat.le_of_ble_eq_true rfl, Nat.le_of_ble_eq_true rfl⟩ hl.1 rfl (Nat.le_of_ble_eq_true rfl) ⟨Nat.zero_le _, Nat.zero_le _⟩ dX7_grow_44 (fun r44 u H locs h hP hD hS => ?_)
  obtain ⟨F_44, A_44⟩ := u
  try dsimp only at h
  have hP : va_P D vwCl (wX7 cI cZ o q F_44 A_44 : va_W) H := hP
  have hD : va_D A9 (wX7 cI cZ o q F_44 A_44 : va_W) := hD
  refine lv_goto (tgt := 51) hx hb dX7_grow_47 (by decide) ?_
  exact ret _ (F_44, A_44) _ _ _ _ dX7_grow_51 h hP hD hS
def p_X7_grow (F : tF) (A : tA) (x1 : Int32) (x2 : Int32) (x3 : Int32) (K : Int32 → tF → tA → Prop) : Prop := (p_X7_isPlace x1 (fun r1 => ((r1 = 0 → (K (-1 : Int32) F A)) ∧ (¬ r1 = 0 → (p_X7_isIn ((x2).toInt64) (0 : Int64) (1 : Int64) (fun r11 => ((r11 = 0 → (K (-1 : Int32) F A)) ∧ (¬ r11 = 0 → (p_X7_isIn ((x3).toInt64) (0 : Int64) (9 : Int64) (fun r23 => ((r23 = 0 → (K (-1 : Int32) F A)) ∧ (¬ r23 = 0 → ((¬ x2 = 0 → (p_X7_grow_J41 F A K x1 x3 (15 : Int32))) ∧ (x2 = 0 → (p_X7_grow_J41 F A K x1 x3 (9 : Int32))))))))))))))))
set_option maxHeartbeats 4000000 in
set_option maxRecDepth 100000 in
theorem w_X7_grow (l : Launch) (D : va_G) (cI cZ cR : ClassId) (adK adV : Nat → Nat) (sz : Nat) (o : Nat) (q : Nat → Nat) (F : tF) (A : tA) (x1 : Int32) (x2 : Int32) (x3 : Int32) (K : Int32 → tF → tA → Prop) (h : p_X7_grow F A x1 x2 x3 K) : MI l D cI cZ cR adK adV yX7_grow cX7_grow 4 (some .int) (rmN 1 25) [.ref o, .int x1, .int x2, .int x3] (wX7 cI cZ o q F A : va_W) sz (fun (r : Int32) (u : (tF × tA)) => K r u.1 u.2) (fun (u : (tF × tA)) => (wX7 cI cZ o q u.1 u.2 : va_W)) := by
  refine M_i (by decide +kernel) (Nat.le_of_ble_eq_true rfl) ?_
  intro p e s m args below meth c Q A9 ls X ret hP hD hS hl
  obtain ⟨hx, hb, hml, ht, hown, hK, hA, hE⟩ := id X
  have hl : lv_has ls 4 [(0, .ref o), (1, .int x1), (2, .int x2), (3, .int x3)] := hl
  unfold p_X7_grow at h
  refine lv_iload_n hx hb dX7_grow_0 rfl (lv_at hl 1 rfl) ?_
  refine C_si (wr := [0, 1, 2, 3, 4, 5, 6, 7, 8, 9, 10, 11, 12, 13, 14, 15].filterMap (fun i => (wX7 cI cZ o q F A : va_W)[i]?)) X hP hD hS [.int x1] [] (w_X7_isPlace l D cI cZ cR adK adV _ x1 _ h) cal_X7_isPlace mw_16_21 rfl [] [0, 1, 2, 3, 4, 5, 6, 7, 8, 9, 10, 11, 12, 13, 14, 15] [0, 1, 2, 3, 4, 5, 6, 7, 8, 9, 10, 11, 12, 13, 14, 15] (fun u => (wX7 cI cZ o q F A : va_W)) rfl rfl (fun _ => rfl) rfl ⟨rfl, rfl⟩ ⟨Nat.le_of_ble_eq_true rfl, Nat.le_of_ble_eq_true rfl⟩ hl.1 rfl (Nat.le_of_ble_eq_true rfl) ⟨Nat.zero_le _, Nat.zero_le _⟩ dX7_grow_1 (fun r1 u H locs h hP hD hS => ?_)
  refine lv_if_eq (tgt := 50) hx hb dX7_grow_4 (by decide) (fun c4 => ?_) (fun c4 => ?_)
  · replace h := h.1 c4
    refine lv_iconst (v := -1) hx hb dX7_grow_50 (by decide) ?_
    exact ret _ (F, A) _ _ _ _ dX7_grow_51 h hP hD hS
  · replace h := h.2 c4
    refine lv_iload_n hx hb dX7_grow_7 rfl (lv_at hl 2 rfl) ?_
    refine lv_i2l (v := (x2).toInt64) hx hb dX7_grow_8 rfl ?_
    refine lv_lconst (v := 0) hx hb dX7_grow_9 (by decide) ?_
    refine lv_lconst (v := 1) hx hb dX7_grow_10 (by decide) ?_
    refine C_si (wr := [0, 1, 2, 3, 4, 5, 6, 7, 8, 9, 10, 11, 12, 13, 14, 15].filterMap (fun i => (wX7 cI cZ o q F A : va_W)[i]?)) X hP hD hS [.long (x2).toInt64, .long (0 : Int64), .long (1 : Int64)] [] (w_X7_isIn l D cI cZ cR adK adV _ ((x2).toInt64) (0 : Int64) (1 : Int64) _ h) cal_X7_isIn mw_6_19 rfl [] [0, 1, 2, 3, 4, 5, 6, 7, 8, 9, 10, 11, 12, 13, 14, 15] [0, 1, 2, 3, 4, 5, 6, 7, 8, 9, 10, 11, 12, 13, 14, 15] (fun u => (wX7 cI cZ o q F A : va_W)) rfl rfl (fun _ => rfl) rfl ⟨rfl, rfl⟩ ⟨Nat.le_of_ble_eq_true rfl, Nat.le_of_ble_eq_true rfl⟩ hl.1 rfl (Nat.le_of_ble_eq_true rfl) ⟨Nat.zero_le _, Nat.zero_le _⟩ dX7_grow_11 (fun r11 u H locs h hP hD hS => ?_)
    refine lv_if_eq (tgt := 50) hx hb dX7_grow_14 (by decide) (fun c14 => ?_) (fun c14 => ?_)
    · replace h := h.1 c14
      refine lv_iconst (v := -1) hx hb dX7_grow_50 (by decide) ?_
      exact ret _ (F, A) _ _ _ _ dX7_grow_51 h hP hD hS
    · replace h := h.2 c14
      refine lv_iload_n hx hb dX7_grow_17 rfl (lv_at hl 3 rfl) ?_
      refine lv_i2l (v := (x3).toInt64) hx hb dX7_grow_18 rfl ?_
      refine lv_lconst (v := 0) hx hb dX7_grow_19 (by decide) ?_
      refine lv_ldc2 (v := 9) hx hb hown (ht _ mw_15_19) dX7_grow_20 ?_
      refine C_si (wr := [0, 1, 2, 3, 4, 5, 6, 7, 8, 9, 10, 11, 12, 13, 14, 15].filterMap (fun i => (wX7 cI cZ o q F A : va_W)[i]?)) X hP hD hS [.long (x3).toInt64, .long (0 : Int64), .long (9 : Int64)] [] (w_X7_isIn l D cI cZ cR adK adV _ ((x3).toInt64) (0 : Int64) (9 : Int64) _ h) cal_X7_isIn mw_6_19 rfl [] [0, 1, 2, 3, 4, 5, 6, 7, 8, 9, 10, 11, 12, 13, 14, 15] [0, 1, 2, 3, 4, 5, 6, 7, 8, 9, 10, 11, 12, 13, 14, 15] (fun u => (wX7 cI cZ o q F A : va_W)) rfl rfl (fun _ => rfl) rfl ⟨rfl, rfl⟩ ⟨Nat.le_of_ble_eq_true rfl, Nat.le_of_ble_eq_true rfl⟩ hl.1 rfl (Nat.le_of_ble_eq_true rfl) ⟨Nat.zero_le _, Nat.zero_le _⟩ dX7_grow_23 (fun r23 u H locs h hP hD hS => ?_)
      refine lv_if_eq (tgt := 50) hx hb dX7_grow_26 (by decide) (fun c26 => ?_) (fun c26 => ?_)
      · replace h := h.1 c26
        refine lv_iconst (v := -1) hx hb dX7_grow_50 (by decide) ?_
        exact ret _ (F, A) _ _ _ _ dX7_grow_51 h hP hD hS
      · replace h := h.2 c26
        refine lv_aload_n hx hb dX7_grow_29 rfl (lv_at hl 0 rfl) ?_
        refine lv_iload_n hx hb dX7_grow_30 rfl (lv_at hl 2 rfl) ?_
        refine lv_if_ne (tgt := 39) hx hb dX7_grow_31 (by decide) (fun c31 => ?_) (fun c31 => ?_)
        · replace h := h.1 c31
          refine lv_bipush (v := 15) hx hb dX7_grow_39 (by decide) ?_
          exact b_X7_grow_J41 F A x1 x3 (15 : Int32) X ret  _ _ _ h hP hD hS (lv_sub hl [1, 3] rfl)
        · replace h := h.2 c31
          refine lv_bipush (v := 9) hx hb dX7_grow_34 (by decide) ?_
          refine lv_goto (tgt := 41) hx hb dX7_grow_36 (by decide) ?_
          exact b_X7_grow_J41 F A x1 x3 (9 : Int32) X ret  _ _ _ h hP hD hS (lv_sub hl [1, 3] rfl)
theorem dX7_flock_0 : decode cX7_flock 0 = .ok (.iload_n 1, 1) := by decide +kernel
theorem dX7_flock_1 : decode cX7_flock 1 = .ok (.invokestatic 166, 3) := by decide +kernel
theorem dX7_flock_4 : decode cX7_flock 4 = .ok (.ifCond .eq 12, 3) := by decide +kernel
theorem dX7_flock_7 : decode cX7_flock 7 = .ok (.aload_n 0, 1) := by decide +kernel
theorem dX7_flock_8 : decode cX7_flock 8 = .ok (.iconst 3, 1) := by decide +kernel
theorem dX7_flock_9 : decode cX7_flock 9 = .ok (.iload_n 1, 1) := by decide +kernel
theorem dX7_flock_10 : decode cX7_flock 10 = .ok (.invokevirtual 160, 3) := by decide +kernel
theorem dX7_flock_13 : decode cX7_flock 13 = .ok (.goto 4, 3) := by decide +kernel
theorem dX7_flock_16 : decode cX7_flock 16 = .ok (.iconst (-1), 1) := by decide +kernel
theorem dX7_flock_17 : decode cX7_flock 17 = .ok (.ireturn, 1) := by decide +kernel
def p_X7_flock (F : tF) (A : tA) (x1 : Int32) (K : Int32 → tF → tA → Prop) : Prop := (p_X7_isPlace x1 (fun r1 => ((r1 = 0 → (K (-1 : Int32) F A)) ∧ (¬ r1 = 0 → (p_X7_becomes F A (3 : Int32) x1 (fun r10 F_10 A_10 => (K r10 F_10 A_10)))))))
set_option maxHeartbeats 4000000 in
set_option maxRecDepth 100000 in
theorem w_X7_flock (l : Launch) (D : va_G) (cI cZ cR : ClassId) (adK adV : Nat → Nat) (sz : Nat) (o : Nat) (q : Nat → Nat) (F : tF) (A : tA) (x1 : Int32) (K : Int32 → tF → tA → Prop) (h : p_X7_flock F A x1 K) : MI l D cI cZ cR adK adV yX7_flock cX7_flock 2 (some .int) (rmN 1 23) [.ref o, .int x1] (wX7 cI cZ o q F A : va_W) sz (fun (r : Int32) (u : (tF × tA)) => K r u.1 u.2) (fun (u : (tF × tA)) => (wX7 cI cZ o q u.1 u.2 : va_W)) := by
  refine M_i (by decide +kernel) (Nat.le_of_ble_eq_true rfl) ?_
  intro p e s m args below meth c Q A9 ls X ret hP hD hS hl
  obtain ⟨hx, hb, hml, ht, hown, hK, hA, hE⟩ := id X
  have hl : lv_has ls 2 [(0, .ref o), (1, .int x1)] := hl
  unfold p_X7_flock at h
  refine lv_iload_n hx hb dX7_flock_0 rfl (lv_at hl 1 rfl) ?_
  refine C_si (wr := [0, 1, 2, 3, 4, 5, 6, 7, 8, 9, 10, 11, 12, 13, 14, 15].filterMap (fun i => (wX7 cI cZ o q F A : va_W)[i]?)) X hP hD hS [.int x1] [] (w_X7_isPlace l D cI cZ cR adK adV _ x1 _ h) cal_X7_isPlace mw_16_21 rfl [] [0, 1, 2, 3, 4, 5, 6, 7, 8, 9, 10, 11, 12, 13, 14, 15] [0, 1, 2, 3, 4, 5, 6, 7, 8, 9, 10, 11, 12, 13, 14, 15] (fun u => (wX7 cI cZ o q F A : va_W)) rfl rfl (fun _ => rfl) rfl ⟨rfl, rfl⟩ ⟨Nat.le_of_ble_eq_true rfl, Nat.le_of_ble_eq_true rfl⟩ hl.1 rfl (Nat.le_of_ble_eq_true rfl) ⟨Nat.zero_le _, Nat.zero_le _⟩ dX7_flock_1 (fun r1 u H locs h hP hD hS => ?_)
  refine lv_if_eq (tgt := 16) hx hb dX7_flock_4 (by decide) (fun c4 => ?_) (fun c4 => ?_)
  · replace h := h.1 c4
    refine lv_iconst (v := -1) hx hb dX7_flock_16 (by decide) ?_
    exact ret _ (F, A) _ _ _ _ dX7_flock_17 h hP hD hS
  · replace h := h.2 c4
    refine lv_aload_n hx hb dX7_flock_7 rfl (lv_at hl 0 rfl) ?_
    refine lv_iconst (v := 3) hx hb dX7_flock_8 (by decide) ?_
    refine lv_iload_n hx hb dX7_flock_9 rfl (lv_at hl 1 rfl) ?_
    refine C_vi (wr := []) X hP hD hS [.int (3 : Int32), .int x1] [] (w_X7_becomes l D cI cZ cR adK adV _ o q F A (3 : Int32) x1 _ h) cal_X7_becomes mw_15_20 rfl [0, 1, 2, 3, 4, 5, 6, 7, 8, 9, 10, 11, 12, 13, 14, 15] [] [0, 1, 2, 3, 4, 5, 6, 7, 8, 9, 10, 11, 12, 13, 14, 15] (fun u => (wX7 cI cZ o q u.1 u.2 : va_W)) rfl rfl (fun _ => rfl) rfl 0 rfl rfl ⟨rfl, rfl⟩ ⟨Nat.le_of_ble_eq_true rfl, Nat.le_of_ble_eq_true rfl⟩ hl.1 rfl (Nat.le_of_ble_eq_true rfl) ⟨Nat.zero_le _, Nat.zero_le _⟩ dX7_flock_10 (fun r10 u H locs h hP hD hS => ?_)
    obtain ⟨F_10, A_10⟩ := u
    try dsimp only at h
    have hP : va_P D vwCl (wX7 cI cZ o q F_10 A_10 : va_W) H := hP
    have hD : va_D A9 (wX7 cI cZ o q F_10 A_10 : va_W) := hD
    refine lv_goto (tgt := 17) hx hb dX7_flock_13 (by decide) ?_
    exact ret _ (F_10, A_10) _ _ _ _ dX7_flock_17 h hP hD hS
theorem dX7_call_0 : decode cX7_call 0 = .ok (.iload_n 1, 1) := by decide +kernel
theorem dX7_call_1 : decode cX7_call 1 = .ok (.i2l, 1) := by decide +kernel
theorem dX7_call_2 : decode cX7_call 2 = .ok (.lconst 0, 1) := by decide +kernel
theorem dX7_call_3 : decode cX7_call 3 = .ok (.ldc2_w 197, 3) := by decide +kernel
theorem dX7_call_6 : decode cX7_call 6 = .ok (.invokestatic 61, 3) := by decide +kernel
theorem dX7_call_9 : decode cX7_call 9 = .ok (.ifCond .eq 12, 3) := by decide +kernel
theorem dX7_call_12 : decode cX7_call 12 = .ok (.aload_n 0, 1) := by decide +kernel
theorem dX7_call_13 : decode cX7_call 13 = .ok (.iconst 4, 1) := by decide +kernel
theorem dX7_call_14 : decode cX7_call 14 = .ok (.iload_n 1, 1) := by decide +kernel
theorem dX7_call_15 : decode cX7_call 15 = .ok (.invokevirtual 160, 3) := by decide +kernel
theorem dX7_call_18 : decode cX7_call 18 = .ok (.goto 4, 3) := by decide +kernel
theorem dX7_call_21 : decode cX7_call 21 = .ok (.iconst (-1), 1) := by decide +kernel
theorem dX7_call_22 : decode cX7_call 22 = .ok (.ireturn, 1) := by decide +kernel
def p_X7_call (F : tF) (A : tA) (x1 : Int32) (K : Int32 → tF → tA → Prop) : Prop := (p_X7_isIn ((x1).toInt64) (0 : Int64) (6 : Int64) (fun r6 => ((r6 = 0 → (K (-1 : Int32) F A)) ∧ (¬ r6 = 0 → (p_X7_becomes F A (4 : Int32) x1 (fun r15 F_15 A_15 => (K r15 F_15 A_15)))))))
set_option maxHeartbeats 4000000 in
set_option maxRecDepth 100000 in
theorem w_X7_call (l : Launch) (D : va_G) (cI cZ cR : ClassId) (adK adV : Nat → Nat) (sz : Nat) (o : Nat) (q : Nat → Nat) (F : tF) (A : tA) (x1 : Int32) (K : Int32 → tF → tA → Prop) (h : p_X7_call F A x1 K) : MI l D cI cZ cR adK adV yX7_call cX7_call 2 (some .int) (rmN 1 25) [.ref o, .int x1] (wX7 cI cZ o q F A : va_W) sz (fun (r : Int32) (u : (tF × tA)) => K r u.1 u.2) (fun (u : (tF × tA)) => (wX7 cI cZ o q u.1 u.2 : va_W)) := by
  refine M_i (by decide +kernel) (Nat.le_of_ble_eq_true rfl) ?_
  intro p e s m args below meth c Q A9 ls X ret hP hD hS hl
  obtain ⟨hx, hb, hml, ht, hown, hK, hA, hE⟩ := id X
  have hl : lv_has ls 2 [(0, .ref o), (1, .int x1)] := hl
  unfold p_X7_call at h
  refine lv_iload_n hx hb dX7_call_0 rfl (lv_at hl 1 rfl) ?_
  refine lv_i2l (v := (x1).toInt64) hx hb dX7_call_1 rfl ?_
  refine lv_lconst (v := 0) hx hb dX7_call_2 (by decide) ?_
  refine lv_ldc2 (v := 6) hx hb hown (ht _ mw_23_23) dX7_call_3 ?_
  refine C_si (wr := [0, 1, 2, 3, 4, 5, 6, 7, 8, 9, 10, 11, 12, 13, 14, 15].filterMap (fun i => (wX7 cI cZ o q F A : va_W)[i]?)) X hP hD hS [.long (x1).toInt64, .long (0 : Int64), .long (6 : Int64)] [] (w_X7_isIn l D cI cZ cR adK adV _ ((x1).toInt64) (0 : Int64) (6 : Int64) _ h) cal_X7_isIn mw_6_19 rfl [] [0, 1, 2, 3, 4, 5, 6, 7, 8, 9, 10, 11, 12, 13, 14, 15] [0, 1, 2, 3, 4, 5, 6, 7, 8, 9, 10, 11, 12, 13, 14, 15] (fun u => (wX7 cI cZ o q F A : va_W)) rfl rfl (fun _ => rfl) rfl ⟨rfl, rfl⟩ ⟨Nat.le_of_ble_eq_true rfl, Nat.le_of_ble_eq_true rfl⟩ hl.1 rfl (Nat.le_of_ble_eq_true rfl) ⟨Nat.zero_le _, Nat.zero_le _⟩ dX7_call_6 (fun r6 u H locs h hP hD hS => ?_)
  refine lv_if_eq (tgt := 21) hx hb dX7_call_9 (by decide) (fun c9 => ?_) (fun c9 => ?_)
  · replace h := h.1 c9
    refine lv_iconst (v := -1) hx hb dX7_call_21 (by decide) ?_
    exact ret _ (F, A) _ _ _ _ dX7_call_22 h hP hD hS
  · replace h := h.2 c9
    refine lv_aload_n hx hb dX7_call_12 rfl (lv_at hl 0 rfl) ?_
    refine lv_iconst (v := 4) hx hb dX7_call_13 (by decide) ?_
    refine lv_iload_n hx hb dX7_call_14 rfl (lv_at hl 1 rfl) ?_
    refine C_vi (wr := []) X hP hD hS [.int (4 : Int32), .int x1] [] (w_X7_becomes l D cI cZ cR adK adV _ o q F A (4 : Int32) x1 _ h) cal_X7_becomes mw_15_20 rfl [0, 1, 2, 3, 4, 5, 6, 7, 8, 9, 10, 11, 12, 13, 14, 15] [] [0, 1, 2, 3, 4, 5, 6, 7, 8, 9, 10, 11, 12, 13, 14, 15] (fun u => (wX7 cI cZ o q u.1 u.2 : va_W)) rfl rfl (fun _ => rfl) rfl 0 rfl rfl ⟨rfl, rfl⟩ ⟨Nat.le_of_ble_eq_true rfl, Nat.le_of_ble_eq_true rfl⟩ hl.1 rfl (Nat.le_of_ble_eq_true rfl) ⟨Nat.zero_le _, Nat.zero_le _⟩ dX7_call_15 (fun r15 u H locs h hP hD hS => ?_)
    obtain ⟨F_15, A_15⟩ := u
    try dsimp only at h
    have hP : va_P D vwCl (wX7 cI cZ o q F_15 A_15 : va_W) H := hP
    have hD : va_D A9 (wX7 cI cZ o q F_15 A_15 : va_W) := hD
    refine lv_goto (tgt := 22) hx hb dX7_call_18 (by decide) ?_
    exact ret _ (F_15, A_15) _ _ _ _ dX7_call_22 h hP hD hS
theorem cal_X7_winnerOf : CalV yX7_winnerOf cX7_winnerOf 7 (some .int) 3 := ⟨mw_24_15, mw_1_5, mw_24_13, mw_24_14, ⟨by decide +kernel, by decide +kernel, by decide +kernel⟩⟩
theorem dX7_winner_0 : decode cX7_winner 0 = .ok (.aload_n 0, 1) := by decide +kernel
theorem dX7_winner_1 : decode cX7_winner 1 = .ok (.iconst 0, 1) := by decide +kernel
theorem dX7_winner_2 : decode cX7_winner 2 = .ok (.iconst (-1), 1) := by decide +kernel
theorem dX7_winner_3 : decode cX7_winner 3 = .ok (.iconst 0, 1) := by decide +kernel
theorem dX7_winner_4 : decode cX7_winner 4 = .ok (.invokevirtual 199, 3) := by decide +kernel
theorem dX7_winner_7 : decode cX7_winner 7 = .ok (.ireturn, 1) := by decide +kernel
def p_X7_winner (F : tF) (A : tA) (K : Int32 → tF → tA → Prop) : Prop := (p_X7_winnerOf F A (0 : Int32) (-1 : Int32) (0 : Int32) (fun r4 F_4 A_4 => (K r4 F_4 A_4)))
set_option maxHeartbeats 4000000 in
set_option maxRecDepth 100000 in
theorem w_X7_winner (l : Launch) (D : va_G) (cI cZ cR : ClassId) (adK adV : Nat → Nat) (sz : Nat) (o : Nat) (q : Nat → Nat) (F : tF) (A : tA) (K : Int32 → tF → tA → Prop) (h : p_X7_winner F A K) : MI l D cI cZ cR adK adV yX7_winner cX7_winner 1 (some .int) (rmN 5 119) [.ref o] (wX7 cI cZ o q F A : va_W) sz (fun (r : Int32) (u : (tF × tA)) => K r u.1 u.2) (fun (u : (tF × tA)) => (wX7 cI cZ o q u.1 u.2 : va_W)) := by
  refine M_i (by decide +kernel) (Nat.le_of_ble_eq_true rfl) ?_
  intro p e s m args below meth c Q A9 ls X ret hP hD hS hl
  obtain ⟨hx, hb, hml, ht, hown, hK, hA, hE⟩ := id X
  have hl : lv_has ls 1 [(0, .ref o)] := hl
  unfold p_X7_winner at h
  refine lv_aload_n hx hb dX7_winner_0 rfl (lv_at hl 0 rfl) ?_
  refine lv_iconst (v := 0) hx hb dX7_winner_1 (by decide) ?_
  refine lv_iconst (v := -1) hx hb dX7_winner_2 (by decide) ?_
  refine lv_iconst (v := 0) hx hb dX7_winner_3 (by decide) ?_
  refine C_vi (wr := []) X hP hD hS [.int (0 : Int32), .int (-1 : Int32), .int (0 : Int32)] [] (w_X7_winnerOf l D cI cZ cR adK adV _ o q F A (0 : Int32) (-1 : Int32) (0 : Int32) _ h) cal_X7_winnerOf mw_24_12 rfl [0, 1, 2, 3, 4, 5, 6, 7, 8, 9, 10, 11, 12, 13, 14, 15] [] [0, 1, 2, 3, 4, 5, 6, 7, 8, 9, 10, 11, 12, 13, 14, 15] (fun u => (wX7 cI cZ o q u.1 u.2 : va_W)) rfl rfl (fun _ => rfl) rfl 0 rfl rfl ⟨rfl, rfl⟩ ⟨Nat.le_of_ble_eq_true rfl, Nat.le_of_ble_eq_true rfl⟩ hl.1 rfl (Nat.le_of_ble_eq_true rfl) ⟨Nat.zero_le _, Nat.zero_le _⟩ dX7_winner_4 (fun r4 u H locs h hP hD hS => ?_)
  obtain ⟨F_4, A_4⟩ := u
  try dsimp only at h
  have hP : va_P D vwCl (wX7 cI cZ o q F_4 A_4 : va_W) H := hP
  have hD : va_D A9 (wX7 cI cZ o q F_4 A_4 : va_W) := hD
  exact ret _ (F_4, A_4) _ _ _ _ dX7_winner_7 h hP hD hS
theorem cal_X7_within : CalS yX7_within cX7_within 1 (some .int) 1 := ⟨mw_26_6, mw_1_5, mw_26_5, ⟨by decide +kernel, by decide +kernel, by decide +kernel⟩⟩
theorem dX7_goesOn_0 : decode cX7_goesOn 0 = .ok (.aload_n 0, 1) := by decide +kernel
theorem dX7_goesOn_1 : decode cX7_goesOn 1 = .ok (.iconst 0, 1) := by decide +kernel
theorem dX7_goesOn_2 : decode cX7_goesOn 2 = .ok (.iconst (-1), 1) := by decide +kernel
theorem dX7_goesOn_3 : decode cX7_goesOn 3 = .ok (.iconst 0, 1) := by decide +kernel
theorem dX7_goesOn_4 : decode cX7_goesOn 4 = .ok (.invokevirtual 199, 3) := by decide +kernel
theorem dX7_goesOn_7 : decode cX7_goesOn 7 = .ok (.istore_n 1, 1) := by decide +kernel
theorem dX7_goesOn_8 : decode cX7_goesOn 8 = .ok (.aload_n 0, 1) := by decide +kernel
theorem dX7_goesOn_9 : decode cX7_goesOn 9 = .ok (.getfield 7, 3) := by decide +kernel
theorem dX7_goesOn_12 : decode cX7_goesOn 12 = .ok (.iconst 3, 1) := by decide +kernel
theorem dX7_goesOn_13 : decode cX7_goesOn 13 = .ok (.dup2, 1) := by decide +kernel
theorem dX7_goesOn_14 : decode cX7_goesOn 14 = .ok (.iaload, 1) := by decide +kernel
theorem dX7_goesOn_15 : decode cX7_goesOn 15 = .ok (.iload_n 1, 1) := by decide +kernel
theorem dX7_goesOn_16 : decode cX7_goesOn 16 = .ok (.aload_n 0, 1) := by decide +kernel
theorem dX7_goesOn_17 : decode cX7_goesOn 17 = .ok (.getfield 7, 3) := by decide +kernel
theorem dX7_goesOn_20 : decode cX7_goesOn 20 = .ok (.iconst 3, 1) := by decide +kernel
theorem dX7_goesOn_21 : decode cX7_goesOn 21 = .ok (.iaload, 1) := by decide +kernel
theorem dX7_goesOn_22 : decode cX7_goesOn 22 = .ok (.if_icmp .le 7, 3) := by decide +kernel
theorem dX7_goesOn_25 : decode cX7_goesOn 25 = .ok (.iconst 1, 1) := by decide +kernel
theorem dX7_goesOn_26 : decode cX7_goesOn 26 = .ok (.goto 18, 3) := by decide +kernel
theorem dX7_goesOn_29 : decode cX7_goesOn 29 = .ok (.iload_n 1, 1) := by decide +kernel
theorem dX7_goesOn_30 : decode cX7_goesOn 30 = .ok (.aload_n 0, 1) := by decide +kernel
theorem dX7_goesOn_31 : decode cX7_goesOn 31 = .ok (.getfield 7, 3) := by decide +kernel
theorem dX7_goesOn_34 : decode cX7_goesOn 34 = .ok (.iconst 3, 1) := by decide +kernel
theorem dX7_goesOn_35 : decode cX7_goesOn 35 = .ok (.iaload, 1) := by decide +kernel
theorem dX7_goesOn_36 : decode cX7_goesOn 36 = .ok (.if_icmp .ge 7, 3) := by decide +kernel
theorem dX7_goesOn_39 : decode cX7_goesOn 39 = .ok (.iconst (-1), 1) := by decide +kernel
theorem dX7_goesOn_40 : decode cX7_goesOn 40 = .ok (.goto 4, 3) := by decide +kernel
theorem dX7_goesOn_43 : decode cX7_goesOn 43 = .ok (.iconst 0, 1) := by decide +kernel
theorem dX7_goesOn_44 : decode cX7_goesOn 44 = .ok (.iadd, 1) := by decide +kernel
theorem dX7_goesOn_45 : decode cX7_goesOn 45 = .ok (.iastore, 1) := by decide +kernel
theorem dX7_goesOn_46 : decode cX7_goesOn 46 = .ok (.iconst 0, 1) := by decide +kernel
theorem dX7_goesOn_47 : decode cX7_goesOn 47 = .ok (.istore_n 2, 1) := by decide +kernel
theorem dX7_goesOn_48 : decode cX7_goesOn 48 = .ok (.iload_n 2, 1) := by decide +kernel
theorem dX7_goesOn_49 : decode cX7_goesOn 49 = .ok (.bipush 6, 2) := by decide +kernel
theorem dX7_goesOn_51 : decode cX7_goesOn 51 = .ok (.if_icmp .ge 62, 3) := by decide +kernel
theorem dX7_goesOn_54 : decode cX7_goesOn 54 = .ok (.aload_n 0, 1) := by decide +kernel
theorem dX7_goesOn_55 : decode cX7_goesOn 55 = .ok (.getfield 7, 3) := by decide +kernel
theorem dX7_goesOn_58 : decode cX7_goesOn 58 = .ok (.bipush 9, 2) := by decide +kernel
theorem dX7_goesOn_60 : decode cX7_goesOn 60 = .ok (.iload_n 2, 1) := by decide +kernel
theorem dX7_goesOn_61 : decode cX7_goesOn 61 = .ok (.iadd, 1) := by decide +kernel
theorem dX7_goesOn_62 : decode cX7_goesOn 62 = .ok (.iload_n 2, 1) := by decide +kernel
theorem dX7_goesOn_63 : decode cX7_goesOn 63 = .ok (.aload_n 0, 1) := by decide +kernel
theorem dX7_goesOn_64 : decode cX7_goesOn 64 = .ok (.getfield 7, 3) := by decide +kernel
theorem dX7_goesOn_67 : decode cX7_goesOn 67 = .ok (.iconst 3, 1) := by decide +kernel
theorem dX7_goesOn_68 : decode cX7_goesOn 68 = .ok (.iaload, 1) := by decide +kernel
theorem dX7_goesOn_69 : decode cX7_goesOn 69 = .ok (.if_icmp .ne 23, 3) := by decide +kernel
theorem dX7_goesOn_72 : decode cX7_goesOn 72 = .ok (.aload_n 0, 1) := by decide +kernel
theorem dX7_goesOn_73 : decode cX7_goesOn 73 = .ok (.getfield 7, 3) := by decide +kernel
theorem dX7_goesOn_76 : decode cX7_goesOn 76 = .ok (.bipush 9, 2) := by decide +kernel
theorem dX7_goesOn_78 : decode cX7_goesOn 78 = .ok (.iload_n 2, 1) := by decide +kernel
theorem dX7_goesOn_79 : decode cX7_goesOn 79 = .ok (.iadd, 1) := by decide +kernel
theorem dX7_goesOn_80 : decode cX7_goesOn 80 = .ok (.iaload, 1) := by decide +kernel
theorem dX7_goesOn_81 : decode cX7_goesOn 81 = .ok (.aload_n 0, 1) := by decide +kernel
theorem dX7_goesOn_82 : decode cX7_goesOn 82 = .ok (.getfield 7, 3) := by decide +kernel
theorem dX7_goesOn_85 : decode cX7_goesOn 85 = .ok (.bipush 7, 2) := by decide +kernel
theorem dX7_goesOn_87 : decode cX7_goesOn 87 = .ok (.iaload, 1) := by decide +kernel
theorem dX7_goesOn_88 : decode cX7_goesOn 88 = .ok (.isub, 1) := by decide +kernel
theorem dX7_goesOn_89 : decode cX7_goesOn 89 = .ok (.goto 14, 3) := by decide +kernel
theorem dX7_goesOn_92 : decode cX7_goesOn 92 = .ok (.aload_n 0, 1) := by decide +kernel
theorem dX7_goesOn_93 : decode cX7_goesOn 93 = .ok (.getfield 7, 3) := by decide +kernel
theorem dX7_goesOn_96 : decode cX7_goesOn 96 = .ok (.bipush 9, 2) := by decide +kernel
theorem dX7_goesOn_98 : decode cX7_goesOn 98 = .ok (.iload_n 2, 1) := by decide +kernel
theorem dX7_goesOn_99 : decode cX7_goesOn 99 = .ok (.iadd, 1) := by decide +kernel
theorem dX7_goesOn_100 : decode cX7_goesOn 100 = .ok (.iaload, 1) := by decide +kernel
theorem dX7_goesOn_101 : decode cX7_goesOn 101 = .ok (.iconst 1, 1) := by decide +kernel
theorem dX7_goesOn_102 : decode cX7_goesOn 102 = .ok (.iadd, 1) := by decide +kernel
theorem dX7_goesOn_103 : decode cX7_goesOn 103 = .ok (.invokestatic 203, 3) := by decide +kernel
theorem dX7_goesOn_106 : decode cX7_goesOn 106 = .ok (.iastore, 1) := by decide +kernel
theorem dX7_goesOn_107 : decode cX7_goesOn 107 = .ok (.iinc 2 1, 3) := by decide +kernel
theorem dX7_goesOn_110 : decode cX7_goesOn 110 = .ok (.goto (-62), 3) := by decide +kernel
theorem dX7_goesOn_113 : decode cX7_goesOn 113 = .ok (.iconst 0, 1) := by decide +kernel
theorem dX7_goesOn_114 : decode cX7_goesOn 114 = .ok (.istore_n 2, 1) := by decide +kernel
theorem dX7_goesOn_115 : decode cX7_goesOn 115 = .ok (.iload_n 2, 1) := by decide +kernel
theorem dX7_goesOn_116 : decode cX7_goesOn 116 = .ok (.aload_n 0, 1) := by decide +kernel
theorem dX7_goesOn_117 : decode cX7_goesOn 117 = .ok (.getfield 7, 3) := by decide +kernel
theorem dX7_goesOn_120 : decode cX7_goesOn 120 = .ok (.iconst 0, 1) := by decide +kernel
theorem dX7_goesOn_121 : decode cX7_goesOn 121 = .ok (.iaload, 1) := by decide +kernel
theorem dX7_goesOn_122 : decode cX7_goesOn 122 = .ok (.if_icmp .ge 63, 3) := by decide +kernel
theorem dX7_goesOn_125 : decode cX7_goesOn 125 = .ok (.aload_n 0, 1) := by decide +kernel
theorem dX7_goesOn_126 : decode cX7_goesOn 126 = .ok (.iload_n 2, 1) := by decide +kernel
theorem dX7_goesOn_127 : decode cX7_goesOn 127 = .ok (.iconst 2, 1) := by decide +kernel
theorem dX7_goesOn_128 : decode cX7_goesOn 128 = .ok (.invokevirtual 169, 3) := by decide +kernel
theorem dX7_goesOn_131 : decode cX7_goesOn 131 = .ok (.istore_n 3, 1) := by decide +kernel
theorem dX7_goesOn_132 : decode cX7_goesOn 132 = .ok (.aload_n 0, 1) := by decide +kernel
theorem dX7_goesOn_133 : decode cX7_goesOn 133 = .ok (.getfield 7, 3) := by decide +kernel
theorem dX7_goesOn_136 : decode cX7_goesOn 136 = .ok (.bipush 21, 2) := by decide +kernel
theorem dX7_goesOn_138 : decode cX7_goesOn 138 = .ok (.iconst 4, 1) := by decide +kernel
theorem dX7_goesOn_139 : decode cX7_goesOn 139 = .ok (.iload_n 2, 1) := by decide +kernel
theorem dX7_goesOn_140 : decode cX7_goesOn 140 = .ok (.imul, 1) := by decide +kernel
theorem dX7_goesOn_141 : decode cX7_goesOn 141 = .ok (.iadd, 1) := by decide +kernel
theorem dX7_goesOn_142 : decode cX7_goesOn 142 = .ok (.iconst 2, 1) := by decide +kernel
theorem dX7_goesOn_143 : decode cX7_goesOn 143 = .ok (.iadd, 1) := by decide +kernel
theorem dX7_goesOn_144 : decode cX7_goesOn 144 = .ok (.aload_n 0, 1) := by decide +kernel
theorem dX7_goesOn_145 : decode cX7_goesOn 145 = .ok (.getfield 7, 3) := by decide +kernel
theorem dX7_goesOn_148 : decode cX7_goesOn 148 = .ok (.bipush 15, 2) := by decide +kernel
theorem dX7_goesOn_150 : decode cX7_goesOn 150 = .ok (.aload_n 0, 1) := by decide +kernel
theorem dX7_goesOn_151 : decode cX7_goesOn 151 = .ok (.getfield 7, 3) := by decide +kernel
theorem dX7_goesOn_154 : decode cX7_goesOn 154 = .ok (.iconst 3, 1) := by decide +kernel
theorem dX7_goesOn_155 : decode cX7_goesOn 155 = .ok (.iaload, 1) := by decide +kernel
theorem dX7_goesOn_156 : decode cX7_goesOn 156 = .ok (.iadd, 1) := by decide +kernel
theorem dX7_goesOn_157 : decode cX7_goesOn 157 = .ok (.iaload, 1) := by decide +kernel
theorem dX7_goesOn_158 : decode cX7_goesOn 158 = .ok (.iload_n 3, 1) := by decide +kernel
theorem dX7_goesOn_159 : decode cX7_goesOn 159 = .ok (.if_icmp .le 9, 3) := by decide +kernel
theorem dX7_goesOn_162 : decode cX7_goesOn 162 = .ok (.iload_n 3, 1) := by decide +kernel
theorem dX7_goesOn_163 : decode cX7_goesOn 163 = .ok (.iconst 1, 1) := by decide +kernel
theorem dX7_goesOn_164 : decode cX7_goesOn 164 = .ok (.iadd, 1) := by decide +kernel
theorem dX7_goesOn_165 : decode cX7_goesOn 165 = .ok (.goto 10, 3) := by decide +kernel
theorem dX7_goesOn_168 : decode cX7_goesOn 168 = .ok (.iload_n 3, 1) := by decide +kernel
theorem dX7_goesOn_169 : decode cX7_goesOn 169 = .ok (.aload_n 0, 1) := by decide +kernel
theorem dX7_goesOn_170 : decode cX7_goesOn 170 = .ok (.iload_n 2, 1) := by decide +kernel
theorem dX7_goesOn_171 : decode cX7_goesOn 171 = .ok (.invokevirtual 187, 3) := by decide +kernel
theorem dX7_goesOn_174 : decode cX7_goesOn 174 = .ok (.isub, 1) := by decide +kernel
theorem dX7_goesOn_175 : decode cX7_goesOn 175 = .ok (.invokestatic 203, 3) := by decide +kernel
theorem dX7_goesOn_178 : decode cX7_goesOn 178 = .ok (.iastore, 1) := by decide +kernel
theorem dX7_goesOn_179 : decode cX7_goesOn 179 = .ok (.iinc 2 1, 3) := by decide +kernel
theorem dX7_goesOn_182 : decode cX7_goesOn 182 = .ok (.goto (-67), 3) := by decide +kernel
theorem dX7_goesOn_185 : decode cX7_goesOn 185 = .ok (.aload_n 0, 1) := by decide +kernel
theorem dX7_goesOn_186 : decode cX7_goesOn 186 = .ok (.getfield 7, 3) := by decide +kernel
theorem dX7_goesOn_189 : decode cX7_goesOn 189 = .ok (.iconst 1, 1) := by decide +kernel
theorem dX7_goesOn_190 : decode cX7_goesOn 190 = .ok (.dup2, 1) := by decide +kernel
theorem dX7_goesOn_191 : decode cX7_goesOn 191 = .ok (.iaload, 1) := by decide +kernel
theorem dX7_goesOn_192 : decode cX7_goesOn 192 = .ok (.iconst 1, 1) := by decide +kernel
theorem dX7_goesOn_193 : decode cX7_goesOn 193 = .ok (.iadd, 1) := by decide +kernel
theorem dX7_goesOn_194 : decode cX7_goesOn 194 = .ok (.iastore, 1) := by decide +kernel
theorem dX7_goesOn_195 : decode cX7_goesOn 195 = .ok (.return_, 1) := by decide +kernel
def p_X7_goesOn_J175 (F : tF) (A : tA) (B115 : (tF → tA → Int32 → Prop)) (K : tF → tA → Prop) (x2 : Int32) (s0 : Int32) (s1 : Int32) : Prop := (p_X7_within s0 (fun r175 => (vp_in s1 53 ∧ (∀ f_178 : tF, f_178 = (upd (A 0) (s1).toNatClampNeg r175) → (∀ y179 : Int32, y179 = (x2 + (1 : Int32)) → (B115 F (va_up A 0 f_178) y179))))))
set_option maxHeartbeats 4000000 in
set_option maxRecDepth 100000 in
theorem b_X7_goesOn_J175 {p : Program} {l : Launch} {e : Env} {s : State} {m : MethodId} {args : Array Value} {below : List Frame} {meth : Method} {c : Code} {Q : State → Prop} {D : va_G} {cI cZ cR : ClassId} {adK adV : Nat → Nat} {A9 : Nat → Prop} {o : Nat} {q : Nat → Nat} {K : tF → tA → Prop} {B115 : (tF → tA → Int32 → Prop)} (F : tF) (A : tA) (x2 : Int32) (s0 : Int32) (s1 : Int32) (X : CX p s m args c yX7_goesOn.cls cX7_goesOn 4 D cI cZ cR adK adV A9) (ret : RTv p l e (rmN 5 119) s m args below meth c Q cX7_goesOn D A9 (fun (u : (tF × tA)) => K u.1 u.2) (fun (u : (tF × tA)) => (wX7 cI cZ o q u.1 u.2 : va_W))) (hB115 : ∀ (F : tF) (A : tA) (x2 : Int32) (H : Heap) (locs : List Loc) (ls : Array Slot), B115 F A x2 → va_P D vwCl (wX7 cI cZ o q F A : va_W) H → va_D A9 (wX7 cI cZ o q F A : va_W) → va_S A9 s.heap H locs → lv_has ls 4 [(0, .ref o), (2, .int x2)] → W p l e (rmN 5 119) s m args below meth c H locs 0 0 Q (F0 m 115 ls [])) (H : Heap) (locs : List Loc) (ls : Array Slot) (h : p_X7_goesOn_J175 F A B115 K x2 s0 s1) (hP : va_P D vwCl (wX7 cI cZ o q F A : va_W) H) (hD : va_D A9 (wX7 cI cZ o q F A : va_W)) (hS : va_S A9 s.heap H locs) (hl : lv_has ls 4 [(0, .ref o), (2, .int x2)]) : W p l e (rmN 5 119) s m args below meth c H locs 0 0 Q (F0 m 175 ls [.int s0, .int s1, .ref (q 0)]) := by
  obtain ⟨hx, hb, hml, ht, hown, hK, hA, hE⟩ := id X
  unfold p_X7_goesOn_J175 at h
  refine C_si (wr := [0, 1, 2, 3, 4, 5, 6, 7, 8, 9, 10, 11, 12, 13, 14, 15].filterMap (fun i => (wX7 cI cZ o q F A : va_W)[i]?)) X hP hD hS [.int s0] [.int s1, .ref (q 0)] (w_X7_within l D cI cZ cR adK adV _ s0 _ h) cal_X7_within mw_26_4 rfl [] [0, 1, 2, 3, 4, 5, 6, 7, 8, 9, 10, 11, 12, 13, 14, 15] [0, 1, 2, 3, 4, 5, 6, 7, 8, 9, 10, 11, 12, 13, 14, 15] (fun u => (wX7 cI cZ o q F A : va_W)) rfl rfl (fun _ => rfl) rfl ⟨rfl, rfl⟩ ⟨Nat.le_of_ble_eq_true rfl, Nat.le_of_ble_eq_true rfl⟩ hl.1 rfl (Nat.le_of_ble_eq_true rfl) ⟨Nat.zero_le _, Nat.zero_le _⟩ dX7_goesOn_175 (fun r175 u H locs h hP hD hS => ?_)
  obtain ⟨hi178, h⟩ := h
  obtain ⟨f_178, ef_178⟩ : ∃ z : tF, z = (upd (A 0) (s1).toNatClampNeg r175) := ⟨_, rfl⟩
  replace h := h f_178 ef_178
  refine g_iast (f := (A 0)) (k := (s1).toNatClampNeg) hx hb hK hP hD hS 1 0 rfl rfl hi178 rfl ef_178 dX7_goesOn_178 (fun H locs hP hD hS => ?_)
  have hP : va_P D vwCl (wX7 cI cZ o q F (va_up A 0 f_178) : va_W) H := hP
  have hD : va_D A9 (wX7 cI cZ o q F (va_up A 0 f_178) : va_W) := hD
  obtain ⟨y179, ey179⟩ : ∃ y : Int32, y = (x2 + (1 : Int32)) := ⟨_, rfl⟩
  replace h := h y179 ey179
  refine lv_iinc (v := y179) (lv' := [(2, .int y179), (0, .ref o)]) hx hb dX7_goesOn_179 hl (k := 1) rfl (by rw [ey179]; rfl) (by decide) rfl (fun ls hl => ?_)
  refine lv_goto (tgt := 115) hx hb dX7_goesOn_182 (by decide) ?_
  exact hB115 F (va_up A 0 f_178) y179 _ _ _ h hP hD hS (lv_sub hl [1, 0] rfl)
def p_X7_goesOn_L115 (K : tF → tA → Prop) : Nat → tF → tA → Int32 → Prop
  | 0, _, _, _ => False
  | n115 + 1, F, A, x2 => ((((A 0) 0) ≤ x2 → (∀ f_194 : tF, f_194 = (upd (A 0) 1 (((A 0) 1) + (1 : Int32))) → (K F (va_up A 0 f_194)))) ∧ (¬ ((A 0) 0) ≤ x2 → (p_X7_its F A x2 (2 : Int32) (fun r128 => (vp_in ((15 : Int32) + ((A 0) 3)) 53 ∧ ((((A 0) (((15 : Int32) + ((A 0) 3))).toNatClampNeg) ≤ r128 → (p_X7_tamesOf F A x2 (fun r171 => (p_X7_goesOn_J175 F A (p_X7_goesOn_L115 K n115) K x2 (r128 - r171) (((21 : Int32) + ((4 : Int32) * x2)) + (2 : Int32)))))) ∧ (¬ ((A 0) (((15 : Int32) + ((A 0) 3))).toNatClampNeg) ≤ r128 → (p_X7_goesOn_J175 F A (p_X7_goesOn_L115 K n115) K x2 (r128 + (1 : Int32)) (((21 : Int32) + ((4 : Int32) * x2)) + (2 : Int32))))))))))
set_option maxHeartbeats 4000000 in
set_option maxRecDepth 100000 in
theorem b_X7_goesOn_L115 {p : Program} {l : Launch} {e : Env} {s : State} {m : MethodId} {args : Array Value} {below : List Frame} {meth : Method} {c : Code} {Q : State → Prop} {D : va_G} {cI cZ cR : ClassId} {adK adV : Nat → Nat} {A9 : Nat → Prop} {o : Nat} {q : Nat → Nat} {K : tF → tA → Prop}   (X : CX p s m args c yX7_goesOn.cls cX7_goesOn 4 D cI cZ cR adK adV A9) (ret : RTv p l e (rmN 5 119) s m args below meth c Q cX7_goesOn D A9 (fun (u : (tF × tA)) => K u.1 u.2) (fun (u : (tF × tA)) => (wX7 cI cZ o q u.1 u.2 : va_W)))   : ∀ (n : Nat) (F : tF) (A : tA) (x2 : Int32) (H : Heap) (locs : List Loc) (ls : Array Slot), p_X7_goesOn_L115 K n F A x2 → va_P D vwCl (wX7 cI cZ o q F A : va_W) H → va_D A9 (wX7 cI cZ o q F A : va_W) → va_S A9 s.heap H locs → lv_has ls 4 [(0, .ref o), (2, .int x2)] → W p l e (rmN 5 119) s m args below meth c H locs 0 0 Q (F0 m 115 ls []) := by
  obtain ⟨hx, hb, hml, ht, hown, hK, hA, hE⟩ := id X
  intro n
  induction n with
  | zero => intro F A x2 H locs ls h; exact False.elim h
  | succ n115 ih =>
    intro F A x2 H locs ls h hP hD hS hl
    rw [p_X7_goesOn_L115] at h
    refine lv_iload_n hx hb dX7_goesOn_115 rfl (lv_at hl 1 rfl) ?_
    refine lv_aload_n hx hb dX7_goesOn_116 rfl (lv_at hl 0 rfl) ?_
    refine va_get (C := RX7) (T := TX7) (N := 28) (own := RX7) (v := .ref (q 0)) hx hb ht inlX7 hown hK hP 0 rfl rfl 0 (Nat.le_of_ble_eq_true rfl) (ht _ mw_5_7) (fun _ h9 => h9) rfl dX7_goesOn_117 ?_
    refine lv_iconst (v := 0) hx hb dX7_goesOn_120 (by decide) ?_
    refine g_iald (f := (A 0)) (k := 0) hx hb hK hP 1 0 rfl rfl (vp_in_lit rfl : vp_in (0 : Int32) 53) (by decide) dX7_goesOn_121 ?_
    refine lv_icmp_ge (tgt := 185) hx hb dX7_goesOn_122 (by decide) (fun c122 => ?_) (fun c122 => ?_)
    · replace h := h.1 c122
      refine lv_aload_n hx hb dX7_goesOn_185 rfl (lv_at hl 0 rfl) ?_
      refine va_get (C := RX7) (T := TX7) (N := 28) (own := RX7) (v := .ref (q 0)) hx hb ht inlX7 hown hK hP 0 rfl rfl 0 (Nat.le_of_ble_eq_true rfl) (ht _ mw_5_7) (fun _ h9 => h9) rfl dX7_goesOn_186 ?_
      refine lv_iconst (v := 1) hx hb dX7_goesOn_189 (by decide) ?_
      refine lv_dup2_11 hx hb dX7_goesOn_190 rfl rfl ?_
      refine g_iald (f := (A 0)) (k := 1) hx hb hK hP 1 0 rfl rfl (vp_in_lit rfl : vp_in (1 : Int32) 53) (by decide) dX7_goesOn_191 ?_
      refine lv_iconst (v := 1) hx hb dX7_goesOn_192 (by decide) ?_
      refine lv_iadd hx hb dX7_goesOn_193 ?_
      obtain ⟨f_194, ef_194⟩ : ∃ z : tF, z = (upd (A 0) 1 (((A 0) 1) + (1 : Int32))) := ⟨_, rfl⟩
      replace h := h f_194 ef_194
      refine g_iast (f := (A 0)) (k := 1) hx hb hK hP hD hS 1 0 rfl rfl (vp_in_lit rfl : vp_in (1 : Int32) 53) (by decide) ef_194 dX7_goesOn_194 (fun H locs hP hD hS => ?_)
      have hP : va_P D vwCl (wX7 cI cZ o q F (va_up A 0 f_194) : va_W) H := hP
      have hD : va_D A9 (wX7 cI cZ o q F (va_up A 0 f_194) : va_W) := hD
      exact ret (F, (va_up A 0 f_194)) _ _ _ _ dX7_goesOn_195 h hP hD hS
    · replace h := h.2 c122
      refine lv_aload_n hx hb dX7_goesOn_125 rfl (lv_at hl 0 rfl) ?_
      refine lv_iload_n hx hb dX7_goesOn_126 rfl (lv_at hl 1 rfl) ?_
      refine lv_iconst (v := 2) hx hb dX7_goesOn_127 (by decide) ?_
      refine C_vi (wr := []) X hP hD hS [.int x2, .int (2 : Int32)] [] (w_X7_its l D cI cZ cR adK adV _ o q F A x2 (2 : Int32) _ h) cal_X7_its mw_18_16 rfl [0, 1, 2, 3, 4, 5, 6, 7, 8, 9, 10, 11, 12, 13, 14, 15] [] [0, 1, 2, 3, 4, 5, 6, 7, 8, 9, 10, 11, 12, 13, 14, 15] (fun u => (wX7 cI cZ o q F A : va_W)) rfl rfl (fun _ => rfl) rfl 0 rfl rfl ⟨rfl, rfl⟩ ⟨Nat.le_of_ble_eq_true rfl, Nat.le_of_ble_eq_true rfl⟩ hl.1 rfl (Nat.le_of_ble_eq_true rfl) ⟨Nat.zero_le _, Nat.zero_le _⟩ dX7_goesOn_128 (fun r128 u H locs h hP hD hS => ?_)
      refine lv_istore_n (lv' := [(3, .int r128), (0, .ref o), (2, .int x2)]) hx hb dX7_goesOn_131 rfl hl (by decide) rfl (fun ls hl => ?_)
      refine lv_aload_n hx hb dX7_goesOn_132 rfl (lv_at hl 1 rfl) ?_
      refine va_get (C := RX7) (T := TX7) (N := 28) (own := RX7) (v := .ref (q 0)) hx hb ht inlX7 hown hK hP 0 rfl rfl 0 (Nat.le_of_ble_eq_true rfl) (ht _ mw_5_7) (fun _ h9 => h9) rfl dX7_goesOn_133 ?_
      refine lv_bipush (v := 21) hx hb dX7_goesOn_136 (by decide) ?_
      refine lv_iconst (v := 4) hx hb dX7_goesOn_138 (by decide) ?_
      refine lv_iload_n hx hb dX7_goesOn_139 rfl (lv_at hl 2 rfl) ?_
      refine lv_imul hx hb dX7_goesOn_140 ?_
      refine lv_iadd hx hb dX7_goesOn_141 ?_
      refine lv_iconst (v := 2) hx hb dX7_goesOn_142 (by decide) ?_
      refine lv_iadd hx hb dX7_goesOn_143 ?_
      refine lv_aload_n hx hb dX7_goesOn_144 rfl (lv_at hl 1 rfl) ?_
      refine va_get (C := RX7) (T := TX7) (N := 28) (own := RX7) (v := .ref (q 0)) hx hb ht inlX7 hown hK hP 0 rfl rfl 0 (Nat.le_of_ble_eq_true rfl) (ht _ mw_5_7) (fun _ h9 => h9) rfl dX7_goesOn_145 ?_
      refine lv_bipush (v := 15) hx hb dX7_goesOn_148 (by decide) ?_
      refine lv_aload_n hx hb dX7_goesOn_150 rfl (lv_at hl 1 rfl) ?_
      refine va_get (C := RX7) (T := TX7) (N := 28) (own := RX7) (v := .ref (q 0)) hx hb ht inlX7 hown hK hP 0 rfl rfl 0 (Nat.le_of_ble_eq_true rfl) (ht _ mw_5_7) (fun _ h9 => h9) rfl dX7_goesOn_151 ?_
      refine lv_iconst (v := 3) hx hb dX7_goesOn_154 (by decide) ?_
      refine g_iald (f := (A 0)) (k := 3) hx hb hK hP 1 0 rfl rfl (vp_in_lit rfl : vp_in (3 : Int32) 53) (by decide) dX7_goesOn_155 ?_
      refine lv_iadd hx hb dX7_goesOn_156 ?_
      obtain ⟨hi157, h⟩ := h
      refine g_iald (f := (A 0)) (k := (((15 : Int32) + ((A 0) 3))).toNatClampNeg) hx hb hK hP 1 0 rfl rfl hi157 rfl dX7_goesOn_157 ?_
      refine lv_iload_n hx hb dX7_goesOn_158 rfl (lv_at hl 0 rfl) ?_
      refine lv_icmp_le (tgt := 168) hx hb dX7_goesOn_159 (by decide) (fun c159 => ?_) (fun c159 => ?_)
      · replace h := h.1 c159
        refine lv_iload_n hx hb dX7_goesOn_168 rfl (lv_at hl 0 rfl) ?_
        refine lv_aload_n hx hb dX7_goesOn_169 rfl (lv_at hl 1 rfl) ?_
        refine lv_iload_n hx hb dX7_goesOn_170 rfl (lv_at hl 2 rfl) ?_
        refine C_vi (wr := []) X hP hD hS [.int x2] [.int r128, .int (((21 : Int32) + ((4 : Int32) * x2)) + (2 : Int32)), .ref (q 0)] (w_X7_tamesOf l D cI cZ cR adK adV _ o q F A x2 _ h) cal_X7_tamesOf mw_20_8 rfl [0, 1, 2, 3, 4, 5, 6, 7, 8, 9, 10, 11, 12, 13, 14, 15] [] [0, 1, 2, 3, 4, 5, 6, 7, 8, 9, 10, 11, 12, 13, 14, 15] (fun u => (wX7 cI cZ o q F A : va_W)) rfl rfl (fun _ => rfl) rfl 0 rfl rfl ⟨rfl, rfl⟩ ⟨Nat.le_of_ble_eq_true rfl, Nat.le_of_ble_eq_true rfl⟩ hl.1 rfl (Nat.le_of_ble_eq_true rfl) ⟨Nat.zero_le _, Nat.zero_le _⟩ dX7_goesOn_171 (fun r171 u H locs h hP hD hS => ?_)
        refine lv_isub hx hb dX7_goesOn_174 ?_
        exact b_X7_goesOn_J175 F A x2 (r128 - r171) (((21 : Int32) + ((4 : Int32) * x2)) + (2 : Int32)) X ret ih _ _ _ h hP hD hS (lv_sub hl [1, 2] rfl)
      · replace h := h.2 c159
        refine lv_iload_n hx hb dX7_goesOn_162 rfl (lv_at hl 0 rfl) ?_
        refine lv_iconst (v := 1) hx hb dX7_goesOn_163 (by decide) ?_
        refine lv_iadd hx hb dX7_goesOn_164 ?_
        refine lv_goto (tgt := 175) hx hb dX7_goesOn_165 (by decide) ?_
        exact b_X7_goesOn_J175 F A x2 (r128 + (1 : Int32)) (((21 : Int32) + ((4 : Int32) * x2)) + (2 : Int32)) X ret ih _ _ _ h hP hD hS (lv_sub hl [1, 2] rfl)
def p_X7_goesOn_J103 (F : tF) (A : tA) (B48 : (tF → tA → Int32 → Prop)) (K : tF → tA → Prop) (x2 : Int32) (s0 : Int32) (s1 : Int32) : Prop := (p_X7_within s0 (fun r103 => (vp_in s1 53 ∧ (∀ f_106 : tF, f_106 = (upd (A 0) (s1).toNatClampNeg r103) → (∀ y107 : Int32, y107 = (x2 + (1 : Int32)) → (B48 F (va_up A 0 f_106) y107))))))
set_option maxHeartbeats 4000000 in
set_option maxRecDepth 100000 in
theorem b_X7_goesOn_J103 {p : Program} {l : Launch} {e : Env} {s : State} {m : MethodId} {args : Array Value} {below : List Frame} {meth : Method} {c : Code} {Q : State → Prop} {D : va_G} {cI cZ cR : ClassId} {adK adV : Nat → Nat} {A9 : Nat → Prop} {o : Nat} {q : Nat → Nat} {K : tF → tA → Prop} {B48 : (tF → tA → Int32 → Prop)} (F : tF) (A : tA) (x2 : Int32) (s0 : Int32) (s1 : Int32) (X : CX p s m args c yX7_goesOn.cls cX7_goesOn 4 D cI cZ cR adK adV A9) (ret : RTv p l e (rmN 5 119) s m args below meth c Q cX7_goesOn D A9 (fun (u : (tF × tA)) => K u.1 u.2) (fun (u : (tF × tA)) => (wX7 cI cZ o q u.1 u.2 : va_W))) (hB48 : ∀ (F : tF) (A : tA) (x2 : Int32) (H : Heap) (locs : List Loc) (ls : Array Slot), B48 F A x2 → va_P D vwCl (wX7 cI cZ o q F A : va_W) H → va_D A9 (wX7 cI cZ o q F A : va_W) → va_S A9 s.heap H locs → lv_has ls 4 [(0, .ref o), (2, .int x2)] → W p l e (rmN 5 119) s m args below meth c H locs 0 0 Q (F0 m 48 ls [])) (H : Heap) (locs : List Loc) (ls : Array Slot) (h : p_X7_goesOn_J103 F A B48 K x2 s0 s1) (hP : va_P D vwCl (wX7 cI cZ o q F A : va_W) H) (hD : va_D A9 (wX7 cI cZ o q F A : va_W)) (hS : va_S A9 s.heap H locs) (hl : lv_has ls 4 [(0, .ref o), (2, .int x2)]) : W p l e (rmN 5 119) s m args below meth c H locs 0 0 Q (F0 m 103 ls [.int s0, .int s1, .ref (q 0)]) := by
  obtain ⟨hx, hb, hml, ht, hown, hK, hA, hE⟩ := id X
  unfold p_X7_goesOn_J103 at h
  refine C_si (wr := [0, 1, 2, 3, 4, 5, 6, 7, 8, 9, 10, 11, 12, 13, 14, 15].filterMap (fun i => (wX7 cI cZ o q F A : va_W)[i]?)) X hP hD hS [.int s0] [.int s1, .ref (q 0)] (w_X7_within l D cI cZ cR adK adV _ s0 _ h) cal_X7_within mw_26_4 rfl [] [0, 1, 2, 3, 4, 5, 6, 7, 8, 9, 10, 11, 12, 13, 14, 15] [0, 1, 2, 3, 4, 5, 6, 7, 8, 9, 10, 11, 12, 13, 14, 15] (fun u => (wX7 cI cZ o q F A : va_W)) rfl rfl (fun _ => rfl) rfl ⟨rfl, rfl⟩ ⟨Nat.le_of_ble_eq_true rfl, Nat.le_of_ble_eq_true rfl⟩ hl.1 rfl (Nat.le_of_ble_eq_true rfl) ⟨Nat.zero_le _, Nat.zero_le _⟩ dX7_goesOn_103 (fun r103 u H locs h hP hD hS => ?_)
  obtain ⟨hi106, h⟩ := h
  obtain ⟨f_106, ef_106⟩ : ∃ z : tF, z = (upd (A 0) (s1).toNatClampNeg r103) := ⟨_, rfl⟩
  replace h := h f_106 ef_106
  refine g_iast (f := (A 0)) (k := (s1).toNatClampNeg) hx hb hK hP hD hS 1 0 rfl rfl hi106 rfl ef_106 dX7_goesOn_106 (fun H locs hP hD hS => ?_)
  have hP : va_P D vwCl (wX7 cI cZ o q F (va_up A 0 f_106) : va_W) H := hP
  have hD : va_D A9 (wX7 cI cZ o q F (va_up A 0 f_106) : va_W) := hD
  obtain ⟨y107, ey107⟩ : ∃ y : Int32, y = (x2 + (1 : Int32)) := ⟨_, rfl⟩
  replace h := h y107 ey107
  refine lv_iinc (v := y107) (lv' := [(2, .int y107), (0, .ref o)]) hx hb dX7_goesOn_107 hl (k := 1) rfl (by rw [ey107]; rfl) (by decide) rfl (fun ls hl => ?_)
  refine lv_goto (tgt := 48) hx hb dX7_goesOn_110 (by decide) ?_
  exact hB48 F (va_up A 0 f_106) y107 _ _ _ h hP hD hS (lv_sub hl [1, 0] rfl)
def p_X7_goesOn_L48 (K : tF → tA → Prop) : Nat → tF → tA → Int32 → Prop
  | 0, _, _, _ => False
  | n48 + 1, F, A, x2 => (((6 : Int32) ≤ x2 → (∃ n115, p_X7_goesOn_L115 K n115 F A (0 : Int32))) ∧ (¬ (6 : Int32) ≤ x2 → ((¬ x2 = ((A 0) 3) → (vp_in ((9 : Int32) + x2) 53 ∧ (p_X7_goesOn_J103 F A (p_X7_goesOn_L48 K n48) K x2 (((A 0) (((9 : Int32) + x2)).toNatClampNeg) + (1 : Int32)) ((9 : Int32) + x2)))) ∧ (x2 = ((A 0) 3) → (vp_in ((9 : Int32) + x2) 53 ∧ (p_X7_goesOn_J103 F A (p_X7_goesOn_L48 K n48) K x2 (((A 0) (((9 : Int32) + x2)).toNatClampNeg) - ((A 0) 7)) ((9 : Int32) + x2)))))))
set_option maxHeartbeats 4000000 in
set_option maxRecDepth 100000 in
theorem b_X7_goesOn_L48 {p : Program} {l : Launch} {e : Env} {s : State} {m : MethodId} {args : Array Value} {below : List Frame} {meth : Method} {c : Code} {Q : State → Prop} {D : va_G} {cI cZ cR : ClassId} {adK adV : Nat → Nat} {A9 : Nat → Prop} {o : Nat} {q : Nat → Nat} {K : tF → tA → Prop}   (X : CX p s m args c yX7_goesOn.cls cX7_goesOn 4 D cI cZ cR adK adV A9) (ret : RTv p l e (rmN 5 119) s m args below meth c Q cX7_goesOn D A9 (fun (u : (tF × tA)) => K u.1 u.2) (fun (u : (tF × tA)) => (wX7 cI cZ o q u.1 u.2 : va_W)))   : ∀ (n : Nat) (F : tF) (A : tA) (x2 : Int32) (H : Heap) (locs : List Loc) (ls : Array Slot), p_X7_goesOn_L48 K n F A x2 → va_P D vwCl (wX7 cI cZ o q F A : va_W) H → va_D A9 (wX7 cI cZ o q F A : va_W) → va_S A9 s.heap H locs → lv_has ls 4 [(0, .ref o), (2, .int x2)] → W p l e (rmN 5 119) s m args below meth c H locs 0 0 Q (F0 m 48 ls []) := by
  obtain ⟨hx, hb, hml, ht, hown, hK, hA, hE⟩ := id X
  intro n
  induction n with
  | zero => intro F A x2 H locs ls h; exact False.elim h
  | succ n48 ih =>
    intro F A x2 H locs ls h hP hD hS hl
    rw [p_X7_goesOn_L48] at h
    refine lv_iload_n hx hb dX7_goesOn_48 rfl (lv_at hl 1 rfl) ?_
    refine lv_bipush (v := 6) hx hb dX7_goesOn_49 (by decide) ?_
    refine lv_icmp_ge (tgt := 113) hx hb dX7_goesOn_51 (by decide) (fun c51 => ?_) (fun c51 => ?_)
    · replace h := h.1 c51
      refine lv_iconst (v := 0) hx hb dX7_goesOn_113 (by decide) ?_
      refine lv_istore_n (lv' := [(2, .int (0 : Int32)), (0, .ref o)]) hx hb dX7_goesOn_114 rfl hl (by decide) rfl (fun ls hl => ?_)
      obtain ⟨n115, h⟩ := h
      exact b_X7_goesOn_L115  X ret  n115 F A (0 : Int32) _ _ _ h hP hD hS (lv_sub hl [1, 0] rfl)
    · replace h := h.2 c51
      refine lv_aload_n hx hb dX7_goesOn_54 rfl (lv_at hl 0 rfl) ?_
      refine va_get (C := RX7) (T := TX7) (N := 28) (own := RX7) (v := .ref (q 0)) hx hb ht inlX7 hown hK hP 0 rfl rfl 0 (Nat.le_of_ble_eq_true rfl) (ht _ mw_5_7) (fun _ h9 => h9) rfl dX7_goesOn_55 ?_
      refine lv_bipush (v := 9) hx hb dX7_goesOn_58 (by decide) ?_
      refine lv_iload_n hx hb dX7_goesOn_60 rfl (lv_at hl 1 rfl) ?_
      refine lv_iadd hx hb dX7_goesOn_61 ?_
      refine lv_iload_n hx hb dX7_goesOn_62 rfl (lv_at hl 1 rfl) ?_
      refine lv_aload_n hx hb dX7_goesOn_63 rfl (lv_at hl 0 rfl) ?_
      refine va_get (C := RX7) (T := TX7) (N := 28) (own := RX7) (v := .ref (q 0)) hx hb ht inlX7 hown hK hP 0 rfl rfl 0 (Nat.le_of_ble_eq_true rfl) (ht _ mw_5_7) (fun _ h9 => h9) rfl dX7_goesOn_64 ?_
      refine lv_iconst (v := 3) hx hb dX7_goesOn_67 (by decide) ?_
      refine g_iald (f := (A 0)) (k := 3) hx hb hK hP 1 0 rfl rfl (vp_in_lit rfl : vp_in (3 : Int32) 53) (by decide) dX7_goesOn_68 ?_
      refine lv_icmp_ne (tgt := 92) hx hb dX7_goesOn_69 (by decide) (fun c69 => ?_) (fun c69 => ?_)
      · replace h := h.1 c69
        refine lv_aload_n hx hb dX7_goesOn_92 rfl (lv_at hl 0 rfl) ?_
        refine va_get (C := RX7) (T := TX7) (N := 28) (own := RX7) (v := .ref (q 0)) hx hb ht inlX7 hown hK hP 0 rfl rfl 0 (Nat.le_of_ble_eq_true rfl) (ht _ mw_5_7) (fun _ h9 => h9) rfl dX7_goesOn_93 ?_
        refine lv_bipush (v := 9) hx hb dX7_goesOn_96 (by decide) ?_
        refine lv_iload_n hx hb dX7_goesOn_98 rfl (lv_at hl 1 rfl) ?_
        refine lv_iadd hx hb dX7_goesOn_99 ?_
        obtain ⟨hi100, h⟩ := h
        refine g_iald (f := (A 0)) (k := (((9 : Int32) + x2)).toNatClampNeg) hx hb hK hP 1 0 rfl rfl hi100 rfl dX7_goesOn_100 ?_
        refine lv_iconst (v := 1) hx hb dX7_goesOn_101 (by decide) ?_
        refine lv_iadd hx hb dX7_goesOn_102 ?_
        exact b_X7_goesOn_J103 F A x2 (((A 0) (((9 : Int32) + x2)).toNatClampNeg) + (1 : Int32)) ((9 : Int32) + x2) X ret ih _ _ _ h hP hD hS (lv_sub hl [0, 1] rfl)
      · replace h := h.2 c69
        refine lv_aload_n hx hb dX7_goesOn_72 rfl (lv_at hl 0 rfl) ?_
        refine va_get (C := RX7) (T := TX7) (N := 28) (own := RX7) (v := .ref (q 0)) hx hb ht inlX7 hown hK hP 0 rfl rfl 0 (Nat.le_of_ble_eq_true rfl) (ht _ mw_5_7) (fun _ h9 => h9) rfl dX7_goesOn_73 ?_
        refine lv_bipush (v := 9) hx hb dX7_goesOn_76 (by decide) ?_
        refine lv_iload_n hx hb dX7_goesOn_78 rfl (lv_at hl 1 rfl) ?_
        refine lv_iadd hx hb dX7_goesOn_79 ?_
        obtain ⟨hi80, h⟩ := h
        refine g_iald (f := (A 0)) (k := (((9 : Int32) + x2)).toNatClampNeg) hx hb hK hP 1 0 rfl rfl hi80 rfl dX7_goesOn_80 ?_
        refine lv_aload_n hx hb dX7_goesOn_81 rfl (lv_at hl 0 rfl) ?_
        refine va_get (C := RX7) (T := TX7) (N := 28) (own := RX7) (v := .ref (q 0)) hx hb ht inlX7 hown hK hP 0 rfl rfl 0 (Nat.le_of_ble_eq_true rfl) (ht _ mw_5_7) (fun _ h9 => h9) rfl dX7_goesOn_82 ?_
        refine lv_bipush (v := 7) hx hb dX7_goesOn_85 (by decide) ?_
        refine g_iald (f := (A 0)) (k := 7) hx hb hK hP 1 0 rfl rfl (vp_in_lit rfl : vp_in (7 : Int32) 53) (by decide) dX7_goesOn_87 ?_
        refine lv_isub hx hb dX7_goesOn_88 ?_
        refine lv_goto (tgt := 103) hx hb dX7_goesOn_89 (by decide) ?_
        exact b_X7_goesOn_J103 F A x2 (((A 0) (((9 : Int32) + x2)).toNatClampNeg) - ((A 0) 7)) ((9 : Int32) + x2) X ret ih _ _ _ h hP hD hS (lv_sub hl [0, 1] rfl)
def p_X7_goesOn_J44 (F : tF) (A : tA) (K : tF → tA → Prop) (s0 : Int32) (s1 : Int32) (s2 : Int32) : Prop := (vp_in s2 53 ∧ (∀ f_45 : tF, f_45 = (upd (A 0) (s2).toNatClampNeg (s1 + s0)) → (∃ n48, p_X7_goesOn_L48 K n48 F (va_up A 0 f_45) (0 : Int32))))
set_option maxHeartbeats 4000000 in
set_option maxRecDepth 100000 in
theorem b_X7_goesOn_J44 {p : Program} {l : Launch} {e : Env} {s : State} {m : MethodId} {args : Array Value} {below : List Frame} {meth : Method} {c : Code} {Q : State → Prop} {D : va_G} {cI cZ cR : ClassId} {adK adV : Nat → Nat} {A9 : Nat → Prop} {o : Nat} {q : Nat → Nat} {K : tF → tA → Prop}  (F : tF) (A : tA) (s0 : Int32) (s1 : Int32) (s2 : Int32) (X : CX p s m args c yX7_goesOn.cls cX7_goesOn 4 D cI cZ cR adK adV A9) (ret : RTv p l e (rmN 5 119) s m args below meth c Q cX7_goesOn D A9 (fun (u : (tF × tA)) => K u.1 u.2) (fun (u : (tF × tA)) => (wX7 cI cZ o q u.1 u.2 : va_W)))  (H : Heap) (locs : List Loc) (ls : Array Slot) (h : p_X7_goesOn_J44 F A K s0 s1 s2) (hP : va_P D vwCl (wX7 cI cZ o q F A : va_W) H) (hD : va_D A9 (wX7 cI cZ o q F A : va_W)) (hS : va_S A9 s.heap H locs) (hl : lv_has ls 4 [(0, .ref o)]) : W p l e (rmN 5 119) s m args below meth c H locs 0 0 Q (F0 m 44 ls [.int s0, .int s1, .int s2, .ref (q 0)]) := by
  obtain ⟨hx, hb, hml, ht, hown, hK, hA, hE⟩ := id X
  unfold p_X7_goesOn_J44 at h
  refine lv_iadd hx hb dX7_goesOn_44 ?_
  obtain ⟨hi45, h⟩ := h
  obtain ⟨f_45, ef_45⟩ : ∃ z : tF, z = (upd (A 0) (s2).toNatClampNeg (s1 + s0)) := ⟨_, rfl⟩
  replace h := h f_45 ef_45
  refine g_iast (f := (A 0)) (k := (s2).toNatClampNeg) hx hb hK hP hD hS 1 0 rfl rfl hi45 rfl ef_45 dX7_goesOn_45 (fun H locs hP hD hS => ?_)
  have hP : va_P D vwCl (wX7 cI cZ o q F (va_up A 0 f_45) : va_W) H := hP
  have hD : va_D A9 (wX7 cI cZ o q F (va_up A 0 f_45) : va_W) := hD
  refine lv_iconst (v := 0) hx hb dX7_goesOn_46 (by decide) ?_
  refine lv_istore_n (lv' := [(2, .int (0 : Int32)), (0, .ref o)]) hx hb dX7_goesOn_47 rfl hl (by decide) rfl (fun ls hl => ?_)
  obtain ⟨n48, h⟩ := h
  exact b_X7_goesOn_L48  X ret  n48 F (va_up A 0 f_45) (0 : Int32) _ _ _ h hP hD hS (lv_sub hl [1, 0] rfl)
def p_X7_goesOn (F : tF) (A : tA) (K : tF → tA → Prop) : Prop := (p_X7_winnerOf F A (0 : Int32) (-1 : Int32) (0 : Int32) (fun r4 F_4 A_4 => ((r4 ≤ ((A_4 0) 3) → ((((A_4 0) 3) ≤ r4 → (p_X7_goesOn_J44 F_4 A_4 K (0 : Int32) ((A_4 0) 3) (3 : Int32))) ∧ (¬ ((A_4 0) 3) ≤ r4 → (p_X7_goesOn_J44 F_4 A_4 K (-1 : Int32) ((A_4 0) 3) (3 : Int32))))) ∧ (¬ r4 ≤ ((A_4 0) 3) → (p_X7_goesOn_J44 F_4 A_4 K (1 : Int32) ((A_4 0) 3) (3 : Int32))))))
set_option maxHeartbeats 4000000 in
set_option maxRecDepth 100000 in
theorem w_X7_goesOn (l : Launch) (D : va_G) (cI cZ cR : ClassId) (adK adV : Nat → Nat) (sz : Nat) (o : Nat) (q : Nat → Nat) (F : tF) (A : tA) (K : tF → tA → Prop) (h : p_X7_goesOn F A K) : MV l D cI cZ cR adK adV yX7_goesOn cX7_goesOn 4 none (rmN 5 119) [.ref o] (wX7 cI cZ o q F A : va_W) sz (fun (u : (tF × tA)) => K u.1 u.2) (fun (u : (tF × tA)) => (wX7 cI cZ o q u.1 u.2 : va_W)) := by
  refine M_v (by decide +kernel) (Nat.le_of_ble_eq_true rfl) ?_
  intro p e s m args below meth c Q A9 ls X ret hP hD hS hl
  obtain ⟨hx, hb, hml, ht, hown, hK, hA, hE⟩ := id X
  have hl : lv_has ls 4 [(0, .ref o)] := hl
  unfold p_X7_goesOn at h
  refine lv_aload_n hx hb dX7_goesOn_0 rfl (lv_at hl 0 rfl) ?_
  refine lv_iconst (v := 0) hx hb dX7_goesOn_1 (by decide) ?_
  refine lv_iconst (v := -1) hx hb dX7_goesOn_2 (by decide) ?_
  refine lv_iconst (v := 0) hx hb dX7_goesOn_3 (by decide) ?_
  refine C_vi (wr := []) X hP hD hS [.int (0 : Int32), .int (-1 : Int32), .int (0 : Int32)] [] (w_X7_winnerOf l D cI cZ cR adK adV _ o q F A (0 : Int32) (-1 : Int32) (0 : Int32) _ h) cal_X7_winnerOf mw_24_12 rfl [0, 1, 2, 3, 4, 5, 6, 7, 8, 9, 10, 11, 12, 13, 14, 15] [] [0, 1, 2, 3, 4, 5, 6, 7, 8, 9, 10, 11, 12, 13, 14, 15] (fun u => (wX7 cI cZ o q u.1 u.2 : va_W)) rfl rfl (fun _ => rfl) rfl 0 rfl rfl ⟨rfl, rfl⟩ ⟨Nat.le_of_ble_eq_true rfl, Nat.le_of_ble_eq_true rfl⟩ hl.1 rfl (Nat.le_of_ble_eq_true rfl) ⟨Nat.zero_le _, Nat.zero_le _⟩ dX7_goesOn_4 (fun r4 u H locs h hP hD hS => ?_)
  obtain ⟨F_4, A_4⟩ := u
  try dsimp only at h
  have hP : va_P D vwCl (wX7 cI cZ o q F_4 A_4 : va_W) H := hP
  have hD : va_D A9 (wX7 cI cZ o q F_4 A_4 : va_W) := hD
  refine lv_istore_n (lv' := [(1, .int r4), (0, .ref o)]) hx hb dX7_goesOn_7 rfl hl (by decide) rfl (fun ls hl => ?_)
  refine lv_aload_n hx hb dX7_goesOn_8 rfl (lv_at hl 1 rfl) ?_
  refine va_get (C := RX7) (T := TX7) (N := 28) (own := RX7) (v := .ref (q 0)) hx hb ht inlX7 hown hK hP 0 rfl rfl 0 (Nat.le_of_ble_eq_true rfl) (ht _ mw_5_7) (fun _ h9 => h9) rfl dX7_goesOn_9 ?_
  refine lv_iconst (v := 3) hx hb dX7_goesOn_12 (by decide) ?_
  refine lv_dup2_11 hx hb dX7_goesOn_13 rfl rfl ?_
  refine g_iald (f := (A_4 0)) (k := 3) hx hb hK hP 1 0 rfl rfl (vp_in_lit rfl : vp_in (3 : Int32) 53) (by decide) dX7_goesOn_14 ?_
  refine lv_iload_n hx hb dX7_goesOn_15 rfl (lv_at hl 0 rfl) ?_
  refine lv_aload_n hx hb dX7_goesOn_16 rfl (lv_at hl 1 rfl) ?_
  refine va_get (C := RX7) (T := TX7) (N := 28) (own := RX7) (v := .ref (q 0)) hx hb ht inlX7 hown hK hP 0 rfl rfl 0 (Nat.le_of_ble_eq_true rfl) (ht _ mw_5_7) (fun _ h9 => h9) rfl dX7_goesOn_17 ?_
  refine lv_iconst (v := 3) hx hb dX7_goesOn_20 (by decide) ?_
  refine g_iald (f := (A_4 0)) (k := 3) hx hb hK hP 1 0 rfl rfl (vp_in_lit rfl : vp_in (3 : Int32) 53) (by decide) dX7_goesOn_21 ?_
  refine lv_icmp_le (tgt := 29) hx hb dX7_goesOn_22 (by decide) (fun c22 => ?_) (fun c22 => ?_)
  · replace h := h.1 c22
    refine lv_iload_n hx hb dX7_goesOn_29 rfl (lv_at hl 0 rfl) ?_
    refine lv_aload_n hx hb dX7_goesOn_30 rfl (lv_at hl 1 rfl) ?_
    refine va_get (C := RX7) (T := TX7) (N := 28) (own := RX7) (v := .ref (q 0)) hx hb ht inlX7 hown hK hP 0 rfl rfl 0 (Nat.le_of_ble_eq_true rfl) (ht _ mw_5_7) (fun _ h9 => h9) rfl dX7_goesOn_31 ?_
    refine lv_iconst (v := 3) hx hb dX7_goesOn_34 (by decide) ?_
    refine g_iald (f := (A_4 0)) (k := 3) hx hb hK hP 1 0 rfl rfl (vp_in_lit rfl : vp_in (3 : Int32) 53) (by decide) dX7_goesOn_35 ?_
    refine lv_icmp_ge (tgt := 43) hx hb dX7_goesOn_36 (by decide) (fun c36 => ?_) (fun c36 => ?_)
    · replace h := h.1 c36
      refine lv_iconst (v := 0) hx hb dX7_goesOn_43 (by decide) ?_
      exact b_X7_goesOn_J44 F_4 A_4 (0 : Int32) ((A_4 0) 3) (3 : Int32) X ret  _ _ _ h hP hD hS (lv_sub hl [1] rfl)
    · replace h := h.2 c36
      refine lv_iconst (v := -1) hx hb dX7_goesOn_39 (by decide) ?_
      refine lv_goto (tgt := 44) hx hb dX7_goesOn_40 (by decide) ?_
      exact b_X7_goesOn_J44 F_4 A_4 (-1 : Int32) ((A_4 0) 3) (3 : Int32) X ret  _ _ _ h hP hD hS (lv_sub hl [1] rfl)
  · replace h := h.2 c22
    refine lv_iconst (v := 1) hx hb dX7_goesOn_25 (by decide) ?_
    refine lv_goto (tgt := 44) hx hb dX7_goesOn_26 (by decide) ?_
    exact b_X7_goesOn_J44 F_4 A_4 (1 : Int32) ((A_4 0) 3) (3 : Int32) X ret  _ _ _ h hP hD hS (lv_sub hl [1] rfl)
theorem cal_X7_goesOn : CalV yX7_goesOn cX7_goesOn 4 none 0 := ⟨mw_26_3, mw_1_5, mw_26_1, mw_26_2, ⟨by decide +kernel, by decide +kernel, by decide +kernel⟩⟩
theorem dX7_goes_0 : decode cX7_goes 0 = .ok (.iconst 0, 1) := by decide +kernel
theorem dX7_goes_1 : decode cX7_goes 1 = .ok (.istore_n 2, 1) := by decide +kernel
theorem dX7_goes_2 : decode cX7_goes 2 = .ok (.iload_n 2, 1) := by decide +kernel
theorem dX7_goes_3 : decode cX7_goes 3 = .ok (.iload_n 1, 1) := by decide +kernel
theorem dX7_goes_4 : decode cX7_goes 4 = .ok (.if_icmp .ge 13, 3) := by decide +kernel
theorem dX7_goes_7 : decode cX7_goes 7 = .ok (.aload_n 0, 1) := by decide +kernel
theorem dX7_goes_8 : decode cX7_goes 8 = .ok (.invokevirtual 206, 3) := by decide +kernel
theorem dX7_goes_11 : decode cX7_goes 11 = .ok (.iinc 2 1, 3) := by decide +kernel
theorem dX7_goes_14 : decode cX7_goes 14 = .ok (.goto (-12), 3) := by decide +kernel
theorem dX7_goes_17 : decode cX7_goes 17 = .ok (.return_, 1) := by decide +kernel
def p_X7_goes_L2 (x1 : Int32) (K : tF → tA → Prop) : Nat → tF → tA → Int32 → Prop
  | 0, _, _, _ => False
  | n2 + 1, F, A, x2 => ((x1 ≤ x2 → (K F A)) ∧ (¬ x1 ≤ x2 → (p_X7_goesOn F A (fun F_8 A_8 => (∀ y11 : Int32, y11 = (x2 + (1 : Int32)) → ((p_X7_goes_L2 x1 K n2) F_8 A_8 y11))))))
set_option maxHeartbeats 4000000 in
set_option maxRecDepth 100000 in
theorem b_X7_goes_L2 {p : Program} {l : Launch} {e : Env} {s : State} {m : MethodId} {args : Array Value} {below : List Frame} {meth : Method} {c : Code} {Q : State → Prop} {D : va_G} {cI cZ cR : ClassId} {adK adV : Nat → Nat} {A9 : Nat → Prop} {o : Nat} {q : Nat → Nat} {K : tF → tA → Prop}  (x1 : Int32) (X : CX p s m args c yX7_goes.cls cX7_goes 3 D cI cZ cR adK adV A9) (ret : RTv p l e (rmN 6 142) s m args below meth c Q cX7_goes D A9 (fun (u : (tF × tA)) => K u.1 u.2) (fun (u : (tF × tA)) => (wX7 cI cZ o q u.1 u.2 : va_W)))   : ∀ (n : Nat) (F : tF) (A : tA) (x2 : Int32) (H : Heap) (locs : List Loc) (ls : Array Slot), p_X7_goes_L2 x1 K n F A x2 → va_P D vwCl (wX7 cI cZ o q F A : va_W) H → va_D A9 (wX7 cI cZ o q F A : va_W) → va_S A9 s.heap H locs → lv_has ls 3 [(0, .ref o), (1, .int x1), (2, .int x2)] → W p l e (rmN 6 142) s m args below meth c H locs 0 0 Q (F0 m 2 ls []) := by
  obtain ⟨hx, hb, hml, ht, hown, hK, hA, hE⟩ := id X
  intro n
  induction n with
  | zero => intro F A x2 H locs ls h; exact False.elim h
  | succ n2 ih =>
    intro F A x2 H locs ls h hP hD hS hl
    rw [p_X7_goes_L2] at h
    refine lv_iload_n hx hb dX7_goes_2 rfl (lv_at hl 2 rfl) ?_
    refine lv_iload_n hx hb dX7_goes_3 rfl (lv_at hl 1 rfl) ?_
    refine lv_icmp_ge (tgt := 17) hx hb dX7_goes_4 (by decide) (fun c4 => ?_) (fun c4 => ?_)
    · replace h := h.1 c4
      exact ret (F, A) _ _ _ _ dX7_goes_17 h hP hD hS
    · replace h := h.2 c4
      refine lv_aload_n hx hb dX7_goes_7 rfl (lv_at hl 0 rfl) ?_
      refine C_vv (wr := []) X hP hD hS [] [] (w_X7_goesOn l D cI cZ cR adK adV _ o q F A _ h) cal_X7_goesOn mw_26_0 rfl [0, 1, 2, 3, 4, 5, 6, 7, 8, 9, 10, 11, 12, 13, 14, 15] [] [0, 1, 2, 3, 4, 5, 6, 7, 8, 9, 10, 11, 12, 13, 14, 15] (fun u => (wX7 cI cZ o q u.1 u.2 : va_W)) rfl rfl (fun _ => rfl) rfl 0 rfl rfl ⟨rfl, rfl⟩ ⟨Nat.le_of_ble_eq_true rfl, Nat.le_of_ble_eq_true rfl⟩ hl.1 rfl (Nat.le_of_ble_eq_true rfl) ⟨Nat.zero_le _, Nat.zero_le _⟩ dX7_goes_8 (fun u H locs h hP hD hS => ?_)
      obtain ⟨F_8, A_8⟩ := u
      try dsimp only at h
      have hP : va_P D vwCl (wX7 cI cZ o q F_8 A_8 : va_W) H := hP
      have hD : va_D A9 (wX7 cI cZ o q F_8 A_8 : va_W) := hD
      obtain ⟨y11, ey11⟩ : ∃ y : Int32, y = (x2 + (1 : Int32)) := ⟨_, rfl⟩
      replace h := h y11 ey11
      refine lv_iinc (v := y11) (lv' := [(2, .int y11), (0, .ref o), (1, .int x1)]) hx hb dX7_goes_11 hl (k := 2) rfl (by rw [ey11]; rfl) (by decide) rfl (fun ls hl => ?_)
      refine lv_goto (tgt := 2) hx hb dX7_goes_14 (by decide) ?_
      exact ih F_8 A_8 y11 _ _ _ h hP hD hS (lv_sub hl [1, 2, 0] rfl)
def p_X7_goes (F : tF) (A : tA) (x1 : Int32) (K : tF → tA → Prop) : Prop := (∃ n2, p_X7_goes_L2 x1 K n2 F A (0 : Int32))
set_option maxHeartbeats 4000000 in
set_option maxRecDepth 100000 in
theorem w_X7_goes (l : Launch) (D : va_G) (cI cZ cR : ClassId) (adK adV : Nat → Nat) (sz : Nat) (o : Nat) (q : Nat → Nat) (F : tF) (A : tA) (x1 : Int32) (K : tF → tA → Prop) (h : p_X7_goes F A x1 K) : MV l D cI cZ cR adK adV yX7_goes cX7_goes 3 none (rmN 6 142) [.ref o, .int x1] (wX7 cI cZ o q F A : va_W) sz (fun (u : (tF × tA)) => K u.1 u.2) (fun (u : (tF × tA)) => (wX7 cI cZ o q u.1 u.2 : va_W)) := by
  refine M_v (by decide +kernel) (Nat.le_of_ble_eq_true rfl) ?_
  intro p e s m args below meth c Q A9 ls X ret hP hD hS hl
  obtain ⟨hx, hb, hml, ht, hown, hK, hA, hE⟩ := id X
  have hl : lv_has ls 3 [(0, .ref o), (1, .int x1)] := hl
  unfold p_X7_goes at h
  refine lv_iconst (v := 0) hx hb dX7_goes_0 (by decide) ?_
  refine lv_istore_n (lv' := [(2, .int (0 : Int32)), (0, .ref o), (1, .int x1)]) hx hb dX7_goes_1 rfl hl (by decide) rfl (fun ls hl => ?_)
  obtain ⟨n2, h⟩ := h
  exact b_X7_goes_L2 x1 X ret  n2 F A (0 : Int32) _ _ _ h hP hD hS (lv_sub hl [1, 2, 0] rfl)
theorem cal_X7_goes : CalV yX7_goes cX7_goes 3 none 1 := ⟨mw_25_23, mw_1_5, mw_25_21, mw_25_22, ⟨by decide +kernel, by decide +kernel, by decide +kernel⟩⟩
theorem dX7_days_0 : decode cX7_days 0 = .ok (.iload_n 1, 1) := by decide +kernel
theorem dX7_days_1 : decode cX7_days 1 = .ok (.i2l, 1) := by decide +kernel
theorem dX7_days_2 : decode cX7_days 2 = .ok (.lconst 1, 1) := by decide +kernel
theorem dX7_days_3 : decode cX7_days 3 = .ok (.ldc2_w 209, 3) := by decide +kernel
theorem dX7_days_6 : decode cX7_days 6 = .ok (.invokestatic 61, 3) := by decide +kernel
theorem dX7_days_9 : decode cX7_days 9 = .ok (.ifCond .ne 5, 3) := by decide +kernel
theorem dX7_days_12 : decode cX7_days 12 = .ok (.iconst (-1), 1) := by decide +kernel
theorem dX7_days_13 : decode cX7_days 13 = .ok (.ireturn, 1) := by decide +kernel
theorem dX7_days_14 : decode cX7_days 14 = .ok (.aload_n 0, 1) := by decide +kernel
theorem dX7_days_15 : decode cX7_days 15 = .ok (.iload_n 1, 1) := by decide +kernel
theorem dX7_days_16 : decode cX7_days 16 = .ok (.invokevirtual 211, 3) := by decide +kernel
theorem dX7_days_19 : decode cX7_days 19 = .ok (.aload_n 0, 1) := by decide +kernel
theorem dX7_days_20 : decode cX7_days 20 = .ok (.getfield 7, 3) := by decide +kernel
theorem dX7_days_23 : decode cX7_days 23 = .ok (.iconst 3, 1) := by decide +kernel
theorem dX7_days_24 : decode cX7_days 24 = .ok (.iaload, 1) := by decide +kernel
theorem dX7_days_25 : decode cX7_days 25 = .ok (.ireturn, 1) := by decide +kernel
def p_X7_days (F : tF) (A : tA) (x1 : Int32) (K : Int32 → tF → tA → Prop) : Prop := (p_X7_isIn ((x1).toInt64) (1 : Int64) (60 : Int64) (fun r6 => ((¬ r6 = 0 → (p_X7_goes F A x1 (fun F_16 A_16 => (K ((A_16 0) 3) F_16 A_16)))) ∧ (r6 = 0 → (K (-1 : Int32) F A)))))
set_option maxHeartbeats 4000000 in
set_option maxRecDepth 100000 in
theorem w_X7_days (l : Launch) (D : va_G) (cI cZ cR : ClassId) (adK adV : Nat → Nat) (sz : Nat) (o : Nat) (q : Nat → Nat) (F : tF) (A : tA) (x1 : Int32) (K : Int32 → tF → tA → Prop) (h : p_X7_days F A x1 K) : MI l D cI cZ cR adK adV yX7_days cX7_days 2 (some .int) (rmN 7 164) [.ref o, .int x1] (wX7 cI cZ o q F A : va_W) sz (fun (r : Int32) (u : (tF × tA)) => K r u.1 u.2) (fun (u : (tF × tA)) => (wX7 cI cZ o q u.1 u.2 : va_W)) := by
  refine M_i (by decide +kernel) (Nat.le_of_ble_eq_true rfl) ?_
  intro p e s m args below meth c Q A9 ls X ret hP hD hS hl
  obtain ⟨hx, hb, hml, ht, hown, hK, hA, hE⟩ := id X
  have hl : lv_has ls 2 [(0, .ref o), (1, .int x1)] := hl
  unfold p_X7_days at h
  refine lv_iload_n hx hb dX7_days_0 rfl (lv_at hl 1 rfl) ?_
  refine lv_i2l (v := (x1).toInt64) hx hb dX7_days_1 rfl ?_
  refine lv_lconst (v := 1) hx hb dX7_days_2 (by decide) ?_
  refine lv_ldc2 (v := 60) hx hb hown (ht _ mw_25_19) dX7_days_3 ?_
  refine C_si (wr := [0, 1, 2, 3, 4, 5, 6, 7, 8, 9, 10, 11, 12, 13, 14, 15].filterMap (fun i => (wX7 cI cZ o q F A : va_W)[i]?)) X hP hD hS [.long (x1).toInt64, .long (1 : Int64), .long (60 : Int64)] [] (w_X7_isIn l D cI cZ cR adK adV _ ((x1).toInt64) (1 : Int64) (60 : Int64) _ h) cal_X7_isIn mw_6_19 rfl [] [0, 1, 2, 3, 4, 5, 6, 7, 8, 9, 10, 11, 12, 13, 14, 15] [0, 1, 2, 3, 4, 5, 6, 7, 8, 9, 10, 11, 12, 13, 14, 15] (fun u => (wX7 cI cZ o q F A : va_W)) rfl rfl (fun _ => rfl) rfl ⟨rfl, rfl⟩ ⟨Nat.le_of_ble_eq_true rfl, Nat.le_of_ble_eq_true rfl⟩ hl.1 rfl (Nat.le_of_ble_eq_true rfl) ⟨Nat.zero_le _, Nat.zero_le _⟩ dX7_days_6 (fun r6 u H locs h hP hD hS => ?_)
  refine lv_if_ne (tgt := 14) hx hb dX7_days_9 (by decide) (fun c9 => ?_) (fun c9 => ?_)
  · replace h := h.1 c9
    refine lv_aload_n hx hb dX7_days_14 rfl (lv_at hl 0 rfl) ?_
    refine lv_iload_n hx hb dX7_days_15 rfl (lv_at hl 1 rfl) ?_
    refine C_vv (wr := []) X hP hD hS [.int x1] [] (w_X7_goes l D cI cZ cR adK adV _ o q F A x1 _ h) cal_X7_goes mw_25_20 rfl [0, 1, 2, 3, 4, 5, 6, 7, 8, 9, 10, 11, 12, 13, 14, 15] [] [0, 1, 2, 3, 4, 5, 6, 7, 8, 9, 10, 11, 12, 13, 14, 15] (fun u => (wX7 cI cZ o q u.1 u.2 : va_W)) rfl rfl (fun _ => rfl) rfl 0 rfl rfl ⟨rfl, rfl⟩ ⟨Nat.le_of_ble_eq_true rfl, Nat.le_of_ble_eq_true rfl⟩ hl.1 rfl (Nat.le_of_ble_eq_true rfl) ⟨Nat.zero_le _, Nat.zero_le _⟩ dX7_days_16 (fun u H locs h hP hD hS => ?_)
    obtain ⟨F_16, A_16⟩ := u
    try dsimp only at h
    have hP : va_P D vwCl (wX7 cI cZ o q F_16 A_16 : va_W) H := hP
    have hD : va_D A9 (wX7 cI cZ o q F_16 A_16 : va_W) := hD
    refine lv_aload_n hx hb dX7_days_19 rfl (lv_at hl 0 rfl) ?_
    refine va_get (C := RX7) (T := TX7) (N := 28) (own := RX7) (v := .ref (q 0)) hx hb ht inlX7 hown hK hP 0 rfl rfl 0 (Nat.le_of_ble_eq_true rfl) (ht _ mw_5_7) (fun _ h9 => h9) rfl dX7_days_20 ?_
    refine lv_iconst (v := 3) hx hb dX7_days_23 (by decide) ?_
    refine g_iald (f := (A_16 0)) (k := 3) hx hb hK hP 1 0 rfl rfl (vp_in_lit rfl : vp_in (3 : Int32) 53) (by decide) dX7_days_24 ?_
    exact ret _ (F_16, A_16) _ _ _ _ dX7_days_25 h hP hD hS
  · replace h := h.2 c9
    refine lv_iconst (v := -1) hx hb dX7_days_12 (by decide) ?_
    exact ret _ (F, A) _ _ _ _ dX7_days_13 h hP hD hS
theorem dX7_seed_0 : decode cX7_seed 0 = .ok (.aload_n 0, 1) := by decide +kernel
theorem dX7_seed_1 : decode cX7_seed 1 = .ok (.iconst 2, 1) := by decide +kernel
theorem dX7_seed_2 : decode cX7_seed 2 = .ok (.iload_n 1, 1) := by decide +kernel
theorem dX7_seed_3 : decode cX7_seed 3 = .ok (.invokevirtual 160, 3) := by decide +kernel
theorem dX7_seed_6 : decode cX7_seed 6 = .ok (.ireturn, 1) := by decide +kernel
def p_X7_seed (F : tF) (A : tA) (x1 : Int32) (K : Int32 → tF → tA → Prop) : Prop := (p_X7_becomes F A (2 : Int32) x1 (fun r3 F_3 A_3 => (K r3 F_3 A_3)))
set_option maxHeartbeats 4000000 in
set_option maxRecDepth 100000 in
theorem w_X7_seed (l : Launch) (D : va_G) (cI cZ cR : ClassId) (adK adV : Nat → Nat) (sz : Nat) (o : Nat) (q : Nat → Nat) (F : tF) (A : tA) (x1 : Int32) (K : Int32 → tF → tA → Prop) (h : p_X7_seed F A x1 K) : MI l D cI cZ cR adK adV yX7_seed cX7_seed 2 (some .int) (rmN 1 23) [.ref o, .int x1] (wX7 cI cZ o q F A : va_W) sz (fun (r : Int32) (u : (tF × tA)) => K r u.1 u.2) (fun (u : (tF × tA)) => (wX7 cI cZ o q u.1 u.2 : va_W)) := by
  refine M_i (by decide +kernel) (Nat.le_of_ble_eq_true rfl) ?_
  intro p e s m args below meth c Q A9 ls X ret hP hD hS hl
  obtain ⟨hx, hb, hml, ht, hown, hK, hA, hE⟩ := id X
  have hl : lv_has ls 2 [(0, .ref o), (1, .int x1)] := hl
  unfold p_X7_seed at h
  refine lv_aload_n hx hb dX7_seed_0 rfl (lv_at hl 0 rfl) ?_
  refine lv_iconst (v := 2) hx hb dX7_seed_1 (by decide) ?_
  refine lv_iload_n hx hb dX7_seed_2 rfl (lv_at hl 1 rfl) ?_
  refine C_vi (wr := []) X hP hD hS [.int (2 : Int32), .int x1] [] (w_X7_becomes l D cI cZ cR adK adV _ o q F A (2 : Int32) x1 _ h) cal_X7_becomes mw_15_20 rfl [0, 1, 2, 3, 4, 5, 6, 7, 8, 9, 10, 11, 12, 13, 14, 15] [] [0, 1, 2, 3, 4, 5, 6, 7, 8, 9, 10, 11, 12, 13, 14, 15] (fun u => (wX7 cI cZ o q u.1 u.2 : va_W)) rfl rfl (fun _ => rfl) rfl 0 rfl rfl ⟨rfl, rfl⟩ ⟨Nat.le_of_ble_eq_true rfl, Nat.le_of_ble_eq_true rfl⟩ hl.1 rfl (Nat.le_of_ble_eq_true rfl) ⟨Nat.zero_le _, Nat.zero_le _⟩ dX7_seed_3 (fun r3 u H locs h hP hD hS => ?_)
  obtain ⟨F_3, A_3⟩ := u
  try dsimp only at h
  have hP : va_P D vwCl (wX7 cI cZ o q F_3 A_3 : va_W) H := hP
  have hD : va_D A9 (wX7 cI cZ o q F_3 A_3 : va_W) := hD
  exact ret _ (F_3, A_3) _ _ _ _ dX7_seed_6 h hP hD hS
theorem dX7_drawn_0 : decode cX7_drawn 0 = .ok (.aload_n 0, 1) := by decide +kernel
theorem dX7_drawn_1 : decode cX7_drawn 1 = .ok (.getfield 7, 3) := by decide +kernel
theorem dX7_drawn_4 : decode cX7_drawn 4 = .ok (.iconst 2, 1) := by decide +kernel
theorem dX7_drawn_5 : decode cX7_drawn 5 = .ok (.aload_n 0, 1) := by decide +kernel
theorem dX7_drawn_6 : decode cX7_drawn 6 = .ok (.getfield 7, 3) := by decide +kernel
theorem dX7_drawn_9 : decode cX7_drawn 9 = .ok (.iconst 2, 1) := by decide +kernel
theorem dX7_drawn_10 : decode cX7_drawn 10 = .ok (.iaload, 1) := by decide +kernel
theorem dX7_drawn_11 : decode cX7_drawn 11 = .ok (.ldc 214, 2) := by decide +kernel
theorem dX7_drawn_13 : decode cX7_drawn 13 = .ok (.imul, 1) := by decide +kernel
theorem dX7_drawn_14 : decode cX7_drawn 14 = .ok (.sipush 12345, 3) := by decide +kernel
theorem dX7_drawn_17 : decode cX7_drawn 17 = .ok (.iadd, 1) := by decide +kernel
theorem dX7_drawn_18 : decode cX7_drawn 18 = .ok (.iastore, 1) := by decide +kernel
theorem dX7_drawn_19 : decode cX7_drawn 19 = .ok (.aload_n 0, 1) := by decide +kernel
theorem dX7_drawn_20 : decode cX7_drawn 20 = .ok (.getfield 7, 3) := by decide +kernel
theorem dX7_drawn_23 : decode cX7_drawn 23 = .ok (.iconst 2, 1) := by decide +kernel
theorem dX7_drawn_24 : decode cX7_drawn 24 = .ok (.iaload, 1) := by decide +kernel
theorem dX7_drawn_25 : decode cX7_drawn 25 = .ok (.bipush 16, 2) := by decide +kernel
theorem dX7_drawn_27 : decode cX7_drawn 27 = .ok (.iushr, 1) := by decide +kernel
theorem dX7_drawn_28 : decode cX7_drawn 28 = .ok (.ireturn, 1) := by decide +kernel
def p_X7_drawn (F : tF) (A : tA) (K : Int32 → tF → tA → Prop) : Prop := (∀ f_18 : tF, f_18 = (upd (A 0) 2 ((((A 0) 2) * (1103515245 : Int32)) + (12345 : Int32))) → (K ((((f_18 2)).toUInt32 >>> (((16 : Int32)).toUInt32 &&& Int32.toUInt32 31)).toInt32) F (va_up A 0 f_18)))
set_option maxHeartbeats 4000000 in
set_option maxRecDepth 100000 in
theorem w_X7_drawn (l : Launch) (D : va_G) (cI cZ cR : ClassId) (adK adV : Nat → Nat) (sz : Nat) (o : Nat) (q : Nat → Nat) (F : tF) (A : tA) (K : Int32 → tF → tA → Prop) (h : p_X7_drawn F A K) : MI l D cI cZ cR adK adV yX7_drawn cX7_drawn 1 (some .int) (rmN 0 0) [.ref o] (wX7 cI cZ o q F A : va_W) sz (fun (r : Int32) (u : (tF × tA)) => K r u.1 u.2) (fun (u : (tF × tA)) => (wX7 cI cZ o q u.1 u.2 : va_W)) := by
  refine M_i (by decide +kernel) (Nat.le_of_ble_eq_true rfl) ?_
  intro p e s m args below meth c Q A9 ls X ret hP hD hS hl
  obtain ⟨hx, hb, hml, ht, hown, hK, hA, hE⟩ := id X
  have hl : lv_has ls 1 [(0, .ref o)] := hl
  unfold p_X7_drawn at h
  refine lv_aload_n hx hb dX7_drawn_0 rfl (lv_at hl 0 rfl) ?_
  refine va_get (C := RX7) (T := TX7) (N := 28) (own := RX7) (v := .ref (q 0)) hx hb ht inlX7 hown hK hP 0 rfl rfl 0 (Nat.le_of_ble_eq_true rfl) (ht _ mw_5_7) (fun _ h9 => h9) rfl dX7_drawn_1 ?_
  refine lv_iconst (v := 2) hx hb dX7_drawn_4 (by decide) ?_
  refine lv_aload_n hx hb dX7_drawn_5 rfl (lv_at hl 0 rfl) ?_
  refine va_get (C := RX7) (T := TX7) (N := 28) (own := RX7) (v := .ref (q 0)) hx hb ht inlX7 hown hK hP 0 rfl rfl 0 (Nat.le_of_ble_eq_true rfl) (ht _ mw_5_7) (fun _ h9 => h9) rfl dX7_drawn_6 ?_
  refine lv_iconst (v := 2) hx hb dX7_drawn_9 (by decide) ?_
  refine g_iald (f := (A 0)) (k := 2) hx hb hK hP 1 0 rfl rfl (vp_in_lit rfl : vp_in (2 : Int32) 53) (by decide) dX7_drawn_10 ?_
  refine lv_ldc (v := 1103515245) hx hb hown (ht _ mw_27_13) dX7_drawn_11 ?_
  refine lv_imul hx hb dX7_drawn_13 ?_
  refine lv_sipush (v := 12345) hx hb dX7_drawn_14 (by decide) ?_
  refine lv_iadd hx hb dX7_drawn_17 ?_
  obtain ⟨f_18, ef_18⟩ : ∃ z : tF, z = (upd (A 0) 2 ((((A 0) 2) * (1103515245 : Int32)) + (12345 : Int32))) := ⟨_, rfl⟩
  replace h := h f_18 ef_18
  refine g_iast (f := (A 0)) (k := 2) hx hb hK hP hD hS 1 0 rfl rfl (vp_in_lit rfl : vp_in (2 : Int32) 53) (by decide) ef_18 dX7_drawn_18 (fun H locs hP hD hS => ?_)
  have hP : va_P D vwCl (wX7 cI cZ o q F (va_up A 0 f_18) : va_W) H := hP
  have hD : va_D A9 (wX7 cI cZ o q F (va_up A 0 f_18) : va_W) := hD
  refine lv_aload_n hx hb dX7_drawn_19 rfl (lv_at hl 0 rfl) ?_
  refine va_get (C := RX7) (T := TX7) (N := 28) (own := RX7) (v := .ref (q 0)) hx hb ht inlX7 hown hK hP 0 rfl rfl 0 (Nat.le_of_ble_eq_true rfl) (ht _ mw_5_7) (fun _ h9 => h9) rfl dX7_drawn_20 ?_
  refine lv_iconst (v := 2) hx hb dX7_drawn_23 (by decide) ?_
  refine g_iald (f := f_18) (k := 2) hx hb hK hP 1 0 rfl rfl (vp_in_lit rfl : vp_in (2 : Int32) 53) (by decide) dX7_drawn_24 ?_
  refine lv_bipush (v := 16) hx hb dX7_drawn_25 (by decide) ?_
  refine lv_iushr (v := (((f_18 2)).toUInt32 >>> (((16 : Int32)).toUInt32 &&& Int32.toUInt32 31)).toInt32) hx hb dX7_drawn_27 rfl ?_
  exact ret _ (F, (va_up A 0 f_18)) _ _ _ _ dX7_drawn_28 h hP hD hS
theorem cal_X7_drawn : CalV yX7_drawn cX7_drawn 1 (some .int) 0 := ⟨mw_27_12, mw_1_5, mw_27_10, mw_27_11, ⟨by decide +kernel, by decide +kernel, by decide +kernel⟩⟩
theorem dX7_day_0 : decode cX7_day 0 = .ok (.aload_n 0, 1) := by decide +kernel
theorem dX7_day_1 : decode cX7_day 1 = .ok (.getfield 7, 3) := by decide +kernel
theorem dX7_day_4 : decode cX7_day 4 = .ok (.iconst 0, 1) := by decide +kernel
theorem dX7_day_5 : decode cX7_day 5 = .ok (.iaload, 1) := by decide +kernel
theorem dX7_day_6 : decode cX7_day 6 = .ok (.ifCond .le 52, 3) := by decide +kernel
theorem dX7_day_9 : decode cX7_day 9 = .ok (.aload_n 0, 1) := by decide +kernel
theorem dX7_day_10 : decode cX7_day 10 = .ok (.invokevirtual 215, 3) := by decide +kernel
theorem dX7_day_13 : decode cX7_day 13 = .ok (.aload_n 0, 1) := by decide +kernel
theorem dX7_day_14 : decode cX7_day 14 = .ok (.getfield 7, 3) := by decide +kernel
theorem dX7_day_17 : decode cX7_day 17 = .ok (.iconst 0, 1) := by decide +kernel
theorem dX7_day_18 : decode cX7_day 18 = .ok (.iaload, 1) := by decide +kernel
theorem dX7_day_19 : decode cX7_day 19 = .ok (.irem, 1) := by decide +kernel
theorem dX7_day_20 : decode cX7_day 20 = .ok (.istore_n 1, 1) := by decide +kernel
theorem dX7_day_21 : decode cX7_day 21 = .ok (.aload_n 0, 1) := by decide +kernel
theorem dX7_day_22 : decode cX7_day 22 = .ok (.invokevirtual 215, 3) := by decide +kernel
theorem dX7_day_25 : decode cX7_day 25 = .ok (.bipush 100, 2) := by decide +kernel
theorem dX7_day_27 : decode cX7_day 27 = .ok (.irem, 1) := by decide +kernel
theorem dX7_day_28 : decode cX7_day 28 = .ok (.aload_n 0, 1) := by decide +kernel
theorem dX7_day_29 : decode cX7_day 29 = .ok (.getfield 7, 3) := by decide +kernel
theorem dX7_day_32 : decode cX7_day 32 = .ok (.bipush 8, 2) := by decide +kernel
theorem dX7_day_34 : decode cX7_day 34 = .ok (.iaload, 1) := by decide +kernel
theorem dX7_day_35 : decode cX7_day 35 = .ok (.if_icmp .ge 23, 3) := by decide +kernel
theorem dX7_day_38 : decode cX7_day 38 = .ok (.aload_n 0, 1) := by decide +kernel
theorem dX7_day_39 : decode cX7_day 39 = .ok (.getfield 7, 3) := by decide +kernel
theorem dX7_day_42 : decode cX7_day 42 = .ok (.bipush 21, 2) := by decide +kernel
theorem dX7_day_44 : decode cX7_day 44 = .ok (.iconst 4, 1) := by decide +kernel
theorem dX7_day_45 : decode cX7_day 45 = .ok (.iload_n 1, 1) := by decide +kernel
theorem dX7_day_46 : decode cX7_day 46 = .ok (.imul, 1) := by decide +kernel
theorem dX7_day_47 : decode cX7_day 47 = .ok (.iadd, 1) := by decide +kernel
theorem dX7_day_48 : decode cX7_day 48 = .ok (.iconst 3, 1) := by decide +kernel
theorem dX7_day_49 : decode cX7_day 49 = .ok (.iadd, 1) := by decide +kernel
theorem dX7_day_50 : decode cX7_day 50 = .ok (.aload_n 0, 1) := by decide +kernel
theorem dX7_day_51 : decode cX7_day 51 = .ok (.invokevirtual 215, 3) := by decide +kernel
theorem dX7_day_54 : decode cX7_day 54 = .ok (.bipush 6, 2) := by decide +kernel
theorem dX7_day_56 : decode cX7_day 56 = .ok (.irem, 1) := by decide +kernel
theorem dX7_day_57 : decode cX7_day 57 = .ok (.iastore, 1) := by decide +kernel
theorem dX7_day_58 : decode cX7_day 58 = .ok (.aload_n 0, 1) := by decide +kernel
theorem dX7_day_59 : decode cX7_day 59 = .ok (.invokevirtual 206, 3) := by decide +kernel
theorem dX7_day_62 : decode cX7_day 62 = .ok (.aload_n 0, 1) := by decide +kernel
theorem dX7_day_63 : decode cX7_day 63 = .ok (.getfield 7, 3) := by decide +kernel
theorem dX7_day_66 : decode cX7_day 66 = .ok (.iconst 3, 1) := by decide +kernel
theorem dX7_day_67 : decode cX7_day 67 = .ok (.iaload, 1) := by decide +kernel
theorem dX7_day_68 : decode cX7_day 68 = .ok (.ireturn, 1) := by decide +kernel
def p_X7_day_J58 (F : tF) (A : tA) (K : Int32 → tF → tA → Prop)  : Prop := (p_X7_goesOn F A (fun F_59 A_59 => (K ((A_59 0) 3) F_59 A_59)))
set_option maxHeartbeats 4000000 in
set_option maxRecDepth 100000 in
theorem b_X7_day_J58 {p : Program} {l : Launch} {e : Env} {s : State} {m : MethodId} {args : Array Value} {below : List Frame} {meth : Method} {c : Code} {Q : State → Prop} {D : va_G} {cI cZ cR : ClassId} {adK adV : Nat → Nat} {A9 : Nat → Prop} {o : Nat} {q : Nat → Nat} {K : Int32 → tF → tA → Prop}  (F : tF) (A : tA) (X : CX p s m args c yX7_day.cls cX7_day 2 D cI cZ cR adK adV A9) (ret : RTi p l e (rmN 6 142) s m args below meth c Q cX7_day D A9 (fun (r : Int32) (u : (tF × tA)) => K r u.1 u.2) (fun (u : (tF × tA)) => (wX7 cI cZ o q u.1 u.2 : va_W)))  (H : Heap) (locs : List Loc) (ls : Array Slot) (h : p_X7_day_J58 F A K) (hP : va_P D vwCl (wX7 cI cZ o q F A : va_W) H) (hD : va_D A9 (wX7 cI cZ o q F A : va_W)) (hS : va_S A9 s.heap H locs) (hl : lv_has ls 2 [(0, .ref o)]) : W p l e (rmN 6 142) s m args below meth c H locs 0 0 Q (F0 m 58 ls []) := by
  obtain ⟨hx, hb, hml, ht, hown, hK, hA, hE⟩ := id X
  unfold p_X7_day_J58 at h
  refine lv_aload_n hx hb dX7_day_58 rfl (lv_at hl 0 rfl) ?_
  refine C_vv (wr := []) X hP hD hS [] [] (w_X7_goesOn l D cI cZ cR adK adV _ o q F A _ h) cal_X7_goesOn mw_26_0 rfl [0, 1, 2, 3, 4, 5, 6, 7, 8, 9, 10, 11, 12, 13, 14, 15] [] [0, 1, 2, 3, 4, 5, 6, 7, 8, 9, 10, 11, 12, 13, 14, 15] (fun u => (wX7 cI cZ o q u.1 u.2 : va_W)) rfl rfl (fun _ => rfl) rfl 0 rfl rfl ⟨rfl, rfl⟩ ⟨Nat.le_of_ble_eq_true rfl, Nat.le_of_ble_eq_true rfl⟩ hl.1 rfl (Nat.le_of_ble_eq_true rfl) ⟨Nat.zero_le _, Nat.zero_le _⟩ dX7_day_59 (fun u H locs h hP hD hS => ?_)
  obtain ⟨F_59, A_59⟩ := u
  try dsimp only at h
  have hP : va_P D vwCl (wX7 cI cZ o q F_59 A_59 : va_W) H := hP
  have hD : va_D A9 (wX7 cI cZ o q F_59 A_59 : va_W) := hD
  refine lv_aload_n hx hb dX7_day_62 rfl (lv_at hl 0 rfl) ?_
  refine va_get (C := RX7) (T := TX7) (N := 28) (own := RX7) (v := .ref (q 0)) hx hb ht inlX7 hown hK hP 0 rfl rfl 0 (Nat.le_of_ble_eq_true rfl) (ht _ mw_5_7) (fun _ h9 => h9) rfl dX7_day_63 ?_
  refine lv_iconst (v := 3) hx hb dX7_day_66 (by decide) ?_
  refine g_iald (f := (A_59 0)) (k := 3) hx hb hK hP 1 0 rfl rfl (vp_in_lit rfl : vp_in (3 : Int32) 53) (by decide) dX7_day_67 ?_
  exact ret _ (F_59, A_59) _ _ _ _ dX7_day_68 h hP hD hS
def p_X7_day (F : tF) (A : tA) (K : Int32 → tF → tA → Prop) : Prop := ((((A 0) 0) ≤ 0 → (p_X7_day_J58 F A K)) ∧ (¬ ((A 0) 0) ≤ 0 → (p_X7_drawn F A (fun r10 F_10 A_10 => (¬ ((A_10 0) 0) = 0 ∧ (∀ y20 : Int32, y20 = (r10 - r10 / ((A_10 0) 0) * ((A_10 0) 0)) → (p_X7_drawn F_10 A_10 (fun r22 F_22 A_22 => ((((A_22 0) 8) ≤ (r22 - r22 / (100 : Int32) * (100 : Int32)) → (p_X7_day_J58 F_22 A_22 K)) ∧ (¬ ((A_22 0) 8) ≤ (r22 - r22 / (100 : Int32) * (100 : Int32)) → (p_X7_drawn F_22 A_22 (fun r51 F_51 A_51 => (vp_in (((21 : Int32) + ((4 : Int32) * y20)) + (3 : Int32)) 53 ∧ (∀ f_57 : tF, f_57 = (upd (A_51 0) ((((21 : Int32) + ((4 : Int32) * y20)) + (3 : Int32))).toNatClampNeg (r51 - r51 / (6 : Int32) * (6 : Int32))) → (p_X7_day_J58 F_51 (va_up A_51 0 f_57) K)))))))))))))))
set_option maxHeartbeats 4000000 in
set_option maxRecDepth 100000 in
theorem w_X7_day (l : Launch) (D : va_G) (cI cZ cR : ClassId) (adK adV : Nat → Nat) (sz : Nat) (o : Nat) (q : Nat → Nat) (F : tF) (A : tA) (K : Int32 → tF → tA → Prop) (h : p_X7_day F A K) : MI l D cI cZ cR adK adV yX7_day cX7_day 2 (some .int) (rmN 6 142) [.ref o] (wX7 cI cZ o q F A : va_W) sz (fun (r : Int32) (u : (tF × tA)) => K r u.1 u.2) (fun (u : (tF × tA)) => (wX7 cI cZ o q u.1 u.2 : va_W)) := by
  refine M_i (by decide +kernel) (Nat.le_of_ble_eq_true rfl) ?_
  intro p e s m args below meth c Q A9 ls X ret hP hD hS hl
  obtain ⟨hx, hb, hml, ht, hown, hK, hA, hE⟩ := id X
  have hl : lv_has ls 2 [(0, .ref o)] := hl
  unfold p_X7_day at h
  refine lv_aload_n hx hb dX7_day_0 rfl (lv_at hl 0 rfl) ?_
  refine va_get (C := RX7) (T := TX7) (N := 28) (own := RX7) (v := .ref (q 0)) hx hb ht inlX7 hown hK hP 0 rfl rfl 0 (Nat.le_of_ble_eq_true rfl) (ht _ mw_5_7) (fun _ h9 => h9) rfl dX7_day_1 ?_
  refine lv_iconst (v := 0) hx hb dX7_day_4 (by decide) ?_
  refine g_iald (f := (A 0)) (k := 0) hx hb hK hP 1 0 rfl rfl (vp_in_lit rfl : vp_in (0 : Int32) 53) (by decide) dX7_day_5 ?_
  refine lv_if_le (tgt := 58) hx hb dX7_day_6 (by decide) (fun c6 => ?_) (fun c6 => ?_)
  · replace h := h.1 c6
    exact b_X7_day_J58 F A X ret  _ _ _ h hP hD hS (lv_sub hl [0] rfl)
  · replace h := h.2 c6
    refine lv_aload_n hx hb dX7_day_9 rfl (lv_at hl 0 rfl) ?_
    refine C_vi (wr := []) X hP hD hS [] [] (w_X7_drawn l D cI cZ cR adK adV _ o q F A _ h) cal_X7_drawn mw_27_9 rfl [0, 1, 2, 3, 4, 5, 6, 7, 8, 9, 10, 11, 12, 13, 14, 15] [] [0, 1, 2, 3, 4, 5, 6, 7, 8, 9, 10, 11, 12, 13, 14, 15] (fun u => (wX7 cI cZ o q u.1 u.2 : va_W)) rfl rfl (fun _ => rfl) rfl 0 rfl rfl ⟨rfl, rfl⟩ ⟨Nat.le_of_ble_eq_true rfl, Nat.le_of_ble_eq_true rfl⟩ hl.1 rfl (Nat.le_of_ble_eq_true rfl) ⟨Nat.zero_le _, Nat.zero_le _⟩ dX7_day_10 (fun r10 u H locs h hP hD hS => ?_)
    obtain ⟨F_10, A_10⟩ := u
    try dsimp only at h
    have hP : va_P D vwCl (wX7 cI cZ o q F_10 A_10 : va_W) H := hP
    have hD : va_D A9 (wX7 cI cZ o q F_10 A_10 : va_W) := hD
    refine lv_aload_n hx hb dX7_day_13 rfl (lv_at hl 0 rfl) ?_
    refine va_get (C := RX7) (T := TX7) (N := 28) (own := RX7) (v := .ref (q 0)) hx hb ht inlX7 hown hK hP 0 rfl rfl 0 (Nat.le_of_ble_eq_true rfl) (ht _ mw_5_7) (fun _ h9 => h9) rfl dX7_day_14 ?_
    refine lv_iconst (v := 0) hx hb dX7_day_17 (by decide) ?_
    refine g_iald (f := (A_10 0)) (k := 0) hx hb hK hP 1 0 rfl rfl (vp_in_lit rfl : vp_in (0 : Int32) 53) (by decide) dX7_day_18 ?_
    obtain ⟨hz19, h⟩ := h
    refine lv_irem hx hb dX7_day_19 hz19 ?_
    refine lv_topi (fun y20 ey20 => ?_)
    replace h := h y20 ey20
    refine lv_istore_n (lv' := [(1, .int y20), (0, .ref o)]) hx hb dX7_day_20 rfl hl (by decide) rfl (fun ls hl => ?_)
    refine lv_aload_n hx hb dX7_day_21 rfl (lv_at hl 1 rfl) ?_
    refine C_vi (wr := []) X hP hD hS [] [] (w_X7_drawn l D cI cZ cR adK adV _ o q F_10 A_10 _ h) cal_X7_drawn mw_27_9 rfl [0, 1, 2, 3, 4, 5, 6, 7, 8, 9, 10, 11, 12, 13, 14, 15] [] [0, 1, 2, 3, 4, 5, 6, 7, 8, 9, 10, 11, 12, 13, 14, 15] (fun u => (wX7 cI cZ o q u.1 u.2 : va_W)) rfl rfl (fun _ => rfl) rfl 0 rfl rfl ⟨rfl, rfl⟩ ⟨Nat.le_of_ble_eq_true rfl, Nat.le_of_ble_eq_true rfl⟩ hl.1 rfl (Nat.le_of_ble_eq_true rfl) ⟨Nat.zero_le _, Nat.zero_le _⟩ dX7_day_22 (fun r22 u H locs h hP hD hS => ?_)
    obtain ⟨F_22, A_22⟩ := u
    try dsimp only at h
    have hP : va_P D vwCl (wX7 cI cZ o q F_22 A_22 : va_W) H := hP
    have hD : va_D A9 (wX7 cI cZ o q F_22 A_22 : va_W) := hD
    refine lv_bipush (v := 100) hx hb dX7_day_25 (by decide) ?_
    refine lv_irem hx hb dX7_day_27 (by decide) ?_
    refine lv_aload_n hx hb dX7_day_28 rfl (lv_at hl 1 rfl) ?_
    refine va_get (C := RX7) (T := TX7) (N := 28) (own := RX7) (v := .ref (q 0)) hx hb ht inlX7 hown hK hP 0 rfl rfl 0 (Nat.le_of_ble_eq_true rfl) (ht _ mw_5_7) (fun _ h9 => h9) rfl dX7_day_29 ?_
    refine lv_bipush (v := 8) hx hb dX7_day_32 (by decide) ?_
    refine g_iald (f := (A_22 0)) (k := 8) hx hb hK hP 1 0 rfl rfl (vp_in_lit rfl : vp_in (8 : Int32) 53) (by decide) dX7_day_34 ?_
    refine lv_icmp_ge (tgt := 58) hx hb dX7_day_35 (by decide) (fun c35 => ?_) (fun c35 => ?_)
    · replace h := h.1 c35
      exact b_X7_day_J58 F_22 A_22 X ret  _ _ _ h hP hD hS (lv_sub hl [1] rfl)
    · replace h := h.2 c35
      refine lv_aload_n hx hb dX7_day_38 rfl (lv_at hl 1 rfl) ?_
      refine va_get (C := RX7) (T := TX7) (N := 28) (own := RX7) (v := .ref (q 0)) hx hb ht inlX7 hown hK hP 0 rfl rfl 0 (Nat.le_of_ble_eq_true rfl) (ht _ mw_5_7) (fun _ h9 => h9) rfl dX7_day_39 ?_
      refine lv_bipush (v := 21) hx hb dX7_day_42 (by decide) ?_
      refine lv_iconst (v := 4) hx hb dX7_day_44 (by decide) ?_
      refine lv_iload_n hx hb dX7_day_45 rfl (lv_at hl 0 rfl) ?_
      refine lv_imul hx hb dX7_day_46 ?_
      refine lv_iadd hx hb dX7_day_47 ?_
      refine lv_iconst (v := 3) hx hb dX7_day_48 (by decide) ?_
      refine lv_iadd hx hb dX7_day_49 ?_
      refine lv_aload_n hx hb dX7_day_50 rfl (lv_at hl 1 rfl) ?_
      refine C_vi (wr := []) X hP hD hS [] [.int (((21 : Int32) + ((4 : Int32) * y20)) + (3 : Int32)), .ref (q 0)] (w_X7_drawn l D cI cZ cR adK adV _ o q F_22 A_22 _ h) cal_X7_drawn mw_27_9 rfl [0, 1, 2, 3, 4, 5, 6, 7, 8, 9, 10, 11, 12, 13, 14, 15] [] [0, 1, 2, 3, 4, 5, 6, 7, 8, 9, 10, 11, 12, 13, 14, 15] (fun u => (wX7 cI cZ o q u.1 u.2 : va_W)) rfl rfl (fun _ => rfl) rfl 0 rfl rfl ⟨rfl, rfl⟩ ⟨Nat.le_of_ble_eq_true rfl, Nat.le_of_ble_eq_true rfl⟩ hl.1 rfl (Nat.le_of_ble_eq_true rfl) ⟨Nat.zero_le _, Nat.zero_le _⟩ dX7_day_51 (fun r51 u H locs h hP hD hS => ?_)
      obtain ⟨F_51, A_51⟩ := u
      try dsimp only at h
      have hP : va_P D vwCl (wX7 cI cZ o q F_51 A_51 : va_W) H := hP
      have hD : va_D A9 (wX7 cI cZ o q F_51 A_51 : va_W) := hD
      refine lv_bipush (v := 6) hx hb dX7_day_54 (by decide) ?_
      refine lv_irem hx hb dX7_day_56 (by decide) ?_
      obtain ⟨hi57, h⟩ := h
      obtain ⟨f_57, ef_57⟩ : ∃ z : tF, z = (upd (A_51 0) ((((21 : Int32) + ((4 : Int32) * y20)) + (3 : Int32))).toNatClampNeg (r51 - r51 / (6 : Int32) * (6 : Int32))) := ⟨_, rfl⟩
      replace h := h f_57 ef_57
      refine g_iast (f := (A_51 0)) (k := ((((21 : Int32) + ((4 : Int32) * y20)) + (3 : Int32))).toNatClampNeg) hx hb hK hP hD hS 1 0 rfl rfl hi57 rfl ef_57 dX7_day_57 (fun H locs hP hD hS => ?_)
      have hP : va_P D vwCl (wX7 cI cZ o q F_51 (va_up A_51 0 f_57) : va_W) H := hP
      have hD : va_D A9 (wX7 cI cZ o q F_51 (va_up A_51 0 f_57) : va_W) := hD
      exact b_X7_day_J58 F_51 (va_up A_51 0 f_57) X ret  _ _ _ h hP hD hS (lv_sub hl [1] rfl)
theorem cal_X7_day : CalV yX7_day cX7_day 2 (some .int) 0 := ⟨mw_27_8, mw_1_5, mw_27_6, mw_27_7, ⟨by decide +kernel, by decide +kernel, by decide +kernel⟩⟩
theorem dX7_strays_0 : decode cX7_strays 0 = .ok (.iload_n 1, 1) := by decide +kernel
theorem dX7_strays_1 : decode cX7_strays 1 = .ok (.i2l, 1) := by decide +kernel
theorem dX7_strays_2 : decode cX7_strays 2 = .ok (.lconst 1, 1) := by decide +kernel
theorem dX7_strays_3 : decode cX7_strays 3 = .ok (.ldc2_w 218, 3) := by decide +kernel
theorem dX7_strays_6 : decode cX7_strays 6 = .ok (.invokestatic 61, 3) := by decide +kernel
theorem dX7_strays_9 : decode cX7_strays 9 = .ok (.ifCond .ne 5, 3) := by decide +kernel
theorem dX7_strays_12 : decode cX7_strays 12 = .ok (.iconst (-1), 1) := by decide +kernel
theorem dX7_strays_13 : decode cX7_strays 13 = .ok (.ireturn, 1) := by decide +kernel
theorem dX7_strays_14 : decode cX7_strays 14 = .ok (.aload_n 0, 1) := by decide +kernel
theorem dX7_strays_15 : decode cX7_strays 15 = .ok (.getfield 7, 3) := by decide +kernel
theorem dX7_strays_18 : decode cX7_strays 18 = .ok (.aload_n 0, 1) := by decide +kernel
theorem dX7_strays_19 : decode cX7_strays 19 = .ok (.getfield 16, 3) := by decide +kernel
theorem dX7_strays_22 : decode cX7_strays 22 = .ok (.invokestatic 144, 3) := by decide +kernel
theorem dX7_strays_25 : decode cX7_strays 25 = .ok (.aload_n 0, 1) := by decide +kernel
theorem dX7_strays_26 : decode cX7_strays 26 = .ok (.invokevirtual 206, 3) := by decide +kernel
theorem dX7_strays_29 : decode cX7_strays 29 = .ok (.aload_n 0, 1) := by decide +kernel
theorem dX7_strays_30 : decode cX7_strays 30 = .ok (.getfield 7, 3) := by decide +kernel
theorem dX7_strays_33 : decode cX7_strays 33 = .ok (.iconst 3, 1) := by decide +kernel
theorem dX7_strays_34 : decode cX7_strays 34 = .ok (.iaload, 1) := by decide +kernel
theorem dX7_strays_35 : decode cX7_strays 35 = .ok (.istore_n 2, 1) := by decide +kernel
theorem dX7_strays_36 : decode cX7_strays 36 = .ok (.aload_n 0, 1) := by decide +kernel
theorem dX7_strays_37 : decode cX7_strays 37 = .ok (.getfield 16, 3) := by decide +kernel
theorem dX7_strays_40 : decode cX7_strays 40 = .ok (.iconst 2, 1) := by decide +kernel
theorem dX7_strays_41 : decode cX7_strays 41 = .ok (.iaload, 1) := by decide +kernel
theorem dX7_strays_42 : decode cX7_strays 42 = .ok (.istore_n 3, 1) := by decide +kernel
theorem dX7_strays_43 : decode cX7_strays 43 = .ok (.iconst 0, 1) := by decide +kernel
theorem dX7_strays_44 : decode cX7_strays 44 = .ok (.istore 4, 2) := by decide +kernel
theorem dX7_strays_46 : decode cX7_strays 46 = .ok (.iconst 0, 1) := by decide +kernel
theorem dX7_strays_47 : decode cX7_strays 47 = .ok (.istore 5, 2) := by decide +kernel
theorem dX7_strays_49 : decode cX7_strays 49 = .ok (.iload 5, 2) := by decide +kernel
theorem dX7_strays_51 : decode cX7_strays 51 = .ok (.iload_n 1, 1) := by decide +kernel
theorem dX7_strays_52 : decode cX7_strays 52 = .ok (.if_icmp .ge 52, 3) := by decide +kernel
theorem dX7_strays_55 : decode cX7_strays 55 = .ok (.aload_n 0, 1) := by decide +kernel
theorem dX7_strays_56 : decode cX7_strays 56 = .ok (.getfield 16, 3) := by decide +kernel
theorem dX7_strays_59 : decode cX7_strays 59 = .ok (.aload_n 0, 1) := by decide +kernel
theorem dX7_strays_60 : decode cX7_strays 60 = .ok (.getfield 7, 3) := by decide +kernel
theorem dX7_strays_63 : decode cX7_strays 63 = .ok (.invokestatic 144, 3) := by decide +kernel
theorem dX7_strays_66 : decode cX7_strays 66 = .ok (.aload_n 0, 1) := by decide +kernel
theorem dX7_strays_67 : decode cX7_strays 67 = .ok (.getfield 7, 3) := by decide +kernel
theorem dX7_strays_70 : decode cX7_strays 70 = .ok (.iconst 2, 1) := by decide +kernel
theorem dX7_strays_71 : decode cX7_strays 71 = .ok (.iload_n 3, 1) := by decide +kernel
theorem dX7_strays_72 : decode cX7_strays 72 = .ok (.iastore, 1) := by decide +kernel
theorem dX7_strays_73 : decode cX7_strays 73 = .ok (.iload 4, 2) := by decide +kernel
theorem dX7_strays_75 : decode cX7_strays 75 = .ok (.aload_n 0, 1) := by decide +kernel
theorem dX7_strays_76 : decode cX7_strays 76 = .ok (.invokevirtual 220, 3) := by decide +kernel
theorem dX7_strays_79 : decode cX7_strays 79 = .ok (.iload_n 2, 1) := by decide +kernel
theorem dX7_strays_80 : decode cX7_strays 80 = .ok (.if_icmp .ne 7, 3) := by decide +kernel
theorem dX7_strays_83 : decode cX7_strays 83 = .ok (.iconst 0, 1) := by decide +kernel
theorem dX7_strays_84 : decode cX7_strays 84 = .ok (.goto 4, 3) := by decide +kernel
theorem dX7_strays_87 : decode cX7_strays 87 = .ok (.iconst 1, 1) := by decide +kernel
theorem dX7_strays_88 : decode cX7_strays 88 = .ok (.iadd, 1) := by decide +kernel
theorem dX7_strays_89 : decode cX7_strays 89 = .ok (.istore 4, 2) := by decide +kernel
theorem dX7_strays_91 : decode cX7_strays 91 = .ok (.aload_n 0, 1) := by decide +kernel
theorem dX7_strays_92 : decode cX7_strays 92 = .ok (.getfield 7, 3) := by decide +kernel
theorem dX7_strays_95 : decode cX7_strays 95 = .ok (.iconst 2, 1) := by decide +kernel
theorem dX7_strays_96 : decode cX7_strays 96 = .ok (.iaload, 1) := by decide +kernel
theorem dX7_strays_97 : decode cX7_strays 97 = .ok (.istore_n 3, 1) := by decide +kernel
theorem dX7_strays_98 : decode cX7_strays 98 = .ok (.iinc 5 1, 3) := by decide +kernel
theorem dX7_strays_101 : decode cX7_strays 101 = .ok (.goto (-52), 3) := by decide +kernel
theorem dX7_strays_104 : decode cX7_strays 104 = .ok (.aload_n 0, 1) := by decide +kernel
theorem dX7_strays_105 : decode cX7_strays 105 = .ok (.getfield 16, 3) := by decide +kernel
theorem dX7_strays_108 : decode cX7_strays 108 = .ok (.aload_n 0, 1) := by decide +kernel
theorem dX7_strays_109 : decode cX7_strays 109 = .ok (.getfield 7, 3) := by decide +kernel
theorem dX7_strays_112 : decode cX7_strays 112 = .ok (.invokestatic 144, 3) := by decide +kernel
theorem dX7_strays_115 : decode cX7_strays 115 = .ok (.iload 4, 2) := by decide +kernel
theorem dX7_strays_117 : decode cX7_strays 117 = .ok (.ireturn, 1) := by decide +kernel
def p_X7_strays_J88 (F : tF) (A : tA) (B49 : (tF → tA → Int32 → Int32 → Int32 → Prop)) (K : Int32 → tF → tA → Prop) (x1 : Int32) (x2 : Int32) (x5 : Int32) (s0 : Int32) (s1 : Int32) : Prop := (∀ y89 : Int32, y89 = (s1 + s0) → (∀ y97 : Int32, y97 = ((A 0) 2) → (∀ y98 : Int32, y98 = (x5 + (1 : Int32)) → (B49 F A y97 y89 y98))))
set_option maxHeartbeats 4000000 in
set_option maxRecDepth 100000 in
theorem b_X7_strays_J88 {p : Program} {l : Launch} {e : Env} {s : State} {m : MethodId} {args : Array Value} {below : List Frame} {meth : Method} {c : Code} {Q : State → Prop} {D : va_G} {cI cZ cR : ClassId} {adK adV : Nat → Nat} {A9 : Nat → Prop} {o : Nat} {q : Nat → Nat} {K : Int32 → tF → tA → Prop} {B49 : (tF → tA → Int32 → Int32 → Int32 → Prop)} (F : tF) (A : tA) (x1 : Int32) (x2 : Int32) (x5 : Int32) (s0 : Int32) (s1 : Int32) (X : CX p s m args c yX7_strays.cls cX7_strays 6 D cI cZ cR adK adV A9) (ret : RTi p l e (rmN 7 163) s m args below meth c Q cX7_strays D A9 (fun (r : Int32) (u : (tF × tA)) => K r u.1 u.2) (fun (u : (tF × tA)) => (wX7 cI cZ o q u.1 u.2 : va_W))) (hB49 : ∀ (F : tF) (A : tA) (x3 : Int32) (x4 : Int32) (x5 : Int32) (H : Heap) (locs : List Loc) (ls : Array Slot), B49 F A x3 x4 x5 → va_P D vwCl (wX7 cI cZ o q F A : va_W) H → va_D A9 (wX7 cI cZ o q F A : va_W) → va_S A9 s.heap H locs → lv_has ls 6 [(0, .ref o), (1, .int x1), (2, .int x2), (3, .int x3), (4, .int x4), (5, .int x5)] → W p l e (rmN 7 163) s m args below meth c H locs 0 0 Q (F0 m 49 ls [])) (H : Heap) (locs : List Loc) (ls : Array Slot) (h : p_X7_strays_J88 F A B49 K x1 x2 x5 s0 s1) (hP : va_P D vwCl (wX7 cI cZ o q F A : va_W) H) (hD : va_D A9 (wX7 cI cZ o q F A : va_W)) (hS : va_S A9 s.heap H locs) (hl : lv_has ls 6 [(0, .ref o), (1, .int x1), (2, .int x2), (5, .int x5)]) : W p l e (rmN 7 163) s m args below meth c H locs 0 0 Q (F0 m 88 ls [.int s0, .int s1]) := by
  obtain ⟨hx, hb, hml, ht, hown, hK, hA, hE⟩ := id X
  unfold p_X7_strays_J88 at h
  refine lv_iadd hx hb dX7_strays_88 ?_
  refine lv_topi (fun y89 ey89 => ?_)
  replace h := h y89 ey89
  refine lv_istore (lv' := [(4, .int y89), (0, .ref o), (1, .int x1), (2, .int x2), (5, .int x5)]) hx hb dX7_strays_89 hl (by decide) rfl (fun ls hl => ?_)
  refine lv_aload_n hx hb dX7_strays_91 rfl (lv_at hl 1 rfl) ?_
  refine va_get (C := RX7) (T := TX7) (N := 28) (own := RX7) (v := .ref (q 0)) hx hb ht inlX7 hown hK hP 0 rfl rfl 0 (Nat.le_of_ble_eq_true rfl) (ht _ mw_5_7) (fun _ h9 => h9) rfl dX7_strays_92 ?_
  refine lv_iconst (v := 2) hx hb dX7_strays_95 (by decide) ?_
  refine g_iald (f := (A 0)) (k := 2) hx hb hK hP 1 0 rfl rfl (vp_in_lit rfl : vp_in (2 : Int32) 53) (by decide) dX7_strays_96 ?_
  refine lv_topi (fun y97 ey97 => ?_)
  replace h := h y97 ey97
  refine lv_istore_n (lv' := [(3, .int y97), (4, .int y89), (0, .ref o), (1, .int x1), (2, .int x2), (5, .int x5)]) hx hb dX7_strays_97 rfl hl (by decide) rfl (fun ls hl => ?_)
  obtain ⟨y98, ey98⟩ : ∃ y : Int32, y = (x5 + (1 : Int32)) := ⟨_, rfl⟩
  replace h := h y98 ey98
  refine lv_iinc (v := y98) (lv' := [(5, .int y98), (3, .int y97), (4, .int y89), (0, .ref o), (1, .int x1), (2, .int x2)]) hx hb dX7_strays_98 hl (k := 5) rfl (by rw [ey98]; rfl) (by decide) rfl (fun ls hl => ?_)
  refine lv_goto (tgt := 49) hx hb dX7_strays_101 (by decide) ?_
  exact hB49 F A y97 y89 y98 _ _ _ h hP hD hS (lv_sub hl [3, 4, 5, 1, 2, 0] rfl)
def p_X7_strays_L49 (x1 : Int32) (x2 : Int32) (K : Int32 → tF → tA → Prop) : Nat → tF → tA → Int32 → Int32 → Int32 → Prop
  | 0, _, _, _, _, _ => False
  | n49 + 1, F, A, x3, x4, x5 => ((x1 ≤ x5 → (p_X7_copyRow 53 (A 2) 53 (A 0) (fun g0_112 => (K x4 F (va_up A 0 g0_112))))) ∧ (¬ x1 ≤ x5 → (p_X7_copyRow 53 (A 2) 53 (A 0) (fun g0_63 => (∀ f_72 : tF, f_72 = (upd g0_63 2 x3) → (p_X7_day F (va_up A 0 f_72) (fun r76 F_76 A_76 => ((¬ r76 = x2 → (p_X7_strays_J88 F_76 A_76 (p_X7_strays_L49 x1 x2 K n49) K x1 x2 x5 (1 : Int32) x4)) ∧ (r76 = x2 → (p_X7_strays_J88 F_76 A_76 (p_X7_strays_L49 x1 x2 K n49) K x1 x2 x5 (0 : Int32) x4))))))))))
set_option maxHeartbeats 4000000 in
set_option maxRecDepth 100000 in
theorem b_X7_strays_L49 {p : Program} {l : Launch} {e : Env} {s : State} {m : MethodId} {args : Array Value} {below : List Frame} {meth : Method} {c : Code} {Q : State → Prop} {D : va_G} {cI cZ cR : ClassId} {adK adV : Nat → Nat} {A9 : Nat → Prop} {o : Nat} {q : Nat → Nat} {K : Int32 → tF → tA → Prop}  (x1 : Int32) (x2 : Int32) (X : CX p s m args c yX7_strays.cls cX7_strays 6 D cI cZ cR adK adV A9) (ret : RTi p l e (rmN 7 163) s m args below meth c Q cX7_strays D A9 (fun (r : Int32) (u : (tF × tA)) => K r u.1 u.2) (fun (u : (tF × tA)) => (wX7 cI cZ o q u.1 u.2 : va_W)))   : ∀ (n : Nat) (F : tF) (A : tA) (x3 : Int32) (x4 : Int32) (x5 : Int32) (H : Heap) (locs : List Loc) (ls : Array Slot), p_X7_strays_L49 x1 x2 K n F A x3 x4 x5 → va_P D vwCl (wX7 cI cZ o q F A : va_W) H → va_D A9 (wX7 cI cZ o q F A : va_W) → va_S A9 s.heap H locs → lv_has ls 6 [(0, .ref o), (1, .int x1), (2, .int x2), (3, .int x3), (4, .int x4), (5, .int x5)] → W p l e (rmN 7 163) s m args below meth c H locs 0 0 Q (F0 m 49 ls []) := by
  obtain ⟨hx, hb, hml, ht, hown, hK, hA, hE⟩ := id X
  intro n
  induction n with
  | zero => intro F A x3 x4 x5 H locs ls h; exact False.elim h
  | succ n49 ih =>
    intro F A x3 x4 x5 H locs ls h hP hD hS hl
    rw [p_X7_strays_L49] at h
    refine lv_iload hx hb dX7_strays_49 (lv_at hl 5 rfl) ?_
    refine lv_iload_n hx hb dX7_strays_51 rfl (lv_at hl 1 rfl) ?_
    refine lv_icmp_ge (tgt := 104) hx hb dX7_strays_52 (by decide) (fun c52 => ?_) (fun c52 => ?_)
    · replace h := h.1 c52
      refine lv_aload_n hx hb dX7_strays_104 rfl (lv_at hl 0 rfl) ?_
      refine va_get (C := RX7) (T := TX7) (N := 28) (own := RX7) (v := .ref (q 2)) hx hb ht inlX7 hown hK hP 0 rfl rfl 2 (Nat.le_of_ble_eq_true rfl) (ht _ mw_5_9) (fun _ h9 => h9) rfl dX7_strays_105 ?_
      refine lv_aload_n hx hb dX7_strays_108 rfl (lv_at hl 0 rfl) ?_
      refine va_get (C := RX7) (T := TX7) (N := 28) (own := RX7) (v := .ref (q 0)) hx hb ht inlX7 hown hK hP 0 rfl rfl 0 (Nat.le_of_ble_eq_true rfl) (ht _ mw_5_7) (fun _ h9 => h9) rfl dX7_strays_109 ?_
      refine C_sv (wr := [0, 2, 4, 5, 6, 7, 8, 9, 10, 11, 12, 13, 14, 15].filterMap (fun i => (wX7 cI cZ o q F A : va_W)[i]?)) X hP hD hS [.ref (q 2), .ref (q 0)] [] (w_X7_copyRow l D cI cZ cR adK adV _ (q 2) (q 0) 53 (A 2) 53 (A 0) _ h) cal_X7_copyRow mw_12_6 rfl [3, 1] [0, 2, 4, 5, 6, 7, 8, 9, 10, 11, 12, 13, 14, 15] [0, 15, 1, 14, 2, 3, 4, 5, 6, 7, 8, 9, 10, 11, 12, 13] (fun u => (wX7 cI cZ o q F (va_up A 0 u) : va_W)) rfl rfl (fun _ => rfl) rfl ⟨rfl, rfl⟩ ⟨Nat.le_of_ble_eq_true rfl, Nat.le_of_ble_eq_true rfl⟩ hl.1 rfl (Nat.le_of_ble_eq_true rfl) ⟨Nat.zero_le _, Nat.zero_le _⟩ dX7_strays_112 (fun u H locs h hP hD hS => ?_)
      obtain ⟨g0_112, rfl⟩ : ∃ z, z = u := ⟨_, rfl⟩
      try dsimp only at h
      have hP : va_P D vwCl (wX7 cI cZ o q F (va_up A 0 g0_112) : va_W) H := hP
      have hD : va_D A9 (wX7 cI cZ o q F (va_up A 0 g0_112) : va_W) := hD
      refine lv_iload hx hb dX7_strays_115 (lv_at hl 4 rfl) ?_
      exact ret _ (F, (va_up A 0 g0_112)) _ _ _ _ dX7_strays_117 h hP hD hS
    · replace h := h.2 c52
      refine lv_aload_n hx hb dX7_strays_55 rfl (lv_at hl 0 rfl) ?_
      refine va_get (C := RX7) (T := TX7) (N := 28) (own := RX7) (v := .ref (q 2)) hx hb ht inlX7 hown hK hP 0 rfl rfl 2 (Nat.le_of_ble_eq_true rfl) (ht _ mw_5_9) (fun _ h9 => h9) rfl dX7_strays_56 ?_
      refine lv_aload_n hx hb dX7_strays_59 rfl (lv_at hl 0 rfl) ?_
      refine va_get (C := RX7) (T := TX7) (N := 28) (own := RX7) (v := .ref (q 0)) hx hb ht inlX7 hown hK hP 0 rfl rfl 0 (Nat.le_of_ble_eq_true rfl) (ht _ mw_5_7) (fun _ h9 => h9) rfl dX7_strays_60 ?_
      refine C_sv (wr := [0, 2, 4, 5, 6, 7, 8, 9, 10, 11, 12, 13, 14, 15].filterMap (fun i => (wX7 cI cZ o q F A : va_W)[i]?)) X hP hD hS [.ref (q 2), .ref (q 0)] [] (w_X7_copyRow l D cI cZ cR adK adV _ (q 2) (q 0) 53 (A 2) 53 (A 0) _ h) cal_X7_copyRow mw_12_6 rfl [3, 1] [0, 2, 4, 5, 6, 7, 8, 9, 10, 11, 12, 13, 14, 15] [0, 15, 1, 14, 2, 3, 4, 5, 6, 7, 8, 9, 10, 11, 12, 13] (fun u => (wX7 cI cZ o q F (va_up A 0 u) : va_W)) rfl rfl (fun _ => rfl) rfl ⟨rfl, rfl⟩ ⟨Nat.le_of_ble_eq_true rfl, Nat.le_of_ble_eq_true rfl⟩ hl.1 rfl (Nat.le_of_ble_eq_true rfl) ⟨Nat.zero_le _, Nat.zero_le _⟩ dX7_strays_63 (fun u H locs h hP hD hS => ?_)
      obtain ⟨g0_63, rfl⟩ : ∃ z, z = u := ⟨_, rfl⟩
      try dsimp only at h
      have hP : va_P D vwCl (wX7 cI cZ o q F (va_up A 0 g0_63) : va_W) H := hP
      have hD : va_D A9 (wX7 cI cZ o q F (va_up A 0 g0_63) : va_W) := hD
      refine lv_aload_n hx hb dX7_strays_66 rfl (lv_at hl 0 rfl) ?_
      refine va_get (C := RX7) (T := TX7) (N := 28) (own := RX7) (v := .ref (q 0)) hx hb ht inlX7 hown hK hP 0 rfl rfl 0 (Nat.le_of_ble_eq_true rfl) (ht _ mw_5_7) (fun _ h9 => h9) rfl dX7_strays_67 ?_
      refine lv_iconst (v := 2) hx hb dX7_strays_70 (by decide) ?_
      refine lv_iload_n hx hb dX7_strays_71 rfl (lv_at hl 3 rfl) ?_
      obtain ⟨f_72, ef_72⟩ : ∃ z : tF, z = (upd g0_63 2 x3) := ⟨_, rfl⟩
      replace h := h f_72 ef_72
      refine g_iast (f := g0_63) (k := 2) hx hb hK hP hD hS 1 0 rfl rfl (vp_in_lit rfl : vp_in (2 : Int32) 53) (by decide) ef_72 dX7_strays_72 (fun H locs hP hD hS => ?_)
      have hP : va_P D vwCl (wX7 cI cZ o q F (va_up A 0 f_72) : va_W) H := hP
      have hD : va_D A9 (wX7 cI cZ o q F (va_up A 0 f_72) : va_W) := hD
      refine lv_iload hx hb dX7_strays_73 (lv_at hl 4 rfl) ?_
      refine lv_aload_n hx hb dX7_strays_75 rfl (lv_at hl 0 rfl) ?_
      refine C_vi (wr := []) X hP hD hS [] [.int x4] (w_X7_day l D cI cZ cR adK adV _ o q F (va_up A 0 f_72) _ h) cal_X7_day mw_28_0 rfl [0, 1, 2, 3, 4, 5, 6, 7, 8, 9, 10, 11, 12, 13, 14, 15] [] [0, 1, 2, 3, 4, 5, 6, 7, 8, 9, 10, 11, 12, 13, 14, 15] (fun u => (wX7 cI cZ o q u.1 u.2 : va_W)) rfl rfl (fun _ => rfl) rfl 0 rfl rfl ⟨rfl, rfl⟩ ⟨Nat.le_of_ble_eq_true rfl, Nat.le_of_ble_eq_true rfl⟩ hl.1 rfl (Nat.le_of_ble_eq_true rfl) ⟨Nat.zero_le _, Nat.zero_le _⟩ dX7_strays_76 (fun r76 u H locs h hP hD hS => ?_)
      obtain ⟨F_76, A_76⟩ := u
      try dsimp only at h
      have hP : va_P D vwCl (wX7 cI cZ o q F_76 A_76 : va_W) H := hP
      have hD : va_D A9 (wX7 cI cZ o q F_76 A_76 : va_W) := hD
      refine lv_iload_n hx hb dX7_strays_79 rfl (lv_at hl 2 rfl) ?_
      refine lv_icmp_ne (tgt := 87) hx hb dX7_strays_80 (by decide) (fun c80 => ?_) (fun c80 => ?_)
      · replace h := h.1 c80
        refine lv_iconst (v := 1) hx hb dX7_strays_87 (by decide) ?_
        exact b_X7_strays_J88 F_76 A_76 x1 x2 x5 (1 : Int32) x4 X ret ih _ _ _ h hP hD hS (lv_sub hl [0, 1, 2, 5] rfl)
      · replace h := h.2 c80
        refine lv_iconst (v := 0) hx hb dX7_strays_83 (by decide) ?_
        refine lv_goto (tgt := 88) hx hb dX7_strays_84 (by decide) ?_
        exact b_X7_strays_J88 F_76 A_76 x1 x2 x5 (0 : Int32) x4 X ret ih _ _ _ h hP hD hS (lv_sub hl [0, 1, 2, 5] rfl)
def p_X7_strays (F : tF) (A : tA) (x1 : Int32) (K : Int32 → tF → tA → Prop) : Prop := (p_X7_isIn ((x1).toInt64) (1 : Int64) (30 : Int64) (fun r6 => ((¬ r6 = 0 → (p_X7_copyRow 53 (A 0) 53 (A 2) (fun g0_22 => (p_X7_goesOn F (va_up A 2 g0_22) (fun F_26 A_26 => (∀ y35 : Int32, y35 = ((A_26 0) 3) → (∀ y42 : Int32, y42 = ((A_26 2) 2) → (∃ n49, p_X7_strays_L49 x1 y35 K n49 F_26 A_26 y42 (0 : Int32) (0 : Int32))))))))) ∧ (r6 = 0 → (K (-1 : Int32) F A)))))
set_option maxHeartbeats 4000000 in
set_option maxRecDepth 100000 in
theorem w_X7_strays (l : Launch) (D : va_G) (cI cZ cR : ClassId) (adK adV : Nat → Nat) (sz : Nat) (o : Nat) (q : Nat → Nat) (F : tF) (A : tA) (x1 : Int32) (K : Int32 → tF → tA → Prop) (h : p_X7_strays F A x1 K) : MI l D cI cZ cR adK adV yX7_strays cX7_strays 6 (some .int) (rmN 7 163) [.ref o, .int x1] (wX7 cI cZ o q F A : va_W) sz (fun (r : Int32) (u : (tF × tA)) => K r u.1 u.2) (fun (u : (tF × tA)) => (wX7 cI cZ o q u.1 u.2 : va_W)) := by
  refine M_i (by decide +kernel) (Nat.le_of_ble_eq_true rfl) ?_
  intro p e s m args below meth c Q A9 ls X ret hP hD hS hl
  obtain ⟨hx, hb, hml, ht, hown, hK, hA, hE⟩ := id X
  have hl : lv_has ls 6 [(0, .ref o), (1, .int x1)] := hl
  unfold p_X7_strays at h
  refine lv_iload_n hx hb dX7_strays_0 rfl (lv_at hl 1 rfl) ?_
  refine lv_i2l (v := (x1).toInt64) hx hb dX7_strays_1 rfl ?_
  refine lv_lconst (v := 1) hx hb dX7_strays_2 (by decide) ?_
  refine lv_ldc2 (v := 30) hx hb hown (ht _ mw_27_23) dX7_strays_3 ?_
  refine C_si (wr := [0, 1, 2, 3, 4, 5, 6, 7, 8, 9, 10, 11, 12, 13, 14, 15].filterMap (fun i => (wX7 cI cZ o q F A : va_W)[i]?)) X hP hD hS [.long (x1).toInt64, .long (1 : Int64), .long (30 : Int64)] [] (w_X7_isIn l D cI cZ cR adK adV _ ((x1).toInt64) (1 : Int64) (30 : Int64) _ h) cal_X7_isIn mw_6_19 rfl [] [0, 1, 2, 3, 4, 5, 6, 7, 8, 9, 10, 11, 12, 13, 14, 15] [0, 1, 2, 3, 4, 5, 6, 7, 8, 9, 10, 11, 12, 13, 14, 15] (fun u => (wX7 cI cZ o q F A : va_W)) rfl rfl (fun _ => rfl) rfl ⟨rfl, rfl⟩ ⟨Nat.le_of_ble_eq_true rfl, Nat.le_of_ble_eq_true rfl⟩ hl.1 rfl (Nat.le_of_ble_eq_true rfl) ⟨Nat.zero_le _, Nat.zero_le _⟩ dX7_strays_6 (fun r6 u H locs h hP hD hS => ?_)
  refine lv_if_ne (tgt := 14) hx hb dX7_strays_9 (by decide) (fun c9 => ?_) (fun c9 => ?_)
  · replace h := h.1 c9
    refine lv_aload_n hx hb dX7_strays_14 rfl (lv_at hl 0 rfl) ?_
    refine va_get (C := RX7) (T := TX7) (N := 28) (own := RX7) (v := .ref (q 0)) hx hb ht inlX7 hown hK hP 0 rfl rfl 0 (Nat.le_of_ble_eq_true rfl) (ht _ mw_5_7) (fun _ h9 => h9) rfl dX7_strays_15 ?_
    refine lv_aload_n hx hb dX7_strays_18 rfl (lv_at hl 0 rfl) ?_
    refine va_get (C := RX7) (T := TX7) (N := 28) (own := RX7) (v := .ref (q 2)) hx hb ht inlX7 hown hK hP 0 rfl rfl 2 (Nat.le_of_ble_eq_true rfl) (ht _ mw_5_9) (fun _ h9 => h9) rfl dX7_strays_19 ?_
    refine C_sv (wr := [0, 2, 4, 5, 6, 7, 8, 9, 10, 11, 12, 13, 14, 15].filterMap (fun i => (wX7 cI cZ o q F A : va_W)[i]?)) X hP hD hS [.ref (q 0), .ref (q 2)] [] (w_X7_copyRow l D cI cZ cR adK adV _ (q 0) (q 2) 53 (A 0) 53 (A 2) _ h) cal_X7_copyRow mw_12_6 rfl [1, 3] [0, 2, 4, 5, 6, 7, 8, 9, 10, 11, 12, 13, 14, 15] [0, 14, 1, 15, 2, 3, 4, 5, 6, 7, 8, 9, 10, 11, 12, 13] (fun u => (wX7 cI cZ o q F (va_up A 2 u) : va_W)) rfl rfl (fun _ => rfl) rfl ⟨rfl, rfl⟩ ⟨Nat.le_of_ble_eq_true rfl, Nat.le_of_ble_eq_true rfl⟩ hl.1 rfl (Nat.le_of_ble_eq_true rfl) ⟨Nat.zero_le _, Nat.zero_le _⟩ dX7_strays_22 (fun u H locs h hP hD hS => ?_)
    obtain ⟨g0_22, rfl⟩ : ∃ z, z = u := ⟨_, rfl⟩
    try dsimp only at h
    have hP : va_P D vwCl (wX7 cI cZ o q F (va_up A 2 g0_22) : va_W) H := hP
    have hD : va_D A9 (wX7 cI cZ o q F (va_up A 2 g0_22) : va_W) := hD
    refine lv_aload_n hx hb dX7_strays_25 rfl (lv_at hl 0 rfl) ?_
    refine C_vv (wr := []) X hP hD hS [] [] (w_X7_goesOn l D cI cZ cR adK adV _ o q F (va_up A 2 g0_22) _ h) cal_X7_goesOn mw_26_0 rfl [0, 1, 2, 3, 4, 5, 6, 7, 8, 9, 10, 11, 12, 13, 14, 15] [] [0, 1, 2, 3, 4, 5, 6, 7, 8, 9, 10, 11, 12, 13, 14, 15] (fun u => (wX7 cI cZ o q u.1 u.2 : va_W)) rfl rfl (fun _ => rfl) rfl 0 rfl rfl ⟨rfl, rfl⟩ ⟨Nat.le_of_ble_eq_true rfl, Nat.le_of_ble_eq_true rfl⟩ hl.1 rfl (Nat.le_of_ble_eq_true rfl) ⟨Nat.zero_le _, Nat.zero_le _⟩ dX7_strays_26 (fun u H locs h hP hD hS => ?_)
    obtain ⟨F_26, A_26⟩ := u
    try dsimp only at h
    have hP : va_P D vwCl (wX7 cI cZ o q F_26 A_26 : va_W) H := hP
    have hD : va_D A9 (wX7 cI cZ o q F_26 A_26 : va_W) := hD
    refine lv_aload_n hx hb dX7_strays_29 rfl (lv_at hl 0 rfl) ?_
    refine va_get (C := RX7) (T := TX7) (N := 28) (own := RX7) (v := .ref (q 0)) hx hb ht inlX7 hown hK hP 0 rfl rfl 0 (Nat.le_of_ble_eq_true rfl) (ht _ mw_5_7) (fun _ h9 => h9) rfl dX7_strays_30 ?_
    refine lv_iconst (v := 3) hx hb dX7_strays_33 (by decide) ?_
    refine g_iald (f := (A_26 0)) (k := 3) hx hb hK hP 1 0 rfl rfl (vp_in_lit rfl : vp_in (3 : Int32) 53) (by decide) dX7_strays_34 ?_
    refine lv_topi (fun y35 ey35 => ?_)
    replace h := h y35 ey35
    refine lv_istore_n (lv' := [(2, .int y35), (0, .ref o), (1, .int x1)]) hx hb dX7_strays_35 rfl hl (by decide) rfl (fun ls hl => ?_)
    refine lv_aload_n hx hb dX7_strays_36 rfl (lv_at hl 1 rfl) ?_
    refine va_get (C := RX7) (T := TX7) (N := 28) (own := RX7) (v := .ref (q 2)) hx hb ht inlX7 hown hK hP 0 rfl rfl 2 (Nat.le_of_ble_eq_true rfl) (ht _ mw_5_9) (fun _ h9 => h9) rfl dX7_strays_37 ?_
    refine lv_iconst (v := 2) hx hb dX7_strays_40 (by decide) ?_
    refine g_iald (f := (A_26 2)) (k := 2) hx hb hK hP 3 0 rfl rfl (vp_in_lit rfl : vp_in (2 : Int32) 53) (by decide) dX7_strays_41 ?_
    refine lv_topi (fun y42 ey42 => ?_)
    replace h := h y42 ey42
    refine lv_istore_n (lv' := [(3, .int y42), (2, .int y35), (0, .ref o), (1, .int x1)]) hx hb dX7_strays_42 rfl hl (by decide) rfl (fun ls hl => ?_)
    refine lv_iconst (v := 0) hx hb dX7_strays_43 (by decide) ?_
    refine lv_istore (lv' := [(4, .int (0 : Int32)), (3, .int y42), (2, .int y35), (0, .ref o), (1, .int x1)]) hx hb dX7_strays_44 hl (by decide) rfl (fun ls hl => ?_)
    refine lv_iconst (v := 0) hx hb dX7_strays_46 (by decide) ?_
    refine lv_istore (lv' := [(5, .int (0 : Int32)), (4, .int (0 : Int32)), (3, .int y42), (2, .int y35), (0, .ref o), (1, .int x1)]) hx hb dX7_strays_47 hl (by decide) rfl (fun ls hl => ?_)
    obtain ⟨n49, h⟩ := h
    exact b_X7_strays_L49 x1 y35 X ret  n49 F_26 A_26 y42 (0 : Int32) (0 : Int32) _ _ _ h hP hD hS (lv_sub hl [4, 5, 3, 2, 1, 0] rfl)
  · replace h := h.2 c9
    refine lv_iconst (v := -1) hx hb dX7_strays_12 (by decide) ?_
    exact ret _ (F, A) _ _ _ _ dX7_strays_13 h hP hD hS
theorem dX7_sumOf_0 : decode cX7_sumOf 0 = .ok (.iconst 0, 1) := by decide +kernel
theorem dX7_sumOf_1 : decode cX7_sumOf 1 = .ok (.istore_n 2, 1) := by decide +kernel
theorem dX7_sumOf_2 : decode cX7_sumOf 2 = .ok (.iconst 0, 1) := by decide +kernel
theorem dX7_sumOf_3 : decode cX7_sumOf 3 = .ok (.istore_n 3, 1) := by decide +kernel
theorem dX7_sumOf_4 : decode cX7_sumOf 4 = .ok (.iload_n 3, 1) := by decide +kernel
theorem dX7_sumOf_5 : decode cX7_sumOf 5 = .ok (.aload_n 0, 1) := by decide +kernel
theorem dX7_sumOf_6 : decode cX7_sumOf 6 = .ok (.getfield 7, 3) := by decide +kernel
theorem dX7_sumOf_9 : decode cX7_sumOf 9 = .ok (.iconst 0, 1) := by decide +kernel
theorem dX7_sumOf_10 : decode cX7_sumOf 10 = .ok (.iaload, 1) := by decide +kernel
theorem dX7_sumOf_11 : decode cX7_sumOf 11 = .ok (.if_icmp .ge 31, 3) := by decide +kernel
theorem dX7_sumOf_14 : decode cX7_sumOf 14 = .ok (.iload_n 2, 1) := by decide +kernel
theorem dX7_sumOf_15 : decode cX7_sumOf 15 = .ok (.iload_n 1, 1) := by decide +kernel
theorem dX7_sumOf_16 : decode cX7_sumOf 16 = .ok (.iconst 4, 1) := by decide +kernel
theorem dX7_sumOf_17 : decode cX7_sumOf 17 = .ok (.if_icmp .ne 11, 3) := by decide +kernel
theorem dX7_sumOf_20 : decode cX7_sumOf 20 = .ok (.aload_n 0, 1) := by decide +kernel
theorem dX7_sumOf_21 : decode cX7_sumOf 21 = .ok (.iload_n 3, 1) := by decide +kernel
theorem dX7_sumOf_22 : decode cX7_sumOf 22 = .ok (.invokevirtual 181, 3) := by decide +kernel
theorem dX7_sumOf_25 : decode cX7_sumOf 25 = .ok (.goto 9, 3) := by decide +kernel
theorem dX7_sumOf_28 : decode cX7_sumOf 28 = .ok (.aload_n 0, 1) := by decide +kernel
theorem dX7_sumOf_29 : decode cX7_sumOf 29 = .ok (.iload_n 3, 1) := by decide +kernel
theorem dX7_sumOf_30 : decode cX7_sumOf 30 = .ok (.iload_n 1, 1) := by decide +kernel
theorem dX7_sumOf_31 : decode cX7_sumOf 31 = .ok (.invokevirtual 169, 3) := by decide +kernel
theorem dX7_sumOf_34 : decode cX7_sumOf 34 = .ok (.iadd, 1) := by decide +kernel
theorem dX7_sumOf_35 : decode cX7_sumOf 35 = .ok (.istore_n 2, 1) := by decide +kernel
theorem dX7_sumOf_36 : decode cX7_sumOf 36 = .ok (.iinc 3 1, 3) := by decide +kernel
theorem dX7_sumOf_39 : decode cX7_sumOf 39 = .ok (.goto (-35), 3) := by decide +kernel
theorem dX7_sumOf_42 : decode cX7_sumOf 42 = .ok (.iload_n 2, 1) := by decide +kernel
theorem dX7_sumOf_43 : decode cX7_sumOf 43 = .ok (.ireturn, 1) := by decide +kernel
def p_X7_sumOf_J34 (F : tF) (A : tA) (B4 : (Int32 → Int32 → Prop)) (K : Int32 → Prop) (x1 : Int32) (x3 : Int32) (s0 : Int32) (s1 : Int32) : Prop := (∀ y35 : Int32, y35 = (s1 + s0) → (∀ y36 : Int32, y36 = (x3 + (1 : Int32)) → (B4 y35 y36)))
set_option maxHeartbeats 4000000 in
set_option maxRecDepth 100000 in
theorem b_X7_sumOf_J34 {p : Program} {l : Launch} {e : Env} {s : State} {m : MethodId} {args : Array Value} {below : List Frame} {meth : Method} {c : Code} {Q : State → Prop} {D : va_G} {cI cZ cR : ClassId} {adK adV : Nat → Nat} {A9 : Nat → Prop} {o : Nat} {q : Nat → Nat} {K : Int32 → Prop} {B4 : (Int32 → Int32 → Prop)} (F : tF) (A : tA) (x1 : Int32) (x3 : Int32) (s0 : Int32) (s1 : Int32) (X : CX p s m args c yX7_sumOf.cls cX7_sumOf 4 D cI cZ cR adK adV A9) (ret : RTi p l e (rmN 2 44) s m args below meth c Q cX7_sumOf D A9 (fun (r : Int32) (u : Unit) => K r) (fun (u : Unit) => (wX7 cI cZ o q F A : va_W))) (hB4 : ∀ (x2 : Int32) (x3 : Int32) (H : Heap) (locs : List Loc) (ls : Array Slot), B4 x2 x3 → va_P D vwCl (wX7 cI cZ o q F A : va_W) H → va_D A9 (wX7 cI cZ o q F A : va_W) → va_S A9 s.heap H locs → lv_has ls 4 [(0, .ref o), (1, .int x1), (2, .int x2), (3, .int x3)] → W p l e (rmN 2 44) s m args below meth c H locs 0 0 Q (F0 m 4 ls [])) (H : Heap) (locs : List Loc) (ls : Array Slot) (h : p_X7_sumOf_J34 F A B4 K x1 x3 s0 s1) (hP : va_P D vwCl (wX7 cI cZ o q F A : va_W) H) (hD : va_D A9 (wX7 cI cZ o q F A : va_W)) (hS : va_S A9 s.heap H locs) (hl : lv_has ls 4 [(0, .ref o), (1, .int x1), (3, .int x3)]) : W p l e (rmN 2 44) s m args below meth c H locs 0 0 Q (F0 m 34 ls [.int s0, .int s1]) := by
  obtain ⟨hx, hb, hml, ht, hown, hK, hA, hE⟩ := id X
  unfold p_X7_sumOf_J34 at h
  refine lv_iadd hx hb dX7_sumOf_34 ?_
  refine lv_topi (fun y35 ey35 => ?_)
  replace h := h y35 ey35
  refine lv_istore_n (lv' := [(2, .int y35), (0, .ref o), (1, .int x1), (3, .int x3)]) hx hb dX7_sumOf_35 rfl hl (by decide) rfl (fun ls hl => ?_)
  obtain ⟨y36, ey36⟩ : ∃ y : Int32, y = (x3 + (1 : Int32)) := ⟨_, rfl⟩
  replace h := h y36 ey36
  refine lv_iinc (v := y36) (lv' := [(3, .int y36), (2, .int y35), (0, .ref o), (1, .int x1)]) hx hb dX7_sumOf_36 hl (k := 3) rfl (by rw [ey36]; rfl) (by decide) rfl (fun ls hl => ?_)
  refine lv_goto (tgt := 4) hx hb dX7_sumOf_39 (by decide) ?_
  exact hB4 y35 y36 _ _ _ h hP hD hS (lv_sub hl [2, 3, 1, 0] rfl)
def p_X7_sumOf_L4 (F : tF) (A : tA) (x1 : Int32) (K : Int32 → Prop) : Nat → Int32 → Int32 → Prop
  | 0, _, _ => False
  | n4 + 1, x2, x3 => ((((A 0) 0) ≤ x3 → (K x2)) ∧ (¬ ((A 0) 0) ≤ x3 → ((¬ x1 = (4 : Int32) → (p_X7_its F A x3 x1 (fun r31 => (p_X7_sumOf_J34 F A (p_X7_sumOf_L4 F A x1 K n4) K x1 x3 r31 x2)))) ∧ (x1 = (4 : Int32) → (p_X7_counts F A x3 (fun r22 => (p_X7_sumOf_J34 F A (p_X7_sumOf_L4 F A x1 K n4) K x1 x3 r22 x2)))))))
set_option maxHeartbeats 4000000 in
set_option maxRecDepth 100000 in
theorem b_X7_sumOf_L4 {p : Program} {l : Launch} {e : Env} {s : State} {m : MethodId} {args : Array Value} {below : List Frame} {meth : Method} {c : Code} {Q : State → Prop} {D : va_G} {cI cZ cR : ClassId} {adK adV : Nat → Nat} {A9 : Nat → Prop} {o : Nat} {q : Nat → Nat} {K : Int32 → Prop}  (F : tF) (A : tA) (x1 : Int32) (X : CX p s m args c yX7_sumOf.cls cX7_sumOf 4 D cI cZ cR adK adV A9) (ret : RTi p l e (rmN 2 44) s m args below meth c Q cX7_sumOf D A9 (fun (r : Int32) (u : Unit) => K r) (fun (u : Unit) => (wX7 cI cZ o q F A : va_W)))   : ∀ (n : Nat) (x2 : Int32) (x3 : Int32) (H : Heap) (locs : List Loc) (ls : Array Slot), p_X7_sumOf_L4 F A x1 K n x2 x3 → va_P D vwCl (wX7 cI cZ o q F A : va_W) H → va_D A9 (wX7 cI cZ o q F A : va_W) → va_S A9 s.heap H locs → lv_has ls 4 [(0, .ref o), (1, .int x1), (2, .int x2), (3, .int x3)] → W p l e (rmN 2 44) s m args below meth c H locs 0 0 Q (F0 m 4 ls []) := by
  obtain ⟨hx, hb, hml, ht, hown, hK, hA, hE⟩ := id X
  intro n
  induction n with
  | zero => intro x2 x3 H locs ls h; exact False.elim h
  | succ n4 ih =>
    intro x2 x3 H locs ls h hP hD hS hl
    rw [p_X7_sumOf_L4] at h
    refine lv_iload_n hx hb dX7_sumOf_4 rfl (lv_at hl 3 rfl) ?_
    refine lv_aload_n hx hb dX7_sumOf_5 rfl (lv_at hl 0 rfl) ?_
    refine va_get (C := RX7) (T := TX7) (N := 28) (own := RX7) (v := .ref (q 0)) hx hb ht inlX7 hown hK hP 0 rfl rfl 0 (Nat.le_of_ble_eq_true rfl) (ht _ mw_5_7) (fun _ h9 => h9) rfl dX7_sumOf_6 ?_
    refine lv_iconst (v := 0) hx hb dX7_sumOf_9 (by decide) ?_
    refine g_iald (f := (A 0)) (k := 0) hx hb hK hP 1 0 rfl rfl (vp_in_lit rfl : vp_in (0 : Int32) 53) (by decide) dX7_sumOf_10 ?_
    refine lv_icmp_ge (tgt := 42) hx hb dX7_sumOf_11 (by decide) (fun c11 => ?_) (fun c11 => ?_)
    · replace h := h.1 c11
      refine lv_iload_n hx hb dX7_sumOf_42 rfl (lv_at hl 2 rfl) ?_
      exact ret _ () _ _ _ _ dX7_sumOf_43 h hP hD hS
    · replace h := h.2 c11
      refine lv_iload_n hx hb dX7_sumOf_14 rfl (lv_at hl 2 rfl) ?_
      refine lv_iload_n hx hb dX7_sumOf_15 rfl (lv_at hl 1 rfl) ?_
      refine lv_iconst (v := 4) hx hb dX7_sumOf_16 (by decide) ?_
      refine lv_icmp_ne (tgt := 28) hx hb dX7_sumOf_17 (by decide) (fun c17 => ?_) (fun c17 => ?_)
      · replace h := h.1 c17
        refine lv_aload_n hx hb dX7_sumOf_28 rfl (lv_at hl 0 rfl) ?_
        refine lv_iload_n hx hb dX7_sumOf_29 rfl (lv_at hl 3 rfl) ?_
        refine lv_iload_n hx hb dX7_sumOf_30 rfl (lv_at hl 1 rfl) ?_
        refine C_vi (wr := []) X hP hD hS [.int x3, .int x1] [.int x2] (w_X7_its l D cI cZ cR adK adV _ o q F A x3 x1 _ h) cal_X7_its mw_18_16 rfl [0, 1, 2, 3, 4, 5, 6, 7, 8, 9, 10, 11, 12, 13, 14, 15] [] [0, 1, 2, 3, 4, 5, 6, 7, 8, 9, 10, 11, 12, 13, 14, 15] (fun u => (wX7 cI cZ o q F A : va_W)) rfl rfl (fun _ => rfl) rfl 0 rfl rfl ⟨rfl, rfl⟩ ⟨Nat.le_of_ble_eq_true rfl, Nat.le_of_ble_eq_true rfl⟩ hl.1 rfl (Nat.le_of_ble_eq_true rfl) ⟨Nat.zero_le _, Nat.zero_le _⟩ dX7_sumOf_31 (fun r31 u H locs h hP hD hS => ?_)
        exact b_X7_sumOf_J34 F A x1 x3 r31 x2 X ret ih _ _ _ h hP hD hS (lv_sub hl [0, 1, 3] rfl)
      · replace h := h.2 c17
        refine lv_aload_n hx hb dX7_sumOf_20 rfl (lv_at hl 0 rfl) ?_
        refine lv_iload_n hx hb dX7_sumOf_21 rfl (lv_at hl 3 rfl) ?_
        refine C_vi (wr := []) X hP hD hS [.int x3] [.int x2] (w_X7_counts l D cI cZ cR adK adV _ o q F A x3 _ h) cal_X7_counts mw_18_20 rfl [0, 1, 2, 3, 4, 5, 6, 7, 8, 9, 10, 11, 12, 13, 14, 15] [] [0, 1, 2, 3, 4, 5, 6, 7, 8, 9, 10, 11, 12, 13, 14, 15] (fun u => (wX7 cI cZ o q F A : va_W)) rfl rfl (fun _ => rfl) rfl 0 rfl rfl ⟨rfl, rfl⟩ ⟨Nat.le_of_ble_eq_true rfl, Nat.le_of_ble_eq_true rfl⟩ hl.1 rfl (Nat.le_of_ble_eq_true rfl) ⟨Nat.zero_le _, Nat.zero_le _⟩ dX7_sumOf_22 (fun r22 u H locs h hP hD hS => ?_)
        refine lv_goto (tgt := 34) hx hb dX7_sumOf_25 (by decide) ?_
        exact b_X7_sumOf_J34 F A x1 x3 r22 x2 X ret ih _ _ _ h hP hD hS (lv_sub hl [0, 1, 3] rfl)
def p_X7_sumOf (F : tF) (A : tA) (x1 : Int32) (K : Int32 → Prop) : Prop := (∃ n4, p_X7_sumOf_L4 F A x1 K n4 (0 : Int32) (0 : Int32))
set_option maxHeartbeats 4000000 in
set_option maxRecDepth 100000 in
theorem w_X7_sumOf (l : Launch) (D : va_G) (cI cZ cR : ClassId) (adK adV : Nat → Nat) (sz : Nat) (o : Nat) (q : Nat → Nat) (F : tF) (A : tA) (x1 : Int32) (K : Int32 → Prop) (h : p_X7_sumOf F A x1 K) : MI l D cI cZ cR adK adV yX7_sumOf cX7_sumOf 4 (some .int) (rmN 2 44) [.ref o, .int x1] (wX7 cI cZ o q F A : va_W) sz (fun (r : Int32) (u : Unit) => K r) (fun (u : Unit) => (wX7 cI cZ o q F A : va_W)) := by
  refine M_i (by decide +kernel) (Nat.le_of_ble_eq_true rfl) ?_
  intro p e s m args below meth c Q A9 ls X ret hP hD hS hl
  obtain ⟨hx, hb, hml, ht, hown, hK, hA, hE⟩ := id X
  have hl : lv_has ls 4 [(0, .ref o), (1, .int x1)] := hl
  unfold p_X7_sumOf at h
  refine lv_iconst (v := 0) hx hb dX7_sumOf_0 (by decide) ?_
  refine lv_istore_n (lv' := [(2, .int (0 : Int32)), (0, .ref o), (1, .int x1)]) hx hb dX7_sumOf_1 rfl hl (by decide) rfl (fun ls hl => ?_)
  refine lv_iconst (v := 0) hx hb dX7_sumOf_2 (by decide) ?_
  refine lv_istore_n (lv' := [(3, .int (0 : Int32)), (2, .int (0 : Int32)), (0, .ref o), (1, .int x1)]) hx hb dX7_sumOf_3 rfl hl (by decide) rfl (fun ls hl => ?_)
  obtain ⟨n4, h⟩ := h
  exact b_X7_sumOf_L4 F A x1 X ret  n4 (0 : Int32) (0 : Int32) _ _ _ h hP hD hS (lv_sub hl [2, 3, 1, 0] rfl)
theorem dX7_scaredOnes_0 : decode cX7_scaredOnes 0 = .ok (.iconst 0, 1) := by decide +kernel
theorem dX7_scaredOnes_1 : decode cX7_scaredOnes 1 = .ok (.istore_n 1, 1) := by decide +kernel
theorem dX7_scaredOnes_2 : decode cX7_scaredOnes 2 = .ok (.iconst 0, 1) := by decide +kernel
theorem dX7_scaredOnes_3 : decode cX7_scaredOnes 3 = .ok (.istore_n 2, 1) := by decide +kernel
theorem dX7_scaredOnes_4 : decode cX7_scaredOnes 4 = .ok (.iload_n 2, 1) := by decide +kernel
theorem dX7_scaredOnes_5 : decode cX7_scaredOnes 5 = .ok (.aload_n 0, 1) := by decide +kernel
theorem dX7_scaredOnes_6 : decode cX7_scaredOnes 6 = .ok (.getfield 7, 3) := by decide +kernel
theorem dX7_scaredOnes_9 : decode cX7_scaredOnes 9 = .ok (.iconst 0, 1) := by decide +kernel
theorem dX7_scaredOnes_10 : decode cX7_scaredOnes 10 = .ok (.iaload, 1) := by decide +kernel
theorem dX7_scaredOnes_11 : decode cX7_scaredOnes 11 = .ok (.if_icmp .ge 30, 3) := by decide +kernel
theorem dX7_scaredOnes_14 : decode cX7_scaredOnes 14 = .ok (.iload_n 1, 1) := by decide +kernel
theorem dX7_scaredOnes_15 : decode cX7_scaredOnes 15 = .ok (.aload_n 0, 1) := by decide +kernel
theorem dX7_scaredOnes_16 : decode cX7_scaredOnes 16 = .ok (.iload_n 2, 1) := by decide +kernel
theorem dX7_scaredOnes_17 : decode cX7_scaredOnes 17 = .ok (.iconst 2, 1) := by decide +kernel
theorem dX7_scaredOnes_18 : decode cX7_scaredOnes 18 = .ok (.invokevirtual 169, 3) := by decide +kernel
theorem dX7_scaredOnes_21 : decode cX7_scaredOnes 21 = .ok (.bipush 9, 2) := by decide +kernel
theorem dX7_scaredOnes_23 : decode cX7_scaredOnes 23 = .ok (.if_icmp .ne 9, 3) := by decide +kernel
theorem dX7_scaredOnes_26 : decode cX7_scaredOnes 26 = .ok (.iconst 1, 1) := by decide +kernel
theorem dX7_scaredOnes_27 : decode cX7_scaredOnes 27 = .ok (.iload_n 2, 1) := by decide +kernel
theorem dX7_scaredOnes_28 : decode cX7_scaredOnes 28 = .ok (.ishl, 1) := by decide +kernel
theorem dX7_scaredOnes_29 : decode cX7_scaredOnes 29 = .ok (.goto 4, 3) := by decide +kernel
theorem dX7_scaredOnes_32 : decode cX7_scaredOnes 32 = .ok (.iconst 0, 1) := by decide +kernel
theorem dX7_scaredOnes_33 : decode cX7_scaredOnes 33 = .ok (.ior, 1) := by decide +kernel
theorem dX7_scaredOnes_34 : decode cX7_scaredOnes 34 = .ok (.istore_n 1, 1) := by decide +kernel
theorem dX7_scaredOnes_35 : decode cX7_scaredOnes 35 = .ok (.iinc 2 1, 3) := by decide +kernel
theorem dX7_scaredOnes_38 : decode cX7_scaredOnes 38 = .ok (.goto (-34), 3) := by decide +kernel
theorem dX7_scaredOnes_41 : decode cX7_scaredOnes 41 = .ok (.iload_n 1, 1) := by decide +kernel
theorem dX7_scaredOnes_42 : decode cX7_scaredOnes 42 = .ok (.ireturn, 1) := by decide +kernel
def p_X7_scaredOnes_J33 (F : tF) (A : tA) (B4 : (Int32 → Int32 → Prop)) (K : Int32 → Prop) (x2 : Int32) (s0 : Int32) (s1 : Int32) : Prop := (∀ y34 : Int32, y34 = (s1 ||| s0) → (∀ y35 : Int32, y35 = (x2 + (1 : Int32)) → (B4 y34 y35)))
set_option maxHeartbeats 4000000 in
set_option maxRecDepth 100000 in
theorem b_X7_scaredOnes_J33 {p : Program} {l : Launch} {e : Env} {s : State} {m : MethodId} {args : Array Value} {below : List Frame} {meth : Method} {c : Code} {Q : State → Prop} {D : va_G} {cI cZ cR : ClassId} {adK adV : Nat → Nat} {A9 : Nat → Prop} {o : Nat} {q : Nat → Nat} {K : Int32 → Prop} {B4 : (Int32 → Int32 → Prop)} (F : tF) (A : tA) (x2 : Int32) (s0 : Int32) (s1 : Int32) (X : CX p s m args c yX7_scaredOnes.cls cX7_scaredOnes 3 D cI cZ cR adK adV A9) (ret : RTi p l e (rmN 1 22) s m args below meth c Q cX7_scaredOnes D A9 (fun (r : Int32) (u : Unit) => K r) (fun (u : Unit) => (wX7 cI cZ o q F A : va_W))) (hB4 : ∀ (x1 : Int32) (x2 : Int32) (H : Heap) (locs : List Loc) (ls : Array Slot), B4 x1 x2 → va_P D vwCl (wX7 cI cZ o q F A : va_W) H → va_D A9 (wX7 cI cZ o q F A : va_W) → va_S A9 s.heap H locs → lv_has ls 3 [(0, .ref o), (1, .int x1), (2, .int x2)] → W p l e (rmN 1 22) s m args below meth c H locs 0 0 Q (F0 m 4 ls [])) (H : Heap) (locs : List Loc) (ls : Array Slot) (h : p_X7_scaredOnes_J33 F A B4 K x2 s0 s1) (hP : va_P D vwCl (wX7 cI cZ o q F A : va_W) H) (hD : va_D A9 (wX7 cI cZ o q F A : va_W)) (hS : va_S A9 s.heap H locs) (hl : lv_has ls 3 [(0, .ref o), (2, .int x2)]) : W p l e (rmN 1 22) s m args below meth c H locs 0 0 Q (F0 m 33 ls [.int s0, .int s1]) := by
  obtain ⟨hx, hb, hml, ht, hown, hK, hA, hE⟩ := id X
  unfold p_X7_scaredOnes_J33 at h
  refine lv_ior hx hb dX7_scaredOnes_33 ?_
  refine lv_topi (fun y34 ey34 => ?_)
  replace h := h y34 ey34
  refine lv_istore_n (lv' := [(1, .int y34), (0, .ref o), (2, .int x2)]) hx hb dX7_scaredOnes_34 rfl hl (by decide) rfl (fun ls hl => ?_)
  obtain ⟨y35, ey35⟩ : ∃ y : Int32, y = (x2 + (1 : Int32)) := ⟨_, rfl⟩
  replace h := h y35 ey35
  refine lv_iinc (v := y35) (lv' := [(2, .int y35), (1, .int y34), (0, .ref o)]) hx hb dX7_scaredOnes_35 hl (k := 2) rfl (by rw [ey35]; rfl) (by decide) rfl (fun ls hl => ?_)
  refine lv_goto (tgt := 4) hx hb dX7_scaredOnes_38 (by decide) ?_
  exact hB4 y34 y35 _ _ _ h hP hD hS (lv_sub hl [2, 1, 0] rfl)
def p_X7_scaredOnes_L4 (F : tF) (A : tA) (K : Int32 → Prop) : Nat → Int32 → Int32 → Prop
  | 0, _, _ => False
  | n4 + 1, x1, x2 => ((((A 0) 0) ≤ x2 → (K x1)) ∧ (¬ ((A 0) 0) ≤ x2 → (p_X7_its F A x2 (2 : Int32) (fun r18 => ((¬ r18 = (9 : Int32) → (p_X7_scaredOnes_J33 F A (p_X7_scaredOnes_L4 F A K n4) K x2 (0 : Int32) x1)) ∧ (r18 = (9 : Int32) → (p_X7_scaredOnes_J33 F A (p_X7_scaredOnes_L4 F A K n4) K x2 ((1 : Int32) <<< (x2 &&& 31)) x1)))))))
set_option maxHeartbeats 4000000 in
set_option maxRecDepth 100000 in
theorem b_X7_scaredOnes_L4 {p : Program} {l : Launch} {e : Env} {s : State} {m : MethodId} {args : Array Value} {below : List Frame} {meth : Method} {c : Code} {Q : State → Prop} {D : va_G} {cI cZ cR : ClassId} {adK adV : Nat → Nat} {A9 : Nat → Prop} {o : Nat} {q : Nat → Nat} {K : Int32 → Prop}  (F : tF) (A : tA) (X : CX p s m args c yX7_scaredOnes.cls cX7_scaredOnes 3 D cI cZ cR adK adV A9) (ret : RTi p l e (rmN 1 22) s m args below meth c Q cX7_scaredOnes D A9 (fun (r : Int32) (u : Unit) => K r) (fun (u : Unit) => (wX7 cI cZ o q F A : va_W)))   : ∀ (n : Nat) (x1 : Int32) (x2 : Int32) (H : Heap) (locs : List Loc) (ls : Array Slot), p_X7_scaredOnes_L4 F A K n x1 x2 → va_P D vwCl (wX7 cI cZ o q F A : va_W) H → va_D A9 (wX7 cI cZ o q F A : va_W) → va_S A9 s.heap H locs → lv_has ls 3 [(0, .ref o), (1, .int x1), (2, .int x2)] → W p l e (rmN 1 22) s m args below meth c H locs 0 0 Q (F0 m 4 ls []) := by
  obtain ⟨hx, hb, hml, ht, hown, hK, hA, hE⟩ := id X
  intro n
  induction n with
  | zero => intro x1 x2 H locs ls h; exact False.elim h
  | succ n4 ih =>
    intro x1 x2 H locs ls h hP hD hS hl
    rw [p_X7_scaredOnes_L4] at h
    refine lv_iload_n hx hb dX7_scaredOnes_4 rfl (lv_at hl 2 rfl) ?_
    refine lv_aload_n hx hb dX7_scaredOnes_5 rfl (lv_at hl 0 rfl) ?_
    refine va_get (C := RX7) (T := TX7) (N := 28) (own := RX7) (v := .ref (q 0)) hx hb ht inlX7 hown hK hP 0 rfl rfl 0 (Nat.le_of_ble_eq_true rfl) (ht _ mw_5_7) (fun _ h9 => h9) rfl dX7_scaredOnes_6 ?_
    refine lv_iconst (v := 0) hx hb dX7_scaredOnes_9 (by decide) ?_
    refine g_iald (f := (A 0)) (k := 0) hx hb hK hP 1 0 rfl rfl (vp_in_lit rfl : vp_in (0 : Int32) 53) (by decide) dX7_scaredOnes_10 ?_
    refine lv_icmp_ge (tgt := 41) hx hb dX7_scaredOnes_11 (by decide) (fun c11 => ?_) (fun c11 => ?_)
    · replace h := h.1 c11
      refine lv_iload_n hx hb dX7_scaredOnes_41 rfl (lv_at hl 1 rfl) ?_
      exact ret _ () _ _ _ _ dX7_scaredOnes_42 h hP hD hS
    · replace h := h.2 c11
      refine lv_iload_n hx hb dX7_scaredOnes_14 rfl (lv_at hl 1 rfl) ?_
      refine lv_aload_n hx hb dX7_scaredOnes_15 rfl (lv_at hl 0 rfl) ?_
      refine lv_iload_n hx hb dX7_scaredOnes_16 rfl (lv_at hl 2 rfl) ?_
      refine lv_iconst (v := 2) hx hb dX7_scaredOnes_17 (by decide) ?_
      refine C_vi (wr := []) X hP hD hS [.int x2, .int (2 : Int32)] [.int x1] (w_X7_its l D cI cZ cR adK adV _ o q F A x2 (2 : Int32) _ h) cal_X7_its mw_18_16 rfl [0, 1, 2, 3, 4, 5, 6, 7, 8, 9, 10, 11, 12, 13, 14, 15] [] [0, 1, 2, 3, 4, 5, 6, 7, 8, 9, 10, 11, 12, 13, 14, 15] (fun u => (wX7 cI cZ o q F A : va_W)) rfl rfl (fun _ => rfl) rfl 0 rfl rfl ⟨rfl, rfl⟩ ⟨Nat.le_of_ble_eq_true rfl, Nat.le_of_ble_eq_true rfl⟩ hl.1 rfl (Nat.le_of_ble_eq_true rfl) ⟨Nat.zero_le _, Nat.zero_le _⟩ dX7_scaredOnes_18 (fun r18 u H locs h hP hD hS => ?_)
      refine lv_bipush (v := 9) hx hb dX7_scaredOnes_21 (by decide) ?_
      refine lv_icmp_ne (tgt := 32) hx hb dX7_scaredOnes_23 (by decide) (fun c23 => ?_) (fun c23 => ?_)
      · replace h := h.1 c23
        refine lv_iconst (v := 0) hx hb dX7_scaredOnes_32 (by decide) ?_
        exact b_X7_scaredOnes_J33 F A x2 (0 : Int32) x1 X ret ih _ _ _ h hP hD hS (lv_sub hl [0, 2] rfl)
      · replace h := h.2 c23
        refine lv_iconst (v := 1) hx hb dX7_scaredOnes_26 (by decide) ?_
        refine lv_iload_n hx hb dX7_scaredOnes_27 rfl (lv_at hl 2 rfl) ?_
        refine lv_ishl hx hb dX7_scaredOnes_28 ?_
        refine lv_goto (tgt := 33) hx hb dX7_scaredOnes_29 (by decide) ?_
        exact b_X7_scaredOnes_J33 F A x2 ((1 : Int32) <<< (x2 &&& 31)) x1 X ret ih _ _ _ h hP hD hS (lv_sub hl [0, 2] rfl)
def p_X7_scaredOnes (F : tF) (A : tA) (K : Int32 → Prop) : Prop := (∃ n4, p_X7_scaredOnes_L4 F A K n4 (0 : Int32) (0 : Int32))
set_option maxHeartbeats 4000000 in
set_option maxRecDepth 100000 in
theorem w_X7_scaredOnes (l : Launch) (D : va_G) (cI cZ cR : ClassId) (adK adV : Nat → Nat) (sz : Nat) (o : Nat) (q : Nat → Nat) (F : tF) (A : tA) (K : Int32 → Prop) (h : p_X7_scaredOnes F A K) : MI l D cI cZ cR adK adV yX7_scaredOnes cX7_scaredOnes 3 (some .int) (rmN 1 22) [.ref o] (wX7 cI cZ o q F A : va_W) sz (fun (r : Int32) (u : Unit) => K r) (fun (u : Unit) => (wX7 cI cZ o q F A : va_W)) := by
  refine M_i (by decide +kernel) (Nat.le_of_ble_eq_true rfl) ?_
  intro p e s m args below meth c Q A9 ls X ret hP hD hS hl
  obtain ⟨hx, hb, hml, ht, hown, hK, hA, hE⟩ := id X
  have hl : lv_has ls 3 [(0, .ref o)] := hl
  unfold p_X7_scaredOnes at h
  refine lv_iconst (v := 0) hx hb dX7_scaredOnes_0 (by decide) ?_
  refine lv_istore_n (lv' := [(1, .int (0 : Int32)), (0, .ref o)]) hx hb dX7_scaredOnes_1 rfl hl (by decide) rfl (fun ls hl => ?_)
  refine lv_iconst (v := 0) hx hb dX7_scaredOnes_2 (by decide) ?_
  refine lv_istore_n (lv' := [(2, .int (0 : Int32)), (1, .int (0 : Int32)), (0, .ref o)]) hx hb dX7_scaredOnes_3 rfl hl (by decide) rfl (fun ls hl => ?_)
  obtain ⟨n4, h⟩ := h
  exact b_X7_scaredOnes_L4 F A X ret  n4 (0 : Int32) (0 : Int32) _ _ _ h hP hD hS (lv_sub hl [2, 1, 0] rfl)
theorem cal_X7_sumOf : CalV yX7_sumOf cX7_sumOf 4 (some .int) 1 := ⟨mw_29_0, mw_1_5, mw_28_22, mw_28_23, ⟨by decide +kernel, by decide +kernel, by decide +kernel⟩⟩
theorem cal_X7_scaredOnes : CalV yX7_scaredOnes cX7_scaredOnes 3 (some .int) 0 := ⟨mw_29_4, mw_1_5, mw_29_2, mw_29_3, ⟨by decide +kernel, by decide +kernel, by decide +kernel⟩⟩
theorem dX7_state_0 : decode cX7_state 0 = .ok (.iconst 0, 1) := by decide +kernel
theorem dX7_state_1 : decode cX7_state 1 = .ok (.istore_n 2, 1) := by decide +kernel
theorem dX7_state_2 : decode cX7_state 2 = .ok (.iload_n 1, 1) := by decide +kernel
theorem dX7_state_3 : decode cX7_state 3 = .ok (.tableswitch 96 0 5 #[37, 44, 51, 57, 63, 91], 37) := by decide +kernel
theorem dX7_state_40 : decode cX7_state 40 = .ok (.aload_n 0, 1) := by decide +kernel
theorem dX7_state_41 : decode cX7_state 41 = .ok (.getfield 7, 3) := by decide +kernel
theorem dX7_state_44 : decode cX7_state 44 = .ok (.iconst 1, 1) := by decide +kernel
theorem dX7_state_45 : decode cX7_state 45 = .ok (.iaload, 1) := by decide +kernel
theorem dX7_state_46 : decode cX7_state 46 = .ok (.ireturn, 1) := by decide +kernel
theorem dX7_state_47 : decode cX7_state 47 = .ok (.aload_n 0, 1) := by decide +kernel
theorem dX7_state_48 : decode cX7_state 48 = .ok (.getfield 7, 3) := by decide +kernel
theorem dX7_state_51 : decode cX7_state 51 = .ok (.iconst 3, 1) := by decide +kernel
theorem dX7_state_52 : decode cX7_state 52 = .ok (.iaload, 1) := by decide +kernel
theorem dX7_state_53 : decode cX7_state 53 = .ok (.ireturn, 1) := by decide +kernel
theorem dX7_state_54 : decode cX7_state 54 = .ok (.aload_n 0, 1) := by decide +kernel
theorem dX7_state_55 : decode cX7_state 55 = .ok (.iconst 4, 1) := by decide +kernel
theorem dX7_state_56 : decode cX7_state 56 = .ok (.invokevirtual 223, 3) := by decide +kernel
theorem dX7_state_59 : decode cX7_state 59 = .ok (.ireturn, 1) := by decide +kernel
theorem dX7_state_60 : decode cX7_state 60 = .ok (.aload_n 0, 1) := by decide +kernel
theorem dX7_state_61 : decode cX7_state 61 = .ok (.iconst 2, 1) := by decide +kernel
theorem dX7_state_62 : decode cX7_state 62 = .ok (.invokevirtual 223, 3) := by decide +kernel
theorem dX7_state_65 : decode cX7_state 65 = .ok (.ireturn, 1) := by decide +kernel
theorem dX7_state_66 : decode cX7_state 66 = .ok (.iconst 0, 1) := by decide +kernel
theorem dX7_state_67 : decode cX7_state 67 = .ok (.istore_n 3, 1) := by decide +kernel
theorem dX7_state_68 : decode cX7_state 68 = .ok (.iload_n 3, 1) := by decide +kernel
theorem dX7_state_69 : decode cX7_state 69 = .ok (.bipush 6, 2) := by decide +kernel
theorem dX7_state_71 : decode cX7_state 71 = .ok (.if_icmp .ge 21, 3) := by decide +kernel
theorem dX7_state_74 : decode cX7_state 74 = .ok (.iload_n 2, 1) := by decide +kernel
theorem dX7_state_75 : decode cX7_state 75 = .ok (.aload_n 0, 1) := by decide +kernel
theorem dX7_state_76 : decode cX7_state 76 = .ok (.getfield 7, 3) := by decide +kernel
theorem dX7_state_79 : decode cX7_state 79 = .ok (.bipush 9, 2) := by decide +kernel
theorem dX7_state_81 : decode cX7_state 81 = .ok (.iload_n 3, 1) := by decide +kernel
theorem dX7_state_82 : decode cX7_state 82 = .ok (.iadd, 1) := by decide +kernel
theorem dX7_state_83 : decode cX7_state 83 = .ok (.iaload, 1) := by decide +kernel
theorem dX7_state_84 : decode cX7_state 84 = .ok (.iadd, 1) := by decide +kernel
theorem dX7_state_85 : decode cX7_state 85 = .ok (.istore_n 2, 1) := by decide +kernel
theorem dX7_state_86 : decode cX7_state 86 = .ok (.iinc 3 1, 3) := by decide +kernel
theorem dX7_state_89 : decode cX7_state 89 = .ok (.goto (-21), 3) := by decide +kernel
theorem dX7_state_92 : decode cX7_state 92 = .ok (.iload_n 2, 1) := by decide +kernel
theorem dX7_state_93 : decode cX7_state 93 = .ok (.ireturn, 1) := by decide +kernel
theorem dX7_state_94 : decode cX7_state 94 = .ok (.aload_n 0, 1) := by decide +kernel
theorem dX7_state_95 : decode cX7_state 95 = .ok (.invokevirtual 226, 3) := by decide +kernel
theorem dX7_state_98 : decode cX7_state 98 = .ok (.ireturn, 1) := by decide +kernel
theorem dX7_state_99 : decode cX7_state 99 = .ok (.iconst (-1), 1) := by decide +kernel
theorem dX7_state_100 : decode cX7_state 100 = .ok (.ireturn, 1) := by decide +kernel
def p_X7_state_L68 (F : tF) (A : tA) (K : Int32 → Prop) : Nat → Int32 → Int32 → Prop
  | 0, _, _ => False
  | n68 + 1, x2, x3 => (((6 : Int32) ≤ x3 → (K x2)) ∧ (¬ (6 : Int32) ≤ x3 → (vp_in ((9 : Int32) + x3) 53 ∧ (∀ y85 : Int32, y85 = (x2 + ((A 0) (((9 : Int32) + x3)).toNatClampNeg)) → (∀ y86 : Int32, y86 = (x3 + (1 : Int32)) → ((p_X7_state_L68 F A K n68) y85 y86))))))
set_option maxHeartbeats 4000000 in
set_option maxRecDepth 100000 in
theorem b_X7_state_L68 {p : Program} {l : Launch} {e : Env} {s : State} {m : MethodId} {args : Array Value} {below : List Frame} {meth : Method} {c : Code} {Q : State → Prop} {D : va_G} {cI cZ cR : ClassId} {adK adV : Nat → Nat} {A9 : Nat → Prop} {o : Nat} {q : Nat → Nat} {K : Int32 → Prop}  (F : tF) (A : tA) (X : CX p s m args c yX7_state.cls cX7_state 4 D cI cZ cR adK adV A9) (ret : RTi p l e (rmN 3 67) s m args below meth c Q cX7_state D A9 (fun (r : Int32) (u : Unit) => K r) (fun (u : Unit) => (wX7 cI cZ o q F A : va_W)))   : ∀ (n : Nat) (x2 : Int32) (x3 : Int32) (H : Heap) (locs : List Loc) (ls : Array Slot), p_X7_state_L68 F A K n x2 x3 → va_P D vwCl (wX7 cI cZ o q F A : va_W) H → va_D A9 (wX7 cI cZ o q F A : va_W) → va_S A9 s.heap H locs → lv_has ls 4 [(0, .ref o), (2, .int x2), (3, .int x3)] → W p l e (rmN 3 67) s m args below meth c H locs 0 0 Q (F0 m 68 ls []) := by
  obtain ⟨hx, hb, hml, ht, hown, hK, hA, hE⟩ := id X
  intro n
  induction n with
  | zero => intro x2 x3 H locs ls h; exact False.elim h
  | succ n68 ih =>
    intro x2 x3 H locs ls h hP hD hS hl
    rw [p_X7_state_L68] at h
    refine lv_iload_n hx hb dX7_state_68 rfl (lv_at hl 2 rfl) ?_
    refine lv_bipush (v := 6) hx hb dX7_state_69 (by decide) ?_
    refine lv_icmp_ge (tgt := 92) hx hb dX7_state_71 (by decide) (fun c71 => ?_) (fun c71 => ?_)
    · replace h := h.1 c71
      refine lv_iload_n hx hb dX7_state_92 rfl (lv_at hl 1 rfl) ?_
      exact ret _ () _ _ _ _ dX7_state_93 h hP hD hS
    · replace h := h.2 c71
      refine lv_iload_n hx hb dX7_state_74 rfl (lv_at hl 1 rfl) ?_
      refine lv_aload_n hx hb dX7_state_75 rfl (lv_at hl 0 rfl) ?_
      refine va_get (C := RX7) (T := TX7) (N := 28) (own := RX7) (v := .ref (q 0)) hx hb ht inlX7 hown hK hP 0 rfl rfl 0 (Nat.le_of_ble_eq_true rfl) (ht _ mw_5_7) (fun _ h9 => h9) rfl dX7_state_76 ?_
      refine lv_bipush (v := 9) hx hb dX7_state_79 (by decide) ?_
      refine lv_iload_n hx hb dX7_state_81 rfl (lv_at hl 2 rfl) ?_
      refine lv_iadd hx hb dX7_state_82 ?_
      obtain ⟨hi83, h⟩ := h
      refine g_iald (f := (A 0)) (k := (((9 : Int32) + x3)).toNatClampNeg) hx hb hK hP 1 0 rfl rfl hi83 rfl dX7_state_83 ?_
      refine lv_iadd hx hb dX7_state_84 ?_
      refine lv_topi (fun y85 ey85 => ?_)
      replace h := h y85 ey85
      refine lv_istore_n (lv' := [(2, .int y85), (0, .ref o), (3, .int x3)]) hx hb dX7_state_85 rfl hl (by decide) rfl (fun ls hl => ?_)
      obtain ⟨y86, ey86⟩ : ∃ y : Int32, y = (x3 + (1 : Int32)) := ⟨_, rfl⟩
      replace h := h y86 ey86
      refine lv_iinc (v := y86) (lv' := [(3, .int y86), (2, .int y85), (0, .ref o)]) hx hb dX7_state_86 hl (k := 2) rfl (by rw [ey86]; rfl) (by decide) rfl (fun ls hl => ?_)
      refine lv_goto (tgt := 68) hx hb dX7_state_89 (by decide) ?_
      exact ih y85 y86 _ _ _ h hP hD hS (lv_sub hl [2, 1, 0] rfl)
def p_X7_state (F : tF) (A : tA) (x1 : Int32) (K : Int32 → Prop) : Prop := ((x1 = (0 : Int32) → (K ((A 0) 1))) ∧ (x1 = (1 : Int32) → (K ((A 0) 3))) ∧ (x1 = (2 : Int32) → (p_X7_sumOf F A (4 : Int32) (fun r56 => (K r56)))) ∧ (x1 = (3 : Int32) → (p_X7_sumOf F A (2 : Int32) (fun r62 => (K r62)))) ∧ (x1 = (4 : Int32) → (∃ n68, p_X7_state_L68 F A K n68 (0 : Int32) (0 : Int32))) ∧ (x1 = (5 : Int32) → (p_X7_scaredOnes F A (fun r95 => (K r95)))) ∧ (¬ x1 = (0 : Int32) → ¬ x1 = (1 : Int32) → ¬ x1 = (2 : Int32) → ¬ x1 = (3 : Int32) → ¬ x1 = (4 : Int32) → ¬ x1 = (5 : Int32) → (K (-1 : Int32))))
set_option maxHeartbeats 4000000 in
set_option maxRecDepth 100000 in
theorem w_X7_state (l : Launch) (D : va_G) (cI cZ cR : ClassId) (adK adV : Nat → Nat) (sz : Nat) (o : Nat) (q : Nat → Nat) (F : tF) (A : tA) (x1 : Int32) (K : Int32 → Prop) (h : p_X7_state F A x1 K) : MI l D cI cZ cR adK adV yX7_state cX7_state 4 (some .int) (rmN 3 67) [.ref o, .int x1] (wX7 cI cZ o q F A : va_W) sz (fun (r : Int32) (u : Unit) => K r) (fun (u : Unit) => (wX7 cI cZ o q F A : va_W)) := by
  refine M_i (by decide +kernel) (Nat.le_of_ble_eq_true rfl) ?_
  intro p e s m args below meth c Q A9 ls X ret hP hD hS hl
  obtain ⟨hx, hb, hml, ht, hown, hK, hA, hE⟩ := id X
  have hl : lv_has ls 4 [(0, .ref o), (1, .int x1)] := hl
  unfold p_X7_state at h
  refine lv_iconst (v := 0) hx hb dX7_state_0 (by decide) ?_
  refine lv_istore_n (lv' := [(2, .int (0 : Int32)), (0, .ref o), (1, .int x1)]) hx hb dX7_state_1 rfl hl (by decide) rfl (fun ls hl => ?_)
  refine lv_iload_n hx hb dX7_state_2 rfl (lv_at hl 2 rfl) ?_
  by_cases c3_0 : x1 = (0 : Int32)
  · replace h := h.1 c3_0
    refine lv_tableIn (tgt := 40) hx hb dX7_state_3 (by rw [c3_0]; decide) (by rw [c3_0]; decide) (by rw [c3_0]; rfl) (by decide) ?_
    refine lv_aload_n hx hb dX7_state_40 rfl (lv_at hl 1 rfl) ?_
    refine va_get (C := RX7) (T := TX7) (N := 28) (own := RX7) (v := .ref (q 0)) hx hb ht inlX7 hown hK hP 0 rfl rfl 0 (Nat.le_of_ble_eq_true rfl) (ht _ mw_5_7) (fun _ h9 => h9) rfl dX7_state_41 ?_
    refine lv_iconst (v := 1) hx hb dX7_state_44 (by decide) ?_
    refine g_iald (f := (A 0)) (k := 1) hx hb hK hP 1 0 rfl rfl (vp_in_lit rfl : vp_in (1 : Int32) 53) (by decide) dX7_state_45 ?_
    exact ret _ () _ _ _ _ dX7_state_46 h hP hD hS
  by_cases c3_1 : x1 = (1 : Int32)
  · replace h := h.2.1 c3_1
    refine lv_tableIn (tgt := 47) hx hb dX7_state_3 (by rw [c3_1]; decide) (by rw [c3_1]; decide) (by rw [c3_1]; rfl) (by decide) ?_
    refine lv_aload_n hx hb dX7_state_47 rfl (lv_at hl 1 rfl) ?_
    refine va_get (C := RX7) (T := TX7) (N := 28) (own := RX7) (v := .ref (q 0)) hx hb ht inlX7 hown hK hP 0 rfl rfl 0 (Nat.le_of_ble_eq_true rfl) (ht _ mw_5_7) (fun _ h9 => h9) rfl dX7_state_48 ?_
    refine lv_iconst (v := 3) hx hb dX7_state_51 (by decide) ?_
    refine g_iald (f := (A 0)) (k := 3) hx hb hK hP 1 0 rfl rfl (vp_in_lit rfl : vp_in (3 : Int32) 53) (by decide) dX7_state_52 ?_
    exact ret _ () _ _ _ _ dX7_state_53 h hP hD hS
  by_cases c3_2 : x1 = (2 : Int32)
  · replace h := h.2.2.1 c3_2
    refine lv_tableIn (tgt := 54) hx hb dX7_state_3 (by rw [c3_2]; decide) (by rw [c3_2]; decide) (by rw [c3_2]; rfl) (by decide) ?_
    refine lv_aload_n hx hb dX7_state_54 rfl (lv_at hl 1 rfl) ?_
    refine lv_iconst (v := 4) hx hb dX7_state_55 (by decide) ?_
    refine C_vi (wr := []) X hP hD hS [.int (4 : Int32)] [] (w_X7_sumOf l D cI cZ cR adK adV _ o q F A (4 : Int32) _ h) cal_X7_sumOf mw_28_21 rfl [0, 1, 2, 3, 4, 5, 6, 7, 8, 9, 10, 11, 12, 13, 14, 15] [] [0, 1, 2, 3, 4, 5, 6, 7, 8, 9, 10, 11, 12, 13, 14, 15] (fun u => (wX7 cI cZ o q F A : va_W)) rfl rfl (fun _ => rfl) rfl 0 rfl rfl ⟨rfl, rfl⟩ ⟨Nat.le_of_ble_eq_true rfl, Nat.le_of_ble_eq_true rfl⟩ hl.1 rfl (Nat.le_of_ble_eq_true rfl) ⟨Nat.zero_le _, Nat.zero_le _⟩ dX7_state_56 (fun r56 u H locs h hP hD hS => ?_)
    exact ret _ () _ _ _ _ dX7_state_59 h hP hD hS
  by_cases c3_3 : x1 = (3 : Int32)
  · replace h := h.2.2.2.1 c3_3
    refine lv_tableIn (tgt := 60) hx hb dX7_state_3 (by rw [c3_3]; decide) (by rw [c3_3]; decide) (by rw [c3_3]; rfl) (by decide) ?_
    refine lv_aload_n hx hb dX7_state_60 rfl (lv_at hl 1 rfl) ?_
    refine lv_iconst (v := 2) hx hb dX7_state_61 (by decide) ?_
    refine C_vi (wr := []) X hP hD hS [.int (2 : Int32)] [] (w_X7_sumOf l D cI cZ cR adK adV _ o q F A (2 : Int32) _ h) cal_X7_sumOf mw_28_21 rfl [0, 1, 2, 3, 4, 5, 6, 7, 8, 9, 10, 11, 12, 13, 14, 15] [] [0, 1, 2, 3, 4, 5, 6, 7, 8, 9, 10, 11, 12, 13, 14, 15] (fun u => (wX7 cI cZ o q F A : va_W)) rfl rfl (fun _ => rfl) rfl 0 rfl rfl ⟨rfl, rfl⟩ ⟨Nat.le_of_ble_eq_true rfl, Nat.le_of_ble_eq_true rfl⟩ hl.1 rfl (Nat.le_of_ble_eq_true rfl) ⟨Nat.zero_le _, Nat.zero_le _⟩ dX7_state_62 (fun r62 u H locs h hP hD hS => ?_)
    exact ret _ () _ _ _ _ dX7_state_65 h hP hD hS
  by_cases c3_4 : x1 = (4 : Int32)
  · replace h := h.2.2.2.2.1 c3_4
    refine lv_tableIn (tgt := 66) hx hb dX7_state_3 (by rw [c3_4]; decide) (by rw [c3_4]; decide) (by rw [c3_4]; rfl) (by decide) ?_
    refine lv_iconst (v := 0) hx hb dX7_state_66 (by decide) ?_
    refine lv_istore_n (lv' := [(3, .int (0 : Int32)), (2, .int (0 : Int32)), (0, .ref o), (1, .int x1)]) hx hb dX7_state_67 rfl hl (by decide) rfl (fun ls hl => ?_)
    obtain ⟨n68, h⟩ := h
    exact b_X7_state_L68 F A X ret  n68 (0 : Int32) (0 : Int32) _ _ _ h hP hD hS (lv_sub hl [2, 1, 0] rfl)
  by_cases c3_5 : x1 = (5 : Int32)
  · replace h := h.2.2.2.2.2.1 c3_5
    refine lv_tableIn (tgt := 94) hx hb dX7_state_3 (by rw [c3_5]; decide) (by rw [c3_5]; decide) (by rw [c3_5]; rfl) (by decide) ?_
    refine lv_aload_n hx hb dX7_state_94 rfl (lv_at hl 1 rfl) ?_
    refine C_vi (wr := []) X hP hD hS [] [] (w_X7_scaredOnes l D cI cZ cR adK adV _ o q F A _ h) cal_X7_scaredOnes mw_29_1 rfl [0, 1, 2, 3, 4, 5, 6, 7, 8, 9, 10, 11, 12, 13, 14, 15] [] [0, 1, 2, 3, 4, 5, 6, 7, 8, 9, 10, 11, 12, 13, 14, 15] (fun u => (wX7 cI cZ o q F A : va_W)) rfl rfl (fun _ => rfl) rfl 0 rfl rfl ⟨rfl, rfl⟩ ⟨Nat.le_of_ble_eq_true rfl, Nat.le_of_ble_eq_true rfl⟩ hl.1 rfl (Nat.le_of_ble_eq_true rfl) ⟨Nat.zero_le _, Nat.zero_le _⟩ dX7_state_95 (fun r95 u H locs h hP hD hS => ?_)
    exact ret _ () _ _ _ _ dX7_state_98 h hP hD hS
  replace h := h.2.2.2.2.2.2 c3_0 c3_1 c3_2 c3_3 c3_4 c3_5
  refine g_tdef (tgt := 99) hx hb dX7_state_3 ?_ (by decide) ?_
  · exact Or.inl (sw0_5 c3_0 c3_1 c3_2 c3_3 c3_4 c3_5)
  refine lv_iconst (v := -1) hx hb dX7_state_99 (by decide) ?_
  exact ret _ () _ _ _ _ dX7_state_100 h hP hD hS
theorem dX7_whereBehind_0 : decode cX7_whereBehind 0 = .ok (.aload_n 0, 1) := by decide +kernel
theorem dX7_whereBehind_1 : decode cX7_whereBehind 1 = .ok (.getfield 7, 3) := by decide +kernel
theorem dX7_whereBehind_4 : decode cX7_whereBehind 4 = .ok (.aload_n 0, 1) := by decide +kernel
theorem dX7_whereBehind_5 : decode cX7_whereBehind 5 = .ok (.getfield 16, 3) := by decide +kernel
theorem dX7_whereBehind_8 : decode cX7_whereBehind 8 = .ok (.invokestatic 144, 3) := by decide +kernel
theorem dX7_whereBehind_11 : decode cX7_whereBehind 11 = .ok (.aload_n 0, 1) := by decide +kernel
theorem dX7_whereBehind_12 : decode cX7_whereBehind 12 = .ok (.iload_n 1, 1) := by decide +kernel
theorem dX7_whereBehind_13 : decode cX7_whereBehind 13 = .ok (.invokevirtual 211, 3) := by decide +kernel
theorem dX7_whereBehind_16 : decode cX7_whereBehind 16 = .ok (.aload_n 0, 1) := by decide +kernel
theorem dX7_whereBehind_17 : decode cX7_whereBehind 17 = .ok (.getfield 7, 3) := by decide +kernel
theorem dX7_whereBehind_20 : decode cX7_whereBehind 20 = .ok (.iconst 3, 1) := by decide +kernel
theorem dX7_whereBehind_21 : decode cX7_whereBehind 21 = .ok (.iaload, 1) := by decide +kernel
theorem dX7_whereBehind_22 : decode cX7_whereBehind 22 = .ok (.istore_n 2, 1) := by decide +kernel
theorem dX7_whereBehind_23 : decode cX7_whereBehind 23 = .ok (.aload_n 0, 1) := by decide +kernel
theorem dX7_whereBehind_24 : decode cX7_whereBehind 24 = .ok (.getfield 16, 3) := by decide +kernel
theorem dX7_whereBehind_27 : decode cX7_whereBehind 27 = .ok (.aload_n 0, 1) := by decide +kernel
theorem dX7_whereBehind_28 : decode cX7_whereBehind 28 = .ok (.getfield 7, 3) := by decide +kernel
theorem dX7_whereBehind_31 : decode cX7_whereBehind 31 = .ok (.invokestatic 144, 3) := by decide +kernel
theorem dX7_whereBehind_34 : decode cX7_whereBehind 34 = .ok (.iload_n 2, 1) := by decide +kernel
theorem dX7_whereBehind_35 : decode cX7_whereBehind 35 = .ok (.ireturn, 1) := by decide +kernel
def p_X7_whereBehind (F : tF) (A : tA) (x1 : Int32) (K : Int32 → tF → tA → Prop) : Prop := (p_X7_copyRow 53 (A 0) 53 (A 2) (fun g0_8 => (p_X7_goes F (va_up A 2 g0_8) x1 (fun F_13 A_13 => (∀ y22 : Int32, y22 = ((A_13 0) 3) → (p_X7_copyRow 53 (A_13 2) 53 (A_13 0) (fun g0_31 => (K y22 F_13 (va_up A_13 0 g0_31)))))))))
set_option maxHeartbeats 4000000 in
set_option maxRecDepth 100000 in
theorem w_X7_whereBehind (l : Launch) (D : va_G) (cI cZ cR : ClassId) (adK adV : Nat → Nat) (sz : Nat) (o : Nat) (q : Nat → Nat) (F : tF) (A : tA) (x1 : Int32) (K : Int32 → tF → tA → Prop) (h : p_X7_whereBehind F A x1 K) : MI l D cI cZ cR adK adV yX7_whereBehind cX7_whereBehind 3 (some .int) (rmN 7 164) [.ref o, .int x1] (wX7 cI cZ o q F A : va_W) sz (fun (r : Int32) (u : (tF × tA)) => K r u.1 u.2) (fun (u : (tF × tA)) => (wX7 cI cZ o q u.1 u.2 : va_W)) := by
  refine M_i (by decide +kernel) (Nat.le_of_ble_eq_true rfl) ?_
  intro p e s m args below meth c Q A9 ls X ret hP hD hS hl
  obtain ⟨hx, hb, hml, ht, hown, hK, hA, hE⟩ := id X
  have hl : lv_has ls 3 [(0, .ref o), (1, .int x1)] := hl
  unfold p_X7_whereBehind at h
  refine lv_aload_n hx hb dX7_whereBehind_0 rfl (lv_at hl 0 rfl) ?_
  refine va_get (C := RX7) (T := TX7) (N := 28) (own := RX7) (v := .ref (q 0)) hx hb ht inlX7 hown hK hP 0 rfl rfl 0 (Nat.le_of_ble_eq_true rfl) (ht _ mw_5_7) (fun _ h9 => h9) rfl dX7_whereBehind_1 ?_
  refine lv_aload_n hx hb dX7_whereBehind_4 rfl (lv_at hl 0 rfl) ?_
  refine va_get (C := RX7) (T := TX7) (N := 28) (own := RX7) (v := .ref (q 2)) hx hb ht inlX7 hown hK hP 0 rfl rfl 2 (Nat.le_of_ble_eq_true rfl) (ht _ mw_5_9) (fun _ h9 => h9) rfl dX7_whereBehind_5 ?_
  refine C_sv (wr := [0, 2, 4, 5, 6, 7, 8, 9, 10, 11, 12, 13, 14, 15].filterMap (fun i => (wX7 cI cZ o q F A : va_W)[i]?)) X hP hD hS [.ref (q 0), .ref (q 2)] [] (w_X7_copyRow l D cI cZ cR adK adV _ (q 0) (q 2) 53 (A 0) 53 (A 2) _ h) cal_X7_copyRow mw_12_6 rfl [1, 3] [0, 2, 4, 5, 6, 7, 8, 9, 10, 11, 12, 13, 14, 15] [0, 14, 1, 15, 2, 3, 4, 5, 6, 7, 8, 9, 10, 11, 12, 13] (fun u => (wX7 cI cZ o q F (va_up A 2 u) : va_W)) rfl rfl (fun _ => rfl) rfl ⟨rfl, rfl⟩ ⟨Nat.le_of_ble_eq_true rfl, Nat.le_of_ble_eq_true rfl⟩ hl.1 rfl (Nat.le_of_ble_eq_true rfl) ⟨Nat.zero_le _, Nat.zero_le _⟩ dX7_whereBehind_8 (fun u H locs h hP hD hS => ?_)
  obtain ⟨g0_8, rfl⟩ : ∃ z, z = u := ⟨_, rfl⟩
  try dsimp only at h
  have hP : va_P D vwCl (wX7 cI cZ o q F (va_up A 2 g0_8) : va_W) H := hP
  have hD : va_D A9 (wX7 cI cZ o q F (va_up A 2 g0_8) : va_W) := hD
  refine lv_aload_n hx hb dX7_whereBehind_11 rfl (lv_at hl 0 rfl) ?_
  refine lv_iload_n hx hb dX7_whereBehind_12 rfl (lv_at hl 1 rfl) ?_
  refine C_vv (wr := []) X hP hD hS [.int x1] [] (w_X7_goes l D cI cZ cR adK adV _ o q F (va_up A 2 g0_8) x1 _ h) cal_X7_goes mw_25_20 rfl [0, 1, 2, 3, 4, 5, 6, 7, 8, 9, 10, 11, 12, 13, 14, 15] [] [0, 1, 2, 3, 4, 5, 6, 7, 8, 9, 10, 11, 12, 13, 14, 15] (fun u => (wX7 cI cZ o q u.1 u.2 : va_W)) rfl rfl (fun _ => rfl) rfl 0 rfl rfl ⟨rfl, rfl⟩ ⟨Nat.le_of_ble_eq_true rfl, Nat.le_of_ble_eq_true rfl⟩ hl.1 rfl (Nat.le_of_ble_eq_true rfl) ⟨Nat.zero_le _, Nat.zero_le _⟩ dX7_whereBehind_13 (fun u H locs h hP hD hS => ?_)
  obtain ⟨F_13, A_13⟩ := u
  try dsimp only at h
  have hP : va_P D vwCl (wX7 cI cZ o q F_13 A_13 : va_W) H := hP
  have hD : va_D A9 (wX7 cI cZ o q F_13 A_13 : va_W) := hD
  refine lv_aload_n hx hb dX7_whereBehind_16 rfl (lv_at hl 0 rfl) ?_
  refine va_get (C := RX7) (T := TX7) (N := 28) (own := RX7) (v := .ref (q 0)) hx hb ht inlX7 hown hK hP 0 rfl rfl 0 (Nat.le_of_ble_eq_true rfl) (ht _ mw_5_7) (fun _ h9 => h9) rfl dX7_whereBehind_17 ?_
  refine lv_iconst (v := 3) hx hb dX7_whereBehind_20 (by decide) ?_
  refine g_iald (f := (A_13 0)) (k := 3) hx hb hK hP 1 0 rfl rfl (vp_in_lit rfl : vp_in (3 : Int32) 53) (by decide) dX7_whereBehind_21 ?_
  refine lv_topi (fun y22 ey22 => ?_)
  replace h := h y22 ey22
  refine lv_istore_n (lv' := [(2, .int y22), (0, .ref o), (1, .int x1)]) hx hb dX7_whereBehind_22 rfl hl (by decide) rfl (fun ls hl => ?_)
  refine lv_aload_n hx hb dX7_whereBehind_23 rfl (lv_at hl 1 rfl) ?_
  refine va_get (C := RX7) (T := TX7) (N := 28) (own := RX7) (v := .ref (q 2)) hx hb ht inlX7 hown hK hP 0 rfl rfl 2 (Nat.le_of_ble_eq_true rfl) (ht _ mw_5_9) (fun _ h9 => h9) rfl dX7_whereBehind_24 ?_
  refine lv_aload_n hx hb dX7_whereBehind_27 rfl (lv_at hl 1 rfl) ?_
  refine va_get (C := RX7) (T := TX7) (N := 28) (own := RX7) (v := .ref (q 0)) hx hb ht inlX7 hown hK hP 0 rfl rfl 0 (Nat.le_of_ble_eq_true rfl) (ht _ mw_5_7) (fun _ h9 => h9) rfl dX7_whereBehind_28 ?_
  refine C_sv (wr := [0, 2, 4, 5, 6, 7, 8, 9, 10, 11, 12, 13, 14, 15].filterMap (fun i => (wX7 cI cZ o q F_13 A_13 : va_W)[i]?)) X hP hD hS [.ref (q 2), .ref (q 0)] [] (w_X7_copyRow l D cI cZ cR adK adV _ (q 2) (q 0) 53 (A_13 2) 53 (A_13 0) _ h) cal_X7_copyRow mw_12_6 rfl [3, 1] [0, 2, 4, 5, 6, 7, 8, 9, 10, 11, 12, 13, 14, 15] [0, 15, 1, 14, 2, 3, 4, 5, 6, 7, 8, 9, 10, 11, 12, 13] (fun u => (wX7 cI cZ o q F_13 (va_up A_13 0 u) : va_W)) rfl rfl (fun _ => rfl) rfl ⟨rfl, rfl⟩ ⟨Nat.le_of_ble_eq_true rfl, Nat.le_of_ble_eq_true rfl⟩ hl.1 rfl (Nat.le_of_ble_eq_true rfl) ⟨Nat.zero_le _, Nat.zero_le _⟩ dX7_whereBehind_31 (fun u H locs h hP hD hS => ?_)
  obtain ⟨g0_31, rfl⟩ : ∃ z, z = u := ⟨_, rfl⟩
  try dsimp only at h
  have hP : va_P D vwCl (wX7 cI cZ o q F_13 (va_up A_13 0 g0_31) : va_W) H := hP
  have hD : va_D A9 (wX7 cI cZ o q F_13 (va_up A_13 0 g0_31) : va_W) := hD
  refine lv_iload_n hx hb dX7_whereBehind_34 rfl (lv_at hl 0 rfl) ?_
  exact ret _ (F_13, (va_up A_13 0 g0_31)) _ _ _ _ dX7_whereBehind_35 h hP hD hS
