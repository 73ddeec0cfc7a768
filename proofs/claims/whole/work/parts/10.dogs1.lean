/-! 10.dogs1: what the bytecode of these methods asks, and the walks (written by wip/gen/mk.py) -/
theorem dX6_isSheep_0 : decode cX6_isSheep 0 = .ok (.iload_n 1, 1) := by decide +kernel
theorem dX6_isSheep_1 : decode cX6_isSheep 1 = .ok (.aload_n 0, 1) := by decide +kernel
theorem dX6_isSheep_2 : decode cX6_isSheep 2 = .ok (.getfield 10, 3) := by decide +kernel
theorem dX6_isSheep_5 : decode cX6_isSheep 5 = .ok (.getfield 92, 3) := by decide +kernel
theorem dX6_isSheep_8 : decode cX6_isSheep 8 = .ok (.invokestatic 95, 3) := by decide +kernel
theorem dX6_isSheep_11 : decode cX6_isSheep 11 = .ok (.ireturn, 1) := by decide +kernel
def p_X6_isSheep (F : tF) (Fn : tF) (An : tA) (x1 : Int32) (K : Int32 → Prop) : Prop := (p_X6_within x1 (Fn 8) (fun r8 => (bo r8 ∧ (K r8))))
set_option maxHeartbeats 4000000 in
set_option maxRecDepth 100000 in
theorem w_X6_isSheep (l : Launch) (D : va_G) (cI cZ cR : ClassId) (adK adV : Nat → Nat) (sz : Nat) (o : Nat) (q : Nat → Nat) (qn : Nat → Nat) (F : tF) (Fn : tF) (An : tA) (x1 : Int32) (K : Int32 → Prop) (h : p_X6_isSheep F Fn An x1 K) : MI l D cI cZ cR adK adV yX6_isSheep cX6_isSheep 2 (some .boolean) (rmN 1 21) [.ref o, .int x1] (wX6 o q F ++ wX2 cI cZ (q 0) qn Fn An : va_W) sz (fun (r : Int32) (u : Unit) => K r) (fun (u : Unit) => (wX6 o q F ++ wX2 cI cZ (q 0) qn Fn An : va_W)) := by
  refine M_z (by decide +kernel) (Nat.le_of_ble_eq_true rfl) ?_
  intro p e s m args below meth c Q A9 ls X ret hP hD hS hl
  obtain ⟨hx, hb, hml, ht, hown, hK, hA, hE⟩ := id X
  have hl : lv_has ls 2 [(0, .ref o), (1, .int x1)] := hl
  unfold p_X6_isSheep at h
  refine lv_iload_n hx hb dX6_isSheep_0 rfl (lv_at hl 1 rfl) ?_
  refine lv_aload_n hx hb dX6_isSheep_1 rfl (lv_at hl 0 rfl) ?_
  refine va_get (C := RX6) (T := TX6) (N := 13) (own := RX6) (v := .ref (q 0)) hx hb ht inlX6 hown hK hP 0 rfl rfl 0 (Nat.le_of_ble_eq_true rfl) (ht _ mw_1_16) (fun _ h9 => h9) rfl dX6_isSheep_2 ?_
  refine va_get (C := RX2) (T := TX2) (N := 13) (own := RX6) (v := .int (Fn 8)) hx hb ht inlX2 hown hK hP 1 rfl rfl 8 (Nat.le_of_ble_eq_true rfl) (ht _ mw_7_2) (fun _ h9 => h9) rfl dX6_isSheep_5 ?_
  refine C_si (wr := [0, 1, 2, 3, 4, 5, 6, 7, 8, 9].filterMap (fun i => (wX6 o q F ++ wX2 cI cZ (q 0) qn Fn An : va_W)[i]?)) X hP hD hS [.int x1, .int (Fn 8)] [] (w_X6_within l D cI cZ cR adK adV _ x1 (Fn 8) _ h) cal_X6_within mw_15_9 rfl [] [0, 1, 2, 3, 4, 5, 6, 7, 8, 9] [0, 1, 2, 3, 4, 5, 6, 7, 8, 9] (fun u => (wX6 o q F ++ wX2 cI cZ (q 0) qn Fn An : va_W)) rfl rfl (fun _ => rfl) rfl ⟨rfl, rfl⟩ ⟨Nat.le_of_ble_eq_true rfl, Nat.le_of_ble_eq_true rfl⟩ hl.1 rfl (Nat.le_of_ble_eq_true rfl) ⟨Nat.zero_le _, Nat.zero_le _⟩ dX6_isSheep_8 (fun r8 u H locs h hP hD hS => ?_)
  obtain ⟨hz11, h⟩ := h
  exact ret _ () _ _ _ _ dX6_isSheep_11 hz11 h hP hD hS
theorem cal_X3_append : CalV yX3_append cX3_append 5 none 2 := ⟨mw_6_10, mw_1_22, mw_6_8, mw_6_9, ⟨by decide +kernel, by decide +kernel, by decide +kernel⟩⟩
theorem dX6_feed_0 : decode cX6_feed 0 = .ok (.iload_n 3, 1) := by decide +kernel
theorem dX6_feed_1 : decode cX6_feed 1 = .ok (.iconst 1, 1) := by decide +kernel
theorem dX6_feed_2 : decode cX6_feed 2 = .ok (.if_icmp .lt 9, 3) := by decide +kernel
theorem dX6_feed_5 : decode cX6_feed 5 = .ok (.iload_n 3, 1) := by decide +kernel
theorem dX6_feed_6 : decode cX6_feed 6 = .ok (.bipush 8, 2) := by decide +kernel
theorem dX6_feed_8 : decode cX6_feed 8 = .ok (.if_icmp .le 5, 3) := by decide +kernel
theorem dX6_feed_11 : decode cX6_feed 11 = .ok (.iconst (-1), 1) := by decide +kernel
theorem dX6_feed_12 : decode cX6_feed 12 = .ok (.ireturn, 1) := by decide +kernel
theorem dX6_feed_13 : decode cX6_feed 13 = .ok (.aload_n 0, 1) := by decide +kernel
theorem dX6_feed_14 : decode cX6_feed 14 = .ok (.getfield 29, 3) := by decide +kernel
theorem dX6_feed_17 : decode cX6_feed 17 = .ok (.getfield 74, 3) := by decide +kernel
theorem dX6_feed_20 : decode cX6_feed 20 = .ok (.iload_n 3, 1) := by decide +kernel
theorem dX6_feed_21 : decode cX6_feed 21 = .ok (.iadd, 1) := by decide +kernel
theorem dX6_feed_22 : decode cX6_feed 22 = .ok (.sipush 200, 3) := by decide +kernel
theorem dX6_feed_25 : decode cX6_feed 25 = .ok (.if_icmp .le 6, 3) := by decide +kernel
theorem dX6_feed_28 : decode cX6_feed 28 = .ok (.bipush (-2), 2) := by decide +kernel
theorem dX6_feed_30 : decode cX6_feed 30 = .ok (.ireturn, 1) := by decide +kernel
theorem dX6_feed_31 : decode cX6_feed 31 = .ok (.aload_n 0, 1) := by decide +kernel
theorem dX6_feed_32 : decode cX6_feed 32 = .ok (.getfield 29, 3) := by decide +kernel
theorem dX6_feed_35 : decode cX6_feed 35 = .ok (.lload_n 1, 1) := by decide +kernel
theorem dX6_feed_36 : decode cX6_feed 36 = .ok (.iload_n 3, 1) := by decide +kernel
theorem dX6_feed_37 : decode cX6_feed 37 = .ok (.invokevirtual 77, 3) := by decide +kernel
theorem dX6_feed_40 : decode cX6_feed 40 = .ok (.aload_n 0, 1) := by decide +kernel
theorem dX6_feed_41 : decode cX6_feed 41 = .ok (.getfield 29, 3) := by decide +kernel
theorem dX6_feed_44 : decode cX6_feed 44 = .ok (.getfield 74, 3) := by decide +kernel
theorem dX6_feed_47 : decode cX6_feed 47 = .ok (.ireturn, 1) := by decide +kernel
def p_X6_feed (F : tF) (Fp : tF) (Ap : tA) (x1 : Int64) (x3 : Int32) (K : Int32 → tF → tA → Prop) : Prop := ((x3 < (1 : Int32) → (K (-1 : Int32) Fp Ap)) ∧ (¬ x3 < (1 : Int32) → ((x3 ≤ (8 : Int32) → ((((Fp 1) + x3) ≤ (200 : Int32) → (p_X3_append Fp Ap x1 x3 (fun Fp_37 Ap_37 => (K (Fp_37 1) Fp_37 Ap_37)))) ∧ (¬ ((Fp 1) + x3) ≤ (200 : Int32) → (K (-2 : Int32) Fp Ap)))) ∧ (¬ x3 ≤ (8 : Int32) → (K (-1 : Int32) Fp Ap)))))
set_option maxHeartbeats 4000000 in
set_option maxRecDepth 100000 in
theorem w_X6_feed (l : Launch) (D : va_G) (cI cZ cR : ClassId) (adK adV : Nat → Nat) (sz : Nat) (o : Nat) (q : Nat → Nat) (qp : Nat → Nat) (F : tF) (Fp : tF) (Ap : tA) (x1 : Int64) (x3 : Int32) (K : Int32 → tF → tA → Prop) (h : p_X6_feed F Fp Ap x1 x3 K) : MI l D cI cZ cR adK adV yX6_feed cX6_feed 4 (some .int) (rmN 1 24) [.ref o, .long x1, .int x3] (wX6 o q F ++ wX3 cI cZ (q 4) qp Fp Ap : va_W) sz (fun (r : Int32) (u : (tF × tA)) => K r u.1 u.2) (fun (u : (tF × tA)) => (wX6 o q F ++ wX3 cI cZ (q 4) qp u.1 u.2 : va_W)) := by
  refine M_i (by decide +kernel) (Nat.le_of_ble_eq_true rfl) ?_
  intro p e s m args below meth c Q A9 ls X ret hP hD hS hl
  obtain ⟨hx, hb, hml, ht, hown, hK, hA, hE⟩ := id X
  have hl : lv_has ls 4 [(0, .ref o), (1, .long x1), (3, .int x3)] := hl
  unfold p_X6_feed at h
  refine lv_iload_n hx hb dX6_feed_0 rfl (lv_at hl 2 rfl) ?_
  refine lv_iconst (v := 1) hx hb dX6_feed_1 (by decide) ?_
  refine lv_icmp_lt (tgt := 11) hx hb dX6_feed_2 (by decide) (fun c2 => ?_) (fun c2 => ?_)
  · replace h := h.1 c2
    refine lv_iconst (v := -1) hx hb dX6_feed_11 (by decide) ?_
    exact ret _ (Fp, Ap) _ _ _ _ dX6_feed_12 h hP hD hS
  · replace h := h.2 c2
    refine lv_iload_n hx hb dX6_feed_5 rfl (lv_at hl 2 rfl) ?_
    refine lv_bipush (v := 8) hx hb dX6_feed_6 (by decide) ?_
    refine lv_icmp_le (tgt := 13) hx hb dX6_feed_8 (by decide) (fun c8 => ?_) (fun c8 => ?_)
    · replace h := h.1 c8
      refine lv_aload_n hx hb dX6_feed_13 rfl (lv_at hl 0 rfl) ?_
      refine va_get (C := RX6) (T := TX6) (N := 13) (own := RX6) (v := .ref (q 4)) hx hb ht inlX6 hown hK hP 0 rfl rfl 4 (Nat.le_of_ble_eq_true rfl) (ht _ mw_1_23) (fun _ h9 => h9) rfl dX6_feed_14 ?_
      refine va_get (C := RX3) (T := TX3) (N := 4) (own := RX6) (v := .int (Fp 1)) hx hb ht inlX3 hown hK hP 1 rfl rfl 1 (Nat.le_of_ble_eq_true rfl) (ht _ mw_6_6) (fun _ h9 => h9) rfl dX6_feed_17 ?_
      refine lv_iload_n hx hb dX6_feed_20 rfl (lv_at hl 2 rfl) ?_
      refine lv_iadd hx hb dX6_feed_21 ?_
      refine lv_sipush (v := 200) hx hb dX6_feed_22 (by decide) ?_
      refine lv_icmp_le (tgt := 31) hx hb dX6_feed_25 (by decide) (fun c25 => ?_) (fun c25 => ?_)
      · replace h := h.1 c25
        refine lv_aload_n hx hb dX6_feed_31 rfl (lv_at hl 0 rfl) ?_
        refine va_get (C := RX6) (T := TX6) (N := 13) (own := RX6) (v := .ref (q 4)) hx hb ht inlX6 hown hK hP 0 rfl rfl 4 (Nat.le_of_ble_eq_true rfl) (ht _ mw_1_23) (fun _ h9 => h9) rfl dX6_feed_32 ?_
        refine lv_lload_n hx hb dX6_feed_35 rfl (lv_at hl 1 rfl) ?_
        refine lv_iload_n hx hb dX6_feed_36 rfl (lv_at hl 2 rfl) ?_
        refine C_vv (wr := [0].filterMap (fun i => (wX6 o q F ++ wX3 cI cZ (q 4) qp Fp Ap : va_W)[i]?)) X hP hD hS [.long x1, .int x3] [] (w_X3_append l D cI cZ cR adK adV _ (q 4) qp Fp Ap x1 x3 _ h) cal_X3_append mw_6_7 rfl [1, 2] [0] [0, 1, 2] (fun u => (wX6 o q F ++ wX3 cI cZ (q 4) qp u.1 u.2 : va_W)) rfl rfl (fun _ => rfl) rfl 1 rfl rfl ⟨rfl, rfl⟩ ⟨Nat.le_of_ble_eq_true rfl, Nat.le_of_ble_eq_true rfl⟩ hl.1 rfl (Nat.le_of_ble_eq_true rfl) ⟨Nat.zero_le _, Nat.zero_le _⟩ dX6_feed_37 (fun u H locs h hP hD hS => ?_)
        obtain ⟨Fp_37, Ap_37⟩ := u
        try dsimp only at h
        have hP : va_P D vwCl (wX6 o q F ++ wX3 cI cZ (q 4) qp Fp_37 Ap_37 : va_W) H := hP
        have hD : va_D A9 (wX6 o q F ++ wX3 cI cZ (q 4) qp Fp_37 Ap_37 : va_W) := hD
        refine lv_aload_n hx hb dX6_feed_40 rfl (lv_at hl 0 rfl) ?_
        refine va_get (C := RX6) (T := TX6) (N := 13) (own := RX6) (v := .ref (q 4)) hx hb ht inlX6 hown hK hP 0 rfl rfl 4 (Nat.le_of_ble_eq_true rfl) (ht _ mw_1_23) (fun _ h9 => h9) rfl dX6_feed_41 ?_
        refine va_get (C := RX3) (T := TX3) (N := 4) (own := RX6) (v := .int (Fp_37 1)) hx hb ht inlX3 hown hK hP 1 rfl rfl 1 (Nat.le_of_ble_eq_true rfl) (ht _ mw_6_6) (fun _ h9 => h9) rfl dX6_feed_44 ?_
        exact ret _ (Fp_37, Ap_37) _ _ _ _ dX6_feed_47 h hP hD hS
      · replace h := h.2 c25
        refine lv_bipush (v := -2) hx hb dX6_feed_28 (by decide) ?_
        exact ret _ (Fp, Ap) _ _ _ _ dX6_feed_30 h hP hD hS
    · replace h := h.2 c8
      refine lv_iconst (v := -1) hx hb dX6_feed_11 (by decide) ?_
      exact ret _ (Fp, Ap) _ _ _ _ dX6_feed_12 h hP hD hS
theorem dX6_set_0 : decode cX6_set 0 = .ok (.iload_n 1, 1) := by decide +kernel
theorem dX6_set_1 : decode cX6_set 1 = .ok (.iconst 4, 1) := by decide +kernel
theorem dX6_set_2 : decode cX6_set 2 = .ok (.invokestatic 95, 3) := by decide +kernel
theorem dX6_set_5 : decode cX6_set 5 = .ok (.ifCond .eq 15, 3) := by decide +kernel
theorem dX6_set_8 : decode cX6_set 8 = .ok (.iload_n 2, 1) := by decide +kernel
theorem dX6_set_9 : decode cX6_set 9 = .ok (.ifCond .lt 11, 3) := by decide +kernel
theorem dX6_set_12 : decode cX6_set 12 = .ok (.iload_n 2, 1) := by decide +kernel
theorem dX6_set_13 : decode cX6_set 13 = .ok (.iload_n 1, 1) := by decide +kernel
theorem dX6_set_14 : decode cX6_set 14 = .ok (.invokestatic 99, 3) := by decide +kernel
theorem dX6_set_17 : decode cX6_set 17 = .ok (.if_icmp .le 5, 3) := by decide +kernel
theorem dX6_set_20 : decode cX6_set 20 = .ok (.iconst (-1), 1) := by decide +kernel
theorem dX6_set_21 : decode cX6_set 21 = .ok (.ireturn, 1) := by decide +kernel
theorem dX6_set_22 : decode cX6_set 22 = .ok (.aload_n 0, 1) := by decide +kernel
theorem dX6_set_23 : decode cX6_set 23 = .ok (.getfield 10, 3) := by decide +kernel
theorem dX6_set_26 : decode cX6_set 26 = .ok (.getfield 103, 3) := by decide +kernel
theorem dX6_set_29 : decode cX6_set 29 = .ok (.iload_n 1, 1) := by decide +kernel
theorem dX6_set_30 : decode cX6_set 30 = .ok (.iaload, 1) := by decide +kernel
theorem dX6_set_31 : decode cX6_set 31 = .ok (.istore_n 3, 1) := by decide +kernel
theorem dX6_set_32 : decode cX6_set 32 = .ok (.aload_n 0, 1) := by decide +kernel
theorem dX6_set_33 : decode cX6_set 33 = .ok (.getfield 10, 3) := by decide +kernel
theorem dX6_set_36 : decode cX6_set 36 = .ok (.getfield 103, 3) := by decide +kernel
theorem dX6_set_39 : decode cX6_set 39 = .ok (.iload_n 1, 1) := by decide +kernel
theorem dX6_set_40 : decode cX6_set 40 = .ok (.iload_n 2, 1) := by decide +kernel
theorem dX6_set_41 : decode cX6_set 41 = .ok (.iastore, 1) := by decide +kernel
theorem dX6_set_42 : decode cX6_set 42 = .ok (.iload_n 3, 1) := by decide +kernel
theorem dX6_set_43 : decode cX6_set 43 = .ok (.ireturn, 1) := by decide +kernel
def p_X6_set (F : tF) (Fn : tF) (An : tA) (x1 : Int32) (x2 : Int32) (K : Int32 → tF → tA → Prop) : Prop := (p_X6_within x1 (4 : Int32) (fun r2 => ((r2 = 0 → (K (-1 : Int32) Fn An)) ∧ (¬ r2 = 0 → ((x2 < 0 → (K (-1 : Int32) Fn An)) ∧ (¬ x2 < 0 → (p_X6_mostOfLaw x1 (fun r14 => ((x2 ≤ r14 → (vp_in x1 4 ∧ (∀ y31 : Int32, y31 = ((An 0) (x1).toNatClampNeg) → (vp_in x1 4 ∧ (∀ f_41 : tF, f_41 = (upd (An 0) (x1).toNatClampNeg x2) → (K y31 Fn (va_up An 0 f_41))))))) ∧ (¬ x2 ≤ r14 → (K (-1 : Int32) Fn An)))))))))))
set_option maxHeartbeats 4000000 in
set_option maxRecDepth 100000 in
theorem w_X6_set (l : Launch) (D : va_G) (cI cZ cR : ClassId) (adK adV : Nat → Nat) (sz : Nat) (o : Nat) (q : Nat → Nat) (qn : Nat → Nat) (F : tF) (Fn : tF) (An : tA) (x1 : Int32) (x2 : Int32) (K : Int32 → tF → tA → Prop) (h : p_X6_set F Fn An x1 x2 K) : MI l D cI cZ cR adK adV yX6_set cX6_set 4 (some .int) (rmN 1 21) [.ref o, .int x1, .int x2] (wX6 o q F ++ wX2 cI cZ (q 0) qn Fn An : va_W) sz (fun (r : Int32) (u : (tF × tA)) => K r u.1 u.2) (fun (u : (tF × tA)) => (wX6 o q F ++ wX2 cI cZ (q 0) qn u.1 u.2 : va_W)) := by
  refine M_i (by decide +kernel) (Nat.le_of_ble_eq_true rfl) ?_
  intro p e s m args below meth c Q A9 ls X ret hP hD hS hl
  obtain ⟨hx, hb, hml, ht, hown, hK, hA, hE⟩ := id X
  have hl : lv_has ls 4 [(0, .ref o), (1, .int x1), (2, .int x2)] := hl
  unfold p_X6_set at h
  refine lv_iload_n hx hb dX6_set_0 rfl (lv_at hl 1 rfl) ?_
  refine lv_iconst (v := 4) hx hb dX6_set_1 (by decide) ?_
  refine C_si (wr := [0, 1, 2, 3, 4, 5, 6, 7, 8, 9].filterMap (fun i => (wX6 o q F ++ wX2 cI cZ (q 0) qn Fn An : va_W)[i]?)) X hP hD hS [.int x1, .int (4 : Int32)] [] (w_X6_within l D cI cZ cR adK adV _ x1 (4 : Int32) _ h) cal_X6_within mw_15_9 rfl [] [0, 1, 2, 3, 4, 5, 6, 7, 8, 9] [0, 1, 2, 3, 4, 5, 6, 7, 8, 9] (fun u => (wX6 o q F ++ wX2 cI cZ (q 0) qn Fn An : va_W)) rfl rfl (fun _ => rfl) rfl ⟨rfl, rfl⟩ ⟨Nat.le_of_ble_eq_true rfl, Nat.le_of_ble_eq_true rfl⟩ hl.1 rfl (Nat.le_of_ble_eq_true rfl) ⟨Nat.zero_le _, Nat.zero_le _⟩ dX6_set_2 (fun r2 u H locs h hP hD hS => ?_)
  refine lv_if_eq (tgt := 20) hx hb dX6_set_5 (by decide) (fun c5 => ?_) (fun c5 => ?_)
  · replace h := h.1 c5
    refine lv_iconst (v := -1) hx hb dX6_set_20 (by decide) ?_
    exact ret _ (Fn, An) _ _ _ _ dX6_set_21 h hP hD hS
  · replace h := h.2 c5
    refine lv_iload_n hx hb dX6_set_8 rfl (lv_at hl 2 rfl) ?_
    refine lv_if_lt (tgt := 20) hx hb dX6_set_9 (by decide) (fun c9 => ?_) (fun c9 => ?_)
    · replace h := h.1 c9
      refine lv_iconst (v := -1) hx hb dX6_set_20 (by decide) ?_
      exact ret _ (Fn, An) _ _ _ _ dX6_set_21 h hP hD hS
    · replace h := h.2 c9
      refine lv_iload_n hx hb dX6_set_12 rfl (lv_at hl 2 rfl) ?_
      refine lv_iload_n hx hb dX6_set_13 rfl (lv_at hl 1 rfl) ?_
      refine C_si (wr := [0, 1, 2, 3, 4, 5, 6, 7, 8, 9].filterMap (fun i => (wX6 o q F ++ wX2 cI cZ (q 0) qn Fn An : va_W)[i]?)) X hP hD hS [.int x1] [.int x2] (w_X6_mostOfLaw l D cI cZ cR adK adV _ x1 _ h) cal_X6_mostOfLaw mw_15_12 rfl [] [0, 1, 2, 3, 4, 5, 6, 7, 8, 9] [0, 1, 2, 3, 4, 5, 6, 7, 8, 9] (fun u => (wX6 o q F ++ wX2 cI cZ (q 0) qn Fn An : va_W)) rfl rfl (fun _ => rfl) rfl ⟨rfl, rfl⟩ ⟨Nat.le_of_ble_eq_true rfl, Nat.le_of_ble_eq_true rfl⟩ hl.1 rfl (Nat.le_of_ble_eq_true rfl) ⟨Nat.zero_le _, Nat.zero_le _⟩ dX6_set_14 (fun r14 u H locs h hP hD hS => ?_)
      refine lv_icmp_le (tgt := 22) hx hb dX6_set_17 (by decide) (fun c17 => ?_) (fun c17 => ?_)
      · replace h := h.1 c17
        refine lv_aload_n hx hb dX6_set_22 rfl (lv_at hl 0 rfl) ?_
        refine va_get (C := RX6) (T := TX6) (N := 13) (own := RX6) (v := .ref (q 0)) hx hb ht inlX6 hown hK hP 0 rfl rfl 0 (Nat.le_of_ble_eq_true rfl) (ht _ mw_1_16) (fun _ h9 => h9) rfl dX6_set_23 ?_
        refine va_get (C := RX2) (T := TX2) (N := 13) (own := RX6) (v := .ref (qn 0)) hx hb ht inlX2 hown hK hP 1 rfl rfl 0 (Nat.le_of_ble_eq_true rfl) (ht _ mw_15_8) (fun _ h9 => h9) rfl dX6_set_26 ?_
        refine lv_iload_n hx hb dX6_set_29 rfl (lv_at hl 1 rfl) ?_
        obtain ⟨hi30, h⟩ := h
        refine g_iald (f := (An 0)) (k := (x1).toNatClampNeg) hx hb hK hP 2 0 rfl rfl hi30 rfl dX6_set_30 ?_
        refine lv_topi (fun y31 ey31 => ?_)
        replace h := h y31 ey31
        refine lv_istore_n (lv' := [(3, .int y31), (0, .ref o), (1, .int x1), (2, .int x2)]) hx hb dX6_set_31 rfl hl (by decide) rfl (fun ls hl => ?_)
        refine lv_aload_n hx hb dX6_set_32 rfl (lv_at hl 1 rfl) ?_
        refine va_get (C := RX6) (T := TX6) (N := 13) (own := RX6) (v := .ref (q 0)) hx hb ht inlX6 hown hK hP 0 rfl rfl 0 (Nat.le_of_ble_eq_true rfl) (ht _ mw_1_16) (fun _ h9 => h9) rfl dX6_set_33 ?_
        refine va_get (C := RX2) (T := TX2) (N := 13) (own := RX6) (v := .ref (qn 0)) hx hb ht inlX2 hown hK hP 1 rfl rfl 0 (Nat.le_of_ble_eq_true rfl) (ht _ mw_15_8) (fun _ h9 => h9) rfl dX6_set_36 ?_
        refine lv_iload_n hx hb dX6_set_39 rfl (lv_at hl 2 rfl) ?_
        refine lv_iload_n hx hb dX6_set_40 rfl (lv_at hl 3 rfl) ?_
        obtain ⟨hi41, h⟩ := h
        obtain ⟨f_41, ef_41⟩ : ∃ z : tF, z = (upd (An 0) (x1).toNatClampNeg x2) := ⟨_, rfl⟩
        replace h := h f_41 ef_41
        refine g_iast (f := (An 0)) (k := (x1).toNatClampNeg) hx hb hK hP hD hS 2 0 rfl rfl hi41 rfl ef_41 dX6_set_41 (fun H locs hP hD hS => ?_)
        have hP : va_P D vwCl (wX6 o q F ++ wX2 cI cZ (q 0) qn Fn (va_up An 0 f_41) : va_W) H := hP
        have hD : va_D A9 (wX6 o q F ++ wX2 cI cZ (q 0) qn Fn (va_up An 0 f_41) : va_W) := hD
        refine lv_iload_n hx hb dX6_set_42 rfl (lv_at hl 0 rfl) ?_
        exact ret _ (Fn, (va_up An 0 f_41)) _ _ _ _ dX6_set_43 h hP hD hS
      · replace h := h.2 c17
        refine lv_iconst (v := -1) hx hb dX6_set_20 (by decide) ?_
        exact ret _ (Fn, An) _ _ _ _ dX6_set_21 h hP hD hS
theorem dX6_lawOf_0 : decode cX6_lawOf 0 = .ok (.iload_n 1, 1) := by decide +kernel
theorem dX6_lawOf_1 : decode cX6_lawOf 1 = .ok (.iconst 4, 1) := by decide +kernel
theorem dX6_lawOf_2 : decode cX6_lawOf 2 = .ok (.invokestatic 95, 3) := by decide +kernel
theorem dX6_lawOf_5 : decode cX6_lawOf 5 = .ok (.ifCond .eq 15, 3) := by decide +kernel
theorem dX6_lawOf_8 : decode cX6_lawOf 8 = .ok (.aload_n 0, 1) := by decide +kernel
theorem dX6_lawOf_9 : decode cX6_lawOf 9 = .ok (.getfield 10, 3) := by decide +kernel
theorem dX6_lawOf_12 : decode cX6_lawOf 12 = .ok (.getfield 103, 3) := by decide +kernel
theorem dX6_lawOf_15 : decode cX6_lawOf 15 = .ok (.iload_n 1, 1) := by decide +kernel
theorem dX6_lawOf_16 : decode cX6_lawOf 16 = .ok (.iaload, 1) := by decide +kernel
theorem dX6_lawOf_17 : decode cX6_lawOf 17 = .ok (.goto 4, 3) := by decide +kernel
theorem dX6_lawOf_20 : decode cX6_lawOf 20 = .ok (.iconst (-1), 1) := by decide +kernel
theorem dX6_lawOf_21 : decode cX6_lawOf 21 = .ok (.ireturn, 1) := by decide +kernel
def p_X6_lawOf (F : tF) (Fn : tF) (An : tA) (x1 : Int32) (K : Int32 → Prop) : Prop := (p_X6_within x1 (4 : Int32) (fun r2 => ((r2 = 0 → (K (-1 : Int32))) ∧ (¬ r2 = 0 → (vp_in x1 4 ∧ (K ((An 0) (x1).toNatClampNeg)))))))
set_option maxHeartbeats 4000000 in
set_option maxRecDepth 100000 in
theorem w_X6_lawOf (l : Launch) (D : va_G) (cI cZ cR : ClassId) (adK adV : Nat → Nat) (sz : Nat) (o : Nat) (q : Nat → Nat) (qn : Nat → Nat) (F : tF) (Fn : tF) (An : tA) (x1 : Int32) (K : Int32 → Prop) (h : p_X6_lawOf F Fn An x1 K) : MI l D cI cZ cR adK adV yX6_lawOf cX6_lawOf 2 (some .int) (rmN 1 21) [.ref o, .int x1] (wX6 o q F ++ wX2 cI cZ (q 0) qn Fn An : va_W) sz (fun (r : Int32) (u : Unit) => K r) (fun (u : Unit) => (wX6 o q F ++ wX2 cI cZ (q 0) qn Fn An : va_W)) := by
  refine M_i (by decide +kernel) (Nat.le_of_ble_eq_true rfl) ?_
  intro p e s m args below meth c Q A9 ls X ret hP hD hS hl
  obtain ⟨hx, hb, hml, ht, hown, hK, hA, hE⟩ := id X
  have hl : lv_has ls 2 [(0, .ref o), (1, .int x1)] := hl
  unfold p_X6_lawOf at h
  refine lv_iload_n hx hb dX6_lawOf_0 rfl (lv_at hl 1 rfl) ?_
  refine lv_iconst (v := 4) hx hb dX6_lawOf_1 (by decide) ?_
  refine C_si (wr := [0, 1, 2, 3, 4, 5, 6, 7, 8, 9].filterMap (fun i => (wX6 o q F ++ wX2 cI cZ (q 0) qn Fn An : va_W)[i]?)) X hP hD hS [.int x1, .int (4 : Int32)] [] (w_X6_within l D cI cZ cR adK adV _ x1 (4 : Int32) _ h) cal_X6_within mw_15_9 rfl [] [0, 1, 2, 3, 4, 5, 6, 7, 8, 9] [0, 1, 2, 3, 4, 5, 6, 7, 8, 9] (fun u => (wX6 o q F ++ wX2 cI cZ (q 0) qn Fn An : va_W)) rfl rfl (fun _ => rfl) rfl ⟨rfl, rfl⟩ ⟨Nat.le_of_ble_eq_true rfl, Nat.le_of_ble_eq_true rfl⟩ hl.1 rfl (Nat.le_of_ble_eq_true rfl) ⟨Nat.zero_le _, Nat.zero_le _⟩ dX6_lawOf_2 (fun r2 u H locs h hP hD hS => ?_)
  refine lv_if_eq (tgt := 20) hx hb dX6_lawOf_5 (by decide) (fun c5 => ?_) (fun c5 => ?_)
  · replace h := h.1 c5
    refine lv_iconst (v := -1) hx hb dX6_lawOf_20 (by decide) ?_
    exact ret _ () _ _ _ _ dX6_lawOf_21 h hP hD hS
  · replace h := h.2 c5
    refine lv_aload_n hx hb dX6_lawOf_8 rfl (lv_at hl 0 rfl) ?_
    refine va_get (C := RX6) (T := TX6) (N := 13) (own := RX6) (v := .ref (q 0)) hx hb ht inlX6 hown hK hP 0 rfl rfl 0 (Nat.le_of_ble_eq_true rfl) (ht _ mw_1_16) (fun _ h9 => h9) rfl dX6_lawOf_9 ?_
    refine va_get (C := RX2) (T := TX2) (N := 13) (own := RX6) (v := .ref (qn 0)) hx hb ht inlX2 hown hK hP 1 rfl rfl 0 (Nat.le_of_ble_eq_true rfl) (ht _ mw_15_8) (fun _ h9 => h9) rfl dX6_lawOf_12 ?_
    refine lv_iload_n hx hb dX6_lawOf_15 rfl (lv_at hl 1 rfl) ?_
    obtain ⟨hi16, h⟩ := h
    refine g_iald (f := (An 0)) (k := (x1).toNatClampNeg) hx hb hK hP 2 0 rfl rfl hi16 rfl dX6_lawOf_16 ?_
    refine lv_goto (tgt := 21) hx hb dX6_lawOf_17 (by decide) ?_
    exact ret _ () _ _ _ _ dX6_lawOf_21 h hP hD hS
theorem cal_X6_isFigure : CalS yX6_isFigure cX6_isFigure 1 (some .boolean) 1 := ⟨mw_16_14, mw_1_2, mw_16_13, ⟨by decide +kernel, by decide +kernel, by decide +kernel⟩⟩
theorem dX6_sheep_0 : decode cX6_sheep 0 = .ok (.iload_n 1, 1) := by decide +kernel
theorem dX6_sheep_1 : decode cX6_sheep 1 = .ok (.bipush 6, 2) := by decide +kernel
theorem dX6_sheep_3 : decode cX6_sheep 3 = .ok (.invokestatic 95, 3) := by decide +kernel
theorem dX6_sheep_6 : decode cX6_sheep 6 = .ok (.ifCond .eq 27, 3) := by decide +kernel
theorem dX6_sheep_9 : decode cX6_sheep 9 = .ok (.iload_n 2, 1) := by decide +kernel
theorem dX6_sheep_10 : decode cX6_sheep 10 = .ok (.invokestatic 106, 3) := by decide +kernel
theorem dX6_sheep_13 : decode cX6_sheep 13 = .ok (.ifCond .eq 20, 3) := by decide +kernel
theorem dX6_sheep_16 : decode cX6_sheep 16 = .ok (.iload_n 3, 1) := by decide +kernel
theorem dX6_sheep_17 : decode cX6_sheep 17 = .ok (.invokestatic 106, 3) := by decide +kernel
theorem dX6_sheep_20 : decode cX6_sheep 20 = .ok (.ifCond .eq 13, 3) := by decide +kernel
theorem dX6_sheep_23 : decode cX6_sheep 23 = .ok (.iload 4, 2) := by decide +kernel
theorem dX6_sheep_25 : decode cX6_sheep 25 = .ok (.bipush 6, 2) := by decide +kernel
theorem dX6_sheep_27 : decode cX6_sheep 27 = .ok (.invokestatic 95, 3) := by decide +kernel
theorem dX6_sheep_30 : decode cX6_sheep 30 = .ok (.ifCond .ne 5, 3) := by decide +kernel
theorem dX6_sheep_33 : decode cX6_sheep 33 = .ok (.iconst (-1), 1) := by decide +kernel
theorem dX6_sheep_34 : decode cX6_sheep 34 = .ok (.ireturn, 1) := by decide +kernel
theorem dX6_sheep_35 : decode cX6_sheep 35 = .ok (.aload_n 0, 1) := by decide +kernel
theorem dX6_sheep_36 : decode cX6_sheep 36 = .ok (.getfield 10, 3) := by decide +kernel
theorem dX6_sheep_39 : decode cX6_sheep 39 = .ok (.getfield 92, 3) := by decide +kernel
theorem dX6_sheep_42 : decode cX6_sheep 42 = .ok (.bipush 8, 2) := by decide +kernel
theorem dX6_sheep_44 : decode cX6_sheep 44 = .ok (.if_icmp .lt 6, 3) := by decide +kernel
theorem dX6_sheep_47 : decode cX6_sheep 47 = .ok (.bipush (-2), 2) := by decide +kernel
theorem dX6_sheep_49 : decode cX6_sheep 49 = .ok (.ireturn, 1) := by decide +kernel
theorem dX6_sheep_50 : decode cX6_sheep 50 = .ok (.aload_n 0, 1) := by decide +kernel
theorem dX6_sheep_51 : decode cX6_sheep 51 = .ok (.getfield 10, 3) := by decide +kernel
theorem dX6_sheep_54 : decode cX6_sheep 54 = .ok (.iload_n 1, 1) := by decide +kernel
theorem dX6_sheep_55 : decode cX6_sheep 55 = .ok (.iload_n 2, 1) := by decide +kernel
theorem dX6_sheep_56 : decode cX6_sheep 56 = .ok (.iload_n 3, 1) := by decide +kernel
theorem dX6_sheep_57 : decode cX6_sheep 57 = .ok (.iload 4, 2) := by decide +kernel
theorem dX6_sheep_59 : decode cX6_sheep 59 = .ok (.invokevirtual 110, 3) := by decide +kernel
theorem dX6_sheep_62 : decode cX6_sheep 62 = .ok (.aload_n 0, 1) := by decide +kernel
theorem dX6_sheep_63 : decode cX6_sheep 63 = .ok (.getfield 10, 3) := by decide +kernel
theorem dX6_sheep_66 : decode cX6_sheep 66 = .ok (.getfield 92, 3) := by decide +kernel
theorem dX6_sheep_69 : decode cX6_sheep 69 = .ok (.iconst 1, 1) := by decide +kernel
theorem dX6_sheep_70 : decode cX6_sheep 70 = .ok (.isub, 1) := by decide +kernel
theorem dX6_sheep_71 : decode cX6_sheep 71 = .ok (.ireturn, 1) := by decide +kernel
def p_X6_sheep (F : tF) (Fn : tF) (An : tA) (x1 : Int32) (x2 : Int32) (x3 : Int32) (x4 : Int32) (K : Int32 → tF → tA → Prop) : Prop := (p_X6_within x1 (6 : Int32) (fun r3 => ((r3 = 0 → (K (-1 : Int32) Fn An)) ∧ (¬ r3 = 0 → (p_X6_isFigure x2 (fun r10 => ((r10 = 0 → (K (-1 : Int32) Fn An)) ∧ (¬ r10 = 0 → (p_X6_isFigure x3 (fun r17 => ((r17 = 0 → (K (-1 : Int32) Fn An)) ∧ (¬ r17 = 0 → (p_X6_within x4 (6 : Int32) (fun r27 => ((¬ r27 = 0 → (((Fn 8) < (8 : Int32) → (p_X2_add Fn An x1 x2 x3 x4 (fun Fn_59 An_59 => (K ((Fn_59 8) - (1 : Int32)) Fn_59 An_59)))) ∧ (¬ (Fn 8) < (8 : Int32) → (K (-2 : Int32) Fn An)))) ∧ (r27 = 0 → (K (-1 : Int32) Fn An)))))))))))))))))
set_option maxHeartbeats 4000000 in
set_option maxRecDepth 100000 in
theorem w_X6_sheep (l : Launch) (D : va_G) (cI cZ cR : ClassId) (adK adV : Nat → Nat) (sz : Nat) (o : Nat) (q : Nat → Nat) (qn : Nat → Nat) (F : tF) (Fn : tF) (An : tA) (x1 : Int32) (x2 : Int32) (x3 : Int32) (x4 : Int32) (K : Int32 → tF → tA → Prop) (h : p_X6_sheep F Fn An x1 x2 x3 x4 K) : MI l D cI cZ cR adK adV yX6_sheep cX6_sheep 5 (some .int) (rmN 2 41) [.ref o, .int x1, .int x2, .int x3, .int x4] (wX6 o q F ++ wX2 cI cZ (q 0) qn Fn An : va_W) sz (fun (r : Int32) (u : (tF × tA)) => K r u.1 u.2) (fun (u : (tF × tA)) => (wX6 o q F ++ wX2 cI cZ (q 0) qn u.1 u.2 : va_W)) := by
  refine M_i (by decide +kernel) (Nat.le_of_ble_eq_true rfl) ?_
  intro p e s m args below meth c Q A9 ls X ret hP hD hS hl
  obtain ⟨hx, hb, hml, ht, hown, hK, hA, hE⟩ := id X
  have hl : lv_has ls 5 [(0, .ref o), (1, .int x1), (2, .int x2), (3, .int x3), (4, .int x4)] := hl
  unfold p_X6_sheep at h
  refine lv_iload_n hx hb dX6_sheep_0 rfl (lv_at hl 1 rfl) ?_
  refine lv_bipush (v := 6) hx hb dX6_sheep_1 (by decide) ?_
  refine C_si (wr := [0, 1, 2, 3, 4, 5, 6, 7, 8, 9].filterMap (fun i => (wX6 o q F ++ wX2 cI cZ (q 0) qn Fn An : va_W)[i]?)) X hP hD hS [.int x1, .int (6 : Int32)] [] (w_X6_within l D cI cZ cR adK adV _ x1 (6 : Int32) _ h) cal_X6_within mw_15_9 rfl [] [0, 1, 2, 3, 4, 5, 6, 7, 8, 9] [0, 1, 2, 3, 4, 5, 6, 7, 8, 9] (fun u => (wX6 o q F ++ wX2 cI cZ (q 0) qn Fn An : va_W)) rfl rfl (fun _ => rfl) rfl ⟨rfl, rfl⟩ ⟨Nat.le_of_ble_eq_true rfl, Nat.le_of_ble_eq_true rfl⟩ hl.1 rfl (Nat.le_of_ble_eq_true rfl) ⟨Nat.zero_le _, Nat.zero_le _⟩ dX6_sheep_3 (fun r3 u H locs h hP hD hS => ?_)
  refine lv_if_eq (tgt := 33) hx hb dX6_sheep_6 (by decide) (fun c6 => ?_) (fun c6 => ?_)
  · replace h := h.1 c6
    refine lv_iconst (v := -1) hx hb dX6_sheep_33 (by decide) ?_
    exact ret _ (Fn, An) _ _ _ _ dX6_sheep_34 h hP hD hS
  · replace h := h.2 c6
    refine lv_iload_n hx hb dX6_sheep_9 rfl (lv_at hl 2 rfl) ?_
    refine C_si (wr := [0, 1, 2, 3, 4, 5, 6, 7, 8, 9].filterMap (fun i => (wX6 o q F ++ wX2 cI cZ (q 0) qn Fn An : va_W)[i]?)) X hP hD hS [.int x2] [] (w_X6_isFigure l D cI cZ cR adK adV _ x2 _ h) cal_X6_isFigure mw_16_12 rfl [] [0, 1, 2, 3, 4, 5, 6, 7, 8, 9] [0, 1, 2, 3, 4, 5, 6, 7, 8, 9] (fun u => (wX6 o q F ++ wX2 cI cZ (q 0) qn Fn An : va_W)) rfl rfl (fun _ => rfl) rfl ⟨rfl, rfl⟩ ⟨Nat.le_of_ble_eq_true rfl, Nat.le_of_ble_eq_true rfl⟩ hl.1 rfl (Nat.le_of_ble_eq_true rfl) ⟨Nat.zero_le _, Nat.zero_le _⟩ dX6_sheep_10 (fun r10 u H locs h hP hD hS => ?_)
    refine lv_if_eq (tgt := 33) hx hb dX6_sheep_13 (by decide) (fun c13 => ?_) (fun c13 => ?_)
    · replace h := h.1 c13
      refine lv_iconst (v := -1) hx hb dX6_sheep_33 (by decide) ?_
      exact ret _ (Fn, An) _ _ _ _ dX6_sheep_34 h hP hD hS
    · replace h := h.2 c13
      refine lv_iload_n hx hb dX6_sheep_16 rfl (lv_at hl 3 rfl) ?_
      refine C_si (wr := [0, 1, 2, 3, 4, 5, 6, 7, 8, 9].filterMap (fun i => (wX6 o q F ++ wX2 cI cZ (q 0) qn Fn An : va_W)[i]?)) X hP hD hS [.int x3] [] (w_X6_isFigure l D cI cZ cR adK adV _ x3 _ h) cal_X6_isFigure mw_16_12 rfl [] [0, 1, 2, 3, 4, 5, 6, 7, 8, 9] [0, 1, 2, 3, 4, 5, 6, 7, 8, 9] (fun u => (wX6 o q F ++ wX2 cI cZ (q 0) qn Fn An : va_W)) rfl rfl (fun _ => rfl) rfl ⟨rfl, rfl⟩ ⟨Nat.le_of_ble_eq_true rfl, Nat.le_of_ble_eq_true rfl⟩ hl.1 rfl (Nat.le_of_ble_eq_true rfl) ⟨Nat.zero_le _, Nat.zero_le _⟩ dX6_sheep_17 (fun r17 u H locs h hP hD hS => ?_)
      refine lv_if_eq (tgt := 33) hx hb dX6_sheep_20 (by decide) (fun c20 => ?_) (fun c20 => ?_)
      · replace h := h.1 c20
        refine lv_iconst (v := -1) hx hb dX6_sheep_33 (by decide) ?_
        exact ret _ (Fn, An) _ _ _ _ dX6_sheep_34 h hP hD hS
      · replace h := h.2 c20
        refine lv_iload hx hb dX6_sheep_23 (lv_at hl 4 rfl) ?_
        refine lv_bipush (v := 6) hx hb dX6_sheep_25 (by decide) ?_
        refine C_si (wr := [0, 1, 2, 3, 4, 5, 6, 7, 8, 9].filterMap (fun i => (wX6 o q F ++ wX2 cI cZ (q 0) qn Fn An : va_W)[i]?)) X hP hD hS [.int x4, .int (6 : Int32)] [] (w_X6_within l D cI cZ cR adK adV _ x4 (6 : Int32) _ h) cal_X6_within mw_15_9 rfl [] [0, 1, 2, 3, 4, 5, 6, 7, 8, 9] [0, 1, 2, 3, 4, 5, 6, 7, 8, 9] (fun u => (wX6 o q F ++ wX2 cI cZ (q 0) qn Fn An : va_W)) rfl rfl (fun _ => rfl) rfl ⟨rfl, rfl⟩ ⟨Nat.le_of_ble_eq_true rfl, Nat.le_of_ble_eq_true rfl⟩ hl.1 rfl (Nat.le_of_ble_eq_true rfl) ⟨Nat.zero_le _, Nat.zero_le _⟩ dX6_sheep_27 (fun r27 u H locs h hP hD hS => ?_)
        refine lv_if_ne (tgt := 35) hx hb dX6_sheep_30 (by decide) (fun c30 => ?_) (fun c30 => ?_)
        · replace h := h.1 c30
          refine lv_aload_n hx hb dX6_sheep_35 rfl (lv_at hl 0 rfl) ?_
          refine va_get (C := RX6) (T := TX6) (N := 13) (own := RX6) (v := .ref (q 0)) hx hb ht inlX6 hown hK hP 0 rfl rfl 0 (Nat.le_of_ble_eq_true rfl) (ht _ mw_1_16) (fun _ h9 => h9) rfl dX6_sheep_36 ?_
          refine va_get (C := RX2) (T := TX2) (N := 13) (own := RX6) (v := .int (Fn 8)) hx hb ht inlX2 hown hK hP 1 rfl rfl 8 (Nat.le_of_ble_eq_true rfl) (ht _ mw_7_2) (fun _ h9 => h9) rfl dX6_sheep_39 ?_
          refine lv_bipush (v := 8) hx hb dX6_sheep_42 (by decide) ?_
          refine lv_icmp_lt (tgt := 50) hx hb dX6_sheep_44 (by decide) (fun c44 => ?_) (fun c44 => ?_)
          · replace h := h.1 c44
            refine lv_aload_n hx hb dX6_sheep_50 rfl (lv_at hl 0 rfl) ?_
            refine va_get (C := RX6) (T := TX6) (N := 13) (own := RX6) (v := .ref (q 0)) hx hb ht inlX6 hown hK hP 0 rfl rfl 0 (Nat.le_of_ble_eq_true rfl) (ht _ mw_1_16) (fun _ h9 => h9) rfl dX6_sheep_51 ?_
            refine lv_iload_n hx hb dX6_sheep_54 rfl (lv_at hl 1 rfl) ?_
            refine lv_iload_n hx hb dX6_sheep_55 rfl (lv_at hl 2 rfl) ?_
            refine lv_iload_n hx hb dX6_sheep_56 rfl (lv_at hl 3 rfl) ?_
            refine lv_iload hx hb dX6_sheep_57 (lv_at hl 4 rfl) ?_
            refine C_vv (wr := [0].filterMap (fun i => (wX6 o q F ++ wX2 cI cZ (q 0) qn Fn An : va_W)[i]?)) X hP hD hS [.int x1, .int x2, .int x3, .int x4] [] (w_X2_add l D cI cZ cR adK adV _ (q 0) qn Fn An x1 x2 x3 x4 _ h) cal_X2_add mw_16_15 rfl [1, 2, 3, 4, 5, 6, 7, 8, 9] [0] [0, 1, 2, 3, 4, 5, 6, 7, 8, 9] (fun u => (wX6 o q F ++ wX2 cI cZ (q 0) qn u.1 u.2 : va_W)) rfl rfl (fun _ => rfl) rfl 1 rfl rfl ⟨rfl, rfl⟩ ⟨Nat.le_of_ble_eq_true rfl, Nat.le_of_ble_eq_true rfl⟩ hl.1 rfl (Nat.le_of_ble_eq_true rfl) ⟨Nat.zero_le _, Nat.zero_le _⟩ dX6_sheep_59 (fun u H locs h hP hD hS => ?_)
            obtain ⟨Fn_59, An_59⟩ := u
            try dsimp only at h
            have hP : va_P D vwCl (wX6 o q F ++ wX2 cI cZ (q 0) qn Fn_59 An_59 : va_W) H := hP
            have hD : va_D A9 (wX6 o q F ++ wX2 cI cZ (q 0) qn Fn_59 An_59 : va_W) := hD
            refine lv_aload_n hx hb dX6_sheep_62 rfl (lv_at hl 0 rfl) ?_
            refine va_get (C := RX6) (T := TX6) (N := 13) (own := RX6) (v := .ref (q 0)) hx hb ht inlX6 hown hK hP 0 rfl rfl 0 (Nat.le_of_ble_eq_true rfl) (ht _ mw_1_16) (fun _ h9 => h9) rfl dX6_sheep_63 ?_
            refine va_get (C := RX2) (T := TX2) (N := 13) (own := RX6) (v := .int (Fn_59 8)) hx hb ht inlX2 hown hK hP 1 rfl rfl 8 (Nat.le_of_ble_eq_true rfl) (ht _ mw_7_2) (fun _ h9 => h9) rfl dX6_sheep_66 ?_
            refine lv_iconst (v := 1) hx hb dX6_sheep_69 (by decide) ?_
            refine lv_isub hx hb dX6_sheep_70 ?_
            exact ret _ (Fn_59, An_59) _ _ _ _ dX6_sheep_71 h hP hD hS
          · replace h := h.2 c44
            refine lv_bipush (v := -2) hx hb dX6_sheep_47 (by decide) ?_
            exact ret _ (Fn, An) _ _ _ _ dX6_sheep_49 h hP hD hS
        · replace h := h.2 c30
          refine lv_iconst (v := -1) hx hb dX6_sheep_33 (by decide) ?_
          exact ret _ (Fn, An) _ _ _ _ dX6_sheep_34 h hP hD hS
theorem cal_X6_isSheep : CalV yX6_isSheep cX6_isSheep 2 (some .boolean) 1 := ⟨mw_17_11, mw_1_2, mw_17_9, mw_17_10, ⟨by decide +kernel, by decide +kernel, by decide +kernel⟩⟩
theorem dX6_of_0 : decode cX6_of 0 = .ok (.aload_n 0, 1) := by decide +kernel
theorem dX6_of_1 : decode cX6_of 1 = .ok (.iload_n 1, 1) := by decide +kernel
theorem dX6_of_2 : decode cX6_of 2 = .ok (.invokevirtual 114, 3) := by decide +kernel
theorem dX6_of_5 : decode cX6_of 5 = .ok (.ifCond .ne 5, 3) := by decide +kernel
theorem dX6_of_8 : decode cX6_of 8 = .ok (.iconst (-1), 1) := by decide +kernel
theorem dX6_of_9 : decode cX6_of 9 = .ok (.ireturn, 1) := by decide +kernel
theorem dX6_of_10 : decode cX6_of 10 = .ok (.iload_n 2, 1) := by decide +kernel
theorem dX6_of_11 : decode cX6_of 11 = .ok (.tableswitch 95 0 5 #[37, 47, 57, 67, 77, 86], 37) := by decide +kernel
theorem dX6_of_48 : decode cX6_of 48 = .ok (.aload_n 0, 1) := by decide +kernel
theorem dX6_of_49 : decode cX6_of 49 = .ok (.getfield 10, 3) := by decide +kernel
theorem dX6_of_52 : decode cX6_of 52 = .ok (.getfield 117, 3) := by decide +kernel
theorem dX6_of_55 : decode cX6_of 55 = .ok (.iload_n 1, 1) := by decide +kernel
theorem dX6_of_56 : decode cX6_of 56 = .ok (.iaload, 1) := by decide +kernel
theorem dX6_of_57 : decode cX6_of 57 = .ok (.ireturn, 1) := by decide +kernel
theorem dX6_of_58 : decode cX6_of 58 = .ok (.aload_n 0, 1) := by decide +kernel
theorem dX6_of_59 : decode cX6_of 59 = .ok (.getfield 10, 3) := by decide +kernel
theorem dX6_of_62 : decode cX6_of 62 = .ok (.getfield 120, 3) := by decide +kernel
theorem dX6_of_65 : decode cX6_of 65 = .ok (.iload_n 1, 1) := by decide +kernel
theorem dX6_of_66 : decode cX6_of 66 = .ok (.iaload, 1) := by decide +kernel
theorem dX6_of_67 : decode cX6_of 67 = .ok (.ireturn, 1) := by decide +kernel
theorem dX6_of_68 : decode cX6_of 68 = .ok (.aload_n 0, 1) := by decide +kernel
theorem dX6_of_69 : decode cX6_of 69 = .ok (.getfield 10, 3) := by decide +kernel
theorem dX6_of_72 : decode cX6_of 72 = .ok (.getfield 123, 3) := by decide +kernel
theorem dX6_of_75 : decode cX6_of 75 = .ok (.iload_n 1, 1) := by decide +kernel
theorem dX6_of_76 : decode cX6_of 76 = .ok (.iaload, 1) := by decide +kernel
theorem dX6_of_77 : decode cX6_of 77 = .ok (.ireturn, 1) := by decide +kernel
theorem dX6_of_78 : decode cX6_of 78 = .ok (.aload_n 0, 1) := by decide +kernel
theorem dX6_of_79 : decode cX6_of 79 = .ok (.getfield 10, 3) := by decide +kernel
theorem dX6_of_82 : decode cX6_of 82 = .ok (.getfield 126, 3) := by decide +kernel
theorem dX6_of_85 : decode cX6_of 85 = .ok (.iload_n 1, 1) := by decide +kernel
theorem dX6_of_86 : decode cX6_of 86 = .ok (.iaload, 1) := by decide +kernel
theorem dX6_of_87 : decode cX6_of 87 = .ok (.ireturn, 1) := by decide +kernel
theorem dX6_of_88 : decode cX6_of 88 = .ok (.aload_n 0, 1) := by decide +kernel
theorem dX6_of_89 : decode cX6_of 89 = .ok (.getfield 10, 3) := by decide +kernel
theorem dX6_of_92 : decode cX6_of 92 = .ok (.iload_n 1, 1) := by decide +kernel
theorem dX6_of_93 : decode cX6_of 93 = .ok (.invokevirtual 129, 3) := by decide +kernel
theorem dX6_of_96 : decode cX6_of 96 = .ok (.ireturn, 1) := by decide +kernel
theorem dX6_of_97 : decode cX6_of 97 = .ok (.aload_n 0, 1) := by decide +kernel
theorem dX6_of_98 : decode cX6_of 98 = .ok (.getfield 10, 3) := by decide +kernel
theorem dX6_of_101 : decode cX6_of 101 = .ok (.iload_n 1, 1) := by decide +kernel
theorem dX6_of_102 : decode cX6_of 102 = .ok (.invokevirtual 132, 3) := by decide +kernel
theorem dX6_of_105 : decode cX6_of 105 = .ok (.ireturn, 1) := by decide +kernel
theorem dX6_of_106 : decode cX6_of 106 = .ok (.iconst (-1), 1) := by decide +kernel
theorem dX6_of_107 : decode cX6_of 107 = .ok (.ireturn, 1) := by decide +kernel
def p_X6_of (F : tF) (Fn : tF) (An : tA) (x1 : Int32) (x2 : Int32) (K : Int32 → Prop) : Prop := (p_X6_isSheep F Fn An x1 (fun r2 => ((¬ r2 = 0 → ((x2 = (0 : Int32) → (vp_in x1 8 ∧ (K ((An 3) (x1).toNatClampNeg)))) ∧ (x2 = (1 : Int32) → (vp_in x1 8 ∧ (K ((An 4) (x1).toNatClampNeg)))) ∧ (x2 = (2 : Int32) → (vp_in x1 8 ∧ (K ((An 5) (x1).toNatClampNeg)))) ∧ (x2 = (3 : Int32) → (vp_in x1 8 ∧ (K ((An 6) (x1).toNatClampNeg)))) ∧ (x2 = (4 : Int32) → (p_X2_weightOf Fn An x1 (fun r93 => (K r93)))) ∧ (x2 = (5 : Int32) → (p_X2_voteOf Fn An x1 (fun r102 => (K r102)))) ∧ (¬ x2 = (0 : Int32) → ¬ x2 = (1 : Int32) → ¬ x2 = (2 : Int32) → ¬ x2 = (3 : Int32) → ¬ x2 = (4 : Int32) → ¬ x2 = (5 : Int32) → (K (-1 : Int32))))) ∧ (r2 = 0 → (K (-1 : Int32))))))
set_option maxHeartbeats 4000000 in
set_option maxRecDepth 100000 in
theorem w_X6_of (l : Launch) (D : va_G) (cI cZ cR : ClassId) (adK adV : Nat → Nat) (sz : Nat) (o : Nat) (q : Nat → Nat) (qn : Nat → Nat) (F : tF) (Fn : tF) (An : tA) (x1 : Int32) (x2 : Int32) (K : Int32 → Prop) (h : p_X6_of F Fn An x1 x2 K) : MI l D cI cZ cR adK adV yX6_of cX6_of 3 (some .int) (rmN 3 149) [.ref o, .int x1, .int x2] (wX6 o q F ++ wX2 cI cZ (q 0) qn Fn An : va_W) sz (fun (r : Int32) (u : Unit) => K r) (fun (u : Unit) => (wX6 o q F ++ wX2 cI cZ (q 0) qn Fn An : va_W)) := by
  refine M_i (by decide +kernel) (Nat.le_of_ble_eq_true rfl) ?_
  intro p e s m args below meth c Q A9 ls X ret hP hD hS hl
  obtain ⟨hx, hb, hml, ht, hown, hK, hA, hE⟩ := id X
  have hl : lv_has ls 3 [(0, .ref o), (1, .int x1), (2, .int x2)] := hl
  unfold p_X6_of at h
  refine lv_aload_n hx hb dX6_of_0 rfl (lv_at hl 0 rfl) ?_
  refine lv_iload_n hx hb dX6_of_1 rfl (lv_at hl 1 rfl) ?_
  refine C_vi (wr := []) X hP hD hS [.int x1] [] (w_X6_isSheep l D cI cZ cR adK adV _ o q qn F Fn An x1 _ h) cal_X6_isSheep mw_17_8 rfl [0, 1, 2, 3, 4, 5, 6, 7, 8, 9] [] [0, 1, 2, 3, 4, 5, 6, 7, 8, 9] (fun u => (wX6 o q F ++ wX2 cI cZ (q 0) qn Fn An : va_W)) rfl rfl (fun _ => rfl) rfl 0 rfl rfl ⟨rfl, rfl⟩ ⟨Nat.le_of_ble_eq_true rfl, Nat.le_of_ble_eq_true rfl⟩ hl.1 rfl (Nat.le_of_ble_eq_true rfl) ⟨Nat.zero_le _, Nat.zero_le _⟩ dX6_of_2 (fun r2 u H locs h hP hD hS => ?_)
  refine lv_if_ne (tgt := 10) hx hb dX6_of_5 (by decide) (fun c5 => ?_) (fun c5 => ?_)
  · replace h := h.1 c5
    refine lv_iload_n hx hb dX6_of_10 rfl (lv_at hl 2 rfl) ?_
    by_cases c11_0 : x2 = (0 : Int32)
    · replace h := h.1 c11_0
      refine lv_tableIn (tgt := 48) hx hb dX6_of_11 (by rw [c11_0]; decide) (by rw [c11_0]; decide) (by rw [c11_0]; rfl) (by decide) ?_
      refine lv_aload_n hx hb dX6_of_48 rfl (lv_at hl 0 rfl) ?_
      refine va_get (C := RX6) (T := TX6) (N := 13) (own := RX6) (v := .ref (q 0)) hx hb ht inlX6 hown hK hP 0 rfl rfl 0 (Nat.le_of_ble_eq_true rfl) (ht _ mw_1_16) (fun _ h9 => h9) rfl dX6_of_49 ?_
      refine va_get (C := RX2) (T := TX2) (N := 13) (own := RX6) (v := .ref (qn 3)) hx hb ht inlX2 hown hK hP 1 rfl rfl 3 (Nat.le_of_ble_eq_true rfl) (ht _ mw_17_4) (fun _ h9 => h9) rfl dX6_of_52 ?_
      refine lv_iload_n hx hb dX6_of_55 rfl (lv_at hl 1 rfl) ?_
      obtain ⟨hi56, h⟩ := h
      refine g_iald (f := (An 3)) (k := (x1).toNatClampNeg) hx hb hK hP 5 0 rfl rfl hi56 rfl dX6_of_56 ?_
      exact ret _ () _ _ _ _ dX6_of_57 h hP hD hS
    by_cases c11_1 : x2 = (1 : Int32)
    · replace h := h.2.1 c11_1
      refine lv_tableIn (tgt := 58) hx hb dX6_of_11 (by rw [c11_1]; decide) (by rw [c11_1]; decide) (by rw [c11_1]; rfl) (by decide) ?_
      refine lv_aload_n hx hb dX6_of_58 rfl (lv_at hl 0 rfl) ?_
      refine va_get (C := RX6) (T := TX6) (N := 13) (own := RX6) (v := .ref (q 0)) hx hb ht inlX6 hown hK hP 0 rfl rfl 0 (Nat.le_of_ble_eq_true rfl) (ht _ mw_1_16) (fun _ h9 => h9) rfl dX6_of_59 ?_
      refine va_get (C := RX2) (T := TX2) (N := 13) (own := RX6) (v := .ref (qn 4)) hx hb ht inlX2 hown hK hP 1 rfl rfl 4 (Nat.le_of_ble_eq_true rfl) (ht _ mw_17_5) (fun _ h9 => h9) rfl dX6_of_62 ?_
      refine lv_iload_n hx hb dX6_of_65 rfl (lv_at hl 1 rfl) ?_
      obtain ⟨hi66, h⟩ := h
      refine g_iald (f := (An 4)) (k := (x1).toNatClampNeg) hx hb hK hP 6 0 rfl rfl hi66 rfl dX6_of_66 ?_
      exact ret _ () _ _ _ _ dX6_of_67 h hP hD hS
    by_cases c11_2 : x2 = (2 : Int32)
    · replace h := h.2.2.1 c11_2
      refine lv_tableIn (tgt := 68) hx hb dX6_of_11 (by rw [c11_2]; decide) (by rw [c11_2]; decide) (by rw [c11_2]; rfl) (by decide) ?_
      refine lv_aload_n hx hb dX6_of_68 rfl (lv_at hl 0 rfl) ?_
      refine va_get (C := RX6) (T := TX6) (N := 13) (own := RX6) (v := .ref (q 0)) hx hb ht inlX6 hown hK hP 0 rfl rfl 0 (Nat.le_of_ble_eq_true rfl) (ht _ mw_1_16) (fun _ h9 => h9) rfl dX6_of_69 ?_
      refine va_get (C := RX2) (T := TX2) (N := 13) (own := RX6) (v := .ref (qn 5)) hx hb ht inlX2 hown hK hP 1 rfl rfl 5 (Nat.le_of_ble_eq_true rfl) (ht _ mw_17_6) (fun _ h9 => h9) rfl dX6_of_72 ?_
      refine lv_iload_n hx hb dX6_of_75 rfl (lv_at hl 1 rfl) ?_
      obtain ⟨hi76, h⟩ := h
      refine g_iald (f := (An 5)) (k := (x1).toNatClampNeg) hx hb hK hP 7 0 rfl rfl hi76 rfl dX6_of_76 ?_
      exact ret _ () _ _ _ _ dX6_of_77 h hP hD hS
    by_cases c11_3 : x2 = (3 : Int32)
    · replace h := h.2.2.2.1 c11_3
      refine lv_tableIn (tgt := 78) hx hb dX6_of_11 (by rw [c11_3]; decide) (by rw [c11_3]; decide) (by rw [c11_3]; rfl) (by decide) ?_
      refine lv_aload_n hx hb dX6_of_78 rfl (lv_at hl 0 rfl) ?_
      refine va_get (C := RX6) (T := TX6) (N := 13) (own := RX6) (v := .ref (q 0)) hx hb ht inlX6 hown hK hP 0 rfl rfl 0 (Nat.le_of_ble_eq_true rfl) (ht _ mw_1_16) (fun _ h9 => h9) rfl dX6_of_79 ?_
      refine va_get (C := RX2) (T := TX2) (N := 13) (own := RX6) (v := .ref (qn 6)) hx hb ht inlX2 hown hK hP 1 rfl rfl 6 (Nat.le_of_ble_eq_true rfl) (ht _ mw_17_7) (fun _ h9 => h9) rfl dX6_of_82 ?_
      refine lv_iload_n hx hb dX6_of_85 rfl (lv_at hl 1 rfl) ?_
      obtain ⟨hi86, h⟩ := h
      refine g_iald (f := (An 6)) (k := (x1).toNatClampNeg) hx hb hK hP 8 0 rfl rfl hi86 rfl dX6_of_86 ?_
      exact ret _ () _ _ _ _ dX6_of_87 h hP hD hS
    by_cases c11_4 : x2 = (4 : Int32)
    · replace h := h.2.2.2.2.1 c11_4
      refine lv_tableIn (tgt := 88) hx hb dX6_of_11 (by rw [c11_4]; decide) (by rw [c11_4]; decide) (by rw [c11_4]; rfl) (by decide) ?_
      refine lv_aload_n hx hb dX6_of_88 rfl (lv_at hl 0 rfl) ?_
      refine va_get (C := RX6) (T := TX6) (N := 13) (own := RX6) (v := .ref (q 0)) hx hb ht inlX6 hown hK hP 0 rfl rfl 0 (Nat.le_of_ble_eq_true rfl) (ht _ mw_1_16) (fun _ h9 => h9) rfl dX6_of_89 ?_
      refine lv_iload_n hx hb dX6_of_92 rfl (lv_at hl 1 rfl) ?_
      refine C_vi (wr := [0].filterMap (fun i => (wX6 o q F ++ wX2 cI cZ (q 0) qn Fn An : va_W)[i]?)) X hP hD hS [.int x1] [] (w_X2_weightOf l D cI cZ cR adK adV _ (q 0) qn Fn An x1 _ h) cal_X2_weightOf mw_17_12 rfl [1, 2, 3, 4, 5, 6, 7, 8, 9] [0] [0, 1, 2, 3, 4, 5, 6, 7, 8, 9] (fun u => (wX6 o q F ++ wX2 cI cZ (q 0) qn Fn An : va_W)) rfl rfl (fun _ => rfl) rfl 1 rfl rfl ⟨rfl, rfl⟩ ⟨Nat.le_of_ble_eq_true rfl, Nat.le_of_ble_eq_true rfl⟩ hl.1 rfl (Nat.le_of_ble_eq_true rfl) ⟨Nat.zero_le _, Nat.zero_le _⟩ dX6_of_93 (fun r93 u H locs h hP hD hS => ?_)
      exact ret _ () _ _ _ _ dX6_of_96 h hP hD hS
    by_cases c11_5 : x2 = (5 : Int32)
    · replace h := h.2.2.2.2.2.1 c11_5
      refine lv_tableIn (tgt := 97) hx hb dX6_of_11 (by rw [c11_5]; decide) (by rw [c11_5]; decide) (by rw [c11_5]; rfl) (by decide) ?_
      refine lv_aload_n hx hb dX6_of_97 rfl (lv_at hl 0 rfl) ?_
      refine va_get (C := RX6) (T := TX6) (N := 13) (own := RX6) (v := .ref (q 0)) hx hb ht inlX6 hown hK hP 0 rfl rfl 0 (Nat.le_of_ble_eq_true rfl) (ht _ mw_1_16) (fun _ h9 => h9) rfl dX6_of_98 ?_
      refine lv_iload_n hx hb dX6_of_101 rfl (lv_at hl 1 rfl) ?_
      refine C_vi (wr := [0].filterMap (fun i => (wX6 o q F ++ wX2 cI cZ (q 0) qn Fn An : va_W)[i]?)) X hP hD hS [.int x1] [] (w_X2_voteOf l D cI cZ cR adK adV _ (q 0) qn Fn An x1 _ h) cal_X2_voteOf mw_17_16 rfl [1, 2, 3, 4, 5, 6, 7, 8, 9] [0] [0, 1, 2, 3, 4, 5, 6, 7, 8, 9] (fun u => (wX6 o q F ++ wX2 cI cZ (q 0) qn Fn An : va_W)) rfl rfl (fun _ => rfl) rfl 1 rfl rfl ⟨rfl, rfl⟩ ⟨Nat.le_of_ble_eq_true rfl, Nat.le_of_ble_eq_true rfl⟩ hl.1 rfl (Nat.le_of_ble_eq_true rfl) ⟨Nat.zero_le _, Nat.zero_le _⟩ dX6_of_102 (fun r102 u H locs h hP hD hS => ?_)
      exact ret _ () _ _ _ _ dX6_of_105 h hP hD hS
    replace h := h.2.2.2.2.2.2 c11_0 c11_1 c11_2 c11_3 c11_4 c11_5
    refine g_tdef (tgt := 106) hx hb dX6_of_11 ?_ (by decide) ?_
    · exact Or.inl (sw0_5 c11_0 c11_1 c11_2 c11_3 c11_4 c11_5)
    refine lv_iconst (v := -1) hx hb dX6_of_106 (by decide) ?_
    exact ret _ () _ _ _ _ dX6_of_107 h hP hD hS
  · replace h := h.2 c5
    refine lv_iconst (v := -1) hx hb dX6_of_8 (by decide) ?_
    exact ret _ () _ _ _ _ dX6_of_9 h hP hD hS
theorem dX6_worth_0 : decode cX6_worth 0 = .ok (.aload_n 0, 1) := by decide +kernel
theorem dX6_worth_1 : decode cX6_worth 1 = .ok (.iload_n 1, 1) := by decide +kernel
theorem dX6_worth_2 : decode cX6_worth 2 = .ok (.invokevirtual 114, 3) := by decide +kernel
theorem dX6_worth_5 : decode cX6_worth 5 = .ok (.ifCond .eq 12, 3) := by decide +kernel
theorem dX6_worth_8 : decode cX6_worth 8 = .ok (.iload_n 2, 1) := by decide +kernel
theorem dX6_worth_9 : decode cX6_worth 9 = .ok (.bipush 6, 2) := by decide +kernel
theorem dX6_worth_11 : decode cX6_worth 11 = .ok (.invokestatic 95, 3) := by decide +kernel
theorem dX6_worth_14 : decode cX6_worth 14 = .ok (.ifCond .ne 5, 3) := by decide +kernel
theorem dX6_worth_17 : decode cX6_worth 17 = .ok (.iconst (-1), 1) := by decide +kernel
theorem dX6_worth_18 : decode cX6_worth 18 = .ok (.ireturn, 1) := by decide +kernel
theorem dX6_worth_19 : decode cX6_worth 19 = .ok (.sipush 1000, 3) := by decide +kernel
theorem dX6_worth_22 : decode cX6_worth 22 = .ok (.aload_n 0, 1) := by decide +kernel
theorem dX6_worth_23 : decode cX6_worth 23 = .ok (.getfield 10, 3) := by decide +kernel
theorem dX6_worth_26 : decode cX6_worth 26 = .ok (.iload_n 1, 1) := by decide +kernel
theorem dX6_worth_27 : decode cX6_worth 27 = .ok (.iload_n 2, 1) := by decide +kernel
theorem dX6_worth_28 : decode cX6_worth 28 = .ok (.invokevirtual 135, 3) := by decide +kernel
theorem dX6_worth_31 : decode cX6_worth 31 = .ok (.iadd, 1) := by decide +kernel
theorem dX6_worth_32 : decode cX6_worth 32 = .ok (.ireturn, 1) := by decide +kernel
def p_X6_worth (F : tF) (Fn : tF) (An : tA) (x1 : Int32) (x2 : Int32) (K : Int32 → Prop) : Prop := (p_X6_isSheep F Fn An x1 (fun r2 => ((r2 = 0 → (K (-1 : Int32))) ∧ (¬ r2 = 0 → (p_X6_within x2 (6 : Int32) (fun r11 => ((¬ r11 = 0 → (p_X2_worthTo Fn An x1 x2 (fun r28 => (K ((1000 : Int32) + r28))))) ∧ (r11 = 0 → (K (-1 : Int32))))))))))
set_option maxHeartbeats 4000000 in
set_option maxRecDepth 100000 in
theorem w_X6_worth (l : Launch) (D : va_G) (cI cZ cR : ClassId) (adK adV : Nat → Nat) (sz : Nat) (o : Nat) (q : Nat → Nat) (qn : Nat → Nat) (F : tF) (Fn : tF) (An : tA) (x1 : Int32) (x2 : Int32) (K : Int32 → Prop) (h : p_X6_worth F Fn An x1 x2 K) : MI l D cI cZ cR adK adV yX6_worth cX6_worth 3 (some .int) (rmN 2 124) [.ref o, .int x1, .int x2] (wX6 o q F ++ wX2 cI cZ (q 0) qn Fn An : va_W) sz (fun (r : Int32) (u : Unit) => K r) (fun (u : Unit) => (wX6 o q F ++ wX2 cI cZ (q 0) qn Fn An : va_W)) := by
  refine M_i (by decide +kernel) (Nat.le_of_ble_eq_true rfl) ?_
  intro p e s m args below meth c Q A9 ls X ret hP hD hS hl
  obtain ⟨hx, hb, hml, ht, hown, hK, hA, hE⟩ := id X
  have hl : lv_has ls 3 [(0, .ref o), (1, .int x1), (2, .int x2)] := hl
  unfold p_X6_worth at h
  refine lv_aload_n hx hb dX6_worth_0 rfl (lv_at hl 0 rfl) ?_
  refine lv_iload_n hx hb dX6_worth_1 rfl (lv_at hl 1 rfl) ?_
  refine C_vi (wr := []) X hP hD hS [.int x1] [] (w_X6_isSheep l D cI cZ cR adK adV _ o q qn F Fn An x1 _ h) cal_X6_isSheep mw_17_8 rfl [0, 1, 2, 3, 4, 5, 6, 7, 8, 9] [] [0, 1, 2, 3, 4, 5, 6, 7, 8, 9] (fun u => (wX6 o q F ++ wX2 cI cZ (q 0) qn Fn An : va_W)) rfl rfl (fun _ => rfl) rfl 0 rfl rfl ⟨rfl, rfl⟩ ⟨Nat.le_of_ble_eq_true rfl, Nat.le_of_ble_eq_true rfl⟩ hl.1 rfl (Nat.le_of_ble_eq_true rfl) ⟨Nat.zero_le _, Nat.zero_le _⟩ dX6_worth_2 (fun r2 u H locs h hP hD hS => ?_)
  refine lv_if_eq (tgt := 17) hx hb dX6_worth_5 (by decide) (fun c5 => ?_) (fun c5 => ?_)
  · replace h := h.1 c5
    refine lv_iconst (v := -1) hx hb dX6_worth_17 (by decide) ?_
    exact ret _ () _ _ _ _ dX6_worth_18 h hP hD hS
  · replace h := h.2 c5
    refine lv_iload_n hx hb dX6_worth_8 rfl (lv_at hl 2 rfl) ?_
    refine lv_bipush (v := 6) hx hb dX6_worth_9 (by decide) ?_
    refine C_si (wr := [0, 1, 2, 3, 4, 5, 6, 7, 8, 9].filterMap (fun i => (wX6 o q F ++ wX2 cI cZ (q 0) qn Fn An : va_W)[i]?)) X hP hD hS [.int x2, .int (6 : Int32)] [] (w_X6_within l D cI cZ cR adK adV _ x2 (6 : Int32) _ h) cal_X6_within mw_15_9 rfl [] [0, 1, 2, 3, 4, 5, 6, 7, 8, 9] [0, 1, 2, 3, 4, 5, 6, 7, 8, 9] (fun u => (wX6 o q F ++ wX2 cI cZ (q 0) qn Fn An : va_W)) rfl rfl (fun _ => rfl) rfl ⟨rfl, rfl⟩ ⟨Nat.le_of_ble_eq_true rfl, Nat.le_of_ble_eq_true rfl⟩ hl.1 rfl (Nat.le_of_ble_eq_true rfl) ⟨Nat.zero_le _, Nat.zero_le _⟩ dX6_worth_11 (fun r11 u H locs h hP hD hS => ?_)
    refine lv_if_ne (tgt := 19) hx hb dX6_worth_14 (by decide) (fun c14 => ?_) (fun c14 => ?_)
    · replace h := h.1 c14
      refine lv_sipush (v := 1000) hx hb dX6_worth_19 (by decide) ?_
      refine lv_aload_n hx hb dX6_worth_22 rfl (lv_at hl 0 rfl) ?_
      refine va_get (C := RX6) (T := TX6) (N := 13) (own := RX6) (v := .ref (q 0)) hx hb ht inlX6 hown hK hP 0 rfl rfl 0 (Nat.le_of_ble_eq_true rfl) (ht _ mw_1_16) (fun _ h9 => h9) rfl dX6_worth_23 ?_
      refine lv_iload_n hx hb dX6_worth_26 rfl (lv_at hl 1 rfl) ?_
      refine lv_iload_n hx hb dX6_worth_27 rfl (lv_at hl 2 rfl) ?_
      refine C_vi (wr := [0].filterMap (fun i => (wX6 o q F ++ wX2 cI cZ (q 0) qn Fn An : va_W)[i]?)) X hP hD hS [.int x1, .int x2] [.int (1000 : Int32)] (w_X2_worthTo l D cI cZ cR adK adV _ (q 0) qn Fn An x1 x2 _ h) cal_X2_worthTo mw_19_15 rfl [1, 2, 3, 4, 5, 6, 7, 8, 9] [0] [0, 1, 2, 3, 4, 5, 6, 7, 8, 9] (fun u => (wX6 o q F ++ wX2 cI cZ (q 0) qn Fn An : va_W)) rfl rfl (fun _ => rfl) rfl 1 rfl rfl ⟨rfl, rfl⟩ ⟨Nat.le_of_ble_eq_true rfl, Nat.le_of_ble_eq_true rfl⟩ hl.1 rfl (Nat.le_of_ble_eq_true rfl) ⟨Nat.zero_le _, Nat.zero_le _⟩ dX6_worth_28 (fun r28 u H locs h hP hD hS => ?_)
      refine lv_iadd hx hb dX6_worth_31 ?_
      exact ret _ () _ _ _ _ dX6_worth_32 h hP hD hS
    · replace h := h.2 c14
      refine lv_iconst (v := -1) hx hb dX6_worth_17 (by decide) ?_
      exact ret _ () _ _ _ _ dX6_worth_18 h hP hD hS
theorem dX6_tames_0 : decode cX6_tames 0 = .ok (.aload_n 0, 1) := by decide +kernel
theorem dX6_tames_1 : decode cX6_tames 1 = .ok (.iload_n 1, 1) := by decide +kernel
theorem dX6_tames_2 : decode cX6_tames 2 = .ok (.invokevirtual 114, 3) := by decide +kernel
theorem dX6_tames_5 : decode cX6_tames 5 = .ok (.ifCond .eq 18, 3) := by decide +kernel
theorem dX6_tames_8 : decode cX6_tames 8 = .ok (.sipush 1000, 3) := by decide +kernel
theorem dX6_tames_11 : decode cX6_tames 11 = .ok (.aload_n 0, 1) := by decide +kernel
theorem dX6_tames_12 : decode cX6_tames 12 = .ok (.getfield 10, 3) := by decide +kernel
theorem dX6_tames_15 : decode cX6_tames 15 = .ok (.iload_n 1, 1) := by decide +kernel
theorem dX6_tames_16 : decode cX6_tames 16 = .ok (.invokevirtual 139, 3) := by decide +kernel
theorem dX6_tames_19 : decode cX6_tames 19 = .ok (.iadd, 1) := by decide +kernel
theorem dX6_tames_20 : decode cX6_tames 20 = .ok (.goto 4, 3) := by decide +kernel
theorem dX6_tames_23 : decode cX6_tames 23 = .ok (.iconst (-1), 1) := by decide +kernel
theorem dX6_tames_24 : decode cX6_tames 24 = .ok (.ireturn, 1) := by decide +kernel
def p_X6_tames (F : tF) (Fn : tF) (An : tA) (x1 : Int32) (K : Int32 → Prop) : Prop := (p_X6_isSheep F Fn An x1 (fun r2 => ((r2 = 0 → (K (-1 : Int32))) ∧ (¬ r2 = 0 → (p_X2_tamenessOf Fn An x1 (fun r16 => (K ((1000 : Int32) + r16))))))))
set_option maxHeartbeats 4000000 in
set_option maxRecDepth 100000 in
theorem w_X6_tames (l : Launch) (D : va_G) (cI cZ cR : ClassId) (adK adV : Nat → Nat) (sz : Nat) (o : Nat) (q : Nat → Nat) (qn : Nat → Nat) (F : tF) (Fn : tF) (An : tA) (x1 : Int32) (K : Int32 → Prop) (h : p_X6_tames F Fn An x1 K) : MI l D cI cZ cR adK adV yX6_tames cX6_tames 2 (some .int) (rmN 2 42) [.ref o, .int x1] (wX6 o q F ++ wX2 cI cZ (q 0) qn Fn An : va_W) sz (fun (r : Int32) (u : Unit) => K r) (fun (u : Unit) => (wX6 o q F ++ wX2 cI cZ (q 0) qn Fn An : va_W)) := by
  refine M_i (by decide +kernel) (Nat.le_of_ble_eq_true rfl) ?_
  intro p e s m args below meth c Q A9 ls X ret hP hD hS hl
  obtain ⟨hx, hb, hml, ht, hown, hK, hA, hE⟩ := id X
  have hl : lv_has ls 2 [(0, .ref o), (1, .int x1)] := hl
  unfold p_X6_tames at h
  refine lv_aload_n hx hb dX6_tames_0 rfl (lv_at hl 0 rfl) ?_
  refine lv_iload_n hx hb dX6_tames_1 rfl (lv_at hl 1 rfl) ?_
  refine C_vi (wr := []) X hP hD hS [.int x1] [] (w_X6_isSheep l D cI cZ cR adK adV _ o q qn F Fn An x1 _ h) cal_X6_isSheep mw_17_8 rfl [0, 1, 2, 3, 4, 5, 6, 7, 8, 9] [] [0, 1, 2, 3, 4, 5, 6, 7, 8, 9] (fun u => (wX6 o q F ++ wX2 cI cZ (q 0) qn Fn An : va_W)) rfl rfl (fun _ => rfl) rfl 0 rfl rfl ⟨rfl, rfl⟩ ⟨Nat.le_of_ble_eq_true rfl, Nat.le_of_ble_eq_true rfl⟩ hl.1 rfl (Nat.le_of_ble_eq_true rfl) ⟨Nat.zero_le _, Nat.zero_le _⟩ dX6_tames_2 (fun r2 u H locs h hP hD hS => ?_)
  refine lv_if_eq (tgt := 23) hx hb dX6_tames_5 (by decide) (fun c5 => ?_) (fun c5 => ?_)
  · replace h := h.1 c5
    refine lv_iconst (v := -1) hx hb dX6_tames_23 (by decide) ?_
    exact ret _ () _ _ _ _ dX6_tames_24 h hP hD hS
  · replace h := h.2 c5
    refine lv_sipush (v := 1000) hx hb dX6_tames_8 (by decide) ?_
    refine lv_aload_n hx hb dX6_tames_11 rfl (lv_at hl 0 rfl) ?_
    refine va_get (C := RX6) (T := TX6) (N := 13) (own := RX6) (v := .ref (q 0)) hx hb ht inlX6 hown hK hP 0 rfl rfl 0 (Nat.le_of_ble_eq_true rfl) (ht _ mw_1_16) (fun _ h9 => h9) rfl dX6_tames_12 ?_
    refine lv_iload_n hx hb dX6_tames_15 rfl (lv_at hl 1 rfl) ?_
    refine C_vi (wr := [0].filterMap (fun i => (wX6 o q F ++ wX2 cI cZ (q 0) qn Fn An : va_W)[i]?)) X hP hD hS [.int x1] [.int (1000 : Int32)] (w_X2_tamenessOf l D cI cZ cR adK adV _ (q 0) qn Fn An x1 _ h) cal_X2_tamenessOf mw_20_0 rfl [1, 2, 3, 4, 5, 6, 7, 8, 9] [0] [0, 1, 2, 3, 4, 5, 6, 7, 8, 9] (fun u => (wX6 o q F ++ wX2 cI cZ (q 0) qn Fn An : va_W)) rfl rfl (fun _ => rfl) rfl 1 rfl rfl ⟨rfl, rfl⟩ ⟨Nat.le_of_ble_eq_true rfl, Nat.le_of_ble_eq_true rfl⟩ hl.1 rfl (Nat.le_of_ble_eq_true rfl) ⟨Nat.zero_le _, Nat.zero_le _⟩ dX6_tames_16 (fun r16 u H locs h hP hD hS => ?_)
    refine lv_iadd hx hb dX6_tames_19 ?_
    refine lv_goto (tgt := 24) hx hb dX6_tames_20 (by decide) ?_
    exact ret _ () _ _ _ _ dX6_tames_24 h hP hD hS
theorem dX6_mind_0 : decode cX6_mind 0 = .ok (.aload_n 0, 1) := by decide +kernel
theorem dX6_mind_1 : decode cX6_mind 1 = .ok (.iload_n 1, 1) := by decide +kernel
theorem dX6_mind_2 : decode cX6_mind 2 = .ok (.invokevirtual 114, 3) := by decide +kernel
theorem dX6_mind_5 : decode cX6_mind 5 = .ok (.ifCond .eq 19, 3) := by decide +kernel
theorem dX6_mind_8 : decode cX6_mind 8 = .ok (.iload_n 2, 1) := by decide +kernel
theorem dX6_mind_9 : decode cX6_mind 9 = .ok (.bipush 6, 2) := by decide +kernel
theorem dX6_mind_11 : decode cX6_mind 11 = .ok (.invokestatic 95, 3) := by decide +kernel
theorem dX6_mind_14 : decode cX6_mind 14 = .ok (.ifCond .eq 10, 3) := by decide +kernel
theorem dX6_mind_17 : decode cX6_mind 17 = .ok (.iload_n 3, 1) := by decide +kernel
theorem dX6_mind_18 : decode cX6_mind 18 = .ok (.invokestatic 106, 3) := by decide +kernel
theorem dX6_mind_21 : decode cX6_mind 21 = .ok (.ifCond .ne 5, 3) := by decide +kernel
theorem dX6_mind_24 : decode cX6_mind 24 = .ok (.iconst (-1), 1) := by decide +kernel
theorem dX6_mind_25 : decode cX6_mind 25 = .ok (.ireturn, 1) := by decide +kernel
theorem dX6_mind_26 : decode cX6_mind 26 = .ok (.aload_n 0, 1) := by decide +kernel
theorem dX6_mind_27 : decode cX6_mind 27 = .ok (.getfield 10, 3) := by decide +kernel
theorem dX6_mind_30 : decode cX6_mind 30 = .ok (.getfield 117, 3) := by decide +kernel
theorem dX6_mind_33 : decode cX6_mind 33 = .ok (.iload_n 1, 1) := by decide +kernel
theorem dX6_mind_34 : decode cX6_mind 34 = .ok (.iaload, 1) := by decide +kernel
theorem dX6_mind_35 : decode cX6_mind 35 = .ok (.istore 4, 2) := by decide +kernel
theorem dX6_mind_37 : decode cX6_mind 37 = .ok (.aload_n 0, 1) := by decide +kernel
theorem dX6_mind_38 : decode cX6_mind 38 = .ok (.getfield 10, 3) := by decide +kernel
theorem dX6_mind_41 : decode cX6_mind 41 = .ok (.getfield 117, 3) := by decide +kernel
theorem dX6_mind_44 : decode cX6_mind 44 = .ok (.iload_n 1, 1) := by decide +kernel
theorem dX6_mind_45 : decode cX6_mind 45 = .ok (.iload_n 2, 1) := by decide +kernel
theorem dX6_mind_46 : decode cX6_mind 46 = .ok (.iastore, 1) := by decide +kernel
theorem dX6_mind_47 : decode cX6_mind 47 = .ok (.aload_n 0, 1) := by decide +kernel
theorem dX6_mind_48 : decode cX6_mind 48 = .ok (.getfield 10, 3) := by decide +kernel
theorem dX6_mind_51 : decode cX6_mind 51 = .ok (.getfield 120, 3) := by decide +kernel
theorem dX6_mind_54 : decode cX6_mind 54 = .ok (.iload_n 1, 1) := by decide +kernel
theorem dX6_mind_55 : decode cX6_mind 55 = .ok (.iload_n 3, 1) := by decide +kernel
theorem dX6_mind_56 : decode cX6_mind 56 = .ok (.iastore, 1) := by decide +kernel
theorem dX6_mind_57 : decode cX6_mind 57 = .ok (.iload 4, 2) := by decide +kernel
theorem dX6_mind_59 : decode cX6_mind 59 = .ok (.ireturn, 1) := by decide +kernel
def p_X6_mind (F : tF) (Fn : tF) (An : tA) (x1 : Int32) (x2 : Int32) (x3 : Int32) (K : Int32 → tF → tA → Prop) : Prop := (p_X6_isSheep F Fn An x1 (fun r2 => ((r2 = 0 → (K (-1 : Int32) Fn An)) ∧ (¬ r2 = 0 → (p_X6_within x2 (6 : Int32) (fun r11 => ((r11 = 0 → (K (-1 : Int32) Fn An)) ∧ (¬ r11 = 0 → (p_X6_isFigure x3 (fun r18 => ((¬ r18 = 0 → (vp_in x1 8 ∧ (∀ y35 : Int32, y35 = ((An 3) (x1).toNatClampNeg) → (vp_in x1 8 ∧ (∀ f_46 : tF, f_46 = (upd (An 3) (x1).toNatClampNeg x2) → (vp_in x1 8 ∧ (∀ f_56 : tF, f_56 = (upd (An 4) (x1).toNatClampNeg x3) → (K y35 Fn (va_up (va_up An 3 f_46) 4 f_56))))))))) ∧ (r18 = 0 → (K (-1 : Int32) Fn An)))))))))))))
set_option maxHeartbeats 4000000 in
set_option maxRecDepth 100000 in
theorem w_X6_mind (l : Launch) (D : va_G) (cI cZ cR : ClassId) (adK adV : Nat → Nat) (sz : Nat) (o : Nat) (q : Nat → Nat) (qn : Nat → Nat) (F : tF) (Fn : tF) (An : tA) (x1 : Int32) (x2 : Int32) (x3 : Int32) (K : Int32 → tF → tA → Prop) (h : p_X6_mind F Fn An x1 x2 x3 K) : MI l D cI cZ cR adK adV yX6_mind cX6_mind 5 (some .int) (rmN 2 42) [.ref o, .int x1, .int x2, .int x3] (wX6 o q F ++ wX2 cI cZ (q 0) qn Fn An : va_W) sz (fun (r : Int32) (u : (tF × tA)) => K r u.1 u.2) (fun (u : (tF × tA)) => (wX6 o q F ++ wX2 cI cZ (q 0) qn u.1 u.2 : va_W)) := by
  refine M_i (by decide +kernel) (Nat.le_of_ble_eq_true rfl) ?_
  intro p e s m args below meth c Q A9 ls X ret hP hD hS hl
  obtain ⟨hx, hb, hml, ht, hown, hK, hA, hE⟩ := id X
  have hl : lv_has ls 5 [(0, .ref o), (1, .int x1), (2, .int x2), (3, .int x3)] := hl
  unfold p_X6_mind at h
  refine lv_aload_n hx hb dX6_mind_0 rfl (lv_at hl 0 rfl) ?_
  refine lv_iload_n hx hb dX6_mind_1 rfl (lv_at hl 1 rfl) ?_
  refine C_vi (wr := []) X hP hD hS [.int x1] [] (w_X6_isSheep l D cI cZ cR adK adV _ o q qn F Fn An x1 _ h) cal_X6_isSheep mw_17_8 rfl [0, 1, 2, 3, 4, 5, 6, 7, 8, 9] [] [0, 1, 2, 3, 4, 5, 6, 7, 8, 9] (fun u => (wX6 o q F ++ wX2 cI cZ (q 0) qn Fn An : va_W)) rfl rfl (fun _ => rfl) rfl 0 rfl rfl ⟨rfl, rfl⟩ ⟨Nat.le_of_ble_eq_true rfl, Nat.le_of_ble_eq_true rfl⟩ hl.1 rfl (Nat.le_of_ble_eq_true rfl) ⟨Nat.zero_le _, Nat.zero_le _⟩ dX6_mind_2 (fun r2 u H locs h hP hD hS => ?_)
  refine lv_if_eq (tgt := 24) hx hb dX6_mind_5 (by decide) (fun c5 => ?_) (fun c5 => ?_)
  · replace h := h.1 c5
    refine lv_iconst (v := -1) hx hb dX6_mind_24 (by decide) ?_
    exact ret _ (Fn, An) _ _ _ _ dX6_mind_25 h hP hD hS
  · replace h := h.2 c5
    refine lv_iload_n hx hb dX6_mind_8 rfl (lv_at hl 2 rfl) ?_
    refine lv_bipush (v := 6) hx hb dX6_mind_9 (by decide) ?_
    refine C_si (wr := [0, 1, 2, 3, 4, 5, 6, 7, 8, 9].filterMap (fun i => (wX6 o q F ++ wX2 cI cZ (q 0) qn Fn An : va_W)[i]?)) X hP hD hS [.int x2, .int (6 : Int32)] [] (w_X6_within l D cI cZ cR adK adV _ x2 (6 : Int32) _ h) cal_X6_within mw_15_9 rfl [] [0, 1, 2, 3, 4, 5, 6, 7, 8, 9] [0, 1, 2, 3, 4, 5, 6, 7, 8, 9] (fun u => (wX6 o q F ++ wX2 cI cZ (q 0) qn Fn An : va_W)) rfl rfl (fun _ => rfl) rfl ⟨rfl, rfl⟩ ⟨Nat.le_of_ble_eq_true rfl, Nat.le_of_ble_eq_true rfl⟩ hl.1 rfl (Nat.le_of_ble_eq_true rfl) ⟨Nat.zero_le _, Nat.zero_le _⟩ dX6_mind_11 (fun r11 u H locs h hP hD hS => ?_)
    refine lv_if_eq (tgt := 24) hx hb dX6_mind_14 (by decide) (fun c14 => ?_) (fun c14 => ?_)
    · replace h := h.1 c14
      refine lv_iconst (v := -1) hx hb dX6_mind_24 (by decide) ?_
      exact ret _ (Fn, An) _ _ _ _ dX6_mind_25 h hP hD hS
    · replace h := h.2 c14
      refine lv_iload_n hx hb dX6_mind_17 rfl (lv_at hl 3 rfl) ?_
      refine C_si (wr := [0, 1, 2, 3, 4, 5, 6, 7, 8, 9].filterMap (fun i => (wX6 o q F ++ wX2 cI cZ (q 0) qn Fn An : va_W)[i]?)) X hP hD hS [.int x3] [] (w_X6_isFigure l D cI cZ cR adK adV _ x3 _ h) cal_X6_isFigure mw_16_12 rfl [] [0, 1, 2, 3, 4, 5, 6, 7, 8, 9] [0, 1, 2, 3, 4, 5, 6, 7, 8, 9] (fun u => (wX6 o q F ++ wX2 cI cZ (q 0) qn Fn An : va_W)) rfl rfl (fun _ => rfl) rfl ⟨rfl, rfl⟩ ⟨Nat.le_of_ble_eq_true rfl, Nat.le_of_ble_eq_true rfl⟩ hl.1 rfl (Nat.le_of_ble_eq_true rfl) ⟨Nat.zero_le _, Nat.zero_le _⟩ dX6_mind_18 (fun r18 u H locs h hP hD hS => ?_)
      refine lv_if_ne (tgt := 26) hx hb dX6_mind_21 (by decide) (fun c21 => ?_) (fun c21 => ?_)
      · replace h := h.1 c21
        refine lv_aload_n hx hb dX6_mind_26 rfl (lv_at hl 0 rfl) ?_
        refine va_get (C := RX6) (T := TX6) (N := 13) (own := RX6) (v := .ref (q 0)) hx hb ht inlX6 hown hK hP 0 rfl rfl 0 (Nat.le_of_ble_eq_true rfl) (ht _ mw_1_16) (fun _ h9 => h9) rfl dX6_mind_27 ?_
        refine va_get (C := RX2) (T := TX2) (N := 13) (own := RX6) (v := .ref (qn 3)) hx hb ht inlX2 hown hK hP 1 rfl rfl 3 (Nat.le_of_ble_eq_true rfl) (ht _ mw_17_4) (fun _ h9 => h9) rfl dX6_mind_30 ?_
        refine lv_iload_n hx hb dX6_mind_33 rfl (lv_at hl 1 rfl) ?_
        obtain ⟨hi34, h⟩ := h
        refine g_iald (f := (An 3)) (k := (x1).toNatClampNeg) hx hb hK hP 5 0 rfl rfl hi34 rfl dX6_mind_34 ?_
        refine lv_topi (fun y35 ey35 => ?_)
        replace h := h y35 ey35
        refine lv_istore (lv' := [(4, .int y35), (0, .ref o), (1, .int x1), (2, .int x2), (3, .int x3)]) hx hb dX6_mind_35 hl (by decide) rfl (fun ls hl => ?_)
        refine lv_aload_n hx hb dX6_mind_37 rfl (lv_at hl 1 rfl) ?_
        refine va_get (C := RX6) (T := TX6) (N := 13) (own := RX6) (v := .ref (q 0)) hx hb ht inlX6 hown hK hP 0 rfl rfl 0 (Nat.le_of_ble_eq_true rfl) (ht _ mw_1_16) (fun _ h9 => h9) rfl dX6_mind_38 ?_
        refine va_get (C := RX2) (T := TX2) (N := 13) (own := RX6) (v := .ref (qn 3)) hx hb ht inlX2 hown hK hP 1 rfl rfl 3 (Nat.le_of_ble_eq_true rfl) (ht _ mw_17_4) (fun _ h9 => h9) rfl dX6_mind_41 ?_
        refine lv_iload_n hx hb dX6_mind_44 rfl (lv_at hl 2 rfl) ?_
        refine lv_iload_n hx hb dX6_mind_45 rfl (lv_at hl 3 rfl) ?_
        obtain ⟨hi46, h⟩ := h
        obtain ⟨f_46, ef_46⟩ : ∃ z : tF, z = (upd (An 3) (x1).toNatClampNeg x2) := ⟨_, rfl⟩
        replace h := h f_46 ef_46
        refine g_iast (f := (An 3)) (k := (x1).toNatClampNeg) hx hb hK hP hD hS 5 0 rfl rfl hi46 rfl ef_46 dX6_mind_46 (fun H locs hP hD hS => ?_)
        have hP : va_P D vwCl (wX6 o q F ++ wX2 cI cZ (q 0) qn Fn (va_up An 3 f_46) : va_W) H := hP
        have hD : va_D A9 (wX6 o q F ++ wX2 cI cZ (q 0) qn Fn (va_up An 3 f_46) : va_W) := hD
        refine lv_aload_n hx hb dX6_mind_47 rfl (lv_at hl 1 rfl) ?_
        refine va_get (C := RX6) (T := TX6) (N := 13) (own := RX6) (v := .ref (q 0)) hx hb ht inlX6 hown hK hP 0 rfl rfl 0 (Nat.le_of_ble_eq_true rfl) (ht _ mw_1_16) (fun _ h9 => h9) rfl dX6_mind_48 ?_
        refine va_get (C := RX2) (T := TX2) (N := 13) (own := RX6) (v := .ref (qn 4)) hx hb ht inlX2 hown hK hP 1 rfl rfl 4 (Nat.le_of_ble_eq_true rfl) (ht _ mw_17_5) (fun _ h9 => h9) rfl dX6_mind_51 ?_
        refine lv_iload_n hx hb dX6_mind_54 rfl (lv_at hl 2 rfl) ?_
        refine lv_iload_n hx hb dX6_mind_55 rfl (lv_at hl 4 rfl) ?_
        obtain ⟨hi56, h⟩ := h
        obtain ⟨f_56, ef_56⟩ : ∃ z : tF, z = (upd (An 4) (x1).toNatClampNeg x3) := ⟨_, rfl⟩
        replace h := h f_56 ef_56
        refine g_iast (f := (An 4)) (k := (x1).toNatClampNeg) hx hb hK hP hD hS 6 0 rfl rfl hi56 rfl ef_56 dX6_mind_56 (fun H locs hP hD hS => ?_)
        have hP : va_P D vwCl (wX6 o q F ++ wX2 cI cZ (q 0) qn Fn (va_up (va_up An 3 f_46) 4 f_56) : va_W) H := hP
        have hD : va_D A9 (wX6 o q F ++ wX2 cI cZ (q 0) qn Fn (va_up (va_up An 3 f_46) 4 f_56) : va_W) := hD
        refine lv_iload hx hb dX6_mind_57 (lv_at hl 0 rfl) ?_
        exact ret _ (Fn, (va_up (va_up An 3 f_46) 4 f_56)) _ _ _ _ dX6_mind_59 h hP hD hS
      · replace h := h.2 c21
        refine lv_iconst (v := -1) hx hb dX6_mind_24 (by decide) ?_
        exact ret _ (Fn, An) _ _ _ _ dX6_mind_25 h hP hD hS
theorem dX6_fear_0 : decode cX6_fear 0 = .ok (.aload_n 0, 1) := by decide +kernel
theorem dX6_fear_1 : decode cX6_fear 1 = .ok (.iload_n 1, 1) := by decide +kernel
theorem dX6_fear_2 : decode cX6_fear 2 = .ok (.invokevirtual 114, 3) := by decide +kernel
theorem dX6_fear_5 : decode cX6_fear 5 = .ok (.ifCond .eq 10, 3) := by decide +kernel
theorem dX6_fear_8 : decode cX6_fear 8 = .ok (.iload_n 2, 1) := by decide +kernel
theorem dX6_fear_9 : decode cX6_fear 9 = .ok (.invokestatic 106, 3) := by decide +kernel
theorem dX6_fear_12 : decode cX6_fear 12 = .ok (.ifCond .ne 5, 3) := by decide +kernel
theorem dX6_fear_15 : decode cX6_fear 15 = .ok (.iconst (-1), 1) := by decide +kernel
theorem dX6_fear_16 : decode cX6_fear 16 = .ok (.ireturn, 1) := by decide +kernel
theorem dX6_fear_17 : decode cX6_fear 17 = .ok (.aload_n 0, 1) := by decide +kernel
theorem dX6_fear_18 : decode cX6_fear 18 = .ok (.getfield 10, 3) := by decide +kernel
theorem dX6_fear_21 : decode cX6_fear 21 = .ok (.getfield 123, 3) := by decide +kernel
theorem dX6_fear_24 : decode cX6_fear 24 = .ok (.iload_n 1, 1) := by decide +kernel
theorem dX6_fear_25 : decode cX6_fear 25 = .ok (.iaload, 1) := by decide +kernel
theorem dX6_fear_26 : decode cX6_fear 26 = .ok (.istore_n 3, 1) := by decide +kernel
theorem dX6_fear_27 : decode cX6_fear 27 = .ok (.aload_n 0, 1) := by decide +kernel
theorem dX6_fear_28 : decode cX6_fear 28 = .ok (.getfield 10, 3) := by decide +kernel
theorem dX6_fear_31 : decode cX6_fear 31 = .ok (.getfield 123, 3) := by decide +kernel
theorem dX6_fear_34 : decode cX6_fear 34 = .ok (.iload_n 1, 1) := by decide +kernel
theorem dX6_fear_35 : decode cX6_fear 35 = .ok (.iload_n 2, 1) := by decide +kernel
theorem dX6_fear_36 : decode cX6_fear 36 = .ok (.iastore, 1) := by decide +kernel
theorem dX6_fear_37 : decode cX6_fear 37 = .ok (.iload_n 3, 1) := by decide +kernel
theorem dX6_fear_38 : decode cX6_fear 38 = .ok (.ireturn, 1) := by decide +kernel
def p_X6_fear (F : tF) (Fn : tF) (An : tA) (x1 : Int32) (x2 : Int32) (K : Int32 → tF → tA → Prop) : Prop := (p_X6_isSheep F Fn An x1 (fun r2 => ((r2 = 0 → (K (-1 : Int32) Fn An)) ∧ (¬ r2 = 0 → (p_X6_isFigure x2 (fun r9 => ((¬ r9 = 0 → (vp_in x1 8 ∧ (∀ y26 : Int32, y26 = ((An 5) (x1).toNatClampNeg) → (vp_in x1 8 ∧ (∀ f_36 : tF, f_36 = (upd (An 5) (x1).toNatClampNeg x2) → (K y26 Fn (va_up An 5 f_36))))))) ∧ (r9 = 0 → (K (-1 : Int32) Fn An)))))))))
set_option maxHeartbeats 4000000 in
set_option maxRecDepth 100000 in
theorem w_X6_fear (l : Launch) (D : va_G) (cI cZ cR : ClassId) (adK adV : Nat → Nat) (sz : Nat) (o : Nat) (q : Nat → Nat) (qn : Nat → Nat) (F : tF) (Fn : tF) (An : tA) (x1 : Int32) (x2 : Int32) (K : Int32 → tF → tA → Prop) (h : p_X6_fear F Fn An x1 x2 K) : MI l D cI cZ cR adK adV yX6_fear cX6_fear 4 (some .int) (rmN 2 42) [.ref o, .int x1, .int x2] (wX6 o q F ++ wX2 cI cZ (q 0) qn Fn An : va_W) sz (fun (r : Int32) (u : (tF × tA)) => K r u.1 u.2) (fun (u : (tF × tA)) => (wX6 o q F ++ wX2 cI cZ (q 0) qn u.1 u.2 : va_W)) := by
  refine M_i (by decide +kernel) (Nat.le_of_ble_eq_true rfl) ?_
  intro p e s m args below meth c Q A9 ls X ret hP hD hS hl
  obtain ⟨hx, hb, hml, ht, hown, hK, hA, hE⟩ := id X
  have hl : lv_has ls 4 [(0, .ref o), (1, .int x1), (2, .int x2)] := hl
  unfold p_X6_fear at h
  refine lv_aload_n hx hb dX6_fear_0 rfl (lv_at hl 0 rfl) ?_
  refine lv_iload_n hx hb dX6_fear_1 rfl (lv_at hl 1 rfl) ?_
  refine C_vi (wr := []) X hP hD hS [.int x1] [] (w_X6_isSheep l D cI cZ cR adK adV _ o q qn F Fn An x1 _ h) cal_X6_isSheep mw_17_8 rfl [0, 1, 2, 3, 4, 5, 6, 7, 8, 9] [] [0, 1, 2, 3, 4, 5, 6, 7, 8, 9] (fun u => (wX6 o q F ++ wX2 cI cZ (q 0) qn Fn An : va_W)) rfl rfl (fun _ => rfl) rfl 0 rfl rfl ⟨rfl, rfl⟩ ⟨Nat.le_of_ble_eq_true rfl, Nat.le_of_ble_eq_true rfl⟩ hl.1 rfl (Nat.le_of_ble_eq_true rfl) ⟨Nat.zero_le _, Nat.zero_le _⟩ dX6_fear_2 (fun r2 u H locs h hP hD hS => ?_)
  refine lv_if_eq (tgt := 15) hx hb dX6_fear_5 (by decide) (fun c5 => ?_) (fun c5 => ?_)
  · replace h := h.1 c5
    refine lv_iconst (v := -1) hx hb dX6_fear_15 (by decide) ?_
    exact ret _ (Fn, An) _ _ _ _ dX6_fear_16 h hP hD hS
  · replace h := h.2 c5
    refine lv_iload_n hx hb dX6_fear_8 rfl (lv_at hl 2 rfl) ?_
    refine C_si (wr := [0, 1, 2, 3, 4, 5, 6, 7, 8, 9].filterMap (fun i => (wX6 o q F ++ wX2 cI cZ (q 0) qn Fn An : va_W)[i]?)) X hP hD hS [.int x2] [] (w_X6_isFigure l D cI cZ cR adK adV _ x2 _ h) cal_X6_isFigure mw_16_12 rfl [] [0, 1, 2, 3, 4, 5, 6, 7, 8, 9] [0, 1, 2, 3, 4, 5, 6, 7, 8, 9] (fun u => (wX6 o q F ++ wX2 cI cZ (q 0) qn Fn An : va_W)) rfl rfl (fun _ => rfl) rfl ⟨rfl, rfl⟩ ⟨Nat.le_of_ble_eq_true rfl, Nat.le_of_ble_eq_true rfl⟩ hl.1 rfl (Nat.le_of_ble_eq_true rfl) ⟨Nat.zero_le _, Nat.zero_le _⟩ dX6_fear_9 (fun r9 u H locs h hP hD hS => ?_)
    refine lv_if_ne (tgt := 17) hx hb dX6_fear_12 (by decide) (fun c12 => ?_) (fun c12 => ?_)
    · replace h := h.1 c12
      refine lv_aload_n hx hb dX6_fear_17 rfl (lv_at hl 0 rfl) ?_
      refine va_get (C := RX6) (T := TX6) (N := 13) (own := RX6) (v := .ref (q 0)) hx hb ht inlX6 hown hK hP 0 rfl rfl 0 (Nat.le_of_ble_eq_true rfl) (ht _ mw_1_16) (fun _ h9 => h9) rfl dX6_fear_18 ?_
      refine va_get (C := RX2) (T := TX2) (N := 13) (own := RX6) (v := .ref (qn 5)) hx hb ht inlX2 hown hK hP 1 rfl rfl 5 (Nat.le_of_ble_eq_true rfl) (ht _ mw_17_6) (fun _ h9 => h9) rfl dX6_fear_21 ?_
      refine lv_iload_n hx hb dX6_fear_24 rfl (lv_at hl 1 rfl) ?_
      obtain ⟨hi25, h⟩ := h
      refine g_iald (f := (An 5)) (k := (x1).toNatClampNeg) hx hb hK hP 7 0 rfl rfl hi25 rfl dX6_fear_25 ?_
      refine lv_topi (fun y26 ey26 => ?_)
      replace h := h y26 ey26
      refine lv_istore_n (lv' := [(3, .int y26), (0, .ref o), (1, .int x1), (2, .int x2)]) hx hb dX6_fear_26 rfl hl (by decide) rfl (fun ls hl => ?_)
      refine lv_aload_n hx hb dX6_fear_27 rfl (lv_at hl 1 rfl) ?_
      refine va_get (C := RX6) (T := TX6) (N := 13) (own := RX6) (v := .ref (q 0)) hx hb ht inlX6 hown hK hP 0 rfl rfl 0 (Nat.le_of_ble_eq_true rfl) (ht _ mw_1_16) (fun _ h9 => h9) rfl dX6_fear_28 ?_
      refine va_get (C := RX2) (T := TX2) (N := 13) (own := RX6) (v := .ref (qn 5)) hx hb ht inlX2 hown hK hP 1 rfl rfl 5 (Nat.le_of_ble_eq_true rfl) (ht _ mw_17_6) (fun _ h9 => h9) rfl dX6_fear_31 ?_
      refine lv_iload_n hx hb dX6_fear_34 rfl (lv_at hl 2 rfl) ?_
      refine lv_iload_n hx hb dX6_fear_35 rfl (lv_at hl 3 rfl) ?_
      obtain ⟨hi36, h⟩ := h
      obtain ⟨f_36, ef_36⟩ : ∃ z : tF, z = (upd (An 5) (x1).toNatClampNeg x2) := ⟨_, rfl⟩
      replace h := h f_36 ef_36
      refine g_iast (f := (An 5)) (k := (x1).toNatClampNeg) hx hb hK hP hD hS 7 0 rfl rfl hi36 rfl ef_36 dX6_fear_36 (fun H locs hP hD hS => ?_)
      have hP : va_P D vwCl (wX6 o q F ++ wX2 cI cZ (q 0) qn Fn (va_up An 5 f_36) : va_W) H := hP
      have hD : va_D A9 (wX6 o q F ++ wX2 cI cZ (q 0) qn Fn (va_up An 5 f_36) : va_W) := hD
      refine lv_iload_n hx hb dX6_fear_37 rfl (lv_at hl 0 rfl) ?_
      exact ret _ (Fn, (va_up An 5 f_36)) _ _ _ _ dX6_fear_38 h hP hD hS
    · replace h := h.2 c12
      refine lv_iconst (v := -1) hx hb dX6_fear_15 (by decide) ?_
      exact ret _ (Fn, An) _ _ _ _ dX6_fear_16 h hP hD hS
theorem dX6_look_0 : decode cX6_look 0 = .ok (.aload_n 0, 1) := by decide +kernel
theorem dX6_look_1 : decode cX6_look 1 = .ok (.iload_n 1, 1) := by decide +kernel
theorem dX6_look_2 : decode cX6_look 2 = .ok (.invokevirtual 114, 3) := by decide +kernel
theorem dX6_look_5 : decode cX6_look 5 = .ok (.ifCond .eq 12, 3) := by decide +kernel
theorem dX6_look_8 : decode cX6_look 8 = .ok (.iload_n 2, 1) := by decide +kernel
theorem dX6_look_9 : decode cX6_look 9 = .ok (.bipush 6, 2) := by decide +kernel
theorem dX6_look_11 : decode cX6_look 11 = .ok (.invokestatic 95, 3) := by decide +kernel
theorem dX6_look_14 : decode cX6_look 14 = .ok (.ifCond .ne 5, 3) := by decide +kernel
theorem dX6_look_17 : decode cX6_look 17 = .ok (.iconst (-1), 1) := by decide +kernel
theorem dX6_look_18 : decode cX6_look 18 = .ok (.ireturn, 1) := by decide +kernel
theorem dX6_look_19 : decode cX6_look 19 = .ok (.aload_n 0, 1) := by decide +kernel
theorem dX6_look_20 : decode cX6_look 20 = .ok (.getfield 10, 3) := by decide +kernel
theorem dX6_look_23 : decode cX6_look 23 = .ok (.getfield 126, 3) := by decide +kernel
theorem dX6_look_26 : decode cX6_look 26 = .ok (.iload_n 1, 1) := by decide +kernel
theorem dX6_look_27 : decode cX6_look 27 = .ok (.iaload, 1) := by decide +kernel
theorem dX6_look_28 : decode cX6_look 28 = .ok (.istore_n 3, 1) := by decide +kernel
theorem dX6_look_29 : decode cX6_look 29 = .ok (.aload_n 0, 1) := by decide +kernel
theorem dX6_look_30 : decode cX6_look 30 = .ok (.getfield 10, 3) := by decide +kernel
theorem dX6_look_33 : decode cX6_look 33 = .ok (.getfield 126, 3) := by decide +kernel
theorem dX6_look_36 : decode cX6_look 36 = .ok (.iload_n 1, 1) := by decide +kernel
theorem dX6_look_37 : decode cX6_look 37 = .ok (.iload_n 2, 1) := by decide +kernel
theorem dX6_look_38 : decode cX6_look 38 = .ok (.iastore, 1) := by decide +kernel
theorem dX6_look_39 : decode cX6_look 39 = .ok (.iload_n 3, 1) := by decide +kernel
theorem dX6_look_40 : decode cX6_look 40 = .ok (.ireturn, 1) := by decide +kernel
def p_X6_look (F : tF) (Fn : tF) (An : tA) (x1 : Int32) (x2 : Int32) (K : Int32 → tF → tA → Prop) : Prop := (p_X6_isSheep F Fn An x1 (fun r2 => ((r2 = 0 → (K (-1 : Int32) Fn An)) ∧ (¬ r2 = 0 → (p_X6_within x2 (6 : Int32) (fun r11 => ((¬ r11 = 0 → (vp_in x1 8 ∧ (∀ y28 : Int32, y28 = ((An 6) (x1).toNatClampNeg) → (vp_in x1 8 ∧ (∀ f_38 : tF, f_38 = (upd (An 6) (x1).toNatClampNeg x2) → (K y28 Fn (va_up An 6 f_38))))))) ∧ (r11 = 0 → (K (-1 : Int32) Fn An)))))))))
set_option maxHeartbeats 4000000 in
set_option maxRecDepth 100000 in
theorem w_X6_look (l : Launch) (D : va_G) (cI cZ cR : ClassId) (adK adV : Nat → Nat) (sz : Nat) (o : Nat) (q : Nat → Nat) (qn : Nat → Nat) (F : tF) (Fn : tF) (An : tA) (x1 : Int32) (x2 : Int32) (K : Int32 → tF → tA → Prop) (h : p_X6_look F Fn An x1 x2 K) : MI l D cI cZ cR adK adV yX6_look cX6_look 4 (some .int) (rmN 2 42) [.ref o, .int x1, .int x2] (wX6 o q F ++ wX2 cI cZ (q 0) qn Fn An : va_W) sz (fun (r : Int32) (u : (tF × tA)) => K r u.1 u.2) (fun (u : (tF × tA)) => (wX6 o q F ++ wX2 cI cZ (q 0) qn u.1 u.2 : va_W)) := by
  refine M_i (by decide +kernel) (Nat.le_of_ble_eq_true rfl) ?_
  intro p e s m args below meth c Q A9 ls X ret hP hD hS hl
  obtain ⟨hx, hb, hml, ht, hown, hK, hA, hE⟩ := id X
  have hl : lv_has ls 4 [(0, .ref o), (1, .int x1), (2, .int x2)] := hl
  unfold p_X6_look at h
  refine lv_aload_n hx hb dX6_look_0 rfl (lv_at hl 0 rfl) ?_
  refine lv_iload_n hx hb dX6_look_1 rfl (lv_at hl 1 rfl) ?_
  refine C_vi (wr := []) X hP hD hS [.int x1] [] (w_X6_isSheep l D cI cZ cR adK adV _ o q qn F Fn An x1 _ h) cal_X6_isSheep mw_17_8 rfl [0, 1, 2, 3, 4, 5, 6, 7, 8, 9] [] [0, 1, 2, 3, 4, 5, 6, 7, 8, 9] (fun u => (wX6 o q F ++ wX2 cI cZ (q 0) qn Fn An : va_W)) rfl rfl (fun _ => rfl) rfl 0 rfl rfl ⟨rfl, rfl⟩ ⟨Nat.le_of_ble_eq_true rfl, Nat.le_of_ble_eq_true rfl⟩ hl.1 rfl (Nat.le_of_ble_eq_true rfl) ⟨Nat.zero_le _, Nat.zero_le _⟩ dX6_look_2 (fun r2 u H locs h hP hD hS => ?_)
  refine lv_if_eq (tgt := 17) hx hb dX6_look_5 (by decide) (fun c5 => ?_) (fun c5 => ?_)
  · replace h := h.1 c5
    refine lv_iconst (v := -1) hx hb dX6_look_17 (by decide) ?_
    exact ret _ (Fn, An) _ _ _ _ dX6_look_18 h hP hD hS
  · replace h := h.2 c5
    refine lv_iload_n hx hb dX6_look_8 rfl (lv_at hl 2 rfl) ?_
    refine lv_bipush (v := 6) hx hb dX6_look_9 (by decide) ?_
    refine C_si (wr := [0, 1, 2, 3, 4, 5, 6, 7, 8, 9].filterMap (fun i => (wX6 o q F ++ wX2 cI cZ (q 0) qn Fn An : va_W)[i]?)) X hP hD hS [.int x2, .int (6 : Int32)] [] (w_X6_within l D cI cZ cR adK adV _ x2 (6 : Int32) _ h) cal_X6_within mw_15_9 rfl [] [0, 1, 2, 3, 4, 5, 6, 7, 8, 9] [0, 1, 2, 3, 4, 5, 6, 7, 8, 9] (fun u => (wX6 o q F ++ wX2 cI cZ (q 0) qn Fn An : va_W)) rfl rfl (fun _ => rfl) rfl ⟨rfl, rfl⟩ ⟨Nat.le_of_ble_eq_true rfl, Nat.le_of_ble_eq_true rfl⟩ hl.1 rfl (Nat.le_of_ble_eq_true rfl) ⟨Nat.zero_le _, Nat.zero_le _⟩ dX6_look_11 (fun r11 u H locs h hP hD hS => ?_)
    refine lv_if_ne (tgt := 19) hx hb dX6_look_14 (by decide) (fun c14 => ?_) (fun c14 => ?_)
    · replace h := h.1 c14
      refine lv_aload_n hx hb dX6_look_19 rfl (lv_at hl 0 rfl) ?_
      refine va_get (C := RX6) (T := TX6) (N := 13) (own := RX6) (v := .ref (q 0)) hx hb ht inlX6 hown hK hP 0 rfl rfl 0 (Nat.le_of_ble_eq_true rfl) (ht _ mw_1_16) (fun _ h9 => h9) rfl dX6_look_20 ?_
      refine va_get (C := RX2) (T := TX2) (N := 13) (own := RX6) (v := .ref (qn 6)) hx hb ht inlX2 hown hK hP 1 rfl rfl 6 (Nat.le_of_ble_eq_true rfl) (ht _ mw_17_7) (fun _ h9 => h9) rfl dX6_look_23 ?_
      refine lv_iload_n hx hb dX6_look_26 rfl (lv_at hl 1 rfl) ?_
      obtain ⟨hi27, h⟩ := h
      refine g_iald (f := (An 6)) (k := (x1).toNatClampNeg) hx hb hK hP 8 0 rfl rfl hi27 rfl dX6_look_27 ?_
      refine lv_topi (fun y28 ey28 => ?_)
      replace h := h y28 ey28
      refine lv_istore_n (lv' := [(3, .int y28), (0, .ref o), (1, .int x1), (2, .int x2)]) hx hb dX6_look_28 rfl hl (by decide) rfl (fun ls hl => ?_)
      refine lv_aload_n hx hb dX6_look_29 rfl (lv_at hl 1 rfl) ?_
      refine va_get (C := RX6) (T := TX6) (N := 13) (own := RX6) (v := .ref (q 0)) hx hb ht inlX6 hown hK hP 0 rfl rfl 0 (Nat.le_of_ble_eq_true rfl) (ht _ mw_1_16) (fun _ h9 => h9) rfl dX6_look_30 ?_
      refine va_get (C := RX2) (T := TX2) (N := 13) (own := RX6) (v := .ref (qn 6)) hx hb ht inlX2 hown hK hP 1 rfl rfl 6 (Nat.le_of_ble_eq_true rfl) (ht _ mw_17_7) (fun _ h9 => h9) rfl dX6_look_33 ?_
      refine lv_iload_n hx hb dX6_look_36 rfl (lv_at hl 2 rfl) ?_
      refine lv_iload_n hx hb dX6_look_37 rfl (lv_at hl 3 rfl) ?_
      obtain ⟨hi38, h⟩ := h
      obtain ⟨f_38, ef_38⟩ : ∃ z : tF, z = (upd (An 6) (x1).toNatClampNeg x2) := ⟨_, rfl⟩
      replace h := h f_38 ef_38
      refine g_iast (f := (An 6)) (k := (x1).toNatClampNeg) hx hb hK hP hD hS 8 0 rfl rfl hi38 rfl ef_38 dX6_look_38 (fun H locs hP hD hS => ?_)
      have hP : va_P D vwCl (wX6 o q F ++ wX2 cI cZ (q 0) qn Fn (va_up An 6 f_38) : va_W) H := hP
      have hD : va_D A9 (wX6 o q F ++ wX2 cI cZ (q 0) qn Fn (va_up An 6 f_38) : va_W) := hD
      refine lv_iload_n hx hb dX6_look_39 rfl (lv_at hl 0 rfl) ?_
      exact ret _ (Fn, (va_up An 6 f_38)) _ _ _ _ dX6_look_40 h hP hD hS
    · replace h := h.2 c14
      refine lv_iconst (v := -1) hx hb dX6_look_17 (by decide) ?_
      exact ret _ (Fn, An) _ _ _ _ dX6_look_18 h hP hD hS
theorem cal_X2_votersOf : CalV yX2_votersOf cX2_votersOf 4 (some .int) 1 := ⟨mw_21_22, mw_1_15, mw_21_20, mw_21_21, ⟨by decide +kernel, by decide +kernel, by decide +kernel⟩⟩
theorem dX6_place_0 : decode cX6_place 0 = .ok (.iload_n 1, 1) := by decide +kernel
theorem dX6_place_1 : decode cX6_place 1 = .ok (.bipush 6, 2) := by decide +kernel
theorem dX6_place_3 : decode cX6_place 3 = .ok (.invokestatic 95, 3) := by decide +kernel
theorem dX6_place_6 : decode cX6_place 6 = .ok (.ifCond .ne 5, 3) := by decide +kernel
theorem dX6_place_9 : decode cX6_place 9 = .ok (.iconst (-1), 1) := by decide +kernel
theorem dX6_place_10 : decode cX6_place 10 = .ok (.ireturn, 1) := by decide +kernel
theorem dX6_place_11 : decode cX6_place 11 = .ok (.iload_n 2, 1) := by decide +kernel
theorem dX6_place_12 : decode cX6_place 12 = .ok (.tableswitch 78 0 3 #[32, 42, 52, 61], 32) := by decide +kernel
theorem dX6_place_44 : decode cX6_place 44 = .ok (.aload_n 0, 1) := by decide +kernel
theorem dX6_place_45 : decode cX6_place 45 = .ok (.getfield 10, 3) := by decide +kernel
theorem dX6_place_48 : decode cX6_place 48 = .ok (.getfield 142, 3) := by decide +kernel
theorem dX6_place_51 : decode cX6_place 51 = .ok (.iload_n 1, 1) := by decide +kernel
theorem dX6_place_52 : decode cX6_place 52 = .ok (.iaload, 1) := by decide +kernel
theorem dX6_place_53 : decode cX6_place 53 = .ok (.ireturn, 1) := by decide +kernel
theorem dX6_place_54 : decode cX6_place 54 = .ok (.aload_n 0, 1) := by decide +kernel
theorem dX6_place_55 : decode cX6_place 55 = .ok (.getfield 10, 3) := by decide +kernel
theorem dX6_place_58 : decode cX6_place 58 = .ok (.getfield 145, 3) := by decide +kernel
theorem dX6_place_61 : decode cX6_place 61 = .ok (.iload_n 1, 1) := by decide +kernel
theorem dX6_place_62 : decode cX6_place 62 = .ok (.iaload, 1) := by decide +kernel
theorem dX6_place_63 : decode cX6_place 63 = .ok (.ireturn, 1) := by decide +kernel
theorem dX6_place_64 : decode cX6_place 64 = .ok (.aload_n 0, 1) := by decide +kernel
theorem dX6_place_65 : decode cX6_place 65 = .ok (.getfield 10, 3) := by decide +kernel
theorem dX6_place_68 : decode cX6_place 68 = .ok (.iload_n 1, 1) := by decide +kernel
theorem dX6_place_69 : decode cX6_place 69 = .ok (.invokevirtual 148, 3) := by decide +kernel
theorem dX6_place_72 : decode cX6_place 72 = .ok (.ireturn, 1) := by decide +kernel
theorem dX6_place_73 : decode cX6_place 73 = .ok (.aload_n 0, 1) := by decide +kernel
theorem dX6_place_74 : decode cX6_place 74 = .ok (.getfield 10, 3) := by decide +kernel
theorem dX6_place_77 : decode cX6_place 77 = .ok (.invokevirtual 151, 3) := by decide +kernel
theorem dX6_place_80 : decode cX6_place 80 = .ok (.aload_n 0, 1) := by decide +kernel
theorem dX6_place_81 : decode cX6_place 81 = .ok (.getfield 10, 3) := by decide +kernel
theorem dX6_place_84 : decode cX6_place 84 = .ok (.getfield 154, 3) := by decide +kernel
theorem dX6_place_87 : decode cX6_place 87 = .ok (.iload_n 1, 1) := by decide +kernel
theorem dX6_place_88 : decode cX6_place 88 = .ok (.iaload, 1) := by decide +kernel
theorem dX6_place_89 : decode cX6_place 89 = .ok (.ireturn, 1) := by decide +kernel
theorem dX6_place_90 : decode cX6_place 90 = .ok (.iconst (-1), 1) := by decide +kernel
theorem dX6_place_91 : decode cX6_place 91 = .ok (.ireturn, 1) := by decide +kernel
def p_X6_place (F : tF) (Fn : tF) (An : tA) (x1 : Int32) (x2 : Int32) (K : Int32 → tF → tA → Prop) : Prop := (p_X6_within x1 (6 : Int32) (fun r3 => ((¬ r3 = 0 → ((x2 = (0 : Int32) → (vp_in x1 6 ∧ (K ((An 1) (x1).toNatClampNeg) Fn An))) ∧ (x2 = (1 : Int32) → (vp_in x1 6 ∧ (K ((An 2) (x1).toNatClampNeg) Fn An))) ∧ (x2 = (2 : Int32) → (p_X2_votersOf Fn An x1 (fun r69 => (K r69 Fn An)))) ∧ (x2 = (3 : Int32) → (p_X2_takeVotes Fn An (fun Fn_77 An_77 => (vp_in x1 6 ∧ (K ((An_77 7) (x1).toNatClampNeg) Fn_77 An_77))))) ∧ (¬ x2 = (0 : Int32) → ¬ x2 = (1 : Int32) → ¬ x2 = (2 : Int32) → ¬ x2 = (3 : Int32) → (K (-1 : Int32) Fn An)))) ∧ (r3 = 0 → (K (-1 : Int32) Fn An)))))
set_option maxHeartbeats 4000000 in
set_option maxRecDepth 100000 in
theorem w_X6_place (l : Launch) (D : va_G) (cI cZ cR : ClassId) (adK adV : Nat → Nat) (sz : Nat) (o : Nat) (q : Nat → Nat) (qn : Nat → Nat) (F : tF) (Fn : tF) (An : tA) (x1 : Int32) (x2 : Int32) (K : Int32 → tF → tA → Prop) (h : p_X6_place F Fn An x1 x2 K) : MI l D cI cZ cR adK adV yX6_place cX6_place 3 (some .int) (rmN 4 172) [.ref o, .int x1, .int x2] (wX6 o q F ++ wX2 cI cZ (q 0) qn Fn An : va_W) sz (fun (r : Int32) (u : (tF × tA)) => K r u.1 u.2) (fun (u : (tF × tA)) => (wX6 o q F ++ wX2 cI cZ (q 0) qn u.1 u.2 : va_W)) := by
  refine M_i (by decide +kernel) (Nat.le_of_ble_eq_true rfl) ?_
  intro p e s m args below meth c Q A9 ls X ret hP hD hS hl
  obtain ⟨hx, hb, hml, ht, hown, hK, hA, hE⟩ := id X
  have hl : lv_has ls 3 [(0, .ref o), (1, .int x1), (2, .int x2)] := hl
  unfold p_X6_place at h
  refine lv_iload_n hx hb dX6_place_0 rfl (lv_at hl 1 rfl) ?_
  refine lv_bipush (v := 6) hx hb dX6_place_1 (by decide) ?_
  refine C_si (wr := [0, 1, 2, 3, 4, 5, 6, 7, 8, 9].filterMap (fun i => (wX6 o q F ++ wX2 cI cZ (q 0) qn Fn An : va_W)[i]?)) X hP hD hS [.int x1, .int (6 : Int32)] [] (w_X6_within l D cI cZ cR adK adV _ x1 (6 : Int32) _ h) cal_X6_within mw_15_9 rfl [] [0, 1, 2, 3, 4, 5, 6, 7, 8, 9] [0, 1, 2, 3, 4, 5, 6, 7, 8, 9] (fun u => (wX6 o q F ++ wX2 cI cZ (q 0) qn Fn An : va_W)) rfl rfl (fun _ => rfl) rfl ⟨rfl, rfl⟩ ⟨Nat.le_of_ble_eq_true rfl, Nat.le_of_ble_eq_true rfl⟩ hl.1 rfl (Nat.le_of_ble_eq_true rfl) ⟨Nat.zero_le _, Nat.zero_le _⟩ dX6_place_3 (fun r3 u H locs h hP hD hS => ?_)
  refine lv_if_ne (tgt := 11) hx hb dX6_place_6 (by decide) (fun c6 => ?_) (fun c6 => ?_)
  · replace h := h.1 c6
    refine lv_iload_n hx hb dX6_place_11 rfl (lv_at hl 2 rfl) ?_
    by_cases c12_0 : x2 = (0 : Int32)
    · replace h := h.1 c12_0
      refine lv_tableIn (tgt := 44) hx hb dX6_place_12 (by rw [c12_0]; decide) (by rw [c12_0]; decide) (by rw [c12_0]; rfl) (by decide) ?_
      refine lv_aload_n hx hb dX6_place_44 rfl (lv_at hl 0 rfl) ?_
      refine va_get (C := RX6) (T := TX6) (N := 13) (own := RX6) (v := .ref (q 0)) hx hb ht inlX6 hown hK hP 0 rfl rfl 0 (Nat.le_of_ble_eq_true rfl) (ht _ mw_1_16) (fun _ h9 => h9) rfl dX6_place_45 ?_
      refine va_get (C := RX2) (T := TX2) (N := 13) (own := RX6) (v := .ref (qn 1)) hx hb ht inlX2 hown hK hP 1 rfl rfl 1 (Nat.le_of_ble_eq_true rfl) (ht _ mw_21_16) (fun _ h9 => h9) rfl dX6_place_48 ?_
      refine lv_iload_n hx hb dX6_place_51 rfl (lv_at hl 1 rfl) ?_
      obtain ⟨hi52, h⟩ := h
      refine g_iald (f := (An 1)) (k := (x1).toNatClampNeg) hx hb hK hP 3 0 rfl rfl hi52 rfl dX6_place_52 ?_
      exact ret _ (Fn, An) _ _ _ _ dX6_place_53 h hP hD hS
    by_cases c12_1 : x2 = (1 : Int32)
    · replace h := h.2.1 c12_1
      refine lv_tableIn (tgt := 54) hx hb dX6_place_12 (by rw [c12_1]; decide) (by rw [c12_1]; decide) (by rw [c12_1]; rfl) (by decide) ?_
      refine lv_aload_n hx hb dX6_place_54 rfl (lv_at hl 0 rfl) ?_
      refine va_get (C := RX6) (T := TX6) (N := 13) (own := RX6) (v := .ref (q 0)) hx hb ht inlX6 hown hK hP 0 rfl rfl 0 (Nat.le_of_ble_eq_true rfl) (ht _ mw_1_16) (fun _ h9 => h9) rfl dX6_place_55 ?_
      refine va_get (C := RX2) (T := TX2) (N := 13) (own := RX6) (v := .ref (qn 2)) hx hb ht inlX2 hown hK hP 1 rfl rfl 2 (Nat.le_of_ble_eq_true rfl) (ht _ mw_21_17) (fun _ h9 => h9) rfl dX6_place_58 ?_
      refine lv_iload_n hx hb dX6_place_61 rfl (lv_at hl 1 rfl) ?_
      obtain ⟨hi62, h⟩ := h
      refine g_iald (f := (An 2)) (k := (x1).toNatClampNeg) hx hb hK hP 4 0 rfl rfl hi62 rfl dX6_place_62 ?_
      exact ret _ (Fn, An) _ _ _ _ dX6_place_63 h hP hD hS
    by_cases c12_2 : x2 = (2 : Int32)
    · replace h := h.2.2.1 c12_2
      refine lv_tableIn (tgt := 64) hx hb dX6_place_12 (by rw [c12_2]; decide) (by rw [c12_2]; decide) (by rw [c12_2]; rfl) (by decide) ?_
      refine lv_aload_n hx hb dX6_place_64 rfl (lv_at hl 0 rfl) ?_
      refine va_get (C := RX6) (T := TX6) (N := 13) (own := RX6) (v := .ref (q 0)) hx hb ht inlX6 hown hK hP 0 rfl rfl 0 (Nat.le_of_ble_eq_true rfl) (ht _ mw_1_16) (fun _ h9 => h9) rfl dX6_place_65 ?_
      refine lv_iload_n hx hb dX6_place_68 rfl (lv_at hl 1 rfl) ?_
      refine C_vi (wr := [0].filterMap (fun i => (wX6 o q F ++ wX2 cI cZ (q 0) qn Fn An : va_W)[i]?)) X hP hD hS [.int x1] [] (w_X2_votersOf l D cI cZ cR adK adV _ (q 0) qn Fn An x1 _ h) cal_X2_votersOf mw_21_19 rfl [1, 2, 3, 4, 5, 6, 7, 8, 9] [0] [0, 1, 2, 3, 4, 5, 6, 7, 8, 9] (fun u => (wX6 o q F ++ wX2 cI cZ (q 0) qn Fn An : va_W)) rfl rfl (fun _ => rfl) rfl 1 rfl rfl ⟨rfl, rfl⟩ ⟨Nat.le_of_ble_eq_true rfl, Nat.le_of_ble_eq_true rfl⟩ hl.1 rfl (Nat.le_of_ble_eq_true rfl) ⟨Nat.zero_le _, Nat.zero_le _⟩ dX6_place_69 (fun r69 u H locs h hP hD hS => ?_)
      exact ret _ (Fn, An) _ _ _ _ dX6_place_72 h hP hD hS
    by_cases c12_3 : x2 = (3 : Int32)
    · replace h := h.2.2.2.1 c12_3
      refine lv_tableIn (tgt := 73) hx hb dX6_place_12 (by rw [c12_3]; decide) (by rw [c12_3]; decide) (by rw [c12_3]; rfl) (by decide) ?_
      refine lv_aload_n hx hb dX6_place_73 rfl (lv_at hl 0 rfl) ?_
      refine va_get (C := RX6) (T := TX6) (N := 13) (own := RX6) (v := .ref (q 0)) hx hb ht inlX6 hown hK hP 0 rfl rfl 0 (Nat.le_of_ble_eq_true rfl) (ht _ mw_1_16) (fun _ h9 => h9) rfl dX6_place_74 ?_
      refine C_vv (wr := [0].filterMap (fun i => (wX6 o q F ++ wX2 cI cZ (q 0) qn Fn An : va_W)[i]?)) X hP hD hS [] [] (w_X2_takeVotes l D cI cZ cR adK adV _ (q 0) qn Fn An _ h) cal_X2_takeVotes mw_22_0 rfl [1, 2, 3, 4, 5, 6, 7, 8, 9] [0] [0, 1, 2, 3, 4, 5, 6, 7, 8, 9] (fun u => (wX6 o q F ++ wX2 cI cZ (q 0) qn u.1 u.2 : va_W)) rfl rfl (fun _ => rfl) rfl 1 rfl rfl ⟨rfl, rfl⟩ ⟨Nat.le_of_ble_eq_true rfl, Nat.le_of_ble_eq_true rfl⟩ hl.1 rfl (Nat.le_of_ble_eq_true rfl) ⟨Nat.zero_le _, Nat.zero_le _⟩ dX6_place_77 (fun u H locs h hP hD hS => ?_)
      obtain ⟨Fn_77, An_77⟩ := u
      try dsimp only at h
      have hP : va_P D vwCl (wX6 o q F ++ wX2 cI cZ (q 0) qn Fn_77 An_77 : va_W) H := hP
      have hD : va_D A9 (wX6 o q F ++ wX2 cI cZ (q 0) qn Fn_77 An_77 : va_W) := hD
      refine lv_aload_n hx hb dX6_place_80 rfl (lv_at hl 0 rfl) ?_
      refine va_get (C := RX6) (T := TX6) (N := 13) (own := RX6) (v := .ref (q 0)) hx hb ht inlX6 hown hK hP 0 rfl rfl 0 (Nat.le_of_ble_eq_true rfl) (ht _ mw_1_16) (fun _ h9 => h9) rfl dX6_place_81 ?_
      refine va_get (C := RX2) (T := TX2) (N := 13) (own := RX6) (v := .ref (qn 7)) hx hb ht inlX2 hown hK hP 1 rfl rfl 7 (Nat.le_of_ble_eq_true rfl) (ht _ mw_21_18) (fun _ h9 => h9) rfl dX6_place_84 ?_
      refine lv_iload_n hx hb dX6_place_87 rfl (lv_at hl 1 rfl) ?_
      obtain ⟨hi88, h⟩ := h
      refine g_iald (f := (An_77 7)) (k := (x1).toNatClampNeg) hx hb hK hP 9 0 rfl rfl hi88 rfl dX6_place_88 ?_
      exact ret _ (Fn_77, An_77) _ _ _ _ dX6_place_89 h hP hD hS
    replace h := h.2.2.2.2 c12_0 c12_1 c12_2 c12_3
    refine g_tdef (tgt := 90) hx hb dX6_place_12 ?_ (by decide) ?_
    · exact Or.inl (sw0_3 c12_0 c12_1 c12_2 c12_3)
    refine lv_iconst (v := -1) hx hb dX6_place_90 (by decide) ?_
    exact ret _ (Fn, An) _ _ _ _ dX6_place_91 h hP hD hS
  · replace h := h.2 c6
    refine lv_iconst (v := -1) hx hb dX6_place_9 (by decide) ?_
    exact ret _ (Fn, An) _ _ _ _ dX6_place_10 h hP hD hS
theorem dX6_grow_0 : decode cX6_grow 0 = .ok (.iload_n 1, 1) := by decide +kernel
theorem dX6_grow_1 : decode cX6_grow 1 = .ok (.bipush 6, 2) := by decide +kernel
theorem dX6_grow_3 : decode cX6_grow 3 = .ok (.invokestatic 95, 3) := by decide +kernel
theorem dX6_grow_6 : decode cX6_grow 6 = .ok (.ifCond .eq 18, 3) := by decide +kernel
theorem dX6_grow_9 : decode cX6_grow 9 = .ok (.iload_n 2, 1) := by decide +kernel
theorem dX6_grow_10 : decode cX6_grow 10 = .ok (.iconst 2, 1) := by decide +kernel
theorem dX6_grow_11 : decode cX6_grow 11 = .ok (.invokestatic 95, 3) := by decide +kernel
theorem dX6_grow_14 : decode cX6_grow 14 = .ok (.ifCond .eq 10, 3) := by decide +kernel
theorem dX6_grow_17 : decode cX6_grow 17 = .ok (.iload_n 3, 1) := by decide +kernel
theorem dX6_grow_18 : decode cX6_grow 18 = .ok (.invokestatic 106, 3) := by decide +kernel
theorem dX6_grow_21 : decode cX6_grow 21 = .ok (.ifCond .ne 5, 3) := by decide +kernel
theorem dX6_grow_24 : decode cX6_grow 24 = .ok (.iconst (-1), 1) := by decide +kernel
theorem dX6_grow_25 : decode cX6_grow 25 = .ok (.ireturn, 1) := by decide +kernel
theorem dX6_grow_26 : decode cX6_grow 26 = .ok (.iload_n 2, 1) := by decide +kernel
theorem dX6_grow_27 : decode cX6_grow 27 = .ok (.ifCond .ne 13, 3) := by decide +kernel
theorem dX6_grow_30 : decode cX6_grow 30 = .ok (.aload_n 0, 1) := by decide +kernel
theorem dX6_grow_31 : decode cX6_grow 31 = .ok (.getfield 10, 3) := by decide +kernel
theorem dX6_grow_34 : decode cX6_grow 34 = .ok (.getfield 142, 3) := by decide +kernel
theorem dX6_grow_37 : decode cX6_grow 37 = .ok (.goto 10, 3) := by decide +kernel
theorem dX6_grow_40 : decode cX6_grow 40 = .ok (.aload_n 0, 1) := by decide +kernel
theorem dX6_grow_41 : decode cX6_grow 41 = .ok (.getfield 10, 3) := by decide +kernel
theorem dX6_grow_44 : decode cX6_grow 44 = .ok (.getfield 145, 3) := by decide +kernel
theorem dX6_grow_47 : decode cX6_grow 47 = .ok (.astore 4, 2) := by decide +kernel
theorem dX6_grow_49 : decode cX6_grow 49 = .ok (.aload 4, 2) := by decide +kernel
theorem dX6_grow_51 : decode cX6_grow 51 = .ok (.iload_n 1, 1) := by decide +kernel
theorem dX6_grow_52 : decode cX6_grow 52 = .ok (.iaload, 1) := by decide +kernel
theorem dX6_grow_53 : decode cX6_grow 53 = .ok (.istore 5, 2) := by decide +kernel
theorem dX6_grow_55 : decode cX6_grow 55 = .ok (.aload 4, 2) := by decide +kernel
theorem dX6_grow_57 : decode cX6_grow 57 = .ok (.iload_n 1, 1) := by decide +kernel
theorem dX6_grow_58 : decode cX6_grow 58 = .ok (.iload_n 3, 1) := by decide +kernel
theorem dX6_grow_59 : decode cX6_grow 59 = .ok (.iastore, 1) := by decide +kernel
theorem dX6_grow_60 : decode cX6_grow 60 = .ok (.iload 5, 2) := by decide +kernel
theorem dX6_grow_62 : decode cX6_grow 62 = .ok (.ireturn, 1) := by decide +kernel
def p_X6_grow (F : tF) (Fn : tF) (An : tA) (x1 : Int32) (x2 : Int32) (x3 : Int32) (K : Int32 → tF → tA → Prop) : Prop := (p_X6_within x1 (6 : Int32) (fun r3 => ((r3 = 0 → (K (-1 : Int32) Fn An)) ∧ (¬ r3 = 0 → (p_X6_within x2 (2 : Int32) (fun r11 => ((r11 = 0 → (K (-1 : Int32) Fn An)) ∧ (¬ r11 = 0 → (p_X6_isFigure x3 (fun r18 => ((¬ r18 = 0 → ((¬ x2 = 0 → (vp_in x1 6 ∧ (∀ y53 : Int32, y53 = ((An 2) (x1).toNatClampNeg) → (vp_in x1 6 ∧ (∀ f_59 : tF, f_59 = (upd (An 2) (x1).toNatClampNeg x3) → (K y53 Fn (va_up An 2 f_59))))))) ∧ (x2 = 0 → (vp_in x1 6 ∧ (∀ y53 : Int32, y53 = ((An 1) (x1).toNatClampNeg) → (vp_in x1 6 ∧ (∀ f_59 : tF, f_59 = (upd (An 1) (x1).toNatClampNeg x3) → (K y53 Fn (va_up An 1 f_59))))))))) ∧ (r18 = 0 → (K (-1 : Int32) Fn An)))))))))))))
set_option maxHeartbeats 4000000 in
set_option maxRecDepth 100000 in
theorem w_X6_grow (l : Launch) (D : va_G) (cI cZ cR : ClassId) (adK adV : Nat → Nat) (sz : Nat) (o : Nat) (q : Nat → Nat) (qn : Nat → Nat) (F : tF) (Fn : tF) (An : tA) (x1 : Int32) (x2 : Int32) (x3 : Int32) (K : Int32 → tF → tA → Prop) (h : p_X6_grow F Fn An x1 x2 x3 K) : MI l D cI cZ cR adK adV yX6_grow cX6_grow 6 (some .int) (rmN 2 41) [.ref o, .int x1, .int x2, .int x3] (wX6 o q F ++ wX2 cI cZ (q 0) qn Fn An : va_W) sz (fun (r : Int32) (u : (tF × tA)) => K r u.1 u.2) (fun (u : (tF × tA)) => (wX6 o q F ++ wX2 cI cZ (q 0) qn u.1 u.2 : va_W)) := by
  refine M_i (by decide +kernel) (Nat.le_of_ble_eq_true rfl) ?_
  intro p e s m args below meth c Q A9 ls X ret hP hD hS hl
  obtain ⟨hx, hb, hml, ht, hown, hK, hA, hE⟩ := id X
  have hl : lv_has ls 6 [(0, .ref o), (1, .int x1), (2, .int x2), (3, .int x3)] := hl
  unfold p_X6_grow at h
  refine lv_iload_n hx hb dX6_grow_0 rfl (lv_at hl 1 rfl) ?_
  refine lv_bipush (v := 6) hx hb dX6_grow_1 (by decide) ?_
  refine C_si (wr := [0, 1, 2, 3, 4, 5, 6, 7, 8, 9].filterMap (fun i => (wX6 o q F ++ wX2 cI cZ (q 0) qn Fn An : va_W)[i]?)) X hP hD hS [.int x1, .int (6 : Int32)] [] (w_X6_within l D cI cZ cR adK adV _ x1 (6 : Int32) _ h) cal_X6_within mw_15_9 rfl [] [0, 1, 2, 3, 4, 5, 6, 7, 8, 9] [0, 1, 2, 3, 4, 5, 6, 7, 8, 9] (fun u => (wX6 o q F ++ wX2 cI cZ (q 0) qn Fn An : va_W)) rfl rfl (fun _ => rfl) rfl ⟨rfl, rfl⟩ ⟨Nat.le_of_ble_eq_true rfl, Nat.le_of_ble_eq_true rfl⟩ hl.1 rfl (Nat.le_of_ble_eq_true rfl) ⟨Nat.zero_le _, Nat.zero_le _⟩ dX6_grow_3 (fun r3 u H locs h hP hD hS => ?_)
  refine lv_if_eq (tgt := 24) hx hb dX6_grow_6 (by decide) (fun c6 => ?_) (fun c6 => ?_)
  · replace h := h.1 c6
    refine lv_iconst (v := -1) hx hb dX6_grow_24 (by decide) ?_
    exact ret _ (Fn, An) _ _ _ _ dX6_grow_25 h hP hD hS
  · replace h := h.2 c6
    refine lv_iload_n hx hb dX6_grow_9 rfl (lv_at hl 2 rfl) ?_
    refine lv_iconst (v := 2) hx hb dX6_grow_10 (by decide) ?_
    refine C_si (wr := [0, 1, 2, 3, 4, 5, 6, 7, 8, 9].filterMap (fun i => (wX6 o q F ++ wX2 cI cZ (q 0) qn Fn An : va_W)[i]?)) X hP hD hS [.int x2, .int (2 : Int32)] [] (w_X6_within l D cI cZ cR adK adV _ x2 (2 : Int32) _ h) cal_X6_within mw_15_9 rfl [] [0, 1, 2, 3, 4, 5, 6, 7, 8, 9] [0, 1, 2, 3, 4, 5, 6, 7, 8, 9] (fun u => (wX6 o q F ++ wX2 cI cZ (q 0) qn Fn An : va_W)) rfl rfl (fun _ => rfl) rfl ⟨rfl, rfl⟩ ⟨Nat.le_of_ble_eq_true rfl, Nat.le_of_ble_eq_true rfl⟩ hl.1 rfl (Nat.le_of_ble_eq_true rfl) ⟨Nat.zero_le _, Nat.zero_le _⟩ dX6_grow_11 (fun r11 u H locs h hP hD hS => ?_)
    refine lv_if_eq (tgt := 24) hx hb dX6_grow_14 (by decide) (fun c14 => ?_) (fun c14 => ?_)
    · replace h := h.1 c14
      refine lv_iconst (v := -1) hx hb dX6_grow_24 (by decide) ?_
      exact ret _ (Fn, An) _ _ _ _ dX6_grow_25 h hP hD hS
    · replace h := h.2 c14
      refine lv_iload_n hx hb dX6_grow_17 rfl (lv_at hl 3 rfl) ?_
      refine C_si (wr := [0, 1, 2, 3, 4, 5, 6, 7, 8, 9].filterMap (fun i => (wX6 o q F ++ wX2 cI cZ (q 0) qn Fn An : va_W)[i]?)) X hP hD hS [.int x3] [] (w_X6_isFigure l D cI cZ cR adK adV _ x3 _ h) cal_X6_isFigure mw_16_12 rfl [] [0, 1, 2, 3, 4, 5, 6, 7, 8, 9] [0, 1, 2, 3, 4, 5, 6, 7, 8, 9] (fun u => (wX6 o q F ++ wX2 cI cZ (q 0) qn Fn An : va_W)) rfl rfl (fun _ => rfl) rfl ⟨rfl, rfl⟩ ⟨Nat.le_of_ble_eq_true rfl, Nat.le_of_ble_eq_true rfl⟩ hl.1 rfl (Nat.le_of_ble_eq_true rfl) ⟨Nat.zero_le _, Nat.zero_le _⟩ dX6_grow_18 (fun r18 u H locs h hP hD hS => ?_)
      refine lv_if_ne (tgt := 26) hx hb dX6_grow_21 (by decide) (fun c21 => ?_) (fun c21 => ?_)
      · replace h := h.1 c21
        refine lv_iload_n hx hb dX6_grow_26 rfl (lv_at hl 2 rfl) ?_
        refine lv_if_ne (tgt := 40) hx hb dX6_grow_27 (by decide) (fun c27 => ?_) (fun c27 => ?_)
        · replace h := h.1 c27
          refine lv_aload_n hx hb dX6_grow_40 rfl (lv_at hl 0 rfl) ?_
          refine va_get (C := RX6) (T := TX6) (N := 13) (own := RX6) (v := .ref (q 0)) hx hb ht inlX6 hown hK hP 0 rfl rfl 0 (Nat.le_of_ble_eq_true rfl) (ht _ mw_1_16) (fun _ h9 => h9) rfl dX6_grow_41 ?_
          refine va_get (C := RX2) (T := TX2) (N := 13) (own := RX6) (v := .ref (qn 2)) hx hb ht inlX2 hown hK hP 1 rfl rfl 2 (Nat.le_of_ble_eq_true rfl) (ht _ mw_21_17) (fun _ h9 => h9) rfl dX6_grow_44 ?_
          refine lv_astore (lv' := [(4, .ref (qn 2)), (0, .ref o), (1, .int x1), (2, .int x2), (3, .int x3)]) hx hb dX6_grow_47 hl (by decide) rfl (fun ls hl => ?_)
          refine lv_aload hx hb dX6_grow_49 (lv_at hl 0 rfl) ?_
          refine lv_iload_n hx hb dX6_grow_51 rfl (lv_at hl 2 rfl) ?_
          obtain ⟨hi52, h⟩ := h
          refine g_iald (f := (An 2)) (k := (x1).toNatClampNeg) hx hb hK hP 4 0 rfl rfl hi52 rfl dX6_grow_52 ?_
          refine lv_topi (fun y53 ey53 => ?_)
          replace h := h y53 ey53
          refine lv_istore (lv' := [(5, .int y53), (4, .ref (qn 2)), (0, .ref o), (1, .int x1), (2, .int x2), (3, .int x3)]) hx hb dX6_grow_53 hl (by decide) rfl (fun ls hl => ?_)
          refine lv_aload hx hb dX6_grow_55 (lv_at hl 1 rfl) ?_
          refine lv_iload_n hx hb dX6_grow_57 rfl (lv_at hl 3 rfl) ?_
          refine lv_iload_n hx hb dX6_grow_58 rfl (lv_at hl 5 rfl) ?_
          obtain ⟨hi59, h⟩ := h
          obtain ⟨f_59, ef_59⟩ : ∃ z : tF, z = (upd (An 2) (x1).toNatClampNeg x3) := ⟨_, rfl⟩
          replace h := h f_59 ef_59
          refine g_iast (f := (An 2)) (k := (x1).toNatClampNeg) hx hb hK hP hD hS 4 0 rfl rfl hi59 rfl ef_59 dX6_grow_59 (fun H locs hP hD hS => ?_)
          have hP : va_P D vwCl (wX6 o q F ++ wX2 cI cZ (q 0) qn Fn (va_up An 2 f_59) : va_W) H := hP
          have hD : va_D A9 (wX6 o q F ++ wX2 cI cZ (q 0) qn Fn (va_up An 2 f_59) : va_W) := hD
          refine lv_iload hx hb dX6_grow_60 (lv_at hl 0 rfl) ?_
          exact ret _ (Fn, (va_up An 2 f_59)) _ _ _ _ dX6_grow_62 h hP hD hS
        · replace h := h.2 c27
          refine lv_aload_n hx hb dX6_grow_30 rfl (lv_at hl 0 rfl) ?_
          refine va_get (C := RX6) (T := TX6) (N := 13) (own := RX6) (v := .ref (q 0)) hx hb ht inlX6 hown hK hP 0 rfl rfl 0 (Nat.le_of_ble_eq_true rfl) (ht _ mw_1_16) (fun _ h9 => h9) rfl dX6_grow_31 ?_
          refine va_get (C := RX2) (T := TX2) (N := 13) (own := RX6) (v := .ref (qn 1)) hx hb ht inlX2 hown hK hP 1 rfl rfl 1 (Nat.le_of_ble_eq_true rfl) (ht _ mw_21_16) (fun _ h9 => h9) rfl dX6_grow_34 ?_
          refine lv_goto (tgt := 47) hx hb dX6_grow_37 (by decide) ?_
          refine lv_astore (lv' := [(4, .ref (qn 1)), (0, .ref o), (1, .int x1), (2, .int x2), (3, .int x3)]) hx hb dX6_grow_47 hl (by decide) rfl (fun ls hl => ?_)
          refine lv_aload hx hb dX6_grow_49 (lv_at hl 0 rfl) ?_
          refine lv_iload_n hx hb dX6_grow_51 rfl (lv_at hl 2 rfl) ?_
          obtain ⟨hi52, h⟩ := h
          refine g_iald (f := (An 1)) (k := (x1).toNatClampNeg) hx hb hK hP 3 0 rfl rfl hi52 rfl dX6_grow_52 ?_
          refine lv_topi (fun y53 ey53 => ?_)
          replace h := h y53 ey53
          refine lv_istore (lv' := [(5, .int y53), (4, .ref (qn 1)), (0, .ref o), (1, .int x1), (2, .int x2), (3, .int x3)]) hx hb dX6_grow_53 hl (by decide) rfl (fun ls hl => ?_)
          refine lv_aload hx hb dX6_grow_55 (lv_at hl 1 rfl) ?_
          refine lv_iload_n hx hb dX6_grow_57 rfl (lv_at hl 3 rfl) ?_
          refine lv_iload_n hx hb dX6_grow_58 rfl (lv_at hl 5 rfl) ?_
          obtain ⟨hi59, h⟩ := h
          obtain ⟨f_59, ef_59⟩ : ∃ z : tF, z = (upd (An 1) (x1).toNatClampNeg x3) := ⟨_, rfl⟩
          replace h := h f_59 ef_59
          refine g_iast (f := (An 1)) (k := (x1).toNatClampNeg) hx hb hK hP hD hS 3 0 rfl rfl hi59 rfl ef_59 dX6_grow_59 (fun H locs hP hD hS => ?_)
          have hP : va_P D vwCl (wX6 o q F ++ wX2 cI cZ (q 0) qn Fn (va_up An 1 f_59) : va_W) H := hP
          have hD : va_D A9 (wX6 o q F ++ wX2 cI cZ (q 0) qn Fn (va_up An 1 f_59) : va_W) := hD
          refine lv_iload hx hb dX6_grow_60 (lv_at hl 0 rfl) ?_
          exact ret _ (Fn, (va_up An 1 f_59)) _ _ _ _ dX6_grow_62 h hP hD hS
      · replace h := h.2 c21
        refine lv_iconst (v := -1) hx hb dX6_grow_24 (by decide) ?_
        exact ret _ (Fn, An) _ _ _ _ dX6_grow_25 h hP hD hS
theorem dX6_flock_0 : decode cX6_flock 0 = .ok (.iload_n 1, 1) := by decide +kernel
theorem dX6_flock_1 : decode cX6_flock 1 = .ok (.bipush 6, 2) := by decide +kernel
theorem dX6_flock_3 : decode cX6_flock 3 = .ok (.invokestatic 95, 3) := by decide +kernel
theorem dX6_flock_6 : decode cX6_flock 6 = .ok (.ifCond .ne 5, 3) := by decide +kernel
theorem dX6_flock_9 : decode cX6_flock 9 = .ok (.iconst (-1), 1) := by decide +kernel
theorem dX6_flock_10 : decode cX6_flock 10 = .ok (.ireturn, 1) := by decide +kernel
theorem dX6_flock_11 : decode cX6_flock 11 = .ok (.aload_n 0, 1) := by decide +kernel
theorem dX6_flock_12 : decode cX6_flock 12 = .ok (.getfield 10, 3) := by decide +kernel
theorem dX6_flock_15 : decode cX6_flock 15 = .ok (.getfield 157, 3) := by decide +kernel
theorem dX6_flock_18 : decode cX6_flock 18 = .ok (.istore_n 2, 1) := by decide +kernel
theorem dX6_flock_19 : decode cX6_flock 19 = .ok (.aload_n 0, 1) := by decide +kernel
theorem dX6_flock_20 : decode cX6_flock 20 = .ok (.getfield 10, 3) := by decide +kernel
theorem dX6_flock_23 : decode cX6_flock 23 = .ok (.iload_n 1, 1) := by decide +kernel
theorem dX6_flock_24 : decode cX6_flock 24 = .ok (.putfield 157, 3) := by decide +kernel
theorem dX6_flock_27 : decode cX6_flock 27 = .ok (.iload_n 2, 1) := by decide +kernel
theorem dX6_flock_28 : decode cX6_flock 28 = .ok (.ireturn, 1) := by decide +kernel
def p_X6_flock (F : tF) (Fn : tF) (An : tA) (x1 : Int32) (K : Int32 → tF → tA → Prop) : Prop := (p_X6_within x1 (6 : Int32) (fun r3 => ((¬ r3 = 0 → (∀ y18 : Int32, y18 = (Fn 9) → (K y18 (upd Fn 9 x1) An))) ∧ (r3 = 0 → (K (-1 : Int32) Fn An)))))
set_option maxHeartbeats 4000000 in
set_option maxRecDepth 100000 in
theorem w_X6_flock (l : Launch) (D : va_G) (cI cZ cR : ClassId) (adK adV : Nat → Nat) (sz : Nat) (o : Nat) (q : Nat → Nat) (qn : Nat → Nat) (F : tF) (Fn : tF) (An : tA) (x1 : Int32) (K : Int32 → tF → tA → Prop) (h : p_X6_flock F Fn An x1 K) : MI l D cI cZ cR adK adV yX6_flock cX6_flock 3 (some .int) (rmN 1 21) [.ref o, .int x1] (wX6 o q F ++ wX2 cI cZ (q 0) qn Fn An : va_W) sz (fun (r : Int32) (u : (tF × tA)) => K r u.1 u.2) (fun (u : (tF × tA)) => (wX6 o q F ++ wX2 cI cZ (q 0) qn u.1 u.2 : va_W)) := by
  refine M_i (by decide +kernel) (Nat.le_of_ble_eq_true rfl) ?_
  intro p e s m args below meth c Q A9 ls X ret hP hD hS hl
  obtain ⟨hx, hb, hml, ht, hown, hK, hA, hE⟩ := id X
  have hl : lv_has ls 3 [(0, .ref o), (1, .int x1)] := hl
  unfold p_X6_flock at h
  refine lv_iload_n hx hb dX6_flock_0 rfl (lv_at hl 1 rfl) ?_
  refine lv_bipush (v := 6) hx hb dX6_flock_1 (by decide) ?_
  refine C_si (wr := [0, 1, 2, 3, 4, 5, 6, 7, 8, 9].filterMap (fun i => (wX6 o q F ++ wX2 cI cZ (q 0) qn Fn An : va_W)[i]?)) X hP hD hS [.int x1, .int (6 : Int32)] [] (w_X6_within l D cI cZ cR adK adV _ x1 (6 : Int32) _ h) cal_X6_within mw_15_9 rfl [] [0, 1, 2, 3, 4, 5, 6, 7, 8, 9] [0, 1, 2, 3, 4, 5, 6, 7, 8, 9] (fun u => (wX6 o q F ++ wX2 cI cZ (q 0) qn Fn An : va_W)) rfl rfl (fun _ => rfl) rfl ⟨rfl, rfl⟩ ⟨Nat.le_of_ble_eq_true rfl, Nat.le_of_ble_eq_true rfl⟩ hl.1 rfl (Nat.le_of_ble_eq_true rfl) ⟨Nat.zero_le _, Nat.zero_le _⟩ dX6_flock_3 (fun r3 u H locs h hP hD hS => ?_)
  refine lv_if_ne (tgt := 11) hx hb dX6_flock_6 (by decide) (fun c6 => ?_) (fun c6 => ?_)
  · replace h := h.1 c6
    refine lv_aload_n hx hb dX6_flock_11 rfl (lv_at hl 0 rfl) ?_
    refine va_get (C := RX6) (T := TX6) (N := 13) (own := RX6) (v := .ref (q 0)) hx hb ht inlX6 hown hK hP 0 rfl rfl 0 (Nat.le_of_ble_eq_true rfl) (ht _ mw_1_16) (fun _ h9 => h9) rfl dX6_flock_12 ?_
    refine va_get (C := RX2) (T := TX2) (N := 13) (own := RX6) (v := .int (Fn 9)) hx hb ht inlX2 hown hK hP 1 rfl rfl 9 (Nat.le_of_ble_eq_true rfl) (ht _ mw_23_9) (fun _ h9 => h9) rfl dX6_flock_15 ?_
    refine lv_topi (fun y18 ey18 => ?_)
    replace h := h y18 ey18
    refine lv_istore_n (lv' := [(2, .int y18), (0, .ref o), (1, .int x1)]) hx hb dX6_flock_18 rfl hl (by decide) rfl (fun ls hl => ?_)
    refine lv_aload_n hx hb dX6_flock_19 rfl (lv_at hl 1 rfl) ?_
    refine va_get (C := RX6) (T := TX6) (N := 13) (own := RX6) (v := .ref (q 0)) hx hb ht inlX6 hown hK hP 0 rfl rfl 0 (Nat.le_of_ble_eq_true rfl) (ht _ mw_1_16) (fun _ h9 => h9) rfl dX6_flock_20 ?_
    refine lv_iload_n hx hb dX6_flock_23 rfl (lv_at hl 2 rfl) ?_
    refine va_put (C := RX2) (T := TX2) (N := 13) (own := RX6) (v := .int x1) hx hb ht inlX2 tyX2 tyX2_ok nmX2 hown hK hP hD hS 1 rfl rfl 9 (Nat.le_of_ble_eq_true rfl) (ht _ mw_23_9) (fun _ h9 => h9) rfl (tyX2_ok 9 (Nat.le_of_ble_eq_true rfl)) rfl rfl (Nat.le_of_ble_eq_true rfl) dX6_flock_24 (fun H locs hP hD hS => ?_)
    have hP : va_P D vwCl (wX6 o q F ++ wX2 cI cZ (q 0) qn (upd Fn 9 x1) An : va_W) H := hP
    have hD : va_D A9 (wX6 o q F ++ wX2 cI cZ (q 0) qn (upd Fn 9 x1) An : va_W) := hD
    refine lv_iload_n hx hb dX6_flock_27 rfl (lv_at hl 0 rfl) ?_
    exact ret _ ((upd Fn 9 x1), An) _ _ _ _ dX6_flock_28 h hP hD hS
  · replace h := h.2 c6
    refine lv_iconst (v := -1) hx hb dX6_flock_9 (by decide) ?_
    exact ret _ (Fn, An) _ _ _ _ dX6_flock_10 h hP hD hS
theorem dX6_call_0 : decode cX6_call 0 = .ok (.iload_n 1, 1) := by decide +kernel
theorem dX6_call_1 : decode cX6_call 1 = .ok (.bipush 7, 2) := by decide +kernel
theorem dX6_call_3 : decode cX6_call 3 = .ok (.invokestatic 95, 3) := by decide +kernel
theorem dX6_call_6 : decode cX6_call 6 = .ok (.ifCond .ne 5, 3) := by decide +kernel
theorem dX6_call_9 : decode cX6_call 9 = .ok (.iconst (-1), 1) := by decide +kernel
theorem dX6_call_10 : decode cX6_call 10 = .ok (.ireturn, 1) := by decide +kernel
theorem dX6_call_11 : decode cX6_call 11 = .ok (.aload_n 0, 1) := by decide +kernel
theorem dX6_call_12 : decode cX6_call 12 = .ok (.getfield 10, 3) := by decide +kernel
theorem dX6_call_15 : decode cX6_call 15 = .ok (.getfield 160, 3) := by decide +kernel
theorem dX6_call_18 : decode cX6_call 18 = .ok (.istore_n 2, 1) := by decide +kernel
theorem dX6_call_19 : decode cX6_call 19 = .ok (.aload_n 0, 1) := by decide +kernel
theorem dX6_call_20 : decode cX6_call 20 = .ok (.getfield 10, 3) := by decide +kernel
theorem dX6_call_23 : decode cX6_call 23 = .ok (.iload_n 1, 1) := by decide +kernel
theorem dX6_call_24 : decode cX6_call 24 = .ok (.putfield 160, 3) := by decide +kernel
theorem dX6_call_27 : decode cX6_call 27 = .ok (.iload_n 2, 1) := by decide +kernel
theorem dX6_call_28 : decode cX6_call 28 = .ok (.ireturn, 1) := by decide +kernel
def p_X6_call (F : tF) (Fn : tF) (An : tA) (x1 : Int32) (K : Int32 → tF → tA → Prop) : Prop := (p_X6_within x1 (7 : Int32) (fun r3 => ((¬ r3 = 0 → (∀ y18 : Int32, y18 = (Fn 10) → (K y18 (upd Fn 10 x1) An))) ∧ (r3 = 0 → (K (-1 : Int32) Fn An)))))
set_option maxHeartbeats 4000000 in
set_option maxRecDepth 100000 in
theorem w_X6_call (l : Launch) (D : va_G) (cI cZ cR : ClassId) (adK adV : Nat → Nat) (sz : Nat) (o : Nat) (q : Nat → Nat) (qn : Nat → Nat) (F : tF) (Fn : tF) (An : tA) (x1 : Int32) (K : Int32 → tF → tA → Prop) (h : p_X6_call F Fn An x1 K) : MI l D cI cZ cR adK adV yX6_call cX6_call 3 (some .int) (rmN 1 21) [.ref o, .int x1] (wX6 o q F ++ wX2 cI cZ (q 0) qn Fn An : va_W) sz (fun (r : Int32) (u : (tF × tA)) => K r u.1 u.2) (fun (u : (tF × tA)) => (wX6 o q F ++ wX2 cI cZ (q 0) qn u.1 u.2 : va_W)) := by
  refine M_i (by decide +kernel) (Nat.le_of_ble_eq_true rfl) ?_
  intro p e s m args below meth c Q A9 ls X ret hP hD hS hl
  obtain ⟨hx, hb, hml, ht, hown, hK, hA, hE⟩ := id X
  have hl : lv_has ls 3 [(0, .ref o), (1, .int x1)] := hl
  unfold p_X6_call at h
  refine lv_iload_n hx hb dX6_call_0 rfl (lv_at hl 1 rfl) ?_
  refine lv_bipush (v := 7) hx hb dX6_call_1 (by decide) ?_
  refine C_si (wr := [0, 1, 2, 3, 4, 5, 6, 7, 8, 9].filterMap (fun i => (wX6 o q F ++ wX2 cI cZ (q 0) qn Fn An : va_W)[i]?)) X hP hD hS [.int x1, .int (7 : Int32)] [] (w_X6_within l D cI cZ cR adK adV _ x1 (7 : Int32) _ h) cal_X6_within mw_15_9 rfl [] [0, 1, 2, 3, 4, 5, 6, 7, 8, 9] [0, 1, 2, 3, 4, 5, 6, 7, 8, 9] (fun u => (wX6 o q F ++ wX2 cI cZ (q 0) qn Fn An : va_W)) rfl rfl (fun _ => rfl) rfl ⟨rfl, rfl⟩ ⟨Nat.le_of_ble_eq_true rfl, Nat.le_of_ble_eq_true rfl⟩ hl.1 rfl (Nat.le_of_ble_eq_true rfl) ⟨Nat.zero_le _, Nat.zero_le _⟩ dX6_call_3 (fun r3 u H locs h hP hD hS => ?_)
  refine lv_if_ne (tgt := 11) hx hb dX6_call_6 (by decide) (fun c6 => ?_) (fun c6 => ?_)
  · replace h := h.1 c6
    refine lv_aload_n hx hb dX6_call_11 rfl (lv_at hl 0 rfl) ?_
    refine va_get (C := RX6) (T := TX6) (N := 13) (own := RX6) (v := .ref (q 0)) hx hb ht inlX6 hown hK hP 0 rfl rfl 0 (Nat.le_of_ble_eq_true rfl) (ht _ mw_1_16) (fun _ h9 => h9) rfl dX6_call_12 ?_
    refine va_get (C := RX2) (T := TX2) (N := 13) (own := RX6) (v := .int (Fn 10)) hx hb ht inlX2 hown hK hP 1 rfl rfl 10 (Nat.le_of_ble_eq_true rfl) (ht _ mw_23_18) (fun _ h9 => h9) rfl dX6_call_15 ?_
    refine lv_topi (fun y18 ey18 => ?_)
    replace h := h y18 ey18
    refine lv_istore_n (lv' := [(2, .int y18), (0, .ref o), (1, .int x1)]) hx hb dX6_call_18 rfl hl (by decide) rfl (fun ls hl => ?_)
    refine lv_aload_n hx hb dX6_call_19 rfl (lv_at hl 1 rfl) ?_
    refine va_get (C := RX6) (T := TX6) (N := 13) (own := RX6) (v := .ref (q 0)) hx hb ht inlX6 hown hK hP 0 rfl rfl 0 (Nat.le_of_ble_eq_true rfl) (ht _ mw_1_16) (fun _ h9 => h9) rfl dX6_call_20 ?_
    refine lv_iload_n hx hb dX6_call_23 rfl (lv_at hl 2 rfl) ?_
    refine va_put (C := RX2) (T := TX2) (N := 13) (own := RX6) (v := .int x1) hx hb ht inlX2 tyX2 tyX2_ok nmX2 hown hK hP hD hS 1 rfl rfl 10 (Nat.le_of_ble_eq_true rfl) (ht _ mw_23_18) (fun _ h9 => h9) rfl (tyX2_ok 10 (Nat.le_of_ble_eq_true rfl)) rfl rfl (Nat.le_of_ble_eq_true rfl) dX6_call_24 (fun H locs hP hD hS => ?_)
    have hP : va_P D vwCl (wX6 o q F ++ wX2 cI cZ (q 0) qn (upd Fn 10 x1) An : va_W) H := hP
    have hD : va_D A9 (wX6 o q F ++ wX2 cI cZ (q 0) qn (upd Fn 10 x1) An : va_W) := hD
    refine lv_iload_n hx hb dX6_call_27 rfl (lv_at hl 0 rfl) ?_
    exact ret _ ((upd Fn 10 x1), An) _ _ _ _ dX6_call_28 h hP hD hS
  · replace h := h.2 c6
    refine lv_iconst (v := -1) hx hb dX6_call_9 (by decide) ?_
    exact ret _ (Fn, An) _ _ _ _ dX6_call_10 h hP hD hS
theorem dX6_winner_0 : decode cX6_winner 0 = .ok (.aload_n 0, 1) := by decide +kernel
theorem dX6_winner_1 : decode cX6_winner 1 = .ok (.getfield 10, 3) := by decide +kernel
theorem dX6_winner_4 : decode cX6_winner 4 = .ok (.invokevirtual 151, 3) := by decide +kernel
theorem dX6_winner_7 : decode cX6_winner 7 = .ok (.aload_n 0, 1) := by decide +kernel
theorem dX6_winner_8 : decode cX6_winner 8 = .ok (.getfield 10, 3) := by decide +kernel
theorem dX6_winner_11 : decode cX6_winner 11 = .ok (.invokevirtual 163, 3) := by decide +kernel
theorem dX6_winner_14 : decode cX6_winner 14 = .ok (.ireturn, 1) := by decide +kernel
def p_X6_winner (F : tF) (Fn : tF) (An : tA) (K : Int32 → tF → tA → Prop) : Prop := (p_X2_takeVotes Fn An (fun Fn_4 An_4 => (p_X2_favouriteOfTally Fn_4 An_4 (fun r11 => (K r11 Fn_4 An_4)))))
set_option maxHeartbeats 4000000 in
set_option maxRecDepth 100000 in
theorem w_X6_winner (l : Launch) (D : va_G) (cI cZ cR : ClassId) (adK adV : Nat → Nat) (sz : Nat) (o : Nat) (q : Nat → Nat) (qn : Nat → Nat) (F : tF) (Fn : tF) (An : tA) (K : Int32 → tF → tA → Prop) (h : p_X6_winner F Fn An K) : MI l D cI cZ cR adK adV yX6_winner cX6_winner 1 (some .int) (rmN 4 170) [.ref o] (wX6 o q F ++ wX2 cI cZ (q 0) qn Fn An : va_W) sz (fun (r : Int32) (u : (tF × tA)) => K r u.1 u.2) (fun (u : (tF × tA)) => (wX6 o q F ++ wX2 cI cZ (q 0) qn u.1 u.2 : va_W)) := by
  refine M_i (by decide +kernel) (Nat.le_of_ble_eq_true rfl) ?_
  intro p e s m args below meth c Q A9 ls X ret hP hD hS hl
  obtain ⟨hx, hb, hml, ht, hown, hK, hA, hE⟩ := id X
  have hl : lv_has ls 1 [(0, .ref o)] := hl
  unfold p_X6_winner at h
  refine lv_aload_n hx hb dX6_winner_0 rfl (lv_at hl 0 rfl) ?_
  refine va_get (C := RX6) (T := TX6) (N := 13) (own := RX6) (v := .ref (q 0)) hx hb ht inlX6 hown hK hP 0 rfl rfl 0 (Nat.le_of_ble_eq_true rfl) (ht _ mw_1_16) (fun _ h9 => h9) rfl dX6_winner_1 ?_
  refine C_vv (wr := [0].filterMap (fun i => (wX6 o q F ++ wX2 cI cZ (q 0) qn Fn An : va_W)[i]?)) X hP hD hS [] [] (w_X2_takeVotes l D cI cZ cR adK adV _ (q 0) qn Fn An _ h) cal_X2_takeVotes mw_22_0 rfl [1, 2, 3, 4, 5, 6, 7, 8, 9] [0] [0, 1, 2, 3, 4, 5, 6, 7, 8, 9] (fun u => (wX6 o q F ++ wX2 cI cZ (q 0) qn u.1 u.2 : va_W)) rfl rfl (fun _ => rfl) rfl 1 rfl rfl ⟨rfl, rfl⟩ ⟨Nat.le_of_ble_eq_true rfl, Nat.le_of_ble_eq_true rfl⟩ hl.1 rfl (Nat.le_of_ble_eq_true rfl) ⟨Nat.zero_le _, Nat.zero_le _⟩ dX6_winner_4 (fun u H locs h hP hD hS => ?_)
  obtain ⟨Fn_4, An_4⟩ := u
  try dsimp only at h
  have hP : va_P D vwCl (wX6 o q F ++ wX2 cI cZ (q 0) qn Fn_4 An_4 : va_W) H := hP
  have hD : va_D A9 (wX6 o q F ++ wX2 cI cZ (q 0) qn Fn_4 An_4 : va_W) := hD
  refine lv_aload_n hx hb dX6_winner_7 rfl (lv_at hl 0 rfl) ?_
  refine va_get (C := RX6) (T := TX6) (N := 13) (own := RX6) (v := .ref (q 0)) hx hb ht inlX6 hown hK hP 0 rfl rfl 0 (Nat.le_of_ble_eq_true rfl) (ht _ mw_1_16) (fun _ h9 => h9) rfl dX6_winner_8 ?_
  refine C_vi (wr := [0].filterMap (fun i => (wX6 o q F ++ wX2 cI cZ (q 0) qn Fn_4 An_4 : va_W)[i]?)) X hP hD hS [] [] (w_X2_favouriteOfTally l D cI cZ cR adK adV _ (q 0) qn Fn_4 An_4 _ h) cal_X2_favouriteOfTally mw_24_4 rfl [1, 2, 3, 4, 5, 6, 7, 8, 9] [0] [0, 1, 2, 3, 4, 5, 6, 7, 8, 9] (fun u => (wX6 o q F ++ wX2 cI cZ (q 0) qn Fn_4 An_4 : va_W)) rfl rfl (fun _ => rfl) rfl 1 rfl rfl ⟨rfl, rfl⟩ ⟨Nat.le_of_ble_eq_true rfl, Nat.le_of_ble_eq_true rfl⟩ hl.1 rfl (Nat.le_of_ble_eq_true rfl) ⟨Nat.zero_le _, Nat.zero_le _⟩ dX6_winner_11 (fun r11 u H locs h hP hD hS => ?_)
  exact ret _ (Fn_4, An_4) _ _ _ _ dX6_winner_14 h hP hD hS
theorem cal_X2_passDays : CalV yX2_passDays cX2_passDays 3 none 1 := ⟨mw_24_23, mw_1_15, mw_24_21, mw_24_22, ⟨by decide +kernel, by decide +kernel, by decide +kernel⟩⟩
theorem dX6_days_0 : decode cX6_days 0 = .ok (.iload_n 1, 1) := by decide +kernel
theorem dX6_days_1 : decode cX6_days 1 = .ok (.iconst 1, 1) := by decide +kernel
theorem dX6_days_2 : decode cX6_days 2 = .ok (.if_icmp .lt 9, 3) := by decide +kernel
theorem dX6_days_5 : decode cX6_days 5 = .ok (.iload_n 1, 1) := by decide +kernel
theorem dX6_days_6 : decode cX6_days 6 = .ok (.bipush 60, 2) := by decide +kernel
theorem dX6_days_8 : decode cX6_days 8 = .ok (.if_icmp .le 5, 3) := by decide +kernel
theorem dX6_days_11 : decode cX6_days 11 = .ok (.iconst (-1), 1) := by decide +kernel
theorem dX6_days_12 : decode cX6_days 12 = .ok (.ireturn, 1) := by decide +kernel
theorem dX6_days_13 : decode cX6_days 13 = .ok (.aload_n 0, 1) := by decide +kernel
theorem dX6_days_14 : decode cX6_days 14 = .ok (.getfield 10, 3) := by decide +kernel
theorem dX6_days_17 : decode cX6_days 17 = .ok (.iload_n 1, 1) := by decide +kernel
theorem dX6_days_18 : decode cX6_days 18 = .ok (.invokevirtual 167, 3) := by decide +kernel
theorem dX6_days_21 : decode cX6_days 21 = .ok (.aload_n 0, 1) := by decide +kernel
theorem dX6_days_22 : decode cX6_days 22 = .ok (.getfield 10, 3) := by decide +kernel
theorem dX6_days_25 : decode cX6_days 25 = .ok (.getfield 157, 3) := by decide +kernel
theorem dX6_days_28 : decode cX6_days 28 = .ok (.ireturn, 1) := by decide +kernel
def p_X6_days (F : tF) (Fn : tF) (An : tA) (x1 : Int32) (K : Int32 → tF → tA → Prop) : Prop := ((x1 < (1 : Int32) → (K (-1 : Int32) Fn An)) ∧ (¬ x1 < (1 : Int32) → ((x1 ≤ (60 : Int32) → (p_X2_passDays Fn An x1 (fun Fn_18 An_18 => (K (Fn_18 9) Fn_18 An_18)))) ∧ (¬ x1 ≤ (60 : Int32) → (K (-1 : Int32) Fn An)))))
set_option maxHeartbeats 4000000 in
set_option maxRecDepth 100000 in
theorem w_X6_days (l : Launch) (D : va_G) (cI cZ cR : ClassId) (adK adV : Nat → Nat) (sz : Nat) (o : Nat) (q : Nat → Nat) (qn : Nat → Nat) (F : tF) (Fn : tF) (An : tA) (x1 : Int32) (K : Int32 → tF → tA → Prop) (h : p_X6_days F Fn An x1 K) : MI l D cI cZ cR adK adV yX6_days cX6_days 2 (some .int) (rmN 6 215) [.ref o, .int x1] (wX6 o q F ++ wX2 cI cZ (q 0) qn Fn An : va_W) sz (fun (r : Int32) (u : (tF × tA)) => K r u.1 u.2) (fun (u : (tF × tA)) => (wX6 o q F ++ wX2 cI cZ (q 0) qn u.1 u.2 : va_W)) := by
  refine M_i (by decide +kernel) (Nat.le_of_ble_eq_true rfl) ?_
  intro p e s m args below meth c Q A9 ls X ret hP hD hS hl
  obtain ⟨hx, hb, hml, ht, hown, hK, hA, hE⟩ := id X
  have hl : lv_has ls 2 [(0, .ref o), (1, .int x1)] := hl
  unfold p_X6_days at h
  refine lv_iload_n hx hb dX6_days_0 rfl (lv_at hl 1 rfl) ?_
  refine lv_iconst (v := 1) hx hb dX6_days_1 (by decide) ?_
  refine lv_icmp_lt (tgt := 11) hx hb dX6_days_2 (by decide) (fun c2 => ?_) (fun c2 => ?_)
  · replace h := h.1 c2
    refine lv_iconst (v := -1) hx hb dX6_days_11 (by decide) ?_
    exact ret _ (Fn, An) _ _ _ _ dX6_days_12 h hP hD hS
  · replace h := h.2 c2
    refine lv_iload_n hx hb dX6_days_5 rfl (lv_at hl 1 rfl) ?_
    refine lv_bipush (v := 60) hx hb dX6_days_6 (by decide) ?_
    refine lv_icmp_le (tgt := 13) hx hb dX6_days_8 (by decide) (fun c8 => ?_) (fun c8 => ?_)
    · replace h := h.1 c8
      refine lv_aload_n hx hb dX6_days_13 rfl (lv_at hl 0 rfl) ?_
      refine va_get (C := RX6) (T := TX6) (N := 13) (own := RX6) (v := .ref (q 0)) hx hb ht inlX6 hown hK hP 0 rfl rfl 0 (Nat.le_of_ble_eq_true rfl) (ht _ mw_1_16) (fun _ h9 => h9) rfl dX6_days_14 ?_
      refine lv_iload_n hx hb dX6_days_17 rfl (lv_at hl 1 rfl) ?_
      refine C_vv (wr := [0].filterMap (fun i => (wX6 o q F ++ wX2 cI cZ (q 0) qn Fn An : va_W)[i]?)) X hP hD hS [.int x1] [] (w_X2_passDays l D cI cZ cR adK adV _ (q 0) qn Fn An x1 _ h) cal_X2_passDays mw_24_20 rfl [1, 2, 3, 4, 5, 6, 7, 8, 9] [0] [0, 1, 2, 3, 4, 5, 6, 7, 8, 9] (fun u => (wX6 o q F ++ wX2 cI cZ (q 0) qn u.1 u.2 : va_W)) rfl rfl (fun _ => rfl) rfl 1 rfl rfl ⟨rfl, rfl⟩ ⟨Nat.le_of_ble_eq_true rfl, Nat.le_of_ble_eq_true rfl⟩ hl.1 rfl (Nat.le_of_ble_eq_true rfl) ⟨Nat.zero_le _, Nat.zero_le _⟩ dX6_days_18 (fun u H locs h hP hD hS => ?_)
      obtain ⟨Fn_18, An_18⟩ := u
      try dsimp only at h
      have hP : va_P D vwCl (wX6 o q F ++ wX2 cI cZ (q 0) qn Fn_18 An_18 : va_W) H := hP
      have hD : va_D A9 (wX6 o q F ++ wX2 cI cZ (q 0) qn Fn_18 An_18 : va_W) := hD
      refine lv_aload_n hx hb dX6_days_21 rfl (lv_at hl 0 rfl) ?_
      refine va_get (C := RX6) (T := TX6) (N := 13) (own := RX6) (v := .ref (q 0)) hx hb ht inlX6 hown hK hP 0 rfl rfl 0 (Nat.le_of_ble_eq_true rfl) (ht _ mw_1_16) (fun _ h9 => h9) rfl dX6_days_22 ?_
      refine va_get (C := RX2) (T := TX2) (N := 13) (own := RX6) (v := .int (Fn_18 9)) hx hb ht inlX2 hown hK hP 1 rfl rfl 9 (Nat.le_of_ble_eq_true rfl) (ht _ mw_23_9) (fun _ h9 => h9) rfl dX6_days_25 ?_
      exact ret _ (Fn_18, An_18) _ _ _ _ dX6_days_28 h hP hD hS
    · replace h := h.2 c8
      refine lv_iconst (v := -1) hx hb dX6_days_11 (by decide) ?_
      exact ret _ (Fn, An) _ _ _ _ dX6_days_12 h hP hD hS
theorem dX6_seed_0 : decode cX6_seed 0 = .ok (.aload_n 0, 1) := by decide +kernel
theorem dX6_seed_1 : decode cX6_seed 1 = .ok (.getfield 10, 3) := by decide +kernel
theorem dX6_seed_4 : decode cX6_seed 4 = .ok (.getfield 171, 3) := by decide +kernel
theorem dX6_seed_7 : decode cX6_seed 7 = .ok (.istore_n 2, 1) := by decide +kernel
theorem dX6_seed_8 : decode cX6_seed 8 = .ok (.aload_n 0, 1) := by decide +kernel
theorem dX6_seed_9 : decode cX6_seed 9 = .ok (.getfield 10, 3) := by decide +kernel
theorem dX6_seed_12 : decode cX6_seed 12 = .ok (.iload_n 1, 1) := by decide +kernel
theorem dX6_seed_13 : decode cX6_seed 13 = .ok (.putfield 171, 3) := by decide +kernel
theorem dX6_seed_16 : decode cX6_seed 16 = .ok (.iload_n 2, 1) := by decide +kernel
theorem dX6_seed_17 : decode cX6_seed 17 = .ok (.ireturn, 1) := by decide +kernel
def p_X6_seed (F : tF) (Fn : tF) (An : tA) (x1 : Int32) (K : Int32 → tF → tA → Prop) : Prop := (∀ y7 : Int32, y7 = (Fn 12) → (K y7 (upd Fn 12 x1) An))
set_option maxHeartbeats 4000000 in
set_option maxRecDepth 100000 in
theorem w_X6_seed (l : Launch) (D : va_G) (cI cZ cR : ClassId) (adK adV : Nat → Nat) (sz : Nat) (o : Nat) (q : Nat → Nat) (qn : Nat → Nat) (F : tF) (Fn : tF) (An : tA) (x1 : Int32) (K : Int32 → tF → tA → Prop) (h : p_X6_seed F Fn An x1 K) : MI l D cI cZ cR adK adV yX6_seed cX6_seed 3 (some .int) (rmN 0 0) [.ref o, .int x1] (wX6 o q F ++ wX2 cI cZ (q 0) qn Fn An : va_W) sz (fun (r : Int32) (u : (tF × tA)) => K r u.1 u.2) (fun (u : (tF × tA)) => (wX6 o q F ++ wX2 cI cZ (q 0) qn u.1 u.2 : va_W)) := by
  refine M_i (by decide +kernel) (Nat.le_of_ble_eq_true rfl) ?_
  intro p e s m args below meth c Q A9 ls X ret hP hD hS hl
  obtain ⟨hx, hb, hml, ht, hown, hK, hA, hE⟩ := id X
  have hl : lv_has ls 3 [(0, .ref o), (1, .int x1)] := hl
  unfold p_X6_seed at h
  refine lv_aload_n hx hb dX6_seed_0 rfl (lv_at hl 0 rfl) ?_
  refine va_get (C := RX6) (T := TX6) (N := 13) (own := RX6) (v := .ref (q 0)) hx hb ht inlX6 hown hK hP 0 rfl rfl 0 (Nat.le_of_ble_eq_true rfl) (ht _ mw_1_16) (fun _ h9 => h9) rfl dX6_seed_1 ?_
  refine va_get (C := RX2) (T := TX2) (N := 13) (own := RX6) (v := .int (Fn 12)) hx hb ht inlX2 hown hK hP 1 rfl rfl 12 (Nat.le_of_ble_eq_true rfl) (ht _ mw_26_11) (fun _ h9 => h9) rfl dX6_seed_4 ?_
  refine lv_topi (fun y7 ey7 => ?_)
  replace h := h y7 ey7
  refine lv_istore_n (lv' := [(2, .int y7), (0, .ref o), (1, .int x1)]) hx hb dX6_seed_7 rfl hl (by decide) rfl (fun ls hl => ?_)
  refine lv_aload_n hx hb dX6_seed_8 rfl (lv_at hl 1 rfl) ?_
  refine va_get (C := RX6) (T := TX6) (N := 13) (own := RX6) (v := .ref (q 0)) hx hb ht inlX6 hown hK hP 0 rfl rfl 0 (Nat.le_of_ble_eq_true rfl) (ht _ mw_1_16) (fun _ h9 => h9) rfl dX6_seed_9 ?_
  refine lv_iload_n hx hb dX6_seed_12 rfl (lv_at hl 2 rfl) ?_
  refine va_put (C := RX2) (T := TX2) (N := 13) (own := RX6) (v := .int x1) hx hb ht inlX2 tyX2 tyX2_ok nmX2 hown hK hP hD hS 1 rfl rfl 12 (Nat.le_of_ble_eq_true rfl) (ht _ mw_26_11) (fun _ h9 => h9) rfl (tyX2_ok 12 (Nat.le_of_ble_eq_true rfl)) rfl rfl (Nat.le_of_ble_eq_true rfl) dX6_seed_13 (fun H locs hP hD hS => ?_)
  have hP : va_P D vwCl (wX6 o q F ++ wX2 cI cZ (q 0) qn (upd Fn 12 x1) An : va_W) H := hP
  have hD : va_D A9 (wX6 o q F ++ wX2 cI cZ (q 0) qn (upd Fn 12 x1) An : va_W) := hD
  refine lv_iload_n hx hb dX6_seed_16 rfl (lv_at hl 0 rfl) ?_
  exact ret _ ((upd Fn 12 x1), An) _ _ _ _ dX6_seed_17 h hP hD hS
theorem cal_X2_passDayByDraws : CalV yX2_passDayByDraws cX2_passDayByDraws 2 none 0 := ⟨mw_26_23, mw_1_15, mw_26_21, mw_26_22, ⟨by decide +kernel, by decide +kernel, by decide +kernel⟩⟩
theorem dX6_day_0 : decode cX6_day 0 = .ok (.aload_n 0, 1) := by decide +kernel
theorem dX6_day_1 : decode cX6_day 1 = .ok (.getfield 10, 3) := by decide +kernel
theorem dX6_day_4 : decode cX6_day 4 = .ok (.invokevirtual 174, 3) := by decide +kernel
theorem dX6_day_7 : decode cX6_day 7 = .ok (.aload_n 0, 1) := by decide +kernel
theorem dX6_day_8 : decode cX6_day 8 = .ok (.getfield 10, 3) := by decide +kernel
theorem dX6_day_11 : decode cX6_day 11 = .ok (.getfield 157, 3) := by decide +kernel
theorem dX6_day_14 : decode cX6_day 14 = .ok (.ireturn, 1) := by decide +kernel
def p_X6_day (F : tF) (Fn : tF) (An : tA) (K : Int32 → tF → tA → Prop) : Prop := (p_X2_passDayByDraws Fn An (fun Fn_4 An_4 => (K (Fn_4 9) Fn_4 An_4)))
set_option maxHeartbeats 4000000 in
set_option maxRecDepth 100000 in
theorem w_X6_day (l : Launch) (D : va_G) (cI cZ cR : ClassId) (adK adV : Nat → Nat) (sz : Nat) (o : Nat) (q : Nat → Nat) (qn : Nat → Nat) (F : tF) (Fn : tF) (An : tA) (K : Int32 → tF → tA → Prop) (h : p_X6_day F Fn An K) : MI l D cI cZ cR adK adV yX6_day cX6_day 1 (some .int) (rmN 6 214) [.ref o] (wX6 o q F ++ wX2 cI cZ (q 0) qn Fn An : va_W) sz (fun (r : Int32) (u : (tF × tA)) => K r u.1 u.2) (fun (u : (tF × tA)) => (wX6 o q F ++ wX2 cI cZ (q 0) qn u.1 u.2 : va_W)) := by
  refine M_i (by decide +kernel) (Nat.le_of_ble_eq_true rfl) ?_
  intro p e s m args below meth c Q A9 ls X ret hP hD hS hl
  obtain ⟨hx, hb, hml, ht, hown, hK, hA, hE⟩ := id X
  have hl : lv_has ls 1 [(0, .ref o)] := hl
  unfold p_X6_day at h
  refine lv_aload_n hx hb dX6_day_0 rfl (lv_at hl 0 rfl) ?_
  refine va_get (C := RX6) (T := TX6) (N := 13) (own := RX6) (v := .ref (q 0)) hx hb ht inlX6 hown hK hP 0 rfl rfl 0 (Nat.le_of_ble_eq_true rfl) (ht _ mw_1_16) (fun _ h9 => h9) rfl dX6_day_1 ?_
  refine C_vv (wr := [0].filterMap (fun i => (wX6 o q F ++ wX2 cI cZ (q 0) qn Fn An : va_W)[i]?)) X hP hD hS [] [] (w_X2_passDayByDraws l D cI cZ cR adK adV _ (q 0) qn Fn An _ h) cal_X2_passDayByDraws mw_26_20 rfl [1, 2, 3, 4, 5, 6, 7, 8, 9] [0] [0, 1, 2, 3, 4, 5, 6, 7, 8, 9] (fun u => (wX6 o q F ++ wX2 cI cZ (q 0) qn u.1 u.2 : va_W)) rfl rfl (fun _ => rfl) rfl 1 rfl rfl ⟨rfl, rfl⟩ ⟨Nat.le_of_ble_eq_true rfl, Nat.le_of_ble_eq_true rfl⟩ hl.1 rfl (Nat.le_of_ble_eq_true rfl) ⟨Nat.zero_le _, Nat.zero_le _⟩ dX6_day_4 (fun u H locs h hP hD hS => ?_)
  obtain ⟨Fn_4, An_4⟩ := u
  try dsimp only at h
  have hP : va_P D vwCl (wX6 o q F ++ wX2 cI cZ (q 0) qn Fn_4 An_4 : va_W) H := hP
  have hD : va_D A9 (wX6 o q F ++ wX2 cI cZ (q 0) qn Fn_4 An_4 : va_W) := hD
  refine lv_aload_n hx hb dX6_day_7 rfl (lv_at hl 0 rfl) ?_
  refine va_get (C := RX6) (T := TX6) (N := 13) (own := RX6) (v := .ref (q 0)) hx hb ht inlX6 hown hK hP 0 rfl rfl 0 (Nat.le_of_ble_eq_true rfl) (ht _ mw_1_16) (fun _ h9 => h9) rfl dX6_day_8 ?_
  refine va_get (C := RX2) (T := TX2) (N := 13) (own := RX6) (v := .int (Fn_4 9)) hx hb ht inlX2 hown hK hP 1 rfl rfl 9 (Nat.le_of_ble_eq_true rfl) (ht _ mw_23_9) (fun _ h9 => h9) rfl dX6_day_11 ?_
  exact ret _ (Fn_4, An_4) _ _ _ _ dX6_day_14 h hP hD hS
theorem cal_X2_copyFrom : CalV yX2_copyFrom cX2_copyFrom 2 none 1 := ⟨mw_7_6, mw_1_15, mw_7_4, mw_7_5, ⟨by decide +kernel, by decide +kernel, by decide +kernel⟩⟩
theorem dX6_strays_0 : decode cX6_strays 0 = .ok (.iload_n 1, 1) := by decide +kernel
theorem dX6_strays_1 : decode cX6_strays 1 = .ok (.iconst 1, 1) := by decide +kernel
theorem dX6_strays_2 : decode cX6_strays 2 = .ok (.if_icmp .lt 9, 3) := by decide +kernel
theorem dX6_strays_5 : decode cX6_strays 5 = .ok (.iload_n 1, 1) := by decide +kernel
theorem dX6_strays_6 : decode cX6_strays 6 = .ok (.bipush 30, 2) := by decide +kernel
theorem dX6_strays_8 : decode cX6_strays 8 = .ok (.if_icmp .le 5, 3) := by decide +kernel
theorem dX6_strays_11 : decode cX6_strays 11 = .ok (.iconst (-1), 1) := by decide +kernel
theorem dX6_strays_12 : decode cX6_strays 12 = .ok (.ireturn, 1) := by decide +kernel
theorem dX6_strays_13 : decode cX6_strays 13 = .ok (.aload_n 0, 1) := by decide +kernel
theorem dX6_strays_14 : decode cX6_strays 14 = .ok (.getfield 16, 3) := by decide +kernel
theorem dX6_strays_17 : decode cX6_strays 17 = .ok (.aload_n 0, 1) := by decide +kernel
theorem dX6_strays_18 : decode cX6_strays 18 = .ok (.getfield 10, 3) := by decide +kernel
theorem dX6_strays_21 : decode cX6_strays 21 = .ok (.invokevirtual 81, 3) := by decide +kernel
theorem dX6_strays_24 : decode cX6_strays 24 = .ok (.aload_n 0, 1) := by decide +kernel
theorem dX6_strays_25 : decode cX6_strays 25 = .ok (.getfield 16, 3) := by decide +kernel
theorem dX6_strays_28 : decode cX6_strays 28 = .ok (.invokevirtual 177, 3) := by decide +kernel
theorem dX6_strays_31 : decode cX6_strays 31 = .ok (.aload_n 0, 1) := by decide +kernel
theorem dX6_strays_32 : decode cX6_strays 32 = .ok (.getfield 16, 3) := by decide +kernel
theorem dX6_strays_35 : decode cX6_strays 35 = .ok (.getfield 157, 3) := by decide +kernel
theorem dX6_strays_38 : decode cX6_strays 38 = .ok (.istore_n 2, 1) := by decide +kernel
theorem dX6_strays_39 : decode cX6_strays 39 = .ok (.iconst 0, 1) := by decide +kernel
theorem dX6_strays_40 : decode cX6_strays 40 = .ok (.istore_n 3, 1) := by decide +kernel
theorem dX6_strays_41 : decode cX6_strays 41 = .ok (.aload_n 0, 1) := by decide +kernel
theorem dX6_strays_42 : decode cX6_strays 42 = .ok (.getfield 10, 3) := by decide +kernel
theorem dX6_strays_45 : decode cX6_strays 45 = .ok (.getfield 171, 3) := by decide +kernel
theorem dX6_strays_48 : decode cX6_strays 48 = .ok (.istore 4, 2) := by decide +kernel
theorem dX6_strays_50 : decode cX6_strays 50 = .ok (.iconst 0, 1) := by decide +kernel
theorem dX6_strays_51 : decode cX6_strays 51 = .ok (.istore 5, 2) := by decide +kernel
theorem dX6_strays_53 : decode cX6_strays 53 = .ok (.iload 5, 2) := by decide +kernel
theorem dX6_strays_55 : decode cX6_strays 55 = .ok (.iload_n 1, 1) := by decide +kernel
theorem dX6_strays_56 : decode cX6_strays 56 = .ok (.if_icmp .ge 59, 3) := by decide +kernel
theorem dX6_strays_59 : decode cX6_strays 59 = .ok (.aload_n 0, 1) := by decide +kernel
theorem dX6_strays_60 : decode cX6_strays 60 = .ok (.getfield 16, 3) := by decide +kernel
theorem dX6_strays_63 : decode cX6_strays 63 = .ok (.aload_n 0, 1) := by decide +kernel
theorem dX6_strays_64 : decode cX6_strays 64 = .ok (.getfield 10, 3) := by decide +kernel
theorem dX6_strays_67 : decode cX6_strays 67 = .ok (.invokevirtual 81, 3) := by decide +kernel
theorem dX6_strays_70 : decode cX6_strays 70 = .ok (.aload_n 0, 1) := by decide +kernel
theorem dX6_strays_71 : decode cX6_strays 71 = .ok (.getfield 16, 3) := by decide +kernel
theorem dX6_strays_74 : decode cX6_strays 74 = .ok (.iload 4, 2) := by decide +kernel
theorem dX6_strays_76 : decode cX6_strays 76 = .ok (.putfield 171, 3) := by decide +kernel
theorem dX6_strays_79 : decode cX6_strays 79 = .ok (.aload_n 0, 1) := by decide +kernel
theorem dX6_strays_80 : decode cX6_strays 80 = .ok (.getfield 16, 3) := by decide +kernel
theorem dX6_strays_83 : decode cX6_strays 83 = .ok (.invokevirtual 174, 3) := by decide +kernel
theorem dX6_strays_86 : decode cX6_strays 86 = .ok (.aload_n 0, 1) := by decide +kernel
theorem dX6_strays_87 : decode cX6_strays 87 = .ok (.getfield 16, 3) := by decide +kernel
theorem dX6_strays_90 : decode cX6_strays 90 = .ok (.getfield 171, 3) := by decide +kernel
theorem dX6_strays_93 : decode cX6_strays 93 = .ok (.istore 4, 2) := by decide +kernel
theorem dX6_strays_95 : decode cX6_strays 95 = .ok (.aload_n 0, 1) := by decide +kernel
theorem dX6_strays_96 : decode cX6_strays 96 = .ok (.getfield 16, 3) := by decide +kernel
theorem dX6_strays_99 : decode cX6_strays 99 = .ok (.getfield 157, 3) := by decide +kernel
theorem dX6_strays_102 : decode cX6_strays 102 = .ok (.iload_n 2, 1) := by decide +kernel
theorem dX6_strays_103 : decode cX6_strays 103 = .ok (.if_icmp .eq 6, 3) := by decide +kernel
theorem dX6_strays_106 : decode cX6_strays 106 = .ok (.iinc 3 1, 3) := by decide +kernel
theorem dX6_strays_109 : decode cX6_strays 109 = .ok (.iinc 5 1, 3) := by decide +kernel
theorem dX6_strays_112 : decode cX6_strays 112 = .ok (.goto (-59), 3) := by decide +kernel
theorem dX6_strays_115 : decode cX6_strays 115 = .ok (.iload_n 3, 1) := by decide +kernel
theorem dX6_strays_116 : decode cX6_strays 116 = .ok (.ireturn, 1) := by decide +kernel
def p_X6_strays_J109 (F : tF) (Ft : tF) (At : tA) (Fn : tF) (An : tA) (B53 : (tF → tA → Int32 → Int32 → Int32 → Prop)) (K : Int32 → tF → tA → Prop) (x1 : Int32) (x2 : Int32) (x3 : Int32) (x4 : Int32) (x5 : Int32) : Prop := (∀ y109 : Int32, y109 = (x5 + (1 : Int32)) → (B53 Ft At x3 x4 y109))
set_option maxHeartbeats 4000000 in
set_option maxRecDepth 100000 in
theorem b_X6_strays_J109 {p : Program} {l : Launch} {e : Env} {s : State} {m : MethodId} {args : Array Value} {below : List Frame} {meth : Method} {c : Code} {Q : State → Prop} {D : va_G} {cI cZ cR : ClassId} {adK adV : Nat → Nat} {A9 : Nat → Prop} {o : Nat} {q : Nat → Nat} {qt : Nat → Nat} {qn : Nat → Nat} {K : Int32 → tF → tA → Prop} {B53 : (tF → tA → Int32 → Int32 → Int32 → Prop)} (F : tF) (Ft : tF) (At : tA) (Fn : tF) (An : tA) (x1 : Int32) (x2 : Int32) (x3 : Int32) (x4 : Int32) (x5 : Int32) (X : CX p s m args c yX6_strays.cls cX6_strays 6 D cI cZ cR adK adV A9) (ret : RTi p l e (rmN 6 214) s m args below meth c Q cX6_strays D A9 (fun (r : Int32) (u : (tF × tA)) => K r u.1 u.2) (fun (u : (tF × tA)) => (wX6 o q F ++ wX2 cI cZ (q 1) qt u.1 u.2 ++ wX2 cI cZ (q 0) qn Fn An : va_W))) (hB53 : ∀ (Ft : tF) (At : tA) (x3 : Int32) (x4 : Int32) (x5 : Int32) (H : Heap) (locs : List Loc) (ls : Array Slot), B53 Ft At x3 x4 x5 → va_P D vwCl (wX6 o q F ++ wX2 cI cZ (q 1) qt Ft At ++ wX2 cI cZ (q 0) qn Fn An : va_W) H → va_D A9 (wX6 o q F ++ wX2 cI cZ (q 1) qt Ft At ++ wX2 cI cZ (q 0) qn Fn An : va_W) → va_S A9 s.heap H locs → lv_has ls 6 [(0, .ref o), (1, .int x1), (2, .int x2), (3, .int x3), (4, .int x4), (5, .int x5)] → W p l e (rmN 6 214) s m args below meth c H locs 0 0 Q (F0 m 53 ls [])) (H : Heap) (locs : List Loc) (ls : Array Slot) (h : p_X6_strays_J109 F Ft At Fn An B53 K x1 x2 x3 x4 x5) (hP : va_P D vwCl (wX6 o q F ++ wX2 cI cZ (q 1) qt Ft At ++ wX2 cI cZ (q 0) qn Fn An : va_W) H) (hD : va_D A9 (wX6 o q F ++ wX2 cI cZ (q 1) qt Ft At ++ wX2 cI cZ (q 0) qn Fn An : va_W)) (hS : va_S A9 s.heap H locs) (hl : lv_has ls 6 [(0, .ref o), (1, .int x1), (2, .int x2), (3, .int x3), (4, .int x4), (5, .int x5)]) : W p l e (rmN 6 214) s m args below meth c H locs 0 0 Q (F0 m 109 ls []) := by
  obtain ⟨hx, hb, hml, ht, hown, hK, hA, hE⟩ := id X
  unfold p_X6_strays_J109 at h
  obtain ⟨y109, ey109⟩ : ∃ y : Int32, y = (x5 + (1 : Int32)) := ⟨_, rfl⟩
  replace h := h y109 ey109
  refine lv_iinc (v := y109) (lv' := [(5, .int y109), (0, .ref o), (1, .int x1), (2, .int x2), (3, .int x3), (4, .int x4)]) hx hb dX6_strays_109 hl (k := 5) rfl (by rw [ey109]; rfl) (by decide) rfl (fun ls hl => ?_)
  refine lv_goto (tgt := 53) hx hb dX6_strays_112 (by decide) ?_
  exact hB53 Ft At x3 x4 y109 _ _ _ h hP hD hS (lv_sub hl [1, 2, 3, 4, 5, 0] rfl)
def p_X6_strays_L53 (F : tF) (Fn : tF) (An : tA) (x1 : Int32) (x2 : Int32) (K : Int32 → tF → tA → Prop) : Nat → tF → tA → Int32 → Int32 → Int32 → Prop
  | 0, _, _, _, _, _ => False
  | n53 + 1, Ft, At, x3, x4, x5 => ((x1 ≤ x5 → (K x3 Ft At)) ∧ (¬ x1 ≤ x5 → (p_X2_copyFrom Ft At Fn An (fun Ft_67 At_67 => (p_X2_passDayByDraws (upd Ft_67 12 x4) At_67 (fun Ft_83 At_83 => (∀ y93 : Int32, y93 = (Ft_83 12) → (((Ft_83 9) = x2 → (p_X6_strays_J109 F Ft_83 At_83 Fn An (p_X6_strays_L53 F Fn An x1 x2 K n53) K x1 x2 x3 y93 x5)) ∧ (¬ (Ft_83 9) = x2 → (∀ y106 : Int32, y106 = (x3 + (1 : Int32)) → (p_X6_strays_J109 F Ft_83 At_83 Fn An (p_X6_strays_L53 F Fn An x1 x2 K n53) K x1 x2 y106 y93 x5)))))))))))
set_option maxHeartbeats 4000000 in
set_option maxRecDepth 100000 in
theorem b_X6_strays_L53 {p : Program} {l : Launch} {e : Env} {s : State} {m : MethodId} {args : Array Value} {below : List Frame} {meth : Method} {c : Code} {Q : State → Prop} {D : va_G} {cI cZ cR : ClassId} {adK adV : Nat → Nat} {A9 : Nat → Prop} {o : Nat} {q : Nat → Nat} {qt : Nat → Nat} {qn : Nat → Nat} {K : Int32 → tF → tA → Prop}  (F : tF) (Fn : tF) (An : tA) (x1 : Int32) (x2 : Int32) (X : CX p s m args c yX6_strays.cls cX6_strays 6 D cI cZ cR adK adV A9) (ret : RTi p l e (rmN 6 214) s m args below meth c Q cX6_strays D A9 (fun (r : Int32) (u : (tF × tA)) => K r u.1 u.2) (fun (u : (tF × tA)) => (wX6 o q F ++ wX2 cI cZ (q 1) qt u.1 u.2 ++ wX2 cI cZ (q 0) qn Fn An : va_W)))   : ∀ (n : Nat) (Ft : tF) (At : tA) (x3 : Int32) (x4 : Int32) (x5 : Int32) (H : Heap) (locs : List Loc) (ls : Array Slot), p_X6_strays_L53 F Fn An x1 x2 K n Ft At x3 x4 x5 → va_P D vwCl (wX6 o q F ++ wX2 cI cZ (q 1) qt Ft At ++ wX2 cI cZ (q 0) qn Fn An : va_W) H → va_D A9 (wX6 o q F ++ wX2 cI cZ (q 1) qt Ft At ++ wX2 cI cZ (q 0) qn Fn An : va_W) → va_S A9 s.heap H locs → lv_has ls 6 [(0, .ref o), (1, .int x1), (2, .int x2), (3, .int x3), (4, .int x4), (5, .int x5)] → W p l e (rmN 6 214) s m args below meth c H locs 0 0 Q (F0 m 53 ls []) := by
  obtain ⟨hx, hb, hml, ht, hown, hK, hA, hE⟩ := id X
  intro n
  induction n with
  | zero => intro Ft At x3 x4 x5 H locs ls h; exact False.elim h
  | succ n53 ih =>
    intro Ft At x3 x4 x5 H locs ls h hP hD hS hl
    rw [p_X6_strays_L53] at h
    refine lv_iload hx hb dX6_strays_53 (lv_at hl 5 rfl) ?_
    refine lv_iload_n hx hb dX6_strays_55 rfl (lv_at hl 1 rfl) ?_
    refine lv_icmp_ge (tgt := 115) hx hb dX6_strays_56 (by decide) (fun c56 => ?_) (fun c56 => ?_)
    · replace h := h.1 c56
      refine lv_iload_n hx hb dX6_strays_115 rfl (lv_at hl 3 rfl) ?_
      exact ret _ (Ft, At) _ _ _ _ dX6_strays_116 h hP hD hS
    · replace h := h.2 c56
      refine lv_aload_n hx hb dX6_strays_59 rfl (lv_at hl 0 rfl) ?_
      refine va_get (C := RX6) (T := TX6) (N := 13) (own := RX6) (v := .ref (q 1)) hx hb ht inlX6 hown hK hP 0 rfl rfl 1 (Nat.le_of_ble_eq_true rfl) (ht _ mw_1_17) (fun _ h9 => h9) rfl dX6_strays_60 ?_
      refine lv_aload_n hx hb dX6_strays_63 rfl (lv_at hl 0 rfl) ?_
      refine va_get (C := RX6) (T := TX6) (N := 13) (own := RX6) (v := .ref (q 0)) hx hb ht inlX6 hown hK hP 0 rfl rfl 0 (Nat.le_of_ble_eq_true rfl) (ht _ mw_1_16) (fun _ h9 => h9) rfl dX6_strays_64 ?_
      refine C_vv (wr := [0].filterMap (fun i => (wX6 o q F ++ wX2 cI cZ (q 1) qt Ft At ++ wX2 cI cZ (q 0) qn Fn An : va_W)[i]?)) X hP hD hS [.ref (q 0)] [] (w_X2_copyFrom l D cI cZ cR adK adV _ (q 1) qt (q 0) qn Ft At Fn An _ h) cal_X2_copyFrom mw_7_3 rfl [1, 2, 3, 4, 5, 6, 7, 8, 9, 10, 11, 12, 13, 14, 15, 16, 17, 18] [0] [0, 1, 2, 3, 4, 5, 6, 7, 8, 9, 10, 11, 12, 13, 14, 15, 16, 17, 18] (fun u => (wX6 o q F ++ wX2 cI cZ (q 1) qt u.1 u.2 ++ wX2 cI cZ (q 0) qn Fn An : va_W)) rfl rfl (fun _ => rfl) rfl 1 rfl rfl ⟨rfl, rfl⟩ ⟨Nat.le_of_ble_eq_true rfl, Nat.le_of_ble_eq_true rfl⟩ hl.1 rfl (Nat.le_of_ble_eq_true rfl) ⟨Nat.zero_le _, Nat.zero_le _⟩ dX6_strays_67 (fun u H locs h hP hD hS => ?_)
      obtain ⟨Ft_67, At_67⟩ := u
      try dsimp only at h
      have hP : va_P D vwCl (wX6 o q F ++ wX2 cI cZ (q 1) qt Ft_67 At_67 ++ wX2 cI cZ (q 0) qn Fn An : va_W) H := hP
      have hD : va_D A9 (wX6 o q F ++ wX2 cI cZ (q 1) qt Ft_67 At_67 ++ wX2 cI cZ (q 0) qn Fn An : va_W) := hD
      refine lv_aload_n hx hb dX6_strays_70 rfl (lv_at hl 0 rfl) ?_
      refine va_get (C := RX6) (T := TX6) (N := 13) (own := RX6) (v := .ref (q 1)) hx hb ht inlX6 hown hK hP 0 rfl rfl 1 (Nat.le_of_ble_eq_true rfl) (ht _ mw_1_17) (fun _ h9 => h9) rfl dX6_strays_71 ?_
      refine lv_iload hx hb dX6_strays_74 (lv_at hl 4 rfl) ?_
      refine va_put (C := RX2) (T := TX2) (N := 13) (own := RX6) (v := .int x4) hx hb ht inlX2 tyX2 tyX2_ok nmX2 hown hK hP hD hS 1 rfl rfl 12 (Nat.le_of_ble_eq_true rfl) (ht _ mw_26_11) (fun _ h9 => h9) rfl (tyX2_ok 12 (Nat.le_of_ble_eq_true rfl)) rfl rfl (Nat.le_of_ble_eq_true rfl) dX6_strays_76 (fun H locs hP hD hS => ?_)
      have hP : va_P D vwCl (wX6 o q F ++ wX2 cI cZ (q 1) qt (upd Ft_67 12 x4) At_67 ++ wX2 cI cZ (q 0) qn Fn An : va_W) H := hP
      have hD : va_D A9 (wX6 o q F ++ wX2 cI cZ (q 1) qt (upd Ft_67 12 x4) At_67 ++ wX2 cI cZ (q 0) qn Fn An : va_W) := hD
      refine lv_aload_n hx hb dX6_strays_79 rfl (lv_at hl 0 rfl) ?_
      refine va_get (C := RX6) (T := TX6) (N := 13) (own := RX6) (v := .ref (q 1)) hx hb ht inlX6 hown hK hP 0 rfl rfl 1 (Nat.le_of_ble_eq_true rfl) (ht _ mw_1_17) (fun _ h9 => h9) rfl dX6_strays_80 ?_
      refine C_vv (wr := [0, 10, 11, 12, 13, 14, 15, 16, 17, 18].filterMap (fun i => (wX6 o q F ++ wX2 cI cZ (q 1) qt (upd Ft_67 12 x4) At_67 ++ wX2 cI cZ (q 0) qn Fn An : va_W)[i]?)) X hP hD hS [] [] (w_X2_passDayByDraws l D cI cZ cR adK adV _ (q 1) qt (upd Ft_67 12 x4) At_67 _ h) cal_X2_passDayByDraws mw_26_20 rfl [1, 2, 3, 4, 5, 6, 7, 8, 9] [0, 10, 11, 12, 13, 14, 15, 16, 17, 18] [0, 10, 11, 12, 13, 14, 15, 16, 17, 18, 1, 2, 3, 4, 5, 6, 7, 8, 9] (fun u => (wX6 o q F ++ wX2 cI cZ (q 1) qt u.1 u.2 ++ wX2 cI cZ (q 0) qn Fn An : va_W)) rfl rfl (fun _ => rfl) rfl 1 rfl rfl ⟨rfl, rfl⟩ ⟨Nat.le_of_ble_eq_true rfl, Nat.le_of_ble_eq_true rfl⟩ hl.1 rfl (Nat.le_of_ble_eq_true rfl) ⟨Nat.zero_le _, Nat.zero_le _⟩ dX6_strays_83 (fun u H locs h hP hD hS => ?_)
      obtain ⟨Ft_83, At_83⟩ := u
      try dsimp only at h
      have hP : va_P D vwCl (wX6 o q F ++ wX2 cI cZ (q 1) qt Ft_83 At_83 ++ wX2 cI cZ (q 0) qn Fn An : va_W) H := hP
      have hD : va_D A9 (wX6 o q F ++ wX2 cI cZ (q 1) qt Ft_83 At_83 ++ wX2 cI cZ (q 0) qn Fn An : va_W) := hD
      refine lv_aload_n hx hb dX6_strays_86 rfl (lv_at hl 0 rfl) ?_
      refine va_get (C := RX6) (T := TX6) (N := 13) (own := RX6) (v := .ref (q 1)) hx hb ht inlX6 hown hK hP 0 rfl rfl 1 (Nat.le_of_ble_eq_true rfl) (ht _ mw_1_17) (fun _ h9 => h9) rfl dX6_strays_87 ?_
      refine va_get (C := RX2) (T := TX2) (N := 13) (own := RX6) (v := .int (Ft_83 12)) hx hb ht inlX2 hown hK hP 1 rfl rfl 12 (Nat.le_of_ble_eq_true rfl) (ht _ mw_26_11) (fun _ h9 => h9) rfl dX6_strays_90 ?_
      refine lv_topi (fun y93 ey93 => ?_)
      replace h := h y93 ey93
      refine lv_istore (lv' := [(4, .int y93), (0, .ref o), (1, .int x1), (2, .int x2), (3, .int x3), (5, .int x5)]) hx hb dX6_strays_93 hl (by decide) rfl (fun ls hl => ?_)
      refine lv_aload_n hx hb dX6_strays_95 rfl (lv_at hl 1 rfl) ?_
      refine va_get (C := RX6) (T := TX6) (N := 13) (own := RX6) (v := .ref (q 1)) hx hb ht inlX6 hown hK hP 0 rfl rfl 1 (Nat.le_of_ble_eq_true rfl) (ht _ mw_1_17) (fun _ h9 => h9) rfl dX6_strays_96 ?_
      refine va_get (C := RX2) (T := TX2) (N := 13) (own := RX6) (v := .int (Ft_83 9)) hx hb ht inlX2 hown hK hP 1 rfl rfl 9 (Nat.le_of_ble_eq_true rfl) (ht _ mw_23_9) (fun _ h9 => h9) rfl dX6_strays_99 ?_
      refine lv_iload_n hx hb dX6_strays_102 rfl (lv_at hl 3 rfl) ?_
      refine lv_icmp_eq (tgt := 109) hx hb dX6_strays_103 (by decide) (fun c103 => ?_) (fun c103 => ?_)
      · replace h := h.1 c103
        exact b_X6_strays_J109 F Ft_83 At_83 Fn An x1 x2 x3 y93 x5 X ret ih _ _ _ h hP hD hS (lv_sub hl [1, 2, 3, 4, 0, 5] rfl)
      · replace h := h.2 c103
        obtain ⟨y106, ey106⟩ : ∃ y : Int32, y = (x3 + (1 : Int32)) := ⟨_, rfl⟩
        replace h := h y106 ey106
        refine lv_iinc (v := y106) (lv' := [(3, .int y106), (4, .int y93), (0, .ref o), (1, .int x1), (2, .int x2), (5, .int x5)]) hx hb dX6_strays_106 hl (k := 4) rfl (by rw [ey106]; rfl) (by decide) rfl (fun ls hl => ?_)
        exact b_X6_strays_J109 F Ft_83 At_83 Fn An x1 x2 y106 y93 x5 X ret ih _ _ _ h hP hD hS (lv_sub hl [2, 3, 4, 0, 1, 5] rfl)
def p_X6_strays (F : tF) (Ft : tF) (At : tA) (Fn : tF) (An : tA) (x1 : Int32) (K : Int32 → tF → tA → Prop) : Prop := ((x1 < (1 : Int32) → (K (-1 : Int32) Ft At)) ∧ (¬ x1 < (1 : Int32) → ((x1 ≤ (30 : Int32) → (p_X2_copyFrom Ft At Fn An (fun Ft_21 At_21 => (p_X2_passDay Ft_21 At_21 (fun Ft_28 At_28 => (∀ y38 : Int32, y38 = (Ft_28 9) → (∀ y48 : Int32, y48 = (Fn 12) → (∃ n53, p_X6_strays_L53 F Fn An x1 y38 K n53 Ft_28 At_28 (0 : Int32) y48 (0 : Int32))))))))) ∧ (¬ x1 ≤ (30 : Int32) → (K (-1 : Int32) Ft At)))))
set_option maxHeartbeats 4000000 in
set_option maxRecDepth 100000 in
theorem w_X6_strays (l : Launch) (D : va_G) (cI cZ cR : ClassId) (adK adV : Nat → Nat) (sz : Nat) (o : Nat) (q : Nat → Nat) (qt : Nat → Nat) (qn : Nat → Nat) (F : tF) (Ft : tF) (At : tA) (Fn : tF) (An : tA) (x1 : Int32) (K : Int32 → tF → tA → Prop) (h : p_X6_strays F Ft At Fn An x1 K) : MI l D cI cZ cR adK adV yX6_strays cX6_strays 6 (some .int) (rmN 6 214) [.ref o, .int x1] (wX6 o q F ++ wX2 cI cZ (q 1) qt Ft At ++ wX2 cI cZ (q 0) qn Fn An : va_W) sz (fun (r : Int32) (u : (tF × tA)) => K r u.1 u.2) (fun (u : (tF × tA)) => (wX6 o q F ++ wX2 cI cZ (q 1) qt u.1 u.2 ++ wX2 cI cZ (q 0) qn Fn An : va_W)) := by
  refine M_i (by decide +kernel) (Nat.le_of_ble_eq_true rfl) ?_
  intro p e s m args below meth c Q A9 ls X ret hP hD hS hl
  obtain ⟨hx, hb, hml, ht, hown, hK, hA, hE⟩ := id X
  have hl : lv_has ls 6 [(0, .ref o), (1, .int x1)] := hl
  unfold p_X6_strays at h
  refine lv_iload_n hx hb dX6_strays_0 rfl (lv_at hl 1 rfl) ?_
  refine lv_iconst (v := 1) hx hb dX6_strays_1 (by decide) ?_
  refine lv_icmp_lt (tgt := 11) hx hb dX6_strays_2 (by decide) (fun c2 => ?_) (fun c2 => ?_)
  · replace h := h.1 c2
    refine lv_iconst (v := -1) hx hb dX6_strays_11 (by decide) ?_
    exact ret _ (Ft, At) _ _ _ _ dX6_strays_12 h hP hD hS
  · replace h := h.2 c2
    refine lv_iload_n hx hb dX6_strays_5 rfl (lv_at hl 1 rfl) ?_
    refine lv_bipush (v := 30) hx hb dX6_strays_6 (by decide) ?_
    refine lv_icmp_le (tgt := 13) hx hb dX6_strays_8 (by decide) (fun c8 => ?_) (fun c8 => ?_)
    · replace h := h.1 c8
      refine lv_aload_n hx hb dX6_strays_13 rfl (lv_at hl 0 rfl) ?_
      refine va_get (C := RX6) (T := TX6) (N := 13) (own := RX6) (v := .ref (q 1)) hx hb ht inlX6 hown hK hP 0 rfl rfl 1 (Nat.le_of_ble_eq_true rfl) (ht _ mw_1_17) (fun _ h9 => h9) rfl dX6_strays_14 ?_
      refine lv_aload_n hx hb dX6_strays_17 rfl (lv_at hl 0 rfl) ?_
      refine va_get (C := RX6) (T := TX6) (N := 13) (own := RX6) (v := .ref (q 0)) hx hb ht inlX6 hown hK hP 0 rfl rfl 0 (Nat.le_of_ble_eq_true rfl) (ht _ mw_1_16) (fun _ h9 => h9) rfl dX6_strays_18 ?_
      refine C_vv (wr := [0].filterMap (fun i => (wX6 o q F ++ wX2 cI cZ (q 1) qt Ft At ++ wX2 cI cZ (q 0) qn Fn An : va_W)[i]?)) X hP hD hS [.ref (q 0)] [] (w_X2_copyFrom l D cI cZ cR adK adV _ (q 1) qt (q 0) qn Ft At Fn An _ h) cal_X2_copyFrom mw_7_3 rfl [1, 2, 3, 4, 5, 6, 7, 8, 9, 10, 11, 12, 13, 14, 15, 16, 17, 18] [0] [0, 1, 2, 3, 4, 5, 6, 7, 8, 9, 10, 11, 12, 13, 14, 15, 16, 17, 18] (fun u => (wX6 o q F ++ wX2 cI cZ (q 1) qt u.1 u.2 ++ wX2 cI cZ (q 0) qn Fn An : va_W)) rfl rfl (fun _ => rfl) rfl 1 rfl rfl ⟨rfl, rfl⟩ ⟨Nat.le_of_ble_eq_true rfl, Nat.le_of_ble_eq_true rfl⟩ hl.1 rfl (Nat.le_of_ble_eq_true rfl) ⟨Nat.zero_le _, Nat.zero_le _⟩ dX6_strays_21 (fun u H locs h hP hD hS => ?_)
      obtain ⟨Ft_21, At_21⟩ := u
      try dsimp only at h
      have hP : va_P D vwCl (wX6 o q F ++ wX2 cI cZ (q 1) qt Ft_21 At_21 ++ wX2 cI cZ (q 0) qn Fn An : va_W) H := hP
      have hD : va_D A9 (wX6 o q F ++ wX2 cI cZ (q 1) qt Ft_21 At_21 ++ wX2 cI cZ (q 0) qn Fn An : va_W) := hD
      refine lv_aload_n hx hb dX6_strays_24 rfl (lv_at hl 0 rfl) ?_
      refine va_get (C := RX6) (T := TX6) (N := 13) (own := RX6) (v := .ref (q 1)) hx hb ht inlX6 hown hK hP 0 rfl rfl 1 (Nat.le_of_ble_eq_true rfl) (ht _ mw_1_17) (fun _ h9 => h9) rfl dX6_strays_25 ?_
      refine C_vv (wr := [0, 10, 11, 12, 13, 14, 15, 16, 17, 18].filterMap (fun i => (wX6 o q F ++ wX2 cI cZ (q 1) qt Ft_21 At_21 ++ wX2 cI cZ (q 0) qn Fn An : va_W)[i]?)) X hP hD hS [] [] (w_X2_passDay l D cI cZ cR adK adV _ (q 1) qt Ft_21 At_21 _ h) cal_X2_passDay mw_27_18 rfl [1, 2, 3, 4, 5, 6, 7, 8, 9] [0, 10, 11, 12, 13, 14, 15, 16, 17, 18] [0, 10, 11, 12, 13, 14, 15, 16, 17, 18, 1, 2, 3, 4, 5, 6, 7, 8, 9] (fun u => (wX6 o q F ++ wX2 cI cZ (q 1) qt u.1 u.2 ++ wX2 cI cZ (q 0) qn Fn An : va_W)) rfl rfl (fun _ => rfl) rfl 1 rfl rfl ⟨rfl, rfl⟩ ⟨Nat.le_of_ble_eq_true rfl, Nat.le_of_ble_eq_true rfl⟩ hl.1 rfl (Nat.le_of_ble_eq_true rfl) ⟨Nat.zero_le _, Nat.zero_le _⟩ dX6_strays_28 (fun u H locs h hP hD hS => ?_)
      obtain ⟨Ft_28, At_28⟩ := u
      try dsimp only at h
      have hP : va_P D vwCl (wX6 o q F ++ wX2 cI cZ (q 1) qt Ft_28 At_28 ++ wX2 cI cZ (q 0) qn Fn An : va_W) H := hP
      have hD : va_D A9 (wX6 o q F ++ wX2 cI cZ (q 1) qt Ft_28 At_28 ++ wX2 cI cZ (q 0) qn Fn An : va_W) := hD
      refine lv_aload_n hx hb dX6_strays_31 rfl (lv_at hl 0 rfl) ?_
      refine va_get (C := RX6) (T := TX6) (N := 13) (own := RX6) (v := .ref (q 1)) hx hb ht inlX6 hown hK hP 0 rfl rfl 1 (Nat.le_of_ble_eq_true rfl) (ht _ mw_1_17) (fun _ h9 => h9) rfl dX6_strays_32 ?_
      refine va_get (C := RX2) (T := TX2) (N := 13) (own := RX6) (v := .int (Ft_28 9)) hx hb ht inlX2 hown hK hP 1 rfl rfl 9 (Nat.le_of_ble_eq_true rfl) (ht _ mw_23_9) (fun _ h9 => h9) rfl dX6_strays_35 ?_
      refine lv_topi (fun y38 ey38 => ?_)
      replace h := h y38 ey38
      refine lv_istore_n (lv' := [(2, .int y38), (0, .ref o), (1, .int x1)]) hx hb dX6_strays_38 rfl hl (by decide) rfl (fun ls hl => ?_)
      refine lv_iconst (v := 0) hx hb dX6_strays_39 (by decide) ?_
      refine lv_istore_n (lv' := [(3, .int (0 : Int32)), (2, .int y38), (0, .ref o), (1, .int x1)]) hx hb dX6_strays_40 rfl hl (by decide) rfl (fun ls hl => ?_)
      refine lv_aload_n hx hb dX6_strays_41 rfl (lv_at hl 2 rfl) ?_
      refine va_get (C := RX6) (T := TX6) (N := 13) (own := RX6) (v := .ref (q 0)) hx hb ht inlX6 hown hK hP 0 rfl rfl 0 (Nat.le_of_ble_eq_true rfl) (ht _ mw_1_16) (fun _ h9 => h9) rfl dX6_strays_42 ?_
      refine va_get (C := RX2) (T := TX2) (N := 13) (own := RX6) (v := .int (Fn 12)) hx hb ht inlX2 hown hK hP 10 rfl rfl 12 (Nat.le_of_ble_eq_true rfl) (ht _ mw_26_11) (fun _ h9 => h9) rfl dX6_strays_45 ?_
      refine lv_topi (fun y48 ey48 => ?_)
      replace h := h y48 ey48
      refine lv_istore (lv' := [(4, .int y48), (3, .int (0 : Int32)), (2, .int y38), (0, .ref o), (1, .int x1)]) hx hb dX6_strays_48 hl (by decide) rfl (fun ls hl => ?_)
      refine lv_iconst (v := 0) hx hb dX6_strays_50 (by decide) ?_
      refine lv_istore (lv' := [(5, .int (0 : Int32)), (4, .int y48), (3, .int (0 : Int32)), (2, .int y38), (0, .ref o), (1, .int x1)]) hx hb dX6_strays_51 hl (by decide) rfl (fun ls hl => ?_)
      obtain ⟨n53, h⟩ := h
      exact b_X6_strays_L53 F Fn An x1 y38 X ret  n53 Ft_28 At_28 (0 : Int32) y48 (0 : Int32) _ _ _ h hP hD hS (lv_sub hl [4, 5, 3, 2, 1, 0] rfl)
    · replace h := h.2 c8
      refine lv_iconst (v := -1) hx hb dX6_strays_11 (by decide) ?_
      exact ret _ (Ft, At) _ _ _ _ dX6_strays_12 h hP hD hS
theorem cal_X2_weightOfAll : CalV yX2_weightOfAll cX2_weightOfAll 3 (some .int) 0 := ⟨mw_28_9, mw_1_15, mw_28_7, mw_28_8, ⟨by decide +kernel, by decide +kernel, by decide +kernel⟩⟩
theorem cal_X6_sumOf : CalS yX6_sumOf cX6_sumOf 4 (some .int) 2 := ⟨mw_28_12, mw_1_2, mw_28_11, ⟨by decide +kernel, by decide +kernel, by decide +kernel⟩⟩
theorem cal_X2_scaredOnes : CalV yX2_scaredOnes cX2_scaredOnes 3 (some .int) 0 := ⟨mw_28_16, mw_1_15, mw_28_14, mw_28_15, ⟨by decide +kernel, by decide +kernel, by decide +kernel⟩⟩
theorem dX6_state_0 : decode cX6_state 0 = .ok (.iload_n 1, 1) := by decide +kernel
theorem dX6_state_1 : decode cX6_state 1 = .ok (.tableswitch 102 0 5 #[39, 47, 55, 63, 81, 94], 39) := by decide +kernel
theorem dX6_state_40 : decode cX6_state 40 = .ok (.aload_n 0, 1) := by decide +kernel
theorem dX6_state_41 : decode cX6_state 41 = .ok (.getfield 10, 3) := by decide +kernel
theorem dX6_state_44 : decode cX6_state 44 = .ok (.getfield 180, 3) := by decide +kernel
theorem dX6_state_47 : decode cX6_state 47 = .ok (.ireturn, 1) := by decide +kernel
theorem dX6_state_48 : decode cX6_state 48 = .ok (.aload_n 0, 1) := by decide +kernel
theorem dX6_state_49 : decode cX6_state 49 = .ok (.getfield 10, 3) := by decide +kernel
theorem dX6_state_52 : decode cX6_state 52 = .ok (.getfield 157, 3) := by decide +kernel
theorem dX6_state_55 : decode cX6_state 55 = .ok (.ireturn, 1) := by decide +kernel
theorem dX6_state_56 : decode cX6_state 56 = .ok (.aload_n 0, 1) := by decide +kernel
theorem dX6_state_57 : decode cX6_state 57 = .ok (.getfield 10, 3) := by decide +kernel
theorem dX6_state_60 : decode cX6_state 60 = .ok (.invokevirtual 183, 3) := by decide +kernel
theorem dX6_state_63 : decode cX6_state 63 = .ok (.ireturn, 1) := by decide +kernel
theorem dX6_state_64 : decode cX6_state 64 = .ok (.aload_n 0, 1) := by decide +kernel
theorem dX6_state_65 : decode cX6_state 65 = .ok (.getfield 10, 3) := by decide +kernel
theorem dX6_state_68 : decode cX6_state 68 = .ok (.getfield 123, 3) := by decide +kernel
theorem dX6_state_71 : decode cX6_state 71 = .ok (.aload_n 0, 1) := by decide +kernel
theorem dX6_state_72 : decode cX6_state 72 = .ok (.getfield 10, 3) := by decide +kernel
theorem dX6_state_75 : decode cX6_state 75 = .ok (.getfield 92, 3) := by decide +kernel
theorem dX6_state_78 : decode cX6_state 78 = .ok (.invokestatic 186, 3) := by decide +kernel
theorem dX6_state_81 : decode cX6_state 81 = .ok (.ireturn, 1) := by decide +kernel
theorem dX6_state_82 : decode cX6_state 82 = .ok (.aload_n 0, 1) := by decide +kernel
theorem dX6_state_83 : decode cX6_state 83 = .ok (.getfield 10, 3) := by decide +kernel
theorem dX6_state_86 : decode cX6_state 86 = .ok (.getfield 142, 3) := by decide +kernel
theorem dX6_state_89 : decode cX6_state 89 = .ok (.bipush 6, 2) := by decide +kernel
theorem dX6_state_91 : decode cX6_state 91 = .ok (.invokestatic 186, 3) := by decide +kernel
theorem dX6_state_94 : decode cX6_state 94 = .ok (.ireturn, 1) := by decide +kernel
theorem dX6_state_95 : decode cX6_state 95 = .ok (.aload_n 0, 1) := by decide +kernel
theorem dX6_state_96 : decode cX6_state 96 = .ok (.getfield 10, 3) := by decide +kernel
theorem dX6_state_99 : decode cX6_state 99 = .ok (.invokevirtual 190, 3) := by decide +kernel
theorem dX6_state_102 : decode cX6_state 102 = .ok (.ireturn, 1) := by decide +kernel
theorem dX6_state_103 : decode cX6_state 103 = .ok (.iconst (-1), 1) := by decide +kernel
theorem dX6_state_104 : decode cX6_state 104 = .ok (.ireturn, 1) := by decide +kernel
def p_X6_state (F : tF) (Fn : tF) (An : tA) (x1 : Int32) (K : Int32 → Prop) : Prop := ((x1 = (0 : Int32) → (K (Fn 11))) ∧ (x1 = (1 : Int32) → (K (Fn 9))) ∧ (x1 = (2 : Int32) → (p_X2_weightOfAll Fn An (fun r60 => (K r60)))) ∧ (x1 = (3 : Int32) → (p_X6_sumOf 8 (An 5) (Fn 8) (fun r78 => (K r78)))) ∧ (x1 = (4 : Int32) → (p_X6_sumOf 6 (An 1) (6 : Int32) (fun r91 => (K r91)))) ∧ (x1 = (5 : Int32) → (p_X2_scaredOnes Fn An (fun r99 => (K r99)))) ∧ (¬ x1 = (0 : Int32) → ¬ x1 = (1 : Int32) → ¬ x1 = (2 : Int32) → ¬ x1 = (3 : Int32) → ¬ x1 = (4 : Int32) → ¬ x1 = (5 : Int32) → (K (-1 : Int32))))
set_option maxHeartbeats 4000000 in
set_option maxRecDepth 100000 in
theorem w_X6_state (l : Launch) (D : va_G) (cI cZ cR : ClassId) (adK adV : Nat → Nat) (sz : Nat) (o : Nat) (q : Nat → Nat) (qn : Nat → Nat) (F : tF) (Fn : tF) (An : tA) (x1 : Int32) (K : Int32 → Prop) (h : p_X6_state F Fn An x1 K) : MI l D cI cZ cR adK adV yX6_state cX6_state 2 (some .int) (rmN 2 44) [.ref o, .int x1] (wX6 o q F ++ wX2 cI cZ (q 0) qn Fn An : va_W) sz (fun (r : Int32) (u : Unit) => K r) (fun (u : Unit) => (wX6 o q F ++ wX2 cI cZ (q 0) qn Fn An : va_W)) := by
  refine M_i (by decide +kernel) (Nat.le_of_ble_eq_true rfl) ?_
  intro p e s m args below meth c Q A9 ls X ret hP hD hS hl
  obtain ⟨hx, hb, hml, ht, hown, hK, hA, hE⟩ := id X
  have hl : lv_has ls 2 [(0, .ref o), (1, .int x1)] := hl
  unfold p_X6_state at h
  refine lv_iload_n hx hb dX6_state_0 rfl (lv_at hl 1 rfl) ?_
  by_cases c1_0 : x1 = (0 : Int32)
  · replace h := h.1 c1_0
    refine lv_tableIn (tgt := 40) hx hb dX6_state_1 (by rw [c1_0]; decide) (by rw [c1_0]; decide) (by rw [c1_0]; rfl) (by decide) ?_
    refine lv_aload_n hx hb dX6_state_40 rfl (lv_at hl 0 rfl) ?_
    refine va_get (C := RX6) (T := TX6) (N := 13) (own := RX6) (v := .ref (q 0)) hx hb ht inlX6 hown hK hP 0 rfl rfl 0 (Nat.le_of_ble_eq_true rfl) (ht _ mw_1_16) (fun _ h9 => h9) rfl dX6_state_41 ?_
    refine va_get (C := RX2) (T := TX2) (N := 13) (own := RX6) (v := .int (Fn 11)) hx hb ht inlX2 hown hK hP 1 rfl rfl 11 (Nat.le_of_ble_eq_true rfl) (ht _ mw_28_5) (fun _ h9 => h9) rfl dX6_state_44 ?_
    exact ret _ () _ _ _ _ dX6_state_47 h hP hD hS
  by_cases c1_1 : x1 = (1 : Int32)
  · replace h := h.2.1 c1_1
    refine lv_tableIn (tgt := 48) hx hb dX6_state_1 (by rw [c1_1]; decide) (by rw [c1_1]; decide) (by rw [c1_1]; rfl) (by decide) ?_
    refine lv_aload_n hx hb dX6_state_48 rfl (lv_at hl 0 rfl) ?_
    refine va_get (C := RX6) (T := TX6) (N := 13) (own := RX6) (v := .ref (q 0)) hx hb ht inlX6 hown hK hP 0 rfl rfl 0 (Nat.le_of_ble_eq_true rfl) (ht _ mw_1_16) (fun _ h9 => h9) rfl dX6_state_49 ?_
    refine va_get (C := RX2) (T := TX2) (N := 13) (own := RX6) (v := .int (Fn 9)) hx hb ht inlX2 hown hK hP 1 rfl rfl 9 (Nat.le_of_ble_eq_true rfl) (ht _ mw_23_9) (fun _ h9 => h9) rfl dX6_state_52 ?_
    exact ret _ () _ _ _ _ dX6_state_55 h hP hD hS
  by_cases c1_2 : x1 = (2 : Int32)
  · replace h := h.2.2.1 c1_2
    refine lv_tableIn (tgt := 56) hx hb dX6_state_1 (by rw [c1_2]; decide) (by rw [c1_2]; decide) (by rw [c1_2]; rfl) (by decide) ?_
    refine lv_aload_n hx hb dX6_state_56 rfl (lv_at hl 0 rfl) ?_
    refine va_get (C := RX6) (T := TX6) (N := 13) (own := RX6) (v := .ref (q 0)) hx hb ht inlX6 hown hK hP 0 rfl rfl 0 (Nat.le_of_ble_eq_true rfl) (ht _ mw_1_16) (fun _ h9 => h9) rfl dX6_state_57 ?_
    refine C_vi (wr := [0].filterMap (fun i => (wX6 o q F ++ wX2 cI cZ (q 0) qn Fn An : va_W)[i]?)) X hP hD hS [] [] (w_X2_weightOfAll l D cI cZ cR adK adV _ (q 0) qn Fn An _ h) cal_X2_weightOfAll mw_28_6 rfl [1, 2, 3, 4, 5, 6, 7, 8, 9] [0] [0, 1, 2, 3, 4, 5, 6, 7, 8, 9] (fun u => (wX6 o q F ++ wX2 cI cZ (q 0) qn Fn An : va_W)) rfl rfl (fun _ => rfl) rfl 1 rfl rfl ⟨rfl, rfl⟩ ⟨Nat.le_of_ble_eq_true rfl, Nat.le_of_ble_eq_true rfl⟩ hl.1 rfl (Nat.le_of_ble_eq_true rfl) ⟨Nat.zero_le _, Nat.zero_le _⟩ dX6_state_60 (fun r60 u H locs h hP hD hS => ?_)
    exact ret _ () _ _ _ _ dX6_state_63 h hP hD hS
  by_cases c1_3 : x1 = (3 : Int32)
  · replace h := h.2.2.2.1 c1_3
    refine lv_tableIn (tgt := 64) hx hb dX6_state_1 (by rw [c1_3]; decide) (by rw [c1_3]; decide) (by rw [c1_3]; rfl) (by decide) ?_
    refine lv_aload_n hx hb dX6_state_64 rfl (lv_at hl 0 rfl) ?_
    refine va_get (C := RX6) (T := TX6) (N := 13) (own := RX6) (v := .ref (q 0)) hx hb ht inlX6 hown hK hP 0 rfl rfl 0 (Nat.le_of_ble_eq_true rfl) (ht _ mw_1_16) (fun _ h9 => h9) rfl dX6_state_65 ?_
    refine va_get (C := RX2) (T := TX2) (N := 13) (own := RX6) (v := .ref (qn 5)) hx hb ht inlX2 hown hK hP 1 rfl rfl 5 (Nat.le_of_ble_eq_true rfl) (ht _ mw_17_6) (fun _ h9 => h9) rfl dX6_state_68 ?_
    refine lv_aload_n hx hb dX6_state_71 rfl (lv_at hl 0 rfl) ?_
    refine va_get (C := RX6) (T := TX6) (N := 13) (own := RX6) (v := .ref (q 0)) hx hb ht inlX6 hown hK hP 0 rfl rfl 0 (Nat.le_of_ble_eq_true rfl) (ht _ mw_1_16) (fun _ h9 => h9) rfl dX6_state_72 ?_
    refine va_get (C := RX2) (T := TX2) (N := 13) (own := RX6) (v := .int (Fn 8)) hx hb ht inlX2 hown hK hP 1 rfl rfl 8 (Nat.le_of_ble_eq_true rfl) (ht _ mw_7_2) (fun _ h9 => h9) rfl dX6_state_75 ?_
    refine C_si (wr := [0, 1, 2, 3, 4, 5, 6, 8, 9].filterMap (fun i => (wX6 o q F ++ wX2 cI cZ (q 0) qn Fn An : va_W)[i]?)) X hP hD hS [.ref (qn 5), .int (Fn 8)] [] (w_X6_sumOf l D cI cZ cR adK adV _ (qn 5) 8 (An 5) (Fn 8) _ h) cal_X6_sumOf mw_28_10 rfl [7] [0, 1, 2, 3, 4, 5, 6, 8, 9] [0, 1, 2, 3, 4, 5, 6, 9, 7, 8] (fun u => (wX6 o q F ++ wX2 cI cZ (q 0) qn Fn An : va_W)) rfl rfl (fun _ => rfl) rfl ⟨rfl, rfl⟩ ⟨Nat.le_of_ble_eq_true rfl, Nat.le_of_ble_eq_true rfl⟩ hl.1 rfl (Nat.le_of_ble_eq_true rfl) ⟨Nat.zero_le _, Nat.zero_le _⟩ dX6_state_78 (fun r78 u H locs h hP hD hS => ?_)
    exact ret _ () _ _ _ _ dX6_state_81 h hP hD hS
  by_cases c1_4 : x1 = (4 : Int32)
  · replace h := h.2.2.2.2.1 c1_4
    refine lv_tableIn (tgt := 82) hx hb dX6_state_1 (by rw [c1_4]; decide) (by rw [c1_4]; decide) (by rw [c1_4]; rfl) (by decide) ?_
    refine lv_aload_n hx hb dX6_state_82 rfl (lv_at hl 0 rfl) ?_
    refine va_get (C := RX6) (T := TX6) (N := 13) (own := RX6) (v := .ref (q 0)) hx hb ht inlX6 hown hK hP 0 rfl rfl 0 (Nat.le_of_ble_eq_true rfl) (ht _ mw_1_16) (fun _ h9 => h9) rfl dX6_state_83 ?_
    refine va_get (C := RX2) (T := TX2) (N := 13) (own := RX6) (v := .ref (qn 1)) hx hb ht inlX2 hown hK hP 1 rfl rfl 1 (Nat.le_of_ble_eq_true rfl) (ht _ mw_21_16) (fun _ h9 => h9) rfl dX6_state_86 ?_
    refine lv_bipush (v := 6) hx hb dX6_state_89 (by decide) ?_
    refine C_si (wr := [0, 1, 2, 4, 5, 6, 7, 8, 9].filterMap (fun i => (wX6 o q F ++ wX2 cI cZ (q 0) qn Fn An : va_W)[i]?)) X hP hD hS [.ref (qn 1), .int (6 : Int32)] [] (w_X6_sumOf l D cI cZ cR adK adV _ (qn 1) 6 (An 1) (6 : Int32) _ h) cal_X6_sumOf mw_28_10 rfl [3] [0, 1, 2, 4, 5, 6, 7, 8, 9] [0, 1, 2, 9, 3, 4, 5, 6, 7, 8] (fun u => (wX6 o q F ++ wX2 cI cZ (q 0) qn Fn An : va_W)) rfl rfl (fun _ => rfl) rfl ⟨rfl, rfl⟩ ⟨Nat.le_of_ble_eq_true rfl, Nat.le_of_ble_eq_true rfl⟩ hl.1 rfl (Nat.le_of_ble_eq_true rfl) ⟨Nat.zero_le _, Nat.zero_le _⟩ dX6_state_91 (fun r91 u H locs h hP hD hS => ?_)
    exact ret _ () _ _ _ _ dX6_state_94 h hP hD hS
  by_cases c1_5 : x1 = (5 : Int32)
  · replace h := h.2.2.2.2.2.1 c1_5
    refine lv_tableIn (tgt := 95) hx hb dX6_state_1 (by rw [c1_5]; decide) (by rw [c1_5]; decide) (by rw [c1_5]; rfl) (by decide) ?_
    refine lv_aload_n hx hb dX6_state_95 rfl (lv_at hl 0 rfl) ?_
    refine va_get (C := RX6) (T := TX6) (N := 13) (own := RX6) (v := .ref (q 0)) hx hb ht inlX6 hown hK hP 0 rfl rfl 0 (Nat.le_of_ble_eq_true rfl) (ht _ mw_1_16) (fun _ h9 => h9) rfl dX6_state_96 ?_
    refine C_vi (wr := [0].filterMap (fun i => (wX6 o q F ++ wX2 cI cZ (q 0) qn Fn An : va_W)[i]?)) X hP hD hS [] [] (w_X2_scaredOnes l D cI cZ cR adK adV _ (q 0) qn Fn An _ h) cal_X2_scaredOnes mw_28_13 rfl [1, 2, 3, 4, 5, 6, 7, 8, 9] [0] [0, 1, 2, 3, 4, 5, 6, 7, 8, 9] (fun u => (wX6 o q F ++ wX2 cI cZ (q 0) qn Fn An : va_W)) rfl rfl (fun _ => rfl) rfl 1 rfl rfl ⟨rfl, rfl⟩ ⟨Nat.le_of_ble_eq_true rfl, Nat.le_of_ble_eq_true rfl⟩ hl.1 rfl (Nat.le_of_ble_eq_true rfl) ⟨Nat.zero_le _, Nat.zero_le _⟩ dX6_state_99 (fun r99 u H locs h hP hD hS => ?_)
    exact ret _ () _ _ _ _ dX6_state_102 h hP hD hS
  replace h := h.2.2.2.2.2.2 c1_0 c1_1 c1_2 c1_3 c1_4 c1_5
  refine g_tdef (tgt := 103) hx hb dX6_state_1 ?_ (by decide) ?_
  · exact Or.inl (sw0_5 c1_0 c1_1 c1_2 c1_3 c1_4 c1_5)
  refine lv_iconst (v := -1) hx hb dX6_state_103 (by decide) ?_
  exact ret _ () _ _ _ _ dX6_state_104 h hP hD hS
theorem dX6_where_0 : decode cX6_where 0 = .ok (.iload_n 1, 1) := by decide +kernel
theorem dX6_where_1 : decode cX6_where 1 = .ok (.ifCond .lt 9, 3) := by decide +kernel
theorem dX6_where_4 : decode cX6_where 4 = .ok (.iload_n 1, 1) := by decide +kernel
theorem dX6_where_5 : decode cX6_where 5 = .ok (.bipush 60, 2) := by decide +kernel
theorem dX6_where_7 : decode cX6_where 7 = .ok (.if_icmp .le 5, 3) := by decide +kernel
theorem dX6_where_10 : decode cX6_where 10 = .ok (.iconst (-1), 1) := by decide +kernel
theorem dX6_where_11 : decode cX6_where 11 = .ok (.ireturn, 1) := by decide +kernel
theorem dX6_where_12 : decode cX6_where 12 = .ok (.aload_n 0, 1) := by decide +kernel
theorem dX6_where_13 : decode cX6_where 13 = .ok (.getfield 16, 3) := by decide +kernel
theorem dX6_where_16 : decode cX6_where 16 = .ok (.aload_n 0, 1) := by decide +kernel
theorem dX6_where_17 : decode cX6_where 17 = .ok (.getfield 10, 3) := by decide +kernel
theorem dX6_where_20 : decode cX6_where 20 = .ok (.invokevirtual 81, 3) := by decide +kernel
theorem dX6_where_23 : decode cX6_where 23 = .ok (.aload_n 0, 1) := by decide +kernel
theorem dX6_where_24 : decode cX6_where 24 = .ok (.getfield 16, 3) := by decide +kernel
theorem dX6_where_27 : decode cX6_where 27 = .ok (.iload_n 1, 1) := by decide +kernel
theorem dX6_where_28 : decode cX6_where 28 = .ok (.invokevirtual 167, 3) := by decide +kernel
theorem dX6_where_31 : decode cX6_where 31 = .ok (.aload_n 0, 1) := by decide +kernel
theorem dX6_where_32 : decode cX6_where 32 = .ok (.getfield 16, 3) := by decide +kernel
theorem dX6_where_35 : decode cX6_where 35 = .ok (.getfield 157, 3) := by decide +kernel
theorem dX6_where_38 : decode cX6_where 38 = .ok (.ireturn, 1) := by decide +kernel
def p_X6_where (F : tF) (Ft : tF) (At : tA) (Fn : tF) (An : tA) (x1 : Int32) (K : Int32 → tF → tA → Prop) : Prop := ((x1 < 0 → (K (-1 : Int32) Ft At)) ∧ (¬ x1 < 0 → ((x1 ≤ (60 : Int32) → (p_X2_copyFrom Ft At Fn An (fun Ft_20 At_20 => (p_X2_passDays Ft_20 At_20 x1 (fun Ft_28 At_28 => (K (Ft_28 9) Ft_28 At_28)))))) ∧ (¬ x1 ≤ (60 : Int32) → (K (-1 : Int32) Ft At)))))
set_option maxHeartbeats 4000000 in
set_option maxRecDepth 100000 in
theorem w_X6_where (l : Launch) (D : va_G) (cI cZ cR : ClassId) (adK adV : Nat → Nat) (sz : Nat) (o : Nat) (q : Nat → Nat) (qt : Nat → Nat) (qn : Nat → Nat) (F : tF) (Ft : tF) (At : tA) (Fn : tF) (An : tA) (x1 : Int32) (K : Int32 → tF → tA → Prop) (h : p_X6_where F Ft At Fn An x1 K) : MI l D cI cZ cR adK adV yX6_where cX6_where 2 (some .int) (rmN 6 215) [.ref o, .int x1] (wX6 o q F ++ wX2 cI cZ (q 1) qt Ft At ++ wX2 cI cZ (q 0) qn Fn An : va_W) sz (fun (r : Int32) (u : (tF × tA)) => K r u.1 u.2) (fun (u : (tF × tA)) => (wX6 o q F ++ wX2 cI cZ (q 1) qt u.1 u.2 ++ wX2 cI cZ (q 0) qn Fn An : va_W)) := by
  refine M_i (by decide +kernel) (Nat.le_of_ble_eq_true rfl) ?_
  intro p e s m args below meth c Q A9 ls X ret hP hD hS hl
  obtain ⟨hx, hb, hml, ht, hown, hK, hA, hE⟩ := id X
  have hl : lv_has ls 2 [(0, .ref o), (1, .int x1)] := hl
  unfold p_X6_where at h
  refine lv_iload_n hx hb dX6_where_0 rfl (lv_at hl 1 rfl) ?_
  refine lv_if_lt (tgt := 10) hx hb dX6_where_1 (by decide) (fun c1 => ?_) (fun c1 => ?_)
  · replace h := h.1 c1
    refine lv_iconst (v := -1) hx hb dX6_where_10 (by decide) ?_
    exact ret _ (Ft, At) _ _ _ _ dX6_where_11 h hP hD hS
  · replace h := h.2 c1
    refine lv_iload_n hx hb dX6_where_4 rfl (lv_at hl 1 rfl) ?_
    refine lv_bipush (v := 60) hx hb dX6_where_5 (by decide) ?_
    refine lv_icmp_le (tgt := 12) hx hb dX6_where_7 (by decide) (fun c7 => ?_) (fun c7 => ?_)
    · replace h := h.1 c7
      refine lv_aload_n hx hb dX6_where_12 rfl (lv_at hl 0 rfl) ?_
      refine va_get (C := RX6) (T := TX6) (N := 13) (own := RX6) (v := .ref (q 1)) hx hb ht inlX6 hown hK hP 0 rfl rfl 1 (Nat.le_of_ble_eq_true rfl) (ht _ mw_1_17) (fun _ h9 => h9) rfl dX6_where_13 ?_
      refine lv_aload_n hx hb dX6_where_16 rfl (lv_at hl 0 rfl) ?_
      refine va_get (C := RX6) (T := TX6) (N := 13) (own := RX6) (v := .ref (q 0)) hx hb ht inlX6 hown hK hP 0 rfl rfl 0 (Nat.le_of_ble_eq_true rfl) (ht _ mw_1_16) (fun _ h9 => h9) rfl dX6_where_17 ?_
      refine C_vv (wr := [0].filterMap (fun i => (wX6 o q F ++ wX2 cI cZ (q 1) qt Ft At ++ wX2 cI cZ (q 0) qn Fn An : va_W)[i]?)) X hP hD hS [.ref (q 0)] [] (w_X2_copyFrom l D cI cZ cR adK adV _ (q 1) qt (q 0) qn Ft At Fn An _ h) cal_X2_copyFrom mw_7_3 rfl [1, 2, 3, 4, 5, 6, 7, 8, 9, 10, 11, 12, 13, 14, 15, 16, 17, 18] [0] [0, 1, 2, 3, 4, 5, 6, 7, 8, 9, 10, 11, 12, 13, 14, 15, 16, 17, 18] (fun u => (wX6 o q F ++ wX2 cI cZ (q 1) qt u.1 u.2 ++ wX2 cI cZ (q 0) qn Fn An : va_W)) rfl rfl (fun _ => rfl) rfl 1 rfl rfl ⟨rfl, rfl⟩ ⟨Nat.le_of_ble_eq_true rfl, Nat.le_of_ble_eq_true rfl⟩ hl.1 rfl (Nat.le_of_ble_eq_true rfl) ⟨Nat.zero_le _, Nat.zero_le _⟩ dX6_where_20 (fun u H locs h hP hD hS => ?_)
      obtain ⟨Ft_20, At_20⟩ := u
      try dsimp only at h
      have hP : va_P D vwCl (wX6 o q F ++ wX2 cI cZ (q 1) qt Ft_20 At_20 ++ wX2 cI cZ (q 0) qn Fn An : va_W) H := hP
      have hD : va_D A9 (wX6 o q F ++ wX2 cI cZ (q 1) qt Ft_20 At_20 ++ wX2 cI cZ (q 0) qn Fn An : va_W) := hD
      refine lv_aload_n hx hb dX6_where_23 rfl (lv_at hl 0 rfl) ?_
      refine va_get (C := RX6) (T := TX6) (N := 13) (own := RX6) (v := .ref (q 1)) hx hb ht inlX6 hown hK hP 0 rfl rfl 1 (Nat.le_of_ble_eq_true rfl) (ht _ mw_1_17) (fun _ h9 => h9) rfl dX6_where_24 ?_
      refine lv_iload_n hx hb dX6_where_27 rfl (lv_at hl 1 rfl) ?_
      refine C_vv (wr := [0, 10, 11, 12, 13, 14, 15, 16, 17, 18].filterMap (fun i => (wX6 o q F ++ wX2 cI cZ (q 1) qt Ft_20 At_20 ++ wX2 cI cZ (q 0) qn Fn An : va_W)[i]?)) X hP hD hS [.int x1] [] (w_X2_passDays l D cI cZ cR adK adV _ (q 1) qt Ft_20 At_20 x1 _ h) cal_X2_passDays mw_24_20 rfl [1, 2, 3, 4, 5, 6, 7, 8, 9] [0, 10, 11, 12, 13, 14, 15, 16, 17, 18] [0, 10, 11, 12, 13, 14, 15, 16, 17, 18, 1, 2, 3, 4, 5, 6, 7, 8, 9] (fun u => (wX6 o q F ++ wX2 cI cZ (q 1) qt u.1 u.2 ++ wX2 cI cZ (q 0) qn Fn An : va_W)) rfl rfl (fun _ => rfl) rfl 1 rfl rfl ⟨rfl, rfl⟩ ⟨Nat.le_of_ble_eq_true rfl, Nat.le_of_ble_eq_true rfl⟩ hl.1 rfl (Nat.le_of_ble_eq_true rfl) ⟨Nat.zero_le _, Nat.zero_le _⟩ dX6_where_28 (fun u H locs h hP hD hS => ?_)
      obtain ⟨Ft_28, At_28⟩ := u
      try dsimp only at h
      have hP : va_P D vwCl (wX6 o q F ++ wX2 cI cZ (q 1) qt Ft_28 At_28 ++ wX2 cI cZ (q 0) qn Fn An : va_W) H := hP
      have hD : va_D A9 (wX6 o q F ++ wX2 cI cZ (q 1) qt Ft_28 At_28 ++ wX2 cI cZ (q 0) qn Fn An : va_W) := hD
      refine lv_aload_n hx hb dX6_where_31 rfl (lv_at hl 0 rfl) ?_
      refine va_get (C := RX6) (T := TX6) (N := 13) (own := RX6) (v := .ref (q 1)) hx hb ht inlX6 hown hK hP 0 rfl rfl 1 (Nat.le_of_ble_eq_true rfl) (ht _ mw_1_17) (fun _ h9 => h9) rfl dX6_where_32 ?_
      refine va_get (C := RX2) (T := TX2) (N := 13) (own := RX6) (v := .int (Ft_28 9)) hx hb ht inlX2 hown hK hP 1 rfl rfl 9 (Nat.le_of_ble_eq_true rfl) (ht _ mw_23_9) (fun _ h9 => h9) rfl dX6_where_35 ?_
      exact ret _ (Ft_28, At_28) _ _ _ _ dX6_where_38 h hP hD hS
    · replace h := h.2 c7
      refine lv_iconst (v := -1) hx hb dX6_where_10 (by decide) ?_
      exact ret _ (Ft, At) _ _ _ _ dX6_where_11 h hP hD hS
theorem dX6_comes_0 : decode cX6_comes 0 = .ok (.iload_n 1, 1) := by decide +kernel
theorem dX6_comes_1 : decode cX6_comes 1 = .ok (.bipush 6, 2) := by decide +kernel
theorem dX6_comes_3 : decode cX6_comes 3 = .ok (.invokestatic 95, 3) := by decide +kernel
theorem dX6_comes_6 : decode cX6_comes 6 = .ok (.ifCond .ne 5, 3) := by decide +kernel
theorem dX6_comes_9 : decode cX6_comes 9 = .ok (.iconst (-1), 1) := by decide +kernel
theorem dX6_comes_10 : decode cX6_comes 10 = .ok (.ireturn, 1) := by decide +kernel
theorem dX6_comes_11 : decode cX6_comes 11 = .ok (.aload_n 0, 1) := by decide +kernel
theorem dX6_comes_12 : decode cX6_comes 12 = .ok (.getfield 16, 3) := by decide +kernel
theorem dX6_comes_15 : decode cX6_comes 15 = .ok (.aload_n 0, 1) := by decide +kernel
theorem dX6_comes_16 : decode cX6_comes 16 = .ok (.getfield 10, 3) := by decide +kernel
theorem dX6_comes_19 : decode cX6_comes 19 = .ok (.invokevirtual 81, 3) := by decide +kernel
theorem dX6_comes_22 : decode cX6_comes 22 = .ok (.iconst 0, 1) := by decide +kernel
theorem dX6_comes_23 : decode cX6_comes 23 = .ok (.istore_n 2, 1) := by decide +kernel
theorem dX6_comes_24 : decode cX6_comes 24 = .ok (.iload_n 2, 1) := by decide +kernel
theorem dX6_comes_25 : decode cX6_comes 25 = .ok (.bipush 60, 2) := by decide +kernel
theorem dX6_comes_27 : decode cX6_comes 27 = .ok (.if_icmp .gt 29, 3) := by decide +kernel
theorem dX6_comes_30 : decode cX6_comes 30 = .ok (.aload_n 0, 1) := by decide +kernel
theorem dX6_comes_31 : decode cX6_comes 31 = .ok (.getfield 16, 3) := by decide +kernel
theorem dX6_comes_34 : decode cX6_comes 34 = .ok (.getfield 157, 3) := by decide +kernel
theorem dX6_comes_37 : decode cX6_comes 37 = .ok (.iload_n 1, 1) := by decide +kernel
theorem dX6_comes_38 : decode cX6_comes 38 = .ok (.if_icmp .ne 5, 3) := by decide +kernel
theorem dX6_comes_41 : decode cX6_comes 41 = .ok (.iload_n 2, 1) := by decide +kernel
theorem dX6_comes_42 : decode cX6_comes 42 = .ok (.ireturn, 1) := by decide +kernel
theorem dX6_comes_43 : decode cX6_comes 43 = .ok (.aload_n 0, 1) := by decide +kernel
theorem dX6_comes_44 : decode cX6_comes 44 = .ok (.getfield 16, 3) := by decide +kernel
theorem dX6_comes_47 : decode cX6_comes 47 = .ok (.invokevirtual 177, 3) := by decide +kernel
theorem dX6_comes_50 : decode cX6_comes 50 = .ok (.iinc 2 1, 3) := by decide +kernel
theorem dX6_comes_53 : decode cX6_comes 53 = .ok (.goto (-29), 3) := by decide +kernel
theorem dX6_comes_56 : decode cX6_comes 56 = .ok (.bipush (-3), 2) := by decide +kernel
theorem dX6_comes_58 : decode cX6_comes 58 = .ok (.ireturn, 1) := by decide +kernel
def p_X6_comes_L24 (F : tF) (Fn : tF) (An : tA) (x1 : Int32) (K : Int32 → tF → tA → Prop) : Nat → tF → tA → Int32 → Prop
  | 0, _, _, _ => False
  | n24 + 1, Ft, At, x2 => (((60 : Int32) < x2 → (K (-3 : Int32) Ft At)) ∧ (¬ (60 : Int32) < x2 → ((¬ (Ft 9) = x1 → (p_X2_passDay Ft At (fun Ft_47 At_47 => (∀ y50 : Int32, y50 = (x2 + (1 : Int32)) → ((p_X6_comes_L24 F Fn An x1 K n24) Ft_47 At_47 y50))))) ∧ ((Ft 9) = x1 → (K x2 Ft At)))))
set_option maxHeartbeats 4000000 in
set_option maxRecDepth 100000 in
theorem b_X6_comes_L24 {p : Program} {l : Launch} {e : Env} {s : State} {m : MethodId} {args : Array Value} {below : List Frame} {meth : Method} {c : Code} {Q : State → Prop} {D : va_G} {cI cZ cR : ClassId} {adK adV : Nat → Nat} {A9 : Nat → Prop} {o : Nat} {q : Nat → Nat} {qt : Nat → Nat} {qn : Nat → Nat} {K : Int32 → tF → tA → Prop}  (F : tF) (Fn : tF) (An : tA) (x1 : Int32) (X : CX p s m args c yX6_comes.cls cX6_comes 3 D cI cZ cR adK adV A9) (ret : RTi p l e (rmN 5 193) s m args below meth c Q cX6_comes D A9 (fun (r : Int32) (u : (tF × tA)) => K r u.1 u.2) (fun (u : (tF × tA)) => (wX6 o q F ++ wX2 cI cZ (q 1) qt u.1 u.2 ++ wX2 cI cZ (q 0) qn Fn An : va_W)))   : ∀ (n : Nat) (Ft : tF) (At : tA) (x2 : Int32) (H : Heap) (locs : List Loc) (ls : Array Slot), p_X6_comes_L24 F Fn An x1 K n Ft At x2 → va_P D vwCl (wX6 o q F ++ wX2 cI cZ (q 1) qt Ft At ++ wX2 cI cZ (q 0) qn Fn An : va_W) H → va_D A9 (wX6 o q F ++ wX2 cI cZ (q 1) qt Ft At ++ wX2 cI cZ (q 0) qn Fn An : va_W) → va_S A9 s.heap H locs → lv_has ls 3 [(0, .ref o), (1, .int x1), (2, .int x2)] → W p l e (rmN 5 193) s m args below meth c H locs 0 0 Q (F0 m 24 ls []) := by
  obtain ⟨hx, hb, hml, ht, hown, hK, hA, hE⟩ := id X
  intro n
  induction n with
  | zero => intro Ft At x2 H locs ls h; exact False.elim h
  | succ n24 ih =>
    intro Ft At x2 H locs ls h hP hD hS hl
    rw [p_X6_comes_L24] at h
    refine lv_iload_n hx hb dX6_comes_24 rfl (lv_at hl 2 rfl) ?_
    refine lv_bipush (v := 60) hx hb dX6_comes_25 (by decide) ?_
    refine lv_icmp_gt (tgt := 56) hx hb dX6_comes_27 (by decide) (fun c27 => ?_) (fun c27 => ?_)
    · replace h := h.1 c27
      refine lv_bipush (v := -3) hx hb dX6_comes_56 (by decide) ?_
      exact ret _ (Ft, At) _ _ _ _ dX6_comes_58 h hP hD hS
    · replace h := h.2 c27
      refine lv_aload_n hx hb dX6_comes_30 rfl (lv_at hl 0 rfl) ?_
      refine va_get (C := RX6) (T := TX6) (N := 13) (own := RX6) (v := .ref (q 1)) hx hb ht inlX6 hown hK hP 0 rfl rfl 1 (Nat.le_of_ble_eq_true rfl) (ht _ mw_1_17) (fun _ h9 => h9) rfl dX6_comes_31 ?_
      refine va_get (C := RX2) (T := TX2) (N := 13) (own := RX6) (v := .int (Ft 9)) hx hb ht inlX2 hown hK hP 1 rfl rfl 9 (Nat.le_of_ble_eq_true rfl) (ht _ mw_23_9) (fun _ h9 => h9) rfl dX6_comes_34 ?_
      refine lv_iload_n hx hb dX6_comes_37 rfl (lv_at hl 1 rfl) ?_
      refine lv_icmp_ne (tgt := 43) hx hb dX6_comes_38 (by decide) (fun c38 => ?_) (fun c38 => ?_)
      · replace h := h.1 c38
        refine lv_aload_n hx hb dX6_comes_43 rfl (lv_at hl 0 rfl) ?_
        refine va_get (C := RX6) (T := TX6) (N := 13) (own := RX6) (v := .ref (q 1)) hx hb ht inlX6 hown hK hP 0 rfl rfl 1 (Nat.le_of_ble_eq_true rfl) (ht _ mw_1_17) (fun _ h9 => h9) rfl dX6_comes_44 ?_
        refine C_vv (wr := [0, 10, 11, 12, 13, 14, 15, 16, 17, 18].filterMap (fun i => (wX6 o q F ++ wX2 cI cZ (q 1) qt Ft At ++ wX2 cI cZ (q 0) qn Fn An : va_W)[i]?)) X hP hD hS [] [] (w_X2_passDay l D cI cZ cR adK adV _ (q 1) qt Ft At _ h) cal_X2_passDay mw_27_18 rfl [1, 2, 3, 4, 5, 6, 7, 8, 9] [0, 10, 11, 12, 13, 14, 15, 16, 17, 18] [0, 10, 11, 12, 13, 14, 15, 16, 17, 18, 1, 2, 3, 4, 5, 6, 7, 8, 9] (fun u => (wX6 o q F ++ wX2 cI cZ (q 1) qt u.1 u.2 ++ wX2 cI cZ (q 0) qn Fn An : va_W)) rfl rfl (fun _ => rfl) rfl 1 rfl rfl ⟨rfl, rfl⟩ ⟨Nat.le_of_ble_eq_true rfl, Nat.le_of_ble_eq_true rfl⟩ hl.1 rfl (Nat.le_of_ble_eq_true rfl) ⟨Nat.zero_le _, Nat.zero_le _⟩ dX6_comes_47 (fun u H locs h hP hD hS => ?_)
        obtain ⟨Ft_47, At_47⟩ := u
        try dsimp only at h
        have hP : va_P D vwCl (wX6 o q F ++ wX2 cI cZ (q 1) qt Ft_47 At_47 ++ wX2 cI cZ (q 0) qn Fn An : va_W) H := hP
        have hD : va_D A9 (wX6 o q F ++ wX2 cI cZ (q 1) qt Ft_47 At_47 ++ wX2 cI cZ (q 0) qn Fn An : va_W) := hD
        obtain ⟨y50, ey50⟩ : ∃ y : Int32, y = (x2 + (1 : Int32)) := ⟨_, rfl⟩
        replace h := h y50 ey50
        refine lv_iinc (v := y50) (lv' := [(2, .int y50), (0, .ref o), (1, .int x1)]) hx hb dX6_comes_50 hl (k := 2) rfl (by rw [ey50]; rfl) (by decide) rfl (fun ls hl => ?_)
        refine lv_goto (tgt := 24) hx hb dX6_comes_53 (by decide) ?_
        exact ih Ft_47 At_47 y50 _ _ _ h hP hD hS (lv_sub hl [1, 2, 0] rfl)
      · replace h := h.2 c38
        refine lv_iload_n hx hb dX6_comes_41 rfl (lv_at hl 2 rfl) ?_
        exact ret _ (Ft, At) _ _ _ _ dX6_comes_42 h hP hD hS
def p_X6_comes (F : tF) (Ft : tF) (At : tA) (Fn : tF) (An : tA) (x1 : Int32) (K : Int32 → tF → tA → Prop) : Prop := (p_X6_within x1 (6 : Int32) (fun r3 => ((¬ r3 = 0 → (p_X2_copyFrom Ft At Fn An (fun Ft_19 At_19 => (∃ n24, p_X6_comes_L24 F Fn An x1 K n24 Ft_19 At_19 (0 : Int32))))) ∧ (r3 = 0 → (K (-1 : Int32) Ft At)))))
set_option maxHeartbeats 4000000 in
set_option maxRecDepth 100000 in
theorem w_X6_comes (l : Launch) (D : va_G) (cI cZ cR : ClassId) (adK adV : Nat → Nat) (sz : Nat) (o : Nat) (q : Nat → Nat) (qt : Nat → Nat) (qn : Nat → Nat) (F : tF) (Ft : tF) (At : tA) (Fn : tF) (An : tA) (x1 : Int32) (K : Int32 → tF → tA → Prop) (h : p_X6_comes F Ft At Fn An x1 K) : MI l D cI cZ cR adK adV yX6_comes cX6_comes 3 (some .int) (rmN 5 193) [.ref o, .int x1] (wX6 o q F ++ wX2 cI cZ (q 1) qt Ft At ++ wX2 cI cZ (q 0) qn Fn An : va_W) sz (fun (r : Int32) (u : (tF × tA)) => K r u.1 u.2) (fun (u : (tF × tA)) => (wX6 o q F ++ wX2 cI cZ (q 1) qt u.1 u.2 ++ wX2 cI cZ (q 0) qn Fn An : va_W)) := by
  refine M_i (by decide +kernel) (Nat.le_of_ble_eq_true rfl) ?_
  intro p e s m args below meth c Q A9 ls X ret hP hD hS hl
  obtain ⟨hx, hb, hml, ht, hown, hK, hA, hE⟩ := id X
  have hl : lv_has ls 3 [(0, .ref o), (1, .int x1)] := hl
  unfold p_X6_comes at h
  refine lv_iload_n hx hb dX6_comes_0 rfl (lv_at hl 1 rfl) ?_
  refine lv_bipush (v := 6) hx hb dX6_comes_1 (by decide) ?_
  refine C_si (wr := [0, 1, 2, 3, 4, 5, 6, 7, 8, 9, 10, 11, 12, 13, 14, 15, 16, 17, 18].filterMap (fun i => (wX6 o q F ++ wX2 cI cZ (q 1) qt Ft At ++ wX2 cI cZ (q 0) qn Fn An : va_W)[i]?)) X hP hD hS [.int x1, .int (6 : Int32)] [] (w_X6_within l D cI cZ cR adK adV _ x1 (6 : Int32) _ h) cal_X6_within mw_15_9 rfl [] [0, 1, 2, 3, 4, 5, 6, 7, 8, 9, 10, 11, 12, 13, 14, 15, 16, 17, 18] [0, 1, 2, 3, 4, 5, 6, 7, 8, 9, 10, 11, 12, 13, 14, 15, 16, 17, 18] (fun u => (wX6 o q F ++ wX2 cI cZ (q 1) qt Ft At ++ wX2 cI cZ (q 0) qn Fn An : va_W)) rfl rfl (fun _ => rfl) rfl ⟨rfl, rfl⟩ ⟨Nat.le_of_ble_eq_true rfl, Nat.le_of_ble_eq_true rfl⟩ hl.1 rfl (Nat.le_of_ble_eq_true rfl) ⟨Nat.zero_le _, Nat.zero_le _⟩ dX6_comes_3 (fun r3 u H locs h hP hD hS => ?_)
  refine lv_if_ne (tgt := 11) hx hb dX6_comes_6 (by decide) (fun c6 => ?_) (fun c6 => ?_)
  · replace h := h.1 c6
    refine lv_aload_n hx hb dX6_comes_11 rfl (lv_at hl 0 rfl) ?_
    refine va_get (C := RX6) (T := TX6) (N := 13) (own := RX6) (v := .ref (q 1)) hx hb ht inlX6 hown hK hP 0 rfl rfl 1 (Nat.le_of_ble_eq_true rfl) (ht _ mw_1_17) (fun _ h9 => h9) rfl dX6_comes_12 ?_
    refine lv_aload_n hx hb dX6_comes_15 rfl (lv_at hl 0 rfl) ?_
    refine va_get (C := RX6) (T := TX6) (N := 13) (own := RX6) (v := .ref (q 0)) hx hb ht inlX6 hown hK hP 0 rfl rfl 0 (Nat.le_of_ble_eq_true rfl) (ht _ mw_1_16) (fun _ h9 => h9) rfl dX6_comes_16 ?_
    refine C_vv (wr := [0].filterMap (fun i => (wX6 o q F ++ wX2 cI cZ (q 1) qt Ft At ++ wX2 cI cZ (q 0) qn Fn An : va_W)[i]?)) X hP hD hS [.ref (q 0)] [] (w_X2_copyFrom l D cI cZ cR adK adV _ (q 1) qt (q 0) qn Ft At Fn An _ h) cal_X2_copyFrom mw_7_3 rfl [1, 2, 3, 4, 5, 6, 7, 8, 9, 10, 11, 12, 13, 14, 15, 16, 17, 18] [0] [0, 1, 2, 3, 4, 5, 6, 7, 8, 9, 10, 11, 12, 13, 14, 15, 16, 17, 18] (fun u => (wX6 o q F ++ wX2 cI cZ (q 1) qt u.1 u.2 ++ wX2 cI cZ (q 0) qn Fn An : va_W)) rfl rfl (fun _ => rfl) rfl 1 rfl rfl ⟨rfl, rfl⟩ ⟨Nat.le_of_ble_eq_true rfl, Nat.le_of_ble_eq_true rfl⟩ hl.1 rfl (Nat.le_of_ble_eq_true rfl) ⟨Nat.zero_le _, Nat.zero_le _⟩ dX6_comes_19 (fun u H locs h hP hD hS => ?_)
    obtain ⟨Ft_19, At_19⟩ := u
    try dsimp only at h
    have hP : va_P D vwCl (wX6 o q F ++ wX2 cI cZ (q 1) qt Ft_19 At_19 ++ wX2 cI cZ (q 0) qn Fn An : va_W) H := hP
    have hD : va_D A9 (wX6 o q F ++ wX2 cI cZ (q 1) qt Ft_19 At_19 ++ wX2 cI cZ (q 0) qn Fn An : va_W) := hD
    refine lv_iconst (v := 0) hx hb dX6_comes_22 (by decide) ?_
    refine lv_istore_n (lv' := [(2, .int (0 : Int32)), (0, .ref o), (1, .int x1)]) hx hb dX6_comes_23 rfl hl (by decide) rfl (fun ls hl => ?_)
    obtain ⟨n24, h⟩ := h
    exact b_X6_comes_L24 F Fn An x1 X ret  n24 Ft_19 At_19 (0 : Int32) _ _ _ h hP hD hS (lv_sub hl [1, 2, 0] rfl)
  · replace h := h.2 c6
    refine lv_iconst (v := -1) hx hb dX6_comes_9 (by decide) ?_
    exact ret _ (Ft, At) _ _ _ _ dX6_comes_10 h hP hD hS
theorem dX6_calm_0 : decode cX6_calm 0 = .ok (.aload_n 0, 1) := by decide +kernel
theorem dX6_calm_1 : decode cX6_calm 1 = .ok (.getfield 16, 3) := by decide +kernel
theorem dX6_calm_4 : decode cX6_calm 4 = .ok (.aload_n 0, 1) := by decide +kernel
theorem dX6_calm_5 : decode cX6_calm 5 = .ok (.getfield 10, 3) := by decide +kernel
theorem dX6_calm_8 : decode cX6_calm 8 = .ok (.invokevirtual 81, 3) := by decide +kernel
theorem dX6_calm_11 : decode cX6_calm 11 = .ok (.iconst 0, 1) := by decide +kernel
theorem dX6_calm_12 : decode cX6_calm 12 = .ok (.istore_n 1, 1) := by decide +kernel
theorem dX6_calm_13 : decode cX6_calm 13 = .ok (.iload_n 1, 1) := by decide +kernel
theorem dX6_calm_14 : decode cX6_calm 14 = .ok (.bipush 60, 2) := by decide +kernel
theorem dX6_calm_16 : decode cX6_calm 16 = .ok (.if_icmp .gt 38, 3) := by decide +kernel
theorem dX6_calm_19 : decode cX6_calm 19 = .ok (.aload_n 0, 1) := by decide +kernel
theorem dX6_calm_20 : decode cX6_calm 20 = .ok (.getfield 16, 3) := by decide +kernel
theorem dX6_calm_23 : decode cX6_calm 23 = .ok (.getfield 123, 3) := by decide +kernel
theorem dX6_calm_26 : decode cX6_calm 26 = .ok (.aload_n 0, 1) := by decide +kernel
theorem dX6_calm_27 : decode cX6_calm 27 = .ok (.getfield 16, 3) := by decide +kernel
theorem dX6_calm_30 : decode cX6_calm 30 = .ok (.getfield 92, 3) := by decide +kernel
theorem dX6_calm_33 : decode cX6_calm 33 = .ok (.invokestatic 186, 3) := by decide +kernel
theorem dX6_calm_36 : decode cX6_calm 36 = .ok (.ifCond .ne 5, 3) := by decide +kernel
theorem dX6_calm_39 : decode cX6_calm 39 = .ok (.iload_n 1, 1) := by decide +kernel
theorem dX6_calm_40 : decode cX6_calm 40 = .ok (.ireturn, 1) := by decide +kernel
theorem dX6_calm_41 : decode cX6_calm 41 = .ok (.aload_n 0, 1) := by decide +kernel
theorem dX6_calm_42 : decode cX6_calm 42 = .ok (.getfield 16, 3) := by decide +kernel
theorem dX6_calm_45 : decode cX6_calm 45 = .ok (.invokevirtual 177, 3) := by decide +kernel
theorem dX6_calm_48 : decode cX6_calm 48 = .ok (.iinc 1 1, 3) := by decide +kernel
theorem dX6_calm_51 : decode cX6_calm 51 = .ok (.goto (-38), 3) := by decide +kernel
theorem dX6_calm_54 : decode cX6_calm 54 = .ok (.bipush (-3), 2) := by decide +kernel
theorem dX6_calm_56 : decode cX6_calm 56 = .ok (.ireturn, 1) := by decide +kernel
def p_X6_calm_L13 (F : tF) (Fn : tF) (An : tA) (K : Int32 → tF → tA → Prop) : Nat → tF → tA → Int32 → Prop
  | 0, _, _, _ => False
  | n13 + 1, Ft, At, x1 => (((60 : Int32) < x1 → (K (-3 : Int32) Ft At)) ∧ (¬ (60 : Int32) < x1 → (p_X6_sumOf 8 (At 5) (Ft 8) (fun r33 => ((¬ r33 = 0 → (p_X2_passDay Ft At (fun Ft_45 At_45 => (∀ y48 : Int32, y48 = (x1 + (1 : Int32)) → ((p_X6_calm_L13 F Fn An K n13) Ft_45 At_45 y48))))) ∧ (r33 = 0 → (K x1 Ft At)))))))
set_option maxHeartbeats 4000000 in
set_option maxRecDepth 100000 in
theorem b_X6_calm_L13 {p : Program} {l : Launch} {e : Env} {s : State} {m : MethodId} {args : Array Value} {below : List Frame} {meth : Method} {c : Code} {Q : State → Prop} {D : va_G} {cI cZ cR : ClassId} {adK adV : Nat → Nat} {A9 : Nat → Prop} {o : Nat} {q : Nat → Nat} {qt : Nat → Nat} {qn : Nat → Nat} {K : Int32 → tF → tA → Prop}  (F : tF) (Fn : tF) (An : tA) (X : CX p s m args c yX6_calm.cls cX6_calm 2 D cI cZ cR adK adV A9) (ret : RTi p l e (rmN 5 193) s m args below meth c Q cX6_calm D A9 (fun (r : Int32) (u : (tF × tA)) => K r u.1 u.2) (fun (u : (tF × tA)) => (wX6 o q F ++ wX2 cI cZ (q 1) qt u.1 u.2 ++ wX2 cI cZ (q 0) qn Fn An : va_W)))   : ∀ (n : Nat) (Ft : tF) (At : tA) (x1 : Int32) (H : Heap) (locs : List Loc) (ls : Array Slot), p_X6_calm_L13 F Fn An K n Ft At x1 → va_P D vwCl (wX6 o q F ++ wX2 cI cZ (q 1) qt Ft At ++ wX2 cI cZ (q 0) qn Fn An : va_W) H → va_D A9 (wX6 o q F ++ wX2 cI cZ (q 1) qt Ft At ++ wX2 cI cZ (q 0) qn Fn An : va_W) → va_S A9 s.heap H locs → lv_has ls 2 [(0, .ref o), (1, .int x1)] → W p l e (rmN 5 193) s m args below meth c H locs 0 0 Q (F0 m 13 ls []) := by
  obtain ⟨hx, hb, hml, ht, hown, hK, hA, hE⟩ := id X
  intro n
  induction n with
  | zero => intro Ft At x1 H locs ls h; exact False.elim h
  | succ n13 ih =>
    intro Ft At x1 H locs ls h hP hD hS hl
    rw [p_X6_calm_L13] at h
    refine lv_iload_n hx hb dX6_calm_13 rfl (lv_at hl 1 rfl) ?_
    refine lv_bipush (v := 60) hx hb dX6_calm_14 (by decide) ?_
    refine lv_icmp_gt (tgt := 54) hx hb dX6_calm_16 (by decide) (fun c16 => ?_) (fun c16 => ?_)
    · replace h := h.1 c16
      refine lv_bipush (v := -3) hx hb dX6_calm_54 (by decide) ?_
      exact ret _ (Ft, At) _ _ _ _ dX6_calm_56 h hP hD hS
    · replace h := h.2 c16
      refine lv_aload_n hx hb dX6_calm_19 rfl (lv_at hl 0 rfl) ?_
      refine va_get (C := RX6) (T := TX6) (N := 13) (own := RX6) (v := .ref (q 1)) hx hb ht inlX6 hown hK hP 0 rfl rfl 1 (Nat.le_of_ble_eq_true rfl) (ht _ mw_1_17) (fun _ h9 => h9) rfl dX6_calm_20 ?_
      refine va_get (C := RX2) (T := TX2) (N := 13) (own := RX6) (v := .ref (qt 5)) hx hb ht inlX2 hown hK hP 1 rfl rfl 5 (Nat.le_of_ble_eq_true rfl) (ht _ mw_17_6) (fun _ h9 => h9) rfl dX6_calm_23 ?_
      refine lv_aload_n hx hb dX6_calm_26 rfl (lv_at hl 0 rfl) ?_
      refine va_get (C := RX6) (T := TX6) (N := 13) (own := RX6) (v := .ref (q 1)) hx hb ht inlX6 hown hK hP 0 rfl rfl 1 (Nat.le_of_ble_eq_true rfl) (ht _ mw_1_17) (fun _ h9 => h9) rfl dX6_calm_27 ?_
      refine va_get (C := RX2) (T := TX2) (N := 13) (own := RX6) (v := .int (Ft 8)) hx hb ht inlX2 hown hK hP 1 rfl rfl 8 (Nat.le_of_ble_eq_true rfl) (ht _ mw_7_2) (fun _ h9 => h9) rfl dX6_calm_30 ?_
      refine C_si (wr := [0, 1, 2, 3, 4, 5, 6, 8, 9, 10, 11, 12, 13, 14, 15, 16, 17, 18].filterMap (fun i => (wX6 o q F ++ wX2 cI cZ (q 1) qt Ft At ++ wX2 cI cZ (q 0) qn Fn An : va_W)[i]?)) X hP hD hS [.ref (qt 5), .int (Ft 8)] [] (w_X6_sumOf l D cI cZ cR adK adV _ (qt 5) 8 (At 5) (Ft 8) _ h) cal_X6_sumOf mw_28_10 rfl [7] [0, 1, 2, 3, 4, 5, 6, 8, 9, 10, 11, 12, 13, 14, 15, 16, 17, 18] [0, 1, 2, 3, 4, 5, 6, 18, 7, 8, 9, 10, 11, 12, 13, 14, 15, 16, 17] (fun u => (wX6 o q F ++ wX2 cI cZ (q 1) qt Ft At ++ wX2 cI cZ (q 0) qn Fn An : va_W)) rfl rfl (fun _ => rfl) rfl ⟨rfl, rfl⟩ ⟨Nat.le_of_ble_eq_true rfl, Nat.le_of_ble_eq_true rfl⟩ hl.1 rfl (Nat.le_of_ble_eq_true rfl) ⟨Nat.zero_le _, Nat.zero_le _⟩ dX6_calm_33 (fun r33 u H locs h hP hD hS => ?_)
      refine lv_if_ne (tgt := 41) hx hb dX6_calm_36 (by decide) (fun c36 => ?_) (fun c36 => ?_)
      · replace h := h.1 c36
        refine lv_aload_n hx hb dX6_calm_41 rfl (lv_at hl 0 rfl) ?_
        refine va_get (C := RX6) (T := TX6) (N := 13) (own := RX6) (v := .ref (q 1)) hx hb ht inlX6 hown hK hP 0 rfl rfl 1 (Nat.le_of_ble_eq_true rfl) (ht _ mw_1_17) (fun _ h9 => h9) rfl dX6_calm_42 ?_
        refine C_vv (wr := [0, 10, 11, 12, 13, 14, 15, 16, 17, 18].filterMap (fun i => (wX6 o q F ++ wX2 cI cZ (q 1) qt Ft At ++ wX2 cI cZ (q 0) qn Fn An : va_W)[i]?)) X hP hD hS [] [] (w_X2_passDay l D cI cZ cR adK adV _ (q 1) qt Ft At _ h) cal_X2_passDay mw_27_18 rfl [1, 2, 3, 4, 5, 6, 7, 8, 9] [0, 10, 11, 12, 13, 14, 15, 16, 17, 18] [0, 10, 11, 12, 13, 14, 15, 16, 17, 18, 1, 2, 3, 4, 5, 6, 7, 8, 9] (fun u => (wX6 o q F ++ wX2 cI cZ (q 1) qt u.1 u.2 ++ wX2 cI cZ (q 0) qn Fn An : va_W)) rfl rfl (fun _ => rfl) rfl 1 rfl rfl ⟨rfl, rfl⟩ ⟨Nat.le_of_ble_eq_true rfl, Nat.le_of_ble_eq_true rfl⟩ hl.1 rfl (Nat.le_of_ble_eq_true rfl) ⟨Nat.zero_le _, Nat.zero_le _⟩ dX6_calm_45 (fun u H locs h hP hD hS => ?_)
        obtain ⟨Ft_45, At_45⟩ := u
        try dsimp only at h
        have hP : va_P D vwCl (wX6 o q F ++ wX2 cI cZ (q 1) qt Ft_45 At_45 ++ wX2 cI cZ (q 0) qn Fn An : va_W) H := hP
        have hD : va_D A9 (wX6 o q F ++ wX2 cI cZ (q 1) qt Ft_45 At_45 ++ wX2 cI cZ (q 0) qn Fn An : va_W) := hD
        obtain ⟨y48, ey48⟩ : ∃ y : Int32, y = (x1 + (1 : Int32)) := ⟨_, rfl⟩
        replace h := h y48 ey48
        refine lv_iinc (v := y48) (lv' := [(1, .int y48), (0, .ref o)]) hx hb dX6_calm_48 hl (k := 1) rfl (by rw [ey48]; rfl) (by decide) rfl (fun ls hl => ?_)
        refine lv_goto (tgt := 13) hx hb dX6_calm_51 (by decide) ?_
        exact ih Ft_45 At_45 y48 _ _ _ h hP hD hS (lv_sub hl [1, 0] rfl)
      · replace h := h.2 c36
        refine lv_iload_n hx hb dX6_calm_39 rfl (lv_at hl 1 rfl) ?_
        exact ret _ (Ft, At) _ _ _ _ dX6_calm_40 h hP hD hS
def p_X6_calm (F : tF) (Ft : tF) (At : tA) (Fn : tF) (An : tA) (K : Int32 → tF → tA → Prop) : Prop := (p_X2_copyFrom Ft At Fn An (fun Ft_8 At_8 => (∃ n13, p_X6_calm_L13 F Fn An K n13 Ft_8 At_8 (0 : Int32))))
set_option maxHeartbeats 4000000 in
set_option maxRecDepth 100000 in
theorem w_X6_calm (l : Launch) (D : va_G) (cI cZ cR : ClassId) (adK adV : Nat → Nat) (sz : Nat) (o : Nat) (q : Nat → Nat) (qt : Nat → Nat) (qn : Nat → Nat) (F : tF) (Ft : tF) (At : tA) (Fn : tF) (An : tA) (K : Int32 → tF → tA → Prop) (h : p_X6_calm F Ft At Fn An K) : MI l D cI cZ cR adK adV yX6_calm cX6_calm 2 (some .int) (rmN 5 193) [.ref o] (wX6 o q F ++ wX2 cI cZ (q 1) qt Ft At ++ wX2 cI cZ (q 0) qn Fn An : va_W) sz (fun (r : Int32) (u : (tF × tA)) => K r u.1 u.2) (fun (u : (tF × tA)) => (wX6 o q F ++ wX2 cI cZ (q 1) qt u.1 u.2 ++ wX2 cI cZ (q 0) qn Fn An : va_W)) := by
  refine M_i (by decide +kernel) (Nat.le_of_ble_eq_true rfl) ?_
  intro p e s m args below meth c Q A9 ls X ret hP hD hS hl
  obtain ⟨hx, hb, hml, ht, hown, hK, hA, hE⟩ := id X
  have hl : lv_has ls 2 [(0, .ref o)] := hl
  unfold p_X6_calm at h
  refine lv_aload_n hx hb dX6_calm_0 rfl (lv_at hl 0 rfl) ?_
  refine va_get (C := RX6) (T := TX6) (N := 13) (own := RX6) (v := .ref (q 1)) hx hb ht inlX6 hown hK hP 0 rfl rfl 1 (Nat.le_of_ble_eq_true rfl) (ht _ mw_1_17) (fun _ h9 => h9) rfl dX6_calm_1 ?_
  refine lv_aload_n hx hb dX6_calm_4 rfl (lv_at hl 0 rfl) ?_
  refine va_get (C := RX6) (T := TX6) (N := 13) (own := RX6) (v := .ref (q 0)) hx hb ht inlX6 hown hK hP 0 rfl rfl 0 (Nat.le_of_ble_eq_true rfl) (ht _ mw_1_16) (fun _ h9 => h9) rfl dX6_calm_5 ?_
  refine C_vv (wr := [0].filterMap (fun i => (wX6 o q F ++ wX2 cI cZ (q 1) qt Ft At ++ wX2 cI cZ (q 0) qn Fn An : va_W)[i]?)) X hP hD hS [.ref (q 0)] [] (w_X2_copyFrom l D cI cZ cR adK adV _ (q 1) qt (q 0) qn Ft At Fn An _ h) cal_X2_copyFrom mw_7_3 rfl [1, 2, 3, 4, 5, 6, 7, 8, 9, 10, 11, 12, 13, 14, 15, 16, 17, 18] [0] [0, 1, 2, 3, 4, 5, 6, 7, 8, 9, 10, 11, 12, 13, 14, 15, 16, 17, 18] (fun u => (wX6 o q F ++ wX2 cI cZ (q 1) qt u.1 u.2 ++ wX2 cI cZ (q 0) qn Fn An : va_W)) rfl rfl (fun _ => rfl) rfl 1 rfl rfl ⟨rfl, rfl⟩ ⟨Nat.le_of_ble_eq_true rfl, Nat.le_of_ble_eq_true rfl⟩ hl.1 rfl (Nat.le_of_ble_eq_true rfl) ⟨Nat.zero_le _, Nat.zero_le _⟩ dX6_calm_8 (fun u H locs h hP hD hS => ?_)
  obtain ⟨Ft_8, At_8⟩ := u
  try dsimp only at h
  have hP : va_P D vwCl (wX6 o q F ++ wX2 cI cZ (q 1) qt Ft_8 At_8 ++ wX2 cI cZ (q 0) qn Fn An : va_W) H := hP
  have hD : va_D A9 (wX6 o q F ++ wX2 cI cZ (q 1) qt Ft_8 At_8 ++ wX2 cI cZ (q 0) qn Fn An : va_W) := hD
  refine lv_iconst (v := 0) hx hb dX6_calm_11 (by decide) ?_
  refine lv_istore_n (lv' := [(1, .int (0 : Int32)), (0, .ref o)]) hx hb dX6_calm_12 rfl hl (by decide) rfl (fun ls hl => ?_)
  obtain ⟨n13, h⟩ := h
  exact b_X6_calm_L13 F Fn An X ret  n13 Ft_8 At_8 (0 : Int32) _ _ _ h hP hD hS (lv_sub hl [1, 0] rfl)
theorem dX6_scared_0 : decode cX6_scared 0 = .ok (.aload_n 0, 1) := by decide +kernel
theorem dX6_scared_1 : decode cX6_scared 1 = .ok (.iload_n 1, 1) := by decide +kernel
theorem dX6_scared_2 : decode cX6_scared 2 = .ok (.invokevirtual 114, 3) := by decide +kernel
theorem dX6_scared_5 : decode cX6_scared 5 = .ok (.ifCond .ne 5, 3) := by decide +kernel
theorem dX6_scared_8 : decode cX6_scared 8 = .ok (.iconst (-1), 1) := by decide +kernel
theorem dX6_scared_9 : decode cX6_scared 9 = .ok (.ireturn, 1) := by decide +kernel
theorem dX6_scared_10 : decode cX6_scared 10 = .ok (.aload_n 0, 1) := by decide +kernel
theorem dX6_scared_11 : decode cX6_scared 11 = .ok (.getfield 16, 3) := by decide +kernel
theorem dX6_scared_14 : decode cX6_scared 14 = .ok (.aload_n 0, 1) := by decide +kernel
theorem dX6_scared_15 : decode cX6_scared 15 = .ok (.getfield 10, 3) := by decide +kernel
theorem dX6_scared_18 : decode cX6_scared 18 = .ok (.invokevirtual 81, 3) := by decide +kernel
theorem dX6_scared_21 : decode cX6_scared 21 = .ok (.iconst 0, 1) := by decide +kernel
theorem dX6_scared_22 : decode cX6_scared 22 = .ok (.istore_n 2, 1) := by decide +kernel
theorem dX6_scared_23 : decode cX6_scared 23 = .ok (.iload_n 2, 1) := by decide +kernel
theorem dX6_scared_24 : decode cX6_scared 24 = .ok (.bipush 60, 2) := by decide +kernel
theorem dX6_scared_26 : decode cX6_scared 26 = .ok (.if_icmp .gt 32, 3) := by decide +kernel
theorem dX6_scared_29 : decode cX6_scared 29 = .ok (.aload_n 0, 1) := by decide +kernel
theorem dX6_scared_30 : decode cX6_scared 30 = .ok (.getfield 16, 3) := by decide +kernel
theorem dX6_scared_33 : decode cX6_scared 33 = .ok (.getfield 123, 3) := by decide +kernel
theorem dX6_scared_36 : decode cX6_scared 36 = .ok (.iload_n 1, 1) := by decide +kernel
theorem dX6_scared_37 : decode cX6_scared 37 = .ok (.iaload, 1) := by decide +kernel
theorem dX6_scared_38 : decode cX6_scared 38 = .ok (.bipush 9, 2) := by decide +kernel
theorem dX6_scared_40 : decode cX6_scared 40 = .ok (.if_icmp .ne 5, 3) := by decide +kernel
theorem dX6_scared_43 : decode cX6_scared 43 = .ok (.iload_n 2, 1) := by decide +kernel
theorem dX6_scared_44 : decode cX6_scared 44 = .ok (.ireturn, 1) := by decide +kernel
theorem dX6_scared_45 : decode cX6_scared 45 = .ok (.aload_n 0, 1) := by decide +kernel
theorem dX6_scared_46 : decode cX6_scared 46 = .ok (.getfield 16, 3) := by decide +kernel
theorem dX6_scared_49 : decode cX6_scared 49 = .ok (.invokevirtual 177, 3) := by decide +kernel
theorem dX6_scared_52 : decode cX6_scared 52 = .ok (.iinc 2 1, 3) := by decide +kernel
theorem dX6_scared_55 : decode cX6_scared 55 = .ok (.goto (-32), 3) := by decide +kernel
theorem dX6_scared_58 : decode cX6_scared 58 = .ok (.bipush (-3), 2) := by decide +kernel
theorem dX6_scared_60 : decode cX6_scared 60 = .ok (.ireturn, 1) := by decide +kernel
def p_X6_scared_L23 (F : tF) (Fn : tF) (An : tA) (x1 : Int32) (K : Int32 → tF → tA → Prop) : Nat → tF → tA → Int32 → Prop
  | 0, _, _, _ => False
  | n23 + 1, Ft, At, x2 => (((60 : Int32) < x2 → (K (-3 : Int32) Ft At)) ∧ (¬ (60 : Int32) < x2 → (vp_in x1 8 ∧ ((¬ ((At 5) (x1).toNatClampNeg) = (9 : Int32) → (p_X2_passDay Ft At (fun Ft_49 At_49 => (∀ y52 : Int32, y52 = (x2 + (1 : Int32)) → ((p_X6_scared_L23 F Fn An x1 K n23) Ft_49 At_49 y52))))) ∧ (((At 5) (x1).toNatClampNeg) = (9 : Int32) → (K x2 Ft At))))))
set_option maxHeartbeats 4000000 in
set_option maxRecDepth 100000 in
theorem b_X6_scared_L23 {p : Program} {l : Launch} {e : Env} {s : State} {m : MethodId} {args : Array Value} {below : List Frame} {meth : Method} {c : Code} {Q : State → Prop} {D : va_G} {cI cZ cR : ClassId} {adK adV : Nat → Nat} {A9 : Nat → Prop} {o : Nat} {q : Nat → Nat} {qn : Nat → Nat} {qt : Nat → Nat} {K : Int32 → tF → tA → Prop}  (F : tF) (Fn : tF) (An : tA) (x1 : Int32) (X : CX p s m args c yX6_scared.cls cX6_scared 3 D cI cZ cR adK adV A9) (ret : RTi p l e (rmN 5 193) s m args below meth c Q cX6_scared D A9 (fun (r : Int32) (u : (tF × tA)) => K r u.1 u.2) (fun (u : (tF × tA)) => (wX6 o q F ++ wX2 cI cZ (q 0) qn Fn An ++ wX2 cI cZ (q 1) qt u.1 u.2 : va_W)))   : ∀ (n : Nat) (Ft : tF) (At : tA) (x2 : Int32) (H : Heap) (locs : List Loc) (ls : Array Slot), p_X6_scared_L23 F Fn An x1 K n Ft At x2 → va_P D vwCl (wX6 o q F ++ wX2 cI cZ (q 0) qn Fn An ++ wX2 cI cZ (q 1) qt Ft At : va_W) H → va_D A9 (wX6 o q F ++ wX2 cI cZ (q 0) qn Fn An ++ wX2 cI cZ (q 1) qt Ft At : va_W) → va_S A9 s.heap H locs → lv_has ls 3 [(0, .ref o), (1, .int x1), (2, .int x2)] → W p l e (rmN 5 193) s m args below meth c H locs 0 0 Q (F0 m 23 ls []) := by
  obtain ⟨hx, hb, hml, ht, hown, hK, hA, hE⟩ := id X
  intro n
  induction n with
  | zero => intro Ft At x2 H locs ls h; exact False.elim h
  | succ n23 ih =>
    intro Ft At x2 H locs ls h hP hD hS hl
    rw [p_X6_scared_L23] at h
    refine lv_iload_n hx hb dX6_scared_23 rfl (lv_at hl 2 rfl) ?_
    refine lv_bipush (v := 60) hx hb dX6_scared_24 (by decide) ?_
    refine lv_icmp_gt (tgt := 58) hx hb dX6_scared_26 (by decide) (fun c26 => ?_) (fun c26 => ?_)
    · replace h := h.1 c26
      refine lv_bipush (v := -3) hx hb dX6_scared_58 (by decide) ?_
      exact ret _ (Ft, At) _ _ _ _ dX6_scared_60 h hP hD hS
    · replace h := h.2 c26
      refine lv_aload_n hx hb dX6_scared_29 rfl (lv_at hl 0 rfl) ?_
      refine va_get (C := RX6) (T := TX6) (N := 13) (own := RX6) (v := .ref (q 1)) hx hb ht inlX6 hown hK hP 0 rfl rfl 1 (Nat.le_of_ble_eq_true rfl) (ht _ mw_1_17) (fun _ h9 => h9) rfl dX6_scared_30 ?_
      refine va_get (C := RX2) (T := TX2) (N := 13) (own := RX6) (v := .ref (qt 5)) hx hb ht inlX2 hown hK hP 10 rfl rfl 5 (Nat.le_of_ble_eq_true rfl) (ht _ mw_17_6) (fun _ h9 => h9) rfl dX6_scared_33 ?_
      refine lv_iload_n hx hb dX6_scared_36 rfl (lv_at hl 1 rfl) ?_
      obtain ⟨hi37, h⟩ := h
      refine g_iald (f := (At 5)) (k := (x1).toNatClampNeg) hx hb hK hP 16 0 rfl rfl hi37 rfl dX6_scared_37 ?_
      refine lv_bipush (v := 9) hx hb dX6_scared_38 (by decide) ?_
      refine lv_icmp_ne (tgt := 45) hx hb dX6_scared_40 (by decide) (fun c40 => ?_) (fun c40 => ?_)
      · replace h := h.1 c40
        refine lv_aload_n hx hb dX6_scared_45 rfl (lv_at hl 0 rfl) ?_
        refine va_get (C := RX6) (T := TX6) (N := 13) (own := RX6) (v := .ref (q 1)) hx hb ht inlX6 hown hK hP 0 rfl rfl 1 (Nat.le_of_ble_eq_true rfl) (ht _ mw_1_17) (fun _ h9 => h9) rfl dX6_scared_46 ?_
        refine C_vv (wr := [0, 1, 2, 3, 4, 5, 6, 7, 8, 9].filterMap (fun i => (wX6 o q F ++ wX2 cI cZ (q 0) qn Fn An ++ wX2 cI cZ (q 1) qt Ft At : va_W)[i]?)) X hP hD hS [] [] (w_X2_passDay l D cI cZ cR adK adV _ (q 1) qt Ft At _ h) cal_X2_passDay mw_27_18 rfl [10, 11, 12, 13, 14, 15, 16, 17, 18] [0, 1, 2, 3, 4, 5, 6, 7, 8, 9] [0, 1, 2, 3, 4, 5, 6, 7, 8, 9, 10, 11, 12, 13, 14, 15, 16, 17, 18] (fun u => (wX6 o q F ++ wX2 cI cZ (q 0) qn Fn An ++ wX2 cI cZ (q 1) qt u.1 u.2 : va_W)) rfl rfl (fun _ => rfl) rfl 10 rfl rfl ⟨rfl, rfl⟩ ⟨Nat.le_of_ble_eq_true rfl, Nat.le_of_ble_eq_true rfl⟩ hl.1 rfl (Nat.le_of_ble_eq_true rfl) ⟨Nat.zero_le _, Nat.zero_le _⟩ dX6_scared_49 (fun u H locs h hP hD hS => ?_)
        obtain ⟨Ft_49, At_49⟩ := u
        try dsimp only at h
        have hP : va_P D vwCl (wX6 o q F ++ wX2 cI cZ (q 0) qn Fn An ++ wX2 cI cZ (q 1) qt Ft_49 At_49 : va_W) H := hP
        have hD : va_D A9 (wX6 o q F ++ wX2 cI cZ (q 0) qn Fn An ++ wX2 cI cZ (q 1) qt Ft_49 At_49 : va_W) := hD
        obtain ⟨y52, ey52⟩ : ∃ y : Int32, y = (x2 + (1 : Int32)) := ⟨_, rfl⟩
        replace h := h y52 ey52
        refine lv_iinc (v := y52) (lv' := [(2, .int y52), (0, .ref o), (1, .int x1)]) hx hb dX6_scared_52 hl (k := 2) rfl (by rw [ey52]; rfl) (by decide) rfl (fun ls hl => ?_)
        refine lv_goto (tgt := 23) hx hb dX6_scared_55 (by decide) ?_
        exact ih Ft_49 At_49 y52 _ _ _ h hP hD hS (lv_sub hl [1, 2, 0] rfl)
      · replace h := h.2 c40
        refine lv_iload_n hx hb dX6_scared_43 rfl (lv_at hl 2 rfl) ?_
        exact ret _ (Ft, At) _ _ _ _ dX6_scared_44 h hP hD hS
def p_X6_scared (F : tF) (Fn : tF) (An : tA) (Ft : tF) (At : tA) (x1 : Int32) (K : Int32 → tF → tA → Prop) : Prop := (p_X6_isSheep F Fn An x1 (fun r2 => ((¬ r2 = 0 → (p_X2_copyFrom Ft At Fn An (fun Ft_18 At_18 => (∃ n23, p_X6_scared_L23 F Fn An x1 K n23 Ft_18 At_18 (0 : Int32))))) ∧ (r2 = 0 → (K (-1 : Int32) Ft At)))))
set_option maxHeartbeats 4000000 in
set_option maxRecDepth 100000 in
theorem w_X6_scared (l : Launch) (D : va_G) (cI cZ cR : ClassId) (adK adV : Nat → Nat) (sz : Nat) (o : Nat) (q : Nat → Nat) (qn : Nat → Nat) (qt : Nat → Nat) (F : tF) (Fn : tF) (An : tA) (Ft : tF) (At : tA) (x1 : Int32) (K : Int32 → tF → tA → Prop) (h : p_X6_scared F Fn An Ft At x1 K) : MI l D cI cZ cR adK adV yX6_scared cX6_scared 3 (some .int) (rmN 5 193) [.ref o, .int x1] (wX6 o q F ++ wX2 cI cZ (q 0) qn Fn An ++ wX2 cI cZ (q 1) qt Ft At : va_W) sz (fun (r : Int32) (u : (tF × tA)) => K r u.1 u.2) (fun (u : (tF × tA)) => (wX6 o q F ++ wX2 cI cZ (q 0) qn Fn An ++ wX2 cI cZ (q 1) qt u.1 u.2 : va_W)) := by
  refine M_i (by decide +kernel) (Nat.le_of_ble_eq_true rfl) ?_
  intro p e s m args below meth c Q A9 ls X ret hP hD hS hl
  obtain ⟨hx, hb, hml, ht, hown, hK, hA, hE⟩ := id X
  have hl : lv_has ls 3 [(0, .ref o), (1, .int x1)] := hl
  unfold p_X6_scared at h
  refine lv_aload_n hx hb dX6_scared_0 rfl (lv_at hl 0 rfl) ?_
  refine lv_iload_n hx hb dX6_scared_1 rfl (lv_at hl 1 rfl) ?_
  refine C_vi (wr := [10, 11, 12, 13, 14, 15, 16, 17, 18].filterMap (fun i => (wX6 o q F ++ wX2 cI cZ (q 0) qn Fn An ++ wX2 cI cZ (q 1) qt Ft At : va_W)[i]?)) X hP hD hS [.int x1] [] (w_X6_isSheep l D cI cZ cR adK adV _ o q qn F Fn An x1 _ h) cal_X6_isSheep mw_17_8 rfl [0, 1, 2, 3, 4, 5, 6, 7, 8, 9] [10, 11, 12, 13, 14, 15, 16, 17, 18] [9, 10, 11, 12, 13, 14, 15, 16, 17, 18, 0, 1, 2, 3, 4, 5, 6, 7, 8] (fun u => (wX6 o q F ++ wX2 cI cZ (q 0) qn Fn An ++ wX2 cI cZ (q 1) qt Ft At : va_W)) rfl rfl (fun _ => rfl) rfl 0 rfl rfl ⟨rfl, rfl⟩ ⟨Nat.le_of_ble_eq_true rfl, Nat.le_of_ble_eq_true rfl⟩ hl.1 rfl (Nat.le_of_ble_eq_true rfl) ⟨Nat.zero_le _, Nat.zero_le _⟩ dX6_scared_2 (fun r2 u H locs h hP hD hS => ?_)
  refine lv_if_ne (tgt := 10) hx hb dX6_scared_5 (by decide) (fun c5 => ?_) (fun c5 => ?_)
  · replace h := h.1 c5
    refine lv_aload_n hx hb dX6_scared_10 rfl (lv_at hl 0 rfl) ?_
    refine va_get (C := RX6) (T := TX6) (N := 13) (own := RX6) (v := .ref (q 1)) hx hb ht inlX6 hown hK hP 0 rfl rfl 1 (Nat.le_of_ble_eq_true rfl) (ht _ mw_1_17) (fun _ h9 => h9) rfl dX6_scared_11 ?_
    refine lv_aload_n hx hb dX6_scared_14 rfl (lv_at hl 0 rfl) ?_
    refine va_get (C := RX6) (T := TX6) (N := 13) (own := RX6) (v := .ref (q 0)) hx hb ht inlX6 hown hK hP 0 rfl rfl 0 (Nat.le_of_ble_eq_true rfl) (ht _ mw_1_16) (fun _ h9 => h9) rfl dX6_scared_15 ?_
    refine C_vv (wr := [0].filterMap (fun i => (wX6 o q F ++ wX2 cI cZ (q 0) qn Fn An ++ wX2 cI cZ (q 1) qt Ft At : va_W)[i]?)) X hP hD hS [.ref (q 0)] [] (w_X2_copyFrom l D cI cZ cR adK adV _ (q 1) qt (q 0) qn Ft At Fn An _ h) cal_X2_copyFrom mw_7_3 rfl [10, 11, 12, 13, 14, 15, 16, 17, 18, 1, 2, 3, 4, 5, 6, 7, 8, 9] [0] [0, 10, 11, 12, 13, 14, 15, 16, 17, 18, 1, 2, 3, 4, 5, 6, 7, 8, 9] (fun u => (wX6 o q F ++ wX2 cI cZ (q 0) qn Fn An ++ wX2 cI cZ (q 1) qt u.1 u.2 : va_W)) rfl rfl (fun _ => rfl) rfl 10 rfl rfl ⟨rfl, rfl⟩ ⟨Nat.le_of_ble_eq_true rfl, Nat.le_of_ble_eq_true rfl⟩ hl.1 rfl (Nat.le_of_ble_eq_true rfl) ⟨Nat.zero_le _, Nat.zero_le _⟩ dX6_scared_18 (fun u H locs h hP hD hS => ?_)
    obtain ⟨Ft_18, At_18⟩ := u
    try dsimp only at h
    have hP : va_P D vwCl (wX6 o q F ++ wX2 cI cZ (q 0) qn Fn An ++ wX2 cI cZ (q 1) qt Ft_18 At_18 : va_W) H := hP
    have hD : va_D A9 (wX6 o q F ++ wX2 cI cZ (q 0) qn Fn An ++ wX2 cI cZ (q 1) qt Ft_18 At_18 : va_W) := hD
    refine lv_iconst (v := 0) hx hb dX6_scared_21 (by decide) ?_
    refine lv_istore_n (lv' := [(2, .int (0 : Int32)), (0, .ref o), (1, .int x1)]) hx hb dX6_scared_22 rfl hl (by decide) rfl (fun ls hl => ?_)
    obtain ⟨n23, h⟩ := h
    exact b_X6_scared_L23 F Fn An x1 X ret  n23 Ft_18 At_18 (0 : Int32) _ _ _ h hP hD hS (lv_sub hl [1, 2, 0] rfl)
  · replace h := h.2 c5
    refine lv_iconst (v := -1) hx hb dX6_scared_8 (by decide) ?_
    exact ret _ (Ft, At) _ _ _ _ dX6_scared_9 h hP hD hS
