/-! 08.acts: what the bytecode of these methods asks, and the walks (written by wip/gen/mk.py) -/
theorem dX4_forget_0 : decode cX4_forget 0 = .ok (.aload_n 0, 1) := by decide +kernel
theorem dX4_forget_1 : decode cX4_forget 1 = .ok (.iconst 0, 1) := by decide +kernel
theorem dX4_forget_2 : decode cX4_forget 2 = .ok (.putfield 15, 3) := by decide +kernel
theorem dX4_forget_5 : decode cX4_forget 5 = .ok (.aload_n 0, 1) := by decide +kernel
theorem dX4_forget_6 : decode cX4_forget 6 = .ok (.iconst 0, 1) := by decide +kernel
theorem dX4_forget_7 : decode cX4_forget 7 = .ok (.putfield 19, 3) := by decide +kernel
theorem dX4_forget_10 : decode cX4_forget 10 = .ok (.return_, 1) := by decide +kernel
def p_X4_forget (F : tF) (A : tA) (K : tF → tA → Prop) : Prop := (K (upd (upd F 1 (0 : Int32)) 2 (0 : Int32)) A)
set_option maxHeartbeats 4000000 in
set_option maxRecDepth 100000 in
theorem w_X4_forget (l : Launch) (D : va_G) (cI cZ cR : ClassId) (adK adV : Nat → Nat) (sz : Nat) (o : Nat) (q : Nat → Nat) (F : tF) (A : tA) (K : tF → tA → Prop) (h : p_X4_forget F A K) : MV l D cI cZ cR adK adV yX4_forget cX4_forget 1 none (rmN 0 0) [.ref o] (wX4 cI cZ o q F A : va_W) sz (fun (u : (tF × tA)) => K u.1 u.2) (fun (u : (tF × tA)) => (wX4 cI cZ o q u.1 u.2 : va_W)) := by
  refine M_v (by decide +kernel) (Nat.le_of_ble_eq_true rfl) ?_
  intro p e s m args below meth c Q A9 ls X ret hP hD hS hl
  obtain ⟨hx, hb, hml, ht, hown, hK, hA, hE⟩ := id X
  have hl : lv_has ls 1 [(0, .ref o)] := hl
  unfold p_X4_forget at h
  refine lv_aload_n hx hb dX4_forget_0 rfl (lv_at hl 0 rfl) ?_
  refine lv_iconst (v := 0) hx hb dX4_forget_1 (by decide) ?_
  refine va_put (C := RX4) (T := TX4) (N := 6) (own := RX4) (v := .int (0 : Int32)) hx hb ht inlX4 tyX4 tyX4_ok nmX4 hown hK hP hD hS 0 rfl rfl 1 (Nat.le_of_ble_eq_true rfl) (ht _ mw_4_22) (fun _ h9 => h9) rfl (tyX4_ok 1 (Nat.le_of_ble_eq_true rfl)) rfl rfl (Nat.le_of_ble_eq_true rfl) dX4_forget_2 (fun H locs hP hD hS => ?_)
  have hP : va_P D vwCl (wX4 cI cZ o q (upd F 1 (0 : Int32)) A : va_W) H := hP
  have hD : va_D A9 (wX4 cI cZ o q (upd F 1 (0 : Int32)) A : va_W) := hD
  refine lv_aload_n hx hb dX4_forget_5 rfl (lv_at hl 0 rfl) ?_
  refine lv_iconst (v := 0) hx hb dX4_forget_6 (by decide) ?_
  refine va_put (C := RX4) (T := TX4) (N := 6) (own := RX4) (v := .int (0 : Int32)) hx hb ht inlX4 tyX4 tyX4_ok nmX4 hown hK hP hD hS 0 rfl rfl 2 (Nat.le_of_ble_eq_true rfl) (ht _ mw_4_23) (fun _ h9 => h9) rfl (tyX4_ok 2 (Nat.le_of_ble_eq_true rfl)) rfl rfl (Nat.le_of_ble_eq_true rfl) dX4_forget_7 (fun H locs hP hD hS => ?_)
  have hP : va_P D vwCl (wX4 cI cZ o q (upd (upd F 1 (0 : Int32)) 2 (0 : Int32)) A : va_W) H := hP
  have hD : va_D A9 (wX4 cI cZ o q (upd (upd F 1 (0 : Int32)) 2 (0 : Int32)) A : va_W) := hD
  exact ret ((upd (upd F 1 (0 : Int32)) 2 (0 : Int32)), A) _ _ _ _ dX4_forget_10 h hP hD hS
theorem dX4_bodyOfAsks_0 : decode cX4_bodyOfAsks 0 = .ok (.aload_n 0, 1) := by decide +kernel
theorem dX4_bodyOfAsks_1 : decode cX4_bodyOfAsks 1 = .ok (.getfield 23, 3) := by decide +kernel
theorem dX4_bodyOfAsks_4 : decode cX4_bodyOfAsks 4 = .ok (.tableswitch 37 2 4 #[28, 34, 31], 28) := by decide +kernel
theorem dX4_bodyOfAsks_32 : decode cX4_bodyOfAsks 32 = .ok (.bipush 30, 2) := by decide +kernel
theorem dX4_bodyOfAsks_34 : decode cX4_bodyOfAsks 34 = .ok (.ireturn, 1) := by decide +kernel
theorem dX4_bodyOfAsks_35 : decode cX4_bodyOfAsks 35 = .ok (.bipush 40, 2) := by decide +kernel
theorem dX4_bodyOfAsks_37 : decode cX4_bodyOfAsks 37 = .ok (.ireturn, 1) := by decide +kernel
theorem dX4_bodyOfAsks_38 : decode cX4_bodyOfAsks 38 = .ok (.bipush 51, 2) := by decide +kernel
theorem dX4_bodyOfAsks_40 : decode cX4_bodyOfAsks 40 = .ok (.ireturn, 1) := by decide +kernel
theorem dX4_bodyOfAsks_41 : decode cX4_bodyOfAsks 41 = .ok (.bipush 10, 2) := by decide +kernel
theorem dX4_bodyOfAsks_43 : decode cX4_bodyOfAsks 43 = .ok (.ireturn, 1) := by decide +kernel
def p_X4_bodyOfAsks (F : tF) (A : tA) (K : Int32 → Prop) : Prop := (((F 3) = (2 : Int32) → (K (30 : Int32))) ∧ ((F 3) = (3 : Int32) → (K (51 : Int32))) ∧ ((F 3) = (4 : Int32) → (K (40 : Int32))) ∧ (¬ (F 3) = (2 : Int32) → ¬ (F 3) = (3 : Int32) → ¬ (F 3) = (4 : Int32) → (K (10 : Int32))))
set_option maxHeartbeats 4000000 in
set_option maxRecDepth 100000 in
theorem w_X4_bodyOfAsks (l : Launch) (D : va_G) (cI cZ cR : ClassId) (adK adV : Nat → Nat) (sz : Nat) (o : Nat) (q : Nat → Nat) (F : tF) (A : tA) (K : Int32 → Prop) (h : p_X4_bodyOfAsks F A K) : MI l D cI cZ cR adK adV yX4_bodyOfAsks cX4_bodyOfAsks 1 (some .int) (rmN 0 0) [.ref o] (wX4 cI cZ o q F A : va_W) sz (fun (r : Int32) (u : Unit) => K r) (fun (u : Unit) => (wX4 cI cZ o q F A : va_W)) := by
  refine M_i (by decide +kernel) (Nat.le_of_ble_eq_true rfl) ?_
  intro p e s m args below meth c Q A9 ls X ret hP hD hS hl
  obtain ⟨hx, hb, hml, ht, hown, hK, hA, hE⟩ := id X
  have hl : lv_has ls 1 [(0, .ref o)] := hl
  unfold p_X4_bodyOfAsks at h
  refine lv_aload_n hx hb dX4_bodyOfAsks_0 rfl (lv_at hl 0 rfl) ?_
  refine va_get (C := RX4) (T := TX4) (N := 6) (own := RX4) (v := .int (F 3)) hx hb ht inlX4 hown hK hP 0 rfl rfl 3 (Nat.le_of_ble_eq_true rfl) (ht _ mw_5_0) (fun _ h9 => h9) rfl dX4_bodyOfAsks_1 ?_
  by_cases c4_2 : (F 3) = (2 : Int32)
  · replace h := h.1 c4_2
    refine lv_tableIn (tgt := 32) hx hb dX4_bodyOfAsks_4 (by rw [c4_2]; decide) (by rw [c4_2]; decide) (by rw [c4_2]; rfl) (by decide) ?_
    refine lv_bipush (v := 30) hx hb dX4_bodyOfAsks_32 (by decide) ?_
    exact ret _ () _ _ _ _ dX4_bodyOfAsks_34 h hP hD hS
  by_cases c4_3 : (F 3) = (3 : Int32)
  · replace h := h.2.1 c4_3
    refine lv_tableIn (tgt := 38) hx hb dX4_bodyOfAsks_4 (by rw [c4_3]; decide) (by rw [c4_3]; decide) (by rw [c4_3]; rfl) (by decide) ?_
    refine lv_bipush (v := 51) hx hb dX4_bodyOfAsks_38 (by decide) ?_
    exact ret _ () _ _ _ _ dX4_bodyOfAsks_40 h hP hD hS
  by_cases c4_4 : (F 3) = (4 : Int32)
  · replace h := h.2.2.1 c4_4
    refine lv_tableIn (tgt := 35) hx hb dX4_bodyOfAsks_4 (by rw [c4_4]; decide) (by rw [c4_4]; decide) (by rw [c4_4]; rfl) (by decide) ?_
    refine lv_bipush (v := 40) hx hb dX4_bodyOfAsks_35 (by decide) ?_
    exact ret _ () _ _ _ _ dX4_bodyOfAsks_37 h hP hD hS
  replace h := h.2.2.2 c4_2 c4_3 c4_4
  refine g_tdef (tgt := 41) hx hb dX4_bodyOfAsks_4 ?_ (by decide) ?_
  · exact Or.inl (sw2_4 c4_2 c4_3 c4_4)
  refine lv_bipush (v := 10) hx hb dX4_bodyOfAsks_41 (by decide) ?_
  exact ret _ () _ _ _ _ dX4_bodyOfAsks_43 h hP hD hS
theorem dX4_bodyOfBleats_0 : decode cX4_bodyOfBleats 0 = .ok (.aload_n 0, 1) := by decide +kernel
theorem dX4_bodyOfBleats_1 : decode cX4_bodyOfBleats 1 = .ok (.getfield 23, 3) := by decide +kernel
theorem dX4_bodyOfBleats_4 : decode cX4_bodyOfBleats 4 = .ok (.tableswitch 41 1 4 #[32, 41, 35, 38], 32) := by decide +kernel
theorem dX4_bodyOfBleats_36 : decode cX4_bodyOfBleats 36 = .ok (.bipush 20, 2) := by decide +kernel
theorem dX4_bodyOfBleats_38 : decode cX4_bodyOfBleats 38 = .ok (.ireturn, 1) := by decide +kernel
theorem dX4_bodyOfBleats_39 : decode cX4_bodyOfBleats 39 = .ok (.bipush 20, 2) := by decide +kernel
theorem dX4_bodyOfBleats_41 : decode cX4_bodyOfBleats 41 = .ok (.ireturn, 1) := by decide +kernel
theorem dX4_bodyOfBleats_42 : decode cX4_bodyOfBleats 42 = .ok (.bipush 41, 2) := by decide +kernel
theorem dX4_bodyOfBleats_44 : decode cX4_bodyOfBleats 44 = .ok (.ireturn, 1) := by decide +kernel
theorem dX4_bodyOfBleats_45 : decode cX4_bodyOfBleats 45 = .ok (.bipush 11, 2) := by decide +kernel
theorem dX4_bodyOfBleats_47 : decode cX4_bodyOfBleats 47 = .ok (.ireturn, 1) := by decide +kernel
def p_X4_bodyOfBleats (F : tF) (A : tA) (K : Int32 → Prop) : Prop := (((F 3) = (1 : Int32) → (K (20 : Int32))) ∧ ((F 3) = (3 : Int32) → (K (20 : Int32))) ∧ ((F 3) = (4 : Int32) → (K (41 : Int32))) ∧ (¬ (F 3) = (1 : Int32) → ¬ (F 3) = (3 : Int32) → ¬ (F 3) = (4 : Int32) → (K (11 : Int32))))
set_option maxHeartbeats 4000000 in
set_option maxRecDepth 100000 in
theorem w_X4_bodyOfBleats (l : Launch) (D : va_G) (cI cZ cR : ClassId) (adK adV : Nat → Nat) (sz : Nat) (o : Nat) (q : Nat → Nat) (F : tF) (A : tA) (K : Int32 → Prop) (h : p_X4_bodyOfBleats F A K) : MI l D cI cZ cR adK adV yX4_bodyOfBleats cX4_bodyOfBleats 1 (some .int) (rmN 0 0) [.ref o] (wX4 cI cZ o q F A : va_W) sz (fun (r : Int32) (u : Unit) => K r) (fun (u : Unit) => (wX4 cI cZ o q F A : va_W)) := by
  refine M_i (by decide +kernel) (Nat.le_of_ble_eq_true rfl) ?_
  intro p e s m args below meth c Q A9 ls X ret hP hD hS hl
  obtain ⟨hx, hb, hml, ht, hown, hK, hA, hE⟩ := id X
  have hl : lv_has ls 1 [(0, .ref o)] := hl
  unfold p_X4_bodyOfBleats at h
  refine lv_aload_n hx hb dX4_bodyOfBleats_0 rfl (lv_at hl 0 rfl) ?_
  refine va_get (C := RX4) (T := TX4) (N := 6) (own := RX4) (v := .int (F 3)) hx hb ht inlX4 hown hK hP 0 rfl rfl 3 (Nat.le_of_ble_eq_true rfl) (ht _ mw_5_0) (fun _ h9 => h9) rfl dX4_bodyOfBleats_1 ?_
  by_cases c4_1 : (F 3) = (1 : Int32)
  · replace h := h.1 c4_1
    refine lv_tableIn (tgt := 36) hx hb dX4_bodyOfBleats_4 (by rw [c4_1]; decide) (by rw [c4_1]; decide) (by rw [c4_1]; rfl) (by decide) ?_
    refine lv_bipush (v := 20) hx hb dX4_bodyOfBleats_36 (by decide) ?_
    exact ret _ () _ _ _ _ dX4_bodyOfBleats_38 h hP hD hS
  by_cases c4_3 : (F 3) = (3 : Int32)
  · replace h := h.2.1 c4_3
    refine lv_tableIn (tgt := 39) hx hb dX4_bodyOfBleats_4 (by rw [c4_3]; decide) (by rw [c4_3]; decide) (by rw [c4_3]; rfl) (by decide) ?_
    refine lv_bipush (v := 20) hx hb dX4_bodyOfBleats_39 (by decide) ?_
    exact ret _ () _ _ _ _ dX4_bodyOfBleats_41 h hP hD hS
  by_cases c4_4 : (F 3) = (4 : Int32)
  · replace h := h.2.2.1 c4_4
    refine lv_tableIn (tgt := 42) hx hb dX4_bodyOfBleats_4 (by rw [c4_4]; decide) (by rw [c4_4]; decide) (by rw [c4_4]; rfl) (by decide) ?_
    refine lv_bipush (v := 41) hx hb dX4_bodyOfBleats_42 (by decide) ?_
    exact ret _ () _ _ _ _ dX4_bodyOfBleats_44 h hP hD hS
  replace h := h.2.2.2 c4_1 c4_3 c4_4
  refine g_tdef (tgt := 45) hx hb dX4_bodyOfBleats_4 ?_ (by decide) ?_
  · by_cases g2 : (F 3) = (2 : Int32)
    · exact Or.inr (by rw [g2]; rfl)
    exact Or.inl (sw1_4 c4_1 g2 c4_3 c4_4)
  refine lv_bipush (v := 11) hx hb dX4_bodyOfBleats_45 (by decide) ?_
  exact ret _ () _ _ _ _ dX4_bodyOfBleats_47 h hP hD hS
theorem dX4_bodyOfLeads_0 : decode cX4_bodyOfLeads 0 = .ok (.aload_n 0, 1) := by decide +kernel
theorem dX4_bodyOfLeads_1 : decode cX4_bodyOfLeads 1 = .ok (.getfield 23, 3) := by decide +kernel
theorem dX4_bodyOfLeads_4 : decode cX4_bodyOfLeads 4 = .ok (.tableswitch 41 2 5 #[32, 41, 35, 38], 32) := by decide +kernel
theorem dX4_bodyOfLeads_36 : decode cX4_bodyOfLeads 36 = .ok (.bipush 31, 2) := by decide +kernel
theorem dX4_bodyOfLeads_38 : decode cX4_bodyOfLeads 38 = .ok (.ireturn, 1) := by decide +kernel
theorem dX4_bodyOfLeads_39 : decode cX4_bodyOfLeads 39 = .ok (.bipush 31, 2) := by decide +kernel
theorem dX4_bodyOfLeads_41 : decode cX4_bodyOfLeads 41 = .ok (.ireturn, 1) := by decide +kernel
theorem dX4_bodyOfLeads_42 : decode cX4_bodyOfLeads 42 = .ok (.bipush 60, 2) := by decide +kernel
theorem dX4_bodyOfLeads_44 : decode cX4_bodyOfLeads 44 = .ok (.ireturn, 1) := by decide +kernel
theorem dX4_bodyOfLeads_45 : decode cX4_bodyOfLeads 45 = .ok (.bipush 13, 2) := by decide +kernel
theorem dX4_bodyOfLeads_47 : decode cX4_bodyOfLeads 47 = .ok (.ireturn, 1) := by decide +kernel
def p_X4_bodyOfLeads (F : tF) (A : tA) (K : Int32 → Prop) : Prop := (((F 3) = (2 : Int32) → (K (31 : Int32))) ∧ ((F 3) = (4 : Int32) → (K (31 : Int32))) ∧ ((F 3) = (5 : Int32) → (K (60 : Int32))) ∧ (¬ (F 3) = (2 : Int32) → ¬ (F 3) = (4 : Int32) → ¬ (F 3) = (5 : Int32) → (K (13 : Int32))))
set_option maxHeartbeats 4000000 in
set_option maxRecDepth 100000 in
theorem w_X4_bodyOfLeads (l : Launch) (D : va_G) (cI cZ cR : ClassId) (adK adV : Nat → Nat) (sz : Nat) (o : Nat) (q : Nat → Nat) (F : tF) (A : tA) (K : Int32 → Prop) (h : p_X4_bodyOfLeads F A K) : MI l D cI cZ cR adK adV yX4_bodyOfLeads cX4_bodyOfLeads 1 (some .int) (rmN 0 0) [.ref o] (wX4 cI cZ o q F A : va_W) sz (fun (r : Int32) (u : Unit) => K r) (fun (u : Unit) => (wX4 cI cZ o q F A : va_W)) := by
  refine M_i (by decide +kernel) (Nat.le_of_ble_eq_true rfl) ?_
  intro p e s m args below meth c Q A9 ls X ret hP hD hS hl
  obtain ⟨hx, hb, hml, ht, hown, hK, hA, hE⟩ := id X
  have hl : lv_has ls 1 [(0, .ref o)] := hl
  unfold p_X4_bodyOfLeads at h
  refine lv_aload_n hx hb dX4_bodyOfLeads_0 rfl (lv_at hl 0 rfl) ?_
  refine va_get (C := RX4) (T := TX4) (N := 6) (own := RX4) (v := .int (F 3)) hx hb ht inlX4 hown hK hP 0 rfl rfl 3 (Nat.le_of_ble_eq_true rfl) (ht _ mw_5_0) (fun _ h9 => h9) rfl dX4_bodyOfLeads_1 ?_
  by_cases c4_2 : (F 3) = (2 : Int32)
  · replace h := h.1 c4_2
    refine lv_tableIn (tgt := 36) hx hb dX4_bodyOfLeads_4 (by rw [c4_2]; decide) (by rw [c4_2]; decide) (by rw [c4_2]; rfl) (by decide) ?_
    refine lv_bipush (v := 31) hx hb dX4_bodyOfLeads_36 (by decide) ?_
    exact ret _ () _ _ _ _ dX4_bodyOfLeads_38 h hP hD hS
  by_cases c4_4 : (F 3) = (4 : Int32)
  · replace h := h.2.1 c4_4
    refine lv_tableIn (tgt := 39) hx hb dX4_bodyOfLeads_4 (by rw [c4_4]; decide) (by rw [c4_4]; decide) (by rw [c4_4]; rfl) (by decide) ?_
    refine lv_bipush (v := 31) hx hb dX4_bodyOfLeads_39 (by decide) ?_
    exact ret _ () _ _ _ _ dX4_bodyOfLeads_41 h hP hD hS
  by_cases c4_5 : (F 3) = (5 : Int32)
  · replace h := h.2.2.1 c4_5
    refine lv_tableIn (tgt := 42) hx hb dX4_bodyOfLeads_4 (by rw [c4_5]; decide) (by rw [c4_5]; decide) (by rw [c4_5]; rfl) (by decide) ?_
    refine lv_bipush (v := 60) hx hb dX4_bodyOfLeads_42 (by decide) ?_
    exact ret _ () _ _ _ _ dX4_bodyOfLeads_44 h hP hD hS
  replace h := h.2.2.2 c4_2 c4_4 c4_5
  refine g_tdef (tgt := 45) hx hb dX4_bodyOfLeads_4 ?_ (by decide) ?_
  · by_cases g3 : (F 3) = (3 : Int32)
    · exact Or.inr (by rw [g3]; rfl)
    exact Or.inl (sw2_5 c4_2 g3 c4_4 c4_5)
  refine lv_bipush (v := 13) hx hb dX4_bodyOfLeads_45 (by decide) ?_
  exact ret _ () _ _ _ _ dX4_bodyOfLeads_47 h hP hD hS
theorem cal_X4_bodyOfAsks : CalV yX4_bodyOfAsks cX4_bodyOfAsks 1 (some .int) 0 := ⟨mw_47_9, mw_2_10, mw_47_7, mw_47_8, ⟨by decide +kernel, by decide +kernel, by decide +kernel⟩⟩
theorem cal_X4_bodyOfBleats : CalV yX4_bodyOfBleats cX4_bodyOfBleats 1 (some .int) 0 := ⟨mw_47_13, mw_2_10, mw_47_11, mw_47_12, ⟨by decide +kernel, by decide +kernel, by decide +kernel⟩⟩
theorem cal_X4_bodyOfLeads : CalV yX4_bodyOfLeads cX4_bodyOfLeads 1 (some .int) 0 := ⟨mw_47_17, mw_2_10, mw_47_15, mw_47_16, ⟨by decide +kernel, by decide +kernel, by decide +kernel⟩⟩
theorem dX4_bodyOf_0 : decode cX4_bodyOf 0 = .ok (.iload_n 1, 1) := by decide +kernel
theorem dX4_bodyOf_1 : decode cX4_bodyOf 1 = .ok (.tableswitch 66 0 2 #[27, 32, 37], 27) := by decide +kernel
theorem dX4_bodyOf_28 : decode cX4_bodyOf 28 = .ok (.aload_n 0, 1) := by decide +kernel
theorem dX4_bodyOf_29 : decode cX4_bodyOf 29 = .ok (.invokevirtual 43, 3) := by decide +kernel
theorem dX4_bodyOf_32 : decode cX4_bodyOf 32 = .ok (.ireturn, 1) := by decide +kernel
theorem dX4_bodyOf_33 : decode cX4_bodyOf 33 = .ok (.aload_n 0, 1) := by decide +kernel
theorem dX4_bodyOf_34 : decode cX4_bodyOf 34 = .ok (.invokevirtual 47, 3) := by decide +kernel
theorem dX4_bodyOf_37 : decode cX4_bodyOf 37 = .ok (.ireturn, 1) := by decide +kernel
theorem dX4_bodyOf_38 : decode cX4_bodyOf 38 = .ok (.aload_n 0, 1) := by decide +kernel
theorem dX4_bodyOf_39 : decode cX4_bodyOf 39 = .ok (.getfield 23, 3) := by decide +kernel
theorem dX4_bodyOf_42 : decode cX4_bodyOf 42 = .ok (.iconst 3, 1) := by decide +kernel
theorem dX4_bodyOf_43 : decode cX4_bodyOf 43 = .ok (.if_icmp .ne 8, 3) := by decide +kernel
theorem dX4_bodyOf_46 : decode cX4_bodyOf 46 = .ok (.bipush 50, 2) := by decide +kernel
theorem dX4_bodyOf_48 : decode cX4_bodyOf 48 = .ok (.goto 18, 3) := by decide +kernel
theorem dX4_bodyOf_51 : decode cX4_bodyOf 51 = .ok (.aload_n 0, 1) := by decide +kernel
theorem dX4_bodyOf_52 : decode cX4_bodyOf 52 = .ok (.getfield 23, 3) := by decide +kernel
theorem dX4_bodyOf_55 : decode cX4_bodyOf 55 = .ok (.iconst 5, 1) := by decide +kernel
theorem dX4_bodyOf_56 : decode cX4_bodyOf 56 = .ok (.if_icmp .ne 8, 3) := by decide +kernel
theorem dX4_bodyOf_59 : decode cX4_bodyOf 59 = .ok (.bipush 61, 2) := by decide +kernel
theorem dX4_bodyOf_61 : decode cX4_bodyOf 61 = .ok (.goto 5, 3) := by decide +kernel
theorem dX4_bodyOf_64 : decode cX4_bodyOf 64 = .ok (.bipush 12, 2) := by decide +kernel
theorem dX4_bodyOf_66 : decode cX4_bodyOf 66 = .ok (.ireturn, 1) := by decide +kernel
theorem dX4_bodyOf_67 : decode cX4_bodyOf 67 = .ok (.aload_n 0, 1) := by decide +kernel
theorem dX4_bodyOf_68 : decode cX4_bodyOf 68 = .ok (.invokevirtual 50, 3) := by decide +kernel
theorem dX4_bodyOf_71 : decode cX4_bodyOf 71 = .ok (.ireturn, 1) := by decide +kernel
def p_X4_bodyOf (F : tF) (A : tA) (x1 : Int32) (K : Int32 → Prop) : Prop := ((x1 = (0 : Int32) → (p_X4_bodyOfAsks F A (fun r29 => (K r29)))) ∧ (x1 = (1 : Int32) → (p_X4_bodyOfBleats F A (fun r34 => (K r34)))) ∧ (x1 = (2 : Int32) → ((¬ (F 3) = (3 : Int32) → ((¬ (F 3) = (5 : Int32) → (K (12 : Int32))) ∧ ((F 3) = (5 : Int32) → (K (61 : Int32))))) ∧ ((F 3) = (3 : Int32) → (K (50 : Int32))))) ∧ (¬ x1 = (0 : Int32) → ¬ x1 = (1 : Int32) → ¬ x1 = (2 : Int32) → (p_X4_bodyOfLeads F A (fun r68 => (K r68)))))
set_option maxHeartbeats 4000000 in
set_option maxRecDepth 100000 in
theorem w_X4_bodyOf (l : Launch) (D : va_G) (cI cZ cR : ClassId) (adK adV : Nat → Nat) (sz : Nat) (o : Nat) (q : Nat → Nat) (F : tF) (A : tA) (x1 : Int32) (K : Int32 → Prop) (h : p_X4_bodyOf F A x1 K) : MI l D cI cZ cR adK adV yX4_bodyOf cX4_bodyOf 2 (some .int) (rmN 1 20) [.ref o, .int x1] (wX4 cI cZ o q F A : va_W) sz (fun (r : Int32) (u : Unit) => K r) (fun (u : Unit) => (wX4 cI cZ o q F A : va_W)) := by
  refine M_i (by decide +kernel) (Nat.le_of_ble_eq_true rfl) ?_
  intro p e s m args below meth c Q A9 ls X ret hP hD hS hl
  obtain ⟨hx, hb, hml, ht, hown, hK, hA, hE⟩ := id X
  have hl : lv_has ls 2 [(0, .ref o), (1, .int x1)] := hl
  unfold p_X4_bodyOf at h
  refine lv_iload_n hx hb dX4_bodyOf_0 rfl (lv_at hl 1 rfl) ?_
  by_cases c1_0 : x1 = (0 : Int32)
  · replace h := h.1 c1_0
    refine lv_tableIn (tgt := 28) hx hb dX4_bodyOf_1 (by rw [c1_0]; decide) (by rw [c1_0]; decide) (by rw [c1_0]; rfl) (by decide) ?_
    refine lv_aload_n hx hb dX4_bodyOf_28 rfl (lv_at hl 0 rfl) ?_
    refine C_vi (wr := []) X hP hD hS [] [] (w_X4_bodyOfAsks l D cI cZ cR adK adV _ o q F A _ h) cal_X4_bodyOfAsks mw_47_6 rfl [0, 1] [] [0, 1] (fun u => (wX4 cI cZ o q F A : va_W)) rfl rfl (fun _ => rfl) rfl 0 rfl rfl ⟨rfl, rfl⟩ ⟨Nat.le_of_ble_eq_true rfl, Nat.le_of_ble_eq_true rfl⟩ hl.1 rfl (Nat.le_of_ble_eq_true rfl) ⟨Nat.zero_le _, Nat.zero_le _⟩ dX4_bodyOf_29 (fun r29 u H locs h hP hD hS => ?_)
    exact ret _ () _ _ _ _ dX4_bodyOf_32 h hP hD hS
  by_cases c1_1 : x1 = (1 : Int32)
  · replace h := h.2.1 c1_1
    refine lv_tableIn (tgt := 33) hx hb dX4_bodyOf_1 (by rw [c1_1]; decide) (by rw [c1_1]; decide) (by rw [c1_1]; rfl) (by decide) ?_
    refine lv_aload_n hx hb dX4_bodyOf_33 rfl (lv_at hl 0 rfl) ?_
    refine C_vi (wr := []) X hP hD hS [] [] (w_X4_bodyOfBleats l D cI cZ cR adK adV _ o q F A _ h) cal_X4_bodyOfBleats mw_47_10 rfl [0, 1] [] [0, 1] (fun u => (wX4 cI cZ o q F A : va_W)) rfl rfl (fun _ => rfl) rfl 0 rfl rfl ⟨rfl, rfl⟩ ⟨Nat.le_of_ble_eq_true rfl, Nat.le_of_ble_eq_true rfl⟩ hl.1 rfl (Nat.le_of_ble_eq_true rfl) ⟨Nat.zero_le _, Nat.zero_le _⟩ dX4_bodyOf_34 (fun r34 u H locs h hP hD hS => ?_)
    exact ret _ () _ _ _ _ dX4_bodyOf_37 h hP hD hS
  by_cases c1_2 : x1 = (2 : Int32)
  · replace h := h.2.2.1 c1_2
    refine lv_tableIn (tgt := 38) hx hb dX4_bodyOf_1 (by rw [c1_2]; decide) (by rw [c1_2]; decide) (by rw [c1_2]; rfl) (by decide) ?_
    refine lv_aload_n hx hb dX4_bodyOf_38 rfl (lv_at hl 0 rfl) ?_
    refine va_get (C := RX4) (T := TX4) (N := 6) (own := RX4) (v := .int (F 3)) hx hb ht inlX4 hown hK hP 0 rfl rfl 3 (Nat.le_of_ble_eq_true rfl) (ht _ mw_5_0) (fun _ h9 => h9) rfl dX4_bodyOf_39 ?_
    refine lv_iconst (v := 3) hx hb dX4_bodyOf_42 (by decide) ?_
    refine lv_icmp_ne (tgt := 51) hx hb dX4_bodyOf_43 (by decide) (fun c43 => ?_) (fun c43 => ?_)
    · replace h := h.1 c43
      refine lv_aload_n hx hb dX4_bodyOf_51 rfl (lv_at hl 0 rfl) ?_
      refine va_get (C := RX4) (T := TX4) (N := 6) (own := RX4) (v := .int (F 3)) hx hb ht inlX4 hown hK hP 0 rfl rfl 3 (Nat.le_of_ble_eq_true rfl) (ht _ mw_5_0) (fun _ h9 => h9) rfl dX4_bodyOf_52 ?_
      refine lv_iconst (v := 5) hx hb dX4_bodyOf_55 (by decide) ?_
      refine lv_icmp_ne (tgt := 64) hx hb dX4_bodyOf_56 (by decide) (fun c56 => ?_) (fun c56 => ?_)
      · replace h := h.1 c56
        refine lv_bipush (v := 12) hx hb dX4_bodyOf_64 (by decide) ?_
        exact ret _ () _ _ _ _ dX4_bodyOf_66 h hP hD hS
      · replace h := h.2 c56
        refine lv_bipush (v := 61) hx hb dX4_bodyOf_59 (by decide) ?_
        refine lv_goto (tgt := 66) hx hb dX4_bodyOf_61 (by decide) ?_
        exact ret _ () _ _ _ _ dX4_bodyOf_66 h hP hD hS
    · replace h := h.2 c43
      refine lv_bipush (v := 50) hx hb dX4_bodyOf_46 (by decide) ?_
      refine lv_goto (tgt := 66) hx hb dX4_bodyOf_48 (by decide) ?_
      exact ret _ () _ _ _ _ dX4_bodyOf_66 h hP hD hS
  replace h := h.2.2.2 c1_0 c1_1 c1_2
  refine g_tdef (tgt := 67) hx hb dX4_bodyOf_1 ?_ (by decide) ?_
  · exact Or.inl (sw0_2 c1_0 c1_1 c1_2)
  refine lv_aload_n hx hb dX4_bodyOf_67 rfl (lv_at hl 0 rfl) ?_
  refine C_vi (wr := []) X hP hD hS [] [] (w_X4_bodyOfLeads l D cI cZ cR adK adV _ o q F A _ h) cal_X4_bodyOfLeads mw_47_14 rfl [0, 1] [] [0, 1] (fun u => (wX4 cI cZ o q F A : va_W)) rfl rfl (fun _ => rfl) rfl 0 rfl rfl ⟨rfl, rfl⟩ ⟨Nat.le_of_ble_eq_true rfl, Nat.le_of_ble_eq_true rfl⟩ hl.1 rfl (Nat.le_of_ble_eq_true rfl) ⟨Nat.zero_le _, Nat.zero_le _⟩ dX4_bodyOf_68 (fun r68 u H locs h hP hD hS => ?_)
  exact ret _ () _ _ _ _ dX4_bodyOf_71 h hP hD hS
theorem dX4_quotient_0 : decode cX4_quotient 0 = .ok (.iload_n 2, 1) := by decide +kernel
theorem dX4_quotient_1 : decode cX4_quotient 1 = .ok (.ifCond .ne 10, 3) := by decide +kernel
theorem dX4_quotient_4 : decode cX4_quotient 4 = .ok (.aload_n 0, 1) := by decide +kernel
theorem dX4_quotient_5 : decode cX4_quotient 5 = .ok (.iconst 1, 1) := by decide +kernel
theorem dX4_quotient_6 : decode cX4_quotient 6 = .ok (.putfield 19, 3) := by decide +kernel
theorem dX4_quotient_9 : decode cX4_quotient 9 = .ok (.iconst 0, 1) := by decide +kernel
theorem dX4_quotient_10 : decode cX4_quotient 10 = .ok (.ireturn, 1) := by decide +kernel
theorem dX4_quotient_11 : decode cX4_quotient 11 = .ok (.iload_n 1, 1) := by decide +kernel
theorem dX4_quotient_12 : decode cX4_quotient 12 = .ok (.iload_n 2, 1) := by decide +kernel
theorem dX4_quotient_13 : decode cX4_quotient 13 = .ok (.idiv, 1) := by decide +kernel
theorem dX4_quotient_14 : decode cX4_quotient 14 = .ok (.ireturn, 1) := by decide +kernel
def p_X4_quotient (F : tF) (A : tA) (x1 : Int32) (x2 : Int32) (K : Int32 → tF → tA → Prop) : Prop := ((¬ x2 = 0 → (¬ x2 = 0 ∧ (K (x1 / x2) F A))) ∧ (x2 = 0 → (K (0 : Int32) (upd F 2 (1 : Int32)) A)))
set_option maxHeartbeats 4000000 in
set_option maxRecDepth 100000 in
theorem w_X4_quotient (l : Launch) (D : va_G) (cI cZ cR : ClassId) (adK adV : Nat → Nat) (sz : Nat) (o : Nat) (q : Nat → Nat) (F : tF) (A : tA) (x1 : Int32) (x2 : Int32) (K : Int32 → tF → tA → Prop) (h : p_X4_quotient F A x1 x2 K) : MI l D cI cZ cR adK adV yX4_quotient cX4_quotient 3 (some .int) (rmN 0 0) [.ref o, .int x1, .int x2] (wX4 cI cZ o q F A : va_W) sz (fun (r : Int32) (u : (tF × tA)) => K r u.1 u.2) (fun (u : (tF × tA)) => (wX4 cI cZ o q u.1 u.2 : va_W)) := by
  refine M_i (by decide +kernel) (Nat.le_of_ble_eq_true rfl) ?_
  intro p e s m args below meth c Q A9 ls X ret hP hD hS hl
  obtain ⟨hx, hb, hml, ht, hown, hK, hA, hE⟩ := id X
  have hl : lv_has ls 3 [(0, .ref o), (1, .int x1), (2, .int x2)] := hl
  unfold p_X4_quotient at h
  refine lv_iload_n hx hb dX4_quotient_0 rfl (lv_at hl 2 rfl) ?_
  refine lv_if_ne (tgt := 11) hx hb dX4_quotient_1 (by decide) (fun c1 => ?_) (fun c1 => ?_)
  · replace h := h.1 c1
    refine lv_iload_n hx hb dX4_quotient_11 rfl (lv_at hl 1 rfl) ?_
    refine lv_iload_n hx hb dX4_quotient_12 rfl (lv_at hl 2 rfl) ?_
    obtain ⟨hz13, h⟩ := h
    refine lv_idiv hx hb dX4_quotient_13 hz13 ?_
    exact ret _ (F, A) _ _ _ _ dX4_quotient_14 h hP hD hS
  · replace h := h.2 c1
    refine lv_aload_n hx hb dX4_quotient_4 rfl (lv_at hl 0 rfl) ?_
    refine lv_iconst (v := 1) hx hb dX4_quotient_5 (by decide) ?_
    refine va_put (C := RX4) (T := TX4) (N := 6) (own := RX4) (v := .int (1 : Int32)) hx hb ht inlX4 tyX4 tyX4_ok nmX4 hown hK hP hD hS 0 rfl rfl 2 (Nat.le_of_ble_eq_true rfl) (ht _ mw_4_23) (fun _ h9 => h9) rfl (tyX4_ok 2 (Nat.le_of_ble_eq_true rfl)) rfl rfl (Nat.le_of_ble_eq_true rfl) dX4_quotient_6 (fun H locs hP hD hS => ?_)
    have hP : va_P D vwCl (wX4 cI cZ o q (upd F 2 (1 : Int32)) A : va_W) H := hP
    have hD : va_D A9 (wX4 cI cZ o q (upd F 2 (1 : Int32)) A : va_W) := hD
    refine lv_iconst (v := 0) hx hb dX4_quotient_9 (by decide) ?_
    exact ret _ ((upd F 2 (1 : Int32)), A) _ _ _ _ dX4_quotient_10 h hP hD hS
theorem dX4_writeDown_0 : decode cX4_writeDown 0 = .ok (.aload_n 0, 1) := by decide +kernel
theorem dX4_writeDown_1 : decode cX4_writeDown 1 = .ok (.getfield 15, 3) := by decide +kernel
theorem dX4_writeDown_4 : decode cX4_writeDown 4 = .ok (.bipush 30, 2) := by decide +kernel
theorem dX4_writeDown_6 : decode cX4_writeDown 6 = .ok (.if_icmp .ge 23, 3) := by decide +kernel
theorem dX4_writeDown_9 : decode cX4_writeDown 9 = .ok (.aload_n 0, 1) := by decide +kernel
theorem dX4_writeDown_10 : decode cX4_writeDown 10 = .ok (.getfield 11, 3) := by decide +kernel
theorem dX4_writeDown_13 : decode cX4_writeDown 13 = .ok (.aload_n 0, 1) := by decide +kernel
theorem dX4_writeDown_14 : decode cX4_writeDown 14 = .ok (.getfield 15, 3) := by decide +kernel
theorem dX4_writeDown_17 : decode cX4_writeDown 17 = .ok (.iload_n 1, 1) := by decide +kernel
theorem dX4_writeDown_18 : decode cX4_writeDown 18 = .ok (.iastore, 1) := by decide +kernel
theorem dX4_writeDown_19 : decode cX4_writeDown 19 = .ok (.aload_n 0, 1) := by decide +kernel
theorem dX4_writeDown_20 : decode cX4_writeDown 20 = .ok (.dup, 1) := by decide +kernel
theorem dX4_writeDown_21 : decode cX4_writeDown 21 = .ok (.getfield 15, 3) := by decide +kernel
theorem dX4_writeDown_24 : decode cX4_writeDown 24 = .ok (.iconst 1, 1) := by decide +kernel
theorem dX4_writeDown_25 : decode cX4_writeDown 25 = .ok (.iadd, 1) := by decide +kernel
theorem dX4_writeDown_26 : decode cX4_writeDown 26 = .ok (.putfield 15, 3) := by decide +kernel
theorem dX4_writeDown_29 : decode cX4_writeDown 29 = .ok (.return_, 1) := by decide +kernel
def p_X4_writeDown (F : tF) (A : tA) (x1 : Int32) (K : tF → tA → Prop) : Prop := (((30 : Int32) ≤ (F 1) → (K F A)) ∧ (¬ (30 : Int32) ≤ (F 1) → (vp_in (F 1) 30 ∧ (∀ y26 : Int32, y26 = ((F 1) + (1 : Int32)) → (K (upd F 1 y26) (va_up A 0 (upd (A 0) ((F 1)).toNatClampNeg x1)))))))
set_option maxHeartbeats 4000000 in
set_option maxRecDepth 100000 in
theorem w_X4_writeDown (l : Launch) (D : va_G) (cI cZ cR : ClassId) (adK adV : Nat → Nat) (sz : Nat) (o : Nat) (q : Nat → Nat) (F : tF) (A : tA) (x1 : Int32) (K : tF → tA → Prop) (h : p_X4_writeDown F A x1 K) : MV l D cI cZ cR adK adV yX4_writeDown cX4_writeDown 2 none (rmN 0 0) [.ref o, .int x1] (wX4 cI cZ o q F A : va_W) sz (fun (u : (tF × tA)) => K u.1 u.2) (fun (u : (tF × tA)) => (wX4 cI cZ o q u.1 u.2 : va_W)) := by
  refine M_v (by decide +kernel) (Nat.le_of_ble_eq_true rfl) ?_
  intro p e s m args below meth c Q A9 ls X ret hP hD hS hl
  obtain ⟨hx, hb, hml, ht, hown, hK, hA, hE⟩ := id X
  have hl : lv_has ls 2 [(0, .ref o), (1, .int x1)] := hl
  unfold p_X4_writeDown at h
  refine lv_aload_n hx hb dX4_writeDown_0 rfl (lv_at hl 0 rfl) ?_
  refine va_get (C := RX4) (T := TX4) (N := 6) (own := RX4) (v := .int (F 1)) hx hb ht inlX4 hown hK hP 0 rfl rfl 1 (Nat.le_of_ble_eq_true rfl) (ht _ mw_4_22) (fun _ h9 => h9) rfl dX4_writeDown_1 ?_
  refine lv_bipush (v := 30) hx hb dX4_writeDown_4 (by decide) ?_
  refine lv_icmp_ge (tgt := 29) hx hb dX4_writeDown_6 (by decide) (fun c6 => ?_) (fun c6 => ?_)
  · replace h := h.1 c6
    exact ret (F, A) _ _ _ _ dX4_writeDown_29 h hP hD hS
  · replace h := h.2 c6
    refine lv_aload_n hx hb dX4_writeDown_9 rfl (lv_at hl 0 rfl) ?_
    refine va_get (C := RX4) (T := TX4) (N := 6) (own := RX4) (v := .ref (q 0)) hx hb ht inlX4 hown hK hP 0 rfl rfl 0 (Nat.le_of_ble_eq_true rfl) (ht _ mw_4_21) (fun _ h9 => h9) rfl dX4_writeDown_10 ?_
    refine lv_aload_n hx hb dX4_writeDown_13 rfl (lv_at hl 0 rfl) ?_
    refine va_get (C := RX4) (T := TX4) (N := 6) (own := RX4) (v := .int (F 1)) hx hb ht inlX4 hown hK hP 0 rfl rfl 1 (Nat.le_of_ble_eq_true rfl) (ht _ mw_4_22) (fun _ h9 => h9) rfl dX4_writeDown_14 ?_
    refine lv_iload_n hx hb dX4_writeDown_17 rfl (lv_at hl 1 rfl) ?_
    obtain ⟨hi18, h⟩ := h
    refine g_iast (f := (A 0)) (k := ((F 1)).toNatClampNeg) hx hb hK hP hD hS 1 0 rfl rfl hi18 rfl dX4_writeDown_18 (fun H locs hP hD hS => ?_)
    have hP : va_P D vwCl (wX4 cI cZ o q F (va_up A 0 (upd (A 0) ((F 1)).toNatClampNeg x1)) : va_W) H := hP
    have hD : va_D A9 (wX4 cI cZ o q F (va_up A 0 (upd (A 0) ((F 1)).toNatClampNeg x1)) : va_W) := hD
    refine lv_aload_n hx hb dX4_writeDown_19 rfl (lv_at hl 0 rfl) ?_
    refine lv_dup hx hb dX4_writeDown_20 rfl ?_
    refine va_get (C := RX4) (T := TX4) (N := 6) (own := RX4) (v := .int (F 1)) hx hb ht inlX4 hown hK hP 0 rfl rfl 1 (Nat.le_of_ble_eq_true rfl) (ht _ mw_4_22) (fun _ h9 => h9) rfl dX4_writeDown_21 ?_
    refine lv_iconst (v := 1) hx hb dX4_writeDown_24 (by decide) ?_
    refine lv_iadd hx hb dX4_writeDown_25 ?_
    refine lv_topi (fun y26 ey26 => ?_)
    replace h := h y26 ey26
    refine va_put (C := RX4) (T := TX4) (N := 6) (own := RX4) (v := .int y26) hx hb ht inlX4 tyX4 tyX4_ok nmX4 hown hK hP hD hS 0 rfl rfl 1 (Nat.le_of_ble_eq_true rfl) (ht _ mw_4_22) (fun _ h9 => h9) rfl (tyX4_ok 1 (Nat.le_of_ble_eq_true rfl)) rfl rfl (Nat.le_of_ble_eq_true rfl) dX4_writeDown_26 (fun H locs hP hD hS => ?_)
    have hP : va_P D vwCl (wX4 cI cZ o q (upd F 1 y26) (va_up A 0 (upd (A 0) ((F 1)).toNatClampNeg x1)) : va_W) H := hP
    have hD : va_D A9 (wX4 cI cZ o q (upd F 1 y26) (va_up A 0 (upd (A 0) ((F 1)).toNatClampNeg x1)) : va_W) := hD
    exact ret ((upd F 1 y26), (va_up A 0 (upd (A 0) ((F 1)).toNatClampNeg x1))) _ _ _ _ dX4_writeDown_29 h hP hD hS
