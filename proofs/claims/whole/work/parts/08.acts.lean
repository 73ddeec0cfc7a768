/-! 08.acts: what the bytecode of these methods asks, and the walks (written by wip/gen/mk.py) -/
theorem dX4_forget_0 : decode cX4_forget 0 = .ok (.aload_n 0, 1) := by decide +kernel
theorem dX4_forget_1 : decode cX4_forget 1 = .ok (.iconst 0, 1) := by decide +kernel
theorem dX4_forget_2 : decode cX4_forget 2 = .ok (.putfield 15, 3) := by decide +kernel
theorem dX4_forget_5 : decode cX4_forget 5 = .ok (.aload_n 0, 1) := by decide +kernel
theorem dX4_forget_6 : decode cX4_forget 6 = .ok (.iconst 0, 1) := by decide +kernel
theorem dX4_forget_7 : decode cX4_forget 7 = .ok (.putfield 19, 3) := by decide +kernel
theorem dX4_forget_10 : decode cX4_forget 10 = .ok (.return_, 1) := by decide +kernel
def p_X4_forget (F : tF) (A : tA) (K : tF → tA → Prop) : Prop := (K (upd (upd F 1 (0 : Int32)) 2 (0 : Int32)) A)
set_option maxHeartbeats 4000000 in
set_option maxRecDepth 100000 in
theorem w_X4_forget (l : Launch) (D : va_G) (cI cZ cR : ClassId) (adK adV : Nat → Nat) (sz : Nat) (o : Nat) (q : Nat → Nat) (F : tF) (A : tA) (K : tF → tA → Prop) (h : p_X4_forget F A K) : MV l D cI cZ cR adK adV yX4_forget cX4_forget 1 none (rmN 0 0) [.ref o] (wX4 cI cZ o q F A : va_W) sz (fun (u : (tF × tA)) => K u.1 u.2) (fun (u : (tF × tA)) => (wX4 cI cZ o q u.1 u.2 : va_W)) := by
  refine M_v (by decide +kernel) (Nat.le_of_ble_eq_true rfl) ?_
  intro p e s m args below meth c Q A9 ls X ret hP hD hS hl
  obtain ⟨hx, hb, hml, ht, hown, hK, hA, hE⟩ := id X
  have hl : lv_has ls 1 [(0, .ref o)] := hl
  unfold p_X4_forget at h
  refine lv_aload_n hx hb dX4_forget_0 rfl (lv_at hl 0 rfl) ?_
  refine lv_iconst (v := 0) hx hb dX4_forget_1 (by decide) ?_
  refine va_put (C := RX4) (T := TX4) (N := 6) (own := RX4) (v := .int (0 : Int32)) hx hb ht inlX4 tyX4 tyX4_ok nmX4 hown hK hP hD hS 0 rfl rfl 1 (Nat.le_of_ble_eq_true rfl) (ht _ mw_4_22) (fun _ h9 => h9) rfl (tyX4_ok 1 (Nat.le_of_ble_eq_true rfl)) rfl rfl (Nat.le_of_ble_eq_true rfl) dX4_forget_2 (fun H locs hP hD hS => ?_)
  have hP : va_P D vwCl (wX4 cI cZ o q (upd F 1 (0 : Int32)) A : va_W) H := hP
  have hD : va_D A9 (wX4 cI cZ o q (upd F 1 (0 : Int32)) A : va_W) := hD
  refine lv_aload_n hx hb dX4_forget_5 rfl (lv_at hl 0 rfl) ?_
  refine lv_iconst (v := 0) hx hb dX4_forget_6 (by decide) ?_
  refine va_put (C := RX4) (T := TX4) (N := 6) (own := RX4) (v := .int (0 : Int32)) hx hb ht inlX4 tyX4 tyX4_ok nmX4 hown hK hP hD hS 0 rfl rfl 2 (Nat.le_of_ble_eq_true rfl) (ht _ mw_4_23) (fun _ h9 => h9) rfl (tyX4_ok 2 (Nat.le_of_ble_eq_true rfl)) rfl rfl (Nat.le_of_ble_eq_true rfl) dX4_forget_7 (fun H locs hP hD hS => ?_)
  have hP : va_P D vwCl (wX4 cI cZ o q (upd (upd F 1 (0 : Int32)) 2 (0 : Int32)) A : va_W) H := hP
  have hD : va_D A9 (wX4 cI cZ o q (upd (upd F 1 (0 : Int32)) 2 (0 : Int32)) A : va_W) := hD
  exact ret ((upd (upd F 1 (0 : Int32)) 2 (0 : Int32)), A) _ _ _ _ dX4_forget_10 h hP hD hS
theorem dX4_bodyOfAsks_0 : decode cX4_bodyOfAsks 0 = .ok (.aload_n 0, 1) := by decide +kernel
theorem dX4_bodyOfAsks_1 : decode cX4_bodyOfAsks 1 = .ok (.getfield 23, 3) := by decide +kernel
theorem dX4_bodyOfAsks_4 : decode cX4_bodyOfAsks 4 = .ok (.tableswitch 37 2 4 #[28, 34, 31], 28) := by decide +kernel
theorem dX4_bodyOfAsks_32 : decode cX4_bodyOfAsks 32 = .ok (.bipush 30, 2) := by decide +kernel
theorem dX4_bodyOfAsks_34 : decode cX4_bodyOfAsks 34 = .ok (.ireturn, 1) := by decide +kernel
theorem dX4_bodyOfAsks_35 : decode cX4_bodyOfAsks 35 = .ok (.bipush 40, 2) := by decide +kernel
theorem dX4_bodyOfAsks_37 : decode cX4_bodyOfAsks 37 = .ok (.ireturn, 1) := by decide +kernel
theorem dX4_bodyOfAsks_38 : decode cX4_bodyOfAsks 38 = .ok (.bipush 51, 2) := by decide +kernel
theorem dX4_bodyOfAsks_40 : decode cX4_bodyOfAsks 40 = .ok (.ireturn, 1) := by decide +kernel
theorem dX4_bodyOfAsks_41 : decode cX4_bodyOfAsks 41 = .ok (.bipush 10, 2) := by decide +kernel
theorem dX4_bodyOfAsks_43 : decode cX4_bodyOfAsks 43 = .ok (.ireturn, 1) := by decide +kernel
def p_X4_bodyOfAsks (F : tF) (A : tA) (K : Int32 → Prop) : Prop := (((F 3) = (2 : Int32) → (K (30 : Int32))) ∧ ((F 3) = (3 : Int32) → (K (51 : Int32))) ∧ ((F 3) = (4 : Int32) → (K (40 : Int32))) ∧ (¬ (F 3) = (2 : Int32) → ¬ (F 3) = (3 : Int32) → ¬ (F 3) = (4 : Int32) → (K (10 : Int32))))
set_option maxHeartbeats 4000000 in
set_option maxRecDepth 100000 in
theorem w_X4_bodyOfAsks (l : Launch) (D : va_G) (cI cZ cR : ClassId) (adK adV : Nat → Nat) (sz : Nat) (o : Nat) (q : Nat → Nat) (F : tF) (A : tA) (K : Int32 → Prop) (h : p_X4_bodyOfAsks F A K) : MI l D cI cZ cR adK adV yX4_bodyOfAsks cX4_bodyOfAsks 1 (some .int) (rmN 0 0) [.ref o] (wX4 cI cZ o q F A : va_W) sz (fun (r : Int32) (u : Unit) => K r) (fun (u : Unit) => (wX4 cI cZ o q F A : va_W)) := by
  refine M_i (by decide +kernel) (Nat.le_of_ble_eq_true rfl) ?_
  intro p e s m args below meth c Q A9 ls X ret hP hD hS hl
  obtain ⟨hx, hb, hml, ht, hown, hK, hA, hE⟩ := id X
  have hl : lv_has ls 1 [(0, .ref o)] := hl
  unfold p_X4_bodyOfAsks at h
  refine lv_aload_n hx hb dX4_bodyOfAsks_0 rfl (lv_at hl 0 rfl) ?_
  refine va_get (C := RX4) (T := TX4) (N := 6) (own := RX4) (v := .int (F 3)) hx hb ht inlX4 hown hK hP 0 rfl rfl 3 (Nat.le_of_ble_eq_true rfl) (ht _ mw_5_0) (fun _ h9 => h9) rfl dX4_bodyOfAsks_1 ?_
  by_cases c4_2 : (F 3) = (2 : Int32)
  · replace h := h.1 c4_2
    refine lv_tableIn (tgt := 32) hx hb dX4_bodyOfAsks_4 (by rw [c4_2]; decide) (by rw [c4_2]; decide) (by rw [c4_2]; rfl) (by decide) ?_
    refine lv_bipush (v := 30) hx hb dX4_bodyOfAsks_32 (by decide) ?_
    exact ret _ () _ _ _ _ dX4_bodyOfAsks_34 h hP hD hS
  by_cases c4_3 : (F 3) = (3 : Int32)
  · replace h := h.2.1 c4_3
    refine lv_tableIn (tgt := 38) hx hb dX4_bodyOfAsks_4 (by rw [c4_3]; decide) (by rw [c4_3]; decide) (by rw [c4_3]; rfl) (by decide) ?_
    refine lv_bipush (v := 51) hx hb dX4_bodyOfAsks_38 (by decide) ?_
    exact ret _ () _ _ _ _ dX4_bodyOfAsks_40 h hP hD hS
  by_cases c4_4 : (F 3) = (4 : Int32)
  · replace h := h.2.2.1 c4_4
    refine lv_tableIn (tgt := 35) hx hb dX4_bodyOfAsks_4 (by rw [c4_4]; decide) (by rw [c4_4]; decide) (by rw [c4_4]; rfl) (by decide) ?_
    refine lv_bipush (v := 40) hx hb dX4_bodyOfAsks_35 (by decide) ?_
    exact ret _ () _ _ _ _ dX4_bodyOfAsks_37 h hP hD hS
  replace h := h.2.2.2 c4_2 c4_3 c4_4
  refine g_tdef (tgt := 41) hx hb dX4_bodyOfAsks_4 ?_ (by decide) ?_
  · exact Or.inl (sw2_4 c4_2 c4_3 c4_4)
  refine lv_bipush (v := 10) hx hb dX4_bodyOfAsks_41 (by decide) ?_
  exact ret _ () _ _ _ _ dX4_bodyOfAsks_43 h hP hD hS
theorem dX4_bodyOfBleats_0 : decode cX4_bodyOfBleats 0 = .ok (.aload_n 0, 1) := by decide +kernel
theorem dX4_bodyOfBleats_1 : decode cX4_bodyOfBleats 1 = .ok (.getfield 23, 3) := by decide +kernel
theorem dX4_bodyOfBleats_4 : decode cX4_bodyOfBleats 4 = .ok (.tableswitch 41 1 4 #[32, 41, 35, 38], 32) := by decide +kernel
theorem dX4_bodyOfBleats_36 : decode cX4_bodyOfBleats 36 = .ok (.bipush 20, 2) := by decide +kernel
theorem dX4_bodyOfBleats_38 : decode cX4_bodyOfBleats 38 = .ok (.ireturn, 1) := by decide +kernel
theorem dX4_bodyOfBleats_39 : decode cX4_bodyOfBleats 39 = .ok (.bipush 20, 2) := by decide +kernel
theorem dX4_bodyOfBleats_41 : decode cX4_bodyOfBleats 41 = .ok (.ireturn, 1) := by decide +kernel
theorem dX4_bodyOfBleats_42 : decode cX4_bodyOfBleats 42 = .ok (.bipush 41, 2) := by decide +kernel
theorem dX4_bodyOfBleats_44 : decode cX4_bodyOfBleats 44 = .ok (.ireturn, 1) := by decide +kernel
theorem dX4_bodyOfBleats_45 : decode cX4_bodyOfBleats 45 = .ok (.bipush 11, 2) := by decide +kernel
theorem dX4_bodyOfBleats_47 : decode cX4_bodyOfBleats 47 = .ok (.ireturn, 1) := by decide +kernel
def p_X4_bodyOfBleats (F : tF) (A : tA) (K : Int32 → Prop) : Prop := (((F 3) = (1 : Int32) → (K (20 : Int32))) ∧ ((F 3) = (3 : Int32) → (K (20 : Int32))) ∧ ((F 3) = (4 : Int32) → (K (41 : Int32))) ∧ (¬ (F 3) = (1 : Int32) → ¬ (F 3) = (3 : Int32) → ¬ (F 3) = (4 : Int32) → (K (11 : Int32))))
set_option maxHeartbeats 4000000 in
set_option maxRecDepth 100000 in
theorem w_X4_bodyOfBleats (l : Launch) (D : va_G) (cI cZ cR : ClassId) (adK adV : Nat → Nat) (sz : Nat) (o : Nat) (q : Nat → Nat) (F : tF) (A : tA) (K : Int32 → Prop) (h : p_X4_bodyOfBleats F A K) : MI l D cI cZ cR adK adV yX4_bodyOfBleats cX4_bodyOfBleats 1 (some .int) (rmN 0 0) [.ref o] (wX4 cI cZ o q F A : va_W) sz (fun (r : Int32) (u : Unit) => K r) (fun (u : Unit) => (wX4 cI cZ o q F A : va_W)) := by
  refine M_i (by decide +kernel) (Nat.le_of_ble_eq_true rfl) ?_
  intro p e s m args below meth c Q A9 ls X ret hP hD hS hl
  obtain ⟨hx, hb, hml, ht, hown, hK, hA, hE⟩ := id X
  have hl : lv_has ls 1 [(0, .ref o)] := hl
  unfold p_X4_bodyOfBleats at h
  refine lv_aload_n hx hb dX4_bodyOfBleats_0 rfl (lv_at hl 0 rfl) ?_
  refine va_get (C := RX4) (T := TX4) (N := 6) (own := RX4) (v := .int (F 3)) hx hb ht inlX4 hown hK hP 0 rfl rfl 3 (Nat.le_of_ble_eq_true rfl) (ht _ mw_5_0) (fun _ h9 => h9) rfl dX4_bodyOfBleats_1 ?_
  by_cases c4_1 : (F 3) = (1 : Int32)
  · replace h := h.1 c4_1
    refine lv_tableIn (tgt := 36) hx hb dX4_bodyOfBleats_4 (by rw [c4_1]; decide) (by rw [c4_1]; decide) (by rw [c4_1]; rfl) (by decide) ?_
    refine lv_bipush (v := 20) hx hb dX4_bodyOfBleats_36 (by decide) ?_
    exact ret _ () _ _ _ _ dX4_bodyOfBleats_38 h hP hD hS
  by_cases c4_3 : (F 3) = (3 : Int32)
  · replace h := h.2.1 c4_3
    refine lv_tableIn (tgt := 39) hx hb dX4_bodyOfBleats_4 (by rw [c4_3]; decide) (by rw [c4_3]; decide) (by rw [c4_3]; rfl) (by decide) ?_
    refine lv_bipush (v := 20) hx hb dX4_bodyOfBleats_39 (by decide) ?_
    exact ret _ () _ _ _ _ dX4_bodyOfBleats_41 h hP hD hS
  by_cases c4_4 : (F 3) = (4 : Int32)
  · replace h := h.2.2.1 c4_4
    refine lv_tableIn (tgt := 42) hx hb dX4_bodyOfBleats_4 (by rw [c4_4]; decide) (by rw [c4_4]; decide) (by rw [c4_4]; rfl) (by decide) ?_
    refine lv_bipush (v := 41) hx hb dX4_bodyOfBleats_42 (by decide) ?_
    exact ret _ () _ _ _ _ dX4_bodyOfBleats_44 h hP hD hS
  replace h := h.2.2.2 c4_1 c4_3 c4_4
  refine g_tdef (tgt := 45) hx hb dX4_bodyOfBleats_4 ?_ (by decide) ?_
  · by_cases g2 : (F 3) = (2 : Int32)
    · exact Or.inr (by rw [g2]; rfl)
    exact Or.inl (sw1_4 c4_1 g2 c4_3 c4_4)
  refine lv_bipush (v := 11) hx hb dX4_bodyOfBleats_45 (by decide) ?_
  exact ret _ () _ _ _ _ dX4_bodyOfBleats_47 h hP hD hS
theorem dX4_bodyOfLeads_0 : decode cX4_bodyOfLeads 0 = .ok (.aload_n 0, 1) := by decide +kernel
theorem dX4_bodyOfLeads_1 : decode cX4_bodyOfLeads 1 = .ok (.getfield 23, 3) := by decide +kernel
theorem dX4_bodyOfLeads_4 : decode cX4_bodyOfLeads 4 = .ok (.tableswitch 41 2 5 #[32, 41, 35, 38], 32) := by decide +kernel
theorem dX4_bodyOfLeads_36 : decode cX4_bodyOfLeads 36 = .ok (.bipush 31, 2) := by decide +kernel
theorem dX4_bodyOfLeads_38 : decode cX4_bodyOfLeads 38 = .ok (.ireturn, 1) := by decide +kernel
theorem dX4_bodyOfLeads_39 : decode cX4_bodyOfLeads 39 = .ok (.bipush 31, 2) := by decide +kernel
theorem dX4_bodyOfLeads_41 : decode cX4_bodyOfLeads 41 = .ok (.ireturn, 1) := by decide +kernel
theorem dX4_bodyOfLeads_42 : decode cX4_bodyOfLeads 42 = .ok (.bipush 60, 2) := by decide +kernel
theorem dX4_bodyOfLeads_44 : decode cX4_bodyOfLeads 44 = .ok (.ireturn, 1) := by decide +kernel
theorem dX4_bodyOfLeads_45 : decode cX4_bodyOfLeads 45 = .ok (.bipush 13, 2) := by decide +kernel
theorem dX4_bodyOfLeads_47 : decode cX4_bodyOfLeads 47 = .ok (.ireturn, 1) := by decide +kernel
def p_X4_bodyOfLeads (F : tF) (A : tA) (K : Int32 → Prop) : Prop := (((F 3) = (2 : Int32) → (K (31 : Int32))) ∧ ((F 3) = (4 : Int32) → (K (31 : Int32))) ∧ ((F 3) = (5 : Int32) → (K (60 : Int32))) ∧ (¬ (F 3) = (2 : Int32) → ¬ (F 3) = (4 : Int32) → ¬ (F 3) = (5 : Int32) → (K (13 : Int32))))
set_option maxHeartbeats 4000000 in
set_option maxRecDepth 100000 in
theorem w_X4_bodyOfLeads (l : Launch) (D : va_G) (cI cZ cR : ClassId) (adK adV : Nat → Nat) (sz : Nat) (o : Nat) (q : Nat → Nat) (F : tF) (A : tA) (K : Int32 → Prop) (h : p_X4_bodyOfLeads F A K) : MI l D cI cZ cR adK adV yX4_bodyOfLeads cX4_bodyOfLeads 1 (some .int) (rmN 0 0) [.ref o] (wX4 cI cZ o q F A : va_W) sz (fun (r : Int32) (u : Unit) => K r) (fun (u : Unit) => (wX4 cI cZ o q F A : va_W)) := by
  refine M_i (by decide +kernel) (Nat.le_of_ble_eq_true rfl) ?_
  intro p e s m args below meth c Q A9 ls X ret hP hD hS hl
  obtain ⟨hx, hb, hml, ht, hown, hK, hA, hE⟩ := id X
  have hl : lv_has ls 1 [(0, .ref o)] := hl
  unfold p_X4_bodyOfLeads at h
  refine lv_aload_n hx hb dX4_bodyOfLeads_0 rfl (lv_at hl 0 rfl) ?_
  refine va_get (C := RX4) (T := TX4) (N := 6) (own := RX4) (v := .int (F 3)) hx hb ht inlX4 hown hK hP 0 rfl rfl 3 (Nat.le_of_ble_eq_true rfl) (ht _ mw_5_0) (fun _ h9 => h9) rfl dX4_bodyOfLeads_1 ?_
  by_cases c4_2 : (F 3) = (2 : Int32)
  · replace h := h.1 c4_2
    refine lv_tableIn (tgt := 36) hx hb dX4_bodyOfLeads_4 (by rw [c4_2]; decide) (by rw [c4_2]; decide) (by rw [c4_2]; rfl) (by decide) ?_
    refine lv_bipush (v := 31) hx hb dX4_bodyOfLeads_36 (by decide) ?_
    exact ret _ () _ _ _ _ dX4_bodyOfLeads_38 h hP hD hS
  by_cases c4_4 : (F 3) = (4 : Int32)
  · replace h := h.2.1 c4_4
    refine lv_tableIn (tgt := 39) hx hb dX4_bodyOfLeads_4 (by rw [c4_4]; decide) (by rw [c4_4]; decide) (by rw [c4_4]; rfl) (by decide) ?_
    refine lv_bipush (v := 31) hx hb dX4_bodyOfLeads_39 (by decide) ?_
    exact ret _ () _ _ _ _ dX4_bodyOfLeads_41 h hP hD hS
  by_cases c4_5 : (F 3) = (5 : Int32)
  · replace h := h.2.2.1 c4_5
    refine lv_tableIn (tgt := 42) hx hb dX4_bodyOfLeads_4 (by rw [c4_5]; decide) (by rw [c4_5]; decide) (by rw [c4_5]; rfl) (by decide) ?_
    refine lv_bipush (v := 60) hx hb dX4_bodyOfLeads_42 (by decide) ?_
    exact ret _ () _ _ _ _ dX4_bodyOfLeads_44 h hP hD hS
  replace h := h.2.2.2 c4_2 c4_4 c4_5
  refine g_tdef (tgt := 45) hx hb dX4_bodyOfLeads_4 ?_ (by decide) ?_
  · by_cases g3 : (F 3) = (3 : Int32)
    · exact Or.inr (by rw [g3]; rfl)
    exact Or.inl (sw2_5 c4_2 g3 c4_4 c4_5)
  refine lv_bipush (v := 13) hx hb dX4_bodyOfLeads_45 (by decide) ?_
  exact ret _ () _ _ _ _ dX4_bodyOfLeads_47 h hP hD hS
theorem cal_X4_bodyOfAsks : CalV yX4_bodyOfAsks cX4_bodyOfAsks 1 (some .int) 0 := ⟨mw_47_9, mw_2_10, mw_47_7, mw_47_8, ⟨by decide +kernel, by decide +kernel, by decide +kernel⟩⟩
theorem cal_X4_bodyOfBleats : CalV yX4_bodyOfBleats cX4_bodyOfBleats 1 (some .int) 0 := ⟨mw_47_13, mw_2_10, mw_47_11, mw_47_12, ⟨by decide +kernel, by decide +kernel, by decide +kernel⟩⟩
theorem cal_X4_bodyOfLeads : CalV yX4_bodyOfLeads cX4_bodyOfLeads 1 (some .int) 0 := ⟨mw_47_17, mw_2_10, mw_47_15, mw_47_16, ⟨by decide +kernel, by decide +kernel, by decide +kernel⟩⟩
theorem dX4_bodyOf_0 : decode cX4_bodyOf 0 = .ok (.iload_n 1, 1) := by decide +kernel
theorem dX4_bodyOf_1 : decode cX4_bodyOf 1 = .ok (.tableswitch 66 0 2 #[27, 32, 37], 27) := by decide +kernel
theorem dX4_bodyOf_28 : decode cX4_bodyOf 28 = .ok (.aload_n 0, 1) := by decide +kernel
theorem dX4_bodyOf_29 : decode cX4_bodyOf 29 = .ok (.invokevirtual 43, 3) := by decide +kernel
theorem dX4_bodyOf_32 : decode cX4_bodyOf 32 = .ok (.ireturn, 1) := by decide +kernel
theorem dX4_bodyOf_33 : decode cX4_bodyOf 33 = .ok (.aload_n 0, 1) := by decide +kernel
theorem dX4_bodyOf_34 : decode cX4_bodyOf 34 = .ok (.invokevirtual 47, 3) := by decide +kernel
theorem dX4_bodyOf_37 : decode cX4_bodyOf 37 = .ok (.ireturn, 1) := by decide +kernel
theorem dX4_bodyOf_38 : decode cX4_bodyOf 38 = .ok (.aload_n 0, 1) := by decide +kernel
theorem dX4_bodyOf_39 : decode cX4_bodyOf 39 = .ok (.getfield 23, 3) := by decide +kernel
theorem dX4_bodyOf_42 : decode cX4_bodyOf 42 = .ok (.iconst 3, 1) := by decide +kernel
theorem dX4_bodyOf_43 : decode cX4_bodyOf 43 = .ok (.if_icmp .ne 8, 3) := by decide +kernel
theorem dX4_bodyOf_46 : decode cX4_bodyOf 46 = .ok (.bipush 50, 2) := by decide +kernel
theorem dX4_bodyOf_48 : decode cX4_bodyOf 48 = .ok (.goto 18, 3) := by decide +kernel
theorem dX4_bodyOf_51 : decode cX4_bodyOf 51 = .ok (.aload_n 0, 1) := by decide +kernel
theorem dX4_bodyOf_52 : decode cX4_bodyOf 52 = .ok (.getfield 23, 3) := by decide +kernel
theorem dX4_bodyOf_55 : decode cX4_bodyOf 55 = .ok (.iconst 5, 1) := by decide +kernel
theorem dX4_bodyOf_56 : decode cX4_bodyOf 56 = .ok (.if_icmp .ne 8, 3) := by decide +kernel
theorem dX4_bodyOf_59 : decode cX4_bodyOf 59 = .ok (.bipush 61, 2) := by decide +kernel
theorem dX4_bodyOf_61 : decode cX4_bodyOf 61 = .ok (.goto 5, 3) := by decide +kernel
theorem dX4_bodyOf_64 : decode cX4_bodyOf 64 = .ok (.bipush 12, 2) := by decide +kernel
theorem dX4_bodyOf_66 : decode cX4_bodyOf 66 = .ok (.ireturn, 1) := by decide +kernel
theorem dX4_bodyOf_67 : decode cX4_bodyOf 67 = .ok (.aload_n 0, 1) := by decide +kernel
theorem dX4_bodyOf_68 : decode cX4_bodyOf 68 = .ok (.invokevirtual 50, 3) := by decide +kernel
theorem dX4_bodyOf_71 : decode cX4_bodyOf 71 = .ok (.ireturn, 1) := by decide +kernel
def p_X4_bodyOf (F : tF) (A : tA) (x1 : Int32) (K : Int32 → Prop) : Prop := ((x1 = (0 : Int32) → (p_X4_bodyOfAsks F A (fun r29 => (K r29)))) ∧ (x1 = (1 : Int32) → (p_X4_bodyOfBleats F A (fun r34 => (K r34)))) ∧ (x1 = (2 : Int32) → ((¬ (F 3) = (3 : Int32) → ((¬ (F 3) = (5 : Int32) → (K (12 : Int32))) ∧ ((F 3) = (5 : Int32) → (K (61 : Int32))))) ∧ ((F 3) = (3 : Int32) → (K (50 : Int32))))) ∧ (¬ x1 = (0 : Int32) → ¬ x1 = (1 : Int32) → ¬ x1 = (2 : Int32) → (p_X4_bodyOfLeads F A (fun r68 => (K r68)))))
set_option maxHeartbeats 4000000 in
set_option maxRecDepth 100000 in
theorem w_X4_bodyOf (l : Launch) (D : va_G) (cI cZ cR : ClassId) (adK adV : Nat → Nat) (sz : Nat) (o : Nat) (q : Nat → Nat) (F : tF) (A : tA) (x1 : Int32) (K : Int32 → Prop) (h : p_X4_bodyOf F A x1 K) : MI l D cI cZ cR adK adV yX4_bodyOf cX4_bodyOf 2 (some .int) (rmN 1 20) [.ref o, .int x1] (wX4 cI cZ o q F A : va_W) sz (fun (r : Int32) (u : Unit) => K r) (fun (u : Unit) => (wX4 cI cZ o q F A : va_W)) := by
  refine M_i (by decide +kernel) (Nat.le_of_ble_eq_true rfl) ?_
  intro p e s m args below meth c Q A9 ls X ret hP hD hS hl
  obtain ⟨hx, hb, hml, ht, hown, hK, hA, hE⟩ := id X
  have hl : lv_has ls 2 [(0, .ref o), (1, .int x1)] := hl
  unfold p_X4_bodyOf at h
  refine lv_iload_n hx hb dX4_bodyOf_0 rfl (lv_at hl 1 rfl) ?_
  by_cases c1_0 : x1 = (0 : Int32)
  · replace h := h.1 c1_0
    refine lv_tableIn (tgt := 28) hx hb dX4_bodyOf_1 (by rw [c1_0]; decide) (by rw [c1_0]; decide) (by rw [c1_0]; rfl) (by decide) ?_
    refine lv_aload_n hx hb dX4_bodyOf_28 rfl (lv_at hl 0 rfl) ?_
    refine C_vi (wr := []) X hP hD hS [] [] (w_X4_bodyOfAsks l D cI cZ cR adK adV _ o q F A _ h) cal_X4_bodyOfAsks mw_47_6 rfl [0, 1] [] [0, 1] (fun u => (wX4 cI cZ o q F A : va_W)) rfl rfl (fun _ => rfl) rfl 0 rfl rfl ⟨rfl, rfl⟩ ⟨Nat.le_of_ble_eq_true rfl, Nat.le_of_ble_eq_true rfl⟩ hl.1 rfl (Nat.le_of_ble_eq_true rfl) ⟨Nat.zero_le _, Nat.zero_le _⟩ dX4_bodyOf_29 (fun r29 u H locs h hP hD hS => ?_)
    exact ret _ () _ _ _ _ dX4_bodyOf_32 h hP hD hS
  by_cases c1_1 : x1 = (1 : Int32)
  · replace h := h.2.1 c1_1
    refine lv_tableIn (tgt := 33) hx hb dX4_bodyOf_1 (by rw [c1_1]; decide) (by rw [c1_1]; decide) (by rw [c1_1]; rfl) (by decide) ?_
    refine lv_aload_n hx hb dX4_bodyOf_33 rfl (lv_at hl 0 rfl) ?_
    refine C_vi (wr := []) X hP hD hS [] [] (w_X4_bodyOfBleats l D cI cZ cR adK adV _ o q F A _ h) cal_X4_bodyOfBleats mw_47_10 rfl [0, 1] [] [0, 1] (fun u => (wX4 cI cZ o q F A : va_W)) rfl rfl (fun _ => rfl) rfl 0 rfl rfl ⟨rfl, rfl⟩ ⟨Nat.le_of_ble_eq_true rfl, Nat.le_of_ble_eq_true rfl⟩ hl.1 rfl (Nat.le_of_ble_eq_true rfl) ⟨Nat.zero_le _, Nat.zero_le _⟩ dX4_bodyOf_34 (fun r34 u H locs h hP hD hS => ?_)
    exact ret _ () _ _ _ _ dX4_bodyOf_37 h hP hD hS
  by_cases c1_2 : x1 = (2 : Int32)
  · replace h := h.2.2.1 c1_2
    refine lv_tableIn (tgt := 38) hx hb dX4_bodyOf_1 (by rw [c1_2]; decide) (by rw [c1_2]; decide) (by rw [c1_2]; rfl) (by decide) ?_
    refine lv_aload_n hx hb dX4_bodyOf_38 rfl (lv_at hl 0 rfl) ?_
    refine va_get (C := RX4) (T := TX4) (N := 6) (own := RX4) (v := .int (F 3)) hx hb ht inlX4 hown hK hP 0 rfl rfl 3 (Nat.le_of_ble_eq_true rfl) (ht _ mw_5_0) (fun _ h9 => h9) rfl dX4_bodyOf_39 ?_
    refine lv_iconst (v := 3) hx hb dX4_bodyOf_42 (by decide) ?_
    refine lv_icmp_ne (tgt := 51) hx hb dX4_bodyOf_43 (by decide) (fun c43 => ?_) (fun c43 => ?_)
    · replace h := h.1 c43
      refine lv_aload_n hx hb dX4_bodyOf_51 rfl (lv_at hl 0 rfl) ?_
      refine va_get (C := RX4) (T := TX4) (N := 6) (own := RX4) (v := .int (F 3)) hx hb ht inlX4 hown hK hP 0 rfl rfl 3 (Nat.le_of_ble_eq_true rfl) (ht _ mw_5_0) (fun _ h9 => h9) rfl dX4_bodyOf_52 ?_
      refine lv_iconst (v := 5) hx hb dX4_bodyOf_55 (by decide) ?_
      refine lv_icmp_ne (tgt := 64) hx hb dX4_bodyOf_56 (by decide) (fun c56 => ?_) (fun c56 => ?_)
      · replace h := h.1 c56
        refine lv_bipush (v := 12) hx hb dX4_bodyOf_64 (by decide) ?_
        exact ret _ () _ _ _ _ dX4_bodyOf_66 h hP hD hS
      · replace h := h.2 c56
        refine lv_bipush (v := 61) hx hb dX4_bodyOf_59 (by decide) ?_
        refine lv_goto (tgt := 66) hx hb dX4_bodyOf_61 (by decide) ?_
        exact ret _ () _ _ _ _ dX4_bodyOf_66 h hP hD hS
    · replace h := h.2 c43
      refine lv_bipush (v := 50) hx hb dX4_bodyOf_46 (by decide) ?_
      refine lv_goto (tgt := 66) hx hb dX4_bodyOf_48 (by decide) ?_
      exact ret _ () _ _ _ _ dX4_bodyOf_66 h hP hD hS
  replace h := h.2.2.2 c1_0 c1_1 c1_2
  refine g_tdef (tgt := 67) hx hb dX4_bodyOf_1 ?_ (by decide) ?_
  · exact Or.inl (sw0_2 c1_0 c1_1 c1_2)
  refine lv_aload_n hx hb dX4_bodyOf_67 rfl (lv_at hl 0 rfl) ?_
  refine C_vi (wr := []) X hP hD hS [] [] (w_X4_bodyOfLeads l D cI cZ cR adK adV _ o q F A _ h) cal_X4_bodyOfLeads mw_47_14 rfl [0, 1] [] [0, 1] (fun u => (wX4 cI cZ o q F A : va_W)) rfl rfl (fun _ => rfl) rfl 0 rfl rfl ⟨rfl, rfl⟩ ⟨Nat.le_of_ble_eq_true rfl, Nat.le_of_ble_eq_true rfl⟩ hl.1 rfl (Nat.le_of_ble_eq_true rfl) ⟨Nat.zero_le _, Nat.zero_le _⟩ dX4_bodyOf_68 (fun r68 u H locs h hP hD hS => ?_)
  exact ret _ () _ _ _ _ dX4_bodyOf_71 h hP hD hS
theorem dX4_quotient_0 : decode cX4_quotient 0 = .ok (.iload_n 2, 1) := by decide +kernel
theorem dX4_quotient_1 : decode cX4_quotient 1 = .ok (.ifCond .ne 10, 3) := by decide +kernel
theorem dX4_quotient_4 : decode cX4_quotient 4 = .ok (.aload_n 0, 1) := by decide +kernel
theorem dX4_quotient_5 : decode cX4_quotient 5 = .ok (.iconst 1, 1) := by decide +kernel
theorem dX4_quotient_6 : decode cX4_quotient 6 = .ok (.putfield 19, 3) := by decide +kernel
theorem dX4_quotient_9 : decode cX4_quotient 9 = .ok (.iconst 0, 1) := by decide +kernel
theorem dX4_quotient_10 : decode cX4_quotient 10 = .ok (.ireturn, 1) := by decide +kernel
theorem dX4_quotient_11 : decode cX4_quotient 11 = .ok (.iload_n 1, 1) := by decide +kernel
theorem dX4_quotient_12 : decode cX4_quotient 12 = .ok (.iload_n 2, 1) := by decide +kernel
theorem dX4_quotient_13 : decode cX4_quotient 13 = .ok (.idiv, 1) := by decide +kernel
theorem dX4_quotient_14 : decode cX4_quotient 14 = .ok (.ireturn, 1) := by decide +kernel
def p_X4_quotient (F : tF) (A : tA) (x1 : Int32) (x2 : Int32) (K : Int32 → tF → tA → Prop) : Prop := ((¬ x2 = 0 → (¬ x2 = 0 ∧ (K (x1 / x2) F A))) ∧ (x2 = 0 → (K (0 : Int32) (upd F 2 (1 : Int32)) A)))
set_option maxHeartbeats 4000000 in
set_option maxRecDepth 100000 in
theorem w_X4_quotient (l : Launch) (D : va_G) (cI cZ cR : ClassId) (adK adV : Nat → Nat) (sz : Nat) (o : Nat) (q : Nat → Nat) (F : tF) (A : tA) (x1 : Int32) (x2 : Int32) (K : Int32 → tF → tA → Prop) (h : p_X4_quotient F A x1 x2 K) : MI l D cI cZ cR adK adV yX4_quotient cX4_quotient 3 (some .int) (rmN 0 0) [.ref o, .int x1, .int x2] (wX4 cI cZ o q F A : va_W) sz (fun (r : Int32) (u : (tF × tA)) => K r u.1 u.2) (fun (u : (tF × tA)) => (wX4 cI cZ o q u.1 u.2 : va_W)) := by
  refine M_i (by decide +kernel) (Nat.le_of_ble_eq_true rfl) ?_
  intro p e s m args below meth c Q A9 ls X ret hP hD hS hl
  obtain ⟨hx, hb, hml, ht, hown, hK, hA, hE⟩ := id X
  have hl : lv_has ls 3 [(0, .ref o), (1, .int x1), (2, .int x2)] := hl
  unfold p_X4_quotient at h
  refine lv_iload_n hx hb dX4_quotient_0 rfl (lv_at hl 2 rfl) ?_
  refine lv_if_ne (tgt := 11) hx hb dX4_quotient_1 (by decide) (fun c1 => ?_) (fun c1 => ?_)
  · replace h := h.1 c1
    refine lv_iload_n hx hb dX4_quotient_11 rfl (lv_at hl 1 rfl) ?_
    refine lv_iload_n hx hb dX4_quotient_12 rfl (lv_at hl 2 rfl) ?_
    obtain ⟨hz13, h⟩ := h
    refine lv_idiv hx hb dX4_quotient_13 hz13 ?_
    exact ret _ (F, A) _ _ _ _ dX4_quotient_14 h hP hD hS
  · replace h := h.2 c1
    refine lv_aload_n hx hb dX4_quotient_4 rfl (lv_at hl 0 rfl) ?_
    refine lv_iconst (v := 1) hx hb dX4_quotient_5 (by decide) ?_
    refine va_put (C := RX4) (T := TX4) (N := 6) (own := RX4) (v := .int (1 : Int32)) hx hb ht inlX4 tyX4 tyX4_ok nmX4 hown hK hP hD hS 0 rfl rfl 2 (Nat.le_of_ble_eq_true rfl) (ht _ mw_4_23) (fun _ h9 => h9) rfl (tyX4_ok 2 (Nat.le_of_ble_eq_true rfl)) rfl rfl (Nat.le_of_ble_eq_true rfl) dX4_quotient_6 (fun H locs hP hD hS => ?_)
    have hP : va_P D vwCl (wX4 cI cZ o q (upd F 2 (1 : Int32)) A : va_W) H := hP
    have hD : va_D A9 (wX4 cI cZ o q (upd F 2 (1 : Int32)) A : va_W) := hD
    refine lv_iconst (v := 0) hx hb dX4_quotient_9 (by decide) ?_
    exact ret _ ((upd F 2 (1 : Int32)), A) _ _ _ _ dX4_quotient_10 h hP hD hS
theorem dX4_writeDown_0 : decode cX4_writeDown 0 = .ok (.aload_n 0, 1) := by decide +kernel
theorem dX4_writeDown_1 : decode cX4_writeDown 1 = .ok (.getfield 15, 3) := by decide +kernel
theorem dX4_writeDown_4 : decode cX4_writeDown 4 = .ok (.bipush 30, 2) := by decide +kernel
theorem dX4_writeDown_6 : decode cX4_writeDown 6 = .ok (.if_icmp .ge 23, 3) := by decide +kernel
theorem dX4_writeDown_9 : decode cX4_writeDown 9 = .ok (.aload_n 0, 1) := by decide +kernel
theorem dX4_writeDown_10 : decode cX4_writeDown 10 = .ok (.getfield 11, 3) := by decide +kernel
theorem dX4_writeDown_13 : decode cX4_writeDown 13 = .ok (.aload_n 0, 1) := by decide +kernel
theorem dX4_writeDown_14 : decode cX4_writeDown 14 = .ok (.getfield 15, 3) := by decide +kernel
theorem dX4_writeDown_17 : decode cX4_writeDown 17 = .ok (.iload_n 1, 1) := by decide +kernel
theorem dX4_writeDown_18 : decode cX4_writeDown 18 = .ok (.iastore, 1) := by decide +kernel
theorem dX4_writeDown_19 : decode cX4_writeDown 19 = .ok (.aload_n 0, 1) := by decide +kernel
theorem dX4_writeDown_20 : decode cX4_writeDown 20 = .ok (.dup, 1) := by decide +kernel
theorem dX4_writeDown_21 : decode cX4_writeDown 21 = .ok (.getfield 15, 3) := by decide +kernel
theorem dX4_writeDown_24 : decode cX4_writeDown 24 = .ok (.iconst 1, 1) := by decide +kernel
theorem dX4_writeDown_25 : decode cX4_writeDown 25 = .ok (.iadd, 1) := by decide +kernel
theorem dX4_writeDown_26 : decode cX4_writeDown 26 = .ok (.putfield 15, 3) := by decide +kernel
theorem dX4_writeDown_29 : decode cX4_writeDown 29 = .ok (.return_, 1) := by decide +kernel
def p_X4_writeDown (F : tF) (A : tA) (x1 : Int32) (K : tF → tA → Prop) : Prop := (((30 : Int32) ≤ (F 1) → (K F A)) ∧ (¬ (30 : Int32) ≤ (F 1) → (vp_in (F 1) 30 ∧ (∀ f_18 : tF, f_18 = (upd (A 0) ((F 1)).toNatClampNeg x1) → (∀ y26 : Int32, y26 = ((F 1) + (1 : Int32)) → (K (upd F 1 y26) (va_up A 0 f_18)))))))
set_option maxHeartbeats 4000000 in
set_option maxRecDepth 100000 in
theorem w_X4_writeDown (l : Launch) (D : va_G) (cI cZ cR : ClassId) (adK adV : Nat → Nat) (sz : Nat) (o : Nat) (q : Nat → Nat) (F : tF) (A : tA) (x1 : Int32) (K : tF → tA → Prop) (h : p_X4_writeDown F A x1 K) : MV l D cI cZ cR adK adV yX4_writeDown cX4_writeDown 2 none (rmN 0 0) [.ref o, .int x1] (wX4 cI cZ o q F A : va_W) sz (fun (u : (tF × tA)) => K u.1 u.2) (fun (u : (tF × tA)) => (wX4 cI cZ o q u.1 u.2 : va_W)) := by
  refine M_v (by decide +kernel) (Nat.le_of_ble_eq_true rfl) ?_
  intro p e s m args below meth c Q A9 ls X ret hP hD hS hl
  obtain ⟨hx, hb, hml, ht, hown, hK, hA, hE⟩ := id X
  have hl : lv_has ls 2 [(0, .ref o), (1, .int x1)] := hl
  unfold p_X4_writeDown at h
  refine lv_aload_n hx hb dX4_writeDown_0 rfl (lv_at hl 0 rfl) ?_
  refine va_get (C := RX4) (T := TX4) (N := 6) (own := RX4) (v := .int (F 1)) hx hb ht inlX4 hown hK hP 0 rfl rfl 1 (Nat.le_of_ble_eq_true rfl) (ht _ mw_4_22) (fun _ h9 => h9) rfl dX4_writeDown_1 ?_
  refine lv_bipush (v := 30) hx hb dX4_writeDown_4 (by decide) ?_
  refine lv_icmp_ge (tgt := 29) hx hb dX4_writeDown_6 (by decide) (fun c6 => ?_) (fun c6 => ?_)
  · replace h := h.1 c6
    exact ret (F, A) _ _ _ _ dX4_writeDown_29 h hP hD hS
  · replace h := h.2 c6
    refine lv_aload_n hx hb dX4_writeDown_9 rfl (lv_at hl 0 rfl) ?_
    refine va_get (C := RX4) (T := TX4) (N := 6) (own := RX4) (v := .ref (q 0)) hx hb ht inlX4 hown hK hP 0 rfl rfl 0 (Nat.le_of_ble_eq_true rfl) (ht _ mw_4_21) (fun _ h9 => h9) rfl dX4_writeDown_10 ?_
    refine lv_aload_n hx hb dX4_writeDown_13 rfl (lv_at hl 0 rfl) ?_
    refine va_get (C := RX4) (T := TX4) (N := 6) (own := RX4) (v := .int (F 1)) hx hb ht inlX4 hown hK hP 0 rfl rfl 1 (Nat.le_of_ble_eq_true rfl) (ht _ mw_4_22) (fun _ h9 => h9) rfl dX4_writeDown_14 ?_
    refine lv_iload_n hx hb dX4_writeDown_17 rfl (lv_at hl 1 rfl) ?_
    obtain ⟨hi18, h⟩ := h
    obtain ⟨f_18, ef_18⟩ : ∃ z : tF, z = (upd (A 0) ((F 1)).toNatClampNeg x1) := ⟨_, rfl⟩
    replace h := h f_18 ef_18
    refine g_iast (f := (A 0)) (k := ((F 1)).toNatClampNeg) hx hb hK hP hD hS 1 0 rfl rfl hi18 rfl ef_18 dX4_writeDown_18 (fun H locs hP hD hS => ?_)
    have hP : va_P D vwCl (wX4 cI cZ o q F (va_up A 0 f_18) : va_W) H := hP
    have hD : va_D A9 (wX4 cI cZ o q F (va_up A 0 f_18) : va_W) := hD
    refine lv_aload_n hx hb dX4_writeDown_19 rfl (lv_at hl 0 rfl) ?_
    refine lv_dup hx hb dX4_writeDown_20 rfl ?_
    refine va_get (C := RX4) (T := TX4) (N := 6) (own := RX4) (v := .int (F 1)) hx hb ht inlX4 hown hK hP 0 rfl rfl 1 (Nat.le_of_ble_eq_true rfl) (ht _ mw_4_22) (fun _ h9 => h9) rfl dX4_writeDown_21 ?_
    refine lv_iconst (v := 1) hx hb dX4_writeDown_24 (by decide) ?_
    refine lv_iadd hx hb dX4_writeDown_25 ?_
    refine lv_topi (fun y26 ey26 => ?_)
    replace h := h y26 ey26
    refine va_put (C := RX4) (T := TX4) (N := 6) (own := RX4) (v := .int y26) hx hb ht inlX4 tyX4 tyX4_ok nmX4 hown hK hP hD hS 0 rfl rfl 1 (Nat.le_of_ble_eq_true rfl) (ht _ mw_4_22) (fun _ h9 => h9) rfl (tyX4_ok 1 (Nat.le_of_ble_eq_true rfl)) rfl rfl (Nat.le_of_ble_eq_true rfl) dX4_writeDown_26 (fun H locs hP hD hS => ?_)
    have hP : va_P D vwCl (wX4 cI cZ o q (upd F 1 y26) (va_up A 0 f_18) : va_W) H := hP
    have hD : va_D A9 (wX4 cI cZ o q (upd F 1 y26) (va_up A 0 f_18) : va_W) := hD
    exact ret ((upd F 1 y26), (va_up A 0 f_18)) _ _ _ _ dX4_writeDown_29 h hP hD hS
theorem cal_X4_writeDown : CalV yX4_writeDown cX4_writeDown 2 none 1 := ⟨mw_48_0, mw_2_10, mw_47_22, mw_47_23, ⟨by decide +kernel, by decide +kernel, by decide +kernel⟩⟩
theorem cal_X4_bodyOf : CalV yX4_bodyOf cX4_bodyOf 2 (some .int) 1 := ⟨mw_47_5, mw_2_10, mw_47_3, mw_47_4, ⟨by decide +kernel, by decide +kernel, by decide +kernel⟩⟩
theorem cal_X4_run : CalS yX4_run cX4_run 5 (some .int) 4 := ⟨mw_47_20, mw_2_10, mw_47_19, ⟨by decide +kernel, by decide +kernel, by decide +kernel⟩⟩
theorem cal_X4_quotient : CalV yX4_quotient cX4_quotient 3 (some .int) 2 := ⟨mw_48_4, mw_2_10, mw_48_2, mw_48_3, ⟨by decide +kernel, by decide +kernel, by decide +kernel⟩⟩
theorem dX4_run_0 : decode cX4_run 0 = .ok (.aload_n 0, 1) := by decide +kernel
theorem dX4_run_1 : decode cX4_run 1 = .ok (.getfield 19, 3) := by decide +kernel
theorem dX4_run_4 : decode cX4_run 4 = .ok (.ifCond .ne 9, 3) := by decide +kernel
theorem dX4_run_7 : decode cX4_run 7 = .ok (.iload_n 3, 1) := by decide +kernel
theorem dX4_run_8 : decode cX4_run 8 = .ok (.bipush 40, 2) := by decide +kernel
theorem dX4_run_10 : decode cX4_run 10 = .ok (.if_icmp .le 5, 3) := by decide +kernel
theorem dX4_run_13 : decode cX4_run 13 = .ok (.iconst 0, 1) := by decide +kernel
theorem dX4_run_14 : decode cX4_run 14 = .ok (.ireturn, 1) := by decide +kernel
theorem dX4_run_15 : decode cX4_run 15 = .ok (.aload_n 0, 1) := by decide +kernel
theorem dX4_run_16 : decode cX4_run 16 = .ok (.iload_n 1, 1) := by decide +kernel
theorem dX4_run_17 : decode cX4_run 17 = .ok (.invokevirtual 53, 3) := by decide +kernel
theorem dX4_run_20 : decode cX4_run 20 = .ok (.iload_n 3, 1) := by decide +kernel
theorem dX4_run_21 : decode cX4_run 21 = .ok (.iconst 1, 1) := by decide +kernel
theorem dX4_run_22 : decode cX4_run 22 = .ok (.iadd, 1) := by decide +kernel
theorem dX4_run_23 : decode cX4_run 23 = .ok (.istore 4, 2) := by decide +kernel
theorem dX4_run_25 : decode cX4_run 25 = .ok (.iload_n 1, 1) := by decide +kernel
theorem dX4_run_26 : decode cX4_run 26 = .ok (.tableswitch 437 10 61 #[222, 231, 249, 264, 437, 437, 437, 437, 437, 437, 280, 437, 437, 437, 437, 437, 437, 437, 437, 437, 292, 304, 437, 437, 437, 437, 437, 437, 437, 437, 330, 342, 437, 437, 437, 437, 437, 437, 437, 437, 368, 386, 437, 437, 437, 437, 437, 437, 437, 437, 398, 411], 222) := by decide +kernel
theorem dX4_run_248 : decode cX4_run 248 = .ok (.iload_n 2, 1) := by decide +kernel
theorem dX4_run_249 : decode cX4_run 249 = .ok (.iconst 2, 1) := by decide +kernel
theorem dX4_run_250 : decode cX4_run 250 = .ok (.imul, 1) := by decide +kernel
theorem dX4_run_251 : decode cX4_run 251 = .ok (.aload_n 0, 1) := by decide +kernel
theorem dX4_run_252 : decode cX4_run 252 = .ok (.getfield 26, 3) := by decide +kernel
theorem dX4_run_255 : decode cX4_run 255 = .ok (.isub, 1) := by decide +kernel
theorem dX4_run_256 : decode cX4_run 256 = .ok (.ireturn, 1) := by decide +kernel
theorem dX4_run_257 : decode cX4_run 257 = .ok (.aload_n 0, 1) := by decide +kernel
theorem dX4_run_258 : decode cX4_run 258 = .ok (.aload_n 0, 1) := by decide +kernel
theorem dX4_run_259 : decode cX4_run 259 = .ok (.iconst 0, 1) := by decide +kernel
theorem dX4_run_260 : decode cX4_run 260 = .ok (.invokevirtual 35, 3) := by decide +kernel
theorem dX4_run_263 : decode cX4_run 263 = .ok (.iload_n 2, 1) := by decide +kernel
theorem dX4_run_264 : decode cX4_run 264 = .ok (.iload 4, 2) := by decide +kernel
theorem dX4_run_266 : decode cX4_run 266 = .ok (.invokestatic 39, 3) := by decide +kernel
theorem dX4_run_269 : decode cX4_run 269 = .ok (.aload_n 0, 1) := by decide +kernel
theorem dX4_run_270 : decode cX4_run 270 = .ok (.getfield 29, 3) := by decide +kernel
theorem dX4_run_273 : decode cX4_run 273 = .ok (.iadd, 1) := by decide +kernel
theorem dX4_run_274 : decode cX4_run 274 = .ok (.ireturn, 1) := by decide +kernel
theorem dX4_run_275 : decode cX4_run 275 = .ok (.aload_n 0, 1) := by decide +kernel
theorem dX4_run_276 : decode cX4_run 276 = .ok (.iload_n 2, 1) := by decide +kernel
theorem dX4_run_277 : decode cX4_run 277 = .ok (.aload_n 0, 1) := by decide +kernel
theorem dX4_run_278 : decode cX4_run 278 = .ok (.getfield 29, 3) := by decide +kernel
theorem dX4_run_281 : decode cX4_run 281 = .ok (.aload_n 0, 1) := by decide +kernel
theorem dX4_run_282 : decode cX4_run 282 = .ok (.getfield 26, 3) := by decide +kernel
theorem dX4_run_285 : decode cX4_run 285 = .ok (.isub, 1) := by decide +kernel
theorem dX4_run_286 : decode cX4_run 286 = .ok (.invokevirtual 57, 3) := by decide +kernel
theorem dX4_run_289 : decode cX4_run 289 = .ok (.ireturn, 1) := by decide +kernel
theorem dX4_run_290 : decode cX4_run 290 = .ok (.aload_n 0, 1) := by decide +kernel
theorem dX4_run_291 : decode cX4_run 291 = .ok (.aload_n 0, 1) := by decide +kernel
theorem dX4_run_292 : decode cX4_run 292 = .ok (.iconst 1, 1) := by decide +kernel
theorem dX4_run_293 : decode cX4_run 293 = .ok (.invokevirtual 35, 3) := by decide +kernel
theorem dX4_run_296 : decode cX4_run 296 = .ok (.iload_n 2, 1) := by decide +kernel
theorem dX4_run_297 : decode cX4_run 297 = .ok (.iload 4, 2) := by decide +kernel
theorem dX4_run_299 : decode cX4_run 299 = .ok (.invokestatic 39, 3) := by decide +kernel
theorem dX4_run_302 : decode cX4_run 302 = .ok (.bipush 6, 2) := by decide +kernel
theorem dX4_run_304 : decode cX4_run 304 = .ok (.ixor, 1) := by decide +kernel
theorem dX4_run_305 : decode cX4_run 305 = .ok (.ireturn, 1) := by decide +kernel
theorem dX4_run_306 : decode cX4_run 306 = .ok (.aload_n 0, 1) := by decide +kernel
theorem dX4_run_307 : decode cX4_run 307 = .ok (.bipush 11, 2) := by decide +kernel
theorem dX4_run_309 : decode cX4_run 309 = .ok (.iload_n 2, 1) := by decide +kernel
theorem dX4_run_310 : decode cX4_run 310 = .ok (.iload 4, 2) := by decide +kernel
theorem dX4_run_312 : decode cX4_run 312 = .ok (.invokestatic 39, 3) := by decide +kernel
theorem dX4_run_315 : decode cX4_run 315 = .ok (.iconst 4, 1) := by decide +kernel
theorem dX4_run_316 : decode cX4_run 316 = .ok (.isub, 1) := by decide +kernel
theorem dX4_run_317 : decode cX4_run 317 = .ok (.ireturn, 1) := by decide +kernel
theorem dX4_run_318 : decode cX4_run 318 = .ok (.iconst 0, 1) := by decide +kernel
theorem dX4_run_319 : decode cX4_run 319 = .ok (.aload_n 0, 1) := by decide +kernel
theorem dX4_run_320 : decode cX4_run 320 = .ok (.bipush 10, 2) := by decide +kernel
theorem dX4_run_322 : decode cX4_run 322 = .ok (.iload_n 2, 1) := by decide +kernel
theorem dX4_run_323 : decode cX4_run 323 = .ok (.iload 4, 2) := by decide +kernel
theorem dX4_run_325 : decode cX4_run 325 = .ok (.invokestatic 39, 3) := by decide +kernel
theorem dX4_run_328 : decode cX4_run 328 = .ok (.isub, 1) := by decide +kernel
theorem dX4_run_329 : decode cX4_run 329 = .ok (.ireturn, 1) := by decide +kernel
theorem dX4_run_330 : decode cX4_run 330 = .ok (.aload_n 0, 1) := by decide +kernel
theorem dX4_run_331 : decode cX4_run 331 = .ok (.bipush 13, 2) := by decide +kernel
theorem dX4_run_333 : decode cX4_run 333 = .ok (.iload_n 2, 1) := by decide +kernel
theorem dX4_run_334 : decode cX4_run 334 = .ok (.iload 4, 2) := by decide +kernel
theorem dX4_run_336 : decode cX4_run 336 = .ok (.invokestatic 39, 3) := by decide +kernel
theorem dX4_run_339 : decode cX4_run 339 = .ok (.aload_n 0, 1) := by decide +kernel
theorem dX4_run_340 : decode cX4_run 340 = .ok (.aload_n 0, 1) := by decide +kernel
theorem dX4_run_341 : decode cX4_run 341 = .ok (.iconst 2, 1) := by decide +kernel
theorem dX4_run_342 : decode cX4_run 342 = .ok (.invokevirtual 35, 3) := by decide +kernel
theorem dX4_run_345 : decode cX4_run 345 = .ok (.aload_n 0, 1) := by decide +kernel
theorem dX4_run_346 : decode cX4_run 346 = .ok (.getfield 26, 3) := by decide +kernel
theorem dX4_run_349 : decode cX4_run 349 = .ok (.iload 4, 2) := by decide +kernel
theorem dX4_run_351 : decode cX4_run 351 = .ok (.invokestatic 39, 3) := by decide +kernel
theorem dX4_run_354 : decode cX4_run 354 = .ok (.iadd, 1) := by decide +kernel
theorem dX4_run_355 : decode cX4_run 355 = .ok (.ireturn, 1) := by decide +kernel
theorem dX4_run_356 : decode cX4_run 356 = .ok (.aload_n 0, 1) := by decide +kernel
theorem dX4_run_357 : decode cX4_run 357 = .ok (.bipush 30, 2) := by decide +kernel
theorem dX4_run_359 : decode cX4_run 359 = .ok (.iload_n 2, 1) := by decide +kernel
theorem dX4_run_360 : decode cX4_run 360 = .ok (.iload 4, 2) := by decide +kernel
theorem dX4_run_362 : decode cX4_run 362 = .ok (.invokestatic 39, 3) := by decide +kernel
theorem dX4_run_365 : decode cX4_run 365 = .ok (.iconst 3, 1) := by decide +kernel
theorem dX4_run_366 : decode cX4_run 366 = .ok (.imul, 1) := by decide +kernel
theorem dX4_run_367 : decode cX4_run 367 = .ok (.ireturn, 1) := by decide +kernel
theorem dX4_run_368 : decode cX4_run 368 = .ok (.aload_n 0, 1) := by decide +kernel
theorem dX4_run_369 : decode cX4_run 369 = .ok (.bipush 11, 2) := by decide +kernel
theorem dX4_run_371 : decode cX4_run 371 = .ok (.iload_n 2, 1) := by decide +kernel
theorem dX4_run_372 : decode cX4_run 372 = .ok (.iload 4, 2) := by decide +kernel
theorem dX4_run_374 : decode cX4_run 374 = .ok (.invokestatic 39, 3) := by decide +kernel
theorem dX4_run_377 : decode cX4_run 377 = .ok (.aload_n 0, 1) := by decide +kernel
theorem dX4_run_378 : decode cX4_run 378 = .ok (.aload_n 0, 1) := by decide +kernel
theorem dX4_run_379 : decode cX4_run 379 = .ok (.iconst 0, 1) := by decide +kernel
theorem dX4_run_380 : decode cX4_run 380 = .ok (.invokevirtual 35, 3) := by decide +kernel
theorem dX4_run_383 : decode cX4_run 383 = .ok (.aload_n 0, 1) := by decide +kernel
theorem dX4_run_384 : decode cX4_run 384 = .ok (.getfield 29, 3) := by decide +kernel
theorem dX4_run_387 : decode cX4_run 387 = .ok (.iload 4, 2) := by decide +kernel
theorem dX4_run_389 : decode cX4_run 389 = .ok (.invokestatic 39, 3) := by decide +kernel
theorem dX4_run_392 : decode cX4_run 392 = .ok (.ixor, 1) := by decide +kernel
theorem dX4_run_393 : decode cX4_run 393 = .ok (.ireturn, 1) := by decide +kernel
theorem dX4_run_394 : decode cX4_run 394 = .ok (.aload_n 0, 1) := by decide +kernel
theorem dX4_run_395 : decode cX4_run 395 = .ok (.bipush 12, 2) := by decide +kernel
theorem dX4_run_397 : decode cX4_run 397 = .ok (.iload_n 2, 1) := by decide +kernel
theorem dX4_run_398 : decode cX4_run 398 = .ok (.bipush 7, 2) := by decide +kernel
theorem dX4_run_400 : decode cX4_run 400 = .ok (.isub, 1) := by decide +kernel
theorem dX4_run_401 : decode cX4_run 401 = .ok (.iload 4, 2) := by decide +kernel
theorem dX4_run_403 : decode cX4_run 403 = .ok (.invokestatic 39, 3) := by decide +kernel
theorem dX4_run_406 : decode cX4_run 406 = .ok (.aload_n 0, 1) := by decide +kernel
theorem dX4_run_407 : decode cX4_run 407 = .ok (.getfield 29, 3) := by decide +kernel
theorem dX4_run_410 : decode cX4_run 410 = .ok (.iadd, 1) := by decide +kernel
theorem dX4_run_411 : decode cX4_run 411 = .ok (.ireturn, 1) := by decide +kernel
theorem dX4_run_412 : decode cX4_run 412 = .ok (.aload_n 0, 1) := by decide +kernel
theorem dX4_run_413 : decode cX4_run 413 = .ok (.bipush 10, 2) := by decide +kernel
theorem dX4_run_415 : decode cX4_run 415 = .ok (.iload_n 2, 1) := by decide +kernel
theorem dX4_run_416 : decode cX4_run 416 = .ok (.iload 4, 2) := by decide +kernel
theorem dX4_run_418 : decode cX4_run 418 = .ok (.invokestatic 39, 3) := by decide +kernel
theorem dX4_run_421 : decode cX4_run 421 = .ok (.iconst 1, 1) := by decide +kernel
theorem dX4_run_422 : decode cX4_run 422 = .ok (.iadd, 1) := by decide +kernel
theorem dX4_run_423 : decode cX4_run 423 = .ok (.ireturn, 1) := by decide +kernel
theorem dX4_run_424 : decode cX4_run 424 = .ok (.bipush 100, 2) := by decide +kernel
theorem dX4_run_426 : decode cX4_run 426 = .ok (.aload_n 0, 1) := by decide +kernel
theorem dX4_run_427 : decode cX4_run 427 = .ok (.bipush 13, 2) := by decide +kernel
theorem dX4_run_429 : decode cX4_run 429 = .ok (.iload_n 2, 1) := by decide +kernel
theorem dX4_run_430 : decode cX4_run 430 = .ok (.iload 4, 2) := by decide +kernel
theorem dX4_run_432 : decode cX4_run 432 = .ok (.invokestatic 39, 3) := by decide +kernel
theorem dX4_run_435 : decode cX4_run 435 = .ok (.isub, 1) := by decide +kernel
theorem dX4_run_436 : decode cX4_run 436 = .ok (.ireturn, 1) := by decide +kernel
theorem dX4_run_437 : decode cX4_run 437 = .ok (.aload_n 0, 1) := by decide +kernel
theorem dX4_run_438 : decode cX4_run 438 = .ok (.bipush 12, 2) := by decide +kernel
theorem dX4_run_440 : decode cX4_run 440 = .ok (.iload_n 2, 1) := by decide +kernel
theorem dX4_run_441 : decode cX4_run 441 = .ok (.iload 4, 2) := by decide +kernel
theorem dX4_run_443 : decode cX4_run 443 = .ok (.invokestatic 39, 3) := by decide +kernel
theorem dX4_run_446 : decode cX4_run 446 = .ok (.aload_n 0, 1) := by decide +kernel
theorem dX4_run_447 : decode cX4_run 447 = .ok (.aload_n 0, 1) := by decide +kernel
theorem dX4_run_448 : decode cX4_run 448 = .ok (.iconst 0, 1) := by decide +kernel
theorem dX4_run_449 : decode cX4_run 449 = .ok (.invokevirtual 35, 3) := by decide +kernel
theorem dX4_run_452 : decode cX4_run 452 = .ok (.aload_n 0, 1) := by decide +kernel
theorem dX4_run_453 : decode cX4_run 453 = .ok (.getfield 26, 3) := by decide +kernel
theorem dX4_run_456 : decode cX4_run 456 = .ok (.iload 4, 2) := by decide +kernel
theorem dX4_run_458 : decode cX4_run 458 = .ok (.invokestatic 39, 3) := by decide +kernel
theorem dX4_run_461 : decode cX4_run 461 = .ok (.isub, 1) := by decide +kernel
theorem dX4_run_462 : decode cX4_run 462 = .ok (.ireturn, 1) := by decide +kernel
theorem dX4_run_463 : decode cX4_run 463 = .ok (.iconst 0, 1) := by decide +kernel
theorem dX4_run_464 : decode cX4_run 464 = .ok (.ireturn, 1) := by decide +kernel
def p_X4_run : Nat → tF → tA → Int32 → Int32 → Int32 → (Int32 → tF → tA → Prop) → Prop
  | 0, _, _, _, _, _, _ => False
  | n0 + 1, F0, A0, x1, x2, x3, K => ((¬ (F0 2) = 0 → (K (0 : Int32) F0 A0)) ∧ ((F0 2) = 0 → ((x3 ≤ (40 : Int32) → (p_X4_writeDown F0 A0 x1 (fun F0_17 A0_17 => (∀ y23 : Int32, y23 = (x3 + (1 : Int32)) → ((x1 = (10 : Int32) → (K ((x2 * (2 : Int32)) - (F0_17 4)) F0_17 A0_17)) ∧ (x1 = (11 : Int32) → (p_X4_bodyOf F0_17 A0_17 (0 : Int32) (fun r260 => (p_X4_run n0 F0_17 A0_17 r260 x2 y23 (fun r266 F0_266 A0_266 => (K (r266 + (F0_266 5)) F0_266 A0_266)))))) ∧ (x1 = (12 : Int32) → (p_X4_quotient F0_17 A0_17 x2 ((F0_17 5) - (F0_17 4)) (fun r286 F0_286 A0_286 => (K r286 F0_286 A0_286)))) ∧ (x1 = (13 : Int32) → (p_X4_bodyOf F0_17 A0_17 (1 : Int32) (fun r293 => (p_X4_run n0 F0_17 A0_17 r293 x2 y23 (fun r299 F0_299 A0_299 => (K (r299 ^^^ (6 : Int32)) F0_299 A0_299)))))) ∧ (x1 = (20 : Int32) → (p_X4_run n0 F0_17 A0_17 (11 : Int32) x2 y23 (fun r312 F0_312 A0_312 => (K (r312 - (4 : Int32)) F0_312 A0_312)))) ∧ (x1 = (30 : Int32) → (p_X4_run n0 F0_17 A0_17 (10 : Int32) x2 y23 (fun r325 F0_325 A0_325 => (K ((0 : Int32) - r325) F0_325 A0_325)))) ∧ (x1 = (31 : Int32) → (p_X4_run n0 F0_17 A0_17 (13 : Int32) x2 y23 (fun r336 F0_336 A0_336 => (p_X4_bodyOf F0_336 A0_336 (2 : Int32) (fun r342 => (p_X4_run n0 F0_336 A0_336 r342 (F0_336 4) y23 (fun r351 F0_351 A0_351 => (K (r336 + r351) F0_351 A0_351)))))))) ∧ (x1 = (40 : Int32) → (p_X4_run n0 F0_17 A0_17 (30 : Int32) x2 y23 (fun r362 F0_362 A0_362 => (K (r362 * (3 : Int32)) F0_362 A0_362)))) ∧ (x1 = (41 : Int32) → (p_X4_run n0 F0_17 A0_17 (11 : Int32) x2 y23 (fun r374 F0_374 A0_374 => (p_X4_bodyOf F0_374 A0_374 (0 : Int32) (fun r380 => (p_X4_run n0 F0_374 A0_374 r380 (F0_374 5) y23 (fun r389 F0_389 A0_389 => (K (r374 ^^^ r389) F0_389 A0_389)))))))) ∧ (x1 = (50 : Int32) → (p_X4_run n0 F0_17 A0_17 (12 : Int32) (x2 - (7 : Int32)) y23 (fun r403 F0_403 A0_403 => (K (r403 + (F0_403 5)) F0_403 A0_403)))) ∧ (x1 = (51 : Int32) → (p_X4_run n0 F0_17 A0_17 (10 : Int32) x2 y23 (fun r418 F0_418 A0_418 => (K (r418 + (1 : Int32)) F0_418 A0_418)))) ∧ (x1 = (60 : Int32) → (p_X4_run n0 F0_17 A0_17 (13 : Int32) x2 y23 (fun r432 F0_432 A0_432 => (K ((100 : Int32) - r432) F0_432 A0_432)))) ∧ (x1 = (61 : Int32) → (p_X4_run n0 F0_17 A0_17 (12 : Int32) x2 y23 (fun r443 F0_443 A0_443 => (p_X4_bodyOf F0_443 A0_443 (0 : Int32) (fun r449 => (p_X4_run n0 F0_443 A0_443 r449 (F0_443 4) y23 (fun r458 F0_458 A0_458 => (K (r443 - r458) F0_458 A0_458)))))))) ∧ (¬ x1 = (10 : Int32) → ¬ x1 = (11 : Int32) → ¬ x1 = (12 : Int32) → ¬ x1 = (13 : Int32) → ¬ x1 = (20 : Int32) → ¬ x1 = (30 : Int32) → ¬ x1 = (31 : Int32) → ¬ x1 = (40 : Int32) → ¬ x1 = (41 : Int32) → ¬ x1 = (50 : Int32) → ¬ x1 = (51 : Int32) → ¬ x1 = (60 : Int32) → ¬ x1 = (61 : Int32) → (K (0 : Int32) F0_17 A0_17))))))) ∧ (¬ x3 ≤ (40 : Int32) → (K (0 : Int32) F0 A0)))))
set_option maxHeartbeats 4000000 in
set_option maxRecDepth 100000 in
theorem w_X4_run (l : Launch) (D : va_G) (cI cZ cR : ClassId) (adK adV : Nat → Nat) : ∀ (n0 : Nat) (sz : Nat) (o0 : Nat) (q0 : Nat → Nat) (F0 : tF) (A0 : tA) (x1 : Int32) (x2 : Int32) (x3 : Int32) (K : Int32 → tF → tA → Prop) (h : p_X4_run n0 F0 A0 x1 x2 x3 K), MI l D cI cZ cR adK adV yX4_run cX4_run 5 (some .int) (rmN (2 + n0) (41 + n0 * 24)) [.ref o0, .int x1, .int x2, .int x3] (wX4 cI cZ o0 q0 F0 A0 : va_W) sz (fun (r : Int32) (u : (tF × tA)) => K r u.1 u.2) (fun (u : (tF × tA)) => (wX4 cI cZ o0 q0 u.1 u.2 : va_W)) := by
  intro n0
  induction n0 with
  | zero => intro sz o0 q0 F0 A0 x1 x2 x3 K h; exact False.elim h
  | succ n0 ih =>
    intro sz o0 q0 F0 A0 x1 x2 x3 K h
    refine M_i (by decide +kernel) (Nat.le_of_ble_eq_true rfl) ?_
    intro p e s m args below meth c Q A9 ls X ret hP hD hS hl
    obtain ⟨hx, hb, hml, ht, hown, hK, hA, hE⟩ := id X
    have hl : lv_has ls 5 [(0, .ref o0), (1, .int x1), (2, .int x2), (3, .int x3)] := hl
    rw [p_X4_run] at h
    refine lv_aload_n hx hb dX4_run_0 rfl (lv_at hl 0 rfl) ?_
    refine va_get (C := RX4) (T := TX4) (N := 6) (own := RX4) (v := .int (F0 2)) hx hb ht inlX4 hown hK hP 0 rfl rfl 2 (Nat.le_of_ble_eq_true rfl) (ht _ mw_4_23) (fun _ h9 => h9) rfl dX4_run_1 ?_
    refine lv_if_ne (tgt := 13) hx hb dX4_run_4 (by decide) (fun c4 => ?_) (fun c4 => ?_)
    · replace h := h.1 c4
      refine lv_iconst (v := 0) hx hb dX4_run_13 (by decide) ?_
      exact ret _ (F0, A0) _ _ _ _ dX4_run_14 h hP hD hS
    · replace h := h.2 c4
      refine lv_iload_n hx hb dX4_run_7 rfl (lv_at hl 3 rfl) ?_
      refine lv_bipush (v := 40) hx hb dX4_run_8 (by decide) ?_
      refine lv_icmp_le (tgt := 15) hx hb dX4_run_10 (by decide) (fun c10 => ?_) (fun c10 => ?_)
      · replace h := h.1 c10
        refine lv_aload_n hx hb dX4_run_15 rfl (lv_at hl 0 rfl) ?_
        refine lv_iload_n hx hb dX4_run_16 rfl (lv_at hl 1 rfl) ?_
        refine C_vv (wr := []) X hP hD hS [.int x1] [] (w_X4_writeDown l D cI cZ cR adK adV _ o0 q0 F0 A0 x1 _ h) cal_X4_writeDown mw_47_21 rfl [0, 1] [] [0, 1] (fun u => (wX4 cI cZ o0 q0 u.1 u.2 : va_W)) rfl rfl (fun _ => rfl) rfl 0 rfl rfl ⟨rfl, rfl⟩ ⟨by show 0 + 1 ≤ 2 + (n0 + 1); omega, by show 8 + (2 + 11) + 0 ≤ 41 + (n0 + 1) * 24; omega⟩ hl.1 rfl (Nat.le_of_ble_eq_true rfl) ⟨Nat.zero_le _, Nat.zero_le _⟩ dX4_run_17 (fun u H locs h hP hD hS => ?_)
        obtain ⟨F0_17, A0_17⟩ := u
        try dsimp only at h
        have hP : va_P D vwCl (wX4 cI cZ o0 q0 F0_17 A0_17 : va_W) H := hP
        have hD : va_D A9 (wX4 cI cZ o0 q0 F0_17 A0_17 : va_W) := hD
        refine lv_iload_n hx hb dX4_run_20 rfl (lv_at hl 3 rfl) ?_
        refine lv_iconst (v := 1) hx hb dX4_run_21 (by decide) ?_
        refine lv_iadd hx hb dX4_run_22 ?_
        refine lv_topi (fun y23 ey23 => ?_)
        replace h := h y23 ey23
        refine lv_istore (lv' := [(4, .int y23), (0, .ref o0), (1, .int x1), (2, .int x2), (3, .int x3)]) hx hb dX4_run_23 hl (by decide) rfl (fun ls hl => ?_)
        refine lv_iload_n hx hb dX4_run_25 rfl (lv_at hl 2 rfl) ?_
        by_cases c26_10 : x1 = (10 : Int32)
        · replace h := h.1 c26_10
          refine lv_tableIn (tgt := 248) hx hb dX4_run_26 (by rw [c26_10]; decide) (by rw [c26_10]; decide) (by rw [c26_10]; rfl) (by decide) ?_
          refine lv_iload_n hx hb dX4_run_248 rfl (lv_at hl 3 rfl) ?_
          refine lv_iconst (v := 2) hx hb dX4_run_249 (by decide) ?_
          refine lv_imul hx hb dX4_run_250 ?_
          refine lv_aload_n hx hb dX4_run_251 rfl (lv_at hl 1 rfl) ?_
          refine va_get (C := RX4) (T := TX4) (N := 6) (own := RX4) (v := .int (F0_17 4)) hx hb ht inlX4 hown hK hP 0 rfl rfl 4 (Nat.le_of_ble_eq_true rfl) (ht _ mw_5_1) (fun _ h9 => h9) rfl dX4_run_252 ?_
          refine lv_isub hx hb dX4_run_255 ?_
          exact ret _ (F0_17, A0_17) _ _ _ _ dX4_run_256 h hP hD hS
        by_cases c26_11 : x1 = (11 : Int32)
        · replace h := h.2.1 c26_11
          refine lv_tableIn (tgt := 257) hx hb dX4_run_26 (by rw [c26_11]; decide) (by rw [c26_11]; decide) (by rw [c26_11]; rfl) (by decide) ?_
          refine lv_aload_n hx hb dX4_run_257 rfl (lv_at hl 1 rfl) ?_
          refine lv_aload_n hx hb dX4_run_258 rfl (lv_at hl 1 rfl) ?_
          refine lv_iconst (v := 0) hx hb dX4_run_259 (by decide) ?_
          refine C_vi (wr := []) X hP hD hS [.int (0 : Int32)] [.ref o0] (w_X4_bodyOf l D cI cZ cR adK adV _ o0 q0 F0_17 A0_17 (0 : Int32) _ h) cal_X4_bodyOf mw_47_2 rfl [0, 1] [] [0, 1] (fun u => (wX4 cI cZ o0 q0 F0_17 A0_17 : va_W)) rfl rfl (fun _ => rfl) rfl 0 rfl rfl ⟨rfl, rfl⟩ ⟨by show 1 + 1 ≤ 2 + (n0 + 1); omega, by show 8 + (2 + 11) + 20 ≤ 41 + (n0 + 1) * 24; omega⟩ hl.1 rfl (Nat.le_of_ble_eq_true rfl) ⟨Nat.zero_le _, Nat.zero_le _⟩ dX4_run_260 (fun r260 u H locs h hP hD hS => ?_)
          refine lv_iload_n hx hb dX4_run_263 rfl (lv_at hl 3 rfl) ?_
          refine lv_iload hx hb dX4_run_264 (lv_at hl 0 rfl) ?_
          refine C_si (wr := []) X hP hD hS [.ref o0, .int r260, .int x2, .int y23] [] (ih _ o0 q0 F0_17 A0_17 r260 x2 y23 _ h) cal_X4_run mw_47_18 rfl [0, 1] [] [0, 1] (fun u => (wX4 cI cZ o0 q0 u.1 u.2 : va_W)) rfl rfl (fun _ => rfl) rfl ⟨rfl, rfl⟩ ⟨by show 2 + n0 + 1 ≤ 2 + (n0 + 1); omega, by show 8 + (5 + 11) + (41 + n0 * 24) ≤ 41 + (n0 + 1) * 24; omega⟩ hl.1 rfl (Nat.le_of_ble_eq_true rfl) ⟨Nat.zero_le _, Nat.zero_le _⟩ dX4_run_266 (fun r266 u H locs h hP hD hS => ?_)
          obtain ⟨F0_266, A0_266⟩ := u
          try dsimp only at h
          have hP : va_P D vwCl (wX4 cI cZ o0 q0 F0_266 A0_266 : va_W) H := hP
          have hD : va_D A9 (wX4 cI cZ o0 q0 F0_266 A0_266 : va_W) := hD
          refine lv_aload_n hx hb dX4_run_269 rfl (lv_at hl 1 rfl) ?_
          refine va_get (C := RX4) (T := TX4) (N := 6) (own := RX4) (v := .int (F0_266 5)) hx hb ht inlX4 hown hK hP 0 rfl rfl 5 (Nat.le_of_ble_eq_true rfl) (ht _ mw_5_2) (fun _ h9 => h9) rfl dX4_run_270 ?_
          refine lv_iadd hx hb dX4_run_273 ?_
          exact ret _ (F0_266, A0_266) _ _ _ _ dX4_run_274 h hP hD hS
        by_cases c26_12 : x1 = (12 : Int32)
        · replace h := h.2.2.1 c26_12
          refine lv_tableIn (tgt := 275) hx hb dX4_run_26 (by rw [c26_12]; decide) (by rw [c26_12]; decide) (by rw [c26_12]; rfl) (by decide) ?_
          refine lv_aload_n hx hb dX4_run_275 rfl (lv_at hl 1 rfl) ?_
          refine lv_iload_n hx hb dX4_run_276 rfl (lv_at hl 3 rfl) ?_
          refine lv_aload_n hx hb dX4_run_277 rfl (lv_at hl 1 rfl) ?_
          refine va_get (C := RX4) (T := TX4) (N := 6) (own := RX4) (v := .int (F0_17 5)) hx hb ht inlX4 hown hK hP 0 rfl rfl 5 (Nat.le_of_ble_eq_true rfl) (ht _ mw_5_2) (fun _ h9 => h9) rfl dX4_run_278 ?_
          refine lv_aload_n hx hb dX4_run_281 rfl (lv_at hl 1 rfl) ?_
          refine va_get (C := RX4) (T := TX4) (N := 6) (own := RX4) (v := .int (F0_17 4)) hx hb ht inlX4 hown hK hP 0 rfl rfl 4 (Nat.le_of_ble_eq_true rfl) (ht _ mw_5_1) (fun _ h9 => h9) rfl dX4_run_282 ?_
          refine lv_isub hx hb dX4_run_285 ?_
          refine C_vi (wr := []) X hP hD hS [.int x2, .int ((F0_17 5) - (F0_17 4))] [] (w_X4_quotient l D cI cZ cR adK adV _ o0 q0 F0_17 A0_17 x2 ((F0_17 5) - (F0_17 4)) _ h) cal_X4_quotient mw_48_1 rfl [0, 1] [] [0, 1] (fun u => (wX4 cI cZ o0 q0 u.1 u.2 : va_W)) rfl rfl (fun _ => rfl) rfl 0 rfl rfl ⟨rfl, rfl⟩ ⟨by show 0 + 1 ≤ 2 + (n0 + 1); omega, by show 8 + (3 + 11) + 0 ≤ 41 + (n0 + 1) * 24; omega⟩ hl.1 rfl (Nat.le_of_ble_eq_true rfl) ⟨Nat.zero_le _, Nat.zero_le _⟩ dX4_run_286 (fun r286 u H locs h hP hD hS => ?_)
          obtain ⟨F0_286, A0_286⟩ := u
          try dsimp only at h
          have hP : va_P D vwCl (wX4 cI cZ o0 q0 F0_286 A0_286 : va_W) H := hP
          have hD : va_D A9 (wX4 cI cZ o0 q0 F0_286 A0_286 : va_W) := hD
          exact ret _ (F0_286, A0_286) _ _ _ _ dX4_run_289 h hP hD hS
        by_cases c26_13 : x1 = (13 : Int32)
        · replace h := h.2.2.2.1 c26_13
          refine lv_tableIn (tgt := 290) hx hb dX4_run_26 (by rw [c26_13]; decide) (by rw [c26_13]; decide) (by rw [c26_13]; rfl) (by decide) ?_
          refine lv_aload_n hx hb dX4_run_290 rfl (lv_at hl 1 rfl) ?_
          refine lv_aload_n hx hb dX4_run_291 rfl (lv_at hl 1 rfl) ?_
          refine lv_iconst (v := 1) hx hb dX4_run_292 (by decide) ?_
          refine C_vi (wr := []) X hP hD hS [.int (1 : Int32)] [.ref o0] (w_X4_bodyOf l D cI cZ cR adK adV _ o0 q0 F0_17 A0_17 (1 : Int32) _ h) cal_X4_bodyOf mw_47_2 rfl [0, 1] [] [0, 1] (fun u => (wX4 cI cZ o0 q0 F0_17 A0_17 : va_W)) rfl rfl (fun _ => rfl) rfl 0 rfl rfl ⟨rfl, rfl⟩ ⟨by show 1 + 1 ≤ 2 + (n0 + 1); omega, by show 8 + (2 + 11) + 20 ≤ 41 + (n0 + 1) * 24; omega⟩ hl.1 rfl (Nat.le_of_ble_eq_true rfl) ⟨Nat.zero_le _, Nat.zero_le _⟩ dX4_run_293 (fun r293 u H locs h hP hD hS => ?_)
          refine lv_iload_n hx hb dX4_run_296 rfl (lv_at hl 3 rfl) ?_
          refine lv_iload hx hb dX4_run_297 (lv_at hl 0 rfl) ?_
          refine C_si (wr := []) X hP hD hS [.ref o0, .int r293, .int x2, .int y23] [] (ih _ o0 q0 F0_17 A0_17 r293 x2 y23 _ h) cal_X4_run mw_47_18 rfl [0, 1] [] [0, 1] (fun u => (wX4 cI cZ o0 q0 u.1 u.2 : va_W)) rfl rfl (fun _ => rfl) rfl ⟨rfl, rfl⟩ ⟨by show 2 + n0 + 1 ≤ 2 + (n0 + 1); omega, by show 8 + (5 + 11) + (41 + n0 * 24) ≤ 41 + (n0 + 1) * 24; omega⟩ hl.1 rfl (Nat.le_of_ble_eq_true rfl) ⟨Nat.zero_le _, Nat.zero_le _⟩ dX4_run_299 (fun r299 u H locs h hP hD hS => ?_)
          obtain ⟨F0_299, A0_299⟩ := u
          try dsimp only at h
          have hP : va_P D vwCl (wX4 cI cZ o0 q0 F0_299 A0_299 : va_W) H := hP
          have hD : va_D A9 (wX4 cI cZ o0 q0 F0_299 A0_299 : va_W) := hD
          refine lv_bipush (v := 6) hx hb dX4_run_302 (by decide) ?_
          refine lv_ixor hx hb dX4_run_304 ?_
          exact ret _ (F0_299, A0_299) _ _ _ _ dX4_run_305 h hP hD hS
        by_cases c26_20 : x1 = (20 : Int32)
        · replace h := h.2.2.2.2.1 c26_20
          refine lv_tableIn (tgt := 306) hx hb dX4_run_26 (by rw [c26_20]; decide) (by rw [c26_20]; decide) (by rw [c26_20]; rfl) (by decide) ?_
          refine lv_aload_n hx hb dX4_run_306 rfl (lv_at hl 1 rfl) ?_
          refine lv_bipush (v := 11) hx hb dX4_run_307 (by decide) ?_
          refine lv_iload_n hx hb dX4_run_309 rfl (lv_at hl 3 rfl) ?_
          refine lv_iload hx hb dX4_run_310 (lv_at hl 0 rfl) ?_
          refine C_si (wr := []) X hP hD hS [.ref o0, .int (11 : Int32), .int x2, .int y23] [] (ih _ o0 q0 F0_17 A0_17 (11 : Int32) x2 y23 _ h) cal_X4_run mw_47_18 rfl [0, 1] [] [0, 1] (fun u => (wX4 cI cZ o0 q0 u.1 u.2 : va_W)) rfl rfl (fun _ => rfl) rfl ⟨rfl, rfl⟩ ⟨by show 2 + n0 + 1 ≤ 2 + (n0 + 1); omega, by show 8 + (5 + 11) + (41 + n0 * 24) ≤ 41 + (n0 + 1) * 24; omega⟩ hl.1 rfl (Nat.le_of_ble_eq_true rfl) ⟨Nat.zero_le _, Nat.zero_le _⟩ dX4_run_312 (fun r312 u H locs h hP hD hS => ?_)
          obtain ⟨F0_312, A0_312⟩ := u
          try dsimp only at h
          have hP : va_P D vwCl (wX4 cI cZ o0 q0 F0_312 A0_312 : va_W) H := hP
          have hD : va_D A9 (wX4 cI cZ o0 q0 F0_312 A0_312 : va_W) := hD
          refine lv_iconst (v := 4) hx hb dX4_run_315 (by decide) ?_
          refine lv_isub hx hb dX4_run_316 ?_
          exact ret _ (F0_312, A0_312) _ _ _ _ dX4_run_317 h hP hD hS
        by_cases c26_30 : x1 = (30 : Int32)
        · replace h := h.2.2.2.2.2.1 c26_30
          refine lv_tableIn (tgt := 318) hx hb dX4_run_26 (by rw [c26_30]; decide) (by rw [c26_30]; decide) (by rw [c26_30]; rfl) (by decide) ?_
          refine lv_iconst (v := 0) hx hb dX4_run_318 (by decide) ?_
          refine lv_aload_n hx hb dX4_run_319 rfl (lv_at hl 1 rfl) ?_
          refine lv_bipush (v := 10) hx hb dX4_run_320 (by decide) ?_
          refine lv_iload_n hx hb dX4_run_322 rfl (lv_at hl 3 rfl) ?_
          refine lv_iload hx hb dX4_run_323 (lv_at hl 0 rfl) ?_
          refine C_si (wr := []) X hP hD hS [.ref o0, .int (10 : Int32), .int x2, .int y23] [.int (0 : Int32)] (ih _ o0 q0 F0_17 A0_17 (10 : Int32) x2 y23 _ h) cal_X4_run mw_47_18 rfl [0, 1] [] [0, 1] (fun u => (wX4 cI cZ o0 q0 u.1 u.2 : va_W)) rfl rfl (fun _ => rfl) rfl ⟨rfl, rfl⟩ ⟨by show 2 + n0 + 1 ≤ 2 + (n0 + 1); omega, by show 8 + (5 + 11) + (41 + n0 * 24) ≤ 41 + (n0 + 1) * 24; omega⟩ hl.1 rfl (Nat.le_of_ble_eq_true rfl) ⟨Nat.zero_le _, Nat.zero_le _⟩ dX4_run_325 (fun r325 u H locs h hP hD hS => ?_)
          obtain ⟨F0_325, A0_325⟩ := u
          try dsimp only at h
          have hP : va_P D vwCl (wX4 cI cZ o0 q0 F0_325 A0_325 : va_W) H := hP
          have hD : va_D A9 (wX4 cI cZ o0 q0 F0_325 A0_325 : va_W) := hD
          refine lv_isub hx hb dX4_run_328 ?_
          exact ret _ (F0_325, A0_325) _ _ _ _ dX4_run_329 h hP hD hS
        by_cases c26_31 : x1 = (31 : Int32)
        · replace h := h.2.2.2.2.2.2.1 c26_31
          refine lv_tableIn (tgt := 330) hx hb dX4_run_26 (by rw [c26_31]; decide) (by rw [c26_31]; decide) (by rw [c26_31]; rfl) (by decide) ?_
          refine lv_aload_n hx hb dX4_run_330 rfl (lv_at hl 1 rfl) ?_
          refine lv_bipush (v := 13) hx hb dX4_run_331 (by decide) ?_
          refine lv_iload_n hx hb dX4_run_333 rfl (lv_at hl 3 rfl) ?_
          refine lv_iload hx hb dX4_run_334 (lv_at hl 0 rfl) ?_
          refine C_si (wr := []) X hP hD hS [.ref o0, .int (13 : Int32), .int x2, .int y23] [] (ih _ o0 q0 F0_17 A0_17 (13 : Int32) x2 y23 _ h) cal_X4_run mw_47_18 rfl [0, 1] [] [0, 1] (fun u => (wX4 cI cZ o0 q0 u.1 u.2 : va_W)) rfl rfl (fun _ => rfl) rfl ⟨rfl, rfl⟩ ⟨by show 2 + n0 + 1 ≤ 2 + (n0 + 1); omega, by show 8 + (5 + 11) + (41 + n0 * 24) ≤ 41 + (n0 + 1) * 24; omega⟩ hl.1 rfl (Nat.le_of_ble_eq_true rfl) ⟨Nat.zero_le _, Nat.zero_le _⟩ dX4_run_336 (fun r336 u H locs h hP hD hS => ?_)
          obtain ⟨F0_336, A0_336⟩ := u
          try dsimp only at h
          have hP : va_P D vwCl (wX4 cI cZ o0 q0 F0_336 A0_336 : va_W) H := hP
          have hD : va_D A9 (wX4 cI cZ o0 q0 F0_336 A0_336 : va_W) := hD
          refine lv_aload_n hx hb dX4_run_339 rfl (lv_at hl 1 rfl) ?_
          refine lv_aload_n hx hb dX4_run_340 rfl (lv_at hl 1 rfl) ?_
          refine lv_iconst (v := 2) hx hb dX4_run_341 (by decide) ?_
          refine C_vi (wr := []) X hP hD hS [.int (2 : Int32)] [.ref o0, .int r336] (w_X4_bodyOf l D cI cZ cR adK adV _ o0 q0 F0_336 A0_336 (2 : Int32) _ h) cal_X4_bodyOf mw_47_2 rfl [0, 1] [] [0, 1] (fun u => (wX4 cI cZ o0 q0 F0_336 A0_336 : va_W)) rfl rfl (fun _ => rfl) rfl 0 rfl rfl ⟨rfl, rfl⟩ ⟨by show 1 + 1 ≤ 2 + (n0 + 1); omega, by show 8 + (2 + 11) + 20 ≤ 41 + (n0 + 1) * 24; omega⟩ hl.1 rfl (Nat.le_of_ble_eq_true rfl) ⟨Nat.zero_le _, Nat.zero_le _⟩ dX4_run_342 (fun r342 u H locs h hP hD hS => ?_)
          refine lv_aload_n hx hb dX4_run_345 rfl (lv_at hl 1 rfl) ?_
          refine va_get (C := RX4) (T := TX4) (N := 6) (own := RX4) (v := .int (F0_336 4)) hx hb ht inlX4 hown hK hP 0 rfl rfl 4 (Nat.le_of_ble_eq_true rfl) (ht _ mw_5_1) (fun _ h9 => h9) rfl dX4_run_346 ?_
          refine lv_iload hx hb dX4_run_349 (lv_at hl 0 rfl) ?_
          refine C_si (wr := []) X hP hD hS [.ref o0, .int r342, .int (F0_336 4), .int y23] [.int r336] (ih _ o0 q0 F0_336 A0_336 r342 (F0_336 4) y23 _ h) cal_X4_run mw_47_18 rfl [0, 1] [] [0, 1] (fun u => (wX4 cI cZ o0 q0 u.1 u.2 : va_W)) rfl rfl (fun _ => rfl) rfl ⟨rfl, rfl⟩ ⟨by show 2 + n0 + 1 ≤ 2 + (n0 + 1); omega, by show 8 + (5 + 11) + (41 + n0 * 24) ≤ 41 + (n0 + 1) * 24; omega⟩ hl.1 rfl (Nat.le_of_ble_eq_true rfl) ⟨Nat.zero_le _, Nat.zero_le _⟩ dX4_run_351 (fun r351 u H locs h hP hD hS => ?_)
          obtain ⟨F0_351, A0_351⟩ := u
          try dsimp only at h
          have hP : va_P D vwCl (wX4 cI cZ o0 q0 F0_351 A0_351 : va_W) H := hP
          have hD : va_D A9 (wX4 cI cZ o0 q0 F0_351 A0_351 : va_W) := hD
          refine lv_iadd hx hb dX4_run_354 ?_
          exact ret _ (F0_351, A0_351) _ _ _ _ dX4_run_355 h hP hD hS
        by_cases c26_40 : x1 = (40 : Int32)
        · replace h := h.2.2.2.2.2.2.2.1 c26_40
          refine lv_tableIn (tgt := 356) hx hb dX4_run_26 (by rw [c26_40]; decide) (by rw [c26_40]; decide) (by rw [c26_40]; rfl) (by decide) ?_
          refine lv_aload_n hx hb dX4_run_356 rfl (lv_at hl 1 rfl) ?_
          refine lv_bipush (v := 30) hx hb dX4_run_357 (by decide) ?_
          refine lv_iload_n hx hb dX4_run_359 rfl (lv_at hl 3 rfl) ?_
          refine lv_iload hx hb dX4_run_360 (lv_at hl 0 rfl) ?_
          refine C_si (wr := []) X hP hD hS [.ref o0, .int (30 : Int32), .int x2, .int y23] [] (ih _ o0 q0 F0_17 A0_17 (30 : Int32) x2 y23 _ h) cal_X4_run mw_47_18 rfl [0, 1] [] [0, 1] (fun u => (wX4 cI cZ o0 q0 u.1 u.2 : va_W)) rfl rfl (fun _ => rfl) rfl ⟨rfl, rfl⟩ ⟨by show 2 + n0 + 1 ≤ 2 + (n0 + 1); omega, by show 8 + (5 + 11) + (41 + n0 * 24) ≤ 41 + (n0 + 1) * 24; omega⟩ hl.1 rfl (Nat.le_of_ble_eq_true rfl) ⟨Nat.zero_le _, Nat.zero_le _⟩ dX4_run_362 (fun r362 u H locs h hP hD hS => ?_)
          obtain ⟨F0_362, A0_362⟩ := u
          try dsimp only at h
          have hP : va_P D vwCl (wX4 cI cZ o0 q0 F0_362 A0_362 : va_W) H := hP
          have hD : va_D A9 (wX4 cI cZ o0 q0 F0_362 A0_362 : va_W) := hD
          refine lv_iconst (v := 3) hx hb dX4_run_365 (by decide) ?_
          refine lv_imul hx hb dX4_run_366 ?_
          exact ret _ (F0_362, A0_362) _ _ _ _ dX4_run_367 h hP hD hS
        by_cases c26_41 : x1 = (41 : Int32)
        · replace h := h.2.2.2.2.2.2.2.2.1 c26_41
          refine lv_tableIn (tgt := 368) hx hb dX4_run_26 (by rw [c26_41]; decide) (by rw [c26_41]; decide) (by rw [c26_41]; rfl) (by decide) ?_
          refine lv_aload_n hx hb dX4_run_368 rfl (lv_at hl 1 rfl) ?_
          refine lv_bipush (v := 11) hx hb dX4_run_369 (by decide) ?_
          refine lv_iload_n hx hb dX4_run_371 rfl (lv_at hl 3 rfl) ?_
          refine lv_iload hx hb dX4_run_372 (lv_at hl 0 rfl) ?_
          refine C_si (wr := []) X hP hD hS [.ref o0, .int (11 : Int32), .int x2, .int y23] [] (ih _ o0 q0 F0_17 A0_17 (11 : Int32) x2 y23 _ h) cal_X4_run mw_47_18 rfl [0, 1] [] [0, 1] (fun u => (wX4 cI cZ o0 q0 u.1 u.2 : va_W)) rfl rfl (fun _ => rfl) rfl ⟨rfl, rfl⟩ ⟨by show 2 + n0 + 1 ≤ 2 + (n0 + 1); omega, by show 8 + (5 + 11) + (41 + n0 * 24) ≤ 41 + (n0 + 1) * 24; omega⟩ hl.1 rfl (Nat.le_of_ble_eq_true rfl) ⟨Nat.zero_le _, Nat.zero_le _⟩ dX4_run_374 (fun r374 u H locs h hP hD hS => ?_)
          obtain ⟨F0_374, A0_374⟩ := u
          try dsimp only at h
          have hP : va_P D vwCl (wX4 cI cZ o0 q0 F0_374 A0_374 : va_W) H := hP
          have hD : va_D A9 (wX4 cI cZ o0 q0 F0_374 A0_374 : va_W) := hD
          refine lv_aload_n hx hb dX4_run_377 rfl (lv_at hl 1 rfl) ?_
          refine lv_aload_n hx hb dX4_run_378 rfl (lv_at hl 1 rfl) ?_
          refine lv_iconst (v := 0) hx hb dX4_run_379 (by decide) ?_
          refine C_vi (wr := []) X hP hD hS [.int (0 : Int32)] [.ref o0, .int r374] (w_X4_bodyOf l D cI cZ cR adK adV _ o0 q0 F0_374 A0_374 (0 : Int32) _ h) cal_X4_bodyOf mw_47_2 rfl [0, 1] [] [0, 1] (fun u => (wX4 cI cZ o0 q0 F0_374 A0_374 : va_W)) rfl rfl (fun _ => rfl) rfl 0 rfl rfl ⟨rfl, rfl⟩ ⟨by show 1 + 1 ≤ 2 + (n0 + 1); omega, by show 8 + (2 + 11) + 20 ≤ 41 + (n0 + 1) * 24; omega⟩ hl.1 rfl (Nat.le_of_ble_eq_true rfl) ⟨Nat.zero_le _, Nat.zero_le _⟩ dX4_run_380 (fun r380 u H locs h hP hD hS => ?_)
          refine lv_aload_n hx hb dX4_run_383 rfl (lv_at hl 1 rfl) ?_
          refine va_get (C := RX4) (T := TX4) (N := 6) (own := RX4) (v := .int (F0_374 5)) hx hb ht inlX4 hown hK hP 0 rfl rfl 5 (Nat.le_of_ble_eq_true rfl) (ht _ mw_5_2) (fun _ h9 => h9) rfl dX4_run_384 ?_
          refine lv_iload hx hb dX4_run_387 (lv_at hl 0 rfl) ?_
          refine C_si (wr := []) X hP hD hS [.ref o0, .int r380, .int (F0_374 5), .int y23] [.int r374] (ih _ o0 q0 F0_374 A0_374 r380 (F0_374 5) y23 _ h) cal_X4_run mw_47_18 rfl [0, 1] [] [0, 1] (fun u => (wX4 cI cZ o0 q0 u.1 u.2 : va_W)) rfl rfl (fun _ => rfl) rfl ⟨rfl, rfl⟩ ⟨by show 2 + n0 + 1 ≤ 2 + (n0 + 1); omega, by show 8 + (5 + 11) + (41 + n0 * 24) ≤ 41 + (n0 + 1) * 24; omega⟩ hl.1 rfl (Nat.le_of_ble_eq_true rfl) ⟨Nat.zero_le _, Nat.zero_le _⟩ dX4_run_389 (fun r389 u H locs h hP hD hS => ?_)
          obtain ⟨F0_389, A0_389⟩ := u
          try dsimp only at h
          have hP : va_P D vwCl (wX4 cI cZ o0 q0 F0_389 A0_389 : va_W) H := hP
          have hD : va_D A9 (wX4 cI cZ o0 q0 F0_389 A0_389 : va_W) := hD
          refine lv_ixor hx hb dX4_run_392 ?_
          exact ret _ (F0_389, A0_389) _ _ _ _ dX4_run_393 h hP hD hS
        by_cases c26_50 : x1 = (50 : Int32)
        · replace h := h.2.2.2.2.2.2.2.2.2.1 c26_50
          refine lv_tableIn (tgt := 394) hx hb dX4_run_26 (by rw [c26_50]; decide) (by rw [c26_50]; decide) (by rw [c26_50]; rfl) (by decide) ?_
          refine lv_aload_n hx hb dX4_run_394 rfl (lv_at hl 1 rfl) ?_
          refine lv_bipush (v := 12) hx hb dX4_run_395 (by decide) ?_
          refine lv_iload_n hx hb dX4_run_397 rfl (lv_at hl 3 rfl) ?_
          refine lv_bipush (v := 7) hx hb dX4_run_398 (by decide) ?_
          refine lv_isub hx hb dX4_run_400 ?_
          refine lv_iload hx hb dX4_run_401 (lv_at hl 0 rfl) ?_
          refine C_si (wr := []) X hP hD hS [.ref o0, .int (12 : Int32), .int (x2 - (7 : Int32)), .int y23] [] (ih _ o0 q0 F0_17 A0_17 (12 : Int32) (x2 - (7 : Int32)) y23 _ h) cal_X4_run mw_47_18 rfl [0, 1] [] [0, 1] (fun u => (wX4 cI cZ o0 q0 u.1 u.2 : va_W)) rfl rfl (fun _ => rfl) rfl ⟨rfl, rfl⟩ ⟨by show 2 + n0 + 1 ≤ 2 + (n0 + 1); omega, by show 8 + (5 + 11) + (41 + n0 * 24) ≤ 41 + (n0 + 1) * 24; omega⟩ hl.1 rfl (Nat.le_of_ble_eq_true rfl) ⟨Nat.zero_le _, Nat.zero_le _⟩ dX4_run_403 (fun r403 u H locs h hP hD hS => ?_)
          obtain ⟨F0_403, A0_403⟩ := u
          try dsimp only at h
          have hP : va_P D vwCl (wX4 cI cZ o0 q0 F0_403 A0_403 : va_W) H := hP
          have hD : va_D A9 (wX4 cI cZ o0 q0 F0_403 A0_403 : va_W) := hD
          refine lv_aload_n hx hb dX4_run_406 rfl (lv_at hl 1 rfl) ?_
          refine va_get (C := RX4) (T := TX4) (N := 6) (own := RX4) (v := .int (F0_403 5)) hx hb ht inlX4 hown hK hP 0 rfl rfl 5 (Nat.le_of_ble_eq_true rfl) (ht _ mw_5_2) (fun _ h9 => h9) rfl dX4_run_407 ?_
          refine lv_iadd hx hb dX4_run_410 ?_
          exact ret _ (F0_403, A0_403) _ _ _ _ dX4_run_411 h hP hD hS
        by_cases c26_51 : x1 = (51 : Int32)
        · replace h := h.2.2.2.2.2.2.2.2.2.2.1 c26_51
          refine lv_tableIn (tgt := 412) hx hb dX4_run_26 (by rw [c26_51]; decide) (by rw [c26_51]; decide) (by rw [c26_51]; rfl) (by decide) ?_
          refine lv_aload_n hx hb dX4_run_412 rfl (lv_at hl 1 rfl) ?_
          refine lv_bipush (v := 10) hx hb dX4_run_413 (by decide) ?_
          refine lv_iload_n hx hb dX4_run_415 rfl (lv_at hl 3 rfl) ?_
          refine lv_iload hx hb dX4_run_416 (lv_at hl 0 rfl) ?_
          refine C_si (wr := []) X hP hD hS [.ref o0, .int (10 : Int32), .int x2, .int y23] [] (ih _ o0 q0 F0_17 A0_17 (10 : Int32) x2 y23 _ h) cal_X4_run mw_47_18 rfl [0, 1] [] [0, 1] (fun u => (wX4 cI cZ o0 q0 u.1 u.2 : va_W)) rfl rfl (fun _ => rfl) rfl ⟨rfl, rfl⟩ ⟨by show 2 + n0 + 1 ≤ 2 + (n0 + 1); omega, by show 8 + (5 + 11) + (41 + n0 * 24) ≤ 41 + (n0 + 1) * 24; omega⟩ hl.1 rfl (Nat.le_of_ble_eq_true rfl) ⟨Nat.zero_le _, Nat.zero_le _⟩ dX4_run_418 (fun r418 u H locs h hP hD hS => ?_)
          obtain ⟨F0_418, A0_418⟩ := u
          try dsimp only at h
          have hP : va_P D vwCl (wX4 cI cZ o0 q0 F0_418 A0_418 : va_W) H := hP
          have hD : va_D A9 (wX4 cI cZ o0 q0 F0_418 A0_418 : va_W) := hD
          refine lv_iconst (v := 1) hx hb dX4_run_421 (by decide) ?_
          refine lv_iadd hx hb dX4_run_422 ?_
          exact ret _ (F0_418, A0_418) _ _ _ _ dX4_run_423 h hP hD hS
        by_cases c26_60 : x1 = (60 : Int32)
        · replace h := h.2.2.2.2.2.2.2.2.2.2.2.1 c26_60
          refine lv_tableIn (tgt := 424) hx hb dX4_run_26 (by rw [c26_60]; decide) (by rw [c26_60]; decide) (by rw [c26_60]; rfl) (by decide) ?_
          refine lv_bipush (v := 100) hx hb dX4_run_424 (by decide) ?_
          refine lv_aload_n hx hb dX4_run_426 rfl (lv_at hl 1 rfl) ?_
          refine lv_bipush (v := 13) hx hb dX4_run_427 (by decide) ?_
          refine lv_iload_n hx hb dX4_run_429 rfl (lv_at hl 3 rfl) ?_
          refine lv_iload hx hb dX4_run_430 (lv_at hl 0 rfl) ?_
          refine C_si (wr := []) X hP hD hS [.ref o0, .int (13 : Int32), .int x2, .int y23] [.int (100 : Int32)] (ih _ o0 q0 F0_17 A0_17 (13 : Int32) x2 y23 _ h) cal_X4_run mw_47_18 rfl [0, 1] [] [0, 1] (fun u => (wX4 cI cZ o0 q0 u.1 u.2 : va_W)) rfl rfl (fun _ => rfl) rfl ⟨rfl, rfl⟩ ⟨by show 2 + n0 + 1 ≤ 2 + (n0 + 1); omega, by show 8 + (5 + 11) + (41 + n0 * 24) ≤ 41 + (n0 + 1) * 24; omega⟩ hl.1 rfl (Nat.le_of_ble_eq_true rfl) ⟨Nat.zero_le _, Nat.zero_le _⟩ dX4_run_432 (fun r432 u H locs h hP hD hS => ?_)
          obtain ⟨F0_432, A0_432⟩ := u
          try dsimp only at h
          have hP : va_P D vwCl (wX4 cI cZ o0 q0 F0_432 A0_432 : va_W) H := hP
          have hD : va_D A9 (wX4 cI cZ o0 q0 F0_432 A0_432 : va_W) := hD
          refine lv_isub hx hb dX4_run_435 ?_
          exact ret _ (F0_432, A0_432) _ _ _ _ dX4_run_436 h hP hD hS
        by_cases c26_61 : x1 = (61 : Int32)
        · replace h := h.2.2.2.2.2.2.2.2.2.2.2.2.1 c26_61
          refine lv_tableIn (tgt := 437) hx hb dX4_run_26 (by rw [c26_61]; decide) (by rw [c26_61]; decide) (by rw [c26_61]; rfl) (by decide) ?_
          refine lv_aload_n hx hb dX4_run_437 rfl (lv_at hl 1 rfl) ?_
          refine lv_bipush (v := 12) hx hb dX4_run_438 (by decide) ?_
          refine lv_iload_n hx hb dX4_run_440 rfl (lv_at hl 3 rfl) ?_
          refine lv_iload hx hb dX4_run_441 (lv_at hl 0 rfl) ?_
          refine C_si (wr := []) X hP hD hS [.ref o0, .int (12 : Int32), .int x2, .int y23] [] (ih _ o0 q0 F0_17 A0_17 (12 : Int32) x2 y23 _ h) cal_X4_run mw_47_18 rfl [0, 1] [] [0, 1] (fun u => (wX4 cI cZ o0 q0 u.1 u.2 : va_W)) rfl rfl (fun _ => rfl) rfl ⟨rfl, rfl⟩ ⟨by show 2 + n0 + 1 ≤ 2 + (n0 + 1); omega, by show 8 + (5 + 11) + (41 + n0 * 24) ≤ 41 + (n0 + 1) * 24; omega⟩ hl.1 rfl (Nat.le_of_ble_eq_true rfl) ⟨Nat.zero_le _, Nat.zero_le _⟩ dX4_run_443 (fun r443 u H locs h hP hD hS => ?_)
          obtain ⟨F0_443, A0_443⟩ := u
          try dsimp only at h
          have hP : va_P D vwCl (wX4 cI cZ o0 q0 F0_443 A0_443 : va_W) H := hP
          have hD : va_D A9 (wX4 cI cZ o0 q0 F0_443 A0_443 : va_W) := hD
          refine lv_aload_n hx hb dX4_run_446 rfl (lv_at hl 1 rfl) ?_
          refine lv_aload_n hx hb dX4_run_447 rfl (lv_at hl 1 rfl) ?_
          refine lv_iconst (v := 0) hx hb dX4_run_448 (by decide) ?_
          refine C_vi (wr := []) X hP hD hS [.int (0 : Int32)] [.ref o0, .int r443] (w_X4_bodyOf l D cI cZ cR adK adV _ o0 q0 F0_443 A0_443 (0 : Int32) _ h) cal_X4_bodyOf mw_47_2 rfl [0, 1] [] [0, 1] (fun u => (wX4 cI cZ o0 q0 F0_443 A0_443 : va_W)) rfl rfl (fun _ => rfl) rfl 0 rfl rfl ⟨rfl, rfl⟩ ⟨by show 1 + 1 ≤ 2 + (n0 + 1); omega, by show 8 + (2 + 11) + 20 ≤ 41 + (n0 + 1) * 24; omega⟩ hl.1 rfl (Nat.le_of_ble_eq_true rfl) ⟨Nat.zero_le _, Nat.zero_le _⟩ dX4_run_449 (fun r449 u H locs h hP hD hS => ?_)
          refine lv_aload_n hx hb dX4_run_452 rfl (lv_at hl 1 rfl) ?_
          refine va_get (C := RX4) (T := TX4) (N := 6) (own := RX4) (v := .int (F0_443 4)) hx hb ht inlX4 hown hK hP 0 rfl rfl 4 (Nat.le_of_ble_eq_true rfl) (ht _ mw_5_1) (fun _ h9 => h9) rfl dX4_run_453 ?_
          refine lv_iload hx hb dX4_run_456 (lv_at hl 0 rfl) ?_
          refine C_si (wr := []) X hP hD hS [.ref o0, .int r449, .int (F0_443 4), .int y23] [.int r443] (ih _ o0 q0 F0_443 A0_443 r449 (F0_443 4) y23 _ h) cal_X4_run mw_47_18 rfl [0, 1] [] [0, 1] (fun u => (wX4 cI cZ o0 q0 u.1 u.2 : va_W)) rfl rfl (fun _ => rfl) rfl ⟨rfl, rfl⟩ ⟨by show 2 + n0 + 1 ≤ 2 + (n0 + 1); omega, by show 8 + (5 + 11) + (41 + n0 * 24) ≤ 41 + (n0 + 1) * 24; omega⟩ hl.1 rfl (Nat.le_of_ble_eq_true rfl) ⟨Nat.zero_le _, Nat.zero_le _⟩ dX4_run_458 (fun r458 u H locs h hP hD hS => ?_)
          obtain ⟨F0_458, A0_458⟩ := u
          try dsimp only at h
          have hP : va_P D vwCl (wX4 cI cZ o0 q0 F0_458 A0_458 : va_W) H := hP
          have hD : va_D A9 (wX4 cI cZ o0 q0 F0_458 A0_458 : va_W) := hD
          refine lv_isub hx hb dX4_run_461 ?_
          exact ret _ (F0_458, A0_458) _ _ _ _ dX4_run_462 h hP hD hS
        replace h := h.2.2.2.2.2.2.2.2.2.2.2.2.2 c26_10 c26_11 c26_12 c26_13 c26_20 c26_30 c26_31 c26_40 c26_41 c26_50 c26_51 c26_60 c26_61
        refine g_tdef (tgt := 463) hx hb dX4_run_26 ?_ (by decide) ?_
        · by_cases g14 : x1 = (14 : Int32)
          · exact Or.inr (by rw [g14]; rfl)
          by_cases g15 : x1 = (15 : Int32)
          · exact Or.inr (by rw [g15]; rfl)
          by_cases g16 : x1 = (16 : Int32)
          · exact Or.inr (by rw [g16]; rfl)
          by_cases g17 : x1 = (17 : Int32)
          · exact Or.inr (by rw [g17]; rfl)
          by_cases g18 : x1 = (18 : Int32)
          · exact Or.inr (by rw [g18]; rfl)
          by_cases g19 : x1 = (19 : Int32)
          · exact Or.inr (by rw [g19]; rfl)
          by_cases g21 : x1 = (21 : Int32)
          · exact Or.inr (by rw [g21]; rfl)
          by_cases g22 : x1 = (22 : Int32)
          · exact Or.inr (by rw [g22]; rfl)
          by_cases g23 : x1 = (23 : Int32)
          · exact Or.inr (by rw [g23]; rfl)
          by_cases g24 : x1 = (24 : Int32)
          · exact Or.inr (by rw [g24]; rfl)
          by_cases g25 : x1 = (25 : Int32)
          · exact Or.inr (by rw [g25]; rfl)
          by_cases g26 : x1 = (26 : Int32)
          · exact Or.inr (by rw [g26]; rfl)
          by_cases g27 : x1 = (27 : Int32)
          · exact Or.inr (by rw [g27]; rfl)
          by_cases g28 : x1 = (28 : Int32)
          · exact Or.inr (by rw [g28]; rfl)
          by_cases g29 : x1 = (29 : Int32)
          · exact Or.inr (by rw [g29]; rfl)
          by_cases g32 : x1 = (32 : Int32)
          · exact Or.inr (by rw [g32]; rfl)
          by_cases g33 : x1 = (33 : Int32)
          · exact Or.inr (by rw [g33]; rfl)
          by_cases g34 : x1 = (34 : Int32)
          · exact Or.inr (by rw [g34]; rfl)
          by_cases g35 : x1 = (35 : Int32)
          · exact Or.inr (by rw [g35]; rfl)
          by_cases g36 : x1 = (36 : Int32)
          · exact Or.inr (by rw [g36]; rfl)
          by_cases g37 : x1 = (37 : Int32)
          · exact Or.inr (by rw [g37]; rfl)
          by_cases g38 : x1 = (38 : Int32)
          · exact Or.inr (by rw [g38]; rfl)
          by_cases g39 : x1 = (39 : Int32)
          · exact Or.inr (by rw [g39]; rfl)
          by_cases g42 : x1 = (42 : Int32)
          · exact Or.inr (by rw [g42]; rfl)
          by_cases g43 : x1 = (43 : Int32)
          · exact Or.inr (by rw [g43]; rfl)
          by_cases g44 : x1 = (44 : Int32)
          · exact Or.inr (by rw [g44]; rfl)
          by_cases g45 : x1 = (45 : Int32)
          · exact Or.inr (by rw [g45]; rfl)
          by_cases g46 : x1 = (46 : Int32)
          · exact Or.inr (by rw [g46]; rfl)
          by_cases g47 : x1 = (47 : Int32)
          · exact Or.inr (by rw [g47]; rfl)
          by_cases g48 : x1 = (48 : Int32)
          · exact Or.inr (by rw [g48]; rfl)
          by_cases g49 : x1 = (49 : Int32)
          · exact Or.inr (by rw [g49]; rfl)
          by_cases g52 : x1 = (52 : Int32)
          · exact Or.inr (by rw [g52]; rfl)
          by_cases g53 : x1 = (53 : Int32)
          · exact Or.inr (by rw [g53]; rfl)
          by_cases g54 : x1 = (54 : Int32)
          · exact Or.inr (by rw [g54]; rfl)
          by_cases g55 : x1 = (55 : Int32)
          · exact Or.inr (by rw [g55]; rfl)
          by_cases g56 : x1 = (56 : Int32)
          · exact Or.inr (by rw [g56]; rfl)
          by_cases g57 : x1 = (57 : Int32)
          · exact Or.inr (by rw [g57]; rfl)
          by_cases g58 : x1 = (58 : Int32)
          · exact Or.inr (by rw [g58]; rfl)
          by_cases g59 : x1 = (59 : Int32)
          · exact Or.inr (by rw [g59]; rfl)
          exact Or.inl (sw10_61 c26_10 c26_11 c26_12 c26_13 g14 g15 g16 g17 g18 g19 c26_20 g21 g22 g23 g24 g25 g26 g27 g28 g29 c26_30 c26_31 g32 g33 g34 g35 g36 g37 g38 g39 c26_40 c26_41 g42 g43 g44 g45 g46 g47 g48 g49 c26_50 c26_51 g52 g53 g54 g55 g56 g57 g58 g59 c26_60 c26_61)
        refine lv_iconst (v := 0) hx hb dX4_run_463 (by decide) ?_
        exact ret _ (F0_17, A0_17) _ _ _ _ dX4_run_464 h hP hD hS
      · replace h := h.2 c10
        refine lv_iconst (v := 0) hx hb dX4_run_13 (by decide) ?_
        exact ret _ (F0, A0) _ _ _ _ dX4_run_14 h hP hD hS
theorem cal_X4_forget : CalV yX4_forget cX4_forget 1 none 0 := ⟨mw_46_20, mw_2_10, mw_46_18, mw_46_19, ⟨by decide +kernel, by decide +kernel, by decide +kernel⟩⟩
theorem dX4_perform_0 : decode cX4_perform 0 = .ok (.aload_n 0, 1) := by decide +kernel
theorem dX4_perform_1 : decode cX4_perform 1 = .ok (.invokevirtual 32, 3) := by decide +kernel
theorem dX4_perform_4 : decode cX4_perform 4 = .ok (.aload_n 0, 1) := by decide +kernel
theorem dX4_perform_5 : decode cX4_perform 5 = .ok (.iload_n 1, 1) := by decide +kernel
theorem dX4_perform_6 : decode cX4_perform 6 = .ok (.putfield 23, 3) := by decide +kernel
theorem dX4_perform_9 : decode cX4_perform 9 = .ok (.aload_n 0, 1) := by decide +kernel
theorem dX4_perform_10 : decode cX4_perform 10 = .ok (.iload_n 2, 1) := by decide +kernel
theorem dX4_perform_11 : decode cX4_perform 11 = .ok (.putfield 26, 3) := by decide +kernel
theorem dX4_perform_14 : decode cX4_perform 14 = .ok (.aload_n 0, 1) := by decide +kernel
theorem dX4_perform_15 : decode cX4_perform 15 = .ok (.iload_n 3, 1) := by decide +kernel
theorem dX4_perform_16 : decode cX4_perform 16 = .ok (.putfield 29, 3) := by decide +kernel
theorem dX4_perform_19 : decode cX4_perform 19 = .ok (.aload_n 0, 1) := by decide +kernel
theorem dX4_perform_20 : decode cX4_perform 20 = .ok (.aload_n 0, 1) := by decide +kernel
theorem dX4_perform_21 : decode cX4_perform 21 = .ok (.iload 4, 2) := by decide +kernel
theorem dX4_perform_23 : decode cX4_perform 23 = .ok (.invokevirtual 35, 3) := by decide +kernel
theorem dX4_perform_26 : decode cX4_perform 26 = .ok (.iload 5, 2) := by decide +kernel
theorem dX4_perform_28 : decode cX4_perform 28 = .ok (.iconst 0, 1) := by decide +kernel
theorem dX4_perform_29 : decode cX4_perform 29 = .ok (.invokestatic 39, 3) := by decide +kernel
theorem dX4_perform_32 : decode cX4_perform 32 = .ok (.istore 6, 2) := by decide +kernel
theorem dX4_perform_34 : decode cX4_perform 34 = .ok (.aload_n 0, 1) := by decide +kernel
theorem dX4_perform_35 : decode cX4_perform 35 = .ok (.getfield 19, 3) := by decide +kernel
theorem dX4_perform_38 : decode cX4_perform 38 = .ok (.ifCond .eq 8, 3) := by decide +kernel
theorem dX4_perform_41 : decode cX4_perform 41 = .ok (.bipush (-15), 2) := by decide +kernel
theorem dX4_perform_43 : decode cX4_perform 43 = .ok (.goto 5, 3) := by decide +kernel
theorem dX4_perform_46 : decode cX4_perform 46 = .ok (.iload 6, 2) := by decide +kernel
theorem dX4_perform_48 : decode cX4_perform 48 = .ok (.ireturn, 1) := by decide +kernel
def p_X4_perform (F : tF) (A : tA) (x1 : Int32) (x2 : Int32) (x3 : Int32) (x4 : Int32) (x5 : Int32) (K : Int32 → tF → tA → Prop) : Prop := (p_X4_forget F A (fun F_1 A_1 => (p_X4_bodyOf (upd (upd (upd F_1 3 x1) 4 x2) 5 x3) A_1 x4 (fun r23 => (p_X4_run 12 (upd (upd (upd F_1 3 x1) 4 x2) 5 x3) A_1 r23 x5 (0 : Int32) (fun r29 F_29 A_29 => (((F_29 2) = 0 → (K r29 F_29 A_29)) ∧ (¬ (F_29 2) = 0 → (K (-15 : Int32) F_29 A_29)))))))))
set_option maxHeartbeats 4000000 in
set_option maxRecDepth 100000 in
theorem w_X4_perform (l : Launch) (D : va_G) (cI cZ cR : ClassId) (adK adV : Nat → Nat) (sz : Nat) (o : Nat) (q : Nat → Nat) (F : tF) (A : tA) (x1 : Int32) (x2 : Int32) (x3 : Int32) (x4 : Int32) (x5 : Int32) (K : Int32 → tF → tA → Prop) (h : p_X4_perform F A x1 x2 x3 x4 x5 K) : MI l D cI cZ cR adK adV yX4_perform cX4_perform 7 (some .int) (rmN 15 353) [.ref o, .int x1, .int x2, .int x3, .int x4, .int x5] (wX4 cI cZ o q F A : va_W) sz (fun (r : Int32) (u : (tF × tA)) => K r u.1 u.2) (fun (u : (tF × tA)) => (wX4 cI cZ o q u.1 u.2 : va_W)) := by
  refine M_i (by decide +kernel) (Nat.le_of_ble_eq_true rfl) ?_
  intro p e s m args below meth c Q A9 ls X ret hP hD hS hl
  obtain ⟨hx, hb, hml, ht, hown, hK, hA, hE⟩ := id X
  have hl : lv_has ls 7 [(0, .ref o), (1, .int x1), (2, .int x2), (3, .int x3), (4, .int x4), (5, .int x5)] := hl
  unfold p_X4_perform at h
  refine lv_aload_n hx hb dX4_perform_0 rfl (lv_at hl 0 rfl) ?_
  refine C_vv (wr := []) X hP hD hS [] [] (w_X4_forget l D cI cZ cR adK adV _ o q F A _ h) cal_X4_forget mw_47_1 rfl [0, 1] [] [0, 1] (fun u => (wX4 cI cZ o q u.1 u.2 : va_W)) rfl rfl (fun _ => rfl) rfl 0 rfl rfl ⟨rfl, rfl⟩ ⟨Nat.le_of_ble_eq_true rfl, Nat.le_of_ble_eq_true rfl⟩ hl.1 rfl (Nat.le_of_ble_eq_true rfl) ⟨Nat.zero_le _, Nat.zero_le _⟩ dX4_perform_1 (fun u H locs h hP hD hS => ?_)
  obtain ⟨F_1, A_1⟩ := u
  try dsimp only at h
  have hP : va_P D vwCl (wX4 cI cZ o q F_1 A_1 : va_W) H := hP
  have hD : va_D A9 (wX4 cI cZ o q F_1 A_1 : va_W) := hD
  refine lv_aload_n hx hb dX4_perform_4 rfl (lv_at hl 0 rfl) ?_
  refine lv_iload_n hx hb dX4_perform_5 rfl (lv_at hl 1 rfl) ?_
  refine va_put (C := RX4) (T := TX4) (N := 6) (own := RX4) (v := .int x1) hx hb ht inlX4 tyX4 tyX4_ok nmX4 hown hK hP hD hS 0 rfl rfl 3 (Nat.le_of_ble_eq_true rfl) (ht _ mw_5_0) (fun _ h9 => h9) rfl (tyX4_ok 3 (Nat.le_of_ble_eq_true rfl)) rfl rfl (Nat.le_of_ble_eq_true rfl) dX4_perform_6 (fun H locs hP hD hS => ?_)
  have hP : va_P D vwCl (wX4 cI cZ o q (upd F_1 3 x1) A_1 : va_W) H := hP
  have hD : va_D A9 (wX4 cI cZ o q (upd F_1 3 x1) A_1 : va_W) := hD
  refine lv_aload_n hx hb dX4_perform_9 rfl (lv_at hl 0 rfl) ?_
  refine lv_iload_n hx hb dX4_perform_10 rfl (lv_at hl 2 rfl) ?_
  refine va_put (C := RX4) (T := TX4) (N := 6) (own := RX4) (v := .int x2) hx hb ht inlX4 tyX4 tyX4_ok nmX4 hown hK hP hD hS 0 rfl rfl 4 (Nat.le_of_ble_eq_true rfl) (ht _ mw_5_1) (fun _ h9 => h9) rfl (tyX4_ok 4 (Nat.le_of_ble_eq_true rfl)) rfl rfl (Nat.le_of_ble_eq_true rfl) dX4_perform_11 (fun H locs hP hD hS => ?_)
  have hP : va_P D vwCl (wX4 cI cZ o q (upd (upd F_1 3 x1) 4 x2) A_1 : va_W) H := hP
  have hD : va_D A9 (wX4 cI cZ o q (upd (upd F_1 3 x1) 4 x2) A_1 : va_W) := hD
  refine lv_aload_n hx hb dX4_perform_14 rfl (lv_at hl 0 rfl) ?_
  refine lv_iload_n hx hb dX4_perform_15 rfl (lv_at hl 3 rfl) ?_
  refine va_put (C := RX4) (T := TX4) (N := 6) (own := RX4) (v := .int x3) hx hb ht inlX4 tyX4 tyX4_ok nmX4 hown hK hP hD hS 0 rfl rfl 5 (Nat.le_of_ble_eq_true rfl) (ht _ mw_5_2) (fun _ h9 => h9) rfl (tyX4_ok 5 (Nat.le_of_ble_eq_true rfl)) rfl rfl (Nat.le_of_ble_eq_true rfl) dX4_perform_16 (fun H locs hP hD hS => ?_)
  have hP : va_P D vwCl (wX4 cI cZ o q (upd (upd (upd F_1 3 x1) 4 x2) 5 x3) A_1 : va_W) H := hP
  have hD : va_D A9 (wX4 cI cZ o q (upd (upd (upd F_1 3 x1) 4 x2) 5 x3) A_1 : va_W) := hD
  refine lv_aload_n hx hb dX4_perform_19 rfl (lv_at hl 0 rfl) ?_
  refine lv_aload_n hx hb dX4_perform_20 rfl (lv_at hl 0 rfl) ?_
  refine lv_iload hx hb dX4_perform_21 (lv_at hl 4 rfl) ?_
  refine C_vi (wr := []) X hP hD hS [.int x4] [.ref o] (w_X4_bodyOf l D cI cZ cR adK adV _ o q (upd (upd (upd F_1 3 x1) 4 x2) 5 x3) A_1 x4 _ h) cal_X4_bodyOf mw_47_2 rfl [0, 1] [] [0, 1] (fun u => (wX4 cI cZ o q (upd (upd (upd F_1 3 x1) 4 x2) 5 x3) A_1 : va_W)) rfl rfl (fun _ => rfl) rfl 0 rfl rfl ⟨rfl, rfl⟩ ⟨Nat.le_of_ble_eq_true rfl, Nat.le_of_ble_eq_true rfl⟩ hl.1 rfl (Nat.le_of_ble_eq_true rfl) ⟨Nat.zero_le _, Nat.zero_le _⟩ dX4_perform_23 (fun r23 u H locs h hP hD hS => ?_)
  refine lv_iload hx hb dX4_perform_26 (lv_at hl 5 rfl) ?_
  refine lv_iconst (v := 0) hx hb dX4_perform_28 (by decide) ?_
  refine C_si (wr := []) X hP hD hS [.ref o, .int r23, .int x5, .int (0 : Int32)] [] (w_X4_run l D cI cZ cR adK adV 12 _ o q (upd (upd (upd F_1 3 x1) 4 x2) 5 x3) A_1 r23 x5 (0 : Int32) _ h) cal_X4_run mw_47_18 rfl [0, 1] [] [0, 1] (fun u => (wX4 cI cZ o q u.1 u.2 : va_W)) rfl rfl (fun _ => rfl) rfl ⟨rfl, rfl⟩ ⟨Nat.le_of_ble_eq_true rfl, Nat.le_of_ble_eq_true rfl⟩ hl.1 rfl (Nat.le_of_ble_eq_true rfl) ⟨Nat.zero_le _, Nat.zero_le _⟩ dX4_perform_29 (fun r29 u H locs h hP hD hS => ?_)
  obtain ⟨F_29, A_29⟩ := u
  try dsimp only at h
  have hP : va_P D vwCl (wX4 cI cZ o q F_29 A_29 : va_W) H := hP
  have hD : va_D A9 (wX4 cI cZ o q F_29 A_29 : va_W) := hD
  refine lv_istore (lv' := [(6, .int r29), (0, .ref o), (1, .int x1), (2, .int x2), (3, .int x3), (4, .int x4), (5, .int x5)]) hx hb dX4_perform_32 hl (by decide) rfl (fun ls hl => ?_)
  refine lv_aload_n hx hb dX4_perform_34 rfl (lv_at hl 1 rfl) ?_
  refine va_get (C := RX4) (T := TX4) (N := 6) (own := RX4) (v := .int (F_29 2)) hx hb ht inlX4 hown hK hP 0 rfl rfl 2 (Nat.le_of_ble_eq_true rfl) (ht _ mw_4_23) (fun _ h9 => h9) rfl dX4_perform_35 ?_
  refine lv_if_eq (tgt := 46) hx hb dX4_perform_38 (by decide) (fun c38 => ?_) (fun c38 => ?_)
  · replace h := h.1 c38
    refine lv_iload hx hb dX4_perform_46 (lv_at hl 0 rfl) ?_
    exact ret _ (F_29, A_29) _ _ _ _ dX4_perform_48 h hP hD hS
  · replace h := h.2 c38
    refine lv_bipush (v := -15) hx hb dX4_perform_41 (by decide) ?_
    refine lv_goto (tgt := 48) hx hb dX4_perform_43 (by decide) ?_
    exact ret _ (F_29, A_29) _ _ _ _ dX4_perform_48 h hP hD hS
