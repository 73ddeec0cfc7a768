/-! 07.text: what the bytecode of these methods asks, and the walks (written by wip/gen/mk.py) -/
theorem dX3_append_0 : decode cX3_append 0 = .ok (.iconst 0, 1) := by decide +kernel
theorem dX3_append_1 : decode cX3_append 1 = .ok (.istore 4, 2) := by decide +kernel
theorem dX3_append_3 : decode cX3_append 3 = .ok (.iload 4, 2) := by decide +kernel
theorem dX3_append_5 : decode cX3_append 5 = .ok (.iload_n 3, 1) := by decide +kernel
theorem dX3_append_6 : decode cX3_append 6 = .ok (.if_icmp .ge 50, 3) := by decide +kernel
theorem dX3_append_9 : decode cX3_append 9 = .ok (.aload_n 0, 1) := by decide +kernel
theorem dX3_append_10 : decode cX3_append 10 = .ok (.getfield 15, 3) := by decide +kernel
theorem dX3_append_13 : decode cX3_append 13 = .ok (.sipush 200, 3) := by decide +kernel
theorem dX3_append_16 : decode cX3_append 16 = .ok (.if_icmp .ge 40, 3) := by decide +kernel
theorem dX3_append_19 : decode cX3_append 19 = .ok (.aload_n 0, 1) := by decide +kernel
theorem dX3_append_20 : decode cX3_append 20 = .ok (.getfield 9, 3) := by decide +kernel
theorem dX3_append_23 : decode cX3_append 23 = .ok (.aload_n 0, 1) := by decide +kernel
theorem dX3_append_24 : decode cX3_append 24 = .ok (.getfield 15, 3) := by decide +kernel
theorem dX3_append_27 : decode cX3_append 27 = .ok (.lload_n 1, 1) := by decide +kernel
theorem dX3_append_28 : decode cX3_append 28 = .ok (.bipush 8, 2) := by decide +kernel
theorem dX3_append_30 : decode cX3_append 30 = .ok (.iload 4, 2) := by decide +kernel
theorem dX3_append_32 : decode cX3_append 32 = .ok (.imul, 1) := by decide +kernel
theorem dX3_append_33 : decode cX3_append 33 = .ok (.lushr, 1) := by decide +kernel
theorem dX3_append_34 : decode cX3_append 34 = .ok (.ldc2_w 25, 3) := by decide +kernel
theorem dX3_append_37 : decode cX3_append 37 = .ok (.land, 1) := by decide +kernel
theorem dX3_append_38 : decode cX3_append 38 = .ok (.l2i, 1) := by decide +kernel
theorem dX3_append_39 : decode cX3_append 39 = .ok (.iastore, 1) := by decide +kernel
theorem dX3_append_40 : decode cX3_append 40 = .ok (.aload_n 0, 1) := by decide +kernel
theorem dX3_append_41 : decode cX3_append 41 = .ok (.dup, 1) := by decide +kernel
theorem dX3_append_42 : decode cX3_append 42 = .ok (.getfield 15, 3) := by decide +kernel
theorem dX3_append_45 : decode cX3_append 45 = .ok (.iconst 1, 1) := by decide +kernel
theorem dX3_append_46 : decode cX3_append 46 = .ok (.iadd, 1) := by decide +kernel
theorem dX3_append_47 : decode cX3_append 47 = .ok (.putfield 15, 3) := by decide +kernel
theorem dX3_append_50 : decode cX3_append 50 = .ok (.iinc 4 1, 3) := by decide +kernel
theorem dX3_append_53 : decode cX3_append 53 = .ok (.goto (-50), 3) := by decide +kernel
theorem dX3_append_56 : decode cX3_append 56 = .ok (.return_, 1) := by decide +kernel
def p_X3_append_L3 (x1 : Int64) (x3 : Int32) (K : tF → tA → Prop) : Nat → tF → tA → Int32 → Prop
  | 0, _, _, _ => False
  | n3 + 1, F, A, x4 => ((x3 ≤ x4 → (K F A)) ∧ (¬ x3 ≤ x4 → (((200 : Int32) ≤ (F 1) → (K F A)) ∧ (¬ (200 : Int32) ≤ (F 1) → (vp_in (F 1) 200 ∧ (∀ y47 : Int32, y47 = ((F 1) + (1 : Int32)) → (∀ y50 : Int32, y50 = (x4 + (1 : Int32)) → ((p_X3_append_L3 x1 x3 K n3) (upd F 1 y47) (va_up A 0 (upd (A 0) ((F 1)).toNatClampNeg (((((x1).toUInt64 >>> ((((8 : Int32) * x4)).toInt64.toUInt64 &&& Int64.toUInt64 63)).toInt64) &&& (255 : Int64))).toInt32)) y50))))))))
set_option maxHeartbeats 4000000 in
set_option maxRecDepth 100000 in
theorem b_X3_append_L3 {p : Program} {l : Launch} {e : Env} {s : State} {m : MethodId} {args : Array Value} {below : List Frame} {meth : Method} {c : Code} {Q : State → Prop} {D : va_G} {cI cZ cR : ClassId} {adK adV : Nat → Nat} {A9 : Nat → Prop} {o : Nat} {q : Nat → Nat} {K : tF → tA → Prop}  (x1 : Int64) (x3 : Int32) (X : CX p s m args c yX3_append.cls cX3_append 5 D cI cZ cR adK adV A9) (ret : RTv p l e (rmN 0 0) s m args below meth c Q cX3_append D A9 (fun (u : (tF × tA)) => K u.1 u.2) (fun (u : (tF × tA)) => (wX3 cI cZ o q u.1 u.2 : va_W)))   : ∀ (n : Nat) (F : tF) (A : tA) (x4 : Int32) (H : Heap) (locs : List Loc) (ls : Array Slot), p_X3_append_L3 x1 x3 K n F A x4 → va_P D vwCl (wX3 cI cZ o q F A : va_W) H → va_D A9 (wX3 cI cZ o q F A : va_W) → va_S A9 s.heap H locs → lv_has ls 5 [(0, .ref o), (1, .long x1), (3, .int x3), (4, .int x4)] → W p l e (rmN 0 0) s m args below meth c H locs 0 0 Q (F0 m 3 ls []) := by
  obtain ⟨hx, hb, hml, ht, hown, hK, hA, hE⟩ := id X
  intro n
  induction n with
  | zero => intro F A x4 H locs ls h; exact False.elim h
  | succ n3 ih =>
    intro F A x4 H locs ls h hP hD hS hl
    rw [p_X3_append_L3] at h
    refine lv_iload hx hb dX3_append_3 (lv_at hl 3 rfl) ?_
    refine lv_iload_n hx hb dX3_append_5 rfl (lv_at hl 2 rfl) ?_
    refine lv_icmp_ge (tgt := 56) hx hb dX3_append_6 (by decide) (fun c6 => ?_) (fun c6 => ?_)
    · replace h := h.1 c6
      exact ret (F, A) _ _ _ _ dX3_append_56 h hP hD hS
    · replace h := h.2 c6
      refine lv_aload_n hx hb dX3_append_9 rfl (lv_at hl 0 rfl) ?_
      refine va_get (C := RX3) (T := TX3) (N := 4) (own := RX3) (v := .int (F 1)) hx hb ht inlX3 hown hK hP 0 rfl rfl 1 (Nat.le_of_ble_eq_true rfl) (ht _ mw_3_21) (fun _ h9 => h9) rfl dX3_append_10 ?_
      refine lv_sipush (v := 200) hx hb dX3_append_13 (by decide) ?_
      refine lv_icmp_ge (tgt := 56) hx hb dX3_append_16 (by decide) (fun c16 => ?_) (fun c16 => ?_)
      · replace h := h.1 c16
        exact ret (F, A) _ _ _ _ dX3_append_56 h hP hD hS
      · replace h := h.2 c16
        refine lv_aload_n hx hb dX3_append_19 rfl (lv_at hl 0 rfl) ?_
        refine va_get (C := RX3) (T := TX3) (N := 4) (own := RX3) (v := .ref (q 0)) hx hb ht inlX3 hown hK hP 0 rfl rfl 0 (Nat.le_of_ble_eq_true rfl) (ht _ mw_3_20) (fun _ h9 => h9) rfl dX3_append_20 ?_
        refine lv_aload_n hx hb dX3_append_23 rfl (lv_at hl 0 rfl) ?_
        refine va_get (C := RX3) (T := TX3) (N := 4) (own := RX3) (v := .int (F 1)) hx hb ht inlX3 hown hK hP 0 rfl rfl 1 (Nat.le_of_ble_eq_true rfl) (ht _ mw_3_21) (fun _ h9 => h9) rfl dX3_append_24 ?_
        refine lv_lload_n hx hb dX3_append_27 rfl (lv_at hl 1 rfl) ?_
        refine lv_bipush (v := 8) hx hb dX3_append_28 (by decide) ?_
        refine lv_iload hx hb dX3_append_30 (lv_at hl 3 rfl) ?_
        refine lv_imul hx hb dX3_append_32 ?_
        refine lv_lushr (v := ((x1).toUInt64 >>> ((((8 : Int32) * x4)).toInt64.toUInt64 &&& Int64.toUInt64 63)).toInt64) hx hb dX3_append_33 rfl ?_
        refine lv_ldc2 (v := 255) hx hb hown (ht _ mw_6_11) dX3_append_34 ?_
        refine lv_land hx hb dX3_append_37 ?_
        refine lv_l2i (v := (((((x1).toUInt64 >>> ((((8 : Int32) * x4)).toInt64.toUInt64 &&& Int64.toUInt64 63)).toInt64) &&& (255 : Int64))).toInt32) hx hb dX3_append_38 rfl ?_
        obtain ⟨hi39, h⟩ := h
        refine g_iast (f := (A 0)) (k := ((F 1)).toNatClampNeg) hx hb hK hP hD hS 1 0 rfl rfl hi39 rfl dX3_append_39 (fun H locs hP hD hS => ?_)
        have hP : va_P D vwCl (wX3 cI cZ o q F (va_up A 0 (upd (A 0) ((F 1)).toNatClampNeg (((((x1).toUInt64 >>> ((((8 : Int32) * x4)).toInt64.toUInt64 &&& Int64.toUInt64 63)).toInt64) &&& (255 : Int64))).toInt32)) : va_W) H := hP
        have hD : va_D A9 (wX3 cI cZ o q F (va_up A 0 (upd (A 0) ((F 1)).toNatClampNeg (((((x1).toUInt64 >>> ((((8 : Int32) * x4)).toInt64.toUInt64 &&& Int64.toUInt64 63)).toInt64) &&& (255 : Int64))).toInt32)) : va_W) := hD
        refine lv_aload_n hx hb dX3_append_40 rfl (lv_at hl 0 rfl) ?_
        refine lv_dup hx hb dX3_append_41 rfl ?_
        refine va_get (C := RX3) (T := TX3) (N := 4) (own := RX3) (v := .int (F 1)) hx hb ht inlX3 hown hK hP 0 rfl rfl 1 (Nat.le_of_ble_eq_true rfl) (ht _ mw_3_21) (fun _ h9 => h9) rfl dX3_append_42 ?_
        refine lv_iconst (v := 1) hx hb dX3_append_45 (by decide) ?_
        refine lv_iadd hx hb dX3_append_46 ?_
        refine lv_topi (fun y47 ey47 => ?_)
        replace h := h y47 ey47
        refine va_put (C := RX3) (T := TX3) (N := 4) (own := RX3) (v := .int y47) hx hb ht inlX3 tyX3 tyX3_ok nmX3 hown hK hP hD hS 0 rfl rfl 1 (Nat.le_of_ble_eq_true rfl) (ht _ mw_3_21) (fun _ h9 => h9) rfl (tyX3_ok 1 (Nat.le_of_ble_eq_true rfl)) rfl rfl (Nat.le_of_ble_eq_true rfl) dX3_append_47 (fun H locs hP hD hS => ?_)
        have hP : va_P D vwCl (wX3 cI cZ o q (upd F 1 y47) (va_up A 0 (upd (A 0) ((F 1)).toNatClampNeg (((((x1).toUInt64 >>> ((((8 : Int32) * x4)).toInt64.toUInt64 &&& Int64.toUInt64 63)).toInt64) &&& (255 : Int64))).toInt32)) : va_W) H := hP
        have hD : va_D A9 (wX3 cI cZ o q (upd F 1 y47) (va_up A 0 (upd (A 0) ((F 1)).toNatClampNeg (((((x1).toUInt64 >>> ((((8 : Int32) * x4)).toInt64.toUInt64 &&& Int64.toUInt64 63)).toInt64) &&& (255 : Int64))).toInt32)) : va_W) := hD
        obtain ⟨y50, ey50⟩ : ∃ y : Int32, y = (x4 + (1 : Int32)) := ⟨_, rfl⟩
        replace h := h y50 ey50
        refine lv_iinc (v := y50) (lv' := [(4, .int y50), (0, .ref o), (1, .long x1), (3, .int x3)]) hx hb dX3_append_50 hl (k := 3) rfl (by rw [ey50]; rfl) (by decide) rfl (fun ls hl => ?_)
        refine lv_goto (tgt := 3) hx hb dX3_append_53 (by decide) ?_
        exact ih (upd F 1 y47) (va_up A 0 (upd (A 0) ((F 1)).toNatClampNeg (((((x1).toUInt64 >>> ((((8 : Int32) * x4)).toInt64.toUInt64 &&& Int64.toUInt64 63)).toInt64) &&& (255 : Int64))).toInt32)) y50 _ _ _ h hP hD hS (lv_sub hl [1, 2, 3, 0] rfl)
def p_X3_append (F : tF) (A : tA) (x1 : Int64) (x3 : Int32) (K : tF → tA → Prop) : Prop := (∃ n3, p_X3_append_L3 x1 x3 K n3 F A (0 : Int32))
set_option maxHeartbeats 4000000 in
set_option maxRecDepth 100000 in
theorem w_X3_append (l : Launch) (D : va_G) (cI cZ cR : ClassId) (adK adV : Nat → Nat) (sz : Nat) (o : Nat) (q : Nat → Nat) (F : tF) (A : tA) (x1 : Int64) (x3 : Int32) (K : tF → tA → Prop) (h : p_X3_append F A x1 x3 K) : MV l D cI cZ cR adK adV yX3_append cX3_append 5 none (rmN 0 0) [.ref o, .long x1, .int x3] (wX3 cI cZ o q F A : va_W) sz (fun (u : (tF × tA)) => K u.1 u.2) (fun (u : (tF × tA)) => (wX3 cI cZ o q u.1 u.2 : va_W)) := by
  refine M_v (by decide +kernel) (Nat.le_of_ble_eq_true rfl) ?_
  intro p e s m args below meth c Q A9 ls X ret hP hD hS hl
  obtain ⟨hx, hb, hml, ht, hown, hK, hA, hE⟩ := id X
  have hl : lv_has ls 5 [(0, .ref o), (1, .long x1), (3, .int x3)] := hl
  unfold p_X3_append at h
  refine lv_iconst (v := 0) hx hb dX3_append_0 (by decide) ?_
  refine lv_istore (lv' := [(4, .int (0 : Int32)), (0, .ref o), (1, .long x1), (3, .int x3)]) hx hb dX3_append_1 hl (by decide) rfl (fun ls hl => ?_)
  obtain ⟨n3, h⟩ := h
  exact b_X3_append_L3 x1 x3 X ret  n3 F A (0 : Int32) _ _ _ h hP hD hS (lv_sub hl [1, 2, 3, 0] rfl)
theorem dX3_skipBlanks_0 : decode cX3_skipBlanks 0 = .ok (.aload_n 0, 1) := by decide +kernel
theorem dX3_skipBlanks_1 : decode cX3_skipBlanks 1 = .ok (.getfield 19, 3) := by decide +kernel
theorem dX3_skipBlanks_4 : decode cX3_skipBlanks 4 = .ok (.aload_n 0, 1) := by decide +kernel
theorem dX3_skipBlanks_5 : decode cX3_skipBlanks 5 = .ok (.getfield 15, 3) := by decide +kernel
theorem dX3_skipBlanks_8 : decode cX3_skipBlanks 8 = .ok (.if_icmp .ge 30, 3) := by decide +kernel
theorem dX3_skipBlanks_11 : decode cX3_skipBlanks 11 = .ok (.aload_n 0, 1) := by decide +kernel
theorem dX3_skipBlanks_12 : decode cX3_skipBlanks 12 = .ok (.getfield 9, 3) := by decide +kernel
theorem dX3_skipBlanks_15 : decode cX3_skipBlanks 15 = .ok (.aload_n 0, 1) := by decide +kernel
theorem dX3_skipBlanks_16 : decode cX3_skipBlanks 16 = .ok (.getfield 19, 3) := by decide +kernel
theorem dX3_skipBlanks_19 : decode cX3_skipBlanks 19 = .ok (.iaload, 1) := by decide +kernel
theorem dX3_skipBlanks_20 : decode cX3_skipBlanks 20 = .ok (.bipush 32, 2) := by decide +kernel
theorem dX3_skipBlanks_22 : decode cX3_skipBlanks 22 = .ok (.if_icmp .ne 16, 3) := by decide +kernel
theorem dX3_skipBlanks_25 : decode cX3_skipBlanks 25 = .ok (.aload_n 0, 1) := by decide +kernel
theorem dX3_skipBlanks_26 : decode cX3_skipBlanks 26 = .ok (.dup, 1) := by decide +kernel
theorem dX3_skipBlanks_27 : decode cX3_skipBlanks 27 = .ok (.getfield 19, 3) := by decide +kernel
theorem dX3_skipBlanks_30 : decode cX3_skipBlanks 30 = .ok (.iconst 1, 1) := by decide +kernel
theorem dX3_skipBlanks_31 : decode cX3_skipBlanks 31 = .ok (.iadd, 1) := by decide +kernel
theorem dX3_skipBlanks_32 : decode cX3_skipBlanks 32 = .ok (.putfield 19, 3) := by decide +kernel
theorem dX3_skipBlanks_35 : decode cX3_skipBlanks 35 = .ok (.goto (-35), 3) := by decide +kernel
theorem dX3_skipBlanks_38 : decode cX3_skipBlanks 38 = .ok (.return_, 1) := by decide +kernel
def p_X3_skipBlanks_L0 (K : tF → tA → Prop) : Nat → tF → tA → Prop
  | 0, _, _ => False
  | n0 + 1, F, A => (((F 1) ≤ (F 2) → (K F A)) ∧ (¬ (F 1) ≤ (F 2) → (vp_in (F 2) 200 ∧ ((¬ ((A 0) ((F 2)).toNatClampNeg) = (32 : Int32) → (K F A)) ∧ (((A 0) ((F 2)).toNatClampNeg) = (32 : Int32) → (∀ y32 : Int32, y32 = ((F 2) + (1 : Int32)) → ((p_X3_skipBlanks_L0 K n0) (upd F 2 y32) A)))))))
set_option maxHeartbeats 4000000 in
set_option maxRecDepth 100000 in
theorem b_X3_skipBlanks_L0 {p : Program} {l : Launch} {e : Env} {s : State} {m : MethodId} {args : Array Value} {below : List Frame} {meth : Method} {c : Code} {Q : State → Prop} {D : va_G} {cI cZ cR : ClassId} {adK adV : Nat → Nat} {A9 : Nat → Prop} {o : Nat} {q : Nat → Nat} {K : tF → tA → Prop}   (X : CX p s m args c yX3_skipBlanks.cls cX3_skipBlanks 1 D cI cZ cR adK adV A9) (ret : RTv p l e (rmN 0 0) s m args below meth c Q cX3_skipBlanks D A9 (fun (u : (tF × tA)) => K u.1 u.2) (fun (u : (tF × tA)) => (wX3 cI cZ o q u.1 u.2 : va_W)))   : ∀ (n : Nat) (F : tF) (A : tA) (H : Heap) (locs : List Loc) (ls : Array Slot), p_X3_skipBlanks_L0 K n F A → va_P D vwCl (wX3 cI cZ o q F A : va_W) H → va_D A9 (wX3 cI cZ o q F A : va_W) → va_S A9 s.heap H locs → lv_has ls 1 [(0, .ref o)] → W p l e (rmN 0 0) s m args below meth c H locs 0 0 Q (F0 m 0 ls []) := by
  obtain ⟨hx, hb, hml, ht, hown, hK, hA, hE⟩ := id X
  intro n
  induction n with
  | zero => intro F A H locs ls h; exact False.elim h
  | succ n0 ih =>
    intro F A H locs ls h hP hD hS hl
    rw [p_X3_skipBlanks_L0] at h
    refine lv_aload_n hx hb dX3_skipBlanks_0 rfl (lv_at hl 0 rfl) ?_
    refine va_get (C := RX3) (T := TX3) (N := 4) (own := RX3) (v := .int (F 2)) hx hb ht inlX3 hown hK hP 0 rfl rfl 2 (Nat.le_of_ble_eq_true rfl) (ht _ mw_3_22) (fun _ h9 => h9) rfl dX3_skipBlanks_1 ?_
    refine lv_aload_n hx hb dX3_skipBlanks_4 rfl (lv_at hl 0 rfl) ?_
    refine va_get (C := RX3) (T := TX3) (N := 4) (own := RX3) (v := .int (F 1)) hx hb ht inlX3 hown hK hP 0 rfl rfl 1 (Nat.le_of_ble_eq_true rfl) (ht _ mw_3_21) (fun _ h9 => h9) rfl dX3_skipBlanks_5 ?_
    refine lv_icmp_ge (tgt := 38) hx hb dX3_skipBlanks_8 (by decide) (fun c8 => ?_) (fun c8 => ?_)
    · replace h := h.1 c8
      exact ret (F, A) _ _ _ _ dX3_skipBlanks_38 h hP hD hS
    · replace h := h.2 c8
      refine lv_aload_n hx hb dX3_skipBlanks_11 rfl (lv_at hl 0 rfl) ?_
      refine va_get (C := RX3) (T := TX3) (N := 4) (own := RX3) (v := .ref (q 0)) hx hb ht inlX3 hown hK hP 0 rfl rfl 0 (Nat.le_of_ble_eq_true rfl) (ht _ mw_3_20) (fun _ h9 => h9) rfl dX3_skipBlanks_12 ?_
      refine lv_aload_n hx hb dX3_skipBlanks_15 rfl (lv_at hl 0 rfl) ?_
      refine va_get (C := RX3) (T := TX3) (N := 4) (own := RX3) (v := .int (F 2)) hx hb ht inlX3 hown hK hP 0 rfl rfl 2 (Nat.le_of_ble_eq_true rfl) (ht _ mw_3_22) (fun _ h9 => h9) rfl dX3_skipBlanks_16 ?_
      obtain ⟨hi19, h⟩ := h
      refine g_iald (f := (A 0)) (k := ((F 2)).toNatClampNeg) hx hb hK hP 1 0 rfl rfl hi19 rfl dX3_skipBlanks_19 ?_
      refine lv_bipush (v := 32) hx hb dX3_skipBlanks_20 (by decide) ?_
      refine lv_icmp_ne (tgt := 38) hx hb dX3_skipBlanks_22 (by decide) (fun c22 => ?_) (fun c22 => ?_)
      · replace h := h.1 c22
        exact ret (F, A) _ _ _ _ dX3_skipBlanks_38 h hP hD hS
      · replace h := h.2 c22
        refine lv_aload_n hx hb dX3_skipBlanks_25 rfl (lv_at hl 0 rfl) ?_
        refine lv_dup hx hb dX3_skipBlanks_26 rfl ?_
        refine va_get (C := RX3) (T := TX3) (N := 4) (own := RX3) (v := .int (F 2)) hx hb ht inlX3 hown hK hP 0 rfl rfl 2 (Nat.le_of_ble_eq_true rfl) (ht _ mw_3_22) (fun _ h9 => h9) rfl dX3_skipBlanks_27 ?_
        refine lv_iconst (v := 1) hx hb dX3_skipBlanks_30 (by decide) ?_
        refine lv_iadd hx hb dX3_skipBlanks_31 ?_
        refine lv_topi (fun y32 ey32 => ?_)
        replace h := h y32 ey32
        refine va_put (C := RX3) (T := TX3) (N := 4) (own := RX3) (v := .int y32) hx hb ht inlX3 tyX3 tyX3_ok nmX3 hown hK hP hD hS 0 rfl rfl 2 (Nat.le_of_ble_eq_true rfl) (ht _ mw_3_22) (fun _ h9 => h9) rfl (tyX3_ok 2 (Nat.le_of_ble_eq_true rfl)) rfl rfl (Nat.le_of_ble_eq_true rfl) dX3_skipBlanks_32 (fun H locs hP hD hS => ?_)
        have hP : va_P D vwCl (wX3 cI cZ o q (upd F 2 y32) A : va_W) H := hP
        have hD : va_D A9 (wX3 cI cZ o q (upd F 2 y32) A : va_W) := hD
        refine lv_goto (tgt := 0) hx hb dX3_skipBlanks_35 (by decide) ?_
        exact ih (upd F 2 y32) A _ _ _ h hP hD hS (lv_sub hl [0] rfl)
def p_X3_skipBlanks (F : tF) (A : tA) (K : tF → tA → Prop) : Prop := (∃ n0, p_X3_skipBlanks_L0 K n0 F A)
set_option maxHeartbeats 4000000 in
set_option maxRecDepth 100000 in
theorem w_X3_skipBlanks (l : Launch) (D : va_G) (cI cZ cR : ClassId) (adK adV : Nat → Nat) (sz : Nat) (o : Nat) (q : Nat → Nat) (F : tF) (A : tA) (K : tF → tA → Prop) (h : p_X3_skipBlanks F A K) : MV l D cI cZ cR adK adV yX3_skipBlanks cX3_skipBlanks 1 none (rmN 0 0) [.ref o] (wX3 cI cZ o q F A : va_W) sz (fun (u : (tF × tA)) => K u.1 u.2) (fun (u : (tF × tA)) => (wX3 cI cZ o q u.1 u.2 : va_W)) := by
  refine M_v (by decide +kernel) (Nat.le_of_ble_eq_true rfl) ?_
  intro p e s m args below meth c Q A9 ls X ret hP hD hS hl
  obtain ⟨hx, hb, hml, ht, hown, hK, hA, hE⟩ := id X
  have hl : lv_has ls 1 [(0, .ref o)] := hl
  obtain ⟨n0, h⟩ := h
  exact b_X3_skipBlanks_L0  X ret  n0 F A _ _ _ h hP hD hS (lv_sub hl [0] rfl)
theorem dX3_fail_0 : decode cX3_fail 0 = .ok (.aload_n 0, 1) := by decide +kernel
theorem dX3_fail_1 : decode cX3_fail 1 = .ok (.getfield 22, 3) := by decide +kernel
theorem dX3_fail_4 : decode cX3_fail 4 = .ok (.iconst (-1), 1) := by decide +kernel
theorem dX3_fail_5 : decode cX3_fail 5 = .ok (.if_icmp .ne 8, 3) := by decide +kernel
theorem dX3_fail_8 : decode cX3_fail 8 = .ok (.aload_n 0, 1) := by decide +kernel
theorem dX3_fail_9 : decode cX3_fail 9 = .ok (.iload_n 1, 1) := by decide +kernel
theorem dX3_fail_10 : decode cX3_fail 10 = .ok (.putfield 22, 3) := by decide +kernel
theorem dX3_fail_13 : decode cX3_fail 13 = .ok (.return_, 1) := by decide +kernel
def p_X3_fail (F : tF) (A : tA) (x1 : Int32) (K : tF → tA → Prop) : Prop := ((¬ (F 3) = (-1 : Int32) → (K F A)) ∧ ((F 3) = (-1 : Int32) → (K (upd F 3 x1) A)))
set_option maxHeartbeats 4000000 in
set_option maxRecDepth 100000 in
theorem w_X3_fail (l : Launch) (D : va_G) (cI cZ cR : ClassId) (adK adV : Nat → Nat) (sz : Nat) (o : Nat) (q : Nat → Nat) (F : tF) (A : tA) (x1 : Int32) (K : tF → tA → Prop) (h : p_X3_fail F A x1 K) : MV l D cI cZ cR adK adV yX3_fail cX3_fail 2 none (rmN 0 0) [.ref o, .int x1] (wX3 cI cZ o q F A : va_W) sz (fun (u : (tF × tA)) => K u.1 u.2) (fun (u : (tF × tA)) => (wX3 cI cZ o q u.1 u.2 : va_W)) := by
  refine M_v (by decide +kernel) (Nat.le_of_ble_eq_true rfl) ?_
  intro p e s m args below meth c Q A9 ls X ret hP hD hS hl
  obtain ⟨hx, hb, hml, ht, hown, hK, hA, hE⟩ := id X
  have hl : lv_has ls 2 [(0, .ref o), (1, .int x1)] := hl
  unfold p_X3_fail at h
  refine lv_aload_n hx hb dX3_fail_0 rfl (lv_at hl 0 rfl) ?_
  refine va_get (C := RX3) (T := TX3) (N := 4) (own := RX3) (v := .int (F 3)) hx hb ht inlX3 hown hK hP 0 rfl rfl 3 (Nat.le_of_ble_eq_true rfl) (ht _ mw_3_23) (fun _ h9 => h9) rfl dX3_fail_1 ?_
  refine lv_iconst (v := -1) hx hb dX3_fail_4 (by decide) ?_
  refine lv_icmp_ne (tgt := 13) hx hb dX3_fail_5 (by decide) (fun c5 => ?_) (fun c5 => ?_)
  · replace h := h.1 c5
    exact ret (F, A) _ _ _ _ dX3_fail_13 h hP hD hS
  · replace h := h.2 c5
    refine lv_aload_n hx hb dX3_fail_8 rfl (lv_at hl 0 rfl) ?_
    refine lv_iload_n hx hb dX3_fail_9 rfl (lv_at hl 1 rfl) ?_
    refine va_put (C := RX3) (T := TX3) (N := 4) (own := RX3) (v := .int x1) hx hb ht inlX3 tyX3 tyX3_ok nmX3 hown hK hP hD hS 0 rfl rfl 3 (Nat.le_of_ble_eq_true rfl) (ht _ mw_3_23) (fun _ h9 => h9) rfl (tyX3_ok 3 (Nat.le_of_ble_eq_true rfl)) rfl rfl (Nat.le_of_ble_eq_true rfl) dX3_fail_10 (fun H locs hP hD hS => ?_)
    have hP : va_P D vwCl (wX3 cI cZ o q (upd F 3 x1) A : va_W) H := hP
    have hD : va_D A9 (wX3 cI cZ o q (upd F 3 x1) A : va_W) := hD
    exact ret ((upd F 3 x1), A) _ _ _ _ dX3_fail_13 h hP hD hS
theorem cal_X3_skipBlanks : CalV yX3_skipBlanks cX3_skipBlanks 1 none 0 := ⟨mw_7_19, mw_1_22, mw_7_17, mw_7_18, ⟨by decide +kernel, by decide +kernel, by decide +kernel⟩⟩
theorem cal_X3_fail : CalV yX3_fail cX3_fail 2 none 1 := ⟨mw_10_21, mw_1_22, mw_10_19, mw_10_20, ⟨by decide +kernel, by decide +kernel, by decide +kernel⟩⟩
theorem dX3_readEnd_0 : decode cX3_readEnd 0 = .ok (.aload_n 0, 1) := by decide +kernel
theorem dX3_readEnd_1 : decode cX3_readEnd 1 = .ok (.invokevirtual 27, 3) := by decide +kernel
theorem dX3_readEnd_4 : decode cX3_readEnd 4 = .ok (.aload_n 0, 1) := by decide +kernel
theorem dX3_readEnd_5 : decode cX3_readEnd 5 = .ok (.getfield 19, 3) := by decide +kernel
theorem dX3_readEnd_8 : decode cX3_readEnd 8 = .ok (.aload_n 0, 1) := by decide +kernel
theorem dX3_readEnd_9 : decode cX3_readEnd 9 = .ok (.getfield 15, 3) := by decide +kernel
theorem dX3_readEnd_12 : decode cX3_readEnd 12 = .ok (.if_icmp .ge 30, 3) := by decide +kernel
theorem dX3_readEnd_15 : decode cX3_readEnd 15 = .ok (.aload_n 0, 1) := by decide +kernel
theorem dX3_readEnd_16 : decode cX3_readEnd 16 = .ok (.getfield 9, 3) := by decide +kernel
theorem dX3_readEnd_19 : decode cX3_readEnd 19 = .ok (.aload_n 0, 1) := by decide +kernel
theorem dX3_readEnd_20 : decode cX3_readEnd 20 = .ok (.getfield 19, 3) := by decide +kernel
theorem dX3_readEnd_23 : decode cX3_readEnd 23 = .ok (.iaload, 1) := by decide +kernel
theorem dX3_readEnd_24 : decode cX3_readEnd 24 = .ok (.bipush 59, 2) := by decide +kernel
theorem dX3_readEnd_26 : decode cX3_readEnd 26 = .ok (.if_icmp .ne 16, 3) := by decide +kernel
theorem dX3_readEnd_29 : decode cX3_readEnd 29 = .ok (.aload_n 0, 1) := by decide +kernel
theorem dX3_readEnd_30 : decode cX3_readEnd 30 = .ok (.dup, 1) := by decide +kernel
theorem dX3_readEnd_31 : decode cX3_readEnd 31 = .ok (.getfield 19, 3) := by decide +kernel
theorem dX3_readEnd_34 : decode cX3_readEnd 34 = .ok (.iconst 1, 1) := by decide +kernel
theorem dX3_readEnd_35 : decode cX3_readEnd 35 = .ok (.iadd, 1) := by decide +kernel
theorem dX3_readEnd_36 : decode cX3_readEnd 36 = .ok (.putfield 19, 3) := by decide +kernel
theorem dX3_readEnd_39 : decode cX3_readEnd 39 = .ok (.goto 11, 3) := by decide +kernel
theorem dX3_readEnd_42 : decode cX3_readEnd 42 = .ok (.aload_n 0, 1) := by decide +kernel
theorem dX3_readEnd_43 : decode cX3_readEnd 43 = .ok (.aload_n 0, 1) := by decide +kernel
theorem dX3_readEnd_44 : decode cX3_readEnd 44 = .ok (.getfield 19, 3) := by decide +kernel
theorem dX3_readEnd_47 : decode cX3_readEnd 47 = .ok (.invokevirtual 95, 3) := by decide +kernel
theorem dX3_readEnd_50 : decode cX3_readEnd 50 = .ok (.return_, 1) := by decide +kernel
def p_X3_readEnd_J42 (F : tF) (A : tA) (K : tF → tA → Prop)  : Prop := (p_X3_fail F A (F 2) (fun F_47 A_47 => (K F_47 A_47)))
set_option maxHeartbeats 4000000 in
set_option maxRecDepth 100000 in
theorem b_X3_readEnd_J42 {p : Program} {l : Launch} {e : Env} {s : State} {m : MethodId} {args : Array Value} {below : List Frame} {meth : Method} {c : Code} {Q : State → Prop} {D : va_G} {cI cZ cR : ClassId} {adK adV : Nat → Nat} {A9 : Nat → Prop} {o : Nat} {q : Nat → Nat} {K : tF → tA → Prop}  (F : tF) (A : tA) (X : CX p s m args c yX3_readEnd.cls cX3_readEnd 1 D cI cZ cR adK adV A9) (ret : RTv p l e (rmN 1 21) s m args below meth c Q cX3_readEnd D A9 (fun (u : (tF × tA)) => K u.1 u.2) (fun (u : (tF × tA)) => (wX3 cI cZ o q u.1 u.2 : va_W)))  (H : Heap) (locs : List Loc) (ls : Array Slot) (h : p_X3_readEnd_J42 F A K) (hP : va_P D vwCl (wX3 cI cZ o q F A : va_W) H) (hD : va_D A9 (wX3 cI cZ o q F A : va_W)) (hS : va_S A9 s.heap H locs) (hl : lv_has ls 1 [(0, .ref o)]) : W p l e (rmN 1 21) s m args below meth c H locs 0 0 Q (F0 m 42 ls []) := by
  obtain ⟨hx, hb, hml, ht, hown, hK, hA, hE⟩ := id X
  unfold p_X3_readEnd_J42 at h
  refine lv_aload_n hx hb dX3_readEnd_42 rfl (lv_at hl 0 rfl) ?_
  refine lv_aload_n hx hb dX3_readEnd_43 rfl (lv_at hl 0 rfl) ?_
  refine va_get (C := RX3) (T := TX3) (N := 4) (own := RX3) (v := .int (F 2)) hx hb ht inlX3 hown hK hP 0 rfl rfl 2 (Nat.le_of_ble_eq_true rfl) (ht _ mw_3_22) (fun _ h9 => h9) rfl dX3_readEnd_44 ?_
  refine C_vv (wr := []) X hP hD hS [.int (F 2)] [] (w_X3_fail l D cI cZ cR adK adV _ o q F A (F 2) _ h) cal_X3_fail mw_10_18 rfl [0, 1] [] [0, 1] (fun u => (wX3 cI cZ o q u.1 u.2 : va_W)) rfl rfl (fun _ => rfl) rfl 0 rfl rfl ⟨rfl, rfl⟩ ⟨Nat.le_of_ble_eq_true rfl, Nat.le_of_ble_eq_true rfl⟩ hl.1 rfl (Nat.le_of_ble_eq_true rfl) ⟨Nat.zero_le _, Nat.zero_le _⟩ dX3_readEnd_47 (fun u H locs h hP hD hS => ?_)
  obtain ⟨F_47, A_47⟩ := u
  try dsimp only at h
  have hP : va_P D vwCl (wX3 cI cZ o q F_47 A_47 : va_W) H := hP
  have hD : va_D A9 (wX3 cI cZ o q F_47 A_47 : va_W) := hD
  exact ret (F_47, A_47) _ _ _ _ dX3_readEnd_50 h hP hD hS
def p_X3_readEnd (F : tF) (A : tA) (K : tF → tA → Prop) : Prop := (p_X3_skipBlanks F A (fun F_1 A_1 => (((F_1 1) ≤ (F_1 2) → (p_X3_readEnd_J42 F_1 A_1 K)) ∧ (¬ (F_1 1) ≤ (F_1 2) → (vp_in (F_1 2) 200 ∧ ((¬ ((A_1 0) ((F_1 2)).toNatClampNeg) = (59 : Int32) → (p_X3_readEnd_J42 F_1 A_1 K)) ∧ (((A_1 0) ((F_1 2)).toNatClampNeg) = (59 : Int32) → (∀ y36 : Int32, y36 = ((F_1 2) + (1 : Int32)) → (K (upd F_1 2 y36) A_1)))))))))
set_option maxHeartbeats 4000000 in
set_option maxRecDepth 100000 in
theorem w_X3_readEnd (l : Launch) (D : va_G) (cI cZ cR : ClassId) (adK adV : Nat → Nat) (sz : Nat) (o : Nat) (q : Nat → Nat) (F : tF) (A : tA) (K : tF → tA → Prop) (h : p_X3_readEnd F A K) : MV l D cI cZ cR adK adV yX3_readEnd cX3_readEnd 1 none (rmN 1 21) [.ref o] (wX3 cI cZ o q F A : va_W) sz (fun (u : (tF × tA)) => K u.1 u.2) (fun (u : (tF × tA)) => (wX3 cI cZ o q u.1 u.2 : va_W)) := by
  refine M_v (by decide +kernel) (Nat.le_of_ble_eq_true rfl) ?_
  intro p e s m args below meth c Q A9 ls X ret hP hD hS hl
  obtain ⟨hx, hb, hml, ht, hown, hK, hA, hE⟩ := id X
  have hl : lv_has ls 1 [(0, .ref o)] := hl
  unfold p_X3_readEnd at h
  refine lv_aload_n hx hb dX3_readEnd_0 rfl (lv_at hl 0 rfl) ?_
  refine C_vv (wr := []) X hP hD hS [] [] (w_X3_skipBlanks l D cI cZ cR adK adV _ o q F A _ h) cal_X3_skipBlanks mw_7_16 rfl [0, 1] [] [0, 1] (fun u => (wX3 cI cZ o q u.1 u.2 : va_W)) rfl rfl (fun _ => rfl) rfl 0 rfl rfl ⟨rfl, rfl⟩ ⟨Nat.le_of_ble_eq_true rfl, Nat.le_of_ble_eq_true rfl⟩ hl.1 rfl (Nat.le_of_ble_eq_true rfl) ⟨Nat.zero_le _, Nat.zero_le _⟩ dX3_readEnd_1 (fun u H locs h hP hD hS => ?_)
  obtain ⟨F_1, A_1⟩ := u
  try dsimp only at h
  have hP : va_P D vwCl (wX3 cI cZ o q F_1 A_1 : va_W) H := hP
  have hD : va_D A9 (wX3 cI cZ o q F_1 A_1 : va_W) := hD
  refine lv_aload_n hx hb dX3_readEnd_4 rfl (lv_at hl 0 rfl) ?_
  refine va_get (C := RX3) (T := TX3) (N := 4) (own := RX3) (v := .int (F_1 2)) hx hb ht inlX3 hown hK hP 0 rfl rfl 2 (Nat.le_of_ble_eq_true rfl) (ht _ mw_3_22) (fun _ h9 => h9) rfl dX3_readEnd_5 ?_
  refine lv_aload_n hx hb dX3_readEnd_8 rfl (lv_at hl 0 rfl) ?_
  refine va_get (C := RX3) (T := TX3) (N := 4) (own := RX3) (v := .int (F_1 1)) hx hb ht inlX3 hown hK hP 0 rfl rfl 1 (Nat.le_of_ble_eq_true rfl) (ht _ mw_3_21) (fun _ h9 => h9) rfl dX3_readEnd_9 ?_
  refine lv_icmp_ge (tgt := 42) hx hb dX3_readEnd_12 (by decide) (fun c12 => ?_) (fun c12 => ?_)
  · replace h := h.1 c12
    exact b_X3_readEnd_J42 F_1 A_1 X ret  _ _ _ h hP hD hS (lv_sub hl [0] rfl)
  · replace h := h.2 c12
    refine lv_aload_n hx hb dX3_readEnd_15 rfl (lv_at hl 0 rfl) ?_
    refine va_get (C := RX3) (T := TX3) (N := 4) (own := RX3) (v := .ref (q 0)) hx hb ht inlX3 hown hK hP 0 rfl rfl 0 (Nat.le_of_ble_eq_true rfl) (ht _ mw_3_20) (fun _ h9 => h9) rfl dX3_readEnd_16 ?_
    refine lv_aload_n hx hb dX3_readEnd_19 rfl (lv_at hl 0 rfl) ?_
    refine va_get (C := RX3) (T := TX3) (N := 4) (own := RX3) (v := .int (F_1 2)) hx hb ht inlX3 hown hK hP 0 rfl rfl 2 (Nat.le_of_ble_eq_true rfl) (ht _ mw_3_22) (fun _ h9 => h9) rfl dX3_readEnd_20 ?_
    obtain ⟨hi23, h⟩ := h
    refine g_iald (f := (A_1 0)) (k := ((F_1 2)).toNatClampNeg) hx hb hK hP 1 0 rfl rfl hi23 rfl dX3_readEnd_23 ?_
    refine lv_bipush (v := 59) hx hb dX3_readEnd_24 (by decide) ?_
    refine lv_icmp_ne (tgt := 42) hx hb dX3_readEnd_26 (by decide) (fun c26 => ?_) (fun c26 => ?_)
    · replace h := h.1 c26
      exact b_X3_readEnd_J42 F_1 A_1 X ret  _ _ _ h hP hD hS (lv_sub hl [0] rfl)
    · replace h := h.2 c26
      refine lv_aload_n hx hb dX3_readEnd_29 rfl (lv_at hl 0 rfl) ?_
      refine lv_dup hx hb dX3_readEnd_30 rfl ?_
      refine va_get (C := RX3) (T := TX3) (N := 4) (own := RX3) (v := .int (F_1 2)) hx hb ht inlX3 hown hK hP 0 rfl rfl 2 (Nat.le_of_ble_eq_true rfl) (ht _ mw_3_22) (fun _ h9 => h9) rfl dX3_readEnd_31 ?_
      refine lv_iconst (v := 1) hx hb dX3_readEnd_34 (by decide) ?_
      refine lv_iadd hx hb dX3_readEnd_35 ?_
      refine lv_topi (fun y36 ey36 => ?_)
      replace h := h y36 ey36
      refine va_put (C := RX3) (T := TX3) (N := 4) (own := RX3) (v := .int y36) hx hb ht inlX3 tyX3 tyX3_ok nmX3 hown hK hP hD hS 0 rfl rfl 2 (Nat.le_of_ble_eq_true rfl) (ht _ mw_3_22) (fun _ h9 => h9) rfl (tyX3_ok 2 (Nat.le_of_ble_eq_true rfl)) rfl rfl (Nat.le_of_ble_eq_true rfl) dX3_readEnd_36 (fun H locs hP hD hS => ?_)
      have hP : va_P D vwCl (wX3 cI cZ o q (upd F_1 2 y36) A_1 : va_W) H := hP
      have hD : va_D A9 (wX3 cI cZ o q (upd F_1 2 y36) A_1 : va_W) := hD
      refine lv_goto (tgt := 50) hx hb dX3_readEnd_39 (by decide) ?_
      exact ret ((upd F_1 2 y36), A_1) _ _ _ _ dX3_readEnd_50 h hP hD hS
theorem dX3_readNumber_0 : decode cX3_readNumber 0 = .ok (.aload_n 0, 1) := by decide +kernel
theorem dX3_readNumber_1 : decode cX3_readNumber 1 = .ok (.invokevirtual 27, 3) := by decide +kernel
theorem dX3_readNumber_4 : decode cX3_readNumber 4 = .ok (.aload_n 0, 1) := by decide +kernel
theorem dX3_readNumber_5 : decode cX3_readNumber 5 = .ok (.getfield 19, 3) := by decide +kernel
theorem dX3_readNumber_8 : decode cX3_readNumber 8 = .ok (.istore_n 2, 1) := by decide +kernel
theorem dX3_readNumber_9 : decode cX3_readNumber 9 = .ok (.iconst 0, 1) := by decide +kernel
theorem dX3_readNumber_10 : decode cX3_readNumber 10 = .ok (.istore_n 3, 1) := by decide +kernel
theorem dX3_readNumber_11 : decode cX3_readNumber 11 = .ok (.aload_n 0, 1) := by decide +kernel
theorem dX3_readNumber_12 : decode cX3_readNumber 12 = .ok (.getfield 19, 3) := by decide +kernel
theorem dX3_readNumber_15 : decode cX3_readNumber 15 = .ok (.aload_n 0, 1) := by decide +kernel
theorem dX3_readNumber_16 : decode cX3_readNumber 16 = .ok (.getfield 15, 3) := by decide +kernel
theorem dX3_readNumber_19 : decode cX3_readNumber 19 = .ok (.if_icmp .ge 72, 3) := by decide +kernel
theorem dX3_readNumber_22 : decode cX3_readNumber 22 = .ok (.aload_n 0, 1) := by decide +kernel
theorem dX3_readNumber_23 : decode cX3_readNumber 23 = .ok (.getfield 9, 3) := by decide +kernel
theorem dX3_readNumber_26 : decode cX3_readNumber 26 = .ok (.aload_n 0, 1) := by decide +kernel
theorem dX3_readNumber_27 : decode cX3_readNumber 27 = .ok (.getfield 19, 3) := by decide +kernel
theorem dX3_readNumber_30 : decode cX3_readNumber 30 = .ok (.iaload, 1) := by decide +kernel
theorem dX3_readNumber_31 : decode cX3_readNumber 31 = .ok (.bipush 48, 2) := by decide +kernel
theorem dX3_readNumber_33 : decode cX3_readNumber 33 = .ok (.if_icmp .lt 58, 3) := by decide +kernel
theorem dX3_readNumber_36 : decode cX3_readNumber 36 = .ok (.aload_n 0, 1) := by decide +kernel
theorem dX3_readNumber_37 : decode cX3_readNumber 37 = .ok (.getfield 9, 3) := by decide +kernel
theorem dX3_readNumber_40 : decode cX3_readNumber 40 = .ok (.aload_n 0, 1) := by decide +kernel
theorem dX3_readNumber_41 : decode cX3_readNumber 41 = .ok (.getfield 19, 3) := by decide +kernel
theorem dX3_readNumber_44 : decode cX3_readNumber 44 = .ok (.iaload, 1) := by decide +kernel
theorem dX3_readNumber_45 : decode cX3_readNumber 45 = .ok (.bipush 57, 2) := by decide +kernel
theorem dX3_readNumber_47 : decode cX3_readNumber 47 = .ok (.if_icmp .gt 44, 3) := by decide +kernel
theorem dX3_readNumber_50 : decode cX3_readNumber 50 = .ok (.aload_n 0, 1) := by decide +kernel
theorem dX3_readNumber_51 : decode cX3_readNumber 51 = .ok (.getfield 19, 3) := by decide +kernel
theorem dX3_readNumber_54 : decode cX3_readNumber 54 = .ok (.iload_n 2, 1) := by decide +kernel
theorem dX3_readNumber_55 : decode cX3_readNumber 55 = .ok (.isub, 1) := by decide +kernel
theorem dX3_readNumber_56 : decode cX3_readNumber 56 = .ok (.iconst 3, 1) := by decide +kernel
theorem dX3_readNumber_57 : decode cX3_readNumber 57 = .ok (.if_icmp .ge 21, 3) := by decide +kernel
theorem dX3_readNumber_60 : decode cX3_readNumber 60 = .ok (.iload_n 3, 1) := by decide +kernel
theorem dX3_readNumber_61 : decode cX3_readNumber 61 = .ok (.bipush 10, 2) := by decide +kernel
theorem dX3_readNumber_63 : decode cX3_readNumber 63 = .ok (.imul, 1) := by decide +kernel
theorem dX3_readNumber_64 : decode cX3_readNumber 64 = .ok (.aload_n 0, 1) := by decide +kernel
theorem dX3_readNumber_65 : decode cX3_readNumber 65 = .ok (.getfield 9, 3) := by decide +kernel
theorem dX3_readNumber_68 : decode cX3_readNumber 68 = .ok (.aload_n 0, 1) := by decide +kernel
theorem dX3_readNumber_69 : decode cX3_readNumber 69 = .ok (.getfield 19, 3) := by decide +kernel
theorem dX3_readNumber_72 : decode cX3_readNumber 72 = .ok (.iaload, 1) := by decide +kernel
theorem dX3_readNumber_73 : decode cX3_readNumber 73 = .ok (.iadd, 1) := by decide +kernel
theorem dX3_readNumber_74 : decode cX3_readNumber 74 = .ok (.bipush 48, 2) := by decide +kernel
theorem dX3_readNumber_76 : decode cX3_readNumber 76 = .ok (.isub, 1) := by decide +kernel
theorem dX3_readNumber_77 : decode cX3_readNumber 77 = .ok (.istore_n 3, 1) := by decide +kernel
theorem dX3_readNumber_78 : decode cX3_readNumber 78 = .ok (.aload_n 0, 1) := by decide +kernel
theorem dX3_readNumber_79 : decode cX3_readNumber 79 = .ok (.dup, 1) := by decide +kernel
theorem dX3_readNumber_80 : decode cX3_readNumber 80 = .ok (.getfield 19, 3) := by decide +kernel
theorem dX3_readNumber_83 : decode cX3_readNumber 83 = .ok (.iconst 1, 1) := by decide +kernel
theorem dX3_readNumber_84 : decode cX3_readNumber 84 = .ok (.iadd, 1) := by decide +kernel
theorem dX3_readNumber_85 : decode cX3_readNumber 85 = .ok (.putfield 19, 3) := by decide +kernel
theorem dX3_readNumber_88 : decode cX3_readNumber 88 = .ok (.goto (-77), 3) := by decide +kernel
theorem dX3_readNumber_91 : decode cX3_readNumber 91 = .ok (.aload_n 0, 1) := by decide +kernel
theorem dX3_readNumber_92 : decode cX3_readNumber 92 = .ok (.getfield 19, 3) := by decide +kernel
theorem dX3_readNumber_95 : decode cX3_readNumber 95 = .ok (.iload_n 2, 1) := by decide +kernel
theorem dX3_readNumber_96 : decode cX3_readNumber 96 = .ok (.isub, 1) := by decide +kernel
theorem dX3_readNumber_97 : decode cX3_readNumber 97 = .ok (.istore 4, 2) := by decide +kernel
theorem dX3_readNumber_99 : decode cX3_readNumber 99 = .ok (.iload 4, 2) := by decide +kernel
theorem dX3_readNumber_101 : decode cX3_readNumber 101 = .ok (.iconst 1, 1) := by decide +kernel
theorem dX3_readNumber_102 : decode cX3_readNumber 102 = .ok (.if_icmp .lt 14, 3) := by decide +kernel
theorem dX3_readNumber_105 : decode cX3_readNumber 105 = .ok (.iload 4, 2) := by decide +kernel
theorem dX3_readNumber_107 : decode cX3_readNumber 107 = .ok (.iconst 3, 1) := by decide +kernel
theorem dX3_readNumber_108 : decode cX3_readNumber 108 = .ok (.if_icmp .gt 8, 3) := by decide +kernel
theorem dX3_readNumber_111 : decode cX3_readNumber 111 = .ok (.iload_n 3, 1) := by decide +kernel
theorem dX3_readNumber_112 : decode cX3_readNumber 112 = .ok (.iload_n 1, 1) := by decide +kernel
theorem dX3_readNumber_113 : decode cX3_readNumber 113 = .ok (.if_icmp .le 10, 3) := by decide +kernel
theorem dX3_readNumber_116 : decode cX3_readNumber 116 = .ok (.aload_n 0, 1) := by decide +kernel
theorem dX3_readNumber_117 : decode cX3_readNumber 117 = .ok (.iload_n 2, 1) := by decide +kernel
theorem dX3_readNumber_118 : decode cX3_readNumber 118 = .ok (.invokevirtual 95, 3) := by decide +kernel
theorem dX3_readNumber_121 : decode cX3_readNumber 121 = .ok (.iconst 0, 1) := by decide +kernel
theorem dX3_readNumber_122 : decode cX3_readNumber 122 = .ok (.ireturn, 1) := by decide +kernel
theorem dX3_readNumber_123 : decode cX3_readNumber 123 = .ok (.iload_n 3, 1) := by decide +kernel
theorem dX3_readNumber_124 : decode cX3_readNumber 124 = .ok (.ireturn, 1) := by decide +kernel
def p_X3_readNumber_J116 (F : tF) (A : tA) (K : Int32 → tF → tA → Prop) (x2 : Int32) : Prop := (p_X3_fail F A x2 (fun F_118 A_118 => (K (0 : Int32) F_118 A_118)))
set_option maxHeartbeats 4000000 in
set_option maxRecDepth 100000 in
theorem b_X3_readNumber_J116 {p : Program} {l : Launch} {e : Env} {s : State} {m : MethodId} {args : Array Value} {below : List Frame} {meth : Method} {c : Code} {Q : State → Prop} {D : va_G} {cI cZ cR : ClassId} {adK adV : Nat → Nat} {A9 : Nat → Prop} {o : Nat} {q : Nat → Nat} {K : Int32 → tF → tA → Prop}  (F : tF) (A : tA) (x2 : Int32) (X : CX p s m args c yX3_readNumber.cls cX3_readNumber 5 D cI cZ cR adK adV A9) (ret : RTi p l e (rmN 1 21) s m args below meth c Q cX3_readNumber D A9 (fun (r : Int32) (u : (tF × tA)) => K r u.1 u.2) (fun (u : (tF × tA)) => (wX3 cI cZ o q u.1 u.2 : va_W)))  (H : Heap) (locs : List Loc) (ls : Array Slot) (h : p_X3_readNumber_J116 F A K x2) (hP : va_P D vwCl (wX3 cI cZ o q F A : va_W) H) (hD : va_D A9 (wX3 cI cZ o q F A : va_W)) (hS : va_S A9 s.heap H locs) (hl : lv_has ls 5 [(0, .ref o), (2, .int x2)]) : W p l e (rmN 1 21) s m args below meth c H locs 0 0 Q (F0 m 116 ls []) := by
  obtain ⟨hx, hb, hml, ht, hown, hK, hA, hE⟩ := id X
  unfold p_X3_readNumber_J116 at h
  refine lv_aload_n hx hb dX3_readNumber_116 rfl (lv_at hl 0 rfl) ?_
  refine lv_iload_n hx hb dX3_readNumber_117 rfl (lv_at hl 1 rfl) ?_
  refine C_vv (wr := []) X hP hD hS [.int x2] [] (w_X3_fail l D cI cZ cR adK adV _ o q F A x2 _ h) cal_X3_fail mw_10_18 rfl [0, 1] [] [0, 1] (fun u => (wX3 cI cZ o q u.1 u.2 : va_W)) rfl rfl (fun _ => rfl) rfl 0 rfl rfl ⟨rfl, rfl⟩ ⟨Nat.le_of_ble_eq_true rfl, Nat.le_of_ble_eq_true rfl⟩ hl.1 rfl (Nat.le_of_ble_eq_true rfl) ⟨Nat.zero_le _, Nat.zero_le _⟩ dX3_readNumber_118 (fun u H locs h hP hD hS => ?_)
  obtain ⟨F_118, A_118⟩ := u
  try dsimp only at h
  have hP : va_P D vwCl (wX3 cI cZ o q F_118 A_118 : va_W) H := hP
  have hD : va_D A9 (wX3 cI cZ o q F_118 A_118 : va_W) := hD
  refine lv_iconst (v := 0) hx hb dX3_readNumber_121 (by decide) ?_
  exact ret _ (F_118, A_118) _ _ _ _ dX3_readNumber_122 h hP hD hS
def p_X3_readNumber_J91 (F : tF) (A : tA) (K : Int32 → tF → tA → Prop) (x1 : Int32) (x2 : Int32) (x3 : Int32) : Prop := (∀ y97 : Int32, y97 = ((F 2) - x2) → ((y97 < (1 : Int32) → (p_X3_readNumber_J116 F A K x2)) ∧ (¬ y97 < (1 : Int32) → (((3 : Int32) < y97 → (p_X3_readNumber_J116 F A K x2)) ∧ (¬ (3 : Int32) < y97 → ((x3 ≤ x1 → (K x3 F A)) ∧ (¬ x3 ≤ x1 → (p_X3_readNumber_J116 F A K x2))))))))
set_option maxHeartbeats 4000000 in
set_option maxRecDepth 100000 in
theorem b_X3_readNumber_J91 {p : Program} {l : Launch} {e : Env} {s : State} {m : MethodId} {args : Array Value} {below : List Frame} {meth : Method} {c : Code} {Q : State → Prop} {D : va_G} {cI cZ cR : ClassId} {adK adV : Nat → Nat} {A9 : Nat → Prop} {o : Nat} {q : Nat → Nat} {K : Int32 → tF → tA → Prop}  (F : tF) (A : tA) (x1 : Int32) (x2 : Int32) (x3 : Int32) (X : CX p s m args c yX3_readNumber.cls cX3_readNumber 5 D cI cZ cR adK adV A9) (ret : RTi p l e (rmN 1 21) s m args below meth c Q cX3_readNumber D A9 (fun (r : Int32) (u : (tF × tA)) => K r u.1 u.2) (fun (u : (tF × tA)) => (wX3 cI cZ o q u.1 u.2 : va_W)))  (H : Heap) (locs : List Loc) (ls : Array Slot) (h : p_X3_readNumber_J91 F A K x1 x2 x3) (hP : va_P D vwCl (wX3 cI cZ o q F A : va_W) H) (hD : va_D A9 (wX3 cI cZ o q F A : va_W)) (hS : va_S A9 s.heap H locs) (hl : lv_has ls 5 [(0, .ref o), (1, .int x1), (2, .int x2), (3, .int x3)]) : W p l e (rmN 1 21) s m args below meth c H locs 0 0 Q (F0 m 91 ls []) := by
  obtain ⟨hx, hb, hml, ht, hown, hK, hA, hE⟩ := id X
  unfold p_X3_readNumber_J91 at h
  refine lv_aload_n hx hb dX3_readNumber_91 rfl (lv_at hl 0 rfl) ?_
  refine va_get (C := RX3) (T := TX3) (N := 4) (own := RX3) (v := .int (F 2)) hx hb ht inlX3 hown hK hP 0 rfl rfl 2 (Nat.le_of_ble_eq_true rfl) (ht _ mw_3_22) (fun _ h9 => h9) rfl dX3_readNumber_92 ?_
  refine lv_iload_n hx hb dX3_readNumber_95 rfl (lv_at hl 2 rfl) ?_
  refine lv_isub hx hb dX3_readNumber_96 ?_
  refine lv_topi (fun y97 ey97 => ?_)
  replace h := h y97 ey97
  refine lv_istore (lv' := [(4, .int y97), (0, .ref o), (1, .int x1), (2, .int x2), (3, .int x3)]) hx hb dX3_readNumber_97 hl (by decide) rfl (fun ls hl => ?_)
  refine lv_iload hx hb dX3_readNumber_99 (lv_at hl 0 rfl) ?_
  refine lv_iconst (v := 1) hx hb dX3_readNumber_101 (by decide) ?_
  refine lv_icmp_lt (tgt := 116) hx hb dX3_readNumber_102 (by decide) (fun c102 => ?_) (fun c102 => ?_)
  · replace h := h.1 c102
    exact b_X3_readNumber_J116 F A x2 X ret  _ _ _ h hP hD hS (lv_sub hl [1, 3] rfl)
  · replace h := h.2 c102
    refine lv_iload hx hb dX3_readNumber_105 (lv_at hl 0 rfl) ?_
    refine lv_iconst (v := 3) hx hb dX3_readNumber_107 (by decide) ?_
    refine lv_icmp_gt (tgt := 116) hx hb dX3_readNumber_108 (by decide) (fun c108 => ?_) (fun c108 => ?_)
    · replace h := h.1 c108
      exact b_X3_readNumber_J116 F A x2 X ret  _ _ _ h hP hD hS (lv_sub hl [1, 3] rfl)
    · replace h := h.2 c108
      refine lv_iload_n hx hb dX3_readNumber_111 rfl (lv_at hl 4 rfl) ?_
      refine lv_iload_n hx hb dX3_readNumber_112 rfl (lv_at hl 2 rfl) ?_
      refine lv_icmp_le (tgt := 123) hx hb dX3_readNumber_113 (by decide) (fun c113 => ?_) (fun c113 => ?_)
      · replace h := h.1 c113
        refine lv_iload_n hx hb dX3_readNumber_123 rfl (lv_at hl 4 rfl) ?_
        exact ret _ (F, A) _ _ _ _ dX3_readNumber_124 h hP hD hS
      · replace h := h.2 c113
        exact b_X3_readNumber_J116 F A x2 X ret  _ _ _ h hP hD hS (lv_sub hl [1, 3] rfl)
def p_X3_readNumber_J78 (F : tF) (A : tA) (B11 : (tF → tA → Int32 → Prop)) (K : Int32 → tF → tA → Prop) (x1 : Int32) (x2 : Int32) (x3 : Int32) : Prop := (∀ y85 : Int32, y85 = ((F 2) + (1 : Int32)) → (B11 (upd F 2 y85) A x3))
set_option maxHeartbeats 4000000 in
set_option maxRecDepth 100000 in
theorem b_X3_readNumber_J78 {p : Program} {l : Launch} {e : Env} {s : State} {m : MethodId} {args : Array Value} {below : List Frame} {meth : Method} {c : Code} {Q : State → Prop} {D : va_G} {cI cZ cR : ClassId} {adK adV : Nat → Nat} {A9 : Nat → Prop} {o : Nat} {q : Nat → Nat} {K : Int32 → tF → tA → Prop} {B11 : (tF → tA → Int32 → Prop)} (F : tF) (A : tA) (x1 : Int32) (x2 : Int32) (x3 : Int32) (X : CX p s m args c yX3_readNumber.cls cX3_readNumber 5 D cI cZ cR adK adV A9) (ret : RTi p l e (rmN 1 21) s m args below meth c Q cX3_readNumber D A9 (fun (r : Int32) (u : (tF × tA)) => K r u.1 u.2) (fun (u : (tF × tA)) => (wX3 cI cZ o q u.1 u.2 : va_W))) (hB11 : ∀ (F : tF) (A : tA) (x3 : Int32) (H : Heap) (locs : List Loc) (ls : Array Slot), B11 F A x3 → va_P D vwCl (wX3 cI cZ o q F A : va_W) H → va_D A9 (wX3 cI cZ o q F A : va_W) → va_S A9 s.heap H locs → lv_has ls 5 [(0, .ref o), (1, .int x1), (2, .int x2), (3, .int x3)] → W p l e (rmN 1 21) s m args below meth c H locs 0 0 Q (F0 m 11 ls [])) (H : Heap) (locs : List Loc) (ls : Array Slot) (h : p_X3_readNumber_J78 F A B11 K x1 x2 x3) (hP : va_P D vwCl (wX3 cI cZ o q F A : va_W) H) (hD : va_D A9 (wX3 cI cZ o q F A : va_W)) (hS : va_S A9 s.heap H locs) (hl : lv_has ls 5 [(0, .ref o), (1, .int x1), (2, .int x2), (3, .int x3)]) : W p l e (rmN 1 21) s m args below meth c H locs 0 0 Q (F0 m 78 ls []) := by
  obtain ⟨hx, hb, hml, ht, hown, hK, hA, hE⟩ := id X
  unfold p_X3_readNumber_J78 at h
  refine lv_aload_n hx hb dX3_readNumber_78 rfl (lv_at hl 0 rfl) ?_
  refine lv_dup hx hb dX3_readNumber_79 rfl ?_
  refine va_get (C := RX3) (T := TX3) (N := 4) (own := RX3) (v := .int (F 2)) hx hb ht inlX3 hown hK hP 0 rfl rfl 2 (Nat.le_of_ble_eq_true rfl) (ht _ mw_3_22) (fun _ h9 => h9) rfl dX3_readNumber_80 ?_
  refine lv_iconst (v := 1) hx hb dX3_readNumber_83 (by decide) ?_
  refine lv_iadd hx hb dX3_readNumber_84 ?_
  refine lv_topi (fun y85 ey85 => ?_)
  replace h := h y85 ey85
  refine va_put (C := RX3) (T := TX3) (N := 4) (own := RX3) (v := .int y85) hx hb ht inlX3 tyX3 tyX3_ok nmX3 hown hK hP hD hS 0 rfl rfl 2 (Nat.le_of_ble_eq_true rfl) (ht _ mw_3_22) (fun _ h9 => h9) rfl (tyX3_ok 2 (Nat.le_of_ble_eq_true rfl)) rfl rfl (Nat.le_of_ble_eq_true rfl) dX3_readNumber_85 (fun H locs hP hD hS => ?_)
  have hP : va_P D vwCl (wX3 cI cZ o q (upd F 2 y85) A : va_W) H := hP
  have hD : va_D A9 (wX3 cI cZ o q (upd F 2 y85) A : va_W) := hD
  refine lv_goto (tgt := 11) hx hb dX3_readNumber_88 (by decide) ?_
  exact hB11 (upd F 2 y85) A x3 _ _ _ h hP hD hS (lv_sub hl [0, 1, 2, 3] rfl)
def p_X3_readNumber_L11 (x1 : Int32) (x2 : Int32) (K : Int32 → tF → tA → Prop) : Nat → tF → tA → Int32 → Prop
  | 0, _, _, _ => False
  | n11 + 1, F, A, x3 => (((F 1) ≤ (F 2) → (p_X3_readNumber_J91 F A K x1 x2 x3)) ∧ (¬ (F 1) ≤ (F 2) → (vp_in (F 2) 200 ∧ ((((A 0) ((F 2)).toNatClampNeg) < (48 : Int32) → (p_X3_readNumber_J91 F A K x1 x2 x3)) ∧ (¬ ((A 0) ((F 2)).toNatClampNeg) < (48 : Int32) → (vp_in (F 2) 200 ∧ (((57 : Int32) < ((A 0) ((F 2)).toNatClampNeg) → (p_X3_readNumber_J91 F A K x1 x2 x3)) ∧ (¬ (57 : Int32) < ((A 0) ((F 2)).toNatClampNeg) → (((3 : Int32) ≤ ((F 2) - x2) → (p_X3_readNumber_J78 F A (p_X3_readNumber_L11 x1 x2 K n11) K x1 x2 x3)) ∧ (¬ (3 : Int32) ≤ ((F 2) - x2) → (vp_in (F 2) 200 ∧ (∀ y77 : Int32, y77 = (((x3 * (10 : Int32)) + ((A 0) ((F 2)).toNatClampNeg)) - (48 : Int32)) → (p_X3_readNumber_J78 F A (p_X3_readNumber_L11 x1 x2 K n11) K x1 x2 y77)))))))))))))
set_option maxHeartbeats 4000000 in
set_option maxRecDepth 100000 in
theorem b_X3_readNumber_L11 {p : Program} {l : Launch} {e : Env} {s : State} {m : MethodId} {args : Array Value} {below : List Frame} {meth : Method} {c : Code} {Q : State → Prop} {D : va_G} {cI cZ cR : ClassId} {adK adV : Nat → Nat} {A9 : Nat → Prop} {o : Nat} {q : Nat → Nat} {K : Int32 → tF → tA → Prop}  (x1 : Int32) (x2 : Int32) (X : CX p s m args c yX3_readNumber.cls cX3_readNumber 5 D cI cZ cR adK adV A9) (ret : RTi p l e (rmN 1 21) s m args below meth c Q cX3_readNumber D A9 (fun (r : Int32) (u : (tF × tA)) => K r u.1 u.2) (fun (u : (tF × tA)) => (wX3 cI cZ o q u.1 u.2 : va_W)))   : ∀ (n : Nat) (F : tF) (A : tA) (x3 : Int32) (H : Heap) (locs : List Loc) (ls : Array Slot), p_X3_readNumber_L11 x1 x2 K n F A x3 → va_P D vwCl (wX3 cI cZ o q F A : va_W) H → va_D A9 (wX3 cI cZ o q F A : va_W) → va_S A9 s.heap H locs → lv_has ls 5 [(0, .ref o), (1, .int x1), (2, .int x2), (3, .int x3)] → W p l e (rmN 1 21) s m args below meth c H locs 0 0 Q (F0 m 11 ls []) := by
  obtain ⟨hx, hb, hml, ht, hown, hK, hA, hE⟩ := id X
  intro n
  induction n with
  | zero => intro F A x3 H locs ls h; exact False.elim h
  | succ n11 ih =>
    intro F A x3 H locs ls h hP hD hS hl
    rw [p_X3_readNumber_L11] at h
    refine lv_aload_n hx hb dX3_readNumber_11 rfl (lv_at hl 0 rfl) ?_
    refine va_get (C := RX3) (T := TX3) (N := 4) (own := RX3) (v := .int (F 2)) hx hb ht inlX3 hown hK hP 0 rfl rfl 2 (Nat.le_of_ble_eq_true rfl) (ht _ mw_3_22) (fun _ h9 => h9) rfl dX3_readNumber_12 ?_
    refine lv_aload_n hx hb dX3_readNumber_15 rfl (lv_at hl 0 rfl) ?_
    refine va_get (C := RX3) (T := TX3) (N := 4) (own := RX3) (v := .int (F 1)) hx hb ht inlX3 hown hK hP 0 rfl rfl 1 (Nat.le_of_ble_eq_true rfl) (ht _ mw_3_21) (fun _ h9 => h9) rfl dX3_readNumber_16 ?_
    refine lv_icmp_ge (tgt := 91) hx hb dX3_readNumber_19 (by decide) (fun c19 => ?_) (fun c19 => ?_)
    · replace h := h.1 c19
      exact b_X3_readNumber_J91 F A x1 x2 x3 X ret  _ _ _ h hP hD hS (lv_sub hl [0, 1, 2, 3] rfl)
    · replace h := h.2 c19
      refine lv_aload_n hx hb dX3_readNumber_22 rfl (lv_at hl 0 rfl) ?_
      refine va_get (C := RX3) (T := TX3) (N := 4) (own := RX3) (v := .ref (q 0)) hx hb ht inlX3 hown hK hP 0 rfl rfl 0 (Nat.le_of_ble_eq_true rfl) (ht _ mw_3_20) (fun _ h9 => h9) rfl dX3_readNumber_23 ?_
      refine lv_aload_n hx hb dX3_readNumber_26 rfl (lv_at hl 0 rfl) ?_
      refine va_get (C := RX3) (T := TX3) (N := 4) (own := RX3) (v := .int (F 2)) hx hb ht inlX3 hown hK hP 0 rfl rfl 2 (Nat.le_of_ble_eq_true rfl) (ht _ mw_3_22) (fun _ h9 => h9) rfl dX3_readNumber_27 ?_
      obtain ⟨hi30, h⟩ := h
      refine g_iald (f := (A 0)) (k := ((F 2)).toNatClampNeg) hx hb hK hP 1 0 rfl rfl hi30 rfl dX3_readNumber_30 ?_
      refine lv_bipush (v := 48) hx hb dX3_readNumber_31 (by decide) ?_
      refine lv_icmp_lt (tgt := 91) hx hb dX3_readNumber_33 (by decide) (fun c33 => ?_) (fun c33 => ?_)
      · replace h := h.1 c33
        exact b_X3_readNumber_J91 F A x1 x2 x3 X ret  _ _ _ h hP hD hS (lv_sub hl [0, 1, 2, 3] rfl)
      · replace h := h.2 c33
        refine lv_aload_n hx hb dX3_readNumber_36 rfl (lv_at hl 0 rfl) ?_
        refine va_get (C := RX3) (T := TX3) (N := 4) (own := RX3) (v := .ref (q 0)) hx hb ht inlX3 hown hK hP 0 rfl rfl 0 (Nat.le_of_ble_eq_true rfl) (ht _ mw_3_20) (fun _ h9 => h9) rfl dX3_readNumber_37 ?_
        refine lv_aload_n hx hb dX3_readNumber_40 rfl (lv_at hl 0 rfl) ?_
        refine va_get (C := RX3) (T := TX3) (N := 4) (own := RX3) (v := .int (F 2)) hx hb ht inlX3 hown hK hP 0 rfl rfl 2 (Nat.le_of_ble_eq_true rfl) (ht _ mw_3_22) (fun _ h9 => h9) rfl dX3_readNumber_41 ?_
        obtain ⟨hi44, h⟩ := h
        refine g_iald (f := (A 0)) (k := ((F 2)).toNatClampNeg) hx hb hK hP 1 0 rfl rfl hi44 rfl dX3_readNumber_44 ?_
        refine lv_bipush (v := 57) hx hb dX3_readNumber_45 (by decide) ?_
        refine lv_icmp_gt (tgt := 91) hx hb dX3_readNumber_47 (by decide) (fun c47 => ?_) (fun c47 => ?_)
        · replace h := h.1 c47
          exact b_X3_readNumber_J91 F A x1 x2 x3 X ret  _ _ _ h hP hD hS (lv_sub hl [0, 1, 2, 3] rfl)
        · replace h := h.2 c47
          refine lv_aload_n hx hb dX3_readNumber_50 rfl (lv_at hl 0 rfl) ?_
          refine va_get (C := RX3) (T := TX3) (N := 4) (own := RX3) (v := .int (F 2)) hx hb ht inlX3 hown hK hP 0 rfl rfl 2 (Nat.le_of_ble_eq_true rfl) (ht _ mw_3_22) (fun _ h9 => h9) rfl dX3_readNumber_51 ?_
          refine lv_iload_n hx hb dX3_readNumber_54 rfl (lv_at hl 2 rfl) ?_
          refine lv_isub hx hb dX3_readNumber_55 ?_
          refine lv_iconst (v := 3) hx hb dX3_readNumber_56 (by decide) ?_
          refine lv_icmp_ge (tgt := 78) hx hb dX3_readNumber_57 (by decide) (fun c57 => ?_) (fun c57 => ?_)
          · replace h := h.1 c57
            exact b_X3_readNumber_J78 F A x1 x2 x3 X ret ih _ _ _ h hP hD hS (lv_sub hl [0, 1, 2, 3] rfl)
          · replace h := h.2 c57
            refine lv_iload_n hx hb dX3_readNumber_60 rfl (lv_at hl 3 rfl) ?_
            refine lv_bipush (v := 10) hx hb dX3_readNumber_61 (by decide) ?_
            refine lv_imul hx hb dX3_readNumber_63 ?_
            refine lv_aload_n hx hb dX3_readNumber_64 rfl (lv_at hl 0 rfl) ?_
            refine va_get (C := RX3) (T := TX3) (N := 4) (own := RX3) (v := .ref (q 0)) hx hb ht inlX3 hown hK hP 0 rfl rfl 0 (Nat.le_of_ble_eq_true rfl) (ht _ mw_3_20) (fun _ h9 => h9) rfl dX3_readNumber_65 ?_
            refine lv_aload_n hx hb dX3_readNumber_68 rfl (lv_at hl 0 rfl) ?_
            refine va_get (C := RX3) (T := TX3) (N := 4) (own := RX3) (v := .int (F 2)) hx hb ht inlX3 hown hK hP 0 rfl rfl 2 (Nat.le_of_ble_eq_true rfl) (ht _ mw_3_22) (fun _ h9 => h9) rfl dX3_readNumber_69 ?_
            obtain ⟨hi72, h⟩ := h
            refine g_iald (f := (A 0)) (k := ((F 2)).toNatClampNeg) hx hb hK hP 1 0 rfl rfl hi72 rfl dX3_readNumber_72 ?_
            refine lv_iadd hx hb dX3_readNumber_73 ?_
            refine lv_bipush (v := 48) hx hb dX3_readNumber_74 (by decide) ?_
            refine lv_isub hx hb dX3_readNumber_76 ?_
            refine lv_topi (fun y77 ey77 => ?_)
            replace h := h y77 ey77
            refine lv_istore_n (lv' := [(3, .int y77), (0, .ref o), (1, .int x1), (2, .int x2)]) hx hb dX3_readNumber_77 rfl hl (by decide) rfl (fun ls hl => ?_)
            exact b_X3_readNumber_J78 F A x1 x2 y77 X ret ih _ _ _ h hP hD hS (lv_sub hl [1, 2, 3, 0] rfl)
def p_X3_readNumber (F : tF) (A : tA) (x1 : Int32) (K : Int32 → tF → tA → Prop) : Prop := (p_X3_skipBlanks F A (fun F_1 A_1 => (∀ y8 : Int32, y8 = (F_1 2) → (∃ n11, p_X3_readNumber_L11 x1 y8 K n11 F_1 A_1 (0 : Int32)))))
set_option maxHeartbeats 4000000 in
set_option maxRecDepth 100000 in
theorem w_X3_readNumber (l : Launch) (D : va_G) (cI cZ cR : ClassId) (adK adV : Nat → Nat) (sz : Nat) (o : Nat) (q : Nat → Nat) (F : tF) (A : tA) (x1 : Int32) (K : Int32 → tF → tA → Prop) (h : p_X3_readNumber F A x1 K) : MI l D cI cZ cR adK adV yX3_readNumber cX3_readNumber 5 (some .int) (rmN 1 21) [.ref o, .int x1] (wX3 cI cZ o q F A : va_W) sz (fun (r : Int32) (u : (tF × tA)) => K r u.1 u.2) (fun (u : (tF × tA)) => (wX3 cI cZ o q u.1 u.2 : va_W)) := by
  refine M_i (by decide +kernel) (Nat.le_of_ble_eq_true rfl) ?_
  intro p e s m args below meth c Q A9 ls X ret hP hD hS hl
  obtain ⟨hx, hb, hml, ht, hown, hK, hA, hE⟩ := id X
  have hl : lv_has ls 5 [(0, .ref o), (1, .int x1)] := hl
  unfold p_X3_readNumber at h
  refine lv_aload_n hx hb dX3_readNumber_0 rfl (lv_at hl 0 rfl) ?_
  refine C_vv (wr := []) X hP hD hS [] [] (w_X3_skipBlanks l D cI cZ cR adK adV _ o q F A _ h) cal_X3_skipBlanks mw_7_16 rfl [0, 1] [] [0, 1] (fun u => (wX3 cI cZ o q u.1 u.2 : va_W)) rfl rfl (fun _ => rfl) rfl 0 rfl rfl ⟨rfl, rfl⟩ ⟨Nat.le_of_ble_eq_true rfl, Nat.le_of_ble_eq_true rfl⟩ hl.1 rfl (Nat.le_of_ble_eq_true rfl) ⟨Nat.zero_le _, Nat.zero_le _⟩ dX3_readNumber_1 (fun u H locs h hP hD hS => ?_)
  obtain ⟨F_1, A_1⟩ := u
  try dsimp only at h
  have hP : va_P D vwCl (wX3 cI cZ o q F_1 A_1 : va_W) H := hP
  have hD : va_D A9 (wX3 cI cZ o q F_1 A_1 : va_W) := hD
  refine lv_aload_n hx hb dX3_readNumber_4 rfl (lv_at hl 0 rfl) ?_
  refine va_get (C := RX3) (T := TX3) (N := 4) (own := RX3) (v := .int (F_1 2)) hx hb ht inlX3 hown hK hP 0 rfl rfl 2 (Nat.le_of_ble_eq_true rfl) (ht _ mw_3_22) (fun _ h9 => h9) rfl dX3_readNumber_5 ?_
  refine lv_topi (fun y8 ey8 => ?_)
  replace h := h y8 ey8
  refine lv_istore_n (lv' := [(2, .int y8), (0, .ref o), (1, .int x1)]) hx hb dX3_readNumber_8 rfl hl (by decide) rfl (fun ls hl => ?_)
  refine lv_iconst (v := 0) hx hb dX3_readNumber_9 (by decide) ?_
  refine lv_istore_n (lv' := [(3, .int (0 : Int32)), (2, .int y8), (0, .ref o), (1, .int x1)]) hx hb dX3_readNumber_10 rfl hl (by decide) rfl (fun ls hl => ?_)
  obtain ⟨n11, h⟩ := h
  exact b_X3_readNumber_L11 x1 y8 X ret  n11 F_1 A_1 (0 : Int32) _ _ _ h hP hD hS (lv_sub hl [2, 3, 1, 0] rfl)
