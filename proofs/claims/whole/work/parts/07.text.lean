/-! 07.text: what the bytecode of these methods asks, and the walks (written by wip/gen/mk.py) -/
theorem dX3_append_0 : decode cX3_append 0 = .ok (.iconst 0, 1) := by decide +kernel
theorem dX3_append_1 : decode cX3_append 1 = .ok (.istore 4, 2) := by decide +kernel
theorem dX3_append_3 : decode cX3_append 3 = .ok (.iload 4, 2) := by decide +kernel
theorem dX3_append_5 : decode cX3_append 5 = .ok (.iload_n 3, 1) := by decide +kernel
theorem dX3_append_6 : decode cX3_append 6 = .ok (.if_icmp .ge 50, 3) := by decide +kernel
theorem dX3_append_9 : decode cX3_append 9 = .ok (.aload_n 0, 1) := by decide +kernel
theorem dX3_append_10 : decode cX3_append 10 = .ok (.getfield 15, 3) := by decide +kernel
theorem dX3_append_13 : decode cX3_append 13 = .ok (.sipush 200, 3) := by decide +kernel
theorem dX3_append_16 : decode cX3_append 16 = .ok (.if_icmp .ge 40, 3) := by decide +kernel
theorem dX3_append_19 : decode cX3_append 19 = .ok (.aload_n 0, 1) := by decide +kernel
theorem dX3_append_20 : decode cX3_append 20 = .ok (.getfield 9, 3) := by decide +kernel
theorem dX3_append_23 : decode cX3_append 23 = .ok (.aload_n 0, 1) := by decide +kernel
theorem dX3_append_24 : decode cX3_append 24 = .ok (.getfield 15, 3) := by decide +kernel
theorem dX3_append_27 : decode cX3_append 27 = .ok (.lload_n 1, 1) := by decide +kernel
theorem dX3_append_28 : decode cX3_append 28 = .ok (.bipush 8, 2) := by decide +kernel
theorem dX3_append_30 : decode cX3_append 30 = .ok (.iload 4, 2) := by decide +kernel
theorem dX3_append_32 : decode cX3_append 32 = .ok (.imul, 1) := by decide +kernel
theorem dX3_append_33 : decode cX3_append 33 = .ok (.lushr, 1) := by decide +kernel
theorem dX3_append_34 : decode cX3_append 34 = .ok (.ldc2_w 25, 3) := by decide +kernel
theorem dX3_append_37 : decode cX3_append 37 = .ok (.land, 1) := by decide +kernel
theorem dX3_append_38 : decode cX3_append 38 = .ok (.l2i, 1) := by decide +kernel
theorem dX3_append_39 : decode cX3_append 39 = .ok (.iastore, 1) := by decide +kernel
theorem dX3_append_40 : decode cX3_append 40 = .ok (.aload_n 0, 1) := by decide +kernel
theorem dX3_append_41 : decode cX3_append 41 = .ok (.dup, 1) := by decide +kernel
theorem dX3_append_42 : decode cX3_append 42 = .ok (.getfield 15, 3) := by decide +kernel
theorem dX3_append_45 : decode cX3_append 45 = .ok (.iconst 1, 1) := by decide +kernel
theorem dX3_append_46 : decode cX3_append 46 = .ok (.iadd, 1) := by decide +kernel
theorem dX3_append_47 : decode cX3_append 47 = .ok (.putfield 15, 3) := by decide +kernel
theorem dX3_append_50 : decode cX3_append 50 = .ok (.iinc 4 1, 3) := by decide +kernel
theorem dX3_append_53 : decode cX3_append 53 = .ok (.goto (-50), 3) := by decide +kernel
theorem dX3_append_56 : decode cX3_append 56 = .ok (.return_, 1) := by decide +kernel
def p_X3_append_L3 (x1 : Int64) (x3 : Int32) (K : tF → tA → Prop) : Nat → tF → tA → Int32 → Prop
  | 0, _, _, _ => False
  | n3 + 1, F, A, x4 => ((x3 ≤ x4 → (K F A)) ∧ (¬ x3 ≤ x4 → (((200 : Int32) ≤ (F 1) → (K F A)) ∧ (¬ (200 : Int32) ≤ (F 1) → (vp_in (F 1) 200 ∧ (∀ f_39 : tF, f_39 = (upd (A 0) ((F 1)).toNatClampNeg (((((x1).toUInt64 >>> ((((8 : Int32) * x4)).toInt64.toUInt64 &&& Int64.toUInt64 63)).toInt64) &&& (255 : Int64))).toInt32) → (∀ y47 : Int32, y47 = ((F 1) + (1 : Int32)) → (∀ y50 : Int32, y50 = (x4 + (1 : Int32)) → ((p_X3_append_L3 x1 x3 K n3) (upd F 1 y47) (va_up A 0 f_39) y50)))))))))
set_option maxHeartbeats 4000000 in
set_option maxRecDepth 100000 in
theorem b_X3_append_L3 {p : Program} {l : Launch} {e : Env} {s : State} {m : MethodId} {args : Array Value} {below : List Frame} {meth : Method} {c : Code} {Q : State → Prop} {D : va_G} {cI cZ cR : ClassId} {adK adV : Nat → Nat} {A9 : Nat → Prop} {o : Nat} {q : Nat → Nat} {K : tF → tA → Prop}  (x1 : Int64) (x3 : Int32) (X : CX p s m args c yX3_append.cls cX3_append 5 D cI cZ cR adK adV A9) (ret : RTv p l e (rmN 0 0) s m args below meth c Q cX3_append D A9 (fun (u : (tF × tA)) => K u.1 u.2) (fun (u : (tF × tA)) => (wX3 cI cZ o q u.1 u.2 : va_W)))   : ∀ (n : Nat) (F : tF) (A : tA) (x4 : Int32) (H : Heap) (locs : List Loc) (ls : Array Slot), p_X3_append_L3 x1 x3 K n F A x4 → va_P D vwCl (wX3 cI cZ o q F A : va_W) H → va_D A9 (wX3 cI cZ o q F A : va_W) → va_S A9 s.heap H locs → lv_has ls 5 [(0, .ref o), (1, .long x1), (3, .int x3), (4, .int x4)] → W p l e (rmN 0 0) s m args below meth c H locs 0 0 Q (F0 m 3 ls []) := by
  obtain ⟨hx, hb, hml, ht, hown, hK, hA, hE⟩ := id X
  intro n
  induction n with
  | zero => intro F A x4 H locs ls h; exact False.elim h
  | succ n3 ih =>
    intro F A x4 H locs ls h hP hD hS hl
    rw [p_X3_append_L3] at h
    refine lv_iload hx hb dX3_append_3 (lv_at hl 3 rfl) ?_
    refine lv_iload_n hx hb dX3_append_5 rfl (lv_at hl 2 rfl) ?_
    refine lv_icmp_ge (tgt := 56) hx hb dX3_append_6 (by decide) (fun c6 => ?_) (fun c6 => ?_)
    · replace h := h.1 c6
      exact ret (F, A) _ _ _ _ dX3_append_56 h hP hD hS
    · replace h := h.2 c6
      refine lv_aload_n hx hb dX3_append_9 rfl (lv_at hl 0 rfl) ?_
      refine va_get (C := RX3) (T := TX3) (N := 4) (own := RX3) (v := .int (F 1)) hx hb ht inlX3 hown hK hP 0 rfl rfl 1 (Nat.le_of_ble_eq_true rfl) (ht _ mw_3_21) (fun _ h9 => h9) rfl dX3_append_10 ?_
      refine lv_sipush (v := 200) hx hb dX3_append_13 (by decide) ?_
      refine lv_icmp_ge (tgt := 56) hx hb dX3_append_16 (by decide) (fun c16 => ?_) (fun c16 => ?_)
      · replace h := h.1 c16
        exact ret (F, A) _ _ _ _ dX3_append_56 h hP hD hS
      · replace h := h.2 c16
        refine lv_aload_n hx hb dX3_append_19 rfl (lv_at hl 0 rfl) ?_
        refine va_get (C := RX3) (T := TX3) (N := 4) (own := RX3) (v := .ref (q 0)) hx hb ht inlX3 hown hK hP 0 rfl rfl 0 (Nat.le_of_ble_eq_true rfl) (ht _ mw_3_20) (fun _ h9 => h9) rfl dX3_append_20 ?_
        refine lv_aload_n hx hb dX3_append_23 rfl (lv_at hl 0 rfl) ?_
        refine va_get (C := RX3) (T := TX3) (N := 4) (own := RX3) (v := .int (F 1)) hx hb ht inlX3 hown hK hP 0 rfl rfl 1 (Nat.le_of_ble_eq_true rfl) (ht _ mw_3_21) (fun _ h9 => h9) rfl dX3_append_24 ?_
        refine lv_lload_n hx hb dX3_append_27 rfl (lv_at hl 1 rfl) ?_
        refine lv_bipush (v := 8) hx hb dX3_append_28 (by decide) ?_
        refine lv_iload hx hb dX3_append_30 (lv_at hl 3 rfl) ?_
        refine lv_imul hx hb dX3_append_32 ?_
        refine lv_lushr (v := ((x1).toUInt64 >>> ((((8 : Int32) * x4)).toInt64.toUInt64 &&& Int64.toUInt64 63)).toInt64) hx hb dX3_append_33 rfl ?_
        refine lv_ldc2 (v := 255) hx hb hown (ht _ mw_6_11) dX3_append_34 ?_
        refine lv_land hx hb dX3_append_37 ?_
        refine lv_l2i (v := (((((x1).toUInt64 >>> ((((8 : Int32) * x4)).toInt64.toUInt64 &&& Int64.toUInt64 63)).toInt64) &&& (255 : Int64))).toInt32) hx hb dX3_append_38 rfl ?_
        obtain ⟨hi39, h⟩ := h
        obtain ⟨f_39, ef_39⟩ : ∃ z : tF, z = (upd (A 0) ((F 1)).toNatClampNeg (((((x1).toUInt64 >>> ((((8 : Int32) * x4)).toInt64.toUInt64 &&& Int64.toUInt64 63)).toInt64) &&& (255 : Int64))).toInt32) := ⟨_, rfl⟩
        replace h := h f_39 ef_39
        refine g_iast (f := (A 0)) (k := ((F 1)).toNatClampNeg) hx hb hK hP hD hS 1 0 rfl rfl hi39 rfl ef_39 dX3_append_39 (fun H locs hP hD hS => ?_)
        have hP : va_P D vwCl (wX3 cI cZ o q F (va_up A 0 f_39) : va_W) H := hP
        have hD : va_D A9 (wX3 cI cZ o q F (va_up A 0 f_39) : va_W) := hD
        refine lv_aload_n hx hb dX3_append_40 rfl (lv_at hl 0 rfl) ?_
        refine lv_dup hx hb dX3_append_41 rfl ?_
        refine va_get (C := RX3) (T := TX3) (N := 4) (own := RX3) (v := .int (F 1)) hx hb ht inlX3 hown hK hP 0 rfl rfl 1 (Nat.le_of_ble_eq_true rfl) (ht _ mw_3_21) (fun _ h9 => h9) rfl dX3_append_42 ?_
        refine lv_iconst (v := 1) hx hb dX3_append_45 (by decide) ?_
        refine lv_iadd hx hb dX3_append_46 ?_
        refine lv_topi (fun y47 ey47 => ?_)
        replace h := h y47 ey47
        refine va_put (C := RX3) (T := TX3) (N := 4) (own := RX3) (v := .int y47) hx hb ht inlX3 tyX3 tyX3_ok nmX3 hown hK hP hD hS 0 rfl rfl 1 (Nat.le_of_ble_eq_true rfl) (ht _ mw_3_21) (fun _ h9 => h9) rfl (tyX3_ok 1 (Nat.le_of_ble_eq_true rfl)) rfl rfl (Nat.le_of_ble_eq_true rfl) dX3_append_47 (fun H locs hP hD hS => ?_)
        have hP : va_P D vwCl (wX3 cI cZ o q (upd F 1 y47) (va_up A 0 f_39) : va_W) H := hP
        have hD : va_D A9 (wX3 cI cZ o q (upd F 1 y47) (va_up A 0 f_39) : va_W) := hD
        obtain ⟨y50, ey50⟩ : ∃ y : Int32, y = (x4 + (1 : Int32)) := ⟨_, rfl⟩
        replace h := h y50 ey50
        refine lv_iinc (v := y50) (lv' := [(4, .int y50), (0, .ref o), (1, .long x1), (3, .int x3)]) hx hb dX3_append_50 hl (k := 3) rfl (by rw [ey50]; rfl) (by decide) rfl (fun ls hl => ?_)
        refine lv_goto (tgt := 3) hx hb dX3_append_53 (by decide) ?_
        exact ih (upd F 1 y47) (va_up A 0 f_39) y50 _ _ _ h hP hD hS (lv_sub hl [1, 2, 3, 0] rfl)
def p_X3_append (F : tF) (A : tA) (x1 : Int64) (x3 : Int32) (K : tF → tA → Prop) : Prop := (∃ n3, p_X3_append_L3 x1 x3 K n3 F A (0 : Int32))
set_option maxHeartbeats 4000000 in
set_option maxRecDepth 100000 in
theorem w_X3_append (l : Launch) (D : va_G) (cI cZ cR : ClassId) (adK adV : Nat → Nat) (sz : Nat) (o : Nat) (q : Nat → Nat) (F : tF) (A : tA) (x1 : Int64) (x3 : Int32) (K : tF → tA → Prop) (h : p_X3_append F A x1 x3 K) : MV l D cI cZ cR adK adV yX3_append cX3_append 5 none (rmN 0 0) [.ref o, .long x1, .int x3] (wX3 cI cZ o q F A : va_W) sz (fun (u : (tF × tA)) => K u.1 u.2) (fun (u : (tF × tA)) => (wX3 cI cZ o q u.1 u.2 : va_W)) := by
  refine M_v (by decide +kernel) (Nat.le_of_ble_eq_true rfl) ?_
  intro p e s m args below meth c Q A9 ls X ret hP hD hS hl
  obtain ⟨hx, hb, hml, ht, hown, hK, hA, hE⟩ := id X
  have hl : lv_has ls 5 [(0, .ref o), (1, .long x1), (3, .int x3)] := hl
  unfold p_X3_append at h
  refine lv_iconst (v := 0) hx hb dX3_append_0 (by decide) ?_
  refine lv_istore (lv' := [(4, .int (0 : Int32)), (0, .ref o), (1, .long x1), (3, .int x3)]) hx hb dX3_append_1 hl (by decide) rfl (fun ls hl => ?_)
  obtain ⟨n3, h⟩ := h
  exact b_X3_append_L3 x1 x3 X ret  n3 F A (0 : Int32) _ _ _ h hP hD hS (lv_sub hl [1, 2, 3, 0] rfl)
theorem dX3_skipBlanks_0 : decode cX3_skipBlanks 0 = .ok (.aload_n 0, 1) := by decide +kernel
theorem dX3_skipBlanks_1 : decode cX3_skipBlanks 1 = .ok (.getfield 19, 3) := by decide +kernel
theorem dX3_skipBlanks_4 : decode cX3_skipBlanks 4 = .ok (.aload_n 0, 1) := by decide +kernel
theorem dX3_skipBlanks_5 : decode cX3_skipBlanks 5 = .ok (.getfield 15, 3) := by decide +kernel
theorem dX3_skipBlanks_8 : decode cX3_skipBlanks 8 = .ok (.if_icmp .ge 30, 3) := by decide +kernel
theorem dX3_skipBlanks_11 : decode cX3_skipBlanks 11 = .ok (.aload_n 0, 1) := by decide +kernel
theorem dX3_skipBlanks_12 : decode cX3_skipBlanks 12 = .ok (.getfield 9, 3) := by decide +kernel
theorem dX3_skipBlanks_15 : decode cX3_skipBlanks 15 = .ok (.aload_n 0, 1) := by decide +kernel
theorem dX3_skipBlanks_16 : decode cX3_skipBlanks 16 = .ok (.getfield 19, 3) := by decide +kernel
theorem dX3_skipBlanks_19 : decode cX3_skipBlanks 19 = .ok (.iaload, 1) := by decide +kernel
theorem dX3_skipBlanks_20 : decode cX3_skipBlanks 20 = .ok (.bipush 32, 2) := by decide +kernel
theorem dX3_skipBlanks_22 : decode cX3_skipBlanks 22 = .ok (.if_icmp .ne 16, 3) := by decide +kernel
theorem dX3_skipBlanks_25 : decode cX3_skipBlanks 25 = .ok (.aload_n 0, 1) := by decide +kernel
theorem dX3_skipBlanks_26 : decode cX3_skipBlanks 26 = .ok (.dup, 1) := by decide +kernel
theorem dX3_skipBlanks_27 : decode cX3_skipBlanks 27 = .ok (.getfield 19, 3) := by decide +kernel
theorem dX3_skipBlanks_30 : decode cX3_skipBlanks 30 = .ok (.iconst 1, 1) := by decide +kernel
theorem dX3_skipBlanks_31 : decode cX3_skipBlanks 31 = .ok (.iadd, 1) := by decide +kernel
theorem dX3_skipBlanks_32 : decode cX3_skipBlanks 32 = .ok (.putfield 19, 3) := by decide +kernel
theorem dX3_skipBlanks_35 : decode cX3_skipBlanks 35 = .ok (.goto (-35), 3) := by decide +kernel
theorem dX3_skipBlanks_38 : decode cX3_skipBlanks 38 = .ok (.return_, 1) := by decide +kernel
def p_X3_skipBlanks_L0 (K : tF → tA → Prop) : Nat → tF → tA → Prop
  | 0, _, _ => False
  | n0 + 1, F, A => (((F 1) ≤ (F 2) → (K F A)) ∧ (¬ (F 1) ≤ (F 2) → (vp_in (F 2) 200 ∧ ((¬ ((A 0) ((F 2)).toNatClampNeg) = (32 : Int32) → (K F A)) ∧ (((A 0) ((F 2)).toNatClampNeg) = (32 : Int32) → (∀ y32 : Int32, y32 = ((F 2) + (1 : Int32)) → ((p_X3_skipBlanks_L0 K n0) (upd F 2 y32) A)))))))
set_option maxHeartbeats 4000000 in
set_option maxRecDepth 100000 in
theorem b_X3_skipBlanks_L0 {p : Program} {l : Launch} {e : Env} {s : State} {m : MethodId} {args : Array Value} {below : List Frame} {meth : Method} {c : Code} {Q : State → Prop} {D : va_G} {cI cZ cR : ClassId} {adK adV : Nat → Nat} {A9 : Nat → Prop} {o : Nat} {q : Nat → Nat} {K : tF → tA → Prop}   (X : CX p s m args c yX3_skipBlanks.cls cX3_skipBlanks 1 D cI cZ cR adK adV A9) (ret : RTv p l e (rmN 0 0) s m args below meth c Q cX3_skipBlanks D A9 (fun (u : (tF × tA)) => K u.1 u.2) (fun (u : (tF × tA)) => (wX3 cI cZ o q u.1 u.2 : va_W)))   : ∀ (n : Nat) (F : tF) (A : tA) (H : Heap) (locs : List Loc) (ls : Array Slot), p_X3_skipBlanks_L0 K n F A → va_P D vwCl (wX3 cI cZ o q F A : va_W) H → va_D A9 (wX3 cI cZ o q F A : va_W) → va_S A9 s.heap H locs → lv_has ls 1 [(0, .ref o)] → W p l e (rmN 0 0) s m args below meth c H locs 0 0 Q (F0 m 0 ls []) := by
  obtain ⟨hx, hb, hml, ht, hown, hK, hA, hE⟩ := id X
  intro n
  induction n with
  | zero => intro F A H locs ls h; exact False.elim h
  | succ n0 ih =>
    intro F A H locs ls h hP hD hS hl
    rw [p_X3_skipBlanks_L0] at h
    refine lv_aload_n hx hb dX3_skipBlanks_0 rfl (lv_at hl 0 rfl) ?_
    refine va_get (C := RX3) (T := TX3) (N := 4) (own := RX3) (v := .int (F 2)) hx hb ht inlX3 hown hK hP 0 rfl rfl 2 (Nat.le_of_ble_eq_true rfl) (ht _ mw_3_22) (fun _ h9 => h9) rfl dX3_skipBlanks_1 ?_
    refine lv_aload_n hx hb dX3_skipBlanks_4 rfl (lv_at hl 0 rfl) ?_
    refine va_get (C := RX3) (T := TX3) (N := 4) (own := RX3) (v := .int (F 1)) hx hb ht inlX3 hown hK hP 0 rfl rfl 1 (Nat.le_of_ble_eq_true rfl) (ht _ mw_3_21) (fun _ h9 => h9) rfl dX3_skipBlanks_5 ?_
    refine lv_icmp_ge (tgt := 38) hx hb dX3_skipBlanks_8 (by decide) (fun c8 => ?_) (fun c8 => ?_)
    · replace h := h.1 c8
      exact ret (F, A) _ _ _ _ dX3_skipBlanks_38 h hP hD hS
    · replace h := h.2 c8
      refine lv_aload_n hx hb dX3_skipBlanks_11 rfl (lv_at hl 0 rfl) ?_
      refine va_get (C := RX3) (T := TX3) (N := 4) (own := RX3) (v := .ref (q 0)) hx hb ht inlX3 hown hK hP 0 rfl rfl 0 (Nat.le_of_ble_eq_true rfl) (ht _ mw_3_20) (fun _ h9 => h9) rfl dX3_skipBlanks_12 ?_
      refine lv_aload_n hx hb dX3_skipBlanks_15 rfl (lv_at hl 0 rfl) ?_
      refine va_get (C := RX3) (T := TX3) (N := 4) (own := RX3) (v := .int (F 2)) hx hb ht inlX3 hown hK hP 0 rfl rfl 2 (Nat.le_of_ble_eq_true rfl) (ht _ mw_3_22) (fun _ h9 => h9) rfl dX3_skipBlanks_16 ?_
      obtain ⟨hi19, h⟩ := h
      refine g_iald (f := (A 0)) (k := ((F 2)).toNatClampNeg) hx hb hK hP 1 0 rfl rfl hi19 rfl dX3_skipBlanks_19 ?_
      refine lv_bipush (v := 32) hx hb dX3_skipBlanks_20 (by decide) ?_
      refine lv_icmp_ne (tgt := 38) hx hb dX3_skipBlanks_22 (by decide) (fun c22 => ?_) (fun c22 => ?_)
      · replace h := h.1 c22
        exact ret (F, A) _ _ _ _ dX3_skipBlanks_38 h hP hD hS
      · replace h := h.2 c22
        refine lv_aload_n hx hb dX3_skipBlanks_25 rfl (lv_at hl 0 rfl) ?_
        refine lv_dup hx hb dX3_skipBlanks_26 rfl ?_
        refine va_get (C := RX3) (T := TX3) (N := 4) (own := RX3) (v := .int (F 2)) hx hb ht inlX3 hown hK hP 0 rfl rfl 2 (Nat.le_of_ble_eq_true rfl) (ht _ mw_3_22) (fun _ h9 => h9) rfl dX3_skipBlanks_27 ?_
        refine lv_iconst (v := 1) hx hb dX3_skipBlanks_30 (by decide) ?_
        refine lv_iadd hx hb dX3_skipBlanks_31 ?_
        refine lv_topi (fun y32 ey32 => ?_)
        replace h := h y32 ey32
        refine va_put (C := RX3) (T := TX3) (N := 4) (own := RX3) (v := .int y32) hx hb ht inlX3 tyX3 tyX3_ok nmX3 hown hK hP hD hS 0 rfl rfl 2 (Nat.le_of_ble_eq_true rfl) (ht _ mw_3_22) (fun _ h9 => h9) rfl (tyX3_ok 2 (Nat.le_of_ble_eq_true rfl)) rfl rfl (Nat.le_of_ble_eq_true rfl) dX3_skipBlanks_32 (fun H locs hP hD hS => ?_)
        have hP : va_P D vwCl (wX3 cI cZ o q (upd F 2 y32) A : va_W) H := hP
        have hD : va_D A9 (wX3 cI cZ o q (upd F 2 y32) A : va_W) := hD
        refine lv_goto (tgt := 0) hx hb dX3_skipBlanks_35 (by decide) ?_
        exact ih (upd F 2 y32) A _ _ _ h hP hD hS (lv_sub hl [0] rfl)
def p_X3_skipBlanks (F : tF) (A : tA) (K : tF → tA → Prop) : Prop := (∃ n0, p_X3_skipBlanks_L0 K n0 F A)
set_option maxHeartbeats 4000000 in
set_option maxRecDepth 100000 in
theorem w_X3_skipBlanks (l : Launch) (D : va_G) (cI cZ cR : ClassId) (adK adV : Nat → Nat) (sz : Nat) (o : Nat) (q : Nat → Nat) (F : tF) (A : tA) (K : tF → tA → Prop) (h : p_X3_skipBlanks F A K) : MV l D cI cZ cR adK adV yX3_skipBlanks cX3_skipBlanks 1 none (rmN 0 0) [.ref o] (wX3 cI cZ o q F A : va_W) sz (fun (u : (tF × tA)) => K u.1 u.2) (fun (u : (tF × tA)) => (wX3 cI cZ o q u.1 u.2 : va_W)) := by
  refine M_v (by decide +kernel) (Nat.le_of_ble_eq_true rfl) ?_
  intro p e s m args below meth c Q A9 ls X ret hP hD hS hl
  obtain ⟨hx, hb, hml, ht, hown, hK, hA, hE⟩ := id X
  have hl : lv_has ls 1 [(0, .ref o)] := hl
  obtain ⟨n0, h⟩ := h
  exact b_X3_skipBlanks_L0  X ret  n0 F A _ _ _ h hP hD hS (lv_sub hl [0] rfl)
theorem dX3_fail_0 : decode cX3_fail 0 = .ok (.aload_n 0, 1) := by decide +kernel
theorem dX3_fail_1 : decode cX3_fail 1 = .ok (.getfield 22, 3) := by decide +kernel
theorem dX3_fail_4 : decode cX3_fail 4 = .ok (.iconst (-1), 1) := by decide +kernel
theorem dX3_fail_5 : decode cX3_fail 5 = .ok (.if_icmp .ne 8, 3) := by decide +kernel
theorem dX3_fail_8 : decode cX3_fail 8 = .ok (.aload_n 0, 1) := by decide +kernel
theorem dX3_fail_9 : decode cX3_fail 9 = .ok (.iload_n 1, 1) := by decide +kernel
theorem dX3_fail_10 : decode cX3_fail 10 = .ok (.putfield 22, 3) := by decide +kernel
theorem dX3_fail_13 : decode cX3_fail 13 = .ok (.return_, 1) := by decide +kernel
def p_X3_fail (F : tF) (A : tA) (x1 : Int32) (K : tF → tA → Prop) : Prop := ((¬ (F 3) = (-1 : Int32) → (K F A)) ∧ ((F 3) = (-1 : Int32) → (K (upd F 3 x1) A)))
set_option maxHeartbeats 4000000 in
set_option maxRecDepth 100000 in
theorem w_X3_fail (l : Launch) (D : va_G) (cI cZ cR : ClassId) (adK adV : Nat → Nat) (sz : Nat) (o : Nat) (q : Nat → Nat) (F : tF) (A : tA) (x1 : Int32) (K : tF → tA → Prop) (h : p_X3_fail F A x1 K) : MV l D cI cZ cR adK adV yX3_fail cX3_fail 2 none (rmN 0 0) [.ref o, .int x1] (wX3 cI cZ o q F A : va_W) sz (fun (u : (tF × tA)) => K u.1 u.2) (fun (u : (tF × tA)) => (wX3 cI cZ o q u.1 u.2 : va_W)) := by
  refine M_v (by decide +kernel) (Nat.le_of_ble_eq_true rfl) ?_
  intro p e s m args below meth c Q A9 ls X ret hP hD hS hl
  obtain ⟨hx, hb, hml, ht, hown, hK, hA, hE⟩ := id X
  have hl : lv_has ls 2 [(0, .ref o), (1, .int x1)] := hl
  unfold p_X3_fail at h
  refine lv_aload_n hx hb dX3_fail_0 rfl (lv_at hl 0 rfl) ?_
  refine va_get (C := RX3) (T := TX3) (N := 4) (own := RX3) (v := .int (F 3)) hx hb ht inlX3 hown hK hP 0 rfl rfl 3 (Nat.le_of_ble_eq_true rfl) (ht _ mw_3_23) (fun _ h9 => h9) rfl dX3_fail_1 ?_
  refine lv_iconst (v := -1) hx hb dX3_fail_4 (by decide) ?_
  refine lv_icmp_ne (tgt := 13) hx hb dX3_fail_5 (by decide) (fun c5 => ?_) (fun c5 => ?_)
  · replace h := h.1 c5
    exact ret (F, A) _ _ _ _ dX3_fail_13 h hP hD hS
  · replace h := h.2 c5
    refine lv_aload_n hx hb dX3_fail_8 rfl (lv_at hl 0 rfl) ?_
    refine lv_iload_n hx hb dX3_fail_9 rfl (lv_at hl 1 rfl) ?_
    refine va_put (C := RX3) (T := TX3) (N := 4) (own := RX3) (v := .int x1) hx hb ht inlX3 tyX3 tyX3_ok nmX3 hown hK hP hD hS 0 rfl rfl 3 (Nat.le_of_ble_eq_true rfl) (ht _ mw_3_23) (fun _ h9 => h9) rfl (tyX3_ok 3 (Nat.le_of_ble_eq_true rfl)) rfl rfl (Nat.le_of_ble_eq_true rfl) dX3_fail_10 (fun H locs hP hD hS => ?_)
    have hP : va_P D vwCl (wX3 cI cZ o q (upd F 3 x1) A : va_W) H := hP
    have hD : va_D A9 (wX3 cI cZ o q (upd F 3 x1) A : va_W) := hD
    exact ret ((upd F 3 x1), A) _ _ _ _ dX3_fail_13 h hP hD hS
theorem cal_X3_skipBlanks : CalV yX3_skipBlanks cX3_skipBlanks 1 none 0 := ⟨mw_7_19, mw_1_22, mw_7_17, mw_7_18, ⟨by decide +kernel, by decide +kernel, by decide +kernel⟩⟩
theorem cal_X3_fail : CalV yX3_fail cX3_fail 2 none 1 := ⟨mw_10_21, mw_1_22, mw_10_19, mw_10_20, ⟨by decide +kernel, by decide +kernel, by decide +kernel⟩⟩
theorem dX3_readEnd_0 : decode cX3_readEnd 0 = .ok (.aload_n 0, 1) := by decide +kernel
theorem dX3_readEnd_1 : decode cX3_readEnd 1 = .ok (.invokevirtual 27, 3) := by decide +kernel
theorem dX3_readEnd_4 : decode cX3_readEnd 4 = .ok (.aload_n 0, 1) := by decide +kernel
theorem dX3_readEnd_5 : decode cX3_readEnd 5 = .ok (.getfield 19, 3) := by decide +kernel
theorem dX3_readEnd_8 : decode cX3_readEnd 8 = .ok (.aload_n 0, 1) := by decide +kernel
theorem dX3_readEnd_9 : decode cX3_readEnd 9 = .ok (.getfield 15, 3) := by decide +kernel
theorem dX3_readEnd_12 : decode cX3_readEnd 12 = .ok (.if_icmp .ge 30, 3) := by decide +kernel
theorem dX3_readEnd_15 : decode cX3_readEnd 15 = .ok (.aload_n 0, 1) := by decide +kernel
theorem dX3_readEnd_16 : decode cX3_readEnd 16 = .ok (.getfield 9, 3) := by decide +kernel
theorem dX3_readEnd_19 : decode cX3_readEnd 19 = .ok (.aload_n 0, 1) := by decide +kernel
theorem dX3_readEnd_20 : decode cX3_readEnd 20 = .ok (.getfield 19, 3) := by decide +kernel
theorem dX3_readEnd_23 : decode cX3_readEnd 23 = .ok (.iaload, 1) := by decide +kernel
theorem dX3_readEnd_24 : decode cX3_readEnd 24 = .ok (.bipush 59, 2) := by decide +kernel
theorem dX3_readEnd_26 : decode cX3_readEnd 26 = .ok (.if_icmp .ne 16, 3) := by decide +kernel
theorem dX3_readEnd_29 : decode cX3_readEnd 29 = .ok (.aload_n 0, 1) := by decide +kernel
theorem dX3_readEnd_30 : decode cX3_readEnd 30 = .ok (.dup, 1) := by decide +kernel
theorem dX3_readEnd_31 : decode cX3_readEnd 31 = .ok (.getfield 19, 3) := by decide +kernel
theorem dX3_readEnd_34 : decode cX3_readEnd 34 = .ok (.iconst 1, 1) := by decide +kernel
theorem dX3_readEnd_35 : decode cX3_readEnd 35 = .ok (.iadd, 1) := by decide +kernel
theorem dX3_readEnd_36 : decode cX3_readEnd 36 = .ok (.putfield 19, 3) := by decide +kernel
theorem dX3_readEnd_39 : decode cX3_readEnd 39 = .ok (.goto 11, 3) := by decide +kernel
theorem dX3_readEnd_42 : decode cX3_readEnd 42 = .ok (.aload_n 0, 1) := by decide +kernel
theorem dX3_readEnd_43 : decode cX3_readEnd 43 = .ok (.aload_n 0, 1) := by decide +kernel
theorem dX3_readEnd_44 : decode cX3_readEnd 44 = .ok (.getfield 19, 3) := by decide +kernel
theorem dX3_readEnd_47 : decode cX3_readEnd 47 = .ok (.invokevirtual 95, 3) := by decide +kernel
theorem dX3_readEnd_50 : decode cX3_readEnd 50 = .ok (.return_, 1) := by decide +kernel
def p_X3_readEnd_J42 (F : tF) (A : tA) (K : tF → tA → Prop)  : Prop := (p_X3_fail F A (F 2) (fun F_47 A_47 => (K F_47 A_47)))
set_option maxHeartbeats 4000000 in
set_option maxRecDepth 100000 in
theorem b_X3_readEnd_J42 {p : Program} {l : Launch} {e : Env} {s : State} {m : MethodId} {args : Array Value} {below : List Frame} {meth : Method} {c : Code} {Q : State → Prop} {D : va_G} {cI cZ cR : ClassId} {adK adV : Nat → Nat} {A9 : Nat → Prop} {o : Nat} {q : Nat → Nat} {K : tF → tA → Prop}  (F : tF) (A : tA) (X : CX p s m args c yX3_readEnd.cls cX3_readEnd 1 D cI cZ cR adK adV A9) (ret : RTv p l e (rmN 1 21) s m args below meth c Q cX3_readEnd D A9 (fun (u : (tF × tA)) => K u.1 u.2) (fun (u : (tF × tA)) => (wX3 cI cZ o q u.1 u.2 : va_W)))  (H : Heap) (locs : List Loc) (ls : Array Slot) (h : p_X3_readEnd_J42 F A K) (hP : va_P D vwCl (wX3 cI cZ o q F A : va_W) H) (hD : va_D A9 (wX3 cI cZ o q F A : va_W)) (hS : va_S A9 s.heap H locs) (hl : lv_has ls 1 [(0, .ref o)]) : W p l e (rmN 1 21) s m args below meth c H locs 0 0 Q (F0 m 42 ls []) := by
  obtain ⟨hx, hb, hml, ht, hown, hK, hA, hE⟩ := id X
  unfold p_X3_readEnd_J42 at h
  refine lv_aload_n hx hb dX3_readEnd_42 rfl (lv_at hl 0 rfl) ?_
  refine lv_aload_n hx hb dX3_readEnd_43 rfl (lv_at hl 0 rfl) ?_
  refine va_get (C := RX3) (T := TX3) (N := 4) (own := RX3) (v := .int (F 2)) hx hb ht inlX3 hown hK hP 0 rfl rfl 2 (Nat.le_of_ble_eq_true rfl) (ht _ mw_3_22) (fun _ h9 => h9) rfl dX3_readEnd_44 ?_
  refine C_vv (wr := []) X hP hD hS [.int (F 2)] [] (w_X3_fail l D cI cZ cR adK adV _ o q F A (F 2) _ h) cal_X3_fail mw_10_18 rfl [0, 1] [] [0, 1] (fun u => (wX3 cI cZ o q u.1 u.2 : va_W)) rfl rfl (fun _ => rfl) rfl 0 rfl rfl ⟨rfl, rfl⟩ ⟨Nat.le_of_ble_eq_true rfl, Nat.le_of_ble_eq_true rfl⟩ hl.1 rfl (Nat.le_of_ble_eq_true rfl) ⟨Nat.zero_le _, Nat.zero_le _⟩ dX3_readEnd_47 (fun u H locs h hP hD hS => ?_)
  obtain ⟨F_47, A_47⟩ := u
  try dsimp only at h
  have hP : va_P D vwCl (wX3 cI cZ o q F_47 A_47 : va_W) H := hP
  have hD : va_D A9 (wX3 cI cZ o q F_47 A_47 : va_W) := hD
  exact ret (F_47, A_47) _ _ _ _ dX3_readEnd_50 h hP hD hS
def p_X3_readEnd (F : tF) (A : tA) (K : tF → tA → Prop) : Prop := (p_X3_skipBlanks F A (fun F_1 A_1 => (((F_1 1) ≤ (F_1 2) → (p_X3_readEnd_J42 F_1 A_1 K)) ∧ (¬ (F_1 1) ≤ (F_1 2) → (vp_in (F_1 2) 200 ∧ ((¬ ((A_1 0) ((F_1 2)).toNatClampNeg) = (59 : Int32) → (p_X3_readEnd_J42 F_1 A_1 K)) ∧ (((A_1 0) ((F_1 2)).toNatClampNeg) = (59 : Int32) → (∀ y36 : Int32, y36 = ((F_1 2) + (1 : Int32)) → (K (upd F_1 2 y36) A_1)))))))))
set_option maxHeartbeats 4000000 in
set_option maxRecDepth 100000 in
theorem w_X3_readEnd (l : Launch) (D : va_G) (cI cZ cR : ClassId) (adK adV : Nat → Nat) (sz : Nat) (o : Nat) (q : Nat → Nat) (F : tF) (A : tA) (K : tF → tA → Prop) (h : p_X3_readEnd F A K) : MV l D cI cZ cR adK adV yX3_readEnd cX3_readEnd 1 none (rmN 1 21) [.ref o] (wX3 cI cZ o q F A : va_W) sz (fun (u : (tF × tA)) => K u.1 u.2) (fun (u : (tF × tA)) => (wX3 cI cZ o q u.1 u.2 : va_W)) := by
  refine M_v (by decide +kernel) (Nat.le_of_ble_eq_true rfl) ?_
  intro p e s m args below meth c Q A9 ls X ret hP hD hS hl
  obtain ⟨hx, hb, hml, ht, hown, hK, hA, hE⟩ := id X
  have hl : lv_has ls 1 [(0, .ref o)] := hl
  unfold p_X3_readEnd at h
  refine lv_aload_n hx hb dX3_readEnd_0 rfl (lv_at hl 0 rfl) ?_
  refine C_vv (wr := []) X hP hD hS [] [] (w_X3_skipBlanks l D cI cZ cR adK adV _ o q F A _ h) cal_X3_skipBlanks mw_7_16 rfl [0, 1] [] [0, 1] (fun u => (wX3 cI cZ o q u.1 u.2 : va_W)) rfl rfl (fun _ => rfl) rfl 0 rfl rfl ⟨rfl, rfl⟩ ⟨Nat.le_of_ble_eq_true rfl, Nat.le_of_ble_eq_true rfl⟩ hl.1 rfl (Nat.le_of_ble_eq_true rfl) ⟨Nat.zero_le _, Nat.zero_le _⟩ dX3_readEnd_1 (fun u H locs h hP hD hS => ?_)
  obtain ⟨F_1, A_1⟩ := u
  try dsimp only at h
  have hP : va_P D vwCl (wX3 cI cZ o q F_1 A_1 : va_W) H := hP
  have hD : va_D A9 (wX3 cI cZ o q F_1 A_1 : va_W) := hD
  refine lv_aload_n hx hb dX3_readEnd_4 rfl (lv_at hl 0 rfl) ?_
  refine va_get (C := RX3) (T := TX3) (N := 4) (own := RX3) (v := .int (F_1 2)) hx hb ht inlX3 hown hK hP 0 rfl rfl 2 (Nat.le_of_ble_eq_true rfl) (ht _ mw_3_22) (fun _ h9 => h9) rfl dX3_readEnd_5 ?_
  refine lv_aload_n hx hb dX3_readEnd_8 rfl (lv_at hl 0 rfl) ?_
  refine va_get (C := RX3) (T := TX3) (N := 4) (own := RX3) (v := .int (F_1 1)) hx hb ht inlX3 hown hK hP 0 rfl rfl 1 (Nat.le_of_ble_eq_true rfl) (ht _ mw_3_21) (fun _ h9 => h9) rfl dX3_readEnd_9 ?_
  refine lv_icmp_ge (tgt := 42) hx hb dX3_readEnd_12 (by decide) (fun c12 => ?_) (fun c12 => ?_)
  · replace h := h.1 c12
    exact b_X3_readEnd_J42 F_1 A_1 X ret  _ _ _ h hP hD hS (lv_sub hl [0] rfl)
  · replace h := h.2 c12
    refine lv_aload_n hx hb dX3_readEnd_15 rfl (lv_at hl 0 rfl) ?_
    refine va_get (C := RX3) (T := TX3) (N := 4) (own := RX3) (v := .ref (q 0)) hx hb ht inlX3 hown hK hP 0 rfl rfl 0 (Nat.le_of_ble_eq_true rfl) (ht _ mw_3_20) (fun _ h9 => h9) rfl dX3_readEnd_16 ?_
    refine lv_aload_n hx hb dX3_readEnd_19 rfl (lv_at hl 0 rfl) ?_
    refine va_get (C := RX3) (T := TX3) (N := 4) (own := RX3) (v := .int (F_1 2)) hx hb ht inlX3 hown hK hP 0 rfl rfl 2 (Nat.le_of_ble_eq_true rfl) (ht _ mw_3_22) (fun _ h9 => h9) rfl dX3_readEnd_20 ?_
    obtain ⟨hi23, h⟩ := h
    refine g_iald (f := (A_1 0)) (k := ((F_1 2)).toNatClampNeg) hx hb hK hP 1 0 rfl rfl hi23 rfl dX3_readEnd_23 ?_
    refine lv_bipush (v := 59) hx hb dX3_readEnd_24 (by decide) ?_
    refine lv_icmp_ne (tgt := 42) hx hb dX3_readEnd_26 (by decide) (fun c26 => ?_) (fun c26 => ?_)
    · replace h := h.1 c26
      exact b_X3_readEnd_J42 F_1 A_1 X ret  _ _ _ h hP hD hS (lv_sub hl [0] rfl)
    · replace h := h.2 c26
      refine lv_aload_n hx hb dX3_readEnd_29 rfl (lv_at hl 0 rfl) ?_
      refine lv_dup hx hb dX3_readEnd_30 rfl ?_
      refine va_get (C := RX3) (T := TX3) (N := 4) (own := RX3) (v := .int (F_1 2)) hx hb ht inlX3 hown hK hP 0 rfl rfl 2 (Nat.le_of_ble_eq_true rfl) (ht _ mw_3_22) (fun _ h9 => h9) rfl dX3_readEnd_31 ?_
      refine lv_iconst (v := 1) hx hb dX3_readEnd_34 (by decide) ?_
      refine lv_iadd hx hb dX3_readEnd_35 ?_
      refine lv_topi (fun y36 ey36 => ?_)
      replace h := h y36 ey36
      refine va_put (C := RX3) (T := TX3) (N := 4) (own := RX3) (v := .int y36) hx hb ht inlX3 tyX3 tyX3_ok nmX3 hown hK hP hD hS 0 rfl rfl 2 (Nat.le_of_ble_eq_true rfl) (ht _ mw_3_22) (fun _ h9 => h9) rfl (tyX3_ok 2 (Nat.le_of_ble_eq_true rfl)) rfl rfl (Nat.le_of_ble_eq_true rfl) dX3_readEnd_36 (fun H locs hP hD hS => ?_)
      have hP : va_P D vwCl (wX3 cI cZ o q (upd F_1 2 y36) A_1 : va_W) H := hP
      have hD : va_D A9 (wX3 cI cZ o q (upd F_1 2 y36) A_1 : va_W) := hD
      refine lv_goto (tgt := 50) hx hb dX3_readEnd_39 (by decide) ?_
      exact ret ((upd F_1 2 y36), A_1) _ _ _ _ dX3_readEnd_50 h hP hD hS
theorem dX3_readNumber_0 : decode cX3_readNumber 0 = .ok (.aload_n 0, 1) := by decide +kernel
theorem dX3_readNumber_1 : decode cX3_readNumber 1 = .ok (.invokevirtual 27, 3) := by decide +kernel
theorem dX3_readNumber_4 : decode cX3_readNumber 4 = .ok (.aload_n 0, 1) := by decide +kernel
theorem dX3_readNumber_5 : decode cX3_readNumber 5 = .ok (.getfield 19, 3) := by decide +kernel
theorem dX3_readNumber_8 : decode cX3_readNumber 8 = .ok (.istore_n 2, 1) := by decide +kernel
theorem dX3_readNumber_9 : decode cX3_readNumber 9 = .ok (.iconst 0, 1) := by decide +kernel
theorem dX3_readNumber_10 : decode cX3_readNumber 10 = .ok (.istore_n 3, 1) := by decide +kernel
theorem dX3_readNumber_11 : decode cX3_readNumber 11 = .ok (.aload_n 0, 1) := by decide +kernel
theorem dX3_readNumber_12 : decode cX3_readNumber 12 = .ok (.getfield 19, 3) := by decide +kernel
theorem dX3_readNumber_15 : decode cX3_readNumber 15 = .ok (.aload_n 0, 1) := by decide +kernel
theorem dX3_readNumber_16 : decode cX3_readNumber 16 = .ok (.getfield 15, 3) := by decide +kernel
theorem dX3_readNumber_19 : decode cX3_readNumber 19 = .ok (.if_icmp .ge 72, 3) := by decide +kernel
theorem dX3_readNumber_22 : decode cX3_readNumber 22 = .ok (.aload_n 0, 1) := by decide +kernel
theorem dX3_readNumber_23 : decode cX3_readNumber 23 = .ok (.getfield 9, 3) := by decide +kernel
theorem dX3_readNumber_26 : decode cX3_readNumber 26 = .ok (.aload_n 0, 1) := by decide +kernel
theorem dX3_readNumber_27 : decode cX3_readNumber 27 = .ok (.getfield 19, 3) := by decide +kernel
theorem dX3_readNumber_30 : decode cX3_readNumber 30 = .ok (.iaload, 1) := by decide +kernel
theorem dX3_readNumber_31 : decode cX3_readNumber 31 = .ok (.bipush 48, 2) := by decide +kernel
theorem dX3_readNumber_33 : decode cX3_readNumber 33 = .ok (.if_icmp .lt 58, 3) := by decide +kernel
theorem dX3_readNumber_36 : decode cX3_readNumber 36 = .ok (.aload_n 0, 1) := by decide +kernel
theorem dX3_readNumber_37 : decode cX3_readNumber 37 = .ok (.getfield 9, 3) := by decide +kernel
theorem dX3_readNumber_40 : decode cX3_readNumber 40 = .ok (.aload_n 0, 1) := by decide +kernel
theorem dX3_readNumber_41 : decode cX3_readNumber 41 = .ok (.getfield 19, 3) := by decide +kernel
theorem dX3_readNumber_44 : decode cX3_readNumber 44 = .ok (.iaload, 1) := by decide +kernel
theorem dX3_readNumber_45 : decode cX3_readNumber 45 = .ok (.bipush 57, 2) := by decide +kernel
theorem dX3_readNumber_47 : decode cX3_readNumber 47 = .ok (.if_icmp .gt 44, 3) := by decide +kernel
theorem dX3_readNumber_50 : decode cX3_readNumber 50 = .ok (.aload_n 0, 1) := by decide +kernel
theorem dX3_readNumber_51 : decode cX3_readNumber 51 = .ok (.getfield 19, 3) := by decide +kernel
theorem dX3_readNumber_54 : decode cX3_readNumber 54 = .ok (.iload_n 2, 1) := by decide +kernel
theorem dX3_readNumber_55 : decode cX3_readNumber 55 = .ok (.isub, 1) := by decide +kernel
theorem dX3_readNumber_56 : decode cX3_readNumber 56 = .ok (.iconst 3, 1) := by decide +kernel
theorem dX3_readNumber_57 : decode cX3_readNumber 57 = .ok (.if_icmp .ge 21, 3) := by decide +kernel
theorem dX3_readNumber_60 : decode cX3_readNumber 60 = .ok (.iload_n 3, 1) := by decide +kernel
theorem dX3_readNumber_61 : decode cX3_readNumber 61 = .ok (.bipush 10, 2) := by decide +kernel
theorem dX3_readNumber_63 : decode cX3_readNumber 63 = .ok (.imul, 1) := by decide +kernel
theorem dX3_readNumber_64 : decode cX3_readNumber 64 = .ok (.aload_n 0, 1) := by decide +kernel
theorem dX3_readNumber_65 : decode cX3_readNumber 65 = .ok (.getfield 9, 3) := by decide +kernel
theorem dX3_readNumber_68 : decode cX3_readNumber 68 = .ok (.aload_n 0, 1) := by decide +kernel
theorem dX3_readNumber_69 : decode cX3_readNumber 69 = .ok (.getfield 19, 3) := by decide +kernel
theorem dX3_readNumber_72 : decode cX3_readNumber 72 = .ok (.iaload, 1) := by decide +kernel
theorem dX3_readNumber_73 : decode cX3_readNumber 73 = .ok (.iadd, 1) := by decide +kernel
theorem dX3_readNumber_74 : decode cX3_readNumber 74 = .ok (.bipush 48, 2) := by decide +kernel
theorem dX3_readNumber_76 : decode cX3_readNumber 76 = .ok (.isub, 1) := by decide +kernel
theorem dX3_readNumber_77 : decode cX3_readNumber 77 = .ok (.istore_n 3, 1) := by decide +kernel
theorem dX3_readNumber_78 : decode cX3_readNumber 78 = .ok (.aload_n 0, 1) := by decide +kernel
theorem dX3_readNumber_79 : decode cX3_readNumber 79 = .ok (.dup, 1) := by decide +kernel
theorem dX3_readNumber_80 : decode cX3_readNumber 80 = .ok (.getfield 19, 3) := by decide +kernel
theorem dX3_readNumber_83 : decode cX3_readNumber 83 = .ok (.iconst 1, 1) := by decide +kernel
theorem dX3_readNumber_84 : decode cX3_readNumber 84 = .ok (.iadd, 1) := by decide +kernel
theorem dX3_readNumber_85 : decode cX3_readNumber 85 = .ok (.putfield 19, 3) := by decide +kernel
theorem dX3_readNumber_88 : decode cX3_readNumber 88 = .ok (.goto (-77), 3) := by decide +kernel
theorem dX3_readNumber_91 : decode cX3_readNumber 91 = .ok (.aload_n 0, 1) := by decide +kernel
theorem dX3_readNumber_92 : decode cX3_readNumber 92 = .ok (.getfield 19, 3) := by decide +kernel
theorem dX3_readNumber_95 : decode cX3_readNumber 95 = .ok (.iload_n 2, 1) := by decide +kernel
theorem dX3_readNumber_96 : decode cX3_readNumber 96 = .ok (.isub, 1) := by decide +kernel
theorem dX3_readNumber_97 : decode cX3_readNumber 97 = .ok (.istore 4, 2) := by decide +kernel
theorem dX3_readNumber_99 : decode cX3_readNumber 99 = .ok (.iload 4, 2) := by decide +kernel
theorem dX3_readNumber_101 : decode cX3_readNumber 101 = .ok (.iconst 1, 1) := by decide +kernel
theorem dX3_readNumber_102 : decode cX3_readNumber 102 = .ok (.if_icmp .lt 14, 3) := by decide +kernel
theorem dX3_readNumber_105 : decode cX3_readNumber 105 = .ok (.iload 4, 2) := by decide +kernel
theorem dX3_readNumber_107 : decode cX3_readNumber 107 = .ok (.iconst 3, 1) := by decide +kernel
theorem dX3_readNumber_108 : decode cX3_readNumber 108 = .ok (.if_icmp .gt 8, 3) := by decide +kernel
theorem dX3_readNumber_111 : decode cX3_readNumber 111 = .ok (.iload_n 3, 1) := by decide +kernel
theorem dX3_readNumber_112 : decode cX3_readNumber 112 = .ok (.iload_n 1, 1) := by decide +kernel
theorem dX3_readNumber_113 : decode cX3_readNumber 113 = .ok (.if_icmp .le 10, 3) := by decide +kernel
theorem dX3_readNumber_116 : decode cX3_readNumber 116 = .ok (.aload_n 0, 1) := by decide +kernel
theorem dX3_readNumber_117 : decode cX3_readNumber 117 = .ok (.iload_n 2, 1) := by decide +kernel
theorem dX3_readNumber_118 : decode cX3_readNumber 118 = .ok (.invokevirtual 95, 3) := by decide +kernel
theorem dX3_readNumber_121 : decode cX3_readNumber 121 = .ok (.iconst 0, 1) := by decide +kernel
theorem dX3_readNumber_122 : decode cX3_readNumber 122 = .ok (.ireturn, 1) := by decide +kernel
theorem dX3_readNumber_123 : decode cX3_readNumber 123 = .ok (.iload_n 3, 1) := by decide +kernel
theorem dX3_readNumber_124 : decode cX3_readNumber 124 = .ok (.ireturn, 1) := by decide +kernel
def p_X3_readNumber_J116 (F : tF) (A : tA) (K : Int32 → tF → tA → Prop) (x2 : Int32) : Prop := (p_X3_fail F A x2 (fun F_118 A_118 => (K (0 : Int32) F_118 A_118)))
set_option maxHeartbeats 4000000 in
set_option maxRecDepth 100000 in
theorem b_X3_readNumber_J116 {p : Program} {l : Launch} {e : Env} {s : State} {m : MethodId} {args : Array Value} {below : List Frame} {meth : Method} {c : Code} {Q : State → Prop} {D : va_G} {cI cZ cR : ClassId} {adK adV : Nat → Nat} {A9 : Nat → Prop} {o : Nat} {q : Nat → Nat} {K : Int32 → tF → tA → Prop}  (F : tF) (A : tA) (x2 : Int32) (X : CX p s m args c yX3_readNumber.cls cX3_readNumber 5 D cI cZ cR adK adV A9) (ret : RTi p l e (rmN 1 21) s m args below meth c Q cX3_readNumber D A9 (fun (r : Int32) (u : (tF × tA)) => K r u.1 u.2) (fun (u : (tF × tA)) => (wX3 cI cZ o q u.1 u.2 : va_W)))  (H : Heap) (locs : List Loc) (ls : Array Slot) (h : p_X3_readNumber_J116 F A K x2) (hP : va_P D vwCl (wX3 cI cZ o q F A : va_W) H) (hD : va_D A9 (wX3 cI cZ o q F A : va_W)) (hS : va_S A9 s.heap H locs) (hl : lv_has ls 5 [(0, .ref o), (2, .int x2)]) : W p l e (rmN 1 21) s m args below meth c H locs 0 0 Q (F0 m 116 ls []) := by
  obtain ⟨hx, hb, hml, ht, hown, hK, hA, hE⟩ := id X
  unfold p_X3_readNumber_J116 at h
  refine lv_aload_n hx hb dX3_readNumber_116 rfl (lv_at hl 0 rfl) ?_
  refine lv_iload_n hx hb dX3_readNumber_117 rfl (lv_at hl 1 rfl) ?_
  refine C_vv (wr := []) X hP hD hS [.int x2] [] (w_X3_fail l D cI cZ cR adK adV _ o q F A x2 _ h) cal_X3_fail mw_10_18 rfl [0, 1] [] [0, 1] (fun u => (wX3 cI cZ o q u.1 u.2 : va_W)) rfl rfl (fun _ => rfl) rfl 0 rfl rfl ⟨rfl, rfl⟩ ⟨Nat.le_of_ble_eq_true rfl, Nat.le_of_ble_eq_true rfl⟩ hl.1 rfl (Nat.le_of_ble_eq_true rfl) ⟨Nat.zero_le _, Nat.zero_le _⟩ dX3_readNumber_118 (fun u H locs h hP hD hS => ?_)
  obtain ⟨F_118, A_118⟩ := u
  try dsimp only at h
  have hP : va_P D vwCl (wX3 cI cZ o q F_118 A_118 : va_W) H := hP
  have hD : va_D A9 (wX3 cI cZ o q F_118 A_118 : va_W) := hD
  refine lv_iconst (v := 0) hx hb dX3_readNumber_121 (by decide) ?_
  exact ret _ (F_118, A_118) _ _ _ _ dX3_readNumber_122 h hP hD hS
def p_X3_readNumber_J91 (F : tF) (A : tA) (K : Int32 → tF → tA → Prop) (x1 : Int32) (x2 : Int32) (x3 : Int32) : Prop := (∀ y97 : Int32, y97 = ((F 2) - x2) → ((y97 < (1 : Int32) → (p_X3_readNumber_J116 F A K x2)) ∧ (¬ y97 < (1 : Int32) → (((3 : Int32) < y97 → (p_X3_readNumber_J116 F A K x2)) ∧ (¬ (3 : Int32) < y97 → ((x3 ≤ x1 → (K x3 F A)) ∧ (¬ x3 ≤ x1 → (p_X3_readNumber_J116 F A K x2))))))))
set_option maxHeartbeats 4000000 in
set_option maxRecDepth 100000 in
theorem b_X3_readNumber_J91 {p : Program} {l : Launch} {e : Env} {s : State} {m : MethodId} {args : Array Value} {below : List Frame} {meth : Method} {c : Code} {Q : State → Prop} {D : va_G} {cI cZ cR : ClassId} {adK adV : Nat → Nat} {A9 : Nat → Prop} {o : Nat} {q : Nat → Nat} {K : Int32 → tF → tA → Prop}  (F : tF) (A : tA) (x1 : Int32) (x2 : Int32) (x3 : Int32) (X : CX p s m args c yX3_readNumber.cls cX3_readNumber 5 D cI cZ cR adK adV A9) (ret : RTi p l e (rmN 1 21) s m args below meth c Q cX3_readNumber D A9 (fun (r : Int32) (u : (tF × tA)) => K r u.1 u.2) (fun (u : (tF × tA)) => (wX3 cI cZ o q u.1 u.2 : va_W)))  (H : Heap) (locs : List Loc) (ls : Array Slot) (h : p_X3_readNumber_J91 F A K x1 x2 x3) (hP : va_P D vwCl (wX3 cI cZ o q F A : va_W) H) (hD : va_D A9 (wX3 cI cZ o q F A : va_W)) (hS : va_S A9 s.heap H locs) (hl : lv_has ls 5 [(0, .ref o), (1, .int x1), (2, .int x2), (3, .int x3)]) : W p l e (rmN 1 21) s m args below meth c H locs 0 0 Q (F0 m 91 ls []) := by
  obtain ⟨hx, hb, hml, ht, hown, hK, hA, hE⟩ := id X
  unfold p_X3_readNumber_J91 at h
  refine lv_aload_n hx hb dX3_readNumber_91 rfl (lv_at hl 0 rfl) ?_
  refine va_get (C := RX3) (T := TX3) (N := 4) (own := RX3) (v := .int (F 2)) hx hb ht inlX3 hown hK hP 0 rfl rfl 2 (Nat.le_of_ble_eq_true rfl) (ht _ mw_3_22) (fun _ h9 => h9) rfl dX3_readNumber_92 ?_
  refine lv_iload_n hx hb dX3_readNumber_95 rfl (lv_at hl 2 rfl) ?_
  refine lv_isub hx hb dX3_readNumber_96 ?_
  refine lv_topi (fun y97 ey97 => ?_)
  replace h := h y97 ey97
  refine lv_istore (lv' := [(4, .int y97), (0, .ref o), (1, .int x1), (2, .int x2), (3, .int x3)]) hx hb dX3_readNumber_97 hl (by decide) rfl (fun ls hl => ?_)
  refine lv_iload hx hb dX3_readNumber_99 (lv_at hl 0 rfl) ?_
  refine lv_iconst (v := 1) hx hb dX3_readNumber_101 (by decide) ?_
  refine lv_icmp_lt (tgt := 116) hx hb dX3_readNumber_102 (by decide) (fun c102 => ?_) (fun c102 => ?_)
  · replace h := h.1 c102
    exact b_X3_readNumber_J116 F A x2 X ret  _ _ _ h hP hD hS (lv_sub hl [1, 3] rfl)
  · replace h := h.2 c102
    refine lv_iload hx hb dX3_readNumber_105 (lv_at hl 0 rfl) ?_
    refine lv_iconst (v := 3) hx hb dX3_readNumber_107 (by decide) ?_
    refine lv_icmp_gt (tgt := 116) hx hb dX3_readNumber_108 (by decide) (fun c108 => ?_) (fun c108 => ?_)
    · replace h := h.1 c108
      exact b_X3_readNumber_J116 F A x2 X ret  _ _ _ h hP hD hS (lv_sub hl [1, 3] rfl)
    · replace h := h.2 c108
      refine lv_iload_n hx hb dX3_readNumber_111 rfl (lv_at hl 4 rfl) ?_
      refine lv_iload_n hx hb dX3_readNumber_112 rfl (lv_at hl 2 rfl) ?_
      refine lv_icmp_le (tgt := 123) hx hb dX3_readNumber_113 (by decide) (fun c113 => ?_) (fun c113 => ?_)
      · replace h := h.1 c113
        refine lv_iload_n hx hb dX3_readNumber_123 rfl (lv_at hl 4 rfl) ?_
        exact ret _ (F, A) _ _ _ _ dX3_readNumber_124 h hP hD hS
      · replace h := h.2 c113
        exact b_X3_readNumber_J116 F A x2 X ret  _ _ _ h hP hD hS (lv_sub hl [1, 3] rfl)
def p_X3_readNumber_J78 (F : tF) (A : tA) (B11 : (tF → tA → Int32 → Prop)) (K : Int32 → tF → tA → Prop) (x1 : Int32) (x2 : Int32) (x3 : Int32) : Prop := (∀ y85 : Int32, y85 = ((F 2) + (1 : Int32)) → (B11 (upd F 2 y85) A x3))
set_option maxHeartbeats 4000000 in
set_option maxRecDepth 100000 in
theorem b_X3_readNumber_J78 {p : Program} {l : Launch} {e : Env} {s : State} {m : MethodId} {args : Array Value} {below : List Frame} {meth : Method} {c : Code} {Q : State → Prop} {D : va_G} {cI cZ cR : ClassId} {adK adV : Nat → Nat} {A9 : Nat → Prop} {o : Nat} {q : Nat → Nat} {K : Int32 → tF → tA → Prop} {B11 : (tF → tA → Int32 → Prop)} (F : tF) (A : tA) (x1 : Int32) (x2 : Int32) (x3 : Int32) (X : CX p s m args c yX3_readNumber.cls cX3_readNumber 5 D cI cZ cR adK adV A9) (ret : RTi p l e (rmN 1 21) s m args below meth c Q cX3_readNumber D A9 (fun (r : Int32) (u : (tF × tA)) => K r u.1 u.2) (fun (u : (tF × tA)) => (wX3 cI cZ o q u.1 u.2 : va_W))) (hB11 : ∀ (F : tF) (A : tA) (x3 : Int32) (H : Heap) (locs : List Loc) (ls : Array Slot), B11 F A x3 → va_P D vwCl (wX3 cI cZ o q F A : va_W) H → va_D A9 (wX3 cI cZ o q F A : va_W) → va_S A9 s.heap H locs → lv_has ls 5 [(0, .ref o), (1, .int x1), (2, .int x2), (3, .int x3)] → W p l e (rmN 1 21) s m args below meth c H locs 0 0 Q (F0 m 11 ls [])) (H : Heap) (locs : List Loc) (ls : Array Slot) (h : p_X3_readNumber_J78 F A B11 K x1 x2 x3) (hP : va_P D vwCl (wX3 cI cZ o q F A : va_W) H) (hD : va_D A9 (wX3 cI cZ o q F A : va_W)) (hS : va_S A9 s.heap H locs) (hl : lv_has ls 5 [(0, .ref o), (1, .int x1), (2, .int x2), (3, .int x3)]) : W p l e (rmN 1 21) s m args below meth c H locs 0 0 Q (F0 m 78 ls []) := by
  obtain ⟨hx, hb, hml, ht, hown, hK, hA, hE⟩ := id X
  unfold p_X3_readNumber_J78 at h
  refine lv_aload_n hx hb dX3_readNumber_78 rfl (lv_at hl 0 rfl) ?_
  refine lv_dup hx hb dX3_readNumber_79 rfl ?_
  refine va_get (C := RX3) (T := TX3) (N := 4) (own := RX3) (v := .int (F 2)) hx hb ht inlX3 hown hK hP 0 rfl rfl 2 (Nat.le_of_ble_eq_true rfl) (ht _ mw_3_22) (fun _ h9 => h9) rfl dX3_readNumber_80 ?_
  refine lv_iconst (v := 1) hx hb dX3_readNumber_83 (by decide) ?_
  refine lv_iadd hx hb dX3_readNumber_84 ?_
  refine lv_topi (fun y85 ey85 => ?_)
  replace h := h y85 ey85
  refine va_put (C := RX3) (T := TX3) (N := 4) (own := RX3) (v := .int y85) hx hb ht inlX3 tyX3 tyX3_ok nmX3 hown hK hP hD hS 0 rfl rfl 2 (Nat.le_of_ble_eq_true rfl) (ht _ mw_3_22) (fun _ h9 => h9) rfl (tyX3_ok 2 (Nat.le_of_ble_eq_true rfl)) rfl rfl (Nat.le_of_ble_eq_true rfl) dX3_readNumber_85 (fun H locs hP hD hS => ?_)
  have hP : va_P D vwCl (wX3 cI cZ o q (upd F 2 y85) A : va_W) H := hP
  have hD : va_D A9 (wX3 cI cZ o q (upd F 2 y85) A : va_W) := hD
  refine lv_goto (tgt := 11) hx hb dX3_readNumber_88 (by decide) ?_
  exact hB11 (upd F 2 y85) A x3 _ _ _ h hP hD hS (lv_sub hl [0, 1, 2, 3] rfl)
def p_X3_readNumber_L11 (x1 : Int32) (x2 : Int32) (K : Int32 → tF → tA → Prop) : Nat → tF → tA → Int32 → Prop
  | 0, _, _, _ => False
  | n11 + 1, F, A, x3 => (((F 1) ≤ (F 2) → (p_X3_readNumber_J91 F A K x1 x2 x3)) ∧ (¬ (F 1) ≤ (F 2) → (vp_in (F 2) 200 ∧ ((((A 0) ((F 2)).toNatClampNeg) < (48 : Int32) → (p_X3_readNumber_J91 F A K x1 x2 x3)) ∧ (¬ ((A 0) ((F 2)).toNatClampNeg) < (48 : Int32) → (vp_in (F 2) 200 ∧ (((57 : Int32) < ((A 0) ((F 2)).toNatClampNeg) → (p_X3_readNumber_J91 F A K x1 x2 x3)) ∧ (¬ (57 : Int32) < ((A 0) ((F 2)).toNatClampNeg) → (((3 : Int32) ≤ ((F 2) - x2) → (p_X3_readNumber_J78 F A (p_X3_readNumber_L11 x1 x2 K n11) K x1 x2 x3)) ∧ (¬ (3 : Int32) ≤ ((F 2) - x2) → (vp_in (F 2) 200 ∧ (∀ y77 : Int32, y77 = (((x3 * (10 : Int32)) + ((A 0) ((F 2)).toNatClampNeg)) - (48 : Int32)) → (p_X3_readNumber_J78 F A (p_X3_readNumber_L11 x1 x2 K n11) K x1 x2 y77)))))))))))))
set_option maxHeartbeats 4000000 in
set_option maxRecDepth 100000 in
theorem b_X3_readNumber_L11 {p : Program} {l : Launch} {e : Env} {s : State} {m : MethodId} {args : Array Value} {below : List Frame} {meth : Method} {c : Code} {Q : State → Prop} {D : va_G} {cI cZ cR : ClassId} {adK adV : Nat → Nat} {A9 : Nat → Prop} {o : Nat} {q : Nat → Nat} {K : Int32 → tF → tA → Prop}  (x1 : Int32) (x2 : Int32) (X : CX p s m args c yX3_readNumber.cls cX3_readNumber 5 D cI cZ cR adK adV A9) (ret : RTi p l e (rmN 1 21) s m args below meth c Q cX3_readNumber D A9 (fun (r : Int32) (u : (tF × tA)) => K r u.1 u.2) (fun (u : (tF × tA)) => (wX3 cI cZ o q u.1 u.2 : va_W)))   : ∀ (n : Nat) (F : tF) (A : tA) (x3 : Int32) (H : Heap) (locs : List Loc) (ls : Array Slot), p_X3_readNumber_L11 x1 x2 K n F A x3 → va_P D vwCl (wX3 cI cZ o q F A : va_W) H → va_D A9 (wX3 cI cZ o q F A : va_W) → va_S A9 s.heap H locs → lv_has ls 5 [(0, .ref o), (1, .int x1), (2, .int x2), (3, .int x3)] → W p l e (rmN 1 21) s m args below meth c H locs 0 0 Q (F0 m 11 ls []) := by
  obtain ⟨hx, hb, hml, ht, hown, hK, hA, hE⟩ := id X
  intro n
  induction n with
  | zero => intro F A x3 H locs ls h; exact False.elim h
  | succ n11 ih =>
    intro F A x3 H locs ls h hP hD hS hl
    rw [p_X3_readNumber_L11] at h
    refine lv_aload_n hx hb dX3_readNumber_11 rfl (lv_at hl 0 rfl) ?_
    refine va_get (C := RX3) (T := TX3) (N := 4) (own := RX3) (v := .int (F 2)) hx hb ht inlX3 hown hK hP 0 rfl rfl 2 (Nat.le_of_ble_eq_true rfl) (ht _ mw_3_22) (fun _ h9 => h9) rfl dX3_readNumber_12 ?_
    refine lv_aload_n hx hb dX3_readNumber_15 rfl (lv_at hl 0 rfl) ?_
    refine va_get (C := RX3) (T := TX3) (N := 4) (own := RX3) (v := .int (F 1)) hx hb ht inlX3 hown hK hP 0 rfl rfl 1 (Nat.le_of_ble_eq_true rfl) (ht _ mw_3_21) (fun _ h9 => h9) rfl dX3_readNumber_16 ?_
    refine lv_icmp_ge (tgt := 91) hx hb dX3_readNumber_19 (by decide) (fun c19 => ?_) (fun c19 => ?_)
    · replace h := h.1 c19
      exact b_X3_readNumber_J91 F A x1 x2 x3 X ret  _ _ _ h hP hD hS (lv_sub hl [0, 1, 2, 3] rfl)
    · replace h := h.2 c19
      refine lv_aload_n hx hb dX3_readNumber_22 rfl (lv_at hl 0 rfl) ?_
      refine va_get (C := RX3) (T := TX3) (N := 4) (own := RX3) (v := .ref (q 0)) hx hb ht inlX3 hown hK hP 0 rfl rfl 0 (Nat.le_of_ble_eq_true rfl) (ht _ mw_3_20) (fun _ h9 => h9) rfl dX3_readNumber_23 ?_
      refine lv_aload_n hx hb dX3_readNumber_26 rfl (lv_at hl 0 rfl) ?_
      refine va_get (C := RX3) (T := TX3) (N := 4) (own := RX3) (v := .int (F 2)) hx hb ht inlX3 hown hK hP 0 rfl rfl 2 (Nat.le_of_ble_eq_true rfl) (ht _ mw_3_22) (fun _ h9 => h9) rfl dX3_readNumber_27 ?_
      obtain ⟨hi30, h⟩ := h
      refine g_iald (f := (A 0)) (k := ((F 2)).toNatClampNeg) hx hb hK hP 1 0 rfl rfl hi30 rfl dX3_readNumber_30 ?_
      refine lv_bipush (v := 48) hx hb dX3_readNumber_31 (by decide) ?_
      refine lv_icmp_lt (tgt := 91) hx hb dX3_readNumber_33 (by decide) (fun c33 => ?_) (fun c33 => ?_)
      · replace h := h.1 c33
        exact b_X3_readNumber_J91 F A x1 x2 x3 X ret  _ _ _ h hP hD hS (lv_sub hl [0, 1, 2, 3] rfl)
      · replace h := h.2 c33
        refine lv_aload_n hx hb dX3_readNumber_36 rfl (lv_at hl 0 rfl) ?_
        refine va_get (C := RX3) (T := TX3) (N := 4) (own := RX3) (v := .ref (q 0)) hx hb ht inlX3 hown hK hP 0 rfl rfl 0 (Nat.le_of_ble_eq_true rfl) (ht _ mw_3_20) (fun _ h9 => h9) rfl dX3_readNumber_37 ?_
        refine lv_aload_n hx hb dX3_readNumber_40 rfl (lv_at hl 0 rfl) ?_
        refine va_get (C := RX3) (T := TX3) (N := 4) (own := RX3) (v := .int (F 2)) hx hb ht inlX3 hown hK hP 0 rfl rfl 2 (Nat.le_of_ble_eq_true rfl) (ht _ mw_3_22) (fun _ h9 => h9) rfl dX3_readNumber_41 ?_
        obtain ⟨hi44, h⟩ := h
        refine g_iald (f := (A 0)) (k := ((F 2)).toNatClampNeg) hx hb hK hP 1 0 rfl rfl hi44 rfl dX3_readNumber_44 ?_
        refine lv_bipush (v := 57) hx hb dX3_readNumber_45 (by decide) ?_
        refine lv_icmp_gt (tgt := 91) hx hb dX3_readNumber_47 (by decide) (fun c47 => ?_) (fun c47 => ?_)
        · replace h := h.1 c47
          exact b_X3_readNumber_J91 F A x1 x2 x3 X ret  _ _ _ h hP hD hS (lv_sub hl [0, 1, 2, 3] rfl)
        · replace h := h.2 c47
          refine lv_aload_n hx hb dX3_readNumber_50 rfl (lv_at hl 0 rfl) ?_
          refine va_get (C := RX3) (T := TX3) (N := 4) (own := RX3) (v := .int (F 2)) hx hb ht inlX3 hown hK hP 0 rfl rfl 2 (Nat.le_of_ble_eq_true rfl) (ht _ mw_3_22) (fun _ h9 => h9) rfl dX3_readNumber_51 ?_
          refine lv_iload_n hx hb dX3_readNumber_54 rfl (lv_at hl 2 rfl) ?_
          refine lv_isub hx hb dX3_readNumber_55 ?_
          refine lv_iconst (v := 3) hx hb dX3_readNumber_56 (by decide) ?_
          refine lv_icmp_ge (tgt := 78) hx hb dX3_readNumber_57 (by decide) (fun c57 => ?_) (fun c57 => ?_)
          · replace h := h.1 c57
            exact b_X3_readNumber_J78 F A x1 x2 x3 X ret ih _ _ _ h hP hD hS (lv_sub hl [0, 1, 2, 3] rfl)
          · replace h := h.2 c57
            refine lv_iload_n hx hb dX3_readNumber_60 rfl (lv_at hl 3 rfl) ?_
            refine lv_bipush (v := 10) hx hb dX3_readNumber_61 (by decide) ?_
            refine lv_imul hx hb dX3_readNumber_63 ?_
            refine lv_aload_n hx hb dX3_readNumber_64 rfl (lv_at hl 0 rfl) ?_
            refine va_get (C := RX3) (T := TX3) (N := 4) (own := RX3) (v := .ref (q 0)) hx hb ht inlX3 hown hK hP 0 rfl rfl 0 (Nat.le_of_ble_eq_true rfl) (ht _ mw_3_20) (fun _ h9 => h9) rfl dX3_readNumber_65 ?_
            refine lv_aload_n hx hb dX3_readNumber_68 rfl (lv_at hl 0 rfl) ?_
            refine va_get (C := RX3) (T := TX3) (N := 4) (own := RX3) (v := .int (F 2)) hx hb ht inlX3 hown hK hP 0 rfl rfl 2 (Nat.le_of_ble_eq_true rfl) (ht _ mw_3_22) (fun _ h9 => h9) rfl dX3_readNumber_69 ?_
            obtain ⟨hi72, h⟩ := h
            refine g_iald (f := (A 0)) (k := ((F 2)).toNatClampNeg) hx hb hK hP 1 0 rfl rfl hi72 rfl dX3_readNumber_72 ?_
            refine lv_iadd hx hb dX3_readNumber_73 ?_
            refine lv_bipush (v := 48) hx hb dX3_readNumber_74 (by decide) ?_
            refine lv_isub hx hb dX3_readNumber_76 ?_
            refine lv_topi (fun y77 ey77 => ?_)
            replace h := h y77 ey77
            refine lv_istore_n (lv' := [(3, .int y77), (0, .ref o), (1, .int x1), (2, .int x2)]) hx hb dX3_readNumber_77 rfl hl (by decide) rfl (fun ls hl => ?_)
            exact b_X3_readNumber_J78 F A x1 x2 y77 X ret ih _ _ _ h hP hD hS (lv_sub hl [1, 2, 3, 0] rfl)
def p_X3_readNumber (F : tF) (A : tA) (x1 : Int32) (K : Int32 → tF → tA → Prop) : Prop := (p_X3_skipBlanks F A (fun F_1 A_1 => (∀ y8 : Int32, y8 = (F_1 2) → (∃ n11, p_X3_readNumber_L11 x1 y8 K n11 F_1 A_1 (0 : Int32)))))
set_option maxHeartbeats 4000000 in
set_option maxRecDepth 100000 in
theorem w_X3_readNumber (l : Launch) (D : va_G) (cI cZ cR : ClassId) (adK adV : Nat → Nat) (sz : Nat) (o : Nat) (q : Nat → Nat) (F : tF) (A : tA) (x1 : Int32) (K : Int32 → tF → tA → Prop) (h : p_X3_readNumber F A x1 K) : MI l D cI cZ cR adK adV yX3_readNumber cX3_readNumber 5 (some .int) (rmN 1 21) [.ref o, .int x1] (wX3 cI cZ o q F A : va_W) sz (fun (r : Int32) (u : (tF × tA)) => K r u.1 u.2) (fun (u : (tF × tA)) => (wX3 cI cZ o q u.1 u.2 : va_W)) := by
  refine M_i (by decide +kernel) (Nat.le_of_ble_eq_true rfl) ?_
  intro p e s m args below meth c Q A9 ls X ret hP hD hS hl
  obtain ⟨hx, hb, hml, ht, hown, hK, hA, hE⟩ := id X
  have hl : lv_has ls 5 [(0, .ref o), (1, .int x1)] := hl
  unfold p_X3_readNumber at h
  refine lv_aload_n hx hb dX3_readNumber_0 rfl (lv_at hl 0 rfl) ?_
  refine C_vv (wr := []) X hP hD hS [] [] (w_X3_skipBlanks l D cI cZ cR adK adV _ o q F A _ h) cal_X3_skipBlanks mw_7_16 rfl [0, 1] [] [0, 1] (fun u => (wX3 cI cZ o q u.1 u.2 : va_W)) rfl rfl (fun _ => rfl) rfl 0 rfl rfl ⟨rfl, rfl⟩ ⟨Nat.le_of_ble_eq_true rfl, Nat.le_of_ble_eq_true rfl⟩ hl.1 rfl (Nat.le_of_ble_eq_true rfl) ⟨Nat.zero_le _, Nat.zero_le _⟩ dX3_readNumber_1 (fun u H locs h hP hD hS => ?_)
  obtain ⟨F_1, A_1⟩ := u
  try dsimp only at h
  have hP : va_P D vwCl (wX3 cI cZ o q F_1 A_1 : va_W) H := hP
  have hD : va_D A9 (wX3 cI cZ o q F_1 A_1 : va_W) := hD
  refine lv_aload_n hx hb dX3_readNumber_4 rfl (lv_at hl 0 rfl) ?_
  refine va_get (C := RX3) (T := TX3) (N := 4) (own := RX3) (v := .int (F_1 2)) hx hb ht inlX3 hown hK hP 0 rfl rfl 2 (Nat.le_of_ble_eq_true rfl) (ht _ mw_3_22) (fun _ h9 => h9) rfl dX3_readNumber_5 ?_
  refine lv_topi (fun y8 ey8 => ?_)
  replace h := h y8 ey8
  refine lv_istore_n (lv' := [(2, .int y8), (0, .ref o), (1, .int x1)]) hx hb dX3_readNumber_8 rfl hl (by decide) rfl (fun ls hl => ?_)
  refine lv_iconst (v := 0) hx hb dX3_readNumber_9 (by decide) ?_
  refine lv_istore_n (lv' := [(3, .int (0 : Int32)), (2, .int y8), (0, .ref o), (1, .int x1)]) hx hb dX3_readNumber_10 rfl hl (by decide) rfl (fun ls hl => ?_)
  obtain ⟨n11, h⟩ := h
  exact b_X3_readNumber_L11 x1 y8 X ret  n11 F_1 A_1 (0 : Int32) _ _ _ h hP hD hS (lv_sub hl [2, 3, 1, 0] rfl)
theorem dX3_isNext_0 : decode cX3_isNext 0 = .ok (.aload_n 0, 1) := by decide +kernel
theorem dX3_isNext_1 : decode cX3_isNext 1 = .ok (.invokevirtual 27, 3) := by decide +kernel
theorem dX3_isNext_4 : decode cX3_isNext 4 = .ok (.aload_n 0, 1) := by decide +kernel
theorem dX3_isNext_5 : decode cX3_isNext 5 = .ok (.getfield 19, 3) := by decide +kernel
theorem dX3_isNext_8 : decode cX3_isNext 8 = .ok (.istore_n 2, 1) := by decide +kernel
theorem dX3_isNext_9 : decode cX3_isNext 9 = .ok (.iload_n 2, 1) := by decide +kernel
theorem dX3_isNext_10 : decode cX3_isNext 10 = .ok (.aload_n 0, 1) := by decide +kernel
theorem dX3_isNext_11 : decode cX3_isNext 11 = .ok (.getfield 15, 3) := by decide +kernel
theorem dX3_isNext_14 : decode cX3_isNext 14 = .ok (.if_icmp .ge 31, 3) := by decide +kernel
theorem dX3_isNext_17 : decode cX3_isNext 17 = .ok (.aload_n 0, 1) := by decide +kernel
theorem dX3_isNext_18 : decode cX3_isNext 18 = .ok (.getfield 9, 3) := by decide +kernel
theorem dX3_isNext_21 : decode cX3_isNext 21 = .ok (.iload_n 2, 1) := by decide +kernel
theorem dX3_isNext_22 : decode cX3_isNext 22 = .ok (.iaload, 1) := by decide +kernel
theorem dX3_isNext_23 : decode cX3_isNext 23 = .ok (.bipush 97, 2) := by decide +kernel
theorem dX3_isNext_25 : decode cX3_isNext 25 = .ok (.if_icmp .lt 20, 3) := by decide +kernel
theorem dX3_isNext_28 : decode cX3_isNext 28 = .ok (.aload_n 0, 1) := by decide +kernel
theorem dX3_isNext_29 : decode cX3_isNext 29 = .ok (.getfield 9, 3) := by decide +kernel
theorem dX3_isNext_32 : decode cX3_isNext 32 = .ok (.iload_n 2, 1) := by decide +kernel
theorem dX3_isNext_33 : decode cX3_isNext 33 = .ok (.iaload, 1) := by decide +kernel
theorem dX3_isNext_34 : decode cX3_isNext 34 = .ok (.bipush 122, 2) := by decide +kernel
theorem dX3_isNext_36 : decode cX3_isNext 36 = .ok (.if_icmp .gt 9, 3) := by decide +kernel
theorem dX3_isNext_39 : decode cX3_isNext 39 = .ok (.iinc 2 1, 3) := by decide +kernel
theorem dX3_isNext_42 : decode cX3_isNext 42 = .ok (.goto (-33), 3) := by decide +kernel
theorem dX3_isNext_45 : decode cX3_isNext 45 = .ok (.iload_n 2, 1) := by decide +kernel
theorem dX3_isNext_46 : decode cX3_isNext 46 = .ok (.aload_n 0, 1) := by decide +kernel
theorem dX3_isNext_47 : decode cX3_isNext 47 = .ok (.getfield 19, 3) := by decide +kernel
theorem dX3_isNext_50 : decode cX3_isNext 50 = .ok (.isub, 1) := by decide +kernel
theorem dX3_isNext_51 : decode cX3_isNext 51 = .ok (.aload_n 1, 1) := by decide +kernel
theorem dX3_isNext_52 : decode cX3_isNext 52 = .ok (.invokevirtual 125, 3) := by decide +kernel
theorem dX3_isNext_55 : decode cX3_isNext 55 = .ok (.if_icmp .eq 5, 3) := by decide +kernel
theorem dX3_isNext_58 : decode cX3_isNext 58 = .ok (.iconst 0, 1) := by decide +kernel
theorem dX3_isNext_59 : decode cX3_isNext 59 = .ok (.ireturn, 1) := by decide +kernel
theorem dX3_isNext_60 : decode cX3_isNext 60 = .ok (.iconst 0, 1) := by decide +kernel
theorem dX3_isNext_61 : decode cX3_isNext 61 = .ok (.istore_n 3, 1) := by decide +kernel
theorem dX3_isNext_62 : decode cX3_isNext 62 = .ok (.iload_n 3, 1) := by decide +kernel
theorem dX3_isNext_63 : decode cX3_isNext 63 = .ok (.aload_n 1, 1) := by decide +kernel
theorem dX3_isNext_64 : decode cX3_isNext 64 = .ok (.invokevirtual 125, 3) := by decide +kernel
theorem dX3_isNext_67 : decode cX3_isNext 67 = .ok (.if_icmp .ge 30, 3) := by decide +kernel
theorem dX3_isNext_70 : decode cX3_isNext 70 = .ok (.aload_n 0, 1) := by decide +kernel
theorem dX3_isNext_71 : decode cX3_isNext 71 = .ok (.getfield 9, 3) := by decide +kernel
theorem dX3_isNext_74 : decode cX3_isNext 74 = .ok (.aload_n 0, 1) := by decide +kernel
theorem dX3_isNext_75 : decode cX3_isNext 75 = .ok (.getfield 19, 3) := by decide +kernel
theorem dX3_isNext_78 : decode cX3_isNext 78 = .ok (.iload_n 3, 1) := by decide +kernel
theorem dX3_isNext_79 : decode cX3_isNext 79 = .ok (.iadd, 1) := by decide +kernel
theorem dX3_isNext_80 : decode cX3_isNext 80 = .ok (.iaload, 1) := by decide +kernel
theorem dX3_isNext_81 : decode cX3_isNext 81 = .ok (.aload_n 1, 1) := by decide +kernel
theorem dX3_isNext_82 : decode cX3_isNext 82 = .ok (.iload_n 3, 1) := by decide +kernel
theorem dX3_isNext_83 : decode cX3_isNext 83 = .ok (.invokevirtual 130, 3) := by decide +kernel
theorem dX3_isNext_86 : decode cX3_isNext 86 = .ok (.if_icmp .eq 5, 3) := by decide +kernel
theorem dX3_isNext_89 : decode cX3_isNext 89 = .ok (.iconst 0, 1) := by decide +kernel
theorem dX3_isNext_90 : decode cX3_isNext 90 = .ok (.ireturn, 1) := by decide +kernel
theorem dX3_isNext_91 : decode cX3_isNext 91 = .ok (.iinc 3 1, 3) := by decide +kernel
theorem dX3_isNext_94 : decode cX3_isNext 94 = .ok (.goto (-32), 3) := by decide +kernel
theorem dX3_isNext_97 : decode cX3_isNext 97 = .ok (.aload_n 0, 1) := by decide +kernel
theorem dX3_isNext_98 : decode cX3_isNext 98 = .ok (.iload_n 2, 1) := by decide +kernel
theorem dX3_isNext_99 : decode cX3_isNext 99 = .ok (.putfield 19, 3) := by decide +kernel
theorem dX3_isNext_102 : decode cX3_isNext 102 = .ok (.iconst 1, 1) := by decide +kernel
theorem dX3_isNext_103 : decode cX3_isNext 103 = .ok (.ireturn, 1) := by decide +kernel
def p_X3_isNext_L62 (i1 : Nat) (F : tF) (A : tA) (x2 : Int32) (K : Int32 → tF → tA → Prop) : Nat → Int32 → Prop
  | 0, _ => False
  | n62 + 1, x3 => (i1 < sN ∧ (((nI (sLn i1)) ≤ x3 → (K (1 : Int32) (upd F 2 x2) A)) ∧ (¬ (nI (sLn i1)) ≤ x3 → (vp_in ((F 2) + x3) 200 ∧ (i1 < sN ∧ (vp_in x3 (sLn i1) ∧ ((((A 0) (((F 2) + x3)).toNatClampNeg) = (sCh i1 (x3).toNatClampNeg) → (∀ y91 : Int32, y91 = (x3 + (1 : Int32)) → ((p_X3_isNext_L62 i1 F A x2 K n62) y91))) ∧ (¬ ((A 0) (((F 2) + x3)).toNatClampNeg) = (sCh i1 (x3).toNatClampNeg) → (K (0 : Int32) F A)))))))))
set_option maxHeartbeats 4000000 in
set_option maxRecDepth 100000 in
theorem b_X3_isNext_L62 {p : Program} {l : Launch} {e : Env} {s : State} {m : MethodId} {args : Array Value} {below : List Frame} {meth : Method} {c : Code} {Q : State → Prop} {D : va_G} {cI cZ cR : ClassId} {adK adV : Nat → Nat} {A9 : Nat → Prop} {o : Nat} {q : Nat → Nat} {K : Int32 → tF → tA → Prop}  (i1 : Nat) (F : tF) (A : tA) (x2 : Int32) (X : CX p s m args c yX3_isNext.cls cX3_isNext 4 D cI cZ cR adK adV A9) (ret : RTz p l e (rmN 4 85) s m args below meth c Q cX3_isNext D A9 (fun (r : Int32) (u : (tF × tA)) => K r u.1 u.2) (fun (u : (tF × tA)) => (wX3 cI cZ o q u.1 u.2 : va_W)))   : ∀ (n : Nat) (x3 : Int32) (H : Heap) (locs : List Loc) (ls : Array Slot), p_X3_isNext_L62 i1 F A x2 K n x3 → va_P D vwCl (wX3 cI cZ o q F A : va_W) H → va_D A9 (wX3 cI cZ o q F A : va_W) → va_S A9 s.heap H locs → lv_has ls 4 [(0, .ref o), (1, .ref (adK i1)), (2, .int x2), (3, .int x3)] → W p l e (rmN 4 85) s m args below meth c H locs 0 0 Q (F0 m 62 ls []) := by
  obtain ⟨hx, hb, hml, ht, hown, hK, hA, hE⟩ := id X
  intro n
  induction n with
  | zero => intro x3 H locs ls h; exact False.elim h
  | succ n62 ih =>
    intro x3 H locs ls h hP hD hS hl
    rw [p_X3_isNext_L62] at h
    refine lv_iload_n hx hb dX3_isNext_62 rfl (lv_at hl 3 rfl) ?_
    refine lv_aload_n hx hb dX3_isNext_63 rfl (lv_at hl 1 rfl) ?_
    obtain ⟨hs64, h⟩ := h
    refine C_ki X hP hD hS hs64 [] [.int x3] (w_J0_length l D cI cZ cR adK adV _ i1 hs64 (fun r => r = (nI (sLn i1))) rfl) (fun _ => rfl) cal_J0_length mw_8_12 rfl rfl ⟨rfl, rfl⟩ ⟨Nat.le_of_ble_eq_true rfl, Nat.le_of_ble_eq_true rfl⟩ hl.1 rfl (Nat.le_of_ble_eq_true rfl) ⟨Nat.zero_le _, Nat.zero_le _⟩ dX3_isNext_64 (fun r u H locs hr hP hD hS => ?_)
    subst hr
    refine lv_icmp_ge (tgt := 97) hx hb dX3_isNext_67 (by decide) (fun c67 => ?_) (fun c67 => ?_)
    · replace h := h.1 c67
      refine lv_aload_n hx hb dX3_isNext_97 rfl (lv_at hl 0 rfl) ?_
      refine lv_iload_n hx hb dX3_isNext_98 rfl (lv_at hl 2 rfl) ?_
      refine va_put (C := RX3) (T := TX3) (N := 4) (own := RX3) (v := .int x2) hx hb ht inlX3 tyX3 tyX3_ok nmX3 hown hK hP hD hS 0 rfl rfl 2 (Nat.le_of_ble_eq_true rfl) (ht _ mw_3_22) (fun _ h9 => h9) rfl (tyX3_ok 2 (Nat.le_of_ble_eq_true rfl)) rfl rfl (Nat.le_of_ble_eq_true rfl) dX3_isNext_99 (fun H locs hP hD hS => ?_)
      have hP : va_P D vwCl (wX3 cI cZ o q (upd F 2 x2) A : va_W) H := hP
      have hD : va_D A9 (wX3 cI cZ o q (upd F 2 x2) A : va_W) := hD
      refine lv_iconst (v := 1) hx hb dX3_isNext_102 (by decide) ?_
      exact ret _ ((upd F 2 x2), A) _ _ _ _ dX3_isNext_103 bo_1 h hP hD hS
    · replace h := h.2 c67
      refine lv_aload_n hx hb dX3_isNext_70 rfl (lv_at hl 0 rfl) ?_
      refine va_get (C := RX3) (T := TX3) (N := 4) (own := RX3) (v := .ref (q 0)) hx hb ht inlX3 hown hK hP 0 rfl rfl 0 (Nat.le_of_ble_eq_true rfl) (ht _ mw_3_20) (fun _ h9 => h9) rfl dX3_isNext_71 ?_
      refine lv_aload_n hx hb dX3_isNext_74 rfl (lv_at hl 0 rfl) ?_
      refine va_get (C := RX3) (T := TX3) (N := 4) (own := RX3) (v := .int (F 2)) hx hb ht inlX3 hown hK hP 0 rfl rfl 2 (Nat.le_of_ble_eq_true rfl) (ht _ mw_3_22) (fun _ h9 => h9) rfl dX3_isNext_75 ?_
      refine lv_iload_n hx hb dX3_isNext_78 rfl (lv_at hl 3 rfl) ?_
      refine lv_iadd hx hb dX3_isNext_79 ?_
      obtain ⟨hi80, h⟩ := h
      refine g_iald (f := (A 0)) (k := (((F 2) + x3)).toNatClampNeg) hx hb hK hP 1 0 rfl rfl hi80 rfl dX3_isNext_80 ?_
      refine lv_aload_n hx hb dX3_isNext_81 rfl (lv_at hl 1 rfl) ?_
      refine lv_iload_n hx hb dX3_isNext_82 rfl (lv_at hl 3 rfl) ?_
      obtain ⟨hs83, h⟩ := h
      obtain ⟨hc83, h⟩ := h
      refine C_ki X hP hD hS hs83 [.int x3] [.int ((A 0) (((F 2) + x3)).toNatClampNeg)] (w_J0_charAt l D cI cZ cR adK adV _ i1 hs83 x3 hc83 (fun r => r = (sCh i1 (x3).toNatClampNeg)) rfl) (fun _ => rfl) cal_J0_charAt mw_9_0 rfl rfl ⟨rfl, rfl⟩ ⟨Nat.le_of_ble_eq_true rfl, Nat.le_of_ble_eq_true rfl⟩ hl.1 rfl (Nat.le_of_ble_eq_true rfl) ⟨Nat.zero_le _, Nat.zero_le _⟩ dX3_isNext_83 (fun r u H locs hr hP hD hS => ?_)
      subst hr
      refine lv_icmp_eq (tgt := 91) hx hb dX3_isNext_86 (by decide) (fun c86 => ?_) (fun c86 => ?_)
      · replace h := h.1 c86
        obtain ⟨y91, ey91⟩ : ∃ y : Int32, y = (x3 + (1 : Int32)) := ⟨_, rfl⟩
        replace h := h y91 ey91
        refine lv_iinc (v := y91) (lv' := [(3, .int y91), (0, .ref o), (1, .ref (adK i1)), (2, .int x2)]) hx hb dX3_isNext_91 hl (k := 3) rfl (by rw [ey91]; rfl) (by decide) rfl (fun ls hl => ?_)
        refine lv_goto (tgt := 62) hx hb dX3_isNext_94 (by decide) ?_
        exact ih y91 _ _ _ h hP hD hS (lv_sub hl [1, 2, 3, 0] rfl)
      · replace h := h.2 c86
        refine lv_iconst (v := 0) hx hb dX3_isNext_89 (by decide) ?_
        exact ret _ (F, A) _ _ _ _ dX3_isNext_90 bo_0 h hP hD hS
def p_X3_isNext_J45 (i1 : Nat) (F : tF) (A : tA) (K : Int32 → tF → tA → Prop) (x2 : Int32) : Prop := (i1 < sN ∧ (((x2 - (F 2)) = (nI (sLn i1)) → (∃ n62, p_X3_isNext_L62 i1 F A x2 K n62 (0 : Int32))) ∧ (¬ (x2 - (F 2)) = (nI (sLn i1)) → (K (0 : Int32) F A))))
set_option maxHeartbeats 4000000 in
set_option maxRecDepth 100000 in
theorem b_X3_isNext_J45 {p : Program} {l : Launch} {e : Env} {s : State} {m : MethodId} {args : Array Value} {below : List Frame} {meth : Method} {c : Code} {Q : State → Prop} {D : va_G} {cI cZ cR : ClassId} {adK adV : Nat → Nat} {A9 : Nat → Prop} {o : Nat} {q : Nat → Nat} {K : Int32 → tF → tA → Prop}  (i1 : Nat) (F : tF) (A : tA) (x2 : Int32) (X : CX p s m args c yX3_isNext.cls cX3_isNext 4 D cI cZ cR adK adV A9) (ret : RTz p l e (rmN 4 85) s m args below meth c Q cX3_isNext D A9 (fun (r : Int32) (u : (tF × tA)) => K r u.1 u.2) (fun (u : (tF × tA)) => (wX3 cI cZ o q u.1 u.2 : va_W)))  (H : Heap) (locs : List Loc) (ls : Array Slot) (h : p_X3_isNext_J45 i1 F A K x2) (hP : va_P D vwCl (wX3 cI cZ o q F A : va_W) H) (hD : va_D A9 (wX3 cI cZ o q F A : va_W)) (hS : va_S A9 s.heap H locs) (hl : lv_has ls 4 [(0, .ref o), (1, .ref (adK i1)), (2, .int x2)]) : W p l e (rmN 4 85) s m args below meth c H locs 0 0 Q (F0 m 45 ls []) := by
  obtain ⟨hx, hb, hml, ht, hown, hK, hA, hE⟩ := id X
  unfold p_X3_isNext_J45 at h
  refine lv_iload_n hx hb dX3_isNext_45 rfl (lv_at hl 2 rfl) ?_
  refine lv_aload_n hx hb dX3_isNext_46 rfl (lv_at hl 0 rfl) ?_
  refine va_get (C := RX3) (T := TX3) (N := 4) (own := RX3) (v := .int (F 2)) hx hb ht inlX3 hown hK hP 0 rfl rfl 2 (Nat.le_of_ble_eq_true rfl) (ht _ mw_3_22) (fun _ h9 => h9) rfl dX3_isNext_47 ?_
  refine lv_isub hx hb dX3_isNext_50 ?_
  refine lv_aload_n hx hb dX3_isNext_51 rfl (lv_at hl 1 rfl) ?_
  obtain ⟨hs52, h⟩ := h
  refine C_ki X hP hD hS hs52 [] [.int (x2 - (F 2))] (w_J0_length l D cI cZ cR adK adV _ i1 hs52 (fun r => r = (nI (sLn i1))) rfl) (fun _ => rfl) cal_J0_length mw_8_12 rfl rfl ⟨rfl, rfl⟩ ⟨Nat.le_of_ble_eq_true rfl, Nat.le_of_ble_eq_true rfl⟩ hl.1 rfl (Nat.le_of_ble_eq_true rfl) ⟨Nat.zero_le _, Nat.zero_le _⟩ dX3_isNext_52 (fun r u H locs hr hP hD hS => ?_)
  subst hr
  refine lv_icmp_eq (tgt := 60) hx hb dX3_isNext_55 (by decide) (fun c55 => ?_) (fun c55 => ?_)
  · replace h := h.1 c55
    refine lv_iconst (v := 0) hx hb dX3_isNext_60 (by decide) ?_
    refine lv_istore_n (lv' := [(3, .int (0 : Int32)), (0, .ref o), (1, .ref (adK i1)), (2, .int x2)]) hx hb dX3_isNext_61 rfl hl (by decide) rfl (fun ls hl => ?_)
    obtain ⟨n62, h⟩ := h
    exact b_X3_isNext_L62 i1 F A x2 X ret  n62 (0 : Int32) _ _ _ h hP hD hS (lv_sub hl [1, 2, 3, 0] rfl)
  · replace h := h.2 c55
    refine lv_iconst (v := 0) hx hb dX3_isNext_58 (by decide) ?_
    exact ret _ (F, A) _ _ _ _ dX3_isNext_59 bo_0 h hP hD hS
def p_X3_isNext_L9 (i1 : Nat) (F : tF) (A : tA) (K : Int32 → tF → tA → Prop) : Nat → Int32 → Prop
  | 0, _ => False
  | n9 + 1, x2 => (((F 1) ≤ x2 → (p_X3_isNext_J45 i1 F A K x2)) ∧ (¬ (F 1) ≤ x2 → (vp_in x2 200 ∧ ((((A 0) (x2).toNatClampNeg) < (97 : Int32) → (p_X3_isNext_J45 i1 F A K x2)) ∧ (¬ ((A 0) (x2).toNatClampNeg) < (97 : Int32) → (vp_in x2 200 ∧ (((122 : Int32) < ((A 0) (x2).toNatClampNeg) → (p_X3_isNext_J45 i1 F A K x2)) ∧ (¬ (122 : Int32) < ((A 0) (x2).toNatClampNeg) → (∀ y39 : Int32, y39 = (x2 + (1 : Int32)) → ((p_X3_isNext_L9 i1 F A K n9) y39))))))))))
set_option maxHeartbeats 4000000 in
set_option maxRecDepth 100000 in
theorem b_X3_isNext_L9 {p : Program} {l : Launch} {e : Env} {s : State} {m : MethodId} {args : Array Value} {below : List Frame} {meth : Method} {c : Code} {Q : State → Prop} {D : va_G} {cI cZ cR : ClassId} {adK adV : Nat → Nat} {A9 : Nat → Prop} {o : Nat} {q : Nat → Nat} {K : Int32 → tF → tA → Prop}  (i1 : Nat) (F : tF) (A : tA) (X : CX p s m args c yX3_isNext.cls cX3_isNext 4 D cI cZ cR adK adV A9) (ret : RTz p l e (rmN 4 85) s m args below meth c Q cX3_isNext D A9 (fun (r : Int32) (u : (tF × tA)) => K r u.1 u.2) (fun (u : (tF × tA)) => (wX3 cI cZ o q u.1 u.2 : va_W)))   : ∀ (n : Nat) (x2 : Int32) (H : Heap) (locs : List Loc) (ls : Array Slot), p_X3_isNext_L9 i1 F A K n x2 → va_P D vwCl (wX3 cI cZ o q F A : va_W) H → va_D A9 (wX3 cI cZ o q F A : va_W) → va_S A9 s.heap H locs → lv_has ls 4 [(0, .ref o), (1, .ref (adK i1)), (2, .int x2)] → W p l e (rmN 4 85) s m args below meth c H locs 0 0 Q (F0 m 9 ls []) := by
  obtain ⟨hx, hb, hml, ht, hown, hK, hA, hE⟩ := id X
  intro n
  induction n with
  | zero => intro x2 H locs ls h; exact False.elim h
  | succ n9 ih =>
    intro x2 H locs ls h hP hD hS hl
    rw [p_X3_isNext_L9] at h
    refine lv_iload_n hx hb dX3_isNext_9 rfl (lv_at hl 2 rfl) ?_
    refine lv_aload_n hx hb dX3_isNext_10 rfl (lv_at hl 0 rfl) ?_
    refine va_get (C := RX3) (T := TX3) (N := 4) (own := RX3) (v := .int (F 1)) hx hb ht inlX3 hown hK hP 0 rfl rfl 1 (Nat.le_of_ble_eq_true rfl) (ht _ mw_3_21) (fun _ h9 => h9) rfl dX3_isNext_11 ?_
    refine lv_icmp_ge (tgt := 45) hx hb dX3_isNext_14 (by decide) (fun c14 => ?_) (fun c14 => ?_)
    · replace h := h.1 c14
      exact b_X3_isNext_J45 i1 F A x2 X ret  _ _ _ h hP hD hS (lv_sub hl [0, 1, 2] rfl)
    · replace h := h.2 c14
      refine lv_aload_n hx hb dX3_isNext_17 rfl (lv_at hl 0 rfl) ?_
      refine va_get (C := RX3) (T := TX3) (N := 4) (own := RX3) (v := .ref (q 0)) hx hb ht inlX3 hown hK hP 0 rfl rfl 0 (Nat.le_of_ble_eq_true rfl) (ht _ mw_3_20) (fun _ h9 => h9) rfl dX3_isNext_18 ?_
      refine lv_iload_n hx hb dX3_isNext_21 rfl (lv_at hl 2 rfl) ?_
      obtain ⟨hi22, h⟩ := h
      refine g_iald (f := (A 0)) (k := (x2).toNatClampNeg) hx hb hK hP 1 0 rfl rfl hi22 rfl dX3_isNext_22 ?_
      refine lv_bipush (v := 97) hx hb dX3_isNext_23 (by decide) ?_
      refine lv_icmp_lt (tgt := 45) hx hb dX3_isNext_25 (by decide) (fun c25 => ?_) (fun c25 => ?_)
      · replace h := h.1 c25
        exact b_X3_isNext_J45 i1 F A x2 X ret  _ _ _ h hP hD hS (lv_sub hl [0, 1, 2] rfl)
      · replace h := h.2 c25
        refine lv_aload_n hx hb dX3_isNext_28 rfl (lv_at hl 0 rfl) ?_
        refine va_get (C := RX3) (T := TX3) (N := 4) (own := RX3) (v := .ref (q 0)) hx hb ht inlX3 hown hK hP 0 rfl rfl 0 (Nat.le_of_ble_eq_true rfl) (ht _ mw_3_20) (fun _ h9 => h9) rfl dX3_isNext_29 ?_
        refine lv_iload_n hx hb dX3_isNext_32 rfl (lv_at hl 2 rfl) ?_
        obtain ⟨hi33, h⟩ := h
        refine g_iald (f := (A 0)) (k := (x2).toNatClampNeg) hx hb hK hP 1 0 rfl rfl hi33 rfl dX3_isNext_33 ?_
        refine lv_bipush (v := 122) hx hb dX3_isNext_34 (by decide) ?_
        refine lv_icmp_gt (tgt := 45) hx hb dX3_isNext_36 (by decide) (fun c36 => ?_) (fun c36 => ?_)
        · replace h := h.1 c36
          exact b_X3_isNext_J45 i1 F A x2 X ret  _ _ _ h hP hD hS (lv_sub hl [0, 1, 2] rfl)
        · replace h := h.2 c36
          obtain ⟨y39, ey39⟩ : ∃ y : Int32, y = (x2 + (1 : Int32)) := ⟨_, rfl⟩
          replace h := h y39 ey39
          refine lv_iinc (v := y39) (lv' := [(2, .int y39), (0, .ref o), (1, .ref (adK i1))]) hx hb dX3_isNext_39 hl (k := 2) rfl (by rw [ey39]; rfl) (by decide) rfl (fun ls hl => ?_)
          refine lv_goto (tgt := 9) hx hb dX3_isNext_42 (by decide) ?_
          exact ih y39 _ _ _ h hP hD hS (lv_sub hl [1, 2, 0] rfl)
def p_X3_isNext (F : tF) (A : tA) (i1 : Nat) (K : Int32 → tF → tA → Prop) : Prop := (p_X3_skipBlanks F A (fun F_1 A_1 => (∀ y8 : Int32, y8 = (F_1 2) → (∃ n9, p_X3_isNext_L9 i1 F_1 A_1 K n9 y8))))
set_option maxHeartbeats 4000000 in
set_option maxRecDepth 100000 in
theorem w_X3_isNext (l : Launch) (D : va_G) (cI cZ cR : ClassId) (adK adV : Nat → Nat) (sz : Nat) (o : Nat) (q : Nat → Nat) (F : tF) (A : tA) (i1 : Nat) (K : Int32 → tF → tA → Prop) (h : p_X3_isNext F A i1 K) : MI l D cI cZ cR adK adV yX3_isNext cX3_isNext 4 (some .boolean) (rmN 4 85) [.ref o, .ref (adK i1)] (wX3 cI cZ o q F A : va_W) sz (fun (r : Int32) (u : (tF × tA)) => K r u.1 u.2) (fun (u : (tF × tA)) => (wX3 cI cZ o q u.1 u.2 : va_W)) := by
  refine M_z (by decide +kernel) (Nat.le_of_ble_eq_true rfl) ?_
  intro p e s m args below meth c Q A9 ls X ret hP hD hS hl
  obtain ⟨hx, hb, hml, ht, hown, hK, hA, hE⟩ := id X
  have hl : lv_has ls 4 [(0, .ref o), (1, .ref (adK i1))] := hl
  unfold p_X3_isNext at h
  refine lv_aload_n hx hb dX3_isNext_0 rfl (lv_at hl 0 rfl) ?_
  refine C_vv (wr := []) X hP hD hS [] [] (w_X3_skipBlanks l D cI cZ cR adK adV _ o q F A _ h) cal_X3_skipBlanks mw_7_16 rfl [0, 1] [] [0, 1] (fun u => (wX3 cI cZ o q u.1 u.2 : va_W)) rfl rfl (fun _ => rfl) rfl 0 rfl rfl ⟨rfl, rfl⟩ ⟨Nat.le_of_ble_eq_true rfl, Nat.le_of_ble_eq_true rfl⟩ hl.1 rfl (Nat.le_of_ble_eq_true rfl) ⟨Nat.zero_le _, Nat.zero_le _⟩ dX3_isNext_1 (fun u H locs h hP hD hS => ?_)
  obtain ⟨F_1, A_1⟩ := u
  try dsimp only at h
  have hP : va_P D vwCl (wX3 cI cZ o q F_1 A_1 : va_W) H := hP
  have hD : va_D A9 (wX3 cI cZ o q F_1 A_1 : va_W) := hD
  refine lv_aload_n hx hb dX3_isNext_4 rfl (lv_at hl 0 rfl) ?_
  refine va_get (C := RX3) (T := TX3) (N := 4) (own := RX3) (v := .int (F_1 2)) hx hb ht inlX3 hown hK hP 0 rfl rfl 2 (Nat.le_of_ble_eq_true rfl) (ht _ mw_3_22) (fun _ h9 => h9) rfl dX3_isNext_5 ?_
  refine lv_topi (fun y8 ey8 => ?_)
  replace h := h y8 ey8
  refine lv_istore_n (lv' := [(2, .int y8), (0, .ref o), (1, .ref (adK i1))]) hx hb dX3_isNext_8 rfl hl (by decide) rfl (fun ls hl => ?_)
  obtain ⟨n9, h⟩ := h
  exact b_X3_isNext_L9 i1 F_1 A_1 X ret  n9 y8 _ _ _ h hP hD hS (lv_sub hl [1, 2, 0] rfl)
theorem cal_X3_isNext : CalV yX3_isNext cX3_isNext 4 (some .boolean) 1 := ⟨mw_8_11, mw_1_22, mw_8_9, mw_8_10, ⟨by decide +kernel, by decide +kernel, by decide +kernel⟩⟩
theorem dX3_readKind_0 : decode cX3_readKind 0 = .ok (.aload_n 0, 1) := by decide +kernel
theorem dX3_readKind_1 : decode cX3_readKind 1 = .ok (.ldc 80, 2) := by decide +kernel
theorem dX3_readKind_3 : decode cX3_readKind 3 = .ok (.invokevirtual 44, 3) := by decide +kernel
theorem dX3_readKind_6 : decode cX3_readKind 6 = .ok (.ifCond .eq 5, 3) := by decide +kernel
theorem dX3_readKind_9 : decode cX3_readKind 9 = .ok (.iconst 0, 1) := by decide +kernel
theorem dX3_readKind_10 : decode cX3_readKind 10 = .ok (.ireturn, 1) := by decide +kernel
theorem dX3_readKind_11 : decode cX3_readKind 11 = .ok (.aload_n 0, 1) := by decide +kernel
theorem dX3_readKind_12 : decode cX3_readKind 12 = .ok (.ldc 82, 2) := by decide +kernel
theorem dX3_readKind_14 : decode cX3_readKind 14 = .ok (.invokevirtual 44, 3) := by decide +kernel
theorem dX3_readKind_17 : decode cX3_readKind 17 = .ok (.ifCond .eq 5, 3) := by decide +kernel
theorem dX3_readKind_20 : decode cX3_readKind 20 = .ok (.iconst 1, 1) := by decide +kernel
theorem dX3_readKind_21 : decode cX3_readKind 21 = .ok (.ireturn, 1) := by decide +kernel
theorem dX3_readKind_22 : decode cX3_readKind 22 = .ok (.aload_n 0, 1) := by decide +kernel
theorem dX3_readKind_23 : decode cX3_readKind 23 = .ok (.ldc 84, 2) := by decide +kernel
theorem dX3_readKind_25 : decode cX3_readKind 25 = .ok (.invokevirtual 44, 3) := by decide +kernel
theorem dX3_readKind_28 : decode cX3_readKind 28 = .ok (.ifCond .eq 5, 3) := by decide +kernel
theorem dX3_readKind_31 : decode cX3_readKind 31 = .ok (.iconst 2, 1) := by decide +kernel
theorem dX3_readKind_32 : decode cX3_readKind 32 = .ok (.ireturn, 1) := by decide +kernel
theorem dX3_readKind_33 : decode cX3_readKind 33 = .ok (.aload_n 0, 1) := by decide +kernel
theorem dX3_readKind_34 : decode cX3_readKind 34 = .ok (.ldc 86, 2) := by decide +kernel
theorem dX3_readKind_36 : decode cX3_readKind 36 = .ok (.invokevirtual 44, 3) := by decide +kernel
theorem dX3_readKind_39 : decode cX3_readKind 39 = .ok (.ifCond .eq 5, 3) := by decide +kernel
theorem dX3_readKind_42 : decode cX3_readKind 42 = .ok (.iconst 3, 1) := by decide +kernel
theorem dX3_readKind_43 : decode cX3_readKind 43 = .ok (.ireturn, 1) := by decide +kernel
theorem dX3_readKind_44 : decode cX3_readKind 44 = .ok (.aload_n 0, 1) := by decide +kernel
theorem dX3_readKind_45 : decode cX3_readKind 45 = .ok (.ldc 88, 2) := by decide +kernel
theorem dX3_readKind_47 : decode cX3_readKind 47 = .ok (.invokevirtual 44, 3) := by decide +kernel
theorem dX3_readKind_50 : decode cX3_readKind 50 = .ok (.ifCond .eq 5, 3) := by decide +kernel
theorem dX3_readKind_53 : decode cX3_readKind 53 = .ok (.iconst 4, 1) := by decide +kernel
theorem dX3_readKind_54 : decode cX3_readKind 54 = .ok (.ireturn, 1) := by decide +kernel
theorem dX3_readKind_55 : decode cX3_readKind 55 = .ok (.aload_n 0, 1) := by decide +kernel
theorem dX3_readKind_56 : decode cX3_readKind 56 = .ok (.ldc 90, 2) := by decide +kernel
theorem dX3_readKind_58 : decode cX3_readKind 58 = .ok (.invokevirtual 44, 3) := by decide +kernel
theorem dX3_readKind_61 : decode cX3_readKind 61 = .ok (.ifCond .eq 7, 3) := by decide +kernel
theorem dX3_readKind_64 : decode cX3_readKind 64 = .ok (.iconst 5, 1) := by decide +kernel
theorem dX3_readKind_65 : decode cX3_readKind 65 = .ok (.goto 5, 3) := by decide +kernel
theorem dX3_readKind_68 : decode cX3_readKind 68 = .ok (.bipush 6, 2) := by decide +kernel
theorem dX3_readKind_70 : decode cX3_readKind 70 = .ok (.ireturn, 1) := by decide +kernel
def p_X3_readKind (F : tF) (A : tA) (K : Int32 → tF → tA → Prop) : Prop := (p_X3_isNext F A 0 (fun r3 F_3 A_3 => ((r3 = 0 → (p_X3_isNext F_3 A_3 1 (fun r14 F_14 A_14 => ((r14 = 0 → (p_X3_isNext F_14 A_14 2 (fun r25 F_25 A_25 => ((r25 = 0 → (p_X3_isNext F_25 A_25 3 (fun r36 F_36 A_36 => ((r36 = 0 → (p_X3_isNext F_36 A_36 4 (fun r47 F_47 A_47 => ((r47 = 0 → (p_X3_isNext F_47 A_47 5 (fun r58 F_58 A_58 => ((r58 = 0 → (K (6 : Int32) F_58 A_58)) ∧ (¬ r58 = 0 → (K (5 : Int32) F_58 A_58)))))) ∧ (¬ r47 = 0 → (K (4 : Int32) F_47 A_47)))))) ∧ (¬ r36 = 0 → (K (3 : Int32) F_36 A_36)))))) ∧ (¬ r25 = 0 → (K (2 : Int32) F_25 A_25)))))) ∧ (¬ r14 = 0 → (K (1 : Int32) F_14 A_14)))))) ∧ (¬ r3 = 0 → (K (0 : Int32) F_3 A_3)))))
set_option maxHeartbeats 4000000 in
set_option maxRecDepth 100000 in
theorem w_X3_readKind (l : Launch) (D : va_G) (cI cZ cR : ClassId) (adK adV : Nat → Nat) (sz : Nat) (o : Nat) (q : Nat → Nat) (F : tF) (A : tA) (K : Int32 → tF → tA → Prop) (h : p_X3_readKind F A K) : MI l D cI cZ cR adK adV yX3_readKind cX3_readKind 1 (some .int) (rmN 5 108) [.ref o] (wX3 cI cZ o q F A : va_W) sz (fun (r : Int32) (u : (tF × tA)) => K r u.1 u.2) (fun (u : (tF × tA)) => (wX3 cI cZ o q u.1 u.2 : va_W)) := by
  refine M_i (by decide +kernel) (Nat.le_of_ble_eq_true rfl) ?_
  intro p e s m args below meth c Q A9 ls X ret hP hD hS hl
  obtain ⟨hx, hb, hml, ht, hown, hK, hA, hE⟩ := id X
  have hl : lv_has ls 1 [(0, .ref o)] := hl
  unfold p_X3_readKind at h
  refine lv_aload_n hx hb dX3_readKind_0 rfl (lv_at hl 0 rfl) ?_
  refine va_ldcS (tx := sTx 0) (index := 80) (q := adK 0) hx hb hown (hE.1.2 0 (by decide)) dX3_readKind_1 ?_
  refine C_vi (wr := []) X hP hD hS [.ref (adK 0)] [] (w_X3_isNext l D cI cZ cR adK adV _ o q F A 0 _ h) cal_X3_isNext mw_8_8 rfl [0, 1] [] [0, 1] (fun u => (wX3 cI cZ o q u.1 u.2 : va_W)) rfl rfl (fun _ => rfl) rfl 0 rfl rfl ⟨rfl, rfl⟩ ⟨Nat.le_of_ble_eq_true rfl, Nat.le_of_ble_eq_true rfl⟩ hl.1 rfl (Nat.le_of_ble_eq_true rfl) ⟨Nat.zero_le _, Nat.zero_le _⟩ dX3_readKind_3 (fun r3 u H locs h hP hD hS => ?_)
  obtain ⟨F_3, A_3⟩ := u
  try dsimp only at h
  have hP : va_P D vwCl (wX3 cI cZ o q F_3 A_3 : va_W) H := hP
  have hD : va_D A9 (wX3 cI cZ o q F_3 A_3 : va_W) := hD
  refine lv_if_eq (tgt := 11) hx hb dX3_readKind_6 (by decide) (fun c6 => ?_) (fun c6 => ?_)
  · replace h := h.1 c6
    refine lv_aload_n hx hb dX3_readKind_11 rfl (lv_at hl 0 rfl) ?_
    refine va_ldcS (tx := sTx 1) (index := 82) (q := adK 1) hx hb hown (hE.1.2 1 (by decide)) dX3_readKind_12 ?_
    refine C_vi (wr := []) X hP hD hS [.ref (adK 1)] [] (w_X3_isNext l D cI cZ cR adK adV _ o q F_3 A_3 1 _ h) cal_X3_isNext mw_8_8 rfl [0, 1] [] [0, 1] (fun u => (wX3 cI cZ o q u.1 u.2 : va_W)) rfl rfl (fun _ => rfl) rfl 0 rfl rfl ⟨rfl, rfl⟩ ⟨Nat.le_of_ble_eq_true rfl, Nat.le_of_ble_eq_true rfl⟩ hl.1 rfl (Nat.le_of_ble_eq_true rfl) ⟨Nat.zero_le _, Nat.zero_le _⟩ dX3_readKind_14 (fun r14 u H locs h hP hD hS => ?_)
    obtain ⟨F_14, A_14⟩ := u
    try dsimp only at h
    have hP : va_P D vwCl (wX3 cI cZ o q F_14 A_14 : va_W) H := hP
    have hD : va_D A9 (wX3 cI cZ o q F_14 A_14 : va_W) := hD
    refine lv_if_eq (tgt := 22) hx hb dX3_readKind_17 (by decide) (fun c17 => ?_) (fun c17 => ?_)
    · replace h := h.1 c17
      refine lv_aload_n hx hb dX3_readKind_22 rfl (lv_at hl 0 rfl) ?_
      refine va_ldcS (tx := sTx 2) (index := 84) (q := adK 2) hx hb hown (hE.1.2 2 (by decide)) dX3_readKind_23 ?_
      refine C_vi (wr := []) X hP hD hS [.ref (adK 2)] [] (w_X3_isNext l D cI cZ cR adK adV _ o q F_14 A_14 2 _ h) cal_X3_isNext mw_8_8 rfl [0, 1] [] [0, 1] (fun u => (wX3 cI cZ o q u.1 u.2 : va_W)) rfl rfl (fun _ => rfl) rfl 0 rfl rfl ⟨rfl, rfl⟩ ⟨Nat.le_of_ble_eq_true rfl, Nat.le_of_ble_eq_true rfl⟩ hl.1 rfl (Nat.le_of_ble_eq_true rfl) ⟨Nat.zero_le _, Nat.zero_le _⟩ dX3_readKind_25 (fun r25 u H locs h hP hD hS => ?_)
      obtain ⟨F_25, A_25⟩ := u
      try dsimp only at h
      have hP : va_P D vwCl (wX3 cI cZ o q F_25 A_25 : va_W) H := hP
      have hD : va_D A9 (wX3 cI cZ o q F_25 A_25 : va_W) := hD
      refine lv_if_eq (tgt := 33) hx hb dX3_readKind_28 (by decide) (fun c28 => ?_) (fun c28 => ?_)
      · replace h := h.1 c28
        refine lv_aload_n hx hb dX3_readKind_33 rfl (lv_at hl 0 rfl) ?_
        refine va_ldcS (tx := sTx 3) (index := 86) (q := adK 3) hx hb hown (hE.1.2 3 (by decide)) dX3_readKind_34 ?_
        refine C_vi (wr := []) X hP hD hS [.ref (adK 3)] [] (w_X3_isNext l D cI cZ cR adK adV _ o q F_25 A_25 3 _ h) cal_X3_isNext mw_8_8 rfl [0, 1] [] [0, 1] (fun u => (wX3 cI cZ o q u.1 u.2 : va_W)) rfl rfl (fun _ => rfl) rfl 0 rfl rfl ⟨rfl, rfl⟩ ⟨Nat.le_of_ble_eq_true rfl, Nat.le_of_ble_eq_true rfl⟩ hl.1 rfl (Nat.le_of_ble_eq_true rfl) ⟨Nat.zero_le _, Nat.zero_le _⟩ dX3_readKind_36 (fun r36 u H locs h hP hD hS => ?_)
        obtain ⟨F_36, A_36⟩ := u
        try dsimp only at h
        have hP : va_P D vwCl (wX3 cI cZ o q F_36 A_36 : va_W) H := hP
        have hD : va_D A9 (wX3 cI cZ o q F_36 A_36 : va_W) := hD
        refine lv_if_eq (tgt := 44) hx hb dX3_readKind_39 (by decide) (fun c39 => ?_) (fun c39 => ?_)
        · replace h := h.1 c39
          refine lv_aload_n hx hb dX3_readKind_44 rfl (lv_at hl 0 rfl) ?_
          refine va_ldcS (tx := sTx 4) (index := 88) (q := adK 4) hx hb hown (hE.1.2 4 (by decide)) dX3_readKind_45 ?_
          refine C_vi (wr := []) X hP hD hS [.ref (adK 4)] [] (w_X3_isNext l D cI cZ cR adK adV _ o q F_36 A_36 4 _ h) cal_X3_isNext mw_8_8 rfl [0, 1] [] [0, 1] (fun u => (wX3 cI cZ o q u.1 u.2 : va_W)) rfl rfl (fun _ => rfl) rfl 0 rfl rfl ⟨rfl, rfl⟩ ⟨Nat.le_of_ble_eq_true rfl, Nat.le_of_ble_eq_true rfl⟩ hl.1 rfl (Nat.le_of_ble_eq_true rfl) ⟨Nat.zero_le _, Nat.zero_le _⟩ dX3_readKind_47 (fun r47 u H locs h hP hD hS => ?_)
          obtain ⟨F_47, A_47⟩ := u
          try dsimp only at h
          have hP : va_P D vwCl (wX3 cI cZ o q F_47 A_47 : va_W) H := hP
          have hD : va_D A9 (wX3 cI cZ o q F_47 A_47 : va_W) := hD
          refine lv_if_eq (tgt := 55) hx hb dX3_readKind_50 (by decide) (fun c50 => ?_) (fun c50 => ?_)
          · replace h := h.1 c50
            refine lv_aload_n hx hb dX3_readKind_55 rfl (lv_at hl 0 rfl) ?_
            refine va_ldcS (tx := sTx 5) (index := 90) (q := adK 5) hx hb hown (hE.1.2 5 (by decide)) dX3_readKind_56 ?_
            refine C_vi (wr := []) X hP hD hS [.ref (adK 5)] [] (w_X3_isNext l D cI cZ cR adK adV _ o q F_47 A_47 5 _ h) cal_X3_isNext mw_8_8 rfl [0, 1] [] [0, 1] (fun u => (wX3 cI cZ o q u.1 u.2 : va_W)) rfl rfl (fun _ => rfl) rfl 0 rfl rfl ⟨rfl, rfl⟩ ⟨Nat.le_of_ble_eq_true rfl, Nat.le_of_ble_eq_true rfl⟩ hl.1 rfl (Nat.le_of_ble_eq_true rfl) ⟨Nat.zero_le _, Nat.zero_le _⟩ dX3_readKind_58 (fun r58 u H locs h hP hD hS => ?_)
            obtain ⟨F_58, A_58⟩ := u
            try dsimp only at h
            have hP : va_P D vwCl (wX3 cI cZ o q F_58 A_58 : va_W) H := hP
            have hD : va_D A9 (wX3 cI cZ o q F_58 A_58 : va_W) := hD
            refine lv_if_eq (tgt := 68) hx hb dX3_readKind_61 (by decide) (fun c61 => ?_) (fun c61 => ?_)
            · replace h := h.1 c61
              refine lv_bipush (v := 6) hx hb dX3_readKind_68 (by decide) ?_
              exact ret _ (F_58, A_58) _ _ _ _ dX3_readKind_70 h hP hD hS
            · replace h := h.2 c61
              refine lv_iconst (v := 5) hx hb dX3_readKind_64 (by decide) ?_
              refine lv_goto (tgt := 70) hx hb dX3_readKind_65 (by decide) ?_
              exact ret _ (F_58, A_58) _ _ _ _ dX3_readKind_70 h hP hD hS
          · replace h := h.2 c50
            refine lv_iconst (v := 4) hx hb dX3_readKind_53 (by decide) ?_
            exact ret _ (F_47, A_47) _ _ _ _ dX3_readKind_54 h hP hD hS
        · replace h := h.2 c39
          refine lv_iconst (v := 3) hx hb dX3_readKind_42 (by decide) ?_
          exact ret _ (F_36, A_36) _ _ _ _ dX3_readKind_43 h hP hD hS
      · replace h := h.2 c28
        refine lv_iconst (v := 2) hx hb dX3_readKind_31 (by decide) ?_
        exact ret _ (F_25, A_25) _ _ _ _ dX3_readKind_32 h hP hD hS
    · replace h := h.2 c17
      refine lv_iconst (v := 1) hx hb dX3_readKind_20 (by decide) ?_
      exact ret _ (F_14, A_14) _ _ _ _ dX3_readKind_21 h hP hD hS
  · replace h := h.2 c6
    refine lv_iconst (v := 0) hx hb dX3_readKind_9 (by decide) ?_
    exact ret _ (F_3, A_3) _ _ _ _ dX3_readKind_10 h hP hD hS
theorem cal_X3_readNumber : CalV yX3_readNumber cX3_readNumber 5 (some .int) 1 := ⟨mw_11_1, mw_1_22, mw_10_23, mw_11_0, ⟨by decide +kernel, by decide +kernel, by decide +kernel⟩⟩
theorem cal_X2_add : CalV yX2_add cX2_add 5 none 4 := ⟨mw_11_5, mw_1_15, mw_11_3, mw_11_4, ⟨by decide +kernel, by decide +kernel, by decide +kernel⟩⟩
theorem dX3_readSheep_0 : decode cX3_readSheep 0 = .ok (.aload_n 1, 1) := by decide +kernel
theorem dX3_readSheep_1 : decode cX3_readSheep 1 = .ok (.getfield 92, 3) := by decide +kernel
theorem dX3_readSheep_4 : decode cX3_readSheep 4 = .ok (.bipush 8, 2) := by decide +kernel
theorem dX3_readSheep_6 : decode cX3_readSheep 6 = .ok (.if_icmp .lt 8, 3) := by decide +kernel
theorem dX3_readSheep_9 : decode cX3_readSheep 9 = .ok (.aload_n 0, 1) := by decide +kernel
theorem dX3_readSheep_10 : decode cX3_readSheep 10 = .ok (.iload_n 3, 1) := by decide +kernel
theorem dX3_readSheep_11 : decode cX3_readSheep 11 = .ok (.invokevirtual 95, 3) := by decide +kernel
theorem dX3_readSheep_14 : decode cX3_readSheep 14 = .ok (.aload_n 0, 1) := by decide +kernel
theorem dX3_readSheep_15 : decode cX3_readSheep 15 = .ok (.ldc 99, 2) := by decide +kernel
theorem dX3_readSheep_17 : decode cX3_readSheep 17 = .ok (.invokevirtual 44, 3) := by decide +kernel
theorem dX3_readSheep_20 : decode cX3_readSheep 20 = .ok (.ifCond .eq 12, 3) := by decide +kernel
theorem dX3_readSheep_23 : decode cX3_readSheep 23 = .ok (.aload_n 0, 1) := by decide +kernel
theorem dX3_readSheep_24 : decode cX3_readSheep 24 = .ok (.bipush 9, 2) := by decide +kernel
theorem dX3_readSheep_26 : decode cX3_readSheep 26 = .ok (.invokevirtual 62, 3) := by decide +kernel
theorem dX3_readSheep_29 : decode cX3_readSheep 29 = .ok (.goto 4, 3) := by decide +kernel
theorem dX3_readSheep_32 : decode cX3_readSheep 32 = .ok (.iconst 0, 1) := by decide +kernel
theorem dX3_readSheep_33 : decode cX3_readSheep 33 = .ok (.istore 4, 2) := by decide +kernel
theorem dX3_readSheep_35 : decode cX3_readSheep 35 = .ok (.aload_n 0, 1) := by decide +kernel
theorem dX3_readSheep_36 : decode cX3_readSheep 36 = .ok (.ldc 101, 2) := by decide +kernel
theorem dX3_readSheep_38 : decode cX3_readSheep 38 = .ok (.invokevirtual 44, 3) := by decide +kernel
theorem dX3_readSheep_41 : decode cX3_readSheep 41 = .ok (.ifCond .eq 12, 3) := by decide +kernel
theorem dX3_readSheep_44 : decode cX3_readSheep 44 = .ok (.aload_n 0, 1) := by decide +kernel
theorem dX3_readSheep_45 : decode cX3_readSheep 45 = .ok (.bipush 9, 2) := by decide +kernel
theorem dX3_readSheep_47 : decode cX3_readSheep 47 = .ok (.invokevirtual 62, 3) := by decide +kernel
theorem dX3_readSheep_50 : decode cX3_readSheep 50 = .ok (.goto 4, 3) := by decide +kernel
theorem dX3_readSheep_53 : decode cX3_readSheep 53 = .ok (.iconst 0, 1) := by decide +kernel
theorem dX3_readSheep_54 : decode cX3_readSheep 54 = .ok (.istore 5, 2) := by decide +kernel
theorem dX3_readSheep_56 : decode cX3_readSheep 56 = .ok (.aload_n 0, 1) := by decide +kernel
theorem dX3_readSheep_57 : decode cX3_readSheep 57 = .ok (.ldc 103, 2) := by decide +kernel
theorem dX3_readSheep_59 : decode cX3_readSheep 59 = .ok (.invokevirtual 44, 3) := by decide +kernel
theorem dX3_readSheep_62 : decode cX3_readSheep 62 = .ok (.ifCond .eq 11, 3) := by decide +kernel
theorem dX3_readSheep_65 : decode cX3_readSheep 65 = .ok (.aload_n 0, 1) := by decide +kernel
theorem dX3_readSheep_66 : decode cX3_readSheep 66 = .ok (.iconst 5, 1) := by decide +kernel
theorem dX3_readSheep_67 : decode cX3_readSheep 67 = .ok (.invokevirtual 62, 3) := by decide +kernel
theorem dX3_readSheep_70 : decode cX3_readSheep 70 = .ok (.goto 4, 3) := by decide +kernel
theorem dX3_readSheep_73 : decode cX3_readSheep 73 = .ok (.iconst 0, 1) := by decide +kernel
theorem dX3_readSheep_74 : decode cX3_readSheep 74 = .ok (.istore 6, 2) := by decide +kernel
theorem dX3_readSheep_76 : decode cX3_readSheep 76 = .ok (.aload_n 1, 1) := by decide +kernel
theorem dX3_readSheep_77 : decode cX3_readSheep 77 = .ok (.iload_n 2, 1) := by decide +kernel
theorem dX3_readSheep_78 : decode cX3_readSheep 78 = .ok (.iload 4, 2) := by decide +kernel
theorem dX3_readSheep_80 : decode cX3_readSheep 80 = .ok (.iload 5, 2) := by decide +kernel
theorem dX3_readSheep_82 : decode cX3_readSheep 82 = .ok (.iload 6, 2) := by decide +kernel
theorem dX3_readSheep_84 : decode cX3_readSheep 84 = .ok (.invokevirtual 105, 3) := by decide +kernel
theorem dX3_readSheep_87 : decode cX3_readSheep 87 = .ok (.return_, 1) := by decide +kernel
def p_X3_readSheep_J74 (F : tF) (A : tA) (F1 : tF) (A1 : tA) (K : tF → tA → tF → tA → Prop) (x2 : Int32) (x4 : Int32) (x5 : Int32) (s0 : Int32) : Prop := (p_X2_add F1 A1 x2 x4 x5 s0 (fun F1_84 A1_84 => (K F A F1_84 A1_84)))
set_option maxHeartbeats 4000000 in
set_option maxRecDepth 100000 in
theorem b_X3_readSheep_J74 {p : Program} {l : Launch} {e : Env} {s : State} {m : MethodId} {args : Array Value} {below : List Frame} {meth : Method} {c : Code} {Q : State → Prop} {D : va_G} {cI cZ cR : ClassId} {adK adV : Nat → Nat} {A9 : Nat → Prop} {o : Nat} {q : Nat → Nat} {o1 : Nat} {q1 : Nat → Nat} {K : tF → tA → tF → tA → Prop}  (F : tF) (A : tA) (F1 : tF) (A1 : tA) (x2 : Int32) (x4 : Int32) (x5 : Int32) (s0 : Int32) (X : CX p s m args c yX3_readSheep.cls cX3_readSheep 7 D cI cZ cR adK adV A9) (ret : RTv p l e (rmN 5 108) s m args below meth c Q cX3_readSheep D A9 (fun (u : (tF × tA) × (tF × tA)) => K u.1.1 u.1.2 u.2.1 u.2.2) (fun (u : (tF × tA) × (tF × tA)) => (wX3 cI cZ o q u.1.1 u.1.2 ++ wX2 cI cZ o1 q1 u.2.1 u.2.2 : va_W)))  (H : Heap) (locs : List Loc) (ls : Array Slot) (h : p_X3_readSheep_J74 F A F1 A1 K x2 x4 x5 s0) (hP : va_P D vwCl (wX3 cI cZ o q F A ++ wX2 cI cZ o1 q1 F1 A1 : va_W) H) (hD : va_D A9 (wX3 cI cZ o q F A ++ wX2 cI cZ o1 q1 F1 A1 : va_W)) (hS : va_S A9 s.heap H locs) (hl : lv_has ls 7 [(1, .ref o1), (2, .int x2), (4, .int x4), (5, .int x5)]) : W p l e (rmN 5 108) s m args below meth c H locs 0 0 Q (F0 m 74 ls [.int s0]) := by
  obtain ⟨hx, hb, hml, ht, hown, hK, hA, hE⟩ := id X
  unfold p_X3_readSheep_J74 at h
  refine lv_istore (lv' := [(6, .int s0), (1, .ref o1), (2, .int x2), (4, .int x4), (5, .int x5)]) hx hb dX3_readSheep_74 hl (by decide) rfl (fun ls hl => ?_)
  refine lv_aload_n hx hb dX3_readSheep_76 rfl (lv_at hl 1 rfl) ?_
  refine lv_iload_n hx hb dX3_readSheep_77 rfl (lv_at hl 2 rfl) ?_
  refine lv_iload hx hb dX3_readSheep_78 (lv_at hl 3 rfl) ?_
  refine lv_iload hx hb dX3_readSheep_80 (lv_at hl 4 rfl) ?_
  refine lv_iload hx hb dX3_readSheep_82 (lv_at hl 0 rfl) ?_
  refine C_vv (wr := [0, 1].filterMap (fun i => (wX3 cI cZ o q F A ++ wX2 cI cZ o1 q1 F1 A1 : va_W)[i]?)) X hP hD hS [.int x2, .int x4, .int x5, .int s0] [] (w_X2_add l D cI cZ cR adK adV _ o1 q1 F1 A1 x2 x4 x5 s0 _ h) cal_X2_add mw_11_2 rfl [2, 3, 4, 5, 6, 7, 8, 9, 10] [0, 1] [0, 1, 2, 3, 4, 5, 6, 7, 8, 9, 10] (fun u => (wX3 cI cZ o q F A ++ wX2 cI cZ o1 q1 u.1 u.2 : va_W)) rfl rfl (fun _ => rfl) rfl 2 rfl rfl ⟨rfl, rfl⟩ ⟨Nat.le_of_ble_eq_true rfl, Nat.le_of_ble_eq_true rfl⟩ hl.1 rfl (Nat.le_of_ble_eq_true rfl) ⟨Nat.zero_le _, Nat.zero_le _⟩ dX3_readSheep_84 (fun u H locs h hP hD hS => ?_)
  obtain ⟨F1_84, A1_84⟩ := u
  try dsimp only at h
  have hP : va_P D vwCl (wX3 cI cZ o q F A ++ wX2 cI cZ o1 q1 F1_84 A1_84 : va_W) H := hP
  have hD : va_D A9 (wX3 cI cZ o q F A ++ wX2 cI cZ o1 q1 F1_84 A1_84 : va_W) := hD
  exact ret ((F, A), (F1_84, A1_84)) _ _ _ _ dX3_readSheep_87 h hP hD hS
def p_X3_readSheep_J54 (F : tF) (A : tA) (F1 : tF) (A1 : tA) (K : tF → tA → tF → tA → Prop) (x2 : Int32) (x4 : Int32) (s0 : Int32) : Prop := (p_X3_isNext F A 8 (fun r59 F_59 A_59 => ((r59 = 0 → (p_X3_readSheep_J74 F_59 A_59 F1 A1 K x2 x4 s0 (0 : Int32))) ∧ (¬ r59 = 0 → (p_X3_readNumber F_59 A_59 (5 : Int32) (fun r67 F_67 A_67 => (p_X3_readSheep_J74 F_67 A_67 F1 A1 K x2 x4 s0 r67)))))))
set_option maxHeartbeats 4000000 in
set_option maxRecDepth 100000 in
theorem b_X3_readSheep_J54 {p : Program} {l : Launch} {e : Env} {s : State} {m : MethodId} {args : Array Value} {below : List Frame} {meth : Method} {c : Code} {Q : State → Prop} {D : va_G} {cI cZ cR : ClassId} {adK adV : Nat → Nat} {A9 : Nat → Prop} {o : Nat} {q : Nat → Nat} {o1 : Nat} {q1 : Nat → Nat} {K : tF → tA → tF → tA → Prop}  (F : tF) (A : tA) (F1 : tF) (A1 : tA) (x2 : Int32) (x4 : Int32) (s0 : Int32) (X : CX p s m args c yX3_readSheep.cls cX3_readSheep 7 D cI cZ cR adK adV A9) (ret : RTv p l e (rmN 5 108) s m args below meth c Q cX3_readSheep D A9 (fun (u : (tF × tA) × (tF × tA)) => K u.1.1 u.1.2 u.2.1 u.2.2) (fun (u : (tF × tA) × (tF × tA)) => (wX3 cI cZ o q u.1.1 u.1.2 ++ wX2 cI cZ o1 q1 u.2.1 u.2.2 : va_W)))  (H : Heap) (locs : List Loc) (ls : Array Slot) (h : p_X3_readSheep_J54 F A F1 A1 K x2 x4 s0) (hP : va_P D vwCl (wX3 cI cZ o q F A ++ wX2 cI cZ o1 q1 F1 A1 : va_W) H) (hD : va_D A9 (wX3 cI cZ o q F A ++ wX2 cI cZ o1 q1 F1 A1 : va_W)) (hS : va_S A9 s.heap H locs) (hl : lv_has ls 7 [(0, .ref o), (1, .ref o1), (2, .int x2), (4, .int x4)]) : W p l e (rmN 5 108) s m args below meth c H locs 0 0 Q (F0 m 54 ls [.int s0]) := by
  obtain ⟨hx, hb, hml, ht, hown, hK, hA, hE⟩ := id X
  unfold p_X3_readSheep_J54 at h
  refine lv_istore (lv' := [(5, .int s0), (0, .ref o), (1, .ref o1), (2, .int x2), (4, .int x4)]) hx hb dX3_readSheep_54 hl (by decide) rfl (fun ls hl => ?_)
  refine lv_aload_n hx hb dX3_readSheep_56 rfl (lv_at hl 1 rfl) ?_
  refine va_ldcS (tx := sTx 8) (index := 103) (q := adK 8) hx hb hown (hE.1.2 8 (by decide)) dX3_readSheep_57 ?_
  refine C_vi (wr := [2, 3, 4, 5, 6, 7, 8, 9, 10].filterMap (fun i => (wX3 cI cZ o q F A ++ wX2 cI cZ o1 q1 F1 A1 : va_W)[i]?)) X hP hD hS [.ref (adK 8)] [] (w_X3_isNext l D cI cZ cR adK adV _ o q F A 8 _ h) cal_X3_isNext mw_8_8 rfl [0, 1] [2, 3, 4, 5, 6, 7, 8, 9, 10] [9, 10, 0, 1, 2, 3, 4, 5, 6, 7, 8] (fun u => (wX3 cI cZ o q u.1 u.2 ++ wX2 cI cZ o1 q1 F1 A1 : va_W)) rfl rfl (fun _ => rfl) rfl 0 rfl rfl ⟨rfl, rfl⟩ ⟨Nat.le_of_ble_eq_true rfl, Nat.le_of_ble_eq_true rfl⟩ hl.1 rfl (Nat.le_of_ble_eq_true rfl) ⟨Nat.zero_le _, Nat.zero_le _⟩ dX3_readSheep_59 (fun r59 u H locs h hP hD hS => ?_)
  obtain ⟨F_59, A_59⟩ := u
  try dsimp only at h
  have hP : va_P D vwCl (wX3 cI cZ o q F_59 A_59 ++ wX2 cI cZ o1 q1 F1 A1 : va_W) H := hP
  have hD : va_D A9 (wX3 cI cZ o q F_59 A_59 ++ wX2 cI cZ o1 q1 F1 A1 : va_W) := hD
  refine lv_if_eq (tgt := 73) hx hb dX3_readSheep_62 (by decide) (fun c62 => ?_) (fun c62 => ?_)
  · replace h := h.1 c62
    refine lv_iconst (v := 0) hx hb dX3_readSheep_73 (by decide) ?_
    exact b_X3_readSheep_J74 F_59 A_59 F1 A1 x2 x4 s0 (0 : Int32) X ret  _ _ _ h hP hD hS (lv_sub hl [2, 3, 4, 0] rfl)
  · replace h := h.2 c62
    refine lv_aload_n hx hb dX3_readSheep_65 rfl (lv_at hl 1 rfl) ?_
    refine lv_iconst (v := 5) hx hb dX3_readSheep_66 (by decide) ?_
    refine C_vi (wr := [2, 3, 4, 5, 6, 7, 8, 9, 10].filterMap (fun i => (wX3 cI cZ o q F_59 A_59 ++ wX2 cI cZ o1 q1 F1 A1 : va_W)[i]?)) X hP hD hS [.int (5 : Int32)] [] (w_X3_readNumber l D cI cZ cR adK adV _ o q F_59 A_59 (5 : Int32) _ h) cal_X3_readNumber mw_10_22 rfl [0, 1] [2, 3, 4, 5, 6, 7, 8, 9, 10] [9, 10, 0, 1, 2, 3, 4, 5, 6, 7, 8] (fun u => (wX3 cI cZ o q u.1 u.2 ++ wX2 cI cZ o1 q1 F1 A1 : va_W)) rfl rfl (fun _ => rfl) rfl 0 rfl rfl ⟨rfl, rfl⟩ ⟨Nat.le_of_ble_eq_true rfl, Nat.le_of_ble_eq_true rfl⟩ hl.1 rfl (Nat.le_of_ble_eq_true rfl) ⟨Nat.zero_le _, Nat.zero_le _⟩ dX3_readSheep_67 (fun r67 u H locs h hP hD hS => ?_)
    obtain ⟨F_67, A_67⟩ := u
    try dsimp only at h
    have hP : va_P D vwCl (wX3 cI cZ o q F_67 A_67 ++ wX2 cI cZ o1 q1 F1 A1 : va_W) H := hP
    have hD : va_D A9 (wX3 cI cZ o q F_67 A_67 ++ wX2 cI cZ o1 q1 F1 A1 : va_W) := hD
    refine lv_goto (tgt := 74) hx hb dX3_readSheep_70 (by decide) ?_
    exact b_X3_readSheep_J74 F_67 A_67 F1 A1 x2 x4 s0 r67 X ret  _ _ _ h hP hD hS (lv_sub hl [2, 3, 4, 0] rfl)
def p_X3_readSheep_J33 (F : tF) (A : tA) (F1 : tF) (A1 : tA) (K : tF → tA → tF → tA → Prop) (x2 : Int32) (s0 : Int32) : Prop := (p_X3_isNext F A 7 (fun r38 F_38 A_38 => ((r38 = 0 → (p_X3_readSheep_J54 F_38 A_38 F1 A1 K x2 s0 (0 : Int32))) ∧ (¬ r38 = 0 → (p_X3_readNumber F_38 A_38 (9 : Int32) (fun r47 F_47 A_47 => (p_X3_readSheep_J54 F_47 A_47 F1 A1 K x2 s0 r47)))))))
set_option maxHeartbeats 4000000 in
set_option maxRecDepth 100000 in
theorem b_X3_readSheep_J33 {p : Program} {l : Launch} {e : Env} {s : State} {m : MethodId} {args : Array Value} {below : List Frame} {meth : Method} {c : Code} {Q : State → Prop} {D : va_G} {cI cZ cR : ClassId} {adK adV : Nat → Nat} {A9 : Nat → Prop} {o : Nat} {q : Nat → Nat} {o1 : Nat} {q1 : Nat → Nat} {K : tF → tA → tF → tA → Prop}  (F : tF) (A : tA) (F1 : tF) (A1 : tA) (x2 : Int32) (s0 : Int32) (X : CX p s m args c yX3_readSheep.cls cX3_readSheep 7 D cI cZ cR adK adV A9) (ret : RTv p l e (rmN 5 108) s m args below meth c Q cX3_readSheep D A9 (fun (u : (tF × tA) × (tF × tA)) => K u.1.1 u.1.2 u.2.1 u.2.2) (fun (u : (tF × tA) × (tF × tA)) => (wX3 cI cZ o q u.1.1 u.1.2 ++ wX2 cI cZ o1 q1 u.2.1 u.2.2 : va_W)))  (H : Heap) (locs : List Loc) (ls : Array Slot) (h : p_X3_readSheep_J33 F A F1 A1 K x2 s0) (hP : va_P D vwCl (wX3 cI cZ o q F A ++ wX2 cI cZ o1 q1 F1 A1 : va_W) H) (hD : va_D A9 (wX3 cI cZ o q F A ++ wX2 cI cZ o1 q1 F1 A1 : va_W)) (hS : va_S A9 s.heap H locs) (hl : lv_has ls 7 [(0, .ref o), (1, .ref o1), (2, .int x2)]) : W p l e (rmN 5 108) s m args below meth c H locs 0 0 Q (F0 m 33 ls [.int s0]) := by
  obtain ⟨hx, hb, hml, ht, hown, hK, hA, hE⟩ := id X
  unfold p_X3_readSheep_J33 at h
  refine lv_istore (lv' := [(4, .int s0), (0, .ref o), (1, .ref o1), (2, .int x2)]) hx hb dX3_readSheep_33 hl (by decide) rfl (fun ls hl => ?_)
  refine lv_aload_n hx hb dX3_readSheep_35 rfl (lv_at hl 1 rfl) ?_
  refine va_ldcS (tx := sTx 7) (index := 101) (q := adK 7) hx hb hown (hE.1.2 7 (by decide)) dX3_readSheep_36 ?_
  refine C_vi (wr := [2, 3, 4, 5, 6, 7, 8, 9, 10].filterMap (fun i => (wX3 cI cZ o q F A ++ wX2 cI cZ o1 q1 F1 A1 : va_W)[i]?)) X hP hD hS [.ref (adK 7)] [] (w_X3_isNext l D cI cZ cR adK adV _ o q F A 7 _ h) cal_X3_isNext mw_8_8 rfl [0, 1] [2, 3, 4, 5, 6, 7, 8, 9, 10] [9, 10, 0, 1, 2, 3, 4, 5, 6, 7, 8] (fun u => (wX3 cI cZ o q u.1 u.2 ++ wX2 cI cZ o1 q1 F1 A1 : va_W)) rfl rfl (fun _ => rfl) rfl 0 rfl rfl ⟨rfl, rfl⟩ ⟨Nat.le_of_ble_eq_true rfl, Nat.le_of_ble_eq_true rfl⟩ hl.1 rfl (Nat.le_of_ble_eq_true rfl) ⟨Nat.zero_le _, Nat.zero_le _⟩ dX3_readSheep_38 (fun r38 u H locs h hP hD hS => ?_)
  obtain ⟨F_38, A_38⟩ := u
  try dsimp only at h
  have hP : va_P D vwCl (wX3 cI cZ o q F_38 A_38 ++ wX2 cI cZ o1 q1 F1 A1 : va_W) H := hP
  have hD : va_D A9 (wX3 cI cZ o q F_38 A_38 ++ wX2 cI cZ o1 q1 F1 A1 : va_W) := hD
  refine lv_if_eq (tgt := 53) hx hb dX3_readSheep_41 (by decide) (fun c41 => ?_) (fun c41 => ?_)
  · replace h := h.1 c41
    refine lv_iconst (v := 0) hx hb dX3_readSheep_53 (by decide) ?_
    exact b_X3_readSheep_J54 F_38 A_38 F1 A1 x2 s0 (0 : Int32) X ret  _ _ _ h hP hD hS (lv_sub hl [1, 2, 3, 0] rfl)
  · replace h := h.2 c41
    refine lv_aload_n hx hb dX3_readSheep_44 rfl (lv_at hl 1 rfl) ?_
    refine lv_bipush (v := 9) hx hb dX3_readSheep_45 (by decide) ?_
    refine C_vi (wr := [2, 3, 4, 5, 6, 7, 8, 9, 10].filterMap (fun i => (wX3 cI cZ o q F_38 A_38 ++ wX2 cI cZ o1 q1 F1 A1 : va_W)[i]?)) X hP hD hS [.int (9 : Int32)] [] (w_X3_readNumber l D cI cZ cR adK adV _ o q F_38 A_38 (9 : Int32) _ h) cal_X3_readNumber mw_10_22 rfl [0, 1] [2, 3, 4, 5, 6, 7, 8, 9, 10] [9, 10, 0, 1, 2, 3, 4, 5, 6, 7, 8] (fun u => (wX3 cI cZ o q u.1 u.2 ++ wX2 cI cZ o1 q1 F1 A1 : va_W)) rfl rfl (fun _ => rfl) rfl 0 rfl rfl ⟨rfl, rfl⟩ ⟨Nat.le_of_ble_eq_true rfl, Nat.le_of_ble_eq_true rfl⟩ hl.1 rfl (Nat.le_of_ble_eq_true rfl) ⟨Nat.zero_le _, Nat.zero_le _⟩ dX3_readSheep_47 (fun r47 u H locs h hP hD hS => ?_)
    obtain ⟨F_47, A_47⟩ := u
    try dsimp only at h
    have hP : va_P D vwCl (wX3 cI cZ o q F_47 A_47 ++ wX2 cI cZ o1 q1 F1 A1 : va_W) H := hP
    have hD : va_D A9 (wX3 cI cZ o q F_47 A_47 ++ wX2 cI cZ o1 q1 F1 A1 : va_W) := hD
    refine lv_goto (tgt := 54) hx hb dX3_readSheep_50 (by decide) ?_
    exact b_X3_readSheep_J54 F_47 A_47 F1 A1 x2 s0 r47 X ret  _ _ _ h hP hD hS (lv_sub hl [1, 2, 3, 0] rfl)
def p_X3_readSheep_J14 (F : tF) (A : tA) (F1 : tF) (A1 : tA) (K : tF → tA → tF → tA → Prop) (x2 : Int32) : Prop := (p_X3_isNext F A 6 (fun r17 F_17 A_17 => ((r17 = 0 → (p_X3_readSheep_J33 F_17 A_17 F1 A1 K x2 (0 : Int32))) ∧ (¬ r17 = 0 → (p_X3_readNumber F_17 A_17 (9 : Int32) (fun r26 F_26 A_26 => (p_X3_readSheep_J33 F_26 A_26 F1 A1 K x2 r26)))))))
set_option maxHeartbeats 4000000 in
set_option maxRecDepth 100000 in
theorem b_X3_readSheep_J14 {p : Program} {l : Launch} {e : Env} {s : State} {m : MethodId} {args : Array Value} {below : List Frame} {meth : Method} {c : Code} {Q : State → Prop} {D : va_G} {cI cZ cR : ClassId} {adK adV : Nat → Nat} {A9 : Nat → Prop} {o : Nat} {q : Nat → Nat} {o1 : Nat} {q1 : Nat → Nat} {K : tF → tA → tF → tA → Prop}  (F : tF) (A : tA) (F1 : tF) (A1 : tA) (x2 : Int32) (X : CX p s m args c yX3_readSheep.cls cX3_readSheep 7 D cI cZ cR adK adV A9) (ret : RTv p l e (rmN 5 108) s m args below meth c Q cX3_readSheep D A9 (fun (u : (tF × tA) × (tF × tA)) => K u.1.1 u.1.2 u.2.1 u.2.2) (fun (u : (tF × tA) × (tF × tA)) => (wX3 cI cZ o q u.1.1 u.1.2 ++ wX2 cI cZ o1 q1 u.2.1 u.2.2 : va_W)))  (H : Heap) (locs : List Loc) (ls : Array Slot) (h : p_X3_readSheep_J14 F A F1 A1 K x2) (hP : va_P D vwCl (wX3 cI cZ o q F A ++ wX2 cI cZ o1 q1 F1 A1 : va_W) H) (hD : va_D A9 (wX3 cI cZ o q F A ++ wX2 cI cZ o1 q1 F1 A1 : va_W)) (hS : va_S A9 s.heap H locs) (hl : lv_has ls 7 [(0, .ref o), (1, .ref o1), (2, .int x2)]) : W p l e (rmN 5 108) s m args below meth c H locs 0 0 Q (F0 m 14 ls []) := by
  obtain ⟨hx, hb, hml, ht, hown, hK, hA, hE⟩ := id X
  unfold p_X3_readSheep_J14 at h
  refine lv_aload_n hx hb dX3_readSheep_14 rfl (lv_at hl 0 rfl) ?_
  refine va_ldcS (tx := sTx 6) (index := 99) (q := adK 6) hx hb hown (hE.1.2 6 (by decide)) dX3_readSheep_15 ?_
  refine C_vi (wr := [2, 3, 4, 5, 6, 7, 8, 9, 10].filterMap (fun i => (wX3 cI cZ o q F A ++ wX2 cI cZ o1 q1 F1 A1 : va_W)[i]?)) X hP hD hS [.ref (adK 6)] [] (w_X3_isNext l D cI cZ cR adK adV _ o q F A 6 _ h) cal_X3_isNext mw_8_8 rfl [0, 1] [2, 3, 4, 5, 6, 7, 8, 9, 10] [9, 10, 0, 1, 2, 3, 4, 5, 6, 7, 8] (fun u => (wX3 cI cZ o q u.1 u.2 ++ wX2 cI cZ o1 q1 F1 A1 : va_W)) rfl rfl (fun _ => rfl) rfl 0 rfl rfl ⟨rfl, rfl⟩ ⟨Nat.le_of_ble_eq_true rfl, Nat.le_of_ble_eq_true rfl⟩ hl.1 rfl (Nat.le_of_ble_eq_true rfl) ⟨Nat.zero_le _, Nat.zero_le _⟩ dX3_readSheep_17 (fun r17 u H locs h hP hD hS => ?_)
  obtain ⟨F_17, A_17⟩ := u
  try dsimp only at h
  have hP : va_P D vwCl (wX3 cI cZ o q F_17 A_17 ++ wX2 cI cZ o1 q1 F1 A1 : va_W) H := hP
  have hD : va_D A9 (wX3 cI cZ o q F_17 A_17 ++ wX2 cI cZ o1 q1 F1 A1 : va_W) := hD
  refine lv_if_eq (tgt := 32) hx hb dX3_readSheep_20 (by decide) (fun c20 => ?_) (fun c20 => ?_)
  · replace h := h.1 c20
    refine lv_iconst (v := 0) hx hb dX3_readSheep_32 (by decide) ?_
    exact b_X3_readSheep_J33 F_17 A_17 F1 A1 x2 (0 : Int32) X ret  _ _ _ h hP hD hS (lv_sub hl [0, 1, 2] rfl)
  · replace h := h.2 c20
    refine lv_aload_n hx hb dX3_readSheep_23 rfl (lv_at hl 0 rfl) ?_
    refine lv_bipush (v := 9) hx hb dX3_readSheep_24 (by decide) ?_
    refine C_vi (wr := [2, 3, 4, 5, 6, 7, 8, 9, 10].filterMap (fun i => (wX3 cI cZ o q F_17 A_17 ++ wX2 cI cZ o1 q1 F1 A1 : va_W)[i]?)) X hP hD hS [.int (9 : Int32)] [] (w_X3_readNumber l D cI cZ cR adK adV _ o q F_17 A_17 (9 : Int32) _ h) cal_X3_readNumber mw_10_22 rfl [0, 1] [2, 3, 4, 5, 6, 7, 8, 9, 10] [9, 10, 0, 1, 2, 3, 4, 5, 6, 7, 8] (fun u => (wX3 cI cZ o q u.1 u.2 ++ wX2 cI cZ o1 q1 F1 A1 : va_W)) rfl rfl (fun _ => rfl) rfl 0 rfl rfl ⟨rfl, rfl⟩ ⟨Nat.le_of_ble_eq_true rfl, Nat.le_of_ble_eq_true rfl⟩ hl.1 rfl (Nat.le_of_ble_eq_true rfl) ⟨Nat.zero_le _, Nat.zero_le _⟩ dX3_readSheep_26 (fun r26 u H locs h hP hD hS => ?_)
    obtain ⟨F_26, A_26⟩ := u
    try dsimp only at h
    have hP : va_P D vwCl (wX3 cI cZ o q F_26 A_26 ++ wX2 cI cZ o1 q1 F1 A1 : va_W) H := hP
    have hD : va_D A9 (wX3 cI cZ o q F_26 A_26 ++ wX2 cI cZ o1 q1 F1 A1 : va_W) := hD
    refine lv_goto (tgt := 33) hx hb dX3_readSheep_29 (by decide) ?_
    exact b_X3_readSheep_J33 F_26 A_26 F1 A1 x2 r26 X ret  _ _ _ h hP hD hS (lv_sub hl [0, 1, 2] rfl)
def p_X3_readSheep (F : tF) (A : tA) (F1 : tF) (A1 : tA) (x2 : Int32) (x3 : Int32) (K : tF → tA → tF → tA → Prop) : Prop := (((F1 8) < (8 : Int32) → (p_X3_readSheep_J14 F A F1 A1 K x2)) ∧ (¬ (F1 8) < (8 : Int32) → (p_X3_fail F A x3 (fun F_11 A_11 => (p_X3_readSheep_J14 F_11 A_11 F1 A1 K x2)))))
set_option maxHeartbeats 4000000 in
set_option maxRecDepth 100000 in
theorem w_X3_readSheep (l : Launch) (D : va_G) (cI cZ cR : ClassId) (adK adV : Nat → Nat) (sz : Nat) (o : Nat) (q : Nat → Nat) (o1 : Nat) (q1 : Nat → Nat) (F : tF) (A : tA) (F1 : tF) (A1 : tA) (x2 : Int32) (x3 : Int32) (K : tF → tA → tF → tA → Prop) (h : p_X3_readSheep F A F1 A1 x2 x3 K) : MV l D cI cZ cR adK adV yX3_readSheep cX3_readSheep 7 none (rmN 5 108) [.ref o, .ref o1, .int x2, .int x3] (wX3 cI cZ o q F A ++ wX2 cI cZ o1 q1 F1 A1 : va_W) sz (fun (u : (tF × tA) × (tF × tA)) => K u.1.1 u.1.2 u.2.1 u.2.2) (fun (u : (tF × tA) × (tF × tA)) => (wX3 cI cZ o q u.1.1 u.1.2 ++ wX2 cI cZ o1 q1 u.2.1 u.2.2 : va_W)) := by
  refine M_v (by decide +kernel) (Nat.le_of_ble_eq_true rfl) ?_
  intro p e s m args below meth c Q A9 ls X ret hP hD hS hl
  obtain ⟨hx, hb, hml, ht, hown, hK, hA, hE⟩ := id X
  have hl : lv_has ls 7 [(0, .ref o), (1, .ref o1), (2, .int x2), (3, .int x3)] := hl
  unfold p_X3_readSheep at h
  refine lv_aload_n hx hb dX3_readSheep_0 rfl (lv_at hl 1 rfl) ?_
  refine va_get (C := RX2) (T := TX2) (N := 13) (own := RX3) (v := .int (F1 8)) hx hb ht inlX2 hown hK hP 2 rfl rfl 8 (Nat.le_of_ble_eq_true rfl) (ht _ mw_10_17) (fun _ h9 => h9) rfl dX3_readSheep_1 ?_
  refine lv_bipush (v := 8) hx hb dX3_readSheep_4 (by decide) ?_
  refine lv_icmp_lt (tgt := 14) hx hb dX3_readSheep_6 (by decide) (fun c6 => ?_) (fun c6 => ?_)
  · replace h := h.1 c6
    exact b_X3_readSheep_J14 F A F1 A1 x2 X ret  _ _ _ h hP hD hS (lv_sub hl [0, 1, 2] rfl)
  · replace h := h.2 c6
    refine lv_aload_n hx hb dX3_readSheep_9 rfl (lv_at hl 0 rfl) ?_
    refine lv_iload_n hx hb dX3_readSheep_10 rfl (lv_at hl 3 rfl) ?_
    refine C_vv (wr := [2, 3, 4, 5, 6, 7, 8, 9, 10].filterMap (fun i => (wX3 cI cZ o q F A ++ wX2 cI cZ o1 q1 F1 A1 : va_W)[i]?)) X hP hD hS [.int x3] [] (w_X3_fail l D cI cZ cR adK adV _ o q F A x3 _ h) cal_X3_fail mw_10_18 rfl [0, 1] [2, 3, 4, 5, 6, 7, 8, 9, 10] [9, 10, 0, 1, 2, 3, 4, 5, 6, 7, 8] (fun u => (wX3 cI cZ o q u.1 u.2 ++ wX2 cI cZ o1 q1 F1 A1 : va_W)) rfl rfl (fun _ => rfl) rfl 0 rfl rfl ⟨rfl, rfl⟩ ⟨Nat.le_of_ble_eq_true rfl, Nat.le_of_ble_eq_true rfl⟩ hl.1 rfl (Nat.le_of_ble_eq_true rfl) ⟨Nat.zero_le _, Nat.zero_le _⟩ dX3_readSheep_11 (fun u H locs h hP hD hS => ?_)
    obtain ⟨F_11, A_11⟩ := u
    try dsimp only at h
    have hP : va_P D vwCl (wX3 cI cZ o q F_11 A_11 ++ wX2 cI cZ o1 q1 F1 A1 : va_W) H := hP
    have hD : va_D A9 (wX3 cI cZ o q F_11 A_11 ++ wX2 cI cZ o1 q1 F1 A1 : va_W) := hD
    exact b_X3_readSheep_J14 F_11 A_11 F1 A1 x2 X ret  _ _ _ h hP hD hS (lv_sub hl [0, 1, 2] rfl)
theorem dX3_readPlace_0 : decode cX3_readPlace 0 = .ok (.aload_n 0, 1) := by decide +kernel
theorem dX3_readPlace_1 : decode cX3_readPlace 1 = .ok (.iconst 5, 1) := by decide +kernel
theorem dX3_readPlace_2 : decode cX3_readPlace 2 = .ok (.invokevirtual 62, 3) := by decide +kernel
theorem dX3_readPlace_5 : decode cX3_readPlace 5 = .ok (.istore_n 2, 1) := by decide +kernel
theorem dX3_readPlace_6 : decode cX3_readPlace 6 = .ok (.aload_n 0, 1) := by decide +kernel
theorem dX3_readPlace_7 : decode cX3_readPlace 7 = .ok (.ldc 109, 2) := by decide +kernel
theorem dX3_readPlace_9 : decode cX3_readPlace 9 = .ok (.invokevirtual 44, 3) := by decide +kernel
theorem dX3_readPlace_12 : decode cX3_readPlace 12 = .ok (.ifCond .ne 11, 3) := by decide +kernel
theorem dX3_readPlace_15 : decode cX3_readPlace 15 = .ok (.aload_n 0, 1) := by decide +kernel
theorem dX3_readPlace_16 : decode cX3_readPlace 16 = .ok (.aload_n 0, 1) := by decide +kernel
theorem dX3_readPlace_17 : decode cX3_readPlace 17 = .ok (.getfield 19, 3) := by decide +kernel
theorem dX3_readPlace_20 : decode cX3_readPlace 20 = .ok (.invokevirtual 95, 3) := by decide +kernel
theorem dX3_readPlace_23 : decode cX3_readPlace 23 = .ok (.aload_n 1, 1) := by decide +kernel
theorem dX3_readPlace_24 : decode cX3_readPlace 24 = .ok (.iload_n 2, 1) := by decide +kernel
theorem dX3_readPlace_25 : decode cX3_readPlace 25 = .ok (.aload_n 0, 1) := by decide +kernel
theorem dX3_readPlace_26 : decode cX3_readPlace 26 = .ok (.bipush 9, 2) := by decide +kernel
theorem dX3_readPlace_28 : decode cX3_readPlace 28 = .ok (.invokevirtual 62, 3) := by decide +kernel
theorem dX3_readPlace_31 : decode cX3_readPlace 31 = .ok (.iastore, 1) := by decide +kernel
theorem dX3_readPlace_32 : decode cX3_readPlace 32 = .ok (.return_, 1) := by decide +kernel
def p_X3_readPlace_J23 (n1 : Nat) (F : tF) (A : tA) (f1 : tF) (K : tF → tA → tF → Prop) (x2 : Int32) : Prop := (p_X3_readNumber F A (9 : Int32) (fun r28 F_28 A_28 => (vp_in x2 n1 ∧ (∀ f_31 : tF, f_31 = (upd f1 (x2).toNatClampNeg r28) → (K F_28 A_28 f_31)))))
set_option maxHeartbeats 4000000 in
set_option maxRecDepth 100000 in
theorem b_X3_readPlace_J23 {p : Program} {l : Launch} {e : Env} {s : State} {m : MethodId} {args : Array Value} {below : List Frame} {meth : Method} {c : Code} {Q : State → Prop} {D : va_G} {cI cZ cR : ClassId} {adK adV : Nat → Nat} {A9 : Nat → Prop} {o : Nat} {q : Nat → Nat} {a1 : Nat} {K : tF → tA → tF → Prop}  (n1 : Nat) (F : tF) (A : tA) (f1 : tF) (x2 : Int32) (X : CX p s m args c yX3_readPlace.cls cX3_readPlace 3 D cI cZ cR adK adV A9) (ret : RTv p l e (rmN 5 108) s m args below meth c Q cX3_readPlace D A9 (fun (u : (tF × tA) × tF) => K u.1.1 u.1.2 u.2) (fun (u : (tF × tA) × tF) => (wX3 cI cZ o q u.1.1 u.1.2 ++ wI cI a1 n1 u.2 : va_W)))  (H : Heap) (locs : List Loc) (ls : Array Slot) (h : p_X3_readPlace_J23 n1 F A f1 K x2) (hP : va_P D vwCl (wX3 cI cZ o q F A ++ wI cI a1 n1 f1 : va_W) H) (hD : va_D A9 (wX3 cI cZ o q F A ++ wI cI a1 n1 f1 : va_W)) (hS : va_S A9 s.heap H locs) (hl : lv_has ls 3 [(0, .ref o), (1, .ref a1), (2, .int x2)]) : W p l e (rmN 5 108) s m args below meth c H locs 0 0 Q (F0 m 23 ls []) := by
  obtain ⟨hx, hb, hml, ht, hown, hK, hA, hE⟩ := id X
  unfold p_X3_readPlace_J23 at h
  refine lv_aload_n hx hb dX3_readPlace_23 rfl (lv_at hl 1 rfl) ?_
  refine lv_iload_n hx hb dX3_readPlace_24 rfl (lv_at hl 2 rfl) ?_
  refine lv_aload_n hx hb dX3_readPlace_25 rfl (lv_at hl 0 rfl) ?_
  refine lv_bipush (v := 9) hx hb dX3_readPlace_26 (by decide) ?_
  refine C_vi (wr := [2].filterMap (fun i => (wX3 cI cZ o q F A ++ wI cI a1 n1 f1 : va_W)[i]?)) X hP hD hS [.int (9 : Int32)] [.int x2, .ref a1] (w_X3_readNumber l D cI cZ cR adK adV _ o q F A (9 : Int32) _ h) cal_X3_readNumber mw_10_22 rfl [0, 1] [2] [1, 2, 0] (fun u => (wX3 cI cZ o q u.1 u.2 ++ wI cI a1 n1 f1 : va_W)) rfl rfl (fun _ => rfl) rfl 0 rfl rfl ⟨rfl, rfl⟩ ⟨Nat.le_of_ble_eq_true rfl, Nat.le_of_ble_eq_true rfl⟩ hl.1 rfl (Nat.le_of_ble_eq_true rfl) ⟨Nat.zero_le _, Nat.zero_le _⟩ dX3_readPlace_28 (fun r28 u H locs h hP hD hS => ?_)
  obtain ⟨F_28, A_28⟩ := u
  try dsimp only at h
  have hP : va_P D vwCl (wX3 cI cZ o q F_28 A_28 ++ wI cI a1 n1 f1 : va_W) H := hP
  have hD : va_D A9 (wX3 cI cZ o q F_28 A_28 ++ wI cI a1 n1 f1 : va_W) := hD
  obtain ⟨hi31, h⟩ := h
  obtain ⟨f_31, ef_31⟩ : ∃ z : tF, z = (upd f1 (x2).toNatClampNeg r28) := ⟨_, rfl⟩
  replace h := h f_31 ef_31
  refine g_iast (f := f1) (k := (x2).toNatClampNeg) hx hb hK hP hD hS 2 0 rfl rfl hi31 rfl ef_31 dX3_readPlace_31 (fun H locs hP hD hS => ?_)
  have hP : va_P D vwCl (wX3 cI cZ o q F_28 A_28 ++ wI cI a1 n1 f_31 : va_W) H := hP
  have hD : va_D A9 (wX3 cI cZ o q F_28 A_28 ++ wI cI a1 n1 f_31 : va_W) := hD
  exact ret ((F_28, A_28), f_31) _ _ _ _ dX3_readPlace_32 h hP hD hS
def p_X3_readPlace (F : tF) (A : tA) (n1 : Nat) (f1 : tF) (K : tF → tA → tF → Prop) : Prop := (p_X3_readNumber F A (5 : Int32) (fun r2 F_2 A_2 => (p_X3_isNext F_2 A_2 10 (fun r9 F_9 A_9 => ((¬ r9 = 0 → (p_X3_readPlace_J23 n1 F_9 A_9 f1 K r2)) ∧ (r9 = 0 → (p_X3_fail F_9 A_9 (F_9 2) (fun F_20 A_20 => (p_X3_readPlace_J23 n1 F_20 A_20 f1 K r2)))))))))
set_option maxHeartbeats 4000000 in
set_option maxRecDepth 100000 in
theorem w_X3_readPlace (l : Launch) (D : va_G) (cI cZ cR : ClassId) (adK adV : Nat → Nat) (sz : Nat) (o : Nat) (q : Nat → Nat) (a1 : Nat) (F : tF) (A : tA) (n1 : Nat) (f1 : tF) (K : tF → tA → tF → Prop) (h : p_X3_readPlace F A n1 f1 K) : MV l D cI cZ cR adK adV yX3_readPlace cX3_readPlace 3 none (rmN 5 108) [.ref o, .ref a1] (wX3 cI cZ o q F A ++ wI cI a1 n1 f1 : va_W) sz (fun (u : (tF × tA) × tF) => K u.1.1 u.1.2 u.2) (fun (u : (tF × tA) × tF) => (wX3 cI cZ o q u.1.1 u.1.2 ++ wI cI a1 n1 u.2 : va_W)) := by
  refine M_v (by decide +kernel) (Nat.le_of_ble_eq_true rfl) ?_
  intro p e s m args below meth c Q A9 ls X ret hP hD hS hl
  obtain ⟨hx, hb, hml, ht, hown, hK, hA, hE⟩ := id X
  have hl : lv_has ls 3 [(0, .ref o), (1, .ref a1)] := hl
  unfold p_X3_readPlace at h
  refine lv_aload_n hx hb dX3_readPlace_0 rfl (lv_at hl 0 rfl) ?_
  refine lv_iconst (v := 5) hx hb dX3_readPlace_1 (by decide) ?_
  refine C_vi (wr := [2].filterMap (fun i => (wX3 cI cZ o q F A ++ wI cI a1 n1 f1 : va_W)[i]?)) X hP hD hS [.int (5 : Int32)] [] (w_X3_readNumber l D cI cZ cR adK adV _ o q F A (5 : Int32) _ h) cal_X3_readNumber mw_10_22 rfl [0, 1] [2] [1, 2, 0] (fun u => (wX3 cI cZ o q u.1 u.2 ++ wI cI a1 n1 f1 : va_W)) rfl rfl (fun _ => rfl) rfl 0 rfl rfl ⟨rfl, rfl⟩ ⟨Nat.le_of_ble_eq_true rfl, Nat.le_of_ble_eq_true rfl⟩ hl.1 rfl (Nat.le_of_ble_eq_true rfl) ⟨Nat.zero_le _, Nat.zero_le _⟩ dX3_readPlace_2 (fun r2 u H locs h hP hD hS => ?_)
  obtain ⟨F_2, A_2⟩ := u
  try dsimp only at h
  have hP : va_P D vwCl (wX3 cI cZ o q F_2 A_2 ++ wI cI a1 n1 f1 : va_W) H := hP
  have hD : va_D A9 (wX3 cI cZ o q F_2 A_2 ++ wI cI a1 n1 f1 : va_W) := hD
  refine lv_istore_n (lv' := [(2, .int r2), (0, .ref o), (1, .ref a1)]) hx hb dX3_readPlace_5 rfl hl (by decide) rfl (fun ls hl => ?_)
  refine lv_aload_n hx hb dX3_readPlace_6 rfl (lv_at hl 1 rfl) ?_
  refine va_ldcS (tx := sTx 10) (index := 109) (q := adK 10) hx hb hown (hE.1.2 10 (by decide)) dX3_readPlace_7 ?_
  refine C_vi (wr := [2].filterMap (fun i => (wX3 cI cZ o q F_2 A_2 ++ wI cI a1 n1 f1 : va_W)[i]?)) X hP hD hS [.ref (adK 10)] [] (w_X3_isNext l D cI cZ cR adK adV _ o q F_2 A_2 10 _ h) cal_X3_isNext mw_8_8 rfl [0, 1] [2] [1, 2, 0] (fun u => (wX3 cI cZ o q u.1 u.2 ++ wI cI a1 n1 f1 : va_W)) rfl rfl (fun _ => rfl) rfl 0 rfl rfl ⟨rfl, rfl⟩ ⟨Nat.le_of_ble_eq_true rfl, Nat.le_of_ble_eq_true rfl⟩ hl.1 rfl (Nat.le_of_ble_eq_true rfl) ⟨Nat.zero_le _, Nat.zero_le _⟩ dX3_readPlace_9 (fun r9 u H locs h hP hD hS => ?_)
  obtain ⟨F_9, A_9⟩ := u
  try dsimp only at h
  have hP : va_P D vwCl (wX3 cI cZ o q F_9 A_9 ++ wI cI a1 n1 f1 : va_W) H := hP
  have hD : va_D A9 (wX3 cI cZ o q F_9 A_9 ++ wI cI a1 n1 f1 : va_W) := hD
  refine lv_if_ne (tgt := 23) hx hb dX3_readPlace_12 (by decide) (fun c12 => ?_) (fun c12 => ?_)
  · replace h := h.1 c12
    exact b_X3_readPlace_J23 n1 F_9 A_9 f1 r2 X ret  _ _ _ h hP hD hS (lv_sub hl [1, 2, 0] rfl)
  · replace h := h.2 c12
    refine lv_aload_n hx hb dX3_readPlace_15 rfl (lv_at hl 1 rfl) ?_
    refine lv_aload_n hx hb dX3_readPlace_16 rfl (lv_at hl 1 rfl) ?_
    refine va_get (C := RX3) (T := TX3) (N := 4) (own := RX3) (v := .int (F_9 2)) hx hb ht inlX3 hown hK hP 0 rfl rfl 2 (Nat.le_of_ble_eq_true rfl) (ht _ mw_3_22) (fun _ h9 => h9) rfl dX3_readPlace_17 ?_
    refine C_vv (wr := [2].filterMap (fun i => (wX3 cI cZ o q F_9 A_9 ++ wI cI a1 n1 f1 : va_W)[i]?)) X hP hD hS [.int (F_9 2)] [] (w_X3_fail l D cI cZ cR adK adV _ o q F_9 A_9 (F_9 2) _ h) cal_X3_fail mw_10_18 rfl [0, 1] [2] [1, 2, 0] (fun u => (wX3 cI cZ o q u.1 u.2 ++ wI cI a1 n1 f1 : va_W)) rfl rfl (fun _ => rfl) rfl 0 rfl rfl ⟨rfl, rfl⟩ ⟨Nat.le_of_ble_eq_true rfl, Nat.le_of_ble_eq_true rfl⟩ hl.1 rfl (Nat.le_of_ble_eq_true rfl) ⟨Nat.zero_le _, Nat.zero_le _⟩ dX3_readPlace_20 (fun u H locs h hP hD hS => ?_)
    obtain ⟨F_20, A_20⟩ := u
    try dsimp only at h
    have hP : va_P D vwCl (wX3 cI cZ o q F_20 A_20 ++ wI cI a1 n1 f1 : va_W) H := hP
    have hD : va_D A9 (wX3 cI cZ o q F_20 A_20 ++ wI cI a1 n1 f1 : va_W) := hD
    exact b_X3_readPlace_J23 n1 F_20 A_20 f1 r2 X ret  _ _ _ h hP hD hS (lv_sub hl [1, 2, 0] rfl)
theorem cal_X6_mostOfLaw : CalS yX6_mostOfLaw cX6_mostOfLaw 1 (some .int) 1 := ⟨mw_11_16, mw_1_2, mw_11_15, ⟨by decide +kernel, by decide +kernel, by decide +kernel⟩⟩
theorem dX3_readLaw_0 : decode cX3_readLaw 0 = .ok (.iconst 4, 1) := by decide +kernel
theorem dX3_readLaw_1 : decode cX3_readLaw 1 = .ok (.istore_n 2, 1) := by decide +kernel
theorem dX3_readLaw_2 : decode cX3_readLaw 2 = .ok (.aload_n 0, 1) := by decide +kernel
theorem dX3_readLaw_3 : decode cX3_readLaw 3 = .ok (.ldc 111, 2) := by decide +kernel
theorem dX3_readLaw_5 : decode cX3_readLaw 5 = .ok (.invokevirtual 44, 3) := by decide +kernel
theorem dX3_readLaw_8 : decode cX3_readLaw 8 = .ok (.ifCond .eq 8, 3) := by decide +kernel
theorem dX3_readLaw_11 : decode cX3_readLaw 11 = .ok (.iconst 0, 1) := by decide +kernel
theorem dX3_readLaw_12 : decode cX3_readLaw 12 = .ok (.istore_n 2, 1) := by decide +kernel
theorem dX3_readLaw_13 : decode cX3_readLaw 13 = .ok (.goto 42, 3) := by decide +kernel
theorem dX3_readLaw_16 : decode cX3_readLaw 16 = .ok (.aload_n 0, 1) := by decide +kernel
theorem dX3_readLaw_17 : decode cX3_readLaw 17 = .ok (.ldc 113, 2) := by decide +kernel
theorem dX3_readLaw_19 : decode cX3_readLaw 19 = .ok (.invokevirtual 44, 3) := by decide +kernel
theorem dX3_readLaw_22 : decode cX3_readLaw 22 = .ok (.ifCond .eq 8, 3) := by decide +kernel
theorem dX3_readLaw_25 : decode cX3_readLaw 25 = .ok (.iconst 1, 1) := by decide +kernel
theorem dX3_readLaw_26 : decode cX3_readLaw 26 = .ok (.istore_n 2, 1) := by decide +kernel
theorem dX3_readLaw_27 : decode cX3_readLaw 27 = .ok (.goto 28, 3) := by decide +kernel
theorem dX3_readLaw_30 : decode cX3_readLaw 30 = .ok (.aload_n 0, 1) := by decide +kernel
theorem dX3_readLaw_31 : decode cX3_readLaw 31 = .ok (.ldc 115, 2) := by decide +kernel
theorem dX3_readLaw_33 : decode cX3_readLaw 33 = .ok (.invokevirtual 44, 3) := by decide +kernel
theorem dX3_readLaw_36 : decode cX3_readLaw 36 = .ok (.ifCond .eq 8, 3) := by decide +kernel
theorem dX3_readLaw_39 : decode cX3_readLaw 39 = .ok (.iconst 2, 1) := by decide +kernel
theorem dX3_readLaw_40 : decode cX3_readLaw 40 = .ok (.istore_n 2, 1) := by decide +kernel
theorem dX3_readLaw_41 : decode cX3_readLaw 41 = .ok (.goto 14, 3) := by decide +kernel
theorem dX3_readLaw_44 : decode cX3_readLaw 44 = .ok (.aload_n 0, 1) := by decide +kernel
theorem dX3_readLaw_45 : decode cX3_readLaw 45 = .ok (.ldc 117, 2) := by decide +kernel
theorem dX3_readLaw_47 : decode cX3_readLaw 47 = .ok (.invokevirtual 44, 3) := by decide +kernel
theorem dX3_readLaw_50 : decode cX3_readLaw 50 = .ok (.ifCond .eq 5, 3) := by decide +kernel
theorem dX3_readLaw_53 : decode cX3_readLaw 53 = .ok (.iconst 3, 1) := by decide +kernel
theorem dX3_readLaw_54 : decode cX3_readLaw 54 = .ok (.istore_n 2, 1) := by decide +kernel
theorem dX3_readLaw_55 : decode cX3_readLaw 55 = .ok (.iload_n 2, 1) := by decide +kernel
theorem dX3_readLaw_56 : decode cX3_readLaw 56 = .ok (.iconst 4, 1) := by decide +kernel
theorem dX3_readLaw_57 : decode cX3_readLaw 57 = .ok (.if_icmp .ne 12, 3) := by decide +kernel
theorem dX3_readLaw_60 : decode cX3_readLaw 60 = .ok (.aload_n 0, 1) := by decide +kernel
theorem dX3_readLaw_61 : decode cX3_readLaw 61 = .ok (.aload_n 0, 1) := by decide +kernel
theorem dX3_readLaw_62 : decode cX3_readLaw 62 = .ok (.getfield 19, 3) := by decide +kernel
theorem dX3_readLaw_65 : decode cX3_readLaw 65 = .ok (.invokevirtual 95, 3) := by decide +kernel
theorem dX3_readLaw_68 : decode cX3_readLaw 68 = .ok (.return_, 1) := by decide +kernel
theorem dX3_readLaw_69 : decode cX3_readLaw 69 = .ok (.aload_n 1, 1) := by decide +kernel
theorem dX3_readLaw_70 : decode cX3_readLaw 70 = .ok (.getfield 119, 3) := by decide +kernel
theorem dX3_readLaw_73 : decode cX3_readLaw 73 = .ok (.iload_n 2, 1) := by decide +kernel
theorem dX3_readLaw_74 : decode cX3_readLaw 74 = .ok (.aload_n 0, 1) := by decide +kernel
theorem dX3_readLaw_75 : decode cX3_readLaw 75 = .ok (.iload_n 2, 1) := by decide +kernel
theorem dX3_readLaw_76 : decode cX3_readLaw 76 = .ok (.invokestatic 122, 3) := by decide +kernel
theorem dX3_readLaw_79 : decode cX3_readLaw 79 = .ok (.invokevirtual 62, 3) := by decide +kernel
theorem dX3_readLaw_82 : decode cX3_readLaw 82 = .ok (.iastore, 1) := by decide +kernel
theorem dX3_readLaw_83 : decode cX3_readLaw 83 = .ok (.return_, 1) := by decide +kernel
def p_X3_readLaw_J55 (F : tF) (A : tA) (F1 : tF) (A1 : tA) (K : tF → tA → tF → tA → Prop) (x2 : Int32) : Prop := ((¬ x2 = (4 : Int32) → (p_X6_mostOfLaw x2 (fun r76 => (p_X3_readNumber F A r76 (fun r79 F_79 A_79 => (vp_in x2 4 ∧ (∀ f_82 : tF, f_82 = (upd (A1 0) (x2).toNatClampNeg r79) → (K F_79 A_79 F1 (va_up A1 0 f_82))))))))) ∧ (x2 = (4 : Int32) → (p_X3_fail F A (F 2) (fun F_65 A_65 => (K F_65 A_65 F1 A1)))))
set_option maxHeartbeats 4000000 in
set_option maxRecDepth 100000 in
theorem b_X3_readLaw_J55 {p : Program} {l : Launch} {e : Env} {s : State} {m : MethodId} {args : Array Value} {below : List Frame} {meth : Method} {c : Code} {Q : State → Prop} {D : va_G} {cI cZ cR : ClassId} {adK adV : Nat → Nat} {A9 : Nat → Prop} {o : Nat} {q : Nat → Nat} {o1 : Nat} {q1 : Nat → Nat} {K : tF → tA → tF → tA → Prop}  (F : tF) (A : tA) (F1 : tF) (A1 : tA) (x2 : Int32) (X : CX p s m args c yX3_readLaw.cls cX3_readLaw 3 D cI cZ cR adK adV A9) (ret : RTv p l e (rmN 5 108) s m args below meth c Q cX3_readLaw D A9 (fun (u : (tF × tA) × (tF × tA)) => K u.1.1 u.1.2 u.2.1 u.2.2) (fun (u : (tF × tA) × (tF × tA)) => (wX3 cI cZ o q u.1.1 u.1.2 ++ wX2 cI cZ o1 q1 u.2.1 u.2.2 : va_W)))  (H : Heap) (locs : List Loc) (ls : Array Slot) (h : p_X3_readLaw_J55 F A F1 A1 K x2) (hP : va_P D vwCl (wX3 cI cZ o q F A ++ wX2 cI cZ o1 q1 F1 A1 : va_W) H) (hD : va_D A9 (wX3 cI cZ o q F A ++ wX2 cI cZ o1 q1 F1 A1 : va_W)) (hS : va_S A9 s.heap H locs) (hl : lv_has ls 3 [(0, .ref o), (1, .ref o1), (2, .int x2)]) : W p l e (rmN 5 108) s m args below meth c H locs 0 0 Q (F0 m 55 ls []) := by
  obtain ⟨hx, hb, hml, ht, hown, hK, hA, hE⟩ := id X
  unfold p_X3_readLaw_J55 at h
  refine lv_iload_n hx hb dX3_readLaw_55 rfl (lv_at hl 2 rfl) ?_
  refine lv_iconst (v := 4) hx hb dX3_readLaw_56 (by decide) ?_
  refine lv_icmp_ne (tgt := 69) hx hb dX3_readLaw_57 (by decide) (fun c57 => ?_) (fun c57 => ?_)
  · replace h := h.1 c57
    refine lv_aload_n hx hb dX3_readLaw_69 rfl (lv_at hl 1 rfl) ?_
    refine va_get (C := RX2) (T := TX2) (N := 13) (own := RX3) (v := .ref (q1 0)) hx hb ht inlX2 hown hK hP 2 rfl rfl 0 (Nat.le_of_ble_eq_true rfl) (ht _ mw_11_14) (fun _ h9 => h9) rfl dX3_readLaw_70 ?_
    refine lv_iload_n hx hb dX3_readLaw_73 rfl (lv_at hl 2 rfl) ?_
    refine lv_aload_n hx hb dX3_readLaw_74 rfl (lv_at hl 0 rfl) ?_
    refine lv_iload_n hx hb dX3_readLaw_75 rfl (lv_at hl 2 rfl) ?_
    refine C_ni (wr := [0, 1, 2, 3, 4, 5, 6, 7, 8, 9, 10].filterMap (fun i => (wX3 cI cZ o q F A ++ wX2 cI cZ o1 q1 F1 A1 : va_W)[i]?)) X hP hD hS [.int x2] [.ref o, .int x2, .ref (q1 0)] (w_X6_mostOfLaw l D cI cZ cR adK adV _ x2 _ h) cal_X6_mostOfLaw hE.2.2.1 rfl [] [0, 1, 2, 3, 4, 5, 6, 7, 8, 9, 10] [0, 1, 2, 3, 4, 5, 6, 7, 8, 9, 10] (fun u => (wX3 cI cZ o q F A ++ wX2 cI cZ o1 q1 F1 A1 : va_W)) rfl rfl (fun _ => rfl) rfl ⟨rfl, rfl⟩ ⟨Nat.le_of_ble_eq_true rfl, Nat.le_of_ble_eq_true rfl⟩ hl.1 rfl (Nat.le_of_ble_eq_true rfl) ⟨Nat.zero_le _, Nat.zero_le _⟩ dX3_readLaw_76 (fun r76 u H locs h hP hD hS => ?_)
    refine C_vi (wr := [2, 3, 4, 5, 6, 7, 8, 9, 10].filterMap (fun i => (wX3 cI cZ o q F A ++ wX2 cI cZ o1 q1 F1 A1 : va_W)[i]?)) X hP hD hS [.int r76] [.int x2, .ref (q1 0)] (w_X3_readNumber l D cI cZ cR adK adV _ o q F A r76 _ h) cal_X3_readNumber mw_10_22 rfl [0, 1] [2, 3, 4, 5, 6, 7, 8, 9, 10] [9, 10, 0, 1, 2, 3, 4, 5, 6, 7, 8] (fun u => (wX3 cI cZ o q u.1 u.2 ++ wX2 cI cZ o1 q1 F1 A1 : va_W)) rfl rfl (fun _ => rfl) rfl 0 rfl rfl ⟨rfl, rfl⟩ ⟨Nat.le_of_ble_eq_true rfl, Nat.le_of_ble_eq_true rfl⟩ hl.1 rfl (Nat.le_of_ble_eq_true rfl) ⟨Nat.zero_le _, Nat.zero_le _⟩ dX3_readLaw_79 (fun r79 u H locs h hP hD hS => ?_)
    obtain ⟨F_79, A_79⟩ := u
    try dsimp only at h
    have hP : va_P D vwCl (wX3 cI cZ o q F_79 A_79 ++ wX2 cI cZ o1 q1 F1 A1 : va_W) H := hP
    have hD : va_D A9 (wX3 cI cZ o q F_79 A_79 ++ wX2 cI cZ o1 q1 F1 A1 : va_W) := hD
    obtain ⟨hi82, h⟩ := h
    obtain ⟨f_82, ef_82⟩ : ∃ z : tF, z = (upd (A1 0) (x2).toNatClampNeg r79) := ⟨_, rfl⟩
    replace h := h f_82 ef_82
    refine g_iast (f := (A1 0)) (k := (x2).toNatClampNeg) hx hb hK hP hD hS 3 0 rfl rfl hi82 rfl ef_82 dX3_readLaw_82 (fun H locs hP hD hS => ?_)
    have hP : va_P D vwCl (wX3 cI cZ o q F_79 A_79 ++ wX2 cI cZ o1 q1 F1 (va_up A1 0 f_82) : va_W) H := hP
    have hD : va_D A9 (wX3 cI cZ o q F_79 A_79 ++ wX2 cI cZ o1 q1 F1 (va_up A1 0 f_82) : va_W) := hD
    exact ret ((F_79, A_79), (F1, (va_up A1 0 f_82))) _ _ _ _ dX3_readLaw_83 h hP hD hS
  · replace h := h.2 c57
    refine lv_aload_n hx hb dX3_readLaw_60 rfl (lv_at hl 0 rfl) ?_
    refine lv_aload_n hx hb dX3_readLaw_61 rfl (lv_at hl 0 rfl) ?_
    refine va_get (C := RX3) (T := TX3) (N := 4) (own := RX3) (v := .int (F 2)) hx hb ht inlX3 hown hK hP 0 rfl rfl 2 (Nat.le_of_ble_eq_true rfl) (ht _ mw_3_22) (fun _ h9 => h9) rfl dX3_readLaw_62 ?_
    refine C_vv (wr := [2, 3, 4, 5, 6, 7, 8, 9, 10].filterMap (fun i => (wX3 cI cZ o q F A ++ wX2 cI cZ o1 q1 F1 A1 : va_W)[i]?)) X hP hD hS [.int (F 2)] [] (w_X3_fail l D cI cZ cR adK adV _ o q F A (F 2) _ h) cal_X3_fail mw_10_18 rfl [0, 1] [2, 3, 4, 5, 6, 7, 8, 9, 10] [9, 10, 0, 1, 2, 3, 4, 5, 6, 7, 8] (fun u => (wX3 cI cZ o q u.1 u.2 ++ wX2 cI cZ o1 q1 F1 A1 : va_W)) rfl rfl (fun _ => rfl) rfl 0 rfl rfl ⟨rfl, rfl⟩ ⟨Nat.le_of_ble_eq_true rfl, Nat.le_of_ble_eq_true rfl⟩ hl.1 rfl (Nat.le_of_ble_eq_true rfl) ⟨Nat.zero_le _, Nat.zero_le _⟩ dX3_readLaw_65 (fun u H locs h hP hD hS => ?_)
    obtain ⟨F_65, A_65⟩ := u
    try dsimp only at h
    have hP : va_P D vwCl (wX3 cI cZ o q F_65 A_65 ++ wX2 cI cZ o1 q1 F1 A1 : va_W) H := hP
    have hD : va_D A9 (wX3 cI cZ o q F_65 A_65 ++ wX2 cI cZ o1 q1 F1 A1 : va_W) := hD
    exact ret ((F_65, A_65), (F1, A1)) _ _ _ _ dX3_readLaw_68 h hP hD hS
def p_X3_readLaw (F : tF) (A : tA) (F1 : tF) (A1 : tA) (K : tF → tA → tF → tA → Prop) : Prop := (p_X3_isNext F A 14 (fun r5 F_5 A_5 => ((r5 = 0 → (p_X3_isNext F_5 A_5 15 (fun r19 F_19 A_19 => ((r19 = 0 → (p_X3_isNext F_19 A_19 16 (fun r33 F_33 A_33 => ((r33 = 0 → (p_X3_isNext F_33 A_33 17 (fun r47 F_47 A_47 => ((r47 = 0 → (p_X3_readLaw_J55 F_47 A_47 F1 A1 K (4 : Int32))) ∧ (¬ r47 = 0 → (p_X3_readLaw_J55 F_47 A_47 F1 A1 K (3 : Int32))))))) ∧ (¬ r33 = 0 → (p_X3_readLaw_J55 F_33 A_33 F1 A1 K (2 : Int32))))))) ∧ (¬ r19 = 0 → (p_X3_readLaw_J55 F_19 A_19 F1 A1 K (1 : Int32))))))) ∧ (¬ r5 = 0 → (p_X3_readLaw_J55 F_5 A_5 F1 A1 K (0 : Int32))))))
set_option maxHeartbeats 4000000 in
set_option maxRecDepth 100000 in
theorem w_X3_readLaw (l : Launch) (D : va_G) (cI cZ cR : ClassId) (adK adV : Nat → Nat) (sz : Nat) (o : Nat) (q : Nat → Nat) (o1 : Nat) (q1 : Nat → Nat) (F : tF) (A : tA) (F1 : tF) (A1 : tA) (K : tF → tA → tF → tA → Prop) (h : p_X3_readLaw F A F1 A1 K) : MV l D cI cZ cR adK adV yX3_readLaw cX3_readLaw 3 none (rmN 5 108) [.ref o, .ref o1] (wX3 cI cZ o q F A ++ wX2 cI cZ o1 q1 F1 A1 : va_W) sz (fun (u : (tF × tA) × (tF × tA)) => K u.1.1 u.1.2 u.2.1 u.2.2) (fun (u : (tF × tA) × (tF × tA)) => (wX3 cI cZ o q u.1.1 u.1.2 ++ wX2 cI cZ o1 q1 u.2.1 u.2.2 : va_W)) := by
  refine M_v (by decide +kernel) (Nat.le_of_ble_eq_true rfl) ?_
  intro p e s m args below meth c Q A9 ls X ret hP hD hS hl
  obtain ⟨hx, hb, hml, ht, hown, hK, hA, hE⟩ := id X
  have hl : lv_has ls 3 [(0, .ref o), (1, .ref o1)] := hl
  unfold p_X3_readLaw at h
  refine lv_iconst (v := 4) hx hb dX3_readLaw_0 (by decide) ?_
  refine lv_istore_n (lv' := [(2, .int (4 : Int32)), (0, .ref o), (1, .ref o1)]) hx hb dX3_readLaw_1 rfl hl (by decide) rfl (fun ls hl => ?_)
  refine lv_aload_n hx hb dX3_readLaw_2 rfl (lv_at hl 1 rfl) ?_
  refine va_ldcS (tx := sTx 14) (index := 111) (q := adK 14) hx hb hown (hE.1.2 14 (by decide)) dX3_readLaw_3 ?_
  refine C_vi (wr := [2, 3, 4, 5, 6, 7, 8, 9, 10].filterMap (fun i => (wX3 cI cZ o q F A ++ wX2 cI cZ o1 q1 F1 A1 : va_W)[i]?)) X hP hD hS [.ref (adK 14)] [] (w_X3_isNext l D cI cZ cR adK adV _ o q F A 14 _ h) cal_X3_isNext mw_8_8 rfl [0, 1] [2, 3, 4, 5, 6, 7, 8, 9, 10] [9, 10, 0, 1, 2, 3, 4, 5, 6, 7, 8] (fun u => (wX3 cI cZ o q u.1 u.2 ++ wX2 cI cZ o1 q1 F1 A1 : va_W)) rfl rfl (fun _ => rfl) rfl 0 rfl rfl ⟨rfl, rfl⟩ ⟨Nat.le_of_ble_eq_true rfl, Nat.le_of_ble_eq_true rfl⟩ hl.1 rfl (Nat.le_of_ble_eq_true rfl) ⟨Nat.zero_le _, Nat.zero_le _⟩ dX3_readLaw_5 (fun r5 u H locs h hP hD hS => ?_)
  obtain ⟨F_5, A_5⟩ := u
  try dsimp only at h
  have hP : va_P D vwCl (wX3 cI cZ o q F_5 A_5 ++ wX2 cI cZ o1 q1 F1 A1 : va_W) H := hP
  have hD : va_D A9 (wX3 cI cZ o q F_5 A_5 ++ wX2 cI cZ o1 q1 F1 A1 : va_W) := hD
  refine lv_if_eq (tgt := 16) hx hb dX3_readLaw_8 (by decide) (fun c8 => ?_) (fun c8 => ?_)
  · replace h := h.1 c8
    refine lv_aload_n hx hb dX3_readLaw_16 rfl (lv_at hl 1 rfl) ?_
    refine va_ldcS (tx := sTx 15) (index := 113) (q := adK 15) hx hb hown (hE.1.2 15 (by decide)) dX3_readLaw_17 ?_
    refine C_vi (wr := [2, 3, 4, 5, 6, 7, 8, 9, 10].filterMap (fun i => (wX3 cI cZ o q F_5 A_5 ++ wX2 cI cZ o1 q1 F1 A1 : va_W)[i]?)) X hP hD hS [.ref (adK 15)] [] (w_X3_isNext l D cI cZ cR adK adV _ o q F_5 A_5 15 _ h) cal_X3_isNext mw_8_8 rfl [0, 1] [2, 3, 4, 5, 6, 7, 8, 9, 10] [9, 10, 0, 1, 2, 3, 4, 5, 6, 7, 8] (fun u => (wX3 cI cZ o q u.1 u.2 ++ wX2 cI cZ o1 q1 F1 A1 : va_W)) rfl rfl (fun _ => rfl) rfl 0 rfl rfl ⟨rfl, rfl⟩ ⟨Nat.le_of_ble_eq_true rfl, Nat.le_of_ble_eq_true rfl⟩ hl.1 rfl (Nat.le_of_ble_eq_true rfl) ⟨Nat.zero_le _, Nat.zero_le _⟩ dX3_readLaw_19 (fun r19 u H locs h hP hD hS => ?_)
    obtain ⟨F_19, A_19⟩ := u
    try dsimp only at h
    have hP : va_P D vwCl (wX3 cI cZ o q F_19 A_19 ++ wX2 cI cZ o1 q1 F1 A1 : va_W) H := hP
    have hD : va_D A9 (wX3 cI cZ o q F_19 A_19 ++ wX2 cI cZ o1 q1 F1 A1 : va_W) := hD
    refine lv_if_eq (tgt := 30) hx hb dX3_readLaw_22 (by decide) (fun c22 => ?_) (fun c22 => ?_)
    · replace h := h.1 c22
      refine lv_aload_n hx hb dX3_readLaw_30 rfl (lv_at hl 1 rfl) ?_
      refine va_ldcS (tx := sTx 16) (index := 115) (q := adK 16) hx hb hown (hE.1.2 16 (by decide)) dX3_readLaw_31 ?_
      refine C_vi (wr := [2, 3, 4, 5, 6, 7, 8, 9, 10].filterMap (fun i => (wX3 cI cZ o q F_19 A_19 ++ wX2 cI cZ o1 q1 F1 A1 : va_W)[i]?)) X hP hD hS [.ref (adK 16)] [] (w_X3_isNext l D cI cZ cR adK adV _ o q F_19 A_19 16 _ h) cal_X3_isNext mw_8_8 rfl [0, 1] [2, 3, 4, 5, 6, 7, 8, 9, 10] [9, 10, 0, 1, 2, 3, 4, 5, 6, 7, 8] (fun u => (wX3 cI cZ o q u.1 u.2 ++ wX2 cI cZ o1 q1 F1 A1 : va_W)) rfl rfl (fun _ => rfl) rfl 0 rfl rfl ⟨rfl, rfl⟩ ⟨Nat.le_of_ble_eq_true rfl, Nat.le_of_ble_eq_true rfl⟩ hl.1 rfl (Nat.le_of_ble_eq_true rfl) ⟨Nat.zero_le _, Nat.zero_le _⟩ dX3_readLaw_33 (fun r33 u H locs h hP hD hS => ?_)
      obtain ⟨F_33, A_33⟩ := u
      try dsimp only at h
      have hP : va_P D vwCl (wX3 cI cZ o q F_33 A_33 ++ wX2 cI cZ o1 q1 F1 A1 : va_W) H := hP
      have hD : va_D A9 (wX3 cI cZ o q F_33 A_33 ++ wX2 cI cZ o1 q1 F1 A1 : va_W) := hD
      refine lv_if_eq (tgt := 44) hx hb dX3_readLaw_36 (by decide) (fun c36 => ?_) (fun c36 => ?_)
      · replace h := h.1 c36
        refine lv_aload_n hx hb dX3_readLaw_44 rfl (lv_at hl 1 rfl) ?_
        refine va_ldcS (tx := sTx 17) (index := 117) (q := adK 17) hx hb hown (hE.1.2 17 (by decide)) dX3_readLaw_45 ?_
        refine C_vi (wr := [2, 3, 4, 5, 6, 7, 8, 9, 10].filterMap (fun i => (wX3 cI cZ o q F_33 A_33 ++ wX2 cI cZ o1 q1 F1 A1 : va_W)[i]?)) X hP hD hS [.ref (adK 17)] [] (w_X3_isNext l D cI cZ cR adK adV _ o q F_33 A_33 17 _ h) cal_X3_isNext mw_8_8 rfl [0, 1] [2, 3, 4, 5, 6, 7, 8, 9, 10] [9, 10, 0, 1, 2, 3, 4, 5, 6, 7, 8] (fun u => (wX3 cI cZ o q u.1 u.2 ++ wX2 cI cZ o1 q1 F1 A1 : va_W)) rfl rfl (fun _ => rfl) rfl 0 rfl rfl ⟨rfl, rfl⟩ ⟨Nat.le_of_ble_eq_true rfl, Nat.le_of_ble_eq_true rfl⟩ hl.1 rfl (Nat.le_of_ble_eq_true rfl) ⟨Nat.zero_le _, Nat.zero_le _⟩ dX3_readLaw_47 (fun r47 u H locs h hP hD hS => ?_)
        obtain ⟨F_47, A_47⟩ := u
        try dsimp only at h
        have hP : va_P D vwCl (wX3 cI cZ o q F_47 A_47 ++ wX2 cI cZ o1 q1 F1 A1 : va_W) H := hP
        have hD : va_D A9 (wX3 cI cZ o q F_47 A_47 ++ wX2 cI cZ o1 q1 F1 A1 : va_W) := hD
        refine lv_if_eq (tgt := 55) hx hb dX3_readLaw_50 (by decide) (fun c50 => ?_) (fun c50 => ?_)
        · replace h := h.1 c50
          exact b_X3_readLaw_J55 F_47 A_47 F1 A1 (4 : Int32) X ret  _ _ _ h hP hD hS (lv_sub hl [1, 2, 0] rfl)
        · replace h := h.2 c50
          refine lv_iconst (v := 3) hx hb dX3_readLaw_53 (by decide) ?_
          refine lv_istore_n (lv' := [(2, .int (3 : Int32)), (0, .ref o), (1, .ref o1)]) hx hb dX3_readLaw_54 rfl hl (by decide) rfl (fun ls hl => ?_)
          exact b_X3_readLaw_J55 F_47 A_47 F1 A1 (3 : Int32) X ret  _ _ _ h hP hD hS (lv_sub hl [1, 2, 0] rfl)
      · replace h := h.2 c36
        refine lv_iconst (v := 2) hx hb dX3_readLaw_39 (by decide) ?_
        refine lv_istore_n (lv' := [(2, .int (2 : Int32)), (0, .ref o), (1, .ref o1)]) hx hb dX3_readLaw_40 rfl hl (by decide) rfl (fun ls hl => ?_)
        refine lv_goto (tgt := 55) hx hb dX3_readLaw_41 (by decide) ?_
        exact b_X3_readLaw_J55 F_33 A_33 F1 A1 (2 : Int32) X ret  _ _ _ h hP hD hS (lv_sub hl [1, 2, 0] rfl)
    · replace h := h.2 c22
      refine lv_iconst (v := 1) hx hb dX3_readLaw_25 (by decide) ?_
      refine lv_istore_n (lv' := [(2, .int (1 : Int32)), (0, .ref o), (1, .ref o1)]) hx hb dX3_readLaw_26 rfl hl (by decide) rfl (fun ls hl => ?_)
      refine lv_goto (tgt := 55) hx hb dX3_readLaw_27 (by decide) ?_
      exact b_X3_readLaw_J55 F_19 A_19 F1 A1 (1 : Int32) X ret  _ _ _ h hP hD hS (lv_sub hl [1, 2, 0] rfl)
  · replace h := h.2 c8
    refine lv_iconst (v := 0) hx hb dX3_readLaw_11 (by decide) ?_
    refine lv_istore_n (lv' := [(2, .int (0 : Int32)), (0, .ref o), (1, .ref o1)]) hx hb dX3_readLaw_12 rfl hl (by decide) rfl (fun ls hl => ?_)
    refine lv_goto (tgt := 55) hx hb dX3_readLaw_13 (by decide) ?_
    exact b_X3_readLaw_J55 F_5 A_5 F1 A1 (0 : Int32) X ret  _ _ _ h hP hD hS (lv_sub hl [1, 2, 0] rfl)
theorem cal_X3_readKind : CalV yX3_readKind cX3_readKind 1 (some .int) 0 := ⟨mw_8_7, mw_1_22, mw_8_5, mw_8_6, ⟨by decide +kernel, by decide +kernel, by decide +kernel⟩⟩
theorem cal_X3_readLaw : CalV yX3_readLaw cX3_readLaw 3 none 1 := ⟨mw_11_13, mw_1_22, mw_11_11, mw_11_12, ⟨by decide +kernel, by decide +kernel, by decide +kernel⟩⟩
theorem cal_X3_readPlace : CalV yX3_readPlace cX3_readPlace 3 none 1 := ⟨mw_11_9, mw_1_22, mw_11_7, mw_11_8, ⟨by decide +kernel, by decide +kernel, by decide +kernel⟩⟩
theorem cal_X3_readSheep : CalV yX3_readSheep cX3_readSheep 7 none 3 := ⟨mw_10_16, mw_1_22, mw_10_14, mw_10_15, ⟨by decide +kernel, by decide +kernel, by decide +kernel⟩⟩
theorem cal_X3_readEnd : CalV yX3_readEnd cX3_readEnd 1 none 0 := ⟨mw_11_20, mw_1_22, mw_11_18, mw_11_19, ⟨by decide +kernel, by decide +kernel, by decide +kernel⟩⟩
theorem dX3_readStatement_0 : decode cX3_readStatement 0 = .ok (.aload_n 0, 1) := by decide +kernel
theorem dX3_readStatement_1 : decode cX3_readStatement 1 = .ok (.getfield 19, 3) := by decide +kernel
theorem dX3_readStatement_4 : decode cX3_readStatement 4 = .ok (.istore_n 2, 1) := by decide +kernel
theorem dX3_readStatement_5 : decode cX3_readStatement 5 = .ok (.aload_n 0, 1) := by decide +kernel
theorem dX3_readStatement_6 : decode cX3_readStatement 6 = .ok (.invokevirtual 34, 3) := by decide +kernel
theorem dX3_readStatement_9 : decode cX3_readStatement 9 = .ok (.istore_n 3, 1) := by decide +kernel
theorem dX3_readStatement_10 : decode cX3_readStatement 10 = .ok (.iload_n 3, 1) := by decide +kernel
theorem dX3_readStatement_11 : decode cX3_readStatement 11 = .ok (.bipush 6, 2) := by decide +kernel
theorem dX3_readStatement_13 : decode cX3_readStatement 13 = .ok (.if_icmp .ge 13, 3) := by decide +kernel
theorem dX3_readStatement_16 : decode cX3_readStatement 16 = .ok (.aload_n 0, 1) := by decide +kernel
theorem dX3_readStatement_17 : decode cX3_readStatement 17 = .ok (.aload_n 1, 1) := by decide +kernel
theorem dX3_readStatement_18 : decode cX3_readStatement 18 = .ok (.iload_n 3, 1) := by decide +kernel
theorem dX3_readStatement_19 : decode cX3_readStatement 19 = .ok (.iload_n 2, 1) := by decide +kernel
theorem dX3_readStatement_20 : decode cX3_readStatement 20 = .ok (.invokevirtual 38, 3) := by decide +kernel
theorem dX3_readStatement_23 : decode cX3_readStatement 23 = .ok (.goto 92, 3) := by decide +kernel
theorem dX3_readStatement_26 : decode cX3_readStatement 26 = .ok (.aload_n 0, 1) := by decide +kernel
theorem dX3_readStatement_27 : decode cX3_readStatement 27 = .ok (.ldc 42, 2) := by decide +kernel
theorem dX3_readStatement_29 : decode cX3_readStatement 29 = .ok (.invokevirtual 44, 3) := by decide +kernel
theorem dX3_readStatement_32 : decode cX3_readStatement 32 = .ok (.ifCond .eq 14, 3) := by decide +kernel
theorem dX3_readStatement_35 : decode cX3_readStatement 35 = .ok (.aload_n 0, 1) := by decide +kernel
theorem dX3_readStatement_36 : decode cX3_readStatement 36 = .ok (.aload_n 1, 1) := by decide +kernel
theorem dX3_readStatement_37 : decode cX3_readStatement 37 = .ok (.getfield 48, 3) := by decide +kernel
theorem dX3_readStatement_40 : decode cX3_readStatement 40 = .ok (.invokevirtual 52, 3) := by decide +kernel
theorem dX3_readStatement_43 : decode cX3_readStatement 43 = .ok (.goto 72, 3) := by decide +kernel
theorem dX3_readStatement_46 : decode cX3_readStatement 46 = .ok (.aload_n 0, 1) := by decide +kernel
theorem dX3_readStatement_47 : decode cX3_readStatement 47 = .ok (.ldc 56, 2) := by decide +kernel
theorem dX3_readStatement_49 : decode cX3_readStatement 49 = .ok (.invokevirtual 44, 3) := by decide +kernel
theorem dX3_readStatement_52 : decode cX3_readStatement 52 = .ok (.ifCond .eq 14, 3) := by decide +kernel
theorem dX3_readStatement_55 : decode cX3_readStatement 55 = .ok (.aload_n 0, 1) := by decide +kernel
theorem dX3_readStatement_56 : decode cX3_readStatement 56 = .ok (.aload_n 1, 1) := by decide +kernel
theorem dX3_readStatement_57 : decode cX3_readStatement 57 = .ok (.getfield 58, 3) := by decide +kernel
theorem dX3_readStatement_60 : decode cX3_readStatement 60 = .ok (.invokevirtual 52, 3) := by decide +kernel
theorem dX3_readStatement_63 : decode cX3_readStatement 63 = .ok (.goto 52, 3) := by decide +kernel
theorem dX3_readStatement_66 : decode cX3_readStatement 66 = .ok (.aload_n 0, 1) := by decide +kernel
theorem dX3_readStatement_67 : decode cX3_readStatement 67 = .ok (.ldc 60, 2) := by decide +kernel
theorem dX3_readStatement_69 : decode cX3_readStatement 69 = .ok (.invokevirtual 44, 3) := by decide +kernel
theorem dX3_readStatement_72 : decode cX3_readStatement 72 = .ok (.ifCond .eq 15, 3) := by decide +kernel
theorem dX3_readStatement_75 : decode cX3_readStatement 75 = .ok (.aload_n 1, 1) := by decide +kernel
theorem dX3_readStatement_76 : decode cX3_readStatement 76 = .ok (.aload_n 0, 1) := by decide +kernel
theorem dX3_readStatement_77 : decode cX3_readStatement 77 = .ok (.iconst 5, 1) := by decide +kernel
theorem dX3_readStatement_78 : decode cX3_readStatement 78 = .ok (.invokevirtual 62, 3) := by decide +kernel
theorem dX3_readStatement_81 : decode cX3_readStatement 81 = .ok (.putfield 66, 3) := by decide +kernel
theorem dX3_readStatement_84 : decode cX3_readStatement 84 = .ok (.goto 31, 3) := by decide +kernel
theorem dX3_readStatement_87 : decode cX3_readStatement 87 = .ok (.aload_n 0, 1) := by decide +kernel
theorem dX3_readStatement_88 : decode cX3_readStatement 88 = .ok (.ldc 69, 2) := by decide +kernel
theorem dX3_readStatement_90 : decode cX3_readStatement 90 = .ok (.invokevirtual 44, 3) := by decide +kernel
theorem dX3_readStatement_93 : decode cX3_readStatement 93 = .ok (.ifCond .eq 17, 3) := by decide +kernel
theorem dX3_readStatement_96 : decode cX3_readStatement 96 = .ok (.aload_n 1, 1) := by decide +kernel
theorem dX3_readStatement_97 : decode cX3_readStatement 97 = .ok (.aload_n 0, 1) := by decide +kernel
theorem dX3_readStatement_98 : decode cX3_readStatement 98 = .ok (.iconst 5, 1) := by decide +kernel
theorem dX3_readStatement_99 : decode cX3_readStatement 99 = .ok (.invokevirtual 62, 3) := by decide +kernel
theorem dX3_readStatement_102 : decode cX3_readStatement 102 = .ok (.iconst 1, 1) := by decide +kernel
theorem dX3_readStatement_103 : decode cX3_readStatement 103 = .ok (.iadd, 1) := by decide +kernel
theorem dX3_readStatement_104 : decode cX3_readStatement 104 = .ok (.putfield 71, 3) := by decide +kernel
theorem dX3_readStatement_107 : decode cX3_readStatement 107 = .ok (.goto 8, 3) := by decide +kernel
theorem dX3_readStatement_110 : decode cX3_readStatement 110 = .ok (.aload_n 0, 1) := by decide +kernel
theorem dX3_readStatement_111 : decode cX3_readStatement 111 = .ok (.aload_n 1, 1) := by decide +kernel
theorem dX3_readStatement_112 : decode cX3_readStatement 112 = .ok (.invokevirtual 74, 3) := by decide +kernel
theorem dX3_readStatement_115 : decode cX3_readStatement 115 = .ok (.aload_n 0, 1) := by decide +kernel
theorem dX3_readStatement_116 : decode cX3_readStatement 116 = .ok (.invokevirtual 77, 3) := by decide +kernel
theorem dX3_readStatement_119 : decode cX3_readStatement 119 = .ok (.return_, 1) := by decide +kernel
def p_X3_readStatement_J115 (F : tF) (A : tA) (F1 : tF) (A1 : tA) (K : tF → tA → tF → tA → Prop)  : Prop := (p_X3_readEnd F A (fun F_116 A_116 => (K F_116 A_116 F1 A1)))
set_option maxHeartbeats 4000000 in
set_option maxRecDepth 100000 in
theorem b_X3_readStatement_J115 {p : Program} {l : Launch} {e : Env} {s : State} {m : MethodId} {args : Array Value} {below : List Frame} {meth : Method} {c : Code} {Q : State → Prop} {D : va_G} {cI cZ cR : ClassId} {adK adV : Nat → Nat} {A9 : Nat → Prop} {o : Nat} {q : Nat → Nat} {o1 : Nat} {q1 : Nat → Nat} {K : tF → tA → tF → tA → Prop}  (F : tF) (A : tA) (F1 : tF) (A1 : tA) (X : CX p s m args c yX3_readStatement.cls cX3_readStatement 4 D cI cZ cR adK adV A9) (ret : RTv p l e (rmN 6 134) s m args below meth c Q cX3_readStatement D A9 (fun (u : (tF × tA) × (tF × tA)) => K u.1.1 u.1.2 u.2.1 u.2.2) (fun (u : (tF × tA) × (tF × tA)) => (wX3 cI cZ o q u.1.1 u.1.2 ++ wX2 cI cZ o1 q1 u.2.1 u.2.2 : va_W)))  (H : Heap) (locs : List Loc) (ls : Array Slot) (h : p_X3_readStatement_J115 F A F1 A1 K) (hP : va_P D vwCl (wX3 cI cZ o q F A ++ wX2 cI cZ o1 q1 F1 A1 : va_W) H) (hD : va_D A9 (wX3 cI cZ o q F A ++ wX2 cI cZ o1 q1 F1 A1 : va_W)) (hS : va_S A9 s.heap H locs) (hl : lv_has ls 4 [(0, .ref o)]) : W p l e (rmN 6 134) s m args below meth c H locs 0 0 Q (F0 m 115 ls []) := by
  obtain ⟨hx, hb, hml, ht, hown, hK, hA, hE⟩ := id X
  unfold p_X3_readStatement_J115 at h
  refine lv_aload_n hx hb dX3_readStatement_115 rfl (lv_at hl 0 rfl) ?_
  refine C_vv (wr := [2, 3, 4, 5, 6, 7, 8, 9, 10].filterMap (fun i => (wX3 cI cZ o q F A ++ wX2 cI cZ o1 q1 F1 A1 : va_W)[i]?)) X hP hD hS [] [] (w_X3_readEnd l D cI cZ cR adK adV _ o q F A _ h) cal_X3_readEnd mw_11_17 rfl [0, 1] [2, 3, 4, 5, 6, 7, 8, 9, 10] [9, 10, 0, 1, 2, 3, 4, 5, 6, 7, 8] (fun u => (wX3 cI cZ o q u.1 u.2 ++ wX2 cI cZ o1 q1 F1 A1 : va_W)) rfl rfl (fun _ => rfl) rfl 0 rfl rfl ⟨rfl, rfl⟩ ⟨Nat.le_of_ble_eq_true rfl, Nat.le_of_ble_eq_true rfl⟩ hl.1 rfl (Nat.le_of_ble_eq_true rfl) ⟨Nat.zero_le _, Nat.zero_le _⟩ dX3_readStatement_116 (fun u H locs h hP hD hS => ?_)
  obtain ⟨F_116, A_116⟩ := u
  try dsimp only at h
  have hP : va_P D vwCl (wX3 cI cZ o q F_116 A_116 ++ wX2 cI cZ o1 q1 F1 A1 : va_W) H := hP
  have hD : va_D A9 (wX3 cI cZ o q F_116 A_116 ++ wX2 cI cZ o1 q1 F1 A1 : va_W) := hD
  exact ret ((F_116, A_116), (F1, A1)) _ _ _ _ dX3_readStatement_119 h hP hD hS
def p_X3_readStatement (F : tF) (A : tA) (F1 : tF) (A1 : tA) (K : tF → tA → tF → tA → Prop) : Prop := (∀ y4 : Int32, y4 = (F 2) → (p_X3_readKind F A (fun r6 F_6 A_6 => (((6 : Int32) ≤ r6 → (p_X3_isNext F_6 A_6 9 (fun r29 F_29 A_29 => ((r29 = 0 → (p_X3_isNext F_29 A_29 11 (fun r49 F_49 A_49 => ((r49 = 0 → (p_X3_isNext F_49 A_49 12 (fun r69 F_69 A_69 => ((r69 = 0 → (p_X3_isNext F_69 A_69 13 (fun r90 F_90 A_90 => ((r90 = 0 → (p_X3_readLaw F_90 A_90 F1 A1 (fun F_112 A_112 F1_112 A1_112 => (p_X3_readStatement_J115 F_112 A_112 F1_112 A1_112 K)))) ∧ (¬ r90 = 0 → (p_X3_readNumber F_90 A_90 (5 : Int32) (fun r99 F_99 A_99 => (∀ y104 : Int32, y104 = (r99 + (1 : Int32)) → (p_X3_readStatement_J115 F_99 A_99 (upd F1 10 y104) A1 K))))))))) ∧ (¬ r69 = 0 → (p_X3_readNumber F_69 A_69 (5 : Int32) (fun r78 F_78 A_78 => (p_X3_readStatement_J115 F_78 A_78 (upd F1 9 r78) A1 K)))))))) ∧ (¬ r49 = 0 → (p_X3_readPlace F_49 A_49 6 (A1 2) (fun F_60 A_60 g1_60 => (p_X3_readStatement_J115 F_60 A_60 F1 (va_up A1 2 g1_60) K)))))))) ∧ (¬ r29 = 0 → (p_X3_readPlace F_29 A_29 6 (A1 1) (fun F_40 A_40 g1_40 => (p_X3_readStatement_J115 F_40 A_40 F1 (va_up A1 1 g1_40) K)))))))) ∧ (¬ (6 : Int32) ≤ r6 → (p_X3_readSheep F_6 A_6 F1 A1 r6 y4 (fun F_20 A_20 F1_20 A1_20 => (p_X3_readStatement_J115 F_20 A_20 F1_20 A1_20 K))))))))
set_option maxHeartbeats 4000000 in
set_option maxRecDepth 100000 in
theorem w_X3_readStatement (l : Launch) (D : va_G) (cI cZ cR : ClassId) (adK adV : Nat → Nat) (sz : Nat) (o : Nat) (q : Nat → Nat) (o1 : Nat) (q1 : Nat → Nat) (F : tF) (A : tA) (F1 : tF) (A1 : tA) (K : tF → tA → tF → tA → Prop) (h : p_X3_readStatement F A F1 A1 K) : MV l D cI cZ cR adK adV yX3_readStatement cX3_readStatement 4 none (rmN 6 134) [.ref o, .ref o1] (wX3 cI cZ o q F A ++ wX2 cI cZ o1 q1 F1 A1 : va_W) sz (fun (u : (tF × tA) × (tF × tA)) => K u.1.1 u.1.2 u.2.1 u.2.2) (fun (u : (tF × tA) × (tF × tA)) => (wX3 cI cZ o q u.1.1 u.1.2 ++ wX2 cI cZ o1 q1 u.2.1 u.2.2 : va_W)) := by
  refine M_v (by decide +kernel) (Nat.le_of_ble_eq_true rfl) ?_
  intro p e s m args below meth c Q A9 ls X ret hP hD hS hl
  obtain ⟨hx, hb, hml, ht, hown, hK, hA, hE⟩ := id X
  have hl : lv_has ls 4 [(0, .ref o), (1, .ref o1)] := hl
  unfold p_X3_readStatement at h
  refine lv_aload_n hx hb dX3_readStatement_0 rfl (lv_at hl 0 rfl) ?_
  refine va_get (C := RX3) (T := TX3) (N := 4) (own := RX3) (v := .int (F 2)) hx hb ht inlX3 hown hK hP 0 rfl rfl 2 (Nat.le_of_ble_eq_true rfl) (ht _ mw_3_22) (fun _ h9 => h9) rfl dX3_readStatement_1 ?_
  refine lv_topi (fun y4 ey4 => ?_)
  replace h := h y4 ey4
  refine lv_istore_n (lv' := [(2, .int y4), (0, .ref o), (1, .ref o1)]) hx hb dX3_readStatement_4 rfl hl (by decide) rfl (fun ls hl => ?_)
  refine lv_aload_n hx hb dX3_readStatement_5 rfl (lv_at hl 1 rfl) ?_
  refine C_vi (wr := [2, 3, 4, 5, 6, 7, 8, 9, 10].filterMap (fun i => (wX3 cI cZ o q F A ++ wX2 cI cZ o1 q1 F1 A1 : va_W)[i]?)) X hP hD hS [] [] (w_X3_readKind l D cI cZ cR adK adV _ o q F A _ h) cal_X3_readKind mw_8_4 rfl [0, 1] [2, 3, 4, 5, 6, 7, 8, 9, 10] [9, 10, 0, 1, 2, 3, 4, 5, 6, 7, 8] (fun u => (wX3 cI cZ o q u.1 u.2 ++ wX2 cI cZ o1 q1 F1 A1 : va_W)) rfl rfl (fun _ => rfl) rfl 0 rfl rfl ⟨rfl, rfl⟩ ⟨Nat.le_of_ble_eq_true rfl, Nat.le_of_ble_eq_true rfl⟩ hl.1 rfl (Nat.le_of_ble_eq_true rfl) ⟨Nat.zero_le _, Nat.zero_le _⟩ dX3_readStatement_6 (fun r6 u H locs h hP hD hS => ?_)
  obtain ⟨F_6, A_6⟩ := u
  try dsimp only at h
  have hP : va_P D vwCl (wX3 cI cZ o q F_6 A_6 ++ wX2 cI cZ o1 q1 F1 A1 : va_W) H := hP
  have hD : va_D A9 (wX3 cI cZ o q F_6 A_6 ++ wX2 cI cZ o1 q1 F1 A1 : va_W) := hD
  refine lv_istore_n (lv' := [(3, .int r6), (2, .int y4), (0, .ref o), (1, .ref o1)]) hx hb dX3_readStatement_9 rfl hl (by decide) rfl (fun ls hl => ?_)
  refine lv_iload_n hx hb dX3_readStatement_10 rfl (lv_at hl 0 rfl) ?_
  refine lv_bipush (v := 6) hx hb dX3_readStatement_11 (by decide) ?_
  refine lv_icmp_ge (tgt := 26) hx hb dX3_readStatement_13 (by decide) (fun c13 => ?_) (fun c13 => ?_)
  · replace h := h.1 c13
    refine lv_aload_n hx hb dX3_readStatement_26 rfl (lv_at hl 2 rfl) ?_
    refine va_ldcS (tx := sTx 9) (index := 42) (q := adK 9) hx hb hown (hE.1.2 9 (by decide)) dX3_readStatement_27 ?_
    refine C_vi (wr := [2, 3, 4, 5, 6, 7, 8, 9, 10].filterMap (fun i => (wX3 cI cZ o q F_6 A_6 ++ wX2 cI cZ o1 q1 F1 A1 : va_W)[i]?)) X hP hD hS [.ref (adK 9)] [] (w_X3_isNext l D cI cZ cR adK adV _ o q F_6 A_6 9 _ h) cal_X3_isNext mw_8_8 rfl [0, 1] [2, 3, 4, 5, 6, 7, 8, 9, 10] [9, 10, 0, 1, 2, 3, 4, 5, 6, 7, 8] (fun u => (wX3 cI cZ o q u.1 u.2 ++ wX2 cI cZ o1 q1 F1 A1 : va_W)) rfl rfl (fun _ => rfl) rfl 0 rfl rfl ⟨rfl, rfl⟩ ⟨Nat.le_of_ble_eq_true rfl, Nat.le_of_ble_eq_true rfl⟩ hl.1 rfl (Nat.le_of_ble_eq_true rfl) ⟨Nat.zero_le _, Nat.zero_le _⟩ dX3_readStatement_29 (fun r29 u H locs h hP hD hS => ?_)
    obtain ⟨F_29, A_29⟩ := u
    try dsimp only at h
    have hP : va_P D vwCl (wX3 cI cZ o q F_29 A_29 ++ wX2 cI cZ o1 q1 F1 A1 : va_W) H := hP
    have hD : va_D A9 (wX3 cI cZ o q F_29 A_29 ++ wX2 cI cZ o1 q1 F1 A1 : va_W) := hD
    refine lv_if_eq (tgt := 46) hx hb dX3_readStatement_32 (by decide) (fun c32 => ?_) (fun c32 => ?_)
    · replace h := h.1 c32
      refine lv_aload_n hx hb dX3_readStatement_46 rfl (lv_at hl 2 rfl) ?_
      refine va_ldcS (tx := sTx 11) (index := 56) (q := adK 11) hx hb hown (hE.1.2 11 (by decide)) dX3_readStatement_47 ?_
      refine C_vi (wr := [2, 3, 4, 5, 6, 7, 8, 9, 10].filterMap (fun i => (wX3 cI cZ o q F_29 A_29 ++ wX2 cI cZ o1 q1 F1 A1 : va_W)[i]?)) X hP hD hS [.ref (adK 11)] [] (w_X3_isNext l D cI cZ cR adK adV _ o q F_29 A_29 11 _ h) cal_X3_isNext mw_8_8 rfl [0, 1] [2, 3, 4, 5, 6, 7, 8, 9, 10] [9, 10, 0, 1, 2, 3, 4, 5, 6, 7, 8] (fun u => (wX3 cI cZ o q u.1 u.2 ++ wX2 cI cZ o1 q1 F1 A1 : va_W)) rfl rfl (fun _ => rfl) rfl 0 rfl rfl ⟨rfl, rfl⟩ ⟨Nat.le_of_ble_eq_true rfl, Nat.le_of_ble_eq_true rfl⟩ hl.1 rfl (Nat.le_of_ble_eq_true rfl) ⟨Nat.zero_le _, Nat.zero_le _⟩ dX3_readStatement_49 (fun r49 u H locs h hP hD hS => ?_)
      obtain ⟨F_49, A_49⟩ := u
      try dsimp only at h
      have hP : va_P D vwCl (wX3 cI cZ o q F_49 A_49 ++ wX2 cI cZ o1 q1 F1 A1 : va_W) H := hP
      have hD : va_D A9 (wX3 cI cZ o q F_49 A_49 ++ wX2 cI cZ o1 q1 F1 A1 : va_W) := hD
      refine lv_if_eq (tgt := 66) hx hb dX3_readStatement_52 (by decide) (fun c52 => ?_) (fun c52 => ?_)
      · replace h := h.1 c52
        refine lv_aload_n hx hb dX3_readStatement_66 rfl (lv_at hl 2 rfl) ?_
        refine va_ldcS (tx := sTx 12) (index := 60) (q := adK 12) hx hb hown (hE.1.2 12 (by decide)) dX3_readStatement_67 ?_
        refine C_vi (wr := [2, 3, 4, 5, 6, 7, 8, 9, 10].filterMap (fun i => (wX3 cI cZ o q F_49 A_49 ++ wX2 cI cZ o1 q1 F1 A1 : va_W)[i]?)) X hP hD hS [.ref (adK 12)] [] (w_X3_isNext l D cI cZ cR adK adV _ o q F_49 A_49 12 _ h) cal_X3_isNext mw_8_8 rfl [0, 1] [2, 3, 4, 5, 6, 7, 8, 9, 10] [9, 10, 0, 1, 2, 3, 4, 5, 6, 7, 8] (fun u => (wX3 cI cZ o q u.1 u.2 ++ wX2 cI cZ o1 q1 F1 A1 : va_W)) rfl rfl (fun _ => rfl) rfl 0 rfl rfl ⟨rfl, rfl⟩ ⟨Nat.le_of_ble_eq_true rfl, Nat.le_of_ble_eq_true rfl⟩ hl.1 rfl (Nat.le_of_ble_eq_true rfl) ⟨Nat.zero_le _, Nat.zero_le _⟩ dX3_readStatement_69 (fun r69 u H locs h hP hD hS => ?_)
        obtain ⟨F_69, A_69⟩ := u
        try dsimp only at h
        have hP : va_P D vwCl (wX3 cI cZ o q F_69 A_69 ++ wX2 cI cZ o1 q1 F1 A1 : va_W) H := hP
        have hD : va_D A9 (wX3 cI cZ o q F_69 A_69 ++ wX2 cI cZ o1 q1 F1 A1 : va_W) := hD
        refine lv_if_eq (tgt := 87) hx hb dX3_readStatement_72 (by decide) (fun c72 => ?_) (fun c72 => ?_)
        · replace h := h.1 c72
          refine lv_aload_n hx hb dX3_readStatement_87 rfl (lv_at hl 2 rfl) ?_
          refine va_ldcS (tx := sTx 13) (index := 69) (q := adK 13) hx hb hown (hE.1.2 13 (by decide)) dX3_readStatement_88 ?_
          refine C_vi (wr := [2, 3, 4, 5, 6, 7, 8, 9, 10].filterMap (fun i => (wX3 cI cZ o q F_69 A_69 ++ wX2 cI cZ o1 q1 F1 A1 : va_W)[i]?)) X hP hD hS [.ref (adK 13)] [] (w_X3_isNext l D cI cZ cR adK adV _ o q F_69 A_69 13 _ h) cal_X3_isNext mw_8_8 rfl [0, 1] [2, 3, 4, 5, 6, 7, 8, 9, 10] [9, 10, 0, 1, 2, 3, 4, 5, 6, 7, 8] (fun u => (wX3 cI cZ o q u.1 u.2 ++ wX2 cI cZ o1 q1 F1 A1 : va_W)) rfl rfl (fun _ => rfl) rfl 0 rfl rfl ⟨rfl, rfl⟩ ⟨Nat.le_of_ble_eq_true rfl, Nat.le_of_ble_eq_true rfl⟩ hl.1 rfl (Nat.le_of_ble_eq_true rfl) ⟨Nat.zero_le _, Nat.zero_le _⟩ dX3_readStatement_90 (fun r90 u H locs h hP hD hS => ?_)
          obtain ⟨F_90, A_90⟩ := u
          try dsimp only at h
          have hP : va_P D vwCl (wX3 cI cZ o q F_90 A_90 ++ wX2 cI cZ o1 q1 F1 A1 : va_W) H := hP
          have hD : va_D A9 (wX3 cI cZ o q F_90 A_90 ++ wX2 cI cZ o1 q1 F1 A1 : va_W) := hD
          refine lv_if_eq (tgt := 110) hx hb dX3_readStatement_93 (by decide) (fun c93 => ?_) (fun c93 => ?_)
          · replace h := h.1 c93
            refine lv_aload_n hx hb dX3_readStatement_110 rfl (lv_at hl 2 rfl) ?_
            refine lv_aload_n hx hb dX3_readStatement_111 rfl (lv_at hl 3 rfl) ?_
            refine C_vv (wr := []) X hP hD hS [.ref o1] [] (w_X3_readLaw l D cI cZ cR adK adV _ o q o1 q1 F_90 A_90 F1 A1 _ h) cal_X3_readLaw mw_11_10 rfl [0, 1, 2, 3, 4, 5, 6, 7, 8, 9, 10] [] [0, 1, 2, 3, 4, 5, 6, 7, 8, 9, 10] (fun u => (wX3 cI cZ o q u.1.1 u.1.2 ++ wX2 cI cZ o1 q1 u.2.1 u.2.2 : va_W)) rfl rfl (fun _ => rfl) rfl 0 rfl rfl ⟨rfl, rfl⟩ ⟨Nat.le_of_ble_eq_true rfl, Nat.le_of_ble_eq_true rfl⟩ hl.1 rfl (Nat.le_of_ble_eq_true rfl) ⟨Nat.zero_le _, Nat.zero_le _⟩ dX3_readStatement_112 (fun u H locs h hP hD hS => ?_)
            obtain ⟨⟨F_112, A_112⟩, ⟨F1_112, A1_112⟩⟩ := u
            try dsimp only at h
            have hP : va_P D vwCl (wX3 cI cZ o q F_112 A_112 ++ wX2 cI cZ o1 q1 F1_112 A1_112 : va_W) H := hP
            have hD : va_D A9 (wX3 cI cZ o q F_112 A_112 ++ wX2 cI cZ o1 q1 F1_112 A1_112 : va_W) := hD
            exact b_X3_readStatement_J115 F_112 A_112 F1_112 A1_112 X ret  _ _ _ h hP hD hS (lv_sub hl [2] rfl)
          · replace h := h.2 c93
            refine lv_aload_n hx hb dX3_readStatement_96 rfl (lv_at hl 3 rfl) ?_
            refine lv_aload_n hx hb dX3_readStatement_97 rfl (lv_at hl 2 rfl) ?_
            refine lv_iconst (v := 5) hx hb dX3_readStatement_98 (by decide) ?_
            refine C_vi (wr := [2, 3, 4, 5, 6, 7, 8, 9, 10].filterMap (fun i => (wX3 cI cZ o q F_90 A_90 ++ wX2 cI cZ o1 q1 F1 A1 : va_W)[i]?)) X hP hD hS [.int (5 : Int32)] [.ref o1] (w_X3_readNumber l D cI cZ cR adK adV _ o q F_90 A_90 (5 : Int32) _ h) cal_X3_readNumber mw_10_22 rfl [0, 1] [2, 3, 4, 5, 6, 7, 8, 9, 10] [9, 10, 0, 1, 2, 3, 4, 5, 6, 7, 8] (fun u => (wX3 cI cZ o q u.1 u.2 ++ wX2 cI cZ o1 q1 F1 A1 : va_W)) rfl rfl (fun _ => rfl) rfl 0 rfl rfl ⟨rfl, rfl⟩ ⟨Nat.le_of_ble_eq_true rfl, Nat.le_of_ble_eq_true rfl⟩ hl.1 rfl (Nat.le_of_ble_eq_true rfl) ⟨Nat.zero_le _, Nat.zero_le _⟩ dX3_readStatement_99 (fun r99 u H locs h hP hD hS => ?_)
            obtain ⟨F_99, A_99⟩ := u
            try dsimp only at h
            have hP : va_P D vwCl (wX3 cI cZ o q F_99 A_99 ++ wX2 cI cZ o1 q1 F1 A1 : va_W) H := hP
            have hD : va_D A9 (wX3 cI cZ o q F_99 A_99 ++ wX2 cI cZ o1 q1 F1 A1 : va_W) := hD
            refine lv_iconst (v := 1) hx hb dX3_readStatement_102 (by decide) ?_
            refine lv_iadd hx hb dX3_readStatement_103 ?_
            refine lv_topi (fun y104 ey104 => ?_)
            replace h := h y104 ey104
            refine va_put (C := RX2) (T := TX2) (N := 13) (own := RX3) (v := .int y104) hx hb ht inlX2 tyX2 tyX2_ok nmX2 hown hK hP hD hS 2 rfl rfl 10 (Nat.le_of_ble_eq_true rfl) (ht _ mw_8_3) (fun _ h9 => h9) rfl (tyX2_ok 10 (Nat.le_of_ble_eq_true rfl)) rfl rfl (Nat.le_of_ble_eq_true rfl) dX3_readStatement_104 (fun H locs hP hD hS => ?_)
            have hP : va_P D vwCl (wX3 cI cZ o q F_99 A_99 ++ wX2 cI cZ o1 q1 (upd F1 10 y104) A1 : va_W) H := hP
            have hD : va_D A9 (wX3 cI cZ o q F_99 A_99 ++ wX2 cI cZ o1 q1 (upd F1 10 y104) A1 : va_W) := hD
            refine lv_goto (tgt := 115) hx hb dX3_readStatement_107 (by decide) ?_
            exact b_X3_readStatement_J115 F_99 A_99 (upd F1 10 y104) A1 X ret  _ _ _ h hP hD hS (lv_sub hl [2] rfl)
        · replace h := h.2 c72
          refine lv_aload_n hx hb dX3_readStatement_75 rfl (lv_at hl 3 rfl) ?_
          refine lv_aload_n hx hb dX3_readStatement_76 rfl (lv_at hl 2 rfl) ?_
          refine lv_iconst (v := 5) hx hb dX3_readStatement_77 (by decide) ?_
          refine C_vi (wr := [2, 3, 4, 5, 6, 7, 8, 9, 10].filterMap (fun i => (wX3 cI cZ o q F_69 A_69 ++ wX2 cI cZ o1 q1 F1 A1 : va_W)[i]?)) X hP hD hS [.int (5 : Int32)] [.ref o1] (w_X3_readNumber l D cI cZ cR adK adV _ o q F_69 A_69 (5 : Int32) _ h) cal_X3_readNumber mw_10_22 rfl [0, 1] [2, 3, 4, 5, 6, 7, 8, 9, 10] [9, 10, 0, 1, 2, 3, 4, 5, 6, 7, 8] (fun u => (wX3 cI cZ o q u.1 u.2 ++ wX2 cI cZ o1 q1 F1 A1 : va_W)) rfl rfl (fun _ => rfl) rfl 0 rfl rfl ⟨rfl, rfl⟩ ⟨Nat.le_of_ble_eq_true rfl, Nat.le_of_ble_eq_true rfl⟩ hl.1 rfl (Nat.le_of_ble_eq_true rfl) ⟨Nat.zero_le _, Nat.zero_le _⟩ dX3_readStatement_78 (fun r78 u H locs h hP hD hS => ?_)
          obtain ⟨F_78, A_78⟩ := u
          try dsimp only at h
          have hP : va_P D vwCl (wX3 cI cZ o q F_78 A_78 ++ wX2 cI cZ o1 q1 F1 A1 : va_W) H := hP
          have hD : va_D A9 (wX3 cI cZ o q F_78 A_78 ++ wX2 cI cZ o1 q1 F1 A1 : va_W) := hD
          refine va_put (C := RX2) (T := TX2) (N := 13) (own := RX3) (v := .int r78) hx hb ht inlX2 tyX2 tyX2_ok nmX2 hown hK hP hD hS 2 rfl rfl 9 (Nat.le_of_ble_eq_true rfl) (ht _ mw_8_2) (fun _ h9 => h9) rfl (tyX2_ok 9 (Nat.le_of_ble_eq_true rfl)) rfl rfl (Nat.le_of_ble_eq_true rfl) dX3_readStatement_81 (fun H locs hP hD hS => ?_)
          have hP : va_P D vwCl (wX3 cI cZ o q F_78 A_78 ++ wX2 cI cZ o1 q1 (upd F1 9 r78) A1 : va_W) H := hP
          have hD : va_D A9 (wX3 cI cZ o q F_78 A_78 ++ wX2 cI cZ o1 q1 (upd F1 9 r78) A1 : va_W) := hD
          refine lv_goto (tgt := 115) hx hb dX3_readStatement_84 (by decide) ?_
          exact b_X3_readStatement_J115 F_78 A_78 (upd F1 9 r78) A1 X ret  _ _ _ h hP hD hS (lv_sub hl [2] rfl)
      · replace h := h.2 c52
        refine lv_aload_n hx hb dX3_readStatement_55 rfl (lv_at hl 2 rfl) ?_
        refine lv_aload_n hx hb dX3_readStatement_56 rfl (lv_at hl 3 rfl) ?_
        refine va_get (C := RX2) (T := TX2) (N := 13) (own := RX3) (v := .ref (q1 2)) hx hb ht inlX2 hown hK hP 2 rfl rfl 2 (Nat.le_of_ble_eq_true rfl) (ht _ mw_8_1) (fun _ h9 => h9) rfl dX3_readStatement_57 ?_
        refine C_vv (wr := [2, 3, 4, 6, 7, 8, 9, 10].filterMap (fun i => (wX3 cI cZ o q F_49 A_49 ++ wX2 cI cZ o1 q1 F1 A1 : va_W)[i]?)) X hP hD hS [.ref (q1 2)] [] (w_X3_readPlace l D cI cZ cR adK adV _ o q (q1 2) F_49 A_49 6 (A1 2) _ h) cal_X3_readPlace mw_11_6 rfl [0, 1, 5] [2, 3, 4, 6, 7, 8, 9, 10] [8, 9, 0, 1, 2, 10, 3, 4, 5, 6, 7] (fun u => (wX3 cI cZ o q u.1.1 u.1.2 ++ wX2 cI cZ o1 q1 F1 (va_up A1 2 u.2) : va_W)) rfl rfl (fun _ => rfl) rfl 0 rfl rfl ⟨rfl, rfl⟩ ⟨Nat.le_of_ble_eq_true rfl, Nat.le_of_ble_eq_true rfl⟩ hl.1 rfl (Nat.le_of_ble_eq_true rfl) ⟨Nat.zero_le _, Nat.zero_le _⟩ dX3_readStatement_60 (fun u H locs h hP hD hS => ?_)
        obtain ⟨⟨F_60, A_60⟩, g1_60⟩ := u
        try dsimp only at h
        have hP : va_P D vwCl (wX3 cI cZ o q F_60 A_60 ++ wX2 cI cZ o1 q1 F1 (va_up A1 2 g1_60) : va_W) H := hP
        have hD : va_D A9 (wX3 cI cZ o q F_60 A_60 ++ wX2 cI cZ o1 q1 F1 (va_up A1 2 g1_60) : va_W) := hD
        refine lv_goto (tgt := 115) hx hb dX3_readStatement_63 (by decide) ?_
        exact b_X3_readStatement_J115 F_60 A_60 F1 (va_up A1 2 g1_60) X ret  _ _ _ h hP hD hS (lv_sub hl [2] rfl)
    · replace h := h.2 c32
      refine lv_aload_n hx hb dX3_readStatement_35 rfl (lv_at hl 2 rfl) ?_
      refine lv_aload_n hx hb dX3_readStatement_36 rfl (lv_at hl 3 rfl) ?_
      refine va_get (C := RX2) (T := TX2) (N := 13) (own := RX3) (v := .ref (q1 1)) hx hb ht inlX2 hown hK hP 2 rfl rfl 1 (Nat.le_of_ble_eq_true rfl) (ht _ mw_8_0) (fun _ h9 => h9) rfl dX3_readStatement_37 ?_
      refine C_vv (wr := [2, 3, 5, 6, 7, 8, 9, 10].filterMap (fun i => (wX3 cI cZ o q F_29 A_29 ++ wX2 cI cZ o1 q1 F1 A1 : va_W)[i]?)) X hP hD hS [.ref (q1 1)] [] (w_X3_readPlace l D cI cZ cR adK adV _ o q (q1 1) F_29 A_29 6 (A1 1) _ h) cal_X3_readPlace mw_11_6 rfl [0, 1, 4] [2, 3, 5, 6, 7, 8, 9, 10] [8, 9, 0, 1, 10, 2, 3, 4, 5, 6, 7] (fun u => (wX3 cI cZ o q u.1.1 u.1.2 ++ wX2 cI cZ o1 q1 F1 (va_up A1 1 u.2) : va_W)) rfl rfl (fun _ => rfl) rfl 0 rfl rfl ⟨rfl, rfl⟩ ⟨Nat.le_of_ble_eq_true rfl, Nat.le_of_ble_eq_true rfl⟩ hl.1 rfl (Nat.le_of_ble_eq_true rfl) ⟨Nat.zero_le _, Nat.zero_le _⟩ dX3_readStatement_40 (fun u H locs h hP hD hS => ?_)
      obtain ⟨⟨F_40, A_40⟩, g1_40⟩ := u
      try dsimp only at h
      have hP : va_P D vwCl (wX3 cI cZ o q F_40 A_40 ++ wX2 cI cZ o1 q1 F1 (va_up A1 1 g1_40) : va_W) H := hP
      have hD : va_D A9 (wX3 cI cZ o q F_40 A_40 ++ wX2 cI cZ o1 q1 F1 (va_up A1 1 g1_40) : va_W) := hD
      refine lv_goto (tgt := 115) hx hb dX3_readStatement_43 (by decide) ?_
      exact b_X3_readStatement_J115 F_40 A_40 F1 (va_up A1 1 g1_40) X ret  _ _ _ h hP hD hS (lv_sub hl [2] rfl)
  · replace h := h.2 c13
    refine lv_aload_n hx hb dX3_readStatement_16 rfl (lv_at hl 2 rfl) ?_
    refine lv_aload_n hx hb dX3_readStatement_17 rfl (lv_at hl 3 rfl) ?_
    refine lv_iload_n hx hb dX3_readStatement_18 rfl (lv_at hl 0 rfl) ?_
    refine lv_iload_n hx hb dX3_readStatement_19 rfl (lv_at hl 1 rfl) ?_
    refine C_vv (wr := []) X hP hD hS [.ref o1, .int r6, .int y4] [] (w_X3_readSheep l D cI cZ cR adK adV _ o q o1 q1 F_6 A_6 F1 A1 r6 y4 _ h) cal_X3_readSheep mw_10_13 rfl [0, 1, 2, 3, 4, 5, 6, 7, 8, 9, 10] [] [0, 1, 2, 3, 4, 5, 6, 7, 8, 9, 10] (fun u => (wX3 cI cZ o q u.1.1 u.1.2 ++ wX2 cI cZ o1 q1 u.2.1 u.2.2 : va_W)) rfl rfl (fun _ => rfl) rfl 0 rfl rfl ⟨rfl, rfl⟩ ⟨Nat.le_of_ble_eq_true rfl, Nat.le_of_ble_eq_true rfl⟩ hl.1 rfl (Nat.le_of_ble_eq_true rfl) ⟨Nat.zero_le _, Nat.zero_le _⟩ dX3_readStatement_20 (fun u H locs h hP hD hS => ?_)
    obtain ⟨⟨F_20, A_20⟩, ⟨F1_20, A1_20⟩⟩ := u
    try dsimp only at h
    have hP : va_P D vwCl (wX3 cI cZ o q F_20 A_20 ++ wX2 cI cZ o1 q1 F1_20 A1_20 : va_W) H := hP
    have hD : va_D A9 (wX3 cI cZ o q F_20 A_20 ++ wX2 cI cZ o1 q1 F1_20 A1_20 : va_W) := hD
    refine lv_goto (tgt := 115) hx hb dX3_readStatement_23 (by decide) ?_
    exact b_X3_readStatement_J115 F_20 A_20 F1_20 A1_20 X ret  _ _ _ h hP hD hS (lv_sub hl [2] rfl)
theorem cal_X3_readStatement : CalV yX3_readStatement cX3_readStatement 4 none 1 := ⟨mw_7_23, mw_1_22, mw_7_21, mw_7_22, ⟨by decide +kernel, by decide +kernel, by decide +kernel⟩⟩
theorem dX3_readOnto_0 : decode cX3_readOnto 0 = .ok (.aload_n 0, 1) := by decide +kernel
theorem dX3_readOnto_1 : decode cX3_readOnto 1 = .ok (.iconst 0, 1) := by decide +kernel
theorem dX3_readOnto_2 : decode cX3_readOnto 2 = .ok (.putfield 19, 3) := by decide +kernel
theorem dX3_readOnto_5 : decode cX3_readOnto 5 = .ok (.aload_n 0, 1) := by decide +kernel
theorem dX3_readOnto_6 : decode cX3_readOnto 6 = .ok (.iconst (-1), 1) := by decide +kernel
theorem dX3_readOnto_7 : decode cX3_readOnto 7 = .ok (.putfield 22, 3) := by decide +kernel
theorem dX3_readOnto_10 : decode cX3_readOnto 10 = .ok (.aload_n 0, 1) := by decide +kernel
theorem dX3_readOnto_11 : decode cX3_readOnto 11 = .ok (.invokevirtual 27, 3) := by decide +kernel
theorem dX3_readOnto_14 : decode cX3_readOnto 14 = .ok (.iconst 0, 1) := by decide +kernel
theorem dX3_readOnto_15 : decode cX3_readOnto 15 = .ok (.istore_n 2, 1) := by decide +kernel
theorem dX3_readOnto_16 : decode cX3_readOnto 16 = .ok (.iload_n 2, 1) := by decide +kernel
theorem dX3_readOnto_17 : decode cX3_readOnto 17 = .ok (.sipush 200, 3) := by decide +kernel
theorem dX3_readOnto_20 : decode cX3_readOnto 20 = .ok (.if_icmp .ge 37, 3) := by decide +kernel
theorem dX3_readOnto_23 : decode cX3_readOnto 23 = .ok (.aload_n 0, 1) := by decide +kernel
theorem dX3_readOnto_24 : decode cX3_readOnto 24 = .ok (.getfield 19, 3) := by decide +kernel
theorem dX3_readOnto_27 : decode cX3_readOnto 27 = .ok (.aload_n 0, 1) := by decide +kernel
theorem dX3_readOnto_28 : decode cX3_readOnto 28 = .ok (.getfield 15, 3) := by decide +kernel
theorem dX3_readOnto_31 : decode cX3_readOnto 31 = .ok (.if_icmp .ge 26, 3) := by decide +kernel
theorem dX3_readOnto_34 : decode cX3_readOnto 34 = .ok (.aload_n 0, 1) := by decide +kernel
theorem dX3_readOnto_35 : decode cX3_readOnto 35 = .ok (.getfield 22, 3) := by decide +kernel
theorem dX3_readOnto_38 : decode cX3_readOnto 38 = .ok (.iconst (-1), 1) := by decide +kernel
theorem dX3_readOnto_39 : decode cX3_readOnto 39 = .ok (.if_icmp .ne 18, 3) := by decide +kernel
theorem dX3_readOnto_42 : decode cX3_readOnto 42 = .ok (.aload_n 0, 1) := by decide +kernel
theorem dX3_readOnto_43 : decode cX3_readOnto 43 = .ok (.aload_n 1, 1) := by decide +kernel
theorem dX3_readOnto_44 : decode cX3_readOnto 44 = .ok (.invokevirtual 30, 3) := by decide +kernel
theorem dX3_readOnto_47 : decode cX3_readOnto 47 = .ok (.aload_n 0, 1) := by decide +kernel
theorem dX3_readOnto_48 : decode cX3_readOnto 48 = .ok (.invokevirtual 27, 3) := by decide +kernel
theorem dX3_readOnto_51 : decode cX3_readOnto 51 = .ok (.iinc 2 1, 3) := by decide +kernel
theorem dX3_readOnto_54 : decode cX3_readOnto 54 = .ok (.goto (-38), 3) := by decide +kernel
theorem dX3_readOnto_57 : decode cX3_readOnto 57 = .ok (.aload_n 0, 1) := by decide +kernel
theorem dX3_readOnto_58 : decode cX3_readOnto 58 = .ok (.getfield 22, 3) := by decide +kernel
theorem dX3_readOnto_61 : decode cX3_readOnto 61 = .ok (.ireturn, 1) := by decide +kernel
def p_X3_readOnto_L16 (K : Int32 → tF → tA → tF → tA → Prop) : Nat → tF → tA → tF → tA → Int32 → Prop
  | 0, _, _, _, _, _ => False
  | n16 + 1, F, A, F1, A1, x2 => (((200 : Int32) ≤ x2 → (K (F 3) F A F1 A1)) ∧ (¬ (200 : Int32) ≤ x2 → (((F 1) ≤ (F 2) → (K (F 3) F A F1 A1)) ∧ (¬ (F 1) ≤ (F 2) → ((¬ (F 3) = (-1 : Int32) → (K (F 3) F A F1 A1)) ∧ ((F 3) = (-1 : Int32) → (p_X3_readStatement F A F1 A1 (fun F_44 A_44 F1_44 A1_44 => (p_X3_skipBlanks F_44 A_44 (fun F_48 A_48 => (∀ y51 : Int32, y51 = (x2 + (1 : Int32)) → ((p_X3_readOnto_L16 K n16) F_48 A_48 F1_44 A1_44 y51))))))))))))
set_option maxHeartbeats 4000000 in
set_option maxRecDepth 100000 in
theorem b_X3_readOnto_L16 {p : Program} {l : Launch} {e : Env} {s : State} {m : MethodId} {args : Array Value} {below : List Frame} {meth : Method} {c : Code} {Q : State → Prop} {D : va_G} {cI cZ cR : ClassId} {adK adV : Nat → Nat} {A9 : Nat → Prop} {o : Nat} {q : Nat → Nat} {o1 : Nat} {q1 : Nat → Nat} {K : Int32 → tF → tA → tF → tA → Prop}   (X : CX p s m args c yX3_readOnto.cls cX3_readOnto 3 D cI cZ cR adK adV A9) (ret : RTi p l e (rmN 7 157) s m args below meth c Q cX3_readOnto D A9 (fun (r : Int32) (u : (tF × tA) × (tF × tA)) => K r u.1.1 u.1.2 u.2.1 u.2.2) (fun (u : (tF × tA) × (tF × tA)) => (wX3 cI cZ o q u.1.1 u.1.2 ++ wX2 cI cZ o1 q1 u.2.1 u.2.2 : va_W)))   : ∀ (n : Nat) (F : tF) (A : tA) (F1 : tF) (A1 : tA) (x2 : Int32) (H : Heap) (locs : List Loc) (ls : Array Slot), p_X3_readOnto_L16 K n F A F1 A1 x2 → va_P D vwCl (wX3 cI cZ o q F A ++ wX2 cI cZ o1 q1 F1 A1 : va_W) H → va_D A9 (wX3 cI cZ o q F A ++ wX2 cI cZ o1 q1 F1 A1 : va_W) → va_S A9 s.heap H locs → lv_has ls 3 [(0, .ref o), (1, .ref o1), (2, .int x2)] → W p l e (rmN 7 157) s m args below meth c H locs 0 0 Q (F0 m 16 ls []) := by
  obtain ⟨hx, hb, hml, ht, hown, hK, hA, hE⟩ := id X
  intro n
  induction n with
  | zero => intro F A F1 A1 x2 H locs ls h; exact False.elim h
  | succ n16 ih =>
    intro F A F1 A1 x2 H locs ls h hP hD hS hl
    rw [p_X3_readOnto_L16] at h
    refine lv_iload_n hx hb dX3_readOnto_16 rfl (lv_at hl 2 rfl) ?_
    refine lv_sipush (v := 200) hx hb dX3_readOnto_17 (by decide) ?_
    refine lv_icmp_ge (tgt := 57) hx hb dX3_readOnto_20 (by decide) (fun c20 => ?_) (fun c20 => ?_)
    · replace h := h.1 c20
      refine lv_aload_n hx hb dX3_readOnto_57 rfl (lv_at hl 0 rfl) ?_
      refine va_get (C := RX3) (T := TX3) (N := 4) (own := RX3) (v := .int (F 3)) hx hb ht inlX3 hown hK hP 0 rfl rfl 3 (Nat.le_of_ble_eq_true rfl) (ht _ mw_3_23) (fun _ h9 => h9) rfl dX3_readOnto_58 ?_
      exact ret _ ((F, A), (F1, A1)) _ _ _ _ dX3_readOnto_61 h hP hD hS
    · replace h := h.2 c20
      refine lv_aload_n hx hb dX3_readOnto_23 rfl (lv_at hl 0 rfl) ?_
      refine va_get (C := RX3) (T := TX3) (N := 4) (own := RX3) (v := .int (F 2)) hx hb ht inlX3 hown hK hP 0 rfl rfl 2 (Nat.le_of_ble_eq_true rfl) (ht _ mw_3_22) (fun _ h9 => h9) rfl dX3_readOnto_24 ?_
      refine lv_aload_n hx hb dX3_readOnto_27 rfl (lv_at hl 0 rfl) ?_
      refine va_get (C := RX3) (T := TX3) (N := 4) (own := RX3) (v := .int (F 1)) hx hb ht inlX3 hown hK hP 0 rfl rfl 1 (Nat.le_of_ble_eq_true rfl) (ht _ mw_3_21) (fun _ h9 => h9) rfl dX3_readOnto_28 ?_
      refine lv_icmp_ge (tgt := 57) hx hb dX3_readOnto_31 (by decide) (fun c31 => ?_) (fun c31 => ?_)
      · replace h := h.1 c31
        refine lv_aload_n hx hb dX3_readOnto_57 rfl (lv_at hl 0 rfl) ?_
        refine va_get (C := RX3) (T := TX3) (N := 4) (own := RX3) (v := .int (F 3)) hx hb ht inlX3 hown hK hP 0 rfl rfl 3 (Nat.le_of_ble_eq_true rfl) (ht _ mw_3_23) (fun _ h9 => h9) rfl dX3_readOnto_58 ?_
        exact ret _ ((F, A), (F1, A1)) _ _ _ _ dX3_readOnto_61 h hP hD hS
      · replace h := h.2 c31
        refine lv_aload_n hx hb dX3_readOnto_34 rfl (lv_at hl 0 rfl) ?_
        refine va_get (C := RX3) (T := TX3) (N := 4) (own := RX3) (v := .int (F 3)) hx hb ht inlX3 hown hK hP 0 rfl rfl 3 (Nat.le_of_ble_eq_true rfl) (ht _ mw_3_23) (fun _ h9 => h9) rfl dX3_readOnto_35 ?_
        refine lv_iconst (v := -1) hx hb dX3_readOnto_38 (by decide) ?_
        refine lv_icmp_ne (tgt := 57) hx hb dX3_readOnto_39 (by decide) (fun c39 => ?_) (fun c39 => ?_)
        · replace h := h.1 c39
          refine lv_aload_n hx hb dX3_readOnto_57 rfl (lv_at hl 0 rfl) ?_
          refine va_get (C := RX3) (T := TX3) (N := 4) (own := RX3) (v := .int (F 3)) hx hb ht inlX3 hown hK hP 0 rfl rfl 3 (Nat.le_of_ble_eq_true rfl) (ht _ mw_3_23) (fun _ h9 => h9) rfl dX3_readOnto_58 ?_
          exact ret _ ((F, A), (F1, A1)) _ _ _ _ dX3_readOnto_61 h hP hD hS
        · replace h := h.2 c39
          refine lv_aload_n hx hb dX3_readOnto_42 rfl (lv_at hl 0 rfl) ?_
          refine lv_aload_n hx hb dX3_readOnto_43 rfl (lv_at hl 1 rfl) ?_
          refine C_vv (wr := []) X hP hD hS [.ref o1] [] (w_X3_readStatement l D cI cZ cR adK adV _ o q o1 q1 F A F1 A1 _ h) cal_X3_readStatement mw_7_20 rfl [0, 1, 2, 3, 4, 5, 6, 7, 8, 9, 10] [] [0, 1, 2, 3, 4, 5, 6, 7, 8, 9, 10] (fun u => (wX3 cI cZ o q u.1.1 u.1.2 ++ wX2 cI cZ o1 q1 u.2.1 u.2.2 : va_W)) rfl rfl (fun _ => rfl) rfl 0 rfl rfl ⟨rfl, rfl⟩ ⟨Nat.le_of_ble_eq_true rfl, Nat.le_of_ble_eq_true rfl⟩ hl.1 rfl (Nat.le_of_ble_eq_true rfl) ⟨Nat.zero_le _, Nat.zero_le _⟩ dX3_readOnto_44 (fun u H locs h hP hD hS => ?_)
          obtain ⟨⟨F_44, A_44⟩, ⟨F1_44, A1_44⟩⟩ := u
          try dsimp only at h
          have hP : va_P D vwCl (wX3 cI cZ o q F_44 A_44 ++ wX2 cI cZ o1 q1 F1_44 A1_44 : va_W) H := hP
          have hD : va_D A9 (wX3 cI cZ o q F_44 A_44 ++ wX2 cI cZ o1 q1 F1_44 A1_44 : va_W) := hD
          refine lv_aload_n hx hb dX3_readOnto_47 rfl (lv_at hl 0 rfl) ?_
          refine C_vv (wr := [2, 3, 4, 5, 6, 7, 8, 9, 10].filterMap (fun i => (wX3 cI cZ o q F_44 A_44 ++ wX2 cI cZ o1 q1 F1_44 A1_44 : va_W)[i]?)) X hP hD hS [] [] (w_X3_skipBlanks l D cI cZ cR adK adV _ o q F_44 A_44 _ h) cal_X3_skipBlanks mw_7_16 rfl [0, 1] [2, 3, 4, 5, 6, 7, 8, 9, 10] [9, 10, 0, 1, 2, 3, 4, 5, 6, 7, 8] (fun u => (wX3 cI cZ o q u.1 u.2 ++ wX2 cI cZ o1 q1 F1_44 A1_44 : va_W)) rfl rfl (fun _ => rfl) rfl 0 rfl rfl ⟨rfl, rfl⟩ ⟨Nat.le_of_ble_eq_true rfl, Nat.le_of_ble_eq_true rfl⟩ hl.1 rfl (Nat.le_of_ble_eq_true rfl) ⟨Nat.zero_le _, Nat.zero_le _⟩ dX3_readOnto_48 (fun u H locs h hP hD hS => ?_)
          obtain ⟨F_48, A_48⟩ := u
          try dsimp only at h
          have hP : va_P D vwCl (wX3 cI cZ o q F_48 A_48 ++ wX2 cI cZ o1 q1 F1_44 A1_44 : va_W) H := hP
          have hD : va_D A9 (wX3 cI cZ o q F_48 A_48 ++ wX2 cI cZ o1 q1 F1_44 A1_44 : va_W) := hD
          obtain ⟨y51, ey51⟩ : ∃ y : Int32, y = (x2 + (1 : Int32)) := ⟨_, rfl⟩
          replace h := h y51 ey51
          refine lv_iinc (v := y51) (lv' := [(2, .int y51), (0, .ref o), (1, .ref o1)]) hx hb dX3_readOnto_51 hl (k := 2) rfl (by rw [ey51]; rfl) (by decide) rfl (fun ls hl => ?_)
          refine lv_goto (tgt := 16) hx hb dX3_readOnto_54 (by decide) ?_
          exact ih F_48 A_48 F1_44 A1_44 y51 _ _ _ h hP hD hS (lv_sub hl [1, 2, 0] rfl)
def p_X3_readOnto (F : tF) (A : tA) (F1 : tF) (A1 : tA) (K : Int32 → tF → tA → tF → tA → Prop) : Prop := (p_X3_skipBlanks (upd (upd F 2 (0 : Int32)) 3 (-1 : Int32)) A (fun F_11 A_11 => (∃ n16, p_X3_readOnto_L16 K n16 F_11 A_11 F1 A1 (0 : Int32))))
set_option maxHeartbeats 4000000 in
set_option maxRecDepth 100000 in
theorem w_X3_readOnto (l : Launch) (D : va_G) (cI cZ cR : ClassId) (adK adV : Nat → Nat) (sz : Nat) (o : Nat) (q : Nat → Nat) (o1 : Nat) (q1 : Nat → Nat) (F : tF) (A : tA) (F1 : tF) (A1 : tA) (K : Int32 → tF → tA → tF → tA → Prop) (h : p_X3_readOnto F A F1 A1 K) : MI l D cI cZ cR adK adV yX3_readOnto cX3_readOnto 3 (some .int) (rmN 7 157) [.ref o, .ref o1] (wX3 cI cZ o q F A ++ wX2 cI cZ o1 q1 F1 A1 : va_W) sz (fun (r : Int32) (u : (tF × tA) × (tF × tA)) => K r u.1.1 u.1.2 u.2.1 u.2.2) (fun (u : (tF × tA) × (tF × tA)) => (wX3 cI cZ o q u.1.1 u.1.2 ++ wX2 cI cZ o1 q1 u.2.1 u.2.2 : va_W)) := by
  refine M_i (by decide +kernel) (Nat.le_of_ble_eq_true rfl) ?_
  intro p e s m args below meth c Q A9 ls X ret hP hD hS hl
  obtain ⟨hx, hb, hml, ht, hown, hK, hA, hE⟩ := id X
  have hl : lv_has ls 3 [(0, .ref o), (1, .ref o1)] := hl
  unfold p_X3_readOnto at h
  refine lv_aload_n hx hb dX3_readOnto_0 rfl (lv_at hl 0 rfl) ?_
  refine lv_iconst (v := 0) hx hb dX3_readOnto_1 (by decide) ?_
  refine va_put (C := RX3) (T := TX3) (N := 4) (own := RX3) (v := .int (0 : Int32)) hx hb ht inlX3 tyX3 tyX3_ok nmX3 hown hK hP hD hS 0 rfl rfl 2 (Nat.le_of_ble_eq_true rfl) (ht _ mw_3_22) (fun _ h9 => h9) rfl (tyX3_ok 2 (Nat.le_of_ble_eq_true rfl)) rfl rfl (Nat.le_of_ble_eq_true rfl) dX3_readOnto_2 (fun H locs hP hD hS => ?_)
  have hP : va_P D vwCl (wX3 cI cZ o q (upd F 2 (0 : Int32)) A ++ wX2 cI cZ o1 q1 F1 A1 : va_W) H := hP
  have hD : va_D A9 (wX3 cI cZ o q (upd F 2 (0 : Int32)) A ++ wX2 cI cZ o1 q1 F1 A1 : va_W) := hD
  refine lv_aload_n hx hb dX3_readOnto_5 rfl (lv_at hl 0 rfl) ?_
  refine lv_iconst (v := -1) hx hb dX3_readOnto_6 (by decide) ?_
  refine va_put (C := RX3) (T := TX3) (N := 4) (own := RX3) (v := .int (-1 : Int32)) hx hb ht inlX3 tyX3 tyX3_ok nmX3 hown hK hP hD hS 0 rfl rfl 3 (Nat.le_of_ble_eq_true rfl) (ht _ mw_3_23) (fun _ h9 => h9) rfl (tyX3_ok 3 (Nat.le_of_ble_eq_true rfl)) rfl rfl (Nat.le_of_ble_eq_true rfl) dX3_readOnto_7 (fun H locs hP hD hS => ?_)
  have hP : va_P D vwCl (wX3 cI cZ o q (upd (upd F 2 (0 : Int32)) 3 (-1 : Int32)) A ++ wX2 cI cZ o1 q1 F1 A1 : va_W) H := hP
  have hD : va_D A9 (wX3 cI cZ o q (upd (upd F 2 (0 : Int32)) 3 (-1 : Int32)) A ++ wX2 cI cZ o1 q1 F1 A1 : va_W) := hD
  refine lv_aload_n hx hb dX3_readOnto_10 rfl (lv_at hl 0 rfl) ?_
  refine C_vv (wr := [2, 3, 4, 5, 6, 7, 8, 9, 10].filterMap (fun i => (wX3 cI cZ o q (upd (upd F 2 (0 : Int32)) 3 (-1 : Int32)) A ++ wX2 cI cZ o1 q1 F1 A1 : va_W)[i]?)) X hP hD hS [] [] (w_X3_skipBlanks l D cI cZ cR adK adV _ o q (upd (upd F 2 (0 : Int32)) 3 (-1 : Int32)) A _ h) cal_X3_skipBlanks mw_7_16 rfl [0, 1] [2, 3, 4, 5, 6, 7, 8, 9, 10] [9, 10, 0, 1, 2, 3, 4, 5, 6, 7, 8] (fun u => (wX3 cI cZ o q u.1 u.2 ++ wX2 cI cZ o1 q1 F1 A1 : va_W)) rfl rfl (fun _ => rfl) rfl 0 rfl rfl ⟨rfl, rfl⟩ ⟨Nat.le_of_ble_eq_true rfl, Nat.le_of_ble_eq_true rfl⟩ hl.1 rfl (Nat.le_of_ble_eq_true rfl) ⟨Nat.zero_le _, Nat.zero_le _⟩ dX3_readOnto_11 (fun u H locs h hP hD hS => ?_)
  obtain ⟨F_11, A_11⟩ := u
  try dsimp only at h
  have hP : va_P D vwCl (wX3 cI cZ o q F_11 A_11 ++ wX2 cI cZ o1 q1 F1 A1 : va_W) H := hP
  have hD : va_D A9 (wX3 cI cZ o q F_11 A_11 ++ wX2 cI cZ o1 q1 F1 A1 : va_W) := hD
  refine lv_iconst (v := 0) hx hb dX3_readOnto_14 (by decide) ?_
  refine lv_istore_n (lv' := [(2, .int (0 : Int32)), (0, .ref o), (1, .ref o1)]) hx hb dX3_readOnto_15 rfl hl (by decide) rfl (fun ls hl => ?_)
  obtain ⟨n16, h⟩ := h
  exact b_X3_readOnto_L16  X ret  n16 F_11 A_11 F1 A1 (0 : Int32) _ _ _ h hP hD hS (lv_sub hl [1, 2, 0] rfl)
