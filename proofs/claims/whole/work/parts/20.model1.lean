/-! 20.model1: what the bytecode of these methods asks, and the walks (written by wip/gen/mk.py) -/
theorem dX7_begins_0 : decode cX7_begins 0 = .ok (.aload_n 0, 1) := by decide +kernel
theorem dX7_begins_1 : decode cX7_begins 1 = .ok (.getfield 7, 3) := by decide +kernel
theorem dX7_begins_4 : decode cX7_begins 4 = .ok (.iconst 2, 1) := by decide +kernel
theorem dX7_begins_5 : decode cX7_begins 5 = .ok (.iaload, 1) := by decide +kernel
theorem dX7_begins_6 : decode cX7_begins 6 = .ok (.istore_n 1, 1) := by decide +kernel
theorem dX7_begins_7 : decode cX7_begins 7 = .ok (.iconst 0, 1) := by decide +kernel
theorem dX7_begins_8 : decode cX7_begins 8 = .ok (.istore_n 2, 1) := by decide +kernel
theorem dX7_begins_9 : decode cX7_begins 9 = .ok (.iload_n 2, 1) := by decide +kernel
theorem dX7_begins_10 : decode cX7_begins 10 = .ok (.bipush 53, 2) := by decide +kernel
theorem dX7_begins_12 : decode cX7_begins 12 = .ok (.if_icmp .ge 16, 3) := by decide +kernel
theorem dX7_begins_15 : decode cX7_begins 15 = .ok (.aload_n 0, 1) := by decide +kernel
theorem dX7_begins_16 : decode cX7_begins 16 = .ok (.getfield 7, 3) := by decide +kernel
theorem dX7_begins_19 : decode cX7_begins 19 = .ok (.iload_n 2, 1) := by decide +kernel
theorem dX7_begins_20 : decode cX7_begins 20 = .ok (.iconst 0, 1) := by decide +kernel
theorem dX7_begins_21 : decode cX7_begins 21 = .ok (.iastore, 1) := by decide +kernel
theorem dX7_begins_22 : decode cX7_begins 22 = .ok (.iinc 2 1, 3) := by decide +kernel
theorem dX7_begins_25 : decode cX7_begins 25 = .ok (.goto (-16), 3) := by decide +kernel
theorem dX7_begins_28 : decode cX7_begins 28 = .ok (.aload_n 0, 1) := by decide +kernel
theorem dX7_begins_29 : decode cX7_begins 29 = .ok (.getfield 7, 3) := by decide +kernel
theorem dX7_begins_32 : decode cX7_begins 32 = .ok (.iconst 2, 1) := by decide +kernel
theorem dX7_begins_33 : decode cX7_begins 33 = .ok (.iload_n 1, 1) := by decide +kernel
theorem dX7_begins_34 : decode cX7_begins 34 = .ok (.iastore, 1) := by decide +kernel
theorem dX7_begins_35 : decode cX7_begins 35 = .ok (.aload_n 0, 1) := by decide +kernel
theorem dX7_begins_36 : decode cX7_begins 36 = .ok (.getfield 7, 3) := by decide +kernel
theorem dX7_begins_39 : decode cX7_begins 39 = .ok (.iconst 5, 1) := by decide +kernel
theorem dX7_begins_40 : decode cX7_begins 40 = .ok (.iconst 3, 1) := by decide +kernel
theorem dX7_begins_41 : decode cX7_begins 41 = .ok (.iastore, 1) := by decide +kernel
theorem dX7_begins_42 : decode cX7_begins 42 = .ok (.aload_n 0, 1) := by decide +kernel
theorem dX7_begins_43 : decode cX7_begins 43 = .ok (.getfield 7, 3) := by decide +kernel
theorem dX7_begins_46 : decode cX7_begins 46 = .ok (.bipush 6, 2) := by decide +kernel
theorem dX7_begins_48 : decode cX7_begins 48 = .ok (.iconst 2, 1) := by decide +kernel
theorem dX7_begins_49 : decode cX7_begins 49 = .ok (.iastore, 1) := by decide +kernel
theorem dX7_begins_50 : decode cX7_begins 50 = .ok (.aload_n 0, 1) := by decide +kernel
theorem dX7_begins_51 : decode cX7_begins 51 = .ok (.getfield 7, 3) := by decide +kernel
theorem dX7_begins_54 : decode cX7_begins 54 = .ok (.bipush 7, 2) := by decide +kernel
theorem dX7_begins_56 : decode cX7_begins 56 = .ok (.iconst 1, 1) := by decide +kernel
theorem dX7_begins_57 : decode cX7_begins 57 = .ok (.iastore, 1) := by decide +kernel
theorem dX7_begins_58 : decode cX7_begins 58 = .ok (.aload_n 0, 1) := by decide +kernel
theorem dX7_begins_59 : decode cX7_begins 59 = .ok (.getfield 7, 3) := by decide +kernel
theorem dX7_begins_62 : decode cX7_begins 62 = .ok (.bipush 8, 2) := by decide +kernel
theorem dX7_begins_64 : decode cX7_begins 64 = .ok (.bipush 20, 2) := by decide +kernel
theorem dX7_begins_66 : decode cX7_begins 66 = .ok (.iastore, 1) := by decide +kernel
theorem dX7_begins_67 : decode cX7_begins 67 = .ok (.iconst 0, 1) := by decide +kernel
theorem dX7_begins_68 : decode cX7_begins 68 = .ok (.istore_n 2, 1) := by decide +kernel
theorem dX7_begins_69 : decode cX7_begins 69 = .ok (.iload_n 2, 1) := by decide +kernel
theorem dX7_begins_70 : decode cX7_begins 70 = .ok (.bipush 6, 2) := by decide +kernel
theorem dX7_begins_72 : decode cX7_begins 72 = .ok (.if_icmp .ge 19, 3) := by decide +kernel
theorem dX7_begins_75 : decode cX7_begins 75 = .ok (.aload_n 0, 1) := by decide +kernel
theorem dX7_begins_76 : decode cX7_begins 76 = .ok (.getfield 7, 3) := by decide +kernel
theorem dX7_begins_79 : decode cX7_begins 79 = .ok (.bipush 9, 2) := by decide +kernel
theorem dX7_begins_81 : decode cX7_begins 81 = .ok (.iload_n 2, 1) := by decide +kernel
theorem dX7_begins_82 : decode cX7_begins 82 = .ok (.iadd, 1) := by decide +kernel
theorem dX7_begins_83 : decode cX7_begins 83 = .ok (.iconst 5, 1) := by decide +kernel
theorem dX7_begins_84 : decode cX7_begins 84 = .ok (.iastore, 1) := by decide +kernel
theorem dX7_begins_85 : decode cX7_begins 85 = .ok (.iinc 2 1, 3) := by decide +kernel
theorem dX7_begins_88 : decode cX7_begins 88 = .ok (.goto (-19), 3) := by decide +kernel
theorem dX7_begins_91 : decode cX7_begins 91 = .ok (.return_, 1) := by decide +kernel
def p_X7_begins_L69 (K : tF → tA → Prop) : Nat → tF → tA → Int32 → Prop
  | 0, _, _, _ => False
  | n69 + 1, F, A, x2 => (((6 : Int32) ≤ x2 → (K F A)) ∧ (¬ (6 : Int32) ≤ x2 → (vp_in ((9 : Int32) + x2) 53 ∧ (∀ f_84 : tF, f_84 = (upd (A 0) (((9 : Int32) + x2)).toNatClampNeg (5 : Int32)) → (∀ y85 : Int32, y85 = (x2 + (1 : Int32)) → ((p_X7_begins_L69 K n69) F (va_up A 0 f_84) y85))))))
set_option maxHeartbeats 4000000 in
set_option maxRecDepth 100000 in
theorem b_X7_begins_L69 {p : Program} {l : Launch} {e : Env} {s : State} {m : MethodId} {args : Array Value} {below : List Frame} {meth : Method} {c : Code} {Q : State → Prop} {D : va_G} {cI cZ cR : ClassId} {adK adV : Nat → Nat} {A9 : Nat → Prop} {o : Nat} {q : Nat → Nat} {K : tF → tA → Prop}   (X : CX p s m args c yX7_begins.cls cX7_begins 3 D cI cZ cR adK adV A9) (ret : RTv p l e (rmN 0 0) s m args below meth c Q cX7_begins D A9 (fun (u : (tF × tA)) => K u.1 u.2) (fun (u : (tF × tA)) => (wX7 cI cZ o q u.1 u.2 : va_W)))   : ∀ (n : Nat) (F : tF) (A : tA) (x2 : Int32) (H : Heap) (locs : List Loc) (ls : Array Slot), p_X7_begins_L69 K n F A x2 → va_P D vwCl (wX7 cI cZ o q F A : va_W) H → va_D A9 (wX7 cI cZ o q F A : va_W) → va_S A9 s.heap H locs → lv_has ls 3 [(0, .ref o), (2, .int x2)] → W p l e (rmN 0 0) s m args below meth c H locs 0 0 Q (F0 m 69 ls []) := by
  obtain ⟨hx, hb, hml, ht, hown, hK, hA, hE⟩ := id X
  intro n
  induction n with
  | zero => intro F A x2 H locs ls h; exact False.elim h
  | succ n69 ih =>
    intro F A x2 H locs ls h hP hD hS hl
    rw [p_X7_begins_L69] at h
    refine lv_iload_n hx hb dX7_begins_69 rfl (lv_at hl 1 rfl) ?_
    refine lv_bipush (v := 6) hx hb dX7_begins_70 (by decide) ?_
    refine lv_icmp_ge (tgt := 91) hx hb dX7_begins_72 (by decide) (fun c72 => ?_) (fun c72 => ?_)
    · replace h := h.1 c72
      exact ret (F, A) _ _ _ _ dX7_begins_91 h hP hD hS
    · replace h := h.2 c72
      refine lv_aload_n hx hb dX7_begins_75 rfl (lv_at hl 0 rfl) ?_
      refine va_get (C := RX7) (T := TX7) (N := 28) (own := RX7) (v := .ref (q 0)) hx hb ht inlX7 hown hK hP 0 rfl rfl 0 (Nat.le_of_ble_eq_true rfl) (ht _ mw_5_7) (fun _ h9 => h9) rfl dX7_begins_76 ?_
      refine lv_bipush (v := 9) hx hb dX7_begins_79 (by decide) ?_
      refine lv_iload_n hx hb dX7_begins_81 rfl (lv_at hl 1 rfl) ?_
      refine lv_iadd hx hb dX7_begins_82 ?_
      refine lv_iconst (v := 5) hx hb dX7_begins_83 (by decide) ?_
      obtain ⟨hi84, h⟩ := h
      obtain ⟨f_84, ef_84⟩ : ∃ z : tF, z = (upd (A 0) (((9 : Int32) + x2)).toNatClampNeg (5 : Int32)) := ⟨_, rfl⟩
      replace h := h f_84 ef_84
      refine g_iast (f := (A 0)) (k := (((9 : Int32) + x2)).toNatClampNeg) hx hb hK hP hD hS 1 0 rfl rfl hi84 rfl ef_84 dX7_begins_84 (fun H locs hP hD hS => ?_)
      have hP : va_P D vwCl (wX7 cI cZ o q F (va_up A 0 f_84) : va_W) H := hP
      have hD : va_D A9 (wX7 cI cZ o q F (va_up A 0 f_84) : va_W) := hD
      obtain ⟨y85, ey85⟩ : ∃ y : Int32, y = (x2 + (1 : Int32)) := ⟨_, rfl⟩
      replace h := h y85 ey85
      refine lv_iinc (v := y85) (lv' := [(2, .int y85), (0, .ref o)]) hx hb dX7_begins_85 hl (k := 1) rfl (by rw [ey85]; rfl) (by decide) rfl (fun ls hl => ?_)
      refine lv_goto (tgt := 69) hx hb dX7_begins_88 (by decide) ?_
      exact ih F (va_up A 0 f_84) y85 _ _ _ h hP hD hS (lv_sub hl [1, 0] rfl)
def p_X7_begins_L9 (x1 : Int32) (K : tF → tA → Prop) : Nat → tF → tA → Int32 → Prop
  | 0, _, _, _ => False
  | n9 + 1, F, A, x2 => (((53 : Int32) ≤ x2 → (∀ f_34 : tF, f_34 = (upd (A 0) 2 x1) → (∀ f_41 : tF, f_41 = (upd f_34 5 (3 : Int32)) → (∀ f_49 : tF, f_49 = (upd f_41 6 (2 : Int32)) → (∀ f_57 : tF, f_57 = (upd f_49 7 (1 : Int32)) → (∀ f_66 : tF, f_66 = (upd f_57 8 (20 : Int32)) → (∃ n69, p_X7_begins_L69 K n69 F (va_up A 0 f_66) (0 : Int32)))))))) ∧ (¬ (53 : Int32) ≤ x2 → (vp_in x2 53 ∧ (∀ f_21 : tF, f_21 = (upd (A 0) (x2).toNatClampNeg (0 : Int32)) → (∀ y22 : Int32, y22 = (x2 + (1 : Int32)) → ((p_X7_begins_L9 x1 K n9) F (va_up A 0 f_21) y22))))))
set_option maxHeartbeats 4000000 in
set_option maxRecDepth 100000 in
theorem b_X7_begins_L9 {p : Program} {l : Launch} {e : Env} {s : State} {m : MethodId} {args : Array Value} {below : List Frame} {meth : Method} {c : Code} {Q : State → Prop} {D : va_G} {cI cZ cR : ClassId} {adK adV : Nat → Nat} {A9 : Nat → Prop} {o : Nat} {q : Nat → Nat} {K : tF → tA → Prop}  (x1 : Int32) (X : CX p s m args c yX7_begins.cls cX7_begins 3 D cI cZ cR adK adV A9) (ret : RTv p l e (rmN 0 0) s m args below meth c Q cX7_begins D A9 (fun (u : (tF × tA)) => K u.1 u.2) (fun (u : (tF × tA)) => (wX7 cI cZ o q u.1 u.2 : va_W)))   : ∀ (n : Nat) (F : tF) (A : tA) (x2 : Int32) (H : Heap) (locs : List Loc) (ls : Array Slot), p_X7_begins_L9 x1 K n F A x2 → va_P D vwCl (wX7 cI cZ o q F A : va_W) H → va_D A9 (wX7 cI cZ o q F A : va_W) → va_S A9 s.heap H locs → lv_has ls 3 [(0, .ref o), (1, .int x1), (2, .int x2)] → W p l e (rmN 0 0) s m args below meth c H locs 0 0 Q (F0 m 9 ls []) := by
  obtain ⟨hx, hb, hml, ht, hown, hK, hA, hE⟩ := id X
  intro n
  induction n with
  | zero => intro F A x2 H locs ls h; exact False.elim h
  | succ n9 ih =>
    intro F A x2 H locs ls h hP hD hS hl
    rw [p_X7_begins_L9] at h
    refine lv_iload_n hx hb dX7_begins_9 rfl (lv_at hl 2 rfl) ?_
    refine lv_bipush (v := 53) hx hb dX7_begins_10 (by decide) ?_
    refine lv_icmp_ge (tgt := 28) hx hb dX7_begins_12 (by decide) (fun c12 => ?_) (fun c12 => ?_)
    · replace h := h.1 c12
      refine lv_aload_n hx hb dX7_begins_28 rfl (lv_at hl 0 rfl) ?_
      refine va_get (C := RX7) (T := TX7) (N := 28) (own := RX7) (v := .ref (q 0)) hx hb ht inlX7 hown hK hP 0 rfl rfl 0 (Nat.le_of_ble_eq_true rfl) (ht _ mw_5_7) (fun _ h9 => h9) rfl dX7_begins_29 ?_
      refine lv_iconst (v := 2) hx hb dX7_begins_32 (by decide) ?_
      refine lv_iload_n hx hb dX7_begins_33 rfl (lv_at hl 1 rfl) ?_
      obtain ⟨f_34, ef_34⟩ : ∃ z : tF, z = (upd (A 0) 2 x1) := ⟨_, rfl⟩
      replace h := h f_34 ef_34
      refine g_iast (f := (A 0)) (k := 2) hx hb hK hP hD hS 1 0 rfl rfl (vp_in_lit rfl : vp_in (2 : Int32) 53) (by decide) ef_34 dX7_begins_34 (fun H locs hP hD hS => ?_)
      have hP : va_P D vwCl (wX7 cI cZ o q F (va_up A 0 f_34) : va_W) H := hP
      have hD : va_D A9 (wX7 cI cZ o q F (va_up A 0 f_34) : va_W) := hD
      refine lv_aload_n hx hb dX7_begins_35 rfl (lv_at hl 0 rfl) ?_
      refine va_get (C := RX7) (T := TX7) (N := 28) (own := RX7) (v := .ref (q 0)) hx hb ht inlX7 hown hK hP 0 rfl rfl 0 (Nat.le_of_ble_eq_true rfl) (ht _ mw_5_7) (fun _ h9 => h9) rfl dX7_begins_36 ?_
      refine lv_iconst (v := 5) hx hb dX7_begins_39 (by decide) ?_
      refine lv_iconst (v := 3) hx hb dX7_begins_40 (by decide) ?_
      obtain ⟨f_41, ef_41⟩ : ∃ z : tF, z = (upd f_34 5 (3 : Int32)) := ⟨_, rfl⟩
      replace h := h f_41 ef_41
      refine g_iast (f := f_34) (k := 5) hx hb hK hP hD hS 1 0 rfl rfl (vp_in_lit rfl : vp_in (5 : Int32) 53) (by decide) ef_41 dX7_begins_41 (fun H locs hP hD hS => ?_)
      have hP : va_P D vwCl (wX7 cI cZ o q F (va_up A 0 f_41) : va_W) H := hP
      have hD : va_D A9 (wX7 cI cZ o q F (va_up A 0 f_41) : va_W) := hD
      refine lv_aload_n hx hb dX7_begins_42 rfl (lv_at hl 0 rfl) ?_
      refine va_get (C := RX7) (T := TX7) (N := 28) (own := RX7) (v := .ref (q 0)) hx hb ht inlX7 hown hK hP 0 rfl rfl 0 (Nat.le_of_ble_eq_true rfl) (ht _ mw_5_7) (fun _ h9 => h9) rfl dX7_begins_43 ?_
      refine lv_bipush (v := 6) hx hb dX7_begins_46 (by decide) ?_
      refine lv_iconst (v := 2) hx hb dX7_begins_48 (by decide) ?_
      obtain ⟨f_49, ef_49⟩ : ∃ z : tF, z = (upd f_41 6 (2 : Int32)) := ⟨_, rfl⟩
      replace h := h f_49 ef_49
      refine g_iast (f := f_41) (k := 6) hx hb hK hP hD hS 1 0 rfl rfl (vp_in_lit rfl : vp_in (6 : Int32) 53) (by decide) ef_49 dX7_begins_49 (fun H locs hP hD hS => ?_)
      have hP : va_P D vwCl (wX7 cI cZ o q F (va_up A 0 f_49) : va_W) H := hP
      have hD : va_D A9 (wX7 cI cZ o q F (va_up A 0 f_49) : va_W) := hD
      refine lv_aload_n hx hb dX7_begins_50 rfl (lv_at hl 0 rfl) ?_
      refine va_get (C := RX7) (T := TX7) (N := 28) (own := RX7) (v := .ref (q 0)) hx hb ht inlX7 hown hK hP 0 rfl rfl 0 (Nat.le_of_ble_eq_true rfl) (ht _ mw_5_7) (fun _ h9 => h9) rfl dX7_begins_51 ?_
      refine lv_bipush (v := 7) hx hb dX7_begins_54 (by decide) ?_
      refine lv_iconst (v := 1) hx hb dX7_begins_56 (by decide) ?_
      obtain ⟨f_57, ef_57⟩ : ∃ z : tF, z = (upd f_49 7 (1 : Int32)) := ⟨_, rfl⟩
      replace h := h f_57 ef_57
      refine g_iast (f := f_49) (k := 7) hx hb hK hP hD hS 1 0 rfl rfl (vp_in_lit rfl : vp_in (7 : Int32) 53) (by decide) ef_57 dX7_begins_57 (fun H locs hP hD hS => ?_)
      have hP : va_P D vwCl (wX7 cI cZ o q F (va_up A 0 f_57) : va_W) H := hP
      have hD : va_D A9 (wX7 cI cZ o q F (va_up A 0 f_57) : va_W) := hD
      refine lv_aload_n hx hb dX7_begins_58 rfl (lv_at hl 0 rfl) ?_
      refine va_get (C := RX7) (T := TX7) (N := 28) (own := RX7) (v := .ref (q 0)) hx hb ht inlX7 hown hK hP 0 rfl rfl 0 (Nat.le_of_ble_eq_true rfl) (ht _ mw_5_7) (fun _ h9 => h9) rfl dX7_begins_59 ?_
      refine lv_bipush (v := 8) hx hb dX7_begins_62 (by decide) ?_
      refine lv_bipush (v := 20) hx hb dX7_begins_64 (by decide) ?_
      obtain ⟨f_66, ef_66⟩ : ∃ z : tF, z = (upd f_57 8 (20 : Int32)) := ⟨_, rfl⟩
      replace h := h f_66 ef_66
      refine g_iast (f := f_57) (k := 8) hx hb hK hP hD hS 1 0 rfl rfl (vp_in_lit rfl : vp_in (8 : Int32) 53) (by decide) ef_66 dX7_begins_66 (fun H locs hP hD hS => ?_)
      have hP : va_P D vwCl (wX7 cI cZ o q F (va_up A 0 f_66) : va_W) H := hP
      have hD : va_D A9 (wX7 cI cZ o q F (va_up A 0 f_66) : va_W) := hD
      refine lv_iconst (v := 0) hx hb dX7_begins_67 (by decide) ?_
      refine lv_istore_n (lv' := [(2, .int (0 : Int32)), (0, .ref o), (1, .int x1)]) hx hb dX7_begins_68 rfl hl (by decide) rfl (fun ls hl => ?_)
      obtain ⟨n69, h⟩ := h
      exact b_X7_begins_L69  X ret  n69 F (va_up A 0 f_66) (0 : Int32) _ _ _ h hP hD hS (lv_sub hl [1, 0] rfl)
    · replace h := h.2 c12
      refine lv_aload_n hx hb dX7_begins_15 rfl (lv_at hl 0 rfl) ?_
      refine va_get (C := RX7) (T := TX7) (N := 28) (own := RX7) (v := .ref (q 0)) hx hb ht inlX7 hown hK hP 0 rfl rfl 0 (Nat.le_of_ble_eq_true rfl) (ht _ mw_5_7) (fun _ h9 => h9) rfl dX7_begins_16 ?_
      refine lv_iload_n hx hb dX7_begins_19 rfl (lv_at hl 2 rfl) ?_
      refine lv_iconst (v := 0) hx hb dX7_begins_20 (by decide) ?_
      obtain ⟨hi21, h⟩ := h
      obtain ⟨f_21, ef_21⟩ : ∃ z : tF, z = (upd (A 0) (x2).toNatClampNeg (0 : Int32)) := ⟨_, rfl⟩
      replace h := h f_21 ef_21
      refine g_iast (f := (A 0)) (k := (x2).toNatClampNeg) hx hb hK hP hD hS 1 0 rfl rfl hi21 rfl ef_21 dX7_begins_21 (fun H locs hP hD hS => ?_)
      have hP : va_P D vwCl (wX7 cI cZ o q F (va_up A 0 f_21) : va_W) H := hP
      have hD : va_D A9 (wX7 cI cZ o q F (va_up A 0 f_21) : va_W) := hD
      obtain ⟨y22, ey22⟩ : ∃ y : Int32, y = (x2 + (1 : Int32)) := ⟨_, rfl⟩
      replace h := h y22 ey22
      refine lv_iinc (v := y22) (lv' := [(2, .int y22), (0, .ref o), (1, .int x1)]) hx hb dX7_begins_22 hl (k := 2) rfl (by rw [ey22]; rfl) (by decide) rfl (fun ls hl => ?_)
      refine lv_goto (tgt := 9) hx hb dX7_begins_25 (by decide) ?_
      exact ih F (va_up A 0 f_21) y22 _ _ _ h hP hD hS (lv_sub hl [1, 2, 0] rfl)
def p_X7_begins (F : tF) (A : tA) (K : tF → tA → Prop) : Prop := (∀ y6 : Int32, y6 = ((A 0) 2) → (∃ n9, p_X7_begins_L9 y6 K n9 F A (0 : Int32)))
set_option maxHeartbeats 4000000 in
set_option maxRecDepth 100000 in
theorem w_X7_begins (l : Launch) (D : va_G) (cI cZ cR : ClassId) (adK adV : Nat → Nat) (sz : Nat) (o : Nat) (q : Nat → Nat) (F : tF) (A : tA) (K : tF → tA → Prop) (h : p_X7_begins F A K) : MV l D cI cZ cR adK adV yX7_begins cX7_begins 3 none (rmN 0 0) [.ref o] (wX7 cI cZ o q F A : va_W) sz (fun (u : (tF × tA)) => K u.1 u.2) (fun (u : (tF × tA)) => (wX7 cI cZ o q u.1 u.2 : va_W)) := by
  refine M_v (by decide +kernel) (Nat.le_of_ble_eq_true rfl) ?_
  intro p e s m args below meth c Q A9 ls X ret hP hD hS hl
  obtain ⟨hx, hb, hml, ht, hown, hK, hA, hE⟩ := id X
  have hl : lv_has ls 3 [(0, .ref o)] := hl
  unfold p_X7_begins at h
  refine lv_aload_n hx hb dX7_begins_0 rfl (lv_at hl 0 rfl) ?_
  refine va_get (C := RX7) (T := TX7) (N := 28) (own := RX7) (v := .ref (q 0)) hx hb ht inlX7 hown hK hP 0 rfl rfl 0 (Nat.le_of_ble_eq_true rfl) (ht _ mw_5_7) (fun _ h9 => h9) rfl dX7_begins_1 ?_
  refine lv_iconst (v := 2) hx hb dX7_begins_4 (by decide) ?_
  refine g_iald (f := (A 0)) (k := 2) hx hb hK hP 1 0 rfl rfl (vp_in_lit rfl : vp_in (2 : Int32) 53) (by decide) dX7_begins_5 ?_
  refine lv_topi (fun y6 ey6 => ?_)
  replace h := h y6 ey6
  refine lv_istore_n (lv' := [(1, .int y6), (0, .ref o)]) hx hb dX7_begins_6 rfl hl (by decide) rfl (fun ls hl => ?_)
  refine lv_iconst (v := 0) hx hb dX7_begins_7 (by decide) ?_
  refine lv_istore_n (lv' := [(2, .int (0 : Int32)), (1, .int y6), (0, .ref o)]) hx hb dX7_begins_8 rfl hl (by decide) rfl (fun ls hl => ?_)
  obtain ⟨n9, h⟩ := h
  exact b_X7_begins_L9 y6 X ret  n9 F A (0 : Int32) _ _ _ h hP hD hS (lv_sub hl [2, 1, 0] rfl)
theorem dX7_isIn_0 : decode cX7_isIn 0 = .ok (.lload_n 0, 1) := by decide +kernel
theorem dX7_isIn_1 : decode cX7_isIn 1 = .ok (.lload_n 2, 1) := by decide +kernel
theorem dX7_isIn_2 : decode cX7_isIn 2 = .ok (.lcmp, 1) := by decide +kernel
theorem dX7_isIn_3 : decode cX7_isIn 3 = .ok (.ifCond .lt 14, 3) := by decide +kernel
theorem dX7_isIn_6 : decode cX7_isIn 6 = .ok (.lload_n 0, 1) := by decide +kernel
theorem dX7_isIn_7 : decode cX7_isIn 7 = .ok (.lload 4, 2) := by decide +kernel
theorem dX7_isIn_9 : decode cX7_isIn 9 = .ok (.lcmp, 1) := by decide +kernel
theorem dX7_isIn_10 : decode cX7_isIn 10 = .ok (.ifCond .gt 7, 3) := by decide +kernel
theorem dX7_isIn_13 : decode cX7_isIn 13 = .ok (.iconst 1, 1) := by decide +kernel
theorem dX7_isIn_14 : decode cX7_isIn 14 = .ok (.goto 4, 3) := by decide +kernel
theorem dX7_isIn_17 : decode cX7_isIn 17 = .ok (.iconst 0, 1) := by decide +kernel
theorem dX7_isIn_18 : decode cX7_isIn 18 = .ok (.ireturn, 1) := by decide +kernel
def p_X7_isIn (x0 : Int64) (x2 : Int64) (x4 : Int64) (K : Int32 → Prop) : Prop := (((lg_cmp x0 x2) < 0 → (K (0 : Int32))) ∧ (¬ (lg_cmp x0 x2) < 0 → ((0 < (lg_cmp x0 x4) → (K (0 : Int32))) ∧ (¬ 0 < (lg_cmp x0 x4) → (K (1 : Int32))))))
set_option maxHeartbeats 4000000 in
set_option maxRecDepth 100000 in
theorem w_X7_isIn (l : Launch) (D : va_G) (cI cZ cR : ClassId) (adK adV : Nat → Nat) (sz : Nat)  (x0 : Int64) (x2 : Int64) (x4 : Int64) (K : Int32 → Prop) (h : p_X7_isIn x0 x2 x4 K) : MI l D cI cZ cR adK adV yX7_isIn cX7_isIn 6 (some .boolean) (rmN 0 0) [.long x0, .long x2, .long x4] ([] : va_W) sz (fun (r : Int32) (u : Unit) => K r) (fun (u : Unit) => ([] : va_W)) := by
  refine M_z (by decide +kernel) (Nat.le_of_ble_eq_true rfl) ?_
  intro p e s m args below meth c Q A9 ls X ret hP hD hS hl
  obtain ⟨hx, hb, hml, ht, hown, hK, hA, hE⟩ := id X
  have hl : lv_has ls 6 [(0, .long x0), (2, .long x2), (4, .long x4)] := hl
  unfold p_X7_isIn at h
  refine lv_lload_n hx hb dX7_isIn_0 rfl (lv_at hl 0 rfl) ?_
  refine lv_lload_n hx hb dX7_isIn_1 rfl (lv_at hl 1 rfl) ?_
  refine W.lcmp hx hb dX7_isIn_2 ?_
  refine lv_if_lt (tgt := 17) hx hb dX7_isIn_3 (by decide) (fun c3 => ?_) (fun c3 => ?_)
  · replace h := h.1 c3
    refine lv_iconst (v := 0) hx hb dX7_isIn_17 (by decide) ?_
    exact ret _ () _ _ _ _ dX7_isIn_18 bo_0 h hP hD hS
  · replace h := h.2 c3
    refine lv_lload_n hx hb dX7_isIn_6 rfl (lv_at hl 0 rfl) ?_
    refine lv_lload hx hb dX7_isIn_7 (lv_at hl 2 rfl) ?_
    refine W.lcmp hx hb dX7_isIn_9 ?_
    refine lv_if_gt (tgt := 17) hx hb dX7_isIn_10 (by decide) (fun c10 => ?_) (fun c10 => ?_)
    · replace h := h.1 c10
      refine lv_iconst (v := 0) hx hb dX7_isIn_17 (by decide) ?_
      exact ret _ () _ _ _ _ dX7_isIn_18 bo_0 h hP hD hS
    · replace h := h.2 c10
      refine lv_iconst (v := 1) hx hb dX7_isIn_13 (by decide) ?_
      refine lv_goto (tgt := 18) hx hb dX7_isIn_14 (by decide) ?_
      exact ret _ () _ _ _ _ dX7_isIn_18 bo_1 h hP hD hS
theorem dX7_isPlace_0 : decode cX7_isPlace 0 = .ok (.iload_n 0, 1) := by decide +kernel
theorem dX7_isPlace_1 : decode cX7_isPlace 1 = .ok (.ifCond .lt 13, 3) := by decide +kernel
theorem dX7_isPlace_4 : decode cX7_isPlace 4 = .ok (.iload_n 0, 1) := by decide +kernel
theorem dX7_isPlace_5 : decode cX7_isPlace 5 = .ok (.bipush 6, 2) := by decide +kernel
theorem dX7_isPlace_7 : decode cX7_isPlace 7 = .ok (.if_icmp .ge 7, 3) := by decide +kernel
theorem dX7_isPlace_10 : decode cX7_isPlace 10 = .ok (.iconst 1, 1) := by decide +kernel
theorem dX7_isPlace_11 : decode cX7_isPlace 11 = .ok (.goto 4, 3) := by decide +kernel
theorem dX7_isPlace_14 : decode cX7_isPlace 14 = .ok (.iconst 0, 1) := by decide +kernel
theorem dX7_isPlace_15 : decode cX7_isPlace 15 = .ok (.ireturn, 1) := by decide +kernel
def p_X7_isPlace (x0 : Int32) (K : Int32 → Prop) : Prop := ((x0 < 0 → (K (0 : Int32))) ∧ (¬ x0 < 0 → (((6 : Int32) ≤ x0 → (K (0 : Int32))) ∧ (¬ (6 : Int32) ≤ x0 → (K (1 : Int32))))))
set_option maxHeartbeats 4000000 in
set_option maxRecDepth 100000 in
theorem w_X7_isPlace (l : Launch) (D : va_G) (cI cZ cR : ClassId) (adK adV : Nat → Nat) (sz : Nat)  (x0 : Int32) (K : Int32 → Prop) (h : p_X7_isPlace x0 K) : MI l D cI cZ cR adK adV yX7_isPlace cX7_isPlace 1 (some .boolean) (rmN 0 0) [.int x0] ([] : va_W) sz (fun (r : Int32) (u : Unit) => K r) (fun (u : Unit) => ([] : va_W)) := by
  refine M_z (by decide +kernel) (Nat.le_of_ble_eq_true rfl) ?_
  intro p e s m args below meth c Q A9 ls X ret hP hD hS hl
  obtain ⟨hx, hb, hml, ht, hown, hK, hA, hE⟩ := id X
  have hl : lv_has ls 1 [(0, .int x0)] := hl
  unfold p_X7_isPlace at h
  refine lv_iload_n hx hb dX7_isPlace_0 rfl (lv_at hl 0 rfl) ?_
  refine lv_if_lt (tgt := 14) hx hb dX7_isPlace_1 (by decide) (fun c1 => ?_) (fun c1 => ?_)
  · replace h := h.1 c1
    refine lv_iconst (v := 0) hx hb dX7_isPlace_14 (by decide) ?_
    exact ret _ () _ _ _ _ dX7_isPlace_15 bo_0 h hP hD hS
  · replace h := h.2 c1
    refine lv_iload_n hx hb dX7_isPlace_4 rfl (lv_at hl 0 rfl) ?_
    refine lv_bipush (v := 6) hx hb dX7_isPlace_5 (by decide) ?_
    refine lv_icmp_ge (tgt := 14) hx hb dX7_isPlace_7 (by decide) (fun c7 => ?_) (fun c7 => ?_)
    · replace h := h.1 c7
      refine lv_iconst (v := 0) hx hb dX7_isPlace_14 (by decide) ?_
      exact ret _ () _ _ _ _ dX7_isPlace_15 bo_0 h hP hD hS
    · replace h := h.2 c7
      refine lv_iconst (v := 1) hx hb dX7_isPlace_10 (by decide) ?_
      refine lv_goto (tgt := 15) hx hb dX7_isPlace_11 (by decide) ?_
      exact ret _ () _ _ _ _ dX7_isPlace_15 bo_1 h hP hD hS
theorem dX7_isOne_0 : decode cX7_isOne 0 = .ok (.iload_n 1, 1) := by decide +kernel
theorem dX7_isOne_1 : decode cX7_isOne 1 = .ok (.ifCond .lt 17, 3) := by decide +kernel
theorem dX7_isOne_4 : decode cX7_isOne 4 = .ok (.iload_n 1, 1) := by decide +kernel
theorem dX7_isOne_5 : decode cX7_isOne 5 = .ok (.aload_n 0, 1) := by decide +kernel
theorem dX7_isOne_6 : decode cX7_isOne 6 = .ok (.getfield 7, 3) := by decide +kernel
theorem dX7_isOne_9 : decode cX7_isOne 9 = .ok (.iconst 0, 1) := by decide +kernel
theorem dX7_isOne_10 : decode cX7_isOne 10 = .ok (.iaload, 1) := by decide +kernel
theorem dX7_isOne_11 : decode cX7_isOne 11 = .ok (.if_icmp .ge 7, 3) := by decide +kernel
theorem dX7_isOne_14 : decode cX7_isOne 14 = .ok (.iconst 1, 1) := by decide +kernel
theorem dX7_isOne_15 : decode cX7_isOne 15 = .ok (.goto 4, 3) := by decide +kernel
theorem dX7_isOne_18 : decode cX7_isOne 18 = .ok (.iconst 0, 1) := by decide +kernel
theorem dX7_isOne_19 : decode cX7_isOne 19 = .ok (.ireturn, 1) := by decide +kernel
def p_X7_isOne (F : tF) (A : tA) (x1 : Int32) (K : Int32 → Prop) : Prop := ((x1 < 0 → (K (0 : Int32))) ∧ (¬ x1 < 0 → ((((A 0) 0) ≤ x1 → (K (0 : Int32))) ∧ (¬ ((A 0) 0) ≤ x1 → (K (1 : Int32))))))
set_option maxHeartbeats 4000000 in
set_option maxRecDepth 100000 in
theorem w_X7_isOne (l : Launch) (D : va_G) (cI cZ cR : ClassId) (adK adV : Nat → Nat) (sz : Nat) (o : Nat) (q : Nat → Nat) (F : tF) (A : tA) (x1 : Int32) (K : Int32 → Prop) (h : p_X7_isOne F A x1 K) : MI l D cI cZ cR adK adV yX7_isOne cX7_isOne 2 (some .boolean) (rmN 0 0) [.ref o, .int x1] (wX7 cI cZ o q F A : va_W) sz (fun (r : Int32) (u : Unit) => K r) (fun (u : Unit) => (wX7 cI cZ o q F A : va_W)) := by
  refine M_z (by decide +kernel) (Nat.le_of_ble_eq_true rfl) ?_
  intro p e s m args below meth c Q A9 ls X ret hP hD hS hl
  obtain ⟨hx, hb, hml, ht, hown, hK, hA, hE⟩ := id X
  have hl : lv_has ls 2 [(0, .ref o), (1, .int x1)] := hl
  unfold p_X7_isOne at h
  refine lv_iload_n hx hb dX7_isOne_0 rfl (lv_at hl 1 rfl) ?_
  refine lv_if_lt (tgt := 18) hx hb dX7_isOne_1 (by decide) (fun c1 => ?_) (fun c1 => ?_)
  · replace h := h.1 c1
    refine lv_iconst (v := 0) hx hb dX7_isOne_18 (by decide) ?_
    exact ret _ () _ _ _ _ dX7_isOne_19 bo_0 h hP hD hS
  · replace h := h.2 c1
    refine lv_iload_n hx hb dX7_isOne_4 rfl (lv_at hl 1 rfl) ?_
    refine lv_aload_n hx hb dX7_isOne_5 rfl (lv_at hl 0 rfl) ?_
    refine va_get (C := RX7) (T := TX7) (N := 28) (own := RX7) (v := .ref (q 0)) hx hb ht inlX7 hown hK hP 0 rfl rfl 0 (Nat.le_of_ble_eq_true rfl) (ht _ mw_5_7) (fun _ h9 => h9) rfl dX7_isOne_6 ?_
    refine lv_iconst (v := 0) hx hb dX7_isOne_9 (by decide) ?_
    refine g_iald (f := (A 0)) (k := 0) hx hb hK hP 1 0 rfl rfl (vp_in_lit rfl : vp_in (0 : Int32) 53) (by decide) dX7_isOne_10 ?_
    refine lv_icmp_ge (tgt := 18) hx hb dX7_isOne_11 (by decide) (fun c11 => ?_) (fun c11 => ?_)
    · replace h := h.1 c11
      refine lv_iconst (v := 0) hx hb dX7_isOne_18 (by decide) ?_
      exact ret _ () _ _ _ _ dX7_isOne_19 bo_0 h hP hD hS
    · replace h := h.2 c11
      refine lv_iconst (v := 1) hx hb dX7_isOne_14 (by decide) ?_
      refine lv_goto (tgt := 19) hx hb dX7_isOne_15 (by decide) ?_
      exact ret _ () _ _ _ _ dX7_isOne_19 bo_1 h hP hD hS
theorem dX7_its_0 : decode cX7_its 0 = .ok (.aload_n 0, 1) := by decide +kernel
theorem dX7_its_1 : decode cX7_its 1 = .ok (.getfield 7, 3) := by decide +kernel
theorem dX7_its_4 : decode cX7_its 4 = .ok (.bipush 21, 2) := by decide +kernel
theorem dX7_its_6 : decode cX7_its 6 = .ok (.iconst 4, 1) := by decide +kernel
theorem dX7_its_7 : decode cX7_its 7 = .ok (.iload_n 1, 1) := by decide +kernel
theorem dX7_its_8 : decode cX7_its 8 = .ok (.imul, 1) := by decide +kernel
theorem dX7_its_9 : decode cX7_its 9 = .ok (.iadd, 1) := by decide +kernel
theorem dX7_its_10 : decode cX7_its 10 = .ok (.iload_n 2, 1) := by decide +kernel
theorem dX7_its_11 : decode cX7_its 11 = .ok (.iadd, 1) := by decide +kernel
theorem dX7_its_12 : decode cX7_its 12 = .ok (.iaload, 1) := by decide +kernel
theorem dX7_its_13 : decode cX7_its 13 = .ok (.ireturn, 1) := by decide +kernel
def p_X7_its (F : tF) (A : tA) (x1 : Int32) (x2 : Int32) (K : Int32 → Prop) : Prop := (vp_in (((21 : Int32) + ((4 : Int32) * x1)) + x2) 53 ∧ (K ((A 0) ((((21 : Int32) + ((4 : Int32) * x1)) + x2)).toNatClampNeg)))
set_option maxHeartbeats 4000000 in
set_option maxRecDepth 100000 in
theorem w_X7_its (l : Launch) (D : va_G) (cI cZ cR : ClassId) (adK adV : Nat → Nat) (sz : Nat) (o : Nat) (q : Nat → Nat) (F : tF) (A : tA) (x1 : Int32) (x2 : Int32) (K : Int32 → Prop) (h : p_X7_its F A x1 x2 K) : MI l D cI cZ cR adK adV yX7_its cX7_its 3 (some .int) (rmN 0 0) [.ref o, .int x1, .int x2] (wX7 cI cZ o q F A : va_W) sz (fun (r : Int32) (u : Unit) => K r) (fun (u : Unit) => (wX7 cI cZ o q F A : va_W)) := by
  refine M_i (by decide +kernel) (Nat.le_of_ble_eq_true rfl) ?_
  intro p e s m args below meth c Q A9 ls X ret hP hD hS hl
  obtain ⟨hx, hb, hml, ht, hown, hK, hA, hE⟩ := id X
  have hl : lv_has ls 3 [(0, .ref o), (1, .int x1), (2, .int x2)] := hl
  unfold p_X7_its at h
  refine lv_aload_n hx hb dX7_its_0 rfl (lv_at hl 0 rfl) ?_
  refine va_get (C := RX7) (T := TX7) (N := 28) (own := RX7) (v := .ref (q 0)) hx hb ht inlX7 hown hK hP 0 rfl rfl 0 (Nat.le_of_ble_eq_true rfl) (ht _ mw_5_7) (fun _ h9 => h9) rfl dX7_its_1 ?_
  refine lv_bipush (v := 21) hx hb dX7_its_4 (by decide) ?_
  refine lv_iconst (v := 4) hx hb dX7_its_6 (by decide) ?_
  refine lv_iload_n hx hb dX7_its_7 rfl (lv_at hl 1 rfl) ?_
  refine lv_imul hx hb dX7_its_8 ?_
  refine lv_iadd hx hb dX7_its_9 ?_
  refine lv_iload_n hx hb dX7_its_10 rfl (lv_at hl 2 rfl) ?_
  refine lv_iadd hx hb dX7_its_11 ?_
  obtain ⟨hi12, h⟩ := h
  refine g_iald (f := (A 0)) (k := ((((21 : Int32) + ((4 : Int32) * x1)) + x2)).toNatClampNeg) hx hb hK hP 1 0 rfl rfl hi12 rfl dX7_its_12 ?_
  exact ret _ () _ _ _ _ dX7_its_13 h hP hD hS
theorem dX7_becomes_0 : decode cX7_becomes 0 = .ok (.aload_n 0, 1) := by decide +kernel
theorem dX7_becomes_1 : decode cX7_becomes 1 = .ok (.getfield 7, 3) := by decide +kernel
theorem dX7_becomes_4 : decode cX7_becomes 4 = .ok (.iload_n 1, 1) := by decide +kernel
theorem dX7_becomes_5 : decode cX7_becomes 5 = .ok (.iaload, 1) := by decide +kernel
theorem dX7_becomes_6 : decode cX7_becomes 6 = .ok (.istore_n 3, 1) := by decide +kernel
theorem dX7_becomes_7 : decode cX7_becomes 7 = .ok (.aload_n 0, 1) := by decide +kernel
theorem dX7_becomes_8 : decode cX7_becomes 8 = .ok (.getfield 7, 3) := by decide +kernel
theorem dX7_becomes_11 : decode cX7_becomes 11 = .ok (.iload_n 1, 1) := by decide +kernel
theorem dX7_becomes_12 : decode cX7_becomes 12 = .ok (.iload_n 2, 1) := by decide +kernel
theorem dX7_becomes_13 : decode cX7_becomes 13 = .ok (.iastore, 1) := by decide +kernel
theorem dX7_becomes_14 : decode cX7_becomes 14 = .ok (.iload_n 3, 1) := by decide +kernel
theorem dX7_becomes_15 : decode cX7_becomes 15 = .ok (.ireturn, 1) := by decide +kernel
def p_X7_becomes (F : tF) (A : tA) (x1 : Int32) (x2 : Int32) (K : Int32 → tF → tA → Prop) : Prop := (vp_in x1 53 ∧ (∀ y6 : Int32, y6 = ((A 0) (x1).toNatClampNeg) → (vp_in x1 53 ∧ (∀ f_13 : tF, f_13 = (upd (A 0) (x1).toNatClampNeg x2) → (K y6 F (va_up A 0 f_13))))))
set_option maxHeartbeats 4000000 in
set_option maxRecDepth 100000 in
theorem w_X7_becomes (l : Launch) (D : va_G) (cI cZ cR : ClassId) (adK adV : Nat → Nat) (sz : Nat) (o : Nat) (q : Nat → Nat) (F : tF) (A : tA) (x1 : Int32) (x2 : Int32) (K : Int32 → tF → tA → Prop) (h : p_X7_becomes F A x1 x2 K) : MI l D cI cZ cR adK adV yX7_becomes cX7_becomes 4 (some .int) (rmN 0 0) [.ref o, .int x1, .int x2] (wX7 cI cZ o q F A : va_W) sz (fun (r : Int32) (u : (tF × tA)) => K r u.1 u.2) (fun (u : (tF × tA)) => (wX7 cI cZ o q u.1 u.2 : va_W)) := by
  refine M_i (by decide +kernel) (Nat.le_of_ble_eq_true rfl) ?_
  intro p e s m args below meth c Q A9 ls X ret hP hD hS hl
  obtain ⟨hx, hb, hml, ht, hown, hK, hA, hE⟩ := id X
  have hl : lv_has ls 4 [(0, .ref o), (1, .int x1), (2, .int x2)] := hl
  unfold p_X7_becomes at h
  refine lv_aload_n hx hb dX7_becomes_0 rfl (lv_at hl 0 rfl) ?_
  refine va_get (C := RX7) (T := TX7) (N := 28) (own := RX7) (v := .ref (q 0)) hx hb ht inlX7 hown hK hP 0 rfl rfl 0 (Nat.le_of_ble_eq_true rfl) (ht _ mw_5_7) (fun _ h9 => h9) rfl dX7_becomes_1 ?_
  refine lv_iload_n hx hb dX7_becomes_4 rfl (lv_at hl 1 rfl) ?_
  obtain ⟨hi5, h⟩ := h
  refine g_iald (f := (A 0)) (k := (x1).toNatClampNeg) hx hb hK hP 1 0 rfl rfl hi5 rfl dX7_becomes_5 ?_
  refine lv_topi (fun y6 ey6 => ?_)
  replace h := h y6 ey6
  refine lv_istore_n (lv' := [(3, .int y6), (0, .ref o), (1, .int x1), (2, .int x2)]) hx hb dX7_becomes_6 rfl hl (by decide) rfl (fun ls hl => ?_)
  refine lv_aload_n hx hb dX7_becomes_7 rfl (lv_at hl 1 rfl) ?_
  refine va_get (C := RX7) (T := TX7) (N := 28) (own := RX7) (v := .ref (q 0)) hx hb ht inlX7 hown hK hP 0 rfl rfl 0 (Nat.le_of_ble_eq_true rfl) (ht _ mw_5_7) (fun _ h9 => h9) rfl dX7_becomes_8 ?_
  refine lv_iload_n hx hb dX7_becomes_11 rfl (lv_at hl 2 rfl) ?_
  refine lv_iload_n hx hb dX7_becomes_12 rfl (lv_at hl 3 rfl) ?_
  obtain ⟨hi13, h⟩ := h
  obtain ⟨f_13, ef_13⟩ : ∃ z : tF, z = (upd (A 0) (x1).toNatClampNeg x2) := ⟨_, rfl⟩
  replace h := h f_13 ef_13
  refine g_iast (f := (A 0)) (k := (x1).toNatClampNeg) hx hb hK hP hD hS 1 0 rfl rfl hi13 rfl ef_13 dX7_becomes_13 (fun H locs hP hD hS => ?_)
  have hP : va_P D vwCl (wX7 cI cZ o q F (va_up A 0 f_13) : va_W) H := hP
  have hD : va_D A9 (wX7 cI cZ o q F (va_up A 0 f_13) : va_W) := hD
  refine lv_iload_n hx hb dX7_becomes_14 rfl (lv_at hl 0 rfl) ?_
  exact ret _ (F, (va_up A 0 f_13)) _ _ _ _ dX7_becomes_15 h hP hD hS
theorem dX7_copyRow_0 : decode cX7_copyRow 0 = .ok (.iconst 0, 1) := by decide +kernel
theorem dX7_copyRow_1 : decode cX7_copyRow 1 = .ok (.istore_n 2, 1) := by decide +kernel
theorem dX7_copyRow_2 : decode cX7_copyRow 2 = .ok (.iload_n 2, 1) := by decide +kernel
theorem dX7_copyRow_3 : decode cX7_copyRow 3 = .ok (.bipush 53, 2) := by decide +kernel
theorem dX7_copyRow_5 : decode cX7_copyRow 5 = .ok (.if_icmp .ge 15, 3) := by decide +kernel
theorem dX7_copyRow_8 : decode cX7_copyRow 8 = .ok (.aload_n 1, 1) := by decide +kernel
theorem dX7_copyRow_9 : decode cX7_copyRow 9 = .ok (.iload_n 2, 1) := by decide +kernel
theorem dX7_copyRow_10 : decode cX7_copyRow 10 = .ok (.aload_n 0, 1) := by decide +kernel
theorem dX7_copyRow_11 : decode cX7_copyRow 11 = .ok (.iload_n 2, 1) := by decide +kernel
theorem dX7_copyRow_12 : decode cX7_copyRow 12 = .ok (.iaload, 1) := by decide +kernel
theorem dX7_copyRow_13 : decode cX7_copyRow 13 = .ok (.iastore, 1) := by decide +kernel
theorem dX7_copyRow_14 : decode cX7_copyRow 14 = .ok (.iinc 2 1, 3) := by decide +kernel
theorem dX7_copyRow_17 : decode cX7_copyRow 17 = .ok (.goto (-15), 3) := by decide +kernel
theorem dX7_copyRow_20 : decode cX7_copyRow 20 = .ok (.return_, 1) := by decide +kernel
def p_X7_copyRow_L2 (n0 : Nat) (n1 : Nat) (f0 : tF) (K : tF → Prop) : Nat → tF → Int32 → Prop
  | 0, _, _ => False
  | n2 + 1, f1, x2 => (((53 : Int32) ≤ x2 → (K f1)) ∧ (¬ (53 : Int32) ≤ x2 → (vp_in x2 n0 ∧ (vp_in x2 n1 ∧ (∀ f_13 : tF, f_13 = (upd f1 (x2).toNatClampNeg (f0 (x2).toNatClampNeg)) → (∀ y14 : Int32, y14 = (x2 + (1 : Int32)) → ((p_X7_copyRow_L2 n0 n1 f0 K n2) f_13 y14)))))))
set_option maxHeartbeats 4000000 in
set_option maxRecDepth 100000 in
theorem b_X7_copyRow_L2 {p : Program} {l : Launch} {e : Env} {s : State} {m : MethodId} {args : Array Value} {below : List Frame} {meth : Method} {c : Code} {Q : State → Prop} {D : va_G} {cI cZ cR : ClassId} {adK adV : Nat → Nat} {A9 : Nat → Prop} {a0 : Nat} {a1 : Nat} {K : tF → Prop}  (n0 : Nat) (n1 : Nat) (f0 : tF) (X : CX p s m args c yX7_copyRow.cls cX7_copyRow 3 D cI cZ cR adK adV A9) (ret : RTv p l e (rmN 0 0) s m args below meth c Q cX7_copyRow D A9 (fun (u : tF) => K u) (fun (u : tF) => (wI cI a0 n0 f0 ++ wI cI a1 n1 u : va_W)))   : ∀ (n : Nat) (f1 : tF) (x2 : Int32) (H : Heap) (locs : List Loc) (ls : Array Slot), p_X7_copyRow_L2 n0 n1 f0 K n f1 x2 → va_P D vwCl (wI cI a0 n0 f0 ++ wI cI a1 n1 f1 : va_W) H → va_D A9 (wI cI a0 n0 f0 ++ wI cI a1 n1 f1 : va_W) → va_S A9 s.heap H locs → lv_has ls 3 [(0, .ref a0), (1, .ref a1), (2, .int x2)] → W p l e (rmN 0 0) s m args below meth c H locs 0 0 Q (F0 m 2 ls []) := by
  obtain ⟨hx, hb, hml, ht, hown, hK, hA, hE⟩ := id X
  intro n
  induction n with
  | zero => intro f1 x2 H locs ls h; exact False.elim h
  | succ n2 ih =>
    intro f1 x2 H locs ls h hP hD hS hl
    rw [p_X7_copyRow_L2] at h
    refine lv_iload_n hx hb dX7_copyRow_2 rfl (lv_at hl 2 rfl) ?_
    refine lv_bipush (v := 53) hx hb dX7_copyRow_3 (by decide) ?_
    refine lv_icmp_ge (tgt := 20) hx hb dX7_copyRow_5 (by decide) (fun c5 => ?_) (fun c5 => ?_)
    · replace h := h.1 c5
      exact ret f1 _ _ _ _ dX7_copyRow_20 h hP hD hS
    · replace h := h.2 c5
      refine lv_aload_n hx hb dX7_copyRow_8 rfl (lv_at hl 1 rfl) ?_
      refine lv_iload_n hx hb dX7_copyRow_9 rfl (lv_at hl 2 rfl) ?_
      refine lv_aload_n hx hb dX7_copyRow_10 rfl (lv_at hl 0 rfl) ?_
      refine lv_iload_n hx hb dX7_copyRow_11 rfl (lv_at hl 2 rfl) ?_
      obtain ⟨hi12, h⟩ := h
      refine g_iald (f := f0) (k := (x2).toNatClampNeg) hx hb hK hP 0 0 rfl rfl hi12 rfl dX7_copyRow_12 ?_
      obtain ⟨hi13, h⟩ := h
      obtain ⟨f_13, ef_13⟩ : ∃ z : tF, z = (upd f1 (x2).toNatClampNeg (f0 (x2).toNatClampNeg)) := ⟨_, rfl⟩
      replace h := h f_13 ef_13
      refine g_iast (f := f1) (k := (x2).toNatClampNeg) hx hb hK hP hD hS 1 0 rfl rfl hi13 rfl ef_13 dX7_copyRow_13 (fun H locs hP hD hS => ?_)
      have hP : va_P D vwCl (wI cI a0 n0 f0 ++ wI cI a1 n1 f_13 : va_W) H := hP
      have hD : va_D A9 (wI cI a0 n0 f0 ++ wI cI a1 n1 f_13 : va_W) := hD
      obtain ⟨y14, ey14⟩ : ∃ y : Int32, y = (x2 + (1 : Int32)) := ⟨_, rfl⟩
      replace h := h y14 ey14
      refine lv_iinc (v := y14) (lv' := [(2, .int y14), (0, .ref a0), (1, .ref a1)]) hx hb dX7_copyRow_14 hl (k := 2) rfl (by rw [ey14]; rfl) (by decide) rfl (fun ls hl => ?_)
      refine lv_goto (tgt := 2) hx hb dX7_copyRow_17 (by decide) ?_
      exact ih f_13 y14 _ _ _ h hP hD hS (lv_sub hl [1, 2, 0] rfl)
def p_X7_copyRow (n0 : Nat) (f0 : tF) (n1 : Nat) (f1 : tF) (K : tF → Prop) : Prop := (∃ n2, p_X7_copyRow_L2 n0 n1 f0 K n2 f1 (0 : Int32))
set_option maxHeartbeats 4000000 in
set_option maxRecDepth 100000 in
theorem w_X7_copyRow (l : Launch) (D : va_G) (cI cZ cR : ClassId) (adK adV : Nat → Nat) (sz : Nat) (a0 : Nat) (a1 : Nat) (n0 : Nat) (f0 : tF) (n1 : Nat) (f1 : tF) (K : tF → Prop) (h : p_X7_copyRow n0 f0 n1 f1 K) : MV l D cI cZ cR adK adV yX7_copyRow cX7_copyRow 3 none (rmN 0 0) [.ref a0, .ref a1] (wI cI a0 n0 f0 ++ wI cI a1 n1 f1 : va_W) sz (fun (u : tF) => K u) (fun (u : tF) => (wI cI a0 n0 f0 ++ wI cI a1 n1 u : va_W)) := by
  refine M_v (by decide +kernel) (Nat.le_of_ble_eq_true rfl) ?_
  intro p e s m args below meth c Q A9 ls X ret hP hD hS hl
  obtain ⟨hx, hb, hml, ht, hown, hK, hA, hE⟩ := id X
  have hl : lv_has ls 3 [(0, .ref a0), (1, .ref a1)] := hl
  unfold p_X7_copyRow at h
  refine lv_iconst (v := 0) hx hb dX7_copyRow_0 (by decide) ?_
  refine lv_istore_n (lv' := [(2, .int (0 : Int32)), (0, .ref a0), (1, .ref a1)]) hx hb dX7_copyRow_1 rfl hl (by decide) rfl (fun ls hl => ?_)
  obtain ⟨n2, h⟩ := h
  exact b_X7_copyRow_L2 n0 n1 f0 X ret  n2 f1 (0 : Int32) _ _ _ h hP hD hS (lv_sub hl [1, 2, 0] rfl)
theorem dX7_apart_0 : decode cX7_apart 0 = .ok (.iload_n 0, 1) := by decide +kernel
theorem dX7_apart_1 : decode cX7_apart 1 = .ok (.iload_n 1, 1) := by decide +kernel
theorem dX7_apart_2 : decode cX7_apart 2 = .ok (.if_icmp .ge 9, 3) := by decide +kernel
theorem dX7_apart_5 : decode cX7_apart 5 = .ok (.iload_n 1, 1) := by decide +kernel
theorem dX7_apart_6 : decode cX7_apart 6 = .ok (.iload_n 0, 1) := by decide +kernel
theorem dX7_apart_7 : decode cX7_apart 7 = .ok (.isub, 1) := by decide +kernel
theorem dX7_apart_8 : decode cX7_apart 8 = .ok (.goto 6, 3) := by decide +kernel
theorem dX7_apart_11 : decode cX7_apart 11 = .ok (.iload_n 0, 1) := by decide +kernel
theorem dX7_apart_12 : decode cX7_apart 12 = .ok (.iload_n 1, 1) := by decide +kernel
theorem dX7_apart_13 : decode cX7_apart 13 = .ok (.isub, 1) := by decide +kernel
theorem dX7_apart_14 : decode cX7_apart 14 = .ok (.ireturn, 1) := by decide +kernel
def p_X7_apart (x0 : Int32) (x1 : Int32) (K : Int32 → Prop) : Prop := ((x1 ≤ x0 → (K (x0 - x1))) ∧ (¬ x1 ≤ x0 → (K (x1 - x0))))
set_option maxHeartbeats 4000000 in
set_option maxRecDepth 100000 in
theorem w_X7_apart (l : Launch) (D : va_G) (cI cZ cR : ClassId) (adK adV : Nat → Nat) (sz : Nat)  (x0 : Int32) (x1 : Int32) (K : Int32 → Prop) (h : p_X7_apart x0 x1 K) : MI l D cI cZ cR adK adV yX7_apart cX7_apart 2 (some .int) (rmN 0 0) [.int x0, .int x1] ([] : va_W) sz (fun (r : Int32) (u : Unit) => K r) (fun (u : Unit) => ([] : va_W)) := by
  refine M_i (by decide +kernel) (Nat.le_of_ble_eq_true rfl) ?_
  intro p e s m args below meth c Q A9 ls X ret hP hD hS hl
  obtain ⟨hx, hb, hml, ht, hown, hK, hA, hE⟩ := id X
  have hl : lv_has ls 2 [(0, .int x0), (1, .int x1)] := hl
  unfold p_X7_apart at h
  refine lv_iload_n hx hb dX7_apart_0 rfl (lv_at hl 0 rfl) ?_
  refine lv_iload_n hx hb dX7_apart_1 rfl (lv_at hl 1 rfl) ?_
  refine lv_icmp_ge (tgt := 11) hx hb dX7_apart_2 (by decide) (fun c2 => ?_) (fun c2 => ?_)
  · replace h := h.1 c2
    refine lv_iload_n hx hb dX7_apart_11 rfl (lv_at hl 0 rfl) ?_
    refine lv_iload_n hx hb dX7_apart_12 rfl (lv_at hl 1 rfl) ?_
    refine lv_isub hx hb dX7_apart_13 ?_
    exact ret _ () _ _ _ _ dX7_apart_14 h hP hD hS
  · replace h := h.2 c2
    refine lv_iload_n hx hb dX7_apart_5 rfl (lv_at hl 1 rfl) ?_
    refine lv_iload_n hx hb dX7_apart_6 rfl (lv_at hl 0 rfl) ?_
    refine lv_isub hx hb dX7_apart_7 ?_
    refine lv_goto (tgt := 14) hx hb dX7_apart_8 (by decide) ?_
    exact ret _ () _ _ _ _ dX7_apart_14 h hP hD hS
theorem dX7_within_0 : decode cX7_within 0 = .ok (.iload_n 0, 1) := by decide +kernel
theorem dX7_within_1 : decode cX7_within 1 = .ok (.ifCond .ge 7, 3) := by decide +kernel
theorem dX7_within_4 : decode cX7_within 4 = .ok (.iconst 0, 1) := by decide +kernel
theorem dX7_within_5 : decode cX7_within 5 = .ok (.goto 15, 3) := by decide +kernel
theorem dX7_within_8 : decode cX7_within 8 = .ok (.iload_n 0, 1) := by decide +kernel
theorem dX7_within_9 : decode cX7_within 9 = .ok (.bipush 9, 2) := by decide +kernel
theorem dX7_within_11 : decode cX7_within 11 = .ok (.if_icmp .le 8, 3) := by decide +kernel
theorem dX7_within_14 : decode cX7_within 14 = .ok (.bipush 9, 2) := by decide +kernel
theorem dX7_within_16 : decode cX7_within 16 = .ok (.goto 4, 3) := by decide +kernel
theorem dX7_within_19 : decode cX7_within 19 = .ok (.iload_n 0, 1) := by decide +kernel
theorem dX7_within_20 : decode cX7_within 20 = .ok (.ireturn, 1) := by decide +kernel
def p_X7_within (x0 : Int32) (K : Int32 → Prop) : Prop := ((0 ≤ x0 → ((x0 ≤ (9 : Int32) → (K x0)) ∧ (¬ x0 ≤ (9 : Int32) → (K (9 : Int32))))) ∧ (¬ 0 ≤ x0 → (K (0 : Int32))))
set_option maxHeartbeats 4000000 in
set_option maxRecDepth 100000 in
theorem w_X7_within (l : Launch) (D : va_G) (cI cZ cR : ClassId) (adK adV : Nat → Nat) (sz : Nat)  (x0 : Int32) (K : Int32 → Prop) (h : p_X7_within x0 K) : MI l D cI cZ cR adK adV yX7_within cX7_within 1 (some .int) (rmN 0 0) [.int x0] ([] : va_W) sz (fun (r : Int32) (u : Unit) => K r) (fun (u : Unit) => ([] : va_W)) := by
  refine M_i (by decide +kernel) (Nat.le_of_ble_eq_true rfl) ?_
  intro p e s m args below meth c Q A9 ls X ret hP hD hS hl
  obtain ⟨hx, hb, hml, ht, hown, hK, hA, hE⟩ := id X
  have hl : lv_has ls 1 [(0, .int x0)] := hl
  unfold p_X7_within at h
  refine lv_iload_n hx hb dX7_within_0 rfl (lv_at hl 0 rfl) ?_
  refine lv_if_ge (tgt := 8) hx hb dX7_within_1 (by decide) (fun c1 => ?_) (fun c1 => ?_)
  · replace h := h.1 c1
    refine lv_iload_n hx hb dX7_within_8 rfl (lv_at hl 0 rfl) ?_
    refine lv_bipush (v := 9) hx hb dX7_within_9 (by decide) ?_
    refine lv_icmp_le (tgt := 19) hx hb dX7_within_11 (by decide) (fun c11 => ?_) (fun c11 => ?_)
    · replace h := h.1 c11
      refine lv_iload_n hx hb dX7_within_19 rfl (lv_at hl 0 rfl) ?_
      exact ret _ () _ _ _ _ dX7_within_20 h hP hD hS
    · replace h := h.2 c11
      refine lv_bipush (v := 9) hx hb dX7_within_14 (by decide) ?_
      refine lv_goto (tgt := 20) hx hb dX7_within_16 (by decide) ?_
      exact ret _ () _ _ _ _ dX7_within_20 h hP hD hS
  · replace h := h.2 c1
    refine lv_iconst (v := 0) hx hb dX7_within_4 (by decide) ?_
    refine lv_goto (tgt := 20) hx hb dX7_within_5 (by decide) ?_
    exact ret _ () _ _ _ _ dX7_within_20 h hP hD hS
theorem dX7_size_0 : decode cX7_size 0 = .ok (.iconst 0, 1) := by decide +kernel
theorem dX7_size_1 : decode cX7_size 1 = .ok (.istore_n 1, 1) := by decide +kernel
theorem dX7_size_2 : decode cX7_size 2 = .ok (.iload_n 0, 1) := by decide +kernel
theorem dX7_size_3 : decode cX7_size 3 = .ok (.istore_n 2, 1) := by decide +kernel
theorem dX7_size_4 : decode cX7_size 4 = .ok (.iload_n 2, 1) := by decide +kernel
theorem dX7_size_5 : decode cX7_size 5 = .ok (.ifCond .eq 15, 3) := by decide +kernel
theorem dX7_size_8 : decode cX7_size 8 = .ok (.iinc 1 1, 3) := by decide +kernel
theorem dX7_size_11 : decode cX7_size 11 = .ok (.iload_n 2, 1) := by decide +kernel
theorem dX7_size_12 : decode cX7_size 12 = .ok (.iload_n 2, 1) := by decide +kernel
theorem dX7_size_13 : decode cX7_size 13 = .ok (.iconst 1, 1) := by decide +kernel
theorem dX7_size_14 : decode cX7_size 14 = .ok (.isub, 1) := by decide +kernel
theorem dX7_size_15 : decode cX7_size 15 = .ok (.iand, 1) := by decide +kernel
theorem dX7_size_16 : decode cX7_size 16 = .ok (.istore_n 2, 1) := by decide +kernel
theorem dX7_size_17 : decode cX7_size 17 = .ok (.goto (-13), 3) := by decide +kernel
theorem dX7_size_20 : decode cX7_size 20 = .ok (.iload_n 1, 1) := by decide +kernel
theorem dX7_size_21 : decode cX7_size 21 = .ok (.ireturn, 1) := by decide +kernel
def p_X7_size_L4 (K : Int32 → Prop) : Nat → Int32 → Int32 → Prop
  | 0, _, _ => False
  | n4 + 1, x1, x2 => ((x2 = 0 → (K x1)) ∧ (¬ x2 = 0 → (∀ y8 : Int32, y8 = (x1 + (1 : Int32)) → (∀ y16 : Int32, y16 = (x2 &&& (x2 - (1 : Int32))) → ((p_X7_size_L4 K n4) y8 y16)))))
set_option maxHeartbeats 4000000 in
set_option maxRecDepth 100000 in
theorem b_X7_size_L4 {p : Program} {l : Launch} {e : Env} {s : State} {m : MethodId} {args : Array Value} {below : List Frame} {meth : Method} {c : Code} {Q : State → Prop} {D : va_G} {cI cZ cR : ClassId} {adK adV : Nat → Nat} {A9 : Nat → Prop}  {K : Int32 → Prop}   (X : CX p s m args c yX7_size.cls cX7_size 3 D cI cZ cR adK adV A9) (ret : RTi p l e (rmN 0 0) s m args below meth c Q cX7_size D A9 (fun (r : Int32) (u : Unit) => K r) (fun (u : Unit) => ([] : va_W)))   : ∀ (n : Nat) (x1 : Int32) (x2 : Int32) (H : Heap) (locs : List Loc) (ls : Array Slot), p_X7_size_L4 K n x1 x2 → va_P D vwCl ([] : va_W) H → va_D A9 ([] : va_W) → va_S A9 s.heap H locs → lv_has ls 3 [(1, .int x1), (2, .int x2)] → W p l e (rmN 0 0) s m args below meth c H locs 0 0 Q (F0 m 4 ls []) := by
  obtain ⟨hx, hb, hml, ht, hown, hK, hA, hE⟩ := id X
  intro n
  induction n with
  | zero => intro x1 x2 H locs ls h; exact False.elim h
  | succ n4 ih =>
    intro x1 x2 H locs ls h hP hD hS hl
    rw [p_X7_size_L4] at h
    refine lv_iload_n hx hb dX7_size_4 rfl (lv_at hl 1 rfl) ?_
    refine lv_if_eq (tgt := 20) hx hb dX7_size_5 (by decide) (fun c5 => ?_) (fun c5 => ?_)
    · replace h := h.1 c5
      refine lv_iload_n hx hb dX7_size_20 rfl (lv_at hl 0 rfl) ?_
      exact ret _ () _ _ _ _ dX7_size_21 h hP hD hS
    · replace h := h.2 c5
      obtain ⟨y8, ey8⟩ : ∃ y : Int32, y = (x1 + (1 : Int32)) := ⟨_, rfl⟩
      replace h := h y8 ey8
      refine lv_iinc (v := y8) (lv' := [(1, .int y8), (2, .int x2)]) hx hb dX7_size_8 hl (k := 0) rfl (by rw [ey8]; rfl) (by decide) rfl (fun ls hl => ?_)
      refine lv_iload_n hx hb dX7_size_11 rfl (lv_at hl 1 rfl) ?_
      refine lv_iload_n hx hb dX7_size_12 rfl (lv_at hl 1 rfl) ?_
      refine lv_iconst (v := 1) hx hb dX7_size_13 (by decide) ?_
      refine lv_isub hx hb dX7_size_14 ?_
      refine lv_iand hx hb dX7_size_15 ?_
      refine lv_topi (fun y16 ey16 => ?_)
      replace h := h y16 ey16
      refine lv_istore_n (lv' := [(2, .int y16), (1, .int y8)]) hx hb dX7_size_16 rfl hl (by decide) rfl (fun ls hl => ?_)
      refine lv_goto (tgt := 4) hx hb dX7_size_17 (by decide) ?_
      exact ih y8 y16 _ _ _ h hP hD hS (lv_sub hl [1, 0] rfl)
def p_X7_size (x0 : Int32) (K : Int32 → Prop) : Prop := (∃ n4, p_X7_size_L4 K n4 (0 : Int32) x0)
set_option maxHeartbeats 4000000 in
set_option maxRecDepth 100000 in
theorem w_X7_size (l : Launch) (D : va_G) (cI cZ cR : ClassId) (adK adV : Nat → Nat) (sz : Nat)  (x0 : Int32) (K : Int32 → Prop) (h : p_X7_size x0 K) : MI l D cI cZ cR adK adV yX7_size cX7_size 3 (some .int) (rmN 0 0) [.int x0] ([] : va_W) sz (fun (r : Int32) (u : Unit) => K r) (fun (u : Unit) => ([] : va_W)) := by
  refine M_i (by decide +kernel) (Nat.le_of_ble_eq_true rfl) ?_
  intro p e s m args below meth c Q A9 ls X ret hP hD hS hl
  obtain ⟨hx, hb, hml, ht, hown, hK, hA, hE⟩ := id X
  have hl : lv_has ls 3 [(0, .int x0)] := hl
  unfold p_X7_size at h
  refine lv_iconst (v := 0) hx hb dX7_size_0 (by decide) ?_
  refine lv_istore_n (lv' := [(1, .int (0 : Int32)), (0, .int x0)]) hx hb dX7_size_1 rfl hl (by decide) rfl (fun ls hl => ?_)
  refine lv_iload_n hx hb dX7_size_2 rfl (lv_at hl 1 rfl) ?_
  refine lv_istore_n (lv' := [(2, .int x0), (1, .int (0 : Int32)), (0, .int x0)]) hx hb dX7_size_3 rfl hl (by decide) rfl (fun ls hl => ?_)
  obtain ⟨n4, h⟩ := h
  exact b_X7_size_L4  X ret  n4 (0 : Int32) x0 _ _ _ h hP hD hS (lv_sub hl [1, 0] rfl)
theorem dX7_isUnder_0 : decode cX7_isUnder 0 = .ok (.iload_n 1, 1) := by decide +kernel
theorem dX7_isUnder_1 : decode cX7_isUnder 1 = .ok (.ifCond .eq 28, 3) := by decide +kernel
theorem dX7_isUnder_4 : decode cX7_isUnder 4 = .ok (.iload_n 0, 1) := by decide +kernel
theorem dX7_isUnder_5 : decode cX7_isUnder 5 = .ok (.iload_n 1, 1) := by decide +kernel
theorem dX7_isUnder_6 : decode cX7_isUnder 6 = .ok (.if_icmp .eq 23, 3) := by decide +kernel
theorem dX7_isUnder_9 : decode cX7_isUnder 9 = .ok (.iload_n 1, 1) := by decide +kernel
theorem dX7_isUnder_10 : decode cX7_isUnder 10 = .ok (.iconst 1, 1) := by decide +kernel
theorem dX7_isUnder_11 : decode cX7_isUnder 11 = .ok (.if_icmp .ne 8, 3) := by decide +kernel
theorem dX7_isUnder_14 : decode cX7_isUnder 14 = .ok (.iload_n 0, 1) := by decide +kernel
theorem dX7_isUnder_15 : decode cX7_isUnder 15 = .ok (.iconst 3, 1) := by decide +kernel
theorem dX7_isUnder_16 : decode cX7_isUnder 16 = .ok (.if_icmp .eq 13, 3) := by decide +kernel
theorem dX7_isUnder_19 : decode cX7_isUnder 19 = .ok (.iload_n 1, 1) := by decide +kernel
theorem dX7_isUnder_20 : decode cX7_isUnder 20 = .ok (.iconst 2, 1) := by decide +kernel
theorem dX7_isUnder_21 : decode cX7_isUnder 21 = .ok (.if_icmp .ne 12, 3) := by decide +kernel
theorem dX7_isUnder_24 : decode cX7_isUnder 24 = .ok (.iload_n 0, 1) := by decide +kernel
theorem dX7_isUnder_25 : decode cX7_isUnder 25 = .ok (.iconst 4, 1) := by decide +kernel
theorem dX7_isUnder_26 : decode cX7_isUnder 26 = .ok (.if_icmp .ne 7, 3) := by decide +kernel
theorem dX7_isUnder_29 : decode cX7_isUnder 29 = .ok (.iconst 1, 1) := by decide +kernel
theorem dX7_isUnder_30 : decode cX7_isUnder 30 = .ok (.goto 4, 3) := by decide +kernel
theorem dX7_isUnder_33 : decode cX7_isUnder 33 = .ok (.iconst 0, 1) := by decide +kernel
theorem dX7_isUnder_34 : decode cX7_isUnder 34 = .ok (.ireturn, 1) := by decide +kernel
def p_X7_isUnder_J29 (K : Int32 → Prop)  : Prop := (K (1 : Int32))
set_option maxHeartbeats 4000000 in
set_option maxRecDepth 100000 in
theorem b_X7_isUnder_J29 {p : Program} {l : Launch} {e : Env} {s : State} {m : MethodId} {args : Array Value} {below : List Frame} {meth : Method} {c : Code} {Q : State → Prop} {D : va_G} {cI cZ cR : ClassId} {adK adV : Nat → Nat} {A9 : Nat → Prop}  {K : Int32 → Prop}   (X : CX p s m args c yX7_isUnder.cls cX7_isUnder 2 D cI cZ cR adK adV A9) (ret : RTz p l e (rmN 0 0) s m args below meth c Q cX7_isUnder D A9 (fun (r : Int32) (u : Unit) => K r) (fun (u : Unit) => ([] : va_W)))  (H : Heap) (locs : List Loc) (ls : Array Slot) (h : p_X7_isUnder_J29 K) (hP : va_P D vwCl ([] : va_W) H) (hD : va_D A9 ([] : va_W)) (hS : va_S A9 s.heap H locs) (hl : lv_has ls 2 []) : W p l e (rmN 0 0) s m args below meth c H locs 0 0 Q (F0 m 29 ls []) := by
  obtain ⟨hx, hb, hml, ht, hown, hK, hA, hE⟩ := id X
  unfold p_X7_isUnder_J29 at h
  refine lv_iconst (v := 1) hx hb dX7_isUnder_29 (by decide) ?_
  refine lv_goto (tgt := 34) hx hb dX7_isUnder_30 (by decide) ?_
  exact ret _ () _ _ _ _ dX7_isUnder_34 bo_1 h hP hD hS
def p_X7_isUnder_J19 (K : Int32 → Prop) (x0 : Int32) (x1 : Int32) : Prop := ((¬ x1 = (2 : Int32) → (K (0 : Int32))) ∧ (x1 = (2 : Int32) → ((¬ x0 = (4 : Int32) → (K (0 : Int32))) ∧ (x0 = (4 : Int32) → (p_X7_isUnder_J29 K)))))
set_option maxHeartbeats 4000000 in
set_option maxRecDepth 100000 in
theorem b_X7_isUnder_J19 {p : Program} {l : Launch} {e : Env} {s : State} {m : MethodId} {args : Array Value} {below : List Frame} {meth : Method} {c : Code} {Q : State → Prop} {D : va_G} {cI cZ cR : ClassId} {adK adV : Nat → Nat} {A9 : Nat → Prop}  {K : Int32 → Prop}  (x0 : Int32) (x1 : Int32) (X : CX p s m args c yX7_isUnder.cls cX7_isUnder 2 D cI cZ cR adK adV A9) (ret : RTz p l e (rmN 0 0) s m args below meth c Q cX7_isUnder D A9 (fun (r : Int32) (u : Unit) => K r) (fun (u : Unit) => ([] : va_W)))  (H : Heap) (locs : List Loc) (ls : Array Slot) (h : p_X7_isUnder_J19 K x0 x1) (hP : va_P D vwCl ([] : va_W) H) (hD : va_D A9 ([] : va_W)) (hS : va_S A9 s.heap H locs) (hl : lv_has ls 2 [(0, .int x0), (1, .int x1)]) : W p l e (rmN 0 0) s m args below meth c H locs 0 0 Q (F0 m 19 ls []) := by
  obtain ⟨hx, hb, hml, ht, hown, hK, hA, hE⟩ := id X
  unfold p_X7_isUnder_J19 at h
  refine lv_iload_n hx hb dX7_isUnder_19 rfl (lv_at hl 1 rfl) ?_
  refine lv_iconst (v := 2) hx hb dX7_isUnder_20 (by decide) ?_
  refine lv_icmp_ne (tgt := 33) hx hb dX7_isUnder_21 (by decide) (fun c21 => ?_) (fun c21 => ?_)
  · replace h := h.1 c21
    refine lv_iconst (v := 0) hx hb dX7_isUnder_33 (by decide) ?_
    exact ret _ () _ _ _ _ dX7_isUnder_34 bo_0 h hP hD hS
  · replace h := h.2 c21
    refine lv_iload_n hx hb dX7_isUnder_24 rfl (lv_at hl 0 rfl) ?_
    refine lv_iconst (v := 4) hx hb dX7_isUnder_25 (by decide) ?_
    refine lv_icmp_ne (tgt := 33) hx hb dX7_isUnder_26 (by decide) (fun c26 => ?_) (fun c26 => ?_)
    · replace h := h.1 c26
      refine lv_iconst (v := 0) hx hb dX7_isUnder_33 (by decide) ?_
      exact ret _ () _ _ _ _ dX7_isUnder_34 bo_0 h hP hD hS
    · replace h := h.2 c26
      exact b_X7_isUnder_J29  X ret  _ _ _ h hP hD hS (lv_sub hl [] rfl)
def p_X7_isUnder (x0 : Int32) (x1 : Int32) (K : Int32 → Prop) : Prop := ((x1 = 0 → (p_X7_isUnder_J29 K)) ∧ (¬ x1 = 0 → ((x0 = x1 → (p_X7_isUnder_J29 K)) ∧ (¬ x0 = x1 → ((¬ x1 = (1 : Int32) → (p_X7_isUnder_J19 K x0 x1)) ∧ (x1 = (1 : Int32) → ((x0 = (3 : Int32) → (p_X7_isUnder_J29 K)) ∧ (¬ x0 = (3 : Int32) → (p_X7_isUnder_J19 K x0 x1)))))))))
set_option maxHeartbeats 4000000 in
set_option maxRecDepth 100000 in
theorem w_X7_isUnder (l : Launch) (D : va_G) (cI cZ cR : ClassId) (adK adV : Nat → Nat) (sz : Nat)  (x0 : Int32) (x1 : Int32) (K : Int32 → Prop) (h : p_X7_isUnder x0 x1 K) : MI l D cI cZ cR adK adV yX7_isUnder cX7_isUnder 2 (some .boolean) (rmN 0 0) [.int x0, .int x1] ([] : va_W) sz (fun (r : Int32) (u : Unit) => K r) (fun (u : Unit) => ([] : va_W)) := by
  refine M_z (by decide +kernel) (Nat.le_of_ble_eq_true rfl) ?_
  intro p e s m args below meth c Q A9 ls X ret hP hD hS hl
  obtain ⟨hx, hb, hml, ht, hown, hK, hA, hE⟩ := id X
  have hl : lv_has ls 2 [(0, .int x0), (1, .int x1)] := hl
  unfold p_X7_isUnder at h
  refine lv_iload_n hx hb dX7_isUnder_0 rfl (lv_at hl 1 rfl) ?_
  refine lv_if_eq (tgt := 29) hx hb dX7_isUnder_1 (by decide) (fun c1 => ?_) (fun c1 => ?_)
  · replace h := h.1 c1
    exact b_X7_isUnder_J29  X ret  _ _ _ h hP hD hS (lv_sub hl [] rfl)
  · replace h := h.2 c1
    refine lv_iload_n hx hb dX7_isUnder_4 rfl (lv_at hl 0 rfl) ?_
    refine lv_iload_n hx hb dX7_isUnder_5 rfl (lv_at hl 1 rfl) ?_
    refine lv_icmp_eq (tgt := 29) hx hb dX7_isUnder_6 (by decide) (fun c6 => ?_) (fun c6 => ?_)
    · replace h := h.1 c6
      exact b_X7_isUnder_J29  X ret  _ _ _ h hP hD hS (lv_sub hl [] rfl)
    · replace h := h.2 c6
      refine lv_iload_n hx hb dX7_isUnder_9 rfl (lv_at hl 1 rfl) ?_
      refine lv_iconst (v := 1) hx hb dX7_isUnder_10 (by decide) ?_
      refine lv_icmp_ne (tgt := 19) hx hb dX7_isUnder_11 (by decide) (fun c11 => ?_) (fun c11 => ?_)
      · replace h := h.1 c11
        exact b_X7_isUnder_J19 x0 x1 X ret  _ _ _ h hP hD hS (lv_sub hl [0, 1] rfl)
      · replace h := h.2 c11
        refine lv_iload_n hx hb dX7_isUnder_14 rfl (lv_at hl 0 rfl) ?_
        refine lv_iconst (v := 3) hx hb dX7_isUnder_15 (by decide) ?_
        refine lv_icmp_eq (tgt := 29) hx hb dX7_isUnder_16 (by decide) (fun c16 => ?_) (fun c16 => ?_)
        · replace h := h.1 c16
          exact b_X7_isUnder_J29  X ret  _ _ _ h hP hD hS (lv_sub hl [] rfl)
        · replace h := h.2 c16
          exact b_X7_isUnder_J19 x0 x1 X ret  _ _ _ h hP hD hS (lv_sub hl [0, 1] rfl)
theorem cal_X7_isIn : CalS yX7_isIn cX7_isIn 6 (some .boolean) 3 := ⟨mw_6_21, mw_1_5, mw_6_20, ⟨by decide +kernel, by decide +kernel, by decide +kernel⟩⟩
theorem dX7_feed_0 : decode cX7_feed 0 = .ok (.iload_n 3, 1) := by decide +kernel
theorem dX7_feed_1 : decode cX7_feed 1 = .ok (.i2l, 1) := by decide +kernel
theorem dX7_feed_2 : decode cX7_feed 2 = .ok (.lconst 1, 1) := by decide +kernel
theorem dX7_feed_3 : decode cX7_feed 3 = .ok (.ldc2_w 59, 3) := by decide +kernel
theorem dX7_feed_6 : decode cX7_feed 6 = .ok (.invokestatic 61, 3) := by decide +kernel
theorem dX7_feed_9 : decode cX7_feed 9 = .ok (.ifCond .ne 5, 3) := by decide +kernel
theorem dX7_feed_12 : decode cX7_feed 12 = .ok (.iconst (-1), 1) := by decide +kernel
theorem dX7_feed_13 : decode cX7_feed 13 = .ok (.ireturn, 1) := by decide +kernel
theorem dX7_feed_14 : decode cX7_feed 14 = .ok (.aload_n 0, 1) := by decide +kernel
theorem dX7_feed_15 : decode cX7_feed 15 = .ok (.getfield 65, 3) := by decide +kernel
theorem dX7_feed_18 : decode cX7_feed 18 = .ok (.iload_n 3, 1) := by decide +kernel
theorem dX7_feed_19 : decode cX7_feed 19 = .ok (.iadd, 1) := by decide +kernel
theorem dX7_feed_20 : decode cX7_feed 20 = .ok (.sipush 200, 3) := by decide +kernel
theorem dX7_feed_23 : decode cX7_feed 23 = .ok (.if_icmp .le 6, 3) := by decide +kernel
theorem dX7_feed_26 : decode cX7_feed 26 = .ok (.bipush (-2), 2) := by decide +kernel
theorem dX7_feed_28 : decode cX7_feed 28 = .ok (.ireturn, 1) := by decide +kernel
theorem dX7_feed_29 : decode cX7_feed 29 = .ok (.iconst 0, 1) := by decide +kernel
theorem dX7_feed_30 : decode cX7_feed 30 = .ok (.istore 4, 2) := by decide +kernel
theorem dX7_feed_32 : decode cX7_feed 32 = .ok (.iload 4, 2) := by decide +kernel
theorem dX7_feed_34 : decode cX7_feed 34 = .ok (.iload_n 3, 1) := by decide +kernel
theorem dX7_feed_35 : decode cX7_feed 35 = .ok (.if_icmp .ge 40, 3) := by decide +kernel
theorem dX7_feed_38 : decode cX7_feed 38 = .ok (.aload_n 0, 1) := by decide +kernel
theorem dX7_feed_39 : decode cX7_feed 39 = .ok (.getfield 22, 3) := by decide +kernel
theorem dX7_feed_42 : decode cX7_feed 42 = .ok (.aload_n 0, 1) := by decide +kernel
theorem dX7_feed_43 : decode cX7_feed 43 = .ok (.getfield 65, 3) := by decide +kernel
theorem dX7_feed_46 : decode cX7_feed 46 = .ok (.lload_n 1, 1) := by decide +kernel
theorem dX7_feed_47 : decode cX7_feed 47 = .ok (.bipush 8, 2) := by decide +kernel
theorem dX7_feed_49 : decode cX7_feed 49 = .ok (.iload 4, 2) := by decide +kernel
theorem dX7_feed_51 : decode cX7_feed 51 = .ok (.imul, 1) := by decide +kernel
theorem dX7_feed_52 : decode cX7_feed 52 = .ok (.lshr, 1) := by decide +kernel
theorem dX7_feed_53 : decode cX7_feed 53 = .ok (.ldc2_w 69, 3) := by decide +kernel
theorem dX7_feed_56 : decode cX7_feed 56 = .ok (.land, 1) := by decide +kernel
theorem dX7_feed_57 : decode cX7_feed 57 = .ok (.l2i, 1) := by decide +kernel
theorem dX7_feed_58 : decode cX7_feed 58 = .ok (.iastore, 1) := by decide +kernel
theorem dX7_feed_59 : decode cX7_feed 59 = .ok (.aload_n 0, 1) := by decide +kernel
theorem dX7_feed_60 : decode cX7_feed 60 = .ok (.dup, 1) := by decide +kernel
theorem dX7_feed_61 : decode cX7_feed 61 = .ok (.getfield 65, 3) := by decide +kernel
theorem dX7_feed_64 : decode cX7_feed 64 = .ok (.iconst 1, 1) := by decide +kernel
theorem dX7_feed_65 : decode cX7_feed 65 = .ok (.iadd, 1) := by decide +kernel
theorem dX7_feed_66 : decode cX7_feed 66 = .ok (.putfield 65, 3) := by decide +kernel
theorem dX7_feed_69 : decode cX7_feed 69 = .ok (.iinc 4 1, 3) := by decide +kernel
theorem dX7_feed_72 : decode cX7_feed 72 = .ok (.goto (-40), 3) := by decide +kernel
theorem dX7_feed_75 : decode cX7_feed 75 = .ok (.aload_n 0, 1) := by decide +kernel
theorem dX7_feed_76 : decode cX7_feed 76 = .ok (.getfield 65, 3) := by decide +kernel
theorem dX7_feed_79 : decode cX7_feed 79 = .ok (.ireturn, 1) := by decide +kernel
def p_X7_feed_L32 (x1 : Int64) (x3 : Int32) (K : Int32 → tF → tA → Prop) : Nat → tF → tA → Int32 → Prop
  | 0, _, _, _ => False
  | n32 + 1, F, A, x4 => ((x3 ≤ x4 → (K (F 6) F A)) ∧ (¬ x3 ≤ x4 → (vp_in (F 6) 200 ∧ (∀ f_58 : tF, f_58 = (upd (A 5) ((F 6)).toNatClampNeg (((x1 >>> ((((8 : Int32) * x4)).toInt64 &&& 63)) &&& (255 : Int64))).toInt32) → (∀ y66 : Int32, y66 = ((F 6) + (1 : Int32)) → (∀ y69 : Int32, y69 = (x4 + (1 : Int32)) → ((p_X7_feed_L32 x1 x3 K n32) (upd F 6 y66) (va_up A 5 f_58) y69)))))))
set_option maxHeartbeats 4000000 in
set_option maxRecDepth 100000 in
theorem b_X7_feed_L32 {p : Program} {l : Launch} {e : Env} {s : State} {m : MethodId} {args : Array Value} {below : List Frame} {meth : Method} {c : Code} {Q : State → Prop} {D : va_G} {cI cZ cR : ClassId} {adK adV : Nat → Nat} {A9 : Nat → Prop} {o : Nat} {q : Nat → Nat} {K : Int32 → tF → tA → Prop}  (x1 : Int64) (x3 : Int32) (X : CX p s m args c yX7_feed.cls cX7_feed 5 D cI cZ cR adK adV A9) (ret : RTi p l e (rmN 1 25) s m args below meth c Q cX7_feed D A9 (fun (r : Int32) (u : (tF × tA)) => K r u.1 u.2) (fun (u : (tF × tA)) => (wX7 cI cZ o q u.1 u.2 : va_W)))   : ∀ (n : Nat) (F : tF) (A : tA) (x4 : Int32) (H : Heap) (locs : List Loc) (ls : Array Slot), p_X7_feed_L32 x1 x3 K n F A x4 → va_P D vwCl (wX7 cI cZ o q F A : va_W) H → va_D A9 (wX7 cI cZ o q F A : va_W) → va_S A9 s.heap H locs → lv_has ls 5 [(0, .ref o), (1, .long x1), (3, .int x3), (4, .int x4)] → W p l e (rmN 1 25) s m args below meth c H locs 0 0 Q (F0 m 32 ls []) := by
  obtain ⟨hx, hb, hml, ht, hown, hK, hA, hE⟩ := id X
  intro n
  induction n with
  | zero => intro F A x4 H locs ls h; exact False.elim h
  | succ n32 ih =>
    intro F A x4 H locs ls h hP hD hS hl
    rw [p_X7_feed_L32] at h
    refine lv_iload hx hb dX7_feed_32 (lv_at hl 3 rfl) ?_
    refine lv_iload_n hx hb dX7_feed_34 rfl (lv_at hl 2 rfl) ?_
    refine lv_icmp_ge (tgt := 75) hx hb dX7_feed_35 (by decide) (fun c35 => ?_) (fun c35 => ?_)
    · replace h := h.1 c35
      refine lv_aload_n hx hb dX7_feed_75 rfl (lv_at hl 0 rfl) ?_
      refine va_get (C := RX7) (T := TX7) (N := 28) (own := RX7) (v := .int (F 6)) hx hb ht inlX7 hown hK hP 0 rfl rfl 6 (Nat.le_of_ble_eq_true rfl) (ht _ mw_6_17) (fun _ h9 => h9) rfl dX7_feed_76 ?_
      exact ret _ (F, A) _ _ _ _ dX7_feed_79 h hP hD hS
    · replace h := h.2 c35
      refine lv_aload_n hx hb dX7_feed_38 rfl (lv_at hl 0 rfl) ?_
      refine va_get (C := RX7) (T := TX7) (N := 28) (own := RX7) (v := .ref (q 5)) hx hb ht inlX7 hown hK hP 0 rfl rfl 5 (Nat.le_of_ble_eq_true rfl) (ht _ mw_5_11) (fun _ h9 => h9) rfl dX7_feed_39 ?_
      refine lv_aload_n hx hb dX7_feed_42 rfl (lv_at hl 0 rfl) ?_
      refine va_get (C := RX7) (T := TX7) (N := 28) (own := RX7) (v := .int (F 6)) hx hb ht inlX7 hown hK hP 0 rfl rfl 6 (Nat.le_of_ble_eq_true rfl) (ht _ mw_6_17) (fun _ h9 => h9) rfl dX7_feed_43 ?_
      refine lv_lload_n hx hb dX7_feed_46 rfl (lv_at hl 1 rfl) ?_
      refine lv_bipush (v := 8) hx hb dX7_feed_47 (by decide) ?_
      refine lv_iload hx hb dX7_feed_49 (lv_at hl 3 rfl) ?_
      refine lv_imul hx hb dX7_feed_51 ?_
      refine lv_lshr (v := x1 >>> ((((8 : Int32) * x4)).toInt64 &&& 63)) hx hb dX7_feed_52 rfl ?_
      refine lv_ldc2 (v := 255) hx hb hown (ht _ mw_6_18) dX7_feed_53 ?_
      refine lv_land hx hb dX7_feed_56 ?_
      refine lv_l2i (v := (((x1 >>> ((((8 : Int32) * x4)).toInt64 &&& 63)) &&& (255 : Int64))).toInt32) hx hb dX7_feed_57 rfl ?_
      obtain ⟨hi58, h⟩ := h
      obtain ⟨f_58, ef_58⟩ : ∃ z : tF, z = (upd (A 5) ((F 6)).toNatClampNeg (((x1 >>> ((((8 : Int32) * x4)).toInt64 &&& 63)) &&& (255 : Int64))).toInt32) := ⟨_, rfl⟩
      replace h := h f_58 ef_58
      refine g_iast (f := (A 5)) (k := ((F 6)).toNatClampNeg) hx hb hK hP hD hS 5 0 rfl rfl hi58 rfl ef_58 dX7_feed_58 (fun H locs hP hD hS => ?_)
      have hP : va_P D vwCl (wX7 cI cZ o q F (va_up A 5 f_58) : va_W) H := hP
      have hD : va_D A9 (wX7 cI cZ o q F (va_up A 5 f_58) : va_W) := hD
      refine lv_aload_n hx hb dX7_feed_59 rfl (lv_at hl 0 rfl) ?_
      refine lv_dup hx hb dX7_feed_60 rfl ?_
      refine va_get (C := RX7) (T := TX7) (N := 28) (own := RX7) (v := .int (F 6)) hx hb ht inlX7 hown hK hP 0 rfl rfl 6 (Nat.le_of_ble_eq_true rfl) (ht _ mw_6_17) (fun _ h9 => h9) rfl dX7_feed_61 ?_
      refine lv_iconst (v := 1) hx hb dX7_feed_64 (by decide) ?_
      refine lv_iadd hx hb dX7_feed_65 ?_
      refine lv_topi (fun y66 ey66 => ?_)
      replace h := h y66 ey66
      refine va_put (C := RX7) (T := TX7) (N := 28) (own := RX7) (v := .int y66) hx hb ht inlX7 tyX7 tyX7_ok nmX7 hown hK hP hD hS 0 rfl rfl 6 (Nat.le_of_ble_eq_true rfl) (ht _ mw_6_17) (fun _ h9 => h9) rfl (tyX7_ok 6 (Nat.le_of_ble_eq_true rfl)) rfl rfl (Nat.le_of_ble_eq_true rfl) dX7_feed_66 (fun H locs hP hD hS => ?_)
      have hP : va_P D vwCl (wX7 cI cZ o q (upd F 6 y66) (va_up A 5 f_58) : va_W) H := hP
      have hD : va_D A9 (wX7 cI cZ o q (upd F 6 y66) (va_up A 5 f_58) : va_W) := hD
      obtain ⟨y69, ey69⟩ : ∃ y : Int32, y = (x4 + (1 : Int32)) := ⟨_, rfl⟩
      replace h := h y69 ey69
      refine lv_iinc (v := y69) (lv' := [(4, .int y69), (0, .ref o), (1, .long x1), (3, .int x3)]) hx hb dX7_feed_69 hl (k := 3) rfl (by rw [ey69]; rfl) (by decide) rfl (fun ls hl => ?_)
      refine lv_goto (tgt := 32) hx hb dX7_feed_72 (by decide) ?_
      exact ih (upd F 6 y66) (va_up A 5 f_58) y69 _ _ _ h hP hD hS (lv_sub hl [1, 2, 3, 0] rfl)
def p_X7_feed (F : tF) (A : tA) (x1 : Int64) (x3 : Int32) (K : Int32 → tF → tA → Prop) : Prop := (p_X7_isIn ((x3).toInt64) (1 : Int64) (8 : Int64) (fun r6 => ((¬ r6 = 0 → ((((F 6) + x3) ≤ (200 : Int32) → (∃ n32, p_X7_feed_L32 x1 x3 K n32 F A (0 : Int32))) ∧ (¬ ((F 6) + x3) ≤ (200 : Int32) → (K (-2 : Int32) F A)))) ∧ (r6 = 0 → (K (-1 : Int32) F A)))))
set_option maxHeartbeats 4000000 in
set_option maxRecDepth 100000 in
theorem w_X7_feed (l : Launch) (D : va_G) (cI cZ cR : ClassId) (adK adV : Nat → Nat) (sz : Nat) (o : Nat) (q : Nat → Nat) (F : tF) (A : tA) (x1 : Int64) (x3 : Int32) (K : Int32 → tF → tA → Prop) (h : p_X7_feed F A x1 x3 K) : MI l D cI cZ cR adK adV yX7_feed cX7_feed 5 (some .int) (rmN 1 25) [.ref o, .long x1, .int x3] (wX7 cI cZ o q F A : va_W) sz (fun (r : Int32) (u : (tF × tA)) => K r u.1 u.2) (fun (u : (tF × tA)) => (wX7 cI cZ o q u.1 u.2 : va_W)) := by
  refine M_i (by decide +kernel) (Nat.le_of_ble_eq_true rfl) ?_
  intro p e s m args below meth c Q A9 ls X ret hP hD hS hl
  obtain ⟨hx, hb, hml, ht, hown, hK, hA, hE⟩ := id X
  have hl : lv_has ls 5 [(0, .ref o), (1, .long x1), (3, .int x3)] := hl
  unfold p_X7_feed at h
  refine lv_iload_n hx hb dX7_feed_0 rfl (lv_at hl 2 rfl) ?_
  refine lv_i2l (v := (x3).toInt64) hx hb dX7_feed_1 rfl ?_
  refine lv_lconst (v := 1) hx hb dX7_feed_2 (by decide) ?_
  refine lv_ldc2 (v := 8) hx hb hown (ht _ mw_6_16) dX7_feed_3 ?_
  refine C_si (wr := [0, 1, 2, 3, 4, 5, 6, 7, 8, 9, 10, 11, 12, 13, 14, 15].filterMap (fun i => (wX7 cI cZ o q F A : va_W)[i]?)) X hP hD hS [.long (x3).toInt64, .long (1 : Int64), .long (8 : Int64)] [] (w_X7_isIn l D cI cZ cR adK adV _ ((x3).toInt64) (1 : Int64) (8 : Int64) _ h) cal_X7_isIn mw_6_19 rfl [] [0, 1, 2, 3, 4, 5, 6, 7, 8, 9, 10, 11, 12, 13, 14, 15] [0, 1, 2, 3, 4, 5, 6, 7, 8, 9, 10, 11, 12, 13, 14, 15] (fun u => (wX7 cI cZ o q F A : va_W)) rfl rfl (fun _ => rfl) rfl ⟨rfl, rfl⟩ ⟨Nat.le_of_ble_eq_true rfl, Nat.le_of_ble_eq_true rfl⟩ hl.1 rfl (Nat.le_of_ble_eq_true rfl) ⟨Nat.zero_le _, Nat.zero_le _⟩ dX7_feed_6 (fun r6 u H locs h hP hD hS => ?_)
  refine lv_if_ne (tgt := 14) hx hb dX7_feed_9 (by decide) (fun c9 => ?_) (fun c9 => ?_)
  · replace h := h.1 c9
    refine lv_aload_n hx hb dX7_feed_14 rfl (lv_at hl 0 rfl) ?_
    refine va_get (C := RX7) (T := TX7) (N := 28) (own := RX7) (v := .int (F 6)) hx hb ht inlX7 hown hK hP 0 rfl rfl 6 (Nat.le_of_ble_eq_true rfl) (ht _ mw_6_17) (fun _ h9 => h9) rfl dX7_feed_15 ?_
    refine lv_iload_n hx hb dX7_feed_18 rfl (lv_at hl 2 rfl) ?_
    refine lv_iadd hx hb dX7_feed_19 ?_
    refine lv_sipush (v := 200) hx hb dX7_feed_20 (by decide) ?_
    refine lv_icmp_le (tgt := 29) hx hb dX7_feed_23 (by decide) (fun c23 => ?_) (fun c23 => ?_)
    · replace h := h.1 c23
      refine lv_iconst (v := 0) hx hb dX7_feed_29 (by decide) ?_
      refine lv_istore (lv' := [(4, .int (0 : Int32)), (0, .ref o), (1, .long x1), (3, .int x3)]) hx hb dX7_feed_30 hl (by decide) rfl (fun ls hl => ?_)
      obtain ⟨n32, h⟩ := h
      exact b_X7_feed_L32 x1 x3 X ret  n32 F A (0 : Int32) _ _ _ h hP hD hS (lv_sub hl [1, 2, 3, 0] rfl)
    · replace h := h.2 c23
      refine lv_bipush (v := -2) hx hb dX7_feed_26 (by decide) ?_
      exact ret _ (F, A) _ _ _ _ dX7_feed_28 h hP hD hS
  · replace h := h.2 c9
    refine lv_iconst (v := -1) hx hb dX7_feed_12 (by decide) ?_
    exact ret _ (F, A) _ _ _ _ dX7_feed_13 h hP hD hS
theorem dX7_isAlpha_0 : decode cX7_isAlpha 0 = .ok (.iload_n 0, 1) := by decide +kernel
theorem dX7_isAlpha_1 : decode cX7_isAlpha 1 = .ok (.bipush 97, 2) := by decide +kernel
theorem dX7_isAlpha_3 : decode cX7_isAlpha 3 = .ok (.if_icmp .lt 13, 3) := by decide +kernel
theorem dX7_isAlpha_6 : decode cX7_isAlpha 6 = .ok (.iload_n 0, 1) := by decide +kernel
theorem dX7_isAlpha_7 : decode cX7_isAlpha 7 = .ok (.bipush 122, 2) := by decide +kernel
theorem dX7_isAlpha_9 : decode cX7_isAlpha 9 = .ok (.if_icmp .gt 7, 3) := by decide +kernel
theorem dX7_isAlpha_12 : decode cX7_isAlpha 12 = .ok (.iconst 1, 1) := by decide +kernel
theorem dX7_isAlpha_13 : decode cX7_isAlpha 13 = .ok (.goto 4, 3) := by decide +kernel
theorem dX7_isAlpha_16 : decode cX7_isAlpha 16 = .ok (.iconst 0, 1) := by decide +kernel
theorem dX7_isAlpha_17 : decode cX7_isAlpha 17 = .ok (.ireturn, 1) := by decide +kernel
def p_X7_isAlpha (x0 : Int32) (K : Int32 → Prop) : Prop := ((x0 < (97 : Int32) → (K (0 : Int32))) ∧ (¬ x0 < (97 : Int32) → (((122 : Int32) < x0 → (K (0 : Int32))) ∧ (¬ (122 : Int32) < x0 → (K (1 : Int32))))))
set_option maxHeartbeats 4000000 in
set_option maxRecDepth 100000 in
theorem w_X7_isAlpha (l : Launch) (D : va_G) (cI cZ cR : ClassId) (adK adV : Nat → Nat) (sz : Nat)  (x0 : Int32) (K : Int32 → Prop) (h : p_X7_isAlpha x0 K) : MI l D cI cZ cR adK adV yX7_isAlpha cX7_isAlpha 1 (some .boolean) (rmN 0 0) [.int x0] ([] : va_W) sz (fun (r : Int32) (u : Unit) => K r) (fun (u : Unit) => ([] : va_W)) := by
  refine M_z (by decide +kernel) (Nat.le_of_ble_eq_true rfl) ?_
  intro p e s m args below meth c Q A9 ls X ret hP hD hS hl
  obtain ⟨hx, hb, hml, ht, hown, hK, hA, hE⟩ := id X
  have hl : lv_has ls 1 [(0, .int x0)] := hl
  unfold p_X7_isAlpha at h
  refine lv_iload_n hx hb dX7_isAlpha_0 rfl (lv_at hl 0 rfl) ?_
  refine lv_bipush (v := 97) hx hb dX7_isAlpha_1 (by decide) ?_
  refine lv_icmp_lt (tgt := 16) hx hb dX7_isAlpha_3 (by decide) (fun c3 => ?_) (fun c3 => ?_)
  · replace h := h.1 c3
    refine lv_iconst (v := 0) hx hb dX7_isAlpha_16 (by decide) ?_
    exact ret _ () _ _ _ _ dX7_isAlpha_17 bo_0 h hP hD hS
  · replace h := h.2 c3
    refine lv_iload_n hx hb dX7_isAlpha_6 rfl (lv_at hl 0 rfl) ?_
    refine lv_bipush (v := 122) hx hb dX7_isAlpha_7 (by decide) ?_
    refine lv_icmp_gt (tgt := 16) hx hb dX7_isAlpha_9 (by decide) (fun c9 => ?_) (fun c9 => ?_)
    · replace h := h.1 c9
      refine lv_iconst (v := 0) hx hb dX7_isAlpha_16 (by decide) ?_
      exact ret _ () _ _ _ _ dX7_isAlpha_17 bo_0 h hP hD hS
    · replace h := h.2 c9
      refine lv_iconst (v := 1) hx hb dX7_isAlpha_12 (by decide) ?_
      refine lv_goto (tgt := 17) hx hb dX7_isAlpha_13 (by decide) ?_
      exact ret _ () _ _ _ _ dX7_isAlpha_17 bo_1 h hP hD hS
theorem dX7_isDigit_0 : decode cX7_isDigit 0 = .ok (.iload_n 0, 1) := by decide +kernel
theorem dX7_isDigit_1 : decode cX7_isDigit 1 = .ok (.bipush 48, 2) := by decide +kernel
theorem dX7_isDigit_3 : decode cX7_isDigit 3 = .ok (.if_icmp .lt 13, 3) := by decide +kernel
theorem dX7_isDigit_6 : decode cX7_isDigit 6 = .ok (.iload_n 0, 1) := by decide +kernel
theorem dX7_isDigit_7 : decode cX7_isDigit 7 = .ok (.bipush 57, 2) := by decide +kernel
theorem dX7_isDigit_9 : decode cX7_isDigit 9 = .ok (.if_icmp .gt 7, 3) := by decide +kernel
theorem dX7_isDigit_12 : decode cX7_isDigit 12 = .ok (.iconst 1, 1) := by decide +kernel
theorem dX7_isDigit_13 : decode cX7_isDigit 13 = .ok (.goto 4, 3) := by decide +kernel
theorem dX7_isDigit_16 : decode cX7_isDigit 16 = .ok (.iconst 0, 1) := by decide +kernel
theorem dX7_isDigit_17 : decode cX7_isDigit 17 = .ok (.ireturn, 1) := by decide +kernel
def p_X7_isDigit (x0 : Int32) (K : Int32 → Prop) : Prop := ((x0 < (48 : Int32) → (K (0 : Int32))) ∧ (¬ x0 < (48 : Int32) → (((57 : Int32) < x0 → (K (0 : Int32))) ∧ (¬ (57 : Int32) < x0 → (K (1 : Int32))))))
set_option maxHeartbeats 4000000 in
set_option maxRecDepth 100000 in
theorem w_X7_isDigit (l : Launch) (D : va_G) (cI cZ cR : ClassId) (adK adV : Nat → Nat) (sz : Nat)  (x0 : Int32) (K : Int32 → Prop) (h : p_X7_isDigit x0 K) : MI l D cI cZ cR adK adV yX7_isDigit cX7_isDigit 1 (some .boolean) (rmN 0 0) [.int x0] ([] : va_W) sz (fun (r : Int32) (u : Unit) => K r) (fun (u : Unit) => ([] : va_W)) := by
  refine M_z (by decide +kernel) (Nat.le_of_ble_eq_true rfl) ?_
  intro p e s m args below meth c Q A9 ls X ret hP hD hS hl
  obtain ⟨hx, hb, hml, ht, hown, hK, hA, hE⟩ := id X
  have hl : lv_has ls 1 [(0, .int x0)] := hl
  unfold p_X7_isDigit at h
  refine lv_iload_n hx hb dX7_isDigit_0 rfl (lv_at hl 0 rfl) ?_
  refine lv_bipush (v := 48) hx hb dX7_isDigit_1 (by decide) ?_
  refine lv_icmp_lt (tgt := 16) hx hb dX7_isDigit_3 (by decide) (fun c3 => ?_) (fun c3 => ?_)
  · replace h := h.1 c3
    refine lv_iconst (v := 0) hx hb dX7_isDigit_16 (by decide) ?_
    exact ret _ () _ _ _ _ dX7_isDigit_17 bo_0 h hP hD hS
  · replace h := h.2 c3
    refine lv_iload_n hx hb dX7_isDigit_6 rfl (lv_at hl 0 rfl) ?_
    refine lv_bipush (v := 57) hx hb dX7_isDigit_7 (by decide) ?_
    refine lv_icmp_gt (tgt := 16) hx hb dX7_isDigit_9 (by decide) (fun c9 => ?_) (fun c9 => ?_)
    · replace h := h.1 c9
      refine lv_iconst (v := 0) hx hb dX7_isDigit_16 (by decide) ?_
      exact ret _ () _ _ _ _ dX7_isDigit_17 bo_0 h hP hD hS
    · replace h := h.2 c9
      refine lv_iconst (v := 1) hx hb dX7_isDigit_12 (by decide) ?_
      refine lv_goto (tgt := 17) hx hb dX7_isDigit_13 (by decide) ?_
      exact ret _ () _ _ _ _ dX7_isDigit_17 bo_1 h hP hD hS
theorem dX7_byteAt_0 : decode cX7_byteAt 0 = .ok (.iload_n 1, 1) := by decide +kernel
theorem dX7_byteAt_1 : decode cX7_byteAt 1 = .ok (.aload_n 0, 1) := by decide +kernel
theorem dX7_byteAt_2 : decode cX7_byteAt 2 = .ok (.getfield 65, 3) := by decide +kernel
theorem dX7_byteAt_5 : decode cX7_byteAt 5 = .ok (.if_icmp .ge 12, 3) := by decide +kernel
theorem dX7_byteAt_8 : decode cX7_byteAt 8 = .ok (.aload_n 0, 1) := by decide +kernel
theorem dX7_byteAt_9 : decode cX7_byteAt 9 = .ok (.getfield 22, 3) := by decide +kernel
theorem dX7_byteAt_12 : decode cX7_byteAt 12 = .ok (.iload_n 1, 1) := by decide +kernel
theorem dX7_byteAt_13 : decode cX7_byteAt 13 = .ok (.iaload, 1) := by decide +kernel
theorem dX7_byteAt_14 : decode cX7_byteAt 14 = .ok (.goto 4, 3) := by decide +kernel
theorem dX7_byteAt_17 : decode cX7_byteAt 17 = .ok (.iconst (-1), 1) := by decide +kernel
theorem dX7_byteAt_18 : decode cX7_byteAt 18 = .ok (.ireturn, 1) := by decide +kernel
def p_X7_byteAt (F : tF) (A : tA) (x1 : Int32) (K : Int32 → Prop) : Prop := (((F 6) ≤ x1 → (K (-1 : Int32))) ∧ (¬ (F 6) ≤ x1 → (vp_in x1 200 ∧ (K ((A 5) (x1).toNatClampNeg)))))
set_option maxHeartbeats 4000000 in
set_option maxRecDepth 100000 in
theorem w_X7_byteAt (l : Launch) (D : va_G) (cI cZ cR : ClassId) (adK adV : Nat → Nat) (sz : Nat) (o : Nat) (q : Nat → Nat) (F : tF) (A : tA) (x1 : Int32) (K : Int32 → Prop) (h : p_X7_byteAt F A x1 K) : MI l D cI cZ cR adK adV yX7_byteAt cX7_byteAt 2 (some .int) (rmN 0 0) [.ref o, .int x1] (wX7 cI cZ o q F A : va_W) sz (fun (r : Int32) (u : Unit) => K r) (fun (u : Unit) => (wX7 cI cZ o q F A : va_W)) := by
  refine M_i (by decide +kernel) (Nat.le_of_ble_eq_true rfl) ?_
  intro p e s m args below meth c Q A9 ls X ret hP hD hS hl
  obtain ⟨hx, hb, hml, ht, hown, hK, hA, hE⟩ := id X
  have hl : lv_has ls 2 [(0, .ref o), (1, .int x1)] := hl
  unfold p_X7_byteAt at h
  refine lv_iload_n hx hb dX7_byteAt_0 rfl (lv_at hl 1 rfl) ?_
  refine lv_aload_n hx hb dX7_byteAt_1 rfl (lv_at hl 0 rfl) ?_
  refine va_get (C := RX7) (T := TX7) (N := 28) (own := RX7) (v := .int (F 6)) hx hb ht inlX7 hown hK hP 0 rfl rfl 6 (Nat.le_of_ble_eq_true rfl) (ht _ mw_6_17) (fun _ h9 => h9) rfl dX7_byteAt_2 ?_
  refine lv_icmp_ge (tgt := 17) hx hb dX7_byteAt_5 (by decide) (fun c5 => ?_) (fun c5 => ?_)
  · replace h := h.1 c5
    refine lv_iconst (v := -1) hx hb dX7_byteAt_17 (by decide) ?_
    exact ret _ () _ _ _ _ dX7_byteAt_18 h hP hD hS
  · replace h := h.2 c5
    refine lv_aload_n hx hb dX7_byteAt_8 rfl (lv_at hl 0 rfl) ?_
    refine va_get (C := RX7) (T := TX7) (N := 28) (own := RX7) (v := .ref (q 5)) hx hb ht inlX7 hown hK hP 0 rfl rfl 5 (Nat.le_of_ble_eq_true rfl) (ht _ mw_5_11) (fun _ h9 => h9) rfl dX7_byteAt_9 ?_
    refine lv_iload_n hx hb dX7_byteAt_12 rfl (lv_at hl 1 rfl) ?_
    obtain ⟨hi13, h⟩ := h
    refine g_iald (f := (A 5)) (k := (x1).toNatClampNeg) hx hb hK hP 5 0 rfl rfl hi13 rfl dX7_byteAt_13 ?_
    refine lv_goto (tgt := 18) hx hb dX7_byteAt_14 (by decide) ?_
    exact ret _ () _ _ _ _ dX7_byteAt_18 h hP hD hS
theorem cal_X7_byteAt : CalV yX7_byteAt cX7_byteAt 2 (some .int) 1 := ⟨mw_12_17, mw_1_5, mw_12_15, mw_12_16, ⟨by decide +kernel, by decide +kernel, by decide +kernel⟩⟩
theorem cal_X7_isAlpha : CalS yX7_isAlpha cX7_isAlpha 1 (some .boolean) 1 := ⟨mw_12_20, mw_1_5, mw_12_19, ⟨by decide +kernel, by decide +kernel, by decide +kernel⟩⟩
theorem cal_X7_isDigit : CalS yX7_isDigit cX7_isDigit 1 (some .boolean) 1 := ⟨mw_12_23, mw_1_5, mw_12_22, ⟨by decide +kernel, by decide +kernel, by decide +kernel⟩⟩
theorem dX7_nextToken_0 : decode cX7_nextToken 0 = .ok (.aload_n 0, 1) := by decide +kernel
theorem dX7_nextToken_1 : decode cX7_nextToken 1 = .ok (.aload_n 0, 1) := by decide +kernel
theorem dX7_nextToken_2 : decode cX7_nextToken 2 = .ok (.getfield 71, 3) := by decide +kernel
theorem dX7_nextToken_5 : decode cX7_nextToken 5 = .ok (.putfield 74, 3) := by decide +kernel
theorem dX7_nextToken_8 : decode cX7_nextToken 8 = .ok (.aload_n 0, 1) := by decide +kernel
theorem dX7_nextToken_9 : decode cX7_nextToken 9 = .ok (.aload_n 0, 1) := by decide +kernel
theorem dX7_nextToken_10 : decode cX7_nextToken 10 = .ok (.getfield 74, 3) := by decide +kernel
theorem dX7_nextToken_13 : decode cX7_nextToken 13 = .ok (.invokevirtual 77, 3) := by decide +kernel
theorem dX7_nextToken_16 : decode cX7_nextToken 16 = .ok (.bipush 32, 2) := by decide +kernel
theorem dX7_nextToken_18 : decode cX7_nextToken 18 = .ok (.if_icmp .ne 16, 3) := by decide +kernel
theorem dX7_nextToken_21 : decode cX7_nextToken 21 = .ok (.aload_n 0, 1) := by decide +kernel
theorem dX7_nextToken_22 : decode cX7_nextToken 22 = .ok (.dup, 1) := by decide +kernel
theorem dX7_nextToken_23 : decode cX7_nextToken 23 = .ok (.getfield 74, 3) := by decide +kernel
theorem dX7_nextToken_26 : decode cX7_nextToken 26 = .ok (.iconst 1, 1) := by decide +kernel
theorem dX7_nextToken_27 : decode cX7_nextToken 27 = .ok (.iadd, 1) := by decide +kernel
theorem dX7_nextToken_28 : decode cX7_nextToken 28 = .ok (.putfield 74, 3) := by decide +kernel
theorem dX7_nextToken_31 : decode cX7_nextToken 31 = .ok (.goto (-23), 3) := by decide +kernel
theorem dX7_nextToken_34 : decode cX7_nextToken 34 = .ok (.aload_n 0, 1) := by decide +kernel
theorem dX7_nextToken_35 : decode cX7_nextToken 35 = .ok (.aload_n 0, 1) := by decide +kernel
theorem dX7_nextToken_36 : decode cX7_nextToken 36 = .ok (.getfield 74, 3) := by decide +kernel
theorem dX7_nextToken_39 : decode cX7_nextToken 39 = .ok (.putfield 71, 3) := by decide +kernel
theorem dX7_nextToken_42 : decode cX7_nextToken 42 = .ok (.aload_n 0, 1) := by decide +kernel
theorem dX7_nextToken_43 : decode cX7_nextToken 43 = .ok (.aload_n 0, 1) := by decide +kernel
theorem dX7_nextToken_44 : decode cX7_nextToken 44 = .ok (.getfield 74, 3) := by decide +kernel
theorem dX7_nextToken_47 : decode cX7_nextToken 47 = .ok (.invokevirtual 77, 3) := by decide +kernel
theorem dX7_nextToken_50 : decode cX7_nextToken 50 = .ok (.istore_n 1, 1) := by decide +kernel
theorem dX7_nextToken_51 : decode cX7_nextToken 51 = .ok (.aload_n 0, 1) := by decide +kernel
theorem dX7_nextToken_52 : decode cX7_nextToken 52 = .ok (.iload_n 1, 1) := by decide +kernel
theorem dX7_nextToken_53 : decode cX7_nextToken 53 = .ok (.ifCond .ge 7, 3) := by decide +kernel
theorem dX7_nextToken_56 : decode cX7_nextToken 56 = .ok (.iconst 0, 1) := by decide +kernel
theorem dX7_nextToken_57 : decode cX7_nextToken 57 = .ok (.goto 26, 3) := by decide +kernel
theorem dX7_nextToken_60 : decode cX7_nextToken 60 = .ok (.iload_n 1, 1) := by decide +kernel
theorem dX7_nextToken_61 : decode cX7_nextToken 61 = .ok (.invokestatic 81, 3) := by decide +kernel
theorem dX7_nextToken_64 : decode cX7_nextToken 64 = .ok (.ifCond .eq 7, 3) := by decide +kernel
theorem dX7_nextToken_67 : decode cX7_nextToken 67 = .ok (.iconst 1, 1) := by decide +kernel
theorem dX7_nextToken_68 : decode cX7_nextToken 68 = .ok (.goto 15, 3) := by decide +kernel
theorem dX7_nextToken_71 : decode cX7_nextToken 71 = .ok (.iload_n 1, 1) := by decide +kernel
theorem dX7_nextToken_72 : decode cX7_nextToken 72 = .ok (.invokestatic 85, 3) := by decide +kernel
theorem dX7_nextToken_75 : decode cX7_nextToken 75 = .ok (.ifCond .eq 7, 3) := by decide +kernel
theorem dX7_nextToken_78 : decode cX7_nextToken 78 = .ok (.iconst 2, 1) := by decide +kernel
theorem dX7_nextToken_79 : decode cX7_nextToken 79 = .ok (.goto 4, 3) := by decide +kernel
theorem dX7_nextToken_82 : decode cX7_nextToken 82 = .ok (.iconst 3, 1) := by decide +kernel
theorem dX7_nextToken_83 : decode cX7_nextToken 83 = .ok (.putfield 88, 3) := by decide +kernel
theorem dX7_nextToken_86 : decode cX7_nextToken 86 = .ok (.aload_n 0, 1) := by decide +kernel
theorem dX7_nextToken_87 : decode cX7_nextToken 87 = .ok (.iconst 0, 1) := by decide +kernel
theorem dX7_nextToken_88 : decode cX7_nextToken 88 = .ok (.putfield 91, 3) := by decide +kernel
theorem dX7_nextToken_91 : decode cX7_nextToken 91 = .ok (.aload_n 0, 1) := by decide +kernel
theorem dX7_nextToken_92 : decode cX7_nextToken 92 = .ok (.getfield 88, 3) := by decide +kernel
theorem dX7_nextToken_95 : decode cX7_nextToken 95 = .ok (.iconst 1, 1) := by decide +kernel
theorem dX7_nextToken_96 : decode cX7_nextToken 96 = .ok (.if_icmp .ne 30, 3) := by decide +kernel
theorem dX7_nextToken_99 : decode cX7_nextToken 99 = .ok (.aload_n 0, 1) := by decide +kernel
theorem dX7_nextToken_100 : decode cX7_nextToken 100 = .ok (.aload_n 0, 1) := by decide +kernel
theorem dX7_nextToken_101 : decode cX7_nextToken 101 = .ok (.getfield 71, 3) := by decide +kernel
theorem dX7_nextToken_104 : decode cX7_nextToken 104 = .ok (.invokevirtual 77, 3) := by decide +kernel
theorem dX7_nextToken_107 : decode cX7_nextToken 107 = .ok (.invokestatic 81, 3) := by decide +kernel
theorem dX7_nextToken_110 : decode cX7_nextToken 110 = .ok (.ifCond .eq 16, 3) := by decide +kernel
theorem dX7_nextToken_113 : decode cX7_nextToken 113 = .ok (.aload_n 0, 1) := by decide +kernel
theorem dX7_nextToken_114 : decode cX7_nextToken 114 = .ok (.dup, 1) := by decide +kernel
theorem dX7_nextToken_115 : decode cX7_nextToken 115 = .ok (.getfield 71, 3) := by decide +kernel
theorem dX7_nextToken_118 : decode cX7_nextToken 118 = .ok (.iconst 1, 1) := by decide +kernel
theorem dX7_nextToken_119 : decode cX7_nextToken 119 = .ok (.iadd, 1) := by decide +kernel
theorem dX7_nextToken_120 : decode cX7_nextToken 120 = .ok (.putfield 71, 3) := by decide +kernel
theorem dX7_nextToken_123 : decode cX7_nextToken 123 = .ok (.goto (-32), 3) := by decide +kernel
theorem dX7_nextToken_126 : decode cX7_nextToken 126 = .ok (.aload_n 0, 1) := by decide +kernel
theorem dX7_nextToken_127 : decode cX7_nextToken 127 = .ok (.getfield 88, 3) := by decide +kernel
theorem dX7_nextToken_130 : decode cX7_nextToken 130 = .ok (.iconst 2, 1) := by decide +kernel
theorem dX7_nextToken_131 : decode cX7_nextToken 131 = .ok (.if_icmp .ne 70, 3) := by decide +kernel
theorem dX7_nextToken_134 : decode cX7_nextToken 134 = .ok (.aload_n 0, 1) := by decide +kernel
theorem dX7_nextToken_135 : decode cX7_nextToken 135 = .ok (.aload_n 0, 1) := by decide +kernel
theorem dX7_nextToken_136 : decode cX7_nextToken 136 = .ok (.getfield 71, 3) := by decide +kernel
theorem dX7_nextToken_139 : decode cX7_nextToken 139 = .ok (.invokevirtual 77, 3) := by decide +kernel
theorem dX7_nextToken_142 : decode cX7_nextToken 142 = .ok (.invokestatic 85, 3) := by decide +kernel
theorem dX7_nextToken_145 : decode cX7_nextToken 145 = .ok (.ifCond .eq 56, 3) := by decide +kernel
theorem dX7_nextToken_148 : decode cX7_nextToken 148 = .ok (.aload_n 0, 1) := by decide +kernel
theorem dX7_nextToken_149 : decode cX7_nextToken 149 = .ok (.aload_n 0, 1) := by decide +kernel
theorem dX7_nextToken_150 : decode cX7_nextToken 150 = .ok (.getfield 91, 3) := by decide +kernel
theorem dX7_nextToken_153 : decode cX7_nextToken 153 = .ok (.sipush 999, 3) := by decide +kernel
theorem dX7_nextToken_156 : decode cX7_nextToken 156 = .ok (.if_icmp .le 10, 3) := by decide +kernel
theorem dX7_nextToken_159 : decode cX7_nextToken 159 = .ok (.aload_n 0, 1) := by decide +kernel
theorem dX7_nextToken_160 : decode cX7_nextToken 160 = .ok (.getfield 91, 3) := by decide +kernel
theorem dX7_nextToken_163 : decode cX7_nextToken 163 = .ok (.goto 22, 3) := by decide +kernel
theorem dX7_nextToken_166 : decode cX7_nextToken 166 = .ok (.bipush 10, 2) := by decide +kernel
theorem dX7_nextToken_168 : decode cX7_nextToken 168 = .ok (.aload_n 0, 1) := by decide +kernel
theorem dX7_nextToken_169 : decode cX7_nextToken 169 = .ok (.getfield 91, 3) := by decide +kernel
theorem dX7_nextToken_172 : decode cX7_nextToken 172 = .ok (.imul, 1) := by decide +kernel
theorem dX7_nextToken_173 : decode cX7_nextToken 173 = .ok (.aload_n 0, 1) := by decide +kernel
theorem dX7_nextToken_174 : decode cX7_nextToken 174 = .ok (.aload_n 0, 1) := by decide +kernel
theorem dX7_nextToken_175 : decode cX7_nextToken 175 = .ok (.getfield 71, 3) := by decide +kernel
theorem dX7_nextToken_178 : decode cX7_nextToken 178 = .ok (.invokevirtual 77, 3) := by decide +kernel
theorem dX7_nextToken_181 : decode cX7_nextToken 181 = .ok (.iadd, 1) := by decide +kernel
theorem dX7_nextToken_182 : decode cX7_nextToken 182 = .ok (.bipush 48, 2) := by decide +kernel
theorem dX7_nextToken_184 : decode cX7_nextToken 184 = .ok (.isub, 1) := by decide +kernel
theorem dX7_nextToken_185 : decode cX7_nextToken 185 = .ok (.putfield 91, 3) := by decide +kernel
theorem dX7_nextToken_188 : decode cX7_nextToken 188 = .ok (.aload_n 0, 1) := by decide +kernel
theorem dX7_nextToken_189 : decode cX7_nextToken 189 = .ok (.dup, 1) := by decide +kernel
theorem dX7_nextToken_190 : decode cX7_nextToken 190 = .ok (.getfield 71, 3) := by decide +kernel
theorem dX7_nextToken_193 : decode cX7_nextToken 193 = .ok (.iconst 1, 1) := by decide +kernel
theorem dX7_nextToken_194 : decode cX7_nextToken 194 = .ok (.iadd, 1) := by decide +kernel
theorem dX7_nextToken_195 : decode cX7_nextToken 195 = .ok (.putfield 71, 3) := by decide +kernel
theorem dX7_nextToken_198 : decode cX7_nextToken 198 = .ok (.goto (-72), 3) := by decide +kernel
theorem dX7_nextToken_201 : decode cX7_nextToken 201 = .ok (.aload_n 0, 1) := by decide +kernel
theorem dX7_nextToken_202 : decode cX7_nextToken 202 = .ok (.dup, 1) := by decide +kernel
theorem dX7_nextToken_203 : decode cX7_nextToken 203 = .ok (.getfield 71, 3) := by decide +kernel
theorem dX7_nextToken_206 : decode cX7_nextToken 206 = .ok (.aload_n 0, 1) := by decide +kernel
theorem dX7_nextToken_207 : decode cX7_nextToken 207 = .ok (.getfield 88, 3) := by decide +kernel
theorem dX7_nextToken_210 : decode cX7_nextToken 210 = .ok (.iconst 2, 1) := by decide +kernel
theorem dX7_nextToken_211 : decode cX7_nextToken 211 = .ok (.if_icmp .le 7, 3) := by decide +kernel
theorem dX7_nextToken_214 : decode cX7_nextToken 214 = .ok (.iconst 1, 1) := by decide +kernel
theorem dX7_nextToken_215 : decode cX7_nextToken 215 = .ok (.goto 4, 3) := by decide +kernel
theorem dX7_nextToken_218 : decode cX7_nextToken 218 = .ok (.iconst 0, 1) := by decide +kernel
theorem dX7_nextToken_219 : decode cX7_nextToken 219 = .ok (.iadd, 1) := by decide +kernel
theorem dX7_nextToken_220 : decode cX7_nextToken 220 = .ok (.putfield 71, 3) := by decide +kernel
theorem dX7_nextToken_223 : decode cX7_nextToken 223 = .ok (.return_, 1) := by decide +kernel
def p_X7_nextToken_J201 (F : tF) (A : tA) (K : tF → tA → Prop)  : Prop := (((F 7) ≤ (2 : Int32) → (∀ y220 : Int32, y220 = ((F 9) + (0 : Int32)) → (K (upd F 9 y220) A))) ∧ (¬ (F 7) ≤ (2 : Int32) → (∀ y220 : Int32, y220 = ((F 9) + (1 : Int32)) → (K (upd F 9 y220) A))))
set_option maxHeartbeats 4000000 in
set_option maxRecDepth 100000 in
theorem b_X7_nextToken_J201 {p : Program} {l : Launch} {e : Env} {s : State} {m : MethodId} {args : Array Value} {below : List Frame} {meth : Method} {c : Code} {Q : State → Prop} {D : va_G} {cI cZ cR : ClassId} {adK adV : Nat → Nat} {A9 : Nat → Prop} {o : Nat} {q : Nat → Nat} {K : tF → tA → Prop}  (F : tF) (A : tA) (X : CX p s m args c yX7_nextToken.cls cX7_nextToken 2 D cI cZ cR adK adV A9) (ret : RTv p l e (rmN 1 21) s m args below meth c Q cX7_nextToken D A9 (fun (u : (tF × tA)) => K u.1 u.2) (fun (u : (tF × tA)) => (wX7 cI cZ o q u.1 u.2 : va_W)))  (H : Heap) (locs : List Loc) (ls : Array Slot) (h : p_X7_nextToken_J201 F A K) (hP : va_P D vwCl (wX7 cI cZ o q F A : va_W) H) (hD : va_D A9 (wX7 cI cZ o q F A : va_W)) (hS : va_S A9 s.heap H locs) (hl : lv_has ls 2 [(0, .ref o)]) : W p l e (rmN 1 21) s m args below meth c H locs 0 0 Q (F0 m 201 ls []) := by
  obtain ⟨hx, hb, hml, ht, hown, hK, hA, hE⟩ := id X
  unfold p_X7_nextToken_J201 at h
  refine lv_aload_n hx hb dX7_nextToken_201 rfl (lv_at hl 0 rfl) ?_
  refine lv_dup hx hb dX7_nextToken_202 rfl ?_
  refine va_get (C := RX7) (T := TX7) (N := 28) (own := RX7) (v := .int (F 9)) hx hb ht inlX7 hown hK hP 0 rfl rfl 9 (Nat.le_of_ble_eq_true rfl) (ht _ mw_12_1) (fun _ h9 => h9) rfl dX7_nextToken_203 ?_
  refine lv_aload_n hx hb dX7_nextToken_206 rfl (lv_at hl 0 rfl) ?_
  refine va_get (C := RX7) (T := TX7) (N := 28) (own := RX7) (v := .int (F 7)) hx hb ht inlX7 hown hK hP 0 rfl rfl 7 (Nat.le_of_ble_eq_true rfl) (ht _ mw_12_3) (fun _ h9 => h9) rfl dX7_nextToken_207 ?_
  refine lv_iconst (v := 2) hx hb dX7_nextToken_210 (by decide) ?_
  refine lv_icmp_le (tgt := 218) hx hb dX7_nextToken_211 (by decide) (fun c211 => ?_) (fun c211 => ?_)
  · replace h := h.1 c211
    refine lv_iconst (v := 0) hx hb dX7_nextToken_218 (by decide) ?_
    refine lv_iadd hx hb dX7_nextToken_219 ?_
    refine lv_topi (fun y220 ey220 => ?_)
    replace h := h y220 ey220
    refine va_put (C := RX7) (T := TX7) (N := 28) (own := RX7) (v := .int y220) hx hb ht inlX7 tyX7 tyX7_ok nmX7 hown hK hP hD hS 0 rfl rfl 9 (Nat.le_of_ble_eq_true rfl) (ht _ mw_12_1) (fun _ h9 => h9) rfl (tyX7_ok 9 (Nat.le_of_ble_eq_true rfl)) rfl rfl (Nat.le_of_ble_eq_true rfl) dX7_nextToken_220 (fun H locs hP hD hS => ?_)
    have hP : va_P D vwCl (wX7 cI cZ o q (upd F 9 y220) A : va_W) H := hP
    have hD : va_D A9 (wX7 cI cZ o q (upd F 9 y220) A : va_W) := hD
    exact ret ((upd F 9 y220), A) _ _ _ _ dX7_nextToken_223 h hP hD hS
  · replace h := h.2 c211
    refine lv_iconst (v := 1) hx hb dX7_nextToken_214 (by decide) ?_
    refine lv_goto (tgt := 219) hx hb dX7_nextToken_215 (by decide) ?_
    refine lv_iadd hx hb dX7_nextToken_219 ?_
    refine lv_topi (fun y220 ey220 => ?_)
    replace h := h y220 ey220
    refine va_put (C := RX7) (T := TX7) (N := 28) (own := RX7) (v := .int y220) hx hb ht inlX7 tyX7 tyX7_ok nmX7 hown hK hP hD hS 0 rfl rfl 9 (Nat.le_of_ble_eq_true rfl) (ht _ mw_12_1) (fun _ h9 => h9) rfl (tyX7_ok 9 (Nat.le_of_ble_eq_true rfl)) rfl rfl (Nat.le_of_ble_eq_true rfl) dX7_nextToken_220 (fun H locs hP hD hS => ?_)
    have hP : va_P D vwCl (wX7 cI cZ o q (upd F 9 y220) A : va_W) H := hP
    have hD : va_D A9 (wX7 cI cZ o q (upd F 9 y220) A : va_W) := hD
    exact ret ((upd F 9 y220), A) _ _ _ _ dX7_nextToken_223 h hP hD hS
def p_X7_nextToken_J185 (F : tF) (A : tA) (B126 : (tF → tA → Prop)) (K : tF → tA → Prop) (s0 : Int32) : Prop := (∀ y195 : Int32, y195 = ((F 9) + (1 : Int32)) → (B126 (upd (upd F 10 s0) 9 y195) A))
set_option maxHeartbeats 4000000 in
set_option maxRecDepth 100000 in
theorem b_X7_nextToken_J185 {p : Program} {l : Launch} {e : Env} {s : State} {m : MethodId} {args : Array Value} {below : List Frame} {meth : Method} {c : Code} {Q : State → Prop} {D : va_G} {cI cZ cR : ClassId} {adK adV : Nat → Nat} {A9 : Nat → Prop} {o : Nat} {q : Nat → Nat} {K : tF → tA → Prop} {B126 : (tF → tA → Prop)} (F : tF) (A : tA) (s0 : Int32) (X : CX p s m args c yX7_nextToken.cls cX7_nextToken 2 D cI cZ cR adK adV A9) (ret : RTv p l e (rmN 1 21) s m args below meth c Q cX7_nextToken D A9 (fun (u : (tF × tA)) => K u.1 u.2) (fun (u : (tF × tA)) => (wX7 cI cZ o q u.1 u.2 : va_W))) (hB126 : ∀ (F : tF) (A : tA) (H : Heap) (locs : List Loc) (ls : Array Slot), B126 F A → va_P D vwCl (wX7 cI cZ o q F A : va_W) H → va_D A9 (wX7 cI cZ o q F A : va_W) → va_S A9 s.heap H locs → lv_has ls 2 [(0, .ref o)] → W p l e (rmN 1 21) s m args below meth c H locs 0 0 Q (F0 m 126 ls [])) (H : Heap) (locs : List Loc) (ls : Array Slot) (h : p_X7_nextToken_J185 F A B126 K s0) (hP : va_P D vwCl (wX7 cI cZ o q F A : va_W) H) (hD : va_D A9 (wX7 cI cZ o q F A : va_W)) (hS : va_S A9 s.heap H locs) (hl : lv_has ls 2 [(0, .ref o)]) : W p l e (rmN 1 21) s m args below meth c H locs 0 0 Q (F0 m 185 ls [.int s0, .ref o]) := by
  obtain ⟨hx, hb, hml, ht, hown, hK, hA, hE⟩ := id X
  unfold p_X7_nextToken_J185 at h
  refine va_put (C := RX7) (T := TX7) (N := 28) (own := RX7) (v := .int s0) hx hb ht inlX7 tyX7 tyX7_ok nmX7 hown hK hP hD hS 0 rfl rfl 10 (Nat.le_of_ble_eq_true rfl) (ht _ mw_12_13) (fun _ h9 => h9) rfl (tyX7_ok 10 (Nat.le_of_ble_eq_true rfl)) rfl rfl (Nat.le_of_ble_eq_true rfl) dX7_nextToken_185 (fun H locs hP hD hS => ?_)
  have hP : va_P D vwCl (wX7 cI cZ o q (upd F 10 s0) A : va_W) H := hP
  have hD : va_D A9 (wX7 cI cZ o q (upd F 10 s0) A : va_W) := hD
  refine lv_aload_n hx hb dX7_nextToken_188 rfl (lv_at hl 0 rfl) ?_
  refine lv_dup hx hb dX7_nextToken_189 rfl ?_
  refine va_get (C := RX7) (T := TX7) (N := 28) (own := RX7) (v := .int (F 9)) hx hb ht inlX7 hown hK hP 0 rfl rfl 9 (Nat.le_of_ble_eq_true rfl) (ht _ mw_12_1) (fun _ h9 => h9) rfl dX7_nextToken_190 ?_
  refine lv_iconst (v := 1) hx hb dX7_nextToken_193 (by decide) ?_
  refine lv_iadd hx hb dX7_nextToken_194 ?_
  refine lv_topi (fun y195 ey195 => ?_)
  replace h := h y195 ey195
  refine va_put (C := RX7) (T := TX7) (N := 28) (own := RX7) (v := .int y195) hx hb ht inlX7 tyX7 tyX7_ok nmX7 hown hK hP hD hS 0 rfl rfl 9 (Nat.le_of_ble_eq_true rfl) (ht _ mw_12_1) (fun _ h9 => h9) rfl (tyX7_ok 9 (Nat.le_of_ble_eq_true rfl)) rfl rfl (Nat.le_of_ble_eq_true rfl) dX7_nextToken_195 (fun H locs hP hD hS => ?_)
  have hP : va_P D vwCl (wX7 cI cZ o q (upd (upd F 10 s0) 9 y195) A : va_W) H := hP
  have hD : va_D A9 (wX7 cI cZ o q (upd (upd F 10 s0) 9 y195) A : va_W) := hD
  refine lv_goto (tgt := 126) hx hb dX7_nextToken_198 (by decide) ?_
  exact hB126 (upd (upd F 10 s0) 9 y195) A _ _ _ h hP hD hS (lv_sub hl [0] rfl)
def p_X7_nextToken_L126 (K : tF → tA → Prop) : Nat → tF → tA → Prop
  | 0, _, _ => False
  | n126 + 1, F, A => ((¬ (F 7) = (2 : Int32) → (p_X7_nextToken_J201 F A K)) ∧ ((F 7) = (2 : Int32) → (p_X7_byteAt F A (F 9) (fun r139 => (p_X7_isDigit r139 (fun r142 => ((r142 = 0 → (p_X7_nextToken_J201 F A K)) ∧ (¬ r142 = 0 → (((F 10) ≤ (999 : Int32) → (p_X7_byteAt F A (F 9) (fun r178 => (p_X7_nextToken_J185 F A (p_X7_nextToken_L126 K n126) K ((((10 : Int32) * (F 10)) + r178) - (48 : Int32)))))) ∧ (¬ (F 10) ≤ (999 : Int32) → (p_X7_nextToken_J185 F A (p_X7_nextToken_L126 K n126) K (F 10))))))))))))
set_option maxHeartbeats 4000000 in
set_option maxRecDepth 100000 in
theorem b_X7_nextToken_L126 {p : Program} {l : Launch} {e : Env} {s : State} {m : MethodId} {args : Array Value} {below : List Frame} {meth : Method} {c : Code} {Q : State → Prop} {D : va_G} {cI cZ cR : ClassId} {adK adV : Nat → Nat} {A9 : Nat → Prop} {o : Nat} {q : Nat → Nat} {K : tF → tA → Prop}   (X : CX p s m args c yX7_nextToken.cls cX7_nextToken 2 D cI cZ cR adK adV A9) (ret : RTv p l e (rmN 1 21) s m args below meth c Q cX7_nextToken D A9 (fun (u : (tF × tA)) => K u.1 u.2) (fun (u : (tF × tA)) => (wX7 cI cZ o q u.1 u.2 : va_W)))   : ∀ (n : Nat) (F : tF) (A : tA) (H : Heap) (locs : List Loc) (ls : Array Slot), p_X7_nextToken_L126 K n F A → va_P D vwCl (wX7 cI cZ o q F A : va_W) H → va_D A9 (wX7 cI cZ o q F A : va_W) → va_S A9 s.heap H locs → lv_has ls 2 [(0, .ref o)] → W p l e (rmN 1 21) s m args below meth c H locs 0 0 Q (F0 m 126 ls []) := by
  obtain ⟨hx, hb, hml, ht, hown, hK, hA, hE⟩ := id X
  intro n
  induction n with
  | zero => intro F A H locs ls h; exact False.elim h
  | succ n126 ih =>
    intro F A H locs ls h hP hD hS hl
    rw [p_X7_nextToken_L126] at h
    refine lv_aload_n hx hb dX7_nextToken_126 rfl (lv_at hl 0 rfl) ?_
    refine va_get (C := RX7) (T := TX7) (N := 28) (own := RX7) (v := .int (F 7)) hx hb ht inlX7 hown hK hP 0 rfl rfl 7 (Nat.le_of_ble_eq_true rfl) (ht _ mw_12_3) (fun _ h9 => h9) rfl dX7_nextToken_127 ?_
    refine lv_iconst (v := 2) hx hb dX7_nextToken_130 (by decide) ?_
    refine lv_icmp_ne (tgt := 201) hx hb dX7_nextToken_131 (by decide) (fun c131 => ?_) (fun c131 => ?_)
    · replace h := h.1 c131
      exact b_X7_nextToken_J201 F A X ret  _ _ _ h hP hD hS (lv_sub hl [0] rfl)
    · replace h := h.2 c131
      refine lv_aload_n hx hb dX7_nextToken_134 rfl (lv_at hl 0 rfl) ?_
      refine lv_aload_n hx hb dX7_nextToken_135 rfl (lv_at hl 0 rfl) ?_
      refine va_get (C := RX7) (T := TX7) (N := 28) (own := RX7) (v := .int (F 9)) hx hb ht inlX7 hown hK hP 0 rfl rfl 9 (Nat.le_of_ble_eq_true rfl) (ht _ mw_12_1) (fun _ h9 => h9) rfl dX7_nextToken_136 ?_
      refine C_vi (wr := []) X hP hD hS [.int (F 9)] [] (w_X7_byteAt l D cI cZ cR adK adV _ o q F A (F 9) _ h) cal_X7_byteAt mw_12_14 rfl [0, 1, 2, 3, 4, 5, 6, 7, 8, 9, 10, 11, 12, 13, 14, 15] [] [0, 1, 2, 3, 4, 5, 6, 7, 8, 9, 10, 11, 12, 13, 14, 15] (fun u => (wX7 cI cZ o q F A : va_W)) rfl rfl (fun _ => rfl) rfl 0 rfl rfl ⟨rfl, rfl⟩ ⟨Nat.le_of_ble_eq_true rfl, Nat.le_of_ble_eq_true rfl⟩ hl.1 rfl (Nat.le_of_ble_eq_true rfl) ⟨Nat.zero_le _, Nat.zero_le _⟩ dX7_nextToken_139 (fun r139 u H locs h hP hD hS => ?_)
      refine C_si (wr := [0, 1, 2, 3, 4, 5, 6, 7, 8, 9, 10, 11, 12, 13, 14, 15].filterMap (fun i => (wX7 cI cZ o q F A : va_W)[i]?)) X hP hD hS [.int r139] [] (w_X7_isDigit l D cI cZ cR adK adV _ r139 _ h) cal_X7_isDigit mw_12_21 rfl [] [0, 1, 2, 3, 4, 5, 6, 7, 8, 9, 10, 11, 12, 13, 14, 15] [0, 1, 2, 3, 4, 5, 6, 7, 8, 9, 10, 11, 12, 13, 14, 15] (fun u => (wX7 cI cZ o q F A : va_W)) rfl rfl (fun _ => rfl) rfl ⟨rfl, rfl⟩ ⟨Nat.le_of_ble_eq_true rfl, Nat.le_of_ble_eq_true rfl⟩ hl.1 rfl (Nat.le_of_ble_eq_true rfl) ⟨Nat.zero_le _, Nat.zero_le _⟩ dX7_nextToken_142 (fun r142 u H locs h hP hD hS => ?_)
      refine lv_if_eq (tgt := 201) hx hb dX7_nextToken_145 (by decide) (fun c145 => ?_) (fun c145 => ?_)
      · replace h := h.1 c145
        exact b_X7_nextToken_J201 F A X ret  _ _ _ h hP hD hS (lv_sub hl [0] rfl)
      · replace h := h.2 c145
        refine lv_aload_n hx hb dX7_nextToken_148 rfl (lv_at hl 0 rfl) ?_
        refine lv_aload_n hx hb dX7_nextToken_149 rfl (lv_at hl 0 rfl) ?_
        refine va_get (C := RX7) (T := TX7) (N := 28) (own := RX7) (v := .int (F 10)) hx hb ht inlX7 hown hK hP 0 rfl rfl 10 (Nat.le_of_ble_eq_true rfl) (ht _ mw_12_13) (fun _ h9 => h9) rfl dX7_nextToken_150 ?_
        refine lv_sipush (v := 999) hx hb dX7_nextToken_153 (by decide) ?_
        refine lv_icmp_le (tgt := 166) hx hb dX7_nextToken_156 (by decide) (fun c156 => ?_) (fun c156 => ?_)
        · replace h := h.1 c156
          refine lv_bipush (v := 10) hx hb dX7_nextToken_166 (by decide) ?_
          refine lv_aload_n hx hb dX7_nextToken_168 rfl (lv_at hl 0 rfl) ?_
          refine va_get (C := RX7) (T := TX7) (N := 28) (own := RX7) (v := .int (F 10)) hx hb ht inlX7 hown hK hP 0 rfl rfl 10 (Nat.le_of_ble_eq_true rfl) (ht _ mw_12_13) (fun _ h9 => h9) rfl dX7_nextToken_169 ?_
          refine lv_imul hx hb dX7_nextToken_172 ?_
          refine lv_aload_n hx hb dX7_nextToken_173 rfl (lv_at hl 0 rfl) ?_
          refine lv_aload_n hx hb dX7_nextToken_174 rfl (lv_at hl 0 rfl) ?_
          refine va_get (C := RX7) (T := TX7) (N := 28) (own := RX7) (v := .int (F 9)) hx hb ht inlX7 hown hK hP 0 rfl rfl 9 (Nat.le_of_ble_eq_true rfl) (ht _ mw_12_1) (fun _ h9 => h9) rfl dX7_nextToken_175 ?_
          refine C_vi (wr := []) X hP hD hS [.int (F 9)] [.int ((10 : Int32) * (F 10)), .ref o] (w_X7_byteAt l D cI cZ cR adK adV _ o q F A (F 9) _ h) cal_X7_byteAt mw_12_14 rfl [0, 1, 2, 3, 4, 5, 6, 7, 8, 9, 10, 11, 12, 13, 14, 15] [] [0, 1, 2, 3, 4, 5, 6, 7, 8, 9, 10, 11, 12, 13, 14, 15] (fun u => (wX7 cI cZ o q F A : va_W)) rfl rfl (fun _ => rfl) rfl 0 rfl rfl ⟨rfl, rfl⟩ ⟨Nat.le_of_ble_eq_true rfl, Nat.le_of_ble_eq_true rfl⟩ hl.1 rfl (Nat.le_of_ble_eq_true rfl) ⟨Nat.zero_le _, Nat.zero_le _⟩ dX7_nextToken_178 (fun r178 u H locs h hP hD hS => ?_)
          refine lv_iadd hx hb dX7_nextToken_181 ?_
          refine lv_bipush (v := 48) hx hb dX7_nextToken_182 (by decide) ?_
          refine lv_isub hx hb dX7_nextToken_184 ?_
          exact b_X7_nextToken_J185 F A ((((10 : Int32) * (F 10)) + r178) - (48 : Int32)) X ret ih _ _ _ h hP hD hS (lv_sub hl [0] rfl)
        · replace h := h.2 c156
          refine lv_aload_n hx hb dX7_nextToken_159 rfl (lv_at hl 0 rfl) ?_
          refine va_get (C := RX7) (T := TX7) (N := 28) (own := RX7) (v := .int (F 10)) hx hb ht inlX7 hown hK hP 0 rfl rfl 10 (Nat.le_of_ble_eq_true rfl) (ht _ mw_12_13) (fun _ h9 => h9) rfl dX7_nextToken_160 ?_
          refine lv_goto (tgt := 185) hx hb dX7_nextToken_163 (by decide) ?_
          exact b_X7_nextToken_J185 F A (F 10) X ret ih _ _ _ h hP hD hS (lv_sub hl [0] rfl)
def p_X7_nextToken_L91 (K : tF → tA → Prop) : Nat → tF → tA → Prop
  | 0, _, _ => False
  | n91 + 1, F, A => ((¬ (F 7) = (1 : Int32) → (∃ n126, p_X7_nextToken_L126 K n126 F A)) ∧ ((F 7) = (1 : Int32) → (p_X7_byteAt F A (F 9) (fun r104 => (p_X7_isAlpha r104 (fun r107 => ((r107 = 0 → (∃ n126, p_X7_nextToken_L126 K n126 F A)) ∧ (¬ r107 = 0 → (∀ y120 : Int32, y120 = ((F 9) + (1 : Int32)) → ((p_X7_nextToken_L91 K n91) (upd F 9 y120) A))))))))))
set_option maxHeartbeats 4000000 in
set_option maxRecDepth 100000 in
theorem b_X7_nextToken_L91 {p : Program} {l : Launch} {e : Env} {s : State} {m : MethodId} {args : Array Value} {below : List Frame} {meth : Method} {c : Code} {Q : State → Prop} {D : va_G} {cI cZ cR : ClassId} {adK adV : Nat → Nat} {A9 : Nat → Prop} {o : Nat} {q : Nat → Nat} {K : tF → tA → Prop}   (X : CX p s m args c yX7_nextToken.cls cX7_nextToken 2 D cI cZ cR adK adV A9) (ret : RTv p l e (rmN 1 21) s m args below meth c Q cX7_nextToken D A9 (fun (u : (tF × tA)) => K u.1 u.2) (fun (u : (tF × tA)) => (wX7 cI cZ o q u.1 u.2 : va_W)))   : ∀ (n : Nat) (F : tF) (A : tA) (H : Heap) (locs : List Loc) (ls : Array Slot), p_X7_nextToken_L91 K n F A → va_P D vwCl (wX7 cI cZ o q F A : va_W) H → va_D A9 (wX7 cI cZ o q F A : va_W) → va_S A9 s.heap H locs → lv_has ls 2 [(0, .ref o)] → W p l e (rmN 1 21) s m args below meth c H locs 0 0 Q (F0 m 91 ls []) := by
  obtain ⟨hx, hb, hml, ht, hown, hK, hA, hE⟩ := id X
  intro n
  induction n with
  | zero => intro F A H locs ls h; exact False.elim h
  | succ n91 ih =>
    intro F A H locs ls h hP hD hS hl
    rw [p_X7_nextToken_L91] at h
    refine lv_aload_n hx hb dX7_nextToken_91 rfl (lv_at hl 0 rfl) ?_
    refine va_get (C := RX7) (T := TX7) (N := 28) (own := RX7) (v := .int (F 7)) hx hb ht inlX7 hown hK hP 0 rfl rfl 7 (Nat.le_of_ble_eq_true rfl) (ht _ mw_12_3) (fun _ h9 => h9) rfl dX7_nextToken_92 ?_
    refine lv_iconst (v := 1) hx hb dX7_nextToken_95 (by decide) ?_
    refine lv_icmp_ne (tgt := 126) hx hb dX7_nextToken_96 (by decide) (fun c96 => ?_) (fun c96 => ?_)
    · replace h := h.1 c96
      obtain ⟨n126, h⟩ := h
      exact b_X7_nextToken_L126  X ret  n126 F A _ _ _ h hP hD hS (lv_sub hl [0] rfl)
    · replace h := h.2 c96
      refine lv_aload_n hx hb dX7_nextToken_99 rfl (lv_at hl 0 rfl) ?_
      refine lv_aload_n hx hb dX7_nextToken_100 rfl (lv_at hl 0 rfl) ?_
      refine va_get (C := RX7) (T := TX7) (N := 28) (own := RX7) (v := .int (F 9)) hx hb ht inlX7 hown hK hP 0 rfl rfl 9 (Nat.le_of_ble_eq_true rfl) (ht _ mw_12_1) (fun _ h9 => h9) rfl dX7_nextToken_101 ?_
      refine C_vi (wr := []) X hP hD hS [.int (F 9)] [] (w_X7_byteAt l D cI cZ cR adK adV _ o q F A (F 9) _ h) cal_X7_byteAt mw_12_14 rfl [0, 1, 2, 3, 4, 5, 6, 7, 8, 9, 10, 11, 12, 13, 14, 15] [] [0, 1, 2, 3, 4, 5, 6, 7, 8, 9, 10, 11, 12, 13, 14, 15] (fun u => (wX7 cI cZ o q F A : va_W)) rfl rfl (fun _ => rfl) rfl 0 rfl rfl ⟨rfl, rfl⟩ ⟨Nat.le_of_ble_eq_true rfl, Nat.le_of_ble_eq_true rfl⟩ hl.1 rfl (Nat.le_of_ble_eq_true rfl) ⟨Nat.zero_le _, Nat.zero_le _⟩ dX7_nextToken_104 (fun r104 u H locs h hP hD hS => ?_)
      refine C_si (wr := [0, 1, 2, 3, 4, 5, 6, 7, 8, 9, 10, 11, 12, 13, 14, 15].filterMap (fun i => (wX7 cI cZ o q F A : va_W)[i]?)) X hP hD hS [.int r104] [] (w_X7_isAlpha l D cI cZ cR adK adV _ r104 _ h) cal_X7_isAlpha mw_12_18 rfl [] [0, 1, 2, 3, 4, 5, 6, 7, 8, 9, 10, 11, 12, 13, 14, 15] [0, 1, 2, 3, 4, 5, 6, 7, 8, 9, 10, 11, 12, 13, 14, 15] (fun u => (wX7 cI cZ o q F A : va_W)) rfl rfl (fun _ => rfl) rfl ⟨rfl, rfl⟩ ⟨Nat.le_of_ble_eq_true rfl, Nat.le_of_ble_eq_true rfl⟩ hl.1 rfl (Nat.le_of_ble_eq_true rfl) ⟨Nat.zero_le _, Nat.zero_le _⟩ dX7_nextToken_107 (fun r107 u H locs h hP hD hS => ?_)
      refine lv_if_eq (tgt := 126) hx hb dX7_nextToken_110 (by decide) (fun c110 => ?_) (fun c110 => ?_)
      · replace h := h.1 c110
        obtain ⟨n126, h⟩ := h
        exact b_X7_nextToken_L126  X ret  n126 F A _ _ _ h hP hD hS (lv_sub hl [0] rfl)
      · replace h := h.2 c110
        refine lv_aload_n hx hb dX7_nextToken_113 rfl (lv_at hl 0 rfl) ?_
        refine lv_dup hx hb dX7_nextToken_114 rfl ?_
        refine va_get (C := RX7) (T := TX7) (N := 28) (own := RX7) (v := .int (F 9)) hx hb ht inlX7 hown hK hP 0 rfl rfl 9 (Nat.le_of_ble_eq_true rfl) (ht _ mw_12_1) (fun _ h9 => h9) rfl dX7_nextToken_115 ?_
        refine lv_iconst (v := 1) hx hb dX7_nextToken_118 (by decide) ?_
        refine lv_iadd hx hb dX7_nextToken_119 ?_
        refine lv_topi (fun y120 ey120 => ?_)
        replace h := h y120 ey120
        refine va_put (C := RX7) (T := TX7) (N := 28) (own := RX7) (v := .int y120) hx hb ht inlX7 tyX7 tyX7_ok nmX7 hown hK hP hD hS 0 rfl rfl 9 (Nat.le_of_ble_eq_true rfl) (ht _ mw_12_1) (fun _ h9 => h9) rfl (tyX7_ok 9 (Nat.le_of_ble_eq_true rfl)) rfl rfl (Nat.le_of_ble_eq_true rfl) dX7_nextToken_120 (fun H locs hP hD hS => ?_)
        have hP : va_P D vwCl (wX7 cI cZ o q (upd F 9 y120) A : va_W) H := hP
        have hD : va_D A9 (wX7 cI cZ o q (upd F 9 y120) A : va_W) := hD
        refine lv_goto (tgt := 91) hx hb dX7_nextToken_123 (by decide) ?_
        exact ih (upd F 9 y120) A _ _ _ h hP hD hS (lv_sub hl [0] rfl)
def p_X7_nextToken_J83 (F : tF) (A : tA) (K : tF → tA → Prop) (s0 : Int32) : Prop := (∃ n91, p_X7_nextToken_L91 K n91 (upd (upd F 7 s0) 10 (0 : Int32)) A)
set_option maxHeartbeats 4000000 in
set_option maxRecDepth 100000 in
theorem b_X7_nextToken_J83 {p : Program} {l : Launch} {e : Env} {s : State} {m : MethodId} {args : Array Value} {below : List Frame} {meth : Method} {c : Code} {Q : State → Prop} {D : va_G} {cI cZ cR : ClassId} {adK adV : Nat → Nat} {A9 : Nat → Prop} {o : Nat} {q : Nat → Nat} {K : tF → tA → Prop}  (F : tF) (A : tA) (s0 : Int32) (X : CX p s m args c yX7_nextToken.cls cX7_nextToken 2 D cI cZ cR adK adV A9) (ret : RTv p l e (rmN 1 21) s m args below meth c Q cX7_nextToken D A9 (fun (u : (tF × tA)) => K u.1 u.2) (fun (u : (tF × tA)) => (wX7 cI cZ o q u.1 u.2 : va_W)))  (H : Heap) (locs : List Loc) (ls : Array Slot) (h : p_X7_nextToken_J83 F A K s0) (hP : va_P D vwCl (wX7 cI cZ o q F A : va_W) H) (hD : va_D A9 (wX7 cI cZ o q F A : va_W)) (hS : va_S A9 s.heap H locs) (hl : lv_has ls 2 [(0, .ref o)]) : W p l e (rmN 1 21) s m args below meth c H locs 0 0 Q (F0 m 83 ls [.int s0, .ref o]) := by
  obtain ⟨hx, hb, hml, ht, hown, hK, hA, hE⟩ := id X
  unfold p_X7_nextToken_J83 at h
  refine va_put (C := RX7) (T := TX7) (N := 28) (own := RX7) (v := .int s0) hx hb ht inlX7 tyX7 tyX7_ok nmX7 hown hK hP hD hS 0 rfl rfl 7 (Nat.le_of_ble_eq_true rfl) (ht _ mw_12_3) (fun _ h9 => h9) rfl (tyX7_ok 7 (Nat.le_of_ble_eq_true rfl)) rfl rfl (Nat.le_of_ble_eq_true rfl) dX7_nextToken_83 (fun H locs hP hD hS => ?_)
  have hP : va_P D vwCl (wX7 cI cZ o q (upd F 7 s0) A : va_W) H := hP
  have hD : va_D A9 (wX7 cI cZ o q (upd F 7 s0) A : va_W) := hD
  refine lv_aload_n hx hb dX7_nextToken_86 rfl (lv_at hl 0 rfl) ?_
  refine lv_iconst (v := 0) hx hb dX7_nextToken_87 (by decide) ?_
  refine va_put (C := RX7) (T := TX7) (N := 28) (own := RX7) (v := .int (0 : Int32)) hx hb ht inlX7 tyX7 tyX7_ok nmX7 hown hK hP hD hS 0 rfl rfl 10 (Nat.le_of_ble_eq_true rfl) (ht _ mw_12_13) (fun _ h9 => h9) rfl (tyX7_ok 10 (Nat.le_of_ble_eq_true rfl)) rfl rfl (Nat.le_of_ble_eq_true rfl) dX7_nextToken_88 (fun H locs hP hD hS => ?_)
  have hP : va_P D vwCl (wX7 cI cZ o q (upd (upd F 7 s0) 10 (0 : Int32)) A : va_W) H := hP
  have hD : va_D A9 (wX7 cI cZ o q (upd (upd F 7 s0) 10 (0 : Int32)) A : va_W) := hD
  obtain ⟨n91, h⟩ := h
  exact b_X7_nextToken_L91  X ret  n91 (upd (upd F 7 s0) 10 (0 : Int32)) A _ _ _ h hP hD hS (lv_sub hl [0] rfl)
def p_X7_nextToken_L8 (K : tF → tA → Prop) : Nat → tF → tA → Prop
  | 0, _, _ => False
  | n8 + 1, F, A => (p_X7_byteAt F A (F 8) (fun r13 => ((¬ r13 = (32 : Int32) → (∀ y39 : Int32, y39 = (F 8) → (p_X7_byteAt (upd F 9 y39) A (F 8) (fun r47 => ((0 ≤ r47 → (p_X7_isAlpha r47 (fun r61 => ((r61 = 0 → (p_X7_isDigit r47 (fun r72 => ((r72 = 0 → (p_X7_nextToken_J83 (upd F 9 y39) A K (3 : Int32))) ∧ (¬ r72 = 0 → (p_X7_nextToken_J83 (upd F 9 y39) A K (2 : Int32))))))) ∧ (¬ r61 = 0 → (p_X7_nextToken_J83 (upd F 9 y39) A K (1 : Int32))))))) ∧ (¬ 0 ≤ r47 → (p_X7_nextToken_J83 (upd F 9 y39) A K (0 : Int32)))))))) ∧ (r13 = (32 : Int32) → (∀ y28 : Int32, y28 = ((F 8) + (1 : Int32)) → ((p_X7_nextToken_L8 K n8) (upd F 8 y28) A))))))
set_option maxHeartbeats 4000000 in
set_option maxRecDepth 100000 in
theorem b_X7_nextToken_L8 {p : Program} {l : Launch} {e : Env} {s : State} {m : MethodId} {args : Array Value} {below : List Frame} {meth : Method} {c : Code} {Q : State → Prop} {D : va_G} {cI cZ cR : ClassId} {adK adV : Nat → Nat} {A9 : Nat → Prop} {o : Nat} {q : Nat → Nat} {K : tF → tA → Prop}   (X : CX p s m args c yX7_nextToken.cls cX7_nextToken 2 D cI cZ cR adK adV A9) (ret : RTv p l e (rmN 1 21) s m args below meth c Q cX7_nextToken D A9 (fun (u : (tF × tA)) => K u.1 u.2) (fun (u : (tF × tA)) => (wX7 cI cZ o q u.1 u.2 : va_W)))   : ∀ (n : Nat) (F : tF) (A : tA) (H : Heap) (locs : List Loc) (ls : Array Slot), p_X7_nextToken_L8 K n F A → va_P D vwCl (wX7 cI cZ o q F A : va_W) H → va_D A9 (wX7 cI cZ o q F A : va_W) → va_S A9 s.heap H locs → lv_has ls 2 [(0, .ref o)] → W p l e (rmN 1 21) s m args below meth c H locs 0 0 Q (F0 m 8 ls []) := by
  obtain ⟨hx, hb, hml, ht, hown, hK, hA, hE⟩ := id X
  intro n
  induction n with
  | zero => intro F A H locs ls h; exact False.elim h
  | succ n8 ih =>
    intro F A H locs ls h hP hD hS hl
    rw [p_X7_nextToken_L8] at h
    refine lv_aload_n hx hb dX7_nextToken_8 rfl (lv_at hl 0 rfl) ?_
    refine lv_aload_n hx hb dX7_nextToken_9 rfl (lv_at hl 0 rfl) ?_
    refine va_get (C := RX7) (T := TX7) (N := 28) (own := RX7) (v := .int (F 8)) hx hb ht inlX7 hown hK hP 0 rfl rfl 8 (Nat.le_of_ble_eq_true rfl) (ht _ mw_12_4) (fun _ h9 => h9) rfl dX7_nextToken_10 ?_
    refine C_vi (wr := []) X hP hD hS [.int (F 8)] [] (w_X7_byteAt l D cI cZ cR adK adV _ o q F A (F 8) _ h) cal_X7_byteAt mw_12_14 rfl [0, 1, 2, 3, 4, 5, 6, 7, 8, 9, 10, 11, 12, 13, 14, 15] [] [0, 1, 2, 3, 4, 5, 6, 7, 8, 9, 10, 11, 12, 13, 14, 15] (fun u => (wX7 cI cZ o q F A : va_W)) rfl rfl (fun _ => rfl) rfl 0 rfl rfl ⟨rfl, rfl⟩ ⟨Nat.le_of_ble_eq_true rfl, Nat.le_of_ble_eq_true rfl⟩ hl.1 rfl (Nat.le_of_ble_eq_true rfl) ⟨Nat.zero_le _, Nat.zero_le _⟩ dX7_nextToken_13 (fun r13 u H locs h hP hD hS => ?_)
    refine lv_bipush (v := 32) hx hb dX7_nextToken_16 (by decide) ?_
    refine lv_icmp_ne (tgt := 34) hx hb dX7_nextToken_18 (by decide) (fun c18 => ?_) (fun c18 => ?_)
    · replace h := h.1 c18
      refine lv_aload_n hx hb dX7_nextToken_34 rfl (lv_at hl 0 rfl) ?_
      refine lv_aload_n hx hb dX7_nextToken_35 rfl (lv_at hl 0 rfl) ?_
      refine va_get (C := RX7) (T := TX7) (N := 28) (own := RX7) (v := .int (F 8)) hx hb ht inlX7 hown hK hP 0 rfl rfl 8 (Nat.le_of_ble_eq_true rfl) (ht _ mw_12_4) (fun _ h9 => h9) rfl dX7_nextToken_36 ?_
      refine lv_topi (fun y39 ey39 => ?_)
      replace h := h y39 ey39
      refine va_put (C := RX7) (T := TX7) (N := 28) (own := RX7) (v := .int y39) hx hb ht inlX7 tyX7 tyX7_ok nmX7 hown hK hP hD hS 0 rfl rfl 9 (Nat.le_of_ble_eq_true rfl) (ht _ mw_12_1) (fun _ h9 => h9) rfl (tyX7_ok 9 (Nat.le_of_ble_eq_true rfl)) rfl rfl (Nat.le_of_ble_eq_true rfl) dX7_nextToken_39 (fun H locs hP hD hS => ?_)
      have hP : va_P D vwCl (wX7 cI cZ o q (upd F 9 y39) A : va_W) H := hP
      have hD : va_D A9 (wX7 cI cZ o q (upd F 9 y39) A : va_W) := hD
      refine lv_aload_n hx hb dX7_nextToken_42 rfl (lv_at hl 0 rfl) ?_
      refine lv_aload_n hx hb dX7_nextToken_43 rfl (lv_at hl 0 rfl) ?_
      refine va_get (C := RX7) (T := TX7) (N := 28) (own := RX7) (v := .int (F 8)) hx hb ht inlX7 hown hK hP 0 rfl rfl 8 (Nat.le_of_ble_eq_true rfl) (ht _ mw_12_4) (fun _ h9 => h9) rfl dX7_nextToken_44 ?_
      refine C_vi (wr := []) X hP hD hS [.int (F 8)] [] (w_X7_byteAt l D cI cZ cR adK adV _ o q (upd F 9 y39) A (F 8) _ h) cal_X7_byteAt mw_12_14 rfl [0, 1, 2, 3, 4, 5, 6, 7, 8, 9, 10, 11, 12, 13, 14, 15] [] [0, 1, 2, 3, 4, 5, 6, 7, 8, 9, 10, 11, 12, 13, 14, 15] (fun u => (wX7 cI cZ o q (upd F 9 y39) A : va_W)) rfl rfl (fun _ => rfl) rfl 0 rfl rfl ⟨rfl, rfl⟩ ⟨Nat.le_of_ble_eq_true rfl, Nat.le_of_ble_eq_true rfl⟩ hl.1 rfl (Nat.le_of_ble_eq_true rfl) ⟨Nat.zero_le _, Nat.zero_le _⟩ dX7_nextToken_47 (fun r47 u H locs h hP hD hS => ?_)
      refine lv_istore_n (lv' := [(1, .int r47), (0, .ref o)]) hx hb dX7_nextToken_50 rfl hl (by decide) rfl (fun ls hl => ?_)
      refine lv_aload_n hx hb dX7_nextToken_51 rfl (lv_at hl 1 rfl) ?_
      refine lv_iload_n hx hb dX7_nextToken_52 rfl (lv_at hl 0 rfl) ?_
      refine lv_if_ge (tgt := 60) hx hb dX7_nextToken_53 (by decide) (fun c53 => ?_) (fun c53 => ?_)
      · replace h := h.1 c53
        refine lv_iload_n hx hb dX7_nextToken_60 rfl (lv_at hl 0 rfl) ?_
        refine C_si (wr := [0, 1, 2, 3, 4, 5, 6, 7, 8, 9, 10, 11, 12, 13, 14, 15].filterMap (fun i => (wX7 cI cZ o q (upd F 9 y39) A : va_W)[i]?)) X hP hD hS [.int r47] [.ref o] (w_X7_isAlpha l D cI cZ cR adK adV _ r47 _ h) cal_X7_isAlpha mw_12_18 rfl [] [0, 1, 2, 3, 4, 5, 6, 7, 8, 9, 10, 11, 12, 13, 14, 15] [0, 1, 2, 3, 4, 5, 6, 7, 8, 9, 10, 11, 12, 13, 14, 15] (fun u => (wX7 cI cZ o q (upd F 9 y39) A : va_W)) rfl rfl (fun _ => rfl) rfl ⟨rfl, rfl⟩ ⟨Nat.le_of_ble_eq_true rfl, Nat.le_of_ble_eq_true rfl⟩ hl.1 rfl (Nat.le_of_ble_eq_true rfl) ⟨Nat.zero_le _, Nat.zero_le _⟩ dX7_nextToken_61 (fun r61 u H locs h hP hD hS => ?_)
        refine lv_if_eq (tgt := 71) hx hb dX7_nextToken_64 (by decide) (fun c64 => ?_) (fun c64 => ?_)
        · replace h := h.1 c64
          refine lv_iload_n hx hb dX7_nextToken_71 rfl (lv_at hl 0 rfl) ?_
          refine C_si (wr := [0, 1, 2, 3, 4, 5, 6, 7, 8, 9, 10, 11, 12, 13, 14, 15].filterMap (fun i => (wX7 cI cZ o q (upd F 9 y39) A : va_W)[i]?)) X hP hD hS [.int r47] [.ref o] (w_X7_isDigit l D cI cZ cR adK adV _ r47 _ h) cal_X7_isDigit mw_12_21 rfl [] [0, 1, 2, 3, 4, 5, 6, 7, 8, 9, 10, 11, 12, 13, 14, 15] [0, 1, 2, 3, 4, 5, 6, 7, 8, 9, 10, 11, 12, 13, 14, 15] (fun u => (wX7 cI cZ o q (upd F 9 y39) A : va_W)) rfl rfl (fun _ => rfl) rfl ⟨rfl, rfl⟩ ⟨Nat.le_of_ble_eq_true rfl, Nat.le_of_ble_eq_true rfl⟩ hl.1 rfl (Nat.le_of_ble_eq_true rfl) ⟨Nat.zero_le _, Nat.zero_le _⟩ dX7_nextToken_72 (fun r72 u H locs h hP hD hS => ?_)
          refine lv_if_eq (tgt := 82) hx hb dX7_nextToken_75 (by decide) (fun c75 => ?_) (fun c75 => ?_)
          · replace h := h.1 c75
            refine lv_iconst (v := 3) hx hb dX7_nextToken_82 (by decide) ?_
            exact b_X7_nextToken_J83 (upd F 9 y39) A (3 : Int32) X ret  _ _ _ h hP hD hS (lv_sub hl [1] rfl)
          · replace h := h.2 c75
            refine lv_iconst (v := 2) hx hb dX7_nextToken_78 (by decide) ?_
            refine lv_goto (tgt := 83) hx hb dX7_nextToken_79 (by decide) ?_
            exact b_X7_nextToken_J83 (upd F 9 y39) A (2 : Int32) X ret  _ _ _ h hP hD hS (lv_sub hl [1] rfl)
        · replace h := h.2 c64
          refine lv_iconst (v := 1) hx hb dX7_nextToken_67 (by decide) ?_
          refine lv_goto (tgt := 83) hx hb dX7_nextToken_68 (by decide) ?_
          exact b_X7_nextToken_J83 (upd F 9 y39) A (1 : Int32) X ret  _ _ _ h hP hD hS (lv_sub hl [1] rfl)
      · replace h := h.2 c53
        refine lv_iconst (v := 0) hx hb dX7_nextToken_56 (by decide) ?_
        refine lv_goto (tgt := 83) hx hb dX7_nextToken_57 (by decide) ?_
        exact b_X7_nextToken_J83 (upd F 9 y39) A (0 : Int32) X ret  _ _ _ h hP hD hS (lv_sub hl [1] rfl)
    · replace h := h.2 c18
      refine lv_aload_n hx hb dX7_nextToken_21 rfl (lv_at hl 0 rfl) ?_
      refine lv_dup hx hb dX7_nextToken_22 rfl ?_
      refine va_get (C := RX7) (T := TX7) (N := 28) (own := RX7) (v := .int (F 8)) hx hb ht inlX7 hown hK hP 0 rfl rfl 8 (Nat.le_of_ble_eq_true rfl) (ht _ mw_12_4) (fun _ h9 => h9) rfl dX7_nextToken_23 ?_
      refine lv_iconst (v := 1) hx hb dX7_nextToken_26 (by decide) ?_
      refine lv_iadd hx hb dX7_nextToken_27 ?_
      refine lv_topi (fun y28 ey28 => ?_)
      replace h := h y28 ey28
      refine va_put (C := RX7) (T := TX7) (N := 28) (own := RX7) (v := .int y28) hx hb ht inlX7 tyX7 tyX7_ok nmX7 hown hK hP hD hS 0 rfl rfl 8 (Nat.le_of_ble_eq_true rfl) (ht _ mw_12_4) (fun _ h9 => h9) rfl (tyX7_ok 8 (Nat.le_of_ble_eq_true rfl)) rfl rfl (Nat.le_of_ble_eq_true rfl) dX7_nextToken_28 (fun H locs hP hD hS => ?_)
      have hP : va_P D vwCl (wX7 cI cZ o q (upd F 8 y28) A : va_W) H := hP
      have hD : va_D A9 (wX7 cI cZ o q (upd F 8 y28) A : va_W) := hD
      refine lv_goto (tgt := 8) hx hb dX7_nextToken_31 (by decide) ?_
      exact ih (upd F 8 y28) A _ _ _ h hP hD hS (lv_sub hl [0] rfl)
def p_X7_nextToken (F : tF) (A : tA) (K : tF → tA → Prop) : Prop := (∀ y5 : Int32, y5 = (F 9) → (∃ n8, p_X7_nextToken_L8 K n8 (upd F 8 y5) A))
set_option maxHeartbeats 4000000 in
set_option maxRecDepth 100000 in
theorem w_X7_nextToken (l : Launch) (D : va_G) (cI cZ cR : ClassId) (adK adV : Nat → Nat) (sz : Nat) (o : Nat) (q : Nat → Nat) (F : tF) (A : tA) (K : tF → tA → Prop) (h : p_X7_nextToken F A K) : MV l D cI cZ cR adK adV yX7_nextToken cX7_nextToken 2 none (rmN 1 21) [.ref o] (wX7 cI cZ o q F A : va_W) sz (fun (u : (tF × tA)) => K u.1 u.2) (fun (u : (tF × tA)) => (wX7 cI cZ o q u.1 u.2 : va_W)) := by
  refine M_v (by decide +kernel) (Nat.le_of_ble_eq_true rfl) ?_
  intro p e s m args below meth c Q A9 ls X ret hP hD hS hl
  obtain ⟨hx, hb, hml, ht, hown, hK, hA, hE⟩ := id X
  have hl : lv_has ls 2 [(0, .ref o)] := hl
  unfold p_X7_nextToken at h
  refine lv_aload_n hx hb dX7_nextToken_0 rfl (lv_at hl 0 rfl) ?_
  refine lv_aload_n hx hb dX7_nextToken_1 rfl (lv_at hl 0 rfl) ?_
  refine va_get (C := RX7) (T := TX7) (N := 28) (own := RX7) (v := .int (F 9)) hx hb ht inlX7 hown hK hP 0 rfl rfl 9 (Nat.le_of_ble_eq_true rfl) (ht _ mw_12_1) (fun _ h9 => h9) rfl dX7_nextToken_2 ?_
  refine lv_topi (fun y5 ey5 => ?_)
  replace h := h y5 ey5
  refine va_put (C := RX7) (T := TX7) (N := 28) (own := RX7) (v := .int y5) hx hb ht inlX7 tyX7 tyX7_ok nmX7 hown hK hP hD hS 0 rfl rfl 8 (Nat.le_of_ble_eq_true rfl) (ht _ mw_12_4) (fun _ h9 => h9) rfl (tyX7_ok 8 (Nat.le_of_ble_eq_true rfl)) rfl rfl (Nat.le_of_ble_eq_true rfl) dX7_nextToken_5 (fun H locs hP hD hS => ?_)
  have hP : va_P D vwCl (wX7 cI cZ o q (upd F 8 y5) A : va_W) H := hP
  have hD : va_D A9 (wX7 cI cZ o q (upd F 8 y5) A : va_W) := hD
  obtain ⟨n8, h⟩ := h
  exact b_X7_nextToken_L8  X ret  n8 (upd F 8 y5) A _ _ _ h hP hD hS (lv_sub hl [0] rfl)
theorem cal_X7_nextToken : CalV yX7_nextToken cX7_nextToken 2 none 0 := ⟨mw_12_12, mw_1_5, mw_12_10, mw_12_11, ⟨by decide +kernel, by decide +kernel, by decide +kernel⟩⟩
theorem dX7_needs_0 : decode cX7_needs 0 = .ok (.aload_n 0, 1) := by decide +kernel
theorem dX7_needs_1 : decode cX7_needs 1 = .ok (.aload_n 0, 1) := by decide +kernel
theorem dX7_needs_2 : decode cX7_needs 2 = .ok (.getfield 94, 3) := by decide +kernel
theorem dX7_needs_5 : decode cX7_needs 5 = .ok (.ifCond .ne 7, 3) := by decide +kernel
theorem dX7_needs_8 : decode cX7_needs 8 = .ok (.iload_n 1, 1) := by decide +kernel
theorem dX7_needs_9 : decode cX7_needs 9 = .ok (.ifCond .ne 7, 3) := by decide +kernel
theorem dX7_needs_12 : decode cX7_needs 12 = .ok (.iconst 1, 1) := by decide +kernel
theorem dX7_needs_13 : decode cX7_needs 13 = .ok (.goto 4, 3) := by decide +kernel
theorem dX7_needs_16 : decode cX7_needs 16 = .ok (.iconst 0, 1) := by decide +kernel
theorem dX7_needs_17 : decode cX7_needs 17 = .ok (.putfield 94, 3) := by decide +kernel
theorem dX7_needs_20 : decode cX7_needs 20 = .ok (.aload_n 0, 1) := by decide +kernel
theorem dX7_needs_21 : decode cX7_needs 21 = .ok (.getfield 94, 3) := by decide +kernel
theorem dX7_needs_24 : decode cX7_needs 24 = .ok (.ifCond .ne 7, 3) := by decide +kernel
theorem dX7_needs_27 : decode cX7_needs 27 = .ok (.aload_n 0, 1) := by decide +kernel
theorem dX7_needs_28 : decode cX7_needs 28 = .ok (.invokevirtual 98, 3) := by decide +kernel
theorem dX7_needs_31 : decode cX7_needs 31 = .ok (.return_, 1) := by decide +kernel
def p_X7_needs_J17 (F : tF) (A : tA) (K : tF → tA → Prop) (s0 : Int32) : Prop := (bo s0 ∧ ((¬ s0 = 0 → (K (upd F 11 s0) A)) ∧ (s0 = 0 → (p_X7_nextToken (upd F 11 s0) A (fun F_28 A_28 => (K F_28 A_28))))))
set_option maxHeartbeats 4000000 in
set_option maxRecDepth 100000 in
theorem b_X7_needs_J17 {p : Program} {l : Launch} {e : Env} {s : State} {m : MethodId} {args : Array Value} {below : List Frame} {meth : Method} {c : Code} {Q : State → Prop} {D : va_G} {cI cZ cR : ClassId} {adK adV : Nat → Nat} {A9 : Nat → Prop} {o : Nat} {q : Nat → Nat} {K : tF → tA → Prop}  (F : tF) (A : tA) (s0 : Int32) (X : CX p s m args c yX7_needs.cls cX7_needs 2 D cI cZ cR adK adV A9) (ret : RTv p l e (rmN 2 42) s m args below meth c Q cX7_needs D A9 (fun (u : (tF × tA)) => K u.1 u.2) (fun (u : (tF × tA)) => (wX7 cI cZ o q u.1 u.2 : va_W)))  (H : Heap) (locs : List Loc) (ls : Array Slot) (h : p_X7_needs_J17 F A K s0) (hP : va_P D vwCl (wX7 cI cZ o q F A : va_W) H) (hD : va_D A9 (wX7 cI cZ o q F A : va_W)) (hS : va_S A9 s.heap H locs) (hl : lv_has ls 2 [(0, .ref o)]) : W p l e (rmN 2 42) s m args below meth c H locs 0 0 Q (F0 m 17 ls [.int s0, .ref o]) := by
  obtain ⟨hx, hb, hml, ht, hown, hK, hA, hE⟩ := id X
  unfold p_X7_needs_J17 at h
  obtain ⟨hz17, h⟩ := h
  refine va_put (C := RX7) (T := TX7) (N := 28) (own := RX7) (v := .int s0) hx hb ht inlX7 tyX7 tyX7_ok nmX7 hown hK hP hD hS 0 rfl rfl 11 (Nat.le_of_ble_eq_true rfl) (ht _ mw_12_2) (fun _ h9 => h9) rfl (tyX7_ok 11 (Nat.le_of_ble_eq_true rfl)) (bo_n hz17) (bo_f hz17) (Nat.le_of_ble_eq_true rfl) dX7_needs_17 (fun H locs hP hD hS => ?_)
  have hP : va_P D vwCl (wX7 cI cZ o q (upd F 11 s0) A : va_W) H := hP
  have hD : va_D A9 (wX7 cI cZ o q (upd F 11 s0) A : va_W) := hD
  refine lv_aload_n hx hb dX7_needs_20 rfl (lv_at hl 0 rfl) ?_
  refine va_get (C := RX7) (T := TX7) (N := 28) (own := RX7) (v := .int s0) hx hb ht inlX7 hown hK hP 0 rfl rfl 11 (Nat.le_of_ble_eq_true rfl) (ht _ mw_12_2) (fun _ h9 => h9) rfl dX7_needs_21 ?_
  refine lv_if_ne (tgt := 31) hx hb dX7_needs_24 (by decide) (fun c24 => ?_) (fun c24 => ?_)
  · replace h := h.1 c24
    exact ret ((upd F 11 s0), A) _ _ _ _ dX7_needs_31 h hP hD hS
  · replace h := h.2 c24
    refine lv_aload_n hx hb dX7_needs_27 rfl (lv_at hl 0 rfl) ?_
    refine C_vv (wr := []) X hP hD hS [] [] (w_X7_nextToken l D cI cZ cR adK adV _ o q (upd F 11 s0) A _ h) cal_X7_nextToken mw_12_9 rfl [0, 1, 2, 3, 4, 5, 6, 7, 8, 9, 10, 11, 12, 13, 14, 15] [] [0, 1, 2, 3, 4, 5, 6, 7, 8, 9, 10, 11, 12, 13, 14, 15] (fun u => (wX7 cI cZ o q u.1 u.2 : va_W)) rfl rfl (fun _ => rfl) rfl 0 rfl rfl ⟨rfl, rfl⟩ ⟨Nat.le_of_ble_eq_true rfl, Nat.le_of_ble_eq_true rfl⟩ hl.1 rfl (Nat.le_of_ble_eq_true rfl) ⟨Nat.zero_le _, Nat.zero_le _⟩ dX7_needs_28 (fun u H locs h hP hD hS => ?_)
    obtain ⟨F_28, A_28⟩ := u
    try dsimp only at h
    have hP : va_P D vwCl (wX7 cI cZ o q F_28 A_28 : va_W) H := hP
    have hD : va_D A9 (wX7 cI cZ o q F_28 A_28 : va_W) := hD
    exact ret (F_28, A_28) _ _ _ _ dX7_needs_31 h hP hD hS
def p_X7_needs_J12 (F : tF) (A : tA) (K : tF → tA → Prop)  : Prop := (p_X7_needs_J17 F A K (1 : Int32))
set_option maxHeartbeats 4000000 in
set_option maxRecDepth 100000 in
theorem b_X7_needs_J12 {p : Program} {l : Launch} {e : Env} {s : State} {m : MethodId} {args : Array Value} {below : List Frame} {meth : Method} {c : Code} {Q : State → Prop} {D : va_G} {cI cZ cR : ClassId} {adK adV : Nat → Nat} {A9 : Nat → Prop} {o : Nat} {q : Nat → Nat} {K : tF → tA → Prop}  (F : tF) (A : tA) (X : CX p s m args c yX7_needs.cls cX7_needs 2 D cI cZ cR adK adV A9) (ret : RTv p l e (rmN 2 42) s m args below meth c Q cX7_needs D A9 (fun (u : (tF × tA)) => K u.1 u.2) (fun (u : (tF × tA)) => (wX7 cI cZ o q u.1 u.2 : va_W)))  (H : Heap) (locs : List Loc) (ls : Array Slot) (h : p_X7_needs_J12 F A K) (hP : va_P D vwCl (wX7 cI cZ o q F A : va_W) H) (hD : va_D A9 (wX7 cI cZ o q F A : va_W)) (hS : va_S A9 s.heap H locs) (hl : lv_has ls 2 [(0, .ref o)]) : W p l e (rmN 2 42) s m args below meth c H locs 0 0 Q (F0 m 12 ls [.ref o]) := by
  obtain ⟨hx, hb, hml, ht, hown, hK, hA, hE⟩ := id X
  unfold p_X7_needs_J12 at h
  refine lv_iconst (v := 1) hx hb dX7_needs_12 (by decide) ?_
  refine lv_goto (tgt := 17) hx hb dX7_needs_13 (by decide) ?_
  exact b_X7_needs_J17 F A (1 : Int32) X ret  _ _ _ h hP hD hS (lv_sub hl [0] rfl)
def p_X7_needs (F : tF) (A : tA) (x1 : Int32) (K : tF → tA → Prop) : Prop := ((¬ (F 11) = 0 → (p_X7_needs_J12 F A K)) ∧ ((F 11) = 0 → ((¬ x1 = 0 → (p_X7_needs_J17 F A K (0 : Int32))) ∧ (x1 = 0 → (p_X7_needs_J12 F A K)))))
set_option maxHeartbeats 4000000 in
set_option maxRecDepth 100000 in
theorem w_X7_needs (l : Launch) (D : va_G) (cI cZ cR : ClassId) (adK adV : Nat → Nat) (sz : Nat) (o : Nat) (q : Nat → Nat) (F : tF) (A : tA) (x1 : Int32) (K : tF → tA → Prop) (h : p_X7_needs F A x1 K) : MV l D cI cZ cR adK adV yX7_needs cX7_needs 2 none (rmN 2 42) [.ref o, .int x1] (wX7 cI cZ o q F A : va_W) sz (fun (u : (tF × tA)) => K u.1 u.2) (fun (u : (tF × tA)) => (wX7 cI cZ o q u.1 u.2 : va_W)) := by
  refine M_v (by decide +kernel) (Nat.le_of_ble_eq_true rfl) ?_
  intro p e s m args below meth c Q A9 ls X ret hP hD hS hl
  obtain ⟨hx, hb, hml, ht, hown, hK, hA, hE⟩ := id X
  have hl : lv_has ls 2 [(0, .ref o), (1, .int x1)] := hl
  unfold p_X7_needs at h
  refine lv_aload_n hx hb dX7_needs_0 rfl (lv_at hl 0 rfl) ?_
  refine lv_aload_n hx hb dX7_needs_1 rfl (lv_at hl 0 rfl) ?_
  refine va_get (C := RX7) (T := TX7) (N := 28) (own := RX7) (v := .int (F 11)) hx hb ht inlX7 hown hK hP 0 rfl rfl 11 (Nat.le_of_ble_eq_true rfl) (ht _ mw_12_2) (fun _ h9 => h9) rfl dX7_needs_2 ?_
  refine lv_if_ne (tgt := 12) hx hb dX7_needs_5 (by decide) (fun c5 => ?_) (fun c5 => ?_)
  · replace h := h.1 c5
    exact b_X7_needs_J12 F A X ret  _ _ _ h hP hD hS (lv_sub hl [0] rfl)
  · replace h := h.2 c5
    refine lv_iload_n hx hb dX7_needs_8 rfl (lv_at hl 1 rfl) ?_
    refine lv_if_ne (tgt := 16) hx hb dX7_needs_9 (by decide) (fun c9 => ?_) (fun c9 => ?_)
    · replace h := h.1 c9
      refine lv_iconst (v := 0) hx hb dX7_needs_16 (by decide) ?_
      exact b_X7_needs_J17 F A (0 : Int32) X ret  _ _ _ h hP hD hS (lv_sub hl [0] rfl)
    · replace h := h.2 c9
      exact b_X7_needs_J12 F A X ret  _ _ _ h hP hD hS (lv_sub hl [0] rfl)
theorem dX7_isName_0 : decode cX7_isName 0 = .ok (.aload_n 0, 1) := by decide +kernel
theorem dX7_isName_1 : decode cX7_isName 1 = .ok (.getfield 88, 3) := by decide +kernel
theorem dX7_isName_4 : decode cX7_isName 4 = .ok (.iconst 1, 1) := by decide +kernel
theorem dX7_isName_5 : decode cX7_isName 5 = .ok (.if_icmp .ne 76, 3) := by decide +kernel
theorem dX7_isName_8 : decode cX7_isName 8 = .ok (.aload_n 0, 1) := by decide +kernel
theorem dX7_isName_9 : decode cX7_isName 9 = .ok (.getfield 71, 3) := by decide +kernel
theorem dX7_isName_12 : decode cX7_isName 12 = .ok (.aload_n 0, 1) := by decide +kernel
theorem dX7_isName_13 : decode cX7_isName 13 = .ok (.getfield 74, 3) := by decide +kernel
theorem dX7_isName_16 : decode cX7_isName 16 = .ok (.isub, 1) := by decide +kernel
theorem dX7_isName_17 : decode cX7_isName 17 = .ok (.iload_n 1, 1) := by decide +kernel
theorem dX7_isName_18 : decode cX7_isName 18 = .ok (.if_icmp .ne 63, 3) := by decide +kernel
theorem dX7_isName_21 : decode cX7_isName 21 = .ok (.aload_n 0, 1) := by decide +kernel
theorem dX7_isName_22 : decode cX7_isName 22 = .ok (.aload_n 0, 1) := by decide +kernel
theorem dX7_isName_23 : decode cX7_isName 23 = .ok (.getfield 74, 3) := by decide +kernel
theorem dX7_isName_26 : decode cX7_isName 26 = .ok (.invokevirtual 77, 3) := by decide +kernel
theorem dX7_isName_29 : decode cX7_isName 29 = .ok (.iload_n 2, 1) := by decide +kernel
theorem dX7_isName_30 : decode cX7_isName 30 = .ok (.if_icmp .ne 51, 3) := by decide +kernel
theorem dX7_isName_33 : decode cX7_isName 33 = .ok (.aload_n 0, 1) := by decide +kernel
theorem dX7_isName_34 : decode cX7_isName 34 = .ok (.aload_n 0, 1) := by decide +kernel
theorem dX7_isName_35 : decode cX7_isName 35 = .ok (.getfield 74, 3) := by decide +kernel
theorem dX7_isName_38 : decode cX7_isName 38 = .ok (.iconst 1, 1) := by decide +kernel
theorem dX7_isName_39 : decode cX7_isName 39 = .ok (.iadd, 1) := by decide +kernel
theorem dX7_isName_40 : decode cX7_isName 40 = .ok (.invokevirtual 77, 3) := by decide +kernel
theorem dX7_isName_43 : decode cX7_isName 43 = .ok (.iload_n 3, 1) := by decide +kernel
theorem dX7_isName_44 : decode cX7_isName 44 = .ok (.if_icmp .ne 37, 3) := by decide +kernel
theorem dX7_isName_47 : decode cX7_isName 47 = .ok (.aload_n 0, 1) := by decide +kernel
theorem dX7_isName_48 : decode cX7_isName 48 = .ok (.aload_n 0, 1) := by decide +kernel
theorem dX7_isName_49 : decode cX7_isName 49 = .ok (.getfield 74, 3) := by decide +kernel
theorem dX7_isName_52 : decode cX7_isName 52 = .ok (.iconst 2, 1) := by decide +kernel
theorem dX7_isName_53 : decode cX7_isName 53 = .ok (.iadd, 1) := by decide +kernel
theorem dX7_isName_54 : decode cX7_isName 54 = .ok (.invokevirtual 77, 3) := by decide +kernel
theorem dX7_isName_57 : decode cX7_isName 57 = .ok (.iload 4, 2) := by decide +kernel
theorem dX7_isName_59 : decode cX7_isName 59 = .ok (.if_icmp .ne 22, 3) := by decide +kernel
theorem dX7_isName_62 : decode cX7_isName 62 = .ok (.aload_n 0, 1) := by decide +kernel
theorem dX7_isName_63 : decode cX7_isName 63 = .ok (.aload_n 0, 1) := by decide +kernel
theorem dX7_isName_64 : decode cX7_isName 64 = .ok (.getfield 71, 3) := by decide +kernel
theorem dX7_isName_67 : decode cX7_isName 67 = .ok (.iconst 1, 1) := by decide +kernel
theorem dX7_isName_68 : decode cX7_isName 68 = .ok (.isub, 1) := by decide +kernel
theorem dX7_isName_69 : decode cX7_isName 69 = .ok (.invokevirtual 77, 3) := by decide +kernel
theorem dX7_isName_72 : decode cX7_isName 72 = .ok (.iload 5, 2) := by decide +kernel
theorem dX7_isName_74 : decode cX7_isName 74 = .ok (.if_icmp .ne 7, 3) := by decide +kernel
theorem dX7_isName_77 : decode cX7_isName 77 = .ok (.iconst 1, 1) := by decide +kernel
theorem dX7_isName_78 : decode cX7_isName 78 = .ok (.goto 4, 3) := by decide +kernel
theorem dX7_isName_81 : decode cX7_isName 81 = .ok (.iconst 0, 1) := by decide +kernel
theorem dX7_isName_82 : decode cX7_isName 82 = .ok (.ireturn, 1) := by decide +kernel
def p_X7_isName (F : tF) (A : tA) (x1 : Int32) (x2 : Int32) (x3 : Int32) (x4 : Int32) (x5 : Int32) (K : Int32 → Prop) : Prop := ((¬ (F 7) = (1 : Int32) → (K (0 : Int32))) ∧ ((F 7) = (1 : Int32) → ((¬ ((F 9) - (F 8)) = x1 → (K (0 : Int32))) ∧ (((F 9) - (F 8)) = x1 → (p_X7_byteAt F A (F 8) (fun r26 => ((¬ r26 = x2 → (K (0 : Int32))) ∧ (r26 = x2 → (p_X7_byteAt F A ((F 8) + (1 : Int32)) (fun r40 => ((¬ r40 = x3 → (K (0 : Int32))) ∧ (r40 = x3 → (p_X7_byteAt F A ((F 8) + (2 : Int32)) (fun r54 => ((¬ r54 = x4 → (K (0 : Int32))) ∧ (r54 = x4 → (p_X7_byteAt F A ((F 9) - (1 : Int32)) (fun r69 => ((¬ r69 = x5 → (K (0 : Int32))) ∧ (r69 = x5 → (K (1 : Int32))))))))))))))))))))))
set_option maxHeartbeats 4000000 in
set_option maxRecDepth 100000 in
theorem w_X7_isName (l : Launch) (D : va_G) (cI cZ cR : ClassId) (adK adV : Nat → Nat) (sz : Nat) (o : Nat) (q : Nat → Nat) (F : tF) (A : tA) (x1 : Int32) (x2 : Int32) (x3 : Int32) (x4 : Int32) (x5 : Int32) (K : Int32 → Prop) (h : p_X7_isName F A x1 x2 x3 x4 x5 K) : MI l D cI cZ cR adK adV yX7_isName cX7_isName 6 (some .boolean) (rmN 1 21) [.ref o, .int x1, .int x2, .int x3, .int x4, .int x5] (wX7 cI cZ o q F A : va_W) sz (fun (r : Int32) (u : Unit) => K r) (fun (u : Unit) => (wX7 cI cZ o q F A : va_W)) := by
  refine M_z (by decide +kernel) (Nat.le_of_ble_eq_true rfl) ?_
  intro p e s m args below meth c Q A9 ls X ret hP hD hS hl
  obtain ⟨hx, hb, hml, ht, hown, hK, hA, hE⟩ := id X
  have hl : lv_has ls 6 [(0, .ref o), (1, .int x1), (2, .int x2), (3, .int x3), (4, .int x4), (5, .int x5)] := hl
  unfold p_X7_isName at h
  refine lv_aload_n hx hb dX7_isName_0 rfl (lv_at hl 0 rfl) ?_
  refine va_get (C := RX7) (T := TX7) (N := 28) (own := RX7) (v := .int (F 7)) hx hb ht inlX7 hown hK hP 0 rfl rfl 7 (Nat.le_of_ble_eq_true rfl) (ht _ mw_12_3) (fun _ h9 => h9) rfl dX7_isName_1 ?_
  refine lv_iconst (v := 1) hx hb dX7_isName_4 (by decide) ?_
  refine lv_icmp_ne (tgt := 81) hx hb dX7_isName_5 (by decide) (fun c5 => ?_) (fun c5 => ?_)
  · replace h := h.1 c5
    refine lv_iconst (v := 0) hx hb dX7_isName_81 (by decide) ?_
    exact ret _ () _ _ _ _ dX7_isName_82 bo_0 h hP hD hS
  · replace h := h.2 c5
    refine lv_aload_n hx hb dX7_isName_8 rfl (lv_at hl 0 rfl) ?_
    refine va_get (C := RX7) (T := TX7) (N := 28) (own := RX7) (v := .int (F 9)) hx hb ht inlX7 hown hK hP 0 rfl rfl 9 (Nat.le_of_ble_eq_true rfl) (ht _ mw_12_1) (fun _ h9 => h9) rfl dX7_isName_9 ?_
    refine lv_aload_n hx hb dX7_isName_12 rfl (lv_at hl 0 rfl) ?_
    refine va_get (C := RX7) (T := TX7) (N := 28) (own := RX7) (v := .int (F 8)) hx hb ht inlX7 hown hK hP 0 rfl rfl 8 (Nat.le_of_ble_eq_true rfl) (ht _ mw_12_4) (fun _ h9 => h9) rfl dX7_isName_13 ?_
    refine lv_isub hx hb dX7_isName_16 ?_
    refine lv_iload_n hx hb dX7_isName_17 rfl (lv_at hl 1 rfl) ?_
    refine lv_icmp_ne (tgt := 81) hx hb dX7_isName_18 (by decide) (fun c18 => ?_) (fun c18 => ?_)
    · replace h := h.1 c18
      refine lv_iconst (v := 0) hx hb dX7_isName_81 (by decide) ?_
      exact ret _ () _ _ _ _ dX7_isName_82 bo_0 h hP hD hS
    · replace h := h.2 c18
      refine lv_aload_n hx hb dX7_isName_21 rfl (lv_at hl 0 rfl) ?_
      refine lv_aload_n hx hb dX7_isName_22 rfl (lv_at hl 0 rfl) ?_
      refine va_get (C := RX7) (T := TX7) (N := 28) (own := RX7) (v := .int (F 8)) hx hb ht inlX7 hown hK hP 0 rfl rfl 8 (Nat.le_of_ble_eq_true rfl) (ht _ mw_12_4) (fun _ h9 => h9) rfl dX7_isName_23 ?_
      refine C_vi (wr := []) X hP hD hS [.int (F 8)] [] (w_X7_byteAt l D cI cZ cR adK adV _ o q F A (F 8) _ h) cal_X7_byteAt mw_12_14 rfl [0, 1, 2, 3, 4, 5, 6, 7, 8, 9, 10, 11, 12, 13, 14, 15] [] [0, 1, 2, 3, 4, 5, 6, 7, 8, 9, 10, 11, 12, 13, 14, 15] (fun u => (wX7 cI cZ o q F A : va_W)) rfl rfl (fun _ => rfl) rfl 0 rfl rfl ⟨rfl, rfl⟩ ⟨Nat.le_of_ble_eq_true rfl, Nat.le_of_ble_eq_true rfl⟩ hl.1 rfl (Nat.le_of_ble_eq_true rfl) ⟨Nat.zero_le _, Nat.zero_le _⟩ dX7_isName_26 (fun r26 u H locs h hP hD hS => ?_)
      refine lv_iload_n hx hb dX7_isName_29 rfl (lv_at hl 2 rfl) ?_
      refine lv_icmp_ne (tgt := 81) hx hb dX7_isName_30 (by decide) (fun c30 => ?_) (fun c30 => ?_)
      · replace h := h.1 c30
        refine lv_iconst (v := 0) hx hb dX7_isName_81 (by decide) ?_
        exact ret _ () _ _ _ _ dX7_isName_82 bo_0 h hP hD hS
      · replace h := h.2 c30
        refine lv_aload_n hx hb dX7_isName_33 rfl (lv_at hl 0 rfl) ?_
        refine lv_aload_n hx hb dX7_isName_34 rfl (lv_at hl 0 rfl) ?_
        refine va_get (C := RX7) (T := TX7) (N := 28) (own := RX7) (v := .int (F 8)) hx hb ht inlX7 hown hK hP 0 rfl rfl 8 (Nat.le_of_ble_eq_true rfl) (ht _ mw_12_4) (fun _ h9 => h9) rfl dX7_isName_35 ?_
        refine lv_iconst (v := 1) hx hb dX7_isName_38 (by decide) ?_
        refine lv_iadd hx hb dX7_isName_39 ?_
        refine C_vi (wr := []) X hP hD hS [.int ((F 8) + (1 : Int32))] [] (w_X7_byteAt l D cI cZ cR adK adV _ o q F A ((F 8) + (1 : Int32)) _ h) cal_X7_byteAt mw_12_14 rfl [0, 1, 2, 3, 4, 5, 6, 7, 8, 9, 10, 11, 12, 13, 14, 15] [] [0, 1, 2, 3, 4, 5, 6, 7, 8, 9, 10, 11, 12, 13, 14, 15] (fun u => (wX7 cI cZ o q F A : va_W)) rfl rfl (fun _ => rfl) rfl 0 rfl rfl ⟨rfl, rfl⟩ ⟨Nat.le_of_ble_eq_true rfl, Nat.le_of_ble_eq_true rfl⟩ hl.1 rfl (Nat.le_of_ble_eq_true rfl) ⟨Nat.zero_le _, Nat.zero_le _⟩ dX7_isName_40 (fun r40 u H locs h hP hD hS => ?_)
        refine lv_iload_n hx hb dX7_isName_43 rfl (lv_at hl 3 rfl) ?_
        refine lv_icmp_ne (tgt := 81) hx hb dX7_isName_44 (by decide) (fun c44 => ?_) (fun c44 => ?_)
        · replace h := h.1 c44
          refine lv_iconst (v := 0) hx hb dX7_isName_81 (by decide) ?_
          exact ret _ () _ _ _ _ dX7_isName_82 bo_0 h hP hD hS
        · replace h := h.2 c44
          refine lv_aload_n hx hb dX7_isName_47 rfl (lv_at hl 0 rfl) ?_
          refine lv_aload_n hx hb dX7_isName_48 rfl (lv_at hl 0 rfl) ?_
          refine va_get (C := RX7) (T := TX7) (N := 28) (own := RX7) (v := .int (F 8)) hx hb ht inlX7 hown hK hP 0 rfl rfl 8 (Nat.le_of_ble_eq_true rfl) (ht _ mw_12_4) (fun _ h9 => h9) rfl dX7_isName_49 ?_
          refine lv_iconst (v := 2) hx hb dX7_isName_52 (by decide) ?_
          refine lv_iadd hx hb dX7_isName_53 ?_
          refine C_vi (wr := []) X hP hD hS [.int ((F 8) + (2 : Int32))] [] (w_X7_byteAt l D cI cZ cR adK adV _ o q F A ((F 8) + (2 : Int32)) _ h) cal_X7_byteAt mw_12_14 rfl [0, 1, 2, 3, 4, 5, 6, 7, 8, 9, 10, 11, 12, 13, 14, 15] [] [0, 1, 2, 3, 4, 5, 6, 7, 8, 9, 10, 11, 12, 13, 14, 15] (fun u => (wX7 cI cZ o q F A : va_W)) rfl rfl (fun _ => rfl) rfl 0 rfl rfl ⟨rfl, rfl⟩ ⟨Nat.le_of_ble_eq_true rfl, Nat.le_of_ble_eq_true rfl⟩ hl.1 rfl (Nat.le_of_ble_eq_true rfl) ⟨Nat.zero_le _, Nat.zero_le _⟩ dX7_isName_54 (fun r54 u H locs h hP hD hS => ?_)
          refine lv_iload hx hb dX7_isName_57 (lv_at hl 4 rfl) ?_
          refine lv_icmp_ne (tgt := 81) hx hb dX7_isName_59 (by decide) (fun c59 => ?_) (fun c59 => ?_)
          · replace h := h.1 c59
            refine lv_iconst (v := 0) hx hb dX7_isName_81 (by decide) ?_
            exact ret _ () _ _ _ _ dX7_isName_82 bo_0 h hP hD hS
          · replace h := h.2 c59
            refine lv_aload_n hx hb dX7_isName_62 rfl (lv_at hl 0 rfl) ?_
            refine lv_aload_n hx hb dX7_isName_63 rfl (lv_at hl 0 rfl) ?_
            refine va_get (C := RX7) (T := TX7) (N := 28) (own := RX7) (v := .int (F 9)) hx hb ht inlX7 hown hK hP 0 rfl rfl 9 (Nat.le_of_ble_eq_true rfl) (ht _ mw_12_1) (fun _ h9 => h9) rfl dX7_isName_64 ?_
            refine lv_iconst (v := 1) hx hb dX7_isName_67 (by decide) ?_
            refine lv_isub hx hb dX7_isName_68 ?_
            refine C_vi (wr := []) X hP hD hS [.int ((F 9) - (1 : Int32))] [] (w_X7_byteAt l D cI cZ cR adK adV _ o q F A ((F 9) - (1 : Int32)) _ h) cal_X7_byteAt mw_12_14 rfl [0, 1, 2, 3, 4, 5, 6, 7, 8, 9, 10, 11, 12, 13, 14, 15] [] [0, 1, 2, 3, 4, 5, 6, 7, 8, 9, 10, 11, 12, 13, 14, 15] (fun u => (wX7 cI cZ o q F A : va_W)) rfl rfl (fun _ => rfl) rfl 0 rfl rfl ⟨rfl, rfl⟩ ⟨Nat.le_of_ble_eq_true rfl, Nat.le_of_ble_eq_true rfl⟩ hl.1 rfl (Nat.le_of_ble_eq_true rfl) ⟨Nat.zero_le _, Nat.zero_le _⟩ dX7_isName_69 (fun r69 u H locs h hP hD hS => ?_)
            refine lv_iload hx hb dX7_isName_72 (lv_at hl 5 rfl) ?_
            refine lv_icmp_ne (tgt := 81) hx hb dX7_isName_74 (by decide) (fun c74 => ?_) (fun c74 => ?_)
            · replace h := h.1 c74
              refine lv_iconst (v := 0) hx hb dX7_isName_81 (by decide) ?_
              exact ret _ () _ _ _ _ dX7_isName_82 bo_0 h hP hD hS
            · replace h := h.2 c74
              refine lv_iconst (v := 1) hx hb dX7_isName_77 (by decide) ?_
              refine lv_goto (tgt := 82) hx hb dX7_isName_78 (by decide) ?_
              exact ret _ () _ _ _ _ dX7_isName_82 bo_1 h hP hD hS
theorem dX7_isSame_0 : decode cX7_isSame 0 = .ok (.aload_n 0, 1) := by decide +kernel
theorem dX7_isSame_1 : decode cX7_isSame 1 = .ok (.aload_n 0, 1) := by decide +kernel
theorem dX7_isSame_2 : decode cX7_isSame 2 = .ok (.getfield 74, 3) := by decide +kernel
theorem dX7_isSame_5 : decode cX7_isSame 5 = .ok (.iload_n 1, 1) := by decide +kernel
theorem dX7_isSame_6 : decode cX7_isSame 6 = .ok (.iadd, 1) := by decide +kernel
theorem dX7_isSame_7 : decode cX7_isSame 7 = .ok (.invokevirtual 77, 3) := by decide +kernel
theorem dX7_isSame_10 : decode cX7_isSame 10 = .ok (.iload_n 2, 1) := by decide +kernel
theorem dX7_isSame_11 : decode cX7_isSame 11 = .ok (.if_icmp .ne 40, 3) := by decide +kernel
theorem dX7_isSame_14 : decode cX7_isSame 14 = .ok (.aload_n 0, 1) := by decide +kernel
theorem dX7_isSame_15 : decode cX7_isSame 15 = .ok (.aload_n 0, 1) := by decide +kernel
theorem dX7_isSame_16 : decode cX7_isSame 16 = .ok (.getfield 74, 3) := by decide +kernel
theorem dX7_isSame_19 : decode cX7_isSame 19 = .ok (.iload_n 1, 1) := by decide +kernel
theorem dX7_isSame_20 : decode cX7_isSame 20 = .ok (.iadd, 1) := by decide +kernel
theorem dX7_isSame_21 : decode cX7_isSame 21 = .ok (.iconst 1, 1) := by decide +kernel
theorem dX7_isSame_22 : decode cX7_isSame 22 = .ok (.iadd, 1) := by decide +kernel
theorem dX7_isSame_23 : decode cX7_isSame 23 = .ok (.invokevirtual 77, 3) := by decide +kernel
theorem dX7_isSame_26 : decode cX7_isSame 26 = .ok (.iload_n 3, 1) := by decide +kernel
theorem dX7_isSame_27 : decode cX7_isSame 27 = .ok (.if_icmp .ne 24, 3) := by decide +kernel
theorem dX7_isSame_30 : decode cX7_isSame 30 = .ok (.aload_n 0, 1) := by decide +kernel
theorem dX7_isSame_31 : decode cX7_isSame 31 = .ok (.aload_n 0, 1) := by decide +kernel
theorem dX7_isSame_32 : decode cX7_isSame 32 = .ok (.getfield 74, 3) := by decide +kernel
theorem dX7_isSame_35 : decode cX7_isSame 35 = .ok (.iload_n 1, 1) := by decide +kernel
theorem dX7_isSame_36 : decode cX7_isSame 36 = .ok (.iadd, 1) := by decide +kernel
theorem dX7_isSame_37 : decode cX7_isSame 37 = .ok (.iconst 2, 1) := by decide +kernel
theorem dX7_isSame_38 : decode cX7_isSame 38 = .ok (.iadd, 1) := by decide +kernel
theorem dX7_isSame_39 : decode cX7_isSame 39 = .ok (.invokevirtual 77, 3) := by decide +kernel
theorem dX7_isSame_42 : decode cX7_isSame 42 = .ok (.iload 4, 2) := by decide +kernel
theorem dX7_isSame_44 : decode cX7_isSame 44 = .ok (.if_icmp .ne 7, 3) := by decide +kernel
theorem dX7_isSame_47 : decode cX7_isSame 47 = .ok (.iconst 1, 1) := by decide +kernel
theorem dX7_isSame_48 : decode cX7_isSame 48 = .ok (.goto 4, 3) := by decide +kernel
theorem dX7_isSame_51 : decode cX7_isSame 51 = .ok (.iconst 0, 1) := by decide +kernel
theorem dX7_isSame_52 : decode cX7_isSame 52 = .ok (.ireturn, 1) := by decide +kernel
def p_X7_isSame (F : tF) (A : tA) (x1 : Int32) (x2 : Int32) (x3 : Int32) (x4 : Int32) (K : Int32 → Prop) : Prop := (p_X7_byteAt F A ((F 8) + x1) (fun r7 => ((¬ r7 = x2 → (K (0 : Int32))) ∧ (r7 = x2 → (p_X7_byteAt F A (((F 8) + x1) + (1 : Int32)) (fun r23 => ((¬ r23 = x3 → (K (0 : Int32))) ∧ (r23 = x3 → (p_X7_byteAt F A (((F 8) + x1) + (2 : Int32)) (fun r39 => ((¬ r39 = x4 → (K (0 : Int32))) ∧ (r39 = x4 → (K (1 : Int32))))))))))))))
set_option maxHeartbeats 4000000 in
set_option maxRecDepth 100000 in
theorem w_X7_isSame (l : Launch) (D : va_G) (cI cZ cR : ClassId) (adK adV : Nat → Nat) (sz : Nat) (o : Nat) (q : Nat → Nat) (F : tF) (A : tA) (x1 : Int32) (x2 : Int32) (x3 : Int32) (x4 : Int32) (K : Int32 → Prop) (h : p_X7_isSame F A x1 x2 x3 x4 K) : MI l D cI cZ cR adK adV yX7_isSame cX7_isSame 5 (some .boolean) (rmN 1 21) [.ref o, .int x1, .int x2, .int x3, .int x4] (wX7 cI cZ o q F A : va_W) sz (fun (r : Int32) (u : Unit) => K r) (fun (u : Unit) => (wX7 cI cZ o q F A : va_W)) := by
  refine M_z (by decide +kernel) (Nat.le_of_ble_eq_true rfl) ?_
  intro p e s m args below meth c Q A9 ls X ret hP hD hS hl
  obtain ⟨hx, hb, hml, ht, hown, hK, hA, hE⟩ := id X
  have hl : lv_has ls 5 [(0, .ref o), (1, .int x1), (2, .int x2), (3, .int x3), (4, .int x4)] := hl
  unfold p_X7_isSame at h
  refine lv_aload_n hx hb dX7_isSame_0 rfl (lv_at hl 0 rfl) ?_
  refine lv_aload_n hx hb dX7_isSame_1 rfl (lv_at hl 0 rfl) ?_
  refine va_get (C := RX7) (T := TX7) (N := 28) (own := RX7) (v := .int (F 8)) hx hb ht inlX7 hown hK hP 0 rfl rfl 8 (Nat.le_of_ble_eq_true rfl) (ht _ mw_12_4) (fun _ h9 => h9) rfl dX7_isSame_2 ?_
  refine lv_iload_n hx hb dX7_isSame_5 rfl (lv_at hl 1 rfl) ?_
  refine lv_iadd hx hb dX7_isSame_6 ?_
  refine C_vi (wr := []) X hP hD hS [.int ((F 8) + x1)] [] (w_X7_byteAt l D cI cZ cR adK adV _ o q F A ((F 8) + x1) _ h) cal_X7_byteAt mw_12_14 rfl [0, 1, 2, 3, 4, 5, 6, 7, 8, 9, 10, 11, 12, 13, 14, 15] [] [0, 1, 2, 3, 4, 5, 6, 7, 8, 9, 10, 11, 12, 13, 14, 15] (fun u => (wX7 cI cZ o q F A : va_W)) rfl rfl (fun _ => rfl) rfl 0 rfl rfl ⟨rfl, rfl⟩ ⟨Nat.le_of_ble_eq_true rfl, Nat.le_of_ble_eq_true rfl⟩ hl.1 rfl (Nat.le_of_ble_eq_true rfl) ⟨Nat.zero_le _, Nat.zero_le _⟩ dX7_isSame_7 (fun r7 u H locs h hP hD hS => ?_)
  refine lv_iload_n hx hb dX7_isSame_10 rfl (lv_at hl 2 rfl) ?_
  refine lv_icmp_ne (tgt := 51) hx hb dX7_isSame_11 (by decide) (fun c11 => ?_) (fun c11 => ?_)
  · replace h := h.1 c11
    refine lv_iconst (v := 0) hx hb dX7_isSame_51 (by decide) ?_
    exact ret _ () _ _ _ _ dX7_isSame_52 bo_0 h hP hD hS
  · replace h := h.2 c11
    refine lv_aload_n hx hb dX7_isSame_14 rfl (lv_at hl 0 rfl) ?_
    refine lv_aload_n hx hb dX7_isSame_15 rfl (lv_at hl 0 rfl) ?_
    refine va_get (C := RX7) (T := TX7) (N := 28) (own := RX7) (v := .int (F 8)) hx hb ht inlX7 hown hK hP 0 rfl rfl 8 (Nat.le_of_ble_eq_true rfl) (ht _ mw_12_4) (fun _ h9 => h9) rfl dX7_isSame_16 ?_
    refine lv_iload_n hx hb dX7_isSame_19 rfl (lv_at hl 1 rfl) ?_
    refine lv_iadd hx hb dX7_isSame_20 ?_
    refine lv_iconst (v := 1) hx hb dX7_isSame_21 (by decide) ?_
    refine lv_iadd hx hb dX7_isSame_22 ?_
    refine C_vi (wr := []) X hP hD hS [.int (((F 8) + x1) + (1 : Int32))] [] (w_X7_byteAt l D cI cZ cR adK adV _ o q F A (((F 8) + x1) + (1 : Int32)) _ h) cal_X7_byteAt mw_12_14 rfl [0, 1, 2, 3, 4, 5, 6, 7, 8, 9, 10, 11, 12, 13, 14, 15] [] [0, 1, 2, 3, 4, 5, 6, 7, 8, 9, 10, 11, 12, 13, 14, 15] (fun u => (wX7 cI cZ o q F A : va_W)) rfl rfl (fun _ => rfl) rfl 0 rfl rfl ⟨rfl, rfl⟩ ⟨Nat.le_of_ble_eq_true rfl, Nat.le_of_ble_eq_true rfl⟩ hl.1 rfl (Nat.le_of_ble_eq_true rfl) ⟨Nat.zero_le _, Nat.zero_le _⟩ dX7_isSame_23 (fun r23 u H locs h hP hD hS => ?_)
    refine lv_iload_n hx hb dX7_isSame_26 rfl (lv_at hl 3 rfl) ?_
    refine lv_icmp_ne (tgt := 51) hx hb dX7_isSame_27 (by decide) (fun c27 => ?_) (fun c27 => ?_)
    · replace h := h.1 c27
      refine lv_iconst (v := 0) hx hb dX7_isSame_51 (by decide) ?_
      exact ret _ () _ _ _ _ dX7_isSame_52 bo_0 h hP hD hS
    · replace h := h.2 c27
      refine lv_aload_n hx hb dX7_isSame_30 rfl (lv_at hl 0 rfl) ?_
      refine lv_aload_n hx hb dX7_isSame_31 rfl (lv_at hl 0 rfl) ?_
      refine va_get (C := RX7) (T := TX7) (N := 28) (own := RX7) (v := .int (F 8)) hx hb ht inlX7 hown hK hP 0 rfl rfl 8 (Nat.le_of_ble_eq_true rfl) (ht _ mw_12_4) (fun _ h9 => h9) rfl dX7_isSame_32 ?_
      refine lv_iload_n hx hb dX7_isSame_35 rfl (lv_at hl 1 rfl) ?_
      refine lv_iadd hx hb dX7_isSame_36 ?_
      refine lv_iconst (v := 2) hx hb dX7_isSame_37 (by decide) ?_
      refine lv_iadd hx hb dX7_isSame_38 ?_
      refine C_vi (wr := []) X hP hD hS [.int (((F 8) + x1) + (2 : Int32))] [] (w_X7_byteAt l D cI cZ cR adK adV _ o q F A (((F 8) + x1) + (2 : Int32)) _ h) cal_X7_byteAt mw_12_14 rfl [0, 1, 2, 3, 4, 5, 6, 7, 8, 9, 10, 11, 12, 13, 14, 15] [] [0, 1, 2, 3, 4, 5, 6, 7, 8, 9, 10, 11, 12, 13, 14, 15] (fun u => (wX7 cI cZ o q F A : va_W)) rfl rfl (fun _ => rfl) rfl 0 rfl rfl ⟨rfl, rfl⟩ ⟨Nat.le_of_ble_eq_true rfl, Nat.le_of_ble_eq_true rfl⟩ hl.1 rfl (Nat.le_of_ble_eq_true rfl) ⟨Nat.zero_le _, Nat.zero_le _⟩ dX7_isSame_39 (fun r39 u H locs h hP hD hS => ?_)
      refine lv_iload hx hb dX7_isSame_42 (lv_at hl 4 rfl) ?_
      refine lv_icmp_ne (tgt := 51) hx hb dX7_isSame_44 (by decide) (fun c44 => ?_) (fun c44 => ?_)
      · replace h := h.1 c44
        refine lv_iconst (v := 0) hx hb dX7_isSame_51 (by decide) ?_
        exact ret _ () _ _ _ _ dX7_isSame_52 bo_0 h hP hD hS
      · replace h := h.2 c44
        refine lv_iconst (v := 1) hx hb dX7_isSame_47 (by decide) ?_
        refine lv_goto (tgt := 52) hx hb dX7_isSame_48 (by decide) ?_
        exact ret _ () _ _ _ _ dX7_isSame_52 bo_1 h hP hD hS
theorem cal_X7_isName : CalV yX7_isName cX7_isName 6 (some .boolean) 5 := ⟨mw_13_11, mw_1_5, mw_13_9, mw_13_10, ⟨by decide +kernel, by decide +kernel, by decide +kernel⟩⟩
theorem dX7_isFour_0 : decode cX7_isFour 0 = .ok (.aload_n 0, 1) := by decide +kernel
theorem dX7_isFour_1 : decode cX7_isFour 1 = .ok (.iconst 4, 1) := by decide +kernel
theorem dX7_isFour_2 : decode cX7_isFour 2 = .ok (.iload_n 1, 1) := by decide +kernel
theorem dX7_isFour_3 : decode cX7_isFour 3 = .ok (.iload_n 2, 1) := by decide +kernel
theorem dX7_isFour_4 : decode cX7_isFour 4 = .ok (.iload_n 3, 1) := by decide +kernel
theorem dX7_isFour_5 : decode cX7_isFour 5 = .ok (.iload 4, 2) := by decide +kernel
theorem dX7_isFour_7 : decode cX7_isFour 7 = .ok (.invokevirtual 101, 3) := by decide +kernel
theorem dX7_isFour_10 : decode cX7_isFour 10 = .ok (.ireturn, 1) := by decide +kernel
def p_X7_isFour (F : tF) (A : tA) (x1 : Int32) (x2 : Int32) (x3 : Int32) (x4 : Int32) (K : Int32 → Prop) : Prop := (p_X7_isName F A (4 : Int32) x1 x2 x3 x4 (fun r7 => (bo r7 ∧ (K r7))))
set_option maxHeartbeats 4000000 in
set_option maxRecDepth 100000 in
theorem w_X7_isFour (l : Launch) (D : va_G) (cI cZ cR : ClassId) (adK adV : Nat → Nat) (sz : Nat) (o : Nat) (q : Nat → Nat) (F : tF) (A : tA) (x1 : Int32) (x2 : Int32) (x3 : Int32) (x4 : Int32) (K : Int32 → Prop) (h : p_X7_isFour F A x1 x2 x3 x4 K) : MI l D cI cZ cR adK adV yX7_isFour cX7_isFour 5 (some .boolean) (rmN 2 46) [.ref o, .int x1, .int x2, .int x3, .int x4] (wX7 cI cZ o q F A : va_W) sz (fun (r : Int32) (u : Unit) => K r) (fun (u : Unit) => (wX7 cI cZ o q F A : va_W)) := by
  refine M_z (by decide +kernel) (Nat.le_of_ble_eq_true rfl) ?_
  intro p e s m args below meth c Q A9 ls X ret hP hD hS hl
  obtain ⟨hx, hb, hml, ht, hown, hK, hA, hE⟩ := id X
  have hl : lv_has ls 5 [(0, .ref o), (1, .int x1), (2, .int x2), (3, .int x3), (4, .int x4)] := hl
  unfold p_X7_isFour at h
  refine lv_aload_n hx hb dX7_isFour_0 rfl (lv_at hl 0 rfl) ?_
  refine lv_iconst (v := 4) hx hb dX7_isFour_1 (by decide) ?_
  refine lv_iload_n hx hb dX7_isFour_2 rfl (lv_at hl 1 rfl) ?_
  refine lv_iload_n hx hb dX7_isFour_3 rfl (lv_at hl 2 rfl) ?_
  refine lv_iload_n hx hb dX7_isFour_4 rfl (lv_at hl 3 rfl) ?_
  refine lv_iload hx hb dX7_isFour_5 (lv_at hl 4 rfl) ?_
  refine C_vi (wr := []) X hP hD hS [.int (4 : Int32), .int x1, .int x2, .int x3, .int x4] [] (w_X7_isName l D cI cZ cR adK adV _ o q F A (4 : Int32) x1 x2 x3 x4 _ h) cal_X7_isName mw_13_8 rfl [0, 1, 2, 3, 4, 5, 6, 7, 8, 9, 10, 11, 12, 13, 14, 15] [] [0, 1, 2, 3, 4, 5, 6, 7, 8, 9, 10, 11, 12, 13, 14, 15] (fun u => (wX7 cI cZ o q F A : va_W)) rfl rfl (fun _ => rfl) rfl 0 rfl rfl ⟨rfl, rfl⟩ ⟨Nat.le_of_ble_eq_true rfl, Nat.le_of_ble_eq_true rfl⟩ hl.1 rfl (Nat.le_of_ble_eq_true rfl) ⟨Nat.zero_le _, Nat.zero_le _⟩ dX7_isFour_7 (fun r7 u H locs h hP hD hS => ?_)
  obtain ⟨hz10, h⟩ := h
  exact ret _ () _ _ _ _ dX7_isFour_10 hz10 h hP hD hS
theorem dX7_isFive_0 : decode cX7_isFive 0 = .ok (.aload_n 0, 1) := by decide +kernel
theorem dX7_isFive_1 : decode cX7_isFive 1 = .ok (.iconst 5, 1) := by decide +kernel
theorem dX7_isFive_2 : decode cX7_isFive 2 = .ok (.iload_n 1, 1) := by decide +kernel
theorem dX7_isFive_3 : decode cX7_isFive 3 = .ok (.iload_n 2, 1) := by decide +kernel
theorem dX7_isFive_4 : decode cX7_isFive 4 = .ok (.iload_n 3, 1) := by decide +kernel
theorem dX7_isFive_5 : decode cX7_isFive 5 = .ok (.iload 5, 2) := by decide +kernel
theorem dX7_isFive_7 : decode cX7_isFive 7 = .ok (.invokevirtual 101, 3) := by decide +kernel
theorem dX7_isFive_10 : decode cX7_isFive 10 = .ok (.ifCond .eq 22, 3) := by decide +kernel
theorem dX7_isFive_13 : decode cX7_isFive 13 = .ok (.aload_n 0, 1) := by decide +kernel
theorem dX7_isFive_14 : decode cX7_isFive 14 = .ok (.aload_n 0, 1) := by decide +kernel
theorem dX7_isFive_15 : decode cX7_isFive 15 = .ok (.getfield 74, 3) := by decide +kernel
theorem dX7_isFive_18 : decode cX7_isFive 18 = .ok (.iconst 3, 1) := by decide +kernel
theorem dX7_isFive_19 : decode cX7_isFive 19 = .ok (.iadd, 1) := by decide +kernel
theorem dX7_isFive_20 : decode cX7_isFive 20 = .ok (.invokevirtual 77, 3) := by decide +kernel
theorem dX7_isFive_23 : decode cX7_isFive 23 = .ok (.iload 4, 2) := by decide +kernel
theorem dX7_isFive_25 : decode cX7_isFive 25 = .ok (.if_icmp .ne 7, 3) := by decide +kernel
theorem dX7_isFive_28 : decode cX7_isFive 28 = .ok (.iconst 1, 1) := by decide +kernel
theorem dX7_isFive_29 : decode cX7_isFive 29 = .ok (.goto 4, 3) := by decide +kernel
theorem dX7_isFive_32 : decode cX7_isFive 32 = .ok (.iconst 0, 1) := by decide +kernel
theorem dX7_isFive_33 : decode cX7_isFive 33 = .ok (.ireturn, 1) := by decide +kernel
def p_X7_isFive (F : tF) (A : tA) (x1 : Int32) (x2 : Int32) (x3 : Int32) (x4 : Int32) (x5 : Int32) (K : Int32 → Prop) : Prop := (p_X7_isName F A (5 : Int32) x1 x2 x3 x5 (fun r7 => ((r7 = 0 → (K (0 : Int32))) ∧ (¬ r7 = 0 → (p_X7_byteAt F A ((F 8) + (3 : Int32)) (fun r20 => ((¬ r20 = x4 → (K (0 : Int32))) ∧ (r20 = x4 → (K (1 : Int32))))))))))
set_option maxHeartbeats 4000000 in
set_option maxRecDepth 100000 in
theorem w_X7_isFive (l : Launch) (D : va_G) (cI cZ cR : ClassId) (adK adV : Nat → Nat) (sz : Nat) (o : Nat) (q : Nat → Nat) (F : tF) (A : tA) (x1 : Int32) (x2 : Int32) (x3 : Int32) (x4 : Int32) (x5 : Int32) (K : Int32 → Prop) (h : p_X7_isFive F A x1 x2 x3 x4 x5 K) : MI l D cI cZ cR adK adV yX7_isFive cX7_isFive 6 (some .boolean) (rmN 2 46) [.ref o, .int x1, .int x2, .int x3, .int x4, .int x5] (wX7 cI cZ o q F A : va_W) sz (fun (r : Int32) (u : Unit) => K r) (fun (u : Unit) => (wX7 cI cZ o q F A : va_W)) := by
  refine M_z (by decide +kernel) (Nat.le_of_ble_eq_true rfl) ?_
  intro p e s m args below meth c Q A9 ls X ret hP hD hS hl
  obtain ⟨hx, hb, hml, ht, hown, hK, hA, hE⟩ := id X
  have hl : lv_has ls 6 [(0, .ref o), (1, .int x1), (2, .int x2), (3, .int x3), (4, .int x4), (5, .int x5)] := hl
  unfold p_X7_isFive at h
  refine lv_aload_n hx hb dX7_isFive_0 rfl (lv_at hl 0 rfl) ?_
  refine lv_iconst (v := 5) hx hb dX7_isFive_1 (by decide) ?_
  refine lv_iload_n hx hb dX7_isFive_2 rfl (lv_at hl 1 rfl) ?_
  refine lv_iload_n hx hb dX7_isFive_3 rfl (lv_at hl 2 rfl) ?_
  refine lv_iload_n hx hb dX7_isFive_4 rfl (lv_at hl 3 rfl) ?_
  refine lv_iload hx hb dX7_isFive_5 (lv_at hl 5 rfl) ?_
  refine C_vi (wr := []) X hP hD hS [.int (5 : Int32), .int x1, .int x2, .int x3, .int x5] [] (w_X7_isName l D cI cZ cR adK adV _ o q F A (5 : Int32) x1 x2 x3 x5 _ h) cal_X7_isName mw_13_8 rfl [0, 1, 2, 3, 4, 5, 6, 7, 8, 9, 10, 11, 12, 13, 14, 15] [] [0, 1, 2, 3, 4, 5, 6, 7, 8, 9, 10, 11, 12, 13, 14, 15] (fun u => (wX7 cI cZ o q F A : va_W)) rfl rfl (fun _ => rfl) rfl 0 rfl rfl ⟨rfl, rfl⟩ ⟨Nat.le_of_ble_eq_true rfl, Nat.le_of_ble_eq_true rfl⟩ hl.1 rfl (Nat.le_of_ble_eq_true rfl) ⟨Nat.zero_le _, Nat.zero_le _⟩ dX7_isFive_7 (fun r7 u H locs h hP hD hS => ?_)
  refine lv_if_eq (tgt := 32) hx hb dX7_isFive_10 (by decide) (fun c10 => ?_) (fun c10 => ?_)
  · replace h := h.1 c10
    refine lv_iconst (v := 0) hx hb dX7_isFive_32 (by decide) ?_
    exact ret _ () _ _ _ _ dX7_isFive_33 bo_0 h hP hD hS
  · replace h := h.2 c10
    refine lv_aload_n hx hb dX7_isFive_13 rfl (lv_at hl 0 rfl) ?_
    refine lv_aload_n hx hb dX7_isFive_14 rfl (lv_at hl 0 rfl) ?_
    refine va_get (C := RX7) (T := TX7) (N := 28) (own := RX7) (v := .int (F 8)) hx hb ht inlX7 hown hK hP 0 rfl rfl 8 (Nat.le_of_ble_eq_true rfl) (ht _ mw_12_4) (fun _ h9 => h9) rfl dX7_isFive_15 ?_
    refine lv_iconst (v := 3) hx hb dX7_isFive_18 (by decide) ?_
    refine lv_iadd hx hb dX7_isFive_19 ?_
    refine C_vi (wr := []) X hP hD hS [.int ((F 8) + (3 : Int32))] [] (w_X7_byteAt l D cI cZ cR adK adV _ o q F A ((F 8) + (3 : Int32)) _ h) cal_X7_byteAt mw_12_14 rfl [0, 1, 2, 3, 4, 5, 6, 7, 8, 9, 10, 11, 12, 13, 14, 15] [] [0, 1, 2, 3, 4, 5, 6, 7, 8, 9, 10, 11, 12, 13, 14, 15] (fun u => (wX7 cI cZ o q F A : va_W)) rfl rfl (fun _ => rfl) rfl 0 rfl rfl ⟨rfl, rfl⟩ ⟨Nat.le_of_ble_eq_true rfl, Nat.le_of_ble_eq_true rfl⟩ hl.1 rfl (Nat.le_of_ble_eq_true rfl) ⟨Nat.zero_le _, Nat.zero_le _⟩ dX7_isFive_20 (fun r20 u H locs h hP hD hS => ?_)
    refine lv_iload hx hb dX7_isFive_23 (lv_at hl 4 rfl) ?_
    refine lv_icmp_ne (tgt := 32) hx hb dX7_isFive_25 (by decide) (fun c25 => ?_) (fun c25 => ?_)
    · replace h := h.1 c25
      refine lv_iconst (v := 0) hx hb dX7_isFive_32 (by decide) ?_
      exact ret _ () _ _ _ _ dX7_isFive_33 bo_0 h hP hD hS
    · replace h := h.2 c25
      refine lv_iconst (v := 1) hx hb dX7_isFive_28 (by decide) ?_
      refine lv_goto (tgt := 33) hx hb dX7_isFive_29 (by decide) ?_
      exact ret _ () _ _ _ _ dX7_isFive_33 bo_1 h hP hD hS
theorem cal_X7_isFour : CalV yX7_isFour cX7_isFour 5 (some .boolean) 4 := ⟨mw_13_15, mw_1_5, mw_13_13, mw_13_14, ⟨by decide +kernel, by decide +kernel, by decide +kernel⟩⟩
theorem cal_X7_isSame : CalV yX7_isSame cX7_isSame 5 (some .boolean) 4 := ⟨mw_13_19, mw_1_5, mw_13_17, mw_13_18, ⟨by decide +kernel, by decide +kernel, by decide +kernel⟩⟩
theorem dX7_kindHere_0 : decode cX7_kindHere 0 = .ok (.aload_n 0, 1) := by decide +kernel
theorem dX7_kindHere_1 : decode cX7_kindHere 1 = .ok (.iconst 3, 1) := by decide +kernel
theorem dX7_kindHere_2 : decode cX7_kindHere 2 = .ok (.bipush 101, 2) := by decide +kernel
theorem dX7_kindHere_4 : decode cX7_kindHere 4 = .ok (.bipush 119, 2) := by decide +kernel
theorem dX7_kindHere_6 : decode cX7_kindHere 6 = .ok (.bipush 101, 2) := by decide +kernel
theorem dX7_kindHere_8 : decode cX7_kindHere 8 = .ok (.bipush 101, 2) := by decide +kernel
theorem dX7_kindHere_10 : decode cX7_kindHere 10 = .ok (.invokevirtual 101, 3) := by decide +kernel
theorem dX7_kindHere_13 : decode cX7_kindHere 13 = .ok (.ifCond .eq 5, 3) := by decide +kernel
theorem dX7_kindHere_16 : decode cX7_kindHere 16 = .ok (.iconst 0, 1) := by decide +kernel
theorem dX7_kindHere_17 : decode cX7_kindHere 17 = .ok (.ireturn, 1) := by decide +kernel
theorem dX7_kindHere_18 : decode cX7_kindHere 18 = .ok (.aload_n 0, 1) := by decide +kernel
theorem dX7_kindHere_19 : decode cX7_kindHere 19 = .ok (.bipush 104, 2) := by decide +kernel
theorem dX7_kindHere_21 : decode cX7_kindHere 21 = .ok (.bipush 111, 2) := by decide +kernel
theorem dX7_kindHere_23 : decode cX7_kindHere 23 = .ok (.bipush 103, 2) := by decide +kernel
theorem dX7_kindHere_25 : decode cX7_kindHere 25 = .ok (.bipush 103, 2) := by decide +kernel
theorem dX7_kindHere_27 : decode cX7_kindHere 27 = .ok (.invokevirtual 105, 3) := by decide +kernel
theorem dX7_kindHere_30 : decode cX7_kindHere 30 = .ok (.ifCond .eq 5, 3) := by decide +kernel
theorem dX7_kindHere_33 : decode cX7_kindHere 33 = .ok (.iconst 1, 1) := by decide +kernel
theorem dX7_kindHere_34 : decode cX7_kindHere 34 = .ok (.ireturn, 1) := by decide +kernel
theorem dX7_kindHere_35 : decode cX7_kindHere 35 = .ok (.aload_n 0, 1) := by decide +kernel
theorem dX7_kindHere_36 : decode cX7_kindHere 36 = .ok (.bipush 6, 2) := by decide +kernel
theorem dX7_kindHere_38 : decode cX7_kindHere 38 = .ok (.bipush 119, 2) := by decide +kernel
theorem dX7_kindHere_40 : decode cX7_kindHere 40 = .ok (.bipush 101, 2) := by decide +kernel
theorem dX7_kindHere_42 : decode cX7_kindHere 42 = .ok (.bipush 116, 2) := by decide +kernel
theorem dX7_kindHere_44 : decode cX7_kindHere 44 = .ok (.bipush 114, 2) := by decide +kernel
theorem dX7_kindHere_46 : decode cX7_kindHere 46 = .ok (.invokevirtual 101, 3) := by decide +kernel
theorem dX7_kindHere_49 : decode cX7_kindHere 49 = .ok (.ifCond .eq 19, 3) := by decide +kernel
theorem dX7_kindHere_52 : decode cX7_kindHere 52 = .ok (.aload_n 0, 1) := by decide +kernel
theorem dX7_kindHere_53 : decode cX7_kindHere 53 = .ok (.iconst 2, 1) := by decide +kernel
theorem dX7_kindHere_54 : decode cX7_kindHere 54 = .ok (.bipush 116, 2) := by decide +kernel
theorem dX7_kindHere_56 : decode cX7_kindHere 56 = .ok (.bipush 104, 2) := by decide +kernel
theorem dX7_kindHere_58 : decode cX7_kindHere 58 = .ok (.bipush 101, 2) := by decide +kernel
theorem dX7_kindHere_60 : decode cX7_kindHere 60 = .ok (.invokevirtual 109, 3) := by decide +kernel
theorem dX7_kindHere_63 : decode cX7_kindHere 63 = .ok (.ifCond .eq 5, 3) := by decide +kernel
theorem dX7_kindHere_66 : decode cX7_kindHere 66 = .ok (.iconst 2, 1) := by decide +kernel
theorem dX7_kindHere_67 : decode cX7_kindHere 67 = .ok (.ireturn, 1) := by decide +kernel
theorem dX7_kindHere_68 : decode cX7_kindHere 68 = .ok (.aload_n 0, 1) := by decide +kernel
theorem dX7_kindHere_69 : decode cX7_kindHere 69 = .ok (.bipush 6, 2) := by decide +kernel
theorem dX7_kindHere_71 : decode cX7_kindHere 71 = .ok (.bipush 103, 2) := by decide +kernel
theorem dX7_kindHere_73 : decode cX7_kindHere 73 = .ok (.bipush 105, 2) := by decide +kernel
theorem dX7_kindHere_75 : decode cX7_kindHere 75 = .ok (.bipush 109, 2) := by decide +kernel
theorem dX7_kindHere_77 : decode cX7_kindHere 77 = .ok (.bipush 114, 2) := by decide +kernel
theorem dX7_kindHere_79 : decode cX7_kindHere 79 = .ok (.invokevirtual 101, 3) := by decide +kernel
theorem dX7_kindHere_82 : decode cX7_kindHere 82 = .ok (.ifCond .eq 19, 3) := by decide +kernel
theorem dX7_kindHere_85 : decode cX7_kindHere 85 = .ok (.aload_n 0, 1) := by decide +kernel
theorem dX7_kindHere_86 : decode cX7_kindHere 86 = .ok (.iconst 2, 1) := by decide +kernel
theorem dX7_kindHere_87 : decode cX7_kindHere 87 = .ok (.bipush 109, 2) := by decide +kernel
theorem dX7_kindHere_89 : decode cX7_kindHere 89 = .ok (.bipush 109, 2) := by decide +kernel
theorem dX7_kindHere_91 : decode cX7_kindHere 91 = .ok (.bipush 101, 2) := by decide +kernel
theorem dX7_kindHere_93 : decode cX7_kindHere 93 = .ok (.invokevirtual 109, 3) := by decide +kernel
theorem dX7_kindHere_96 : decode cX7_kindHere 96 = .ok (.ifCond .eq 5, 3) := by decide +kernel
theorem dX7_kindHere_99 : decode cX7_kindHere 99 = .ok (.iconst 3, 1) := by decide +kernel
theorem dX7_kindHere_100 : decode cX7_kindHere 100 = .ok (.ireturn, 1) := by decide +kernel
theorem dX7_kindHere_101 : decode cX7_kindHere 101 = .ok (.aload_n 0, 1) := by decide +kernel
theorem dX7_kindHere_102 : decode cX7_kindHere 102 = .ok (.bipush 10, 2) := by decide +kernel
theorem dX7_kindHere_104 : decode cX7_kindHere 104 = .ok (.bipush 98, 2) := by decide +kernel
theorem dX7_kindHere_106 : decode cX7_kindHere 106 = .ok (.bipush 101, 2) := by decide +kernel
theorem dX7_kindHere_108 : decode cX7_kindHere 108 = .ok (.bipush 108, 2) := by decide +kernel
theorem dX7_kindHere_110 : decode cX7_kindHere 110 = .ok (.bipush 114, 2) := by decide +kernel
theorem dX7_kindHere_112 : decode cX7_kindHere 112 = .ok (.invokevirtual 101, 3) := by decide +kernel
theorem dX7_kindHere_115 : decode cX7_kindHere 115 = .ok (.ifCond .eq 34, 3) := by decide +kernel
theorem dX7_kindHere_118 : decode cX7_kindHere 118 = .ok (.aload_n 0, 1) := by decide +kernel
theorem dX7_kindHere_119 : decode cX7_kindHere 119 = .ok (.iconst 3, 1) := by decide +kernel
theorem dX7_kindHere_120 : decode cX7_kindHere 120 = .ok (.bipush 108, 2) := by decide +kernel
theorem dX7_kindHere_122 : decode cX7_kindHere 122 = .ok (.bipush 119, 2) := by decide +kernel
theorem dX7_kindHere_124 : decode cX7_kindHere 124 = .ok (.bipush 101, 2) := by decide +kernel
theorem dX7_kindHere_126 : decode cX7_kindHere 126 = .ok (.invokevirtual 109, 3) := by decide +kernel
theorem dX7_kindHere_129 : decode cX7_kindHere 129 = .ok (.ifCond .eq 20, 3) := by decide +kernel
theorem dX7_kindHere_132 : decode cX7_kindHere 132 = .ok (.aload_n 0, 1) := by decide +kernel
theorem dX7_kindHere_133 : decode cX7_kindHere 133 = .ok (.bipush 6, 2) := by decide +kernel
theorem dX7_kindHere_135 : decode cX7_kindHere 135 = .ok (.bipush 116, 2) := by decide +kernel
theorem dX7_kindHere_137 : decode cX7_kindHere 137 = .ok (.bipush 104, 2) := by decide +kernel
theorem dX7_kindHere_139 : decode cX7_kindHere 139 = .ok (.bipush 101, 2) := by decide +kernel
theorem dX7_kindHere_141 : decode cX7_kindHere 141 = .ok (.invokevirtual 109, 3) := by decide +kernel
theorem dX7_kindHere_144 : decode cX7_kindHere 144 = .ok (.ifCond .eq 5, 3) := by decide +kernel
theorem dX7_kindHere_147 : decode cX7_kindHere 147 = .ok (.iconst 4, 1) := by decide +kernel
theorem dX7_kindHere_148 : decode cX7_kindHere 148 = .ok (.ireturn, 1) := by decide +kernel
theorem dX7_kindHere_149 : decode cX7_kindHere 149 = .ok (.aload_n 0, 1) := by decide +kernel
theorem dX7_kindHere_150 : decode cX7_kindHere 150 = .ok (.iconst 3, 1) := by decide +kernel
theorem dX7_kindHere_151 : decode cX7_kindHere 151 = .ok (.bipush 116, 2) := by decide +kernel
theorem dX7_kindHere_153 : decode cX7_kindHere 153 = .ok (.bipush 117, 2) := by decide +kernel
theorem dX7_kindHere_155 : decode cX7_kindHere 155 = .ok (.bipush 112, 2) := by decide +kernel
theorem dX7_kindHere_157 : decode cX7_kindHere 157 = .ok (.bipush 112, 2) := by decide +kernel
theorem dX7_kindHere_159 : decode cX7_kindHere 159 = .ok (.invokevirtual 101, 3) := by decide +kernel
theorem dX7_kindHere_162 : decode cX7_kindHere 162 = .ok (.ifCond .eq 7, 3) := by decide +kernel
theorem dX7_kindHere_165 : decode cX7_kindHere 165 = .ok (.iconst 5, 1) := by decide +kernel
theorem dX7_kindHere_166 : decode cX7_kindHere 166 = .ok (.goto 4, 3) := by decide +kernel
theorem dX7_kindHere_169 : decode cX7_kindHere 169 = .ok (.iconst (-1), 1) := by decide +kernel
theorem dX7_kindHere_170 : decode cX7_kindHere 170 = .ok (.ireturn, 1) := by decide +kernel
def p_X7_kindHere_J149 (F : tF) (A : tA) (K : Int32 → Prop)  : Prop := (p_X7_isName F A (3 : Int32) (116 : Int32) (117 : Int32) (112 : Int32) (112 : Int32) (fun r159 => ((r159 = 0 → (K (-1 : Int32))) ∧ (¬ r159 = 0 → (K (5 : Int32))))))
set_option maxHeartbeats 4000000 in
set_option maxRecDepth 100000 in
theorem b_X7_kindHere_J149 {p : Program} {l : Launch} {e : Env} {s : State} {m : MethodId} {args : Array Value} {below : List Frame} {meth : Method} {c : Code} {Q : State → Prop} {D : va_G} {cI cZ cR : ClassId} {adK adV : Nat → Nat} {A9 : Nat → Prop} {o : Nat} {q : Nat → Nat} {K : Int32 → Prop}  (F : tF) (A : tA) (X : CX p s m args c yX7_kindHere.cls cX7_kindHere 1 D cI cZ cR adK adV A9) (ret : RTi p l e (rmN 3 70) s m args below meth c Q cX7_kindHere D A9 (fun (r : Int32) (u : Unit) => K r) (fun (u : Unit) => (wX7 cI cZ o q F A : va_W)))  (H : Heap) (locs : List Loc) (ls : Array Slot) (h : p_X7_kindHere_J149 F A K) (hP : va_P D vwCl (wX7 cI cZ o q F A : va_W) H) (hD : va_D A9 (wX7 cI cZ o q F A : va_W)) (hS : va_S A9 s.heap H locs) (hl : lv_has ls 1 [(0, .ref o)]) : W p l e (rmN 3 70) s m args below meth c H locs 0 0 Q (F0 m 149 ls []) := by
  obtain ⟨hx, hb, hml, ht, hown, hK, hA, hE⟩ := id X
  unfold p_X7_kindHere_J149 at h
  refine lv_aload_n hx hb dX7_kindHere_149 rfl (lv_at hl 0 rfl) ?_
  refine lv_iconst (v := 3) hx hb dX7_kindHere_150 (by decide) ?_
  refine lv_bipush (v := 116) hx hb dX7_kindHere_151 (by decide) ?_
  refine lv_bipush (v := 117) hx hb dX7_kindHere_153 (by decide) ?_
  refine lv_bipush (v := 112) hx hb dX7_kindHere_155 (by decide) ?_
  refine lv_bipush (v := 112) hx hb dX7_kindHere_157 (by decide) ?_
  refine C_vi (wr := []) X hP hD hS [.int (3 : Int32), .int (116 : Int32), .int (117 : Int32), .int (112 : Int32), .int (112 : Int32)] [] (w_X7_isName l D cI cZ cR adK adV _ o q F A (3 : Int32) (116 : Int32) (117 : Int32) (112 : Int32) (112 : Int32) _ h) cal_X7_isName mw_13_8 rfl [0, 1, 2, 3, 4, 5, 6, 7, 8, 9, 10, 11, 12, 13, 14, 15] [] [0, 1, 2, 3, 4, 5, 6, 7, 8, 9, 10, 11, 12, 13, 14, 15] (fun u => (wX7 cI cZ o q F A : va_W)) rfl rfl (fun _ => rfl) rfl 0 rfl rfl ⟨rfl, rfl⟩ ⟨Nat.le_of_ble_eq_true rfl, Nat.le_of_ble_eq_true rfl⟩ hl.1 rfl (Nat.le_of_ble_eq_true rfl) ⟨Nat.zero_le _, Nat.zero_le _⟩ dX7_kindHere_159 (fun r159 u H locs h hP hD hS => ?_)
  refine lv_if_eq (tgt := 169) hx hb dX7_kindHere_162 (by decide) (fun c162 => ?_) (fun c162 => ?_)
  · replace h := h.1 c162
    refine lv_iconst (v := -1) hx hb dX7_kindHere_169 (by decide) ?_
    exact ret _ () _ _ _ _ dX7_kindHere_170 h hP hD hS
  · replace h := h.2 c162
    refine lv_iconst (v := 5) hx hb dX7_kindHere_165 (by decide) ?_
    refine lv_goto (tgt := 170) hx hb dX7_kindHere_166 (by decide) ?_
    exact ret _ () _ _ _ _ dX7_kindHere_170 h hP hD hS
def p_X7_kindHere_J101 (F : tF) (A : tA) (K : Int32 → Prop)  : Prop := (p_X7_isName F A (10 : Int32) (98 : Int32) (101 : Int32) (108 : Int32) (114 : Int32) (fun r112 => ((r112 = 0 → (p_X7_kindHere_J149 F A K)) ∧ (¬ r112 = 0 → (p_X7_isSame F A (3 : Int32) (108 : Int32) (119 : Int32) (101 : Int32) (fun r126 => ((r126 = 0 → (p_X7_kindHere_J149 F A K)) ∧ (¬ r126 = 0 → (p_X7_isSame F A (6 : Int32) (116 : Int32) (104 : Int32) (101 : Int32) (fun r141 => ((r141 = 0 → (p_X7_kindHere_J149 F A K)) ∧ (¬ r141 = 0 → (K (4 : Int32))))))))))))))
set_option maxHeartbeats 4000000 in
set_option maxRecDepth 100000 in
theorem b_X7_kindHere_J101 {p : Program} {l : Launch} {e : Env} {s : State} {m : MethodId} {args : Array Value} {below : List Frame} {meth : Method} {c : Code} {Q : State → Prop} {D : va_G} {cI cZ cR : ClassId} {adK adV : Nat → Nat} {A9 : Nat → Prop} {o : Nat} {q : Nat → Nat} {K : Int32 → Prop}  (F : tF) (A : tA) (X : CX p s m args c yX7_kindHere.cls cX7_kindHere 1 D cI cZ cR adK adV A9) (ret : RTi p l e (rmN 3 70) s m args below meth c Q cX7_kindHere D A9 (fun (r : Int32) (u : Unit) => K r) (fun (u : Unit) => (wX7 cI cZ o q F A : va_W)))  (H : Heap) (locs : List Loc) (ls : Array Slot) (h : p_X7_kindHere_J101 F A K) (hP : va_P D vwCl (wX7 cI cZ o q F A : va_W) H) (hD : va_D A9 (wX7 cI cZ o q F A : va_W)) (hS : va_S A9 s.heap H locs) (hl : lv_has ls 1 [(0, .ref o)]) : W p l e (rmN 3 70) s m args below meth c H locs 0 0 Q (F0 m 101 ls []) := by
  obtain ⟨hx, hb, hml, ht, hown, hK, hA, hE⟩ := id X
  unfold p_X7_kindHere_J101 at h
  refine lv_aload_n hx hb dX7_kindHere_101 rfl (lv_at hl 0 rfl) ?_
  refine lv_bipush (v := 10) hx hb dX7_kindHere_102 (by decide) ?_
  refine lv_bipush (v := 98) hx hb dX7_kindHere_104 (by decide) ?_
  refine lv_bipush (v := 101) hx hb dX7_kindHere_106 (by decide) ?_
  refine lv_bipush (v := 108) hx hb dX7_kindHere_108 (by decide) ?_
  refine lv_bipush (v := 114) hx hb dX7_kindHere_110 (by decide) ?_
  refine C_vi (wr := []) X hP hD hS [.int (10 : Int32), .int (98 : Int32), .int (101 : Int32), .int (108 : Int32), .int (114 : Int32)] [] (w_X7_isName l D cI cZ cR adK adV _ o q F A (10 : Int32) (98 : Int32) (101 : Int32) (108 : Int32) (114 : Int32) _ h) cal_X7_isName mw_13_8 rfl [0, 1, 2, 3, 4, 5, 6, 7, 8, 9, 10, 11, 12, 13, 14, 15] [] [0, 1, 2, 3, 4, 5, 6, 7, 8, 9, 10, 11, 12, 13, 14, 15] (fun u => (wX7 cI cZ o q F A : va_W)) rfl rfl (fun _ => rfl) rfl 0 rfl rfl ⟨rfl, rfl⟩ ⟨Nat.le_of_ble_eq_true rfl, Nat.le_of_ble_eq_true rfl⟩ hl.1 rfl (Nat.le_of_ble_eq_true rfl) ⟨Nat.zero_le _, Nat.zero_le _⟩ dX7_kindHere_112 (fun r112 u H locs h hP hD hS => ?_)
  refine lv_if_eq (tgt := 149) hx hb dX7_kindHere_115 (by decide) (fun c115 => ?_) (fun c115 => ?_)
  · replace h := h.1 c115
    exact b_X7_kindHere_J149 F A X ret  _ _ _ h hP hD hS (lv_sub hl [0] rfl)
  · replace h := h.2 c115
    refine lv_aload_n hx hb dX7_kindHere_118 rfl (lv_at hl 0 rfl) ?_
    refine lv_iconst (v := 3) hx hb dX7_kindHere_119 (by decide) ?_
    refine lv_bipush (v := 108) hx hb dX7_kindHere_120 (by decide) ?_
    refine lv_bipush (v := 119) hx hb dX7_kindHere_122 (by decide) ?_
    refine lv_bipush (v := 101) hx hb dX7_kindHere_124 (by decide) ?_
    refine C_vi (wr := []) X hP hD hS [.int (3 : Int32), .int (108 : Int32), .int (119 : Int32), .int (101 : Int32)] [] (w_X7_isSame l D cI cZ cR adK adV _ o q F A (3 : Int32) (108 : Int32) (119 : Int32) (101 : Int32) _ h) cal_X7_isSame mw_13_16 rfl [0, 1, 2, 3, 4, 5, 6, 7, 8, 9, 10, 11, 12, 13, 14, 15] [] [0, 1, 2, 3, 4, 5, 6, 7, 8, 9, 10, 11, 12, 13, 14, 15] (fun u => (wX7 cI cZ o q F A : va_W)) rfl rfl (fun _ => rfl) rfl 0 rfl rfl ⟨rfl, rfl⟩ ⟨Nat.le_of_ble_eq_true rfl, Nat.le_of_ble_eq_true rfl⟩ hl.1 rfl (Nat.le_of_ble_eq_true rfl) ⟨Nat.zero_le _, Nat.zero_le _⟩ dX7_kindHere_126 (fun r126 u H locs h hP hD hS => ?_)
    refine lv_if_eq (tgt := 149) hx hb dX7_kindHere_129 (by decide) (fun c129 => ?_) (fun c129 => ?_)
    · replace h := h.1 c129
      exact b_X7_kindHere_J149 F A X ret  _ _ _ h hP hD hS (lv_sub hl [0] rfl)
    · replace h := h.2 c129
      refine lv_aload_n hx hb dX7_kindHere_132 rfl (lv_at hl 0 rfl) ?_
      refine lv_bipush (v := 6) hx hb dX7_kindHere_133 (by decide) ?_
      refine lv_bipush (v := 116) hx hb dX7_kindHere_135 (by decide) ?_
      refine lv_bipush (v := 104) hx hb dX7_kindHere_137 (by decide) ?_
      refine lv_bipush (v := 101) hx hb dX7_kindHere_139 (by decide) ?_
      refine C_vi (wr := []) X hP hD hS [.int (6 : Int32), .int (116 : Int32), .int (104 : Int32), .int (101 : Int32)] [] (w_X7_isSame l D cI cZ cR adK adV _ o q F A (6 : Int32) (116 : Int32) (104 : Int32) (101 : Int32) _ h) cal_X7_isSame mw_13_16 rfl [0, 1, 2, 3, 4, 5, 6, 7, 8, 9, 10, 11, 12, 13, 14, 15] [] [0, 1, 2, 3, 4, 5, 6, 7, 8, 9, 10, 11, 12, 13, 14, 15] (fun u => (wX7 cI cZ o q F A : va_W)) rfl rfl (fun _ => rfl) rfl 0 rfl rfl ⟨rfl, rfl⟩ ⟨Nat.le_of_ble_eq_true rfl, Nat.le_of_ble_eq_true rfl⟩ hl.1 rfl (Nat.le_of_ble_eq_true rfl) ⟨Nat.zero_le _, Nat.zero_le _⟩ dX7_kindHere_141 (fun r141 u H locs h hP hD hS => ?_)
      refine lv_if_eq (tgt := 149) hx hb dX7_kindHere_144 (by decide) (fun c144 => ?_) (fun c144 => ?_)
      · replace h := h.1 c144
        exact b_X7_kindHere_J149 F A X ret  _ _ _ h hP hD hS (lv_sub hl [0] rfl)
      · replace h := h.2 c144
        refine lv_iconst (v := 4) hx hb dX7_kindHere_147 (by decide) ?_
        exact ret _ () _ _ _ _ dX7_kindHere_148 h hP hD hS
def p_X7_kindHere_J68 (F : tF) (A : tA) (K : Int32 → Prop)  : Prop := (p_X7_isName F A (6 : Int32) (103 : Int32) (105 : Int32) (109 : Int32) (114 : Int32) (fun r79 => ((r79 = 0 → (p_X7_kindHere_J101 F A K)) ∧ (¬ r79 = 0 → (p_X7_isSame F A (2 : Int32) (109 : Int32) (109 : Int32) (101 : Int32) (fun r93 => ((r93 = 0 → (p_X7_kindHere_J101 F A K)) ∧ (¬ r93 = 0 → (K (3 : Int32))))))))))
set_option maxHeartbeats 4000000 in
set_option maxRecDepth 100000 in
theorem b_X7_kindHere_J68 {p : Program} {l : Launch} {e : Env} {s : State} {m : MethodId} {args : Array Value} {below : List Frame} {meth : Method} {c : Code} {Q : State → Prop} {D : va_G} {cI cZ cR : ClassId} {adK adV : Nat → Nat} {A9 : Nat → Prop} {o : Nat} {q : Nat → Nat} {K : Int32 → Prop}  (F : tF) (A : tA) (X : CX p s m args c yX7_kindHere.cls cX7_kindHere 1 D cI cZ cR adK adV A9) (ret : RTi p l e (rmN 3 70) s m args below meth c Q cX7_kindHere D A9 (fun (r : Int32) (u : Unit) => K r) (fun (u : Unit) => (wX7 cI cZ o q F A : va_W)))  (H : Heap) (locs : List Loc) (ls : Array Slot) (h : p_X7_kindHere_J68 F A K) (hP : va_P D vwCl (wX7 cI cZ o q F A : va_W) H) (hD : va_D A9 (wX7 cI cZ o q F A : va_W)) (hS : va_S A9 s.heap H locs) (hl : lv_has ls 1 [(0, .ref o)]) : W p l e (rmN 3 70) s m args below meth c H locs 0 0 Q (F0 m 68 ls []) := by
  obtain ⟨hx, hb, hml, ht, hown, hK, hA, hE⟩ := id X
  unfold p_X7_kindHere_J68 at h
  refine lv_aload_n hx hb dX7_kindHere_68 rfl (lv_at hl 0 rfl) ?_
  refine lv_bipush (v := 6) hx hb dX7_kindHere_69 (by decide) ?_
  refine lv_bipush (v := 103) hx hb dX7_kindHere_71 (by decide) ?_
  refine lv_bipush (v := 105) hx hb dX7_kindHere_73 (by decide) ?_
  refine lv_bipush (v := 109) hx hb dX7_kindHere_75 (by decide) ?_
  refine lv_bipush (v := 114) hx hb dX7_kindHere_77 (by decide) ?_
  refine C_vi (wr := []) X hP hD hS [.int (6 : Int32), .int (103 : Int32), .int (105 : Int32), .int (109 : Int32), .int (114 : Int32)] [] (w_X7_isName l D cI cZ cR adK adV _ o q F A (6 : Int32) (103 : Int32) (105 : Int32) (109 : Int32) (114 : Int32) _ h) cal_X7_isName mw_13_8 rfl [0, 1, 2, 3, 4, 5, 6, 7, 8, 9, 10, 11, 12, 13, 14, 15] [] [0, 1, 2, 3, 4, 5, 6, 7, 8, 9, 10, 11, 12, 13, 14, 15] (fun u => (wX7 cI cZ o q F A : va_W)) rfl rfl (fun _ => rfl) rfl 0 rfl rfl ⟨rfl, rfl⟩ ⟨Nat.le_of_ble_eq_true rfl, Nat.le_of_ble_eq_true rfl⟩ hl.1 rfl (Nat.le_of_ble_eq_true rfl) ⟨Nat.zero_le _, Nat.zero_le _⟩ dX7_kindHere_79 (fun r79 u H locs h hP hD hS => ?_)
  refine lv_if_eq (tgt := 101) hx hb dX7_kindHere_82 (by decide) (fun c82 => ?_) (fun c82 => ?_)
  · replace h := h.1 c82
    exact b_X7_kindHere_J101 F A X ret  _ _ _ h hP hD hS (lv_sub hl [0] rfl)
  · replace h := h.2 c82
    refine lv_aload_n hx hb dX7_kindHere_85 rfl (lv_at hl 0 rfl) ?_
    refine lv_iconst (v := 2) hx hb dX7_kindHere_86 (by decide) ?_
    refine lv_bipush (v := 109) hx hb dX7_kindHere_87 (by decide) ?_
    refine lv_bipush (v := 109) hx hb dX7_kindHere_89 (by decide) ?_
    refine lv_bipush (v := 101) hx hb dX7_kindHere_91 (by decide) ?_
    refine C_vi (wr := []) X hP hD hS [.int (2 : Int32), .int (109 : Int32), .int (109 : Int32), .int (101 : Int32)] [] (w_X7_isSame l D cI cZ cR adK adV _ o q F A (2 : Int32) (109 : Int32) (109 : Int32) (101 : Int32) _ h) cal_X7_isSame mw_13_16 rfl [0, 1, 2, 3, 4, 5, 6, 7, 8, 9, 10, 11, 12, 13, 14, 15] [] [0, 1, 2, 3, 4, 5, 6, 7, 8, 9, 10, 11, 12, 13, 14, 15] (fun u => (wX7 cI cZ o q F A : va_W)) rfl rfl (fun _ => rfl) rfl 0 rfl rfl ⟨rfl, rfl⟩ ⟨Nat.le_of_ble_eq_true rfl, Nat.le_of_ble_eq_true rfl⟩ hl.1 rfl (Nat.le_of_ble_eq_true rfl) ⟨Nat.zero_le _, Nat.zero_le _⟩ dX7_kindHere_93 (fun r93 u H locs h hP hD hS => ?_)
    refine lv_if_eq (tgt := 101) hx hb dX7_kindHere_96 (by decide) (fun c96 => ?_) (fun c96 => ?_)
    · replace h := h.1 c96
      exact b_X7_kindHere_J101 F A X ret  _ _ _ h hP hD hS (lv_sub hl [0] rfl)
    · replace h := h.2 c96
      refine lv_iconst (v := 3) hx hb dX7_kindHere_99 (by decide) ?_
      exact ret _ () _ _ _ _ dX7_kindHere_100 h hP hD hS
def p_X7_kindHere (F : tF) (A : tA) (K : Int32 → Prop) : Prop := (p_X7_isName F A (3 : Int32) (101 : Int32) (119 : Int32) (101 : Int32) (101 : Int32) (fun r10 => ((r10 = 0 → (p_X7_isFour F A (104 : Int32) (111 : Int32) (103 : Int32) (103 : Int32) (fun r27 => ((r27 = 0 → (p_X7_isName F A (6 : Int32) (119 : Int32) (101 : Int32) (116 : Int32) (114 : Int32) (fun r46 => ((r46 = 0 → (p_X7_kindHere_J68 F A K)) ∧ (¬ r46 = 0 → (p_X7_isSame F A (2 : Int32) (116 : Int32) (104 : Int32) (101 : Int32) (fun r60 => ((r60 = 0 → (p_X7_kindHere_J68 F A K)) ∧ (¬ r60 = 0 → (K (2 : Int32))))))))))) ∧ (¬ r27 = 0 → (K (1 : Int32))))))) ∧ (¬ r10 = 0 → (K (0 : Int32))))))
set_option maxHeartbeats 4000000 in
set_option maxRecDepth 100000 in
theorem w_X7_kindHere (l : Launch) (D : va_G) (cI cZ cR : ClassId) (adK adV : Nat → Nat) (sz : Nat) (o : Nat) (q : Nat → Nat) (F : tF) (A : tA) (K : Int32 → Prop) (h : p_X7_kindHere F A K) : MI l D cI cZ cR adK adV yX7_kindHere cX7_kindHere 1 (some .int) (rmN 3 70) [.ref o] (wX7 cI cZ o q F A : va_W) sz (fun (r : Int32) (u : Unit) => K r) (fun (u : Unit) => (wX7 cI cZ o q F A : va_W)) := by
  refine M_i (by decide +kernel) (Nat.le_of_ble_eq_true rfl) ?_
  intro p e s m args below meth c Q A9 ls X ret hP hD hS hl
  obtain ⟨hx, hb, hml, ht, hown, hK, hA, hE⟩ := id X
  have hl : lv_has ls 1 [(0, .ref o)] := hl
  unfold p_X7_kindHere at h
  refine lv_aload_n hx hb dX7_kindHere_0 rfl (lv_at hl 0 rfl) ?_
  refine lv_iconst (v := 3) hx hb dX7_kindHere_1 (by decide) ?_
  refine lv_bipush (v := 101) hx hb dX7_kindHere_2 (by decide) ?_
  refine lv_bipush (v := 119) hx hb dX7_kindHere_4 (by decide) ?_
  refine lv_bipush (v := 101) hx hb dX7_kindHere_6 (by decide) ?_
  refine lv_bipush (v := 101) hx hb dX7_kindHere_8 (by decide) ?_
  refine C_vi (wr := []) X hP hD hS [.int (3 : Int32), .int (101 : Int32), .int (119 : Int32), .int (101 : Int32), .int (101 : Int32)] [] (w_X7_isName l D cI cZ cR adK adV _ o q F A (3 : Int32) (101 : Int32) (119 : Int32) (101 : Int32) (101 : Int32) _ h) cal_X7_isName mw_13_8 rfl [0, 1, 2, 3, 4, 5, 6, 7, 8, 9, 10, 11, 12, 13, 14, 15] [] [0, 1, 2, 3, 4, 5, 6, 7, 8, 9, 10, 11, 12, 13, 14, 15] (fun u => (wX7 cI cZ o q F A : va_W)) rfl rfl (fun _ => rfl) rfl 0 rfl rfl ⟨rfl, rfl⟩ ⟨Nat.le_of_ble_eq_true rfl, Nat.le_of_ble_eq_true rfl⟩ hl.1 rfl (Nat.le_of_ble_eq_true rfl) ⟨Nat.zero_le _, Nat.zero_le _⟩ dX7_kindHere_10 (fun r10 u H locs h hP hD hS => ?_)
  refine lv_if_eq (tgt := 18) hx hb dX7_kindHere_13 (by decide) (fun c13 => ?_) (fun c13 => ?_)
  · replace h := h.1 c13
    refine lv_aload_n hx hb dX7_kindHere_18 rfl (lv_at hl 0 rfl) ?_
    refine lv_bipush (v := 104) hx hb dX7_kindHere_19 (by decide) ?_
    refine lv_bipush (v := 111) hx hb dX7_kindHere_21 (by decide) ?_
    refine lv_bipush (v := 103) hx hb dX7_kindHere_23 (by decide) ?_
    refine lv_bipush (v := 103) hx hb dX7_kindHere_25 (by decide) ?_
    refine C_vi (wr := []) X hP hD hS [.int (104 : Int32), .int (111 : Int32), .int (103 : Int32), .int (103 : Int32)] [] (w_X7_isFour l D cI cZ cR adK adV _ o q F A (104 : Int32) (111 : Int32) (103 : Int32) (103 : Int32) _ h) cal_X7_isFour mw_13_12 rfl [0, 1, 2, 3, 4, 5, 6, 7, 8, 9, 10, 11, 12, 13, 14, 15] [] [0, 1, 2, 3, 4, 5, 6, 7, 8, 9, 10, 11, 12, 13, 14, 15] (fun u => (wX7 cI cZ o q F A : va_W)) rfl rfl (fun _ => rfl) rfl 0 rfl rfl ⟨rfl, rfl⟩ ⟨Nat.le_of_ble_eq_true rfl, Nat.le_of_ble_eq_true rfl⟩ hl.1 rfl (Nat.le_of_ble_eq_true rfl) ⟨Nat.zero_le _, Nat.zero_le _⟩ dX7_kindHere_27 (fun r27 u H locs h hP hD hS => ?_)
    refine lv_if_eq (tgt := 35) hx hb dX7_kindHere_30 (by decide) (fun c30 => ?_) (fun c30 => ?_)
    · replace h := h.1 c30
      refine lv_aload_n hx hb dX7_kindHere_35 rfl (lv_at hl 0 rfl) ?_
      refine lv_bipush (v := 6) hx hb dX7_kindHere_36 (by decide) ?_
      refine lv_bipush (v := 119) hx hb dX7_kindHere_38 (by decide) ?_
      refine lv_bipush (v := 101) hx hb dX7_kindHere_40 (by decide) ?_
      refine lv_bipush (v := 116) hx hb dX7_kindHere_42 (by decide) ?_
      refine lv_bipush (v := 114) hx hb dX7_kindHere_44 (by decide) ?_
      refine C_vi (wr := []) X hP hD hS [.int (6 : Int32), .int (119 : Int32), .int (101 : Int32), .int (116 : Int32), .int (114 : Int32)] [] (w_X7_isName l D cI cZ cR adK adV _ o q F A (6 : Int32) (119 : Int32) (101 : Int32) (116 : Int32) (114 : Int32) _ h) cal_X7_isName mw_13_8 rfl [0, 1, 2, 3, 4, 5, 6, 7, 8, 9, 10, 11, 12, 13, 14, 15] [] [0, 1, 2, 3, 4, 5, 6, 7, 8, 9, 10, 11, 12, 13, 14, 15] (fun u => (wX7 cI cZ o q F A : va_W)) rfl rfl (fun _ => rfl) rfl 0 rfl rfl ⟨rfl, rfl⟩ ⟨Nat.le_of_ble_eq_true rfl, Nat.le_of_ble_eq_true rfl⟩ hl.1 rfl (Nat.le_of_ble_eq_true rfl) ⟨Nat.zero_le _, Nat.zero_le _⟩ dX7_kindHere_46 (fun r46 u H locs h hP hD hS => ?_)
      refine lv_if_eq (tgt := 68) hx hb dX7_kindHere_49 (by decide) (fun c49 => ?_) (fun c49 => ?_)
      · replace h := h.1 c49
        exact b_X7_kindHere_J68 F A X ret  _ _ _ h hP hD hS (lv_sub hl [0] rfl)
      · replace h := h.2 c49
        refine lv_aload_n hx hb dX7_kindHere_52 rfl (lv_at hl 0 rfl) ?_
        refine lv_iconst (v := 2) hx hb dX7_kindHere_53 (by decide) ?_
        refine lv_bipush (v := 116) hx hb dX7_kindHere_54 (by decide) ?_
        refine lv_bipush (v := 104) hx hb dX7_kindHere_56 (by decide) ?_
        refine lv_bipush (v := 101) hx hb dX7_kindHere_58 (by decide) ?_
        refine C_vi (wr := []) X hP hD hS [.int (2 : Int32), .int (116 : Int32), .int (104 : Int32), .int (101 : Int32)] [] (w_X7_isSame l D cI cZ cR adK adV _ o q F A (2 : Int32) (116 : Int32) (104 : Int32) (101 : Int32) _ h) cal_X7_isSame mw_13_16 rfl [0, 1, 2, 3, 4, 5, 6, 7, 8, 9, 10, 11, 12, 13, 14, 15] [] [0, 1, 2, 3, 4, 5, 6, 7, 8, 9, 10, 11, 12, 13, 14, 15] (fun u => (wX7 cI cZ o q F A : va_W)) rfl rfl (fun _ => rfl) rfl 0 rfl rfl ⟨rfl, rfl⟩ ⟨Nat.le_of_ble_eq_true rfl, Nat.le_of_ble_eq_true rfl⟩ hl.1 rfl (Nat.le_of_ble_eq_true rfl) ⟨Nat.zero_le _, Nat.zero_le _⟩ dX7_kindHere_60 (fun r60 u H locs h hP hD hS => ?_)
        refine lv_if_eq (tgt := 68) hx hb dX7_kindHere_63 (by decide) (fun c63 => ?_) (fun c63 => ?_)
        · replace h := h.1 c63
          exact b_X7_kindHere_J68 F A X ret  _ _ _ h hP hD hS (lv_sub hl [0] rfl)
        · replace h := h.2 c63
          refine lv_iconst (v := 2) hx hb dX7_kindHere_66 (by decide) ?_
          exact ret _ () _ _ _ _ dX7_kindHere_67 h hP hD hS
    · replace h := h.2 c30
      refine lv_iconst (v := 1) hx hb dX7_kindHere_33 (by decide) ?_
      exact ret _ () _ _ _ _ dX7_kindHere_34 h hP hD hS
  · replace h := h.2 c13
    refine lv_iconst (v := 0) hx hb dX7_kindHere_16 (by decide) ?_
    exact ret _ () _ _ _ _ dX7_kindHere_17 h hP hD hS
theorem cal_X7_needs : CalV yX7_needs cX7_needs 2 none 1 := ⟨mw_14_11, mw_1_5, mw_14_9, mw_14_10, ⟨by decide +kernel, by decide +kernel, by decide +kernel⟩⟩
theorem dX7_numberTo_0 : decode cX7_numberTo 0 = .ok (.aload_n 0, 1) := by decide +kernel
theorem dX7_numberTo_1 : decode cX7_numberTo 1 = .ok (.getfield 88, 3) := by decide +kernel
theorem dX7_numberTo_4 : decode cX7_numberTo 4 = .ok (.iconst 2, 1) := by decide +kernel
theorem dX7_numberTo_5 : decode cX7_numberTo 5 = .ok (.if_icmp .ne 28, 3) := by decide +kernel
theorem dX7_numberTo_8 : decode cX7_numberTo 8 = .ok (.aload_n 0, 1) := by decide +kernel
theorem dX7_numberTo_9 : decode cX7_numberTo 9 = .ok (.getfield 71, 3) := by decide +kernel
theorem dX7_numberTo_12 : decode cX7_numberTo 12 = .ok (.aload_n 0, 1) := by decide +kernel
theorem dX7_numberTo_13 : decode cX7_numberTo 13 = .ok (.getfield 74, 3) := by decide +kernel
theorem dX7_numberTo_16 : decode cX7_numberTo 16 = .ok (.isub, 1) := by decide +kernel
theorem dX7_numberTo_17 : decode cX7_numberTo 17 = .ok (.iconst 3, 1) := by decide +kernel
theorem dX7_numberTo_18 : decode cX7_numberTo 18 = .ok (.if_icmp .gt 15, 3) := by decide +kernel
theorem dX7_numberTo_21 : decode cX7_numberTo 21 = .ok (.aload_n 0, 1) := by decide +kernel
theorem dX7_numberTo_22 : decode cX7_numberTo 22 = .ok (.getfield 91, 3) := by decide +kernel
theorem dX7_numberTo_25 : decode cX7_numberTo 25 = .ok (.iload_n 2, 1) := by decide +kernel
theorem dX7_numberTo_26 : decode cX7_numberTo 26 = .ok (.if_icmp .gt 7, 3) := by decide +kernel
theorem dX7_numberTo_29 : decode cX7_numberTo 29 = .ok (.iconst 1, 1) := by decide +kernel
theorem dX7_numberTo_30 : decode cX7_numberTo 30 = .ok (.goto 4, 3) := by decide +kernel
theorem dX7_numberTo_33 : decode cX7_numberTo 33 = .ok (.iconst 0, 1) := by decide +kernel
theorem dX7_numberTo_34 : decode cX7_numberTo 34 = .ok (.istore_n 3, 1) := by decide +kernel
theorem dX7_numberTo_35 : decode cX7_numberTo 35 = .ok (.iload_n 3, 1) := by decide +kernel
theorem dX7_numberTo_36 : decode cX7_numberTo 36 = .ok (.ifCond .eq 20, 3) := by decide +kernel
theorem dX7_numberTo_39 : decode cX7_numberTo 39 = .ok (.aload_n 0, 1) := by decide +kernel
theorem dX7_numberTo_40 : decode cX7_numberTo 40 = .ok (.getfield 94, 3) := by decide +kernel
theorem dX7_numberTo_43 : decode cX7_numberTo 43 = .ok (.ifCond .ne 13, 3) := by decide +kernel
theorem dX7_numberTo_46 : decode cX7_numberTo 46 = .ok (.aload_n 0, 1) := by decide +kernel
theorem dX7_numberTo_47 : decode cX7_numberTo 47 = .ok (.getfield 7, 3) := by decide +kernel
theorem dX7_numberTo_50 : decode cX7_numberTo 50 = .ok (.iload_n 1, 1) := by decide +kernel
theorem dX7_numberTo_51 : decode cX7_numberTo 51 = .ok (.aload_n 0, 1) := by decide +kernel
theorem dX7_numberTo_52 : decode cX7_numberTo 52 = .ok (.getfield 91, 3) := by decide +kernel
theorem dX7_numberTo_55 : decode cX7_numberTo 55 = .ok (.iastore, 1) := by decide +kernel
theorem dX7_numberTo_56 : decode cX7_numberTo 56 = .ok (.aload_n 0, 1) := by decide +kernel
theorem dX7_numberTo_57 : decode cX7_numberTo 57 = .ok (.iload_n 3, 1) := by decide +kernel
theorem dX7_numberTo_58 : decode cX7_numberTo 58 = .ok (.invokevirtual 112, 3) := by decide +kernel
theorem dX7_numberTo_61 : decode cX7_numberTo 61 = .ok (.return_, 1) := by decide +kernel
def p_X7_numberTo_J56 (F : tF) (A : tA) (K : tF → tA → Prop) (x3 : Int32) : Prop := (p_X7_needs F A x3 (fun F_58 A_58 => (K F_58 A_58)))
set_option maxHeartbeats 4000000 in
set_option maxRecDepth 100000 in
theorem b_X7_numberTo_J56 {p : Program} {l : Launch} {e : Env} {s : State} {m : MethodId} {args : Array Value} {below : List Frame} {meth : Method} {c : Code} {Q : State → Prop} {D : va_G} {cI cZ cR : ClassId} {adK adV : Nat → Nat} {A9 : Nat → Prop} {o : Nat} {q : Nat → Nat} {K : tF → tA → Prop}  (F : tF) (A : tA) (x3 : Int32) (X : CX p s m args c yX7_numberTo.cls cX7_numberTo 4 D cI cZ cR adK adV A9) (ret : RTv p l e (rmN 3 63) s m args below meth c Q cX7_numberTo D A9 (fun (u : (tF × tA)) => K u.1 u.2) (fun (u : (tF × tA)) => (wX7 cI cZ o q u.1 u.2 : va_W)))  (H : Heap) (locs : List Loc) (ls : Array Slot) (h : p_X7_numberTo_J56 F A K x3) (hP : va_P D vwCl (wX7 cI cZ o q F A : va_W) H) (hD : va_D A9 (wX7 cI cZ o q F A : va_W)) (hS : va_S A9 s.heap H locs) (hl : lv_has ls 4 [(0, .ref o), (3, .int x3)]) : W p l e (rmN 3 63) s m args below meth c H locs 0 0 Q (F0 m 56 ls []) := by
  obtain ⟨hx, hb, hml, ht, hown, hK, hA, hE⟩ := id X
  unfold p_X7_numberTo_J56 at h
  refine lv_aload_n hx hb dX7_numberTo_56 rfl (lv_at hl 0 rfl) ?_
  refine lv_iload_n hx hb dX7_numberTo_57 rfl (lv_at hl 1 rfl) ?_
  refine C_vv (wr := []) X hP hD hS [.int x3] [] (w_X7_needs l D cI cZ cR adK adV _ o q F A x3 _ h) cal_X7_needs mw_14_8 rfl [0, 1, 2, 3, 4, 5, 6, 7, 8, 9, 10, 11, 12, 13, 14, 15] [] [0, 1, 2, 3, 4, 5, 6, 7, 8, 9, 10, 11, 12, 13, 14, 15] (fun u => (wX7 cI cZ o q u.1 u.2 : va_W)) rfl rfl (fun _ => rfl) rfl 0 rfl rfl ⟨rfl, rfl⟩ ⟨Nat.le_of_ble_eq_true rfl, Nat.le_of_ble_eq_true rfl⟩ hl.1 rfl (Nat.le_of_ble_eq_true rfl) ⟨Nat.zero_le _, Nat.zero_le _⟩ dX7_numberTo_58 (fun u H locs h hP hD hS => ?_)
  obtain ⟨F_58, A_58⟩ := u
  try dsimp only at h
  have hP : va_P D vwCl (wX7 cI cZ o q F_58 A_58 : va_W) H := hP
  have hD : va_D A9 (wX7 cI cZ o q F_58 A_58 : va_W) := hD
  exact ret (F_58, A_58) _ _ _ _ dX7_numberTo_61 h hP hD hS
def p_X7_numberTo_J34 (F : tF) (A : tA) (K : tF → tA → Prop) (x1 : Int32) (s0 : Int32) : Prop := ((s0 = 0 → (p_X7_numberTo_J56 F A K s0)) ∧ (¬ s0 = 0 → ((¬ (F 11) = 0 → (p_X7_numberTo_J56 F A K s0)) ∧ ((F 11) = 0 → (vp_in x1 53 ∧ (∀ f_55 : tF, f_55 = (upd (A 0) (x1).toNatClampNeg (F 10)) → (p_X7_numberTo_J56 F (va_up A 0 f_55) K s0)))))))
set_option maxHeartbeats 4000000 in
set_option maxRecDepth 100000 in
theorem b_X7_numberTo_J34 {p : Program} {l : Launch} {e : Env} {s : State} {m : MethodId} {args : Array Value} {below : List Frame} {meth : Method} {c : Code} {Q : State → Prop} {D : va_G} {cI cZ cR : ClassId} {adK adV : Nat → Nat} {A9 : Nat → Prop} {o : Nat} {q : Nat → Nat} {K : tF → tA → Prop}  (F : tF) (A : tA) (x1 : Int32) (s0 : Int32) (X : CX p s m args c yX7_numberTo.cls cX7_numberTo 4 D cI cZ cR adK adV A9) (ret : RTv p l e (rmN 3 63) s m args below meth c Q cX7_numberTo D A9 (fun (u : (tF × tA)) => K u.1 u.2) (fun (u : (tF × tA)) => (wX7 cI cZ o q u.1 u.2 : va_W)))  (H : Heap) (locs : List Loc) (ls : Array Slot) (h : p_X7_numberTo_J34 F A K x1 s0) (hP : va_P D vwCl (wX7 cI cZ o q F A : va_W) H) (hD : va_D A9 (wX7 cI cZ o q F A : va_W)) (hS : va_S A9 s.heap H locs) (hl : lv_has ls 4 [(0, .ref o), (1, .int x1)]) : W p l e (rmN 3 63) s m args below meth c H locs 0 0 Q (F0 m 34 ls [.int s0]) := by
  obtain ⟨hx, hb, hml, ht, hown, hK, hA, hE⟩ := id X
  unfold p_X7_numberTo_J34 at h
  refine lv_istore_n (lv' := [(3, .int s0), (0, .ref o), (1, .int x1)]) hx hb dX7_numberTo_34 rfl hl (by decide) rfl (fun ls hl => ?_)
  refine lv_iload_n hx hb dX7_numberTo_35 rfl (lv_at hl 0 rfl) ?_
  refine lv_if_eq (tgt := 56) hx hb dX7_numberTo_36 (by decide) (fun c36 => ?_) (fun c36 => ?_)
  · replace h := h.1 c36
    exact b_X7_numberTo_J56 F A s0 X ret  _ _ _ h hP hD hS (lv_sub hl [1, 0] rfl)
  · replace h := h.2 c36
    refine lv_aload_n hx hb dX7_numberTo_39 rfl (lv_at hl 1 rfl) ?_
    refine va_get (C := RX7) (T := TX7) (N := 28) (own := RX7) (v := .int (F 11)) hx hb ht inlX7 hown hK hP 0 rfl rfl 11 (Nat.le_of_ble_eq_true rfl) (ht _ mw_12_2) (fun _ h9 => h9) rfl dX7_numberTo_40 ?_
    refine lv_if_ne (tgt := 56) hx hb dX7_numberTo_43 (by decide) (fun c43 => ?_) (fun c43 => ?_)
    · replace h := h.1 c43
      exact b_X7_numberTo_J56 F A s0 X ret  _ _ _ h hP hD hS (lv_sub hl [1, 0] rfl)
    · replace h := h.2 c43
      refine lv_aload_n hx hb dX7_numberTo_46 rfl (lv_at hl 1 rfl) ?_
      refine va_get (C := RX7) (T := TX7) (N := 28) (own := RX7) (v := .ref (q 0)) hx hb ht inlX7 hown hK hP 0 rfl rfl 0 (Nat.le_of_ble_eq_true rfl) (ht _ mw_5_7) (fun _ h9 => h9) rfl dX7_numberTo_47 ?_
      refine lv_iload_n hx hb dX7_numberTo_50 rfl (lv_at hl 2 rfl) ?_
      refine lv_aload_n hx hb dX7_numberTo_51 rfl (lv_at hl 1 rfl) ?_
      refine va_get (C := RX7) (T := TX7) (N := 28) (own := RX7) (v := .int (F 10)) hx hb ht inlX7 hown hK hP 0 rfl rfl 10 (Nat.le_of_ble_eq_true rfl) (ht _ mw_12_13) (fun _ h9 => h9) rfl dX7_numberTo_52 ?_
      obtain ⟨hi55, h⟩ := h
      obtain ⟨f_55, ef_55⟩ : ∃ z : tF, z = (upd (A 0) (x1).toNatClampNeg (F 10)) := ⟨_, rfl⟩
      replace h := h f_55 ef_55
      refine g_iast (f := (A 0)) (k := (x1).toNatClampNeg) hx hb hK hP hD hS 1 0 rfl rfl hi55 rfl ef_55 dX7_numberTo_55 (fun H locs hP hD hS => ?_)
      have hP : va_P D vwCl (wX7 cI cZ o q F (va_up A 0 f_55) : va_W) H := hP
      have hD : va_D A9 (wX7 cI cZ o q F (va_up A 0 f_55) : va_W) := hD
      exact b_X7_numberTo_J56 F (va_up A 0 f_55) s0 X ret  _ _ _ h hP hD hS (lv_sub hl [1, 0] rfl)
def p_X7_numberTo_J33 (F : tF) (A : tA) (K : tF → tA → Prop) (x1 : Int32) : Prop := (p_X7_numberTo_J34 F A K x1 (0 : Int32))
set_option maxHeartbeats 4000000 in
set_option maxRecDepth 100000 in
theorem b_X7_numberTo_J33 {p : Program} {l : Launch} {e : Env} {s : State} {m : MethodId} {args : Array Value} {below : List Frame} {meth : Method} {c : Code} {Q : State → Prop} {D : va_G} {cI cZ cR : ClassId} {adK adV : Nat → Nat} {A9 : Nat → Prop} {o : Nat} {q : Nat → Nat} {K : tF → tA → Prop}  (F : tF) (A : tA) (x1 : Int32) (X : CX p s m args c yX7_numberTo.cls cX7_numberTo 4 D cI cZ cR adK adV A9) (ret : RTv p l e (rmN 3 63) s m args below meth c Q cX7_numberTo D A9 (fun (u : (tF × tA)) => K u.1 u.2) (fun (u : (tF × tA)) => (wX7 cI cZ o q u.1 u.2 : va_W)))  (H : Heap) (locs : List Loc) (ls : Array Slot) (h : p_X7_numberTo_J33 F A K x1) (hP : va_P D vwCl (wX7 cI cZ o q F A : va_W) H) (hD : va_D A9 (wX7 cI cZ o q F A : va_W)) (hS : va_S A9 s.heap H locs) (hl : lv_has ls 4 [(0, .ref o), (1, .int x1)]) : W p l e (rmN 3 63) s m args below meth c H locs 0 0 Q (F0 m 33 ls []) := by
  obtain ⟨hx, hb, hml, ht, hown, hK, hA, hE⟩ := id X
  unfold p_X7_numberTo_J33 at h
  refine lv_iconst (v := 0) hx hb dX7_numberTo_33 (by decide) ?_
  exact b_X7_numberTo_J34 F A x1 (0 : Int32) X ret  _ _ _ h hP hD hS (lv_sub hl [0, 1] rfl)
def p_X7_numberTo (F : tF) (A : tA) (x1 : Int32) (x2 : Int32) (K : tF → tA → Prop) : Prop := ((¬ (F 7) = (2 : Int32) → (p_X7_numberTo_J33 F A K x1)) ∧ ((F 7) = (2 : Int32) → (((3 : Int32) < ((F 9) - (F 8)) → (p_X7_numberTo_J33 F A K x1)) ∧ (¬ (3 : Int32) < ((F 9) - (F 8)) → ((x2 < (F 10) → (p_X7_numberTo_J33 F A K x1)) ∧ (¬ x2 < (F 10) → (p_X7_numberTo_J34 F A K x1 (1 : Int32))))))))
set_option maxHeartbeats 4000000 in
set_option maxRecDepth 100000 in
theorem w_X7_numberTo (l : Launch) (D : va_G) (cI cZ cR : ClassId) (adK adV : Nat → Nat) (sz : Nat) (o : Nat) (q : Nat → Nat) (F : tF) (A : tA) (x1 : Int32) (x2 : Int32) (K : tF → tA → Prop) (h : p_X7_numberTo F A x1 x2 K) : MV l D cI cZ cR adK adV yX7_numberTo cX7_numberTo 4 none (rmN 3 63) [.ref o, .int x1, .int x2] (wX7 cI cZ o q F A : va_W) sz (fun (u : (tF × tA)) => K u.1 u.2) (fun (u : (tF × tA)) => (wX7 cI cZ o q u.1 u.2 : va_W)) := by
  refine M_v (by decide +kernel) (Nat.le_of_ble_eq_true rfl) ?_
  intro p e s m args below meth c Q A9 ls X ret hP hD hS hl
  obtain ⟨hx, hb, hml, ht, hown, hK, hA, hE⟩ := id X
  have hl : lv_has ls 4 [(0, .ref o), (1, .int x1), (2, .int x2)] := hl
  unfold p_X7_numberTo at h
  refine lv_aload_n hx hb dX7_numberTo_0 rfl (lv_at hl 0 rfl) ?_
  refine va_get (C := RX7) (T := TX7) (N := 28) (own := RX7) (v := .int (F 7)) hx hb ht inlX7 hown hK hP 0 rfl rfl 7 (Nat.le_of_ble_eq_true rfl) (ht _ mw_12_3) (fun _ h9 => h9) rfl dX7_numberTo_1 ?_
  refine lv_iconst (v := 2) hx hb dX7_numberTo_4 (by decide) ?_
  refine lv_icmp_ne (tgt := 33) hx hb dX7_numberTo_5 (by decide) (fun c5 => ?_) (fun c5 => ?_)
  · replace h := h.1 c5
    exact b_X7_numberTo_J33 F A x1 X ret  _ _ _ h hP hD hS (lv_sub hl [0, 1] rfl)
  · replace h := h.2 c5
    refine lv_aload_n hx hb dX7_numberTo_8 rfl (lv_at hl 0 rfl) ?_
    refine va_get (C := RX7) (T := TX7) (N := 28) (own := RX7) (v := .int (F 9)) hx hb ht inlX7 hown hK hP 0 rfl rfl 9 (Nat.le_of_ble_eq_true rfl) (ht _ mw_12_1) (fun _ h9 => h9) rfl dX7_numberTo_9 ?_
    refine lv_aload_n hx hb dX7_numberTo_12 rfl (lv_at hl 0 rfl) ?_
    refine va_get (C := RX7) (T := TX7) (N := 28) (own := RX7) (v := .int (F 8)) hx hb ht inlX7 hown hK hP 0 rfl rfl 8 (Nat.le_of_ble_eq_true rfl) (ht _ mw_12_4) (fun _ h9 => h9) rfl dX7_numberTo_13 ?_
    refine lv_isub hx hb dX7_numberTo_16 ?_
    refine lv_iconst (v := 3) hx hb dX7_numberTo_17 (by decide) ?_
    refine lv_icmp_gt (tgt := 33) hx hb dX7_numberTo_18 (by decide) (fun c18 => ?_) (fun c18 => ?_)
    · replace h := h.1 c18
      exact b_X7_numberTo_J33 F A x1 X ret  _ _ _ h hP hD hS (lv_sub hl [0, 1] rfl)
    · replace h := h.2 c18
      refine lv_aload_n hx hb dX7_numberTo_21 rfl (lv_at hl 0 rfl) ?_
      refine va_get (C := RX7) (T := TX7) (N := 28) (own := RX7) (v := .int (F 10)) hx hb ht inlX7 hown hK hP 0 rfl rfl 10 (Nat.le_of_ble_eq_true rfl) (ht _ mw_12_13) (fun _ h9 => h9) rfl dX7_numberTo_22 ?_
      refine lv_iload_n hx hb dX7_numberTo_25 rfl (lv_at hl 2 rfl) ?_
      refine lv_icmp_gt (tgt := 33) hx hb dX7_numberTo_26 (by decide) (fun c26 => ?_) (fun c26 => ?_)
      · replace h := h.1 c26
        exact b_X7_numberTo_J33 F A x1 X ret  _ _ _ h hP hD hS (lv_sub hl [0, 1] rfl)
      · replace h := h.2 c26
        refine lv_iconst (v := 1) hx hb dX7_numberTo_29 (by decide) ?_
        refine lv_goto (tgt := 34) hx hb dX7_numberTo_30 (by decide) ?_
        exact b_X7_numberTo_J34 F A x1 (1 : Int32) X ret  _ _ _ h hP hD hS (lv_sub hl [0, 1] rfl)
theorem cal_X7_numberTo : CalV yX7_numberTo cX7_numberTo 4 none 2 := ⟨mw_14_19, mw_1_5, mw_14_17, mw_14_18, ⟨by decide +kernel, by decide +kernel, by decide +kernel⟩⟩
theorem dX7_perhaps_0 : decode cX7_perhaps 0 = .ok (.aload_n 0, 1) := by decide +kernel
theorem dX7_perhaps_1 : decode cX7_perhaps 1 = .ok (.getfield 94, 3) := by decide +kernel
theorem dX7_perhaps_4 : decode cX7_perhaps 4 = .ok (.ifCond .ne 17, 3) := by decide +kernel
theorem dX7_perhaps_7 : decode cX7_perhaps 7 = .ok (.iload_n 1, 1) := by decide +kernel
theorem dX7_perhaps_8 : decode cX7_perhaps 8 = .ok (.ifCond .eq 13, 3) := by decide +kernel
theorem dX7_perhaps_11 : decode cX7_perhaps 11 = .ok (.aload_n 0, 1) := by decide +kernel
theorem dX7_perhaps_12 : decode cX7_perhaps 12 = .ok (.invokevirtual 98, 3) := by decide +kernel
theorem dX7_perhaps_15 : decode cX7_perhaps 15 = .ok (.aload_n 0, 1) := by decide +kernel
theorem dX7_perhaps_16 : decode cX7_perhaps 16 = .ok (.iload_n 2, 1) := by decide +kernel
theorem dX7_perhaps_17 : decode cX7_perhaps 17 = .ok (.iload_n 3, 1) := by decide +kernel
theorem dX7_perhaps_18 : decode cX7_perhaps 18 = .ok (.invokevirtual 116, 3) := by decide +kernel
theorem dX7_perhaps_21 : decode cX7_perhaps 21 = .ok (.return_, 1) := by decide +kernel
def p_X7_perhaps (F : tF) (A : tA) (x1 : Int32) (x2 : Int32) (x3 : Int32) (K : tF → tA → Prop) : Prop := ((¬ (F 11) = 0 → (K F A)) ∧ ((F 11) = 0 → ((x1 = 0 → (K F A)) ∧ (¬ x1 = 0 → (p_X7_nextToken F A (fun F_12 A_12 => (p_X7_numberTo F_12 A_12 x2 x3 (fun F_18 A_18 => (K F_18 A_18)))))))))
set_option maxHeartbeats 4000000 in
set_option maxRecDepth 100000 in
theorem w_X7_perhaps (l : Launch) (D : va_G) (cI cZ cR : ClassId) (adK adV : Nat → Nat) (sz : Nat) (o : Nat) (q : Nat → Nat) (F : tF) (A : tA) (x1 : Int32) (x2 : Int32) (x3 : Int32) (K : tF → tA → Prop) (h : p_X7_perhaps F A x1 x2 x3 K) : MV l D cI cZ cR adK adV yX7_perhaps cX7_perhaps 4 none (rmN 4 86) [.ref o, .int x1, .int x2, .int x3] (wX7 cI cZ o q F A : va_W) sz (fun (u : (tF × tA)) => K u.1 u.2) (fun (u : (tF × tA)) => (wX7 cI cZ o q u.1 u.2 : va_W)) := by
  refine M_v (by decide +kernel) (Nat.le_of_ble_eq_true rfl) ?_
  intro p e s m args below meth c Q A9 ls X ret hP hD hS hl
  obtain ⟨hx, hb, hml, ht, hown, hK, hA, hE⟩ := id X
  have hl : lv_has ls 4 [(0, .ref o), (1, .int x1), (2, .int x2), (3, .int x3)] := hl
  unfold p_X7_perhaps at h
  refine lv_aload_n hx hb dX7_perhaps_0 rfl (lv_at hl 0 rfl) ?_
  refine va_get (C := RX7) (T := TX7) (N := 28) (own := RX7) (v := .int (F 11)) hx hb ht inlX7 hown hK hP 0 rfl rfl 11 (Nat.le_of_ble_eq_true rfl) (ht _ mw_12_2) (fun _ h9 => h9) rfl dX7_perhaps_1 ?_
  refine lv_if_ne (tgt := 21) hx hb dX7_perhaps_4 (by decide) (fun c4 => ?_) (fun c4 => ?_)
  · replace h := h.1 c4
    exact ret (F, A) _ _ _ _ dX7_perhaps_21 h hP hD hS
  · replace h := h.2 c4
    refine lv_iload_n hx hb dX7_perhaps_7 rfl (lv_at hl 1 rfl) ?_
    refine lv_if_eq (tgt := 21) hx hb dX7_perhaps_8 (by decide) (fun c8 => ?_) (fun c8 => ?_)
    · replace h := h.1 c8
      exact ret (F, A) _ _ _ _ dX7_perhaps_21 h hP hD hS
    · replace h := h.2 c8
      refine lv_aload_n hx hb dX7_perhaps_11 rfl (lv_at hl 0 rfl) ?_
      refine C_vv (wr := []) X hP hD hS [] [] (w_X7_nextToken l D cI cZ cR adK adV _ o q F A _ h) cal_X7_nextToken mw_12_9 rfl [0, 1, 2, 3, 4, 5, 6, 7, 8, 9, 10, 11, 12, 13, 14, 15] [] [0, 1, 2, 3, 4, 5, 6, 7, 8, 9, 10, 11, 12, 13, 14, 15] (fun u => (wX7 cI cZ o q u.1 u.2 : va_W)) rfl rfl (fun _ => rfl) rfl 0 rfl rfl ⟨rfl, rfl⟩ ⟨Nat.le_of_ble_eq_true rfl, Nat.le_of_ble_eq_true rfl⟩ hl.1 rfl (Nat.le_of_ble_eq_true rfl) ⟨Nat.zero_le _, Nat.zero_le _⟩ dX7_perhaps_12 (fun u H locs h hP hD hS => ?_)
      obtain ⟨F_12, A_12⟩ := u
      try dsimp only at h
      have hP : va_P D vwCl (wX7 cI cZ o q F_12 A_12 : va_W) H := hP
      have hD : va_D A9 (wX7 cI cZ o q F_12 A_12 : va_W) := hD
      refine lv_aload_n hx hb dX7_perhaps_15 rfl (lv_at hl 0 rfl) ?_
      refine lv_iload_n hx hb dX7_perhaps_16 rfl (lv_at hl 2 rfl) ?_
      refine lv_iload_n hx hb dX7_perhaps_17 rfl (lv_at hl 3 rfl) ?_
      refine C_vv (wr := []) X hP hD hS [.int x2, .int x3] [] (w_X7_numberTo l D cI cZ cR adK adV _ o q F_12 A_12 x2 x3 _ h) cal_X7_numberTo mw_14_16 rfl [0, 1, 2, 3, 4, 5, 6, 7, 8, 9, 10, 11, 12, 13, 14, 15] [] [0, 1, 2, 3, 4, 5, 6, 7, 8, 9, 10, 11, 12, 13, 14, 15] (fun u => (wX7 cI cZ o q u.1 u.2 : va_W)) rfl rfl (fun _ => rfl) rfl 0 rfl rfl ⟨rfl, rfl⟩ ⟨Nat.le_of_ble_eq_true rfl, Nat.le_of_ble_eq_true rfl⟩ hl.1 rfl (Nat.le_of_ble_eq_true rfl) ⟨Nat.zero_le _, Nat.zero_le _⟩ dX7_perhaps_18 (fun u H locs h hP hD hS => ?_)
      obtain ⟨F_18, A_18⟩ := u
      try dsimp only at h
      have hP : va_P D vwCl (wX7 cI cZ o q F_18 A_18 : va_W) H := hP
      have hD : va_D A9 (wX7 cI cZ o q F_18 A_18 : va_W) := hD
      exact ret (F_18, A_18) _ _ _ _ dX7_perhaps_21 h hP hD hS
theorem cal_X7_perhaps : CalV yX7_perhaps cX7_perhaps 4 none 3 := ⟨mw_14_15, mw_1_5, mw_14_13, mw_14_14, ⟨by decide +kernel, by decide +kernel, by decide +kernel⟩⟩
theorem dX7_sheepHere_0 : decode cX7_sheepHere 0 = .ok (.bipush 21, 2) := by decide +kernel
theorem dX7_sheepHere_2 : decode cX7_sheepHere 2 = .ok (.iconst 4, 1) := by decide +kernel
theorem dX7_sheepHere_3 : decode cX7_sheepHere 3 = .ok (.aload_n 0, 1) := by decide +kernel
theorem dX7_sheepHere_4 : decode cX7_sheepHere 4 = .ok (.getfield 7, 3) := by decide +kernel
theorem dX7_sheepHere_7 : decode cX7_sheepHere 7 = .ok (.iconst 0, 1) := by decide +kernel
theorem dX7_sheepHere_8 : decode cX7_sheepHere 8 = .ok (.iaload, 1) := by decide +kernel
theorem dX7_sheepHere_9 : decode cX7_sheepHere 9 = .ok (.imul, 1) := by decide +kernel
theorem dX7_sheepHere_10 : decode cX7_sheepHere 10 = .ok (.iadd, 1) := by decide +kernel
theorem dX7_sheepHere_11 : decode cX7_sheepHere 11 = .ok (.istore_n 2, 1) := by decide +kernel
theorem dX7_sheepHere_12 : decode cX7_sheepHere 12 = .ok (.aload_n 0, 1) := by decide +kernel
theorem dX7_sheepHere_13 : decode cX7_sheepHere 13 = .ok (.aload_n 0, 1) := by decide +kernel
theorem dX7_sheepHere_14 : decode cX7_sheepHere 14 = .ok (.getfield 7, 3) := by decide +kernel
theorem dX7_sheepHere_17 : decode cX7_sheepHere 17 = .ok (.iconst 0, 1) := by decide +kernel
theorem dX7_sheepHere_18 : decode cX7_sheepHere 18 = .ok (.iaload, 1) := by decide +kernel
theorem dX7_sheepHere_19 : decode cX7_sheepHere 19 = .ok (.bipush 8, 2) := by decide +kernel
theorem dX7_sheepHere_21 : decode cX7_sheepHere 21 = .ok (.if_icmp .ge 7, 3) := by decide +kernel
theorem dX7_sheepHere_24 : decode cX7_sheepHere 24 = .ok (.iconst 1, 1) := by decide +kernel
theorem dX7_sheepHere_25 : decode cX7_sheepHere 25 = .ok (.goto 4, 3) := by decide +kernel
theorem dX7_sheepHere_28 : decode cX7_sheepHere 28 = .ok (.iconst 0, 1) := by decide +kernel
theorem dX7_sheepHere_29 : decode cX7_sheepHere 29 = .ok (.invokevirtual 112, 3) := by decide +kernel
theorem dX7_sheepHere_32 : decode cX7_sheepHere 32 = .ok (.aload_n 0, 1) := by decide +kernel
theorem dX7_sheepHere_33 : decode cX7_sheepHere 33 = .ok (.getfield 94, 3) := by decide +kernel
theorem dX7_sheepHere_36 : decode cX7_sheepHere 36 = .ok (.ifCond .ne 20, 3) := by decide +kernel
theorem dX7_sheepHere_39 : decode cX7_sheepHere 39 = .ok (.aload_n 0, 1) := by decide +kernel
theorem dX7_sheepHere_40 : decode cX7_sheepHere 40 = .ok (.getfield 7, 3) := by decide +kernel
theorem dX7_sheepHere_43 : decode cX7_sheepHere 43 = .ok (.iload_n 2, 1) := by decide +kernel
theorem dX7_sheepHere_44 : decode cX7_sheepHere 44 = .ok (.iload_n 1, 1) := by decide +kernel
theorem dX7_sheepHere_45 : decode cX7_sheepHere 45 = .ok (.iastore, 1) := by decide +kernel
theorem dX7_sheepHere_46 : decode cX7_sheepHere 46 = .ok (.aload_n 0, 1) := by decide +kernel
theorem dX7_sheepHere_47 : decode cX7_sheepHere 47 = .ok (.getfield 7, 3) := by decide +kernel
theorem dX7_sheepHere_50 : decode cX7_sheepHere 50 = .ok (.iconst 0, 1) := by decide +kernel
theorem dX7_sheepHere_51 : decode cX7_sheepHere 51 = .ok (.dup2, 1) := by decide +kernel
theorem dX7_sheepHere_52 : decode cX7_sheepHere 52 = .ok (.iaload, 1) := by decide +kernel
theorem dX7_sheepHere_53 : decode cX7_sheepHere 53 = .ok (.iconst 1, 1) := by decide +kernel
theorem dX7_sheepHere_54 : decode cX7_sheepHere 54 = .ok (.iadd, 1) := by decide +kernel
theorem dX7_sheepHere_55 : decode cX7_sheepHere 55 = .ok (.iastore, 1) := by decide +kernel
theorem dX7_sheepHere_56 : decode cX7_sheepHere 56 = .ok (.aload_n 0, 1) := by decide +kernel
theorem dX7_sheepHere_57 : decode cX7_sheepHere 57 = .ok (.aload_n 0, 1) := by decide +kernel
theorem dX7_sheepHere_58 : decode cX7_sheepHere 58 = .ok (.iconst 3, 1) := by decide +kernel
theorem dX7_sheepHere_59 : decode cX7_sheepHere 59 = .ok (.bipush 101, 2) := by decide +kernel
theorem dX7_sheepHere_61 : decode cX7_sheepHere 61 = .ok (.bipush 97, 2) := by decide +kernel
theorem dX7_sheepHere_63 : decode cX7_sheepHere 63 = .ok (.bipush 114, 2) := by decide +kernel
theorem dX7_sheepHere_65 : decode cX7_sheepHere 65 = .ok (.bipush 114, 2) := by decide +kernel
theorem dX7_sheepHere_67 : decode cX7_sheepHere 67 = .ok (.invokevirtual 101, 3) := by decide +kernel
theorem dX7_sheepHere_70 : decode cX7_sheepHere 70 = .ok (.iload_n 2, 1) := by decide +kernel
theorem dX7_sheepHere_71 : decode cX7_sheepHere 71 = .ok (.iconst 1, 1) := by decide +kernel
theorem dX7_sheepHere_72 : decode cX7_sheepHere 72 = .ok (.iadd, 1) := by decide +kernel
theorem dX7_sheepHere_73 : decode cX7_sheepHere 73 = .ok (.bipush 9, 2) := by decide +kernel
theorem dX7_sheepHere_75 : decode cX7_sheepHere 75 = .ok (.invokevirtual 120, 3) := by decide +kernel
theorem dX7_sheepHere_78 : decode cX7_sheepHere 78 = .ok (.aload_n 0, 1) := by decide +kernel
theorem dX7_sheepHere_79 : decode cX7_sheepHere 79 = .ok (.aload_n 0, 1) := by decide +kernel
theorem dX7_sheepHere_80 : decode cX7_sheepHere 80 = .ok (.bipush 102, 2) := by decide +kernel
theorem dX7_sheepHere_82 : decode cX7_sheepHere 82 = .ok (.bipush 101, 2) := by decide +kernel
theorem dX7_sheepHere_84 : decode cX7_sheepHere 84 = .ok (.bipush 97, 2) := by decide +kernel
theorem dX7_sheepHere_86 : decode cX7_sheepHere 86 = .ok (.bipush 114, 2) := by decide +kernel
theorem dX7_sheepHere_88 : decode cX7_sheepHere 88 = .ok (.invokevirtual 105, 3) := by decide +kernel
theorem dX7_sheepHere_91 : decode cX7_sheepHere 91 = .ok (.iload_n 2, 1) := by decide +kernel
theorem dX7_sheepHere_92 : decode cX7_sheepHere 92 = .ok (.iconst 2, 1) := by decide +kernel
theorem dX7_sheepHere_93 : decode cX7_sheepHere 93 = .ok (.iadd, 1) := by decide +kernel
theorem dX7_sheepHere_94 : decode cX7_sheepHere 94 = .ok (.bipush 9, 2) := by decide +kernel
theorem dX7_sheepHere_96 : decode cX7_sheepHere 96 = .ok (.invokevirtual 120, 3) := by decide +kernel
theorem dX7_sheepHere_99 : decode cX7_sheepHere 99 = .ok (.aload_n 0, 1) := by decide +kernel
theorem dX7_sheepHere_100 : decode cX7_sheepHere 100 = .ok (.aload_n 0, 1) := by decide +kernel
theorem dX7_sheepHere_101 : decode cX7_sheepHere 101 = .ok (.bipush 108, 2) := by decide +kernel
theorem dX7_sheepHere_103 : decode cX7_sheepHere 103 = .ok (.bipush 111, 2) := by decide +kernel
theorem dX7_sheepHere_105 : decode cX7_sheepHere 105 = .ok (.bipush 111, 2) := by decide +kernel
theorem dX7_sheepHere_107 : decode cX7_sheepHere 107 = .ok (.bipush 107, 2) := by decide +kernel
theorem dX7_sheepHere_109 : decode cX7_sheepHere 109 = .ok (.invokevirtual 105, 3) := by decide +kernel
theorem dX7_sheepHere_112 : decode cX7_sheepHere 112 = .ok (.iload_n 2, 1) := by decide +kernel
theorem dX7_sheepHere_113 : decode cX7_sheepHere 113 = .ok (.iconst 3, 1) := by decide +kernel
theorem dX7_sheepHere_114 : decode cX7_sheepHere 114 = .ok (.iadd, 1) := by decide +kernel
theorem dX7_sheepHere_115 : decode cX7_sheepHere 115 = .ok (.iconst 5, 1) := by decide +kernel
theorem dX7_sheepHere_116 : decode cX7_sheepHere 116 = .ok (.invokevirtual 120, 3) := by decide +kernel
theorem dX7_sheepHere_119 : decode cX7_sheepHere 119 = .ok (.return_, 1) := by decide +kernel
def p_X7_sheepHere_J56 (F : tF) (A : tA) (K : tF → tA → Prop) (x2 : Int32) : Prop := (p_X7_isName F A (3 : Int32) (101 : Int32) (97 : Int32) (114 : Int32) (114 : Int32) (fun r67 => (p_X7_perhaps F A r67 (x2 + (1 : Int32)) (9 : Int32) (fun F_75 A_75 => (p_X7_isFour F_75 A_75 (102 : Int32) (101 : Int32) (97 : Int32) (114 : Int32) (fun r88 => (p_X7_perhaps F_75 A_75 r88 (x2 + (2 : Int32)) (9 : Int32) (fun F_96 A_96 => (p_X7_isFour F_96 A_96 (108 : Int32) (111 : Int32) (111 : Int32) (107 : Int32) (fun r109 => (p_X7_perhaps F_96 A_96 r109 (x2 + (3 : Int32)) (5 : Int32) (fun F_116 A_116 => (K F_116 A_116)))))))))))))
set_option maxHeartbeats 4000000 in
set_option maxRecDepth 100000 in
theorem b_X7_sheepHere_J56 {p : Program} {l : Launch} {e : Env} {s : State} {m : MethodId} {args : Array Value} {below : List Frame} {meth : Method} {c : Code} {Q : State → Prop} {D : va_G} {cI cZ cR : ClassId} {adK adV : Nat → Nat} {A9 : Nat → Prop} {o : Nat} {q : Nat → Nat} {K : tF → tA → Prop}  (F : tF) (A : tA) (x2 : Int32) (X : CX p s m args c yX7_sheepHere.cls cX7_sheepHere 3 D cI cZ cR adK adV A9) (ret : RTv p l e (rmN 5 109) s m args below meth c Q cX7_sheepHere D A9 (fun (u : (tF × tA)) => K u.1 u.2) (fun (u : (tF × tA)) => (wX7 cI cZ o q u.1 u.2 : va_W)))  (H : Heap) (locs : List Loc) (ls : Array Slot) (h : p_X7_sheepHere_J56 F A K x2) (hP : va_P D vwCl (wX7 cI cZ o q F A : va_W) H) (hD : va_D A9 (wX7 cI cZ o q F A : va_W)) (hS : va_S A9 s.heap H locs) (hl : lv_has ls 3 [(0, .ref o), (2, .int x2)]) : W p l e (rmN 5 109) s m args below meth c H locs 0 0 Q (F0 m 56 ls []) := by
  obtain ⟨hx, hb, hml, ht, hown, hK, hA, hE⟩ := id X
  unfold p_X7_sheepHere_J56 at h
  refine lv_aload_n hx hb dX7_sheepHere_56 rfl (lv_at hl 0 rfl) ?_
  refine lv_aload_n hx hb dX7_sheepHere_57 rfl (lv_at hl 0 rfl) ?_
  refine lv_iconst (v := 3) hx hb dX7_sheepHere_58 (by decide) ?_
  refine lv_bipush (v := 101) hx hb dX7_sheepHere_59 (by decide) ?_
  refine lv_bipush (v := 97) hx hb dX7_sheepHere_61 (by decide) ?_
  refine lv_bipush (v := 114) hx hb dX7_sheepHere_63 (by decide) ?_
  refine lv_bipush (v := 114) hx hb dX7_sheepHere_65 (by decide) ?_
  refine C_vi (wr := []) X hP hD hS [.int (3 : Int32), .int (101 : Int32), .int (97 : Int32), .int (114 : Int32), .int (114 : Int32)] [.ref o] (w_X7_isName l D cI cZ cR adK adV _ o q F A (3 : Int32) (101 : Int32) (97 : Int32) (114 : Int32) (114 : Int32) _ h) cal_X7_isName mw_13_8 rfl [0, 1, 2, 3, 4, 5, 6, 7, 8, 9, 10, 11, 12, 13, 14, 15] [] [0, 1, 2, 3, 4, 5, 6, 7, 8, 9, 10, 11, 12, 13, 14, 15] (fun u => (wX7 cI cZ o q F A : va_W)) rfl rfl (fun _ => rfl) rfl 0 rfl rfl ⟨rfl, rfl⟩ ⟨Nat.le_of_ble_eq_true rfl, Nat.le_of_ble_eq_true rfl⟩ hl.1 rfl (Nat.le_of_ble_eq_true rfl) ⟨Nat.zero_le _, Nat.zero_le _⟩ dX7_sheepHere_67 (fun r67 u H locs h hP hD hS => ?_)
  refine lv_iload_n hx hb dX7_sheepHere_70 rfl (lv_at hl 1 rfl) ?_
  refine lv_iconst (v := 1) hx hb dX7_sheepHere_71 (by decide) ?_
  refine lv_iadd hx hb dX7_sheepHere_72 ?_
  refine lv_bipush (v := 9) hx hb dX7_sheepHere_73 (by decide) ?_
  refine C_vv (wr := []) X hP hD hS [.int r67, .int (x2 + (1 : Int32)), .int (9 : Int32)] [] (w_X7_perhaps l D cI cZ cR adK adV _ o q F A r67 (x2 + (1 : Int32)) (9 : Int32) _ h) cal_X7_perhaps mw_14_12 rfl [0, 1, 2, 3, 4, 5, 6, 7, 8, 9, 10, 11, 12, 13, 14, 15] [] [0, 1, 2, 3, 4, 5, 6, 7, 8, 9, 10, 11, 12, 13, 14, 15] (fun u => (wX7 cI cZ o q u.1 u.2 : va_W)) rfl rfl (fun _ => rfl) rfl 0 rfl rfl ⟨rfl, rfl⟩ ⟨Nat.le_of_ble_eq_true rfl, Nat.le_of_ble_eq_true rfl⟩ hl.1 rfl (Nat.le_of_ble_eq_true rfl) ⟨Nat.zero_le _, Nat.zero_le _⟩ dX7_sheepHere_75 (fun u H locs h hP hD hS => ?_)
  obtain ⟨F_75, A_75⟩ := u
  try dsimp only at h
  have hP : va_P D vwCl (wX7 cI cZ o q F_75 A_75 : va_W) H := hP
  have hD : va_D A9 (wX7 cI cZ o q F_75 A_75 : va_W) := hD
  refine lv_aload_n hx hb dX7_sheepHere_78 rfl (lv_at hl 0 rfl) ?_
  refine lv_aload_n hx hb dX7_sheepHere_79 rfl (lv_at hl 0 rfl) ?_
  refine lv_bipush (v := 102) hx hb dX7_sheepHere_80 (by decide) ?_
  refine lv_bipush (v := 101) hx hb dX7_sheepHere_82 (by decide) ?_
  refine lv_bipush (v := 97) hx hb dX7_sheepHere_84 (by decide) ?_
  refine lv_bipush (v := 114) hx hb dX7_sheepHere_86 (by decide) ?_
  refine C_vi (wr := []) X hP hD hS [.int (102 : Int32), .int (101 : Int32), .int (97 : Int32), .int (114 : Int32)] [.ref o] (w_X7_isFour l D cI cZ cR adK adV _ o q F_75 A_75 (102 : Int32) (101 : Int32) (97 : Int32) (114 : Int32) _ h) cal_X7_isFour mw_13_12 rfl [0, 1, 2, 3, 4, 5, 6, 7, 8, 9, 10, 11, 12, 13, 14, 15] [] [0, 1, 2, 3, 4, 5, 6, 7, 8, 9, 10, 11, 12, 13, 14, 15] (fun u => (wX7 cI cZ o q F_75 A_75 : va_W)) rfl rfl (fun _ => rfl) rfl 0 rfl rfl ⟨rfl, rfl⟩ ⟨Nat.le_of_ble_eq_true rfl, Nat.le_of_ble_eq_true rfl⟩ hl.1 rfl (Nat.le_of_ble_eq_true rfl) ⟨Nat.zero_le _, Nat.zero_le _⟩ dX7_sheepHere_88 (fun r88 u H locs h hP hD hS => ?_)
  refine lv_iload_n hx hb dX7_sheepHere_91 rfl (lv_at hl 1 rfl) ?_
  refine lv_iconst (v := 2) hx hb dX7_sheepHere_92 (by decide) ?_
  refine lv_iadd hx hb dX7_sheepHere_93 ?_
  refine lv_bipush (v := 9) hx hb dX7_sheepHere_94 (by decide) ?_
  refine C_vv (wr := []) X hP hD hS [.int r88, .int (x2 + (2 : Int32)), .int (9 : Int32)] [] (w_X7_perhaps l D cI cZ cR adK adV _ o q F_75 A_75 r88 (x2 + (2 : Int32)) (9 : Int32) _ h) cal_X7_perhaps mw_14_12 rfl [0, 1, 2, 3, 4, 5, 6, 7, 8, 9, 10, 11, 12, 13, 14, 15] [] [0, 1, 2, 3, 4, 5, 6, 7, 8, 9, 10, 11, 12, 13, 14, 15] (fun u => (wX7 cI cZ o q u.1 u.2 : va_W)) rfl rfl (fun _ => rfl) rfl 0 rfl rfl ⟨rfl, rfl⟩ ⟨Nat.le_of_ble_eq_true rfl, Nat.le_of_ble_eq_true rfl⟩ hl.1 rfl (Nat.le_of_ble_eq_true rfl) ⟨Nat.zero_le _, Nat.zero_le _⟩ dX7_sheepHere_96 (fun u H locs h hP hD hS => ?_)
  obtain ⟨F_96, A_96⟩ := u
  try dsimp only at h
  have hP : va_P D vwCl (wX7 cI cZ o q F_96 A_96 : va_W) H := hP
  have hD : va_D A9 (wX7 cI cZ o q F_96 A_96 : va_W) := hD
  refine lv_aload_n hx hb dX7_sheepHere_99 rfl (lv_at hl 0 rfl) ?_
  refine lv_aload_n hx hb dX7_sheepHere_100 rfl (lv_at hl 0 rfl) ?_
  refine lv_bipush (v := 108) hx hb dX7_sheepHere_101 (by decide) ?_
  refine lv_bipush (v := 111) hx hb dX7_sheepHere_103 (by decide) ?_
  refine lv_bipush (v := 111) hx hb dX7_sheepHere_105 (by decide) ?_
  refine lv_bipush (v := 107) hx hb dX7_sheepHere_107 (by decide) ?_
  refine C_vi (wr := []) X hP hD hS [.int (108 : Int32), .int (111 : Int32), .int (111 : Int32), .int (107 : Int32)] [.ref o] (w_X7_isFour l D cI cZ cR adK adV _ o q F_96 A_96 (108 : Int32) (111 : Int32) (111 : Int32) (107 : Int32) _ h) cal_X7_isFour mw_13_12 rfl [0, 1, 2, 3, 4, 5, 6, 7, 8, 9, 10, 11, 12, 13, 14, 15] [] [0, 1, 2, 3, 4, 5, 6, 7, 8, 9, 10, 11, 12, 13, 14, 15] (fun u => (wX7 cI cZ o q F_96 A_96 : va_W)) rfl rfl (fun _ => rfl) rfl 0 rfl rfl ⟨rfl, rfl⟩ ⟨Nat.le_of_ble_eq_true rfl, Nat.le_of_ble_eq_true rfl⟩ hl.1 rfl (Nat.le_of_ble_eq_true rfl) ⟨Nat.zero_le _, Nat.zero_le _⟩ dX7_sheepHere_109 (fun r109 u H locs h hP hD hS => ?_)
  refine lv_iload_n hx hb dX7_sheepHere_112 rfl (lv_at hl 1 rfl) ?_
  refine lv_iconst (v := 3) hx hb dX7_sheepHere_113 (by decide) ?_
  refine lv_iadd hx hb dX7_sheepHere_114 ?_
  refine lv_iconst (v := 5) hx hb dX7_sheepHere_115 (by decide) ?_
  refine C_vv (wr := []) X hP hD hS [.int r109, .int (x2 + (3 : Int32)), .int (5 : Int32)] [] (w_X7_perhaps l D cI cZ cR adK adV _ o q F_96 A_96 r109 (x2 + (3 : Int32)) (5 : Int32) _ h) cal_X7_perhaps mw_14_12 rfl [0, 1, 2, 3, 4, 5, 6, 7, 8, 9, 10, 11, 12, 13, 14, 15] [] [0, 1, 2, 3, 4, 5, 6, 7, 8, 9, 10, 11, 12, 13, 14, 15] (fun u => (wX7 cI cZ o q u.1 u.2 : va_W)) rfl rfl (fun _ => rfl) rfl 0 rfl rfl ⟨rfl, rfl⟩ ⟨Nat.le_of_ble_eq_true rfl, Nat.le_of_ble_eq_true rfl⟩ hl.1 rfl (Nat.le_of_ble_eq_true rfl) ⟨Nat.zero_le _, Nat.zero_le _⟩ dX7_sheepHere_116 (fun u H locs h hP hD hS => ?_)
  obtain ⟨F_116, A_116⟩ := u
  try dsimp only at h
  have hP : va_P D vwCl (wX7 cI cZ o q F_116 A_116 : va_W) H := hP
  have hD : va_D A9 (wX7 cI cZ o q F_116 A_116 : va_W) := hD
  exact ret (F_116, A_116) _ _ _ _ dX7_sheepHere_119 h hP hD hS
def p_X7_sheepHere_J29 (F : tF) (A : tA) (K : tF → tA → Prop) (x1 : Int32) (x2 : Int32) (s0 : Int32) : Prop := (p_X7_needs F A s0 (fun F_29 A_29 => ((¬ (F_29 11) = 0 → (p_X7_sheepHere_J56 F_29 A_29 K x2)) ∧ ((F_29 11) = 0 → (vp_in x2 53 ∧ (∀ f_45 : tF, f_45 = (upd (A_29 0) (x2).toNatClampNeg x1) → (∀ f_55 : tF, f_55 = (upd f_45 0 ((f_45 0) + (1 : Int32))) → (p_X7_sheepHere_J56 F_29 (va_up A_29 0 f_55) K x2))))))))
set_option maxHeartbeats 4000000 in
set_option maxRecDepth 100000 in
theorem b_X7_sheepHere_J29 {p : Program} {l : Launch} {e : Env} {s : State} {m : MethodId} {args : Array Value} {below : List Frame} {meth : Method} {c : Code} {Q : State → Prop} {D : va_G} {cI cZ cR : ClassId} {adK adV : Nat → Nat} {A9 : Nat → Prop} {o : Nat} {q : Nat → Nat} {K : tF → tA → Prop}  (F : tF) (A : tA) (x1 : Int32) (x2 : Int32) (s0 : Int32) (X : CX p s m args c yX7_sheepHere.cls cX7_sheepHere 3 D cI cZ cR adK adV A9) (ret : RTv p l e (rmN 5 109) s m args below meth c Q cX7_sheepHere D A9 (fun (u : (tF × tA)) => K u.1 u.2) (fun (u : (tF × tA)) => (wX7 cI cZ o q u.1 u.2 : va_W)))  (H : Heap) (locs : List Loc) (ls : Array Slot) (h : p_X7_sheepHere_J29 F A K x1 x2 s0) (hP : va_P D vwCl (wX7 cI cZ o q F A : va_W) H) (hD : va_D A9 (wX7 cI cZ o q F A : va_W)) (hS : va_S A9 s.heap H locs) (hl : lv_has ls 3 [(0, .ref o), (1, .int x1), (2, .int x2)]) : W p l e (rmN 5 109) s m args below meth c H locs 0 0 Q (F0 m 29 ls [.int s0, .ref o]) := by
  obtain ⟨hx, hb, hml, ht, hown, hK, hA, hE⟩ := id X
  unfold p_X7_sheepHere_J29 at h
  refine C_vv (wr := []) X hP hD hS [.int s0] [] (w_X7_needs l D cI cZ cR adK adV _ o q F A s0 _ h) cal_X7_needs mw_14_8 rfl [0, 1, 2, 3, 4, 5, 6, 7, 8, 9, 10, 11, 12, 13, 14, 15] [] [0, 1, 2, 3, 4, 5, 6, 7, 8, 9, 10, 11, 12, 13, 14, 15] (fun u => (wX7 cI cZ o q u.1 u.2 : va_W)) rfl rfl (fun _ => rfl) rfl 0 rfl rfl ⟨rfl, rfl⟩ ⟨Nat.le_of_ble_eq_true rfl, Nat.le_of_ble_eq_true rfl⟩ hl.1 rfl (Nat.le_of_ble_eq_true rfl) ⟨Nat.zero_le _, Nat.zero_le _⟩ dX7_sheepHere_29 (fun u H locs h hP hD hS => ?_)
  obtain ⟨F_29, A_29⟩ := u
  try dsimp only at h
  have hP : va_P D vwCl (wX7 cI cZ o q F_29 A_29 : va_W) H := hP
  have hD : va_D A9 (wX7 cI cZ o q F_29 A_29 : va_W) := hD
  refine lv_aload_n hx hb dX7_sheepHere_32 rfl (lv_at hl 0 rfl) ?_
  refine va_get (C := RX7) (T := TX7) (N := 28) (own := RX7) (v := .int (F_29 11)) hx hb ht inlX7 hown hK hP 0 rfl rfl 11 (Nat.le_of_ble_eq_true rfl) (ht _ mw_12_2) (fun _ h9 => h9) rfl dX7_sheepHere_33 ?_
  refine lv_if_ne (tgt := 56) hx hb dX7_sheepHere_36 (by decide) (fun c36 => ?_) (fun c36 => ?_)
  · replace h := h.1 c36
    exact b_X7_sheepHere_J56 F_29 A_29 x2 X ret  _ _ _ h hP hD hS (lv_sub hl [0, 2] rfl)
  · replace h := h.2 c36
    refine lv_aload_n hx hb dX7_sheepHere_39 rfl (lv_at hl 0 rfl) ?_
    refine va_get (C := RX7) (T := TX7) (N := 28) (own := RX7) (v := .ref (q 0)) hx hb ht inlX7 hown hK hP 0 rfl rfl 0 (Nat.le_of_ble_eq_true rfl) (ht _ mw_5_7) (fun _ h9 => h9) rfl dX7_sheepHere_40 ?_
    refine lv_iload_n hx hb dX7_sheepHere_43 rfl (lv_at hl 2 rfl) ?_
    refine lv_iload_n hx hb dX7_sheepHere_44 rfl (lv_at hl 1 rfl) ?_
    obtain ⟨hi45, h⟩ := h
    obtain ⟨f_45, ef_45⟩ : ∃ z : tF, z = (upd (A_29 0) (x2).toNatClampNeg x1) := ⟨_, rfl⟩
    replace h := h f_45 ef_45
    refine g_iast (f := (A_29 0)) (k := (x2).toNatClampNeg) hx hb hK hP hD hS 1 0 rfl rfl hi45 rfl ef_45 dX7_sheepHere_45 (fun H locs hP hD hS => ?_)
    have hP : va_P D vwCl (wX7 cI cZ o q F_29 (va_up A_29 0 f_45) : va_W) H := hP
    have hD : va_D A9 (wX7 cI cZ o q F_29 (va_up A_29 0 f_45) : va_W) := hD
    refine lv_aload_n hx hb dX7_sheepHere_46 rfl (lv_at hl 0 rfl) ?_
    refine va_get (C := RX7) (T := TX7) (N := 28) (own := RX7) (v := .ref (q 0)) hx hb ht inlX7 hown hK hP 0 rfl rfl 0 (Nat.le_of_ble_eq_true rfl) (ht _ mw_5_7) (fun _ h9 => h9) rfl dX7_sheepHere_47 ?_
    refine lv_iconst (v := 0) hx hb dX7_sheepHere_50 (by decide) ?_
    refine lv_dup2_11 hx hb dX7_sheepHere_51 rfl rfl ?_
    refine g_iald (f := f_45) (k := 0) hx hb hK hP 1 0 rfl rfl (vp_in_lit rfl : vp_in (0 : Int32) 53) (by decide) dX7_sheepHere_52 ?_
    refine lv_iconst (v := 1) hx hb dX7_sheepHere_53 (by decide) ?_
    refine lv_iadd hx hb dX7_sheepHere_54 ?_
    obtain ⟨f_55, ef_55⟩ : ∃ z : tF, z = (upd f_45 0 ((f_45 0) + (1 : Int32))) := ⟨_, rfl⟩
    replace h := h f_55 ef_55
    refine g_iast (f := f_45) (k := 0) hx hb hK hP hD hS 1 0 rfl rfl (vp_in_lit rfl : vp_in (0 : Int32) 53) (by decide) ef_55 dX7_sheepHere_55 (fun H locs hP hD hS => ?_)
    have hP : va_P D vwCl (wX7 cI cZ o q F_29 (va_up A_29 0 f_55) : va_W) H := hP
    have hD : va_D A9 (wX7 cI cZ o q F_29 (va_up A_29 0 f_55) : va_W) := hD
    exact b_X7_sheepHere_J56 F_29 (va_up A_29 0 f_55) x2 X ret  _ _ _ h hP hD hS (lv_sub hl [0, 2] rfl)
def p_X7_sheepHere (F : tF) (A : tA) (x1 : Int32) (K : tF → tA → Prop) : Prop := (∀ y11 : Int32, y11 = ((21 : Int32) + ((4 : Int32) * ((A 0) 0))) → (((8 : Int32) ≤ ((A 0) 0) → (p_X7_sheepHere_J29 F A K x1 y11 (0 : Int32))) ∧ (¬ (8 : Int32) ≤ ((A 0) 0) → (p_X7_sheepHere_J29 F A K x1 y11 (1 : Int32)))))
set_option maxHeartbeats 4000000 in
set_option maxRecDepth 100000 in
theorem w_X7_sheepHere (l : Launch) (D : va_G) (cI cZ cR : ClassId) (adK adV : Nat → Nat) (sz : Nat) (o : Nat) (q : Nat → Nat) (F : tF) (A : tA) (x1 : Int32) (K : tF → tA → Prop) (h : p_X7_sheepHere F A x1 K) : MV l D cI cZ cR adK adV yX7_sheepHere cX7_sheepHere 3 none (rmN 5 109) [.ref o, .int x1] (wX7 cI cZ o q F A : va_W) sz (fun (u : (tF × tA)) => K u.1 u.2) (fun (u : (tF × tA)) => (wX7 cI cZ o q u.1 u.2 : va_W)) := by
  refine M_v (by decide +kernel) (Nat.le_of_ble_eq_true rfl) ?_
  intro p e s m args below meth c Q A9 ls X ret hP hD hS hl
  obtain ⟨hx, hb, hml, ht, hown, hK, hA, hE⟩ := id X
  have hl : lv_has ls 3 [(0, .ref o), (1, .int x1)] := hl
  unfold p_X7_sheepHere at h
  refine lv_bipush (v := 21) hx hb dX7_sheepHere_0 (by decide) ?_
  refine lv_iconst (v := 4) hx hb dX7_sheepHere_2 (by decide) ?_
  refine lv_aload_n hx hb dX7_sheepHere_3 rfl (lv_at hl 0 rfl) ?_
  refine va_get (C := RX7) (T := TX7) (N := 28) (own := RX7) (v := .ref (q 0)) hx hb ht inlX7 hown hK hP 0 rfl rfl 0 (Nat.le_of_ble_eq_true rfl) (ht _ mw_5_7) (fun _ h9 => h9) rfl dX7_sheepHere_4 ?_
  refine lv_iconst (v := 0) hx hb dX7_sheepHere_7 (by decide) ?_
  refine g_iald (f := (A 0)) (k := 0) hx hb hK hP 1 0 rfl rfl (vp_in_lit rfl : vp_in (0 : Int32) 53) (by decide) dX7_sheepHere_8 ?_
  refine lv_imul hx hb dX7_sheepHere_9 ?_
  refine lv_iadd hx hb dX7_sheepHere_10 ?_
  refine lv_topi (fun y11 ey11 => ?_)
  replace h := h y11 ey11
  refine lv_istore_n (lv' := [(2, .int y11), (0, .ref o), (1, .int x1)]) hx hb dX7_sheepHere_11 rfl hl (by decide) rfl (fun ls hl => ?_)
  refine lv_aload_n hx hb dX7_sheepHere_12 rfl (lv_at hl 1 rfl) ?_
  refine lv_aload_n hx hb dX7_sheepHere_13 rfl (lv_at hl 1 rfl) ?_
  refine va_get (C := RX7) (T := TX7) (N := 28) (own := RX7) (v := .ref (q 0)) hx hb ht inlX7 hown hK hP 0 rfl rfl 0 (Nat.le_of_ble_eq_true rfl) (ht _ mw_5_7) (fun _ h9 => h9) rfl dX7_sheepHere_14 ?_
  refine lv_iconst (v := 0) hx hb dX7_sheepHere_17 (by decide) ?_
  refine g_iald (f := (A 0)) (k := 0) hx hb hK hP 1 0 rfl rfl (vp_in_lit rfl : vp_in (0 : Int32) 53) (by decide) dX7_sheepHere_18 ?_
  refine lv_bipush (v := 8) hx hb dX7_sheepHere_19 (by decide) ?_
  refine lv_icmp_ge (tgt := 28) hx hb dX7_sheepHere_21 (by decide) (fun c21 => ?_) (fun c21 => ?_)
  · replace h := h.1 c21
    refine lv_iconst (v := 0) hx hb dX7_sheepHere_28 (by decide) ?_
    exact b_X7_sheepHere_J29 F A x1 y11 (0 : Int32) X ret  _ _ _ h hP hD hS (lv_sub hl [1, 2, 0] rfl)
  · replace h := h.2 c21
    refine lv_iconst (v := 1) hx hb dX7_sheepHere_24 (by decide) ?_
    refine lv_goto (tgt := 29) hx hb dX7_sheepHere_25 (by decide) ?_
    exact b_X7_sheepHere_J29 F A x1 y11 (1 : Int32) X ret  _ _ _ h hP hD hS (lv_sub hl [1, 2, 0] rfl)
theorem dX7_placeHere_0 : decode cX7_placeHere 0 = .ok (.aload_n 0, 1) := by decide +kernel
theorem dX7_placeHere_1 : decode cX7_placeHere 1 = .ok (.invokevirtual 98, 3) := by decide +kernel
theorem dX7_placeHere_4 : decode cX7_placeHere 4 = .ok (.aload_n 0, 1) := by decide +kernel
theorem dX7_placeHere_5 : decode cX7_placeHere 5 = .ok (.getfield 91, 3) := by decide +kernel
theorem dX7_placeHere_8 : decode cX7_placeHere 8 = .ok (.istore_n 2, 1) := by decide +kernel
theorem dX7_placeHere_9 : decode cX7_placeHere 9 = .ok (.aload_n 0, 1) := by decide +kernel
theorem dX7_placeHere_10 : decode cX7_placeHere 10 = .ok (.aload_n 0, 1) := by decide +kernel
theorem dX7_placeHere_11 : decode cX7_placeHere 11 = .ok (.getfield 88, 3) := by decide +kernel
theorem dX7_placeHere_14 : decode cX7_placeHere 14 = .ok (.iconst 2, 1) := by decide +kernel
theorem dX7_placeHere_15 : decode cX7_placeHere 15 = .ok (.if_icmp .ne 29, 3) := by decide +kernel
theorem dX7_placeHere_18 : decode cX7_placeHere 18 = .ok (.aload_n 0, 1) := by decide +kernel
theorem dX7_placeHere_19 : decode cX7_placeHere 19 = .ok (.getfield 71, 3) := by decide +kernel
theorem dX7_placeHere_22 : decode cX7_placeHere 22 = .ok (.aload_n 0, 1) := by decide +kernel
theorem dX7_placeHere_23 : decode cX7_placeHere 23 = .ok (.getfield 74, 3) := by decide +kernel
theorem dX7_placeHere_26 : decode cX7_placeHere 26 = .ok (.isub, 1) := by decide +kernel
theorem dX7_placeHere_27 : decode cX7_placeHere 27 = .ok (.iconst 3, 1) := by decide +kernel
theorem dX7_placeHere_28 : decode cX7_placeHere 28 = .ok (.if_icmp .gt 16, 3) := by decide +kernel
theorem dX7_placeHere_31 : decode cX7_placeHere 31 = .ok (.aload_n 0, 1) := by decide +kernel
theorem dX7_placeHere_32 : decode cX7_placeHere 32 = .ok (.getfield 91, 3) := by decide +kernel
theorem dX7_placeHere_35 : decode cX7_placeHere 35 = .ok (.bipush 6, 2) := by decide +kernel
theorem dX7_placeHere_37 : decode cX7_placeHere 37 = .ok (.if_icmp .ge 7, 3) := by decide +kernel
theorem dX7_placeHere_40 : decode cX7_placeHere 40 = .ok (.iconst 1, 1) := by decide +kernel
theorem dX7_placeHere_41 : decode cX7_placeHere 41 = .ok (.goto 4, 3) := by decide +kernel
theorem dX7_placeHere_44 : decode cX7_placeHere 44 = .ok (.iconst 0, 1) := by decide +kernel
theorem dX7_placeHere_45 : decode cX7_placeHere 45 = .ok (.invokevirtual 112, 3) := by decide +kernel
theorem dX7_placeHere_48 : decode cX7_placeHere 48 = .ok (.aload_n 0, 1) := by decide +kernel
theorem dX7_placeHere_49 : decode cX7_placeHere 49 = .ok (.aload_n 0, 1) := by decide +kernel
theorem dX7_placeHere_50 : decode cX7_placeHere 50 = .ok (.getfield 88, 3) := by decide +kernel
theorem dX7_placeHere_53 : decode cX7_placeHere 53 = .ok (.iconst 1, 1) := by decide +kernel
theorem dX7_placeHere_54 : decode cX7_placeHere 54 = .ok (.if_icmp .ne 48, 3) := by decide +kernel
theorem dX7_placeHere_57 : decode cX7_placeHere 57 = .ok (.aload_n 0, 1) := by decide +kernel
theorem dX7_placeHere_58 : decode cX7_placeHere 58 = .ok (.getfield 71, 3) := by decide +kernel
theorem dX7_placeHere_61 : decode cX7_placeHere 61 = .ok (.aload_n 0, 1) := by decide +kernel
theorem dX7_placeHere_62 : decode cX7_placeHere 62 = .ok (.getfield 74, 3) := by decide +kernel
theorem dX7_placeHere_65 : decode cX7_placeHere 65 = .ok (.isub, 1) := by decide +kernel
theorem dX7_placeHere_66 : decode cX7_placeHere 66 = .ok (.iconst 2, 1) := by decide +kernel
theorem dX7_placeHere_67 : decode cX7_placeHere 67 = .ok (.if_icmp .ne 35, 3) := by decide +kernel
theorem dX7_placeHere_70 : decode cX7_placeHere 70 = .ok (.aload_n 0, 1) := by decide +kernel
theorem dX7_placeHere_71 : decode cX7_placeHere 71 = .ok (.aload_n 0, 1) := by decide +kernel
theorem dX7_placeHere_72 : decode cX7_placeHere 72 = .ok (.getfield 74, 3) := by decide +kernel
theorem dX7_placeHere_75 : decode cX7_placeHere 75 = .ok (.invokevirtual 77, 3) := by decide +kernel
theorem dX7_placeHere_78 : decode cX7_placeHere 78 = .ok (.bipush 105, 2) := by decide +kernel
theorem dX7_placeHere_80 : decode cX7_placeHere 80 = .ok (.if_icmp .ne 22, 3) := by decide +kernel
theorem dX7_placeHere_83 : decode cX7_placeHere 83 = .ok (.aload_n 0, 1) := by decide +kernel
theorem dX7_placeHere_84 : decode cX7_placeHere 84 = .ok (.aload_n 0, 1) := by decide +kernel
theorem dX7_placeHere_85 : decode cX7_placeHere 85 = .ok (.getfield 74, 3) := by decide +kernel
theorem dX7_placeHere_88 : decode cX7_placeHere 88 = .ok (.iconst 1, 1) := by decide +kernel
theorem dX7_placeHere_89 : decode cX7_placeHere 89 = .ok (.iadd, 1) := by decide +kernel
theorem dX7_placeHere_90 : decode cX7_placeHere 90 = .ok (.invokevirtual 77, 3) := by decide +kernel
theorem dX7_placeHere_93 : decode cX7_placeHere 93 = .ok (.bipush 115, 2) := by decide +kernel
theorem dX7_placeHere_95 : decode cX7_placeHere 95 = .ok (.if_icmp .ne 7, 3) := by decide +kernel
theorem dX7_placeHere_98 : decode cX7_placeHere 98 = .ok (.iconst 1, 1) := by decide +kernel
theorem dX7_placeHere_99 : decode cX7_placeHere 99 = .ok (.goto 4, 3) := by decide +kernel
theorem dX7_placeHere_102 : decode cX7_placeHere 102 = .ok (.iconst 0, 1) := by decide +kernel
theorem dX7_placeHere_103 : decode cX7_placeHere 103 = .ok (.invokevirtual 112, 3) := by decide +kernel
theorem dX7_placeHere_106 : decode cX7_placeHere 106 = .ok (.aload_n 0, 1) := by decide +kernel
theorem dX7_placeHere_107 : decode cX7_placeHere 107 = .ok (.iload_n 1, 1) := by decide +kernel
theorem dX7_placeHere_108 : decode cX7_placeHere 108 = .ok (.aload_n 0, 1) := by decide +kernel
theorem dX7_placeHere_109 : decode cX7_placeHere 109 = .ok (.getfield 94, 3) := by decide +kernel
theorem dX7_placeHere_112 : decode cX7_placeHere 112 = .ok (.ifCond .eq 7, 3) := by decide +kernel
theorem dX7_placeHere_115 : decode cX7_placeHere 115 = .ok (.iconst 0, 1) := by decide +kernel
theorem dX7_placeHere_116 : decode cX7_placeHere 116 = .ok (.goto 4, 3) := by decide +kernel
theorem dX7_placeHere_119 : decode cX7_placeHere 119 = .ok (.iload_n 2, 1) := by decide +kernel
theorem dX7_placeHere_120 : decode cX7_placeHere 120 = .ok (.iadd, 1) := by decide +kernel
theorem dX7_placeHere_121 : decode cX7_placeHere 121 = .ok (.bipush 9, 2) := by decide +kernel
theorem dX7_placeHere_123 : decode cX7_placeHere 123 = .ok (.invokevirtual 116, 3) := by decide +kernel
theorem dX7_placeHere_126 : decode cX7_placeHere 126 = .ok (.return_, 1) := by decide +kernel
def p_X7_placeHere_J120 (F : tF) (A : tA) (K : tF → tA → Prop) (s0 : Int32) (s1 : Int32) : Prop := (p_X7_numberTo F A (s1 + s0) (9 : Int32) (fun F_123 A_123 => (K F_123 A_123)))
set_option maxHeartbeats 4000000 in
set_option maxRecDepth 100000 in
theorem b_X7_placeHere_J120 {p : Program} {l : Launch} {e : Env} {s : State} {m : MethodId} {args : Array Value} {below : List Frame} {meth : Method} {c : Code} {Q : State → Prop} {D : va_G} {cI cZ cR : ClassId} {adK adV : Nat → Nat} {A9 : Nat → Prop} {o : Nat} {q : Nat → Nat} {K : tF → tA → Prop}  (F : tF) (A : tA) (s0 : Int32) (s1 : Int32) (X : CX p s m args c yX7_placeHere.cls cX7_placeHere 3 D cI cZ cR adK adV A9) (ret : RTv p l e (rmN 4 86) s m args below meth c Q cX7_placeHere D A9 (fun (u : (tF × tA)) => K u.1 u.2) (fun (u : (tF × tA)) => (wX7 cI cZ o q u.1 u.2 : va_W)))  (H : Heap) (locs : List Loc) (ls : Array Slot) (h : p_X7_placeHere_J120 F A K s0 s1) (hP : va_P D vwCl (wX7 cI cZ o q F A : va_W) H) (hD : va_D A9 (wX7 cI cZ o q F A : va_W)) (hS : va_S A9 s.heap H locs) (hl : lv_has ls 3 []) : W p l e (rmN 4 86) s m args below meth c H locs 0 0 Q (F0 m 120 ls [.int s0, .int s1, .ref o]) := by
  obtain ⟨hx, hb, hml, ht, hown, hK, hA, hE⟩ := id X
  unfold p_X7_placeHere_J120 at h
  refine lv_iadd hx hb dX7_placeHere_120 ?_
  refine lv_bipush (v := 9) hx hb dX7_placeHere_121 (by decide) ?_
  refine C_vv (wr := []) X hP hD hS [.int (s1 + s0), .int (9 : Int32)] [] (w_X7_numberTo l D cI cZ cR adK adV _ o q F A (s1 + s0) (9 : Int32) _ h) cal_X7_numberTo mw_14_16 rfl [0, 1, 2, 3, 4, 5, 6, 7, 8, 9, 10, 11, 12, 13, 14, 15] [] [0, 1, 2, 3, 4, 5, 6, 7, 8, 9, 10, 11, 12, 13, 14, 15] (fun u => (wX7 cI cZ o q u.1 u.2 : va_W)) rfl rfl (fun _ => rfl) rfl 0 rfl rfl ⟨rfl, rfl⟩ ⟨Nat.le_of_ble_eq_true rfl, Nat.le_of_ble_eq_true rfl⟩ hl.1 rfl (Nat.le_of_ble_eq_true rfl) ⟨Nat.zero_le _, Nat.zero_le _⟩ dX7_placeHere_123 (fun u H locs h hP hD hS => ?_)
  obtain ⟨F_123, A_123⟩ := u
  try dsimp only at h
  have hP : va_P D vwCl (wX7 cI cZ o q F_123 A_123 : va_W) H := hP
  have hD : va_D A9 (wX7 cI cZ o q F_123 A_123 : va_W) := hD
  exact ret (F_123, A_123) _ _ _ _ dX7_placeHere_126 h hP hD hS
def p_X7_placeHere_J103 (F : tF) (A : tA) (K : tF → tA → Prop) (x1 : Int32) (x2 : Int32) (s0 : Int32) : Prop := (p_X7_needs F A s0 (fun F_103 A_103 => (((F_103 11) = 0 → (p_X7_placeHere_J120 F_103 A_103 K x2 x1)) ∧ (¬ (F_103 11) = 0 → (p_X7_placeHere_J120 F_103 A_103 K (0 : Int32) x1)))))
set_option maxHeartbeats 4000000 in
set_option maxRecDepth 100000 in
theorem b_X7_placeHere_J103 {p : Program} {l : Launch} {e : Env} {s : State} {m : MethodId} {args : Array Value} {below : List Frame} {meth : Method} {c : Code} {Q : State → Prop} {D : va_G} {cI cZ cR : ClassId} {adK adV : Nat → Nat} {A9 : Nat → Prop} {o : Nat} {q : Nat → Nat} {K : tF → tA → Prop}  (F : tF) (A : tA) (x1 : Int32) (x2 : Int32) (s0 : Int32) (X : CX p s m args c yX7_placeHere.cls cX7_placeHere 3 D cI cZ cR adK adV A9) (ret : RTv p l e (rmN 4 86) s m args below meth c Q cX7_placeHere D A9 (fun (u : (tF × tA)) => K u.1 u.2) (fun (u : (tF × tA)) => (wX7 cI cZ o q u.1 u.2 : va_W)))  (H : Heap) (locs : List Loc) (ls : Array Slot) (h : p_X7_placeHere_J103 F A K x1 x2 s0) (hP : va_P D vwCl (wX7 cI cZ o q F A : va_W) H) (hD : va_D A9 (wX7 cI cZ o q F A : va_W)) (hS : va_S A9 s.heap H locs) (hl : lv_has ls 3 [(0, .ref o), (1, .int x1), (2, .int x2)]) : W p l e (rmN 4 86) s m args below meth c H locs 0 0 Q (F0 m 103 ls [.int s0, .ref o]) := by
  obtain ⟨hx, hb, hml, ht, hown, hK, hA, hE⟩ := id X
  unfold p_X7_placeHere_J103 at h
  refine C_vv (wr := []) X hP hD hS [.int s0] [] (w_X7_needs l D cI cZ cR adK adV _ o q F A s0 _ h) cal_X7_needs mw_14_8 rfl [0, 1, 2, 3, 4, 5, 6, 7, 8, 9, 10, 11, 12, 13, 14, 15] [] [0, 1, 2, 3, 4, 5, 6, 7, 8, 9, 10, 11, 12, 13, 14, 15] (fun u => (wX7 cI cZ o q u.1 u.2 : va_W)) rfl rfl (fun _ => rfl) rfl 0 rfl rfl ⟨rfl, rfl⟩ ⟨Nat.le_of_ble_eq_true rfl, Nat.le_of_ble_eq_true rfl⟩ hl.1 rfl (Nat.le_of_ble_eq_true rfl) ⟨Nat.zero_le _, Nat.zero_le _⟩ dX7_placeHere_103 (fun u H locs h hP hD hS => ?_)
  obtain ⟨F_103, A_103⟩ := u
  try dsimp only at h
  have hP : va_P D vwCl (wX7 cI cZ o q F_103 A_103 : va_W) H := hP
  have hD : va_D A9 (wX7 cI cZ o q F_103 A_103 : va_W) := hD
  refine lv_aload_n hx hb dX7_placeHere_106 rfl (lv_at hl 0 rfl) ?_
  refine lv_iload_n hx hb dX7_placeHere_107 rfl (lv_at hl 1 rfl) ?_
  refine lv_aload_n hx hb dX7_placeHere_108 rfl (lv_at hl 0 rfl) ?_
  refine va_get (C := RX7) (T := TX7) (N := 28) (own := RX7) (v := .int (F_103 11)) hx hb ht inlX7 hown hK hP 0 rfl rfl 11 (Nat.le_of_ble_eq_true rfl) (ht _ mw_12_2) (fun _ h9 => h9) rfl dX7_placeHere_109 ?_
  refine lv_if_eq (tgt := 119) hx hb dX7_placeHere_112 (by decide) (fun c112 => ?_) (fun c112 => ?_)
  · replace h := h.1 c112
    refine lv_iload_n hx hb dX7_placeHere_119 rfl (lv_at hl 2 rfl) ?_
    exact b_X7_placeHere_J120 F_103 A_103 x2 x1 X ret  _ _ _ h hP hD hS (lv_sub hl [] rfl)
  · replace h := h.2 c112
    refine lv_iconst (v := 0) hx hb dX7_placeHere_115 (by decide) ?_
    refine lv_goto (tgt := 120) hx hb dX7_placeHere_116 (by decide) ?_
    exact b_X7_placeHere_J120 F_103 A_103 (0 : Int32) x1 X ret  _ _ _ h hP hD hS (lv_sub hl [] rfl)
def p_X7_placeHere_J102 (F : tF) (A : tA) (K : tF → tA → Prop) (x1 : Int32) (x2 : Int32) : Prop := (p_X7_placeHere_J103 F A K x1 x2 (0 : Int32))
set_option maxHeartbeats 4000000 in
set_option maxRecDepth 100000 in
theorem b_X7_placeHere_J102 {p : Program} {l : Launch} {e : Env} {s : State} {m : MethodId} {args : Array Value} {below : List Frame} {meth : Method} {c : Code} {Q : State → Prop} {D : va_G} {cI cZ cR : ClassId} {adK adV : Nat → Nat} {A9 : Nat → Prop} {o : Nat} {q : Nat → Nat} {K : tF → tA → Prop}  (F : tF) (A : tA) (x1 : Int32) (x2 : Int32) (X : CX p s m args c yX7_placeHere.cls cX7_placeHere 3 D cI cZ cR adK adV A9) (ret : RTv p l e (rmN 4 86) s m args below meth c Q cX7_placeHere D A9 (fun (u : (tF × tA)) => K u.1 u.2) (fun (u : (tF × tA)) => (wX7 cI cZ o q u.1 u.2 : va_W)))  (H : Heap) (locs : List Loc) (ls : Array Slot) (h : p_X7_placeHere_J102 F A K x1 x2) (hP : va_P D vwCl (wX7 cI cZ o q F A : va_W) H) (hD : va_D A9 (wX7 cI cZ o q F A : va_W)) (hS : va_S A9 s.heap H locs) (hl : lv_has ls 3 [(0, .ref o), (1, .int x1), (2, .int x2)]) : W p l e (rmN 4 86) s m args below meth c H locs 0 0 Q (F0 m 102 ls [.ref o]) := by
  obtain ⟨hx, hb, hml, ht, hown, hK, hA, hE⟩ := id X
  unfold p_X7_placeHere_J102 at h
  refine lv_iconst (v := 0) hx hb dX7_placeHere_102 (by decide) ?_
  exact b_X7_placeHere_J103 F A x1 x2 (0 : Int32) X ret  _ _ _ h hP hD hS (lv_sub hl [0, 1, 2] rfl)
def p_X7_placeHere_J45 (F : tF) (A : tA) (K : tF → tA → Prop) (x1 : Int32) (x2 : Int32) (s0 : Int32) : Prop := (p_X7_needs F A s0 (fun F_45 A_45 => ((¬ (F_45 7) = (1 : Int32) → (p_X7_placeHere_J102 F_45 A_45 K x1 x2)) ∧ ((F_45 7) = (1 : Int32) → ((¬ ((F_45 9) - (F_45 8)) = (2 : Int32) → (p_X7_placeHere_J102 F_45 A_45 K x1 x2)) ∧ (((F_45 9) - (F_45 8)) = (2 : Int32) → (p_X7_byteAt F_45 A_45 (F_45 8) (fun r75 => ((¬ r75 = (105 : Int32) → (p_X7_placeHere_J102 F_45 A_45 K x1 x2)) ∧ (r75 = (105 : Int32) → (p_X7_byteAt F_45 A_45 ((F_45 8) + (1 : Int32)) (fun r90 => ((¬ r90 = (115 : Int32) → (p_X7_placeHere_J102 F_45 A_45 K x1 x2)) ∧ (r90 = (115 : Int32) → (p_X7_placeHere_J103 F_45 A_45 K x1 x2 (1 : Int32))))))))))))))))
set_option maxHeartbeats 4000000 in
set_option maxRecDepth 100000 in
theorem b_X7_placeHere_J45 {p : Program} {l : Launch} {e : Env} {s : State} {m : MethodId} {args : Array Value} {below : List Frame} {meth : Method} {c : Code} {Q : State → Prop} {D : va_G} {cI cZ cR : ClassId} {adK adV : Nat → Nat} {A9 : Nat → Prop} {o : Nat} {q : Nat → Nat} {K : tF → tA → Prop}  (F : tF) (A : tA) (x1 : Int32) (x2 : Int32) (s0 : Int32) (X : CX p s m args c yX7_placeHere.cls cX7_placeHere 3 D cI cZ cR adK adV A9) (ret : RTv p l e (rmN 4 86) s m args below meth c Q cX7_placeHere D A9 (fun (u : (tF × tA)) => K u.1 u.2) (fun (u : (tF × tA)) => (wX7 cI cZ o q u.1 u.2 : va_W)))  (H : Heap) (locs : List Loc) (ls : Array Slot) (h : p_X7_placeHere_J45 F A K x1 x2 s0) (hP : va_P D vwCl (wX7 cI cZ o q F A : va_W) H) (hD : va_D A9 (wX7 cI cZ o q F A : va_W)) (hS : va_S A9 s.heap H locs) (hl : lv_has ls 3 [(0, .ref o), (1, .int x1), (2, .int x2)]) : W p l e (rmN 4 86) s m args below meth c H locs 0 0 Q (F0 m 45 ls [.int s0, .ref o]) := by
  obtain ⟨hx, hb, hml, ht, hown, hK, hA, hE⟩ := id X
  unfold p_X7_placeHere_J45 at h
  refine C_vv (wr := []) X hP hD hS [.int s0] [] (w_X7_needs l D cI cZ cR adK adV _ o q F A s0 _ h) cal_X7_needs mw_14_8 rfl [0, 1, 2, 3, 4, 5, 6, 7, 8, 9, 10, 11, 12, 13, 14, 15] [] [0, 1, 2, 3, 4, 5, 6, 7, 8, 9, 10, 11, 12, 13, 14, 15] (fun u => (wX7 cI cZ o q u.1 u.2 : va_W)) rfl rfl (fun _ => rfl) rfl 0 rfl rfl ⟨rfl, rfl⟩ ⟨Nat.le_of_ble_eq_true rfl, Nat.le_of_ble_eq_true rfl⟩ hl.1 rfl (Nat.le_of_ble_eq_true rfl) ⟨Nat.zero_le _, Nat.zero_le _⟩ dX7_placeHere_45 (fun u H locs h hP hD hS => ?_)
  obtain ⟨F_45, A_45⟩ := u
  try dsimp only at h
  have hP : va_P D vwCl (wX7 cI cZ o q F_45 A_45 : va_W) H := hP
  have hD : va_D A9 (wX7 cI cZ o q F_45 A_45 : va_W) := hD
  refine lv_aload_n hx hb dX7_placeHere_48 rfl (lv_at hl 0 rfl) ?_
  refine lv_aload_n hx hb dX7_placeHere_49 rfl (lv_at hl 0 rfl) ?_
  refine va_get (C := RX7) (T := TX7) (N := 28) (own := RX7) (v := .int (F_45 7)) hx hb ht inlX7 hown hK hP 0 rfl rfl 7 (Nat.le_of_ble_eq_true rfl) (ht _ mw_12_3) (fun _ h9 => h9) rfl dX7_placeHere_50 ?_
  refine lv_iconst (v := 1) hx hb dX7_placeHere_53 (by decide) ?_
  refine lv_icmp_ne (tgt := 102) hx hb dX7_placeHere_54 (by decide) (fun c54 => ?_) (fun c54 => ?_)
  · replace h := h.1 c54
    exact b_X7_placeHere_J102 F_45 A_45 x1 x2 X ret  _ _ _ h hP hD hS (lv_sub hl [0, 1, 2] rfl)
  · replace h := h.2 c54
    refine lv_aload_n hx hb dX7_placeHere_57 rfl (lv_at hl 0 rfl) ?_
    refine va_get (C := RX7) (T := TX7) (N := 28) (own := RX7) (v := .int (F_45 9)) hx hb ht inlX7 hown hK hP 0 rfl rfl 9 (Nat.le_of_ble_eq_true rfl) (ht _ mw_12_1) (fun _ h9 => h9) rfl dX7_placeHere_58 ?_
    refine lv_aload_n hx hb dX7_placeHere_61 rfl (lv_at hl 0 rfl) ?_
    refine va_get (C := RX7) (T := TX7) (N := 28) (own := RX7) (v := .int (F_45 8)) hx hb ht inlX7 hown hK hP 0 rfl rfl 8 (Nat.le_of_ble_eq_true rfl) (ht _ mw_12_4) (fun _ h9 => h9) rfl dX7_placeHere_62 ?_
    refine lv_isub hx hb dX7_placeHere_65 ?_
    refine lv_iconst (v := 2) hx hb dX7_placeHere_66 (by decide) ?_
    refine lv_icmp_ne (tgt := 102) hx hb dX7_placeHere_67 (by decide) (fun c67 => ?_) (fun c67 => ?_)
    · replace h := h.1 c67
      exact b_X7_placeHere_J102 F_45 A_45 x1 x2 X ret  _ _ _ h hP hD hS (lv_sub hl [0, 1, 2] rfl)
    · replace h := h.2 c67
      refine lv_aload_n hx hb dX7_placeHere_70 rfl (lv_at hl 0 rfl) ?_
      refine lv_aload_n hx hb dX7_placeHere_71 rfl (lv_at hl 0 rfl) ?_
      refine va_get (C := RX7) (T := TX7) (N := 28) (own := RX7) (v := .int (F_45 8)) hx hb ht inlX7 hown hK hP 0 rfl rfl 8 (Nat.le_of_ble_eq_true rfl) (ht _ mw_12_4) (fun _ h9 => h9) rfl dX7_placeHere_72 ?_
      refine C_vi (wr := []) X hP hD hS [.int (F_45 8)] [.ref o] (w_X7_byteAt l D cI cZ cR adK adV _ o q F_45 A_45 (F_45 8) _ h) cal_X7_byteAt mw_12_14 rfl [0, 1, 2, 3, 4, 5, 6, 7, 8, 9, 10, 11, 12, 13, 14, 15] [] [0, 1, 2, 3, 4, 5, 6, 7, 8, 9, 10, 11, 12, 13, 14, 15] (fun u => (wX7 cI cZ o q F_45 A_45 : va_W)) rfl rfl (fun _ => rfl) rfl 0 rfl rfl ⟨rfl, rfl⟩ ⟨Nat.le_of_ble_eq_true rfl, Nat.le_of_ble_eq_true rfl⟩ hl.1 rfl (Nat.le_of_ble_eq_true rfl) ⟨Nat.zero_le _, Nat.zero_le _⟩ dX7_placeHere_75 (fun r75 u H locs h hP hD hS => ?_)
      refine lv_bipush (v := 105) hx hb dX7_placeHere_78 (by decide) ?_
      refine lv_icmp_ne (tgt := 102) hx hb dX7_placeHere_80 (by decide) (fun c80 => ?_) (fun c80 => ?_)
      · replace h := h.1 c80
        exact b_X7_placeHere_J102 F_45 A_45 x1 x2 X ret  _ _ _ h hP hD hS (lv_sub hl [0, 1, 2] rfl)
      · replace h := h.2 c80
        refine lv_aload_n hx hb dX7_placeHere_83 rfl (lv_at hl 0 rfl) ?_
        refine lv_aload_n hx hb dX7_placeHere_84 rfl (lv_at hl 0 rfl) ?_
        refine va_get (C := RX7) (T := TX7) (N := 28) (own := RX7) (v := .int (F_45 8)) hx hb ht inlX7 hown hK hP 0 rfl rfl 8 (Nat.le_of_ble_eq_true rfl) (ht _ mw_12_4) (fun _ h9 => h9) rfl dX7_placeHere_85 ?_
        refine lv_iconst (v := 1) hx hb dX7_placeHere_88 (by decide) ?_
        refine lv_iadd hx hb dX7_placeHere_89 ?_
        refine C_vi (wr := []) X hP hD hS [.int ((F_45 8) + (1 : Int32))] [.ref o] (w_X7_byteAt l D cI cZ cR adK adV _ o q F_45 A_45 ((F_45 8) + (1 : Int32)) _ h) cal_X7_byteAt mw_12_14 rfl [0, 1, 2, 3, 4, 5, 6, 7, 8, 9, 10, 11, 12, 13, 14, 15] [] [0, 1, 2, 3, 4, 5, 6, 7, 8, 9, 10, 11, 12, 13, 14, 15] (fun u => (wX7 cI cZ o q F_45 A_45 : va_W)) rfl rfl (fun _ => rfl) rfl 0 rfl rfl ⟨rfl, rfl⟩ ⟨Nat.le_of_ble_eq_true rfl, Nat.le_of_ble_eq_true rfl⟩ hl.1 rfl (Nat.le_of_ble_eq_true rfl) ⟨Nat.zero_le _, Nat.zero_le _⟩ dX7_placeHere_90 (fun r90 u H locs h hP hD hS => ?_)
        refine lv_bipush (v := 115) hx hb dX7_placeHere_93 (by decide) ?_
        refine lv_icmp_ne (tgt := 102) hx hb dX7_placeHere_95 (by decide) (fun c95 => ?_) (fun c95 => ?_)
        · replace h := h.1 c95
          exact b_X7_placeHere_J102 F_45 A_45 x1 x2 X ret  _ _ _ h hP hD hS (lv_sub hl [0, 1, 2] rfl)
        · replace h := h.2 c95
          refine lv_iconst (v := 1) hx hb dX7_placeHere_98 (by decide) ?_
          refine lv_goto (tgt := 103) hx hb dX7_placeHere_99 (by decide) ?_
          exact b_X7_placeHere_J103 F_45 A_45 x1 x2 (1 : Int32) X ret  _ _ _ h hP hD hS (lv_sub hl [0, 1, 2] rfl)
def p_X7_placeHere_J44 (F : tF) (A : tA) (K : tF → tA → Prop) (x1 : Int32) (x2 : Int32) : Prop := (p_X7_placeHere_J45 F A K x1 x2 (0 : Int32))
set_option maxHeartbeats 4000000 in
set_option maxRecDepth 100000 in
theorem b_X7_placeHere_J44 {p : Program} {l : Launch} {e : Env} {s : State} {m : MethodId} {args : Array Value} {below : List Frame} {meth : Method} {c : Code} {Q : State → Prop} {D : va_G} {cI cZ cR : ClassId} {adK adV : Nat → Nat} {A9 : Nat → Prop} {o : Nat} {q : Nat → Nat} {K : tF → tA → Prop}  (F : tF) (A : tA) (x1 : Int32) (x2 : Int32) (X : CX p s m args c yX7_placeHere.cls cX7_placeHere 3 D cI cZ cR adK adV A9) (ret : RTv p l e (rmN 4 86) s m args below meth c Q cX7_placeHere D A9 (fun (u : (tF × tA)) => K u.1 u.2) (fun (u : (tF × tA)) => (wX7 cI cZ o q u.1 u.2 : va_W)))  (H : Heap) (locs : List Loc) (ls : Array Slot) (h : p_X7_placeHere_J44 F A K x1 x2) (hP : va_P D vwCl (wX7 cI cZ o q F A : va_W) H) (hD : va_D A9 (wX7 cI cZ o q F A : va_W)) (hS : va_S A9 s.heap H locs) (hl : lv_has ls 3 [(0, .ref o), (1, .int x1), (2, .int x2)]) : W p l e (rmN 4 86) s m args below meth c H locs 0 0 Q (F0 m 44 ls [.ref o]) := by
  obtain ⟨hx, hb, hml, ht, hown, hK, hA, hE⟩ := id X
  unfold p_X7_placeHere_J44 at h
  refine lv_iconst (v := 0) hx hb dX7_placeHere_44 (by decide) ?_
  exact b_X7_placeHere_J45 F A x1 x2 (0 : Int32) X ret  _ _ _ h hP hD hS (lv_sub hl [0, 1, 2] rfl)
def p_X7_placeHere (F : tF) (A : tA) (x1 : Int32) (K : tF → tA → Prop) : Prop := (p_X7_nextToken F A (fun F_1 A_1 => (∀ y8 : Int32, y8 = (F_1 10) → ((¬ (F_1 7) = (2 : Int32) → (p_X7_placeHere_J44 F_1 A_1 K x1 y8)) ∧ ((F_1 7) = (2 : Int32) → (((3 : Int32) < ((F_1 9) - (F_1 8)) → (p_X7_placeHere_J44 F_1 A_1 K x1 y8)) ∧ (¬ (3 : Int32) < ((F_1 9) - (F_1 8)) → (((6 : Int32) ≤ (F_1 10) → (p_X7_placeHere_J44 F_1 A_1 K x1 y8)) ∧ (¬ (6 : Int32) ≤ (F_1 10) → (p_X7_placeHere_J45 F_1 A_1 K x1 y8 (1 : Int32)))))))))))
set_option maxHeartbeats 4000000 in
set_option maxRecDepth 100000 in
theorem w_X7_placeHere (l : Launch) (D : va_G) (cI cZ cR : ClassId) (adK adV : Nat → Nat) (sz : Nat) (o : Nat) (q : Nat → Nat) (F : tF) (A : tA) (x1 : Int32) (K : tF → tA → Prop) (h : p_X7_placeHere F A x1 K) : MV l D cI cZ cR adK adV yX7_placeHere cX7_placeHere 3 none (rmN 4 86) [.ref o, .int x1] (wX7 cI cZ o q F A : va_W) sz (fun (u : (tF × tA)) => K u.1 u.2) (fun (u : (tF × tA)) => (wX7 cI cZ o q u.1 u.2 : va_W)) := by
  refine M_v (by decide +kernel) (Nat.le_of_ble_eq_true rfl) ?_
  intro p e s m args below meth c Q A9 ls X ret hP hD hS hl
  obtain ⟨hx, hb, hml, ht, hown, hK, hA, hE⟩ := id X
  have hl : lv_has ls 3 [(0, .ref o), (1, .int x1)] := hl
  unfold p_X7_placeHere at h
  refine lv_aload_n hx hb dX7_placeHere_0 rfl (lv_at hl 0 rfl) ?_
  refine C_vv (wr := []) X hP hD hS [] [] (w_X7_nextToken l D cI cZ cR adK adV _ o q F A _ h) cal_X7_nextToken mw_12_9 rfl [0, 1, 2, 3, 4, 5, 6, 7, 8, 9, 10, 11, 12, 13, 14, 15] [] [0, 1, 2, 3, 4, 5, 6, 7, 8, 9, 10, 11, 12, 13, 14, 15] (fun u => (wX7 cI cZ o q u.1 u.2 : va_W)) rfl rfl (fun _ => rfl) rfl 0 rfl rfl ⟨rfl, rfl⟩ ⟨Nat.le_of_ble_eq_true rfl, Nat.le_of_ble_eq_true rfl⟩ hl.1 rfl (Nat.le_of_ble_eq_true rfl) ⟨Nat.zero_le _, Nat.zero_le _⟩ dX7_placeHere_1 (fun u H locs h hP hD hS => ?_)
  obtain ⟨F_1, A_1⟩ := u
  try dsimp only at h
  have hP : va_P D vwCl (wX7 cI cZ o q F_1 A_1 : va_W) H := hP
  have hD : va_D A9 (wX7 cI cZ o q F_1 A_1 : va_W) := hD
  refine lv_aload_n hx hb dX7_placeHere_4 rfl (lv_at hl 0 rfl) ?_
  refine va_get (C := RX7) (T := TX7) (N := 28) (own := RX7) (v := .int (F_1 10)) hx hb ht inlX7 hown hK hP 0 rfl rfl 10 (Nat.le_of_ble_eq_true rfl) (ht _ mw_12_13) (fun _ h9 => h9) rfl dX7_placeHere_5 ?_
  refine lv_topi (fun y8 ey8 => ?_)
  replace h := h y8 ey8
  refine lv_istore_n (lv' := [(2, .int y8), (0, .ref o), (1, .int x1)]) hx hb dX7_placeHere_8 rfl hl (by decide) rfl (fun ls hl => ?_)
  refine lv_aload_n hx hb dX7_placeHere_9 rfl (lv_at hl 1 rfl) ?_
  refine lv_aload_n hx hb dX7_placeHere_10 rfl (lv_at hl 1 rfl) ?_
  refine va_get (C := RX7) (T := TX7) (N := 28) (own := RX7) (v := .int (F_1 7)) hx hb ht inlX7 hown hK hP 0 rfl rfl 7 (Nat.le_of_ble_eq_true rfl) (ht _ mw_12_3) (fun _ h9 => h9) rfl dX7_placeHere_11 ?_
  refine lv_iconst (v := 2) hx hb dX7_placeHere_14 (by decide) ?_
  refine lv_icmp_ne (tgt := 44) hx hb dX7_placeHere_15 (by decide) (fun c15 => ?_) (fun c15 => ?_)
  · replace h := h.1 c15
    exact b_X7_placeHere_J44 F_1 A_1 x1 y8 X ret  _ _ _ h hP hD hS (lv_sub hl [1, 2, 0] rfl)
  · replace h := h.2 c15
    refine lv_aload_n hx hb dX7_placeHere_18 rfl (lv_at hl 1 rfl) ?_
    refine va_get (C := RX7) (T := TX7) (N := 28) (own := RX7) (v := .int (F_1 9)) hx hb ht inlX7 hown hK hP 0 rfl rfl 9 (Nat.le_of_ble_eq_true rfl) (ht _ mw_12_1) (fun _ h9 => h9) rfl dX7_placeHere_19 ?_
    refine lv_aload_n hx hb dX7_placeHere_22 rfl (lv_at hl 1 rfl) ?_
    refine va_get (C := RX7) (T := TX7) (N := 28) (own := RX7) (v := .int (F_1 8)) hx hb ht inlX7 hown hK hP 0 rfl rfl 8 (Nat.le_of_ble_eq_true rfl) (ht _ mw_12_4) (fun _ h9 => h9) rfl dX7_placeHere_23 ?_
    refine lv_isub hx hb dX7_placeHere_26 ?_
    refine lv_iconst (v := 3) hx hb dX7_placeHere_27 (by decide) ?_
    refine lv_icmp_gt (tgt := 44) hx hb dX7_placeHere_28 (by decide) (fun c28 => ?_) (fun c28 => ?_)
    · replace h := h.1 c28
      exact b_X7_placeHere_J44 F_1 A_1 x1 y8 X ret  _ _ _ h hP hD hS (lv_sub hl [1, 2, 0] rfl)
    · replace h := h.2 c28
      refine lv_aload_n hx hb dX7_placeHere_31 rfl (lv_at hl 1 rfl) ?_
      refine va_get (C := RX7) (T := TX7) (N := 28) (own := RX7) (v := .int (F_1 10)) hx hb ht inlX7 hown hK hP 0 rfl rfl 10 (Nat.le_of_ble_eq_true rfl) (ht _ mw_12_13) (fun _ h9 => h9) rfl dX7_placeHere_32 ?_
      refine lv_bipush (v := 6) hx hb dX7_placeHere_35 (by decide) ?_
      refine lv_icmp_ge (tgt := 44) hx hb dX7_placeHere_37 (by decide) (fun c37 => ?_) (fun c37 => ?_)
      · replace h := h.1 c37
        exact b_X7_placeHere_J44 F_1 A_1 x1 y8 X ret  _ _ _ h hP hD hS (lv_sub hl [1, 2, 0] rfl)
      · replace h := h.2 c37
        refine lv_iconst (v := 1) hx hb dX7_placeHere_40 (by decide) ?_
        refine lv_goto (tgt := 45) hx hb dX7_placeHere_41 (by decide) ?_
        exact b_X7_placeHere_J45 F_1 A_1 x1 y8 (1 : Int32) X ret  _ _ _ h hP hD hS (lv_sub hl [1, 2, 0] rfl)
theorem dX7_callHere_0 : decode cX7_callHere 0 = .ok (.aload_n 0, 1) := by decide +kernel
theorem dX7_callHere_1 : decode cX7_callHere 1 = .ok (.invokevirtual 98, 3) := by decide +kernel
theorem dX7_callHere_4 : decode cX7_callHere 4 = .ok (.aload_n 0, 1) := by decide +kernel
theorem dX7_callHere_5 : decode cX7_callHere 5 = .ok (.getfield 91, 3) := by decide +kernel
theorem dX7_callHere_8 : decode cX7_callHere 8 = .ok (.istore_n 1, 1) := by decide +kernel
theorem dX7_callHere_9 : decode cX7_callHere 9 = .ok (.aload_n 0, 1) := by decide +kernel
theorem dX7_callHere_10 : decode cX7_callHere 10 = .ok (.aload_n 0, 1) := by decide +kernel
theorem dX7_callHere_11 : decode cX7_callHere 11 = .ok (.getfield 88, 3) := by decide +kernel
theorem dX7_callHere_14 : decode cX7_callHere 14 = .ok (.iconst 2, 1) := by decide +kernel
theorem dX7_callHere_15 : decode cX7_callHere 15 = .ok (.if_icmp .ne 29, 3) := by decide +kernel
theorem dX7_callHere_18 : decode cX7_callHere 18 = .ok (.aload_n 0, 1) := by decide +kernel
theorem dX7_callHere_19 : decode cX7_callHere 19 = .ok (.getfield 71, 3) := by decide +kernel
theorem dX7_callHere_22 : decode cX7_callHere 22 = .ok (.aload_n 0, 1) := by decide +kernel
theorem dX7_callHere_23 : decode cX7_callHere 23 = .ok (.getfield 74, 3) := by decide +kernel
theorem dX7_callHere_26 : decode cX7_callHere 26 = .ok (.isub, 1) := by decide +kernel
theorem dX7_callHere_27 : decode cX7_callHere 27 = .ok (.iconst 3, 1) := by decide +kernel
theorem dX7_callHere_28 : decode cX7_callHere 28 = .ok (.if_icmp .gt 16, 3) := by decide +kernel
theorem dX7_callHere_31 : decode cX7_callHere 31 = .ok (.aload_n 0, 1) := by decide +kernel
theorem dX7_callHere_32 : decode cX7_callHere 32 = .ok (.getfield 91, 3) := by decide +kernel
theorem dX7_callHere_35 : decode cX7_callHere 35 = .ok (.bipush 6, 2) := by decide +kernel
theorem dX7_callHere_37 : decode cX7_callHere 37 = .ok (.if_icmp .ge 7, 3) := by decide +kernel
theorem dX7_callHere_40 : decode cX7_callHere 40 = .ok (.iconst 1, 1) := by decide +kernel
theorem dX7_callHere_41 : decode cX7_callHere 41 = .ok (.goto 4, 3) := by decide +kernel
theorem dX7_callHere_44 : decode cX7_callHere 44 = .ok (.iconst 0, 1) := by decide +kernel
theorem dX7_callHere_45 : decode cX7_callHere 45 = .ok (.invokevirtual 112, 3) := by decide +kernel
theorem dX7_callHere_48 : decode cX7_callHere 48 = .ok (.aload_n 0, 1) := by decide +kernel
theorem dX7_callHere_49 : decode cX7_callHere 49 = .ok (.getfield 7, 3) := by decide +kernel
theorem dX7_callHere_52 : decode cX7_callHere 52 = .ok (.iconst 4, 1) := by decide +kernel
theorem dX7_callHere_53 : decode cX7_callHere 53 = .ok (.aload_n 0, 1) := by decide +kernel
theorem dX7_callHere_54 : decode cX7_callHere 54 = .ok (.getfield 94, 3) := by decide +kernel
theorem dX7_callHere_57 : decode cX7_callHere 57 = .ok (.ifCond .eq 12, 3) := by decide +kernel
theorem dX7_callHere_60 : decode cX7_callHere 60 = .ok (.aload_n 0, 1) := by decide +kernel
theorem dX7_callHere_61 : decode cX7_callHere 61 = .ok (.getfield 7, 3) := by decide +kernel
theorem dX7_callHere_64 : decode cX7_callHere 64 = .ok (.iconst 4, 1) := by decide +kernel
theorem dX7_callHere_65 : decode cX7_callHere 65 = .ok (.iaload, 1) := by decide +kernel
theorem dX7_callHere_66 : decode cX7_callHere 66 = .ok (.goto 6, 3) := by decide +kernel
theorem dX7_callHere_69 : decode cX7_callHere 69 = .ok (.iconst 1, 1) := by decide +kernel
theorem dX7_callHere_70 : decode cX7_callHere 70 = .ok (.iload_n 1, 1) := by decide +kernel
theorem dX7_callHere_71 : decode cX7_callHere 71 = .ok (.iadd, 1) := by decide +kernel
theorem dX7_callHere_72 : decode cX7_callHere 72 = .ok (.iastore, 1) := by decide +kernel
theorem dX7_callHere_73 : decode cX7_callHere 73 = .ok (.return_, 1) := by decide +kernel
def p_X7_callHere_J45 (F : tF) (A : tA) (K : tF → tA → Prop) (x1 : Int32) (s0 : Int32) : Prop := (p_X7_needs F A s0 (fun F_45 A_45 => (((F_45 11) = 0 → (∀ f_72 : tF, f_72 = (upd (A_45 0) 4 ((1 : Int32) + x1)) → (K F_45 (va_up A_45 0 f_72)))) ∧ (¬ (F_45 11) = 0 → (∀ f_72 : tF, f_72 = (upd (A_45 0) 4 ((A_45 0) 4)) → (K F_45 (va_up A_45 0 f_72)))))))
set_option maxHeartbeats 4000000 in
set_option maxRecDepth 100000 in
theorem b_X7_callHere_J45 {p : Program} {l : Launch} {e : Env} {s : State} {m : MethodId} {args : Array Value} {below : List Frame} {meth : Method} {c : Code} {Q : State → Prop} {D : va_G} {cI cZ cR : ClassId} {adK adV : Nat → Nat} {A9 : Nat → Prop} {o : Nat} {q : Nat → Nat} {K : tF → tA → Prop}  (F : tF) (A : tA) (x1 : Int32) (s0 : Int32) (X : CX p s m args c yX7_callHere.cls cX7_callHere 2 D cI cZ cR adK adV A9) (ret : RTv p l e (rmN 3 63) s m args below meth c Q cX7_callHere D A9 (fun (u : (tF × tA)) => K u.1 u.2) (fun (u : (tF × tA)) => (wX7 cI cZ o q u.1 u.2 : va_W)))  (H : Heap) (locs : List Loc) (ls : Array Slot) (h : p_X7_callHere_J45 F A K x1 s0) (hP : va_P D vwCl (wX7 cI cZ o q F A : va_W) H) (hD : va_D A9 (wX7 cI cZ o q F A : va_W)) (hS : va_S A9 s.heap H locs) (hl : lv_has ls 2 [(0, .ref o), (1, .int x1)]) : W p l e (rmN 3 63) s m args below meth c H locs 0 0 Q (F0 m 45 ls [.int s0, .ref o]) := by
  obtain ⟨hx, hb, hml, ht, hown, hK, hA, hE⟩ := id X
  unfold p_X7_callHere_J45 at h
  refine C_vv (wr := []) X hP hD hS [.int s0] [] (w_X7_needs l D cI cZ cR adK adV _ o q F A s0 _ h) cal_X7_needs mw_14_8 rfl [0, 1, 2, 3, 4, 5, 6, 7, 8, 9, 10, 11, 12, 13, 14, 15] [] [0, 1, 2, 3, 4, 5, 6, 7, 8, 9, 10, 11, 12, 13, 14, 15] (fun u => (wX7 cI cZ o q u.1 u.2 : va_W)) rfl rfl (fun _ => rfl) rfl 0 rfl rfl ⟨rfl, rfl⟩ ⟨Nat.le_of_ble_eq_true rfl, Nat.le_of_ble_eq_true rfl⟩ hl.1 rfl (Nat.le_of_ble_eq_true rfl) ⟨Nat.zero_le _, Nat.zero_le _⟩ dX7_callHere_45 (fun u H locs h hP hD hS => ?_)
  obtain ⟨F_45, A_45⟩ := u
  try dsimp only at h
  have hP : va_P D vwCl (wX7 cI cZ o q F_45 A_45 : va_W) H := hP
  have hD : va_D A9 (wX7 cI cZ o q F_45 A_45 : va_W) := hD
  refine lv_aload_n hx hb dX7_callHere_48 rfl (lv_at hl 0 rfl) ?_
  refine va_get (C := RX7) (T := TX7) (N := 28) (own := RX7) (v := .ref (q 0)) hx hb ht inlX7 hown hK hP 0 rfl rfl 0 (Nat.le_of_ble_eq_true rfl) (ht _ mw_5_7) (fun _ h9 => h9) rfl dX7_callHere_49 ?_
  refine lv_iconst (v := 4) hx hb dX7_callHere_52 (by decide) ?_
  refine lv_aload_n hx hb dX7_callHere_53 rfl (lv_at hl 0 rfl) ?_
  refine va_get (C := RX7) (T := TX7) (N := 28) (own := RX7) (v := .int (F_45 11)) hx hb ht inlX7 hown hK hP 0 rfl rfl 11 (Nat.le_of_ble_eq_true rfl) (ht _ mw_12_2) (fun _ h9 => h9) rfl dX7_callHere_54 ?_
  refine lv_if_eq (tgt := 69) hx hb dX7_callHere_57 (by decide) (fun c57 => ?_) (fun c57 => ?_)
  · replace h := h.1 c57
    refine lv_iconst (v := 1) hx hb dX7_callHere_69 (by decide) ?_
    refine lv_iload_n hx hb dX7_callHere_70 rfl (lv_at hl 1 rfl) ?_
    refine lv_iadd hx hb dX7_callHere_71 ?_
    obtain ⟨f_72, ef_72⟩ : ∃ z : tF, z = (upd (A_45 0) 4 ((1 : Int32) + x1)) := ⟨_, rfl⟩
    replace h := h f_72 ef_72
    refine g_iast (f := (A_45 0)) (k := 4) hx hb hK hP hD hS 1 0 rfl rfl (vp_in_lit rfl : vp_in (4 : Int32) 53) (by decide) ef_72 dX7_callHere_72 (fun H locs hP hD hS => ?_)
    have hP : va_P D vwCl (wX7 cI cZ o q F_45 (va_up A_45 0 f_72) : va_W) H := hP
    have hD : va_D A9 (wX7 cI cZ o q F_45 (va_up A_45 0 f_72) : va_W) := hD
    exact ret (F_45, (va_up A_45 0 f_72)) _ _ _ _ dX7_callHere_73 h hP hD hS
  · replace h := h.2 c57
    refine lv_aload_n hx hb dX7_callHere_60 rfl (lv_at hl 0 rfl) ?_
    refine va_get (C := RX7) (T := TX7) (N := 28) (own := RX7) (v := .ref (q 0)) hx hb ht inlX7 hown hK hP 0 rfl rfl 0 (Nat.le_of_ble_eq_true rfl) (ht _ mw_5_7) (fun _ h9 => h9) rfl dX7_callHere_61 ?_
    refine lv_iconst (v := 4) hx hb dX7_callHere_64 (by decide) ?_
    refine g_iald (f := (A_45 0)) (k := 4) hx hb hK hP 1 0 rfl rfl (vp_in_lit rfl : vp_in (4 : Int32) 53) (by decide) dX7_callHere_65 ?_
    refine lv_goto (tgt := 72) hx hb dX7_callHere_66 (by decide) ?_
    obtain ⟨f_72, ef_72⟩ : ∃ z : tF, z = (upd (A_45 0) 4 ((A_45 0) 4)) := ⟨_, rfl⟩
    replace h := h f_72 ef_72
    refine g_iast (f := (A_45 0)) (k := 4) hx hb hK hP hD hS 1 0 rfl rfl (vp_in_lit rfl : vp_in (4 : Int32) 53) (by decide) ef_72 dX7_callHere_72 (fun H locs hP hD hS => ?_)
    have hP : va_P D vwCl (wX7 cI cZ o q F_45 (va_up A_45 0 f_72) : va_W) H := hP
    have hD : va_D A9 (wX7 cI cZ o q F_45 (va_up A_45 0 f_72) : va_W) := hD
    exact ret (F_45, (va_up A_45 0 f_72)) _ _ _ _ dX7_callHere_73 h hP hD hS
def p_X7_callHere_J44 (F : tF) (A : tA) (K : tF → tA → Prop) (x1 : Int32) : Prop := (p_X7_callHere_J45 F A K x1 (0 : Int32))
set_option maxHeartbeats 4000000 in
set_option maxRecDepth 100000 in
theorem b_X7_callHere_J44 {p : Program} {l : Launch} {e : Env} {s : State} {m : MethodId} {args : Array Value} {below : List Frame} {meth : Method} {c : Code} {Q : State → Prop} {D : va_G} {cI cZ cR : ClassId} {adK adV : Nat → Nat} {A9 : Nat → Prop} {o : Nat} {q : Nat → Nat} {K : tF → tA → Prop}  (F : tF) (A : tA) (x1 : Int32) (X : CX p s m args c yX7_callHere.cls cX7_callHere 2 D cI cZ cR adK adV A9) (ret : RTv p l e (rmN 3 63) s m args below meth c Q cX7_callHere D A9 (fun (u : (tF × tA)) => K u.1 u.2) (fun (u : (tF × tA)) => (wX7 cI cZ o q u.1 u.2 : va_W)))  (H : Heap) (locs : List Loc) (ls : Array Slot) (h : p_X7_callHere_J44 F A K x1) (hP : va_P D vwCl (wX7 cI cZ o q F A : va_W) H) (hD : va_D A9 (wX7 cI cZ o q F A : va_W)) (hS : va_S A9 s.heap H locs) (hl : lv_has ls 2 [(0, .ref o), (1, .int x1)]) : W p l e (rmN 3 63) s m args below meth c H locs 0 0 Q (F0 m 44 ls [.ref o]) := by
  obtain ⟨hx, hb, hml, ht, hown, hK, hA, hE⟩ := id X
  unfold p_X7_callHere_J44 at h
  refine lv_iconst (v := 0) hx hb dX7_callHere_44 (by decide) ?_
  exact b_X7_callHere_J45 F A x1 (0 : Int32) X ret  _ _ _ h hP hD hS (lv_sub hl [0, 1] rfl)
def p_X7_callHere (F : tF) (A : tA) (K : tF → tA → Prop) : Prop := (p_X7_nextToken F A (fun F_1 A_1 => (∀ y8 : Int32, y8 = (F_1 10) → ((¬ (F_1 7) = (2 : Int32) → (p_X7_callHere_J44 F_1 A_1 K y8)) ∧ ((F_1 7) = (2 : Int32) → (((3 : Int32) < ((F_1 9) - (F_1 8)) → (p_X7_callHere_J44 F_1 A_1 K y8)) ∧ (¬ (3 : Int32) < ((F_1 9) - (F_1 8)) → (((6 : Int32) ≤ (F_1 10) → (p_X7_callHere_J44 F_1 A_1 K y8)) ∧ (¬ (6 : Int32) ≤ (F_1 10) → (p_X7_callHere_J45 F_1 A_1 K y8 (1 : Int32)))))))))))
set_option maxHeartbeats 4000000 in
set_option maxRecDepth 100000 in
theorem w_X7_callHere (l : Launch) (D : va_G) (cI cZ cR : ClassId) (adK adV : Nat → Nat) (sz : Nat) (o : Nat) (q : Nat → Nat) (F : tF) (A : tA) (K : tF → tA → Prop) (h : p_X7_callHere F A K) : MV l D cI cZ cR adK adV yX7_callHere cX7_callHere 2 none (rmN 3 63) [.ref o] (wX7 cI cZ o q F A : va_W) sz (fun (u : (tF × tA)) => K u.1 u.2) (fun (u : (tF × tA)) => (wX7 cI cZ o q u.1 u.2 : va_W)) := by
  refine M_v (by decide +kernel) (Nat.le_of_ble_eq_true rfl) ?_
  intro p e s m args below meth c Q A9 ls X ret hP hD hS hl
  obtain ⟨hx, hb, hml, ht, hown, hK, hA, hE⟩ := id X
  have hl : lv_has ls 2 [(0, .ref o)] := hl
  unfold p_X7_callHere at h
  refine lv_aload_n hx hb dX7_callHere_0 rfl (lv_at hl 0 rfl) ?_
  refine C_vv (wr := []) X hP hD hS [] [] (w_X7_nextToken l D cI cZ cR adK adV _ o q F A _ h) cal_X7_nextToken mw_12_9 rfl [0, 1, 2, 3, 4, 5, 6, 7, 8, 9, 10, 11, 12, 13, 14, 15] [] [0, 1, 2, 3, 4, 5, 6, 7, 8, 9, 10, 11, 12, 13, 14, 15] (fun u => (wX7 cI cZ o q u.1 u.2 : va_W)) rfl rfl (fun _ => rfl) rfl 0 rfl rfl ⟨rfl, rfl⟩ ⟨Nat.le_of_ble_eq_true rfl, Nat.le_of_ble_eq_true rfl⟩ hl.1 rfl (Nat.le_of_ble_eq_true rfl) ⟨Nat.zero_le _, Nat.zero_le _⟩ dX7_callHere_1 (fun u H locs h hP hD hS => ?_)
  obtain ⟨F_1, A_1⟩ := u
  try dsimp only at h
  have hP : va_P D vwCl (wX7 cI cZ o q F_1 A_1 : va_W) H := hP
  have hD : va_D A9 (wX7 cI cZ o q F_1 A_1 : va_W) := hD
  refine lv_aload_n hx hb dX7_callHere_4 rfl (lv_at hl 0 rfl) ?_
  refine va_get (C := RX7) (T := TX7) (N := 28) (own := RX7) (v := .int (F_1 10)) hx hb ht inlX7 hown hK hP 0 rfl rfl 10 (Nat.le_of_ble_eq_true rfl) (ht _ mw_12_13) (fun _ h9 => h9) rfl dX7_callHere_5 ?_
  refine lv_topi (fun y8 ey8 => ?_)
  replace h := h y8 ey8
  refine lv_istore_n (lv' := [(1, .int y8), (0, .ref o)]) hx hb dX7_callHere_8 rfl hl (by decide) rfl (fun ls hl => ?_)
  refine lv_aload_n hx hb dX7_callHere_9 rfl (lv_at hl 1 rfl) ?_
  refine lv_aload_n hx hb dX7_callHere_10 rfl (lv_at hl 1 rfl) ?_
  refine va_get (C := RX7) (T := TX7) (N := 28) (own := RX7) (v := .int (F_1 7)) hx hb ht inlX7 hown hK hP 0 rfl rfl 7 (Nat.le_of_ble_eq_true rfl) (ht _ mw_12_3) (fun _ h9 => h9) rfl dX7_callHere_11 ?_
  refine lv_iconst (v := 2) hx hb dX7_callHere_14 (by decide) ?_
  refine lv_icmp_ne (tgt := 44) hx hb dX7_callHere_15 (by decide) (fun c15 => ?_) (fun c15 => ?_)
  · replace h := h.1 c15
    exact b_X7_callHere_J44 F_1 A_1 y8 X ret  _ _ _ h hP hD hS (lv_sub hl [1, 0] rfl)
  · replace h := h.2 c15
    refine lv_aload_n hx hb dX7_callHere_18 rfl (lv_at hl 1 rfl) ?_
    refine va_get (C := RX7) (T := TX7) (N := 28) (own := RX7) (v := .int (F_1 9)) hx hb ht inlX7 hown hK hP 0 rfl rfl 9 (Nat.le_of_ble_eq_true rfl) (ht _ mw_12_1) (fun _ h9 => h9) rfl dX7_callHere_19 ?_
    refine lv_aload_n hx hb dX7_callHere_22 rfl (lv_at hl 1 rfl) ?_
    refine va_get (C := RX7) (T := TX7) (N := 28) (own := RX7) (v := .int (F_1 8)) hx hb ht inlX7 hown hK hP 0 rfl rfl 8 (Nat.le_of_ble_eq_true rfl) (ht _ mw_12_4) (fun _ h9 => h9) rfl dX7_callHere_23 ?_
    refine lv_isub hx hb dX7_callHere_26 ?_
    refine lv_iconst (v := 3) hx hb dX7_callHere_27 (by decide) ?_
    refine lv_icmp_gt (tgt := 44) hx hb dX7_callHere_28 (by decide) (fun c28 => ?_) (fun c28 => ?_)
    · replace h := h.1 c28
      exact b_X7_callHere_J44 F_1 A_1 y8 X ret  _ _ _ h hP hD hS (lv_sub hl [1, 0] rfl)
    · replace h := h.2 c28
      refine lv_aload_n hx hb dX7_callHere_31 rfl (lv_at hl 1 rfl) ?_
      refine va_get (C := RX7) (T := TX7) (N := 28) (own := RX7) (v := .int (F_1 10)) hx hb ht inlX7 hown hK hP 0 rfl rfl 10 (Nat.le_of_ble_eq_true rfl) (ht _ mw_12_13) (fun _ h9 => h9) rfl dX7_callHere_32 ?_
      refine lv_bipush (v := 6) hx hb dX7_callHere_35 (by decide) ?_
      refine lv_icmp_ge (tgt := 44) hx hb dX7_callHere_37 (by decide) (fun c37 => ?_) (fun c37 => ?_)
      · replace h := h.1 c37
        exact b_X7_callHere_J44 F_1 A_1 y8 X ret  _ _ _ h hP hD hS (lv_sub hl [1, 0] rfl)
      · replace h := h.2 c37
        refine lv_iconst (v := 1) hx hb dX7_callHere_40 (by decide) ?_
        refine lv_goto (tgt := 45) hx hb dX7_callHere_41 (by decide) ?_
        exact b_X7_callHere_J45 F_1 A_1 y8 (1 : Int32) X ret  _ _ _ h hP hD hS (lv_sub hl [1, 0] rfl)
theorem cal_X7_isFive : CalV yX7_isFive cX7_isFive 6 (some .boolean) 5 := ⟨mw_14_3, mw_1_5, mw_14_1, mw_14_2, ⟨by decide +kernel, by decide +kernel, by decide +kernel⟩⟩
theorem dX7_ownHere_0 : decode cX7_ownHere 0 = .ok (.aload_n 0, 1) := by decide +kernel
theorem dX7_ownHere_1 : decode cX7_ownHere 1 = .ok (.bipush 102, 2) := by decide +kernel
theorem dX7_ownHere_3 : decode cX7_ownHere 3 = .ok (.bipush 108, 2) := by decide +kernel
theorem dX7_ownHere_5 : decode cX7_ownHere 5 = .ok (.bipush 111, 2) := by decide +kernel
theorem dX7_ownHere_7 : decode cX7_ownHere 7 = .ok (.bipush 99, 2) := by decide +kernel
theorem dX7_ownHere_9 : decode cX7_ownHere 9 = .ok (.bipush 107, 2) := by decide +kernel
theorem dX7_ownHere_11 : decode cX7_ownHere 11 = .ok (.invokevirtual 124, 3) := by decide +kernel
theorem dX7_ownHere_14 : decode cX7_ownHere 14 = .ok (.ifCond .eq 5, 3) := by decide +kernel
theorem dX7_ownHere_17 : decode cX7_ownHere 17 = .ok (.iconst 3, 1) := by decide +kernel
theorem dX7_ownHere_18 : decode cX7_ownHere 18 = .ok (.ireturn, 1) := by decide +kernel
theorem dX7_ownHere_19 : decode cX7_ownHere 19 = .ok (.aload_n 0, 1) := by decide +kernel
theorem dX7_ownHere_20 : decode cX7_ownHere 20 = .ok (.bipush 114, 2) := by decide +kernel
theorem dX7_ownHere_22 : decode cX7_ownHere 22 = .ok (.bipush 105, 2) := by decide +kernel
theorem dX7_ownHere_24 : decode cX7_ownHere 24 = .ok (.bipush 118, 2) := by decide +kernel
theorem dX7_ownHere_26 : decode cX7_ownHere 26 = .ok (.bipush 101, 2) := by decide +kernel
theorem dX7_ownHere_28 : decode cX7_ownHere 28 = .ok (.bipush 114, 2) := by decide +kernel
theorem dX7_ownHere_30 : decode cX7_ownHere 30 = .ok (.invokevirtual 124, 3) := by decide +kernel
theorem dX7_ownHere_33 : decode cX7_ownHere 33 = .ok (.ifCond .eq 5, 3) := by decide +kernel
theorem dX7_ownHere_36 : decode cX7_ownHere 36 = .ok (.iconst 5, 1) := by decide +kernel
theorem dX7_ownHere_37 : decode cX7_ownHere 37 = .ok (.ireturn, 1) := by decide +kernel
theorem dX7_ownHere_38 : decode cX7_ownHere 38 = .ok (.aload_n 0, 1) := by decide +kernel
theorem dX7_ownHere_39 : decode cX7_ownHere 39 = .ok (.bipush 7, 2) := by decide +kernel
theorem dX7_ownHere_41 : decode cX7_ownHere 41 = .ok (.bipush 119, 2) := by decide +kernel
theorem dX7_ownHere_43 : decode cX7_ownHere 43 = .ok (.bipush 104, 2) := by decide +kernel
theorem dX7_ownHere_45 : decode cX7_ownHere 45 = .ok (.bipush 105, 2) := by decide +kernel
theorem dX7_ownHere_47 : decode cX7_ownHere 47 = .ok (.bipush 101, 2) := by decide +kernel
theorem dX7_ownHere_49 : decode cX7_ownHere 49 = .ok (.invokevirtual 101, 3) := by decide +kernel
theorem dX7_ownHere_52 : decode cX7_ownHere 52 = .ok (.ifCond .eq 20, 3) := by decide +kernel
theorem dX7_ownHere_55 : decode cX7_ownHere 55 = .ok (.aload_n 0, 1) := by decide +kernel
theorem dX7_ownHere_56 : decode cX7_ownHere 56 = .ok (.iconst 3, 1) := by decide +kernel
theorem dX7_ownHere_57 : decode cX7_ownHere 57 = .ok (.bipush 115, 2) := by decide +kernel
theorem dX7_ownHere_59 : decode cX7_ownHere 59 = .ok (.bipush 116, 2) := by decide +kernel
theorem dX7_ownHere_61 : decode cX7_ownHere 61 = .ok (.bipush 108, 2) := by decide +kernel
theorem dX7_ownHere_63 : decode cX7_ownHere 63 = .ok (.invokevirtual 109, 3) := by decide +kernel
theorem dX7_ownHere_66 : decode cX7_ownHere 66 = .ok (.ifCond .eq 6, 3) := by decide +kernel
theorem dX7_ownHere_69 : decode cX7_ownHere 69 = .ok (.bipush 6, 2) := by decide +kernel
theorem dX7_ownHere_71 : decode cX7_ownHere 71 = .ok (.ireturn, 1) := by decide +kernel
theorem dX7_ownHere_72 : decode cX7_ownHere 72 = .ok (.aload_n 0, 1) := by decide +kernel
theorem dX7_ownHere_73 : decode cX7_ownHere 73 = .ok (.bipush 102, 2) := by decide +kernel
theorem dX7_ownHere_75 : decode cX7_ownHere 75 = .ok (.bipush 111, 2) := by decide +kernel
theorem dX7_ownHere_77 : decode cX7_ownHere 77 = .ok (.bipush 111, 2) := by decide +kernel
theorem dX7_ownHere_79 : decode cX7_ownHere 79 = .ok (.bipush 100, 2) := by decide +kernel
theorem dX7_ownHere_81 : decode cX7_ownHere 81 = .ok (.invokevirtual 105, 3) := by decide +kernel
theorem dX7_ownHere_84 : decode cX7_ownHere 84 = .ok (.ifCond .eq 6, 3) := by decide +kernel
theorem dX7_ownHere_87 : decode cX7_ownHere 87 = .ok (.bipush 7, 2) := by decide +kernel
theorem dX7_ownHere_89 : decode cX7_ownHere 89 = .ok (.ireturn, 1) := by decide +kernel
theorem dX7_ownHere_90 : decode cX7_ownHere 90 = .ok (.aload_n 0, 1) := by decide +kernel
theorem dX7_ownHere_91 : decode cX7_ownHere 91 = .ok (.bipush 119, 2) := by decide +kernel
theorem dX7_ownHere_93 : decode cX7_ownHere 93 = .ok (.bipush 114, 2) := by decide +kernel
theorem dX7_ownHere_95 : decode cX7_ownHere 95 = .ok (.bipush 111, 2) := by decide +kernel
theorem dX7_ownHere_97 : decode cX7_ownHere 97 = .ok (.bipush 110, 2) := by decide +kernel
theorem dX7_ownHere_99 : decode cX7_ownHere 99 = .ok (.bipush 103, 2) := by decide +kernel
theorem dX7_ownHere_101 : decode cX7_ownHere 101 = .ok (.invokevirtual 124, 3) := by decide +kernel
theorem dX7_ownHere_104 : decode cX7_ownHere 104 = .ok (.ifCond .eq 8, 3) := by decide +kernel
theorem dX7_ownHere_107 : decode cX7_ownHere 107 = .ok (.bipush 8, 2) := by decide +kernel
theorem dX7_ownHere_109 : decode cX7_ownHere 109 = .ok (.goto 4, 3) := by decide +kernel
theorem dX7_ownHere_112 : decode cX7_ownHere 112 = .ok (.iconst (-1), 1) := by decide +kernel
theorem dX7_ownHere_113 : decode cX7_ownHere 113 = .ok (.ireturn, 1) := by decide +kernel
def p_X7_ownHere_J72 (F : tF) (A : tA) (K : Int32 → Prop)  : Prop := (p_X7_isFour F A (102 : Int32) (111 : Int32) (111 : Int32) (100 : Int32) (fun r81 => ((r81 = 0 → (p_X7_isFive F A (119 : Int32) (114 : Int32) (111 : Int32) (110 : Int32) (103 : Int32) (fun r101 => ((r101 = 0 → (K (-1 : Int32))) ∧ (¬ r101 = 0 → (K (8 : Int32))))))) ∧ (¬ r81 = 0 → (K (7 : Int32))))))
set_option maxHeartbeats 4000000 in
set_option maxRecDepth 100000 in
theorem b_X7_ownHere_J72 {p : Program} {l : Launch} {e : Env} {s : State} {m : MethodId} {args : Array Value} {below : List Frame} {meth : Method} {c : Code} {Q : State → Prop} {D : va_G} {cI cZ cR : ClassId} {adK adV : Nat → Nat} {A9 : Nat → Prop} {o : Nat} {q : Nat → Nat} {K : Int32 → Prop}  (F : tF) (A : tA) (X : CX p s m args c yX7_ownHere.cls cX7_ownHere 1 D cI cZ cR adK adV A9) (ret : RTi p l e (rmN 3 71) s m args below meth c Q cX7_ownHere D A9 (fun (r : Int32) (u : Unit) => K r) (fun (u : Unit) => (wX7 cI cZ o q F A : va_W)))  (H : Heap) (locs : List Loc) (ls : Array Slot) (h : p_X7_ownHere_J72 F A K) (hP : va_P D vwCl (wX7 cI cZ o q F A : va_W) H) (hD : va_D A9 (wX7 cI cZ o q F A : va_W)) (hS : va_S A9 s.heap H locs) (hl : lv_has ls 1 [(0, .ref o)]) : W p l e (rmN 3 71) s m args below meth c H locs 0 0 Q (F0 m 72 ls []) := by
  obtain ⟨hx, hb, hml, ht, hown, hK, hA, hE⟩ := id X
  unfold p_X7_ownHere_J72 at h
  refine lv_aload_n hx hb dX7_ownHere_72 rfl (lv_at hl 0 rfl) ?_
  refine lv_bipush (v := 102) hx hb dX7_ownHere_73 (by decide) ?_
  refine lv_bipush (v := 111) hx hb dX7_ownHere_75 (by decide) ?_
  refine lv_bipush (v := 111) hx hb dX7_ownHere_77 (by decide) ?_
  refine lv_bipush (v := 100) hx hb dX7_ownHere_79 (by decide) ?_
  refine C_vi (wr := []) X hP hD hS [.int (102 : Int32), .int (111 : Int32), .int (111 : Int32), .int (100 : Int32)] [] (w_X7_isFour l D cI cZ cR adK adV _ o q F A (102 : Int32) (111 : Int32) (111 : Int32) (100 : Int32) _ h) cal_X7_isFour mw_13_12 rfl [0, 1, 2, 3, 4, 5, 6, 7, 8, 9, 10, 11, 12, 13, 14, 15] [] [0, 1, 2, 3, 4, 5, 6, 7, 8, 9, 10, 11, 12, 13, 14, 15] (fun u => (wX7 cI cZ o q F A : va_W)) rfl rfl (fun _ => rfl) rfl 0 rfl rfl ⟨rfl, rfl⟩ ⟨Nat.le_of_ble_eq_true rfl, Nat.le_of_ble_eq_true rfl⟩ hl.1 rfl (Nat.le_of_ble_eq_true rfl) ⟨Nat.zero_le _, Nat.zero_le _⟩ dX7_ownHere_81 (fun r81 u H locs h hP hD hS => ?_)
  refine lv_if_eq (tgt := 90) hx hb dX7_ownHere_84 (by decide) (fun c84 => ?_) (fun c84 => ?_)
  · replace h := h.1 c84
    refine lv_aload_n hx hb dX7_ownHere_90 rfl (lv_at hl 0 rfl) ?_
    refine lv_bipush (v := 119) hx hb dX7_ownHere_91 (by decide) ?_
    refine lv_bipush (v := 114) hx hb dX7_ownHere_93 (by decide) ?_
    refine lv_bipush (v := 111) hx hb dX7_ownHere_95 (by decide) ?_
    refine lv_bipush (v := 110) hx hb dX7_ownHere_97 (by decide) ?_
    refine lv_bipush (v := 103) hx hb dX7_ownHere_99 (by decide) ?_
    refine C_vi (wr := []) X hP hD hS [.int (119 : Int32), .int (114 : Int32), .int (111 : Int32), .int (110 : Int32), .int (103 : Int32)] [] (w_X7_isFive l D cI cZ cR adK adV _ o q F A (119 : Int32) (114 : Int32) (111 : Int32) (110 : Int32) (103 : Int32) _ h) cal_X7_isFive mw_14_0 rfl [0, 1, 2, 3, 4, 5, 6, 7, 8, 9, 10, 11, 12, 13, 14, 15] [] [0, 1, 2, 3, 4, 5, 6, 7, 8, 9, 10, 11, 12, 13, 14, 15] (fun u => (wX7 cI cZ o q F A : va_W)) rfl rfl (fun _ => rfl) rfl 0 rfl rfl ⟨rfl, rfl⟩ ⟨Nat.le_of_ble_eq_true rfl, Nat.le_of_ble_eq_true rfl⟩ hl.1 rfl (Nat.le_of_ble_eq_true rfl) ⟨Nat.zero_le _, Nat.zero_le _⟩ dX7_ownHere_101 (fun r101 u H locs h hP hD hS => ?_)
    refine lv_if_eq (tgt := 112) hx hb dX7_ownHere_104 (by decide) (fun c104 => ?_) (fun c104 => ?_)
    · replace h := h.1 c104
      refine lv_iconst (v := -1) hx hb dX7_ownHere_112 (by decide) ?_
      exact ret _ () _ _ _ _ dX7_ownHere_113 h hP hD hS
    · replace h := h.2 c104
      refine lv_bipush (v := 8) hx hb dX7_ownHere_107 (by decide) ?_
      refine lv_goto (tgt := 113) hx hb dX7_ownHere_109 (by decide) ?_
      exact ret _ () _ _ _ _ dX7_ownHere_113 h hP hD hS
  · replace h := h.2 c84
    refine lv_bipush (v := 7) hx hb dX7_ownHere_87 (by decide) ?_
    exact ret _ () _ _ _ _ dX7_ownHere_89 h hP hD hS
def p_X7_ownHere (F : tF) (A : tA) (K : Int32 → Prop) : Prop := (p_X7_isFive F A (102 : Int32) (108 : Int32) (111 : Int32) (99 : Int32) (107 : Int32) (fun r11 => ((r11 = 0 → (p_X7_isFive F A (114 : Int32) (105 : Int32) (118 : Int32) (101 : Int32) (114 : Int32) (fun r30 => ((r30 = 0 → (p_X7_isName F A (7 : Int32) (119 : Int32) (104 : Int32) (105 : Int32) (101 : Int32) (fun r49 => ((r49 = 0 → (p_X7_ownHere_J72 F A K)) ∧ (¬ r49 = 0 → (p_X7_isSame F A (3 : Int32) (115 : Int32) (116 : Int32) (108 : Int32) (fun r63 => ((r63 = 0 → (p_X7_ownHere_J72 F A K)) ∧ (¬ r63 = 0 → (K (6 : Int32))))))))))) ∧ (¬ r30 = 0 → (K (5 : Int32))))))) ∧ (¬ r11 = 0 → (K (3 : Int32))))))
set_option maxHeartbeats 4000000 in
set_option maxRecDepth 100000 in
theorem w_X7_ownHere (l : Launch) (D : va_G) (cI cZ cR : ClassId) (adK adV : Nat → Nat) (sz : Nat) (o : Nat) (q : Nat → Nat) (F : tF) (A : tA) (K : Int32 → Prop) (h : p_X7_ownHere F A K) : MI l D cI cZ cR adK adV yX7_ownHere cX7_ownHere 1 (some .int) (rmN 3 71) [.ref o] (wX7 cI cZ o q F A : va_W) sz (fun (r : Int32) (u : Unit) => K r) (fun (u : Unit) => (wX7 cI cZ o q F A : va_W)) := by
  refine M_i (by decide +kernel) (Nat.le_of_ble_eq_true rfl) ?_
  intro p e s m args below meth c Q A9 ls X ret hP hD hS hl
  obtain ⟨hx, hb, hml, ht, hown, hK, hA, hE⟩ := id X
  have hl : lv_has ls 1 [(0, .ref o)] := hl
  unfold p_X7_ownHere at h
  refine lv_aload_n hx hb dX7_ownHere_0 rfl (lv_at hl 0 rfl) ?_
  refine lv_bipush (v := 102) hx hb dX7_ownHere_1 (by decide) ?_
  refine lv_bipush (v := 108) hx hb dX7_ownHere_3 (by decide) ?_
  refine lv_bipush (v := 111) hx hb dX7_ownHere_5 (by decide) ?_
  refine lv_bipush (v := 99) hx hb dX7_ownHere_7 (by decide) ?_
  refine lv_bipush (v := 107) hx hb dX7_ownHere_9 (by decide) ?_
  refine C_vi (wr := []) X hP hD hS [.int (102 : Int32), .int (108 : Int32), .int (111 : Int32), .int (99 : Int32), .int (107 : Int32)] [] (w_X7_isFive l D cI cZ cR adK adV _ o q F A (102 : Int32) (108 : Int32) (111 : Int32) (99 : Int32) (107 : Int32) _ h) cal_X7_isFive mw_14_0 rfl [0, 1, 2, 3, 4, 5, 6, 7, 8, 9, 10, 11, 12, 13, 14, 15] [] [0, 1, 2, 3, 4, 5, 6, 7, 8, 9, 10, 11, 12, 13, 14, 15] (fun u => (wX7 cI cZ o q F A : va_W)) rfl rfl (fun _ => rfl) rfl 0 rfl rfl ⟨rfl, rfl⟩ ⟨Nat.le_of_ble_eq_true rfl, Nat.le_of_ble_eq_true rfl⟩ hl.1 rfl (Nat.le_of_ble_eq_true rfl) ⟨Nat.zero_le _, Nat.zero_le _⟩ dX7_ownHere_11 (fun r11 u H locs h hP hD hS => ?_)
  refine lv_if_eq (tgt := 19) hx hb dX7_ownHere_14 (by decide) (fun c14 => ?_) (fun c14 => ?_)
  · replace h := h.1 c14
    refine lv_aload_n hx hb dX7_ownHere_19 rfl (lv_at hl 0 rfl) ?_
    refine lv_bipush (v := 114) hx hb dX7_ownHere_20 (by decide) ?_
    refine lv_bipush (v := 105) hx hb dX7_ownHere_22 (by decide) ?_
    refine lv_bipush (v := 118) hx hb dX7_ownHere_24 (by decide) ?_
    refine lv_bipush (v := 101) hx hb dX7_ownHere_26 (by decide) ?_
    refine lv_bipush (v := 114) hx hb dX7_ownHere_28 (by decide) ?_
    refine C_vi (wr := []) X hP hD hS [.int (114 : Int32), .int (105 : Int32), .int (118 : Int32), .int (101 : Int32), .int (114 : Int32)] [] (w_X7_isFive l D cI cZ cR adK adV _ o q F A (114 : Int32) (105 : Int32) (118 : Int32) (101 : Int32) (114 : Int32) _ h) cal_X7_isFive mw_14_0 rfl [0, 1, 2, 3, 4, 5, 6, 7, 8, 9, 10, 11, 12, 13, 14, 15] [] [0, 1, 2, 3, 4, 5, 6, 7, 8, 9, 10, 11, 12, 13, 14, 15] (fun u => (wX7 cI cZ o q F A : va_W)) rfl rfl (fun _ => rfl) rfl 0 rfl rfl ⟨rfl, rfl⟩ ⟨Nat.le_of_ble_eq_true rfl, Nat.le_of_ble_eq_true rfl⟩ hl.1 rfl (Nat.le_of_ble_eq_true rfl) ⟨Nat.zero_le _, Nat.zero_le _⟩ dX7_ownHere_30 (fun r30 u H locs h hP hD hS => ?_)
    refine lv_if_eq (tgt := 38) hx hb dX7_ownHere_33 (by decide) (fun c33 => ?_) (fun c33 => ?_)
    · replace h := h.1 c33
      refine lv_aload_n hx hb dX7_ownHere_38 rfl (lv_at hl 0 rfl) ?_
      refine lv_bipush (v := 7) hx hb dX7_ownHere_39 (by decide) ?_
      refine lv_bipush (v := 119) hx hb dX7_ownHere_41 (by decide) ?_
      refine lv_bipush (v := 104) hx hb dX7_ownHere_43 (by decide) ?_
      refine lv_bipush (v := 105) hx hb dX7_ownHere_45 (by decide) ?_
      refine lv_bipush (v := 101) hx hb dX7_ownHere_47 (by decide) ?_
      refine C_vi (wr := []) X hP hD hS [.int (7 : Int32), .int (119 : Int32), .int (104 : Int32), .int (105 : Int32), .int (101 : Int32)] [] (w_X7_isName l D cI cZ cR adK adV _ o q F A (7 : Int32) (119 : Int32) (104 : Int32) (105 : Int32) (101 : Int32) _ h) cal_X7_isName mw_13_8 rfl [0, 1, 2, 3, 4, 5, 6, 7, 8, 9, 10, 11, 12, 13, 14, 15] [] [0, 1, 2, 3, 4, 5, 6, 7, 8, 9, 10, 11, 12, 13, 14, 15] (fun u => (wX7 cI cZ o q F A : va_W)) rfl rfl (fun _ => rfl) rfl 0 rfl rfl ⟨rfl, rfl⟩ ⟨Nat.le_of_ble_eq_true rfl, Nat.le_of_ble_eq_true rfl⟩ hl.1 rfl (Nat.le_of_ble_eq_true rfl) ⟨Nat.zero_le _, Nat.zero_le _⟩ dX7_ownHere_49 (fun r49 u H locs h hP hD hS => ?_)
      refine lv_if_eq (tgt := 72) hx hb dX7_ownHere_52 (by decide) (fun c52 => ?_) (fun c52 => ?_)
      · replace h := h.1 c52
        exact b_X7_ownHere_J72 F A X ret  _ _ _ h hP hD hS (lv_sub hl [0] rfl)
      · replace h := h.2 c52
        refine lv_aload_n hx hb dX7_ownHere_55 rfl (lv_at hl 0 rfl) ?_
        refine lv_iconst (v := 3) hx hb dX7_ownHere_56 (by decide) ?_
        refine lv_bipush (v := 115) hx hb dX7_ownHere_57 (by decide) ?_
        refine lv_bipush (v := 116) hx hb dX7_ownHere_59 (by decide) ?_
        refine lv_bipush (v := 108) hx hb dX7_ownHere_61 (by decide) ?_
        refine C_vi (wr := []) X hP hD hS [.int (3 : Int32), .int (115 : Int32), .int (116 : Int32), .int (108 : Int32)] [] (w_X7_isSame l D cI cZ cR adK adV _ o q F A (3 : Int32) (115 : Int32) (116 : Int32) (108 : Int32) _ h) cal_X7_isSame mw_13_16 rfl [0, 1, 2, 3, 4, 5, 6, 7, 8, 9, 10, 11, 12, 13, 14, 15] [] [0, 1, 2, 3, 4, 5, 6, 7, 8, 9, 10, 11, 12, 13, 14, 15] (fun u => (wX7 cI cZ o q F A : va_W)) rfl rfl (fun _ => rfl) rfl 0 rfl rfl ⟨rfl, rfl⟩ ⟨Nat.le_of_ble_eq_true rfl, Nat.le_of_ble_eq_true rfl⟩ hl.1 rfl (Nat.le_of_ble_eq_true rfl) ⟨Nat.zero_le _, Nat.zero_le _⟩ dX7_ownHere_63 (fun r63 u H locs h hP hD hS => ?_)
        refine lv_if_eq (tgt := 72) hx hb dX7_ownHere_66 (by decide) (fun c66 => ?_) (fun c66 => ?_)
        · replace h := h.1 c66
          exact b_X7_ownHere_J72 F A X ret  _ _ _ h hP hD hS (lv_sub hl [0] rfl)
        · replace h := h.2 c66
          refine lv_bipush (v := 6) hx hb dX7_ownHere_69 (by decide) ?_
          exact ret _ () _ _ _ _ dX7_ownHere_71 h hP hD hS
    · replace h := h.2 c33
      refine lv_iconst (v := 5) hx hb dX7_ownHere_36 (by decide) ?_
      exact ret _ () _ _ _ _ dX7_ownHere_37 h hP hD hS
  · replace h := h.2 c14
    refine lv_iconst (v := 3) hx hb dX7_ownHere_17 (by decide) ?_
    exact ret _ () _ _ _ _ dX7_ownHere_18 h hP hD hS
theorem cal_X7_kindHere : CalV yX7_kindHere cX7_kindHere 1 (some .int) 0 := ⟨mw_13_7, mw_1_5, mw_13_5, mw_13_6, ⟨by decide +kernel, by decide +kernel, by decide +kernel⟩⟩
theorem cal_X7_ownHere : CalV yX7_ownHere cX7_ownHere 1 (some .int) 0 := ⟨mw_13_23, mw_1_5, mw_13_21, mw_13_22, ⟨by decide +kernel, by decide +kernel, by decide +kernel⟩⟩
theorem cal_X7_callHere : CalV yX7_callHere cX7_callHere 2 none 0 := ⟨mw_15_3, mw_1_5, mw_15_1, mw_15_2, ⟨by decide +kernel, by decide +kernel, by decide +kernel⟩⟩
theorem cal_X7_placeHere : CalV yX7_placeHere cX7_placeHere 3 none 1 := ⟨mw_14_23, mw_1_5, mw_14_21, mw_14_22, ⟨by decide +kernel, by decide +kernel, by decide +kernel⟩⟩
theorem cal_X7_sheepHere : CalV yX7_sheepHere cX7_sheepHere 3 none 1 := ⟨mw_14_7, mw_1_5, mw_14_5, mw_14_6, ⟨by decide +kernel, by decide +kernel, by decide +kernel⟩⟩
theorem dX7_itemHere_0 : decode cX7_itemHere 0 = .ok (.aload_n 0, 1) := by decide +kernel
theorem dX7_itemHere_1 : decode cX7_itemHere 1 = .ok (.invokevirtual 127, 3) := by decide +kernel
theorem dX7_itemHere_4 : decode cX7_itemHere 4 = .ok (.istore_n 1, 1) := by decide +kernel
theorem dX7_itemHere_5 : decode cX7_itemHere 5 = .ok (.aload_n 0, 1) := by decide +kernel
theorem dX7_itemHere_6 : decode cX7_itemHere 6 = .ok (.invokevirtual 131, 3) := by decide +kernel
theorem dX7_itemHere_9 : decode cX7_itemHere 9 = .ok (.istore_n 2, 1) := by decide +kernel
theorem dX7_itemHere_10 : decode cX7_itemHere 10 = .ok (.iload_n 1, 1) := by decide +kernel
theorem dX7_itemHere_11 : decode cX7_itemHere 11 = .ok (.ifCond .lt 11, 3) := by decide +kernel
theorem dX7_itemHere_14 : decode cX7_itemHere 14 = .ok (.aload_n 0, 1) := by decide +kernel
theorem dX7_itemHere_15 : decode cX7_itemHere 15 = .ok (.iload_n 1, 1) := by decide +kernel
theorem dX7_itemHere_16 : decode cX7_itemHere 16 = .ok (.invokevirtual 134, 3) := by decide +kernel
theorem dX7_itemHere_19 : decode cX7_itemHere 19 = .ok (.goto 118, 3) := by decide +kernel
theorem dX7_itemHere_22 : decode cX7_itemHere 22 = .ok (.iload_n 2, 1) := by decide +kernel
theorem dX7_itemHere_23 : decode cX7_itemHere 23 = .ok (.ifCond .lt 37, 3) := by decide +kernel
theorem dX7_itemHere_26 : decode cX7_itemHere 26 = .ok (.aload_n 0, 1) := by decide +kernel
theorem dX7_itemHere_27 : decode cX7_itemHere 27 = .ok (.invokevirtual 98, 3) := by decide +kernel
theorem dX7_itemHere_30 : decode cX7_itemHere 30 = .ok (.aload_n 0, 1) := by decide +kernel
theorem dX7_itemHere_31 : decode cX7_itemHere 31 = .ok (.iload_n 2, 1) := by decide +kernel
theorem dX7_itemHere_32 : decode cX7_itemHere 32 = .ok (.iload_n 2, 1) := by decide +kernel
theorem dX7_itemHere_33 : decode cX7_itemHere 33 = .ok (.iconst 3, 1) := by decide +kernel
theorem dX7_itemHere_34 : decode cX7_itemHere 34 = .ok (.if_icmp .ne 7, 3) := by decide +kernel
theorem dX7_itemHere_37 : decode cX7_itemHere 37 = .ok (.iconst 5, 1) := by decide +kernel
theorem dX7_itemHere_38 : decode cX7_itemHere 38 = .ok (.goto 16, 3) := by decide +kernel
theorem dX7_itemHere_41 : decode cX7_itemHere 41 = .ok (.iload_n 2, 1) := by decide +kernel
theorem dX7_itemHere_42 : decode cX7_itemHere 42 = .ok (.bipush 8, 2) := by decide +kernel
theorem dX7_itemHere_44 : decode cX7_itemHere 44 = .ok (.if_icmp .ne 8, 3) := by decide +kernel
theorem dX7_itemHere_47 : decode cX7_itemHere 47 = .ok (.bipush 99, 2) := by decide +kernel
theorem dX7_itemHere_49 : decode cX7_itemHere 49 = .ok (.goto 5, 3) := by decide +kernel
theorem dX7_itemHere_52 : decode cX7_itemHere 52 = .ok (.bipush 9, 2) := by decide +kernel
theorem dX7_itemHere_54 : decode cX7_itemHere 54 = .ok (.invokevirtual 116, 3) := by decide +kernel
theorem dX7_itemHere_57 : decode cX7_itemHere 57 = .ok (.goto 80, 3) := by decide +kernel
theorem dX7_itemHere_60 : decode cX7_itemHere 60 = .ok (.aload_n 0, 1) := by decide +kernel
theorem dX7_itemHere_61 : decode cX7_itemHere 61 = .ok (.bipush 103, 2) := by decide +kernel
theorem dX7_itemHere_63 : decode cX7_itemHere 63 = .ok (.bipush 114, 2) := by decide +kernel
theorem dX7_itemHere_65 : decode cX7_itemHere 65 = .ok (.bipush 97, 2) := by decide +kernel
theorem dX7_itemHere_67 : decode cX7_itemHere 67 = .ok (.bipush 115, 2) := by decide +kernel
theorem dX7_itemHere_69 : decode cX7_itemHere 69 = .ok (.bipush 115, 2) := by decide +kernel
theorem dX7_itemHere_71 : decode cX7_itemHere 71 = .ok (.invokevirtual 124, 3) := by decide +kernel
theorem dX7_itemHere_74 : decode cX7_itemHere 74 = .ok (.ifCond .eq 12, 3) := by decide +kernel
theorem dX7_itemHere_77 : decode cX7_itemHere 77 = .ok (.aload_n 0, 1) := by decide +kernel
theorem dX7_itemHere_78 : decode cX7_itemHere 78 = .ok (.bipush 9, 2) := by decide +kernel
theorem dX7_itemHere_80 : decode cX7_itemHere 80 = .ok (.invokevirtual 138, 3) := by decide +kernel
theorem dX7_itemHere_83 : decode cX7_itemHere 83 = .ok (.goto 54, 3) := by decide +kernel
theorem dX7_itemHere_86 : decode cX7_itemHere 86 = .ok (.aload_n 0, 1) := by decide +kernel
theorem dX7_itemHere_87 : decode cX7_itemHere 87 = .ok (.bipush 114, 2) := by decide +kernel
theorem dX7_itemHere_89 : decode cX7_itemHere 89 = .ok (.bipush 105, 2) := by decide +kernel
theorem dX7_itemHere_91 : decode cX7_itemHere 91 = .ok (.bipush 115, 2) := by decide +kernel
theorem dX7_itemHere_93 : decode cX7_itemHere 93 = .ok (.bipush 107, 2) := by decide +kernel
theorem dX7_itemHere_95 : decode cX7_itemHere 95 = .ok (.invokevirtual 105, 3) := by decide +kernel
theorem dX7_itemHere_98 : decode cX7_itemHere 98 = .ok (.ifCond .eq 12, 3) := by decide +kernel
theorem dX7_itemHere_101 : decode cX7_itemHere 101 = .ok (.aload_n 0, 1) := by decide +kernel
theorem dX7_itemHere_102 : decode cX7_itemHere 102 = .ok (.bipush 15, 2) := by decide +kernel
theorem dX7_itemHere_104 : decode cX7_itemHere 104 = .ok (.invokevirtual 138, 3) := by decide +kernel
theorem dX7_itemHere_107 : decode cX7_itemHere 107 = .ok (.goto 30, 3) := by decide +kernel
theorem dX7_itemHere_110 : decode cX7_itemHere 110 = .ok (.aload_n 0, 1) := by decide +kernel
theorem dX7_itemHere_111 : decode cX7_itemHere 111 = .ok (.bipush 99, 2) := by decide +kernel
theorem dX7_itemHere_113 : decode cX7_itemHere 113 = .ok (.bipush 97, 2) := by decide +kernel
theorem dX7_itemHere_115 : decode cX7_itemHere 115 = .ok (.bipush 108, 2) := by decide +kernel
theorem dX7_itemHere_117 : decode cX7_itemHere 117 = .ok (.bipush 108, 2) := by decide +kernel
theorem dX7_itemHere_119 : decode cX7_itemHere 119 = .ok (.invokevirtual 105, 3) := by decide +kernel
theorem dX7_itemHere_122 : decode cX7_itemHere 122 = .ok (.ifCond .eq 10, 3) := by decide +kernel
theorem dX7_itemHere_125 : decode cX7_itemHere 125 = .ok (.aload_n 0, 1) := by decide +kernel
theorem dX7_itemHere_126 : decode cX7_itemHere 126 = .ok (.invokevirtual 141, 3) := by decide +kernel
theorem dX7_itemHere_129 : decode cX7_itemHere 129 = .ok (.goto 8, 3) := by decide +kernel
theorem dX7_itemHere_132 : decode cX7_itemHere 132 = .ok (.aload_n 0, 1) := by decide +kernel
theorem dX7_itemHere_133 : decode cX7_itemHere 133 = .ok (.iconst 0, 1) := by decide +kernel
theorem dX7_itemHere_134 : decode cX7_itemHere 134 = .ok (.invokevirtual 112, 3) := by decide +kernel
theorem dX7_itemHere_137 : decode cX7_itemHere 137 = .ok (.aload_n 0, 1) := by decide +kernel
theorem dX7_itemHere_138 : decode cX7_itemHere 138 = .ok (.aload_n 0, 1) := by decide +kernel
theorem dX7_itemHere_139 : decode cX7_itemHere 139 = .ok (.getfield 88, 3) := by decide +kernel
theorem dX7_itemHere_142 : decode cX7_itemHere 142 = .ok (.iconst 3, 1) := by decide +kernel
theorem dX7_itemHere_143 : decode cX7_itemHere 143 = .ok (.if_icmp .ne 20, 3) := by decide +kernel
theorem dX7_itemHere_146 : decode cX7_itemHere 146 = .ok (.aload_n 0, 1) := by decide +kernel
theorem dX7_itemHere_147 : decode cX7_itemHere 147 = .ok (.aload_n 0, 1) := by decide +kernel
theorem dX7_itemHere_148 : decode cX7_itemHere 148 = .ok (.getfield 74, 3) := by decide +kernel
theorem dX7_itemHere_151 : decode cX7_itemHere 151 = .ok (.invokevirtual 77, 3) := by decide +kernel
theorem dX7_itemHere_154 : decode cX7_itemHere 154 = .ok (.bipush 59, 2) := by decide +kernel
theorem dX7_itemHere_156 : decode cX7_itemHere 156 = .ok (.if_icmp .ne 7, 3) := by decide +kernel
theorem dX7_itemHere_159 : decode cX7_itemHere 159 = .ok (.iconst 1, 1) := by decide +kernel
theorem dX7_itemHere_160 : decode cX7_itemHere 160 = .ok (.goto 4, 3) := by decide +kernel
theorem dX7_itemHere_163 : decode cX7_itemHere 163 = .ok (.iconst 0, 1) := by decide +kernel
theorem dX7_itemHere_164 : decode cX7_itemHere 164 = .ok (.invokevirtual 112, 3) := by decide +kernel
theorem dX7_itemHere_167 : decode cX7_itemHere 167 = .ok (.return_, 1) := by decide +kernel
def p_X7_itemHere_J164 (F : tF) (A : tA) (K : tF → tA → Prop) (s0 : Int32) : Prop := (p_X7_needs F A s0 (fun F_164 A_164 => (K F_164 A_164)))
set_option maxHeartbeats 4000000 in
set_option maxRecDepth 100000 in
theorem b_X7_itemHere_J164 {p : Program} {l : Launch} {e : Env} {s : State} {m : MethodId} {args : Array Value} {below : List Frame} {meth : Method} {c : Code} {Q : State → Prop} {D : va_G} {cI cZ cR : ClassId} {adK adV : Nat → Nat} {A9 : Nat → Prop} {o : Nat} {q : Nat → Nat} {K : tF → tA → Prop}  (F : tF) (A : tA) (s0 : Int32) (X : CX p s m args c yX7_itemHere.cls cX7_itemHere 3 D cI cZ cR adK adV A9) (ret : RTv p l e (rmN 6 131) s m args below meth c Q cX7_itemHere D A9 (fun (u : (tF × tA)) => K u.1 u.2) (fun (u : (tF × tA)) => (wX7 cI cZ o q u.1 u.2 : va_W)))  (H : Heap) (locs : List Loc) (ls : Array Slot) (h : p_X7_itemHere_J164 F A K s0) (hP : va_P D vwCl (wX7 cI cZ o q F A : va_W) H) (hD : va_D A9 (wX7 cI cZ o q F A : va_W)) (hS : va_S A9 s.heap H locs) (hl : lv_has ls 3 []) : W p l e (rmN 6 131) s m args below meth c H locs 0 0 Q (F0 m 164 ls [.int s0, .ref o]) := by
  obtain ⟨hx, hb, hml, ht, hown, hK, hA, hE⟩ := id X
  unfold p_X7_itemHere_J164 at h
  refine C_vv (wr := []) X hP hD hS [.int s0] [] (w_X7_needs l D cI cZ cR adK adV _ o q F A s0 _ h) cal_X7_needs mw_14_8 rfl [0, 1, 2, 3, 4, 5, 6, 7, 8, 9, 10, 11, 12, 13, 14, 15] [] [0, 1, 2, 3, 4, 5, 6, 7, 8, 9, 10, 11, 12, 13, 14, 15] (fun u => (wX7 cI cZ o q u.1 u.2 : va_W)) rfl rfl (fun _ => rfl) rfl 0 rfl rfl ⟨rfl, rfl⟩ ⟨Nat.le_of_ble_eq_true rfl, Nat.le_of_ble_eq_true rfl⟩ hl.1 rfl (Nat.le_of_ble_eq_true rfl) ⟨Nat.zero_le _, Nat.zero_le _⟩ dX7_itemHere_164 (fun u H locs h hP hD hS => ?_)
  obtain ⟨F_164, A_164⟩ := u
  try dsimp only at h
  have hP : va_P D vwCl (wX7 cI cZ o q F_164 A_164 : va_W) H := hP
  have hD : va_D A9 (wX7 cI cZ o q F_164 A_164 : va_W) := hD
  exact ret (F_164, A_164) _ _ _ _ dX7_itemHere_167 h hP hD hS
def p_X7_itemHere_J163 (F : tF) (A : tA) (K : tF → tA → Prop)  : Prop := (p_X7_itemHere_J164 F A K (0 : Int32))
set_option maxHeartbeats 4000000 in
set_option maxRecDepth 100000 in
theorem b_X7_itemHere_J163 {p : Program} {l : Launch} {e : Env} {s : State} {m : MethodId} {args : Array Value} {below : List Frame} {meth : Method} {c : Code} {Q : State → Prop} {D : va_G} {cI cZ cR : ClassId} {adK adV : Nat → Nat} {A9 : Nat → Prop} {o : Nat} {q : Nat → Nat} {K : tF → tA → Prop}  (F : tF) (A : tA) (X : CX p s m args c yX7_itemHere.cls cX7_itemHere 3 D cI cZ cR adK adV A9) (ret : RTv p l e (rmN 6 131) s m args below meth c Q cX7_itemHere D A9 (fun (u : (tF × tA)) => K u.1 u.2) (fun (u : (tF × tA)) => (wX7 cI cZ o q u.1 u.2 : va_W)))  (H : Heap) (locs : List Loc) (ls : Array Slot) (h : p_X7_itemHere_J163 F A K) (hP : va_P D vwCl (wX7 cI cZ o q F A : va_W) H) (hD : va_D A9 (wX7 cI cZ o q F A : va_W)) (hS : va_S A9 s.heap H locs) (hl : lv_has ls 3 []) : W p l e (rmN 6 131) s m args below meth c H locs 0 0 Q (F0 m 163 ls [.ref o]) := by
  obtain ⟨hx, hb, hml, ht, hown, hK, hA, hE⟩ := id X
  unfold p_X7_itemHere_J163 at h
  refine lv_iconst (v := 0) hx hb dX7_itemHere_163 (by decide) ?_
  exact b_X7_itemHere_J164 F A (0 : Int32) X ret  _ _ _ h hP hD hS (lv_sub hl [] rfl)
def p_X7_itemHere_J137 (F : tF) (A : tA) (K : tF → tA → Prop)  : Prop := ((¬ (F 7) = (3 : Int32) → (p_X7_itemHere_J163 F A K)) ∧ ((F 7) = (3 : Int32) → (p_X7_byteAt F A (F 8) (fun r151 => ((¬ r151 = (59 : Int32) → (p_X7_itemHere_J163 F A K)) ∧ (r151 = (59 : Int32) → (p_X7_itemHere_J164 F A K (1 : Int32))))))))
set_option maxHeartbeats 4000000 in
set_option maxRecDepth 100000 in
theorem b_X7_itemHere_J137 {p : Program} {l : Launch} {e : Env} {s : State} {m : MethodId} {args : Array Value} {below : List Frame} {meth : Method} {c : Code} {Q : State → Prop} {D : va_G} {cI cZ cR : ClassId} {adK adV : Nat → Nat} {A9 : Nat → Prop} {o : Nat} {q : Nat → Nat} {K : tF → tA → Prop}  (F : tF) (A : tA) (X : CX p s m args c yX7_itemHere.cls cX7_itemHere 3 D cI cZ cR adK adV A9) (ret : RTv p l e (rmN 6 131) s m args below meth c Q cX7_itemHere D A9 (fun (u : (tF × tA)) => K u.1 u.2) (fun (u : (tF × tA)) => (wX7 cI cZ o q u.1 u.2 : va_W)))  (H : Heap) (locs : List Loc) (ls : Array Slot) (h : p_X7_itemHere_J137 F A K) (hP : va_P D vwCl (wX7 cI cZ o q F A : va_W) H) (hD : va_D A9 (wX7 cI cZ o q F A : va_W)) (hS : va_S A9 s.heap H locs) (hl : lv_has ls 3 [(0, .ref o)]) : W p l e (rmN 6 131) s m args below meth c H locs 0 0 Q (F0 m 137 ls []) := by
  obtain ⟨hx, hb, hml, ht, hown, hK, hA, hE⟩ := id X
  unfold p_X7_itemHere_J137 at h
  refine lv_aload_n hx hb dX7_itemHere_137 rfl (lv_at hl 0 rfl) ?_
  refine lv_aload_n hx hb dX7_itemHere_138 rfl (lv_at hl 0 rfl) ?_
  refine va_get (C := RX7) (T := TX7) (N := 28) (own := RX7) (v := .int (F 7)) hx hb ht inlX7 hown hK hP 0 rfl rfl 7 (Nat.le_of_ble_eq_true rfl) (ht _ mw_12_3) (fun _ h9 => h9) rfl dX7_itemHere_139 ?_
  refine lv_iconst (v := 3) hx hb dX7_itemHere_142 (by decide) ?_
  refine lv_icmp_ne (tgt := 163) hx hb dX7_itemHere_143 (by decide) (fun c143 => ?_) (fun c143 => ?_)
  · replace h := h.1 c143
    exact b_X7_itemHere_J163 F A X ret  _ _ _ h hP hD hS (lv_sub hl [] rfl)
  · replace h := h.2 c143
    refine lv_aload_n hx hb dX7_itemHere_146 rfl (lv_at hl 0 rfl) ?_
    refine lv_aload_n hx hb dX7_itemHere_147 rfl (lv_at hl 0 rfl) ?_
    refine va_get (C := RX7) (T := TX7) (N := 28) (own := RX7) (v := .int (F 8)) hx hb ht inlX7 hown hK hP 0 rfl rfl 8 (Nat.le_of_ble_eq_true rfl) (ht _ mw_12_4) (fun _ h9 => h9) rfl dX7_itemHere_148 ?_
    refine C_vi (wr := []) X hP hD hS [.int (F 8)] [.ref o] (w_X7_byteAt l D cI cZ cR adK adV _ o q F A (F 8) _ h) cal_X7_byteAt mw_12_14 rfl [0, 1, 2, 3, 4, 5, 6, 7, 8, 9, 10, 11, 12, 13, 14, 15] [] [0, 1, 2, 3, 4, 5, 6, 7, 8, 9, 10, 11, 12, 13, 14, 15] (fun u => (wX7 cI cZ o q F A : va_W)) rfl rfl (fun _ => rfl) rfl 0 rfl rfl ⟨rfl, rfl⟩ ⟨Nat.le_of_ble_eq_true rfl, Nat.le_of_ble_eq_true rfl⟩ hl.1 rfl (Nat.le_of_ble_eq_true rfl) ⟨Nat.zero_le _, Nat.zero_le _⟩ dX7_itemHere_151 (fun r151 u H locs h hP hD hS => ?_)
    refine lv_bipush (v := 59) hx hb dX7_itemHere_154 (by decide) ?_
    refine lv_icmp_ne (tgt := 163) hx hb dX7_itemHere_156 (by decide) (fun c156 => ?_) (fun c156 => ?_)
    · replace h := h.1 c156
      exact b_X7_itemHere_J163 F A X ret  _ _ _ h hP hD hS (lv_sub hl [] rfl)
    · replace h := h.2 c156
      refine lv_iconst (v := 1) hx hb dX7_itemHere_159 (by decide) ?_
      refine lv_goto (tgt := 164) hx hb dX7_itemHere_160 (by decide) ?_
      exact b_X7_itemHere_J164 F A (1 : Int32) X ret  _ _ _ h hP hD hS (lv_sub hl [] rfl)
def p_X7_itemHere_J54 (F : tF) (A : tA) (K : tF → tA → Prop) (s0 : Int32) (s1 : Int32) : Prop := (p_X7_numberTo F A s1 s0 (fun F_54 A_54 => (p_X7_itemHere_J137 F_54 A_54 K)))
set_option maxHeartbeats 4000000 in
set_option maxRecDepth 100000 in
theorem b_X7_itemHere_J54 {p : Program} {l : Launch} {e : Env} {s : State} {m : MethodId} {args : Array Value} {below : List Frame} {meth : Method} {c : Code} {Q : State → Prop} {D : va_G} {cI cZ cR : ClassId} {adK adV : Nat → Nat} {A9 : Nat → Prop} {o : Nat} {q : Nat → Nat} {K : tF → tA → Prop}  (F : tF) (A : tA) (s0 : Int32) (s1 : Int32) (X : CX p s m args c yX7_itemHere.cls cX7_itemHere 3 D cI cZ cR adK adV A9) (ret : RTv p l e (rmN 6 131) s m args below meth c Q cX7_itemHere D A9 (fun (u : (tF × tA)) => K u.1 u.2) (fun (u : (tF × tA)) => (wX7 cI cZ o q u.1 u.2 : va_W)))  (H : Heap) (locs : List Loc) (ls : Array Slot) (h : p_X7_itemHere_J54 F A K s0 s1) (hP : va_P D vwCl (wX7 cI cZ o q F A : va_W) H) (hD : va_D A9 (wX7 cI cZ o q F A : va_W)) (hS : va_S A9 s.heap H locs) (hl : lv_has ls 3 [(0, .ref o)]) : W p l e (rmN 6 131) s m args below meth c H locs 0 0 Q (F0 m 54 ls [.int s0, .int s1, .ref o]) := by
  obtain ⟨hx, hb, hml, ht, hown, hK, hA, hE⟩ := id X
  unfold p_X7_itemHere_J54 at h
  refine C_vv (wr := []) X hP hD hS [.int s1, .int s0] [] (w_X7_numberTo l D cI cZ cR adK adV _ o q F A s1 s0 _ h) cal_X7_numberTo mw_14_16 rfl [0, 1, 2, 3, 4, 5, 6, 7, 8, 9, 10, 11, 12, 13, 14, 15] [] [0, 1, 2, 3, 4, 5, 6, 7, 8, 9, 10, 11, 12, 13, 14, 15] (fun u => (wX7 cI cZ o q u.1 u.2 : va_W)) rfl rfl (fun _ => rfl) rfl 0 rfl rfl ⟨rfl, rfl⟩ ⟨Nat.le_of_ble_eq_true rfl, Nat.le_of_ble_eq_true rfl⟩ hl.1 rfl (Nat.le_of_ble_eq_true rfl) ⟨Nat.zero_le _, Nat.zero_le _⟩ dX7_itemHere_54 (fun u H locs h hP hD hS => ?_)
  obtain ⟨F_54, A_54⟩ := u
  try dsimp only at h
  have hP : va_P D vwCl (wX7 cI cZ o q F_54 A_54 : va_W) H := hP
  have hD : va_D A9 (wX7 cI cZ o q F_54 A_54 : va_W) := hD
  refine lv_goto (tgt := 137) hx hb dX7_itemHere_57 (by decide) ?_
  exact b_X7_itemHere_J137 F_54 A_54 X ret  _ _ _ h hP hD hS (lv_sub hl [0] rfl)
def p_X7_itemHere (F : tF) (A : tA) (K : tF → tA → Prop) : Prop := (p_X7_kindHere F A (fun r1 => (p_X7_ownHere F A (fun r6 => ((r1 < 0 → ((r6 < 0 → (p_X7_isFive F A (103 : Int32) (114 : Int32) (97 : Int32) (115 : Int32) (115 : Int32) (fun r71 => ((r71 = 0 → (p_X7_isFour F A (114 : Int32) (105 : Int32) (115 : Int32) (107 : Int32) (fun r95 => ((r95 = 0 → (p_X7_isFour F A (99 : Int32) (97 : Int32) (108 : Int32) (108 : Int32) (fun r119 => ((r119 = 0 → (p_X7_needs F A (0 : Int32) (fun F_134 A_134 => (p_X7_itemHere_J137 F_134 A_134 K)))) ∧ (¬ r119 = 0 → (p_X7_callHere F A (fun F_126 A_126 => (p_X7_itemHere_J137 F_126 A_126 K)))))))) ∧ (¬ r95 = 0 → (p_X7_placeHere F A (15 : Int32) (fun F_104 A_104 => (p_X7_itemHere_J137 F_104 A_104 K)))))))) ∧ (¬ r71 = 0 → (p_X7_placeHere F A (9 : Int32) (fun F_80 A_80 => (p_X7_itemHere_J137 F_80 A_80 K)))))))) ∧ (¬ r6 < 0 → (p_X7_nextToken F A (fun F_27 A_27 => ((¬ r6 = (3 : Int32) → ((¬ r6 = (8 : Int32) → (p_X7_itemHere_J54 F_27 A_27 K (9 : Int32) r6)) ∧ (r6 = (8 : Int32) → (p_X7_itemHere_J54 F_27 A_27 K (99 : Int32) r6)))) ∧ (r6 = (3 : Int32) → (p_X7_itemHere_J54 F_27 A_27 K (5 : Int32) r6)))))))) ∧ (¬ r1 < 0 → (p_X7_sheepHere F A r1 (fun F_16 A_16 => (p_X7_itemHere_J137 F_16 A_16 K)))))))))
set_option maxHeartbeats 4000000 in
set_option maxRecDepth 100000 in
theorem w_X7_itemHere (l : Launch) (D : va_G) (cI cZ cR : ClassId) (adK adV : Nat → Nat) (sz : Nat) (o : Nat) (q : Nat → Nat) (F : tF) (A : tA) (K : tF → tA → Prop) (h : p_X7_itemHere F A K) : MV l D cI cZ cR adK adV yX7_itemHere cX7_itemHere 3 none (rmN 6 131) [.ref o] (wX7 cI cZ o q F A : va_W) sz (fun (u : (tF × tA)) => K u.1 u.2) (fun (u : (tF × tA)) => (wX7 cI cZ o q u.1 u.2 : va_W)) := by
  refine M_v (by decide +kernel) (Nat.le_of_ble_eq_true rfl) ?_
  intro p e s m args below meth c Q A9 ls X ret hP hD hS hl
  obtain ⟨hx, hb, hml, ht, hown, hK, hA, hE⟩ := id X
  have hl : lv_has ls 3 [(0, .ref o)] := hl
  unfold p_X7_itemHere at h
  refine lv_aload_n hx hb dX7_itemHere_0 rfl (lv_at hl 0 rfl) ?_
  refine C_vi (wr := []) X hP hD hS [] [] (w_X7_kindHere l D cI cZ cR adK adV _ o q F A _ h) cal_X7_kindHere mw_13_4 rfl [0, 1, 2, 3, 4, 5, 6, 7, 8, 9, 10, 11, 12, 13, 14, 15] [] [0, 1, 2, 3, 4, 5, 6, 7, 8, 9, 10, 11, 12, 13, 14, 15] (fun u => (wX7 cI cZ o q F A : va_W)) rfl rfl (fun _ => rfl) rfl 0 rfl rfl ⟨rfl, rfl⟩ ⟨Nat.le_of_ble_eq_true rfl, Nat.le_of_ble_eq_true rfl⟩ hl.1 rfl (Nat.le_of_ble_eq_true rfl) ⟨Nat.zero_le _, Nat.zero_le _⟩ dX7_itemHere_1 (fun r1 u H locs h hP hD hS => ?_)
  refine lv_istore_n (lv' := [(1, .int r1), (0, .ref o)]) hx hb dX7_itemHere_4 rfl hl (by decide) rfl (fun ls hl => ?_)
  refine lv_aload_n hx hb dX7_itemHere_5 rfl (lv_at hl 1 rfl) ?_
  refine C_vi (wr := []) X hP hD hS [] [] (w_X7_ownHere l D cI cZ cR adK adV _ o q F A _ h) cal_X7_ownHere mw_13_20 rfl [0, 1, 2, 3, 4, 5, 6, 7, 8, 9, 10, 11, 12, 13, 14, 15] [] [0, 1, 2, 3, 4, 5, 6, 7, 8, 9, 10, 11, 12, 13, 14, 15] (fun u => (wX7 cI cZ o q F A : va_W)) rfl rfl (fun _ => rfl) rfl 0 rfl rfl ⟨rfl, rfl⟩ ⟨Nat.le_of_ble_eq_true rfl, Nat.le_of_ble_eq_true rfl⟩ hl.1 rfl (Nat.le_of_ble_eq_true rfl) ⟨Nat.zero_le _, Nat.zero_le _⟩ dX7_itemHere_6 (fun r6 u H locs h hP hD hS => ?_)
  refine lv_istore_n (lv' := [(2, .int r6), (1, .int r1), (0, .ref o)]) hx hb dX7_itemHere_9 rfl hl (by decide) rfl (fun ls hl => ?_)
  refine lv_iload_n hx hb dX7_itemHere_10 rfl (lv_at hl 1 rfl) ?_
  refine lv_if_lt (tgt := 22) hx hb dX7_itemHere_11 (by decide) (fun c11 => ?_) (fun c11 => ?_)
  · replace h := h.1 c11
    refine lv_iload_n hx hb dX7_itemHere_22 rfl (lv_at hl 0 rfl) ?_
    refine lv_if_lt (tgt := 60) hx hb dX7_itemHere_23 (by decide) (fun c23 => ?_) (fun c23 => ?_)
    · replace h := h.1 c23
      refine lv_aload_n hx hb dX7_itemHere_60 rfl (lv_at hl 2 rfl) ?_
      refine lv_bipush (v := 103) hx hb dX7_itemHere_61 (by decide) ?_
      refine lv_bipush (v := 114) hx hb dX7_itemHere_63 (by decide) ?_
      refine lv_bipush (v := 97) hx hb dX7_itemHere_65 (by decide) ?_
      refine lv_bipush (v := 115) hx hb dX7_itemHere_67 (by decide) ?_
      refine lv_bipush (v := 115) hx hb dX7_itemHere_69 (by decide) ?_
      refine C_vi (wr := []) X hP hD hS [.int (103 : Int32), .int (114 : Int32), .int (97 : Int32), .int (115 : Int32), .int (115 : Int32)] [] (w_X7_isFive l D cI cZ cR adK adV _ o q F A (103 : Int32) (114 : Int32) (97 : Int32) (115 : Int32) (115 : Int32) _ h) cal_X7_isFive mw_14_0 rfl [0, 1, 2, 3, 4, 5, 6, 7, 8, 9, 10, 11, 12, 13, 14, 15] [] [0, 1, 2, 3, 4, 5, 6, 7, 8, 9, 10, 11, 12, 13, 14, 15] (fun u => (wX7 cI cZ o q F A : va_W)) rfl rfl (fun _ => rfl) rfl 0 rfl rfl ⟨rfl, rfl⟩ ⟨Nat.le_of_ble_eq_true rfl, Nat.le_of_ble_eq_true rfl⟩ hl.1 rfl (Nat.le_of_ble_eq_true rfl) ⟨Nat.zero_le _, Nat.zero_le _⟩ dX7_itemHere_71 (fun r71 u H locs h hP hD hS => ?_)
      refine lv_if_eq (tgt := 86) hx hb dX7_itemHere_74 (by decide) (fun c74 => ?_) (fun c74 => ?_)
      · replace h := h.1 c74
        refine lv_aload_n hx hb dX7_itemHere_86 rfl (lv_at hl 2 rfl) ?_
        refine lv_bipush (v := 114) hx hb dX7_itemHere_87 (by decide) ?_
        refine lv_bipush (v := 105) hx hb dX7_itemHere_89 (by decide) ?_
        refine lv_bipush (v := 115) hx hb dX7_itemHere_91 (by decide) ?_
        refine lv_bipush (v := 107) hx hb dX7_itemHere_93 (by decide) ?_
        refine C_vi (wr := []) X hP hD hS [.int (114 : Int32), .int (105 : Int32), .int (115 : Int32), .int (107 : Int32)] [] (w_X7_isFour l D cI cZ cR adK adV _ o q F A (114 : Int32) (105 : Int32) (115 : Int32) (107 : Int32) _ h) cal_X7_isFour mw_13_12 rfl [0, 1, 2, 3, 4, 5, 6, 7, 8, 9, 10, 11, 12, 13, 14, 15] [] [0, 1, 2, 3, 4, 5, 6, 7, 8, 9, 10, 11, 12, 13, 14, 15] (fun u => (wX7 cI cZ o q F A : va_W)) rfl rfl (fun _ => rfl) rfl 0 rfl rfl ⟨rfl, rfl⟩ ⟨Nat.le_of_ble_eq_true rfl, Nat.le_of_ble_eq_true rfl⟩ hl.1 rfl (Nat.le_of_ble_eq_true rfl) ⟨Nat.zero_le _, Nat.zero_le _⟩ dX7_itemHere_95 (fun r95 u H locs h hP hD hS => ?_)
        refine lv_if_eq (tgt := 110) hx hb dX7_itemHere_98 (by decide) (fun c98 => ?_) (fun c98 => ?_)
        · replace h := h.1 c98
          refine lv_aload_n hx hb dX7_itemHere_110 rfl (lv_at hl 2 rfl) ?_
          refine lv_bipush (v := 99) hx hb dX7_itemHere_111 (by decide) ?_
          refine lv_bipush (v := 97) hx hb dX7_itemHere_113 (by decide) ?_
          refine lv_bipush (v := 108) hx hb dX7_itemHere_115 (by decide) ?_
          refine lv_bipush (v := 108) hx hb dX7_itemHere_117 (by decide) ?_
          refine C_vi (wr := []) X hP hD hS [.int (99 : Int32), .int (97 : Int32), .int (108 : Int32), .int (108 : Int32)] [] (w_X7_isFour l D cI cZ cR adK adV _ o q F A (99 : Int32) (97 : Int32) (108 : Int32) (108 : Int32) _ h) cal_X7_isFour mw_13_12 rfl [0, 1, 2, 3, 4, 5, 6, 7, 8, 9, 10, 11, 12, 13, 14, 15] [] [0, 1, 2, 3, 4, 5, 6, 7, 8, 9, 10, 11, 12, 13, 14, 15] (fun u => (wX7 cI cZ o q F A : va_W)) rfl rfl (fun _ => rfl) rfl 0 rfl rfl ⟨rfl, rfl⟩ ⟨Nat.le_of_ble_eq_true rfl, Nat.le_of_ble_eq_true rfl⟩ hl.1 rfl (Nat.le_of_ble_eq_true rfl) ⟨Nat.zero_le _, Nat.zero_le _⟩ dX7_itemHere_119 (fun r119 u H locs h hP hD hS => ?_)
          refine lv_if_eq (tgt := 132) hx hb dX7_itemHere_122 (by decide) (fun c122 => ?_) (fun c122 => ?_)
          · replace h := h.1 c122
            refine lv_aload_n hx hb dX7_itemHere_132 rfl (lv_at hl 2 rfl) ?_
            refine lv_iconst (v := 0) hx hb dX7_itemHere_133 (by decide) ?_
            refine C_vv (wr := []) X hP hD hS [.int (0 : Int32)] [] (w_X7_needs l D cI cZ cR adK adV _ o q F A (0 : Int32) _ h) cal_X7_needs mw_14_8 rfl [0, 1, 2, 3, 4, 5, 6, 7, 8, 9, 10, 11, 12, 13, 14, 15] [] [0, 1, 2, 3, 4, 5, 6, 7, 8, 9, 10, 11, 12, 13, 14, 15] (fun u => (wX7 cI cZ o q u.1 u.2 : va_W)) rfl rfl (fun _ => rfl) rfl 0 rfl rfl ⟨rfl, rfl⟩ ⟨Nat.le_of_ble_eq_true rfl, Nat.le_of_ble_eq_true rfl⟩ hl.1 rfl (Nat.le_of_ble_eq_true rfl) ⟨Nat.zero_le _, Nat.zero_le _⟩ dX7_itemHere_134 (fun u H locs h hP hD hS => ?_)
            obtain ⟨F_134, A_134⟩ := u
            try dsimp only at h
            have hP : va_P D vwCl (wX7 cI cZ o q F_134 A_134 : va_W) H := hP
            have hD : va_D A9 (wX7 cI cZ o q F_134 A_134 : va_W) := hD
            exact b_X7_itemHere_J137 F_134 A_134 X ret  _ _ _ h hP hD hS (lv_sub hl [2] rfl)
          · replace h := h.2 c122
            refine lv_aload_n hx hb dX7_itemHere_125 rfl (lv_at hl 2 rfl) ?_
            refine C_vv (wr := []) X hP hD hS [] [] (w_X7_callHere l D cI cZ cR adK adV _ o q F A _ h) cal_X7_callHere mw_15_0 rfl [0, 1, 2, 3, 4, 5, 6, 7, 8, 9, 10, 11, 12, 13, 14, 15] [] [0, 1, 2, 3, 4, 5, 6, 7, 8, 9, 10, 11, 12, 13, 14, 15] (fun u => (wX7 cI cZ o q u.1 u.2 : va_W)) rfl rfl (fun _ => rfl) rfl 0 rfl rfl ⟨rfl, rfl⟩ ⟨Nat.le_of_ble_eq_true rfl, Nat.le_of_ble_eq_true rfl⟩ hl.1 rfl (Nat.le_of_ble_eq_true rfl) ⟨Nat.zero_le _, Nat.zero_le _⟩ dX7_itemHere_126 (fun u H locs h hP hD hS => ?_)
            obtain ⟨F_126, A_126⟩ := u
            try dsimp only at h
            have hP : va_P D vwCl (wX7 cI cZ o q F_126 A_126 : va_W) H := hP
            have hD : va_D A9 (wX7 cI cZ o q F_126 A_126 : va_W) := hD
            refine lv_goto (tgt := 137) hx hb dX7_itemHere_129 (by decide) ?_
            exact b_X7_itemHere_J137 F_126 A_126 X ret  _ _ _ h hP hD hS (lv_sub hl [2] rfl)
        · replace h := h.2 c98
          refine lv_aload_n hx hb dX7_itemHere_101 rfl (lv_at hl 2 rfl) ?_
          refine lv_bipush (v := 15) hx hb dX7_itemHere_102 (by decide) ?_
          refine C_vv (wr := []) X hP hD hS [.int (15 : Int32)] [] (w_X7_placeHere l D cI cZ cR adK adV _ o q F A (15 : Int32) _ h) cal_X7_placeHere mw_14_20 rfl [0, 1, 2, 3, 4, 5, 6, 7, 8, 9, 10, 11, 12, 13, 14, 15] [] [0, 1, 2, 3, 4, 5, 6, 7, 8, 9, 10, 11, 12, 13, 14, 15] (fun u => (wX7 cI cZ o q u.1 u.2 : va_W)) rfl rfl (fun _ => rfl) rfl 0 rfl rfl ⟨rfl, rfl⟩ ⟨Nat.le_of_ble_eq_true rfl, Nat.le_of_ble_eq_true rfl⟩ hl.1 rfl (Nat.le_of_ble_eq_true rfl) ⟨Nat.zero_le _, Nat.zero_le _⟩ dX7_itemHere_104 (fun u H locs h hP hD hS => ?_)
          obtain ⟨F_104, A_104⟩ := u
          try dsimp only at h
          have hP : va_P D vwCl (wX7 cI cZ o q F_104 A_104 : va_W) H := hP
          have hD : va_D A9 (wX7 cI cZ o q F_104 A_104 : va_W) := hD
          refine lv_goto (tgt := 137) hx hb dX7_itemHere_107 (by decide) ?_
          exact b_X7_itemHere_J137 F_104 A_104 X ret  _ _ _ h hP hD hS (lv_sub hl [2] rfl)
      · replace h := h.2 c74
        refine lv_aload_n hx hb dX7_itemHere_77 rfl (lv_at hl 2 rfl) ?_
        refine lv_bipush (v := 9) hx hb dX7_itemHere_78 (by decide) ?_
        refine C_vv (wr := []) X hP hD hS [.int (9 : Int32)] [] (w_X7_placeHere l D cI cZ cR adK adV _ o q F A (9 : Int32) _ h) cal_X7_placeHere mw_14_20 rfl [0, 1, 2, 3, 4, 5, 6, 7, 8, 9, 10, 11, 12, 13, 14, 15] [] [0, 1, 2, 3, 4, 5, 6, 7, 8, 9, 10, 11, 12, 13, 14, 15] (fun u => (wX7 cI cZ o q u.1 u.2 : va_W)) rfl rfl (fun _ => rfl) rfl 0 rfl rfl ⟨rfl, rfl⟩ ⟨Nat.le_of_ble_eq_true rfl, Nat.le_of_ble_eq_true rfl⟩ hl.1 rfl (Nat.le_of_ble_eq_true rfl) ⟨Nat.zero_le _, Nat.zero_le _⟩ dX7_itemHere_80 (fun u H locs h hP hD hS => ?_)
        obtain ⟨F_80, A_80⟩ := u
        try dsimp only at h
        have hP : va_P D vwCl (wX7 cI cZ o q F_80 A_80 : va_W) H := hP
        have hD : va_D A9 (wX7 cI cZ o q F_80 A_80 : va_W) := hD
        refine lv_goto (tgt := 137) hx hb dX7_itemHere_83 (by decide) ?_
        exact b_X7_itemHere_J137 F_80 A_80 X ret  _ _ _ h hP hD hS (lv_sub hl [2] rfl)
    · replace h := h.2 c23
      refine lv_aload_n hx hb dX7_itemHere_26 rfl (lv_at hl 2 rfl) ?_
      refine C_vv (wr := []) X hP hD hS [] [] (w_X7_nextToken l D cI cZ cR adK adV _ o q F A _ h) cal_X7_nextToken mw_12_9 rfl [0, 1, 2, 3, 4, 5, 6, 7, 8, 9, 10, 11, 12, 13, 14, 15] [] [0, 1, 2, 3, 4, 5, 6, 7, 8, 9, 10, 11, 12, 13, 14, 15] (fun u => (wX7 cI cZ o q u.1 u.2 : va_W)) rfl rfl (fun _ => rfl) rfl 0 rfl rfl ⟨rfl, rfl⟩ ⟨Nat.le_of_ble_eq_true rfl, Nat.le_of_ble_eq_true rfl⟩ hl.1 rfl (Nat.le_of_ble_eq_true rfl) ⟨Nat.zero_le _, Nat.zero_le _⟩ dX7_itemHere_27 (fun u H locs h hP hD hS => ?_)
      obtain ⟨F_27, A_27⟩ := u
      try dsimp only at h
      have hP : va_P D vwCl (wX7 cI cZ o q F_27 A_27 : va_W) H := hP
      have hD : va_D A9 (wX7 cI cZ o q F_27 A_27 : va_W) := hD
      refine lv_aload_n hx hb dX7_itemHere_30 rfl (lv_at hl 2 rfl) ?_
      refine lv_iload_n hx hb dX7_itemHere_31 rfl (lv_at hl 0 rfl) ?_
      refine lv_iload_n hx hb dX7_itemHere_32 rfl (lv_at hl 0 rfl) ?_
      refine lv_iconst (v := 3) hx hb dX7_itemHere_33 (by decide) ?_
      refine lv_icmp_ne (tgt := 41) hx hb dX7_itemHere_34 (by decide) (fun c34 => ?_) (fun c34 => ?_)
      · replace h := h.1 c34
        refine lv_iload_n hx hb dX7_itemHere_41 rfl (lv_at hl 0 rfl) ?_
        refine lv_bipush (v := 8) hx hb dX7_itemHere_42 (by decide) ?_
        refine lv_icmp_ne (tgt := 52) hx hb dX7_itemHere_44 (by decide) (fun c44 => ?_) (fun c44 => ?_)
        · replace h := h.1 c44
          refine lv_bipush (v := 9) hx hb dX7_itemHere_52 (by decide) ?_
          exact b_X7_itemHere_J54 F_27 A_27 (9 : Int32) r6 X ret  _ _ _ h hP hD hS (lv_sub hl [2] rfl)
        · replace h := h.2 c44
          refine lv_bipush (v := 99) hx hb dX7_itemHere_47 (by decide) ?_
          refine lv_goto (tgt := 54) hx hb dX7_itemHere_49 (by decide) ?_
          exact b_X7_itemHere_J54 F_27 A_27 (99 : Int32) r6 X ret  _ _ _ h hP hD hS (lv_sub hl [2] rfl)
      · replace h := h.2 c34
        refine lv_iconst (v := 5) hx hb dX7_itemHere_37 (by decide) ?_
        refine lv_goto (tgt := 54) hx hb dX7_itemHere_38 (by decide) ?_
        exact b_X7_itemHere_J54 F_27 A_27 (5 : Int32) r6 X ret  _ _ _ h hP hD hS (lv_sub hl [2] rfl)
  · replace h := h.2 c11
    refine lv_aload_n hx hb dX7_itemHere_14 rfl (lv_at hl 2 rfl) ?_
    refine lv_iload_n hx hb dX7_itemHere_15 rfl (lv_at hl 1 rfl) ?_
    refine C_vv (wr := []) X hP hD hS [.int r1] [] (w_X7_sheepHere l D cI cZ cR adK adV _ o q F A r1 _ h) cal_X7_sheepHere mw_14_4 rfl [0, 1, 2, 3, 4, 5, 6, 7, 8, 9, 10, 11, 12, 13, 14, 15] [] [0, 1, 2, 3, 4, 5, 6, 7, 8, 9, 10, 11, 12, 13, 14, 15] (fun u => (wX7 cI cZ o q u.1 u.2 : va_W)) rfl rfl (fun _ => rfl) rfl 0 rfl rfl ⟨rfl, rfl⟩ ⟨Nat.le_of_ble_eq_true rfl, Nat.le_of_ble_eq_true rfl⟩ hl.1 rfl (Nat.le_of_ble_eq_true rfl) ⟨Nat.zero_le _, Nat.zero_le _⟩ dX7_itemHere_16 (fun u H locs h hP hD hS => ?_)
    obtain ⟨F_16, A_16⟩ := u
    try dsimp only at h
    have hP : va_P D vwCl (wX7 cI cZ o q F_16 A_16 : va_W) H := hP
    have hD : va_D A9 (wX7 cI cZ o q F_16 A_16 : va_W) := hD
    refine lv_goto (tgt := 137) hx hb dX7_itemHere_19 (by decide) ?_
    exact b_X7_itemHere_J137 F_16 A_16 X ret  _ _ _ h hP hD hS (lv_sub hl [2] rfl)
theorem cal_X7_copyRow : CalS yX7_copyRow cX7_copyRow 3 none 2 := ⟨mw_12_8, mw_1_5, mw_12_7, ⟨by decide +kernel, by decide +kernel, by decide +kernel⟩⟩
theorem cal_X7_begins : CalV yX7_begins cX7_begins 3 none 0 := ⟨mw_6_1, mw_1_5, mw_5_23, mw_6_0, ⟨by decide +kernel, by decide +kernel, by decide +kernel⟩⟩
theorem cal_X7_itemHere : CalV yX7_itemHere cX7_itemHere 3 none 0 := ⟨mw_13_3, mw_1_5, mw_13_1, mw_13_2, ⟨by decide +kernel, by decide +kernel, by decide +kernel⟩⟩
theorem dX7_hill_0 : decode cX7_hill 0 = .ok (.aload_n 0, 1) := by decide +kernel
theorem dX7_hill_1 : decode cX7_hill 1 = .ok (.getfield 7, 3) := by decide +kernel
theorem dX7_hill_4 : decode cX7_hill 4 = .ok (.aload_n 0, 1) := by decide +kernel
theorem dX7_hill_5 : decode cX7_hill 5 = .ok (.getfield 19, 3) := by decide +kernel
theorem dX7_hill_8 : decode cX7_hill 8 = .ok (.invokestatic 144, 3) := by decide +kernel
theorem dX7_hill_11 : decode cX7_hill 11 = .ok (.aload_n 0, 1) := by decide +kernel
theorem dX7_hill_12 : decode cX7_hill 12 = .ok (.invokevirtual 56, 3) := by decide +kernel
theorem dX7_hill_15 : decode cX7_hill 15 = .ok (.aload_n 0, 1) := by decide +kernel
theorem dX7_hill_16 : decode cX7_hill 16 = .ok (.iconst 0, 1) := by decide +kernel
theorem dX7_hill_17 : decode cX7_hill 17 = .ok (.putfield 71, 3) := by decide +kernel
theorem dX7_hill_20 : decode cX7_hill 20 = .ok (.aload_n 0, 1) := by decide +kernel
theorem dX7_hill_21 : decode cX7_hill 21 = .ok (.iconst 0, 1) := by decide +kernel
theorem dX7_hill_22 : decode cX7_hill 22 = .ok (.putfield 94, 3) := by decide +kernel
theorem dX7_hill_25 : decode cX7_hill 25 = .ok (.aload_n 0, 1) := by decide +kernel
theorem dX7_hill_26 : decode cX7_hill 26 = .ok (.invokevirtual 98, 3) := by decide +kernel
theorem dX7_hill_29 : decode cX7_hill 29 = .ok (.aload_n 0, 1) := by decide +kernel
theorem dX7_hill_30 : decode cX7_hill 30 = .ok (.getfield 94, 3) := by decide +kernel
theorem dX7_hill_33 : decode cX7_hill 33 = .ok (.ifCond .ne 17, 3) := by decide +kernel
theorem dX7_hill_36 : decode cX7_hill 36 = .ok (.aload_n 0, 1) := by decide +kernel
theorem dX7_hill_37 : decode cX7_hill 37 = .ok (.getfield 88, 3) := by decide +kernel
theorem dX7_hill_40 : decode cX7_hill 40 = .ok (.ifCond .eq 10, 3) := by decide +kernel
theorem dX7_hill_43 : decode cX7_hill 43 = .ok (.aload_n 0, 1) := by decide +kernel
theorem dX7_hill_44 : decode cX7_hill 44 = .ok (.invokevirtual 148, 3) := by decide +kernel
theorem dX7_hill_47 : decode cX7_hill 47 = .ok (.goto (-18), 3) := by decide +kernel
theorem dX7_hill_50 : decode cX7_hill 50 = .ok (.aload_n 0, 1) := by decide +kernel
theorem dX7_hill_51 : decode cX7_hill 51 = .ok (.iconst 0, 1) := by decide +kernel
theorem dX7_hill_52 : decode cX7_hill 52 = .ok (.putfield 65, 3) := by decide +kernel
theorem dX7_hill_55 : decode cX7_hill 55 = .ok (.aload_n 0, 1) := by decide +kernel
theorem dX7_hill_56 : decode cX7_hill 56 = .ok (.getfield 94, 3) := by decide +kernel
theorem dX7_hill_59 : decode cX7_hill 59 = .ok (.ifCond .eq 22, 3) := by decide +kernel
theorem dX7_hill_62 : decode cX7_hill 62 = .ok (.aload_n 0, 1) := by decide +kernel
theorem dX7_hill_63 : decode cX7_hill 63 = .ok (.getfield 19, 3) := by decide +kernel
theorem dX7_hill_66 : decode cX7_hill 66 = .ok (.aload_n 0, 1) := by decide +kernel
theorem dX7_hill_67 : decode cX7_hill 67 = .ok (.getfield 7, 3) := by decide +kernel
theorem dX7_hill_70 : decode cX7_hill 70 = .ok (.invokestatic 144, 3) := by decide +kernel
theorem dX7_hill_73 : decode cX7_hill 73 = .ok (.bipush (-100), 2) := by decide +kernel
theorem dX7_hill_75 : decode cX7_hill 75 = .ok (.aload_n 0, 1) := by decide +kernel
theorem dX7_hill_76 : decode cX7_hill 76 = .ok (.getfield 74, 3) := by decide +kernel
theorem dX7_hill_79 : decode cX7_hill 79 = .ok (.isub, 1) := by decide +kernel
theorem dX7_hill_80 : decode cX7_hill 80 = .ok (.ireturn, 1) := by decide +kernel
theorem dX7_hill_81 : decode cX7_hill 81 = .ok (.aload_n 0, 1) := by decide +kernel
theorem dX7_hill_82 : decode cX7_hill 82 = .ok (.iconst 0, 1) := by decide +kernel
theorem dX7_hill_83 : decode cX7_hill 83 = .ok (.putfield 151, 3) := by decide +kernel
theorem dX7_hill_86 : decode cX7_hill 86 = .ok (.aload_n 0, 1) := by decide +kernel
theorem dX7_hill_87 : decode cX7_hill 87 = .ok (.getfield 7, 3) := by decide +kernel
theorem dX7_hill_90 : decode cX7_hill 90 = .ok (.iconst 0, 1) := by decide +kernel
theorem dX7_hill_91 : decode cX7_hill 91 = .ok (.iaload, 1) := by decide +kernel
theorem dX7_hill_92 : decode cX7_hill 92 = .ok (.ireturn, 1) := by decide +kernel
def p_X7_hill_J50 (F : tF) (A : tA) (K : Int32 → tF → tA → Prop)  : Prop := (((F 11) = 0 → (K ((A 0) 0) (upd (upd F 6 (0 : Int32)) 15 (0 : Int32)) A)) ∧ (¬ (F 11) = 0 → (p_X7_copyRow 53 (A 3) 53 (A 0) (fun g0_70 => (K ((-100 : Int32) - (F 8)) (upd F 6 (0 : Int32)) (va_up A 0 g0_70))))))
set_option maxHeartbeats 4000000 in
set_option maxRecDepth 100000 in
theorem b_X7_hill_J50 {p : Program} {l : Launch} {e : Env} {s : State} {m : MethodId} {args : Array Value} {below : List Frame} {meth : Method} {c : Code} {Q : State → Prop} {D : va_G} {cI cZ cR : ClassId} {adK adV : Nat → Nat} {A9 : Nat → Prop} {o : Nat} {q : Nat → Nat} {K : Int32 → tF → tA → Prop}  (F : tF) (A : tA) (X : CX p s m args c yX7_hill.cls cX7_hill 1 D cI cZ cR adK adV A9) (ret : RTi p l e (rmN 7 153) s m args below meth c Q cX7_hill D A9 (fun (r : Int32) (u : (tF × tA)) => K r u.1 u.2) (fun (u : (tF × tA)) => (wX7 cI cZ o q u.1 u.2 : va_W)))  (H : Heap) (locs : List Loc) (ls : Array Slot) (h : p_X7_hill_J50 F A K) (hP : va_P D vwCl (wX7 cI cZ o q F A : va_W) H) (hD : va_D A9 (wX7 cI cZ o q F A : va_W)) (hS : va_S A9 s.heap H locs) (hl : lv_has ls 1 [(0, .ref o)]) : W p l e (rmN 7 153) s m args below meth c H locs 0 0 Q (F0 m 50 ls []) := by
  obtain ⟨hx, hb, hml, ht, hown, hK, hA, hE⟩ := id X
  unfold p_X7_hill_J50 at h
  refine lv_aload_n hx hb dX7_hill_50 rfl (lv_at hl 0 rfl) ?_
  refine lv_iconst (v := 0) hx hb dX7_hill_51 (by decide) ?_
  refine va_put (C := RX7) (T := TX7) (N := 28) (own := RX7) (v := .int (0 : Int32)) hx hb ht inlX7 tyX7 tyX7_ok nmX7 hown hK hP hD hS 0 rfl rfl 6 (Nat.le_of_ble_eq_true rfl) (ht _ mw_6_17) (fun _ h9 => h9) rfl (tyX7_ok 6 (Nat.le_of_ble_eq_true rfl)) rfl rfl (Nat.le_of_ble_eq_true rfl) dX7_hill_52 (fun H locs hP hD hS => ?_)
  have hP : va_P D vwCl (wX7 cI cZ o q (upd F 6 (0 : Int32)) A : va_W) H := hP
  have hD : va_D A9 (wX7 cI cZ o q (upd F 6 (0 : Int32)) A : va_W) := hD
  refine lv_aload_n hx hb dX7_hill_55 rfl (lv_at hl 0 rfl) ?_
  refine va_get (C := RX7) (T := TX7) (N := 28) (own := RX7) (v := .int (F 11)) hx hb ht inlX7 hown hK hP 0 rfl rfl 11 (Nat.le_of_ble_eq_true rfl) (ht _ mw_12_2) (fun _ h9 => h9) rfl dX7_hill_56 ?_
  refine lv_if_eq (tgt := 81) hx hb dX7_hill_59 (by decide) (fun c59 => ?_) (fun c59 => ?_)
  · replace h := h.1 c59
    refine lv_aload_n hx hb dX7_hill_81 rfl (lv_at hl 0 rfl) ?_
    refine lv_iconst (v := 0) hx hb dX7_hill_82 (by decide) ?_
    refine va_put (C := RX7) (T := TX7) (N := 28) (own := RX7) (v := .int (0 : Int32)) hx hb ht inlX7 tyX7 tyX7_ok nmX7 hown hK hP hD hS 0 rfl rfl 15 (Nat.le_of_ble_eq_true rfl) (ht _ mw_12_5) (fun _ h9 => h9) rfl (tyX7_ok 15 (Nat.le_of_ble_eq_true rfl)) rfl rfl (Nat.le_of_ble_eq_true rfl) dX7_hill_83 (fun H locs hP hD hS => ?_)
    have hP : va_P D vwCl (wX7 cI cZ o q (upd (upd F 6 (0 : Int32)) 15 (0 : Int32)) A : va_W) H := hP
    have hD : va_D A9 (wX7 cI cZ o q (upd (upd F 6 (0 : Int32)) 15 (0 : Int32)) A : va_W) := hD
    refine lv_aload_n hx hb dX7_hill_86 rfl (lv_at hl 0 rfl) ?_
    refine va_get (C := RX7) (T := TX7) (N := 28) (own := RX7) (v := .ref (q 0)) hx hb ht inlX7 hown hK hP 0 rfl rfl 0 (Nat.le_of_ble_eq_true rfl) (ht _ mw_5_7) (fun _ h9 => h9) rfl dX7_hill_87 ?_
    refine lv_iconst (v := 0) hx hb dX7_hill_90 (by decide) ?_
    refine g_iald (f := (A 0)) (k := 0) hx hb hK hP 1 0 rfl rfl (vp_in_lit rfl : vp_in (0 : Int32) 53) (by decide) dX7_hill_91 ?_
    exact ret _ ((upd (upd F 6 (0 : Int32)) 15 (0 : Int32)), A) _ _ _ _ dX7_hill_92 h hP hD hS
  · replace h := h.2 c59
    refine lv_aload_n hx hb dX7_hill_62 rfl (lv_at hl 0 rfl) ?_
    refine va_get (C := RX7) (T := TX7) (N := 28) (own := RX7) (v := .ref (q 3)) hx hb ht inlX7 hown hK hP 0 rfl rfl 3 (Nat.le_of_ble_eq_true rfl) (ht _ mw_5_10) (fun _ h9 => h9) rfl dX7_hill_63 ?_
    refine lv_aload_n hx hb dX7_hill_66 rfl (lv_at hl 0 rfl) ?_
    refine va_get (C := RX7) (T := TX7) (N := 28) (own := RX7) (v := .ref (q 0)) hx hb ht inlX7 hown hK hP 0 rfl rfl 0 (Nat.le_of_ble_eq_true rfl) (ht _ mw_5_7) (fun _ h9 => h9) rfl dX7_hill_67 ?_
    refine C_sv (wr := [0, 2, 3, 5, 6, 7, 8, 9, 10, 11, 12, 13, 14, 15].filterMap (fun i => (wX7 cI cZ o q (upd F 6 (0 : Int32)) A : va_W)[i]?)) X hP hD hS [.ref (q 3), .ref (q 0)] [] (w_X7_copyRow l D cI cZ cR adK adV _ (q 3) (q 0) 53 (A 3) 53 (A 0) _ h) cal_X7_copyRow mw_12_6 rfl [4, 1] [0, 2, 3, 5, 6, 7, 8, 9, 10, 11, 12, 13, 14, 15] [0, 15, 1, 2, 14, 3, 4, 5, 6, 7, 8, 9, 10, 11, 12, 13] (fun u => (wX7 cI cZ o q (upd F 6 (0 : Int32)) (va_up A 0 u) : va_W)) rfl rfl (fun _ => rfl) rfl ⟨rfl, rfl⟩ ⟨Nat.le_of_ble_eq_true rfl, Nat.le_of_ble_eq_true rfl⟩ hl.1 rfl (Nat.le_of_ble_eq_true rfl) ⟨Nat.zero_le _, Nat.zero_le _⟩ dX7_hill_70 (fun u H locs h hP hD hS => ?_)
    obtain ⟨g0_70, rfl⟩ : ∃ z, z = u := ⟨_, rfl⟩
    try dsimp only at h
    have hP : va_P D vwCl (wX7 cI cZ o q (upd F 6 (0 : Int32)) (va_up A 0 g0_70) : va_W) H := hP
    have hD : va_D A9 (wX7 cI cZ o q (upd F 6 (0 : Int32)) (va_up A 0 g0_70) : va_W) := hD
    refine lv_bipush (v := -100) hx hb dX7_hill_73 (by decide) ?_
    refine lv_aload_n hx hb dX7_hill_75 rfl (lv_at hl 0 rfl) ?_
    refine va_get (C := RX7) (T := TX7) (N := 28) (own := RX7) (v := .int (F 8)) hx hb ht inlX7 hown hK hP 0 rfl rfl 8 (Nat.le_of_ble_eq_true rfl) (ht _ mw_12_4) (fun _ h9 => h9) rfl dX7_hill_76 ?_
    refine lv_isub hx hb dX7_hill_79 ?_
    exact ret _ ((upd F 6 (0 : Int32)), (va_up A 0 g0_70)) _ _ _ _ dX7_hill_80 h hP hD hS
def p_X7_hill_L29 (K : Int32 → tF → tA → Prop) : Nat → tF → tA → Prop
  | 0, _, _ => False
  | n29 + 1, F, A => ((¬ (F 11) = 0 → (p_X7_hill_J50 F A K)) ∧ ((F 11) = 0 → (((F 7) = 0 → (p_X7_hill_J50 F A K)) ∧ (¬ (F 7) = 0 → (p_X7_itemHere F A (fun F_44 A_44 => ((p_X7_hill_L29 K n29) F_44 A_44)))))))
set_option maxHeartbeats 4000000 in
set_option maxRecDepth 100000 in
theorem b_X7_hill_L29 {p : Program} {l : Launch} {e : Env} {s : State} {m : MethodId} {args : Array Value} {below : List Frame} {meth : Method} {c : Code} {Q : State → Prop} {D : va_G} {cI cZ cR : ClassId} {adK adV : Nat → Nat} {A9 : Nat → Prop} {o : Nat} {q : Nat → Nat} {K : Int32 → tF → tA → Prop}   (X : CX p s m args c yX7_hill.cls cX7_hill 1 D cI cZ cR adK adV A9) (ret : RTi p l e (rmN 7 153) s m args below meth c Q cX7_hill D A9 (fun (r : Int32) (u : (tF × tA)) => K r u.1 u.2) (fun (u : (tF × tA)) => (wX7 cI cZ o q u.1 u.2 : va_W)))   : ∀ (n : Nat) (F : tF) (A : tA) (H : Heap) (locs : List Loc) (ls : Array Slot), p_X7_hill_L29 K n F A → va_P D vwCl (wX7 cI cZ o q F A : va_W) H → va_D A9 (wX7 cI cZ o q F A : va_W) → va_S A9 s.heap H locs → lv_has ls 1 [(0, .ref o)] → W p l e (rmN 7 153) s m args below meth c H locs 0 0 Q (F0 m 29 ls []) := by
  obtain ⟨hx, hb, hml, ht, hown, hK, hA, hE⟩ := id X
  intro n
  induction n with
  | zero => intro F A H locs ls h; exact False.elim h
  | succ n29 ih =>
    intro F A H locs ls h hP hD hS hl
    rw [p_X7_hill_L29] at h
    refine lv_aload_n hx hb dX7_hill_29 rfl (lv_at hl 0 rfl) ?_
    refine va_get (C := RX7) (T := TX7) (N := 28) (own := RX7) (v := .int (F 11)) hx hb ht inlX7 hown hK hP 0 rfl rfl 11 (Nat.le_of_ble_eq_true rfl) (ht _ mw_12_2) (fun _ h9 => h9) rfl dX7_hill_30 ?_
    refine lv_if_ne (tgt := 50) hx hb dX7_hill_33 (by decide) (fun c33 => ?_) (fun c33 => ?_)
    · replace h := h.1 c33
      exact b_X7_hill_J50 F A X ret  _ _ _ h hP hD hS (lv_sub hl [0] rfl)
    · replace h := h.2 c33
      refine lv_aload_n hx hb dX7_hill_36 rfl (lv_at hl 0 rfl) ?_
      refine va_get (C := RX7) (T := TX7) (N := 28) (own := RX7) (v := .int (F 7)) hx hb ht inlX7 hown hK hP 0 rfl rfl 7 (Nat.le_of_ble_eq_true rfl) (ht _ mw_12_3) (fun _ h9 => h9) rfl dX7_hill_37 ?_
      refine lv_if_eq (tgt := 50) hx hb dX7_hill_40 (by decide) (fun c40 => ?_) (fun c40 => ?_)
      · replace h := h.1 c40
        exact b_X7_hill_J50 F A X ret  _ _ _ h hP hD hS (lv_sub hl [0] rfl)
      · replace h := h.2 c40
        refine lv_aload_n hx hb dX7_hill_43 rfl (lv_at hl 0 rfl) ?_
        refine C_vv (wr := []) X hP hD hS [] [] (w_X7_itemHere l D cI cZ cR adK adV _ o q F A _ h) cal_X7_itemHere mw_13_0 rfl [0, 1, 2, 3, 4, 5, 6, 7, 8, 9, 10, 11, 12, 13, 14, 15] [] [0, 1, 2, 3, 4, 5, 6, 7, 8, 9, 10, 11, 12, 13, 14, 15] (fun u => (wX7 cI cZ o q u.1 u.2 : va_W)) rfl rfl (fun _ => rfl) rfl 0 rfl rfl ⟨rfl, rfl⟩ ⟨Nat.le_of_ble_eq_true rfl, Nat.le_of_ble_eq_true rfl⟩ hl.1 rfl (Nat.le_of_ble_eq_true rfl) ⟨Nat.zero_le _, Nat.zero_le _⟩ dX7_hill_44 (fun u H locs h hP hD hS => ?_)
        obtain ⟨F_44, A_44⟩ := u
        try dsimp only at h
        have hP : va_P D vwCl (wX7 cI cZ o q F_44 A_44 : va_W) H := hP
        have hD : va_D A9 (wX7 cI cZ o q F_44 A_44 : va_W) := hD
        refine lv_goto (tgt := 29) hx hb dX7_hill_47 (by decide) ?_
        exact ih F_44 A_44 _ _ _ h hP hD hS (lv_sub hl [0] rfl)
def p_X7_hill (F : tF) (A : tA) (K : Int32 → tF → tA → Prop) : Prop := (p_X7_copyRow 53 (A 0) 53 (A 3) (fun g0_8 => (p_X7_begins F (va_up A 3 g0_8) (fun F_12 A_12 => (p_X7_nextToken (upd (upd F_12 9 (0 : Int32)) 11 (0 : Int32)) A_12 (fun F_26 A_26 => (∃ n29, p_X7_hill_L29 K n29 F_26 A_26)))))))
set_option maxHeartbeats 4000000 in
set_option maxRecDepth 100000 in
theorem w_X7_hill (l : Launch) (D : va_G) (cI cZ cR : ClassId) (adK adV : Nat → Nat) (sz : Nat) (o : Nat) (q : Nat → Nat) (F : tF) (A : tA) (K : Int32 → tF → tA → Prop) (h : p_X7_hill F A K) : MI l D cI cZ cR adK adV yX7_hill cX7_hill 1 (some .int) (rmN 7 153) [.ref o] (wX7 cI cZ o q F A : va_W) sz (fun (r : Int32) (u : (tF × tA)) => K r u.1 u.2) (fun (u : (tF × tA)) => (wX7 cI cZ o q u.1 u.2 : va_W)) := by
  refine M_i (by decide +kernel) (Nat.le_of_ble_eq_true rfl) ?_
  intro p e s m args below meth c Q A9 ls X ret hP hD hS hl
  obtain ⟨hx, hb, hml, ht, hown, hK, hA, hE⟩ := id X
  have hl : lv_has ls 1 [(0, .ref o)] := hl
  unfold p_X7_hill at h
  refine lv_aload_n hx hb dX7_hill_0 rfl (lv_at hl 0 rfl) ?_
  refine va_get (C := RX7) (T := TX7) (N := 28) (own := RX7) (v := .ref (q 0)) hx hb ht inlX7 hown hK hP 0 rfl rfl 0 (Nat.le_of_ble_eq_true rfl) (ht _ mw_5_7) (fun _ h9 => h9) rfl dX7_hill_1 ?_
  refine lv_aload_n hx hb dX7_hill_4 rfl (lv_at hl 0 rfl) ?_
  refine va_get (C := RX7) (T := TX7) (N := 28) (own := RX7) (v := .ref (q 3)) hx hb ht inlX7 hown hK hP 0 rfl rfl 3 (Nat.le_of_ble_eq_true rfl) (ht _ mw_5_10) (fun _ h9 => h9) rfl dX7_hill_5 ?_
  refine C_sv (wr := [0, 2, 3, 5, 6, 7, 8, 9, 10, 11, 12, 13, 14, 15].filterMap (fun i => (wX7 cI cZ o q F A : va_W)[i]?)) X hP hD hS [.ref (q 0), .ref (q 3)] [] (w_X7_copyRow l D cI cZ cR adK adV _ (q 0) (q 3) 53 (A 0) 53 (A 3) _ h) cal_X7_copyRow mw_12_6 rfl [1, 4] [0, 2, 3, 5, 6, 7, 8, 9, 10, 11, 12, 13, 14, 15] [0, 14, 1, 2, 15, 3, 4, 5, 6, 7, 8, 9, 10, 11, 12, 13] (fun u => (wX7 cI cZ o q F (va_up A 3 u) : va_W)) rfl rfl (fun _ => rfl) rfl ⟨rfl, rfl⟩ ⟨Nat.le_of_ble_eq_true rfl, Nat.le_of_ble_eq_true rfl⟩ hl.1 rfl (Nat.le_of_ble_eq_true rfl) ⟨Nat.zero_le _, Nat.zero_le _⟩ dX7_hill_8 (fun u H locs h hP hD hS => ?_)
  obtain ⟨g0_8, rfl⟩ : ∃ z, z = u := ⟨_, rfl⟩
  try dsimp only at h
  have hP : va_P D vwCl (wX7 cI cZ o q F (va_up A 3 g0_8) : va_W) H := hP
  have hD : va_D A9 (wX7 cI cZ o q F (va_up A 3 g0_8) : va_W) := hD
  refine lv_aload_n hx hb dX7_hill_11 rfl (lv_at hl 0 rfl) ?_
  refine C_vv (wr := []) X hP hD hS [] [] (w_X7_begins l D cI cZ cR adK adV _ o q F (va_up A 3 g0_8) _ h) cal_X7_begins mw_5_22 rfl [0, 1, 2, 3, 4, 5, 6, 7, 8, 9, 10, 11, 12, 13, 14, 15] [] [0, 1, 2, 3, 4, 5, 6, 7, 8, 9, 10, 11, 12, 13, 14, 15] (fun u => (wX7 cI cZ o q u.1 u.2 : va_W)) rfl rfl (fun _ => rfl) rfl 0 rfl rfl ⟨rfl, rfl⟩ ⟨Nat.le_of_ble_eq_true rfl, Nat.le_of_ble_eq_true rfl⟩ hl.1 rfl (Nat.le_of_ble_eq_true rfl) ⟨Nat.zero_le _, Nat.zero_le _⟩ dX7_hill_12 (fun u H locs h hP hD hS => ?_)
  obtain ⟨F_12, A_12⟩ := u
  try dsimp only at h
  have hP : va_P D vwCl (wX7 cI cZ o q F_12 A_12 : va_W) H := hP
  have hD : va_D A9 (wX7 cI cZ o q F_12 A_12 : va_W) := hD
  refine lv_aload_n hx hb dX7_hill_15 rfl (lv_at hl 0 rfl) ?_
  refine lv_iconst (v := 0) hx hb dX7_hill_16 (by decide) ?_
  refine va_put (C := RX7) (T := TX7) (N := 28) (own := RX7) (v := .int (0 : Int32)) hx hb ht inlX7 tyX7 tyX7_ok nmX7 hown hK hP hD hS 0 rfl rfl 9 (Nat.le_of_ble_eq_true rfl) (ht _ mw_12_1) (fun _ h9 => h9) rfl (tyX7_ok 9 (Nat.le_of_ble_eq_true rfl)) rfl rfl (Nat.le_of_ble_eq_true rfl) dX7_hill_17 (fun H locs hP hD hS => ?_)
  have hP : va_P D vwCl (wX7 cI cZ o q (upd F_12 9 (0 : Int32)) A_12 : va_W) H := hP
  have hD : va_D A9 (wX7 cI cZ o q (upd F_12 9 (0 : Int32)) A_12 : va_W) := hD
  refine lv_aload_n hx hb dX7_hill_20 rfl (lv_at hl 0 rfl) ?_
  refine lv_iconst (v := 0) hx hb dX7_hill_21 (by decide) ?_
  refine va_put (C := RX7) (T := TX7) (N := 28) (own := RX7) (v := .int (0 : Int32)) hx hb ht inlX7 tyX7 tyX7_ok nmX7 hown hK hP hD hS 0 rfl rfl 11 (Nat.le_of_ble_eq_true rfl) (ht _ mw_12_2) (fun _ h9 => h9) rfl (tyX7_ok 11 (Nat.le_of_ble_eq_true rfl)) rfl rfl (Nat.le_of_ble_eq_true rfl) dX7_hill_22 (fun H locs hP hD hS => ?_)
  have hP : va_P D vwCl (wX7 cI cZ o q (upd (upd F_12 9 (0 : Int32)) 11 (0 : Int32)) A_12 : va_W) H := hP
  have hD : va_D A9 (wX7 cI cZ o q (upd (upd F_12 9 (0 : Int32)) 11 (0 : Int32)) A_12 : va_W) := hD
  refine lv_aload_n hx hb dX7_hill_25 rfl (lv_at hl 0 rfl) ?_
  refine C_vv (wr := []) X hP hD hS [] [] (w_X7_nextToken l D cI cZ cR adK adV _ o q (upd (upd F_12 9 (0 : Int32)) 11 (0 : Int32)) A_12 _ h) cal_X7_nextToken mw_12_9 rfl [0, 1, 2, 3, 4, 5, 6, 7, 8, 9, 10, 11, 12, 13, 14, 15] [] [0, 1, 2, 3, 4, 5, 6, 7, 8, 9, 10, 11, 12, 13, 14, 15] (fun u => (wX7 cI cZ o q u.1 u.2 : va_W)) rfl rfl (fun _ => rfl) rfl 0 rfl rfl ⟨rfl, rfl⟩ ⟨Nat.le_of_ble_eq_true rfl, Nat.le_of_ble_eq_true rfl⟩ hl.1 rfl (Nat.le_of_ble_eq_true rfl) ⟨Nat.zero_le _, Nat.zero_le _⟩ dX7_hill_26 (fun u H locs h hP hD hS => ?_)
  obtain ⟨F_26, A_26⟩ := u
  try dsimp only at h
  have hP : va_P D vwCl (wX7 cI cZ o q F_26 A_26 : va_W) H := hP
  have hD : va_D A9 (wX7 cI cZ o q F_26 A_26 : va_W) := hD
  obtain ⟨n29, h⟩ := h
  exact b_X7_hill_L29  X ret  n29 F_26 A_26 _ _ _ h hP hD hS (lv_sub hl [0] rfl)
theorem cal_X7_becomes : CalV yX7_becomes cX7_becomes 4 (some .int) 2 := ⟨mw_15_23, mw_1_5, mw_15_21, mw_15_22, ⟨by decide +kernel, by decide +kernel, by decide +kernel⟩⟩
theorem dX7_set_0 : decode cX7_set 0 = .ok (.iload_n 1, 1) := by decide +kernel
theorem dX7_set_1 : decode cX7_set 1 = .ok (.i2l, 1) := by decide +kernel
theorem dX7_set_2 : decode cX7_set 2 = .ok (.lconst 0, 1) := by decide +kernel
theorem dX7_set_3 : decode cX7_set 3 = .ok (.ldc2_w 154, 3) := by decide +kernel
theorem dX7_set_6 : decode cX7_set 6 = .ok (.invokestatic 61, 3) := by decide +kernel
theorem dX7_set_9 : decode cX7_set 9 = .ok (.ifCond .eq 37, 3) := by decide +kernel
theorem dX7_set_12 : decode cX7_set 12 = .ok (.iload_n 2, 1) := by decide +kernel
theorem dX7_set_13 : decode cX7_set 13 = .ok (.i2l, 1) := by decide +kernel
theorem dX7_set_14 : decode cX7_set 14 = .ok (.lconst 0, 1) := by decide +kernel
theorem dX7_set_15 : decode cX7_set 15 = .ok (.iload_n 1, 1) := by decide +kernel
theorem dX7_set_16 : decode cX7_set 16 = .ok (.iconst 3, 1) := by decide +kernel
theorem dX7_set_17 : decode cX7_set 17 = .ok (.if_icmp .ne 9, 3) := by decide +kernel
theorem dX7_set_20 : decode cX7_set 20 = .ok (.ldc2_w 156, 3) := by decide +kernel
theorem dX7_set_23 : decode cX7_set 23 = .ok (.goto 6, 3) := by decide +kernel
theorem dX7_set_26 : decode cX7_set 26 = .ok (.ldc2_w 158, 3) := by decide +kernel
theorem dX7_set_29 : decode cX7_set 29 = .ok (.invokestatic 61, 3) := by decide +kernel
theorem dX7_set_32 : decode cX7_set 32 = .ok (.ifCond .eq 14, 3) := by decide +kernel
theorem dX7_set_35 : decode cX7_set 35 = .ok (.aload_n 0, 1) := by decide +kernel
theorem dX7_set_36 : decode cX7_set 36 = .ok (.iconst 5, 1) := by decide +kernel
theorem dX7_set_37 : decode cX7_set 37 = .ok (.iload_n 1, 1) := by decide +kernel
theorem dX7_set_38 : decode cX7_set 38 = .ok (.iadd, 1) := by decide +kernel
theorem dX7_set_39 : decode cX7_set 39 = .ok (.iload_n 2, 1) := by decide +kernel
theorem dX7_set_40 : decode cX7_set 40 = .ok (.invokevirtual 160, 3) := by decide +kernel
theorem dX7_set_43 : decode cX7_set 43 = .ok (.goto 4, 3) := by decide +kernel
theorem dX7_set_46 : decode cX7_set 46 = .ok (.iconst (-1), 1) := by decide +kernel
theorem dX7_set_47 : decode cX7_set 47 = .ok (.ireturn, 1) := by decide +kernel
def p_X7_set_J29 (F : tF) (A : tA) (K : Int32 → tF → tA → Prop) (x1 : Int32) (x2 : Int32) (s0 : Int64) (s1 : Int64) (s2 : Int64) : Prop := (p_X7_isIn s2 s1 s0 (fun r29 => ((r29 = 0 → (K (-1 : Int32) F A)) ∧ (¬ r29 = 0 → (p_X7_becomes F A ((5 : Int32) + x1) x2 (fun r40 F_40 A_40 => (K r40 F_40 A_40)))))))
set_option maxHeartbeats 4000000 in
set_option maxRecDepth 100000 in
theorem b_X7_set_J29 {p : Program} {l : Launch} {e : Env} {s : State} {m : MethodId} {args : Array Value} {below : List Frame} {meth : Method} {c : Code} {Q : State → Prop} {D : va_G} {cI cZ cR : ClassId} {adK adV : Nat → Nat} {A9 : Nat → Prop} {o : Nat} {q : Nat → Nat} {K : Int32 → tF → tA → Prop}  (F : tF) (A : tA) (x1 : Int32) (x2 : Int32) (s0 : Int64) (s1 : Int64) (s2 : Int64) (X : CX p s m args c yX7_set.cls cX7_set 3 D cI cZ cR adK adV A9) (ret : RTi p l e (rmN 1 25) s m args below meth c Q cX7_set D A9 (fun (r : Int32) (u : (tF × tA)) => K r u.1 u.2) (fun (u : (tF × tA)) => (wX7 cI cZ o q u.1 u.2 : va_W)))  (H : Heap) (locs : List Loc) (ls : Array Slot) (h : p_X7_set_J29 F A K x1 x2 s0 s1 s2) (hP : va_P D vwCl (wX7 cI cZ o q F A : va_W) H) (hD : va_D A9 (wX7 cI cZ o q F A : va_W)) (hS : va_S A9 s.heap H locs) (hl : lv_has ls 3 [(0, .ref o), (1, .int x1), (2, .int x2)]) : W p l e (rmN 1 25) s m args below meth c H locs 0 0 Q (F0 m 29 ls [.long s0, .long s1, .long s2]) := by
  obtain ⟨hx, hb, hml, ht, hown, hK, hA, hE⟩ := id X
  unfold p_X7_set_J29 at h
  refine C_si (wr := [0, 1, 2, 3, 4, 5, 6, 7, 8, 9, 10, 11, 12, 13, 14, 15].filterMap (fun i => (wX7 cI cZ o q F A : va_W)[i]?)) X hP hD hS [.long s2, .long s1, .long s0] [] (w_X7_isIn l D cI cZ cR adK adV _ s2 s1 s0 _ h) cal_X7_isIn mw_6_19 rfl [] [0, 1, 2, 3, 4, 5, 6, 7, 8, 9, 10, 11, 12, 13, 14, 15] [0, 1, 2, 3, 4, 5, 6, 7, 8, 9, 10, 11, 12, 13, 14, 15] (fun u => (wX7 cI cZ o q F A : va_W)) rfl rfl (fun _ => rfl) rfl ⟨rfl, rfl⟩ ⟨Nat.le_of_ble_eq_true rfl, Nat.le_of_ble_eq_true rfl⟩ hl.1 rfl (Nat.le_of_ble_eq_true rfl) ⟨Nat.zero_le _, Nat.zero_le _⟩ dX7_set_29 (fun r29 u H locs h hP hD hS => ?_)
  refine lv_if_eq (tgt := 46) hx hb dX7_set_32 (by decide) (fun c32 => ?_) (fun c32 => ?_)
  · replace h := h.1 c32
    refine lv_iconst (v := -1) hx hb dX7_set_46 (by decide) ?_
    exact ret _ (F, A) _ _ _ _ dX7_set_47 h hP hD hS
  · replace h := h.2 c32
    refine lv_aload_n hx hb dX7_set_35 rfl (lv_at hl 0 rfl) ?_
    refine lv_iconst (v := 5) hx hb dX7_set_36 (by decide) ?_
    refine lv_iload_n hx hb dX7_set_37 rfl (lv_at hl 1 rfl) ?_
    refine lv_iadd hx hb dX7_set_38 ?_
    refine lv_iload_n hx hb dX7_set_39 rfl (lv_at hl 2 rfl) ?_
    refine C_vi (wr := []) X hP hD hS [.int ((5 : Int32) + x1), .int x2] [] (w_X7_becomes l D cI cZ cR adK adV _ o q F A ((5 : Int32) + x1) x2 _ h) cal_X7_becomes mw_15_20 rfl [0, 1, 2, 3, 4, 5, 6, 7, 8, 9, 10, 11, 12, 13, 14, 15] [] [0, 1, 2, 3, 4, 5, 6, 7, 8, 9, 10, 11, 12, 13, 14, 15] (fun u => (wX7 cI cZ o q u.1 u.2 : va_W)) rfl rfl (fun _ => rfl) rfl 0 rfl rfl ⟨rfl, rfl⟩ ⟨Nat.le_of_ble_eq_true rfl, Nat.le_of_ble_eq_true rfl⟩ hl.1 rfl (Nat.le_of_ble_eq_true rfl) ⟨Nat.zero_le _, Nat.zero_le _⟩ dX7_set_40 (fun r40 u H locs h hP hD hS => ?_)
    obtain ⟨F_40, A_40⟩ := u
    try dsimp only at h
    have hP : va_P D vwCl (wX7 cI cZ o q F_40 A_40 : va_W) H := hP
    have hD : va_D A9 (wX7 cI cZ o q F_40 A_40 : va_W) := hD
    refine lv_goto (tgt := 47) hx hb dX7_set_43 (by decide) ?_
    exact ret _ (F_40, A_40) _ _ _ _ dX7_set_47 h hP hD hS
def p_X7_set (F : tF) (A : tA) (x1 : Int32) (x2 : Int32) (K : Int32 → tF → tA → Prop) : Prop := (p_X7_isIn ((x1).toInt64) (0 : Int64) (3 : Int64) (fun r6 => ((r6 = 0 → (K (-1 : Int32) F A)) ∧ (¬ r6 = 0 → ((¬ x1 = (3 : Int32) → (p_X7_set_J29 F A K x1 x2 (9 : Int64) (0 : Int64) ((x2).toInt64))) ∧ (x1 = (3 : Int32) → (p_X7_set_J29 F A K x1 x2 (99 : Int64) (0 : Int64) ((x2).toInt64))))))))
set_option maxHeartbeats 4000000 in
set_option maxRecDepth 100000 in
theorem w_X7_set (l : Launch) (D : va_G) (cI cZ cR : ClassId) (adK adV : Nat → Nat) (sz : Nat) (o : Nat) (q : Nat → Nat) (F : tF) (A : tA) (x1 : Int32) (x2 : Int32) (K : Int32 → tF → tA → Prop) (h : p_X7_set F A x1 x2 K) : MI l D cI cZ cR adK adV yX7_set cX7_set 3 (some .int) (rmN 1 25) [.ref o, .int x1, .int x2] (wX7 cI cZ o q F A : va_W) sz (fun (r : Int32) (u : (tF × tA)) => K r u.1 u.2) (fun (u : (tF × tA)) => (wX7 cI cZ o q u.1 u.2 : va_W)) := by
  refine M_i (by decide +kernel) (Nat.le_of_ble_eq_true rfl) ?_
  intro p e s m args below meth c Q A9 ls X ret hP hD hS hl
  obtain ⟨hx, hb, hml, ht, hown, hK, hA, hE⟩ := id X
  have hl : lv_has ls 3 [(0, .ref o), (1, .int x1), (2, .int x2)] := hl
  unfold p_X7_set at h
  refine lv_iload_n hx hb dX7_set_0 rfl (lv_at hl 1 rfl) ?_
  refine lv_i2l (v := (x1).toInt64) hx hb dX7_set_1 rfl ?_
  refine lv_lconst (v := 0) hx hb dX7_set_2 (by decide) ?_
  refine lv_ldc2 (v := 3) hx hb hown (ht _ mw_15_17) dX7_set_3 ?_
  refine C_si (wr := [0, 1, 2, 3, 4, 5, 6, 7, 8, 9, 10, 11, 12, 13, 14, 15].filterMap (fun i => (wX7 cI cZ o q F A : va_W)[i]?)) X hP hD hS [.long (x1).toInt64, .long (0 : Int64), .long (3 : Int64)] [] (w_X7_isIn l D cI cZ cR adK adV _ ((x1).toInt64) (0 : Int64) (3 : Int64) _ h) cal_X7_isIn mw_6_19 rfl [] [0, 1, 2, 3, 4, 5, 6, 7, 8, 9, 10, 11, 12, 13, 14, 15] [0, 1, 2, 3, 4, 5, 6, 7, 8, 9, 10, 11, 12, 13, 14, 15] (fun u => (wX7 cI cZ o q F A : va_W)) rfl rfl (fun _ => rfl) rfl ⟨rfl, rfl⟩ ⟨Nat.le_of_ble_eq_true rfl, Nat.le_of_ble_eq_true rfl⟩ hl.1 rfl (Nat.le_of_ble_eq_true rfl) ⟨Nat.zero_le _, Nat.zero_le _⟩ dX7_set_6 (fun r6 u H locs h hP hD hS => ?_)
  refine lv_if_eq (tgt := 46) hx hb dX7_set_9 (by decide) (fun c9 => ?_) (fun c9 => ?_)
  · replace h := h.1 c9
    refine lv_iconst (v := -1) hx hb dX7_set_46 (by decide) ?_
    exact ret _ (F, A) _ _ _ _ dX7_set_47 h hP hD hS
  · replace h := h.2 c9
    refine lv_iload_n hx hb dX7_set_12 rfl (lv_at hl 2 rfl) ?_
    refine lv_i2l (v := (x2).toInt64) hx hb dX7_set_13 rfl ?_
    refine lv_lconst (v := 0) hx hb dX7_set_14 (by decide) ?_
    refine lv_iload_n hx hb dX7_set_15 rfl (lv_at hl 1 rfl) ?_
    refine lv_iconst (v := 3) hx hb dX7_set_16 (by decide) ?_
    refine lv_icmp_ne (tgt := 26) hx hb dX7_set_17 (by decide) (fun c17 => ?_) (fun c17 => ?_)
    · replace h := h.1 c17
      refine lv_ldc2 (v := 9) hx hb hown (ht _ mw_15_19) dX7_set_26 ?_
      exact b_X7_set_J29 F A x1 x2 (9 : Int64) (0 : Int64) ((x2).toInt64) X ret  _ _ _ h hP hD hS (lv_sub hl [0, 1, 2] rfl)
    · replace h := h.2 c17
      refine lv_ldc2 (v := 99) hx hb hown (ht _ mw_15_18) dX7_set_20 ?_
      refine lv_goto (tgt := 29) hx hb dX7_set_23 (by decide) ?_
      exact b_X7_set_J29 F A x1 x2 (99 : Int64) (0 : Int64) ((x2).toInt64) X ret  _ _ _ h hP hD hS (lv_sub hl [0, 1, 2] rfl)
