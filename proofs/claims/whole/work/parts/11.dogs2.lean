/-! 11.dogs2: what the bytecode of these methods asks, and the walks (written by wip/gen/mk.py) -/
theorem dX6_callFor_0 : decode cX6_callFor 0 = .ok (.iload_n 1, 1) := by decide +kernel
theorem dX6_callFor_1 : decode cX6_callFor 1 = .ok (.bipush 6, 2) := by decide +kernel
theorem dX6_callFor_3 : decode cX6_callFor 3 = .ok (.invokestatic 95, 3) := by decide +kernel
theorem dX6_callFor_6 : decode cX6_callFor 6 = .ok (.ifCond .eq 14, 3) := by decide +kernel
theorem dX6_callFor_9 : decode cX6_callFor 9 = .ok (.iload_n 2, 1) := by decide +kernel
theorem dX6_callFor_10 : decode cX6_callFor 10 = .ok (.iconst 1, 1) := by decide +kernel
theorem dX6_callFor_11 : decode cX6_callFor 11 = .ok (.if_icmp .lt 9, 3) := by decide +kernel
theorem dX6_callFor_14 : decode cX6_callFor 14 = .ok (.iload_n 2, 1) := by decide +kernel
theorem dX6_callFor_15 : decode cX6_callFor 15 = .ok (.bipush 20, 2) := by decide +kernel
theorem dX6_callFor_17 : decode cX6_callFor 17 = .ok (.if_icmp .le 5, 3) := by decide +kernel
theorem dX6_callFor_20 : decode cX6_callFor 20 = .ok (.iconst (-1), 1) := by decide +kernel
theorem dX6_callFor_21 : decode cX6_callFor 21 = .ok (.ireturn, 1) := by decide +kernel
theorem dX6_callFor_22 : decode cX6_callFor 22 = .ok (.iconst 0, 1) := by decide +kernel
theorem dX6_callFor_23 : decode cX6_callFor 23 = .ok (.istore_n 3, 1) := by decide +kernel
theorem dX6_callFor_24 : decode cX6_callFor 24 = .ok (.bipush 6, 2) := by decide +kernel
theorem dX6_callFor_26 : decode cX6_callFor 26 = .ok (.istore 4, 2) := by decide +kernel
theorem dX6_callFor_28 : decode cX6_callFor 28 = .ok (.iconst 0, 1) := by decide +kernel
theorem dX6_callFor_29 : decode cX6_callFor 29 = .ok (.istore 5, 2) := by decide +kernel
theorem dX6_callFor_31 : decode cX6_callFor 31 = .ok (.iload 5, 2) := by decide +kernel
theorem dX6_callFor_33 : decode cX6_callFor 33 = .ok (.bipush 6, 2) := by decide +kernel
theorem dX6_callFor_35 : decode cX6_callFor 35 = .ok (.if_icmp .gt 65, 3) := by decide +kernel
theorem dX6_callFor_38 : decode cX6_callFor 38 = .ok (.aload_n 0, 1) := by decide +kernel
theorem dX6_callFor_39 : decode cX6_callFor 39 = .ok (.getfield 16, 3) := by decide +kernel
theorem dX6_callFor_42 : decode cX6_callFor 42 = .ok (.aload_n 0, 1) := by decide +kernel
theorem dX6_callFor_43 : decode cX6_callFor 43 = .ok (.getfield 10, 3) := by decide +kernel
theorem dX6_callFor_46 : decode cX6_callFor 46 = .ok (.invokevirtual 81, 3) := by decide +kernel
theorem dX6_callFor_49 : decode cX6_callFor 49 = .ok (.aload_n 0, 1) := by decide +kernel
theorem dX6_callFor_50 : decode cX6_callFor 50 = .ok (.getfield 16, 3) := by decide +kernel
theorem dX6_callFor_53 : decode cX6_callFor 53 = .ok (.iload 5, 2) := by decide +kernel
theorem dX6_callFor_55 : decode cX6_callFor 55 = .ok (.putfield 160, 3) := by decide +kernel
theorem dX6_callFor_58 : decode cX6_callFor 58 = .ok (.aload_n 0, 1) := by decide +kernel
theorem dX6_callFor_59 : decode cX6_callFor 59 = .ok (.getfield 16, 3) := by decide +kernel
theorem dX6_callFor_62 : decode cX6_callFor 62 = .ok (.iload_n 2, 1) := by decide +kernel
theorem dX6_callFor_63 : decode cX6_callFor 63 = .ok (.invokevirtual 167, 3) := by decide +kernel
theorem dX6_callFor_66 : decode cX6_callFor 66 = .ok (.aload_n 0, 1) := by decide +kernel
theorem dX6_callFor_67 : decode cX6_callFor 67 = .ok (.getfield 16, 3) := by decide +kernel
theorem dX6_callFor_70 : decode cX6_callFor 70 = .ok (.getfield 157, 3) := by decide +kernel
theorem dX6_callFor_73 : decode cX6_callFor 73 = .ok (.iload_n 1, 1) := by decide +kernel
theorem dX6_callFor_74 : decode cX6_callFor 74 = .ok (.isub, 1) := by decide +kernel
theorem dX6_callFor_75 : decode cX6_callFor 75 = .ok (.invokestatic 193, 3) := by decide +kernel
theorem dX6_callFor_78 : decode cX6_callFor 78 = .ok (.istore 6, 2) := by decide +kernel
theorem dX6_callFor_80 : decode cX6_callFor 80 = .ok (.iload 6, 2) := by decide +kernel
theorem dX6_callFor_82 : decode cX6_callFor 82 = .ok (.iload 4, 2) := by decide +kernel
theorem dX6_callFor_84 : decode cX6_callFor 84 = .ok (.if_icmp .ge 10, 3) := by decide +kernel
theorem dX6_callFor_87 : decode cX6_callFor 87 = .ok (.iload 6, 2) := by decide +kernel
theorem dX6_callFor_89 : decode cX6_callFor 89 = .ok (.istore 4, 2) := by decide +kernel
theorem dX6_callFor_91 : decode cX6_callFor 91 = .ok (.iload 5, 2) := by decide +kernel
theorem dX6_callFor_93 : decode cX6_callFor 93 = .ok (.istore_n 3, 1) := by decide +kernel
theorem dX6_callFor_94 : decode cX6_callFor 94 = .ok (.iinc 5 1, 3) := by decide +kernel
theorem dX6_callFor_97 : decode cX6_callFor 97 = .ok (.goto (-66), 3) := by decide +kernel
theorem dX6_callFor_100 : decode cX6_callFor 100 = .ok (.iload_n 3, 1) := by decide +kernel
theorem dX6_callFor_101 : decode cX6_callFor 101 = .ok (.ireturn, 1) := by decide +kernel
def p_X6_callFor_J94 (F : tF) (Ft : tF) (At : tA) (Fn : tF) (An : tA) (B31 : (tF → tA → Int32 → Int32 → Int32 → Prop)) (K : Int32 → tF → tA → Prop) (x1 : Int32) (x2 : Int32) (x3 : Int32) (x4 : Int32) (x5 : Int32) : Prop := (∀ y94 : Int32, y94 = (x5 + (1 : Int32)) → (B31 Ft At x3 x4 y94))
set_option maxHeartbeats 4000000 in
set_option maxRecDepth 100000 in
theorem b_X6_callFor_J94 {p : Program} {l : Launch} {e : Env} {s : State} {m : MethodId} {args : Array Value} {below : List Frame} {meth : Method} {c : Code} {Q : State → Prop} {D : va_G} {cI cZ cR : ClassId} {adK adV : Nat → Nat} {A9 : Nat → Prop} {o : Nat} {q : Nat → Nat} {qt : Nat → Nat} {qn : Nat → Nat} {K : Int32 → tF → tA → Prop} {B31 : (tF → tA → Int32 → Int32 → Int32 → Prop)} (F : tF) (Ft : tF) (At : tA) (Fn : tF) (An : tA) (x1 : Int32) (x2 : Int32) (x3 : Int32) (x4 : Int32) (x5 : Int32) (X : CX p s m args c yX6_callFor.cls cX6_callFor 7 D cI cZ cR adK adV A9) (ret : RTi p l e (rmN 6 215) s m args below meth c Q cX6_callFor D A9 (fun (r : Int32) (u : (tF × tA)) => K r u.1 u.2) (fun (u : (tF × tA)) => (wX6 o q F ++ wX2 cI cZ (q 1) qt u.1 u.2 ++ wX2 cI cZ (q 0) qn Fn An : va_W))) (hB31 : ∀ (Ft : tF) (At : tA) (x3 : Int32) (x4 : Int32) (x5 : Int32) (H : Heap) (locs : List Loc) (ls : Array Slot), B31 Ft At x3 x4 x5 → va_P D vwCl (wX6 o q F ++ wX2 cI cZ (q 1) qt Ft At ++ wX2 cI cZ (q 0) qn Fn An : va_W) H → va_D A9 (wX6 o q F ++ wX2 cI cZ (q 1) qt Ft At ++ wX2 cI cZ (q 0) qn Fn An : va_W) → va_S A9 s.heap H locs → lv_has ls 7 [(0, .ref o), (1, .int x1), (2, .int x2), (3, .int x3), (4, .int x4), (5, .int x5)] → W p l e (rmN 6 215) s m args below meth c H locs 0 0 Q (F0 m 31 ls [])) (H : Heap) (locs : List Loc) (ls : Array Slot) (h : p_X6_callFor_J94 F Ft At Fn An B31 K x1 x2 x3 x4 x5) (hP : va_P D vwCl (wX6 o q F ++ wX2 cI cZ (q 1) qt Ft At ++ wX2 cI cZ (q 0) qn Fn An : va_W) H) (hD : va_D A9 (wX6 o q F ++ wX2 cI cZ (q 1) qt Ft At ++ wX2 cI cZ (q 0) qn Fn An : va_W)) (hS : va_S A9 s.heap H locs) (hl : lv_has ls 7 [(0, .ref o), (1, .int x1), (2, .int x2), (3, .int x3), (4, .int x4), (5, .int x5)]) : W p l e (rmN 6 215) s m args below meth c H locs 0 0 Q (F0 m 94 ls []) := by
  obtain ⟨hx, hb, hml, ht, hown, hK, hA, hE⟩ := id X
  unfold p_X6_callFor_J94 at h
  obtain ⟨y94, ey94⟩ : ∃ y : Int32, y = (x5 + (1 : Int32)) := ⟨_, rfl⟩
  replace h := h y94 ey94
  refine lv_iinc (v := y94) (lv' := [(5, .int y94), (0, .ref o), (1, .int x1), (2, .int x2), (3, .int x3), (4, .int x4)]) hx hb dX6_callFor_94 hl (k := 5) rfl (by rw [ey94]; rfl) (by decide) rfl (fun ls hl => ?_)
  refine lv_goto (tgt := 31) hx hb dX6_callFor_97 (by decide) ?_
  exact hB31 Ft At x3 x4 y94 _ _ _ h hP hD hS (lv_sub hl [1, 2, 3, 4, 5, 0] rfl)
def p_X6_callFor_L31 (F : tF) (Fn : tF) (An : tA) (x1 : Int32) (x2 : Int32) (K : Int32 → tF → tA → Prop) : Nat → tF → tA → Int32 → Int32 → Int32 → Prop
  | 0, _, _, _, _, _ => False
  | n31 + 1, Ft, At, x3, x4, x5 => (((6 : Int32) < x5 → (K x3 Ft At)) ∧ (¬ (6 : Int32) < x5 → (p_X2_copyFrom Ft At Fn An (fun Ft_46 At_46 => (p_X2_passDays (upd Ft_46 10 x5) At_46 x2 (fun Ft_63 At_63 => (∀ y78 : Int32, y78 = (if 0 ≤ ((Ft_63 9) - x1) then ((Ft_63 9) - x1) else 0 - ((Ft_63 9) - x1)) → ((x4 ≤ y78 → (p_X6_callFor_J94 F Ft_63 At_63 Fn An (p_X6_callFor_L31 F Fn An x1 x2 K n31) K x1 x2 x3 x4 x5)) ∧ (¬ x4 ≤ y78 → (p_X6_callFor_J94 F Ft_63 At_63 Fn An (p_X6_callFor_L31 F Fn An x1 x2 K n31) K x1 x2 x5 y78 x5))))))))))
set_option maxHeartbeats 4000000 in
set_option maxRecDepth 100000 in
theorem b_X6_callFor_L31 {p : Program} {l : Launch} {e : Env} {s : State} {m : MethodId} {args : Array Value} {below : List Frame} {meth : Method} {c : Code} {Q : State → Prop} {D : va_G} {cI cZ cR : ClassId} {adK adV : Nat → Nat} {A9 : Nat → Prop} {o : Nat} {q : Nat → Nat} {qt : Nat → Nat} {qn : Nat → Nat} {K : Int32 → tF → tA → Prop}  (F : tF) (Fn : tF) (An : tA) (x1 : Int32) (x2 : Int32) (X : CX p s m args c yX6_callFor.cls cX6_callFor 7 D cI cZ cR adK adV A9) (ret : RTi p l e (rmN 6 215) s m args below meth c Q cX6_callFor D A9 (fun (r : Int32) (u : (tF × tA)) => K r u.1 u.2) (fun (u : (tF × tA)) => (wX6 o q F ++ wX2 cI cZ (q 1) qt u.1 u.2 ++ wX2 cI cZ (q 0) qn Fn An : va_W)))   : ∀ (n : Nat) (Ft : tF) (At : tA) (x3 : Int32) (x4 : Int32) (x5 : Int32) (H : Heap) (locs : List Loc) (ls : Array Slot), p_X6_callFor_L31 F Fn An x1 x2 K n Ft At x3 x4 x5 → va_P D vwCl (wX6 o q F ++ wX2 cI cZ (q 1) qt Ft At ++ wX2 cI cZ (q 0) qn Fn An : va_W) H → va_D A9 (wX6 o q F ++ wX2 cI cZ (q 1) qt Ft At ++ wX2 cI cZ (q 0) qn Fn An : va_W) → va_S A9 s.heap H locs → lv_has ls 7 [(0, .ref o), (1, .int x1), (2, .int x2), (3, .int x3), (4, .int x4), (5, .int x5)] → W p l e (rmN 6 215) s m args below meth c H locs 0 0 Q (F0 m 31 ls []) := by
  obtain ⟨hx, hb, hml, ht, hown, hK, hA, hE⟩ := id X
  intro n
  induction n with
  | zero => intro Ft At x3 x4 x5 H locs ls h; exact False.elim h
  | succ n31 ih =>
    intro Ft At x3 x4 x5 H locs ls h hP hD hS hl
    rw [p_X6_callFor_L31] at h
    refine lv_iload hx hb dX6_callFor_31 (lv_at hl 5 rfl) ?_
    refine lv_bipush (v := 6) hx hb dX6_callFor_33 (by decide) ?_
    refine lv_icmp_gt (tgt := 100) hx hb dX6_callFor_35 (by decide) (fun c35 => ?_) (fun c35 => ?_)
    · replace h := h.1 c35
      refine lv_iload_n hx hb dX6_callFor_100 rfl (lv_at hl 3 rfl) ?_
      exact ret _ (Ft, At) _ _ _ _ dX6_callFor_101 h hP hD hS
    · replace h := h.2 c35
      refine lv_aload_n hx hb dX6_callFor_38 rfl (lv_at hl 0 rfl) ?_
      refine va_get (C := RX6) (T := TX6) (N := 13) (own := RX6) (v := .ref (q 1)) hx hb ht inlX6 hown hK hP 0 rfl rfl 1 (Nat.le_of_ble_eq_true rfl) (ht _ mw_1_17) (fun _ h9 => h9) rfl dX6_callFor_39 ?_
      refine lv_aload_n hx hb dX6_callFor_42 rfl (lv_at hl 0 rfl) ?_
      refine va_get (C := RX6) (T := TX6) (N := 13) (own := RX6) (v := .ref (q 0)) hx hb ht inlX6 hown hK hP 0 rfl rfl 0 (Nat.le_of_ble_eq_true rfl) (ht _ mw_1_16) (fun _ h9 => h9) rfl dX6_callFor_43 ?_
      refine C_vv (wr := [0].filterMap (fun i => (wX6 o q F ++ wX2 cI cZ (q 1) qt Ft At ++ wX2 cI cZ (q 0) qn Fn An : va_W)[i]?)) X hP hD hS [.ref (q 0)] [] (w_X2_copyFrom l D cI cZ cR adK adV _ (q 1) qt (q 0) qn Ft At Fn An _ h) cal_X2_copyFrom mw_7_3 rfl [1, 2, 3, 4, 5, 6, 7, 8, 9, 10, 11, 12, 13, 14, 15, 16, 17, 18] [0] [0, 1, 2, 3, 4, 5, 6, 7, 8, 9, 10, 11, 12, 13, 14, 15, 16, 17, 18] (fun u => (wX6 o q F ++ wX2 cI cZ (q 1) qt u.1 u.2 ++ wX2 cI cZ (q 0) qn Fn An : va_W)) rfl rfl (fun _ => rfl) rfl 1 rfl rfl ⟨rfl, rfl⟩ ⟨Nat.le_of_ble_eq_true rfl, Nat.le_of_ble_eq_true rfl⟩ hl.1 rfl (Nat.le_of_ble_eq_true rfl) ⟨Nat.zero_le _, Nat.zero_le _⟩ dX6_callFor_46 (fun u H locs h hP hD hS => ?_)
      obtain ⟨Ft_46, At_46⟩ := u
      try dsimp only at h
      have hP : va_P D vwCl (wX6 o q F ++ wX2 cI cZ (q 1) qt Ft_46 At_46 ++ wX2 cI cZ (q 0) qn Fn An : va_W) H := hP
      have hD : va_D A9 (wX6 o q F ++ wX2 cI cZ (q 1) qt Ft_46 At_46 ++ wX2 cI cZ (q 0) qn Fn An : va_W) := hD
      refine lv_aload_n hx hb dX6_callFor_49 rfl (lv_at hl 0 rfl) ?_
      refine va_get (C := RX6) (T := TX6) (N := 13) (own := RX6) (v := .ref (q 1)) hx hb ht inlX6 hown hK hP 0 rfl rfl 1 (Nat.le_of_ble_eq_true rfl) (ht _ mw_1_17) (fun _ h9 => h9) rfl dX6_callFor_50 ?_
      refine lv_iload hx hb dX6_callFor_53 (lv_at hl 5 rfl) ?_
      refine va_put (C := RX2) (T := TX2) (N := 13) (own := RX6) (v := .int x5) hx hb ht inlX2 tyX2 tyX2_ok nmX2 hown hK hP hD hS 1 rfl rfl 10 (Nat.le_of_ble_eq_true rfl) (ht _ mw_23_18) (fun _ h9 => h9) rfl (tyX2_ok 10 (Nat.le_of_ble_eq_true rfl)) rfl rfl (Nat.le_of_ble_eq_true rfl) dX6_callFor_55 (fun H locs hP hD hS => ?_)
      have hP : va_P D vwCl (wX6 o q F ++ wX2 cI cZ (q 1) qt (upd Ft_46 10 x5) At_46 ++ wX2 cI cZ (q 0) qn Fn An : va_W) H := hP
      have hD : va_D A9 (wX6 o q F ++ wX2 cI cZ (q 1) qt (upd Ft_46 10 x5) At_46 ++ wX2 cI cZ (q 0) qn Fn An : va_W) := hD
      refine lv_aload_n hx hb dX6_callFor_58 rfl (lv_at hl 0 rfl) ?_
      refine va_get (C := RX6) (T := TX6) (N := 13) (own := RX6) (v := .ref (q 1)) hx hb ht inlX6 hown hK hP 0 rfl rfl 1 (Nat.le_of_ble_eq_true rfl) (ht _ mw_1_17) (fun _ h9 => h9) rfl dX6_callFor_59 ?_
      refine lv_iload_n hx hb dX6_callFor_62 rfl (lv_at hl 2 rfl) ?_
      refine C_vv (wr := [0, 10, 11, 12, 13, 14, 15, 16, 17, 18].filterMap (fun i => (wX6 o q F ++ wX2 cI cZ (q 1) qt (upd Ft_46 10 x5) At_46 ++ wX2 cI cZ (q 0) qn Fn An : va_W)[i]?)) X hP hD hS [.int x2] [] (w_X2_passDays l D cI cZ cR adK adV _ (q 1) qt (upd Ft_46 10 x5) At_46 x2 _ h) cal_X2_passDays mw_24_20 rfl [1, 2, 3, 4, 5, 6, 7, 8, 9] [0, 10, 11, 12, 13, 14, 15, 16, 17, 18] [0, 10, 11, 12, 13, 14, 15, 16, 17, 18, 1, 2, 3, 4, 5, 6, 7, 8, 9] (fun u => (wX6 o q F ++ wX2 cI cZ (q 1) qt u.1 u.2 ++ wX2 cI cZ (q 0) qn Fn An : va_W)) rfl rfl (fun _ => rfl) rfl 1 rfl rfl ⟨rfl, rfl⟩ ⟨Nat.le_of_ble_eq_true rfl, Nat.le_of_ble_eq_true rfl⟩ hl.1 rfl (Nat.le_of_ble_eq_true rfl) ⟨Nat.zero_le _, Nat.zero_le _⟩ dX6_callFor_63 (fun u H locs h hP hD hS => ?_)
      obtain ⟨Ft_63, At_63⟩ := u
      try dsimp only at h
      have hP : va_P D vwCl (wX6 o q F ++ wX2 cI cZ (q 1) qt Ft_63 At_63 ++ wX2 cI cZ (q 0) qn Fn An : va_W) H := hP
      have hD : va_D A9 (wX6 o q F ++ wX2 cI cZ (q 1) qt Ft_63 At_63 ++ wX2 cI cZ (q 0) qn Fn An : va_W) := hD
      refine lv_aload_n hx hb dX6_callFor_66 rfl (lv_at hl 0 rfl) ?_
      refine va_get (C := RX6) (T := TX6) (N := 13) (own := RX6) (v := .ref (q 1)) hx hb ht inlX6 hown hK hP 0 rfl rfl 1 (Nat.le_of_ble_eq_true rfl) (ht _ mw_1_17) (fun _ h9 => h9) rfl dX6_callFor_67 ?_
      refine va_get (C := RX2) (T := TX2) (N := 13) (own := RX6) (v := .int (Ft_63 9)) hx hb ht inlX2 hown hK hP 1 rfl rfl 9 (Nat.le_of_ble_eq_true rfl) (ht _ mw_23_9) (fun _ h9 => h9) rfl dX6_callFor_70 ?_
      refine lv_iload_n hx hb dX6_callFor_73 rfl (lv_at hl 1 rfl) ?_
      refine lv_isub hx hb dX6_callFor_74 ?_
      refine va_mabs hx hb (hml.trans hl.1.symm) hown (ht _ mw_30_21) (ht _ mw_18_1) (ht _ mw_18_2) (ht _ mw_18_3) (Nat.le_of_ble_eq_true rfl) (Nat.le_of_ble_eq_true rfl) (Nat.zero_le _) (Nat.zero_le _) dX6_callFor_75 ?_
      refine lv_topi (fun y78 ey78 => ?_)
      replace h := h y78 ey78
      refine lv_istore (lv' := [(6, .int y78), (0, .ref o), (1, .int x1), (2, .int x2), (3, .int x3), (4, .int x4), (5, .int x5)]) hx hb dX6_callFor_78 hl (by decide) rfl (fun ls hl => ?_)
      refine lv_iload hx hb dX6_callFor_80 (lv_at hl 0 rfl) ?_
      refine lv_iload hx hb dX6_callFor_82 (lv_at hl 5 rfl) ?_
      refine lv_icmp_ge (tgt := 94) hx hb dX6_callFor_84 (by decide) (fun c84 => ?_) (fun c84 => ?_)
      · replace h := h.1 c84
        exact b_X6_callFor_J94 F Ft_63 At_63 Fn An x1 x2 x3 x4 x5 X ret ih _ _ _ h hP hD hS (lv_sub hl [1, 2, 3, 4, 5, 6] rfl)
      · replace h := h.2 c84
        refine lv_iload hx hb dX6_callFor_87 (lv_at hl 0 rfl) ?_
        refine lv_istore (lv' := [(4, .int y78), (6, .int y78), (0, .ref o), (1, .int x1), (2, .int x2), (3, .int x3), (5, .int x5)]) hx hb dX6_callFor_89 hl (by decide) rfl (fun ls hl => ?_)
        refine lv_iload hx hb dX6_callFor_91 (lv_at hl 6 rfl) ?_
        refine lv_istore_n (lv' := [(3, .int x5), (4, .int y78), (6, .int y78), (0, .ref o), (1, .int x1), (2, .int x2), (5, .int x5)]) hx hb dX6_callFor_93 rfl hl (by decide) rfl (fun ls hl => ?_)
        exact b_X6_callFor_J94 F Ft_63 At_63 Fn An x1 x2 x5 y78 x5 X ret ih _ _ _ h hP hD hS (lv_sub hl [3, 4, 5, 0, 1, 6] rfl)
def p_X6_callFor (F : tF) (Ft : tF) (At : tA) (Fn : tF) (An : tA) (x1 : Int32) (x2 : Int32) (K : Int32 → tF → tA → Prop) : Prop := (p_X6_within x1 (6 : Int32) (fun r3 => ((r3 = 0 → (K (-1 : Int32) Ft At)) ∧ (¬ r3 = 0 → ((x2 < (1 : Int32) → (K (-1 : Int32) Ft At)) ∧ (¬ x2 < (1 : Int32) → ((x2 ≤ (20 : Int32) → (∃ n31, p_X6_callFor_L31 F Fn An x1 x2 K n31 Ft At (0 : Int32) (6 : Int32) (0 : Int32))) ∧ (¬ x2 ≤ (20 : Int32) → (K (-1 : Int32) Ft At)))))))))
set_option maxHeartbeats 4000000 in
set_option maxRecDepth 100000 in
theorem w_X6_callFor (l : Launch) (D : va_G) (cI cZ cR : ClassId) (adK adV : Nat → Nat) (sz : Nat) (o : Nat) (q : Nat → Nat) (qt : Nat → Nat) (qn : Nat → Nat) (F : tF) (Ft : tF) (At : tA) (Fn : tF) (An : tA) (x1 : Int32) (x2 : Int32) (K : Int32 → tF → tA → Prop) (h : p_X6_callFor F Ft At Fn An x1 x2 K) : MI l D cI cZ cR adK adV yX6_callFor cX6_callFor 7 (some .int) (rmN 6 215) [.ref o, .int x1, .int x2] (wX6 o q F ++ wX2 cI cZ (q 1) qt Ft At ++ wX2 cI cZ (q 0) qn Fn An : va_W) sz (fun (r : Int32) (u : (tF × tA)) => K r u.1 u.2) (fun (u : (tF × tA)) => (wX6 o q F ++ wX2 cI cZ (q 1) qt u.1 u.2 ++ wX2 cI cZ (q 0) qn Fn An : va_W)) := by
  refine M_i (by decide +kernel) (Nat.le_of_ble_eq_true rfl) ?_
  intro p e s m args below meth c Q A9 ls X ret hP hD hS hl
  obtain ⟨hx, hb, hml, ht, hown, hK, hA, hE⟩ := id X
  have hl : lv_has ls 7 [(0, .ref o), (1, .int x1), (2, .int x2)] := hl
  unfold p_X6_callFor at h
  refine lv_iload_n hx hb dX6_callFor_0 rfl (lv_at hl 1 rfl) ?_
  refine lv_bipush (v := 6) hx hb dX6_callFor_1 (by decide) ?_
  refine C_si (wr := [0, 1, 2, 3, 4, 5, 6, 7, 8, 9, 10, 11, 12, 13, 14, 15, 16, 17, 18].filterMap (fun i => (wX6 o q F ++ wX2 cI cZ (q 1) qt Ft At ++ wX2 cI cZ (q 0) qn Fn An : va_W)[i]?)) X hP hD hS [.int x1, .int (6 : Int32)] [] (w_X6_within l D cI cZ cR adK adV _ x1 (6 : Int32) _ h) cal_X6_within mw_15_9 rfl [] [0, 1, 2, 3, 4, 5, 6, 7, 8, 9, 10, 11, 12, 13, 14, 15, 16, 17, 18] [0, 1, 2, 3, 4, 5, 6, 7, 8, 9, 10, 11, 12, 13, 14, 15, 16, 17, 18] (fun u => (wX6 o q F ++ wX2 cI cZ (q 1) qt Ft At ++ wX2 cI cZ (q 0) qn Fn An : va_W)) rfl rfl (fun _ => rfl) rfl ⟨rfl, rfl⟩ ⟨Nat.le_of_ble_eq_true rfl, Nat.le_of_ble_eq_true rfl⟩ hl.1 rfl (Nat.le_of_ble_eq_true rfl) ⟨Nat.zero_le _, Nat.zero_le _⟩ dX6_callFor_3 (fun r3 u H locs h hP hD hS => ?_)
  refine lv_if_eq (tgt := 20) hx hb dX6_callFor_6 (by decide) (fun c6 => ?_) (fun c6 => ?_)
  · replace h := h.1 c6
    refine lv_iconst (v := -1) hx hb dX6_callFor_20 (by decide) ?_
    exact ret _ (Ft, At) _ _ _ _ dX6_callFor_21 h hP hD hS
  · replace h := h.2 c6
    refine lv_iload_n hx hb dX6_callFor_9 rfl (lv_at hl 2 rfl) ?_
    refine lv_iconst (v := 1) hx hb dX6_callFor_10 (by decide) ?_
    refine lv_icmp_lt (tgt := 20) hx hb dX6_callFor_11 (by decide) (fun c11 => ?_) (fun c11 => ?_)
    · replace h := h.1 c11
      refine lv_iconst (v := -1) hx hb dX6_callFor_20 (by decide) ?_
      exact ret _ (Ft, At) _ _ _ _ dX6_callFor_21 h hP hD hS
    · replace h := h.2 c11
      refine lv_iload_n hx hb dX6_callFor_14 rfl (lv_at hl 2 rfl) ?_
      refine lv_bipush (v := 20) hx hb dX6_callFor_15 (by decide) ?_
      refine lv_icmp_le (tgt := 22) hx hb dX6_callFor_17 (by decide) (fun c17 => ?_) (fun c17 => ?_)
      · replace h := h.1 c17
        refine lv_iconst (v := 0) hx hb dX6_callFor_22 (by decide) ?_
        refine lv_istore_n (lv' := [(3, .int (0 : Int32)), (0, .ref o), (1, .int x1), (2, .int x2)]) hx hb dX6_callFor_23 rfl hl (by decide) rfl (fun ls hl => ?_)
        refine lv_bipush (v := 6) hx hb dX6_callFor_24 (by decide) ?_
        refine lv_istore (lv' := [(4, .int (6 : Int32)), (3, .int (0 : Int32)), (0, .ref o), (1, .int x1), (2, .int x2)]) hx hb dX6_callFor_26 hl (by decide) rfl (fun ls hl => ?_)
        refine lv_iconst (v := 0) hx hb dX6_callFor_28 (by decide) ?_
        refine lv_istore (lv' := [(5, .int (0 : Int32)), (4, .int (6 : Int32)), (3, .int (0 : Int32)), (0, .ref o), (1, .int x1), (2, .int x2)]) hx hb dX6_callFor_29 hl (by decide) rfl (fun ls hl => ?_)
        obtain ⟨n31, h⟩ := h
        exact b_X6_callFor_L31 F Fn An x1 x2 X ret  n31 Ft At (0 : Int32) (6 : Int32) (0 : Int32) _ _ _ h hP hD hS (lv_sub hl [3, 4, 5, 2, 1, 0] rfl)
      · replace h := h.2 c17
        refine lv_iconst (v := -1) hx hb dX6_callFor_20 (by decide) ?_
        exact ret _ (Ft, At) _ _ _ _ dX6_callFor_21 h hP hD hS
theorem dX6_kindFor_0 : decode cX6_kindFor 0 = .ok (.aload_n 0, 1) := by decide +kernel
theorem dX6_kindFor_1 : decode cX6_kindFor 1 = .ok (.iload_n 1, 1) := by decide +kernel
theorem dX6_kindFor_2 : decode cX6_kindFor 2 = .ok (.invokevirtual 114, 3) := by decide +kernel
theorem dX6_kindFor_5 : decode cX6_kindFor 5 = .ok (.ifCond .eq 23, 3) := by decide +kernel
theorem dX6_kindFor_8 : decode cX6_kindFor 8 = .ok (.iload_n 2, 1) := by decide +kernel
theorem dX6_kindFor_9 : decode cX6_kindFor 9 = .ok (.bipush 6, 2) := by decide +kernel
theorem dX6_kindFor_11 : decode cX6_kindFor 11 = .ok (.invokestatic 95, 3) := by decide +kernel
theorem dX6_kindFor_14 : decode cX6_kindFor 14 = .ok (.ifCond .eq 14, 3) := by decide +kernel
theorem dX6_kindFor_17 : decode cX6_kindFor 17 = .ok (.iload_n 3, 1) := by decide +kernel
theorem dX6_kindFor_18 : decode cX6_kindFor 18 = .ok (.iconst 1, 1) := by decide +kernel
theorem dX6_kindFor_19 : decode cX6_kindFor 19 = .ok (.if_icmp .lt 9, 3) := by decide +kernel
theorem dX6_kindFor_22 : decode cX6_kindFor 22 = .ok (.iload_n 3, 1) := by decide +kernel
theorem dX6_kindFor_23 : decode cX6_kindFor 23 = .ok (.bipush 20, 2) := by decide +kernel
theorem dX6_kindFor_25 : decode cX6_kindFor 25 = .ok (.if_icmp .le 5, 3) := by decide +kernel
theorem dX6_kindFor_28 : decode cX6_kindFor 28 = .ok (.iconst (-1), 1) := by decide +kernel
theorem dX6_kindFor_29 : decode cX6_kindFor 29 = .ok (.ireturn, 1) := by decide +kernel
theorem dX6_kindFor_30 : decode cX6_kindFor 30 = .ok (.iconst 0, 1) := by decide +kernel
theorem dX6_kindFor_31 : decode cX6_kindFor 31 = .ok (.istore 4, 2) := by decide +kernel
theorem dX6_kindFor_33 : decode cX6_kindFor 33 = .ok (.bipush 6, 2) := by decide +kernel
theorem dX6_kindFor_35 : decode cX6_kindFor 35 = .ok (.istore 5, 2) := by decide +kernel
theorem dX6_kindFor_37 : decode cX6_kindFor 37 = .ok (.iconst 0, 1) := by decide +kernel
theorem dX6_kindFor_38 : decode cX6_kindFor 38 = .ok (.istore 6, 2) := by decide +kernel
theorem dX6_kindFor_40 : decode cX6_kindFor 40 = .ok (.iload 6, 2) := by decide +kernel
theorem dX6_kindFor_42 : decode cX6_kindFor 42 = .ok (.bipush 6, 2) := by decide +kernel
theorem dX6_kindFor_44 : decode cX6_kindFor 44 = .ok (.if_icmp .ge 68, 3) := by decide +kernel
theorem dX6_kindFor_47 : decode cX6_kindFor 47 = .ok (.aload_n 0, 1) := by decide +kernel
theorem dX6_kindFor_48 : decode cX6_kindFor 48 = .ok (.getfield 16, 3) := by decide +kernel
theorem dX6_kindFor_51 : decode cX6_kindFor 51 = .ok (.aload_n 0, 1) := by decide +kernel
theorem dX6_kindFor_52 : decode cX6_kindFor 52 = .ok (.getfield 10, 3) := by decide +kernel
theorem dX6_kindFor_55 : decode cX6_kindFor 55 = .ok (.invokevirtual 81, 3) := by decide +kernel
theorem dX6_kindFor_58 : decode cX6_kindFor 58 = .ok (.aload_n 0, 1) := by decide +kernel
theorem dX6_kindFor_59 : decode cX6_kindFor 59 = .ok (.getfield 16, 3) := by decide +kernel
theorem dX6_kindFor_62 : decode cX6_kindFor 62 = .ok (.getfield 117, 3) := by decide +kernel
theorem dX6_kindFor_65 : decode cX6_kindFor 65 = .ok (.iload_n 1, 1) := by decide +kernel
theorem dX6_kindFor_66 : decode cX6_kindFor 66 = .ok (.iload 6, 2) := by decide +kernel
theorem dX6_kindFor_68 : decode cX6_kindFor 68 = .ok (.iastore, 1) := by decide +kernel
theorem dX6_kindFor_69 : decode cX6_kindFor 69 = .ok (.aload_n 0, 1) := by decide +kernel
theorem dX6_kindFor_70 : decode cX6_kindFor 70 = .ok (.getfield 16, 3) := by decide +kernel
theorem dX6_kindFor_73 : decode cX6_kindFor 73 = .ok (.iload_n 3, 1) := by decide +kernel
theorem dX6_kindFor_74 : decode cX6_kindFor 74 = .ok (.invokevirtual 167, 3) := by decide +kernel
theorem dX6_kindFor_77 : decode cX6_kindFor 77 = .ok (.aload_n 0, 1) := by decide +kernel
theorem dX6_kindFor_78 : decode cX6_kindFor 78 = .ok (.getfield 16, 3) := by decide +kernel
theorem dX6_kindFor_81 : decode cX6_kindFor 81 = .ok (.getfield 157, 3) := by decide +kernel
theorem dX6_kindFor_84 : decode cX6_kindFor 84 = .ok (.iload_n 2, 1) := by decide +kernel
theorem dX6_kindFor_85 : decode cX6_kindFor 85 = .ok (.isub, 1) := by decide +kernel
theorem dX6_kindFor_86 : decode cX6_kindFor 86 = .ok (.invokestatic 193, 3) := by decide +kernel
theorem dX6_kindFor_89 : decode cX6_kindFor 89 = .ok (.istore 7, 2) := by decide +kernel
theorem dX6_kindFor_91 : decode cX6_kindFor 91 = .ok (.iload 7, 2) := by decide +kernel
theorem dX6_kindFor_93 : decode cX6_kindFor 93 = .ok (.iload 5, 2) := by decide +kernel
theorem dX6_kindFor_95 : decode cX6_kindFor 95 = .ok (.if_icmp .ge 11, 3) := by decide +kernel
theorem dX6_kindFor_98 : decode cX6_kindFor 98 = .ok (.iload 7, 2) := by decide +kernel
theorem dX6_kindFor_100 : decode cX6_kindFor 100 = .ok (.istore 5, 2) := by decide +kernel
theorem dX6_kindFor_102 : decode cX6_kindFor 102 = .ok (.iload 6, 2) := by decide +kernel
theorem dX6_kindFor_104 : decode cX6_kindFor 104 = .ok (.istore 4, 2) := by decide +kernel
theorem dX6_kindFor_106 : decode cX6_kindFor 106 = .ok (.iinc 6 1, 3) := by decide +kernel
theorem dX6_kindFor_109 : decode cX6_kindFor 109 = .ok (.goto (-69), 3) := by decide +kernel
theorem dX6_kindFor_112 : decode cX6_kindFor 112 = .ok (.iload 4, 2) := by decide +kernel
theorem dX6_kindFor_114 : decode cX6_kindFor 114 = .ok (.ireturn, 1) := by decide +kernel
def p_X6_kindFor_J106 (F : tF) (Fn : tF) (An : tA) (Ft : tF) (At : tA) (B40 : (tF → tA → Int32 → Int32 → Int32 → Prop)) (K : Int32 → tF → tA → Prop) (x1 : Int32) (x2 : Int32) (x3 : Int32) (x4 : Int32) (x5 : Int32) (x6 : Int32) : Prop := (∀ y106 : Int32, y106 = (x6 + (1 : Int32)) → (B40 Ft At x4 x5 y106))
set_option maxHeartbeats 4000000 in
set_option maxRecDepth 100000 in
theorem b_X6_kindFor_J106 {p : Program} {l : Launch} {e : Env} {s : State} {m : MethodId} {args : Array Value} {below : List Frame} {meth : Method} {c : Code} {Q : State → Prop} {D : va_G} {cI cZ cR : ClassId} {adK adV : Nat → Nat} {A9 : Nat → Prop} {o : Nat} {q : Nat → Nat} {qn : Nat → Nat} {qt : Nat → Nat} {K : Int32 → tF → tA → Prop} {B40 : (tF → tA → Int32 → Int32 → Int32 → Prop)} (F : tF) (Fn : tF) (An : tA) (Ft : tF) (At : tA) (x1 : Int32) (x2 : Int32) (x3 : Int32) (x4 : Int32) (x5 : Int32) (x6 : Int32) (X : CX p s m args c yX6_kindFor.cls cX6_kindFor 8 D cI cZ cR adK adV A9) (ret : RTi p l e (rmN 6 215) s m args below meth c Q cX6_kindFor D A9 (fun (r : Int32) (u : (tF × tA)) => K r u.1 u.2) (fun (u : (tF × tA)) => (wX6 o q F ++ wX2 cI cZ (q 0) qn Fn An ++ wX2 cI cZ (q 1) qt u.1 u.2 : va_W))) (hB40 : ∀ (Ft : tF) (At : tA) (x4 : Int32) (x5 : Int32) (x6 : Int32) (H : Heap) (locs : List Loc) (ls : Array Slot), B40 Ft At x4 x5 x6 → va_P D vwCl (wX6 o q F ++ wX2 cI cZ (q 0) qn Fn An ++ wX2 cI cZ (q 1) qt Ft At : va_W) H → va_D A9 (wX6 o q F ++ wX2 cI cZ (q 0) qn Fn An ++ wX2 cI cZ (q 1) qt Ft At : va_W) → va_S A9 s.heap H locs → lv_has ls 8 [(0, .ref o), (1, .int x1), (2, .int x2), (3, .int x3), (4, .int x4), (5, .int x5), (6, .int x6)] → W p l e (rmN 6 215) s m args below meth c H locs 0 0 Q (F0 m 40 ls [])) (H : Heap) (locs : List Loc) (ls : Array Slot) (h : p_X6_kindFor_J106 F Fn An Ft At B40 K x1 x2 x3 x4 x5 x6) (hP : va_P D vwCl (wX6 o q F ++ wX2 cI cZ (q 0) qn Fn An ++ wX2 cI cZ (q 1) qt Ft At : va_W) H) (hD : va_D A9 (wX6 o q F ++ wX2 cI cZ (q 0) qn Fn An ++ wX2 cI cZ (q 1) qt Ft At : va_W)) (hS : va_S A9 s.heap H locs) (hl : lv_has ls 8 [(0, .ref o), (1, .int x1), (2, .int x2), (3, .int x3), (4, .int x4), (5, .int x5), (6, .int x6)]) : W p l e (rmN 6 215) s m args below meth c H locs 0 0 Q (F0 m 106 ls []) := by
  obtain ⟨hx, hb, hml, ht, hown, hK, hA, hE⟩ := id X
  unfold p_X6_kindFor_J106 at h
  obtain ⟨y106, ey106⟩ : ∃ y : Int32, y = (x6 + (1 : Int32)) := ⟨_, rfl⟩
  replace h := h y106 ey106
  refine lv_iinc (v := y106) (lv' := [(6, .int y106), (0, .ref o), (1, .int x1), (2, .int x2), (3, .int x3), (4, .int x4), (5, .int x5)]) hx hb dX6_kindFor_106 hl (k := 6) rfl (by rw [ey106]; rfl) (by decide) rfl (fun ls hl => ?_)
  refine lv_goto (tgt := 40) hx hb dX6_kindFor_109 (by decide) ?_
  exact hB40 Ft At x4 x5 y106 _ _ _ h hP hD hS (lv_sub hl [1, 2, 3, 4, 5, 6, 0] rfl)
def p_X6_kindFor_L40 (F : tF) (Fn : tF) (An : tA) (x1 : Int32) (x2 : Int32) (x3 : Int32) (K : Int32 → tF → tA → Prop) : Nat → tF → tA → Int32 → Int32 → Int32 → Prop
  | 0, _, _, _, _, _ => False
  | n40 + 1, Ft, At, x4, x5, x6 => (((6 : Int32) ≤ x6 → (K x4 Ft At)) ∧ (¬ (6 : Int32) ≤ x6 → (p_X2_copyFrom Ft At Fn An (fun Ft_55 At_55 => (vp_in x1 8 ∧ (∀ f_68 : tF, f_68 = (upd (At_55 3) (x1).toNatClampNeg x6) → (p_X2_passDays Ft_55 (va_up At_55 3 f_68) x3 (fun Ft_74 At_74 => (∀ y89 : Int32, y89 = (if 0 ≤ ((Ft_74 9) - x2) then ((Ft_74 9) - x2) else 0 - ((Ft_74 9) - x2)) → ((x5 ≤ y89 → (p_X6_kindFor_J106 F Fn An Ft_74 At_74 (p_X6_kindFor_L40 F Fn An x1 x2 x3 K n40) K x1 x2 x3 x4 x5 x6)) ∧ (¬ x5 ≤ y89 → (p_X6_kindFor_J106 F Fn An Ft_74 At_74 (p_X6_kindFor_L40 F Fn An x1 x2 x3 K n40) K x1 x2 x3 x6 y89 x6))))))))))))
set_option maxHeartbeats 4000000 in
set_option maxRecDepth 100000 in
theorem b_X6_kindFor_L40 {p : Program} {l : Launch} {e : Env} {s : State} {m : MethodId} {args : Array Value} {below : List Frame} {meth : Method} {c : Code} {Q : State → Prop} {D : va_G} {cI cZ cR : ClassId} {adK adV : Nat → Nat} {A9 : Nat → Prop} {o : Nat} {q : Nat → Nat} {qn : Nat → Nat} {qt : Nat → Nat} {K : Int32 → tF → tA → Prop}  (F : tF) (Fn : tF) (An : tA) (x1 : Int32) (x2 : Int32) (x3 : Int32) (X : CX p s m args c yX6_kindFor.cls cX6_kindFor 8 D cI cZ cR adK adV A9) (ret : RTi p l e (rmN 6 215) s m args below meth c Q cX6_kindFor D A9 (fun (r : Int32) (u : (tF × tA)) => K r u.1 u.2) (fun (u : (tF × tA)) => (wX6 o q F ++ wX2 cI cZ (q 0) qn Fn An ++ wX2 cI cZ (q 1) qt u.1 u.2 : va_W)))   : ∀ (n : Nat) (Ft : tF) (At : tA) (x4 : Int32) (x5 : Int32) (x6 : Int32) (H : Heap) (locs : List Loc) (ls : Array Slot), p_X6_kindFor_L40 F Fn An x1 x2 x3 K n Ft At x4 x5 x6 → va_P D vwCl (wX6 o q F ++ wX2 cI cZ (q 0) qn Fn An ++ wX2 cI cZ (q 1) qt Ft At : va_W) H → va_D A9 (wX6 o q F ++ wX2 cI cZ (q 0) qn Fn An ++ wX2 cI cZ (q 1) qt Ft At : va_W) → va_S A9 s.heap H locs → lv_has ls 8 [(0, .ref o), (1, .int x1), (2, .int x2), (3, .int x3), (4, .int x4), (5, .int x5), (6, .int x6)] → W p l e (rmN 6 215) s m args below meth c H locs 0 0 Q (F0 m 40 ls []) := by
  obtain ⟨hx, hb, hml, ht, hown, hK, hA, hE⟩ := id X
  intro n
  induction n with
  | zero => intro Ft At x4 x5 x6 H locs ls h; exact False.elim h
  | succ n40 ih =>
    intro Ft At x4 x5 x6 H locs ls h hP hD hS hl
    rw [p_X6_kindFor_L40] at h
    refine lv_iload hx hb dX6_kindFor_40 (lv_at hl 6 rfl) ?_
    refine lv_bipush (v := 6) hx hb dX6_kindFor_42 (by decide) ?_
    refine lv_icmp_ge (tgt := 112) hx hb dX6_kindFor_44 (by decide) (fun c44 => ?_) (fun c44 => ?_)
    · replace h := h.1 c44
      refine lv_iload hx hb dX6_kindFor_112 (lv_at hl 4 rfl) ?_
      exact ret _ (Ft, At) _ _ _ _ dX6_kindFor_114 h hP hD hS
    · replace h := h.2 c44
      refine lv_aload_n hx hb dX6_kindFor_47 rfl (lv_at hl 0 rfl) ?_
      refine va_get (C := RX6) (T := TX6) (N := 13) (own := RX6) (v := .ref (q 1)) hx hb ht inlX6 hown hK hP 0 rfl rfl 1 (Nat.le_of_ble_eq_true rfl) (ht _ mw_1_17) (fun _ h9 => h9) rfl dX6_kindFor_48 ?_
      refine lv_aload_n hx hb dX6_kindFor_51 rfl (lv_at hl 0 rfl) ?_
      refine va_get (C := RX6) (T := TX6) (N := 13) (own := RX6) (v := .ref (q 0)) hx hb ht inlX6 hown hK hP 0 rfl rfl 0 (Nat.le_of_ble_eq_true rfl) (ht _ mw_1_16) (fun _ h9 => h9) rfl dX6_kindFor_52 ?_
      refine C_vv (wr := [0].filterMap (fun i => (wX6 o q F ++ wX2 cI cZ (q 0) qn Fn An ++ wX2 cI cZ (q 1) qt Ft At : va_W)[i]?)) X hP hD hS [.ref (q 0)] [] (w_X2_copyFrom l D cI cZ cR adK adV _ (q 1) qt (q 0) qn Ft At Fn An _ h) cal_X2_copyFrom mw_7_3 rfl [10, 11, 12, 13, 14, 15, 16, 17, 18, 1, 2, 3, 4, 5, 6, 7, 8, 9] [0] [0, 10, 11, 12, 13, 14, 15, 16, 17, 18, 1, 2, 3, 4, 5, 6, 7, 8, 9] (fun u => (wX6 o q F ++ wX2 cI cZ (q 0) qn Fn An ++ wX2 cI cZ (q 1) qt u.1 u.2 : va_W)) rfl rfl (fun _ => rfl) rfl 10 rfl rfl ⟨rfl, rfl⟩ ⟨Nat.le_of_ble_eq_true rfl, Nat.le_of_ble_eq_true rfl⟩ hl.1 rfl (Nat.le_of_ble_eq_true rfl) ⟨Nat.zero_le _, Nat.zero_le _⟩ dX6_kindFor_55 (fun u H locs h hP hD hS => ?_)
      obtain ⟨Ft_55, At_55⟩ := u
      try dsimp only at h
      have hP : va_P D vwCl (wX6 o q F ++ wX2 cI cZ (q 0) qn Fn An ++ wX2 cI cZ (q 1) qt Ft_55 At_55 : va_W) H := hP
      have hD : va_D A9 (wX6 o q F ++ wX2 cI cZ (q 0) qn Fn An ++ wX2 cI cZ (q 1) qt Ft_55 At_55 : va_W) := hD
      refine lv_aload_n hx hb dX6_kindFor_58 rfl (lv_at hl 0 rfl) ?_
      refine va_get (C := RX6) (T := TX6) (N := 13) (own := RX6) (v := .ref (q 1)) hx hb ht inlX6 hown hK hP 0 rfl rfl 1 (Nat.le_of_ble_eq_true rfl) (ht _ mw_1_17) (fun _ h9 => h9) rfl dX6_kindFor_59 ?_
      refine va_get (C := RX2) (T := TX2) (N := 13) (own := RX6) (v := .ref (qt 3)) hx hb ht inlX2 hown hK hP 10 rfl rfl 3 (Nat.le_of_ble_eq_true rfl) (ht _ mw_17_4) (fun _ h9 => h9) rfl dX6_kindFor_62 ?_
      refine lv_iload_n hx hb dX6_kindFor_65 rfl (lv_at hl 1 rfl) ?_
      refine lv_iload hx hb dX6_kindFor_66 (lv_at hl 6 rfl) ?_
      obtain ⟨hi68, h⟩ := h
      obtain ⟨f_68, ef_68⟩ : ∃ z : tF, z = (upd (At_55 3) (x1).toNatClampNeg x6) := ⟨_, rfl⟩
      replace h := h f_68 ef_68
      refine g_iast (f := (At_55 3)) (k := (x1).toNatClampNeg) hx hb hK hP hD hS 14 0 rfl rfl hi68 rfl ef_68 dX6_kindFor_68 (fun H locs hP hD hS => ?_)
      have hP : va_P D vwCl (wX6 o q F ++ wX2 cI cZ (q 0) qn Fn An ++ wX2 cI cZ (q 1) qt Ft_55 (va_up At_55 3 f_68) : va_W) H := hP
      have hD : va_D A9 (wX6 o q F ++ wX2 cI cZ (q 0) qn Fn An ++ wX2 cI cZ (q 1) qt Ft_55 (va_up At_55 3 f_68) : va_W) := hD
      refine lv_aload_n hx hb dX6_kindFor_69 rfl (lv_at hl 0 rfl) ?_
      refine va_get (C := RX6) (T := TX6) (N := 13) (own := RX6) (v := .ref (q 1)) hx hb ht inlX6 hown hK hP 0 rfl rfl 1 (Nat.le_of_ble_eq_true rfl) (ht _ mw_1_17) (fun _ h9 => h9) rfl dX6_kindFor_70 ?_
      refine lv_iload_n hx hb dX6_kindFor_73 rfl (lv_at hl 3 rfl) ?_
      refine C_vv (wr := [0, 1, 2, 3, 4, 5, 6, 7, 8, 9].filterMap (fun i => (wX6 o q F ++ wX2 cI cZ (q 0) qn Fn An ++ wX2 cI cZ (q 1) qt Ft_55 (va_up At_55 3 f_68) : va_W)[i]?)) X hP hD hS [.int x3] [] (w_X2_passDays l D cI cZ cR adK adV _ (q 1) qt Ft_55 (va_up At_55 3 f_68) x3 _ h) cal_X2_passDays mw_24_20 rfl [10, 11, 12, 13, 14, 15, 16, 17, 18] [0, 1, 2, 3, 4, 5, 6, 7, 8, 9] [0, 1, 2, 3, 4, 5, 6, 7, 8, 9, 10, 11, 12, 13, 14, 15, 16, 17, 18] (fun u => (wX6 o q F ++ wX2 cI cZ (q 0) qn Fn An ++ wX2 cI cZ (q 1) qt u.1 u.2 : va_W)) rfl rfl (fun _ => rfl) rfl 10 rfl rfl ⟨rfl, rfl⟩ ⟨Nat.le_of_ble_eq_true rfl, Nat.le_of_ble_eq_true rfl⟩ hl.1 rfl (Nat.le_of_ble_eq_true rfl) ⟨Nat.zero_le _, Nat.zero_le _⟩ dX6_kindFor_74 (fun u H locs h hP hD hS => ?_)
      obtain ⟨Ft_74, At_74⟩ := u
      try dsimp only at h
      have hP : va_P D vwCl (wX6 o q F ++ wX2 cI cZ (q 0) qn Fn An ++ wX2 cI cZ (q 1) qt Ft_74 At_74 : va_W) H := hP
      have hD : va_D A9 (wX6 o q F ++ wX2 cI cZ (q 0) qn Fn An ++ wX2 cI cZ (q 1) qt Ft_74 At_74 : va_W) := hD
      refine lv_aload_n hx hb dX6_kindFor_77 rfl (lv_at hl 0 rfl) ?_
      refine va_get (C := RX6) (T := TX6) (N := 13) (own := RX6) (v := .ref (q 1)) hx hb ht inlX6 hown hK hP 0 rfl rfl 1 (Nat.le_of_ble_eq_true rfl) (ht _ mw_1_17) (fun _ h9 => h9) rfl dX6_kindFor_78 ?_
      refine va_get (C := RX2) (T := TX2) (N := 13) (own := RX6) (v := .int (Ft_74 9)) hx hb ht inlX2 hown hK hP 10 rfl rfl 9 (Nat.le_of_ble_eq_true rfl) (ht _ mw_23_9) (fun _ h9 => h9) rfl dX6_kindFor_81 ?_
      refine lv_iload_n hx hb dX6_kindFor_84 rfl (lv_at hl 2 rfl) ?_
      refine lv_isub hx hb dX6_kindFor_85 ?_
      refine va_mabs hx hb (hml.trans hl.1.symm) hown (ht _ mw_30_21) (ht _ mw_18_1) (ht _ mw_18_2) (ht _ mw_18_3) (Nat.le_of_ble_eq_true rfl) (Nat.le_of_ble_eq_true rfl) (Nat.zero_le _) (Nat.zero_le _) dX6_kindFor_86 ?_
      refine lv_topi (fun y89 ey89 => ?_)
      replace h := h y89 ey89
      refine lv_istore (lv' := [(7, .int y89), (0, .ref o), (1, .int x1), (2, .int x2), (3, .int x3), (4, .int x4), (5, .int x5), (6, .int x6)]) hx hb dX6_kindFor_89 hl (by decide) rfl (fun ls hl => ?_)
      refine lv_iload hx hb dX6_kindFor_91 (lv_at hl 0 rfl) ?_
      refine lv_iload hx hb dX6_kindFor_93 (lv_at hl 6 rfl) ?_
      refine lv_icmp_ge (tgt := 106) hx hb dX6_kindFor_95 (by decide) (fun c95 => ?_) (fun c95 => ?_)
      · replace h := h.1 c95
        exact b_X6_kindFor_J106 F Fn An Ft_74 At_74 x1 x2 x3 x4 x5 x6 X ret ih _ _ _ h hP hD hS (lv_sub hl [1, 2, 3, 4, 5, 6, 7] rfl)
      · replace h := h.2 c95
        refine lv_iload hx hb dX6_kindFor_98 (lv_at hl 0 rfl) ?_
        refine lv_istore (lv' := [(5, .int y89), (7, .int y89), (0, .ref o), (1, .int x1), (2, .int x2), (3, .int x3), (4, .int x4), (6, .int x6)]) hx hb dX6_kindFor_100 hl (by decide) rfl (fun ls hl => ?_)
        refine lv_iload hx hb dX6_kindFor_102 (lv_at hl 7 rfl) ?_
        refine lv_istore (lv' := [(4, .int x6), (5, .int y89), (7, .int y89), (0, .ref o), (1, .int x1), (2, .int x2), (3, .int x3), (6, .int x6)]) hx hb dX6_kindFor_104 hl (by decide) rfl (fun ls hl => ?_)
        exact b_X6_kindFor_J106 F Fn An Ft_74 At_74 x1 x2 x3 x6 y89 x6 X ret ih _ _ _ h hP hD hS (lv_sub hl [3, 4, 5, 6, 0, 1, 7] rfl)
def p_X6_kindFor (F : tF) (Fn : tF) (An : tA) (Ft : tF) (At : tA) (x1 : Int32) (x2 : Int32) (x3 : Int32) (K : Int32 → tF → tA → Prop) : Prop := (p_X6_isSheep F Fn An x1 (fun r2 => ((r2 = 0 → (K (-1 : Int32) Ft At)) ∧ (¬ r2 = 0 → (p_X6_within x2 (6 : Int32) (fun r11 => ((r11 = 0 → (K (-1 : Int32) Ft At)) ∧ (¬ r11 = 0 → ((x3 < (1 : Int32) → (K (-1 : Int32) Ft At)) ∧ (¬ x3 < (1 : Int32) → ((x3 ≤ (20 : Int32) → (∃ n40, p_X6_kindFor_L40 F Fn An x1 x2 x3 K n40 Ft At (0 : Int32) (6 : Int32) (0 : Int32))) ∧ (¬ x3 ≤ (20 : Int32) → (K (-1 : Int32) Ft At)))))))))))))
set_option maxHeartbeats 4000000 in
set_option maxRecDepth 100000 in
theorem w_X6_kindFor (l : Launch) (D : va_G) (cI cZ cR : ClassId) (adK adV : Nat → Nat) (sz : Nat) (o : Nat) (q : Nat → Nat) (qn : Nat → Nat) (qt : Nat → Nat) (F : tF) (Fn : tF) (An : tA) (Ft : tF) (At : tA) (x1 : Int32) (x2 : Int32) (x3 : Int32) (K : Int32 → tF → tA → Prop) (h : p_X6_kindFor F Fn An Ft At x1 x2 x3 K) : MI l D cI cZ cR adK adV yX6_kindFor cX6_kindFor 8 (some .int) (rmN 6 215) [.ref o, .int x1, .int x2, .int x3] (wX6 o q F ++ wX2 cI cZ (q 0) qn Fn An ++ wX2 cI cZ (q 1) qt Ft At : va_W) sz (fun (r : Int32) (u : (tF × tA)) => K r u.1 u.2) (fun (u : (tF × tA)) => (wX6 o q F ++ wX2 cI cZ (q 0) qn Fn An ++ wX2 cI cZ (q 1) qt u.1 u.2 : va_W)) := by
  refine M_i (by decide +kernel) (Nat.le_of_ble_eq_true rfl) ?_
  intro p e s m args below meth c Q A9 ls X ret hP hD hS hl
  obtain ⟨hx, hb, hml, ht, hown, hK, hA, hE⟩ := id X
  have hl : lv_has ls 8 [(0, .ref o), (1, .int x1), (2, .int x2), (3, .int x3)] := hl
  unfold p_X6_kindFor at h
  refine lv_aload_n hx hb dX6_kindFor_0 rfl (lv_at hl 0 rfl) ?_
  refine lv_iload_n hx hb dX6_kindFor_1 rfl (lv_at hl 1 rfl) ?_
  refine C_vi (wr := [10, 11, 12, 13, 14, 15, 16, 17, 18].filterMap (fun i => (wX6 o q F ++ wX2 cI cZ (q 0) qn Fn An ++ wX2 cI cZ (q 1) qt Ft At : va_W)[i]?)) X hP hD hS [.int x1] [] (w_X6_isSheep l D cI cZ cR adK adV _ o q qn F Fn An x1 _ h) cal_X6_isSheep mw_17_8 rfl [0, 1, 2, 3, 4, 5, 6, 7, 8, 9] [10, 11, 12, 13, 14, 15, 16, 17, 18] [9, 10, 11, 12, 13, 14, 15, 16, 17, 18, 0, 1, 2, 3, 4, 5, 6, 7, 8] (fun u => (wX6 o q F ++ wX2 cI cZ (q 0) qn Fn An ++ wX2 cI cZ (q 1) qt Ft At : va_W)) rfl rfl (fun _ => rfl) rfl 0 rfl rfl ⟨rfl, rfl⟩ ⟨Nat.le_of_ble_eq_true rfl, Nat.le_of_ble_eq_true rfl⟩ hl.1 rfl (Nat.le_of_ble_eq_true rfl) ⟨Nat.zero_le _, Nat.zero_le _⟩ dX6_kindFor_2 (fun r2 u H locs h hP hD hS => ?_)
  refine lv_if_eq (tgt := 28) hx hb dX6_kindFor_5 (by decide) (fun c5 => ?_) (fun c5 => ?_)
  · replace h := h.1 c5
    refine lv_iconst (v := -1) hx hb dX6_kindFor_28 (by decide) ?_
    exact ret _ (Ft, At) _ _ _ _ dX6_kindFor_29 h hP hD hS
  · replace h := h.2 c5
    refine lv_iload_n hx hb dX6_kindFor_8 rfl (lv_at hl 2 rfl) ?_
    refine lv_bipush (v := 6) hx hb dX6_kindFor_9 (by decide) ?_
    refine C_si (wr := [0, 1, 2, 3, 4, 5, 6, 7, 8, 9, 10, 11, 12, 13, 14, 15, 16, 17, 18].filterMap (fun i => (wX6 o q F ++ wX2 cI cZ (q 0) qn Fn An ++ wX2 cI cZ (q 1) qt Ft At : va_W)[i]?)) X hP hD hS [.int x2, .int (6 : Int32)] [] (w_X6_within l D cI cZ cR adK adV _ x2 (6 : Int32) _ h) cal_X6_within mw_15_9 rfl [] [0, 1, 2, 3, 4, 5, 6, 7, 8, 9, 10, 11, 12, 13, 14, 15, 16, 17, 18] [0, 1, 2, 3, 4, 5, 6, 7, 8, 9, 10, 11, 12, 13, 14, 15, 16, 17, 18] (fun u => (wX6 o q F ++ wX2 cI cZ (q 0) qn Fn An ++ wX2 cI cZ (q 1) qt Ft At : va_W)) rfl rfl (fun _ => rfl) rfl ⟨rfl, rfl⟩ ⟨Nat.le_of_ble_eq_true rfl, Nat.le_of_ble_eq_true rfl⟩ hl.1 rfl (Nat.le_of_ble_eq_true rfl) ⟨Nat.zero_le _, Nat.zero_le _⟩ dX6_kindFor_11 (fun r11 u H locs h hP hD hS => ?_)
    refine lv_if_eq (tgt := 28) hx hb dX6_kindFor_14 (by decide) (fun c14 => ?_) (fun c14 => ?_)
    · replace h := h.1 c14
      refine lv_iconst (v := -1) hx hb dX6_kindFor_28 (by decide) ?_
      exact ret _ (Ft, At) _ _ _ _ dX6_kindFor_29 h hP hD hS
    · replace h := h.2 c14
      refine lv_iload_n hx hb dX6_kindFor_17 rfl (lv_at hl 3 rfl) ?_
      refine lv_iconst (v := 1) hx hb dX6_kindFor_18 (by decide) ?_
      refine lv_icmp_lt (tgt := 28) hx hb dX6_kindFor_19 (by decide) (fun c19 => ?_) (fun c19 => ?_)
      · replace h := h.1 c19
        refine lv_iconst (v := -1) hx hb dX6_kindFor_28 (by decide) ?_
        exact ret _ (Ft, At) _ _ _ _ dX6_kindFor_29 h hP hD hS
      · replace h := h.2 c19
        refine lv_iload_n hx hb dX6_kindFor_22 rfl (lv_at hl 3 rfl) ?_
        refine lv_bipush (v := 20) hx hb dX6_kindFor_23 (by decide) ?_
        refine lv_icmp_le (tgt := 30) hx hb dX6_kindFor_25 (by decide) (fun c25 => ?_) (fun c25 => ?_)
        · replace h := h.1 c25
          refine lv_iconst (v := 0) hx hb dX6_kindFor_30 (by decide) ?_
          refine lv_istore (lv' := [(4, .int (0 : Int32)), (0, .ref o), (1, .int x1), (2, .int x2), (3, .int x3)]) hx hb dX6_kindFor_31 hl (by decide) rfl (fun ls hl => ?_)
          refine lv_bipush (v := 6) hx hb dX6_kindFor_33 (by decide) ?_
          refine lv_istore (lv' := [(5, .int (6 : Int32)), (4, .int (0 : Int32)), (0, .ref o), (1, .int x1), (2, .int x2), (3, .int x3)]) hx hb dX6_kindFor_35 hl (by decide) rfl (fun ls hl => ?_)
          refine lv_iconst (v := 0) hx hb dX6_kindFor_37 (by decide) ?_
          refine lv_istore (lv' := [(6, .int (0 : Int32)), (5, .int (6 : Int32)), (4, .int (0 : Int32)), (0, .ref o), (1, .int x1), (2, .int x2), (3, .int x3)]) hx hb dX6_kindFor_38 hl (by decide) rfl (fun ls hl => ?_)
          obtain ⟨n40, h⟩ := h
          exact b_X6_kindFor_L40 F Fn An x1 x2 x3 X ret  n40 Ft At (0 : Int32) (6 : Int32) (0 : Int32) _ _ _ h hP hD hS (lv_sub hl [3, 4, 5, 6, 2, 1, 0] rfl)
        · replace h := h.2 c25
          refine lv_iconst (v := -1) hx hb dX6_kindFor_28 (by decide) ?_
          exact ret _ (Ft, At) _ _ _ _ dX6_kindFor_29 h hP hD hS
theorem dX6_earFor_0 : decode cX6_earFor 0 = .ok (.aload_n 0, 1) := by decide +kernel
theorem dX6_earFor_1 : decode cX6_earFor 1 = .ok (.iload_n 1, 1) := by decide +kernel
theorem dX6_earFor_2 : decode cX6_earFor 2 = .ok (.invokevirtual 114, 3) := by decide +kernel
theorem dX6_earFor_5 : decode cX6_earFor 5 = .ok (.ifCond .eq 23, 3) := by decide +kernel
theorem dX6_earFor_8 : decode cX6_earFor 8 = .ok (.iload_n 2, 1) := by decide +kernel
theorem dX6_earFor_9 : decode cX6_earFor 9 = .ok (.bipush 6, 2) := by decide +kernel
theorem dX6_earFor_11 : decode cX6_earFor 11 = .ok (.invokestatic 95, 3) := by decide +kernel
theorem dX6_earFor_14 : decode cX6_earFor 14 = .ok (.ifCond .eq 14, 3) := by decide +kernel
theorem dX6_earFor_17 : decode cX6_earFor 17 = .ok (.iload_n 3, 1) := by decide +kernel
theorem dX6_earFor_18 : decode cX6_earFor 18 = .ok (.iconst 1, 1) := by decide +kernel
theorem dX6_earFor_19 : decode cX6_earFor 19 = .ok (.if_icmp .lt 9, 3) := by decide +kernel
theorem dX6_earFor_22 : decode cX6_earFor 22 = .ok (.iload_n 3, 1) := by decide +kernel
theorem dX6_earFor_23 : decode cX6_earFor 23 = .ok (.bipush 20, 2) := by decide +kernel
theorem dX6_earFor_25 : decode cX6_earFor 25 = .ok (.if_icmp .le 5, 3) := by decide +kernel
theorem dX6_earFor_28 : decode cX6_earFor 28 = .ok (.iconst (-1), 1) := by decide +kernel
theorem dX6_earFor_29 : decode cX6_earFor 29 = .ok (.ireturn, 1) := by decide +kernel
theorem dX6_earFor_30 : decode cX6_earFor 30 = .ok (.iconst 0, 1) := by decide +kernel
theorem dX6_earFor_31 : decode cX6_earFor 31 = .ok (.istore 4, 2) := by decide +kernel
theorem dX6_earFor_33 : decode cX6_earFor 33 = .ok (.iload 4, 2) := by decide +kernel
theorem dX6_earFor_35 : decode cX6_earFor 35 = .ok (.bipush 9, 2) := by decide +kernel
theorem dX6_earFor_37 : decode cX6_earFor 37 = .ok (.if_icmp .gt 53, 3) := by decide +kernel
theorem dX6_earFor_40 : decode cX6_earFor 40 = .ok (.aload_n 0, 1) := by decide +kernel
theorem dX6_earFor_41 : decode cX6_earFor 41 = .ok (.getfield 16, 3) := by decide +kernel
theorem dX6_earFor_44 : decode cX6_earFor 44 = .ok (.aload_n 0, 1) := by decide +kernel
theorem dX6_earFor_45 : decode cX6_earFor 45 = .ok (.getfield 10, 3) := by decide +kernel
theorem dX6_earFor_48 : decode cX6_earFor 48 = .ok (.invokevirtual 81, 3) := by decide +kernel
theorem dX6_earFor_51 : decode cX6_earFor 51 = .ok (.aload_n 0, 1) := by decide +kernel
theorem dX6_earFor_52 : decode cX6_earFor 52 = .ok (.getfield 16, 3) := by decide +kernel
theorem dX6_earFor_55 : decode cX6_earFor 55 = .ok (.getfield 120, 3) := by decide +kernel
theorem dX6_earFor_58 : decode cX6_earFor 58 = .ok (.iload_n 1, 1) := by decide +kernel
theorem dX6_earFor_59 : decode cX6_earFor 59 = .ok (.iload 4, 2) := by decide +kernel
theorem dX6_earFor_61 : decode cX6_earFor 61 = .ok (.iastore, 1) := by decide +kernel
theorem dX6_earFor_62 : decode cX6_earFor 62 = .ok (.aload_n 0, 1) := by decide +kernel
theorem dX6_earFor_63 : decode cX6_earFor 63 = .ok (.getfield 16, 3) := by decide +kernel
theorem dX6_earFor_66 : decode cX6_earFor 66 = .ok (.iload_n 3, 1) := by decide +kernel
theorem dX6_earFor_67 : decode cX6_earFor 67 = .ok (.invokevirtual 167, 3) := by decide +kernel
theorem dX6_earFor_70 : decode cX6_earFor 70 = .ok (.aload_n 0, 1) := by decide +kernel
theorem dX6_earFor_71 : decode cX6_earFor 71 = .ok (.getfield 16, 3) := by decide +kernel
theorem dX6_earFor_74 : decode cX6_earFor 74 = .ok (.getfield 157, 3) := by decide +kernel
theorem dX6_earFor_77 : decode cX6_earFor 77 = .ok (.iload_n 2, 1) := by decide +kernel
theorem dX6_earFor_78 : decode cX6_earFor 78 = .ok (.if_icmp .ne 6, 3) := by decide +kernel
theorem dX6_earFor_81 : decode cX6_earFor 81 = .ok (.iload 4, 2) := by decide +kernel
theorem dX6_earFor_83 : decode cX6_earFor 83 = .ok (.ireturn, 1) := by decide +kernel
theorem dX6_earFor_84 : decode cX6_earFor 84 = .ok (.iinc 4 1, 3) := by decide +kernel
theorem dX6_earFor_87 : decode cX6_earFor 87 = .ok (.goto (-54), 3) := by decide +kernel
theorem dX6_earFor_90 : decode cX6_earFor 90 = .ok (.bipush (-3), 2) := by decide +kernel
theorem dX6_earFor_92 : decode cX6_earFor 92 = .ok (.ireturn, 1) := by decide +kernel
def p_X6_earFor_L33 (F : tF) (Fn : tF) (An : tA) (x1 : Int32) (x2 : Int32) (x3 : Int32) (K : Int32 → tF → tA → Prop) : Nat → tF → tA → Int32 → Prop
  | 0, _, _, _ => False
  | n33 + 1, Ft, At, x4 => (((9 : Int32) < x4 → (K (-3 : Int32) Ft At)) ∧ (¬ (9 : Int32) < x4 → (p_X2_copyFrom Ft At Fn An (fun Ft_48 At_48 => (vp_in x1 8 ∧ (∀ f_61 : tF, f_61 = (upd (At_48 4) (x1).toNatClampNeg x4) → (p_X2_passDays Ft_48 (va_up At_48 4 f_61) x3 (fun Ft_67 At_67 => ((¬ (Ft_67 9) = x2 → (∀ y84 : Int32, y84 = (x4 + (1 : Int32)) → ((p_X6_earFor_L33 F Fn An x1 x2 x3 K n33) Ft_67 At_67 y84))) ∧ ((Ft_67 9) = x2 → (K x4 Ft_67 At_67)))))))))))
set_option maxHeartbeats 4000000 in
set_option maxRecDepth 100000 in
theorem b_X6_earFor_L33 {p : Program} {l : Launch} {e : Env} {s : State} {m : MethodId} {args : Array Value} {below : List Frame} {meth : Method} {c : Code} {Q : State → Prop} {D : va_G} {cI cZ cR : ClassId} {adK adV : Nat → Nat} {A9 : Nat → Prop} {o : Nat} {q : Nat → Nat} {qn : Nat → Nat} {qt : Nat → Nat} {K : Int32 → tF → tA → Prop}  (F : tF) (Fn : tF) (An : tA) (x1 : Int32) (x2 : Int32) (x3 : Int32) (X : CX p s m args c yX6_earFor.cls cX6_earFor 5 D cI cZ cR adK adV A9) (ret : RTi p l e (rmN 6 215) s m args below meth c Q cX6_earFor D A9 (fun (r : Int32) (u : (tF × tA)) => K r u.1 u.2) (fun (u : (tF × tA)) => (wX6 o q F ++ wX2 cI cZ (q 0) qn Fn An ++ wX2 cI cZ (q 1) qt u.1 u.2 : va_W)))   : ∀ (n : Nat) (Ft : tF) (At : tA) (x4 : Int32) (H : Heap) (locs : List Loc) (ls : Array Slot), p_X6_earFor_L33 F Fn An x1 x2 x3 K n Ft At x4 → va_P D vwCl (wX6 o q F ++ wX2 cI cZ (q 0) qn Fn An ++ wX2 cI cZ (q 1) qt Ft At : va_W) H → va_D A9 (wX6 o q F ++ wX2 cI cZ (q 0) qn Fn An ++ wX2 cI cZ (q 1) qt Ft At : va_W) → va_S A9 s.heap H locs → lv_has ls 5 [(0, .ref o), (1, .int x1), (2, .int x2), (3, .int x3), (4, .int x4)] → W p l e (rmN 6 215) s m args below meth c H locs 0 0 Q (F0 m 33 ls []) := by
  obtain ⟨hx, hb, hml, ht, hown, hK, hA, hE⟩ := id X
  intro n
  induction n with
  | zero => intro Ft At x4 H locs ls h; exact False.elim h
  | succ n33 ih =>
    intro Ft At x4 H locs ls h hP hD hS hl
    rw [p_X6_earFor_L33] at h
    refine lv_iload hx hb dX6_earFor_33 (lv_at hl 4 rfl) ?_
    refine lv_bipush (v := 9) hx hb dX6_earFor_35 (by decide) ?_
    refine lv_icmp_gt (tgt := 90) hx hb dX6_earFor_37 (by decide) (fun c37 => ?_) (fun c37 => ?_)
    · replace h := h.1 c37
      refine lv_bipush (v := -3) hx hb dX6_earFor_90 (by decide) ?_
      exact ret _ (Ft, At) _ _ _ _ dX6_earFor_92 h hP hD hS
    · replace h := h.2 c37
      refine lv_aload_n hx hb dX6_earFor_40 rfl (lv_at hl 0 rfl) ?_
      refine va_get (C := RX6) (T := TX6) (N := 13) (own := RX6) (v := .ref (q 1)) hx hb ht inlX6 hown hK hP 0 rfl rfl 1 (Nat.le_of_ble_eq_true rfl) (ht _ mw_1_17) (fun _ h9 => h9) rfl dX6_earFor_41 ?_
      refine lv_aload_n hx hb dX6_earFor_44 rfl (lv_at hl 0 rfl) ?_
      refine va_get (C := RX6) (T := TX6) (N := 13) (own := RX6) (v := .ref (q 0)) hx hb ht inlX6 hown hK hP 0 rfl rfl 0 (Nat.le_of_ble_eq_true rfl) (ht _ mw_1_16) (fun _ h9 => h9) rfl dX6_earFor_45 ?_
      refine C_vv (wr := [0].filterMap (fun i => (wX6 o q F ++ wX2 cI cZ (q 0) qn Fn An ++ wX2 cI cZ (q 1) qt Ft At : va_W)[i]?)) X hP hD hS [.ref (q 0)] [] (w_X2_copyFrom l D cI cZ cR adK adV _ (q 1) qt (q 0) qn Ft At Fn An _ h) cal_X2_copyFrom mw_7_3 rfl [10, 11, 12, 13, 14, 15, 16, 17, 18, 1, 2, 3, 4, 5, 6, 7, 8, 9] [0] [0, 10, 11, 12, 13, 14, 15, 16, 17, 18, 1, 2, 3, 4, 5, 6, 7, 8, 9] (fun u => (wX6 o q F ++ wX2 cI cZ (q 0) qn Fn An ++ wX2 cI cZ (q 1) qt u.1 u.2 : va_W)) rfl rfl (fun _ => rfl) rfl 10 rfl rfl ⟨rfl, rfl⟩ ⟨Nat.le_of_ble_eq_true rfl, Nat.le_of_ble_eq_true rfl⟩ hl.1 rfl (Nat.le_of_ble_eq_true rfl) ⟨Nat.zero_le _, Nat.zero_le _⟩ dX6_earFor_48 (fun u H locs h hP hD hS => ?_)
      obtain ⟨Ft_48, At_48⟩ := u
      try dsimp only at h
      have hP : va_P D vwCl (wX6 o q F ++ wX2 cI cZ (q 0) qn Fn An ++ wX2 cI cZ (q 1) qt Ft_48 At_48 : va_W) H := hP
      have hD : va_D A9 (wX6 o q F ++ wX2 cI cZ (q 0) qn Fn An ++ wX2 cI cZ (q 1) qt Ft_48 At_48 : va_W) := hD
      refine lv_aload_n hx hb dX6_earFor_51 rfl (lv_at hl 0 rfl) ?_
      refine va_get (C := RX6) (T := TX6) (N := 13) (own := RX6) (v := .ref (q 1)) hx hb ht inlX6 hown hK hP 0 rfl rfl 1 (Nat.le_of_ble_eq_true rfl) (ht _ mw_1_17) (fun _ h9 => h9) rfl dX6_earFor_52 ?_
      refine va_get (C := RX2) (T := TX2) (N := 13) (own := RX6) (v := .ref (qt 4)) hx hb ht inlX2 hown hK hP 10 rfl rfl 4 (Nat.le_of_ble_eq_true rfl) (ht _ mw_17_5) (fun _ h9 => h9) rfl dX6_earFor_55 ?_
      refine lv_iload_n hx hb dX6_earFor_58 rfl (lv_at hl 1 rfl) ?_
      refine lv_iload hx hb dX6_earFor_59 (lv_at hl 4 rfl) ?_
      obtain ⟨hi61, h⟩ := h
      obtain ⟨f_61, ef_61⟩ : ∃ z : tF, z = (upd (At_48 4) (x1).toNatClampNeg x4) := ⟨_, rfl⟩
      replace h := h f_61 ef_61
      refine g_iast (f := (At_48 4)) (k := (x1).toNatClampNeg) hx hb hK hP hD hS 15 0 rfl rfl hi61 rfl ef_61 dX6_earFor_61 (fun H locs hP hD hS => ?_)
      have hP : va_P D vwCl (wX6 o q F ++ wX2 cI cZ (q 0) qn Fn An ++ wX2 cI cZ (q 1) qt Ft_48 (va_up At_48 4 f_61) : va_W) H := hP
      have hD : va_D A9 (wX6 o q F ++ wX2 cI cZ (q 0) qn Fn An ++ wX2 cI cZ (q 1) qt Ft_48 (va_up At_48 4 f_61) : va_W) := hD
      refine lv_aload_n hx hb dX6_earFor_62 rfl (lv_at hl 0 rfl) ?_
      refine va_get (C := RX6) (T := TX6) (N := 13) (own := RX6) (v := .ref (q 1)) hx hb ht inlX6 hown hK hP 0 rfl rfl 1 (Nat.le_of_ble_eq_true rfl) (ht _ mw_1_17) (fun _ h9 => h9) rfl dX6_earFor_63 ?_
      refine lv_iload_n hx hb dX6_earFor_66 rfl (lv_at hl 3 rfl) ?_
      refine C_vv (wr := [0, 1, 2, 3, 4, 5, 6, 7, 8, 9].filterMap (fun i => (wX6 o q F ++ wX2 cI cZ (q 0) qn Fn An ++ wX2 cI cZ (q 1) qt Ft_48 (va_up At_48 4 f_61) : va_W)[i]?)) X hP hD hS [.int x3] [] (w_X2_passDays l D cI cZ cR adK adV _ (q 1) qt Ft_48 (va_up At_48 4 f_61) x3 _ h) cal_X2_passDays mw_24_20 rfl [10, 11, 12, 13, 14, 15, 16, 17, 18] [0, 1, 2, 3, 4, 5, 6, 7, 8, 9] [0, 1, 2, 3, 4, 5, 6, 7, 8, 9, 10, 11, 12, 13, 14, 15, 16, 17, 18] (fun u => (wX6 o q F ++ wX2 cI cZ (q 0) qn Fn An ++ wX2 cI cZ (q 1) qt u.1 u.2 : va_W)) rfl rfl (fun _ => rfl) rfl 10 rfl rfl ⟨rfl, rfl⟩ ⟨Nat.le_of_ble_eq_true rfl, Nat.le_of_ble_eq_true rfl⟩ hl.1 rfl (Nat.le_of_ble_eq_true rfl) ⟨Nat.zero_le _, Nat.zero_le _⟩ dX6_earFor_67 (fun u H locs h hP hD hS => ?_)
      obtain ⟨Ft_67, At_67⟩ := u
      try dsimp only at h
      have hP : va_P D vwCl (wX6 o q F ++ wX2 cI cZ (q 0) qn Fn An ++ wX2 cI cZ (q 1) qt Ft_67 At_67 : va_W) H := hP
      have hD : va_D A9 (wX6 o q F ++ wX2 cI cZ (q 0) qn Fn An ++ wX2 cI cZ (q 1) qt Ft_67 At_67 : va_W) := hD
      refine lv_aload_n hx hb dX6_earFor_70 rfl (lv_at hl 0 rfl) ?_
      refine va_get (C := RX6) (T := TX6) (N := 13) (own := RX6) (v := .ref (q 1)) hx hb ht inlX6 hown hK hP 0 rfl rfl 1 (Nat.le_of_ble_eq_true rfl) (ht _ mw_1_17) (fun _ h9 => h9) rfl dX6_earFor_71 ?_
      refine va_get (C := RX2) (T := TX2) (N := 13) (own := RX6) (v := .int (Ft_67 9)) hx hb ht inlX2 hown hK hP 10 rfl rfl 9 (Nat.le_of_ble_eq_true rfl) (ht _ mw_23_9) (fun _ h9 => h9) rfl dX6_earFor_74 ?_
      refine lv_iload_n hx hb dX6_earFor_77 rfl (lv_at hl 2 rfl) ?_
      refine lv_icmp_ne (tgt := 84) hx hb dX6_earFor_78 (by decide) (fun c78 => ?_) (fun c78 => ?_)
      · replace h := h.1 c78
        obtain ⟨y84, ey84⟩ : ∃ y : Int32, y = (x4 + (1 : Int32)) := ⟨_, rfl⟩
        replace h := h y84 ey84
        refine lv_iinc (v := y84) (lv' := [(4, .int y84), (0, .ref o), (1, .int x1), (2, .int x2), (3, .int x3)]) hx hb dX6_earFor_84 hl (k := 4) rfl (by rw [ey84]; rfl) (by decide) rfl (fun ls hl => ?_)
        refine lv_goto (tgt := 33) hx hb dX6_earFor_87 (by decide) ?_
        exact ih Ft_67 At_67 y84 _ _ _ h hP hD hS (lv_sub hl [1, 2, 3, 4, 0] rfl)
      · replace h := h.2 c78
        refine lv_iload hx hb dX6_earFor_81 (lv_at hl 4 rfl) ?_
        exact ret _ (Ft_67, At_67) _ _ _ _ dX6_earFor_83 h hP hD hS
def p_X6_earFor (F : tF) (Fn : tF) (An : tA) (Ft : tF) (At : tA) (x1 : Int32) (x2 : Int32) (x3 : Int32) (K : Int32 → tF → tA → Prop) : Prop := (p_X6_isSheep F Fn An x1 (fun r2 => ((r2 = 0 → (K (-1 : Int32) Ft At)) ∧ (¬ r2 = 0 → (p_X6_within x2 (6 : Int32) (fun r11 => ((r11 = 0 → (K (-1 : Int32) Ft At)) ∧ (¬ r11 = 0 → ((x3 < (1 : Int32) → (K (-1 : Int32) Ft At)) ∧ (¬ x3 < (1 : Int32) → ((x3 ≤ (20 : Int32) → (∃ n33, p_X6_earFor_L33 F Fn An x1 x2 x3 K n33 Ft At (0 : Int32))) ∧ (¬ x3 ≤ (20 : Int32) → (K (-1 : Int32) Ft At)))))))))))))
set_option maxHeartbeats 4000000 in
set_option maxRecDepth 100000 in
theorem w_X6_earFor (l : Launch) (D : va_G) (cI cZ cR : ClassId) (adK adV : Nat → Nat) (sz : Nat) (o : Nat) (q : Nat → Nat) (qn : Nat → Nat) (qt : Nat → Nat) (F : tF) (Fn : tF) (An : tA) (Ft : tF) (At : tA) (x1 : Int32) (x2 : Int32) (x3 : Int32) (K : Int32 → tF → tA → Prop) (h : p_X6_earFor F Fn An Ft At x1 x2 x3 K) : MI l D cI cZ cR adK adV yX6_earFor cX6_earFor 5 (some .int) (rmN 6 215) [.ref o, .int x1, .int x2, .int x3] (wX6 o q F ++ wX2 cI cZ (q 0) qn Fn An ++ wX2 cI cZ (q 1) qt Ft At : va_W) sz (fun (r : Int32) (u : (tF × tA)) => K r u.1 u.2) (fun (u : (tF × tA)) => (wX6 o q F ++ wX2 cI cZ (q 0) qn Fn An ++ wX2 cI cZ (q 1) qt u.1 u.2 : va_W)) := by
  refine M_i (by decide +kernel) (Nat.le_of_ble_eq_true rfl) ?_
  intro p e s m args below meth c Q A9 ls X ret hP hD hS hl
  obtain ⟨hx, hb, hml, ht, hown, hK, hA, hE⟩ := id X
  have hl : lv_has ls 5 [(0, .ref o), (1, .int x1), (2, .int x2), (3, .int x3)] := hl
  unfold p_X6_earFor at h
  refine lv_aload_n hx hb dX6_earFor_0 rfl (lv_at hl 0 rfl) ?_
  refine lv_iload_n hx hb dX6_earFor_1 rfl (lv_at hl 1 rfl) ?_
  refine C_vi (wr := [10, 11, 12, 13, 14, 15, 16, 17, 18].filterMap (fun i => (wX6 o q F ++ wX2 cI cZ (q 0) qn Fn An ++ wX2 cI cZ (q 1) qt Ft At : va_W)[i]?)) X hP hD hS [.int x1] [] (w_X6_isSheep l D cI cZ cR adK adV _ o q qn F Fn An x1 _ h) cal_X6_isSheep mw_17_8 rfl [0, 1, 2, 3, 4, 5, 6, 7, 8, 9] [10, 11, 12, 13, 14, 15, 16, 17, 18] [9, 10, 11, 12, 13, 14, 15, 16, 17, 18, 0, 1, 2, 3, 4, 5, 6, 7, 8] (fun u => (wX6 o q F ++ wX2 cI cZ (q 0) qn Fn An ++ wX2 cI cZ (q 1) qt Ft At : va_W)) rfl rfl (fun _ => rfl) rfl 0 rfl rfl ⟨rfl, rfl⟩ ⟨Nat.le_of_ble_eq_true rfl, Nat.le_of_ble_eq_true rfl⟩ hl.1 rfl (Nat.le_of_ble_eq_true rfl) ⟨Nat.zero_le _, Nat.zero_le _⟩ dX6_earFor_2 (fun r2 u H locs h hP hD hS => ?_)
  refine lv_if_eq (tgt := 28) hx hb dX6_earFor_5 (by decide) (fun c5 => ?_) (fun c5 => ?_)
  · replace h := h.1 c5
    refine lv_iconst (v := -1) hx hb dX6_earFor_28 (by decide) ?_
    exact ret _ (Ft, At) _ _ _ _ dX6_earFor_29 h hP hD hS
  · replace h := h.2 c5
    refine lv_iload_n hx hb dX6_earFor_8 rfl (lv_at hl 2 rfl) ?_
    refine lv_bipush (v := 6) hx hb dX6_earFor_9 (by decide) ?_
    refine C_si (wr := [0, 1, 2, 3, 4, 5, 6, 7, 8, 9, 10, 11, 12, 13, 14, 15, 16, 17, 18].filterMap (fun i => (wX6 o q F ++ wX2 cI cZ (q 0) qn Fn An ++ wX2 cI cZ (q 1) qt Ft At : va_W)[i]?)) X hP hD hS [.int x2, .int (6 : Int32)] [] (w_X6_within l D cI cZ cR adK adV _ x2 (6 : Int32) _ h) cal_X6_within mw_15_9 rfl [] [0, 1, 2, 3, 4, 5, 6, 7, 8, 9, 10, 11, 12, 13, 14, 15, 16, 17, 18] [0, 1, 2, 3, 4, 5, 6, 7, 8, 9, 10, 11, 12, 13, 14, 15, 16, 17, 18] (fun u => (wX6 o q F ++ wX2 cI cZ (q 0) qn Fn An ++ wX2 cI cZ (q 1) qt Ft At : va_W)) rfl rfl (fun _ => rfl) rfl ⟨rfl, rfl⟩ ⟨Nat.le_of_ble_eq_true rfl, Nat.le_of_ble_eq_true rfl⟩ hl.1 rfl (Nat.le_of_ble_eq_true rfl) ⟨Nat.zero_le _, Nat.zero_le _⟩ dX6_earFor_11 (fun r11 u H locs h hP hD hS => ?_)
    refine lv_if_eq (tgt := 28) hx hb dX6_earFor_14 (by decide) (fun c14 => ?_) (fun c14 => ?_)
    · replace h := h.1 c14
      refine lv_iconst (v := -1) hx hb dX6_earFor_28 (by decide) ?_
      exact ret _ (Ft, At) _ _ _ _ dX6_earFor_29 h hP hD hS
    · replace h := h.2 c14
      refine lv_iload_n hx hb dX6_earFor_17 rfl (lv_at hl 3 rfl) ?_
      refine lv_iconst (v := 1) hx hb dX6_earFor_18 (by decide) ?_
      refine lv_icmp_lt (tgt := 28) hx hb dX6_earFor_19 (by decide) (fun c19 => ?_) (fun c19 => ?_)
      · replace h := h.1 c19
        refine lv_iconst (v := -1) hx hb dX6_earFor_28 (by decide) ?_
        exact ret _ (Ft, At) _ _ _ _ dX6_earFor_29 h hP hD hS
      · replace h := h.2 c19
        refine lv_iload_n hx hb dX6_earFor_22 rfl (lv_at hl 3 rfl) ?_
        refine lv_bipush (v := 20) hx hb dX6_earFor_23 (by decide) ?_
        refine lv_icmp_le (tgt := 30) hx hb dX6_earFor_25 (by decide) (fun c25 => ?_) (fun c25 => ?_)
        · replace h := h.1 c25
          refine lv_iconst (v := 0) hx hb dX6_earFor_30 (by decide) ?_
          refine lv_istore (lv' := [(4, .int (0 : Int32)), (0, .ref o), (1, .int x1), (2, .int x2), (3, .int x3)]) hx hb dX6_earFor_31 hl (by decide) rfl (fun ls hl => ?_)
          obtain ⟨n33, h⟩ := h
          exact b_X6_earFor_L33 F Fn An x1 x2 x3 X ret  n33 Ft At (0 : Int32) _ _ _ h hP hD hS (lv_sub hl [1, 2, 3, 4, 0] rfl)
        · replace h := h.2 c25
          refine lv_iconst (v := -1) hx hb dX6_earFor_28 (by decide) ?_
          exact ret _ (Ft, At) _ _ _ _ dX6_earFor_29 h hP hD hS
theorem cal_X0_take : CalV yX0_take cX0_take 3 none 1 := ⟨mw_32_11, mw_2_2, mw_32_9, mw_32_10, ⟨by decide +kernel, by decide +kernel, by decide +kernel⟩⟩
theorem cal_X0_fewestFor : CalV yX0_fewestFor cX0_fewestFor 7 (some .int) 2 := ⟨mw_32_18, mw_2_2, mw_32_16, mw_32_17, ⟨by decide +kernel, by decide +kernel, by decide +kernel⟩⟩
theorem dX6_looksFor_0 : decode cX6_looksFor 0 = .ok (.iload_n 1, 1) := by decide +kernel
theorem dX6_looksFor_1 : decode cX6_looksFor 1 = .ok (.bipush 6, 2) := by decide +kernel
theorem dX6_looksFor_3 : decode cX6_looksFor 3 = .ok (.invokestatic 95, 3) := by decide +kernel
theorem dX6_looksFor_6 : decode cX6_looksFor 6 = .ok (.ifCond .ne 5, 3) := by decide +kernel
theorem dX6_looksFor_9 : decode cX6_looksFor 9 = .ok (.iconst (-1), 1) := by decide +kernel
theorem dX6_looksFor_10 : decode cX6_looksFor 10 = .ok (.ireturn, 1) := by decide +kernel
theorem dX6_looksFor_11 : decode cX6_looksFor 11 = .ok (.aload_n 0, 1) := by decide +kernel
theorem dX6_looksFor_12 : decode cX6_looksFor 12 = .ok (.getfield 16, 3) := by decide +kernel
theorem dX6_looksFor_15 : decode cX6_looksFor 15 = .ok (.aload_n 0, 1) := by decide +kernel
theorem dX6_looksFor_16 : decode cX6_looksFor 16 = .ok (.getfield 10, 3) := by decide +kernel
theorem dX6_looksFor_19 : decode cX6_looksFor 19 = .ok (.invokevirtual 81, 3) := by decide +kernel
theorem dX6_looksFor_22 : decode cX6_looksFor 22 = .ok (.aload_n 0, 1) := by decide +kernel
theorem dX6_looksFor_23 : decode cX6_looksFor 23 = .ok (.getfield 36, 3) := by decide +kernel
theorem dX6_looksFor_26 : decode cX6_looksFor 26 = .ok (.aload_n 0, 1) := by decide +kernel
theorem dX6_looksFor_27 : decode cX6_looksFor 27 = .ok (.getfield 16, 3) := by decide +kernel
theorem dX6_looksFor_30 : decode cX6_looksFor 30 = .ok (.invokevirtual 198, 3) := by decide +kernel
theorem dX6_looksFor_33 : decode cX6_looksFor 33 = .ok (.iconst 0, 1) := by decide +kernel
theorem dX6_looksFor_34 : decode cX6_looksFor 34 = .ok (.istore_n 2, 1) := by decide +kernel
theorem dX6_looksFor_35 : decode cX6_looksFor 35 = .ok (.iload_n 2, 1) := by decide +kernel
theorem dX6_looksFor_36 : decode cX6_looksFor 36 = .ok (.aload_n 0, 1) := by decide +kernel
theorem dX6_looksFor_37 : decode cX6_looksFor 37 = .ok (.getfield 16, 3) := by decide +kernel
theorem dX6_looksFor_40 : decode cX6_looksFor 40 = .ok (.getfield 92, 3) := by decide +kernel
theorem dX6_looksFor_43 : decode cX6_looksFor 43 = .ok (.if_icmp .ge 53, 3) := by decide +kernel
theorem dX6_looksFor_46 : decode cX6_looksFor 46 = .ok (.aload_n 0, 1) := by decide +kernel
theorem dX6_looksFor_47 : decode cX6_looksFor 47 = .ok (.getfield 16, 3) := by decide +kernel
theorem dX6_looksFor_50 : decode cX6_looksFor 50 = .ok (.getfield 126, 3) := by decide +kernel
theorem dX6_looksFor_53 : decode cX6_looksFor 53 = .ok (.iload_n 2, 1) := by decide +kernel
theorem dX6_looksFor_54 : decode cX6_looksFor 54 = .ok (.iload_n 1, 1) := by decide +kernel
theorem dX6_looksFor_55 : decode cX6_looksFor 55 = .ok (.iastore, 1) := by decide +kernel
theorem dX6_looksFor_56 : decode cX6_looksFor 56 = .ok (.aload_n 0, 1) := by decide +kernel
theorem dX6_looksFor_57 : decode cX6_looksFor 57 = .ok (.getfield 36, 3) := by decide +kernel
theorem dX6_looksFor_60 : decode cX6_looksFor 60 = .ok (.getfield 201, 3) := by decide +kernel
theorem dX6_looksFor_63 : decode cX6_looksFor 63 = .ok (.iload_n 2, 1) := by decide +kernel
theorem dX6_looksFor_64 : decode cX6_looksFor 64 = .ok (.aload_n 0, 1) := by decide +kernel
theorem dX6_looksFor_65 : decode cX6_looksFor 65 = .ok (.getfield 16, 3) := by decide +kernel
theorem dX6_looksFor_68 : decode cX6_looksFor 68 = .ok (.iload_n 2, 1) := by decide +kernel
theorem dX6_looksFor_69 : decode cX6_looksFor 69 = .ok (.invokevirtual 132, 3) := by decide +kernel
theorem dX6_looksFor_72 : decode cX6_looksFor 72 = .ok (.iastore, 1) := by decide +kernel
theorem dX6_looksFor_73 : decode cX6_looksFor 73 = .ok (.aload_n 0, 1) := by decide +kernel
theorem dX6_looksFor_74 : decode cX6_looksFor 74 = .ok (.getfield 36, 3) := by decide +kernel
theorem dX6_looksFor_77 : decode cX6_looksFor 77 = .ok (.getfield 204, 3) := by decide +kernel
theorem dX6_looksFor_80 : decode cX6_looksFor 80 = .ok (.iload_n 2, 1) := by decide +kernel
theorem dX6_looksFor_81 : decode cX6_looksFor 81 = .ok (.aload_n 0, 1) := by decide +kernel
theorem dX6_looksFor_82 : decode cX6_looksFor 82 = .ok (.getfield 16, 3) := by decide +kernel
theorem dX6_looksFor_85 : decode cX6_looksFor 85 = .ok (.iload_n 2, 1) := by decide +kernel
theorem dX6_looksFor_86 : decode cX6_looksFor 86 = .ok (.invokevirtual 129, 3) := by decide +kernel
theorem dX6_looksFor_89 : decode cX6_looksFor 89 = .ok (.iastore, 1) := by decide +kernel
theorem dX6_looksFor_90 : decode cX6_looksFor 90 = .ok (.iinc 2 1, 3) := by decide +kernel
theorem dX6_looksFor_93 : decode cX6_looksFor 93 = .ok (.goto (-58), 3) := by decide +kernel
theorem dX6_looksFor_96 : decode cX6_looksFor 96 = .ok (.aload_n 0, 1) := by decide +kernel
theorem dX6_looksFor_97 : decode cX6_looksFor 97 = .ok (.getfield 36, 3) := by decide +kernel
theorem dX6_looksFor_100 : decode cX6_looksFor 100 = .ok (.aload_n 0, 1) := by decide +kernel
theorem dX6_looksFor_101 : decode cX6_looksFor 101 = .ok (.getfield 10, 3) := by decide +kernel
theorem dX6_looksFor_104 : decode cX6_looksFor 104 = .ok (.iload_n 1, 1) := by decide +kernel
theorem dX6_looksFor_105 : decode cX6_looksFor 105 = .ok (.invokevirtual 207, 3) := by decide +kernel
theorem dX6_looksFor_108 : decode cX6_looksFor 108 = .ok (.ireturn, 1) := by decide +kernel
def p_X6_looksFor_L35 (F : tF) (Fn : tF) (An : tA) (x1 : Int32) (K : Int32 → tF → tA → tF → tA → tF → tA → Prop) : Nat → tF → tA → tF → tA → Int32 → Prop
  | 0, _, _, _, _, _ => False
  | n35 + 1, Ft, At, Fb, Ab, x2 => (((Ft 8) ≤ x2 → (p_X0_fewestFor Fb Ab Fn An x1 (fun r105 Fn_105 An_105 => (K r105 Ft At Fn_105 An_105 Fb Ab)))) ∧ (¬ (Ft 8) ≤ x2 → (vp_in x2 8 ∧ (∀ f_55 : tF, f_55 = (upd (At 6) (x2).toNatClampNeg x1) → (p_X2_voteOf Ft (va_up At 6 f_55) x2 (fun r69 => (vp_in x2 8 ∧ (∀ f_72 : tF, f_72 = (upd (Ab 2) (x2).toNatClampNeg r69) → (p_X2_weightOf Ft (va_up At 6 f_55) x2 (fun r86 => (vp_in x2 8 ∧ (∀ f_89 : tF, f_89 = (upd (Ab 3) (x2).toNatClampNeg r86) → (∀ y90 : Int32, y90 = (x2 + (1 : Int32)) → ((p_X6_looksFor_L35 F Fn An x1 K n35) Ft (va_up At 6 f_55) Fb (va_up (va_up Ab 2 f_72) 3 f_89) y90))))))))))))))
set_option maxHeartbeats 4000000 in
set_option maxRecDepth 100000 in
theorem b_X6_looksFor_L35 {p : Program} {l : Launch} {e : Env} {s : State} {m : MethodId} {args : Array Value} {below : List Frame} {meth : Method} {c : Code} {Q : State → Prop} {D : va_G} {cI cZ cR : ClassId} {adK adV : Nat → Nat} {A9 : Nat → Prop} {o : Nat} {q : Nat → Nat} {qt : Nat → Nat} {qn : Nat → Nat} {qb : Nat → Nat} {K : Int32 → tF → tA → tF → tA → tF → tA → Prop}  (F : tF) (Fn : tF) (An : tA) (x1 : Int32) (X : CX p s m args c yX6_looksFor.cls cX6_looksFor 3 D cI cZ cR adK adV A9) (ret : RTi p l e (rmN 4 172) s m args below meth c Q cX6_looksFor D A9 (fun (r : Int32) (u : (tF × tA) × (tF × tA) × (tF × tA)) => K r u.1.1 u.1.2 u.2.1.1 u.2.1.2 u.2.2.1 u.2.2.2) (fun (u : (tF × tA) × (tF × tA) × (tF × tA)) => (wX6 o q F ++ wX2 cI cZ (q 1) qt u.1.1 u.1.2 ++ wX2 cI cZ (q 0) qn u.2.1.1 u.2.1.2 ++ wX0 cI cZ (q 5) qb u.2.2.1 u.2.2.2 : va_W)))   : ∀ (n : Nat) (Ft : tF) (At : tA) (Fb : tF) (Ab : tA) (x2 : Int32) (H : Heap) (locs : List Loc) (ls : Array Slot), p_X6_looksFor_L35 F Fn An x1 K n Ft At Fb Ab x2 → va_P D vwCl (wX6 o q F ++ wX2 cI cZ (q 1) qt Ft At ++ wX2 cI cZ (q 0) qn Fn An ++ wX0 cI cZ (q 5) qb Fb Ab : va_W) H → va_D A9 (wX6 o q F ++ wX2 cI cZ (q 1) qt Ft At ++ wX2 cI cZ (q 0) qn Fn An ++ wX0 cI cZ (q 5) qb Fb Ab : va_W) → va_S A9 s.heap H locs → lv_has ls 3 [(0, .ref o), (1, .int x1), (2, .int x2)] → W p l e (rmN 4 172) s m args below meth c H locs 0 0 Q (F0 m 35 ls []) := by
  obtain ⟨hx, hb, hml, ht, hown, hK, hA, hE⟩ := id X
  intro n
  induction n with
  | zero => intro Ft At Fb Ab x2 H locs ls h; exact False.elim h
  | succ n35 ih =>
    intro Ft At Fb Ab x2 H locs ls h hP hD hS hl
    rw [p_X6_looksFor_L35] at h
    refine lv_iload_n hx hb dX6_looksFor_35 rfl (lv_at hl 2 rfl) ?_
    refine lv_aload_n hx hb dX6_looksFor_36 rfl (lv_at hl 0 rfl) ?_
    refine va_get (C := RX6) (T := TX6) (N := 13) (own := RX6) (v := .ref (q 1)) hx hb ht inlX6 hown hK hP 0 rfl rfl 1 (Nat.le_of_ble_eq_true rfl) (ht _ mw_1_17) (fun _ h9 => h9) rfl dX6_looksFor_37 ?_
    refine va_get (C := RX2) (T := TX2) (N := 13) (own := RX6) (v := .int (Ft 8)) hx hb ht inlX2 hown hK hP 1 rfl rfl 8 (Nat.le_of_ble_eq_true rfl) (ht _ mw_7_2) (fun _ h9 => h9) rfl dX6_looksFor_40 ?_
    refine lv_icmp_ge (tgt := 96) hx hb dX6_looksFor_43 (by decide) (fun c43 => ?_) (fun c43 => ?_)
    · replace h := h.1 c43
      refine lv_aload_n hx hb dX6_looksFor_96 rfl (lv_at hl 0 rfl) ?_
      refine va_get (C := RX6) (T := TX6) (N := 13) (own := RX6) (v := .ref (q 5)) hx hb ht inlX6 hown hK hP 0 rfl rfl 5 (Nat.le_of_ble_eq_true rfl) (ht _ mw_2_3) (fun _ h9 => h9) rfl dX6_looksFor_97 ?_
      refine lv_aload_n hx hb dX6_looksFor_100 rfl (lv_at hl 0 rfl) ?_
      refine va_get (C := RX6) (T := TX6) (N := 13) (own := RX6) (v := .ref (q 0)) hx hb ht inlX6 hown hK hP 0 rfl rfl 0 (Nat.le_of_ble_eq_true rfl) (ht _ mw_1_16) (fun _ h9 => h9) rfl dX6_looksFor_101 ?_
      refine lv_iload_n hx hb dX6_looksFor_104 rfl (lv_at hl 1 rfl) ?_
      refine C_vi (wr := [0, 1, 2, 3, 4, 5, 6, 7, 8, 9].filterMap (fun i => (wX6 o q F ++ wX2 cI cZ (q 1) qt Ft At ++ wX2 cI cZ (q 0) qn Fn An ++ wX0 cI cZ (q 5) qb Fb Ab : va_W)[i]?)) X hP hD hS [.ref (q 0), .int x1] [] (w_X0_fewestFor l D cI cZ cR adK adV _ (q 5) qb (q 0) qn Fb Ab Fn An x1 _ h) cal_X0_fewestFor mw_32_15 rfl [19, 20, 21, 22, 23, 10, 11, 12, 13, 14, 15, 16, 17, 18] [0, 1, 2, 3, 4, 5, 6, 7, 8, 9] [0, 1, 2, 3, 4, 5, 6, 7, 8, 9, 15, 16, 17, 18, 19, 20, 21, 22, 23, 10, 11, 12, 13, 14] (fun u => (wX6 o q F ++ wX2 cI cZ (q 1) qt Ft At ++ wX2 cI cZ (q 0) qn u.1 u.2 ++ wX0 cI cZ (q 5) qb Fb Ab : va_W)) rfl rfl (fun _ => rfl) rfl 19 rfl rfl ⟨rfl, rfl⟩ ⟨Nat.le_of_ble_eq_true rfl, Nat.le_of_ble_eq_true rfl⟩ hl.1 rfl (Nat.le_of_ble_eq_true rfl) ⟨Nat.zero_le _, Nat.zero_le _⟩ dX6_looksFor_105 (fun r105 u H locs h hP hD hS => ?_)
      obtain ⟨Fn_105, An_105⟩ := u
      try dsimp only at h
      have hP : va_P D vwCl (wX6 o q F ++ wX2 cI cZ (q 1) qt Ft At ++ wX2 cI cZ (q 0) qn Fn_105 An_105 ++ wX0 cI cZ (q 5) qb Fb Ab : va_W) H := hP
      have hD : va_D A9 (wX6 o q F ++ wX2 cI cZ (q 1) qt Ft At ++ wX2 cI cZ (q 0) qn Fn_105 An_105 ++ wX0 cI cZ (q 5) qb Fb Ab : va_W) := hD
      exact ret _ ((Ft, At), (Fn_105, An_105), (Fb, Ab)) _ _ _ _ dX6_looksFor_108 h hP hD hS
    · replace h := h.2 c43
      refine lv_aload_n hx hb dX6_looksFor_46 rfl (lv_at hl 0 rfl) ?_
      refine va_get (C := RX6) (T := TX6) (N := 13) (own := RX6) (v := .ref (q 1)) hx hb ht inlX6 hown hK hP 0 rfl rfl 1 (Nat.le_of_ble_eq_true rfl) (ht _ mw_1_17) (fun _ h9 => h9) rfl dX6_looksFor_47 ?_
      refine va_get (C := RX2) (T := TX2) (N := 13) (own := RX6) (v := .ref (qt 6)) hx hb ht inlX2 hown hK hP 1 rfl rfl 6 (Nat.le_of_ble_eq_true rfl) (ht _ mw_17_7) (fun _ h9 => h9) rfl dX6_looksFor_50 ?_
      refine lv_iload_n hx hb dX6_looksFor_53 rfl (lv_at hl 2 rfl) ?_
      refine lv_iload_n hx hb dX6_looksFor_54 rfl (lv_at hl 1 rfl) ?_
      obtain ⟨hi55, h⟩ := h
      obtain ⟨f_55, ef_55⟩ : ∃ z : tF, z = (upd (At 6) (x2).toNatClampNeg x1) := ⟨_, rfl⟩
      replace h := h f_55 ef_55
      refine g_iast (f := (At 6)) (k := (x2).toNatClampNeg) hx hb hK hP hD hS 8 0 rfl rfl hi55 rfl ef_55 dX6_looksFor_55 (fun H locs hP hD hS => ?_)
      have hP : va_P D vwCl (wX6 o q F ++ wX2 cI cZ (q 1) qt Ft (va_up At 6 f_55) ++ wX2 cI cZ (q 0) qn Fn An ++ wX0 cI cZ (q 5) qb Fb Ab : va_W) H := hP
      have hD : va_D A9 (wX6 o q F ++ wX2 cI cZ (q 1) qt Ft (va_up At 6 f_55) ++ wX2 cI cZ (q 0) qn Fn An ++ wX0 cI cZ (q 5) qb Fb Ab : va_W) := hD
      refine lv_aload_n hx hb dX6_looksFor_56 rfl (lv_at hl 0 rfl) ?_
      refine va_get (C := RX6) (T := TX6) (N := 13) (own := RX6) (v := .ref (q 5)) hx hb ht inlX6 hown hK hP 0 rfl rfl 5 (Nat.le_of_ble_eq_true rfl) (ht _ mw_2_3) (fun _ h9 => h9) rfl dX6_looksFor_57 ?_
      refine va_get (C := RX0) (T := TX0) (N := 4) (own := RX6) (v := .ref (qb 2)) hx hb ht inlX0 hown hK hP 19 rfl rfl 2 (Nat.le_of_ble_eq_true rfl) (ht _ mw_32_6) (fun _ h9 => h9) rfl dX6_looksFor_60 ?_
      refine lv_iload_n hx hb dX6_looksFor_63 rfl (lv_at hl 2 rfl) ?_
      refine lv_aload_n hx hb dX6_looksFor_64 rfl (lv_at hl 0 rfl) ?_
      refine va_get (C := RX6) (T := TX6) (N := 13) (own := RX6) (v := .ref (q 1)) hx hb ht inlX6 hown hK hP 0 rfl rfl 1 (Nat.le_of_ble_eq_true rfl) (ht _ mw_1_17) (fun _ h9 => h9) rfl dX6_looksFor_65 ?_
      refine lv_iload_n hx hb dX6_looksFor_68 rfl (lv_at hl 2 rfl) ?_
      refine C_vi (wr := [0, 10, 11, 12, 13, 14, 15, 16, 17, 18, 19, 20, 21, 22, 23].filterMap (fun i => (wX6 o q F ++ wX2 cI cZ (q 1) qt Ft (va_up At 6 f_55) ++ wX2 cI cZ (q 0) qn Fn An ++ wX0 cI cZ (q 5) qb Fb Ab : va_W)[i]?)) X hP hD hS [.int x2] [.int x2, .ref (qb 2)] (w_X2_voteOf l D cI cZ cR adK adV _ (q 1) qt Ft (va_up At 6 f_55) x2 _ h) cal_X2_voteOf mw_17_16 rfl [1, 2, 3, 4, 5, 6, 7, 8, 9] [0, 10, 11, 12, 13, 14, 15, 16, 17, 18, 19, 20, 21, 22, 23] [0, 15, 16, 17, 18, 19, 20, 21, 22, 23, 1, 2, 3, 4, 5, 6, 7, 8, 9, 10, 11, 12, 13, 14] (fun u => (wX6 o q F ++ wX2 cI cZ (q 1) qt Ft (va_up At 6 f_55) ++ wX2 cI cZ (q 0) qn Fn An ++ wX0 cI cZ (q 5) qb Fb Ab : va_W)) rfl rfl (fun _ => rfl) rfl 1 rfl rfl ⟨rfl, rfl⟩ ⟨Nat.le_of_ble_eq_true rfl, Nat.le_of_ble_eq_true rfl⟩ hl.1 rfl (Nat.le_of_ble_eq_true rfl) ⟨Nat.zero_le _, Nat.zero_le _⟩ dX6_looksFor_69 (fun r69 u H locs h hP hD hS => ?_)
      obtain ⟨hi72, h⟩ := h
      obtain ⟨f_72, ef_72⟩ : ∃ z : tF, z = (upd (Ab 2) (x2).toNatClampNeg r69) := ⟨_, rfl⟩
      replace h := h f_72 ef_72
      refine g_iast (f := (Ab 2)) (k := (x2).toNatClampNeg) hx hb hK hP hD hS 22 0 rfl rfl hi72 rfl ef_72 dX6_looksFor_72 (fun H locs hP hD hS => ?_)
      have hP : va_P D vwCl (wX6 o q F ++ wX2 cI cZ (q 1) qt Ft (va_up At 6 f_55) ++ wX2 cI cZ (q 0) qn Fn An ++ wX0 cI cZ (q 5) qb Fb (va_up Ab 2 f_72) : va_W) H := hP
      have hD : va_D A9 (wX6 o q F ++ wX2 cI cZ (q 1) qt Ft (va_up At 6 f_55) ++ wX2 cI cZ (q 0) qn Fn An ++ wX0 cI cZ (q 5) qb Fb (va_up Ab 2 f_72) : va_W) := hD
      refine lv_aload_n hx hb dX6_looksFor_73 rfl (lv_at hl 0 rfl) ?_
      refine va_get (C := RX6) (T := TX6) (N := 13) (own := RX6) (v := .ref (q 5)) hx hb ht inlX6 hown hK hP 0 rfl rfl 5 (Nat.le_of_ble_eq_true rfl) (ht _ mw_2_3) (fun _ h9 => h9) rfl dX6_looksFor_74 ?_
      refine va_get (C := RX0) (T := TX0) (N := 4) (own := RX6) (v := .ref (qb 3)) hx hb ht inlX0 hown hK hP 19 rfl rfl 3 (Nat.le_of_ble_eq_true rfl) (ht _ mw_32_7) (fun _ h9 => h9) rfl dX6_looksFor_77 ?_
      refine lv_iload_n hx hb dX6_looksFor_80 rfl (lv_at hl 2 rfl) ?_
      refine lv_aload_n hx hb dX6_looksFor_81 rfl (lv_at hl 0 rfl) ?_
      refine va_get (C := RX6) (T := TX6) (N := 13) (own := RX6) (v := .ref (q 1)) hx hb ht inlX6 hown hK hP 0 rfl rfl 1 (Nat.le_of_ble_eq_true rfl) (ht _ mw_1_17) (fun _ h9 => h9) rfl dX6_looksFor_82 ?_
      refine lv_iload_n hx hb dX6_looksFor_85 rfl (lv_at hl 2 rfl) ?_
      refine C_vi (wr := [0, 10, 11, 12, 13, 14, 15, 16, 17, 18, 19, 20, 21, 22, 23].filterMap (fun i => (wX6 o q F ++ wX2 cI cZ (q 1) qt Ft (va_up At 6 f_55) ++ wX2 cI cZ (q 0) qn Fn An ++ wX0 cI cZ (q 5) qb Fb (va_up Ab 2 f_72) : va_W)[i]?)) X hP hD hS [.int x2] [.int x2, .ref (qb 3)] (w_X2_weightOf l D cI cZ cR adK adV _ (q 1) qt Ft (va_up At 6 f_55) x2 _ h) cal_X2_weightOf mw_17_12 rfl [1, 2, 3, 4, 5, 6, 7, 8, 9] [0, 10, 11, 12, 13, 14, 15, 16, 17, 18, 19, 20, 21, 22, 23] [0, 15, 16, 17, 18, 19, 20, 21, 22, 23, 1, 2, 3, 4, 5, 6, 7, 8, 9, 10, 11, 12, 13, 14] (fun u => (wX6 o q F ++ wX2 cI cZ (q 1) qt Ft (va_up At 6 f_55) ++ wX2 cI cZ (q 0) qn Fn An ++ wX0 cI cZ (q 5) qb Fb (va_up Ab 2 f_72) : va_W)) rfl rfl (fun _ => rfl) rfl 1 rfl rfl ⟨rfl, rfl⟩ ⟨Nat.le_of_ble_eq_true rfl, Nat.le_of_ble_eq_true rfl⟩ hl.1 rfl (Nat.le_of_ble_eq_true rfl) ⟨Nat.zero_le _, Nat.zero_le _⟩ dX6_looksFor_86 (fun r86 u H locs h hP hD hS => ?_)
      obtain ⟨hi89, h⟩ := h
      obtain ⟨f_89, ef_89⟩ : ∃ z : tF, z = (upd (Ab 3) (x2).toNatClampNeg r86) := ⟨_, rfl⟩
      replace h := h f_89 ef_89
      refine g_iast (f := (Ab 3)) (k := (x2).toNatClampNeg) hx hb hK hP hD hS 23 0 rfl rfl hi89 rfl ef_89 dX6_looksFor_89 (fun H locs hP hD hS => ?_)
      have hP : va_P D vwCl (wX6 o q F ++ wX2 cI cZ (q 1) qt Ft (va_up At 6 f_55) ++ wX2 cI cZ (q 0) qn Fn An ++ wX0 cI cZ (q 5) qb Fb (va_up (va_up Ab 2 f_72) 3 f_89) : va_W) H := hP
      have hD : va_D A9 (wX6 o q F ++ wX2 cI cZ (q 1) qt Ft (va_up At 6 f_55) ++ wX2 cI cZ (q 0) qn Fn An ++ wX0 cI cZ (q 5) qb Fb (va_up (va_up Ab 2 f_72) 3 f_89) : va_W) := hD
      obtain ⟨y90, ey90⟩ : ∃ y : Int32, y = (x2 + (1 : Int32)) := ⟨_, rfl⟩
      replace h := h y90 ey90
      refine lv_iinc (v := y90) (lv' := [(2, .int y90), (0, .ref o), (1, .int x1)]) hx hb dX6_looksFor_90 hl (k := 2) rfl (by rw [ey90]; rfl) (by decide) rfl (fun ls hl => ?_)
      refine lv_goto (tgt := 35) hx hb dX6_looksFor_93 (by decide) ?_
      exact ih Ft (va_up At 6 f_55) Fb (va_up (va_up Ab 2 f_72) 3 f_89) y90 _ _ _ h hP hD hS (lv_sub hl [1, 2, 0] rfl)
def p_X6_looksFor (F : tF) (Ft : tF) (At : tA) (Fn : tF) (An : tA) (Fb : tF) (Ab : tA) (x1 : Int32) (K : Int32 → tF → tA → tF → tA → tF → tA → Prop) : Prop := (p_X6_within x1 (6 : Int32) (fun r3 => ((¬ r3 = 0 → (p_X2_copyFrom Ft At Fn An (fun Ft_19 At_19 => (p_X0_take Fb Ab Ft_19 At_19 (fun Fb_30 Ab_30 => (∃ n35, p_X6_looksFor_L35 F Fn An x1 K n35 Ft_19 At_19 Fb_30 Ab_30 (0 : Int32))))))) ∧ (r3 = 0 → (K (-1 : Int32) Ft At Fn An Fb Ab)))))
set_option maxHeartbeats 4000000 in
set_option maxRecDepth 100000 in
theorem w_X6_looksFor (l : Launch) (D : va_G) (cI cZ cR : ClassId) (adK adV : Nat → Nat) (sz : Nat) (o : Nat) (q : Nat → Nat) (qt : Nat → Nat) (qn : Nat → Nat) (qb : Nat → Nat) (F : tF) (Ft : tF) (At : tA) (Fn : tF) (An : tA) (Fb : tF) (Ab : tA) (x1 : Int32) (K : Int32 → tF → tA → tF → tA → tF → tA → Prop) (h : p_X6_looksFor F Ft At Fn An Fb Ab x1 K) : MI l D cI cZ cR adK adV yX6_looksFor cX6_looksFor 3 (some .int) (rmN 4 172) [.ref o, .int x1] (wX6 o q F ++ wX2 cI cZ (q 1) qt Ft At ++ wX2 cI cZ (q 0) qn Fn An ++ wX0 cI cZ (q 5) qb Fb Ab : va_W) sz (fun (r : Int32) (u : (tF × tA) × (tF × tA) × (tF × tA)) => K r u.1.1 u.1.2 u.2.1.1 u.2.1.2 u.2.2.1 u.2.2.2) (fun (u : (tF × tA) × (tF × tA) × (tF × tA)) => (wX6 o q F ++ wX2 cI cZ (q 1) qt u.1.1 u.1.2 ++ wX2 cI cZ (q 0) qn u.2.1.1 u.2.1.2 ++ wX0 cI cZ (q 5) qb u.2.2.1 u.2.2.2 : va_W)) := by
  refine M_i (by decide +kernel) (Nat.le_of_ble_eq_true rfl) ?_
  intro p e s m args below meth c Q A9 ls X ret hP hD hS hl
  obtain ⟨hx, hb, hml, ht, hown, hK, hA, hE⟩ := id X
  have hl : lv_has ls 3 [(0, .ref o), (1, .int x1)] := hl
  unfold p_X6_looksFor at h
  refine lv_iload_n hx hb dX6_looksFor_0 rfl (lv_at hl 1 rfl) ?_
  refine lv_bipush (v := 6) hx hb dX6_looksFor_1 (by decide) ?_
  refine C_si (wr := [0, 1, 2, 3, 4, 5, 6, 7, 8, 9, 10, 11, 12, 13, 14, 15, 16, 17, 18, 19, 20, 21, 22, 23].filterMap (fun i => (wX6 o q F ++ wX2 cI cZ (q 1) qt Ft At ++ wX2 cI cZ (q 0) qn Fn An ++ wX0 cI cZ (q 5) qb Fb Ab : va_W)[i]?)) X hP hD hS [.int x1, .int (6 : Int32)] [] (w_X6_within l D cI cZ cR adK adV _ x1 (6 : Int32) _ h) cal_X6_within mw_15_9 rfl [] [0, 1, 2, 3, 4, 5, 6, 7, 8, 9, 10, 11, 12, 13, 14, 15, 16, 17, 18, 19, 20, 21, 22, 23] [0, 1, 2, 3, 4, 5, 6, 7, 8, 9, 10, 11, 12, 13, 14, 15, 16, 17, 18, 19, 20, 21, 22, 23] (fun u => (wX6 o q F ++ wX2 cI cZ (q 1) qt Ft At ++ wX2 cI cZ (q 0) qn Fn An ++ wX0 cI cZ (q 5) qb Fb Ab : va_W)) rfl rfl (fun _ => rfl) rfl ⟨rfl, rfl⟩ ⟨Nat.le_of_ble_eq_true rfl, Nat.le_of_ble_eq_true rfl⟩ hl.1 rfl (Nat.le_of_ble_eq_true rfl) ⟨Nat.zero_le _, Nat.zero_le _⟩ dX6_looksFor_3 (fun r3 u H locs h hP hD hS => ?_)
  refine lv_if_ne (tgt := 11) hx hb dX6_looksFor_6 (by decide) (fun c6 => ?_) (fun c6 => ?_)
  · replace h := h.1 c6
    refine lv_aload_n hx hb dX6_looksFor_11 rfl (lv_at hl 0 rfl) ?_
    refine va_get (C := RX6) (T := TX6) (N := 13) (own := RX6) (v := .ref (q 1)) hx hb ht inlX6 hown hK hP 0 rfl rfl 1 (Nat.le_of_ble_eq_true rfl) (ht _ mw_1_17) (fun _ h9 => h9) rfl dX6_looksFor_12 ?_
    refine lv_aload_n hx hb dX6_looksFor_15 rfl (lv_at hl 0 rfl) ?_
    refine va_get (C := RX6) (T := TX6) (N := 13) (own := RX6) (v := .ref (q 0)) hx hb ht inlX6 hown hK hP 0 rfl rfl 0 (Nat.le_of_ble_eq_true rfl) (ht _ mw_1_16) (fun _ h9 => h9) rfl dX6_looksFor_16 ?_
    refine C_vv (wr := [0, 19, 20, 21, 22, 23].filterMap (fun i => (wX6 o q F ++ wX2 cI cZ (q 1) qt Ft At ++ wX2 cI cZ (q 0) qn Fn An ++ wX0 cI cZ (q 5) qb Fb Ab : va_W)[i]?)) X hP hD hS [.ref (q 0)] [] (w_X2_copyFrom l D cI cZ cR adK adV _ (q 1) qt (q 0) qn Ft At Fn An _ h) cal_X2_copyFrom mw_7_3 rfl [1, 2, 3, 4, 5, 6, 7, 8, 9, 10, 11, 12, 13, 14, 15, 16, 17, 18] [0, 19, 20, 21, 22, 23] [0, 6, 7, 8, 9, 10, 11, 12, 13, 14, 15, 16, 17, 18, 19, 20, 21, 22, 23, 1, 2, 3, 4, 5] (fun u => (wX6 o q F ++ wX2 cI cZ (q 1) qt u.1 u.2 ++ wX2 cI cZ (q 0) qn Fn An ++ wX0 cI cZ (q 5) qb Fb Ab : va_W)) rfl rfl (fun _ => rfl) rfl 1 rfl rfl ⟨rfl, rfl⟩ ⟨Nat.le_of_ble_eq_true rfl, Nat.le_of_ble_eq_true rfl⟩ hl.1 rfl (Nat.le_of_ble_eq_true rfl) ⟨Nat.zero_le _, Nat.zero_le _⟩ dX6_looksFor_19 (fun u H locs h hP hD hS => ?_)
    obtain ⟨Ft_19, At_19⟩ := u
    try dsimp only at h
    have hP : va_P D vwCl (wX6 o q F ++ wX2 cI cZ (q 1) qt Ft_19 At_19 ++ wX2 cI cZ (q 0) qn Fn An ++ wX0 cI cZ (q 5) qb Fb Ab : va_W) H := hP
    have hD : va_D A9 (wX6 o q F ++ wX2 cI cZ (q 1) qt Ft_19 At_19 ++ wX2 cI cZ (q 0) qn Fn An ++ wX0 cI cZ (q 5) qb Fb Ab : va_W) := hD
    refine lv_aload_n hx hb dX6_looksFor_22 rfl (lv_at hl 0 rfl) ?_
    refine va_get (C := RX6) (T := TX6) (N := 13) (own := RX6) (v := .ref (q 5)) hx hb ht inlX6 hown hK hP 0 rfl rfl 5 (Nat.le_of_ble_eq_true rfl) (ht _ mw_2_3) (fun _ h9 => h9) rfl dX6_looksFor_23 ?_
    refine lv_aload_n hx hb dX6_looksFor_26 rfl (lv_at hl 0 rfl) ?_
    refine va_get (C := RX6) (T := TX6) (N := 13) (own := RX6) (v := .ref (q 1)) hx hb ht inlX6 hown hK hP 0 rfl rfl 1 (Nat.le_of_ble_eq_true rfl) (ht _ mw_1_17) (fun _ h9 => h9) rfl dX6_looksFor_27 ?_
    refine C_vv (wr := [0, 10, 11, 12, 13, 14, 15, 16, 17, 18].filterMap (fun i => (wX6 o q F ++ wX2 cI cZ (q 1) qt Ft_19 At_19 ++ wX2 cI cZ (q 0) qn Fn An ++ wX0 cI cZ (q 5) qb Fb Ab : va_W)[i]?)) X hP hD hS [.ref (q 1)] [] (w_X0_take l D cI cZ cR adK adV _ (q 5) qb (q 1) qt Fb Ab Ft_19 At_19 _ h) cal_X0_take mw_32_8 rfl [19, 20, 21, 22, 23, 1, 2, 3, 4, 5, 6, 7, 8, 9] [0, 10, 11, 12, 13, 14, 15, 16, 17, 18] [0, 15, 16, 17, 18, 19, 20, 21, 22, 23, 1, 2, 3, 4, 5, 6, 7, 8, 9, 10, 11, 12, 13, 14] (fun u => (wX6 o q F ++ wX2 cI cZ (q 1) qt Ft_19 At_19 ++ wX2 cI cZ (q 0) qn Fn An ++ wX0 cI cZ (q 5) qb u.1 u.2 : va_W)) rfl rfl (fun _ => rfl) rfl 19 rfl rfl ⟨rfl, rfl⟩ ⟨Nat.le_of_ble_eq_true rfl, Nat.le_of_ble_eq_true rfl⟩ hl.1 rfl (Nat.le_of_ble_eq_true rfl) ⟨Nat.zero_le _, Nat.zero_le _⟩ dX6_looksFor_30 (fun u H locs h hP hD hS => ?_)
    obtain ⟨Fb_30, Ab_30⟩ := u
    try dsimp only at h
    have hP : va_P D vwCl (wX6 o q F ++ wX2 cI cZ (q 1) qt Ft_19 At_19 ++ wX2 cI cZ (q 0) qn Fn An ++ wX0 cI cZ (q 5) qb Fb_30 Ab_30 : va_W) H := hP
    have hD : va_D A9 (wX6 o q F ++ wX2 cI cZ (q 1) qt Ft_19 At_19 ++ wX2 cI cZ (q 0) qn Fn An ++ wX0 cI cZ (q 5) qb Fb_30 Ab_30 : va_W) := hD
    refine lv_iconst (v := 0) hx hb dX6_looksFor_33 (by decide) ?_
    refine lv_istore_n (lv' := [(2, .int (0 : Int32)), (0, .ref o), (1, .int x1)]) hx hb dX6_looksFor_34 rfl hl (by decide) rfl (fun ls hl => ?_)
    obtain ⟨n35, h⟩ := h
    exact b_X6_looksFor_L35 F Fn An x1 X ret  n35 Ft_19 At_19 Fb_30 Ab_30 (0 : Int32) _ _ _ h hP hD hS (lv_sub hl [1, 2, 0] rfl)
  · replace h := h.2 c6
    refine lv_iconst (v := -1) hx hb dX6_looksFor_9 (by decide) ?_
    exact ret _ ((Ft, At), (Fn, An), (Fb, Ab)) _ _ _ _ dX6_looksFor_10 h hP hD hS
theorem dX6_deafFor_0 : decode cX6_deafFor 0 = .ok (.iload_n 1, 1) := by decide +kernel
theorem dX6_deafFor_1 : decode cX6_deafFor 1 = .ok (.bipush 6, 2) := by decide +kernel
theorem dX6_deafFor_3 : decode cX6_deafFor 3 = .ok (.invokestatic 95, 3) := by decide +kernel
theorem dX6_deafFor_6 : decode cX6_deafFor 6 = .ok (.ifCond .ne 5, 3) := by decide +kernel
theorem dX6_deafFor_9 : decode cX6_deafFor 9 = .ok (.iconst (-1), 1) := by decide +kernel
theorem dX6_deafFor_10 : decode cX6_deafFor 10 = .ok (.ireturn, 1) := by decide +kernel
theorem dX6_deafFor_11 : decode cX6_deafFor 11 = .ok (.aload_n 0, 1) := by decide +kernel
theorem dX6_deafFor_12 : decode cX6_deafFor 12 = .ok (.getfield 36, 3) := by decide +kernel
theorem dX6_deafFor_15 : decode cX6_deafFor 15 = .ok (.aload_n 0, 1) := by decide +kernel
theorem dX6_deafFor_16 : decode cX6_deafFor 16 = .ok (.getfield 10, 3) := by decide +kernel
theorem dX6_deafFor_19 : decode cX6_deafFor 19 = .ok (.invokevirtual 198, 3) := by decide +kernel
theorem dX6_deafFor_22 : decode cX6_deafFor 22 = .ok (.iconst 0, 1) := by decide +kernel
theorem dX6_deafFor_23 : decode cX6_deafFor 23 = .ok (.istore_n 2, 1) := by decide +kernel
theorem dX6_deafFor_24 : decode cX6_deafFor 24 = .ok (.iload_n 2, 1) := by decide +kernel
theorem dX6_deafFor_25 : decode cX6_deafFor 25 = .ok (.aload_n 0, 1) := by decide +kernel
theorem dX6_deafFor_26 : decode cX6_deafFor 26 = .ok (.getfield 10, 3) := by decide +kernel
theorem dX6_deafFor_29 : decode cX6_deafFor 29 = .ok (.getfield 92, 3) := by decide +kernel
theorem dX6_deafFor_32 : decode cX6_deafFor 32 = .ok (.if_icmp .ge 37, 3) := by decide +kernel
theorem dX6_deafFor_35 : decode cX6_deafFor 35 = .ok (.aload_n 0, 1) := by decide +kernel
theorem dX6_deafFor_36 : decode cX6_deafFor 36 = .ok (.getfield 36, 3) := by decide +kernel
theorem dX6_deafFor_39 : decode cX6_deafFor 39 = .ok (.getfield 201, 3) := by decide +kernel
theorem dX6_deafFor_42 : decode cX6_deafFor 42 = .ok (.iload_n 2, 1) := by decide +kernel
theorem dX6_deafFor_43 : decode cX6_deafFor 43 = .ok (.aload_n 0, 1) := by decide +kernel
theorem dX6_deafFor_44 : decode cX6_deafFor 44 = .ok (.getfield 36, 3) := by decide +kernel
theorem dX6_deafFor_47 : decode cX6_deafFor 47 = .ok (.getfield 211, 3) := by decide +kernel
theorem dX6_deafFor_50 : decode cX6_deafFor 50 = .ok (.iload_n 2, 1) := by decide +kernel
theorem dX6_deafFor_51 : decode cX6_deafFor 51 = .ok (.iaload, 1) := by decide +kernel
theorem dX6_deafFor_52 : decode cX6_deafFor 52 = .ok (.iastore, 1) := by decide +kernel
theorem dX6_deafFor_53 : decode cX6_deafFor 53 = .ok (.aload_n 0, 1) := by decide +kernel
theorem dX6_deafFor_54 : decode cX6_deafFor 54 = .ok (.getfield 36, 3) := by decide +kernel
theorem dX6_deafFor_57 : decode cX6_deafFor 57 = .ok (.getfield 204, 3) := by decide +kernel
theorem dX6_deafFor_60 : decode cX6_deafFor 60 = .ok (.iload_n 2, 1) := by decide +kernel
theorem dX6_deafFor_61 : decode cX6_deafFor 61 = .ok (.iconst 0, 1) := by decide +kernel
theorem dX6_deafFor_62 : decode cX6_deafFor 62 = .ok (.iastore, 1) := by decide +kernel
theorem dX6_deafFor_63 : decode cX6_deafFor 63 = .ok (.iinc 2 1, 3) := by decide +kernel
theorem dX6_deafFor_66 : decode cX6_deafFor 66 = .ok (.goto (-42), 3) := by decide +kernel
theorem dX6_deafFor_69 : decode cX6_deafFor 69 = .ok (.aload_n 0, 1) := by decide +kernel
theorem dX6_deafFor_70 : decode cX6_deafFor 70 = .ok (.getfield 36, 3) := by decide +kernel
theorem dX6_deafFor_73 : decode cX6_deafFor 73 = .ok (.aload_n 0, 1) := by decide +kernel
theorem dX6_deafFor_74 : decode cX6_deafFor 74 = .ok (.getfield 10, 3) := by decide +kernel
theorem dX6_deafFor_77 : decode cX6_deafFor 77 = .ok (.iload_n 1, 1) := by decide +kernel
theorem dX6_deafFor_78 : decode cX6_deafFor 78 = .ok (.invokevirtual 207, 3) := by decide +kernel
theorem dX6_deafFor_81 : decode cX6_deafFor 81 = .ok (.ireturn, 1) := by decide +kernel
def p_X6_deafFor_L24 (F : tF) (Fn : tF) (An : tA) (x1 : Int32) (K : Int32 → tF → tA → tF → tA → Prop) : Nat → tF → tA → Int32 → Prop
  | 0, _, _, _ => False
  | n24 + 1, Fb, Ab, x2 => (((Fn 8) ≤ x2 → (p_X0_fewestFor Fb Ab Fn An x1 (fun r78 Fn_78 An_78 => (K r78 Fb Ab Fn_78 An_78)))) ∧ (¬ (Fn 8) ≤ x2 → (vp_in x2 8 ∧ (vp_in x2 8 ∧ (∀ f_52 : tF, f_52 = (upd (Ab 2) (x2).toNatClampNeg ((Ab 0) (x2).toNatClampNeg)) → (vp_in x2 8 ∧ (∀ f_62 : tF, f_62 = (upd (Ab 3) (x2).toNatClampNeg (0 : Int32)) → (∀ y63 : Int32, y63 = (x2 + (1 : Int32)) → ((p_X6_deafFor_L24 F Fn An x1 K n24) Fb (va_up (va_up Ab 2 f_52) 3 f_62) y63)))))))))
set_option maxHeartbeats 4000000 in
set_option maxRecDepth 100000 in
theorem b_X6_deafFor_L24 {p : Program} {l : Launch} {e : Env} {s : State} {m : MethodId} {args : Array Value} {below : List Frame} {meth : Method} {c : Code} {Q : State → Prop} {D : va_G} {cI cZ cR : ClassId} {adK adV : Nat → Nat} {A9 : Nat → Prop} {o : Nat} {q : Nat → Nat} {qb : Nat → Nat} {qn : Nat → Nat} {K : Int32 → tF → tA → tF → tA → Prop}  (F : tF) (Fn : tF) (An : tA) (x1 : Int32) (X : CX p s m args c yX6_deafFor.cls cX6_deafFor 3 D cI cZ cR adK adV A9) (ret : RTi p l e (rmN 4 172) s m args below meth c Q cX6_deafFor D A9 (fun (r : Int32) (u : (tF × tA) × (tF × tA)) => K r u.1.1 u.1.2 u.2.1 u.2.2) (fun (u : (tF × tA) × (tF × tA)) => (wX6 o q F ++ wX0 cI cZ (q 5) qb u.1.1 u.1.2 ++ wX2 cI cZ (q 0) qn u.2.1 u.2.2 : va_W)))   : ∀ (n : Nat) (Fb : tF) (Ab : tA) (x2 : Int32) (H : Heap) (locs : List Loc) (ls : Array Slot), p_X6_deafFor_L24 F Fn An x1 K n Fb Ab x2 → va_P D vwCl (wX6 o q F ++ wX0 cI cZ (q 5) qb Fb Ab ++ wX2 cI cZ (q 0) qn Fn An : va_W) H → va_D A9 (wX6 o q F ++ wX0 cI cZ (q 5) qb Fb Ab ++ wX2 cI cZ (q 0) qn Fn An : va_W) → va_S A9 s.heap H locs → lv_has ls 3 [(0, .ref o), (1, .int x1), (2, .int x2)] → W p l e (rmN 4 172) s m args below meth c H locs 0 0 Q (F0 m 24 ls []) := by
  obtain ⟨hx, hb, hml, ht, hown, hK, hA, hE⟩ := id X
  intro n
  induction n with
  | zero => intro Fb Ab x2 H locs ls h; exact False.elim h
  | succ n24 ih =>
    intro Fb Ab x2 H locs ls h hP hD hS hl
    rw [p_X6_deafFor_L24] at h
    refine lv_iload_n hx hb dX6_deafFor_24 rfl (lv_at hl 2 rfl) ?_
    refine lv_aload_n hx hb dX6_deafFor_25 rfl (lv_at hl 0 rfl) ?_
    refine va_get (C := RX6) (T := TX6) (N := 13) (own := RX6) (v := .ref (q 0)) hx hb ht inlX6 hown hK hP 0 rfl rfl 0 (Nat.le_of_ble_eq_true rfl) (ht _ mw_1_16) (fun _ h9 => h9) rfl dX6_deafFor_26 ?_
    refine va_get (C := RX2) (T := TX2) (N := 13) (own := RX6) (v := .int (Fn 8)) hx hb ht inlX2 hown hK hP 6 rfl rfl 8 (Nat.le_of_ble_eq_true rfl) (ht _ mw_7_2) (fun _ h9 => h9) rfl dX6_deafFor_29 ?_
    refine lv_icmp_ge (tgt := 69) hx hb dX6_deafFor_32 (by decide) (fun c32 => ?_) (fun c32 => ?_)
    · replace h := h.1 c32
      refine lv_aload_n hx hb dX6_deafFor_69 rfl (lv_at hl 0 rfl) ?_
      refine va_get (C := RX6) (T := TX6) (N := 13) (own := RX6) (v := .ref (q 5)) hx hb ht inlX6 hown hK hP 0 rfl rfl 5 (Nat.le_of_ble_eq_true rfl) (ht _ mw_2_3) (fun _ h9 => h9) rfl dX6_deafFor_70 ?_
      refine lv_aload_n hx hb dX6_deafFor_73 rfl (lv_at hl 0 rfl) ?_
      refine va_get (C := RX6) (T := TX6) (N := 13) (own := RX6) (v := .ref (q 0)) hx hb ht inlX6 hown hK hP 0 rfl rfl 0 (Nat.le_of_ble_eq_true rfl) (ht _ mw_1_16) (fun _ h9 => h9) rfl dX6_deafFor_74 ?_
      refine lv_iload_n hx hb dX6_deafFor_77 rfl (lv_at hl 1 rfl) ?_
      refine C_vi (wr := [0].filterMap (fun i => (wX6 o q F ++ wX0 cI cZ (q 5) qb Fb Ab ++ wX2 cI cZ (q 0) qn Fn An : va_W)[i]?)) X hP hD hS [.ref (q 0), .int x1] [] (w_X0_fewestFor l D cI cZ cR adK adV _ (q 5) qb (q 0) qn Fb Ab Fn An x1 _ h) cal_X0_fewestFor mw_32_15 rfl [1, 2, 3, 4, 5, 6, 7, 8, 9, 10, 11, 12, 13, 14] [0] [0, 1, 2, 3, 4, 5, 6, 7, 8, 9, 10, 11, 12, 13, 14] (fun u => (wX6 o q F ++ wX0 cI cZ (q 5) qb Fb Ab ++ wX2 cI cZ (q 0) qn u.1 u.2 : va_W)) rfl rfl (fun _ => rfl) rfl 1 rfl rfl ⟨rfl, rfl⟩ ⟨Nat.le_of_ble_eq_true rfl, Nat.le_of_ble_eq_true rfl⟩ hl.1 rfl (Nat.le_of_ble_eq_true rfl) ⟨Nat.zero_le _, Nat.zero_le _⟩ dX6_deafFor_78 (fun r78 u H locs h hP hD hS => ?_)
      obtain ⟨Fn_78, An_78⟩ := u
      try dsimp only at h
      have hP : va_P D vwCl (wX6 o q F ++ wX0 cI cZ (q 5) qb Fb Ab ++ wX2 cI cZ (q 0) qn Fn_78 An_78 : va_W) H := hP
      have hD : va_D A9 (wX6 o q F ++ wX0 cI cZ (q 5) qb Fb Ab ++ wX2 cI cZ (q 0) qn Fn_78 An_78 : va_W) := hD
      exact ret _ ((Fb, Ab), (Fn_78, An_78)) _ _ _ _ dX6_deafFor_81 h hP hD hS
    · replace h := h.2 c32
      refine lv_aload_n hx hb dX6_deafFor_35 rfl (lv_at hl 0 rfl) ?_
      refine va_get (C := RX6) (T := TX6) (N := 13) (own := RX6) (v := .ref (q 5)) hx hb ht inlX6 hown hK hP 0 rfl rfl 5 (Nat.le_of_ble_eq_true rfl) (ht _ mw_2_3) (fun _ h9 => h9) rfl dX6_deafFor_36 ?_
      refine va_get (C := RX0) (T := TX0) (N := 4) (own := RX6) (v := .ref (qb 2)) hx hb ht inlX0 hown hK hP 1 rfl rfl 2 (Nat.le_of_ble_eq_true rfl) (ht _ mw_32_6) (fun _ h9 => h9) rfl dX6_deafFor_39 ?_
      refine lv_iload_n hx hb dX6_deafFor_42 rfl (lv_at hl 2 rfl) ?_
      refine lv_aload_n hx hb dX6_deafFor_43 rfl (lv_at hl 0 rfl) ?_
      refine va_get (C := RX6) (T := TX6) (N := 13) (own := RX6) (v := .ref (q 5)) hx hb ht inlX6 hown hK hP 0 rfl rfl 5 (Nat.le_of_ble_eq_true rfl) (ht _ mw_2_3) (fun _ h9 => h9) rfl dX6_deafFor_44 ?_
      refine va_get (C := RX0) (T := TX0) (N := 4) (own := RX6) (v := .ref (qb 0)) hx hb ht inlX0 hown hK hP 1 rfl rfl 0 (Nat.le_of_ble_eq_true rfl) (ht _ mw_34_1) (fun _ h9 => h9) rfl dX6_deafFor_47 ?_
      refine lv_iload_n hx hb dX6_deafFor_50 rfl (lv_at hl 2 rfl) ?_
      obtain ⟨hi51, h⟩ := h
      refine g_iald (f := (Ab 0)) (k := (x2).toNatClampNeg) hx hb hK hP 2 0 rfl rfl hi51 rfl dX6_deafFor_51 ?_
      obtain ⟨hi52, h⟩ := h
      obtain ⟨f_52, ef_52⟩ : ∃ z : tF, z = (upd (Ab 2) (x2).toNatClampNeg ((Ab 0) (x2).toNatClampNeg)) := ⟨_, rfl⟩
      replace h := h f_52 ef_52
      refine g_iast (f := (Ab 2)) (k := (x2).toNatClampNeg) hx hb hK hP hD hS 4 0 rfl rfl hi52 rfl ef_52 dX6_deafFor_52 (fun H locs hP hD hS => ?_)
      have hP : va_P D vwCl (wX6 o q F ++ wX0 cI cZ (q 5) qb Fb (va_up Ab 2 f_52) ++ wX2 cI cZ (q 0) qn Fn An : va_W) H := hP
      have hD : va_D A9 (wX6 o q F ++ wX0 cI cZ (q 5) qb Fb (va_up Ab 2 f_52) ++ wX2 cI cZ (q 0) qn Fn An : va_W) := hD
      refine lv_aload_n hx hb dX6_deafFor_53 rfl (lv_at hl 0 rfl) ?_
      refine va_get (C := RX6) (T := TX6) (N := 13) (own := RX6) (v := .ref (q 5)) hx hb ht inlX6 hown hK hP 0 rfl rfl 5 (Nat.le_of_ble_eq_true rfl) (ht _ mw_2_3) (fun _ h9 => h9) rfl dX6_deafFor_54 ?_
      refine va_get (C := RX0) (T := TX0) (N := 4) (own := RX6) (v := .ref (qb 3)) hx hb ht inlX0 hown hK hP 1 rfl rfl 3 (Nat.le_of_ble_eq_true rfl) (ht _ mw_32_7) (fun _ h9 => h9) rfl dX6_deafFor_57 ?_
      refine lv_iload_n hx hb dX6_deafFor_60 rfl (lv_at hl 2 rfl) ?_
      refine lv_iconst (v := 0) hx hb dX6_deafFor_61 (by decide) ?_
      obtain ⟨hi62, h⟩ := h
      obtain ⟨f_62, ef_62⟩ : ∃ z : tF, z = (upd (Ab 3) (x2).toNatClampNeg (0 : Int32)) := ⟨_, rfl⟩
      replace h := h f_62 ef_62
      refine g_iast (f := (Ab 3)) (k := (x2).toNatClampNeg) hx hb hK hP hD hS 5 0 rfl rfl hi62 rfl ef_62 dX6_deafFor_62 (fun H locs hP hD hS => ?_)
      have hP : va_P D vwCl (wX6 o q F ++ wX0 cI cZ (q 5) qb Fb (va_up (va_up Ab 2 f_52) 3 f_62) ++ wX2 cI cZ (q 0) qn Fn An : va_W) H := hP
      have hD : va_D A9 (wX6 o q F ++ wX0 cI cZ (q 5) qb Fb (va_up (va_up Ab 2 f_52) 3 f_62) ++ wX2 cI cZ (q 0) qn Fn An : va_W) := hD
      obtain ⟨y63, ey63⟩ : ∃ y : Int32, y = (x2 + (1 : Int32)) := ⟨_, rfl⟩
      replace h := h y63 ey63
      refine lv_iinc (v := y63) (lv' := [(2, .int y63), (0, .ref o), (1, .int x1)]) hx hb dX6_deafFor_63 hl (k := 2) rfl (by rw [ey63]; rfl) (by decide) rfl (fun ls hl => ?_)
      refine lv_goto (tgt := 24) hx hb dX6_deafFor_66 (by decide) ?_
      exact ih Fb (va_up (va_up Ab 2 f_52) 3 f_62) y63 _ _ _ h hP hD hS (lv_sub hl [1, 2, 0] rfl)
def p_X6_deafFor (F : tF) (Fb : tF) (Ab : tA) (Fn : tF) (An : tA) (x1 : Int32) (K : Int32 → tF → tA → tF → tA → Prop) : Prop := (p_X6_within x1 (6 : Int32) (fun r3 => ((¬ r3 = 0 → (p_X0_take Fb Ab Fn An (fun Fb_19 Ab_19 => (∃ n24, p_X6_deafFor_L24 F Fn An x1 K n24 Fb_19 Ab_19 (0 : Int32))))) ∧ (r3 = 0 → (K (-1 : Int32) Fb Ab Fn An)))))
set_option maxHeartbeats 4000000 in
set_option maxRecDepth 100000 in
theorem w_X6_deafFor (l : Launch) (D : va_G) (cI cZ cR : ClassId) (adK adV : Nat → Nat) (sz : Nat) (o : Nat) (q : Nat → Nat) (qb : Nat → Nat) (qn : Nat → Nat) (F : tF) (Fb : tF) (Ab : tA) (Fn : tF) (An : tA) (x1 : Int32) (K : Int32 → tF → tA → tF → tA → Prop) (h : p_X6_deafFor F Fb Ab Fn An x1 K) : MI l D cI cZ cR adK adV yX6_deafFor cX6_deafFor 3 (some .int) (rmN 4 172) [.ref o, .int x1] (wX6 o q F ++ wX0 cI cZ (q 5) qb Fb Ab ++ wX2 cI cZ (q 0) qn Fn An : va_W) sz (fun (r : Int32) (u : (tF × tA) × (tF × tA)) => K r u.1.1 u.1.2 u.2.1 u.2.2) (fun (u : (tF × tA) × (tF × tA)) => (wX6 o q F ++ wX0 cI cZ (q 5) qb u.1.1 u.1.2 ++ wX2 cI cZ (q 0) qn u.2.1 u.2.2 : va_W)) := by
  refine M_i (by decide +kernel) (Nat.le_of_ble_eq_true rfl) ?_
  intro p e s m args below meth c Q A9 ls X ret hP hD hS hl
  obtain ⟨hx, hb, hml, ht, hown, hK, hA, hE⟩ := id X
  have hl : lv_has ls 3 [(0, .ref o), (1, .int x1)] := hl
  unfold p_X6_deafFor at h
  refine lv_iload_n hx hb dX6_deafFor_0 rfl (lv_at hl 1 rfl) ?_
  refine lv_bipush (v := 6) hx hb dX6_deafFor_1 (by decide) ?_
  refine C_si (wr := [0, 1, 2, 3, 4, 5, 6, 7, 8, 9, 10, 11, 12, 13, 14].filterMap (fun i => (wX6 o q F ++ wX0 cI cZ (q 5) qb Fb Ab ++ wX2 cI cZ (q 0) qn Fn An : va_W)[i]?)) X hP hD hS [.int x1, .int (6 : Int32)] [] (w_X6_within l D cI cZ cR adK adV _ x1 (6 : Int32) _ h) cal_X6_within mw_15_9 rfl [] [0, 1, 2, 3, 4, 5, 6, 7, 8, 9, 10, 11, 12, 13, 14] [0, 1, 2, 3, 4, 5, 6, 7, 8, 9, 10, 11, 12, 13, 14] (fun u => (wX6 o q F ++ wX0 cI cZ (q 5) qb Fb Ab ++ wX2 cI cZ (q 0) qn Fn An : va_W)) rfl rfl (fun _ => rfl) rfl ⟨rfl, rfl⟩ ⟨Nat.le_of_ble_eq_true rfl, Nat.le_of_ble_eq_true rfl⟩ hl.1 rfl (Nat.le_of_ble_eq_true rfl) ⟨Nat.zero_le _, Nat.zero_le _⟩ dX6_deafFor_3 (fun r3 u H locs h hP hD hS => ?_)
  refine lv_if_ne (tgt := 11) hx hb dX6_deafFor_6 (by decide) (fun c6 => ?_) (fun c6 => ?_)
  · replace h := h.1 c6
    refine lv_aload_n hx hb dX6_deafFor_11 rfl (lv_at hl 0 rfl) ?_
    refine va_get (C := RX6) (T := TX6) (N := 13) (own := RX6) (v := .ref (q 5)) hx hb ht inlX6 hown hK hP 0 rfl rfl 5 (Nat.le_of_ble_eq_true rfl) (ht _ mw_2_3) (fun _ h9 => h9) rfl dX6_deafFor_12 ?_
    refine lv_aload_n hx hb dX6_deafFor_15 rfl (lv_at hl 0 rfl) ?_
    refine va_get (C := RX6) (T := TX6) (N := 13) (own := RX6) (v := .ref (q 0)) hx hb ht inlX6 hown hK hP 0 rfl rfl 0 (Nat.le_of_ble_eq_true rfl) (ht _ mw_1_16) (fun _ h9 => h9) rfl dX6_deafFor_16 ?_
    refine C_vv (wr := [0].filterMap (fun i => (wX6 o q F ++ wX0 cI cZ (q 5) qb Fb Ab ++ wX2 cI cZ (q 0) qn Fn An : va_W)[i]?)) X hP hD hS [.ref (q 0)] [] (w_X0_take l D cI cZ cR adK adV _ (q 5) qb (q 0) qn Fb Ab Fn An _ h) cal_X0_take mw_32_8 rfl [1, 2, 3, 4, 5, 6, 7, 8, 9, 10, 11, 12, 13, 14] [0] [0, 1, 2, 3, 4, 5, 6, 7, 8, 9, 10, 11, 12, 13, 14] (fun u => (wX6 o q F ++ wX0 cI cZ (q 5) qb u.1 u.2 ++ wX2 cI cZ (q 0) qn Fn An : va_W)) rfl rfl (fun _ => rfl) rfl 1 rfl rfl ⟨rfl, rfl⟩ ⟨Nat.le_of_ble_eq_true rfl, Nat.le_of_ble_eq_true rfl⟩ hl.1 rfl (Nat.le_of_ble_eq_true rfl) ⟨Nat.zero_le _, Nat.zero_le _⟩ dX6_deafFor_19 (fun u H locs h hP hD hS => ?_)
    obtain ⟨Fb_19, Ab_19⟩ := u
    try dsimp only at h
    have hP : va_P D vwCl (wX6 o q F ++ wX0 cI cZ (q 5) qb Fb_19 Ab_19 ++ wX2 cI cZ (q 0) qn Fn An : va_W) H := hP
    have hD : va_D A9 (wX6 o q F ++ wX0 cI cZ (q 5) qb Fb_19 Ab_19 ++ wX2 cI cZ (q 0) qn Fn An : va_W) := hD
    refine lv_iconst (v := 0) hx hb dX6_deafFor_22 (by decide) ?_
    refine lv_istore_n (lv' := [(2, .int (0 : Int32)), (0, .ref o), (1, .int x1)]) hx hb dX6_deafFor_23 rfl hl (by decide) rfl (fun ls hl => ?_)
    obtain ⟨n24, h⟩ := h
    exact b_X6_deafFor_L24 F Fn An x1 X ret  n24 Fb_19 Ab_19 (0 : Int32) _ _ _ h hP hD hS (lv_sub hl [1, 2, 0] rfl)
  · replace h := h.2 c6
    refine lv_iconst (v := -1) hx hb dX6_deafFor_9 (by decide) ?_
    exact ret _ ((Fb, Ab), (Fn, An)) _ _ _ _ dX6_deafFor_10 h hP hD hS
theorem dX6_sham_0 : decode cX6_sham 0 = .ok (.aload_n 0, 1) := by decide +kernel
theorem dX6_sham_1 : decode cX6_sham 1 = .ok (.iload_n 1, 1) := by decide +kernel
theorem dX6_sham_2 : decode cX6_sham 2 = .ok (.invokevirtual 114, 3) := by decide +kernel
theorem dX6_sham_5 : decode cX6_sham 5 = .ok (.ifCond .ne 5, 3) := by decide +kernel
theorem dX6_sham_8 : decode cX6_sham 8 = .ok (.iconst (-1), 1) := by decide +kernel
theorem dX6_sham_9 : decode cX6_sham 9 = .ok (.ireturn, 1) := by decide +kernel
theorem dX6_sham_10 : decode cX6_sham 10 = .ok (.aload_n 0, 1) := by decide +kernel
theorem dX6_sham_11 : decode cX6_sham 11 = .ok (.getfield 36, 3) := by decide +kernel
theorem dX6_sham_14 : decode cX6_sham 14 = .ok (.aload_n 0, 1) := by decide +kernel
theorem dX6_sham_15 : decode cX6_sham 15 = .ok (.getfield 10, 3) := by decide +kernel
theorem dX6_sham_18 : decode cX6_sham 18 = .ok (.invokevirtual 198, 3) := by decide +kernel
theorem dX6_sham_21 : decode cX6_sham 21 = .ok (.aload_n 0, 1) := by decide +kernel
theorem dX6_sham_22 : decode cX6_sham 22 = .ok (.getfield 36, 3) := by decide +kernel
theorem dX6_sham_25 : decode cX6_sham 25 = .ok (.getfield 204, 3) := by decide +kernel
theorem dX6_sham_28 : decode cX6_sham 28 = .ok (.iload_n 1, 1) := by decide +kernel
theorem dX6_sham_29 : decode cX6_sham 29 = .ok (.aload_n 0, 1) := by decide +kernel
theorem dX6_sham_30 : decode cX6_sham 30 = .ok (.getfield 36, 3) := by decide +kernel
theorem dX6_sham_33 : decode cX6_sham 33 = .ok (.getfield 214, 3) := by decide +kernel
theorem dX6_sham_36 : decode cX6_sham 36 = .ok (.iload_n 1, 1) := by decide +kernel
theorem dX6_sham_37 : decode cX6_sham 37 = .ok (.iaload, 1) := by decide +kernel
theorem dX6_sham_38 : decode cX6_sham 38 = .ok (.iastore, 1) := by decide +kernel
theorem dX6_sham_39 : decode cX6_sham 39 = .ok (.bipush (-3), 2) := by decide +kernel
theorem dX6_sham_41 : decode cX6_sham 41 = .ok (.istore_n 2, 1) := by decide +kernel
theorem dX6_sham_42 : decode cX6_sham 42 = .ok (.aload_n 0, 1) := by decide +kernel
theorem dX6_sham_43 : decode cX6_sham 43 = .ok (.getfield 10, 3) := by decide +kernel
theorem dX6_sham_46 : decode cX6_sham 46 = .ok (.iload_n 1, 1) := by decide +kernel
theorem dX6_sham_47 : decode cX6_sham 47 = .ok (.aload_n 0, 1) := by decide +kernel
theorem dX6_sham_48 : decode cX6_sham 48 = .ok (.getfield 36, 3) := by decide +kernel
theorem dX6_sham_51 : decode cX6_sham 51 = .ok (.aload_n 0, 1) := by decide +kernel
theorem dX6_sham_52 : decode cX6_sham 52 = .ok (.getfield 10, 3) := by decide +kernel
theorem dX6_sham_55 : decode cX6_sham 55 = .ok (.iconst 0, 1) := by decide +kernel
theorem dX6_sham_56 : decode cX6_sham 56 = .ok (.invokevirtual 217, 3) := by decide +kernel
theorem dX6_sham_59 : decode cX6_sham 59 = .ok (.invokevirtual 135, 3) := by decide +kernel
theorem dX6_sham_62 : decode cX6_sham 62 = .ok (.istore_n 3, 1) := by decide +kernel
theorem dX6_sham_63 : decode cX6_sham 63 = .ok (.iconst 0, 1) := by decide +kernel
theorem dX6_sham_64 : decode cX6_sham 64 = .ok (.istore 4, 2) := by decide +kernel
theorem dX6_sham_66 : decode cX6_sham 66 = .ok (.iload 4, 2) := by decide +kernel
theorem dX6_sham_68 : decode cX6_sham 68 = .ok (.bipush 6, 2) := by decide +kernel
theorem dX6_sham_70 : decode cX6_sham 70 = .ok (.if_icmp .ge 56, 3) := by decide +kernel
theorem dX6_sham_73 : decode cX6_sham 73 = .ok (.aload_n 0, 1) := by decide +kernel
theorem dX6_sham_74 : decode cX6_sham 74 = .ok (.getfield 36, 3) := by decide +kernel
theorem dX6_sham_77 : decode cX6_sham 77 = .ok (.getfield 201, 3) := by decide +kernel
theorem dX6_sham_80 : decode cX6_sham 80 = .ok (.iload_n 1, 1) := by decide +kernel
theorem dX6_sham_81 : decode cX6_sham 81 = .ok (.iload 4, 2) := by decide +kernel
theorem dX6_sham_83 : decode cX6_sham 83 = .ok (.iastore, 1) := by decide +kernel
theorem dX6_sham_84 : decode cX6_sham 84 = .ok (.aload_n 0, 1) := by decide +kernel
theorem dX6_sham_85 : decode cX6_sham 85 = .ok (.getfield 10, 3) := by decide +kernel
theorem dX6_sham_88 : decode cX6_sham 88 = .ok (.iload_n 1, 1) := by decide +kernel
theorem dX6_sham_89 : decode cX6_sham 89 = .ok (.aload_n 0, 1) := by decide +kernel
theorem dX6_sham_90 : decode cX6_sham 90 = .ok (.getfield 36, 3) := by decide +kernel
theorem dX6_sham_93 : decode cX6_sham 93 = .ok (.aload_n 0, 1) := by decide +kernel
theorem dX6_sham_94 : decode cX6_sham 94 = .ok (.getfield 10, 3) := by decide +kernel
theorem dX6_sham_97 : decode cX6_sham 97 = .ok (.iconst 1, 1) := by decide +kernel
theorem dX6_sham_98 : decode cX6_sham 98 = .ok (.iload_n 1, 1) := by decide +kernel
theorem dX6_sham_99 : decode cX6_sham 99 = .ok (.ishl, 1) := by decide +kernel
theorem dX6_sham_100 : decode cX6_sham 100 = .ok (.invokevirtual 217, 3) := by decide +kernel
theorem dX6_sham_103 : decode cX6_sham 103 = .ok (.invokevirtual 135, 3) := by decide +kernel
theorem dX6_sham_106 : decode cX6_sham 106 = .ok (.istore 5, 2) := by decide +kernel
theorem dX6_sham_108 : decode cX6_sham 108 = .ok (.iload 5, 2) := by decide +kernel
theorem dX6_sham_110 : decode cX6_sham 110 = .ok (.iload_n 3, 1) := by decide +kernel
theorem dX6_sham_111 : decode cX6_sham 111 = .ok (.if_icmp .le 9, 3) := by decide +kernel
theorem dX6_sham_114 : decode cX6_sham 114 = .ok (.iload 5, 2) := by decide +kernel
theorem dX6_sham_116 : decode cX6_sham 116 = .ok (.istore_n 3, 1) := by decide +kernel
theorem dX6_sham_117 : decode cX6_sham 117 = .ok (.iload 4, 2) := by decide +kernel
theorem dX6_sham_119 : decode cX6_sham 119 = .ok (.istore_n 2, 1) := by decide +kernel
theorem dX6_sham_120 : decode cX6_sham 120 = .ok (.iinc 4 1, 3) := by decide +kernel
theorem dX6_sham_123 : decode cX6_sham 123 = .ok (.goto (-57), 3) := by decide +kernel
theorem dX6_sham_126 : decode cX6_sham 126 = .ok (.iload_n 2, 1) := by decide +kernel
theorem dX6_sham_127 : decode cX6_sham 127 = .ok (.ireturn, 1) := by decide +kernel
def p_X6_sham_J120 (F : tF) (Fn : tF) (An : tA) (Fb : tF) (Ab : tA) (B66 : (tF → tA → tF → tA → Int32 → Int32 → Int32 → Prop)) (K : Int32 → tF → tA → tF → tA → Prop) (x1 : Int32) (x2 : Int32) (x3 : Int32) (x4 : Int32) : Prop := (∀ y120 : Int32, y120 = (x4 + (1 : Int32)) → (B66 Fn An Fb Ab x2 x3 y120))
set_option maxHeartbeats 4000000 in
set_option maxRecDepth 100000 in
theorem b_X6_sham_J120 {p : Program} {l : Launch} {e : Env} {s : State} {m : MethodId} {args : Array Value} {below : List Frame} {meth : Method} {c : Code} {Q : State → Prop} {D : va_G} {cI cZ cR : ClassId} {adK adV : Nat → Nat} {A9 : Nat → Prop} {o : Nat} {q : Nat → Nat} {qn : Nat → Nat} {qb : Nat → Nat} {K : Int32 → tF → tA → tF → tA → Prop} {B66 : (tF → tA → tF → tA → Int32 → Int32 → Int32 → Prop)} (F : tF) (Fn : tF) (An : tA) (Fb : tF) (Ab : tA) (x1 : Int32) (x2 : Int32) (x3 : Int32) (x4 : Int32) (X : CX p s m args c yX6_sham.cls cX6_sham 6 D cI cZ cR adK adV A9) (ret : RTi p l e (rmN 4 171) s m args below meth c Q cX6_sham D A9 (fun (r : Int32) (u : (tF × tA) × (tF × tA)) => K r u.1.1 u.1.2 u.2.1 u.2.2) (fun (u : (tF × tA) × (tF × tA)) => (wX6 o q F ++ wX2 cI cZ (q 0) qn u.1.1 u.1.2 ++ wX0 cI cZ (q 5) qb u.2.1 u.2.2 : va_W))) (hB66 : ∀ (Fn : tF) (An : tA) (Fb : tF) (Ab : tA) (x2 : Int32) (x3 : Int32) (x4 : Int32) (H : Heap) (locs : List Loc) (ls : Array Slot), B66 Fn An Fb Ab x2 x3 x4 → va_P D vwCl (wX6 o q F ++ wX2 cI cZ (q 0) qn Fn An ++ wX0 cI cZ (q 5) qb Fb Ab : va_W) H → va_D A9 (wX6 o q F ++ wX2 cI cZ (q 0) qn Fn An ++ wX0 cI cZ (q 5) qb Fb Ab : va_W) → va_S A9 s.heap H locs → lv_has ls 6 [(0, .ref o), (1, .int x1), (2, .int x2), (3, .int x3), (4, .int x4)] → W p l e (rmN 4 171) s m args below meth c H locs 0 0 Q (F0 m 66 ls [])) (H : Heap) (locs : List Loc) (ls : Array Slot) (h : p_X6_sham_J120 F Fn An Fb Ab B66 K x1 x2 x3 x4) (hP : va_P D vwCl (wX6 o q F ++ wX2 cI cZ (q 0) qn Fn An ++ wX0 cI cZ (q 5) qb Fb Ab : va_W) H) (hD : va_D A9 (wX6 o q F ++ wX2 cI cZ (q 0) qn Fn An ++ wX0 cI cZ (q 5) qb Fb Ab : va_W)) (hS : va_S A9 s.heap H locs) (hl : lv_has ls 6 [(0, .ref o), (1, .int x1), (2, .int x2), (3, .int x3), (4, .int x4)]) : W p l e (rmN 4 171) s m args below meth c H locs 0 0 Q (F0 m 120 ls []) := by
  obtain ⟨hx, hb, hml, ht, hown, hK, hA, hE⟩ := id X
  unfold p_X6_sham_J120 at h
  obtain ⟨y120, ey120⟩ : ∃ y : Int32, y = (x4 + (1 : Int32)) := ⟨_, rfl⟩
  replace h := h y120 ey120
  refine lv_iinc (v := y120) (lv' := [(4, .int y120), (0, .ref o), (1, .int x1), (2, .int x2), (3, .int x3)]) hx hb dX6_sham_120 hl (k := 4) rfl (by rw [ey120]; rfl) (by decide) rfl (fun ls hl => ?_)
  refine lv_goto (tgt := 66) hx hb dX6_sham_123 (by decide) ?_
  exact hB66 Fn An Fb Ab x2 x3 y120 _ _ _ h hP hD hS (lv_sub hl [1, 2, 3, 4, 0] rfl)
def p_X6_sham_L66 (F : tF) (x1 : Int32) (K : Int32 → tF → tA → tF → tA → Prop) : Nat → tF → tA → tF → tA → Int32 → Int32 → Int32 → Prop
  | 0, _, _, _, _, _, _, _ => False
  | n66 + 1, Fn, An, Fb, Ab, x2, x3, x4 => (((6 : Int32) ≤ x4 → (K x2 Fn An Fb Ab)) ∧ (¬ (6 : Int32) ≤ x4 → (vp_in x1 8 ∧ (∀ f_83 : tF, f_83 = (upd (Ab 2) (x1).toNatClampNeg x4) → (p_X0_favouriteWith Fb (va_up Ab 2 f_83) Fn An ((1 : Int32) <<< (x1 &&& 31)) (fun r100 Fn_100 An_100 => (p_X2_worthTo Fn_100 An_100 x1 r100 (fun r103 => ((r103 ≤ x3 → (p_X6_sham_J120 F Fn_100 An_100 Fb (va_up Ab 2 f_83) (p_X6_sham_L66 F x1 K n66) K x1 x2 x3 x4)) ∧ (¬ r103 ≤ x3 → (p_X6_sham_J120 F Fn_100 An_100 Fb (va_up Ab 2 f_83) (p_X6_sham_L66 F x1 K n66) K x1 x4 r103 x4)))))))))))
set_option maxHeartbeats 4000000 in
set_option maxRecDepth 100000 in
theorem b_X6_sham_L66 {p : Program} {l : Launch} {e : Env} {s : State} {m : MethodId} {args : Array Value} {below : List Frame} {meth : Method} {c : Code} {Q : State → Prop} {D : va_G} {cI cZ cR : ClassId} {adK adV : Nat → Nat} {A9 : Nat → Prop} {o : Nat} {q : Nat → Nat} {qn : Nat → Nat} {qb : Nat → Nat} {K : Int32 → tF → tA → tF → tA → Prop}  (F : tF) (x1 : Int32) (X : CX p s m args c yX6_sham.cls cX6_sham 6 D cI cZ cR adK adV A9) (ret : RTi p l e (rmN 4 171) s m args below meth c Q cX6_sham D A9 (fun (r : Int32) (u : (tF × tA) × (tF × tA)) => K r u.1.1 u.1.2 u.2.1 u.2.2) (fun (u : (tF × tA) × (tF × tA)) => (wX6 o q F ++ wX2 cI cZ (q 0) qn u.1.1 u.1.2 ++ wX0 cI cZ (q 5) qb u.2.1 u.2.2 : va_W)))   : ∀ (n : Nat) (Fn : tF) (An : tA) (Fb : tF) (Ab : tA) (x2 : Int32) (x3 : Int32) (x4 : Int32) (H : Heap) (locs : List Loc) (ls : Array Slot), p_X6_sham_L66 F x1 K n Fn An Fb Ab x2 x3 x4 → va_P D vwCl (wX6 o q F ++ wX2 cI cZ (q 0) qn Fn An ++ wX0 cI cZ (q 5) qb Fb Ab : va_W) H → va_D A9 (wX6 o q F ++ wX2 cI cZ (q 0) qn Fn An ++ wX0 cI cZ (q 5) qb Fb Ab : va_W) → va_S A9 s.heap H locs → lv_has ls 6 [(0, .ref o), (1, .int x1), (2, .int x2), (3, .int x3), (4, .int x4)] → W p l e (rmN 4 171) s m args below meth c H locs 0 0 Q (F0 m 66 ls []) := by
  obtain ⟨hx, hb, hml, ht, hown, hK, hA, hE⟩ := id X
  intro n
  induction n with
  | zero => intro Fn An Fb Ab x2 x3 x4 H locs ls h; exact False.elim h
  | succ n66 ih =>
    intro Fn An Fb Ab x2 x3 x4 H locs ls h hP hD hS hl
    rw [p_X6_sham_L66] at h
    refine lv_iload hx hb dX6_sham_66 (lv_at hl 4 rfl) ?_
    refine lv_bipush (v := 6) hx hb dX6_sham_68 (by decide) ?_
    refine lv_icmp_ge (tgt := 126) hx hb dX6_sham_70 (by decide) (fun c70 => ?_) (fun c70 => ?_)
    · replace h := h.1 c70
      refine lv_iload_n hx hb dX6_sham_126 rfl (lv_at hl 2 rfl) ?_
      exact ret _ ((Fn, An), (Fb, Ab)) _ _ _ _ dX6_sham_127 h hP hD hS
    · replace h := h.2 c70
      refine lv_aload_n hx hb dX6_sham_73 rfl (lv_at hl 0 rfl) ?_
      refine va_get (C := RX6) (T := TX6) (N := 13) (own := RX6) (v := .ref (q 5)) hx hb ht inlX6 hown hK hP 0 rfl rfl 5 (Nat.le_of_ble_eq_true rfl) (ht _ mw_2_3) (fun _ h9 => h9) rfl dX6_sham_74 ?_
      refine va_get (C := RX0) (T := TX0) (N := 4) (own := RX6) (v := .ref (qb 2)) hx hb ht inlX0 hown hK hP 10 rfl rfl 2 (Nat.le_of_ble_eq_true rfl) (ht _ mw_32_6) (fun _ h9 => h9) rfl dX6_sham_77 ?_
      refine lv_iload_n hx hb dX6_sham_80 rfl (lv_at hl 1 rfl) ?_
      refine lv_iload hx hb dX6_sham_81 (lv_at hl 4 rfl) ?_
      obtain ⟨hi83, h⟩ := h
      obtain ⟨f_83, ef_83⟩ : ∃ z : tF, z = (upd (Ab 2) (x1).toNatClampNeg x4) := ⟨_, rfl⟩
      replace h := h f_83 ef_83
      refine g_iast (f := (Ab 2)) (k := (x1).toNatClampNeg) hx hb hK hP hD hS 13 0 rfl rfl hi83 rfl ef_83 dX6_sham_83 (fun H locs hP hD hS => ?_)
      have hP : va_P D vwCl (wX6 o q F ++ wX2 cI cZ (q 0) qn Fn An ++ wX0 cI cZ (q 5) qb Fb (va_up Ab 2 f_83) : va_W) H := hP
      have hD : va_D A9 (wX6 o q F ++ wX2 cI cZ (q 0) qn Fn An ++ wX0 cI cZ (q 5) qb Fb (va_up Ab 2 f_83) : va_W) := hD
      refine lv_aload_n hx hb dX6_sham_84 rfl (lv_at hl 0 rfl) ?_
      refine va_get (C := RX6) (T := TX6) (N := 13) (own := RX6) (v := .ref (q 0)) hx hb ht inlX6 hown hK hP 0 rfl rfl 0 (Nat.le_of_ble_eq_true rfl) (ht _ mw_1_16) (fun _ h9 => h9) rfl dX6_sham_85 ?_
      refine lv_iload_n hx hb dX6_sham_88 rfl (lv_at hl 1 rfl) ?_
      refine lv_aload_n hx hb dX6_sham_89 rfl (lv_at hl 0 rfl) ?_
      refine va_get (C := RX6) (T := TX6) (N := 13) (own := RX6) (v := .ref (q 5)) hx hb ht inlX6 hown hK hP 0 rfl rfl 5 (Nat.le_of_ble_eq_true rfl) (ht _ mw_2_3) (fun _ h9 => h9) rfl dX6_sham_90 ?_
      refine lv_aload_n hx hb dX6_sham_93 rfl (lv_at hl 0 rfl) ?_
      refine va_get (C := RX6) (T := TX6) (N := 13) (own := RX6) (v := .ref (q 0)) hx hb ht inlX6 hown hK hP 0 rfl rfl 0 (Nat.le_of_ble_eq_true rfl) (ht _ mw_1_16) (fun _ h9 => h9) rfl dX6_sham_94 ?_
      refine lv_iconst (v := 1) hx hb dX6_sham_97 (by decide) ?_
      refine lv_iload_n hx hb dX6_sham_98 rfl (lv_at hl 1 rfl) ?_
      refine lv_ishl hx hb dX6_sham_99 ?_
      refine C_vi (wr := [0].filterMap (fun i => (wX6 o q F ++ wX2 cI cZ (q 0) qn Fn An ++ wX0 cI cZ (q 5) qb Fb (va_up Ab 2 f_83) : va_W)[i]?)) X hP hD hS [.ref (q 0), .int ((1 : Int32) <<< (x1 &&& 31))] [.int x1, .ref (q 0)] (w_X0_favouriteWith l D cI cZ cR adK adV _ (q 5) qb (q 0) qn Fb (va_up Ab 2 f_83) Fn An ((1 : Int32) <<< (x1 &&& 31)) _ h) cal_X0_favouriteWith mw_38_5 rfl [10, 11, 12, 13, 14, 1, 2, 3, 4, 5, 6, 7, 8, 9] [0] [0, 6, 7, 8, 9, 10, 11, 12, 13, 14, 1, 2, 3, 4, 5] (fun u => (wX6 o q F ++ wX2 cI cZ (q 0) qn u.1 u.2 ++ wX0 cI cZ (q 5) qb Fb (va_up Ab 2 f_83) : va_W)) rfl rfl (fun _ => rfl) rfl 10 rfl rfl ⟨rfl, rfl⟩ ⟨Nat.le_of_ble_eq_true rfl, Nat.le_of_ble_eq_true rfl⟩ hl.1 rfl (Nat.le_of_ble_eq_true rfl) ⟨Nat.zero_le _, Nat.zero_le _⟩ dX6_sham_100 (fun r100 u H locs h hP hD hS => ?_)
      obtain ⟨Fn_100, An_100⟩ := u
      try dsimp only at h
      have hP : va_P D vwCl (wX6 o q F ++ wX2 cI cZ (q 0) qn Fn_100 An_100 ++ wX0 cI cZ (q 5) qb Fb (va_up Ab 2 f_83) : va_W) H := hP
      have hD : va_D A9 (wX6 o q F ++ wX2 cI cZ (q 0) qn Fn_100 An_100 ++ wX0 cI cZ (q 5) qb Fb (va_up Ab 2 f_83) : va_W) := hD
      refine C_vi (wr := [0, 10, 11, 12, 13, 14].filterMap (fun i => (wX6 o q F ++ wX2 cI cZ (q 0) qn Fn_100 An_100 ++ wX0 cI cZ (q 5) qb Fb (va_up Ab 2 f_83) : va_W)[i]?)) X hP hD hS [.int x1, .int r100] [] (w_X2_worthTo l D cI cZ cR adK adV _ (q 0) qn Fn_100 An_100 x1 r100 _ h) cal_X2_worthTo mw_19_15 rfl [1, 2, 3, 4, 5, 6, 7, 8, 9] [0, 10, 11, 12, 13, 14] [0, 6, 7, 8, 9, 10, 11, 12, 13, 14, 1, 2, 3, 4, 5] (fun u => (wX6 o q F ++ wX2 cI cZ (q 0) qn Fn_100 An_100 ++ wX0 cI cZ (q 5) qb Fb (va_up Ab 2 f_83) : va_W)) rfl rfl (fun _ => rfl) rfl 1 rfl rfl ⟨rfl, rfl⟩ ⟨Nat.le_of_ble_eq_true rfl, Nat.le_of_ble_eq_true rfl⟩ hl.1 rfl (Nat.le_of_ble_eq_true rfl) ⟨Nat.zero_le _, Nat.zero_le _⟩ dX6_sham_103 (fun r103 u H locs h hP hD hS => ?_)
      refine lv_istore (lv' := [(5, .int r103), (0, .ref o), (1, .int x1), (2, .int x2), (3, .int x3), (4, .int x4)]) hx hb dX6_sham_106 hl (by decide) rfl (fun ls hl => ?_)
      refine lv_iload hx hb dX6_sham_108 (lv_at hl 0 rfl) ?_
      refine lv_iload_n hx hb dX6_sham_110 rfl (lv_at hl 4 rfl) ?_
      refine lv_icmp_le (tgt := 120) hx hb dX6_sham_111 (by decide) (fun c111 => ?_) (fun c111 => ?_)
      · replace h := h.1 c111
        exact b_X6_sham_J120 F Fn_100 An_100 Fb (va_up Ab 2 f_83) x1 x2 x3 x4 X ret ih _ _ _ h hP hD hS (lv_sub hl [1, 2, 3, 4, 5] rfl)
      · replace h := h.2 c111
        refine lv_iload hx hb dX6_sham_114 (lv_at hl 0 rfl) ?_
        refine lv_istore_n (lv' := [(3, .int r103), (5, .int r103), (0, .ref o), (1, .int x1), (2, .int x2), (4, .int x4)]) hx hb dX6_sham_116 rfl hl (by decide) rfl (fun ls hl => ?_)
        refine lv_iload hx hb dX6_sham_117 (lv_at hl 5 rfl) ?_
        refine lv_istore_n (lv' := [(2, .int x4), (3, .int r103), (5, .int r103), (0, .ref o), (1, .int x1), (4, .int x4)]) hx hb dX6_sham_119 rfl hl (by decide) rfl (fun ls hl => ?_)
        exact b_X6_sham_J120 F Fn_100 An_100 Fb (va_up Ab 2 f_83) x1 x4 r103 x4 X ret ih _ _ _ h hP hD hS (lv_sub hl [3, 4, 0, 1, 5] rfl)
def p_X6_sham (F : tF) (Fn : tF) (An : tA) (Fb : tF) (Ab : tA) (x1 : Int32) (K : Int32 → tF → tA → tF → tA → Prop) : Prop := (p_X6_isSheep F Fn An x1 (fun r2 => ((¬ r2 = 0 → (p_X0_take Fb Ab Fn An (fun Fb_18 Ab_18 => (vp_in x1 8 ∧ (vp_in x1 8 ∧ (∀ f_38 : tF, f_38 = (upd (Ab_18 3) (x1).toNatClampNeg ((Ab_18 1) (x1).toNatClampNeg)) → (p_X0_favouriteWith Fb_18 (va_up Ab_18 3 f_38) Fn An (0 : Int32) (fun r56 Fn_56 An_56 => (p_X2_worthTo Fn_56 An_56 x1 r56 (fun r59 => (∃ n66, p_X6_sham_L66 F x1 K n66 Fn_56 An_56 Fb_18 (va_up Ab_18 3 f_38) (-3 : Int32) r59 (0 : Int32)))))))))))) ∧ (r2 = 0 → (K (-1 : Int32) Fn An Fb Ab)))))
set_option maxHeartbeats 4000000 in
set_option maxRecDepth 100000 in
theorem w_X6_sham (l : Launch) (D : va_G) (cI cZ cR : ClassId) (adK adV : Nat → Nat) (sz : Nat) (o : Nat) (q : Nat → Nat) (qn : Nat → Nat) (qb : Nat → Nat) (F : tF) (Fn : tF) (An : tA) (Fb : tF) (Ab : tA) (x1 : Int32) (K : Int32 → tF → tA → tF → tA → Prop) (h : p_X6_sham F Fn An Fb Ab x1 K) : MI l D cI cZ cR adK adV yX6_sham cX6_sham 6 (some .int) (rmN 4 171) [.ref o, .int x1] (wX6 o q F ++ wX2 cI cZ (q 0) qn Fn An ++ wX0 cI cZ (q 5) qb Fb Ab : va_W) sz (fun (r : Int32) (u : (tF × tA) × (tF × tA)) => K r u.1.1 u.1.2 u.2.1 u.2.2) (fun (u : (tF × tA) × (tF × tA)) => (wX6 o q F ++ wX2 cI cZ (q 0) qn u.1.1 u.1.2 ++ wX0 cI cZ (q 5) qb u.2.1 u.2.2 : va_W)) := by
  refine M_i (by decide +kernel) (Nat.le_of_ble_eq_true rfl) ?_
  intro p e s m args below meth c Q A9 ls X ret hP hD hS hl
  obtain ⟨hx, hb, hml, ht, hown, hK, hA, hE⟩ := id X
  have hl : lv_has ls 6 [(0, .ref o), (1, .int x1)] := hl
  unfold p_X6_sham at h
  refine lv_aload_n hx hb dX6_sham_0 rfl (lv_at hl 0 rfl) ?_
  refine lv_iload_n hx hb dX6_sham_1 rfl (lv_at hl 1 rfl) ?_
  refine C_vi (wr := [10, 11, 12, 13, 14].filterMap (fun i => (wX6 o q F ++ wX2 cI cZ (q 0) qn Fn An ++ wX0 cI cZ (q 5) qb Fb Ab : va_W)[i]?)) X hP hD hS [.int x1] [] (w_X6_isSheep l D cI cZ cR adK adV _ o q qn F Fn An x1 _ h) cal_X6_isSheep mw_17_8 rfl [0, 1, 2, 3, 4, 5, 6, 7, 8, 9] [10, 11, 12, 13, 14] [5, 6, 7, 8, 9, 10, 11, 12, 13, 14, 0, 1, 2, 3, 4] (fun u => (wX6 o q F ++ wX2 cI cZ (q 0) qn Fn An ++ wX0 cI cZ (q 5) qb Fb Ab : va_W)) rfl rfl (fun _ => rfl) rfl 0 rfl rfl ⟨rfl, rfl⟩ ⟨Nat.le_of_ble_eq_true rfl, Nat.le_of_ble_eq_true rfl⟩ hl.1 rfl (Nat.le_of_ble_eq_true rfl) ⟨Nat.zero_le _, Nat.zero_le _⟩ dX6_sham_2 (fun r2 u H locs h hP hD hS => ?_)
  refine lv_if_ne (tgt := 10) hx hb dX6_sham_5 (by decide) (fun c5 => ?_) (fun c5 => ?_)
  · replace h := h.1 c5
    refine lv_aload_n hx hb dX6_sham_10 rfl (lv_at hl 0 rfl) ?_
    refine va_get (C := RX6) (T := TX6) (N := 13) (own := RX6) (v := .ref (q 5)) hx hb ht inlX6 hown hK hP 0 rfl rfl 5 (Nat.le_of_ble_eq_true rfl) (ht _ mw_2_3) (fun _ h9 => h9) rfl dX6_sham_11 ?_
    refine lv_aload_n hx hb dX6_sham_14 rfl (lv_at hl 0 rfl) ?_
    refine va_get (C := RX6) (T := TX6) (N := 13) (own := RX6) (v := .ref (q 0)) hx hb ht inlX6 hown hK hP 0 rfl rfl 0 (Nat.le_of_ble_eq_true rfl) (ht _ mw_1_16) (fun _ h9 => h9) rfl dX6_sham_15 ?_
    refine C_vv (wr := [0].filterMap (fun i => (wX6 o q F ++ wX2 cI cZ (q 0) qn Fn An ++ wX0 cI cZ (q 5) qb Fb Ab : va_W)[i]?)) X hP hD hS [.ref (q 0)] [] (w_X0_take l D cI cZ cR adK adV _ (q 5) qb (q 0) qn Fb Ab Fn An _ h) cal_X0_take mw_32_8 rfl [10, 11, 12, 13, 14, 1, 2, 3, 4, 5, 6, 7, 8, 9] [0] [0, 6, 7, 8, 9, 10, 11, 12, 13, 14, 1, 2, 3, 4, 5] (fun u => (wX6 o q F ++ wX2 cI cZ (q 0) qn Fn An ++ wX0 cI cZ (q 5) qb u.1 u.2 : va_W)) rfl rfl (fun _ => rfl) rfl 10 rfl rfl ⟨rfl, rfl⟩ ⟨Nat.le_of_ble_eq_true rfl, Nat.le_of_ble_eq_true rfl⟩ hl.1 rfl (Nat.le_of_ble_eq_true rfl) ⟨Nat.zero_le _, Nat.zero_le _⟩ dX6_sham_18 (fun u H locs h hP hD hS => ?_)
    obtain ⟨Fb_18, Ab_18⟩ := u
    try dsimp only at h
    have hP : va_P D vwCl (wX6 o q F ++ wX2 cI cZ (q 0) qn Fn An ++ wX0 cI cZ (q 5) qb Fb_18 Ab_18 : va_W) H := hP
    have hD : va_D A9 (wX6 o q F ++ wX2 cI cZ (q 0) qn Fn An ++ wX0 cI cZ (q 5) qb Fb_18 Ab_18 : va_W) := hD
    refine lv_aload_n hx hb dX6_sham_21 rfl (lv_at hl 0 rfl) ?_
    refine va_get (C := RX6) (T := TX6) (N := 13) (own := RX6) (v := .ref (q 5)) hx hb ht inlX6 hown hK hP 0 rfl rfl 5 (Nat.le_of_ble_eq_true rfl) (ht _ mw_2_3) (fun _ h9 => h9) rfl dX6_sham_22 ?_
    refine va_get (C := RX0) (T := TX0) (N := 4) (own := RX6) (v := .ref (qb 3)) hx hb ht inlX0 hown hK hP 10 rfl rfl 3 (Nat.le_of_ble_eq_true rfl) (ht _ mw_32_7) (fun _ h9 => h9) rfl dX6_sham_25 ?_
    refine lv_iload_n hx hb dX6_sham_28 rfl (lv_at hl 1 rfl) ?_
    refine lv_aload_n hx hb dX6_sham_29 rfl (lv_at hl 0 rfl) ?_
    refine va_get (C := RX6) (T := TX6) (N := 13) (own := RX6) (v := .ref (q 5)) hx hb ht inlX6 hown hK hP 0 rfl rfl 5 (Nat.le_of_ble_eq_true rfl) (ht _ mw_2_3) (fun _ h9 => h9) rfl dX6_sham_30 ?_
    refine va_get (C := RX0) (T := TX0) (N := 4) (own := RX6) (v := .ref (qb 1)) hx hb ht inlX0 hown hK hP 10 rfl rfl 1 (Nat.le_of_ble_eq_true rfl) (ht _ mw_38_4) (fun _ h9 => h9) rfl dX6_sham_33 ?_
    refine lv_iload_n hx hb dX6_sham_36 rfl (lv_at hl 1 rfl) ?_
    obtain ⟨hi37, h⟩ := h
    refine g_iald (f := (Ab_18 1)) (k := (x1).toNatClampNeg) hx hb hK hP 12 0 rfl rfl hi37 rfl dX6_sham_37 ?_
    obtain ⟨hi38, h⟩ := h
    obtain ⟨f_38, ef_38⟩ : ∃ z : tF, z = (upd (Ab_18 3) (x1).toNatClampNeg ((Ab_18 1) (x1).toNatClampNeg)) := ⟨_, rfl⟩
    replace h := h f_38 ef_38
    refine g_iast (f := (Ab_18 3)) (k := (x1).toNatClampNeg) hx hb hK hP hD hS 14 0 rfl rfl hi38 rfl ef_38 dX6_sham_38 (fun H locs hP hD hS => ?_)
    have hP : va_P D vwCl (wX6 o q F ++ wX2 cI cZ (q 0) qn Fn An ++ wX0 cI cZ (q 5) qb Fb_18 (va_up Ab_18 3 f_38) : va_W) H := hP
    have hD : va_D A9 (wX6 o q F ++ wX2 cI cZ (q 0) qn Fn An ++ wX0 cI cZ (q 5) qb Fb_18 (va_up Ab_18 3 f_38) : va_W) := hD
    refine lv_bipush (v := -3) hx hb dX6_sham_39 (by decide) ?_
    refine lv_istore_n (lv' := [(2, .int (-3 : Int32)), (0, .ref o), (1, .int x1)]) hx hb dX6_sham_41 rfl hl (by decide) rfl (fun ls hl => ?_)
    refine lv_aload_n hx hb dX6_sham_42 rfl (lv_at hl 1 rfl) ?_
    refine va_get (C := RX6) (T := TX6) (N := 13) (own := RX6) (v := .ref (q 0)) hx hb ht inlX6 hown hK hP 0 rfl rfl 0 (Nat.le_of_ble_eq_true rfl) (ht _ mw_1_16) (fun _ h9 => h9) rfl dX6_sham_43 ?_
    refine lv_iload_n hx hb dX6_sham_46 rfl (lv_at hl 2 rfl) ?_
    refine lv_aload_n hx hb dX6_sham_47 rfl (lv_at hl 1 rfl) ?_
    refine va_get (C := RX6) (T := TX6) (N := 13) (own := RX6) (v := .ref (q 5)) hx hb ht inlX6 hown hK hP 0 rfl rfl 5 (Nat.le_of_ble_eq_true rfl) (ht _ mw_2_3) (fun _ h9 => h9) rfl dX6_sham_48 ?_
    refine lv_aload_n hx hb dX6_sham_51 rfl (lv_at hl 1 rfl) ?_
    refine va_get (C := RX6) (T := TX6) (N := 13) (own := RX6) (v := .ref (q 0)) hx hb ht inlX6 hown hK hP 0 rfl rfl 0 (Nat.le_of_ble_eq_true rfl) (ht _ mw_1_16) (fun _ h9 => h9) rfl dX6_sham_52 ?_
    refine lv_iconst (v := 0) hx hb dX6_sham_55 (by decide) ?_
    refine C_vi (wr := [0].filterMap (fun i => (wX6 o q F ++ wX2 cI cZ (q 0) qn Fn An ++ wX0 cI cZ (q 5) qb Fb_18 (va_up Ab_18 3 f_38) : va_W)[i]?)) X hP hD hS [.ref (q 0), .int (0 : Int32)] [.int x1, .ref (q 0)] (w_X0_favouriteWith l D cI cZ cR adK adV _ (q 5) qb (q 0) qn Fb_18 (va_up Ab_18 3 f_38) Fn An (0 : Int32) _ h) cal_X0_favouriteWith mw_38_5 rfl [10, 11, 12, 13, 14, 1, 2, 3, 4, 5, 6, 7, 8, 9] [0] [0, 6, 7, 8, 9, 10, 11, 12, 13, 14, 1, 2, 3, 4, 5] (fun u => (wX6 o q F ++ wX2 cI cZ (q 0) qn u.1 u.2 ++ wX0 cI cZ (q 5) qb Fb_18 (va_up Ab_18 3 f_38) : va_W)) rfl rfl (fun _ => rfl) rfl 10 rfl rfl ⟨rfl, rfl⟩ ⟨Nat.le_of_ble_eq_true rfl, Nat.le_of_ble_eq_true rfl⟩ hl.1 rfl (Nat.le_of_ble_eq_true rfl) ⟨Nat.zero_le _, Nat.zero_le _⟩ dX6_sham_56 (fun r56 u H locs h hP hD hS => ?_)
    obtain ⟨Fn_56, An_56⟩ := u
    try dsimp only at h
    have hP : va_P D vwCl (wX6 o q F ++ wX2 cI cZ (q 0) qn Fn_56 An_56 ++ wX0 cI cZ (q 5) qb Fb_18 (va_up Ab_18 3 f_38) : va_W) H := hP
    have hD : va_D A9 (wX6 o q F ++ wX2 cI cZ (q 0) qn Fn_56 An_56 ++ wX0 cI cZ (q 5) qb Fb_18 (va_up Ab_18 3 f_38) : va_W) := hD
    refine C_vi (wr := [0, 10, 11, 12, 13, 14].filterMap (fun i => (wX6 o q F ++ wX2 cI cZ (q 0) qn Fn_56 An_56 ++ wX0 cI cZ (q 5) qb Fb_18 (va_up Ab_18 3 f_38) : va_W)[i]?)) X hP hD hS [.int x1, .int r56] [] (w_X2_worthTo l D cI cZ cR adK adV _ (q 0) qn Fn_56 An_56 x1 r56 _ h) cal_X2_worthTo mw_19_15 rfl [1, 2, 3, 4, 5, 6, 7, 8, 9] [0, 10, 11, 12, 13, 14] [0, 6, 7, 8, 9, 10, 11, 12, 13, 14, 1, 2, 3, 4, 5] (fun u => (wX6 o q F ++ wX2 cI cZ (q 0) qn Fn_56 An_56 ++ wX0 cI cZ (q 5) qb Fb_18 (va_up Ab_18 3 f_38) : va_W)) rfl rfl (fun _ => rfl) rfl 1 rfl rfl ⟨rfl, rfl⟩ ⟨Nat.le_of_ble_eq_true rfl, Nat.le_of_ble_eq_true rfl⟩ hl.1 rfl (Nat.le_of_ble_eq_true rfl) ⟨Nat.zero_le _, Nat.zero_le _⟩ dX6_sham_59 (fun r59 u H locs h hP hD hS => ?_)
    refine lv_istore_n (lv' := [(3, .int r59), (2, .int (-3 : Int32)), (0, .ref o), (1, .int x1)]) hx hb dX6_sham_62 rfl hl (by decide) rfl (fun ls hl => ?_)
    refine lv_iconst (v := 0) hx hb dX6_sham_63 (by decide) ?_
    refine lv_istore (lv' := [(4, .int (0 : Int32)), (3, .int r59), (2, .int (-3 : Int32)), (0, .ref o), (1, .int x1)]) hx hb dX6_sham_64 hl (by decide) rfl (fun ls hl => ?_)
    obtain ⟨n66, h⟩ := h
    exact b_X6_sham_L66 F x1 X ret  n66 Fn_56 An_56 Fb_18 (va_up Ab_18 3 f_38) (-3 : Int32) r59 (0 : Int32) _ _ _ h hP hD hS (lv_sub hl [3, 4, 2, 1, 0] rfl)
  · replace h := h.2 c5
    refine lv_iconst (v := -1) hx hb dX6_sham_8 (by decide) ?_
    exact ret _ ((Fn, An), (Fb, Ab)) _ _ _ _ dX6_sham_9 h hP hD hS
theorem cal_X0_ordersTurnedBy : CalV yX0_ordersTurnedBy cX0_ordersTurnedBy 9 (some .long) 2 := ⟨mw_38_18, mw_2_2, mw_38_16, mw_38_17, ⟨by decide +kernel, by decide +kernel, by decide +kernel⟩⟩
theorem cal_X6_partOf : CalS yX6_partOf cX6_partOf 7 (some .long) 3 := ⟨mw_39_5, mw_1_2, mw_39_4, ⟨by decide +kernel, by decide +kernel, by decide +kernel⟩⟩
theorem dX6_power_0 : decode cX6_power 0 = .ok (.aload_n 0, 1) := by decide +kernel
theorem dX6_power_1 : decode cX6_power 1 = .ok (.iload_n 1, 1) := by decide +kernel
theorem dX6_power_2 : decode cX6_power 2 = .ok (.invokevirtual 114, 3) := by decide +kernel
theorem dX6_power_5 : decode cX6_power 5 = .ok (.ifCond .eq 11, 3) := by decide +kernel
theorem dX6_power_8 : decode cX6_power 8 = .ok (.iload_n 2, 1) := by decide +kernel
theorem dX6_power_9 : decode cX6_power 9 = .ok (.iconst 2, 1) := by decide +kernel
theorem dX6_power_10 : decode cX6_power 10 = .ok (.invokestatic 95, 3) := by decide +kernel
theorem dX6_power_13 : decode cX6_power 13 = .ok (.ifCond .ne 7, 3) := by decide +kernel
theorem dX6_power_16 : decode cX6_power 16 = .ok (.ldc2_w 220, 3) := by decide +kernel
theorem dX6_power_19 : decode cX6_power 19 = .ok (.lreturn, 1) := by decide +kernel
theorem dX6_power_20 : decode cX6_power 20 = .ok (.aload_n 0, 1) := by decide +kernel
theorem dX6_power_21 : decode cX6_power 21 = .ok (.getfield 36, 3) := by decide +kernel
theorem dX6_power_24 : decode cX6_power 24 = .ok (.aload_n 0, 1) := by decide +kernel
theorem dX6_power_25 : decode cX6_power 25 = .ok (.getfield 10, 3) := by decide +kernel
theorem dX6_power_28 : decode cX6_power 28 = .ok (.invokevirtual 198, 3) := by decide +kernel
theorem dX6_power_31 : decode cX6_power 31 = .ok (.aload_n 0, 1) := by decide +kernel
theorem dX6_power_32 : decode cX6_power 32 = .ok (.getfield 36, 3) := by decide +kernel
theorem dX6_power_35 : decode cX6_power 35 = .ok (.iload_n 1, 1) := by decide +kernel
theorem dX6_power_36 : decode cX6_power 36 = .ok (.aload_n 0, 1) := by decide +kernel
theorem dX6_power_37 : decode cX6_power 37 = .ok (.getfield 10, 3) := by decide +kernel
theorem dX6_power_40 : decode cX6_power 40 = .ok (.getfield 92, 3) := by decide +kernel
theorem dX6_power_43 : decode cX6_power 43 = .ok (.invokevirtual 222, 3) := by decide +kernel
theorem dX6_power_46 : decode cX6_power 46 = .ok (.aload_n 0, 1) := by decide +kernel
theorem dX6_power_47 : decode cX6_power 47 = .ok (.getfield 10, 3) := by decide +kernel
theorem dX6_power_50 : decode cX6_power 50 = .ok (.getfield 92, 3) := by decide +kernel
theorem dX6_power_53 : decode cX6_power 53 = .ok (.invokestatic 226, 3) := by decide +kernel
theorem dX6_power_56 : decode cX6_power 56 = .ok (.iload_n 2, 1) := by decide +kernel
theorem dX6_power_57 : decode cX6_power 57 = .ok (.invokestatic 230, 3) := by decide +kernel
theorem dX6_power_60 : decode cX6_power 60 = .ok (.lreturn, 1) := by decide +kernel
def p_X6_power (F : tF) (Fn : tF) (An : tA) (Fb : tF) (Ab : tA) (x1 : Int32) (x2 : Int32) (K : Int64 → tF → tA → Prop) : Prop := (p_X6_isSheep F Fn An x1 (fun r2 => ((r2 = 0 → (K (-1 : Int64) Fb Ab)) ∧ (¬ r2 = 0 → (p_X6_within x2 (2 : Int32) (fun r10 => ((¬ r10 = 0 → (p_X0_take Fb Ab Fn An (fun Fb_28 Ab_28 => (p_X0_ordersTurnedBy Fb_28 Ab_28 x1 (Fn 8) (fun r43 => (p_X0_ordersOf (Fn 8) (fun r53 => (p_X6_partOf r43 r53 x2 (fun r57 => (K r57 Fb_28 Ab_28)))))))))) ∧ (r10 = 0 → (K (-1 : Int64) Fb Ab)))))))))
set_option maxHeartbeats 4000000 in
set_option maxRecDepth 100000 in
theorem w_X6_power (l : Launch) (D : va_G) (cI cZ cR : ClassId) (adK adV : Nat → Nat) (sz : Nat) (o : Nat) (q : Nat → Nat) (qn : Nat → Nat) (qb : Nat → Nat) (F : tF) (Fn : tF) (An : tA) (Fb : tF) (Ab : tA) (x1 : Int32) (x2 : Int32) (K : Int64 → tF → tA → Prop) (h : p_X6_power F Fn An Fb Ab x1 x2 K) : ML l D cI cZ cR adK adV yX6_power cX6_power 3 (some .long) (rmN 4 171) [.ref o, .int x1, .int x2] (wX6 o q F ++ wX2 cI cZ (q 0) qn Fn An ++ wX0 cI cZ (q 5) qb Fb Ab : va_W) sz (fun (r : Int64) (u : (tF × tA)) => K r u.1 u.2) (fun (u : (tF × tA)) => (wX6 o q F ++ wX2 cI cZ (q 0) qn Fn An ++ wX0 cI cZ (q 5) qb u.1 u.2 : va_W)) := by
  refine M_l (by decide +kernel) (Nat.le_of_ble_eq_true rfl) ?_
  intro p e s m args below meth c Q A9 ls X ret hP hD hS hl
  obtain ⟨hx, hb, hml, ht, hown, hK, hA, hE⟩ := id X
  have hl : lv_has ls 3 [(0, .ref o), (1, .int x1), (2, .int x2)] := hl
  unfold p_X6_power at h
  refine lv_aload_n hx hb dX6_power_0 rfl (lv_at hl 0 rfl) ?_
  refine lv_iload_n hx hb dX6_power_1 rfl (lv_at hl 1 rfl) ?_
  refine C_vi (wr := [10, 11, 12, 13, 14].filterMap (fun i => (wX6 o q F ++ wX2 cI cZ (q 0) qn Fn An ++ wX0 cI cZ (q 5) qb Fb Ab : va_W)[i]?)) X hP hD hS [.int x1] [] (w_X6_isSheep l D cI cZ cR adK adV _ o q qn F Fn An x1 _ h) cal_X6_isSheep mw_17_8 rfl [0, 1, 2, 3, 4, 5, 6, 7, 8, 9] [10, 11, 12, 13, 14] [5, 6, 7, 8, 9, 10, 11, 12, 13, 14, 0, 1, 2, 3, 4] (fun u => (wX6 o q F ++ wX2 cI cZ (q 0) qn Fn An ++ wX0 cI cZ (q 5) qb Fb Ab : va_W)) rfl rfl (fun _ => rfl) rfl 0 rfl rfl ⟨rfl, rfl⟩ ⟨Nat.le_of_ble_eq_true rfl, Nat.le_of_ble_eq_true rfl⟩ hl.1 rfl (Nat.le_of_ble_eq_true rfl) ⟨Nat.zero_le _, Nat.zero_le _⟩ dX6_power_2 (fun r2 u H locs h hP hD hS => ?_)
  refine lv_if_eq (tgt := 16) hx hb dX6_power_5 (by decide) (fun c5 => ?_) (fun c5 => ?_)
  · replace h := h.1 c5
    refine lv_ldc2 (v := -1) hx hb hown (ht _ mw_38_14) dX6_power_16 ?_
    exact ret _ (Fb, Ab) _ _ _ _ dX6_power_19 h hP hD hS
  · replace h := h.2 c5
    refine lv_iload_n hx hb dX6_power_8 rfl (lv_at hl 2 rfl) ?_
    refine lv_iconst (v := 2) hx hb dX6_power_9 (by decide) ?_
    refine C_si (wr := [0, 1, 2, 3, 4, 5, 6, 7, 8, 9, 10, 11, 12, 13, 14].filterMap (fun i => (wX6 o q F ++ wX2 cI cZ (q 0) qn Fn An ++ wX0 cI cZ (q 5) qb Fb Ab : va_W)[i]?)) X hP hD hS [.int x2, .int (2 : Int32)] [] (w_X6_within l D cI cZ cR adK adV _ x2 (2 : Int32) _ h) cal_X6_within mw_15_9 rfl [] [0, 1, 2, 3, 4, 5, 6, 7, 8, 9, 10, 11, 12, 13, 14] [0, 1, 2, 3, 4, 5, 6, 7, 8, 9, 10, 11, 12, 13, 14] (fun u => (wX6 o q F ++ wX2 cI cZ (q 0) qn Fn An ++ wX0 cI cZ (q 5) qb Fb Ab : va_W)) rfl rfl (fun _ => rfl) rfl ⟨rfl, rfl⟩ ⟨Nat.le_of_ble_eq_true rfl, Nat.le_of_ble_eq_true rfl⟩ hl.1 rfl (Nat.le_of_ble_eq_true rfl) ⟨Nat.zero_le _, Nat.zero_le _⟩ dX6_power_10 (fun r10 u H locs h hP hD hS => ?_)
    refine lv_if_ne (tgt := 20) hx hb dX6_power_13 (by decide) (fun c13 => ?_) (fun c13 => ?_)
    · replace h := h.1 c13
      refine lv_aload_n hx hb dX6_power_20 rfl (lv_at hl 0 rfl) ?_
      refine va_get (C := RX6) (T := TX6) (N := 13) (own := RX6) (v := .ref (q 5)) hx hb ht inlX6 hown hK hP 0 rfl rfl 5 (Nat.le_of_ble_eq_true rfl) (ht _ mw_2_3) (fun _ h9 => h9) rfl dX6_power_21 ?_
      refine lv_aload_n hx hb dX6_power_24 rfl (lv_at hl 0 rfl) ?_
      refine va_get (C := RX6) (T := TX6) (N := 13) (own := RX6) (v := .ref (q 0)) hx hb ht inlX6 hown hK hP 0 rfl rfl 0 (Nat.le_of_ble_eq_true rfl) (ht _ mw_1_16) (fun _ h9 => h9) rfl dX6_power_25 ?_
      refine C_vv (wr := [0].filterMap (fun i => (wX6 o q F ++ wX2 cI cZ (q 0) qn Fn An ++ wX0 cI cZ (q 5) qb Fb Ab : va_W)[i]?)) X hP hD hS [.ref (q 0)] [] (w_X0_take l D cI cZ cR adK adV _ (q 5) qb (q 0) qn Fb Ab Fn An _ h) cal_X0_take mw_32_8 rfl [10, 11, 12, 13, 14, 1, 2, 3, 4, 5, 6, 7, 8, 9] [0] [0, 6, 7, 8, 9, 10, 11, 12, 13, 14, 1, 2, 3, 4, 5] (fun u => (wX6 o q F ++ wX2 cI cZ (q 0) qn Fn An ++ wX0 cI cZ (q 5) qb u.1 u.2 : va_W)) rfl rfl (fun _ => rfl) rfl 10 rfl rfl ⟨rfl, rfl⟩ ⟨Nat.le_of_ble_eq_true rfl, Nat.le_of_ble_eq_true rfl⟩ hl.1 rfl (Nat.le_of_ble_eq_true rfl) ⟨Nat.zero_le _, Nat.zero_le _⟩ dX6_power_28 (fun u H locs h hP hD hS => ?_)
      obtain ⟨Fb_28, Ab_28⟩ := u
      try dsimp only at h
      have hP : va_P D vwCl (wX6 o q F ++ wX2 cI cZ (q 0) qn Fn An ++ wX0 cI cZ (q 5) qb Fb_28 Ab_28 : va_W) H := hP
      have hD : va_D A9 (wX6 o q F ++ wX2 cI cZ (q 0) qn Fn An ++ wX0 cI cZ (q 5) qb Fb_28 Ab_28 : va_W) := hD
      refine lv_aload_n hx hb dX6_power_31 rfl (lv_at hl 0 rfl) ?_
      refine va_get (C := RX6) (T := TX6) (N := 13) (own := RX6) (v := .ref (q 5)) hx hb ht inlX6 hown hK hP 0 rfl rfl 5 (Nat.le_of_ble_eq_true rfl) (ht _ mw_2_3) (fun _ h9 => h9) rfl dX6_power_32 ?_
      refine lv_iload_n hx hb dX6_power_35 rfl (lv_at hl 1 rfl) ?_
      refine lv_aload_n hx hb dX6_power_36 rfl (lv_at hl 0 rfl) ?_
      refine va_get (C := RX6) (T := TX6) (N := 13) (own := RX6) (v := .ref (q 0)) hx hb ht inlX6 hown hK hP 0 rfl rfl 0 (Nat.le_of_ble_eq_true rfl) (ht _ mw_1_16) (fun _ h9 => h9) rfl dX6_power_37 ?_
      refine va_get (C := RX2) (T := TX2) (N := 13) (own := RX6) (v := .int (Fn 8)) hx hb ht inlX2 hown hK hP 1 rfl rfl 8 (Nat.le_of_ble_eq_true rfl) (ht _ mw_7_2) (fun _ h9 => h9) rfl dX6_power_40 ?_
      refine C_vl (wr := [0, 1, 2, 3, 4, 5, 6, 7, 8, 9].filterMap (fun i => (wX6 o q F ++ wX2 cI cZ (q 0) qn Fn An ++ wX0 cI cZ (q 5) qb Fb_28 Ab_28 : va_W)[i]?)) X hP hD hS [.int x1, .int (Fn 8)] [] (w_X0_ordersTurnedBy l D cI cZ cR adK adV _ (q 5) qb Fb_28 Ab_28 x1 (Fn 8) _ h) cal_X0_ordersTurnedBy mw_38_15 rfl [10, 11, 12, 13, 14] [0, 1, 2, 3, 4, 5, 6, 7, 8, 9] [0, 1, 2, 3, 4, 5, 6, 7, 8, 9, 10, 11, 12, 13, 14] (fun u => (wX6 o q F ++ wX2 cI cZ (q 0) qn Fn An ++ wX0 cI cZ (q 5) qb Fb_28 Ab_28 : va_W)) rfl rfl (fun _ => rfl) rfl 10 rfl rfl ⟨rfl, rfl⟩ ⟨Nat.le_of_ble_eq_true rfl, Nat.le_of_ble_eq_true rfl⟩ hl.1 rfl (Nat.le_of_ble_eq_true rfl) ⟨Nat.zero_le _, Nat.zero_le _⟩ dX6_power_43 (fun r43 u H locs h hP hD hS => ?_)
      refine lv_aload_n hx hb dX6_power_46 rfl (lv_at hl 0 rfl) ?_
      refine va_get (C := RX6) (T := TX6) (N := 13) (own := RX6) (v := .ref (q 0)) hx hb ht inlX6 hown hK hP 0 rfl rfl 0 (Nat.le_of_ble_eq_true rfl) (ht _ mw_1_16) (fun _ h9 => h9) rfl dX6_power_47 ?_
      refine va_get (C := RX2) (T := TX2) (N := 13) (own := RX6) (v := .int (Fn 8)) hx hb ht inlX2 hown hK hP 1 rfl rfl 8 (Nat.le_of_ble_eq_true rfl) (ht _ mw_7_2) (fun _ h9 => h9) rfl dX6_power_50 ?_
      refine C_sl (wr := [0, 1, 2, 3, 4, 5, 6, 7, 8, 9, 10, 11, 12, 13, 14].filterMap (fun i => (wX6 o q F ++ wX2 cI cZ (q 0) qn Fn An ++ wX0 cI cZ (q 5) qb Fb_28 Ab_28 : va_W)[i]?)) X hP hD hS [.int (Fn 8)] [.long r43] (w_X0_ordersOf l D cI cZ cR adK adV _ (Fn 8) _ h) cal_X0_ordersOf mw_39_2 rfl [] [0, 1, 2, 3, 4, 5, 6, 7, 8, 9, 10, 11, 12, 13, 14] [0, 1, 2, 3, 4, 5, 6, 7, 8, 9, 10, 11, 12, 13, 14] (fun u => (wX6 o q F ++ wX2 cI cZ (q 0) qn Fn An ++ wX0 cI cZ (q 5) qb Fb_28 Ab_28 : va_W)) rfl rfl (fun _ => rfl) rfl ⟨rfl, rfl⟩ ⟨Nat.le_of_ble_eq_true rfl, Nat.le_of_ble_eq_true rfl⟩ hl.1 rfl (Nat.le_of_ble_eq_true rfl) ⟨Nat.zero_le _, Nat.zero_le _⟩ dX6_power_53 (fun r53 u H locs h hP hD hS => ?_)
      refine lv_iload_n hx hb dX6_power_56 rfl (lv_at hl 2 rfl) ?_
      refine C_sl (wr := [0, 1, 2, 3, 4, 5, 6, 7, 8, 9, 10, 11, 12, 13, 14].filterMap (fun i => (wX6 o q F ++ wX2 cI cZ (q 0) qn Fn An ++ wX0 cI cZ (q 5) qb Fb_28 Ab_28 : va_W)[i]?)) X hP hD hS [.long r43, .long r53, .int x2] [] (w_X6_partOf l D cI cZ cR adK adV _ r43 r53 x2 _ h) cal_X6_partOf mw_39_3 rfl [] [0, 1, 2, 3, 4, 5, 6, 7, 8, 9, 10, 11, 12, 13, 14] [0, 1, 2, 3, 4, 5, 6, 7, 8, 9, 10, 11, 12, 13, 14] (fun u => (wX6 o q F ++ wX2 cI cZ (q 0) qn Fn An ++ wX0 cI cZ (q 5) qb Fb_28 Ab_28 : va_W)) rfl rfl (fun _ => rfl) rfl ⟨rfl, rfl⟩ ⟨Nat.le_of_ble_eq_true rfl, Nat.le_of_ble_eq_true rfl⟩ hl.1 rfl (Nat.le_of_ble_eq_true rfl) ⟨Nat.zero_le _, Nat.zero_le _⟩ dX6_power_57 (fun r57 u H locs h hP hD hS => ?_)
      exact ret _ (Fb_28, Ab_28) _ _ _ _ dX6_power_60 h hP hD hS
    · replace h := h.2 c13
      refine lv_ldc2 (v := -1) hx hb hown (ht _ mw_38_14) dX6_power_16 ?_
      exact ret _ (Fb, Ab) _ _ _ _ dX6_power_19 h hP hD hS
theorem dX6_beats_0 : decode cX6_beats 0 = .ok (.iload_n 1, 1) := by decide +kernel
theorem dX6_beats_1 : decode cX6_beats 1 = .ok (.bipush 6, 2) := by decide +kernel
theorem dX6_beats_3 : decode cX6_beats 3 = .ok (.invokestatic 95, 3) := by decide +kernel
theorem dX6_beats_6 : decode cX6_beats 6 = .ok (.ifCond .eq 17, 3) := by decide +kernel
theorem dX6_beats_9 : decode cX6_beats 9 = .ok (.iload_n 2, 1) := by decide +kernel
theorem dX6_beats_10 : decode cX6_beats 10 = .ok (.bipush 6, 2) := by decide +kernel
theorem dX6_beats_12 : decode cX6_beats 12 = .ok (.invokestatic 95, 3) := by decide +kernel
theorem dX6_beats_15 : decode cX6_beats 15 = .ok (.ifCond .eq 8, 3) := by decide +kernel
theorem dX6_beats_18 : decode cX6_beats 18 = .ok (.iload_n 1, 1) := by decide +kernel
theorem dX6_beats_19 : decode cX6_beats 19 = .ok (.iload_n 2, 1) := by decide +kernel
theorem dX6_beats_20 : decode cX6_beats 20 = .ok (.if_icmp .ne 5, 3) := by decide +kernel
theorem dX6_beats_23 : decode cX6_beats 23 = .ok (.iconst (-1), 1) := by decide +kernel
theorem dX6_beats_24 : decode cX6_beats 24 = .ok (.ireturn, 1) := by decide +kernel
theorem dX6_beats_25 : decode cX6_beats 25 = .ok (.aload_n 0, 1) := by decide +kernel
theorem dX6_beats_26 : decode cX6_beats 26 = .ok (.getfield 10, 3) := by decide +kernel
theorem dX6_beats_29 : decode cX6_beats 29 = .ok (.iload_n 1, 1) := by decide +kernel
theorem dX6_beats_30 : decode cX6_beats 30 = .ok (.iload_n 2, 1) := by decide +kernel
theorem dX6_beats_31 : decode cX6_beats 31 = .ok (.invokevirtual 234, 3) := by decide +kernel
theorem dX6_beats_34 : decode cX6_beats 34 = .ok (.ifCond .le 7, 3) := by decide +kernel
theorem dX6_beats_37 : decode cX6_beats 37 = .ok (.iconst 1, 1) := by decide +kernel
theorem dX6_beats_38 : decode cX6_beats 38 = .ok (.goto 4, 3) := by decide +kernel
theorem dX6_beats_41 : decode cX6_beats 41 = .ok (.iconst 0, 1) := by decide +kernel
theorem dX6_beats_42 : decode cX6_beats 42 = .ok (.ireturn, 1) := by decide +kernel
def p_X6_beats (F : tF) (Fn : tF) (An : tA) (x1 : Int32) (x2 : Int32) (K : Int32 → Prop) : Prop := (p_X6_within x1 (6 : Int32) (fun r3 => ((r3 = 0 → (K (-1 : Int32))) ∧ (¬ r3 = 0 → (p_X6_within x2 (6 : Int32) (fun r12 => ((r12 = 0 → (K (-1 : Int32))) ∧ (¬ r12 = 0 → ((¬ x1 = x2 → (p_X2_leadOf Fn An x1 x2 (fun r31 => ((r31 ≤ 0 → (K (0 : Int32))) ∧ (¬ r31 ≤ 0 → (K (1 : Int32))))))) ∧ (x1 = x2 → (K (-1 : Int32))))))))))))
set_option maxHeartbeats 4000000 in
set_option maxRecDepth 100000 in
theorem w_X6_beats (l : Launch) (D : va_G) (cI cZ cR : ClassId) (adK adV : Nat → Nat) (sz : Nat) (o : Nat) (q : Nat → Nat) (qn : Nat → Nat) (F : tF) (Fn : tF) (An : tA) (x1 : Int32) (x2 : Int32) (K : Int32 → Prop) (h : p_X6_beats F Fn An x1 x2 K) : MI l D cI cZ cR adK adV yX6_beats cX6_beats 3 (some .int) (rmN 3 149) [.ref o, .int x1, .int x2] (wX6 o q F ++ wX2 cI cZ (q 0) qn Fn An : va_W) sz (fun (r : Int32) (u : Unit) => K r) (fun (u : Unit) => (wX6 o q F ++ wX2 cI cZ (q 0) qn Fn An : va_W)) := by
  refine M_i (by decide +kernel) (Nat.le_of_ble_eq_true rfl) ?_
  intro p e s m args below meth c Q A9 ls X ret hP hD hS hl
  obtain ⟨hx, hb, hml, ht, hown, hK, hA, hE⟩ := id X
  have hl : lv_has ls 3 [(0, .ref o), (1, .int x1), (2, .int x2)] := hl
  unfold p_X6_beats at h
  refine lv_iload_n hx hb dX6_beats_0 rfl (lv_at hl 1 rfl) ?_
  refine lv_bipush (v := 6) hx hb dX6_beats_1 (by decide) ?_
  refine C_si (wr := [0, 1, 2, 3, 4, 5, 6, 7, 8, 9].filterMap (fun i => (wX6 o q F ++ wX2 cI cZ (q 0) qn Fn An : va_W)[i]?)) X hP hD hS [.int x1, .int (6 : Int32)] [] (w_X6_within l D cI cZ cR adK adV _ x1 (6 : Int32) _ h) cal_X6_within mw_15_9 rfl [] [0, 1, 2, 3, 4, 5, 6, 7, 8, 9] [0, 1, 2, 3, 4, 5, 6, 7, 8, 9] (fun u => (wX6 o q F ++ wX2 cI cZ (q 0) qn Fn An : va_W)) rfl rfl (fun _ => rfl) rfl ⟨rfl, rfl⟩ ⟨Nat.le_of_ble_eq_true rfl, Nat.le_of_ble_eq_true rfl⟩ hl.1 rfl (Nat.le_of_ble_eq_true rfl) ⟨Nat.zero_le _, Nat.zero_le _⟩ dX6_beats_3 (fun r3 u H locs h hP hD hS => ?_)
  refine lv_if_eq (tgt := 23) hx hb dX6_beats_6 (by decide) (fun c6 => ?_) (fun c6 => ?_)
  · replace h := h.1 c6
    refine lv_iconst (v := -1) hx hb dX6_beats_23 (by decide) ?_
    exact ret _ () _ _ _ _ dX6_beats_24 h hP hD hS
  · replace h := h.2 c6
    refine lv_iload_n hx hb dX6_beats_9 rfl (lv_at hl 2 rfl) ?_
    refine lv_bipush (v := 6) hx hb dX6_beats_10 (by decide) ?_
    refine C_si (wr := [0, 1, 2, 3, 4, 5, 6, 7, 8, 9].filterMap (fun i => (wX6 o q F ++ wX2 cI cZ (q 0) qn Fn An : va_W)[i]?)) X hP hD hS [.int x2, .int (6 : Int32)] [] (w_X6_within l D cI cZ cR adK adV _ x2 (6 : Int32) _ h) cal_X6_within mw_15_9 rfl [] [0, 1, 2, 3, 4, 5, 6, 7, 8, 9] [0, 1, 2, 3, 4, 5, 6, 7, 8, 9] (fun u => (wX6 o q F ++ wX2 cI cZ (q 0) qn Fn An : va_W)) rfl rfl (fun _ => rfl) rfl ⟨rfl, rfl⟩ ⟨Nat.le_of_ble_eq_true rfl, Nat.le_of_ble_eq_true rfl⟩ hl.1 rfl (Nat.le_of_ble_eq_true rfl) ⟨Nat.zero_le _, Nat.zero_le _⟩ dX6_beats_12 (fun r12 u H locs h hP hD hS => ?_)
    refine lv_if_eq (tgt := 23) hx hb dX6_beats_15 (by decide) (fun c15 => ?_) (fun c15 => ?_)
    · replace h := h.1 c15
      refine lv_iconst (v := -1) hx hb dX6_beats_23 (by decide) ?_
      exact ret _ () _ _ _ _ dX6_beats_24 h hP hD hS
    · replace h := h.2 c15
      refine lv_iload_n hx hb dX6_beats_18 rfl (lv_at hl 1 rfl) ?_
      refine lv_iload_n hx hb dX6_beats_19 rfl (lv_at hl 2 rfl) ?_
      refine lv_icmp_ne (tgt := 25) hx hb dX6_beats_20 (by decide) (fun c20 => ?_) (fun c20 => ?_)
      · replace h := h.1 c20
        refine lv_aload_n hx hb dX6_beats_25 rfl (lv_at hl 0 rfl) ?_
        refine va_get (C := RX6) (T := TX6) (N := 13) (own := RX6) (v := .ref (q 0)) hx hb ht inlX6 hown hK hP 0 rfl rfl 0 (Nat.le_of_ble_eq_true rfl) (ht _ mw_1_16) (fun _ h9 => h9) rfl dX6_beats_26 ?_
        refine lv_iload_n hx hb dX6_beats_29 rfl (lv_at hl 1 rfl) ?_
        refine lv_iload_n hx hb dX6_beats_30 rfl (lv_at hl 2 rfl) ?_
        refine C_vi (wr := [0].filterMap (fun i => (wX6 o q F ++ wX2 cI cZ (q 0) qn Fn An : va_W)[i]?)) X hP hD hS [.int x1, .int x2] [] (w_X2_leadOf l D cI cZ cR adK adV _ (q 0) qn Fn An x1 x2 _ h) cal_X2_leadOf mw_34_10 rfl [1, 2, 3, 4, 5, 6, 7, 8, 9] [0] [0, 1, 2, 3, 4, 5, 6, 7, 8, 9] (fun u => (wX6 o q F ++ wX2 cI cZ (q 0) qn Fn An : va_W)) rfl rfl (fun _ => rfl) rfl 1 rfl rfl ⟨rfl, rfl⟩ ⟨Nat.le_of_ble_eq_true rfl, Nat.le_of_ble_eq_true rfl⟩ hl.1 rfl (Nat.le_of_ble_eq_true rfl) ⟨Nat.zero_le _, Nat.zero_le _⟩ dX6_beats_31 (fun r31 u H locs h hP hD hS => ?_)
        refine lv_if_le (tgt := 41) hx hb dX6_beats_34 (by decide) (fun c34 => ?_) (fun c34 => ?_)
        · replace h := h.1 c34
          refine lv_iconst (v := 0) hx hb dX6_beats_41 (by decide) ?_
          exact ret _ () _ _ _ _ dX6_beats_42 h hP hD hS
        · replace h := h.2 c34
          refine lv_iconst (v := 1) hx hb dX6_beats_37 (by decide) ?_
          refine lv_goto (tgt := 42) hx hb dX6_beats_38 (by decide) ?_
          exact ret _ () _ _ _ _ dX6_beats_42 h hP hD hS
      · replace h := h.2 c20
        refine lv_iconst (v := -1) hx hb dX6_beats_23 (by decide) ?_
        exact ret _ () _ _ _ _ dX6_beats_24 h hP hD hS
theorem cal_X1_readOrder : CalV yX1_readOrder cX1_readOrder 6 (some .boolean) 1 := ⟨mw_35_5, mw_2_6, mw_35_3, mw_35_4, ⟨by decide +kernel, by decide +kernel, by decide +kernel⟩⟩
theorem cal_X1_hold : CalV yX1_hold cX1_hold 4 none 1 := ⟨mw_35_10, mw_2_6, mw_35_8, mw_35_9, ⟨by decide +kernel, by decide +kernel, by decide +kernel⟩⟩
theorem dX6_asked_0 : decode cX6_asked 0 = .ok (.aload_n 0, 1) := by decide +kernel
theorem dX6_asked_1 : decode cX6_asked 1 = .ok (.getfield 43, 3) := by decide +kernel
theorem dX6_asked_4 : decode cX6_asked 4 = .ok (.iload_n 1, 1) := by decide +kernel
theorem dX6_asked_5 : decode cX6_asked 5 = .ok (.invokevirtual 237, 3) := by decide +kernel
theorem dX6_asked_8 : decode cX6_asked 8 = .ok (.ifCond .ne 5, 3) := by decide +kernel
theorem dX6_asked_11 : decode cX6_asked 11 = .ok (.iconst (-1), 1) := by decide +kernel
theorem dX6_asked_12 : decode cX6_asked 12 = .ok (.ireturn, 1) := by decide +kernel
theorem dX6_asked_13 : decode cX6_asked 13 = .ok (.aload_n 0, 1) := by decide +kernel
theorem dX6_asked_14 : decode cX6_asked 14 = .ok (.getfield 43, 3) := by decide +kernel
theorem dX6_asked_17 : decode cX6_asked 17 = .ok (.aload_n 0, 1) := by decide +kernel
theorem dX6_asked_18 : decode cX6_asked 18 = .ok (.getfield 10, 3) := by decide +kernel
theorem dX6_asked_21 : decode cX6_asked 21 = .ok (.invokevirtual 240, 3) := by decide +kernel
theorem dX6_asked_24 : decode cX6_asked 24 = .ok (.aload_n 0, 1) := by decide +kernel
theorem dX6_asked_25 : decode cX6_asked 25 = .ok (.getfield 43, 3) := by decide +kernel
theorem dX6_asked_28 : decode cX6_asked 28 = .ok (.invokevirtual 243, 3) := by decide +kernel
theorem dX6_asked_31 : decode cX6_asked 31 = .ok (.ireturn, 1) := by decide +kernel
def p_X6_asked (F : tF) (Fd : tF) (Ad : tA) (Fn : tF) (An : tA) (x1 : Int32) (K : Int32 → tF → tA → Prop) : Prop := (p_X1_readOrder Fd Ad x1 (fun r5 Fd_5 Ad_5 => ((¬ r5 = 0 → (p_X1_hold Fd_5 Ad_5 Fn An (fun Fd_21 Ad_21 => (p_X1_lastStanding Fd_21 Ad_21 (fun r28 => (K r28 Fd_21 Ad_21)))))) ∧ (r5 = 0 → (K (-1 : Int32) Fd_5 Ad_5)))))
set_option maxHeartbeats 4000000 in
set_option maxRecDepth 100000 in
theorem w_X6_asked (l : Launch) (D : va_G) (cI cZ cR : ClassId) (adK adV : Nat → Nat) (sz : Nat) (o : Nat) (q : Nat → Nat) (qd : Nat → Nat) (qn : Nat → Nat) (F : tF) (Fd : tF) (Ad : tA) (Fn : tF) (An : tA) (x1 : Int32) (K : Int32 → tF → tA → Prop) (h : p_X6_asked F Fd Ad Fn An x1 K) : MI l D cI cZ cR adK adV yX6_asked cX6_asked 2 (some .int) (rmN 4 172) [.ref o, .int x1] (wX6 o q F ++ wX1 cI cZ (q 6) qd Fd Ad ++ wX2 cI cZ (q 0) qn Fn An : va_W) sz (fun (r : Int32) (u : (tF × tA)) => K r u.1 u.2) (fun (u : (tF × tA)) => (wX6 o q F ++ wX1 cI cZ (q 6) qd u.1 u.2 ++ wX2 cI cZ (q 0) qn Fn An : va_W)) := by
  refine M_i (by decide +kernel) (Nat.le_of_ble_eq_true rfl) ?_
  intro p e s m args below meth c Q A9 ls X ret hP hD hS hl
  obtain ⟨hx, hb, hml, ht, hown, hK, hA, hE⟩ := id X
  have hl : lv_has ls 2 [(0, .ref o), (1, .int x1)] := hl
  unfold p_X6_asked at h
  refine lv_aload_n hx hb dX6_asked_0 rfl (lv_at hl 0 rfl) ?_
  refine va_get (C := RX6) (T := TX6) (N := 13) (own := RX6) (v := .ref (q 6)) hx hb ht inlX6 hown hK hP 0 rfl rfl 6 (Nat.le_of_ble_eq_true rfl) (ht _ mw_2_7) (fun _ h9 => h9) rfl dX6_asked_1 ?_
  refine lv_iload_n hx hb dX6_asked_4 rfl (lv_at hl 1 rfl) ?_
  refine C_vi (wr := [0, 4, 5, 6, 7, 8, 9, 10, 11, 12].filterMap (fun i => (wX6 o q F ++ wX1 cI cZ (q 6) qd Fd Ad ++ wX2 cI cZ (q 0) qn Fn An : va_W)[i]?)) X hP hD hS [.int x1] [] (w_X1_readOrder l D cI cZ cR adK adV _ (q 6) qd Fd Ad x1 _ h) cal_X1_readOrder mw_35_2 rfl [1, 2, 3] [0, 4, 5, 6, 7, 8, 9, 10, 11, 12] [0, 10, 11, 12, 1, 2, 3, 4, 5, 6, 7, 8, 9] (fun u => (wX6 o q F ++ wX1 cI cZ (q 6) qd u.1 u.2 ++ wX2 cI cZ (q 0) qn Fn An : va_W)) rfl rfl (fun _ => rfl) rfl 1 rfl rfl ⟨rfl, rfl⟩ ⟨Nat.le_of_ble_eq_true rfl, Nat.le_of_ble_eq_true rfl⟩ hl.1 rfl (Nat.le_of_ble_eq_true rfl) ⟨Nat.zero_le _, Nat.zero_le _⟩ dX6_asked_5 (fun r5 u H locs h hP hD hS => ?_)
  obtain ⟨Fd_5, Ad_5⟩ := u
  try dsimp only at h
  have hP : va_P D vwCl (wX6 o q F ++ wX1 cI cZ (q 6) qd Fd_5 Ad_5 ++ wX2 cI cZ (q 0) qn Fn An : va_W) H := hP
  have hD : va_D A9 (wX6 o q F ++ wX1 cI cZ (q 6) qd Fd_5 Ad_5 ++ wX2 cI cZ (q 0) qn Fn An : va_W) := hD
  refine lv_if_ne (tgt := 13) hx hb dX6_asked_8 (by decide) (fun c8 => ?_) (fun c8 => ?_)
  · replace h := h.1 c8
    refine lv_aload_n hx hb dX6_asked_13 rfl (lv_at hl 0 rfl) ?_
    refine va_get (C := RX6) (T := TX6) (N := 13) (own := RX6) (v := .ref (q 6)) hx hb ht inlX6 hown hK hP 0 rfl rfl 6 (Nat.le_of_ble_eq_true rfl) (ht _ mw_2_7) (fun _ h9 => h9) rfl dX6_asked_14 ?_
    refine lv_aload_n hx hb dX6_asked_17 rfl (lv_at hl 0 rfl) ?_
    refine va_get (C := RX6) (T := TX6) (N := 13) (own := RX6) (v := .ref (q 0)) hx hb ht inlX6 hown hK hP 0 rfl rfl 0 (Nat.le_of_ble_eq_true rfl) (ht _ mw_1_16) (fun _ h9 => h9) rfl dX6_asked_18 ?_
    refine C_vv (wr := [0].filterMap (fun i => (wX6 o q F ++ wX1 cI cZ (q 6) qd Fd_5 Ad_5 ++ wX2 cI cZ (q 0) qn Fn An : va_W)[i]?)) X hP hD hS [.ref (q 0)] [] (w_X1_hold l D cI cZ cR adK adV _ (q 6) qd (q 0) qn Fd_5 Ad_5 Fn An _ h) cal_X1_hold mw_35_7 rfl [1, 2, 3, 4, 5, 6, 7, 8, 9, 10, 11, 12] [0] [0, 1, 2, 3, 4, 5, 6, 7, 8, 9, 10, 11, 12] (fun u => (wX6 o q F ++ wX1 cI cZ (q 6) qd u.1 u.2 ++ wX2 cI cZ (q 0) qn Fn An : va_W)) rfl rfl (fun _ => rfl) rfl 1 rfl rfl ⟨rfl, rfl⟩ ⟨Nat.le_of_ble_eq_true rfl, Nat.le_of_ble_eq_true rfl⟩ hl.1 rfl (Nat.le_of_ble_eq_true rfl) ⟨Nat.zero_le _, Nat.zero_le _⟩ dX6_asked_21 (fun u H locs h hP hD hS => ?_)
    obtain ⟨Fd_21, Ad_21⟩ := u
    try dsimp only at h
    have hP : va_P D vwCl (wX6 o q F ++ wX1 cI cZ (q 6) qd Fd_21 Ad_21 ++ wX2 cI cZ (q 0) qn Fn An : va_W) H := hP
    have hD : va_D A9 (wX6 o q F ++ wX1 cI cZ (q 6) qd Fd_21 Ad_21 ++ wX2 cI cZ (q 0) qn Fn An : va_W) := hD
    refine lv_aload_n hx hb dX6_asked_24 rfl (lv_at hl 0 rfl) ?_
    refine va_get (C := RX6) (T := TX6) (N := 13) (own := RX6) (v := .ref (q 6)) hx hb ht inlX6 hown hK hP 0 rfl rfl 6 (Nat.le_of_ble_eq_true rfl) (ht _ mw_2_7) (fun _ h9 => h9) rfl dX6_asked_25 ?_
    refine C_vi (wr := [0, 4, 5, 6, 7, 8, 9, 10, 11, 12].filterMap (fun i => (wX6 o q F ++ wX1 cI cZ (q 6) qd Fd_21 Ad_21 ++ wX2 cI cZ (q 0) qn Fn An : va_W)[i]?)) X hP hD hS [] [] (w_X1_lastStanding l D cI cZ cR adK adV _ (q 6) qd Fd_21 Ad_21 _ h) cal_X1_lastStanding mw_35_12 rfl [1, 2, 3] [0, 4, 5, 6, 7, 8, 9, 10, 11, 12] [0, 10, 11, 12, 1, 2, 3, 4, 5, 6, 7, 8, 9] (fun u => (wX6 o q F ++ wX1 cI cZ (q 6) qd Fd_21 Ad_21 ++ wX2 cI cZ (q 0) qn Fn An : va_W)) rfl rfl (fun _ => rfl) rfl 1 rfl rfl ⟨rfl, rfl⟩ ⟨Nat.le_of_ble_eq_true rfl, Nat.le_of_ble_eq_true rfl⟩ hl.1 rfl (Nat.le_of_ble_eq_true rfl) ⟨Nat.zero_le _, Nat.zero_le _⟩ dX6_asked_28 (fun r28 u H locs h hP hD hS => ?_)
    exact ret _ (Fd_21, Ad_21) _ _ _ _ dX6_asked_31 h hP hD hS
  · replace h := h.2 c8
    refine lv_iconst (v := -1) hx hb dX6_asked_11 (by decide) ?_
    exact ret _ (Fd_5, Ad_5) _ _ _ _ dX6_asked_12 h hP hD hS
theorem cal_X1_tryOrdersFor : CalV yX1_tryOrdersFor cX1_tryOrdersFor 4 none 1 := ⟨mw_36_20, mw_2_6, mw_36_18, mw_36_19, ⟨by decide +kernel, by decide +kernel, by decide +kernel⟩⟩
theorem dX6_agenda_0 : decode cX6_agenda 0 = .ok (.iload_n 1, 1) := by decide +kernel
theorem dX6_agenda_1 : decode cX6_agenda 1 = .ok (.bipush 6, 2) := by decide +kernel
theorem dX6_agenda_3 : decode cX6_agenda 3 = .ok (.invokestatic 95, 3) := by decide +kernel
theorem dX6_agenda_6 : decode cX6_agenda 6 = .ok (.ifCond .eq 11, 3) := by decide +kernel
theorem dX6_agenda_9 : decode cX6_agenda 9 = .ok (.iload_n 2, 1) := by decide +kernel
theorem dX6_agenda_10 : decode cX6_agenda 10 = .ok (.iconst 2, 1) := by decide +kernel
theorem dX6_agenda_11 : decode cX6_agenda 11 = .ok (.invokestatic 95, 3) := by decide +kernel
theorem dX6_agenda_14 : decode cX6_agenda 14 = .ok (.ifCond .ne 5, 3) := by decide +kernel
theorem dX6_agenda_17 : decode cX6_agenda 17 = .ok (.iconst (-1), 1) := by decide +kernel
theorem dX6_agenda_18 : decode cX6_agenda 18 = .ok (.ireturn, 1) := by decide +kernel
theorem dX6_agenda_19 : decode cX6_agenda 19 = .ok (.aload_n 0, 1) := by decide +kernel
theorem dX6_agenda_20 : decode cX6_agenda 20 = .ok (.getfield 43, 3) := by decide +kernel
theorem dX6_agenda_23 : decode cX6_agenda 23 = .ok (.aload_n 0, 1) := by decide +kernel
theorem dX6_agenda_24 : decode cX6_agenda 24 = .ok (.getfield 10, 3) := by decide +kernel
theorem dX6_agenda_27 : decode cX6_agenda 27 = .ok (.invokevirtual 240, 3) := by decide +kernel
theorem dX6_agenda_30 : decode cX6_agenda 30 = .ok (.aload_n 0, 1) := by decide +kernel
theorem dX6_agenda_31 : decode cX6_agenda 31 = .ok (.getfield 43, 3) := by decide +kernel
theorem dX6_agenda_34 : decode cX6_agenda 34 = .ok (.iload_n 1, 1) := by decide +kernel
theorem dX6_agenda_35 : decode cX6_agenda 35 = .ok (.invokevirtual 246, 3) := by decide +kernel
theorem dX6_agenda_38 : decode cX6_agenda 38 = .ok (.iload_n 2, 1) := by decide +kernel
theorem dX6_agenda_39 : decode cX6_agenda 39 = .ok (.ifCond .ne 11, 3) := by decide +kernel
theorem dX6_agenda_42 : decode cX6_agenda 42 = .ok (.aload_n 0, 1) := by decide +kernel
theorem dX6_agenda_43 : decode cX6_agenda 43 = .ok (.getfield 43, 3) := by decide +kernel
theorem dX6_agenda_46 : decode cX6_agenda 46 = .ok (.getfield 249, 3) := by decide +kernel
theorem dX6_agenda_49 : decode cX6_agenda 49 = .ok (.ireturn, 1) := by decide +kernel
theorem dX6_agenda_50 : decode cX6_agenda 50 = .ok (.aload_n 0, 1) := by decide +kernel
theorem dX6_agenda_51 : decode cX6_agenda 51 = .ok (.getfield 43, 3) := by decide +kernel
theorem dX6_agenda_54 : decode cX6_agenda 54 = .ok (.getfield 249, 3) := by decide +kernel
theorem dX6_agenda_57 : decode cX6_agenda 57 = .ok (.ifCond .ne 8, 3) := by decide +kernel
theorem dX6_agenda_60 : decode cX6_agenda 60 = .ok (.bipush (-3), 2) := by decide +kernel
theorem dX6_agenda_62 : decode cX6_agenda 62 = .ok (.goto 10, 3) := by decide +kernel
theorem dX6_agenda_65 : decode cX6_agenda 65 = .ok (.aload_n 0, 1) := by decide +kernel
theorem dX6_agenda_66 : decode cX6_agenda 66 = .ok (.getfield 43, 3) := by decide +kernel
theorem dX6_agenda_69 : decode cX6_agenda 69 = .ok (.getfield 252, 3) := by decide +kernel
theorem dX6_agenda_72 : decode cX6_agenda 72 = .ok (.ireturn, 1) := by decide +kernel
def p_X6_agenda (F : tF) (Fd : tF) (Ad : tA) (Fn : tF) (An : tA) (x1 : Int32) (x2 : Int32) (K : Int32 → tF → tA → Prop) : Prop := (p_X6_within x1 (6 : Int32) (fun r3 => ((r3 = 0 → (K (-1 : Int32) Fd Ad)) ∧ (¬ r3 = 0 → (p_X6_within x2 (2 : Int32) (fun r11 => ((¬ r11 = 0 → (p_X1_hold Fd Ad Fn An (fun Fd_27 Ad_27 => (p_X1_tryOrdersFor Fd_27 Ad_27 x1 (fun Fd_35 Ad_35 => ((¬ x2 = 0 → ((¬ (Fd_35 2) = 0 → (K (Fd_35 3) Fd_35 Ad_35)) ∧ ((Fd_35 2) = 0 → (K (-3 : Int32) Fd_35 Ad_35)))) ∧ (x2 = 0 → (K (Fd_35 2) Fd_35 Ad_35)))))))) ∧ (r11 = 0 → (K (-1 : Int32) Fd Ad)))))))))
set_option maxHeartbeats 4000000 in
set_option maxRecDepth 100000 in
theorem w_X6_agenda (l : Launch) (D : va_G) (cI cZ cR : ClassId) (adK adV : Nat → Nat) (sz : Nat) (o : Nat) (q : Nat → Nat) (qd : Nat → Nat) (qn : Nat → Nat) (F : tF) (Fd : tF) (Ad : tA) (Fn : tF) (An : tA) (x1 : Int32) (x2 : Int32) (K : Int32 → tF → tA → Prop) (h : p_X6_agenda F Fd Ad Fn An x1 x2 K) : MI l D cI cZ cR adK adV yX6_agenda cX6_agenda 3 (some .int) (rmN 4 172) [.ref o, .int x1, .int x2] (wX6 o q F ++ wX1 cI cZ (q 6) qd Fd Ad ++ wX2 cI cZ (q 0) qn Fn An : va_W) sz (fun (r : Int32) (u : (tF × tA)) => K r u.1 u.2) (fun (u : (tF × tA)) => (wX6 o q F ++ wX1 cI cZ (q 6) qd u.1 u.2 ++ wX2 cI cZ (q 0) qn Fn An : va_W)) := by
  refine M_i (by decide +kernel) (Nat.le_of_ble_eq_true rfl) ?_
  intro p e s m args below meth c Q A9 ls X ret hP hD hS hl
  obtain ⟨hx, hb, hml, ht, hown, hK, hA, hE⟩ := id X
  have hl : lv_has ls 3 [(0, .ref o), (1, .int x1), (2, .int x2)] := hl
  unfold p_X6_agenda at h
  refine lv_iload_n hx hb dX6_agenda_0 rfl (lv_at hl 1 rfl) ?_
  refine lv_bipush (v := 6) hx hb dX6_agenda_1 (by decide) ?_
  refine C_si (wr := [0, 1, 2, 3, 4, 5, 6, 7, 8, 9, 10, 11, 12].filterMap (fun i => (wX6 o q F ++ wX1 cI cZ (q 6) qd Fd Ad ++ wX2 cI cZ (q 0) qn Fn An : va_W)[i]?)) X hP hD hS [.int x1, .int (6 : Int32)] [] (w_X6_within l D cI cZ cR adK adV _ x1 (6 : Int32) _ h) cal_X6_within mw_15_9 rfl [] [0, 1, 2, 3, 4, 5, 6, 7, 8, 9, 10, 11, 12] [0, 1, 2, 3, 4, 5, 6, 7, 8, 9, 10, 11, 12] (fun u => (wX6 o q F ++ wX1 cI cZ (q 6) qd Fd Ad ++ wX2 cI cZ (q 0) qn Fn An : va_W)) rfl rfl (fun _ => rfl) rfl ⟨rfl, rfl⟩ ⟨Nat.le_of_ble_eq_true rfl, Nat.le_of_ble_eq_true rfl⟩ hl.1 rfl (Nat.le_of_ble_eq_true rfl) ⟨Nat.zero_le _, Nat.zero_le _⟩ dX6_agenda_3 (fun r3 u H locs h hP hD hS => ?_)
  refine lv_if_eq (tgt := 17) hx hb dX6_agenda_6 (by decide) (fun c6 => ?_) (fun c6 => ?_)
  · replace h := h.1 c6
    refine lv_iconst (v := -1) hx hb dX6_agenda_17 (by decide) ?_
    exact ret _ (Fd, Ad) _ _ _ _ dX6_agenda_18 h hP hD hS
  · replace h := h.2 c6
    refine lv_iload_n hx hb dX6_agenda_9 rfl (lv_at hl 2 rfl) ?_
    refine lv_iconst (v := 2) hx hb dX6_agenda_10 (by decide) ?_
    refine C_si (wr := [0, 1, 2, 3, 4, 5, 6, 7, 8, 9, 10, 11, 12].filterMap (fun i => (wX6 o q F ++ wX1 cI cZ (q 6) qd Fd Ad ++ wX2 cI cZ (q 0) qn Fn An : va_W)[i]?)) X hP hD hS [.int x2, .int (2 : Int32)] [] (w_X6_within l D cI cZ cR adK adV _ x2 (2 : Int32) _ h) cal_X6_within mw_15_9 rfl [] [0, 1, 2, 3, 4, 5, 6, 7, 8, 9, 10, 11, 12] [0, 1, 2, 3, 4, 5, 6, 7, 8, 9, 10, 11, 12] (fun u => (wX6 o q F ++ wX1 cI cZ (q 6) qd Fd Ad ++ wX2 cI cZ (q 0) qn Fn An : va_W)) rfl rfl (fun _ => rfl) rfl ⟨rfl, rfl⟩ ⟨Nat.le_of_ble_eq_true rfl, Nat.le_of_ble_eq_true rfl⟩ hl.1 rfl (Nat.le_of_ble_eq_true rfl) ⟨Nat.zero_le _, Nat.zero_le _⟩ dX6_agenda_11 (fun r11 u H locs h hP hD hS => ?_)
    refine lv_if_ne (tgt := 19) hx hb dX6_agenda_14 (by decide) (fun c14 => ?_) (fun c14 => ?_)
    · replace h := h.1 c14
      refine lv_aload_n hx hb dX6_agenda_19 rfl (lv_at hl 0 rfl) ?_
      refine va_get (C := RX6) (T := TX6) (N := 13) (own := RX6) (v := .ref (q 6)) hx hb ht inlX6 hown hK hP 0 rfl rfl 6 (Nat.le_of_ble_eq_true rfl) (ht _ mw_2_7) (fun _ h9 => h9) rfl dX6_agenda_20 ?_
      refine lv_aload_n hx hb dX6_agenda_23 rfl (lv_at hl 0 rfl) ?_
      refine va_get (C := RX6) (T := TX6) (N := 13) (own := RX6) (v := .ref (q 0)) hx hb ht inlX6 hown hK hP 0 rfl rfl 0 (Nat.le_of_ble_eq_true rfl) (ht _ mw_1_16) (fun _ h9 => h9) rfl dX6_agenda_24 ?_
      refine C_vv (wr := [0].filterMap (fun i => (wX6 o q F ++ wX1 cI cZ (q 6) qd Fd Ad ++ wX2 cI cZ (q 0) qn Fn An : va_W)[i]?)) X hP hD hS [.ref (q 0)] [] (w_X1_hold l D cI cZ cR adK adV _ (q 6) qd (q 0) qn Fd Ad Fn An _ h) cal_X1_hold mw_35_7 rfl [1, 2, 3, 4, 5, 6, 7, 8, 9, 10, 11, 12] [0] [0, 1, 2, 3, 4, 5, 6, 7, 8, 9, 10, 11, 12] (fun u => (wX6 o q F ++ wX1 cI cZ (q 6) qd u.1 u.2 ++ wX2 cI cZ (q 0) qn Fn An : va_W)) rfl rfl (fun _ => rfl) rfl 1 rfl rfl ⟨rfl, rfl⟩ ⟨Nat.le_of_ble_eq_true rfl, Nat.le_of_ble_eq_true rfl⟩ hl.1 rfl (Nat.le_of_ble_eq_true rfl) ⟨Nat.zero_le _, Nat.zero_le _⟩ dX6_agenda_27 (fun u H locs h hP hD hS => ?_)
      obtain ⟨Fd_27, Ad_27⟩ := u
      try dsimp only at h
      have hP : va_P D vwCl (wX6 o q F ++ wX1 cI cZ (q 6) qd Fd_27 Ad_27 ++ wX2 cI cZ (q 0) qn Fn An : va_W) H := hP
      have hD : va_D A9 (wX6 o q F ++ wX1 cI cZ (q 6) qd Fd_27 Ad_27 ++ wX2 cI cZ (q 0) qn Fn An : va_W) := hD
      refine lv_aload_n hx hb dX6_agenda_30 rfl (lv_at hl 0 rfl) ?_
      refine va_get (C := RX6) (T := TX6) (N := 13) (own := RX6) (v := .ref (q 6)) hx hb ht inlX6 hown hK hP 0 rfl rfl 6 (Nat.le_of_ble_eq_true rfl) (ht _ mw_2_7) (fun _ h9 => h9) rfl dX6_agenda_31 ?_
      refine lv_iload_n hx hb dX6_agenda_34 rfl (lv_at hl 1 rfl) ?_
      refine C_vv (wr := [0, 4, 5, 6, 7, 8, 9, 10, 11, 12].filterMap (fun i => (wX6 o q F ++ wX1 cI cZ (q 6) qd Fd_27 Ad_27 ++ wX2 cI cZ (q 0) qn Fn An : va_W)[i]?)) X hP hD hS [.int x1] [] (w_X1_tryOrdersFor l D cI cZ cR adK adV _ (q 6) qd Fd_27 Ad_27 x1 _ h) cal_X1_tryOrdersFor mw_36_17 rfl [1, 2, 3] [0, 4, 5, 6, 7, 8, 9, 10, 11, 12] [0, 10, 11, 12, 1, 2, 3, 4, 5, 6, 7, 8, 9] (fun u => (wX6 o q F ++ wX1 cI cZ (q 6) qd u.1 u.2 ++ wX2 cI cZ (q 0) qn Fn An : va_W)) rfl rfl (fun _ => rfl) rfl 1 rfl rfl ⟨rfl, rfl⟩ ⟨Nat.le_of_ble_eq_true rfl, Nat.le_of_ble_eq_true rfl⟩ hl.1 rfl (Nat.le_of_ble_eq_true rfl) ⟨Nat.zero_le _, Nat.zero_le _⟩ dX6_agenda_35 (fun u H locs h hP hD hS => ?_)
      obtain ⟨Fd_35, Ad_35⟩ := u
      try dsimp only at h
      have hP : va_P D vwCl (wX6 o q F ++ wX1 cI cZ (q 6) qd Fd_35 Ad_35 ++ wX2 cI cZ (q 0) qn Fn An : va_W) H := hP
      have hD : va_D A9 (wX6 o q F ++ wX1 cI cZ (q 6) qd Fd_35 Ad_35 ++ wX2 cI cZ (q 0) qn Fn An : va_W) := hD
      refine lv_iload_n hx hb dX6_agenda_38 rfl (lv_at hl 2 rfl) ?_
      refine lv_if_ne (tgt := 50) hx hb dX6_agenda_39 (by decide) (fun c39 => ?_) (fun c39 => ?_)
      · replace h := h.1 c39
        refine lv_aload_n hx hb dX6_agenda_50 rfl (lv_at hl 0 rfl) ?_
        refine va_get (C := RX6) (T := TX6) (N := 13) (own := RX6) (v := .ref (q 6)) hx hb ht inlX6 hown hK hP 0 rfl rfl 6 (Nat.le_of_ble_eq_true rfl) (ht _ mw_2_7) (fun _ h9 => h9) rfl dX6_agenda_51 ?_
        refine va_get (C := RX1) (T := TX1) (N := 4) (own := RX6) (v := .int (Fd_35 2)) hx hb ht inlX1 hown hK hP 1 rfl rfl 2 (Nat.le_of_ble_eq_true rfl) (ht _ mw_36_15) (fun _ h9 => h9) rfl dX6_agenda_54 ?_
        refine lv_if_ne (tgt := 65) hx hb dX6_agenda_57 (by decide) (fun c57 => ?_) (fun c57 => ?_)
        · replace h := h.1 c57
          refine lv_aload_n hx hb dX6_agenda_65 rfl (lv_at hl 0 rfl) ?_
          refine va_get (C := RX6) (T := TX6) (N := 13) (own := RX6) (v := .ref (q 6)) hx hb ht inlX6 hown hK hP 0 rfl rfl 6 (Nat.le_of_ble_eq_true rfl) (ht _ mw_2_7) (fun _ h9 => h9) rfl dX6_agenda_66 ?_
          refine va_get (C := RX1) (T := TX1) (N := 4) (own := RX6) (v := .int (Fd_35 3)) hx hb ht inlX1 hown hK hP 1 rfl rfl 3 (Nat.le_of_ble_eq_true rfl) (ht _ mw_36_16) (fun _ h9 => h9) rfl dX6_agenda_69 ?_
          exact ret _ (Fd_35, Ad_35) _ _ _ _ dX6_agenda_72 h hP hD hS
        · replace h := h.2 c57
          refine lv_bipush (v := -3) hx hb dX6_agenda_60 (by decide) ?_
          refine lv_goto (tgt := 72) hx hb dX6_agenda_62 (by decide) ?_
          exact ret _ (Fd_35, Ad_35) _ _ _ _ dX6_agenda_72 h hP hD hS
      · replace h := h.2 c39
        refine lv_aload_n hx hb dX6_agenda_42 rfl (lv_at hl 0 rfl) ?_
        refine va_get (C := RX6) (T := TX6) (N := 13) (own := RX6) (v := .ref (q 6)) hx hb ht inlX6 hown hK hP 0 rfl rfl 6 (Nat.le_of_ble_eq_true rfl) (ht _ mw_2_7) (fun _ h9 => h9) rfl dX6_agenda_43 ?_
        refine va_get (C := RX1) (T := TX1) (N := 4) (own := RX6) (v := .int (Fd_35 2)) hx hb ht inlX1 hown hK hP 1 rfl rfl 2 (Nat.le_of_ble_eq_true rfl) (ht _ mw_36_15) (fun _ h9 => h9) rfl dX6_agenda_46 ?_
        exact ret _ (Fd_35, Ad_35) _ _ _ _ dX6_agenda_49 h hP hD hS
    · replace h := h.2 c14
      refine lv_iconst (v := -1) hx hb dX6_agenda_17 (by decide) ?_
      exact ret _ (Fd, Ad) _ _ _ _ dX6_agenda_18 h hP hD hS
theorem cal_X1_leastRing : CalV yX1_leastRing cX1_leastRing 5 (some .int) 0 := ⟨mw_37_19, mw_2_6, mw_37_17, mw_37_18, ⟨by decide +kernel, by decide +kernel, by decide +kernel⟩⟩
theorem dX6_ring_0 : decode cX6_ring 0 = .ok (.aload_n 0, 1) := by decide +kernel
theorem dX6_ring_1 : decode cX6_ring 1 = .ok (.getfield 43, 3) := by decide +kernel
theorem dX6_ring_4 : decode cX6_ring 4 = .ok (.aload_n 0, 1) := by decide +kernel
theorem dX6_ring_5 : decode cX6_ring 5 = .ok (.getfield 10, 3) := by decide +kernel
theorem dX6_ring_8 : decode cX6_ring 8 = .ok (.invokevirtual 240, 3) := by decide +kernel
theorem dX6_ring_11 : decode cX6_ring 11 = .ok (.aload_n 0, 1) := by decide +kernel
theorem dX6_ring_12 : decode cX6_ring 12 = .ok (.getfield 43, 3) := by decide +kernel
theorem dX6_ring_15 : decode cX6_ring 15 = .ok (.invokevirtual 255, 3) := by decide +kernel
theorem dX6_ring_18 : decode cX6_ring 18 = .ok (.ireturn, 1) := by decide +kernel
def p_X6_ring (F : tF) (Fd : tF) (Ad : tA) (Fn : tF) (An : tA) (K : Int32 → tF → tA → Prop) : Prop := (p_X1_hold Fd Ad Fn An (fun Fd_8 Ad_8 => (p_X1_leastRing Fd_8 Ad_8 (fun r15 => (K r15 Fd_8 Ad_8)))))
set_option maxHeartbeats 4000000 in
set_option maxRecDepth 100000 in
theorem w_X6_ring (l : Launch) (D : va_G) (cI cZ cR : ClassId) (adK adV : Nat → Nat) (sz : Nat) (o : Nat) (q : Nat → Nat) (qd : Nat → Nat) (qn : Nat → Nat) (F : tF) (Fd : tF) (Ad : tA) (Fn : tF) (An : tA) (K : Int32 → tF → tA → Prop) (h : p_X6_ring F Fd Ad Fn An K) : MI l D cI cZ cR adK adV yX6_ring cX6_ring 1 (some .int) (rmN 4 172) [.ref o] (wX6 o q F ++ wX1 cI cZ (q 6) qd Fd Ad ++ wX2 cI cZ (q 0) qn Fn An : va_W) sz (fun (r : Int32) (u : (tF × tA)) => K r u.1 u.2) (fun (u : (tF × tA)) => (wX6 o q F ++ wX1 cI cZ (q 6) qd u.1 u.2 ++ wX2 cI cZ (q 0) qn Fn An : va_W)) := by
  refine M_i (by decide +kernel) (Nat.le_of_ble_eq_true rfl) ?_
  intro p e s m args below meth c Q A9 ls X ret hP hD hS hl
  obtain ⟨hx, hb, hml, ht, hown, hK, hA, hE⟩ := id X
  have hl : lv_has ls 1 [(0, .ref o)] := hl
  unfold p_X6_ring at h
  refine lv_aload_n hx hb dX6_ring_0 rfl (lv_at hl 0 rfl) ?_
  refine va_get (C := RX6) (T := TX6) (N := 13) (own := RX6) (v := .ref (q 6)) hx hb ht inlX6 hown hK hP 0 rfl rfl 6 (Nat.le_of_ble_eq_true rfl) (ht _ mw_2_7) (fun _ h9 => h9) rfl dX6_ring_1 ?_
  refine lv_aload_n hx hb dX6_ring_4 rfl (lv_at hl 0 rfl) ?_
  refine va_get (C := RX6) (T := TX6) (N := 13) (own := RX6) (v := .ref (q 0)) hx hb ht inlX6 hown hK hP 0 rfl rfl 0 (Nat.le_of_ble_eq_true rfl) (ht _ mw_1_16) (fun _ h9 => h9) rfl dX6_ring_5 ?_
  refine C_vv (wr := [0].filterMap (fun i => (wX6 o q F ++ wX1 cI cZ (q 6) qd Fd Ad ++ wX2 cI cZ (q 0) qn Fn An : va_W)[i]?)) X hP hD hS [.ref (q 0)] [] (w_X1_hold l D cI cZ cR adK adV _ (q 6) qd (q 0) qn Fd Ad Fn An _ h) cal_X1_hold mw_35_7 rfl [1, 2, 3, 4, 5, 6, 7, 8, 9, 10, 11, 12] [0] [0, 1, 2, 3, 4, 5, 6, 7, 8, 9, 10, 11, 12] (fun u => (wX6 o q F ++ wX1 cI cZ (q 6) qd u.1 u.2 ++ wX2 cI cZ (q 0) qn Fn An : va_W)) rfl rfl (fun _ => rfl) rfl 1 rfl rfl ⟨rfl, rfl⟩ ⟨Nat.le_of_ble_eq_true rfl, Nat.le_of_ble_eq_true rfl⟩ hl.1 rfl (Nat.le_of_ble_eq_true rfl) ⟨Nat.zero_le _, Nat.zero_le _⟩ dX6_ring_8 (fun u H locs h hP hD hS => ?_)
  obtain ⟨Fd_8, Ad_8⟩ := u
  try dsimp only at h
  have hP : va_P D vwCl (wX6 o q F ++ wX1 cI cZ (q 6) qd Fd_8 Ad_8 ++ wX2 cI cZ (q 0) qn Fn An : va_W) H := hP
  have hD : va_D A9 (wX6 o q F ++ wX1 cI cZ (q 6) qd Fd_8 Ad_8 ++ wX2 cI cZ (q 0) qn Fn An : va_W) := hD
  refine lv_aload_n hx hb dX6_ring_11 rfl (lv_at hl 0 rfl) ?_
  refine va_get (C := RX6) (T := TX6) (N := 13) (own := RX6) (v := .ref (q 6)) hx hb ht inlX6 hown hK hP 0 rfl rfl 6 (Nat.le_of_ble_eq_true rfl) (ht _ mw_2_7) (fun _ h9 => h9) rfl dX6_ring_12 ?_
  refine C_vi (wr := [0, 4, 5, 6, 7, 8, 9, 10, 11, 12].filterMap (fun i => (wX6 o q F ++ wX1 cI cZ (q 6) qd Fd_8 Ad_8 ++ wX2 cI cZ (q 0) qn Fn An : va_W)[i]?)) X hP hD hS [] [] (w_X1_leastRing l D cI cZ cR adK adV _ (q 6) qd Fd_8 Ad_8 _ h) cal_X1_leastRing mw_37_16 rfl [1, 2, 3] [0, 4, 5, 6, 7, 8, 9, 10, 11, 12] [0, 10, 11, 12, 1, 2, 3, 4, 5, 6, 7, 8, 9] (fun u => (wX6 o q F ++ wX1 cI cZ (q 6) qd Fd_8 Ad_8 ++ wX2 cI cZ (q 0) qn Fn An : va_W)) rfl rfl (fun _ => rfl) rfl 1 rfl rfl ⟨rfl, rfl⟩ ⟨Nat.le_of_ble_eq_true rfl, Nat.le_of_ble_eq_true rfl⟩ hl.1 rfl (Nat.le_of_ble_eq_true rfl) ⟨Nat.zero_le _, Nat.zero_le _⟩ dX6_ring_15 (fun r15 u H locs h hP hD hS => ?_)
  exact ret _ (Fd_8, Ad_8) _ _ _ _ dX6_ring_18 h hP hD hS
theorem dX6_odds_0 : decode cX6_odds 0 = .ok (.iload_n 1, 1) := by decide +kernel
theorem dX6_odds_1 : decode cX6_odds 1 = .ok (.ifCond .lt 26, 3) := by decide +kernel
theorem dX6_odds_4 : decode cX6_odds 4 = .ok (.iload_n 1, 1) := by decide +kernel
theorem dX6_odds_5 : decode cX6_odds 5 = .ok (.bipush 8, 2) := by decide +kernel
theorem dX6_odds_7 : decode cX6_odds 7 = .ok (.if_icmp .gt 20, 3) := by decide +kernel
theorem dX6_odds_10 : decode cX6_odds 10 = .ok (.iload_n 2, 1) := by decide +kernel
theorem dX6_odds_11 : decode cX6_odds 11 = .ok (.ifCond .lt 16, 3) := by decide +kernel
theorem dX6_odds_14 : decode cX6_odds 14 = .ok (.iload_n 2, 1) := by decide +kernel
theorem dX6_odds_15 : decode cX6_odds 15 = .ok (.iload_n 1, 1) := by decide +kernel
theorem dX6_odds_16 : decode cX6_odds 16 = .ok (.if_icmp .gt 11, 3) := by decide +kernel
theorem dX6_odds_19 : decode cX6_odds 19 = .ok (.iload_n 3, 1) := by decide +kernel
theorem dX6_odds_20 : decode cX6_odds 20 = .ok (.iconst 2, 1) := by decide +kernel
theorem dX6_odds_21 : decode cX6_odds 21 = .ok (.invokestatic 95, 3) := by decide +kernel
theorem dX6_odds_24 : decode cX6_odds 24 = .ok (.ifCond .ne 7, 3) := by decide +kernel
theorem dX6_odds_27 : decode cX6_odds 27 = .ok (.ldc2_w 220, 3) := by decide +kernel
theorem dX6_odds_30 : decode cX6_odds 30 = .ok (.lreturn, 1) := by decide +kernel
theorem dX6_odds_31 : decode cX6_odds 31 = .ok (.aload_n 0, 1) := by decide +kernel
theorem dX6_odds_32 : decode cX6_odds 32 = .ok (.getfield 10, 3) := by decide +kernel
theorem dX6_odds_35 : decode cX6_odds 35 = .ok (.getfield 103, 3) := by decide +kernel
theorem dX6_odds_38 : decode cX6_odds 38 = .ok (.iconst 3, 1) := by decide +kernel
theorem dX6_odds_39 : decode cX6_odds 39 = .ok (.iaload, 1) := by decide +kernel
theorem dX6_odds_40 : decode cX6_odds 40 = .ok (.i2l, 1) := by decide +kernel
theorem dX6_odds_41 : decode cX6_odds 41 = .ok (.lstore 4, 2) := by decide +kernel
theorem dX6_odds_43 : decode cX6_odds 43 = .ok (.lconst 1, 1) := by decide +kernel
theorem dX6_odds_44 : decode cX6_odds 44 = .ok (.lstore 6, 2) := by decide +kernel
theorem dX6_odds_46 : decode cX6_odds 46 = .ok (.lconst 1, 1) := by decide +kernel
theorem dX6_odds_47 : decode cX6_odds 47 = .ok (.lstore 8, 2) := by decide +kernel
theorem dX6_odds_49 : decode cX6_odds 49 = .ok (.lconst 1, 1) := by decide +kernel
theorem dX6_odds_50 : decode cX6_odds 50 = .ok (.lstore 10, 2) := by decide +kernel
theorem dX6_odds_52 : decode cX6_odds 52 = .ok (.iconst 0, 1) := by decide +kernel
theorem dX6_odds_53 : decode cX6_odds 53 = .ok (.istore 12, 2) := by decide +kernel
theorem dX6_odds_55 : decode cX6_odds 55 = .ok (.iload 12, 2) := by decide +kernel
theorem dX6_odds_57 : decode cX6_odds 57 = .ok (.iload_n 1, 1) := by decide +kernel
theorem dX6_odds_58 : decode cX6_odds 58 = .ok (.if_icmp .ge 39, 3) := by decide +kernel
theorem dX6_odds_61 : decode cX6_odds 61 = .ok (.lload 8, 2) := by decide +kernel
theorem dX6_odds_63 : decode cX6_odds 63 = .ok (.iload 12, 2) := by decide +kernel
theorem dX6_odds_65 : decode cX6_odds 65 = .ok (.iload_n 2, 1) := by decide +kernel
theorem dX6_odds_66 : decode cX6_odds 66 = .ok (.if_icmp .ge 8, 3) := by decide +kernel
theorem dX6_odds_69 : decode cX6_odds 69 = .ok (.lload 4, 2) := by decide +kernel
theorem dX6_odds_71 : decode cX6_odds 71 = .ok (.goto 9, 3) := by decide +kernel
theorem dX6_odds_74 : decode cX6_odds 74 = .ok (.ldc2_w 262, 3) := by decide +kernel
theorem dX6_odds_77 : decode cX6_odds 77 = .ok (.lload 4, 2) := by decide +kernel
theorem dX6_odds_79 : decode cX6_odds 79 = .ok (.lsub, 1) := by decide +kernel
theorem dX6_odds_80 : decode cX6_odds 80 = .ok (.lmul, 1) := by decide +kernel
theorem dX6_odds_81 : decode cX6_odds 81 = .ok (.lstore 8, 2) := by decide +kernel
theorem dX6_odds_83 : decode cX6_odds 83 = .ok (.lload 10, 2) := by decide +kernel
theorem dX6_odds_85 : decode cX6_odds 85 = .ok (.ldc2_w 262, 3) := by decide +kernel
theorem dX6_odds_88 : decode cX6_odds 88 = .ok (.lmul, 1) := by decide +kernel
theorem dX6_odds_89 : decode cX6_odds 89 = .ok (.lstore 10, 2) := by decide +kernel
theorem dX6_odds_91 : decode cX6_odds 91 = .ok (.iinc 12 1, 3) := by decide +kernel
theorem dX6_odds_94 : decode cX6_odds 94 = .ok (.goto (-39), 3) := by decide +kernel
theorem dX6_odds_97 : decode cX6_odds 97 = .ok (.iconst 0, 1) := by decide +kernel
theorem dX6_odds_98 : decode cX6_odds 98 = .ok (.istore 12, 2) := by decide +kernel
theorem dX6_odds_100 : decode cX6_odds 100 = .ok (.iload 12, 2) := by decide +kernel
theorem dX6_odds_102 : decode cX6_odds 102 = .ok (.iload_n 2, 1) := by decide +kernel
theorem dX6_odds_103 : decode cX6_odds 103 = .ok (.if_icmp .ge 25, 3) := by decide +kernel
theorem dX6_odds_106 : decode cX6_odds 106 = .ok (.lload 6, 2) := by decide +kernel
theorem dX6_odds_108 : decode cX6_odds 108 = .ok (.iload_n 1, 1) := by decide +kernel
theorem dX6_odds_109 : decode cX6_odds 109 = .ok (.iload 12, 2) := by decide +kernel
theorem dX6_odds_111 : decode cX6_odds 111 = .ok (.isub, 1) := by decide +kernel
theorem dX6_odds_112 : decode cX6_odds 112 = .ok (.i2l, 1) := by decide +kernel
theorem dX6_odds_113 : decode cX6_odds 113 = .ok (.lmul, 1) := by decide +kernel
theorem dX6_odds_114 : decode cX6_odds 114 = .ok (.iload 12, 2) := by decide +kernel
theorem dX6_odds_116 : decode cX6_odds 116 = .ok (.iconst 1, 1) := by decide +kernel
theorem dX6_odds_117 : decode cX6_odds 117 = .ok (.iadd, 1) := by decide +kernel
theorem dX6_odds_118 : decode cX6_odds 118 = .ok (.i2l, 1) := by decide +kernel
theorem dX6_odds_119 : decode cX6_odds 119 = .ok (.ldiv, 1) := by decide +kernel
theorem dX6_odds_120 : decode cX6_odds 120 = .ok (.lstore 6, 2) := by decide +kernel
theorem dX6_odds_122 : decode cX6_odds 122 = .ok (.iinc 12 1, 3) := by decide +kernel
theorem dX6_odds_125 : decode cX6_odds 125 = .ok (.goto (-25), 3) := by decide +kernel
theorem dX6_odds_128 : decode cX6_odds 128 = .ok (.lload 6, 2) := by decide +kernel
theorem dX6_odds_130 : decode cX6_odds 130 = .ok (.lload 8, 2) := by decide +kernel
theorem dX6_odds_132 : decode cX6_odds 132 = .ok (.lmul, 1) := by decide +kernel
theorem dX6_odds_133 : decode cX6_odds 133 = .ok (.lload 10, 2) := by decide +kernel
theorem dX6_odds_135 : decode cX6_odds 135 = .ok (.iload_n 3, 1) := by decide +kernel
theorem dX6_odds_136 : decode cX6_odds 136 = .ok (.invokestatic 230, 3) := by decide +kernel
theorem dX6_odds_139 : decode cX6_odds 139 = .ok (.lreturn, 1) := by decide +kernel
def p_X6_odds_L100 (F : tF) (Fn : tF) (An : tA) (x1 : Int32) (x2 : Int32) (x3 : Int32) (x8 : Int64) (x10 : Int64) (K : Int64 → Prop) : Nat → Int64 → Int32 → Prop
  | 0, _, _ => False
  | n100 + 1, x6, x12 => ((x2 ≤ x12 → (p_X6_partOf (x6 * x8) x10 x3 (fun r136 => (K r136)))) ∧ (¬ x2 ≤ x12 → (¬ ((x12 + (1 : Int32))).toInt64 = 0 ∧ (∀ y120 : Int64, y120 = ((x6 * ((x1 - x12)).toInt64) / ((x12 + (1 : Int32))).toInt64) → (∀ y122 : Int32, y122 = (x12 + (1 : Int32)) → ((p_X6_odds_L100 F Fn An x1 x2 x3 x8 x10 K n100) y120 y122))))))
set_option maxHeartbeats 4000000 in
set_option maxRecDepth 100000 in
theorem b_X6_odds_L100 {p : Program} {l : Launch} {e : Env} {s : State} {m : MethodId} {args : Array Value} {below : List Frame} {meth : Method} {c : Code} {Q : State → Prop} {D : va_G} {cI cZ cR : ClassId} {adK adV : Nat → Nat} {A9 : Nat → Prop} {o : Nat} {q : Nat → Nat} {qn : Nat → Nat} {K : Int64 → Prop}  (F : tF) (Fn : tF) (An : tA) (x1 : Int32) (x2 : Int32) (x3 : Int32) (x8 : Int64) (x10 : Int64) (X : CX p s m args c yX6_odds.cls cX6_odds 13 D cI cZ cR adK adV A9) (ret : RTl p l e (rmN 2 56) s m args below meth c Q cX6_odds D A9 (fun (r : Int64) (u : Unit) => K r) (fun (u : Unit) => (wX6 o q F ++ wX2 cI cZ (q 0) qn Fn An : va_W)))   : ∀ (n : Nat) (x6 : Int64) (x12 : Int32) (H : Heap) (locs : List Loc) (ls : Array Slot), p_X6_odds_L100 F Fn An x1 x2 x3 x8 x10 K n x6 x12 → va_P D vwCl (wX6 o q F ++ wX2 cI cZ (q 0) qn Fn An : va_W) H → va_D A9 (wX6 o q F ++ wX2 cI cZ (q 0) qn Fn An : va_W) → va_S A9 s.heap H locs → lv_has ls 13 [(1, .int x1), (2, .int x2), (3, .int x3), (6, .long x6), (8, .long x8), (10, .long x10), (12, .int x12)] → W p l e (rmN 2 56) s m args below meth c H locs 0 0 Q (F0 m 100 ls []) := by
  obtain ⟨hx, hb, hml, ht, hown, hK, hA, hE⟩ := id X
  intro n
  induction n with
  | zero => intro x6 x12 H locs ls h; exact False.elim h
  | succ n100 ih =>
    intro x6 x12 H locs ls h hP hD hS hl
    rw [p_X6_odds_L100] at h
    refine lv_iload hx hb dX6_odds_100 (lv_at hl 6 rfl) ?_
    refine lv_iload_n hx hb dX6_odds_102 rfl (lv_at hl 1 rfl) ?_
    refine lv_icmp_ge (tgt := 128) hx hb dX6_odds_103 (by decide) (fun c103 => ?_) (fun c103 => ?_)
    · replace h := h.1 c103
      refine lv_lload hx hb dX6_odds_128 (lv_at hl 3 rfl) ?_
      refine lv_lload hx hb dX6_odds_130 (lv_at hl 4 rfl) ?_
      refine lv_lmul hx hb dX6_odds_132 ?_
      refine lv_lload hx hb dX6_odds_133 (lv_at hl 5 rfl) ?_
      refine lv_iload_n hx hb dX6_odds_135 rfl (lv_at hl 2 rfl) ?_
      refine C_sl (wr := [0, 1, 2, 3, 4, 5, 6, 7, 8, 9].filterMap (fun i => (wX6 o q F ++ wX2 cI cZ (q 0) qn Fn An : va_W)[i]?)) X hP hD hS [.long (x6 * x8), .long x10, .int x3] [] (w_X6_partOf l D cI cZ cR adK adV _ (x6 * x8) x10 x3 _ h) cal_X6_partOf mw_39_3 rfl [] [0, 1, 2, 3, 4, 5, 6, 7, 8, 9] [0, 1, 2, 3, 4, 5, 6, 7, 8, 9] (fun u => (wX6 o q F ++ wX2 cI cZ (q 0) qn Fn An : va_W)) rfl rfl (fun _ => rfl) rfl ⟨rfl, rfl⟩ ⟨Nat.le_of_ble_eq_true rfl, Nat.le_of_ble_eq_true rfl⟩ hl.1 rfl (Nat.le_of_ble_eq_true rfl) ⟨Nat.zero_le _, Nat.zero_le _⟩ dX6_odds_136 (fun r136 u H locs h hP hD hS => ?_)
      exact ret _ () _ _ _ _ dX6_odds_139 h hP hD hS
    · replace h := h.2 c103
      refine lv_lload hx hb dX6_odds_106 (lv_at hl 3 rfl) ?_
      refine lv_iload_n hx hb dX6_odds_108 rfl (lv_at hl 0 rfl) ?_
      refine lv_iload hx hb dX6_odds_109 (lv_at hl 6 rfl) ?_
      refine lv_isub hx hb dX6_odds_111 ?_
      refine lv_i2l (v := ((x1 - x12)).toInt64) hx hb dX6_odds_112 rfl ?_
      refine lv_lmul hx hb dX6_odds_113 ?_
      refine lv_iload hx hb dX6_odds_114 (lv_at hl 6 rfl) ?_
      refine lv_iconst (v := 1) hx hb dX6_odds_116 (by decide) ?_
      refine lv_iadd hx hb dX6_odds_117 ?_
      refine lv_i2l (v := ((x12 + (1 : Int32))).toInt64) hx hb dX6_odds_118 rfl ?_
      obtain ⟨hz119, h⟩ := h
      refine lv_ldiv hx hb dX6_odds_119 hz119 ?_
      refine lv_topl (fun y120 ey120 => ?_)
      replace h := h y120 ey120
      refine lv_lstore (lv' := [(6, .long y120), (1, .int x1), (2, .int x2), (3, .int x3), (8, .long x8), (10, .long x10), (12, .int x12)]) hx hb dX6_odds_120 hl (by decide) rfl (fun ls hl => ?_)
      obtain ⟨y122, ey122⟩ : ∃ y : Int32, y = (x12 + (1 : Int32)) := ⟨_, rfl⟩
      replace h := h y122 ey122
      refine lv_iinc (v := y122) (lv' := [(12, .int y122), (6, .long y120), (1, .int x1), (2, .int x2), (3, .int x3), (8, .long x8), (10, .long x10)]) hx hb dX6_odds_122 hl (k := 6) rfl (by rw [ey122]; rfl) (by decide) rfl (fun ls hl => ?_)
      refine lv_goto (tgt := 100) hx hb dX6_odds_125 (by decide) ?_
      exact ih y120 y122 _ _ _ h hP hD hS (lv_sub hl [2, 3, 4, 1, 5, 6, 0] rfl)
def p_X6_odds_J80 (F : tF) (Fn : tF) (An : tA) (B55 : (Int64 → Int64 → Int32 → Prop)) (K : Int64 → Prop) (x1 : Int32) (x2 : Int32) (x3 : Int32) (x4 : Int64) (x6 : Int64) (x10 : Int64) (x12 : Int32) (s0 : Int64) (s1 : Int64) : Prop := (∀ y81 : Int64, y81 = (s1 * s0) → (∀ y89 : Int64, y89 = (x10 * (100 : Int64)) → (∀ y91 : Int32, y91 = (x12 + (1 : Int32)) → (B55 y81 y89 y91))))
set_option maxHeartbeats 4000000 in
set_option maxRecDepth 100000 in
theorem b_X6_odds_J80 {p : Program} {l : Launch} {e : Env} {s : State} {m : MethodId} {args : Array Value} {below : List Frame} {meth : Method} {c : Code} {Q : State → Prop} {D : va_G} {cI cZ cR : ClassId} {adK adV : Nat → Nat} {A9 : Nat → Prop} {o : Nat} {q : Nat → Nat} {qn : Nat → Nat} {K : Int64 → Prop} {B55 : (Int64 → Int64 → Int32 → Prop)} (F : tF) (Fn : tF) (An : tA) (x1 : Int32) (x2 : Int32) (x3 : Int32) (x4 : Int64) (x6 : Int64) (x10 : Int64) (x12 : Int32) (s0 : Int64) (s1 : Int64) (X : CX p s m args c yX6_odds.cls cX6_odds 13 D cI cZ cR adK adV A9) (ret : RTl p l e (rmN 2 56) s m args below meth c Q cX6_odds D A9 (fun (r : Int64) (u : Unit) => K r) (fun (u : Unit) => (wX6 o q F ++ wX2 cI cZ (q 0) qn Fn An : va_W))) (hB55 : ∀ (x8 : Int64) (x10 : Int64) (x12 : Int32) (H : Heap) (locs : List Loc) (ls : Array Slot), B55 x8 x10 x12 → va_P D vwCl (wX6 o q F ++ wX2 cI cZ (q 0) qn Fn An : va_W) H → va_D A9 (wX6 o q F ++ wX2 cI cZ (q 0) qn Fn An : va_W) → va_S A9 s.heap H locs → lv_has ls 13 [(1, .int x1), (2, .int x2), (3, .int x3), (4, .long x4), (6, .long x6), (8, .long x8), (10, .long x10), (12, .int x12)] → W p l e (rmN 2 56) s m args below meth c H locs 0 0 Q (F0 m 55 ls [])) (H : Heap) (locs : List Loc) (ls : Array Slot) (h : p_X6_odds_J80 F Fn An B55 K x1 x2 x3 x4 x6 x10 x12 s0 s1) (hP : va_P D vwCl (wX6 o q F ++ wX2 cI cZ (q 0) qn Fn An : va_W) H) (hD : va_D A9 (wX6 o q F ++ wX2 cI cZ (q 0) qn Fn An : va_W)) (hS : va_S A9 s.heap H locs) (hl : lv_has ls 13 [(1, .int x1), (2, .int x2), (3, .int x3), (4, .long x4), (6, .long x6), (10, .long x10), (12, .int x12)]) : W p l e (rmN 2 56) s m args below meth c H locs 0 0 Q (F0 m 80 ls [.long s0, .long s1]) := by
  obtain ⟨hx, hb, hml, ht, hown, hK, hA, hE⟩ := id X
  unfold p_X6_odds_J80 at h
  refine lv_lmul hx hb dX6_odds_80 ?_
  refine lv_topl (fun y81 ey81 => ?_)
  replace h := h y81 ey81
  refine lv_lstore (lv' := [(8, .long y81), (1, .int x1), (2, .int x2), (3, .int x3), (4, .long x4), (6, .long x6), (10, .long x10), (12, .int x12)]) hx hb dX6_odds_81 hl (by decide) rfl (fun ls hl => ?_)
  refine lv_lload hx hb dX6_odds_83 (lv_at hl 6 rfl) ?_
  refine lv_ldc2 (v := 100) hx hb hown (ht _ mw_40_20) dX6_odds_85 ?_
  refine lv_lmul hx hb dX6_odds_88 ?_
  refine lv_topl (fun y89 ey89 => ?_)
  replace h := h y89 ey89
  refine lv_lstore (lv' := [(10, .long y89), (8, .long y81), (1, .int x1), (2, .int x2), (3, .int x3), (4, .long x4), (6, .long x6), (12, .int x12)]) hx hb dX6_odds_89 hl (by decide) rfl (fun ls hl => ?_)
  obtain ⟨y91, ey91⟩ : ∃ y : Int32, y = (x12 + (1 : Int32)) := ⟨_, rfl⟩
  replace h := h y91 ey91
  refine lv_iinc (v := y91) (lv' := [(12, .int y91), (10, .long y89), (8, .long y81), (1, .int x1), (2, .int x2), (3, .int x3), (4, .long x4), (6, .long x6)]) hx hb dX6_odds_91 hl (k := 7) rfl (by rw [ey91]; rfl) (by decide) rfl (fun ls hl => ?_)
  refine lv_goto (tgt := 55) hx hb dX6_odds_94 (by decide) ?_
  exact hB55 y81 y89 y91 _ _ _ h hP hD hS (lv_sub hl [3, 4, 5, 6, 7, 2, 1, 0] rfl)
def p_X6_odds_L55 (F : tF) (Fn : tF) (An : tA) (x1 : Int32) (x2 : Int32) (x3 : Int32) (x4 : Int64) (x6 : Int64) (K : Int64 → Prop) : Nat → Int64 → Int64 → Int32 → Prop
  | 0, _, _, _ => False
  | n55 + 1, x8, x10, x12 => ((x1 ≤ x12 → (∃ n100, p_X6_odds_L100 F Fn An x1 x2 x3 x8 x10 K n100 x6 (0 : Int32))) ∧ (¬ x1 ≤ x12 → ((x2 ≤ x12 → (p_X6_odds_J80 F Fn An (p_X6_odds_L55 F Fn An x1 x2 x3 x4 x6 K n55) K x1 x2 x3 x4 x6 x10 x12 ((100 : Int64) - x4) x8)) ∧ (¬ x2 ≤ x12 → (p_X6_odds_J80 F Fn An (p_X6_odds_L55 F Fn An x1 x2 x3 x4 x6 K n55) K x1 x2 x3 x4 x6 x10 x12 x4 x8)))))
set_option maxHeartbeats 4000000 in
set_option maxRecDepth 100000 in
theorem b_X6_odds_L55 {p : Program} {l : Launch} {e : Env} {s : State} {m : MethodId} {args : Array Value} {below : List Frame} {meth : Method} {c : Code} {Q : State → Prop} {D : va_G} {cI cZ cR : ClassId} {adK adV : Nat → Nat} {A9 : Nat → Prop} {o : Nat} {q : Nat → Nat} {qn : Nat → Nat} {K : Int64 → Prop}  (F : tF) (Fn : tF) (An : tA) (x1 : Int32) (x2 : Int32) (x3 : Int32) (x4 : Int64) (x6 : Int64) (X : CX p s m args c yX6_odds.cls cX6_odds 13 D cI cZ cR adK adV A9) (ret : RTl p l e (rmN 2 56) s m args below meth c Q cX6_odds D A9 (fun (r : Int64) (u : Unit) => K r) (fun (u : Unit) => (wX6 o q F ++ wX2 cI cZ (q 0) qn Fn An : va_W)))   : ∀ (n : Nat) (x8 : Int64) (x10 : Int64) (x12 : Int32) (H : Heap) (locs : List Loc) (ls : Array Slot), p_X6_odds_L55 F Fn An x1 x2 x3 x4 x6 K n x8 x10 x12 → va_P D vwCl (wX6 o q F ++ wX2 cI cZ (q 0) qn Fn An : va_W) H → va_D A9 (wX6 o q F ++ wX2 cI cZ (q 0) qn Fn An : va_W) → va_S A9 s.heap H locs → lv_has ls 13 [(1, .int x1), (2, .int x2), (3, .int x3), (4, .long x4), (6, .long x6), (8, .long x8), (10, .long x10), (12, .int x12)] → W p l e (rmN 2 56) s m args below meth c H locs 0 0 Q (F0 m 55 ls []) := by
  obtain ⟨hx, hb, hml, ht, hown, hK, hA, hE⟩ := id X
  intro n
  induction n with
  | zero => intro x8 x10 x12 H locs ls h; exact False.elim h
  | succ n55 ih =>
    intro x8 x10 x12 H locs ls h hP hD hS hl
    rw [p_X6_odds_L55] at h
    refine lv_iload hx hb dX6_odds_55 (lv_at hl 7 rfl) ?_
    refine lv_iload_n hx hb dX6_odds_57 rfl (lv_at hl 0 rfl) ?_
    refine lv_icmp_ge (tgt := 97) hx hb dX6_odds_58 (by decide) (fun c58 => ?_) (fun c58 => ?_)
    · replace h := h.1 c58
      refine lv_iconst (v := 0) hx hb dX6_odds_97 (by decide) ?_
      refine lv_istore (lv' := [(12, .int (0 : Int32)), (1, .int x1), (2, .int x2), (3, .int x3), (4, .long x4), (6, .long x6), (8, .long x8), (10, .long x10)]) hx hb dX6_odds_98 hl (by decide) rfl (fun ls hl => ?_)
      obtain ⟨n100, h⟩ := h
      exact b_X6_odds_L100 F Fn An x1 x2 x3 x8 x10 X ret  n100 x6 (0 : Int32) _ _ _ h hP hD hS (lv_sub hl [1, 2, 3, 5, 6, 7, 0] rfl)
    · replace h := h.2 c58
      refine lv_lload hx hb dX6_odds_61 (lv_at hl 5 rfl) ?_
      refine lv_iload hx hb dX6_odds_63 (lv_at hl 7 rfl) ?_
      refine lv_iload_n hx hb dX6_odds_65 rfl (lv_at hl 1 rfl) ?_
      refine lv_icmp_ge (tgt := 74) hx hb dX6_odds_66 (by decide) (fun c66 => ?_) (fun c66 => ?_)
      · replace h := h.1 c66
        refine lv_ldc2 (v := 100) hx hb hown (ht _ mw_40_20) dX6_odds_74 ?_
        refine lv_lload hx hb dX6_odds_77 (lv_at hl 3 rfl) ?_
        refine lv_lsub hx hb dX6_odds_79 ?_
        exact b_X6_odds_J80 F Fn An x1 x2 x3 x4 x6 x10 x12 ((100 : Int64) - x4) x8 X ret ih _ _ _ h hP hD hS (lv_sub hl [0, 1, 2, 3, 4, 6, 7] rfl)
      · replace h := h.2 c66
        refine lv_lload hx hb dX6_odds_69 (lv_at hl 3 rfl) ?_
        refine lv_goto (tgt := 80) hx hb dX6_odds_71 (by decide) ?_
        exact b_X6_odds_J80 F Fn An x1 x2 x3 x4 x6 x10 x12 x4 x8 X ret ih _ _ _ h hP hD hS (lv_sub hl [0, 1, 2, 3, 4, 6, 7] rfl)
def p_X6_odds (F : tF) (Fn : tF) (An : tA) (x1 : Int32) (x2 : Int32) (x3 : Int32) (K : Int64 → Prop) : Prop := ((x1 < 0 → (K (-1 : Int64))) ∧ (¬ x1 < 0 → (((8 : Int32) < x1 → (K (-1 : Int64))) ∧ (¬ (8 : Int32) < x1 → ((x2 < 0 → (K (-1 : Int64))) ∧ (¬ x2 < 0 → ((x1 < x2 → (K (-1 : Int64))) ∧ (¬ x1 < x2 → (p_X6_within x3 (2 : Int32) (fun r21 => ((¬ r21 = 0 → (∀ y41 : Int64, y41 = (((An 0) 3)).toInt64 → (∃ n55, p_X6_odds_L55 F Fn An x1 x2 x3 y41 (1 : Int64) K n55 (1 : Int64) (1 : Int64) (0 : Int32)))) ∧ (r21 = 0 → (K (-1 : Int64))))))))))))))
set_option maxHeartbeats 4000000 in
set_option maxRecDepth 100000 in
theorem w_X6_odds (l : Launch) (D : va_G) (cI cZ cR : ClassId) (adK adV : Nat → Nat) (sz : Nat) (o : Nat) (q : Nat → Nat) (qn : Nat → Nat) (F : tF) (Fn : tF) (An : tA) (x1 : Int32) (x2 : Int32) (x3 : Int32) (K : Int64 → Prop) (h : p_X6_odds F Fn An x1 x2 x3 K) : ML l D cI cZ cR adK adV yX6_odds cX6_odds 13 (some .long) (rmN 2 56) [.ref o, .int x1, .int x2, .int x3] (wX6 o q F ++ wX2 cI cZ (q 0) qn Fn An : va_W) sz (fun (r : Int64) (u : Unit) => K r) (fun (u : Unit) => (wX6 o q F ++ wX2 cI cZ (q 0) qn Fn An : va_W)) := by
  refine M_l (by decide +kernel) (Nat.le_of_ble_eq_true rfl) ?_
  intro p e s m args below meth c Q A9 ls X ret hP hD hS hl
  obtain ⟨hx, hb, hml, ht, hown, hK, hA, hE⟩ := id X
  have hl : lv_has ls 13 [(0, .ref o), (1, .int x1), (2, .int x2), (3, .int x3)] := hl
  unfold p_X6_odds at h
  refine lv_iload_n hx hb dX6_odds_0 rfl (lv_at hl 1 rfl) ?_
  refine lv_if_lt (tgt := 27) hx hb dX6_odds_1 (by decide) (fun c1 => ?_) (fun c1 => ?_)
  · replace h := h.1 c1
    refine lv_ldc2 (v := -1) hx hb hown (ht _ mw_38_14) dX6_odds_27 ?_
    exact ret _ () _ _ _ _ dX6_odds_30 h hP hD hS
  · replace h := h.2 c1
    refine lv_iload_n hx hb dX6_odds_4 rfl (lv_at hl 1 rfl) ?_
    refine lv_bipush (v := 8) hx hb dX6_odds_5 (by decide) ?_
    refine lv_icmp_gt (tgt := 27) hx hb dX6_odds_7 (by decide) (fun c7 => ?_) (fun c7 => ?_)
    · replace h := h.1 c7
      refine lv_ldc2 (v := -1) hx hb hown (ht _ mw_38_14) dX6_odds_27 ?_
      exact ret _ () _ _ _ _ dX6_odds_30 h hP hD hS
    · replace h := h.2 c7
      refine lv_iload_n hx hb dX6_odds_10 rfl (lv_at hl 2 rfl) ?_
      refine lv_if_lt (tgt := 27) hx hb dX6_odds_11 (by decide) (fun c11 => ?_) (fun c11 => ?_)
      · replace h := h.1 c11
        refine lv_ldc2 (v := -1) hx hb hown (ht _ mw_38_14) dX6_odds_27 ?_
        exact ret _ () _ _ _ _ dX6_odds_30 h hP hD hS
      · replace h := h.2 c11
        refine lv_iload_n hx hb dX6_odds_14 rfl (lv_at hl 2 rfl) ?_
        refine lv_iload_n hx hb dX6_odds_15 rfl (lv_at hl 1 rfl) ?_
        refine lv_icmp_gt (tgt := 27) hx hb dX6_odds_16 (by decide) (fun c16 => ?_) (fun c16 => ?_)
        · replace h := h.1 c16
          refine lv_ldc2 (v := -1) hx hb hown (ht _ mw_38_14) dX6_odds_27 ?_
          exact ret _ () _ _ _ _ dX6_odds_30 h hP hD hS
        · replace h := h.2 c16
          refine lv_iload_n hx hb dX6_odds_19 rfl (lv_at hl 3 rfl) ?_
          refine lv_iconst (v := 2) hx hb dX6_odds_20 (by decide) ?_
          refine C_si (wr := [0, 1, 2, 3, 4, 5, 6, 7, 8, 9].filterMap (fun i => (wX6 o q F ++ wX2 cI cZ (q 0) qn Fn An : va_W)[i]?)) X hP hD hS [.int x3, .int (2 : Int32)] [] (w_X6_within l D cI cZ cR adK adV _ x3 (2 : Int32) _ h) cal_X6_within mw_15_9 rfl [] [0, 1, 2, 3, 4, 5, 6, 7, 8, 9] [0, 1, 2, 3, 4, 5, 6, 7, 8, 9] (fun u => (wX6 o q F ++ wX2 cI cZ (q 0) qn Fn An : va_W)) rfl rfl (fun _ => rfl) rfl ⟨rfl, rfl⟩ ⟨Nat.le_of_ble_eq_true rfl, Nat.le_of_ble_eq_true rfl⟩ hl.1 rfl (Nat.le_of_ble_eq_true rfl) ⟨Nat.zero_le _, Nat.zero_le _⟩ dX6_odds_21 (fun r21 u H locs h hP hD hS => ?_)
          refine lv_if_ne (tgt := 31) hx hb dX6_odds_24 (by decide) (fun c24 => ?_) (fun c24 => ?_)
          · replace h := h.1 c24
            refine lv_aload_n hx hb dX6_odds_31 rfl (lv_at hl 0 rfl) ?_
            refine va_get (C := RX6) (T := TX6) (N := 13) (own := RX6) (v := .ref (q 0)) hx hb ht inlX6 hown hK hP 0 rfl rfl 0 (Nat.le_of_ble_eq_true rfl) (ht _ mw_1_16) (fun _ h9 => h9) rfl dX6_odds_32 ?_
            refine va_get (C := RX2) (T := TX2) (N := 13) (own := RX6) (v := .ref (qn 0)) hx hb ht inlX2 hown hK hP 1 rfl rfl 0 (Nat.le_of_ble_eq_true rfl) (ht _ mw_15_8) (fun _ h9 => h9) rfl dX6_odds_35 ?_
            refine lv_iconst (v := 3) hx hb dX6_odds_38 (by decide) ?_
            refine g_iald (f := (An 0)) (k := 3) hx hb hK hP 2 0 rfl rfl (vp_in_lit rfl : vp_in (3 : Int32) 4) (by decide) dX6_odds_39 ?_
            refine lv_i2l (v := (((An 0) 3)).toInt64) hx hb dX6_odds_40 rfl ?_
            refine lv_topl (fun y41 ey41 => ?_)
            replace h := h y41 ey41
            refine lv_lstore (lv' := [(4, .long y41), (0, .ref o), (1, .int x1), (2, .int x2), (3, .int x3)]) hx hb dX6_odds_41 hl (by decide) rfl (fun ls hl => ?_)
            refine lv_lconst (v := 1) hx hb dX6_odds_43 (by decide) ?_
            refine lv_lstore (lv' := [(6, .long (1 : Int64)), (4, .long y41), (0, .ref o), (1, .int x1), (2, .int x2), (3, .int x3)]) hx hb dX6_odds_44 hl (by decide) rfl (fun ls hl => ?_)
            refine lv_lconst (v := 1) hx hb dX6_odds_46 (by decide) ?_
            refine lv_lstore (lv' := [(8, .long (1 : Int64)), (6, .long (1 : Int64)), (4, .long y41), (0, .ref o), (1, .int x1), (2, .int x2), (3, .int x3)]) hx hb dX6_odds_47 hl (by decide) rfl (fun ls hl => ?_)
            refine lv_lconst (v := 1) hx hb dX6_odds_49 (by decide) ?_
            refine lv_lstore (lv' := [(10, .long (1 : Int64)), (8, .long (1 : Int64)), (6, .long (1 : Int64)), (4, .long y41), (0, .ref o), (1, .int x1), (2, .int x2), (3, .int x3)]) hx hb dX6_odds_50 hl (by decide) rfl (fun ls hl => ?_)
            refine lv_iconst (v := 0) hx hb dX6_odds_52 (by decide) ?_
            refine lv_istore (lv' := [(12, .int (0 : Int32)), (10, .long (1 : Int64)), (8, .long (1 : Int64)), (6, .long (1 : Int64)), (4, .long y41), (0, .ref o), (1, .int x1), (2, .int x2), (3, .int x3)]) hx hb dX6_odds_53 hl (by decide) rfl (fun ls hl => ?_)
            obtain ⟨n55, h⟩ := h
            exact b_X6_odds_L55 F Fn An x1 x2 x3 y41 (1 : Int64) X ret  n55 (1 : Int64) (1 : Int64) (0 : Int32) _ _ _ h hP hD hS (lv_sub hl [6, 7, 8, 4, 3, 2, 1, 0] rfl)
          · replace h := h.2 c24
            refine lv_ldc2 (v := -1) hx hb hown (ht _ mw_38_14) dX6_odds_27 ?_
            exact ret _ () _ _ _ _ dX6_odds_30 h hP hD hS
theorem dX6_hope_0 : decode cX6_hope 0 = .ok (.iload_n 1, 1) := by decide +kernel
theorem dX6_hope_1 : decode cX6_hope 1 = .ok (.ifCond .lt 17, 3) := by decide +kernel
theorem dX6_hope_4 : decode cX6_hope 4 = .ok (.iload_n 1, 1) := by decide +kernel
theorem dX6_hope_5 : decode cX6_hope 5 = .ok (.bipush 99, 2) := by decide +kernel
theorem dX6_hope_7 : decode cX6_hope 7 = .ok (.if_icmp .gt 11, 3) := by decide +kernel
theorem dX6_hope_10 : decode cX6_hope 10 = .ok (.iload_n 2, 1) := by decide +kernel
theorem dX6_hope_11 : decode cX6_hope 11 = .ok (.iconst 2, 1) := by decide +kernel
theorem dX6_hope_12 : decode cX6_hope 12 = .ok (.invokestatic 95, 3) := by decide +kernel
theorem dX6_hope_15 : decode cX6_hope 15 = .ok (.ifCond .ne 7, 3) := by decide +kernel
theorem dX6_hope_18 : decode cX6_hope 18 = .ok (.ldc2_w 220, 3) := by decide +kernel
theorem dX6_hope_21 : decode cX6_hope 21 = .ok (.lreturn, 1) := by decide +kernel
theorem dX6_hope_22 : decode cX6_hope 22 = .ok (.iload_n 1, 1) := by decide +kernel
theorem dX6_hope_23 : decode cX6_hope 23 = .ok (.i2l, 1) := by decide +kernel
theorem dX6_hope_24 : decode cX6_hope 24 = .ok (.aload_n 0, 1) := by decide +kernel
theorem dX6_hope_25 : decode cX6_hope 25 = .ok (.getfield 10, 3) := by decide +kernel
theorem dX6_hope_28 : decode cX6_hope 28 = .ok (.getfield 103, 3) := by decide +kernel
theorem dX6_hope_31 : decode cX6_hope 31 = .ok (.iconst 3, 1) := by decide +kernel
theorem dX6_hope_32 : decode cX6_hope 32 = .ok (.iaload, 1) := by decide +kernel
theorem dX6_hope_33 : decode cX6_hope 33 = .ok (.i2l, 1) := by decide +kernel
theorem dX6_hope_34 : decode cX6_hope 34 = .ok (.lmul, 1) := by decide +kernel
theorem dX6_hope_35 : decode cX6_hope 35 = .ok (.ldc2_w 262, 3) := by decide +kernel
theorem dX6_hope_38 : decode cX6_hope 38 = .ok (.iload_n 2, 1) := by decide +kernel
theorem dX6_hope_39 : decode cX6_hope 39 = .ok (.invokestatic 230, 3) := by decide +kernel
theorem dX6_hope_42 : decode cX6_hope 42 = .ok (.lreturn, 1) := by decide +kernel
def p_X6_hope (F : tF) (Fn : tF) (An : tA) (x1 : Int32) (x2 : Int32) (K : Int64 → Prop) : Prop := ((x1 < 0 → (K (-1 : Int64))) ∧ (¬ x1 < 0 → (((99 : Int32) < x1 → (K (-1 : Int64))) ∧ (¬ (99 : Int32) < x1 → (p_X6_within x2 (2 : Int32) (fun r12 => ((¬ r12 = 0 → (p_X6_partOf ((x1).toInt64 * (((An 0) 3)).toInt64) (100 : Int64) x2 (fun r39 => (K r39)))) ∧ (r12 = 0 → (K (-1 : Int64))))))))))
set_option maxHeartbeats 4000000 in
set_option maxRecDepth 100000 in
theorem w_X6_hope (l : Launch) (D : va_G) (cI cZ cR : ClassId) (adK adV : Nat → Nat) (sz : Nat) (o : Nat) (q : Nat → Nat) (qn : Nat → Nat) (F : tF) (Fn : tF) (An : tA) (x1 : Int32) (x2 : Int32) (K : Int64 → Prop) (h : p_X6_hope F Fn An x1 x2 K) : ML l D cI cZ cR adK adV yX6_hope cX6_hope 3 (some .long) (rmN 2 56) [.ref o, .int x1, .int x2] (wX6 o q F ++ wX2 cI cZ (q 0) qn Fn An : va_W) sz (fun (r : Int64) (u : Unit) => K r) (fun (u : Unit) => (wX6 o q F ++ wX2 cI cZ (q 0) qn Fn An : va_W)) := by
  refine M_l (by decide +kernel) (Nat.le_of_ble_eq_true rfl) ?_
  intro p e s m args below meth c Q A9 ls X ret hP hD hS hl
  obtain ⟨hx, hb, hml, ht, hown, hK, hA, hE⟩ := id X
  have hl : lv_has ls 3 [(0, .ref o), (1, .int x1), (2, .int x2)] := hl
  unfold p_X6_hope at h
  refine lv_iload_n hx hb dX6_hope_0 rfl (lv_at hl 1 rfl) ?_
  refine lv_if_lt (tgt := 18) hx hb dX6_hope_1 (by decide) (fun c1 => ?_) (fun c1 => ?_)
  · replace h := h.1 c1
    refine lv_ldc2 (v := -1) hx hb hown (ht _ mw_38_14) dX6_hope_18 ?_
    exact ret _ () _ _ _ _ dX6_hope_21 h hP hD hS
  · replace h := h.2 c1
    refine lv_iload_n hx hb dX6_hope_4 rfl (lv_at hl 1 rfl) ?_
    refine lv_bipush (v := 99) hx hb dX6_hope_5 (by decide) ?_
    refine lv_icmp_gt (tgt := 18) hx hb dX6_hope_7 (by decide) (fun c7 => ?_) (fun c7 => ?_)
    · replace h := h.1 c7
      refine lv_ldc2 (v := -1) hx hb hown (ht _ mw_38_14) dX6_hope_18 ?_
      exact ret _ () _ _ _ _ dX6_hope_21 h hP hD hS
    · replace h := h.2 c7
      refine lv_iload_n hx hb dX6_hope_10 rfl (lv_at hl 2 rfl) ?_
      refine lv_iconst (v := 2) hx hb dX6_hope_11 (by decide) ?_
      refine C_si (wr := [0, 1, 2, 3, 4, 5, 6, 7, 8, 9].filterMap (fun i => (wX6 o q F ++ wX2 cI cZ (q 0) qn Fn An : va_W)[i]?)) X hP hD hS [.int x2, .int (2 : Int32)] [] (w_X6_within l D cI cZ cR adK adV _ x2 (2 : Int32) _ h) cal_X6_within mw_15_9 rfl [] [0, 1, 2, 3, 4, 5, 6, 7, 8, 9] [0, 1, 2, 3, 4, 5, 6, 7, 8, 9] (fun u => (wX6 o q F ++ wX2 cI cZ (q 0) qn Fn An : va_W)) rfl rfl (fun _ => rfl) rfl ⟨rfl, rfl⟩ ⟨Nat.le_of_ble_eq_true rfl, Nat.le_of_ble_eq_true rfl⟩ hl.1 rfl (Nat.le_of_ble_eq_true rfl) ⟨Nat.zero_le _, Nat.zero_le _⟩ dX6_hope_12 (fun r12 u H locs h hP hD hS => ?_)
      refine lv_if_ne (tgt := 22) hx hb dX6_hope_15 (by decide) (fun c15 => ?_) (fun c15 => ?_)
      · replace h := h.1 c15
        refine lv_iload_n hx hb dX6_hope_22 rfl (lv_at hl 1 rfl) ?_
        refine lv_i2l (v := (x1).toInt64) hx hb dX6_hope_23 rfl ?_
        refine lv_aload_n hx hb dX6_hope_24 rfl (lv_at hl 0 rfl) ?_
        refine va_get (C := RX6) (T := TX6) (N := 13) (own := RX6) (v := .ref (q 0)) hx hb ht inlX6 hown hK hP 0 rfl rfl 0 (Nat.le_of_ble_eq_true rfl) (ht _ mw_1_16) (fun _ h9 => h9) rfl dX6_hope_25 ?_
        refine va_get (C := RX2) (T := TX2) (N := 13) (own := RX6) (v := .ref (qn 0)) hx hb ht inlX2 hown hK hP 1 rfl rfl 0 (Nat.le_of_ble_eq_true rfl) (ht _ mw_15_8) (fun _ h9 => h9) rfl dX6_hope_28 ?_
        refine lv_iconst (v := 3) hx hb dX6_hope_31 (by decide) ?_
        refine g_iald (f := (An 0)) (k := 3) hx hb hK hP 2 0 rfl rfl (vp_in_lit rfl : vp_in (3 : Int32) 4) (by decide) dX6_hope_32 ?_
        refine lv_i2l (v := (((An 0) 3)).toInt64) hx hb dX6_hope_33 rfl ?_
        refine lv_lmul hx hb dX6_hope_34 ?_
        refine lv_ldc2 (v := 100) hx hb hown (ht _ mw_40_20) dX6_hope_35 ?_
        refine lv_iload_n hx hb dX6_hope_38 rfl (lv_at hl 2 rfl) ?_
        refine C_sl (wr := [0, 1, 2, 3, 4, 5, 6, 7, 8, 9].filterMap (fun i => (wX6 o q F ++ wX2 cI cZ (q 0) qn Fn An : va_W)[i]?)) X hP hD hS [.long ((x1).toInt64 * (((An 0) 3)).toInt64), .long (100 : Int64), .int x2] [] (w_X6_partOf l D cI cZ cR adK adV _ ((x1).toInt64 * (((An 0) 3)).toInt64) (100 : Int64) x2 _ h) cal_X6_partOf mw_39_3 rfl [] [0, 1, 2, 3, 4, 5, 6, 7, 8, 9] [0, 1, 2, 3, 4, 5, 6, 7, 8, 9] (fun u => (wX6 o q F ++ wX2 cI cZ (q 0) qn Fn An : va_W)) rfl rfl (fun _ => rfl) rfl ⟨rfl, rfl⟩ ⟨Nat.le_of_ble_eq_true rfl, Nat.le_of_ble_eq_true rfl⟩ hl.1 rfl (Nat.le_of_ble_eq_true rfl) ⟨Nat.zero_le _, Nat.zero_le _⟩ dX6_hope_39 (fun r39 u H locs h hP hD hS => ?_)
        exact ret _ () _ _ _ _ dX6_hope_42 h hP hD hS
      · replace h := h.2 c15
        refine lv_ldc2 (v := -1) hx hb hown (ht _ mw_38_14) dX6_hope_18 ?_
        exact ret _ () _ _ _ _ dX6_hope_21 h hP hD hS
theorem dX6_prove_0 : decode cX6_prove 0 = .ok (.aload_n 0, 1) := by decide +kernel
theorem dX6_prove_1 : decode cX6_prove 1 = .ok (.iload_n 1, 1) := by decide +kernel
theorem dX6_prove_2 : decode cX6_prove 2 = .ok (.invokevirtual 114, 3) := by decide +kernel
theorem dX6_prove_5 : decode cX6_prove 5 = .ok (.ifCond .eq 14, 3) := by decide +kernel
theorem dX6_prove_8 : decode cX6_prove 8 = .ok (.iload_n 2, 1) := by decide +kernel
theorem dX6_prove_9 : decode cX6_prove 9 = .ok (.iconst 1, 1) := by decide +kernel
theorem dX6_prove_10 : decode cX6_prove 10 = .ok (.if_icmp .lt 9, 3) := by decide +kernel
theorem dX6_prove_13 : decode cX6_prove 13 = .ok (.iload_n 2, 1) := by decide +kernel
theorem dX6_prove_14 : decode cX6_prove 14 = .ok (.bipush 10, 2) := by decide +kernel
theorem dX6_prove_16 : decode cX6_prove 16 = .ok (.if_icmp .le 5, 3) := by decide +kernel
theorem dX6_prove_19 : decode cX6_prove 19 = .ok (.iconst (-1), 1) := by decide +kernel
theorem dX6_prove_20 : decode cX6_prove 20 = .ok (.ireturn, 1) := by decide +kernel
theorem dX6_prove_21 : decode cX6_prove 21 = .ok (.aload_n 0, 1) := by decide +kernel
theorem dX6_prove_22 : decode cX6_prove 22 = .ok (.getfield 16, 3) := by decide +kernel
theorem dX6_prove_25 : decode cX6_prove 25 = .ok (.aload_n 0, 1) := by decide +kernel
theorem dX6_prove_26 : decode cX6_prove 26 = .ok (.getfield 10, 3) := by decide +kernel
theorem dX6_prove_29 : decode cX6_prove 29 = .ok (.invokevirtual 81, 3) := by decide +kernel
theorem dX6_prove_32 : decode cX6_prove 32 = .ok (.iconst 0, 1) := by decide +kernel
theorem dX6_prove_33 : decode cX6_prove 33 = .ok (.istore_n 3, 1) := by decide +kernel
theorem dX6_prove_34 : decode cX6_prove 34 = .ok (.iload_n 3, 1) := by decide +kernel
theorem dX6_prove_35 : decode cX6_prove 35 = .ok (.iload_n 2, 1) := by decide +kernel
theorem dX6_prove_36 : decode cX6_prove 36 = .ok (.if_icmp .ge 68, 3) := by decide +kernel
theorem dX6_prove_39 : decode cX6_prove 39 = .ok (.aload_n 0, 1) := by decide +kernel
theorem dX6_prove_40 : decode cX6_prove 40 = .ok (.getfield 16, 3) := by decide +kernel
theorem dX6_prove_43 : decode cX6_prove 43 = .ok (.invokevirtual 177, 3) := by decide +kernel
theorem dX6_prove_46 : decode cX6_prove 46 = .ok (.aload_n 0, 1) := by decide +kernel
theorem dX6_prove_47 : decode cX6_prove 47 = .ok (.getfield 54, 3) := by decide +kernel
theorem dX6_prove_50 : decode cX6_prove 50 = .ok (.iload_n 3, 1) := by decide +kernel
theorem dX6_prove_51 : decode cX6_prove 51 = .ok (.iconst 3, 1) := by decide +kernel
theorem dX6_prove_52 : decode cX6_prove 52 = .ok (.imul, 1) := by decide +kernel
theorem dX6_prove_53 : decode cX6_prove 53 = .ok (.aload_n 0, 1) := by decide +kernel
theorem dX6_prove_54 : decode cX6_prove 54 = .ok (.getfield 16, 3) := by decide +kernel
theorem dX6_prove_57 : decode cX6_prove 57 = .ok (.getfield 123, 3) := by decide +kernel
theorem dX6_prove_60 : decode cX6_prove 60 = .ok (.iload_n 1, 1) := by decide +kernel
theorem dX6_prove_61 : decode cX6_prove 61 = .ok (.iaload, 1) := by decide +kernel
theorem dX6_prove_62 : decode cX6_prove 62 = .ok (.iastore, 1) := by decide +kernel
theorem dX6_prove_63 : decode cX6_prove 63 = .ok (.aload_n 0, 1) := by decide +kernel
theorem dX6_prove_64 : decode cX6_prove 64 = .ok (.getfield 54, 3) := by decide +kernel
theorem dX6_prove_67 : decode cX6_prove 67 = .ok (.iload_n 3, 1) := by decide +kernel
theorem dX6_prove_68 : decode cX6_prove 68 = .ok (.iconst 3, 1) := by decide +kernel
theorem dX6_prove_69 : decode cX6_prove 69 = .ok (.imul, 1) := by decide +kernel
theorem dX6_prove_70 : decode cX6_prove 70 = .ok (.iconst 1, 1) := by decide +kernel
theorem dX6_prove_71 : decode cX6_prove 71 = .ok (.iadd, 1) := by decide +kernel
theorem dX6_prove_72 : decode cX6_prove 72 = .ok (.aload_n 0, 1) := by decide +kernel
theorem dX6_prove_73 : decode cX6_prove 73 = .ok (.getfield 16, 3) := by decide +kernel
theorem dX6_prove_76 : decode cX6_prove 76 = .ok (.iload_n 1, 1) := by decide +kernel
theorem dX6_prove_77 : decode cX6_prove 77 = .ok (.invokevirtual 132, 3) := by decide +kernel
theorem dX6_prove_80 : decode cX6_prove 80 = .ok (.iastore, 1) := by decide +kernel
theorem dX6_prove_81 : decode cX6_prove 81 = .ok (.aload_n 0, 1) := by decide +kernel
theorem dX6_prove_82 : decode cX6_prove 82 = .ok (.getfield 54, 3) := by decide +kernel
theorem dX6_prove_85 : decode cX6_prove 85 = .ok (.iload_n 3, 1) := by decide +kernel
theorem dX6_prove_86 : decode cX6_prove 86 = .ok (.iconst 3, 1) := by decide +kernel
theorem dX6_prove_87 : decode cX6_prove 87 = .ok (.imul, 1) := by decide +kernel
theorem dX6_prove_88 : decode cX6_prove 88 = .ok (.iconst 2, 1) := by decide +kernel
theorem dX6_prove_89 : decode cX6_prove 89 = .ok (.iadd, 1) := by decide +kernel
theorem dX6_prove_90 : decode cX6_prove 90 = .ok (.aload_n 0, 1) := by decide +kernel
theorem dX6_prove_91 : decode cX6_prove 91 = .ok (.getfield 16, 3) := by decide +kernel
theorem dX6_prove_94 : decode cX6_prove 94 = .ok (.getfield 157, 3) := by decide +kernel
theorem dX6_prove_97 : decode cX6_prove 97 = .ok (.iastore, 1) := by decide +kernel
theorem dX6_prove_98 : decode cX6_prove 98 = .ok (.iinc 3 1, 3) := by decide +kernel
theorem dX6_prove_101 : decode cX6_prove 101 = .ok (.goto (-67), 3) := by decide +kernel
theorem dX6_prove_104 : decode cX6_prove 104 = .ok (.aload_n 0, 1) := by decide +kernel
theorem dX6_prove_105 : decode cX6_prove 105 = .ok (.iload_n 2, 1) := by decide +kernel
theorem dX6_prove_106 : decode cX6_prove 106 = .ok (.putfield 58, 3) := by decide +kernel
theorem dX6_prove_109 : decode cX6_prove 109 = .ok (.iload_n 2, 1) := by decide +kernel
theorem dX6_prove_110 : decode cX6_prove 110 = .ok (.ireturn, 1) := by decide +kernel
def p_X6_prove_L34 (F : tF) (Fn : tF) (An : tA) (x1 : Int32) (x2 : Int32) (K : Int32 → tF → tF → tA → tF → Prop) : Nat → tF → tA → tF → Int32 → Prop
  | 0, _, _, _, _ => False
  | n34 + 1, Ft, At, fr, x3 => ((x2 ≤ x3 → (K x2 (upd F 9 x2) Ft At fr)) ∧ (¬ x2 ≤ x3 → (p_X2_passDay Ft At (fun Ft_43 At_43 => (vp_in x1 8 ∧ (vp_in (x3 * (3 : Int32)) 30 ∧ (∀ f_62 : tF, f_62 = (upd fr ((x3 * (3 : Int32))).toNatClampNeg ((At_43 5) (x1).toNatClampNeg)) → (p_X2_voteOf Ft_43 At_43 x1 (fun r77 => (vp_in ((x3 * (3 : Int32)) + (1 : Int32)) 30 ∧ (∀ f_80 : tF, f_80 = (upd f_62 (((x3 * (3 : Int32)) + (1 : Int32))).toNatClampNeg r77) → (vp_in ((x3 * (3 : Int32)) + (2 : Int32)) 30 ∧ (∀ f_97 : tF, f_97 = (upd f_80 (((x3 * (3 : Int32)) + (2 : Int32))).toNatClampNeg (Ft_43 9)) → (∀ y98 : Int32, y98 = (x3 + (1 : Int32)) → ((p_X6_prove_L34 F Fn An x1 x2 K n34) Ft_43 At_43 f_97 y98)))))))))))))))
set_option maxHeartbeats 4000000 in
set_option maxRecDepth 100000 in
theorem b_X6_prove_L34 {p : Program} {l : Launch} {e : Env} {s : State} {m : MethodId} {args : Array Value} {below : List Frame} {meth : Method} {c : Code} {Q : State → Prop} {D : va_G} {cI cZ cR : ClassId} {adK adV : Nat → Nat} {A9 : Nat → Prop} {o : Nat} {q : Nat → Nat} {qn : Nat → Nat} {qt : Nat → Nat} {K : Int32 → tF → tF → tA → tF → Prop}  (F : tF) (Fn : tF) (An : tA) (x1 : Int32) (x2 : Int32) (X : CX p s m args c yX6_prove.cls cX6_prove 4 D cI cZ cR adK adV A9) (ret : RTi p l e (rmN 5 193) s m args below meth c Q cX6_prove D A9 (fun (r : Int32) (u : tF × (tF × tA) × tF) => K r u.1 u.2.1.1 u.2.1.2 u.2.2) (fun (u : tF × (tF × tA) × tF) => (wX6 o q u.1 ++ wX2 cI cZ (q 0) qn Fn An ++ wX2 cI cZ (q 1) qt u.2.1.1 u.2.1.2 ++ wI cI (q 8) 30 u.2.2 : va_W)))   : ∀ (n : Nat) (Ft : tF) (At : tA) (fr : tF) (x3 : Int32) (H : Heap) (locs : List Loc) (ls : Array Slot), p_X6_prove_L34 F Fn An x1 x2 K n Ft At fr x3 → va_P D vwCl (wX6 o q F ++ wX2 cI cZ (q 0) qn Fn An ++ wX2 cI cZ (q 1) qt Ft At ++ wI cI (q 8) 30 fr : va_W) H → va_D A9 (wX6 o q F ++ wX2 cI cZ (q 0) qn Fn An ++ wX2 cI cZ (q 1) qt Ft At ++ wI cI (q 8) 30 fr : va_W) → va_S A9 s.heap H locs → lv_has ls 4 [(0, .ref o), (1, .int x1), (2, .int x2), (3, .int x3)] → W p l e (rmN 5 193) s m args below meth c H locs 0 0 Q (F0 m 34 ls []) := by
  obtain ⟨hx, hb, hml, ht, hown, hK, hA, hE⟩ := id X
  intro n
  induction n with
  | zero => intro Ft At fr x3 H locs ls h; exact False.elim h
  | succ n34 ih =>
    intro Ft At fr x3 H locs ls h hP hD hS hl
    rw [p_X6_prove_L34] at h
    refine lv_iload_n hx hb dX6_prove_34 rfl (lv_at hl 3 rfl) ?_
    refine lv_iload_n hx hb dX6_prove_35 rfl (lv_at hl 2 rfl) ?_
    refine lv_icmp_ge (tgt := 104) hx hb dX6_prove_36 (by decide) (fun c36 => ?_) (fun c36 => ?_)
    · replace h := h.1 c36
      refine lv_aload_n hx hb dX6_prove_104 rfl (lv_at hl 0 rfl) ?_
      refine lv_iload_n hx hb dX6_prove_105 rfl (lv_at hl 2 rfl) ?_
      refine va_put (C := RX6) (T := TX6) (N := 13) (own := RX6) (v := .int x2) hx hb ht inlX6 tyX6 tyX6_ok nmX6 hown hK hP hD hS 0 rfl rfl 9 (Nat.le_of_ble_eq_true rfl) (ht _ mw_2_14) (fun _ h9 => h9) rfl (tyX6_ok 9 (Nat.le_of_ble_eq_true rfl)) rfl rfl (Nat.le_of_ble_eq_true rfl) dX6_prove_106 (fun H locs hP hD hS => ?_)
      have hP : va_P D vwCl (wX6 o q (upd F 9 x2) ++ wX2 cI cZ (q 0) qn Fn An ++ wX2 cI cZ (q 1) qt Ft At ++ wI cI (q 8) 30 fr : va_W) H := hP
      have hD : va_D A9 (wX6 o q (upd F 9 x2) ++ wX2 cI cZ (q 0) qn Fn An ++ wX2 cI cZ (q 1) qt Ft At ++ wI cI (q 8) 30 fr : va_W) := hD
      refine lv_iload_n hx hb dX6_prove_109 rfl (lv_at hl 2 rfl) ?_
      exact ret _ ((upd F 9 x2), (Ft, At), fr) _ _ _ _ dX6_prove_110 h hP hD hS
    · replace h := h.2 c36
      refine lv_aload_n hx hb dX6_prove_39 rfl (lv_at hl 0 rfl) ?_
      refine va_get (C := RX6) (T := TX6) (N := 13) (own := RX6) (v := .ref (q 1)) hx hb ht inlX6 hown hK hP 0 rfl rfl 1 (Nat.le_of_ble_eq_true rfl) (ht _ mw_1_17) (fun _ h9 => h9) rfl dX6_prove_40 ?_
      refine C_vv (wr := [0, 1, 2, 3, 4, 5, 6, 7, 8, 9, 19].filterMap (fun i => (wX6 o q F ++ wX2 cI cZ (q 0) qn Fn An ++ wX2 cI cZ (q 1) qt Ft At ++ wI cI (q 8) 30 fr : va_W)[i]?)) X hP hD hS [] [] (w_X2_passDay l D cI cZ cR adK adV _ (q 1) qt Ft At _ h) cal_X2_passDay mw_27_18 rfl [10, 11, 12, 13, 14, 15, 16, 17, 18] [0, 1, 2, 3, 4, 5, 6, 7, 8, 9, 19] [0, 1, 2, 3, 4, 5, 6, 7, 8, 9, 11, 12, 13, 14, 15, 16, 17, 18, 19, 10] (fun u => (wX6 o q F ++ wX2 cI cZ (q 0) qn Fn An ++ wX2 cI cZ (q 1) qt u.1 u.2 ++ wI cI (q 8) 30 fr : va_W)) rfl rfl (fun _ => rfl) rfl 10 rfl rfl ⟨rfl, rfl⟩ ⟨Nat.le_of_ble_eq_true rfl, Nat.le_of_ble_eq_true rfl⟩ hl.1 rfl (Nat.le_of_ble_eq_true rfl) ⟨Nat.zero_le _, Nat.zero_le _⟩ dX6_prove_43 (fun u H locs h hP hD hS => ?_)
      obtain ⟨Ft_43, At_43⟩ := u
      try dsimp only at h
      have hP : va_P D vwCl (wX6 o q F ++ wX2 cI cZ (q 0) qn Fn An ++ wX2 cI cZ (q 1) qt Ft_43 At_43 ++ wI cI (q 8) 30 fr : va_W) H := hP
      have hD : va_D A9 (wX6 o q F ++ wX2 cI cZ (q 0) qn Fn An ++ wX2 cI cZ (q 1) qt Ft_43 At_43 ++ wI cI (q 8) 30 fr : va_W) := hD
      refine lv_aload_n hx hb dX6_prove_46 rfl (lv_at hl 0 rfl) ?_
      refine va_get (C := RX6) (T := TX6) (N := 13) (own := RX6) (v := .ref (q 8)) hx hb ht inlX6 hown hK hP 0 rfl rfl 8 (Nat.le_of_ble_eq_true rfl) (ht _ mw_2_13) (fun _ h9 => h9) rfl dX6_prove_47 ?_
      refine lv_iload_n hx hb dX6_prove_50 rfl (lv_at hl 3 rfl) ?_
      refine lv_iconst (v := 3) hx hb dX6_prove_51 (by decide) ?_
      refine lv_imul hx hb dX6_prove_52 ?_
      refine lv_aload_n hx hb dX6_prove_53 rfl (lv_at hl 0 rfl) ?_
      refine va_get (C := RX6) (T := TX6) (N := 13) (own := RX6) (v := .ref (q 1)) hx hb ht inlX6 hown hK hP 0 rfl rfl 1 (Nat.le_of_ble_eq_true rfl) (ht _ mw_1_17) (fun _ h9 => h9) rfl dX6_prove_54 ?_
      refine va_get (C := RX2) (T := TX2) (N := 13) (own := RX6) (v := .ref (qt 5)) hx hb ht inlX2 hown hK hP 10 rfl rfl 5 (Nat.le_of_ble_eq_true rfl) (ht _ mw_17_6) (fun _ h9 => h9) rfl dX6_prove_57 ?_
      refine lv_iload_n hx hb dX6_prove_60 rfl (lv_at hl 1 rfl) ?_
      obtain ⟨hi61, h⟩ := h
      refine g_iald (f := (At_43 5)) (k := (x1).toNatClampNeg) hx hb hK hP 16 0 rfl rfl hi61 rfl dX6_prove_61 ?_
      obtain ⟨hi62, h⟩ := h
      obtain ⟨f_62, ef_62⟩ : ∃ z : tF, z = (upd fr ((x3 * (3 : Int32))).toNatClampNeg ((At_43 5) (x1).toNatClampNeg)) := ⟨_, rfl⟩
      replace h := h f_62 ef_62
      refine g_iast (f := fr) (k := ((x3 * (3 : Int32))).toNatClampNeg) hx hb hK hP hD hS 19 0 rfl rfl hi62 rfl ef_62 dX6_prove_62 (fun H locs hP hD hS => ?_)
      have hP : va_P D vwCl (wX6 o q F ++ wX2 cI cZ (q 0) qn Fn An ++ wX2 cI cZ (q 1) qt Ft_43 At_43 ++ wI cI (q 8) 30 f_62 : va_W) H := hP
      have hD : va_D A9 (wX6 o q F ++ wX2 cI cZ (q 0) qn Fn An ++ wX2 cI cZ (q 1) qt Ft_43 At_43 ++ wI cI (q 8) 30 f_62 : va_W) := hD
      refine lv_aload_n hx hb dX6_prove_63 rfl (lv_at hl 0 rfl) ?_
      refine va_get (C := RX6) (T := TX6) (N := 13) (own := RX6) (v := .ref (q 8)) hx hb ht inlX6 hown hK hP 0 rfl rfl 8 (Nat.le_of_ble_eq_true rfl) (ht _ mw_2_13) (fun _ h9 => h9) rfl dX6_prove_64 ?_
      refine lv_iload_n hx hb dX6_prove_67 rfl (lv_at hl 3 rfl) ?_
      refine lv_iconst (v := 3) hx hb dX6_prove_68 (by decide) ?_
      refine lv_imul hx hb dX6_prove_69 ?_
      refine lv_iconst (v := 1) hx hb dX6_prove_70 (by decide) ?_
      refine lv_iadd hx hb dX6_prove_71 ?_
      refine lv_aload_n hx hb dX6_prove_72 rfl (lv_at hl 0 rfl) ?_
      refine va_get (C := RX6) (T := TX6) (N := 13) (own := RX6) (v := .ref (q 1)) hx hb ht inlX6 hown hK hP 0 rfl rfl 1 (Nat.le_of_ble_eq_true rfl) (ht _ mw_1_17) (fun _ h9 => h9) rfl dX6_prove_73 ?_
      refine lv_iload_n hx hb dX6_prove_76 rfl (lv_at hl 1 rfl) ?_
      refine C_vi (wr := [0, 1, 2, 3, 4, 5, 6, 7, 8, 9, 19].filterMap (fun i => (wX6 o q F ++ wX2 cI cZ (q 0) qn Fn An ++ wX2 cI cZ (q 1) qt Ft_43 At_43 ++ wI cI (q 8) 30 f_62 : va_W)[i]?)) X hP hD hS [.int x1] [.int ((x3 * (3 : Int32)) + (1 : Int32)), .ref (q 8)] (w_X2_voteOf l D cI cZ cR adK adV _ (q 1) qt Ft_43 At_43 x1 _ h) cal_X2_voteOf mw_17_16 rfl [10, 11, 12, 13, 14, 15, 16, 17, 18] [0, 1, 2, 3, 4, 5, 6, 7, 8, 9, 19] [0, 1, 2, 3, 4, 5, 6, 7, 8, 9, 11, 12, 13, 14, 15, 16, 17, 18, 19, 10] (fun u => (wX6 o q F ++ wX2 cI cZ (q 0) qn Fn An ++ wX2 cI cZ (q 1) qt Ft_43 At_43 ++ wI cI (q 8) 30 f_62 : va_W)) rfl rfl (fun _ => rfl) rfl 10 rfl rfl ⟨rfl, rfl⟩ ⟨Nat.le_of_ble_eq_true rfl, Nat.le_of_ble_eq_true rfl⟩ hl.1 rfl (Nat.le_of_ble_eq_true rfl) ⟨Nat.zero_le _, Nat.zero_le _⟩ dX6_prove_77 (fun r77 u H locs h hP hD hS => ?_)
      obtain ⟨hi80, h⟩ := h
      obtain ⟨f_80, ef_80⟩ : ∃ z : tF, z = (upd f_62 (((x3 * (3 : Int32)) + (1 : Int32))).toNatClampNeg r77) := ⟨_, rfl⟩
      replace h := h f_80 ef_80
      refine g_iast (f := f_62) (k := (((x3 * (3 : Int32)) + (1 : Int32))).toNatClampNeg) hx hb hK hP hD hS 19 0 rfl rfl hi80 rfl ef_80 dX6_prove_80 (fun H locs hP hD hS => ?_)
      have hP : va_P D vwCl (wX6 o q F ++ wX2 cI cZ (q 0) qn Fn An ++ wX2 cI cZ (q 1) qt Ft_43 At_43 ++ wI cI (q 8) 30 f_80 : va_W) H := hP
      have hD : va_D A9 (wX6 o q F ++ wX2 cI cZ (q 0) qn Fn An ++ wX2 cI cZ (q 1) qt Ft_43 At_43 ++ wI cI (q 8) 30 f_80 : va_W) := hD
      refine lv_aload_n hx hb dX6_prove_81 rfl (lv_at hl 0 rfl) ?_
      refine va_get (C := RX6) (T := TX6) (N := 13) (own := RX6) (v := .ref (q 8)) hx hb ht inlX6 hown hK hP 0 rfl rfl 8 (Nat.le_of_ble_eq_true rfl) (ht _ mw_2_13) (fun _ h9 => h9) rfl dX6_prove_82 ?_
      refine lv_iload_n hx hb dX6_prove_85 rfl (lv_at hl 3 rfl) ?_
      refine lv_iconst (v := 3) hx hb dX6_prove_86 (by decide) ?_
      refine lv_imul hx hb dX6_prove_87 ?_
      refine lv_iconst (v := 2) hx hb dX6_prove_88 (by decide) ?_
      refine lv_iadd hx hb dX6_prove_89 ?_
      refine lv_aload_n hx hb dX6_prove_90 rfl (lv_at hl 0 rfl) ?_
      refine va_get (C := RX6) (T := TX6) (N := 13) (own := RX6) (v := .ref (q 1)) hx hb ht inlX6 hown hK hP 0 rfl rfl 1 (Nat.le_of_ble_eq_true rfl) (ht _ mw_1_17) (fun _ h9 => h9) rfl dX6_prove_91 ?_
      refine va_get (C := RX2) (T := TX2) (N := 13) (own := RX6) (v := .int (Ft_43 9)) hx hb ht inlX2 hown hK hP 10 rfl rfl 9 (Nat.le_of_ble_eq_true rfl) (ht _ mw_23_9) (fun _ h9 => h9) rfl dX6_prove_94 ?_
      obtain ⟨hi97, h⟩ := h
      obtain ⟨f_97, ef_97⟩ : ∃ z : tF, z = (upd f_80 (((x3 * (3 : Int32)) + (2 : Int32))).toNatClampNeg (Ft_43 9)) := ⟨_, rfl⟩
      replace h := h f_97 ef_97
      refine g_iast (f := f_80) (k := (((x3 * (3 : Int32)) + (2 : Int32))).toNatClampNeg) hx hb hK hP hD hS 19 0 rfl rfl hi97 rfl ef_97 dX6_prove_97 (fun H locs hP hD hS => ?_)
      have hP : va_P D vwCl (wX6 o q F ++ wX2 cI cZ (q 0) qn Fn An ++ wX2 cI cZ (q 1) qt Ft_43 At_43 ++ wI cI (q 8) 30 f_97 : va_W) H := hP
      have hD : va_D A9 (wX6 o q F ++ wX2 cI cZ (q 0) qn Fn An ++ wX2 cI cZ (q 1) qt Ft_43 At_43 ++ wI cI (q 8) 30 f_97 : va_W) := hD
      obtain ⟨y98, ey98⟩ : ∃ y : Int32, y = (x3 + (1 : Int32)) := ⟨_, rfl⟩
      replace h := h y98 ey98
      refine lv_iinc (v := y98) (lv' := [(3, .int y98), (0, .ref o), (1, .int x1), (2, .int x2)]) hx hb dX6_prove_98 hl (k := 3) rfl (by rw [ey98]; rfl) (by decide) rfl (fun ls hl => ?_)
      refine lv_goto (tgt := 34) hx hb dX6_prove_101 (by decide) ?_
      exact ih Ft_43 At_43 f_97 y98 _ _ _ h hP hD hS (lv_sub hl [1, 2, 3, 0] rfl)
def p_X6_prove (F : tF) (Fn : tF) (An : tA) (Ft : tF) (At : tA) (fr : tF) (x1 : Int32) (x2 : Int32) (K : Int32 → tF → tF → tA → tF → Prop) : Prop := (p_X6_isSheep F Fn An x1 (fun r2 => ((r2 = 0 → (K (-1 : Int32) F Ft At fr)) ∧ (¬ r2 = 0 → ((x2 < (1 : Int32) → (K (-1 : Int32) F Ft At fr)) ∧ (¬ x2 < (1 : Int32) → ((x2 ≤ (10 : Int32) → (p_X2_copyFrom Ft At Fn An (fun Ft_29 At_29 => (∃ n34, p_X6_prove_L34 F Fn An x1 x2 K n34 Ft_29 At_29 fr (0 : Int32))))) ∧ (¬ x2 ≤ (10 : Int32) → (K (-1 : Int32) F Ft At fr)))))))))
set_option maxHeartbeats 4000000 in
set_option maxRecDepth 100000 in
theorem w_X6_prove (l : Launch) (D : va_G) (cI cZ cR : ClassId) (adK adV : Nat → Nat) (sz : Nat) (o : Nat) (q : Nat → Nat) (qn : Nat → Nat) (qt : Nat → Nat) (F : tF) (Fn : tF) (An : tA) (Ft : tF) (At : tA) (fr : tF) (x1 : Int32) (x2 : Int32) (K : Int32 → tF → tF → tA → tF → Prop) (h : p_X6_prove F Fn An Ft At fr x1 x2 K) : MI l D cI cZ cR adK adV yX6_prove cX6_prove 4 (some .int) (rmN 5 193) [.ref o, .int x1, .int x2] (wX6 o q F ++ wX2 cI cZ (q 0) qn Fn An ++ wX2 cI cZ (q 1) qt Ft At ++ wI cI (q 8) 30 fr : va_W) sz (fun (r : Int32) (u : tF × (tF × tA) × tF) => K r u.1 u.2.1.1 u.2.1.2 u.2.2) (fun (u : tF × (tF × tA) × tF) => (wX6 o q u.1 ++ wX2 cI cZ (q 0) qn Fn An ++ wX2 cI cZ (q 1) qt u.2.1.1 u.2.1.2 ++ wI cI (q 8) 30 u.2.2 : va_W)) := by
  refine M_i (by decide +kernel) (Nat.le_of_ble_eq_true rfl) ?_
  intro p e s m args below meth c Q A9 ls X ret hP hD hS hl
  obtain ⟨hx, hb, hml, ht, hown, hK, hA, hE⟩ := id X
  have hl : lv_has ls 4 [(0, .ref o), (1, .int x1), (2, .int x2)] := hl
  unfold p_X6_prove at h
  refine lv_aload_n hx hb dX6_prove_0 rfl (lv_at hl 0 rfl) ?_
  refine lv_iload_n hx hb dX6_prove_1 rfl (lv_at hl 1 rfl) ?_
  refine C_vi (wr := [10, 11, 12, 13, 14, 15, 16, 17, 18, 19].filterMap (fun i => (wX6 o q F ++ wX2 cI cZ (q 0) qn Fn An ++ wX2 cI cZ (q 1) qt Ft At ++ wI cI (q 8) 30 fr : va_W)[i]?)) X hP hD hS [.int x1] [] (w_X6_isSheep l D cI cZ cR adK adV _ o q qn F Fn An x1 _ h) cal_X6_isSheep mw_17_8 rfl [0, 1, 2, 3, 4, 5, 6, 7, 8, 9] [10, 11, 12, 13, 14, 15, 16, 17, 18, 19] [10, 11, 12, 13, 14, 15, 16, 17, 18, 19, 0, 1, 2, 3, 4, 5, 6, 7, 8, 9] (fun u => (wX6 o q F ++ wX2 cI cZ (q 0) qn Fn An ++ wX2 cI cZ (q 1) qt Ft At ++ wI cI (q 8) 30 fr : va_W)) rfl rfl (fun _ => rfl) rfl 0 rfl rfl ⟨rfl, rfl⟩ ⟨Nat.le_of_ble_eq_true rfl, Nat.le_of_ble_eq_true rfl⟩ hl.1 rfl (Nat.le_of_ble_eq_true rfl) ⟨Nat.zero_le _, Nat.zero_le _⟩ dX6_prove_2 (fun r2 u H locs h hP hD hS => ?_)
  refine lv_if_eq (tgt := 19) hx hb dX6_prove_5 (by decide) (fun c5 => ?_) (fun c5 => ?_)
  · replace h := h.1 c5
    refine lv_iconst (v := -1) hx hb dX6_prove_19 (by decide) ?_
    exact ret _ (F, (Ft, At), fr) _ _ _ _ dX6_prove_20 h hP hD hS
  · replace h := h.2 c5
    refine lv_iload_n hx hb dX6_prove_8 rfl (lv_at hl 2 rfl) ?_
    refine lv_iconst (v := 1) hx hb dX6_prove_9 (by decide) ?_
    refine lv_icmp_lt (tgt := 19) hx hb dX6_prove_10 (by decide) (fun c10 => ?_) (fun c10 => ?_)
    · replace h := h.1 c10
      refine lv_iconst (v := -1) hx hb dX6_prove_19 (by decide) ?_
      exact ret _ (F, (Ft, At), fr) _ _ _ _ dX6_prove_20 h hP hD hS
    · replace h := h.2 c10
      refine lv_iload_n hx hb dX6_prove_13 rfl (lv_at hl 2 rfl) ?_
      refine lv_bipush (v := 10) hx hb dX6_prove_14 (by decide) ?_
      refine lv_icmp_le (tgt := 21) hx hb dX6_prove_16 (by decide) (fun c16 => ?_) (fun c16 => ?_)
      · replace h := h.1 c16
        refine lv_aload_n hx hb dX6_prove_21 rfl (lv_at hl 0 rfl) ?_
        refine va_get (C := RX6) (T := TX6) (N := 13) (own := RX6) (v := .ref (q 1)) hx hb ht inlX6 hown hK hP 0 rfl rfl 1 (Nat.le_of_ble_eq_true rfl) (ht _ mw_1_17) (fun _ h9 => h9) rfl dX6_prove_22 ?_
        refine lv_aload_n hx hb dX6_prove_25 rfl (lv_at hl 0 rfl) ?_
        refine va_get (C := RX6) (T := TX6) (N := 13) (own := RX6) (v := .ref (q 0)) hx hb ht inlX6 hown hK hP 0 rfl rfl 0 (Nat.le_of_ble_eq_true rfl) (ht _ mw_1_16) (fun _ h9 => h9) rfl dX6_prove_26 ?_
        refine C_vv (wr := [0, 19].filterMap (fun i => (wX6 o q F ++ wX2 cI cZ (q 0) qn Fn An ++ wX2 cI cZ (q 1) qt Ft At ++ wI cI (q 8) 30 fr : va_W)[i]?)) X hP hD hS [.ref (q 0)] [] (w_X2_copyFrom l D cI cZ cR adK adV _ (q 1) qt (q 0) qn Ft At Fn An _ h) cal_X2_copyFrom mw_7_3 rfl [10, 11, 12, 13, 14, 15, 16, 17, 18, 1, 2, 3, 4, 5, 6, 7, 8, 9] [0, 19] [0, 11, 12, 13, 14, 15, 16, 17, 18, 19, 2, 3, 4, 5, 6, 7, 8, 9, 10, 1] (fun u => (wX6 o q F ++ wX2 cI cZ (q 0) qn Fn An ++ wX2 cI cZ (q 1) qt u.1 u.2 ++ wI cI (q 8) 30 fr : va_W)) rfl rfl (fun _ => rfl) rfl 10 rfl rfl ⟨rfl, rfl⟩ ⟨Nat.le_of_ble_eq_true rfl, Nat.le_of_ble_eq_true rfl⟩ hl.1 rfl (Nat.le_of_ble_eq_true rfl) ⟨Nat.zero_le _, Nat.zero_le _⟩ dX6_prove_29 (fun u H locs h hP hD hS => ?_)
        obtain ⟨Ft_29, At_29⟩ := u
        try dsimp only at h
        have hP : va_P D vwCl (wX6 o q F ++ wX2 cI cZ (q 0) qn Fn An ++ wX2 cI cZ (q 1) qt Ft_29 At_29 ++ wI cI (q 8) 30 fr : va_W) H := hP
        have hD : va_D A9 (wX6 o q F ++ wX2 cI cZ (q 0) qn Fn An ++ wX2 cI cZ (q 1) qt Ft_29 At_29 ++ wI cI (q 8) 30 fr : va_W) := hD
        refine lv_iconst (v := 0) hx hb dX6_prove_32 (by decide) ?_
        refine lv_istore_n (lv' := [(3, .int (0 : Int32)), (0, .ref o), (1, .int x1), (2, .int x2)]) hx hb dX6_prove_33 rfl hl (by decide) rfl (fun ls hl => ?_)
        obtain ⟨n34, h⟩ := h
        exact b_X6_prove_L34 F Fn An x1 x2 X ret  n34 Ft_29 At_29 fr (0 : Int32) _ _ _ h hP hD hS (lv_sub hl [1, 2, 3, 0] rfl)
      · replace h := h.2 c16
        refine lv_iconst (v := -1) hx hb dX6_prove_19 (by decide) ?_
        exact ret _ (F, (Ft, At), fr) _ _ _ _ dX6_prove_20 h hP hD hS
theorem dX6_row_0 : decode cX6_row 0 = .ok (.iload_n 1, 1) := by decide +kernel
theorem dX6_row_1 : decode cX6_row 1 = .ok (.aload_n 0, 1) := by decide +kernel
theorem dX6_row_2 : decode cX6_row 2 = .ok (.getfield 58, 3) := by decide +kernel
theorem dX6_row_5 : decode cX6_row 5 = .ok (.invokestatic 95, 3) := by decide +kernel
theorem dX6_row_8 : decode cX6_row 8 = .ok (.ifCond .eq 24, 3) := by decide +kernel
theorem dX6_row_11 : decode cX6_row 11 = .ok (.iload_n 2, 1) := by decide +kernel
theorem dX6_row_12 : decode cX6_row 12 = .ok (.iconst 3, 1) := by decide +kernel
theorem dX6_row_13 : decode cX6_row 13 = .ok (.invokestatic 95, 3) := by decide +kernel
theorem dX6_row_16 : decode cX6_row 16 = .ok (.ifCond .eq 16, 3) := by decide +kernel
theorem dX6_row_19 : decode cX6_row 19 = .ok (.aload_n 0, 1) := by decide +kernel
theorem dX6_row_20 : decode cX6_row 20 = .ok (.getfield 54, 3) := by decide +kernel
theorem dX6_row_23 : decode cX6_row 23 = .ok (.iload_n 1, 1) := by decide +kernel
theorem dX6_row_24 : decode cX6_row 24 = .ok (.iconst 3, 1) := by decide +kernel
theorem dX6_row_25 : decode cX6_row 25 = .ok (.imul, 1) := by decide +kernel
theorem dX6_row_26 : decode cX6_row 26 = .ok (.iload_n 2, 1) := by decide +kernel
theorem dX6_row_27 : decode cX6_row 27 = .ok (.iadd, 1) := by decide +kernel
theorem dX6_row_28 : decode cX6_row 28 = .ok (.iaload, 1) := by decide +kernel
theorem dX6_row_29 : decode cX6_row 29 = .ok (.goto 5, 3) := by decide +kernel
theorem dX6_row_32 : decode cX6_row 32 = .ok (.bipush (-9), 2) := by decide +kernel
theorem dX6_row_34 : decode cX6_row 34 = .ok (.ireturn, 1) := by decide +kernel
def p_X6_row (F : tF) (fr : tF) (x1 : Int32) (x2 : Int32) (K : Int32 → Prop) : Prop := (p_X6_within x1 (F 9) (fun r5 => ((r5 = 0 → (K (-9 : Int32))) ∧ (¬ r5 = 0 → (p_X6_within x2 (3 : Int32) (fun r13 => ((r13 = 0 → (K (-9 : Int32))) ∧ (¬ r13 = 0 → (vp_in ((x1 * (3 : Int32)) + x2) 30 ∧ (K (fr (((x1 * (3 : Int32)) + x2)).toNatClampNeg)))))))))))
set_option maxHeartbeats 4000000 in
set_option maxRecDepth 100000 in
theorem w_X6_row (l : Launch) (D : va_G) (cI cZ cR : ClassId) (adK adV : Nat → Nat) (sz : Nat) (o : Nat) (q : Nat → Nat) (F : tF) (fr : tF) (x1 : Int32) (x2 : Int32) (K : Int32 → Prop) (h : p_X6_row F fr x1 x2 K) : MI l D cI cZ cR adK adV yX6_row cX6_row 3 (some .int) (rmN 1 21) [.ref o, .int x1, .int x2] (wX6 o q F ++ wI cI (q 8) 30 fr : va_W) sz (fun (r : Int32) (u : Unit) => K r) (fun (u : Unit) => (wX6 o q F ++ wI cI (q 8) 30 fr : va_W)) := by
  refine M_i (by decide +kernel) (Nat.le_of_ble_eq_true rfl) ?_
  intro p e s m args below meth c Q A9 ls X ret hP hD hS hl
  obtain ⟨hx, hb, hml, ht, hown, hK, hA, hE⟩ := id X
  have hl : lv_has ls 3 [(0, .ref o), (1, .int x1), (2, .int x2)] := hl
  unfold p_X6_row at h
  refine lv_iload_n hx hb dX6_row_0 rfl (lv_at hl 1 rfl) ?_
  refine lv_aload_n hx hb dX6_row_1 rfl (lv_at hl 0 rfl) ?_
  refine va_get (C := RX6) (T := TX6) (N := 13) (own := RX6) (v := .int (F 9)) hx hb ht inlX6 hown hK hP 0 rfl rfl 9 (Nat.le_of_ble_eq_true rfl) (ht _ mw_2_14) (fun _ h9 => h9) rfl dX6_row_2 ?_
  refine C_si (wr := [0, 1].filterMap (fun i => (wX6 o q F ++ wI cI (q 8) 30 fr : va_W)[i]?)) X hP hD hS [.int x1, .int (F 9)] [] (w_X6_within l D cI cZ cR adK adV _ x1 (F 9) _ h) cal_X6_within mw_15_9 rfl [] [0, 1] [0, 1] (fun u => (wX6 o q F ++ wI cI (q 8) 30 fr : va_W)) rfl rfl (fun _ => rfl) rfl ⟨rfl, rfl⟩ ⟨Nat.le_of_ble_eq_true rfl, Nat.le_of_ble_eq_true rfl⟩ hl.1 rfl (Nat.le_of_ble_eq_true rfl) ⟨Nat.zero_le _, Nat.zero_le _⟩ dX6_row_5 (fun r5 u H locs h hP hD hS => ?_)
  refine lv_if_eq (tgt := 32) hx hb dX6_row_8 (by decide) (fun c8 => ?_) (fun c8 => ?_)
  · replace h := h.1 c8
    refine lv_bipush (v := -9) hx hb dX6_row_32 (by decide) ?_
    exact ret _ () _ _ _ _ dX6_row_34 h hP hD hS
  · replace h := h.2 c8
    refine lv_iload_n hx hb dX6_row_11 rfl (lv_at hl 2 rfl) ?_
    refine lv_iconst (v := 3) hx hb dX6_row_12 (by decide) ?_
    refine C_si (wr := [0, 1].filterMap (fun i => (wX6 o q F ++ wI cI (q 8) 30 fr : va_W)[i]?)) X hP hD hS [.int x2, .int (3 : Int32)] [] (w_X6_within l D cI cZ cR adK adV _ x2 (3 : Int32) _ h) cal_X6_within mw_15_9 rfl [] [0, 1] [0, 1] (fun u => (wX6 o q F ++ wI cI (q 8) 30 fr : va_W)) rfl rfl (fun _ => rfl) rfl ⟨rfl, rfl⟩ ⟨Nat.le_of_ble_eq_true rfl, Nat.le_of_ble_eq_true rfl⟩ hl.1 rfl (Nat.le_of_ble_eq_true rfl) ⟨Nat.zero_le _, Nat.zero_le _⟩ dX6_row_13 (fun r13 u H locs h hP hD hS => ?_)
    refine lv_if_eq (tgt := 32) hx hb dX6_row_16 (by decide) (fun c16 => ?_) (fun c16 => ?_)
    · replace h := h.1 c16
      refine lv_bipush (v := -9) hx hb dX6_row_32 (by decide) ?_
      exact ret _ () _ _ _ _ dX6_row_34 h hP hD hS
    · replace h := h.2 c16
      refine lv_aload_n hx hb dX6_row_19 rfl (lv_at hl 0 rfl) ?_
      refine va_get (C := RX6) (T := TX6) (N := 13) (own := RX6) (v := .ref (q 8)) hx hb ht inlX6 hown hK hP 0 rfl rfl 8 (Nat.le_of_ble_eq_true rfl) (ht _ mw_2_13) (fun _ h9 => h9) rfl dX6_row_20 ?_
      refine lv_iload_n hx hb dX6_row_23 rfl (lv_at hl 1 rfl) ?_
      refine lv_iconst (v := 3) hx hb dX6_row_24 (by decide) ?_
      refine lv_imul hx hb dX6_row_25 ?_
      refine lv_iload_n hx hb dX6_row_26 rfl (lv_at hl 2 rfl) ?_
      refine lv_iadd hx hb dX6_row_27 ?_
      obtain ⟨hi28, h⟩ := h
      refine g_iald (f := fr) (k := (((x1 * (3 : Int32)) + x2)).toNatClampNeg) hx hb hK hP 1 0 rfl rfl hi28 rfl dX6_row_28 ?_
      refine lv_goto (tgt := 34) hx hb dX6_row_29 (by decide) ?_
      exact ret _ () _ _ _ _ dX6_row_34 h hP hD hS
theorem dX6_alterRow_0 : decode cX6_alterRow 0 = .ok (.iload_n 1, 1) := by decide +kernel
theorem dX6_alterRow_1 : decode cX6_alterRow 1 = .ok (.aload_n 0, 1) := by decide +kernel
theorem dX6_alterRow_2 : decode cX6_alterRow 2 = .ok (.getfield 58, 3) := by decide +kernel
theorem dX6_alterRow_5 : decode cX6_alterRow 5 = .ok (.invokestatic 95, 3) := by decide +kernel
theorem dX6_alterRow_8 : decode cX6_alterRow 8 = .ok (.ifCond .eq 11, 3) := by decide +kernel
theorem dX6_alterRow_11 : decode cX6_alterRow 11 = .ok (.iload_n 2, 1) := by decide +kernel
theorem dX6_alterRow_12 : decode cX6_alterRow 12 = .ok (.iconst 3, 1) := by decide +kernel
theorem dX6_alterRow_13 : decode cX6_alterRow 13 = .ok (.invokestatic 95, 3) := by decide +kernel
theorem dX6_alterRow_16 : decode cX6_alterRow 16 = .ok (.ifCond .ne 6, 3) := by decide +kernel
theorem dX6_alterRow_19 : decode cX6_alterRow 19 = .ok (.bipush (-9), 2) := by decide +kernel
theorem dX6_alterRow_21 : decode cX6_alterRow 21 = .ok (.ireturn, 1) := by decide +kernel
theorem dX6_alterRow_22 : decode cX6_alterRow 22 = .ok (.aload_n 0, 1) := by decide +kernel
theorem dX6_alterRow_23 : decode cX6_alterRow 23 = .ok (.getfield 54, 3) := by decide +kernel
theorem dX6_alterRow_26 : decode cX6_alterRow 26 = .ok (.iload_n 1, 1) := by decide +kernel
theorem dX6_alterRow_27 : decode cX6_alterRow 27 = .ok (.iconst 3, 1) := by decide +kernel
theorem dX6_alterRow_28 : decode cX6_alterRow 28 = .ok (.imul, 1) := by decide +kernel
theorem dX6_alterRow_29 : decode cX6_alterRow 29 = .ok (.iload_n 2, 1) := by decide +kernel
theorem dX6_alterRow_30 : decode cX6_alterRow 30 = .ok (.iadd, 1) := by decide +kernel
theorem dX6_alterRow_31 : decode cX6_alterRow 31 = .ok (.iaload, 1) := by decide +kernel
theorem dX6_alterRow_32 : decode cX6_alterRow 32 = .ok (.istore 4, 2) := by decide +kernel
theorem dX6_alterRow_34 : decode cX6_alterRow 34 = .ok (.aload_n 0, 1) := by decide +kernel
theorem dX6_alterRow_35 : decode cX6_alterRow 35 = .ok (.getfield 54, 3) := by decide +kernel
theorem dX6_alterRow_38 : decode cX6_alterRow 38 = .ok (.iload_n 1, 1) := by decide +kernel
theorem dX6_alterRow_39 : decode cX6_alterRow 39 = .ok (.iconst 3, 1) := by decide +kernel
theorem dX6_alterRow_40 : decode cX6_alterRow 40 = .ok (.imul, 1) := by decide +kernel
theorem dX6_alterRow_41 : decode cX6_alterRow 41 = .ok (.iload_n 2, 1) := by decide +kernel
theorem dX6_alterRow_42 : decode cX6_alterRow 42 = .ok (.iadd, 1) := by decide +kernel
theorem dX6_alterRow_43 : decode cX6_alterRow 43 = .ok (.iload_n 3, 1) := by decide +kernel
theorem dX6_alterRow_44 : decode cX6_alterRow 44 = .ok (.iastore, 1) := by decide +kernel
theorem dX6_alterRow_45 : decode cX6_alterRow 45 = .ok (.iload 4, 2) := by decide +kernel
theorem dX6_alterRow_47 : decode cX6_alterRow 47 = .ok (.ireturn, 1) := by decide +kernel
def p_X6_alterRow (F : tF) (fr : tF) (x1 : Int32) (x2 : Int32) (x3 : Int32) (K : Int32 → tF → Prop) : Prop := (p_X6_within x1 (F 9) (fun r5 => ((r5 = 0 → (K (-9 : Int32) fr)) ∧ (¬ r5 = 0 → (p_X6_within x2 (3 : Int32) (fun r13 => ((¬ r13 = 0 → (vp_in ((x1 * (3 : Int32)) + x2) 30 ∧ (∀ y32 : Int32, y32 = (fr (((x1 * (3 : Int32)) + x2)).toNatClampNeg) → (vp_in ((x1 * (3 : Int32)) + x2) 30 ∧ (∀ f_44 : tF, f_44 = (upd fr (((x1 * (3 : Int32)) + x2)).toNatClampNeg x3) → (K y32 f_44)))))) ∧ (r13 = 0 → (K (-9 : Int32) fr)))))))))
set_option maxHeartbeats 4000000 in
set_option maxRecDepth 100000 in
theorem w_X6_alterRow (l : Launch) (D : va_G) (cI cZ cR : ClassId) (adK adV : Nat → Nat) (sz : Nat) (o : Nat) (q : Nat → Nat) (F : tF) (fr : tF) (x1 : Int32) (x2 : Int32) (x3 : Int32) (K : Int32 → tF → Prop) (h : p_X6_alterRow F fr x1 x2 x3 K) : MI l D cI cZ cR adK adV yX6_alterRow cX6_alterRow 5 (some .int) (rmN 1 21) [.ref o, .int x1, .int x2, .int x3] (wX6 o q F ++ wI cI (q 8) 30 fr : va_W) sz (fun (r : Int32) (u : tF) => K r u) (fun (u : tF) => (wX6 o q F ++ wI cI (q 8) 30 u : va_W)) := by
  refine M_i (by decide +kernel) (Nat.le_of_ble_eq_true rfl) ?_
  intro p e s m args below meth c Q A9 ls X ret hP hD hS hl
  obtain ⟨hx, hb, hml, ht, hown, hK, hA, hE⟩ := id X
  have hl : lv_has ls 5 [(0, .ref o), (1, .int x1), (2, .int x2), (3, .int x3)] := hl
  unfold p_X6_alterRow at h
  refine lv_iload_n hx hb dX6_alterRow_0 rfl (lv_at hl 1 rfl) ?_
  refine lv_aload_n hx hb dX6_alterRow_1 rfl (lv_at hl 0 rfl) ?_
  refine va_get (C := RX6) (T := TX6) (N := 13) (own := RX6) (v := .int (F 9)) hx hb ht inlX6 hown hK hP 0 rfl rfl 9 (Nat.le_of_ble_eq_true rfl) (ht _ mw_2_14) (fun _ h9 => h9) rfl dX6_alterRow_2 ?_
  refine C_si (wr := [0, 1].filterMap (fun i => (wX6 o q F ++ wI cI (q 8) 30 fr : va_W)[i]?)) X hP hD hS [.int x1, .int (F 9)] [] (w_X6_within l D cI cZ cR adK adV _ x1 (F 9) _ h) cal_X6_within mw_15_9 rfl [] [0, 1] [0, 1] (fun u => (wX6 o q F ++ wI cI (q 8) 30 fr : va_W)) rfl rfl (fun _ => rfl) rfl ⟨rfl, rfl⟩ ⟨Nat.le_of_ble_eq_true rfl, Nat.le_of_ble_eq_true rfl⟩ hl.1 rfl (Nat.le_of_ble_eq_true rfl) ⟨Nat.zero_le _, Nat.zero_le _⟩ dX6_alterRow_5 (fun r5 u H locs h hP hD hS => ?_)
  refine lv_if_eq (tgt := 19) hx hb dX6_alterRow_8 (by decide) (fun c8 => ?_) (fun c8 => ?_)
  · replace h := h.1 c8
    refine lv_bipush (v := -9) hx hb dX6_alterRow_19 (by decide) ?_
    exact ret _ fr _ _ _ _ dX6_alterRow_21 h hP hD hS
  · replace h := h.2 c8
    refine lv_iload_n hx hb dX6_alterRow_11 rfl (lv_at hl 2 rfl) ?_
    refine lv_iconst (v := 3) hx hb dX6_alterRow_12 (by decide) ?_
    refine C_si (wr := [0, 1].filterMap (fun i => (wX6 o q F ++ wI cI (q 8) 30 fr : va_W)[i]?)) X hP hD hS [.int x2, .int (3 : Int32)] [] (w_X6_within l D cI cZ cR adK adV _ x2 (3 : Int32) _ h) cal_X6_within mw_15_9 rfl [] [0, 1] [0, 1] (fun u => (wX6 o q F ++ wI cI (q 8) 30 fr : va_W)) rfl rfl (fun _ => rfl) rfl ⟨rfl, rfl⟩ ⟨Nat.le_of_ble_eq_true rfl, Nat.le_of_ble_eq_true rfl⟩ hl.1 rfl (Nat.le_of_ble_eq_true rfl) ⟨Nat.zero_le _, Nat.zero_le _⟩ dX6_alterRow_13 (fun r13 u H locs h hP hD hS => ?_)
    refine lv_if_ne (tgt := 22) hx hb dX6_alterRow_16 (by decide) (fun c16 => ?_) (fun c16 => ?_)
    · replace h := h.1 c16
      refine lv_aload_n hx hb dX6_alterRow_22 rfl (lv_at hl 0 rfl) ?_
      refine va_get (C := RX6) (T := TX6) (N := 13) (own := RX6) (v := .ref (q 8)) hx hb ht inlX6 hown hK hP 0 rfl rfl 8 (Nat.le_of_ble_eq_true rfl) (ht _ mw_2_13) (fun _ h9 => h9) rfl dX6_alterRow_23 ?_
      refine lv_iload_n hx hb dX6_alterRow_26 rfl (lv_at hl 1 rfl) ?_
      refine lv_iconst (v := 3) hx hb dX6_alterRow_27 (by decide) ?_
      refine lv_imul hx hb dX6_alterRow_28 ?_
      refine lv_iload_n hx hb dX6_alterRow_29 rfl (lv_at hl 2 rfl) ?_
      refine lv_iadd hx hb dX6_alterRow_30 ?_
      obtain ⟨hi31, h⟩ := h
      refine g_iald (f := fr) (k := (((x1 * (3 : Int32)) + x2)).toNatClampNeg) hx hb hK hP 1 0 rfl rfl hi31 rfl dX6_alterRow_31 ?_
      refine lv_topi (fun y32 ey32 => ?_)
      replace h := h y32 ey32
      refine lv_istore (lv' := [(4, .int y32), (0, .ref o), (1, .int x1), (2, .int x2), (3, .int x3)]) hx hb dX6_alterRow_32 hl (by decide) rfl (fun ls hl => ?_)
      refine lv_aload_n hx hb dX6_alterRow_34 rfl (lv_at hl 1 rfl) ?_
      refine va_get (C := RX6) (T := TX6) (N := 13) (own := RX6) (v := .ref (q 8)) hx hb ht inlX6 hown hK hP 0 rfl rfl 8 (Nat.le_of_ble_eq_true rfl) (ht _ mw_2_13) (fun _ h9 => h9) rfl dX6_alterRow_35 ?_
      refine lv_iload_n hx hb dX6_alterRow_38 rfl (lv_at hl 2 rfl) ?_
      refine lv_iconst (v := 3) hx hb dX6_alterRow_39 (by decide) ?_
      refine lv_imul hx hb dX6_alterRow_40 ?_
      refine lv_iload_n hx hb dX6_alterRow_41 rfl (lv_at hl 3 rfl) ?_
      refine lv_iadd hx hb dX6_alterRow_42 ?_
      refine lv_iload_n hx hb dX6_alterRow_43 rfl (lv_at hl 4 rfl) ?_
      obtain ⟨hi44, h⟩ := h
      obtain ⟨f_44, ef_44⟩ : ∃ z : tF, z = (upd fr (((x1 * (3 : Int32)) + x2)).toNatClampNeg x3) := ⟨_, rfl⟩
      replace h := h f_44 ef_44
      refine g_iast (f := fr) (k := (((x1 * (3 : Int32)) + x2)).toNatClampNeg) hx hb hK hP hD hS 1 0 rfl rfl hi44 rfl ef_44 dX6_alterRow_44 (fun H locs hP hD hS => ?_)
      have hP : va_P D vwCl (wX6 o q F ++ wI cI (q 8) 30 f_44 : va_W) H := hP
      have hD : va_D A9 (wX6 o q F ++ wI cI (q 8) 30 f_44 : va_W) := hD
      refine lv_iload hx hb dX6_alterRow_45 (lv_at hl 0 rfl) ?_
      exact ret _ f_44 _ _ _ _ dX6_alterRow_47 h hP hD hS
    · replace h := h.2 c16
      refine lv_bipush (v := -9) hx hb dX6_alterRow_19 (by decide) ?_
      exact ret _ fr _ _ _ _ dX6_alterRow_21 h hP hD hS
theorem dX6_judge_0 : decode cX6_judge 0 = .ok (.aload_n 0, 1) := by decide +kernel
theorem dX6_judge_1 : decode cX6_judge 1 = .ok (.iload_n 1, 1) := by decide +kernel
theorem dX6_judge_2 : decode cX6_judge 2 = .ok (.invokevirtual 114, 3) := by decide +kernel
theorem dX6_judge_5 : decode cX6_judge 5 = .ok (.ifCond .ne 5, 3) := by decide +kernel
theorem dX6_judge_8 : decode cX6_judge 8 = .ok (.iconst (-1), 1) := by decide +kernel
theorem dX6_judge_9 : decode cX6_judge 9 = .ok (.ireturn, 1) := by decide +kernel
theorem dX6_judge_10 : decode cX6_judge 10 = .ok (.aload_n 0, 1) := by decide +kernel
theorem dX6_judge_11 : decode cX6_judge 11 = .ok (.getfield 16, 3) := by decide +kernel
theorem dX6_judge_14 : decode cX6_judge 14 = .ok (.aload_n 0, 1) := by decide +kernel
theorem dX6_judge_15 : decode cX6_judge 15 = .ok (.getfield 10, 3) := by decide +kernel
theorem dX6_judge_18 : decode cX6_judge 18 = .ok (.invokevirtual 81, 3) := by decide +kernel
theorem dX6_judge_21 : decode cX6_judge 21 = .ok (.iconst 0, 1) := by decide +kernel
theorem dX6_judge_22 : decode cX6_judge 22 = .ok (.istore_n 2, 1) := by decide +kernel
theorem dX6_judge_23 : decode cX6_judge 23 = .ok (.iload_n 2, 1) := by decide +kernel
theorem dX6_judge_24 : decode cX6_judge 24 = .ok (.aload_n 0, 1) := by decide +kernel
theorem dX6_judge_25 : decode cX6_judge 25 = .ok (.getfield 58, 3) := by decide +kernel
theorem dX6_judge_28 : decode cX6_judge 28 = .ok (.if_icmp .ge 81, 3) := by decide +kernel
theorem dX6_judge_31 : decode cX6_judge 31 = .ok (.aload_n 0, 1) := by decide +kernel
theorem dX6_judge_32 : decode cX6_judge 32 = .ok (.getfield 16, 3) := by decide +kernel
theorem dX6_judge_35 : decode cX6_judge 35 = .ok (.invokevirtual 177, 3) := by decide +kernel
theorem dX6_judge_38 : decode cX6_judge 38 = .ok (.aload_n 0, 1) := by decide +kernel
theorem dX6_judge_39 : decode cX6_judge 39 = .ok (.getfield 54, 3) := by decide +kernel
theorem dX6_judge_42 : decode cX6_judge 42 = .ok (.iload_n 2, 1) := by decide +kernel
theorem dX6_judge_43 : decode cX6_judge 43 = .ok (.iconst 3, 1) := by decide +kernel
theorem dX6_judge_44 : decode cX6_judge 44 = .ok (.imul, 1) := by decide +kernel
theorem dX6_judge_45 : decode cX6_judge 45 = .ok (.iaload, 1) := by decide +kernel
theorem dX6_judge_46 : decode cX6_judge 46 = .ok (.aload_n 0, 1) := by decide +kernel
theorem dX6_judge_47 : decode cX6_judge 47 = .ok (.getfield 16, 3) := by decide +kernel
theorem dX6_judge_50 : decode cX6_judge 50 = .ok (.getfield 123, 3) := by decide +kernel
theorem dX6_judge_53 : decode cX6_judge 53 = .ok (.iload_n 1, 1) := by decide +kernel
theorem dX6_judge_54 : decode cX6_judge 54 = .ok (.iaload, 1) := by decide +kernel
theorem dX6_judge_55 : decode cX6_judge 55 = .ok (.if_icmp .ne 44, 3) := by decide +kernel
theorem dX6_judge_58 : decode cX6_judge 58 = .ok (.aload_n 0, 1) := by decide +kernel
theorem dX6_judge_59 : decode cX6_judge 59 = .ok (.getfield 54, 3) := by decide +kernel
theorem dX6_judge_62 : decode cX6_judge 62 = .ok (.iload_n 2, 1) := by decide +kernel
theorem dX6_judge_63 : decode cX6_judge 63 = .ok (.iconst 3, 1) := by decide +kernel
theorem dX6_judge_64 : decode cX6_judge 64 = .ok (.imul, 1) := by decide +kernel
theorem dX6_judge_65 : decode cX6_judge 65 = .ok (.iconst 1, 1) := by decide +kernel
theorem dX6_judge_66 : decode cX6_judge 66 = .ok (.iadd, 1) := by decide +kernel
theorem dX6_judge_67 : decode cX6_judge 67 = .ok (.iaload, 1) := by decide +kernel
theorem dX6_judge_68 : decode cX6_judge 68 = .ok (.aload_n 0, 1) := by decide +kernel
theorem dX6_judge_69 : decode cX6_judge 69 = .ok (.getfield 16, 3) := by decide +kernel
theorem dX6_judge_72 : decode cX6_judge 72 = .ok (.iload_n 1, 1) := by decide +kernel
theorem dX6_judge_73 : decode cX6_judge 73 = .ok (.invokevirtual 132, 3) := by decide +kernel
theorem dX6_judge_76 : decode cX6_judge 76 = .ok (.if_icmp .ne 23, 3) := by decide +kernel
theorem dX6_judge_79 : decode cX6_judge 79 = .ok (.aload_n 0, 1) := by decide +kernel
theorem dX6_judge_80 : decode cX6_judge 80 = .ok (.getfield 54, 3) := by decide +kernel
theorem dX6_judge_83 : decode cX6_judge 83 = .ok (.iload_n 2, 1) := by decide +kernel
theorem dX6_judge_84 : decode cX6_judge 84 = .ok (.iconst 3, 1) := by decide +kernel
theorem dX6_judge_85 : decode cX6_judge 85 = .ok (.imul, 1) := by decide +kernel
theorem dX6_judge_86 : decode cX6_judge 86 = .ok (.iconst 2, 1) := by decide +kernel
theorem dX6_judge_87 : decode cX6_judge 87 = .ok (.iadd, 1) := by decide +kernel
theorem dX6_judge_88 : decode cX6_judge 88 = .ok (.iaload, 1) := by decide +kernel
theorem dX6_judge_89 : decode cX6_judge 89 = .ok (.aload_n 0, 1) := by decide +kernel
theorem dX6_judge_90 : decode cX6_judge 90 = .ok (.getfield 16, 3) := by decide +kernel
theorem dX6_judge_93 : decode cX6_judge 93 = .ok (.getfield 157, 3) := by decide +kernel
theorem dX6_judge_96 : decode cX6_judge 96 = .ok (.if_icmp .eq 7, 3) := by decide +kernel
theorem dX6_judge_99 : decode cX6_judge 99 = .ok (.iload_n 2, 1) := by decide +kernel
theorem dX6_judge_100 : decode cX6_judge 100 = .ok (.iconst 1, 1) := by decide +kernel
theorem dX6_judge_101 : decode cX6_judge 101 = .ok (.iadd, 1) := by decide +kernel
theorem dX6_judge_102 : decode cX6_judge 102 = .ok (.ireturn, 1) := by decide +kernel
theorem dX6_judge_103 : decode cX6_judge 103 = .ok (.iinc 2 1, 3) := by decide +kernel
theorem dX6_judge_106 : decode cX6_judge 106 = .ok (.goto (-83), 3) := by decide +kernel
theorem dX6_judge_109 : decode cX6_judge 109 = .ok (.iconst 0, 1) := by decide +kernel
theorem dX6_judge_110 : decode cX6_judge 110 = .ok (.ireturn, 1) := by decide +kernel
def p_X6_judge_L23 (F : tF) (Fn : tF) (An : tA) (fr : tF) (x1 : Int32) (K : Int32 → tF → tA → Prop) : Nat → tF → tA → Int32 → Prop
  | 0, _, _, _ => False
  | n23 + 1, Ft, At, x2 => (((F 9) ≤ x2 → (K (0 : Int32) Ft At)) ∧ (¬ (F 9) ≤ x2 → (p_X2_passDay Ft At (fun Ft_35 At_35 => (vp_in (x2 * (3 : Int32)) 30 ∧ (vp_in x1 8 ∧ ((¬ (fr ((x2 * (3 : Int32))).toNatClampNeg) = ((At_35 5) (x1).toNatClampNeg) → (K (x2 + (1 : Int32)) Ft_35 At_35)) ∧ ((fr ((x2 * (3 : Int32))).toNatClampNeg) = ((At_35 5) (x1).toNatClampNeg) → (vp_in ((x2 * (3 : Int32)) + (1 : Int32)) 30 ∧ (p_X2_voteOf Ft_35 At_35 x1 (fun r73 => ((¬ (fr (((x2 * (3 : Int32)) + (1 : Int32))).toNatClampNeg) = r73 → (K (x2 + (1 : Int32)) Ft_35 At_35)) ∧ ((fr (((x2 * (3 : Int32)) + (1 : Int32))).toNatClampNeg) = r73 → (vp_in ((x2 * (3 : Int32)) + (2 : Int32)) 30 ∧ (((fr (((x2 * (3 : Int32)) + (2 : Int32))).toNatClampNeg) = (Ft_35 9) → (∀ y103 : Int32, y103 = (x2 + (1 : Int32)) → ((p_X6_judge_L23 F Fn An fr x1 K n23) Ft_35 At_35 y103))) ∧ (¬ (fr (((x2 * (3 : Int32)) + (2 : Int32))).toNatClampNeg) = (Ft_35 9) → (K (x2 + (1 : Int32)) Ft_35 At_35)))))))))))))))))
set_option maxHeartbeats 4000000 in
set_option maxRecDepth 100000 in
theorem b_X6_judge_L23 {p : Program} {l : Launch} {e : Env} {s : State} {m : MethodId} {args : Array Value} {below : List Frame} {meth : Method} {c : Code} {Q : State → Prop} {D : va_G} {cI cZ cR : ClassId} {adK adV : Nat → Nat} {A9 : Nat → Prop} {o : Nat} {q : Nat → Nat} {qn : Nat → Nat} {qt : Nat → Nat} {K : Int32 → tF → tA → Prop}  (F : tF) (Fn : tF) (An : tA) (fr : tF) (x1 : Int32) (X : CX p s m args c yX6_judge.cls cX6_judge 3 D cI cZ cR adK adV A9) (ret : RTi p l e (rmN 5 193) s m args below meth c Q cX6_judge D A9 (fun (r : Int32) (u : (tF × tA)) => K r u.1 u.2) (fun (u : (tF × tA)) => (wX6 o q F ++ wX2 cI cZ (q 0) qn Fn An ++ wX2 cI cZ (q 1) qt u.1 u.2 ++ wI cI (q 8) 30 fr : va_W)))   : ∀ (n : Nat) (Ft : tF) (At : tA) (x2 : Int32) (H : Heap) (locs : List Loc) (ls : Array Slot), p_X6_judge_L23 F Fn An fr x1 K n Ft At x2 → va_P D vwCl (wX6 o q F ++ wX2 cI cZ (q 0) qn Fn An ++ wX2 cI cZ (q 1) qt Ft At ++ wI cI (q 8) 30 fr : va_W) H → va_D A9 (wX6 o q F ++ wX2 cI cZ (q 0) qn Fn An ++ wX2 cI cZ (q 1) qt Ft At ++ wI cI (q 8) 30 fr : va_W) → va_S A9 s.heap H locs → lv_has ls 3 [(0, .ref o), (1, .int x1), (2, .int x2)] → W p l e (rmN 5 193) s m args below meth c H locs 0 0 Q (F0 m 23 ls []) := by
  obtain ⟨hx, hb, hml, ht, hown, hK, hA, hE⟩ := id X
  intro n
  induction n with
  | zero => intro Ft At x2 H locs ls h; exact False.elim h
  | succ n23 ih =>
    intro Ft At x2 H locs ls h hP hD hS hl
    rw [p_X6_judge_L23] at h
    refine lv_iload_n hx hb dX6_judge_23 rfl (lv_at hl 2 rfl) ?_
    refine lv_aload_n hx hb dX6_judge_24 rfl (lv_at hl 0 rfl) ?_
    refine va_get (C := RX6) (T := TX6) (N := 13) (own := RX6) (v := .int (F 9)) hx hb ht inlX6 hown hK hP 0 rfl rfl 9 (Nat.le_of_ble_eq_true rfl) (ht _ mw_2_14) (fun _ h9 => h9) rfl dX6_judge_25 ?_
    refine lv_icmp_ge (tgt := 109) hx hb dX6_judge_28 (by decide) (fun c28 => ?_) (fun c28 => ?_)
    · replace h := h.1 c28
      refine lv_iconst (v := 0) hx hb dX6_judge_109 (by decide) ?_
      exact ret _ (Ft, At) _ _ _ _ dX6_judge_110 h hP hD hS
    · replace h := h.2 c28
      refine lv_aload_n hx hb dX6_judge_31 rfl (lv_at hl 0 rfl) ?_
      refine va_get (C := RX6) (T := TX6) (N := 13) (own := RX6) (v := .ref (q 1)) hx hb ht inlX6 hown hK hP 0 rfl rfl 1 (Nat.le_of_ble_eq_true rfl) (ht _ mw_1_17) (fun _ h9 => h9) rfl dX6_judge_32 ?_
      refine C_vv (wr := [0, 1, 2, 3, 4, 5, 6, 7, 8, 9, 19].filterMap (fun i => (wX6 o q F ++ wX2 cI cZ (q 0) qn Fn An ++ wX2 cI cZ (q 1) qt Ft At ++ wI cI (q 8) 30 fr : va_W)[i]?)) X hP hD hS [] [] (w_X2_passDay l D cI cZ cR adK adV _ (q 1) qt Ft At _ h) cal_X2_passDay mw_27_18 rfl [10, 11, 12, 13, 14, 15, 16, 17, 18] [0, 1, 2, 3, 4, 5, 6, 7, 8, 9, 19] [0, 1, 2, 3, 4, 5, 6, 7, 8, 9, 11, 12, 13, 14, 15, 16, 17, 18, 19, 10] (fun u => (wX6 o q F ++ wX2 cI cZ (q 0) qn Fn An ++ wX2 cI cZ (q 1) qt u.1 u.2 ++ wI cI (q 8) 30 fr : va_W)) rfl rfl (fun _ => rfl) rfl 10 rfl rfl ⟨rfl, rfl⟩ ⟨Nat.le_of_ble_eq_true rfl, Nat.le_of_ble_eq_true rfl⟩ hl.1 rfl (Nat.le_of_ble_eq_true rfl) ⟨Nat.zero_le _, Nat.zero_le _⟩ dX6_judge_35 (fun u H locs h hP hD hS => ?_)
      obtain ⟨Ft_35, At_35⟩ := u
      try dsimp only at h
      have hP : va_P D vwCl (wX6 o q F ++ wX2 cI cZ (q 0) qn Fn An ++ wX2 cI cZ (q 1) qt Ft_35 At_35 ++ wI cI (q 8) 30 fr : va_W) H := hP
      have hD : va_D A9 (wX6 o q F ++ wX2 cI cZ (q 0) qn Fn An ++ wX2 cI cZ (q 1) qt Ft_35 At_35 ++ wI cI (q 8) 30 fr : va_W) := hD
      refine lv_aload_n hx hb dX6_judge_38 rfl (lv_at hl 0 rfl) ?_
      refine va_get (C := RX6) (T := TX6) (N := 13) (own := RX6) (v := .ref (q 8)) hx hb ht inlX6 hown hK hP 0 rfl rfl 8 (Nat.le_of_ble_eq_true rfl) (ht _ mw_2_13) (fun _ h9 => h9) rfl dX6_judge_39 ?_
      refine lv_iload_n hx hb dX6_judge_42 rfl (lv_at hl 2 rfl) ?_
      refine lv_iconst (v := 3) hx hb dX6_judge_43 (by decide) ?_
      refine lv_imul hx hb dX6_judge_44 ?_
      obtain ⟨hi45, h⟩ := h
      refine g_iald (f := fr) (k := ((x2 * (3 : Int32))).toNatClampNeg) hx hb hK hP 19 0 rfl rfl hi45 rfl dX6_judge_45 ?_
      refine lv_aload_n hx hb dX6_judge_46 rfl (lv_at hl 0 rfl) ?_
      refine va_get (C := RX6) (T := TX6) (N := 13) (own := RX6) (v := .ref (q 1)) hx hb ht inlX6 hown hK hP 0 rfl rfl 1 (Nat.le_of_ble_eq_true rfl) (ht _ mw_1_17) (fun _ h9 => h9) rfl dX6_judge_47 ?_
      refine va_get (C := RX2) (T := TX2) (N := 13) (own := RX6) (v := .ref (qt 5)) hx hb ht inlX2 hown hK hP 10 rfl rfl 5 (Nat.le_of_ble_eq_true rfl) (ht _ mw_17_6) (fun _ h9 => h9) rfl dX6_judge_50 ?_
      refine lv_iload_n hx hb dX6_judge_53 rfl (lv_at hl 1 rfl) ?_
      obtain ⟨hi54, h⟩ := h
      refine g_iald (f := (At_35 5)) (k := (x1).toNatClampNeg) hx hb hK hP 16 0 rfl rfl hi54 rfl dX6_judge_54 ?_
      refine lv_icmp_ne (tgt := 99) hx hb dX6_judge_55 (by decide) (fun c55 => ?_) (fun c55 => ?_)
      · replace h := h.1 c55
        refine lv_iload_n hx hb dX6_judge_99 rfl (lv_at hl 2 rfl) ?_
        refine lv_iconst (v := 1) hx hb dX6_judge_100 (by decide) ?_
        refine lv_iadd hx hb dX6_judge_101 ?_
        exact ret _ (Ft_35, At_35) _ _ _ _ dX6_judge_102 h hP hD hS
      · replace h := h.2 c55
        refine lv_aload_n hx hb dX6_judge_58 rfl (lv_at hl 0 rfl) ?_
        refine va_get (C := RX6) (T := TX6) (N := 13) (own := RX6) (v := .ref (q 8)) hx hb ht inlX6 hown hK hP 0 rfl rfl 8 (Nat.le_of_ble_eq_true rfl) (ht _ mw_2_13) (fun _ h9 => h9) rfl dX6_judge_59 ?_
        refine lv_iload_n hx hb dX6_judge_62 rfl (lv_at hl 2 rfl) ?_
        refine lv_iconst (v := 3) hx hb dX6_judge_63 (by decide) ?_
        refine lv_imul hx hb dX6_judge_64 ?_
        refine lv_iconst (v := 1) hx hb dX6_judge_65 (by decide) ?_
        refine lv_iadd hx hb dX6_judge_66 ?_
        obtain ⟨hi67, h⟩ := h
        refine g_iald (f := fr) (k := (((x2 * (3 : Int32)) + (1 : Int32))).toNatClampNeg) hx hb hK hP 19 0 rfl rfl hi67 rfl dX6_judge_67 ?_
        refine lv_aload_n hx hb dX6_judge_68 rfl (lv_at hl 0 rfl) ?_
        refine va_get (C := RX6) (T := TX6) (N := 13) (own := RX6) (v := .ref (q 1)) hx hb ht inlX6 hown hK hP 0 rfl rfl 1 (Nat.le_of_ble_eq_true rfl) (ht _ mw_1_17) (fun _ h9 => h9) rfl dX6_judge_69 ?_
        refine lv_iload_n hx hb dX6_judge_72 rfl (lv_at hl 1 rfl) ?_
        refine C_vi (wr := [0, 1, 2, 3, 4, 5, 6, 7, 8, 9, 19].filterMap (fun i => (wX6 o q F ++ wX2 cI cZ (q 0) qn Fn An ++ wX2 cI cZ (q 1) qt Ft_35 At_35 ++ wI cI (q 8) 30 fr : va_W)[i]?)) X hP hD hS [.int x1] [.int (fr (((x2 * (3 : Int32)) + (1 : Int32))).toNatClampNeg)] (w_X2_voteOf l D cI cZ cR adK adV _ (q 1) qt Ft_35 At_35 x1 _ h) cal_X2_voteOf mw_17_16 rfl [10, 11, 12, 13, 14, 15, 16, 17, 18] [0, 1, 2, 3, 4, 5, 6, 7, 8, 9, 19] [0, 1, 2, 3, 4, 5, 6, 7, 8, 9, 11, 12, 13, 14, 15, 16, 17, 18, 19, 10] (fun u => (wX6 o q F ++ wX2 cI cZ (q 0) qn Fn An ++ wX2 cI cZ (q 1) qt Ft_35 At_35 ++ wI cI (q 8) 30 fr : va_W)) rfl rfl (fun _ => rfl) rfl 10 rfl rfl ⟨rfl, rfl⟩ ⟨Nat.le_of_ble_eq_true rfl, Nat.le_of_ble_eq_true rfl⟩ hl.1 rfl (Nat.le_of_ble_eq_true rfl) ⟨Nat.zero_le _, Nat.zero_le _⟩ dX6_judge_73 (fun r73 u H locs h hP hD hS => ?_)
        refine lv_icmp_ne (tgt := 99) hx hb dX6_judge_76 (by decide) (fun c76 => ?_) (fun c76 => ?_)
        · replace h := h.1 c76
          refine lv_iload_n hx hb dX6_judge_99 rfl (lv_at hl 2 rfl) ?_
          refine lv_iconst (v := 1) hx hb dX6_judge_100 (by decide) ?_
          refine lv_iadd hx hb dX6_judge_101 ?_
          exact ret _ (Ft_35, At_35) _ _ _ _ dX6_judge_102 h hP hD hS
        · replace h := h.2 c76
          refine lv_aload_n hx hb dX6_judge_79 rfl (lv_at hl 0 rfl) ?_
          refine va_get (C := RX6) (T := TX6) (N := 13) (own := RX6) (v := .ref (q 8)) hx hb ht inlX6 hown hK hP 0 rfl rfl 8 (Nat.le_of_ble_eq_true rfl) (ht _ mw_2_13) (fun _ h9 => h9) rfl dX6_judge_80 ?_
          refine lv_iload_n hx hb dX6_judge_83 rfl (lv_at hl 2 rfl) ?_
          refine lv_iconst (v := 3) hx hb dX6_judge_84 (by decide) ?_
          refine lv_imul hx hb dX6_judge_85 ?_
          refine lv_iconst (v := 2) hx hb dX6_judge_86 (by decide) ?_
          refine lv_iadd hx hb dX6_judge_87 ?_
          obtain ⟨hi88, h⟩ := h
          refine g_iald (f := fr) (k := (((x2 * (3 : Int32)) + (2 : Int32))).toNatClampNeg) hx hb hK hP 19 0 rfl rfl hi88 rfl dX6_judge_88 ?_
          refine lv_aload_n hx hb dX6_judge_89 rfl (lv_at hl 0 rfl) ?_
          refine va_get (C := RX6) (T := TX6) (N := 13) (own := RX6) (v := .ref (q 1)) hx hb ht inlX6 hown hK hP 0 rfl rfl 1 (Nat.le_of_ble_eq_true rfl) (ht _ mw_1_17) (fun _ h9 => h9) rfl dX6_judge_90 ?_
          refine va_get (C := RX2) (T := TX2) (N := 13) (own := RX6) (v := .int (Ft_35 9)) hx hb ht inlX2 hown hK hP 10 rfl rfl 9 (Nat.le_of_ble_eq_true rfl) (ht _ mw_23_9) (fun _ h9 => h9) rfl dX6_judge_93 ?_
          refine lv_icmp_eq (tgt := 103) hx hb dX6_judge_96 (by decide) (fun c96 => ?_) (fun c96 => ?_)
          · replace h := h.1 c96
            obtain ⟨y103, ey103⟩ : ∃ y : Int32, y = (x2 + (1 : Int32)) := ⟨_, rfl⟩
            replace h := h y103 ey103
            refine lv_iinc (v := y103) (lv' := [(2, .int y103), (0, .ref o), (1, .int x1)]) hx hb dX6_judge_103 hl (k := 2) rfl (by rw [ey103]; rfl) (by decide) rfl (fun ls hl => ?_)
            refine lv_goto (tgt := 23) hx hb dX6_judge_106 (by decide) ?_
            exact ih Ft_35 At_35 y103 _ _ _ h hP hD hS (lv_sub hl [1, 2, 0] rfl)
          · replace h := h.2 c96
            refine lv_iload_n hx hb dX6_judge_99 rfl (lv_at hl 2 rfl) ?_
            refine lv_iconst (v := 1) hx hb dX6_judge_100 (by decide) ?_
            refine lv_iadd hx hb dX6_judge_101 ?_
            exact ret _ (Ft_35, At_35) _ _ _ _ dX6_judge_102 h hP hD hS
def p_X6_judge (F : tF) (Fn : tF) (An : tA) (Ft : tF) (At : tA) (fr : tF) (x1 : Int32) (K : Int32 → tF → tA → Prop) : Prop := (p_X6_isSheep F Fn An x1 (fun r2 => ((¬ r2 = 0 → (p_X2_copyFrom Ft At Fn An (fun Ft_18 At_18 => (∃ n23, p_X6_judge_L23 F Fn An fr x1 K n23 Ft_18 At_18 (0 : Int32))))) ∧ (r2 = 0 → (K (-1 : Int32) Ft At)))))
set_option maxHeartbeats 4000000 in
set_option maxRecDepth 100000 in
theorem w_X6_judge (l : Launch) (D : va_G) (cI cZ cR : ClassId) (adK adV : Nat → Nat) (sz : Nat) (o : Nat) (q : Nat → Nat) (qn : Nat → Nat) (qt : Nat → Nat) (F : tF) (Fn : tF) (An : tA) (Ft : tF) (At : tA) (fr : tF) (x1 : Int32) (K : Int32 → tF → tA → Prop) (h : p_X6_judge F Fn An Ft At fr x1 K) : MI l D cI cZ cR adK adV yX6_judge cX6_judge 3 (some .int) (rmN 5 193) [.ref o, .int x1] (wX6 o q F ++ wX2 cI cZ (q 0) qn Fn An ++ wX2 cI cZ (q 1) qt Ft At ++ wI cI (q 8) 30 fr : va_W) sz (fun (r : Int32) (u : (tF × tA)) => K r u.1 u.2) (fun (u : (tF × tA)) => (wX6 o q F ++ wX2 cI cZ (q 0) qn Fn An ++ wX2 cI cZ (q 1) qt u.1 u.2 ++ wI cI (q 8) 30 fr : va_W)) := by
  refine M_i (by decide +kernel) (Nat.le_of_ble_eq_true rfl) ?_
  intro p e s m args below meth c Q A9 ls X ret hP hD hS hl
  obtain ⟨hx, hb, hml, ht, hown, hK, hA, hE⟩ := id X
  have hl : lv_has ls 3 [(0, .ref o), (1, .int x1)] := hl
  unfold p_X6_judge at h
  refine lv_aload_n hx hb dX6_judge_0 rfl (lv_at hl 0 rfl) ?_
  refine lv_iload_n hx hb dX6_judge_1 rfl (lv_at hl 1 rfl) ?_
  refine C_vi (wr := [10, 11, 12, 13, 14, 15, 16, 17, 18, 19].filterMap (fun i => (wX6 o q F ++ wX2 cI cZ (q 0) qn Fn An ++ wX2 cI cZ (q 1) qt Ft At ++ wI cI (q 8) 30 fr : va_W)[i]?)) X hP hD hS [.int x1] [] (w_X6_isSheep l D cI cZ cR adK adV _ o q qn F Fn An x1 _ h) cal_X6_isSheep mw_17_8 rfl [0, 1, 2, 3, 4, 5, 6, 7, 8, 9] [10, 11, 12, 13, 14, 15, 16, 17, 18, 19] [10, 11, 12, 13, 14, 15, 16, 17, 18, 19, 0, 1, 2, 3, 4, 5, 6, 7, 8, 9] (fun u => (wX6 o q F ++ wX2 cI cZ (q 0) qn Fn An ++ wX2 cI cZ (q 1) qt Ft At ++ wI cI (q 8) 30 fr : va_W)) rfl rfl (fun _ => rfl) rfl 0 rfl rfl ⟨rfl, rfl⟩ ⟨Nat.le_of_ble_eq_true rfl, Nat.le_of_ble_eq_true rfl⟩ hl.1 rfl (Nat.le_of_ble_eq_true rfl) ⟨Nat.zero_le _, Nat.zero_le _⟩ dX6_judge_2 (fun r2 u H locs h hP hD hS => ?_)
  refine lv_if_ne (tgt := 10) hx hb dX6_judge_5 (by decide) (fun c5 => ?_) (fun c5 => ?_)
  · replace h := h.1 c5
    refine lv_aload_n hx hb dX6_judge_10 rfl (lv_at hl 0 rfl) ?_
    refine va_get (C := RX6) (T := TX6) (N := 13) (own := RX6) (v := .ref (q 1)) hx hb ht inlX6 hown hK hP 0 rfl rfl 1 (Nat.le_of_ble_eq_true rfl) (ht _ mw_1_17) (fun _ h9 => h9) rfl dX6_judge_11 ?_
    refine lv_aload_n hx hb dX6_judge_14 rfl (lv_at hl 0 rfl) ?_
    refine va_get (C := RX6) (T := TX6) (N := 13) (own := RX6) (v := .ref (q 0)) hx hb ht inlX6 hown hK hP 0 rfl rfl 0 (Nat.le_of_ble_eq_true rfl) (ht _ mw_1_16) (fun _ h9 => h9) rfl dX6_judge_15 ?_
    refine C_vv (wr := [0, 19].filterMap (fun i => (wX6 o q F ++ wX2 cI cZ (q 0) qn Fn An ++ wX2 cI cZ (q 1) qt Ft At ++ wI cI (q 8) 30 fr : va_W)[i]?)) X hP hD hS [.ref (q 0)] [] (w_X2_copyFrom l D cI cZ cR adK adV _ (q 1) qt (q 0) qn Ft At Fn An _ h) cal_X2_copyFrom mw_7_3 rfl [10, 11, 12, 13, 14, 15, 16, 17, 18, 1, 2, 3, 4, 5, 6, 7, 8, 9] [0, 19] [0, 11, 12, 13, 14, 15, 16, 17, 18, 19, 2, 3, 4, 5, 6, 7, 8, 9, 10, 1] (fun u => (wX6 o q F ++ wX2 cI cZ (q 0) qn Fn An ++ wX2 cI cZ (q 1) qt u.1 u.2 ++ wI cI (q 8) 30 fr : va_W)) rfl rfl (fun _ => rfl) rfl 10 rfl rfl ⟨rfl, rfl⟩ ⟨Nat.le_of_ble_eq_true rfl, Nat.le_of_ble_eq_true rfl⟩ hl.1 rfl (Nat.le_of_ble_eq_true rfl) ⟨Nat.zero_le _, Nat.zero_le _⟩ dX6_judge_18 (fun u H locs h hP hD hS => ?_)
    obtain ⟨Ft_18, At_18⟩ := u
    try dsimp only at h
    have hP : va_P D vwCl (wX6 o q F ++ wX2 cI cZ (q 0) qn Fn An ++ wX2 cI cZ (q 1) qt Ft_18 At_18 ++ wI cI (q 8) 30 fr : va_W) H := hP
    have hD : va_D A9 (wX6 o q F ++ wX2 cI cZ (q 0) qn Fn An ++ wX2 cI cZ (q 1) qt Ft_18 At_18 ++ wI cI (q 8) 30 fr : va_W) := hD
    refine lv_iconst (v := 0) hx hb dX6_judge_21 (by decide) ?_
    refine lv_istore_n (lv' := [(2, .int (0 : Int32)), (0, .ref o), (1, .int x1)]) hx hb dX6_judge_22 rfl hl (by decide) rfl (fun ls hl => ?_)
    obtain ⟨n23, h⟩ := h
    exact b_X6_judge_L23 F Fn An fr x1 X ret  n23 Ft_18 At_18 (0 : Int32) _ _ _ h hP hD hS (lv_sub hl [1, 2, 0] rfl)
  · replace h := h.2 c5
    refine lv_iconst (v := -1) hx hb dX6_judge_8 (by decide) ?_
    exact ret _ (Ft, At) _ _ _ _ dX6_judge_9 h hP hD hS
theorem dX6_trace_0 : decode cX6_trace 0 = .ok (.iload_n 1, 1) := by decide +kernel
theorem dX6_trace_1 : decode cX6_trace 1 = .ok (.aload_n 0, 1) := by decide +kernel
theorem dX6_trace_2 : decode cX6_trace 2 = .ok (.getfield 50, 3) := by decide +kernel
theorem dX6_trace_5 : decode cX6_trace 5 = .ok (.getfield 293, 3) := by decide +kernel
theorem dX6_trace_8 : decode cX6_trace 8 = .ok (.invokestatic 95, 3) := by decide +kernel
theorem dX6_trace_11 : decode cX6_trace 11 = .ok (.ifCond .eq 15, 3) := by decide +kernel
theorem dX6_trace_14 : decode cX6_trace 14 = .ok (.aload_n 0, 1) := by decide +kernel
theorem dX6_trace_15 : decode cX6_trace 15 = .ok (.getfield 50, 3) := by decide +kernel
theorem dX6_trace_18 : decode cX6_trace 18 = .ok (.getfield 296, 3) := by decide +kernel
theorem dX6_trace_21 : decode cX6_trace 21 = .ok (.iload_n 1, 1) := by decide +kernel
theorem dX6_trace_22 : decode cX6_trace 22 = .ok (.iaload, 1) := by decide +kernel
theorem dX6_trace_23 : decode cX6_trace 23 = .ok (.goto 5, 3) := by decide +kernel
theorem dX6_trace_26 : decode cX6_trace 26 = .ok (.bipush (-3), 2) := by decide +kernel
theorem dX6_trace_28 : decode cX6_trace 28 = .ok (.ireturn, 1) := by decide +kernel
def p_X6_trace (F : tF) (Ff : tF) (Af : tA) (x1 : Int32) (K : Int32 → Prop) : Prop := (p_X6_within x1 (Ff 1) (fun r8 => ((r8 = 0 → (K (-3 : Int32))) ∧ (¬ r8 = 0 → (vp_in x1 30 ∧ (K ((Af 0) (x1).toNatClampNeg)))))))
set_option maxHeartbeats 4000000 in
set_option maxRecDepth 100000 in
theorem w_X6_trace (l : Launch) (D : va_G) (cI cZ cR : ClassId) (adK adV : Nat → Nat) (sz : Nat) (o : Nat) (q : Nat → Nat) (qf : Nat → Nat) (F : tF) (Ff : tF) (Af : tA) (x1 : Int32) (K : Int32 → Prop) (h : p_X6_trace F Ff Af x1 K) : MI l D cI cZ cR adK adV yX6_trace cX6_trace 2 (some .int) (rmN 1 21) [.ref o, .int x1] (wX6 o q F ++ wX4 cI cZ (q 7) qf Ff Af : va_W) sz (fun (r : Int32) (u : Unit) => K r) (fun (u : Unit) => (wX6 o q F ++ wX4 cI cZ (q 7) qf Ff Af : va_W)) := by
  refine M_i (by decide +kernel) (Nat.le_of_ble_eq_true rfl) ?_
  intro p e s m args below meth c Q A9 ls X ret hP hD hS hl
  obtain ⟨hx, hb, hml, ht, hown, hK, hA, hE⟩ := id X
  have hl : lv_has ls 2 [(0, .ref o), (1, .int x1)] := hl
  unfold p_X6_trace at h
  refine lv_iload_n hx hb dX6_trace_0 rfl (lv_at hl 1 rfl) ?_
  refine lv_aload_n hx hb dX6_trace_1 rfl (lv_at hl 0 rfl) ?_
  refine va_get (C := RX6) (T := TX6) (N := 13) (own := RX6) (v := .ref (q 7)) hx hb ht inlX6 hown hK hP 0 rfl rfl 7 (Nat.le_of_ble_eq_true rfl) (ht _ mw_2_11) (fun _ h9 => h9) rfl dX6_trace_2 ?_
  refine va_get (C := RX4) (T := TX4) (N := 6) (own := RX6) (v := .int (Ff 1)) hx hb ht inlX4 hown hK hP 1 rfl rfl 1 (Nat.le_of_ble_eq_true rfl) (ht _ mw_50_10) (fun _ h9 => h9) rfl dX6_trace_5 ?_
  refine C_si (wr := [0, 1, 2].filterMap (fun i => (wX6 o q F ++ wX4 cI cZ (q 7) qf Ff Af : va_W)[i]?)) X hP hD hS [.int x1, .int (Ff 1)] [] (w_X6_within l D cI cZ cR adK adV _ x1 (Ff 1) _ h) cal_X6_within mw_15_9 rfl [] [0, 1, 2] [0, 1, 2] (fun u => (wX6 o q F ++ wX4 cI cZ (q 7) qf Ff Af : va_W)) rfl rfl (fun _ => rfl) rfl ⟨rfl, rfl⟩ ⟨Nat.le_of_ble_eq_true rfl, Nat.le_of_ble_eq_true rfl⟩ hl.1 rfl (Nat.le_of_ble_eq_true rfl) ⟨Nat.zero_le _, Nat.zero_le _⟩ dX6_trace_8 (fun r8 u H locs h hP hD hS => ?_)
  refine lv_if_eq (tgt := 26) hx hb dX6_trace_11 (by decide) (fun c11 => ?_) (fun c11 => ?_)
  · replace h := h.1 c11
    refine lv_bipush (v := -3) hx hb dX6_trace_26 (by decide) ?_
    exact ret _ () _ _ _ _ dX6_trace_28 h hP hD hS
  · replace h := h.2 c11
    refine lv_aload_n hx hb dX6_trace_14 rfl (lv_at hl 0 rfl) ?_
    refine va_get (C := RX6) (T := TX6) (N := 13) (own := RX6) (v := .ref (q 7)) hx hb ht inlX6 hown hK hP 0 rfl rfl 7 (Nat.le_of_ble_eq_true rfl) (ht _ mw_2_11) (fun _ h9 => h9) rfl dX6_trace_15 ?_
    refine va_get (C := RX4) (T := TX4) (N := 6) (own := RX6) (v := .ref (qf 0)) hx hb ht inlX4 hown hK hP 1 rfl rfl 0 (Nat.le_of_ble_eq_true rfl) (ht _ mw_50_11) (fun _ h9 => h9) rfl dX6_trace_18 ?_
    refine lv_iload_n hx hb dX6_trace_21 rfl (lv_at hl 1 rfl) ?_
    obtain ⟨hi22, h⟩ := h
    refine g_iald (f := (Af 0)) (k := (x1).toNatClampNeg) hx hb hK hP 2 0 rfl rfl hi22 rfl dX6_trace_22 ?_
    refine lv_goto (tgt := 28) hx hb dX6_trace_23 (by decide) ?_
    exact ret _ () _ _ _ _ dX6_trace_28 h hP hD hS
theorem cal_X2_placesWithVotes : CalV yX2_placesWithVotes cX2_placesWithVotes 3 (some .int) 0 := ⟨mw_50_23, mw_1_15, mw_50_21, mw_50_22, ⟨by decide +kernel, by decide +kernel, by decide +kernel⟩⟩
theorem cal_X2_onesThatCount : CalV yX2_onesThatCount cX2_onesThatCount 3 (some .int) 0 := ⟨mw_51_3, mw_1_15, mw_51_1, mw_51_2, ⟨by decide +kernel, by decide +kernel, by decide +kernel⟩⟩
theorem dX6_many_0 : decode cX6_many 0 = .ok (.iload_n 1, 1) := by decide +kernel
theorem dX6_many_1 : decode cX6_many 1 = .ok (.tableswitch 99 0 6 #[43, 51, 59, 67, 78, 83, 91], 43) := by decide +kernel
theorem dX6_many_44 : decode cX6_many 44 = .ok (.aload_n 0, 1) := by decide +kernel
theorem dX6_many_45 : decode cX6_many 45 = .ok (.getfield 10, 3) := by decide +kernel
theorem dX6_many_48 : decode cX6_many 48 = .ok (.getfield 92, 3) := by decide +kernel
theorem dX6_many_51 : decode cX6_many 51 = .ok (.ireturn, 1) := by decide +kernel
theorem dX6_many_52 : decode cX6_many 52 = .ok (.aload_n 0, 1) := by decide +kernel
theorem dX6_many_53 : decode cX6_many 53 = .ok (.getfield 10, 3) := by decide +kernel
theorem dX6_many_56 : decode cX6_many 56 = .ok (.invokevirtual 299, 3) := by decide +kernel
theorem dX6_many_59 : decode cX6_many 59 = .ok (.ireturn, 1) := by decide +kernel
theorem dX6_many_60 : decode cX6_many 60 = .ok (.aload_n 0, 1) := by decide +kernel
theorem dX6_many_61 : decode cX6_many 61 = .ok (.getfield 10, 3) := by decide +kernel
theorem dX6_many_64 : decode cX6_many 64 = .ok (.invokevirtual 302, 3) := by decide +kernel
theorem dX6_many_67 : decode cX6_many 67 = .ok (.ireturn, 1) := by decide +kernel
theorem dX6_many_68 : decode cX6_many 68 = .ok (.aload_n 0, 1) := by decide +kernel
theorem dX6_many_69 : decode cX6_many 69 = .ok (.getfield 10, 3) := by decide +kernel
theorem dX6_many_72 : decode cX6_many 72 = .ok (.invokevirtual 190, 3) := by decide +kernel
theorem dX6_many_75 : decode cX6_many 75 = .ok (.invokestatic 305, 3) := by decide +kernel
theorem dX6_many_78 : decode cX6_many 78 = .ok (.ireturn, 1) := by decide +kernel
theorem dX6_many_79 : decode cX6_many 79 = .ok (.aload_n 0, 1) := by decide +kernel
theorem dX6_many_80 : decode cX6_many 80 = .ok (.getfield 58, 3) := by decide +kernel
theorem dX6_many_83 : decode cX6_many 83 = .ok (.ireturn, 1) := by decide +kernel
theorem dX6_many_84 : decode cX6_many 84 = .ok (.aload_n 0, 1) := by decide +kernel
theorem dX6_many_85 : decode cX6_many 85 = .ok (.getfield 29, 3) := by decide +kernel
theorem dX6_many_88 : decode cX6_many 88 = .ok (.getfield 74, 3) := by decide +kernel
theorem dX6_many_91 : decode cX6_many 91 = .ok (.ireturn, 1) := by decide +kernel
theorem dX6_many_92 : decode cX6_many 92 = .ok (.aload_n 0, 1) := by decide +kernel
theorem dX6_many_93 : decode cX6_many 93 = .ok (.getfield 50, 3) := by decide +kernel
theorem dX6_many_96 : decode cX6_many 96 = .ok (.getfield 293, 3) := by decide +kernel
theorem dX6_many_99 : decode cX6_many 99 = .ok (.ireturn, 1) := by decide +kernel
theorem dX6_many_100 : decode cX6_many 100 = .ok (.iconst (-1), 1) := by decide +kernel
theorem dX6_many_101 : decode cX6_many 101 = .ok (.ireturn, 1) := by decide +kernel
def p_X6_many (F : tF) (Fn : tF) (An : tA) (Fp : tF) (Ap : tA) (Ff : tF) (Af : tA) (x1 : Int32) (K : Int32 → tF → tA → Prop) : Prop := ((x1 = (0 : Int32) → (K (Fn 8) Fn An)) ∧ (x1 = (1 : Int32) → (p_X2_placesWithVotes Fn An (fun r56 Fn_56 An_56 => (K r56 Fn_56 An_56)))) ∧ (x1 = (2 : Int32) → (p_X2_onesThatCount Fn An (fun r64 => (K r64 Fn An)))) ∧ (x1 = (3 : Int32) → (p_X2_scaredOnes Fn An (fun r72 => (p_J6_bitCount_0f7a4 r72 (fun r75 => (K r75 Fn An)))))) ∧ (x1 = (4 : Int32) → (K (F 9) Fn An)) ∧ (x1 = (5 : Int32) → (K (Fp 1) Fn An)) ∧ (x1 = (6 : Int32) → (K (Ff 1) Fn An)) ∧ (¬ x1 = (0 : Int32) → ¬ x1 = (1 : Int32) → ¬ x1 = (2 : Int32) → ¬ x1 = (3 : Int32) → ¬ x1 = (4 : Int32) → ¬ x1 = (5 : Int32) → ¬ x1 = (6 : Int32) → (K (-1 : Int32) Fn An)))
set_option maxHeartbeats 4000000 in
set_option maxRecDepth 100000 in
theorem w_X6_many (l : Launch) (D : va_G) (cI cZ cR : ClassId) (adK adV : Nat → Nat) (sz : Nat) (o : Nat) (q : Nat → Nat) (qn : Nat → Nat) (qp : Nat → Nat) (qf : Nat → Nat) (F : tF) (Fn : tF) (An : tA) (Fp : tF) (Ap : tA) (Ff : tF) (Af : tA) (x1 : Int32) (K : Int32 → tF → tA → Prop) (h : p_X6_many F Fn An Fp Ap Ff Af x1 K) : MI l D cI cZ cR adK adV yX6_many cX6_many 2 (some .int) (rmN 5 192) [.ref o, .int x1] (wX6 o q F ++ wX2 cI cZ (q 0) qn Fn An ++ wX3 cI cZ (q 4) qp Fp Ap ++ wX4 cI cZ (q 7) qf Ff Af : va_W) sz (fun (r : Int32) (u : (tF × tA)) => K r u.1 u.2) (fun (u : (tF × tA)) => (wX6 o q F ++ wX2 cI cZ (q 0) qn u.1 u.2 ++ wX3 cI cZ (q 4) qp Fp Ap ++ wX4 cI cZ (q 7) qf Ff Af : va_W)) := by
  refine M_i (by decide +kernel) (Nat.le_of_ble_eq_true rfl) ?_
  intro p e s m args below meth c Q A9 ls X ret hP hD hS hl
  obtain ⟨hx, hb, hml, ht, hown, hK, hA, hE⟩ := id X
  have hl : lv_has ls 2 [(0, .ref o), (1, .int x1)] := hl
  unfold p_X6_many at h
  refine lv_iload_n hx hb dX6_many_0 rfl (lv_at hl 1 rfl) ?_
  by_cases c1_0 : x1 = (0 : Int32)
  · replace h := h.1 c1_0
    refine lv_tableIn (tgt := 44) hx hb dX6_many_1 (by rw [c1_0]; decide) (by rw [c1_0]; decide) (by rw [c1_0]; rfl) (by decide) ?_
    refine lv_aload_n hx hb dX6_many_44 rfl (lv_at hl 0 rfl) ?_
    refine va_get (C := RX6) (T := TX6) (N := 13) (own := RX6) (v := .ref (q 0)) hx hb ht inlX6 hown hK hP 0 rfl rfl 0 (Nat.le_of_ble_eq_true rfl) (ht _ mw_1_16) (fun _ h9 => h9) rfl dX6_many_45 ?_
    refine va_get (C := RX2) (T := TX2) (N := 13) (own := RX6) (v := .int (Fn 8)) hx hb ht inlX2 hown hK hP 1 rfl rfl 8 (Nat.le_of_ble_eq_true rfl) (ht _ mw_7_2) (fun _ h9 => h9) rfl dX6_many_48 ?_
    exact ret _ (Fn, An) _ _ _ _ dX6_many_51 h hP hD hS
  by_cases c1_1 : x1 = (1 : Int32)
  · replace h := h.2.1 c1_1
    refine lv_tableIn (tgt := 52) hx hb dX6_many_1 (by rw [c1_1]; decide) (by rw [c1_1]; decide) (by rw [c1_1]; rfl) (by decide) ?_
    refine lv_aload_n hx hb dX6_many_52 rfl (lv_at hl 0 rfl) ?_
    refine va_get (C := RX6) (T := TX6) (N := 13) (own := RX6) (v := .ref (q 0)) hx hb ht inlX6 hown hK hP 0 rfl rfl 0 (Nat.le_of_ble_eq_true rfl) (ht _ mw_1_16) (fun _ h9 => h9) rfl dX6_many_53 ?_
    refine C_vi (wr := [0, 10, 11, 12, 13].filterMap (fun i => (wX6 o q F ++ wX2 cI cZ (q 0) qn Fn An ++ wX3 cI cZ (q 4) qp Fp Ap ++ wX4 cI cZ (q 7) qf Ff Af : va_W)[i]?)) X hP hD hS [] [] (w_X2_placesWithVotes l D cI cZ cR adK adV _ (q 0) qn Fn An _ h) cal_X2_placesWithVotes mw_50_20 rfl [1, 2, 3, 4, 5, 6, 7, 8, 9] [0, 10, 11, 12, 13] [0, 5, 6, 7, 8, 9, 10, 11, 12, 13, 1, 2, 3, 4] (fun u => (wX6 o q F ++ wX2 cI cZ (q 0) qn u.1 u.2 ++ wX3 cI cZ (q 4) qp Fp Ap ++ wX4 cI cZ (q 7) qf Ff Af : va_W)) rfl rfl (fun _ => rfl) rfl 1 rfl rfl ⟨rfl, rfl⟩ ⟨Nat.le_of_ble_eq_true rfl, Nat.le_of_ble_eq_true rfl⟩ hl.1 rfl (Nat.le_of_ble_eq_true rfl) ⟨Nat.zero_le _, Nat.zero_le _⟩ dX6_many_56 (fun r56 u H locs h hP hD hS => ?_)
    obtain ⟨Fn_56, An_56⟩ := u
    try dsimp only at h
    have hP : va_P D vwCl (wX6 o q F ++ wX2 cI cZ (q 0) qn Fn_56 An_56 ++ wX3 cI cZ (q 4) qp Fp Ap ++ wX4 cI cZ (q 7) qf Ff Af : va_W) H := hP
    have hD : va_D A9 (wX6 o q F ++ wX2 cI cZ (q 0) qn Fn_56 An_56 ++ wX3 cI cZ (q 4) qp Fp Ap ++ wX4 cI cZ (q 7) qf Ff Af : va_W) := hD
    exact ret _ (Fn_56, An_56) _ _ _ _ dX6_many_59 h hP hD hS
  by_cases c1_2 : x1 = (2 : Int32)
  · replace h := h.2.2.1 c1_2
    refine lv_tableIn (tgt := 60) hx hb dX6_many_1 (by rw [c1_2]; decide) (by rw [c1_2]; decide) (by rw [c1_2]; rfl) (by decide) ?_
    refine lv_aload_n hx hb dX6_many_60 rfl (lv_at hl 0 rfl) ?_
    refine va_get (C := RX6) (T := TX6) (N := 13) (own := RX6) (v := .ref (q 0)) hx hb ht inlX6 hown hK hP 0 rfl rfl 0 (Nat.le_of_ble_eq_true rfl) (ht _ mw_1_16) (fun _ h9 => h9) rfl dX6_many_61 ?_
    refine C_vi (wr := [0, 10, 11, 12, 13].filterMap (fun i => (wX6 o q F ++ wX2 cI cZ (q 0) qn Fn An ++ wX3 cI cZ (q 4) qp Fp Ap ++ wX4 cI cZ (q 7) qf Ff Af : va_W)[i]?)) X hP hD hS [] [] (w_X2_onesThatCount l D cI cZ cR adK adV _ (q 0) qn Fn An _ h) cal_X2_onesThatCount mw_51_0 rfl [1, 2, 3, 4, 5, 6, 7, 8, 9] [0, 10, 11, 12, 13] [0, 5, 6, 7, 8, 9, 10, 11, 12, 13, 1, 2, 3, 4] (fun u => (wX6 o q F ++ wX2 cI cZ (q 0) qn Fn An ++ wX3 cI cZ (q 4) qp Fp Ap ++ wX4 cI cZ (q 7) qf Ff Af : va_W)) rfl rfl (fun _ => rfl) rfl 1 rfl rfl ⟨rfl, rfl⟩ ⟨Nat.le_of_ble_eq_true rfl, Nat.le_of_ble_eq_true rfl⟩ hl.1 rfl (Nat.le_of_ble_eq_true rfl) ⟨Nat.zero_le _, Nat.zero_le _⟩ dX6_many_64 (fun r64 u H locs h hP hD hS => ?_)
    exact ret _ (Fn, An) _ _ _ _ dX6_many_67 h hP hD hS
  by_cases c1_3 : x1 = (3 : Int32)
  · replace h := h.2.2.2.1 c1_3
    refine lv_tableIn (tgt := 68) hx hb dX6_many_1 (by rw [c1_3]; decide) (by rw [c1_3]; decide) (by rw [c1_3]; rfl) (by decide) ?_
    refine lv_aload_n hx hb dX6_many_68 rfl (lv_at hl 0 rfl) ?_
    refine va_get (C := RX6) (T := TX6) (N := 13) (own := RX6) (v := .ref (q 0)) hx hb ht inlX6 hown hK hP 0 rfl rfl 0 (Nat.le_of_ble_eq_true rfl) (ht _ mw_1_16) (fun _ h9 => h9) rfl dX6_many_69 ?_
    refine C_vi (wr := [0, 10, 11, 12, 13].filterMap (fun i => (wX6 o q F ++ wX2 cI cZ (q 0) qn Fn An ++ wX3 cI cZ (q 4) qp Fp Ap ++ wX4 cI cZ (q 7) qf Ff Af : va_W)[i]?)) X hP hD hS [] [] (w_X2_scaredOnes l D cI cZ cR adK adV _ (q 0) qn Fn An _ h) cal_X2_scaredOnes mw_28_13 rfl [1, 2, 3, 4, 5, 6, 7, 8, 9] [0, 10, 11, 12, 13] [0, 5, 6, 7, 8, 9, 10, 11, 12, 13, 1, 2, 3, 4] (fun u => (wX6 o q F ++ wX2 cI cZ (q 0) qn Fn An ++ wX3 cI cZ (q 4) qp Fp Ap ++ wX4 cI cZ (q 7) qf Ff Af : va_W)) rfl rfl (fun _ => rfl) rfl 1 rfl rfl ⟨rfl, rfl⟩ ⟨Nat.le_of_ble_eq_true rfl, Nat.le_of_ble_eq_true rfl⟩ hl.1 rfl (Nat.le_of_ble_eq_true rfl) ⟨Nat.zero_le _, Nat.zero_le _⟩ dX6_many_72 (fun r72 u H locs h hP hD hS => ?_)
    refine C_si (wr := [0, 1, 2, 3, 4, 5, 6, 7, 8, 9, 10, 11, 12, 13].filterMap (fun i => (wX6 o q F ++ wX2 cI cZ (q 0) qn Fn An ++ wX3 cI cZ (q 4) qp Fp Ap ++ wX4 cI cZ (q 7) qf Ff Af : va_W)[i]?)) X hP hD hS [.int r72] [] (w_J6_bitCount_0f7a4 l D cI cZ cR adK adV _ r72 _ h) cal_J6_bitCount_0f7a4 mw_51_4 rfl [] [0, 1, 2, 3, 4, 5, 6, 7, 8, 9, 10, 11, 12, 13] [0, 1, 2, 3, 4, 5, 6, 7, 8, 9, 10, 11, 12, 13] (fun u => (wX6 o q F ++ wX2 cI cZ (q 0) qn Fn An ++ wX3 cI cZ (q 4) qp Fp Ap ++ wX4 cI cZ (q 7) qf Ff Af : va_W)) rfl rfl (fun _ => rfl) rfl ⟨rfl, rfl⟩ ⟨Nat.le_of_ble_eq_true rfl, Nat.le_of_ble_eq_true rfl⟩ hl.1 rfl (Nat.le_of_ble_eq_true rfl) ⟨Nat.zero_le _, Nat.zero_le _⟩ dX6_many_75 (fun r75 u H locs h hP hD hS => ?_)
    exact ret _ (Fn, An) _ _ _ _ dX6_many_78 h hP hD hS
  by_cases c1_4 : x1 = (4 : Int32)
  · replace h := h.2.2.2.2.1 c1_4
    refine lv_tableIn (tgt := 79) hx hb dX6_many_1 (by rw [c1_4]; decide) (by rw [c1_4]; decide) (by rw [c1_4]; rfl) (by decide) ?_
    refine lv_aload_n hx hb dX6_many_79 rfl (lv_at hl 0 rfl) ?_
    refine va_get (C := RX6) (T := TX6) (N := 13) (own := RX6) (v := .int (F 9)) hx hb ht inlX6 hown hK hP 0 rfl rfl 9 (Nat.le_of_ble_eq_true rfl) (ht _ mw_2_14) (fun _ h9 => h9) rfl dX6_many_80 ?_
    exact ret _ (Fn, An) _ _ _ _ dX6_many_83 h hP hD hS
  by_cases c1_5 : x1 = (5 : Int32)
  · replace h := h.2.2.2.2.2.1 c1_5
    refine lv_tableIn (tgt := 84) hx hb dX6_many_1 (by rw [c1_5]; decide) (by rw [c1_5]; decide) (by rw [c1_5]; rfl) (by decide) ?_
    refine lv_aload_n hx hb dX6_many_84 rfl (lv_at hl 0 rfl) ?_
    refine va_get (C := RX6) (T := TX6) (N := 13) (own := RX6) (v := .ref (q 4)) hx hb ht inlX6 hown hK hP 0 rfl rfl 4 (Nat.le_of_ble_eq_true rfl) (ht _ mw_1_23) (fun _ h9 => h9) rfl dX6_many_85 ?_
    refine va_get (C := RX3) (T := TX3) (N := 4) (own := RX6) (v := .int (Fp 1)) hx hb ht inlX3 hown hK hP 10 rfl rfl 1 (Nat.le_of_ble_eq_true rfl) (ht _ mw_6_6) (fun _ h9 => h9) rfl dX6_many_88 ?_
    exact ret _ (Fn, An) _ _ _ _ dX6_many_91 h hP hD hS
  by_cases c1_6 : x1 = (6 : Int32)
  · replace h := h.2.2.2.2.2.2.1 c1_6
    refine lv_tableIn (tgt := 92) hx hb dX6_many_1 (by rw [c1_6]; decide) (by rw [c1_6]; decide) (by rw [c1_6]; rfl) (by decide) ?_
    refine lv_aload_n hx hb dX6_many_92 rfl (lv_at hl 0 rfl) ?_
    refine va_get (C := RX6) (T := TX6) (N := 13) (own := RX6) (v := .ref (q 7)) hx hb ht inlX6 hown hK hP 0 rfl rfl 7 (Nat.le_of_ble_eq_true rfl) (ht _ mw_2_11) (fun _ h9 => h9) rfl dX6_many_93 ?_
    refine va_get (C := RX4) (T := TX4) (N := 6) (own := RX6) (v := .int (Ff 1)) hx hb ht inlX4 hown hK hP 12 rfl rfl 1 (Nat.le_of_ble_eq_true rfl) (ht _ mw_50_10) (fun _ h9 => h9) rfl dX6_many_96 ?_
    exact ret _ (Fn, An) _ _ _ _ dX6_many_99 h hP hD hS
  replace h := h.2.2.2.2.2.2.2 c1_0 c1_1 c1_2 c1_3 c1_4 c1_5 c1_6
  refine g_tdef (tgt := 100) hx hb dX6_many_1 ?_ (by decide) ?_
  · exact Or.inl (sw0_6 c1_0 c1_1 c1_2 c1_3 c1_4 c1_5 c1_6)
  refine lv_iconst (v := -1) hx hb dX6_many_100 (by decide) ?_
  exact ret _ (Fn, An) _ _ _ _ dX6_many_101 h hP hD hS
theorem dX6_keep_0 : decode cX6_keep 0 = .ok (.aload_n 0, 1) := by decide +kernel
theorem dX6_keep_1 : decode cX6_keep 1 = .ok (.getfield 19, 3) := by decide +kernel
theorem dX6_keep_4 : decode cX6_keep 4 = .ok (.aload_n 0, 1) := by decide +kernel
theorem dX6_keep_5 : decode cX6_keep 5 = .ok (.getfield 10, 3) := by decide +kernel
theorem dX6_keep_8 : decode cX6_keep 8 = .ok (.invokevirtual 81, 3) := by decide +kernel
theorem dX6_keep_11 : decode cX6_keep 11 = .ok (.aload_n 0, 1) := by decide +kernel
theorem dX6_keep_12 : decode cX6_keep 12 = .ok (.iconst 1, 1) := by decide +kernel
theorem dX6_keep_13 : decode cX6_keep 13 = .ok (.putfield 22, 3) := by decide +kernel
theorem dX6_keep_16 : decode cX6_keep 16 = .ok (.iconst 1, 1) := by decide +kernel
theorem dX6_keep_17 : decode cX6_keep 17 = .ok (.ireturn, 1) := by decide +kernel
def p_X6_keep (F : tF) (Fk : tF) (Ak : tA) (Fn : tF) (An : tA) (K : Int32 → tF → tF → tA → Prop) : Prop := (p_X2_copyFrom Fk Ak Fn An (fun Fk_8 Ak_8 => (K (1 : Int32) (upd F 3 (1 : Int32)) Fk_8 Ak_8)))
set_option maxHeartbeats 4000000 in
set_option maxRecDepth 100000 in
theorem w_X6_keep (l : Launch) (D : va_G) (cI cZ cR : ClassId) (adK adV : Nat → Nat) (sz : Nat) (o : Nat) (q : Nat → Nat) (qk : Nat → Nat) (qn : Nat → Nat) (F : tF) (Fk : tF) (Ak : tA) (Fn : tF) (An : tA) (K : Int32 → tF → tF → tA → Prop) (h : p_X6_keep F Fk Ak Fn An K) : MI l D cI cZ cR adK adV yX6_keep cX6_keep 1 (some .int) (rmN 2 121) [.ref o] (wX6 o q F ++ wX2 cI cZ (q 2) qk Fk Ak ++ wX2 cI cZ (q 0) qn Fn An : va_W) sz (fun (r : Int32) (u : tF × (tF × tA)) => K r u.1 u.2.1 u.2.2) (fun (u : tF × (tF × tA)) => (wX6 o q u.1 ++ wX2 cI cZ (q 2) qk u.2.1 u.2.2 ++ wX2 cI cZ (q 0) qn Fn An : va_W)) := by
  refine M_i (by decide +kernel) (Nat.le_of_ble_eq_true rfl) ?_
  intro p e s m args below meth c Q A9 ls X ret hP hD hS hl
  obtain ⟨hx, hb, hml, ht, hown, hK, hA, hE⟩ := id X
  have hl : lv_has ls 1 [(0, .ref o)] := hl
  unfold p_X6_keep at h
  refine lv_aload_n hx hb dX6_keep_0 rfl (lv_at hl 0 rfl) ?_
  refine va_get (C := RX6) (T := TX6) (N := 13) (own := RX6) (v := .ref (q 2)) hx hb ht inlX6 hown hK hP 0 rfl rfl 2 (Nat.le_of_ble_eq_true rfl) (ht _ mw_1_18) (fun _ h9 => h9) rfl dX6_keep_1 ?_
  refine lv_aload_n hx hb dX6_keep_4 rfl (lv_at hl 0 rfl) ?_
  refine va_get (C := RX6) (T := TX6) (N := 13) (own := RX6) (v := .ref (q 0)) hx hb ht inlX6 hown hK hP 0 rfl rfl 0 (Nat.le_of_ble_eq_true rfl) (ht _ mw_1_16) (fun _ h9 => h9) rfl dX6_keep_5 ?_
  refine C_vv (wr := [0].filterMap (fun i => (wX6 o q F ++ wX2 cI cZ (q 2) qk Fk Ak ++ wX2 cI cZ (q 0) qn Fn An : va_W)[i]?)) X hP hD hS [.ref (q 0)] [] (w_X2_copyFrom l D cI cZ cR adK adV _ (q 2) qk (q 0) qn Fk Ak Fn An _ h) cal_X2_copyFrom mw_7_3 rfl [1, 2, 3, 4, 5, 6, 7, 8, 9, 10, 11, 12, 13, 14, 15, 16, 17, 18] [0] [0, 1, 2, 3, 4, 5, 6, 7, 8, 9, 10, 11, 12, 13, 14, 15, 16, 17, 18] (fun u => (wX6 o q F ++ wX2 cI cZ (q 2) qk u.1 u.2 ++ wX2 cI cZ (q 0) qn Fn An : va_W)) rfl rfl (fun _ => rfl) rfl 1 rfl rfl ⟨rfl, rfl⟩ ⟨Nat.le_of_ble_eq_true rfl, Nat.le_of_ble_eq_true rfl⟩ hl.1 rfl (Nat.le_of_ble_eq_true rfl) ⟨Nat.zero_le _, Nat.zero_le _⟩ dX6_keep_8 (fun u H locs h hP hD hS => ?_)
  obtain ⟨Fk_8, Ak_8⟩ := u
  try dsimp only at h
  have hP : va_P D vwCl (wX6 o q F ++ wX2 cI cZ (q 2) qk Fk_8 Ak_8 ++ wX2 cI cZ (q 0) qn Fn An : va_W) H := hP
  have hD : va_D A9 (wX6 o q F ++ wX2 cI cZ (q 2) qk Fk_8 Ak_8 ++ wX2 cI cZ (q 0) qn Fn An : va_W) := hD
  refine lv_aload_n hx hb dX6_keep_11 rfl (lv_at hl 0 rfl) ?_
  refine lv_iconst (v := 1) hx hb dX6_keep_12 (by decide) ?_
  refine va_put (C := RX6) (T := TX6) (N := 13) (own := RX6) (v := .int (1 : Int32)) hx hb ht inlX6 tyX6 tyX6_ok nmX6 hown hK hP hD hS 0 rfl rfl 3 (Nat.le_of_ble_eq_true rfl) (ht _ mw_1_19) (fun _ h9 => h9) rfl (tyX6_ok 3 (Nat.le_of_ble_eq_true rfl)) rfl rfl (Nat.le_of_ble_eq_true rfl) dX6_keep_13 (fun H locs hP hD hS => ?_)
  have hP : va_P D vwCl (wX6 o q (upd F 3 (1 : Int32)) ++ wX2 cI cZ (q 2) qk Fk_8 Ak_8 ++ wX2 cI cZ (q 0) qn Fn An : va_W) H := hP
  have hD : va_D A9 (wX6 o q (upd F 3 (1 : Int32)) ++ wX2 cI cZ (q 2) qk Fk_8 Ak_8 ++ wX2 cI cZ (q 0) qn Fn An : va_W) := hD
  refine lv_iconst (v := 1) hx hb dX6_keep_16 (by decide) ?_
  exact ret _ ((upd F 3 (1 : Int32)), (Fk_8, Ak_8)) _ _ _ _ dX6_keep_17 h hP hD hS
theorem dX6_again_0 : decode cX6_again 0 = .ok (.aload_n 0, 1) := by decide +kernel
theorem dX6_again_1 : decode cX6_again 1 = .ok (.getfield 22, 3) := by decide +kernel
theorem dX6_again_4 : decode cX6_again 4 = .ok (.ifCond .ne 6, 3) := by decide +kernel
theorem dX6_again_7 : decode cX6_again 7 = .ok (.bipush (-3), 2) := by decide +kernel
theorem dX6_again_9 : decode cX6_again 9 = .ok (.ireturn, 1) := by decide +kernel
theorem dX6_again_10 : decode cX6_again 10 = .ok (.aload_n 0, 1) := by decide +kernel
theorem dX6_again_11 : decode cX6_again 11 = .ok (.getfield 10, 3) := by decide +kernel
theorem dX6_again_14 : decode cX6_again 14 = .ok (.aload_n 0, 1) := by decide +kernel
theorem dX6_again_15 : decode cX6_again 15 = .ok (.getfield 19, 3) := by decide +kernel
theorem dX6_again_18 : decode cX6_again 18 = .ok (.invokevirtual 81, 3) := by decide +kernel
theorem dX6_again_21 : decode cX6_again 21 = .ok (.aload_n 0, 1) := by decide +kernel
theorem dX6_again_22 : decode cX6_again 22 = .ok (.getfield 10, 3) := by decide +kernel
theorem dX6_again_25 : decode cX6_again 25 = .ok (.getfield 92, 3) := by decide +kernel
theorem dX6_again_28 : decode cX6_again 28 = .ok (.ireturn, 1) := by decide +kernel
def p_X6_again (F : tF) (Fn : tF) (An : tA) (Fk : tF) (Ak : tA) (K : Int32 → tF → tA → Prop) : Prop := ((¬ (F 3) = 0 → (p_X2_copyFrom Fn An Fk Ak (fun Fn_18 An_18 => (K (Fn_18 8) Fn_18 An_18)))) ∧ ((F 3) = 0 → (K (-3 : Int32) Fn An)))
set_option maxHeartbeats 4000000 in
set_option maxRecDepth 100000 in
theorem w_X6_again (l : Launch) (D : va_G) (cI cZ cR : ClassId) (adK adV : Nat → Nat) (sz : Nat) (o : Nat) (q : Nat → Nat) (qn : Nat → Nat) (qk : Nat → Nat) (F : tF) (Fn : tF) (An : tA) (Fk : tF) (Ak : tA) (K : Int32 → tF → tA → Prop) (h : p_X6_again F Fn An Fk Ak K) : MI l D cI cZ cR adK adV yX6_again cX6_again 1 (some .int) (rmN 2 121) [.ref o] (wX6 o q F ++ wX2 cI cZ (q 0) qn Fn An ++ wX2 cI cZ (q 2) qk Fk Ak : va_W) sz (fun (r : Int32) (u : (tF × tA)) => K r u.1 u.2) (fun (u : (tF × tA)) => (wX6 o q F ++ wX2 cI cZ (q 0) qn u.1 u.2 ++ wX2 cI cZ (q 2) qk Fk Ak : va_W)) := by
  refine M_i (by decide +kernel) (Nat.le_of_ble_eq_true rfl) ?_
  intro p e s m args below meth c Q A9 ls X ret hP hD hS hl
  obtain ⟨hx, hb, hml, ht, hown, hK, hA, hE⟩ := id X
  have hl : lv_has ls 1 [(0, .ref o)] := hl
  unfold p_X6_again at h
  refine lv_aload_n hx hb dX6_again_0 rfl (lv_at hl 0 rfl) ?_
  refine va_get (C := RX6) (T := TX6) (N := 13) (own := RX6) (v := .int (F 3)) hx hb ht inlX6 hown hK hP 0 rfl rfl 3 (Nat.le_of_ble_eq_true rfl) (ht _ mw_1_19) (fun _ h9 => h9) rfl dX6_again_1 ?_
  refine lv_if_ne (tgt := 10) hx hb dX6_again_4 (by decide) (fun c4 => ?_) (fun c4 => ?_)
  · replace h := h.1 c4
    refine lv_aload_n hx hb dX6_again_10 rfl (lv_at hl 0 rfl) ?_
    refine va_get (C := RX6) (T := TX6) (N := 13) (own := RX6) (v := .ref (q 0)) hx hb ht inlX6 hown hK hP 0 rfl rfl 0 (Nat.le_of_ble_eq_true rfl) (ht _ mw_1_16) (fun _ h9 => h9) rfl dX6_again_11 ?_
    refine lv_aload_n hx hb dX6_again_14 rfl (lv_at hl 0 rfl) ?_
    refine va_get (C := RX6) (T := TX6) (N := 13) (own := RX6) (v := .ref (q 2)) hx hb ht inlX6 hown hK hP 0 rfl rfl 2 (Nat.le_of_ble_eq_true rfl) (ht _ mw_1_18) (fun _ h9 => h9) rfl dX6_again_15 ?_
    refine C_vv (wr := [0].filterMap (fun i => (wX6 o q F ++ wX2 cI cZ (q 0) qn Fn An ++ wX2 cI cZ (q 2) qk Fk Ak : va_W)[i]?)) X hP hD hS [.ref (q 2)] [] (w_X2_copyFrom l D cI cZ cR adK adV _ (q 0) qn (q 2) qk Fn An Fk Ak _ h) cal_X2_copyFrom mw_7_3 rfl [1, 2, 3, 4, 5, 6, 7, 8, 9, 10, 11, 12, 13, 14, 15, 16, 17, 18] [0] [0, 1, 2, 3, 4, 5, 6, 7, 8, 9, 10, 11, 12, 13, 14, 15, 16, 17, 18] (fun u => (wX6 o q F ++ wX2 cI cZ (q 0) qn u.1 u.2 ++ wX2 cI cZ (q 2) qk Fk Ak : va_W)) rfl rfl (fun _ => rfl) rfl 1 rfl rfl ⟨rfl, rfl⟩ ⟨Nat.le_of_ble_eq_true rfl, Nat.le_of_ble_eq_true rfl⟩ hl.1 rfl (Nat.le_of_ble_eq_true rfl) ⟨Nat.zero_le _, Nat.zero_le _⟩ dX6_again_18 (fun u H locs h hP hD hS => ?_)
    obtain ⟨Fn_18, An_18⟩ := u
    try dsimp only at h
    have hP : va_P D vwCl (wX6 o q F ++ wX2 cI cZ (q 0) qn Fn_18 An_18 ++ wX2 cI cZ (q 2) qk Fk Ak : va_W) H := hP
    have hD : va_D A9 (wX6 o q F ++ wX2 cI cZ (q 0) qn Fn_18 An_18 ++ wX2 cI cZ (q 2) qk Fk Ak : va_W) := hD
    refine lv_aload_n hx hb dX6_again_21 rfl (lv_at hl 0 rfl) ?_
    refine va_get (C := RX6) (T := TX6) (N := 13) (own := RX6) (v := .ref (q 0)) hx hb ht inlX6 hown hK hP 0 rfl rfl 0 (Nat.le_of_ble_eq_true rfl) (ht _ mw_1_16) (fun _ h9 => h9) rfl dX6_again_22 ?_
    refine va_get (C := RX2) (T := TX2) (N := 13) (own := RX6) (v := .int (Fn_18 8)) hx hb ht inlX2 hown hK hP 1 rfl rfl 8 (Nat.le_of_ble_eq_true rfl) (ht _ mw_7_2) (fun _ h9 => h9) rfl dX6_again_25 ?_
    exact ret _ (Fn_18, An_18) _ _ _ _ dX6_again_28 h hP hD hS
  · replace h := h.2 c4
    refine lv_bipush (v := -3) hx hb dX6_again_7 (by decide) ?_
    exact ret _ (Fn, An) _ _ _ _ dX6_again_9 h hP hD hS
theorem cal_X2_startOver : CalV yX2_startOver cX2_startOver 2 none 0 := ⟨mw_3_15, mw_1_15, mw_3_13, mw_3_14, ⟨by decide +kernel, by decide +kernel, by decide +kernel⟩⟩
theorem cal_X3_readOnto : CalV yX3_readOnto cX3_readOnto 3 (some .int) 1 := ⟨mw_7_15, mw_1_22, mw_7_13, mw_7_14, ⟨by decide +kernel, by decide +kernel, by decide +kernel⟩⟩
theorem dX6_hill_0 : decode cX6_hill 0 = .ok (.aload_n 0, 1) := by decide +kernel
theorem dX6_hill_1 : decode cX6_hill 1 = .ok (.getfield 16, 3) := by decide +kernel
theorem dX6_hill_4 : decode cX6_hill 4 = .ok (.aload_n 0, 1) := by decide +kernel
theorem dX6_hill_5 : decode cX6_hill 5 = .ok (.getfield 10, 3) := by decide +kernel
theorem dX6_hill_8 : decode cX6_hill 8 = .ok (.invokevirtual 81, 3) := by decide +kernel
theorem dX6_hill_11 : decode cX6_hill 11 = .ok (.aload_n 0, 1) := by decide +kernel
theorem dX6_hill_12 : decode cX6_hill 12 = .ok (.getfield 16, 3) := by decide +kernel
theorem dX6_hill_15 : decode cX6_hill 15 = .ok (.invokevirtual 85, 3) := by decide +kernel
theorem dX6_hill_18 : decode cX6_hill 18 = .ok (.aload_n 0, 1) := by decide +kernel
theorem dX6_hill_19 : decode cX6_hill 19 = .ok (.getfield 29, 3) := by decide +kernel
theorem dX6_hill_22 : decode cX6_hill 22 = .ok (.aload_n 0, 1) := by decide +kernel
theorem dX6_hill_23 : decode cX6_hill 23 = .ok (.getfield 16, 3) := by decide +kernel
theorem dX6_hill_26 : decode cX6_hill 26 = .ok (.invokevirtual 88, 3) := by decide +kernel
theorem dX6_hill_29 : decode cX6_hill 29 = .ok (.istore_n 1, 1) := by decide +kernel
theorem dX6_hill_30 : decode cX6_hill 30 = .ok (.aload_n 0, 1) := by decide +kernel
theorem dX6_hill_31 : decode cX6_hill 31 = .ok (.getfield 29, 3) := by decide +kernel
theorem dX6_hill_34 : decode cX6_hill 34 = .ok (.iconst 0, 1) := by decide +kernel
theorem dX6_hill_35 : decode cX6_hill 35 = .ok (.putfield 74, 3) := by decide +kernel
theorem dX6_hill_38 : decode cX6_hill 38 = .ok (.iload_n 1, 1) := by decide +kernel
theorem dX6_hill_39 : decode cX6_hill 39 = .ok (.iconst (-1), 1) := by decide +kernel
theorem dX6_hill_40 : decode cX6_hill 40 = .ok (.if_icmp .eq 8, 3) := by decide +kernel
theorem dX6_hill_43 : decode cX6_hill 43 = .ok (.bipush (-100), 2) := by decide +kernel
theorem dX6_hill_45 : decode cX6_hill 45 = .ok (.iload_n 1, 1) := by decide +kernel
theorem dX6_hill_46 : decode cX6_hill 46 = .ok (.isub, 1) := by decide +kernel
theorem dX6_hill_47 : decode cX6_hill 47 = .ok (.ireturn, 1) := by decide +kernel
theorem dX6_hill_48 : decode cX6_hill 48 = .ok (.aload_n 0, 1) := by decide +kernel
theorem dX6_hill_49 : decode cX6_hill 49 = .ok (.getfield 10, 3) := by decide +kernel
theorem dX6_hill_52 : decode cX6_hill 52 = .ok (.aload_n 0, 1) := by decide +kernel
theorem dX6_hill_53 : decode cX6_hill 53 = .ok (.getfield 16, 3) := by decide +kernel
theorem dX6_hill_56 : decode cX6_hill 56 = .ok (.invokevirtual 81, 3) := by decide +kernel
theorem dX6_hill_59 : decode cX6_hill 59 = .ok (.aload_n 0, 1) := by decide +kernel
theorem dX6_hill_60 : decode cX6_hill 60 = .ok (.iconst 0, 1) := by decide +kernel
theorem dX6_hill_61 : decode cX6_hill 61 = .ok (.putfield 58, 3) := by decide +kernel
theorem dX6_hill_64 : decode cX6_hill 64 = .ok (.aload_n 0, 1) := by decide +kernel
theorem dX6_hill_65 : decode cX6_hill 65 = .ok (.getfield 10, 3) := by decide +kernel
theorem dX6_hill_68 : decode cX6_hill 68 = .ok (.getfield 92, 3) := by decide +kernel
theorem dX6_hill_71 : decode cX6_hill 71 = .ok (.ireturn, 1) := by decide +kernel
def p_X6_hill (F : tF) (Ft : tF) (At : tA) (Fn : tF) (An : tA) (Fp : tF) (Ap : tA) (K : Int32 → tF → tF → tA → tF → tA → tF → tA → Prop) : Prop := (p_X2_copyFrom Ft At Fn An (fun Ft_8 At_8 => (p_X2_startOver Ft_8 At_8 (fun Ft_15 At_15 => (p_X3_readOnto Fp Ap Ft_15 At_15 (fun r26 Fp_26 Ap_26 Ft_26 At_26 => ((r26 = (-1 : Int32) → (p_X2_copyFrom Fn An Ft_26 At_26 (fun Fn_56 An_56 => (K (Fn_56 8) (upd F 9 (0 : Int32)) Ft_26 At_26 Fn_56 An_56 (upd Fp_26 1 (0 : Int32)) Ap_26)))) ∧ (¬ r26 = (-1 : Int32) → (K ((-100 : Int32) - r26) F Ft_26 At_26 Fn An (upd Fp_26 1 (0 : Int32)) Ap_26)))))))))
set_option maxHeartbeats 4000000 in
set_option maxRecDepth 100000 in
theorem w_X6_hill (l : Launch) (D : va_G) (cI cZ cR : ClassId) (adK adV : Nat → Nat) (sz : Nat) (o : Nat) (q : Nat → Nat) (qt : Nat → Nat) (qn : Nat → Nat) (qp : Nat → Nat) (F : tF) (Ft : tF) (At : tA) (Fn : tF) (An : tA) (Fp : tF) (Ap : tA) (K : Int32 → tF → tF → tA → tF → tA → tF → tA → Prop) (h : p_X6_hill F Ft At Fn An Fp Ap K) : MI l D cI cZ cR adK adV yX6_hill cX6_hill 2 (some .int) (rmN 8 179) [.ref o] (wX6 o q F ++ wX2 cI cZ (q 1) qt Ft At ++ wX2 cI cZ (q 0) qn Fn An ++ wX3 cI cZ (q 4) qp Fp Ap : va_W) sz (fun (r : Int32) (u : tF × (tF × tA) × (tF × tA) × (tF × tA)) => K r u.1 u.2.1.1 u.2.1.2 u.2.2.1.1 u.2.2.1.2 u.2.2.2.1 u.2.2.2.2) (fun (u : tF × (tF × tA) × (tF × tA) × (tF × tA)) => (wX6 o q u.1 ++ wX2 cI cZ (q 1) qt u.2.1.1 u.2.1.2 ++ wX2 cI cZ (q 0) qn u.2.2.1.1 u.2.2.1.2 ++ wX3 cI cZ (q 4) qp u.2.2.2.1 u.2.2.2.2 : va_W)) := by
  refine M_i (by decide +kernel) (Nat.le_of_ble_eq_true rfl) ?_
  intro p e s m args below meth c Q A9 ls X ret hP hD hS hl
  obtain ⟨hx, hb, hml, ht, hown, hK, hA, hE⟩ := id X
  have hl : lv_has ls 2 [(0, .ref o)] := hl
  unfold p_X6_hill at h
  refine lv_aload_n hx hb dX6_hill_0 rfl (lv_at hl 0 rfl) ?_
  refine va_get (C := RX6) (T := TX6) (N := 13) (own := RX6) (v := .ref (q 1)) hx hb ht inlX6 hown hK hP 0 rfl rfl 1 (Nat.le_of_ble_eq_true rfl) (ht _ mw_1_17) (fun _ h9 => h9) rfl dX6_hill_1 ?_
  refine lv_aload_n hx hb dX6_hill_4 rfl (lv_at hl 0 rfl) ?_
  refine va_get (C := RX6) (T := TX6) (N := 13) (own := RX6) (v := .ref (q 0)) hx hb ht inlX6 hown hK hP 0 rfl rfl 0 (Nat.le_of_ble_eq_true rfl) (ht _ mw_1_16) (fun _ h9 => h9) rfl dX6_hill_5 ?_
  refine C_vv (wr := [0, 19, 20].filterMap (fun i => (wX6 o q F ++ wX2 cI cZ (q 1) qt Ft At ++ wX2 cI cZ (q 0) qn Fn An ++ wX3 cI cZ (q 4) qp Fp Ap : va_W)[i]?)) X hP hD hS [.ref (q 0)] [] (w_X2_copyFrom l D cI cZ cR adK adV _ (q 1) qt (q 0) qn Ft At Fn An _ h) cal_X2_copyFrom mw_7_3 rfl [1, 2, 3, 4, 5, 6, 7, 8, 9, 10, 11, 12, 13, 14, 15, 16, 17, 18] [0, 19, 20] [0, 3, 4, 5, 6, 7, 8, 9, 10, 11, 12, 13, 14, 15, 16, 17, 18, 19, 20, 1, 2] (fun u => (wX6 o q F ++ wX2 cI cZ (q 1) qt u.1 u.2 ++ wX2 cI cZ (q 0) qn Fn An ++ wX3 cI cZ (q 4) qp Fp Ap : va_W)) rfl rfl (fun _ => rfl) rfl 1 rfl rfl ⟨rfl, rfl⟩ ⟨Nat.le_of_ble_eq_true rfl, Nat.le_of_ble_eq_true rfl⟩ hl.1 rfl (Nat.le_of_ble_eq_true rfl) ⟨Nat.zero_le _, Nat.zero_le _⟩ dX6_hill_8 (fun u H locs h hP hD hS => ?_)
  obtain ⟨Ft_8, At_8⟩ := u
  try dsimp only at h
  have hP : va_P D vwCl (wX6 o q F ++ wX2 cI cZ (q 1) qt Ft_8 At_8 ++ wX2 cI cZ (q 0) qn Fn An ++ wX3 cI cZ (q 4) qp Fp Ap : va_W) H := hP
  have hD : va_D A9 (wX6 o q F ++ wX2 cI cZ (q 1) qt Ft_8 At_8 ++ wX2 cI cZ (q 0) qn Fn An ++ wX3 cI cZ (q 4) qp Fp Ap : va_W) := hD
  refine lv_aload_n hx hb dX6_hill_11 rfl (lv_at hl 0 rfl) ?_
  refine va_get (C := RX6) (T := TX6) (N := 13) (own := RX6) (v := .ref (q 1)) hx hb ht inlX6 hown hK hP 0 rfl rfl 1 (Nat.le_of_ble_eq_true rfl) (ht _ mw_1_17) (fun _ h9 => h9) rfl dX6_hill_12 ?_
  refine C_vv (wr := [0, 10, 11, 12, 13, 14, 15, 16, 17, 18, 19, 20].filterMap (fun i => (wX6 o q F ++ wX2 cI cZ (q 1) qt Ft_8 At_8 ++ wX2 cI cZ (q 0) qn Fn An ++ wX3 cI cZ (q 4) qp Fp Ap : va_W)[i]?)) X hP hD hS [] [] (w_X2_startOver l D cI cZ cR adK adV _ (q 1) qt Ft_8 At_8 _ h) cal_X2_startOver mw_7_11 rfl [1, 2, 3, 4, 5, 6, 7, 8, 9] [0, 10, 11, 12, 13, 14, 15, 16, 17, 18, 19, 20] [0, 12, 13, 14, 15, 16, 17, 18, 19, 20, 1, 2, 3, 4, 5, 6, 7, 8, 9, 10, 11] (fun u => (wX6 o q F ++ wX2 cI cZ (q 1) qt u.1 u.2 ++ wX2 cI cZ (q 0) qn Fn An ++ wX3 cI cZ (q 4) qp Fp Ap : va_W)) rfl rfl (fun _ => rfl) rfl 1 rfl rfl ⟨rfl, rfl⟩ ⟨Nat.le_of_ble_eq_true rfl, Nat.le_of_ble_eq_true rfl⟩ hl.1 rfl (Nat.le_of_ble_eq_true rfl) ⟨Nat.zero_le _, Nat.zero_le _⟩ dX6_hill_15 (fun u H locs h hP hD hS => ?_)
  obtain ⟨Ft_15, At_15⟩ := u
  try dsimp only at h
  have hP : va_P D vwCl (wX6 o q F ++ wX2 cI cZ (q 1) qt Ft_15 At_15 ++ wX2 cI cZ (q 0) qn Fn An ++ wX3 cI cZ (q 4) qp Fp Ap : va_W) H := hP
  have hD : va_D A9 (wX6 o q F ++ wX2 cI cZ (q 1) qt Ft_15 At_15 ++ wX2 cI cZ (q 0) qn Fn An ++ wX3 cI cZ (q 4) qp Fp Ap : va_W) := hD
  refine lv_aload_n hx hb dX6_hill_18 rfl (lv_at hl 0 rfl) ?_
  refine va_get (C := RX6) (T := TX6) (N := 13) (own := RX6) (v := .ref (q 4)) hx hb ht inlX6 hown hK hP 0 rfl rfl 4 (Nat.le_of_ble_eq_true rfl) (ht _ mw_1_23) (fun _ h9 => h9) rfl dX6_hill_19 ?_
  refine lv_aload_n hx hb dX6_hill_22 rfl (lv_at hl 0 rfl) ?_
  refine va_get (C := RX6) (T := TX6) (N := 13) (own := RX6) (v := .ref (q 1)) hx hb ht inlX6 hown hK hP 0 rfl rfl 1 (Nat.le_of_ble_eq_true rfl) (ht _ mw_1_17) (fun _ h9 => h9) rfl dX6_hill_23 ?_
  refine C_vi (wr := [0, 10, 11, 12, 13, 14, 15, 16, 17, 18].filterMap (fun i => (wX6 o q F ++ wX2 cI cZ (q 1) qt Ft_15 At_15 ++ wX2 cI cZ (q 0) qn Fn An ++ wX3 cI cZ (q 4) qp Fp Ap : va_W)[i]?)) X hP hD hS [.ref (q 1)] [] (w_X3_readOnto l D cI cZ cR adK adV _ (q 4) qp (q 1) qt Fp Ap Ft_15 At_15 _ h) cal_X3_readOnto mw_7_12 rfl [19, 20, 1, 2, 3, 4, 5, 6, 7, 8, 9] [0, 10, 11, 12, 13, 14, 15, 16, 17, 18] [0, 12, 13, 14, 15, 16, 17, 18, 19, 20, 1, 2, 3, 4, 5, 6, 7, 8, 9, 10, 11] (fun u => (wX6 o q F ++ wX2 cI cZ (q 1) qt u.2.1 u.2.2 ++ wX2 cI cZ (q 0) qn Fn An ++ wX3 cI cZ (q 4) qp u.1.1 u.1.2 : va_W)) rfl rfl (fun _ => rfl) rfl 19 rfl rfl ⟨rfl, rfl⟩ ⟨Nat.le_of_ble_eq_true rfl, Nat.le_of_ble_eq_true rfl⟩ hl.1 rfl (Nat.le_of_ble_eq_true rfl) ⟨Nat.zero_le _, Nat.zero_le _⟩ dX6_hill_26 (fun r26 u H locs h hP hD hS => ?_)
  obtain ⟨⟨Fp_26, Ap_26⟩, ⟨Ft_26, At_26⟩⟩ := u
  try dsimp only at h
  have hP : va_P D vwCl (wX6 o q F ++ wX2 cI cZ (q 1) qt Ft_26 At_26 ++ wX2 cI cZ (q 0) qn Fn An ++ wX3 cI cZ (q 4) qp Fp_26 Ap_26 : va_W) H := hP
  have hD : va_D A9 (wX6 o q F ++ wX2 cI cZ (q 1) qt Ft_26 At_26 ++ wX2 cI cZ (q 0) qn Fn An ++ wX3 cI cZ (q 4) qp Fp_26 Ap_26 : va_W) := hD
  refine lv_istore_n (lv' := [(1, .int r26), (0, .ref o)]) hx hb dX6_hill_29 rfl hl (by decide) rfl (fun ls hl => ?_)
  refine lv_aload_n hx hb dX6_hill_30 rfl (lv_at hl 1 rfl) ?_
  refine va_get (C := RX6) (T := TX6) (N := 13) (own := RX6) (v := .ref (q 4)) hx hb ht inlX6 hown hK hP 0 rfl rfl 4 (Nat.le_of_ble_eq_true rfl) (ht _ mw_1_23) (fun _ h9 => h9) rfl dX6_hill_31 ?_
  refine lv_iconst (v := 0) hx hb dX6_hill_34 (by decide) ?_
  refine va_put (C := RX3) (T := TX3) (N := 4) (own := RX6) (v := .int (0 : Int32)) hx hb ht inlX3 tyX3 tyX3_ok nmX3 hown hK hP hD hS 19 rfl rfl 1 (Nat.le_of_ble_eq_true rfl) (ht _ mw_6_6) (fun _ h9 => h9) rfl (tyX3_ok 1 (Nat.le_of_ble_eq_true rfl)) rfl rfl (Nat.le_of_ble_eq_true rfl) dX6_hill_35 (fun H locs hP hD hS => ?_)
  have hP : va_P D vwCl (wX6 o q F ++ wX2 cI cZ (q 1) qt Ft_26 At_26 ++ wX2 cI cZ (q 0) qn Fn An ++ wX3 cI cZ (q 4) qp (upd Fp_26 1 (0 : Int32)) Ap_26 : va_W) H := hP
  have hD : va_D A9 (wX6 o q F ++ wX2 cI cZ (q 1) qt Ft_26 At_26 ++ wX2 cI cZ (q 0) qn Fn An ++ wX3 cI cZ (q 4) qp (upd Fp_26 1 (0 : Int32)) Ap_26 : va_W) := hD
  refine lv_iload_n hx hb dX6_hill_38 rfl (lv_at hl 0 rfl) ?_
  refine lv_iconst (v := -1) hx hb dX6_hill_39 (by decide) ?_
  refine lv_icmp_eq (tgt := 48) hx hb dX6_hill_40 (by decide) (fun c40 => ?_) (fun c40 => ?_)
  · replace h := h.1 c40
    refine lv_aload_n hx hb dX6_hill_48 rfl (lv_at hl 1 rfl) ?_
    refine va_get (C := RX6) (T := TX6) (N := 13) (own := RX6) (v := .ref (q 0)) hx hb ht inlX6 hown hK hP 0 rfl rfl 0 (Nat.le_of_ble_eq_true rfl) (ht _ mw_1_16) (fun _ h9 => h9) rfl dX6_hill_49 ?_
    refine lv_aload_n hx hb dX6_hill_52 rfl (lv_at hl 1 rfl) ?_
    refine va_get (C := RX6) (T := TX6) (N := 13) (own := RX6) (v := .ref (q 1)) hx hb ht inlX6 hown hK hP 0 rfl rfl 1 (Nat.le_of_ble_eq_true rfl) (ht _ mw_1_17) (fun _ h9 => h9) rfl dX6_hill_53 ?_
    refine C_vv (wr := [0, 19, 20].filterMap (fun i => (wX6 o q F ++ wX2 cI cZ (q 1) qt Ft_26 At_26 ++ wX2 cI cZ (q 0) qn Fn An ++ wX3 cI cZ (q 4) qp (upd Fp_26 1 (0 : Int32)) Ap_26 : va_W)[i]?)) X hP hD hS [.ref (q 1)] [] (w_X2_copyFrom l D cI cZ cR adK adV _ (q 0) qn (q 1) qt Fn An Ft_26 At_26 _ h) cal_X2_copyFrom mw_7_3 rfl [10, 11, 12, 13, 14, 15, 16, 17, 18, 1, 2, 3, 4, 5, 6, 7, 8, 9] [0, 19, 20] [0, 12, 13, 14, 15, 16, 17, 18, 19, 20, 3, 4, 5, 6, 7, 8, 9, 10, 11, 1, 2] (fun u => (wX6 o q F ++ wX2 cI cZ (q 1) qt Ft_26 At_26 ++ wX2 cI cZ (q 0) qn u.1 u.2 ++ wX3 cI cZ (q 4) qp (upd Fp_26 1 (0 : Int32)) Ap_26 : va_W)) rfl rfl (fun _ => rfl) rfl 10 rfl rfl ⟨rfl, rfl⟩ ⟨Nat.le_of_ble_eq_true rfl, Nat.le_of_ble_eq_true rfl⟩ hl.1 rfl (Nat.le_of_ble_eq_true rfl) ⟨Nat.zero_le _, Nat.zero_le _⟩ dX6_hill_56 (fun u H locs h hP hD hS => ?_)
    obtain ⟨Fn_56, An_56⟩ := u
    try dsimp only at h
    have hP : va_P D vwCl (wX6 o q F ++ wX2 cI cZ (q 1) qt Ft_26 At_26 ++ wX2 cI cZ (q 0) qn Fn_56 An_56 ++ wX3 cI cZ (q 4) qp (upd Fp_26 1 (0 : Int32)) Ap_26 : va_W) H := hP
    have hD : va_D A9 (wX6 o q F ++ wX2 cI cZ (q 1) qt Ft_26 At_26 ++ wX2 cI cZ (q 0) qn Fn_56 An_56 ++ wX3 cI cZ (q 4) qp (upd Fp_26 1 (0 : Int32)) Ap_26 : va_W) := hD
    refine lv_aload_n hx hb dX6_hill_59 rfl (lv_at hl 1 rfl) ?_
    refine lv_iconst (v := 0) hx hb dX6_hill_60 (by decide) ?_
    refine va_put (C := RX6) (T := TX6) (N := 13) (own := RX6) (v := .int (0 : Int32)) hx hb ht inlX6 tyX6 tyX6_ok nmX6 hown hK hP hD hS 0 rfl rfl 9 (Nat.le_of_ble_eq_true rfl) (ht _ mw_2_14) (fun _ h9 => h9) rfl (tyX6_ok 9 (Nat.le_of_ble_eq_true rfl)) rfl rfl (Nat.le_of_ble_eq_true rfl) dX6_hill_61 (fun H locs hP hD hS => ?_)
    have hP : va_P D vwCl (wX6 o q (upd F 9 (0 : Int32)) ++ wX2 cI cZ (q 1) qt Ft_26 At_26 ++ wX2 cI cZ (q 0) qn Fn_56 An_56 ++ wX3 cI cZ (q 4) qp (upd Fp_26 1 (0 : Int32)) Ap_26 : va_W) H := hP
    have hD : va_D A9 (wX6 o q (upd F 9 (0 : Int32)) ++ wX2 cI cZ (q 1) qt Ft_26 At_26 ++ wX2 cI cZ (q 0) qn Fn_56 An_56 ++ wX3 cI cZ (q 4) qp (upd Fp_26 1 (0 : Int32)) Ap_26 : va_W) := hD
    refine lv_aload_n hx hb dX6_hill_64 rfl (lv_at hl 1 rfl) ?_
    refine va_get (C := RX6) (T := TX6) (N := 13) (own := RX6) (v := .ref (q 0)) hx hb ht inlX6 hown hK hP 0 rfl rfl 0 (Nat.le_of_ble_eq_true rfl) (ht _ mw_1_16) (fun _ h9 => h9) rfl dX6_hill_65 ?_
    refine va_get (C := RX2) (T := TX2) (N := 13) (own := RX6) (v := .int (Fn_56 8)) hx hb ht inlX2 hown hK hP 10 rfl rfl 8 (Nat.le_of_ble_eq_true rfl) (ht _ mw_7_2) (fun _ h9 => h9) rfl dX6_hill_68 ?_
    exact ret _ ((upd F 9 (0 : Int32)), (Ft_26, At_26), (Fn_56, An_56), ((upd Fp_26 1 (0 : Int32)), Ap_26)) _ _ _ _ dX6_hill_71 h hP hD hS
  · replace h := h.2 c40
    refine lv_bipush (v := -100) hx hb dX6_hill_43 (by decide) ?_
    refine lv_iload_n hx hb dX6_hill_45 rfl (lv_at hl 0 rfl) ?_
    refine lv_isub hx hb dX6_hill_46 ?_
    exact ret _ (F, (Ft_26, At_26), (Fn, An), ((upd Fp_26 1 (0 : Int32)), Ap_26)) _ _ _ _ dX6_hill_47 h hP hD hS
theorem cal_X4_perform : CalV yX4_perform cX4_perform 7 (some .int) 5 := ⟨mw_47_0, mw_2_10, mw_46_22, mw_46_23, ⟨by decide +kernel, by decide +kernel, by decide +kernel⟩⟩
theorem dX6_act_0 : decode cX6_act 0 = .ok (.aload_n 0, 1) := by decide +kernel
theorem dX6_act_1 : decode cX6_act 1 = .ok (.getfield 50, 3) := by decide +kernel
theorem dX6_act_4 : decode cX6_act 4 = .ok (.invokevirtual 286, 3) := by decide +kernel
theorem dX6_act_7 : decode cX6_act 7 = .ok (.iload_n 1, 1) := by decide +kernel
theorem dX6_act_8 : decode cX6_act 8 = .ok (.iconst 4, 1) := by decide +kernel
theorem dX6_act_9 : decode cX6_act 9 = .ok (.invokestatic 95, 3) := by decide +kernel
theorem dX6_act_12 : decode cX6_act 12 = .ok (.ifCond .eq 11, 3) := by decide +kernel
theorem dX6_act_15 : decode cX6_act 15 = .ok (.iload_n 2, 1) := by decide +kernel
theorem dX6_act_16 : decode cX6_act 16 = .ok (.iconst 4, 1) := by decide +kernel
theorem dX6_act_17 : decode cX6_act 17 = .ok (.invokestatic 95, 3) := by decide +kernel
theorem dX6_act_20 : decode cX6_act 20 = .ok (.ifCond .ne 5, 3) := by decide +kernel
theorem dX6_act_23 : decode cX6_act 23 = .ok (.iconst 0, 1) := by decide +kernel
theorem dX6_act_24 : decode cX6_act 24 = .ok (.ireturn, 1) := by decide +kernel
theorem dX6_act_25 : decode cX6_act 25 = .ok (.aload_n 0, 1) := by decide +kernel
theorem dX6_act_26 : decode cX6_act 26 = .ok (.getfield 71, 3) := by decide +kernel
theorem dX6_act_29 : decode cX6_act 29 = .ok (.iload_n 1, 1) := by decide +kernel
theorem dX6_act_30 : decode cX6_act 30 = .ok (.iaload, 1) := by decide +kernel
theorem dX6_act_31 : decode cX6_act 31 = .ok (.istore 4, 2) := by decide +kernel
theorem dX6_act_33 : decode cX6_act 33 = .ok (.aload_n 0, 1) := by decide +kernel
theorem dX6_act_34 : decode cX6_act 34 = .ok (.iload 4, 2) := by decide +kernel
theorem dX6_act_36 : decode cX6_act 36 = .ok (.invokevirtual 114, 3) := by decide +kernel
theorem dX6_act_39 : decode cX6_act 39 = .ok (.ifCond .ne 5, 3) := by decide +kernel
theorem dX6_act_42 : decode cX6_act 42 = .ok (.iconst 0, 1) := by decide +kernel
theorem dX6_act_43 : decode cX6_act 43 = .ok (.ireturn, 1) := by decide +kernel
theorem dX6_act_44 : decode cX6_act 44 = .ok (.aload_n 0, 1) := by decide +kernel
theorem dX6_act_45 : decode cX6_act 45 = .ok (.getfield 50, 3) := by decide +kernel
theorem dX6_act_48 : decode cX6_act 48 = .ok (.aload_n 0, 1) := by decide +kernel
theorem dX6_act_49 : decode cX6_act 49 = .ok (.getfield 10, 3) := by decide +kernel
theorem dX6_act_52 : decode cX6_act 52 = .ok (.getfield 117, 3) := by decide +kernel
theorem dX6_act_55 : decode cX6_act 55 = .ok (.iload 4, 2) := by decide +kernel
theorem dX6_act_57 : decode cX6_act 57 = .ok (.iaload, 1) := by decide +kernel
theorem dX6_act_58 : decode cX6_act 58 = .ok (.iload 4, 2) := by decide +kernel
theorem dX6_act_60 : decode cX6_act 60 = .ok (.aload_n 0, 1) := by decide +kernel
theorem dX6_act_61 : decode cX6_act 61 = .ok (.getfield 10, 3) := by decide +kernel
theorem dX6_act_64 : decode cX6_act 64 = .ok (.getfield 120, 3) := by decide +kernel
theorem dX6_act_67 : decode cX6_act 67 = .ok (.iload 4, 2) := by decide +kernel
theorem dX6_act_69 : decode cX6_act 69 = .ok (.iaload, 1) := by decide +kernel
theorem dX6_act_70 : decode cX6_act 70 = .ok (.iload_n 2, 1) := by decide +kernel
theorem dX6_act_71 : decode cX6_act 71 = .ok (.iload_n 3, 1) := by decide +kernel
theorem dX6_act_72 : decode cX6_act 72 = .ok (.invokevirtual 289, 3) := by decide +kernel
theorem dX6_act_75 : decode cX6_act 75 = .ok (.ireturn, 1) := by decide +kernel
def p_X6_act (F : tF) (Ff : tF) (Af : tA) (fs : tF) (Fn : tF) (An : tA) (x1 : Int32) (x2 : Int32) (x3 : Int32) (K : Int32 → tF → tA → Prop) : Prop := (p_X4_forget Ff Af (fun Ff_4 Af_4 => (p_X6_within x1 (4 : Int32) (fun r9 => ((r9 = 0 → (K (0 : Int32) Ff_4 Af_4)) ∧ (¬ r9 = 0 → (p_X6_within x2 (4 : Int32) (fun r17 => ((¬ r17 = 0 → (vp_in x1 4 ∧ (∀ y31 : Int32, y31 = (fs (x1).toNatClampNeg) → (p_X6_isSheep F Fn An y31 (fun r36 => ((¬ r36 = 0 → (vp_in y31 8 ∧ (vp_in y31 8 ∧ (p_X4_perform Ff_4 Af_4 ((An 3) (y31).toNatClampNeg) y31 ((An 4) (y31).toNatClampNeg) x2 x3 (fun r72 Ff_72 Af_72 => (K r72 Ff_72 Af_72)))))) ∧ (r36 = 0 → (K (0 : Int32) Ff_4 Af_4)))))))) ∧ (r17 = 0 → (K (0 : Int32) Ff_4 Af_4)))))))))))
set_option maxHeartbeats 4000000 in
set_option maxRecDepth 100000 in
theorem w_X6_act (l : Launch) (D : va_G) (cI cZ cR : ClassId) (adK adV : Nat → Nat) (sz : Nat) (o : Nat) (q : Nat → Nat) (qf : Nat → Nat) (qn : Nat → Nat) (F : tF) (Ff : tF) (Af : tA) (fs : tF) (Fn : tF) (An : tA) (x1 : Int32) (x2 : Int32) (x3 : Int32) (K : Int32 → tF → tA → Prop) (h : p_X6_act F Ff Af fs Fn An x1 x2 x3 K) : MI l D cI cZ cR adK adV yX6_act cX6_act 5 (some .int) (rmN 16 379) [.ref o, .int x1, .int x2, .int x3] (wX6 o q F ++ wX4 cI cZ (q 7) qf Ff Af ++ wI cI (q 12) 4 fs ++ wX2 cI cZ (q 0) qn Fn An : va_W) sz (fun (r : Int32) (u : (tF × tA)) => K r u.1 u.2) (fun (u : (tF × tA)) => (wX6 o q F ++ wX4 cI cZ (q 7) qf u.1 u.2 ++ wI cI (q 12) 4 fs ++ wX2 cI cZ (q 0) qn Fn An : va_W)) := by
  refine M_i (by decide +kernel) (Nat.le_of_ble_eq_true rfl) ?_
  intro p e s m args below meth c Q A9 ls X ret hP hD hS hl
  obtain ⟨hx, hb, hml, ht, hown, hK, hA, hE⟩ := id X
  have hl : lv_has ls 5 [(0, .ref o), (1, .int x1), (2, .int x2), (3, .int x3)] := hl
  unfold p_X6_act at h
  refine lv_aload_n hx hb dX6_act_0 rfl (lv_at hl 0 rfl) ?_
  refine va_get (C := RX6) (T := TX6) (N := 13) (own := RX6) (v := .ref (q 7)) hx hb ht inlX6 hown hK hP 0 rfl rfl 7 (Nat.le_of_ble_eq_true rfl) (ht _ mw_2_11) (fun _ h9 => h9) rfl dX6_act_1 ?_
  refine C_vv (wr := [0, 3, 4, 5, 6, 7, 8, 9, 10, 11, 12].filterMap (fun i => (wX6 o q F ++ wX4 cI cZ (q 7) qf Ff Af ++ wI cI (q 12) 4 fs ++ wX2 cI cZ (q 0) qn Fn An : va_W)[i]?)) X hP hD hS [] [] (w_X4_forget l D cI cZ cR adK adV _ (q 7) qf Ff Af _ h) cal_X4_forget mw_46_17 rfl [1, 2] [0, 3, 4, 5, 6, 7, 8, 9, 10, 11, 12] [0, 11, 12, 1, 2, 3, 4, 5, 6, 7, 8, 9, 10] (fun u => (wX6 o q F ++ wX4 cI cZ (q 7) qf u.1 u.2 ++ wI cI (q 12) 4 fs ++ wX2 cI cZ (q 0) qn Fn An : va_W)) rfl rfl (fun _ => rfl) rfl 1 rfl rfl ⟨rfl, rfl⟩ ⟨Nat.le_of_ble_eq_true rfl, Nat.le_of_ble_eq_true rfl⟩ hl.1 rfl (Nat.le_of_ble_eq_true rfl) ⟨Nat.zero_le _, Nat.zero_le _⟩ dX6_act_4 (fun u H locs h hP hD hS => ?_)
  obtain ⟨Ff_4, Af_4⟩ := u
  try dsimp only at h
  have hP : va_P D vwCl (wX6 o q F ++ wX4 cI cZ (q 7) qf Ff_4 Af_4 ++ wI cI (q 12) 4 fs ++ wX2 cI cZ (q 0) qn Fn An : va_W) H := hP
  have hD : va_D A9 (wX6 o q F ++ wX4 cI cZ (q 7) qf Ff_4 Af_4 ++ wI cI (q 12) 4 fs ++ wX2 cI cZ (q 0) qn Fn An : va_W) := hD
  refine lv_iload_n hx hb dX6_act_7 rfl (lv_at hl 1 rfl) ?_
  refine lv_iconst (v := 4) hx hb dX6_act_8 (by decide) ?_
  refine C_si (wr := [0, 1, 2, 3, 4, 5, 6, 7, 8, 9, 10, 11, 12].filterMap (fun i => (wX6 o q F ++ wX4 cI cZ (q 7) qf Ff_4 Af_4 ++ wI cI (q 12) 4 fs ++ wX2 cI cZ (q 0) qn Fn An : va_W)[i]?)) X hP hD hS [.int x1, .int (4 : Int32)] [] (w_X6_within l D cI cZ cR adK adV _ x1 (4 : Int32) _ h) cal_X6_within mw_15_9 rfl [] [0, 1, 2, 3, 4, 5, 6, 7, 8, 9, 10, 11, 12] [0, 1, 2, 3, 4, 5, 6, 7, 8, 9, 10, 11, 12] (fun u => (wX6 o q F ++ wX4 cI cZ (q 7) qf Ff_4 Af_4 ++ wI cI (q 12) 4 fs ++ wX2 cI cZ (q 0) qn Fn An : va_W)) rfl rfl (fun _ => rfl) rfl ⟨rfl, rfl⟩ ⟨Nat.le_of_ble_eq_true rfl, Nat.le_of_ble_eq_true rfl⟩ hl.1 rfl (Nat.le_of_ble_eq_true rfl) ⟨Nat.zero_le _, Nat.zero_le _⟩ dX6_act_9 (fun r9 u H locs h hP hD hS => ?_)
  refine lv_if_eq (tgt := 23) hx hb dX6_act_12 (by decide) (fun c12 => ?_) (fun c12 => ?_)
  · replace h := h.1 c12
    refine lv_iconst (v := 0) hx hb dX6_act_23 (by decide) ?_
    exact ret _ (Ff_4, Af_4) _ _ _ _ dX6_act_24 h hP hD hS
  · replace h := h.2 c12
    refine lv_iload_n hx hb dX6_act_15 rfl (lv_at hl 2 rfl) ?_
    refine lv_iconst (v := 4) hx hb dX6_act_16 (by decide) ?_
    refine C_si (wr := [0, 1, 2, 3, 4, 5, 6, 7, 8, 9, 10, 11, 12].filterMap (fun i => (wX6 o q F ++ wX4 cI cZ (q 7) qf Ff_4 Af_4 ++ wI cI (q 12) 4 fs ++ wX2 cI cZ (q 0) qn Fn An : va_W)[i]?)) X hP hD hS [.int x2, .int (4 : Int32)] [] (w_X6_within l D cI cZ cR adK adV _ x2 (4 : Int32) _ h) cal_X6_within mw_15_9 rfl [] [0, 1, 2, 3, 4, 5, 6, 7, 8, 9, 10, 11, 12] [0, 1, 2, 3, 4, 5, 6, 7, 8, 9, 10, 11, 12] (fun u => (wX6 o q F ++ wX4 cI cZ (q 7) qf Ff_4 Af_4 ++ wI cI (q 12) 4 fs ++ wX2 cI cZ (q 0) qn Fn An : va_W)) rfl rfl (fun _ => rfl) rfl ⟨rfl, rfl⟩ ⟨Nat.le_of_ble_eq_true rfl, Nat.le_of_ble_eq_true rfl⟩ hl.1 rfl (Nat.le_of_ble_eq_true rfl) ⟨Nat.zero_le _, Nat.zero_le _⟩ dX6_act_17 (fun r17 u H locs h hP hD hS => ?_)
    refine lv_if_ne (tgt := 25) hx hb dX6_act_20 (by decide) (fun c20 => ?_) (fun c20 => ?_)
    · replace h := h.1 c20
      refine lv_aload_n hx hb dX6_act_25 rfl (lv_at hl 0 rfl) ?_
      refine va_get (C := RX6) (T := TX6) (N := 13) (own := RX6) (v := .ref (q 12)) hx hb ht inlX6 hown hK hP 0 rfl rfl 12 (Nat.le_of_ble_eq_true rfl) (ht _ mw_2_18) (fun _ h9 => h9) rfl dX6_act_26 ?_
      refine lv_iload_n hx hb dX6_act_29 rfl (lv_at hl 1 rfl) ?_
      obtain ⟨hi30, h⟩ := h
      refine g_iald (f := fs) (k := (x1).toNatClampNeg) hx hb hK hP 3 0 rfl rfl hi30 rfl dX6_act_30 ?_
      refine lv_topi (fun y31 ey31 => ?_)
      replace h := h y31 ey31
      refine lv_istore (lv' := [(4, .int y31), (0, .ref o), (1, .int x1), (2, .int x2), (3, .int x3)]) hx hb dX6_act_31 hl (by decide) rfl (fun ls hl => ?_)
      refine lv_aload_n hx hb dX6_act_33 rfl (lv_at hl 1 rfl) ?_
      refine lv_iload hx hb dX6_act_34 (lv_at hl 0 rfl) ?_
      refine C_vi (wr := [1, 2, 3].filterMap (fun i => (wX6 o q F ++ wX4 cI cZ (q 7) qf Ff_4 Af_4 ++ wI cI (q 12) 4 fs ++ wX2 cI cZ (q 0) qn Fn An : va_W)[i]?)) X hP hD hS [.int y31] [] (w_X6_isSheep l D cI cZ cR adK adV _ o q qn F Fn An y31 _ h) cal_X6_isSheep mw_17_8 rfl [0, 4, 5, 6, 7, 8, 9, 10, 11, 12] [1, 2, 3] [3, 0, 1, 2, 4, 5, 6, 7, 8, 9, 10, 11, 12] (fun u => (wX6 o q F ++ wX4 cI cZ (q 7) qf Ff_4 Af_4 ++ wI cI (q 12) 4 fs ++ wX2 cI cZ (q 0) qn Fn An : va_W)) rfl rfl (fun _ => rfl) rfl 0 rfl rfl ⟨rfl, rfl⟩ ⟨Nat.le_of_ble_eq_true rfl, Nat.le_of_ble_eq_true rfl⟩ hl.1 rfl (Nat.le_of_ble_eq_true rfl) ⟨Nat.zero_le _, Nat.zero_le _⟩ dX6_act_36 (fun r36 u H locs h hP hD hS => ?_)
      refine lv_if_ne (tgt := 44) hx hb dX6_act_39 (by decide) (fun c39 => ?_) (fun c39 => ?_)
      · replace h := h.1 c39
        refine lv_aload_n hx hb dX6_act_44 rfl (lv_at hl 1 rfl) ?_
        refine va_get (C := RX6) (T := TX6) (N := 13) (own := RX6) (v := .ref (q 7)) hx hb ht inlX6 hown hK hP 0 rfl rfl 7 (Nat.le_of_ble_eq_true rfl) (ht _ mw_2_11) (fun _ h9 => h9) rfl dX6_act_45 ?_
        refine lv_aload_n hx hb dX6_act_48 rfl (lv_at hl 1 rfl) ?_
        refine va_get (C := RX6) (T := TX6) (N := 13) (own := RX6) (v := .ref (q 0)) hx hb ht inlX6 hown hK hP 0 rfl rfl 0 (Nat.le_of_ble_eq_true rfl) (ht _ mw_1_16) (fun _ h9 => h9) rfl dX6_act_49 ?_
        refine va_get (C := RX2) (T := TX2) (N := 13) (own := RX6) (v := .ref (qn 3)) hx hb ht inlX2 hown hK hP 4 rfl rfl 3 (Nat.le_of_ble_eq_true rfl) (ht _ mw_17_4) (fun _ h9 => h9) rfl dX6_act_52 ?_
        refine lv_iload hx hb dX6_act_55 (lv_at hl 0 rfl) ?_
        obtain ⟨hi57, h⟩ := h
        refine g_iald (f := (An 3)) (k := (y31).toNatClampNeg) hx hb hK hP 8 0 rfl rfl hi57 rfl dX6_act_57 ?_
        refine lv_iload hx hb dX6_act_58 (lv_at hl 0 rfl) ?_
        refine lv_aload_n hx hb dX6_act_60 rfl (lv_at hl 1 rfl) ?_
        refine va_get (C := RX6) (T := TX6) (N := 13) (own := RX6) (v := .ref (q 0)) hx hb ht inlX6 hown hK hP 0 rfl rfl 0 (Nat.le_of_ble_eq_true rfl) (ht _ mw_1_16) (fun _ h9 => h9) rfl dX6_act_61 ?_
        refine va_get (C := RX2) (T := TX2) (N := 13) (own := RX6) (v := .ref (qn 4)) hx hb ht inlX2 hown hK hP 4 rfl rfl 4 (Nat.le_of_ble_eq_true rfl) (ht _ mw_17_5) (fun _ h9 => h9) rfl dX6_act_64 ?_
        refine lv_iload hx hb dX6_act_67 (lv_at hl 0 rfl) ?_
        obtain ⟨hi69, h⟩ := h
        refine g_iald (f := (An 4)) (k := (y31).toNatClampNeg) hx hb hK hP 9 0 rfl rfl hi69 rfl dX6_act_69 ?_
        refine lv_iload_n hx hb dX6_act_70 rfl (lv_at hl 3 rfl) ?_
        refine lv_iload_n hx hb dX6_act_71 rfl (lv_at hl 4 rfl) ?_
        refine C_vi (wr := [0, 3, 4, 5, 6, 7, 8, 9, 10, 11, 12].filterMap (fun i => (wX6 o q F ++ wX4 cI cZ (q 7) qf Ff_4 Af_4 ++ wI cI (q 12) 4 fs ++ wX2 cI cZ (q 0) qn Fn An : va_W)[i]?)) X hP hD hS [.int ((An 3) (y31).toNatClampNeg), .int y31, .int ((An 4) (y31).toNatClampNeg), .int x2, .int x3] [] (w_X4_perform l D cI cZ cR adK adV _ (q 7) qf Ff_4 Af_4 ((An 3) (y31).toNatClampNeg) y31 ((An 4) (y31).toNatClampNeg) x2 x3 _ h) cal_X4_perform mw_46_21 rfl [1, 2] [0, 3, 4, 5, 6, 7, 8, 9, 10, 11, 12] [0, 11, 12, 1, 2, 3, 4, 5, 6, 7, 8, 9, 10] (fun u => (wX6 o q F ++ wX4 cI cZ (q 7) qf u.1 u.2 ++ wI cI (q 12) 4 fs ++ wX2 cI cZ (q 0) qn Fn An : va_W)) rfl rfl (fun _ => rfl) rfl 1 rfl rfl ⟨rfl, rfl⟩ ⟨Nat.le_of_ble_eq_true rfl, Nat.le_of_ble_eq_true rfl⟩ hl.1 rfl (Nat.le_of_ble_eq_true rfl) ⟨Nat.zero_le _, Nat.zero_le _⟩ dX6_act_72 (fun r72 u H locs h hP hD hS => ?_)
        obtain ⟨Ff_72, Af_72⟩ := u
        try dsimp only at h
        have hP : va_P D vwCl (wX6 o q F ++ wX4 cI cZ (q 7) qf Ff_72 Af_72 ++ wI cI (q 12) 4 fs ++ wX2 cI cZ (q 0) qn Fn An : va_W) H := hP
        have hD : va_D A9 (wX6 o q F ++ wX4 cI cZ (q 7) qf Ff_72 Af_72 ++ wI cI (q 12) 4 fs ++ wX2 cI cZ (q 0) qn Fn An : va_W) := hD
        exact ret _ (Ff_72, Af_72) _ _ _ _ dX6_act_75 h hP hD hS
      · replace h := h.2 c39
        refine lv_iconst (v := 0) hx hb dX6_act_42 (by decide) ?_
        exact ret _ (Ff_4, Af_4) _ _ _ _ dX6_act_43 h hP hD hS
    · replace h := h.2 c20
      refine lv_iconst (v := 0) hx hb dX6_act_23 (by decide) ?_
      exact ret _ (Ff_4, Af_4) _ _ _ _ dX6_act_24 h hP hD hS
