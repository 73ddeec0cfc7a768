/-! 22.model3: what the bytecode of these methods asks, and the walks (written by wip/gen/mk.py) -/
theorem cal_X7_whereBehind : CalV yX7_whereBehind cX7_whereBehind 3 (some .int) 1 := ⟨mw_29_16, mw_1_5, mw_29_14, mw_29_15, ⟨by decide +kernel, by decide +kernel, by decide +kernel⟩⟩
theorem dX7_where_0 : decode cX7_where 0 = .ok (.iload_n 1, 1) := by decide +kernel
theorem dX7_where_1 : decode cX7_where 1 = .ok (.i2l, 1) := by decide +kernel
theorem dX7_where_2 : decode cX7_where 2 = .ok (.lconst 0, 1) := by decide +kernel
theorem dX7_where_3 : decode cX7_where 3 = .ok (.ldc2_w 209, 3) := by decide +kernel
theorem dX7_where_6 : decode cX7_where 6 = .ok (.invokestatic 61, 3) := by decide +kernel
theorem dX7_where_9 : decode cX7_where 9 = .ok (.ifCond .eq 11, 3) := by decide +kernel
theorem dX7_where_12 : decode cX7_where 12 = .ok (.aload_n 0, 1) := by decide +kernel
theorem dX7_where_13 : decode cX7_where 13 = .ok (.iload_n 1, 1) := by decide +kernel
theorem dX7_where_14 : decode cX7_where 14 = .ok (.invokevirtual 229, 3) := by decide +kernel
theorem dX7_where_17 : decode cX7_where 17 = .ok (.goto 4, 3) := by decide +kernel
theorem dX7_where_20 : decode cX7_where 20 = .ok (.iconst (-1), 1) := by decide +kernel
theorem dX7_where_21 : decode cX7_where 21 = .ok (.ireturn, 1) := by decide +kernel
def p_X7_where (F : tF) (A : tA) (x1 : Int32) (K : Int32 → tF → tA → Prop) : Prop := (p_X7_isIn ((x1).toInt64) (0 : Int64) (60 : Int64) (fun r6 => ((r6 = 0 → (K (-1 : Int32) F A)) ∧ (¬ r6 = 0 → (p_X7_whereBehind F A x1 (fun r14 F_14 A_14 => (K r14 F_14 A_14)))))))
set_option maxHeartbeats 4000000 in
set_option maxRecDepth 100000 in
theorem w_X7_where (l : Launch) (D : va_G) (cI cZ cR : ClassId) (adK adV : Nat → Nat) (sz : Nat) (o : Nat) (q : Nat → Nat) (F : tF) (A : tA) (x1 : Int32) (K : Int32 → tF → tA → Prop) (h : p_X7_where F A x1 K) : MI l D cI cZ cR adK adV yX7_where cX7_where 2 (some .int) (rmN 8 186) [.ref o, .int x1] (wX7 cI cZ o q F A : va_W) sz (fun (r : Int32) (u : (tF × tA)) => K r u.1 u.2) (fun (u : (tF × tA)) => (wX7 cI cZ o q u.1 u.2 : va_W)) := by
  refine M_i (by decide +kernel) (Nat.le_of_ble_eq_true rfl) ?_
  intro p e s m args below meth c Q A9 ls X ret hP hD hS hl
  obtain ⟨hx, hb, hml, ht, hown, hK, hA, hE⟩ := id X
  have hl : lv_has ls 2 [(0, .ref o), (1, .int x1)] := hl
  unfold p_X7_where at h
  refine lv_iload_n hx hb dX7_where_0 rfl (lv_at hl 1 rfl) ?_
  refine lv_i2l (v := (x1).toInt64) hx hb dX7_where_1 rfl ?_
  refine lv_lconst (v := 0) hx hb dX7_where_2 (by decide) ?_
  refine lv_ldc2 (v := 60) hx hb hown (ht _ mw_25_19) dX7_where_3 ?_
  refine C_si (wr := [0, 1, 2, 3, 4, 5, 6, 7, 8, 9, 10, 11, 12, 13, 14, 15].filterMap (fun i => (wX7 cI cZ o q F A : va_W)[i]?)) X hP hD hS [.long (x1).toInt64, .long (0 : Int64), .long (60 : Int64)] [] (w_X7_isIn l D cI cZ cR adK adV _ ((x1).toInt64) (0 : Int64) (60 : Int64) _ h) cal_X7_isIn mw_6_19 rfl [] [0, 1, 2, 3, 4, 5, 6, 7, 8, 9, 10, 11, 12, 13, 14, 15] [0, 1, 2, 3, 4, 5, 6, 7, 8, 9, 10, 11, 12, 13, 14, 15] (fun u => (wX7 cI cZ o q F A : va_W)) rfl rfl (fun _ => rfl) rfl ⟨rfl, rfl⟩ ⟨Nat.le_of_ble_eq_true rfl, Nat.le_of_ble_eq_true rfl⟩ hl.1 rfl (Nat.le_of_ble_eq_true rfl) ⟨Nat.zero_le _, Nat.zero_le _⟩ dX7_where_6 (fun r6 u H locs h hP hD hS => ?_)
  refine lv_if_eq (tgt := 20) hx hb dX7_where_9 (by decide) (fun c9 => ?_) (fun c9 => ?_)
  · replace h := h.1 c9
    refine lv_iconst (v := -1) hx hb dX7_where_20 (by decide) ?_
    exact ret _ (F, A) _ _ _ _ dX7_where_21 h hP hD hS
  · replace h := h.2 c9
    refine lv_aload_n hx hb dX7_where_12 rfl (lv_at hl 0 rfl) ?_
    refine lv_iload_n hx hb dX7_where_13 rfl (lv_at hl 1 rfl) ?_
    refine C_vi (wr := []) X hP hD hS [.int x1] [] (w_X7_whereBehind l D cI cZ cR adK adV _ o q F A x1 _ h) cal_X7_whereBehind mw_29_13 rfl [0, 1, 2, 3, 4, 5, 6, 7, 8, 9, 10, 11, 12, 13, 14, 15] [] [0, 1, 2, 3, 4, 5, 6, 7, 8, 9, 10, 11, 12, 13, 14, 15] (fun u => (wX7 cI cZ o q u.1 u.2 : va_W)) rfl rfl (fun _ => rfl) rfl 0 rfl rfl ⟨rfl, rfl⟩ ⟨Nat.le_of_ble_eq_true rfl, Nat.le_of_ble_eq_true rfl⟩ hl.1 rfl (Nat.le_of_ble_eq_true rfl) ⟨Nat.zero_le _, Nat.zero_le _⟩ dX7_where_14 (fun r14 u H locs h hP hD hS => ?_)
    obtain ⟨F_14, A_14⟩ := u
    try dsimp only at h
    have hP : va_P D vwCl (wX7 cI cZ o q F_14 A_14 : va_W) H := hP
    have hD : va_D A9 (wX7 cI cZ o q F_14 A_14 : va_W) := hD
    refine lv_goto (tgt := 21) hx hb dX7_where_17 (by decide) ?_
    exact ret _ (F_14, A_14) _ _ _ _ dX7_where_21 h hP hD hS
theorem dX7_comes_0 : decode cX7_comes 0 = .ok (.iload_n 1, 1) := by decide +kernel
theorem dX7_comes_1 : decode cX7_comes 1 = .ok (.invokestatic 166, 3) := by decide +kernel
theorem dX7_comes_4 : decode cX7_comes 4 = .ok (.ifCond .ne 5, 3) := by decide +kernel
theorem dX7_comes_7 : decode cX7_comes 7 = .ok (.iconst (-1), 1) := by decide +kernel
theorem dX7_comes_8 : decode cX7_comes 8 = .ok (.ireturn, 1) := by decide +kernel
theorem dX7_comes_9 : decode cX7_comes 9 = .ok (.aload_n 0, 1) := by decide +kernel
theorem dX7_comes_10 : decode cX7_comes 10 = .ok (.getfield 7, 3) := by decide +kernel
theorem dX7_comes_13 : decode cX7_comes 13 = .ok (.aload_n 0, 1) := by decide +kernel
theorem dX7_comes_14 : decode cX7_comes 14 = .ok (.getfield 16, 3) := by decide +kernel
theorem dX7_comes_17 : decode cX7_comes 17 = .ok (.invokestatic 144, 3) := by decide +kernel
theorem dX7_comes_20 : decode cX7_comes 20 = .ok (.iconst 0, 1) := by decide +kernel
theorem dX7_comes_21 : decode cX7_comes 21 = .ok (.istore_n 2, 1) := by decide +kernel
theorem dX7_comes_22 : decode cX7_comes 22 = .ok (.iload_n 2, 1) := by decide +kernel
theorem dX7_comes_23 : decode cX7_comes 23 = .ok (.bipush 60, 2) := by decide +kernel
theorem dX7_comes_25 : decode cX7_comes 25 = .ok (.if_icmp .gt 23, 3) := by decide +kernel
theorem dX7_comes_28 : decode cX7_comes 28 = .ok (.aload_n 0, 1) := by decide +kernel
theorem dX7_comes_29 : decode cX7_comes 29 = .ok (.getfield 7, 3) := by decide +kernel
theorem dX7_comes_32 : decode cX7_comes 32 = .ok (.iconst 3, 1) := by decide +kernel
theorem dX7_comes_33 : decode cX7_comes 33 = .ok (.iaload, 1) := by decide +kernel
theorem dX7_comes_34 : decode cX7_comes 34 = .ok (.iload_n 1, 1) := by decide +kernel
theorem dX7_comes_35 : decode cX7_comes 35 = .ok (.if_icmp .eq 13, 3) := by decide +kernel
theorem dX7_comes_38 : decode cX7_comes 38 = .ok (.aload_n 0, 1) := by decide +kernel
theorem dX7_comes_39 : decode cX7_comes 39 = .ok (.invokevirtual 206, 3) := by decide +kernel
theorem dX7_comes_42 : decode cX7_comes 42 = .ok (.iinc 2 1, 3) := by decide +kernel
theorem dX7_comes_45 : decode cX7_comes 45 = .ok (.goto (-23), 3) := by decide +kernel
theorem dX7_comes_48 : decode cX7_comes 48 = .ok (.aload_n 0, 1) := by decide +kernel
theorem dX7_comes_49 : decode cX7_comes 49 = .ok (.getfield 16, 3) := by decide +kernel
theorem dX7_comes_52 : decode cX7_comes 52 = .ok (.aload_n 0, 1) := by decide +kernel
theorem dX7_comes_53 : decode cX7_comes 53 = .ok (.getfield 7, 3) := by decide +kernel
theorem dX7_comes_56 : decode cX7_comes 56 = .ok (.invokestatic 144, 3) := by decide +kernel
theorem dX7_comes_59 : decode cX7_comes 59 = .ok (.iload_n 2, 1) := by decide +kernel
theorem dX7_comes_60 : decode cX7_comes 60 = .ok (.bipush 60, 2) := by decide +kernel
theorem dX7_comes_62 : decode cX7_comes 62 = .ok (.if_icmp .gt 7, 3) := by decide +kernel
theorem dX7_comes_65 : decode cX7_comes 65 = .ok (.iload_n 2, 1) := by decide +kernel
theorem dX7_comes_66 : decode cX7_comes 66 = .ok (.goto 5, 3) := by decide +kernel
theorem dX7_comes_69 : decode cX7_comes 69 = .ok (.bipush (-3), 2) := by decide +kernel
theorem dX7_comes_71 : decode cX7_comes 71 = .ok (.ireturn, 1) := by decide +kernel
def p_X7_comes_J48 (F : tF) (A : tA) (K : Int32 → tF → tA → Prop) (x2 : Int32) : Prop := (p_X7_copyRow 53 (A 2) 53 (A 0) (fun g0_56 => (((60 : Int32) < x2 → (K (-3 : Int32) F (va_up A 0 g0_56))) ∧ (¬ (60 : Int32) < x2 → (K x2 F (va_up A 0 g0_56))))))
set_option maxHeartbeats 4000000 in
set_option maxRecDepth 100000 in
theorem b_X7_comes_J48 {p : Program} {l : Launch} {e : Env} {s : State} {m : MethodId} {args : Array Value} {below : List Frame} {meth : Method} {c : Code} {Q : State → Prop} {D : va_G} {cI cZ cR : ClassId} {adK adV : Nat → Nat} {A9 : Nat → Prop} {o : Nat} {q : Nat → Nat} {K : Int32 → tF → tA → Prop}  (F : tF) (A : tA) (x2 : Int32) (X : CX p s m args c yX7_comes.cls cX7_comes 3 D cI cZ cR adK adV A9) (ret : RTi p l e (rmN 6 142) s m args below meth c Q cX7_comes D A9 (fun (r : Int32) (u : (tF × tA)) => K r u.1 u.2) (fun (u : (tF × tA)) => (wX7 cI cZ o q u.1 u.2 : va_W)))  (H : Heap) (locs : List Loc) (ls : Array Slot) (h : p_X7_comes_J48 F A K x2) (hP : va_P D vwCl (wX7 cI cZ o q F A : va_W) H) (hD : va_D A9 (wX7 cI cZ o q F A : va_W)) (hS : va_S A9 s.heap H locs) (hl : lv_has ls 3 [(0, .ref o), (2, .int x2)]) : W p l e (rmN 6 142) s m args below meth c H locs 0 0 Q (F0 m 48 ls []) := by
  obtain ⟨hx, hb, hml, ht, hown, hK, hA, hE⟩ := id X
  unfold p_X7_comes_J48 at h
  refine lv_aload_n hx hb dX7_comes_48 rfl (lv_at hl 0 rfl) ?_
  refine va_get (C := RX7) (T := TX7) (N := 28) (own := RX7) (v := .ref (q 2)) hx hb ht inlX7 hown hK hP 0 rfl rfl 2 (Nat.le_of_ble_eq_true rfl) (ht _ mw_5_9) (fun _ h9 => h9) rfl dX7_comes_49 ?_
  refine lv_aload_n hx hb dX7_comes_52 rfl (lv_at hl 0 rfl) ?_
  refine va_get (C := RX7) (T := TX7) (N := 28) (own := RX7) (v := .ref (q 0)) hx hb ht inlX7 hown hK hP 0 rfl rfl 0 (Nat.le_of_ble_eq_true rfl) (ht _ mw_5_7) (fun _ h9 => h9) rfl dX7_comes_53 ?_
  refine C_sv (wr := [0, 2, 4, 5, 6, 7, 8, 9, 10, 11, 12, 13, 14, 15].filterMap (fun i => (wX7 cI cZ o q F A : va_W)[i]?)) X hP hD hS [.ref (q 2), .ref (q 0)] [] (w_X7_copyRow l D cI cZ cR adK adV _ (q 2) (q 0) 53 (A 2) 53 (A 0) _ h) cal_X7_copyRow mw_12_6 rfl [3, 1] [0, 2, 4, 5, 6, 7, 8, 9, 10, 11, 12, 13, 14, 15] [0, 15, 1, 14, 2, 3, 4, 5, 6, 7, 8, 9, 10, 11, 12, 13] (fun u => (wX7 cI cZ o q F (va_up A 0 u) : va_W)) rfl rfl (fun _ => rfl) rfl ⟨rfl, rfl⟩ ⟨Nat.le_of_ble_eq_true rfl, Nat.le_of_ble_eq_true rfl⟩ hl.1 rfl (Nat.le_of_ble_eq_true rfl) ⟨Nat.zero_le _, Nat.zero_le _⟩ dX7_comes_56 (fun u H locs h hP hD hS => ?_)
  obtain ⟨g0_56, rfl⟩ : ∃ z, z = u := ⟨_, rfl⟩
  try dsimp only at h
  have hP : va_P D vwCl (wX7 cI cZ o q F (va_up A 0 g0_56) : va_W) H := hP
  have hD : va_D A9 (wX7 cI cZ o q F (va_up A 0 g0_56) : va_W) := hD
  refine lv_iload_n hx hb dX7_comes_59 rfl (lv_at hl 1 rfl) ?_
  refine lv_bipush (v := 60) hx hb dX7_comes_60 (by decide) ?_
  refine lv_icmp_gt (tgt := 69) hx hb dX7_comes_62 (by decide) (fun c62 => ?_) (fun c62 => ?_)
  · replace h := h.1 c62
    refine lv_bipush (v := -3) hx hb dX7_comes_69 (by decide) ?_
    exact ret _ (F, (va_up A 0 g0_56)) _ _ _ _ dX7_comes_71 h hP hD hS
  · replace h := h.2 c62
    refine lv_iload_n hx hb dX7_comes_65 rfl (lv_at hl 1 rfl) ?_
    refine lv_goto (tgt := 71) hx hb dX7_comes_66 (by decide) ?_
    exact ret _ (F, (va_up A 0 g0_56)) _ _ _ _ dX7_comes_71 h hP hD hS
def p_X7_comes_L22 (x1 : Int32) (K : Int32 → tF → tA → Prop) : Nat → tF → tA → Int32 → Prop
  | 0, _, _, _ => False
  | n22 + 1, F, A, x2 => (((60 : Int32) < x2 → (p_X7_comes_J48 F A K x2)) ∧ (¬ (60 : Int32) < x2 → ((((A 0) 3) = x1 → (p_X7_comes_J48 F A K x2)) ∧ (¬ ((A 0) 3) = x1 → (p_X7_goesOn F A (fun F_39 A_39 => (∀ y42 : Int32, y42 = (x2 + (1 : Int32)) → ((p_X7_comes_L22 x1 K n22) F_39 A_39 y42))))))))
set_option maxHeartbeats 4000000 in
set_option maxRecDepth 100000 in
theorem b_X7_comes_L22 {p : Program} {l : Launch} {e : Env} {s : State} {m : MethodId} {args : Array Value} {below : List Frame} {meth : Method} {c : Code} {Q : State → Prop} {D : va_G} {cI cZ cR : ClassId} {adK adV : Nat → Nat} {A9 : Nat → Prop} {o : Nat} {q : Nat → Nat} {K : Int32 → tF → tA → Prop}  (x1 : Int32) (X : CX p s m args c yX7_comes.cls cX7_comes 3 D cI cZ cR adK adV A9) (ret : RTi p l e (rmN 6 142) s m args below meth c Q cX7_comes D A9 (fun (r : Int32) (u : (tF × tA)) => K r u.1 u.2) (fun (u : (tF × tA)) => (wX7 cI cZ o q u.1 u.2 : va_W)))   : ∀ (n : Nat) (F : tF) (A : tA) (x2 : Int32) (H : Heap) (locs : List Loc) (ls : Array Slot), p_X7_comes_L22 x1 K n F A x2 → va_P D vwCl (wX7 cI cZ o q F A : va_W) H → va_D A9 (wX7 cI cZ o q F A : va_W) → va_S A9 s.heap H locs → lv_has ls 3 [(0, .ref o), (1, .int x1), (2, .int x2)] → W p l e (rmN 6 142) s m args below meth c H locs 0 0 Q (F0 m 22 ls []) := by
  obtain ⟨hx, hb, hml, ht, hown, hK, hA, hE⟩ := id X
  intro n
  induction n with
  | zero => intro F A x2 H locs ls h; exact False.elim h
  | succ n22 ih =>
    intro F A x2 H locs ls h hP hD hS hl
    rw [p_X7_comes_L22] at h
    refine lv_iload_n hx hb dX7_comes_22 rfl (lv_at hl 2 rfl) ?_
    refine lv_bipush (v := 60) hx hb dX7_comes_23 (by decide) ?_
    refine lv_icmp_gt (tgt := 48) hx hb dX7_comes_25 (by decide) (fun c25 => ?_) (fun c25 => ?_)
    · replace h := h.1 c25
      exact b_X7_comes_J48 F A x2 X ret  _ _ _ h hP hD hS (lv_sub hl [0, 2] rfl)
    · replace h := h.2 c25
      refine lv_aload_n hx hb dX7_comes_28 rfl (lv_at hl 0 rfl) ?_
      refine va_get (C := RX7) (T := TX7) (N := 28) (own := RX7) (v := .ref (q 0)) hx hb ht inlX7 hown hK hP 0 rfl rfl 0 (Nat.le_of_ble_eq_true rfl) (ht _ mw_5_7) (fun _ h9 => h9) rfl dX7_comes_29 ?_
      refine lv_iconst (v := 3) hx hb dX7_comes_32 (by decide) ?_
      refine g_iald (f := (A 0)) (k := 3) hx hb hK hP 1 0 rfl rfl (vp_in_lit rfl : vp_in (3 : Int32) 53) (by decide) dX7_comes_33 ?_
      refine lv_iload_n hx hb dX7_comes_34 rfl (lv_at hl 1 rfl) ?_
      refine lv_icmp_eq (tgt := 48) hx hb dX7_comes_35 (by decide) (fun c35 => ?_) (fun c35 => ?_)
      · replace h := h.1 c35
        exact b_X7_comes_J48 F A x2 X ret  _ _ _ h hP hD hS (lv_sub hl [0, 2] rfl)
      · replace h := h.2 c35
        refine lv_aload_n hx hb dX7_comes_38 rfl (lv_at hl 0 rfl) ?_
        refine C_vv (wr := []) X hP hD hS [] [] (w_X7_goesOn l D cI cZ cR adK adV _ o q F A _ h) cal_X7_goesOn mw_26_0 rfl [0, 1, 2, 3, 4, 5, 6, 7, 8, 9, 10, 11, 12, 13, 14, 15] [] [0, 1, 2, 3, 4, 5, 6, 7, 8, 9, 10, 11, 12, 13, 14, 15] (fun u => (wX7 cI cZ o q u.1 u.2 : va_W)) rfl rfl (fun _ => rfl) rfl 0 rfl rfl ⟨rfl, rfl⟩ ⟨Nat.le_of_ble_eq_true rfl, Nat.le_of_ble_eq_true rfl⟩ hl.1 rfl (Nat.le_of_ble_eq_true rfl) ⟨Nat.zero_le _, Nat.zero_le _⟩ dX7_comes_39 (fun u H locs h hP hD hS => ?_)
        obtain ⟨F_39, A_39⟩ := u
        try dsimp only at h
        have hP : va_P D vwCl (wX7 cI cZ o q F_39 A_39 : va_W) H := hP
        have hD : va_D A9 (wX7 cI cZ o q F_39 A_39 : va_W) := hD
        obtain ⟨y42, ey42⟩ : ∃ y : Int32, y = (x2 + (1 : Int32)) := ⟨_, rfl⟩
        replace h := h y42 ey42
        refine lv_iinc (v := y42) (lv' := [(2, .int y42), (0, .ref o), (1, .int x1)]) hx hb dX7_comes_42 hl (k := 2) rfl (by rw [ey42]; rfl) (by decide) rfl (fun ls hl => ?_)
        refine lv_goto (tgt := 22) hx hb dX7_comes_45 (by decide) ?_
        exact ih F_39 A_39 y42 _ _ _ h hP hD hS (lv_sub hl [1, 2, 0] rfl)
def p_X7_comes (F : tF) (A : tA) (x1 : Int32) (K : Int32 → tF → tA → Prop) : Prop := (p_X7_isPlace x1 (fun r1 => ((¬ r1 = 0 → (p_X7_copyRow 53 (A 0) 53 (A 2) (fun g0_17 => (∃ n22, p_X7_comes_L22 x1 K n22 F (va_up A 2 g0_17) (0 : Int32))))) ∧ (r1 = 0 → (K (-1 : Int32) F A)))))
set_option maxHeartbeats 4000000 in
set_option maxRecDepth 100000 in
theorem w_X7_comes (l : Launch) (D : va_G) (cI cZ cR : ClassId) (adK adV : Nat → Nat) (sz : Nat) (o : Nat) (q : Nat → Nat) (F : tF) (A : tA) (x1 : Int32) (K : Int32 → tF → tA → Prop) (h : p_X7_comes F A x1 K) : MI l D cI cZ cR adK adV yX7_comes cX7_comes 3 (some .int) (rmN 6 142) [.ref o, .int x1] (wX7 cI cZ o q F A : va_W) sz (fun (r : Int32) (u : (tF × tA)) => K r u.1 u.2) (fun (u : (tF × tA)) => (wX7 cI cZ o q u.1 u.2 : va_W)) := by
  refine M_i (by decide +kernel) (Nat.le_of_ble_eq_true rfl) ?_
  intro p e s m args below meth c Q A9 ls X ret hP hD hS hl
  obtain ⟨hx, hb, hml, ht, hown, hK, hA, hE⟩ := id X
  have hl : lv_has ls 3 [(0, .ref o), (1, .int x1)] := hl
  unfold p_X7_comes at h
  refine lv_iload_n hx hb dX7_comes_0 rfl (lv_at hl 1 rfl) ?_
  refine C_si (wr := [0, 1, 2, 3, 4, 5, 6, 7, 8, 9, 10, 11, 12, 13, 14, 15].filterMap (fun i => (wX7 cI cZ o q F A : va_W)[i]?)) X hP hD hS [.int x1] [] (w_X7_isPlace l D cI cZ cR adK adV _ x1 _ h) cal_X7_isPlace mw_16_21 rfl [] [0, 1, 2, 3, 4, 5, 6, 7, 8, 9, 10, 11, 12, 13, 14, 15] [0, 1, 2, 3, 4, 5, 6, 7, 8, 9, 10, 11, 12, 13, 14, 15] (fun u => (wX7 cI cZ o q F A : va_W)) rfl rfl (fun _ => rfl) rfl ⟨rfl, rfl⟩ ⟨Nat.le_of_ble_eq_true rfl, Nat.le_of_ble_eq_true rfl⟩ hl.1 rfl (Nat.le_of_ble_eq_true rfl) ⟨Nat.zero_le _, Nat.zero_le _⟩ dX7_comes_1 (fun r1 u H locs h hP hD hS => ?_)
  refine lv_if_ne (tgt := 9) hx hb dX7_comes_4 (by decide) (fun c4 => ?_) (fun c4 => ?_)
  · replace h := h.1 c4
    refine lv_aload_n hx hb dX7_comes_9 rfl (lv_at hl 0 rfl) ?_
    refine va_get (C := RX7) (T := TX7) (N := 28) (own := RX7) (v := .ref (q 0)) hx hb ht inlX7 hown hK hP 0 rfl rfl 0 (Nat.le_of_ble_eq_true rfl) (ht _ mw_5_7) (fun _ h9 => h9) rfl dX7_comes_10 ?_
    refine lv_aload_n hx hb dX7_comes_13 rfl (lv_at hl 0 rfl) ?_
    refine va_get (C := RX7) (T := TX7) (N := 28) (own := RX7) (v := .ref (q 2)) hx hb ht inlX7 hown hK hP 0 rfl rfl 2 (Nat.le_of_ble_eq_true rfl) (ht _ mw_5_9) (fun _ h9 => h9) rfl dX7_comes_14 ?_
    refine C_sv (wr := [0, 2, 4, 5, 6, 7, 8, 9, 10, 11, 12, 13, 14, 15].filterMap (fun i => (wX7 cI cZ o q F A : va_W)[i]?)) X hP hD hS [.ref (q 0), .ref (q 2)] [] (w_X7_copyRow l D cI cZ cR adK adV _ (q 0) (q 2) 53 (A 0) 53 (A 2) _ h) cal_X7_copyRow mw_12_6 rfl [1, 3] [0, 2, 4, 5, 6, 7, 8, 9, 10, 11, 12, 13, 14, 15] [0, 14, 1, 15, 2, 3, 4, 5, 6, 7, 8, 9, 10, 11, 12, 13] (fun u => (wX7 cI cZ o q F (va_up A 2 u) : va_W)) rfl rfl (fun _ => rfl) rfl ⟨rfl, rfl⟩ ⟨Nat.le_of_ble_eq_true rfl, Nat.le_of_ble_eq_true rfl⟩ hl.1 rfl (Nat.le_of_ble_eq_true rfl) ⟨Nat.zero_le _, Nat.zero_le _⟩ dX7_comes_17 (fun u H locs h hP hD hS => ?_)
    obtain ⟨g0_17, rfl⟩ : ∃ z, z = u := ⟨_, rfl⟩
    try dsimp only at h
    have hP : va_P D vwCl (wX7 cI cZ o q F (va_up A 2 g0_17) : va_W) H := hP
    have hD : va_D A9 (wX7 cI cZ o q F (va_up A 2 g0_17) : va_W) := hD
    refine lv_iconst (v := 0) hx hb dX7_comes_20 (by decide) ?_
    refine lv_istore_n (lv' := [(2, .int (0 : Int32)), (0, .ref o), (1, .int x1)]) hx hb dX7_comes_21 rfl hl (by decide) rfl (fun ls hl => ?_)
    obtain ⟨n22, h⟩ := h
    exact b_X7_comes_L22 x1 X ret  n22 F (va_up A 2 g0_17) (0 : Int32) _ _ _ h hP hD hS (lv_sub hl [1, 2, 0] rfl)
  · replace h := h.2 c4
    refine lv_iconst (v := -1) hx hb dX7_comes_7 (by decide) ?_
    exact ret _ (F, A) _ _ _ _ dX7_comes_8 h hP hD hS
theorem dX7_calm_0 : decode cX7_calm 0 = .ok (.aload_n 0, 1) := by decide +kernel
theorem dX7_calm_1 : decode cX7_calm 1 = .ok (.getfield 7, 3) := by decide +kernel
theorem dX7_calm_4 : decode cX7_calm 4 = .ok (.aload_n 0, 1) := by decide +kernel
theorem dX7_calm_5 : decode cX7_calm 5 = .ok (.getfield 16, 3) := by decide +kernel
theorem dX7_calm_8 : decode cX7_calm 8 = .ok (.invokestatic 144, 3) := by decide +kernel
theorem dX7_calm_11 : decode cX7_calm 11 = .ok (.iconst 0, 1) := by decide +kernel
theorem dX7_calm_12 : decode cX7_calm 12 = .ok (.istore_n 1, 1) := by decide +kernel
theorem dX7_calm_13 : decode cX7_calm 13 = .ok (.iload_n 1, 1) := by decide +kernel
theorem dX7_calm_14 : decode cX7_calm 14 = .ok (.bipush 60, 2) := by decide +kernel
theorem dX7_calm_16 : decode cX7_calm 16 = .ok (.if_icmp .gt 21, 3) := by decide +kernel
theorem dX7_calm_19 : decode cX7_calm 19 = .ok (.aload_n 0, 1) := by decide +kernel
theorem dX7_calm_20 : decode cX7_calm 20 = .ok (.iconst 2, 1) := by decide +kernel
theorem dX7_calm_21 : decode cX7_calm 21 = .ok (.invokevirtual 223, 3) := by decide +kernel
theorem dX7_calm_24 : decode cX7_calm 24 = .ok (.ifCond .le 13, 3) := by decide +kernel
theorem dX7_calm_27 : decode cX7_calm 27 = .ok (.aload_n 0, 1) := by decide +kernel
theorem dX7_calm_28 : decode cX7_calm 28 = .ok (.invokevirtual 206, 3) := by decide +kernel
theorem dX7_calm_31 : decode cX7_calm 31 = .ok (.iinc 1 1, 3) := by decide +kernel
theorem dX7_calm_34 : decode cX7_calm 34 = .ok (.goto (-21), 3) := by decide +kernel
theorem dX7_calm_37 : decode cX7_calm 37 = .ok (.aload_n 0, 1) := by decide +kernel
theorem dX7_calm_38 : decode cX7_calm 38 = .ok (.getfield 16, 3) := by decide +kernel
theorem dX7_calm_41 : decode cX7_calm 41 = .ok (.aload_n 0, 1) := by decide +kernel
theorem dX7_calm_42 : decode cX7_calm 42 = .ok (.getfield 7, 3) := by decide +kernel
theorem dX7_calm_45 : decode cX7_calm 45 = .ok (.invokestatic 144, 3) := by decide +kernel
theorem dX7_calm_48 : decode cX7_calm 48 = .ok (.iload_n 1, 1) := by decide +kernel
theorem dX7_calm_49 : decode cX7_calm 49 = .ok (.bipush 60, 2) := by decide +kernel
theorem dX7_calm_51 : decode cX7_calm 51 = .ok (.if_icmp .gt 7, 3) := by decide +kernel
theorem dX7_calm_54 : decode cX7_calm 54 = .ok (.iload_n 1, 1) := by decide +kernel
theorem dX7_calm_55 : decode cX7_calm 55 = .ok (.goto 5, 3) := by decide +kernel
theorem dX7_calm_58 : decode cX7_calm 58 = .ok (.bipush (-3), 2) := by decide +kernel
theorem dX7_calm_60 : decode cX7_calm 60 = .ok (.ireturn, 1) := by decide +kernel
def p_X7_calm_J37 (F : tF) (A : tA) (K : Int32 → tF → tA → Prop) (x1 : Int32) : Prop := (p_X7_copyRow 53 (A 2) 53 (A 0) (fun g0_45 => (((60 : Int32) < x1 → (K (-3 : Int32) F (va_up A 0 g0_45))) ∧ (¬ (60 : Int32) < x1 → (K x1 F (va_up A 0 g0_45))))))
set_option maxHeartbeats 4000000 in
set_option maxRecDepth 100000 in
theorem b_X7_calm_J37 {p : Program} {l : Launch} {e : Env} {s : State} {m : MethodId} {args : Array Value} {below : List Frame} {meth : Method} {c : Code} {Q : State → Prop} {D : va_G} {cI cZ cR : ClassId} {adK adV : Nat → Nat} {A9 : Nat → Prop} {o : Nat} {q : Nat → Nat} {K : Int32 → tF → tA → Prop}  (F : tF) (A : tA) (x1 : Int32) (X : CX p s m args c yX7_calm.cls cX7_calm 2 D cI cZ cR adK adV A9) (ret : RTi p l e (rmN 6 142) s m args below meth c Q cX7_calm D A9 (fun (r : Int32) (u : (tF × tA)) => K r u.1 u.2) (fun (u : (tF × tA)) => (wX7 cI cZ o q u.1 u.2 : va_W)))  (H : Heap) (locs : List Loc) (ls : Array Slot) (h : p_X7_calm_J37 F A K x1) (hP : va_P D vwCl (wX7 cI cZ o q F A : va_W) H) (hD : va_D A9 (wX7 cI cZ o q F A : va_W)) (hS : va_S A9 s.heap H locs) (hl : lv_has ls 2 [(0, .ref o), (1, .int x1)]) : W p l e (rmN 6 142) s m args below meth c H locs 0 0 Q (F0 m 37 ls []) := by
  obtain ⟨hx, hb, hml, ht, hown, hK, hA, hE⟩ := id X
  unfold p_X7_calm_J37 at h
  refine lv_aload_n hx hb dX7_calm_37 rfl (lv_at hl 0 rfl) ?_
  refine va_get (C := RX7) (T := TX7) (N := 28) (own := RX7) (v := .ref (q 2)) hx hb ht inlX7 hown hK hP 0 rfl rfl 2 (Nat.le_of_ble_eq_true rfl) (ht _ mw_5_9) (fun _ h9 => h9) rfl dX7_calm_38 ?_
  refine lv_aload_n hx hb dX7_calm_41 rfl (lv_at hl 0 rfl) ?_
  refine va_get (C := RX7) (T := TX7) (N := 28) (own := RX7) (v := .ref (q 0)) hx hb ht inlX7 hown hK hP 0 rfl rfl 0 (Nat.le_of_ble_eq_true rfl) (ht _ mw_5_7) (fun _ h9 => h9) rfl dX7_calm_42 ?_
  refine C_sv (wr := [0, 2, 4, 5, 6, 7, 8, 9, 10, 11, 12, 13, 14, 15].filterMap (fun i => (wX7 cI cZ o q F A : va_W)[i]?)) X hP hD hS [.ref (q 2), .ref (q 0)] [] (w_X7_copyRow l D cI cZ cR adK adV _ (q 2) (q 0) 53 (A 2) 53 (A 0) _ h) cal_X7_copyRow mw_12_6 rfl [3, 1] [0, 2, 4, 5, 6, 7, 8, 9, 10, 11, 12, 13, 14, 15] [0, 15, 1, 14, 2, 3, 4, 5, 6, 7, 8, 9, 10, 11, 12, 13] (fun u => (wX7 cI cZ o q F (va_up A 0 u) : va_W)) rfl rfl (fun _ => rfl) rfl ⟨rfl, rfl⟩ ⟨Nat.le_of_ble_eq_true rfl, Nat.le_of_ble_eq_true rfl⟩ hl.1 rfl (Nat.le_of_ble_eq_true rfl) ⟨Nat.zero_le _, Nat.zero_le _⟩ dX7_calm_45 (fun u H locs h hP hD hS => ?_)
  obtain ⟨g0_45, rfl⟩ : ∃ z, z = u := ⟨_, rfl⟩
  try dsimp only at h
  have hP : va_P D vwCl (wX7 cI cZ o q F (va_up A 0 g0_45) : va_W) H := hP
  have hD : va_D A9 (wX7 cI cZ o q F (va_up A 0 g0_45) : va_W) := hD
  refine lv_iload_n hx hb dX7_calm_48 rfl (lv_at hl 1 rfl) ?_
  refine lv_bipush (v := 60) hx hb dX7_calm_49 (by decide) ?_
  refine lv_icmp_gt (tgt := 58) hx hb dX7_calm_51 (by decide) (fun c51 => ?_) (fun c51 => ?_)
  · replace h := h.1 c51
    refine lv_bipush (v := -3) hx hb dX7_calm_58 (by decide) ?_
    exact ret _ (F, (va_up A 0 g0_45)) _ _ _ _ dX7_calm_60 h hP hD hS
  · replace h := h.2 c51
    refine lv_iload_n hx hb dX7_calm_54 rfl (lv_at hl 1 rfl) ?_
    refine lv_goto (tgt := 60) hx hb dX7_calm_55 (by decide) ?_
    exact ret _ (F, (va_up A 0 g0_45)) _ _ _ _ dX7_calm_60 h hP hD hS
def p_X7_calm_L13 (K : Int32 → tF → tA → Prop) : Nat → tF → tA → Int32 → Prop
  | 0, _, _, _ => False
  | n13 + 1, F, A, x1 => (((60 : Int32) < x1 → (p_X7_calm_J37 F A K x1)) ∧ (¬ (60 : Int32) < x1 → (p_X7_sumOf F A (2 : Int32) (fun r21 => ((r21 ≤ 0 → (p_X7_calm_J37 F A K x1)) ∧ (¬ r21 ≤ 0 → (p_X7_goesOn F A (fun F_28 A_28 => (∀ y31 : Int32, y31 = (x1 + (1 : Int32)) → ((p_X7_calm_L13 K n13) F_28 A_28 y31))))))))))
set_option maxHeartbeats 4000000 in
set_option maxRecDepth 100000 in
theorem b_X7_calm_L13 {p : Program} {l : Launch} {e : Env} {s : State} {m : MethodId} {args : Array Value} {below : List Frame} {meth : Method} {c : Code} {Q : State → Prop} {D : va_G} {cI cZ cR : ClassId} {adK adV : Nat → Nat} {A9 : Nat → Prop} {o : Nat} {q : Nat → Nat} {K : Int32 → tF → tA → Prop}   (X : CX p s m args c yX7_calm.cls cX7_calm 2 D cI cZ cR adK adV A9) (ret : RTi p l e (rmN 6 142) s m args below meth c Q cX7_calm D A9 (fun (r : Int32) (u : (tF × tA)) => K r u.1 u.2) (fun (u : (tF × tA)) => (wX7 cI cZ o q u.1 u.2 : va_W)))   : ∀ (n : Nat) (F : tF) (A : tA) (x1 : Int32) (H : Heap) (locs : List Loc) (ls : Array Slot), p_X7_calm_L13 K n F A x1 → va_P D vwCl (wX7 cI cZ o q F A : va_W) H → va_D A9 (wX7 cI cZ o q F A : va_W) → va_S A9 s.heap H locs → lv_has ls 2 [(0, .ref o), (1, .int x1)] → W p l e (rmN 6 142) s m args below meth c H locs 0 0 Q (F0 m 13 ls []) := by
  obtain ⟨hx, hb, hml, ht, hown, hK, hA, hE⟩ := id X
  intro n
  induction n with
  | zero => intro F A x1 H locs ls h; exact False.elim h
  | succ n13 ih =>
    intro F A x1 H locs ls h hP hD hS hl
    rw [p_X7_calm_L13] at h
    refine lv_iload_n hx hb dX7_calm_13 rfl (lv_at hl 1 rfl) ?_
    refine lv_bipush (v := 60) hx hb dX7_calm_14 (by decide) ?_
    refine lv_icmp_gt (tgt := 37) hx hb dX7_calm_16 (by decide) (fun c16 => ?_) (fun c16 => ?_)
    · replace h := h.1 c16
      exact b_X7_calm_J37 F A x1 X ret  _ _ _ h hP hD hS (lv_sub hl [0, 1] rfl)
    · replace h := h.2 c16
      refine lv_aload_n hx hb dX7_calm_19 rfl (lv_at hl 0 rfl) ?_
      refine lv_iconst (v := 2) hx hb dX7_calm_20 (by decide) ?_
      refine C_vi (wr := []) X hP hD hS [.int (2 : Int32)] [] (w_X7_sumOf l D cI cZ cR adK adV _ o q F A (2 : Int32) _ h) cal_X7_sumOf mw_28_21 rfl [0, 1, 2, 3, 4, 5, 6, 7, 8, 9, 10, 11, 12, 13, 14, 15] [] [0, 1, 2, 3, 4, 5, 6, 7, 8, 9, 10, 11, 12, 13, 14, 15] (fun u => (wX7 cI cZ o q F A : va_W)) rfl rfl (fun _ => rfl) rfl 0 rfl rfl ⟨rfl, rfl⟩ ⟨Nat.le_of_ble_eq_true rfl, Nat.le_of_ble_eq_true rfl⟩ hl.1 rfl (Nat.le_of_ble_eq_true rfl) ⟨Nat.zero_le _, Nat.zero_le _⟩ dX7_calm_21 (fun r21 u H locs h hP hD hS => ?_)
      refine lv_if_le (tgt := 37) hx hb dX7_calm_24 (by decide) (fun c24 => ?_) (fun c24 => ?_)
      · replace h := h.1 c24
        exact b_X7_calm_J37 F A x1 X ret  _ _ _ h hP hD hS (lv_sub hl [0, 1] rfl)
      · replace h := h.2 c24
        refine lv_aload_n hx hb dX7_calm_27 rfl (lv_at hl 0 rfl) ?_
        refine C_vv (wr := []) X hP hD hS [] [] (w_X7_goesOn l D cI cZ cR adK adV _ o q F A _ h) cal_X7_goesOn mw_26_0 rfl [0, 1, 2, 3, 4, 5, 6, 7, 8, 9, 10, 11, 12, 13, 14, 15] [] [0, 1, 2, 3, 4, 5, 6, 7, 8, 9, 10, 11, 12, 13, 14, 15] (fun u => (wX7 cI cZ o q u.1 u.2 : va_W)) rfl rfl (fun _ => rfl) rfl 0 rfl rfl ⟨rfl, rfl⟩ ⟨Nat.le_of_ble_eq_true rfl, Nat.le_of_ble_eq_true rfl⟩ hl.1 rfl (Nat.le_of_ble_eq_true rfl) ⟨Nat.zero_le _, Nat.zero_le _⟩ dX7_calm_28 (fun u H locs h hP hD hS => ?_)
        obtain ⟨F_28, A_28⟩ := u
        try dsimp only at h
        have hP : va_P D vwCl (wX7 cI cZ o q F_28 A_28 : va_W) H := hP
        have hD : va_D A9 (wX7 cI cZ o q F_28 A_28 : va_W) := hD
        obtain ⟨y31, ey31⟩ : ∃ y : Int32, y = (x1 + (1 : Int32)) := ⟨_, rfl⟩
        replace h := h y31 ey31
        refine lv_iinc (v := y31) (lv' := [(1, .int y31), (0, .ref o)]) hx hb dX7_calm_31 hl (k := 1) rfl (by rw [ey31]; rfl) (by decide) rfl (fun ls hl => ?_)
        refine lv_goto (tgt := 13) hx hb dX7_calm_34 (by decide) ?_
        exact ih F_28 A_28 y31 _ _ _ h hP hD hS (lv_sub hl [1, 0] rfl)
def p_X7_calm (F : tF) (A : tA) (K : Int32 → tF → tA → Prop) : Prop := (p_X7_copyRow 53 (A 0) 53 (A 2) (fun g0_8 => (∃ n13, p_X7_calm_L13 K n13 F (va_up A 2 g0_8) (0 : Int32))))
set_option maxHeartbeats 4000000 in
set_option maxRecDepth 100000 in
theorem w_X7_calm (l : Launch) (D : va_G) (cI cZ cR : ClassId) (adK adV : Nat → Nat) (sz : Nat) (o : Nat) (q : Nat → Nat) (F : tF) (A : tA) (K : Int32 → tF → tA → Prop) (h : p_X7_calm F A K) : MI l D cI cZ cR adK adV yX7_calm cX7_calm 2 (some .int) (rmN 6 142) [.ref o] (wX7 cI cZ o q F A : va_W) sz (fun (r : Int32) (u : (tF × tA)) => K r u.1 u.2) (fun (u : (tF × tA)) => (wX7 cI cZ o q u.1 u.2 : va_W)) := by
  refine M_i (by decide +kernel) (Nat.le_of_ble_eq_true rfl) ?_
  intro p e s m args below meth c Q A9 ls X ret hP hD hS hl
  obtain ⟨hx, hb, hml, ht, hown, hK, hA, hE⟩ := id X
  have hl : lv_has ls 2 [(0, .ref o)] := hl
  unfold p_X7_calm at h
  refine lv_aload_n hx hb dX7_calm_0 rfl (lv_at hl 0 rfl) ?_
  refine va_get (C := RX7) (T := TX7) (N := 28) (own := RX7) (v := .ref (q 0)) hx hb ht inlX7 hown hK hP 0 rfl rfl 0 (Nat.le_of_ble_eq_true rfl) (ht _ mw_5_7) (fun _ h9 => h9) rfl dX7_calm_1 ?_
  refine lv_aload_n hx hb dX7_calm_4 rfl (lv_at hl 0 rfl) ?_
  refine va_get (C := RX7) (T := TX7) (N := 28) (own := RX7) (v := .ref (q 2)) hx hb ht inlX7 hown hK hP 0 rfl rfl 2 (Nat.le_of_ble_eq_true rfl) (ht _ mw_5_9) (fun _ h9 => h9) rfl dX7_calm_5 ?_
  refine C_sv (wr := [0, 2, 4, 5, 6, 7, 8, 9, 10, 11, 12, 13, 14, 15].filterMap (fun i => (wX7 cI cZ o q F A : va_W)[i]?)) X hP hD hS [.ref (q 0), .ref (q 2)] [] (w_X7_copyRow l D cI cZ cR adK adV _ (q 0) (q 2) 53 (A 0) 53 (A 2) _ h) cal_X7_copyRow mw_12_6 rfl [1, 3] [0, 2, 4, 5, 6, 7, 8, 9, 10, 11, 12, 13, 14, 15] [0, 14, 1, 15, 2, 3, 4, 5, 6, 7, 8, 9, 10, 11, 12, 13] (fun u => (wX7 cI cZ o q F (va_up A 2 u) : va_W)) rfl rfl (fun _ => rfl) rfl ⟨rfl, rfl⟩ ⟨Nat.le_of_ble_eq_true rfl, Nat.le_of_ble_eq_true rfl⟩ hl.1 rfl (Nat.le_of_ble_eq_true rfl) ⟨Nat.zero_le _, Nat.zero_le _⟩ dX7_calm_8 (fun u H locs h hP hD hS => ?_)
  obtain ⟨g0_8, rfl⟩ : ∃ z, z = u := ⟨_, rfl⟩
  try dsimp only at h
  have hP : va_P D vwCl (wX7 cI cZ o q F (va_up A 2 g0_8) : va_W) H := hP
  have hD : va_D A9 (wX7 cI cZ o q F (va_up A 2 g0_8) : va_W) := hD
  refine lv_iconst (v := 0) hx hb dX7_calm_11 (by decide) ?_
  refine lv_istore_n (lv' := [(1, .int (0 : Int32)), (0, .ref o)]) hx hb dX7_calm_12 rfl hl (by decide) rfl (fun ls hl => ?_)
  obtain ⟨n13, h⟩ := h
  exact b_X7_calm_L13  X ret  n13 F (va_up A 2 g0_8) (0 : Int32) _ _ _ h hP hD hS (lv_sub hl [1, 0] rfl)
theorem dX7_scared_0 : decode cX7_scared 0 = .ok (.aload_n 0, 1) := by decide +kernel
theorem dX7_scared_1 : decode cX7_scared 1 = .ok (.iload_n 1, 1) := by decide +kernel
theorem dX7_scared_2 : decode cX7_scared 2 = .ok (.invokevirtual 178, 3) := by decide +kernel
theorem dX7_scared_5 : decode cX7_scared 5 = .ok (.ifCond .ne 5, 3) := by decide +kernel
theorem dX7_scared_8 : decode cX7_scared 8 = .ok (.iconst (-1), 1) := by decide +kernel
theorem dX7_scared_9 : decode cX7_scared 9 = .ok (.ireturn, 1) := by decide +kernel
theorem dX7_scared_10 : decode cX7_scared 10 = .ok (.aload_n 0, 1) := by decide +kernel
theorem dX7_scared_11 : decode cX7_scared 11 = .ok (.getfield 7, 3) := by decide +kernel
theorem dX7_scared_14 : decode cX7_scared 14 = .ok (.aload_n 0, 1) := by decide +kernel
theorem dX7_scared_15 : decode cX7_scared 15 = .ok (.getfield 16, 3) := by decide +kernel
theorem dX7_scared_18 : decode cX7_scared 18 = .ok (.invokestatic 144, 3) := by decide +kernel
theorem dX7_scared_21 : decode cX7_scared 21 = .ok (.iconst 0, 1) := by decide +kernel
theorem dX7_scared_22 : decode cX7_scared 22 = .ok (.istore_n 2, 1) := by decide +kernel
theorem dX7_scared_23 : decode cX7_scared 23 = .ok (.iload_n 2, 1) := by decide +kernel
theorem dX7_scared_24 : decode cX7_scared 24 = .ok (.bipush 60, 2) := by decide +kernel
theorem dX7_scared_26 : decode cX7_scared 26 = .ok (.if_icmp .gt 24, 3) := by decide +kernel
theorem dX7_scared_29 : decode cX7_scared 29 = .ok (.aload_n 0, 1) := by decide +kernel
theorem dX7_scared_30 : decode cX7_scared 30 = .ok (.iload_n 1, 1) := by decide +kernel
theorem dX7_scared_31 : decode cX7_scared 31 = .ok (.iconst 2, 1) := by decide +kernel
theorem dX7_scared_32 : decode cX7_scared 32 = .ok (.invokevirtual 169, 3) := by decide +kernel
theorem dX7_scared_35 : decode cX7_scared 35 = .ok (.bipush 9, 2) := by decide +kernel
theorem dX7_scared_37 : decode cX7_scared 37 = .ok (.if_icmp .ge 13, 3) := by decide +kernel
theorem dX7_scared_40 : decode cX7_scared 40 = .ok (.aload_n 0, 1) := by decide +kernel
theorem dX7_scared_41 : decode cX7_scared 41 = .ok (.invokevirtual 206, 3) := by decide +kernel
theorem dX7_scared_44 : decode cX7_scared 44 = .ok (.iinc 2 1, 3) := by decide +kernel
theorem dX7_scared_47 : decode cX7_scared 47 = .ok (.goto (-24), 3) := by decide +kernel
theorem dX7_scared_50 : decode cX7_scared 50 = .ok (.aload_n 0, 1) := by decide +kernel
theorem dX7_scared_51 : decode cX7_scared 51 = .ok (.getfield 16, 3) := by decide +kernel
theorem dX7_scared_54 : decode cX7_scared 54 = .ok (.aload_n 0, 1) := by decide +kernel
theorem dX7_scared_55 : decode cX7_scared 55 = .ok (.getfield 7, 3) := by decide +kernel
theorem dX7_scared_58 : decode cX7_scared 58 = .ok (.invokestatic 144, 3) := by decide +kernel
theorem dX7_scared_61 : decode cX7_scared 61 = .ok (.iload_n 2, 1) := by decide +kernel
theorem dX7_scared_62 : decode cX7_scared 62 = .ok (.bipush 60, 2) := by decide +kernel
theorem dX7_scared_64 : decode cX7_scared 64 = .ok (.if_icmp .gt 7, 3) := by decide +kernel
theorem dX7_scared_67 : decode cX7_scared 67 = .ok (.iload_n 2, 1) := by decide +kernel
theorem dX7_scared_68 : decode cX7_scared 68 = .ok (.goto 5, 3) := by decide +kernel
theorem dX7_scared_71 : decode cX7_scared 71 = .ok (.bipush (-3), 2) := by decide +kernel
theorem dX7_scared_73 : decode cX7_scared 73 = .ok (.ireturn, 1) := by decide +kernel
def p_X7_scared_J50 (F : tF) (A : tA) (K : Int32 → tF → tA → Prop) (x2 : Int32) : Prop := (p_X7_copyRow 53 (A 2) 53 (A 0) (fun g0_58 => (((60 : Int32) < x2 → (K (-3 : Int32) F (va_up A 0 g0_58))) ∧ (¬ (60 : Int32) < x2 → (K x2 F (va_up A 0 g0_58))))))
set_option maxHeartbeats 4000000 in
set_option maxRecDepth 100000 in
theorem b_X7_scared_J50 {p : Program} {l : Launch} {e : Env} {s : State} {m : MethodId} {args : Array Value} {below : List Frame} {meth : Method} {c : Code} {Q : State → Prop} {D : va_G} {cI cZ cR : ClassId} {adK adV : Nat → Nat} {A9 : Nat → Prop} {o : Nat} {q : Nat → Nat} {K : Int32 → tF → tA → Prop}  (F : tF) (A : tA) (x2 : Int32) (X : CX p s m args c yX7_scared.cls cX7_scared 3 D cI cZ cR adK adV A9) (ret : RTi p l e (rmN 6 142) s m args below meth c Q cX7_scared D A9 (fun (r : Int32) (u : (tF × tA)) => K r u.1 u.2) (fun (u : (tF × tA)) => (wX7 cI cZ o q u.1 u.2 : va_W)))  (H : Heap) (locs : List Loc) (ls : Array Slot) (h : p_X7_scared_J50 F A K x2) (hP : va_P D vwCl (wX7 cI cZ o q F A : va_W) H) (hD : va_D A9 (wX7 cI cZ o q F A : va_W)) (hS : va_S A9 s.heap H locs) (hl : lv_has ls 3 [(0, .ref o), (2, .int x2)]) : W p l e (rmN 6 142) s m args below meth c H locs 0 0 Q (F0 m 50 ls []) := by
  obtain ⟨hx, hb, hml, ht, hown, hK, hA, hE⟩ := id X
  unfold p_X7_scared_J50 at h
  refine lv_aload_n hx hb dX7_scared_50 rfl (lv_at hl 0 rfl) ?_
  refine va_get (C := RX7) (T := TX7) (N := 28) (own := RX7) (v := .ref (q 2)) hx hb ht inlX7 hown hK hP 0 rfl rfl 2 (Nat.le_of_ble_eq_true rfl) (ht _ mw_5_9) (fun _ h9 => h9) rfl dX7_scared_51 ?_
  refine lv_aload_n hx hb dX7_scared_54 rfl (lv_at hl 0 rfl) ?_
  refine va_get (C := RX7) (T := TX7) (N := 28) (own := RX7) (v := .ref (q 0)) hx hb ht inlX7 hown hK hP 0 rfl rfl 0 (Nat.le_of_ble_eq_true rfl) (ht _ mw_5_7) (fun _ h9 => h9) rfl dX7_scared_55 ?_
  refine C_sv (wr := [0, 2, 4, 5, 6, 7, 8, 9, 10, 11, 12, 13, 14, 15].filterMap (fun i => (wX7 cI cZ o q F A : va_W)[i]?)) X hP hD hS [.ref (q 2), .ref (q 0)] [] (w_X7_copyRow l D cI cZ cR adK adV _ (q 2) (q 0) 53 (A 2) 53 (A 0) _ h) cal_X7_copyRow mw_12_6 rfl [3, 1] [0, 2, 4, 5, 6, 7, 8, 9, 10, 11, 12, 13, 14, 15] [0, 15, 1, 14, 2, 3, 4, 5, 6, 7, 8, 9, 10, 11, 12, 13] (fun u => (wX7 cI cZ o q F (va_up A 0 u) : va_W)) rfl rfl (fun _ => rfl) rfl ⟨rfl, rfl⟩ ⟨Nat.le_of_ble_eq_true rfl, Nat.le_of_ble_eq_true rfl⟩ hl.1 rfl (Nat.le_of_ble_eq_true rfl) ⟨Nat.zero_le _, Nat.zero_le _⟩ dX7_scared_58 (fun u H locs h hP hD hS => ?_)
  obtain ⟨g0_58, rfl⟩ : ∃ z, z = u := ⟨_, rfl⟩
  try dsimp only at h
  have hP : va_P D vwCl (wX7 cI cZ o q F (va_up A 0 g0_58) : va_W) H := hP
  have hD : va_D A9 (wX7 cI cZ o q F (va_up A 0 g0_58) : va_W) := hD
  refine lv_iload_n hx hb dX7_scared_61 rfl (lv_at hl 1 rfl) ?_
  refine lv_bipush (v := 60) hx hb dX7_scared_62 (by decide) ?_
  refine lv_icmp_gt (tgt := 71) hx hb dX7_scared_64 (by decide) (fun c64 => ?_) (fun c64 => ?_)
  · replace h := h.1 c64
    refine lv_bipush (v := -3) hx hb dX7_scared_71 (by decide) ?_
    exact ret _ (F, (va_up A 0 g0_58)) _ _ _ _ dX7_scared_73 h hP hD hS
  · replace h := h.2 c64
    refine lv_iload_n hx hb dX7_scared_67 rfl (lv_at hl 1 rfl) ?_
    refine lv_goto (tgt := 73) hx hb dX7_scared_68 (by decide) ?_
    exact ret _ (F, (va_up A 0 g0_58)) _ _ _ _ dX7_scared_73 h hP hD hS
def p_X7_scared_L23 (x1 : Int32) (K : Int32 → tF → tA → Prop) : Nat → tF → tA → Int32 → Prop
  | 0, _, _, _ => False
  | n23 + 1, F, A, x2 => (((60 : Int32) < x2 → (p_X7_scared_J50 F A K x2)) ∧ (¬ (60 : Int32) < x2 → (p_X7_its F A x1 (2 : Int32) (fun r32 => (((9 : Int32) ≤ r32 → (p_X7_scared_J50 F A K x2)) ∧ (¬ (9 : Int32) ≤ r32 → (p_X7_goesOn F A (fun F_41 A_41 => (∀ y44 : Int32, y44 = (x2 + (1 : Int32)) → ((p_X7_scared_L23 x1 K n23) F_41 A_41 y44))))))))))
set_option maxHeartbeats 4000000 in
set_option maxRecDepth 100000 in
theorem b_X7_scared_L23 {p : Program} {l : Launch} {e : Env} {s : State} {m : MethodId} {args : Array Value} {below : List Frame} {meth : Method} {c : Code} {Q : State → Prop} {D : va_G} {cI cZ cR : ClassId} {adK adV : Nat → Nat} {A9 : Nat → Prop} {o : Nat} {q : Nat → Nat} {K : Int32 → tF → tA → Prop}  (x1 : Int32) (X : CX p s m args c yX7_scared.cls cX7_scared 3 D cI cZ cR adK adV A9) (ret : RTi p l e (rmN 6 142) s m args below meth c Q cX7_scared D A9 (fun (r : Int32) (u : (tF × tA)) => K r u.1 u.2) (fun (u : (tF × tA)) => (wX7 cI cZ o q u.1 u.2 : va_W)))   : ∀ (n : Nat) (F : tF) (A : tA) (x2 : Int32) (H : Heap) (locs : List Loc) (ls : Array Slot), p_X7_scared_L23 x1 K n F A x2 → va_P D vwCl (wX7 cI cZ o q F A : va_W) H → va_D A9 (wX7 cI cZ o q F A : va_W) → va_S A9 s.heap H locs → lv_has ls 3 [(0, .ref o), (1, .int x1), (2, .int x2)] → W p l e (rmN 6 142) s m args below meth c H locs 0 0 Q (F0 m 23 ls []) := by
  obtain ⟨hx, hb, hml, ht, hown, hK, hA, hE⟩ := id X
  intro n
  induction n with
  | zero => intro F A x2 H locs ls h; exact False.elim h
  | succ n23 ih =>
    intro F A x2 H locs ls h hP hD hS hl
    rw [p_X7_scared_L23] at h
    refine lv_iload_n hx hb dX7_scared_23 rfl (lv_at hl 2 rfl) ?_
    refine lv_bipush (v := 60) hx hb dX7_scared_24 (by decide) ?_
    refine lv_icmp_gt (tgt := 50) hx hb dX7_scared_26 (by decide) (fun c26 => ?_) (fun c26 => ?_)
    · replace h := h.1 c26
      exact b_X7_scared_J50 F A x2 X ret  _ _ _ h hP hD hS (lv_sub hl [0, 2] rfl)
    · replace h := h.2 c26
      refine lv_aload_n hx hb dX7_scared_29 rfl (lv_at hl 0 rfl) ?_
      refine lv_iload_n hx hb dX7_scared_30 rfl (lv_at hl 1 rfl) ?_
      refine lv_iconst (v := 2) hx hb dX7_scared_31 (by decide) ?_
      refine C_vi (wr := []) X hP hD hS [.int x1, .int (2 : Int32)] [] (w_X7_its l D cI cZ cR adK adV _ o q F A x1 (2 : Int32) _ h) cal_X7_its mw_18_16 rfl [0, 1, 2, 3, 4, 5, 6, 7, 8, 9, 10, 11, 12, 13, 14, 15] [] [0, 1, 2, 3, 4, 5, 6, 7, 8, 9, 10, 11, 12, 13, 14, 15] (fun u => (wX7 cI cZ o q F A : va_W)) rfl rfl (fun _ => rfl) rfl 0 rfl rfl ⟨rfl, rfl⟩ ⟨Nat.le_of_ble_eq_true rfl, Nat.le_of_ble_eq_true rfl⟩ hl.1 rfl (Nat.le_of_ble_eq_true rfl) ⟨Nat.zero_le _, Nat.zero_le _⟩ dX7_scared_32 (fun r32 u H locs h hP hD hS => ?_)
      refine lv_bipush (v := 9) hx hb dX7_scared_35 (by decide) ?_
      refine lv_icmp_ge (tgt := 50) hx hb dX7_scared_37 (by decide) (fun c37 => ?_) (fun c37 => ?_)
      · replace h := h.1 c37
        exact b_X7_scared_J50 F A x2 X ret  _ _ _ h hP hD hS (lv_sub hl [0, 2] rfl)
      · replace h := h.2 c37
        refine lv_aload_n hx hb dX7_scared_40 rfl (lv_at hl 0 rfl) ?_
        refine C_vv (wr := []) X hP hD hS [] [] (w_X7_goesOn l D cI cZ cR adK adV _ o q F A _ h) cal_X7_goesOn mw_26_0 rfl [0, 1, 2, 3, 4, 5, 6, 7, 8, 9, 10, 11, 12, 13, 14, 15] [] [0, 1, 2, 3, 4, 5, 6, 7, 8, 9, 10, 11, 12, 13, 14, 15] (fun u => (wX7 cI cZ o q u.1 u.2 : va_W)) rfl rfl (fun _ => rfl) rfl 0 rfl rfl ⟨rfl, rfl⟩ ⟨Nat.le_of_ble_eq_true rfl, Nat.le_of_ble_eq_true rfl⟩ hl.1 rfl (Nat.le_of_ble_eq_true rfl) ⟨Nat.zero_le _, Nat.zero_le _⟩ dX7_scared_41 (fun u H locs h hP hD hS => ?_)
        obtain ⟨F_41, A_41⟩ := u
        try dsimp only at h
        have hP : va_P D vwCl (wX7 cI cZ o q F_41 A_41 : va_W) H := hP
        have hD : va_D A9 (wX7 cI cZ o q F_41 A_41 : va_W) := hD
        obtain ⟨y44, ey44⟩ : ∃ y : Int32, y = (x2 + (1 : Int32)) := ⟨_, rfl⟩
        replace h := h y44 ey44
        refine lv_iinc (v := y44) (lv' := [(2, .int y44), (0, .ref o), (1, .int x1)]) hx hb dX7_scared_44 hl (k := 2) rfl (by rw [ey44]; rfl) (by decide) rfl (fun ls hl => ?_)
        refine lv_goto (tgt := 23) hx hb dX7_scared_47 (by decide) ?_
        exact ih F_41 A_41 y44 _ _ _ h hP hD hS (lv_sub hl [1, 2, 0] rfl)
def p_X7_scared (F : tF) (A : tA) (x1 : Int32) (K : Int32 → tF → tA → Prop) : Prop := (p_X7_isOne F A x1 (fun r2 => ((¬ r2 = 0 → (p_X7_copyRow 53 (A 0) 53 (A 2) (fun g0_18 => (∃ n23, p_X7_scared_L23 x1 K n23 F (va_up A 2 g0_18) (0 : Int32))))) ∧ (r2 = 0 → (K (-1 : Int32) F A)))))
set_option maxHeartbeats 4000000 in
set_option maxRecDepth 100000 in
theorem w_X7_scared (l : Launch) (D : va_G) (cI cZ cR : ClassId) (adK adV : Nat → Nat) (sz : Nat) (o : Nat) (q : Nat → Nat) (F : tF) (A : tA) (x1 : Int32) (K : Int32 → tF → tA → Prop) (h : p_X7_scared F A x1 K) : MI l D cI cZ cR adK adV yX7_scared cX7_scared 3 (some .int) (rmN 6 142) [.ref o, .int x1] (wX7 cI cZ o q F A : va_W) sz (fun (r : Int32) (u : (tF × tA)) => K r u.1 u.2) (fun (u : (tF × tA)) => (wX7 cI cZ o q u.1 u.2 : va_W)) := by
  refine M_i (by decide +kernel) (Nat.le_of_ble_eq_true rfl) ?_
  intro p e s m args below meth c Q A9 ls X ret hP hD hS hl
  obtain ⟨hx, hb, hml, ht, hown, hK, hA, hE⟩ := id X
  have hl : lv_has ls 3 [(0, .ref o), (1, .int x1)] := hl
  unfold p_X7_scared at h
  refine lv_aload_n hx hb dX7_scared_0 rfl (lv_at hl 0 rfl) ?_
  refine lv_iload_n hx hb dX7_scared_1 rfl (lv_at hl 1 rfl) ?_
  refine C_vi (wr := []) X hP hD hS [.int x1] [] (w_X7_isOne l D cI cZ cR adK adV _ o q F A x1 _ h) cal_X7_isOne mw_18_12 rfl [0, 1, 2, 3, 4, 5, 6, 7, 8, 9, 10, 11, 12, 13, 14, 15] [] [0, 1, 2, 3, 4, 5, 6, 7, 8, 9, 10, 11, 12, 13, 14, 15] (fun u => (wX7 cI cZ o q F A : va_W)) rfl rfl (fun _ => rfl) rfl 0 rfl rfl ⟨rfl, rfl⟩ ⟨Nat.le_of_ble_eq_true rfl, Nat.le_of_ble_eq_true rfl⟩ hl.1 rfl (Nat.le_of_ble_eq_true rfl) ⟨Nat.zero_le _, Nat.zero_le _⟩ dX7_scared_2 (fun r2 u H locs h hP hD hS => ?_)
  refine lv_if_ne (tgt := 10) hx hb dX7_scared_5 (by decide) (fun c5 => ?_) (fun c5 => ?_)
  · replace h := h.1 c5
    refine lv_aload_n hx hb dX7_scared_10 rfl (lv_at hl 0 rfl) ?_
    refine va_get (C := RX7) (T := TX7) (N := 28) (own := RX7) (v := .ref (q 0)) hx hb ht inlX7 hown hK hP 0 rfl rfl 0 (Nat.le_of_ble_eq_true rfl) (ht _ mw_5_7) (fun _ h9 => h9) rfl dX7_scared_11 ?_
    refine lv_aload_n hx hb dX7_scared_14 rfl (lv_at hl 0 rfl) ?_
    refine va_get (C := RX7) (T := TX7) (N := 28) (own := RX7) (v := .ref (q 2)) hx hb ht inlX7 hown hK hP 0 rfl rfl 2 (Nat.le_of_ble_eq_true rfl) (ht _ mw_5_9) (fun _ h9 => h9) rfl dX7_scared_15 ?_
    refine C_sv (wr := [0, 2, 4, 5, 6, 7, 8, 9, 10, 11, 12, 13, 14, 15].filterMap (fun i => (wX7 cI cZ o q F A : va_W)[i]?)) X hP hD hS [.ref (q 0), .ref (q 2)] [] (w_X7_copyRow l D cI cZ cR adK adV _ (q 0) (q 2) 53 (A 0) 53 (A 2) _ h) cal_X7_copyRow mw_12_6 rfl [1, 3] [0, 2, 4, 5, 6, 7, 8, 9, 10, 11, 12, 13, 14, 15] [0, 14, 1, 15, 2, 3, 4, 5, 6, 7, 8, 9, 10, 11, 12, 13] (fun u => (wX7 cI cZ o q F (va_up A 2 u) : va_W)) rfl rfl (fun _ => rfl) rfl ⟨rfl, rfl⟩ ⟨Nat.le_of_ble_eq_true rfl, Nat.le_of_ble_eq_true rfl⟩ hl.1 rfl (Nat.le_of_ble_eq_true rfl) ⟨Nat.zero_le _, Nat.zero_le _⟩ dX7_scared_18 (fun u H locs h hP hD hS => ?_)
    obtain ⟨g0_18, rfl⟩ : ∃ z, z = u := ⟨_, rfl⟩
    try dsimp only at h
    have hP : va_P D vwCl (wX7 cI cZ o q F (va_up A 2 g0_18) : va_W) H := hP
    have hD : va_D A9 (wX7 cI cZ o q F (va_up A 2 g0_18) : va_W) := hD
    refine lv_iconst (v := 0) hx hb dX7_scared_21 (by decide) ?_
    refine lv_istore_n (lv' := [(2, .int (0 : Int32)), (0, .ref o), (1, .int x1)]) hx hb dX7_scared_22 rfl hl (by decide) rfl (fun ls hl => ?_)
    obtain ⟨n23, h⟩ := h
    exact b_X7_scared_L23 x1 X ret  n23 F (va_up A 2 g0_18) (0 : Int32) _ _ _ h hP hD hS (lv_sub hl [1, 2, 0] rfl)
  · replace h := h.2 c5
    refine lv_iconst (v := -1) hx hb dX7_scared_8 (by decide) ?_
    exact ret _ (F, A) _ _ _ _ dX7_scared_9 h hP hD hS
theorem dX7_nearestBy_0 : decode cX7_nearestBy 0 = .ok (.aload_n 0, 1) := by decide +kernel
theorem dX7_nearestBy_1 : decode cX7_nearestBy 1 = .ok (.getfield 7, 3) := by decide +kernel
theorem dX7_nearestBy_4 : decode cX7_nearestBy 4 = .ok (.iload_n 1, 1) := by decide +kernel
theorem dX7_nearestBy_5 : decode cX7_nearestBy 5 = .ok (.iaload, 1) := by decide +kernel
theorem dX7_nearestBy_6 : decode cX7_nearestBy 6 = .ok (.istore 5, 2) := by decide +kernel
theorem dX7_nearestBy_8 : decode cX7_nearestBy 8 = .ok (.iconst 0, 1) := by decide +kernel
theorem dX7_nearestBy_9 : decode cX7_nearestBy 9 = .ok (.istore 6, 2) := by decide +kernel
theorem dX7_nearestBy_11 : decode cX7_nearestBy 11 = .ok (.bipush 9, 2) := by decide +kernel
theorem dX7_nearestBy_13 : decode cX7_nearestBy 13 = .ok (.istore 7, 2) := by decide +kernel
theorem dX7_nearestBy_15 : decode cX7_nearestBy 15 = .ok (.iconst 0, 1) := by decide +kernel
theorem dX7_nearestBy_16 : decode cX7_nearestBy 16 = .ok (.istore 8, 2) := by decide +kernel
theorem dX7_nearestBy_18 : decode cX7_nearestBy 18 = .ok (.iload 8, 2) := by decide +kernel
theorem dX7_nearestBy_20 : decode cX7_nearestBy 20 = .ok (.iload_n 2, 1) := by decide +kernel
theorem dX7_nearestBy_21 : decode cX7_nearestBy 21 = .ok (.if_icmp .gt 61, 3) := by decide +kernel
theorem dX7_nearestBy_24 : decode cX7_nearestBy 24 = .ok (.aload_n 0, 1) := by decide +kernel
theorem dX7_nearestBy_25 : decode cX7_nearestBy 25 = .ok (.getfield 7, 3) := by decide +kernel
theorem dX7_nearestBy_28 : decode cX7_nearestBy 28 = .ok (.iload_n 1, 1) := by decide +kernel
theorem dX7_nearestBy_29 : decode cX7_nearestBy 29 = .ok (.iload 8, 2) := by decide +kernel
theorem dX7_nearestBy_31 : decode cX7_nearestBy 31 = .ok (.iastore, 1) := by decide +kernel
theorem dX7_nearestBy_32 : decode cX7_nearestBy 32 = .ok (.aload_n 0, 1) := by decide +kernel
theorem dX7_nearestBy_33 : decode cX7_nearestBy 33 = .ok (.iload 4, 2) := by decide +kernel
theorem dX7_nearestBy_35 : decode cX7_nearestBy 35 = .ok (.invokevirtual 229, 3) := by decide +kernel
theorem dX7_nearestBy_38 : decode cX7_nearestBy 38 = .ok (.iload_n 3, 1) := by decide +kernel
theorem dX7_nearestBy_39 : decode cX7_nearestBy 39 = .ok (.invokestatic 172, 3) := by decide +kernel
theorem dX7_nearestBy_42 : decode cX7_nearestBy 42 = .ok (.istore 9, 2) := by decide +kernel
theorem dX7_nearestBy_44 : decode cX7_nearestBy 44 = .ok (.iload 9, 2) := by decide +kernel
theorem dX7_nearestBy_46 : decode cX7_nearestBy 46 = .ok (.iload 7, 2) := by decide +kernel
theorem dX7_nearestBy_48 : decode cX7_nearestBy 48 = .ok (.if_icmp .ge 8, 3) := by decide +kernel
theorem dX7_nearestBy_51 : decode cX7_nearestBy 51 = .ok (.iload 8, 2) := by decide +kernel
theorem dX7_nearestBy_53 : decode cX7_nearestBy 53 = .ok (.goto 5, 3) := by decide +kernel
theorem dX7_nearestBy_56 : decode cX7_nearestBy 56 = .ok (.iload 6, 2) := by decide +kernel
theorem dX7_nearestBy_58 : decode cX7_nearestBy 58 = .ok (.istore 6, 2) := by decide +kernel
theorem dX7_nearestBy_60 : decode cX7_nearestBy 60 = .ok (.iload 9, 2) := by decide +kernel
theorem dX7_nearestBy_62 : decode cX7_nearestBy 62 = .ok (.iload 7, 2) := by decide +kernel
theorem dX7_nearestBy_64 : decode cX7_nearestBy 64 = .ok (.if_icmp .ge 8, 3) := by decide +kernel
theorem dX7_nearestBy_67 : decode cX7_nearestBy 67 = .ok (.iload 9, 2) := by decide +kernel
theorem dX7_nearestBy_69 : decode cX7_nearestBy 69 = .ok (.goto 5, 3) := by decide +kernel
theorem dX7_nearestBy_72 : decode cX7_nearestBy 72 = .ok (.iload 7, 2) := by decide +kernel
theorem dX7_nearestBy_74 : decode cX7_nearestBy 74 = .ok (.istore 7, 2) := by decide +kernel
theorem dX7_nearestBy_76 : decode cX7_nearestBy 76 = .ok (.iinc 8 1, 3) := by decide +kernel
theorem dX7_nearestBy_79 : decode cX7_nearestBy 79 = .ok (.goto (-61), 3) := by decide +kernel
theorem dX7_nearestBy_82 : decode cX7_nearestBy 82 = .ok (.aload_n 0, 1) := by decide +kernel
theorem dX7_nearestBy_83 : decode cX7_nearestBy 83 = .ok (.getfield 7, 3) := by decide +kernel
theorem dX7_nearestBy_86 : decode cX7_nearestBy 86 = .ok (.iload_n 1, 1) := by decide +kernel
theorem dX7_nearestBy_87 : decode cX7_nearestBy 87 = .ok (.iload 5, 2) := by decide +kernel
theorem dX7_nearestBy_89 : decode cX7_nearestBy 89 = .ok (.iastore, 1) := by decide +kernel
theorem dX7_nearestBy_90 : decode cX7_nearestBy 90 = .ok (.iload 6, 2) := by decide +kernel
theorem dX7_nearestBy_92 : decode cX7_nearestBy 92 = .ok (.ireturn, 1) := by decide +kernel
def p_X7_nearestBy_J74 (F : tF) (A : tA) (B18 : (tF → tA → Int32 → Int32 → Int32 → Prop)) (K : Int32 → tF → tA → Prop) (x1 : Int32) (x2 : Int32) (x3 : Int32) (x4 : Int32) (x5 : Int32) (x6 : Int32) (x8 : Int32) (s0 : Int32) : Prop := (∀ y76 : Int32, y76 = (x8 + (1 : Int32)) → (B18 F A x6 s0 y76))
set_option maxHeartbeats 4000000 in
set_option maxRecDepth 100000 in
theorem b_X7_nearestBy_J74 {p : Program} {l : Launch} {e : Env} {s : State} {m : MethodId} {args : Array Value} {below : List Frame} {meth : Method} {c : Code} {Q : State → Prop} {D : va_G} {cI cZ cR : ClassId} {adK adV : Nat → Nat} {A9 : Nat → Prop} {o : Nat} {q : Nat → Nat} {K : Int32 → tF → tA → Prop} {B18 : (tF → tA → Int32 → Int32 → Int32 → Prop)} (F : tF) (A : tA) (x1 : Int32) (x2 : Int32) (x3 : Int32) (x4 : Int32) (x5 : Int32) (x6 : Int32) (x8 : Int32) (s0 : Int32) (X : CX p s m args c yX7_nearestBy.cls cX7_nearestBy 10 D cI cZ cR adK adV A9) (ret : RTi p l e (rmN 8 186) s m args below meth c Q cX7_nearestBy D A9 (fun (r : Int32) (u : (tF × tA)) => K r u.1 u.2) (fun (u : (tF × tA)) => (wX7 cI cZ o q u.1 u.2 : va_W))) (hB18 : ∀ (F : tF) (A : tA) (x6 : Int32) (x7 : Int32) (x8 : Int32) (H : Heap) (locs : List Loc) (ls : Array Slot), B18 F A x6 x7 x8 → va_P D vwCl (wX7 cI cZ o q F A : va_W) H → va_D A9 (wX7 cI cZ o q F A : va_W) → va_S A9 s.heap H locs → lv_has ls 10 [(0, .ref o), (1, .int x1), (2, .int x2), (3, .int x3), (4, .int x4), (5, .int x5), (6, .int x6), (7, .int x7), (8, .int x8)] → W p l e (rmN 8 186) s m args below meth c H locs 0 0 Q (F0 m 18 ls [])) (H : Heap) (locs : List Loc) (ls : Array Slot) (h : p_X7_nearestBy_J74 F A B18 K x1 x2 x3 x4 x5 x6 x8 s0) (hP : va_P D vwCl (wX7 cI cZ o q F A : va_W) H) (hD : va_D A9 (wX7 cI cZ o q F A : va_W)) (hS : va_S A9 s.heap H locs) (hl : lv_has ls 10 [(0, .ref o), (1, .int x1), (2, .int x2), (3, .int x3), (4, .int x4), (5, .int x5), (6, .int x6), (8, .int x8)]) : W p l e (rmN 8 186) s m args below meth c H locs 0 0 Q (F0 m 74 ls [.int s0]) := by
  obtain ⟨hx, hb, hml, ht, hown, hK, hA, hE⟩ := id X
  unfold p_X7_nearestBy_J74 at h
  refine lv_istore (lv' := [(7, .int s0), (0, .ref o), (1, .int x1), (2, .int x2), (3, .int x3), (4, .int x4), (5, .int x5), (6, .int x6), (8, .int x8)]) hx hb dX7_nearestBy_74 hl (by decide) rfl (fun ls hl => ?_)
  obtain ⟨y76, ey76⟩ : ∃ y : Int32, y = (x8 + (1 : Int32)) := ⟨_, rfl⟩
  replace h := h y76 ey76
  refine lv_iinc (v := y76) (lv' := [(8, .int y76), (7, .int s0), (0, .ref o), (1, .int x1), (2, .int x2), (3, .int x3), (4, .int x4), (5, .int x5), (6, .int x6)]) hx hb dX7_nearestBy_76 hl (k := 8) rfl (by rw [ey76]; rfl) (by decide) rfl (fun ls hl => ?_)
  refine lv_goto (tgt := 18) hx hb dX7_nearestBy_79 (by decide) ?_
  exact hB18 F A x6 s0 y76 _ _ _ h hP hD hS (lv_sub hl [2, 3, 4, 5, 6, 7, 8, 1, 0] rfl)
def p_X7_nearestBy_J58 (F : tF) (A : tA) (B18 : (tF → tA → Int32 → Int32 → Int32 → Prop)) (K : Int32 → tF → tA → Prop) (x1 : Int32) (x2 : Int32) (x3 : Int32) (x4 : Int32) (x5 : Int32) (x7 : Int32) (x8 : Int32) (x9 : Int32) (s0 : Int32) : Prop := ((x7 ≤ x9 → (p_X7_nearestBy_J74 F A B18 K x1 x2 x3 x4 x5 s0 x8 x7)) ∧ (¬ x7 ≤ x9 → (p_X7_nearestBy_J74 F A B18 K x1 x2 x3 x4 x5 s0 x8 x9)))
set_option maxHeartbeats 4000000 in
set_option maxRecDepth 100000 in
theorem b_X7_nearestBy_J58 {p : Program} {l : Launch} {e : Env} {s : State} {m : MethodId} {args : Array Value} {below : List Frame} {meth : Method} {c : Code} {Q : State → Prop} {D : va_G} {cI cZ cR : ClassId} {adK adV : Nat → Nat} {A9 : Nat → Prop} {o : Nat} {q : Nat → Nat} {K : Int32 → tF → tA → Prop} {B18 : (tF → tA → Int32 → Int32 → Int32 → Prop)} (F : tF) (A : tA) (x1 : Int32) (x2 : Int32) (x3 : Int32) (x4 : Int32) (x5 : Int32) (x7 : Int32) (x8 : Int32) (x9 : Int32) (s0 : Int32) (X : CX p s m args c yX7_nearestBy.cls cX7_nearestBy 10 D cI cZ cR adK adV A9) (ret : RTi p l e (rmN 8 186) s m args below meth c Q cX7_nearestBy D A9 (fun (r : Int32) (u : (tF × tA)) => K r u.1 u.2) (fun (u : (tF × tA)) => (wX7 cI cZ o q u.1 u.2 : va_W))) (hB18 : ∀ (F : tF) (A : tA) (x6 : Int32) (x7 : Int32) (x8 : Int32) (H : Heap) (locs : List Loc) (ls : Array Slot), B18 F A x6 x7 x8 → va_P D vwCl (wX7 cI cZ o q F A : va_W) H → va_D A9 (wX7 cI cZ o q F A : va_W) → va_S A9 s.heap H locs → lv_has ls 10 [(0, .ref o), (1, .int x1), (2, .int x2), (3, .int x3), (4, .int x4), (5, .int x5), (6, .int x6), (7, .int x7), (8, .int x8)] → W p l e (rmN 8 186) s m args below meth c H locs 0 0 Q (F0 m 18 ls [])) (H : Heap) (locs : List Loc) (ls : Array Slot) (h : p_X7_nearestBy_J58 F A B18 K x1 x2 x3 x4 x5 x7 x8 x9 s0) (hP : va_P D vwCl (wX7 cI cZ o q F A : va_W) H) (hD : va_D A9 (wX7 cI cZ o q F A : va_W)) (hS : va_S A9 s.heap H locs) (hl : lv_has ls 10 [(0, .ref o), (1, .int x1), (2, .int x2), (3, .int x3), (4, .int x4), (5, .int x5), (7, .int x7), (8, .int x8), (9, .int x9)]) : W p l e (rmN 8 186) s m args below meth c H locs 0 0 Q (F0 m 58 ls [.int s0]) := by
  obtain ⟨hx, hb, hml, ht, hown, hK, hA, hE⟩ := id X
  unfold p_X7_nearestBy_J58 at h
  refine lv_istore (lv' := [(6, .int s0), (0, .ref o), (1, .int x1), (2, .int x2), (3, .int x3), (4, .int x4), (5, .int x5), (7, .int x7), (8, .int x8), (9, .int x9)]) hx hb dX7_nearestBy_58 hl (by decide) rfl (fun ls hl => ?_)
  refine lv_iload hx hb dX7_nearestBy_60 (lv_at hl 9 rfl) ?_
  refine lv_iload hx hb dX7_nearestBy_62 (lv_at hl 7 rfl) ?_
  refine lv_icmp_ge (tgt := 72) hx hb dX7_nearestBy_64 (by decide) (fun c64 => ?_) (fun c64 => ?_)
  · replace h := h.1 c64
    refine lv_iload hx hb dX7_nearestBy_72 (lv_at hl 7 rfl) ?_
    exact b_X7_nearestBy_J74 F A x1 x2 x3 x4 x5 s0 x8 x7 X ret hB18 _ _ _ h hP hD hS (lv_sub hl [1, 2, 3, 4, 5, 6, 0, 8] rfl)
  · replace h := h.2 c64
    refine lv_iload hx hb dX7_nearestBy_67 (lv_at hl 9 rfl) ?_
    refine lv_goto (tgt := 74) hx hb dX7_nearestBy_69 (by decide) ?_
    exact b_X7_nearestBy_J74 F A x1 x2 x3 x4 x5 s0 x8 x9 X ret hB18 _ _ _ h hP hD hS (lv_sub hl [1, 2, 3, 4, 5, 6, 0, 8] rfl)
def p_X7_nearestBy_L18 (x1 : Int32) (x2 : Int32) (x3 : Int32) (x4 : Int32) (x5 : Int32) (K : Int32 → tF → tA → Prop) : Nat → tF → tA → Int32 → Int32 → Int32 → Prop
  | 0, _, _, _, _, _ => False
  | n18 + 1, F, A, x6, x7, x8 => ((x2 < x8 → (vp_in x1 53 ∧ (∀ f_89 : tF, f_89 = (upd (A 0) (x1).toNatClampNeg x5) → (K x6 F (va_up A 0 f_89))))) ∧ (¬ x2 < x8 → (vp_in x1 53 ∧ (∀ f_31 : tF, f_31 = (upd (A 0) (x1).toNatClampNeg x8) → (p_X7_whereBehind F (va_up A 0 f_31) x4 (fun r35 F_35 A_35 => (p_X7_apart r35 x3 (fun r39 => ((x7 ≤ r39 → (p_X7_nearestBy_J58 F_35 A_35 (p_X7_nearestBy_L18 x1 x2 x3 x4 x5 K n18) K x1 x2 x3 x4 x5 x7 x8 r39 x6)) ∧ (¬ x7 ≤ r39 → (p_X7_nearestBy_J58 F_35 A_35 (p_X7_nearestBy_L18 x1 x2 x3 x4 x5 K n18) K x1 x2 x3 x4 x5 x7 x8 r39 x8)))))))))))
set_option maxHeartbeats 4000000 in
set_option maxRecDepth 100000 in
theorem b_X7_nearestBy_L18 {p : Program} {l : Launch} {e : Env} {s : State} {m : MethodId} {args : Array Value} {below : List Frame} {meth : Method} {c : Code} {Q : State → Prop} {D : va_G} {cI cZ cR : ClassId} {adK adV : Nat → Nat} {A9 : Nat → Prop} {o : Nat} {q : Nat → Nat} {K : Int32 → tF → tA → Prop}  (x1 : Int32) (x2 : Int32) (x3 : Int32) (x4 : Int32) (x5 : Int32) (X : CX p s m args c yX7_nearestBy.cls cX7_nearestBy 10 D cI cZ cR adK adV A9) (ret : RTi p l e (rmN 8 186) s m args below meth c Q cX7_nearestBy D A9 (fun (r : Int32) (u : (tF × tA)) => K r u.1 u.2) (fun (u : (tF × tA)) => (wX7 cI cZ o q u.1 u.2 : va_W)))   : ∀ (n : Nat) (F : tF) (A : tA) (x6 : Int32) (x7 : Int32) (x8 : Int32) (H : Heap) (locs : List Loc) (ls : Array Slot), p_X7_nearestBy_L18 x1 x2 x3 x4 x5 K n F A x6 x7 x8 → va_P D vwCl (wX7 cI cZ o q F A : va_W) H → va_D A9 (wX7 cI cZ o q F A : va_W) → va_S A9 s.heap H locs → lv_has ls 10 [(0, .ref o), (1, .int x1), (2, .int x2), (3, .int x3), (4, .int x4), (5, .int x5), (6, .int x6), (7, .int x7), (8, .int x8)] → W p l e (rmN 8 186) s m args below meth c H locs 0 0 Q (F0 m 18 ls []) := by
  obtain ⟨hx, hb, hml, ht, hown, hK, hA, hE⟩ := id X
  intro n
  induction n with
  | zero => intro F A x6 x7 x8 H locs ls h; exact False.elim h
  | succ n18 ih =>
    intro F A x6 x7 x8 H locs ls h hP hD hS hl
    rw [p_X7_nearestBy_L18] at h
    refine lv_iload hx hb dX7_nearestBy_18 (lv_at hl 8 rfl) ?_
    refine lv_iload_n hx hb dX7_nearestBy_20 rfl (lv_at hl 2 rfl) ?_
    refine lv_icmp_gt (tgt := 82) hx hb dX7_nearestBy_21 (by decide) (fun c21 => ?_) (fun c21 => ?_)
    · replace h := h.1 c21
      refine lv_aload_n hx hb dX7_nearestBy_82 rfl (lv_at hl 0 rfl) ?_
      refine va_get (C := RX7) (T := TX7) (N := 28) (own := RX7) (v := .ref (q 0)) hx hb ht inlX7 hown hK hP 0 rfl rfl 0 (Nat.le_of_ble_eq_true rfl) (ht _ mw_5_7) (fun _ h9 => h9) rfl dX7_nearestBy_83 ?_
      refine lv_iload_n hx hb dX7_nearestBy_86 rfl (lv_at hl 1 rfl) ?_
      refine lv_iload hx hb dX7_nearestBy_87 (lv_at hl 5 rfl) ?_
      obtain ⟨hi89, h⟩ := h
      obtain ⟨f_89, ef_89⟩ : ∃ z : tF, z = (upd (A 0) (x1).toNatClampNeg x5) := ⟨_, rfl⟩
      replace h := h f_89 ef_89
      refine g_iast (f := (A 0)) (k := (x1).toNatClampNeg) hx hb hK hP hD hS 1 0 rfl rfl hi89 rfl ef_89 dX7_nearestBy_89 (fun H locs hP hD hS => ?_)
      have hP : va_P D vwCl (wX7 cI cZ o q F (va_up A 0 f_89) : va_W) H := hP
      have hD : va_D A9 (wX7 cI cZ o q F (va_up A 0 f_89) : va_W) := hD
      refine lv_iload hx hb dX7_nearestBy_90 (lv_at hl 6 rfl) ?_
      exact ret _ (F, (va_up A 0 f_89)) _ _ _ _ dX7_nearestBy_92 h hP hD hS
    · replace h := h.2 c21
      refine lv_aload_n hx hb dX7_nearestBy_24 rfl (lv_at hl 0 rfl) ?_
      refine va_get (C := RX7) (T := TX7) (N := 28) (own := RX7) (v := .ref (q 0)) hx hb ht inlX7 hown hK hP 0 rfl rfl 0 (Nat.le_of_ble_eq_true rfl) (ht _ mw_5_7) (fun _ h9 => h9) rfl dX7_nearestBy_25 ?_
      refine lv_iload_n hx hb dX7_nearestBy_28 rfl (lv_at hl 1 rfl) ?_
      refine lv_iload hx hb dX7_nearestBy_29 (lv_at hl 8 rfl) ?_
      obtain ⟨hi31, h⟩ := h
      obtain ⟨f_31, ef_31⟩ : ∃ z : tF, z = (upd (A 0) (x1).toNatClampNeg x8) := ⟨_, rfl⟩
      replace h := h f_31 ef_31
      refine g_iast (f := (A 0)) (k := (x1).toNatClampNeg) hx hb hK hP hD hS 1 0 rfl rfl hi31 rfl ef_31 dX7_nearestBy_31 (fun H locs hP hD hS => ?_)
      have hP : va_P D vwCl (wX7 cI cZ o q F (va_up A 0 f_31) : va_W) H := hP
      have hD : va_D A9 (wX7 cI cZ o q F (va_up A 0 f_31) : va_W) := hD
      refine lv_aload_n hx hb dX7_nearestBy_32 rfl (lv_at hl 0 rfl) ?_
      refine lv_iload hx hb dX7_nearestBy_33 (lv_at hl 4 rfl) ?_
      refine C_vi (wr := []) X hP hD hS [.int x4] [] (w_X7_whereBehind l D cI cZ cR adK adV _ o q F (va_up A 0 f_31) x4 _ h) cal_X7_whereBehind mw_29_13 rfl [0, 1, 2, 3, 4, 5, 6, 7, 8, 9, 10, 11, 12, 13, 14, 15] [] [0, 1, 2, 3, 4, 5, 6, 7, 8, 9, 10, 11, 12, 13, 14, 15] (fun u => (wX7 cI cZ o q u.1 u.2 : va_W)) rfl rfl (fun _ => rfl) rfl 0 rfl rfl ⟨rfl, rfl⟩ ⟨Nat.le_of_ble_eq_true rfl, Nat.le_of_ble_eq_true rfl⟩ hl.1 rfl (Nat.le_of_ble_eq_true rfl) ⟨Nat.zero_le _, Nat.zero_le _⟩ dX7_nearestBy_35 (fun r35 u H locs h hP hD hS => ?_)
      obtain ⟨F_35, A_35⟩ := u
      try dsimp only at h
      have hP : va_P D vwCl (wX7 cI cZ o q F_35 A_35 : va_W) H := hP
      have hD : va_D A9 (wX7 cI cZ o q F_35 A_35 : va_W) := hD
      refine lv_iload_n hx hb dX7_nearestBy_38 rfl (lv_at hl 3 rfl) ?_
      refine C_si (wr := [0, 1, 2, 3, 4, 5, 6, 7, 8, 9, 10, 11, 12, 13, 14, 15].filterMap (fun i => (wX7 cI cZ o q F_35 A_35 : va_W)[i]?)) X hP hD hS [.int r35, .int x3] [] (w_X7_apart l D cI cZ cR adK adV _ r35 x3 _ h) cal_X7_apart mw_19_8 rfl [] [0, 1, 2, 3, 4, 5, 6, 7, 8, 9, 10, 11, 12, 13, 14, 15] [0, 1, 2, 3, 4, 5, 6, 7, 8, 9, 10, 11, 12, 13, 14, 15] (fun u => (wX7 cI cZ o q F_35 A_35 : va_W)) rfl rfl (fun _ => rfl) rfl ⟨rfl, rfl⟩ ⟨Nat.le_of_ble_eq_true rfl, Nat.le_of_ble_eq_true rfl⟩ hl.1 rfl (Nat.le_of_ble_eq_true rfl) ⟨Nat.zero_le _, Nat.zero_le _⟩ dX7_nearestBy_39 (fun r39 u H locs h hP hD hS => ?_)
      refine lv_istore (lv' := [(9, .int r39), (0, .ref o), (1, .int x1), (2, .int x2), (3, .int x3), (4, .int x4), (5, .int x5), (6, .int x6), (7, .int x7), (8, .int x8)]) hx hb dX7_nearestBy_42 hl (by decide) rfl (fun ls hl => ?_)
      refine lv_iload hx hb dX7_nearestBy_44 (lv_at hl 0 rfl) ?_
      refine lv_iload hx hb dX7_nearestBy_46 (lv_at hl 8 rfl) ?_
      refine lv_icmp_ge (tgt := 56) hx hb dX7_nearestBy_48 (by decide) (fun c48 => ?_) (fun c48 => ?_)
      · replace h := h.1 c48
        refine lv_iload hx hb dX7_nearestBy_56 (lv_at hl 7 rfl) ?_
        exact b_X7_nearestBy_J58 F_35 A_35 x1 x2 x3 x4 x5 x7 x8 r39 x6 X ret ih _ _ _ h hP hD hS (lv_sub hl [1, 2, 3, 4, 5, 6, 8, 9, 0] rfl)
      · replace h := h.2 c48
        refine lv_iload hx hb dX7_nearestBy_51 (lv_at hl 9 rfl) ?_
        refine lv_goto (tgt := 58) hx hb dX7_nearestBy_53 (by decide) ?_
        exact b_X7_nearestBy_J58 F_35 A_35 x1 x2 x3 x4 x5 x7 x8 r39 x8 X ret ih _ _ _ h hP hD hS (lv_sub hl [1, 2, 3, 4, 5, 6, 8, 9, 0] rfl)
def p_X7_nearestBy (F : tF) (A : tA) (x1 : Int32) (x2 : Int32) (x3 : Int32) (x4 : Int32) (K : Int32 → tF → tA → Prop) : Prop := (vp_in x1 53 ∧ (∀ y6 : Int32, y6 = ((A 0) (x1).toNatClampNeg) → (∃ n18, p_X7_nearestBy_L18 x1 x2 x3 x4 y6 K n18 F A (0 : Int32) (9 : Int32) (0 : Int32))))
set_option maxHeartbeats 4000000 in
set_option maxRecDepth 100000 in
theorem w_X7_nearestBy (l : Launch) (D : va_G) (cI cZ cR : ClassId) (adK adV : Nat → Nat) (sz : Nat) (o : Nat) (q : Nat → Nat) (F : tF) (A : tA) (x1 : Int32) (x2 : Int32) (x3 : Int32) (x4 : Int32) (K : Int32 → tF → tA → Prop) (h : p_X7_nearestBy F A x1 x2 x3 x4 K) : MI l D cI cZ cR adK adV yX7_nearestBy cX7_nearestBy 10 (some .int) (rmN 8 186) [.ref o, .int x1, .int x2, .int x3, .int x4] (wX7 cI cZ o q F A : va_W) sz (fun (r : Int32) (u : (tF × tA)) => K r u.1 u.2) (fun (u : (tF × tA)) => (wX7 cI cZ o q u.1 u.2 : va_W)) := by
  refine M_i (by decide +kernel) (Nat.le_of_ble_eq_true rfl) ?_
  intro p e s m args below meth c Q A9 ls X ret hP hD hS hl
  obtain ⟨hx, hb, hml, ht, hown, hK, hA, hE⟩ := id X
  have hl : lv_has ls 10 [(0, .ref o), (1, .int x1), (2, .int x2), (3, .int x3), (4, .int x4)] := hl
  unfold p_X7_nearestBy at h
  refine lv_aload_n hx hb dX7_nearestBy_0 rfl (lv_at hl 0 rfl) ?_
  refine va_get (C := RX7) (T := TX7) (N := 28) (own := RX7) (v := .ref (q 0)) hx hb ht inlX7 hown hK hP 0 rfl rfl 0 (Nat.le_of_ble_eq_true rfl) (ht _ mw_5_7) (fun _ h9 => h9) rfl dX7_nearestBy_1 ?_
  refine lv_iload_n hx hb dX7_nearestBy_4 rfl (lv_at hl 1 rfl) ?_
  obtain ⟨hi5, h⟩ := h
  refine g_iald (f := (A 0)) (k := (x1).toNatClampNeg) hx hb hK hP 1 0 rfl rfl hi5 rfl dX7_nearestBy_5 ?_
  refine lv_topi (fun y6 ey6 => ?_)
  replace h := h y6 ey6
  refine lv_istore (lv' := [(5, .int y6), (0, .ref o), (1, .int x1), (2, .int x2), (3, .int x3), (4, .int x4)]) hx hb dX7_nearestBy_6 hl (by decide) rfl (fun ls hl => ?_)
  refine lv_iconst (v := 0) hx hb dX7_nearestBy_8 (by decide) ?_
  refine lv_istore (lv' := [(6, .int (0 : Int32)), (5, .int y6), (0, .ref o), (1, .int x1), (2, .int x2), (3, .int x3), (4, .int x4)]) hx hb dX7_nearestBy_9 hl (by decide) rfl (fun ls hl => ?_)
  refine lv_bipush (v := 9) hx hb dX7_nearestBy_11 (by decide) ?_
  refine lv_istore (lv' := [(7, .int (9 : Int32)), (6, .int (0 : Int32)), (5, .int y6), (0, .ref o), (1, .int x1), (2, .int x2), (3, .int x3), (4, .int x4)]) hx hb dX7_nearestBy_13 hl (by decide) rfl (fun ls hl => ?_)
  refine lv_iconst (v := 0) hx hb dX7_nearestBy_15 (by decide) ?_
  refine lv_istore (lv' := [(8, .int (0 : Int32)), (7, .int (9 : Int32)), (6, .int (0 : Int32)), (5, .int y6), (0, .ref o), (1, .int x1), (2, .int x2), (3, .int x3), (4, .int x4)]) hx hb dX7_nearestBy_16 hl (by decide) rfl (fun ls hl => ?_)
  obtain ⟨n18, h⟩ := h
  exact b_X7_nearestBy_L18 x1 x2 x3 x4 y6 X ret  n18 F A (0 : Int32) (9 : Int32) (0 : Int32) _ _ _ h hP hD hS (lv_sub hl [4, 5, 6, 7, 8, 3, 2, 1, 0] rfl)
theorem dX7_isShort_0 : decode cX7_isShort 0 = .ok (.iload_n 0, 1) := by decide +kernel
theorem dX7_isShort_1 : decode cX7_isShort 1 = .ok (.i2l, 1) := by decide +kernel
theorem dX7_isShort_2 : decode cX7_isShort 2 = .ok (.lconst 1, 1) := by decide +kernel
theorem dX7_isShort_3 : decode cX7_isShort 3 = .ok (.ldc2_w 232, 3) := by decide +kernel
theorem dX7_isShort_6 : decode cX7_isShort 6 = .ok (.invokestatic 61, 3) := by decide +kernel
theorem dX7_isShort_9 : decode cX7_isShort 9 = .ok (.ireturn, 1) := by decide +kernel
def p_X7_isShort (x0 : Int32) (K : Int32 → Prop) : Prop := (p_X7_isIn ((x0).toInt64) (1 : Int64) (20 : Int64) (fun r6 => (bo r6 ∧ (K r6))))
set_option maxHeartbeats 4000000 in
set_option maxRecDepth 100000 in
theorem w_X7_isShort (l : Launch) (D : va_G) (cI cZ cR : ClassId) (adK adV : Nat → Nat) (sz : Nat)  (x0 : Int32) (K : Int32 → Prop) (h : p_X7_isShort x0 K) : MI l D cI cZ cR adK adV yX7_isShort cX7_isShort 1 (some .boolean) (rmN 1 25) [.int x0] ([] : va_W) sz (fun (r : Int32) (u : Unit) => K r) (fun (u : Unit) => ([] : va_W)) := by
  refine M_z (by decide +kernel) (Nat.le_of_ble_eq_true rfl) ?_
  intro p e s m args below meth c Q A9 ls X ret hP hD hS hl
  obtain ⟨hx, hb, hml, ht, hown, hK, hA, hE⟩ := id X
  have hl : lv_has ls 1 [(0, .int x0)] := hl
  unfold p_X7_isShort at h
  refine lv_iload_n hx hb dX7_isShort_0 rfl (lv_at hl 0 rfl) ?_
  refine lv_i2l (v := (x0).toInt64) hx hb dX7_isShort_1 rfl ?_
  refine lv_lconst (v := 1) hx hb dX7_isShort_2 (by decide) ?_
  refine lv_ldc2 (v := 20) hx hb hown (ht _ mw_31_5) dX7_isShort_3 ?_
  refine C_si (wr := []) X hP hD hS [.long (x0).toInt64, .long (1 : Int64), .long (20 : Int64)] [] (w_X7_isIn l D cI cZ cR adK adV _ ((x0).toInt64) (1 : Int64) (20 : Int64) _ h) cal_X7_isIn mw_6_19 rfl [] [] [] (fun u => ([] : va_W)) rfl rfl (fun _ => rfl) rfl ⟨rfl, rfl⟩ ⟨Nat.le_of_ble_eq_true rfl, Nat.le_of_ble_eq_true rfl⟩ hl.1 rfl (Nat.le_of_ble_eq_true rfl) ⟨Nat.zero_le _, Nat.zero_le _⟩ dX7_isShort_6 (fun r6 u H locs h hP hD hS => ?_)
  obtain ⟨hz9, h⟩ := h
  exact ret _ () _ _ _ _ dX7_isShort_9 hz9 h hP hD hS
theorem cal_X7_isShort : CalS yX7_isShort cX7_isShort 1 (some .boolean) 1 := ⟨mw_31_4, mw_1_5, mw_31_3, ⟨by decide +kernel, by decide +kernel, by decide +kernel⟩⟩
theorem cal_X7_nearestBy : CalV yX7_nearestBy cX7_nearestBy 10 (some .int) 4 := ⟨mw_31_9, mw_1_5, mw_31_7, mw_31_8, ⟨by decide +kernel, by decide +kernel, by decide +kernel⟩⟩
theorem dX7_callFor_0 : decode cX7_callFor 0 = .ok (.iload_n 1, 1) := by decide +kernel
theorem dX7_callFor_1 : decode cX7_callFor 1 = .ok (.invokestatic 166, 3) := by decide +kernel
theorem dX7_callFor_4 : decode cX7_callFor 4 = .ok (.ifCond .eq 22, 3) := by decide +kernel
theorem dX7_callFor_7 : decode cX7_callFor 7 = .ok (.iload_n 2, 1) := by decide +kernel
theorem dX7_callFor_8 : decode cX7_callFor 8 = .ok (.invokestatic 234, 3) := by decide +kernel
theorem dX7_callFor_11 : decode cX7_callFor 11 = .ok (.ifCond .eq 15, 3) := by decide +kernel
theorem dX7_callFor_14 : decode cX7_callFor 14 = .ok (.aload_n 0, 1) := by decide +kernel
theorem dX7_callFor_15 : decode cX7_callFor 15 = .ok (.iconst 4, 1) := by decide +kernel
theorem dX7_callFor_16 : decode cX7_callFor 16 = .ok (.bipush 6, 2) := by decide +kernel
theorem dX7_callFor_18 : decode cX7_callFor 18 = .ok (.iload_n 1, 1) := by decide +kernel
theorem dX7_callFor_19 : decode cX7_callFor 19 = .ok (.iload_n 2, 1) := by decide +kernel
theorem dX7_callFor_20 : decode cX7_callFor 20 = .ok (.invokevirtual 237, 3) := by decide +kernel
theorem dX7_callFor_23 : decode cX7_callFor 23 = .ok (.goto 4, 3) := by decide +kernel
theorem dX7_callFor_26 : decode cX7_callFor 26 = .ok (.iconst (-1), 1) := by decide +kernel
theorem dX7_callFor_27 : decode cX7_callFor 27 = .ok (.ireturn, 1) := by decide +kernel
def p_X7_callFor (F : tF) (A : tA) (x1 : Int32) (x2 : Int32) (K : Int32 → tF → tA → Prop) : Prop := (p_X7_isPlace x1 (fun r1 => ((r1 = 0 → (K (-1 : Int32) F A)) ∧ (¬ r1 = 0 → (p_X7_isShort x2 (fun r8 => ((r8 = 0 → (K (-1 : Int32) F A)) ∧ (¬ r8 = 0 → (p_X7_nearestBy F A (4 : Int32) (6 : Int32) x1 x2 (fun r20 F_20 A_20 => (K r20 F_20 A_20)))))))))))
set_option maxHeartbeats 4000000 in
set_option maxRecDepth 100000 in
theorem w_X7_callFor (l : Launch) (D : va_G) (cI cZ cR : ClassId) (adK adV : Nat → Nat) (sz : Nat) (o : Nat) (q : Nat → Nat) (F : tF) (A : tA) (x1 : Int32) (x2 : Int32) (K : Int32 → tF → tA → Prop) (h : p_X7_callFor F A x1 x2 K) : MI l D cI cZ cR adK adV yX7_callFor cX7_callFor 3 (some .int) (rmN 9 215) [.ref o, .int x1, .int x2] (wX7 cI cZ o q F A : va_W) sz (fun (r : Int32) (u : (tF × tA)) => K r u.1 u.2) (fun (u : (tF × tA)) => (wX7 cI cZ o q u.1 u.2 : va_W)) := by
  refine M_i (by decide +kernel) (Nat.le_of_ble_eq_true rfl) ?_
  intro p e s m args below meth c Q A9 ls X ret hP hD hS hl
  obtain ⟨hx, hb, hml, ht, hown, hK, hA, hE⟩ := id X
  have hl : lv_has ls 3 [(0, .ref o), (1, .int x1), (2, .int x2)] := hl
  unfold p_X7_callFor at h
  refine lv_iload_n hx hb dX7_callFor_0 rfl (lv_at hl 1 rfl) ?_
  refine C_si (wr := [0, 1, 2, 3, 4, 5, 6, 7, 8, 9, 10, 11, 12, 13, 14, 15].filterMap (fun i => (wX7 cI cZ o q F A : va_W)[i]?)) X hP hD hS [.int x1] [] (w_X7_isPlace l D cI cZ cR adK adV _ x1 _ h) cal_X7_isPlace mw_16_21 rfl [] [0, 1, 2, 3, 4, 5, 6, 7, 8, 9, 10, 11, 12, 13, 14, 15] [0, 1, 2, 3, 4, 5, 6, 7, 8, 9, 10, 11, 12, 13, 14, 15] (fun u => (wX7 cI cZ o q F A : va_W)) rfl rfl (fun _ => rfl) rfl ⟨rfl, rfl⟩ ⟨Nat.le_of_ble_eq_true rfl, Nat.le_of_ble_eq_true rfl⟩ hl.1 rfl (Nat.le_of_ble_eq_true rfl) ⟨Nat.zero_le _, Nat.zero_le _⟩ dX7_callFor_1 (fun r1 u H locs h hP hD hS => ?_)
  refine lv_if_eq (tgt := 26) hx hb dX7_callFor_4 (by decide) (fun c4 => ?_) (fun c4 => ?_)
  · replace h := h.1 c4
    refine lv_iconst (v := -1) hx hb dX7_callFor_26 (by decide) ?_
    exact ret _ (F, A) _ _ _ _ dX7_callFor_27 h hP hD hS
  · replace h := h.2 c4
    refine lv_iload_n hx hb dX7_callFor_7 rfl (lv_at hl 2 rfl) ?_
    refine C_si (wr := [0, 1, 2, 3, 4, 5, 6, 7, 8, 9, 10, 11, 12, 13, 14, 15].filterMap (fun i => (wX7 cI cZ o q F A : va_W)[i]?)) X hP hD hS [.int x2] [] (w_X7_isShort l D cI cZ cR adK adV _ x2 _ h) cal_X7_isShort mw_31_2 rfl [] [0, 1, 2, 3, 4, 5, 6, 7, 8, 9, 10, 11, 12, 13, 14, 15] [0, 1, 2, 3, 4, 5, 6, 7, 8, 9, 10, 11, 12, 13, 14, 15] (fun u => (wX7 cI cZ o q F A : va_W)) rfl rfl (fun _ => rfl) rfl ⟨rfl, rfl⟩ ⟨Nat.le_of_ble_eq_true rfl, Nat.le_of_ble_eq_true rfl⟩ hl.1 rfl (Nat.le_of_ble_eq_true rfl) ⟨Nat.zero_le _, Nat.zero_le _⟩ dX7_callFor_8 (fun r8 u H locs h hP hD hS => ?_)
    refine lv_if_eq (tgt := 26) hx hb dX7_callFor_11 (by decide) (fun c11 => ?_) (fun c11 => ?_)
    · replace h := h.1 c11
      refine lv_iconst (v := -1) hx hb dX7_callFor_26 (by decide) ?_
      exact ret _ (F, A) _ _ _ _ dX7_callFor_27 h hP hD hS
    · replace h := h.2 c11
      refine lv_aload_n hx hb dX7_callFor_14 rfl (lv_at hl 0 rfl) ?_
      refine lv_iconst (v := 4) hx hb dX7_callFor_15 (by decide) ?_
      refine lv_bipush (v := 6) hx hb dX7_callFor_16 (by decide) ?_
      refine lv_iload_n hx hb dX7_callFor_18 rfl (lv_at hl 1 rfl) ?_
      refine lv_iload_n hx hb dX7_callFor_19 rfl (lv_at hl 2 rfl) ?_
      refine C_vi (wr := []) X hP hD hS [.int (4 : Int32), .int (6 : Int32), .int x1, .int x2] [] (w_X7_nearestBy l D cI cZ cR adK adV _ o q F A (4 : Int32) (6 : Int32) x1 x2 _ h) cal_X7_nearestBy mw_31_6 rfl [0, 1, 2, 3, 4, 5, 6, 7, 8, 9, 10, 11, 12, 13, 14, 15] [] [0, 1, 2, 3, 4, 5, 6, 7, 8, 9, 10, 11, 12, 13, 14, 15] (fun u => (wX7 cI cZ o q u.1 u.2 : va_W)) rfl rfl (fun _ => rfl) rfl 0 rfl rfl ⟨rfl, rfl⟩ ⟨Nat.le_of_ble_eq_true rfl, Nat.le_of_ble_eq_true rfl⟩ hl.1 rfl (Nat.le_of_ble_eq_true rfl) ⟨Nat.zero_le _, Nat.zero_le _⟩ dX7_callFor_20 (fun r20 u H locs h hP hD hS => ?_)
      obtain ⟨F_20, A_20⟩ := u
      try dsimp only at h
      have hP : va_P D vwCl (wX7 cI cZ o q F_20 A_20 : va_W) H := hP
      have hD : va_D A9 (wX7 cI cZ o q F_20 A_20 : va_W) := hD
      refine lv_goto (tgt := 27) hx hb dX7_callFor_23 (by decide) ?_
      exact ret _ (F_20, A_20) _ _ _ _ dX7_callFor_27 h hP hD hS
theorem dX7_kindFor_0 : decode cX7_kindFor 0 = .ok (.aload_n 0, 1) := by decide +kernel
theorem dX7_kindFor_1 : decode cX7_kindFor 1 = .ok (.iload_n 1, 1) := by decide +kernel
theorem dX7_kindFor_2 : decode cX7_kindFor 2 = .ok (.invokevirtual 178, 3) := by decide +kernel
theorem dX7_kindFor_5 : decode cX7_kindFor 5 = .ok (.ifCond .eq 33, 3) := by decide +kernel
theorem dX7_kindFor_8 : decode cX7_kindFor 8 = .ok (.iload_n 2, 1) := by decide +kernel
theorem dX7_kindFor_9 : decode cX7_kindFor 9 = .ok (.invokestatic 166, 3) := by decide +kernel
theorem dX7_kindFor_12 : decode cX7_kindFor 12 = .ok (.ifCond .eq 26, 3) := by decide +kernel
theorem dX7_kindFor_15 : decode cX7_kindFor 15 = .ok (.iload_n 3, 1) := by decide +kernel
theorem dX7_kindFor_16 : decode cX7_kindFor 16 = .ok (.invokestatic 234, 3) := by decide +kernel
theorem dX7_kindFor_19 : decode cX7_kindFor 19 = .ok (.ifCond .eq 19, 3) := by decide +kernel
theorem dX7_kindFor_22 : decode cX7_kindFor 22 = .ok (.aload_n 0, 1) := by decide +kernel
theorem dX7_kindFor_23 : decode cX7_kindFor 23 = .ok (.bipush 21, 2) := by decide +kernel
theorem dX7_kindFor_25 : decode cX7_kindFor 25 = .ok (.iconst 4, 1) := by decide +kernel
theorem dX7_kindFor_26 : decode cX7_kindFor 26 = .ok (.iload_n 1, 1) := by decide +kernel
theorem dX7_kindFor_27 : decode cX7_kindFor 27 = .ok (.imul, 1) := by decide +kernel
theorem dX7_kindFor_28 : decode cX7_kindFor 28 = .ok (.iadd, 1) := by decide +kernel
theorem dX7_kindFor_29 : decode cX7_kindFor 29 = .ok (.iconst 5, 1) := by decide +kernel
theorem dX7_kindFor_30 : decode cX7_kindFor 30 = .ok (.iload_n 2, 1) := by decide +kernel
theorem dX7_kindFor_31 : decode cX7_kindFor 31 = .ok (.iload_n 3, 1) := by decide +kernel
theorem dX7_kindFor_32 : decode cX7_kindFor 32 = .ok (.invokevirtual 237, 3) := by decide +kernel
theorem dX7_kindFor_35 : decode cX7_kindFor 35 = .ok (.goto 4, 3) := by decide +kernel
theorem dX7_kindFor_38 : decode cX7_kindFor 38 = .ok (.iconst (-1), 1) := by decide +kernel
theorem dX7_kindFor_39 : decode cX7_kindFor 39 = .ok (.ireturn, 1) := by decide +kernel
def p_X7_kindFor (F : tF) (A : tA) (x1 : Int32) (x2 : Int32) (x3 : Int32) (K : Int32 → tF → tA → Prop) : Prop := (p_X7_isOne F A x1 (fun r2 => ((r2 = 0 → (K (-1 : Int32) F A)) ∧ (¬ r2 = 0 → (p_X7_isPlace x2 (fun r9 => ((r9 = 0 → (K (-1 : Int32) F A)) ∧ (¬ r9 = 0 → (p_X7_isShort x3 (fun r16 => ((r16 = 0 → (K (-1 : Int32) F A)) ∧ (¬ r16 = 0 → (p_X7_nearestBy F A ((21 : Int32) + ((4 : Int32) * x1)) (5 : Int32) x2 x3 (fun r32 F_32 A_32 => (K r32 F_32 A_32)))))))))))))))
set_option maxHeartbeats 4000000 in
set_option maxRecDepth 100000 in
theorem w_X7_kindFor (l : Launch) (D : va_G) (cI cZ cR : ClassId) (adK adV : Nat → Nat) (sz : Nat) (o : Nat) (q : Nat → Nat) (F : tF) (A : tA) (x1 : Int32) (x2 : Int32) (x3 : Int32) (K : Int32 → tF → tA → Prop) (h : p_X7_kindFor F A x1 x2 x3 K) : MI l D cI cZ cR adK adV yX7_kindFor cX7_kindFor 4 (some .int) (rmN 9 215) [.ref o, .int x1, .int x2, .int x3] (wX7 cI cZ o q F A : va_W) sz (fun (r : Int32) (u : (tF × tA)) => K r u.1 u.2) (fun (u : (tF × tA)) => (wX7 cI cZ o q u.1 u.2 : va_W)) := by
  refine M_i (by decide +kernel) (Nat.le_of_ble_eq_true rfl) ?_
  intro p e s m args below meth c Q A9 ls X ret hP hD hS hl
  obtain ⟨hx, hb, hml, ht, hown, hK, hA, hE⟩ := id X
  have hl : lv_has ls 4 [(0, .ref o), (1, .int x1), (2, .int x2), (3, .int x3)] := hl
  unfold p_X7_kindFor at h
  refine lv_aload_n hx hb dX7_kindFor_0 rfl (lv_at hl 0 rfl) ?_
  refine lv_iload_n hx hb dX7_kindFor_1 rfl (lv_at hl 1 rfl) ?_
  refine C_vi (wr := []) X hP hD hS [.int x1] [] (w_X7_isOne l D cI cZ cR adK adV _ o q F A x1 _ h) cal_X7_isOne mw_18_12 rfl [0, 1, 2, 3, 4, 5, 6, 7, 8, 9, 10, 11, 12, 13, 14, 15] [] [0, 1, 2, 3, 4, 5, 6, 7, 8, 9, 10, 11, 12, 13, 14, 15] (fun u => (wX7 cI cZ o q F A : va_W)) rfl rfl (fun _ => rfl) rfl 0 rfl rfl ⟨rfl, rfl⟩ ⟨Nat.le_of_ble_eq_true rfl, Nat.le_of_ble_eq_true rfl⟩ hl.1 rfl (Nat.le_of_ble_eq_true rfl) ⟨Nat.zero_le _, Nat.zero_le _⟩ dX7_kindFor_2 (fun r2 u H locs h hP hD hS => ?_)
  refine lv_if_eq (tgt := 38) hx hb dX7_kindFor_5 (by decide) (fun c5 => ?_) (fun c5 => ?_)
  · replace h := h.1 c5
    refine lv_iconst (v := -1) hx hb dX7_kindFor_38 (by decide) ?_
    exact ret _ (F, A) _ _ _ _ dX7_kindFor_39 h hP hD hS
  · replace h := h.2 c5
    refine lv_iload_n hx hb dX7_kindFor_8 rfl (lv_at hl 2 rfl) ?_
    refine C_si (wr := [0, 1, 2, 3, 4, 5, 6, 7, 8, 9, 10, 11, 12, 13, 14, 15].filterMap (fun i => (wX7 cI cZ o q F A : va_W)[i]?)) X hP hD hS [.int x2] [] (w_X7_isPlace l D cI cZ cR adK adV _ x2 _ h) cal_X7_isPlace mw_16_21 rfl [] [0, 1, 2, 3, 4, 5, 6, 7, 8, 9, 10, 11, 12, 13, 14, 15] [0, 1, 2, 3, 4, 5, 6, 7, 8, 9, 10, 11, 12, 13, 14, 15] (fun u => (wX7 cI cZ o q F A : va_W)) rfl rfl (fun _ => rfl) rfl ⟨rfl, rfl⟩ ⟨Nat.le_of_ble_eq_true rfl, Nat.le_of_ble_eq_true rfl⟩ hl.1 rfl (Nat.le_of_ble_eq_true rfl) ⟨Nat.zero_le _, Nat.zero_le _⟩ dX7_kindFor_9 (fun r9 u H locs h hP hD hS => ?_)
    refine lv_if_eq (tgt := 38) hx hb dX7_kindFor_12 (by decide) (fun c12 => ?_) (fun c12 => ?_)
    · replace h := h.1 c12
      refine lv_iconst (v := -1) hx hb dX7_kindFor_38 (by decide) ?_
      exact ret _ (F, A) _ _ _ _ dX7_kindFor_39 h hP hD hS
    · replace h := h.2 c12
      refine lv_iload_n hx hb dX7_kindFor_15 rfl (lv_at hl 3 rfl) ?_
      refine C_si (wr := [0, 1, 2, 3, 4, 5, 6, 7, 8, 9, 10, 11, 12, 13, 14, 15].filterMap (fun i => (wX7 cI cZ o q F A : va_W)[i]?)) X hP hD hS [.int x3] [] (w_X7_isShort l D cI cZ cR adK adV _ x3 _ h) cal_X7_isShort mw_31_2 rfl [] [0, 1, 2, 3, 4, 5, 6, 7, 8, 9, 10, 11, 12, 13, 14, 15] [0, 1, 2, 3, 4, 5, 6, 7, 8, 9, 10, 11, 12, 13, 14, 15] (fun u => (wX7 cI cZ o q F A : va_W)) rfl rfl (fun _ => rfl) rfl ⟨rfl, rfl⟩ ⟨Nat.le_of_ble_eq_true rfl, Nat.le_of_ble_eq_true rfl⟩ hl.1 rfl (Nat.le_of_ble_eq_true rfl) ⟨Nat.zero_le _, Nat.zero_le _⟩ dX7_kindFor_16 (fun r16 u H locs h hP hD hS => ?_)
      refine lv_if_eq (tgt := 38) hx hb dX7_kindFor_19 (by decide) (fun c19 => ?_) (fun c19 => ?_)
      · replace h := h.1 c19
        refine lv_iconst (v := -1) hx hb dX7_kindFor_38 (by decide) ?_
        exact ret _ (F, A) _ _ _ _ dX7_kindFor_39 h hP hD hS
      · replace h := h.2 c19
        refine lv_aload_n hx hb dX7_kindFor_22 rfl (lv_at hl 0 rfl) ?_
        refine lv_bipush (v := 21) hx hb dX7_kindFor_23 (by decide) ?_
        refine lv_iconst (v := 4) hx hb dX7_kindFor_25 (by decide) ?_
        refine lv_iload_n hx hb dX7_kindFor_26 rfl (lv_at hl 1 rfl) ?_
        refine lv_imul hx hb dX7_kindFor_27 ?_
        refine lv_iadd hx hb dX7_kindFor_28 ?_
        refine lv_iconst (v := 5) hx hb dX7_kindFor_29 (by decide) ?_
        refine lv_iload_n hx hb dX7_kindFor_30 rfl (lv_at hl 2 rfl) ?_
        refine lv_iload_n hx hb dX7_kindFor_31 rfl (lv_at hl 3 rfl) ?_
        refine C_vi (wr := []) X hP hD hS [.int ((21 : Int32) + ((4 : Int32) * x1)), .int (5 : Int32), .int x2, .int x3] [] (w_X7_nearestBy l D cI cZ cR adK adV _ o q F A ((21 : Int32) + ((4 : Int32) * x1)) (5 : Int32) x2 x3 _ h) cal_X7_nearestBy mw_31_6 rfl [0, 1, 2, 3, 4, 5, 6, 7, 8, 9, 10, 11, 12, 13, 14, 15] [] [0, 1, 2, 3, 4, 5, 6, 7, 8, 9, 10, 11, 12, 13, 14, 15] (fun u => (wX7 cI cZ o q u.1 u.2 : va_W)) rfl rfl (fun _ => rfl) rfl 0 rfl rfl ⟨rfl, rfl⟩ ⟨Nat.le_of_ble_eq_true rfl, Nat.le_of_ble_eq_true rfl⟩ hl.1 rfl (Nat.le_of_ble_eq_true rfl) ⟨Nat.zero_le _, Nat.zero_le _⟩ dX7_kindFor_32 (fun r32 u H locs h hP hD hS => ?_)
        obtain ⟨F_32, A_32⟩ := u
        try dsimp only at h
        have hP : va_P D vwCl (wX7 cI cZ o q F_32 A_32 : va_W) H := hP
        have hD : va_D A9 (wX7 cI cZ o q F_32 A_32 : va_W) := hD
        refine lv_goto (tgt := 39) hx hb dX7_kindFor_35 (by decide) ?_
        exact ret _ (F_32, A_32) _ _ _ _ dX7_kindFor_39 h hP hD hS
theorem dX7_earFor_0 : decode cX7_earFor 0 = .ok (.aload_n 0, 1) := by decide +kernel
theorem dX7_earFor_1 : decode cX7_earFor 1 = .ok (.iload_n 1, 1) := by decide +kernel
theorem dX7_earFor_2 : decode cX7_earFor 2 = .ok (.invokevirtual 178, 3) := by decide +kernel
theorem dX7_earFor_5 : decode cX7_earFor 5 = .ok (.ifCond .eq 17, 3) := by decide +kernel
theorem dX7_earFor_8 : decode cX7_earFor 8 = .ok (.iload_n 2, 1) := by decide +kernel
theorem dX7_earFor_9 : decode cX7_earFor 9 = .ok (.invokestatic 166, 3) := by decide +kernel
theorem dX7_earFor_12 : decode cX7_earFor 12 = .ok (.ifCond .eq 10, 3) := by decide +kernel
theorem dX7_earFor_15 : decode cX7_earFor 15 = .ok (.iload_n 3, 1) := by decide +kernel
theorem dX7_earFor_16 : decode cX7_earFor 16 = .ok (.invokestatic 234, 3) := by decide +kernel
theorem dX7_earFor_19 : decode cX7_earFor 19 = .ok (.ifCond .ne 5, 3) := by decide +kernel
theorem dX7_earFor_22 : decode cX7_earFor 22 = .ok (.iconst (-1), 1) := by decide +kernel
theorem dX7_earFor_23 : decode cX7_earFor 23 = .ok (.ireturn, 1) := by decide +kernel
theorem dX7_earFor_24 : decode cX7_earFor 24 = .ok (.bipush 21, 2) := by decide +kernel
theorem dX7_earFor_26 : decode cX7_earFor 26 = .ok (.iconst 4, 1) := by decide +kernel
theorem dX7_earFor_27 : decode cX7_earFor 27 = .ok (.iload_n 1, 1) := by decide +kernel
theorem dX7_earFor_28 : decode cX7_earFor 28 = .ok (.imul, 1) := by decide +kernel
theorem dX7_earFor_29 : decode cX7_earFor 29 = .ok (.iadd, 1) := by decide +kernel
theorem dX7_earFor_30 : decode cX7_earFor 30 = .ok (.iconst 1, 1) := by decide +kernel
theorem dX7_earFor_31 : decode cX7_earFor 31 = .ok (.iadd, 1) := by decide +kernel
theorem dX7_earFor_32 : decode cX7_earFor 32 = .ok (.istore 4, 2) := by decide +kernel
theorem dX7_earFor_34 : decode cX7_earFor 34 = .ok (.aload_n 0, 1) := by decide +kernel
theorem dX7_earFor_35 : decode cX7_earFor 35 = .ok (.getfield 7, 3) := by decide +kernel
theorem dX7_earFor_38 : decode cX7_earFor 38 = .ok (.iload 4, 2) := by decide +kernel
theorem dX7_earFor_40 : decode cX7_earFor 40 = .ok (.iaload, 1) := by decide +kernel
theorem dX7_earFor_41 : decode cX7_earFor 41 = .ok (.istore 5, 2) := by decide +kernel
theorem dX7_earFor_43 : decode cX7_earFor 43 = .ok (.bipush (-3), 2) := by decide +kernel
theorem dX7_earFor_45 : decode cX7_earFor 45 = .ok (.istore 6, 2) := by decide +kernel
theorem dX7_earFor_47 : decode cX7_earFor 47 = .ok (.iconst 0, 1) := by decide +kernel
theorem dX7_earFor_48 : decode cX7_earFor 48 = .ok (.istore 7, 2) := by decide +kernel
theorem dX7_earFor_50 : decode cX7_earFor 50 = .ok (.iload 7, 2) := by decide +kernel
theorem dX7_earFor_52 : decode cX7_earFor 52 = .ok (.bipush 9, 2) := by decide +kernel
theorem dX7_earFor_54 : decode cX7_earFor 54 = .ok (.if_icmp .gt 41, 3) := by decide +kernel
theorem dX7_earFor_57 : decode cX7_earFor 57 = .ok (.iload 6, 2) := by decide +kernel
theorem dX7_earFor_59 : decode cX7_earFor 59 = .ok (.ifCond .ge 36, 3) := by decide +kernel
theorem dX7_earFor_62 : decode cX7_earFor 62 = .ok (.aload_n 0, 1) := by decide +kernel
theorem dX7_earFor_63 : decode cX7_earFor 63 = .ok (.getfield 7, 3) := by decide +kernel
theorem dX7_earFor_66 : decode cX7_earFor 66 = .ok (.iload 4, 2) := by decide +kernel
theorem dX7_earFor_68 : decode cX7_earFor 68 = .ok (.iload 7, 2) := by decide +kernel
theorem dX7_earFor_70 : decode cX7_earFor 70 = .ok (.iastore, 1) := by decide +kernel
theorem dX7_earFor_71 : decode cX7_earFor 71 = .ok (.aload_n 0, 1) := by decide +kernel
theorem dX7_earFor_72 : decode cX7_earFor 72 = .ok (.iload_n 3, 1) := by decide +kernel
theorem dX7_earFor_73 : decode cX7_earFor 73 = .ok (.invokevirtual 229, 3) := by decide +kernel
theorem dX7_earFor_76 : decode cX7_earFor 76 = .ok (.iload_n 2, 1) := by decide +kernel
theorem dX7_earFor_77 : decode cX7_earFor 77 = .ok (.if_icmp .ne 8, 3) := by decide +kernel
theorem dX7_earFor_80 : decode cX7_earFor 80 = .ok (.iload 7, 2) := by decide +kernel
theorem dX7_earFor_82 : decode cX7_earFor 82 = .ok (.goto 5, 3) := by decide +kernel
theorem dX7_earFor_85 : decode cX7_earFor 85 = .ok (.bipush (-3), 2) := by decide +kernel
theorem dX7_earFor_87 : decode cX7_earFor 87 = .ok (.istore 6, 2) := by decide +kernel
theorem dX7_earFor_89 : decode cX7_earFor 89 = .ok (.iinc 7 1, 3) := by decide +kernel
theorem dX7_earFor_92 : decode cX7_earFor 92 = .ok (.goto (-42), 3) := by decide +kernel
theorem dX7_earFor_95 : decode cX7_earFor 95 = .ok (.aload_n 0, 1) := by decide +kernel
theorem dX7_earFor_96 : decode cX7_earFor 96 = .ok (.getfield 7, 3) := by decide +kernel
theorem dX7_earFor_99 : decode cX7_earFor 99 = .ok (.iload 4, 2) := by decide +kernel
theorem dX7_earFor_101 : decode cX7_earFor 101 = .ok (.iload 5, 2) := by decide +kernel
theorem dX7_earFor_103 : decode cX7_earFor 103 = .ok (.iastore, 1) := by decide +kernel
theorem dX7_earFor_104 : decode cX7_earFor 104 = .ok (.iload 6, 2) := by decide +kernel
theorem dX7_earFor_106 : decode cX7_earFor 106 = .ok (.ireturn, 1) := by decide +kernel
def p_X7_earFor_J95 (F : tF) (A : tA) (K : Int32 → tF → tA → Prop) (x4 : Int32) (x5 : Int32) (x6 : Int32) : Prop := (vp_in x4 53 ∧ (∀ f_103 : tF, f_103 = (upd (A 0) (x4).toNatClampNeg x5) → (K x6 F (va_up A 0 f_103))))
set_option maxHeartbeats 4000000 in
set_option maxRecDepth 100000 in
theorem b_X7_earFor_J95 {p : Program} {l : Launch} {e : Env} {s : State} {m : MethodId} {args : Array Value} {below : List Frame} {meth : Method} {c : Code} {Q : State → Prop} {D : va_G} {cI cZ cR : ClassId} {adK adV : Nat → Nat} {A9 : Nat → Prop} {o : Nat} {q : Nat → Nat} {K : Int32 → tF → tA → Prop}  (F : tF) (A : tA) (x4 : Int32) (x5 : Int32) (x6 : Int32) (X : CX p s m args c yX7_earFor.cls cX7_earFor 8 D cI cZ cR adK adV A9) (ret : RTi p l e (rmN 8 186) s m args below meth c Q cX7_earFor D A9 (fun (r : Int32) (u : (tF × tA)) => K r u.1 u.2) (fun (u : (tF × tA)) => (wX7 cI cZ o q u.1 u.2 : va_W)))  (H : Heap) (locs : List Loc) (ls : Array Slot) (h : p_X7_earFor_J95 F A K x4 x5 x6) (hP : va_P D vwCl (wX7 cI cZ o q F A : va_W) H) (hD : va_D A9 (wX7 cI cZ o q F A : va_W)) (hS : va_S A9 s.heap H locs) (hl : lv_has ls 8 [(0, .ref o), (4, .int x4), (5, .int x5), (6, .int x6)]) : W p l e (rmN 8 186) s m args below meth c H locs 0 0 Q (F0 m 95 ls []) := by
  obtain ⟨hx, hb, hml, ht, hown, hK, hA, hE⟩ := id X
  unfold p_X7_earFor_J95 at h
  refine lv_aload_n hx hb dX7_earFor_95 rfl (lv_at hl 0 rfl) ?_
  refine va_get (C := RX7) (T := TX7) (N := 28) (own := RX7) (v := .ref (q 0)) hx hb ht inlX7 hown hK hP 0 rfl rfl 0 (Nat.le_of_ble_eq_true rfl) (ht _ mw_5_7) (fun _ h9 => h9) rfl dX7_earFor_96 ?_
  refine lv_iload hx hb dX7_earFor_99 (lv_at hl 1 rfl) ?_
  refine lv_iload hx hb dX7_earFor_101 (lv_at hl 2 rfl) ?_
  obtain ⟨hi103, h⟩ := h
  obtain ⟨f_103, ef_103⟩ : ∃ z : tF, z = (upd (A 0) (x4).toNatClampNeg x5) := ⟨_, rfl⟩
  replace h := h f_103 ef_103
  refine g_iast (f := (A 0)) (k := (x4).toNatClampNeg) hx hb hK hP hD hS 1 0 rfl rfl hi103 rfl ef_103 dX7_earFor_103 (fun H locs hP hD hS => ?_)
  have hP : va_P D vwCl (wX7 cI cZ o q F (va_up A 0 f_103) : va_W) H := hP
  have hD : va_D A9 (wX7 cI cZ o q F (va_up A 0 f_103) : va_W) := hD
  refine lv_iload hx hb dX7_earFor_104 (lv_at hl 3 rfl) ?_
  exact ret _ (F, (va_up A 0 f_103)) _ _ _ _ dX7_earFor_106 h hP hD hS
def p_X7_earFor_J87 (F : tF) (A : tA) (B50 : (tF → tA → Int32 → Int32 → Prop)) (K : Int32 → tF → tA → Prop) (x2 : Int32) (x3 : Int32) (x4 : Int32) (x5 : Int32) (x7 : Int32) (s0 : Int32) : Prop := (∀ y89 : Int32, y89 = (x7 + (1 : Int32)) → (B50 F A s0 y89))
set_option maxHeartbeats 4000000 in
set_option maxRecDepth 100000 in
theorem b_X7_earFor_J87 {p : Program} {l : Launch} {e : Env} {s : State} {m : MethodId} {args : Array Value} {below : List Frame} {meth : Method} {c : Code} {Q : State → Prop} {D : va_G} {cI cZ cR : ClassId} {adK adV : Nat → Nat} {A9 : Nat → Prop} {o : Nat} {q : Nat → Nat} {K : Int32 → tF → tA → Prop} {B50 : (tF → tA → Int32 → Int32 → Prop)} (F : tF) (A : tA) (x2 : Int32) (x3 : Int32) (x4 : Int32) (x5 : Int32) (x7 : Int32) (s0 : Int32) (X : CX p s m args c yX7_earFor.cls cX7_earFor 8 D cI cZ cR adK adV A9) (ret : RTi p l e (rmN 8 186) s m args below meth c Q cX7_earFor D A9 (fun (r : Int32) (u : (tF × tA)) => K r u.1 u.2) (fun (u : (tF × tA)) => (wX7 cI cZ o q u.1 u.2 : va_W))) (hB50 : ∀ (F : tF) (A : tA) (x6 : Int32) (x7 : Int32) (H : Heap) (locs : List Loc) (ls : Array Slot), B50 F A x6 x7 → va_P D vwCl (wX7 cI cZ o q F A : va_W) H → va_D A9 (wX7 cI cZ o q F A : va_W) → va_S A9 s.heap H locs → lv_has ls 8 [(0, .ref o), (2, .int x2), (3, .int x3), (4, .int x4), (5, .int x5), (6, .int x6), (7, .int x7)] → W p l e (rmN 8 186) s m args below meth c H locs 0 0 Q (F0 m 50 ls [])) (H : Heap) (locs : List Loc) (ls : Array Slot) (h : p_X7_earFor_J87 F A B50 K x2 x3 x4 x5 x7 s0) (hP : va_P D vwCl (wX7 cI cZ o q F A : va_W) H) (hD : va_D A9 (wX7 cI cZ o q F A : va_W)) (hS : va_S A9 s.heap H locs) (hl : lv_has ls 8 [(0, .ref o), (2, .int x2), (3, .int x3), (4, .int x4), (5, .int x5), (7, .int x7)]) : W p l e (rmN 8 186) s m args below meth c H locs 0 0 Q (F0 m 87 ls [.int s0]) := by
  obtain ⟨hx, hb, hml, ht, hown, hK, hA, hE⟩ := id X
  unfold p_X7_earFor_J87 at h
  refine lv_istore (lv' := [(6, .int s0), (0, .ref o), (2, .int x2), (3, .int x3), (4, .int x4), (5, .int x5), (7, .int x7)]) hx hb dX7_earFor_87 hl (by decide) rfl (fun ls hl => ?_)
  obtain ⟨y89, ey89⟩ : ∃ y : Int32, y = (x7 + (1 : Int32)) := ⟨_, rfl⟩
  replace h := h y89 ey89
  refine lv_iinc (v := y89) (lv' := [(7, .int y89), (6, .int s0), (0, .ref o), (2, .int x2), (3, .int x3), (4, .int x4), (5, .int x5)]) hx hb dX7_earFor_89 hl (k := 6) rfl (by rw [ey89]; rfl) (by decide) rfl (fun ls hl => ?_)
  refine lv_goto (tgt := 50) hx hb dX7_earFor_92 (by decide) ?_
  exact hB50 F A s0 y89 _ _ _ h hP hD hS (lv_sub hl [2, 3, 4, 5, 6, 1, 0] rfl)
def p_X7_earFor_L50 (x2 : Int32) (x3 : Int32) (x4 : Int32) (x5 : Int32) (K : Int32 → tF → tA → Prop) : Nat → tF → tA → Int32 → Int32 → Prop
  | 0, _, _, _, _ => False
  | n50 + 1, F, A, x6, x7 => (((9 : Int32) < x7 → (p_X7_earFor_J95 F A K x4 x5 x6)) ∧ (¬ (9 : Int32) < x7 → ((0 ≤ x6 → (p_X7_earFor_J95 F A K x4 x5 x6)) ∧ (¬ 0 ≤ x6 → (vp_in x4 53 ∧ (∀ f_70 : tF, f_70 = (upd (A 0) (x4).toNatClampNeg x7) → (p_X7_whereBehind F (va_up A 0 f_70) x3 (fun r73 F_73 A_73 => ((¬ r73 = x2 → (p_X7_earFor_J87 F_73 A_73 (p_X7_earFor_L50 x2 x3 x4 x5 K n50) K x2 x3 x4 x5 x7 (-3 : Int32))) ∧ (r73 = x2 → (p_X7_earFor_J87 F_73 A_73 (p_X7_earFor_L50 x2 x3 x4 x5 K n50) K x2 x3 x4 x5 x7 x7)))))))))))
set_option maxHeartbeats 4000000 in
set_option maxRecDepth 100000 in
theorem b_X7_earFor_L50 {p : Program} {l : Launch} {e : Env} {s : State} {m : MethodId} {args : Array Value} {below : List Frame} {meth : Method} {c : Code} {Q : State → Prop} {D : va_G} {cI cZ cR : ClassId} {adK adV : Nat → Nat} {A9 : Nat → Prop} {o : Nat} {q : Nat → Nat} {K : Int32 → tF → tA → Prop}  (x2 : Int32) (x3 : Int32) (x4 : Int32) (x5 : Int32) (X : CX p s m args c yX7_earFor.cls cX7_earFor 8 D cI cZ cR adK adV A9) (ret : RTi p l e (rmN 8 186) s m args below meth c Q cX7_earFor D A9 (fun (r : Int32) (u : (tF × tA)) => K r u.1 u.2) (fun (u : (tF × tA)) => (wX7 cI cZ o q u.1 u.2 : va_W)))   : ∀ (n : Nat) (F : tF) (A : tA) (x6 : Int32) (x7 : Int32) (H : Heap) (locs : List Loc) (ls : Array Slot), p_X7_earFor_L50 x2 x3 x4 x5 K n F A x6 x7 → va_P D vwCl (wX7 cI cZ o q F A : va_W) H → va_D A9 (wX7 cI cZ o q F A : va_W) → va_S A9 s.heap H locs → lv_has ls 8 [(0, .ref o), (2, .int x2), (3, .int x3), (4, .int x4), (5, .int x5), (6, .int x6), (7, .int x7)] → W p l e (rmN 8 186) s m args below meth c H locs 0 0 Q (F0 m 50 ls []) := by
  obtain ⟨hx, hb, hml, ht, hown, hK, hA, hE⟩ := id X
  intro n
  induction n with
  | zero => intro F A x6 x7 H locs ls h; exact False.elim h
  | succ n50 ih =>
    intro F A x6 x7 H locs ls h hP hD hS hl
    rw [p_X7_earFor_L50] at h
    refine lv_iload hx hb dX7_earFor_50 (lv_at hl 6 rfl) ?_
    refine lv_bipush (v := 9) hx hb dX7_earFor_52 (by decide) ?_
    refine lv_icmp_gt (tgt := 95) hx hb dX7_earFor_54 (by decide) (fun c54 => ?_) (fun c54 => ?_)
    · replace h := h.1 c54
      exact b_X7_earFor_J95 F A x4 x5 x6 X ret  _ _ _ h hP hD hS (lv_sub hl [0, 3, 4, 5] rfl)
    · replace h := h.2 c54
      refine lv_iload hx hb dX7_earFor_57 (lv_at hl 5 rfl) ?_
      refine lv_if_ge (tgt := 95) hx hb dX7_earFor_59 (by decide) (fun c59 => ?_) (fun c59 => ?_)
      · replace h := h.1 c59
        exact b_X7_earFor_J95 F A x4 x5 x6 X ret  _ _ _ h hP hD hS (lv_sub hl [0, 3, 4, 5] rfl)
      · replace h := h.2 c59
        refine lv_aload_n hx hb dX7_earFor_62 rfl (lv_at hl 0 rfl) ?_
        refine va_get (C := RX7) (T := TX7) (N := 28) (own := RX7) (v := .ref (q 0)) hx hb ht inlX7 hown hK hP 0 rfl rfl 0 (Nat.le_of_ble_eq_true rfl) (ht _ mw_5_7) (fun _ h9 => h9) rfl dX7_earFor_63 ?_
        refine lv_iload hx hb dX7_earFor_66 (lv_at hl 3 rfl) ?_
        refine lv_iload hx hb dX7_earFor_68 (lv_at hl 6 rfl) ?_
        obtain ⟨hi70, h⟩ := h
        obtain ⟨f_70, ef_70⟩ : ∃ z : tF, z = (upd (A 0) (x4).toNatClampNeg x7) := ⟨_, rfl⟩
        replace h := h f_70 ef_70
        refine g_iast (f := (A 0)) (k := (x4).toNatClampNeg) hx hb hK hP hD hS 1 0 rfl rfl hi70 rfl ef_70 dX7_earFor_70 (fun H locs hP hD hS => ?_)
        have hP : va_P D vwCl (wX7 cI cZ o q F (va_up A 0 f_70) : va_W) H := hP
        have hD : va_D A9 (wX7 cI cZ o q F (va_up A 0 f_70) : va_W) := hD
        refine lv_aload_n hx hb dX7_earFor_71 rfl (lv_at hl 0 rfl) ?_
        refine lv_iload_n hx hb dX7_earFor_72 rfl (lv_at hl 2 rfl) ?_
        refine C_vi (wr := []) X hP hD hS [.int x3] [] (w_X7_whereBehind l D cI cZ cR adK adV _ o q F (va_up A 0 f_70) x3 _ h) cal_X7_whereBehind mw_29_13 rfl [0, 1, 2, 3, 4, 5, 6, 7, 8, 9, 10, 11, 12, 13, 14, 15] [] [0, 1, 2, 3, 4, 5, 6, 7, 8, 9, 10, 11, 12, 13, 14, 15] (fun u => (wX7 cI cZ o q u.1 u.2 : va_W)) rfl rfl (fun _ => rfl) rfl 0 rfl rfl ⟨rfl, rfl⟩ ⟨Nat.le_of_ble_eq_true rfl, Nat.le_of_ble_eq_true rfl⟩ hl.1 rfl (Nat.le_of_ble_eq_true rfl) ⟨Nat.zero_le _, Nat.zero_le _⟩ dX7_earFor_73 (fun r73 u H locs h hP hD hS => ?_)
        obtain ⟨F_73, A_73⟩ := u
        try dsimp only at h
        have hP : va_P D vwCl (wX7 cI cZ o q F_73 A_73 : va_W) H := hP
        have hD : va_D A9 (wX7 cI cZ o q F_73 A_73 : va_W) := hD
        refine lv_iload_n hx hb dX7_earFor_76 rfl (lv_at hl 1 rfl) ?_
        refine lv_icmp_ne (tgt := 85) hx hb dX7_earFor_77 (by decide) (fun c77 => ?_) (fun c77 => ?_)
        · replace h := h.1 c77
          refine lv_bipush (v := -3) hx hb dX7_earFor_85 (by decide) ?_
          exact b_X7_earFor_J87 F_73 A_73 x2 x3 x4 x5 x7 (-3 : Int32) X ret ih _ _ _ h hP hD hS (lv_sub hl [0, 1, 2, 3, 4, 6] rfl)
        · replace h := h.2 c77
          refine lv_iload hx hb dX7_earFor_80 (lv_at hl 6 rfl) ?_
          refine lv_goto (tgt := 87) hx hb dX7_earFor_82 (by decide) ?_
          exact b_X7_earFor_J87 F_73 A_73 x2 x3 x4 x5 x7 x7 X ret ih _ _ _ h hP hD hS (lv_sub hl [0, 1, 2, 3, 4, 6] rfl)
def p_X7_earFor (F : tF) (A : tA) (x1 : Int32) (x2 : Int32) (x3 : Int32) (K : Int32 → tF → tA → Prop) : Prop := (p_X7_isOne F A x1 (fun r2 => ((r2 = 0 → (K (-1 : Int32) F A)) ∧ (¬ r2 = 0 → (p_X7_isPlace x2 (fun r9 => ((r9 = 0 → (K (-1 : Int32) F A)) ∧ (¬ r9 = 0 → (p_X7_isShort x3 (fun r16 => ((¬ r16 = 0 → (∀ y32 : Int32, y32 = (((21 : Int32) + ((4 : Int32) * x1)) + (1 : Int32)) → (vp_in y32 53 ∧ (∀ y41 : Int32, y41 = ((A 0) (y32).toNatClampNeg) → (∃ n50, p_X7_earFor_L50 x2 x3 y32 y41 K n50 F A (-3 : Int32) (0 : Int32)))))) ∧ (r16 = 0 → (K (-1 : Int32) F A)))))))))))))
set_option maxHeartbeats 4000000 in
set_option maxRecDepth 100000 in
theorem w_X7_earFor (l : Launch) (D : va_G) (cI cZ cR : ClassId) (adK adV : Nat → Nat) (sz : Nat) (o : Nat) (q : Nat → Nat) (F : tF) (A : tA) (x1 : Int32) (x2 : Int32) (x3 : Int32) (K : Int32 → tF → tA → Prop) (h : p_X7_earFor F A x1 x2 x3 K) : MI l D cI cZ cR adK adV yX7_earFor cX7_earFor 8 (some .int) (rmN 8 186) [.ref o, .int x1, .int x2, .int x3] (wX7 cI cZ o q F A : va_W) sz (fun (r : Int32) (u : (tF × tA)) => K r u.1 u.2) (fun (u : (tF × tA)) => (wX7 cI cZ o q u.1 u.2 : va_W)) := by
  refine M_i (by decide +kernel) (Nat.le_of_ble_eq_true rfl) ?_
  intro p e s m args below meth c Q A9 ls X ret hP hD hS hl
  obtain ⟨hx, hb, hml, ht, hown, hK, hA, hE⟩ := id X
  have hl : lv_has ls 8 [(0, .ref o), (1, .int x1), (2, .int x2), (3, .int x3)] := hl
  unfold p_X7_earFor at h
  refine lv_aload_n hx hb dX7_earFor_0 rfl (lv_at hl 0 rfl) ?_
  refine lv_iload_n hx hb dX7_earFor_1 rfl (lv_at hl 1 rfl) ?_
  refine C_vi (wr := []) X hP hD hS [.int x1] [] (w_X7_isOne l D cI cZ cR adK adV _ o q F A x1 _ h) cal_X7_isOne mw_18_12 rfl [0, 1, 2, 3, 4, 5, 6, 7, 8, 9, 10, 11, 12, 13, 14, 15] [] [0, 1, 2, 3, 4, 5, 6, 7, 8, 9, 10, 11, 12, 13, 14, 15] (fun u => (wX7 cI cZ o q F A : va_W)) rfl rfl (fun _ => rfl) rfl 0 rfl rfl ⟨rfl, rfl⟩ ⟨Nat.le_of_ble_eq_true rfl, Nat.le_of_ble_eq_true rfl⟩ hl.1 rfl (Nat.le_of_ble_eq_true rfl) ⟨Nat.zero_le _, Nat.zero_le _⟩ dX7_earFor_2 (fun r2 u H locs h hP hD hS => ?_)
  refine lv_if_eq (tgt := 22) hx hb dX7_earFor_5 (by decide) (fun c5 => ?_) (fun c5 => ?_)
  · replace h := h.1 c5
    refine lv_iconst (v := -1) hx hb dX7_earFor_22 (by decide) ?_
    exact ret _ (F, A) _ _ _ _ dX7_earFor_23 h hP hD hS
  · replace h := h.2 c5
    refine lv_iload_n hx hb dX7_earFor_8 rfl (lv_at hl 2 rfl) ?_
    refine C_si (wr := [0, 1, 2, 3, 4, 5, 6, 7, 8, 9, 10, 11, 12, 13, 14, 15].filterMap (fun i => (wX7 cI cZ o q F A : va_W)[i]?)) X hP hD hS [.int x2] [] (w_X7_isPlace l D cI cZ cR adK adV _ x2 _ h) cal_X7_isPlace mw_16_21 rfl [] [0, 1, 2, 3, 4, 5, 6, 7, 8, 9, 10, 11, 12, 13, 14, 15] [0, 1, 2, 3, 4, 5, 6, 7, 8, 9, 10, 11, 12, 13, 14, 15] (fun u => (wX7 cI cZ o q F A : va_W)) rfl rfl (fun _ => rfl) rfl ⟨rfl, rfl⟩ ⟨Nat.le_of_ble_eq_true rfl, Nat.le_of_ble_eq_true rfl⟩ hl.1 rfl (Nat.le_of_ble_eq_true rfl) ⟨Nat.zero_le _, Nat.zero_le _⟩ dX7_earFor_9 (fun r9 u H locs h hP hD hS => ?_)
    refine lv_if_eq (tgt := 22) hx hb dX7_earFor_12 (by decide) (fun c12 => ?_) (fun c12 => ?_)
    · replace h := h.1 c12
      refine lv_iconst (v := -1) hx hb dX7_earFor_22 (by decide) ?_
      exact ret _ (F, A) _ _ _ _ dX7_earFor_23 h hP hD hS
    · replace h := h.2 c12
      refine lv_iload_n hx hb dX7_earFor_15 rfl (lv_at hl 3 rfl) ?_
      refine C_si (wr := [0, 1, 2, 3, 4, 5, 6, 7, 8, 9, 10, 11, 12, 13, 14, 15].filterMap (fun i => (wX7 cI cZ o q F A : va_W)[i]?)) X hP hD hS [.int x3] [] (w_X7_isShort l D cI cZ cR adK adV _ x3 _ h) cal_X7_isShort mw_31_2 rfl [] [0, 1, 2, 3, 4, 5, 6, 7, 8, 9, 10, 11, 12, 13, 14, 15] [0, 1, 2, 3, 4, 5, 6, 7, 8, 9, 10, 11, 12, 13, 14, 15] (fun u => (wX7 cI cZ o q F A : va_W)) rfl rfl (fun _ => rfl) rfl ⟨rfl, rfl⟩ ⟨Nat.le_of_ble_eq_true rfl, Nat.le_of_ble_eq_true rfl⟩ hl.1 rfl (Nat.le_of_ble_eq_true rfl) ⟨Nat.zero_le _, Nat.zero_le _⟩ dX7_earFor_16 (fun r16 u H locs h hP hD hS => ?_)
      refine lv_if_ne (tgt := 24) hx hb dX7_earFor_19 (by decide) (fun c19 => ?_) (fun c19 => ?_)
      · replace h := h.1 c19
        refine lv_bipush (v := 21) hx hb dX7_earFor_24 (by decide) ?_
        refine lv_iconst (v := 4) hx hb dX7_earFor_26 (by decide) ?_
        refine lv_iload_n hx hb dX7_earFor_27 rfl (lv_at hl 1 rfl) ?_
        refine lv_imul hx hb dX7_earFor_28 ?_
        refine lv_iadd hx hb dX7_earFor_29 ?_
        refine lv_iconst (v := 1) hx hb dX7_earFor_30 (by decide) ?_
        refine lv_iadd hx hb dX7_earFor_31 ?_
        refine lv_topi (fun y32 ey32 => ?_)
        replace h := h y32 ey32
        refine lv_istore (lv' := [(4, .int y32), (0, .ref o), (1, .int x1), (2, .int x2), (3, .int x3)]) hx hb dX7_earFor_32 hl (by decide) rfl (fun ls hl => ?_)
        refine lv_aload_n hx hb dX7_earFor_34 rfl (lv_at hl 1 rfl) ?_
        refine va_get (C := RX7) (T := TX7) (N := 28) (own := RX7) (v := .ref (q 0)) hx hb ht inlX7 hown hK hP 0 rfl rfl 0 (Nat.le_of_ble_eq_true rfl) (ht _ mw_5_7) (fun _ h9 => h9) rfl dX7_earFor_35 ?_
        refine lv_iload hx hb dX7_earFor_38 (lv_at hl 0 rfl) ?_
        obtain ⟨hi40, h⟩ := h
        refine g_iald (f := (A 0)) (k := (y32).toNatClampNeg) hx hb hK hP 1 0 rfl rfl hi40 rfl dX7_earFor_40 ?_
        refine lv_topi (fun y41 ey41 => ?_)
        replace h := h y41 ey41
        refine lv_istore (lv' := [(5, .int y41), (4, .int y32), (0, .ref o), (1, .int x1), (2, .int x2), (3, .int x3)]) hx hb dX7_earFor_41 hl (by decide) rfl (fun ls hl => ?_)
        refine lv_bipush (v := -3) hx hb dX7_earFor_43 (by decide) ?_
        refine lv_istore (lv' := [(6, .int (-3 : Int32)), (5, .int y41), (4, .int y32), (0, .ref o), (1, .int x1), (2, .int x2), (3, .int x3)]) hx hb dX7_earFor_45 hl (by decide) rfl (fun ls hl => ?_)
        refine lv_iconst (v := 0) hx hb dX7_earFor_47 (by decide) ?_
        refine lv_istore (lv' := [(7, .int (0 : Int32)), (6, .int (-3 : Int32)), (5, .int y41), (4, .int y32), (0, .ref o), (1, .int x1), (2, .int x2), (3, .int x3)]) hx hb dX7_earFor_48 hl (by decide) rfl (fun ls hl => ?_)
        obtain ⟨n50, h⟩ := h
        exact b_X7_earFor_L50 x2 x3 y32 y41 X ret  n50 F A (-3 : Int32) (0 : Int32) _ _ _ h hP hD hS (lv_sub hl [4, 6, 7, 3, 2, 1, 0] rfl)
      · replace h := h.2 c19
        refine lv_iconst (v := -1) hx hb dX7_earFor_22 (by decide) ?_
        exact ret _ (F, A) _ _ _ _ dX7_earFor_23 h hP hD hS
theorem cal_X7_winner : CalV yX7_winner cX7_winner 1 (some .int) 0 := ⟨mw_24_11, mw_1_5, mw_24_9, mw_24_10, ⟨by decide +kernel, by decide +kernel, by decide +kernel⟩⟩
theorem dX7_winsByLooks_0 : decode cX7_winsByLooks 0 = .ok (.aload_n 0, 1) := by decide +kernel
theorem dX7_winsByLooks_1 : decode cX7_winsByLooks 1 = .ok (.getfield 7, 3) := by decide +kernel
theorem dX7_winsByLooks_4 : decode cX7_winsByLooks 4 = .ok (.aload_n 0, 1) := by decide +kernel
theorem dX7_winsByLooks_5 : decode cX7_winsByLooks 5 = .ok (.getfield 16, 3) := by decide +kernel
theorem dX7_winsByLooks_8 : decode cX7_winsByLooks 8 = .ok (.invokestatic 144, 3) := by decide +kernel
theorem dX7_winsByLooks_11 : decode cX7_winsByLooks 11 = .ok (.iconst 0, 1) := by decide +kernel
theorem dX7_winsByLooks_12 : decode cX7_winsByLooks 12 = .ok (.istore_n 3, 1) := by decide +kernel
theorem dX7_winsByLooks_13 : decode cX7_winsByLooks 13 = .ok (.iload_n 3, 1) := by decide +kernel
theorem dX7_winsByLooks_14 : decode cX7_winsByLooks 14 = .ok (.aload_n 0, 1) := by decide +kernel
theorem dX7_winsByLooks_15 : decode cX7_winsByLooks 15 = .ok (.getfield 7, 3) := by decide +kernel
theorem dX7_winsByLooks_18 : decode cX7_winsByLooks 18 = .ok (.iconst 0, 1) := by decide +kernel
theorem dX7_winsByLooks_19 : decode cX7_winsByLooks 19 = .ok (.iaload, 1) := by decide +kernel
theorem dX7_winsByLooks_20 : decode cX7_winsByLooks 20 = .ok (.if_icmp .ge 41, 3) := by decide +kernel
theorem dX7_winsByLooks_23 : decode cX7_winsByLooks 23 = .ok (.aload_n 0, 1) := by decide +kernel
theorem dX7_winsByLooks_24 : decode cX7_winsByLooks 24 = .ok (.getfield 7, 3) := by decide +kernel
theorem dX7_winsByLooks_27 : decode cX7_winsByLooks 27 = .ok (.bipush 21, 2) := by decide +kernel
theorem dX7_winsByLooks_29 : decode cX7_winsByLooks 29 = .ok (.iconst 4, 1) := by decide +kernel
theorem dX7_winsByLooks_30 : decode cX7_winsByLooks 30 = .ok (.iload_n 3, 1) := by decide +kernel
theorem dX7_winsByLooks_31 : decode cX7_winsByLooks 31 = .ok (.imul, 1) := by decide +kernel
theorem dX7_winsByLooks_32 : decode cX7_winsByLooks 32 = .ok (.iadd, 1) := by decide +kernel
theorem dX7_winsByLooks_33 : decode cX7_winsByLooks 33 = .ok (.iconst 3, 1) := by decide +kernel
theorem dX7_winsByLooks_34 : decode cX7_winsByLooks 34 = .ok (.iadd, 1) := by decide +kernel
theorem dX7_winsByLooks_35 : decode cX7_winsByLooks 35 = .ok (.iload_n 1, 1) := by decide +kernel
theorem dX7_winsByLooks_36 : decode cX7_winsByLooks 36 = .ok (.iload_n 3, 1) := by decide +kernel
theorem dX7_winsByLooks_37 : decode cX7_winsByLooks 37 = .ok (.ishr, 1) := by decide +kernel
theorem dX7_winsByLooks_38 : decode cX7_winsByLooks 38 = .ok (.iconst 1, 1) := by decide +kernel
theorem dX7_winsByLooks_39 : decode cX7_winsByLooks 39 = .ok (.iand, 1) := by decide +kernel
theorem dX7_winsByLooks_40 : decode cX7_winsByLooks 40 = .ok (.iconst 1, 1) := by decide +kernel
theorem dX7_winsByLooks_41 : decode cX7_winsByLooks 41 = .ok (.if_icmp .ne 7, 3) := by decide +kernel
theorem dX7_winsByLooks_44 : decode cX7_winsByLooks 44 = .ok (.iload_n 2, 1) := by decide +kernel
theorem dX7_winsByLooks_45 : decode cX7_winsByLooks 45 = .ok (.goto 9, 3) := by decide +kernel
theorem dX7_winsByLooks_48 : decode cX7_winsByLooks 48 = .ok (.aload_n 0, 1) := by decide +kernel
theorem dX7_winsByLooks_49 : decode cX7_winsByLooks 49 = .ok (.iload_n 3, 1) := by decide +kernel
theorem dX7_winsByLooks_50 : decode cX7_winsByLooks 50 = .ok (.iconst 3, 1) := by decide +kernel
theorem dX7_winsByLooks_51 : decode cX7_winsByLooks 51 = .ok (.invokevirtual 169, 3) := by decide +kernel
theorem dX7_winsByLooks_54 : decode cX7_winsByLooks 54 = .ok (.iastore, 1) := by decide +kernel
theorem dX7_winsByLooks_55 : decode cX7_winsByLooks 55 = .ok (.iinc 3 1, 3) := by decide +kernel
theorem dX7_winsByLooks_58 : decode cX7_winsByLooks 58 = .ok (.goto (-45), 3) := by decide +kernel
theorem dX7_winsByLooks_61 : decode cX7_winsByLooks 61 = .ok (.aload_n 0, 1) := by decide +kernel
theorem dX7_winsByLooks_62 : decode cX7_winsByLooks 62 = .ok (.invokevirtual 241, 3) := by decide +kernel
theorem dX7_winsByLooks_65 : decode cX7_winsByLooks 65 = .ok (.iload_n 2, 1) := by decide +kernel
theorem dX7_winsByLooks_66 : decode cX7_winsByLooks 66 = .ok (.if_icmp .ne 7, 3) := by decide +kernel
theorem dX7_winsByLooks_69 : decode cX7_winsByLooks 69 = .ok (.iconst 1, 1) := by decide +kernel
theorem dX7_winsByLooks_70 : decode cX7_winsByLooks 70 = .ok (.goto 4, 3) := by decide +kernel
theorem dX7_winsByLooks_73 : decode cX7_winsByLooks 73 = .ok (.iconst 0, 1) := by decide +kernel
theorem dX7_winsByLooks_74 : decode cX7_winsByLooks 74 = .ok (.istore_n 3, 1) := by decide +kernel
theorem dX7_winsByLooks_75 : decode cX7_winsByLooks 75 = .ok (.aload_n 0, 1) := by decide +kernel
theorem dX7_winsByLooks_76 : decode cX7_winsByLooks 76 = .ok (.getfield 16, 3) := by decide +kernel
theorem dX7_winsByLooks_79 : decode cX7_winsByLooks 79 = .ok (.aload_n 0, 1) := by decide +kernel
theorem dX7_winsByLooks_80 : decode cX7_winsByLooks 80 = .ok (.getfield 7, 3) := by decide +kernel
theorem dX7_winsByLooks_83 : decode cX7_winsByLooks 83 = .ok (.invokestatic 144, 3) := by decide +kernel
theorem dX7_winsByLooks_86 : decode cX7_winsByLooks 86 = .ok (.iload_n 3, 1) := by decide +kernel
theorem dX7_winsByLooks_87 : decode cX7_winsByLooks 87 = .ok (.ireturn, 1) := by decide +kernel
def p_X7_winsByLooks_J74 (F : tF) (A : tA) (K : Int32 → tF → tA → Prop) (s0 : Int32) : Prop := (p_X7_copyRow 53 (A 2) 53 (A 0) (fun g0_83 => (bo s0 ∧ (K s0 F (va_up A 0 g0_83)))))
set_option maxHeartbeats 4000000 in
set_option maxRecDepth 100000 in
theorem b_X7_winsByLooks_J74 {p : Program} {l : Launch} {e : Env} {s : State} {m : MethodId} {args : Array Value} {below : List Frame} {meth : Method} {c : Code} {Q : State → Prop} {D : va_G} {cI cZ cR : ClassId} {adK adV : Nat → Nat} {A9 : Nat → Prop} {o : Nat} {q : Nat → Nat} {K : Int32 → tF → tA → Prop}  (F : tF) (A : tA) (s0 : Int32) (X : CX p s m args c yX7_winsByLooks.cls cX7_winsByLooks 4 D cI cZ cR adK adV A9) (ret : RTz p l e (rmN 6 139) s m args below meth c Q cX7_winsByLooks D A9 (fun (r : Int32) (u : (tF × tA)) => K r u.1 u.2) (fun (u : (tF × tA)) => (wX7 cI cZ o q u.1 u.2 : va_W)))  (H : Heap) (locs : List Loc) (ls : Array Slot) (h : p_X7_winsByLooks_J74 F A K s0) (hP : va_P D vwCl (wX7 cI cZ o q F A : va_W) H) (hD : va_D A9 (wX7 cI cZ o q F A : va_W)) (hS : va_S A9 s.heap H locs) (hl : lv_has ls 4 [(0, .ref o)]) : W p l e (rmN 6 139) s m args below meth c H locs 0 0 Q (F0 m 74 ls [.int s0]) := by
  obtain ⟨hx, hb, hml, ht, hown, hK, hA, hE⟩ := id X
  unfold p_X7_winsByLooks_J74 at h
  refine lv_istore_n (lv' := [(3, .int s0), (0, .ref o)]) hx hb dX7_winsByLooks_74 rfl hl (by decide) rfl (fun ls hl => ?_)
  refine lv_aload_n hx hb dX7_winsByLooks_75 rfl (lv_at hl 1 rfl) ?_
  refine va_get (C := RX7) (T := TX7) (N := 28) (own := RX7) (v := .ref (q 2)) hx hb ht inlX7 hown hK hP 0 rfl rfl 2 (Nat.le_of_ble_eq_true rfl) (ht _ mw_5_9) (fun _ h9 => h9) rfl dX7_winsByLooks_76 ?_
  refine lv_aload_n hx hb dX7_winsByLooks_79 rfl (lv_at hl 1 rfl) ?_
  refine va_get (C := RX7) (T := TX7) (N := 28) (own := RX7) (v := .ref (q 0)) hx hb ht inlX7 hown hK hP 0 rfl rfl 0 (Nat.le_of_ble_eq_true rfl) (ht _ mw_5_7) (fun _ h9 => h9) rfl dX7_winsByLooks_80 ?_
  refine C_sv (wr := [0, 2, 4, 5, 6, 7, 8, 9, 10, 11, 12, 13, 14, 15].filterMap (fun i => (wX7 cI cZ o q F A : va_W)[i]?)) X hP hD hS [.ref (q 2), .ref (q 0)] [] (w_X7_copyRow l D cI cZ cR adK adV _ (q 2) (q 0) 53 (A 2) 53 (A 0) _ h) cal_X7_copyRow mw_12_6 rfl [3, 1] [0, 2, 4, 5, 6, 7, 8, 9, 10, 11, 12, 13, 14, 15] [0, 15, 1, 14, 2, 3, 4, 5, 6, 7, 8, 9, 10, 11, 12, 13] (fun u => (wX7 cI cZ o q F (va_up A 0 u) : va_W)) rfl rfl (fun _ => rfl) rfl ⟨rfl, rfl⟩ ⟨Nat.le_of_ble_eq_true rfl, Nat.le_of_ble_eq_true rfl⟩ hl.1 rfl (Nat.le_of_ble_eq_true rfl) ⟨Nat.zero_le _, Nat.zero_le _⟩ dX7_winsByLooks_83 (fun u H locs h hP hD hS => ?_)
  obtain ⟨g0_83, rfl⟩ : ∃ z, z = u := ⟨_, rfl⟩
  try dsimp only at h
  have hP : va_P D vwCl (wX7 cI cZ o q F (va_up A 0 g0_83) : va_W) H := hP
  have hD : va_D A9 (wX7 cI cZ o q F (va_up A 0 g0_83) : va_W) := hD
  refine lv_iload_n hx hb dX7_winsByLooks_86 rfl (lv_at hl 0 rfl) ?_
  obtain ⟨hz87, h⟩ := h
  exact ret _ (F, (va_up A 0 g0_83)) _ _ _ _ dX7_winsByLooks_87 hz87 h hP hD hS
def p_X7_winsByLooks_J54 (F : tF) (A : tA) (B13 : (tF → tA → Int32 → Prop)) (K : Int32 → tF → tA → Prop) (x1 : Int32) (x2 : Int32) (x3 : Int32) (s0 : Int32) (s1 : Int32) : Prop := (vp_in s1 53 ∧ (∀ f_54 : tF, f_54 = (upd (A 0) (s1).toNatClampNeg s0) → (∀ y55 : Int32, y55 = (x3 + (1 : Int32)) → (B13 F (va_up A 0 f_54) y55))))
set_option maxHeartbeats 4000000 in
set_option maxRecDepth 100000 in
theorem b_X7_winsByLooks_J54 {p : Program} {l : Launch} {e : Env} {s : State} {m : MethodId} {args : Array Value} {below : List Frame} {meth : Method} {c : Code} {Q : State → Prop} {D : va_G} {cI cZ cR : ClassId} {adK adV : Nat → Nat} {A9 : Nat → Prop} {o : Nat} {q : Nat → Nat} {K : Int32 → tF → tA → Prop} {B13 : (tF → tA → Int32 → Prop)} (F : tF) (A : tA) (x1 : Int32) (x2 : Int32) (x3 : Int32) (s0 : Int32) (s1 : Int32) (X : CX p s m args c yX7_winsByLooks.cls cX7_winsByLooks 4 D cI cZ cR adK adV A9) (ret : RTz p l e (rmN 6 139) s m args below meth c Q cX7_winsByLooks D A9 (fun (r : Int32) (u : (tF × tA)) => K r u.1 u.2) (fun (u : (tF × tA)) => (wX7 cI cZ o q u.1 u.2 : va_W))) (hB13 : ∀ (F : tF) (A : tA) (x3 : Int32) (H : Heap) (locs : List Loc) (ls : Array Slot), B13 F A x3 → va_P D vwCl (wX7 cI cZ o q F A : va_W) H → va_D A9 (wX7 cI cZ o q F A : va_W) → va_S A9 s.heap H locs → lv_has ls 4 [(0, .ref o), (1, .int x1), (2, .int x2), (3, .int x3)] → W p l e (rmN 6 139) s m args below meth c H locs 0 0 Q (F0 m 13 ls [])) (H : Heap) (locs : List Loc) (ls : Array Slot) (h : p_X7_winsByLooks_J54 F A B13 K x1 x2 x3 s0 s1) (hP : va_P D vwCl (wX7 cI cZ o q F A : va_W) H) (hD : va_D A9 (wX7 cI cZ o q F A : va_W)) (hS : va_S A9 s.heap H locs) (hl : lv_has ls 4 [(0, .ref o), (1, .int x1), (2, .int x2), (3, .int x3)]) : W p l e (rmN 6 139) s m args below meth c H locs 0 0 Q (F0 m 54 ls [.int s0, .int s1, .ref (q 0)]) := by
  obtain ⟨hx, hb, hml, ht, hown, hK, hA, hE⟩ := id X
  unfold p_X7_winsByLooks_J54 at h
  obtain ⟨hi54, h⟩ := h
  obtain ⟨f_54, ef_54⟩ : ∃ z : tF, z = (upd (A 0) (s1).toNatClampNeg s0) := ⟨_, rfl⟩
  replace h := h f_54 ef_54
  refine g_iast (f := (A 0)) (k := (s1).toNatClampNeg) hx hb hK hP hD hS 1 0 rfl rfl hi54 rfl ef_54 dX7_winsByLooks_54 (fun H locs hP hD hS => ?_)
  have hP : va_P D vwCl (wX7 cI cZ o q F (va_up A 0 f_54) : va_W) H := hP
  have hD : va_D A9 (wX7 cI cZ o q F (va_up A 0 f_54) : va_W) := hD
  obtain ⟨y55, ey55⟩ : ∃ y : Int32, y = (x3 + (1 : Int32)) := ⟨_, rfl⟩
  replace h := h y55 ey55
  refine lv_iinc (v := y55) (lv' := [(3, .int y55), (0, .ref o), (1, .int x1), (2, .int x2)]) hx hb dX7_winsByLooks_55 hl (k := 3) rfl (by rw [ey55]; rfl) (by decide) rfl (fun ls hl => ?_)
  refine lv_goto (tgt := 13) hx hb dX7_winsByLooks_58 (by decide) ?_
  exact hB13 F (va_up A 0 f_54) y55 _ _ _ h hP hD hS (lv_sub hl [1, 2, 3, 0] rfl)
def p_X7_winsByLooks_L13 (x1 : Int32) (x2 : Int32) (K : Int32 → tF → tA → Prop) : Nat → tF → tA → Int32 → Prop
  | 0, _, _, _ => False
  | n13 + 1, F, A, x3 => ((((A 0) 0) ≤ x3 → (p_X7_winner F A (fun r62 F_62 A_62 => ((¬ r62 = x2 → (p_X7_winsByLooks_J74 F_62 A_62 K (0 : Int32))) ∧ (r62 = x2 → (p_X7_winsByLooks_J74 F_62 A_62 K (1 : Int32))))))) ∧ (¬ ((A 0) 0) ≤ x3 → ((¬ ((x1 >>> (x3 &&& 31)) &&& (1 : Int32)) = (1 : Int32) → (p_X7_its F A x3 (3 : Int32) (fun r51 => (p_X7_winsByLooks_J54 F A (p_X7_winsByLooks_L13 x1 x2 K n13) K x1 x2 x3 r51 (((21 : Int32) + ((4 : Int32) * x3)) + (3 : Int32)))))) ∧ (((x1 >>> (x3 &&& 31)) &&& (1 : Int32)) = (1 : Int32) → (p_X7_winsByLooks_J54 F A (p_X7_winsByLooks_L13 x1 x2 K n13) K x1 x2 x3 x2 (((21 : Int32) + ((4 : Int32) * x3)) + (3 : Int32)))))))
set_option maxHeartbeats 4000000 in
set_option maxRecDepth 100000 in
theorem b_X7_winsByLooks_L13 {p : Program} {l : Launch} {e : Env} {s : State} {m : MethodId} {args : Array Value} {below : List Frame} {meth : Method} {c : Code} {Q : State → Prop} {D : va_G} {cI cZ cR : ClassId} {adK adV : Nat → Nat} {A9 : Nat → Prop} {o : Nat} {q : Nat → Nat} {K : Int32 → tF → tA → Prop}  (x1 : Int32) (x2 : Int32) (X : CX p s m args c yX7_winsByLooks.cls cX7_winsByLooks 4 D cI cZ cR adK adV A9) (ret : RTz p l e (rmN 6 139) s m args below meth c Q cX7_winsByLooks D A9 (fun (r : Int32) (u : (tF × tA)) => K r u.1 u.2) (fun (u : (tF × tA)) => (wX7 cI cZ o q u.1 u.2 : va_W)))   : ∀ (n : Nat) (F : tF) (A : tA) (x3 : Int32) (H : Heap) (locs : List Loc) (ls : Array Slot), p_X7_winsByLooks_L13 x1 x2 K n F A x3 → va_P D vwCl (wX7 cI cZ o q F A : va_W) H → va_D A9 (wX7 cI cZ o q F A : va_W) → va_S A9 s.heap H locs → lv_has ls 4 [(0, .ref o), (1, .int x1), (2, .int x2), (3, .int x3)] → W p l e (rmN 6 139) s m args below meth c H locs 0 0 Q (F0 m 13 ls []) := by
  obtain ⟨hx, hb, hml, ht, hown, hK, hA, hE⟩ := id X
  intro n
  induction n with
  | zero => intro F A x3 H locs ls h; exact False.elim h
  | succ n13 ih =>
    intro F A x3 H locs ls h hP hD hS hl
    rw [p_X7_winsByLooks_L13] at h
    refine lv_iload_n hx hb dX7_winsByLooks_13 rfl (lv_at hl 3 rfl) ?_
    refine lv_aload_n hx hb dX7_winsByLooks_14 rfl (lv_at hl 0 rfl) ?_
    refine va_get (C := RX7) (T := TX7) (N := 28) (own := RX7) (v := .ref (q 0)) hx hb ht inlX7 hown hK hP 0 rfl rfl 0 (Nat.le_of_ble_eq_true rfl) (ht _ mw_5_7) (fun _ h9 => h9) rfl dX7_winsByLooks_15 ?_
    refine lv_iconst (v := 0) hx hb dX7_winsByLooks_18 (by decide) ?_
    refine g_iald (f := (A 0)) (k := 0) hx hb hK hP 1 0 rfl rfl (vp_in_lit rfl : vp_in (0 : Int32) 53) (by decide) dX7_winsByLooks_19 ?_
    refine lv_icmp_ge (tgt := 61) hx hb dX7_winsByLooks_20 (by decide) (fun c20 => ?_) (fun c20 => ?_)
    · replace h := h.1 c20
      refine lv_aload_n hx hb dX7_winsByLooks_61 rfl (lv_at hl 0 rfl) ?_
      refine C_vi (wr := []) X hP hD hS [] [] (w_X7_winner l D cI cZ cR adK adV _ o q F A _ h) cal_X7_winner mw_33_20 rfl [0, 1, 2, 3, 4, 5, 6, 7, 8, 9, 10, 11, 12, 13, 14, 15] [] [0, 1, 2, 3, 4, 5, 6, 7, 8, 9, 10, 11, 12, 13, 14, 15] (fun u => (wX7 cI cZ o q u.1 u.2 : va_W)) rfl rfl (fun _ => rfl) rfl 0 rfl rfl ⟨rfl, rfl⟩ ⟨Nat.le_of_ble_eq_true rfl, Nat.le_of_ble_eq_true rfl⟩ hl.1 rfl (Nat.le_of_ble_eq_true rfl) ⟨Nat.zero_le _, Nat.zero_le _⟩ dX7_winsByLooks_62 (fun r62 u H locs h hP hD hS => ?_)
      obtain ⟨F_62, A_62⟩ := u
      try dsimp only at h
      have hP : va_P D vwCl (wX7 cI cZ o q F_62 A_62 : va_W) H := hP
      have hD : va_D A9 (wX7 cI cZ o q F_62 A_62 : va_W) := hD
      refine lv_iload_n hx hb dX7_winsByLooks_65 rfl (lv_at hl 2 rfl) ?_
      refine lv_icmp_ne (tgt := 73) hx hb dX7_winsByLooks_66 (by decide) (fun c66 => ?_) (fun c66 => ?_)
      · replace h := h.1 c66
        refine lv_iconst (v := 0) hx hb dX7_winsByLooks_73 (by decide) ?_
        exact b_X7_winsByLooks_J74 F_62 A_62 (0 : Int32) X ret  _ _ _ h hP hD hS (lv_sub hl [0] rfl)
      · replace h := h.2 c66
        refine lv_iconst (v := 1) hx hb dX7_winsByLooks_69 (by decide) ?_
        refine lv_goto (tgt := 74) hx hb dX7_winsByLooks_70 (by decide) ?_
        exact b_X7_winsByLooks_J74 F_62 A_62 (1 : Int32) X ret  _ _ _ h hP hD hS (lv_sub hl [0] rfl)
    · replace h := h.2 c20
      refine lv_aload_n hx hb dX7_winsByLooks_23 rfl (lv_at hl 0 rfl) ?_
      refine va_get (C := RX7) (T := TX7) (N := 28) (own := RX7) (v := .ref (q 0)) hx hb ht inlX7 hown hK hP 0 rfl rfl 0 (Nat.le_of_ble_eq_true rfl) (ht _ mw_5_7) (fun _ h9 => h9) rfl dX7_winsByLooks_24 ?_
      refine lv_bipush (v := 21) hx hb dX7_winsByLooks_27 (by decide) ?_
      refine lv_iconst (v := 4) hx hb dX7_winsByLooks_29 (by decide) ?_
      refine lv_iload_n hx hb dX7_winsByLooks_30 rfl (lv_at hl 3 rfl) ?_
      refine lv_imul hx hb dX7_winsByLooks_31 ?_
      refine lv_iadd hx hb dX7_winsByLooks_32 ?_
      refine lv_iconst (v := 3) hx hb dX7_winsByLooks_33 (by decide) ?_
      refine lv_iadd hx hb dX7_winsByLooks_34 ?_
      refine lv_iload_n hx hb dX7_winsByLooks_35 rfl (lv_at hl 1 rfl) ?_
      refine lv_iload_n hx hb dX7_winsByLooks_36 rfl (lv_at hl 3 rfl) ?_
      refine lv_ishr hx hb dX7_winsByLooks_37 ?_
      refine lv_iconst (v := 1) hx hb dX7_winsByLooks_38 (by decide) ?_
      refine lv_iand hx hb dX7_winsByLooks_39 ?_
      refine lv_iconst (v := 1) hx hb dX7_winsByLooks_40 (by decide) ?_
      refine lv_icmp_ne (tgt := 48) hx hb dX7_winsByLooks_41 (by decide) (fun c41 => ?_) (fun c41 => ?_)
      · replace h := h.1 c41
        refine lv_aload_n hx hb dX7_winsByLooks_48 rfl (lv_at hl 0 rfl) ?_
        refine lv_iload_n hx hb dX7_winsByLooks_49 rfl (lv_at hl 3 rfl) ?_
        refine lv_iconst (v := 3) hx hb dX7_winsByLooks_50 (by decide) ?_
        refine C_vi (wr := []) X hP hD hS [.int x3, .int (3 : Int32)] [.int (((21 : Int32) + ((4 : Int32) * x3)) + (3 : Int32)), .ref (q 0)] (w_X7_its l D cI cZ cR adK adV _ o q F A x3 (3 : Int32) _ h) cal_X7_its mw_18_16 rfl [0, 1, 2, 3, 4, 5, 6, 7, 8, 9, 10, 11, 12, 13, 14, 15] [] [0, 1, 2, 3, 4, 5, 6, 7, 8, 9, 10, 11, 12, 13, 14, 15] (fun u => (wX7 cI cZ o q F A : va_W)) rfl rfl (fun _ => rfl) rfl 0 rfl rfl ⟨rfl, rfl⟩ ⟨Nat.le_of_ble_eq_true rfl, Nat.le_of_ble_eq_true rfl⟩ hl.1 rfl (Nat.le_of_ble_eq_true rfl) ⟨Nat.zero_le _, Nat.zero_le _⟩ dX7_winsByLooks_51 (fun r51 u H locs h hP hD hS => ?_)
        exact b_X7_winsByLooks_J54 F A x1 x2 x3 r51 (((21 : Int32) + ((4 : Int32) * x3)) + (3 : Int32)) X ret ih _ _ _ h hP hD hS (lv_sub hl [0, 1, 2, 3] rfl)
      · replace h := h.2 c41
        refine lv_iload_n hx hb dX7_winsByLooks_44 rfl (lv_at hl 2 rfl) ?_
        refine lv_goto (tgt := 54) hx hb dX7_winsByLooks_45 (by decide) ?_
        exact b_X7_winsByLooks_J54 F A x1 x2 x3 x2 (((21 : Int32) + ((4 : Int32) * x3)) + (3 : Int32)) X ret ih _ _ _ h hP hD hS (lv_sub hl [0, 1, 2, 3] rfl)
def p_X7_winsByLooks (F : tF) (A : tA) (x1 : Int32) (x2 : Int32) (K : Int32 → tF → tA → Prop) : Prop := (p_X7_copyRow 53 (A 0) 53 (A 2) (fun g0_8 => (∃ n13, p_X7_winsByLooks_L13 x1 x2 K n13 F (va_up A 2 g0_8) (0 : Int32))))
set_option maxHeartbeats 4000000 in
set_option maxRecDepth 100000 in
theorem w_X7_winsByLooks (l : Launch) (D : va_G) (cI cZ cR : ClassId) (adK adV : Nat → Nat) (sz : Nat) (o : Nat) (q : Nat → Nat) (F : tF) (A : tA) (x1 : Int32) (x2 : Int32) (K : Int32 → tF → tA → Prop) (h : p_X7_winsByLooks F A x1 x2 K) : MI l D cI cZ cR adK adV yX7_winsByLooks cX7_winsByLooks 4 (some .boolean) (rmN 6 139) [.ref o, .int x1, .int x2] (wX7 cI cZ o q F A : va_W) sz (fun (r : Int32) (u : (tF × tA)) => K r u.1 u.2) (fun (u : (tF × tA)) => (wX7 cI cZ o q u.1 u.2 : va_W)) := by
  refine M_z (by decide +kernel) (Nat.le_of_ble_eq_true rfl) ?_
  intro p e s m args below meth c Q A9 ls X ret hP hD hS hl
  obtain ⟨hx, hb, hml, ht, hown, hK, hA, hE⟩ := id X
  have hl : lv_has ls 4 [(0, .ref o), (1, .int x1), (2, .int x2)] := hl
  unfold p_X7_winsByLooks at h
  refine lv_aload_n hx hb dX7_winsByLooks_0 rfl (lv_at hl 0 rfl) ?_
  refine va_get (C := RX7) (T := TX7) (N := 28) (own := RX7) (v := .ref (q 0)) hx hb ht inlX7 hown hK hP 0 rfl rfl 0 (Nat.le_of_ble_eq_true rfl) (ht _ mw_5_7) (fun _ h9 => h9) rfl dX7_winsByLooks_1 ?_
  refine lv_aload_n hx hb dX7_winsByLooks_4 rfl (lv_at hl 0 rfl) ?_
  refine va_get (C := RX7) (T := TX7) (N := 28) (own := RX7) (v := .ref (q 2)) hx hb ht inlX7 hown hK hP 0 rfl rfl 2 (Nat.le_of_ble_eq_true rfl) (ht _ mw_5_9) (fun _ h9 => h9) rfl dX7_winsByLooks_5 ?_
  refine C_sv (wr := [0, 2, 4, 5, 6, 7, 8, 9, 10, 11, 12, 13, 14, 15].filterMap (fun i => (wX7 cI cZ o q F A : va_W)[i]?)) X hP hD hS [.ref (q 0), .ref (q 2)] [] (w_X7_copyRow l D cI cZ cR adK adV _ (q 0) (q 2) 53 (A 0) 53 (A 2) _ h) cal_X7_copyRow mw_12_6 rfl [1, 3] [0, 2, 4, 5, 6, 7, 8, 9, 10, 11, 12, 13, 14, 15] [0, 14, 1, 15, 2, 3, 4, 5, 6, 7, 8, 9, 10, 11, 12, 13] (fun u => (wX7 cI cZ o q F (va_up A 2 u) : va_W)) rfl rfl (fun _ => rfl) rfl ⟨rfl, rfl⟩ ⟨Nat.le_of_ble_eq_true rfl, Nat.le_of_ble_eq_true rfl⟩ hl.1 rfl (Nat.le_of_ble_eq_true rfl) ⟨Nat.zero_le _, Nat.zero_le _⟩ dX7_winsByLooks_8 (fun u H locs h hP hD hS => ?_)
  obtain ⟨g0_8, rfl⟩ : ∃ z, z = u := ⟨_, rfl⟩
  try dsimp only at h
  have hP : va_P D vwCl (wX7 cI cZ o q F (va_up A 2 g0_8) : va_W) H := hP
  have hD : va_D A9 (wX7 cI cZ o q F (va_up A 2 g0_8) : va_W) := hD
  refine lv_iconst (v := 0) hx hb dX7_winsByLooks_11 (by decide) ?_
  refine lv_istore_n (lv' := [(3, .int (0 : Int32)), (0, .ref o), (1, .int x1), (2, .int x2)]) hx hb dX7_winsByLooks_12 rfl hl (by decide) rfl (fun ls hl => ?_)
  obtain ⟨n13, h⟩ := h
  exact b_X7_winsByLooks_L13 x1 x2 X ret  n13 F (va_up A 2 g0_8) (0 : Int32) _ _ _ h hP hD hS (lv_sub hl [1, 2, 3, 0] rfl)
theorem cal_X7_size : CalS yX7_size cX7_size 3 (some .int) 1 := ⟨mw_33_15, mw_1_5, mw_33_14, ⟨by decide +kernel, by decide +kernel, by decide +kernel⟩⟩
theorem cal_X7_winsByLooks : CalV yX7_winsByLooks cX7_winsByLooks 4 (some .boolean) 2 := ⟨mw_33_19, mw_1_5, mw_33_17, mw_33_18, ⟨by decide +kernel, by decide +kernel, by decide +kernel⟩⟩
theorem dX7_looksFor_0 : decode cX7_looksFor 0 = .ok (.iload_n 1, 1) := by decide +kernel
theorem dX7_looksFor_1 : decode cX7_looksFor 1 = .ok (.invokestatic 166, 3) := by decide +kernel
theorem dX7_looksFor_4 : decode cX7_looksFor 4 = .ok (.ifCond .ne 5, 3) := by decide +kernel
theorem dX7_looksFor_7 : decode cX7_looksFor 7 = .ok (.iconst (-1), 1) := by decide +kernel
theorem dX7_looksFor_8 : decode cX7_looksFor 8 = .ok (.ireturn, 1) := by decide +kernel
theorem dX7_looksFor_9 : decode cX7_looksFor 9 = .ok (.bipush (-3), 2) := by decide +kernel
theorem dX7_looksFor_11 : decode cX7_looksFor 11 = .ok (.istore_n 2, 1) := by decide +kernel
theorem dX7_looksFor_12 : decode cX7_looksFor 12 = .ok (.iconst 0, 1) := by decide +kernel
theorem dX7_looksFor_13 : decode cX7_looksFor 13 = .ok (.istore_n 3, 1) := by decide +kernel
theorem dX7_looksFor_14 : decode cX7_looksFor 14 = .ok (.iload_n 3, 1) := by decide +kernel
theorem dX7_looksFor_15 : decode cX7_looksFor 15 = .ok (.iconst 1, 1) := by decide +kernel
theorem dX7_looksFor_16 : decode cX7_looksFor 16 = .ok (.aload_n 0, 1) := by decide +kernel
theorem dX7_looksFor_17 : decode cX7_looksFor 17 = .ok (.getfield 7, 3) := by decide +kernel
theorem dX7_looksFor_20 : decode cX7_looksFor 20 = .ok (.iconst 0, 1) := by decide +kernel
theorem dX7_looksFor_21 : decode cX7_looksFor 21 = .ok (.iaload, 1) := by decide +kernel
theorem dX7_looksFor_22 : decode cX7_looksFor 22 = .ok (.ishl, 1) := by decide +kernel
theorem dX7_looksFor_23 : decode cX7_looksFor 23 = .ok (.if_icmp .ge 39, 3) := by decide +kernel
theorem dX7_looksFor_26 : decode cX7_looksFor 26 = .ok (.iload_n 2, 1) := by decide +kernel
theorem dX7_looksFor_27 : decode cX7_looksFor 27 = .ok (.ifCond .lt 14, 3) := by decide +kernel
theorem dX7_looksFor_30 : decode cX7_looksFor 30 = .ok (.iload_n 3, 1) := by decide +kernel
theorem dX7_looksFor_31 : decode cX7_looksFor 31 = .ok (.invokestatic 244, 3) := by decide +kernel
theorem dX7_looksFor_34 : decode cX7_looksFor 34 = .ok (.iload_n 2, 1) := by decide +kernel
theorem dX7_looksFor_35 : decode cX7_looksFor 35 = .ok (.invokestatic 244, 3) := by decide +kernel
theorem dX7_looksFor_38 : decode cX7_looksFor 38 = .ok (.if_icmp .ge 16, 3) := by decide +kernel
theorem dX7_looksFor_41 : decode cX7_looksFor 41 = .ok (.aload_n 0, 1) := by decide +kernel
theorem dX7_looksFor_42 : decode cX7_looksFor 42 = .ok (.iload_n 3, 1) := by decide +kernel
theorem dX7_looksFor_43 : decode cX7_looksFor 43 = .ok (.iload_n 1, 1) := by decide +kernel
theorem dX7_looksFor_44 : decode cX7_looksFor 44 = .ok (.invokevirtual 247, 3) := by decide +kernel
theorem dX7_looksFor_47 : decode cX7_looksFor 47 = .ok (.ifCond .eq 7, 3) := by decide +kernel
theorem dX7_looksFor_50 : decode cX7_looksFor 50 = .ok (.iload_n 3, 1) := by decide +kernel
theorem dX7_looksFor_51 : decode cX7_looksFor 51 = .ok (.goto 4, 3) := by decide +kernel
theorem dX7_looksFor_54 : decode cX7_looksFor 54 = .ok (.iload_n 2, 1) := by decide +kernel
theorem dX7_looksFor_55 : decode cX7_looksFor 55 = .ok (.istore_n 2, 1) := by decide +kernel
theorem dX7_looksFor_56 : decode cX7_looksFor 56 = .ok (.iinc 3 1, 3) := by decide +kernel
theorem dX7_looksFor_59 : decode cX7_looksFor 59 = .ok (.goto (-45), 3) := by decide +kernel
theorem dX7_looksFor_62 : decode cX7_looksFor 62 = .ok (.iload_n 2, 1) := by decide +kernel
theorem dX7_looksFor_63 : decode cX7_looksFor 63 = .ok (.ireturn, 1) := by decide +kernel
def p_X7_looksFor_J55 (F : tF) (A : tA) (B14 : (tF → tA → Int32 → Int32 → Prop)) (K : Int32 → tF → tA → Prop) (x1 : Int32) (x3 : Int32) (s0 : Int32) : Prop := (∀ y56 : Int32, y56 = (x3 + (1 : Int32)) → (B14 F A s0 y56))
set_option maxHeartbeats 4000000 in
set_option maxRecDepth 100000 in
theorem b_X7_looksFor_J55 {p : Program} {l : Launch} {e : Env} {s : State} {m : MethodId} {args : Array Value} {below : List Frame} {meth : Method} {c : Code} {Q : State → Prop} {D : va_G} {cI cZ cR : ClassId} {adK adV : Nat → Nat} {A9 : Nat → Prop} {o : Nat} {q : Nat → Nat} {K : Int32 → tF → tA → Prop} {B14 : (tF → tA → Int32 → Int32 → Prop)} (F : tF) (A : tA) (x1 : Int32) (x3 : Int32) (s0 : Int32) (X : CX p s m args c yX7_looksFor.cls cX7_looksFor 4 D cI cZ cR adK adV A9) (ret : RTi p l e (rmN 7 162) s m args below meth c Q cX7_looksFor D A9 (fun (r : Int32) (u : (tF × tA)) => K r u.1 u.2) (fun (u : (tF × tA)) => (wX7 cI cZ o q u.1 u.2 : va_W))) (hB14 : ∀ (F : tF) (A : tA) (x2 : Int32) (x3 : Int32) (H : Heap) (locs : List Loc) (ls : Array Slot), B14 F A x2 x3 → va_P D vwCl (wX7 cI cZ o q F A : va_W) H → va_D A9 (wX7 cI cZ o q F A : va_W) → va_S A9 s.heap H locs → lv_has ls 4 [(0, .ref o), (1, .int x1), (2, .int x2), (3, .int x3)] → W p l e (rmN 7 162) s m args below meth c H locs 0 0 Q (F0 m 14 ls [])) (H : Heap) (locs : List Loc) (ls : Array Slot) (h : p_X7_looksFor_J55 F A B14 K x1 x3 s0) (hP : va_P D vwCl (wX7 cI cZ o q F A : va_W) H) (hD : va_D A9 (wX7 cI cZ o q F A : va_W)) (hS : va_S A9 s.heap H locs) (hl : lv_has ls 4 [(0, .ref o), (1, .int x1), (3, .int x3)]) : W p l e (rmN 7 162) s m args below meth c H locs 0 0 Q (F0 m 55 ls [.int s0]) := by
  obtain ⟨hx, hb, hml, ht, hown, hK, hA, hE⟩ := id X
  unfold p_X7_looksFor_J55 at h
  refine lv_istore_n (lv' := [(2, .int s0), (0, .ref o), (1, .int x1), (3, .int x3)]) hx hb dX7_looksFor_55 rfl hl (by decide) rfl (fun ls hl => ?_)
  obtain ⟨y56, ey56⟩ : ∃ y : Int32, y = (x3 + (1 : Int32)) := ⟨_, rfl⟩
  replace h := h y56 ey56
  refine lv_iinc (v := y56) (lv' := [(3, .int y56), (2, .int s0), (0, .ref o), (1, .int x1)]) hx hb dX7_looksFor_56 hl (k := 3) rfl (by rw [ey56]; rfl) (by decide) rfl (fun ls hl => ?_)
  refine lv_goto (tgt := 14) hx hb dX7_looksFor_59 (by decide) ?_
  exact hB14 F A s0 y56 _ _ _ h hP hD hS (lv_sub hl [2, 3, 1, 0] rfl)
def p_X7_looksFor_J54 (F : tF) (A : tA) (B14 : (tF → tA → Int32 → Int32 → Prop)) (K : Int32 → tF → tA → Prop) (x1 : Int32) (x2 : Int32) (x3 : Int32) : Prop := (p_X7_looksFor_J55 F A B14 K x1 x3 x2)
set_option maxHeartbeats 4000000 in
set_option maxRecDepth 100000 in
theorem b_X7_looksFor_J54 {p : Program} {l : Launch} {e : Env} {s : State} {m : MethodId} {args : Array Value} {below : List Frame} {meth : Method} {c : Code} {Q : State → Prop} {D : va_G} {cI cZ cR : ClassId} {adK adV : Nat → Nat} {A9 : Nat → Prop} {o : Nat} {q : Nat → Nat} {K : Int32 → tF → tA → Prop} {B14 : (tF → tA → Int32 → Int32 → Prop)} (F : tF) (A : tA) (x1 : Int32) (x2 : Int32) (x3 : Int32) (X : CX p s m args c yX7_looksFor.cls cX7_looksFor 4 D cI cZ cR adK adV A9) (ret : RTi p l e (rmN 7 162) s m args below meth c Q cX7_looksFor D A9 (fun (r : Int32) (u : (tF × tA)) => K r u.1 u.2) (fun (u : (tF × tA)) => (wX7 cI cZ o q u.1 u.2 : va_W))) (hB14 : ∀ (F : tF) (A : tA) (x2 : Int32) (x3 : Int32) (H : Heap) (locs : List Loc) (ls : Array Slot), B14 F A x2 x3 → va_P D vwCl (wX7 cI cZ o q F A : va_W) H → va_D A9 (wX7 cI cZ o q F A : va_W) → va_S A9 s.heap H locs → lv_has ls 4 [(0, .ref o), (1, .int x1), (2, .int x2), (3, .int x3)] → W p l e (rmN 7 162) s m args below meth c H locs 0 0 Q (F0 m 14 ls [])) (H : Heap) (locs : List Loc) (ls : Array Slot) (h : p_X7_looksFor_J54 F A B14 K x1 x2 x3) (hP : va_P D vwCl (wX7 cI cZ o q F A : va_W) H) (hD : va_D A9 (wX7 cI cZ o q F A : va_W)) (hS : va_S A9 s.heap H locs) (hl : lv_has ls 4 [(0, .ref o), (1, .int x1), (2, .int x2), (3, .int x3)]) : W p l e (rmN 7 162) s m args below meth c H locs 0 0 Q (F0 m 54 ls []) := by
  obtain ⟨hx, hb, hml, ht, hown, hK, hA, hE⟩ := id X
  unfold p_X7_looksFor_J54 at h
  refine lv_iload_n hx hb dX7_looksFor_54 rfl (lv_at hl 2 rfl) ?_
  exact b_X7_looksFor_J55 F A x1 x3 x2 X ret hB14 _ _ _ h hP hD hS (lv_sub hl [0, 1, 3] rfl)
def p_X7_looksFor_J41 (F : tF) (A : tA) (B14 : (tF → tA → Int32 → Int32 → Prop)) (K : Int32 → tF → tA → Prop) (x1 : Int32) (x2 : Int32) (x3 : Int32) : Prop := (p_X7_winsByLooks F A x3 x1 (fun r44 F_44 A_44 => ((r44 = 0 → (p_X7_looksFor_J54 F_44 A_44 B14 K x1 x2 x3)) ∧ (¬ r44 = 0 → (p_X7_looksFor_J55 F_44 A_44 B14 K x1 x3 x3)))))
set_option maxHeartbeats 4000000 in
set_option maxRecDepth 100000 in
theorem b_X7_looksFor_J41 {p : Program} {l : Launch} {e : Env} {s : State} {m : MethodId} {args : Array Value} {below : List Frame} {meth : Method} {c : Code} {Q : State → Prop} {D : va_G} {cI cZ cR : ClassId} {adK adV : Nat → Nat} {A9 : Nat → Prop} {o : Nat} {q : Nat → Nat} {K : Int32 → tF → tA → Prop} {B14 : (tF → tA → Int32 → Int32 → Prop)} (F : tF) (A : tA) (x1 : Int32) (x2 : Int32) (x3 : Int32) (X : CX p s m args c yX7_looksFor.cls cX7_looksFor 4 D cI cZ cR adK adV A9) (ret : RTi p l e (rmN 7 162) s m args below meth c Q cX7_looksFor D A9 (fun (r : Int32) (u : (tF × tA)) => K r u.1 u.2) (fun (u : (tF × tA)) => (wX7 cI cZ o q u.1 u.2 : va_W))) (hB14 : ∀ (F : tF) (A : tA) (x2 : Int32) (x3 : Int32) (H : Heap) (locs : List Loc) (ls : Array Slot), B14 F A x2 x3 → va_P D vwCl (wX7 cI cZ o q F A : va_W) H → va_D A9 (wX7 cI cZ o q F A : va_W) → va_S A9 s.heap H locs → lv_has ls 4 [(0, .ref o), (1, .int x1), (2, .int x2), (3, .int x3)] → W p l e (rmN 7 162) s m args below meth c H locs 0 0 Q (F0 m 14 ls [])) (H : Heap) (locs : List Loc) (ls : Array Slot) (h : p_X7_looksFor_J41 F A B14 K x1 x2 x3) (hP : va_P D vwCl (wX7 cI cZ o q F A : va_W) H) (hD : va_D A9 (wX7 cI cZ o q F A : va_W)) (hS : va_S A9 s.heap H locs) (hl : lv_has ls 4 [(0, .ref o), (1, .int x1), (2, .int x2), (3, .int x3)]) : W p l e (rmN 7 162) s m args below meth c H locs 0 0 Q (F0 m 41 ls []) := by
  obtain ⟨hx, hb, hml, ht, hown, hK, hA, hE⟩ := id X
  unfold p_X7_looksFor_J41 at h
  refine lv_aload_n hx hb dX7_looksFor_41 rfl (lv_at hl 0 rfl) ?_
  refine lv_iload_n hx hb dX7_looksFor_42 rfl (lv_at hl 3 rfl) ?_
  refine lv_iload_n hx hb dX7_looksFor_43 rfl (lv_at hl 1 rfl) ?_
  refine C_vi (wr := []) X hP hD hS [.int x3, .int x1] [] (w_X7_winsByLooks l D cI cZ cR adK adV _ o q F A x3 x1 _ h) cal_X7_winsByLooks mw_33_16 rfl [0, 1, 2, 3, 4, 5, 6, 7, 8, 9, 10, 11, 12, 13, 14, 15] [] [0, 1, 2, 3, 4, 5, 6, 7, 8, 9, 10, 11, 12, 13, 14, 15] (fun u => (wX7 cI cZ o q u.1 u.2 : va_W)) rfl rfl (fun _ => rfl) rfl 0 rfl rfl ⟨rfl, rfl⟩ ⟨Nat.le_of_ble_eq_true rfl, Nat.le_of_ble_eq_true rfl⟩ hl.1 rfl (Nat.le_of_ble_eq_true rfl) ⟨Nat.zero_le _, Nat.zero_le _⟩ dX7_looksFor_44 (fun r44 u H locs h hP hD hS => ?_)
  obtain ⟨F_44, A_44⟩ := u
  try dsimp only at h
  have hP : va_P D vwCl (wX7 cI cZ o q F_44 A_44 : va_W) H := hP
  have hD : va_D A9 (wX7 cI cZ o q F_44 A_44 : va_W) := hD
  refine lv_if_eq (tgt := 54) hx hb dX7_looksFor_47 (by decide) (fun c47 => ?_) (fun c47 => ?_)
  · replace h := h.1 c47
    exact b_X7_looksFor_J54 F_44 A_44 x1 x2 x3 X ret hB14 _ _ _ h hP hD hS (lv_sub hl [0, 1, 2, 3] rfl)
  · replace h := h.2 c47
    refine lv_iload_n hx hb dX7_looksFor_50 rfl (lv_at hl 3 rfl) ?_
    refine lv_goto (tgt := 55) hx hb dX7_looksFor_51 (by decide) ?_
    exact b_X7_looksFor_J55 F_44 A_44 x1 x3 x3 X ret hB14 _ _ _ h hP hD hS (lv_sub hl [0, 1, 3] rfl)
def p_X7_looksFor_L14 (x1 : Int32) (K : Int32 → tF → tA → Prop) : Nat → tF → tA → Int32 → Int32 → Prop
  | 0, _, _, _, _ => False
  | n14 + 1, F, A, x2, x3 => ((((1 : Int32) <<< (((A 0) 0) &&& 31)) ≤ x3 → (K x2 F A)) ∧ (¬ ((1 : Int32) <<< (((A 0) 0) &&& 31)) ≤ x3 → ((x2 < 0 → (p_X7_looksFor_J41 F A (p_X7_looksFor_L14 x1 K n14) K x1 x2 x3)) ∧ (¬ x2 < 0 → (p_X7_size x3 (fun r31 => (p_X7_size x2 (fun r35 => ((r35 ≤ r31 → (p_X7_looksFor_J54 F A (p_X7_looksFor_L14 x1 K n14) K x1 x2 x3)) ∧ (¬ r35 ≤ r31 → (p_X7_looksFor_J41 F A (p_X7_looksFor_L14 x1 K n14) K x1 x2 x3)))))))))))
set_option maxHeartbeats 4000000 in
set_option maxRecDepth 100000 in
theorem b_X7_looksFor_L14 {p : Program} {l : Launch} {e : Env} {s : State} {m : MethodId} {args : Array Value} {below : List Frame} {meth : Method} {c : Code} {Q : State → Prop} {D : va_G} {cI cZ cR : ClassId} {adK adV : Nat → Nat} {A9 : Nat → Prop} {o : Nat} {q : Nat → Nat} {K : Int32 → tF → tA → Prop}  (x1 : Int32) (X : CX p s m args c yX7_looksFor.cls cX7_looksFor 4 D cI cZ cR adK adV A9) (ret : RTi p l e (rmN 7 162) s m args below meth c Q cX7_looksFor D A9 (fun (r : Int32) (u : (tF × tA)) => K r u.1 u.2) (fun (u : (tF × tA)) => (wX7 cI cZ o q u.1 u.2 : va_W)))   : ∀ (n : Nat) (F : tF) (A : tA) (x2 : Int32) (x3 : Int32) (H : Heap) (locs : List Loc) (ls : Array Slot), p_X7_looksFor_L14 x1 K n F A x2 x3 → va_P D vwCl (wX7 cI cZ o q F A : va_W) H → va_D A9 (wX7 cI cZ o q F A : va_W) → va_S A9 s.heap H locs → lv_has ls 4 [(0, .ref o), (1, .int x1), (2, .int x2), (3, .int x3)] → W p l e (rmN 7 162) s m args below meth c H locs 0 0 Q (F0 m 14 ls []) := by
  obtain ⟨hx, hb, hml, ht, hown, hK, hA, hE⟩ := id X
  intro n
  induction n with
  | zero => intro F A x2 x3 H locs ls h; exact False.elim h
  | succ n14 ih =>
    intro F A x2 x3 H locs ls h hP hD hS hl
    rw [p_X7_looksFor_L14] at h
    refine lv_iload_n hx hb dX7_looksFor_14 rfl (lv_at hl 3 rfl) ?_
    refine lv_iconst (v := 1) hx hb dX7_looksFor_15 (by decide) ?_
    refine lv_aload_n hx hb dX7_looksFor_16 rfl (lv_at hl 0 rfl) ?_
    refine va_get (C := RX7) (T := TX7) (N := 28) (own := RX7) (v := .ref (q 0)) hx hb ht inlX7 hown hK hP 0 rfl rfl 0 (Nat.le_of_ble_eq_true rfl) (ht _ mw_5_7) (fun _ h9 => h9) rfl dX7_looksFor_17 ?_
    refine lv_iconst (v := 0) hx hb dX7_looksFor_20 (by decide) ?_
    refine g_iald (f := (A 0)) (k := 0) hx hb hK hP 1 0 rfl rfl (vp_in_lit rfl : vp_in (0 : Int32) 53) (by decide) dX7_looksFor_21 ?_
    refine lv_ishl hx hb dX7_looksFor_22 ?_
    refine lv_icmp_ge (tgt := 62) hx hb dX7_looksFor_23 (by decide) (fun c23 => ?_) (fun c23 => ?_)
    · replace h := h.1 c23
      refine lv_iload_n hx hb dX7_looksFor_62 rfl (lv_at hl 2 rfl) ?_
      exact ret _ (F, A) _ _ _ _ dX7_looksFor_63 h hP hD hS
    · replace h := h.2 c23
      refine lv_iload_n hx hb dX7_looksFor_26 rfl (lv_at hl 2 rfl) ?_
      refine lv_if_lt (tgt := 41) hx hb dX7_looksFor_27 (by decide) (fun c27 => ?_) (fun c27 => ?_)
      · replace h := h.1 c27
        exact b_X7_looksFor_J41 F A x1 x2 x3 X ret ih _ _ _ h hP hD hS (lv_sub hl [0, 1, 2, 3] rfl)
      · replace h := h.2 c27
        refine lv_iload_n hx hb dX7_looksFor_30 rfl (lv_at hl 3 rfl) ?_
        refine C_si (wr := [0, 1, 2, 3, 4, 5, 6, 7, 8, 9, 10, 11, 12, 13, 14, 15].filterMap (fun i => (wX7 cI cZ o q F A : va_W)[i]?)) X hP hD hS [.int x3] [] (w_X7_size l D cI cZ cR adK adV _ x3 _ h) cal_X7_size mw_33_13 rfl [] [0, 1, 2, 3, 4, 5, 6, 7, 8, 9, 10, 11, 12, 13, 14, 15] [0, 1, 2, 3, 4, 5, 6, 7, 8, 9, 10, 11, 12, 13, 14, 15] (fun u => (wX7 cI cZ o q F A : va_W)) rfl rfl (fun _ => rfl) rfl ⟨rfl, rfl⟩ ⟨Nat.le_of_ble_eq_true rfl, Nat.le_of_ble_eq_true rfl⟩ hl.1 rfl (Nat.le_of_ble_eq_true rfl) ⟨Nat.zero_le _, Nat.zero_le _⟩ dX7_looksFor_31 (fun r31 u H locs h hP hD hS => ?_)
        refine lv_iload_n hx hb dX7_looksFor_34 rfl (lv_at hl 2 rfl) ?_
        refine C_si (wr := [0, 1, 2, 3, 4, 5, 6, 7, 8, 9, 10, 11, 12, 13, 14, 15].filterMap (fun i => (wX7 cI cZ o q F A : va_W)[i]?)) X hP hD hS [.int x2] [.int r31] (w_X7_size l D cI cZ cR adK adV _ x2 _ h) cal_X7_size mw_33_13 rfl [] [0, 1, 2, 3, 4, 5, 6, 7, 8, 9, 10, 11, 12, 13, 14, 15] [0, 1, 2, 3, 4, 5, 6, 7, 8, 9, 10, 11, 12, 13, 14, 15] (fun u => (wX7 cI cZ o q F A : va_W)) rfl rfl (fun _ => rfl) rfl ⟨rfl, rfl⟩ ⟨Nat.le_of_ble_eq_true rfl, Nat.le_of_ble_eq_true rfl⟩ hl.1 rfl (Nat.le_of_ble_eq_true rfl) ⟨Nat.zero_le _, Nat.zero_le _⟩ dX7_looksFor_35 (fun r35 u H locs h hP hD hS => ?_)
        refine lv_icmp_ge (tgt := 54) hx hb dX7_looksFor_38 (by decide) (fun c38 => ?_) (fun c38 => ?_)
        · replace h := h.1 c38
          exact b_X7_looksFor_J54 F A x1 x2 x3 X ret ih _ _ _ h hP hD hS (lv_sub hl [0, 1, 2, 3] rfl)
        · replace h := h.2 c38
          exact b_X7_looksFor_J41 F A x1 x2 x3 X ret ih _ _ _ h hP hD hS (lv_sub hl [0, 1, 2, 3] rfl)
def p_X7_looksFor (F : tF) (A : tA) (x1 : Int32) (K : Int32 → tF → tA → Prop) : Prop := (p_X7_isPlace x1 (fun r1 => ((¬ r1 = 0 → (∃ n14, p_X7_looksFor_L14 x1 K n14 F A (-3 : Int32) (0 : Int32))) ∧ (r1 = 0 → (K (-1 : Int32) F A)))))
set_option maxHeartbeats 4000000 in
set_option maxRecDepth 100000 in
theorem w_X7_looksFor (l : Launch) (D : va_G) (cI cZ cR : ClassId) (adK adV : Nat → Nat) (sz : Nat) (o : Nat) (q : Nat → Nat) (F : tF) (A : tA) (x1 : Int32) (K : Int32 → tF → tA → Prop) (h : p_X7_looksFor F A x1 K) : MI l D cI cZ cR adK adV yX7_looksFor cX7_looksFor 4 (some .int) (rmN 7 162) [.ref o, .int x1] (wX7 cI cZ o q F A : va_W) sz (fun (r : Int32) (u : (tF × tA)) => K r u.1 u.2) (fun (u : (tF × tA)) => (wX7 cI cZ o q u.1 u.2 : va_W)) := by
  refine M_i (by decide +kernel) (Nat.le_of_ble_eq_true rfl) ?_
  intro p e s m args below meth c Q A9 ls X ret hP hD hS hl
  obtain ⟨hx, hb, hml, ht, hown, hK, hA, hE⟩ := id X
  have hl : lv_has ls 4 [(0, .ref o), (1, .int x1)] := hl
  unfold p_X7_looksFor at h
  refine lv_iload_n hx hb dX7_looksFor_0 rfl (lv_at hl 1 rfl) ?_
  refine C_si (wr := [0, 1, 2, 3, 4, 5, 6, 7, 8, 9, 10, 11, 12, 13, 14, 15].filterMap (fun i => (wX7 cI cZ o q F A : va_W)[i]?)) X hP hD hS [.int x1] [] (w_X7_isPlace l D cI cZ cR adK adV _ x1 _ h) cal_X7_isPlace mw_16_21 rfl [] [0, 1, 2, 3, 4, 5, 6, 7, 8, 9, 10, 11, 12, 13, 14, 15] [0, 1, 2, 3, 4, 5, 6, 7, 8, 9, 10, 11, 12, 13, 14, 15] (fun u => (wX7 cI cZ o q F A : va_W)) rfl rfl (fun _ => rfl) rfl ⟨rfl, rfl⟩ ⟨Nat.le_of_ble_eq_true rfl, Nat.le_of_ble_eq_true rfl⟩ hl.1 rfl (Nat.le_of_ble_eq_true rfl) ⟨Nat.zero_le _, Nat.zero_le _⟩ dX7_looksFor_1 (fun r1 u H locs h hP hD hS => ?_)
  refine lv_if_ne (tgt := 9) hx hb dX7_looksFor_4 (by decide) (fun c4 => ?_) (fun c4 => ?_)
  · replace h := h.1 c4
    refine lv_bipush (v := -3) hx hb dX7_looksFor_9 (by decide) ?_
    refine lv_istore_n (lv' := [(2, .int (-3 : Int32)), (0, .ref o), (1, .int x1)]) hx hb dX7_looksFor_11 rfl hl (by decide) rfl (fun ls hl => ?_)
    refine lv_iconst (v := 0) hx hb dX7_looksFor_12 (by decide) ?_
    refine lv_istore_n (lv' := [(3, .int (0 : Int32)), (2, .int (-3 : Int32)), (0, .ref o), (1, .int x1)]) hx hb dX7_looksFor_13 rfl hl (by decide) rfl (fun ls hl => ?_)
    obtain ⟨n14, h⟩ := h
    exact b_X7_looksFor_L14 x1 X ret  n14 F A (-3 : Int32) (0 : Int32) _ _ _ h hP hD hS (lv_sub hl [2, 3, 1, 0] rfl)
  · replace h := h.2 c4
    refine lv_iconst (v := -1) hx hb dX7_looksFor_7 (by decide) ?_
    exact ret _ (F, A) _ _ _ _ dX7_looksFor_8 h hP hD hS
theorem dX7_deafFor_0 : decode cX7_deafFor 0 = .ok (.iload_n 1, 1) := by decide +kernel
theorem dX7_deafFor_1 : decode cX7_deafFor 1 = .ok (.invokestatic 166, 3) := by decide +kernel
theorem dX7_deafFor_4 : decode cX7_deafFor 4 = .ok (.ifCond .ne 5, 3) := by decide +kernel
theorem dX7_deafFor_7 : decode cX7_deafFor 7 = .ok (.iconst (-1), 1) := by decide +kernel
theorem dX7_deafFor_8 : decode cX7_deafFor 8 = .ok (.ireturn, 1) := by decide +kernel
theorem dX7_deafFor_9 : decode cX7_deafFor 9 = .ok (.bipush (-3), 2) := by decide +kernel
theorem dX7_deafFor_11 : decode cX7_deafFor 11 = .ok (.istore_n 2, 1) := by decide +kernel
theorem dX7_deafFor_12 : decode cX7_deafFor 12 = .ok (.iconst 0, 1) := by decide +kernel
theorem dX7_deafFor_13 : decode cX7_deafFor 13 = .ok (.istore_n 3, 1) := by decide +kernel
theorem dX7_deafFor_14 : decode cX7_deafFor 14 = .ok (.iload_n 3, 1) := by decide +kernel
theorem dX7_deafFor_15 : decode cX7_deafFor 15 = .ok (.iconst 1, 1) := by decide +kernel
theorem dX7_deafFor_16 : decode cX7_deafFor 16 = .ok (.aload_n 0, 1) := by decide +kernel
theorem dX7_deafFor_17 : decode cX7_deafFor 17 = .ok (.getfield 7, 3) := by decide +kernel
theorem dX7_deafFor_20 : decode cX7_deafFor 20 = .ok (.iconst 0, 1) := by decide +kernel
theorem dX7_deafFor_21 : decode cX7_deafFor 21 = .ok (.iaload, 1) := by decide +kernel
theorem dX7_deafFor_22 : decode cX7_deafFor 22 = .ok (.ishl, 1) := by decide +kernel
theorem dX7_deafFor_23 : decode cX7_deafFor 23 = .ok (.if_icmp .ge 41, 3) := by decide +kernel
theorem dX7_deafFor_26 : decode cX7_deafFor 26 = .ok (.iload_n 2, 1) := by decide +kernel
theorem dX7_deafFor_27 : decode cX7_deafFor 27 = .ok (.ifCond .lt 14, 3) := by decide +kernel
theorem dX7_deafFor_30 : decode cX7_deafFor 30 = .ok (.iload_n 3, 1) := by decide +kernel
theorem dX7_deafFor_31 : decode cX7_deafFor 31 = .ok (.invokestatic 244, 3) := by decide +kernel
theorem dX7_deafFor_34 : decode cX7_deafFor 34 = .ok (.iload_n 2, 1) := by decide +kernel
theorem dX7_deafFor_35 : decode cX7_deafFor 35 = .ok (.invokestatic 244, 3) := by decide +kernel
theorem dX7_deafFor_38 : decode cX7_deafFor 38 = .ok (.if_icmp .ge 18, 3) := by decide +kernel
theorem dX7_deafFor_41 : decode cX7_deafFor 41 = .ok (.aload_n 0, 1) := by decide +kernel
theorem dX7_deafFor_42 : decode cX7_deafFor 42 = .ok (.iload_n 3, 1) := by decide +kernel
theorem dX7_deafFor_43 : decode cX7_deafFor 43 = .ok (.iconst (-1), 1) := by decide +kernel
theorem dX7_deafFor_44 : decode cX7_deafFor 44 = .ok (.iconst 0, 1) := by decide +kernel
theorem dX7_deafFor_45 : decode cX7_deafFor 45 = .ok (.invokevirtual 199, 3) := by decide +kernel
theorem dX7_deafFor_48 : decode cX7_deafFor 48 = .ok (.iload_n 1, 1) := by decide +kernel
theorem dX7_deafFor_49 : decode cX7_deafFor 49 = .ok (.if_icmp .ne 7, 3) := by decide +kernel
theorem dX7_deafFor_52 : decode cX7_deafFor 52 = .ok (.iload_n 3, 1) := by decide +kernel
theorem dX7_deafFor_53 : decode cX7_deafFor 53 = .ok (.goto 4, 3) := by decide +kernel
theorem dX7_deafFor_56 : decode cX7_deafFor 56 = .ok (.iload_n 2, 1) := by decide +kernel
theorem dX7_deafFor_57 : decode cX7_deafFor 57 = .ok (.istore_n 2, 1) := by decide +kernel
theorem dX7_deafFor_58 : decode cX7_deafFor 58 = .ok (.iinc 3 1, 3) := by decide +kernel
theorem dX7_deafFor_61 : decode cX7_deafFor 61 = .ok (.goto (-47), 3) := by decide +kernel
theorem dX7_deafFor_64 : decode cX7_deafFor 64 = .ok (.iload_n 2, 1) := by decide +kernel
theorem dX7_deafFor_65 : decode cX7_deafFor 65 = .ok (.ireturn, 1) := by decide +kernel
def p_X7_deafFor_J57 (F : tF) (A : tA) (B14 : (tF → tA → Int32 → Int32 → Prop)) (K : Int32 → tF → tA → Prop) (x1 : Int32) (x3 : Int32) (s0 : Int32) : Prop := (∀ y58 : Int32, y58 = (x3 + (1 : Int32)) → (B14 F A s0 y58))
set_option maxHeartbeats 4000000 in
set_option maxRecDepth 100000 in
theorem b_X7_deafFor_J57 {p : Program} {l : Launch} {e : Env} {s : State} {m : MethodId} {args : Array Value} {below : List Frame} {meth : Method} {c : Code} {Q : State → Prop} {D : va_G} {cI cZ cR : ClassId} {adK adV : Nat → Nat} {A9 : Nat → Prop} {o : Nat} {q : Nat → Nat} {K : Int32 → tF → tA → Prop} {B14 : (tF → tA → Int32 → Int32 → Prop)} (F : tF) (A : tA) (x1 : Int32) (x3 : Int32) (s0 : Int32) (X : CX p s m args c yX7_deafFor.cls cX7_deafFor 4 D cI cZ cR adK adV A9) (ret : RTi p l e (rmN 5 119) s m args below meth c Q cX7_deafFor D A9 (fun (r : Int32) (u : (tF × tA)) => K r u.1 u.2) (fun (u : (tF × tA)) => (wX7 cI cZ o q u.1 u.2 : va_W))) (hB14 : ∀ (F : tF) (A : tA) (x2 : Int32) (x3 : Int32) (H : Heap) (locs : List Loc) (ls : Array Slot), B14 F A x2 x3 → va_P D vwCl (wX7 cI cZ o q F A : va_W) H → va_D A9 (wX7 cI cZ o q F A : va_W) → va_S A9 s.heap H locs → lv_has ls 4 [(0, .ref o), (1, .int x1), (2, .int x2), (3, .int x3)] → W p l e (rmN 5 119) s m args below meth c H locs 0 0 Q (F0 m 14 ls [])) (H : Heap) (locs : List Loc) (ls : Array Slot) (h : p_X7_deafFor_J57 F A B14 K x1 x3 s0) (hP : va_P D vwCl (wX7 cI cZ o q F A : va_W) H) (hD : va_D A9 (wX7 cI cZ o q F A : va_W)) (hS : va_S A9 s.heap H locs) (hl : lv_has ls 4 [(0, .ref o), (1, .int x1), (3, .int x3)]) : W p l e (rmN 5 119) s m args below meth c H locs 0 0 Q (F0 m 57 ls [.int s0]) := by
  obtain ⟨hx, hb, hml, ht, hown, hK, hA, hE⟩ := id X
  unfold p_X7_deafFor_J57 at h
  refine lv_istore_n (lv' := [(2, .int s0), (0, .ref o), (1, .int x1), (3, .int x3)]) hx hb dX7_deafFor_57 rfl hl (by decide) rfl (fun ls hl => ?_)
  obtain ⟨y58, ey58⟩ : ∃ y : Int32, y = (x3 + (1 : Int32)) := ⟨_, rfl⟩
  replace h := h y58 ey58
  refine lv_iinc (v := y58) (lv' := [(3, .int y58), (2, .int s0), (0, .ref o), (1, .int x1)]) hx hb dX7_deafFor_58 hl (k := 3) rfl (by rw [ey58]; rfl) (by decide) rfl (fun ls hl => ?_)
  refine lv_goto (tgt := 14) hx hb dX7_deafFor_61 (by decide) ?_
  exact hB14 F A s0 y58 _ _ _ h hP hD hS (lv_sub hl [2, 3, 1, 0] rfl)
def p_X7_deafFor_J56 (F : tF) (A : tA) (B14 : (tF → tA → Int32 → Int32 → Prop)) (K : Int32 → tF → tA → Prop) (x1 : Int32) (x2 : Int32) (x3 : Int32) : Prop := (p_X7_deafFor_J57 F A B14 K x1 x3 x2)
set_option maxHeartbeats 4000000 in
set_option maxRecDepth 100000 in
theorem b_X7_deafFor_J56 {p : Program} {l : Launch} {e : Env} {s : State} {m : MethodId} {args : Array Value} {below : List Frame} {meth : Method} {c : Code} {Q : State → Prop} {D : va_G} {cI cZ cR : ClassId} {adK adV : Nat → Nat} {A9 : Nat → Prop} {o : Nat} {q : Nat → Nat} {K : Int32 → tF → tA → Prop} {B14 : (tF → tA → Int32 → Int32 → Prop)} (F : tF) (A : tA) (x1 : Int32) (x2 : Int32) (x3 : Int32) (X : CX p s m args c yX7_deafFor.cls cX7_deafFor 4 D cI cZ cR adK adV A9) (ret : RTi p l e (rmN 5 119) s m args below meth c Q cX7_deafFor D A9 (fun (r : Int32) (u : (tF × tA)) => K r u.1 u.2) (fun (u : (tF × tA)) => (wX7 cI cZ o q u.1 u.2 : va_W))) (hB14 : ∀ (F : tF) (A : tA) (x2 : Int32) (x3 : Int32) (H : Heap) (locs : List Loc) (ls : Array Slot), B14 F A x2 x3 → va_P D vwCl (wX7 cI cZ o q F A : va_W) H → va_D A9 (wX7 cI cZ o q F A : va_W) → va_S A9 s.heap H locs → lv_has ls 4 [(0, .ref o), (1, .int x1), (2, .int x2), (3, .int x3)] → W p l e (rmN 5 119) s m args below meth c H locs 0 0 Q (F0 m 14 ls [])) (H : Heap) (locs : List Loc) (ls : Array Slot) (h : p_X7_deafFor_J56 F A B14 K x1 x2 x3) (hP : va_P D vwCl (wX7 cI cZ o q F A : va_W) H) (hD : va_D A9 (wX7 cI cZ o q F A : va_W)) (hS : va_S A9 s.heap H locs) (hl : lv_has ls 4 [(0, .ref o), (1, .int x1), (2, .int x2), (3, .int x3)]) : W p l e (rmN 5 119) s m args below meth c H locs 0 0 Q (F0 m 56 ls []) := by
  obtain ⟨hx, hb, hml, ht, hown, hK, hA, hE⟩ := id X
  unfold p_X7_deafFor_J56 at h
  refine lv_iload_n hx hb dX7_deafFor_56 rfl (lv_at hl 2 rfl) ?_
  exact b_X7_deafFor_J57 F A x1 x3 x2 X ret hB14 _ _ _ h hP hD hS (lv_sub hl [0, 1, 3] rfl)
def p_X7_deafFor_J41 (F : tF) (A : tA) (B14 : (tF → tA → Int32 → Int32 → Prop)) (K : Int32 → tF → tA → Prop) (x1 : Int32) (x2 : Int32) (x3 : Int32) : Prop := (p_X7_winnerOf F A x3 (-1 : Int32) (0 : Int32) (fun r45 F_45 A_45 => ((¬ r45 = x1 → (p_X7_deafFor_J56 F_45 A_45 B14 K x1 x2 x3)) ∧ (r45 = x1 → (p_X7_deafFor_J57 F_45 A_45 B14 K x1 x3 x3)))))
set_option maxHeartbeats 4000000 in
set_option maxRecDepth 100000 in
theorem b_X7_deafFor_J41 {p : Program} {l : Launch} {e : Env} {s : State} {m : MethodId} {args : Array Value} {below : List Frame} {meth : Method} {c : Code} {Q : State → Prop} {D : va_G} {cI cZ cR : ClassId} {adK adV : Nat → Nat} {A9 : Nat → Prop} {o : Nat} {q : Nat → Nat} {K : Int32 → tF → tA → Prop} {B14 : (tF → tA → Int32 → Int32 → Prop)} (F : tF) (A : tA) (x1 : Int32) (x2 : Int32) (x3 : Int32) (X : CX p s m args c yX7_deafFor.cls cX7_deafFor 4 D cI cZ cR adK adV A9) (ret : RTi p l e (rmN 5 119) s m args below meth c Q cX7_deafFor D A9 (fun (r : Int32) (u : (tF × tA)) => K r u.1 u.2) (fun (u : (tF × tA)) => (wX7 cI cZ o q u.1 u.2 : va_W))) (hB14 : ∀ (F : tF) (A : tA) (x2 : Int32) (x3 : Int32) (H : Heap) (locs : List Loc) (ls : Array Slot), B14 F A x2 x3 → va_P D vwCl (wX7 cI cZ o q F A : va_W) H → va_D A9 (wX7 cI cZ o q F A : va_W) → va_S A9 s.heap H locs → lv_has ls 4 [(0, .ref o), (1, .int x1), (2, .int x2), (3, .int x3)] → W p l e (rmN 5 119) s m args below meth c H locs 0 0 Q (F0 m 14 ls [])) (H : Heap) (locs : List Loc) (ls : Array Slot) (h : p_X7_deafFor_J41 F A B14 K x1 x2 x3) (hP : va_P D vwCl (wX7 cI cZ o q F A : va_W) H) (hD : va_D A9 (wX7 cI cZ o q F A : va_W)) (hS : va_S A9 s.heap H locs) (hl : lv_has ls 4 [(0, .ref o), (1, .int x1), (2, .int x2), (3, .int x3)]) : W p l e (rmN 5 119) s m args below meth c H locs 0 0 Q (F0 m 41 ls []) := by
  obtain ⟨hx, hb, hml, ht, hown, hK, hA, hE⟩ := id X
  unfold p_X7_deafFor_J41 at h
  refine lv_aload_n hx hb dX7_deafFor_41 rfl (lv_at hl 0 rfl) ?_
  refine lv_iload_n hx hb dX7_deafFor_42 rfl (lv_at hl 3 rfl) ?_
  refine lv_iconst (v := -1) hx hb dX7_deafFor_43 (by decide) ?_
  refine lv_iconst (v := 0) hx hb dX7_deafFor_44 (by decide) ?_
  refine C_vi (wr := []) X hP hD hS [.int x3, .int (-1 : Int32), .int (0 : Int32)] [] (w_X7_winnerOf l D cI cZ cR adK adV _ o q F A x3 (-1 : Int32) (0 : Int32) _ h) cal_X7_winnerOf mw_24_12 rfl [0, 1, 2, 3, 4, 5, 6, 7, 8, 9, 10, 11, 12, 13, 14, 15] [] [0, 1, 2, 3, 4, 5, 6, 7, 8, 9, 10, 11, 12, 13, 14, 15] (fun u => (wX7 cI cZ o q u.1 u.2 : va_W)) rfl rfl (fun _ => rfl) rfl 0 rfl rfl ⟨rfl, rfl⟩ ⟨Nat.le_of_ble_eq_true rfl, Nat.le_of_ble_eq_true rfl⟩ hl.1 rfl (Nat.le_of_ble_eq_true rfl) ⟨Nat.zero_le _, Nat.zero_le _⟩ dX7_deafFor_45 (fun r45 u H locs h hP hD hS => ?_)
  obtain ⟨F_45, A_45⟩ := u
  try dsimp only at h
  have hP : va_P D vwCl (wX7 cI cZ o q F_45 A_45 : va_W) H := hP
  have hD : va_D A9 (wX7 cI cZ o q F_45 A_45 : va_W) := hD
  refine lv_iload_n hx hb dX7_deafFor_48 rfl (lv_at hl 1 rfl) ?_
  refine lv_icmp_ne (tgt := 56) hx hb dX7_deafFor_49 (by decide) (fun c49 => ?_) (fun c49 => ?_)
  · replace h := h.1 c49
    exact b_X7_deafFor_J56 F_45 A_45 x1 x2 x3 X ret hB14 _ _ _ h hP hD hS (lv_sub hl [0, 1, 2, 3] rfl)
  · replace h := h.2 c49
    refine lv_iload_n hx hb dX7_deafFor_52 rfl (lv_at hl 3 rfl) ?_
    refine lv_goto (tgt := 57) hx hb dX7_deafFor_53 (by decide) ?_
    exact b_X7_deafFor_J57 F_45 A_45 x1 x3 x3 X ret hB14 _ _ _ h hP hD hS (lv_sub hl [0, 1, 3] rfl)
def p_X7_deafFor_L14 (x1 : Int32) (K : Int32 → tF → tA → Prop) : Nat → tF → tA → Int32 → Int32 → Prop
  | 0, _, _, _, _ => False
  | n14 + 1, F, A, x2, x3 => ((((1 : Int32) <<< (((A 0) 0) &&& 31)) ≤ x3 → (K x2 F A)) ∧ (¬ ((1 : Int32) <<< (((A 0) 0) &&& 31)) ≤ x3 → ((x2 < 0 → (p_X7_deafFor_J41 F A (p_X7_deafFor_L14 x1 K n14) K x1 x2 x3)) ∧ (¬ x2 < 0 → (p_X7_size x3 (fun r31 => (p_X7_size x2 (fun r35 => ((r35 ≤ r31 → (p_X7_deafFor_J56 F A (p_X7_deafFor_L14 x1 K n14) K x1 x2 x3)) ∧ (¬ r35 ≤ r31 → (p_X7_deafFor_J41 F A (p_X7_deafFor_L14 x1 K n14) K x1 x2 x3)))))))))))
set_option maxHeartbeats 4000000 in
set_option maxRecDepth 100000 in
theorem b_X7_deafFor_L14 {p : Program} {l : Launch} {e : Env} {s : State} {m : MethodId} {args : Array Value} {below : List Frame} {meth : Method} {c : Code} {Q : State → Prop} {D : va_G} {cI cZ cR : ClassId} {adK adV : Nat → Nat} {A9 : Nat → Prop} {o : Nat} {q : Nat → Nat} {K : Int32 → tF → tA → Prop}  (x1 : Int32) (X : CX p s m args c yX7_deafFor.cls cX7_deafFor 4 D cI cZ cR adK adV A9) (ret : RTi p l e (rmN 5 119) s m args below meth c Q cX7_deafFor D A9 (fun (r : Int32) (u : (tF × tA)) => K r u.1 u.2) (fun (u : (tF × tA)) => (wX7 cI cZ o q u.1 u.2 : va_W)))   : ∀ (n : Nat) (F : tF) (A : tA) (x2 : Int32) (x3 : Int32) (H : Heap) (locs : List Loc) (ls : Array Slot), p_X7_deafFor_L14 x1 K n F A x2 x3 → va_P D vwCl (wX7 cI cZ o q F A : va_W) H → va_D A9 (wX7 cI cZ o q F A : va_W) → va_S A9 s.heap H locs → lv_has ls 4 [(0, .ref o), (1, .int x1), (2, .int x2), (3, .int x3)] → W p l e (rmN 5 119) s m args below meth c H locs 0 0 Q (F0 m 14 ls []) := by
  obtain ⟨hx, hb, hml, ht, hown, hK, hA, hE⟩ := id X
  intro n
  induction n with
  | zero => intro F A x2 x3 H locs ls h; exact False.elim h
  | succ n14 ih =>
    intro F A x2 x3 H locs ls h hP hD hS hl
    rw [p_X7_deafFor_L14] at h
    refine lv_iload_n hx hb dX7_deafFor_14 rfl (lv_at hl 3 rfl) ?_
    refine lv_iconst (v := 1) hx hb dX7_deafFor_15 (by decide) ?_
    refine lv_aload_n hx hb dX7_deafFor_16 rfl (lv_at hl 0 rfl) ?_
    refine va_get (C := RX7) (T := TX7) (N := 28) (own := RX7) (v := .ref (q 0)) hx hb ht inlX7 hown hK hP 0 rfl rfl 0 (Nat.le_of_ble_eq_true rfl) (ht _ mw_5_7) (fun _ h9 => h9) rfl dX7_deafFor_17 ?_
    refine lv_iconst (v := 0) hx hb dX7_deafFor_20 (by decide) ?_
    refine g_iald (f := (A 0)) (k := 0) hx hb hK hP 1 0 rfl rfl (vp_in_lit rfl : vp_in (0 : Int32) 53) (by decide) dX7_deafFor_21 ?_
    refine lv_ishl hx hb dX7_deafFor_22 ?_
    refine lv_icmp_ge (tgt := 64) hx hb dX7_deafFor_23 (by decide) (fun c23 => ?_) (fun c23 => ?_)
    · replace h := h.1 c23
      refine lv_iload_n hx hb dX7_deafFor_64 rfl (lv_at hl 2 rfl) ?_
      exact ret _ (F, A) _ _ _ _ dX7_deafFor_65 h hP hD hS
    · replace h := h.2 c23
      refine lv_iload_n hx hb dX7_deafFor_26 rfl (lv_at hl 2 rfl) ?_
      refine lv_if_lt (tgt := 41) hx hb dX7_deafFor_27 (by decide) (fun c27 => ?_) (fun c27 => ?_)
      · replace h := h.1 c27
        exact b_X7_deafFor_J41 F A x1 x2 x3 X ret ih _ _ _ h hP hD hS (lv_sub hl [0, 1, 2, 3] rfl)
      · replace h := h.2 c27
        refine lv_iload_n hx hb dX7_deafFor_30 rfl (lv_at hl 3 rfl) ?_
        refine C_si (wr := [0, 1, 2, 3, 4, 5, 6, 7, 8, 9, 10, 11, 12, 13, 14, 15].filterMap (fun i => (wX7 cI cZ o q F A : va_W)[i]?)) X hP hD hS [.int x3] [] (w_X7_size l D cI cZ cR adK adV _ x3 _ h) cal_X7_size mw_33_13 rfl [] [0, 1, 2, 3, 4, 5, 6, 7, 8, 9, 10, 11, 12, 13, 14, 15] [0, 1, 2, 3, 4, 5, 6, 7, 8, 9, 10, 11, 12, 13, 14, 15] (fun u => (wX7 cI cZ o q F A : va_W)) rfl rfl (fun _ => rfl) rfl ⟨rfl, rfl⟩ ⟨Nat.le_of_ble_eq_true rfl, Nat.le_of_ble_eq_true rfl⟩ hl.1 rfl (Nat.le_of_ble_eq_true rfl) ⟨Nat.zero_le _, Nat.zero_le _⟩ dX7_deafFor_31 (fun r31 u H locs h hP hD hS => ?_)
        refine lv_iload_n hx hb dX7_deafFor_34 rfl (lv_at hl 2 rfl) ?_
        refine C_si (wr := [0, 1, 2, 3, 4, 5, 6, 7, 8, 9, 10, 11, 12, 13, 14, 15].filterMap (fun i => (wX7 cI cZ o q F A : va_W)[i]?)) X hP hD hS [.int x2] [.int r31] (w_X7_size l D cI cZ cR adK adV _ x2 _ h) cal_X7_size mw_33_13 rfl [] [0, 1, 2, 3, 4, 5, 6, 7, 8, 9, 10, 11, 12, 13, 14, 15] [0, 1, 2, 3, 4, 5, 6, 7, 8, 9, 10, 11, 12, 13, 14, 15] (fun u => (wX7 cI cZ o q F A : va_W)) rfl rfl (fun _ => rfl) rfl ⟨rfl, rfl⟩ ⟨Nat.le_of_ble_eq_true rfl, Nat.le_of_ble_eq_true rfl⟩ hl.1 rfl (Nat.le_of_ble_eq_true rfl) ⟨Nat.zero_le _, Nat.zero_le _⟩ dX7_deafFor_35 (fun r35 u H locs h hP hD hS => ?_)
        refine lv_icmp_ge (tgt := 56) hx hb dX7_deafFor_38 (by decide) (fun c38 => ?_) (fun c38 => ?_)
        · replace h := h.1 c38
          exact b_X7_deafFor_J56 F A x1 x2 x3 X ret ih _ _ _ h hP hD hS (lv_sub hl [0, 1, 2, 3] rfl)
        · replace h := h.2 c38
          exact b_X7_deafFor_J41 F A x1 x2 x3 X ret ih _ _ _ h hP hD hS (lv_sub hl [0, 1, 2, 3] rfl)
def p_X7_deafFor (F : tF) (A : tA) (x1 : Int32) (K : Int32 → tF → tA → Prop) : Prop := (p_X7_isPlace x1 (fun r1 => ((¬ r1 = 0 → (∃ n14, p_X7_deafFor_L14 x1 K n14 F A (-3 : Int32) (0 : Int32))) ∧ (r1 = 0 → (K (-1 : Int32) F A)))))
set_option maxHeartbeats 4000000 in
set_option maxRecDepth 100000 in
theorem w_X7_deafFor (l : Launch) (D : va_G) (cI cZ cR : ClassId) (adK adV : Nat → Nat) (sz : Nat) (o : Nat) (q : Nat → Nat) (F : tF) (A : tA) (x1 : Int32) (K : Int32 → tF → tA → Prop) (h : p_X7_deafFor F A x1 K) : MI l D cI cZ cR adK adV yX7_deafFor cX7_deafFor 4 (some .int) (rmN 5 119) [.ref o, .int x1] (wX7 cI cZ o q F A : va_W) sz (fun (r : Int32) (u : (tF × tA)) => K r u.1 u.2) (fun (u : (tF × tA)) => (wX7 cI cZ o q u.1 u.2 : va_W)) := by
  refine M_i (by decide +kernel) (Nat.le_of_ble_eq_true rfl) ?_
  intro p e s m args below meth c Q A9 ls X ret hP hD hS hl
  obtain ⟨hx, hb, hml, ht, hown, hK, hA, hE⟩ := id X
  have hl : lv_has ls 4 [(0, .ref o), (1, .int x1)] := hl
  unfold p_X7_deafFor at h
  refine lv_iload_n hx hb dX7_deafFor_0 rfl (lv_at hl 1 rfl) ?_
  refine C_si (wr := [0, 1, 2, 3, 4, 5, 6, 7, 8, 9, 10, 11, 12, 13, 14, 15].filterMap (fun i => (wX7 cI cZ o q F A : va_W)[i]?)) X hP hD hS [.int x1] [] (w_X7_isPlace l D cI cZ cR adK adV _ x1 _ h) cal_X7_isPlace mw_16_21 rfl [] [0, 1, 2, 3, 4, 5, 6, 7, 8, 9, 10, 11, 12, 13, 14, 15] [0, 1, 2, 3, 4, 5, 6, 7, 8, 9, 10, 11, 12, 13, 14, 15] (fun u => (wX7 cI cZ o q F A : va_W)) rfl rfl (fun _ => rfl) rfl ⟨rfl, rfl⟩ ⟨Nat.le_of_ble_eq_true rfl, Nat.le_of_ble_eq_true rfl⟩ hl.1 rfl (Nat.le_of_ble_eq_true rfl) ⟨Nat.zero_le _, Nat.zero_le _⟩ dX7_deafFor_1 (fun r1 u H locs h hP hD hS => ?_)
  refine lv_if_ne (tgt := 9) hx hb dX7_deafFor_4 (by decide) (fun c4 => ?_) (fun c4 => ?_)
  · replace h := h.1 c4
    refine lv_bipush (v := -3) hx hb dX7_deafFor_9 (by decide) ?_
    refine lv_istore_n (lv' := [(2, .int (-3 : Int32)), (0, .ref o), (1, .int x1)]) hx hb dX7_deafFor_11 rfl hl (by decide) rfl (fun ls hl => ?_)
    refine lv_iconst (v := 0) hx hb dX7_deafFor_12 (by decide) ?_
    refine lv_istore_n (lv' := [(3, .int (0 : Int32)), (2, .int (-3 : Int32)), (0, .ref o), (1, .int x1)]) hx hb dX7_deafFor_13 rfl hl (by decide) rfl (fun ls hl => ?_)
    obtain ⟨n14, h⟩ := h
    exact b_X7_deafFor_L14 x1 X ret  n14 F A (-3 : Int32) (0 : Int32) _ _ _ h hP hD hS (lv_sub hl [2, 3, 1, 0] rfl)
  · replace h := h.2 c4
    refine lv_iconst (v := -1) hx hb dX7_deafFor_7 (by decide) ?_
    exact ret _ (F, A) _ _ _ _ dX7_deafFor_8 h hP hD hS
theorem dX7_isBeaten_0 : decode cX7_isBeaten 0 = .ok (.iconst 0, 1) := by decide +kernel
theorem dX7_isBeaten_1 : decode cX7_isBeaten 1 = .ok (.istore_n 3, 1) := by decide +kernel
theorem dX7_isBeaten_2 : decode cX7_isBeaten 2 = .ok (.iconst 0, 1) := by decide +kernel
theorem dX7_isBeaten_3 : decode cX7_isBeaten 3 = .ok (.istore 4, 2) := by decide +kernel
theorem dX7_isBeaten_5 : decode cX7_isBeaten 5 = .ok (.iload 4, 2) := by decide +kernel
theorem dX7_isBeaten_7 : decode cX7_isBeaten 7 = .ok (.aload_n 0, 1) := by decide +kernel
theorem dX7_isBeaten_8 : decode cX7_isBeaten 8 = .ok (.getfield 7, 3) := by decide +kernel
theorem dX7_isBeaten_11 : decode cX7_isBeaten 11 = .ok (.iconst 0, 1) := by decide +kernel
theorem dX7_isBeaten_12 : decode cX7_isBeaten 12 = .ok (.iaload, 1) := by decide +kernel
theorem dX7_isBeaten_13 : decode cX7_isBeaten 13 = .ok (.if_icmp .ge 59, 3) := by decide +kernel
theorem dX7_isBeaten_16 : decode cX7_isBeaten 16 = .ok (.aload_n 0, 1) := by decide +kernel
theorem dX7_isBeaten_17 : decode cX7_isBeaten 17 = .ok (.iload 4, 2) := by decide +kernel
theorem dX7_isBeaten_19 : decode cX7_isBeaten 19 = .ok (.iload_n 2, 1) := by decide +kernel
theorem dX7_isBeaten_20 : decode cX7_isBeaten 20 = .ok (.invokevirtual 175, 3) := by decide +kernel
theorem dX7_isBeaten_23 : decode cX7_isBeaten 23 = .ok (.aload_n 0, 1) := by decide +kernel
theorem dX7_isBeaten_24 : decode cX7_isBeaten 24 = .ok (.iload 4, 2) := by decide +kernel
theorem dX7_isBeaten_26 : decode cX7_isBeaten 26 = .ok (.iload_n 1, 1) := by decide +kernel
theorem dX7_isBeaten_27 : decode cX7_isBeaten 27 = .ok (.invokevirtual 175, 3) := by decide +kernel
theorem dX7_isBeaten_30 : decode cX7_isBeaten 30 = .ok (.isub, 1) := by decide +kernel
theorem dX7_isBeaten_31 : decode cX7_isBeaten 31 = .ok (.istore 5, 2) := by decide +kernel
theorem dX7_isBeaten_33 : decode cX7_isBeaten 33 = .ok (.iload_n 3, 1) := by decide +kernel
theorem dX7_isBeaten_34 : decode cX7_isBeaten 34 = .ok (.iload 5, 2) := by decide +kernel
theorem dX7_isBeaten_36 : decode cX7_isBeaten 36 = .ok (.ifCond .le 12, 3) := by decide +kernel
theorem dX7_isBeaten_39 : decode cX7_isBeaten 39 = .ok (.aload_n 0, 1) := by decide +kernel
theorem dX7_isBeaten_40 : decode cX7_isBeaten 40 = .ok (.iload 4, 2) := by decide +kernel
theorem dX7_isBeaten_42 : decode cX7_isBeaten 42 = .ok (.invokevirtual 181, 3) := by decide +kernel
theorem dX7_isBeaten_45 : decode cX7_isBeaten 45 = .ok (.goto 19, 3) := by decide +kernel
theorem dX7_isBeaten_48 : decode cX7_isBeaten 48 = .ok (.iload 5, 2) := by decide +kernel
theorem dX7_isBeaten_50 : decode cX7_isBeaten 50 = .ok (.ifCond .ge 13, 3) := by decide +kernel
theorem dX7_isBeaten_53 : decode cX7_isBeaten 53 = .ok (.aload_n 0, 1) := by decide +kernel
theorem dX7_isBeaten_54 : decode cX7_isBeaten 54 = .ok (.iload 4, 2) := by decide +kernel
theorem dX7_isBeaten_56 : decode cX7_isBeaten 56 = .ok (.invokevirtual 181, 3) := by decide +kernel
theorem dX7_isBeaten_59 : decode cX7_isBeaten 59 = .ok (.ineg, 1) := by decide +kernel
theorem dX7_isBeaten_60 : decode cX7_isBeaten 60 = .ok (.goto 4, 3) := by decide +kernel
theorem dX7_isBeaten_63 : decode cX7_isBeaten 63 = .ok (.iconst 0, 1) := by decide +kernel
theorem dX7_isBeaten_64 : decode cX7_isBeaten 64 = .ok (.iadd, 1) := by decide +kernel
theorem dX7_isBeaten_65 : decode cX7_isBeaten 65 = .ok (.istore_n 3, 1) := by decide +kernel
theorem dX7_isBeaten_66 : decode cX7_isBeaten 66 = .ok (.iinc 4 1, 3) := by decide +kernel
theorem dX7_isBeaten_69 : decode cX7_isBeaten 69 = .ok (.goto (-64), 3) := by decide +kernel
theorem dX7_isBeaten_72 : decode cX7_isBeaten 72 = .ok (.iload_n 3, 1) := by decide +kernel
theorem dX7_isBeaten_73 : decode cX7_isBeaten 73 = .ok (.ifCond .le 7, 3) := by decide +kernel
theorem dX7_isBeaten_76 : decode cX7_isBeaten 76 = .ok (.iconst 1, 1) := by decide +kernel
theorem dX7_isBeaten_77 : decode cX7_isBeaten 77 = .ok (.goto 4, 3) := by decide +kernel
theorem dX7_isBeaten_80 : decode cX7_isBeaten 80 = .ok (.iconst 0, 1) := by decide +kernel
theorem dX7_isBeaten_81 : decode cX7_isBeaten 81 = .ok (.ireturn, 1) := by decide +kernel
def p_X7_isBeaten_J64 (F : tF) (A : tA) (B5 : (Int32 → Int32 → Prop)) (K : Int32 → Prop) (x1 : Int32) (x2 : Int32) (x4 : Int32) (s0 : Int32) (s1 : Int32) : Prop := (∀ y65 : Int32, y65 = (s1 + s0) → (∀ y66 : Int32, y66 = (x4 + (1 : Int32)) → (B5 y65 y66)))
set_option maxHeartbeats 4000000 in
set_option maxRecDepth 100000 in
theorem b_X7_isBeaten_J64 {p : Program} {l : Launch} {e : Env} {s : State} {m : MethodId} {args : Array Value} {below : List Frame} {meth : Method} {c : Code} {Q : State → Prop} {D : va_G} {cI cZ cR : ClassId} {adK adV : Nat → Nat} {A9 : Nat → Prop} {o : Nat} {q : Nat → Nat} {K : Int32 → Prop} {B5 : (Int32 → Int32 → Prop)} (F : tF) (A : tA) (x1 : Int32) (x2 : Int32) (x4 : Int32) (s0 : Int32) (s1 : Int32) (X : CX p s m args c yX7_isBeaten.cls cX7_isBeaten 6 D cI cZ cR adK adV A9) (ret : RTz p l e (rmN 2 46) s m args below meth c Q cX7_isBeaten D A9 (fun (r : Int32) (u : Unit) => K r) (fun (u : Unit) => (wX7 cI cZ o q F A : va_W))) (hB5 : ∀ (x3 : Int32) (x4 : Int32) (H : Heap) (locs : List Loc) (ls : Array Slot), B5 x3 x4 → va_P D vwCl (wX7 cI cZ o q F A : va_W) H → va_D A9 (wX7 cI cZ o q F A : va_W) → va_S A9 s.heap H locs → lv_has ls 6 [(0, .ref o), (1, .int x1), (2, .int x2), (3, .int x3), (4, .int x4)] → W p l e (rmN 2 46) s m args below meth c H locs 0 0 Q (F0 m 5 ls [])) (H : Heap) (locs : List Loc) (ls : Array Slot) (h : p_X7_isBeaten_J64 F A B5 K x1 x2 x4 s0 s1) (hP : va_P D vwCl (wX7 cI cZ o q F A : va_W) H) (hD : va_D A9 (wX7 cI cZ o q F A : va_W)) (hS : va_S A9 s.heap H locs) (hl : lv_has ls 6 [(0, .ref o), (1, .int x1), (2, .int x2), (4, .int x4)]) : W p l e (rmN 2 46) s m args below meth c H locs 0 0 Q (F0 m 64 ls [.int s0, .int s1]) := by
  obtain ⟨hx, hb, hml, ht, hown, hK, hA, hE⟩ := id X
  unfold p_X7_isBeaten_J64 at h
  refine lv_iadd hx hb dX7_isBeaten_64 ?_
  refine lv_topi (fun y65 ey65 => ?_)
  replace h := h y65 ey65
  refine lv_istore_n (lv' := [(3, .int y65), (0, .ref o), (1, .int x1), (2, .int x2), (4, .int x4)]) hx hb dX7_isBeaten_65 rfl hl (by decide) rfl (fun ls hl => ?_)
  obtain ⟨y66, ey66⟩ : ∃ y : Int32, y = (x4 + (1 : Int32)) := ⟨_, rfl⟩
  replace h := h y66 ey66
  refine lv_iinc (v := y66) (lv' := [(4, .int y66), (3, .int y65), (0, .ref o), (1, .int x1), (2, .int x2)]) hx hb dX7_isBeaten_66 hl (k := 4) rfl (by rw [ey66]; rfl) (by decide) rfl (fun ls hl => ?_)
  refine lv_goto (tgt := 5) hx hb dX7_isBeaten_69 (by decide) ?_
  exact hB5 y65 y66 _ _ _ h hP hD hS (lv_sub hl [2, 3, 4, 1, 0] rfl)
def p_X7_isBeaten_L5 (F : tF) (A : tA) (x1 : Int32) (x2 : Int32) (K : Int32 → Prop) : Nat → Int32 → Int32 → Prop
  | 0, _, _ => False
  | n5 + 1, x3, x4 => ((((A 0) 0) ≤ x4 → ((x3 ≤ 0 → (K (0 : Int32))) ∧ (¬ x3 ≤ 0 → (K (1 : Int32))))) ∧ (¬ ((A 0) 0) ≤ x4 → (p_X7_worthOf F A x4 x2 (fun r20 => (p_X7_worthOf F A x4 x1 (fun r27 => (∀ y31 : Int32, y31 = (r20 - r27) → ((y31 ≤ 0 → ((0 ≤ y31 → (p_X7_isBeaten_J64 F A (p_X7_isBeaten_L5 F A x1 x2 K n5) K x1 x2 x4 (0 : Int32) x3)) ∧ (¬ 0 ≤ y31 → (p_X7_counts F A x4 (fun r56 => (p_X7_isBeaten_J64 F A (p_X7_isBeaten_L5 F A x1 x2 K n5) K x1 x2 x4 (-r56) x3)))))) ∧ (¬ y31 ≤ 0 → (p_X7_counts F A x4 (fun r42 => (p_X7_isBeaten_J64 F A (p_X7_isBeaten_L5 F A x1 x2 K n5) K x1 x2 x4 r42 x3))))))))))))
set_option maxHeartbeats 4000000 in
set_option maxRecDepth 100000 in
theorem b_X7_isBeaten_L5 {p : Program} {l : Launch} {e : Env} {s : State} {m : MethodId} {args : Array Value} {below : List Frame} {meth : Method} {c : Code} {Q : State → Prop} {D : va_G} {cI cZ cR : ClassId} {adK adV : Nat → Nat} {A9 : Nat → Prop} {o : Nat} {q : Nat → Nat} {K : Int32 → Prop}  (F : tF) (A : tA) (x1 : Int32) (x2 : Int32) (X : CX p s m args c yX7_isBeaten.cls cX7_isBeaten 6 D cI cZ cR adK adV A9) (ret : RTz p l e (rmN 2 46) s m args below meth c Q cX7_isBeaten D A9 (fun (r : Int32) (u : Unit) => K r) (fun (u : Unit) => (wX7 cI cZ o q F A : va_W)))   : ∀ (n : Nat) (x3 : Int32) (x4 : Int32) (H : Heap) (locs : List Loc) (ls : Array Slot), p_X7_isBeaten_L5 F A x1 x2 K n x3 x4 → va_P D vwCl (wX7 cI cZ o q F A : va_W) H → va_D A9 (wX7 cI cZ o q F A : va_W) → va_S A9 s.heap H locs → lv_has ls 6 [(0, .ref o), (1, .int x1), (2, .int x2), (3, .int x3), (4, .int x4)] → W p l e (rmN 2 46) s m args below meth c H locs 0 0 Q (F0 m 5 ls []) := by
  obtain ⟨hx, hb, hml, ht, hown, hK, hA, hE⟩ := id X
  intro n
  induction n with
  | zero => intro x3 x4 H locs ls h; exact False.elim h
  | succ n5 ih =>
    intro x3 x4 H locs ls h hP hD hS hl
    rw [p_X7_isBeaten_L5] at h
    refine lv_iload hx hb dX7_isBeaten_5 (lv_at hl 4 rfl) ?_
    refine lv_aload_n hx hb dX7_isBeaten_7 rfl (lv_at hl 0 rfl) ?_
    refine va_get (C := RX7) (T := TX7) (N := 28) (own := RX7) (v := .ref (q 0)) hx hb ht inlX7 hown hK hP 0 rfl rfl 0 (Nat.le_of_ble_eq_true rfl) (ht _ mw_5_7) (fun _ h9 => h9) rfl dX7_isBeaten_8 ?_
    refine lv_iconst (v := 0) hx hb dX7_isBeaten_11 (by decide) ?_
    refine g_iald (f := (A 0)) (k := 0) hx hb hK hP 1 0 rfl rfl (vp_in_lit rfl : vp_in (0 : Int32) 53) (by decide) dX7_isBeaten_12 ?_
    refine lv_icmp_ge (tgt := 72) hx hb dX7_isBeaten_13 (by decide) (fun c13 => ?_) (fun c13 => ?_)
    · replace h := h.1 c13
      refine lv_iload_n hx hb dX7_isBeaten_72 rfl (lv_at hl 3 rfl) ?_
      refine lv_if_le (tgt := 80) hx hb dX7_isBeaten_73 (by decide) (fun c73 => ?_) (fun c73 => ?_)
      · replace h := h.1 c73
        refine lv_iconst (v := 0) hx hb dX7_isBeaten_80 (by decide) ?_
        exact ret _ () _ _ _ _ dX7_isBeaten_81 bo_0 h hP hD hS
      · replace h := h.2 c73
        refine lv_iconst (v := 1) hx hb dX7_isBeaten_76 (by decide) ?_
        refine lv_goto (tgt := 81) hx hb dX7_isBeaten_77 (by decide) ?_
        exact ret _ () _ _ _ _ dX7_isBeaten_81 bo_1 h hP hD hS
    · replace h := h.2 c13
      refine lv_aload_n hx hb dX7_isBeaten_16 rfl (lv_at hl 0 rfl) ?_
      refine lv_iload hx hb dX7_isBeaten_17 (lv_at hl 4 rfl) ?_
      refine lv_iload_n hx hb dX7_isBeaten_19 rfl (lv_at hl 2 rfl) ?_
      refine C_vi (wr := []) X hP hD hS [.int x4, .int x2] [] (w_X7_worthOf l D cI cZ cR adK adV _ o q F A x4 x2 _ h) cal_X7_worthOf mw_19_4 rfl [0, 1, 2, 3, 4, 5, 6, 7, 8, 9, 10, 11, 12, 13, 14, 15] [] [0, 1, 2, 3, 4, 5, 6, 7, 8, 9, 10, 11, 12, 13, 14, 15] (fun u => (wX7 cI cZ o q F A : va_W)) rfl rfl (fun _ => rfl) rfl 0 rfl rfl ⟨rfl, rfl⟩ ⟨Nat.le_of_ble_eq_true rfl, Nat.le_of_ble_eq_true rfl⟩ hl.1 rfl (Nat.le_of_ble_eq_true rfl) ⟨Nat.zero_le _, Nat.zero_le _⟩ dX7_isBeaten_20 (fun r20 u H locs h hP hD hS => ?_)
      refine lv_aload_n hx hb dX7_isBeaten_23 rfl (lv_at hl 0 rfl) ?_
      refine lv_iload hx hb dX7_isBeaten_24 (lv_at hl 4 rfl) ?_
      refine lv_iload_n hx hb dX7_isBeaten_26 rfl (lv_at hl 1 rfl) ?_
      refine C_vi (wr := []) X hP hD hS [.int x4, .int x1] [.int r20] (w_X7_worthOf l D cI cZ cR adK adV _ o q F A x4 x1 _ h) cal_X7_worthOf mw_19_4 rfl [0, 1, 2, 3, 4, 5, 6, 7, 8, 9, 10, 11, 12, 13, 14, 15] [] [0, 1, 2, 3, 4, 5, 6, 7, 8, 9, 10, 11, 12, 13, 14, 15] (fun u => (wX7 cI cZ o q F A : va_W)) rfl rfl (fun _ => rfl) rfl 0 rfl rfl ⟨rfl, rfl⟩ ⟨Nat.le_of_ble_eq_true rfl, Nat.le_of_ble_eq_true rfl⟩ hl.1 rfl (Nat.le_of_ble_eq_true rfl) ⟨Nat.zero_le _, Nat.zero_le _⟩ dX7_isBeaten_27 (fun r27 u H locs h hP hD hS => ?_)
      refine lv_isub hx hb dX7_isBeaten_30 ?_
      refine lv_topi (fun y31 ey31 => ?_)
      replace h := h y31 ey31
      refine lv_istore (lv' := [(5, .int y31), (0, .ref o), (1, .int x1), (2, .int x2), (3, .int x3), (4, .int x4)]) hx hb dX7_isBeaten_31 hl (by decide) rfl (fun ls hl => ?_)
      refine lv_iload_n hx hb dX7_isBeaten_33 rfl (lv_at hl 4 rfl) ?_
      refine lv_iload hx hb dX7_isBeaten_34 (lv_at hl 0 rfl) ?_
      refine lv_if_le (tgt := 48) hx hb dX7_isBeaten_36 (by decide) (fun c36 => ?_) (fun c36 => ?_)
      · replace h := h.1 c36
        refine lv_iload hx hb dX7_isBeaten_48 (lv_at hl 0 rfl) ?_
        refine lv_if_ge (tgt := 63) hx hb dX7_isBeaten_50 (by decide) (fun c50 => ?_) (fun c50 => ?_)
        · replace h := h.1 c50
          refine lv_iconst (v := 0) hx hb dX7_isBeaten_63 (by decide) ?_
          exact b_X7_isBeaten_J64 F A x1 x2 x4 (0 : Int32) x3 X ret ih _ _ _ h hP hD hS (lv_sub hl [1, 2, 3, 5] rfl)
        · replace h := h.2 c50
          refine lv_aload_n hx hb dX7_isBeaten_53 rfl (lv_at hl 1 rfl) ?_
          refine lv_iload hx hb dX7_isBeaten_54 (lv_at hl 5 rfl) ?_
          refine C_vi (wr := []) X hP hD hS [.int x4] [.int x3] (w_X7_counts l D cI cZ cR adK adV _ o q F A x4 _ h) cal_X7_counts mw_18_20 rfl [0, 1, 2, 3, 4, 5, 6, 7, 8, 9, 10, 11, 12, 13, 14, 15] [] [0, 1, 2, 3, 4, 5, 6, 7, 8, 9, 10, 11, 12, 13, 14, 15] (fun u => (wX7 cI cZ o q F A : va_W)) rfl rfl (fun _ => rfl) rfl 0 rfl rfl ⟨rfl, rfl⟩ ⟨Nat.le_of_ble_eq_true rfl, Nat.le_of_ble_eq_true rfl⟩ hl.1 rfl (Nat.le_of_ble_eq_true rfl) ⟨Nat.zero_le _, Nat.zero_le _⟩ dX7_isBeaten_56 (fun r56 u H locs h hP hD hS => ?_)
          refine lv_ineg hx hb dX7_isBeaten_59 ?_
          refine lv_goto (tgt := 64) hx hb dX7_isBeaten_60 (by decide) ?_
          exact b_X7_isBeaten_J64 F A x1 x2 x4 (-r56) x3 X ret ih _ _ _ h hP hD hS (lv_sub hl [1, 2, 3, 5] rfl)
      · replace h := h.2 c36
        refine lv_aload_n hx hb dX7_isBeaten_39 rfl (lv_at hl 1 rfl) ?_
        refine lv_iload hx hb dX7_isBeaten_40 (lv_at hl 5 rfl) ?_
        refine C_vi (wr := []) X hP hD hS [.int x4] [.int x3] (w_X7_counts l D cI cZ cR adK adV _ o q F A x4 _ h) cal_X7_counts mw_18_20 rfl [0, 1, 2, 3, 4, 5, 6, 7, 8, 9, 10, 11, 12, 13, 14, 15] [] [0, 1, 2, 3, 4, 5, 6, 7, 8, 9, 10, 11, 12, 13, 14, 15] (fun u => (wX7 cI cZ o q F A : va_W)) rfl rfl (fun _ => rfl) rfl 0 rfl rfl ⟨rfl, rfl⟩ ⟨Nat.le_of_ble_eq_true rfl, Nat.le_of_ble_eq_true rfl⟩ hl.1 rfl (Nat.le_of_ble_eq_true rfl) ⟨Nat.zero_le _, Nat.zero_le _⟩ dX7_isBeaten_42 (fun r42 u H locs h hP hD hS => ?_)
        refine lv_goto (tgt := 64) hx hb dX7_isBeaten_45 (by decide) ?_
        exact b_X7_isBeaten_J64 F A x1 x2 x4 r42 x3 X ret ih _ _ _ h hP hD hS (lv_sub hl [1, 2, 3, 5] rfl)
def p_X7_isBeaten (F : tF) (A : tA) (x1 : Int32) (x2 : Int32) (K : Int32 → Prop) : Prop := (∃ n5, p_X7_isBeaten_L5 F A x1 x2 K n5 (0 : Int32) (0 : Int32))
set_option maxHeartbeats 4000000 in
set_option maxRecDepth 100000 in
theorem w_X7_isBeaten (l : Launch) (D : va_G) (cI cZ cR : ClassId) (adK adV : Nat → Nat) (sz : Nat) (o : Nat) (q : Nat → Nat) (F : tF) (A : tA) (x1 : Int32) (x2 : Int32) (K : Int32 → Prop) (h : p_X7_isBeaten F A x1 x2 K) : MI l D cI cZ cR adK adV yX7_isBeaten cX7_isBeaten 6 (some .boolean) (rmN 2 46) [.ref o, .int x1, .int x2] (wX7 cI cZ o q F A : va_W) sz (fun (r : Int32) (u : Unit) => K r) (fun (u : Unit) => (wX7 cI cZ o q F A : va_W)) := by
  refine M_z (by decide +kernel) (Nat.le_of_ble_eq_true rfl) ?_
  intro p e s m args below meth c Q A9 ls X ret hP hD hS hl
  obtain ⟨hx, hb, hml, ht, hown, hK, hA, hE⟩ := id X
  have hl : lv_has ls 6 [(0, .ref o), (1, .int x1), (2, .int x2)] := hl
  unfold p_X7_isBeaten at h
  refine lv_iconst (v := 0) hx hb dX7_isBeaten_0 (by decide) ?_
  refine lv_istore_n (lv' := [(3, .int (0 : Int32)), (0, .ref o), (1, .int x1), (2, .int x2)]) hx hb dX7_isBeaten_1 rfl hl (by decide) rfl (fun ls hl => ?_)
  refine lv_iconst (v := 0) hx hb dX7_isBeaten_2 (by decide) ?_
  refine lv_istore (lv' := [(4, .int (0 : Int32)), (3, .int (0 : Int32)), (0, .ref o), (1, .int x1), (2, .int x2)]) hx hb dX7_isBeaten_3 hl (by decide) rfl (fun ls hl => ?_)
  obtain ⟨n5, h⟩ := h
  exact b_X7_isBeaten_L5 F A x1 x2 X ret  n5 (0 : Int32) (0 : Int32) _ _ _ h hP hD hS (lv_sub hl [2, 3, 4, 1, 0] rfl)
theorem cal_X7_isBeaten : CalV yX7_isBeaten cX7_isBeaten 6 (some .boolean) 2 := ⟨mw_34_21, mw_1_5, mw_34_19, mw_34_20, ⟨by decide +kernel, by decide +kernel, by decide +kernel⟩⟩
theorem dX7_beats_0 : decode cX7_beats 0 = .ok (.iload_n 1, 1) := by decide +kernel
theorem dX7_beats_1 : decode cX7_beats 1 = .ok (.invokestatic 166, 3) := by decide +kernel
theorem dX7_beats_4 : decode cX7_beats 4 = .ok (.ifCond .eq 15, 3) := by decide +kernel
theorem dX7_beats_7 : decode cX7_beats 7 = .ok (.iload_n 2, 1) := by decide +kernel
theorem dX7_beats_8 : decode cX7_beats 8 = .ok (.invokestatic 166, 3) := by decide +kernel
theorem dX7_beats_11 : decode cX7_beats 11 = .ok (.ifCond .eq 8, 3) := by decide +kernel
theorem dX7_beats_14 : decode cX7_beats 14 = .ok (.iload_n 1, 1) := by decide +kernel
theorem dX7_beats_15 : decode cX7_beats 15 = .ok (.iload_n 2, 1) := by decide +kernel
theorem dX7_beats_16 : decode cX7_beats 16 = .ok (.if_icmp .ne 5, 3) := by decide +kernel
theorem dX7_beats_19 : decode cX7_beats 19 = .ok (.iconst (-1), 1) := by decide +kernel
theorem dX7_beats_20 : decode cX7_beats 20 = .ok (.ireturn, 1) := by decide +kernel
theorem dX7_beats_21 : decode cX7_beats 21 = .ok (.aload_n 0, 1) := by decide +kernel
theorem dX7_beats_22 : decode cX7_beats 22 = .ok (.iload_n 2, 1) := by decide +kernel
theorem dX7_beats_23 : decode cX7_beats 23 = .ok (.iload_n 1, 1) := by decide +kernel
theorem dX7_beats_24 : decode cX7_beats 24 = .ok (.invokevirtual 251, 3) := by decide +kernel
theorem dX7_beats_27 : decode cX7_beats 27 = .ok (.ifCond .eq 7, 3) := by decide +kernel
theorem dX7_beats_30 : decode cX7_beats 30 = .ok (.iconst 1, 1) := by decide +kernel
theorem dX7_beats_31 : decode cX7_beats 31 = .ok (.goto 4, 3) := by decide +kernel
theorem dX7_beats_34 : decode cX7_beats 34 = .ok (.iconst 0, 1) := by decide +kernel
theorem dX7_beats_35 : decode cX7_beats 35 = .ok (.ireturn, 1) := by decide +kernel
def p_X7_beats (F : tF) (A : tA) (x1 : Int32) (x2 : Int32) (K : Int32 → Prop) : Prop := (p_X7_isPlace x1 (fun r1 => ((r1 = 0 → (K (-1 : Int32))) ∧ (¬ r1 = 0 → (p_X7_isPlace x2 (fun r8 => ((r8 = 0 → (K (-1 : Int32))) ∧ (¬ r8 = 0 → ((¬ x1 = x2 → (p_X7_isBeaten F A x2 x1 (fun r24 => ((r24 = 0 → (K (0 : Int32))) ∧ (¬ r24 = 0 → (K (1 : Int32))))))) ∧ (x1 = x2 → (K (-1 : Int32))))))))))))
set_option maxHeartbeats 4000000 in
set_option maxRecDepth 100000 in
theorem w_X7_beats (l : Launch) (D : va_G) (cI cZ cR : ClassId) (adK adV : Nat → Nat) (sz : Nat) (o : Nat) (q : Nat → Nat) (F : tF) (A : tA) (x1 : Int32) (x2 : Int32) (K : Int32 → Prop) (h : p_X7_beats F A x1 x2 K) : MI l D cI cZ cR adK adV yX7_beats cX7_beats 3 (some .int) (rmN 3 71) [.ref o, .int x1, .int x2] (wX7 cI cZ o q F A : va_W) sz (fun (r : Int32) (u : Unit) => K r) (fun (u : Unit) => (wX7 cI cZ o q F A : va_W)) := by
  refine M_i (by decide +kernel) (Nat.le_of_ble_eq_true rfl) ?_
  intro p e s m args below meth c Q A9 ls X ret hP hD hS hl
  obtain ⟨hx, hb, hml, ht, hown, hK, hA, hE⟩ := id X
  have hl : lv_has ls 3 [(0, .ref o), (1, .int x1), (2, .int x2)] := hl
  unfold p_X7_beats at h
  refine lv_iload_n hx hb dX7_beats_0 rfl (lv_at hl 1 rfl) ?_
  refine C_si (wr := [0, 1, 2, 3, 4, 5, 6, 7, 8, 9, 10, 11, 12, 13, 14, 15].filterMap (fun i => (wX7 cI cZ o q F A : va_W)[i]?)) X hP hD hS [.int x1] [] (w_X7_isPlace l D cI cZ cR adK adV _ x1 _ h) cal_X7_isPlace mw_16_21 rfl [] [0, 1, 2, 3, 4, 5, 6, 7, 8, 9, 10, 11, 12, 13, 14, 15] [0, 1, 2, 3, 4, 5, 6, 7, 8, 9, 10, 11, 12, 13, 14, 15] (fun u => (wX7 cI cZ o q F A : va_W)) rfl rfl (fun _ => rfl) rfl ⟨rfl, rfl⟩ ⟨Nat.le_of_ble_eq_true rfl, Nat.le_of_ble_eq_true rfl⟩ hl.1 rfl (Nat.le_of_ble_eq_true rfl) ⟨Nat.zero_le _, Nat.zero_le _⟩ dX7_beats_1 (fun r1 u H locs h hP hD hS => ?_)
  refine lv_if_eq (tgt := 19) hx hb dX7_beats_4 (by decide) (fun c4 => ?_) (fun c4 => ?_)
  · replace h := h.1 c4
    refine lv_iconst (v := -1) hx hb dX7_beats_19 (by decide) ?_
    exact ret _ () _ _ _ _ dX7_beats_20 h hP hD hS
  · replace h := h.2 c4
    refine lv_iload_n hx hb dX7_beats_7 rfl (lv_at hl 2 rfl) ?_
    refine C_si (wr := [0, 1, 2, 3, 4, 5, 6, 7, 8, 9, 10, 11, 12, 13, 14, 15].filterMap (fun i => (wX7 cI cZ o q F A : va_W)[i]?)) X hP hD hS [.int x2] [] (w_X7_isPlace l D cI cZ cR adK adV _ x2 _ h) cal_X7_isPlace mw_16_21 rfl [] [0, 1, 2, 3, 4, 5, 6, 7, 8, 9, 10, 11, 12, 13, 14, 15] [0, 1, 2, 3, 4, 5, 6, 7, 8, 9, 10, 11, 12, 13, 14, 15] (fun u => (wX7 cI cZ o q F A : va_W)) rfl rfl (fun _ => rfl) rfl ⟨rfl, rfl⟩ ⟨Nat.le_of_ble_eq_true rfl, Nat.le_of_ble_eq_true rfl⟩ hl.1 rfl (Nat.le_of_ble_eq_true rfl) ⟨Nat.zero_le _, Nat.zero_le _⟩ dX7_beats_8 (fun r8 u H locs h hP hD hS => ?_)
    refine lv_if_eq (tgt := 19) hx hb dX7_beats_11 (by decide) (fun c11 => ?_) (fun c11 => ?_)
    · replace h := h.1 c11
      refine lv_iconst (v := -1) hx hb dX7_beats_19 (by decide) ?_
      exact ret _ () _ _ _ _ dX7_beats_20 h hP hD hS
    · replace h := h.2 c11
      refine lv_iload_n hx hb dX7_beats_14 rfl (lv_at hl 1 rfl) ?_
      refine lv_iload_n hx hb dX7_beats_15 rfl (lv_at hl 2 rfl) ?_
      refine lv_icmp_ne (tgt := 21) hx hb dX7_beats_16 (by decide) (fun c16 => ?_) (fun c16 => ?_)
      · replace h := h.1 c16
        refine lv_aload_n hx hb dX7_beats_21 rfl (lv_at hl 0 rfl) ?_
        refine lv_iload_n hx hb dX7_beats_22 rfl (lv_at hl 2 rfl) ?_
        refine lv_iload_n hx hb dX7_beats_23 rfl (lv_at hl 1 rfl) ?_
        refine C_vi (wr := []) X hP hD hS [.int x2, .int x1] [] (w_X7_isBeaten l D cI cZ cR adK adV _ o q F A x2 x1 _ h) cal_X7_isBeaten mw_34_18 rfl [0, 1, 2, 3, 4, 5, 6, 7, 8, 9, 10, 11, 12, 13, 14, 15] [] [0, 1, 2, 3, 4, 5, 6, 7, 8, 9, 10, 11, 12, 13, 14, 15] (fun u => (wX7 cI cZ o q F A : va_W)) rfl rfl (fun _ => rfl) rfl 0 rfl rfl ⟨rfl, rfl⟩ ⟨Nat.le_of_ble_eq_true rfl, Nat.le_of_ble_eq_true rfl⟩ hl.1 rfl (Nat.le_of_ble_eq_true rfl) ⟨Nat.zero_le _, Nat.zero_le _⟩ dX7_beats_24 (fun r24 u H locs h hP hD hS => ?_)
        refine lv_if_eq (tgt := 34) hx hb dX7_beats_27 (by decide) (fun c27 => ?_) (fun c27 => ?_)
        · replace h := h.1 c27
          refine lv_iconst (v := 0) hx hb dX7_beats_34 (by decide) ?_
          exact ret _ () _ _ _ _ dX7_beats_35 h hP hD hS
        · replace h := h.2 c27
          refine lv_iconst (v := 1) hx hb dX7_beats_30 (by decide) ?_
          refine lv_goto (tgt := 35) hx hb dX7_beats_31 (by decide) ?_
          exact ret _ () _ _ _ _ dX7_beats_35 h hP hD hS
      · replace h := h.2 c16
        refine lv_iconst (v := -1) hx hb dX7_beats_19 (by decide) ?_
        exact ret _ () _ _ _ _ dX7_beats_20 h hP hD hS
theorem dX7_meets_0 : decode cX7_meets 0 = .ok (.iconst 0, 1) := by decide +kernel
theorem dX7_meets_1 : decode cX7_meets 1 = .ok (.istore_n 1, 1) := by decide +kernel
theorem dX7_meets_2 : decode cX7_meets 2 = .ok (.iload_n 1, 1) := by decide +kernel
theorem dX7_meets_3 : decode cX7_meets 3 = .ok (.bipush 6, 2) := by decide +kernel
theorem dX7_meets_5 : decode cX7_meets 5 = .ok (.if_icmp .ge 53, 3) := by decide +kernel
theorem dX7_meets_8 : decode cX7_meets 8 = .ok (.iconst 0, 1) := by decide +kernel
theorem dX7_meets_9 : decode cX7_meets 9 = .ok (.istore_n 2, 1) := by decide +kernel
theorem dX7_meets_10 : decode cX7_meets 10 = .ok (.iload_n 2, 1) := by decide +kernel
theorem dX7_meets_11 : decode cX7_meets 11 = .ok (.bipush 6, 2) := by decide +kernel
theorem dX7_meets_13 : decode cX7_meets 13 = .ok (.if_icmp .ge 39, 3) := by decide +kernel
theorem dX7_meets_16 : decode cX7_meets 16 = .ok (.aload_n 0, 1) := by decide +kernel
theorem dX7_meets_17 : decode cX7_meets 17 = .ok (.getfield 28, 3) := by decide +kernel
theorem dX7_meets_20 : decode cX7_meets 20 = .ok (.bipush 6, 2) := by decide +kernel
theorem dX7_meets_22 : decode cX7_meets 22 = .ok (.iload_n 1, 1) := by decide +kernel
theorem dX7_meets_23 : decode cX7_meets 23 = .ok (.imul, 1) := by decide +kernel
theorem dX7_meets_24 : decode cX7_meets 24 = .ok (.iload_n 2, 1) := by decide +kernel
theorem dX7_meets_25 : decode cX7_meets 25 = .ok (.iadd, 1) := by decide +kernel
theorem dX7_meets_26 : decode cX7_meets 26 = .ok (.iload_n 1, 1) := by decide +kernel
theorem dX7_meets_27 : decode cX7_meets 27 = .ok (.iload_n 2, 1) := by decide +kernel
theorem dX7_meets_28 : decode cX7_meets 28 = .ok (.if_icmp .eq 16, 3) := by decide +kernel
theorem dX7_meets_31 : decode cX7_meets 31 = .ok (.aload_n 0, 1) := by decide +kernel
theorem dX7_meets_32 : decode cX7_meets 32 = .ok (.iload_n 2, 1) := by decide +kernel
theorem dX7_meets_33 : decode cX7_meets 33 = .ok (.iload_n 1, 1) := by decide +kernel
theorem dX7_meets_34 : decode cX7_meets 34 = .ok (.invokevirtual 251, 3) := by decide +kernel
theorem dX7_meets_37 : decode cX7_meets 37 = .ok (.ifCond .eq 7, 3) := by decide +kernel
theorem dX7_meets_40 : decode cX7_meets 40 = .ok (.iconst 1, 1) := by decide +kernel
theorem dX7_meets_41 : decode cX7_meets 41 = .ok (.goto 4, 3) := by decide +kernel
theorem dX7_meets_44 : decode cX7_meets 44 = .ok (.iconst 0, 1) := by decide +kernel
theorem dX7_meets_45 : decode cX7_meets 45 = .ok (.bastore, 1) := by decide +kernel
theorem dX7_meets_46 : decode cX7_meets 46 = .ok (.iinc 2 1, 3) := by decide +kernel
theorem dX7_meets_49 : decode cX7_meets 49 = .ok (.goto (-39), 3) := by decide +kernel
theorem dX7_meets_52 : decode cX7_meets 52 = .ok (.iinc 1 1, 3) := by decide +kernel
theorem dX7_meets_55 : decode cX7_meets 55 = .ok (.goto (-53), 3) := by decide +kernel
theorem dX7_meets_58 : decode cX7_meets 58 = .ok (.return_, 1) := by decide +kernel
def p_X7_meets_J45 (F : tF) (A : tA) (B2 : (tF → tA → Int32 → Prop)) (B10 : (tF → tA → Int32 → Prop)) (K : tF → tA → Prop) (x1 : Int32) (x2 : Int32) (s0 : Int32) (s1 : Int32) : Prop := (vp_in s1 36 ∧ (∀ f_45 : tF, f_45 = (upd (A 13) (s1).toNatClampNeg (vp_nar .boolean s0)) → (∀ y46 : Int32, y46 = (x2 + (1 : Int32)) → (B10 F (va_up A 13 f_45) y46))))
set_option maxHeartbeats 4000000 in
set_option maxRecDepth 100000 in
theorem b_X7_meets_J45 {p : Program} {l : Launch} {e : Env} {s : State} {m : MethodId} {args : Array Value} {below : List Frame} {meth : Method} {c : Code} {Q : State → Prop} {D : va_G} {cI cZ cR : ClassId} {adK adV : Nat → Nat} {A9 : Nat → Prop} {o : Nat} {q : Nat → Nat} {K : tF → tA → Prop} {B2 : (tF → tA → Int32 → Prop)} {B10 : (tF → tA → Int32 → Prop)} (F : tF) (A : tA) (x1 : Int32) (x2 : Int32) (s0 : Int32) (s1 : Int32) (X : CX p s m args c yX7_meets.cls cX7_meets 3 D cI cZ cR adK adV A9) (ret : RTv p l e (rmN 3 71) s m args below meth c Q cX7_meets D A9 (fun (u : (tF × tA)) => K u.1 u.2) (fun (u : (tF × tA)) => (wX7 cI cZ o q u.1 u.2 : va_W))) (hB2 : ∀ (F : tF) (A : tA) (x1 : Int32) (H : Heap) (locs : List Loc) (ls : Array Slot), B2 F A x1 → va_P D vwCl (wX7 cI cZ o q F A : va_W) H → va_D A9 (wX7 cI cZ o q F A : va_W) → va_S A9 s.heap H locs → lv_has ls 3 [(0, .ref o), (1, .int x1)] → W p l e (rmN 3 71) s m args below meth c H locs 0 0 Q (F0 m 2 ls [])) (hB10 : ∀ (F : tF) (A : tA) (x2 : Int32) (H : Heap) (locs : List Loc) (ls : Array Slot), B10 F A x2 → va_P D vwCl (wX7 cI cZ o q F A : va_W) H → va_D A9 (wX7 cI cZ o q F A : va_W) → va_S A9 s.heap H locs → lv_has ls 3 [(0, .ref o), (1, .int x1), (2, .int x2)] → W p l e (rmN 3 71) s m args below meth c H locs 0 0 Q (F0 m 10 ls [])) (H : Heap) (locs : List Loc) (ls : Array Slot) (h : p_X7_meets_J45 F A B2 B10 K x1 x2 s0 s1) (hP : va_P D vwCl (wX7 cI cZ o q F A : va_W) H) (hD : va_D A9 (wX7 cI cZ o q F A : va_W)) (hS : va_S A9 s.heap H locs) (hl : lv_has ls 3 [(0, .ref o), (1, .int x1), (2, .int x2)]) : W p l e (rmN 3 71) s m args below meth c H locs 0 0 Q (F0 m 45 ls [.int s0, .int s1, .ref (q 13)]) := by
  obtain ⟨hx, hb, hml, ht, hown, hK, hA, hE⟩ := id X
  unfold p_X7_meets_J45 at h
  obtain ⟨hi45, h⟩ := h
  obtain ⟨f_45, ef_45⟩ : ∃ z : tF, z = (upd (A 13) (s1).toNatClampNeg (vp_nar .boolean s0)) := ⟨_, rfl⟩
  replace h := h f_45 ef_45
  refine g_zast (f := (A 13)) (k := (s1).toNatClampNeg) hx hb hK hP hD hS 7 1 rfl rfl hi45 rfl ef_45 dX7_meets_45 (fun H locs hP hD hS => ?_)
  have hP : va_P D vwCl (wX7 cI cZ o q F (va_up A 13 f_45) : va_W) H := hP
  have hD : va_D A9 (wX7 cI cZ o q F (va_up A 13 f_45) : va_W) := hD
  obtain ⟨y46, ey46⟩ : ∃ y : Int32, y = (x2 + (1 : Int32)) := ⟨_, rfl⟩
  replace h := h y46 ey46
  refine lv_iinc (v := y46) (lv' := [(2, .int y46), (0, .ref o), (1, .int x1)]) hx hb dX7_meets_46 hl (k := 2) rfl (by rw [ey46]; rfl) (by decide) rfl (fun ls hl => ?_)
  refine lv_goto (tgt := 10) hx hb dX7_meets_49 (by decide) ?_
  exact hB10 F (va_up A 13 f_45) y46 _ _ _ h hP hD hS (lv_sub hl [1, 2, 0] rfl)
def p_X7_meets_J44 (F : tF) (A : tA) (B2 : (tF → tA → Int32 → Prop)) (B10 : (tF → tA → Int32 → Prop)) (K : tF → tA → Prop) (x1 : Int32) (x2 : Int32) (s0 : Int32) : Prop := (p_X7_meets_J45 F A B2 B10 K x1 x2 (0 : Int32) s0)
set_option maxHeartbeats 4000000 in
set_option maxRecDepth 100000 in
theorem b_X7_meets_J44 {p : Program} {l : Launch} {e : Env} {s : State} {m : MethodId} {args : Array Value} {below : List Frame} {meth : Method} {c : Code} {Q : State → Prop} {D : va_G} {cI cZ cR : ClassId} {adK adV : Nat → Nat} {A9 : Nat → Prop} {o : Nat} {q : Nat → Nat} {K : tF → tA → Prop} {B2 : (tF → tA → Int32 → Prop)} {B10 : (tF → tA → Int32 → Prop)} (F : tF) (A : tA) (x1 : Int32) (x2 : Int32) (s0 : Int32) (X : CX p s m args c yX7_meets.cls cX7_meets 3 D cI cZ cR adK adV A9) (ret : RTv p l e (rmN 3 71) s m args below meth c Q cX7_meets D A9 (fun (u : (tF × tA)) => K u.1 u.2) (fun (u : (tF × tA)) => (wX7 cI cZ o q u.1 u.2 : va_W))) (hB2 : ∀ (F : tF) (A : tA) (x1 : Int32) (H : Heap) (locs : List Loc) (ls : Array Slot), B2 F A x1 → va_P D vwCl (wX7 cI cZ o q F A : va_W) H → va_D A9 (wX7 cI cZ o q F A : va_W) → va_S A9 s.heap H locs → lv_has ls 3 [(0, .ref o), (1, .int x1)] → W p l e (rmN 3 71) s m args below meth c H locs 0 0 Q (F0 m 2 ls [])) (hB10 : ∀ (F : tF) (A : tA) (x2 : Int32) (H : Heap) (locs : List Loc) (ls : Array Slot), B10 F A x2 → va_P D vwCl (wX7 cI cZ o q F A : va_W) H → va_D A9 (wX7 cI cZ o q F A : va_W) → va_S A9 s.heap H locs → lv_has ls 3 [(0, .ref o), (1, .int x1), (2, .int x2)] → W p l e (rmN 3 71) s m args below meth c H locs 0 0 Q (F0 m 10 ls [])) (H : Heap) (locs : List Loc) (ls : Array Slot) (h : p_X7_meets_J44 F A B2 B10 K x1 x2 s0) (hP : va_P D vwCl (wX7 cI cZ o q F A : va_W) H) (hD : va_D A9 (wX7 cI cZ o q F A : va_W)) (hS : va_S A9 s.heap H locs) (hl : lv_has ls 3 [(0, .ref o), (1, .int x1), (2, .int x2)]) : W p l e (rmN 3 71) s m args below meth c H locs 0 0 Q (F0 m 44 ls [.int s0, .ref (q 13)]) := by
  obtain ⟨hx, hb, hml, ht, hown, hK, hA, hE⟩ := id X
  unfold p_X7_meets_J44 at h
  refine lv_iconst (v := 0) hx hb dX7_meets_44 (by decide) ?_
  exact b_X7_meets_J45 F A x1 x2 (0 : Int32) s0 X ret hB2 hB10 _ _ _ h hP hD hS (lv_sub hl [0, 1, 2] rfl)
def p_X7_meets_L10 (x1 : Int32) (B2 : (tF → tA → Int32 → Prop)) (K : tF → tA → Prop) : Nat → tF → tA → Int32 → Prop
  | 0, _, _, _ => False
  | n10 + 1, F, A, x2 => (((6 : Int32) ≤ x2 → (∀ y52 : Int32, y52 = (x1 + (1 : Int32)) → (B2 F A y52))) ∧ (¬ (6 : Int32) ≤ x2 → ((x1 = x2 → (p_X7_meets_J44 F A B2 (p_X7_meets_L10 x1 B2 K n10) K x1 x2 (((6 : Int32) * x1) + x2))) ∧ (¬ x1 = x2 → (p_X7_isBeaten F A x2 x1 (fun r34 => ((r34 = 0 → (p_X7_meets_J44 F A B2 (p_X7_meets_L10 x1 B2 K n10) K x1 x2 (((6 : Int32) * x1) + x2))) ∧ (¬ r34 = 0 → (p_X7_meets_J45 F A B2 (p_X7_meets_L10 x1 B2 K n10) K x1 x2 (1 : Int32) (((6 : Int32) * x1) + x2))))))))))
set_option maxHeartbeats 4000000 in
set_option maxRecDepth 100000 in
theorem b_X7_meets_L10 {p : Program} {l : Launch} {e : Env} {s : State} {m : MethodId} {args : Array Value} {below : List Frame} {meth : Method} {c : Code} {Q : State → Prop} {D : va_G} {cI cZ cR : ClassId} {adK adV : Nat → Nat} {A9 : Nat → Prop} {o : Nat} {q : Nat → Nat} {K : tF → tA → Prop} {B2 : (tF → tA → Int32 → Prop)} (x1 : Int32) (X : CX p s m args c yX7_meets.cls cX7_meets 3 D cI cZ cR adK adV A9) (ret : RTv p l e (rmN 3 71) s m args below meth c Q cX7_meets D A9 (fun (u : (tF × tA)) => K u.1 u.2) (fun (u : (tF × tA)) => (wX7 cI cZ o q u.1 u.2 : va_W))) (hB2 : ∀ (F : tF) (A : tA) (x1 : Int32) (H : Heap) (locs : List Loc) (ls : Array Slot), B2 F A x1 → va_P D vwCl (wX7 cI cZ o q F A : va_W) H → va_D A9 (wX7 cI cZ o q F A : va_W) → va_S A9 s.heap H locs → lv_has ls 3 [(0, .ref o), (1, .int x1)] → W p l e (rmN 3 71) s m args below meth c H locs 0 0 Q (F0 m 2 ls []))  : ∀ (n : Nat) (F : tF) (A : tA) (x2 : Int32) (H : Heap) (locs : List Loc) (ls : Array Slot), p_X7_meets_L10 x1 B2 K n F A x2 → va_P D vwCl (wX7 cI cZ o q F A : va_W) H → va_D A9 (wX7 cI cZ o q F A : va_W) → va_S A9 s.heap H locs → lv_has ls 3 [(0, .ref o), (1, .int x1), (2, .int x2)] → W p l e (rmN 3 71) s m args below meth c H locs 0 0 Q (F0 m 10 ls []) := by
  obtain ⟨hx, hb, hml, ht, hown, hK, hA, hE⟩ := id X
  intro n
  induction n with
  | zero => intro F A x2 H locs ls h; exact False.elim h
  | succ n10 ih =>
    intro F A x2 H locs ls h hP hD hS hl
    rw [p_X7_meets_L10] at h
    refine lv_iload_n hx hb dX7_meets_10 rfl (lv_at hl 2 rfl) ?_
    refine lv_bipush (v := 6) hx hb dX7_meets_11 (by decide) ?_
    refine lv_icmp_ge (tgt := 52) hx hb dX7_meets_13 (by decide) (fun c13 => ?_) (fun c13 => ?_)
    · replace h := h.1 c13
      obtain ⟨y52, ey52⟩ : ∃ y : Int32, y = (x1 + (1 : Int32)) := ⟨_, rfl⟩
      replace h := h y52 ey52
      refine lv_iinc (v := y52) (lv' := [(1, .int y52), (0, .ref o), (2, .int x2)]) hx hb dX7_meets_52 hl (k := 1) rfl (by rw [ey52]; rfl) (by decide) rfl (fun ls hl => ?_)
      refine lv_goto (tgt := 2) hx hb dX7_meets_55 (by decide) ?_
      exact hB2 F A y52 _ _ _ h hP hD hS (lv_sub hl [1, 0] rfl)
    · replace h := h.2 c13
      refine lv_aload_n hx hb dX7_meets_16 rfl (lv_at hl 0 rfl) ?_
      refine va_get (C := RX7) (T := TX7) (N := 28) (own := RX7) (v := .ref (q 13)) hx hb ht inlX7 hown hK hP 0 rfl rfl 13 (Nat.le_of_ble_eq_true rfl) (ht _ mw_5_13) (fun _ h9 => h9) rfl dX7_meets_17 ?_
      refine lv_bipush (v := 6) hx hb dX7_meets_20 (by decide) ?_
      refine lv_iload_n hx hb dX7_meets_22 rfl (lv_at hl 1 rfl) ?_
      refine lv_imul hx hb dX7_meets_23 ?_
      refine lv_iload_n hx hb dX7_meets_24 rfl (lv_at hl 2 rfl) ?_
      refine lv_iadd hx hb dX7_meets_25 ?_
      refine lv_iload_n hx hb dX7_meets_26 rfl (lv_at hl 1 rfl) ?_
      refine lv_iload_n hx hb dX7_meets_27 rfl (lv_at hl 2 rfl) ?_
      refine lv_icmp_eq (tgt := 44) hx hb dX7_meets_28 (by decide) (fun c28 => ?_) (fun c28 => ?_)
      · replace h := h.1 c28
        exact b_X7_meets_J44 F A x1 x2 (((6 : Int32) * x1) + x2) X ret hB2 ih _ _ _ h hP hD hS (lv_sub hl [0, 1, 2] rfl)
      · replace h := h.2 c28
        refine lv_aload_n hx hb dX7_meets_31 rfl (lv_at hl 0 rfl) ?_
        refine lv_iload_n hx hb dX7_meets_32 rfl (lv_at hl 2 rfl) ?_
        refine lv_iload_n hx hb dX7_meets_33 rfl (lv_at hl 1 rfl) ?_
        refine C_vi (wr := []) X hP hD hS [.int x2, .int x1] [.int (((6 : Int32) * x1) + x2), .ref (q 13)] (w_X7_isBeaten l D cI cZ cR adK adV _ o q F A x2 x1 _ h) cal_X7_isBeaten mw_34_18 rfl [0, 1, 2, 3, 4, 5, 6, 7, 8, 9, 10, 11, 12, 13, 14, 15] [] [0, 1, 2, 3, 4, 5, 6, 7, 8, 9, 10, 11, 12, 13, 14, 15] (fun u => (wX7 cI cZ o q F A : va_W)) rfl rfl (fun _ => rfl) rfl 0 rfl rfl ⟨rfl, rfl⟩ ⟨Nat.le_of_ble_eq_true rfl, Nat.le_of_ble_eq_true rfl⟩ hl.1 rfl (Nat.le_of_ble_eq_true rfl) ⟨Nat.zero_le _, Nat.zero_le _⟩ dX7_meets_34 (fun r34 u H locs h hP hD hS => ?_)
        refine lv_if_eq (tgt := 44) hx hb dX7_meets_37 (by decide) (fun c37 => ?_) (fun c37 => ?_)
        · replace h := h.1 c37
          exact b_X7_meets_J44 F A x1 x2 (((6 : Int32) * x1) + x2) X ret hB2 ih _ _ _ h hP hD hS (lv_sub hl [0, 1, 2] rfl)
        · replace h := h.2 c37
          refine lv_iconst (v := 1) hx hb dX7_meets_40 (by decide) ?_
          refine lv_goto (tgt := 45) hx hb dX7_meets_41 (by decide) ?_
          exact b_X7_meets_J45 F A x1 x2 (1 : Int32) (((6 : Int32) * x1) + x2) X ret hB2 ih _ _ _ h hP hD hS (lv_sub hl [0, 1, 2] rfl)
def p_X7_meets_L2 (K : tF → tA → Prop) : Nat → tF → tA → Int32 → Prop
  | 0, _, _, _ => False
  | n2 + 1, F, A, x1 => (((6 : Int32) ≤ x1 → (K F A)) ∧ (¬ (6 : Int32) ≤ x1 → (∃ n10, p_X7_meets_L10 x1 (p_X7_meets_L2 K n2) K n10 F A (0 : Int32))))
set_option maxHeartbeats 4000000 in
set_option maxRecDepth 100000 in
theorem b_X7_meets_L2 {p : Program} {l : Launch} {e : Env} {s : State} {m : MethodId} {args : Array Value} {below : List Frame} {meth : Method} {c : Code} {Q : State → Prop} {D : va_G} {cI cZ cR : ClassId} {adK adV : Nat → Nat} {A9 : Nat → Prop} {o : Nat} {q : Nat → Nat} {K : tF → tA → Prop}   (X : CX p s m args c yX7_meets.cls cX7_meets 3 D cI cZ cR adK adV A9) (ret : RTv p l e (rmN 3 71) s m args below meth c Q cX7_meets D A9 (fun (u : (tF × tA)) => K u.1 u.2) (fun (u : (tF × tA)) => (wX7 cI cZ o q u.1 u.2 : va_W)))   : ∀ (n : Nat) (F : tF) (A : tA) (x1 : Int32) (H : Heap) (locs : List Loc) (ls : Array Slot), p_X7_meets_L2 K n F A x1 → va_P D vwCl (wX7 cI cZ o q F A : va_W) H → va_D A9 (wX7 cI cZ o q F A : va_W) → va_S A9 s.heap H locs → lv_has ls 3 [(0, .ref o), (1, .int x1)] → W p l e (rmN 3 71) s m args below meth c H locs 0 0 Q (F0 m 2 ls []) := by
  obtain ⟨hx, hb, hml, ht, hown, hK, hA, hE⟩ := id X
  intro n
  induction n with
  | zero => intro F A x1 H locs ls h; exact False.elim h
  | succ n2 ih =>
    intro F A x1 H locs ls h hP hD hS hl
    rw [p_X7_meets_L2] at h
    refine lv_iload_n hx hb dX7_meets_2 rfl (lv_at hl 1 rfl) ?_
    refine lv_bipush (v := 6) hx hb dX7_meets_3 (by decide) ?_
    refine lv_icmp_ge (tgt := 58) hx hb dX7_meets_5 (by decide) (fun c5 => ?_) (fun c5 => ?_)
    · replace h := h.1 c5
      exact ret (F, A) _ _ _ _ dX7_meets_58 h hP hD hS
    · replace h := h.2 c5
      refine lv_iconst (v := 0) hx hb dX7_meets_8 (by decide) ?_
      refine lv_istore_n (lv' := [(2, .int (0 : Int32)), (0, .ref o), (1, .int x1)]) hx hb dX7_meets_9 rfl hl (by decide) rfl (fun ls hl => ?_)
      obtain ⟨n10, h⟩ := h
      exact b_X7_meets_L10 x1 X ret ih n10 F A (0 : Int32) _ _ _ h hP hD hS (lv_sub hl [1, 2, 0] rfl)
def p_X7_meets (F : tF) (A : tA) (K : tF → tA → Prop) : Prop := (∃ n2, p_X7_meets_L2 K n2 F A (0 : Int32))
set_option maxHeartbeats 4000000 in
set_option maxRecDepth 100000 in
theorem w_X7_meets (l : Launch) (D : va_G) (cI cZ cR : ClassId) (adK adV : Nat → Nat) (sz : Nat) (o : Nat) (q : Nat → Nat) (F : tF) (A : tA) (K : tF → tA → Prop) (h : p_X7_meets F A K) : MV l D cI cZ cR adK adV yX7_meets cX7_meets 3 none (rmN 3 71) [.ref o] (wX7 cI cZ o q F A : va_W) sz (fun (u : (tF × tA)) => K u.1 u.2) (fun (u : (tF × tA)) => (wX7 cI cZ o q u.1 u.2 : va_W)) := by
  refine M_v (by decide +kernel) (Nat.le_of_ble_eq_true rfl) ?_
  intro p e s m args below meth c Q A9 ls X ret hP hD hS hl
  obtain ⟨hx, hb, hml, ht, hown, hK, hA, hE⟩ := id X
  have hl : lv_has ls 3 [(0, .ref o)] := hl
  unfold p_X7_meets at h
  refine lv_iconst (v := 0) hx hb dX7_meets_0 (by decide) ?_
  refine lv_istore_n (lv' := [(1, .int (0 : Int32)), (0, .ref o)]) hx hb dX7_meets_1 rfl hl (by decide) rfl (fun ls hl => ?_)
  obtain ⟨n2, h⟩ := h
  exact b_X7_meets_L2  X ret  n2 F A (0 : Int32) _ _ _ h hP hD hS (lv_sub hl [1, 0] rfl)
theorem dX7_winsBy_0 : decode cX7_winsBy 0 = .ok (.iconst 0, 1) := by decide +kernel
theorem dX7_winsBy_1 : decode cX7_winsBy 1 = .ok (.istore_n 2, 1) := by decide +kernel
theorem dX7_winsBy_2 : decode cX7_winsBy 2 = .ok (.iconst (-1), 1) := by decide +kernel
theorem dX7_winsBy_3 : decode cX7_winsBy 3 = .ok (.istore_n 3, 1) := by decide +kernel
theorem dX7_winsBy_4 : decode cX7_winsBy 4 = .ok (.ldc 254, 2) := by decide +kernel
theorem dX7_winsBy_6 : decode cX7_winsBy 6 = .ok (.istore 4, 2) := by decide +kernel
theorem dX7_winsBy_8 : decode cX7_winsBy 8 = .ok (.iload 4, 2) := by decide +kernel
theorem dX7_winsBy_10 : decode cX7_winsBy 10 = .ok (.ifCond .le 74, 3) := by decide +kernel
theorem dX7_winsBy_13 : decode cX7_winsBy 13 = .ok (.iload_n 1, 1) := by decide +kernel
theorem dX7_winsBy_14 : decode cX7_winsBy 14 = .ok (.iload 4, 2) := by decide +kernel
theorem dX7_winsBy_16 : decode cX7_winsBy 16 = .ok (.idiv, 1) := by decide +kernel
theorem dX7_winsBy_17 : decode cX7_winsBy 17 = .ok (.bipush 10, 2) := by decide +kernel
theorem dX7_winsBy_19 : decode cX7_winsBy 19 = .ok (.irem, 1) := by decide +kernel
theorem dX7_winsBy_20 : decode cX7_winsBy 20 = .ok (.istore 5, 2) := by decide +kernel
theorem dX7_winsBy_22 : decode cX7_winsBy 22 = .ok (.iload 5, 2) := by decide +kernel
theorem dX7_winsBy_24 : decode cX7_winsBy 24 = .ok (.bipush 6, 2) := by decide +kernel
theorem dX7_winsBy_26 : decode cX7_winsBy 26 = .ok (.if_icmp .ge 13, 3) := by decide +kernel
theorem dX7_winsBy_29 : decode cX7_winsBy 29 = .ok (.iload_n 2, 1) := by decide +kernel
theorem dX7_winsBy_30 : decode cX7_winsBy 30 = .ok (.iload 5, 2) := by decide +kernel
theorem dX7_winsBy_32 : decode cX7_winsBy 32 = .ok (.ishr, 1) := by decide +kernel
theorem dX7_winsBy_33 : decode cX7_winsBy 33 = .ok (.iconst 1, 1) := by decide +kernel
theorem dX7_winsBy_34 : decode cX7_winsBy 34 = .ok (.iand, 1) := by decide +kernel
theorem dX7_winsBy_35 : decode cX7_winsBy 35 = .ok (.iconst 1, 1) := by decide +kernel
theorem dX7_winsBy_36 : decode cX7_winsBy 36 = .ok (.if_icmp .ne 5, 3) := by decide +kernel
theorem dX7_winsBy_39 : decode cX7_winsBy 39 = .ok (.iconst (-1), 1) := by decide +kernel
theorem dX7_winsBy_40 : decode cX7_winsBy 40 = .ok (.ireturn, 1) := by decide +kernel
theorem dX7_winsBy_41 : decode cX7_winsBy 41 = .ok (.iload_n 2, 1) := by decide +kernel
theorem dX7_winsBy_42 : decode cX7_winsBy 42 = .ok (.iconst 1, 1) := by decide +kernel
theorem dX7_winsBy_43 : decode cX7_winsBy 43 = .ok (.iload 5, 2) := by decide +kernel
theorem dX7_winsBy_45 : decode cX7_winsBy 45 = .ok (.ishl, 1) := by decide +kernel
theorem dX7_winsBy_46 : decode cX7_winsBy 46 = .ok (.ior, 1) := by decide +kernel
theorem dX7_winsBy_47 : decode cX7_winsBy 47 = .ok (.istore_n 2, 1) := by decide +kernel
theorem dX7_winsBy_48 : decode cX7_winsBy 48 = .ok (.iload_n 3, 1) := by decide +kernel
theorem dX7_winsBy_49 : decode cX7_winsBy 49 = .ok (.ifCond .lt 18, 3) := by decide +kernel
theorem dX7_winsBy_52 : decode cX7_winsBy 52 = .ok (.aload_n 0, 1) := by decide +kernel
theorem dX7_winsBy_53 : decode cX7_winsBy 53 = .ok (.getfield 28, 3) := by decide +kernel
theorem dX7_winsBy_56 : decode cX7_winsBy 56 = .ok (.bipush 6, 2) := by decide +kernel
theorem dX7_winsBy_58 : decode cX7_winsBy 58 = .ok (.iload 5, 2) := by decide +kernel
theorem dX7_winsBy_60 : decode cX7_winsBy 60 = .ok (.imul, 1) := by decide +kernel
theorem dX7_winsBy_61 : decode cX7_winsBy 61 = .ok (.iload_n 3, 1) := by decide +kernel
theorem dX7_winsBy_62 : decode cX7_winsBy 62 = .ok (.iadd, 1) := by decide +kernel
theorem dX7_winsBy_63 : decode cX7_winsBy 63 = .ok (.baload, 1) := by decide +kernel
theorem dX7_winsBy_64 : decode cX7_winsBy 64 = .ok (.ifCond .eq 8, 3) := by decide +kernel
theorem dX7_winsBy_67 : decode cX7_winsBy 67 = .ok (.iload 5, 2) := by decide +kernel
theorem dX7_winsBy_69 : decode cX7_winsBy 69 = .ok (.goto 4, 3) := by decide +kernel
theorem dX7_winsBy_72 : decode cX7_winsBy 72 = .ok (.iload_n 3, 1) := by decide +kernel
theorem dX7_winsBy_73 : decode cX7_winsBy 73 = .ok (.istore_n 3, 1) := by decide +kernel
theorem dX7_winsBy_74 : decode cX7_winsBy 74 = .ok (.iload 4, 2) := by decide +kernel
theorem dX7_winsBy_76 : decode cX7_winsBy 76 = .ok (.bipush 10, 2) := by decide +kernel
theorem dX7_winsBy_78 : decode cX7_winsBy 78 = .ok (.idiv, 1) := by decide +kernel
theorem dX7_winsBy_79 : decode cX7_winsBy 79 = .ok (.istore 4, 2) := by decide +kernel
theorem dX7_winsBy_81 : decode cX7_winsBy 81 = .ok (.goto (-73), 3) := by decide +kernel
theorem dX7_winsBy_84 : decode cX7_winsBy 84 = .ok (.iload_n 3, 1) := by decide +kernel
theorem dX7_winsBy_85 : decode cX7_winsBy 85 = .ok (.ireturn, 1) := by decide +kernel
def p_X7_winsBy_J73 (F : tF) (A : tA) (B8 : (Int32 → Int32 → Int32 → Prop)) (K : Int32 → Prop) (x1 : Int32) (x2 : Int32) (x4 : Int32) (s0 : Int32) : Prop := (∀ y79 : Int32, y79 = (x4 / (10 : Int32)) → (B8 x2 s0 y79))
set_option maxHeartbeats 4000000 in
set_option maxRecDepth 100000 in
theorem b_X7_winsBy_J73 {p : Program} {l : Launch} {e : Env} {s : State} {m : MethodId} {args : Array Value} {below : List Frame} {meth : Method} {c : Code} {Q : State → Prop} {D : va_G} {cI cZ cR : ClassId} {adK adV : Nat → Nat} {A9 : Nat → Prop} {o : Nat} {q : Nat → Nat} {K : Int32 → Prop} {B8 : (Int32 → Int32 → Int32 → Prop)} (F : tF) (A : tA) (x1 : Int32) (x2 : Int32) (x4 : Int32) (s0 : Int32) (X : CX p s m args c yX7_winsBy.cls cX7_winsBy 6 D cI cZ cR adK adV A9) (ret : RTi p l e (rmN 0 0) s m args below meth c Q cX7_winsBy D A9 (fun (r : Int32) (u : Unit) => K r) (fun (u : Unit) => (wX7 cI cZ o q F A : va_W))) (hB8 : ∀ (x2 : Int32) (x3 : Int32) (x4 : Int32) (H : Heap) (locs : List Loc) (ls : Array Slot), B8 x2 x3 x4 → va_P D vwCl (wX7 cI cZ o q F A : va_W) H → va_D A9 (wX7 cI cZ o q F A : va_W) → va_S A9 s.heap H locs → lv_has ls 6 [(0, .ref o), (1, .int x1), (2, .int x2), (3, .int x3), (4, .int x4)] → W p l e (rmN 0 0) s m args below meth c H locs 0 0 Q (F0 m 8 ls [])) (H : Heap) (locs : List Loc) (ls : Array Slot) (h : p_X7_winsBy_J73 F A B8 K x1 x2 x4 s0) (hP : va_P D vwCl (wX7 cI cZ o q F A : va_W) H) (hD : va_D A9 (wX7 cI cZ o q F A : va_W)) (hS : va_S A9 s.heap H locs) (hl : lv_has ls 6 [(0, .ref o), (1, .int x1), (2, .int x2), (4, .int x4)]) : W p l e (rmN 0 0) s m args below meth c H locs 0 0 Q (F0 m 73 ls [.int s0]) := by
  obtain ⟨hx, hb, hml, ht, hown, hK, hA, hE⟩ := id X
  unfold p_X7_winsBy_J73 at h
  refine lv_istore_n (lv' := [(3, .int s0), (0, .ref o), (1, .int x1), (2, .int x2), (4, .int x4)]) hx hb dX7_winsBy_73 rfl hl (by decide) rfl (fun ls hl => ?_)
  refine lv_iload hx hb dX7_winsBy_74 (lv_at hl 4 rfl) ?_
  refine lv_bipush (v := 10) hx hb dX7_winsBy_76 (by decide) ?_
  refine lv_idiv hx hb dX7_winsBy_78 (by decide) ?_
  refine lv_topi (fun y79 ey79 => ?_)
  replace h := h y79 ey79
  refine lv_istore (lv' := [(4, .int y79), (3, .int s0), (0, .ref o), (1, .int x1), (2, .int x2)]) hx hb dX7_winsBy_79 hl (by decide) rfl (fun ls hl => ?_)
  refine lv_goto (tgt := 8) hx hb dX7_winsBy_81 (by decide) ?_
  exact hB8 x2 s0 y79 _ _ _ h hP hD hS (lv_sub hl [2, 3, 4, 1, 0] rfl)
def p_X7_winsBy_J67 (F : tF) (A : tA) (B8 : (Int32 → Int32 → Int32 → Prop)) (K : Int32 → Prop) (x1 : Int32) (x2 : Int32) (x4 : Int32) (x5 : Int32) : Prop := (p_X7_winsBy_J73 F A B8 K x1 x2 x4 x5)
set_option maxHeartbeats 4000000 in
set_option maxRecDepth 100000 in
theorem b_X7_winsBy_J67 {p : Program} {l : Launch} {e : Env} {s : State} {m : MethodId} {args : Array Value} {below : List Frame} {meth : Method} {c : Code} {Q : State → Prop} {D : va_G} {cI cZ cR : ClassId} {adK adV : Nat → Nat} {A9 : Nat → Prop} {o : Nat} {q : Nat → Nat} {K : Int32 → Prop} {B8 : (Int32 → Int32 → Int32 → Prop)} (F : tF) (A : tA) (x1 : Int32) (x2 : Int32) (x4 : Int32) (x5 : Int32) (X : CX p s m args c yX7_winsBy.cls cX7_winsBy 6 D cI cZ cR adK adV A9) (ret : RTi p l e (rmN 0 0) s m args below meth c Q cX7_winsBy D A9 (fun (r : Int32) (u : Unit) => K r) (fun (u : Unit) => (wX7 cI cZ o q F A : va_W))) (hB8 : ∀ (x2 : Int32) (x3 : Int32) (x4 : Int32) (H : Heap) (locs : List Loc) (ls : Array Slot), B8 x2 x3 x4 → va_P D vwCl (wX7 cI cZ o q F A : va_W) H → va_D A9 (wX7 cI cZ o q F A : va_W) → va_S A9 s.heap H locs → lv_has ls 6 [(0, .ref o), (1, .int x1), (2, .int x2), (3, .int x3), (4, .int x4)] → W p l e (rmN 0 0) s m args below meth c H locs 0 0 Q (F0 m 8 ls [])) (H : Heap) (locs : List Loc) (ls : Array Slot) (h : p_X7_winsBy_J67 F A B8 K x1 x2 x4 x5) (hP : va_P D vwCl (wX7 cI cZ o q F A : va_W) H) (hD : va_D A9 (wX7 cI cZ o q F A : va_W)) (hS : va_S A9 s.heap H locs) (hl : lv_has ls 6 [(0, .ref o), (1, .int x1), (2, .int x2), (4, .int x4), (5, .int x5)]) : W p l e (rmN 0 0) s m args below meth c H locs 0 0 Q (F0 m 67 ls []) := by
  obtain ⟨hx, hb, hml, ht, hown, hK, hA, hE⟩ := id X
  unfold p_X7_winsBy_J67 at h
  refine lv_iload hx hb dX7_winsBy_67 (lv_at hl 4 rfl) ?_
  refine lv_goto (tgt := 73) hx hb dX7_winsBy_69 (by decide) ?_
  exact b_X7_winsBy_J73 F A x1 x2 x4 x5 X ret hB8 _ _ _ h hP hD hS (lv_sub hl [0, 1, 2, 3] rfl)
def p_X7_winsBy_L8 (F : tF) (A : tA) (x1 : Int32) (K : Int32 → Prop) : Nat → Int32 → Int32 → Int32 → Prop
  | 0, _, _, _ => False
  | n8 + 1, x2, x3, x4 => ((x4 ≤ 0 → (K x3)) ∧ (¬ x4 ≤ 0 → (¬ x4 = 0 ∧ (∀ y20 : Int32, y20 = ((x1 / x4) - (x1 / x4) / (10 : Int32) * (10 : Int32)) → (((6 : Int32) ≤ y20 → (K (-1 : Int32))) ∧ (¬ (6 : Int32) ≤ y20 → ((¬ ((x2 >>> (y20 &&& 31)) &&& (1 : Int32)) = (1 : Int32) → (∀ y47 : Int32, y47 = (x2 ||| ((1 : Int32) <<< (y20 &&& 31))) → ((x3 < 0 → (p_X7_winsBy_J67 F A (p_X7_winsBy_L8 F A x1 K n8) K x1 y47 x4 y20)) ∧ (¬ x3 < 0 → (vp_in (((6 : Int32) * y20) + x3) 36 ∧ ((((A 13) ((((6 : Int32) * y20) + x3)).toNatClampNeg) = 0 → (p_X7_winsBy_J73 F A (p_X7_winsBy_L8 F A x1 K n8) K x1 y47 x4 x3)) ∧ (¬ ((A 13) ((((6 : Int32) * y20) + x3)).toNatClampNeg) = 0 → (p_X7_winsBy_J67 F A (p_X7_winsBy_L8 F A x1 K n8) K x1 y47 x4 y20)))))))) ∧ (((x2 >>> (y20 &&& 31)) &&& (1 : Int32)) = (1 : Int32) → (K (-1 : Int32))))))))))
set_option maxHeartbeats 4000000 in
set_option maxRecDepth 100000 in
theorem b_X7_winsBy_L8 {p : Program} {l : Launch} {e : Env} {s : State} {m : MethodId} {args : Array Value} {below : List Frame} {meth : Method} {c : Code} {Q : State → Prop} {D : va_G} {cI cZ cR : ClassId} {adK adV : Nat → Nat} {A9 : Nat → Prop} {o : Nat} {q : Nat → Nat} {K : Int32 → Prop}  (F : tF) (A : tA) (x1 : Int32) (X : CX p s m args c yX7_winsBy.cls cX7_winsBy 6 D cI cZ cR adK adV A9) (ret : RTi p l e (rmN 0 0) s m args below meth c Q cX7_winsBy D A9 (fun (r : Int32) (u : Unit) => K r) (fun (u : Unit) => (wX7 cI cZ o q F A : va_W)))   : ∀ (n : Nat) (x2 : Int32) (x3 : Int32) (x4 : Int32) (H : Heap) (locs : List Loc) (ls : Array Slot), p_X7_winsBy_L8 F A x1 K n x2 x3 x4 → va_P D vwCl (wX7 cI cZ o q F A : va_W) H → va_D A9 (wX7 cI cZ o q F A : va_W) → va_S A9 s.heap H locs → lv_has ls 6 [(0, .ref o), (1, .int x1), (2, .int x2), (3, .int x3), (4, .int x4)] → W p l e (rmN 0 0) s m args below meth c H locs 0 0 Q (F0 m 8 ls []) := by
  obtain ⟨hx, hb, hml, ht, hown, hK, hA, hE⟩ := id X
  intro n
  induction n with
  | zero => intro x2 x3 x4 H locs ls h; exact False.elim h
  | succ n8 ih =>
    intro x2 x3 x4 H locs ls h hP hD hS hl
    rw [p_X7_winsBy_L8] at h
    refine lv_iload hx hb dX7_winsBy_8 (lv_at hl 4 rfl) ?_
    refine lv_if_le (tgt := 84) hx hb dX7_winsBy_10 (by decide) (fun c10 => ?_) (fun c10 => ?_)
    · replace h := h.1 c10
      refine lv_iload_n hx hb dX7_winsBy_84 rfl (lv_at hl 3 rfl) ?_
      exact ret _ () _ _ _ _ dX7_winsBy_85 h hP hD hS
    · replace h := h.2 c10
      refine lv_iload_n hx hb dX7_winsBy_13 rfl (lv_at hl 1 rfl) ?_
      refine lv_iload hx hb dX7_winsBy_14 (lv_at hl 4 rfl) ?_
      obtain ⟨hz16, h⟩ := h
      refine lv_idiv hx hb dX7_winsBy_16 hz16 ?_
      refine lv_bipush (v := 10) hx hb dX7_winsBy_17 (by decide) ?_
      refine lv_irem hx hb dX7_winsBy_19 (by decide) ?_
      refine lv_topi (fun y20 ey20 => ?_)
      replace h := h y20 ey20
      refine lv_istore (lv' := [(5, .int y20), (0, .ref o), (1, .int x1), (2, .int x2), (3, .int x3), (4, .int x4)]) hx hb dX7_winsBy_20 hl (by decide) rfl (fun ls hl => ?_)
      refine lv_iload hx hb dX7_winsBy_22 (lv_at hl 0 rfl) ?_
      refine lv_bipush (v := 6) hx hb dX7_winsBy_24 (by decide) ?_
      refine lv_icmp_ge (tgt := 39) hx hb dX7_winsBy_26 (by decide) (fun c26 => ?_) (fun c26 => ?_)
      · replace h := h.1 c26
        refine lv_iconst (v := -1) hx hb dX7_winsBy_39 (by decide) ?_
        exact ret _ () _ _ _ _ dX7_winsBy_40 h hP hD hS
      · replace h := h.2 c26
        refine lv_iload_n hx hb dX7_winsBy_29 rfl (lv_at hl 3 rfl) ?_
        refine lv_iload hx hb dX7_winsBy_30 (lv_at hl 0 rfl) ?_
        refine lv_ishr hx hb dX7_winsBy_32 ?_
        refine lv_iconst (v := 1) hx hb dX7_winsBy_33 (by decide) ?_
        refine lv_iand hx hb dX7_winsBy_34 ?_
        refine lv_iconst (v := 1) hx hb dX7_winsBy_35 (by decide) ?_
        refine lv_icmp_ne (tgt := 41) hx hb dX7_winsBy_36 (by decide) (fun c36 => ?_) (fun c36 => ?_)
        · replace h := h.1 c36
          refine lv_iload_n hx hb dX7_winsBy_41 rfl (lv_at hl 3 rfl) ?_
          refine lv_iconst (v := 1) hx hb dX7_winsBy_42 (by decide) ?_
          refine lv_iload hx hb dX7_winsBy_43 (lv_at hl 0 rfl) ?_
          refine lv_ishl hx hb dX7_winsBy_45 ?_
          refine lv_ior hx hb dX7_winsBy_46 ?_
          refine lv_topi (fun y47 ey47 => ?_)
          replace h := h y47 ey47
          refine lv_istore_n (lv' := [(2, .int y47), (5, .int y20), (0, .ref o), (1, .int x1), (3, .int x3), (4, .int x4)]) hx hb dX7_winsBy_47 rfl hl (by decide) rfl (fun ls hl => ?_)
          refine lv_iload_n hx hb dX7_winsBy_48 rfl (lv_at hl 4 rfl) ?_
          refine lv_if_lt (tgt := 67) hx hb dX7_winsBy_49 (by decide) (fun c49 => ?_) (fun c49 => ?_)
          · replace h := h.1 c49
            exact b_X7_winsBy_J67 F A x1 y47 x4 y20 X ret ih _ _ _ h hP hD hS (lv_sub hl [2, 3, 0, 5, 1] rfl)
          · replace h := h.2 c49
            refine lv_aload_n hx hb dX7_winsBy_52 rfl (lv_at hl 2 rfl) ?_
            refine va_get (C := RX7) (T := TX7) (N := 28) (own := RX7) (v := .ref (q 13)) hx hb ht inlX7 hown hK hP 0 rfl rfl 13 (Nat.le_of_ble_eq_true rfl) (ht _ mw_5_13) (fun _ h9 => h9) rfl dX7_winsBy_53 ?_
            refine lv_bipush (v := 6) hx hb dX7_winsBy_56 (by decide) ?_
            refine lv_iload hx hb dX7_winsBy_58 (lv_at hl 1 rfl) ?_
            refine lv_imul hx hb dX7_winsBy_60 ?_
            refine lv_iload_n hx hb dX7_winsBy_61 rfl (lv_at hl 4 rfl) ?_
            refine lv_iadd hx hb dX7_winsBy_62 ?_
            obtain ⟨hi63, h⟩ := h
            refine g_zald (f := (A 13)) (k := ((((6 : Int32) * y20) + x3)).toNatClampNeg) hx hb hK hP 7 1 rfl rfl hi63 rfl dX7_winsBy_63 ?_
            refine lv_if_eq (tgt := 72) hx hb dX7_winsBy_64 (by decide) (fun c64 => ?_) (fun c64 => ?_)
            · replace h := h.1 c64
              refine lv_iload_n hx hb dX7_winsBy_72 rfl (lv_at hl 4 rfl) ?_
              exact b_X7_winsBy_J73 F A x1 y47 x4 x3 X ret ih _ _ _ h hP hD hS (lv_sub hl [2, 3, 0, 5] rfl)
            · replace h := h.2 c64
              exact b_X7_winsBy_J67 F A x1 y47 x4 y20 X ret ih _ _ _ h hP hD hS (lv_sub hl [2, 3, 0, 5, 1] rfl)
        · replace h := h.2 c36
          refine lv_iconst (v := -1) hx hb dX7_winsBy_39 (by decide) ?_
          exact ret _ () _ _ _ _ dX7_winsBy_40 h hP hD hS
def p_X7_winsBy (F : tF) (A : tA) (x1 : Int32) (K : Int32 → Prop) : Prop := (∃ n8, p_X7_winsBy_L8 F A x1 K n8 (0 : Int32) (-1 : Int32) (100000 : Int32))
set_option maxHeartbeats 4000000 in
set_option maxRecDepth 100000 in
theorem w_X7_winsBy (l : Launch) (D : va_G) (cI cZ cR : ClassId) (adK adV : Nat → Nat) (sz : Nat) (o : Nat) (q : Nat → Nat) (F : tF) (A : tA) (x1 : Int32) (K : Int32 → Prop) (h : p_X7_winsBy F A x1 K) : MI l D cI cZ cR adK adV yX7_winsBy cX7_winsBy 6 (some .int) (rmN 0 0) [.ref o, .int x1] (wX7 cI cZ o q F A : va_W) sz (fun (r : Int32) (u : Unit) => K r) (fun (u : Unit) => (wX7 cI cZ o q F A : va_W)) := by
  refine M_i (by decide +kernel) (Nat.le_of_ble_eq_true rfl) ?_
  intro p e s m args below meth c Q A9 ls X ret hP hD hS hl
  obtain ⟨hx, hb, hml, ht, hown, hK, hA, hE⟩ := id X
  have hl : lv_has ls 6 [(0, .ref o), (1, .int x1)] := hl
  unfold p_X7_winsBy at h
  refine lv_iconst (v := 0) hx hb dX7_winsBy_0 (by decide) ?_
  refine lv_istore_n (lv' := [(2, .int (0 : Int32)), (0, .ref o), (1, .int x1)]) hx hb dX7_winsBy_1 rfl hl (by decide) rfl (fun ls hl => ?_)
  refine lv_iconst (v := -1) hx hb dX7_winsBy_2 (by decide) ?_
  refine lv_istore_n (lv' := [(3, .int (-1 : Int32)), (2, .int (0 : Int32)), (0, .ref o), (1, .int x1)]) hx hb dX7_winsBy_3 rfl hl (by decide) rfl (fun ls hl => ?_)
  refine lv_ldc (v := 100000) hx hb hown (ht _ mw_36_10) dX7_winsBy_4 ?_
  refine lv_istore (lv' := [(4, .int (100000 : Int32)), (3, .int (-1 : Int32)), (2, .int (0 : Int32)), (0, .ref o), (1, .int x1)]) hx hb dX7_winsBy_6 hl (by decide) rfl (fun ls hl => ?_)
  obtain ⟨n8, h⟩ := h
  exact b_X7_winsBy_L8 F A x1 X ret  n8 (0 : Int32) (-1 : Int32) (100000 : Int32) _ _ _ h hP hD hS (lv_sub hl [3, 4, 2, 1, 0] rfl)
theorem cal_X7_meets : CalV yX7_meets cX7_meets 3 none 0 := ⟨mw_36_5, mw_1_5, mw_36_3, mw_36_4, ⟨by decide +kernel, by decide +kernel, by decide +kernel⟩⟩
theorem cal_X7_winsBy : CalV yX7_winsBy cX7_winsBy 6 (some .int) 1 := ⟨mw_36_9, mw_1_5, mw_36_7, mw_36_8, ⟨by decide +kernel, by decide +kernel, by decide +kernel⟩⟩
theorem dX7_asked_0 : decode cX7_asked 0 = .ok (.iload_n 1, 1) := by decide +kernel
theorem dX7_asked_1 : decode cX7_asked 1 = .ok (.i2l, 1) := by decide +kernel
theorem dX7_asked_2 : decode cX7_asked 2 = .ok (.ldc2_w 255, 3) := by decide +kernel
theorem dX7_asked_5 : decode cX7_asked 5 = .ok (.ldc2_w 257, 3) := by decide +kernel
theorem dX7_asked_8 : decode cX7_asked 8 = .ok (.invokestatic 61, 3) := by decide +kernel
theorem dX7_asked_11 : decode cX7_asked 11 = .ok (.ifCond .ne 5, 3) := by decide +kernel
theorem dX7_asked_14 : decode cX7_asked 14 = .ok (.iconst (-1), 1) := by decide +kernel
theorem dX7_asked_15 : decode cX7_asked 15 = .ok (.ireturn, 1) := by decide +kernel
theorem dX7_asked_16 : decode cX7_asked 16 = .ok (.aload_n 0, 1) := by decide +kernel
theorem dX7_asked_17 : decode cX7_asked 17 = .ok (.invokevirtual 259, 3) := by decide +kernel
theorem dX7_asked_20 : decode cX7_asked 20 = .ok (.aload_n 0, 1) := by decide +kernel
theorem dX7_asked_21 : decode cX7_asked 21 = .ok (.iload_n 1, 1) := by decide +kernel
theorem dX7_asked_22 : decode cX7_asked 22 = .ok (.invokevirtual 262, 3) := by decide +kernel
theorem dX7_asked_25 : decode cX7_asked 25 = .ok (.istore_n 2, 1) := by decide +kernel
theorem dX7_asked_26 : decode cX7_asked 26 = .ok (.iload_n 2, 1) := by decide +kernel
theorem dX7_asked_27 : decode cX7_asked 27 = .ok (.ifCond .ge 7, 3) := by decide +kernel
theorem dX7_asked_30 : decode cX7_asked 30 = .ok (.iconst (-1), 1) := by decide +kernel
theorem dX7_asked_31 : decode cX7_asked 31 = .ok (.goto 4, 3) := by decide +kernel
theorem dX7_asked_34 : decode cX7_asked 34 = .ok (.iload_n 2, 1) := by decide +kernel
theorem dX7_asked_35 : decode cX7_asked 35 = .ok (.ireturn, 1) := by decide +kernel
def p_X7_asked (F : tF) (A : tA) (x1 : Int32) (K : Int32 → tF → tA → Prop) : Prop := (p_X7_isIn ((x1).toInt64) (12345 : Int64) (543210 : Int64) (fun r8 => ((¬ r8 = 0 → (p_X7_meets F A (fun F_17 A_17 => (p_X7_winsBy F_17 A_17 x1 (fun r22 => ((0 ≤ r22 → (K r22 F_17 A_17)) ∧ (¬ 0 ≤ r22 → (K (-1 : Int32) F_17 A_17)))))))) ∧ (r8 = 0 → (K (-1 : Int32) F A)))))
set_option maxHeartbeats 4000000 in
set_option maxRecDepth 100000 in
theorem w_X7_asked (l : Launch) (D : va_G) (cI cZ cR : ClassId) (adK adV : Nat → Nat) (sz : Nat) (o : Nat) (q : Nat → Nat) (F : tF) (A : tA) (x1 : Int32) (K : Int32 → tF → tA → Prop) (h : p_X7_asked F A x1 K) : MI l D cI cZ cR adK adV yX7_asked cX7_asked 3 (some .int) (rmN 4 93) [.ref o, .int x1] (wX7 cI cZ o q F A : va_W) sz (fun (r : Int32) (u : (tF × tA)) => K r u.1 u.2) (fun (u : (tF × tA)) => (wX7 cI cZ o q u.1 u.2 : va_W)) := by
  refine M_i (by decide +kernel) (Nat.le_of_ble_eq_true rfl) ?_
  intro p e s m args below meth c Q A9 ls X ret hP hD hS hl
  obtain ⟨hx, hb, hml, ht, hown, hK, hA, hE⟩ := id X
  have hl : lv_has ls 3 [(0, .ref o), (1, .int x1)] := hl
  unfold p_X7_asked at h
  refine lv_iload_n hx hb dX7_asked_0 rfl (lv_at hl 1 rfl) ?_
  refine lv_i2l (v := (x1).toInt64) hx hb dX7_asked_1 rfl ?_
  refine lv_ldc2 (v := 12345) hx hb hown (ht _ mw_36_0) dX7_asked_2 ?_
  refine lv_ldc2 (v := 543210) hx hb hown (ht _ mw_36_1) dX7_asked_5 ?_
  refine C_si (wr := [0, 1, 2, 3, 4, 5, 6, 7, 8, 9, 10, 11, 12, 13, 14, 15].filterMap (fun i => (wX7 cI cZ o q F A : va_W)[i]?)) X hP hD hS [.long (x1).toInt64, .long (12345 : Int64), .long (543210 : Int64)] [] (w_X7_isIn l D cI cZ cR adK adV _ ((x1).toInt64) (12345 : Int64) (543210 : Int64) _ h) cal_X7_isIn mw_6_19 rfl [] [0, 1, 2, 3, 4, 5, 6, 7, 8, 9, 10, 11, 12, 13, 14, 15] [0, 1, 2, 3, 4, 5, 6, 7, 8, 9, 10, 11, 12, 13, 14, 15] (fun u => (wX7 cI cZ o q F A : va_W)) rfl rfl (fun _ => rfl) rfl ⟨rfl, rfl⟩ ⟨Nat.le_of_ble_eq_true rfl, Nat.le_of_ble_eq_true rfl⟩ hl.1 rfl (Nat.le_of_ble_eq_true rfl) ⟨Nat.zero_le _, Nat.zero_le _⟩ dX7_asked_8 (fun r8 u H locs h hP hD hS => ?_)
  refine lv_if_ne (tgt := 16) hx hb dX7_asked_11 (by decide) (fun c11 => ?_) (fun c11 => ?_)
  · replace h := h.1 c11
    refine lv_aload_n hx hb dX7_asked_16 rfl (lv_at hl 0 rfl) ?_
    refine C_vv (wr := []) X hP hD hS [] [] (w_X7_meets l D cI cZ cR adK adV _ o q F A _ h) cal_X7_meets mw_36_2 rfl [0, 1, 2, 3, 4, 5, 6, 7, 8, 9, 10, 11, 12, 13, 14, 15] [] [0, 1, 2, 3, 4, 5, 6, 7, 8, 9, 10, 11, 12, 13, 14, 15] (fun u => (wX7 cI cZ o q u.1 u.2 : va_W)) rfl rfl (fun _ => rfl) rfl 0 rfl rfl ⟨rfl, rfl⟩ ⟨Nat.le_of_ble_eq_true rfl, Nat.le_of_ble_eq_true rfl⟩ hl.1 rfl (Nat.le_of_ble_eq_true rfl) ⟨Nat.zero_le _, Nat.zero_le _⟩ dX7_asked_17 (fun u H locs h hP hD hS => ?_)
    obtain ⟨F_17, A_17⟩ := u
    try dsimp only at h
    have hP : va_P D vwCl (wX7 cI cZ o q F_17 A_17 : va_W) H := hP
    have hD : va_D A9 (wX7 cI cZ o q F_17 A_17 : va_W) := hD
    refine lv_aload_n hx hb dX7_asked_20 rfl (lv_at hl 0 rfl) ?_
    refine lv_iload_n hx hb dX7_asked_21 rfl (lv_at hl 1 rfl) ?_
    refine C_vi (wr := []) X hP hD hS [.int x1] [] (w_X7_winsBy l D cI cZ cR adK adV _ o q F_17 A_17 x1 _ h) cal_X7_winsBy mw_36_6 rfl [0, 1, 2, 3, 4, 5, 6, 7, 8, 9, 10, 11, 12, 13, 14, 15] [] [0, 1, 2, 3, 4, 5, 6, 7, 8, 9, 10, 11, 12, 13, 14, 15] (fun u => (wX7 cI cZ o q F_17 A_17 : va_W)) rfl rfl (fun _ => rfl) rfl 0 rfl rfl ⟨rfl, rfl⟩ ⟨Nat.le_of_ble_eq_true rfl, Nat.le_of_ble_eq_true rfl⟩ hl.1 rfl (Nat.le_of_ble_eq_true rfl) ⟨Nat.zero_le _, Nat.zero_le _⟩ dX7_asked_22 (fun r22 u H locs h hP hD hS => ?_)
    refine lv_istore_n (lv' := [(2, .int r22), (0, .ref o), (1, .int x1)]) hx hb dX7_asked_25 rfl hl (by decide) rfl (fun ls hl => ?_)
    refine lv_iload_n hx hb dX7_asked_26 rfl (lv_at hl 0 rfl) ?_
    refine lv_if_ge (tgt := 34) hx hb dX7_asked_27 (by decide) (fun c27 => ?_) (fun c27 => ?_)
    · replace h := h.1 c27
      refine lv_iload_n hx hb dX7_asked_34 rfl (lv_at hl 0 rfl) ?_
      exact ret _ (F_17, A_17) _ _ _ _ dX7_asked_35 h hP hD hS
    · replace h := h.2 c27
      refine lv_iconst (v := -1) hx hb dX7_asked_30 (by decide) ?_
      refine lv_goto (tgt := 35) hx hb dX7_asked_31 (by decide) ?_
      exact ret _ (F_17, A_17) _ _ _ _ dX7_asked_35 h hP hD hS
  · replace h := h.2 c11
    refine lv_iconst (v := -1) hx hb dX7_asked_14 (by decide) ?_
    exact ret _ (F, A) _ _ _ _ dX7_asked_15 h hP hD hS
theorem dX7_figures_0 : decode cX7_figures 0 = .ok (.iload_n 0, 1) := by decide +kernel
theorem dX7_figures_1 : decode cX7_figures 1 = .ok (.istore_n 1, 1) := by decide +kernel
theorem dX7_figures_2 : decode cX7_figures 2 = .ok (.sipush 720, 3) := by decide +kernel
theorem dX7_figures_5 : decode cX7_figures 5 = .ok (.istore_n 2, 1) := by decide +kernel
theorem dX7_figures_6 : decode cX7_figures 6 = .ok (.bipush 63, 2) := by decide +kernel
theorem dX7_figures_8 : decode cX7_figures 8 = .ok (.istore_n 3, 1) := by decide +kernel
theorem dX7_figures_9 : decode cX7_figures 9 = .ok (.iconst 0, 1) := by decide +kernel
theorem dX7_figures_10 : decode cX7_figures 10 = .ok (.istore 4, 2) := by decide +kernel
theorem dX7_figures_12 : decode cX7_figures 12 = .ok (.bipush 6, 2) := by decide +kernel
theorem dX7_figures_14 : decode cX7_figures 14 = .ok (.istore 5, 2) := by decide +kernel
theorem dX7_figures_16 : decode cX7_figures 16 = .ok (.iload 5, 2) := by decide +kernel
theorem dX7_figures_18 : decode cX7_figures 18 = .ok (.ifCond .le 76, 3) := by decide +kernel
theorem dX7_figures_21 : decode cX7_figures 21 = .ok (.iload_n 2, 1) := by decide +kernel
theorem dX7_figures_22 : decode cX7_figures 22 = .ok (.iload 5, 2) := by decide +kernel
theorem dX7_figures_24 : decode cX7_figures 24 = .ok (.idiv, 1) := by decide +kernel
theorem dX7_figures_25 : decode cX7_figures 25 = .ok (.istore_n 2, 1) := by decide +kernel
theorem dX7_figures_26 : decode cX7_figures 26 = .ok (.iload_n 1, 1) := by decide +kernel
theorem dX7_figures_27 : decode cX7_figures 27 = .ok (.iload_n 2, 1) := by decide +kernel
theorem dX7_figures_28 : decode cX7_figures 28 = .ok (.idiv, 1) := by decide +kernel
theorem dX7_figures_29 : decode cX7_figures 29 = .ok (.istore 6, 2) := by decide +kernel
theorem dX7_figures_31 : decode cX7_figures 31 = .ok (.iload_n 1, 1) := by decide +kernel
theorem dX7_figures_32 : decode cX7_figures 32 = .ok (.iload_n 2, 1) := by decide +kernel
theorem dX7_figures_33 : decode cX7_figures 33 = .ok (.irem, 1) := by decide +kernel
theorem dX7_figures_34 : decode cX7_figures 34 = .ok (.istore_n 1, 1) := by decide +kernel
theorem dX7_figures_35 : decode cX7_figures 35 = .ok (.iconst 0, 1) := by decide +kernel
theorem dX7_figures_36 : decode cX7_figures 36 = .ok (.istore 7, 2) := by decide +kernel
theorem dX7_figures_38 : decode cX7_figures 38 = .ok (.iload 6, 2) := by decide +kernel
theorem dX7_figures_40 : decode cX7_figures 40 = .ok (.ifCond .gt 12, 3) := by decide +kernel
theorem dX7_figures_43 : decode cX7_figures 43 = .ok (.iload_n 3, 1) := by decide +kernel
theorem dX7_figures_44 : decode cX7_figures 44 = .ok (.iload 7, 2) := by decide +kernel
theorem dX7_figures_46 : decode cX7_figures 46 = .ok (.ishr, 1) := by decide +kernel
theorem dX7_figures_47 : decode cX7_figures 47 = .ok (.iconst 1, 1) := by decide +kernel
theorem dX7_figures_48 : decode cX7_figures 48 = .ok (.iand, 1) := by decide +kernel
theorem dX7_figures_49 : decode cX7_figures 49 = .ok (.ifCond .ne 20, 3) := by decide +kernel
theorem dX7_figures_52 : decode cX7_figures 52 = .ok (.iload 6, 2) := by decide +kernel
theorem dX7_figures_54 : decode cX7_figures 54 = .ok (.iload_n 3, 1) := by decide +kernel
theorem dX7_figures_55 : decode cX7_figures 55 = .ok (.iload 7, 2) := by decide +kernel
theorem dX7_figures_57 : decode cX7_figures 57 = .ok (.ishr, 1) := by decide +kernel
theorem dX7_figures_58 : decode cX7_figures 58 = .ok (.iconst 1, 1) := by decide +kernel
theorem dX7_figures_59 : decode cX7_figures 59 = .ok (.iand, 1) := by decide +kernel
theorem dX7_figures_60 : decode cX7_figures 60 = .ok (.isub, 1) := by decide +kernel
theorem dX7_figures_61 : decode cX7_figures 61 = .ok (.istore 6, 2) := by decide +kernel
theorem dX7_figures_63 : decode cX7_figures 63 = .ok (.iinc 7 1, 3) := by decide +kernel
theorem dX7_figures_66 : decode cX7_figures 66 = .ok (.goto (-28), 3) := by decide +kernel
theorem dX7_figures_69 : decode cX7_figures 69 = .ok (.iload_n 3, 1) := by decide +kernel
theorem dX7_figures_70 : decode cX7_figures 70 = .ok (.iconst 1, 1) := by decide +kernel
theorem dX7_figures_71 : decode cX7_figures 71 = .ok (.iload 7, 2) := by decide +kernel
theorem dX7_figures_73 : decode cX7_figures 73 = .ok (.ishl, 1) := by decide +kernel
theorem dX7_figures_74 : decode cX7_figures 74 = .ok (.iconst (-1), 1) := by decide +kernel
theorem dX7_figures_75 : decode cX7_figures 75 = .ok (.ixor, 1) := by decide +kernel
theorem dX7_figures_76 : decode cX7_figures 76 = .ok (.iand, 1) := by decide +kernel
theorem dX7_figures_77 : decode cX7_figures 77 = .ok (.istore_n 3, 1) := by decide +kernel
theorem dX7_figures_78 : decode cX7_figures 78 = .ok (.bipush 10, 2) := by decide +kernel
theorem dX7_figures_80 : decode cX7_figures 80 = .ok (.iload 4, 2) := by decide +kernel
theorem dX7_figures_82 : decode cX7_figures 82 = .ok (.imul, 1) := by decide +kernel
theorem dX7_figures_83 : decode cX7_figures 83 = .ok (.iload 7, 2) := by decide +kernel
theorem dX7_figures_85 : decode cX7_figures 85 = .ok (.iadd, 1) := by decide +kernel
theorem dX7_figures_86 : decode cX7_figures 86 = .ok (.istore 4, 2) := by decide +kernel
theorem dX7_figures_88 : decode cX7_figures 88 = .ok (.iinc 5 (-1), 3) := by decide +kernel
theorem dX7_figures_91 : decode cX7_figures 91 = .ok (.goto (-75), 3) := by decide +kernel
theorem dX7_figures_94 : decode cX7_figures 94 = .ok (.iload 4, 2) := by decide +kernel
theorem dX7_figures_96 : decode cX7_figures 96 = .ok (.ireturn, 1) := by decide +kernel
def p_X7_figures_J52 (B16 : (Int32 → Int32 → Int32 → Int32 → Int32 → Prop)) (B38 : (Int32 → Int32 → Prop)) (K : Int32 → Prop) (x1 : Int32) (x2 : Int32) (x3 : Int32) (x4 : Int32) (x5 : Int32) (x6 : Int32) (x7 : Int32) : Prop := (∀ y61 : Int32, y61 = (x6 - ((x3 >>> (x7 &&& 31)) &&& (1 : Int32))) → (∀ y63 : Int32, y63 = (x7 + (1 : Int32)) → (B38 y61 y63)))
set_option maxHeartbeats 4000000 in
set_option maxRecDepth 100000 in
theorem b_X7_figures_J52 {p : Program} {l : Launch} {e : Env} {s : State} {m : MethodId} {args : Array Value} {below : List Frame} {meth : Method} {c : Code} {Q : State → Prop} {D : va_G} {cI cZ cR : ClassId} {adK adV : Nat → Nat} {A9 : Nat → Prop}  {K : Int32 → Prop} {B16 : (Int32 → Int32 → Int32 → Int32 → Int32 → Prop)} {B38 : (Int32 → Int32 → Prop)} (x1 : Int32) (x2 : Int32) (x3 : Int32) (x4 : Int32) (x5 : Int32) (x6 : Int32) (x7 : Int32) (X : CX p s m args c yX7_figures.cls cX7_figures 8 D cI cZ cR adK adV A9) (ret : RTi p l e (rmN 0 0) s m args below meth c Q cX7_figures D A9 (fun (r : Int32) (u : Unit) => K r) (fun (u : Unit) => ([] : va_W))) (hB16 : ∀ (x1 : Int32) (x2 : Int32) (x3 : Int32) (x4 : Int32) (x5 : Int32) (H : Heap) (locs : List Loc) (ls : Array Slot), B16 x1 x2 x3 x4 x5 → va_P D vwCl ([] : va_W) H → va_D A9 ([] : va_W) → va_S A9 s.heap H locs → lv_has ls 8 [(1, .int x1), (2, .int x2), (3, .int x3), (4, .int x4), (5, .int x5)] → W p l e (rmN 0 0) s m args below meth c H locs 0 0 Q (F0 m 16 ls [])) (hB38 : ∀ (x6 : Int32) (x7 : Int32) (H : Heap) (locs : List Loc) (ls : Array Slot), B38 x6 x7 → va_P D vwCl ([] : va_W) H → va_D A9 ([] : va_W) → va_S A9 s.heap H locs → lv_has ls 8 [(1, .int x1), (2, .int x2), (3, .int x3), (4, .int x4), (5, .int x5), (6, .int x6), (7, .int x7)] → W p l e (rmN 0 0) s m args below meth c H locs 0 0 Q (F0 m 38 ls [])) (H : Heap) (locs : List Loc) (ls : Array Slot) (h : p_X7_figures_J52 B16 B38 K x1 x2 x3 x4 x5 x6 x7) (hP : va_P D vwCl ([] : va_W) H) (hD : va_D A9 ([] : va_W)) (hS : va_S A9 s.heap H locs) (hl : lv_has ls 8 [(1, .int x1), (2, .int x2), (3, .int x3), (4, .int x4), (5, .int x5), (6, .int x6), (7, .int x7)]) : W p l e (rmN 0 0) s m args below meth c H locs 0 0 Q (F0 m 52 ls []) := by
  obtain ⟨hx, hb, hml, ht, hown, hK, hA, hE⟩ := id X
  unfold p_X7_figures_J52 at h
  refine lv_iload hx hb dX7_figures_52 (lv_at hl 5 rfl) ?_
  refine lv_iload_n hx hb dX7_figures_54 rfl (lv_at hl 2 rfl) ?_
  refine lv_iload hx hb dX7_figures_55 (lv_at hl 6 rfl) ?_
  refine lv_ishr hx hb dX7_figures_57 ?_
  refine lv_iconst (v := 1) hx hb dX7_figures_58 (by decide) ?_
  refine lv_iand hx hb dX7_figures_59 ?_
  refine lv_isub hx hb dX7_figures_60 ?_
  refine lv_topi (fun y61 ey61 => ?_)
  replace h := h y61 ey61
  refine lv_istore (lv' := [(6, .int y61), (1, .int x1), (2, .int x2), (3, .int x3), (4, .int x4), (5, .int x5), (7, .int x7)]) hx hb dX7_figures_61 hl (by decide) rfl (fun ls hl => ?_)
  obtain ⟨y63, ey63⟩ : ∃ y : Int32, y = (x7 + (1 : Int32)) := ⟨_, rfl⟩
  replace h := h y63 ey63
  refine lv_iinc (v := y63) (lv' := [(7, .int y63), (6, .int y61), (1, .int x1), (2, .int x2), (3, .int x3), (4, .int x4), (5, .int x5)]) hx hb dX7_figures_63 hl (k := 6) rfl (by rw [ey63]; rfl) (by decide) rfl (fun ls hl => ?_)
  refine lv_goto (tgt := 38) hx hb dX7_figures_66 (by decide) ?_
  exact hB38 y61 y63 _ _ _ h hP hD hS (lv_sub hl [2, 3, 4, 5, 6, 1, 0] rfl)
def p_X7_figures_L38 (x1 : Int32) (x2 : Int32) (x3 : Int32) (x4 : Int32) (x5 : Int32) (B16 : (Int32 → Int32 → Int32 → Int32 → Int32 → Prop)) (K : Int32 → Prop) : Nat → Int32 → Int32 → Prop
  | 0, _, _ => False
  | n38 + 1, x6, x7 => ((0 < x6 → (p_X7_figures_J52 B16 (p_X7_figures_L38 x1 x2 x3 x4 x5 B16 K n38) K x1 x2 x3 x4 x5 x6 x7)) ∧ (¬ 0 < x6 → ((¬ ((x3 >>> (x7 &&& 31)) &&& (1 : Int32)) = 0 → (∀ y77 : Int32, y77 = (x3 &&& (((1 : Int32) <<< (x7 &&& 31)) ^^^ (-1 : Int32))) → (∀ y86 : Int32, y86 = (((10 : Int32) * x4) + x7) → (∀ y88 : Int32, y88 = (x5 + (-1 : Int32)) → (B16 x1 x2 y77 y86 y88))))) ∧ (((x3 >>> (x7 &&& 31)) &&& (1 : Int32)) = 0 → (p_X7_figures_J52 B16 (p_X7_figures_L38 x1 x2 x3 x4 x5 B16 K n38) K x1 x2 x3 x4 x5 x6 x7)))))
set_option maxHeartbeats 4000000 in
set_option maxRecDepth 100000 in
theorem b_X7_figures_L38 {p : Program} {l : Launch} {e : Env} {s : State} {m : MethodId} {args : Array Value} {below : List Frame} {meth : Method} {c : Code} {Q : State → Prop} {D : va_G} {cI cZ cR : ClassId} {adK adV : Nat → Nat} {A9 : Nat → Prop}  {K : Int32 → Prop} {B16 : (Int32 → Int32 → Int32 → Int32 → Int32 → Prop)} (x1 : Int32) (x2 : Int32) (x3 : Int32) (x4 : Int32) (x5 : Int32) (X : CX p s m args c yX7_figures.cls cX7_figures 8 D cI cZ cR adK adV A9) (ret : RTi p l e (rmN 0 0) s m args below meth c Q cX7_figures D A9 (fun (r : Int32) (u : Unit) => K r) (fun (u : Unit) => ([] : va_W))) (hB16 : ∀ (x1 : Int32) (x2 : Int32) (x3 : Int32) (x4 : Int32) (x5 : Int32) (H : Heap) (locs : List Loc) (ls : Array Slot), B16 x1 x2 x3 x4 x5 → va_P D vwCl ([] : va_W) H → va_D A9 ([] : va_W) → va_S A9 s.heap H locs → lv_has ls 8 [(1, .int x1), (2, .int x2), (3, .int x3), (4, .int x4), (5, .int x5)] → W p l e (rmN 0 0) s m args below meth c H locs 0 0 Q (F0 m 16 ls []))  : ∀ (n : Nat) (x6 : Int32) (x7 : Int32) (H : Heap) (locs : List Loc) (ls : Array Slot), p_X7_figures_L38 x1 x2 x3 x4 x5 B16 K n x6 x7 → va_P D vwCl ([] : va_W) H → va_D A9 ([] : va_W) → va_S A9 s.heap H locs → lv_has ls 8 [(1, .int x1), (2, .int x2), (3, .int x3), (4, .int x4), (5, .int x5), (6, .int x6), (7, .int x7)] → W p l e (rmN 0 0) s m args below meth c H locs 0 0 Q (F0 m 38 ls []) := by
  obtain ⟨hx, hb, hml, ht, hown, hK, hA, hE⟩ := id X
  intro n
  induction n with
  | zero => intro x6 x7 H locs ls h; exact False.elim h
  | succ n38 ih =>
    intro x6 x7 H locs ls h hP hD hS hl
    rw [p_X7_figures_L38] at h
    refine lv_iload hx hb dX7_figures_38 (lv_at hl 5 rfl) ?_
    refine lv_if_gt (tgt := 52) hx hb dX7_figures_40 (by decide) (fun c40 => ?_) (fun c40 => ?_)
    · replace h := h.1 c40
      exact b_X7_figures_J52 x1 x2 x3 x4 x5 x6 x7 X ret hB16 ih _ _ _ h hP hD hS (lv_sub hl [0, 1, 2, 3, 4, 5, 6] rfl)
    · replace h := h.2 c40
      refine lv_iload_n hx hb dX7_figures_43 rfl (lv_at hl 2 rfl) ?_
      refine lv_iload hx hb dX7_figures_44 (lv_at hl 6 rfl) ?_
      refine lv_ishr hx hb dX7_figures_46 ?_
      refine lv_iconst (v := 1) hx hb dX7_figures_47 (by decide) ?_
      refine lv_iand hx hb dX7_figures_48 ?_
      refine lv_if_ne (tgt := 69) hx hb dX7_figures_49 (by decide) (fun c49 => ?_) (fun c49 => ?_)
      · replace h := h.1 c49
        refine lv_iload_n hx hb dX7_figures_69 rfl (lv_at hl 2 rfl) ?_
        refine lv_iconst (v := 1) hx hb dX7_figures_70 (by decide) ?_
        refine lv_iload hx hb dX7_figures_71 (lv_at hl 6 rfl) ?_
        refine lv_ishl hx hb dX7_figures_73 ?_
        refine lv_iconst (v := -1) hx hb dX7_figures_74 (by decide) ?_
        refine lv_ixor hx hb dX7_figures_75 ?_
        refine lv_iand hx hb dX7_figures_76 ?_
        refine lv_topi (fun y77 ey77 => ?_)
        replace h := h y77 ey77
        refine lv_istore_n (lv' := [(3, .int y77), (1, .int x1), (2, .int x2), (4, .int x4), (5, .int x5), (6, .int x6), (7, .int x7)]) hx hb dX7_figures_77 rfl hl (by decide) rfl (fun ls hl => ?_)
        refine lv_bipush (v := 10) hx hb dX7_figures_78 (by decide) ?_
        refine lv_iload hx hb dX7_figures_80 (lv_at hl 3 rfl) ?_
        refine lv_imul hx hb dX7_figures_82 ?_
        refine lv_iload hx hb dX7_figures_83 (lv_at hl 6 rfl) ?_
        refine lv_iadd hx hb dX7_figures_85 ?_
        refine lv_topi (fun y86 ey86 => ?_)
        replace h := h y86 ey86
        refine lv_istore (lv' := [(4, .int y86), (3, .int y77), (1, .int x1), (2, .int x2), (5, .int x5), (6, .int x6), (7, .int x7)]) hx hb dX7_figures_86 hl (by decide) rfl (fun ls hl => ?_)
        obtain ⟨y88, ey88⟩ : ∃ y : Int32, y = (x5 + (-1 : Int32)) := ⟨_, rfl⟩
        replace h := h y88 ey88
        refine lv_iinc (v := y88) (lv' := [(5, .int y88), (4, .int y86), (3, .int y77), (1, .int x1), (2, .int x2), (6, .int x6), (7, .int x7)]) hx hb dX7_figures_88 hl (k := 4) rfl (by rw [ey88]; rfl) (by decide) rfl (fun ls hl => ?_)
        refine lv_goto (tgt := 16) hx hb dX7_figures_91 (by decide) ?_
        exact hB16 x1 x2 y77 y86 y88 _ _ _ h hP hD hS (lv_sub hl [3, 4, 2, 1, 0] rfl)
      · replace h := h.2 c49
        exact b_X7_figures_J52 x1 x2 x3 x4 x5 x6 x7 X ret hB16 ih _ _ _ h hP hD hS (lv_sub hl [0, 1, 2, 3, 4, 5, 6] rfl)
def p_X7_figures_L16 (K : Int32 → Prop) : Nat → Int32 → Int32 → Int32 → Int32 → Int32 → Prop
  | 0, _, _, _, _, _ => False
  | n16 + 1, x1, x2, x3, x4, x5 => ((x5 ≤ 0 → (K x4)) ∧ (¬ x5 ≤ 0 → (¬ x5 = 0 ∧ (∀ y25 : Int32, y25 = (x2 / x5) → (¬ y25 = 0 ∧ (∀ y29 : Int32, y29 = (x1 / y25) → (¬ y25 = 0 ∧ (∀ y34 : Int32, y34 = (x1 - x1 / y25 * y25) → (∃ n38, p_X7_figures_L38 y34 y25 x3 x4 x5 (p_X7_figures_L16 K n16) K n38 y29 (0 : Int32))))))))))
set_option maxHeartbeats 4000000 in
set_option maxRecDepth 100000 in
theorem b_X7_figures_L16 {p : Program} {l : Launch} {e : Env} {s : State} {m : MethodId} {args : Array Value} {below : List Frame} {meth : Method} {c : Code} {Q : State → Prop} {D : va_G} {cI cZ cR : ClassId} {adK adV : Nat → Nat} {A9 : Nat → Prop}  {K : Int32 → Prop}   (X : CX p s m args c yX7_figures.cls cX7_figures 8 D cI cZ cR adK adV A9) (ret : RTi p l e (rmN 0 0) s m args below meth c Q cX7_figures D A9 (fun (r : Int32) (u : Unit) => K r) (fun (u : Unit) => ([] : va_W)))   : ∀ (n : Nat) (x1 : Int32) (x2 : Int32) (x3 : Int32) (x4 : Int32) (x5 : Int32) (H : Heap) (locs : List Loc) (ls : Array Slot), p_X7_figures_L16 K n x1 x2 x3 x4 x5 → va_P D vwCl ([] : va_W) H → va_D A9 ([] : va_W) → va_S A9 s.heap H locs → lv_has ls 8 [(1, .int x1), (2, .int x2), (3, .int x3), (4, .int x4), (5, .int x5)] → W p l e (rmN 0 0) s m args below meth c H locs 0 0 Q (F0 m 16 ls []) := by
  obtain ⟨hx, hb, hml, ht, hown, hK, hA, hE⟩ := id X
  intro n
  induction n with
  | zero => intro x1 x2 x3 x4 x5 H locs ls h; exact False.elim h
  | succ n16 ih =>
    intro x1 x2 x3 x4 x5 H locs ls h hP hD hS hl
    rw [p_X7_figures_L16] at h
    refine lv_iload hx hb dX7_figures_16 (lv_at hl 4 rfl) ?_
    refine lv_if_le (tgt := 94) hx hb dX7_figures_18 (by decide) (fun c18 => ?_) (fun c18 => ?_)
    · replace h := h.1 c18
      refine lv_iload hx hb dX7_figures_94 (lv_at hl 3 rfl) ?_
      exact ret _ () _ _ _ _ dX7_figures_96 h hP hD hS
    · replace h := h.2 c18
      refine lv_iload_n hx hb dX7_figures_21 rfl (lv_at hl 1 rfl) ?_
      refine lv_iload hx hb dX7_figures_22 (lv_at hl 4 rfl) ?_
      obtain ⟨hz24, h⟩ := h
      refine lv_idiv hx hb dX7_figures_24 hz24 ?_
      refine lv_topi (fun y25 ey25 => ?_)
      replace h := h y25 ey25
      refine lv_istore_n (lv' := [(2, .int y25), (1, .int x1), (3, .int x3), (4, .int x4), (5, .int x5)]) hx hb dX7_figures_25 rfl hl (by decide) rfl (fun ls hl => ?_)
      refine lv_iload_n hx hb dX7_figures_26 rfl (lv_at hl 1 rfl) ?_
      refine lv_iload_n hx hb dX7_figures_27 rfl (lv_at hl 0 rfl) ?_
      obtain ⟨hz28, h⟩ := h
      refine lv_idiv hx hb dX7_figures_28 hz28 ?_
      refine lv_topi (fun y29 ey29 => ?_)
      replace h := h y29 ey29
      refine lv_istore (lv' := [(6, .int y29), (2, .int y25), (1, .int x1), (3, .int x3), (4, .int x4), (5, .int x5)]) hx hb dX7_figures_29 hl (by decide) rfl (fun ls hl => ?_)
      refine lv_iload_n hx hb dX7_figures_31 rfl (lv_at hl 2 rfl) ?_
      refine lv_iload_n hx hb dX7_figures_32 rfl (lv_at hl 1 rfl) ?_
      obtain ⟨hz33, h⟩ := h
      refine lv_irem hx hb dX7_figures_33 hz33 ?_
      refine lv_topi (fun y34 ey34 => ?_)
      replace h := h y34 ey34
      refine lv_istore_n (lv' := [(1, .int y34), (6, .int y29), (2, .int y25), (3, .int x3), (4, .int x4), (5, .int x5)]) hx hb dX7_figures_34 rfl hl (by decide) rfl (fun ls hl => ?_)
      refine lv_iconst (v := 0) hx hb dX7_figures_35 (by decide) ?_
      refine lv_istore (lv' := [(7, .int (0 : Int32)), (1, .int y34), (6, .int y29), (2, .int y25), (3, .int x3), (4, .int x4), (5, .int x5)]) hx hb dX7_figures_36 hl (by decide) rfl (fun ls hl => ?_)
      obtain ⟨n38, h⟩ := h
      exact b_X7_figures_L38 y34 y25 x3 x4 x5 X ret ih n38 y29 (0 : Int32) _ _ _ h hP hD hS (lv_sub hl [1, 3, 4, 5, 6, 2, 0] rfl)
def p_X7_figures (x0 : Int32) (K : Int32 → Prop) : Prop := (∃ n16, p_X7_figures_L16 K n16 x0 (720 : Int32) (63 : Int32) (0 : Int32) (6 : Int32))
set_option maxHeartbeats 4000000 in
set_option maxRecDepth 100000 in
theorem w_X7_figures (l : Launch) (D : va_G) (cI cZ cR : ClassId) (adK adV : Nat → Nat) (sz : Nat)  (x0 : Int32) (K : Int32 → Prop) (h : p_X7_figures x0 K) : MI l D cI cZ cR adK adV yX7_figures cX7_figures 8 (some .int) (rmN 0 0) [.int x0] ([] : va_W) sz (fun (r : Int32) (u : Unit) => K r) (fun (u : Unit) => ([] : va_W)) := by
  refine M_i (by decide +kernel) (Nat.le_of_ble_eq_true rfl) ?_
  intro p e s m args below meth c Q A9 ls X ret hP hD hS hl
  obtain ⟨hx, hb, hml, ht, hown, hK, hA, hE⟩ := id X
  have hl : lv_has ls 8 [(0, .int x0)] := hl
  unfold p_X7_figures at h
  refine lv_iload_n hx hb dX7_figures_0 rfl (lv_at hl 0 rfl) ?_
  refine lv_istore_n (lv' := [(1, .int x0), (0, .int x0)]) hx hb dX7_figures_1 rfl hl (by decide) rfl (fun ls hl => ?_)
  refine lv_sipush (v := 720) hx hb dX7_figures_2 (by decide) ?_
  refine lv_istore_n (lv' := [(2, .int (720 : Int32)), (1, .int x0), (0, .int x0)]) hx hb dX7_figures_5 rfl hl (by decide) rfl (fun ls hl => ?_)
  refine lv_bipush (v := 63) hx hb dX7_figures_6 (by decide) ?_
  refine lv_istore_n (lv' := [(3, .int (63 : Int32)), (2, .int (720 : Int32)), (1, .int x0), (0, .int x0)]) hx hb dX7_figures_8 rfl hl (by decide) rfl (fun ls hl => ?_)
  refine lv_iconst (v := 0) hx hb dX7_figures_9 (by decide) ?_
  refine lv_istore (lv' := [(4, .int (0 : Int32)), (3, .int (63 : Int32)), (2, .int (720 : Int32)), (1, .int x0), (0, .int x0)]) hx hb dX7_figures_10 hl (by decide) rfl (fun ls hl => ?_)
  refine lv_bipush (v := 6) hx hb dX7_figures_12 (by decide) ?_
  refine lv_istore (lv' := [(5, .int (6 : Int32)), (4, .int (0 : Int32)), (3, .int (63 : Int32)), (2, .int (720 : Int32)), (1, .int x0), (0, .int x0)]) hx hb dX7_figures_14 hl (by decide) rfl (fun ls hl => ?_)
  obtain ⟨n16, h⟩ := h
  exact b_X7_figures_L16  X ret  n16 x0 (720 : Int32) (63 : Int32) (0 : Int32) (6 : Int32) _ _ _ h hP hD hS (lv_sub hl [4, 3, 2, 1, 0] rfl)
theorem cal_X7_figures : CalS yX7_figures cX7_figures 8 (some .int) 1 := ⟨mw_37_11, mw_1_5, mw_37_10, ⟨by decide +kernel, by decide +kernel, by decide +kernel⟩⟩
theorem dX7_agenda_0 : decode cX7_agenda 0 = .ok (.iload_n 1, 1) := by decide +kernel
theorem dX7_agenda_1 : decode cX7_agenda 1 = .ok (.invokestatic 166, 3) := by decide +kernel
theorem dX7_agenda_4 : decode cX7_agenda 4 = .ok (.ifCond .eq 13, 3) := by decide +kernel
theorem dX7_agenda_7 : decode cX7_agenda 7 = .ok (.iload_n 2, 1) := by decide +kernel
theorem dX7_agenda_8 : decode cX7_agenda 8 = .ok (.i2l, 1) := by decide +kernel
theorem dX7_agenda_9 : decode cX7_agenda 9 = .ok (.lconst 0, 1) := by decide +kernel
theorem dX7_agenda_10 : decode cX7_agenda 10 = .ok (.lconst 1, 1) := by decide +kernel
theorem dX7_agenda_11 : decode cX7_agenda 11 = .ok (.invokestatic 61, 3) := by decide +kernel
theorem dX7_agenda_14 : decode cX7_agenda 14 = .ok (.ifCond .ne 5, 3) := by decide +kernel
theorem dX7_agenda_17 : decode cX7_agenda 17 = .ok (.iconst (-1), 1) := by decide +kernel
theorem dX7_agenda_18 : decode cX7_agenda 18 = .ok (.ireturn, 1) := by decide +kernel
theorem dX7_agenda_19 : decode cX7_agenda 19 = .ok (.aload_n 0, 1) := by decide +kernel
theorem dX7_agenda_20 : decode cX7_agenda 20 = .ok (.invokevirtual 259, 3) := by decide +kernel
theorem dX7_agenda_23 : decode cX7_agenda 23 = .ok (.iconst 0, 1) := by decide +kernel
theorem dX7_agenda_24 : decode cX7_agenda 24 = .ok (.istore_n 3, 1) := by decide +kernel
theorem dX7_agenda_25 : decode cX7_agenda 25 = .ok (.bipush (-3), 2) := by decide +kernel
theorem dX7_agenda_27 : decode cX7_agenda 27 = .ok (.istore 4, 2) := by decide +kernel
theorem dX7_agenda_29 : decode cX7_agenda 29 = .ok (.iconst 0, 1) := by decide +kernel
theorem dX7_agenda_30 : decode cX7_agenda 30 = .ok (.istore 5, 2) := by decide +kernel
theorem dX7_agenda_32 : decode cX7_agenda 32 = .ok (.iload 5, 2) := by decide +kernel
theorem dX7_agenda_34 : decode cX7_agenda 34 = .ok (.sipush 720, 3) := by decide +kernel
theorem dX7_agenda_37 : decode cX7_agenda 37 = .ok (.if_icmp .ge 42, 3) := by decide +kernel
theorem dX7_agenda_40 : decode cX7_agenda 40 = .ok (.iload 5, 2) := by decide +kernel
theorem dX7_agenda_42 : decode cX7_agenda 42 = .ok (.invokestatic 265, 3) := by decide +kernel
theorem dX7_agenda_45 : decode cX7_agenda 45 = .ok (.istore 6, 2) := by decide +kernel
theorem dX7_agenda_47 : decode cX7_agenda 47 = .ok (.aload_n 0, 1) := by decide +kernel
theorem dX7_agenda_48 : decode cX7_agenda 48 = .ok (.iload 6, 2) := by decide +kernel
theorem dX7_agenda_50 : decode cX7_agenda 50 = .ok (.invokevirtual 262, 3) := by decide +kernel
theorem dX7_agenda_53 : decode cX7_agenda 53 = .ok (.iload_n 1, 1) := by decide +kernel
theorem dX7_agenda_54 : decode cX7_agenda 54 = .ok (.if_icmp .ne 19, 3) := by decide +kernel
theorem dX7_agenda_57 : decode cX7_agenda 57 = .ok (.iload_n 3, 1) := by decide +kernel
theorem dX7_agenda_58 : decode cX7_agenda 58 = .ok (.ifCond .ne 8, 3) := by decide +kernel
theorem dX7_agenda_61 : decode cX7_agenda 61 = .ok (.iload 6, 2) := by decide +kernel
theorem dX7_agenda_63 : decode cX7_agenda 63 = .ok (.goto 5, 3) := by decide +kernel
theorem dX7_agenda_66 : decode cX7_agenda 66 = .ok (.iload 4, 2) := by decide +kernel
theorem dX7_agenda_68 : decode cX7_agenda 68 = .ok (.istore 4, 2) := by decide +kernel
theorem dX7_agenda_70 : decode cX7_agenda 70 = .ok (.iinc 3 1, 3) := by decide +kernel
theorem dX7_agenda_73 : decode cX7_agenda 73 = .ok (.iinc 5 1, 3) := by decide +kernel
theorem dX7_agenda_76 : decode cX7_agenda 76 = .ok (.goto (-44), 3) := by decide +kernel
theorem dX7_agenda_79 : decode cX7_agenda 79 = .ok (.iload_n 2, 1) := by decide +kernel
theorem dX7_agenda_80 : decode cX7_agenda 80 = .ok (.ifCond .ne 7, 3) := by decide +kernel
theorem dX7_agenda_83 : decode cX7_agenda 83 = .ok (.iload_n 3, 1) := by decide +kernel
theorem dX7_agenda_84 : decode cX7_agenda 84 = .ok (.goto 5, 3) := by decide +kernel
theorem dX7_agenda_87 : decode cX7_agenda 87 = .ok (.iload 4, 2) := by decide +kernel
theorem dX7_agenda_89 : decode cX7_agenda 89 = .ok (.ireturn, 1) := by decide +kernel
def p_X7_agenda_J73 (F : tF) (A : tA) (B32 : (Int32 → Int32 → Int32 → Prop)) (K : Int32 → tF → tA → Prop) (x1 : Int32) (x2 : Int32) (x3 : Int32) (x4 : Int32) (x5 : Int32) : Prop := (∀ y73 : Int32, y73 = (x5 + (1 : Int32)) → (B32 x3 x4 y73))
set_option maxHeartbeats 4000000 in
set_option maxRecDepth 100000 in
theorem b_X7_agenda_J73 {p : Program} {l : Launch} {e : Env} {s : State} {m : MethodId} {args : Array Value} {below : List Frame} {meth : Method} {c : Code} {Q : State → Prop} {D : va_G} {cI cZ cR : ClassId} {adK adV : Nat → Nat} {A9 : Nat → Prop} {o : Nat} {q : Nat → Nat} {K : Int32 → tF → tA → Prop} {B32 : (Int32 → Int32 → Int32 → Prop)} (F : tF) (A : tA) (x1 : Int32) (x2 : Int32) (x3 : Int32) (x4 : Int32) (x5 : Int32) (X : CX p s m args c yX7_agenda.cls cX7_agenda 7 D cI cZ cR adK adV A9) (ret : RTi p l e (rmN 4 93) s m args below meth c Q cX7_agenda D A9 (fun (r : Int32) (u : (tF × tA)) => K r u.1 u.2) (fun (u : (tF × tA)) => (wX7 cI cZ o q u.1 u.2 : va_W))) (hB32 : ∀ (x3 : Int32) (x4 : Int32) (x5 : Int32) (H : Heap) (locs : List Loc) (ls : Array Slot), B32 x3 x4 x5 → va_P D vwCl (wX7 cI cZ o q F A : va_W) H → va_D A9 (wX7 cI cZ o q F A : va_W) → va_S A9 s.heap H locs → lv_has ls 7 [(0, .ref o), (1, .int x1), (2, .int x2), (3, .int x3), (4, .int x4), (5, .int x5)] → W p l e (rmN 4 93) s m args below meth c H locs 0 0 Q (F0 m 32 ls [])) (H : Heap) (locs : List Loc) (ls : Array Slot) (h : p_X7_agenda_J73 F A B32 K x1 x2 x3 x4 x5) (hP : va_P D vwCl (wX7 cI cZ o q F A : va_W) H) (hD : va_D A9 (wX7 cI cZ o q F A : va_W)) (hS : va_S A9 s.heap H locs) (hl : lv_has ls 7 [(0, .ref o), (1, .int x1), (2, .int x2), (3, .int x3), (4, .int x4), (5, .int x5)]) : W p l e (rmN 4 93) s m args below meth c H locs 0 0 Q (F0 m 73 ls []) := by
  obtain ⟨hx, hb, hml, ht, hown, hK, hA, hE⟩ := id X
  unfold p_X7_agenda_J73 at h
  obtain ⟨y73, ey73⟩ : ∃ y : Int32, y = (x5 + (1 : Int32)) := ⟨_, rfl⟩
  replace h := h y73 ey73
  refine lv_iinc (v := y73) (lv' := [(5, .int y73), (0, .ref o), (1, .int x1), (2, .int x2), (3, .int x3), (4, .int x4)]) hx hb dX7_agenda_73 hl (k := 5) rfl (by rw [ey73]; rfl) (by decide) rfl (fun ls hl => ?_)
  refine lv_goto (tgt := 32) hx hb dX7_agenda_76 (by decide) ?_
  exact hB32 x3 x4 y73 _ _ _ h hP hD hS (lv_sub hl [1, 2, 3, 4, 5, 0] rfl)
def p_X7_agenda_J68 (F : tF) (A : tA) (B32 : (Int32 → Int32 → Int32 → Prop)) (K : Int32 → tF → tA → Prop) (x1 : Int32) (x2 : Int32) (x3 : Int32) (x5 : Int32) (s0 : Int32) : Prop := (∀ y70 : Int32, y70 = (x3 + (1 : Int32)) → (p_X7_agenda_J73 F A B32 K x1 x2 y70 s0 x5))
set_option maxHeartbeats 4000000 in
set_option maxRecDepth 100000 in
theorem b_X7_agenda_J68 {p : Program} {l : Launch} {e : Env} {s : State} {m : MethodId} {args : Array Value} {below : List Frame} {meth : Method} {c : Code} {Q : State → Prop} {D : va_G} {cI cZ cR : ClassId} {adK adV : Nat → Nat} {A9 : Nat → Prop} {o : Nat} {q : Nat → Nat} {K : Int32 → tF → tA → Prop} {B32 : (Int32 → Int32 → Int32 → Prop)} (F : tF) (A : tA) (x1 : Int32) (x2 : Int32) (x3 : Int32) (x5 : Int32) (s0 : Int32) (X : CX p s m args c yX7_agenda.cls cX7_agenda 7 D cI cZ cR adK adV A9) (ret : RTi p l e (rmN 4 93) s m args below meth c Q cX7_agenda D A9 (fun (r : Int32) (u : (tF × tA)) => K r u.1 u.2) (fun (u : (tF × tA)) => (wX7 cI cZ o q u.1 u.2 : va_W))) (hB32 : ∀ (x3 : Int32) (x4 : Int32) (x5 : Int32) (H : Heap) (locs : List Loc) (ls : Array Slot), B32 x3 x4 x5 → va_P D vwCl (wX7 cI cZ o q F A : va_W) H → va_D A9 (wX7 cI cZ o q F A : va_W) → va_S A9 s.heap H locs → lv_has ls 7 [(0, .ref o), (1, .int x1), (2, .int x2), (3, .int x3), (4, .int x4), (5, .int x5)] → W p l e (rmN 4 93) s m args below meth c H locs 0 0 Q (F0 m 32 ls [])) (H : Heap) (locs : List Loc) (ls : Array Slot) (h : p_X7_agenda_J68 F A B32 K x1 x2 x3 x5 s0) (hP : va_P D vwCl (wX7 cI cZ o q F A : va_W) H) (hD : va_D A9 (wX7 cI cZ o q F A : va_W)) (hS : va_S A9 s.heap H locs) (hl : lv_has ls 7 [(0, .ref o), (1, .int x1), (2, .int x2), (3, .int x3), (5, .int x5)]) : W p l e (rmN 4 93) s m args below meth c H locs 0 0 Q (F0 m 68 ls [.int s0]) := by
  obtain ⟨hx, hb, hml, ht, hown, hK, hA, hE⟩ := id X
  unfold p_X7_agenda_J68 at h
  refine lv_istore (lv' := [(4, .int s0), (0, .ref o), (1, .int x1), (2, .int x2), (3, .int x3), (5, .int x5)]) hx hb dX7_agenda_68 hl (by decide) rfl (fun ls hl => ?_)
  obtain ⟨y70, ey70⟩ : ∃ y : Int32, y = (x3 + (1 : Int32)) := ⟨_, rfl⟩
  replace h := h y70 ey70
  refine lv_iinc (v := y70) (lv' := [(3, .int y70), (4, .int s0), (0, .ref o), (1, .int x1), (2, .int x2), (5, .int x5)]) hx hb dX7_agenda_70 hl (k := 4) rfl (by rw [ey70]; rfl) (by decide) rfl (fun ls hl => ?_)
  exact b_X7_agenda_J73 F A x1 x2 y70 s0 x5 X ret hB32 _ _ _ h hP hD hS (lv_sub hl [2, 3, 4, 0, 1, 5] rfl)
def p_X7_agenda_L32 (F : tF) (A : tA) (x1 : Int32) (x2 : Int32) (K : Int32 → tF → tA → Prop) : Nat → Int32 → Int32 → Int32 → Prop
  | 0, _, _, _ => False
  | n32 + 1, x3, x4, x5 => (((720 : Int32) ≤ x5 → ((¬ x2 = 0 → (K x4 F A)) ∧ (x2 = 0 → (K x3 F A)))) ∧ (¬ (720 : Int32) ≤ x5 → (p_X7_figures x5 (fun r42 => (p_X7_winsBy F A r42 (fun r50 => ((¬ r50 = x1 → (p_X7_agenda_J73 F A (p_X7_agenda_L32 F A x1 x2 K n32) K x1 x2 x3 x4 x5)) ∧ (r50 = x1 → ((¬ x3 = 0 → (p_X7_agenda_J68 F A (p_X7_agenda_L32 F A x1 x2 K n32) K x1 x2 x3 x5 x4)) ∧ (x3 = 0 → (p_X7_agenda_J68 F A (p_X7_agenda_L32 F A x1 x2 K n32) K x1 x2 x3 x5 r42)))))))))))
set_option maxHeartbeats 4000000 in
set_option maxRecDepth 100000 in
theorem b_X7_agenda_L32 {p : Program} {l : Launch} {e : Env} {s : State} {m : MethodId} {args : Array Value} {below : List Frame} {meth : Method} {c : Code} {Q : State → Prop} {D : va_G} {cI cZ cR : ClassId} {adK adV : Nat → Nat} {A9 : Nat → Prop} {o : Nat} {q : Nat → Nat} {K : Int32 → tF → tA → Prop}  (F : tF) (A : tA) (x1 : Int32) (x2 : Int32) (X : CX p s m args c yX7_agenda.cls cX7_agenda 7 D cI cZ cR adK adV A9) (ret : RTi p l e (rmN 4 93) s m args below meth c Q cX7_agenda D A9 (fun (r : Int32) (u : (tF × tA)) => K r u.1 u.2) (fun (u : (tF × tA)) => (wX7 cI cZ o q u.1 u.2 : va_W)))   : ∀ (n : Nat) (x3 : Int32) (x4 : Int32) (x5 : Int32) (H : Heap) (locs : List Loc) (ls : Array Slot), p_X7_agenda_L32 F A x1 x2 K n x3 x4 x5 → va_P D vwCl (wX7 cI cZ o q F A : va_W) H → va_D A9 (wX7 cI cZ o q F A : va_W) → va_S A9 s.heap H locs → lv_has ls 7 [(0, .ref o), (1, .int x1), (2, .int x2), (3, .int x3), (4, .int x4), (5, .int x5)] → W p l e (rmN 4 93) s m args below meth c H locs 0 0 Q (F0 m 32 ls []) := by
  obtain ⟨hx, hb, hml, ht, hown, hK, hA, hE⟩ := id X
  intro n
  induction n with
  | zero => intro x3 x4 x5 H locs ls h; exact False.elim h
  | succ n32 ih =>
    intro x3 x4 x5 H locs ls h hP hD hS hl
    rw [p_X7_agenda_L32] at h
    refine lv_iload hx hb dX7_agenda_32 (lv_at hl 5 rfl) ?_
    refine lv_sipush (v := 720) hx hb dX7_agenda_34 (by decide) ?_
    refine lv_icmp_ge (tgt := 79) hx hb dX7_agenda_37 (by decide) (fun c37 => ?_) (fun c37 => ?_)
    · replace h := h.1 c37
      refine lv_iload_n hx hb dX7_agenda_79 rfl (lv_at hl 2 rfl) ?_
      refine lv_if_ne (tgt := 87) hx hb dX7_agenda_80 (by decide) (fun c80 => ?_) (fun c80 => ?_)
      · replace h := h.1 c80
        refine lv_iload hx hb dX7_agenda_87 (lv_at hl 4 rfl) ?_
        exact ret _ (F, A) _ _ _ _ dX7_agenda_89 h hP hD hS
      · replace h := h.2 c80
        refine lv_iload_n hx hb dX7_agenda_83 rfl (lv_at hl 3 rfl) ?_
        refine lv_goto (tgt := 89) hx hb dX7_agenda_84 (by decide) ?_
        exact ret _ (F, A) _ _ _ _ dX7_agenda_89 h hP hD hS
    · replace h := h.2 c37
      refine lv_iload hx hb dX7_agenda_40 (lv_at hl 5 rfl) ?_
      refine C_si (wr := [0, 1, 2, 3, 4, 5, 6, 7, 8, 9, 10, 11, 12, 13, 14, 15].filterMap (fun i => (wX7 cI cZ o q F A : va_W)[i]?)) X hP hD hS [.int x5] [] (w_X7_figures l D cI cZ cR adK adV _ x5 _ h) cal_X7_figures mw_37_9 rfl [] [0, 1, 2, 3, 4, 5, 6, 7, 8, 9, 10, 11, 12, 13, 14, 15] [0, 1, 2, 3, 4, 5, 6, 7, 8, 9, 10, 11, 12, 13, 14, 15] (fun u => (wX7 cI cZ o q F A : va_W)) rfl rfl (fun _ => rfl) rfl ⟨rfl, rfl⟩ ⟨Nat.le_of_ble_eq_true rfl, Nat.le_of_ble_eq_true rfl⟩ hl.1 rfl (Nat.le_of_ble_eq_true rfl) ⟨Nat.zero_le _, Nat.zero_le _⟩ dX7_agenda_42 (fun r42 u H locs h hP hD hS => ?_)
      refine lv_istore (lv' := [(6, .int r42), (0, .ref o), (1, .int x1), (2, .int x2), (3, .int x3), (4, .int x4), (5, .int x5)]) hx hb dX7_agenda_45 hl (by decide) rfl (fun ls hl => ?_)
      refine lv_aload_n hx hb dX7_agenda_47 rfl (lv_at hl 1 rfl) ?_
      refine lv_iload hx hb dX7_agenda_48 (lv_at hl 0 rfl) ?_
      refine C_vi (wr := []) X hP hD hS [.int r42] [] (w_X7_winsBy l D cI cZ cR adK adV _ o q F A r42 _ h) cal_X7_winsBy mw_36_6 rfl [0, 1, 2, 3, 4, 5, 6, 7, 8, 9, 10, 11, 12, 13, 14, 15] [] [0, 1, 2, 3, 4, 5, 6, 7, 8, 9, 10, 11, 12, 13, 14, 15] (fun u => (wX7 cI cZ o q F A : va_W)) rfl rfl (fun _ => rfl) rfl 0 rfl rfl ⟨rfl, rfl⟩ ⟨Nat.le_of_ble_eq_true rfl, Nat.le_of_ble_eq_true rfl⟩ hl.1 rfl (Nat.le_of_ble_eq_true rfl) ⟨Nat.zero_le _, Nat.zero_le _⟩ dX7_agenda_50 (fun r50 u H locs h hP hD hS => ?_)
      refine lv_iload_n hx hb dX7_agenda_53 rfl (lv_at hl 2 rfl) ?_
      refine lv_icmp_ne (tgt := 73) hx hb dX7_agenda_54 (by decide) (fun c54 => ?_) (fun c54 => ?_)
      · replace h := h.1 c54
        exact b_X7_agenda_J73 F A x1 x2 x3 x4 x5 X ret ih _ _ _ h hP hD hS (lv_sub hl [1, 2, 3, 4, 5, 6] rfl)
      · replace h := h.2 c54
        refine lv_iload_n hx hb dX7_agenda_57 rfl (lv_at hl 4 rfl) ?_
        refine lv_if_ne (tgt := 66) hx hb dX7_agenda_58 (by decide) (fun c58 => ?_) (fun c58 => ?_)
        · replace h := h.1 c58
          refine lv_iload hx hb dX7_agenda_66 (lv_at hl 5 rfl) ?_
          exact b_X7_agenda_J68 F A x1 x2 x3 x5 x4 X ret ih _ _ _ h hP hD hS (lv_sub hl [1, 2, 3, 4, 6] rfl)
        · replace h := h.2 c58
          refine lv_iload hx hb dX7_agenda_61 (lv_at hl 0 rfl) ?_
          refine lv_goto (tgt := 68) hx hb dX7_agenda_63 (by decide) ?_
          exact b_X7_agenda_J68 F A x1 x2 x3 x5 r42 X ret ih _ _ _ h hP hD hS (lv_sub hl [1, 2, 3, 4, 6] rfl)
def p_X7_agenda (F : tF) (A : tA) (x1 : Int32) (x2 : Int32) (K : Int32 → tF → tA → Prop) : Prop := (p_X7_isPlace x1 (fun r1 => ((r1 = 0 → (K (-1 : Int32) F A)) ∧ (¬ r1 = 0 → (p_X7_isIn ((x2).toInt64) (0 : Int64) (1 : Int64) (fun r11 => ((¬ r11 = 0 → (p_X7_meets F A (fun F_20 A_20 => (∃ n32, p_X7_agenda_L32 F_20 A_20 x1 x2 K n32 (0 : Int32) (-3 : Int32) (0 : Int32))))) ∧ (r11 = 0 → (K (-1 : Int32) F A)))))))))
set_option maxHeartbeats 4000000 in
set_option maxRecDepth 100000 in
theorem w_X7_agenda (l : Launch) (D : va_G) (cI cZ cR : ClassId) (adK adV : Nat → Nat) (sz : Nat) (o : Nat) (q : Nat → Nat) (F : tF) (A : tA) (x1 : Int32) (x2 : Int32) (K : Int32 → tF → tA → Prop) (h : p_X7_agenda F A x1 x2 K) : MI l D cI cZ cR adK adV yX7_agenda cX7_agenda 7 (some .int) (rmN 4 93) [.ref o, .int x1, .int x2] (wX7 cI cZ o q F A : va_W) sz (fun (r : Int32) (u : (tF × tA)) => K r u.1 u.2) (fun (u : (tF × tA)) => (wX7 cI cZ o q u.1 u.2 : va_W)) := by
  refine M_i (by decide +kernel) (Nat.le_of_ble_eq_true rfl) ?_
  intro p e s m args below meth c Q A9 ls X ret hP hD hS hl
  obtain ⟨hx, hb, hml, ht, hown, hK, hA, hE⟩ := id X
  have hl : lv_has ls 7 [(0, .ref o), (1, .int x1), (2, .int x2)] := hl
  unfold p_X7_agenda at h
  refine lv_iload_n hx hb dX7_agenda_0 rfl (lv_at hl 1 rfl) ?_
  refine C_si (wr := [0, 1, 2, 3, 4, 5, 6, 7, 8, 9, 10, 11, 12, 13, 14, 15].filterMap (fun i => (wX7 cI cZ o q F A : va_W)[i]?)) X hP hD hS [.int x1] [] (w_X7_isPlace l D cI cZ cR adK adV _ x1 _ h) cal_X7_isPlace mw_16_21 rfl [] [0, 1, 2, 3, 4, 5, 6, 7, 8, 9, 10, 11, 12, 13, 14, 15] [0, 1, 2, 3, 4, 5, 6, 7, 8, 9, 10, 11, 12, 13, 14, 15] (fun u => (wX7 cI cZ o q F A : va_W)) rfl rfl (fun _ => rfl) rfl ⟨rfl, rfl⟩ ⟨Nat.le_of_ble_eq_true rfl, Nat.le_of_ble_eq_true rfl⟩ hl.1 rfl (Nat.le_of_ble_eq_true rfl) ⟨Nat.zero_le _, Nat.zero_le _⟩ dX7_agenda_1 (fun r1 u H locs h hP hD hS => ?_)
  refine lv_if_eq (tgt := 17) hx hb dX7_agenda_4 (by decide) (fun c4 => ?_) (fun c4 => ?_)
  · replace h := h.1 c4
    refine lv_iconst (v := -1) hx hb dX7_agenda_17 (by decide) ?_
    exact ret _ (F, A) _ _ _ _ dX7_agenda_18 h hP hD hS
  · replace h := h.2 c4
    refine lv_iload_n hx hb dX7_agenda_7 rfl (lv_at hl 2 rfl) ?_
    refine lv_i2l (v := (x2).toInt64) hx hb dX7_agenda_8 rfl ?_
    refine lv_lconst (v := 0) hx hb dX7_agenda_9 (by decide) ?_
    refine lv_lconst (v := 1) hx hb dX7_agenda_10 (by decide) ?_
    refine C_si (wr := [0, 1, 2, 3, 4, 5, 6, 7, 8, 9, 10, 11, 12, 13, 14, 15].filterMap (fun i => (wX7 cI cZ o q F A : va_W)[i]?)) X hP hD hS [.long (x2).toInt64, .long (0 : Int64), .long (1 : Int64)] [] (w_X7_isIn l D cI cZ cR adK adV _ ((x2).toInt64) (0 : Int64) (1 : Int64) _ h) cal_X7_isIn mw_6_19 rfl [] [0, 1, 2, 3, 4, 5, 6, 7, 8, 9, 10, 11, 12, 13, 14, 15] [0, 1, 2, 3, 4, 5, 6, 7, 8, 9, 10, 11, 12, 13, 14, 15] (fun u => (wX7 cI cZ o q F A : va_W)) rfl rfl (fun _ => rfl) rfl ⟨rfl, rfl⟩ ⟨Nat.le_of_ble_eq_true rfl, Nat.le_of_ble_eq_true rfl⟩ hl.1 rfl (Nat.le_of_ble_eq_true rfl) ⟨Nat.zero_le _, Nat.zero_le _⟩ dX7_agenda_11 (fun r11 u H locs h hP hD hS => ?_)
    refine lv_if_ne (tgt := 19) hx hb dX7_agenda_14 (by decide) (fun c14 => ?_) (fun c14 => ?_)
    · replace h := h.1 c14
      refine lv_aload_n hx hb dX7_agenda_19 rfl (lv_at hl 0 rfl) ?_
      refine C_vv (wr := []) X hP hD hS [] [] (w_X7_meets l D cI cZ cR adK adV _ o q F A _ h) cal_X7_meets mw_36_2 rfl [0, 1, 2, 3, 4, 5, 6, 7, 8, 9, 10, 11, 12, 13, 14, 15] [] [0, 1, 2, 3, 4, 5, 6, 7, 8, 9, 10, 11, 12, 13, 14, 15] (fun u => (wX7 cI cZ o q u.1 u.2 : va_W)) rfl rfl (fun _ => rfl) rfl 0 rfl rfl ⟨rfl, rfl⟩ ⟨Nat.le_of_ble_eq_true rfl, Nat.le_of_ble_eq_true rfl⟩ hl.1 rfl (Nat.le_of_ble_eq_true rfl) ⟨Nat.zero_le _, Nat.zero_le _⟩ dX7_agenda_20 (fun u H locs h hP hD hS => ?_)
      obtain ⟨F_20, A_20⟩ := u
      try dsimp only at h
      have hP : va_P D vwCl (wX7 cI cZ o q F_20 A_20 : va_W) H := hP
      have hD : va_D A9 (wX7 cI cZ o q F_20 A_20 : va_W) := hD
      refine lv_iconst (v := 0) hx hb dX7_agenda_23 (by decide) ?_
      refine lv_istore_n (lv' := [(3, .int (0 : Int32)), (0, .ref o), (1, .int x1), (2, .int x2)]) hx hb dX7_agenda_24 rfl hl (by decide) rfl (fun ls hl => ?_)
      refine lv_bipush (v := -3) hx hb dX7_agenda_25 (by decide) ?_
      refine lv_istore (lv' := [(4, .int (-3 : Int32)), (3, .int (0 : Int32)), (0, .ref o), (1, .int x1), (2, .int x2)]) hx hb dX7_agenda_27 hl (by decide) rfl (fun ls hl => ?_)
      refine lv_iconst (v := 0) hx hb dX7_agenda_29 (by decide) ?_
      refine lv_istore (lv' := [(5, .int (0 : Int32)), (4, .int (-3 : Int32)), (3, .int (0 : Int32)), (0, .ref o), (1, .int x1), (2, .int x2)]) hx hb dX7_agenda_30 hl (by decide) rfl (fun ls hl => ?_)
      obtain ⟨n32, h⟩ := h
      exact b_X7_agenda_L32 F_20 A_20 x1 x2 X ret  n32 (0 : Int32) (-3 : Int32) (0 : Int32) _ _ _ h hP hD hS (lv_sub hl [3, 4, 5, 2, 1, 0] rfl)
    · replace h := h.2 c14
      refine lv_iconst (v := -1) hx hb dX7_agenda_17 (by decide) ?_
      exact ret _ (F, A) _ _ _ _ dX7_agenda_18 h hP hD hS
theorem dX7_ring_0 : decode cX7_ring 0 = .ok (.aload_n 0, 1) := by decide +kernel
theorem dX7_ring_1 : decode cX7_ring 1 = .ok (.invokevirtual 259, 3) := by decide +kernel
theorem dX7_ring_4 : decode cX7_ring 4 = .ok (.iconst 0, 1) := by decide +kernel
theorem dX7_ring_5 : decode cX7_ring 5 = .ok (.istore_n 1, 1) := by decide +kernel
theorem dX7_ring_6 : decode cX7_ring 6 = .ok (.iload_n 1, 1) := by decide +kernel
theorem dX7_ring_7 : decode cX7_ring 7 = .ok (.sipush 216, 3) := by decide +kernel
theorem dX7_ring_10 : decode cX7_ring 10 = .ok (.if_icmp .ge 85, 3) := by decide +kernel
theorem dX7_ring_13 : decode cX7_ring 13 = .ok (.iload_n 1, 1) := by decide +kernel
theorem dX7_ring_14 : decode cX7_ring 14 = .ok (.bipush 36, 2) := by decide +kernel
theorem dX7_ring_16 : decode cX7_ring 16 = .ok (.idiv, 1) := by decide +kernel
theorem dX7_ring_17 : decode cX7_ring 17 = .ok (.istore_n 2, 1) := by decide +kernel
theorem dX7_ring_18 : decode cX7_ring 18 = .ok (.iload_n 1, 1) := by decide +kernel
theorem dX7_ring_19 : decode cX7_ring 19 = .ok (.bipush 6, 2) := by decide +kernel
theorem dX7_ring_21 : decode cX7_ring 21 = .ok (.idiv, 1) := by decide +kernel
theorem dX7_ring_22 : decode cX7_ring 22 = .ok (.bipush 6, 2) := by decide +kernel
theorem dX7_ring_24 : decode cX7_ring 24 = .ok (.irem, 1) := by decide +kernel
theorem dX7_ring_25 : decode cX7_ring 25 = .ok (.istore_n 3, 1) := by decide +kernel
theorem dX7_ring_26 : decode cX7_ring 26 = .ok (.iload_n 1, 1) := by decide +kernel
theorem dX7_ring_27 : decode cX7_ring 27 = .ok (.bipush 6, 2) := by decide +kernel
theorem dX7_ring_29 : decode cX7_ring 29 = .ok (.irem, 1) := by decide +kernel
theorem dX7_ring_30 : decode cX7_ring 30 = .ok (.istore 4, 2) := by decide +kernel
theorem dX7_ring_32 : decode cX7_ring 32 = .ok (.aload_n 0, 1) := by decide +kernel
theorem dX7_ring_33 : decode cX7_ring 33 = .ok (.getfield 28, 3) := by decide +kernel
theorem dX7_ring_36 : decode cX7_ring 36 = .ok (.bipush 6, 2) := by decide +kernel
theorem dX7_ring_38 : decode cX7_ring 38 = .ok (.iload_n 2, 1) := by decide +kernel
theorem dX7_ring_39 : decode cX7_ring 39 = .ok (.imul, 1) := by decide +kernel
theorem dX7_ring_40 : decode cX7_ring 40 = .ok (.iload_n 3, 1) := by decide +kernel
theorem dX7_ring_41 : decode cX7_ring 41 = .ok (.iadd, 1) := by decide +kernel
theorem dX7_ring_42 : decode cX7_ring 42 = .ok (.baload, 1) := by decide +kernel
theorem dX7_ring_43 : decode cX7_ring 43 = .ok (.ifCond .eq 46, 3) := by decide +kernel
theorem dX7_ring_46 : decode cX7_ring 46 = .ok (.aload_n 0, 1) := by decide +kernel
theorem dX7_ring_47 : decode cX7_ring 47 = .ok (.getfield 28, 3) := by decide +kernel
theorem dX7_ring_50 : decode cX7_ring 50 = .ok (.bipush 6, 2) := by decide +kernel
theorem dX7_ring_52 : decode cX7_ring 52 = .ok (.iload_n 3, 1) := by decide +kernel
theorem dX7_ring_53 : decode cX7_ring 53 = .ok (.imul, 1) := by decide +kernel
theorem dX7_ring_54 : decode cX7_ring 54 = .ok (.iload 4, 2) := by decide +kernel
theorem dX7_ring_56 : decode cX7_ring 56 = .ok (.iadd, 1) := by decide +kernel
theorem dX7_ring_57 : decode cX7_ring 57 = .ok (.baload, 1) := by decide +kernel
theorem dX7_ring_58 : decode cX7_ring 58 = .ok (.ifCond .eq 31, 3) := by decide +kernel
theorem dX7_ring_61 : decode cX7_ring 61 = .ok (.aload_n 0, 1) := by decide +kernel
theorem dX7_ring_62 : decode cX7_ring 62 = .ok (.getfield 28, 3) := by decide +kernel
theorem dX7_ring_65 : decode cX7_ring 65 = .ok (.bipush 6, 2) := by decide +kernel
theorem dX7_ring_67 : decode cX7_ring 67 = .ok (.iload 4, 2) := by decide +kernel
theorem dX7_ring_69 : decode cX7_ring 69 = .ok (.imul, 1) := by decide +kernel
theorem dX7_ring_70 : decode cX7_ring 70 = .ok (.iload_n 2, 1) := by decide +kernel
theorem dX7_ring_71 : decode cX7_ring 71 = .ok (.iadd, 1) := by decide +kernel
theorem dX7_ring_72 : decode cX7_ring 72 = .ok (.baload, 1) := by decide +kernel
theorem dX7_ring_73 : decode cX7_ring 73 = .ok (.ifCond .eq 16, 3) := by decide +kernel
theorem dX7_ring_76 : decode cX7_ring 76 = .ok (.bipush 100, 2) := by decide +kernel
theorem dX7_ring_78 : decode cX7_ring 78 = .ok (.iload_n 2, 1) := by decide +kernel
theorem dX7_ring_79 : decode cX7_ring 79 = .ok (.imul, 1) := by decide +kernel
theorem dX7_ring_80 : decode cX7_ring 80 = .ok (.bipush 10, 2) := by decide +kernel
theorem dX7_ring_82 : decode cX7_ring 82 = .ok (.iload_n 3, 1) := by decide +kernel
theorem dX7_ring_83 : decode cX7_ring 83 = .ok (.imul, 1) := by decide +kernel
theorem dX7_ring_84 : decode cX7_ring 84 = .ok (.iadd, 1) := by decide +kernel
theorem dX7_ring_85 : decode cX7_ring 85 = .ok (.iload 4, 2) := by decide +kernel
theorem dX7_ring_87 : decode cX7_ring 87 = .ok (.iadd, 1) := by decide +kernel
theorem dX7_ring_88 : decode cX7_ring 88 = .ok (.ireturn, 1) := by decide +kernel
theorem dX7_ring_89 : decode cX7_ring 89 = .ok (.iinc 1 1, 3) := by decide +kernel
theorem dX7_ring_92 : decode cX7_ring 92 = .ok (.goto (-86), 3) := by decide +kernel
theorem dX7_ring_95 : decode cX7_ring 95 = .ok (.bipush (-3), 2) := by decide +kernel
theorem dX7_ring_97 : decode cX7_ring 97 = .ok (.ireturn, 1) := by decide +kernel
def p_X7_ring_J89 (F : tF) (A : tA) (B6 : (Int32 → Prop)) (K : Int32 → tF → tA → Prop) (x1 : Int32) : Prop := (∀ y89 : Int32, y89 = (x1 + (1 : Int32)) → (B6 y89))
set_option maxHeartbeats 4000000 in
set_option maxRecDepth 100000 in
theorem b_X7_ring_J89 {p : Program} {l : Launch} {e : Env} {s : State} {m : MethodId} {args : Array Value} {below : List Frame} {meth : Method} {c : Code} {Q : State → Prop} {D : va_G} {cI cZ cR : ClassId} {adK adV : Nat → Nat} {A9 : Nat → Prop} {o : Nat} {q : Nat → Nat} {K : Int32 → tF → tA → Prop} {B6 : (Int32 → Prop)} (F : tF) (A : tA) (x1 : Int32) (X : CX p s m args c yX7_ring.cls cX7_ring 5 D cI cZ cR adK adV A9) (ret : RTi p l e (rmN 4 93) s m args below meth c Q cX7_ring D A9 (fun (r : Int32) (u : (tF × tA)) => K r u.1 u.2) (fun (u : (tF × tA)) => (wX7 cI cZ o q u.1 u.2 : va_W))) (hB6 : ∀ (x1 : Int32) (H : Heap) (locs : List Loc) (ls : Array Slot), B6 x1 → va_P D vwCl (wX7 cI cZ o q F A : va_W) H → va_D A9 (wX7 cI cZ o q F A : va_W) → va_S A9 s.heap H locs → lv_has ls 5 [(0, .ref o), (1, .int x1)] → W p l e (rmN 4 93) s m args below meth c H locs 0 0 Q (F0 m 6 ls [])) (H : Heap) (locs : List Loc) (ls : Array Slot) (h : p_X7_ring_J89 F A B6 K x1) (hP : va_P D vwCl (wX7 cI cZ o q F A : va_W) H) (hD : va_D A9 (wX7 cI cZ o q F A : va_W)) (hS : va_S A9 s.heap H locs) (hl : lv_has ls 5 [(0, .ref o), (1, .int x1)]) : W p l e (rmN 4 93) s m args below meth c H locs 0 0 Q (F0 m 89 ls []) := by
  obtain ⟨hx, hb, hml, ht, hown, hK, hA, hE⟩ := id X
  unfold p_X7_ring_J89 at h
  obtain ⟨y89, ey89⟩ : ∃ y : Int32, y = (x1 + (1 : Int32)) := ⟨_, rfl⟩
  replace h := h y89 ey89
  refine lv_iinc (v := y89) (lv' := [(1, .int y89), (0, .ref o)]) hx hb dX7_ring_89 hl (k := 1) rfl (by rw [ey89]; rfl) (by decide) rfl (fun ls hl => ?_)
  refine lv_goto (tgt := 6) hx hb dX7_ring_92 (by decide) ?_
  exact hB6 y89 _ _ _ h hP hD hS (lv_sub hl [1, 0] rfl)
def p_X7_ring_L6 (F : tF) (A : tA) (K : Int32 → tF → tA → Prop) : Nat → Int32 → Prop
  | 0, _ => False
  | n6 + 1, x1 => (((216 : Int32) ≤ x1 → (K (-3 : Int32) F A)) ∧ (¬ (216 : Int32) ≤ x1 → (∀ y17 : Int32, y17 = (x1 / (36 : Int32)) → (∀ y25 : Int32, y25 = ((x1 / (6 : Int32)) - (x1 / (6 : Int32)) / (6 : Int32) * (6 : Int32)) → (∀ y30 : Int32, y30 = (x1 - x1 / (6 : Int32) * (6 : Int32)) → (vp_in (((6 : Int32) * y17) + y25) 36 ∧ ((((A 13) ((((6 : Int32) * y17) + y25)).toNatClampNeg) = 0 → (p_X7_ring_J89 F A (p_X7_ring_L6 F A K n6) K x1)) ∧ (¬ ((A 13) ((((6 : Int32) * y17) + y25)).toNatClampNeg) = 0 → (vp_in (((6 : Int32) * y25) + y30) 36 ∧ ((((A 13) ((((6 : Int32) * y25) + y30)).toNatClampNeg) = 0 → (p_X7_ring_J89 F A (p_X7_ring_L6 F A K n6) K x1)) ∧ (¬ ((A 13) ((((6 : Int32) * y25) + y30)).toNatClampNeg) = 0 → (vp_in (((6 : Int32) * y30) + y17) 36 ∧ ((((A 13) ((((6 : Int32) * y30) + y17)).toNatClampNeg) = 0 → (p_X7_ring_J89 F A (p_X7_ring_L6 F A K n6) K x1)) ∧ (¬ ((A 13) ((((6 : Int32) * y30) + y17)).toNatClampNeg) = 0 → (K ((((100 : Int32) * y17) + ((10 : Int32) * y25)) + y30) F A)))))))))))))))
set_option maxHeartbeats 4000000 in
set_option maxRecDepth 100000 in
theorem b_X7_ring_L6 {p : Program} {l : Launch} {e : Env} {s : State} {m : MethodId} {args : Array Value} {below : List Frame} {meth : Method} {c : Code} {Q : State → Prop} {D : va_G} {cI cZ cR : ClassId} {adK adV : Nat → Nat} {A9 : Nat → Prop} {o : Nat} {q : Nat → Nat} {K : Int32 → tF → tA → Prop}  (F : tF) (A : tA) (X : CX p s m args c yX7_ring.cls cX7_ring 5 D cI cZ cR adK adV A9) (ret : RTi p l e (rmN 4 93) s m args below meth c Q cX7_ring D A9 (fun (r : Int32) (u : (tF × tA)) => K r u.1 u.2) (fun (u : (tF × tA)) => (wX7 cI cZ o q u.1 u.2 : va_W)))   : ∀ (n : Nat) (x1 : Int32) (H : Heap) (locs : List Loc) (ls : Array Slot), p_X7_ring_L6 F A K n x1 → va_P D vwCl (wX7 cI cZ o q F A : va_W) H → va_D A9 (wX7 cI cZ o q F A : va_W) → va_S A9 s.heap H locs → lv_has ls 5 [(0, .ref o), (1, .int x1)] → W p l e (rmN 4 93) s m args below meth c H locs 0 0 Q (F0 m 6 ls []) := by
  obtain ⟨hx, hb, hml, ht, hown, hK, hA, hE⟩ := id X
  intro n
  induction n with
  | zero => intro x1 H locs ls h; exact False.elim h
  | succ n6 ih =>
    intro x1 H locs ls h hP hD hS hl
    rw [p_X7_ring_L6] at h
    refine lv_iload_n hx hb dX7_ring_6 rfl (lv_at hl 1 rfl) ?_
    refine lv_sipush (v := 216) hx hb dX7_ring_7 (by decide) ?_
    refine lv_icmp_ge (tgt := 95) hx hb dX7_ring_10 (by decide) (fun c10 => ?_) (fun c10 => ?_)
    · replace h := h.1 c10
      refine lv_bipush (v := -3) hx hb dX7_ring_95 (by decide) ?_
      exact ret _ (F, A) _ _ _ _ dX7_ring_97 h hP hD hS
    · replace h := h.2 c10
      refine lv_iload_n hx hb dX7_ring_13 rfl (lv_at hl 1 rfl) ?_
      refine lv_bipush (v := 36) hx hb dX7_ring_14 (by decide) ?_
      refine lv_idiv hx hb dX7_ring_16 (by decide) ?_
      refine lv_topi (fun y17 ey17 => ?_)
      replace h := h y17 ey17
      refine lv_istore_n (lv' := [(2, .int y17), (0, .ref o), (1, .int x1)]) hx hb dX7_ring_17 rfl hl (by decide) rfl (fun ls hl => ?_)
      refine lv_iload_n hx hb dX7_ring_18 rfl (lv_at hl 2 rfl) ?_
      refine lv_bipush (v := 6) hx hb dX7_ring_19 (by decide) ?_
      refine lv_idiv hx hb dX7_ring_21 (by decide) ?_
      refine lv_bipush (v := 6) hx hb dX7_ring_22 (by decide) ?_
      refine lv_irem hx hb dX7_ring_24 (by decide) ?_
      refine lv_topi (fun y25 ey25 => ?_)
      replace h := h y25 ey25
      refine lv_istore_n (lv' := [(3, .int y25), (2, .int y17), (0, .ref o), (1, .int x1)]) hx hb dX7_ring_25 rfl hl (by decide) rfl (fun ls hl => ?_)
      refine lv_iload_n hx hb dX7_ring_26 rfl (lv_at hl 3 rfl) ?_
      refine lv_bipush (v := 6) hx hb dX7_ring_27 (by decide) ?_
      refine lv_irem hx hb dX7_ring_29 (by decide) ?_
      refine lv_topi (fun y30 ey30 => ?_)
      replace h := h y30 ey30
      refine lv_istore (lv' := [(4, .int y30), (3, .int y25), (2, .int y17), (0, .ref o), (1, .int x1)]) hx hb dX7_ring_30 hl (by decide) rfl (fun ls hl => ?_)
      refine lv_aload_n hx hb dX7_ring_32 rfl (lv_at hl 3 rfl) ?_
      refine va_get (C := RX7) (T := TX7) (N := 28) (own := RX7) (v := .ref (q 13)) hx hb ht inlX7 hown hK hP 0 rfl rfl 13 (Nat.le_of_ble_eq_true rfl) (ht _ mw_5_13) (fun _ h9 => h9) rfl dX7_ring_33 ?_
      refine lv_bipush (v := 6) hx hb dX7_ring_36 (by decide) ?_
      refine lv_iload_n hx hb dX7_ring_38 rfl (lv_at hl 2 rfl) ?_
      refine lv_imul hx hb dX7_ring_39 ?_
      refine lv_iload_n hx hb dX7_ring_40 rfl (lv_at hl 1 rfl) ?_
      refine lv_iadd hx hb dX7_ring_41 ?_
      obtain ⟨hi42, h⟩ := h
      refine g_zald (f := (A 13)) (k := ((((6 : Int32) * y17) + y25)).toNatClampNeg) hx hb hK hP 7 1 rfl rfl hi42 rfl dX7_ring_42 ?_
      refine lv_if_eq (tgt := 89) hx hb dX7_ring_43 (by decide) (fun c43 => ?_) (fun c43 => ?_)
      · replace h := h.1 c43
        exact b_X7_ring_J89 F A x1 X ret ih _ _ _ h hP hD hS (lv_sub hl [3, 4] rfl)
      · replace h := h.2 c43
        refine lv_aload_n hx hb dX7_ring_46 rfl (lv_at hl 3 rfl) ?_
        refine va_get (C := RX7) (T := TX7) (N := 28) (own := RX7) (v := .ref (q 13)) hx hb ht inlX7 hown hK hP 0 rfl rfl 13 (Nat.le_of_ble_eq_true rfl) (ht _ mw_5_13) (fun _ h9 => h9) rfl dX7_ring_47 ?_
        refine lv_bipush (v := 6) hx hb dX7_ring_50 (by decide) ?_
        refine lv_iload_n hx hb dX7_ring_52 rfl (lv_at hl 1 rfl) ?_
        refine lv_imul hx hb dX7_ring_53 ?_
        refine lv_iload hx hb dX7_ring_54 (lv_at hl 0 rfl) ?_
        refine lv_iadd hx hb dX7_ring_56 ?_
        obtain ⟨hi57, h⟩ := h
        refine g_zald (f := (A 13)) (k := ((((6 : Int32) * y25) + y30)).toNatClampNeg) hx hb hK hP 7 1 rfl rfl hi57 rfl dX7_ring_57 ?_
        refine lv_if_eq (tgt := 89) hx hb dX7_ring_58 (by decide) (fun c58 => ?_) (fun c58 => ?_)
        · replace h := h.1 c58
          exact b_X7_ring_J89 F A x1 X ret ih _ _ _ h hP hD hS (lv_sub hl [3, 4] rfl)
        · replace h := h.2 c58
          refine lv_aload_n hx hb dX7_ring_61 rfl (lv_at hl 3 rfl) ?_
          refine va_get (C := RX7) (T := TX7) (N := 28) (own := RX7) (v := .ref (q 13)) hx hb ht inlX7 hown hK hP 0 rfl rfl 13 (Nat.le_of_ble_eq_true rfl) (ht _ mw_5_13) (fun _ h9 => h9) rfl dX7_ring_62 ?_
          refine lv_bipush (v := 6) hx hb dX7_ring_65 (by decide) ?_
          refine lv_iload hx hb dX7_ring_67 (lv_at hl 0 rfl) ?_
          refine lv_imul hx hb dX7_ring_69 ?_
          refine lv_iload_n hx hb dX7_ring_70 rfl (lv_at hl 2 rfl) ?_
          refine lv_iadd hx hb dX7_ring_71 ?_
          obtain ⟨hi72, h⟩ := h
          refine g_zald (f := (A 13)) (k := ((((6 : Int32) * y30) + y17)).toNatClampNeg) hx hb hK hP 7 1 rfl rfl hi72 rfl dX7_ring_72 ?_
          refine lv_if_eq (tgt := 89) hx hb dX7_ring_73 (by decide) (fun c73 => ?_) (fun c73 => ?_)
          · replace h := h.1 c73
            exact b_X7_ring_J89 F A x1 X ret ih _ _ _ h hP hD hS (lv_sub hl [3, 4] rfl)
          · replace h := h.2 c73
            refine lv_bipush (v := 100) hx hb dX7_ring_76 (by decide) ?_
            refine lv_iload_n hx hb dX7_ring_78 rfl (lv_at hl 2 rfl) ?_
            refine lv_imul hx hb dX7_ring_79 ?_
            refine lv_bipush (v := 10) hx hb dX7_ring_80 (by decide) ?_
            refine lv_iload_n hx hb dX7_ring_82 rfl (lv_at hl 1 rfl) ?_
            refine lv_imul hx hb dX7_ring_83 ?_
            refine lv_iadd hx hb dX7_ring_84 ?_
            refine lv_iload hx hb dX7_ring_85 (lv_at hl 0 rfl) ?_
            refine lv_iadd hx hb dX7_ring_87 ?_
            exact ret _ (F, A) _ _ _ _ dX7_ring_88 h hP hD hS
def p_X7_ring (F : tF) (A : tA) (K : Int32 → tF → tA → Prop) : Prop := (p_X7_meets F A (fun F_1 A_1 => (∃ n6, p_X7_ring_L6 F_1 A_1 K n6 (0 : Int32))))
set_option maxHeartbeats 4000000 in
set_option maxRecDepth 100000 in
theorem w_X7_ring (l : Launch) (D : va_G) (cI cZ cR : ClassId) (adK adV : Nat → Nat) (sz : Nat) (o : Nat) (q : Nat → Nat) (F : tF) (A : tA) (K : Int32 → tF → tA → Prop) (h : p_X7_ring F A K) : MI l D cI cZ cR adK adV yX7_ring cX7_ring 5 (some .int) (rmN 4 93) [.ref o] (wX7 cI cZ o q F A : va_W) sz (fun (r : Int32) (u : (tF × tA)) => K r u.1 u.2) (fun (u : (tF × tA)) => (wX7 cI cZ o q u.1 u.2 : va_W)) := by
  refine M_i (by decide +kernel) (Nat.le_of_ble_eq_true rfl) ?_
  intro p e s m args below meth c Q A9 ls X ret hP hD hS hl
  obtain ⟨hx, hb, hml, ht, hown, hK, hA, hE⟩ := id X
  have hl : lv_has ls 5 [(0, .ref o)] := hl
  unfold p_X7_ring at h
  refine lv_aload_n hx hb dX7_ring_0 rfl (lv_at hl 0 rfl) ?_
  refine C_vv (wr := []) X hP hD hS [] [] (w_X7_meets l D cI cZ cR adK adV _ o q F A _ h) cal_X7_meets mw_36_2 rfl [0, 1, 2, 3, 4, 5, 6, 7, 8, 9, 10, 11, 12, 13, 14, 15] [] [0, 1, 2, 3, 4, 5, 6, 7, 8, 9, 10, 11, 12, 13, 14, 15] (fun u => (wX7 cI cZ o q u.1 u.2 : va_W)) rfl rfl (fun _ => rfl) rfl 0 rfl rfl ⟨rfl, rfl⟩ ⟨Nat.le_of_ble_eq_true rfl, Nat.le_of_ble_eq_true rfl⟩ hl.1 rfl (Nat.le_of_ble_eq_true rfl) ⟨Nat.zero_le _, Nat.zero_le _⟩ dX7_ring_1 (fun u H locs h hP hD hS => ?_)
  obtain ⟨F_1, A_1⟩ := u
  try dsimp only at h
  have hP : va_P D vwCl (wX7 cI cZ o q F_1 A_1 : va_W) H := hP
  have hD : va_D A9 (wX7 cI cZ o q F_1 A_1 : va_W) := hD
  refine lv_iconst (v := 0) hx hb dX7_ring_4 (by decide) ?_
  refine lv_istore_n (lv' := [(1, .int (0 : Int32)), (0, .ref o)]) hx hb dX7_ring_5 rfl hl (by decide) rfl (fun ls hl => ?_)
  obtain ⟨n6, h⟩ := h
  exact b_X7_ring_L6 F_1 A_1 X ret  n6 (0 : Int32) _ _ _ h hP hD hS (lv_sub hl [1, 0] rfl)
theorem dX7_sham_0 : decode cX7_sham 0 = .ok (.aload_n 0, 1) := by decide +kernel
theorem dX7_sham_1 : decode cX7_sham 1 = .ok (.iload_n 1, 1) := by decide +kernel
theorem dX7_sham_2 : decode cX7_sham 2 = .ok (.invokevirtual 178, 3) := by decide +kernel
theorem dX7_sham_5 : decode cX7_sham 5 = .ok (.ifCond .ne 5, 3) := by decide +kernel
theorem dX7_sham_8 : decode cX7_sham 8 = .ok (.iconst (-1), 1) := by decide +kernel
theorem dX7_sham_9 : decode cX7_sham 9 = .ok (.ireturn, 1) := by decide +kernel
theorem dX7_sham_10 : decode cX7_sham 10 = .ok (.aload_n 0, 1) := by decide +kernel
theorem dX7_sham_11 : decode cX7_sham 11 = .ok (.iload_n 1, 1) := by decide +kernel
theorem dX7_sham_12 : decode cX7_sham 12 = .ok (.aload_n 0, 1) := by decide +kernel
theorem dX7_sham_13 : decode cX7_sham 13 = .ok (.invokevirtual 241, 3) := by decide +kernel
theorem dX7_sham_16 : decode cX7_sham 16 = .ok (.invokevirtual 175, 3) := by decide +kernel
theorem dX7_sham_19 : decode cX7_sham 19 = .ok (.istore_n 2, 1) := by decide +kernel
theorem dX7_sham_20 : decode cX7_sham 20 = .ok (.bipush (-3), 2) := by decide +kernel
theorem dX7_sham_22 : decode cX7_sham 22 = .ok (.istore_n 3, 1) := by decide +kernel
theorem dX7_sham_23 : decode cX7_sham 23 = .ok (.iconst 0, 1) := by decide +kernel
theorem dX7_sham_24 : decode cX7_sham 24 = .ok (.istore 4, 2) := by decide +kernel
theorem dX7_sham_26 : decode cX7_sham 26 = .ok (.iload 4, 2) := by decide +kernel
theorem dX7_sham_28 : decode cX7_sham 28 = .ok (.bipush 6, 2) := by decide +kernel
theorem dX7_sham_30 : decode cX7_sham 30 = .ok (.if_icmp .ge 50, 3) := by decide +kernel
theorem dX7_sham_33 : decode cX7_sham 33 = .ok (.aload_n 0, 1) := by decide +kernel
theorem dX7_sham_34 : decode cX7_sham 34 = .ok (.iload_n 1, 1) := by decide +kernel
theorem dX7_sham_35 : decode cX7_sham 35 = .ok (.aload_n 0, 1) := by decide +kernel
theorem dX7_sham_36 : decode cX7_sham 36 = .ok (.iconst 0, 1) := by decide +kernel
theorem dX7_sham_37 : decode cX7_sham 37 = .ok (.iload_n 1, 1) := by decide +kernel
theorem dX7_sham_38 : decode cX7_sham 38 = .ok (.iload 4, 2) := by decide +kernel
theorem dX7_sham_40 : decode cX7_sham 40 = .ok (.invokevirtual 199, 3) := by decide +kernel
theorem dX7_sham_43 : decode cX7_sham 43 = .ok (.invokevirtual 175, 3) := by decide +kernel
theorem dX7_sham_46 : decode cX7_sham 46 = .ok (.istore 5, 2) := by decide +kernel
theorem dX7_sham_48 : decode cX7_sham 48 = .ok (.iload 5, 2) := by decide +kernel
theorem dX7_sham_50 : decode cX7_sham 50 = .ok (.iload_n 2, 1) := by decide +kernel
theorem dX7_sham_51 : decode cX7_sham 51 = .ok (.if_icmp .le 8, 3) := by decide +kernel
theorem dX7_sham_54 : decode cX7_sham 54 = .ok (.iload 4, 2) := by decide +kernel
theorem dX7_sham_56 : decode cX7_sham 56 = .ok (.goto 4, 3) := by decide +kernel
theorem dX7_sham_59 : decode cX7_sham 59 = .ok (.iload_n 3, 1) := by decide +kernel
theorem dX7_sham_60 : decode cX7_sham 60 = .ok (.istore_n 3, 1) := by decide +kernel
theorem dX7_sham_61 : decode cX7_sham 61 = .ok (.iload 5, 2) := by decide +kernel
theorem dX7_sham_63 : decode cX7_sham 63 = .ok (.iload_n 2, 1) := by decide +kernel
theorem dX7_sham_64 : decode cX7_sham 64 = .ok (.if_icmp .le 8, 3) := by decide +kernel
theorem dX7_sham_67 : decode cX7_sham 67 = .ok (.iload 5, 2) := by decide +kernel
theorem dX7_sham_69 : decode cX7_sham 69 = .ok (.goto 4, 3) := by decide +kernel
theorem dX7_sham_72 : decode cX7_sham 72 = .ok (.iload_n 2, 1) := by decide +kernel
theorem dX7_sham_73 : decode cX7_sham 73 = .ok (.istore_n 2, 1) := by decide +kernel
theorem dX7_sham_74 : decode cX7_sham 74 = .ok (.iinc 4 1, 3) := by decide +kernel
theorem dX7_sham_77 : decode cX7_sham 77 = .ok (.goto (-51), 3) := by decide +kernel
theorem dX7_sham_80 : decode cX7_sham 80 = .ok (.iload_n 3, 1) := by decide +kernel
theorem dX7_sham_81 : decode cX7_sham 81 = .ok (.ireturn, 1) := by decide +kernel
def p_X7_sham_J73 (F : tF) (A : tA) (B26 : (tF → tA → Int32 → Int32 → Int32 → Prop)) (K : Int32 → tF → tA → Prop) (x1 : Int32) (x3 : Int32) (x4 : Int32) (s0 : Int32) : Prop := (∀ y74 : Int32, y74 = (x4 + (1 : Int32)) → (B26 F A s0 x3 y74))
set_option maxHeartbeats 4000000 in
set_option maxRecDepth 100000 in
theorem b_X7_sham_J73 {p : Program} {l : Launch} {e : Env} {s : State} {m : MethodId} {args : Array Value} {below : List Frame} {meth : Method} {c : Code} {Q : State → Prop} {D : va_G} {cI cZ cR : ClassId} {adK adV : Nat → Nat} {A9 : Nat → Prop} {o : Nat} {q : Nat → Nat} {K : Int32 → tF → tA → Prop} {B26 : (tF → tA → Int32 → Int32 → Int32 → Prop)} (F : tF) (A : tA) (x1 : Int32) (x3 : Int32) (x4 : Int32) (s0 : Int32) (X : CX p s m args c yX7_sham.cls cX7_sham 6 D cI cZ cR adK adV A9) (ret : RTi p l e (rmN 6 139) s m args below meth c Q cX7_sham D A9 (fun (r : Int32) (u : (tF × tA)) => K r u.1 u.2) (fun (u : (tF × tA)) => (wX7 cI cZ o q u.1 u.2 : va_W))) (hB26 : ∀ (F : tF) (A : tA) (x2 : Int32) (x3 : Int32) (x4 : Int32) (H : Heap) (locs : List Loc) (ls : Array Slot), B26 F A x2 x3 x4 → va_P D vwCl (wX7 cI cZ o q F A : va_W) H → va_D A9 (wX7 cI cZ o q F A : va_W) → va_S A9 s.heap H locs → lv_has ls 6 [(0, .ref o), (1, .int x1), (2, .int x2), (3, .int x3), (4, .int x4)] → W p l e (rmN 6 139) s m args below meth c H locs 0 0 Q (F0 m 26 ls [])) (H : Heap) (locs : List Loc) (ls : Array Slot) (h : p_X7_sham_J73 F A B26 K x1 x3 x4 s0) (hP : va_P D vwCl (wX7 cI cZ o q F A : va_W) H) (hD : va_D A9 (wX7 cI cZ o q F A : va_W)) (hS : va_S A9 s.heap H locs) (hl : lv_has ls 6 [(0, .ref o), (1, .int x1), (3, .int x3), (4, .int x4)]) : W p l e (rmN 6 139) s m args below meth c H locs 0 0 Q (F0 m 73 ls [.int s0]) := by
  obtain ⟨hx, hb, hml, ht, hown, hK, hA, hE⟩ := id X
  unfold p_X7_sham_J73 at h
  refine lv_istore_n (lv' := [(2, .int s0), (0, .ref o), (1, .int x1), (3, .int x3), (4, .int x4)]) hx hb dX7_sham_73 rfl hl (by decide) rfl (fun ls hl => ?_)
  obtain ⟨y74, ey74⟩ : ∃ y : Int32, y = (x4 + (1 : Int32)) := ⟨_, rfl⟩
  replace h := h y74 ey74
  refine lv_iinc (v := y74) (lv' := [(4, .int y74), (2, .int s0), (0, .ref o), (1, .int x1), (3, .int x3)]) hx hb dX7_sham_74 hl (k := 4) rfl (by rw [ey74]; rfl) (by decide) rfl (fun ls hl => ?_)
  refine lv_goto (tgt := 26) hx hb dX7_sham_77 (by decide) ?_
  exact hB26 F A s0 x3 y74 _ _ _ h hP hD hS (lv_sub hl [2, 3, 1, 4, 0] rfl)
def p_X7_sham_J60 (F : tF) (A : tA) (B26 : (tF → tA → Int32 → Int32 → Int32 → Prop)) (K : Int32 → tF → tA → Prop) (x1 : Int32) (x2 : Int32) (x4 : Int32) (x5 : Int32) (s0 : Int32) : Prop := ((x5 ≤ x2 → (p_X7_sham_J73 F A B26 K x1 s0 x4 x2)) ∧ (¬ x5 ≤ x2 → (p_X7_sham_J73 F A B26 K x1 s0 x4 x5)))
set_option maxHeartbeats 4000000 in
set_option maxRecDepth 100000 in
theorem b_X7_sham_J60 {p : Program} {l : Launch} {e : Env} {s : State} {m : MethodId} {args : Array Value} {below : List Frame} {meth : Method} {c : Code} {Q : State → Prop} {D : va_G} {cI cZ cR : ClassId} {adK adV : Nat → Nat} {A9 : Nat → Prop} {o : Nat} {q : Nat → Nat} {K : Int32 → tF → tA → Prop} {B26 : (tF → tA → Int32 → Int32 → Int32 → Prop)} (F : tF) (A : tA) (x1 : Int32) (x2 : Int32) (x4 : Int32) (x5 : Int32) (s0 : Int32) (X : CX p s m args c yX7_sham.cls cX7_sham 6 D cI cZ cR adK adV A9) (ret : RTi p l e (rmN 6 139) s m args below meth c Q cX7_sham D A9 (fun (r : Int32) (u : (tF × tA)) => K r u.1 u.2) (fun (u : (tF × tA)) => (wX7 cI cZ o q u.1 u.2 : va_W))) (hB26 : ∀ (F : tF) (A : tA) (x2 : Int32) (x3 : Int32) (x4 : Int32) (H : Heap) (locs : List Loc) (ls : Array Slot), B26 F A x2 x3 x4 → va_P D vwCl (wX7 cI cZ o q F A : va_W) H → va_D A9 (wX7 cI cZ o q F A : va_W) → va_S A9 s.heap H locs → lv_has ls 6 [(0, .ref o), (1, .int x1), (2, .int x2), (3, .int x3), (4, .int x4)] → W p l e (rmN 6 139) s m args below meth c H locs 0 0 Q (F0 m 26 ls [])) (H : Heap) (locs : List Loc) (ls : Array Slot) (h : p_X7_sham_J60 F A B26 K x1 x2 x4 x5 s0) (hP : va_P D vwCl (wX7 cI cZ o q F A : va_W) H) (hD : va_D A9 (wX7 cI cZ o q F A : va_W)) (hS : va_S A9 s.heap H locs) (hl : lv_has ls 6 [(0, .ref o), (1, .int x1), (2, .int x2), (4, .int x4), (5, .int x5)]) : W p l e (rmN 6 139) s m args below meth c H locs 0 0 Q (F0 m 60 ls [.int s0]) := by
  obtain ⟨hx, hb, hml, ht, hown, hK, hA, hE⟩ := id X
  unfold p_X7_sham_J60 at h
  refine lv_istore_n (lv' := [(3, .int s0), (0, .ref o), (1, .int x1), (2, .int x2), (4, .int x4), (5, .int x5)]) hx hb dX7_sham_60 rfl hl (by decide) rfl (fun ls hl => ?_)
  refine lv_iload hx hb dX7_sham_61 (lv_at hl 5 rfl) ?_
  refine lv_iload_n hx hb dX7_sham_63 rfl (lv_at hl 3 rfl) ?_
  refine lv_icmp_le (tgt := 72) hx hb dX7_sham_64 (by decide) (fun c64 => ?_) (fun c64 => ?_)
  · replace h := h.1 c64
    refine lv_iload_n hx hb dX7_sham_72 rfl (lv_at hl 3 rfl) ?_
    exact b_X7_sham_J73 F A x1 s0 x4 x2 X ret hB26 _ _ _ h hP hD hS (lv_sub hl [1, 2, 0, 4] rfl)
  · replace h := h.2 c64
    refine lv_iload hx hb dX7_sham_67 (lv_at hl 5 rfl) ?_
    refine lv_goto (tgt := 73) hx hb dX7_sham_69 (by decide) ?_
    exact b_X7_sham_J73 F A x1 s0 x4 x5 X ret hB26 _ _ _ h hP hD hS (lv_sub hl [1, 2, 0, 4] rfl)
def p_X7_sham_L26 (x1 : Int32) (K : Int32 → tF → tA → Prop) : Nat → tF → tA → Int32 → Int32 → Int32 → Prop
  | 0, _, _, _, _, _ => False
  | n26 + 1, F, A, x2, x3, x4 => (((6 : Int32) ≤ x4 → (K x3 F A)) ∧ (¬ (6 : Int32) ≤ x4 → (p_X7_winnerOf F A (0 : Int32) x1 x4 (fun r40 F_40 A_40 => (p_X7_worthOf F_40 A_40 x1 r40 (fun r43 => ((r43 ≤ x2 → (p_X7_sham_J60 F_40 A_40 (p_X7_sham_L26 x1 K n26) K x1 x2 x4 r43 x3)) ∧ (¬ r43 ≤ x2 → (p_X7_sham_J60 F_40 A_40 (p_X7_sham_L26 x1 K n26) K x1 x2 x4 r43 x4)))))))))
set_option maxHeartbeats 4000000 in
set_option maxRecDepth 100000 in
theorem b_X7_sham_L26 {p : Program} {l : Launch} {e : Env} {s : State} {m : MethodId} {args : Array Value} {below : List Frame} {meth : Method} {c : Code} {Q : State → Prop} {D : va_G} {cI cZ cR : ClassId} {adK adV : Nat → Nat} {A9 : Nat → Prop} {o : Nat} {q : Nat → Nat} {K : Int32 → tF → tA → Prop}  (x1 : Int32) (X : CX p s m args c yX7_sham.cls cX7_sham 6 D cI cZ cR adK adV A9) (ret : RTi p l e (rmN 6 139) s m args below meth c Q cX7_sham D A9 (fun (r : Int32) (u : (tF × tA)) => K r u.1 u.2) (fun (u : (tF × tA)) => (wX7 cI cZ o q u.1 u.2 : va_W)))   : ∀ (n : Nat) (F : tF) (A : tA) (x2 : Int32) (x3 : Int32) (x4 : Int32) (H : Heap) (locs : List Loc) (ls : Array Slot), p_X7_sham_L26 x1 K n F A x2 x3 x4 → va_P D vwCl (wX7 cI cZ o q F A : va_W) H → va_D A9 (wX7 cI cZ o q F A : va_W) → va_S A9 s.heap H locs → lv_has ls 6 [(0, .ref o), (1, .int x1), (2, .int x2), (3, .int x3), (4, .int x4)] → W p l e (rmN 6 139) s m args below meth c H locs 0 0 Q (F0 m 26 ls []) := by
  obtain ⟨hx, hb, hml, ht, hown, hK, hA, hE⟩ := id X
  intro n
  induction n with
  | zero => intro F A x2 x3 x4 H locs ls h; exact False.elim h
  | succ n26 ih =>
    intro F A x2 x3 x4 H locs ls h hP hD hS hl
    rw [p_X7_sham_L26] at h
    refine lv_iload hx hb dX7_sham_26 (lv_at hl 4 rfl) ?_
    refine lv_bipush (v := 6) hx hb dX7_sham_28 (by decide) ?_
    refine lv_icmp_ge (tgt := 80) hx hb dX7_sham_30 (by decide) (fun c30 => ?_) (fun c30 => ?_)
    · replace h := h.1 c30
      refine lv_iload_n hx hb dX7_sham_80 rfl (lv_at hl 3 rfl) ?_
      exact ret _ (F, A) _ _ _ _ dX7_sham_81 h hP hD hS
    · replace h := h.2 c30
      refine lv_aload_n hx hb dX7_sham_33 rfl (lv_at hl 0 rfl) ?_
      refine lv_iload_n hx hb dX7_sham_34 rfl (lv_at hl 1 rfl) ?_
      refine lv_aload_n hx hb dX7_sham_35 rfl (lv_at hl 0 rfl) ?_
      refine lv_iconst (v := 0) hx hb dX7_sham_36 (by decide) ?_
      refine lv_iload_n hx hb dX7_sham_37 rfl (lv_at hl 1 rfl) ?_
      refine lv_iload hx hb dX7_sham_38 (lv_at hl 4 rfl) ?_
      refine C_vi (wr := []) X hP hD hS [.int (0 : Int32), .int x1, .int x4] [.int x1, .ref o] (w_X7_winnerOf l D cI cZ cR adK adV _ o q F A (0 : Int32) x1 x4 _ h) cal_X7_winnerOf mw_24_12 rfl [0, 1, 2, 3, 4, 5, 6, 7, 8, 9, 10, 11, 12, 13, 14, 15] [] [0, 1, 2, 3, 4, 5, 6, 7, 8, 9, 10, 11, 12, 13, 14, 15] (fun u => (wX7 cI cZ o q u.1 u.2 : va_W)) rfl rfl (fun _ => rfl) rfl 0 rfl rfl ⟨rfl, rfl⟩ ⟨Nat.le_of_ble_eq_true rfl, Nat.le_of_ble_eq_true rfl⟩ hl.1 rfl (Nat.le_of_ble_eq_true rfl) ⟨Nat.zero_le _, Nat.zero_le _⟩ dX7_sham_40 (fun r40 u H locs h hP hD hS => ?_)
      obtain ⟨F_40, A_40⟩ := u
      try dsimp only at h
      have hP : va_P D vwCl (wX7 cI cZ o q F_40 A_40 : va_W) H := hP
      have hD : va_D A9 (wX7 cI cZ o q F_40 A_40 : va_W) := hD
      refine C_vi (wr := []) X hP hD hS [.int x1, .int r40] [] (w_X7_worthOf l D cI cZ cR adK adV _ o q F_40 A_40 x1 r40 _ h) cal_X7_worthOf mw_19_4 rfl [0, 1, 2, 3, 4, 5, 6, 7, 8, 9, 10, 11, 12, 13, 14, 15] [] [0, 1, 2, 3, 4, 5, 6, 7, 8, 9, 10, 11, 12, 13, 14, 15] (fun u => (wX7 cI cZ o q F_40 A_40 : va_W)) rfl rfl (fun _ => rfl) rfl 0 rfl rfl ⟨rfl, rfl⟩ ⟨Nat.le_of_ble_eq_true rfl, Nat.le_of_ble_eq_true rfl⟩ hl.1 rfl (Nat.le_of_ble_eq_true rfl) ⟨Nat.zero_le _, Nat.zero_le _⟩ dX7_sham_43 (fun r43 u H locs h hP hD hS => ?_)
      refine lv_istore (lv' := [(5, .int r43), (0, .ref o), (1, .int x1), (2, .int x2), (3, .int x3), (4, .int x4)]) hx hb dX7_sham_46 hl (by decide) rfl (fun ls hl => ?_)
      refine lv_iload hx hb dX7_sham_48 (lv_at hl 0 rfl) ?_
      refine lv_iload_n hx hb dX7_sham_50 rfl (lv_at hl 3 rfl) ?_
      refine lv_icmp_le (tgt := 59) hx hb dX7_sham_51 (by decide) (fun c51 => ?_) (fun c51 => ?_)
      · replace h := h.1 c51
        refine lv_iload_n hx hb dX7_sham_59 rfl (lv_at hl 4 rfl) ?_
        exact b_X7_sham_J60 F_40 A_40 x1 x2 x4 r43 x3 X ret ih _ _ _ h hP hD hS (lv_sub hl [1, 2, 3, 5, 0] rfl)
      · replace h := h.2 c51
        refine lv_iload hx hb dX7_sham_54 (lv_at hl 5 rfl) ?_
        refine lv_goto (tgt := 60) hx hb dX7_sham_56 (by decide) ?_
        exact b_X7_sham_J60 F_40 A_40 x1 x2 x4 r43 x4 X ret ih _ _ _ h hP hD hS (lv_sub hl [1, 2, 3, 5, 0] rfl)
def p_X7_sham (F : tF) (A : tA) (x1 : Int32) (K : Int32 → tF → tA → Prop) : Prop := (p_X7_isOne F A x1 (fun r2 => ((¬ r2 = 0 → (p_X7_winner F A (fun r13 F_13 A_13 => (p_X7_worthOf F_13 A_13 x1 r13 (fun r16 => (∃ n26, p_X7_sham_L26 x1 K n26 F_13 A_13 r16 (-3 : Int32) (0 : Int32))))))) ∧ (r2 = 0 → (K (-1 : Int32) F A)))))
set_option maxHeartbeats 4000000 in
set_option maxRecDepth 100000 in
theorem w_X7_sham (l : Launch) (D : va_G) (cI cZ cR : ClassId) (adK adV : Nat → Nat) (sz : Nat) (o : Nat) (q : Nat → Nat) (F : tF) (A : tA) (x1 : Int32) (K : Int32 → tF → tA → Prop) (h : p_X7_sham F A x1 K) : MI l D cI cZ cR adK adV yX7_sham cX7_sham 6 (some .int) (rmN 6 139) [.ref o, .int x1] (wX7 cI cZ o q F A : va_W) sz (fun (r : Int32) (u : (tF × tA)) => K r u.1 u.2) (fun (u : (tF × tA)) => (wX7 cI cZ o q u.1 u.2 : va_W)) := by
  refine M_i (by decide +kernel) (Nat.le_of_ble_eq_true rfl) ?_
  intro p e s m args below meth c Q A9 ls X ret hP hD hS hl
  obtain ⟨hx, hb, hml, ht, hown, hK, hA, hE⟩ := id X
  have hl : lv_has ls 6 [(0, .ref o), (1, .int x1)] := hl
  unfold p_X7_sham at h
  refine lv_aload_n hx hb dX7_sham_0 rfl (lv_at hl 0 rfl) ?_
  refine lv_iload_n hx hb dX7_sham_1 rfl (lv_at hl 1 rfl) ?_
  refine C_vi (wr := []) X hP hD hS [.int x1] [] (w_X7_isOne l D cI cZ cR adK adV _ o q F A x1 _ h) cal_X7_isOne mw_18_12 rfl [0, 1, 2, 3, 4, 5, 6, 7, 8, 9, 10, 11, 12, 13, 14, 15] [] [0, 1, 2, 3, 4, 5, 6, 7, 8, 9, 10, 11, 12, 13, 14, 15] (fun u => (wX7 cI cZ o q F A : va_W)) rfl rfl (fun _ => rfl) rfl 0 rfl rfl ⟨rfl, rfl⟩ ⟨Nat.le_of_ble_eq_true rfl, Nat.le_of_ble_eq_true rfl⟩ hl.1 rfl (Nat.le_of_ble_eq_true rfl) ⟨Nat.zero_le _, Nat.zero_le _⟩ dX7_sham_2 (fun r2 u H locs h hP hD hS => ?_)
  refine lv_if_ne (tgt := 10) hx hb dX7_sham_5 (by decide) (fun c5 => ?_) (fun c5 => ?_)
  · replace h := h.1 c5
    refine lv_aload_n hx hb dX7_sham_10 rfl (lv_at hl 0 rfl) ?_
    refine lv_iload_n hx hb dX7_sham_11 rfl (lv_at hl 1 rfl) ?_
    refine lv_aload_n hx hb dX7_sham_12 rfl (lv_at hl 0 rfl) ?_
    refine C_vi (wr := []) X hP hD hS [] [.int x1, .ref o] (w_X7_winner l D cI cZ cR adK adV _ o q F A _ h) cal_X7_winner mw_33_20 rfl [0, 1, 2, 3, 4, 5, 6, 7, 8, 9, 10, 11, 12, 13, 14, 15] [] [0, 1, 2, 3, 4, 5, 6, 7, 8, 9, 10, 11, 12, 13, 14, 15] (fun u => (wX7 cI cZ o q u.1 u.2 : va_W)) rfl rfl (fun _ => rfl) rfl 0 rfl rfl ⟨rfl, rfl⟩ ⟨Nat.le_of_ble_eq_true rfl, Nat.le_of_ble_eq_true rfl⟩ hl.1 rfl (Nat.le_of_ble_eq_true rfl) ⟨Nat.zero_le _, Nat.zero_le _⟩ dX7_sham_13 (fun r13 u H locs h hP hD hS => ?_)
    obtain ⟨F_13, A_13⟩ := u
    try dsimp only at h
    have hP : va_P D vwCl (wX7 cI cZ o q F_13 A_13 : va_W) H := hP
    have hD : va_D A9 (wX7 cI cZ o q F_13 A_13 : va_W) := hD
    refine C_vi (wr := []) X hP hD hS [.int x1, .int r13] [] (w_X7_worthOf l D cI cZ cR adK adV _ o q F_13 A_13 x1 r13 _ h) cal_X7_worthOf mw_19_4 rfl [0, 1, 2, 3, 4, 5, 6, 7, 8, 9, 10, 11, 12, 13, 14, 15] [] [0, 1, 2, 3, 4, 5, 6, 7, 8, 9, 10, 11, 12, 13, 14, 15] (fun u => (wX7 cI cZ o q F_13 A_13 : va_W)) rfl rfl (fun _ => rfl) rfl 0 rfl rfl ⟨rfl, rfl⟩ ⟨Nat.le_of_ble_eq_true rfl, Nat.le_of_ble_eq_true rfl⟩ hl.1 rfl (Nat.le_of_ble_eq_true rfl) ⟨Nat.zero_le _, Nat.zero_le _⟩ dX7_sham_16 (fun r16 u H locs h hP hD hS => ?_)
    refine lv_istore_n (lv' := [(2, .int r16), (0, .ref o), (1, .int x1)]) hx hb dX7_sham_19 rfl hl (by decide) rfl (fun ls hl => ?_)
    refine lv_bipush (v := -3) hx hb dX7_sham_20 (by decide) ?_
    refine lv_istore_n (lv' := [(3, .int (-3 : Int32)), (2, .int r16), (0, .ref o), (1, .int x1)]) hx hb dX7_sham_22 rfl hl (by decide) rfl (fun ls hl => ?_)
    refine lv_iconst (v := 0) hx hb dX7_sham_23 (by decide) ?_
    refine lv_istore (lv' := [(4, .int (0 : Int32)), (3, .int (-3 : Int32)), (2, .int r16), (0, .ref o), (1, .int x1)]) hx hb dX7_sham_24 hl (by decide) rfl (fun ls hl => ?_)
    obtain ⟨n26, h⟩ := h
    exact b_X7_sham_L26 x1 X ret  n26 F_13 A_13 r16 (-3 : Int32) (0 : Int32) _ _ _ h hP hD hS (lv_sub hl [3, 4, 2, 1, 0] rfl)
  · replace h := h.2 c5
    refine lv_iconst (v := -1) hx hb dX7_sham_8 (by decide) ?_
    exact ret _ (F, A) _ _ _ _ dX7_sham_9 h hP hD hS
theorem dX7_product_0 : decode cX7_product 0 = .ok (.lconst 1, 1) := by decide +kernel
theorem dX7_product_1 : decode cX7_product 1 = .ok (.lstore_n 1, 1) := by decide +kernel
theorem dX7_product_2 : decode cX7_product 2 = .ok (.iconst 2, 1) := by decide +kernel
theorem dX7_product_3 : decode cX7_product 3 = .ok (.istore_n 3, 1) := by decide +kernel
theorem dX7_product_4 : decode cX7_product 4 = .ok (.iload_n 3, 1) := by decide +kernel
theorem dX7_product_5 : decode cX7_product 5 = .ok (.iload_n 0, 1) := by decide +kernel
theorem dX7_product_6 : decode cX7_product 6 = .ok (.if_icmp .gt 14, 3) := by decide +kernel
theorem dX7_product_9 : decode cX7_product 9 = .ok (.lload_n 1, 1) := by decide +kernel
theorem dX7_product_10 : decode cX7_product 10 = .ok (.iload_n 3, 1) := by decide +kernel
theorem dX7_product_11 : decode cX7_product 11 = .ok (.i2l, 1) := by decide +kernel
theorem dX7_product_12 : decode cX7_product 12 = .ok (.lmul, 1) := by decide +kernel
theorem dX7_product_13 : decode cX7_product 13 = .ok (.lstore_n 1, 1) := by decide +kernel
theorem dX7_product_14 : decode cX7_product 14 = .ok (.iinc 3 1, 3) := by decide +kernel
theorem dX7_product_17 : decode cX7_product 17 = .ok (.goto (-13), 3) := by decide +kernel
theorem dX7_product_20 : decode cX7_product 20 = .ok (.lload_n 1, 1) := by decide +kernel
theorem dX7_product_21 : decode cX7_product 21 = .ok (.lreturn, 1) := by decide +kernel
def p_X7_product_L4 (x0 : Int32) (K : Int64 → Prop) : Nat → Int64 → Int32 → Prop
  | 0, _, _ => False
  | n4 + 1, x1, x3 => ((x0 < x3 → (K x1)) ∧ (¬ x0 < x3 → (∀ y13 : Int64, y13 = (x1 * (x3).toInt64) → (∀ y14 : Int32, y14 = (x3 + (1 : Int32)) → ((p_X7_product_L4 x0 K n4) y13 y14)))))
set_option maxHeartbeats 4000000 in
set_option maxRecDepth 100000 in
theorem b_X7_product_L4 {p : Program} {l : Launch} {e : Env} {s : State} {m : MethodId} {args : Array Value} {below : List Frame} {meth : Method} {c : Code} {Q : State → Prop} {D : va_G} {cI cZ cR : ClassId} {adK adV : Nat → Nat} {A9 : Nat → Prop}  {K : Int64 → Prop}  (x0 : Int32) (X : CX p s m args c yX7_product.cls cX7_product 4 D cI cZ cR adK adV A9) (ret : RTl p l e (rmN 0 0) s m args below meth c Q cX7_product D A9 (fun (r : Int64) (u : Unit) => K r) (fun (u : Unit) => ([] : va_W)))   : ∀ (n : Nat) (x1 : Int64) (x3 : Int32) (H : Heap) (locs : List Loc) (ls : Array Slot), p_X7_product_L4 x0 K n x1 x3 → va_P D vwCl ([] : va_W) H → va_D A9 ([] : va_W) → va_S A9 s.heap H locs → lv_has ls 4 [(0, .int x0), (1, .long x1), (3, .int x3)] → W p l e (rmN 0 0) s m args below meth c H locs 0 0 Q (F0 m 4 ls []) := by
  obtain ⟨hx, hb, hml, ht, hown, hK, hA, hE⟩ := id X
  intro n
  induction n with
  | zero => intro x1 x3 H locs ls h; exact False.elim h
  | succ n4 ih =>
    intro x1 x3 H locs ls h hP hD hS hl
    rw [p_X7_product_L4] at h
    refine lv_iload_n hx hb dX7_product_4 rfl (lv_at hl 2 rfl) ?_
    refine lv_iload_n hx hb dX7_product_5 rfl (lv_at hl 0 rfl) ?_
    refine lv_icmp_gt (tgt := 20) hx hb dX7_product_6 (by decide) (fun c6 => ?_) (fun c6 => ?_)
    · replace h := h.1 c6
      refine lv_lload_n hx hb dX7_product_20 rfl (lv_at hl 1 rfl) ?_
      exact ret _ () _ _ _ _ dX7_product_21 h hP hD hS
    · replace h := h.2 c6
      refine lv_lload_n hx hb dX7_product_9 rfl (lv_at hl 1 rfl) ?_
      refine lv_iload_n hx hb dX7_product_10 rfl (lv_at hl 2 rfl) ?_
      refine lv_i2l (v := (x3).toInt64) hx hb dX7_product_11 rfl ?_
      refine lv_lmul hx hb dX7_product_12 ?_
      refine lv_topl (fun y13 ey13 => ?_)
      replace h := h y13 ey13
      refine lv_lstore_n (lv' := [(1, .long y13), (0, .int x0), (3, .int x3)]) hx hb dX7_product_13 rfl hl (by decide) rfl (fun ls hl => ?_)
      obtain ⟨y14, ey14⟩ : ∃ y : Int32, y = (x3 + (1 : Int32)) := ⟨_, rfl⟩
      replace h := h y14 ey14
      refine lv_iinc (v := y14) (lv' := [(3, .int y14), (1, .long y13), (0, .int x0)]) hx hb dX7_product_14 hl (k := 2) rfl (by rw [ey14]; rfl) (by decide) rfl (fun ls hl => ?_)
      refine lv_goto (tgt := 4) hx hb dX7_product_17 (by decide) ?_
      exact ih y13 y14 _ _ _ h hP hD hS (lv_sub hl [2, 1, 0] rfl)
def p_X7_product (x0 : Int32) (K : Int64 → Prop) : Prop := (∃ n4, p_X7_product_L4 x0 K n4 (1 : Int64) (2 : Int32))
set_option maxHeartbeats 4000000 in
set_option maxRecDepth 100000 in
theorem w_X7_product (l : Launch) (D : va_G) (cI cZ cR : ClassId) (adK adV : Nat → Nat) (sz : Nat)  (x0 : Int32) (K : Int64 → Prop) (h : p_X7_product x0 K) : ML l D cI cZ cR adK adV yX7_product cX7_product 4 (some .long) (rmN 0 0) [.int x0] ([] : va_W) sz (fun (r : Int64) (u : Unit) => K r) (fun (u : Unit) => ([] : va_W)) := by
  refine M_l (by decide +kernel) (Nat.le_of_ble_eq_true rfl) ?_
  intro p e s m args below meth c Q A9 ls X ret hP hD hS hl
  obtain ⟨hx, hb, hml, ht, hown, hK, hA, hE⟩ := id X
  have hl : lv_has ls 4 [(0, .int x0)] := hl
  unfold p_X7_product at h
  refine lv_lconst (v := 1) hx hb dX7_product_0 (by decide) ?_
  refine lv_lstore_n (lv' := [(1, .long (1 : Int64)), (0, .int x0)]) hx hb dX7_product_1 rfl hl (by decide) rfl (fun ls hl => ?_)
  refine lv_iconst (v := 2) hx hb dX7_product_2 (by decide) ?_
  refine lv_istore_n (lv' := [(3, .int (2 : Int32)), (1, .long (1 : Int64)), (0, .int x0)]) hx hb dX7_product_3 rfl hl (by decide) rfl (fun ls hl => ?_)
  obtain ⟨n4, h⟩ := h
  exact b_X7_product_L4 x0 X ret  n4 (1 : Int64) (2 : Int32) _ _ _ h hP hD hS (lv_sub hl [2, 1, 0] rfl)
theorem dX7_partOf_0 : decode cX7_partOf 0 = .ok (.lload_n 2, 1) := by decide +kernel
theorem dX7_partOf_1 : decode cX7_partOf 1 = .ok (.lstore 5, 2) := by decide +kernel
theorem dX7_partOf_3 : decode cX7_partOf 3 = .ok (.lload_n 0, 1) := by decide +kernel
theorem dX7_partOf_4 : decode cX7_partOf 4 = .ok (.lstore 7, 2) := by decide +kernel
theorem dX7_partOf_6 : decode cX7_partOf 6 = .ok (.lload 7, 2) := by decide +kernel
theorem dX7_partOf_8 : decode cX7_partOf 8 = .ok (.lconst 0, 1) := by decide +kernel
theorem dX7_partOf_9 : decode cX7_partOf 9 = .ok (.lcmp, 1) := by decide +kernel
theorem dX7_partOf_10 : decode cX7_partOf 10 = .ok (.ifCond .eq 21, 3) := by decide +kernel
theorem dX7_partOf_13 : decode cX7_partOf 13 = .ok (.lload 5, 2) := by decide +kernel
theorem dX7_partOf_15 : decode cX7_partOf 15 = .ok (.lload 7, 2) := by decide +kernel
theorem dX7_partOf_17 : decode cX7_partOf 17 = .ok (.lrem, 1) := by decide +kernel
theorem dX7_partOf_18 : decode cX7_partOf 18 = .ok (.lstore 9, 2) := by decide +kernel
theorem dX7_partOf_20 : decode cX7_partOf 20 = .ok (.lload 7, 2) := by decide +kernel
theorem dX7_partOf_22 : decode cX7_partOf 22 = .ok (.lstore 5, 2) := by decide +kernel
theorem dX7_partOf_24 : decode cX7_partOf 24 = .ok (.lload 9, 2) := by decide +kernel
theorem dX7_partOf_26 : decode cX7_partOf 26 = .ok (.lstore 7, 2) := by decide +kernel
theorem dX7_partOf_28 : decode cX7_partOf 28 = .ok (.goto (-22), 3) := by decide +kernel
theorem dX7_partOf_31 : decode cX7_partOf 31 = .ok (.iload 4, 2) := by decide +kernel
theorem dX7_partOf_33 : decode cX7_partOf 33 = .ok (.ifCond .ne 10, 3) := by decide +kernel
theorem dX7_partOf_36 : decode cX7_partOf 36 = .ok (.lload_n 0, 1) := by decide +kernel
theorem dX7_partOf_37 : decode cX7_partOf 37 = .ok (.lload 5, 2) := by decide +kernel
theorem dX7_partOf_39 : decode cX7_partOf 39 = .ok (.ldiv, 1) := by decide +kernel
theorem dX7_partOf_40 : decode cX7_partOf 40 = .ok (.goto 7, 3) := by decide +kernel
theorem dX7_partOf_43 : decode cX7_partOf 43 = .ok (.lload_n 2, 1) := by decide +kernel
theorem dX7_partOf_44 : decode cX7_partOf 44 = .ok (.lload 5, 2) := by decide +kernel
theorem dX7_partOf_46 : decode cX7_partOf 46 = .ok (.ldiv, 1) := by decide +kernel
theorem dX7_partOf_47 : decode cX7_partOf 47 = .ok (.lreturn, 1) := by decide +kernel
def p_X7_partOf_L6 (x0 : Int64) (x2 : Int64) (x4 : Int32) (K : Int64 → Prop) : Nat → Int64 → Int64 → Prop
  | 0, _, _ => False
  | n6 + 1, x5, x7 => (((lg_cmp x7 (0 : Int64)) = 0 → ((¬ x4 = 0 → (¬ x5 = 0 ∧ (K (x2 / x5)))) ∧ (x4 = 0 → (¬ x5 = 0 ∧ (K (x0 / x5)))))) ∧ (¬ (lg_cmp x7 (0 : Int64)) = 0 → (¬ x7 = 0 ∧ (∀ y18 : Int64, y18 = (x5 - x5 / x7 * x7) → ((p_X7_partOf_L6 x0 x2 x4 K n6) x7 y18)))))
set_option maxHeartbeats 4000000 in
set_option maxRecDepth 100000 in
theorem b_X7_partOf_L6 {p : Program} {l : Launch} {e : Env} {s : State} {m : MethodId} {args : Array Value} {below : List Frame} {meth : Method} {c : Code} {Q : State → Prop} {D : va_G} {cI cZ cR : ClassId} {adK adV : Nat → Nat} {A9 : Nat → Prop}  {K : Int64 → Prop}  (x0 : Int64) (x2 : Int64) (x4 : Int32) (X : CX p s m args c yX7_partOf.cls cX7_partOf 11 D cI cZ cR adK adV A9) (ret : RTl p l e (rmN 0 0) s m args below meth c Q cX7_partOf D A9 (fun (r : Int64) (u : Unit) => K r) (fun (u : Unit) => ([] : va_W)))   : ∀ (n : Nat) (x5 : Int64) (x7 : Int64) (H : Heap) (locs : List Loc) (ls : Array Slot), p_X7_partOf_L6 x0 x2 x4 K n x5 x7 → va_P D vwCl ([] : va_W) H → va_D A9 ([] : va_W) → va_S A9 s.heap H locs → lv_has ls 11 [(0, .long x0), (2, .long x2), (4, .int x4), (5, .long x5), (7, .long x7)] → W p l e (rmN 0 0) s m args below meth c H locs 0 0 Q (F0 m 6 ls []) := by
  obtain ⟨hx, hb, hml, ht, hown, hK, hA, hE⟩ := id X
  intro n
  induction n with
  | zero => intro x5 x7 H locs ls h; exact False.elim h
  | succ n6 ih =>
    intro x5 x7 H locs ls h hP hD hS hl
    rw [p_X7_partOf_L6] at h
    refine lv_lload hx hb dX7_partOf_6 (lv_at hl 4 rfl) ?_
    refine lv_lconst (v := 0) hx hb dX7_partOf_8 (by decide) ?_
    refine W.lcmp hx hb dX7_partOf_9 ?_
    refine lv_if_eq (tgt := 31) hx hb dX7_partOf_10 (by decide) (fun c10 => ?_) (fun c10 => ?_)
    · replace h := h.1 c10
      refine lv_iload hx hb dX7_partOf_31 (lv_at hl 2 rfl) ?_
      refine lv_if_ne (tgt := 43) hx hb dX7_partOf_33 (by decide) (fun c33 => ?_) (fun c33 => ?_)
      · replace h := h.1 c33
        refine lv_lload_n hx hb dX7_partOf_43 rfl (lv_at hl 1 rfl) ?_
        refine lv_lload hx hb dX7_partOf_44 (lv_at hl 3 rfl) ?_
        obtain ⟨hz46, h⟩ := h
        refine lv_ldiv hx hb dX7_partOf_46 hz46 ?_
        exact ret _ () _ _ _ _ dX7_partOf_47 h hP hD hS
      · replace h := h.2 c33
        refine lv_lload_n hx hb dX7_partOf_36 rfl (lv_at hl 0 rfl) ?_
        refine lv_lload hx hb dX7_partOf_37 (lv_at hl 3 rfl) ?_
        obtain ⟨hz39, h⟩ := h
        refine lv_ldiv hx hb dX7_partOf_39 hz39 ?_
        refine lv_goto (tgt := 47) hx hb dX7_partOf_40 (by decide) ?_
        exact ret _ () _ _ _ _ dX7_partOf_47 h hP hD hS
    · replace h := h.2 c10
      refine lv_lload hx hb dX7_partOf_13 (lv_at hl 3 rfl) ?_
      refine lv_lload hx hb dX7_partOf_15 (lv_at hl 4 rfl) ?_
      obtain ⟨hz17, h⟩ := h
      refine lv_lrem hx hb dX7_partOf_17 hz17 ?_
      refine lv_topl (fun y18 ey18 => ?_)
      replace h := h y18 ey18
      refine lv_lstore (lv' := [(9, .long y18), (0, .long x0), (2, .long x2), (4, .int x4), (5, .long x5), (7, .long x7)]) hx hb dX7_partOf_18 hl (by decide) rfl (fun ls hl => ?_)
      refine lv_lload hx hb dX7_partOf_20 (lv_at hl 5 rfl) ?_
      refine lv_lstore (lv' := [(5, .long x7), (9, .long y18), (0, .long x0), (2, .long x2), (4, .int x4), (7, .long x7)]) hx hb dX7_partOf_22 hl (by decide) rfl (fun ls hl => ?_)
      refine lv_lload hx hb dX7_partOf_24 (lv_at hl 1 rfl) ?_
      refine lv_lstore (lv' := [(7, .long y18), (5, .long x7), (9, .long y18), (0, .long x0), (2, .long x2), (4, .int x4)]) hx hb dX7_partOf_26 hl (by decide) rfl (fun ls hl => ?_)
      refine lv_goto (tgt := 6) hx hb dX7_partOf_28 (by decide) ?_
      exact ih x7 y18 _ _ _ h hP hD hS (lv_sub hl [3, 4, 5, 1, 0] rfl)
def p_X7_partOf (x0 : Int64) (x2 : Int64) (x4 : Int32) (K : Int64 → Prop) : Prop := (∃ n6, p_X7_partOf_L6 x0 x2 x4 K n6 x2 x0)
set_option maxHeartbeats 4000000 in
set_option maxRecDepth 100000 in
theorem w_X7_partOf (l : Launch) (D : va_G) (cI cZ cR : ClassId) (adK adV : Nat → Nat) (sz : Nat)  (x0 : Int64) (x2 : Int64) (x4 : Int32) (K : Int64 → Prop) (h : p_X7_partOf x0 x2 x4 K) : ML l D cI cZ cR adK adV yX7_partOf cX7_partOf 11 (some .long) (rmN 0 0) [.long x0, .long x2, .int x4] ([] : va_W) sz (fun (r : Int64) (u : Unit) => K r) (fun (u : Unit) => ([] : va_W)) := by
  refine M_l (by decide +kernel) (Nat.le_of_ble_eq_true rfl) ?_
  intro p e s m args below meth c Q A9 ls X ret hP hD hS hl
  obtain ⟨hx, hb, hml, ht, hown, hK, hA, hE⟩ := id X
  have hl : lv_has ls 11 [(0, .long x0), (2, .long x2), (4, .int x4)] := hl
  unfold p_X7_partOf at h
  refine lv_lload_n hx hb dX7_partOf_0 rfl (lv_at hl 1 rfl) ?_
  refine lv_lstore (lv' := [(5, .long x2), (0, .long x0), (2, .long x2), (4, .int x4)]) hx hb dX7_partOf_1 hl (by decide) rfl (fun ls hl => ?_)
  refine lv_lload_n hx hb dX7_partOf_3 rfl (lv_at hl 1 rfl) ?_
  refine lv_lstore (lv' := [(7, .long x0), (5, .long x2), (0, .long x0), (2, .long x2), (4, .int x4)]) hx hb dX7_partOf_4 hl (by decide) rfl (fun ls hl => ?_)
  obtain ⟨n6, h⟩ := h
  exact b_X7_partOf_L6 x0 x2 x4 X ret  n6 x2 x0 _ _ _ h hP hD hS (lv_sub hl [2, 3, 4, 1, 0] rfl)
theorem cal_X7_product : CalS yX7_product cX7_product 4 (some .long) 1 := ⟨mw_39_16, mw_1_5, mw_39_15, ⟨by decide +kernel, by decide +kernel, by decide +kernel⟩⟩
theorem cal_X7_partOf : CalS yX7_partOf cX7_partOf 11 (some .long) 3 := ⟨mw_39_19, mw_1_5, mw_39_18, ⟨by decide +kernel, by decide +kernel, by decide +kernel⟩⟩
theorem dX7_power_0 : decode cX7_power 0 = .ok (.aload_n 0, 1) := by decide +kernel
theorem dX7_power_1 : decode cX7_power 1 = .ok (.iload_n 1, 1) := by decide +kernel
theorem dX7_power_2 : decode cX7_power 2 = .ok (.invokevirtual 178, 3) := by decide +kernel
theorem dX7_power_5 : decode cX7_power 5 = .ok (.ifCond .eq 13, 3) := by decide +kernel
theorem dX7_power_8 : decode cX7_power 8 = .ok (.iload_n 2, 1) := by decide +kernel
theorem dX7_power_9 : decode cX7_power 9 = .ok (.i2l, 1) := by decide +kernel
theorem dX7_power_10 : decode cX7_power 10 = .ok (.lconst 0, 1) := by decide +kernel
theorem dX7_power_11 : decode cX7_power 11 = .ok (.lconst 1, 1) := by decide +kernel
theorem dX7_power_12 : decode cX7_power 12 = .ok (.invokestatic 61, 3) := by decide +kernel
theorem dX7_power_15 : decode cX7_power 15 = .ok (.ifCond .ne 7, 3) := by decide +kernel
theorem dX7_power_18 : decode cX7_power 18 = .ok (.ldc2_w 268, 3) := by decide +kernel
theorem dX7_power_21 : decode cX7_power 21 = .ok (.lreturn, 1) := by decide +kernel
theorem dX7_power_22 : decode cX7_power 22 = .ok (.aload_n 0, 1) := by decide +kernel
theorem dX7_power_23 : decode cX7_power 23 = .ok (.iconst 4, 1) := by decide +kernel
theorem dX7_power_24 : decode cX7_power 24 = .ok (.invokevirtual 223, 3) := by decide +kernel
theorem dX7_power_27 : decode cX7_power 27 = .ok (.istore_n 3, 1) := by decide +kernel
theorem dX7_power_28 : decode cX7_power 28 = .ok (.lconst 0, 1) := by decide +kernel
theorem dX7_power_29 : decode cX7_power 29 = .ok (.lstore 4, 2) := by decide +kernel
theorem dX7_power_31 : decode cX7_power 31 = .ok (.iconst 0, 1) := by decide +kernel
theorem dX7_power_32 : decode cX7_power 32 = .ok (.istore 6, 2) := by decide +kernel
theorem dX7_power_34 : decode cX7_power 34 = .ok (.iload 6, 2) := by decide +kernel
theorem dX7_power_36 : decode cX7_power 36 = .ok (.iconst 1, 1) := by decide +kernel
theorem dX7_power_37 : decode cX7_power 37 = .ok (.aload_n 0, 1) := by decide +kernel
theorem dX7_power_38 : decode cX7_power 38 = .ok (.getfield 7, 3) := by decide +kernel
theorem dX7_power_41 : decode cX7_power 41 = .ok (.iconst 0, 1) := by decide +kernel
theorem dX7_power_42 : decode cX7_power 42 = .ok (.iaload, 1) := by decide +kernel
theorem dX7_power_43 : decode cX7_power 43 = .ok (.ishl, 1) := by decide +kernel
theorem dX7_power_44 : decode cX7_power 44 = .ok (.if_icmp .ge 136, 3) := by decide +kernel
theorem dX7_power_47 : decode cX7_power 47 = .ok (.iconst 0, 1) := by decide +kernel
theorem dX7_power_48 : decode cX7_power 48 = .ok (.istore 7, 2) := by decide +kernel
theorem dX7_power_50 : decode cX7_power 50 = .ok (.iconst 0, 1) := by decide +kernel
theorem dX7_power_51 : decode cX7_power 51 = .ok (.istore 8, 2) := by decide +kernel
theorem dX7_power_53 : decode cX7_power 53 = .ok (.iload 8, 2) := by decide +kernel
theorem dX7_power_55 : decode cX7_power 55 = .ok (.aload_n 0, 1) := by decide +kernel
theorem dX7_power_56 : decode cX7_power 56 = .ok (.getfield 7, 3) := by decide +kernel
theorem dX7_power_59 : decode cX7_power 59 = .ok (.iconst 0, 1) := by decide +kernel
theorem dX7_power_60 : decode cX7_power 60 = .ok (.iaload, 1) := by decide +kernel
theorem dX7_power_61 : decode cX7_power 61 = .ok (.if_icmp .ge 35, 3) := by decide +kernel
theorem dX7_power_64 : decode cX7_power 64 = .ok (.iload 7, 2) := by decide +kernel
theorem dX7_power_66 : decode cX7_power 66 = .ok (.iload 6, 2) := by decide +kernel
theorem dX7_power_68 : decode cX7_power 68 = .ok (.iload 8, 2) := by decide +kernel
theorem dX7_power_70 : decode cX7_power 70 = .ok (.ishr, 1) := by decide +kernel
theorem dX7_power_71 : decode cX7_power 71 = .ok (.iconst 1, 1) := by decide +kernel
theorem dX7_power_72 : decode cX7_power 72 = .ok (.iand, 1) := by decide +kernel
theorem dX7_power_73 : decode cX7_power 73 = .ok (.iconst 1, 1) := by decide +kernel
theorem dX7_power_74 : decode cX7_power 74 = .ok (.if_icmp .ne 12, 3) := by decide +kernel
theorem dX7_power_77 : decode cX7_power 77 = .ok (.aload_n 0, 1) := by decide +kernel
theorem dX7_power_78 : decode cX7_power 78 = .ok (.iload 8, 2) := by decide +kernel
theorem dX7_power_80 : decode cX7_power 80 = .ok (.invokevirtual 181, 3) := by decide +kernel
theorem dX7_power_83 : decode cX7_power 83 = .ok (.goto 4, 3) := by decide +kernel
theorem dX7_power_86 : decode cX7_power 86 = .ok (.iconst 0, 1) := by decide +kernel
theorem dX7_power_87 : decode cX7_power 87 = .ok (.iadd, 1) := by decide +kernel
theorem dX7_power_88 : decode cX7_power 88 = .ok (.istore 7, 2) := by decide +kernel
theorem dX7_power_90 : decode cX7_power 90 = .ok (.iinc 8 1, 3) := by decide +kernel
theorem dX7_power_93 : decode cX7_power 93 = .ok (.goto (-40), 3) := by decide +kernel
theorem dX7_power_96 : decode cX7_power 96 = .ok (.iload 6, 2) := by decide +kernel
theorem dX7_power_98 : decode cX7_power 98 = .ok (.iload_n 1, 1) := by decide +kernel
theorem dX7_power_99 : decode cX7_power 99 = .ok (.ishr, 1) := by decide +kernel
theorem dX7_power_100 : decode cX7_power 100 = .ok (.iconst 1, 1) := by decide +kernel
theorem dX7_power_101 : decode cX7_power 101 = .ok (.iand, 1) := by decide +kernel
theorem dX7_power_102 : decode cX7_power 102 = .ok (.ifCond .ne 29, 3) := by decide +kernel
theorem dX7_power_105 : decode cX7_power 105 = .ok (.iconst 2, 1) := by decide +kernel
theorem dX7_power_106 : decode cX7_power 106 = .ok (.iload 7, 2) := by decide +kernel
theorem dX7_power_108 : decode cX7_power 108 = .ok (.imul, 1) := by decide +kernel
theorem dX7_power_109 : decode cX7_power 109 = .ok (.iload_n 3, 1) := by decide +kernel
theorem dX7_power_110 : decode cX7_power 110 = .ok (.if_icmp .gt 21, 3) := by decide +kernel
theorem dX7_power_113 : decode cX7_power 113 = .ok (.iconst 2, 1) := by decide +kernel
theorem dX7_power_114 : decode cX7_power 114 = .ok (.iload 7, 2) := by decide +kernel
theorem dX7_power_116 : decode cX7_power 116 = .ok (.aload_n 0, 1) := by decide +kernel
theorem dX7_power_117 : decode cX7_power 117 = .ok (.iload_n 1, 1) := by decide +kernel
theorem dX7_power_118 : decode cX7_power 118 = .ok (.invokevirtual 181, 3) := by decide +kernel
theorem dX7_power_121 : decode cX7_power 121 = .ok (.iadd, 1) := by decide +kernel
theorem dX7_power_122 : decode cX7_power 122 = .ok (.imul, 1) := by decide +kernel
theorem dX7_power_123 : decode cX7_power 123 = .ok (.iload_n 3, 1) := by decide +kernel
theorem dX7_power_124 : decode cX7_power 124 = .ok (.if_icmp .le 7, 3) := by decide +kernel
theorem dX7_power_127 : decode cX7_power 127 = .ok (.iconst 1, 1) := by decide +kernel
theorem dX7_power_128 : decode cX7_power 128 = .ok (.goto 4, 3) := by decide +kernel
theorem dX7_power_131 : decode cX7_power 131 = .ok (.iconst 0, 1) := by decide +kernel
theorem dX7_power_132 : decode cX7_power 132 = .ok (.istore 8, 2) := by decide +kernel
theorem dX7_power_134 : decode cX7_power 134 = .ok (.lload 4, 2) := by decide +kernel
theorem dX7_power_136 : decode cX7_power 136 = .ok (.iload 8, 2) := by decide +kernel
theorem dX7_power_138 : decode cX7_power 138 = .ok (.ifCond .eq 32, 3) := by decide +kernel
theorem dX7_power_141 : decode cX7_power 141 = .ok (.iload 6, 2) := by decide +kernel
theorem dX7_power_143 : decode cX7_power 143 = .ok (.invokestatic 244, 3) := by decide +kernel
theorem dX7_power_146 : decode cX7_power 146 = .ok (.invokestatic 270, 3) := by decide +kernel
theorem dX7_power_149 : decode cX7_power 149 = .ok (.aload_n 0, 1) := by decide +kernel
theorem dX7_power_150 : decode cX7_power 150 = .ok (.getfield 7, 3) := by decide +kernel
theorem dX7_power_153 : decode cX7_power 153 = .ok (.iconst 0, 1) := by decide +kernel
theorem dX7_power_154 : decode cX7_power 154 = .ok (.iaload, 1) := by decide +kernel
theorem dX7_power_155 : decode cX7_power 155 = .ok (.iconst 1, 1) := by decide +kernel
theorem dX7_power_156 : decode cX7_power 156 = .ok (.isub, 1) := by decide +kernel
theorem dX7_power_157 : decode cX7_power 157 = .ok (.iload 6, 2) := by decide +kernel
theorem dX7_power_159 : decode cX7_power 159 = .ok (.invokestatic 244, 3) := by decide +kernel
theorem dX7_power_162 : decode cX7_power 162 = .ok (.isub, 1) := by decide +kernel
theorem dX7_power_163 : decode cX7_power 163 = .ok (.invokestatic 270, 3) := by decide +kernel
theorem dX7_power_166 : decode cX7_power 166 = .ok (.lmul, 1) := by decide +kernel
theorem dX7_power_167 : decode cX7_power 167 = .ok (.goto 4, 3) := by decide +kernel
theorem dX7_power_170 : decode cX7_power 170 = .ok (.lconst 0, 1) := by decide +kernel
theorem dX7_power_171 : decode cX7_power 171 = .ok (.ladd, 1) := by decide +kernel
theorem dX7_power_172 : decode cX7_power 172 = .ok (.lstore 4, 2) := by decide +kernel
theorem dX7_power_174 : decode cX7_power 174 = .ok (.iinc 6 1, 3) := by decide +kernel
theorem dX7_power_177 : decode cX7_power 177 = .ok (.goto (-143), 3) := by decide +kernel
theorem dX7_power_180 : decode cX7_power 180 = .ok (.lload 4, 2) := by decide +kernel
theorem dX7_power_182 : decode cX7_power 182 = .ok (.aload_n 0, 1) := by decide +kernel
theorem dX7_power_183 : decode cX7_power 183 = .ok (.getfield 7, 3) := by decide +kernel
theorem dX7_power_186 : decode cX7_power 186 = .ok (.iconst 0, 1) := by decide +kernel
theorem dX7_power_187 : decode cX7_power 187 = .ok (.iaload, 1) := by decide +kernel
theorem dX7_power_188 : decode cX7_power 188 = .ok (.invokestatic 270, 3) := by decide +kernel
theorem dX7_power_191 : decode cX7_power 191 = .ok (.iload_n 2, 1) := by decide +kernel
theorem dX7_power_192 : decode cX7_power 192 = .ok (.invokestatic 274, 3) := by decide +kernel
theorem dX7_power_195 : decode cX7_power 195 = .ok (.lreturn, 1) := by decide +kernel
def p_X7_power_J171 (F : tF) (A : tA) (B34 : (Int64 → Int32 → Prop)) (K : Int64 → Prop) (x1 : Int32) (x2 : Int32) (x3 : Int32) (x6 : Int32) (s0 : Int64) (s1 : Int64) : Prop := (∀ y172 : Int64, y172 = (s1 + s0) → (∀ y174 : Int32, y174 = (x6 + (1 : Int32)) → (B34 y172 y174)))
set_option maxHeartbeats 4000000 in
set_option maxRecDepth 100000 in
theorem b_X7_power_J171 {p : Program} {l : Launch} {e : Env} {s : State} {m : MethodId} {args : Array Value} {below : List Frame} {meth : Method} {c : Code} {Q : State → Prop} {D : va_G} {cI cZ cR : ClassId} {adK adV : Nat → Nat} {A9 : Nat → Prop} {o : Nat} {q : Nat → Nat} {K : Int64 → Prop} {B34 : (Int64 → Int32 → Prop)} (F : tF) (A : tA) (x1 : Int32) (x2 : Int32) (x3 : Int32) (x6 : Int32) (s0 : Int64) (s1 : Int64) (X : CX p s m args c yX7_power.cls cX7_power 9 D cI cZ cR adK adV A9) (ret : RTl p l e (rmN 3 67) s m args below meth c Q cX7_power D A9 (fun (r : Int64) (u : Unit) => K r) (fun (u : Unit) => (wX7 cI cZ o q F A : va_W))) (hB34 : ∀ (x4 : Int64) (x6 : Int32) (H : Heap) (locs : List Loc) (ls : Array Slot), B34 x4 x6 → va_P D vwCl (wX7 cI cZ o q F A : va_W) H → va_D A9 (wX7 cI cZ o q F A : va_W) → va_S A9 s.heap H locs → lv_has ls 9 [(0, .ref o), (1, .int x1), (2, .int x2), (3, .int x3), (4, .long x4), (6, .int x6)] → W p l e (rmN 3 67) s m args below meth c H locs 0 0 Q (F0 m 34 ls [])) (H : Heap) (locs : List Loc) (ls : Array Slot) (h : p_X7_power_J171 F A B34 K x1 x2 x3 x6 s0 s1) (hP : va_P D vwCl (wX7 cI cZ o q F A : va_W) H) (hD : va_D A9 (wX7 cI cZ o q F A : va_W)) (hS : va_S A9 s.heap H locs) (hl : lv_has ls 9 [(0, .ref o), (1, .int x1), (2, .int x2), (3, .int x3), (6, .int x6)]) : W p l e (rmN 3 67) s m args below meth c H locs 0 0 Q (F0 m 171 ls [.long s0, .long s1]) := by
  obtain ⟨hx, hb, hml, ht, hown, hK, hA, hE⟩ := id X
  unfold p_X7_power_J171 at h
  refine lv_ladd hx hb dX7_power_171 ?_
  refine lv_topl (fun y172 ey172 => ?_)
  replace h := h y172 ey172
  refine lv_lstore (lv' := [(4, .long y172), (0, .ref o), (1, .int x1), (2, .int x2), (3, .int x3), (6, .int x6)]) hx hb dX7_power_172 hl (by decide) rfl (fun ls hl => ?_)
  obtain ⟨y174, ey174⟩ : ∃ y : Int32, y = (x6 + (1 : Int32)) := ⟨_, rfl⟩
  replace h := h y174 ey174
  refine lv_iinc (v := y174) (lv' := [(6, .int y174), (4, .long y172), (0, .ref o), (1, .int x1), (2, .int x2), (3, .int x3)]) hx hb dX7_power_174 hl (k := 5) rfl (by rw [ey174]; rfl) (by decide) rfl (fun ls hl => ?_)
  refine lv_goto (tgt := 34) hx hb dX7_power_177 (by decide) ?_
  exact hB34 y172 y174 _ _ _ h hP hD hS (lv_sub hl [2, 3, 4, 5, 1, 0] rfl)
def p_X7_power_J132 (F : tF) (A : tA) (B34 : (Int64 → Int32 → Prop)) (K : Int64 → Prop) (x1 : Int32) (x2 : Int32) (x3 : Int32) (x4 : Int64) (x6 : Int32) (s0 : Int32) : Prop := ((s0 = 0 → (p_X7_power_J171 F A B34 K x1 x2 x3 x6 (0 : Int64) x4)) ∧ (¬ s0 = 0 → (p_X7_size x6 (fun r143 => (p_X7_product r143 (fun r146 => (p_X7_size x6 (fun r159 => (p_X7_product ((((A 0) 0) - (1 : Int32)) - r159) (fun r163 => (p_X7_power_J171 F A B34 K x1 x2 x3 x6 (r146 * r163) x4)))))))))))
set_option maxHeartbeats 4000000 in
set_option maxRecDepth 100000 in
theorem b_X7_power_J132 {p : Program} {l : Launch} {e : Env} {s : State} {m : MethodId} {args : Array Value} {below : List Frame} {meth : Method} {c : Code} {Q : State → Prop} {D : va_G} {cI cZ cR : ClassId} {adK adV : Nat → Nat} {A9 : Nat → Prop} {o : Nat} {q : Nat → Nat} {K : Int64 → Prop} {B34 : (Int64 → Int32 → Prop)} (F : tF) (A : tA) (x1 : Int32) (x2 : Int32) (x3 : Int32) (x4 : Int64) (x6 : Int32) (s0 : Int32) (X : CX p s m args c yX7_power.cls cX7_power 9 D cI cZ cR adK adV A9) (ret : RTl p l e (rmN 3 67) s m args below meth c Q cX7_power D A9 (fun (r : Int64) (u : Unit) => K r) (fun (u : Unit) => (wX7 cI cZ o q F A : va_W))) (hB34 : ∀ (x4 : Int64) (x6 : Int32) (H : Heap) (locs : List Loc) (ls : Array Slot), B34 x4 x6 → va_P D vwCl (wX7 cI cZ o q F A : va_W) H → va_D A9 (wX7 cI cZ o q F A : va_W) → va_S A9 s.heap H locs → lv_has ls 9 [(0, .ref o), (1, .int x1), (2, .int x2), (3, .int x3), (4, .long x4), (6, .int x6)] → W p l e (rmN 3 67) s m args below meth c H locs 0 0 Q (F0 m 34 ls [])) (H : Heap) (locs : List Loc) (ls : Array Slot) (h : p_X7_power_J132 F A B34 K x1 x2 x3 x4 x6 s0) (hP : va_P D vwCl (wX7 cI cZ o q F A : va_W) H) (hD : va_D A9 (wX7 cI cZ o q F A : va_W)) (hS : va_S A9 s.heap H locs) (hl : lv_has ls 9 [(0, .ref o), (1, .int x1), (2, .int x2), (3, .int x3), (4, .long x4), (6, .int x6)]) : W p l e (rmN 3 67) s m args below meth c H locs 0 0 Q (F0 m 132 ls [.int s0]) := by
  obtain ⟨hx, hb, hml, ht, hown, hK, hA, hE⟩ := id X
  unfold p_X7_power_J132 at h
  refine lv_istore (lv' := [(8, .int s0), (0, .ref o), (1, .int x1), (2, .int x2), (3, .int x3), (4, .long x4), (6, .int x6)]) hx hb dX7_power_132 hl (by decide) rfl (fun ls hl => ?_)
  refine lv_lload hx hb dX7_power_134 (lv_at hl 5 rfl) ?_
  refine lv_iload hx hb dX7_power_136 (lv_at hl 0 rfl) ?_
  refine lv_if_eq (tgt := 170) hx hb dX7_power_138 (by decide) (fun c138 => ?_) (fun c138 => ?_)
  · replace h := h.1 c138
    refine lv_lconst (v := 0) hx hb dX7_power_170 (by decide) ?_
    exact b_X7_power_J171 F A x1 x2 x3 x6 (0 : Int64) x4 X ret hB34 _ _ _ h hP hD hS (lv_sub hl [1, 2, 3, 4, 6] rfl)
  · replace h := h.2 c138
    refine lv_iload hx hb dX7_power_141 (lv_at hl 6 rfl) ?_
    refine C_si (wr := [0, 1, 2, 3, 4, 5, 6, 7, 8, 9, 10, 11, 12, 13, 14, 15].filterMap (fun i => (wX7 cI cZ o q F A : va_W)[i]?)) X hP hD hS [.int x6] [.long x4] (w_X7_size l D cI cZ cR adK adV _ x6 _ h) cal_X7_size mw_33_13 rfl [] [0, 1, 2, 3, 4, 5, 6, 7, 8, 9, 10, 11, 12, 13, 14, 15] [0, 1, 2, 3, 4, 5, 6, 7, 8, 9, 10, 11, 12, 13, 14, 15] (fun u => (wX7 cI cZ o q F A : va_W)) rfl rfl (fun _ => rfl) rfl ⟨rfl, rfl⟩ ⟨Nat.le_of_ble_eq_true rfl, Nat.le_of_ble_eq_true rfl⟩ hl.1 rfl (Nat.le_of_ble_eq_true rfl) ⟨Nat.zero_le _, Nat.zero_le _⟩ dX7_power_143 (fun r143 u H locs h hP hD hS => ?_)
    refine C_sl (wr := [0, 1, 2, 3, 4, 5, 6, 7, 8, 9, 10, 11, 12, 13, 14, 15].filterMap (fun i => (wX7 cI cZ o q F A : va_W)[i]?)) X hP hD hS [.int r143] [.long x4] (w_X7_product l D cI cZ cR adK adV _ r143 _ h) cal_X7_product mw_39_14 rfl [] [0, 1, 2, 3, 4, 5, 6, 7, 8, 9, 10, 11, 12, 13, 14, 15] [0, 1, 2, 3, 4, 5, 6, 7, 8, 9, 10, 11, 12, 13, 14, 15] (fun u => (wX7 cI cZ o q F A : va_W)) rfl rfl (fun _ => rfl) rfl ⟨rfl, rfl⟩ ⟨Nat.le_of_ble_eq_true rfl, Nat.le_of_ble_eq_true rfl⟩ hl.1 rfl (Nat.le_of_ble_eq_true rfl) ⟨Nat.zero_le _, Nat.zero_le _⟩ dX7_power_146 (fun r146 u H locs h hP hD hS => ?_)
    refine lv_aload_n hx hb dX7_power_149 rfl (lv_at hl 1 rfl) ?_
    refine va_get (C := RX7) (T := TX7) (N := 28) (own := RX7) (v := .ref (q 0)) hx hb ht inlX7 hown hK hP 0 rfl rfl 0 (Nat.le_of_ble_eq_true rfl) (ht _ mw_5_7) (fun _ h9 => h9) rfl dX7_power_150 ?_
    refine lv_iconst (v := 0) hx hb dX7_power_153 (by decide) ?_
    refine g_iald (f := (A 0)) (k := 0) hx hb hK hP 1 0 rfl rfl (vp_in_lit rfl : vp_in (0 : Int32) 53) (by decide) dX7_power_154 ?_
    refine lv_iconst (v := 1) hx hb dX7_power_155 (by decide) ?_
    refine lv_isub hx hb dX7_power_156 ?_
    refine lv_iload hx hb dX7_power_157 (lv_at hl 6 rfl) ?_
    refine C_si (wr := [0, 1, 2, 3, 4, 5, 6, 7, 8, 9, 10, 11, 12, 13, 14, 15].filterMap (fun i => (wX7 cI cZ o q F A : va_W)[i]?)) X hP hD hS [.int x6] [.int (((A 0) 0) - (1 : Int32)), .long r146, .long x4] (w_X7_size l D cI cZ cR adK adV _ x6 _ h) cal_X7_size mw_33_13 rfl [] [0, 1, 2, 3, 4, 5, 6, 7, 8, 9, 10, 11, 12, 13, 14, 15] [0, 1, 2, 3, 4, 5, 6, 7, 8, 9, 10, 11, 12, 13, 14, 15] (fun u => (wX7 cI cZ o q F A : va_W)) rfl rfl (fun _ => rfl) rfl ⟨rfl, rfl⟩ ⟨Nat.le_of_ble_eq_true rfl, Nat.le_of_ble_eq_true rfl⟩ hl.1 rfl (Nat.le_of_ble_eq_true rfl) ⟨Nat.zero_le _, Nat.zero_le _⟩ dX7_power_159 (fun r159 u H locs h hP hD hS => ?_)
    refine lv_isub hx hb dX7_power_162 ?_
    refine C_sl (wr := [0, 1, 2, 3, 4, 5, 6, 7, 8, 9, 10, 11, 12, 13, 14, 15].filterMap (fun i => (wX7 cI cZ o q F A : va_W)[i]?)) X hP hD hS [.int ((((A 0) 0) - (1 : Int32)) - r159)] [.long r146, .long x4] (w_X7_product l D cI cZ cR adK adV _ ((((A 0) 0) - (1 : Int32)) - r159) _ h) cal_X7_product mw_39_14 rfl [] [0, 1, 2, 3, 4, 5, 6, 7, 8, 9, 10, 11, 12, 13, 14, 15] [0, 1, 2, 3, 4, 5, 6, 7, 8, 9, 10, 11, 12, 13, 14, 15] (fun u => (wX7 cI cZ o q F A : va_W)) rfl rfl (fun _ => rfl) rfl ⟨rfl, rfl⟩ ⟨Nat.le_of_ble_eq_true rfl, Nat.le_of_ble_eq_true rfl⟩ hl.1 rfl (Nat.le_of_ble_eq_true rfl) ⟨Nat.zero_le _, Nat.zero_le _⟩ dX7_power_163 (fun r163 u H locs h hP hD hS => ?_)
    refine lv_lmul hx hb dX7_power_166 ?_
    refine lv_goto (tgt := 171) hx hb dX7_power_167 (by decide) ?_
    exact b_X7_power_J171 F A x1 x2 x3 x6 (r146 * r163) x4 X ret hB34 _ _ _ h hP hD hS (lv_sub hl [1, 2, 3, 4, 6] rfl)
def p_X7_power_J131 (F : tF) (A : tA) (B34 : (Int64 → Int32 → Prop)) (K : Int64 → Prop) (x1 : Int32) (x2 : Int32) (x3 : Int32) (x4 : Int64) (x6 : Int32) : Prop := (p_X7_power_J132 F A B34 K x1 x2 x3 x4 x6 (0 : Int32))
set_option maxHeartbeats 4000000 in
set_option maxRecDepth 100000 in
theorem b_X7_power_J131 {p : Program} {l : Launch} {e : Env} {s : State} {m : MethodId} {args : Array Value} {below : List Frame} {meth : Method} {c : Code} {Q : State → Prop} {D : va_G} {cI cZ cR : ClassId} {adK adV : Nat → Nat} {A9 : Nat → Prop} {o : Nat} {q : Nat → Nat} {K : Int64 → Prop} {B34 : (Int64 → Int32 → Prop)} (F : tF) (A : tA) (x1 : Int32) (x2 : Int32) (x3 : Int32) (x4 : Int64) (x6 : Int32) (X : CX p s m args c yX7_power.cls cX7_power 9 D cI cZ cR adK adV A9) (ret : RTl p l e (rmN 3 67) s m args below meth c Q cX7_power D A9 (fun (r : Int64) (u : Unit) => K r) (fun (u : Unit) => (wX7 cI cZ o q F A : va_W))) (hB34 : ∀ (x4 : Int64) (x6 : Int32) (H : Heap) (locs : List Loc) (ls : Array Slot), B34 x4 x6 → va_P D vwCl (wX7 cI cZ o q F A : va_W) H → va_D A9 (wX7 cI cZ o q F A : va_W) → va_S A9 s.heap H locs → lv_has ls 9 [(0, .ref o), (1, .int x1), (2, .int x2), (3, .int x3), (4, .long x4), (6, .int x6)] → W p l e (rmN 3 67) s m args below meth c H locs 0 0 Q (F0 m 34 ls [])) (H : Heap) (locs : List Loc) (ls : Array Slot) (h : p_X7_power_J131 F A B34 K x1 x2 x3 x4 x6) (hP : va_P D vwCl (wX7 cI cZ o q F A : va_W) H) (hD : va_D A9 (wX7 cI cZ o q F A : va_W)) (hS : va_S A9 s.heap H locs) (hl : lv_has ls 9 [(0, .ref o), (1, .int x1), (2, .int x2), (3, .int x3), (4, .long x4), (6, .int x6)]) : W p l e (rmN 3 67) s m args below meth c H locs 0 0 Q (F0 m 131 ls []) := by
  obtain ⟨hx, hb, hml, ht, hown, hK, hA, hE⟩ := id X
  unfold p_X7_power_J131 at h
  refine lv_iconst (v := 0) hx hb dX7_power_131 (by decide) ?_
  exact b_X7_power_J132 F A x1 x2 x3 x4 x6 (0 : Int32) X ret hB34 _ _ _ h hP hD hS (lv_sub hl [0, 1, 2, 3, 4, 5] rfl)
def p_X7_power_J87 (F : tF) (A : tA) (B34 : (Int64 → Int32 → Prop)) (B53 : (Int32 → Int32 → Prop)) (K : Int64 → Prop) (x1 : Int32) (x2 : Int32) (x3 : Int32) (x4 : Int64) (x6 : Int32) (x8 : Int32) (s0 : Int32) (s1 : Int32) : Prop := (∀ y88 : Int32, y88 = (s1 + s0) → (∀ y90 : Int32, y90 = (x8 + (1 : Int32)) → (B53 y88 y90)))
set_option maxHeartbeats 4000000 in
set_option maxRecDepth 100000 in
theorem b_X7_power_J87 {p : Program} {l : Launch} {e : Env} {s : State} {m : MethodId} {args : Array Value} {below : List Frame} {meth : Method} {c : Code} {Q : State → Prop} {D : va_G} {cI cZ cR : ClassId} {adK adV : Nat → Nat} {A9 : Nat → Prop} {o : Nat} {q : Nat → Nat} {K : Int64 → Prop} {B34 : (Int64 → Int32 → Prop)} {B53 : (Int32 → Int32 → Prop)} (F : tF) (A : tA) (x1 : Int32) (x2 : Int32) (x3 : Int32) (x4 : Int64) (x6 : Int32) (x8 : Int32) (s0 : Int32) (s1 : Int32) (X : CX p s m args c yX7_power.cls cX7_power 9 D cI cZ cR adK adV A9) (ret : RTl p l e (rmN 3 67) s m args below meth c Q cX7_power D A9 (fun (r : Int64) (u : Unit) => K r) (fun (u : Unit) => (wX7 cI cZ o q F A : va_W))) (hB34 : ∀ (x4 : Int64) (x6 : Int32) (H : Heap) (locs : List Loc) (ls : Array Slot), B34 x4 x6 → va_P D vwCl (wX7 cI cZ o q F A : va_W) H → va_D A9 (wX7 cI cZ o q F A : va_W) → va_S A9 s.heap H locs → lv_has ls 9 [(0, .ref o), (1, .int x1), (2, .int x2), (3, .int x3), (4, .long x4), (6, .int x6)] → W p l e (rmN 3 67) s m args below meth c H locs 0 0 Q (F0 m 34 ls [])) (hB53 : ∀ (x7 : Int32) (x8 : Int32) (H : Heap) (locs : List Loc) (ls : Array Slot), B53 x7 x8 → va_P D vwCl (wX7 cI cZ o q F A : va_W) H → va_D A9 (wX7 cI cZ o q F A : va_W) → va_S A9 s.heap H locs → lv_has ls 9 [(0, .ref o), (1, .int x1), (2, .int x2), (3, .int x3), (4, .long x4), (6, .int x6), (7, .int x7), (8, .int x8)] → W p l e (rmN 3 67) s m args below meth c H locs 0 0 Q (F0 m 53 ls [])) (H : Heap) (locs : List Loc) (ls : Array Slot) (h : p_X7_power_J87 F A B34 B53 K x1 x2 x3 x4 x6 x8 s0 s1) (hP : va_P D vwCl (wX7 cI cZ o q F A : va_W) H) (hD : va_D A9 (wX7 cI cZ o q F A : va_W)) (hS : va_S A9 s.heap H locs) (hl : lv_has ls 9 [(0, .ref o), (1, .int x1), (2, .int x2), (3, .int x3), (4, .long x4), (6, .int x6), (8, .int x8)]) : W p l e (rmN 3 67) s m args below meth c H locs 0 0 Q (F0 m 87 ls [.int s0, .int s1]) := by
  obtain ⟨hx, hb, hml, ht, hown, hK, hA, hE⟩ := id X
  unfold p_X7_power_J87 at h
  refine lv_iadd hx hb dX7_power_87 ?_
  refine lv_topi (fun y88 ey88 => ?_)
  replace h := h y88 ey88
  refine lv_istore (lv' := [(7, .int y88), (0, .ref o), (1, .int x1), (2, .int x2), (3, .int x3), (4, .long x4), (6, .int x6), (8, .int x8)]) hx hb dX7_power_88 hl (by decide) rfl (fun ls hl => ?_)
  obtain ⟨y90, ey90⟩ : ∃ y : Int32, y = (x8 + (1 : Int32)) := ⟨_, rfl⟩
  replace h := h y90 ey90
  refine lv_iinc (v := y90) (lv' := [(8, .int y90), (7, .int y88), (0, .ref o), (1, .int x1), (2, .int x2), (3, .int x3), (4, .long x4), (6, .int x6)]) hx hb dX7_power_90 hl (k := 7) rfl (by rw [ey90]; rfl) (by decide) rfl (fun ls hl => ?_)
  refine lv_goto (tgt := 53) hx hb dX7_power_93 (by decide) ?_
  exact hB53 y88 y90 _ _ _ h hP hD hS (lv_sub hl [2, 3, 4, 5, 6, 7, 1, 0] rfl)
def p_X7_power_L53 (F : tF) (A : tA) (x1 : Int32) (x2 : Int32) (x3 : Int32) (x4 : Int64) (x6 : Int32) (B34 : (Int64 → Int32 → Prop)) (K : Int64 → Prop) : Nat → Int32 → Int32 → Prop
  | 0, _, _ => False
  | n53 + 1, x7, x8 => ((((A 0) 0) ≤ x8 → ((¬ ((x6 >>> (x1 &&& 31)) &&& (1 : Int32)) = 0 → (p_X7_power_J131 F A B34 K x1 x2 x3 x4 x6)) ∧ (((x6 >>> (x1 &&& 31)) &&& (1 : Int32)) = 0 → ((x3 < ((2 : Int32) * x7) → (p_X7_power_J131 F A B34 K x1 x2 x3 x4 x6)) ∧ (¬ x3 < ((2 : Int32) * x7) → (p_X7_counts F A x1 (fun r118 => ((((2 : Int32) * (x7 + r118)) ≤ x3 → (p_X7_power_J131 F A B34 K x1 x2 x3 x4 x6)) ∧ (¬ ((2 : Int32) * (x7 + r118)) ≤ x3 → (p_X7_power_J132 F A B34 K x1 x2 x3 x4 x6 (1 : Int32))))))))))) ∧ (¬ ((A 0) 0) ≤ x8 → ((¬ ((x6 >>> (x8 &&& 31)) &&& (1 : Int32)) = (1 : Int32) → (p_X7_power_J87 F A B34 (p_X7_power_L53 F A x1 x2 x3 x4 x6 B34 K n53) K x1 x2 x3 x4 x6 x8 (0 : Int32) x7)) ∧ (((x6 >>> (x8 &&& 31)) &&& (1 : Int32)) = (1 : Int32) → (p_X7_counts F A x8 (fun r80 => (p_X7_power_J87 F A B34 (p_X7_power_L53 F A x1 x2 x3 x4 x6 B34 K n53) K x1 x2 x3 x4 x6 x8 r80 x7)))))))
set_option maxHeartbeats 4000000 in
set_option maxRecDepth 100000 in
theorem b_X7_power_L53 {p : Program} {l : Launch} {e : Env} {s : State} {m : MethodId} {args : Array Value} {below : List Frame} {meth : Method} {c : Code} {Q : State → Prop} {D : va_G} {cI cZ cR : ClassId} {adK adV : Nat → Nat} {A9 : Nat → Prop} {o : Nat} {q : Nat → Nat} {K : Int64 → Prop} {B34 : (Int64 → Int32 → Prop)} (F : tF) (A : tA) (x1 : Int32) (x2 : Int32) (x3 : Int32) (x4 : Int64) (x6 : Int32) (X : CX p s m args c yX7_power.cls cX7_power 9 D cI cZ cR adK adV A9) (ret : RTl p l e (rmN 3 67) s m args below meth c Q cX7_power D A9 (fun (r : Int64) (u : Unit) => K r) (fun (u : Unit) => (wX7 cI cZ o q F A : va_W))) (hB34 : ∀ (x4 : Int64) (x6 : Int32) (H : Heap) (locs : List Loc) (ls : Array Slot), B34 x4 x6 → va_P D vwCl (wX7 cI cZ o q F A : va_W) H → va_D A9 (wX7 cI cZ o q F A : va_W) → va_S A9 s.heap H locs → lv_has ls 9 [(0, .ref o), (1, .int x1), (2, .int x2), (3, .int x3), (4, .long x4), (6, .int x6)] → W p l e (rmN 3 67) s m args below meth c H locs 0 0 Q (F0 m 34 ls []))  : ∀ (n : Nat) (x7 : Int32) (x8 : Int32) (H : Heap) (locs : List Loc) (ls : Array Slot), p_X7_power_L53 F A x1 x2 x3 x4 x6 B34 K n x7 x8 → va_P D vwCl (wX7 cI cZ o q F A : va_W) H → va_D A9 (wX7 cI cZ o q F A : va_W) → va_S A9 s.heap H locs → lv_has ls 9 [(0, .ref o), (1, .int x1), (2, .int x2), (3, .int x3), (4, .long x4), (6, .int x6), (7, .int x7), (8, .int x8)] → W p l e (rmN 3 67) s m args below meth c H locs 0 0 Q (F0 m 53 ls []) := by
  obtain ⟨hx, hb, hml, ht, hown, hK, hA, hE⟩ := id X
  intro n
  induction n with
  | zero => intro x7 x8 H locs ls h; exact False.elim h
  | succ n53 ih =>
    intro x7 x8 H locs ls h hP hD hS hl
    rw [p_X7_power_L53] at h
    refine lv_iload hx hb dX7_power_53 (lv_at hl 7 rfl) ?_
    refine lv_aload_n hx hb dX7_power_55 rfl (lv_at hl 0 rfl) ?_
    refine va_get (C := RX7) (T := TX7) (N := 28) (own := RX7) (v := .ref (q 0)) hx hb ht inlX7 hown hK hP 0 rfl rfl 0 (Nat.le_of_ble_eq_true rfl) (ht _ mw_5_7) (fun _ h9 => h9) rfl dX7_power_56 ?_
    refine lv_iconst (v := 0) hx hb dX7_power_59 (by decide) ?_
    refine g_iald (f := (A 0)) (k := 0) hx hb hK hP 1 0 rfl rfl (vp_in_lit rfl : vp_in (0 : Int32) 53) (by decide) dX7_power_60 ?_
    refine lv_icmp_ge (tgt := 96) hx hb dX7_power_61 (by decide) (fun c61 => ?_) (fun c61 => ?_)
    · replace h := h.1 c61
      refine lv_iload hx hb dX7_power_96 (lv_at hl 5 rfl) ?_
      refine lv_iload_n hx hb dX7_power_98 rfl (lv_at hl 1 rfl) ?_
      refine lv_ishr hx hb dX7_power_99 ?_
      refine lv_iconst (v := 1) hx hb dX7_power_100 (by decide) ?_
      refine lv_iand hx hb dX7_power_101 ?_
      refine lv_if_ne (tgt := 131) hx hb dX7_power_102 (by decide) (fun c102 => ?_) (fun c102 => ?_)
      · replace h := h.1 c102
        exact b_X7_power_J131 F A x1 x2 x3 x4 x6 X ret hB34 _ _ _ h hP hD hS (lv_sub hl [0, 1, 2, 3, 4, 5] rfl)
      · replace h := h.2 c102
        refine lv_iconst (v := 2) hx hb dX7_power_105 (by decide) ?_
        refine lv_iload hx hb dX7_power_106 (lv_at hl 6 rfl) ?_
        refine lv_imul hx hb dX7_power_108 ?_
        refine lv_iload_n hx hb dX7_power_109 rfl (lv_at hl 3 rfl) ?_
        refine lv_icmp_gt (tgt := 131) hx hb dX7_power_110 (by decide) (fun c110 => ?_) (fun c110 => ?_)
        · replace h := h.1 c110
          exact b_X7_power_J131 F A x1 x2 x3 x4 x6 X ret hB34 _ _ _ h hP hD hS (lv_sub hl [0, 1, 2, 3, 4, 5] rfl)
        · replace h := h.2 c110
          refine lv_iconst (v := 2) hx hb dX7_power_113 (by decide) ?_
          refine lv_iload hx hb dX7_power_114 (lv_at hl 6 rfl) ?_
          refine lv_aload_n hx hb dX7_power_116 rfl (lv_at hl 0 rfl) ?_
          refine lv_iload_n hx hb dX7_power_117 rfl (lv_at hl 1 rfl) ?_
          refine C_vi (wr := []) X hP hD hS [.int x1] [.int x7, .int (2 : Int32)] (w_X7_counts l D cI cZ cR adK adV _ o q F A x1 _ h) cal_X7_counts mw_18_20 rfl [0, 1, 2, 3, 4, 5, 6, 7, 8, 9, 10, 11, 12, 13, 14, 15] [] [0, 1, 2, 3, 4, 5, 6, 7, 8, 9, 10, 11, 12, 13, 14, 15] (fun u => (wX7 cI cZ o q F A : va_W)) rfl rfl (fun _ => rfl) rfl 0 rfl rfl ⟨rfl, rfl⟩ ⟨Nat.le_of_ble_eq_true rfl, Nat.le_of_ble_eq_true rfl⟩ hl.1 rfl (Nat.le_of_ble_eq_true rfl) ⟨Nat.zero_le _, Nat.zero_le _⟩ dX7_power_118 (fun r118 u H locs h hP hD hS => ?_)
          refine lv_iadd hx hb dX7_power_121 ?_
          refine lv_imul hx hb dX7_power_122 ?_
          refine lv_iload_n hx hb dX7_power_123 rfl (lv_at hl 3 rfl) ?_
          refine lv_icmp_le (tgt := 131) hx hb dX7_power_124 (by decide) (fun c124 => ?_) (fun c124 => ?_)
          · replace h := h.1 c124
            exact b_X7_power_J131 F A x1 x2 x3 x4 x6 X ret hB34 _ _ _ h hP hD hS (lv_sub hl [0, 1, 2, 3, 4, 5] rfl)
          · replace h := h.2 c124
            refine lv_iconst (v := 1) hx hb dX7_power_127 (by decide) ?_
            refine lv_goto (tgt := 132) hx hb dX7_power_128 (by decide) ?_
            exact b_X7_power_J132 F A x1 x2 x3 x4 x6 (1 : Int32) X ret hB34 _ _ _ h hP hD hS (lv_sub hl [0, 1, 2, 3, 4, 5] rfl)
    · replace h := h.2 c61
      refine lv_iload hx hb dX7_power_64 (lv_at hl 6 rfl) ?_
      refine lv_iload hx hb dX7_power_66 (lv_at hl 5 rfl) ?_
      refine lv_iload hx hb dX7_power_68 (lv_at hl 7 rfl) ?_
      refine lv_ishr hx hb dX7_power_70 ?_
      refine lv_iconst (v := 1) hx hb dX7_power_71 (by decide) ?_
      refine lv_iand hx hb dX7_power_72 ?_
      refine lv_iconst (v := 1) hx hb dX7_power_73 (by decide) ?_
      refine lv_icmp_ne (tgt := 86) hx hb dX7_power_74 (by decide) (fun c74 => ?_) (fun c74 => ?_)
      · replace h := h.1 c74
        refine lv_iconst (v := 0) hx hb dX7_power_86 (by decide) ?_
        exact b_X7_power_J87 F A x1 x2 x3 x4 x6 x8 (0 : Int32) x7 X ret hB34 ih _ _ _ h hP hD hS (lv_sub hl [0, 1, 2, 3, 4, 5, 7] rfl)
      · replace h := h.2 c74
        refine lv_aload_n hx hb dX7_power_77 rfl (lv_at hl 0 rfl) ?_
        refine lv_iload hx hb dX7_power_78 (lv_at hl 7 rfl) ?_
        refine C_vi (wr := []) X hP hD hS [.int x8] [.int x7] (w_X7_counts l D cI cZ cR adK adV _ o q F A x8 _ h) cal_X7_counts mw_18_20 rfl [0, 1, 2, 3, 4, 5, 6, 7, 8, 9, 10, 11, 12, 13, 14, 15] [] [0, 1, 2, 3, 4, 5, 6, 7, 8, 9, 10, 11, 12, 13, 14, 15] (fun u => (wX7 cI cZ o q F A : va_W)) rfl rfl (fun _ => rfl) rfl 0 rfl rfl ⟨rfl, rfl⟩ ⟨Nat.le_of_ble_eq_true rfl, Nat.le_of_ble_eq_true rfl⟩ hl.1 rfl (Nat.le_of_ble_eq_true rfl) ⟨Nat.zero_le _, Nat.zero_le _⟩ dX7_power_80 (fun r80 u H locs h hP hD hS => ?_)
        refine lv_goto (tgt := 87) hx hb dX7_power_83 (by decide) ?_
        exact b_X7_power_J87 F A x1 x2 x3 x4 x6 x8 r80 x7 X ret hB34 ih _ _ _ h hP hD hS (lv_sub hl [0, 1, 2, 3, 4, 5, 7] rfl)
def p_X7_power_L34 (F : tF) (A : tA) (x1 : Int32) (x2 : Int32) (x3 : Int32) (K : Int64 → Prop) : Nat → Int64 → Int32 → Prop
  | 0, _, _ => False
  | n34 + 1, x4, x6 => ((((1 : Int32) <<< (((A 0) 0) &&& 31)) ≤ x6 → (p_X7_product ((A 0) 0) (fun r188 => (p_X7_partOf x4 r188 x2 (fun r192 => (K r192)))))) ∧ (¬ ((1 : Int32) <<< (((A 0) 0) &&& 31)) ≤ x6 → (∃ n53, p_X7_power_L53 F A x1 x2 x3 x4 x6 (p_X7_power_L34 F A x1 x2 x3 K n34) K n53 (0 : Int32) (0 : Int32))))
set_option maxHeartbeats 4000000 in
set_option maxRecDepth 100000 in
theorem b_X7_power_L34 {p : Program} {l : Launch} {e : Env} {s : State} {m : MethodId} {args : Array Value} {below : List Frame} {meth : Method} {c : Code} {Q : State → Prop} {D : va_G} {cI cZ cR : ClassId} {adK adV : Nat → Nat} {A9 : Nat → Prop} {o : Nat} {q : Nat → Nat} {K : Int64 → Prop}  (F : tF) (A : tA) (x1 : Int32) (x2 : Int32) (x3 : Int32) (X : CX p s m args c yX7_power.cls cX7_power 9 D cI cZ cR adK adV A9) (ret : RTl p l e (rmN 3 67) s m args below meth c Q cX7_power D A9 (fun (r : Int64) (u : Unit) => K r) (fun (u : Unit) => (wX7 cI cZ o q F A : va_W)))   : ∀ (n : Nat) (x4 : Int64) (x6 : Int32) (H : Heap) (locs : List Loc) (ls : Array Slot), p_X7_power_L34 F A x1 x2 x3 K n x4 x6 → va_P D vwCl (wX7 cI cZ o q F A : va_W) H → va_D A9 (wX7 cI cZ o q F A : va_W) → va_S A9 s.heap H locs → lv_has ls 9 [(0, .ref o), (1, .int x1), (2, .int x2), (3, .int x3), (4, .long x4), (6, .int x6)] → W p l e (rmN 3 67) s m args below meth c H locs 0 0 Q (F0 m 34 ls []) := by
  obtain ⟨hx, hb, hml, ht, hown, hK, hA, hE⟩ := id X
  intro n
  induction n with
  | zero => intro x4 x6 H locs ls h; exact False.elim h
  | succ n34 ih =>
    intro x4 x6 H locs ls h hP hD hS hl
    rw [p_X7_power_L34] at h
    refine lv_iload hx hb dX7_power_34 (lv_at hl 5 rfl) ?_
    refine lv_iconst (v := 1) hx hb dX7_power_36 (by decide) ?_
    refine lv_aload_n hx hb dX7_power_37 rfl (lv_at hl 0 rfl) ?_
    refine va_get (C := RX7) (T := TX7) (N := 28) (own := RX7) (v := .ref (q 0)) hx hb ht inlX7 hown hK hP 0 rfl rfl 0 (Nat.le_of_ble_eq_true rfl) (ht _ mw_5_7) (fun _ h9 => h9) rfl dX7_power_38 ?_
    refine lv_iconst (v := 0) hx hb dX7_power_41 (by decide) ?_
    refine g_iald (f := (A 0)) (k := 0) hx hb hK hP 1 0 rfl rfl (vp_in_lit rfl : vp_in (0 : Int32) 53) (by decide) dX7_power_42 ?_
    refine lv_ishl hx hb dX7_power_43 ?_
    refine lv_icmp_ge (tgt := 180) hx hb dX7_power_44 (by decide) (fun c44 => ?_) (fun c44 => ?_)
    · replace h := h.1 c44
      refine lv_lload hx hb dX7_power_180 (lv_at hl 4 rfl) ?_
      refine lv_aload_n hx hb dX7_power_182 rfl (lv_at hl 0 rfl) ?_
      refine va_get (C := RX7) (T := TX7) (N := 28) (own := RX7) (v := .ref (q 0)) hx hb ht inlX7 hown hK hP 0 rfl rfl 0 (Nat.le_of_ble_eq_true rfl) (ht _ mw_5_7) (fun _ h9 => h9) rfl dX7_power_183 ?_
      refine lv_iconst (v := 0) hx hb dX7_power_186 (by decide) ?_
      refine g_iald (f := (A 0)) (k := 0) hx hb hK hP 1 0 rfl rfl (vp_in_lit rfl : vp_in (0 : Int32) 53) (by decide) dX7_power_187 ?_
      refine C_sl (wr := [0, 1, 2, 3, 4, 5, 6, 7, 8, 9, 10, 11, 12, 13, 14, 15].filterMap (fun i => (wX7 cI cZ o q F A : va_W)[i]?)) X hP hD hS [.int ((A 0) 0)] [.long x4] (w_X7_product l D cI cZ cR adK adV _ ((A 0) 0) _ h) cal_X7_product mw_39_14 rfl [] [0, 1, 2, 3, 4, 5, 6, 7, 8, 9, 10, 11, 12, 13, 14, 15] [0, 1, 2, 3, 4, 5, 6, 7, 8, 9, 10, 11, 12, 13, 14, 15] (fun u => (wX7 cI cZ o q F A : va_W)) rfl rfl (fun _ => rfl) rfl ⟨rfl, rfl⟩ ⟨Nat.le_of_ble_eq_true rfl, Nat.le_of_ble_eq_true rfl⟩ hl.1 rfl (Nat.le_of_ble_eq_true rfl) ⟨Nat.zero_le _, Nat.zero_le _⟩ dX7_power_188 (fun r188 u H locs h hP hD hS => ?_)
      refine lv_iload_n hx hb dX7_power_191 rfl (lv_at hl 2 rfl) ?_
      refine C_sl (wr := [0, 1, 2, 3, 4, 5, 6, 7, 8, 9, 10, 11, 12, 13, 14, 15].filterMap (fun i => (wX7 cI cZ o q F A : va_W)[i]?)) X hP hD hS [.long x4, .long r188, .int x2] [] (w_X7_partOf l D cI cZ cR adK adV _ x4 r188 x2 _ h) cal_X7_partOf mw_39_17 rfl [] [0, 1, 2, 3, 4, 5, 6, 7, 8, 9, 10, 11, 12, 13, 14, 15] [0, 1, 2, 3, 4, 5, 6, 7, 8, 9, 10, 11, 12, 13, 14, 15] (fun u => (wX7 cI cZ o q F A : va_W)) rfl rfl (fun _ => rfl) rfl ⟨rfl, rfl⟩ ⟨Nat.le_of_ble_eq_true rfl, Nat.le_of_ble_eq_true rfl⟩ hl.1 rfl (Nat.le_of_ble_eq_true rfl) ⟨Nat.zero_le _, Nat.zero_le _⟩ dX7_power_192 (fun r192 u H locs h hP hD hS => ?_)
      exact ret _ () _ _ _ _ dX7_power_195 h hP hD hS
    · replace h := h.2 c44
      refine lv_iconst (v := 0) hx hb dX7_power_47 (by decide) ?_
      refine lv_istore (lv' := [(7, .int (0 : Int32)), (0, .ref o), (1, .int x1), (2, .int x2), (3, .int x3), (4, .long x4), (6, .int x6)]) hx hb dX7_power_48 hl (by decide) rfl (fun ls hl => ?_)
      refine lv_iconst (v := 0) hx hb dX7_power_50 (by decide) ?_
      refine lv_istore (lv' := [(8, .int (0 : Int32)), (7, .int (0 : Int32)), (0, .ref o), (1, .int x1), (2, .int x2), (3, .int x3), (4, .long x4), (6, .int x6)]) hx hb dX7_power_51 hl (by decide) rfl (fun ls hl => ?_)
      obtain ⟨n53, h⟩ := h
      exact b_X7_power_L53 F A x1 x2 x3 x4 x6 X ret ih n53 (0 : Int32) (0 : Int32) _ _ _ h hP hD hS (lv_sub hl [2, 3, 4, 5, 6, 7, 1, 0] rfl)
def p_X7_power (F : tF) (A : tA) (x1 : Int32) (x2 : Int32) (K : Int64 → Prop) : Prop := (p_X7_isOne F A x1 (fun r2 => ((r2 = 0 → (K (-1 : Int64))) ∧ (¬ r2 = 0 → (p_X7_isIn ((x2).toInt64) (0 : Int64) (1 : Int64) (fun r12 => ((¬ r12 = 0 → (p_X7_sumOf F A (4 : Int32) (fun r24 => (∃ n34, p_X7_power_L34 F A x1 x2 r24 K n34 (0 : Int64) (0 : Int32))))) ∧ (r12 = 0 → (K (-1 : Int64))))))))))
set_option maxHeartbeats 4000000 in
set_option maxRecDepth 100000 in
theorem w_X7_power (l : Launch) (D : va_G) (cI cZ cR : ClassId) (adK adV : Nat → Nat) (sz : Nat) (o : Nat) (q : Nat → Nat) (F : tF) (A : tA) (x1 : Int32) (x2 : Int32) (K : Int64 → Prop) (h : p_X7_power F A x1 x2 K) : ML l D cI cZ cR adK adV yX7_power cX7_power 9 (some .long) (rmN 3 67) [.ref o, .int x1, .int x2] (wX7 cI cZ o q F A : va_W) sz (fun (r : Int64) (u : Unit) => K r) (fun (u : Unit) => (wX7 cI cZ o q F A : va_W)) := by
  refine M_l (by decide +kernel) (Nat.le_of_ble_eq_true rfl) ?_
  intro p e s m args below meth c Q A9 ls X ret hP hD hS hl
  obtain ⟨hx, hb, hml, ht, hown, hK, hA, hE⟩ := id X
  have hl : lv_has ls 9 [(0, .ref o), (1, .int x1), (2, .int x2)] := hl
  unfold p_X7_power at h
  refine lv_aload_n hx hb dX7_power_0 rfl (lv_at hl 0 rfl) ?_
  refine lv_iload_n hx hb dX7_power_1 rfl (lv_at hl 1 rfl) ?_
  refine C_vi (wr := []) X hP hD hS [.int x1] [] (w_X7_isOne l D cI cZ cR adK adV _ o q F A x1 _ h) cal_X7_isOne mw_18_12 rfl [0, 1, 2, 3, 4, 5, 6, 7, 8, 9, 10, 11, 12, 13, 14, 15] [] [0, 1, 2, 3, 4, 5, 6, 7, 8, 9, 10, 11, 12, 13, 14, 15] (fun u => (wX7 cI cZ o q F A : va_W)) rfl rfl (fun _ => rfl) rfl 0 rfl rfl ⟨rfl, rfl⟩ ⟨Nat.le_of_ble_eq_true rfl, Nat.le_of_ble_eq_true rfl⟩ hl.1 rfl (Nat.le_of_ble_eq_true rfl) ⟨Nat.zero_le _, Nat.zero_le _⟩ dX7_power_2 (fun r2 u H locs h hP hD hS => ?_)
  refine lv_if_eq (tgt := 18) hx hb dX7_power_5 (by decide) (fun c5 => ?_) (fun c5 => ?_)
  · replace h := h.1 c5
    refine lv_ldc2 (v := -1) hx hb hown (ht _ mw_39_13) dX7_power_18 ?_
    exact ret _ () _ _ _ _ dX7_power_21 h hP hD hS
  · replace h := h.2 c5
    refine lv_iload_n hx hb dX7_power_8 rfl (lv_at hl 2 rfl) ?_
    refine lv_i2l (v := (x2).toInt64) hx hb dX7_power_9 rfl ?_
    refine lv_lconst (v := 0) hx hb dX7_power_10 (by decide) ?_
    refine lv_lconst (v := 1) hx hb dX7_power_11 (by decide) ?_
    refine C_si (wr := [0, 1, 2, 3, 4, 5, 6, 7, 8, 9, 10, 11, 12, 13, 14, 15].filterMap (fun i => (wX7 cI cZ o q F A : va_W)[i]?)) X hP hD hS [.long (x2).toInt64, .long (0 : Int64), .long (1 : Int64)] [] (w_X7_isIn l D cI cZ cR adK adV _ ((x2).toInt64) (0 : Int64) (1 : Int64) _ h) cal_X7_isIn mw_6_19 rfl [] [0, 1, 2, 3, 4, 5, 6, 7, 8, 9, 10, 11, 12, 13, 14, 15] [0, 1, 2, 3, 4, 5, 6, 7, 8, 9, 10, 11, 12, 13, 14, 15] (fun u => (wX7 cI cZ o q F A : va_W)) rfl rfl (fun _ => rfl) rfl ⟨rfl, rfl⟩ ⟨Nat.le_of_ble_eq_true rfl, Nat.le_of_ble_eq_true rfl⟩ hl.1 rfl (Nat.le_of_ble_eq_true rfl) ⟨Nat.zero_le _, Nat.zero_le _⟩ dX7_power_12 (fun r12 u H locs h hP hD hS => ?_)
    refine lv_if_ne (tgt := 22) hx hb dX7_power_15 (by decide) (fun c15 => ?_) (fun c15 => ?_)
    · replace h := h.1 c15
      refine lv_aload_n hx hb dX7_power_22 rfl (lv_at hl 0 rfl) ?_
      refine lv_iconst (v := 4) hx hb dX7_power_23 (by decide) ?_
      refine C_vi (wr := []) X hP hD hS [.int (4 : Int32)] [] (w_X7_sumOf l D cI cZ cR adK adV _ o q F A (4 : Int32) _ h) cal_X7_sumOf mw_28_21 rfl [0, 1, 2, 3, 4, 5, 6, 7, 8, 9, 10, 11, 12, 13, 14, 15] [] [0, 1, 2, 3, 4, 5, 6, 7, 8, 9, 10, 11, 12, 13, 14, 15] (fun u => (wX7 cI cZ o q F A : va_W)) rfl rfl (fun _ => rfl) rfl 0 rfl rfl ⟨rfl, rfl⟩ ⟨Nat.le_of_ble_eq_true rfl, Nat.le_of_ble_eq_true rfl⟩ hl.1 rfl (Nat.le_of_ble_eq_true rfl) ⟨Nat.zero_le _, Nat.zero_le _⟩ dX7_power_24 (fun r24 u H locs h hP hD hS => ?_)
      refine lv_istore_n (lv' := [(3, .int r24), (0, .ref o), (1, .int x1), (2, .int x2)]) hx hb dX7_power_27 rfl hl (by decide) rfl (fun ls hl => ?_)
      refine lv_lconst (v := 0) hx hb dX7_power_28 (by decide) ?_
      refine lv_lstore (lv' := [(4, .long (0 : Int64)), (3, .int r24), (0, .ref o), (1, .int x1), (2, .int x2)]) hx hb dX7_power_29 hl (by decide) rfl (fun ls hl => ?_)
      refine lv_iconst (v := 0) hx hb dX7_power_31 (by decide) ?_
      refine lv_istore (lv' := [(6, .int (0 : Int32)), (4, .long (0 : Int64)), (3, .int r24), (0, .ref o), (1, .int x1), (2, .int x2)]) hx hb dX7_power_32 hl (by decide) rfl (fun ls hl => ?_)
      obtain ⟨n34, h⟩ := h
      exact b_X7_power_L34 F A x1 x2 r24 X ret  n34 (0 : Int64) (0 : Int32) _ _ _ h hP hD hS (lv_sub hl [3, 4, 5, 2, 1, 0] rfl)
    · replace h := h.2 c15
      refine lv_ldc2 (v := -1) hx hb hown (ht _ mw_39_13) dX7_power_18 ?_
      exact ret _ () _ _ _ _ dX7_power_21 h hP hD hS
theorem dX7_isTold_0 : decode cX7_isTold 0 = .ok (.aload_n 0, 1) := by decide +kernel
theorem dX7_isTold_1 : decode cX7_isTold 1 = .ok (.getfield 7, 3) := by decide +kernel
theorem dX7_isTold_4 : decode cX7_isTold 4 = .ok (.aload_n 0, 1) := by decide +kernel
theorem dX7_isTold_5 : decode cX7_isTold 5 = .ok (.getfield 16, 3) := by decide +kernel
theorem dX7_isTold_8 : decode cX7_isTold 8 = .ok (.invokestatic 144, 3) := by decide +kernel
theorem dX7_isTold_11 : decode cX7_isTold 11 = .ok (.iconst 1, 1) := by decide +kernel
theorem dX7_isTold_12 : decode cX7_isTold 12 = .ok (.istore_n 2, 1) := by decide +kernel
theorem dX7_isTold_13 : decode cX7_isTold 13 = .ok (.iconst 0, 1) := by decide +kernel
theorem dX7_isTold_14 : decode cX7_isTold 14 = .ok (.istore_n 3, 1) := by decide +kernel
theorem dX7_isTold_15 : decode cX7_isTold 15 = .ok (.iload_n 3, 1) := by decide +kernel
theorem dX7_isTold_16 : decode cX7_isTold 16 = .ok (.aload_n 0, 1) := by decide +kernel
theorem dX7_isTold_17 : decode cX7_isTold 17 = .ok (.getfield 38, 3) := by decide +kernel
theorem dX7_isTold_20 : decode cX7_isTold 20 = .ok (.iload_n 1, 1) := by decide +kernel
theorem dX7_isTold_21 : decode cX7_isTold 21 = .ok (.iaload, 1) := by decide +kernel
theorem dX7_isTold_22 : decode cX7_isTold 22 = .ok (.if_icmp .ge 58, 3) := by decide +kernel
theorem dX7_isTold_25 : decode cX7_isTold 25 = .ok (.iload_n 2, 1) := by decide +kernel
theorem dX7_isTold_26 : decode cX7_isTold 26 = .ok (.ifCond .eq 54, 3) := by decide +kernel
theorem dX7_isTold_29 : decode cX7_isTold 29 = .ok (.aload_n 0, 1) := by decide +kernel
theorem dX7_isTold_30 : decode cX7_isTold 30 = .ok (.invokevirtual 206, 3) := by decide +kernel
theorem dX7_isTold_33 : decode cX7_isTold 33 = .ok (.aload_n 0, 1) := by decide +kernel
theorem dX7_isTold_34 : decode cX7_isTold 34 = .ok (.getfield 41, 3) := by decide +kernel
theorem dX7_isTold_37 : decode cX7_isTold 37 = .ok (.bipush 40, 2) := by decide +kernel
theorem dX7_isTold_39 : decode cX7_isTold 39 = .ok (.iload_n 1, 1) := by decide +kernel
theorem dX7_isTold_40 : decode cX7_isTold 40 = .ok (.imul, 1) := by decide +kernel
theorem dX7_isTold_41 : decode cX7_isTold 41 = .ok (.iload_n 3, 1) := by decide +kernel
theorem dX7_isTold_42 : decode cX7_isTold 42 = .ok (.iadd, 1) := by decide +kernel
theorem dX7_isTold_43 : decode cX7_isTold 43 = .ok (.iaload, 1) := by decide +kernel
theorem dX7_isTold_44 : decode cX7_isTold 44 = .ok (.iconst (-1), 1) := by decide +kernel
theorem dX7_isTold_45 : decode cX7_isTold 45 = .ok (.if_icmp .eq 23, 3) := by decide +kernel
theorem dX7_isTold_48 : decode cX7_isTold 48 = .ok (.aload_n 0, 1) := by decide +kernel
theorem dX7_isTold_49 : decode cX7_isTold 49 = .ok (.getfield 41, 3) := by decide +kernel
theorem dX7_isTold_52 : decode cX7_isTold 52 = .ok (.bipush 40, 2) := by decide +kernel
theorem dX7_isTold_54 : decode cX7_isTold 54 = .ok (.iload_n 1, 1) := by decide +kernel
theorem dX7_isTold_55 : decode cX7_isTold 55 = .ok (.imul, 1) := by decide +kernel
theorem dX7_isTold_56 : decode cX7_isTold 56 = .ok (.iload_n 3, 1) := by decide +kernel
theorem dX7_isTold_57 : decode cX7_isTold 57 = .ok (.iadd, 1) := by decide +kernel
theorem dX7_isTold_58 : decode cX7_isTold 58 = .ok (.iaload, 1) := by decide +kernel
theorem dX7_isTold_59 : decode cX7_isTold 59 = .ok (.aload_n 0, 1) := by decide +kernel
theorem dX7_isTold_60 : decode cX7_isTold 60 = .ok (.getfield 7, 3) := by decide +kernel
theorem dX7_isTold_63 : decode cX7_isTold 63 = .ok (.iconst 3, 1) := by decide +kernel
theorem dX7_isTold_64 : decode cX7_isTold 64 = .ok (.iaload, 1) := by decide +kernel
theorem dX7_isTold_65 : decode cX7_isTold 65 = .ok (.if_icmp .ne 7, 3) := by decide +kernel
theorem dX7_isTold_68 : decode cX7_isTold 68 = .ok (.iconst 1, 1) := by decide +kernel
theorem dX7_isTold_69 : decode cX7_isTold 69 = .ok (.goto 4, 3) := by decide +kernel
theorem dX7_isTold_72 : decode cX7_isTold 72 = .ok (.iconst 0, 1) := by decide +kernel
theorem dX7_isTold_73 : decode cX7_isTold 73 = .ok (.istore_n 2, 1) := by decide +kernel
theorem dX7_isTold_74 : decode cX7_isTold 74 = .ok (.iinc 3 1, 3) := by decide +kernel
theorem dX7_isTold_77 : decode cX7_isTold 77 = .ok (.goto (-62), 3) := by decide +kernel
theorem dX7_isTold_80 : decode cX7_isTold 80 = .ok (.aload_n 0, 1) := by decide +kernel
theorem dX7_isTold_81 : decode cX7_isTold 81 = .ok (.getfield 16, 3) := by decide +kernel
theorem dX7_isTold_84 : decode cX7_isTold 84 = .ok (.aload_n 0, 1) := by decide +kernel
theorem dX7_isTold_85 : decode cX7_isTold 85 = .ok (.getfield 7, 3) := by decide +kernel
theorem dX7_isTold_88 : decode cX7_isTold 88 = .ok (.invokestatic 144, 3) := by decide +kernel
theorem dX7_isTold_91 : decode cX7_isTold 91 = .ok (.iload_n 2, 1) := by decide +kernel
theorem dX7_isTold_92 : decode cX7_isTold 92 = .ok (.ireturn, 1) := by decide +kernel
def p_X7_isTold_J80 (F : tF) (A : tA) (K : Int32 → tF → tA → Prop) (x2 : Int32) : Prop := (p_X7_copyRow 53 (A 2) 53 (A 0) (fun g0_88 => (bo x2 ∧ (K x2 F (va_up A 0 g0_88)))))
set_option maxHeartbeats 4000000 in
set_option maxRecDepth 100000 in
theorem b_X7_isTold_J80 {p : Program} {l : Launch} {e : Env} {s : State} {m : MethodId} {args : Array Value} {below : List Frame} {meth : Method} {c : Code} {Q : State → Prop} {D : va_G} {cI cZ cR : ClassId} {adK adV : Nat → Nat} {A9 : Nat → Prop} {o : Nat} {q : Nat → Nat} {K : Int32 → tF → tA → Prop}  (F : tF) (A : tA) (x2 : Int32) (X : CX p s m args c yX7_isTold.cls cX7_isTold 4 D cI cZ cR adK adV A9) (ret : RTz p l e (rmN 6 142) s m args below meth c Q cX7_isTold D A9 (fun (r : Int32) (u : (tF × tA)) => K r u.1 u.2) (fun (u : (tF × tA)) => (wX7 cI cZ o q u.1 u.2 : va_W)))  (H : Heap) (locs : List Loc) (ls : Array Slot) (h : p_X7_isTold_J80 F A K x2) (hP : va_P D vwCl (wX7 cI cZ o q F A : va_W) H) (hD : va_D A9 (wX7 cI cZ o q F A : va_W)) (hS : va_S A9 s.heap H locs) (hl : lv_has ls 4 [(0, .ref o), (2, .int x2)]) : W p l e (rmN 6 142) s m args below meth c H locs 0 0 Q (F0 m 80 ls []) := by
  obtain ⟨hx, hb, hml, ht, hown, hK, hA, hE⟩ := id X
  unfold p_X7_isTold_J80 at h
  refine lv_aload_n hx hb dX7_isTold_80 rfl (lv_at hl 0 rfl) ?_
  refine va_get (C := RX7) (T := TX7) (N := 28) (own := RX7) (v := .ref (q 2)) hx hb ht inlX7 hown hK hP 0 rfl rfl 2 (Nat.le_of_ble_eq_true rfl) (ht _ mw_5_9) (fun _ h9 => h9) rfl dX7_isTold_81 ?_
  refine lv_aload_n hx hb dX7_isTold_84 rfl (lv_at hl 0 rfl) ?_
  refine va_get (C := RX7) (T := TX7) (N := 28) (own := RX7) (v := .ref (q 0)) hx hb ht inlX7 hown hK hP 0 rfl rfl 0 (Nat.le_of_ble_eq_true rfl) (ht _ mw_5_7) (fun _ h9 => h9) rfl dX7_isTold_85 ?_
  refine C_sv (wr := [0, 2, 4, 5, 6, 7, 8, 9, 10, 11, 12, 13, 14, 15].filterMap (fun i => (wX7 cI cZ o q F A : va_W)[i]?)) X hP hD hS [.ref (q 2), .ref (q 0)] [] (w_X7_copyRow l D cI cZ cR adK adV _ (q 2) (q 0) 53 (A 2) 53 (A 0) _ h) cal_X7_copyRow mw_12_6 rfl [3, 1] [0, 2, 4, 5, 6, 7, 8, 9, 10, 11, 12, 13, 14, 15] [0, 15, 1, 14, 2, 3, 4, 5, 6, 7, 8, 9, 10, 11, 12, 13] (fun u => (wX7 cI cZ o q F (va_up A 0 u) : va_W)) rfl rfl (fun _ => rfl) rfl ⟨rfl, rfl⟩ ⟨Nat.le_of_ble_eq_true rfl, Nat.le_of_ble_eq_true rfl⟩ hl.1 rfl (Nat.le_of_ble_eq_true rfl) ⟨Nat.zero_le _, Nat.zero_le _⟩ dX7_isTold_88 (fun u H locs h hP hD hS => ?_)
  obtain ⟨g0_88, rfl⟩ : ∃ z, z = u := ⟨_, rfl⟩
  try dsimp only at h
  have hP : va_P D vwCl (wX7 cI cZ o q F (va_up A 0 g0_88) : va_W) H := hP
  have hD : va_D A9 (wX7 cI cZ o q F (va_up A 0 g0_88) : va_W) := hD
  refine lv_iload_n hx hb dX7_isTold_91 rfl (lv_at hl 1 rfl) ?_
  obtain ⟨hz92, h⟩ := h
  exact ret _ (F, (va_up A 0 g0_88)) _ _ _ _ dX7_isTold_92 hz92 h hP hD hS
def p_X7_isTold_J73 (F : tF) (A : tA) (B15 : (tF → tA → Int32 → Int32 → Prop)) (K : Int32 → tF → tA → Prop) (x1 : Int32) (x3 : Int32) (s0 : Int32) : Prop := (∀ y74 : Int32, y74 = (x3 + (1 : Int32)) → (B15 F A s0 y74))
set_option maxHeartbeats 4000000 in
set_option maxRecDepth 100000 in
theorem b_X7_isTold_J73 {p : Program} {l : Launch} {e : Env} {s : State} {m : MethodId} {args : Array Value} {below : List Frame} {meth : Method} {c : Code} {Q : State → Prop} {D : va_G} {cI cZ cR : ClassId} {adK adV : Nat → Nat} {A9 : Nat → Prop} {o : Nat} {q : Nat → Nat} {K : Int32 → tF → tA → Prop} {B15 : (tF → tA → Int32 → Int32 → Prop)} (F : tF) (A : tA) (x1 : Int32) (x3 : Int32) (s0 : Int32) (X : CX p s m args c yX7_isTold.cls cX7_isTold 4 D cI cZ cR adK adV A9) (ret : RTz p l e (rmN 6 142) s m args below meth c Q cX7_isTold D A9 (fun (r : Int32) (u : (tF × tA)) => K r u.1 u.2) (fun (u : (tF × tA)) => (wX7 cI cZ o q u.1 u.2 : va_W))) (hB15 : ∀ (F : tF) (A : tA) (x2 : Int32) (x3 : Int32) (H : Heap) (locs : List Loc) (ls : Array Slot), B15 F A x2 x3 → va_P D vwCl (wX7 cI cZ o q F A : va_W) H → va_D A9 (wX7 cI cZ o q F A : va_W) → va_S A9 s.heap H locs → lv_has ls 4 [(0, .ref o), (1, .int x1), (2, .int x2), (3, .int x3)] → W p l e (rmN 6 142) s m args below meth c H locs 0 0 Q (F0 m 15 ls [])) (H : Heap) (locs : List Loc) (ls : Array Slot) (h : p_X7_isTold_J73 F A B15 K x1 x3 s0) (hP : va_P D vwCl (wX7 cI cZ o q F A : va_W) H) (hD : va_D A9 (wX7 cI cZ o q F A : va_W)) (hS : va_S A9 s.heap H locs) (hl : lv_has ls 4 [(0, .ref o), (1, .int x1), (3, .int x3)]) : W p l e (rmN 6 142) s m args below meth c H locs 0 0 Q (F0 m 73 ls [.int s0]) := by
  obtain ⟨hx, hb, hml, ht, hown, hK, hA, hE⟩ := id X
  unfold p_X7_isTold_J73 at h
  refine lv_istore_n (lv' := [(2, .int s0), (0, .ref o), (1, .int x1), (3, .int x3)]) hx hb dX7_isTold_73 rfl hl (by decide) rfl (fun ls hl => ?_)
  obtain ⟨y74, ey74⟩ : ∃ y : Int32, y = (x3 + (1 : Int32)) := ⟨_, rfl⟩
  replace h := h y74 ey74
  refine lv_iinc (v := y74) (lv' := [(3, .int y74), (2, .int s0), (0, .ref o), (1, .int x1)]) hx hb dX7_isTold_74 hl (k := 3) rfl (by rw [ey74]; rfl) (by decide) rfl (fun ls hl => ?_)
  refine lv_goto (tgt := 15) hx hb dX7_isTold_77 (by decide) ?_
  exact hB15 F A s0 y74 _ _ _ h hP hD hS (lv_sub hl [2, 3, 1, 0] rfl)
def p_X7_isTold_J68 (F : tF) (A : tA) (B15 : (tF → tA → Int32 → Int32 → Prop)) (K : Int32 → tF → tA → Prop) (x1 : Int32) (x3 : Int32) : Prop := (p_X7_isTold_J73 F A B15 K x1 x3 (1 : Int32))
set_option maxHeartbeats 4000000 in
set_option maxRecDepth 100000 in
theorem b_X7_isTold_J68 {p : Program} {l : Launch} {e : Env} {s : State} {m : MethodId} {args : Array Value} {below : List Frame} {meth : Method} {c : Code} {Q : State → Prop} {D : va_G} {cI cZ cR : ClassId} {adK adV : Nat → Nat} {A9 : Nat → Prop} {o : Nat} {q : Nat → Nat} {K : Int32 → tF → tA → Prop} {B15 : (tF → tA → Int32 → Int32 → Prop)} (F : tF) (A : tA) (x1 : Int32) (x3 : Int32) (X : CX p s m args c yX7_isTold.cls cX7_isTold 4 D cI cZ cR adK adV A9) (ret : RTz p l e (rmN 6 142) s m args below meth c Q cX7_isTold D A9 (fun (r : Int32) (u : (tF × tA)) => K r u.1 u.2) (fun (u : (tF × tA)) => (wX7 cI cZ o q u.1 u.2 : va_W))) (hB15 : ∀ (F : tF) (A : tA) (x2 : Int32) (x3 : Int32) (H : Heap) (locs : List Loc) (ls : Array Slot), B15 F A x2 x3 → va_P D vwCl (wX7 cI cZ o q F A : va_W) H → va_D A9 (wX7 cI cZ o q F A : va_W) → va_S A9 s.heap H locs → lv_has ls 4 [(0, .ref o), (1, .int x1), (2, .int x2), (3, .int x3)] → W p l e (rmN 6 142) s m args below meth c H locs 0 0 Q (F0 m 15 ls [])) (H : Heap) (locs : List Loc) (ls : Array Slot) (h : p_X7_isTold_J68 F A B15 K x1 x3) (hP : va_P D vwCl (wX7 cI cZ o q F A : va_W) H) (hD : va_D A9 (wX7 cI cZ o q F A : va_W)) (hS : va_S A9 s.heap H locs) (hl : lv_has ls 4 [(0, .ref o), (1, .int x1), (3, .int x3)]) : W p l e (rmN 6 142) s m args below meth c H locs 0 0 Q (F0 m 68 ls []) := by
  obtain ⟨hx, hb, hml, ht, hown, hK, hA, hE⟩ := id X
  unfold p_X7_isTold_J68 at h
  refine lv_iconst (v := 1) hx hb dX7_isTold_68 (by decide) ?_
  refine lv_goto (tgt := 73) hx hb dX7_isTold_69 (by decide) ?_
  exact b_X7_isTold_J73 F A x1 x3 (1 : Int32) X ret hB15 _ _ _ h hP hD hS (lv_sub hl [0, 1, 2] rfl)
def p_X7_isTold_L15 (x1 : Int32) (K : Int32 → tF → tA → Prop) : Nat → tF → tA → Int32 → Int32 → Prop
  | 0, _, _, _, _ => False
  | n15 + 1, F, A, x2, x3 => (vp_in x1 4 ∧ ((((A 17) (x1).toNatClampNeg) ≤ x3 → (p_X7_isTold_J80 F A K x2)) ∧ (¬ ((A 17) (x1).toNatClampNeg) ≤ x3 → ((x2 = 0 → (p_X7_isTold_J80 F A K x2)) ∧ (¬ x2 = 0 → (p_X7_goesOn F A (fun F_30 A_30 => (vp_in (((40 : Int32) * x1) + x3) 160 ∧ ((((A_30 18) ((((40 : Int32) * x1) + x3)).toNatClampNeg) = (-1 : Int32) → (p_X7_isTold_J68 F_30 A_30 (p_X7_isTold_L15 x1 K n15) K x1 x3)) ∧ (¬ ((A_30 18) ((((40 : Int32) * x1) + x3)).toNatClampNeg) = (-1 : Int32) → (vp_in (((40 : Int32) * x1) + x3) 160 ∧ ((¬ ((A_30 18) ((((40 : Int32) * x1) + x3)).toNatClampNeg) = ((A_30 0) 3) → (p_X7_isTold_J73 F_30 A_30 (p_X7_isTold_L15 x1 K n15) K x1 x3 (0 : Int32))) ∧ (((A_30 18) ((((40 : Int32) * x1) + x3)).toNatClampNeg) = ((A_30 0) 3) → (p_X7_isTold_J68 F_30 A_30 (p_X7_isTold_L15 x1 K n15) K x1 x3))))))))))))))
set_option maxHeartbeats 4000000 in
set_option maxRecDepth 100000 in
theorem b_X7_isTold_L15 {p : Program} {l : Launch} {e : Env} {s : State} {m : MethodId} {args : Array Value} {below : List Frame} {meth : Method} {c : Code} {Q : State → Prop} {D : va_G} {cI cZ cR : ClassId} {adK adV : Nat → Nat} {A9 : Nat → Prop} {o : Nat} {q : Nat → Nat} {K : Int32 → tF → tA → Prop}  (x1 : Int32) (X : CX p s m args c yX7_isTold.cls cX7_isTold 4 D cI cZ cR adK adV A9) (ret : RTz p l e (rmN 6 142) s m args below meth c Q cX7_isTold D A9 (fun (r : Int32) (u : (tF × tA)) => K r u.1 u.2) (fun (u : (tF × tA)) => (wX7 cI cZ o q u.1 u.2 : va_W)))   : ∀ (n : Nat) (F : tF) (A : tA) (x2 : Int32) (x3 : Int32) (H : Heap) (locs : List Loc) (ls : Array Slot), p_X7_isTold_L15 x1 K n F A x2 x3 → va_P D vwCl (wX7 cI cZ o q F A : va_W) H → va_D A9 (wX7 cI cZ o q F A : va_W) → va_S A9 s.heap H locs → lv_has ls 4 [(0, .ref o), (1, .int x1), (2, .int x2), (3, .int x3)] → W p l e (rmN 6 142) s m args below meth c H locs 0 0 Q (F0 m 15 ls []) := by
  obtain ⟨hx, hb, hml, ht, hown, hK, hA, hE⟩ := id X
  intro n
  induction n with
  | zero => intro F A x2 x3 H locs ls h; exact False.elim h
  | succ n15 ih =>
    intro F A x2 x3 H locs ls h hP hD hS hl
    rw [p_X7_isTold_L15] at h
    refine lv_iload_n hx hb dX7_isTold_15 rfl (lv_at hl 3 rfl) ?_
    refine lv_aload_n hx hb dX7_isTold_16 rfl (lv_at hl 0 rfl) ?_
    refine va_get (C := RX7) (T := TX7) (N := 28) (own := RX7) (v := .ref (q 17)) hx hb ht inlX7 hown hK hP 0 rfl rfl 17 (Nat.le_of_ble_eq_true rfl) (ht _ mw_5_16) (fun _ h9 => h9) rfl dX7_isTold_17 ?_
    refine lv_iload_n hx hb dX7_isTold_20 rfl (lv_at hl 1 rfl) ?_
    obtain ⟨hi21, h⟩ := h
    refine g_iald (f := (A 17)) (k := (x1).toNatClampNeg) hx hb hK hP 10 0 rfl rfl hi21 rfl dX7_isTold_21 ?_
    refine lv_icmp_ge (tgt := 80) hx hb dX7_isTold_22 (by decide) (fun c22 => ?_) (fun c22 => ?_)
    · replace h := h.1 c22
      exact b_X7_isTold_J80 F A x2 X ret  _ _ _ h hP hD hS (lv_sub hl [0, 2] rfl)
    · replace h := h.2 c22
      refine lv_iload_n hx hb dX7_isTold_25 rfl (lv_at hl 2 rfl) ?_
      refine lv_if_eq (tgt := 80) hx hb dX7_isTold_26 (by decide) (fun c26 => ?_) (fun c26 => ?_)
      · replace h := h.1 c26
        exact b_X7_isTold_J80 F A x2 X ret  _ _ _ h hP hD hS (lv_sub hl [0, 2] rfl)
      · replace h := h.2 c26
        refine lv_aload_n hx hb dX7_isTold_29 rfl (lv_at hl 0 rfl) ?_
        refine C_vv (wr := []) X hP hD hS [] [] (w_X7_goesOn l D cI cZ cR adK adV _ o q F A _ h) cal_X7_goesOn mw_26_0 rfl [0, 1, 2, 3, 4, 5, 6, 7, 8, 9, 10, 11, 12, 13, 14, 15] [] [0, 1, 2, 3, 4, 5, 6, 7, 8, 9, 10, 11, 12, 13, 14, 15] (fun u => (wX7 cI cZ o q u.1 u.2 : va_W)) rfl rfl (fun _ => rfl) rfl 0 rfl rfl ⟨rfl, rfl⟩ ⟨Nat.le_of_ble_eq_true rfl, Nat.le_of_ble_eq_true rfl⟩ hl.1 rfl (Nat.le_of_ble_eq_true rfl) ⟨Nat.zero_le _, Nat.zero_le _⟩ dX7_isTold_30 (fun u H locs h hP hD hS => ?_)
        obtain ⟨F_30, A_30⟩ := u
        try dsimp only at h
        have hP : va_P D vwCl (wX7 cI cZ o q F_30 A_30 : va_W) H := hP
        have hD : va_D A9 (wX7 cI cZ o q F_30 A_30 : va_W) := hD
        refine lv_aload_n hx hb dX7_isTold_33 rfl (lv_at hl 0 rfl) ?_
        refine va_get (C := RX7) (T := TX7) (N := 28) (own := RX7) (v := .ref (q 18)) hx hb ht inlX7 hown hK hP 0 rfl rfl 18 (Nat.le_of_ble_eq_true rfl) (ht _ mw_5_17) (fun _ h9 => h9) rfl dX7_isTold_34 ?_
        refine lv_bipush (v := 40) hx hb dX7_isTold_37 (by decide) ?_
        refine lv_iload_n hx hb dX7_isTold_39 rfl (lv_at hl 1 rfl) ?_
        refine lv_imul hx hb dX7_isTold_40 ?_
        refine lv_iload_n hx hb dX7_isTold_41 rfl (lv_at hl 3 rfl) ?_
        refine lv_iadd hx hb dX7_isTold_42 ?_
        obtain ⟨hi43, h⟩ := h
        refine g_iald (f := (A_30 18)) (k := ((((40 : Int32) * x1) + x3)).toNatClampNeg) hx hb hK hP 11 0 rfl rfl hi43 rfl dX7_isTold_43 ?_
        refine lv_iconst (v := -1) hx hb dX7_isTold_44 (by decide) ?_
        refine lv_icmp_eq (tgt := 68) hx hb dX7_isTold_45 (by decide) (fun c45 => ?_) (fun c45 => ?_)
        · replace h := h.1 c45
          exact b_X7_isTold_J68 F_30 A_30 x1 x3 X ret ih _ _ _ h hP hD hS (lv_sub hl [0, 1, 3] rfl)
        · replace h := h.2 c45
          refine lv_aload_n hx hb dX7_isTold_48 rfl (lv_at hl 0 rfl) ?_
          refine va_get (C := RX7) (T := TX7) (N := 28) (own := RX7) (v := .ref (q 18)) hx hb ht inlX7 hown hK hP 0 rfl rfl 18 (Nat.le_of_ble_eq_true rfl) (ht _ mw_5_17) (fun _ h9 => h9) rfl dX7_isTold_49 ?_
          refine lv_bipush (v := 40) hx hb dX7_isTold_52 (by decide) ?_
          refine lv_iload_n hx hb dX7_isTold_54 rfl (lv_at hl 1 rfl) ?_
          refine lv_imul hx hb dX7_isTold_55 ?_
          refine lv_iload_n hx hb dX7_isTold_56 rfl (lv_at hl 3 rfl) ?_
          refine lv_iadd hx hb dX7_isTold_57 ?_
          obtain ⟨hi58, h⟩ := h
          refine g_iald (f := (A_30 18)) (k := ((((40 : Int32) * x1) + x3)).toNatClampNeg) hx hb hK hP 11 0 rfl rfl hi58 rfl dX7_isTold_58 ?_
          refine lv_aload_n hx hb dX7_isTold_59 rfl (lv_at hl 0 rfl) ?_
          refine va_get (C := RX7) (T := TX7) (N := 28) (own := RX7) (v := .ref (q 0)) hx hb ht inlX7 hown hK hP 0 rfl rfl 0 (Nat.le_of_ble_eq_true rfl) (ht _ mw_5_7) (fun _ h9 => h9) rfl dX7_isTold_60 ?_
          refine lv_iconst (v := 3) hx hb dX7_isTold_63 (by decide) ?_
          refine g_iald (f := (A_30 0)) (k := 3) hx hb hK hP 1 0 rfl rfl (vp_in_lit rfl : vp_in (3 : Int32) 53) (by decide) dX7_isTold_64 ?_
          refine lv_icmp_ne (tgt := 72) hx hb dX7_isTold_65 (by decide) (fun c65 => ?_) (fun c65 => ?_)
          · replace h := h.1 c65
            refine lv_iconst (v := 0) hx hb dX7_isTold_72 (by decide) ?_
            exact b_X7_isTold_J73 F_30 A_30 x1 x3 (0 : Int32) X ret ih _ _ _ h hP hD hS (lv_sub hl [0, 1, 3] rfl)
          · replace h := h.2 c65
            exact b_X7_isTold_J68 F_30 A_30 x1 x3 X ret ih _ _ _ h hP hD hS (lv_sub hl [0, 1, 3] rfl)
def p_X7_isTold (F : tF) (A : tA) (x1 : Int32) (K : Int32 → tF → tA → Prop) : Prop := (p_X7_copyRow 53 (A 0) 53 (A 2) (fun g0_8 => (∃ n15, p_X7_isTold_L15 x1 K n15 F (va_up A 2 g0_8) (1 : Int32) (0 : Int32))))
set_option maxHeartbeats 4000000 in
set_option maxRecDepth 100000 in
theorem w_X7_isTold (l : Launch) (D : va_G) (cI cZ cR : ClassId) (adK adV : Nat → Nat) (sz : Nat) (o : Nat) (q : Nat → Nat) (F : tF) (A : tA) (x1 : Int32) (K : Int32 → tF → tA → Prop) (h : p_X7_isTold F A x1 K) : MI l D cI cZ cR adK adV yX7_isTold cX7_isTold 4 (some .boolean) (rmN 6 142) [.ref o, .int x1] (wX7 cI cZ o q F A : va_W) sz (fun (r : Int32) (u : (tF × tA)) => K r u.1 u.2) (fun (u : (tF × tA)) => (wX7 cI cZ o q u.1 u.2 : va_W)) := by
  refine M_z (by decide +kernel) (Nat.le_of_ble_eq_true rfl) ?_
  intro p e s m args below meth c Q A9 ls X ret hP hD hS hl
  obtain ⟨hx, hb, hml, ht, hown, hK, hA, hE⟩ := id X
  have hl : lv_has ls 4 [(0, .ref o), (1, .int x1)] := hl
  unfold p_X7_isTold at h
  refine lv_aload_n hx hb dX7_isTold_0 rfl (lv_at hl 0 rfl) ?_
  refine va_get (C := RX7) (T := TX7) (N := 28) (own := RX7) (v := .ref (q 0)) hx hb ht inlX7 hown hK hP 0 rfl rfl 0 (Nat.le_of_ble_eq_true rfl) (ht _ mw_5_7) (fun _ h9 => h9) rfl dX7_isTold_1 ?_
  refine lv_aload_n hx hb dX7_isTold_4 rfl (lv_at hl 0 rfl) ?_
  refine va_get (C := RX7) (T := TX7) (N := 28) (own := RX7) (v := .ref (q 2)) hx hb ht inlX7 hown hK hP 0 rfl rfl 2 (Nat.le_of_ble_eq_true rfl) (ht _ mw_5_9) (fun _ h9 => h9) rfl dX7_isTold_5 ?_
  refine C_sv (wr := [0, 2, 4, 5, 6, 7, 8, 9, 10, 11, 12, 13, 14, 15].filterMap (fun i => (wX7 cI cZ o q F A : va_W)[i]?)) X hP hD hS [.ref (q 0), .ref (q 2)] [] (w_X7_copyRow l D cI cZ cR adK adV _ (q 0) (q 2) 53 (A 0) 53 (A 2) _ h) cal_X7_copyRow mw_12_6 rfl [1, 3] [0, 2, 4, 5, 6, 7, 8, 9, 10, 11, 12, 13, 14, 15] [0, 14, 1, 15, 2, 3, 4, 5, 6, 7, 8, 9, 10, 11, 12, 13] (fun u => (wX7 cI cZ o q F (va_up A 2 u) : va_W)) rfl rfl (fun _ => rfl) rfl ⟨rfl, rfl⟩ ⟨Nat.le_of_ble_eq_true rfl, Nat.le_of_ble_eq_true rfl⟩ hl.1 rfl (Nat.le_of_ble_eq_true rfl) ⟨Nat.zero_le _, Nat.zero_le _⟩ dX7_isTold_8 (fun u H locs h hP hD hS => ?_)
  obtain ⟨g0_8, rfl⟩ : ∃ z, z = u := ⟨_, rfl⟩
  try dsimp only at h
  have hP : va_P D vwCl (wX7 cI cZ o q F (va_up A 2 g0_8) : va_W) H := hP
  have hD : va_D A9 (wX7 cI cZ o q F (va_up A 2 g0_8) : va_W) := hD
  refine lv_iconst (v := 1) hx hb dX7_isTold_11 (by decide) ?_
  refine lv_istore_n (lv' := [(2, .int (1 : Int32)), (0, .ref o), (1, .int x1)]) hx hb dX7_isTold_12 rfl hl (by decide) rfl (fun ls hl => ?_)
  refine lv_iconst (v := 0) hx hb dX7_isTold_13 (by decide) ?_
  refine lv_istore_n (lv' := [(3, .int (0 : Int32)), (2, .int (1 : Int32)), (0, .ref o), (1, .int x1)]) hx hb dX7_isTold_14 rfl hl (by decide) rfl (fun ls hl => ?_)
  obtain ⟨n15, h⟩ := h
  exact b_X7_isTold_L15 x1 X ret  n15 F (va_up A 2 g0_8) (1 : Int32) (0 : Int32) _ _ _ h hP hD hS (lv_sub hl [2, 3, 1, 0] rfl)
theorem dX7_isSheet_0 : decode cX7_isSheet 0 = .ok (.iload_n 0, 1) := by decide +kernel
theorem dX7_isSheet_1 : decode cX7_isSheet 1 = .ok (.i2l, 1) := by decide +kernel
theorem dX7_isSheet_2 : decode cX7_isSheet 2 = .ok (.lconst 0, 1) := by decide +kernel
theorem dX7_isSheet_3 : decode cX7_isSheet 3 = .ok (.ldc2_w 154, 3) := by decide +kernel
theorem dX7_isSheet_6 : decode cX7_isSheet 6 = .ok (.invokestatic 61, 3) := by decide +kernel
theorem dX7_isSheet_9 : decode cX7_isSheet 9 = .ok (.ireturn, 1) := by decide +kernel
def p_X7_isSheet (x0 : Int32) (K : Int32 → Prop) : Prop := (p_X7_isIn ((x0).toInt64) (0 : Int64) (3 : Int64) (fun r6 => (bo r6 ∧ (K r6))))
set_option maxHeartbeats 4000000 in
set_option maxRecDepth 100000 in
theorem w_X7_isSheet (l : Launch) (D : va_G) (cI cZ cR : ClassId) (adK adV : Nat → Nat) (sz : Nat)  (x0 : Int32) (K : Int32 → Prop) (h : p_X7_isSheet x0 K) : MI l D cI cZ cR adK adV yX7_isSheet cX7_isSheet 1 (some .boolean) (rmN 1 25) [.int x0] ([] : va_W) sz (fun (r : Int32) (u : Unit) => K r) (fun (u : Unit) => ([] : va_W)) := by
  refine M_z (by decide +kernel) (Nat.le_of_ble_eq_true rfl) ?_
  intro p e s m args below meth c Q A9 ls X ret hP hD hS hl
  obtain ⟨hx, hb, hml, ht, hown, hK, hA, hE⟩ := id X
  have hl : lv_has ls 1 [(0, .int x0)] := hl
  unfold p_X7_isSheet at h
  refine lv_iload_n hx hb dX7_isSheet_0 rfl (lv_at hl 0 rfl) ?_
  refine lv_i2l (v := (x0).toInt64) hx hb dX7_isSheet_1 rfl ?_
  refine lv_lconst (v := 0) hx hb dX7_isSheet_2 (by decide) ?_
  refine lv_ldc2 (v := 3) hx hb hown (ht _ mw_15_17) dX7_isSheet_3 ?_
  refine C_si (wr := []) X hP hD hS [.long (x0).toInt64, .long (0 : Int64), .long (3 : Int64)] [] (w_X7_isIn l D cI cZ cR adK adV _ ((x0).toInt64) (0 : Int64) (3 : Int64) _ h) cal_X7_isIn mw_6_19 rfl [] [] [] (fun u => ([] : va_W)) rfl rfl (fun _ => rfl) rfl ⟨rfl, rfl⟩ ⟨Nat.le_of_ble_eq_true rfl, Nat.le_of_ble_eq_true rfl⟩ hl.1 rfl (Nat.le_of_ble_eq_true rfl) ⟨Nat.zero_le _, Nat.zero_le _⟩ dX7_isSheet_6 (fun r6 u H locs h hP hD hS => ?_)
  obtain ⟨hz9, h⟩ := h
  exact ret _ () _ _ _ _ dX7_isSheet_9 hz9 h hP hD hS
theorem cal_X7_isSheet : CalS yX7_isSheet cX7_isSheet 1 (some .boolean) 1 := ⟨mw_40_11, mw_1_5, mw_40_10, ⟨by decide +kernel, by decide +kernel, by decide +kernel⟩⟩
theorem cal_X7_isTold : CalV yX7_isTold cX7_isTold 4 (some .boolean) 1 := ⟨mw_40_15, mw_1_5, mw_40_13, mw_40_14, ⟨by decide +kernel, by decide +kernel, by decide +kernel⟩⟩
theorem dX7_fits_0 : decode cX7_fits 0 = .ok (.iload_n 1, 1) := by decide +kernel
theorem dX7_fits_1 : decode cX7_fits 1 = .ok (.invokestatic 278, 3) := by decide +kernel
theorem dX7_fits_4 : decode cX7_fits 4 = .ok (.ifCond .eq 21, 3) := by decide +kernel
theorem dX7_fits_7 : decode cX7_fits 7 = .ok (.aload_n 0, 1) := by decide +kernel
theorem dX7_fits_8 : decode cX7_fits 8 = .ok (.iload_n 2, 1) := by decide +kernel
theorem dX7_fits_9 : decode cX7_fits 9 = .ok (.invokevirtual 178, 3) := by decide +kernel
theorem dX7_fits_12 : decode cX7_fits 12 = .ok (.ifCond .eq 13, 3) := by decide +kernel
theorem dX7_fits_15 : decode cX7_fits 15 = .ok (.iload_n 3, 1) := by decide +kernel
theorem dX7_fits_16 : decode cX7_fits 16 = .ok (.i2l, 1) := by decide +kernel
theorem dX7_fits_17 : decode cX7_fits 17 = .ok (.lconst 0, 1) := by decide +kernel
theorem dX7_fits_18 : decode cX7_fits 18 = .ok (.lconst 1, 1) := by decide +kernel
theorem dX7_fits_19 : decode cX7_fits 19 = .ok (.invokestatic 61, 3) := by decide +kernel
theorem dX7_fits_22 : decode cX7_fits 22 = .ok (.ifCond .ne 5, 3) := by decide +kernel
theorem dX7_fits_25 : decode cX7_fits 25 = .ok (.iconst (-1), 1) := by decide +kernel
theorem dX7_fits_26 : decode cX7_fits 26 = .ok (.ireturn, 1) := by decide +kernel
theorem dX7_fits_27 : decode cX7_fits 27 = .ok (.aload_n 0, 1) := by decide +kernel
theorem dX7_fits_28 : decode cX7_fits 28 = .ok (.getfield 35, 3) := by decide +kernel
theorem dX7_fits_31 : decode cX7_fits 31 = .ok (.iload_n 1, 1) := by decide +kernel
theorem dX7_fits_32 : decode cX7_fits 32 = .ok (.iaload, 1) := by decide +kernel
theorem dX7_fits_33 : decode cX7_fits 33 = .ok (.ifCond .ge 6, 3) := by decide +kernel
theorem dX7_fits_36 : decode cX7_fits 36 = .ok (.bipush (-11), 2) := by decide +kernel
theorem dX7_fits_38 : decode cX7_fits 38 = .ok (.ireturn, 1) := by decide +kernel
theorem dX7_fits_39 : decode cX7_fits 39 = .ok (.bipush 21, 2) := by decide +kernel
theorem dX7_fits_41 : decode cX7_fits 41 = .ok (.iconst 4, 1) := by decide +kernel
theorem dX7_fits_42 : decode cX7_fits 42 = .ok (.iload_n 2, 1) := by decide +kernel
theorem dX7_fits_43 : decode cX7_fits 43 = .ok (.imul, 1) := by decide +kernel
theorem dX7_fits_44 : decode cX7_fits 44 = .ok (.iadd, 1) := by decide +kernel
theorem dX7_fits_45 : decode cX7_fits 45 = .ok (.iconst 2, 1) := by decide +kernel
theorem dX7_fits_46 : decode cX7_fits 46 = .ok (.iadd, 1) := by decide +kernel
theorem dX7_fits_47 : decode cX7_fits 47 = .ok (.istore 4, 2) := by decide +kernel
theorem dX7_fits_49 : decode cX7_fits 49 = .ok (.aload_n 0, 1) := by decide +kernel
theorem dX7_fits_50 : decode cX7_fits 50 = .ok (.getfield 7, 3) := by decide +kernel
theorem dX7_fits_53 : decode cX7_fits 53 = .ok (.iload 4, 2) := by decide +kernel
theorem dX7_fits_55 : decode cX7_fits 55 = .ok (.iaload, 1) := by decide +kernel
theorem dX7_fits_56 : decode cX7_fits 56 = .ok (.istore 5, 2) := by decide +kernel
theorem dX7_fits_58 : decode cX7_fits 58 = .ok (.iconst 0, 1) := by decide +kernel
theorem dX7_fits_59 : decode cX7_fits 59 = .ok (.istore 6, 2) := by decide +kernel
theorem dX7_fits_61 : decode cX7_fits 61 = .ok (.bipush (-3), 2) := by decide +kernel
theorem dX7_fits_63 : decode cX7_fits 63 = .ok (.istore 7, 2) := by decide +kernel
theorem dX7_fits_65 : decode cX7_fits 65 = .ok (.bipush 9, 2) := by decide +kernel
theorem dX7_fits_67 : decode cX7_fits 67 = .ok (.istore 8, 2) := by decide +kernel
theorem dX7_fits_69 : decode cX7_fits 69 = .ok (.iload 8, 2) := by decide +kernel
theorem dX7_fits_71 : decode cX7_fits 71 = .ok (.ifCond .lt 54, 3) := by decide +kernel
theorem dX7_fits_74 : decode cX7_fits 74 = .ok (.aload_n 0, 1) := by decide +kernel
theorem dX7_fits_75 : decode cX7_fits 75 = .ok (.getfield 7, 3) := by decide +kernel
theorem dX7_fits_78 : decode cX7_fits 78 = .ok (.iload 4, 2) := by decide +kernel
theorem dX7_fits_80 : decode cX7_fits 80 = .ok (.iload 8, 2) := by decide +kernel
theorem dX7_fits_82 : decode cX7_fits 82 = .ok (.iastore, 1) := by decide +kernel
theorem dX7_fits_83 : decode cX7_fits 83 = .ok (.aload_n 0, 1) := by decide +kernel
theorem dX7_fits_84 : decode cX7_fits 84 = .ok (.iload_n 1, 1) := by decide +kernel
theorem dX7_fits_85 : decode cX7_fits 85 = .ok (.invokevirtual 281, 3) := by decide +kernel
theorem dX7_fits_88 : decode cX7_fits 88 = .ok (.istore 9, 2) := by decide +kernel
theorem dX7_fits_90 : decode cX7_fits 90 = .ok (.iload 6, 2) := by decide +kernel
theorem dX7_fits_92 : decode cX7_fits 92 = .ok (.iload 9, 2) := by decide +kernel
theorem dX7_fits_94 : decode cX7_fits 94 = .ok (.ifCond .eq 7, 3) := by decide +kernel
theorem dX7_fits_97 : decode cX7_fits 97 = .ok (.iconst 1, 1) := by decide +kernel
theorem dX7_fits_98 : decode cX7_fits 98 = .ok (.goto 4, 3) := by decide +kernel
theorem dX7_fits_101 : decode cX7_fits 101 = .ok (.iconst 0, 1) := by decide +kernel
theorem dX7_fits_102 : decode cX7_fits 102 = .ok (.iadd, 1) := by decide +kernel
theorem dX7_fits_103 : decode cX7_fits 103 = .ok (.istore 6, 2) := by decide +kernel
theorem dX7_fits_105 : decode cX7_fits 105 = .ok (.iload 9, 2) := by decide +kernel
theorem dX7_fits_107 : decode cX7_fits 107 = .ok (.ifCond .eq 8, 3) := by decide +kernel
theorem dX7_fits_110 : decode cX7_fits 110 = .ok (.iload 8, 2) := by decide +kernel
theorem dX7_fits_112 : decode cX7_fits 112 = .ok (.goto 5, 3) := by decide +kernel
theorem dX7_fits_115 : decode cX7_fits 115 = .ok (.iload 7, 2) := by decide +kernel
theorem dX7_fits_117 : decode cX7_fits 117 = .ok (.istore 7, 2) := by decide +kernel
theorem dX7_fits_119 : decode cX7_fits 119 = .ok (.iinc 8 (-1), 3) := by decide +kernel
theorem dX7_fits_122 : decode cX7_fits 122 = .ok (.goto (-53), 3) := by decide +kernel
theorem dX7_fits_125 : decode cX7_fits 125 = .ok (.aload_n 0, 1) := by decide +kernel
theorem dX7_fits_126 : decode cX7_fits 126 = .ok (.getfield 7, 3) := by decide +kernel
theorem dX7_fits_129 : decode cX7_fits 129 = .ok (.iload 4, 2) := by decide +kernel
theorem dX7_fits_131 : decode cX7_fits 131 = .ok (.iload 5, 2) := by decide +kernel
theorem dX7_fits_133 : decode cX7_fits 133 = .ok (.iastore, 1) := by decide +kernel
theorem dX7_fits_134 : decode cX7_fits 134 = .ok (.iload_n 3, 1) := by decide +kernel
theorem dX7_fits_135 : decode cX7_fits 135 = .ok (.ifCond .ne 8, 3) := by decide +kernel
theorem dX7_fits_138 : decode cX7_fits 138 = .ok (.iload 6, 2) := by decide +kernel
theorem dX7_fits_140 : decode cX7_fits 140 = .ok (.goto 5, 3) := by decide +kernel
theorem dX7_fits_143 : decode cX7_fits 143 = .ok (.iload 7, 2) := by decide +kernel
theorem dX7_fits_145 : decode cX7_fits 145 = .ok (.ireturn, 1) := by decide +kernel
def p_X7_fits_J117 (F : tF) (A : tA) (B69 : (tF → tA → Int32 → Int32 → Int32 → Prop)) (K : Int32 → tF → tA → Prop) (x1 : Int32) (x3 : Int32) (x4 : Int32) (x5 : Int32) (x6 : Int32) (x8 : Int32) (s0 : Int32) : Prop := (∀ y119 : Int32, y119 = (x8 + (-1 : Int32)) → (B69 F A x6 s0 y119))
set_option maxHeartbeats 4000000 in
set_option maxRecDepth 100000 in
theorem b_X7_fits_J117 {p : Program} {l : Launch} {e : Env} {s : State} {m : MethodId} {args : Array Value} {below : List Frame} {meth : Method} {c : Code} {Q : State → Prop} {D : va_G} {cI cZ cR : ClassId} {adK adV : Nat → Nat} {A9 : Nat → Prop} {o : Nat} {q : Nat → Nat} {K : Int32 → tF → tA → Prop} {B69 : (tF → tA → Int32 → Int32 → Int32 → Prop)} (F : tF) (A : tA) (x1 : Int32) (x3 : Int32) (x4 : Int32) (x5 : Int32) (x6 : Int32) (x8 : Int32) (s0 : Int32) (X : CX p s m args c yX7_fits.cls cX7_fits 10 D cI cZ cR adK adV A9) (ret : RTi p l e (rmN 7 165) s m args below meth c Q cX7_fits D A9 (fun (r : Int32) (u : (tF × tA)) => K r u.1 u.2) (fun (u : (tF × tA)) => (wX7 cI cZ o q u.1 u.2 : va_W))) (hB69 : ∀ (F : tF) (A : tA) (x6 : Int32) (x7 : Int32) (x8 : Int32) (H : Heap) (locs : List Loc) (ls : Array Slot), B69 F A x6 x7 x8 → va_P D vwCl (wX7 cI cZ o q F A : va_W) H → va_D A9 (wX7 cI cZ o q F A : va_W) → va_S A9 s.heap H locs → lv_has ls 10 [(0, .ref o), (1, .int x1), (3, .int x3), (4, .int x4), (5, .int x5), (6, .int x6), (7, .int x7), (8, .int x8)] → W p l e (rmN 7 165) s m args below meth c H locs 0 0 Q (F0 m 69 ls [])) (H : Heap) (locs : List Loc) (ls : Array Slot) (h : p_X7_fits_J117 F A B69 K x1 x3 x4 x5 x6 x8 s0) (hP : va_P D vwCl (wX7 cI cZ o q F A : va_W) H) (hD : va_D A9 (wX7 cI cZ o q F A : va_W)) (hS : va_S A9 s.heap H locs) (hl : lv_has ls 10 [(0, .ref o), (1, .int x1), (3, .int x3), (4, .int x4), (5, .int x5), (6, .int x6), (8, .int x8)]) : W p l e (rmN 7 165) s m args below meth c H locs 0 0 Q (F0 m 117 ls [.int s0]) := by
  obtain ⟨hx, hb, hml, ht, hown, hK, hA, hE⟩ := id X
  unfold p_X7_fits_J117 at h
  refine lv_istore (lv' := [(7, .int s0), (0, .ref o), (1, .int x1), (3, .int x3), (4, .int x4), (5, .int x5), (6, .int x6), (8, .int x8)]) hx hb dX7_fits_117 hl (by decide) rfl (fun ls hl => ?_)
  obtain ⟨y119, ey119⟩ : ∃ y : Int32, y = (x8 + (-1 : Int32)) := ⟨_, rfl⟩
  replace h := h y119 ey119
  refine lv_iinc (v := y119) (lv' := [(8, .int y119), (7, .int s0), (0, .ref o), (1, .int x1), (3, .int x3), (4, .int x4), (5, .int x5), (6, .int x6)]) hx hb dX7_fits_119 hl (k := 7) rfl (by rw [ey119]; rfl) (by decide) rfl (fun ls hl => ?_)
  refine lv_goto (tgt := 69) hx hb dX7_fits_122 (by decide) ?_
  exact hB69 F A x6 s0 y119 _ _ _ h hP hD hS (lv_sub hl [2, 3, 4, 5, 6, 7, 1, 0] rfl)
def p_X7_fits_J102 (F : tF) (A : tA) (B69 : (tF → tA → Int32 → Int32 → Int32 → Prop)) (K : Int32 → tF → tA → Prop) (x1 : Int32) (x3 : Int32) (x4 : Int32) (x5 : Int32) (x7 : Int32) (x8 : Int32) (x9 : Int32) (s0 : Int32) (s1 : Int32) : Prop := (∀ y103 : Int32, y103 = (s1 + s0) → ((x9 = 0 → (p_X7_fits_J117 F A B69 K x1 x3 x4 x5 y103 x8 x7)) ∧ (¬ x9 = 0 → (p_X7_fits_J117 F A B69 K x1 x3 x4 x5 y103 x8 x8))))
set_option maxHeartbeats 4000000 in
set_option maxRecDepth 100000 in
theorem b_X7_fits_J102 {p : Program} {l : Launch} {e : Env} {s : State} {m : MethodId} {args : Array Value} {below : List Frame} {meth : Method} {c : Code} {Q : State → Prop} {D : va_G} {cI cZ cR : ClassId} {adK adV : Nat → Nat} {A9 : Nat → Prop} {o : Nat} {q : Nat → Nat} {K : Int32 → tF → tA → Prop} {B69 : (tF → tA → Int32 → Int32 → Int32 → Prop)} (F : tF) (A : tA) (x1 : Int32) (x3 : Int32) (x4 : Int32) (x5 : Int32) (x7 : Int32) (x8 : Int32) (x9 : Int32) (s0 : Int32) (s1 : Int32) (X : CX p s m args c yX7_fits.cls cX7_fits 10 D cI cZ cR adK adV A9) (ret : RTi p l e (rmN 7 165) s m args below meth c Q cX7_fits D A9 (fun (r : Int32) (u : (tF × tA)) => K r u.1 u.2) (fun (u : (tF × tA)) => (wX7 cI cZ o q u.1 u.2 : va_W))) (hB69 : ∀ (F : tF) (A : tA) (x6 : Int32) (x7 : Int32) (x8 : Int32) (H : Heap) (locs : List Loc) (ls : Array Slot), B69 F A x6 x7 x8 → va_P D vwCl (wX7 cI cZ o q F A : va_W) H → va_D A9 (wX7 cI cZ o q F A : va_W) → va_S A9 s.heap H locs → lv_has ls 10 [(0, .ref o), (1, .int x1), (3, .int x3), (4, .int x4), (5, .int x5), (6, .int x6), (7, .int x7), (8, .int x8)] → W p l e (rmN 7 165) s m args below meth c H locs 0 0 Q (F0 m 69 ls [])) (H : Heap) (locs : List Loc) (ls : Array Slot) (h : p_X7_fits_J102 F A B69 K x1 x3 x4 x5 x7 x8 x9 s0 s1) (hP : va_P D vwCl (wX7 cI cZ o q F A : va_W) H) (hD : va_D A9 (wX7 cI cZ o q F A : va_W)) (hS : va_S A9 s.heap H locs) (hl : lv_has ls 10 [(0, .ref o), (1, .int x1), (3, .int x3), (4, .int x4), (5, .int x5), (7, .int x7), (8, .int x8), (9, .int x9)]) : W p l e (rmN 7 165) s m args below meth c H locs 0 0 Q (F0 m 102 ls [.int s0, .int s1]) := by
  obtain ⟨hx, hb, hml, ht, hown, hK, hA, hE⟩ := id X
  unfold p_X7_fits_J102 at h
  refine lv_iadd hx hb dX7_fits_102 ?_
  refine lv_topi (fun y103 ey103 => ?_)
  replace h := h y103 ey103
  refine lv_istore (lv' := [(6, .int y103), (0, .ref o), (1, .int x1), (3, .int x3), (4, .int x4), (5, .int x5), (7, .int x7), (8, .int x8), (9, .int x9)]) hx hb dX7_fits_103 hl (by decide) rfl (fun ls hl => ?_)
  refine lv_iload hx hb dX7_fits_105 (lv_at hl 8 rfl) ?_
  refine lv_if_eq (tgt := 115) hx hb dX7_fits_107 (by decide) (fun c107 => ?_) (fun c107 => ?_)
  · replace h := h.1 c107
    refine lv_iload hx hb dX7_fits_115 (lv_at hl 6 rfl) ?_
    exact b_X7_fits_J117 F A x1 x3 x4 x5 y103 x8 x7 X ret hB69 _ _ _ h hP hD hS (lv_sub hl [1, 2, 3, 4, 5, 0, 7] rfl)
  · replace h := h.2 c107
    refine lv_iload hx hb dX7_fits_110 (lv_at hl 7 rfl) ?_
    refine lv_goto (tgt := 117) hx hb dX7_fits_112 (by decide) ?_
    exact b_X7_fits_J117 F A x1 x3 x4 x5 y103 x8 x8 X ret hB69 _ _ _ h hP hD hS (lv_sub hl [1, 2, 3, 4, 5, 0, 7] rfl)
def p_X7_fits_L69 (x1 : Int32) (x3 : Int32) (x4 : Int32) (x5 : Int32) (K : Int32 → tF → tA → Prop) : Nat → tF → tA → Int32 → Int32 → Int32 → Prop
  | 0, _, _, _, _, _ => False
  | n69 + 1, F, A, x6, x7, x8 => ((x8 < 0 → (vp_in x4 53 ∧ (∀ f_133 : tF, f_133 = (upd (A 0) (x4).toNatClampNeg x5) → ((¬ x3 = 0 → (K x7 F (va_up A 0 f_133))) ∧ (x3 = 0 → (K x6 F (va_up A 0 f_133))))))) ∧ (¬ x8 < 0 → (vp_in x4 53 ∧ (∀ f_82 : tF, f_82 = (upd (A 0) (x4).toNatClampNeg x8) → (p_X7_isTold F (va_up A 0 f_82) x1 (fun r85 F_85 A_85 => ((r85 = 0 → (p_X7_fits_J102 F_85 A_85 (p_X7_fits_L69 x1 x3 x4 x5 K n69) K x1 x3 x4 x5 x7 x8 r85 (0 : Int32) x6)) ∧ (¬ r85 = 0 → (p_X7_fits_J102 F_85 A_85 (p_X7_fits_L69 x1 x3 x4 x5 K n69) K x1 x3 x4 x5 x7 x8 r85 (1 : Int32) x6)))))))))
set_option maxHeartbeats 4000000 in
set_option maxRecDepth 100000 in
theorem b_X7_fits_L69 {p : Program} {l : Launch} {e : Env} {s : State} {m : MethodId} {args : Array Value} {below : List Frame} {meth : Method} {c : Code} {Q : State → Prop} {D : va_G} {cI cZ cR : ClassId} {adK adV : Nat → Nat} {A9 : Nat → Prop} {o : Nat} {q : Nat → Nat} {K : Int32 → tF → tA → Prop}  (x1 : Int32) (x3 : Int32) (x4 : Int32) (x5 : Int32) (X : CX p s m args c yX7_fits.cls cX7_fits 10 D cI cZ cR adK adV A9) (ret : RTi p l e (rmN 7 165) s m args below meth c Q cX7_fits D A9 (fun (r : Int32) (u : (tF × tA)) => K r u.1 u.2) (fun (u : (tF × tA)) => (wX7 cI cZ o q u.1 u.2 : va_W)))   : ∀ (n : Nat) (F : tF) (A : tA) (x6 : Int32) (x7 : Int32) (x8 : Int32) (H : Heap) (locs : List Loc) (ls : Array Slot), p_X7_fits_L69 x1 x3 x4 x5 K n F A x6 x7 x8 → va_P D vwCl (wX7 cI cZ o q F A : va_W) H → va_D A9 (wX7 cI cZ o q F A : va_W) → va_S A9 s.heap H locs → lv_has ls 10 [(0, .ref o), (1, .int x1), (3, .int x3), (4, .int x4), (5, .int x5), (6, .int x6), (7, .int x7), (8, .int x8)] → W p l e (rmN 7 165) s m args below meth c H locs 0 0 Q (F0 m 69 ls []) := by
  obtain ⟨hx, hb, hml, ht, hown, hK, hA, hE⟩ := id X
  intro n
  induction n with
  | zero => intro F A x6 x7 x8 H locs ls h; exact False.elim h
  | succ n69 ih =>
    intro F A x6 x7 x8 H locs ls h hP hD hS hl
    rw [p_X7_fits_L69] at h
    refine lv_iload hx hb dX7_fits_69 (lv_at hl 7 rfl) ?_
    refine lv_if_lt (tgt := 125) hx hb dX7_fits_71 (by decide) (fun c71 => ?_) (fun c71 => ?_)
    · replace h := h.1 c71
      refine lv_aload_n hx hb dX7_fits_125 rfl (lv_at hl 0 rfl) ?_
      refine va_get (C := RX7) (T := TX7) (N := 28) (own := RX7) (v := .ref (q 0)) hx hb ht inlX7 hown hK hP 0 rfl rfl 0 (Nat.le_of_ble_eq_true rfl) (ht _ mw_5_7) (fun _ h9 => h9) rfl dX7_fits_126 ?_
      refine lv_iload hx hb dX7_fits_129 (lv_at hl 3 rfl) ?_
      refine lv_iload hx hb dX7_fits_131 (lv_at hl 4 rfl) ?_
      obtain ⟨hi133, h⟩ := h
      obtain ⟨f_133, ef_133⟩ : ∃ z : tF, z = (upd (A 0) (x4).toNatClampNeg x5) := ⟨_, rfl⟩
      replace h := h f_133 ef_133
      refine g_iast (f := (A 0)) (k := (x4).toNatClampNeg) hx hb hK hP hD hS 1 0 rfl rfl hi133 rfl ef_133 dX7_fits_133 (fun H locs hP hD hS => ?_)
      have hP : va_P D vwCl (wX7 cI cZ o q F (va_up A 0 f_133) : va_W) H := hP
      have hD : va_D A9 (wX7 cI cZ o q F (va_up A 0 f_133) : va_W) := hD
      refine lv_iload_n hx hb dX7_fits_134 rfl (lv_at hl 2 rfl) ?_
      refine lv_if_ne (tgt := 143) hx hb dX7_fits_135 (by decide) (fun c135 => ?_) (fun c135 => ?_)
      · replace h := h.1 c135
        refine lv_iload hx hb dX7_fits_143 (lv_at hl 6 rfl) ?_
        exact ret _ (F, (va_up A 0 f_133)) _ _ _ _ dX7_fits_145 h hP hD hS
      · replace h := h.2 c135
        refine lv_iload hx hb dX7_fits_138 (lv_at hl 5 rfl) ?_
        refine lv_goto (tgt := 145) hx hb dX7_fits_140 (by decide) ?_
        exact ret _ (F, (va_up A 0 f_133)) _ _ _ _ dX7_fits_145 h hP hD hS
    · replace h := h.2 c71
      refine lv_aload_n hx hb dX7_fits_74 rfl (lv_at hl 0 rfl) ?_
      refine va_get (C := RX7) (T := TX7) (N := 28) (own := RX7) (v := .ref (q 0)) hx hb ht inlX7 hown hK hP 0 rfl rfl 0 (Nat.le_of_ble_eq_true rfl) (ht _ mw_5_7) (fun _ h9 => h9) rfl dX7_fits_75 ?_
      refine lv_iload hx hb dX7_fits_78 (lv_at hl 3 rfl) ?_
      refine lv_iload hx hb dX7_fits_80 (lv_at hl 7 rfl) ?_
      obtain ⟨hi82, h⟩ := h
      obtain ⟨f_82, ef_82⟩ : ∃ z : tF, z = (upd (A 0) (x4).toNatClampNeg x8) := ⟨_, rfl⟩
      replace h := h f_82 ef_82
      refine g_iast (f := (A 0)) (k := (x4).toNatClampNeg) hx hb hK hP hD hS 1 0 rfl rfl hi82 rfl ef_82 dX7_fits_82 (fun H locs hP hD hS => ?_)
      have hP : va_P D vwCl (wX7 cI cZ o q F (va_up A 0 f_82) : va_W) H := hP
      have hD : va_D A9 (wX7 cI cZ o q F (va_up A 0 f_82) : va_W) := hD
      refine lv_aload_n hx hb dX7_fits_83 rfl (lv_at hl 0 rfl) ?_
      refine lv_iload_n hx hb dX7_fits_84 rfl (lv_at hl 1 rfl) ?_
      refine C_vi (wr := []) X hP hD hS [.int x1] [] (w_X7_isTold l D cI cZ cR adK adV _ o q F (va_up A 0 f_82) x1 _ h) cal_X7_isTold mw_40_12 rfl [0, 1, 2, 3, 4, 5, 6, 7, 8, 9, 10, 11, 12, 13, 14, 15] [] [0, 1, 2, 3, 4, 5, 6, 7, 8, 9, 10, 11, 12, 13, 14, 15] (fun u => (wX7 cI cZ o q u.1 u.2 : va_W)) rfl rfl (fun _ => rfl) rfl 0 rfl rfl ⟨rfl, rfl⟩ ⟨Nat.le_of_ble_eq_true rfl, Nat.le_of_ble_eq_true rfl⟩ hl.1 rfl (Nat.le_of_ble_eq_true rfl) ⟨Nat.zero_le _, Nat.zero_le _⟩ dX7_fits_85 (fun r85 u H locs h hP hD hS => ?_)
      obtain ⟨F_85, A_85⟩ := u
      try dsimp only at h
      have hP : va_P D vwCl (wX7 cI cZ o q F_85 A_85 : va_W) H := hP
      have hD : va_D A9 (wX7 cI cZ o q F_85 A_85 : va_W) := hD
      refine lv_istore (lv' := [(9, .int r85), (0, .ref o), (1, .int x1), (3, .int x3), (4, .int x4), (5, .int x5), (6, .int x6), (7, .int x7), (8, .int x8)]) hx hb dX7_fits_88 hl (by decide) rfl (fun ls hl => ?_)
      refine lv_iload hx hb dX7_fits_90 (lv_at hl 6 rfl) ?_
      refine lv_iload hx hb dX7_fits_92 (lv_at hl 0 rfl) ?_
      refine lv_if_eq (tgt := 101) hx hb dX7_fits_94 (by decide) (fun c94 => ?_) (fun c94 => ?_)
      · replace h := h.1 c94
        refine lv_iconst (v := 0) hx hb dX7_fits_101 (by decide) ?_
        exact b_X7_fits_J102 F_85 A_85 x1 x3 x4 x5 x7 x8 r85 (0 : Int32) x6 X ret ih _ _ _ h hP hD hS (lv_sub hl [1, 2, 3, 4, 5, 7, 8, 0] rfl)
      · replace h := h.2 c94
        refine lv_iconst (v := 1) hx hb dX7_fits_97 (by decide) ?_
        refine lv_goto (tgt := 102) hx hb dX7_fits_98 (by decide) ?_
        exact b_X7_fits_J102 F_85 A_85 x1 x3 x4 x5 x7 x8 r85 (1 : Int32) x6 X ret ih _ _ _ h hP hD hS (lv_sub hl [1, 2, 3, 4, 5, 7, 8, 0] rfl)
def p_X7_fits (F : tF) (A : tA) (x1 : Int32) (x2 : Int32) (x3 : Int32) (K : Int32 → tF → tA → Prop) : Prop := (p_X7_isSheet x1 (fun r1 => ((r1 = 0 → (K (-1 : Int32) F A)) ∧ (¬ r1 = 0 → (p_X7_isOne F A x2 (fun r9 => ((r9 = 0 → (K (-1 : Int32) F A)) ∧ (¬ r9 = 0 → (p_X7_isIn ((x3).toInt64) (0 : Int64) (1 : Int64) (fun r19 => ((¬ r19 = 0 → (vp_in x1 4 ∧ ((0 ≤ ((A 16) (x1).toNatClampNeg) → (∀ y47 : Int32, y47 = (((21 : Int32) + ((4 : Int32) * x2)) + (2 : Int32)) → (vp_in y47 53 ∧ (∀ y56 : Int32, y56 = ((A 0) (y47).toNatClampNeg) → (∃ n69, p_X7_fits_L69 x1 x3 y47 y56 K n69 F A (0 : Int32) (-3 : Int32) (9 : Int32)))))) ∧ (¬ 0 ≤ ((A 16) (x1).toNatClampNeg) → (K (-11 : Int32) F A))))) ∧ (r19 = 0 → (K (-1 : Int32) F A)))))))))))))
set_option maxHeartbeats 4000000 in
set_option maxRecDepth 100000 in
theorem w_X7_fits (l : Launch) (D : va_G) (cI cZ cR : ClassId) (adK adV : Nat → Nat) (sz : Nat) (o : Nat) (q : Nat → Nat) (F : tF) (A : tA) (x1 : Int32) (x2 : Int32) (x3 : Int32) (K : Int32 → tF → tA → Prop) (h : p_X7_fits F A x1 x2 x3 K) : MI l D cI cZ cR adK adV yX7_fits cX7_fits 10 (some .int) (rmN 7 165) [.ref o, .int x1, .int x2, .int x3] (wX7 cI cZ o q F A : va_W) sz (fun (r : Int32) (u : (tF × tA)) => K r u.1 u.2) (fun (u : (tF × tA)) => (wX7 cI cZ o q u.1 u.2 : va_W)) := by
  refine M_i (by decide +kernel) (Nat.le_of_ble_eq_true rfl) ?_
  intro p e s m args below meth c Q A9 ls X ret hP hD hS hl
  obtain ⟨hx, hb, hml, ht, hown, hK, hA, hE⟩ := id X
  have hl : lv_has ls 10 [(0, .ref o), (1, .int x1), (2, .int x2), (3, .int x3)] := hl
  unfold p_X7_fits at h
  refine lv_iload_n hx hb dX7_fits_0 rfl (lv_at hl 1 rfl) ?_
  refine C_si (wr := [0, 1, 2, 3, 4, 5, 6, 7, 8, 9, 10, 11, 12, 13, 14, 15].filterMap (fun i => (wX7 cI cZ o q F A : va_W)[i]?)) X hP hD hS [.int x1] [] (w_X7_isSheet l D cI cZ cR adK adV _ x1 _ h) cal_X7_isSheet mw_40_9 rfl [] [0, 1, 2, 3, 4, 5, 6, 7, 8, 9, 10, 11, 12, 13, 14, 15] [0, 1, 2, 3, 4, 5, 6, 7, 8, 9, 10, 11, 12, 13, 14, 15] (fun u => (wX7 cI cZ o q F A : va_W)) rfl rfl (fun _ => rfl) rfl ⟨rfl, rfl⟩ ⟨Nat.le_of_ble_eq_true rfl, Nat.le_of_ble_eq_true rfl⟩ hl.1 rfl (Nat.le_of_ble_eq_true rfl) ⟨Nat.zero_le _, Nat.zero_le _⟩ dX7_fits_1 (fun r1 u H locs h hP hD hS => ?_)
  refine lv_if_eq (tgt := 25) hx hb dX7_fits_4 (by decide) (fun c4 => ?_) (fun c4 => ?_)
  · replace h := h.1 c4
    refine lv_iconst (v := -1) hx hb dX7_fits_25 (by decide) ?_
    exact ret _ (F, A) _ _ _ _ dX7_fits_26 h hP hD hS
  · replace h := h.2 c4
    refine lv_aload_n hx hb dX7_fits_7 rfl (lv_at hl 0 rfl) ?_
    refine lv_iload_n hx hb dX7_fits_8 rfl (lv_at hl 2 rfl) ?_
    refine C_vi (wr := []) X hP hD hS [.int x2] [] (w_X7_isOne l D cI cZ cR adK adV _ o q F A x2 _ h) cal_X7_isOne mw_18_12 rfl [0, 1, 2, 3, 4, 5, 6, 7, 8, 9, 10, 11, 12, 13, 14, 15] [] [0, 1, 2, 3, 4, 5, 6, 7, 8, 9, 10, 11, 12, 13, 14, 15] (fun u => (wX7 cI cZ o q F A : va_W)) rfl rfl (fun _ => rfl) rfl 0 rfl rfl ⟨rfl, rfl⟩ ⟨Nat.le_of_ble_eq_true rfl, Nat.le_of_ble_eq_true rfl⟩ hl.1 rfl (Nat.le_of_ble_eq_true rfl) ⟨Nat.zero_le _, Nat.zero_le _⟩ dX7_fits_9 (fun r9 u H locs h hP hD hS => ?_)
    refine lv_if_eq (tgt := 25) hx hb dX7_fits_12 (by decide) (fun c12 => ?_) (fun c12 => ?_)
    · replace h := h.1 c12
      refine lv_iconst (v := -1) hx hb dX7_fits_25 (by decide) ?_
      exact ret _ (F, A) _ _ _ _ dX7_fits_26 h hP hD hS
    · replace h := h.2 c12
      refine lv_iload_n hx hb dX7_fits_15 rfl (lv_at hl 3 rfl) ?_
      refine lv_i2l (v := (x3).toInt64) hx hb dX7_fits_16 rfl ?_
      refine lv_lconst (v := 0) hx hb dX7_fits_17 (by decide) ?_
      refine lv_lconst (v := 1) hx hb dX7_fits_18 (by decide) ?_
      refine C_si (wr := [0, 1, 2, 3, 4, 5, 6, 7, 8, 9, 10, 11, 12, 13, 14, 15].filterMap (fun i => (wX7 cI cZ o q F A : va_W)[i]?)) X hP hD hS [.long (x3).toInt64, .long (0 : Int64), .long (1 : Int64)] [] (w_X7_isIn l D cI cZ cR adK adV _ ((x3).toInt64) (0 : Int64) (1 : Int64) _ h) cal_X7_isIn mw_6_19 rfl [] [0, 1, 2, 3, 4, 5, 6, 7, 8, 9, 10, 11, 12, 13, 14, 15] [0, 1, 2, 3, 4, 5, 6, 7, 8, 9, 10, 11, 12, 13, 14, 15] (fun u => (wX7 cI cZ o q F A : va_W)) rfl rfl (fun _ => rfl) rfl ⟨rfl, rfl⟩ ⟨Nat.le_of_ble_eq_true rfl, Nat.le_of_ble_eq_true rfl⟩ hl.1 rfl (Nat.le_of_ble_eq_true rfl) ⟨Nat.zero_le _, Nat.zero_le _⟩ dX7_fits_19 (fun r19 u H locs h hP hD hS => ?_)
      refine lv_if_ne (tgt := 27) hx hb dX7_fits_22 (by decide) (fun c22 => ?_) (fun c22 => ?_)
      · replace h := h.1 c22
        refine lv_aload_n hx hb dX7_fits_27 rfl (lv_at hl 0 rfl) ?_
        refine va_get (C := RX7) (T := TX7) (N := 28) (own := RX7) (v := .ref (q 16)) hx hb ht inlX7 hown hK hP 0 rfl rfl 16 (Nat.le_of_ble_eq_true rfl) (ht _ mw_5_15) (fun _ h9 => h9) rfl dX7_fits_28 ?_
        refine lv_iload_n hx hb dX7_fits_31 rfl (lv_at hl 1 rfl) ?_
        obtain ⟨hi32, h⟩ := h
        refine g_iald (f := (A 16)) (k := (x1).toNatClampNeg) hx hb hK hP 9 0 rfl rfl hi32 rfl dX7_fits_32 ?_
        refine lv_if_ge (tgt := 39) hx hb dX7_fits_33 (by decide) (fun c33 => ?_) (fun c33 => ?_)
        · replace h := h.1 c33
          refine lv_bipush (v := 21) hx hb dX7_fits_39 (by decide) ?_
          refine lv_iconst (v := 4) hx hb dX7_fits_41 (by decide) ?_
          refine lv_iload_n hx hb dX7_fits_42 rfl (lv_at hl 2 rfl) ?_
          refine lv_imul hx hb dX7_fits_43 ?_
          refine lv_iadd hx hb dX7_fits_44 ?_
          refine lv_iconst (v := 2) hx hb dX7_fits_45 (by decide) ?_
          refine lv_iadd hx hb dX7_fits_46 ?_
          refine lv_topi (fun y47 ey47 => ?_)
          replace h := h y47 ey47
          refine lv_istore (lv' := [(4, .int y47), (0, .ref o), (1, .int x1), (2, .int x2), (3, .int x3)]) hx hb dX7_fits_47 hl (by decide) rfl (fun ls hl => ?_)
          refine lv_aload_n hx hb dX7_fits_49 rfl (lv_at hl 1 rfl) ?_
          refine va_get (C := RX7) (T := TX7) (N := 28) (own := RX7) (v := .ref (q 0)) hx hb ht inlX7 hown hK hP 0 rfl rfl 0 (Nat.le_of_ble_eq_true rfl) (ht _ mw_5_7) (fun _ h9 => h9) rfl dX7_fits_50 ?_
          refine lv_iload hx hb dX7_fits_53 (lv_at hl 0 rfl) ?_
          obtain ⟨hi55, h⟩ := h
          refine g_iald (f := (A 0)) (k := (y47).toNatClampNeg) hx hb hK hP 1 0 rfl rfl hi55 rfl dX7_fits_55 ?_
          refine lv_topi (fun y56 ey56 => ?_)
          replace h := h y56 ey56
          refine lv_istore (lv' := [(5, .int y56), (4, .int y47), (0, .ref o), (1, .int x1), (2, .int x2), (3, .int x3)]) hx hb dX7_fits_56 hl (by decide) rfl (fun ls hl => ?_)
          refine lv_iconst (v := 0) hx hb dX7_fits_58 (by decide) ?_
          refine lv_istore (lv' := [(6, .int (0 : Int32)), (5, .int y56), (4, .int y47), (0, .ref o), (1, .int x1), (2, .int x2), (3, .int x3)]) hx hb dX7_fits_59 hl (by decide) rfl (fun ls hl => ?_)
          refine lv_bipush (v := -3) hx hb dX7_fits_61 (by decide) ?_
          refine lv_istore (lv' := [(7, .int (-3 : Int32)), (6, .int (0 : Int32)), (5, .int y56), (4, .int y47), (0, .ref o), (1, .int x1), (2, .int x2), (3, .int x3)]) hx hb dX7_fits_63 hl (by decide) rfl (fun ls hl => ?_)
          refine lv_bipush (v := 9) hx hb dX7_fits_65 (by decide) ?_
          refine lv_istore (lv' := [(8, .int (9 : Int32)), (7, .int (-3 : Int32)), (6, .int (0 : Int32)), (5, .int y56), (4, .int y47), (0, .ref o), (1, .int x1), (2, .int x2), (3, .int x3)]) hx hb dX7_fits_67 hl (by decide) rfl (fun ls hl => ?_)
          obtain ⟨n69, h⟩ := h
          exact b_X7_fits_L69 x1 x3 y47 y56 X ret  n69 F A (0 : Int32) (-3 : Int32) (9 : Int32) _ _ _ h hP hD hS (lv_sub hl [5, 6, 8, 4, 3, 2, 1, 0] rfl)
        · replace h := h.2 c33
          refine lv_bipush (v := -11) hx hb dX7_fits_36 (by decide) ?_
          exact ret _ (F, A) _ _ _ _ dX7_fits_38 h hP hD hS
      · replace h := h.2 c22
        refine lv_iconst (v := -1) hx hb dX7_fits_25 (by decide) ?_
        exact ret _ (F, A) _ _ _ _ dX7_fits_26 h hP hD hS
theorem dX7_odds_0 : decode cX7_odds 0 = .ok (.iload_n 1, 1) := by decide +kernel
theorem dX7_odds_1 : decode cX7_odds 1 = .ok (.i2l, 1) := by decide +kernel
theorem dX7_odds_2 : decode cX7_odds 2 = .ok (.lconst 0, 1) := by decide +kernel
theorem dX7_odds_3 : decode cX7_odds 3 = .ok (.ldc2_w 59, 3) := by decide +kernel
theorem dX7_odds_6 : decode cX7_odds 6 = .ok (.invokestatic 61, 3) := by decide +kernel
theorem dX7_odds_9 : decode cX7_odds 9 = .ok (.ifCond .eq 24, 3) := by decide +kernel
theorem dX7_odds_12 : decode cX7_odds 12 = .ok (.iload_n 2, 1) := by decide +kernel
theorem dX7_odds_13 : decode cX7_odds 13 = .ok (.i2l, 1) := by decide +kernel
theorem dX7_odds_14 : decode cX7_odds 14 = .ok (.lconst 0, 1) := by decide +kernel
theorem dX7_odds_15 : decode cX7_odds 15 = .ok (.iload_n 1, 1) := by decide +kernel
theorem dX7_odds_16 : decode cX7_odds 16 = .ok (.i2l, 1) := by decide +kernel
theorem dX7_odds_17 : decode cX7_odds 17 = .ok (.invokestatic 61, 3) := by decide +kernel
theorem dX7_odds_20 : decode cX7_odds 20 = .ok (.ifCond .eq 13, 3) := by decide +kernel
theorem dX7_odds_23 : decode cX7_odds 23 = .ok (.iload_n 3, 1) := by decide +kernel
theorem dX7_odds_24 : decode cX7_odds 24 = .ok (.i2l, 1) := by decide +kernel
theorem dX7_odds_25 : decode cX7_odds 25 = .ok (.lconst 0, 1) := by decide +kernel
theorem dX7_odds_26 : decode cX7_odds 26 = .ok (.lconst 1, 1) := by decide +kernel
theorem dX7_odds_27 : decode cX7_odds 27 = .ok (.invokestatic 61, 3) := by decide +kernel
theorem dX7_odds_30 : decode cX7_odds 30 = .ok (.ifCond .ne 7, 3) := by decide +kernel
theorem dX7_odds_33 : decode cX7_odds 33 = .ok (.ldc2_w 268, 3) := by decide +kernel
theorem dX7_odds_36 : decode cX7_odds 36 = .ok (.lreturn, 1) := by decide +kernel
theorem dX7_odds_37 : decode cX7_odds 37 = .ok (.iload_n 1, 1) := by decide +kernel
theorem dX7_odds_38 : decode cX7_odds 38 = .ok (.invokestatic 270, 3) := by decide +kernel
theorem dX7_odds_41 : decode cX7_odds 41 = .ok (.iload_n 2, 1) := by decide +kernel
theorem dX7_odds_42 : decode cX7_odds 42 = .ok (.invokestatic 270, 3) := by decide +kernel
theorem dX7_odds_45 : decode cX7_odds 45 = .ok (.ldiv, 1) := by decide +kernel
theorem dX7_odds_46 : decode cX7_odds 46 = .ok (.iload_n 1, 1) := by decide +kernel
theorem dX7_odds_47 : decode cX7_odds 47 = .ok (.iload_n 2, 1) := by decide +kernel
theorem dX7_odds_48 : decode cX7_odds 48 = .ok (.isub, 1) := by decide +kernel
theorem dX7_odds_49 : decode cX7_odds 49 = .ok (.invokestatic 270, 3) := by decide +kernel
theorem dX7_odds_52 : decode cX7_odds 52 = .ok (.ldiv, 1) := by decide +kernel
theorem dX7_odds_53 : decode cX7_odds 53 = .ok (.lstore 4, 2) := by decide +kernel
theorem dX7_odds_55 : decode cX7_odds 55 = .ok (.lconst 1, 1) := by decide +kernel
theorem dX7_odds_56 : decode cX7_odds 56 = .ok (.lstore 6, 2) := by decide +kernel
theorem dX7_odds_58 : decode cX7_odds 58 = .ok (.iconst 0, 1) := by decide +kernel
theorem dX7_odds_59 : decode cX7_odds 59 = .ok (.istore 8, 2) := by decide +kernel
theorem dX7_odds_61 : decode cX7_odds 61 = .ok (.iload 8, 2) := by decide +kernel
theorem dX7_odds_63 : decode cX7_odds 63 = .ok (.iload_n 1, 1) := by decide +kernel
theorem dX7_odds_64 : decode cX7_odds 64 = .ok (.if_icmp .ge 50, 3) := by decide +kernel
theorem dX7_odds_67 : decode cX7_odds 67 = .ok (.lload 4, 2) := by decide +kernel
theorem dX7_odds_69 : decode cX7_odds 69 = .ok (.iload 8, 2) := by decide +kernel
theorem dX7_odds_71 : decode cX7_odds 71 = .ok (.iload_n 2, 1) := by decide +kernel
theorem dX7_odds_72 : decode cX7_odds 72 = .ok (.if_icmp .ge 14, 3) := by decide +kernel
theorem dX7_odds_75 : decode cX7_odds 75 = .ok (.aload_n 0, 1) := by decide +kernel
theorem dX7_odds_76 : decode cX7_odds 76 = .ok (.getfield 7, 3) := by decide +kernel
theorem dX7_odds_79 : decode cX7_odds 79 = .ok (.bipush 8, 2) := by decide +kernel
theorem dX7_odds_81 : decode cX7_odds 81 = .ok (.iaload, 1) := by decide +kernel
theorem dX7_odds_82 : decode cX7_odds 82 = .ok (.i2l, 1) := by decide +kernel
theorem dX7_odds_83 : decode cX7_odds 83 = .ok (.goto 14, 3) := by decide +kernel
theorem dX7_odds_86 : decode cX7_odds 86 = .ok (.bipush 100, 2) := by decide +kernel
theorem dX7_odds_88 : decode cX7_odds 88 = .ok (.aload_n 0, 1) := by decide +kernel
theorem dX7_odds_89 : decode cX7_odds 89 = .ok (.getfield 7, 3) := by decide +kernel
theorem dX7_odds_92 : decode cX7_odds 92 = .ok (.bipush 8, 2) := by decide +kernel
theorem dX7_odds_94 : decode cX7_odds 94 = .ok (.iaload, 1) := by decide +kernel
theorem dX7_odds_95 : decode cX7_odds 95 = .ok (.isub, 1) := by decide +kernel
theorem dX7_odds_96 : decode cX7_odds 96 = .ok (.i2l, 1) := by decide +kernel
theorem dX7_odds_97 : decode cX7_odds 97 = .ok (.lmul, 1) := by decide +kernel
theorem dX7_odds_98 : decode cX7_odds 98 = .ok (.lstore 4, 2) := by decide +kernel
theorem dX7_odds_100 : decode cX7_odds 100 = .ok (.lload 6, 2) := by decide +kernel
theorem dX7_odds_102 : decode cX7_odds 102 = .ok (.ldc2_w 284, 3) := by decide +kernel
theorem dX7_odds_105 : decode cX7_odds 105 = .ok (.lmul, 1) := by decide +kernel
theorem dX7_odds_106 : decode cX7_odds 106 = .ok (.lstore 6, 2) := by decide +kernel
theorem dX7_odds_108 : decode cX7_odds 108 = .ok (.iinc 8 1, 3) := by decide +kernel
theorem dX7_odds_111 : decode cX7_odds 111 = .ok (.goto (-50), 3) := by decide +kernel
theorem dX7_odds_114 : decode cX7_odds 114 = .ok (.lload 4, 2) := by decide +kernel
theorem dX7_odds_116 : decode cX7_odds 116 = .ok (.lload 6, 2) := by decide +kernel
theorem dX7_odds_118 : decode cX7_odds 118 = .ok (.iload_n 3, 1) := by decide +kernel
theorem dX7_odds_119 : decode cX7_odds 119 = .ok (.invokestatic 274, 3) := by decide +kernel
theorem dX7_odds_122 : decode cX7_odds 122 = .ok (.lreturn, 1) := by decide +kernel
def p_X7_odds_J97 (F : tF) (A : tA) (B61 : (Int64 → Int64 → Int32 → Prop)) (K : Int64 → Prop) (x1 : Int32) (x2 : Int32) (x3 : Int32) (x6 : Int64) (x8 : Int32) (s0 : Int64) (s1 : Int64) : Prop := (∀ y98 : Int64, y98 = (s1 * s0) → (∀ y106 : Int64, y106 = (x6 * (100 : Int64)) → (∀ y108 : Int32, y108 = (x8 + (1 : Int32)) → (B61 y98 y106 y108))))
set_option maxHeartbeats 4000000 in
set_option maxRecDepth 100000 in
theorem b_X7_odds_J97 {p : Program} {l : Launch} {e : Env} {s : State} {m : MethodId} {args : Array Value} {below : List Frame} {meth : Method} {c : Code} {Q : State → Prop} {D : va_G} {cI cZ cR : ClassId} {adK adV : Nat → Nat} {A9 : Nat → Prop} {o : Nat} {q : Nat → Nat} {K : Int64 → Prop} {B61 : (Int64 → Int64 → Int32 → Prop)} (F : tF) (A : tA) (x1 : Int32) (x2 : Int32) (x3 : Int32) (x6 : Int64) (x8 : Int32) (s0 : Int64) (s1 : Int64) (X : CX p s m args c yX7_odds.cls cX7_odds 9 D cI cZ cR adK adV A9) (ret : RTl p l e (rmN 1 30) s m args below meth c Q cX7_odds D A9 (fun (r : Int64) (u : Unit) => K r) (fun (u : Unit) => (wX7 cI cZ o q F A : va_W))) (hB61 : ∀ (x4 : Int64) (x6 : Int64) (x8 : Int32) (H : Heap) (locs : List Loc) (ls : Array Slot), B61 x4 x6 x8 → va_P D vwCl (wX7 cI cZ o q F A : va_W) H → va_D A9 (wX7 cI cZ o q F A : va_W) → va_S A9 s.heap H locs → lv_has ls 9 [(0, .ref o), (1, .int x1), (2, .int x2), (3, .int x3), (4, .long x4), (6, .long x6), (8, .int x8)] → W p l e (rmN 1 30) s m args below meth c H locs 0 0 Q (F0 m 61 ls [])) (H : Heap) (locs : List Loc) (ls : Array Slot) (h : p_X7_odds_J97 F A B61 K x1 x2 x3 x6 x8 s0 s1) (hP : va_P D vwCl (wX7 cI cZ o q F A : va_W) H) (hD : va_D A9 (wX7 cI cZ o q F A : va_W)) (hS : va_S A9 s.heap H locs) (hl : lv_has ls 9 [(0, .ref o), (1, .int x1), (2, .int x2), (3, .int x3), (6, .long x6), (8, .int x8)]) : W p l e (rmN 1 30) s m args below meth c H locs 0 0 Q (F0 m 97 ls [.long s0, .long s1]) := by
  obtain ⟨hx, hb, hml, ht, hown, hK, hA, hE⟩ := id X
  unfold p_X7_odds_J97 at h
  refine lv_lmul hx hb dX7_odds_97 ?_
  refine lv_topl (fun y98 ey98 => ?_)
  replace h := h y98 ey98
  refine lv_lstore (lv' := [(4, .long y98), (0, .ref o), (1, .int x1), (2, .int x2), (3, .int x3), (6, .long x6), (8, .int x8)]) hx hb dX7_odds_98 hl (by decide) rfl (fun ls hl => ?_)
  refine lv_lload hx hb dX7_odds_100 (lv_at hl 5 rfl) ?_
  refine lv_ldc2 (v := 100) hx hb hown (ht _ mw_41_1) dX7_odds_102 ?_
  refine lv_lmul hx hb dX7_odds_105 ?_
  refine lv_topl (fun y106 ey106 => ?_)
  replace h := h y106 ey106
  refine lv_lstore (lv' := [(6, .long y106), (4, .long y98), (0, .ref o), (1, .int x1), (2, .int x2), (3, .int x3), (8, .int x8)]) hx hb dX7_odds_106 hl (by decide) rfl (fun ls hl => ?_)
  obtain ⟨y108, ey108⟩ : ∃ y : Int32, y = (x8 + (1 : Int32)) := ⟨_, rfl⟩
  replace h := h y108 ey108
  refine lv_iinc (v := y108) (lv' := [(8, .int y108), (6, .long y106), (4, .long y98), (0, .ref o), (1, .int x1), (2, .int x2), (3, .int x3)]) hx hb dX7_odds_108 hl (k := 6) rfl (by rw [ey108]; rfl) (by decide) rfl (fun ls hl => ?_)
  refine lv_goto (tgt := 61) hx hb dX7_odds_111 (by decide) ?_
  exact hB61 y98 y106 y108 _ _ _ h hP hD hS (lv_sub hl [3, 4, 5, 6, 2, 1, 0] rfl)
def p_X7_odds_L61 (F : tF) (A : tA) (x1 : Int32) (x2 : Int32) (x3 : Int32) (K : Int64 → Prop) : Nat → Int64 → Int64 → Int32 → Prop
  | 0, _, _, _ => False
  | n61 + 1, x4, x6, x8 => ((x1 ≤ x8 → (p_X7_partOf x4 x6 x3 (fun r119 => (K r119)))) ∧ (¬ x1 ≤ x8 → ((x2 ≤ x8 → (p_X7_odds_J97 F A (p_X7_odds_L61 F A x1 x2 x3 K n61) K x1 x2 x3 x6 x8 ((((100 : Int32) - ((A 0) 8))).toInt64) x4)) ∧ (¬ x2 ≤ x8 → (p_X7_odds_J97 F A (p_X7_odds_L61 F A x1 x2 x3 K n61) K x1 x2 x3 x6 x8 ((((A 0) 8)).toInt64) x4)))))
set_option maxHeartbeats 4000000 in
set_option maxRecDepth 100000 in
theorem b_X7_odds_L61 {p : Program} {l : Launch} {e : Env} {s : State} {m : MethodId} {args : Array Value} {below : List Frame} {meth : Method} {c : Code} {Q : State → Prop} {D : va_G} {cI cZ cR : ClassId} {adK adV : Nat → Nat} {A9 : Nat → Prop} {o : Nat} {q : Nat → Nat} {K : Int64 → Prop}  (F : tF) (A : tA) (x1 : Int32) (x2 : Int32) (x3 : Int32) (X : CX p s m args c yX7_odds.cls cX7_odds 9 D cI cZ cR adK adV A9) (ret : RTl p l e (rmN 1 30) s m args below meth c Q cX7_odds D A9 (fun (r : Int64) (u : Unit) => K r) (fun (u : Unit) => (wX7 cI cZ o q F A : va_W)))   : ∀ (n : Nat) (x4 : Int64) (x6 : Int64) (x8 : Int32) (H : Heap) (locs : List Loc) (ls : Array Slot), p_X7_odds_L61 F A x1 x2 x3 K n x4 x6 x8 → va_P D vwCl (wX7 cI cZ o q F A : va_W) H → va_D A9 (wX7 cI cZ o q F A : va_W) → va_S A9 s.heap H locs → lv_has ls 9 [(0, .ref o), (1, .int x1), (2, .int x2), (3, .int x3), (4, .long x4), (6, .long x6), (8, .int x8)] → W p l e (rmN 1 30) s m args below meth c H locs 0 0 Q (F0 m 61 ls []) := by
  obtain ⟨hx, hb, hml, ht, hown, hK, hA, hE⟩ := id X
  intro n
  induction n with
  | zero => intro x4 x6 x8 H locs ls h; exact False.elim h
  | succ n61 ih =>
    intro x4 x6 x8 H locs ls h hP hD hS hl
    rw [p_X7_odds_L61] at h
    refine lv_iload hx hb dX7_odds_61 (lv_at hl 6 rfl) ?_
    refine lv_iload_n hx hb dX7_odds_63 rfl (lv_at hl 1 rfl) ?_
    refine lv_icmp_ge (tgt := 114) hx hb dX7_odds_64 (by decide) (fun c64 => ?_) (fun c64 => ?_)
    · replace h := h.1 c64
      refine lv_lload hx hb dX7_odds_114 (lv_at hl 4 rfl) ?_
      refine lv_lload hx hb dX7_odds_116 (lv_at hl 5 rfl) ?_
      refine lv_iload_n hx hb dX7_odds_118 rfl (lv_at hl 3 rfl) ?_
      refine C_sl (wr := [0, 1, 2, 3, 4, 5, 6, 7, 8, 9, 10, 11, 12, 13, 14, 15].filterMap (fun i => (wX7 cI cZ o q F A : va_W)[i]?)) X hP hD hS [.long x4, .long x6, .int x3] [] (w_X7_partOf l D cI cZ cR adK adV _ x4 x6 x3 _ h) cal_X7_partOf mw_39_17 rfl [] [0, 1, 2, 3, 4, 5, 6, 7, 8, 9, 10, 11, 12, 13, 14, 15] [0, 1, 2, 3, 4, 5, 6, 7, 8, 9, 10, 11, 12, 13, 14, 15] (fun u => (wX7 cI cZ o q F A : va_W)) rfl rfl (fun _ => rfl) rfl ⟨rfl, rfl⟩ ⟨Nat.le_of_ble_eq_true rfl, Nat.le_of_ble_eq_true rfl⟩ hl.1 rfl (Nat.le_of_ble_eq_true rfl) ⟨Nat.zero_le _, Nat.zero_le _⟩ dX7_odds_119 (fun r119 u H locs h hP hD hS => ?_)
      exact ret _ () _ _ _ _ dX7_odds_122 h hP hD hS
    · replace h := h.2 c64
      refine lv_lload hx hb dX7_odds_67 (lv_at hl 4 rfl) ?_
      refine lv_iload hx hb dX7_odds_69 (lv_at hl 6 rfl) ?_
      refine lv_iload_n hx hb dX7_odds_71 rfl (lv_at hl 2 rfl) ?_
      refine lv_icmp_ge (tgt := 86) hx hb dX7_odds_72 (by decide) (fun c72 => ?_) (fun c72 => ?_)
      · replace h := h.1 c72
        refine lv_bipush (v := 100) hx hb dX7_odds_86 (by decide) ?_
        refine lv_aload_n hx hb dX7_odds_88 rfl (lv_at hl 0 rfl) ?_
        refine va_get (C := RX7) (T := TX7) (N := 28) (own := RX7) (v := .ref (q 0)) hx hb ht inlX7 hown hK hP 0 rfl rfl 0 (Nat.le_of_ble_eq_true rfl) (ht _ mw_5_7) (fun _ h9 => h9) rfl dX7_odds_89 ?_
        refine lv_bipush (v := 8) hx hb dX7_odds_92 (by decide) ?_
        refine g_iald (f := (A 0)) (k := 8) hx hb hK hP 1 0 rfl rfl (vp_in_lit rfl : vp_in (8 : Int32) 53) (by decide) dX7_odds_94 ?_
        refine lv_isub hx hb dX7_odds_95 ?_
        refine lv_i2l (v := (((100 : Int32) - ((A 0) 8))).toInt64) hx hb dX7_odds_96 rfl ?_
        exact b_X7_odds_J97 F A x1 x2 x3 x6 x8 ((((100 : Int32) - ((A 0) 8))).toInt64) x4 X ret ih _ _ _ h hP hD hS (lv_sub hl [0, 1, 2, 3, 5, 6] rfl)
      · replace h := h.2 c72
        refine lv_aload_n hx hb dX7_odds_75 rfl (lv_at hl 0 rfl) ?_
        refine va_get (C := RX7) (T := TX7) (N := 28) (own := RX7) (v := .ref (q 0)) hx hb ht inlX7 hown hK hP 0 rfl rfl 0 (Nat.le_of_ble_eq_true rfl) (ht _ mw_5_7) (fun _ h9 => h9) rfl dX7_odds_76 ?_
        refine lv_bipush (v := 8) hx hb dX7_odds_79 (by decide) ?_
        refine g_iald (f := (A 0)) (k := 8) hx hb hK hP 1 0 rfl rfl (vp_in_lit rfl : vp_in (8 : Int32) 53) (by decide) dX7_odds_81 ?_
        refine lv_i2l (v := (((A 0) 8)).toInt64) hx hb dX7_odds_82 rfl ?_
        refine lv_goto (tgt := 97) hx hb dX7_odds_83 (by decide) ?_
        exact b_X7_odds_J97 F A x1 x2 x3 x6 x8 ((((A 0) 8)).toInt64) x4 X ret ih _ _ _ h hP hD hS (lv_sub hl [0, 1, 2, 3, 5, 6] rfl)
def p_X7_odds (F : tF) (A : tA) (x1 : Int32) (x2 : Int32) (x3 : Int32) (K : Int64 → Prop) : Prop := (p_X7_isIn ((x1).toInt64) (0 : Int64) (8 : Int64) (fun r6 => ((r6 = 0 → (K (-1 : Int64))) ∧ (¬ r6 = 0 → (p_X7_isIn ((x2).toInt64) (0 : Int64) ((x1).toInt64) (fun r17 => ((r17 = 0 → (K (-1 : Int64))) ∧ (¬ r17 = 0 → (p_X7_isIn ((x3).toInt64) (0 : Int64) (1 : Int64) (fun r27 => ((¬ r27 = 0 → (p_X7_product x1 (fun r38 => (p_X7_product x2 (fun r42 => (¬ r42 = 0 ∧ (p_X7_product (x1 - x2) (fun r49 => (¬ r49 = 0 ∧ (∀ y53 : Int64, y53 = ((r38 / r42) / r49) → (∃ n61, p_X7_odds_L61 F A x1 x2 x3 K n61 y53 (1 : Int64) (0 : Int32)))))))))))) ∧ (r27 = 0 → (K (-1 : Int64))))))))))))))
set_option maxHeartbeats 4000000 in
set_option maxRecDepth 100000 in
theorem w_X7_odds (l : Launch) (D : va_G) (cI cZ cR : ClassId) (adK adV : Nat → Nat) (sz : Nat) (o : Nat) (q : Nat → Nat) (F : tF) (A : tA) (x1 : Int32) (x2 : Int32) (x3 : Int32) (K : Int64 → Prop) (h : p_X7_odds F A x1 x2 x3 K) : ML l D cI cZ cR adK adV yX7_odds cX7_odds 9 (some .long) (rmN 1 30) [.ref o, .int x1, .int x2, .int x3] (wX7 cI cZ o q F A : va_W) sz (fun (r : Int64) (u : Unit) => K r) (fun (u : Unit) => (wX7 cI cZ o q F A : va_W)) := by
  refine M_l (by decide +kernel) (Nat.le_of_ble_eq_true rfl) ?_
  intro p e s m args below meth c Q A9 ls X ret hP hD hS hl
  obtain ⟨hx, hb, hml, ht, hown, hK, hA, hE⟩ := id X
  have hl : lv_has ls 9 [(0, .ref o), (1, .int x1), (2, .int x2), (3, .int x3)] := hl
  unfold p_X7_odds at h
  refine lv_iload_n hx hb dX7_odds_0 rfl (lv_at hl 1 rfl) ?_
  refine lv_i2l (v := (x1).toInt64) hx hb dX7_odds_1 rfl ?_
  refine lv_lconst (v := 0) hx hb dX7_odds_2 (by decide) ?_
  refine lv_ldc2 (v := 8) hx hb hown (ht _ mw_6_16) dX7_odds_3 ?_
  refine C_si (wr := [0, 1, 2, 3, 4, 5, 6, 7, 8, 9, 10, 11, 12, 13, 14, 15].filterMap (fun i => (wX7 cI cZ o q F A : va_W)[i]?)) X hP hD hS [.long (x1).toInt64, .long (0 : Int64), .long (8 : Int64)] [] (w_X7_isIn l D cI cZ cR adK adV _ ((x1).toInt64) (0 : Int64) (8 : Int64) _ h) cal_X7_isIn mw_6_19 rfl [] [0, 1, 2, 3, 4, 5, 6, 7, 8, 9, 10, 11, 12, 13, 14, 15] [0, 1, 2, 3, 4, 5, 6, 7, 8, 9, 10, 11, 12, 13, 14, 15] (fun u => (wX7 cI cZ o q F A : va_W)) rfl rfl (fun _ => rfl) rfl ⟨rfl, rfl⟩ ⟨Nat.le_of_ble_eq_true rfl, Nat.le_of_ble_eq_true rfl⟩ hl.1 rfl (Nat.le_of_ble_eq_true rfl) ⟨Nat.zero_le _, Nat.zero_le _⟩ dX7_odds_6 (fun r6 u H locs h hP hD hS => ?_)
  refine lv_if_eq (tgt := 33) hx hb dX7_odds_9 (by decide) (fun c9 => ?_) (fun c9 => ?_)
  · replace h := h.1 c9
    refine lv_ldc2 (v := -1) hx hb hown (ht _ mw_39_13) dX7_odds_33 ?_
    exact ret _ () _ _ _ _ dX7_odds_36 h hP hD hS
  · replace h := h.2 c9
    refine lv_iload_n hx hb dX7_odds_12 rfl (lv_at hl 2 rfl) ?_
    refine lv_i2l (v := (x2).toInt64) hx hb dX7_odds_13 rfl ?_
    refine lv_lconst (v := 0) hx hb dX7_odds_14 (by decide) ?_
    refine lv_iload_n hx hb dX7_odds_15 rfl (lv_at hl 1 rfl) ?_
    refine lv_i2l (v := (x1).toInt64) hx hb dX7_odds_16 rfl ?_
    refine C_si (wr := [0, 1, 2, 3, 4, 5, 6, 7, 8, 9, 10, 11, 12, 13, 14, 15].filterMap (fun i => (wX7 cI cZ o q F A : va_W)[i]?)) X hP hD hS [.long (x2).toInt64, .long (0 : Int64), .long (x1).toInt64] [] (w_X7_isIn l D cI cZ cR adK adV _ ((x2).toInt64) (0 : Int64) ((x1).toInt64) _ h) cal_X7_isIn mw_6_19 rfl [] [0, 1, 2, 3, 4, 5, 6, 7, 8, 9, 10, 11, 12, 13, 14, 15] [0, 1, 2, 3, 4, 5, 6, 7, 8, 9, 10, 11, 12, 13, 14, 15] (fun u => (wX7 cI cZ o q F A : va_W)) rfl rfl (fun _ => rfl) rfl ⟨rfl, rfl⟩ ⟨Nat.le_of_ble_eq_true rfl, Nat.le_of_ble_eq_true rfl⟩ hl.1 rfl (Nat.le_of_ble_eq_true rfl) ⟨Nat.zero_le _, Nat.zero_le _⟩ dX7_odds_17 (fun r17 u H locs h hP hD hS => ?_)
    refine lv_if_eq (tgt := 33) hx hb dX7_odds_20 (by decide) (fun c20 => ?_) (fun c20 => ?_)
    · replace h := h.1 c20
      refine lv_ldc2 (v := -1) hx hb hown (ht _ mw_39_13) dX7_odds_33 ?_
      exact ret _ () _ _ _ _ dX7_odds_36 h hP hD hS
    · replace h := h.2 c20
      refine lv_iload_n hx hb dX7_odds_23 rfl (lv_at hl 3 rfl) ?_
      refine lv_i2l (v := (x3).toInt64) hx hb dX7_odds_24 rfl ?_
      refine lv_lconst (v := 0) hx hb dX7_odds_25 (by decide) ?_
      refine lv_lconst (v := 1) hx hb dX7_odds_26 (by decide) ?_
      refine C_si (wr := [0, 1, 2, 3, 4, 5, 6, 7, 8, 9, 10, 11, 12, 13, 14, 15].filterMap (fun i => (wX7 cI cZ o q F A : va_W)[i]?)) X hP hD hS [.long (x3).toInt64, .long (0 : Int64), .long (1 : Int64)] [] (w_X7_isIn l D cI cZ cR adK adV _ ((x3).toInt64) (0 : Int64) (1 : Int64) _ h) cal_X7_isIn mw_6_19 rfl [] [0, 1, 2, 3, 4, 5, 6, 7, 8, 9, 10, 11, 12, 13, 14, 15] [0, 1, 2, 3, 4, 5, 6, 7, 8, 9, 10, 11, 12, 13, 14, 15] (fun u => (wX7 cI cZ o q F A : va_W)) rfl rfl (fun _ => rfl) rfl ⟨rfl, rfl⟩ ⟨Nat.le_of_ble_eq_true rfl, Nat.le_of_ble_eq_true rfl⟩ hl.1 rfl (Nat.le_of_ble_eq_true rfl) ⟨Nat.zero_le _, Nat.zero_le _⟩ dX7_odds_27 (fun r27 u H locs h hP hD hS => ?_)
      refine lv_if_ne (tgt := 37) hx hb dX7_odds_30 (by decide) (fun c30 => ?_) (fun c30 => ?_)
      · replace h := h.1 c30
        refine lv_iload_n hx hb dX7_odds_37 rfl (lv_at hl 1 rfl) ?_
        refine C_sl (wr := [0, 1, 2, 3, 4, 5, 6, 7, 8, 9, 10, 11, 12, 13, 14, 15].filterMap (fun i => (wX7 cI cZ o q F A : va_W)[i]?)) X hP hD hS [.int x1] [] (w_X7_product l D cI cZ cR adK adV _ x1 _ h) cal_X7_product mw_39_14 rfl [] [0, 1, 2, 3, 4, 5, 6, 7, 8, 9, 10, 11, 12, 13, 14, 15] [0, 1, 2, 3, 4, 5, 6, 7, 8, 9, 10, 11, 12, 13, 14, 15] (fun u => (wX7 cI cZ o q F A : va_W)) rfl rfl (fun _ => rfl) rfl ⟨rfl, rfl⟩ ⟨Nat.le_of_ble_eq_true rfl, Nat.le_of_ble_eq_true rfl⟩ hl.1 rfl (Nat.le_of_ble_eq_true rfl) ⟨Nat.zero_le _, Nat.zero_le _⟩ dX7_odds_38 (fun r38 u H locs h hP hD hS => ?_)
        refine lv_iload_n hx hb dX7_odds_41 rfl (lv_at hl 2 rfl) ?_
        refine C_sl (wr := [0, 1, 2, 3, 4, 5, 6, 7, 8, 9, 10, 11, 12, 13, 14, 15].filterMap (fun i => (wX7 cI cZ o q F A : va_W)[i]?)) X hP hD hS [.int x2] [.long r38] (w_X7_product l D cI cZ cR adK adV _ x2 _ h) cal_X7_product mw_39_14 rfl [] [0, 1, 2, 3, 4, 5, 6, 7, 8, 9, 10, 11, 12, 13, 14, 15] [0, 1, 2, 3, 4, 5, 6, 7, 8, 9, 10, 11, 12, 13, 14, 15] (fun u => (wX7 cI cZ o q F A : va_W)) rfl rfl (fun _ => rfl) rfl ⟨rfl, rfl⟩ ⟨Nat.le_of_ble_eq_true rfl, Nat.le_of_ble_eq_true rfl⟩ hl.1 rfl (Nat.le_of_ble_eq_true rfl) ⟨Nat.zero_le _, Nat.zero_le _⟩ dX7_odds_42 (fun r42 u H locs h hP hD hS => ?_)
        obtain ⟨hz45, h⟩ := h
        refine lv_ldiv hx hb dX7_odds_45 hz45 ?_
        refine lv_iload_n hx hb dX7_odds_46 rfl (lv_at hl 1 rfl) ?_
        refine lv_iload_n hx hb dX7_odds_47 rfl (lv_at hl 2 rfl) ?_
        refine lv_isub hx hb dX7_odds_48 ?_
        refine C_sl (wr := [0, 1, 2, 3, 4, 5, 6, 7, 8, 9, 10, 11, 12, 13, 14, 15].filterMap (fun i => (wX7 cI cZ o q F A : va_W)[i]?)) X hP hD hS [.int (x1 - x2)] [.long (r38 / r42)] (w_X7_product l D cI cZ cR adK adV _ (x1 - x2) _ h) cal_X7_product mw_39_14 rfl [] [0, 1, 2, 3, 4, 5, 6, 7, 8, 9, 10, 11, 12, 13, 14, 15] [0, 1, 2, 3, 4, 5, 6, 7, 8, 9, 10, 11, 12, 13, 14, 15] (fun u => (wX7 cI cZ o q F A : va_W)) rfl rfl (fun _ => rfl) rfl ⟨rfl, rfl⟩ ⟨Nat.le_of_ble_eq_true rfl, Nat.le_of_ble_eq_true rfl⟩ hl.1 rfl (Nat.le_of_ble_eq_true rfl) ⟨Nat.zero_le _, Nat.zero_le _⟩ dX7_odds_49 (fun r49 u H locs h hP hD hS => ?_)
        obtain ⟨hz52, h⟩ := h
        refine lv_ldiv hx hb dX7_odds_52 hz52 ?_
        refine lv_topl (fun y53 ey53 => ?_)
        replace h := h y53 ey53
        refine lv_lstore (lv' := [(4, .long y53), (0, .ref o), (1, .int x1), (2, .int x2), (3, .int x3)]) hx hb dX7_odds_53 hl (by decide) rfl (fun ls hl => ?_)
        refine lv_lconst (v := 1) hx hb dX7_odds_55 (by decide) ?_
        refine lv_lstore (lv' := [(6, .long (1 : Int64)), (4, .long y53), (0, .ref o), (1, .int x1), (2, .int x2), (3, .int x3)]) hx hb dX7_odds_56 hl (by decide) rfl (fun ls hl => ?_)
        refine lv_iconst (v := 0) hx hb dX7_odds_58 (by decide) ?_
        refine lv_istore (lv' := [(8, .int (0 : Int32)), (6, .long (1 : Int64)), (4, .long y53), (0, .ref o), (1, .int x1), (2, .int x2), (3, .int x3)]) hx hb dX7_odds_59 hl (by decide) rfl (fun ls hl => ?_)
        obtain ⟨n61, h⟩ := h
        exact b_X7_odds_L61 F A x1 x2 x3 X ret  n61 y53 (1 : Int64) (0 : Int32) _ _ _ h hP hD hS (lv_sub hl [3, 4, 5, 6, 2, 1, 0] rfl)
      · replace h := h.2 c30
        refine lv_ldc2 (v := -1) hx hb hown (ht _ mw_39_13) dX7_odds_33 ?_
        exact ret _ () _ _ _ _ dX7_odds_36 h hP hD hS
theorem dX7_hope_0 : decode cX7_hope 0 = .ok (.iload_n 1, 1) := by decide +kernel
theorem dX7_hope_1 : decode cX7_hope 1 = .ok (.i2l, 1) := by decide +kernel
theorem dX7_hope_2 : decode cX7_hope 2 = .ok (.lconst 0, 1) := by decide +kernel
theorem dX7_hope_3 : decode cX7_hope 3 = .ok (.ldc2_w 156, 3) := by decide +kernel
theorem dX7_hope_6 : decode cX7_hope 6 = .ok (.invokestatic 61, 3) := by decide +kernel
theorem dX7_hope_9 : decode cX7_hope 9 = .ok (.ifCond .eq 34, 3) := by decide +kernel
theorem dX7_hope_12 : decode cX7_hope 12 = .ok (.iload_n 2, 1) := by decide +kernel
theorem dX7_hope_13 : decode cX7_hope 13 = .ok (.i2l, 1) := by decide +kernel
theorem dX7_hope_14 : decode cX7_hope 14 = .ok (.lconst 0, 1) := by decide +kernel
theorem dX7_hope_15 : decode cX7_hope 15 = .ok (.lconst 1, 1) := by decide +kernel
theorem dX7_hope_16 : decode cX7_hope 16 = .ok (.invokestatic 61, 3) := by decide +kernel
theorem dX7_hope_19 : decode cX7_hope 19 = .ok (.ifCond .eq 24, 3) := by decide +kernel
theorem dX7_hope_22 : decode cX7_hope 22 = .ok (.iload_n 1, 1) := by decide +kernel
theorem dX7_hope_23 : decode cX7_hope 23 = .ok (.i2l, 1) := by decide +kernel
theorem dX7_hope_24 : decode cX7_hope 24 = .ok (.aload_n 0, 1) := by decide +kernel
theorem dX7_hope_25 : decode cX7_hope 25 = .ok (.getfield 7, 3) := by decide +kernel
theorem dX7_hope_28 : decode cX7_hope 28 = .ok (.bipush 8, 2) := by decide +kernel
theorem dX7_hope_30 : decode cX7_hope 30 = .ok (.iaload, 1) := by decide +kernel
theorem dX7_hope_31 : decode cX7_hope 31 = .ok (.i2l, 1) := by decide +kernel
theorem dX7_hope_32 : decode cX7_hope 32 = .ok (.lmul, 1) := by decide +kernel
theorem dX7_hope_33 : decode cX7_hope 33 = .ok (.ldc2_w 284, 3) := by decide +kernel
theorem dX7_hope_36 : decode cX7_hope 36 = .ok (.iload_n 2, 1) := by decide +kernel
theorem dX7_hope_37 : decode cX7_hope 37 = .ok (.invokestatic 274, 3) := by decide +kernel
theorem dX7_hope_40 : decode cX7_hope 40 = .ok (.goto 6, 3) := by decide +kernel
theorem dX7_hope_43 : decode cX7_hope 43 = .ok (.ldc2_w 268, 3) := by decide +kernel
theorem dX7_hope_46 : decode cX7_hope 46 = .ok (.lreturn, 1) := by decide +kernel
def p_X7_hope (F : tF) (A : tA) (x1 : Int32) (x2 : Int32) (K : Int64 → Prop) : Prop := (p_X7_isIn ((x1).toInt64) (0 : Int64) (99 : Int64) (fun r6 => ((r6 = 0 → (K (-1 : Int64))) ∧ (¬ r6 = 0 → (p_X7_isIn ((x2).toInt64) (0 : Int64) (1 : Int64) (fun r16 => ((r16 = 0 → (K (-1 : Int64))) ∧ (¬ r16 = 0 → (p_X7_partOf ((x1).toInt64 * (((A 0) 8)).toInt64) (100 : Int64) x2 (fun r37 => (K r37)))))))))))
set_option maxHeartbeats 4000000 in
set_option maxRecDepth 100000 in
theorem w_X7_hope (l : Launch) (D : va_G) (cI cZ cR : ClassId) (adK adV : Nat → Nat) (sz : Nat) (o : Nat) (q : Nat → Nat) (F : tF) (A : tA) (x1 : Int32) (x2 : Int32) (K : Int64 → Prop) (h : p_X7_hope F A x1 x2 K) : ML l D cI cZ cR adK adV yX7_hope cX7_hope 3 (some .long) (rmN 1 30) [.ref o, .int x1, .int x2] (wX7 cI cZ o q F A : va_W) sz (fun (r : Int64) (u : Unit) => K r) (fun (u : Unit) => (wX7 cI cZ o q F A : va_W)) := by
  refine M_l (by decide +kernel) (Nat.le_of_ble_eq_true rfl) ?_
  intro p e s m args below meth c Q A9 ls X ret hP hD hS hl
  obtain ⟨hx, hb, hml, ht, hown, hK, hA, hE⟩ := id X
  have hl : lv_has ls 3 [(0, .ref o), (1, .int x1), (2, .int x2)] := hl
  unfold p_X7_hope at h
  refine lv_iload_n hx hb dX7_hope_0 rfl (lv_at hl 1 rfl) ?_
  refine lv_i2l (v := (x1).toInt64) hx hb dX7_hope_1 rfl ?_
  refine lv_lconst (v := 0) hx hb dX7_hope_2 (by decide) ?_
  refine lv_ldc2 (v := 99) hx hb hown (ht _ mw_15_18) dX7_hope_3 ?_
  refine C_si (wr := [0, 1, 2, 3, 4, 5, 6, 7, 8, 9, 10, 11, 12, 13, 14, 15].filterMap (fun i => (wX7 cI cZ o q F A : va_W)[i]?)) X hP hD hS [.long (x1).toInt64, .long (0 : Int64), .long (99 : Int64)] [] (w_X7_isIn l D cI cZ cR adK adV _ ((x1).toInt64) (0 : Int64) (99 : Int64) _ h) cal_X7_isIn mw_6_19 rfl [] [0, 1, 2, 3, 4, 5, 6, 7, 8, 9, 10, 11, 12, 13, 14, 15] [0, 1, 2, 3, 4, 5, 6, 7, 8, 9, 10, 11, 12, 13, 14, 15] (fun u => (wX7 cI cZ o q F A : va_W)) rfl rfl (fun _ => rfl) rfl ⟨rfl, rfl⟩ ⟨Nat.le_of_ble_eq_true rfl, Nat.le_of_ble_eq_true rfl⟩ hl.1 rfl (Nat.le_of_ble_eq_true rfl) ⟨Nat.zero_le _, Nat.zero_le _⟩ dX7_hope_6 (fun r6 u H locs h hP hD hS => ?_)
  refine lv_if_eq (tgt := 43) hx hb dX7_hope_9 (by decide) (fun c9 => ?_) (fun c9 => ?_)
  · replace h := h.1 c9
    refine lv_ldc2 (v := -1) hx hb hown (ht _ mw_39_13) dX7_hope_43 ?_
    exact ret _ () _ _ _ _ dX7_hope_46 h hP hD hS
  · replace h := h.2 c9
    refine lv_iload_n hx hb dX7_hope_12 rfl (lv_at hl 2 rfl) ?_
    refine lv_i2l (v := (x2).toInt64) hx hb dX7_hope_13 rfl ?_
    refine lv_lconst (v := 0) hx hb dX7_hope_14 (by decide) ?_
    refine lv_lconst (v := 1) hx hb dX7_hope_15 (by decide) ?_
    refine C_si (wr := [0, 1, 2, 3, 4, 5, 6, 7, 8, 9, 10, 11, 12, 13, 14, 15].filterMap (fun i => (wX7 cI cZ o q F A : va_W)[i]?)) X hP hD hS [.long (x2).toInt64, .long (0 : Int64), .long (1 : Int64)] [] (w_X7_isIn l D cI cZ cR adK adV _ ((x2).toInt64) (0 : Int64) (1 : Int64) _ h) cal_X7_isIn mw_6_19 rfl [] [0, 1, 2, 3, 4, 5, 6, 7, 8, 9, 10, 11, 12, 13, 14, 15] [0, 1, 2, 3, 4, 5, 6, 7, 8, 9, 10, 11, 12, 13, 14, 15] (fun u => (wX7 cI cZ o q F A : va_W)) rfl rfl (fun _ => rfl) rfl ⟨rfl, rfl⟩ ⟨Nat.le_of_ble_eq_true rfl, Nat.le_of_ble_eq_true rfl⟩ hl.1 rfl (Nat.le_of_ble_eq_true rfl) ⟨Nat.zero_le _, Nat.zero_le _⟩ dX7_hope_16 (fun r16 u H locs h hP hD hS => ?_)
    refine lv_if_eq (tgt := 43) hx hb dX7_hope_19 (by decide) (fun c19 => ?_) (fun c19 => ?_)
    · replace h := h.1 c19
      refine lv_ldc2 (v := -1) hx hb hown (ht _ mw_39_13) dX7_hope_43 ?_
      exact ret _ () _ _ _ _ dX7_hope_46 h hP hD hS
    · replace h := h.2 c19
      refine lv_iload_n hx hb dX7_hope_22 rfl (lv_at hl 1 rfl) ?_
      refine lv_i2l (v := (x1).toInt64) hx hb dX7_hope_23 rfl ?_
      refine lv_aload_n hx hb dX7_hope_24 rfl (lv_at hl 0 rfl) ?_
      refine va_get (C := RX7) (T := TX7) (N := 28) (own := RX7) (v := .ref (q 0)) hx hb ht inlX7 hown hK hP 0 rfl rfl 0 (Nat.le_of_ble_eq_true rfl) (ht _ mw_5_7) (fun _ h9 => h9) rfl dX7_hope_25 ?_
      refine lv_bipush (v := 8) hx hb dX7_hope_28 (by decide) ?_
      refine g_iald (f := (A 0)) (k := 8) hx hb hK hP 1 0 rfl rfl (vp_in_lit rfl : vp_in (8 : Int32) 53) (by decide) dX7_hope_30 ?_
      refine lv_i2l (v := (((A 0) 8)).toInt64) hx hb dX7_hope_31 rfl ?_
      refine lv_lmul hx hb dX7_hope_32 ?_
      refine lv_ldc2 (v := 100) hx hb hown (ht _ mw_41_1) dX7_hope_33 ?_
      refine lv_iload_n hx hb dX7_hope_36 rfl (lv_at hl 2 rfl) ?_
      refine C_sl (wr := [0, 1, 2, 3, 4, 5, 6, 7, 8, 9, 10, 11, 12, 13, 14, 15].filterMap (fun i => (wX7 cI cZ o q F A : va_W)[i]?)) X hP hD hS [.long ((x1).toInt64 * (((A 0) 8)).toInt64), .long (100 : Int64), .int x2] [] (w_X7_partOf l D cI cZ cR adK adV _ ((x1).toInt64 * (((A 0) 8)).toInt64) (100 : Int64) x2 _ h) cal_X7_partOf mw_39_17 rfl [] [0, 1, 2, 3, 4, 5, 6, 7, 8, 9, 10, 11, 12, 13, 14, 15] [0, 1, 2, 3, 4, 5, 6, 7, 8, 9, 10, 11, 12, 13, 14, 15] (fun u => (wX7 cI cZ o q F A : va_W)) rfl rfl (fun _ => rfl) rfl ⟨rfl, rfl⟩ ⟨Nat.le_of_ble_eq_true rfl, Nat.le_of_ble_eq_true rfl⟩ hl.1 rfl (Nat.le_of_ble_eq_true rfl) ⟨Nat.zero_le _, Nat.zero_le _⟩ dX7_hope_37 (fun r37 u H locs h hP hD hS => ?_)
      refine lv_goto (tgt := 46) hx hb dX7_hope_40 (by decide) ?_
      exact ret _ () _ _ _ _ dX7_hope_46 h hP hD hS
theorem dX7_prove_0 : decode cX7_prove 0 = .ok (.aload_n 0, 1) := by decide +kernel
theorem dX7_prove_1 : decode cX7_prove 1 = .ok (.iload_n 1, 1) := by decide +kernel
theorem dX7_prove_2 : decode cX7_prove 2 = .ok (.invokevirtual 178, 3) := by decide +kernel
theorem dX7_prove_5 : decode cX7_prove 5 = .ok (.ifCond .eq 15, 3) := by decide +kernel
theorem dX7_prove_8 : decode cX7_prove 8 = .ok (.iload_n 2, 1) := by decide +kernel
theorem dX7_prove_9 : decode cX7_prove 9 = .ok (.i2l, 1) := by decide +kernel
theorem dX7_prove_10 : decode cX7_prove 10 = .ok (.lconst 1, 1) := by decide +kernel
theorem dX7_prove_11 : decode cX7_prove 11 = .ok (.ldc2_w 286, 3) := by decide +kernel
theorem dX7_prove_14 : decode cX7_prove 14 = .ok (.invokestatic 61, 3) := by decide +kernel
theorem dX7_prove_17 : decode cX7_prove 17 = .ok (.ifCond .ne 5, 3) := by decide +kernel
theorem dX7_prove_20 : decode cX7_prove 20 = .ok (.iconst (-1), 1) := by decide +kernel
theorem dX7_prove_21 : decode cX7_prove 21 = .ok (.ireturn, 1) := by decide +kernel
theorem dX7_prove_22 : decode cX7_prove 22 = .ok (.aload_n 0, 1) := by decide +kernel
theorem dX7_prove_23 : decode cX7_prove 23 = .ok (.getfield 7, 3) := by decide +kernel
theorem dX7_prove_26 : decode cX7_prove 26 = .ok (.aload_n 0, 1) := by decide +kernel
theorem dX7_prove_27 : decode cX7_prove 27 = .ok (.getfield 16, 3) := by decide +kernel
theorem dX7_prove_30 : decode cX7_prove 30 = .ok (.invokestatic 144, 3) := by decide +kernel
theorem dX7_prove_33 : decode cX7_prove 33 = .ok (.iconst 0, 1) := by decide +kernel
theorem dX7_prove_34 : decode cX7_prove 34 = .ok (.istore_n 3, 1) := by decide +kernel
theorem dX7_prove_35 : decode cX7_prove 35 = .ok (.iload_n 3, 1) := by decide +kernel
theorem dX7_prove_36 : decode cX7_prove 36 = .ok (.iload_n 2, 1) := by decide +kernel
theorem dX7_prove_37 : decode cX7_prove 37 = .ok (.if_icmp .ge 58, 3) := by decide +kernel
theorem dX7_prove_40 : decode cX7_prove 40 = .ok (.aload_n 0, 1) := by decide +kernel
theorem dX7_prove_41 : decode cX7_prove 41 = .ok (.invokevirtual 206, 3) := by decide +kernel
theorem dX7_prove_44 : decode cX7_prove 44 = .ok (.aload_n 0, 1) := by decide +kernel
theorem dX7_prove_45 : decode cX7_prove 45 = .ok (.getfield 32, 3) := by decide +kernel
theorem dX7_prove_48 : decode cX7_prove 48 = .ok (.iconst 3, 1) := by decide +kernel
theorem dX7_prove_49 : decode cX7_prove 49 = .ok (.iload_n 3, 1) := by decide +kernel
theorem dX7_prove_50 : decode cX7_prove 50 = .ok (.imul, 1) := by decide +kernel
theorem dX7_prove_51 : decode cX7_prove 51 = .ok (.aload_n 0, 1) := by decide +kernel
theorem dX7_prove_52 : decode cX7_prove 52 = .ok (.iload_n 1, 1) := by decide +kernel
theorem dX7_prove_53 : decode cX7_prove 53 = .ok (.iconst 2, 1) := by decide +kernel
theorem dX7_prove_54 : decode cX7_prove 54 = .ok (.invokevirtual 169, 3) := by decide +kernel
theorem dX7_prove_57 : decode cX7_prove 57 = .ok (.iastore, 1) := by decide +kernel
theorem dX7_prove_58 : decode cX7_prove 58 = .ok (.aload_n 0, 1) := by decide +kernel
theorem dX7_prove_59 : decode cX7_prove 59 = .ok (.getfield 32, 3) := by decide +kernel
theorem dX7_prove_62 : decode cX7_prove 62 = .ok (.iconst 3, 1) := by decide +kernel
theorem dX7_prove_63 : decode cX7_prove 63 = .ok (.iload_n 3, 1) := by decide +kernel
theorem dX7_prove_64 : decode cX7_prove 64 = .ok (.imul, 1) := by decide +kernel
theorem dX7_prove_65 : decode cX7_prove 65 = .ok (.iconst 1, 1) := by decide +kernel
theorem dX7_prove_66 : decode cX7_prove 66 = .ok (.iadd, 1) := by decide +kernel
theorem dX7_prove_67 : decode cX7_prove 67 = .ok (.aload_n 0, 1) := by decide +kernel
theorem dX7_prove_68 : decode cX7_prove 68 = .ok (.iload_n 1, 1) := by decide +kernel
theorem dX7_prove_69 : decode cX7_prove 69 = .ok (.invokevirtual 184, 3) := by decide +kernel
theorem dX7_prove_72 : decode cX7_prove 72 = .ok (.iastore, 1) := by decide +kernel
theorem dX7_prove_73 : decode cX7_prove 73 = .ok (.aload_n 0, 1) := by decide +kernel
theorem dX7_prove_74 : decode cX7_prove 74 = .ok (.getfield 32, 3) := by decide +kernel
theorem dX7_prove_77 : decode cX7_prove 77 = .ok (.iconst 3, 1) := by decide +kernel
theorem dX7_prove_78 : decode cX7_prove 78 = .ok (.iload_n 3, 1) := by decide +kernel
theorem dX7_prove_79 : decode cX7_prove 79 = .ok (.imul, 1) := by decide +kernel
theorem dX7_prove_80 : decode cX7_prove 80 = .ok (.iconst 2, 1) := by decide +kernel
theorem dX7_prove_81 : decode cX7_prove 81 = .ok (.iadd, 1) := by decide +kernel
theorem dX7_prove_82 : decode cX7_prove 82 = .ok (.aload_n 0, 1) := by decide +kernel
theorem dX7_prove_83 : decode cX7_prove 83 = .ok (.getfield 7, 3) := by decide +kernel
theorem dX7_prove_86 : decode cX7_prove 86 = .ok (.iconst 3, 1) := by decide +kernel
theorem dX7_prove_87 : decode cX7_prove 87 = .ok (.iaload, 1) := by decide +kernel
theorem dX7_prove_88 : decode cX7_prove 88 = .ok (.iastore, 1) := by decide +kernel
theorem dX7_prove_89 : decode cX7_prove 89 = .ok (.iinc 3 1, 3) := by decide +kernel
theorem dX7_prove_92 : decode cX7_prove 92 = .ok (.goto (-57), 3) := by decide +kernel
theorem dX7_prove_95 : decode cX7_prove 95 = .ok (.aload_n 0, 1) := by decide +kernel
theorem dX7_prove_96 : decode cX7_prove 96 = .ok (.getfield 16, 3) := by decide +kernel
theorem dX7_prove_99 : decode cX7_prove 99 = .ok (.aload_n 0, 1) := by decide +kernel
theorem dX7_prove_100 : decode cX7_prove 100 = .ok (.getfield 7, 3) := by decide +kernel
theorem dX7_prove_103 : decode cX7_prove 103 = .ok (.invokestatic 144, 3) := by decide +kernel
theorem dX7_prove_106 : decode cX7_prove 106 = .ok (.aload_n 0, 1) := by decide +kernel
theorem dX7_prove_107 : decode cX7_prove 107 = .ok (.iload_n 2, 1) := by decide +kernel
theorem dX7_prove_108 : decode cX7_prove 108 = .ok (.putfield 151, 3) := by decide +kernel
theorem dX7_prove_111 : decode cX7_prove 111 = .ok (.iload_n 2, 1) := by decide +kernel
theorem dX7_prove_112 : decode cX7_prove 112 = .ok (.ireturn, 1) := by decide +kernel
def p_X7_prove_L35 (x1 : Int32) (x2 : Int32) (K : Int32 → tF → tA → Prop) : Nat → tF → tA → Int32 → Prop
  | 0, _, _, _ => False
  | n35 + 1, F, A, x3 => ((x2 ≤ x3 → (p_X7_copyRow 53 (A 2) 53 (A 0) (fun g0_103 => (K x2 (upd F 15 x2) (va_up A 0 g0_103))))) ∧ (¬ x2 ≤ x3 → (p_X7_goesOn F A (fun F_41 A_41 => (p_X7_its F_41 A_41 x1 (2 : Int32) (fun r54 => (vp_in ((3 : Int32) * x3) 30 ∧ (∀ f_57 : tF, f_57 = (upd (A_41 14) (((3 : Int32) * x3)).toNatClampNeg r54) → (p_X7_voteOf F_41 (va_up A_41 14 f_57) x1 (fun r69 => (vp_in (((3 : Int32) * x3) + (1 : Int32)) 30 ∧ (∀ f_72 : tF, f_72 = (upd f_57 ((((3 : Int32) * x3) + (1 : Int32))).toNatClampNeg r69) → (vp_in (((3 : Int32) * x3) + (2 : Int32)) 30 ∧ (∀ f_88 : tF, f_88 = (upd f_72 ((((3 : Int32) * x3) + (2 : Int32))).toNatClampNeg ((A_41 0) 3)) → (∀ y89 : Int32, y89 = (x3 + (1 : Int32)) → ((p_X7_prove_L35 x1 x2 K n35) F_41 (va_up A_41 14 f_88) y89))))))))))))))))
set_option maxHeartbeats 4000000 in
set_option maxRecDepth 100000 in
theorem b_X7_prove_L35 {p : Program} {l : Launch} {e : Env} {s : State} {m : MethodId} {args : Array Value} {below : List Frame} {meth : Method} {c : Code} {Q : State → Prop} {D : va_G} {cI cZ cR : ClassId} {adK adV : Nat → Nat} {A9 : Nat → Prop} {o : Nat} {q : Nat → Nat} {K : Int32 → tF → tA → Prop}  (x1 : Int32) (x2 : Int32) (X : CX p s m args c yX7_prove.cls cX7_prove 4 D cI cZ cR adK adV A9) (ret : RTi p l e (rmN 6 142) s m args below meth c Q cX7_prove D A9 (fun (r : Int32) (u : (tF × tA)) => K r u.1 u.2) (fun (u : (tF × tA)) => (wX7 cI cZ o q u.1 u.2 : va_W)))   : ∀ (n : Nat) (F : tF) (A : tA) (x3 : Int32) (H : Heap) (locs : List Loc) (ls : Array Slot), p_X7_prove_L35 x1 x2 K n F A x3 → va_P D vwCl (wX7 cI cZ o q F A : va_W) H → va_D A9 (wX7 cI cZ o q F A : va_W) → va_S A9 s.heap H locs → lv_has ls 4 [(0, .ref o), (1, .int x1), (2, .int x2), (3, .int x3)] → W p l e (rmN 6 142) s m args below meth c H locs 0 0 Q (F0 m 35 ls []) := by
  obtain ⟨hx, hb, hml, ht, hown, hK, hA, hE⟩ := id X
  intro n
  induction n with
  | zero => intro F A x3 H locs ls h; exact False.elim h
  | succ n35 ih =>
    intro F A x3 H locs ls h hP hD hS hl
    rw [p_X7_prove_L35] at h
    refine lv_iload_n hx hb dX7_prove_35 rfl (lv_at hl 3 rfl) ?_
    refine lv_iload_n hx hb dX7_prove_36 rfl (lv_at hl 2 rfl) ?_
    refine lv_icmp_ge (tgt := 95) hx hb dX7_prove_37 (by decide) (fun c37 => ?_) (fun c37 => ?_)
    · replace h := h.1 c37
      refine lv_aload_n hx hb dX7_prove_95 rfl (lv_at hl 0 rfl) ?_
      refine va_get (C := RX7) (T := TX7) (N := 28) (own := RX7) (v := .ref (q 2)) hx hb ht inlX7 hown hK hP 0 rfl rfl 2 (Nat.le_of_ble_eq_true rfl) (ht _ mw_5_9) (fun _ h9 => h9) rfl dX7_prove_96 ?_
      refine lv_aload_n hx hb dX7_prove_99 rfl (lv_at hl 0 rfl) ?_
      refine va_get (C := RX7) (T := TX7) (N := 28) (own := RX7) (v := .ref (q 0)) hx hb ht inlX7 hown hK hP 0 rfl rfl 0 (Nat.le_of_ble_eq_true rfl) (ht _ mw_5_7) (fun _ h9 => h9) rfl dX7_prove_100 ?_
      refine C_sv (wr := [0, 2, 4, 5, 6, 7, 8, 9, 10, 11, 12, 13, 14, 15].filterMap (fun i => (wX7 cI cZ o q F A : va_W)[i]?)) X hP hD hS [.ref (q 2), .ref (q 0)] [] (w_X7_copyRow l D cI cZ cR adK adV _ (q 2) (q 0) 53 (A 2) 53 (A 0) _ h) cal_X7_copyRow mw_12_6 rfl [3, 1] [0, 2, 4, 5, 6, 7, 8, 9, 10, 11, 12, 13, 14, 15] [0, 15, 1, 14, 2, 3, 4, 5, 6, 7, 8, 9, 10, 11, 12, 13] (fun u => (wX7 cI cZ o q F (va_up A 0 u) : va_W)) rfl rfl (fun _ => rfl) rfl ⟨rfl, rfl⟩ ⟨Nat.le_of_ble_eq_true rfl, Nat.le_of_ble_eq_true rfl⟩ hl.1 rfl (Nat.le_of_ble_eq_true rfl) ⟨Nat.zero_le _, Nat.zero_le _⟩ dX7_prove_103 (fun u H locs h hP hD hS => ?_)
      obtain ⟨g0_103, rfl⟩ : ∃ z, z = u := ⟨_, rfl⟩
      try dsimp only at h
      have hP : va_P D vwCl (wX7 cI cZ o q F (va_up A 0 g0_103) : va_W) H := hP
      have hD : va_D A9 (wX7 cI cZ o q F (va_up A 0 g0_103) : va_W) := hD
      refine lv_aload_n hx hb dX7_prove_106 rfl (lv_at hl 0 rfl) ?_
      refine lv_iload_n hx hb dX7_prove_107 rfl (lv_at hl 2 rfl) ?_
      refine va_put (C := RX7) (T := TX7) (N := 28) (own := RX7) (v := .int x2) hx hb ht inlX7 tyX7 tyX7_ok nmX7 hown hK hP hD hS 0 rfl rfl 15 (Nat.le_of_ble_eq_true rfl) (ht _ mw_12_5) (fun _ h9 => h9) rfl (tyX7_ok 15 (Nat.le_of_ble_eq_true rfl)) rfl rfl (Nat.le_of_ble_eq_true rfl) dX7_prove_108 (fun H locs hP hD hS => ?_)
      have hP : va_P D vwCl (wX7 cI cZ o q (upd F 15 x2) (va_up A 0 g0_103) : va_W) H := hP
      have hD : va_D A9 (wX7 cI cZ o q (upd F 15 x2) (va_up A 0 g0_103) : va_W) := hD
      refine lv_iload_n hx hb dX7_prove_111 rfl (lv_at hl 2 rfl) ?_
      exact ret _ ((upd F 15 x2), (va_up A 0 g0_103)) _ _ _ _ dX7_prove_112 h hP hD hS
    · replace h := h.2 c37
      refine lv_aload_n hx hb dX7_prove_40 rfl (lv_at hl 0 rfl) ?_
      refine C_vv (wr := []) X hP hD hS [] [] (w_X7_goesOn l D cI cZ cR adK adV _ o q F A _ h) cal_X7_goesOn mw_26_0 rfl [0, 1, 2, 3, 4, 5, 6, 7, 8, 9, 10, 11, 12, 13, 14, 15] [] [0, 1, 2, 3, 4, 5, 6, 7, 8, 9, 10, 11, 12, 13, 14, 15] (fun u => (wX7 cI cZ o q u.1 u.2 : va_W)) rfl rfl (fun _ => rfl) rfl 0 rfl rfl ⟨rfl, rfl⟩ ⟨Nat.le_of_ble_eq_true rfl, Nat.le_of_ble_eq_true rfl⟩ hl.1 rfl (Nat.le_of_ble_eq_true rfl) ⟨Nat.zero_le _, Nat.zero_le _⟩ dX7_prove_41 (fun u H locs h hP hD hS => ?_)
      obtain ⟨F_41, A_41⟩ := u
      try dsimp only at h
      have hP : va_P D vwCl (wX7 cI cZ o q F_41 A_41 : va_W) H := hP
      have hD : va_D A9 (wX7 cI cZ o q F_41 A_41 : va_W) := hD
      refine lv_aload_n hx hb dX7_prove_44 rfl (lv_at hl 0 rfl) ?_
      refine va_get (C := RX7) (T := TX7) (N := 28) (own := RX7) (v := .ref (q 14)) hx hb ht inlX7 hown hK hP 0 rfl rfl 14 (Nat.le_of_ble_eq_true rfl) (ht _ mw_5_14) (fun _ h9 => h9) rfl dX7_prove_45 ?_
      refine lv_iconst (v := 3) hx hb dX7_prove_48 (by decide) ?_
      refine lv_iload_n hx hb dX7_prove_49 rfl (lv_at hl 3 rfl) ?_
      refine lv_imul hx hb dX7_prove_50 ?_
      refine lv_aload_n hx hb dX7_prove_51 rfl (lv_at hl 0 rfl) ?_
      refine lv_iload_n hx hb dX7_prove_52 rfl (lv_at hl 1 rfl) ?_
      refine lv_iconst (v := 2) hx hb dX7_prove_53 (by decide) ?_
      refine C_vi (wr := []) X hP hD hS [.int x1, .int (2 : Int32)] [.int ((3 : Int32) * x3), .ref (q 14)] (w_X7_its l D cI cZ cR adK adV _ o q F_41 A_41 x1 (2 : Int32) _ h) cal_X7_its mw_18_16 rfl [0, 1, 2, 3, 4, 5, 6, 7, 8, 9, 10, 11, 12, 13, 14, 15] [] [0, 1, 2, 3, 4, 5, 6, 7, 8, 9, 10, 11, 12, 13, 14, 15] (fun u => (wX7 cI cZ o q F_41 A_41 : va_W)) rfl rfl (fun _ => rfl) rfl 0 rfl rfl ⟨rfl, rfl⟩ ⟨Nat.le_of_ble_eq_true rfl, Nat.le_of_ble_eq_true rfl⟩ hl.1 rfl (Nat.le_of_ble_eq_true rfl) ⟨Nat.zero_le _, Nat.zero_le _⟩ dX7_prove_54 (fun r54 u H locs h hP hD hS => ?_)
      obtain ⟨hi57, h⟩ := h
      obtain ⟨f_57, ef_57⟩ : ∃ z : tF, z = (upd (A_41 14) (((3 : Int32) * x3)).toNatClampNeg r54) := ⟨_, rfl⟩
      replace h := h f_57 ef_57
      refine g_iast (f := (A_41 14)) (k := (((3 : Int32) * x3)).toNatClampNeg) hx hb hK hP hD hS 8 0 rfl rfl hi57 rfl ef_57 dX7_prove_57 (fun H locs hP hD hS => ?_)
      have hP : va_P D vwCl (wX7 cI cZ o q F_41 (va_up A_41 14 f_57) : va_W) H := hP
      have hD : va_D A9 (wX7 cI cZ o q F_41 (va_up A_41 14 f_57) : va_W) := hD
      refine lv_aload_n hx hb dX7_prove_58 rfl (lv_at hl 0 rfl) ?_
      refine va_get (C := RX7) (T := TX7) (N := 28) (own := RX7) (v := .ref (q 14)) hx hb ht inlX7 hown hK hP 0 rfl rfl 14 (Nat.le_of_ble_eq_true rfl) (ht _ mw_5_14) (fun _ h9 => h9) rfl dX7_prove_59 ?_
      refine lv_iconst (v := 3) hx hb dX7_prove_62 (by decide) ?_
      refine lv_iload_n hx hb dX7_prove_63 rfl (lv_at hl 3 rfl) ?_
      refine lv_imul hx hb dX7_prove_64 ?_
      refine lv_iconst (v := 1) hx hb dX7_prove_65 (by decide) ?_
      refine lv_iadd hx hb dX7_prove_66 ?_
      refine lv_aload_n hx hb dX7_prove_67 rfl (lv_at hl 0 rfl) ?_
      refine lv_iload_n hx hb dX7_prove_68 rfl (lv_at hl 1 rfl) ?_
      refine C_vi (wr := []) X hP hD hS [.int x1] [.int (((3 : Int32) * x3) + (1 : Int32)), .ref (q 14)] (w_X7_voteOf l D cI cZ cR adK adV _ o q F_41 (va_up A_41 14 f_57) x1 _ h) cal_X7_voteOf mw_19_0 rfl [0, 1, 2, 3, 4, 5, 6, 7, 8, 9, 10, 11, 12, 13, 14, 15] [] [0, 1, 2, 3, 4, 5, 6, 7, 8, 9, 10, 11, 12, 13, 14, 15] (fun u => (wX7 cI cZ o q F_41 (va_up A_41 14 f_57) : va_W)) rfl rfl (fun _ => rfl) rfl 0 rfl rfl ⟨rfl, rfl⟩ ⟨Nat.le_of_ble_eq_true rfl, Nat.le_of_ble_eq_true rfl⟩ hl.1 rfl (Nat.le_of_ble_eq_true rfl) ⟨Nat.zero_le _, Nat.zero_le _⟩ dX7_prove_69 (fun r69 u H locs h hP hD hS => ?_)
      obtain ⟨hi72, h⟩ := h
      obtain ⟨f_72, ef_72⟩ : ∃ z : tF, z = (upd f_57 ((((3 : Int32) * x3) + (1 : Int32))).toNatClampNeg r69) := ⟨_, rfl⟩
      replace h := h f_72 ef_72
      refine g_iast (f := f_57) (k := ((((3 : Int32) * x3) + (1 : Int32))).toNatClampNeg) hx hb hK hP hD hS 8 0 rfl rfl hi72 rfl ef_72 dX7_prove_72 (fun H locs hP hD hS => ?_)
      have hP : va_P D vwCl (wX7 cI cZ o q F_41 (va_up A_41 14 f_72) : va_W) H := hP
      have hD : va_D A9 (wX7 cI cZ o q F_41 (va_up A_41 14 f_72) : va_W) := hD
      refine lv_aload_n hx hb dX7_prove_73 rfl (lv_at hl 0 rfl) ?_
      refine va_get (C := RX7) (T := TX7) (N := 28) (own := RX7) (v := .ref (q 14)) hx hb ht inlX7 hown hK hP 0 rfl rfl 14 (Nat.le_of_ble_eq_true rfl) (ht _ mw_5_14) (fun _ h9 => h9) rfl dX7_prove_74 ?_
      refine lv_iconst (v := 3) hx hb dX7_prove_77 (by decide) ?_
      refine lv_iload_n hx hb dX7_prove_78 rfl (lv_at hl 3 rfl) ?_
      refine lv_imul hx hb dX7_prove_79 ?_
      refine lv_iconst (v := 2) hx hb dX7_prove_80 (by decide) ?_
      refine lv_iadd hx hb dX7_prove_81 ?_
      refine lv_aload_n hx hb dX7_prove_82 rfl (lv_at hl 0 rfl) ?_
      refine va_get (C := RX7) (T := TX7) (N := 28) (own := RX7) (v := .ref (q 0)) hx hb ht inlX7 hown hK hP 0 rfl rfl 0 (Nat.le_of_ble_eq_true rfl) (ht _ mw_5_7) (fun _ h9 => h9) rfl dX7_prove_83 ?_
      refine lv_iconst (v := 3) hx hb dX7_prove_86 (by decide) ?_
      refine g_iald (f := (A_41 0)) (k := 3) hx hb hK hP 1 0 rfl rfl (vp_in_lit rfl : vp_in (3 : Int32) 53) (by decide) dX7_prove_87 ?_
      obtain ⟨hi88, h⟩ := h
      obtain ⟨f_88, ef_88⟩ : ∃ z : tF, z = (upd f_72 ((((3 : Int32) * x3) + (2 : Int32))).toNatClampNeg ((A_41 0) 3)) := ⟨_, rfl⟩
      replace h := h f_88 ef_88
      refine g_iast (f := f_72) (k := ((((3 : Int32) * x3) + (2 : Int32))).toNatClampNeg) hx hb hK hP hD hS 8 0 rfl rfl hi88 rfl ef_88 dX7_prove_88 (fun H locs hP hD hS => ?_)
      have hP : va_P D vwCl (wX7 cI cZ o q F_41 (va_up A_41 14 f_88) : va_W) H := hP
      have hD : va_D A9 (wX7 cI cZ o q F_41 (va_up A_41 14 f_88) : va_W) := hD
      obtain ⟨y89, ey89⟩ : ∃ y : Int32, y = (x3 + (1 : Int32)) := ⟨_, rfl⟩
      replace h := h y89 ey89
      refine lv_iinc (v := y89) (lv' := [(3, .int y89), (0, .ref o), (1, .int x1), (2, .int x2)]) hx hb dX7_prove_89 hl (k := 3) rfl (by rw [ey89]; rfl) (by decide) rfl (fun ls hl => ?_)
      refine lv_goto (tgt := 35) hx hb dX7_prove_92 (by decide) ?_
      exact ih F_41 (va_up A_41 14 f_88) y89 _ _ _ h hP hD hS (lv_sub hl [1, 2, 3, 0] rfl)
def p_X7_prove (F : tF) (A : tA) (x1 : Int32) (x2 : Int32) (K : Int32 → tF → tA → Prop) : Prop := (p_X7_isOne F A x1 (fun r2 => ((r2 = 0 → (K (-1 : Int32) F A)) ∧ (¬ r2 = 0 → (p_X7_isIn ((x2).toInt64) (1 : Int64) (10 : Int64) (fun r14 => ((¬ r14 = 0 → (p_X7_copyRow 53 (A 0) 53 (A 2) (fun g0_30 => (∃ n35, p_X7_prove_L35 x1 x2 K n35 F (va_up A 2 g0_30) (0 : Int32))))) ∧ (r14 = 0 → (K (-1 : Int32) F A)))))))))
set_option maxHeartbeats 4000000 in
set_option maxRecDepth 100000 in
theorem w_X7_prove (l : Launch) (D : va_G) (cI cZ cR : ClassId) (adK adV : Nat → Nat) (sz : Nat) (o : Nat) (q : Nat → Nat) (F : tF) (A : tA) (x1 : Int32) (x2 : Int32) (K : Int32 → tF → tA → Prop) (h : p_X7_prove F A x1 x2 K) : MI l D cI cZ cR adK adV yX7_prove cX7_prove 4 (some .int) (rmN 6 142) [.ref o, .int x1, .int x2] (wX7 cI cZ o q F A : va_W) sz (fun (r : Int32) (u : (tF × tA)) => K r u.1 u.2) (fun (u : (tF × tA)) => (wX7 cI cZ o q u.1 u.2 : va_W)) := by
  refine M_i (by decide +kernel) (Nat.le_of_ble_eq_true rfl) ?_
  intro p e s m args below meth c Q A9 ls X ret hP hD hS hl
  obtain ⟨hx, hb, hml, ht, hown, hK, hA, hE⟩ := id X
  have hl : lv_has ls 4 [(0, .ref o), (1, .int x1), (2, .int x2)] := hl
  unfold p_X7_prove at h
  refine lv_aload_n hx hb dX7_prove_0 rfl (lv_at hl 0 rfl) ?_
  refine lv_iload_n hx hb dX7_prove_1 rfl (lv_at hl 1 rfl) ?_
  refine C_vi (wr := []) X hP hD hS [.int x1] [] (w_X7_isOne l D cI cZ cR adK adV _ o q F A x1 _ h) cal_X7_isOne mw_18_12 rfl [0, 1, 2, 3, 4, 5, 6, 7, 8, 9, 10, 11, 12, 13, 14, 15] [] [0, 1, 2, 3, 4, 5, 6, 7, 8, 9, 10, 11, 12, 13, 14, 15] (fun u => (wX7 cI cZ o q F A : va_W)) rfl rfl (fun _ => rfl) rfl 0 rfl rfl ⟨rfl, rfl⟩ ⟨Nat.le_of_ble_eq_true rfl, Nat.le_of_ble_eq_true rfl⟩ hl.1 rfl (Nat.le_of_ble_eq_true rfl) ⟨Nat.zero_le _, Nat.zero_le _⟩ dX7_prove_2 (fun r2 u H locs h hP hD hS => ?_)
  refine lv_if_eq (tgt := 20) hx hb dX7_prove_5 (by decide) (fun c5 => ?_) (fun c5 => ?_)
  · replace h := h.1 c5
    refine lv_iconst (v := -1) hx hb dX7_prove_20 (by decide) ?_
    exact ret _ (F, A) _ _ _ _ dX7_prove_21 h hP hD hS
  · replace h := h.2 c5
    refine lv_iload_n hx hb dX7_prove_8 rfl (lv_at hl 2 rfl) ?_
    refine lv_i2l (v := (x2).toInt64) hx hb dX7_prove_9 rfl ?_
    refine lv_lconst (v := 1) hx hb dX7_prove_10 (by decide) ?_
    refine lv_ldc2 (v := 10) hx hb hown (ht _ mw_41_18) dX7_prove_11 ?_
    refine C_si (wr := [0, 1, 2, 3, 4, 5, 6, 7, 8, 9, 10, 11, 12, 13, 14, 15].filterMap (fun i => (wX7 cI cZ o q F A : va_W)[i]?)) X hP hD hS [.long (x2).toInt64, .long (1 : Int64), .long (10 : Int64)] [] (w_X7_isIn l D cI cZ cR adK adV _ ((x2).toInt64) (1 : Int64) (10 : Int64) _ h) cal_X7_isIn mw_6_19 rfl [] [0, 1, 2, 3, 4, 5, 6, 7, 8, 9, 10, 11, 12, 13, 14, 15] [0, 1, 2, 3, 4, 5, 6, 7, 8, 9, 10, 11, 12, 13, 14, 15] (fun u => (wX7 cI cZ o q F A : va_W)) rfl rfl (fun _ => rfl) rfl ⟨rfl, rfl⟩ ⟨Nat.le_of_ble_eq_true rfl, Nat.le_of_ble_eq_true rfl⟩ hl.1 rfl (Nat.le_of_ble_eq_true rfl) ⟨Nat.zero_le _, Nat.zero_le _⟩ dX7_prove_14 (fun r14 u H locs h hP hD hS => ?_)
    refine lv_if_ne (tgt := 22) hx hb dX7_prove_17 (by decide) (fun c17 => ?_) (fun c17 => ?_)
    · replace h := h.1 c17
      refine lv_aload_n hx hb dX7_prove_22 rfl (lv_at hl 0 rfl) ?_
      refine va_get (C := RX7) (T := TX7) (N := 28) (own := RX7) (v := .ref (q 0)) hx hb ht inlX7 hown hK hP 0 rfl rfl 0 (Nat.le_of_ble_eq_true rfl) (ht _ mw_5_7) (fun _ h9 => h9) rfl dX7_prove_23 ?_
      refine lv_aload_n hx hb dX7_prove_26 rfl (lv_at hl 0 rfl) ?_
      refine va_get (C := RX7) (T := TX7) (N := 28) (own := RX7) (v := .ref (q 2)) hx hb ht inlX7 hown hK hP 0 rfl rfl 2 (Nat.le_of_ble_eq_true rfl) (ht _ mw_5_9) (fun _ h9 => h9) rfl dX7_prove_27 ?_
      refine C_sv (wr := [0, 2, 4, 5, 6, 7, 8, 9, 10, 11, 12, 13, 14, 15].filterMap (fun i => (wX7 cI cZ o q F A : va_W)[i]?)) X hP hD hS [.ref (q 0), .ref (q 2)] [] (w_X7_copyRow l D cI cZ cR adK adV _ (q 0) (q 2) 53 (A 0) 53 (A 2) _ h) cal_X7_copyRow mw_12_6 rfl [1, 3] [0, 2, 4, 5, 6, 7, 8, 9, 10, 11, 12, 13, 14, 15] [0, 14, 1, 15, 2, 3, 4, 5, 6, 7, 8, 9, 10, 11, 12, 13] (fun u => (wX7 cI cZ o q F (va_up A 2 u) : va_W)) rfl rfl (fun _ => rfl) rfl ⟨rfl, rfl⟩ ⟨Nat.le_of_ble_eq_true rfl, Nat.le_of_ble_eq_true rfl⟩ hl.1 rfl (Nat.le_of_ble_eq_true rfl) ⟨Nat.zero_le _, Nat.zero_le _⟩ dX7_prove_30 (fun u H locs h hP hD hS => ?_)
      obtain ⟨g0_30, rfl⟩ : ∃ z, z = u := ⟨_, rfl⟩
      try dsimp only at h
      have hP : va_P D vwCl (wX7 cI cZ o q F (va_up A 2 g0_30) : va_W) H := hP
      have hD : va_D A9 (wX7 cI cZ o q F (va_up A 2 g0_30) : va_W) := hD
      refine lv_iconst (v := 0) hx hb dX7_prove_33 (by decide) ?_
      refine lv_istore_n (lv' := [(3, .int (0 : Int32)), (0, .ref o), (1, .int x1), (2, .int x2)]) hx hb dX7_prove_34 rfl hl (by decide) rfl (fun ls hl => ?_)
      obtain ⟨n35, h⟩ := h
      exact b_X7_prove_L35 x1 x2 X ret  n35 F (va_up A 2 g0_30) (0 : Int32) _ _ _ h hP hD hS (lv_sub hl [1, 2, 3, 0] rfl)
    · replace h := h.2 c17
      refine lv_iconst (v := -1) hx hb dX7_prove_20 (by decide) ?_
      exact ret _ (F, A) _ _ _ _ dX7_prove_21 h hP hD hS
theorem dX7_isRow_0 : decode cX7_isRow 0 = .ok (.iload_n 1, 1) := by decide +kernel
theorem dX7_isRow_1 : decode cX7_isRow 1 = .ok (.i2l, 1) := by decide +kernel
theorem dX7_isRow_2 : decode cX7_isRow 2 = .ok (.lconst 0, 1) := by decide +kernel
theorem dX7_isRow_3 : decode cX7_isRow 3 = .ok (.aload_n 0, 1) := by decide +kernel
theorem dX7_isRow_4 : decode cX7_isRow 4 = .ok (.getfield 151, 3) := by decide +kernel
theorem dX7_isRow_7 : decode cX7_isRow 7 = .ok (.iconst 1, 1) := by decide +kernel
theorem dX7_isRow_8 : decode cX7_isRow 8 = .ok (.isub, 1) := by decide +kernel
theorem dX7_isRow_9 : decode cX7_isRow 9 = .ok (.i2l, 1) := by decide +kernel
theorem dX7_isRow_10 : decode cX7_isRow 10 = .ok (.invokestatic 61, 3) := by decide +kernel
theorem dX7_isRow_13 : decode cX7_isRow 13 = .ok (.ifCond .eq 19, 3) := by decide +kernel
theorem dX7_isRow_16 : decode cX7_isRow 16 = .ok (.iload_n 2, 1) := by decide +kernel
theorem dX7_isRow_17 : decode cX7_isRow 17 = .ok (.i2l, 1) := by decide +kernel
theorem dX7_isRow_18 : decode cX7_isRow 18 = .ok (.lconst 0, 1) := by decide +kernel
theorem dX7_isRow_19 : decode cX7_isRow 19 = .ok (.ldc2_w 288, 3) := by decide +kernel
theorem dX7_isRow_22 : decode cX7_isRow 22 = .ok (.invokestatic 61, 3) := by decide +kernel
theorem dX7_isRow_25 : decode cX7_isRow 25 = .ok (.ifCond .eq 7, 3) := by decide +kernel
theorem dX7_isRow_28 : decode cX7_isRow 28 = .ok (.iconst 1, 1) := by decide +kernel
theorem dX7_isRow_29 : decode cX7_isRow 29 = .ok (.goto 4, 3) := by decide +kernel
theorem dX7_isRow_32 : decode cX7_isRow 32 = .ok (.iconst 0, 1) := by decide +kernel
theorem dX7_isRow_33 : decode cX7_isRow 33 = .ok (.ireturn, 1) := by decide +kernel
def p_X7_isRow (F : tF) (A : tA) (x1 : Int32) (x2 : Int32) (K : Int32 → Prop) : Prop := (p_X7_isIn ((x1).toInt64) (0 : Int64) ((((F 15) - (1 : Int32))).toInt64) (fun r10 => ((r10 = 0 → (K (0 : Int32))) ∧ (¬ r10 = 0 → (p_X7_isIn ((x2).toInt64) (0 : Int64) (2 : Int64) (fun r22 => ((r22 = 0 → (K (0 : Int32))) ∧ (¬ r22 = 0 → (K (1 : Int32))))))))))
set_option maxHeartbeats 4000000 in
set_option maxRecDepth 100000 in
theorem w_X7_isRow (l : Launch) (D : va_G) (cI cZ cR : ClassId) (adK adV : Nat → Nat) (sz : Nat) (o : Nat) (q : Nat → Nat) (F : tF) (A : tA) (x1 : Int32) (x2 : Int32) (K : Int32 → Prop) (h : p_X7_isRow F A x1 x2 K) : MI l D cI cZ cR adK adV yX7_isRow cX7_isRow 3 (some .boolean) (rmN 1 25) [.ref o, .int x1, .int x2] (wX7 cI cZ o q F A : va_W) sz (fun (r : Int32) (u : Unit) => K r) (fun (u : Unit) => (wX7 cI cZ o q F A : va_W)) := by
  refine M_z (by decide +kernel) (Nat.le_of_ble_eq_true rfl) ?_
  intro p e s m args below meth c Q A9 ls X ret hP hD hS hl
  obtain ⟨hx, hb, hml, ht, hown, hK, hA, hE⟩ := id X
  have hl : lv_has ls 3 [(0, .ref o), (1, .int x1), (2, .int x2)] := hl
  unfold p_X7_isRow at h
  refine lv_iload_n hx hb dX7_isRow_0 rfl (lv_at hl 1 rfl) ?_
  refine lv_i2l (v := (x1).toInt64) hx hb dX7_isRow_1 rfl ?_
  refine lv_lconst (v := 0) hx hb dX7_isRow_2 (by decide) ?_
  refine lv_aload_n hx hb dX7_isRow_3 rfl (lv_at hl 0 rfl) ?_
  refine va_get (C := RX7) (T := TX7) (N := 28) (own := RX7) (v := .int (F 15)) hx hb ht inlX7 hown hK hP 0 rfl rfl 15 (Nat.le_of_ble_eq_true rfl) (ht _ mw_12_5) (fun _ h9 => h9) rfl dX7_isRow_4 ?_
  refine lv_iconst (v := 1) hx hb dX7_isRow_7 (by decide) ?_
  refine lv_isub hx hb dX7_isRow_8 ?_
  refine lv_i2l (v := (((F 15) - (1 : Int32))).toInt64) hx hb dX7_isRow_9 rfl ?_
  refine C_si (wr := [0, 1, 2, 3, 4, 5, 6, 7, 8, 9, 10, 11, 12, 13, 14, 15].filterMap (fun i => (wX7 cI cZ o q F A : va_W)[i]?)) X hP hD hS [.long (x1).toInt64, .long (0 : Int64), .long (((F 15) - (1 : Int32))).toInt64] [] (w_X7_isIn l D cI cZ cR adK adV _ ((x1).toInt64) (0 : Int64) ((((F 15) - (1 : Int32))).toInt64) _ h) cal_X7_isIn mw_6_19 rfl [] [0, 1, 2, 3, 4, 5, 6, 7, 8, 9, 10, 11, 12, 13, 14, 15] [0, 1, 2, 3, 4, 5, 6, 7, 8, 9, 10, 11, 12, 13, 14, 15] (fun u => (wX7 cI cZ o q F A : va_W)) rfl rfl (fun _ => rfl) rfl ⟨rfl, rfl⟩ ⟨Nat.le_of_ble_eq_true rfl, Nat.le_of_ble_eq_true rfl⟩ hl.1 rfl (Nat.le_of_ble_eq_true rfl) ⟨Nat.zero_le _, Nat.zero_le _⟩ dX7_isRow_10 (fun r10 u H locs h hP hD hS => ?_)
  refine lv_if_eq (tgt := 32) hx hb dX7_isRow_13 (by decide) (fun c13 => ?_) (fun c13 => ?_)
  · replace h := h.1 c13
    refine lv_iconst (v := 0) hx hb dX7_isRow_32 (by decide) ?_
    exact ret _ () _ _ _ _ dX7_isRow_33 bo_0 h hP hD hS
  · replace h := h.2 c13
    refine lv_iload_n hx hb dX7_isRow_16 rfl (lv_at hl 2 rfl) ?_
    refine lv_i2l (v := (x2).toInt64) hx hb dX7_isRow_17 rfl ?_
    refine lv_lconst (v := 0) hx hb dX7_isRow_18 (by decide) ?_
    refine lv_ldc2 (v := 2) hx hb hown (ht _ mw_42_7) dX7_isRow_19 ?_
    refine C_si (wr := [0, 1, 2, 3, 4, 5, 6, 7, 8, 9, 10, 11, 12, 13, 14, 15].filterMap (fun i => (wX7 cI cZ o q F A : va_W)[i]?)) X hP hD hS [.long (x2).toInt64, .long (0 : Int64), .long (2 : Int64)] [] (w_X7_isIn l D cI cZ cR adK adV _ ((x2).toInt64) (0 : Int64) (2 : Int64) _ h) cal_X7_isIn mw_6_19 rfl [] [0, 1, 2, 3, 4, 5, 6, 7, 8, 9, 10, 11, 12, 13, 14, 15] [0, 1, 2, 3, 4, 5, 6, 7, 8, 9, 10, 11, 12, 13, 14, 15] (fun u => (wX7 cI cZ o q F A : va_W)) rfl rfl (fun _ => rfl) rfl ⟨rfl, rfl⟩ ⟨Nat.le_of_ble_eq_true rfl, Nat.le_of_ble_eq_true rfl⟩ hl.1 rfl (Nat.le_of_ble_eq_true rfl) ⟨Nat.zero_le _, Nat.zero_le _⟩ dX7_isRow_22 (fun r22 u H locs h hP hD hS => ?_)
    refine lv_if_eq (tgt := 32) hx hb dX7_isRow_25 (by decide) (fun c25 => ?_) (fun c25 => ?_)
    · replace h := h.1 c25
      refine lv_iconst (v := 0) hx hb dX7_isRow_32 (by decide) ?_
      exact ret _ () _ _ _ _ dX7_isRow_33 bo_0 h hP hD hS
    · replace h := h.2 c25
      refine lv_iconst (v := 1) hx hb dX7_isRow_28 (by decide) ?_
      refine lv_goto (tgt := 33) hx hb dX7_isRow_29 (by decide) ?_
      exact ret _ () _ _ _ _ dX7_isRow_33 bo_1 h hP hD hS
