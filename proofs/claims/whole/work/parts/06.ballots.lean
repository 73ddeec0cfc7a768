/-! 06.ballots: what the bytecode of these methods asks, and the walks (written by wip/gen/mk.py) -/
theorem dX0_take_0 : decode cX0_take 0 = .ok (.iconst 0, 1) := by decide +kernel
theorem dX0_take_1 : decode cX0_take 1 = .ok (.istore_n 2, 1) := by decide +kernel
theorem dX0_take_2 : decode cX0_take 2 = .ok (.iload_n 2, 1) := by decide +kernel
theorem dX0_take_3 : decode cX0_take 3 = .ok (.aload_n 1, 1) := by decide +kernel
theorem dX0_take_4 : decode cX0_take 4 = .ok (.getfield 24, 3) := by decide +kernel
theorem dX0_take_7 : decode cX0_take 7 = .ok (.if_icmp .ge 31, 3) := by decide +kernel
theorem dX0_take_10 : decode cX0_take 10 = .ok (.aload_n 0, 1) := by decide +kernel
theorem dX0_take_11 : decode cX0_take 11 = .ok (.getfield 9, 3) := by decide +kernel
theorem dX0_take_14 : decode cX0_take 14 = .ok (.iload_n 2, 1) := by decide +kernel
theorem dX0_take_15 : decode cX0_take 15 = .ok (.aload_n 1, 1) := by decide +kernel
theorem dX0_take_16 : decode cX0_take 16 = .ok (.iload_n 2, 1) := by decide +kernel
theorem dX0_take_17 : decode cX0_take 17 = .ok (.invokevirtual 30, 3) := by decide +kernel
theorem dX0_take_20 : decode cX0_take 20 = .ok (.iastore, 1) := by decide +kernel
theorem dX0_take_21 : decode cX0_take 21 = .ok (.aload_n 0, 1) := by decide +kernel
theorem dX0_take_22 : decode cX0_take 22 = .ok (.getfield 15, 3) := by decide +kernel
theorem dX0_take_25 : decode cX0_take 25 = .ok (.iload_n 2, 1) := by decide +kernel
theorem dX0_take_26 : decode cX0_take 26 = .ok (.aload_n 1, 1) := by decide +kernel
theorem dX0_take_27 : decode cX0_take 27 = .ok (.iload_n 2, 1) := by decide +kernel
theorem dX0_take_28 : decode cX0_take 28 = .ok (.invokevirtual 34, 3) := by decide +kernel
theorem dX0_take_31 : decode cX0_take 31 = .ok (.iastore, 1) := by decide +kernel
theorem dX0_take_32 : decode cX0_take 32 = .ok (.iinc 2 1, 3) := by decide +kernel
theorem dX0_take_35 : decode cX0_take 35 = .ok (.goto (-33), 3) := by decide +kernel
theorem dX0_take_38 : decode cX0_take 38 = .ok (.return_, 1) := by decide +kernel
def p_X0_take_L2 (F1 : tF) (A1 : tA) (K : tF → tA → Prop) : Nat → tF → tA → Int32 → Prop
  | 0, _, _, _ => False
  | n2 + 1, F, A, x2 => (((F1 8) ≤ x2 → (K F A)) ∧ (¬ (F1 8) ≤ x2 → (p_X2_voteOf F1 A1 x2 (fun r17 => (vp_in x2 8 ∧ (∀ f_20 : tF, f_20 = (upd (A 0) (x2).toNatClampNeg r17) → (p_X2_weightOf F1 A1 x2 (fun r28 => (vp_in x2 8 ∧ (∀ f_31 : tF, f_31 = (upd (A 1) (x2).toNatClampNeg r28) → (∀ y32 : Int32, y32 = (x2 + (1 : Int32)) → ((p_X0_take_L2 F1 A1 K n2) F (va_up (va_up A 0 f_20) 1 f_31) y32))))))))))))
set_option maxHeartbeats 4000000 in
set_option maxRecDepth 100000 in
theorem b_X0_take_L2 {p : Program} {l : Launch} {e : Env} {s : State} {m : MethodId} {args : Array Value} {below : List Frame} {meth : Method} {c : Code} {Q : State → Prop} {D : va_G} {cI cZ cR : ClassId} {adK adV : Nat → Nat} {A9 : Nat → Prop} {o : Nat} {q : Nat → Nat} {o1 : Nat} {q1 : Nat → Nat} {K : tF → tA → Prop}  (F1 : tF) (A1 : tA) (X : CX p s m args c yX0_take.cls cX0_take 3 D cI cZ cR adK adV A9) (ret : RTv p l e (rmN 3 149) s m args below meth c Q cX0_take D A9 (fun (u : (tF × tA)) => K u.1 u.2) (fun (u : (tF × tA)) => (wX0 cI cZ o q u.1 u.2 ++ wX2 cI cZ o1 q1 F1 A1 : va_W)))   : ∀ (n : Nat) (F : tF) (A : tA) (x2 : Int32) (H : Heap) (locs : List Loc) (ls : Array Slot), p_X0_take_L2 F1 A1 K n F A x2 → va_P D vwCl (wX0 cI cZ o q F A ++ wX2 cI cZ o1 q1 F1 A1 : va_W) H → va_D A9 (wX0 cI cZ o q F A ++ wX2 cI cZ o1 q1 F1 A1 : va_W) → va_S A9 s.heap H locs → lv_has ls 3 [(0, .ref o), (1, .ref o1), (2, .int x2)] → W p l e (rmN 3 149) s m args below meth c H locs 0 0 Q (F0 m 2 ls []) := by
  obtain ⟨hx, hb, hml, ht, hown, hK, hA, hE⟩ := id X
  intro n
  induction n with
  | zero => intro F A x2 H locs ls h; exact False.elim h
  | succ n2 ih =>
    intro F A x2 H locs ls h hP hD hS hl
    rw [p_X0_take_L2] at h
    refine lv_iload_n hx hb dX0_take_2 rfl (lv_at hl 2 rfl) ?_
    refine lv_aload_n hx hb dX0_take_3 rfl (lv_at hl 1 rfl) ?_
    refine va_get (C := RX2) (T := TX2) (N := 13) (own := RX0) (v := .int (F1 8)) hx hb ht inlX2 hown hK hP 5 rfl rfl 8 (Nat.le_of_ble_eq_true rfl) (ht _ mw_32_12) (fun _ h9 => h9) rfl dX0_take_4 ?_
    refine lv_icmp_ge (tgt := 38) hx hb dX0_take_7 (by decide) (fun c7 => ?_) (fun c7 => ?_)
    · replace h := h.1 c7
      exact ret (F, A) _ _ _ _ dX0_take_38 h hP hD hS
    · replace h := h.2 c7
      refine lv_aload_n hx hb dX0_take_10 rfl (lv_at hl 0 rfl) ?_
      refine va_get (C := RX0) (T := TX0) (N := 4) (own := RX0) (v := .ref (q 0)) hx hb ht inlX0 hown hK hP 0 rfl rfl 0 (Nat.le_of_ble_eq_true rfl) (ht _ mw_4_4) (fun _ h9 => h9) rfl dX0_take_11 ?_
      refine lv_iload_n hx hb dX0_take_14 rfl (lv_at hl 2 rfl) ?_
      refine lv_aload_n hx hb dX0_take_15 rfl (lv_at hl 1 rfl) ?_
      refine lv_iload_n hx hb dX0_take_16 rfl (lv_at hl 2 rfl) ?_
      refine C_vi (wr := [0, 1, 2, 3, 4].filterMap (fun i => (wX0 cI cZ o q F A ++ wX2 cI cZ o1 q1 F1 A1 : va_W)[i]?)) X hP hD hS [.int x2] [.int x2, .ref (q 0)] (w_X2_voteOf l D cI cZ cR adK adV _ o1 q1 F1 A1 x2 _ h) cal_X2_voteOf mw_32_13 rfl [5, 6, 7, 8, 9, 10, 11, 12, 13] [0, 1, 2, 3, 4] [0, 1, 2, 3, 4, 5, 6, 7, 8, 9, 10, 11, 12, 13] (fun u => (wX0 cI cZ o q F A ++ wX2 cI cZ o1 q1 F1 A1 : va_W)) rfl rfl (fun _ => rfl) rfl 5 rfl rfl ⟨rfl, rfl⟩ ⟨Nat.le_of_ble_eq_true rfl, Nat.le_of_ble_eq_true rfl⟩ hl.1 rfl (Nat.le_of_ble_eq_true rfl) ⟨Nat.zero_le _, Nat.zero_le _⟩ dX0_take_17 (fun r17 u H locs h hP hD hS => ?_)
      obtain ⟨hi20, h⟩ := h
      obtain ⟨f_20, ef_20⟩ : ∃ z : tF, z = (upd (A 0) (x2).toNatClampNeg r17) := ⟨_, rfl⟩
      replace h := h f_20 ef_20
      refine g_iast (f := (A 0)) (k := (x2).toNatClampNeg) hx hb hK hP hD hS 1 0 rfl rfl hi20 rfl ef_20 dX0_take_20 (fun H locs hP hD hS => ?_)
      have hP : va_P D vwCl (wX0 cI cZ o q F (va_up A 0 f_20) ++ wX2 cI cZ o1 q1 F1 A1 : va_W) H := hP
      have hD : va_D A9 (wX0 cI cZ o q F (va_up A 0 f_20) ++ wX2 cI cZ o1 q1 F1 A1 : va_W) := hD
      refine lv_aload_n hx hb dX0_take_21 rfl (lv_at hl 0 rfl) ?_
      refine va_get (C := RX0) (T := TX0) (N := 4) (own := RX0) (v := .ref (q 1)) hx hb ht inlX0 hown hK hP 0 rfl rfl 1 (Nat.le_of_ble_eq_true rfl) (ht _ mw_4_5) (fun _ h9 => h9) rfl dX0_take_22 ?_
      refine lv_iload_n hx hb dX0_take_25 rfl (lv_at hl 2 rfl) ?_
      refine lv_aload_n hx hb dX0_take_26 rfl (lv_at hl 1 rfl) ?_
      refine lv_iload_n hx hb dX0_take_27 rfl (lv_at hl 2 rfl) ?_
      refine C_vi (wr := [0, 1, 2, 3, 4].filterMap (fun i => (wX0 cI cZ o q F (va_up A 0 f_20) ++ wX2 cI cZ o1 q1 F1 A1 : va_W)[i]?)) X hP hD hS [.int x2] [.int x2, .ref (q 1)] (w_X2_weightOf l D cI cZ cR adK adV _ o1 q1 F1 A1 x2 _ h) cal_X2_weightOf mw_32_14 rfl [5, 6, 7, 8, 9, 10, 11, 12, 13] [0, 1, 2, 3, 4] [0, 1, 2, 3, 4, 5, 6, 7, 8, 9, 10, 11, 12, 13] (fun u => (wX0 cI cZ o q F (va_up A 0 f_20) ++ wX2 cI cZ o1 q1 F1 A1 : va_W)) rfl rfl (fun _ => rfl) rfl 5 rfl rfl ⟨rfl, rfl⟩ ⟨Nat.le_of_ble_eq_true rfl, Nat.le_of_ble_eq_true rfl⟩ hl.1 rfl (Nat.le_of_ble_eq_true rfl) ⟨Nat.zero_le _, Nat.zero_le _⟩ dX0_take_28 (fun r28 u H locs h hP hD hS => ?_)
      obtain ⟨hi31, h⟩ := h
      obtain ⟨f_31, ef_31⟩ : ∃ z : tF, z = (upd (A 1) (x2).toNatClampNeg r28) := ⟨_, rfl⟩
      replace h := h f_31 ef_31
      refine g_iast (f := (A 1)) (k := (x2).toNatClampNeg) hx hb hK hP hD hS 2 0 rfl rfl hi31 rfl ef_31 dX0_take_31 (fun H locs hP hD hS => ?_)
      have hP : va_P D vwCl (wX0 cI cZ o q F (va_up (va_up A 0 f_20) 1 f_31) ++ wX2 cI cZ o1 q1 F1 A1 : va_W) H := hP
      have hD : va_D A9 (wX0 cI cZ o q F (va_up (va_up A 0 f_20) 1 f_31) ++ wX2 cI cZ o1 q1 F1 A1 : va_W) := hD
      obtain ⟨y32, ey32⟩ : ∃ y : Int32, y = (x2 + (1 : Int32)) := ⟨_, rfl⟩
      replace h := h y32 ey32
      refine lv_iinc (v := y32) (lv' := [(2, .int y32), (0, .ref o), (1, .ref o1)]) hx hb dX0_take_32 hl (k := 2) rfl (by rw [ey32]; rfl) (by decide) rfl (fun ls hl => ?_)
      refine lv_goto (tgt := 2) hx hb dX0_take_35 (by decide) ?_
      exact ih F (va_up (va_up A 0 f_20) 1 f_31) y32 _ _ _ h hP hD hS (lv_sub hl [1, 2, 0] rfl)
def p_X0_take (F : tF) (A : tA) (F1 : tF) (A1 : tA) (K : tF → tA → Prop) : Prop := (∃ n2, p_X0_take_L2 F1 A1 K n2 F A (0 : Int32))
set_option maxHeartbeats 4000000 in
set_option maxRecDepth 100000 in
theorem w_X0_take (l : Launch) (D : va_G) (cI cZ cR : ClassId) (adK adV : Nat → Nat) (sz : Nat) (o : Nat) (q : Nat → Nat) (o1 : Nat) (q1 : Nat → Nat) (F : tF) (A : tA) (F1 : tF) (A1 : tA) (K : tF → tA → Prop) (h : p_X0_take F A F1 A1 K) : MV l D cI cZ cR adK adV yX0_take cX0_take 3 none (rmN 3 149) [.ref o, .ref o1] (wX0 cI cZ o q F A ++ wX2 cI cZ o1 q1 F1 A1 : va_W) sz (fun (u : (tF × tA)) => K u.1 u.2) (fun (u : (tF × tA)) => (wX0 cI cZ o q u.1 u.2 ++ wX2 cI cZ o1 q1 F1 A1 : va_W)) := by
  refine M_v (by decide +kernel) (Nat.le_of_ble_eq_true rfl) ?_
  intro p e s m args below meth c Q A9 ls X ret hP hD hS hl
  obtain ⟨hx, hb, hml, ht, hown, hK, hA, hE⟩ := id X
  have hl : lv_has ls 3 [(0, .ref o), (1, .ref o1)] := hl
  unfold p_X0_take at h
  refine lv_iconst (v := 0) hx hb dX0_take_0 (by decide) ?_
  refine lv_istore_n (lv' := [(2, .int (0 : Int32)), (0, .ref o), (1, .ref o1)]) hx hb dX0_take_1 rfl hl (by decide) rfl (fun ls hl => ?_)
  obtain ⟨n2, h⟩ := h
  exact b_X0_take_L2 F1 A1 X ret  n2 F A (0 : Int32) _ _ _ h hP hD hS (lv_sub hl [1, 2, 0] rfl)
theorem dX0_favouriteWith_0 : decode cX0_favouriteWith 0 = .ok (.aload_n 1, 1) := by decide +kernel
theorem dX0_favouriteWith_1 : decode cX0_favouriteWith 1 = .ok (.invokevirtual 37, 3) := by decide +kernel
theorem dX0_favouriteWith_4 : decode cX0_favouriteWith 4 = .ok (.iconst 0, 1) := by decide +kernel
theorem dX0_favouriteWith_5 : decode cX0_favouriteWith 5 = .ok (.istore_n 3, 1) := by decide +kernel
theorem dX0_favouriteWith_6 : decode cX0_favouriteWith 6 = .ok (.iload_n 3, 1) := by decide +kernel
theorem dX0_favouriteWith_7 : decode cX0_favouriteWith 7 = .ok (.aload_n 1, 1) := by decide +kernel
theorem dX0_favouriteWith_8 : decode cX0_favouriteWith 8 = .ok (.getfield 24, 3) := by decide +kernel
theorem dX0_favouriteWith_11 : decode cX0_favouriteWith 11 = .ok (.if_icmp .ge 60, 3) := by decide +kernel
theorem dX0_favouriteWith_14 : decode cX0_favouriteWith 14 = .ok (.iload_n 2, 1) := by decide +kernel
theorem dX0_favouriteWith_15 : decode cX0_favouriteWith 15 = .ok (.iload_n 3, 1) := by decide +kernel
theorem dX0_favouriteWith_16 : decode cX0_favouriteWith 16 = .ok (.ishr, 1) := by decide +kernel
theorem dX0_favouriteWith_17 : decode cX0_favouriteWith 17 = .ok (.iconst 1, 1) := by decide +kernel
theorem dX0_favouriteWith_18 : decode cX0_favouriteWith 18 = .ok (.iand, 1) := by decide +kernel
theorem dX0_favouriteWith_19 : decode cX0_favouriteWith 19 = .ok (.ifCond .ne 26, 3) := by decide +kernel
theorem dX0_favouriteWith_22 : decode cX0_favouriteWith 22 = .ok (.aload_n 1, 1) := by decide +kernel
theorem dX0_favouriteWith_23 : decode cX0_favouriteWith 23 = .ok (.getfield 40, 3) := by decide +kernel
theorem dX0_favouriteWith_26 : decode cX0_favouriteWith 26 = .ok (.aload_n 0, 1) := by decide +kernel
theorem dX0_favouriteWith_27 : decode cX0_favouriteWith 27 = .ok (.getfield 9, 3) := by decide +kernel
theorem dX0_favouriteWith_30 : decode cX0_favouriteWith 30 = .ok (.iload_n 3, 1) := by decide +kernel
theorem dX0_favouriteWith_31 : decode cX0_favouriteWith 31 = .ok (.iaload, 1) := by decide +kernel
theorem dX0_favouriteWith_32 : decode cX0_favouriteWith 32 = .ok (.dup2, 1) := by decide +kernel
theorem dX0_favouriteWith_33 : decode cX0_favouriteWith 33 = .ok (.iaload, 1) := by decide +kernel
theorem dX0_favouriteWith_34 : decode cX0_favouriteWith 34 = .ok (.aload_n 0, 1) := by decide +kernel
theorem dX0_favouriteWith_35 : decode cX0_favouriteWith 35 = .ok (.getfield 15, 3) := by decide +kernel
theorem dX0_favouriteWith_38 : decode cX0_favouriteWith 38 = .ok (.iload_n 3, 1) := by decide +kernel
theorem dX0_favouriteWith_39 : decode cX0_favouriteWith 39 = .ok (.iaload, 1) := by decide +kernel
theorem dX0_favouriteWith_40 : decode cX0_favouriteWith 40 = .ok (.iadd, 1) := by decide +kernel
theorem dX0_favouriteWith_41 : decode cX0_favouriteWith 41 = .ok (.iastore, 1) := by decide +kernel
theorem dX0_favouriteWith_42 : decode cX0_favouriteWith 42 = .ok (.goto 23, 3) := by decide +kernel
theorem dX0_favouriteWith_45 : decode cX0_favouriteWith 45 = .ok (.aload_n 1, 1) := by decide +kernel
theorem dX0_favouriteWith_46 : decode cX0_favouriteWith 46 = .ok (.getfield 40, 3) := by decide +kernel
theorem dX0_favouriteWith_49 : decode cX0_favouriteWith 49 = .ok (.aload_n 0, 1) := by decide +kernel
theorem dX0_favouriteWith_50 : decode cX0_favouriteWith 50 = .ok (.getfield 18, 3) := by decide +kernel
theorem dX0_favouriteWith_53 : decode cX0_favouriteWith 53 = .ok (.iload_n 3, 1) := by decide +kernel
theorem dX0_favouriteWith_54 : decode cX0_favouriteWith 54 = .ok (.iaload, 1) := by decide +kernel
theorem dX0_favouriteWith_55 : decode cX0_favouriteWith 55 = .ok (.dup2, 1) := by decide +kernel
theorem dX0_favouriteWith_56 : decode cX0_favouriteWith 56 = .ok (.iaload, 1) := by decide +kernel
theorem dX0_favouriteWith_57 : decode cX0_favouriteWith 57 = .ok (.aload_n 0, 1) := by decide +kernel
theorem dX0_favouriteWith_58 : decode cX0_favouriteWith 58 = .ok (.getfield 21, 3) := by decide +kernel
theorem dX0_favouriteWith_61 : decode cX0_favouriteWith 61 = .ok (.iload_n 3, 1) := by decide +kernel
theorem dX0_favouriteWith_62 : decode cX0_favouriteWith 62 = .ok (.iaload, 1) := by decide +kernel
theorem dX0_favouriteWith_63 : decode cX0_favouriteWith 63 = .ok (.iadd, 1) := by decide +kernel
theorem dX0_favouriteWith_64 : decode cX0_favouriteWith 64 = .ok (.iastore, 1) := by decide +kernel
theorem dX0_favouriteWith_65 : decode cX0_favouriteWith 65 = .ok (.iinc 3 1, 3) := by decide +kernel
theorem dX0_favouriteWith_68 : decode cX0_favouriteWith 68 = .ok (.goto (-62), 3) := by decide +kernel
theorem dX0_favouriteWith_71 : decode cX0_favouriteWith 71 = .ok (.aload_n 1, 1) := by decide +kernel
theorem dX0_favouriteWith_72 : decode cX0_favouriteWith 72 = .ok (.invokevirtual 43, 3) := by decide +kernel
theorem dX0_favouriteWith_75 : decode cX0_favouriteWith 75 = .ok (.ireturn, 1) := by decide +kernel
def p_X0_favouriteWith_J65 (F : tF) (A : tA) (F1 : tF) (A1 : tA) (B6 : (tF → tA → Int32 → Prop)) (K : Int32 → tF → tA → Prop) (x2 : Int32) (x3 : Int32) : Prop := (∀ y65 : Int32, y65 = (x3 + (1 : Int32)) → (B6 F1 A1 y65))
set_option maxHeartbeats 4000000 in
set_option maxRecDepth 100000 in
theorem b_X0_favouriteWith_J65 {p : Program} {l : Launch} {e : Env} {s : State} {m : MethodId} {args : Array Value} {below : List Frame} {meth : Method} {c : Code} {Q : State → Prop} {D : va_G} {cI cZ cR : ClassId} {adK adV : Nat → Nat} {A9 : Nat → Prop} {o : Nat} {q : Nat → Nat} {o1 : Nat} {q1 : Nat → Nat} {K : Int32 → tF → tA → Prop} {B6 : (tF → tA → Int32 → Prop)} (F : tF) (A : tA) (F1 : tF) (A1 : tA) (x2 : Int32) (x3 : Int32) (X : CX p s m args c yX0_favouriteWith.cls cX0_favouriteWith 4 D cI cZ cR adK adV A9) (ret : RTi p l e (rmN 2 123) s m args below meth c Q cX0_favouriteWith D A9 (fun (r : Int32) (u : (tF × tA)) => K r u.1 u.2) (fun (u : (tF × tA)) => (wX0 cI cZ o q F A ++ wX2 cI cZ o1 q1 u.1 u.2 : va_W))) (hB6 : ∀ (F1 : tF) (A1 : tA) (x3 : Int32) (H : Heap) (locs : List Loc) (ls : Array Slot), B6 F1 A1 x3 → va_P D vwCl (wX0 cI cZ o q F A ++ wX2 cI cZ o1 q1 F1 A1 : va_W) H → va_D A9 (wX0 cI cZ o q F A ++ wX2 cI cZ o1 q1 F1 A1 : va_W) → va_S A9 s.heap H locs → lv_has ls 4 [(0, .ref o), (1, .ref o1), (2, .int x2), (3, .int x3)] → W p l e (rmN 2 123) s m args below meth c H locs 0 0 Q (F0 m 6 ls [])) (H : Heap) (locs : List Loc) (ls : Array Slot) (h : p_X0_favouriteWith_J65 F A F1 A1 B6 K x2 x3) (hP : va_P D vwCl (wX0 cI cZ o q F A ++ wX2 cI cZ o1 q1 F1 A1 : va_W) H) (hD : va_D A9 (wX0 cI cZ o q F A ++ wX2 cI cZ o1 q1 F1 A1 : va_W)) (hS : va_S A9 s.heap H locs) (hl : lv_has ls 4 [(0, .ref o), (1, .ref o1), (2, .int x2), (3, .int x3)]) : W p l e (rmN 2 123) s m args below meth c H locs 0 0 Q (F0 m 65 ls []) := by
  obtain ⟨hx, hb, hml, ht, hown, hK, hA, hE⟩ := id X
  unfold p_X0_favouriteWith_J65 at h
  obtain ⟨y65, ey65⟩ : ∃ y : Int32, y = (x3 + (1 : Int32)) := ⟨_, rfl⟩
  replace h := h y65 ey65
  refine lv_iinc (v := y65) (lv' := [(3, .int y65), (0, .ref o), (1, .ref o1), (2, .int x2)]) hx hb dX0_favouriteWith_65 hl (k := 3) rfl (by rw [ey65]; rfl) (by decide) rfl (fun ls hl => ?_)
  refine lv_goto (tgt := 6) hx hb dX0_favouriteWith_68 (by decide) ?_
  exact hB6 F1 A1 y65 _ _ _ h hP hD hS (lv_sub hl [1, 2, 3, 0] rfl)
def p_X0_favouriteWith_L6 (F : tF) (A : tA) (x2 : Int32) (K : Int32 → tF → tA → Prop) : Nat → tF → tA → Int32 → Prop
  | 0, _, _, _ => False
  | n6 + 1, F1, A1, x3 => (((F1 8) ≤ x3 → (p_X2_favouriteOfTally F1 A1 (fun r72 => (K r72 F1 A1)))) ∧ (¬ (F1 8) ≤ x3 → ((¬ ((x2 >>> (x3 &&& 31)) &&& (1 : Int32)) = 0 → (vp_in x3 8 ∧ (vp_in ((A 2) (x3).toNatClampNeg) 6 ∧ (vp_in x3 8 ∧ (vp_in ((A 2) (x3).toNatClampNeg) 6 ∧ (∀ f_64 : tF, f_64 = (upd (A1 7) (((A 2) (x3).toNatClampNeg)).toNatClampNeg (((A1 7) (((A 2) (x3).toNatClampNeg)).toNatClampNeg) + ((A 3) (x3).toNatClampNeg))) → (p_X0_favouriteWith_J65 F A F1 (va_up A1 7 f_64) (p_X0_favouriteWith_L6 F A x2 K n6) K x2 x3))))))) ∧ (((x2 >>> (x3 &&& 31)) &&& (1 : Int32)) = 0 → (vp_in x3 8 ∧ (vp_in ((A 0) (x3).toNatClampNeg) 6 ∧ (vp_in x3 8 ∧ (vp_in ((A 0) (x3).toNatClampNeg) 6 ∧ (∀ f_41 : tF, f_41 = (upd (A1 7) (((A 0) (x3).toNatClampNeg)).toNatClampNeg (((A1 7) (((A 0) (x3).toNatClampNeg)).toNatClampNeg) + ((A 1) (x3).toNatClampNeg))) → (p_X0_favouriteWith_J65 F A F1 (va_up A1 7 f_41) (p_X0_favouriteWith_L6 F A x2 K n6) K x2 x3))))))))))
set_option maxHeartbeats 4000000 in
set_option maxRecDepth 100000 in
theorem b_X0_favouriteWith_L6 {p : Program} {l : Launch} {e : Env} {s : State} {m : MethodId} {args : Array Value} {below : List Frame} {meth : Method} {c : Code} {Q : State → Prop} {D : va_G} {cI cZ cR : ClassId} {adK adV : Nat → Nat} {A9 : Nat → Prop} {o : Nat} {q : Nat → Nat} {o1 : Nat} {q1 : Nat → Nat} {K : Int32 → tF → tA → Prop}  (F : tF) (A : tA) (x2 : Int32) (X : CX p s m args c yX0_favouriteWith.cls cX0_favouriteWith 4 D cI cZ cR adK adV A9) (ret : RTi p l e (rmN 2 123) s m args below meth c Q cX0_favouriteWith D A9 (fun (r : Int32) (u : (tF × tA)) => K r u.1 u.2) (fun (u : (tF × tA)) => (wX0 cI cZ o q F A ++ wX2 cI cZ o1 q1 u.1 u.2 : va_W)))   : ∀ (n : Nat) (F1 : tF) (A1 : tA) (x3 : Int32) (H : Heap) (locs : List Loc) (ls : Array Slot), p_X0_favouriteWith_L6 F A x2 K n F1 A1 x3 → va_P D vwCl (wX0 cI cZ o q F A ++ wX2 cI cZ o1 q1 F1 A1 : va_W) H → va_D A9 (wX0 cI cZ o q F A ++ wX2 cI cZ o1 q1 F1 A1 : va_W) → va_S A9 s.heap H locs → lv_has ls 4 [(0, .ref o), (1, .ref o1), (2, .int x2), (3, .int x3)] → W p l e (rmN 2 123) s m args below meth c H locs 0 0 Q (F0 m 6 ls []) := by
  obtain ⟨hx, hb, hml, ht, hown, hK, hA, hE⟩ := id X
  intro n
  induction n with
  | zero => intro F1 A1 x3 H locs ls h; exact False.elim h
  | succ n6 ih =>
    intro F1 A1 x3 H locs ls h hP hD hS hl
    rw [p_X0_favouriteWith_L6] at h
    refine lv_iload_n hx hb dX0_favouriteWith_6 rfl (lv_at hl 3 rfl) ?_
    refine lv_aload_n hx hb dX0_favouriteWith_7 rfl (lv_at hl 1 rfl) ?_
    refine va_get (C := RX2) (T := TX2) (N := 13) (own := RX0) (v := .int (F1 8)) hx hb ht inlX2 hown hK hP 5 rfl rfl 8 (Nat.le_of_ble_eq_true rfl) (ht _ mw_32_12) (fun _ h9 => h9) rfl dX0_favouriteWith_8 ?_
    refine lv_icmp_ge (tgt := 71) hx hb dX0_favouriteWith_11 (by decide) (fun c11 => ?_) (fun c11 => ?_)
    · replace h := h.1 c11
      refine lv_aload_n hx hb dX0_favouriteWith_71 rfl (lv_at hl 1 rfl) ?_
      refine C_vi (wr := [0, 1, 2, 3, 4].filterMap (fun i => (wX0 cI cZ o q F A ++ wX2 cI cZ o1 q1 F1 A1 : va_W)[i]?)) X hP hD hS [] [] (w_X2_favouriteOfTally l D cI cZ cR adK adV _ o1 q1 F1 A1 _ h) cal_X2_favouriteOfTally mw_33_8 rfl [5, 6, 7, 8, 9, 10, 11, 12, 13] [0, 1, 2, 3, 4] [0, 1, 2, 3, 4, 5, 6, 7, 8, 9, 10, 11, 12, 13] (fun u => (wX0 cI cZ o q F A ++ wX2 cI cZ o1 q1 F1 A1 : va_W)) rfl rfl (fun _ => rfl) rfl 5 rfl rfl ⟨rfl, rfl⟩ ⟨Nat.le_of_ble_eq_true rfl, Nat.le_of_ble_eq_true rfl⟩ hl.1 rfl (Nat.le_of_ble_eq_true rfl) ⟨Nat.zero_le _, Nat.zero_le _⟩ dX0_favouriteWith_72 (fun r72 u H locs h hP hD hS => ?_)
      exact ret _ (F1, A1) _ _ _ _ dX0_favouriteWith_75 h hP hD hS
    · replace h := h.2 c11
      refine lv_iload_n hx hb dX0_favouriteWith_14 rfl (lv_at hl 2 rfl) ?_
      refine lv_iload_n hx hb dX0_favouriteWith_15 rfl (lv_at hl 3 rfl) ?_
      refine lv_ishr hx hb dX0_favouriteWith_16 ?_
      refine lv_iconst (v := 1) hx hb dX0_favouriteWith_17 (by decide) ?_
      refine lv_iand hx hb dX0_favouriteWith_18 ?_
      refine lv_if_ne (tgt := 45) hx hb dX0_favouriteWith_19 (by decide) (fun c19 => ?_) (fun c19 => ?_)
      · replace h := h.1 c19
        refine lv_aload_n hx hb dX0_favouriteWith_45 rfl (lv_at hl 1 rfl) ?_
        refine va_get (C := RX2) (T := TX2) (N := 13) (own := RX0) (v := .ref (q1 7)) hx hb ht inlX2 hown hK hP 5 rfl rfl 7 (Nat.le_of_ble_eq_true rfl) (ht _ mw_33_6) (fun _ h9 => h9) rfl dX0_favouriteWith_46 ?_
        refine lv_aload_n hx hb dX0_favouriteWith_49 rfl (lv_at hl 0 rfl) ?_
        refine va_get (C := RX0) (T := TX0) (N := 4) (own := RX0) (v := .ref (q 2)) hx hb ht inlX0 hown hK hP 0 rfl rfl 2 (Nat.le_of_ble_eq_true rfl) (ht _ mw_4_6) (fun _ h9 => h9) rfl dX0_favouriteWith_50 ?_
        refine lv_iload_n hx hb dX0_favouriteWith_53 rfl (lv_at hl 3 rfl) ?_
        obtain ⟨hi54, h⟩ := h
        refine g_iald (f := (A 2)) (k := (x3).toNatClampNeg) hx hb hK hP 3 0 rfl rfl hi54 rfl dX0_favouriteWith_54 ?_
        refine lv_dup2_11 hx hb dX0_favouriteWith_55 rfl rfl ?_
        obtain ⟨hi56, h⟩ := h
        refine g_iald (f := (A1 7)) (k := (((A 2) (x3).toNatClampNeg)).toNatClampNeg) hx hb hK hP 13 0 rfl rfl hi56 rfl dX0_favouriteWith_56 ?_
        refine lv_aload_n hx hb dX0_favouriteWith_57 rfl (lv_at hl 0 rfl) ?_
        refine va_get (C := RX0) (T := TX0) (N := 4) (own := RX0) (v := .ref (q 3)) hx hb ht inlX0 hown hK hP 0 rfl rfl 3 (Nat.le_of_ble_eq_true rfl) (ht _ mw_4_7) (fun _ h9 => h9) rfl dX0_favouriteWith_58 ?_
        refine lv_iload_n hx hb dX0_favouriteWith_61 rfl (lv_at hl 3 rfl) ?_
        obtain ⟨hi62, h⟩ := h
        refine g_iald (f := (A 3)) (k := (x3).toNatClampNeg) hx hb hK hP 4 0 rfl rfl hi62 rfl dX0_favouriteWith_62 ?_
        refine lv_iadd hx hb dX0_favouriteWith_63 ?_
        obtain ⟨hi64, h⟩ := h
        obtain ⟨f_64, ef_64⟩ : ∃ z : tF, z = (upd (A1 7) (((A 2) (x3).toNatClampNeg)).toNatClampNeg (((A1 7) (((A 2) (x3).toNatClampNeg)).toNatClampNeg) + ((A 3) (x3).toNatClampNeg))) := ⟨_, rfl⟩
        replace h := h f_64 ef_64
        refine g_iast (f := (A1 7)) (k := (((A 2) (x3).toNatClampNeg)).toNatClampNeg) hx hb hK hP hD hS 13 0 rfl rfl hi64 rfl ef_64 dX0_favouriteWith_64 (fun H locs hP hD hS => ?_)
        have hP : va_P D vwCl (wX0 cI cZ o q F A ++ wX2 cI cZ o1 q1 F1 (va_up A1 7 f_64) : va_W) H := hP
        have hD : va_D A9 (wX0 cI cZ o q F A ++ wX2 cI cZ o1 q1 F1 (va_up A1 7 f_64) : va_W) := hD
        exact b_X0_favouriteWith_J65 F A F1 (va_up A1 7 f_64) x2 x3 X ret ih _ _ _ h hP hD hS (lv_sub hl [0, 1, 2, 3] rfl)
      · replace h := h.2 c19
        refine lv_aload_n hx hb dX0_favouriteWith_22 rfl (lv_at hl 1 rfl) ?_
        refine va_get (C := RX2) (T := TX2) (N := 13) (own := RX0) (v := .ref (q1 7)) hx hb ht inlX2 hown hK hP 5 rfl rfl 7 (Nat.le_of_ble_eq_true rfl) (ht _ mw_33_6) (fun _ h9 => h9) rfl dX0_favouriteWith_23 ?_
        refine lv_aload_n hx hb dX0_favouriteWith_26 rfl (lv_at hl 0 rfl) ?_
        refine va_get (C := RX0) (T := TX0) (N := 4) (own := RX0) (v := .ref (q 0)) hx hb ht inlX0 hown hK hP 0 rfl rfl 0 (Nat.le_of_ble_eq_true rfl) (ht _ mw_4_4) (fun _ h9 => h9) rfl dX0_favouriteWith_27 ?_
        refine lv_iload_n hx hb dX0_favouriteWith_30 rfl (lv_at hl 3 rfl) ?_
        obtain ⟨hi31, h⟩ := h
        refine g_iald (f := (A 0)) (k := (x3).toNatClampNeg) hx hb hK hP 1 0 rfl rfl hi31 rfl dX0_favouriteWith_31 ?_
        refine lv_dup2_11 hx hb dX0_favouriteWith_32 rfl rfl ?_
        obtain ⟨hi33, h⟩ := h
        refine g_iald (f := (A1 7)) (k := (((A 0) (x3).toNatClampNeg)).toNatClampNeg) hx hb hK hP 13 0 rfl rfl hi33 rfl dX0_favouriteWith_33 ?_
        refine lv_aload_n hx hb dX0_favouriteWith_34 rfl (lv_at hl 0 rfl) ?_
        refine va_get (C := RX0) (T := TX0) (N := 4) (own := RX0) (v := .ref (q 1)) hx hb ht inlX0 hown hK hP 0 rfl rfl 1 (Nat.le_of_ble_eq_true rfl) (ht _ mw_4_5) (fun _ h9 => h9) rfl dX0_favouriteWith_35 ?_
        refine lv_iload_n hx hb dX0_favouriteWith_38 rfl (lv_at hl 3 rfl) ?_
        obtain ⟨hi39, h⟩ := h
        refine g_iald (f := (A 1)) (k := (x3).toNatClampNeg) hx hb hK hP 2 0 rfl rfl hi39 rfl dX0_favouriteWith_39 ?_
        refine lv_iadd hx hb dX0_favouriteWith_40 ?_
        obtain ⟨hi41, h⟩ := h
        obtain ⟨f_41, ef_41⟩ : ∃ z : tF, z = (upd (A1 7) (((A 0) (x3).toNatClampNeg)).toNatClampNeg (((A1 7) (((A 0) (x3).toNatClampNeg)).toNatClampNeg) + ((A 1) (x3).toNatClampNeg))) := ⟨_, rfl⟩
        replace h := h f_41 ef_41
        refine g_iast (f := (A1 7)) (k := (((A 0) (x3).toNatClampNeg)).toNatClampNeg) hx hb hK hP hD hS 13 0 rfl rfl hi41 rfl ef_41 dX0_favouriteWith_41 (fun H locs hP hD hS => ?_)
        have hP : va_P D vwCl (wX0 cI cZ o q F A ++ wX2 cI cZ o1 q1 F1 (va_up A1 7 f_41) : va_W) H := hP
        have hD : va_D A9 (wX0 cI cZ o q F A ++ wX2 cI cZ o1 q1 F1 (va_up A1 7 f_41) : va_W) := hD
        refine lv_goto (tgt := 65) hx hb dX0_favouriteWith_42 (by decide) ?_
        exact b_X0_favouriteWith_J65 F A F1 (va_up A1 7 f_41) x2 x3 X ret ih _ _ _ h hP hD hS (lv_sub hl [0, 1, 2, 3] rfl)
def p_X0_favouriteWith (F : tF) (A : tA) (F1 : tF) (A1 : tA) (x2 : Int32) (K : Int32 → tF → tA → Prop) : Prop := (p_X2_startTally F1 A1 (fun F1_1 A1_1 => (∃ n6, p_X0_favouriteWith_L6 F A x2 K n6 F1_1 A1_1 (0 : Int32))))
set_option maxHeartbeats 4000000 in
set_option maxRecDepth 100000 in
theorem w_X0_favouriteWith (l : Launch) (D : va_G) (cI cZ cR : ClassId) (adK adV : Nat → Nat) (sz : Nat) (o : Nat) (q : Nat → Nat) (o1 : Nat) (q1 : Nat → Nat) (F : tF) (A : tA) (F1 : tF) (A1 : tA) (x2 : Int32) (K : Int32 → tF → tA → Prop) (h : p_X0_favouriteWith F A F1 A1 x2 K) : MI l D cI cZ cR adK adV yX0_favouriteWith cX0_favouriteWith 4 (some .int) (rmN 2 123) [.ref o, .ref o1, .int x2] (wX0 cI cZ o q F A ++ wX2 cI cZ o1 q1 F1 A1 : va_W) sz (fun (r : Int32) (u : (tF × tA)) => K r u.1 u.2) (fun (u : (tF × tA)) => (wX0 cI cZ o q F A ++ wX2 cI cZ o1 q1 u.1 u.2 : va_W)) := by
  refine M_i (by decide +kernel) (Nat.le_of_ble_eq_true rfl) ?_
  intro p e s m args below meth c Q A9 ls X ret hP hD hS hl
  obtain ⟨hx, hb, hml, ht, hown, hK, hA, hE⟩ := id X
  have hl : lv_has ls 4 [(0, .ref o), (1, .ref o1), (2, .int x2)] := hl
  unfold p_X0_favouriteWith at h
  refine lv_aload_n hx hb dX0_favouriteWith_0 rfl (lv_at hl 1 rfl) ?_
  refine C_vv (wr := [0, 1, 2, 3, 4].filterMap (fun i => (wX0 cI cZ o q F A ++ wX2 cI cZ o1 q1 F1 A1 : va_W)[i]?)) X hP hD hS [] [] (w_X2_startTally l D cI cZ cR adK adV _ o1 q1 F1 A1 _ h) cal_X2_startTally mw_33_7 rfl [5, 6, 7, 8, 9, 10, 11, 12, 13] [0, 1, 2, 3, 4] [0, 1, 2, 3, 4, 5, 6, 7, 8, 9, 10, 11, 12, 13] (fun u => (wX0 cI cZ o q F A ++ wX2 cI cZ o1 q1 u.1 u.2 : va_W)) rfl rfl (fun _ => rfl) rfl 5 rfl rfl ⟨rfl, rfl⟩ ⟨Nat.le_of_ble_eq_true rfl, Nat.le_of_ble_eq_true rfl⟩ hl.1 rfl (Nat.le_of_ble_eq_true rfl) ⟨Nat.zero_le _, Nat.zero_le _⟩ dX0_favouriteWith_1 (fun u H locs h hP hD hS => ?_)
  obtain ⟨F1_1, A1_1⟩ := u
  try dsimp only at h
  have hP : va_P D vwCl (wX0 cI cZ o q F A ++ wX2 cI cZ o1 q1 F1_1 A1_1 : va_W) H := hP
  have hD : va_D A9 (wX0 cI cZ o q F A ++ wX2 cI cZ o1 q1 F1_1 A1_1 : va_W) := hD
  refine lv_iconst (v := 0) hx hb dX0_favouriteWith_4 (by decide) ?_
  refine lv_istore_n (lv' := [(3, .int (0 : Int32)), (0, .ref o), (1, .ref o1), (2, .int x2)]) hx hb dX0_favouriteWith_5 rfl hl (by decide) rfl (fun ls hl => ?_)
  obtain ⟨n6, h⟩ := h
  exact b_X0_favouriteWith_L6 F A x2 X ret  n6 F1_1 A1_1 (0 : Int32) _ _ _ h hP hD hS (lv_sub hl [1, 2, 3, 0] rfl)
theorem cal_J6_bitCount_0f7a4 : CalS yJ6_bitCount_0f7a4 cJ6_bitCount_0f7a4 1 (some .int) 1 := ⟨mw_32_22, mw_32_21, mw_32_20, ⟨by decide +kernel, by decide +kernel, by decide +kernel⟩⟩
theorem cal_X0_favouriteWith : CalV yX0_favouriteWith cX0_favouriteWith 4 (some .int) 2 := ⟨mw_33_5, mw_2_2, mw_33_3, mw_33_4, ⟨by decide +kernel, by decide +kernel, by decide +kernel⟩⟩
theorem dX0_fewestFor_0 : decode cX0_fewestFor 0 = .ok (.bipush (-3), 2) := by decide +kernel
theorem dX0_fewestFor_2 : decode cX0_fewestFor 2 = .ok (.istore_n 3, 1) := by decide +kernel
theorem dX0_fewestFor_3 : decode cX0_fewestFor 3 = .ok (.bipush 9, 2) := by decide +kernel
theorem dX0_fewestFor_5 : decode cX0_fewestFor 5 = .ok (.istore 4, 2) := by decide +kernel
theorem dX0_fewestFor_7 : decode cX0_fewestFor 7 = .ok (.iconst 0, 1) := by decide +kernel
theorem dX0_fewestFor_8 : decode cX0_fewestFor 8 = .ok (.istore 5, 2) := by decide +kernel
theorem dX0_fewestFor_10 : decode cX0_fewestFor 10 = .ok (.iload 5, 2) := by decide +kernel
theorem dX0_fewestFor_12 : decode cX0_fewestFor 12 = .ok (.iconst 1, 1) := by decide +kernel
theorem dX0_fewestFor_13 : decode cX0_fewestFor 13 = .ok (.aload_n 1, 1) := by decide +kernel
theorem dX0_fewestFor_14 : decode cX0_fewestFor 14 = .ok (.getfield 24, 3) := by decide +kernel
theorem dX0_fewestFor_17 : decode cX0_fewestFor 17 = .ok (.ishl, 1) := by decide +kernel
theorem dX0_fewestFor_18 : decode cX0_fewestFor 18 = .ok (.if_icmp .ge 41, 3) := by decide +kernel
theorem dX0_fewestFor_21 : decode cX0_fewestFor 21 = .ok (.iload 5, 2) := by decide +kernel
theorem dX0_fewestFor_23 : decode cX0_fewestFor 23 = .ok (.invokestatic 47, 3) := by decide +kernel
theorem dX0_fewestFor_26 : decode cX0_fewestFor 26 = .ok (.istore 6, 2) := by decide +kernel
theorem dX0_fewestFor_28 : decode cX0_fewestFor 28 = .ok (.iload 6, 2) := by decide +kernel
theorem dX0_fewestFor_30 : decode cX0_fewestFor 30 = .ok (.iload 4, 2) := by decide +kernel
theorem dX0_fewestFor_32 : decode cX0_fewestFor 32 = .ok (.if_icmp .ge 21, 3) := by decide +kernel
theorem dX0_fewestFor_35 : decode cX0_fewestFor 35 = .ok (.aload_n 0, 1) := by decide +kernel
theorem dX0_fewestFor_36 : decode cX0_fewestFor 36 = .ok (.aload_n 1, 1) := by decide +kernel
theorem dX0_fewestFor_37 : decode cX0_fewestFor 37 = .ok (.iload 5, 2) := by decide +kernel
theorem dX0_fewestFor_39 : decode cX0_fewestFor 39 = .ok (.invokevirtual 52, 3) := by decide +kernel
theorem dX0_fewestFor_42 : decode cX0_fewestFor 42 = .ok (.iload_n 2, 1) := by decide +kernel
theorem dX0_fewestFor_43 : decode cX0_fewestFor 43 = .ok (.if_icmp .ne 10, 3) := by decide +kernel
theorem dX0_fewestFor_46 : decode cX0_fewestFor 46 = .ok (.iload 6, 2) := by decide +kernel
theorem dX0_fewestFor_48 : decode cX0_fewestFor 48 = .ok (.istore 4, 2) := by decide +kernel
theorem dX0_fewestFor_50 : decode cX0_fewestFor 50 = .ok (.iload 5, 2) := by decide +kernel
theorem dX0_fewestFor_52 : decode cX0_fewestFor 52 = .ok (.istore_n 3, 1) := by decide +kernel
theorem dX0_fewestFor_53 : decode cX0_fewestFor 53 = .ok (.iinc 5 1, 3) := by decide +kernel
theorem dX0_fewestFor_56 : decode cX0_fewestFor 56 = .ok (.goto (-46), 3) := by decide +kernel
theorem dX0_fewestFor_59 : decode cX0_fewestFor 59 = .ok (.iload_n 3, 1) := by decide +kernel
theorem dX0_fewestFor_60 : decode cX0_fewestFor 60 = .ok (.ireturn, 1) := by decide +kernel
def p_X0_fewestFor_J53 (F : tF) (A : tA) (F1 : tF) (A1 : tA) (B10 : (tF → tA → Int32 → Int32 → Int32 → Prop)) (K : Int32 → tF → tA → Prop) (x2 : Int32) (x3 : Int32) (x4 : Int32) (x5 : Int32) : Prop := (∀ y53 : Int32, y53 = (x5 + (1 : Int32)) → (B10 F1 A1 x3 x4 y53))
set_option maxHeartbeats 4000000 in
set_option maxRecDepth 100000 in
theorem b_X0_fewestFor_J53 {p : Program} {l : Launch} {e : Env} {s : State} {m : MethodId} {args : Array Value} {below : List Frame} {meth : Method} {c : Code} {Q : State → Prop} {D : va_G} {cI cZ cR : ClassId} {adK adV : Nat → Nat} {A9 : Nat → Prop} {o : Nat} {q : Nat → Nat} {o1 : Nat} {q1 : Nat → Nat} {K : Int32 → tF → tA → Prop} {B10 : (tF → tA → Int32 → Int32 → Int32 → Prop)} (F : tF) (A : tA) (F1 : tF) (A1 : tA) (x2 : Int32) (x3 : Int32) (x4 : Int32) (x5 : Int32) (X : CX p s m args c yX0_fewestFor.cls cX0_fewestFor 7 D cI cZ cR adK adV A9) (ret : RTi p l e (rmN 3 146) s m args below meth c Q cX0_fewestFor D A9 (fun (r : Int32) (u : (tF × tA)) => K r u.1 u.2) (fun (u : (tF × tA)) => (wX0 cI cZ o q F A ++ wX2 cI cZ o1 q1 u.1 u.2 : va_W))) (hB10 : ∀ (F1 : tF) (A1 : tA) (x3 : Int32) (x4 : Int32) (x5 : Int32) (H : Heap) (locs : List Loc) (ls : Array Slot), B10 F1 A1 x3 x4 x5 → va_P D vwCl (wX0 cI cZ o q F A ++ wX2 cI cZ o1 q1 F1 A1 : va_W) H → va_D A9 (wX0 cI cZ o q F A ++ wX2 cI cZ o1 q1 F1 A1 : va_W) → va_S A9 s.heap H locs → lv_has ls 7 [(0, .ref o), (1, .ref o1), (2, .int x2), (3, .int x3), (4, .int x4), (5, .int x5)] → W p l e (rmN 3 146) s m args below meth c H locs 0 0 Q (F0 m 10 ls [])) (H : Heap) (locs : List Loc) (ls : Array Slot) (h : p_X0_fewestFor_J53 F A F1 A1 B10 K x2 x3 x4 x5) (hP : va_P D vwCl (wX0 cI cZ o q F A ++ wX2 cI cZ o1 q1 F1 A1 : va_W) H) (hD : va_D A9 (wX0 cI cZ o q F A ++ wX2 cI cZ o1 q1 F1 A1 : va_W)) (hS : va_S A9 s.heap H locs) (hl : lv_has ls 7 [(0, .ref o), (1, .ref o1), (2, .int x2), (3, .int x3), (4, .int x4), (5, .int x5)]) : W p l e (rmN 3 146) s m args below meth c H locs 0 0 Q (F0 m 53 ls []) := by
  obtain ⟨hx, hb, hml, ht, hown, hK, hA, hE⟩ := id X
  unfold p_X0_fewestFor_J53 at h
  obtain ⟨y53, ey53⟩ : ∃ y : Int32, y = (x5 + (1 : Int32)) := ⟨_, rfl⟩
  replace h := h y53 ey53
  refine lv_iinc (v := y53) (lv' := [(5, .int y53), (0, .ref o), (1, .ref o1), (2, .int x2), (3, .int x3), (4, .int x4)]) hx hb dX0_fewestFor_53 hl (k := 5) rfl (by rw [ey53]; rfl) (by decide) rfl (fun ls hl => ?_)
  refine lv_goto (tgt := 10) hx hb dX0_fewestFor_56 (by decide) ?_
  exact hB10 F1 A1 x3 x4 y53 _ _ _ h hP hD hS (lv_sub hl [1, 2, 3, 4, 5, 0] rfl)
def p_X0_fewestFor_L10 (F : tF) (A : tA) (x2 : Int32) (K : Int32 → tF → tA → Prop) : Nat → tF → tA → Int32 → Int32 → Int32 → Prop
  | 0, _, _, _, _, _ => False
  | n10 + 1, F1, A1, x3, x4, x5 => ((((1 : Int32) <<< ((F1 8) &&& 31)) ≤ x5 → (K x3 F1 A1)) ∧ (¬ ((1 : Int32) <<< ((F1 8) &&& 31)) ≤ x5 → (p_J6_bitCount_0f7a4 x5 (fun r23 => ((x4 ≤ r23 → (p_X0_fewestFor_J53 F A F1 A1 (p_X0_fewestFor_L10 F A x2 K n10) K x2 x3 x4 x5)) ∧ (¬ x4 ≤ r23 → (p_X0_favouriteWith F A F1 A1 x5 (fun r39 F1_39 A1_39 => ((¬ r39 = x2 → (p_X0_fewestFor_J53 F A F1_39 A1_39 (p_X0_fewestFor_L10 F A x2 K n10) K x2 x3 x4 x5)) ∧ (r39 = x2 → (p_X0_fewestFor_J53 F A F1_39 A1_39 (p_X0_fewestFor_L10 F A x2 K n10) K x2 x5 r23 x5)))))))))))
set_option maxHeartbeats 4000000 in
set_option maxRecDepth 100000 in
theorem b_X0_fewestFor_L10 {p : Program} {l : Launch} {e : Env} {s : State} {m : MethodId} {args : Array Value} {below : List Frame} {meth : Method} {c : Code} {Q : State → Prop} {D : va_G} {cI cZ cR : ClassId} {adK adV : Nat → Nat} {A9 : Nat → Prop} {o : Nat} {q : Nat → Nat} {o1 : Nat} {q1 : Nat → Nat} {K : Int32 → tF → tA → Prop}  (F : tF) (A : tA) (x2 : Int32) (X : CX p s m args c yX0_fewestFor.cls cX0_fewestFor 7 D cI cZ cR adK adV A9) (ret : RTi p l e (rmN 3 146) s m args below meth c Q cX0_fewestFor D A9 (fun (r : Int32) (u : (tF × tA)) => K r u.1 u.2) (fun (u : (tF × tA)) => (wX0 cI cZ o q F A ++ wX2 cI cZ o1 q1 u.1 u.2 : va_W)))   : ∀ (n : Nat) (F1 : tF) (A1 : tA) (x3 : Int32) (x4 : Int32) (x5 : Int32) (H : Heap) (locs : List Loc) (ls : Array Slot), p_X0_fewestFor_L10 F A x2 K n F1 A1 x3 x4 x5 → va_P D vwCl (wX0 cI cZ o q F A ++ wX2 cI cZ o1 q1 F1 A1 : va_W) H → va_D A9 (wX0 cI cZ o q F A ++ wX2 cI cZ o1 q1 F1 A1 : va_W) → va_S A9 s.heap H locs → lv_has ls 7 [(0, .ref o), (1, .ref o1), (2, .int x2), (3, .int x3), (4, .int x4), (5, .int x5)] → W p l e (rmN 3 146) s m args below meth c H locs 0 0 Q (F0 m 10 ls []) := by
  obtain ⟨hx, hb, hml, ht, hown, hK, hA, hE⟩ := id X
  intro n
  induction n with
  | zero => intro F1 A1 x3 x4 x5 H locs ls h; exact False.elim h
  | succ n10 ih =>
    intro F1 A1 x3 x4 x5 H locs ls h hP hD hS hl
    rw [p_X0_fewestFor_L10] at h
    refine lv_iload hx hb dX0_fewestFor_10 (lv_at hl 5 rfl) ?_
    refine lv_iconst (v := 1) hx hb dX0_fewestFor_12 (by decide) ?_
    refine lv_aload_n hx hb dX0_fewestFor_13 rfl (lv_at hl 1 rfl) ?_
    refine va_get (C := RX2) (T := TX2) (N := 13) (own := RX0) (v := .int (F1 8)) hx hb ht inlX2 hown hK hP 5 rfl rfl 8 (Nat.le_of_ble_eq_true rfl) (ht _ mw_32_12) (fun _ h9 => h9) rfl dX0_fewestFor_14 ?_
    refine lv_ishl hx hb dX0_fewestFor_17 ?_
    refine lv_icmp_ge (tgt := 59) hx hb dX0_fewestFor_18 (by decide) (fun c18 => ?_) (fun c18 => ?_)
    · replace h := h.1 c18
      refine lv_iload_n hx hb dX0_fewestFor_59 rfl (lv_at hl 3 rfl) ?_
      exact ret _ (F1, A1) _ _ _ _ dX0_fewestFor_60 h hP hD hS
    · replace h := h.2 c18
      refine lv_iload hx hb dX0_fewestFor_21 (lv_at hl 5 rfl) ?_
      refine C_si (wr := [0, 1, 2, 3, 4, 5, 6, 7, 8, 9, 10, 11, 12, 13].filterMap (fun i => (wX0 cI cZ o q F A ++ wX2 cI cZ o1 q1 F1 A1 : va_W)[i]?)) X hP hD hS [.int x5] [] (w_J6_bitCount_0f7a4 l D cI cZ cR adK adV _ x5 _ h) cal_J6_bitCount_0f7a4 mw_32_19 rfl [] [0, 1, 2, 3, 4, 5, 6, 7, 8, 9, 10, 11, 12, 13] [0, 1, 2, 3, 4, 5, 6, 7, 8, 9, 10, 11, 12, 13] (fun u => (wX0 cI cZ o q F A ++ wX2 cI cZ o1 q1 F1 A1 : va_W)) rfl rfl (fun _ => rfl) rfl ⟨rfl, rfl⟩ ⟨Nat.le_of_ble_eq_true rfl, Nat.le_of_ble_eq_true rfl⟩ hl.1 rfl (Nat.le_of_ble_eq_true rfl) ⟨Nat.zero_le _, Nat.zero_le _⟩ dX0_fewestFor_23 (fun r23 u H locs h hP hD hS => ?_)
      refine lv_istore (lv' := [(6, .int r23), (0, .ref o), (1, .ref o1), (2, .int x2), (3, .int x3), (4, .int x4), (5, .int x5)]) hx hb dX0_fewestFor_26 hl (by decide) rfl (fun ls hl => ?_)
      refine lv_iload hx hb dX0_fewestFor_28 (lv_at hl 0 rfl) ?_
      refine lv_iload hx hb dX0_fewestFor_30 (lv_at hl 5 rfl) ?_
      refine lv_icmp_ge (tgt := 53) hx hb dX0_fewestFor_32 (by decide) (fun c32 => ?_) (fun c32 => ?_)
      · replace h := h.1 c32
        exact b_X0_fewestFor_J53 F A F1 A1 x2 x3 x4 x5 X ret ih _ _ _ h hP hD hS (lv_sub hl [1, 2, 3, 4, 5, 6] rfl)
      · replace h := h.2 c32
        refine lv_aload_n hx hb dX0_fewestFor_35 rfl (lv_at hl 1 rfl) ?_
        refine lv_aload_n hx hb dX0_fewestFor_36 rfl (lv_at hl 2 rfl) ?_
        refine lv_iload hx hb dX0_fewestFor_37 (lv_at hl 6 rfl) ?_
        refine C_vi (wr := []) X hP hD hS [.ref o1, .int x5] [] (w_X0_favouriteWith l D cI cZ cR adK adV _ o q o1 q1 F A F1 A1 x5 _ h) cal_X0_favouriteWith mw_33_2 rfl [0, 1, 2, 3, 4, 5, 6, 7, 8, 9, 10, 11, 12, 13] [] [0, 1, 2, 3, 4, 5, 6, 7, 8, 9, 10, 11, 12, 13] (fun u => (wX0 cI cZ o q F A ++ wX2 cI cZ o1 q1 u.1 u.2 : va_W)) rfl rfl (fun _ => rfl) rfl 0 rfl rfl ⟨rfl, rfl⟩ ⟨Nat.le_of_ble_eq_true rfl, Nat.le_of_ble_eq_true rfl⟩ hl.1 rfl (Nat.le_of_ble_eq_true rfl) ⟨Nat.zero_le _, Nat.zero_le _⟩ dX0_fewestFor_39 (fun r39 u H locs h hP hD hS => ?_)
        obtain ⟨F1_39, A1_39⟩ := u
        try dsimp only at h
        have hP : va_P D vwCl (wX0 cI cZ o q F A ++ wX2 cI cZ o1 q1 F1_39 A1_39 : va_W) H := hP
        have hD : va_D A9 (wX0 cI cZ o q F A ++ wX2 cI cZ o1 q1 F1_39 A1_39 : va_W) := hD
        refine lv_iload_n hx hb dX0_fewestFor_42 rfl (lv_at hl 3 rfl) ?_
        refine lv_icmp_ne (tgt := 53) hx hb dX0_fewestFor_43 (by decide) (fun c43 => ?_) (fun c43 => ?_)
        · replace h := h.1 c43
          exact b_X0_fewestFor_J53 F A F1_39 A1_39 x2 x3 x4 x5 X ret ih _ _ _ h hP hD hS (lv_sub hl [1, 2, 3, 4, 5, 6] rfl)
        · replace h := h.2 c43
          refine lv_iload hx hb dX0_fewestFor_46 (lv_at hl 0 rfl) ?_
          refine lv_istore (lv' := [(4, .int r23), (6, .int r23), (0, .ref o), (1, .ref o1), (2, .int x2), (3, .int x3), (5, .int x5)]) hx hb dX0_fewestFor_48 hl (by decide) rfl (fun ls hl => ?_)
          refine lv_iload hx hb dX0_fewestFor_50 (lv_at hl 6 rfl) ?_
          refine lv_istore_n (lv' := [(3, .int x5), (4, .int r23), (6, .int r23), (0, .ref o), (1, .ref o1), (2, .int x2), (5, .int x5)]) hx hb dX0_fewestFor_52 rfl hl (by decide) rfl (fun ls hl => ?_)
          exact b_X0_fewestFor_J53 F A F1_39 A1_39 x2 x5 r23 x5 X ret ih _ _ _ h hP hD hS (lv_sub hl [3, 4, 5, 0, 1, 6] rfl)
def p_X0_fewestFor (F : tF) (A : tA) (F1 : tF) (A1 : tA) (x2 : Int32) (K : Int32 → tF → tA → Prop) : Prop := (∃ n10, p_X0_fewestFor_L10 F A x2 K n10 F1 A1 (-3 : Int32) (9 : Int32) (0 : Int32))
set_option maxHeartbeats 4000000 in
set_option maxRecDepth 100000 in
theorem w_X0_fewestFor (l : Launch) (D : va_G) (cI cZ cR : ClassId) (adK adV : Nat → Nat) (sz : Nat) (o : Nat) (q : Nat → Nat) (o1 : Nat) (q1 : Nat → Nat) (F : tF) (A : tA) (F1 : tF) (A1 : tA) (x2 : Int32) (K : Int32 → tF → tA → Prop) (h : p_X0_fewestFor F A F1 A1 x2 K) : MI l D cI cZ cR adK adV yX0_fewestFor cX0_fewestFor 7 (some .int) (rmN 3 146) [.ref o, .ref o1, .int x2] (wX0 cI cZ o q F A ++ wX2 cI cZ o1 q1 F1 A1 : va_W) sz (fun (r : Int32) (u : (tF × tA)) => K r u.1 u.2) (fun (u : (tF × tA)) => (wX0 cI cZ o q F A ++ wX2 cI cZ o1 q1 u.1 u.2 : va_W)) := by
  refine M_i (by decide +kernel) (Nat.le_of_ble_eq_true rfl) ?_
  intro p e s m args below meth c Q A9 ls X ret hP hD hS hl
  obtain ⟨hx, hb, hml, ht, hown, hK, hA, hE⟩ := id X
  have hl : lv_has ls 7 [(0, .ref o), (1, .ref o1), (2, .int x2)] := hl
  unfold p_X0_fewestFor at h
  refine lv_bipush (v := -3) hx hb dX0_fewestFor_0 (by decide) ?_
  refine lv_istore_n (lv' := [(3, .int (-3 : Int32)), (0, .ref o), (1, .ref o1), (2, .int x2)]) hx hb dX0_fewestFor_2 rfl hl (by decide) rfl (fun ls hl => ?_)
  refine lv_bipush (v := 9) hx hb dX0_fewestFor_3 (by decide) ?_
  refine lv_istore (lv' := [(4, .int (9 : Int32)), (3, .int (-3 : Int32)), (0, .ref o), (1, .ref o1), (2, .int x2)]) hx hb dX0_fewestFor_5 hl (by decide) rfl (fun ls hl => ?_)
  refine lv_iconst (v := 0) hx hb dX0_fewestFor_7 (by decide) ?_
  refine lv_istore (lv' := [(5, .int (0 : Int32)), (4, .int (9 : Int32)), (3, .int (-3 : Int32)), (0, .ref o), (1, .ref o1), (2, .int x2)]) hx hb dX0_fewestFor_8 hl (by decide) rfl (fun ls hl => ?_)
  obtain ⟨n10, h⟩ := h
  exact b_X0_fewestFor_L10 F A x2 X ret  n10 F1 A1 (-3 : Int32) (9 : Int32) (0 : Int32) _ _ _ h hP hD hS (lv_sub hl [3, 4, 5, 2, 1, 0] rfl)
theorem dX0_weightOfSet_0 : decode cX0_weightOfSet 0 = .ok (.iconst 0, 1) := by decide +kernel
theorem dX0_weightOfSet_1 : decode cX0_weightOfSet 1 = .ok (.istore_n 3, 1) := by decide +kernel
theorem dX0_weightOfSet_2 : decode cX0_weightOfSet 2 = .ok (.iconst 0, 1) := by decide +kernel
theorem dX0_weightOfSet_3 : decode cX0_weightOfSet 3 = .ok (.istore 4, 2) := by decide +kernel
theorem dX0_weightOfSet_5 : decode cX0_weightOfSet 5 = .ok (.iload 4, 2) := by decide +kernel
theorem dX0_weightOfSet_7 : decode cX0_weightOfSet 7 = .ok (.iload_n 2, 1) := by decide +kernel
theorem dX0_weightOfSet_8 : decode cX0_weightOfSet 8 = .ok (.if_icmp .ge 29, 3) := by decide +kernel
theorem dX0_weightOfSet_11 : decode cX0_weightOfSet 11 = .ok (.iload_n 1, 1) := by decide +kernel
theorem dX0_weightOfSet_12 : decode cX0_weightOfSet 12 = .ok (.iload 4, 2) := by decide +kernel
theorem dX0_weightOfSet_14 : decode cX0_weightOfSet 14 = .ok (.ishr, 1) := by decide +kernel
theorem dX0_weightOfSet_15 : decode cX0_weightOfSet 15 = .ok (.iconst 1, 1) := by decide +kernel
theorem dX0_weightOfSet_16 : decode cX0_weightOfSet 16 = .ok (.iand, 1) := by decide +kernel
theorem dX0_weightOfSet_17 : decode cX0_weightOfSet 17 = .ok (.iconst 1, 1) := by decide +kernel
theorem dX0_weightOfSet_18 : decode cX0_weightOfSet 18 = .ok (.if_icmp .ne 13, 3) := by decide +kernel
theorem dX0_weightOfSet_21 : decode cX0_weightOfSet 21 = .ok (.iload_n 3, 1) := by decide +kernel
theorem dX0_weightOfSet_22 : decode cX0_weightOfSet 22 = .ok (.aload_n 0, 1) := by decide +kernel
theorem dX0_weightOfSet_23 : decode cX0_weightOfSet 23 = .ok (.getfield 15, 3) := by decide +kernel
theorem dX0_weightOfSet_26 : decode cX0_weightOfSet 26 = .ok (.iload 4, 2) := by decide +kernel
theorem dX0_weightOfSet_28 : decode cX0_weightOfSet 28 = .ok (.iaload, 1) := by decide +kernel
theorem dX0_weightOfSet_29 : decode cX0_weightOfSet 29 = .ok (.iadd, 1) := by decide +kernel
theorem dX0_weightOfSet_30 : decode cX0_weightOfSet 30 = .ok (.istore_n 3, 1) := by decide +kernel
theorem dX0_weightOfSet_31 : decode cX0_weightOfSet 31 = .ok (.iinc 4 1, 3) := by decide +kernel
theorem dX0_weightOfSet_34 : decode cX0_weightOfSet 34 = .ok (.goto (-29), 3) := by decide +kernel
theorem dX0_weightOfSet_37 : decode cX0_weightOfSet 37 = .ok (.iload_n 3, 1) := by decide +kernel
theorem dX0_weightOfSet_38 : decode cX0_weightOfSet 38 = .ok (.ireturn, 1) := by decide +kernel
def p_X0_weightOfSet_J31 (F : tF) (A : tA) (B5 : (Int32 → Int32 → Prop)) (K : Int32 → Prop) (x1 : Int32) (x2 : Int32) (x3 : Int32) (x4 : Int32) : Prop := (∀ y31 : Int32, y31 = (x4 + (1 : Int32)) → (B5 x3 y31))
set_option maxHeartbeats 4000000 in
set_option maxRecDepth 100000 in
theorem b_X0_weightOfSet_J31 {p : Program} {l : Launch} {e : Env} {s : State} {m : MethodId} {args : Array Value} {below : List Frame} {meth : Method} {c : Code} {Q : State → Prop} {D : va_G} {cI cZ cR : ClassId} {adK adV : Nat → Nat} {A9 : Nat → Prop} {o : Nat} {q : Nat → Nat} {K : Int32 → Prop} {B5 : (Int32 → Int32 → Prop)} (F : tF) (A : tA) (x1 : Int32) (x2 : Int32) (x3 : Int32) (x4 : Int32) (X : CX p s m args c yX0_weightOfSet.cls cX0_weightOfSet 5 D cI cZ cR adK adV A9) (ret : RTi p l e (rmN 0 0) s m args below meth c Q cX0_weightOfSet D A9 (fun (r : Int32) (u : Unit) => K r) (fun (u : Unit) => (wX0 cI cZ o q F A : va_W))) (hB5 : ∀ (x3 : Int32) (x4 : Int32) (H : Heap) (locs : List Loc) (ls : Array Slot), B5 x3 x4 → va_P D vwCl (wX0 cI cZ o q F A : va_W) H → va_D A9 (wX0 cI cZ o q F A : va_W) → va_S A9 s.heap H locs → lv_has ls 5 [(0, .ref o), (1, .int x1), (2, .int x2), (3, .int x3), (4, .int x4)] → W p l e (rmN 0 0) s m args below meth c H locs 0 0 Q (F0 m 5 ls [])) (H : Heap) (locs : List Loc) (ls : Array Slot) (h : p_X0_weightOfSet_J31 F A B5 K x1 x2 x3 x4) (hP : va_P D vwCl (wX0 cI cZ o q F A : va_W) H) (hD : va_D A9 (wX0 cI cZ o q F A : va_W)) (hS : va_S A9 s.heap H locs) (hl : lv_has ls 5 [(0, .ref o), (1, .int x1), (2, .int x2), (3, .int x3), (4, .int x4)]) : W p l e (rmN 0 0) s m args below meth c H locs 0 0 Q (F0 m 31 ls []) := by
  obtain ⟨hx, hb, hml, ht, hown, hK, hA, hE⟩ := id X
  unfold p_X0_weightOfSet_J31 at h
  obtain ⟨y31, ey31⟩ : ∃ y : Int32, y = (x4 + (1 : Int32)) := ⟨_, rfl⟩
  replace h := h y31 ey31
  refine lv_iinc (v := y31) (lv' := [(4, .int y31), (0, .ref o), (1, .int x1), (2, .int x2), (3, .int x3)]) hx hb dX0_weightOfSet_31 hl (k := 4) rfl (by rw [ey31]; rfl) (by decide) rfl (fun ls hl => ?_)
  refine lv_goto (tgt := 5) hx hb dX0_weightOfSet_34 (by decide) ?_
  exact hB5 x3 y31 _ _ _ h hP hD hS (lv_sub hl [1, 2, 3, 4, 0] rfl)
def p_X0_weightOfSet_L5 (F : tF) (A : tA) (x1 : Int32) (x2 : Int32) (K : Int32 → Prop) : Nat → Int32 → Int32 → Prop
  | 0, _, _ => False
  | n5 + 1, x3, x4 => ((x2 ≤ x4 → (K x3)) ∧ (¬ x2 ≤ x4 → ((¬ ((x1 >>> (x4 &&& 31)) &&& (1 : Int32)) = (1 : Int32) → (p_X0_weightOfSet_J31 F A (p_X0_weightOfSet_L5 F A x1 x2 K n5) K x1 x2 x3 x4)) ∧ (((x1 >>> (x4 &&& 31)) &&& (1 : Int32)) = (1 : Int32) → (vp_in x4 8 ∧ (∀ y30 : Int32, y30 = (x3 + ((A 1) (x4).toNatClampNeg)) → (p_X0_weightOfSet_J31 F A (p_X0_weightOfSet_L5 F A x1 x2 K n5) K x1 x2 y30 x4)))))))
set_option maxHeartbeats 4000000 in
set_option maxRecDepth 100000 in
theorem b_X0_weightOfSet_L5 {p : Program} {l : Launch} {e : Env} {s : State} {m : MethodId} {args : Array Value} {below : List Frame} {meth : Method} {c : Code} {Q : State → Prop} {D : va_G} {cI cZ cR : ClassId} {adK adV : Nat → Nat} {A9 : Nat → Prop} {o : Nat} {q : Nat → Nat} {K : Int32 → Prop}  (F : tF) (A : tA) (x1 : Int32) (x2 : Int32) (X : CX p s m args c yX0_weightOfSet.cls cX0_weightOfSet 5 D cI cZ cR adK adV A9) (ret : RTi p l e (rmN 0 0) s m args below meth c Q cX0_weightOfSet D A9 (fun (r : Int32) (u : Unit) => K r) (fun (u : Unit) => (wX0 cI cZ o q F A : va_W)))   : ∀ (n : Nat) (x3 : Int32) (x4 : Int32) (H : Heap) (locs : List Loc) (ls : Array Slot), p_X0_weightOfSet_L5 F A x1 x2 K n x3 x4 → va_P D vwCl (wX0 cI cZ o q F A : va_W) H → va_D A9 (wX0 cI cZ o q F A : va_W) → va_S A9 s.heap H locs → lv_has ls 5 [(0, .ref o), (1, .int x1), (2, .int x2), (3, .int x3), (4, .int x4)] → W p l e (rmN 0 0) s m args below meth c H locs 0 0 Q (F0 m 5 ls []) := by
  obtain ⟨hx, hb, hml, ht, hown, hK, hA, hE⟩ := id X
  intro n
  induction n with
  | zero => intro x3 x4 H locs ls h; exact False.elim h
  | succ n5 ih =>
    intro x3 x4 H locs ls h hP hD hS hl
    rw [p_X0_weightOfSet_L5] at h
    refine lv_iload hx hb dX0_weightOfSet_5 (lv_at hl 4 rfl) ?_
    refine lv_iload_n hx hb dX0_weightOfSet_7 rfl (lv_at hl 2 rfl) ?_
    refine lv_icmp_ge (tgt := 37) hx hb dX0_weightOfSet_8 (by decide) (fun c8 => ?_) (fun c8 => ?_)
    · replace h := h.1 c8
      refine lv_iload_n hx hb dX0_weightOfSet_37 rfl (lv_at hl 3 rfl) ?_
      exact ret _ () _ _ _ _ dX0_weightOfSet_38 h hP hD hS
    · replace h := h.2 c8
      refine lv_iload_n hx hb dX0_weightOfSet_11 rfl (lv_at hl 1 rfl) ?_
      refine lv_iload hx hb dX0_weightOfSet_12 (lv_at hl 4 rfl) ?_
      refine lv_ishr hx hb dX0_weightOfSet_14 ?_
      refine lv_iconst (v := 1) hx hb dX0_weightOfSet_15 (by decide) ?_
      refine lv_iand hx hb dX0_weightOfSet_16 ?_
      refine lv_iconst (v := 1) hx hb dX0_weightOfSet_17 (by decide) ?_
      refine lv_icmp_ne (tgt := 31) hx hb dX0_weightOfSet_18 (by decide) (fun c18 => ?_) (fun c18 => ?_)
      · replace h := h.1 c18
        exact b_X0_weightOfSet_J31 F A x1 x2 x3 x4 X ret ih _ _ _ h hP hD hS (lv_sub hl [0, 1, 2, 3, 4] rfl)
      · replace h := h.2 c18
        refine lv_iload_n hx hb dX0_weightOfSet_21 rfl (lv_at hl 3 rfl) ?_
        refine lv_aload_n hx hb dX0_weightOfSet_22 rfl (lv_at hl 0 rfl) ?_
        refine va_get (C := RX0) (T := TX0) (N := 4) (own := RX0) (v := .ref (q 1)) hx hb ht inlX0 hown hK hP 0 rfl rfl 1 (Nat.le_of_ble_eq_true rfl) (ht _ mw_4_5) (fun _ h9 => h9) rfl dX0_weightOfSet_23 ?_
        refine lv_iload hx hb dX0_weightOfSet_26 (lv_at hl 4 rfl) ?_
        obtain ⟨hi28, h⟩ := h
        refine g_iald (f := (A 1)) (k := (x4).toNatClampNeg) hx hb hK hP 2 0 rfl rfl hi28 rfl dX0_weightOfSet_28 ?_
        refine lv_iadd hx hb dX0_weightOfSet_29 ?_
        refine lv_topi (fun y30 ey30 => ?_)
        replace h := h y30 ey30
        refine lv_istore_n (lv' := [(3, .int y30), (0, .ref o), (1, .int x1), (2, .int x2), (4, .int x4)]) hx hb dX0_weightOfSet_30 rfl hl (by decide) rfl (fun ls hl => ?_)
        exact b_X0_weightOfSet_J31 F A x1 x2 y30 x4 X ret ih _ _ _ h hP hD hS (lv_sub hl [1, 2, 3, 0, 4] rfl)
def p_X0_weightOfSet (F : tF) (A : tA) (x1 : Int32) (x2 : Int32) (K : Int32 → Prop) : Prop := (∃ n5, p_X0_weightOfSet_L5 F A x1 x2 K n5 (0 : Int32) (0 : Int32))
set_option maxHeartbeats 4000000 in
set_option maxRecDepth 100000 in
theorem w_X0_weightOfSet (l : Launch) (D : va_G) (cI cZ cR : ClassId) (adK adV : Nat → Nat) (sz : Nat) (o : Nat) (q : Nat → Nat) (F : tF) (A : tA) (x1 : Int32) (x2 : Int32) (K : Int32 → Prop) (h : p_X0_weightOfSet F A x1 x2 K) : MI l D cI cZ cR adK adV yX0_weightOfSet cX0_weightOfSet 5 (some .int) (rmN 0 0) [.ref o, .int x1, .int x2] (wX0 cI cZ o q F A : va_W) sz (fun (r : Int32) (u : Unit) => K r) (fun (u : Unit) => (wX0 cI cZ o q F A : va_W)) := by
  refine M_i (by decide +kernel) (Nat.le_of_ble_eq_true rfl) ?_
  intro p e s m args below meth c Q A9 ls X ret hP hD hS hl
  obtain ⟨hx, hb, hml, ht, hown, hK, hA, hE⟩ := id X
  have hl : lv_has ls 5 [(0, .ref o), (1, .int x1), (2, .int x2)] := hl
  unfold p_X0_weightOfSet at h
  refine lv_iconst (v := 0) hx hb dX0_weightOfSet_0 (by decide) ?_
  refine lv_istore_n (lv' := [(3, .int (0 : Int32)), (0, .ref o), (1, .int x1), (2, .int x2)]) hx hb dX0_weightOfSet_1 rfl hl (by decide) rfl (fun ls hl => ?_)
  refine lv_iconst (v := 0) hx hb dX0_weightOfSet_2 (by decide) ?_
  refine lv_istore (lv' := [(4, .int (0 : Int32)), (3, .int (0 : Int32)), (0, .ref o), (1, .int x1), (2, .int x2)]) hx hb dX0_weightOfSet_3 hl (by decide) rfl (fun ls hl => ?_)
  obtain ⟨n5, h⟩ := h
  exact b_X0_weightOfSet_L5 F A x1 x2 X ret  n5 (0 : Int32) (0 : Int32) _ _ _ h hP hD hS (lv_sub hl [2, 3, 4, 1, 0] rfl)
theorem cal_X0_weightOfSet : CalV yX0_weightOfSet cX0_weightOfSet 5 (some .int) 2 := ⟨mw_38_22, mw_2_2, mw_38_20, mw_38_21, ⟨by decide +kernel, by decide +kernel, by decide +kernel⟩⟩
theorem cal_X0_ordersOf : CalS yX0_ordersOf cX0_ordersOf 4 (some .long) 1 := ⟨mw_39_1, mw_2_2, mw_39_0, ⟨by decide +kernel, by decide +kernel, by decide +kernel⟩⟩
theorem dX0_ordersTurnedBy_0 : decode cX0_ordersTurnedBy 0 = .ok (.aload_n 0, 1) := by decide +kernel
theorem dX0_ordersTurnedBy_1 : decode cX0_ordersTurnedBy 1 = .ok (.iconst 1, 1) := by decide +kernel
theorem dX0_ordersTurnedBy_2 : decode cX0_ordersTurnedBy 2 = .ok (.iload_n 2, 1) := by decide +kernel
theorem dX0_ordersTurnedBy_3 : decode cX0_ordersTurnedBy 3 = .ok (.ishl, 1) := by decide +kernel
theorem dX0_ordersTurnedBy_4 : decode cX0_ordersTurnedBy 4 = .ok (.iconst 1, 1) := by decide +kernel
theorem dX0_ordersTurnedBy_5 : decode cX0_ordersTurnedBy 5 = .ok (.isub, 1) := by decide +kernel
theorem dX0_ordersTurnedBy_6 : decode cX0_ordersTurnedBy 6 = .ok (.iload_n 2, 1) := by decide +kernel
theorem dX0_ordersTurnedBy_7 : decode cX0_ordersTurnedBy 7 = .ok (.invokevirtual 56, 3) := by decide +kernel
theorem dX0_ordersTurnedBy_10 : decode cX0_ordersTurnedBy 10 = .ok (.istore_n 3, 1) := by decide +kernel
theorem dX0_ordersTurnedBy_11 : decode cX0_ordersTurnedBy 11 = .ok (.lconst 0, 1) := by decide +kernel
theorem dX0_ordersTurnedBy_12 : decode cX0_ordersTurnedBy 12 = .ok (.lstore 4, 2) := by decide +kernel
theorem dX0_ordersTurnedBy_14 : decode cX0_ordersTurnedBy 14 = .ok (.iconst 0, 1) := by decide +kernel
theorem dX0_ordersTurnedBy_15 : decode cX0_ordersTurnedBy 15 = .ok (.istore 6, 2) := by decide +kernel
theorem dX0_ordersTurnedBy_17 : decode cX0_ordersTurnedBy 17 = .ok (.iload 6, 2) := by decide +kernel
theorem dX0_ordersTurnedBy_19 : decode cX0_ordersTurnedBy 19 = .ok (.iconst 1, 1) := by decide +kernel
theorem dX0_ordersTurnedBy_20 : decode cX0_ordersTurnedBy 20 = .ok (.iload_n 2, 1) := by decide +kernel
theorem dX0_ordersTurnedBy_21 : decode cX0_ordersTurnedBy 21 = .ok (.ishl, 1) := by decide +kernel
theorem dX0_ordersTurnedBy_22 : decode cX0_ordersTurnedBy 22 = .ok (.if_icmp .ge 77, 3) := by decide +kernel
theorem dX0_ordersTurnedBy_25 : decode cX0_ordersTurnedBy 25 = .ok (.iload 6, 2) := by decide +kernel
theorem dX0_ordersTurnedBy_27 : decode cX0_ordersTurnedBy 27 = .ok (.iload_n 1, 1) := by decide +kernel
theorem dX0_ordersTurnedBy_28 : decode cX0_ordersTurnedBy 28 = .ok (.ishr, 1) := by decide +kernel
theorem dX0_ordersTurnedBy_29 : decode cX0_ordersTurnedBy 29 = .ok (.iconst 1, 1) := by decide +kernel
theorem dX0_ordersTurnedBy_30 : decode cX0_ordersTurnedBy 30 = .ok (.iand, 1) := by decide +kernel
theorem dX0_ordersTurnedBy_31 : decode cX0_ordersTurnedBy 31 = .ok (.ifCond .ne 62, 3) := by decide +kernel
theorem dX0_ordersTurnedBy_34 : decode cX0_ordersTurnedBy 34 = .ok (.aload_n 0, 1) := by decide +kernel
theorem dX0_ordersTurnedBy_35 : decode cX0_ordersTurnedBy 35 = .ok (.iload 6, 2) := by decide +kernel
theorem dX0_ordersTurnedBy_37 : decode cX0_ordersTurnedBy 37 = .ok (.iload_n 2, 1) := by decide +kernel
theorem dX0_ordersTurnedBy_38 : decode cX0_ordersTurnedBy 38 = .ok (.invokevirtual 56, 3) := by decide +kernel
theorem dX0_ordersTurnedBy_41 : decode cX0_ordersTurnedBy 41 = .ok (.istore 7, 2) := by decide +kernel
theorem dX0_ordersTurnedBy_43 : decode cX0_ordersTurnedBy 43 = .ok (.iload 7, 2) := by decide +kernel
theorem dX0_ordersTurnedBy_45 : decode cX0_ordersTurnedBy 45 = .ok (.iconst 2, 1) := by decide +kernel
theorem dX0_ordersTurnedBy_46 : decode cX0_ordersTurnedBy 46 = .ok (.imul, 1) := by decide +kernel
theorem dX0_ordersTurnedBy_47 : decode cX0_ordersTurnedBy 47 = .ok (.iload_n 3, 1) := by decide +kernel
theorem dX0_ordersTurnedBy_48 : decode cX0_ordersTurnedBy 48 = .ok (.if_icmp .gt 45, 3) := by decide +kernel
theorem dX0_ordersTurnedBy_51 : decode cX0_ordersTurnedBy 51 = .ok (.iload 7, 2) := by decide +kernel
theorem dX0_ordersTurnedBy_53 : decode cX0_ordersTurnedBy 53 = .ok (.aload_n 0, 1) := by decide +kernel
theorem dX0_ordersTurnedBy_54 : decode cX0_ordersTurnedBy 54 = .ok (.getfield 15, 3) := by decide +kernel
theorem dX0_ordersTurnedBy_57 : decode cX0_ordersTurnedBy 57 = .ok (.iload_n 1, 1) := by decide +kernel
theorem dX0_ordersTurnedBy_58 : decode cX0_ordersTurnedBy 58 = .ok (.iaload, 1) := by decide +kernel
theorem dX0_ordersTurnedBy_59 : decode cX0_ordersTurnedBy 59 = .ok (.iadd, 1) := by decide +kernel
theorem dX0_ordersTurnedBy_60 : decode cX0_ordersTurnedBy 60 = .ok (.iconst 2, 1) := by decide +kernel
theorem dX0_ordersTurnedBy_61 : decode cX0_ordersTurnedBy 61 = .ok (.imul, 1) := by decide +kernel
theorem dX0_ordersTurnedBy_62 : decode cX0_ordersTurnedBy 62 = .ok (.iload_n 3, 1) := by decide +kernel
theorem dX0_ordersTurnedBy_63 : decode cX0_ordersTurnedBy 63 = .ok (.if_icmp .le 30, 3) := by decide +kernel
theorem dX0_ordersTurnedBy_66 : decode cX0_ordersTurnedBy 66 = .ok (.iload 6, 2) := by decide +kernel
theorem dX0_ordersTurnedBy_68 : decode cX0_ordersTurnedBy 68 = .ok (.invokestatic 47, 3) := by decide +kernel
theorem dX0_ordersTurnedBy_71 : decode cX0_ordersTurnedBy 71 = .ok (.istore 8, 2) := by decide +kernel
theorem dX0_ordersTurnedBy_73 : decode cX0_ordersTurnedBy 73 = .ok (.lload 4, 2) := by decide +kernel
theorem dX0_ordersTurnedBy_75 : decode cX0_ordersTurnedBy 75 = .ok (.iload 8, 2) := by decide +kernel
theorem dX0_ordersTurnedBy_77 : decode cX0_ordersTurnedBy 77 = .ok (.invokestatic 60, 3) := by decide +kernel
theorem dX0_ordersTurnedBy_80 : decode cX0_ordersTurnedBy 80 = .ok (.iload_n 2, 1) := by decide +kernel
theorem dX0_ordersTurnedBy_81 : decode cX0_ordersTurnedBy 81 = .ok (.iconst 1, 1) := by decide +kernel
theorem dX0_ordersTurnedBy_82 : decode cX0_ordersTurnedBy 82 = .ok (.isub, 1) := by decide +kernel
theorem dX0_ordersTurnedBy_83 : decode cX0_ordersTurnedBy 83 = .ok (.iload 8, 2) := by decide +kernel
theorem dX0_ordersTurnedBy_85 : decode cX0_ordersTurnedBy 85 = .ok (.isub, 1) := by decide +kernel
theorem dX0_ordersTurnedBy_86 : decode cX0_ordersTurnedBy 86 = .ok (.invokestatic 60, 3) := by decide +kernel
theorem dX0_ordersTurnedBy_89 : decode cX0_ordersTurnedBy 89 = .ok (.lmul, 1) := by decide +kernel
theorem dX0_ordersTurnedBy_90 : decode cX0_ordersTurnedBy 90 = .ok (.ladd, 1) := by decide +kernel
theorem dX0_ordersTurnedBy_91 : decode cX0_ordersTurnedBy 91 = .ok (.lstore 4, 2) := by decide +kernel
theorem dX0_ordersTurnedBy_93 : decode cX0_ordersTurnedBy 93 = .ok (.iinc 6 1, 3) := by decide +kernel
theorem dX0_ordersTurnedBy_96 : decode cX0_ordersTurnedBy 96 = .ok (.goto (-79), 3) := by decide +kernel
theorem dX0_ordersTurnedBy_99 : decode cX0_ordersTurnedBy 99 = .ok (.lload 4, 2) := by decide +kernel
theorem dX0_ordersTurnedBy_101 : decode cX0_ordersTurnedBy 101 = .ok (.lreturn, 1) := by decide +kernel
def p_X0_ordersTurnedBy_J93 (F : tF) (A : tA) (B17 : (Int64 → Int32 → Prop)) (K : Int64 → Prop) (x1 : Int32) (x2 : Int32) (x3 : Int32) (x4 : Int64) (x6 : Int32) : Prop := (∀ y93 : Int32, y93 = (x6 + (1 : Int32)) → (B17 x4 y93))
set_option maxHeartbeats 4000000 in
set_option maxRecDepth 100000 in
theorem b_X0_ordersTurnedBy_J93 {p : Program} {l : Launch} {e : Env} {s : State} {m : MethodId} {args : Array Value} {below : List Frame} {meth : Method} {c : Code} {Q : State → Prop} {D : va_G} {cI cZ cR : ClassId} {adK adV : Nat → Nat} {A9 : Nat → Prop} {o : Nat} {q : Nat → Nat} {K : Int64 → Prop} {B17 : (Int64 → Int32 → Prop)} (F : tF) (A : tA) (x1 : Int32) (x2 : Int32) (x3 : Int32) (x4 : Int64) (x6 : Int32) (X : CX p s m args c yX0_ordersTurnedBy.cls cX0_ordersTurnedBy 9 D cI cZ cR adK adV A9) (ret : RTl p l e (rmN 1 24) s m args below meth c Q cX0_ordersTurnedBy D A9 (fun (r : Int64) (u : Unit) => K r) (fun (u : Unit) => (wX0 cI cZ o q F A : va_W))) (hB17 : ∀ (x4 : Int64) (x6 : Int32) (H : Heap) (locs : List Loc) (ls : Array Slot), B17 x4 x6 → va_P D vwCl (wX0 cI cZ o q F A : va_W) H → va_D A9 (wX0 cI cZ o q F A : va_W) → va_S A9 s.heap H locs → lv_has ls 9 [(0, .ref o), (1, .int x1), (2, .int x2), (3, .int x3), (4, .long x4), (6, .int x6)] → W p l e (rmN 1 24) s m args below meth c H locs 0 0 Q (F0 m 17 ls [])) (H : Heap) (locs : List Loc) (ls : Array Slot) (h : p_X0_ordersTurnedBy_J93 F A B17 K x1 x2 x3 x4 x6) (hP : va_P D vwCl (wX0 cI cZ o q F A : va_W) H) (hD : va_D A9 (wX0 cI cZ o q F A : va_W)) (hS : va_S A9 s.heap H locs) (hl : lv_has ls 9 [(0, .ref o), (1, .int x1), (2, .int x2), (3, .int x3), (4, .long x4), (6, .int x6)]) : W p l e (rmN 1 24) s m args below meth c H locs 0 0 Q (F0 m 93 ls []) := by
  obtain ⟨hx, hb, hml, ht, hown, hK, hA, hE⟩ := id X
  unfold p_X0_ordersTurnedBy_J93 at h
  obtain ⟨y93, ey93⟩ : ∃ y : Int32, y = (x6 + (1 : Int32)) := ⟨_, rfl⟩
  replace h := h y93 ey93
  refine lv_iinc (v := y93) (lv' := [(6, .int y93), (0, .ref o), (1, .int x1), (2, .int x2), (3, .int x3), (4, .long x4)]) hx hb dX0_ordersTurnedBy_93 hl (k := 5) rfl (by rw [ey93]; rfl) (by decide) rfl (fun ls hl => ?_)
  refine lv_goto (tgt := 17) hx hb dX0_ordersTurnedBy_96 (by decide) ?_
  exact hB17 x4 y93 _ _ _ h hP hD hS (lv_sub hl [1, 2, 3, 4, 5, 0] rfl)
def p_X0_ordersTurnedBy_L17 (F : tF) (A : tA) (x1 : Int32) (x2 : Int32) (x3 : Int32) (K : Int64 → Prop) : Nat → Int64 → Int32 → Prop
  | 0, _, _ => False
  | n17 + 1, x4, x6 => ((((1 : Int32) <<< (x2 &&& 31)) ≤ x6 → (K x4)) ∧ (¬ ((1 : Int32) <<< (x2 &&& 31)) ≤ x6 → ((¬ ((x6 >>> (x1 &&& 31)) &&& (1 : Int32)) = 0 → (p_X0_ordersTurnedBy_J93 F A (p_X0_ordersTurnedBy_L17 F A x1 x2 x3 K n17) K x1 x2 x3 x4 x6)) ∧ (((x6 >>> (x1 &&& 31)) &&& (1 : Int32)) = 0 → (p_X0_weightOfSet F A x6 x2 (fun r38 => ((x3 < (r38 * (2 : Int32)) → (p_X0_ordersTurnedBy_J93 F A (p_X0_ordersTurnedBy_L17 F A x1 x2 x3 K n17) K x1 x2 x3 x4 x6)) ∧ (¬ x3 < (r38 * (2 : Int32)) → (vp_in x1 8 ∧ ((((r38 + ((A 1) (x1).toNatClampNeg)) * (2 : Int32)) ≤ x3 → (p_X0_ordersTurnedBy_J93 F A (p_X0_ordersTurnedBy_L17 F A x1 x2 x3 K n17) K x1 x2 x3 x4 x6)) ∧ (¬ ((r38 + ((A 1) (x1).toNatClampNeg)) * (2 : Int32)) ≤ x3 → (p_J6_bitCount_0f7a4 x6 (fun r68 => (p_X0_ordersOf r68 (fun r77 => (p_X0_ordersOf ((x2 - (1 : Int32)) - r68) (fun r86 => (∀ y91 : Int64, y91 = (x4 + (r77 * r86)) → (p_X0_ordersTurnedBy_J93 F A (p_X0_ordersTurnedBy_L17 F A x1 x2 x3 K n17) K x1 x2 x3 y91 x6)))))))))))))))))))
set_option maxHeartbeats 4000000 in
set_option maxRecDepth 100000 in
theorem b_X0_ordersTurnedBy_L17 {p : Program} {l : Launch} {e : Env} {s : State} {m : MethodId} {args : Array Value} {below : List Frame} {meth : Method} {c : Code} {Q : State → Prop} {D : va_G} {cI cZ cR : ClassId} {adK adV : Nat → Nat} {A9 : Nat → Prop} {o : Nat} {q : Nat → Nat} {K : Int64 → Prop}  (F : tF) (A : tA) (x1 : Int32) (x2 : Int32) (x3 : Int32) (X : CX p s m args c yX0_ordersTurnedBy.cls cX0_ordersTurnedBy 9 D cI cZ cR adK adV A9) (ret : RTl p l e (rmN 1 24) s m args below meth c Q cX0_ordersTurnedBy D A9 (fun (r : Int64) (u : Unit) => K r) (fun (u : Unit) => (wX0 cI cZ o q F A : va_W)))   : ∀ (n : Nat) (x4 : Int64) (x6 : Int32) (H : Heap) (locs : List Loc) (ls : Array Slot), p_X0_ordersTurnedBy_L17 F A x1 x2 x3 K n x4 x6 → va_P D vwCl (wX0 cI cZ o q F A : va_W) H → va_D A9 (wX0 cI cZ o q F A : va_W) → va_S A9 s.heap H locs → lv_has ls 9 [(0, .ref o), (1, .int x1), (2, .int x2), (3, .int x3), (4, .long x4), (6, .int x6)] → W p l e (rmN 1 24) s m args below meth c H locs 0 0 Q (F0 m 17 ls []) := by
  obtain ⟨hx, hb, hml, ht, hown, hK, hA, hE⟩ := id X
  intro n
  induction n with
  | zero => intro x4 x6 H locs ls h; exact False.elim h
  | succ n17 ih =>
    intro x4 x6 H locs ls h hP hD hS hl
    rw [p_X0_ordersTurnedBy_L17] at h
    refine lv_iload hx hb dX0_ordersTurnedBy_17 (lv_at hl 5 rfl) ?_
    refine lv_iconst (v := 1) hx hb dX0_ordersTurnedBy_19 (by decide) ?_
    refine lv_iload_n hx hb dX0_ordersTurnedBy_20 rfl (lv_at hl 2 rfl) ?_
    refine lv_ishl hx hb dX0_ordersTurnedBy_21 ?_
    refine lv_icmp_ge (tgt := 99) hx hb dX0_ordersTurnedBy_22 (by decide) (fun c22 => ?_) (fun c22 => ?_)
    · replace h := h.1 c22
      refine lv_lload hx hb dX0_ordersTurnedBy_99 (lv_at hl 4 rfl) ?_
      exact ret _ () _ _ _ _ dX0_ordersTurnedBy_101 h hP hD hS
    · replace h := h.2 c22
      refine lv_iload hx hb dX0_ordersTurnedBy_25 (lv_at hl 5 rfl) ?_
      refine lv_iload_n hx hb dX0_ordersTurnedBy_27 rfl (lv_at hl 1 rfl) ?_
      refine lv_ishr hx hb dX0_ordersTurnedBy_28 ?_
      refine lv_iconst (v := 1) hx hb dX0_ordersTurnedBy_29 (by decide) ?_
      refine lv_iand hx hb dX0_ordersTurnedBy_30 ?_
      refine lv_if_ne (tgt := 93) hx hb dX0_ordersTurnedBy_31 (by decide) (fun c31 => ?_) (fun c31 => ?_)
      · replace h := h.1 c31
        exact b_X0_ordersTurnedBy_J93 F A x1 x2 x3 x4 x6 X ret ih _ _ _ h hP hD hS (lv_sub hl [0, 1, 2, 3, 4, 5] rfl)
      · replace h := h.2 c31
        refine lv_aload_n hx hb dX0_ordersTurnedBy_34 rfl (lv_at hl 0 rfl) ?_
        refine lv_iload hx hb dX0_ordersTurnedBy_35 (lv_at hl 5 rfl) ?_
        refine lv_iload_n hx hb dX0_ordersTurnedBy_37 rfl (lv_at hl 2 rfl) ?_
        refine C_vi (wr := []) X hP hD hS [.int x6, .int x2] [] (w_X0_weightOfSet l D cI cZ cR adK adV _ o q F A x6 x2 _ h) cal_X0_weightOfSet mw_38_19 rfl [0, 1, 2, 3, 4] [] [0, 1, 2, 3, 4] (fun u => (wX0 cI cZ o q F A : va_W)) rfl rfl (fun _ => rfl) rfl 0 rfl rfl ⟨rfl, rfl⟩ ⟨Nat.le_of_ble_eq_true rfl, Nat.le_of_ble_eq_true rfl⟩ hl.1 rfl (Nat.le_of_ble_eq_true rfl) ⟨Nat.zero_le _, Nat.zero_le _⟩ dX0_ordersTurnedBy_38 (fun r38 u H locs h hP hD hS => ?_)
        refine lv_istore (lv' := [(7, .int r38), (0, .ref o), (1, .int x1), (2, .int x2), (3, .int x3), (4, .long x4), (6, .int x6)]) hx hb dX0_ordersTurnedBy_41 hl (by decide) rfl (fun ls hl => ?_)
        refine lv_iload hx hb dX0_ordersTurnedBy_43 (lv_at hl 0 rfl) ?_
        refine lv_iconst (v := 2) hx hb dX0_ordersTurnedBy_45 (by decide) ?_
        refine lv_imul hx hb dX0_ordersTurnedBy_46 ?_
        refine lv_iload_n hx hb dX0_ordersTurnedBy_47 rfl (lv_at hl 4 rfl) ?_
        refine lv_icmp_gt (tgt := 93) hx hb dX0_ordersTurnedBy_48 (by decide) (fun c48 => ?_) (fun c48 => ?_)
        · replace h := h.1 c48
          exact b_X0_ordersTurnedBy_J93 F A x1 x2 x3 x4 x6 X ret ih _ _ _ h hP hD hS (lv_sub hl [1, 2, 3, 4, 5, 6] rfl)
        · replace h := h.2 c48
          refine lv_iload hx hb dX0_ordersTurnedBy_51 (lv_at hl 0 rfl) ?_
          refine lv_aload_n hx hb dX0_ordersTurnedBy_53 rfl (lv_at hl 1 rfl) ?_
          refine va_get (C := RX0) (T := TX0) (N := 4) (own := RX0) (v := .ref (q 1)) hx hb ht inlX0 hown hK hP 0 rfl rfl 1 (Nat.le_of_ble_eq_true rfl) (ht _ mw_4_5) (fun _ h9 => h9) rfl dX0_ordersTurnedBy_54 ?_
          refine lv_iload_n hx hb dX0_ordersTurnedBy_57 rfl (lv_at hl 2 rfl) ?_
          obtain ⟨hi58, h⟩ := h
          refine g_iald (f := (A 1)) (k := (x1).toNatClampNeg) hx hb hK hP 2 0 rfl rfl hi58 rfl dX0_ordersTurnedBy_58 ?_
          refine lv_iadd hx hb dX0_ordersTurnedBy_59 ?_
          refine lv_iconst (v := 2) hx hb dX0_ordersTurnedBy_60 (by decide) ?_
          refine lv_imul hx hb dX0_ordersTurnedBy_61 ?_
          refine lv_iload_n hx hb dX0_ordersTurnedBy_62 rfl (lv_at hl 4 rfl) ?_
          refine lv_icmp_le (tgt := 93) hx hb dX0_ordersTurnedBy_63 (by decide) (fun c63 => ?_) (fun c63 => ?_)
          · replace h := h.1 c63
            exact b_X0_ordersTurnedBy_J93 F A x1 x2 x3 x4 x6 X ret ih _ _ _ h hP hD hS (lv_sub hl [1, 2, 3, 4, 5, 6] rfl)
          · replace h := h.2 c63
            refine lv_iload hx hb dX0_ordersTurnedBy_66 (lv_at hl 6 rfl) ?_
            refine C_si (wr := [0, 1, 2, 3, 4].filterMap (fun i => (wX0 cI cZ o q F A : va_W)[i]?)) X hP hD hS [.int x6] [] (w_J6_bitCount_0f7a4 l D cI cZ cR adK adV _ x6 _ h) cal_J6_bitCount_0f7a4 mw_32_19 rfl [] [0, 1, 2, 3, 4] [0, 1, 2, 3, 4] (fun u => (wX0 cI cZ o q F A : va_W)) rfl rfl (fun _ => rfl) rfl ⟨rfl, rfl⟩ ⟨Nat.le_of_ble_eq_true rfl, Nat.le_of_ble_eq_true rfl⟩ hl.1 rfl (Nat.le_of_ble_eq_true rfl) ⟨Nat.zero_le _, Nat.zero_le _⟩ dX0_ordersTurnedBy_68 (fun r68 u H locs h hP hD hS => ?_)
            refine lv_istore (lv' := [(8, .int r68), (7, .int r38), (0, .ref o), (1, .int x1), (2, .int x2), (3, .int x3), (4, .long x4), (6, .int x6)]) hx hb dX0_ordersTurnedBy_71 hl (by decide) rfl (fun ls hl => ?_)
            refine lv_lload hx hb dX0_ordersTurnedBy_73 (lv_at hl 6 rfl) ?_
            refine lv_iload hx hb dX0_ordersTurnedBy_75 (lv_at hl 0 rfl) ?_
            refine C_sl (wr := [0, 1, 2, 3, 4].filterMap (fun i => (wX0 cI cZ o q F A : va_W)[i]?)) X hP hD hS [.int r68] [.long x4] (w_X0_ordersOf l D cI cZ cR adK adV _ r68 _ h) cal_X0_ordersOf mw_38_23 rfl [] [0, 1, 2, 3, 4] [0, 1, 2, 3, 4] (fun u => (wX0 cI cZ o q F A : va_W)) rfl rfl (fun _ => rfl) rfl ⟨rfl, rfl⟩ ⟨Nat.le_of_ble_eq_true rfl, Nat.le_of_ble_eq_true rfl⟩ hl.1 rfl (Nat.le_of_ble_eq_true rfl) ⟨Nat.zero_le _, Nat.zero_le _⟩ dX0_ordersTurnedBy_77 (fun r77 u H locs h hP hD hS => ?_)
            refine lv_iload_n hx hb dX0_ordersTurnedBy_80 rfl (lv_at hl 4 rfl) ?_
            refine lv_iconst (v := 1) hx hb dX0_ordersTurnedBy_81 (by decide) ?_
            refine lv_isub hx hb dX0_ordersTurnedBy_82 ?_
            refine lv_iload hx hb dX0_ordersTurnedBy_83 (lv_at hl 0 rfl) ?_
            refine lv_isub hx hb dX0_ordersTurnedBy_85 ?_
            refine C_sl (wr := [0, 1, 2, 3, 4].filterMap (fun i => (wX0 cI cZ o q F A : va_W)[i]?)) X hP hD hS [.int ((x2 - (1 : Int32)) - r68)] [.long r77, .long x4] (w_X0_ordersOf l D cI cZ cR adK adV _ ((x2 - (1 : Int32)) - r68) _ h) cal_X0_ordersOf mw_38_23 rfl [] [0, 1, 2, 3, 4] [0, 1, 2, 3, 4] (fun u => (wX0 cI cZ o q F A : va_W)) rfl rfl (fun _ => rfl) rfl ⟨rfl, rfl⟩ ⟨Nat.le_of_ble_eq_true rfl, Nat.le_of_ble_eq_true rfl⟩ hl.1 rfl (Nat.le_of_ble_eq_true rfl) ⟨Nat.zero_le _, Nat.zero_le _⟩ dX0_ordersTurnedBy_86 (fun r86 u H locs h hP hD hS => ?_)
            refine lv_lmul hx hb dX0_ordersTurnedBy_89 ?_
            refine lv_ladd hx hb dX0_ordersTurnedBy_90 ?_
            refine lv_topl (fun y91 ey91 => ?_)
            replace h := h y91 ey91
            refine lv_lstore (lv' := [(4, .long y91), (8, .int r68), (7, .int r38), (0, .ref o), (1, .int x1), (2, .int x2), (3, .int x3), (6, .int x6)]) hx hb dX0_ordersTurnedBy_91 hl (by decide) rfl (fun ls hl => ?_)
            exact b_X0_ordersTurnedBy_J93 F A x1 x2 x3 y91 x6 X ret ih _ _ _ h hP hD hS (lv_sub hl [3, 4, 5, 6, 0, 7] rfl)
def p_X0_ordersTurnedBy (F : tF) (A : tA) (x1 : Int32) (x2 : Int32) (K : Int64 → Prop) : Prop := (p_X0_weightOfSet F A (((1 : Int32) <<< (x2 &&& 31)) - (1 : Int32)) x2 (fun r7 => (∃ n17, p_X0_ordersTurnedBy_L17 F A x1 x2 r7 K n17 (0 : Int64) (0 : Int32))))
set_option maxHeartbeats 4000000 in
set_option maxRecDepth 100000 in
theorem w_X0_ordersTurnedBy (l : Launch) (D : va_G) (cI cZ cR : ClassId) (adK adV : Nat → Nat) (sz : Nat) (o : Nat) (q : Nat → Nat) (F : tF) (A : tA) (x1 : Int32) (x2 : Int32) (K : Int64 → Prop) (h : p_X0_ordersTurnedBy F A x1 x2 K) : ML l D cI cZ cR adK adV yX0_ordersTurnedBy cX0_ordersTurnedBy 9 (some .long) (rmN 1 24) [.ref o, .int x1, .int x2] (wX0 cI cZ o q F A : va_W) sz (fun (r : Int64) (u : Unit) => K r) (fun (u : Unit) => (wX0 cI cZ o q F A : va_W)) := by
  refine M_l (by decide +kernel) (Nat.le_of_ble_eq_true rfl) ?_
  intro p e s m args below meth c Q A9 ls X ret hP hD hS hl
  obtain ⟨hx, hb, hml, ht, hown, hK, hA, hE⟩ := id X
  have hl : lv_has ls 9 [(0, .ref o), (1, .int x1), (2, .int x2)] := hl
  unfold p_X0_ordersTurnedBy at h
  refine lv_aload_n hx hb dX0_ordersTurnedBy_0 rfl (lv_at hl 0 rfl) ?_
  refine lv_iconst (v := 1) hx hb dX0_ordersTurnedBy_1 (by decide) ?_
  refine lv_iload_n hx hb dX0_ordersTurnedBy_2 rfl (lv_at hl 2 rfl) ?_
  refine lv_ishl hx hb dX0_ordersTurnedBy_3 ?_
  refine lv_iconst (v := 1) hx hb dX0_ordersTurnedBy_4 (by decide) ?_
  refine lv_isub hx hb dX0_ordersTurnedBy_5 ?_
  refine lv_iload_n hx hb dX0_ordersTurnedBy_6 rfl (lv_at hl 2 rfl) ?_
  refine C_vi (wr := []) X hP hD hS [.int (((1 : Int32) <<< (x2 &&& 31)) - (1 : Int32)), .int x2] [] (w_X0_weightOfSet l D cI cZ cR adK adV _ o q F A (((1 : Int32) <<< (x2 &&& 31)) - (1 : Int32)) x2 _ h) cal_X0_weightOfSet mw_38_19 rfl [0, 1, 2, 3, 4] [] [0, 1, 2, 3, 4] (fun u => (wX0 cI cZ o q F A : va_W)) rfl rfl (fun _ => rfl) rfl 0 rfl rfl ⟨rfl, rfl⟩ ⟨Nat.le_of_ble_eq_true rfl, Nat.le_of_ble_eq_true rfl⟩ hl.1 rfl (Nat.le_of_ble_eq_true rfl) ⟨Nat.zero_le _, Nat.zero_le _⟩ dX0_ordersTurnedBy_7 (fun r7 u H locs h hP hD hS => ?_)
  refine lv_istore_n (lv' := [(3, .int r7), (0, .ref o), (1, .int x1), (2, .int x2)]) hx hb dX0_ordersTurnedBy_10 rfl hl (by decide) rfl (fun ls hl => ?_)
  refine lv_lconst (v := 0) hx hb dX0_ordersTurnedBy_11 (by decide) ?_
  refine lv_lstore (lv' := [(4, .long (0 : Int64)), (3, .int r7), (0, .ref o), (1, .int x1), (2, .int x2)]) hx hb dX0_ordersTurnedBy_12 hl (by decide) rfl (fun ls hl => ?_)
  refine lv_iconst (v := 0) hx hb dX0_ordersTurnedBy_14 (by decide) ?_
  refine lv_istore (lv' := [(6, .int (0 : Int32)), (4, .long (0 : Int64)), (3, .int r7), (0, .ref o), (1, .int x1), (2, .int x2)]) hx hb dX0_ordersTurnedBy_15 hl (by decide) rfl (fun ls hl => ?_)
  obtain ⟨n17, h⟩ := h
  exact b_X0_ordersTurnedBy_L17 F A x1 x2 r7 X ret  n17 (0 : Int64) (0 : Int32) _ _ _ h hP hD hS (lv_sub hl [3, 4, 5, 2, 1, 0] rfl)
theorem dX1_isWonBy_0 : decode cX1_isWonBy 0 = .ok (.aload_n 0, 1) := by decide +kernel
theorem dX1_isWonBy_1 : decode cX1_isWonBy 1 = .ok (.getfield 9, 3) := by decide +kernel
theorem dX1_isWonBy_4 : decode cX1_isWonBy 4 = .ok (.iload_n 1, 1) := by decide +kernel
theorem dX1_isWonBy_5 : decode cX1_isWonBy 5 = .ok (.bipush 6, 2) := by decide +kernel
theorem dX1_isWonBy_7 : decode cX1_isWonBy 7 = .ok (.imul, 1) := by decide +kernel
theorem dX1_isWonBy_8 : decode cX1_isWonBy 8 = .ok (.iload_n 2, 1) := by decide +kernel
theorem dX1_isWonBy_9 : decode cX1_isWonBy 9 = .ok (.iadd, 1) := by decide +kernel
theorem dX1_isWonBy_10 : decode cX1_isWonBy 10 = .ok (.baload, 1) := by decide +kernel
theorem dX1_isWonBy_11 : decode cX1_isWonBy 11 = .ok (.ireturn, 1) := by decide +kernel
def p_X1_isWonBy (F : tF) (A : tA) (x1 : Int32) (x2 : Int32) (K : Int32 → Prop) : Prop := (vp_in ((x1 * (6 : Int32)) + x2) 36 ∧ (bo ((A 0) (((x1 * (6 : Int32)) + x2)).toNatClampNeg) ∧ (K ((A 0) (((x1 * (6 : Int32)) + x2)).toNatClampNeg))))
set_option maxHeartbeats 4000000 in
set_option maxRecDepth 100000 in
theorem w_X1_isWonBy (l : Launch) (D : va_G) (cI cZ cR : ClassId) (adK adV : Nat → Nat) (sz : Nat) (o : Nat) (q : Nat → Nat) (F : tF) (A : tA) (x1 : Int32) (x2 : Int32) (K : Int32 → Prop) (h : p_X1_isWonBy F A x1 x2 K) : MI l D cI cZ cR adK adV yX1_isWonBy cX1_isWonBy 3 (some .boolean) (rmN 0 0) [.ref o, .int x1, .int x2] (wX1 cI cZ o q F A : va_W) sz (fun (r : Int32) (u : Unit) => K r) (fun (u : Unit) => (wX1 cI cZ o q F A : va_W)) := by
  refine M_z (by decide +kernel) (Nat.le_of_ble_eq_true rfl) ?_
  intro p e s m args below meth c Q A9 ls X ret hP hD hS hl
  obtain ⟨hx, hb, hml, ht, hown, hK, hA, hE⟩ := id X
  have hl : lv_has ls 3 [(0, .ref o), (1, .int x1), (2, .int x2)] := hl
  unfold p_X1_isWonBy at h
  refine lv_aload_n hx hb dX1_isWonBy_0 rfl (lv_at hl 0 rfl) ?_
  refine va_get (C := RX1) (T := TX1) (N := 4) (own := RX1) (v := .ref (q 0)) hx hb ht inlX1 hown hK hP 0 rfl rfl 0 (Nat.le_of_ble_eq_true rfl) (ht _ mw_4_13) (fun _ h9 => h9) rfl dX1_isWonBy_1 ?_
  refine lv_iload_n hx hb dX1_isWonBy_4 rfl (lv_at hl 1 rfl) ?_
  refine lv_bipush (v := 6) hx hb dX1_isWonBy_5 (by decide) ?_
  refine lv_imul hx hb dX1_isWonBy_7 ?_
  refine lv_iload_n hx hb dX1_isWonBy_8 rfl (lv_at hl 2 rfl) ?_
  refine lv_iadd hx hb dX1_isWonBy_9 ?_
  obtain ⟨hi10, h⟩ := h
  refine g_zald (f := (A 0)) (k := (((x1 * (6 : Int32)) + x2)).toNatClampNeg) hx hb hK hP 1 1 rfl rfl hi10 rfl dX1_isWonBy_10 ?_
  obtain ⟨hz11, h⟩ := h
  exact ret _ () _ _ _ _ dX1_isWonBy_11 hz11 h hP hD hS
theorem cal_X2_leadOf : CalV yX2_leadOf cX2_leadOf 6 (some .int) 2 := ⟨mw_34_13, mw_1_15, mw_34_11, mw_34_12, ⟨by decide +kernel, by decide +kernel, by decide +kernel⟩⟩
theorem dX1_hold_0 : decode cX1_hold 0 = .ok (.iconst 0, 1) := by decide +kernel
theorem dX1_hold_1 : decode cX1_hold 1 = .ok (.istore_n 2, 1) := by decide +kernel
theorem dX1_hold_2 : decode cX1_hold 2 = .ok (.iload_n 2, 1) := by decide +kernel
theorem dX1_hold_3 : decode cX1_hold 3 = .ok (.bipush 6, 2) := by decide +kernel
theorem dX1_hold_5 : decode cX1_hold 5 = .ok (.if_icmp .ge 48, 3) := by decide +kernel
theorem dX1_hold_8 : decode cX1_hold 8 = .ok (.iconst 0, 1) := by decide +kernel
theorem dX1_hold_9 : decode cX1_hold 9 = .ok (.istore_n 3, 1) := by decide +kernel
theorem dX1_hold_10 : decode cX1_hold 10 = .ok (.iload_n 3, 1) := by decide +kernel
theorem dX1_hold_11 : decode cX1_hold 11 = .ok (.bipush 6, 2) := by decide +kernel
theorem dX1_hold_13 : decode cX1_hold 13 = .ok (.if_icmp .ge 34, 3) := by decide +kernel
theorem dX1_hold_16 : decode cX1_hold 16 = .ok (.aload_n 0, 1) := by decide +kernel
theorem dX1_hold_17 : decode cX1_hold 17 = .ok (.getfield 9, 3) := by decide +kernel
theorem dX1_hold_20 : decode cX1_hold 20 = .ok (.iload_n 2, 1) := by decide +kernel
theorem dX1_hold_21 : decode cX1_hold 21 = .ok (.bipush 6, 2) := by decide +kernel
theorem dX1_hold_23 : decode cX1_hold 23 = .ok (.imul, 1) := by decide +kernel
theorem dX1_hold_24 : decode cX1_hold 24 = .ok (.iload_n 3, 1) := by decide +kernel
theorem dX1_hold_25 : decode cX1_hold 25 = .ok (.iadd, 1) := by decide +kernel
theorem dX1_hold_26 : decode cX1_hold 26 = .ok (.aload_n 1, 1) := by decide +kernel
theorem dX1_hold_27 : decode cX1_hold 27 = .ok (.iload_n 2, 1) := by decide +kernel
theorem dX1_hold_28 : decode cX1_hold 28 = .ok (.iload_n 3, 1) := by decide +kernel
theorem dX1_hold_29 : decode cX1_hold 29 = .ok (.invokevirtual 26, 3) := by decide +kernel
theorem dX1_hold_32 : decode cX1_hold 32 = .ok (.ifCond .le 7, 3) := by decide +kernel
theorem dX1_hold_35 : decode cX1_hold 35 = .ok (.iconst 1, 1) := by decide +kernel
theorem dX1_hold_36 : decode cX1_hold 36 = .ok (.goto 4, 3) := by decide +kernel
theorem dX1_hold_39 : decode cX1_hold 39 = .ok (.iconst 0, 1) := by decide +kernel
theorem dX1_hold_40 : decode cX1_hold 40 = .ok (.bastore, 1) := by decide +kernel
theorem dX1_hold_41 : decode cX1_hold 41 = .ok (.iinc 3 1, 3) := by decide +kernel
theorem dX1_hold_44 : decode cX1_hold 44 = .ok (.goto (-34), 3) := by decide +kernel
theorem dX1_hold_47 : decode cX1_hold 47 = .ok (.iinc 2 1, 3) := by decide +kernel
theorem dX1_hold_50 : decode cX1_hold 50 = .ok (.goto (-48), 3) := by decide +kernel
theorem dX1_hold_53 : decode cX1_hold 53 = .ok (.return_, 1) := by decide +kernel
def p_X1_hold_J40 (F : tF) (A : tA) (F1 : tF) (A1 : tA) (B2 : (tF → tA → Int32 → Prop)) (B10 : (tF → tA → Int32 → Prop)) (K : tF → tA → Prop) (x2 : Int32) (x3 : Int32) (s0 : Int32) (s1 : Int32) : Prop := (vp_in s1 36 ∧ (∀ f_40 : tF, f_40 = (upd (A 0) (s1).toNatClampNeg (vp_nar .boolean s0)) → (∀ y41 : Int32, y41 = (x3 + (1 : Int32)) → (B10 F (va_up A 0 f_40) y41))))
set_option maxHeartbeats 4000000 in
set_option maxRecDepth 100000 in
theorem b_X1_hold_J40 {p : Program} {l : Launch} {e : Env} {s : State} {m : MethodId} {args : Array Value} {below : List Frame} {meth : Method} {c : Code} {Q : State → Prop} {D : va_G} {cI cZ cR : ClassId} {adK adV : Nat → Nat} {A9 : Nat → Prop} {o : Nat} {q : Nat → Nat} {o1 : Nat} {q1 : Nat → Nat} {K : tF → tA → Prop} {B2 : (tF → tA → Int32 → Prop)} {B10 : (tF → tA → Int32 → Prop)} (F : tF) (A : tA) (F1 : tF) (A1 : tA) (x2 : Int32) (x3 : Int32) (s0 : Int32) (s1 : Int32) (X : CX p s m args c yX1_hold.cls cX1_hold 4 D cI cZ cR adK adV A9) (ret : RTv p l e (rmN 3 149) s m args below meth c Q cX1_hold D A9 (fun (u : (tF × tA)) => K u.1 u.2) (fun (u : (tF × tA)) => (wX1 cI cZ o q u.1 u.2 ++ wX2 cI cZ o1 q1 F1 A1 : va_W))) (hB2 : ∀ (F : tF) (A : tA) (x2 : Int32) (H : Heap) (locs : List Loc) (ls : Array Slot), B2 F A x2 → va_P D vwCl (wX1 cI cZ o q F A ++ wX2 cI cZ o1 q1 F1 A1 : va_W) H → va_D A9 (wX1 cI cZ o q F A ++ wX2 cI cZ o1 q1 F1 A1 : va_W) → va_S A9 s.heap H locs → lv_has ls 4 [(0, .ref o), (1, .ref o1), (2, .int x2)] → W p l e (rmN 3 149) s m args below meth c H locs 0 0 Q (F0 m 2 ls [])) (hB10 : ∀ (F : tF) (A : tA) (x3 : Int32) (H : Heap) (locs : List Loc) (ls : Array Slot), B10 F A x3 → va_P D vwCl (wX1 cI cZ o q F A ++ wX2 cI cZ o1 q1 F1 A1 : va_W) H → va_D A9 (wX1 cI cZ o q F A ++ wX2 cI cZ o1 q1 F1 A1 : va_W) → va_S A9 s.heap H locs → lv_has ls 4 [(0, .ref o), (1, .ref o1), (2, .int x2), (3, .int x3)] → W p l e (rmN 3 149) s m args below meth c H locs 0 0 Q (F0 m 10 ls [])) (H : Heap) (locs : List Loc) (ls : Array Slot) (h : p_X1_hold_J40 F A F1 A1 B2 B10 K x2 x3 s0 s1) (hP : va_P D vwCl (wX1 cI cZ o q F A ++ wX2 cI cZ o1 q1 F1 A1 : va_W) H) (hD : va_D A9 (wX1 cI cZ o q F A ++ wX2 cI cZ o1 q1 F1 A1 : va_W)) (hS : va_S A9 s.heap H locs) (hl : lv_has ls 4 [(0, .ref o), (1, .ref o1), (2, .int x2), (3, .int x3)]) : W p l e (rmN 3 149) s m args below meth c H locs 0 0 Q (F0 m 40 ls [.int s0, .int s1, .ref (q 0)]) := by
  obtain ⟨hx, hb, hml, ht, hown, hK, hA, hE⟩ := id X
  unfold p_X1_hold_J40 at h
  obtain ⟨hi40, h⟩ := h
  obtain ⟨f_40, ef_40⟩ : ∃ z : tF, z = (upd (A 0) (s1).toNatClampNeg (vp_nar .boolean s0)) := ⟨_, rfl⟩
  replace h := h f_40 ef_40
  refine g_zast (f := (A 0)) (k := (s1).toNatClampNeg) hx hb hK hP hD hS 1 1 rfl rfl hi40 rfl ef_40 dX1_hold_40 (fun H locs hP hD hS => ?_)
  have hP : va_P D vwCl (wX1 cI cZ o q F (va_up A 0 f_40) ++ wX2 cI cZ o1 q1 F1 A1 : va_W) H := hP
  have hD : va_D A9 (wX1 cI cZ o q F (va_up A 0 f_40) ++ wX2 cI cZ o1 q1 F1 A1 : va_W) := hD
  obtain ⟨y41, ey41⟩ : ∃ y : Int32, y = (x3 + (1 : Int32)) := ⟨_, rfl⟩
  replace h := h y41 ey41
  refine lv_iinc (v := y41) (lv' := [(3, .int y41), (0, .ref o), (1, .ref o1), (2, .int x2)]) hx hb dX1_hold_41 hl (k := 3) rfl (by rw [ey41]; rfl) (by decide) rfl (fun ls hl => ?_)
  refine lv_goto (tgt := 10) hx hb dX1_hold_44 (by decide) ?_
  exact hB10 F (va_up A 0 f_40) y41 _ _ _ h hP hD hS (lv_sub hl [1, 2, 3, 0] rfl)
def p_X1_hold_L10 (F1 : tF) (A1 : tA) (x2 : Int32) (B2 : (tF → tA → Int32 → Prop)) (K : tF → tA → Prop) : Nat → tF → tA → Int32 → Prop
  | 0, _, _, _ => False
  | n10 + 1, F, A, x3 => (((6 : Int32) ≤ x3 → (∀ y47 : Int32, y47 = (x2 + (1 : Int32)) → (B2 F A y47))) ∧ (¬ (6 : Int32) ≤ x3 → (p_X2_leadOf F1 A1 x2 x3 (fun r29 => ((r29 ≤ 0 → (p_X1_hold_J40 F A F1 A1 B2 (p_X1_hold_L10 F1 A1 x2 B2 K n10) K x2 x3 (0 : Int32) ((x2 * (6 : Int32)) + x3))) ∧ (¬ r29 ≤ 0 → (p_X1_hold_J40 F A F1 A1 B2 (p_X1_hold_L10 F1 A1 x2 B2 K n10) K x2 x3 (1 : Int32) ((x2 * (6 : Int32)) + x3))))))))
set_option maxHeartbeats 4000000 in
set_option maxRecDepth 100000 in
theorem b_X1_hold_L10 {p : Program} {l : Launch} {e : Env} {s : State} {m : MethodId} {args : Array Value} {below : List Frame} {meth : Method} {c : Code} {Q : State → Prop} {D : va_G} {cI cZ cR : ClassId} {adK adV : Nat → Nat} {A9 : Nat → Prop} {o : Nat} {q : Nat → Nat} {o1 : Nat} {q1 : Nat → Nat} {K : tF → tA → Prop} {B2 : (tF → tA → Int32 → Prop)} (F1 : tF) (A1 : tA) (x2 : Int32) (X : CX p s m args c yX1_hold.cls cX1_hold 4 D cI cZ cR adK adV A9) (ret : RTv p l e (rmN 3 149) s m args below meth c Q cX1_hold D A9 (fun (u : (tF × tA)) => K u.1 u.2) (fun (u : (tF × tA)) => (wX1 cI cZ o q u.1 u.2 ++ wX2 cI cZ o1 q1 F1 A1 : va_W))) (hB2 : ∀ (F : tF) (A : tA) (x2 : Int32) (H : Heap) (locs : List Loc) (ls : Array Slot), B2 F A x2 → va_P D vwCl (wX1 cI cZ o q F A ++ wX2 cI cZ o1 q1 F1 A1 : va_W) H → va_D A9 (wX1 cI cZ o q F A ++ wX2 cI cZ o1 q1 F1 A1 : va_W) → va_S A9 s.heap H locs → lv_has ls 4 [(0, .ref o), (1, .ref o1), (2, .int x2)] → W p l e (rmN 3 149) s m args below meth c H locs 0 0 Q (F0 m 2 ls []))  : ∀ (n : Nat) (F : tF) (A : tA) (x3 : Int32) (H : Heap) (locs : List Loc) (ls : Array Slot), p_X1_hold_L10 F1 A1 x2 B2 K n F A x3 → va_P D vwCl (wX1 cI cZ o q F A ++ wX2 cI cZ o1 q1 F1 A1 : va_W) H → va_D A9 (wX1 cI cZ o q F A ++ wX2 cI cZ o1 q1 F1 A1 : va_W) → va_S A9 s.heap H locs → lv_has ls 4 [(0, .ref o), (1, .ref o1), (2, .int x2), (3, .int x3)] → W p l e (rmN 3 149) s m args below meth c H locs 0 0 Q (F0 m 10 ls []) := by
  obtain ⟨hx, hb, hml, ht, hown, hK, hA, hE⟩ := id X
  intro n
  induction n with
  | zero => intro F A x3 H locs ls h; exact False.elim h
  | succ n10 ih =>
    intro F A x3 H locs ls h hP hD hS hl
    rw [p_X1_hold_L10] at h
    refine lv_iload_n hx hb dX1_hold_10 rfl (lv_at hl 3 rfl) ?_
    refine lv_bipush (v := 6) hx hb dX1_hold_11 (by decide) ?_
    refine lv_icmp_ge (tgt := 47) hx hb dX1_hold_13 (by decide) (fun c13 => ?_) (fun c13 => ?_)
    · replace h := h.1 c13
      obtain ⟨y47, ey47⟩ : ∃ y : Int32, y = (x2 + (1 : Int32)) := ⟨_, rfl⟩
      replace h := h y47 ey47
      refine lv_iinc (v := y47) (lv' := [(2, .int y47), (0, .ref o), (1, .ref o1), (3, .int x3)]) hx hb dX1_hold_47 hl (k := 2) rfl (by rw [ey47]; rfl) (by decide) rfl (fun ls hl => ?_)
      refine lv_goto (tgt := 2) hx hb dX1_hold_50 (by decide) ?_
      exact hB2 F A y47 _ _ _ h hP hD hS (lv_sub hl [1, 2, 0] rfl)
    · replace h := h.2 c13
      refine lv_aload_n hx hb dX1_hold_16 rfl (lv_at hl 0 rfl) ?_
      refine va_get (C := RX1) (T := TX1) (N := 4) (own := RX1) (v := .ref (q 0)) hx hb ht inlX1 hown hK hP 0 rfl rfl 0 (Nat.le_of_ble_eq_true rfl) (ht _ mw_4_13) (fun _ h9 => h9) rfl dX1_hold_17 ?_
      refine lv_iload_n hx hb dX1_hold_20 rfl (lv_at hl 2 rfl) ?_
      refine lv_bipush (v := 6) hx hb dX1_hold_21 (by decide) ?_
      refine lv_imul hx hb dX1_hold_23 ?_
      refine lv_iload_n hx hb dX1_hold_24 rfl (lv_at hl 3 rfl) ?_
      refine lv_iadd hx hb dX1_hold_25 ?_
      refine lv_aload_n hx hb dX1_hold_26 rfl (lv_at hl 1 rfl) ?_
      refine lv_iload_n hx hb dX1_hold_27 rfl (lv_at hl 2 rfl) ?_
      refine lv_iload_n hx hb dX1_hold_28 rfl (lv_at hl 3 rfl) ?_
      refine C_vi (wr := [0, 1, 2].filterMap (fun i => (wX1 cI cZ o q F A ++ wX2 cI cZ o1 q1 F1 A1 : va_W)[i]?)) X hP hD hS [.int x2, .int x3] [.int ((x2 * (6 : Int32)) + x3), .ref (q 0)] (w_X2_leadOf l D cI cZ cR adK adV _ o1 q1 F1 A1 x2 x3 _ h) cal_X2_leadOf mw_35_11 rfl [3, 4, 5, 6, 7, 8, 9, 10, 11] [0, 1, 2] [0, 1, 2, 3, 4, 5, 6, 7, 8, 9, 10, 11] (fun u => (wX1 cI cZ o q F A ++ wX2 cI cZ o1 q1 F1 A1 : va_W)) rfl rfl (fun _ => rfl) rfl 3 rfl rfl ⟨rfl, rfl⟩ ⟨Nat.le_of_ble_eq_true rfl, Nat.le_of_ble_eq_true rfl⟩ hl.1 rfl (Nat.le_of_ble_eq_true rfl) ⟨Nat.zero_le _, Nat.zero_le _⟩ dX1_hold_29 (fun r29 u H locs h hP hD hS => ?_)
      refine lv_if_le (tgt := 39) hx hb dX1_hold_32 (by decide) (fun c32 => ?_) (fun c32 => ?_)
      · replace h := h.1 c32
        refine lv_iconst (v := 0) hx hb dX1_hold_39 (by decide) ?_
        exact b_X1_hold_J40 F A F1 A1 x2 x3 (0 : Int32) ((x2 * (6 : Int32)) + x3) X ret hB2 ih _ _ _ h hP hD hS (lv_sub hl [0, 1, 2, 3] rfl)
      · replace h := h.2 c32
        refine lv_iconst (v := 1) hx hb dX1_hold_35 (by decide) ?_
        refine lv_goto (tgt := 40) hx hb dX1_hold_36 (by decide) ?_
        exact b_X1_hold_J40 F A F1 A1 x2 x3 (1 : Int32) ((x2 * (6 : Int32)) + x3) X ret hB2 ih _ _ _ h hP hD hS (lv_sub hl [0, 1, 2, 3] rfl)
def p_X1_hold_L2 (F1 : tF) (A1 : tA) (K : tF → tA → Prop) : Nat → tF → tA → Int32 → Prop
  | 0, _, _, _ => False
  | n2 + 1, F, A, x2 => (((6 : Int32) ≤ x2 → (K F A)) ∧ (¬ (6 : Int32) ≤ x2 → (∃ n10, p_X1_hold_L10 F1 A1 x2 (p_X1_hold_L2 F1 A1 K n2) K n10 F A (0 : Int32))))
set_option maxHeartbeats 4000000 in
set_option maxRecDepth 100000 in
theorem b_X1_hold_L2 {p : Program} {l : Launch} {e : Env} {s : State} {m : MethodId} {args : Array Value} {below : List Frame} {meth : Method} {c : Code} {Q : State → Prop} {D : va_G} {cI cZ cR : ClassId} {adK adV : Nat → Nat} {A9 : Nat → Prop} {o : Nat} {q : Nat → Nat} {o1 : Nat} {q1 : Nat → Nat} {K : tF → tA → Prop}  (F1 : tF) (A1 : tA) (X : CX p s m args c yX1_hold.cls cX1_hold 4 D cI cZ cR adK adV A9) (ret : RTv p l e (rmN 3 149) s m args below meth c Q cX1_hold D A9 (fun (u : (tF × tA)) => K u.1 u.2) (fun (u : (tF × tA)) => (wX1 cI cZ o q u.1 u.2 ++ wX2 cI cZ o1 q1 F1 A1 : va_W)))   : ∀ (n : Nat) (F : tF) (A : tA) (x2 : Int32) (H : Heap) (locs : List Loc) (ls : Array Slot), p_X1_hold_L2 F1 A1 K n F A x2 → va_P D vwCl (wX1 cI cZ o q F A ++ wX2 cI cZ o1 q1 F1 A1 : va_W) H → va_D A9 (wX1 cI cZ o q F A ++ wX2 cI cZ o1 q1 F1 A1 : va_W) → va_S A9 s.heap H locs → lv_has ls 4 [(0, .ref o), (1, .ref o1), (2, .int x2)] → W p l e (rmN 3 149) s m args below meth c H locs 0 0 Q (F0 m 2 ls []) := by
  obtain ⟨hx, hb, hml, ht, hown, hK, hA, hE⟩ := id X
  intro n
  induction n with
  | zero => intro F A x2 H locs ls h; exact False.elim h
  | succ n2 ih =>
    intro F A x2 H locs ls h hP hD hS hl
    rw [p_X1_hold_L2] at h
    refine lv_iload_n hx hb dX1_hold_2 rfl (lv_at hl 2 rfl) ?_
    refine lv_bipush (v := 6) hx hb dX1_hold_3 (by decide) ?_
    refine lv_icmp_ge (tgt := 53) hx hb dX1_hold_5 (by decide) (fun c5 => ?_) (fun c5 => ?_)
    · replace h := h.1 c5
      exact ret (F, A) _ _ _ _ dX1_hold_53 h hP hD hS
    · replace h := h.2 c5
      refine lv_iconst (v := 0) hx hb dX1_hold_8 (by decide) ?_
      refine lv_istore_n (lv' := [(3, .int (0 : Int32)), (0, .ref o), (1, .ref o1), (2, .int x2)]) hx hb dX1_hold_9 rfl hl (by decide) rfl (fun ls hl => ?_)
      obtain ⟨n10, h⟩ := h
      exact b_X1_hold_L10 F1 A1 x2 X ret ih n10 F A (0 : Int32) _ _ _ h hP hD hS (lv_sub hl [1, 2, 3, 0] rfl)
def p_X1_hold (F : tF) (A : tA) (F1 : tF) (A1 : tA) (K : tF → tA → Prop) : Prop := (∃ n2, p_X1_hold_L2 F1 A1 K n2 F A (0 : Int32))
set_option maxHeartbeats 4000000 in
set_option maxRecDepth 100000 in
theorem w_X1_hold (l : Launch) (D : va_G) (cI cZ cR : ClassId) (adK adV : Nat → Nat) (sz : Nat) (o : Nat) (q : Nat → Nat) (o1 : Nat) (q1 : Nat → Nat) (F : tF) (A : tA) (F1 : tF) (A1 : tA) (K : tF → tA → Prop) (h : p_X1_hold F A F1 A1 K) : MV l D cI cZ cR adK adV yX1_hold cX1_hold 4 none (rmN 3 149) [.ref o, .ref o1] (wX1 cI cZ o q F A ++ wX2 cI cZ o1 q1 F1 A1 : va_W) sz (fun (u : (tF × tA)) => K u.1 u.2) (fun (u : (tF × tA)) => (wX1 cI cZ o q u.1 u.2 ++ wX2 cI cZ o1 q1 F1 A1 : va_W)) := by
  refine M_v (by decide +kernel) (Nat.le_of_ble_eq_true rfl) ?_
  intro p e s m args below meth c Q A9 ls X ret hP hD hS hl
  obtain ⟨hx, hb, hml, ht, hown, hK, hA, hE⟩ := id X
  have hl : lv_has ls 4 [(0, .ref o), (1, .ref o1)] := hl
  unfold p_X1_hold at h
  refine lv_iconst (v := 0) hx hb dX1_hold_0 (by decide) ?_
  refine lv_istore_n (lv' := [(2, .int (0 : Int32)), (0, .ref o), (1, .ref o1)]) hx hb dX1_hold_1 rfl hl (by decide) rfl (fun ls hl => ?_)
  obtain ⟨n2, h⟩ := h
  exact b_X1_hold_L2 F1 A1 X ret  n2 F A (0 : Int32) _ _ _ h hP hD hS (lv_sub hl [1, 2, 0] rfl)
theorem dX1_readOrder_0 : decode cX1_readOrder 0 = .ok (.iload_n 1, 1) := by decide +kernel
theorem dX1_readOrder_1 : decode cX1_readOrder 1 = .ok (.ifCond .lt 9, 3) := by decide +kernel
theorem dX1_readOrder_4 : decode cX1_readOrder 4 = .ok (.iload_n 1, 1) := by decide +kernel
theorem dX1_readOrder_5 : decode cX1_readOrder 5 = .ok (.ldc 32, 2) := by decide +kernel
theorem dX1_readOrder_7 : decode cX1_readOrder 7 = .ok (.if_icmp .le 5, 3) := by decide +kernel
theorem dX1_readOrder_10 : decode cX1_readOrder 10 = .ok (.iconst 0, 1) := by decide +kernel
theorem dX1_readOrder_11 : decode cX1_readOrder 11 = .ok (.ireturn, 1) := by decide +kernel
theorem dX1_readOrder_12 : decode cX1_readOrder 12 = .ok (.iload_n 1, 1) := by decide +kernel
theorem dX1_readOrder_13 : decode cX1_readOrder 13 = .ok (.istore_n 2, 1) := by decide +kernel
theorem dX1_readOrder_14 : decode cX1_readOrder 14 = .ok (.iconst 0, 1) := by decide +kernel
theorem dX1_readOrder_15 : decode cX1_readOrder 15 = .ok (.istore_n 3, 1) := by decide +kernel
theorem dX1_readOrder_16 : decode cX1_readOrder 16 = .ok (.iconst 5, 1) := by decide +kernel
theorem dX1_readOrder_17 : decode cX1_readOrder 17 = .ok (.istore 4, 2) := by decide +kernel
theorem dX1_readOrder_19 : decode cX1_readOrder 19 = .ok (.iload 4, 2) := by decide +kernel
theorem dX1_readOrder_21 : decode cX1_readOrder 21 = .ok (.ifCond .lt 55, 3) := by decide +kernel
theorem dX1_readOrder_24 : decode cX1_readOrder 24 = .ok (.iload_n 2, 1) := by decide +kernel
theorem dX1_readOrder_25 : decode cX1_readOrder 25 = .ok (.bipush 10, 2) := by decide +kernel
theorem dX1_readOrder_27 : decode cX1_readOrder 27 = .ok (.irem, 1) := by decide +kernel
theorem dX1_readOrder_28 : decode cX1_readOrder 28 = .ok (.istore 5, 2) := by decide +kernel
theorem dX1_readOrder_30 : decode cX1_readOrder 30 = .ok (.iload_n 2, 1) := by decide +kernel
theorem dX1_readOrder_31 : decode cX1_readOrder 31 = .ok (.bipush 10, 2) := by decide +kernel
theorem dX1_readOrder_33 : decode cX1_readOrder 33 = .ok (.idiv, 1) := by decide +kernel
theorem dX1_readOrder_34 : decode cX1_readOrder 34 = .ok (.istore_n 2, 1) := by decide +kernel
theorem dX1_readOrder_35 : decode cX1_readOrder 35 = .ok (.iload 5, 2) := by decide +kernel
theorem dX1_readOrder_37 : decode cX1_readOrder 37 = .ok (.bipush 6, 2) := by decide +kernel
theorem dX1_readOrder_39 : decode cX1_readOrder 39 = .ok (.if_icmp .ge 13, 3) := by decide +kernel
theorem dX1_readOrder_42 : decode cX1_readOrder 42 = .ok (.iload_n 3, 1) := by decide +kernel
theorem dX1_readOrder_43 : decode cX1_readOrder 43 = .ok (.iload 5, 2) := by decide +kernel
theorem dX1_readOrder_45 : decode cX1_readOrder 45 = .ok (.ishr, 1) := by decide +kernel
theorem dX1_readOrder_46 : decode cX1_readOrder 46 = .ok (.iconst 1, 1) := by decide +kernel
theorem dX1_readOrder_47 : decode cX1_readOrder 47 = .ok (.iand, 1) := by decide +kernel
theorem dX1_readOrder_48 : decode cX1_readOrder 48 = .ok (.iconst 1, 1) := by decide +kernel
theorem dX1_readOrder_49 : decode cX1_readOrder 49 = .ok (.if_icmp .ne 5, 3) := by decide +kernel
theorem dX1_readOrder_52 : decode cX1_readOrder 52 = .ok (.iconst 0, 1) := by decide +kernel
theorem dX1_readOrder_53 : decode cX1_readOrder 53 = .ok (.ireturn, 1) := by decide +kernel
theorem dX1_readOrder_54 : decode cX1_readOrder 54 = .ok (.iload_n 3, 1) := by decide +kernel
theorem dX1_readOrder_55 : decode cX1_readOrder 55 = .ok (.iconst 1, 1) := by decide +kernel
theorem dX1_readOrder_56 : decode cX1_readOrder 56 = .ok (.iload 5, 2) := by decide +kernel
theorem dX1_readOrder_58 : decode cX1_readOrder 58 = .ok (.ishl, 1) := by decide +kernel
theorem dX1_readOrder_59 : decode cX1_readOrder 59 = .ok (.ior, 1) := by decide +kernel
theorem dX1_readOrder_60 : decode cX1_readOrder 60 = .ok (.istore_n 3, 1) := by decide +kernel
theorem dX1_readOrder_61 : decode cX1_readOrder 61 = .ok (.aload_n 0, 1) := by decide +kernel
theorem dX1_readOrder_62 : decode cX1_readOrder 62 = .ok (.getfield 15, 3) := by decide +kernel
theorem dX1_readOrder_65 : decode cX1_readOrder 65 = .ok (.iload 4, 2) := by decide +kernel
theorem dX1_readOrder_67 : decode cX1_readOrder 67 = .ok (.iload 5, 2) := by decide +kernel
theorem dX1_readOrder_69 : decode cX1_readOrder 69 = .ok (.iastore, 1) := by decide +kernel
theorem dX1_readOrder_70 : decode cX1_readOrder 70 = .ok (.iinc 4 (-1), 3) := by decide +kernel
theorem dX1_readOrder_73 : decode cX1_readOrder 73 = .ok (.goto (-54), 3) := by decide +kernel
theorem dX1_readOrder_76 : decode cX1_readOrder 76 = .ok (.iconst 1, 1) := by decide +kernel
theorem dX1_readOrder_77 : decode cX1_readOrder 77 = .ok (.ireturn, 1) := by decide +kernel
def p_X1_readOrder_L19 (K : Int32 → tF → tA → Prop) : Nat → tF → tA → Int32 → Int32 → Int32 → Prop
  | 0, _, _, _, _, _ => False
  | n19 + 1, F, A, x2, x3, x4 => ((x4 < 0 → (K (1 : Int32) F A)) ∧ (¬ x4 < 0 → (∀ y28 : Int32, y28 = (x2 - x2 / (10 : Int32) * (10 : Int32)) → (∀ y34 : Int32, y34 = (x2 / (10 : Int32)) → (((6 : Int32) ≤ y28 → (K (0 : Int32) F A)) ∧ (¬ (6 : Int32) ≤ y28 → ((¬ ((x3 >>> (y28 &&& 31)) &&& (1 : Int32)) = (1 : Int32) → (∀ y60 : Int32, y60 = (x3 ||| ((1 : Int32) <<< (y28 &&& 31))) → (vp_in x4 6 ∧ (∀ f_69 : tF, f_69 = (upd (A 1) (x4).toNatClampNeg y28) → (∀ y70 : Int32, y70 = (x4 + (-1 : Int32)) → ((p_X1_readOrder_L19 K n19) F (va_up A 1 f_69) y34 y60 y70)))))) ∧ (((x3 >>> (y28 &&& 31)) &&& (1 : Int32)) = (1 : Int32) → (K (0 : Int32) F A)))))))))
set_option maxHeartbeats 4000000 in
set_option maxRecDepth 100000 in
theorem b_X1_readOrder_L19 {p : Program} {l : Launch} {e : Env} {s : State} {m : MethodId} {args : Array Value} {below : List Frame} {meth : Method} {c : Code} {Q : State → Prop} {D : va_G} {cI cZ cR : ClassId} {adK adV : Nat → Nat} {A9 : Nat → Prop} {o : Nat} {q : Nat → Nat} {K : Int32 → tF → tA → Prop}   (X : CX p s m args c yX1_readOrder.cls cX1_readOrder 6 D cI cZ cR adK adV A9) (ret : RTz p l e (rmN 0 0) s m args below meth c Q cX1_readOrder D A9 (fun (r : Int32) (u : (tF × tA)) => K r u.1 u.2) (fun (u : (tF × tA)) => (wX1 cI cZ o q u.1 u.2 : va_W)))   : ∀ (n : Nat) (F : tF) (A : tA) (x2 : Int32) (x3 : Int32) (x4 : Int32) (H : Heap) (locs : List Loc) (ls : Array Slot), p_X1_readOrder_L19 K n F A x2 x3 x4 → va_P D vwCl (wX1 cI cZ o q F A : va_W) H → va_D A9 (wX1 cI cZ o q F A : va_W) → va_S A9 s.heap H locs → lv_has ls 6 [(0, .ref o), (2, .int x2), (3, .int x3), (4, .int x4)] → W p l e (rmN 0 0) s m args below meth c H locs 0 0 Q (F0 m 19 ls []) := by
  obtain ⟨hx, hb, hml, ht, hown, hK, hA, hE⟩ := id X
  intro n
  induction n with
  | zero => intro F A x2 x3 x4 H locs ls h; exact False.elim h
  | succ n19 ih =>
    intro F A x2 x3 x4 H locs ls h hP hD hS hl
    rw [p_X1_readOrder_L19] at h
    refine lv_iload hx hb dX1_readOrder_19 (lv_at hl 3 rfl) ?_
    refine lv_if_lt (tgt := 76) hx hb dX1_readOrder_21 (by decide) (fun c21 => ?_) (fun c21 => ?_)
    · replace h := h.1 c21
      refine lv_iconst (v := 1) hx hb dX1_readOrder_76 (by decide) ?_
      exact ret _ (F, A) _ _ _ _ dX1_readOrder_77 bo_1 h hP hD hS
    · replace h := h.2 c21
      refine lv_iload_n hx hb dX1_readOrder_24 rfl (lv_at hl 1 rfl) ?_
      refine lv_bipush (v := 10) hx hb dX1_readOrder_25 (by decide) ?_
      refine lv_irem hx hb dX1_readOrder_27 (by decide) ?_
      refine lv_topi (fun y28 ey28 => ?_)
      replace h := h y28 ey28
      refine lv_istore (lv' := [(5, .int y28), (0, .ref o), (2, .int x2), (3, .int x3), (4, .int x4)]) hx hb dX1_readOrder_28 hl (by decide) rfl (fun ls hl => ?_)
      refine lv_iload_n hx hb dX1_readOrder_30 rfl (lv_at hl 2 rfl) ?_
      refine lv_bipush (v := 10) hx hb dX1_readOrder_31 (by decide) ?_
      refine lv_idiv hx hb dX1_readOrder_33 (by decide) ?_
      refine lv_topi (fun y34 ey34 => ?_)
      replace h := h y34 ey34
      refine lv_istore_n (lv' := [(2, .int y34), (5, .int y28), (0, .ref o), (3, .int x3), (4, .int x4)]) hx hb dX1_readOrder_34 rfl hl (by decide) rfl (fun ls hl => ?_)
      refine lv_iload hx hb dX1_readOrder_35 (lv_at hl 1 rfl) ?_
      refine lv_bipush (v := 6) hx hb dX1_readOrder_37 (by decide) ?_
      refine lv_icmp_ge (tgt := 52) hx hb dX1_readOrder_39 (by decide) (fun c39 => ?_) (fun c39 => ?_)
      · replace h := h.1 c39
        refine lv_iconst (v := 0) hx hb dX1_readOrder_52 (by decide) ?_
        exact ret _ (F, A) _ _ _ _ dX1_readOrder_53 bo_0 h hP hD hS
      · replace h := h.2 c39
        refine lv_iload_n hx hb dX1_readOrder_42 rfl (lv_at hl 3 rfl) ?_
        refine lv_iload hx hb dX1_readOrder_43 (lv_at hl 1 rfl) ?_
        refine lv_ishr hx hb dX1_readOrder_45 ?_
        refine lv_iconst (v := 1) hx hb dX1_readOrder_46 (by decide) ?_
        refine lv_iand hx hb dX1_readOrder_47 ?_
        refine lv_iconst (v := 1) hx hb dX1_readOrder_48 (by decide) ?_
        refine lv_icmp_ne (tgt := 54) hx hb dX1_readOrder_49 (by decide) (fun c49 => ?_) (fun c49 => ?_)
        · replace h := h.1 c49
          refine lv_iload_n hx hb dX1_readOrder_54 rfl (lv_at hl 3 rfl) ?_
          refine lv_iconst (v := 1) hx hb dX1_readOrder_55 (by decide) ?_
          refine lv_iload hx hb dX1_readOrder_56 (lv_at hl 1 rfl) ?_
          refine lv_ishl hx hb dX1_readOrder_58 ?_
          refine lv_ior hx hb dX1_readOrder_59 ?_
          refine lv_topi (fun y60 ey60 => ?_)
          replace h := h y60 ey60
          refine lv_istore_n (lv' := [(3, .int y60), (2, .int y34), (5, .int y28), (0, .ref o), (4, .int x4)]) hx hb dX1_readOrder_60 rfl hl (by decide) rfl (fun ls hl => ?_)
          refine lv_aload_n hx hb dX1_readOrder_61 rfl (lv_at hl 3 rfl) ?_
          refine va_get (C := RX1) (T := TX1) (N := 4) (own := RX1) (v := .ref (q 1)) hx hb ht inlX1 hown hK hP 0 rfl rfl 1 (Nat.le_of_ble_eq_true rfl) (ht _ mw_4_14) (fun _ h9 => h9) rfl dX1_readOrder_62 ?_
          refine lv_iload hx hb dX1_readOrder_65 (lv_at hl 4 rfl) ?_
          refine lv_iload hx hb dX1_readOrder_67 (lv_at hl 2 rfl) ?_
          obtain ⟨hi69, h⟩ := h
          obtain ⟨f_69, ef_69⟩ : ∃ z : tF, z = (upd (A 1) (x4).toNatClampNeg y28) := ⟨_, rfl⟩
          replace h := h f_69 ef_69
          refine g_iast (f := (A 1)) (k := (x4).toNatClampNeg) hx hb hK hP hD hS 2 0 rfl rfl hi69 rfl ef_69 dX1_readOrder_69 (fun H locs hP hD hS => ?_)
          have hP : va_P D vwCl (wX1 cI cZ o q F (va_up A 1 f_69) : va_W) H := hP
          have hD : va_D A9 (wX1 cI cZ o q F (va_up A 1 f_69) : va_W) := hD
          obtain ⟨y70, ey70⟩ : ∃ y : Int32, y = (x4 + (-1 : Int32)) := ⟨_, rfl⟩
          replace h := h y70 ey70
          refine lv_iinc (v := y70) (lv' := [(4, .int y70), (3, .int y60), (2, .int y34), (5, .int y28), (0, .ref o)]) hx hb dX1_readOrder_70 hl (k := 4) rfl (by rw [ey70]; rfl) (by decide) rfl (fun ls hl => ?_)
          refine lv_goto (tgt := 19) hx hb dX1_readOrder_73 (by decide) ?_
          exact ih F (va_up A 1 f_69) y34 y60 y70 _ _ _ h hP hD hS (lv_sub hl [4, 2, 1, 0] rfl)
        · replace h := h.2 c49
          refine lv_iconst (v := 0) hx hb dX1_readOrder_52 (by decide) ?_
          exact ret _ (F, A) _ _ _ _ dX1_readOrder_53 bo_0 h hP hD hS
def p_X1_readOrder (F : tF) (A : tA) (x1 : Int32) (K : Int32 → tF → tA → Prop) : Prop := ((x1 < 0 → (K (0 : Int32) F A)) ∧ (¬ x1 < 0 → ((x1 ≤ (543210 : Int32) → (∃ n19, p_X1_readOrder_L19 K n19 F A x1 (0 : Int32) (5 : Int32))) ∧ (¬ x1 ≤ (543210 : Int32) → (K (0 : Int32) F A)))))
set_option maxHeartbeats 4000000 in
set_option maxRecDepth 100000 in
theorem w_X1_readOrder (l : Launch) (D : va_G) (cI cZ cR : ClassId) (adK adV : Nat → Nat) (sz : Nat) (o : Nat) (q : Nat → Nat) (F : tF) (A : tA) (x1 : Int32) (K : Int32 → tF → tA → Prop) (h : p_X1_readOrder F A x1 K) : MI l D cI cZ cR adK adV yX1_readOrder cX1_readOrder 6 (some .boolean) (rmN 0 0) [.ref o, .int x1] (wX1 cI cZ o q F A : va_W) sz (fun (r : Int32) (u : (tF × tA)) => K r u.1 u.2) (fun (u : (tF × tA)) => (wX1 cI cZ o q u.1 u.2 : va_W)) := by
  refine M_z (by decide +kernel) (Nat.le_of_ble_eq_true rfl) ?_
  intro p e s m args below meth c Q A9 ls X ret hP hD hS hl
  obtain ⟨hx, hb, hml, ht, hown, hK, hA, hE⟩ := id X
  have hl : lv_has ls 6 [(0, .ref o), (1, .int x1)] := hl
  unfold p_X1_readOrder at h
  refine lv_iload_n hx hb dX1_readOrder_0 rfl (lv_at hl 1 rfl) ?_
  refine lv_if_lt (tgt := 10) hx hb dX1_readOrder_1 (by decide) (fun c1 => ?_) (fun c1 => ?_)
  · replace h := h.1 c1
    refine lv_iconst (v := 0) hx hb dX1_readOrder_10 (by decide) ?_
    exact ret _ (F, A) _ _ _ _ dX1_readOrder_11 bo_0 h hP hD hS
  · replace h := h.2 c1
    refine lv_iload_n hx hb dX1_readOrder_4 rfl (lv_at hl 1 rfl) ?_
    refine lv_ldc (v := 543210) hx hb hown (ht _ mw_35_6) dX1_readOrder_5 ?_
    refine lv_icmp_le (tgt := 12) hx hb dX1_readOrder_7 (by decide) (fun c7 => ?_) (fun c7 => ?_)
    · replace h := h.1 c7
      refine lv_iload_n hx hb dX1_readOrder_12 rfl (lv_at hl 1 rfl) ?_
      refine lv_istore_n (lv' := [(2, .int x1), (0, .ref o), (1, .int x1)]) hx hb dX1_readOrder_13 rfl hl (by decide) rfl (fun ls hl => ?_)
      refine lv_iconst (v := 0) hx hb dX1_readOrder_14 (by decide) ?_
      refine lv_istore_n (lv' := [(3, .int (0 : Int32)), (2, .int x1), (0, .ref o), (1, .int x1)]) hx hb dX1_readOrder_15 rfl hl (by decide) rfl (fun ls hl => ?_)
      refine lv_iconst (v := 5) hx hb dX1_readOrder_16 (by decide) ?_
      refine lv_istore (lv' := [(4, .int (5 : Int32)), (3, .int (0 : Int32)), (2, .int x1), (0, .ref o), (1, .int x1)]) hx hb dX1_readOrder_17 hl (by decide) rfl (fun ls hl => ?_)
      obtain ⟨n19, h⟩ := h
      exact b_X1_readOrder_L19  X ret  n19 F A x1 (0 : Int32) (5 : Int32) _ _ _ h hP hD hS (lv_sub hl [3, 2, 1, 0] rfl)
    · replace h := h.2 c7
      refine lv_iconst (v := 0) hx hb dX1_readOrder_10 (by decide) ?_
      exact ret _ (F, A) _ _ _ _ dX1_readOrder_11 bo_0 h hP hD hS
theorem cal_X1_isWonBy : CalV yX1_isWonBy cX1_isWonBy 3 (some .boolean) 2 := ⟨mw_35_19, mw_2_6, mw_35_17, mw_35_18, ⟨by decide +kernel, by decide +kernel, by decide +kernel⟩⟩
theorem dX1_lastStanding_0 : decode cX1_lastStanding 0 = .ok (.aload_n 0, 1) := by decide +kernel
theorem dX1_lastStanding_1 : decode cX1_lastStanding 1 = .ok (.getfield 15, 3) := by decide +kernel
theorem dX1_lastStanding_4 : decode cX1_lastStanding 4 = .ok (.iconst 0, 1) := by decide +kernel
theorem dX1_lastStanding_5 : decode cX1_lastStanding 5 = .ok (.iaload, 1) := by decide +kernel
theorem dX1_lastStanding_6 : decode cX1_lastStanding 6 = .ok (.istore_n 1, 1) := by decide +kernel
theorem dX1_lastStanding_7 : decode cX1_lastStanding 7 = .ok (.iconst 1, 1) := by decide +kernel
theorem dX1_lastStanding_8 : decode cX1_lastStanding 8 = .ok (.istore_n 2, 1) := by decide +kernel
theorem dX1_lastStanding_9 : decode cX1_lastStanding 9 = .ok (.iload_n 2, 1) := by decide +kernel
theorem dX1_lastStanding_10 : decode cX1_lastStanding 10 = .ok (.bipush 6, 2) := by decide +kernel
theorem dX1_lastStanding_12 : decode cX1_lastStanding 12 = .ok (.if_icmp .ge 30, 3) := by decide +kernel
theorem dX1_lastStanding_15 : decode cX1_lastStanding 15 = .ok (.aload_n 0, 1) := by decide +kernel
theorem dX1_lastStanding_16 : decode cX1_lastStanding 16 = .ok (.aload_n 0, 1) := by decide +kernel
theorem dX1_lastStanding_17 : decode cX1_lastStanding 17 = .ok (.getfield 15, 3) := by decide +kernel
theorem dX1_lastStanding_20 : decode cX1_lastStanding 20 = .ok (.iload_n 2, 1) := by decide +kernel
theorem dX1_lastStanding_21 : decode cX1_lastStanding 21 = .ok (.iaload, 1) := by decide +kernel
theorem dX1_lastStanding_22 : decode cX1_lastStanding 22 = .ok (.iload_n 1, 1) := by decide +kernel
theorem dX1_lastStanding_23 : decode cX1_lastStanding 23 = .ok (.invokevirtual 33, 3) := by decide +kernel
theorem dX1_lastStanding_26 : decode cX1_lastStanding 26 = .ok (.ifCond .eq 10, 3) := by decide +kernel
theorem dX1_lastStanding_29 : decode cX1_lastStanding 29 = .ok (.aload_n 0, 1) := by decide +kernel
theorem dX1_lastStanding_30 : decode cX1_lastStanding 30 = .ok (.getfield 15, 3) := by decide +kernel
theorem dX1_lastStanding_33 : decode cX1_lastStanding 33 = .ok (.iload_n 2, 1) := by decide +kernel
theorem dX1_lastStanding_34 : decode cX1_lastStanding 34 = .ok (.iaload, 1) := by decide +kernel
theorem dX1_lastStanding_35 : decode cX1_lastStanding 35 = .ok (.istore_n 1, 1) := by decide +kernel
theorem dX1_lastStanding_36 : decode cX1_lastStanding 36 = .ok (.iinc 2 1, 3) := by decide +kernel
theorem dX1_lastStanding_39 : decode cX1_lastStanding 39 = .ok (.goto (-30), 3) := by decide +kernel
theorem dX1_lastStanding_42 : decode cX1_lastStanding 42 = .ok (.iload_n 1, 1) := by decide +kernel
theorem dX1_lastStanding_43 : decode cX1_lastStanding 43 = .ok (.ireturn, 1) := by decide +kernel
def p_X1_lastStanding_J36 (F : tF) (A : tA) (B9 : (Int32 → Int32 → Prop)) (K : Int32 → Prop) (x1 : Int32) (x2 : Int32) : Prop := (∀ y36 : Int32, y36 = (x2 + (1 : Int32)) → (B9 x1 y36))
set_option maxHeartbeats 4000000 in
set_option maxRecDepth 100000 in
theorem b_X1_lastStanding_J36 {p : Program} {l : Launch} {e : Env} {s : State} {m : MethodId} {args : Array Value} {below : List Frame} {meth : Method} {c : Code} {Q : State → Prop} {D : va_G} {cI cZ cR : ClassId} {adK adV : Nat → Nat} {A9 : Nat → Prop} {o : Nat} {q : Nat → Nat} {K : Int32 → Prop} {B9 : (Int32 → Int32 → Prop)} (F : tF) (A : tA) (x1 : Int32) (x2 : Int32) (X : CX p s m args c yX1_lastStanding.cls cX1_lastStanding 3 D cI cZ cR adK adV A9) (ret : RTi p l e (rmN 1 22) s m args below meth c Q cX1_lastStanding D A9 (fun (r : Int32) (u : Unit) => K r) (fun (u : Unit) => (wX1 cI cZ o q F A : va_W))) (hB9 : ∀ (x1 : Int32) (x2 : Int32) (H : Heap) (locs : List Loc) (ls : Array Slot), B9 x1 x2 → va_P D vwCl (wX1 cI cZ o q F A : va_W) H → va_D A9 (wX1 cI cZ o q F A : va_W) → va_S A9 s.heap H locs → lv_has ls 3 [(0, .ref o), (1, .int x1), (2, .int x2)] → W p l e (rmN 1 22) s m args below meth c H locs 0 0 Q (F0 m 9 ls [])) (H : Heap) (locs : List Loc) (ls : Array Slot) (h : p_X1_lastStanding_J36 F A B9 K x1 x2) (hP : va_P D vwCl (wX1 cI cZ o q F A : va_W) H) (hD : va_D A9 (wX1 cI cZ o q F A : va_W)) (hS : va_S A9 s.heap H locs) (hl : lv_has ls 3 [(0, .ref o), (1, .int x1), (2, .int x2)]) : W p l e (rmN 1 22) s m args below meth c H locs 0 0 Q (F0 m 36 ls []) := by
  obtain ⟨hx, hb, hml, ht, hown, hK, hA, hE⟩ := id X
  unfold p_X1_lastStanding_J36 at h
  obtain ⟨y36, ey36⟩ : ∃ y : Int32, y = (x2 + (1 : Int32)) := ⟨_, rfl⟩
  replace h := h y36 ey36
  refine lv_iinc (v := y36) (lv' := [(2, .int y36), (0, .ref o), (1, .int x1)]) hx hb dX1_lastStanding_36 hl (k := 2) rfl (by rw [ey36]; rfl) (by decide) rfl (fun ls hl => ?_)
  refine lv_goto (tgt := 9) hx hb dX1_lastStanding_39 (by decide) ?_
  exact hB9 x1 y36 _ _ _ h hP hD hS (lv_sub hl [1, 2, 0] rfl)
def p_X1_lastStanding_L9 (F : tF) (A : tA) (K : Int32 → Prop) : Nat → Int32 → Int32 → Prop
  | 0, _, _ => False
  | n9 + 1, x1, x2 => (((6 : Int32) ≤ x2 → (K x1)) ∧ (¬ (6 : Int32) ≤ x2 → (vp_in x2 6 ∧ (p_X1_isWonBy F A ((A 1) (x2).toNatClampNeg) x1 (fun r23 => ((r23 = 0 → (p_X1_lastStanding_J36 F A (p_X1_lastStanding_L9 F A K n9) K x1 x2)) ∧ (¬ r23 = 0 → (vp_in x2 6 ∧ (∀ y35 : Int32, y35 = ((A 1) (x2).toNatClampNeg) → (p_X1_lastStanding_J36 F A (p_X1_lastStanding_L9 F A K n9) K y35 x2))))))))))
set_option maxHeartbeats 4000000 in
set_option maxRecDepth 100000 in
theorem b_X1_lastStanding_L9 {p : Program} {l : Launch} {e : Env} {s : State} {m : MethodId} {args : Array Value} {below : List Frame} {meth : Method} {c : Code} {Q : State → Prop} {D : va_G} {cI cZ cR : ClassId} {adK adV : Nat → Nat} {A9 : Nat → Prop} {o : Nat} {q : Nat → Nat} {K : Int32 → Prop}  (F : tF) (A : tA) (X : CX p s m args c yX1_lastStanding.cls cX1_lastStanding 3 D cI cZ cR adK adV A9) (ret : RTi p l e (rmN 1 22) s m args below meth c Q cX1_lastStanding D A9 (fun (r : Int32) (u : Unit) => K r) (fun (u : Unit) => (wX1 cI cZ o q F A : va_W)))   : ∀ (n : Nat) (x1 : Int32) (x2 : Int32) (H : Heap) (locs : List Loc) (ls : Array Slot), p_X1_lastStanding_L9 F A K n x1 x2 → va_P D vwCl (wX1 cI cZ o q F A : va_W) H → va_D A9 (wX1 cI cZ o q F A : va_W) → va_S A9 s.heap H locs → lv_has ls 3 [(0, .ref o), (1, .int x1), (2, .int x2)] → W p l e (rmN 1 22) s m args below meth c H locs 0 0 Q (F0 m 9 ls []) := by
  obtain ⟨hx, hb, hml, ht, hown, hK, hA, hE⟩ := id X
  intro n
  induction n with
  | zero => intro x1 x2 H locs ls h; exact False.elim h
  | succ n9 ih =>
    intro x1 x2 H locs ls h hP hD hS hl
    rw [p_X1_lastStanding_L9] at h
    refine lv_iload_n hx hb dX1_lastStanding_9 rfl (lv_at hl 2 rfl) ?_
    refine lv_bipush (v := 6) hx hb dX1_lastStanding_10 (by decide) ?_
    refine lv_icmp_ge (tgt := 42) hx hb dX1_lastStanding_12 (by decide) (fun c12 => ?_) (fun c12 => ?_)
    · replace h := h.1 c12
      refine lv_iload_n hx hb dX1_lastStanding_42 rfl (lv_at hl 1 rfl) ?_
      exact ret _ () _ _ _ _ dX1_lastStanding_43 h hP hD hS
    · replace h := h.2 c12
      refine lv_aload_n hx hb dX1_lastStanding_15 rfl (lv_at hl 0 rfl) ?_
      refine lv_aload_n hx hb dX1_lastStanding_16 rfl (lv_at hl 0 rfl) ?_
      refine va_get (C := RX1) (T := TX1) (N := 4) (own := RX1) (v := .ref (q 1)) hx hb ht inlX1 hown hK hP 0 rfl rfl 1 (Nat.le_of_ble_eq_true rfl) (ht _ mw_4_14) (fun _ h9 => h9) rfl dX1_lastStanding_17 ?_
      refine lv_iload_n hx hb dX1_lastStanding_20 rfl (lv_at hl 2 rfl) ?_
      obtain ⟨hi21, h⟩ := h
      refine g_iald (f := (A 1)) (k := (x2).toNatClampNeg) hx hb hK hP 2 0 rfl rfl hi21 rfl dX1_lastStanding_21 ?_
      refine lv_iload_n hx hb dX1_lastStanding_22 rfl (lv_at hl 1 rfl) ?_
      refine C_vi (wr := []) X hP hD hS [.int ((A 1) (x2).toNatClampNeg), .int x1] [] (w_X1_isWonBy l D cI cZ cR adK adV _ o q F A ((A 1) (x2).toNatClampNeg) x1 _ h) cal_X1_isWonBy mw_35_16 rfl [0, 1, 2] [] [0, 1, 2] (fun u => (wX1 cI cZ o q F A : va_W)) rfl rfl (fun _ => rfl) rfl 0 rfl rfl ⟨rfl, rfl⟩ ⟨Nat.le_of_ble_eq_true rfl, Nat.le_of_ble_eq_true rfl⟩ hl.1 rfl (Nat.le_of_ble_eq_true rfl) ⟨Nat.zero_le _, Nat.zero_le _⟩ dX1_lastStanding_23 (fun r23 u H locs h hP hD hS => ?_)
      refine lv_if_eq (tgt := 36) hx hb dX1_lastStanding_26 (by decide) (fun c26 => ?_) (fun c26 => ?_)
      · replace h := h.1 c26
        exact b_X1_lastStanding_J36 F A x1 x2 X ret ih _ _ _ h hP hD hS (lv_sub hl [0, 1, 2] rfl)
      · replace h := h.2 c26
        refine lv_aload_n hx hb dX1_lastStanding_29 rfl (lv_at hl 0 rfl) ?_
        refine va_get (C := RX1) (T := TX1) (N := 4) (own := RX1) (v := .ref (q 1)) hx hb ht inlX1 hown hK hP 0 rfl rfl 1 (Nat.le_of_ble_eq_true rfl) (ht _ mw_4_14) (fun _ h9 => h9) rfl dX1_lastStanding_30 ?_
        refine lv_iload_n hx hb dX1_lastStanding_33 rfl (lv_at hl 2 rfl) ?_
        obtain ⟨hi34, h⟩ := h
        refine g_iald (f := (A 1)) (k := (x2).toNatClampNeg) hx hb hK hP 2 0 rfl rfl hi34 rfl dX1_lastStanding_34 ?_
        refine lv_topi (fun y35 ey35 => ?_)
        replace h := h y35 ey35
        refine lv_istore_n (lv' := [(1, .int y35), (0, .ref o), (2, .int x2)]) hx hb dX1_lastStanding_35 rfl hl (by decide) rfl (fun ls hl => ?_)
        exact b_X1_lastStanding_J36 F A y35 x2 X ret ih _ _ _ h hP hD hS (lv_sub hl [1, 0, 2] rfl)
def p_X1_lastStanding (F : tF) (A : tA) (K : Int32 → Prop) : Prop := (∀ y6 : Int32, y6 = ((A 1) 0) → (∃ n9, p_X1_lastStanding_L9 F A K n9 y6 (1 : Int32)))
set_option maxHeartbeats 4000000 in
set_option maxRecDepth 100000 in
theorem w_X1_lastStanding (l : Launch) (D : va_G) (cI cZ cR : ClassId) (adK adV : Nat → Nat) (sz : Nat) (o : Nat) (q : Nat → Nat) (F : tF) (A : tA) (K : Int32 → Prop) (h : p_X1_lastStanding F A K) : MI l D cI cZ cR adK adV yX1_lastStanding cX1_lastStanding 3 (some .int) (rmN 1 22) [.ref o] (wX1 cI cZ o q F A : va_W) sz (fun (r : Int32) (u : Unit) => K r) (fun (u : Unit) => (wX1 cI cZ o q F A : va_W)) := by
  refine M_i (by decide +kernel) (Nat.le_of_ble_eq_true rfl) ?_
  intro p e s m args below meth c Q A9 ls X ret hP hD hS hl
  obtain ⟨hx, hb, hml, ht, hown, hK, hA, hE⟩ := id X
  have hl : lv_has ls 3 [(0, .ref o)] := hl
  unfold p_X1_lastStanding at h
  refine lv_aload_n hx hb dX1_lastStanding_0 rfl (lv_at hl 0 rfl) ?_
  refine va_get (C := RX1) (T := TX1) (N := 4) (own := RX1) (v := .ref (q 1)) hx hb ht inlX1 hown hK hP 0 rfl rfl 1 (Nat.le_of_ble_eq_true rfl) (ht _ mw_4_14) (fun _ h9 => h9) rfl dX1_lastStanding_1 ?_
  refine lv_iconst (v := 0) hx hb dX1_lastStanding_4 (by decide) ?_
  refine g_iald (f := (A 1)) (k := 0) hx hb hK hP 2 0 rfl rfl (vp_in_lit rfl : vp_in (0 : Int32) 6) (by decide) dX1_lastStanding_5 ?_
  refine lv_topi (fun y6 ey6 => ?_)
  replace h := h y6 ey6
  refine lv_istore_n (lv' := [(1, .int y6), (0, .ref o)]) hx hb dX1_lastStanding_6 rfl hl (by decide) rfl (fun ls hl => ?_)
  refine lv_iconst (v := 1) hx hb dX1_lastStanding_7 (by decide) ?_
  refine lv_istore_n (lv' := [(2, .int (1 : Int32)), (1, .int y6), (0, .ref o)]) hx hb dX1_lastStanding_8 rfl hl (by decide) rfl (fun ls hl => ?_)
  obtain ⟨n9, h⟩ := h
  exact b_X1_lastStanding_L9 F A X ret  n9 y6 (1 : Int32) _ _ _ h hP hD hS (lv_sub hl [2, 1, 0] rfl)
theorem cal_X1_leftOverAt : CalS yX1_leftOverAt cX1_leftOverAt 4 (some .int) 2 := ⟨mw_37_3, mw_2_6, mw_37_2, ⟨by decide +kernel, by decide +kernel, by decide +kernel⟩⟩
theorem dX1_setOrder_0 : decode cX1_setOrder 0 = .ok (.bipush 63, 2) := by decide +kernel
theorem dX1_setOrder_2 : decode cX1_setOrder 2 = .ok (.istore_n 2, 1) := by decide +kernel
theorem dX1_setOrder_3 : decode cX1_setOrder 3 = .ok (.iload_n 1, 1) := by decide +kernel
theorem dX1_setOrder_4 : decode cX1_setOrder 4 = .ok (.istore_n 3, 1) := by decide +kernel
theorem dX1_setOrder_5 : decode cX1_setOrder 5 = .ok (.sipush 720, 3) := by decide +kernel
theorem dX1_setOrder_8 : decode cX1_setOrder 8 = .ok (.istore 4, 2) := by decide +kernel
theorem dX1_setOrder_10 : decode cX1_setOrder 10 = .ok (.iconst 0, 1) := by decide +kernel
theorem dX1_setOrder_11 : decode cX1_setOrder 11 = .ok (.istore 5, 2) := by decide +kernel
theorem dX1_setOrder_13 : decode cX1_setOrder 13 = .ok (.iconst 0, 1) := by decide +kernel
theorem dX1_setOrder_14 : decode cX1_setOrder 14 = .ok (.istore 6, 2) := by decide +kernel
theorem dX1_setOrder_16 : decode cX1_setOrder 16 = .ok (.iload 6, 2) := by decide +kernel
theorem dX1_setOrder_18 : decode cX1_setOrder 18 = .ok (.bipush 6, 2) := by decide +kernel
theorem dX1_setOrder_20 : decode cX1_setOrder 20 = .ok (.if_icmp .ge 78, 3) := by decide +kernel
theorem dX1_setOrder_23 : decode cX1_setOrder 23 = .ok (.iload 4, 2) := by decide +kernel
theorem dX1_setOrder_25 : decode cX1_setOrder 25 = .ok (.bipush 6, 2) := by decide +kernel
theorem dX1_setOrder_27 : decode cX1_setOrder 27 = .ok (.iload 6, 2) := by decide +kernel
theorem dX1_setOrder_29 : decode cX1_setOrder 29 = .ok (.isub, 1) := by decide +kernel
theorem dX1_setOrder_30 : decode cX1_setOrder 30 = .ok (.idiv, 1) := by decide +kernel
theorem dX1_setOrder_31 : decode cX1_setOrder 31 = .ok (.istore 4, 2) := by decide +kernel
theorem dX1_setOrder_33 : decode cX1_setOrder 33 = .ok (.iload 4, 2) := by decide +kernel
theorem dX1_setOrder_35 : decode cX1_setOrder 35 = .ok (.ifCond .ne 7, 3) := by decide +kernel
theorem dX1_setOrder_38 : decode cX1_setOrder 38 = .ok (.iconst 0, 1) := by decide +kernel
theorem dX1_setOrder_39 : decode cX1_setOrder 39 = .ok (.goto 7, 3) := by decide +kernel
theorem dX1_setOrder_42 : decode cX1_setOrder 42 = .ok (.iload_n 3, 1) := by decide +kernel
theorem dX1_setOrder_43 : decode cX1_setOrder 43 = .ok (.iload 4, 2) := by decide +kernel
theorem dX1_setOrder_45 : decode cX1_setOrder 45 = .ok (.idiv, 1) := by decide +kernel
theorem dX1_setOrder_46 : decode cX1_setOrder 46 = .ok (.istore 7, 2) := by decide +kernel
theorem dX1_setOrder_48 : decode cX1_setOrder 48 = .ok (.iload_n 3, 1) := by decide +kernel
theorem dX1_setOrder_49 : decode cX1_setOrder 49 = .ok (.iload 7, 2) := by decide +kernel
theorem dX1_setOrder_51 : decode cX1_setOrder 51 = .ok (.iload 4, 2) := by decide +kernel
theorem dX1_setOrder_53 : decode cX1_setOrder 53 = .ok (.imul, 1) := by decide +kernel
theorem dX1_setOrder_54 : decode cX1_setOrder 54 = .ok (.isub, 1) := by decide +kernel
theorem dX1_setOrder_55 : decode cX1_setOrder 55 = .ok (.istore_n 3, 1) := by decide +kernel
theorem dX1_setOrder_56 : decode cX1_setOrder 56 = .ok (.iload_n 2, 1) := by decide +kernel
theorem dX1_setOrder_57 : decode cX1_setOrder 57 = .ok (.iload 7, 2) := by decide +kernel
theorem dX1_setOrder_59 : decode cX1_setOrder 59 = .ok (.invokestatic 45, 3) := by decide +kernel
theorem dX1_setOrder_62 : decode cX1_setOrder 62 = .ok (.istore 8, 2) := by decide +kernel
theorem dX1_setOrder_64 : decode cX1_setOrder 64 = .ok (.iload_n 2, 1) := by decide +kernel
theorem dX1_setOrder_65 : decode cX1_setOrder 65 = .ok (.iconst 1, 1) := by decide +kernel
theorem dX1_setOrder_66 : decode cX1_setOrder 66 = .ok (.iload 8, 2) := by decide +kernel
theorem dX1_setOrder_68 : decode cX1_setOrder 68 = .ok (.ishl, 1) := by decide +kernel
theorem dX1_setOrder_69 : decode cX1_setOrder 69 = .ok (.iconst (-1), 1) := by decide +kernel
theorem dX1_setOrder_70 : decode cX1_setOrder 70 = .ok (.ixor, 1) := by decide +kernel
theorem dX1_setOrder_71 : decode cX1_setOrder 71 = .ok (.iand, 1) := by decide +kernel
theorem dX1_setOrder_72 : decode cX1_setOrder 72 = .ok (.istore_n 2, 1) := by decide +kernel
theorem dX1_setOrder_73 : decode cX1_setOrder 73 = .ok (.aload_n 0, 1) := by decide +kernel
theorem dX1_setOrder_74 : decode cX1_setOrder 74 = .ok (.getfield 15, 3) := by decide +kernel
theorem dX1_setOrder_77 : decode cX1_setOrder 77 = .ok (.iload 6, 2) := by decide +kernel
theorem dX1_setOrder_79 : decode cX1_setOrder 79 = .ok (.iload 8, 2) := by decide +kernel
theorem dX1_setOrder_81 : decode cX1_setOrder 81 = .ok (.iastore, 1) := by decide +kernel
theorem dX1_setOrder_82 : decode cX1_setOrder 82 = .ok (.iload 5, 2) := by decide +kernel
theorem dX1_setOrder_84 : decode cX1_setOrder 84 = .ok (.bipush 10, 2) := by decide +kernel
theorem dX1_setOrder_86 : decode cX1_setOrder 86 = .ok (.imul, 1) := by decide +kernel
theorem dX1_setOrder_87 : decode cX1_setOrder 87 = .ok (.iload 8, 2) := by decide +kernel
theorem dX1_setOrder_89 : decode cX1_setOrder 89 = .ok (.iadd, 1) := by decide +kernel
theorem dX1_setOrder_90 : decode cX1_setOrder 90 = .ok (.istore 5, 2) := by decide +kernel
theorem dX1_setOrder_92 : decode cX1_setOrder 92 = .ok (.iinc 6 1, 3) := by decide +kernel
theorem dX1_setOrder_95 : decode cX1_setOrder 95 = .ok (.goto (-79), 3) := by decide +kernel
theorem dX1_setOrder_98 : decode cX1_setOrder 98 = .ok (.iload 5, 2) := by decide +kernel
theorem dX1_setOrder_100 : decode cX1_setOrder 100 = .ok (.ireturn, 1) := by decide +kernel
def p_X1_setOrder_J46 (F : tF) (A : tA) (B16 : (tF → tA → Int32 → Int32 → Int32 → Int32 → Int32 → Prop)) (K : Int32 → tF → tA → Prop) (x2 : Int32) (x3 : Int32) (x4 : Int32) (x5 : Int32) (x6 : Int32) (s0 : Int32) : Prop := (∀ y55 : Int32, y55 = (x3 - (s0 * x4)) → (p_X1_leftOverAt x2 s0 (fun r59 => (∀ y72 : Int32, y72 = (x2 &&& (((1 : Int32) <<< (r59 &&& 31)) ^^^ (-1 : Int32))) → (vp_in x6 6 ∧ (∀ f_81 : tF, f_81 = (upd (A 1) (x6).toNatClampNeg r59) → (∀ y90 : Int32, y90 = ((x5 * (10 : Int32)) + r59) → (∀ y92 : Int32, y92 = (x6 + (1 : Int32)) → (B16 F (va_up A 1 f_81) y72 y55 x4 y90 y92)))))))))
set_option maxHeartbeats 4000000 in
set_option maxRecDepth 100000 in
theorem b_X1_setOrder_J46 {p : Program} {l : Launch} {e : Env} {s : State} {m : MethodId} {args : Array Value} {below : List Frame} {meth : Method} {c : Code} {Q : State → Prop} {D : va_G} {cI cZ cR : ClassId} {adK adV : Nat → Nat} {A9 : Nat → Prop} {o : Nat} {q : Nat → Nat} {K : Int32 → tF → tA → Prop} {B16 : (tF → tA → Int32 → Int32 → Int32 → Int32 → Int32 → Prop)} (F : tF) (A : tA) (x2 : Int32) (x3 : Int32) (x4 : Int32) (x5 : Int32) (x6 : Int32) (s0 : Int32) (X : CX p s m args c yX1_setOrder.cls cX1_setOrder 9 D cI cZ cR adK adV A9) (ret : RTi p l e (rmN 1 23) s m args below meth c Q cX1_setOrder D A9 (fun (r : Int32) (u : (tF × tA)) => K r u.1 u.2) (fun (u : (tF × tA)) => (wX1 cI cZ o q u.1 u.2 : va_W))) (hB16 : ∀ (F : tF) (A : tA) (x2 : Int32) (x3 : Int32) (x4 : Int32) (x5 : Int32) (x6 : Int32) (H : Heap) (locs : List Loc) (ls : Array Slot), B16 F A x2 x3 x4 x5 x6 → va_P D vwCl (wX1 cI cZ o q F A : va_W) H → va_D A9 (wX1 cI cZ o q F A : va_W) → va_S A9 s.heap H locs → lv_has ls 9 [(0, .ref o), (2, .int x2), (3, .int x3), (4, .int x4), (5, .int x5), (6, .int x6)] → W p l e (rmN 1 23) s m args below meth c H locs 0 0 Q (F0 m 16 ls [])) (H : Heap) (locs : List Loc) (ls : Array Slot) (h : p_X1_setOrder_J46 F A B16 K x2 x3 x4 x5 x6 s0) (hP : va_P D vwCl (wX1 cI cZ o q F A : va_W) H) (hD : va_D A9 (wX1 cI cZ o q F A : va_W)) (hS : va_S A9 s.heap H locs) (hl : lv_has ls 9 [(0, .ref o), (2, .int x2), (3, .int x3), (4, .int x4), (5, .int x5), (6, .int x6)]) : W p l e (rmN 1 23) s m args below meth c H locs 0 0 Q (F0 m 46 ls [.int s0]) := by
  obtain ⟨hx, hb, hml, ht, hown, hK, hA, hE⟩ := id X
  unfold p_X1_setOrder_J46 at h
  refine lv_istore (lv' := [(7, .int s0), (0, .ref o), (2, .int x2), (3, .int x3), (4, .int x4), (5, .int x5), (6, .int x6)]) hx hb dX1_setOrder_46 hl (by decide) rfl (fun ls hl => ?_)
  refine lv_iload_n hx hb dX1_setOrder_48 rfl (lv_at hl 3 rfl) ?_
  refine lv_iload hx hb dX1_setOrder_49 (lv_at hl 0 rfl) ?_
  refine lv_iload hx hb dX1_setOrder_51 (lv_at hl 4 rfl) ?_
  refine lv_imul hx hb dX1_setOrder_53 ?_
  refine lv_isub hx hb dX1_setOrder_54 ?_
  refine lv_topi (fun y55 ey55 => ?_)
  replace h := h y55 ey55
  refine lv_istore_n (lv' := [(3, .int y55), (7, .int s0), (0, .ref o), (2, .int x2), (4, .int x4), (5, .int x5), (6, .int x6)]) hx hb dX1_setOrder_55 rfl hl (by decide) rfl (fun ls hl => ?_)
  refine lv_iload_n hx hb dX1_setOrder_56 rfl (lv_at hl 3 rfl) ?_
  refine lv_iload hx hb dX1_setOrder_57 (lv_at hl 1 rfl) ?_
  refine C_si (wr := [0, 1, 2].filterMap (fun i => (wX1 cI cZ o q F A : va_W)[i]?)) X hP hD hS [.int x2, .int s0] [] (w_X1_leftOverAt l D cI cZ cR adK adV _ x2 s0 _ h) cal_X1_leftOverAt mw_37_1 rfl [] [0, 1, 2] [0, 1, 2] (fun u => (wX1 cI cZ o q F A : va_W)) rfl rfl (fun _ => rfl) rfl ⟨rfl, rfl⟩ ⟨Nat.le_of_ble_eq_true rfl, Nat.le_of_ble_eq_true rfl⟩ hl.1 rfl (Nat.le_of_ble_eq_true rfl) ⟨Nat.zero_le _, Nat.zero_le _⟩ dX1_setOrder_59 (fun r59 u H locs h hP hD hS => ?_)
  refine lv_istore (lv' := [(8, .int r59), (3, .int y55), (7, .int s0), (0, .ref o), (2, .int x2), (4, .int x4), (5, .int x5), (6, .int x6)]) hx hb dX1_setOrder_62 hl (by decide) rfl (fun ls hl => ?_)
  refine lv_iload_n hx hb dX1_setOrder_64 rfl (lv_at hl 4 rfl) ?_
  refine lv_iconst (v := 1) hx hb dX1_setOrder_65 (by decide) ?_
  refine lv_iload hx hb dX1_setOrder_66 (lv_at hl 0 rfl) ?_
  refine lv_ishl hx hb dX1_setOrder_68 ?_
  refine lv_iconst (v := -1) hx hb dX1_setOrder_69 (by decide) ?_
  refine lv_ixor hx hb dX1_setOrder_70 ?_
  refine lv_iand hx hb dX1_setOrder_71 ?_
  refine lv_topi (fun y72 ey72 => ?_)
  replace h := h y72 ey72
  refine lv_istore_n (lv' := [(2, .int y72), (8, .int r59), (3, .int y55), (7, .int s0), (0, .ref o), (4, .int x4), (5, .int x5), (6, .int x6)]) hx hb dX1_setOrder_72 rfl hl (by decide) rfl (fun ls hl => ?_)
  refine lv_aload_n hx hb dX1_setOrder_73 rfl (lv_at hl 4 rfl) ?_
  refine va_get (C := RX1) (T := TX1) (N := 4) (own := RX1) (v := .ref (q 1)) hx hb ht inlX1 hown hK hP 0 rfl rfl 1 (Nat.le_of_ble_eq_true rfl) (ht _ mw_4_14) (fun _ h9 => h9) rfl dX1_setOrder_74 ?_
  refine lv_iload hx hb dX1_setOrder_77 (lv_at hl 7 rfl) ?_
  refine lv_iload hx hb dX1_setOrder_79 (lv_at hl 1 rfl) ?_
  obtain ⟨hi81, h⟩ := h
  obtain ⟨f_81, ef_81⟩ : ∃ z : tF, z = (upd (A 1) (x6).toNatClampNeg r59) := ⟨_, rfl⟩
  replace h := h f_81 ef_81
  refine g_iast (f := (A 1)) (k := (x6).toNatClampNeg) hx hb hK hP hD hS 2 0 rfl rfl hi81 rfl ef_81 dX1_setOrder_81 (fun H locs hP hD hS => ?_)
  have hP : va_P D vwCl (wX1 cI cZ o q F (va_up A 1 f_81) : va_W) H := hP
  have hD : va_D A9 (wX1 cI cZ o q F (va_up A 1 f_81) : va_W) := hD
  refine lv_iload hx hb dX1_setOrder_82 (lv_at hl 6 rfl) ?_
  refine lv_bipush (v := 10) hx hb dX1_setOrder_84 (by decide) ?_
  refine lv_imul hx hb dX1_setOrder_86 ?_
  refine lv_iload hx hb dX1_setOrder_87 (lv_at hl 1 rfl) ?_
  refine lv_iadd hx hb dX1_setOrder_89 ?_
  refine lv_topi (fun y90 ey90 => ?_)
  replace h := h y90 ey90
  refine lv_istore (lv' := [(5, .int y90), (2, .int y72), (8, .int r59), (3, .int y55), (7, .int s0), (0, .ref o), (4, .int x4), (6, .int x6)]) hx hb dX1_setOrder_90 hl (by decide) rfl (fun ls hl => ?_)
  obtain ⟨y92, ey92⟩ : ∃ y : Int32, y = (x6 + (1 : Int32)) := ⟨_, rfl⟩
  replace h := h y92 ey92
  refine lv_iinc (v := y92) (lv' := [(6, .int y92), (5, .int y90), (2, .int y72), (8, .int r59), (3, .int y55), (7, .int s0), (0, .ref o), (4, .int x4)]) hx hb dX1_setOrder_92 hl (k := 7) rfl (by rw [ey92]; rfl) (by decide) rfl (fun ls hl => ?_)
  refine lv_goto (tgt := 16) hx hb dX1_setOrder_95 (by decide) ?_
  exact hB16 F (va_up A 1 f_81) y72 y55 x4 y90 y92 _ _ _ h hP hD hS (lv_sub hl [6, 2, 4, 7, 1, 0] rfl)
def p_X1_setOrder_L16 (K : Int32 → tF → tA → Prop) : Nat → tF → tA → Int32 → Int32 → Int32 → Int32 → Int32 → Prop
  | 0, _, _, _, _, _, _, _ => False
  | n16 + 1, F, A, x2, x3, x4, x5, x6 => (((6 : Int32) ≤ x6 → (K x5 F A)) ∧ (¬ (6 : Int32) ≤ x6 → (¬ ((6 : Int32) - x6) = 0 ∧ (∀ y31 : Int32, y31 = (x4 / ((6 : Int32) - x6)) → ((¬ y31 = 0 → (¬ y31 = 0 ∧ (p_X1_setOrder_J46 F A (p_X1_setOrder_L16 K n16) K x2 x3 y31 x5 x6 (x3 / y31)))) ∧ (y31 = 0 → (p_X1_setOrder_J46 F A (p_X1_setOrder_L16 K n16) K x2 x3 y31 x5 x6 (0 : Int32))))))))
set_option maxHeartbeats 4000000 in
set_option maxRecDepth 100000 in
theorem b_X1_setOrder_L16 {p : Program} {l : Launch} {e : Env} {s : State} {m : MethodId} {args : Array Value} {below : List Frame} {meth : Method} {c : Code} {Q : State → Prop} {D : va_G} {cI cZ cR : ClassId} {adK adV : Nat → Nat} {A9 : Nat → Prop} {o : Nat} {q : Nat → Nat} {K : Int32 → tF → tA → Prop}   (X : CX p s m args c yX1_setOrder.cls cX1_setOrder 9 D cI cZ cR adK adV A9) (ret : RTi p l e (rmN 1 23) s m args below meth c Q cX1_setOrder D A9 (fun (r : Int32) (u : (tF × tA)) => K r u.1 u.2) (fun (u : (tF × tA)) => (wX1 cI cZ o q u.1 u.2 : va_W)))   : ∀ (n : Nat) (F : tF) (A : tA) (x2 : Int32) (x3 : Int32) (x4 : Int32) (x5 : Int32) (x6 : Int32) (H : Heap) (locs : List Loc) (ls : Array Slot), p_X1_setOrder_L16 K n F A x2 x3 x4 x5 x6 → va_P D vwCl (wX1 cI cZ o q F A : va_W) H → va_D A9 (wX1 cI cZ o q F A : va_W) → va_S A9 s.heap H locs → lv_has ls 9 [(0, .ref o), (2, .int x2), (3, .int x3), (4, .int x4), (5, .int x5), (6, .int x6)] → W p l e (rmN 1 23) s m args below meth c H locs 0 0 Q (F0 m 16 ls []) := by
  obtain ⟨hx, hb, hml, ht, hown, hK, hA, hE⟩ := id X
  intro n
  induction n with
  | zero => intro F A x2 x3 x4 x5 x6 H locs ls h; exact False.elim h
  | succ n16 ih =>
    intro F A x2 x3 x4 x5 x6 H locs ls h hP hD hS hl
    rw [p_X1_setOrder_L16] at h
    refine lv_iload hx hb dX1_setOrder_16 (lv_at hl 5 rfl) ?_
    refine lv_bipush (v := 6) hx hb dX1_setOrder_18 (by decide) ?_
    refine lv_icmp_ge (tgt := 98) hx hb dX1_setOrder_20 (by decide) (fun c20 => ?_) (fun c20 => ?_)
    · replace h := h.1 c20
      refine lv_iload hx hb dX1_setOrder_98 (lv_at hl 4 rfl) ?_
      exact ret _ (F, A) _ _ _ _ dX1_setOrder_100 h hP hD hS
    · replace h := h.2 c20
      refine lv_iload hx hb dX1_setOrder_23 (lv_at hl 3 rfl) ?_
      refine lv_bipush (v := 6) hx hb dX1_setOrder_25 (by decide) ?_
      refine lv_iload hx hb dX1_setOrder_27 (lv_at hl 5 rfl) ?_
      refine lv_isub hx hb dX1_setOrder_29 ?_
      obtain ⟨hz30, h⟩ := h
      refine lv_idiv hx hb dX1_setOrder_30 hz30 ?_
      refine lv_topi (fun y31 ey31 => ?_)
      replace h := h y31 ey31
      refine lv_istore (lv' := [(4, .int y31), (0, .ref o), (2, .int x2), (3, .int x3), (5, .int x5), (6, .int x6)]) hx hb dX1_setOrder_31 hl (by decide) rfl (fun ls hl => ?_)
      refine lv_iload hx hb dX1_setOrder_33 (lv_at hl 0 rfl) ?_
      refine lv_if_ne (tgt := 42) hx hb dX1_setOrder_35 (by decide) (fun c35 => ?_) (fun c35 => ?_)
      · replace h := h.1 c35
        refine lv_iload_n hx hb dX1_setOrder_42 rfl (lv_at hl 3 rfl) ?_
        refine lv_iload hx hb dX1_setOrder_43 (lv_at hl 0 rfl) ?_
        obtain ⟨hz45, h⟩ := h
        refine lv_idiv hx hb dX1_setOrder_45 hz45 ?_
        exact b_X1_setOrder_J46 F A x2 x3 y31 x5 x6 (x3 / y31) X ret ih _ _ _ h hP hD hS (lv_sub hl [1, 2, 3, 0, 4, 5] rfl)
      · replace h := h.2 c35
        refine lv_iconst (v := 0) hx hb dX1_setOrder_38 (by decide) ?_
        refine lv_goto (tgt := 46) hx hb dX1_setOrder_39 (by decide) ?_
        exact b_X1_setOrder_J46 F A x2 x3 y31 x5 x6 (0 : Int32) X ret ih _ _ _ h hP hD hS (lv_sub hl [1, 2, 3, 0, 4, 5] rfl)
def p_X1_setOrder (F : tF) (A : tA) (x1 : Int32) (K : Int32 → tF → tA → Prop) : Prop := (∃ n16, p_X1_setOrder_L16 K n16 F A (63 : Int32) x1 (720 : Int32) (0 : Int32) (0 : Int32))
set_option maxHeartbeats 4000000 in
set_option maxRecDepth 100000 in
theorem w_X1_setOrder (l : Launch) (D : va_G) (cI cZ cR : ClassId) (adK adV : Nat → Nat) (sz : Nat) (o : Nat) (q : Nat → Nat) (F : tF) (A : tA) (x1 : Int32) (K : Int32 → tF → tA → Prop) (h : p_X1_setOrder F A x1 K) : MI l D cI cZ cR adK adV yX1_setOrder cX1_setOrder 9 (some .int) (rmN 1 23) [.ref o, .int x1] (wX1 cI cZ o q F A : va_W) sz (fun (r : Int32) (u : (tF × tA)) => K r u.1 u.2) (fun (u : (tF × tA)) => (wX1 cI cZ o q u.1 u.2 : va_W)) := by
  refine M_i (by decide +kernel) (Nat.le_of_ble_eq_true rfl) ?_
  intro p e s m args below meth c Q A9 ls X ret hP hD hS hl
  obtain ⟨hx, hb, hml, ht, hown, hK, hA, hE⟩ := id X
  have hl : lv_has ls 9 [(0, .ref o), (1, .int x1)] := hl
  unfold p_X1_setOrder at h
  refine lv_bipush (v := 63) hx hb dX1_setOrder_0 (by decide) ?_
  refine lv_istore_n (lv' := [(2, .int (63 : Int32)), (0, .ref o), (1, .int x1)]) hx hb dX1_setOrder_2 rfl hl (by decide) rfl (fun ls hl => ?_)
  refine lv_iload_n hx hb dX1_setOrder_3 rfl (lv_at hl 2 rfl) ?_
  refine lv_istore_n (lv' := [(3, .int x1), (2, .int (63 : Int32)), (0, .ref o), (1, .int x1)]) hx hb dX1_setOrder_4 rfl hl (by decide) rfl (fun ls hl => ?_)
  refine lv_sipush (v := 720) hx hb dX1_setOrder_5 (by decide) ?_
  refine lv_istore (lv' := [(4, .int (720 : Int32)), (3, .int x1), (2, .int (63 : Int32)), (0, .ref o), (1, .int x1)]) hx hb dX1_setOrder_8 hl (by decide) rfl (fun ls hl => ?_)
  refine lv_iconst (v := 0) hx hb dX1_setOrder_10 (by decide) ?_
  refine lv_istore (lv' := [(5, .int (0 : Int32)), (4, .int (720 : Int32)), (3, .int x1), (2, .int (63 : Int32)), (0, .ref o), (1, .int x1)]) hx hb dX1_setOrder_11 hl (by decide) rfl (fun ls hl => ?_)
  refine lv_iconst (v := 0) hx hb dX1_setOrder_13 (by decide) ?_
  refine lv_istore (lv' := [(6, .int (0 : Int32)), (5, .int (0 : Int32)), (4, .int (720 : Int32)), (3, .int x1), (2, .int (63 : Int32)), (0, .ref o), (1, .int x1)]) hx hb dX1_setOrder_14 hl (by decide) rfl (fun ls hl => ?_)
  obtain ⟨n16, h⟩ := h
  exact b_X1_setOrder_L16  X ret  n16 F A (63 : Int32) x1 (720 : Int32) (0 : Int32) (0 : Int32) _ _ _ h hP hD hS (lv_sub hl [5, 4, 3, 2, 1, 0] rfl)
theorem cal_X1_setOrder : CalV yX1_setOrder cX1_setOrder 9 (some .int) 1 := ⟨mw_37_0, mw_2_6, mw_36_22, mw_36_23, ⟨by decide +kernel, by decide +kernel, by decide +kernel⟩⟩
theorem cal_X1_lastStanding : CalV yX1_lastStanding cX1_lastStanding 3 (some .int) 0 := ⟨mw_35_15, mw_2_6, mw_35_13, mw_35_14, ⟨by decide +kernel, by decide +kernel, by decide +kernel⟩⟩
theorem dX1_tryOrdersFor_0 : decode cX1_tryOrdersFor 0 = .ok (.aload_n 0, 1) := by decide +kernel
theorem dX1_tryOrdersFor_1 : decode cX1_tryOrdersFor 1 = .ok (.iconst 0, 1) := by decide +kernel
theorem dX1_tryOrdersFor_2 : decode cX1_tryOrdersFor 2 = .ok (.putfield 19, 3) := by decide +kernel
theorem dX1_tryOrdersFor_5 : decode cX1_tryOrdersFor 5 = .ok (.iconst 0, 1) := by decide +kernel
theorem dX1_tryOrdersFor_6 : decode cX1_tryOrdersFor 6 = .ok (.istore_n 2, 1) := by decide +kernel
theorem dX1_tryOrdersFor_7 : decode cX1_tryOrdersFor 7 = .ok (.iload_n 2, 1) := by decide +kernel
theorem dX1_tryOrdersFor_8 : decode cX1_tryOrdersFor 8 = .ok (.sipush 720, 3) := by decide +kernel
theorem dX1_tryOrdersFor_11 : decode cX1_tryOrdersFor 11 = .ok (.if_icmp .ge 45, 3) := by decide +kernel
theorem dX1_tryOrdersFor_14 : decode cX1_tryOrdersFor 14 = .ok (.aload_n 0, 1) := by decide +kernel
theorem dX1_tryOrdersFor_15 : decode cX1_tryOrdersFor 15 = .ok (.iload_n 2, 1) := by decide +kernel
theorem dX1_tryOrdersFor_16 : decode cX1_tryOrdersFor 16 = .ok (.invokevirtual 37, 3) := by decide +kernel
theorem dX1_tryOrdersFor_19 : decode cX1_tryOrdersFor 19 = .ok (.istore_n 3, 1) := by decide +kernel
theorem dX1_tryOrdersFor_20 : decode cX1_tryOrdersFor 20 = .ok (.aload_n 0, 1) := by decide +kernel
theorem dX1_tryOrdersFor_21 : decode cX1_tryOrdersFor 21 = .ok (.invokevirtual 41, 3) := by decide +kernel
theorem dX1_tryOrdersFor_24 : decode cX1_tryOrdersFor 24 = .ok (.iload_n 1, 1) := by decide +kernel
theorem dX1_tryOrdersFor_25 : decode cX1_tryOrdersFor 25 = .ok (.if_icmp .ne 25, 3) := by decide +kernel
theorem dX1_tryOrdersFor_28 : decode cX1_tryOrdersFor 28 = .ok (.aload_n 0, 1) := by decide +kernel
theorem dX1_tryOrdersFor_29 : decode cX1_tryOrdersFor 29 = .ok (.getfield 19, 3) := by decide +kernel
theorem dX1_tryOrdersFor_32 : decode cX1_tryOrdersFor 32 = .ok (.ifCond .ne 8, 3) := by decide +kernel
theorem dX1_tryOrdersFor_35 : decode cX1_tryOrdersFor 35 = .ok (.aload_n 0, 1) := by decide +kernel
theorem dX1_tryOrdersFor_36 : decode cX1_tryOrdersFor 36 = .ok (.iload_n 3, 1) := by decide +kernel
theorem dX1_tryOrdersFor_37 : decode cX1_tryOrdersFor 37 = .ok (.putfield 23, 3) := by decide +kernel
theorem dX1_tryOrdersFor_40 : decode cX1_tryOrdersFor 40 = .ok (.aload_n 0, 1) := by decide +kernel
theorem dX1_tryOrdersFor_41 : decode cX1_tryOrdersFor 41 = .ok (.dup, 1) := by decide +kernel
theorem dX1_tryOrdersFor_42 : decode cX1_tryOrdersFor 42 = .ok (.getfield 19, 3) := by decide +kernel
theorem dX1_tryOrdersFor_45 : decode cX1_tryOrdersFor 45 = .ok (.iconst 1, 1) := by decide +kernel
theorem dX1_tryOrdersFor_46 : decode cX1_tryOrdersFor 46 = .ok (.iadd, 1) := by decide +kernel
theorem dX1_tryOrdersFor_47 : decode cX1_tryOrdersFor 47 = .ok (.putfield 19, 3) := by decide +kernel
theorem dX1_tryOrdersFor_50 : decode cX1_tryOrdersFor 50 = .ok (.iinc 2 1, 3) := by decide +kernel
theorem dX1_tryOrdersFor_53 : decode cX1_tryOrdersFor 53 = .ok (.goto (-46), 3) := by decide +kernel
theorem dX1_tryOrdersFor_56 : decode cX1_tryOrdersFor 56 = .ok (.return_, 1) := by decide +kernel
def p_X1_tryOrdersFor_J50 (F : tF) (A : tA) (B7 : (tF → tA → Int32 → Prop)) (K : tF → tA → Prop) (x1 : Int32) (x2 : Int32) : Prop := (∀ y50 : Int32, y50 = (x2 + (1 : Int32)) → (B7 F A y50))
set_option maxHeartbeats 4000000 in
set_option maxRecDepth 100000 in
theorem b_X1_tryOrdersFor_J50 {p : Program} {l : Launch} {e : Env} {s : State} {m : MethodId} {args : Array Value} {below : List Frame} {meth : Method} {c : Code} {Q : State → Prop} {D : va_G} {cI cZ cR : ClassId} {adK adV : Nat → Nat} {A9 : Nat → Prop} {o : Nat} {q : Nat → Nat} {K : tF → tA → Prop} {B7 : (tF → tA → Int32 → Prop)} (F : tF) (A : tA) (x1 : Int32) (x2 : Int32) (X : CX p s m args c yX1_tryOrdersFor.cls cX1_tryOrdersFor 4 D cI cZ cR adK adV A9) (ret : RTv p l e (rmN 2 51) s m args below meth c Q cX1_tryOrdersFor D A9 (fun (u : (tF × tA)) => K u.1 u.2) (fun (u : (tF × tA)) => (wX1 cI cZ o q u.1 u.2 : va_W))) (hB7 : ∀ (F : tF) (A : tA) (x2 : Int32) (H : Heap) (locs : List Loc) (ls : Array Slot), B7 F A x2 → va_P D vwCl (wX1 cI cZ o q F A : va_W) H → va_D A9 (wX1 cI cZ o q F A : va_W) → va_S A9 s.heap H locs → lv_has ls 4 [(0, .ref o), (1, .int x1), (2, .int x2)] → W p l e (rmN 2 51) s m args below meth c H locs 0 0 Q (F0 m 7 ls [])) (H : Heap) (locs : List Loc) (ls : Array Slot) (h : p_X1_tryOrdersFor_J50 F A B7 K x1 x2) (hP : va_P D vwCl (wX1 cI cZ o q F A : va_W) H) (hD : va_D A9 (wX1 cI cZ o q F A : va_W)) (hS : va_S A9 s.heap H locs) (hl : lv_has ls 4 [(0, .ref o), (1, .int x1), (2, .int x2)]) : W p l e (rmN 2 51) s m args below meth c H locs 0 0 Q (F0 m 50 ls []) := by
  obtain ⟨hx, hb, hml, ht, hown, hK, hA, hE⟩ := id X
  unfold p_X1_tryOrdersFor_J50 at h
  obtain ⟨y50, ey50⟩ : ∃ y : Int32, y = (x2 + (1 : Int32)) := ⟨_, rfl⟩
  replace h := h y50 ey50
  refine lv_iinc (v := y50) (lv' := [(2, .int y50), (0, .ref o), (1, .int x1)]) hx hb dX1_tryOrdersFor_50 hl (k := 2) rfl (by rw [ey50]; rfl) (by decide) rfl (fun ls hl => ?_)
  refine lv_goto (tgt := 7) hx hb dX1_tryOrdersFor_53 (by decide) ?_
  exact hB7 F A y50 _ _ _ h hP hD hS (lv_sub hl [1, 2, 0] rfl)
def p_X1_tryOrdersFor_J40 (F : tF) (A : tA) (B7 : (tF → tA → Int32 → Prop)) (K : tF → tA → Prop) (x1 : Int32) (x2 : Int32) : Prop := (∀ y47 : Int32, y47 = ((F 2) + (1 : Int32)) → (p_X1_tryOrdersFor_J50 (upd F 2 y47) A B7 K x1 x2))
set_option maxHeartbeats 4000000 in
set_option maxRecDepth 100000 in
theorem b_X1_tryOrdersFor_J40 {p : Program} {l : Launch} {e : Env} {s : State} {m : MethodId} {args : Array Value} {below : List Frame} {meth : Method} {c : Code} {Q : State → Prop} {D : va_G} {cI cZ cR : ClassId} {adK adV : Nat → Nat} {A9 : Nat → Prop} {o : Nat} {q : Nat → Nat} {K : tF → tA → Prop} {B7 : (tF → tA → Int32 → Prop)} (F : tF) (A : tA) (x1 : Int32) (x2 : Int32) (X : CX p s m args c yX1_tryOrdersFor.cls cX1_tryOrdersFor 4 D cI cZ cR adK adV A9) (ret : RTv p l e (rmN 2 51) s m args below meth c Q cX1_tryOrdersFor D A9 (fun (u : (tF × tA)) => K u.1 u.2) (fun (u : (tF × tA)) => (wX1 cI cZ o q u.1 u.2 : va_W))) (hB7 : ∀ (F : tF) (A : tA) (x2 : Int32) (H : Heap) (locs : List Loc) (ls : Array Slot), B7 F A x2 → va_P D vwCl (wX1 cI cZ o q F A : va_W) H → va_D A9 (wX1 cI cZ o q F A : va_W) → va_S A9 s.heap H locs → lv_has ls 4 [(0, .ref o), (1, .int x1), (2, .int x2)] → W p l e (rmN 2 51) s m args below meth c H locs 0 0 Q (F0 m 7 ls [])) (H : Heap) (locs : List Loc) (ls : Array Slot) (h : p_X1_tryOrdersFor_J40 F A B7 K x1 x2) (hP : va_P D vwCl (wX1 cI cZ o q F A : va_W) H) (hD : va_D A9 (wX1 cI cZ o q F A : va_W)) (hS : va_S A9 s.heap H locs) (hl : lv_has ls 4 [(0, .ref o), (1, .int x1), (2, .int x2)]) : W p l e (rmN 2 51) s m args below meth c H locs 0 0 Q (F0 m 40 ls []) := by
  obtain ⟨hx, hb, hml, ht, hown, hK, hA, hE⟩ := id X
  unfold p_X1_tryOrdersFor_J40 at h
  refine lv_aload_n hx hb dX1_tryOrdersFor_40 rfl (lv_at hl 0 rfl) ?_
  refine lv_dup hx hb dX1_tryOrdersFor_41 rfl ?_
  refine va_get (C := RX1) (T := TX1) (N := 4) (own := RX1) (v := .int (F 2)) hx hb ht inlX1 hown hK hP 0 rfl rfl 2 (Nat.le_of_ble_eq_true rfl) (ht _ mw_4_15) (fun _ h9 => h9) rfl dX1_tryOrdersFor_42 ?_
  refine lv_iconst (v := 1) hx hb dX1_tryOrdersFor_45 (by decide) ?_
  refine lv_iadd hx hb dX1_tryOrdersFor_46 ?_
  refine lv_topi (fun y47 ey47 => ?_)
  replace h := h y47 ey47
  refine va_put (C := RX1) (T := TX1) (N := 4) (own := RX1) (v := .int y47) hx hb ht inlX1 tyX1 tyX1_ok nmX1 hown hK hP hD hS 0 rfl rfl 2 (Nat.le_of_ble_eq_true rfl) (ht _ mw_4_15) (fun _ h9 => h9) rfl (tyX1_ok 2 (Nat.le_of_ble_eq_true rfl)) rfl rfl (Nat.le_of_ble_eq_true rfl) dX1_tryOrdersFor_47 (fun H locs hP hD hS => ?_)
  have hP : va_P D vwCl (wX1 cI cZ o q (upd F 2 y47) A : va_W) H := hP
  have hD : va_D A9 (wX1 cI cZ o q (upd F 2 y47) A : va_W) := hD
  exact b_X1_tryOrdersFor_J50 (upd F 2 y47) A x1 x2 X ret hB7 _ _ _ h hP hD hS (lv_sub hl [0, 1, 2] rfl)
def p_X1_tryOrdersFor_L7 (x1 : Int32) (K : tF → tA → Prop) : Nat → tF → tA → Int32 → Prop
  | 0, _, _, _ => False
  | n7 + 1, F, A, x2 => (((720 : Int32) ≤ x2 → (K F A)) ∧ (¬ (720 : Int32) ≤ x2 → (p_X1_setOrder F A x2 (fun r16 F_16 A_16 => (p_X1_lastStanding F_16 A_16 (fun r21 => ((¬ r21 = x1 → (p_X1_tryOrdersFor_J50 F_16 A_16 (p_X1_tryOrdersFor_L7 x1 K n7) K x1 x2)) ∧ (r21 = x1 → ((¬ (F_16 2) = 0 → (p_X1_tryOrdersFor_J40 F_16 A_16 (p_X1_tryOrdersFor_L7 x1 K n7) K x1 x2)) ∧ ((F_16 2) = 0 → (p_X1_tryOrdersFor_J40 (upd F_16 3 r16) A_16 (p_X1_tryOrdersFor_L7 x1 K n7) K x1 x2)))))))))))
set_option maxHeartbeats 4000000 in
set_option maxRecDepth 100000 in
theorem b_X1_tryOrdersFor_L7 {p : Program} {l : Launch} {e : Env} {s : State} {m : MethodId} {args : Array Value} {below : List Frame} {meth : Method} {c : Code} {Q : State → Prop} {D : va_G} {cI cZ cR : ClassId} {adK adV : Nat → Nat} {A9 : Nat → Prop} {o : Nat} {q : Nat → Nat} {K : tF → tA → Prop}  (x1 : Int32) (X : CX p s m args c yX1_tryOrdersFor.cls cX1_tryOrdersFor 4 D cI cZ cR adK adV A9) (ret : RTv p l e (rmN 2 51) s m args below meth c Q cX1_tryOrdersFor D A9 (fun (u : (tF × tA)) => K u.1 u.2) (fun (u : (tF × tA)) => (wX1 cI cZ o q u.1 u.2 : va_W)))   : ∀ (n : Nat) (F : tF) (A : tA) (x2 : Int32) (H : Heap) (locs : List Loc) (ls : Array Slot), p_X1_tryOrdersFor_L7 x1 K n F A x2 → va_P D vwCl (wX1 cI cZ o q F A : va_W) H → va_D A9 (wX1 cI cZ o q F A : va_W) → va_S A9 s.heap H locs → lv_has ls 4 [(0, .ref o), (1, .int x1), (2, .int x2)] → W p l e (rmN 2 51) s m args below meth c H locs 0 0 Q (F0 m 7 ls []) := by
  obtain ⟨hx, hb, hml, ht, hown, hK, hA, hE⟩ := id X
  intro n
  induction n with
  | zero => intro F A x2 H locs ls h; exact False.elim h
  | succ n7 ih =>
    intro F A x2 H locs ls h hP hD hS hl
    rw [p_X1_tryOrdersFor_L7] at h
    refine lv_iload_n hx hb dX1_tryOrdersFor_7 rfl (lv_at hl 2 rfl) ?_
    refine lv_sipush (v := 720) hx hb dX1_tryOrdersFor_8 (by decide) ?_
    refine lv_icmp_ge (tgt := 56) hx hb dX1_tryOrdersFor_11 (by decide) (fun c11 => ?_) (fun c11 => ?_)
    · replace h := h.1 c11
      exact ret (F, A) _ _ _ _ dX1_tryOrdersFor_56 h hP hD hS
    · replace h := h.2 c11
      refine lv_aload_n hx hb dX1_tryOrdersFor_14 rfl (lv_at hl 0 rfl) ?_
      refine lv_iload_n hx hb dX1_tryOrdersFor_15 rfl (lv_at hl 2 rfl) ?_
      refine C_vi (wr := []) X hP hD hS [.int x2] [] (w_X1_setOrder l D cI cZ cR adK adV _ o q F A x2 _ h) cal_X1_setOrder mw_36_21 rfl [0, 1, 2] [] [0, 1, 2] (fun u => (wX1 cI cZ o q u.1 u.2 : va_W)) rfl rfl (fun _ => rfl) rfl 0 rfl rfl ⟨rfl, rfl⟩ ⟨Nat.le_of_ble_eq_true rfl, Nat.le_of_ble_eq_true rfl⟩ hl.1 rfl (Nat.le_of_ble_eq_true rfl) ⟨Nat.zero_le _, Nat.zero_le _⟩ dX1_tryOrdersFor_16 (fun r16 u H locs h hP hD hS => ?_)
      obtain ⟨F_16, A_16⟩ := u
      try dsimp only at h
      have hP : va_P D vwCl (wX1 cI cZ o q F_16 A_16 : va_W) H := hP
      have hD : va_D A9 (wX1 cI cZ o q F_16 A_16 : va_W) := hD
      refine lv_istore_n (lv' := [(3, .int r16), (0, .ref o), (1, .int x1), (2, .int x2)]) hx hb dX1_tryOrdersFor_19 rfl hl (by decide) rfl (fun ls hl => ?_)
      refine lv_aload_n hx hb dX1_tryOrdersFor_20 rfl (lv_at hl 1 rfl) ?_
      refine C_vi (wr := []) X hP hD hS [] [] (w_X1_lastStanding l D cI cZ cR adK adV _ o q F_16 A_16 _ h) cal_X1_lastStanding mw_37_4 rfl [0, 1, 2] [] [0, 1, 2] (fun u => (wX1 cI cZ o q F_16 A_16 : va_W)) rfl rfl (fun _ => rfl) rfl 0 rfl rfl ⟨rfl, rfl⟩ ⟨Nat.le_of_ble_eq_true rfl, Nat.le_of_ble_eq_true rfl⟩ hl.1 rfl (Nat.le_of_ble_eq_true rfl) ⟨Nat.zero_le _, Nat.zero_le _⟩ dX1_tryOrdersFor_21 (fun r21 u H locs h hP hD hS => ?_)
      refine lv_iload_n hx hb dX1_tryOrdersFor_24 rfl (lv_at hl 2 rfl) ?_
      refine lv_icmp_ne (tgt := 50) hx hb dX1_tryOrdersFor_25 (by decide) (fun c25 => ?_) (fun c25 => ?_)
      · replace h := h.1 c25
        exact b_X1_tryOrdersFor_J50 F_16 A_16 x1 x2 X ret ih _ _ _ h hP hD hS (lv_sub hl [1, 2, 3] rfl)
      · replace h := h.2 c25
        refine lv_aload_n hx hb dX1_tryOrdersFor_28 rfl (lv_at hl 1 rfl) ?_
        refine va_get (C := RX1) (T := TX1) (N := 4) (own := RX1) (v := .int (F_16 2)) hx hb ht inlX1 hown hK hP 0 rfl rfl 2 (Nat.le_of_ble_eq_true rfl) (ht _ mw_4_15) (fun _ h9 => h9) rfl dX1_tryOrdersFor_29 ?_
        refine lv_if_ne (tgt := 40) hx hb dX1_tryOrdersFor_32 (by decide) (fun c32 => ?_) (fun c32 => ?_)
        · replace h := h.1 c32
          exact b_X1_tryOrdersFor_J40 F_16 A_16 x1 x2 X ret ih _ _ _ h hP hD hS (lv_sub hl [1, 2, 3] rfl)
        · replace h := h.2 c32
          refine lv_aload_n hx hb dX1_tryOrdersFor_35 rfl (lv_at hl 1 rfl) ?_
          refine lv_iload_n hx hb dX1_tryOrdersFor_36 rfl (lv_at hl 0 rfl) ?_
          refine va_put (C := RX1) (T := TX1) (N := 4) (own := RX1) (v := .int r16) hx hb ht inlX1 tyX1 tyX1_ok nmX1 hown hK hP hD hS 0 rfl rfl 3 (Nat.le_of_ble_eq_true rfl) (ht _ mw_4_16) (fun _ h9 => h9) rfl (tyX1_ok 3 (Nat.le_of_ble_eq_true rfl)) rfl rfl (Nat.le_of_ble_eq_true rfl) dX1_tryOrdersFor_37 (fun H locs hP hD hS => ?_)
          have hP : va_P D vwCl (wX1 cI cZ o q (upd F_16 3 r16) A_16 : va_W) H := hP
          have hD : va_D A9 (wX1 cI cZ o q (upd F_16 3 r16) A_16 : va_W) := hD
          exact b_X1_tryOrdersFor_J40 (upd F_16 3 r16) A_16 x1 x2 X ret ih _ _ _ h hP hD hS (lv_sub hl [1, 2, 3] rfl)
def p_X1_tryOrdersFor (F : tF) (A : tA) (x1 : Int32) (K : tF → tA → Prop) : Prop := (∃ n7, p_X1_tryOrdersFor_L7 x1 K n7 (upd F 2 (0 : Int32)) A (0 : Int32))
set_option maxHeartbeats 4000000 in
set_option maxRecDepth 100000 in
theorem w_X1_tryOrdersFor (l : Launch) (D : va_G) (cI cZ cR : ClassId) (adK adV : Nat → Nat) (sz : Nat) (o : Nat) (q : Nat → Nat) (F : tF) (A : tA) (x1 : Int32) (K : tF → tA → Prop) (h : p_X1_tryOrdersFor F A x1 K) : MV l D cI cZ cR adK adV yX1_tryOrdersFor cX1_tryOrdersFor 4 none (rmN 2 51) [.ref o, .int x1] (wX1 cI cZ o q F A : va_W) sz (fun (u : (tF × tA)) => K u.1 u.2) (fun (u : (tF × tA)) => (wX1 cI cZ o q u.1 u.2 : va_W)) := by
  refine M_v (by decide +kernel) (Nat.le_of_ble_eq_true rfl) ?_
  intro p e s m args below meth c Q A9 ls X ret hP hD hS hl
  obtain ⟨hx, hb, hml, ht, hown, hK, hA, hE⟩ := id X
  have hl : lv_has ls 4 [(0, .ref o), (1, .int x1)] := hl
  unfold p_X1_tryOrdersFor at h
  refine lv_aload_n hx hb dX1_tryOrdersFor_0 rfl (lv_at hl 0 rfl) ?_
  refine lv_iconst (v := 0) hx hb dX1_tryOrdersFor_1 (by decide) ?_
  refine va_put (C := RX1) (T := TX1) (N := 4) (own := RX1) (v := .int (0 : Int32)) hx hb ht inlX1 tyX1 tyX1_ok nmX1 hown hK hP hD hS 0 rfl rfl 2 (Nat.le_of_ble_eq_true rfl) (ht _ mw_4_15) (fun _ h9 => h9) rfl (tyX1_ok 2 (Nat.le_of_ble_eq_true rfl)) rfl rfl (Nat.le_of_ble_eq_true rfl) dX1_tryOrdersFor_2 (fun H locs hP hD hS => ?_)
  have hP : va_P D vwCl (wX1 cI cZ o q (upd F 2 (0 : Int32)) A : va_W) H := hP
  have hD : va_D A9 (wX1 cI cZ o q (upd F 2 (0 : Int32)) A : va_W) := hD
  refine lv_iconst (v := 0) hx hb dX1_tryOrdersFor_5 (by decide) ?_
  refine lv_istore_n (lv' := [(2, .int (0 : Int32)), (0, .ref o), (1, .int x1)]) hx hb dX1_tryOrdersFor_6 rfl hl (by decide) rfl (fun ls hl => ?_)
  obtain ⟨n7, h⟩ := h
  exact b_X1_tryOrdersFor_L7 x1 X ret  n7 (upd F 2 (0 : Int32)) A (0 : Int32) _ _ _ h hP hD hS (lv_sub hl [1, 2, 0] rfl)
theorem dX1_leastRing_0 : decode cX1_leastRing 0 = .ok (.iconst 0, 1) := by decide +kernel
theorem dX1_leastRing_1 : decode cX1_leastRing 1 = .ok (.istore_n 1, 1) := by decide +kernel
theorem dX1_leastRing_2 : decode cX1_leastRing 2 = .ok (.iload_n 1, 1) := by decide +kernel
theorem dX1_leastRing_3 : decode cX1_leastRing 3 = .ok (.sipush 216, 3) := by decide +kernel
theorem dX1_leastRing_6 : decode cX1_leastRing 6 = .ok (.if_icmp .ge 70, 3) := by decide +kernel
theorem dX1_leastRing_9 : decode cX1_leastRing 9 = .ok (.iload_n 1, 1) := by decide +kernel
theorem dX1_leastRing_10 : decode cX1_leastRing 10 = .ok (.bipush 36, 2) := by decide +kernel
theorem dX1_leastRing_12 : decode cX1_leastRing 12 = .ok (.idiv, 1) := by decide +kernel
theorem dX1_leastRing_13 : decode cX1_leastRing 13 = .ok (.istore_n 2, 1) := by decide +kernel
theorem dX1_leastRing_14 : decode cX1_leastRing 14 = .ok (.iload_n 1, 1) := by decide +kernel
theorem dX1_leastRing_15 : decode cX1_leastRing 15 = .ok (.bipush 6, 2) := by decide +kernel
theorem dX1_leastRing_17 : decode cX1_leastRing 17 = .ok (.idiv, 1) := by decide +kernel
theorem dX1_leastRing_18 : decode cX1_leastRing 18 = .ok (.bipush 6, 2) := by decide +kernel
theorem dX1_leastRing_20 : decode cX1_leastRing 20 = .ok (.irem, 1) := by decide +kernel
theorem dX1_leastRing_21 : decode cX1_leastRing 21 = .ok (.istore_n 3, 1) := by decide +kernel
theorem dX1_leastRing_22 : decode cX1_leastRing 22 = .ok (.iload_n 1, 1) := by decide +kernel
theorem dX1_leastRing_23 : decode cX1_leastRing 23 = .ok (.bipush 6, 2) := by decide +kernel
theorem dX1_leastRing_25 : decode cX1_leastRing 25 = .ok (.irem, 1) := by decide +kernel
theorem dX1_leastRing_26 : decode cX1_leastRing 26 = .ok (.istore 4, 2) := by decide +kernel
theorem dX1_leastRing_28 : decode cX1_leastRing 28 = .ok (.aload_n 0, 1) := by decide +kernel
theorem dX1_leastRing_29 : decode cX1_leastRing 29 = .ok (.iload_n 2, 1) := by decide +kernel
theorem dX1_leastRing_30 : decode cX1_leastRing 30 = .ok (.iload_n 3, 1) := by decide +kernel
theorem dX1_leastRing_31 : decode cX1_leastRing 31 = .ok (.invokevirtual 33, 3) := by decide +kernel
theorem dX1_leastRing_34 : decode cX1_leastRing 34 = .ok (.ifCond .eq 36, 3) := by decide +kernel
theorem dX1_leastRing_37 : decode cX1_leastRing 37 = .ok (.aload_n 0, 1) := by decide +kernel
theorem dX1_leastRing_38 : decode cX1_leastRing 38 = .ok (.iload_n 3, 1) := by decide +kernel
theorem dX1_leastRing_39 : decode cX1_leastRing 39 = .ok (.iload 4, 2) := by decide +kernel
theorem dX1_leastRing_41 : decode cX1_leastRing 41 = .ok (.invokevirtual 33, 3) := by decide +kernel
theorem dX1_leastRing_44 : decode cX1_leastRing 44 = .ok (.ifCond .eq 26, 3) := by decide +kernel
theorem dX1_leastRing_47 : decode cX1_leastRing 47 = .ok (.aload_n 0, 1) := by decide +kernel
theorem dX1_leastRing_48 : decode cX1_leastRing 48 = .ok (.iload 4, 2) := by decide +kernel
theorem dX1_leastRing_50 : decode cX1_leastRing 50 = .ok (.iload_n 2, 1) := by decide +kernel
theorem dX1_leastRing_51 : decode cX1_leastRing 51 = .ok (.invokevirtual 33, 3) := by decide +kernel
theorem dX1_leastRing_54 : decode cX1_leastRing 54 = .ok (.ifCond .eq 16, 3) := by decide +kernel
theorem dX1_leastRing_57 : decode cX1_leastRing 57 = .ok (.iload_n 2, 1) := by decide +kernel
theorem dX1_leastRing_58 : decode cX1_leastRing 58 = .ok (.bipush 100, 2) := by decide +kernel
theorem dX1_leastRing_60 : decode cX1_leastRing 60 = .ok (.imul, 1) := by decide +kernel
theorem dX1_leastRing_61 : decode cX1_leastRing 61 = .ok (.iload_n 3, 1) := by decide +kernel
theorem dX1_leastRing_62 : decode cX1_leastRing 62 = .ok (.bipush 10, 2) := by decide +kernel
theorem dX1_leastRing_64 : decode cX1_leastRing 64 = .ok (.imul, 1) := by decide +kernel
theorem dX1_leastRing_65 : decode cX1_leastRing 65 = .ok (.iadd, 1) := by decide +kernel
theorem dX1_leastRing_66 : decode cX1_leastRing 66 = .ok (.iload 4, 2) := by decide +kernel
theorem dX1_leastRing_68 : decode cX1_leastRing 68 = .ok (.iadd, 1) := by decide +kernel
theorem dX1_leastRing_69 : decode cX1_leastRing 69 = .ok (.ireturn, 1) := by decide +kernel
theorem dX1_leastRing_70 : decode cX1_leastRing 70 = .ok (.iinc 1 1, 3) := by decide +kernel
theorem dX1_leastRing_73 : decode cX1_leastRing 73 = .ok (.goto (-71), 3) := by decide +kernel
theorem dX1_leastRing_76 : decode cX1_leastRing 76 = .ok (.bipush (-3), 2) := by decide +kernel
theorem dX1_leastRing_78 : decode cX1_leastRing 78 = .ok (.ireturn, 1) := by decide +kernel
def p_X1_leastRing_J70 (F : tF) (A : tA) (B2 : (Int32 → Prop)) (K : Int32 → Prop) (x1 : Int32) : Prop := (∀ y70 : Int32, y70 = (x1 + (1 : Int32)) → (B2 y70))
set_option maxHeartbeats 4000000 in
set_option maxRecDepth 100000 in
theorem b_X1_leastRing_J70 {p : Program} {l : Launch} {e : Env} {s : State} {m : MethodId} {args : Array Value} {below : List Frame} {meth : Method} {c : Code} {Q : State → Prop} {D : va_G} {cI cZ cR : ClassId} {adK adV : Nat → Nat} {A9 : Nat → Prop} {o : Nat} {q : Nat → Nat} {K : Int32 → Prop} {B2 : (Int32 → Prop)} (F : tF) (A : tA) (x1 : Int32) (X : CX p s m args c yX1_leastRing.cls cX1_leastRing 5 D cI cZ cR adK adV A9) (ret : RTi p l e (rmN 1 22) s m args below meth c Q cX1_leastRing D A9 (fun (r : Int32) (u : Unit) => K r) (fun (u : Unit) => (wX1 cI cZ o q F A : va_W))) (hB2 : ∀ (x1 : Int32) (H : Heap) (locs : List Loc) (ls : Array Slot), B2 x1 → va_P D vwCl (wX1 cI cZ o q F A : va_W) H → va_D A9 (wX1 cI cZ o q F A : va_W) → va_S A9 s.heap H locs → lv_has ls 5 [(0, .ref o), (1, .int x1)] → W p l e (rmN 1 22) s m args below meth c H locs 0 0 Q (F0 m 2 ls [])) (H : Heap) (locs : List Loc) (ls : Array Slot) (h : p_X1_leastRing_J70 F A B2 K x1) (hP : va_P D vwCl (wX1 cI cZ o q F A : va_W) H) (hD : va_D A9 (wX1 cI cZ o q F A : va_W)) (hS : va_S A9 s.heap H locs) (hl : lv_has ls 5 [(0, .ref o), (1, .int x1)]) : W p l e (rmN 1 22) s m args below meth c H locs 0 0 Q (F0 m 70 ls []) := by
  obtain ⟨hx, hb, hml, ht, hown, hK, hA, hE⟩ := id X
  unfold p_X1_leastRing_J70 at h
  obtain ⟨y70, ey70⟩ : ∃ y : Int32, y = (x1 + (1 : Int32)) := ⟨_, rfl⟩
  replace h := h y70 ey70
  refine lv_iinc (v := y70) (lv' := [(1, .int y70), (0, .ref o)]) hx hb dX1_leastRing_70 hl (k := 1) rfl (by rw [ey70]; rfl) (by decide) rfl (fun ls hl => ?_)
  refine lv_goto (tgt := 2) hx hb dX1_leastRing_73 (by decide) ?_
  exact hB2 y70 _ _ _ h hP hD hS (lv_sub hl [1, 0] rfl)
def p_X1_leastRing_L2 (F : tF) (A : tA) (K : Int32 → Prop) : Nat → Int32 → Prop
  | 0, _ => False
  | n2 + 1, x1 => (((216 : Int32) ≤ x1 → (K (-3 : Int32))) ∧ (¬ (216 : Int32) ≤ x1 → (∀ y13 : Int32, y13 = (x1 / (36 : Int32)) → (∀ y21 : Int32, y21 = ((x1 / (6 : Int32)) - (x1 / (6 : Int32)) / (6 : Int32) * (6 : Int32)) → (∀ y26 : Int32, y26 = (x1 - x1 / (6 : Int32) * (6 : Int32)) → (p_X1_isWonBy F A y13 y21 (fun r31 => ((r31 = 0 → (p_X1_leastRing_J70 F A (p_X1_leastRing_L2 F A K n2) K x1)) ∧ (¬ r31 = 0 → (p_X1_isWonBy F A y21 y26 (fun r41 => ((r41 = 0 → (p_X1_leastRing_J70 F A (p_X1_leastRing_L2 F A K n2) K x1)) ∧ (¬ r41 = 0 → (p_X1_isWonBy F A y26 y13 (fun r51 => ((r51 = 0 → (p_X1_leastRing_J70 F A (p_X1_leastRing_L2 F A K n2) K x1)) ∧ (¬ r51 = 0 → (K (((y13 * (100 : Int32)) + (y21 * (10 : Int32))) + y26)))))))))))))))))))
set_option maxHeartbeats 4000000 in
set_option maxRecDepth 100000 in
theorem b_X1_leastRing_L2 {p : Program} {l : Launch} {e : Env} {s : State} {m : MethodId} {args : Array Value} {below : List Frame} {meth : Method} {c : Code} {Q : State → Prop} {D : va_G} {cI cZ cR : ClassId} {adK adV : Nat → Nat} {A9 : Nat → Prop} {o : Nat} {q : Nat → Nat} {K : Int32 → Prop}  (F : tF) (A : tA) (X : CX p s m args c yX1_leastRing.cls cX1_leastRing 5 D cI cZ cR adK adV A9) (ret : RTi p l e (rmN 1 22) s m args below meth c Q cX1_leastRing D A9 (fun (r : Int32) (u : Unit) => K r) (fun (u : Unit) => (wX1 cI cZ o q F A : va_W)))   : ∀ (n : Nat) (x1 : Int32) (H : Heap) (locs : List Loc) (ls : Array Slot), p_X1_leastRing_L2 F A K n x1 → va_P D vwCl (wX1 cI cZ o q F A : va_W) H → va_D A9 (wX1 cI cZ o q F A : va_W) → va_S A9 s.heap H locs → lv_has ls 5 [(0, .ref o), (1, .int x1)] → W p l e (rmN 1 22) s m args below meth c H locs 0 0 Q (F0 m 2 ls []) := by
  obtain ⟨hx, hb, hml, ht, hown, hK, hA, hE⟩ := id X
  intro n
  induction n with
  | zero => intro x1 H locs ls h; exact False.elim h
  | succ n2 ih =>
    intro x1 H locs ls h hP hD hS hl
    rw [p_X1_leastRing_L2] at h
    refine lv_iload_n hx hb dX1_leastRing_2 rfl (lv_at hl 1 rfl) ?_
    refine lv_sipush (v := 216) hx hb dX1_leastRing_3 (by decide) ?_
    refine lv_icmp_ge (tgt := 76) hx hb dX1_leastRing_6 (by decide) (fun c6 => ?_) (fun c6 => ?_)
    · replace h := h.1 c6
      refine lv_bipush (v := -3) hx hb dX1_leastRing_76 (by decide) ?_
      exact ret _ () _ _ _ _ dX1_leastRing_78 h hP hD hS
    · replace h := h.2 c6
      refine lv_iload_n hx hb dX1_leastRing_9 rfl (lv_at hl 1 rfl) ?_
      refine lv_bipush (v := 36) hx hb dX1_leastRing_10 (by decide) ?_
      refine lv_idiv hx hb dX1_leastRing_12 (by decide) ?_
      refine lv_topi (fun y13 ey13 => ?_)
      replace h := h y13 ey13
      refine lv_istore_n (lv' := [(2, .int y13), (0, .ref o), (1, .int x1)]) hx hb dX1_leastRing_13 rfl hl (by decide) rfl (fun ls hl => ?_)
      refine lv_iload_n hx hb dX1_leastRing_14 rfl (lv_at hl 2 rfl) ?_
      refine lv_bipush (v := 6) hx hb dX1_leastRing_15 (by decide) ?_
      refine lv_idiv hx hb dX1_leastRing_17 (by decide) ?_
      refine lv_bipush (v := 6) hx hb dX1_leastRing_18 (by decide) ?_
      refine lv_irem hx hb dX1_leastRing_20 (by decide) ?_
      refine lv_topi (fun y21 ey21 => ?_)
      replace h := h y21 ey21
      refine lv_istore_n (lv' := [(3, .int y21), (2, .int y13), (0, .ref o), (1, .int x1)]) hx hb dX1_leastRing_21 rfl hl (by decide) rfl (fun ls hl => ?_)
      refine lv_iload_n hx hb dX1_leastRing_22 rfl (lv_at hl 3 rfl) ?_
      refine lv_bipush (v := 6) hx hb dX1_leastRing_23 (by decide) ?_
      refine lv_irem hx hb dX1_leastRing_25 (by decide) ?_
      refine lv_topi (fun y26 ey26 => ?_)
      replace h := h y26 ey26
      refine lv_istore (lv' := [(4, .int y26), (3, .int y21), (2, .int y13), (0, .ref o), (1, .int x1)]) hx hb dX1_leastRing_26 hl (by decide) rfl (fun ls hl => ?_)
      refine lv_aload_n hx hb dX1_leastRing_28 rfl (lv_at hl 3 rfl) ?_
      refine lv_iload_n hx hb dX1_leastRing_29 rfl (lv_at hl 2 rfl) ?_
      refine lv_iload_n hx hb dX1_leastRing_30 rfl (lv_at hl 1 rfl) ?_
      refine C_vi (wr := []) X hP hD hS [.int y13, .int y21] [] (w_X1_isWonBy l D cI cZ cR adK adV _ o q F A y13 y21 _ h) cal_X1_isWonBy mw_35_16 rfl [0, 1, 2] [] [0, 1, 2] (fun u => (wX1 cI cZ o q F A : va_W)) rfl rfl (fun _ => rfl) rfl 0 rfl rfl ⟨rfl, rfl⟩ ⟨Nat.le_of_ble_eq_true rfl, Nat.le_of_ble_eq_true rfl⟩ hl.1 rfl (Nat.le_of_ble_eq_true rfl) ⟨Nat.zero_le _, Nat.zero_le _⟩ dX1_leastRing_31 (fun r31 u H locs h hP hD hS => ?_)
      refine lv_if_eq (tgt := 70) hx hb dX1_leastRing_34 (by decide) (fun c34 => ?_) (fun c34 => ?_)
      · replace h := h.1 c34
        exact b_X1_leastRing_J70 F A x1 X ret ih _ _ _ h hP hD hS (lv_sub hl [3, 4] rfl)
      · replace h := h.2 c34
        refine lv_aload_n hx hb dX1_leastRing_37 rfl (lv_at hl 3 rfl) ?_
        refine lv_iload_n hx hb dX1_leastRing_38 rfl (lv_at hl 1 rfl) ?_
        refine lv_iload hx hb dX1_leastRing_39 (lv_at hl 0 rfl) ?_
        refine C_vi (wr := []) X hP hD hS [.int y21, .int y26] [] (w_X1_isWonBy l D cI cZ cR adK adV _ o q F A y21 y26 _ h) cal_X1_isWonBy mw_35_16 rfl [0, 1, 2] [] [0, 1, 2] (fun u => (wX1 cI cZ o q F A : va_W)) rfl rfl (fun _ => rfl) rfl 0 rfl rfl ⟨rfl, rfl⟩ ⟨Nat.le_of_ble_eq_true rfl, Nat.le_of_ble_eq_true rfl⟩ hl.1 rfl (Nat.le_of_ble_eq_true rfl) ⟨Nat.zero_le _, Nat.zero_le _⟩ dX1_leastRing_41 (fun r41 u H locs h hP hD hS => ?_)
        refine lv_if_eq (tgt := 70) hx hb dX1_leastRing_44 (by decide) (fun c44 => ?_) (fun c44 => ?_)
        · replace h := h.1 c44
          exact b_X1_leastRing_J70 F A x1 X ret ih _ _ _ h hP hD hS (lv_sub hl [3, 4] rfl)
        · replace h := h.2 c44
          refine lv_aload_n hx hb dX1_leastRing_47 rfl (lv_at hl 3 rfl) ?_
          refine lv_iload hx hb dX1_leastRing_48 (lv_at hl 0 rfl) ?_
          refine lv_iload_n hx hb dX1_leastRing_50 rfl (lv_at hl 2 rfl) ?_
          refine C_vi (wr := []) X hP hD hS [.int y26, .int y13] [] (w_X1_isWonBy l D cI cZ cR adK adV _ o q F A y26 y13 _ h) cal_X1_isWonBy mw_35_16 rfl [0, 1, 2] [] [0, 1, 2] (fun u => (wX1 cI cZ o q F A : va_W)) rfl rfl (fun _ => rfl) rfl 0 rfl rfl ⟨rfl, rfl⟩ ⟨Nat.le_of_ble_eq_true rfl, Nat.le_of_ble_eq_true rfl⟩ hl.1 rfl (Nat.le_of_ble_eq_true rfl) ⟨Nat.zero_le _, Nat.zero_le _⟩ dX1_leastRing_51 (fun r51 u H locs h hP hD hS => ?_)
          refine lv_if_eq (tgt := 70) hx hb dX1_leastRing_54 (by decide) (fun c54 => ?_) (fun c54 => ?_)
          · replace h := h.1 c54
            exact b_X1_leastRing_J70 F A x1 X ret ih _ _ _ h hP hD hS (lv_sub hl [3, 4] rfl)
          · replace h := h.2 c54
            refine lv_iload_n hx hb dX1_leastRing_57 rfl (lv_at hl 2 rfl) ?_
            refine lv_bipush (v := 100) hx hb dX1_leastRing_58 (by decide) ?_
            refine lv_imul hx hb dX1_leastRing_60 ?_
            refine lv_iload_n hx hb dX1_leastRing_61 rfl (lv_at hl 1 rfl) ?_
            refine lv_bipush (v := 10) hx hb dX1_leastRing_62 (by decide) ?_
            refine lv_imul hx hb dX1_leastRing_64 ?_
            refine lv_iadd hx hb dX1_leastRing_65 ?_
            refine lv_iload hx hb dX1_leastRing_66 (lv_at hl 0 rfl) ?_
            refine lv_iadd hx hb dX1_leastRing_68 ?_
            exact ret _ () _ _ _ _ dX1_leastRing_69 h hP hD hS
def p_X1_leastRing (F : tF) (A : tA) (K : Int32 → Prop) : Prop := (∃ n2, p_X1_leastRing_L2 F A K n2 (0 : Int32))
set_option maxHeartbeats 4000000 in
set_option maxRecDepth 100000 in
theorem w_X1_leastRing (l : Launch) (D : va_G) (cI cZ cR : ClassId) (adK adV : Nat → Nat) (sz : Nat) (o : Nat) (q : Nat → Nat) (F : tF) (A : tA) (K : Int32 → Prop) (h : p_X1_leastRing F A K) : MI l D cI cZ cR adK adV yX1_leastRing cX1_leastRing 5 (some .int) (rmN 1 22) [.ref o] (wX1 cI cZ o q F A : va_W) sz (fun (r : Int32) (u : Unit) => K r) (fun (u : Unit) => (wX1 cI cZ o q F A : va_W)) := by
  refine M_i (by decide +kernel) (Nat.le_of_ble_eq_true rfl) ?_
  intro p e s m args below meth c Q A9 ls X ret hP hD hS hl
  obtain ⟨hx, hb, hml, ht, hown, hK, hA, hE⟩ := id X
  have hl : lv_has ls 5 [(0, .ref o)] := hl
  unfold p_X1_leastRing at h
  refine lv_iconst (v := 0) hx hb dX1_leastRing_0 (by decide) ?_
  refine lv_istore_n (lv' := [(1, .int (0 : Int32)), (0, .ref o)]) hx hb dX1_leastRing_1 rfl hl (by decide) rfl (fun ls hl => ?_)
  obtain ⟨n2, h⟩ := h
  exact b_X1_leastRing_L2 F A X ret  n2 (0 : Int32) _ _ _ h hP hD hS (lv_sub hl [1, 0] rfl)
