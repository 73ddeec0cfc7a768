/-! 05.hill: what the bytecode of these methods asks, and the walks (written by wip/gen/mk.py) -/
theorem dX2_isCalled_0 : decode cX2_isCalled 0 = .ok (.aload_n 0, 1) := by decide +kernel
theorem dX2_isCalled_1 : decode cX2_isCalled 1 = .ok (.getfield 43, 3) := by decide +kernel
theorem dX2_isCalled_4 : decode cX2_isCalled 4 = .ok (.iload_n 1, 1) := by decide +kernel
theorem dX2_isCalled_5 : decode cX2_isCalled 5 = .ok (.iconst 1, 1) := by decide +kernel
theorem dX2_isCalled_6 : decode cX2_isCalled 6 = .ok (.iadd, 1) := by decide +kernel
theorem dX2_isCalled_7 : decode cX2_isCalled 7 = .ok (.if_icmp .ne 7, 3) := by decide +kernel
theorem dX2_isCalled_10 : decode cX2_isCalled 10 = .ok (.iconst 1, 1) := by decide +kernel
theorem dX2_isCalled_11 : decode cX2_isCalled 11 = .ok (.goto 4, 3) := by decide +kernel
theorem dX2_isCalled_14 : decode cX2_isCalled 14 = .ok (.iconst 0, 1) := by decide +kernel
theorem dX2_isCalled_15 : decode cX2_isCalled 15 = .ok (.ireturn, 1) := by decide +kernel
def p_X2_isCalled (F : tF) (A : tA) (x1 : Int32) (K : Int32 → Prop) : Prop := ((¬ (F 10) = (x1 + (1 : Int32)) → (K (0 : Int32))) ∧ ((F 10) = (x1 + (1 : Int32)) → (K (1 : Int32))))
set_option maxHeartbeats 4000000 in
set_option maxRecDepth 100000 in
theorem w_X2_isCalled (l : Launch) (D : va_G) (cI cZ cR : ClassId) (adK adV : Nat → Nat) (sz : Nat) (o : Nat) (q : Nat → Nat) (F : tF) (A : tA) (x1 : Int32) (K : Int32 → Prop) (h : p_X2_isCalled F A x1 K) : MI l D cI cZ cR adK adV yX2_isCalled cX2_isCalled 2 (some .boolean) (rmN 0 0) [.ref o, .int x1] (wX2 cI cZ o q F A : va_W) sz (fun (r : Int32) (u : Unit) => K r) (fun (u : Unit) => (wX2 cI cZ o q F A : va_W)) := by
  refine M_z (by decide +kernel) (Nat.le_of_ble_eq_true rfl) ?_
  intro p e s m args below meth c Q A9 ls X ret hP hD hS hl
  obtain ⟨hx, hb, hml, ht, hown, hK, hA, hE⟩ := id X
  have hl : lv_has ls 2 [(0, .ref o), (1, .int x1)] := hl
  unfold p_X2_isCalled at h
  refine lv_aload_n hx hb dX2_isCalled_0 rfl (lv_at hl 0 rfl) ?_
  refine va_get (C := RX2) (T := TX2) (N := 13) (own := RX2) (v := .int (F 10)) hx hb ht inlX2 hown hK hP 0 rfl rfl 10 (Nat.le_of_ble_eq_true rfl) (ht _ mw_3_9) (fun _ h9 => h9) rfl dX2_isCalled_1 ?_
  refine lv_iload_n hx hb dX2_isCalled_4 rfl (lv_at hl 1 rfl) ?_
  refine lv_iconst (v := 1) hx hb dX2_isCalled_5 (by decide) ?_
  refine lv_iadd hx hb dX2_isCalled_6 ?_
  refine lv_icmp_ne (tgt := 14) hx hb dX2_isCalled_7 (by decide) (fun c7 => ?_) (fun c7 => ?_)
  · replace h := h.1 c7
    refine lv_iconst (v := 0) hx hb dX2_isCalled_14 (by decide) ?_
    exact ret _ () _ _ _ _ dX2_isCalled_15 bo_0 h hP hD hS
  · replace h := h.2 c7
    refine lv_iconst (v := 1) hx hb dX2_isCalled_10 (by decide) ?_
    refine lv_goto (tgt := 15) hx hb dX2_isCalled_11 (by decide) ?_
    exact ret _ () _ _ _ _ dX2_isCalled_15 bo_1 h hP hD hS
theorem cal_X2_isCalled : CalV yX2_isCalled cX2_isCalled 2 (some .boolean) 1 := ⟨mw_18_7, mw_1_15, mw_18_5, mw_18_6, ⟨by decide +kernel, by decide +kernel, by decide +kernel⟩⟩
theorem dX2_startTally_0 : decode cX2_startTally 0 = .ok (.iconst 0, 1) := by decide +kernel
theorem dX2_startTally_1 : decode cX2_startTally 1 = .ok (.istore_n 1, 1) := by decide +kernel
theorem dX2_startTally_2 : decode cX2_startTally 2 = .ok (.iload_n 1, 1) := by decide +kernel
theorem dX2_startTally_3 : decode cX2_startTally 3 = .ok (.bipush 6, 2) := by decide +kernel
theorem dX2_startTally_5 : decode cX2_startTally 5 = .ok (.if_icmp .ge 33, 3) := by decide +kernel
theorem dX2_startTally_8 : decode cX2_startTally 8 = .ok (.aload_n 0, 1) := by decide +kernel
theorem dX2_startTally_9 : decode cX2_startTally 9 = .ok (.getfield 33, 3) := by decide +kernel
theorem dX2_startTally_12 : decode cX2_startTally 12 = .ok (.iload_n 1, 1) := by decide +kernel
theorem dX2_startTally_13 : decode cX2_startTally 13 = .ok (.aload_n 0, 1) := by decide +kernel
theorem dX2_startTally_14 : decode cX2_startTally 14 = .ok (.iload_n 1, 1) := by decide +kernel
theorem dX2_startTally_15 : decode cX2_startTally 15 = .ok (.invokevirtual 67, 3) := by decide +kernel
theorem dX2_startTally_18 : decode cX2_startTally 18 = .ok (.ifCond .eq 12, 3) := by decide +kernel
theorem dX2_startTally_21 : decode cX2_startTally 21 = .ok (.aload_n 0, 1) := by decide +kernel
theorem dX2_startTally_22 : decode cX2_startTally 22 = .ok (.getfield 9, 3) := by decide +kernel
theorem dX2_startTally_25 : decode cX2_startTally 25 = .ok (.iconst 1, 1) := by decide +kernel
theorem dX2_startTally_26 : decode cX2_startTally 26 = .ok (.iaload, 1) := by decide +kernel
theorem dX2_startTally_27 : decode cX2_startTally 27 = .ok (.goto 4, 3) := by decide +kernel
theorem dX2_startTally_30 : decode cX2_startTally 30 = .ok (.iconst 0, 1) := by decide +kernel
theorem dX2_startTally_31 : decode cX2_startTally 31 = .ok (.iastore, 1) := by decide +kernel
theorem dX2_startTally_32 : decode cX2_startTally 32 = .ok (.iinc 1 1, 3) := by decide +kernel
theorem dX2_startTally_35 : decode cX2_startTally 35 = .ok (.goto (-33), 3) := by decide +kernel
theorem dX2_startTally_38 : decode cX2_startTally 38 = .ok (.return_, 1) := by decide +kernel
def p_X2_startTally_J31 (F : tF) (A : tA) (B2 : (tF → tA → Int32 → Prop)) (K : tF → tA → Prop) (x1 : Int32) (s0 : Int32) (s1 : Int32) : Prop := (vp_in s1 6 ∧ (∀ f_31 : tF, f_31 = (upd (A 7) (s1).toNatClampNeg s0) → (∀ y32 : Int32, y32 = (x1 + (1 : Int32)) → (B2 F (va_up A 7 f_31) y32))))
set_option maxHeartbeats 4000000 in
set_option maxRecDepth 100000 in
theorem b_X2_startTally_J31 {p : Program} {l : Launch} {e : Env} {s : State} {m : MethodId} {args : Array Value} {below : List Frame} {meth : Method} {c : Code} {Q : State → Prop} {D : va_G} {cI cZ cR : ClassId} {adK adV : Nat → Nat} {A9 : Nat → Prop} {o : Nat} {q : Nat → Nat} {K : tF → tA → Prop} {B2 : (tF → tA → Int32 → Prop)} (F : tF) (A : tA) (x1 : Int32) (s0 : Int32) (s1 : Int32) (X : CX p s m args c yX2_startTally.cls cX2_startTally 2 D cI cZ cR adK adV A9) (ret : RTv p l e (rmN 1 21) s m args below meth c Q cX2_startTally D A9 (fun (u : (tF × tA)) => K u.1 u.2) (fun (u : (tF × tA)) => (wX2 cI cZ o q u.1 u.2 : va_W))) (hB2 : ∀ (F : tF) (A : tA) (x1 : Int32) (H : Heap) (locs : List Loc) (ls : Array Slot), B2 F A x1 → va_P D vwCl (wX2 cI cZ o q F A : va_W) H → va_D A9 (wX2 cI cZ o q F A : va_W) → va_S A9 s.heap H locs → lv_has ls 2 [(0, .ref o), (1, .int x1)] → W p l e (rmN 1 21) s m args below meth c H locs 0 0 Q (F0 m 2 ls [])) (H : Heap) (locs : List Loc) (ls : Array Slot) (h : p_X2_startTally_J31 F A B2 K x1 s0 s1) (hP : va_P D vwCl (wX2 cI cZ o q F A : va_W) H) (hD : va_D A9 (wX2 cI cZ o q F A : va_W)) (hS : va_S A9 s.heap H locs) (hl : lv_has ls 2 [(0, .ref o), (1, .int x1)]) : W p l e (rmN 1 21) s m args below meth c H locs 0 0 Q (F0 m 31 ls [.int s0, .int s1, .ref (q 7)]) := by
  obtain ⟨hx, hb, hml, ht, hown, hK, hA, hE⟩ := id X
  unfold p_X2_startTally_J31 at h
  obtain ⟨hi31, h⟩ := h
  obtain ⟨f_31, ef_31⟩ : ∃ z : tF, z = (upd (A 7) (s1).toNatClampNeg s0) := ⟨_, rfl⟩
  replace h := h f_31 ef_31
  refine g_iast (f := (A 7)) (k := (s1).toNatClampNeg) hx hb hK hP hD hS 8 0 rfl rfl hi31 rfl ef_31 dX2_startTally_31 (fun H locs hP hD hS => ?_)
  have hP : va_P D vwCl (wX2 cI cZ o q F (va_up A 7 f_31) : va_W) H := hP
  have hD : va_D A9 (wX2 cI cZ o q F (va_up A 7 f_31) : va_W) := hD
  obtain ⟨y32, ey32⟩ : ∃ y : Int32, y = (x1 + (1 : Int32)) := ⟨_, rfl⟩
  replace h := h y32 ey32
  refine lv_iinc (v := y32) (lv' := [(1, .int y32), (0, .ref o)]) hx hb dX2_startTally_32 hl (k := 1) rfl (by rw [ey32]; rfl) (by decide) rfl (fun ls hl => ?_)
  refine lv_goto (tgt := 2) hx hb dX2_startTally_35 (by decide) ?_
  exact hB2 F (va_up A 7 f_31) y32 _ _ _ h hP hD hS (lv_sub hl [1, 0] rfl)
def p_X2_startTally_L2 (K : tF → tA → Prop) : Nat → tF → tA → Int32 → Prop
  | 0, _, _, _ => False
  | n2 + 1, F, A, x1 => (((6 : Int32) ≤ x1 → (K F A)) ∧ (¬ (6 : Int32) ≤ x1 → (p_X2_isCalled F A x1 (fun r15 => ((r15 = 0 → (p_X2_startTally_J31 F A (p_X2_startTally_L2 K n2) K x1 (0 : Int32) x1)) ∧ (¬ r15 = 0 → (p_X2_startTally_J31 F A (p_X2_startTally_L2 K n2) K x1 ((A 0) 1) x1)))))))
set_option maxHeartbeats 4000000 in
set_option maxRecDepth 100000 in
theorem b_X2_startTally_L2 {p : Program} {l : Launch} {e : Env} {s : State} {m : MethodId} {args : Array Value} {below : List Frame} {meth : Method} {c : Code} {Q : State → Prop} {D : va_G} {cI cZ cR : ClassId} {adK adV : Nat → Nat} {A9 : Nat → Prop} {o : Nat} {q : Nat → Nat} {K : tF → tA → Prop}   (X : CX p s m args c yX2_startTally.cls cX2_startTally 2 D cI cZ cR adK adV A9) (ret : RTv p l e (rmN 1 21) s m args below meth c Q cX2_startTally D A9 (fun (u : (tF × tA)) => K u.1 u.2) (fun (u : (tF × tA)) => (wX2 cI cZ o q u.1 u.2 : va_W)))   : ∀ (n : Nat) (F : tF) (A : tA) (x1 : Int32) (H : Heap) (locs : List Loc) (ls : Array Slot), p_X2_startTally_L2 K n F A x1 → va_P D vwCl (wX2 cI cZ o q F A : va_W) H → va_D A9 (wX2 cI cZ o q F A : va_W) → va_S A9 s.heap H locs → lv_has ls 2 [(0, .ref o), (1, .int x1)] → W p l e (rmN 1 21) s m args below meth c H locs 0 0 Q (F0 m 2 ls []) := by
  obtain ⟨hx, hb, hml, ht, hown, hK, hA, hE⟩ := id X
  intro n
  induction n with
  | zero => intro F A x1 H locs ls h; exact False.elim h
  | succ n2 ih =>
    intro F A x1 H locs ls h hP hD hS hl
    rw [p_X2_startTally_L2] at h
    refine lv_iload_n hx hb dX2_startTally_2 rfl (lv_at hl 1 rfl) ?_
    refine lv_bipush (v := 6) hx hb dX2_startTally_3 (by decide) ?_
    refine lv_icmp_ge (tgt := 38) hx hb dX2_startTally_5 (by decide) (fun c5 => ?_) (fun c5 => ?_)
    · replace h := h.1 c5
      exact ret (F, A) _ _ _ _ dX2_startTally_38 h hP hD hS
    · replace h := h.2 c5
      refine lv_aload_n hx hb dX2_startTally_8 rfl (lv_at hl 0 rfl) ?_
      refine va_get (C := RX2) (T := TX2) (N := 13) (own := RX2) (v := .ref (q 7)) hx hb ht inlX2 hown hK hP 0 rfl rfl 7 (Nat.le_of_ble_eq_true rfl) (ht _ mw_3_6) (fun _ h9 => h9) rfl dX2_startTally_9 ?_
      refine lv_iload_n hx hb dX2_startTally_12 rfl (lv_at hl 1 rfl) ?_
      refine lv_aload_n hx hb dX2_startTally_13 rfl (lv_at hl 0 rfl) ?_
      refine lv_iload_n hx hb dX2_startTally_14 rfl (lv_at hl 1 rfl) ?_
      refine C_vi (wr := []) X hP hD hS [.int x1] [.int x1, .ref (q 7)] (w_X2_isCalled l D cI cZ cR adK adV _ o q F A x1 _ h) cal_X2_isCalled mw_18_4 rfl [0, 1, 2, 3, 4, 5, 6, 7, 8] [] [0, 1, 2, 3, 4, 5, 6, 7, 8] (fun u => (wX2 cI cZ o q F A : va_W)) rfl rfl (fun _ => rfl) rfl 0 rfl rfl ⟨rfl, rfl⟩ ⟨Nat.le_of_ble_eq_true rfl, Nat.le_of_ble_eq_true rfl⟩ hl.1 rfl (Nat.le_of_ble_eq_true rfl) ⟨Nat.zero_le _, Nat.zero_le _⟩ dX2_startTally_15 (fun r15 u H locs h hP hD hS => ?_)
      refine lv_if_eq (tgt := 30) hx hb dX2_startTally_18 (by decide) (fun c18 => ?_) (fun c18 => ?_)
      · replace h := h.1 c18
        refine lv_iconst (v := 0) hx hb dX2_startTally_30 (by decide) ?_
        exact b_X2_startTally_J31 F A x1 (0 : Int32) x1 X ret ih _ _ _ h hP hD hS (lv_sub hl [0, 1] rfl)
      · replace h := h.2 c18
        refine lv_aload_n hx hb dX2_startTally_21 rfl (lv_at hl 0 rfl) ?_
        refine va_get (C := RX2) (T := TX2) (N := 13) (own := RX2) (v := .ref (q 0)) hx hb ht inlX2 hown hK hP 0 rfl rfl 0 (Nat.le_of_ble_eq_true rfl) (ht _ mw_2_23) (fun _ h9 => h9) rfl dX2_startTally_22 ?_
        refine lv_iconst (v := 1) hx hb dX2_startTally_25 (by decide) ?_
        refine g_iald (f := (A 0)) (k := 1) hx hb hK hP 1 0 rfl rfl (vp_in_lit rfl : vp_in (1 : Int32) 4) (by decide) dX2_startTally_26 ?_
        refine lv_goto (tgt := 31) hx hb dX2_startTally_27 (by decide) ?_
        exact b_X2_startTally_J31 F A x1 ((A 0) 1) x1 X ret ih _ _ _ h hP hD hS (lv_sub hl [0, 1] rfl)
def p_X2_startTally (F : tF) (A : tA) (K : tF → tA → Prop) : Prop := (∃ n2, p_X2_startTally_L2 K n2 F A (0 : Int32))
set_option maxHeartbeats 4000000 in
set_option maxRecDepth 100000 in
theorem w_X2_startTally (l : Launch) (D : va_G) (cI cZ cR : ClassId) (adK adV : Nat → Nat) (sz : Nat) (o : Nat) (q : Nat → Nat) (F : tF) (A : tA) (K : tF → tA → Prop) (h : p_X2_startTally F A K) : MV l D cI cZ cR adK adV yX2_startTally cX2_startTally 2 none (rmN 1 21) [.ref o] (wX2 cI cZ o q F A : va_W) sz (fun (u : (tF × tA)) => K u.1 u.2) (fun (u : (tF × tA)) => (wX2 cI cZ o q u.1 u.2 : va_W)) := by
  refine M_v (by decide +kernel) (Nat.le_of_ble_eq_true rfl) ?_
  intro p e s m args below meth c Q A9 ls X ret hP hD hS hl
  obtain ⟨hx, hb, hml, ht, hown, hK, hA, hE⟩ := id X
  have hl : lv_has ls 2 [(0, .ref o)] := hl
  unfold p_X2_startTally at h
  refine lv_iconst (v := 0) hx hb dX2_startTally_0 (by decide) ?_
  refine lv_istore_n (lv' := [(1, .int (0 : Int32)), (0, .ref o)]) hx hb dX2_startTally_1 rfl hl (by decide) rfl (fun ls hl => ?_)
  obtain ⟨n2, h⟩ := h
  exact b_X2_startTally_L2  X ret  n2 F A (0 : Int32) _ _ _ h hP hD hS (lv_sub hl [1, 0] rfl)
theorem dX2_worthTo_0 : decode cX2_worthTo 0 = .ok (.iconst 2, 1) := by decide +kernel
theorem dX2_worthTo_1 : decode cX2_worthTo 1 = .ok (.aload_n 0, 1) := by decide +kernel
theorem dX2_worthTo_2 : decode cX2_worthTo 2 = .ok (.getfield 15, 3) := by decide +kernel
theorem dX2_worthTo_5 : decode cX2_worthTo 5 = .ok (.iload_n 2, 1) := by decide +kernel
theorem dX2_worthTo_6 : decode cX2_worthTo 6 = .ok (.iaload, 1) := by decide +kernel
theorem dX2_worthTo_7 : decode cX2_worthTo 7 = .ok (.imul, 1) := by decide +kernel
theorem dX2_worthTo_8 : decode cX2_worthTo 8 = .ok (.aload_n 0, 1) := by decide +kernel
theorem dX2_worthTo_9 : decode cX2_worthTo 9 = .ok (.getfield 18, 3) := by decide +kernel
theorem dX2_worthTo_12 : decode cX2_worthTo 12 = .ok (.iload_n 2, 1) := by decide +kernel
theorem dX2_worthTo_13 : decode cX2_worthTo 13 = .ok (.iaload, 1) := by decide +kernel
theorem dX2_worthTo_14 : decode cX2_worthTo 14 = .ok (.isub, 1) := by decide +kernel
theorem dX2_worthTo_15 : decode cX2_worthTo 15 = .ok (.aload_n 0, 1) := by decide +kernel
theorem dX2_worthTo_16 : decode cX2_worthTo 16 = .ok (.getfield 27, 3) := by decide +kernel
theorem dX2_worthTo_19 : decode cX2_worthTo 19 = .ok (.iload_n 1, 1) := by decide +kernel
theorem dX2_worthTo_20 : decode cX2_worthTo 20 = .ok (.iaload, 1) := by decide +kernel
theorem dX2_worthTo_21 : decode cX2_worthTo 21 = .ok (.iconst 3, 1) := by decide +kernel
theorem dX2_worthTo_22 : decode cX2_worthTo 22 = .ok (.idiv, 1) := by decide +kernel
theorem dX2_worthTo_23 : decode cX2_worthTo 23 = .ok (.iload_n 2, 1) := by decide +kernel
theorem dX2_worthTo_24 : decode cX2_worthTo 24 = .ok (.aload_n 0, 1) := by decide +kernel
theorem dX2_worthTo_25 : decode cX2_worthTo 25 = .ok (.getfield 40, 3) := by decide +kernel
theorem dX2_worthTo_28 : decode cX2_worthTo 28 = .ok (.isub, 1) := by decide +kernel
theorem dX2_worthTo_29 : decode cX2_worthTo 29 = .ok (.invokestatic 61, 3) := by decide +kernel
theorem dX2_worthTo_32 : decode cX2_worthTo 32 = .ok (.imul, 1) := by decide +kernel
theorem dX2_worthTo_33 : decode cX2_worthTo 33 = .ok (.isub, 1) := by decide +kernel
theorem dX2_worthTo_34 : decode cX2_worthTo 34 = .ok (.istore_n 3, 1) := by decide +kernel
theorem dX2_worthTo_35 : decode cX2_worthTo 35 = .ok (.aload_n 0, 1) := by decide +kernel
theorem dX2_worthTo_36 : decode cX2_worthTo 36 = .ok (.getfield 30, 3) := by decide +kernel
theorem dX2_worthTo_39 : decode cX2_worthTo 39 = .ok (.iload_n 1, 1) := by decide +kernel
theorem dX2_worthTo_40 : decode cX2_worthTo 40 = .ok (.iaload, 1) := by decide +kernel
theorem dX2_worthTo_41 : decode cX2_worthTo 41 = .ok (.iload_n 2, 1) := by decide +kernel
theorem dX2_worthTo_42 : decode cX2_worthTo 42 = .ok (.if_icmp .ne 12, 3) := by decide +kernel
theorem dX2_worthTo_45 : decode cX2_worthTo 45 = .ok (.aload_n 0, 1) := by decide +kernel
theorem dX2_worthTo_46 : decode cX2_worthTo 46 = .ok (.getfield 24, 3) := by decide +kernel
theorem dX2_worthTo_49 : decode cX2_worthTo 49 = .ok (.iload_n 1, 1) := by decide +kernel
theorem dX2_worthTo_50 : decode cX2_worthTo 50 = .ok (.iaload, 1) := by decide +kernel
theorem dX2_worthTo_51 : decode cX2_worthTo 51 = .ok (.goto 4, 3) := by decide +kernel
theorem dX2_worthTo_54 : decode cX2_worthTo 54 = .ok (.iconst 0, 1) := by decide +kernel
theorem dX2_worthTo_55 : decode cX2_worthTo 55 = .ok (.istore 4, 2) := by decide +kernel
theorem dX2_worthTo_57 : decode cX2_worthTo 57 = .ok (.aload_n 0, 1) := by decide +kernel
theorem dX2_worthTo_58 : decode cX2_worthTo 58 = .ok (.getfield 21, 3) := by decide +kernel
theorem dX2_worthTo_61 : decode cX2_worthTo 61 = .ok (.iload_n 1, 1) := by decide +kernel
theorem dX2_worthTo_62 : decode cX2_worthTo 62 = .ok (.iaload, 1) := by decide +kernel
theorem dX2_worthTo_63 : decode cX2_worthTo 63 = .ok (.tableswitch 102 1 5 #[33, 59, 38, 63, 86], 33) := by decide +kernel
theorem dX2_worthTo_96 : decode cX2_worthTo 96 = .ok (.iload_n 3, 1) := by decide +kernel
theorem dX2_worthTo_97 : decode cX2_worthTo 97 = .ok (.iload 4, 2) := by decide +kernel
theorem dX2_worthTo_99 : decode cX2_worthTo 99 = .ok (.iadd, 1) := by decide +kernel
theorem dX2_worthTo_100 : decode cX2_worthTo 100 = .ok (.ireturn, 1) := by decide +kernel
theorem dX2_worthTo_101 : decode cX2_worthTo 101 = .ok (.iload_n 3, 1) := by decide +kernel
theorem dX2_worthTo_102 : decode cX2_worthTo 102 = .ok (.iload 4, 2) := by decide +kernel
theorem dX2_worthTo_104 : decode cX2_worthTo 104 = .ok (.iadd, 1) := by decide +kernel
theorem dX2_worthTo_105 : decode cX2_worthTo 105 = .ok (.iload_n 2, 1) := by decide +kernel
theorem dX2_worthTo_106 : decode cX2_worthTo 106 = .ok (.iconst 5, 1) := by decide +kernel
theorem dX2_worthTo_107 : decode cX2_worthTo 107 = .ok (.if_icmp .ne 12, 3) := by decide +kernel
theorem dX2_worthTo_110 : decode cX2_worthTo 110 = .ok (.aload_n 0, 1) := by decide +kernel
theorem dX2_worthTo_111 : decode cX2_worthTo 111 = .ok (.getfield 9, 3) := by decide +kernel
theorem dX2_worthTo_114 : decode cX2_worthTo 114 = .ok (.iconst 0, 1) := by decide +kernel
theorem dX2_worthTo_115 : decode cX2_worthTo 115 = .ok (.iaload, 1) := by decide +kernel
theorem dX2_worthTo_116 : decode cX2_worthTo 116 = .ok (.goto 4, 3) := by decide +kernel
theorem dX2_worthTo_119 : decode cX2_worthTo 119 = .ok (.iconst 0, 1) := by decide +kernel
theorem dX2_worthTo_120 : decode cX2_worthTo 120 = .ok (.isub, 1) := by decide +kernel
theorem dX2_worthTo_121 : decode cX2_worthTo 121 = .ok (.ireturn, 1) := by decide +kernel
theorem dX2_worthTo_122 : decode cX2_worthTo 122 = .ok (.iload_n 3, 1) := by decide +kernel
theorem dX2_worthTo_123 : decode cX2_worthTo 123 = .ok (.iconst 2, 1) := by decide +kernel
theorem dX2_worthTo_124 : decode cX2_worthTo 124 = .ok (.idiv, 1) := by decide +kernel
theorem dX2_worthTo_125 : decode cX2_worthTo 125 = .ok (.ireturn, 1) := by decide +kernel
theorem dX2_worthTo_126 : decode cX2_worthTo 126 = .ok (.iload_n 3, 1) := by decide +kernel
theorem dX2_worthTo_127 : decode cX2_worthTo 127 = .ok (.iconst 2, 1) := by decide +kernel
theorem dX2_worthTo_128 : decode cX2_worthTo 128 = .ok (.idiv, 1) := by decide +kernel
theorem dX2_worthTo_129 : decode cX2_worthTo 129 = .ok (.aload_n 0, 1) := by decide +kernel
theorem dX2_worthTo_130 : decode cX2_worthTo 130 = .ok (.iload_n 2, 1) := by decide +kernel
theorem dX2_worthTo_131 : decode cX2_worthTo 131 = .ok (.invokevirtual 67, 3) := by decide +kernel
theorem dX2_worthTo_134 : decode cX2_worthTo 134 = .ok (.ifCond .eq 12, 3) := by decide +kernel
theorem dX2_worthTo_137 : decode cX2_worthTo 137 = .ok (.aload_n 0, 1) := by decide +kernel
theorem dX2_worthTo_138 : decode cX2_worthTo 138 = .ok (.getfield 24, 3) := by decide +kernel
theorem dX2_worthTo_141 : decode cX2_worthTo 141 = .ok (.iload_n 1, 1) := by decide +kernel
theorem dX2_worthTo_142 : decode cX2_worthTo 142 = .ok (.iaload, 1) := by decide +kernel
theorem dX2_worthTo_143 : decode cX2_worthTo 143 = .ok (.goto 4, 3) := by decide +kernel
theorem dX2_worthTo_146 : decode cX2_worthTo 146 = .ok (.iconst 0, 1) := by decide +kernel
theorem dX2_worthTo_147 : decode cX2_worthTo 147 = .ok (.iadd, 1) := by decide +kernel
theorem dX2_worthTo_148 : decode cX2_worthTo 148 = .ok (.ireturn, 1) := by decide +kernel
theorem dX2_worthTo_149 : decode cX2_worthTo 149 = .ok (.iload_n 3, 1) := by decide +kernel
theorem dX2_worthTo_150 : decode cX2_worthTo 150 = .ok (.aload_n 0, 1) := by decide +kernel
theorem dX2_worthTo_151 : decode cX2_worthTo 151 = .ok (.getfield 15, 3) := by decide +kernel
theorem dX2_worthTo_154 : decode cX2_worthTo 154 = .ok (.iload_n 2, 1) := by decide +kernel
theorem dX2_worthTo_155 : decode cX2_worthTo 155 = .ok (.iaload, 1) := by decide +kernel
theorem dX2_worthTo_156 : decode cX2_worthTo 156 = .ok (.iadd, 1) := by decide +kernel
theorem dX2_worthTo_157 : decode cX2_worthTo 157 = .ok (.aload_n 0, 1) := by decide +kernel
theorem dX2_worthTo_158 : decode cX2_worthTo 158 = .ok (.getfield 18, 3) := by decide +kernel
theorem dX2_worthTo_161 : decode cX2_worthTo 161 = .ok (.iload_n 2, 1) := by decide +kernel
theorem dX2_worthTo_162 : decode cX2_worthTo 162 = .ok (.iaload, 1) := by decide +kernel
theorem dX2_worthTo_163 : decode cX2_worthTo 163 = .ok (.iadd, 1) := by decide +kernel
theorem dX2_worthTo_164 : decode cX2_worthTo 164 = .ok (.ireturn, 1) := by decide +kernel
theorem dX2_worthTo_165 : decode cX2_worthTo 165 = .ok (.iload_n 3, 1) := by decide +kernel
theorem dX2_worthTo_166 : decode cX2_worthTo 166 = .ok (.ireturn, 1) := by decide +kernel
def p_X2_worthTo_J55 (F : tF) (A : tA) (K : Int32 → Prop) (x1 : Int32) (x2 : Int32) (x3 : Int32) (s0 : Int32) : Prop := (vp_in x1 8 ∧ ((((A 3) (x1).toNatClampNeg) = (1 : Int32) → (K (x3 + s0))) ∧ (((A 3) (x1).toNatClampNeg) = (2 : Int32) → (K (x3 / (2 : Int32)))) ∧ (((A 3) (x1).toNatClampNeg) = (3 : Int32) → ((¬ x2 = (5 : Int32) → (K ((x3 + s0) - (0 : Int32)))) ∧ (x2 = (5 : Int32) → (K ((x3 + s0) - ((A 0) 0)))))) ∧ (((A 3) (x1).toNatClampNeg) = (4 : Int32) → (p_X2_isCalled F A x2 (fun r131 => ((r131 = 0 → (K ((x3 / (2 : Int32)) + (0 : Int32)))) ∧ (¬ r131 = 0 → (vp_in x1 8 ∧ (K ((x3 / (2 : Int32)) + ((A 4) (x1).toNatClampNeg))))))))) ∧ (((A 3) (x1).toNatClampNeg) = (5 : Int32) → (vp_in x2 6 ∧ (vp_in x2 6 ∧ (K ((x3 + ((A 1) (x2).toNatClampNeg)) + ((A 2) (x2).toNatClampNeg)))))) ∧ (¬ ((A 3) (x1).toNatClampNeg) = (1 : Int32) → ¬ ((A 3) (x1).toNatClampNeg) = (2 : Int32) → ¬ ((A 3) (x1).toNatClampNeg) = (3 : Int32) → ¬ ((A 3) (x1).toNatClampNeg) = (4 : Int32) → ¬ ((A 3) (x1).toNatClampNeg) = (5 : Int32) → (K x3))))
set_option maxHeartbeats 4000000 in
set_option maxRecDepth 100000 in
theorem b_X2_worthTo_J55 {p : Program} {l : Launch} {e : Env} {s : State} {m : MethodId} {args : Array Value} {below : List Frame} {meth : Method} {c : Code} {Q : State → Prop} {D : va_G} {cI cZ cR : ClassId} {adK adV : Nat → Nat} {A9 : Nat → Prop} {o : Nat} {q : Nat → Nat} {K : Int32 → Prop}  (F : tF) (A : tA) (x1 : Int32) (x2 : Int32) (x3 : Int32) (s0 : Int32) (X : CX p s m args c yX2_worthTo.cls cX2_worthTo 5 D cI cZ cR adK adV A9) (ret : RTi p l e (rmN 1 100) s m args below meth c Q cX2_worthTo D A9 (fun (r : Int32) (u : Unit) => K r) (fun (u : Unit) => (wX2 cI cZ o q F A : va_W)))  (H : Heap) (locs : List Loc) (ls : Array Slot) (h : p_X2_worthTo_J55 F A K x1 x2 x3 s0) (hP : va_P D vwCl (wX2 cI cZ o q F A : va_W) H) (hD : va_D A9 (wX2 cI cZ o q F A : va_W)) (hS : va_S A9 s.heap H locs) (hl : lv_has ls 5 [(0, .ref o), (1, .int x1), (2, .int x2), (3, .int x3)]) : W p l e (rmN 1 100) s m args below meth c H locs 0 0 Q (F0 m 55 ls [.int s0]) := by
  obtain ⟨hx, hb, hml, ht, hown, hK, hA, hE⟩ := id X
  unfold p_X2_worthTo_J55 at h
  refine lv_istore (lv' := [(4, .int s0), (0, .ref o), (1, .int x1), (2, .int x2), (3, .int x3)]) hx hb dX2_worthTo_55 hl (by decide) rfl (fun ls hl => ?_)
  refine lv_aload_n hx hb dX2_worthTo_57 rfl (lv_at hl 1 rfl) ?_
  refine va_get (C := RX2) (T := TX2) (N := 13) (own := RX2) (v := .ref (q 3)) hx hb ht inlX2 hown hK hP 0 rfl rfl 3 (Nat.le_of_ble_eq_true rfl) (ht _ mw_3_2) (fun _ h9 => h9) rfl dX2_worthTo_58 ?_
  refine lv_iload_n hx hb dX2_worthTo_61 rfl (lv_at hl 2 rfl) ?_
  obtain ⟨hi62, h⟩ := h
  refine g_iald (f := (A 3)) (k := (x1).toNatClampNeg) hx hb hK hP 4 0 rfl rfl hi62 rfl dX2_worthTo_62 ?_
  by_cases c63_1 : ((A 3) (x1).toNatClampNeg) = (1 : Int32)
  · replace h := h.1 c63_1
    refine lv_tableIn (tgt := 96) hx hb dX2_worthTo_63 (by rw [c63_1]; decide) (by rw [c63_1]; decide) (by rw [c63_1]; rfl) (by decide) ?_
    refine lv_iload_n hx hb dX2_worthTo_96 rfl (lv_at hl 4 rfl) ?_
    refine lv_iload hx hb dX2_worthTo_97 (lv_at hl 0 rfl) ?_
    refine lv_iadd hx hb dX2_worthTo_99 ?_
    exact ret _ () _ _ _ _ dX2_worthTo_100 h hP hD hS
  by_cases c63_2 : ((A 3) (x1).toNatClampNeg) = (2 : Int32)
  · replace h := h.2.1 c63_2
    refine lv_tableIn (tgt := 122) hx hb dX2_worthTo_63 (by rw [c63_2]; decide) (by rw [c63_2]; decide) (by rw [c63_2]; rfl) (by decide) ?_
    refine lv_iload_n hx hb dX2_worthTo_122 rfl (lv_at hl 4 rfl) ?_
    refine lv_iconst (v := 2) hx hb dX2_worthTo_123 (by decide) ?_
    refine lv_idiv hx hb dX2_worthTo_124 (by decide) ?_
    exact ret _ () _ _ _ _ dX2_worthTo_125 h hP hD hS
  by_cases c63_3 : ((A 3) (x1).toNatClampNeg) = (3 : Int32)
  · replace h := h.2.2.1 c63_3
    refine lv_tableIn (tgt := 101) hx hb dX2_worthTo_63 (by rw [c63_3]; decide) (by rw [c63_3]; decide) (by rw [c63_3]; rfl) (by decide) ?_
    refine lv_iload_n hx hb dX2_worthTo_101 rfl (lv_at hl 4 rfl) ?_
    refine lv_iload hx hb dX2_worthTo_102 (lv_at hl 0 rfl) ?_
    refine lv_iadd hx hb dX2_worthTo_104 ?_
    refine lv_iload_n hx hb dX2_worthTo_105 rfl (lv_at hl 3 rfl) ?_
    refine lv_iconst (v := 5) hx hb dX2_worthTo_106 (by decide) ?_
    refine lv_icmp_ne (tgt := 119) hx hb dX2_worthTo_107 (by decide) (fun c107 => ?_) (fun c107 => ?_)
    · replace h := h.1 c107
      refine lv_iconst (v := 0) hx hb dX2_worthTo_119 (by decide) ?_
      refine lv_isub hx hb dX2_worthTo_120 ?_
      exact ret _ () _ _ _ _ dX2_worthTo_121 h hP hD hS
    · replace h := h.2 c107
      refine lv_aload_n hx hb dX2_worthTo_110 rfl (lv_at hl 1 rfl) ?_
      refine va_get (C := RX2) (T := TX2) (N := 13) (own := RX2) (v := .ref (q 0)) hx hb ht inlX2 hown hK hP 0 rfl rfl 0 (Nat.le_of_ble_eq_true rfl) (ht _ mw_2_23) (fun _ h9 => h9) rfl dX2_worthTo_111 ?_
      refine lv_iconst (v := 0) hx hb dX2_worthTo_114 (by decide) ?_
      refine g_iald (f := (A 0)) (k := 0) hx hb hK hP 1 0 rfl rfl (vp_in_lit rfl : vp_in (0 : Int32) 4) (by decide) dX2_worthTo_115 ?_
      refine lv_goto (tgt := 120) hx hb dX2_worthTo_116 (by decide) ?_
      refine lv_isub hx hb dX2_worthTo_120 ?_
      exact ret _ () _ _ _ _ dX2_worthTo_121 h hP hD hS
  by_cases c63_4 : ((A 3) (x1).toNatClampNeg) = (4 : Int32)
  · replace h := h.2.2.2.1 c63_4
    refine lv_tableIn (tgt := 126) hx hb dX2_worthTo_63 (by rw [c63_4]; decide) (by rw [c63_4]; decide) (by rw [c63_4]; rfl) (by decide) ?_
    refine lv_iload_n hx hb dX2_worthTo_126 rfl (lv_at hl 4 rfl) ?_
    refine lv_iconst (v := 2) hx hb dX2_worthTo_127 (by decide) ?_
    refine lv_idiv hx hb dX2_worthTo_128 (by decide) ?_
    refine lv_aload_n hx hb dX2_worthTo_129 rfl (lv_at hl 1 rfl) ?_
    refine lv_iload_n hx hb dX2_worthTo_130 rfl (lv_at hl 3 rfl) ?_
    refine C_vi (wr := []) X hP hD hS [.int x2] [.int (x3 / (2 : Int32))] (w_X2_isCalled l D cI cZ cR adK adV _ o q F A x2 _ h) cal_X2_isCalled mw_18_4 rfl [0, 1, 2, 3, 4, 5, 6, 7, 8] [] [0, 1, 2, 3, 4, 5, 6, 7, 8] (fun u => (wX2 cI cZ o q F A : va_W)) rfl rfl (fun _ => rfl) rfl 0 rfl rfl ⟨rfl, rfl⟩ ⟨Nat.le_of_ble_eq_true rfl, Nat.le_of_ble_eq_true rfl⟩ hl.1 rfl (Nat.le_of_ble_eq_true rfl) ⟨Nat.zero_le _, Nat.zero_le _⟩ dX2_worthTo_131 (fun r131 u H locs h hP hD hS => ?_)
    refine lv_if_eq (tgt := 146) hx hb dX2_worthTo_134 (by decide) (fun c134 => ?_) (fun c134 => ?_)
    · replace h := h.1 c134
      refine lv_iconst (v := 0) hx hb dX2_worthTo_146 (by decide) ?_
      refine lv_iadd hx hb dX2_worthTo_147 ?_
      exact ret _ () _ _ _ _ dX2_worthTo_148 h hP hD hS
    · replace h := h.2 c134
      refine lv_aload_n hx hb dX2_worthTo_137 rfl (lv_at hl 1 rfl) ?_
      refine va_get (C := RX2) (T := TX2) (N := 13) (own := RX2) (v := .ref (q 4)) hx hb ht inlX2 hown hK hP 0 rfl rfl 4 (Nat.le_of_ble_eq_true rfl) (ht _ mw_3_3) (fun _ h9 => h9) rfl dX2_worthTo_138 ?_
      refine lv_iload_n hx hb dX2_worthTo_141 rfl (lv_at hl 2 rfl) ?_
      obtain ⟨hi142, h⟩ := h
      refine g_iald (f := (A 4)) (k := (x1).toNatClampNeg) hx hb hK hP 5 0 rfl rfl hi142 rfl dX2_worthTo_142 ?_
      refine lv_goto (tgt := 147) hx hb dX2_worthTo_143 (by decide) ?_
      refine lv_iadd hx hb dX2_worthTo_147 ?_
      exact ret _ () _ _ _ _ dX2_worthTo_148 h hP hD hS
  by_cases c63_5 : ((A 3) (x1).toNatClampNeg) = (5 : Int32)
  · replace h := h.2.2.2.2.1 c63_5
    refine lv_tableIn (tgt := 149) hx hb dX2_worthTo_63 (by rw [c63_5]; decide) (by rw [c63_5]; decide) (by rw [c63_5]; rfl) (by decide) ?_
    refine lv_iload_n hx hb dX2_worthTo_149 rfl (lv_at hl 4 rfl) ?_
    refine lv_aload_n hx hb dX2_worthTo_150 rfl (lv_at hl 1 rfl) ?_
    refine va_get (C := RX2) (T := TX2) (N := 13) (own := RX2) (v := .ref (q 1)) hx hb ht inlX2 hown hK hP 0 rfl rfl 1 (Nat.le_of_ble_eq_true rfl) (ht _ mw_3_0) (fun _ h9 => h9) rfl dX2_worthTo_151 ?_
    refine lv_iload_n hx hb dX2_worthTo_154 rfl (lv_at hl 3 rfl) ?_
    obtain ⟨hi155, h⟩ := h
    refine g_iald (f := (A 1)) (k := (x2).toNatClampNeg) hx hb hK hP 2 0 rfl rfl hi155 rfl dX2_worthTo_155 ?_
    refine lv_iadd hx hb dX2_worthTo_156 ?_
    refine lv_aload_n hx hb dX2_worthTo_157 rfl (lv_at hl 1 rfl) ?_
    refine va_get (C := RX2) (T := TX2) (N := 13) (own := RX2) (v := .ref (q 2)) hx hb ht inlX2 hown hK hP 0 rfl rfl 2 (Nat.le_of_ble_eq_true rfl) (ht _ mw_3_1) (fun _ h9 => h9) rfl dX2_worthTo_158 ?_
    refine lv_iload_n hx hb dX2_worthTo_161 rfl (lv_at hl 3 rfl) ?_
    obtain ⟨hi162, h⟩ := h
    refine g_iald (f := (A 2)) (k := (x2).toNatClampNeg) hx hb hK hP 3 0 rfl rfl hi162 rfl dX2_worthTo_162 ?_
    refine lv_iadd hx hb dX2_worthTo_163 ?_
    exact ret _ () _ _ _ _ dX2_worthTo_164 h hP hD hS
  replace h := h.2.2.2.2.2 c63_1 c63_2 c63_3 c63_4 c63_5
  refine g_tdef (tgt := 165) hx hb dX2_worthTo_63 ?_ (by decide) ?_
  · exact Or.inl (sw1_5 c63_1 c63_2 c63_3 c63_4 c63_5)
  refine lv_iload_n hx hb dX2_worthTo_165 rfl (lv_at hl 4 rfl) ?_
  exact ret _ () _ _ _ _ dX2_worthTo_166 h hP hD hS
def p_X2_worthTo (F : tF) (A : tA) (x1 : Int32) (x2 : Int32) (K : Int32 → Prop) : Prop := (vp_in x2 6 ∧ (vp_in x2 6 ∧ (vp_in x1 8 ∧ (∀ y34 : Int32, y34 = ((((2 : Int32) * ((A 1) (x2).toNatClampNeg)) - ((A 2) (x2).toNatClampNeg)) - ((((A 5) (x1).toNatClampNeg) / (3 : Int32)) * (if 0 ≤ (x2 - (F 9)) then (x2 - (F 9)) else 0 - (x2 - (F 9))))) → (vp_in x1 8 ∧ ((¬ ((A 6) (x1).toNatClampNeg) = x2 → (p_X2_worthTo_J55 F A K x1 x2 y34 (0 : Int32))) ∧ (((A 6) (x1).toNatClampNeg) = x2 → (vp_in x1 8 ∧ (p_X2_worthTo_J55 F A K x1 x2 y34 ((A 4) (x1).toNatClampNeg))))))))))
set_option maxHeartbeats 4000000 in
set_option maxRecDepth 100000 in
theorem w_X2_worthTo (l : Launch) (D : va_G) (cI cZ cR : ClassId) (adK adV : Nat → Nat) (sz : Nat) (o : Nat) (q : Nat → Nat) (F : tF) (A : tA) (x1 : Int32) (x2 : Int32) (K : Int32 → Prop) (h : p_X2_worthTo F A x1 x2 K) : MI l D cI cZ cR adK adV yX2_worthTo cX2_worthTo 5 (some .int) (rmN 1 100) [.ref o, .int x1, .int x2] (wX2 cI cZ o q F A : va_W) sz (fun (r : Int32) (u : Unit) => K r) (fun (u : Unit) => (wX2 cI cZ o q F A : va_W)) := by
  refine M_i (by decide +kernel) (Nat.le_of_ble_eq_true rfl) ?_
  intro p e s m args below meth c Q A9 ls X ret hP hD hS hl
  obtain ⟨hx, hb, hml, ht, hown, hK, hA, hE⟩ := id X
  have hl : lv_has ls 5 [(0, .ref o), (1, .int x1), (2, .int x2)] := hl
  unfold p_X2_worthTo at h
  refine lv_iconst (v := 2) hx hb dX2_worthTo_0 (by decide) ?_
  refine lv_aload_n hx hb dX2_worthTo_1 rfl (lv_at hl 0 rfl) ?_
  refine va_get (C := RX2) (T := TX2) (N := 13) (own := RX2) (v := .ref (q 1)) hx hb ht inlX2 hown hK hP 0 rfl rfl 1 (Nat.le_of_ble_eq_true rfl) (ht _ mw_3_0) (fun _ h9 => h9) rfl dX2_worthTo_2 ?_
  refine lv_iload_n hx hb dX2_worthTo_5 rfl (lv_at hl 2 rfl) ?_
  obtain ⟨hi6, h⟩ := h
  refine g_iald (f := (A 1)) (k := (x2).toNatClampNeg) hx hb hK hP 2 0 rfl rfl hi6 rfl dX2_worthTo_6 ?_
  refine lv_imul hx hb dX2_worthTo_7 ?_
  refine lv_aload_n hx hb dX2_worthTo_8 rfl (lv_at hl 0 rfl) ?_
  refine va_get (C := RX2) (T := TX2) (N := 13) (own := RX2) (v := .ref (q 2)) hx hb ht inlX2 hown hK hP 0 rfl rfl 2 (Nat.le_of_ble_eq_true rfl) (ht _ mw_3_1) (fun _ h9 => h9) rfl dX2_worthTo_9 ?_
  refine lv_iload_n hx hb dX2_worthTo_12 rfl (lv_at hl 2 rfl) ?_
  obtain ⟨hi13, h⟩ := h
  refine g_iald (f := (A 2)) (k := (x2).toNatClampNeg) hx hb hK hP 3 0 rfl rfl hi13 rfl dX2_worthTo_13 ?_
  refine lv_isub hx hb dX2_worthTo_14 ?_
  refine lv_aload_n hx hb dX2_worthTo_15 rfl (lv_at hl 0 rfl) ?_
  refine va_get (C := RX2) (T := TX2) (N := 13) (own := RX2) (v := .ref (q 5)) hx hb ht inlX2 hown hK hP 0 rfl rfl 5 (Nat.le_of_ble_eq_true rfl) (ht _ mw_3_4) (fun _ h9 => h9) rfl dX2_worthTo_16 ?_
  refine lv_iload_n hx hb dX2_worthTo_19 rfl (lv_at hl 1 rfl) ?_
  obtain ⟨hi20, h⟩ := h
  refine g_iald (f := (A 5)) (k := (x1).toNatClampNeg) hx hb hK hP 6 0 rfl rfl hi20 rfl dX2_worthTo_20 ?_
  refine lv_iconst (v := 3) hx hb dX2_worthTo_21 (by decide) ?_
  refine lv_idiv hx hb dX2_worthTo_22 (by decide) ?_
  refine lv_iload_n hx hb dX2_worthTo_23 rfl (lv_at hl 2 rfl) ?_
  refine lv_aload_n hx hb dX2_worthTo_24 rfl (lv_at hl 0 rfl) ?_
  refine va_get (C := RX2) (T := TX2) (N := 13) (own := RX2) (v := .int (F 9)) hx hb ht inlX2 hown hK hP 0 rfl rfl 9 (Nat.le_of_ble_eq_true rfl) (ht _ mw_3_8) (fun _ h9 => h9) rfl dX2_worthTo_25 ?_
  refine lv_isub hx hb dX2_worthTo_28 ?_
  refine va_mabs hx hb (hml.trans hl.1.symm) hown (ht _ mw_18_0) (ht _ mw_18_1) (ht _ mw_18_2) (ht _ mw_18_3) (Nat.le_of_ble_eq_true rfl) (Nat.le_of_ble_eq_true rfl) (Nat.zero_le _) (Nat.zero_le _) dX2_worthTo_29 ?_
  refine lv_imul hx hb dX2_worthTo_32 ?_
  refine lv_isub hx hb dX2_worthTo_33 ?_
  refine lv_topi (fun y34 ey34 => ?_)
  replace h := h y34 ey34
  refine lv_istore_n (lv' := [(3, .int y34), (0, .ref o), (1, .int x1), (2, .int x2)]) hx hb dX2_worthTo_34 rfl hl (by decide) rfl (fun ls hl => ?_)
  refine lv_aload_n hx hb dX2_worthTo_35 rfl (lv_at hl 1 rfl) ?_
  refine va_get (C := RX2) (T := TX2) (N := 13) (own := RX2) (v := .ref (q 6)) hx hb ht inlX2 hown hK hP 0 rfl rfl 6 (Nat.le_of_ble_eq_true rfl) (ht _ mw_3_5) (fun _ h9 => h9) rfl dX2_worthTo_36 ?_
  refine lv_iload_n hx hb dX2_worthTo_39 rfl (lv_at hl 2 rfl) ?_
  obtain ⟨hi40, h⟩ := h
  refine g_iald (f := (A 6)) (k := (x1).toNatClampNeg) hx hb hK hP 7 0 rfl rfl hi40 rfl dX2_worthTo_40 ?_
  refine lv_iload_n hx hb dX2_worthTo_41 rfl (lv_at hl 3 rfl) ?_
  refine lv_icmp_ne (tgt := 54) hx hb dX2_worthTo_42 (by decide) (fun c42 => ?_) (fun c42 => ?_)
  · replace h := h.1 c42
    refine lv_iconst (v := 0) hx hb dX2_worthTo_54 (by decide) ?_
    exact b_X2_worthTo_J55 F A x1 x2 y34 (0 : Int32) X ret  _ _ _ h hP hD hS (lv_sub hl [1, 2, 3, 0] rfl)
  · replace h := h.2 c42
    refine lv_aload_n hx hb dX2_worthTo_45 rfl (lv_at hl 1 rfl) ?_
    refine va_get (C := RX2) (T := TX2) (N := 13) (own := RX2) (v := .ref (q 4)) hx hb ht inlX2 hown hK hP 0 rfl rfl 4 (Nat.le_of_ble_eq_true rfl) (ht _ mw_3_3) (fun _ h9 => h9) rfl dX2_worthTo_46 ?_
    refine lv_iload_n hx hb dX2_worthTo_49 rfl (lv_at hl 2 rfl) ?_
    obtain ⟨hi50, h⟩ := h
    refine g_iald (f := (A 4)) (k := (x1).toNatClampNeg) hx hb hK hP 5 0 rfl rfl hi50 rfl dX2_worthTo_50 ?_
    refine lv_goto (tgt := 55) hx hb dX2_worthTo_51 (by decide) ?_
    exact b_X2_worthTo_J55 F A x1 x2 y34 ((A 4) (x1).toNatClampNeg) X ret  _ _ _ h hP hD hS (lv_sub hl [1, 2, 3, 0] rfl)
theorem dX2_weightOf_0 : decode cX2_weightOf 0 = .ok (.aload_n 0, 1) := by decide +kernel
theorem dX2_weightOf_1 : decode cX2_weightOf 1 = .ok (.getfield 40, 3) := by decide +kernel
theorem dX2_weightOf_4 : decode cX2_weightOf 4 = .ok (.aload_n 0, 1) := by decide +kernel
theorem dX2_weightOf_5 : decode cX2_weightOf 5 = .ok (.getfield 30, 3) := by decide +kernel
theorem dX2_weightOf_8 : decode cX2_weightOf 8 = .ok (.iload_n 1, 1) := by decide +kernel
theorem dX2_weightOf_9 : decode cX2_weightOf 9 = .ok (.iaload, 1) := by decide +kernel
theorem dX2_weightOf_10 : decode cX2_weightOf 10 = .ok (.if_icmp .ne 7, 3) := by decide +kernel
theorem dX2_weightOf_13 : decode cX2_weightOf 13 = .ok (.iconst 2, 1) := by decide +kernel
theorem dX2_weightOf_14 : decode cX2_weightOf 14 = .ok (.goto 4, 3) := by decide +kernel
theorem dX2_weightOf_17 : decode cX2_weightOf 17 = .ok (.iconst 1, 1) := by decide +kernel
theorem dX2_weightOf_18 : decode cX2_weightOf 18 = .ok (.istore_n 2, 1) := by decide +kernel
theorem dX2_weightOf_19 : decode cX2_weightOf 19 = .ok (.aload_n 0, 1) := by decide +kernel
theorem dX2_weightOf_20 : decode cX2_weightOf 20 = .ok (.getfield 21, 3) := by decide +kernel
theorem dX2_weightOf_23 : decode cX2_weightOf 23 = .ok (.iload_n 1, 1) := by decide +kernel
theorem dX2_weightOf_24 : decode cX2_weightOf 24 = .ok (.iaload, 1) := by decide +kernel
theorem dX2_weightOf_25 : decode cX2_weightOf 25 = .ok (.tableswitch 64 1 5 #[35, 41, 37, 43, 45], 35) := by decide +kernel
theorem dX2_weightOf_60 : decode cX2_weightOf 60 = .ok (.iload_n 2, 1) := by decide +kernel
theorem dX2_weightOf_61 : decode cX2_weightOf 61 = .ok (.ireturn, 1) := by decide +kernel
theorem dX2_weightOf_62 : decode cX2_weightOf 62 = .ok (.iload_n 2, 1) := by decide +kernel
theorem dX2_weightOf_63 : decode cX2_weightOf 63 = .ok (.iconst 2, 1) := by decide +kernel
theorem dX2_weightOf_64 : decode cX2_weightOf 64 = .ok (.imul, 1) := by decide +kernel
theorem dX2_weightOf_65 : decode cX2_weightOf 65 = .ok (.ireturn, 1) := by decide +kernel
theorem dX2_weightOf_66 : decode cX2_weightOf 66 = .ok (.iconst 0, 1) := by decide +kernel
theorem dX2_weightOf_67 : decode cX2_weightOf 67 = .ok (.ireturn, 1) := by decide +kernel
theorem dX2_weightOf_68 : decode cX2_weightOf 68 = .ok (.iconst 2, 1) := by decide +kernel
theorem dX2_weightOf_69 : decode cX2_weightOf 69 = .ok (.ireturn, 1) := by decide +kernel
theorem dX2_weightOf_70 : decode cX2_weightOf 70 = .ok (.aload_n 0, 1) := by decide +kernel
theorem dX2_weightOf_71 : decode cX2_weightOf 71 = .ok (.getfield 15, 3) := by decide +kernel
theorem dX2_weightOf_74 : decode cX2_weightOf 74 = .ok (.aload_n 0, 1) := by decide +kernel
theorem dX2_weightOf_75 : decode cX2_weightOf 75 = .ok (.getfield 40, 3) := by decide +kernel
theorem dX2_weightOf_78 : decode cX2_weightOf 78 = .ok (.iaload, 1) := by decide +kernel
theorem dX2_weightOf_79 : decode cX2_weightOf 79 = .ok (.iconst 3, 1) := by decide +kernel
theorem dX2_weightOf_80 : decode cX2_weightOf 80 = .ok (.if_icmp .ge 7, 3) := by decide +kernel
theorem dX2_weightOf_83 : decode cX2_weightOf 83 = .ok (.iconst 3, 1) := by decide +kernel
theorem dX2_weightOf_84 : decode cX2_weightOf 84 = .ok (.goto 4, 3) := by decide +kernel
theorem dX2_weightOf_87 : decode cX2_weightOf 87 = .ok (.iconst 1, 1) := by decide +kernel
theorem dX2_weightOf_88 : decode cX2_weightOf 88 = .ok (.ireturn, 1) := by decide +kernel
theorem dX2_weightOf_89 : decode cX2_weightOf 89 = .ok (.iconst 1, 1) := by decide +kernel
theorem dX2_weightOf_90 : decode cX2_weightOf 90 = .ok (.ireturn, 1) := by decide +kernel
def p_X2_weightOf_J18 (F : tF) (A : tA) (K : Int32 → Prop) (x1 : Int32) (s0 : Int32) : Prop := (vp_in x1 8 ∧ ((((A 3) (x1).toNatClampNeg) = (1 : Int32) → (K s0)) ∧ (((A 3) (x1).toNatClampNeg) = (2 : Int32) → (K (0 : Int32))) ∧ (((A 3) (x1).toNatClampNeg) = (3 : Int32) → (K (s0 * (2 : Int32)))) ∧ (((A 3) (x1).toNatClampNeg) = (4 : Int32) → (K (2 : Int32))) ∧ (((A 3) (x1).toNatClampNeg) = (5 : Int32) → (vp_in (F 9) 6 ∧ (((3 : Int32) ≤ ((A 1) ((F 9)).toNatClampNeg) → (K (1 : Int32))) ∧ (¬ (3 : Int32) ≤ ((A 1) ((F 9)).toNatClampNeg) → (K (3 : Int32)))))) ∧ (¬ ((A 3) (x1).toNatClampNeg) = (1 : Int32) → ¬ ((A 3) (x1).toNatClampNeg) = (2 : Int32) → ¬ ((A 3) (x1).toNatClampNeg) = (3 : Int32) → ¬ ((A 3) (x1).toNatClampNeg) = (4 : Int32) → ¬ ((A 3) (x1).toNatClampNeg) = (5 : Int32) → (K (1 : Int32)))))
set_option maxHeartbeats 4000000 in
set_option maxRecDepth 100000 in
theorem b_X2_weightOf_J18 {p : Program} {l : Launch} {e : Env} {s : State} {m : MethodId} {args : Array Value} {below : List Frame} {meth : Method} {c : Code} {Q : State → Prop} {D : va_G} {cI cZ cR : ClassId} {adK adV : Nat → Nat} {A9 : Nat → Prop} {o : Nat} {q : Nat → Nat} {K : Int32 → Prop}  (F : tF) (A : tA) (x1 : Int32) (s0 : Int32) (X : CX p s m args c yX2_weightOf.cls cX2_weightOf 3 D cI cZ cR adK adV A9) (ret : RTi p l e (rmN 0 0) s m args below meth c Q cX2_weightOf D A9 (fun (r : Int32) (u : Unit) => K r) (fun (u : Unit) => (wX2 cI cZ o q F A : va_W)))  (H : Heap) (locs : List Loc) (ls : Array Slot) (h : p_X2_weightOf_J18 F A K x1 s0) (hP : va_P D vwCl (wX2 cI cZ o q F A : va_W) H) (hD : va_D A9 (wX2 cI cZ o q F A : va_W)) (hS : va_S A9 s.heap H locs) (hl : lv_has ls 3 [(0, .ref o), (1, .int x1)]) : W p l e (rmN 0 0) s m args below meth c H locs 0 0 Q (F0 m 18 ls [.int s0]) := by
  obtain ⟨hx, hb, hml, ht, hown, hK, hA, hE⟩ := id X
  unfold p_X2_weightOf_J18 at h
  refine lv_istore_n (lv' := [(2, .int s0), (0, .ref o), (1, .int x1)]) hx hb dX2_weightOf_18 rfl hl (by decide) rfl (fun ls hl => ?_)
  refine lv_aload_n hx hb dX2_weightOf_19 rfl (lv_at hl 1 rfl) ?_
  refine va_get (C := RX2) (T := TX2) (N := 13) (own := RX2) (v := .ref (q 3)) hx hb ht inlX2 hown hK hP 0 rfl rfl 3 (Nat.le_of_ble_eq_true rfl) (ht _ mw_3_2) (fun _ h9 => h9) rfl dX2_weightOf_20 ?_
  refine lv_iload_n hx hb dX2_weightOf_23 rfl (lv_at hl 2 rfl) ?_
  obtain ⟨hi24, h⟩ := h
  refine g_iald (f := (A 3)) (k := (x1).toNatClampNeg) hx hb hK hP 4 0 rfl rfl hi24 rfl dX2_weightOf_24 ?_
  by_cases c25_1 : ((A 3) (x1).toNatClampNeg) = (1 : Int32)
  · replace h := h.1 c25_1
    refine lv_tableIn (tgt := 60) hx hb dX2_weightOf_25 (by rw [c25_1]; decide) (by rw [c25_1]; decide) (by rw [c25_1]; rfl) (by decide) ?_
    refine lv_iload_n hx hb dX2_weightOf_60 rfl (lv_at hl 0 rfl) ?_
    exact ret _ () _ _ _ _ dX2_weightOf_61 h hP hD hS
  by_cases c25_2 : ((A 3) (x1).toNatClampNeg) = (2 : Int32)
  · replace h := h.2.1 c25_2
    refine lv_tableIn (tgt := 66) hx hb dX2_weightOf_25 (by rw [c25_2]; decide) (by rw [c25_2]; decide) (by rw [c25_2]; rfl) (by decide) ?_
    refine lv_iconst (v := 0) hx hb dX2_weightOf_66 (by decide) ?_
    exact ret _ () _ _ _ _ dX2_weightOf_67 h hP hD hS
  by_cases c25_3 : ((A 3) (x1).toNatClampNeg) = (3 : Int32)
  · replace h := h.2.2.1 c25_3
    refine lv_tableIn (tgt := 62) hx hb dX2_weightOf_25 (by rw [c25_3]; decide) (by rw [c25_3]; decide) (by rw [c25_3]; rfl) (by decide) ?_
    refine lv_iload_n hx hb dX2_weightOf_62 rfl (lv_at hl 0 rfl) ?_
    refine lv_iconst (v := 2) hx hb dX2_weightOf_63 (by decide) ?_
    refine lv_imul hx hb dX2_weightOf_64 ?_
    exact ret _ () _ _ _ _ dX2_weightOf_65 h hP hD hS
  by_cases c25_4 : ((A 3) (x1).toNatClampNeg) = (4 : Int32)
  · replace h := h.2.2.2.1 c25_4
    refine lv_tableIn (tgt := 68) hx hb dX2_weightOf_25 (by rw [c25_4]; decide) (by rw [c25_4]; decide) (by rw [c25_4]; rfl) (by decide) ?_
    refine lv_iconst (v := 2) hx hb dX2_weightOf_68 (by decide) ?_
    exact ret _ () _ _ _ _ dX2_weightOf_69 h hP hD hS
  by_cases c25_5 : ((A 3) (x1).toNatClampNeg) = (5 : Int32)
  · replace h := h.2.2.2.2.1 c25_5
    refine lv_tableIn (tgt := 70) hx hb dX2_weightOf_25 (by rw [c25_5]; decide) (by rw [c25_5]; decide) (by rw [c25_5]; rfl) (by decide) ?_
    refine lv_aload_n hx hb dX2_weightOf_70 rfl (lv_at hl 1 rfl) ?_
    refine va_get (C := RX2) (T := TX2) (N := 13) (own := RX2) (v := .ref (q 1)) hx hb ht inlX2 hown hK hP 0 rfl rfl 1 (Nat.le_of_ble_eq_true rfl) (ht _ mw_3_0) (fun _ h9 => h9) rfl dX2_weightOf_71 ?_
    refine lv_aload_n hx hb dX2_weightOf_74 rfl (lv_at hl 1 rfl) ?_
    refine va_get (C := RX2) (T := TX2) (N := 13) (own := RX2) (v := .int (F 9)) hx hb ht inlX2 hown hK hP 0 rfl rfl 9 (Nat.le_of_ble_eq_true rfl) (ht _ mw_3_8) (fun _ h9 => h9) rfl dX2_weightOf_75 ?_
    obtain ⟨hi78, h⟩ := h
    refine g_iald (f := (A 1)) (k := ((F 9)).toNatClampNeg) hx hb hK hP 2 0 rfl rfl hi78 rfl dX2_weightOf_78 ?_
    refine lv_iconst (v := 3) hx hb dX2_weightOf_79 (by decide) ?_
    refine lv_icmp_ge (tgt := 87) hx hb dX2_weightOf_80 (by decide) (fun c80 => ?_) (fun c80 => ?_)
    · replace h := h.1 c80
      refine lv_iconst (v := 1) hx hb dX2_weightOf_87 (by decide) ?_
      exact ret _ () _ _ _ _ dX2_weightOf_88 h hP hD hS
    · replace h := h.2 c80
      refine lv_iconst (v := 3) hx hb dX2_weightOf_83 (by decide) ?_
      refine lv_goto (tgt := 88) hx hb dX2_weightOf_84 (by decide) ?_
      exact ret _ () _ _ _ _ dX2_weightOf_88 h hP hD hS
  replace h := h.2.2.2.2.2 c25_1 c25_2 c25_3 c25_4 c25_5
  refine g_tdef (tgt := 89) hx hb dX2_weightOf_25 ?_ (by decide) ?_
  · exact Or.inl (sw1_5 c25_1 c25_2 c25_3 c25_4 c25_5)
  refine lv_iconst (v := 1) hx hb dX2_weightOf_89 (by decide) ?_
  exact ret _ () _ _ _ _ dX2_weightOf_90 h hP hD hS
def p_X2_weightOf (F : tF) (A : tA) (x1 : Int32) (K : Int32 → Prop) : Prop := (vp_in x1 8 ∧ ((¬ (F 9) = ((A 6) (x1).toNatClampNeg) → (p_X2_weightOf_J18 F A K x1 (1 : Int32))) ∧ ((F 9) = ((A 6) (x1).toNatClampNeg) → (p_X2_weightOf_J18 F A K x1 (2 : Int32)))))
set_option maxHeartbeats 4000000 in
set_option maxRecDepth 100000 in
theorem w_X2_weightOf (l : Launch) (D : va_G) (cI cZ cR : ClassId) (adK adV : Nat → Nat) (sz : Nat) (o : Nat) (q : Nat → Nat) (F : tF) (A : tA) (x1 : Int32) (K : Int32 → Prop) (h : p_X2_weightOf F A x1 K) : MI l D cI cZ cR adK adV yX2_weightOf cX2_weightOf 3 (some .int) (rmN 0 0) [.ref o, .int x1] (wX2 cI cZ o q F A : va_W) sz (fun (r : Int32) (u : Unit) => K r) (fun (u : Unit) => (wX2 cI cZ o q F A : va_W)) := by
  refine M_i (by decide +kernel) (Nat.le_of_ble_eq_true rfl) ?_
  intro p e s m args below meth c Q A9 ls X ret hP hD hS hl
  obtain ⟨hx, hb, hml, ht, hown, hK, hA, hE⟩ := id X
  have hl : lv_has ls 3 [(0, .ref o), (1, .int x1)] := hl
  unfold p_X2_weightOf at h
  refine lv_aload_n hx hb dX2_weightOf_0 rfl (lv_at hl 0 rfl) ?_
  refine va_get (C := RX2) (T := TX2) (N := 13) (own := RX2) (v := .int (F 9)) hx hb ht inlX2 hown hK hP 0 rfl rfl 9 (Nat.le_of_ble_eq_true rfl) (ht _ mw_3_8) (fun _ h9 => h9) rfl dX2_weightOf_1 ?_
  refine lv_aload_n hx hb dX2_weightOf_4 rfl (lv_at hl 0 rfl) ?_
  refine va_get (C := RX2) (T := TX2) (N := 13) (own := RX2) (v := .ref (q 6)) hx hb ht inlX2 hown hK hP 0 rfl rfl 6 (Nat.le_of_ble_eq_true rfl) (ht _ mw_3_5) (fun _ h9 => h9) rfl dX2_weightOf_5 ?_
  refine lv_iload_n hx hb dX2_weightOf_8 rfl (lv_at hl 1 rfl) ?_
  obtain ⟨hi9, h⟩ := h
  refine g_iald (f := (A 6)) (k := (x1).toNatClampNeg) hx hb hK hP 7 0 rfl rfl hi9 rfl dX2_weightOf_9 ?_
  refine lv_icmp_ne (tgt := 17) hx hb dX2_weightOf_10 (by decide) (fun c10 => ?_) (fun c10 => ?_)
  · replace h := h.1 c10
    refine lv_iconst (v := 1) hx hb dX2_weightOf_17 (by decide) ?_
    exact b_X2_weightOf_J18 F A x1 (1 : Int32) X ret  _ _ _ h hP hD hS (lv_sub hl [0, 1] rfl)
  · replace h := h.2 c10
    refine lv_iconst (v := 2) hx hb dX2_weightOf_13 (by decide) ?_
    refine lv_goto (tgt := 18) hx hb dX2_weightOf_14 (by decide) ?_
    exact b_X2_weightOf_J18 F A x1 (2 : Int32) X ret  _ _ _ h hP hD hS (lv_sub hl [0, 1] rfl)
theorem dX2_tamenessOf_0 : decode cX2_tamenessOf 0 = .ok (.aload_n 0, 1) := by decide +kernel
theorem dX2_tamenessOf_1 : decode cX2_tamenessOf 1 = .ok (.getfield 21, 3) := by decide +kernel
theorem dX2_tamenessOf_4 : decode cX2_tamenessOf 4 = .ok (.iload_n 1, 1) := by decide +kernel
theorem dX2_tamenessOf_5 : decode cX2_tamenessOf 5 = .ok (.iaload, 1) := by decide +kernel
theorem dX2_tamenessOf_6 : decode cX2_tamenessOf 6 = .ok (.tableswitch 44 1 5 #[34, 38, 36, 40, 42], 34) := by decide +kernel
theorem dX2_tamenessOf_40 : decode cX2_tamenessOf 40 = .ok (.iconst 2, 1) := by decide +kernel
theorem dX2_tamenessOf_41 : decode cX2_tamenessOf 41 = .ok (.ireturn, 1) := by decide +kernel
theorem dX2_tamenessOf_42 : decode cX2_tamenessOf 42 = .ok (.iconst (-1), 1) := by decide +kernel
theorem dX2_tamenessOf_43 : decode cX2_tamenessOf 43 = .ok (.ireturn, 1) := by decide +kernel
theorem dX2_tamenessOf_44 : decode cX2_tamenessOf 44 = .ok (.iconst 3, 1) := by decide +kernel
theorem dX2_tamenessOf_45 : decode cX2_tamenessOf 45 = .ok (.ireturn, 1) := by decide +kernel
theorem dX2_tamenessOf_46 : decode cX2_tamenessOf 46 = .ok (.iconst 3, 1) := by decide +kernel
theorem dX2_tamenessOf_47 : decode cX2_tamenessOf 47 = .ok (.ireturn, 1) := by decide +kernel
theorem dX2_tamenessOf_48 : decode cX2_tamenessOf 48 = .ok (.iconst 0, 1) := by decide +kernel
theorem dX2_tamenessOf_49 : decode cX2_tamenessOf 49 = .ok (.ireturn, 1) := by decide +kernel
theorem dX2_tamenessOf_50 : decode cX2_tamenessOf 50 = .ok (.iconst 1, 1) := by decide +kernel
theorem dX2_tamenessOf_51 : decode cX2_tamenessOf 51 = .ok (.ireturn, 1) := by decide +kernel
def p_X2_tamenessOf (F : tF) (A : tA) (x1 : Int32) (K : Int32 → Prop) : Prop := (vp_in x1 8 ∧ ((((A 3) (x1).toNatClampNeg) = (1 : Int32) → (K (2 : Int32))) ∧ (((A 3) (x1).toNatClampNeg) = (2 : Int32) → (K (3 : Int32))) ∧ (((A 3) (x1).toNatClampNeg) = (3 : Int32) → (K (-1 : Int32))) ∧ (((A 3) (x1).toNatClampNeg) = (4 : Int32) → (K (3 : Int32))) ∧ (((A 3) (x1).toNatClampNeg) = (5 : Int32) → (K (0 : Int32))) ∧ (¬ ((A 3) (x1).toNatClampNeg) = (1 : Int32) → ¬ ((A 3) (x1).toNatClampNeg) = (2 : Int32) → ¬ ((A 3) (x1).toNatClampNeg) = (3 : Int32) → ¬ ((A 3) (x1).toNatClampNeg) = (4 : Int32) → ¬ ((A 3) (x1).toNatClampNeg) = (5 : Int32) → (K (1 : Int32)))))
set_option maxHeartbeats 4000000 in
set_option maxRecDepth 100000 in
theorem w_X2_tamenessOf (l : Launch) (D : va_G) (cI cZ cR : ClassId) (adK adV : Nat → Nat) (sz : Nat) (o : Nat) (q : Nat → Nat) (F : tF) (A : tA) (x1 : Int32) (K : Int32 → Prop) (h : p_X2_tamenessOf F A x1 K) : MI l D cI cZ cR adK adV yX2_tamenessOf cX2_tamenessOf 2 (some .int) (rmN 0 0) [.ref o, .int x1] (wX2 cI cZ o q F A : va_W) sz (fun (r : Int32) (u : Unit) => K r) (fun (u : Unit) => (wX2 cI cZ o q F A : va_W)) := by
  refine M_i (by decide +kernel) (Nat.le_of_ble_eq_true rfl) ?_
  intro p e s m args below meth c Q A9 ls X ret hP hD hS hl
  obtain ⟨hx, hb, hml, ht, hown, hK, hA, hE⟩ := id X
  have hl : lv_has ls 2 [(0, .ref o), (1, .int x1)] := hl
  unfold p_X2_tamenessOf at h
  refine lv_aload_n hx hb dX2_tamenessOf_0 rfl (lv_at hl 0 rfl) ?_
  refine va_get (C := RX2) (T := TX2) (N := 13) (own := RX2) (v := .ref (q 3)) hx hb ht inlX2 hown hK hP 0 rfl rfl 3 (Nat.le_of_ble_eq_true rfl) (ht _ mw_3_2) (fun _ h9 => h9) rfl dX2_tamenessOf_1 ?_
  refine lv_iload_n hx hb dX2_tamenessOf_4 rfl (lv_at hl 1 rfl) ?_
  obtain ⟨hi5, h⟩ := h
  refine g_iald (f := (A 3)) (k := (x1).toNatClampNeg) hx hb hK hP 4 0 rfl rfl hi5 rfl dX2_tamenessOf_5 ?_
  by_cases c6_1 : ((A 3) (x1).toNatClampNeg) = (1 : Int32)
  · replace h := h.1 c6_1
    refine lv_tableIn (tgt := 40) hx hb dX2_tamenessOf_6 (by rw [c6_1]; decide) (by rw [c6_1]; decide) (by rw [c6_1]; rfl) (by decide) ?_
    refine lv_iconst (v := 2) hx hb dX2_tamenessOf_40 (by decide) ?_
    exact ret _ () _ _ _ _ dX2_tamenessOf_41 h hP hD hS
  by_cases c6_2 : ((A 3) (x1).toNatClampNeg) = (2 : Int32)
  · replace h := h.2.1 c6_2
    refine lv_tableIn (tgt := 44) hx hb dX2_tamenessOf_6 (by rw [c6_2]; decide) (by rw [c6_2]; decide) (by rw [c6_2]; rfl) (by decide) ?_
    refine lv_iconst (v := 3) hx hb dX2_tamenessOf_44 (by decide) ?_
    exact ret _ () _ _ _ _ dX2_tamenessOf_45 h hP hD hS
  by_cases c6_3 : ((A 3) (x1).toNatClampNeg) = (3 : Int32)
  · replace h := h.2.2.1 c6_3
    refine lv_tableIn (tgt := 42) hx hb dX2_tamenessOf_6 (by rw [c6_3]; decide) (by rw [c6_3]; decide) (by rw [c6_3]; rfl) (by decide) ?_
    refine lv_iconst (v := -1) hx hb dX2_tamenessOf_42 (by decide) ?_
    exact ret _ () _ _ _ _ dX2_tamenessOf_43 h hP hD hS
  by_cases c6_4 : ((A 3) (x1).toNatClampNeg) = (4 : Int32)
  · replace h := h.2.2.2.1 c6_4
    refine lv_tableIn (tgt := 46) hx hb dX2_tamenessOf_6 (by rw [c6_4]; decide) (by rw [c6_4]; decide) (by rw [c6_4]; rfl) (by decide) ?_
    refine lv_iconst (v := 3) hx hb dX2_tamenessOf_46 (by decide) ?_
    exact ret _ () _ _ _ _ dX2_tamenessOf_47 h hP hD hS
  by_cases c6_5 : ((A 3) (x1).toNatClampNeg) = (5 : Int32)
  · replace h := h.2.2.2.2.1 c6_5
    refine lv_tableIn (tgt := 48) hx hb dX2_tamenessOf_6 (by rw [c6_5]; decide) (by rw [c6_5]; decide) (by rw [c6_5]; rfl) (by decide) ?_
    refine lv_iconst (v := 0) hx hb dX2_tamenessOf_48 (by decide) ?_
    exact ret _ () _ _ _ _ dX2_tamenessOf_49 h hP hD hS
  replace h := h.2.2.2.2.2 c6_1 c6_2 c6_3 c6_4 c6_5
  refine g_tdef (tgt := 50) hx hb dX2_tamenessOf_6 ?_ (by decide) ?_
  · exact Or.inl (sw1_5 c6_1 c6_2 c6_3 c6_4 c6_5)
  refine lv_iconst (v := 1) hx hb dX2_tamenessOf_50 (by decide) ?_
  exact ret _ () _ _ _ _ dX2_tamenessOf_51 h hP hD hS
theorem cal_X2_worthTo : CalV yX2_worthTo cX2_worthTo 5 (some .int) 2 := ⟨mw_17_23, mw_1_15, mw_17_21, mw_17_22, ⟨by decide +kernel, by decide +kernel, by decide +kernel⟩⟩
theorem dX2_voteOf_0 : decode cX2_voteOf 0 = .ok (.iconst 0, 1) := by decide +kernel
theorem dX2_voteOf_1 : decode cX2_voteOf 1 = .ok (.istore_n 2, 1) := by decide +kernel
theorem dX2_voteOf_2 : decode cX2_voteOf 2 = .ok (.aload_n 0, 1) := by decide +kernel
theorem dX2_voteOf_3 : decode cX2_voteOf 3 = .ok (.iload_n 1, 1) := by decide +kernel
theorem dX2_voteOf_4 : decode cX2_voteOf 4 = .ok (.iconst 0, 1) := by decide +kernel
theorem dX2_voteOf_5 : decode cX2_voteOf 5 = .ok (.invokevirtual 71, 3) := by decide +kernel
theorem dX2_voteOf_8 : decode cX2_voteOf 8 = .ok (.istore_n 3, 1) := by decide +kernel
theorem dX2_voteOf_9 : decode cX2_voteOf 9 = .ok (.iconst 1, 1) := by decide +kernel
theorem dX2_voteOf_10 : decode cX2_voteOf 10 = .ok (.istore 4, 2) := by decide +kernel
theorem dX2_voteOf_12 : decode cX2_voteOf 12 = .ok (.iload 4, 2) := by decide +kernel
theorem dX2_voteOf_14 : decode cX2_voteOf 14 = .ok (.bipush 6, 2) := by decide +kernel
theorem dX2_voteOf_16 : decode cX2_voteOf 16 = .ok (.if_icmp .ge 30, 3) := by decide +kernel
theorem dX2_voteOf_19 : decode cX2_voteOf 19 = .ok (.aload_n 0, 1) := by decide +kernel
theorem dX2_voteOf_20 : decode cX2_voteOf 20 = .ok (.iload_n 1, 1) := by decide +kernel
theorem dX2_voteOf_21 : decode cX2_voteOf 21 = .ok (.iload 4, 2) := by decide +kernel
theorem dX2_voteOf_23 : decode cX2_voteOf 23 = .ok (.invokevirtual 71, 3) := by decide +kernel
theorem dX2_voteOf_26 : decode cX2_voteOf 26 = .ok (.istore 5, 2) := by decide +kernel
theorem dX2_voteOf_28 : decode cX2_voteOf 28 = .ok (.iload 5, 2) := by decide +kernel
theorem dX2_voteOf_30 : decode cX2_voteOf 30 = .ok (.iload_n 3, 1) := by decide +kernel
theorem dX2_voteOf_31 : decode cX2_voteOf 31 = .ok (.if_icmp .le 9, 3) := by decide +kernel
theorem dX2_voteOf_34 : decode cX2_voteOf 34 = .ok (.iload 5, 2) := by decide +kernel
theorem dX2_voteOf_36 : decode cX2_voteOf 36 = .ok (.istore_n 3, 1) := by decide +kernel
theorem dX2_voteOf_37 : decode cX2_voteOf 37 = .ok (.iload 4, 2) := by decide +kernel
theorem dX2_voteOf_39 : decode cX2_voteOf 39 = .ok (.istore_n 2, 1) := by decide +kernel
theorem dX2_voteOf_40 : decode cX2_voteOf 40 = .ok (.iinc 4 1, 3) := by decide +kernel
theorem dX2_voteOf_43 : decode cX2_voteOf 43 = .ok (.goto (-31), 3) := by decide +kernel
theorem dX2_voteOf_46 : decode cX2_voteOf 46 = .ok (.iload_n 2, 1) := by decide +kernel
theorem dX2_voteOf_47 : decode cX2_voteOf 47 = .ok (.ireturn, 1) := by decide +kernel
def p_X2_voteOf_J40 (F : tF) (A : tA) (B12 : (Int32 → Int32 → Int32 → Prop)) (K : Int32 → Prop) (x1 : Int32) (x2 : Int32) (x3 : Int32) (x4 : Int32) : Prop := (∀ y40 : Int32, y40 = (x4 + (1 : Int32)) → (B12 x2 x3 y40))
set_option maxHeartbeats 4000000 in
set_option maxRecDepth 100000 in
theorem b_X2_voteOf_J40 {p : Program} {l : Launch} {e : Env} {s : State} {m : MethodId} {args : Array Value} {below : List Frame} {meth : Method} {c : Code} {Q : State → Prop} {D : va_G} {cI cZ cR : ClassId} {adK adV : Nat → Nat} {A9 : Nat → Prop} {o : Nat} {q : Nat → Nat} {K : Int32 → Prop} {B12 : (Int32 → Int32 → Int32 → Prop)} (F : tF) (A : tA) (x1 : Int32) (x2 : Int32) (x3 : Int32) (x4 : Int32) (X : CX p s m args c yX2_voteOf.cls cX2_voteOf 6 D cI cZ cR adK adV A9) (ret : RTi p l e (rmN 2 124) s m args below meth c Q cX2_voteOf D A9 (fun (r : Int32) (u : Unit) => K r) (fun (u : Unit) => (wX2 cI cZ o q F A : va_W))) (hB12 : ∀ (x2 : Int32) (x3 : Int32) (x4 : Int32) (H : Heap) (locs : List Loc) (ls : Array Slot), B12 x2 x3 x4 → va_P D vwCl (wX2 cI cZ o q F A : va_W) H → va_D A9 (wX2 cI cZ o q F A : va_W) → va_S A9 s.heap H locs → lv_has ls 6 [(0, .ref o), (1, .int x1), (2, .int x2), (3, .int x3), (4, .int x4)] → W p l e (rmN 2 124) s m args below meth c H locs 0 0 Q (F0 m 12 ls [])) (H : Heap) (locs : List Loc) (ls : Array Slot) (h : p_X2_voteOf_J40 F A B12 K x1 x2 x3 x4) (hP : va_P D vwCl (wX2 cI cZ o q F A : va_W) H) (hD : va_D A9 (wX2 cI cZ o q F A : va_W)) (hS : va_S A9 s.heap H locs) (hl : lv_has ls 6 [(0, .ref o), (1, .int x1), (2, .int x2), (3, .int x3), (4, .int x4)]) : W p l e (rmN 2 124) s m args below meth c H locs 0 0 Q (F0 m 40 ls []) := by
  obtain ⟨hx, hb, hml, ht, hown, hK, hA, hE⟩ := id X
  unfold p_X2_voteOf_J40 at h
  obtain ⟨y40, ey40⟩ : ∃ y : Int32, y = (x4 + (1 : Int32)) := ⟨_, rfl⟩
  replace h := h y40 ey40
  refine lv_iinc (v := y40) (lv' := [(4, .int y40), (0, .ref o), (1, .int x1), (2, .int x2), (3, .int x3)]) hx hb dX2_voteOf_40 hl (k := 4) rfl (by rw [ey40]; rfl) (by decide) rfl (fun ls hl => ?_)
  refine lv_goto (tgt := 12) hx hb dX2_voteOf_43 (by decide) ?_
  exact hB12 x2 x3 y40 _ _ _ h hP hD hS (lv_sub hl [1, 2, 3, 4, 0] rfl)
def p_X2_voteOf_L12 (F : tF) (A : tA) (x1 : Int32) (K : Int32 → Prop) : Nat → Int32 → Int32 → Int32 → Prop
  | 0, _, _, _ => False
  | n12 + 1, x2, x3, x4 => (((6 : Int32) ≤ x4 → (K x2)) ∧ (¬ (6 : Int32) ≤ x4 → (p_X2_worthTo F A x1 x4 (fun r23 => ((r23 ≤ x3 → (p_X2_voteOf_J40 F A (p_X2_voteOf_L12 F A x1 K n12) K x1 x2 x3 x4)) ∧ (¬ r23 ≤ x3 → (p_X2_voteOf_J40 F A (p_X2_voteOf_L12 F A x1 K n12) K x1 x4 r23 x4)))))))
set_option maxHeartbeats 4000000 in
set_option maxRecDepth 100000 in
theorem b_X2_voteOf_L12 {p : Program} {l : Launch} {e : Env} {s : State} {m : MethodId} {args : Array Value} {below : List Frame} {meth : Method} {c : Code} {Q : State → Prop} {D : va_G} {cI cZ cR : ClassId} {adK adV : Nat → Nat} {A9 : Nat → Prop} {o : Nat} {q : Nat → Nat} {K : Int32 → Prop}  (F : tF) (A : tA) (x1 : Int32) (X : CX p s m args c yX2_voteOf.cls cX2_voteOf 6 D cI cZ cR adK adV A9) (ret : RTi p l e (rmN 2 124) s m args below meth c Q cX2_voteOf D A9 (fun (r : Int32) (u : Unit) => K r) (fun (u : Unit) => (wX2 cI cZ o q F A : va_W)))   : ∀ (n : Nat) (x2 : Int32) (x3 : Int32) (x4 : Int32) (H : Heap) (locs : List Loc) (ls : Array Slot), p_X2_voteOf_L12 F A x1 K n x2 x3 x4 → va_P D vwCl (wX2 cI cZ o q F A : va_W) H → va_D A9 (wX2 cI cZ o q F A : va_W) → va_S A9 s.heap H locs → lv_has ls 6 [(0, .ref o), (1, .int x1), (2, .int x2), (3, .int x3), (4, .int x4)] → W p l e (rmN 2 124) s m args below meth c H locs 0 0 Q (F0 m 12 ls []) := by
  obtain ⟨hx, hb, hml, ht, hown, hK, hA, hE⟩ := id X
  intro n
  induction n with
  | zero => intro x2 x3 x4 H locs ls h; exact False.elim h
  | succ n12 ih =>
    intro x2 x3 x4 H locs ls h hP hD hS hl
    rw [p_X2_voteOf_L12] at h
    refine lv_iload hx hb dX2_voteOf_12 (lv_at hl 4 rfl) ?_
    refine lv_bipush (v := 6) hx hb dX2_voteOf_14 (by decide) ?_
    refine lv_icmp_ge (tgt := 46) hx hb dX2_voteOf_16 (by decide) (fun c16 => ?_) (fun c16 => ?_)
    · replace h := h.1 c16
      refine lv_iload_n hx hb dX2_voteOf_46 rfl (lv_at hl 2 rfl) ?_
      exact ret _ () _ _ _ _ dX2_voteOf_47 h hP hD hS
    · replace h := h.2 c16
      refine lv_aload_n hx hb dX2_voteOf_19 rfl (lv_at hl 0 rfl) ?_
      refine lv_iload_n hx hb dX2_voteOf_20 rfl (lv_at hl 1 rfl) ?_
      refine lv_iload hx hb dX2_voteOf_21 (lv_at hl 4 rfl) ?_
      refine C_vi (wr := []) X hP hD hS [.int x1, .int x4] [] (w_X2_worthTo l D cI cZ cR adK adV _ o q F A x1 x4 _ h) cal_X2_worthTo mw_17_20 rfl [0, 1, 2, 3, 4, 5, 6, 7, 8] [] [0, 1, 2, 3, 4, 5, 6, 7, 8] (fun u => (wX2 cI cZ o q F A : va_W)) rfl rfl (fun _ => rfl) rfl 0 rfl rfl ⟨rfl, rfl⟩ ⟨Nat.le_of_ble_eq_true rfl, Nat.le_of_ble_eq_true rfl⟩ hl.1 rfl (Nat.le_of_ble_eq_true rfl) ⟨Nat.zero_le _, Nat.zero_le _⟩ dX2_voteOf_23 (fun r23 u H locs h hP hD hS => ?_)
      refine lv_istore (lv' := [(5, .int r23), (0, .ref o), (1, .int x1), (2, .int x2), (3, .int x3), (4, .int x4)]) hx hb dX2_voteOf_26 hl (by decide) rfl (fun ls hl => ?_)
      refine lv_iload hx hb dX2_voteOf_28 (lv_at hl 0 rfl) ?_
      refine lv_iload_n hx hb dX2_voteOf_30 rfl (lv_at hl 4 rfl) ?_
      refine lv_icmp_le (tgt := 40) hx hb dX2_voteOf_31 (by decide) (fun c31 => ?_) (fun c31 => ?_)
      · replace h := h.1 c31
        exact b_X2_voteOf_J40 F A x1 x2 x3 x4 X ret ih _ _ _ h hP hD hS (lv_sub hl [1, 2, 3, 4, 5] rfl)
      · replace h := h.2 c31
        refine lv_iload hx hb dX2_voteOf_34 (lv_at hl 0 rfl) ?_
        refine lv_istore_n (lv' := [(3, .int r23), (5, .int r23), (0, .ref o), (1, .int x1), (2, .int x2), (4, .int x4)]) hx hb dX2_voteOf_36 rfl hl (by decide) rfl (fun ls hl => ?_)
        refine lv_iload hx hb dX2_voteOf_37 (lv_at hl 5 rfl) ?_
        refine lv_istore_n (lv' := [(2, .int x4), (3, .int r23), (5, .int r23), (0, .ref o), (1, .int x1), (4, .int x4)]) hx hb dX2_voteOf_39 rfl hl (by decide) rfl (fun ls hl => ?_)
        exact b_X2_voteOf_J40 F A x1 x4 r23 x4 X ret ih _ _ _ h hP hD hS (lv_sub hl [3, 4, 0, 1, 5] rfl)
def p_X2_voteOf (F : tF) (A : tA) (x1 : Int32) (K : Int32 → Prop) : Prop := (p_X2_worthTo F A x1 (0 : Int32) (fun r5 => (∃ n12, p_X2_voteOf_L12 F A x1 K n12 (0 : Int32) r5 (1 : Int32))))
set_option maxHeartbeats 4000000 in
set_option maxRecDepth 100000 in
theorem w_X2_voteOf (l : Launch) (D : va_G) (cI cZ cR : ClassId) (adK adV : Nat → Nat) (sz : Nat) (o : Nat) (q : Nat → Nat) (F : tF) (A : tA) (x1 : Int32) (K : Int32 → Prop) (h : p_X2_voteOf F A x1 K) : MI l D cI cZ cR adK adV yX2_voteOf cX2_voteOf 6 (some .int) (rmN 2 124) [.ref o, .int x1] (wX2 cI cZ o q F A : va_W) sz (fun (r : Int32) (u : Unit) => K r) (fun (u : Unit) => (wX2 cI cZ o q F A : va_W)) := by
  refine M_i (by decide +kernel) (Nat.le_of_ble_eq_true rfl) ?_
  intro p e s m args below meth c Q A9 ls X ret hP hD hS hl
  obtain ⟨hx, hb, hml, ht, hown, hK, hA, hE⟩ := id X
  have hl : lv_has ls 6 [(0, .ref o), (1, .int x1)] := hl
  unfold p_X2_voteOf at h
  refine lv_iconst (v := 0) hx hb dX2_voteOf_0 (by decide) ?_
  refine lv_istore_n (lv' := [(2, .int (0 : Int32)), (0, .ref o), (1, .int x1)]) hx hb dX2_voteOf_1 rfl hl (by decide) rfl (fun ls hl => ?_)
  refine lv_aload_n hx hb dX2_voteOf_2 rfl (lv_at hl 1 rfl) ?_
  refine lv_iload_n hx hb dX2_voteOf_3 rfl (lv_at hl 2 rfl) ?_
  refine lv_iconst (v := 0) hx hb dX2_voteOf_4 (by decide) ?_
  refine C_vi (wr := []) X hP hD hS [.int x1, .int (0 : Int32)] [] (w_X2_worthTo l D cI cZ cR adK adV _ o q F A x1 (0 : Int32) _ h) cal_X2_worthTo mw_17_20 rfl [0, 1, 2, 3, 4, 5, 6, 7, 8] [] [0, 1, 2, 3, 4, 5, 6, 7, 8] (fun u => (wX2 cI cZ o q F A : va_W)) rfl rfl (fun _ => rfl) rfl 0 rfl rfl ⟨rfl, rfl⟩ ⟨Nat.le_of_ble_eq_true rfl, Nat.le_of_ble_eq_true rfl⟩ hl.1 rfl (Nat.le_of_ble_eq_true rfl) ⟨Nat.zero_le _, Nat.zero_le _⟩ dX2_voteOf_5 (fun r5 u H locs h hP hD hS => ?_)
  refine lv_istore_n (lv' := [(3, .int r5), (2, .int (0 : Int32)), (0, .ref o), (1, .int x1)]) hx hb dX2_voteOf_8 rfl hl (by decide) rfl (fun ls hl => ?_)
  refine lv_iconst (v := 1) hx hb dX2_voteOf_9 (by decide) ?_
  refine lv_istore (lv' := [(4, .int (1 : Int32)), (3, .int r5), (2, .int (0 : Int32)), (0, .ref o), (1, .int x1)]) hx hb dX2_voteOf_10 hl (by decide) rfl (fun ls hl => ?_)
  obtain ⟨n12, h⟩ := h
  exact b_X2_voteOf_L12 F A x1 X ret  n12 (0 : Int32) r5 (1 : Int32) _ _ _ h hP hD hS (lv_sub hl [3, 4, 2, 1, 0] rfl)
theorem cal_X2_voteOf : CalV yX2_voteOf cX2_voteOf 6 (some .int) 1 := ⟨mw_17_19, mw_1_15, mw_17_17, mw_17_18, ⟨by decide +kernel, by decide +kernel, by decide +kernel⟩⟩
theorem dX2_votersOf_0 : decode cX2_votersOf 0 = .ok (.iconst 0, 1) := by decide +kernel
theorem dX2_votersOf_1 : decode cX2_votersOf 1 = .ok (.istore_n 2, 1) := by decide +kernel
theorem dX2_votersOf_2 : decode cX2_votersOf 2 = .ok (.iconst 0, 1) := by decide +kernel
theorem dX2_votersOf_3 : decode cX2_votersOf 3 = .ok (.istore_n 3, 1) := by decide +kernel
theorem dX2_votersOf_4 : decode cX2_votersOf 4 = .ok (.iload_n 3, 1) := by decide +kernel
theorem dX2_votersOf_5 : decode cX2_votersOf 5 = .ok (.aload_n 0, 1) := by decide +kernel
theorem dX2_votersOf_6 : decode cX2_votersOf 6 = .ok (.getfield 36, 3) := by decide +kernel
theorem dX2_votersOf_9 : decode cX2_votersOf 9 = .ok (.if_icmp .ge 24, 3) := by decide +kernel
theorem dX2_votersOf_12 : decode cX2_votersOf 12 = .ok (.aload_n 0, 1) := by decide +kernel
theorem dX2_votersOf_13 : decode cX2_votersOf 13 = .ok (.iload_n 3, 1) := by decide +kernel
theorem dX2_votersOf_14 : decode cX2_votersOf 14 = .ok (.invokevirtual 75, 3) := by decide +kernel
theorem dX2_votersOf_17 : decode cX2_votersOf 17 = .ok (.iload_n 1, 1) := by decide +kernel
theorem dX2_votersOf_18 : decode cX2_votersOf 18 = .ok (.if_icmp .ne 9, 3) := by decide +kernel
theorem dX2_votersOf_21 : decode cX2_votersOf 21 = .ok (.iload_n 2, 1) := by decide +kernel
theorem dX2_votersOf_22 : decode cX2_votersOf 22 = .ok (.iconst 1, 1) := by decide +kernel
theorem dX2_votersOf_23 : decode cX2_votersOf 23 = .ok (.iload_n 3, 1) := by decide +kernel
theorem dX2_votersOf_24 : decode cX2_votersOf 24 = .ok (.ishl, 1) := by decide +kernel
theorem dX2_votersOf_25 : decode cX2_votersOf 25 = .ok (.ior, 1) := by decide +kernel
theorem dX2_votersOf_26 : decode cX2_votersOf 26 = .ok (.istore_n 2, 1) := by decide +kernel
theorem dX2_votersOf_27 : decode cX2_votersOf 27 = .ok (.iinc 3 1, 3) := by decide +kernel
theorem dX2_votersOf_30 : decode cX2_votersOf 30 = .ok (.goto (-26), 3) := by decide +kernel
theorem dX2_votersOf_33 : decode cX2_votersOf 33 = .ok (.iload_n 2, 1) := by decide +kernel
theorem dX2_votersOf_34 : decode cX2_votersOf 34 = .ok (.ireturn, 1) := by decide +kernel
def p_X2_votersOf_J27 (F : tF) (A : tA) (B4 : (Int32 → Int32 → Prop)) (K : Int32 → Prop) (x1 : Int32) (x2 : Int32) (x3 : Int32) : Prop := (∀ y27 : Int32, y27 = (x3 + (1 : Int32)) → (B4 x2 y27))
set_option maxHeartbeats 4000000 in
set_option maxRecDepth 100000 in
theorem b_X2_votersOf_J27 {p : Program} {l : Launch} {e : Env} {s : State} {m : MethodId} {args : Array Value} {below : List Frame} {meth : Method} {c : Code} {Q : State → Prop} {D : va_G} {cI cZ cR : ClassId} {adK adV : Nat → Nat} {A9 : Nat → Prop} {o : Nat} {q : Nat → Nat} {K : Int32 → Prop} {B4 : (Int32 → Int32 → Prop)} (F : tF) (A : tA) (x1 : Int32) (x2 : Int32) (x3 : Int32) (X : CX p s m args c yX2_votersOf.cls cX2_votersOf 4 D cI cZ cR adK adV A9) (ret : RTi p l e (rmN 3 149) s m args below meth c Q cX2_votersOf D A9 (fun (r : Int32) (u : Unit) => K r) (fun (u : Unit) => (wX2 cI cZ o q F A : va_W))) (hB4 : ∀ (x2 : Int32) (x3 : Int32) (H : Heap) (locs : List Loc) (ls : Array Slot), B4 x2 x3 → va_P D vwCl (wX2 cI cZ o q F A : va_W) H → va_D A9 (wX2 cI cZ o q F A : va_W) → va_S A9 s.heap H locs → lv_has ls 4 [(0, .ref o), (1, .int x1), (2, .int x2), (3, .int x3)] → W p l e (rmN 3 149) s m args below meth c H locs 0 0 Q (F0 m 4 ls [])) (H : Heap) (locs : List Loc) (ls : Array Slot) (h : p_X2_votersOf_J27 F A B4 K x1 x2 x3) (hP : va_P D vwCl (wX2 cI cZ o q F A : va_W) H) (hD : va_D A9 (wX2 cI cZ o q F A : va_W)) (hS : va_S A9 s.heap H locs) (hl : lv_has ls 4 [(0, .ref o), (1, .int x1), (2, .int x2), (3, .int x3)]) : W p l e (rmN 3 149) s m args below meth c H locs 0 0 Q (F0 m 27 ls []) := by
  obtain ⟨hx, hb, hml, ht, hown, hK, hA, hE⟩ := id X
  unfold p_X2_votersOf_J27 at h
  obtain ⟨y27, ey27⟩ : ∃ y : Int32, y = (x3 + (1 : Int32)) := ⟨_, rfl⟩
  replace h := h y27 ey27
  refine lv_iinc (v := y27) (lv' := [(3, .int y27), (0, .ref o), (1, .int x1), (2, .int x2)]) hx hb dX2_votersOf_27 hl (k := 3) rfl (by rw [ey27]; rfl) (by decide) rfl (fun ls hl => ?_)
  refine lv_goto (tgt := 4) hx hb dX2_votersOf_30 (by decide) ?_
  exact hB4 x2 y27 _ _ _ h hP hD hS (lv_sub hl [1, 2, 3, 0] rfl)
def p_X2_votersOf_L4 (F : tF) (A : tA) (x1 : Int32) (K : Int32 → Prop) : Nat → Int32 → Int32 → Prop
  | 0, _, _ => False
  | n4 + 1, x2, x3 => (((F 8) ≤ x3 → (K x2)) ∧ (¬ (F 8) ≤ x3 → (p_X2_voteOf F A x3 (fun r14 => ((¬ r14 = x1 → (p_X2_votersOf_J27 F A (p_X2_votersOf_L4 F A x1 K n4) K x1 x2 x3)) ∧ (r14 = x1 → (∀ y26 : Int32, y26 = (x2 ||| ((1 : Int32) <<< (x3 &&& 31))) → (p_X2_votersOf_J27 F A (p_X2_votersOf_L4 F A x1 K n4) K x1 y26 x3))))))))
set_option maxHeartbeats 4000000 in
set_option maxRecDepth 100000 in
theorem b_X2_votersOf_L4 {p : Program} {l : Launch} {e : Env} {s : State} {m : MethodId} {args : Array Value} {below : List Frame} {meth : Method} {c : Code} {Q : State → Prop} {D : va_G} {cI cZ cR : ClassId} {adK adV : Nat → Nat} {A9 : Nat → Prop} {o : Nat} {q : Nat → Nat} {K : Int32 → Prop}  (F : tF) (A : tA) (x1 : Int32) (X : CX p s m args c yX2_votersOf.cls cX2_votersOf 4 D cI cZ cR adK adV A9) (ret : RTi p l e (rmN 3 149) s m args below meth c Q cX2_votersOf D A9 (fun (r : Int32) (u : Unit) => K r) (fun (u : Unit) => (wX2 cI cZ o q F A : va_W)))   : ∀ (n : Nat) (x2 : Int32) (x3 : Int32) (H : Heap) (locs : List Loc) (ls : Array Slot), p_X2_votersOf_L4 F A x1 K n x2 x3 → va_P D vwCl (wX2 cI cZ o q F A : va_W) H → va_D A9 (wX2 cI cZ o q F A : va_W) → va_S A9 s.heap H locs → lv_has ls 4 [(0, .ref o), (1, .int x1), (2, .int x2), (3, .int x3)] → W p l e (rmN 3 149) s m args below meth c H locs 0 0 Q (F0 m 4 ls []) := by
  obtain ⟨hx, hb, hml, ht, hown, hK, hA, hE⟩ := id X
  intro n
  induction n with
  | zero => intro x2 x3 H locs ls h; exact False.elim h
  | succ n4 ih =>
    intro x2 x3 H locs ls h hP hD hS hl
    rw [p_X2_votersOf_L4] at h
    refine lv_iload_n hx hb dX2_votersOf_4 rfl (lv_at hl 3 rfl) ?_
    refine lv_aload_n hx hb dX2_votersOf_5 rfl (lv_at hl 0 rfl) ?_
    refine va_get (C := RX2) (T := TX2) (N := 13) (own := RX2) (v := .int (F 8)) hx hb ht inlX2 hown hK hP 0 rfl rfl 8 (Nat.le_of_ble_eq_true rfl) (ht _ mw_3_7) (fun _ h9 => h9) rfl dX2_votersOf_6 ?_
    refine lv_icmp_ge (tgt := 33) hx hb dX2_votersOf_9 (by decide) (fun c9 => ?_) (fun c9 => ?_)
    · replace h := h.1 c9
      refine lv_iload_n hx hb dX2_votersOf_33 rfl (lv_at hl 2 rfl) ?_
      exact ret _ () _ _ _ _ dX2_votersOf_34 h hP hD hS
    · replace h := h.2 c9
      refine lv_aload_n hx hb dX2_votersOf_12 rfl (lv_at hl 0 rfl) ?_
      refine lv_iload_n hx hb dX2_votersOf_13 rfl (lv_at hl 3 rfl) ?_
      refine C_vi (wr := []) X hP hD hS [.int x3] [] (w_X2_voteOf l D cI cZ cR adK adV _ o q F A x3 _ h) cal_X2_voteOf mw_21_23 rfl [0, 1, 2, 3, 4, 5, 6, 7, 8] [] [0, 1, 2, 3, 4, 5, 6, 7, 8] (fun u => (wX2 cI cZ o q F A : va_W)) rfl rfl (fun _ => rfl) rfl 0 rfl rfl ⟨rfl, rfl⟩ ⟨Nat.le_of_ble_eq_true rfl, Nat.le_of_ble_eq_true rfl⟩ hl.1 rfl (Nat.le_of_ble_eq_true rfl) ⟨Nat.zero_le _, Nat.zero_le _⟩ dX2_votersOf_14 (fun r14 u H locs h hP hD hS => ?_)
      refine lv_iload_n hx hb dX2_votersOf_17 rfl (lv_at hl 1 rfl) ?_
      refine lv_icmp_ne (tgt := 27) hx hb dX2_votersOf_18 (by decide) (fun c18 => ?_) (fun c18 => ?_)
      · replace h := h.1 c18
        exact b_X2_votersOf_J27 F A x1 x2 x3 X ret ih _ _ _ h hP hD hS (lv_sub hl [0, 1, 2, 3] rfl)
      · replace h := h.2 c18
        refine lv_iload_n hx hb dX2_votersOf_21 rfl (lv_at hl 2 rfl) ?_
        refine lv_iconst (v := 1) hx hb dX2_votersOf_22 (by decide) ?_
        refine lv_iload_n hx hb dX2_votersOf_23 rfl (lv_at hl 3 rfl) ?_
        refine lv_ishl hx hb dX2_votersOf_24 ?_
        refine lv_ior hx hb dX2_votersOf_25 ?_
        refine lv_topi (fun y26 ey26 => ?_)
        replace h := h y26 ey26
        refine lv_istore_n (lv' := [(2, .int y26), (0, .ref o), (1, .int x1), (3, .int x3)]) hx hb dX2_votersOf_26 rfl hl (by decide) rfl (fun ls hl => ?_)
        exact b_X2_votersOf_J27 F A x1 y26 x3 X ret ih _ _ _ h hP hD hS (lv_sub hl [1, 2, 0, 3] rfl)
def p_X2_votersOf (F : tF) (A : tA) (x1 : Int32) (K : Int32 → Prop) : Prop := (∃ n4, p_X2_votersOf_L4 F A x1 K n4 (0 : Int32) (0 : Int32))
set_option maxHeartbeats 4000000 in
set_option maxRecDepth 100000 in
theorem w_X2_votersOf (l : Launch) (D : va_G) (cI cZ cR : ClassId) (adK adV : Nat → Nat) (sz : Nat) (o : Nat) (q : Nat → Nat) (F : tF) (A : tA) (x1 : Int32) (K : Int32 → Prop) (h : p_X2_votersOf F A x1 K) : MI l D cI cZ cR adK adV yX2_votersOf cX2_votersOf 4 (some .int) (rmN 3 149) [.ref o, .int x1] (wX2 cI cZ o q F A : va_W) sz (fun (r : Int32) (u : Unit) => K r) (fun (u : Unit) => (wX2 cI cZ o q F A : va_W)) := by
  refine M_i (by decide +kernel) (Nat.le_of_ble_eq_true rfl) ?_
  intro p e s m args below meth c Q A9 ls X ret hP hD hS hl
  obtain ⟨hx, hb, hml, ht, hown, hK, hA, hE⟩ := id X
  have hl : lv_has ls 4 [(0, .ref o), (1, .int x1)] := hl
  unfold p_X2_votersOf at h
  refine lv_iconst (v := 0) hx hb dX2_votersOf_0 (by decide) ?_
  refine lv_istore_n (lv' := [(2, .int (0 : Int32)), (0, .ref o), (1, .int x1)]) hx hb dX2_votersOf_1 rfl hl (by decide) rfl (fun ls hl => ?_)
  refine lv_iconst (v := 0) hx hb dX2_votersOf_2 (by decide) ?_
  refine lv_istore_n (lv' := [(3, .int (0 : Int32)), (2, .int (0 : Int32)), (0, .ref o), (1, .int x1)]) hx hb dX2_votersOf_3 rfl hl (by decide) rfl (fun ls hl => ?_)
  obtain ⟨n4, h⟩ := h
  exact b_X2_votersOf_L4 F A x1 X ret  n4 (0 : Int32) (0 : Int32) _ _ _ h hP hD hS (lv_sub hl [2, 3, 1, 0] rfl)
theorem cal_X2_startTally : CalV yX2_startTally cX2_startTally 2 none 0 := ⟨mw_22_7, mw_1_15, mw_22_5, mw_22_6, ⟨by decide +kernel, by decide +kernel, by decide +kernel⟩⟩
theorem cal_X2_weightOf : CalV yX2_weightOf cX2_weightOf 3 (some .int) 1 := ⟨mw_17_15, mw_1_15, mw_17_13, mw_17_14, ⟨by decide +kernel, by decide +kernel, by decide +kernel⟩⟩
theorem dX2_takeVotes_0 : decode cX2_takeVotes 0 = .ok (.aload_n 0, 1) := by decide +kernel
theorem dX2_takeVotes_1 : decode cX2_takeVotes 1 = .ok (.invokevirtual 78, 3) := by decide +kernel
theorem dX2_takeVotes_4 : decode cX2_takeVotes 4 = .ok (.iconst 0, 1) := by decide +kernel
theorem dX2_takeVotes_5 : decode cX2_takeVotes 5 = .ok (.istore_n 1, 1) := by decide +kernel
theorem dX2_takeVotes_6 : decode cX2_takeVotes 6 = .ok (.iload_n 1, 1) := by decide +kernel
theorem dX2_takeVotes_7 : decode cX2_takeVotes 7 = .ok (.aload_n 0, 1) := by decide +kernel
theorem dX2_takeVotes_8 : decode cX2_takeVotes 8 = .ok (.getfield 36, 3) := by decide +kernel
theorem dX2_takeVotes_11 : decode cX2_takeVotes 11 = .ok (.if_icmp .ge 27, 3) := by decide +kernel
theorem dX2_takeVotes_14 : decode cX2_takeVotes 14 = .ok (.aload_n 0, 1) := by decide +kernel
theorem dX2_takeVotes_15 : decode cX2_takeVotes 15 = .ok (.getfield 33, 3) := by decide +kernel
theorem dX2_takeVotes_18 : decode cX2_takeVotes 18 = .ok (.aload_n 0, 1) := by decide +kernel
theorem dX2_takeVotes_19 : decode cX2_takeVotes 19 = .ok (.iload_n 1, 1) := by decide +kernel
theorem dX2_takeVotes_20 : decode cX2_takeVotes 20 = .ok (.invokevirtual 75, 3) := by decide +kernel
theorem dX2_takeVotes_23 : decode cX2_takeVotes 23 = .ok (.dup2, 1) := by decide +kernel
theorem dX2_takeVotes_24 : decode cX2_takeVotes 24 = .ok (.iaload, 1) := by decide +kernel
theorem dX2_takeVotes_25 : decode cX2_takeVotes 25 = .ok (.aload_n 0, 1) := by decide +kernel
theorem dX2_takeVotes_26 : decode cX2_takeVotes 26 = .ok (.iload_n 1, 1) := by decide +kernel
theorem dX2_takeVotes_27 : decode cX2_takeVotes 27 = .ok (.invokevirtual 81, 3) := by decide +kernel
theorem dX2_takeVotes_30 : decode cX2_takeVotes 30 = .ok (.iadd, 1) := by decide +kernel
theorem dX2_takeVotes_31 : decode cX2_takeVotes 31 = .ok (.iastore, 1) := by decide +kernel
theorem dX2_takeVotes_32 : decode cX2_takeVotes 32 = .ok (.iinc 1 1, 3) := by decide +kernel
theorem dX2_takeVotes_35 : decode cX2_takeVotes 35 = .ok (.goto (-29), 3) := by decide +kernel
theorem dX2_takeVotes_38 : decode cX2_takeVotes 38 = .ok (.return_, 1) := by decide +kernel
def p_X2_takeVotes_L6 (K : tF → tA → Prop) : Nat → tF → tA → Int32 → Prop
  | 0, _, _, _ => False
  | n6 + 1, F, A, x1 => (((F 8) ≤ x1 → (K F A)) ∧ (¬ (F 8) ≤ x1 → (p_X2_voteOf F A x1 (fun r20 => (vp_in r20 6 ∧ (p_X2_weightOf F A x1 (fun r27 => (vp_in r20 6 ∧ (∀ f_31 : tF, f_31 = (upd (A 7) (r20).toNatClampNeg (((A 7) (r20).toNatClampNeg) + r27)) → (∀ y32 : Int32, y32 = (x1 + (1 : Int32)) → ((p_X2_takeVotes_L6 K n6) F (va_up A 7 f_31) y32)))))))))))
set_option maxHeartbeats 4000000 in
set_option maxRecDepth 100000 in
theorem b_X2_takeVotes_L6 {p : Program} {l : Launch} {e : Env} {s : State} {m : MethodId} {args : Array Value} {below : List Frame} {meth : Method} {c : Code} {Q : State → Prop} {D : va_G} {cI cZ cR : ClassId} {adK adV : Nat → Nat} {A9 : Nat → Prop} {o : Nat} {q : Nat → Nat} {K : tF → tA → Prop}   (X : CX p s m args c yX2_takeVotes.cls cX2_takeVotes 2 D cI cZ cR adK adV A9) (ret : RTv p l e (rmN 3 149) s m args below meth c Q cX2_takeVotes D A9 (fun (u : (tF × tA)) => K u.1 u.2) (fun (u : (tF × tA)) => (wX2 cI cZ o q u.1 u.2 : va_W)))   : ∀ (n : Nat) (F : tF) (A : tA) (x1 : Int32) (H : Heap) (locs : List Loc) (ls : Array Slot), p_X2_takeVotes_L6 K n F A x1 → va_P D vwCl (wX2 cI cZ o q F A : va_W) H → va_D A9 (wX2 cI cZ o q F A : va_W) → va_S A9 s.heap H locs → lv_has ls 2 [(0, .ref o), (1, .int x1)] → W p l e (rmN 3 149) s m args below meth c H locs 0 0 Q (F0 m 6 ls []) := by
  obtain ⟨hx, hb, hml, ht, hown, hK, hA, hE⟩ := id X
  intro n
  induction n with
  | zero => intro F A x1 H locs ls h; exact False.elim h
  | succ n6 ih =>
    intro F A x1 H locs ls h hP hD hS hl
    rw [p_X2_takeVotes_L6] at h
    refine lv_iload_n hx hb dX2_takeVotes_6 rfl (lv_at hl 1 rfl) ?_
    refine lv_aload_n hx hb dX2_takeVotes_7 rfl (lv_at hl 0 rfl) ?_
    refine va_get (C := RX2) (T := TX2) (N := 13) (own := RX2) (v := .int (F 8)) hx hb ht inlX2 hown hK hP 0 rfl rfl 8 (Nat.le_of_ble_eq_true rfl) (ht _ mw_3_7) (fun _ h9 => h9) rfl dX2_takeVotes_8 ?_
    refine lv_icmp_ge (tgt := 38) hx hb dX2_takeVotes_11 (by decide) (fun c11 => ?_) (fun c11 => ?_)
    · replace h := h.1 c11
      exact ret (F, A) _ _ _ _ dX2_takeVotes_38 h hP hD hS
    · replace h := h.2 c11
      refine lv_aload_n hx hb dX2_takeVotes_14 rfl (lv_at hl 0 rfl) ?_
      refine va_get (C := RX2) (T := TX2) (N := 13) (own := RX2) (v := .ref (q 7)) hx hb ht inlX2 hown hK hP 0 rfl rfl 7 (Nat.le_of_ble_eq_true rfl) (ht _ mw_3_6) (fun _ h9 => h9) rfl dX2_takeVotes_15 ?_
      refine lv_aload_n hx hb dX2_takeVotes_18 rfl (lv_at hl 0 rfl) ?_
      refine lv_iload_n hx hb dX2_takeVotes_19 rfl (lv_at hl 1 rfl) ?_
      refine C_vi (wr := []) X hP hD hS [.int x1] [.ref (q 7)] (w_X2_voteOf l D cI cZ cR adK adV _ o q F A x1 _ h) cal_X2_voteOf mw_21_23 rfl [0, 1, 2, 3, 4, 5, 6, 7, 8] [] [0, 1, 2, 3, 4, 5, 6, 7, 8] (fun u => (wX2 cI cZ o q F A : va_W)) rfl rfl (fun _ => rfl) rfl 0 rfl rfl ⟨rfl, rfl⟩ ⟨Nat.le_of_ble_eq_true rfl, Nat.le_of_ble_eq_true rfl⟩ hl.1 rfl (Nat.le_of_ble_eq_true rfl) ⟨Nat.zero_le _, Nat.zero_le _⟩ dX2_takeVotes_20 (fun r20 u H locs h hP hD hS => ?_)
      refine lv_dup2_11 hx hb dX2_takeVotes_23 rfl rfl ?_
      obtain ⟨hi24, h⟩ := h
      refine g_iald (f := (A 7)) (k := (r20).toNatClampNeg) hx hb hK hP 8 0 rfl rfl hi24 rfl dX2_takeVotes_24 ?_
      refine lv_aload_n hx hb dX2_takeVotes_25 rfl (lv_at hl 0 rfl) ?_
      refine lv_iload_n hx hb dX2_takeVotes_26 rfl (lv_at hl 1 rfl) ?_
      refine C_vi (wr := []) X hP hD hS [.int x1] [.int ((A 7) (r20).toNatClampNeg), .int r20, .ref (q 7)] (w_X2_weightOf l D cI cZ cR adK adV _ o q F A x1 _ h) cal_X2_weightOf mw_22_8 rfl [0, 1, 2, 3, 4, 5, 6, 7, 8] [] [0, 1, 2, 3, 4, 5, 6, 7, 8] (fun u => (wX2 cI cZ o q F A : va_W)) rfl rfl (fun _ => rfl) rfl 0 rfl rfl ⟨rfl, rfl⟩ ⟨Nat.le_of_ble_eq_true rfl, Nat.le_of_ble_eq_true rfl⟩ hl.1 rfl (Nat.le_of_ble_eq_true rfl) ⟨Nat.zero_le _, Nat.zero_le _⟩ dX2_takeVotes_27 (fun r27 u H locs h hP hD hS => ?_)
      refine lv_iadd hx hb dX2_takeVotes_30 ?_
      obtain ⟨hi31, h⟩ := h
      obtain ⟨f_31, ef_31⟩ : ∃ z : tF, z = (upd (A 7) (r20).toNatClampNeg (((A 7) (r20).toNatClampNeg) + r27)) := ⟨_, rfl⟩
      replace h := h f_31 ef_31
      refine g_iast (f := (A 7)) (k := (r20).toNatClampNeg) hx hb hK hP hD hS 8 0 rfl rfl hi31 rfl ef_31 dX2_takeVotes_31 (fun H locs hP hD hS => ?_)
      have hP : va_P D vwCl (wX2 cI cZ o q F (va_up A 7 f_31) : va_W) H := hP
      have hD : va_D A9 (wX2 cI cZ o q F (va_up A 7 f_31) : va_W) := hD
      obtain ⟨y32, ey32⟩ : ∃ y : Int32, y = (x1 + (1 : Int32)) := ⟨_, rfl⟩
      replace h := h y32 ey32
      refine lv_iinc (v := y32) (lv' := [(1, .int y32), (0, .ref o)]) hx hb dX2_takeVotes_32 hl (k := 1) rfl (by rw [ey32]; rfl) (by decide) rfl (fun ls hl => ?_)
      refine lv_goto (tgt := 6) hx hb dX2_takeVotes_35 (by decide) ?_
      exact ih F (va_up A 7 f_31) y32 _ _ _ h hP hD hS (lv_sub hl [1, 0] rfl)
def p_X2_takeVotes (F : tF) (A : tA) (K : tF → tA → Prop) : Prop := (p_X2_startTally F A (fun F_1 A_1 => (∃ n6, p_X2_takeVotes_L6 K n6 F_1 A_1 (0 : Int32))))
set_option maxHeartbeats 4000000 in
set_option maxRecDepth 100000 in
theorem w_X2_takeVotes (l : Launch) (D : va_G) (cI cZ cR : ClassId) (adK adV : Nat → Nat) (sz : Nat) (o : Nat) (q : Nat → Nat) (F : tF) (A : tA) (K : tF → tA → Prop) (h : p_X2_takeVotes F A K) : MV l D cI cZ cR adK adV yX2_takeVotes cX2_takeVotes 2 none (rmN 3 149) [.ref o] (wX2 cI cZ o q F A : va_W) sz (fun (u : (tF × tA)) => K u.1 u.2) (fun (u : (tF × tA)) => (wX2 cI cZ o q u.1 u.2 : va_W)) := by
  refine M_v (by decide +kernel) (Nat.le_of_ble_eq_true rfl) ?_
  intro p e s m args below meth c Q A9 ls X ret hP hD hS hl
  obtain ⟨hx, hb, hml, ht, hown, hK, hA, hE⟩ := id X
  have hl : lv_has ls 2 [(0, .ref o)] := hl
  unfold p_X2_takeVotes at h
  refine lv_aload_n hx hb dX2_takeVotes_0 rfl (lv_at hl 0 rfl) ?_
  refine C_vv (wr := []) X hP hD hS [] [] (w_X2_startTally l D cI cZ cR adK adV _ o q F A _ h) cal_X2_startTally mw_22_4 rfl [0, 1, 2, 3, 4, 5, 6, 7, 8] [] [0, 1, 2, 3, 4, 5, 6, 7, 8] (fun u => (wX2 cI cZ o q u.1 u.2 : va_W)) rfl rfl (fun _ => rfl) rfl 0 rfl rfl ⟨rfl, rfl⟩ ⟨Nat.le_of_ble_eq_true rfl, Nat.le_of_ble_eq_true rfl⟩ hl.1 rfl (Nat.le_of_ble_eq_true rfl) ⟨Nat.zero_le _, Nat.zero_le _⟩ dX2_takeVotes_1 (fun u H locs h hP hD hS => ?_)
  obtain ⟨F_1, A_1⟩ := u
  try dsimp only at h
  have hP : va_P D vwCl (wX2 cI cZ o q F_1 A_1 : va_W) H := hP
  have hD : va_D A9 (wX2 cI cZ o q F_1 A_1 : va_W) := hD
  refine lv_iconst (v := 0) hx hb dX2_takeVotes_4 (by decide) ?_
  refine lv_istore_n (lv' := [(1, .int (0 : Int32)), (0, .ref o)]) hx hb dX2_takeVotes_5 rfl hl (by decide) rfl (fun ls hl => ?_)
  obtain ⟨n6, h⟩ := h
  exact b_X2_takeVotes_L6  X ret  n6 F_1 A_1 (0 : Int32) _ _ _ h hP hD hS (lv_sub hl [1, 0] rfl)
theorem dX2_favouriteOfTally_0 : decode cX2_favouriteOfTally 0 = .ok (.iconst 0, 1) := by decide +kernel
theorem dX2_favouriteOfTally_1 : decode cX2_favouriteOfTally 1 = .ok (.istore_n 1, 1) := by decide +kernel
theorem dX2_favouriteOfTally_2 : decode cX2_favouriteOfTally 2 = .ok (.iconst 1, 1) := by decide +kernel
theorem dX2_favouriteOfTally_3 : decode cX2_favouriteOfTally 3 = .ok (.istore_n 2, 1) := by decide +kernel
theorem dX2_favouriteOfTally_4 : decode cX2_favouriteOfTally 4 = .ok (.iload_n 2, 1) := by decide +kernel
theorem dX2_favouriteOfTally_5 : decode cX2_favouriteOfTally 5 = .ok (.bipush 6, 2) := by decide +kernel
theorem dX2_favouriteOfTally_7 : decode cX2_favouriteOfTally 7 = .ok (.if_icmp .ge 72, 3) := by decide +kernel
theorem dX2_favouriteOfTally_10 : decode cX2_favouriteOfTally 10 = .ok (.iload_n 2, 1) := by decide +kernel
theorem dX2_favouriteOfTally_11 : decode cX2_favouriteOfTally 11 = .ok (.aload_n 0, 1) := by decide +kernel
theorem dX2_favouriteOfTally_12 : decode cX2_favouriteOfTally 12 = .ok (.getfield 40, 3) := by decide +kernel
theorem dX2_favouriteOfTally_15 : decode cX2_favouriteOfTally 15 = .ok (.isub, 1) := by decide +kernel
theorem dX2_favouriteOfTally_16 : decode cX2_favouriteOfTally 16 = .ok (.invokestatic 61, 3) := by decide +kernel
theorem dX2_favouriteOfTally_19 : decode cX2_favouriteOfTally 19 = .ok (.iload_n 1, 1) := by decide +kernel
theorem dX2_favouriteOfTally_20 : decode cX2_favouriteOfTally 20 = .ok (.aload_n 0, 1) := by decide +kernel
theorem dX2_favouriteOfTally_21 : decode cX2_favouriteOfTally 21 = .ok (.getfield 40, 3) := by decide +kernel
theorem dX2_favouriteOfTally_24 : decode cX2_favouriteOfTally 24 = .ok (.isub, 1) := by decide +kernel
theorem dX2_favouriteOfTally_25 : decode cX2_favouriteOfTally 25 = .ok (.invokestatic 61, 3) := by decide +kernel
theorem dX2_favouriteOfTally_28 : decode cX2_favouriteOfTally 28 = .ok (.if_icmp .ge 7, 3) := by decide +kernel
theorem dX2_favouriteOfTally_31 : decode cX2_favouriteOfTally 31 = .ok (.iconst 1, 1) := by decide +kernel
theorem dX2_favouriteOfTally_32 : decode cX2_favouriteOfTally 32 = .ok (.goto 4, 3) := by decide +kernel
theorem dX2_favouriteOfTally_35 : decode cX2_favouriteOfTally 35 = .ok (.iconst 0, 1) := by decide +kernel
theorem dX2_favouriteOfTally_36 : decode cX2_favouriteOfTally 36 = .ok (.istore_n 3, 1) := by decide +kernel
theorem dX2_favouriteOfTally_37 : decode cX2_favouriteOfTally 37 = .ok (.aload_n 0, 1) := by decide +kernel
theorem dX2_favouriteOfTally_38 : decode cX2_favouriteOfTally 38 = .ok (.getfield 33, 3) := by decide +kernel
theorem dX2_favouriteOfTally_41 : decode cX2_favouriteOfTally 41 = .ok (.iload_n 2, 1) := by decide +kernel
theorem dX2_favouriteOfTally_42 : decode cX2_favouriteOfTally 42 = .ok (.iaload, 1) := by decide +kernel
theorem dX2_favouriteOfTally_43 : decode cX2_favouriteOfTally 43 = .ok (.aload_n 0, 1) := by decide +kernel
theorem dX2_favouriteOfTally_44 : decode cX2_favouriteOfTally 44 = .ok (.getfield 33, 3) := by decide +kernel
theorem dX2_favouriteOfTally_47 : decode cX2_favouriteOfTally 47 = .ok (.iload_n 1, 1) := by decide +kernel
theorem dX2_favouriteOfTally_48 : decode cX2_favouriteOfTally 48 = .ok (.iaload, 1) := by decide +kernel
theorem dX2_favouriteOfTally_49 : decode cX2_favouriteOfTally 49 = .ok (.if_icmp .gt 22, 3) := by decide +kernel
theorem dX2_favouriteOfTally_52 : decode cX2_favouriteOfTally 52 = .ok (.aload_n 0, 1) := by decide +kernel
theorem dX2_favouriteOfTally_53 : decode cX2_favouriteOfTally 53 = .ok (.getfield 33, 3) := by decide +kernel
theorem dX2_favouriteOfTally_56 : decode cX2_favouriteOfTally 56 = .ok (.iload_n 2, 1) := by decide +kernel
theorem dX2_favouriteOfTally_57 : decode cX2_favouriteOfTally 57 = .ok (.iaload, 1) := by decide +kernel
theorem dX2_favouriteOfTally_58 : decode cX2_favouriteOfTally 58 = .ok (.aload_n 0, 1) := by decide +kernel
theorem dX2_favouriteOfTally_59 : decode cX2_favouriteOfTally 59 = .ok (.getfield 33, 3) := by decide +kernel
theorem dX2_favouriteOfTally_62 : decode cX2_favouriteOfTally 62 = .ok (.iload_n 1, 1) := by decide +kernel
theorem dX2_favouriteOfTally_63 : decode cX2_favouriteOfTally 63 = .ok (.iaload, 1) := by decide +kernel
theorem dX2_favouriteOfTally_64 : decode cX2_favouriteOfTally 64 = .ok (.if_icmp .ne 9, 3) := by decide +kernel
theorem dX2_favouriteOfTally_67 : decode cX2_favouriteOfTally 67 = .ok (.iload_n 3, 1) := by decide +kernel
theorem dX2_favouriteOfTally_68 : decode cX2_favouriteOfTally 68 = .ok (.ifCond .eq 5, 3) := by decide +kernel
theorem dX2_favouriteOfTally_71 : decode cX2_favouriteOfTally 71 = .ok (.iload_n 2, 1) := by decide +kernel
theorem dX2_favouriteOfTally_72 : decode cX2_favouriteOfTally 72 = .ok (.istore_n 1, 1) := by decide +kernel
theorem dX2_favouriteOfTally_73 : decode cX2_favouriteOfTally 73 = .ok (.iinc 2 1, 3) := by decide +kernel
theorem dX2_favouriteOfTally_76 : decode cX2_favouriteOfTally 76 = .ok (.goto (-72), 3) := by decide +kernel
theorem dX2_favouriteOfTally_79 : decode cX2_favouriteOfTally 79 = .ok (.iload_n 1, 1) := by decide +kernel
theorem dX2_favouriteOfTally_80 : decode cX2_favouriteOfTally 80 = .ok (.ireturn, 1) := by decide +kernel
def p_X2_favouriteOfTally_J73 (F : tF) (A : tA) (B4 : (Int32 → Int32 → Prop)) (K : Int32 → Prop) (x1 : Int32) (x2 : Int32) : Prop := (∀ y73 : Int32, y73 = (x2 + (1 : Int32)) → (B4 x1 y73))
set_option maxHeartbeats 4000000 in
set_option maxRecDepth 100000 in
theorem b_X2_favouriteOfTally_J73 {p : Program} {l : Launch} {e : Env} {s : State} {m : MethodId} {args : Array Value} {below : List Frame} {meth : Method} {c : Code} {Q : State → Prop} {D : va_G} {cI cZ cR : ClassId} {adK adV : Nat → Nat} {A9 : Nat → Prop} {o : Nat} {q : Nat → Nat} {K : Int32 → Prop} {B4 : (Int32 → Int32 → Prop)} (F : tF) (A : tA) (x1 : Int32) (x2 : Int32) (X : CX p s m args c yX2_favouriteOfTally.cls cX2_favouriteOfTally 4 D cI cZ cR adK adV A9) (ret : RTi p l e (rmN 1 100) s m args below meth c Q cX2_favouriteOfTally D A9 (fun (r : Int32) (u : Unit) => K r) (fun (u : Unit) => (wX2 cI cZ o q F A : va_W))) (hB4 : ∀ (x1 : Int32) (x2 : Int32) (H : Heap) (locs : List Loc) (ls : Array Slot), B4 x1 x2 → va_P D vwCl (wX2 cI cZ o q F A : va_W) H → va_D A9 (wX2 cI cZ o q F A : va_W) → va_S A9 s.heap H locs → lv_has ls 4 [(0, .ref o), (1, .int x1), (2, .int x2)] → W p l e (rmN 1 100) s m args below meth c H locs 0 0 Q (F0 m 4 ls [])) (H : Heap) (locs : List Loc) (ls : Array Slot) (h : p_X2_favouriteOfTally_J73 F A B4 K x1 x2) (hP : va_P D vwCl (wX2 cI cZ o q F A : va_W) H) (hD : va_D A9 (wX2 cI cZ o q F A : va_W)) (hS : va_S A9 s.heap H locs) (hl : lv_has ls 4 [(0, .ref o), (1, .int x1), (2, .int x2)]) : W p l e (rmN 1 100) s m args below meth c H locs 0 0 Q (F0 m 73 ls []) := by
  obtain ⟨hx, hb, hml, ht, hown, hK, hA, hE⟩ := id X
  unfold p_X2_favouriteOfTally_J73 at h
  obtain ⟨y73, ey73⟩ : ∃ y : Int32, y = (x2 + (1 : Int32)) := ⟨_, rfl⟩
  replace h := h y73 ey73
  refine lv_iinc (v := y73) (lv' := [(2, .int y73), (0, .ref o), (1, .int x1)]) hx hb dX2_favouriteOfTally_73 hl (k := 2) rfl (by rw [ey73]; rfl) (by decide) rfl (fun ls hl => ?_)
  refine lv_goto (tgt := 4) hx hb dX2_favouriteOfTally_76 (by decide) ?_
  exact hB4 x1 y73 _ _ _ h hP hD hS (lv_sub hl [1, 2, 0] rfl)
def p_X2_favouriteOfTally_J71 (F : tF) (A : tA) (B4 : (Int32 → Int32 → Prop)) (K : Int32 → Prop) (x2 : Int32) : Prop := (p_X2_favouriteOfTally_J73 F A B4 K x2 x2)
set_option maxHeartbeats 4000000 in
set_option maxRecDepth 100000 in
theorem b_X2_favouriteOfTally_J71 {p : Program} {l : Launch} {e : Env} {s : State} {m : MethodId} {args : Array Value} {below : List Frame} {meth : Method} {c : Code} {Q : State → Prop} {D : va_G} {cI cZ cR : ClassId} {adK adV : Nat → Nat} {A9 : Nat → Prop} {o : Nat} {q : Nat → Nat} {K : Int32 → Prop} {B4 : (Int32 → Int32 → Prop)} (F : tF) (A : tA) (x2 : Int32) (X : CX p s m args c yX2_favouriteOfTally.cls cX2_favouriteOfTally 4 D cI cZ cR adK adV A9) (ret : RTi p l e (rmN 1 100) s m args below meth c Q cX2_favouriteOfTally D A9 (fun (r : Int32) (u : Unit) => K r) (fun (u : Unit) => (wX2 cI cZ o q F A : va_W))) (hB4 : ∀ (x1 : Int32) (x2 : Int32) (H : Heap) (locs : List Loc) (ls : Array Slot), B4 x1 x2 → va_P D vwCl (wX2 cI cZ o q F A : va_W) H → va_D A9 (wX2 cI cZ o q F A : va_W) → va_S A9 s.heap H locs → lv_has ls 4 [(0, .ref o), (1, .int x1), (2, .int x2)] → W p l e (rmN 1 100) s m args below meth c H locs 0 0 Q (F0 m 4 ls [])) (H : Heap) (locs : List Loc) (ls : Array Slot) (h : p_X2_favouriteOfTally_J71 F A B4 K x2) (hP : va_P D vwCl (wX2 cI cZ o q F A : va_W) H) (hD : va_D A9 (wX2 cI cZ o q F A : va_W)) (hS : va_S A9 s.heap H locs) (hl : lv_has ls 4 [(0, .ref o), (2, .int x2)]) : W p l e (rmN 1 100) s m args below meth c H locs 0 0 Q (F0 m 71 ls []) := by
  obtain ⟨hx, hb, hml, ht, hown, hK, hA, hE⟩ := id X
  unfold p_X2_favouriteOfTally_J71 at h
  refine lv_iload_n hx hb dX2_favouriteOfTally_71 rfl (lv_at hl 1 rfl) ?_
  refine lv_istore_n (lv' := [(1, .int x2), (0, .ref o), (2, .int x2)]) hx hb dX2_favouriteOfTally_72 rfl hl (by decide) rfl (fun ls hl => ?_)
  exact b_X2_favouriteOfTally_J73 F A x2 x2 X ret hB4 _ _ _ h hP hD hS (lv_sub hl [1, 0, 2] rfl)
def p_X2_favouriteOfTally_J36 (F : tF) (A : tA) (B4 : (Int32 → Int32 → Prop)) (K : Int32 → Prop) (x1 : Int32) (x2 : Int32) (s0 : Int32) : Prop := (vp_in x2 6 ∧ (vp_in x1 6 ∧ ((((A 7) (x1).toNatClampNeg) < ((A 7) (x2).toNatClampNeg) → (p_X2_favouriteOfTally_J71 F A B4 K x2)) ∧ (¬ ((A 7) (x1).toNatClampNeg) < ((A 7) (x2).toNatClampNeg) → (vp_in x2 6 ∧ (vp_in x1 6 ∧ ((¬ ((A 7) (x2).toNatClampNeg) = ((A 7) (x1).toNatClampNeg) → (p_X2_favouriteOfTally_J73 F A B4 K x1 x2)) ∧ (((A 7) (x2).toNatClampNeg) = ((A 7) (x1).toNatClampNeg) → ((s0 = 0 → (p_X2_favouriteOfTally_J73 F A B4 K x1 x2)) ∧ (¬ s0 = 0 → (p_X2_favouriteOfTally_J71 F A B4 K x2)))))))))))
set_option maxHeartbeats 4000000 in
set_option maxRecDepth 100000 in
theorem b_X2_favouriteOfTally_J36 {p : Program} {l : Launch} {e : Env} {s : State} {m : MethodId} {args : Array Value} {below : List Frame} {meth : Method} {c : Code} {Q : State → Prop} {D : va_G} {cI cZ cR : ClassId} {adK adV : Nat → Nat} {A9 : Nat → Prop} {o : Nat} {q : Nat → Nat} {K : Int32 → Prop} {B4 : (Int32 → Int32 → Prop)} (F : tF) (A : tA) (x1 : Int32) (x2 : Int32) (s0 : Int32) (X : CX p s m args c yX2_favouriteOfTally.cls cX2_favouriteOfTally 4 D cI cZ cR adK adV A9) (ret : RTi p l e (rmN 1 100) s m args below meth c Q cX2_favouriteOfTally D A9 (fun (r : Int32) (u : Unit) => K r) (fun (u : Unit) => (wX2 cI cZ o q F A : va_W))) (hB4 : ∀ (x1 : Int32) (x2 : Int32) (H : Heap) (locs : List Loc) (ls : Array Slot), B4 x1 x2 → va_P D vwCl (wX2 cI cZ o q F A : va_W) H → va_D A9 (wX2 cI cZ o q F A : va_W) → va_S A9 s.heap H locs → lv_has ls 4 [(0, .ref o), (1, .int x1), (2, .int x2)] → W p l e (rmN 1 100) s m args below meth c H locs 0 0 Q (F0 m 4 ls [])) (H : Heap) (locs : List Loc) (ls : Array Slot) (h : p_X2_favouriteOfTally_J36 F A B4 K x1 x2 s0) (hP : va_P D vwCl (wX2 cI cZ o q F A : va_W) H) (hD : va_D A9 (wX2 cI cZ o q F A : va_W)) (hS : va_S A9 s.heap H locs) (hl : lv_has ls 4 [(0, .ref o), (1, .int x1), (2, .int x2)]) : W p l e (rmN 1 100) s m args below meth c H locs 0 0 Q (F0 m 36 ls [.int s0]) := by
  obtain ⟨hx, hb, hml, ht, hown, hK, hA, hE⟩ := id X
  unfold p_X2_favouriteOfTally_J36 at h
  refine lv_istore_n (lv' := [(3, .int s0), (0, .ref o), (1, .int x1), (2, .int x2)]) hx hb dX2_favouriteOfTally_36 rfl hl (by decide) rfl (fun ls hl => ?_)
  refine lv_aload_n hx hb dX2_favouriteOfTally_37 rfl (lv_at hl 1 rfl) ?_
  refine va_get (C := RX2) (T := TX2) (N := 13) (own := RX2) (v := .ref (q 7)) hx hb ht inlX2 hown hK hP 0 rfl rfl 7 (Nat.le_of_ble_eq_true rfl) (ht _ mw_3_6) (fun _ h9 => h9) rfl dX2_favouriteOfTally_38 ?_
  refine lv_iload_n hx hb dX2_favouriteOfTally_41 rfl (lv_at hl 3 rfl) ?_
  obtain ⟨hi42, h⟩ := h
  refine g_iald (f := (A 7)) (k := (x2).toNatClampNeg) hx hb hK hP 8 0 rfl rfl hi42 rfl dX2_favouriteOfTally_42 ?_
  refine lv_aload_n hx hb dX2_favouriteOfTally_43 rfl (lv_at hl 1 rfl) ?_
  refine va_get (C := RX2) (T := TX2) (N := 13) (own := RX2) (v := .ref (q 7)) hx hb ht inlX2 hown hK hP 0 rfl rfl 7 (Nat.le_of_ble_eq_true rfl) (ht _ mw_3_6) (fun _ h9 => h9) rfl dX2_favouriteOfTally_44 ?_
  refine lv_iload_n hx hb dX2_favouriteOfTally_47 rfl (lv_at hl 2 rfl) ?_
  obtain ⟨hi48, h⟩ := h
  refine g_iald (f := (A 7)) (k := (x1).toNatClampNeg) hx hb hK hP 8 0 rfl rfl hi48 rfl dX2_favouriteOfTally_48 ?_
  refine lv_icmp_gt (tgt := 71) hx hb dX2_favouriteOfTally_49 (by decide) (fun c49 => ?_) (fun c49 => ?_)
  · replace h := h.1 c49
    exact b_X2_favouriteOfTally_J71 F A x2 X ret hB4 _ _ _ h hP hD hS (lv_sub hl [1, 3] rfl)
  · replace h := h.2 c49
    refine lv_aload_n hx hb dX2_favouriteOfTally_52 rfl (lv_at hl 1 rfl) ?_
    refine va_get (C := RX2) (T := TX2) (N := 13) (own := RX2) (v := .ref (q 7)) hx hb ht inlX2 hown hK hP 0 rfl rfl 7 (Nat.le_of_ble_eq_true rfl) (ht _ mw_3_6) (fun _ h9 => h9) rfl dX2_favouriteOfTally_53 ?_
    refine lv_iload_n hx hb dX2_favouriteOfTally_56 rfl (lv_at hl 3 rfl) ?_
    obtain ⟨hi57, h⟩ := h
    refine g_iald (f := (A 7)) (k := (x2).toNatClampNeg) hx hb hK hP 8 0 rfl rfl hi57 rfl dX2_favouriteOfTally_57 ?_
    refine lv_aload_n hx hb dX2_favouriteOfTally_58 rfl (lv_at hl 1 rfl) ?_
    refine va_get (C := RX2) (T := TX2) (N := 13) (own := RX2) (v := .ref (q 7)) hx hb ht inlX2 hown hK hP 0 rfl rfl 7 (Nat.le_of_ble_eq_true rfl) (ht _ mw_3_6) (fun _ h9 => h9) rfl dX2_favouriteOfTally_59 ?_
    refine lv_iload_n hx hb dX2_favouriteOfTally_62 rfl (lv_at hl 2 rfl) ?_
    obtain ⟨hi63, h⟩ := h
    refine g_iald (f := (A 7)) (k := (x1).toNatClampNeg) hx hb hK hP 8 0 rfl rfl hi63 rfl dX2_favouriteOfTally_63 ?_
    refine lv_icmp_ne (tgt := 73) hx hb dX2_favouriteOfTally_64 (by decide) (fun c64 => ?_) (fun c64 => ?_)
    · replace h := h.1 c64
      exact b_X2_favouriteOfTally_J73 F A x1 x2 X ret hB4 _ _ _ h hP hD hS (lv_sub hl [1, 2, 3] rfl)
    · replace h := h.2 c64
      refine lv_iload_n hx hb dX2_favouriteOfTally_67 rfl (lv_at hl 0 rfl) ?_
      refine lv_if_eq (tgt := 73) hx hb dX2_favouriteOfTally_68 (by decide) (fun c68 => ?_) (fun c68 => ?_)
      · replace h := h.1 c68
        exact b_X2_favouriteOfTally_J73 F A x1 x2 X ret hB4 _ _ _ h hP hD hS (lv_sub hl [1, 2, 3] rfl)
      · replace h := h.2 c68
        exact b_X2_favouriteOfTally_J71 F A x2 X ret hB4 _ _ _ h hP hD hS (lv_sub hl [1, 3] rfl)
def p_X2_favouriteOfTally_L4 (F : tF) (A : tA) (K : Int32 → Prop) : Nat → Int32 → Int32 → Prop
  | 0, _, _ => False
  | n4 + 1, x1, x2 => (((6 : Int32) ≤ x2 → (K x1)) ∧ (¬ (6 : Int32) ≤ x2 → (((if 0 ≤ (x1 - (F 9)) then (x1 - (F 9)) else 0 - (x1 - (F 9))) ≤ (if 0 ≤ (x2 - (F 9)) then (x2 - (F 9)) else 0 - (x2 - (F 9))) → (p_X2_favouriteOfTally_J36 F A (p_X2_favouriteOfTally_L4 F A K n4) K x1 x2 (0 : Int32))) ∧ (¬ (if 0 ≤ (x1 - (F 9)) then (x1 - (F 9)) else 0 - (x1 - (F 9))) ≤ (if 0 ≤ (x2 - (F 9)) then (x2 - (F 9)) else 0 - (x2 - (F 9))) → (p_X2_favouriteOfTally_J36 F A (p_X2_favouriteOfTally_L4 F A K n4) K x1 x2 (1 : Int32))))))
set_option maxHeartbeats 4000000 in
set_option maxRecDepth 100000 in
theorem b_X2_favouriteOfTally_L4 {p : Program} {l : Launch} {e : Env} {s : State} {m : MethodId} {args : Array Value} {below : List Frame} {meth : Method} {c : Code} {Q : State → Prop} {D : va_G} {cI cZ cR : ClassId} {adK adV : Nat → Nat} {A9 : Nat → Prop} {o : Nat} {q : Nat → Nat} {K : Int32 → Prop}  (F : tF) (A : tA) (X : CX p s m args c yX2_favouriteOfTally.cls cX2_favouriteOfTally 4 D cI cZ cR adK adV A9) (ret : RTi p l e (rmN 1 100) s m args below meth c Q cX2_favouriteOfTally D A9 (fun (r : Int32) (u : Unit) => K r) (fun (u : Unit) => (wX2 cI cZ o q F A : va_W)))   : ∀ (n : Nat) (x1 : Int32) (x2 : Int32) (H : Heap) (locs : List Loc) (ls : Array Slot), p_X2_favouriteOfTally_L4 F A K n x1 x2 → va_P D vwCl (wX2 cI cZ o q F A : va_W) H → va_D A9 (wX2 cI cZ o q F A : va_W) → va_S A9 s.heap H locs → lv_has ls 4 [(0, .ref o), (1, .int x1), (2, .int x2)] → W p l e (rmN 1 100) s m args below meth c H locs 0 0 Q (F0 m 4 ls []) := by
  obtain ⟨hx, hb, hml, ht, hown, hK, hA, hE⟩ := id X
  intro n
  induction n with
  | zero => intro x1 x2 H locs ls h; exact False.elim h
  | succ n4 ih =>
    intro x1 x2 H locs ls h hP hD hS hl
    rw [p_X2_favouriteOfTally_L4] at h
    refine lv_iload_n hx hb dX2_favouriteOfTally_4 rfl (lv_at hl 2 rfl) ?_
    refine lv_bipush (v := 6) hx hb dX2_favouriteOfTally_5 (by decide) ?_
    refine lv_icmp_ge (tgt := 79) hx hb dX2_favouriteOfTally_7 (by decide) (fun c7 => ?_) (fun c7 => ?_)
    · replace h := h.1 c7
      refine lv_iload_n hx hb dX2_favouriteOfTally_79 rfl (lv_at hl 1 rfl) ?_
      exact ret _ () _ _ _ _ dX2_favouriteOfTally_80 h hP hD hS
    · replace h := h.2 c7
      refine lv_iload_n hx hb dX2_favouriteOfTally_10 rfl (lv_at hl 2 rfl) ?_
      refine lv_aload_n hx hb dX2_favouriteOfTally_11 rfl (lv_at hl 0 rfl) ?_
      refine va_get (C := RX2) (T := TX2) (N := 13) (own := RX2) (v := .int (F 9)) hx hb ht inlX2 hown hK hP 0 rfl rfl 9 (Nat.le_of_ble_eq_true rfl) (ht _ mw_3_8) (fun _ h9 => h9) rfl dX2_favouriteOfTally_12 ?_
      refine lv_isub hx hb dX2_favouriteOfTally_15 ?_
      refine va_mabs hx hb (hml.trans hl.1.symm) hown (ht _ mw_18_0) (ht _ mw_18_1) (ht _ mw_18_2) (ht _ mw_18_3) (Nat.le_of_ble_eq_true rfl) (Nat.le_of_ble_eq_true rfl) (Nat.zero_le _) (Nat.zero_le _) dX2_favouriteOfTally_16 ?_
      refine lv_iload_n hx hb dX2_favouriteOfTally_19 rfl (lv_at hl 1 rfl) ?_
      refine lv_aload_n hx hb dX2_favouriteOfTally_20 rfl (lv_at hl 0 rfl) ?_
      refine va_get (C := RX2) (T := TX2) (N := 13) (own := RX2) (v := .int (F 9)) hx hb ht inlX2 hown hK hP 0 rfl rfl 9 (Nat.le_of_ble_eq_true rfl) (ht _ mw_3_8) (fun _ h9 => h9) rfl dX2_favouriteOfTally_21 ?_
      refine lv_isub hx hb dX2_favouriteOfTally_24 ?_
      refine va_mabs hx hb (hml.trans hl.1.symm) hown (ht _ mw_18_0) (ht _ mw_18_1) (ht _ mw_18_2) (ht _ mw_18_3) (Nat.le_of_ble_eq_true rfl) (Nat.le_of_ble_eq_true rfl) (Nat.zero_le _) (Nat.zero_le _) dX2_favouriteOfTally_25 ?_
      refine lv_icmp_ge (tgt := 35) hx hb dX2_favouriteOfTally_28 (by decide) (fun c28 => ?_) (fun c28 => ?_)
      · replace h := h.1 c28
        refine lv_iconst (v := 0) hx hb dX2_favouriteOfTally_35 (by decide) ?_
        exact b_X2_favouriteOfTally_J36 F A x1 x2 (0 : Int32) X ret ih _ _ _ h hP hD hS (lv_sub hl [0, 1, 2] rfl)
      · replace h := h.2 c28
        refine lv_iconst (v := 1) hx hb dX2_favouriteOfTally_31 (by decide) ?_
        refine lv_goto (tgt := 36) hx hb dX2_favouriteOfTally_32 (by decide) ?_
        exact b_X2_favouriteOfTally_J36 F A x1 x2 (1 : Int32) X ret ih _ _ _ h hP hD hS (lv_sub hl [0, 1, 2] rfl)
def p_X2_favouriteOfTally (F : tF) (A : tA) (K : Int32 → Prop) : Prop := (∃ n4, p_X2_favouriteOfTally_L4 F A K n4 (0 : Int32) (1 : Int32))
set_option maxHeartbeats 4000000 in
set_option maxRecDepth 100000 in
theorem w_X2_favouriteOfTally (l : Launch) (D : va_G) (cI cZ cR : ClassId) (adK adV : Nat → Nat) (sz : Nat) (o : Nat) (q : Nat → Nat) (F : tF) (A : tA) (K : Int32 → Prop) (h : p_X2_favouriteOfTally F A K) : MI l D cI cZ cR adK adV yX2_favouriteOfTally cX2_favouriteOfTally 4 (some .int) (rmN 1 100) [.ref o] (wX2 cI cZ o q F A : va_W) sz (fun (r : Int32) (u : Unit) => K r) (fun (u : Unit) => (wX2 cI cZ o q F A : va_W)) := by
  refine M_i (by decide +kernel) (Nat.le_of_ble_eq_true rfl) ?_
  intro p e s m args below meth c Q A9 ls X ret hP hD hS hl
  obtain ⟨hx, hb, hml, ht, hown, hK, hA, hE⟩ := id X
  have hl : lv_has ls 4 [(0, .ref o)] := hl
  unfold p_X2_favouriteOfTally at h
  refine lv_iconst (v := 0) hx hb dX2_favouriteOfTally_0 (by decide) ?_
  refine lv_istore_n (lv' := [(1, .int (0 : Int32)), (0, .ref o)]) hx hb dX2_favouriteOfTally_1 rfl hl (by decide) rfl (fun ls hl => ?_)
  refine lv_iconst (v := 1) hx hb dX2_favouriteOfTally_2 (by decide) ?_
  refine lv_istore_n (lv' := [(2, .int (1 : Int32)), (1, .int (0 : Int32)), (0, .ref o)]) hx hb dX2_favouriteOfTally_3 rfl hl (by decide) rfl (fun ls hl => ?_)
  obtain ⟨n4, h⟩ := h
  exact b_X2_favouriteOfTally_L4 F A X ret  n4 (0 : Int32) (1 : Int32) _ _ _ h hP hD hS (lv_sub hl [2, 1, 0] rfl)
theorem dX2_leadOf_0 : decode cX2_leadOf 0 = .ok (.iconst 0, 1) := by decide +kernel
theorem dX2_leadOf_1 : decode cX2_leadOf 1 = .ok (.istore_n 3, 1) := by decide +kernel
theorem dX2_leadOf_2 : decode cX2_leadOf 2 = .ok (.iconst 0, 1) := by decide +kernel
theorem dX2_leadOf_3 : decode cX2_leadOf 3 = .ok (.istore 4, 2) := by decide +kernel
theorem dX2_leadOf_5 : decode cX2_leadOf 5 = .ok (.iload 4, 2) := by decide +kernel
theorem dX2_leadOf_7 : decode cX2_leadOf 7 = .ok (.aload_n 0, 1) := by decide +kernel
theorem dX2_leadOf_8 : decode cX2_leadOf 8 = .ok (.getfield 36, 3) := by decide +kernel
theorem dX2_leadOf_11 : decode cX2_leadOf 11 = .ok (.if_icmp .ge 57, 3) := by decide +kernel
theorem dX2_leadOf_14 : decode cX2_leadOf 14 = .ok (.aload_n 0, 1) := by decide +kernel
theorem dX2_leadOf_15 : decode cX2_leadOf 15 = .ok (.iload 4, 2) := by decide +kernel
theorem dX2_leadOf_17 : decode cX2_leadOf 17 = .ok (.iload_n 1, 1) := by decide +kernel
theorem dX2_leadOf_18 : decode cX2_leadOf 18 = .ok (.invokevirtual 71, 3) := by decide +kernel
theorem dX2_leadOf_21 : decode cX2_leadOf 21 = .ok (.aload_n 0, 1) := by decide +kernel
theorem dX2_leadOf_22 : decode cX2_leadOf 22 = .ok (.iload 4, 2) := by decide +kernel
theorem dX2_leadOf_24 : decode cX2_leadOf 24 = .ok (.iload_n 2, 1) := by decide +kernel
theorem dX2_leadOf_25 : decode cX2_leadOf 25 = .ok (.invokevirtual 71, 3) := by decide +kernel
theorem dX2_leadOf_28 : decode cX2_leadOf 28 = .ok (.isub, 1) := by decide +kernel
theorem dX2_leadOf_29 : decode cX2_leadOf 29 = .ok (.istore 5, 2) := by decide +kernel
theorem dX2_leadOf_31 : decode cX2_leadOf 31 = .ok (.iload 5, 2) := by decide +kernel
theorem dX2_leadOf_33 : decode cX2_leadOf 33 = .ok (.ifCond .le 15, 3) := by decide +kernel
theorem dX2_leadOf_36 : decode cX2_leadOf 36 = .ok (.iload_n 3, 1) := by decide +kernel
theorem dX2_leadOf_37 : decode cX2_leadOf 37 = .ok (.aload_n 0, 1) := by decide +kernel
theorem dX2_leadOf_38 : decode cX2_leadOf 38 = .ok (.iload 4, 2) := by decide +kernel
theorem dX2_leadOf_40 : decode cX2_leadOf 40 = .ok (.invokevirtual 81, 3) := by decide +kernel
theorem dX2_leadOf_43 : decode cX2_leadOf 43 = .ok (.iadd, 1) := by decide +kernel
theorem dX2_leadOf_44 : decode cX2_leadOf 44 = .ok (.istore_n 3, 1) := by decide +kernel
theorem dX2_leadOf_45 : decode cX2_leadOf 45 = .ok (.goto 17, 3) := by decide +kernel
theorem dX2_leadOf_48 : decode cX2_leadOf 48 = .ok (.iload 5, 2) := by decide +kernel
theorem dX2_leadOf_50 : decode cX2_leadOf 50 = .ok (.ifCond .ge 12, 3) := by decide +kernel
theorem dX2_leadOf_53 : decode cX2_leadOf 53 = .ok (.iload_n 3, 1) := by decide +kernel
theorem dX2_leadOf_54 : decode cX2_leadOf 54 = .ok (.aload_n 0, 1) := by decide +kernel
theorem dX2_leadOf_55 : decode cX2_leadOf 55 = .ok (.iload 4, 2) := by decide +kernel
theorem dX2_leadOf_57 : decode cX2_leadOf 57 = .ok (.invokevirtual 81, 3) := by decide +kernel
theorem dX2_leadOf_60 : decode cX2_leadOf 60 = .ok (.isub, 1) := by decide +kernel
theorem dX2_leadOf_61 : decode cX2_leadOf 61 = .ok (.istore_n 3, 1) := by decide +kernel
theorem dX2_leadOf_62 : decode cX2_leadOf 62 = .ok (.iinc 4 1, 3) := by decide +kernel
theorem dX2_leadOf_65 : decode cX2_leadOf 65 = .ok (.goto (-60), 3) := by decide +kernel
theorem dX2_leadOf_68 : decode cX2_leadOf 68 = .ok (.iload_n 3, 1) := by decide +kernel
theorem dX2_leadOf_69 : decode cX2_leadOf 69 = .ok (.ireturn, 1) := by decide +kernel
def p_X2_leadOf_J62 (F : tF) (A : tA) (B5 : (Int32 → Int32 → Prop)) (K : Int32 → Prop) (x1 : Int32) (x2 : Int32) (x3 : Int32) (x4 : Int32) : Prop := (∀ y62 : Int32, y62 = (x4 + (1 : Int32)) → (B5 x3 y62))
set_option maxHeartbeats 4000000 in
set_option maxRecDepth 100000 in
theorem b_X2_leadOf_J62 {p : Program} {l : Launch} {e : Env} {s : State} {m : MethodId} {args : Array Value} {below : List Frame} {meth : Method} {c : Code} {Q : State → Prop} {D : va_G} {cI cZ cR : ClassId} {adK adV : Nat → Nat} {A9 : Nat → Prop} {o : Nat} {q : Nat → Nat} {K : Int32 → Prop} {B5 : (Int32 → Int32 → Prop)} (F : tF) (A : tA) (x1 : Int32) (x2 : Int32) (x3 : Int32) (x4 : Int32) (X : CX p s m args c yX2_leadOf.cls cX2_leadOf 6 D cI cZ cR adK adV A9) (ret : RTi p l e (rmN 2 124) s m args below meth c Q cX2_leadOf D A9 (fun (r : Int32) (u : Unit) => K r) (fun (u : Unit) => (wX2 cI cZ o q F A : va_W))) (hB5 : ∀ (x3 : Int32) (x4 : Int32) (H : Heap) (locs : List Loc) (ls : Array Slot), B5 x3 x4 → va_P D vwCl (wX2 cI cZ o q F A : va_W) H → va_D A9 (wX2 cI cZ o q F A : va_W) → va_S A9 s.heap H locs → lv_has ls 6 [(0, .ref o), (1, .int x1), (2, .int x2), (3, .int x3), (4, .int x4)] → W p l e (rmN 2 124) s m args below meth c H locs 0 0 Q (F0 m 5 ls [])) (H : Heap) (locs : List Loc) (ls : Array Slot) (h : p_X2_leadOf_J62 F A B5 K x1 x2 x3 x4) (hP : va_P D vwCl (wX2 cI cZ o q F A : va_W) H) (hD : va_D A9 (wX2 cI cZ o q F A : va_W)) (hS : va_S A9 s.heap H locs) (hl : lv_has ls 6 [(0, .ref o), (1, .int x1), (2, .int x2), (3, .int x3), (4, .int x4)]) : W p l e (rmN 2 124) s m args below meth c H locs 0 0 Q (F0 m 62 ls []) := by
  obtain ⟨hx, hb, hml, ht, hown, hK, hA, hE⟩ := id X
  unfold p_X2_leadOf_J62 at h
  obtain ⟨y62, ey62⟩ : ∃ y : Int32, y = (x4 + (1 : Int32)) := ⟨_, rfl⟩
  replace h := h y62 ey62
  refine lv_iinc (v := y62) (lv' := [(4, .int y62), (0, .ref o), (1, .int x1), (2, .int x2), (3, .int x3)]) hx hb dX2_leadOf_62 hl (k := 4) rfl (by rw [ey62]; rfl) (by decide) rfl (fun ls hl => ?_)
  refine lv_goto (tgt := 5) hx hb dX2_leadOf_65 (by decide) ?_
  exact hB5 x3 y62 _ _ _ h hP hD hS (lv_sub hl [1, 2, 3, 4, 0] rfl)
def p_X2_leadOf_L5 (F : tF) (A : tA) (x1 : Int32) (x2 : Int32) (K : Int32 → Prop) : Nat → Int32 → Int32 → Prop
  | 0, _, _ => False
  | n5 + 1, x3, x4 => (((F 8) ≤ x4 → (K x3)) ∧ (¬ (F 8) ≤ x4 → (p_X2_worthTo F A x4 x1 (fun r18 => (p_X2_worthTo F A x4 x2 (fun r25 => (∀ y29 : Int32, y29 = (r18 - r25) → ((y29 ≤ 0 → ((0 ≤ y29 → (p_X2_leadOf_J62 F A (p_X2_leadOf_L5 F A x1 x2 K n5) K x1 x2 x3 x4)) ∧ (¬ 0 ≤ y29 → (p_X2_weightOf F A x4 (fun r57 => (∀ y61 : Int32, y61 = (x3 - r57) → (p_X2_leadOf_J62 F A (p_X2_leadOf_L5 F A x1 x2 K n5) K x1 x2 y61 x4))))))) ∧ (¬ y29 ≤ 0 → (p_X2_weightOf F A x4 (fun r40 => (∀ y44 : Int32, y44 = (x3 + r40) → (p_X2_leadOf_J62 F A (p_X2_leadOf_L5 F A x1 x2 K n5) K x1 x2 y44 x4)))))))))))))
set_option maxHeartbeats 4000000 in
set_option maxRecDepth 100000 in
theorem b_X2_leadOf_L5 {p : Program} {l : Launch} {e : Env} {s : State} {m : MethodId} {args : Array Value} {below : List Frame} {meth : Method} {c : Code} {Q : State → Prop} {D : va_G} {cI cZ cR : ClassId} {adK adV : Nat → Nat} {A9 : Nat → Prop} {o : Nat} {q : Nat → Nat} {K : Int32 → Prop}  (F : tF) (A : tA) (x1 : Int32) (x2 : Int32) (X : CX p s m args c yX2_leadOf.cls cX2_leadOf 6 D cI cZ cR adK adV A9) (ret : RTi p l e (rmN 2 124) s m args below meth c Q cX2_leadOf D A9 (fun (r : Int32) (u : Unit) => K r) (fun (u : Unit) => (wX2 cI cZ o q F A : va_W)))   : ∀ (n : Nat) (x3 : Int32) (x4 : Int32) (H : Heap) (locs : List Loc) (ls : Array Slot), p_X2_leadOf_L5 F A x1 x2 K n x3 x4 → va_P D vwCl (wX2 cI cZ o q F A : va_W) H → va_D A9 (wX2 cI cZ o q F A : va_W) → va_S A9 s.heap H locs → lv_has ls 6 [(0, .ref o), (1, .int x1), (2, .int x2), (3, .int x3), (4, .int x4)] → W p l e (rmN 2 124) s m args below meth c H locs 0 0 Q (F0 m 5 ls []) := by
  obtain ⟨hx, hb, hml, ht, hown, hK, hA, hE⟩ := id X
  intro n
  induction n with
  | zero => intro x3 x4 H locs ls h; exact False.elim h
  | succ n5 ih =>
    intro x3 x4 H locs ls h hP hD hS hl
    rw [p_X2_leadOf_L5] at h
    refine lv_iload hx hb dX2_leadOf_5 (lv_at hl 4 rfl) ?_
    refine lv_aload_n hx hb dX2_leadOf_7 rfl (lv_at hl 0 rfl) ?_
    refine va_get (C := RX2) (T := TX2) (N := 13) (own := RX2) (v := .int (F 8)) hx hb ht inlX2 hown hK hP 0 rfl rfl 8 (Nat.le_of_ble_eq_true rfl) (ht _ mw_3_7) (fun _ h9 => h9) rfl dX2_leadOf_8 ?_
    refine lv_icmp_ge (tgt := 68) hx hb dX2_leadOf_11 (by decide) (fun c11 => ?_) (fun c11 => ?_)
    · replace h := h.1 c11
      refine lv_iload_n hx hb dX2_leadOf_68 rfl (lv_at hl 3 rfl) ?_
      exact ret _ () _ _ _ _ dX2_leadOf_69 h hP hD hS
    · replace h := h.2 c11
      refine lv_aload_n hx hb dX2_leadOf_14 rfl (lv_at hl 0 rfl) ?_
      refine lv_iload hx hb dX2_leadOf_15 (lv_at hl 4 rfl) ?_
      refine lv_iload_n hx hb dX2_leadOf_17 rfl (lv_at hl 1 rfl) ?_
      refine C_vi (wr := []) X hP hD hS [.int x4, .int x1] [] (w_X2_worthTo l D cI cZ cR adK adV _ o q F A x4 x1 _ h) cal_X2_worthTo mw_17_20 rfl [0, 1, 2, 3, 4, 5, 6, 7, 8] [] [0, 1, 2, 3, 4, 5, 6, 7, 8] (fun u => (wX2 cI cZ o q F A : va_W)) rfl rfl (fun _ => rfl) rfl 0 rfl rfl ⟨rfl, rfl⟩ ⟨Nat.le_of_ble_eq_true rfl, Nat.le_of_ble_eq_true rfl⟩ hl.1 rfl (Nat.le_of_ble_eq_true rfl) ⟨Nat.zero_le _, Nat.zero_le _⟩ dX2_leadOf_18 (fun r18 u H locs h hP hD hS => ?_)
      refine lv_aload_n hx hb dX2_leadOf_21 rfl (lv_at hl 0 rfl) ?_
      refine lv_iload hx hb dX2_leadOf_22 (lv_at hl 4 rfl) ?_
      refine lv_iload_n hx hb dX2_leadOf_24 rfl (lv_at hl 2 rfl) ?_
      refine C_vi (wr := []) X hP hD hS [.int x4, .int x2] [.int r18] (w_X2_worthTo l D cI cZ cR adK adV _ o q F A x4 x2 _ h) cal_X2_worthTo mw_17_20 rfl [0, 1, 2, 3, 4, 5, 6, 7, 8] [] [0, 1, 2, 3, 4, 5, 6, 7, 8] (fun u => (wX2 cI cZ o q F A : va_W)) rfl rfl (fun _ => rfl) rfl 0 rfl rfl ⟨rfl, rfl⟩ ⟨Nat.le_of_ble_eq_true rfl, Nat.le_of_ble_eq_true rfl⟩ hl.1 rfl (Nat.le_of_ble_eq_true rfl) ⟨Nat.zero_le _, Nat.zero_le _⟩ dX2_leadOf_25 (fun r25 u H locs h hP hD hS => ?_)
      refine lv_isub hx hb dX2_leadOf_28 ?_
      refine lv_topi (fun y29 ey29 => ?_)
      replace h := h y29 ey29
      refine lv_istore (lv' := [(5, .int y29), (0, .ref o), (1, .int x1), (2, .int x2), (3, .int x3), (4, .int x4)]) hx hb dX2_leadOf_29 hl (by decide) rfl (fun ls hl => ?_)
      refine lv_iload hx hb dX2_leadOf_31 (lv_at hl 0 rfl) ?_
      refine lv_if_le (tgt := 48) hx hb dX2_leadOf_33 (by decide) (fun c33 => ?_) (fun c33 => ?_)
      · replace h := h.1 c33
        refine lv_iload hx hb dX2_leadOf_48 (lv_at hl 0 rfl) ?_
        refine lv_if_ge (tgt := 62) hx hb dX2_leadOf_50 (by decide) (fun c50 => ?_) (fun c50 => ?_)
        · replace h := h.1 c50
          exact b_X2_leadOf_J62 F A x1 x2 x3 x4 X ret ih _ _ _ h hP hD hS (lv_sub hl [1, 2, 3, 4, 5] rfl)
        · replace h := h.2 c50
          refine lv_iload_n hx hb dX2_leadOf_53 rfl (lv_at hl 4 rfl) ?_
          refine lv_aload_n hx hb dX2_leadOf_54 rfl (lv_at hl 1 rfl) ?_
          refine lv_iload hx hb dX2_leadOf_55 (lv_at hl 5 rfl) ?_
          refine C_vi (wr := []) X hP hD hS [.int x4] [.int x3] (w_X2_weightOf l D cI cZ cR adK adV _ o q F A x4 _ h) cal_X2_weightOf mw_22_8 rfl [0, 1, 2, 3, 4, 5, 6, 7, 8] [] [0, 1, 2, 3, 4, 5, 6, 7, 8] (fun u => (wX2 cI cZ o q F A : va_W)) rfl rfl (fun _ => rfl) rfl 0 rfl rfl ⟨rfl, rfl⟩ ⟨Nat.le_of_ble_eq_true rfl, Nat.le_of_ble_eq_true rfl⟩ hl.1 rfl (Nat.le_of_ble_eq_true rfl) ⟨Nat.zero_le _, Nat.zero_le _⟩ dX2_leadOf_57 (fun r57 u H locs h hP hD hS => ?_)
          refine lv_isub hx hb dX2_leadOf_60 ?_
          refine lv_topi (fun y61 ey61 => ?_)
          replace h := h y61 ey61
          refine lv_istore_n (lv' := [(3, .int y61), (5, .int y29), (0, .ref o), (1, .int x1), (2, .int x2), (4, .int x4)]) hx hb dX2_leadOf_61 rfl hl (by decide) rfl (fun ls hl => ?_)
          exact b_X2_leadOf_J62 F A x1 x2 y61 x4 X ret ih _ _ _ h hP hD hS (lv_sub hl [2, 3, 4, 0, 5] rfl)
      · replace h := h.2 c33
        refine lv_iload_n hx hb dX2_leadOf_36 rfl (lv_at hl 4 rfl) ?_
        refine lv_aload_n hx hb dX2_leadOf_37 rfl (lv_at hl 1 rfl) ?_
        refine lv_iload hx hb dX2_leadOf_38 (lv_at hl 5 rfl) ?_
        refine C_vi (wr := []) X hP hD hS [.int x4] [.int x3] (w_X2_weightOf l D cI cZ cR adK adV _ o q F A x4 _ h) cal_X2_weightOf mw_22_8 rfl [0, 1, 2, 3, 4, 5, 6, 7, 8] [] [0, 1, 2, 3, 4, 5, 6, 7, 8] (fun u => (wX2 cI cZ o q F A : va_W)) rfl rfl (fun _ => rfl) rfl 0 rfl rfl ⟨rfl, rfl⟩ ⟨Nat.le_of_ble_eq_true rfl, Nat.le_of_ble_eq_true rfl⟩ hl.1 rfl (Nat.le_of_ble_eq_true rfl) ⟨Nat.zero_le _, Nat.zero_le _⟩ dX2_leadOf_40 (fun r40 u H locs h hP hD hS => ?_)
        refine lv_iadd hx hb dX2_leadOf_43 ?_
        refine lv_topi (fun y44 ey44 => ?_)
        replace h := h y44 ey44
        refine lv_istore_n (lv' := [(3, .int y44), (5, .int y29), (0, .ref o), (1, .int x1), (2, .int x2), (4, .int x4)]) hx hb dX2_leadOf_44 rfl hl (by decide) rfl (fun ls hl => ?_)
        refine lv_goto (tgt := 62) hx hb dX2_leadOf_45 (by decide) ?_
        exact b_X2_leadOf_J62 F A x1 x2 y44 x4 X ret ih _ _ _ h hP hD hS (lv_sub hl [2, 3, 4, 0, 5] rfl)
def p_X2_leadOf (F : tF) (A : tA) (x1 : Int32) (x2 : Int32) (K : Int32 → Prop) : Prop := (∃ n5, p_X2_leadOf_L5 F A x1 x2 K n5 (0 : Int32) (0 : Int32))
set_option maxHeartbeats 4000000 in
set_option maxRecDepth 100000 in
theorem w_X2_leadOf (l : Launch) (D : va_G) (cI cZ cR : ClassId) (adK adV : Nat → Nat) (sz : Nat) (o : Nat) (q : Nat → Nat) (F : tF) (A : tA) (x1 : Int32) (x2 : Int32) (K : Int32 → Prop) (h : p_X2_leadOf F A x1 x2 K) : MI l D cI cZ cR adK adV yX2_leadOf cX2_leadOf 6 (some .int) (rmN 2 124) [.ref o, .int x1, .int x2] (wX2 cI cZ o q F A : va_W) sz (fun (r : Int32) (u : Unit) => K r) (fun (u : Unit) => (wX2 cI cZ o q F A : va_W)) := by
  refine M_i (by decide +kernel) (Nat.le_of_ble_eq_true rfl) ?_
  intro p e s m args below meth c Q A9 ls X ret hP hD hS hl
  obtain ⟨hx, hb, hml, ht, hown, hK, hA, hE⟩ := id X
  have hl : lv_has ls 6 [(0, .ref o), (1, .int x1), (2, .int x2)] := hl
  unfold p_X2_leadOf at h
  refine lv_iconst (v := 0) hx hb dX2_leadOf_0 (by decide) ?_
  refine lv_istore_n (lv' := [(3, .int (0 : Int32)), (0, .ref o), (1, .int x1), (2, .int x2)]) hx hb dX2_leadOf_1 rfl hl (by decide) rfl (fun ls hl => ?_)
  refine lv_iconst (v := 0) hx hb dX2_leadOf_2 (by decide) ?_
  refine lv_istore (lv' := [(4, .int (0 : Int32)), (3, .int (0 : Int32)), (0, .ref o), (1, .int x1), (2, .int x2)]) hx hb dX2_leadOf_3 hl (by decide) rfl (fun ls hl => ?_)
  obtain ⟨n5, h⟩ := h
  exact b_X2_leadOf_L5 F A x1 x2 X ret  n5 (0 : Int32) (0 : Int32) _ _ _ h hP hD hS (lv_sub hl [2, 3, 4, 1, 0] rfl)
theorem dX2_startOver_0 : decode cX2_startOver 0 = .ok (.aload_n 0, 1) := by decide +kernel
theorem dX2_startOver_1 : decode cX2_startOver 1 = .ok (.getfield 9, 3) := by decide +kernel
theorem dX2_startOver_4 : decode cX2_startOver 4 = .ok (.iconst 0, 1) := by decide +kernel
theorem dX2_startOver_5 : decode cX2_startOver 5 = .ok (.iconst 3, 1) := by decide +kernel
theorem dX2_startOver_6 : decode cX2_startOver 6 = .ok (.iastore, 1) := by decide +kernel
theorem dX2_startOver_7 : decode cX2_startOver 7 = .ok (.aload_n 0, 1) := by decide +kernel
theorem dX2_startOver_8 : decode cX2_startOver 8 = .ok (.getfield 9, 3) := by decide +kernel
theorem dX2_startOver_11 : decode cX2_startOver 11 = .ok (.iconst 1, 1) := by decide +kernel
theorem dX2_startOver_12 : decode cX2_startOver 12 = .ok (.iconst 2, 1) := by decide +kernel
theorem dX2_startOver_13 : decode cX2_startOver 13 = .ok (.iastore, 1) := by decide +kernel
theorem dX2_startOver_14 : decode cX2_startOver 14 = .ok (.aload_n 0, 1) := by decide +kernel
theorem dX2_startOver_15 : decode cX2_startOver 15 = .ok (.getfield 9, 3) := by decide +kernel
theorem dX2_startOver_18 : decode cX2_startOver 18 = .ok (.iconst 2, 1) := by decide +kernel
theorem dX2_startOver_19 : decode cX2_startOver 19 = .ok (.iconst 1, 1) := by decide +kernel
theorem dX2_startOver_20 : decode cX2_startOver 20 = .ok (.iastore, 1) := by decide +kernel
theorem dX2_startOver_21 : decode cX2_startOver 21 = .ok (.aload_n 0, 1) := by decide +kernel
theorem dX2_startOver_22 : decode cX2_startOver 22 = .ok (.getfield 9, 3) := by decide +kernel
theorem dX2_startOver_25 : decode cX2_startOver 25 = .ok (.iconst 3, 1) := by decide +kernel
theorem dX2_startOver_26 : decode cX2_startOver 26 = .ok (.bipush 20, 2) := by decide +kernel
theorem dX2_startOver_28 : decode cX2_startOver 28 = .ok (.iastore, 1) := by decide +kernel
theorem dX2_startOver_29 : decode cX2_startOver 29 = .ok (.iconst 0, 1) := by decide +kernel
theorem dX2_startOver_30 : decode cX2_startOver 30 = .ok (.istore_n 1, 1) := by decide +kernel
theorem dX2_startOver_31 : decode cX2_startOver 31 = .ok (.iload_n 1, 1) := by decide +kernel
theorem dX2_startOver_32 : decode cX2_startOver 32 = .ok (.bipush 6, 2) := by decide +kernel
theorem dX2_startOver_34 : decode cX2_startOver 34 = .ok (.if_icmp .ge 23, 3) := by decide +kernel
theorem dX2_startOver_37 : decode cX2_startOver 37 = .ok (.aload_n 0, 1) := by decide +kernel
theorem dX2_startOver_38 : decode cX2_startOver 38 = .ok (.getfield 15, 3) := by decide +kernel
theorem dX2_startOver_41 : decode cX2_startOver 41 = .ok (.iload_n 1, 1) := by decide +kernel
theorem dX2_startOver_42 : decode cX2_startOver 42 = .ok (.iconst 5, 1) := by decide +kernel
theorem dX2_startOver_43 : decode cX2_startOver 43 = .ok (.iastore, 1) := by decide +kernel
theorem dX2_startOver_44 : decode cX2_startOver 44 = .ok (.aload_n 0, 1) := by decide +kernel
theorem dX2_startOver_45 : decode cX2_startOver 45 = .ok (.getfield 18, 3) := by decide +kernel
theorem dX2_startOver_48 : decode cX2_startOver 48 = .ok (.iload_n 1, 1) := by decide +kernel
theorem dX2_startOver_49 : decode cX2_startOver 49 = .ok (.iconst 0, 1) := by decide +kernel
theorem dX2_startOver_50 : decode cX2_startOver 50 = .ok (.iastore, 1) := by decide +kernel
theorem dX2_startOver_51 : decode cX2_startOver 51 = .ok (.iinc 1 1, 3) := by decide +kernel
theorem dX2_startOver_54 : decode cX2_startOver 54 = .ok (.goto (-23), 3) := by decide +kernel
theorem dX2_startOver_57 : decode cX2_startOver 57 = .ok (.aload_n 0, 1) := by decide +kernel
theorem dX2_startOver_58 : decode cX2_startOver 58 = .ok (.iconst 0, 1) := by decide +kernel
theorem dX2_startOver_59 : decode cX2_startOver 59 = .ok (.putfield 36, 3) := by decide +kernel
theorem dX2_startOver_62 : decode cX2_startOver 62 = .ok (.aload_n 0, 1) := by decide +kernel
theorem dX2_startOver_63 : decode cX2_startOver 63 = .ok (.iconst 0, 1) := by decide +kernel
theorem dX2_startOver_64 : decode cX2_startOver 64 = .ok (.putfield 40, 3) := by decide +kernel
theorem dX2_startOver_67 : decode cX2_startOver 67 = .ok (.aload_n 0, 1) := by decide +kernel
theorem dX2_startOver_68 : decode cX2_startOver 68 = .ok (.iconst 0, 1) := by decide +kernel
theorem dX2_startOver_69 : decode cX2_startOver 69 = .ok (.putfield 43, 3) := by decide +kernel
theorem dX2_startOver_72 : decode cX2_startOver 72 = .ok (.aload_n 0, 1) := by decide +kernel
theorem dX2_startOver_73 : decode cX2_startOver 73 = .ok (.iconst 0, 1) := by decide +kernel
theorem dX2_startOver_74 : decode cX2_startOver 74 = .ok (.putfield 46, 3) := by decide +kernel
theorem dX2_startOver_77 : decode cX2_startOver 77 = .ok (.return_, 1) := by decide +kernel
def p_X2_startOver_L31 (K : tF → tA → Prop) : Nat → tF → tA → Int32 → Prop
  | 0, _, _, _ => False
  | n31 + 1, F, A, x1 => (((6 : Int32) ≤ x1 → (K (upd (upd (upd (upd F 8 (0 : Int32)) 9 (0 : Int32)) 10 (0 : Int32)) 11 (0 : Int32)) A)) ∧ (¬ (6 : Int32) ≤ x1 → (vp_in x1 6 ∧ (∀ f_43 : tF, f_43 = (upd (A 1) (x1).toNatClampNeg (5 : Int32)) → (vp_in x1 6 ∧ (∀ f_50 : tF, f_50 = (upd (A 2) (x1).toNatClampNeg (0 : Int32)) → (∀ y51 : Int32, y51 = (x1 + (1 : Int32)) → ((p_X2_startOver_L31 K n31) F (va_up (va_up A 1 f_43) 2 f_50) y51))))))))
set_option maxHeartbeats 4000000 in
set_option maxRecDepth 100000 in
theorem b_X2_startOver_L31 {p : Program} {l : Launch} {e : Env} {s : State} {m : MethodId} {args : Array Value} {below : List Frame} {meth : Method} {c : Code} {Q : State → Prop} {D : va_G} {cI cZ cR : ClassId} {adK adV : Nat → Nat} {A9 : Nat → Prop} {o : Nat} {q : Nat → Nat} {K : tF → tA → Prop}   (X : CX p s m args c yX2_startOver.cls cX2_startOver 2 D cI cZ cR adK adV A9) (ret : RTv p l e (rmN 0 0) s m args below meth c Q cX2_startOver D A9 (fun (u : (tF × tA)) => K u.1 u.2) (fun (u : (tF × tA)) => (wX2 cI cZ o q u.1 u.2 : va_W)))   : ∀ (n : Nat) (F : tF) (A : tA) (x1 : Int32) (H : Heap) (locs : List Loc) (ls : Array Slot), p_X2_startOver_L31 K n F A x1 → va_P D vwCl (wX2 cI cZ o q F A : va_W) H → va_D A9 (wX2 cI cZ o q F A : va_W) → va_S A9 s.heap H locs → lv_has ls 2 [(0, .ref o), (1, .int x1)] → W p l e (rmN 0 0) s m args below meth c H locs 0 0 Q (F0 m 31 ls []) := by
  obtain ⟨hx, hb, hml, ht, hown, hK, hA, hE⟩ := id X
  intro n
  induction n with
  | zero => intro F A x1 H locs ls h; exact False.elim h
  | succ n31 ih =>
    intro F A x1 H locs ls h hP hD hS hl
    rw [p_X2_startOver_L31] at h
    refine lv_iload_n hx hb dX2_startOver_31 rfl (lv_at hl 1 rfl) ?_
    refine lv_bipush (v := 6) hx hb dX2_startOver_32 (by decide) ?_
    refine lv_icmp_ge (tgt := 57) hx hb dX2_startOver_34 (by decide) (fun c34 => ?_) (fun c34 => ?_)
    · replace h := h.1 c34
      refine lv_aload_n hx hb dX2_startOver_57 rfl (lv_at hl 0 rfl) ?_
      refine lv_iconst (v := 0) hx hb dX2_startOver_58 (by decide) ?_
      refine va_put (C := RX2) (T := TX2) (N := 13) (own := RX2) (v := .int (0 : Int32)) hx hb ht inlX2 tyX2 tyX2_ok nmX2 hown hK hP hD hS 0 rfl rfl 8 (Nat.le_of_ble_eq_true rfl) (ht _ mw_3_7) (fun _ h9 => h9) rfl (tyX2_ok 8 (Nat.le_of_ble_eq_true rfl)) rfl rfl (Nat.le_of_ble_eq_true rfl) dX2_startOver_59 (fun H locs hP hD hS => ?_)
      have hP : va_P D vwCl (wX2 cI cZ o q (upd F 8 (0 : Int32)) A : va_W) H := hP
      have hD : va_D A9 (wX2 cI cZ o q (upd F 8 (0 : Int32)) A : va_W) := hD
      refine lv_aload_n hx hb dX2_startOver_62 rfl (lv_at hl 0 rfl) ?_
      refine lv_iconst (v := 0) hx hb dX2_startOver_63 (by decide) ?_
      refine va_put (C := RX2) (T := TX2) (N := 13) (own := RX2) (v := .int (0 : Int32)) hx hb ht inlX2 tyX2 tyX2_ok nmX2 hown hK hP hD hS 0 rfl rfl 9 (Nat.le_of_ble_eq_true rfl) (ht _ mw_3_8) (fun _ h9 => h9) rfl (tyX2_ok 9 (Nat.le_of_ble_eq_true rfl)) rfl rfl (Nat.le_of_ble_eq_true rfl) dX2_startOver_64 (fun H locs hP hD hS => ?_)
      have hP : va_P D vwCl (wX2 cI cZ o q (upd (upd F 8 (0 : Int32)) 9 (0 : Int32)) A : va_W) H := hP
      have hD : va_D A9 (wX2 cI cZ o q (upd (upd F 8 (0 : Int32)) 9 (0 : Int32)) A : va_W) := hD
      refine lv_aload_n hx hb dX2_startOver_67 rfl (lv_at hl 0 rfl) ?_
      refine lv_iconst (v := 0) hx hb dX2_startOver_68 (by decide) ?_
      refine va_put (C := RX2) (T := TX2) (N := 13) (own := RX2) (v := .int (0 : Int32)) hx hb ht inlX2 tyX2 tyX2_ok nmX2 hown hK hP hD hS 0 rfl rfl 10 (Nat.le_of_ble_eq_true rfl) (ht _ mw_3_9) (fun _ h9 => h9) rfl (tyX2_ok 10 (Nat.le_of_ble_eq_true rfl)) rfl rfl (Nat.le_of_ble_eq_true rfl) dX2_startOver_69 (fun H locs hP hD hS => ?_)
      have hP : va_P D vwCl (wX2 cI cZ o q (upd (upd (upd F 8 (0 : Int32)) 9 (0 : Int32)) 10 (0 : Int32)) A : va_W) H := hP
      have hD : va_D A9 (wX2 cI cZ o q (upd (upd (upd F 8 (0 : Int32)) 9 (0 : Int32)) 10 (0 : Int32)) A : va_W) := hD
      refine lv_aload_n hx hb dX2_startOver_72 rfl (lv_at hl 0 rfl) ?_
      refine lv_iconst (v := 0) hx hb dX2_startOver_73 (by decide) ?_
      refine va_put (C := RX2) (T := TX2) (N := 13) (own := RX2) (v := .int (0 : Int32)) hx hb ht inlX2 tyX2 tyX2_ok nmX2 hown hK hP hD hS 0 rfl rfl 11 (Nat.le_of_ble_eq_true rfl) (ht _ mw_3_10) (fun _ h9 => h9) rfl (tyX2_ok 11 (Nat.le_of_ble_eq_true rfl)) rfl rfl (Nat.le_of_ble_eq_true rfl) dX2_startOver_74 (fun H locs hP hD hS => ?_)
      have hP : va_P D vwCl (wX2 cI cZ o q (upd (upd (upd (upd F 8 (0 : Int32)) 9 (0 : Int32)) 10 (0 : Int32)) 11 (0 : Int32)) A : va_W) H := hP
      have hD : va_D A9 (wX2 cI cZ o q (upd (upd (upd (upd F 8 (0 : Int32)) 9 (0 : Int32)) 10 (0 : Int32)) 11 (0 : Int32)) A : va_W) := hD
      exact ret ((upd (upd (upd (upd F 8 (0 : Int32)) 9 (0 : Int32)) 10 (0 : Int32)) 11 (0 : Int32)), A) _ _ _ _ dX2_startOver_77 h hP hD hS
    · replace h := h.2 c34
      refine lv_aload_n hx hb dX2_startOver_37 rfl (lv_at hl 0 rfl) ?_
      refine va_get (C := RX2) (T := TX2) (N := 13) (own := RX2) (v := .ref (q 1)) hx hb ht inlX2 hown hK hP 0 rfl rfl 1 (Nat.le_of_ble_eq_true rfl) (ht _ mw_3_0) (fun _ h9 => h9) rfl dX2_startOver_38 ?_
      refine lv_iload_n hx hb dX2_startOver_41 rfl (lv_at hl 1 rfl) ?_
      refine lv_iconst (v := 5) hx hb dX2_startOver_42 (by decide) ?_
      obtain ⟨hi43, h⟩ := h
      obtain ⟨f_43, ef_43⟩ : ∃ z : tF, z = (upd (A 1) (x1).toNatClampNeg (5 : Int32)) := ⟨_, rfl⟩
      replace h := h f_43 ef_43
      refine g_iast (f := (A 1)) (k := (x1).toNatClampNeg) hx hb hK hP hD hS 2 0 rfl rfl hi43 rfl ef_43 dX2_startOver_43 (fun H locs hP hD hS => ?_)
      have hP : va_P D vwCl (wX2 cI cZ o q F (va_up A 1 f_43) : va_W) H := hP
      have hD : va_D A9 (wX2 cI cZ o q F (va_up A 1 f_43) : va_W) := hD
      refine lv_aload_n hx hb dX2_startOver_44 rfl (lv_at hl 0 rfl) ?_
      refine va_get (C := RX2) (T := TX2) (N := 13) (own := RX2) (v := .ref (q 2)) hx hb ht inlX2 hown hK hP 0 rfl rfl 2 (Nat.le_of_ble_eq_true rfl) (ht _ mw_3_1) (fun _ h9 => h9) rfl dX2_startOver_45 ?_
      refine lv_iload_n hx hb dX2_startOver_48 rfl (lv_at hl 1 rfl) ?_
      refine lv_iconst (v := 0) hx hb dX2_startOver_49 (by decide) ?_
      obtain ⟨hi50, h⟩ := h
      obtain ⟨f_50, ef_50⟩ : ∃ z : tF, z = (upd (A 2) (x1).toNatClampNeg (0 : Int32)) := ⟨_, rfl⟩
      replace h := h f_50 ef_50
      refine g_iast (f := (A 2)) (k := (x1).toNatClampNeg) hx hb hK hP hD hS 3 0 rfl rfl hi50 rfl ef_50 dX2_startOver_50 (fun H locs hP hD hS => ?_)
      have hP : va_P D vwCl (wX2 cI cZ o q F (va_up (va_up A 1 f_43) 2 f_50) : va_W) H := hP
      have hD : va_D A9 (wX2 cI cZ o q F (va_up (va_up A 1 f_43) 2 f_50) : va_W) := hD
      obtain ⟨y51, ey51⟩ : ∃ y : Int32, y = (x1 + (1 : Int32)) := ⟨_, rfl⟩
      replace h := h y51 ey51
      refine lv_iinc (v := y51) (lv' := [(1, .int y51), (0, .ref o)]) hx hb dX2_startOver_51 hl (k := 1) rfl (by rw [ey51]; rfl) (by decide) rfl (fun ls hl => ?_)
      refine lv_goto (tgt := 31) hx hb dX2_startOver_54 (by decide) ?_
      exact ih F (va_up (va_up A 1 f_43) 2 f_50) y51 _ _ _ h hP hD hS (lv_sub hl [1, 0] rfl)
def p_X2_startOver (F : tF) (A : tA) (K : tF → tA → Prop) : Prop := (∀ f_6 : tF, f_6 = (upd (A 0) 0 (3 : Int32)) → (∀ f_13 : tF, f_13 = (upd f_6 1 (2 : Int32)) → (∀ f_20 : tF, f_20 = (upd f_13 2 (1 : Int32)) → (∀ f_28 : tF, f_28 = (upd f_20 3 (20 : Int32)) → (∃ n31, p_X2_startOver_L31 K n31 F (va_up A 0 f_28) (0 : Int32))))))
set_option maxHeartbeats 4000000 in
set_option maxRecDepth 100000 in
theorem w_X2_startOver (l : Launch) (D : va_G) (cI cZ cR : ClassId) (adK adV : Nat → Nat) (sz : Nat) (o : Nat) (q : Nat → Nat) (F : tF) (A : tA) (K : tF → tA → Prop) (h : p_X2_startOver F A K) : MV l D cI cZ cR adK adV yX2_startOver cX2_startOver 2 none (rmN 0 0) [.ref o] (wX2 cI cZ o q F A : va_W) sz (fun (u : (tF × tA)) => K u.1 u.2) (fun (u : (tF × tA)) => (wX2 cI cZ o q u.1 u.2 : va_W)) := by
  refine M_v (by decide +kernel) (Nat.le_of_ble_eq_true rfl) ?_
  intro p e s m args below meth c Q A9 ls X ret hP hD hS hl
  obtain ⟨hx, hb, hml, ht, hown, hK, hA, hE⟩ := id X
  have hl : lv_has ls 2 [(0, .ref o)] := hl
  unfold p_X2_startOver at h
  refine lv_aload_n hx hb dX2_startOver_0 rfl (lv_at hl 0 rfl) ?_
  refine va_get (C := RX2) (T := TX2) (N := 13) (own := RX2) (v := .ref (q 0)) hx hb ht inlX2 hown hK hP 0 rfl rfl 0 (Nat.le_of_ble_eq_true rfl) (ht _ mw_2_23) (fun _ h9 => h9) rfl dX2_startOver_1 ?_
  refine lv_iconst (v := 0) hx hb dX2_startOver_4 (by decide) ?_
  refine lv_iconst (v := 3) hx hb dX2_startOver_5 (by decide) ?_
  obtain ⟨f_6, ef_6⟩ : ∃ z : tF, z = (upd (A 0) 0 (3 : Int32)) := ⟨_, rfl⟩
  replace h := h f_6 ef_6
  refine g_iast (f := (A 0)) (k := 0) hx hb hK hP hD hS 1 0 rfl rfl (vp_in_lit rfl : vp_in (0 : Int32) 4) (by decide) ef_6 dX2_startOver_6 (fun H locs hP hD hS => ?_)
  have hP : va_P D vwCl (wX2 cI cZ o q F (va_up A 0 f_6) : va_W) H := hP
  have hD : va_D A9 (wX2 cI cZ o q F (va_up A 0 f_6) : va_W) := hD
  refine lv_aload_n hx hb dX2_startOver_7 rfl (lv_at hl 0 rfl) ?_
  refine va_get (C := RX2) (T := TX2) (N := 13) (own := RX2) (v := .ref (q 0)) hx hb ht inlX2 hown hK hP 0 rfl rfl 0 (Nat.le_of_ble_eq_true rfl) (ht _ mw_2_23) (fun _ h9 => h9) rfl dX2_startOver_8 ?_
  refine lv_iconst (v := 1) hx hb dX2_startOver_11 (by decide) ?_
  refine lv_iconst (v := 2) hx hb dX2_startOver_12 (by decide) ?_
  obtain ⟨f_13, ef_13⟩ : ∃ z : tF, z = (upd f_6 1 (2 : Int32)) := ⟨_, rfl⟩
  replace h := h f_13 ef_13
  refine g_iast (f := f_6) (k := 1) hx hb hK hP hD hS 1 0 rfl rfl (vp_in_lit rfl : vp_in (1 : Int32) 4) (by decide) ef_13 dX2_startOver_13 (fun H locs hP hD hS => ?_)
  have hP : va_P D vwCl (wX2 cI cZ o q F (va_up A 0 f_13) : va_W) H := hP
  have hD : va_D A9 (wX2 cI cZ o q F (va_up A 0 f_13) : va_W) := hD
  refine lv_aload_n hx hb dX2_startOver_14 rfl (lv_at hl 0 rfl) ?_
  refine va_get (C := RX2) (T := TX2) (N := 13) (own := RX2) (v := .ref (q 0)) hx hb ht inlX2 hown hK hP 0 rfl rfl 0 (Nat.le_of_ble_eq_true rfl) (ht _ mw_2_23) (fun _ h9 => h9) rfl dX2_startOver_15 ?_
  refine lv_iconst (v := 2) hx hb dX2_startOver_18 (by decide) ?_
  refine lv_iconst (v := 1) hx hb dX2_startOver_19 (by decide) ?_
  obtain ⟨f_20, ef_20⟩ : ∃ z : tF, z = (upd f_13 2 (1 : Int32)) := ⟨_, rfl⟩
  replace h := h f_20 ef_20
  refine g_iast (f := f_13) (k := 2) hx hb hK hP hD hS 1 0 rfl rfl (vp_in_lit rfl : vp_in (2 : Int32) 4) (by decide) ef_20 dX2_startOver_20 (fun H locs hP hD hS => ?_)
  have hP : va_P D vwCl (wX2 cI cZ o q F (va_up A 0 f_20) : va_W) H := hP
  have hD : va_D A9 (wX2 cI cZ o q F (va_up A 0 f_20) : va_W) := hD
  refine lv_aload_n hx hb dX2_startOver_21 rfl (lv_at hl 0 rfl) ?_
  refine va_get (C := RX2) (T := TX2) (N := 13) (own := RX2) (v := .ref (q 0)) hx hb ht inlX2 hown hK hP 0 rfl rfl 0 (Nat.le_of_ble_eq_true rfl) (ht _ mw_2_23) (fun _ h9 => h9) rfl dX2_startOver_22 ?_
  refine lv_iconst (v := 3) hx hb dX2_startOver_25 (by decide) ?_
  refine lv_bipush (v := 20) hx hb dX2_startOver_26 (by decide) ?_
  obtain ⟨f_28, ef_28⟩ : ∃ z : tF, z = (upd f_20 3 (20 : Int32)) := ⟨_, rfl⟩
  replace h := h f_28 ef_28
  refine g_iast (f := f_20) (k := 3) hx hb hK hP hD hS 1 0 rfl rfl (vp_in_lit rfl : vp_in (3 : Int32) 4) (by decide) ef_28 dX2_startOver_28 (fun H locs hP hD hS => ?_)
  have hP : va_P D vwCl (wX2 cI cZ o q F (va_up A 0 f_28) : va_W) H := hP
  have hD : va_D A9 (wX2 cI cZ o q F (va_up A 0 f_28) : va_W) := hD
  refine lv_iconst (v := 0) hx hb dX2_startOver_29 (by decide) ?_
  refine lv_istore_n (lv' := [(1, .int (0 : Int32)), (0, .ref o)]) hx hb dX2_startOver_30 rfl hl (by decide) rfl (fun ls hl => ?_)
  obtain ⟨n31, h⟩ := h
  exact b_X2_startOver_L31  X ret  n31 F (va_up A 0 f_28) (0 : Int32) _ _ _ h hP hD hS (lv_sub hl [1, 0] rfl)
theorem dX2_copyFrom_0 : decode cX2_copyFrom 0 = .ok (.aload_n 1, 1) := by decide +kernel
theorem dX2_copyFrom_1 : decode cX2_copyFrom 1 = .ok (.getfield 9, 3) := by decide +kernel
theorem dX2_copyFrom_4 : decode cX2_copyFrom 4 = .ok (.iconst 0, 1) := by decide +kernel
theorem dX2_copyFrom_5 : decode cX2_copyFrom 5 = .ok (.aload_n 0, 1) := by decide +kernel
theorem dX2_copyFrom_6 : decode cX2_copyFrom 6 = .ok (.getfield 9, 3) := by decide +kernel
theorem dX2_copyFrom_9 : decode cX2_copyFrom 9 = .ok (.iconst 0, 1) := by decide +kernel
theorem dX2_copyFrom_10 : decode cX2_copyFrom 10 = .ok (.iconst 4, 1) := by decide +kernel
theorem dX2_copyFrom_11 : decode cX2_copyFrom 11 = .ok (.invokestatic 55, 3) := by decide +kernel
theorem dX2_copyFrom_14 : decode cX2_copyFrom 14 = .ok (.aload_n 1, 1) := by decide +kernel
theorem dX2_copyFrom_15 : decode cX2_copyFrom 15 = .ok (.getfield 15, 3) := by decide +kernel
theorem dX2_copyFrom_18 : decode cX2_copyFrom 18 = .ok (.iconst 0, 1) := by decide +kernel
theorem dX2_copyFrom_19 : decode cX2_copyFrom 19 = .ok (.aload_n 0, 1) := by decide +kernel
theorem dX2_copyFrom_20 : decode cX2_copyFrom 20 = .ok (.getfield 15, 3) := by decide +kernel
theorem dX2_copyFrom_23 : decode cX2_copyFrom 23 = .ok (.iconst 0, 1) := by decide +kernel
theorem dX2_copyFrom_24 : decode cX2_copyFrom 24 = .ok (.bipush 6, 2) := by decide +kernel
theorem dX2_copyFrom_26 : decode cX2_copyFrom 26 = .ok (.invokestatic 55, 3) := by decide +kernel
theorem dX2_copyFrom_29 : decode cX2_copyFrom 29 = .ok (.aload_n 1, 1) := by decide +kernel
theorem dX2_copyFrom_30 : decode cX2_copyFrom 30 = .ok (.getfield 18, 3) := by decide +kernel
theorem dX2_copyFrom_33 : decode cX2_copyFrom 33 = .ok (.iconst 0, 1) := by decide +kernel
theorem dX2_copyFrom_34 : decode cX2_copyFrom 34 = .ok (.aload_n 0, 1) := by decide +kernel
theorem dX2_copyFrom_35 : decode cX2_copyFrom 35 = .ok (.getfield 18, 3) := by decide +kernel
theorem dX2_copyFrom_38 : decode cX2_copyFrom 38 = .ok (.iconst 0, 1) := by decide +kernel
theorem dX2_copyFrom_39 : decode cX2_copyFrom 39 = .ok (.bipush 6, 2) := by decide +kernel
theorem dX2_copyFrom_41 : decode cX2_copyFrom 41 = .ok (.invokestatic 55, 3) := by decide +kernel
theorem dX2_copyFrom_44 : decode cX2_copyFrom 44 = .ok (.aload_n 1, 1) := by decide +kernel
theorem dX2_copyFrom_45 : decode cX2_copyFrom 45 = .ok (.getfield 21, 3) := by decide +kernel
theorem dX2_copyFrom_48 : decode cX2_copyFrom 48 = .ok (.iconst 0, 1) := by decide +kernel
theorem dX2_copyFrom_49 : decode cX2_copyFrom 49 = .ok (.aload_n 0, 1) := by decide +kernel
theorem dX2_copyFrom_50 : decode cX2_copyFrom 50 = .ok (.getfield 21, 3) := by decide +kernel
theorem dX2_copyFrom_53 : decode cX2_copyFrom 53 = .ok (.iconst 0, 1) := by decide +kernel
theorem dX2_copyFrom_54 : decode cX2_copyFrom 54 = .ok (.bipush 8, 2) := by decide +kernel
theorem dX2_copyFrom_56 : decode cX2_copyFrom 56 = .ok (.invokestatic 55, 3) := by decide +kernel
theorem dX2_copyFrom_59 : decode cX2_copyFrom 59 = .ok (.aload_n 1, 1) := by decide +kernel
theorem dX2_copyFrom_60 : decode cX2_copyFrom 60 = .ok (.getfield 24, 3) := by decide +kernel
theorem dX2_copyFrom_63 : decode cX2_copyFrom 63 = .ok (.iconst 0, 1) := by decide +kernel
theorem dX2_copyFrom_64 : decode cX2_copyFrom 64 = .ok (.aload_n 0, 1) := by decide +kernel
theorem dX2_copyFrom_65 : decode cX2_copyFrom 65 = .ok (.getfield 24, 3) := by decide +kernel
theorem dX2_copyFrom_68 : decode cX2_copyFrom 68 = .ok (.iconst 0, 1) := by decide +kernel
theorem dX2_copyFrom_69 : decode cX2_copyFrom 69 = .ok (.bipush 8, 2) := by decide +kernel
theorem dX2_copyFrom_71 : decode cX2_copyFrom 71 = .ok (.invokestatic 55, 3) := by decide +kernel
theorem dX2_copyFrom_74 : decode cX2_copyFrom 74 = .ok (.aload_n 1, 1) := by decide +kernel
theorem dX2_copyFrom_75 : decode cX2_copyFrom 75 = .ok (.getfield 27, 3) := by decide +kernel
theorem dX2_copyFrom_78 : decode cX2_copyFrom 78 = .ok (.iconst 0, 1) := by decide +kernel
theorem dX2_copyFrom_79 : decode cX2_copyFrom 79 = .ok (.aload_n 0, 1) := by decide +kernel
theorem dX2_copyFrom_80 : decode cX2_copyFrom 80 = .ok (.getfield 27, 3) := by decide +kernel
theorem dX2_copyFrom_83 : decode cX2_copyFrom 83 = .ok (.iconst 0, 1) := by decide +kernel
theorem dX2_copyFrom_84 : decode cX2_copyFrom 84 = .ok (.bipush 8, 2) := by decide +kernel
theorem dX2_copyFrom_86 : decode cX2_copyFrom 86 = .ok (.invokestatic 55, 3) := by decide +kernel
theorem dX2_copyFrom_89 : decode cX2_copyFrom 89 = .ok (.aload_n 1, 1) := by decide +kernel
theorem dX2_copyFrom_90 : decode cX2_copyFrom 90 = .ok (.getfield 30, 3) := by decide +kernel
theorem dX2_copyFrom_93 : decode cX2_copyFrom 93 = .ok (.iconst 0, 1) := by decide +kernel
theorem dX2_copyFrom_94 : decode cX2_copyFrom 94 = .ok (.aload_n 0, 1) := by decide +kernel
theorem dX2_copyFrom_95 : decode cX2_copyFrom 95 = .ok (.getfield 30, 3) := by decide +kernel
theorem dX2_copyFrom_98 : decode cX2_copyFrom 98 = .ok (.iconst 0, 1) := by decide +kernel
theorem dX2_copyFrom_99 : decode cX2_copyFrom 99 = .ok (.bipush 8, 2) := by decide +kernel
theorem dX2_copyFrom_101 : decode cX2_copyFrom 101 = .ok (.invokestatic 55, 3) := by decide +kernel
theorem dX2_copyFrom_104 : decode cX2_copyFrom 104 = .ok (.aload_n 0, 1) := by decide +kernel
theorem dX2_copyFrom_105 : decode cX2_copyFrom 105 = .ok (.aload_n 1, 1) := by decide +kernel
theorem dX2_copyFrom_106 : decode cX2_copyFrom 106 = .ok (.getfield 36, 3) := by decide +kernel
theorem dX2_copyFrom_109 : decode cX2_copyFrom 109 = .ok (.putfield 36, 3) := by decide +kernel
theorem dX2_copyFrom_112 : decode cX2_copyFrom 112 = .ok (.aload_n 0, 1) := by decide +kernel
theorem dX2_copyFrom_113 : decode cX2_copyFrom 113 = .ok (.aload_n 1, 1) := by decide +kernel
theorem dX2_copyFrom_114 : decode cX2_copyFrom 114 = .ok (.getfield 40, 3) := by decide +kernel
theorem dX2_copyFrom_117 : decode cX2_copyFrom 117 = .ok (.putfield 40, 3) := by decide +kernel
theorem dX2_copyFrom_120 : decode cX2_copyFrom 120 = .ok (.aload_n 0, 1) := by decide +kernel
theorem dX2_copyFrom_121 : decode cX2_copyFrom 121 = .ok (.aload_n 1, 1) := by decide +kernel
theorem dX2_copyFrom_122 : decode cX2_copyFrom 122 = .ok (.getfield 43, 3) := by decide +kernel
theorem dX2_copyFrom_125 : decode cX2_copyFrom 125 = .ok (.putfield 43, 3) := by decide +kernel
theorem dX2_copyFrom_128 : decode cX2_copyFrom 128 = .ok (.aload_n 0, 1) := by decide +kernel
theorem dX2_copyFrom_129 : decode cX2_copyFrom 129 = .ok (.aload_n 1, 1) := by decide +kernel
theorem dX2_copyFrom_130 : decode cX2_copyFrom 130 = .ok (.getfield 46, 3) := by decide +kernel
theorem dX2_copyFrom_133 : decode cX2_copyFrom 133 = .ok (.putfield 46, 3) := by decide +kernel
theorem dX2_copyFrom_136 : decode cX2_copyFrom 136 = .ok (.aload_n 0, 1) := by decide +kernel
theorem dX2_copyFrom_137 : decode cX2_copyFrom 137 = .ok (.aload_n 1, 1) := by decide +kernel
theorem dX2_copyFrom_138 : decode cX2_copyFrom 138 = .ok (.getfield 49, 3) := by decide +kernel
theorem dX2_copyFrom_141 : decode cX2_copyFrom 141 = .ok (.putfield 49, 3) := by decide +kernel
theorem dX2_copyFrom_144 : decode cX2_copyFrom 144 = .ok (.return_, 1) := by decide +kernel
def p_X2_copyFrom (F : tF) (A : tA) (F1 : tF) (A1 : tA) (K : tF → tA → Prop) : Prop := (∀ f_11 : tF, f_11 = (va_cpy (A1 0) (A 0) 0 0 4) → (∀ f_26 : tF, f_26 = (va_cpy (A1 1) (A 1) 0 0 6) → (∀ f_41 : tF, f_41 = (va_cpy (A1 2) (A 2) 0 0 6) → (∀ f_56 : tF, f_56 = (va_cpy (A1 3) (A 3) 0 0 8) → (∀ f_71 : tF, f_71 = (va_cpy (A1 4) (A 4) 0 0 8) → (∀ f_86 : tF, f_86 = (va_cpy (A1 5) (A 5) 0 0 8) → (∀ f_101 : tF, f_101 = (va_cpy (A1 6) (A 6) 0 0 8) → (∀ y109 : Int32, y109 = (F1 8) → (∀ y117 : Int32, y117 = (F1 9) → (∀ y125 : Int32, y125 = (F1 10) → (∀ y133 : Int32, y133 = (F1 11) → (∀ y141 : Int32, y141 = (F1 12) → (K (upd (upd (upd (upd (upd F 8 y109) 9 y117) 10 y125) 11 y133) 12 y141) (va_up (va_up (va_up (va_up (va_up (va_up (va_up A 0 f_11) 1 f_26) 2 f_41) 3 f_56) 4 f_71) 5 f_86) 6 f_101))))))))))))))
set_option maxHeartbeats 4000000 in
set_option maxRecDepth 100000 in
theorem w_X2_copyFrom (l : Launch) (D : va_G) (cI cZ cR : ClassId) (adK adV : Nat → Nat) (sz : Nat) (o : Nat) (q : Nat → Nat) (o1 : Nat) (q1 : Nat → Nat) (F : tF) (A : tA) (F1 : tF) (A1 : tA) (K : tF → tA → Prop) (h : p_X2_copyFrom F A F1 A1 K) : MV l D cI cZ cR adK adV yX2_copyFrom cX2_copyFrom 2 none (rmN 1 100) [.ref o, .ref o1] (wX2 cI cZ o q F A ++ wX2 cI cZ o1 q1 F1 A1 : va_W) sz (fun (u : (tF × tA)) => K u.1 u.2) (fun (u : (tF × tA)) => (wX2 cI cZ o q u.1 u.2 ++ wX2 cI cZ o1 q1 F1 A1 : va_W)) := by
  refine M_v (by decide +kernel) (Nat.le_of_ble_eq_true rfl) ?_
  intro p e s m args below meth c Q A9 ls X ret hP hD hS hl
  obtain ⟨hx, hb, hml, ht, hown, hK, hA, hE⟩ := id X
  have hl : lv_has ls 2 [(0, .ref o), (1, .ref o1)] := hl
  unfold p_X2_copyFrom at h
  refine lv_aload_n hx hb dX2_copyFrom_0 rfl (lv_at hl 1 rfl) ?_
  refine va_get (C := RX2) (T := TX2) (N := 13) (own := RX2) (v := .ref (q1 0)) hx hb ht inlX2 hown hK hP 9 rfl rfl 0 (Nat.le_of_ble_eq_true rfl) (ht _ mw_2_23) (fun _ h9 => h9) rfl dX2_copyFrom_1 ?_
  refine lv_iconst (v := 0) hx hb dX2_copyFrom_4 (by decide) ?_
  refine lv_aload_n hx hb dX2_copyFrom_5 rfl (lv_at hl 0 rfl) ?_
  refine va_get (C := RX2) (T := TX2) (N := 13) (own := RX2) (v := .ref (q 0)) hx hb ht inlX2 hown hK hP 0 rfl rfl 0 (Nat.le_of_ble_eq_true rfl) (ht _ mw_2_23) (fun _ h9 => h9) rfl dX2_copyFrom_6 ?_
  refine lv_iconst (v := 0) hx hb dX2_copyFrom_9 (by decide) ?_
  refine lv_iconst (v := 4) hx hb dX2_copyFrom_10 (by decide) ?_
  obtain ⟨f_11, ef_11⟩ : ∃ z : tF, z = (va_cpy (A1 0) (A 0) 0 0 4) := ⟨_, rfl⟩
  replace h := h f_11 ef_11
  refine g_copyi (f := (A1 0)) (g := (A 0)) (k0 := 0) (k1 := 0) (kn := 4) hx hb (hml.trans hl.1.symm) hown (ht _ mw_7_7) (ht _ mw_7_8) (ht _ mw_7_9) (ht _ mw_7_10) hK hP hD hS 10 1 rfl rfl rfl (by decide) (by decide) (by decide) (by decide) (by decide) (by decide) (by decide) (by decide) ef_11 (Nat.le_of_ble_eq_true rfl) (Nat.le_of_ble_eq_true rfl) dX2_copyFrom_11 (fun H locs hP hD hS => ?_)
  have hP : va_P D vwCl (wX2 cI cZ o q F (va_up A 0 f_11) ++ wX2 cI cZ o1 q1 F1 A1 : va_W) H := hP
  have hD : va_D A9 (wX2 cI cZ o q F (va_up A 0 f_11) ++ wX2 cI cZ o1 q1 F1 A1 : va_W) := hD
  refine lv_aload_n hx hb dX2_copyFrom_14 rfl (lv_at hl 1 rfl) ?_
  refine va_get (C := RX2) (T := TX2) (N := 13) (own := RX2) (v := .ref (q1 1)) hx hb ht inlX2 hown hK hP 9 rfl rfl 1 (Nat.le_of_ble_eq_true rfl) (ht _ mw_3_0) (fun _ h9 => h9) rfl dX2_copyFrom_15 ?_
  refine lv_iconst (v := 0) hx hb dX2_copyFrom_18 (by decide) ?_
  refine lv_aload_n hx hb dX2_copyFrom_19 rfl (lv_at hl 0 rfl) ?_
  refine va_get (C := RX2) (T := TX2) (N := 13) (own := RX2) (v := .ref (q 1)) hx hb ht inlX2 hown hK hP 0 rfl rfl 1 (Nat.le_of_ble_eq_true rfl) (ht _ mw_3_0) (fun _ h9 => h9) rfl dX2_copyFrom_20 ?_
  refine lv_iconst (v := 0) hx hb dX2_copyFrom_23 (by decide) ?_
  refine lv_bipush (v := 6) hx hb dX2_copyFrom_24 (by decide) ?_
  obtain ⟨f_26, ef_26⟩ : ∃ z : tF, z = (va_cpy (A1 1) (A 1) 0 0 6) := ⟨_, rfl⟩
  replace h := h f_26 ef_26
  refine g_copyi (f := (A1 1)) (g := (A 1)) (k0 := 0) (k1 := 0) (kn := 6) hx hb (hml.trans hl.1.symm) hown (ht _ mw_7_7) (ht _ mw_7_8) (ht _ mw_7_9) (ht _ mw_7_10) hK hP hD hS 11 2 rfl rfl rfl (by decide) (by decide) (by decide) (by decide) (by decide) (by decide) (by decide) (by decide) ef_26 (Nat.le_of_ble_eq_true rfl) (Nat.le_of_ble_eq_true rfl) dX2_copyFrom_26 (fun H locs hP hD hS => ?_)
  have hP : va_P D vwCl (wX2 cI cZ o q F (va_up (va_up A 0 f_11) 1 f_26) ++ wX2 cI cZ o1 q1 F1 A1 : va_W) H := hP
  have hD : va_D A9 (wX2 cI cZ o q F (va_up (va_up A 0 f_11) 1 f_26) ++ wX2 cI cZ o1 q1 F1 A1 : va_W) := hD
  refine lv_aload_n hx hb dX2_copyFrom_29 rfl (lv_at hl 1 rfl) ?_
  refine va_get (C := RX2) (T := TX2) (N := 13) (own := RX2) (v := .ref (q1 2)) hx hb ht inlX2 hown hK hP 9 rfl rfl 2 (Nat.le_of_ble_eq_true rfl) (ht _ mw_3_1) (fun _ h9 => h9) rfl dX2_copyFrom_30 ?_
  refine lv_iconst (v := 0) hx hb dX2_copyFrom_33 (by decide) ?_
  refine lv_aload_n hx hb dX2_copyFrom_34 rfl (lv_at hl 0 rfl) ?_
  refine va_get (C := RX2) (T := TX2) (N := 13) (own := RX2) (v := .ref (q 2)) hx hb ht inlX2 hown hK hP 0 rfl rfl 2 (Nat.le_of_ble_eq_true rfl) (ht _ mw_3_1) (fun _ h9 => h9) rfl dX2_copyFrom_35 ?_
  refine lv_iconst (v := 0) hx hb dX2_copyFrom_38 (by decide) ?_
  refine lv_bipush (v := 6) hx hb dX2_copyFrom_39 (by decide) ?_
  obtain ⟨f_41, ef_41⟩ : ∃ z : tF, z = (va_cpy (A1 2) (A 2) 0 0 6) := ⟨_, rfl⟩
  replace h := h f_41 ef_41
  refine g_copyi (f := (A1 2)) (g := (A 2)) (k0 := 0) (k1 := 0) (kn := 6) hx hb (hml.trans hl.1.symm) hown (ht _ mw_7_7) (ht _ mw_7_8) (ht _ mw_7_9) (ht _ mw_7_10) hK hP hD hS 12 3 rfl rfl rfl (by decide) (by decide) (by decide) (by decide) (by decide) (by decide) (by decide) (by decide) ef_41 (Nat.le_of_ble_eq_true rfl) (Nat.le_of_ble_eq_true rfl) dX2_copyFrom_41 (fun H locs hP hD hS => ?_)
  have hP : va_P D vwCl (wX2 cI cZ o q F (va_up (va_up (va_up A 0 f_11) 1 f_26) 2 f_41) ++ wX2 cI cZ o1 q1 F1 A1 : va_W) H := hP
  have hD : va_D A9 (wX2 cI cZ o q F (va_up (va_up (va_up A 0 f_11) 1 f_26) 2 f_41) ++ wX2 cI cZ o1 q1 F1 A1 : va_W) := hD
  refine lv_aload_n hx hb dX2_copyFrom_44 rfl (lv_at hl 1 rfl) ?_
  refine va_get (C := RX2) (T := TX2) (N := 13) (own := RX2) (v := .ref (q1 3)) hx hb ht inlX2 hown hK hP 9 rfl rfl 3 (Nat.le_of_ble_eq_true rfl) (ht _ mw_3_2) (fun _ h9 => h9) rfl dX2_copyFrom_45 ?_
  refine lv_iconst (v := 0) hx hb dX2_copyFrom_48 (by decide) ?_
  refine lv_aload_n hx hb dX2_copyFrom_49 rfl (lv_at hl 0 rfl) ?_
  refine va_get (C := RX2) (T := TX2) (N := 13) (own := RX2) (v := .ref (q 3)) hx hb ht inlX2 hown hK hP 0 rfl rfl 3 (Nat.le_of_ble_eq_true rfl) (ht _ mw_3_2) (fun _ h9 => h9) rfl dX2_copyFrom_50 ?_
  refine lv_iconst (v := 0) hx hb dX2_copyFrom_53 (by decide) ?_
  refine lv_bipush (v := 8) hx hb dX2_copyFrom_54 (by decide) ?_
  obtain ⟨f_56, ef_56⟩ : ∃ z : tF, z = (va_cpy (A1 3) (A 3) 0 0 8) := ⟨_, rfl⟩
  replace h := h f_56 ef_56
  refine g_copyi (f := (A1 3)) (g := (A 3)) (k0 := 0) (k1 := 0) (kn := 8) hx hb (hml.trans hl.1.symm) hown (ht _ mw_7_7) (ht _ mw_7_8) (ht _ mw_7_9) (ht _ mw_7_10) hK hP hD hS 13 4 rfl rfl rfl (by decide) (by decide) (by decide) (by decide) (by decide) (by decide) (by decide) (by decide) ef_56 (Nat.le_of_ble_eq_true rfl) (Nat.le_of_ble_eq_true rfl) dX2_copyFrom_56 (fun H locs hP hD hS => ?_)
  have hP : va_P D vwCl (wX2 cI cZ o q F (va_up (va_up (va_up (va_up A 0 f_11) 1 f_26) 2 f_41) 3 f_56) ++ wX2 cI cZ o1 q1 F1 A1 : va_W) H := hP
  have hD : va_D A9 (wX2 cI cZ o q F (va_up (va_up (va_up (va_up A 0 f_11) 1 f_26) 2 f_41) 3 f_56) ++ wX2 cI cZ o1 q1 F1 A1 : va_W) := hD
  refine lv_aload_n hx hb dX2_copyFrom_59 rfl (lv_at hl 1 rfl) ?_
  refine va_get (C := RX2) (T := TX2) (N := 13) (own := RX2) (v := .ref (q1 4)) hx hb ht inlX2 hown hK hP 9 rfl rfl 4 (Nat.le_of_ble_eq_true rfl) (ht _ mw_3_3) (fun _ h9 => h9) rfl dX2_copyFrom_60 ?_
  refine lv_iconst (v := 0) hx hb dX2_copyFrom_63 (by decide) ?_
  refine lv_aload_n hx hb dX2_copyFrom_64 rfl (lv_at hl 0 rfl) ?_
  refine va_get (C := RX2) (T := TX2) (N := 13) (own := RX2) (v := .ref (q 4)) hx hb ht inlX2 hown hK hP 0 rfl rfl 4 (Nat.le_of_ble_eq_true rfl) (ht _ mw_3_3) (fun _ h9 => h9) rfl dX2_copyFrom_65 ?_
  refine lv_iconst (v := 0) hx hb dX2_copyFrom_68 (by decide) ?_
  refine lv_bipush (v := 8) hx hb dX2_copyFrom_69 (by decide) ?_
  obtain ⟨f_71, ef_71⟩ : ∃ z : tF, z = (va_cpy (A1 4) (A 4) 0 0 8) := ⟨_, rfl⟩
  replace h := h f_71 ef_71
  refine g_copyi (f := (A1 4)) (g := (A 4)) (k0 := 0) (k1 := 0) (kn := 8) hx hb (hml.trans hl.1.symm) hown (ht _ mw_7_7) (ht _ mw_7_8) (ht _ mw_7_9) (ht _ mw_7_10) hK hP hD hS 14 5 rfl rfl rfl (by decide) (by decide) (by decide) (by decide) (by decide) (by decide) (by decide) (by decide) ef_71 (Nat.le_of_ble_eq_true rfl) (Nat.le_of_ble_eq_true rfl) dX2_copyFrom_71 (fun H locs hP hD hS => ?_)
  have hP : va_P D vwCl (wX2 cI cZ o q F (va_up (va_up (va_up (va_up (va_up A 0 f_11) 1 f_26) 2 f_41) 3 f_56) 4 f_71) ++ wX2 cI cZ o1 q1 F1 A1 : va_W) H := hP
  have hD : va_D A9 (wX2 cI cZ o q F (va_up (va_up (va_up (va_up (va_up A 0 f_11) 1 f_26) 2 f_41) 3 f_56) 4 f_71) ++ wX2 cI cZ o1 q1 F1 A1 : va_W) := hD
  refine lv_aload_n hx hb dX2_copyFrom_74 rfl (lv_at hl 1 rfl) ?_
  refine va_get (C := RX2) (T := TX2) (N := 13) (own := RX2) (v := .ref (q1 5)) hx hb ht inlX2 hown hK hP 9 rfl rfl 5 (Nat.le_of_ble_eq_true rfl) (ht _ mw_3_4) (fun _ h9 => h9) rfl dX2_copyFrom_75 ?_
  refine lv_iconst (v := 0) hx hb dX2_copyFrom_78 (by decide) ?_
  refine lv_aload_n hx hb dX2_copyFrom_79 rfl (lv_at hl 0 rfl) ?_
  refine va_get (C := RX2) (T := TX2) (N := 13) (own := RX2) (v := .ref (q 5)) hx hb ht inlX2 hown hK hP 0 rfl rfl 5 (Nat.le_of_ble_eq_true rfl) (ht _ mw_3_4) (fun _ h9 => h9) rfl dX2_copyFrom_80 ?_
  refine lv_iconst (v := 0) hx hb dX2_copyFrom_83 (by decide) ?_
  refine lv_bipush (v := 8) hx hb dX2_copyFrom_84 (by decide) ?_
  obtain ⟨f_86, ef_86⟩ : ∃ z : tF, z = (va_cpy (A1 5) (A 5) 0 0 8) := ⟨_, rfl⟩
  replace h := h f_86 ef_86
  refine g_copyi (f := (A1 5)) (g := (A 5)) (k0 := 0) (k1 := 0) (kn := 8) hx hb (hml.trans hl.1.symm) hown (ht _ mw_7_7) (ht _ mw_7_8) (ht _ mw_7_9) (ht _ mw_7_10) hK hP hD hS 15 6 rfl rfl rfl (by decide) (by decide) (by decide) (by decide) (by decide) (by decide) (by decide) (by decide) ef_86 (Nat.le_of_ble_eq_true rfl) (Nat.le_of_ble_eq_true rfl) dX2_copyFrom_86 (fun H locs hP hD hS => ?_)
  have hP : va_P D vwCl (wX2 cI cZ o q F (va_up (va_up (va_up (va_up (va_up (va_up A 0 f_11) 1 f_26) 2 f_41) 3 f_56) 4 f_71) 5 f_86) ++ wX2 cI cZ o1 q1 F1 A1 : va_W) H := hP
  have hD : va_D A9 (wX2 cI cZ o q F (va_up (va_up (va_up (va_up (va_up (va_up A 0 f_11) 1 f_26) 2 f_41) 3 f_56) 4 f_71) 5 f_86) ++ wX2 cI cZ o1 q1 F1 A1 : va_W) := hD
  refine lv_aload_n hx hb dX2_copyFrom_89 rfl (lv_at hl 1 rfl) ?_
  refine va_get (C := RX2) (T := TX2) (N := 13) (own := RX2) (v := .ref (q1 6)) hx hb ht inlX2 hown hK hP 9 rfl rfl 6 (Nat.le_of_ble_eq_true rfl) (ht _ mw_3_5) (fun _ h9 => h9) rfl dX2_copyFrom_90 ?_
  refine lv_iconst (v := 0) hx hb dX2_copyFrom_93 (by decide) ?_
  refine lv_aload_n hx hb dX2_copyFrom_94 rfl (lv_at hl 0 rfl) ?_
  refine va_get (C := RX2) (T := TX2) (N := 13) (own := RX2) (v := .ref (q 6)) hx hb ht inlX2 hown hK hP 0 rfl rfl 6 (Nat.le_of_ble_eq_true rfl) (ht _ mw_3_5) (fun _ h9 => h9) rfl dX2_copyFrom_95 ?_
  refine lv_iconst (v := 0) hx hb dX2_copyFrom_98 (by decide) ?_
  refine lv_bipush (v := 8) hx hb dX2_copyFrom_99 (by decide) ?_
  obtain ⟨f_101, ef_101⟩ : ∃ z : tF, z = (va_cpy (A1 6) (A 6) 0 0 8) := ⟨_, rfl⟩
  replace h := h f_101 ef_101
  refine g_copyi (f := (A1 6)) (g := (A 6)) (k0 := 0) (k1 := 0) (kn := 8) hx hb (hml.trans hl.1.symm) hown (ht _ mw_7_7) (ht _ mw_7_8) (ht _ mw_7_9) (ht _ mw_7_10) hK hP hD hS 16 7 rfl rfl rfl (by decide) (by decide) (by decide) (by decide) (by decide) (by decide) (by decide) (by decide) ef_101 (Nat.le_of_ble_eq_true rfl) (Nat.le_of_ble_eq_true rfl) dX2_copyFrom_101 (fun H locs hP hD hS => ?_)
  have hP : va_P D vwCl (wX2 cI cZ o q F (va_up (va_up (va_up (va_up (va_up (va_up (va_up A 0 f_11) 1 f_26) 2 f_41) 3 f_56) 4 f_71) 5 f_86) 6 f_101) ++ wX2 cI cZ o1 q1 F1 A1 : va_W) H := hP
  have hD : va_D A9 (wX2 cI cZ o q F (va_up (va_up (va_up (va_up (va_up (va_up (va_up A 0 f_11) 1 f_26) 2 f_41) 3 f_56) 4 f_71) 5 f_86) 6 f_101) ++ wX2 cI cZ o1 q1 F1 A1 : va_W) := hD
  refine lv_aload_n hx hb dX2_copyFrom_104 rfl (lv_at hl 0 rfl) ?_
  refine lv_aload_n hx hb dX2_copyFrom_105 rfl (lv_at hl 1 rfl) ?_
  refine va_get (C := RX2) (T := TX2) (N := 13) (own := RX2) (v := .int (F1 8)) hx hb ht inlX2 hown hK hP 9 rfl rfl 8 (Nat.le_of_ble_eq_true rfl) (ht _ mw_3_7) (fun _ h9 => h9) rfl dX2_copyFrom_106 ?_
  refine lv_topi (fun y109 ey109 => ?_)
  replace h := h y109 ey109
  refine va_put (C := RX2) (T := TX2) (N := 13) (own := RX2) (v := .int y109) hx hb ht inlX2 tyX2 tyX2_ok nmX2 hown hK hP hD hS 0 rfl rfl 8 (Nat.le_of_ble_eq_true rfl) (ht _ mw_3_7) (fun _ h9 => h9) rfl (tyX2_ok 8 (Nat.le_of_ble_eq_true rfl)) rfl rfl (Nat.le_of_ble_eq_true rfl) dX2_copyFrom_109 (fun H locs hP hD hS => ?_)
  have hP : va_P D vwCl (wX2 cI cZ o q (upd F 8 y109) (va_up (va_up (va_up (va_up (va_up (va_up (va_up A 0 f_11) 1 f_26) 2 f_41) 3 f_56) 4 f_71) 5 f_86) 6 f_101) ++ wX2 cI cZ o1 q1 F1 A1 : va_W) H := hP
  have hD : va_D A9 (wX2 cI cZ o q (upd F 8 y109) (va_up (va_up (va_up (va_up (va_up (va_up (va_up A 0 f_11) 1 f_26) 2 f_41) 3 f_56) 4 f_71) 5 f_86) 6 f_101) ++ wX2 cI cZ o1 q1 F1 A1 : va_W) := hD
  refine lv_aload_n hx hb dX2_copyFrom_112 rfl (lv_at hl 0 rfl) ?_
  refine lv_aload_n hx hb dX2_copyFrom_113 rfl (lv_at hl 1 rfl) ?_
  refine va_get (C := RX2) (T := TX2) (N := 13) (own := RX2) (v := .int (F1 9)) hx hb ht inlX2 hown hK hP 9 rfl rfl 9 (Nat.le_of_ble_eq_true rfl) (ht _ mw_3_8) (fun _ h9 => h9) rfl dX2_copyFrom_114 ?_
  refine lv_topi (fun y117 ey117 => ?_)
  replace h := h y117 ey117
  refine va_put (C := RX2) (T := TX2) (N := 13) (own := RX2) (v := .int y117) hx hb ht inlX2 tyX2 tyX2_ok nmX2 hown hK hP hD hS 0 rfl rfl 9 (Nat.le_of_ble_eq_true rfl) (ht _ mw_3_8) (fun _ h9 => h9) rfl (tyX2_ok 9 (Nat.le_of_ble_eq_true rfl)) rfl rfl (Nat.le_of_ble_eq_true rfl) dX2_copyFrom_117 (fun H locs hP hD hS => ?_)
  have hP : va_P D vwCl (wX2 cI cZ o q (upd (upd F 8 y109) 9 y117) (va_up (va_up (va_up (va_up (va_up (va_up (va_up A 0 f_11) 1 f_26) 2 f_41) 3 f_56) 4 f_71) 5 f_86) 6 f_101) ++ wX2 cI cZ o1 q1 F1 A1 : va_W) H := hP
  have hD : va_D A9 (wX2 cI cZ o q (upd (upd F 8 y109) 9 y117) (va_up (va_up (va_up (va_up (va_up (va_up (va_up A 0 f_11) 1 f_26) 2 f_41) 3 f_56) 4 f_71) 5 f_86) 6 f_101) ++ wX2 cI cZ o1 q1 F1 A1 : va_W) := hD
  refine lv_aload_n hx hb dX2_copyFrom_120 rfl (lv_at hl 0 rfl) ?_
  refine lv_aload_n hx hb dX2_copyFrom_121 rfl (lv_at hl 1 rfl) ?_
  refine va_get (C := RX2) (T := TX2) (N := 13) (own := RX2) (v := .int (F1 10)) hx hb ht inlX2 hown hK hP 9 rfl rfl 10 (Nat.le_of_ble_eq_true rfl) (ht _ mw_3_9) (fun _ h9 => h9) rfl dX2_copyFrom_122 ?_
  refine lv_topi (fun y125 ey125 => ?_)
  replace h := h y125 ey125
  refine va_put (C := RX2) (T := TX2) (N := 13) (own := RX2) (v := .int y125) hx hb ht inlX2 tyX2 tyX2_ok nmX2 hown hK hP hD hS 0 rfl rfl 10 (Nat.le_of_ble_eq_true rfl) (ht _ mw_3_9) (fun _ h9 => h9) rfl (tyX2_ok 10 (Nat.le_of_ble_eq_true rfl)) rfl rfl (Nat.le_of_ble_eq_true rfl) dX2_copyFrom_125 (fun H locs hP hD hS => ?_)
  have hP : va_P D vwCl (wX2 cI cZ o q (upd (upd (upd F 8 y109) 9 y117) 10 y125) (va_up (va_up (va_up (va_up (va_up (va_up (va_up A 0 f_11) 1 f_26) 2 f_41) 3 f_56) 4 f_71) 5 f_86) 6 f_101) ++ wX2 cI cZ o1 q1 F1 A1 : va_W) H := hP
  have hD : va_D A9 (wX2 cI cZ o q (upd (upd (upd F 8 y109) 9 y117) 10 y125) (va_up (va_up (va_up (va_up (va_up (va_up (va_up A 0 f_11) 1 f_26) 2 f_41) 3 f_56) 4 f_71) 5 f_86) 6 f_101) ++ wX2 cI cZ o1 q1 F1 A1 : va_W) := hD
  refine lv_aload_n hx hb dX2_copyFrom_128 rfl (lv_at hl 0 rfl) ?_
  refine lv_aload_n hx hb dX2_copyFrom_129 rfl (lv_at hl 1 rfl) ?_
  refine va_get (C := RX2) (T := TX2) (N := 13) (own := RX2) (v := .int (F1 11)) hx hb ht inlX2 hown hK hP 9 rfl rfl 11 (Nat.le_of_ble_eq_true rfl) (ht _ mw_3_10) (fun _ h9 => h9) rfl dX2_copyFrom_130 ?_
  refine lv_topi (fun y133 ey133 => ?_)
  replace h := h y133 ey133
  refine va_put (C := RX2) (T := TX2) (N := 13) (own := RX2) (v := .int y133) hx hb ht inlX2 tyX2 tyX2_ok nmX2 hown hK hP hD hS 0 rfl rfl 11 (Nat.le_of_ble_eq_true rfl) (ht _ mw_3_10) (fun _ h9 => h9) rfl (tyX2_ok 11 (Nat.le_of_ble_eq_true rfl)) rfl rfl (Nat.le_of_ble_eq_true rfl) dX2_copyFrom_133 (fun H locs hP hD hS => ?_)
  have hP : va_P D vwCl (wX2 cI cZ o q (upd (upd (upd (upd F 8 y109) 9 y117) 10 y125) 11 y133) (va_up (va_up (va_up (va_up (va_up (va_up (va_up A 0 f_11) 1 f_26) 2 f_41) 3 f_56) 4 f_71) 5 f_86) 6 f_101) ++ wX2 cI cZ o1 q1 F1 A1 : va_W) H := hP
  have hD : va_D A9 (wX2 cI cZ o q (upd (upd (upd (upd F 8 y109) 9 y117) 10 y125) 11 y133) (va_up (va_up (va_up (va_up (va_up (va_up (va_up A 0 f_11) 1 f_26) 2 f_41) 3 f_56) 4 f_71) 5 f_86) 6 f_101) ++ wX2 cI cZ o1 q1 F1 A1 : va_W) := hD
  refine lv_aload_n hx hb dX2_copyFrom_136 rfl (lv_at hl 0 rfl) ?_
  refine lv_aload_n hx hb dX2_copyFrom_137 rfl (lv_at hl 1 rfl) ?_
  refine va_get (C := RX2) (T := TX2) (N := 13) (own := RX2) (v := .int (F1 12)) hx hb ht inlX2 hown hK hP 9 rfl rfl 12 (Nat.le_of_ble_eq_true rfl) (ht _ mw_3_11) (fun _ h9 => h9) rfl dX2_copyFrom_138 ?_
  refine lv_topi (fun y141 ey141 => ?_)
  replace h := h y141 ey141
  refine va_put (C := RX2) (T := TX2) (N := 13) (own := RX2) (v := .int y141) hx hb ht inlX2 tyX2 tyX2_ok nmX2 hown hK hP hD hS 0 rfl rfl 12 (Nat.le_of_ble_eq_true rfl) (ht _ mw_3_11) (fun _ h9 => h9) rfl (tyX2_ok 12 (Nat.le_of_ble_eq_true rfl)) rfl rfl (Nat.le_of_ble_eq_true rfl) dX2_copyFrom_141 (fun H locs hP hD hS => ?_)
  have hP : va_P D vwCl (wX2 cI cZ o q (upd (upd (upd (upd (upd F 8 y109) 9 y117) 10 y125) 11 y133) 12 y141) (va_up (va_up (va_up (va_up (va_up (va_up (va_up A 0 f_11) 1 f_26) 2 f_41) 3 f_56) 4 f_71) 5 f_86) 6 f_101) ++ wX2 cI cZ o1 q1 F1 A1 : va_W) H := hP
  have hD : va_D A9 (wX2 cI cZ o q (upd (upd (upd (upd (upd F 8 y109) 9 y117) 10 y125) 11 y133) 12 y141) (va_up (va_up (va_up (va_up (va_up (va_up (va_up A 0 f_11) 1 f_26) 2 f_41) 3 f_56) 4 f_71) 5 f_86) 6 f_101) ++ wX2 cI cZ o1 q1 F1 A1 : va_W) := hD
  exact ret ((upd (upd (upd (upd (upd F 8 y109) 9 y117) 10 y125) 11 y133) 12 y141), (va_up (va_up (va_up (va_up (va_up (va_up (va_up A 0 f_11) 1 f_26) 2 f_41) 3 f_56) 4 f_71) 5 f_86) 6 f_101)) _ _ _ _ dX2_copyFrom_144 h hP hD hS
theorem dX2_add_0 : decode cX2_add 0 = .ok (.aload_n 0, 1) := by decide +kernel
theorem dX2_add_1 : decode cX2_add 1 = .ok (.getfield 36, 3) := by decide +kernel
theorem dX2_add_4 : decode cX2_add 4 = .ok (.bipush 8, 2) := by decide +kernel
theorem dX2_add_6 : decode cX2_add 6 = .ok (.if_icmp .lt 4, 3) := by decide +kernel
theorem dX2_add_9 : decode cX2_add 9 = .ok (.return_, 1) := by decide +kernel
theorem dX2_add_10 : decode cX2_add 10 = .ok (.aload_n 0, 1) := by decide +kernel
theorem dX2_add_11 : decode cX2_add 11 = .ok (.getfield 21, 3) := by decide +kernel
theorem dX2_add_14 : decode cX2_add 14 = .ok (.aload_n 0, 1) := by decide +kernel
theorem dX2_add_15 : decode cX2_add 15 = .ok (.getfield 36, 3) := by decide +kernel
theorem dX2_add_18 : decode cX2_add 18 = .ok (.iload_n 1, 1) := by decide +kernel
theorem dX2_add_19 : decode cX2_add 19 = .ok (.iastore, 1) := by decide +kernel
theorem dX2_add_20 : decode cX2_add 20 = .ok (.aload_n 0, 1) := by decide +kernel
theorem dX2_add_21 : decode cX2_add 21 = .ok (.getfield 24, 3) := by decide +kernel
theorem dX2_add_24 : decode cX2_add 24 = .ok (.aload_n 0, 1) := by decide +kernel
theorem dX2_add_25 : decode cX2_add 25 = .ok (.getfield 36, 3) := by decide +kernel
theorem dX2_add_28 : decode cX2_add 28 = .ok (.iload_n 2, 1) := by decide +kernel
theorem dX2_add_29 : decode cX2_add 29 = .ok (.iastore, 1) := by decide +kernel
theorem dX2_add_30 : decode cX2_add 30 = .ok (.aload_n 0, 1) := by decide +kernel
theorem dX2_add_31 : decode cX2_add 31 = .ok (.getfield 27, 3) := by decide +kernel
theorem dX2_add_34 : decode cX2_add 34 = .ok (.aload_n 0, 1) := by decide +kernel
theorem dX2_add_35 : decode cX2_add 35 = .ok (.getfield 36, 3) := by decide +kernel
theorem dX2_add_38 : decode cX2_add 38 = .ok (.iload_n 3, 1) := by decide +kernel
theorem dX2_add_39 : decode cX2_add 39 = .ok (.iastore, 1) := by decide +kernel
theorem dX2_add_40 : decode cX2_add 40 = .ok (.aload_n 0, 1) := by decide +kernel
theorem dX2_add_41 : decode cX2_add 41 = .ok (.getfield 30, 3) := by decide +kernel
theorem dX2_add_44 : decode cX2_add 44 = .ok (.aload_n 0, 1) := by decide +kernel
theorem dX2_add_45 : decode cX2_add 45 = .ok (.getfield 36, 3) := by decide +kernel
theorem dX2_add_48 : decode cX2_add 48 = .ok (.iload 4, 2) := by decide +kernel
theorem dX2_add_50 : decode cX2_add 50 = .ok (.iastore, 1) := by decide +kernel
theorem dX2_add_51 : decode cX2_add 51 = .ok (.aload_n 0, 1) := by decide +kernel
theorem dX2_add_52 : decode cX2_add 52 = .ok (.dup, 1) := by decide +kernel
theorem dX2_add_53 : decode cX2_add 53 = .ok (.getfield 36, 3) := by decide +kernel
theorem dX2_add_56 : decode cX2_add 56 = .ok (.iconst 1, 1) := by decide +kernel
theorem dX2_add_57 : decode cX2_add 57 = .ok (.iadd, 1) := by decide +kernel
theorem dX2_add_58 : decode cX2_add 58 = .ok (.putfield 36, 3) := by decide +kernel
theorem dX2_add_61 : decode cX2_add 61 = .ok (.return_, 1) := by decide +kernel
def p_X2_add (F : tF) (A : tA) (x1 : Int32) (x2 : Int32) (x3 : Int32) (x4 : Int32) (K : tF → tA → Prop) : Prop := (((F 8) < (8 : Int32) → (vp_in (F 8) 8 ∧ (∀ f_19 : tF, f_19 = (upd (A 3) ((F 8)).toNatClampNeg x1) → (vp_in (F 8) 8 ∧ (∀ f_29 : tF, f_29 = (upd (A 4) ((F 8)).toNatClampNeg x2) → (vp_in (F 8) 8 ∧ (∀ f_39 : tF, f_39 = (upd (A 5) ((F 8)).toNatClampNeg x3) → (vp_in (F 8) 8 ∧ (∀ f_50 : tF, f_50 = (upd (A 6) ((F 8)).toNatClampNeg x4) → (∀ y58 : Int32, y58 = ((F 8) + (1 : Int32)) → (K (upd F 8 y58) (va_up (va_up (va_up (va_up A 3 f_19) 4 f_29) 5 f_39) 6 f_50)))))))))))) ∧ (¬ (F 8) < (8 : Int32) → (K F A)))
set_option maxHeartbeats 4000000 in
set_option maxRecDepth 100000 in
theorem w_X2_add (l : Launch) (D : va_G) (cI cZ cR : ClassId) (adK adV : Nat → Nat) (sz : Nat) (o : Nat) (q : Nat → Nat) (F : tF) (A : tA) (x1 : Int32) (x2 : Int32) (x3 : Int32) (x4 : Int32) (K : tF → tA → Prop) (h : p_X2_add F A x1 x2 x3 x4 K) : MV l D cI cZ cR adK adV yX2_add cX2_add 5 none (rmN 0 0) [.ref o, .int x1, .int x2, .int x3, .int x4] (wX2 cI cZ o q F A : va_W) sz (fun (u : (tF × tA)) => K u.1 u.2) (fun (u : (tF × tA)) => (wX2 cI cZ o q u.1 u.2 : va_W)) := by
  refine M_v (by decide +kernel) (Nat.le_of_ble_eq_true rfl) ?_
  intro p e s m args below meth c Q A9 ls X ret hP hD hS hl
  obtain ⟨hx, hb, hml, ht, hown, hK, hA, hE⟩ := id X
  have hl : lv_has ls 5 [(0, .ref o), (1, .int x1), (2, .int x2), (3, .int x3), (4, .int x4)] := hl
  unfold p_X2_add at h
  refine lv_aload_n hx hb dX2_add_0 rfl (lv_at hl 0 rfl) ?_
  refine va_get (C := RX2) (T := TX2) (N := 13) (own := RX2) (v := .int (F 8)) hx hb ht inlX2 hown hK hP 0 rfl rfl 8 (Nat.le_of_ble_eq_true rfl) (ht _ mw_3_7) (fun _ h9 => h9) rfl dX2_add_1 ?_
  refine lv_bipush (v := 8) hx hb dX2_add_4 (by decide) ?_
  refine lv_icmp_lt (tgt := 10) hx hb dX2_add_6 (by decide) (fun c6 => ?_) (fun c6 => ?_)
  · replace h := h.1 c6
    refine lv_aload_n hx hb dX2_add_10 rfl (lv_at hl 0 rfl) ?_
    refine va_get (C := RX2) (T := TX2) (N := 13) (own := RX2) (v := .ref (q 3)) hx hb ht inlX2 hown hK hP 0 rfl rfl 3 (Nat.le_of_ble_eq_true rfl) (ht _ mw_3_2) (fun _ h9 => h9) rfl dX2_add_11 ?_
    refine lv_aload_n hx hb dX2_add_14 rfl (lv_at hl 0 rfl) ?_
    refine va_get (C := RX2) (T := TX2) (N := 13) (own := RX2) (v := .int (F 8)) hx hb ht inlX2 hown hK hP 0 rfl rfl 8 (Nat.le_of_ble_eq_true rfl) (ht _ mw_3_7) (fun _ h9 => h9) rfl dX2_add_15 ?_
    refine lv_iload_n hx hb dX2_add_18 rfl (lv_at hl 1 rfl) ?_
    obtain ⟨hi19, h⟩ := h
    obtain ⟨f_19, ef_19⟩ : ∃ z : tF, z = (upd (A 3) ((F 8)).toNatClampNeg x1) := ⟨_, rfl⟩
    replace h := h f_19 ef_19
    refine g_iast (f := (A 3)) (k := ((F 8)).toNatClampNeg) hx hb hK hP hD hS 4 0 rfl rfl hi19 rfl ef_19 dX2_add_19 (fun H locs hP hD hS => ?_)
    have hP : va_P D vwCl (wX2 cI cZ o q F (va_up A 3 f_19) : va_W) H := hP
    have hD : va_D A9 (wX2 cI cZ o q F (va_up A 3 f_19) : va_W) := hD
    refine lv_aload_n hx hb dX2_add_20 rfl (lv_at hl 0 rfl) ?_
    refine va_get (C := RX2) (T := TX2) (N := 13) (own := RX2) (v := .ref (q 4)) hx hb ht inlX2 hown hK hP 0 rfl rfl 4 (Nat.le_of_ble_eq_true rfl) (ht _ mw_3_3) (fun _ h9 => h9) rfl dX2_add_21 ?_
    refine lv_aload_n hx hb dX2_add_24 rfl (lv_at hl 0 rfl) ?_
    refine va_get (C := RX2) (T := TX2) (N := 13) (own := RX2) (v := .int (F 8)) hx hb ht inlX2 hown hK hP 0 rfl rfl 8 (Nat.le_of_ble_eq_true rfl) (ht _ mw_3_7) (fun _ h9 => h9) rfl dX2_add_25 ?_
    refine lv_iload_n hx hb dX2_add_28 rfl (lv_at hl 2 rfl) ?_
    obtain ⟨hi29, h⟩ := h
    obtain ⟨f_29, ef_29⟩ : ∃ z : tF, z = (upd (A 4) ((F 8)).toNatClampNeg x2) := ⟨_, rfl⟩
    replace h := h f_29 ef_29
    refine g_iast (f := (A 4)) (k := ((F 8)).toNatClampNeg) hx hb hK hP hD hS 5 0 rfl rfl hi29 rfl ef_29 dX2_add_29 (fun H locs hP hD hS => ?_)
    have hP : va_P D vwCl (wX2 cI cZ o q F (va_up (va_up A 3 f_19) 4 f_29) : va_W) H := hP
    have hD : va_D A9 (wX2 cI cZ o q F (va_up (va_up A 3 f_19) 4 f_29) : va_W) := hD
    refine lv_aload_n hx hb dX2_add_30 rfl (lv_at hl 0 rfl) ?_
    refine va_get (C := RX2) (T := TX2) (N := 13) (own := RX2) (v := .ref (q 5)) hx hb ht inlX2 hown hK hP 0 rfl rfl 5 (Nat.le_of_ble_eq_true rfl) (ht _ mw_3_4) (fun _ h9 => h9) rfl dX2_add_31 ?_
    refine lv_aload_n hx hb dX2_add_34 rfl (lv_at hl 0 rfl) ?_
    refine va_get (C := RX2) (T := TX2) (N := 13) (own := RX2) (v := .int (F 8)) hx hb ht inlX2 hown hK hP 0 rfl rfl 8 (Nat.le_of_ble_eq_true rfl) (ht _ mw_3_7) (fun _ h9 => h9) rfl dX2_add_35 ?_
    refine lv_iload_n hx hb dX2_add_38 rfl (lv_at hl 3 rfl) ?_
    obtain ⟨hi39, h⟩ := h
    obtain ⟨f_39, ef_39⟩ : ∃ z : tF, z = (upd (A 5) ((F 8)).toNatClampNeg x3) := ⟨_, rfl⟩
    replace h := h f_39 ef_39
    refine g_iast (f := (A 5)) (k := ((F 8)).toNatClampNeg) hx hb hK hP hD hS 6 0 rfl rfl hi39 rfl ef_39 dX2_add_39 (fun H locs hP hD hS => ?_)
    have hP : va_P D vwCl (wX2 cI cZ o q F (va_up (va_up (va_up A 3 f_19) 4 f_29) 5 f_39) : va_W) H := hP
    have hD : va_D A9 (wX2 cI cZ o q F (va_up (va_up (va_up A 3 f_19) 4 f_29) 5 f_39) : va_W) := hD
    refine lv_aload_n hx hb dX2_add_40 rfl (lv_at hl 0 rfl) ?_
    refine va_get (C := RX2) (T := TX2) (N := 13) (own := RX2) (v := .ref (q 6)) hx hb ht inlX2 hown hK hP 0 rfl rfl 6 (Nat.le_of_ble_eq_true rfl) (ht _ mw_3_5) (fun _ h9 => h9) rfl dX2_add_41 ?_
    refine lv_aload_n hx hb dX2_add_44 rfl (lv_at hl 0 rfl) ?_
    refine va_get (C := RX2) (T := TX2) (N := 13) (own := RX2) (v := .int (F 8)) hx hb ht inlX2 hown hK hP 0 rfl rfl 8 (Nat.le_of_ble_eq_true rfl) (ht _ mw_3_7) (fun _ h9 => h9) rfl dX2_add_45 ?_
    refine lv_iload hx hb dX2_add_48 (lv_at hl 4 rfl) ?_
    obtain ⟨hi50, h⟩ := h
    obtain ⟨f_50, ef_50⟩ : ∃ z : tF, z = (upd (A 6) ((F 8)).toNatClampNeg x4) := ⟨_, rfl⟩
    replace h := h f_50 ef_50
    refine g_iast (f := (A 6)) (k := ((F 8)).toNatClampNeg) hx hb hK hP hD hS 7 0 rfl rfl hi50 rfl ef_50 dX2_add_50 (fun H locs hP hD hS => ?_)
    have hP : va_P D vwCl (wX2 cI cZ o q F (va_up (va_up (va_up (va_up A 3 f_19) 4 f_29) 5 f_39) 6 f_50) : va_W) H := hP
    have hD : va_D A9 (wX2 cI cZ o q F (va_up (va_up (va_up (va_up A 3 f_19) 4 f_29) 5 f_39) 6 f_50) : va_W) := hD
    refine lv_aload_n hx hb dX2_add_51 rfl (lv_at hl 0 rfl) ?_
    refine lv_dup hx hb dX2_add_52 rfl ?_
    refine va_get (C := RX2) (T := TX2) (N := 13) (own := RX2) (v := .int (F 8)) hx hb ht inlX2 hown hK hP 0 rfl rfl 8 (Nat.le_of_ble_eq_true rfl) (ht _ mw_3_7) (fun _ h9 => h9) rfl dX2_add_53 ?_
    refine lv_iconst (v := 1) hx hb dX2_add_56 (by decide) ?_
    refine lv_iadd hx hb dX2_add_57 ?_
    refine lv_topi (fun y58 ey58 => ?_)
    replace h := h y58 ey58
    refine va_put (C := RX2) (T := TX2) (N := 13) (own := RX2) (v := .int y58) hx hb ht inlX2 tyX2 tyX2_ok nmX2 hown hK hP hD hS 0 rfl rfl 8 (Nat.le_of_ble_eq_true rfl) (ht _ mw_3_7) (fun _ h9 => h9) rfl (tyX2_ok 8 (Nat.le_of_ble_eq_true rfl)) rfl rfl (Nat.le_of_ble_eq_true rfl) dX2_add_58 (fun H locs hP hD hS => ?_)
    have hP : va_P D vwCl (wX2 cI cZ o q (upd F 8 y58) (va_up (va_up (va_up (va_up A 3 f_19) 4 f_29) 5 f_39) 6 f_50) : va_W) H := hP
    have hD : va_D A9 (wX2 cI cZ o q (upd F 8 y58) (va_up (va_up (va_up (va_up A 3 f_19) 4 f_29) 5 f_39) 6 f_50) : va_W) := hD
    exact ret ((upd F 8 y58), (va_up (va_up (va_up (va_up A 3 f_19) 4 f_29) 5 f_39) 6 f_50)) _ _ _ _ dX2_add_61 h hP hD hS
  · replace h := h.2 c6
    exact ret (F, A) _ _ _ _ dX2_add_9 h hP hD hS
theorem cal_X2_takeVotes : CalV yX2_takeVotes cX2_takeVotes 2 none 0 := ⟨mw_22_3, mw_1_15, mw_22_1, mw_22_2, ⟨by decide +kernel, by decide +kernel, by decide +kernel⟩⟩
theorem cal_X2_favouriteOfTally : CalV yX2_favouriteOfTally cX2_favouriteOfTally 4 (some .int) 0 := ⟨mw_24_7, mw_1_15, mw_24_5, mw_24_6, ⟨by decide +kernel, by decide +kernel, by decide +kernel⟩⟩
theorem cal_X6_heldToFigure : CalS yX6_heldToFigure cX6_heldToFigure 1 (some .int) 1 := ⟨mw_25_7, mw_1_2, mw_25_6, ⟨by decide +kernel, by decide +kernel, by decide +kernel⟩⟩
theorem cal_X2_tamenessOf : CalV yX2_tamenessOf cX2_tamenessOf 2 (some .int) 1 := ⟨mw_20_3, mw_1_15, mw_20_1, mw_20_2, ⟨by decide +kernel, by decide +kernel, by decide +kernel⟩⟩
theorem dX2_passDay_0 : decode cX2_passDay 0 = .ok (.aload_n 0, 1) := by decide +kernel
theorem dX2_passDay_1 : decode cX2_passDay 1 = .ok (.invokevirtual 84, 3) := by decide +kernel
theorem dX2_passDay_4 : decode cX2_passDay 4 = .ok (.aload_n 0, 1) := by decide +kernel
theorem dX2_passDay_5 : decode cX2_passDay 5 = .ok (.invokevirtual 87, 3) := by decide +kernel
theorem dX2_passDay_8 : decode cX2_passDay 8 = .ok (.istore_n 1, 1) := by decide +kernel
theorem dX2_passDay_9 : decode cX2_passDay 9 = .ok (.iload_n 1, 1) := by decide +kernel
theorem dX2_passDay_10 : decode cX2_passDay 10 = .ok (.aload_n 0, 1) := by decide +kernel
theorem dX2_passDay_11 : decode cX2_passDay 11 = .ok (.getfield 40, 3) := by decide +kernel
theorem dX2_passDay_14 : decode cX2_passDay 14 = .ok (.if_icmp .le 16, 3) := by decide +kernel
theorem dX2_passDay_17 : decode cX2_passDay 17 = .ok (.aload_n 0, 1) := by decide +kernel
theorem dX2_passDay_18 : decode cX2_passDay 18 = .ok (.dup, 1) := by decide +kernel
theorem dX2_passDay_19 : decode cX2_passDay 19 = .ok (.getfield 40, 3) := by decide +kernel
theorem dX2_passDay_22 : decode cX2_passDay 22 = .ok (.iconst 1, 1) := by decide +kernel
theorem dX2_passDay_23 : decode cX2_passDay 23 = .ok (.iadd, 1) := by decide +kernel
theorem dX2_passDay_24 : decode cX2_passDay 24 = .ok (.putfield 40, 3) := by decide +kernel
theorem dX2_passDay_27 : decode cX2_passDay 27 = .ok (.goto 21, 3) := by decide +kernel
theorem dX2_passDay_30 : decode cX2_passDay 30 = .ok (.iload_n 1, 1) := by decide +kernel
theorem dX2_passDay_31 : decode cX2_passDay 31 = .ok (.aload_n 0, 1) := by decide +kernel
theorem dX2_passDay_32 : decode cX2_passDay 32 = .ok (.getfield 40, 3) := by decide +kernel
theorem dX2_passDay_35 : decode cX2_passDay 35 = .ok (.if_icmp .ge 13, 3) := by decide +kernel
theorem dX2_passDay_38 : decode cX2_passDay 38 = .ok (.aload_n 0, 1) := by decide +kernel
theorem dX2_passDay_39 : decode cX2_passDay 39 = .ok (.dup, 1) := by decide +kernel
theorem dX2_passDay_40 : decode cX2_passDay 40 = .ok (.getfield 40, 3) := by decide +kernel
theorem dX2_passDay_43 : decode cX2_passDay 43 = .ok (.iconst 1, 1) := by decide +kernel
theorem dX2_passDay_44 : decode cX2_passDay 44 = .ok (.isub, 1) := by decide +kernel
theorem dX2_passDay_45 : decode cX2_passDay 45 = .ok (.putfield 40, 3) := by decide +kernel
theorem dX2_passDay_48 : decode cX2_passDay 48 = .ok (.iconst 0, 1) := by decide +kernel
theorem dX2_passDay_49 : decode cX2_passDay 49 = .ok (.istore_n 2, 1) := by decide +kernel
theorem dX2_passDay_50 : decode cX2_passDay 50 = .ok (.iload_n 2, 1) := by decide +kernel
theorem dX2_passDay_51 : decode cX2_passDay 51 = .ok (.bipush 6, 2) := by decide +kernel
theorem dX2_passDay_53 : decode cX2_passDay 53 = .ok (.if_icmp .ge 50, 3) := by decide +kernel
theorem dX2_passDay_56 : decode cX2_passDay 56 = .ok (.aload_n 0, 1) := by decide +kernel
theorem dX2_passDay_57 : decode cX2_passDay 57 = .ok (.getfield 15, 3) := by decide +kernel
theorem dX2_passDay_60 : decode cX2_passDay 60 = .ok (.iload_n 2, 1) := by decide +kernel
theorem dX2_passDay_61 : decode cX2_passDay 61 = .ok (.iload_n 2, 1) := by decide +kernel
theorem dX2_passDay_62 : decode cX2_passDay 62 = .ok (.aload_n 0, 1) := by decide +kernel
theorem dX2_passDay_63 : decode cX2_passDay 63 = .ok (.getfield 40, 3) := by decide +kernel
theorem dX2_passDay_66 : decode cX2_passDay 66 = .ok (.if_icmp .ne 19, 3) := by decide +kernel
theorem dX2_passDay_69 : decode cX2_passDay 69 = .ok (.aload_n 0, 1) := by decide +kernel
theorem dX2_passDay_70 : decode cX2_passDay 70 = .ok (.getfield 15, 3) := by decide +kernel
theorem dX2_passDay_73 : decode cX2_passDay 73 = .ok (.iload_n 2, 1) := by decide +kernel
theorem dX2_passDay_74 : decode cX2_passDay 74 = .ok (.iaload, 1) := by decide +kernel
theorem dX2_passDay_75 : decode cX2_passDay 75 = .ok (.aload_n 0, 1) := by decide +kernel
theorem dX2_passDay_76 : decode cX2_passDay 76 = .ok (.getfield 9, 3) := by decide +kernel
theorem dX2_passDay_79 : decode cX2_passDay 79 = .ok (.iconst 2, 1) := by decide +kernel
theorem dX2_passDay_80 : decode cX2_passDay 80 = .ok (.iaload, 1) := by decide +kernel
theorem dX2_passDay_81 : decode cX2_passDay 81 = .ok (.isub, 1) := by decide +kernel
theorem dX2_passDay_82 : decode cX2_passDay 82 = .ok (.goto 11, 3) := by decide +kernel
theorem dX2_passDay_85 : decode cX2_passDay 85 = .ok (.aload_n 0, 1) := by decide +kernel
theorem dX2_passDay_86 : decode cX2_passDay 86 = .ok (.getfield 15, 3) := by decide +kernel
theorem dX2_passDay_89 : decode cX2_passDay 89 = .ok (.iload_n 2, 1) := by decide +kernel
theorem dX2_passDay_90 : decode cX2_passDay 90 = .ok (.iaload, 1) := by decide +kernel
theorem dX2_passDay_91 : decode cX2_passDay 91 = .ok (.iconst 1, 1) := by decide +kernel
theorem dX2_passDay_92 : decode cX2_passDay 92 = .ok (.iadd, 1) := by decide +kernel
theorem dX2_passDay_93 : decode cX2_passDay 93 = .ok (.invokestatic 91, 3) := by decide +kernel
theorem dX2_passDay_96 : decode cX2_passDay 96 = .ok (.iastore, 1) := by decide +kernel
theorem dX2_passDay_97 : decode cX2_passDay 97 = .ok (.iinc 2 1, 3) := by decide +kernel
theorem dX2_passDay_100 : decode cX2_passDay 100 = .ok (.goto (-50), 3) := by decide +kernel
theorem dX2_passDay_103 : decode cX2_passDay 103 = .ok (.iconst 0, 1) := by decide +kernel
theorem dX2_passDay_104 : decode cX2_passDay 104 = .ok (.istore_n 2, 1) := by decide +kernel
theorem dX2_passDay_105 : decode cX2_passDay 105 = .ok (.iload_n 2, 1) := by decide +kernel
theorem dX2_passDay_106 : decode cX2_passDay 106 = .ok (.aload_n 0, 1) := by decide +kernel
theorem dX2_passDay_107 : decode cX2_passDay 107 = .ok (.getfield 36, 3) := by decide +kernel
theorem dX2_passDay_110 : decode cX2_passDay 110 = .ok (.if_icmp .ge 69, 3) := by decide +kernel
theorem dX2_passDay_113 : decode cX2_passDay 113 = .ok (.aload_n 0, 1) := by decide +kernel
theorem dX2_passDay_114 : decode cX2_passDay 114 = .ok (.getfield 18, 3) := by decide +kernel
theorem dX2_passDay_117 : decode cX2_passDay 117 = .ok (.aload_n 0, 1) := by decide +kernel
theorem dX2_passDay_118 : decode cX2_passDay 118 = .ok (.getfield 40, 3) := by decide +kernel
theorem dX2_passDay_121 : decode cX2_passDay 121 = .ok (.iaload, 1) := by decide +kernel
theorem dX2_passDay_122 : decode cX2_passDay 122 = .ok (.aload_n 0, 1) := by decide +kernel
theorem dX2_passDay_123 : decode cX2_passDay 123 = .ok (.getfield 27, 3) := by decide +kernel
theorem dX2_passDay_126 : decode cX2_passDay 126 = .ok (.iload_n 2, 1) := by decide +kernel
theorem dX2_passDay_127 : decode cX2_passDay 127 = .ok (.iaload, 1) := by decide +kernel
theorem dX2_passDay_128 : decode cX2_passDay 128 = .ok (.if_icmp .le 7, 3) := by decide +kernel
theorem dX2_passDay_131 : decode cX2_passDay 131 = .ok (.iconst 1, 1) := by decide +kernel
theorem dX2_passDay_132 : decode cX2_passDay 132 = .ok (.goto 4, 3) := by decide +kernel
theorem dX2_passDay_135 : decode cX2_passDay 135 = .ok (.iconst 0, 1) := by decide +kernel
theorem dX2_passDay_136 : decode cX2_passDay 136 = .ok (.istore_n 3, 1) := by decide +kernel
theorem dX2_passDay_137 : decode cX2_passDay 137 = .ok (.aload_n 0, 1) := by decide +kernel
theorem dX2_passDay_138 : decode cX2_passDay 138 = .ok (.getfield 27, 3) := by decide +kernel
theorem dX2_passDay_141 : decode cX2_passDay 141 = .ok (.iload_n 2, 1) := by decide +kernel
theorem dX2_passDay_142 : decode cX2_passDay 142 = .ok (.iload_n 3, 1) := by decide +kernel
theorem dX2_passDay_143 : decode cX2_passDay 143 = .ok (.ifCond .eq 14, 3) := by decide +kernel
theorem dX2_passDay_146 : decode cX2_passDay 146 = .ok (.aload_n 0, 1) := by decide +kernel
theorem dX2_passDay_147 : decode cX2_passDay 147 = .ok (.getfield 27, 3) := by decide +kernel
theorem dX2_passDay_150 : decode cX2_passDay 150 = .ok (.iload_n 2, 1) := by decide +kernel
theorem dX2_passDay_151 : decode cX2_passDay 151 = .ok (.iaload, 1) := by decide +kernel
theorem dX2_passDay_152 : decode cX2_passDay 152 = .ok (.iconst 1, 1) := by decide +kernel
theorem dX2_passDay_153 : decode cX2_passDay 153 = .ok (.iadd, 1) := by decide +kernel
theorem dX2_passDay_154 : decode cX2_passDay 154 = .ok (.goto 15, 3) := by decide +kernel
theorem dX2_passDay_157 : decode cX2_passDay 157 = .ok (.aload_n 0, 1) := by decide +kernel
theorem dX2_passDay_158 : decode cX2_passDay 158 = .ok (.getfield 27, 3) := by decide +kernel
theorem dX2_passDay_161 : decode cX2_passDay 161 = .ok (.iload_n 2, 1) := by decide +kernel
theorem dX2_passDay_162 : decode cX2_passDay 162 = .ok (.iaload, 1) := by decide +kernel
theorem dX2_passDay_163 : decode cX2_passDay 163 = .ok (.aload_n 0, 1) := by decide +kernel
theorem dX2_passDay_164 : decode cX2_passDay 164 = .ok (.iload_n 2, 1) := by decide +kernel
theorem dX2_passDay_165 : decode cX2_passDay 165 = .ok (.invokevirtual 94, 3) := by decide +kernel
theorem dX2_passDay_168 : decode cX2_passDay 168 = .ok (.isub, 1) := by decide +kernel
theorem dX2_passDay_169 : decode cX2_passDay 169 = .ok (.invokestatic 91, 3) := by decide +kernel
theorem dX2_passDay_172 : decode cX2_passDay 172 = .ok (.iastore, 1) := by decide +kernel
theorem dX2_passDay_173 : decode cX2_passDay 173 = .ok (.iinc 2 1, 3) := by decide +kernel
theorem dX2_passDay_176 : decode cX2_passDay 176 = .ok (.goto (-71), 3) := by decide +kernel
theorem dX2_passDay_179 : decode cX2_passDay 179 = .ok (.aload_n 0, 1) := by decide +kernel
theorem dX2_passDay_180 : decode cX2_passDay 180 = .ok (.dup, 1) := by decide +kernel
theorem dX2_passDay_181 : decode cX2_passDay 181 = .ok (.getfield 46, 3) := by decide +kernel
theorem dX2_passDay_184 : decode cX2_passDay 184 = .ok (.iconst 1, 1) := by decide +kernel
theorem dX2_passDay_185 : decode cX2_passDay 185 = .ok (.iadd, 1) := by decide +kernel
theorem dX2_passDay_186 : decode cX2_passDay 186 = .ok (.putfield 46, 3) := by decide +kernel
theorem dX2_passDay_189 : decode cX2_passDay 189 = .ok (.return_, 1) := by decide +kernel
def p_X2_passDay_J169 (F : tF) (A : tA) (B105 : (tF → tA → Int32 → Prop)) (K : tF → tA → Prop) (x2 : Int32) (s0 : Int32) (s1 : Int32) : Prop := (p_X6_heldToFigure s0 (fun r169 => (vp_in s1 8 ∧ (∀ f_172 : tF, f_172 = (upd (A 5) (s1).toNatClampNeg r169) → (∀ y173 : Int32, y173 = (x2 + (1 : Int32)) → (B105 F (va_up A 5 f_172) y173))))))
set_option maxHeartbeats 4000000 in
set_option maxRecDepth 100000 in
theorem b_X2_passDay_J169 {p : Program} {l : Launch} {e : Env} {s : State} {m : MethodId} {args : Array Value} {below : List Frame} {meth : Method} {c : Code} {Q : State → Prop} {D : va_G} {cI cZ cR : ClassId} {adK adV : Nat → Nat} {A9 : Nat → Prop} {o : Nat} {q : Nat → Nat} {K : tF → tA → Prop} {B105 : (tF → tA → Int32 → Prop)} (F : tF) (A : tA) (x2 : Int32) (s0 : Int32) (s1 : Int32) (X : CX p s m args c yX2_passDay.cls cX2_passDay 4 D cI cZ cR adK adV A9) (ret : RTv p l e (rmN 4 170) s m args below meth c Q cX2_passDay D A9 (fun (u : (tF × tA)) => K u.1 u.2) (fun (u : (tF × tA)) => (wX2 cI cZ o q u.1 u.2 : va_W))) (hB105 : ∀ (F : tF) (A : tA) (x2 : Int32) (H : Heap) (locs : List Loc) (ls : Array Slot), B105 F A x2 → va_P D vwCl (wX2 cI cZ o q F A : va_W) H → va_D A9 (wX2 cI cZ o q F A : va_W) → va_S A9 s.heap H locs → lv_has ls 4 [(0, .ref o), (2, .int x2)] → W p l e (rmN 4 170) s m args below meth c H locs 0 0 Q (F0 m 105 ls [])) (H : Heap) (locs : List Loc) (ls : Array Slot) (h : p_X2_passDay_J169 F A B105 K x2 s0 s1) (hP : va_P D vwCl (wX2 cI cZ o q F A : va_W) H) (hD : va_D A9 (wX2 cI cZ o q F A : va_W)) (hS : va_S A9 s.heap H locs) (hl : lv_has ls 4 [(0, .ref o), (2, .int x2)]) : W p l e (rmN 4 170) s m args below meth c H locs 0 0 Q (F0 m 169 ls [.int s0, .int s1, .ref (q 5)]) := by
  obtain ⟨hx, hb, hml, ht, hown, hK, hA, hE⟩ := id X
  unfold p_X2_passDay_J169 at h
  refine C_ni (wr := [0, 1, 2, 3, 4, 5, 6, 7, 8].filterMap (fun i => (wX2 cI cZ o q F A : va_W)[i]?)) X hP hD hS [.int s0] [.int s1, .ref (q 5)] (w_X6_heldToFigure l D cI cZ cR adK adV _ s0 _ h) cal_X6_heldToFigure hE.2.1 rfl [] [0, 1, 2, 3, 4, 5, 6, 7, 8] [0, 1, 2, 3, 4, 5, 6, 7, 8] (fun u => (wX2 cI cZ o q F A : va_W)) rfl rfl (fun _ => rfl) rfl ⟨rfl, rfl⟩ ⟨Nat.le_of_ble_eq_true rfl, Nat.le_of_ble_eq_true rfl⟩ hl.1 rfl (Nat.le_of_ble_eq_true rfl) ⟨Nat.zero_le _, Nat.zero_le _⟩ dX2_passDay_169 (fun r169 u H locs h hP hD hS => ?_)
  obtain ⟨hi172, h⟩ := h
  obtain ⟨f_172, ef_172⟩ : ∃ z : tF, z = (upd (A 5) (s1).toNatClampNeg r169) := ⟨_, rfl⟩
  replace h := h f_172 ef_172
  refine g_iast (f := (A 5)) (k := (s1).toNatClampNeg) hx hb hK hP hD hS 6 0 rfl rfl hi172 rfl ef_172 dX2_passDay_172 (fun H locs hP hD hS => ?_)
  have hP : va_P D vwCl (wX2 cI cZ o q F (va_up A 5 f_172) : va_W) H := hP
  have hD : va_D A9 (wX2 cI cZ o q F (va_up A 5 f_172) : va_W) := hD
  obtain ⟨y173, ey173⟩ : ∃ y : Int32, y = (x2 + (1 : Int32)) := ⟨_, rfl⟩
  replace h := h y173 ey173
  refine lv_iinc (v := y173) (lv' := [(2, .int y173), (0, .ref o)]) hx hb dX2_passDay_173 hl (k := 1) rfl (by rw [ey173]; rfl) (by decide) rfl (fun ls hl => ?_)
  refine lv_goto (tgt := 105) hx hb dX2_passDay_176 (by decide) ?_
  exact hB105 F (va_up A 5 f_172) y173 _ _ _ h hP hD hS (lv_sub hl [1, 0] rfl)
def p_X2_passDay_J136 (F : tF) (A : tA) (B105 : (tF → tA → Int32 → Prop)) (K : tF → tA → Prop) (x2 : Int32) (s0 : Int32) : Prop := ((s0 = 0 → (vp_in x2 8 ∧ (p_X2_tamenessOf F A x2 (fun r165 => (p_X2_passDay_J169 F A B105 K x2 (((A 5) (x2).toNatClampNeg) - r165) x2))))) ∧ (¬ s0 = 0 → (vp_in x2 8 ∧ (p_X2_passDay_J169 F A B105 K x2 (((A 5) (x2).toNatClampNeg) + (1 : Int32)) x2))))
set_option maxHeartbeats 4000000 in
set_option maxRecDepth 100000 in
theorem b_X2_passDay_J136 {p : Program} {l : Launch} {e : Env} {s : State} {m : MethodId} {args : Array Value} {below : List Frame} {meth : Method} {c : Code} {Q : State → Prop} {D : va_G} {cI cZ cR : ClassId} {adK adV : Nat → Nat} {A9 : Nat → Prop} {o : Nat} {q : Nat → Nat} {K : tF → tA → Prop} {B105 : (tF → tA → Int32 → Prop)} (F : tF) (A : tA) (x2 : Int32) (s0 : Int32) (X : CX p s m args c yX2_passDay.cls cX2_passDay 4 D cI cZ cR adK adV A9) (ret : RTv p l e (rmN 4 170) s m args below meth c Q cX2_passDay D A9 (fun (u : (tF × tA)) => K u.1 u.2) (fun (u : (tF × tA)) => (wX2 cI cZ o q u.1 u.2 : va_W))) (hB105 : ∀ (F : tF) (A : tA) (x2 : Int32) (H : Heap) (locs : List Loc) (ls : Array Slot), B105 F A x2 → va_P D vwCl (wX2 cI cZ o q F A : va_W) H → va_D A9 (wX2 cI cZ o q F A : va_W) → va_S A9 s.heap H locs → lv_has ls 4 [(0, .ref o), (2, .int x2)] → W p l e (rmN 4 170) s m args below meth c H locs 0 0 Q (F0 m 105 ls [])) (H : Heap) (locs : List Loc) (ls : Array Slot) (h : p_X2_passDay_J136 F A B105 K x2 s0) (hP : va_P D vwCl (wX2 cI cZ o q F A : va_W) H) (hD : va_D A9 (wX2 cI cZ o q F A : va_W)) (hS : va_S A9 s.heap H locs) (hl : lv_has ls 4 [(0, .ref o), (2, .int x2)]) : W p l e (rmN 4 170) s m args below meth c H locs 0 0 Q (F0 m 136 ls [.int s0]) := by
  obtain ⟨hx, hb, hml, ht, hown, hK, hA, hE⟩ := id X
  unfold p_X2_passDay_J136 at h
  refine lv_istore_n (lv' := [(3, .int s0), (0, .ref o), (2, .int x2)]) hx hb dX2_passDay_136 rfl hl (by decide) rfl (fun ls hl => ?_)
  refine lv_aload_n hx hb dX2_passDay_137 rfl (lv_at hl 1 rfl) ?_
  refine va_get (C := RX2) (T := TX2) (N := 13) (own := RX2) (v := .ref (q 5)) hx hb ht inlX2 hown hK hP 0 rfl rfl 5 (Nat.le_of_ble_eq_true rfl) (ht _ mw_3_4) (fun _ h9 => h9) rfl dX2_passDay_138 ?_
  refine lv_iload_n hx hb dX2_passDay_141 rfl (lv_at hl 2 rfl) ?_
  refine lv_iload_n hx hb dX2_passDay_142 rfl (lv_at hl 0 rfl) ?_
  refine lv_if_eq (tgt := 157) hx hb dX2_passDay_143 (by decide) (fun c143 => ?_) (fun c143 => ?_)
  · replace h := h.1 c143
    refine lv_aload_n hx hb dX2_passDay_157 rfl (lv_at hl 1 rfl) ?_
    refine va_get (C := RX2) (T := TX2) (N := 13) (own := RX2) (v := .ref (q 5)) hx hb ht inlX2 hown hK hP 0 rfl rfl 5 (Nat.le_of_ble_eq_true rfl) (ht _ mw_3_4) (fun _ h9 => h9) rfl dX2_passDay_158 ?_
    refine lv_iload_n hx hb dX2_passDay_161 rfl (lv_at hl 2 rfl) ?_
    obtain ⟨hi162, h⟩ := h
    refine g_iald (f := (A 5)) (k := (x2).toNatClampNeg) hx hb hK hP 6 0 rfl rfl hi162 rfl dX2_passDay_162 ?_
    refine lv_aload_n hx hb dX2_passDay_163 rfl (lv_at hl 1 rfl) ?_
    refine lv_iload_n hx hb dX2_passDay_164 rfl (lv_at hl 2 rfl) ?_
    refine C_vi (wr := []) X hP hD hS [.int x2] [.int ((A 5) (x2).toNatClampNeg), .int x2, .ref (q 5)] (w_X2_tamenessOf l D cI cZ cR adK adV _ o q F A x2 _ h) cal_X2_tamenessOf mw_25_14 rfl [0, 1, 2, 3, 4, 5, 6, 7, 8] [] [0, 1, 2, 3, 4, 5, 6, 7, 8] (fun u => (wX2 cI cZ o q F A : va_W)) rfl rfl (fun _ => rfl) rfl 0 rfl rfl ⟨rfl, rfl⟩ ⟨Nat.le_of_ble_eq_true rfl, Nat.le_of_ble_eq_true rfl⟩ hl.1 rfl (Nat.le_of_ble_eq_true rfl) ⟨Nat.zero_le _, Nat.zero_le _⟩ dX2_passDay_165 (fun r165 u H locs h hP hD hS => ?_)
    refine lv_isub hx hb dX2_passDay_168 ?_
    exact b_X2_passDay_J169 F A x2 (((A 5) (x2).toNatClampNeg) - r165) x2 X ret hB105 _ _ _ h hP hD hS (lv_sub hl [1, 2] rfl)
  · replace h := h.2 c143
    refine lv_aload_n hx hb dX2_passDay_146 rfl (lv_at hl 1 rfl) ?_
    refine va_get (C := RX2) (T := TX2) (N := 13) (own := RX2) (v := .ref (q 5)) hx hb ht inlX2 hown hK hP 0 rfl rfl 5 (Nat.le_of_ble_eq_true rfl) (ht _ mw_3_4) (fun _ h9 => h9) rfl dX2_passDay_147 ?_
    refine lv_iload_n hx hb dX2_passDay_150 rfl (lv_at hl 2 rfl) ?_
    obtain ⟨hi151, h⟩ := h
    refine g_iald (f := (A 5)) (k := (x2).toNatClampNeg) hx hb hK hP 6 0 rfl rfl hi151 rfl dX2_passDay_151 ?_
    refine lv_iconst (v := 1) hx hb dX2_passDay_152 (by decide) ?_
    refine lv_iadd hx hb dX2_passDay_153 ?_
    refine lv_goto (tgt := 169) hx hb dX2_passDay_154 (by decide) ?_
    exact b_X2_passDay_J169 F A x2 (((A 5) (x2).toNatClampNeg) + (1 : Int32)) x2 X ret hB105 _ _ _ h hP hD hS (lv_sub hl [1, 2] rfl)
def p_X2_passDay_L105 (K : tF → tA → Prop) : Nat → tF → tA → Int32 → Prop
  | 0, _, _, _ => False
  | n105 + 1, F, A, x2 => (((F 8) ≤ x2 → (∀ y186 : Int32, y186 = ((F 11) + (1 : Int32)) → (K (upd F 11 y186) A))) ∧ (¬ (F 8) ≤ x2 → (vp_in (F 9) 6 ∧ (vp_in x2 8 ∧ ((((A 2) ((F 9)).toNatClampNeg) ≤ ((A 5) (x2).toNatClampNeg) → (p_X2_passDay_J136 F A (p_X2_passDay_L105 K n105) K x2 (0 : Int32))) ∧ (¬ ((A 2) ((F 9)).toNatClampNeg) ≤ ((A 5) (x2).toNatClampNeg) → (p_X2_passDay_J136 F A (p_X2_passDay_L105 K n105) K x2 (1 : Int32))))))))
set_option maxHeartbeats 4000000 in
set_option maxRecDepth 100000 in
theorem b_X2_passDay_L105 {p : Program} {l : Launch} {e : Env} {s : State} {m : MethodId} {args : Array Value} {below : List Frame} {meth : Method} {c : Code} {Q : State → Prop} {D : va_G} {cI cZ cR : ClassId} {adK adV : Nat → Nat} {A9 : Nat → Prop} {o : Nat} {q : Nat → Nat} {K : tF → tA → Prop}   (X : CX p s m args c yX2_passDay.cls cX2_passDay 4 D cI cZ cR adK adV A9) (ret : RTv p l e (rmN 4 170) s m args below meth c Q cX2_passDay D A9 (fun (u : (tF × tA)) => K u.1 u.2) (fun (u : (tF × tA)) => (wX2 cI cZ o q u.1 u.2 : va_W)))   : ∀ (n : Nat) (F : tF) (A : tA) (x2 : Int32) (H : Heap) (locs : List Loc) (ls : Array Slot), p_X2_passDay_L105 K n F A x2 → va_P D vwCl (wX2 cI cZ o q F A : va_W) H → va_D A9 (wX2 cI cZ o q F A : va_W) → va_S A9 s.heap H locs → lv_has ls 4 [(0, .ref o), (2, .int x2)] → W p l e (rmN 4 170) s m args below meth c H locs 0 0 Q (F0 m 105 ls []) := by
  obtain ⟨hx, hb, hml, ht, hown, hK, hA, hE⟩ := id X
  intro n
  induction n with
  | zero => intro F A x2 H locs ls h; exact False.elim h
  | succ n105 ih =>
    intro F A x2 H locs ls h hP hD hS hl
    rw [p_X2_passDay_L105] at h
    refine lv_iload_n hx hb dX2_passDay_105 rfl (lv_at hl 1 rfl) ?_
    refine lv_aload_n hx hb dX2_passDay_106 rfl (lv_at hl 0 rfl) ?_
    refine va_get (C := RX2) (T := TX2) (N := 13) (own := RX2) (v := .int (F 8)) hx hb ht inlX2 hown hK hP 0 rfl rfl 8 (Nat.le_of_ble_eq_true rfl) (ht _ mw_3_7) (fun _ h9 => h9) rfl dX2_passDay_107 ?_
    refine lv_icmp_ge (tgt := 179) hx hb dX2_passDay_110 (by decide) (fun c110 => ?_) (fun c110 => ?_)
    · replace h := h.1 c110
      refine lv_aload_n hx hb dX2_passDay_179 rfl (lv_at hl 0 rfl) ?_
      refine lv_dup hx hb dX2_passDay_180 rfl ?_
      refine va_get (C := RX2) (T := TX2) (N := 13) (own := RX2) (v := .int (F 11)) hx hb ht inlX2 hown hK hP 0 rfl rfl 11 (Nat.le_of_ble_eq_true rfl) (ht _ mw_3_10) (fun _ h9 => h9) rfl dX2_passDay_181 ?_
      refine lv_iconst (v := 1) hx hb dX2_passDay_184 (by decide) ?_
      refine lv_iadd hx hb dX2_passDay_185 ?_
      refine lv_topi (fun y186 ey186 => ?_)
      replace h := h y186 ey186
      refine va_put (C := RX2) (T := TX2) (N := 13) (own := RX2) (v := .int y186) hx hb ht inlX2 tyX2 tyX2_ok nmX2 hown hK hP hD hS 0 rfl rfl 11 (Nat.le_of_ble_eq_true rfl) (ht _ mw_3_10) (fun _ h9 => h9) rfl (tyX2_ok 11 (Nat.le_of_ble_eq_true rfl)) rfl rfl (Nat.le_of_ble_eq_true rfl) dX2_passDay_186 (fun H locs hP hD hS => ?_)
      have hP : va_P D vwCl (wX2 cI cZ o q (upd F 11 y186) A : va_W) H := hP
      have hD : va_D A9 (wX2 cI cZ o q (upd F 11 y186) A : va_W) := hD
      exact ret ((upd F 11 y186), A) _ _ _ _ dX2_passDay_189 h hP hD hS
    · replace h := h.2 c110
      refine lv_aload_n hx hb dX2_passDay_113 rfl (lv_at hl 0 rfl) ?_
      refine va_get (C := RX2) (T := TX2) (N := 13) (own := RX2) (v := .ref (q 2)) hx hb ht inlX2 hown hK hP 0 rfl rfl 2 (Nat.le_of_ble_eq_true rfl) (ht _ mw_3_1) (fun _ h9 => h9) rfl dX2_passDay_114 ?_
      refine lv_aload_n hx hb dX2_passDay_117 rfl (lv_at hl 0 rfl) ?_
      refine va_get (C := RX2) (T := TX2) (N := 13) (own := RX2) (v := .int (F 9)) hx hb ht inlX2 hown hK hP 0 rfl rfl 9 (Nat.le_of_ble_eq_true rfl) (ht _ mw_3_8) (fun _ h9 => h9) rfl dX2_passDay_118 ?_
      obtain ⟨hi121, h⟩ := h
      refine g_iald (f := (A 2)) (k := ((F 9)).toNatClampNeg) hx hb hK hP 3 0 rfl rfl hi121 rfl dX2_passDay_121 ?_
      refine lv_aload_n hx hb dX2_passDay_122 rfl (lv_at hl 0 rfl) ?_
      refine va_get (C := RX2) (T := TX2) (N := 13) (own := RX2) (v := .ref (q 5)) hx hb ht inlX2 hown hK hP 0 rfl rfl 5 (Nat.le_of_ble_eq_true rfl) (ht _ mw_3_4) (fun _ h9 => h9) rfl dX2_passDay_123 ?_
      refine lv_iload_n hx hb dX2_passDay_126 rfl (lv_at hl 1 rfl) ?_
      obtain ⟨hi127, h⟩ := h
      refine g_iald (f := (A 5)) (k := (x2).toNatClampNeg) hx hb hK hP 6 0 rfl rfl hi127 rfl dX2_passDay_127 ?_
      refine lv_icmp_le (tgt := 135) hx hb dX2_passDay_128 (by decide) (fun c128 => ?_) (fun c128 => ?_)
      · replace h := h.1 c128
        refine lv_iconst (v := 0) hx hb dX2_passDay_135 (by decide) ?_
        exact b_X2_passDay_J136 F A x2 (0 : Int32) X ret ih _ _ _ h hP hD hS (lv_sub hl [0, 1] rfl)
      · replace h := h.2 c128
        refine lv_iconst (v := 1) hx hb dX2_passDay_131 (by decide) ?_
        refine lv_goto (tgt := 136) hx hb dX2_passDay_132 (by decide) ?_
        exact b_X2_passDay_J136 F A x2 (1 : Int32) X ret ih _ _ _ h hP hD hS (lv_sub hl [0, 1] rfl)
def p_X2_passDay_J93 (F : tF) (A : tA) (B50 : (tF → tA → Int32 → Prop)) (K : tF → tA → Prop) (x2 : Int32) (s0 : Int32) (s1 : Int32) : Prop := (p_X6_heldToFigure s0 (fun r93 => (vp_in s1 6 ∧ (∀ f_96 : tF, f_96 = (upd (A 1) (s1).toNatClampNeg r93) → (∀ y97 : Int32, y97 = (x2 + (1 : Int32)) → (B50 F (va_up A 1 f_96) y97))))))
set_option maxHeartbeats 4000000 in
set_option maxRecDepth 100000 in
theorem b_X2_passDay_J93 {p : Program} {l : Launch} {e : Env} {s : State} {m : MethodId} {args : Array Value} {below : List Frame} {meth : Method} {c : Code} {Q : State → Prop} {D : va_G} {cI cZ cR : ClassId} {adK adV : Nat → Nat} {A9 : Nat → Prop} {o : Nat} {q : Nat → Nat} {K : tF → tA → Prop} {B50 : (tF → tA → Int32 → Prop)} (F : tF) (A : tA) (x2 : Int32) (s0 : Int32) (s1 : Int32) (X : CX p s m args c yX2_passDay.cls cX2_passDay 4 D cI cZ cR adK adV A9) (ret : RTv p l e (rmN 4 170) s m args below meth c Q cX2_passDay D A9 (fun (u : (tF × tA)) => K u.1 u.2) (fun (u : (tF × tA)) => (wX2 cI cZ o q u.1 u.2 : va_W))) (hB50 : ∀ (F : tF) (A : tA) (x2 : Int32) (H : Heap) (locs : List Loc) (ls : Array Slot), B50 F A x2 → va_P D vwCl (wX2 cI cZ o q F A : va_W) H → va_D A9 (wX2 cI cZ o q F A : va_W) → va_S A9 s.heap H locs → lv_has ls 4 [(0, .ref o), (2, .int x2)] → W p l e (rmN 4 170) s m args below meth c H locs 0 0 Q (F0 m 50 ls [])) (H : Heap) (locs : List Loc) (ls : Array Slot) (h : p_X2_passDay_J93 F A B50 K x2 s0 s1) (hP : va_P D vwCl (wX2 cI cZ o q F A : va_W) H) (hD : va_D A9 (wX2 cI cZ o q F A : va_W)) (hS : va_S A9 s.heap H locs) (hl : lv_has ls 4 [(0, .ref o), (2, .int x2)]) : W p l e (rmN 4 170) s m args below meth c H locs 0 0 Q (F0 m 93 ls [.int s0, .int s1, .ref (q 1)]) := by
  obtain ⟨hx, hb, hml, ht, hown, hK, hA, hE⟩ := id X
  unfold p_X2_passDay_J93 at h
  refine C_ni (wr := [0, 1, 2, 3, 4, 5, 6, 7, 8].filterMap (fun i => (wX2 cI cZ o q F A : va_W)[i]?)) X hP hD hS [.int s0] [.int s1, .ref (q 1)] (w_X6_heldToFigure l D cI cZ cR adK adV _ s0 _ h) cal_X6_heldToFigure hE.2.1 rfl [] [0, 1, 2, 3, 4, 5, 6, 7, 8] [0, 1, 2, 3, 4, 5, 6, 7, 8] (fun u => (wX2 cI cZ o q F A : va_W)) rfl rfl (fun _ => rfl) rfl ⟨rfl, rfl⟩ ⟨Nat.le_of_ble_eq_true rfl, Nat.le_of_ble_eq_true rfl⟩ hl.1 rfl (Nat.le_of_ble_eq_true rfl) ⟨Nat.zero_le _, Nat.zero_le _⟩ dX2_passDay_93 (fun r93 u H locs h hP hD hS => ?_)
  obtain ⟨hi96, h⟩ := h
  obtain ⟨f_96, ef_96⟩ : ∃ z : tF, z = (upd (A 1) (s1).toNatClampNeg r93) := ⟨_, rfl⟩
  replace h := h f_96 ef_96
  refine g_iast (f := (A 1)) (k := (s1).toNatClampNeg) hx hb hK hP hD hS 2 0 rfl rfl hi96 rfl ef_96 dX2_passDay_96 (fun H locs hP hD hS => ?_)
  have hP : va_P D vwCl (wX2 cI cZ o q F (va_up A 1 f_96) : va_W) H := hP
  have hD : va_D A9 (wX2 cI cZ o q F (va_up A 1 f_96) : va_W) := hD
  obtain ⟨y97, ey97⟩ : ∃ y : Int32, y = (x2 + (1 : Int32)) := ⟨_, rfl⟩
  replace h := h y97 ey97
  refine lv_iinc (v := y97) (lv' := [(2, .int y97), (0, .ref o)]) hx hb dX2_passDay_97 hl (k := 1) rfl (by rw [ey97]; rfl) (by decide) rfl (fun ls hl => ?_)
  refine lv_goto (tgt := 50) hx hb dX2_passDay_100 (by decide) ?_
  exact hB50 F (va_up A 1 f_96) y97 _ _ _ h hP hD hS (lv_sub hl [1, 0] rfl)
def p_X2_passDay_L50 (K : tF → tA → Prop) : Nat → tF → tA → Int32 → Prop
  | 0, _, _, _ => False
  | n50 + 1, F, A, x2 => (((6 : Int32) ≤ x2 → (∃ n105, p_X2_passDay_L105 K n105 F A (0 : Int32))) ∧ (¬ (6 : Int32) ≤ x2 → ((¬ x2 = (F 9) → (vp_in x2 6 ∧ (p_X2_passDay_J93 F A (p_X2_passDay_L50 K n50) K x2 (((A 1) (x2).toNatClampNeg) + (1 : Int32)) x2))) ∧ (x2 = (F 9) → (vp_in x2 6 ∧ (p_X2_passDay_J93 F A (p_X2_passDay_L50 K n50) K x2 (((A 1) (x2).toNatClampNeg) - ((A 0) 2)) x2))))))
set_option maxHeartbeats 4000000 in
set_option maxRecDepth 100000 in
theorem b_X2_passDay_L50 {p : Program} {l : Launch} {e : Env} {s : State} {m : MethodId} {args : Array Value} {below : List Frame} {meth : Method} {c : Code} {Q : State → Prop} {D : va_G} {cI cZ cR : ClassId} {adK adV : Nat → Nat} {A9 : Nat → Prop} {o : Nat} {q : Nat → Nat} {K : tF → tA → Prop}   (X : CX p s m args c yX2_passDay.cls cX2_passDay 4 D cI cZ cR adK adV A9) (ret : RTv p l e (rmN 4 170) s m args below meth c Q cX2_passDay D A9 (fun (u : (tF × tA)) => K u.1 u.2) (fun (u : (tF × tA)) => (wX2 cI cZ o q u.1 u.2 : va_W)))   : ∀ (n : Nat) (F : tF) (A : tA) (x2 : Int32) (H : Heap) (locs : List Loc) (ls : Array Slot), p_X2_passDay_L50 K n F A x2 → va_P D vwCl (wX2 cI cZ o q F A : va_W) H → va_D A9 (wX2 cI cZ o q F A : va_W) → va_S A9 s.heap H locs → lv_has ls 4 [(0, .ref o), (2, .int x2)] → W p l e (rmN 4 170) s m args below meth c H locs 0 0 Q (F0 m 50 ls []) := by
  obtain ⟨hx, hb, hml, ht, hown, hK, hA, hE⟩ := id X
  intro n
  induction n with
  | zero => intro F A x2 H locs ls h; exact False.elim h
  | succ n50 ih =>
    intro F A x2 H locs ls h hP hD hS hl
    rw [p_X2_passDay_L50] at h
    refine lv_iload_n hx hb dX2_passDay_50 rfl (lv_at hl 1 rfl) ?_
    refine lv_bipush (v := 6) hx hb dX2_passDay_51 (by decide) ?_
    refine lv_icmp_ge (tgt := 103) hx hb dX2_passDay_53 (by decide) (fun c53 => ?_) (fun c53 => ?_)
    · replace h := h.1 c53
      refine lv_iconst (v := 0) hx hb dX2_passDay_103 (by decide) ?_
      refine lv_istore_n (lv' := [(2, .int (0 : Int32)), (0, .ref o)]) hx hb dX2_passDay_104 rfl hl (by decide) rfl (fun ls hl => ?_)
      obtain ⟨n105, h⟩ := h
      exact b_X2_passDay_L105  X ret  n105 F A (0 : Int32) _ _ _ h hP hD hS (lv_sub hl [1, 0] rfl)
    · replace h := h.2 c53
      refine lv_aload_n hx hb dX2_passDay_56 rfl (lv_at hl 0 rfl) ?_
      refine va_get (C := RX2) (T := TX2) (N := 13) (own := RX2) (v := .ref (q 1)) hx hb ht inlX2 hown hK hP 0 rfl rfl 1 (Nat.le_of_ble_eq_true rfl) (ht _ mw_3_0) (fun _ h9 => h9) rfl dX2_passDay_57 ?_
      refine lv_iload_n hx hb dX2_passDay_60 rfl (lv_at hl 1 rfl) ?_
      refine lv_iload_n hx hb dX2_passDay_61 rfl (lv_at hl 1 rfl) ?_
      refine lv_aload_n hx hb dX2_passDay_62 rfl (lv_at hl 0 rfl) ?_
      refine va_get (C := RX2) (T := TX2) (N := 13) (own := RX2) (v := .int (F 9)) hx hb ht inlX2 hown hK hP 0 rfl rfl 9 (Nat.le_of_ble_eq_true rfl) (ht _ mw_3_8) (fun _ h9 => h9) rfl dX2_passDay_63 ?_
      refine lv_icmp_ne (tgt := 85) hx hb dX2_passDay_66 (by decide) (fun c66 => ?_) (fun c66 => ?_)
      · replace h := h.1 c66
        refine lv_aload_n hx hb dX2_passDay_85 rfl (lv_at hl 0 rfl) ?_
        refine va_get (C := RX2) (T := TX2) (N := 13) (own := RX2) (v := .ref (q 1)) hx hb ht inlX2 hown hK hP 0 rfl rfl 1 (Nat.le_of_ble_eq_true rfl) (ht _ mw_3_0) (fun _ h9 => h9) rfl dX2_passDay_86 ?_
        refine lv_iload_n hx hb dX2_passDay_89 rfl (lv_at hl 1 rfl) ?_
        obtain ⟨hi90, h⟩ := h
        refine g_iald (f := (A 1)) (k := (x2).toNatClampNeg) hx hb hK hP 2 0 rfl rfl hi90 rfl dX2_passDay_90 ?_
        refine lv_iconst (v := 1) hx hb dX2_passDay_91 (by decide) ?_
        refine lv_iadd hx hb dX2_passDay_92 ?_
        exact b_X2_passDay_J93 F A x2 (((A 1) (x2).toNatClampNeg) + (1 : Int32)) x2 X ret ih _ _ _ h hP hD hS (lv_sub hl [0, 1] rfl)
      · replace h := h.2 c66
        refine lv_aload_n hx hb dX2_passDay_69 rfl (lv_at hl 0 rfl) ?_
        refine va_get (C := RX2) (T := TX2) (N := 13) (own := RX2) (v := .ref (q 1)) hx hb ht inlX2 hown hK hP 0 rfl rfl 1 (Nat.le_of_ble_eq_true rfl) (ht _ mw_3_0) (fun _ h9 => h9) rfl dX2_passDay_70 ?_
        refine lv_iload_n hx hb dX2_passDay_73 rfl (lv_at hl 1 rfl) ?_
        obtain ⟨hi74, h⟩ := h
        refine g_iald (f := (A 1)) (k := (x2).toNatClampNeg) hx hb hK hP 2 0 rfl rfl hi74 rfl dX2_passDay_74 ?_
        refine lv_aload_n hx hb dX2_passDay_75 rfl (lv_at hl 0 rfl) ?_
        refine va_get (C := RX2) (T := TX2) (N := 13) (own := RX2) (v := .ref (q 0)) hx hb ht inlX2 hown hK hP 0 rfl rfl 0 (Nat.le_of_ble_eq_true rfl) (ht _ mw_2_23) (fun _ h9 => h9) rfl dX2_passDay_76 ?_
        refine lv_iconst (v := 2) hx hb dX2_passDay_79 (by decide) ?_
        refine g_iald (f := (A 0)) (k := 2) hx hb hK hP 1 0 rfl rfl (vp_in_lit rfl : vp_in (2 : Int32) 4) (by decide) dX2_passDay_80 ?_
        refine lv_isub hx hb dX2_passDay_81 ?_
        refine lv_goto (tgt := 93) hx hb dX2_passDay_82 (by decide) ?_
        exact b_X2_passDay_J93 F A x2 (((A 1) (x2).toNatClampNeg) - ((A 0) 2)) x2 X ret ih _ _ _ h hP hD hS (lv_sub hl [0, 1] rfl)
def p_X2_passDay_J48 (F : tF) (A : tA) (K : tF → tA → Prop)  : Prop := (∃ n50, p_X2_passDay_L50 K n50 F A (0 : Int32))
set_option maxHeartbeats 4000000 in
set_option maxRecDepth 100000 in
theorem b_X2_passDay_J48 {p : Program} {l : Launch} {e : Env} {s : State} {m : MethodId} {args : Array Value} {below : List Frame} {meth : Method} {c : Code} {Q : State → Prop} {D : va_G} {cI cZ cR : ClassId} {adK adV : Nat → Nat} {A9 : Nat → Prop} {o : Nat} {q : Nat → Nat} {K : tF → tA → Prop}  (F : tF) (A : tA) (X : CX p s m args c yX2_passDay.cls cX2_passDay 4 D cI cZ cR adK adV A9) (ret : RTv p l e (rmN 4 170) s m args below meth c Q cX2_passDay D A9 (fun (u : (tF × tA)) => K u.1 u.2) (fun (u : (tF × tA)) => (wX2 cI cZ o q u.1 u.2 : va_W)))  (H : Heap) (locs : List Loc) (ls : Array Slot) (h : p_X2_passDay_J48 F A K) (hP : va_P D vwCl (wX2 cI cZ o q F A : va_W) H) (hD : va_D A9 (wX2 cI cZ o q F A : va_W)) (hS : va_S A9 s.heap H locs) (hl : lv_has ls 4 [(0, .ref o)]) : W p l e (rmN 4 170) s m args below meth c H locs 0 0 Q (F0 m 48 ls []) := by
  obtain ⟨hx, hb, hml, ht, hown, hK, hA, hE⟩ := id X
  unfold p_X2_passDay_J48 at h
  refine lv_iconst (v := 0) hx hb dX2_passDay_48 (by decide) ?_
  refine lv_istore_n (lv' := [(2, .int (0 : Int32)), (0, .ref o)]) hx hb dX2_passDay_49 rfl hl (by decide) rfl (fun ls hl => ?_)
  obtain ⟨n50, h⟩ := h
  exact b_X2_passDay_L50  X ret  n50 F A (0 : Int32) _ _ _ h hP hD hS (lv_sub hl [1, 0] rfl)
def p_X2_passDay (F : tF) (A : tA) (K : tF → tA → Prop) : Prop := (p_X2_takeVotes F A (fun F_1 A_1 => (p_X2_favouriteOfTally F_1 A_1 (fun r5 => ((r5 ≤ (F_1 9) → (((F_1 9) ≤ r5 → (p_X2_passDay_J48 F_1 A_1 K)) ∧ (¬ (F_1 9) ≤ r5 → (∀ y45 : Int32, y45 = ((F_1 9) - (1 : Int32)) → (p_X2_passDay_J48 (upd F_1 9 y45) A_1 K))))) ∧ (¬ r5 ≤ (F_1 9) → (∀ y24 : Int32, y24 = ((F_1 9) + (1 : Int32)) → (p_X2_passDay_J48 (upd F_1 9 y24) A_1 K))))))))
set_option maxHeartbeats 4000000 in
set_option maxRecDepth 100000 in
theorem w_X2_passDay (l : Launch) (D : va_G) (cI cZ cR : ClassId) (adK adV : Nat → Nat) (sz : Nat) (o : Nat) (q : Nat → Nat) (F : tF) (A : tA) (K : tF → tA → Prop) (h : p_X2_passDay F A K) : MV l D cI cZ cR adK adV yX2_passDay cX2_passDay 4 none (rmN 4 170) [.ref o] (wX2 cI cZ o q F A : va_W) sz (fun (u : (tF × tA)) => K u.1 u.2) (fun (u : (tF × tA)) => (wX2 cI cZ o q u.1 u.2 : va_W)) := by
  refine M_v (by decide +kernel) (Nat.le_of_ble_eq_true rfl) ?_
  intro p e s m args below meth c Q A9 ls X ret hP hD hS hl
  obtain ⟨hx, hb, hml, ht, hown, hK, hA, hE⟩ := id X
  have hl : lv_has ls 4 [(0, .ref o)] := hl
  unfold p_X2_passDay at h
  refine lv_aload_n hx hb dX2_passDay_0 rfl (lv_at hl 0 rfl) ?_
  refine C_vv (wr := []) X hP hD hS [] [] (w_X2_takeVotes l D cI cZ cR adK adV _ o q F A _ h) cal_X2_takeVotes mw_25_4 rfl [0, 1, 2, 3, 4, 5, 6, 7, 8] [] [0, 1, 2, 3, 4, 5, 6, 7, 8] (fun u => (wX2 cI cZ o q u.1 u.2 : va_W)) rfl rfl (fun _ => rfl) rfl 0 rfl rfl ⟨rfl, rfl⟩ ⟨Nat.le_of_ble_eq_true rfl, Nat.le_of_ble_eq_true rfl⟩ hl.1 rfl (Nat.le_of_ble_eq_true rfl) ⟨Nat.zero_le _, Nat.zero_le _⟩ dX2_passDay_1 (fun u H locs h hP hD hS => ?_)
  obtain ⟨F_1, A_1⟩ := u
  try dsimp only at h
  have hP : va_P D vwCl (wX2 cI cZ o q F_1 A_1 : va_W) H := hP
  have hD : va_D A9 (wX2 cI cZ o q F_1 A_1 : va_W) := hD
  refine lv_aload_n hx hb dX2_passDay_4 rfl (lv_at hl 0 rfl) ?_
  refine C_vi (wr := []) X hP hD hS [] [] (w_X2_favouriteOfTally l D cI cZ cR adK adV _ o q F_1 A_1 _ h) cal_X2_favouriteOfTally mw_25_5 rfl [0, 1, 2, 3, 4, 5, 6, 7, 8] [] [0, 1, 2, 3, 4, 5, 6, 7, 8] (fun u => (wX2 cI cZ o q F_1 A_1 : va_W)) rfl rfl (fun _ => rfl) rfl 0 rfl rfl ⟨rfl, rfl⟩ ⟨Nat.le_of_ble_eq_true rfl, Nat.le_of_ble_eq_true rfl⟩ hl.1 rfl (Nat.le_of_ble_eq_true rfl) ⟨Nat.zero_le _, Nat.zero_le _⟩ dX2_passDay_5 (fun r5 u H locs h hP hD hS => ?_)
  refine lv_istore_n (lv' := [(1, .int r5), (0, .ref o)]) hx hb dX2_passDay_8 rfl hl (by decide) rfl (fun ls hl => ?_)
  refine lv_iload_n hx hb dX2_passDay_9 rfl (lv_at hl 0 rfl) ?_
  refine lv_aload_n hx hb dX2_passDay_10 rfl (lv_at hl 1 rfl) ?_
  refine va_get (C := RX2) (T := TX2) (N := 13) (own := RX2) (v := .int (F_1 9)) hx hb ht inlX2 hown hK hP 0 rfl rfl 9 (Nat.le_of_ble_eq_true rfl) (ht _ mw_3_8) (fun _ h9 => h9) rfl dX2_passDay_11 ?_
  refine lv_icmp_le (tgt := 30) hx hb dX2_passDay_14 (by decide) (fun c14 => ?_) (fun c14 => ?_)
  · replace h := h.1 c14
    refine lv_iload_n hx hb dX2_passDay_30 rfl (lv_at hl 0 rfl) ?_
    refine lv_aload_n hx hb dX2_passDay_31 rfl (lv_at hl 1 rfl) ?_
    refine va_get (C := RX2) (T := TX2) (N := 13) (own := RX2) (v := .int (F_1 9)) hx hb ht inlX2 hown hK hP 0 rfl rfl 9 (Nat.le_of_ble_eq_true rfl) (ht _ mw_3_8) (fun _ h9 => h9) rfl dX2_passDay_32 ?_
    refine lv_icmp_ge (tgt := 48) hx hb dX2_passDay_35 (by decide) (fun c35 => ?_) (fun c35 => ?_)
    · replace h := h.1 c35
      exact b_X2_passDay_J48 F_1 A_1 X ret  _ _ _ h hP hD hS (lv_sub hl [1] rfl)
    · replace h := h.2 c35
      refine lv_aload_n hx hb dX2_passDay_38 rfl (lv_at hl 1 rfl) ?_
      refine lv_dup hx hb dX2_passDay_39 rfl ?_
      refine va_get (C := RX2) (T := TX2) (N := 13) (own := RX2) (v := .int (F_1 9)) hx hb ht inlX2 hown hK hP 0 rfl rfl 9 (Nat.le_of_ble_eq_true rfl) (ht _ mw_3_8) (fun _ h9 => h9) rfl dX2_passDay_40 ?_
      refine lv_iconst (v := 1) hx hb dX2_passDay_43 (by decide) ?_
      refine lv_isub hx hb dX2_passDay_44 ?_
      refine lv_topi (fun y45 ey45 => ?_)
      replace h := h y45 ey45
      refine va_put (C := RX2) (T := TX2) (N := 13) (own := RX2) (v := .int y45) hx hb ht inlX2 tyX2 tyX2_ok nmX2 hown hK hP hD hS 0 rfl rfl 9 (Nat.le_of_ble_eq_true rfl) (ht _ mw_3_8) (fun _ h9 => h9) rfl (tyX2_ok 9 (Nat.le_of_ble_eq_true rfl)) rfl rfl (Nat.le_of_ble_eq_true rfl) dX2_passDay_45 (fun H locs hP hD hS => ?_)
      have hP : va_P D vwCl (wX2 cI cZ o q (upd F_1 9 y45) A_1 : va_W) H := hP
      have hD : va_D A9 (wX2 cI cZ o q (upd F_1 9 y45) A_1 : va_W) := hD
      exact b_X2_passDay_J48 (upd F_1 9 y45) A_1 X ret  _ _ _ h hP hD hS (lv_sub hl [1] rfl)
  · replace h := h.2 c14
    refine lv_aload_n hx hb dX2_passDay_17 rfl (lv_at hl 1 rfl) ?_
    refine lv_dup hx hb dX2_passDay_18 rfl ?_
    refine va_get (C := RX2) (T := TX2) (N := 13) (own := RX2) (v := .int (F_1 9)) hx hb ht inlX2 hown hK hP 0 rfl rfl 9 (Nat.le_of_ble_eq_true rfl) (ht _ mw_3_8) (fun _ h9 => h9) rfl dX2_passDay_19 ?_
    refine lv_iconst (v := 1) hx hb dX2_passDay_22 (by decide) ?_
    refine lv_iadd hx hb dX2_passDay_23 ?_
    refine lv_topi (fun y24 ey24 => ?_)
    replace h := h y24 ey24
    refine va_put (C := RX2) (T := TX2) (N := 13) (own := RX2) (v := .int y24) hx hb ht inlX2 tyX2 tyX2_ok nmX2 hown hK hP hD hS 0 rfl rfl 9 (Nat.le_of_ble_eq_true rfl) (ht _ mw_3_8) (fun _ h9 => h9) rfl (tyX2_ok 9 (Nat.le_of_ble_eq_true rfl)) rfl rfl (Nat.le_of_ble_eq_true rfl) dX2_passDay_24 (fun H locs hP hD hS => ?_)
    have hP : va_P D vwCl (wX2 cI cZ o q (upd F_1 9 y24) A_1 : va_W) H := hP
    have hD : va_D A9 (wX2 cI cZ o q (upd F_1 9 y24) A_1 : va_W) := hD
    refine lv_goto (tgt := 48) hx hb dX2_passDay_27 (by decide) ?_
    exact b_X2_passDay_J48 (upd F_1 9 y24) A_1 X ret  _ _ _ h hP hD hS (lv_sub hl [1] rfl)
theorem cal_X2_passDay : CalV yX2_passDay cX2_passDay 4 none 0 := ⟨mw_25_3, mw_1_15, mw_25_1, mw_25_2, ⟨by decide +kernel, by decide +kernel, by decide +kernel⟩⟩
theorem dX2_passDays_0 : decode cX2_passDays 0 = .ok (.iconst 0, 1) := by decide +kernel
theorem dX2_passDays_1 : decode cX2_passDays 1 = .ok (.istore_n 2, 1) := by decide +kernel
theorem dX2_passDays_2 : decode cX2_passDays 2 = .ok (.iload_n 2, 1) := by decide +kernel
theorem dX2_passDays_3 : decode cX2_passDays 3 = .ok (.iload_n 1, 1) := by decide +kernel
theorem dX2_passDays_4 : decode cX2_passDays 4 = .ok (.if_icmp .ge 13, 3) := by decide +kernel
theorem dX2_passDays_7 : decode cX2_passDays 7 = .ok (.aload_n 0, 1) := by decide +kernel
theorem dX2_passDays_8 : decode cX2_passDays 8 = .ok (.invokevirtual 97, 3) := by decide +kernel
theorem dX2_passDays_11 : decode cX2_passDays 11 = .ok (.iinc 2 1, 3) := by decide +kernel
theorem dX2_passDays_14 : decode cX2_passDays 14 = .ok (.goto (-12), 3) := by decide +kernel
theorem dX2_passDays_17 : decode cX2_passDays 17 = .ok (.return_, 1) := by decide +kernel
def p_X2_passDays_L2 (x1 : Int32) (K : tF → tA → Prop) : Nat → tF → tA → Int32 → Prop
  | 0, _, _, _ => False
  | n2 + 1, F, A, x2 => ((x1 ≤ x2 → (K F A)) ∧ (¬ x1 ≤ x2 → (p_X2_passDay F A (fun F_8 A_8 => (∀ y11 : Int32, y11 = (x2 + (1 : Int32)) → ((p_X2_passDays_L2 x1 K n2) F_8 A_8 y11))))))
set_option maxHeartbeats 4000000 in
set_option maxRecDepth 100000 in
theorem b_X2_passDays_L2 {p : Program} {l : Launch} {e : Env} {s : State} {m : MethodId} {args : Array Value} {below : List Frame} {meth : Method} {c : Code} {Q : State → Prop} {D : va_G} {cI cZ cR : ClassId} {adK adV : Nat → Nat} {A9 : Nat → Prop} {o : Nat} {q : Nat → Nat} {K : tF → tA → Prop}  (x1 : Int32) (X : CX p s m args c yX2_passDays.cls cX2_passDays 3 D cI cZ cR adK adV A9) (ret : RTv p l e (rmN 5 193) s m args below meth c Q cX2_passDays D A9 (fun (u : (tF × tA)) => K u.1 u.2) (fun (u : (tF × tA)) => (wX2 cI cZ o q u.1 u.2 : va_W)))   : ∀ (n : Nat) (F : tF) (A : tA) (x2 : Int32) (H : Heap) (locs : List Loc) (ls : Array Slot), p_X2_passDays_L2 x1 K n F A x2 → va_P D vwCl (wX2 cI cZ o q F A : va_W) H → va_D A9 (wX2 cI cZ o q F A : va_W) → va_S A9 s.heap H locs → lv_has ls 3 [(0, .ref o), (1, .int x1), (2, .int x2)] → W p l e (rmN 5 193) s m args below meth c H locs 0 0 Q (F0 m 2 ls []) := by
  obtain ⟨hx, hb, hml, ht, hown, hK, hA, hE⟩ := id X
  intro n
  induction n with
  | zero => intro F A x2 H locs ls h; exact False.elim h
  | succ n2 ih =>
    intro F A x2 H locs ls h hP hD hS hl
    rw [p_X2_passDays_L2] at h
    refine lv_iload_n hx hb dX2_passDays_2 rfl (lv_at hl 2 rfl) ?_
    refine lv_iload_n hx hb dX2_passDays_3 rfl (lv_at hl 1 rfl) ?_
    refine lv_icmp_ge (tgt := 17) hx hb dX2_passDays_4 (by decide) (fun c4 => ?_) (fun c4 => ?_)
    · replace h := h.1 c4
      exact ret (F, A) _ _ _ _ dX2_passDays_17 h hP hD hS
    · replace h := h.2 c4
      refine lv_aload_n hx hb dX2_passDays_7 rfl (lv_at hl 0 rfl) ?_
      refine C_vv (wr := []) X hP hD hS [] [] (w_X2_passDay l D cI cZ cR adK adV _ o q F A _ h) cal_X2_passDay mw_25_0 rfl [0, 1, 2, 3, 4, 5, 6, 7, 8] [] [0, 1, 2, 3, 4, 5, 6, 7, 8] (fun u => (wX2 cI cZ o q u.1 u.2 : va_W)) rfl rfl (fun _ => rfl) rfl 0 rfl rfl ⟨rfl, rfl⟩ ⟨Nat.le_of_ble_eq_true rfl, Nat.le_of_ble_eq_true rfl⟩ hl.1 rfl (Nat.le_of_ble_eq_true rfl) ⟨Nat.zero_le _, Nat.zero_le _⟩ dX2_passDays_8 (fun u H locs h hP hD hS => ?_)
      obtain ⟨F_8, A_8⟩ := u
      try dsimp only at h
      have hP : va_P D vwCl (wX2 cI cZ o q F_8 A_8 : va_W) H := hP
      have hD : va_D A9 (wX2 cI cZ o q F_8 A_8 : va_W) := hD
      obtain ⟨y11, ey11⟩ : ∃ y : Int32, y = (x2 + (1 : Int32)) := ⟨_, rfl⟩
      replace h := h y11 ey11
      refine lv_iinc (v := y11) (lv' := [(2, .int y11), (0, .ref o), (1, .int x1)]) hx hb dX2_passDays_11 hl (k := 2) rfl (by rw [ey11]; rfl) (by decide) rfl (fun ls hl => ?_)
      refine lv_goto (tgt := 2) hx hb dX2_passDays_14 (by decide) ?_
      exact ih F_8 A_8 y11 _ _ _ h hP hD hS (lv_sub hl [1, 2, 0] rfl)
def p_X2_passDays (F : tF) (A : tA) (x1 : Int32) (K : tF → tA → Prop) : Prop := (∃ n2, p_X2_passDays_L2 x1 K n2 F A (0 : Int32))
set_option maxHeartbeats 4000000 in
set_option maxRecDepth 100000 in
theorem w_X2_passDays (l : Launch) (D : va_G) (cI cZ cR : ClassId) (adK adV : Nat → Nat) (sz : Nat) (o : Nat) (q : Nat → Nat) (F : tF) (A : tA) (x1 : Int32) (K : tF → tA → Prop) (h : p_X2_passDays F A x1 K) : MV l D cI cZ cR adK adV yX2_passDays cX2_passDays 3 none (rmN 5 193) [.ref o, .int x1] (wX2 cI cZ o q F A : va_W) sz (fun (u : (tF × tA)) => K u.1 u.2) (fun (u : (tF × tA)) => (wX2 cI cZ o q u.1 u.2 : va_W)) := by
  refine M_v (by decide +kernel) (Nat.le_of_ble_eq_true rfl) ?_
  intro p e s m args below meth c Q A9 ls X ret hP hD hS hl
  obtain ⟨hx, hb, hml, ht, hown, hK, hA, hE⟩ := id X
  have hl : lv_has ls 3 [(0, .ref o), (1, .int x1)] := hl
  unfold p_X2_passDays at h
  refine lv_iconst (v := 0) hx hb dX2_passDays_0 (by decide) ?_
  refine lv_istore_n (lv' := [(2, .int (0 : Int32)), (0, .ref o), (1, .int x1)]) hx hb dX2_passDays_1 rfl hl (by decide) rfl (fun ls hl => ?_)
  obtain ⟨n2, h⟩ := h
  exact b_X2_passDays_L2 x1 X ret  n2 F A (0 : Int32) _ _ _ h hP hD hS (lv_sub hl [1, 2, 0] rfl)
theorem dX2_drawn_0 : decode cX2_drawn 0 = .ok (.aload_n 0, 1) := by decide +kernel
theorem dX2_drawn_1 : decode cX2_drawn 1 = .ok (.aload_n 0, 1) := by decide +kernel
theorem dX2_drawn_2 : decode cX2_drawn 2 = .ok (.getfield 49, 3) := by decide +kernel
theorem dX2_drawn_5 : decode cX2_drawn 5 = .ok (.ldc 100, 2) := by decide +kernel
theorem dX2_drawn_7 : decode cX2_drawn 7 = .ok (.imul, 1) := by decide +kernel
theorem dX2_drawn_8 : decode cX2_drawn 8 = .ok (.sipush 12345, 3) := by decide +kernel
theorem dX2_drawn_11 : decode cX2_drawn 11 = .ok (.iadd, 1) := by decide +kernel
theorem dX2_drawn_12 : decode cX2_drawn 12 = .ok (.putfield 49, 3) := by decide +kernel
theorem dX2_drawn_15 : decode cX2_drawn 15 = .ok (.aload_n 0, 1) := by decide +kernel
theorem dX2_drawn_16 : decode cX2_drawn 16 = .ok (.getfield 49, 3) := by decide +kernel
theorem dX2_drawn_19 : decode cX2_drawn 19 = .ok (.bipush 16, 2) := by decide +kernel
theorem dX2_drawn_21 : decode cX2_drawn 21 = .ok (.iushr, 1) := by decide +kernel
theorem dX2_drawn_22 : decode cX2_drawn 22 = .ok (.ireturn, 1) := by decide +kernel
def p_X2_drawn (F : tF) (A : tA) (K : Int32 → tF → tA → Prop) : Prop := (∀ y12 : Int32, y12 = (((F 12) * (1103515245 : Int32)) + (12345 : Int32)) → (K (((y12).toUInt32 >>> (((16 : Int32)).toUInt32 &&& Int32.toUInt32 31)).toInt32) (upd F 12 y12) A))
set_option maxHeartbeats 4000000 in
set_option maxRecDepth 100000 in
theorem w_X2_drawn (l : Launch) (D : va_G) (cI cZ cR : ClassId) (adK adV : Nat → Nat) (sz : Nat) (o : Nat) (q : Nat → Nat) (F : tF) (A : tA) (K : Int32 → tF → tA → Prop) (h : p_X2_drawn F A K) : MI l D cI cZ cR adK adV yX2_drawn cX2_drawn 1 (some .int) (rmN 0 0) [.ref o] (wX2 cI cZ o q F A : va_W) sz (fun (r : Int32) (u : (tF × tA)) => K r u.1 u.2) (fun (u : (tF × tA)) => (wX2 cI cZ o q u.1 u.2 : va_W)) := by
  refine M_i (by decide +kernel) (Nat.le_of_ble_eq_true rfl) ?_
  intro p e s m args below meth c Q A9 ls X ret hP hD hS hl
  obtain ⟨hx, hb, hml, ht, hown, hK, hA, hE⟩ := id X
  have hl : lv_has ls 1 [(0, .ref o)] := hl
  unfold p_X2_drawn at h
  refine lv_aload_n hx hb dX2_drawn_0 rfl (lv_at hl 0 rfl) ?_
  refine lv_aload_n hx hb dX2_drawn_1 rfl (lv_at hl 0 rfl) ?_
  refine va_get (C := RX2) (T := TX2) (N := 13) (own := RX2) (v := .int (F 12)) hx hb ht inlX2 hown hK hP 0 rfl rfl 12 (Nat.le_of_ble_eq_true rfl) (ht _ mw_3_11) (fun _ h9 => h9) rfl dX2_drawn_2 ?_
  refine lv_ldc (v := 1103515245) hx hb hown (ht _ mw_27_4) dX2_drawn_5 ?_
  refine lv_imul hx hb dX2_drawn_7 ?_
  refine lv_sipush (v := 12345) hx hb dX2_drawn_8 (by decide) ?_
  refine lv_iadd hx hb dX2_drawn_11 ?_
  refine lv_topi (fun y12 ey12 => ?_)
  replace h := h y12 ey12
  refine va_put (C := RX2) (T := TX2) (N := 13) (own := RX2) (v := .int y12) hx hb ht inlX2 tyX2 tyX2_ok nmX2 hown hK hP hD hS 0 rfl rfl 12 (Nat.le_of_ble_eq_true rfl) (ht _ mw_3_11) (fun _ h9 => h9) rfl (tyX2_ok 12 (Nat.le_of_ble_eq_true rfl)) rfl rfl (Nat.le_of_ble_eq_true rfl) dX2_drawn_12 (fun H locs hP hD hS => ?_)
  have hP : va_P D vwCl (wX2 cI cZ o q (upd F 12 y12) A : va_W) H := hP
  have hD : va_D A9 (wX2 cI cZ o q (upd F 12 y12) A : va_W) := hD
  refine lv_aload_n hx hb dX2_drawn_15 rfl (lv_at hl 0 rfl) ?_
  refine va_get (C := RX2) (T := TX2) (N := 13) (own := RX2) (v := .int y12) hx hb ht inlX2 hown hK hP 0 rfl rfl 12 (Nat.le_of_ble_eq_true rfl) (ht _ mw_3_11) (fun _ h9 => h9) rfl dX2_drawn_16 ?_
  refine lv_bipush (v := 16) hx hb dX2_drawn_19 (by decide) ?_
  refine lv_iushr (v := ((y12).toUInt32 >>> (((16 : Int32)).toUInt32 &&& Int32.toUInt32 31)).toInt32) hx hb dX2_drawn_21 rfl ?_
  exact ret _ ((upd F 12 y12), A) _ _ _ _ dX2_drawn_22 h hP hD hS
theorem cal_X2_drawn : CalV yX2_drawn cX2_drawn 1 (some .int) 0 := ⟨mw_27_3, mw_1_15, mw_27_1, mw_27_2, ⟨by decide +kernel, by decide +kernel, by decide +kernel⟩⟩
theorem dX2_passDayByDraws_0 : decode cX2_passDayByDraws 0 = .ok (.aload_n 0, 1) := by decide +kernel
theorem dX2_passDayByDraws_1 : decode cX2_passDayByDraws 1 = .ok (.getfield 36, 3) := by decide +kernel
theorem dX2_passDayByDraws_4 : decode cX2_passDayByDraws 4 = .ok (.ifCond .le 42, 3) := by decide +kernel
theorem dX2_passDayByDraws_7 : decode cX2_passDayByDraws 7 = .ok (.aload_n 0, 1) := by decide +kernel
theorem dX2_passDayByDraws_8 : decode cX2_passDayByDraws 8 = .ok (.invokevirtual 101, 3) := by decide +kernel
theorem dX2_passDayByDraws_11 : decode cX2_passDayByDraws 11 = .ok (.aload_n 0, 1) := by decide +kernel
theorem dX2_passDayByDraws_12 : decode cX2_passDayByDraws 12 = .ok (.getfield 36, 3) := by decide +kernel
theorem dX2_passDayByDraws_15 : decode cX2_passDayByDraws 15 = .ok (.irem, 1) := by decide +kernel
theorem dX2_passDayByDraws_16 : decode cX2_passDayByDraws 16 = .ok (.istore_n 1, 1) := by decide +kernel
theorem dX2_passDayByDraws_17 : decode cX2_passDayByDraws 17 = .ok (.aload_n 0, 1) := by decide +kernel
theorem dX2_passDayByDraws_18 : decode cX2_passDayByDraws 18 = .ok (.invokevirtual 101, 3) := by decide +kernel
theorem dX2_passDayByDraws_21 : decode cX2_passDayByDraws 21 = .ok (.bipush 100, 2) := by decide +kernel
theorem dX2_passDayByDraws_23 : decode cX2_passDayByDraws 23 = .ok (.irem, 1) := by decide +kernel
theorem dX2_passDayByDraws_24 : decode cX2_passDayByDraws 24 = .ok (.aload_n 0, 1) := by decide +kernel
theorem dX2_passDayByDraws_25 : decode cX2_passDayByDraws 25 = .ok (.getfield 9, 3) := by decide +kernel
theorem dX2_passDayByDraws_28 : decode cX2_passDayByDraws 28 = .ok (.iconst 3, 1) := by decide +kernel
theorem dX2_passDayByDraws_29 : decode cX2_passDayByDraws 29 = .ok (.iaload, 1) := by decide +kernel
theorem dX2_passDayByDraws_30 : decode cX2_passDayByDraws 30 = .ok (.if_icmp .ge 16, 3) := by decide +kernel
theorem dX2_passDayByDraws_33 : decode cX2_passDayByDraws 33 = .ok (.aload_n 0, 1) := by decide +kernel
theorem dX2_passDayByDraws_34 : decode cX2_passDayByDraws 34 = .ok (.getfield 30, 3) := by decide +kernel
theorem dX2_passDayByDraws_37 : decode cX2_passDayByDraws 37 = .ok (.iload_n 1, 1) := by decide +kernel
theorem dX2_passDayByDraws_38 : decode cX2_passDayByDraws 38 = .ok (.aload_n 0, 1) := by decide +kernel
theorem dX2_passDayByDraws_39 : decode cX2_passDayByDraws 39 = .ok (.invokevirtual 101, 3) := by decide +kernel
theorem dX2_passDayByDraws_42 : decode cX2_passDayByDraws 42 = .ok (.bipush 6, 2) := by decide +kernel
theorem dX2_passDayByDraws_44 : decode cX2_passDayByDraws 44 = .ok (.irem, 1) := by decide +kernel
theorem dX2_passDayByDraws_45 : decode cX2_passDayByDraws 45 = .ok (.iastore, 1) := by decide +kernel
theorem dX2_passDayByDraws_46 : decode cX2_passDayByDraws 46 = .ok (.aload_n 0, 1) := by decide +kernel
theorem dX2_passDayByDraws_47 : decode cX2_passDayByDraws 47 = .ok (.invokevirtual 97, 3) := by decide +kernel
theorem dX2_passDayByDraws_50 : decode cX2_passDayByDraws 50 = .ok (.return_, 1) := by decide +kernel
def p_X2_passDayByDraws_J46 (F : tF) (A : tA) (K : tF → tA → Prop)  : Prop := (p_X2_passDay F A (fun F_47 A_47 => (K F_47 A_47)))
set_option maxHeartbeats 4000000 in
set_option maxRecDepth 100000 in
theorem b_X2_passDayByDraws_J46 {p : Program} {l : Launch} {e : Env} {s : State} {m : MethodId} {args : Array Value} {below : List Frame} {meth : Method} {c : Code} {Q : State → Prop} {D : va_G} {cI cZ cR : ClassId} {adK adV : Nat → Nat} {A9 : Nat → Prop} {o : Nat} {q : Nat → Nat} {K : tF → tA → Prop}  (F : tF) (A : tA) (X : CX p s m args c yX2_passDayByDraws.cls cX2_passDayByDraws 2 D cI cZ cR adK adV A9) (ret : RTv p l e (rmN 5 193) s m args below meth c Q cX2_passDayByDraws D A9 (fun (u : (tF × tA)) => K u.1 u.2) (fun (u : (tF × tA)) => (wX2 cI cZ o q u.1 u.2 : va_W)))  (H : Heap) (locs : List Loc) (ls : Array Slot) (h : p_X2_passDayByDraws_J46 F A K) (hP : va_P D vwCl (wX2 cI cZ o q F A : va_W) H) (hD : va_D A9 (wX2 cI cZ o q F A : va_W)) (hS : va_S A9 s.heap H locs) (hl : lv_has ls 2 [(0, .ref o)]) : W p l e (rmN 5 193) s m args below meth c H locs 0 0 Q (F0 m 46 ls []) := by
  obtain ⟨hx, hb, hml, ht, hown, hK, hA, hE⟩ := id X
  unfold p_X2_passDayByDraws_J46 at h
  refine lv_aload_n hx hb dX2_passDayByDraws_46 rfl (lv_at hl 0 rfl) ?_
  refine C_vv (wr := []) X hP hD hS [] [] (w_X2_passDay l D cI cZ cR adK adV _ o q F A _ h) cal_X2_passDay mw_25_0 rfl [0, 1, 2, 3, 4, 5, 6, 7, 8] [] [0, 1, 2, 3, 4, 5, 6, 7, 8] (fun u => (wX2 cI cZ o q u.1 u.2 : va_W)) rfl rfl (fun _ => rfl) rfl 0 rfl rfl ⟨rfl, rfl⟩ ⟨Nat.le_of_ble_eq_true rfl, Nat.le_of_ble_eq_true rfl⟩ hl.1 rfl (Nat.le_of_ble_eq_true rfl) ⟨Nat.zero_le _, Nat.zero_le _⟩ dX2_passDayByDraws_47 (fun u H locs h hP hD hS => ?_)
  obtain ⟨F_47, A_47⟩ := u
  try dsimp only at h
  have hP : va_P D vwCl (wX2 cI cZ o q F_47 A_47 : va_W) H := hP
  have hD : va_D A9 (wX2 cI cZ o q F_47 A_47 : va_W) := hD
  exact ret (F_47, A_47) _ _ _ _ dX2_passDayByDraws_50 h hP hD hS
def p_X2_passDayByDraws (F : tF) (A : tA) (K : tF → tA → Prop) : Prop := (((F 8) ≤ 0 → (p_X2_passDayByDraws_J46 F A K)) ∧ (¬ (F 8) ≤ 0 → (p_X2_drawn F A (fun r8 F_8 A_8 => (¬ (F_8 8) = 0 ∧ (∀ y16 : Int32, y16 = (r8 - r8 / (F_8 8) * (F_8 8)) → (p_X2_drawn F_8 A_8 (fun r18 F_18 A_18 => ((((A_18 0) 3) ≤ (r18 - r18 / (100 : Int32) * (100 : Int32)) → (p_X2_passDayByDraws_J46 F_18 A_18 K)) ∧ (¬ ((A_18 0) 3) ≤ (r18 - r18 / (100 : Int32) * (100 : Int32)) → (p_X2_drawn F_18 A_18 (fun r39 F_39 A_39 => (vp_in y16 8 ∧ (∀ f_45 : tF, f_45 = (upd (A_39 6) (y16).toNatClampNeg (r39 - r39 / (6 : Int32) * (6 : Int32))) → (p_X2_passDayByDraws_J46 F_39 (va_up A_39 6 f_45) K)))))))))))))))
set_option maxHeartbeats 4000000 in
set_option maxRecDepth 100000 in
theorem w_X2_passDayByDraws (l : Launch) (D : va_G) (cI cZ cR : ClassId) (adK adV : Nat → Nat) (sz : Nat) (o : Nat) (q : Nat → Nat) (F : tF) (A : tA) (K : tF → tA → Prop) (h : p_X2_passDayByDraws F A K) : MV l D cI cZ cR adK adV yX2_passDayByDraws cX2_passDayByDraws 2 none (rmN 5 193) [.ref o] (wX2 cI cZ o q F A : va_W) sz (fun (u : (tF × tA)) => K u.1 u.2) (fun (u : (tF × tA)) => (wX2 cI cZ o q u.1 u.2 : va_W)) := by
  refine M_v (by decide +kernel) (Nat.le_of_ble_eq_true rfl) ?_
  intro p e s m args below meth c Q A9 ls X ret hP hD hS hl
  obtain ⟨hx, hb, hml, ht, hown, hK, hA, hE⟩ := id X
  have hl : lv_has ls 2 [(0, .ref o)] := hl
  unfold p_X2_passDayByDraws at h
  refine lv_aload_n hx hb dX2_passDayByDraws_0 rfl (lv_at hl 0 rfl) ?_
  refine va_get (C := RX2) (T := TX2) (N := 13) (own := RX2) (v := .int (F 8)) hx hb ht inlX2 hown hK hP 0 rfl rfl 8 (Nat.le_of_ble_eq_true rfl) (ht _ mw_3_7) (fun _ h9 => h9) rfl dX2_passDayByDraws_1 ?_
  refine lv_if_le (tgt := 46) hx hb dX2_passDayByDraws_4 (by decide) (fun c4 => ?_) (fun c4 => ?_)
  · replace h := h.1 c4
    exact b_X2_passDayByDraws_J46 F A X ret  _ _ _ h hP hD hS (lv_sub hl [0] rfl)
  · replace h := h.2 c4
    refine lv_aload_n hx hb dX2_passDayByDraws_7 rfl (lv_at hl 0 rfl) ?_
    refine C_vi (wr := []) X hP hD hS [] [] (w_X2_drawn l D cI cZ cR adK adV _ o q F A _ h) cal_X2_drawn mw_27_0 rfl [0, 1, 2, 3, 4, 5, 6, 7, 8] [] [0, 1, 2, 3, 4, 5, 6, 7, 8] (fun u => (wX2 cI cZ o q u.1 u.2 : va_W)) rfl rfl (fun _ => rfl) rfl 0 rfl rfl ⟨rfl, rfl⟩ ⟨Nat.le_of_ble_eq_true rfl, Nat.le_of_ble_eq_true rfl⟩ hl.1 rfl (Nat.le_of_ble_eq_true rfl) ⟨Nat.zero_le _, Nat.zero_le _⟩ dX2_passDayByDraws_8 (fun r8 u H locs h hP hD hS => ?_)
    obtain ⟨F_8, A_8⟩ := u
    try dsimp only at h
    have hP : va_P D vwCl (wX2 cI cZ o q F_8 A_8 : va_W) H := hP
    have hD : va_D A9 (wX2 cI cZ o q F_8 A_8 : va_W) := hD
    refine lv_aload_n hx hb dX2_passDayByDraws_11 rfl (lv_at hl 0 rfl) ?_
    refine va_get (C := RX2) (T := TX2) (N := 13) (own := RX2) (v := .int (F_8 8)) hx hb ht inlX2 hown hK hP 0 rfl rfl 8 (Nat.le_of_ble_eq_true rfl) (ht _ mw_3_7) (fun _ h9 => h9) rfl dX2_passDayByDraws_12 ?_
    obtain ⟨hz15, h⟩ := h
    refine lv_irem hx hb dX2_passDayByDraws_15 hz15 ?_
    refine lv_topi (fun y16 ey16 => ?_)
    replace h := h y16 ey16
    refine lv_istore_n (lv' := [(1, .int y16), (0, .ref o)]) hx hb dX2_passDayByDraws_16 rfl hl (by decide) rfl (fun ls hl => ?_)
    refine lv_aload_n hx hb dX2_passDayByDraws_17 rfl (lv_at hl 1 rfl) ?_
    refine C_vi (wr := []) X hP hD hS [] [] (w_X2_drawn l D cI cZ cR adK adV _ o q F_8 A_8 _ h) cal_X2_drawn mw_27_0 rfl [0, 1, 2, 3, 4, 5, 6, 7, 8] [] [0, 1, 2, 3, 4, 5, 6, 7, 8] (fun u => (wX2 cI cZ o q u.1 u.2 : va_W)) rfl rfl (fun _ => rfl) rfl 0 rfl rfl ⟨rfl, rfl⟩ ⟨Nat.le_of_ble_eq_true rfl, Nat.le_of_ble_eq_true rfl⟩ hl.1 rfl (Nat.le_of_ble_eq_true rfl) ⟨Nat.zero_le _, Nat.zero_le _⟩ dX2_passDayByDraws_18 (fun r18 u H locs h hP hD hS => ?_)
    obtain ⟨F_18, A_18⟩ := u
    try dsimp only at h
    have hP : va_P D vwCl (wX2 cI cZ o q F_18 A_18 : va_W) H := hP
    have hD : va_D A9 (wX2 cI cZ o q F_18 A_18 : va_W) := hD
    refine lv_bipush (v := 100) hx hb dX2_passDayByDraws_21 (by decide) ?_
    refine lv_irem hx hb dX2_passDayByDraws_23 (by decide) ?_
    refine lv_aload_n hx hb dX2_passDayByDraws_24 rfl (lv_at hl 1 rfl) ?_
    refine va_get (C := RX2) (T := TX2) (N := 13) (own := RX2) (v := .ref (q 0)) hx hb ht inlX2 hown hK hP 0 rfl rfl 0 (Nat.le_of_ble_eq_true rfl) (ht _ mw_2_23) (fun _ h9 => h9) rfl dX2_passDayByDraws_25 ?_
    refine lv_iconst (v := 3) hx hb dX2_passDayByDraws_28 (by decide) ?_
    refine g_iald (f := (A_18 0)) (k := 3) hx hb hK hP 1 0 rfl rfl (vp_in_lit rfl : vp_in (3 : Int32) 4) (by decide) dX2_passDayByDraws_29 ?_
    refine lv_icmp_ge (tgt := 46) hx hb dX2_passDayByDraws_30 (by decide) (fun c30 => ?_) (fun c30 => ?_)
    · replace h := h.1 c30
      exact b_X2_passDayByDraws_J46 F_18 A_18 X ret  _ _ _ h hP hD hS (lv_sub hl [1] rfl)
    · replace h := h.2 c30
      refine lv_aload_n hx hb dX2_passDayByDraws_33 rfl (lv_at hl 1 rfl) ?_
      refine va_get (C := RX2) (T := TX2) (N := 13) (own := RX2) (v := .ref (q 6)) hx hb ht inlX2 hown hK hP 0 rfl rfl 6 (Nat.le_of_ble_eq_true rfl) (ht _ mw_3_5) (fun _ h9 => h9) rfl dX2_passDayByDraws_34 ?_
      refine lv_iload_n hx hb dX2_passDayByDraws_37 rfl (lv_at hl 0 rfl) ?_
      refine lv_aload_n hx hb dX2_passDayByDraws_38 rfl (lv_at hl 1 rfl) ?_
      refine C_vi (wr := []) X hP hD hS [] [.int y16, .ref (q 6)] (w_X2_drawn l D cI cZ cR adK adV _ o q F_18 A_18 _ h) cal_X2_drawn mw_27_0 rfl [0, 1, 2, 3, 4, 5, 6, 7, 8] [] [0, 1, 2, 3, 4, 5, 6, 7, 8] (fun u => (wX2 cI cZ o q u.1 u.2 : va_W)) rfl rfl (fun _ => rfl) rfl 0 rfl rfl ⟨rfl, rfl⟩ ⟨Nat.le_of_ble_eq_true rfl, Nat.le_of_ble_eq_true rfl⟩ hl.1 rfl (Nat.le_of_ble_eq_true rfl) ⟨Nat.zero_le _, Nat.zero_le _⟩ dX2_passDayByDraws_39 (fun r39 u H locs h hP hD hS => ?_)
      obtain ⟨F_39, A_39⟩ := u
      try dsimp only at h
      have hP : va_P D vwCl (wX2 cI cZ o q F_39 A_39 : va_W) H := hP
      have hD : va_D A9 (wX2 cI cZ o q F_39 A_39 : va_W) := hD
      refine lv_bipush (v := 6) hx hb dX2_passDayByDraws_42 (by decide) ?_
      refine lv_irem hx hb dX2_passDayByDraws_44 (by decide) ?_
      obtain ⟨hi45, h⟩ := h
      obtain ⟨f_45, ef_45⟩ : ∃ z : tF, z = (upd (A_39 6) (y16).toNatClampNeg (r39 - r39 / (6 : Int32) * (6 : Int32))) := ⟨_, rfl⟩
      replace h := h f_45 ef_45
      refine g_iast (f := (A_39 6)) (k := (y16).toNatClampNeg) hx hb hK hP hD hS 7 0 rfl rfl hi45 rfl ef_45 dX2_passDayByDraws_45 (fun H locs hP hD hS => ?_)
      have hP : va_P D vwCl (wX2 cI cZ o q F_39 (va_up A_39 6 f_45) : va_W) H := hP
      have hD : va_D A9 (wX2 cI cZ o q F_39 (va_up A_39 6 f_45) : va_W) := hD
      exact b_X2_passDayByDraws_J46 F_39 (va_up A_39 6 f_45) X ret  _ _ _ h hP hD hS (lv_sub hl [1] rfl)
theorem dX2_weightOfAll_0 : decode cX2_weightOfAll 0 = .ok (.iconst 0, 1) := by decide +kernel
theorem dX2_weightOfAll_1 : decode cX2_weightOfAll 1 = .ok (.istore_n 1, 1) := by decide +kernel
theorem dX2_weightOfAll_2 : decode cX2_weightOfAll 2 = .ok (.iconst 0, 1) := by decide +kernel
theorem dX2_weightOfAll_3 : decode cX2_weightOfAll 3 = .ok (.istore_n 2, 1) := by decide +kernel
theorem dX2_weightOfAll_4 : decode cX2_weightOfAll 4 = .ok (.iload_n 2, 1) := by decide +kernel
theorem dX2_weightOfAll_5 : decode cX2_weightOfAll 5 = .ok (.aload_n 0, 1) := by decide +kernel
theorem dX2_weightOfAll_6 : decode cX2_weightOfAll 6 = .ok (.getfield 36, 3) := by decide +kernel
theorem dX2_weightOfAll_9 : decode cX2_weightOfAll 9 = .ok (.if_icmp .ge 17, 3) := by decide +kernel
theorem dX2_weightOfAll_12 : decode cX2_weightOfAll 12 = .ok (.iload_n 1, 1) := by decide +kernel
theorem dX2_weightOfAll_13 : decode cX2_weightOfAll 13 = .ok (.aload_n 0, 1) := by decide +kernel
theorem dX2_weightOfAll_14 : decode cX2_weightOfAll 14 = .ok (.iload_n 2, 1) := by decide +kernel
theorem dX2_weightOfAll_15 : decode cX2_weightOfAll 15 = .ok (.invokevirtual 81, 3) := by decide +kernel
theorem dX2_weightOfAll_18 : decode cX2_weightOfAll 18 = .ok (.iadd, 1) := by decide +kernel
theorem dX2_weightOfAll_19 : decode cX2_weightOfAll 19 = .ok (.istore_n 1, 1) := by decide +kernel
theorem dX2_weightOfAll_20 : decode cX2_weightOfAll 20 = .ok (.iinc 2 1, 3) := by decide +kernel
theorem dX2_weightOfAll_23 : decode cX2_weightOfAll 23 = .ok (.goto (-19), 3) := by decide +kernel
theorem dX2_weightOfAll_26 : decode cX2_weightOfAll 26 = .ok (.iload_n 1, 1) := by decide +kernel
theorem dX2_weightOfAll_27 : decode cX2_weightOfAll 27 = .ok (.ireturn, 1) := by decide +kernel
def p_X2_weightOfAll_L4 (F : tF) (A : tA) (K : Int32 → Prop) : Nat → Int32 → Int32 → Prop
  | 0, _, _ => False
  | n4 + 1, x1, x2 => (((F 8) ≤ x2 → (K x1)) ∧ (¬ (F 8) ≤ x2 → (p_X2_weightOf F A x2 (fun r15 => (∀ y19 : Int32, y19 = (x1 + r15) → (∀ y20 : Int32, y20 = (x2 + (1 : Int32)) → ((p_X2_weightOfAll_L4 F A K n4) y19 y20)))))))
set_option maxHeartbeats 4000000 in
set_option maxRecDepth 100000 in
theorem b_X2_weightOfAll_L4 {p : Program} {l : Launch} {e : Env} {s : State} {m : MethodId} {args : Array Value} {below : List Frame} {meth : Method} {c : Code} {Q : State → Prop} {D : va_G} {cI cZ cR : ClassId} {adK adV : Nat → Nat} {A9 : Nat → Prop} {o : Nat} {q : Nat → Nat} {K : Int32 → Prop}  (F : tF) (A : tA) (X : CX p s m args c yX2_weightOfAll.cls cX2_weightOfAll 3 D cI cZ cR adK adV A9) (ret : RTi p l e (rmN 1 22) s m args below meth c Q cX2_weightOfAll D A9 (fun (r : Int32) (u : Unit) => K r) (fun (u : Unit) => (wX2 cI cZ o q F A : va_W)))   : ∀ (n : Nat) (x1 : Int32) (x2 : Int32) (H : Heap) (locs : List Loc) (ls : Array Slot), p_X2_weightOfAll_L4 F A K n x1 x2 → va_P D vwCl (wX2 cI cZ o q F A : va_W) H → va_D A9 (wX2 cI cZ o q F A : va_W) → va_S A9 s.heap H locs → lv_has ls 3 [(0, .ref o), (1, .int x1), (2, .int x2)] → W p l e (rmN 1 22) s m args below meth c H locs 0 0 Q (F0 m 4 ls []) := by
  obtain ⟨hx, hb, hml, ht, hown, hK, hA, hE⟩ := id X
  intro n
  induction n with
  | zero => intro x1 x2 H locs ls h; exact False.elim h
  | succ n4 ih =>
    intro x1 x2 H locs ls h hP hD hS hl
    rw [p_X2_weightOfAll_L4] at h
    refine lv_iload_n hx hb dX2_weightOfAll_4 rfl (lv_at hl 2 rfl) ?_
    refine lv_aload_n hx hb dX2_weightOfAll_5 rfl (lv_at hl 0 rfl) ?_
    refine va_get (C := RX2) (T := TX2) (N := 13) (own := RX2) (v := .int (F 8)) hx hb ht inlX2 hown hK hP 0 rfl rfl 8 (Nat.le_of_ble_eq_true rfl) (ht _ mw_3_7) (fun _ h9 => h9) rfl dX2_weightOfAll_6 ?_
    refine lv_icmp_ge (tgt := 26) hx hb dX2_weightOfAll_9 (by decide) (fun c9 => ?_) (fun c9 => ?_)
    · replace h := h.1 c9
      refine lv_iload_n hx hb dX2_weightOfAll_26 rfl (lv_at hl 1 rfl) ?_
      exact ret _ () _ _ _ _ dX2_weightOfAll_27 h hP hD hS
    · replace h := h.2 c9
      refine lv_iload_n hx hb dX2_weightOfAll_12 rfl (lv_at hl 1 rfl) ?_
      refine lv_aload_n hx hb dX2_weightOfAll_13 rfl (lv_at hl 0 rfl) ?_
      refine lv_iload_n hx hb dX2_weightOfAll_14 rfl (lv_at hl 2 rfl) ?_
      refine C_vi (wr := []) X hP hD hS [.int x2] [.int x1] (w_X2_weightOf l D cI cZ cR adK adV _ o q F A x2 _ h) cal_X2_weightOf mw_22_8 rfl [0, 1, 2, 3, 4, 5, 6, 7, 8] [] [0, 1, 2, 3, 4, 5, 6, 7, 8] (fun u => (wX2 cI cZ o q F A : va_W)) rfl rfl (fun _ => rfl) rfl 0 rfl rfl ⟨rfl, rfl⟩ ⟨Nat.le_of_ble_eq_true rfl, Nat.le_of_ble_eq_true rfl⟩ hl.1 rfl (Nat.le_of_ble_eq_true rfl) ⟨Nat.zero_le _, Nat.zero_le _⟩ dX2_weightOfAll_15 (fun r15 u H locs h hP hD hS => ?_)
      refine lv_iadd hx hb dX2_weightOfAll_18 ?_
      refine lv_topi (fun y19 ey19 => ?_)
      replace h := h y19 ey19
      refine lv_istore_n (lv' := [(1, .int y19), (0, .ref o), (2, .int x2)]) hx hb dX2_weightOfAll_19 rfl hl (by decide) rfl (fun ls hl => ?_)
      obtain ⟨y20, ey20⟩ : ∃ y : Int32, y = (x2 + (1 : Int32)) := ⟨_, rfl⟩
      replace h := h y20 ey20
      refine lv_iinc (v := y20) (lv' := [(2, .int y20), (1, .int y19), (0, .ref o)]) hx hb dX2_weightOfAll_20 hl (k := 2) rfl (by rw [ey20]; rfl) (by decide) rfl (fun ls hl => ?_)
      refine lv_goto (tgt := 4) hx hb dX2_weightOfAll_23 (by decide) ?_
      exact ih y19 y20 _ _ _ h hP hD hS (lv_sub hl [2, 1, 0] rfl)
def p_X2_weightOfAll (F : tF) (A : tA) (K : Int32 → Prop) : Prop := (∃ n4, p_X2_weightOfAll_L4 F A K n4 (0 : Int32) (0 : Int32))
set_option maxHeartbeats 4000000 in
set_option maxRecDepth 100000 in
theorem w_X2_weightOfAll (l : Launch) (D : va_G) (cI cZ cR : ClassId) (adK adV : Nat → Nat) (sz : Nat) (o : Nat) (q : Nat → Nat) (F : tF) (A : tA) (K : Int32 → Prop) (h : p_X2_weightOfAll F A K) : MI l D cI cZ cR adK adV yX2_weightOfAll cX2_weightOfAll 3 (some .int) (rmN 1 22) [.ref o] (wX2 cI cZ o q F A : va_W) sz (fun (r : Int32) (u : Unit) => K r) (fun (u : Unit) => (wX2 cI cZ o q F A : va_W)) := by
  refine M_i (by decide +kernel) (Nat.le_of_ble_eq_true rfl) ?_
  intro p e s m args below meth c Q A9 ls X ret hP hD hS hl
  obtain ⟨hx, hb, hml, ht, hown, hK, hA, hE⟩ := id X
  have hl : lv_has ls 3 [(0, .ref o)] := hl
  unfold p_X2_weightOfAll at h
  refine lv_iconst (v := 0) hx hb dX2_weightOfAll_0 (by decide) ?_
  refine lv_istore_n (lv' := [(1, .int (0 : Int32)), (0, .ref o)]) hx hb dX2_weightOfAll_1 rfl hl (by decide) rfl (fun ls hl => ?_)
  refine lv_iconst (v := 0) hx hb dX2_weightOfAll_2 (by decide) ?_
  refine lv_istore_n (lv' := [(2, .int (0 : Int32)), (1, .int (0 : Int32)), (0, .ref o)]) hx hb dX2_weightOfAll_3 rfl hl (by decide) rfl (fun ls hl => ?_)
  obtain ⟨n4, h⟩ := h
  exact b_X2_weightOfAll_L4 F A X ret  n4 (0 : Int32) (0 : Int32) _ _ _ h hP hD hS (lv_sub hl [2, 1, 0] rfl)
theorem dX2_scaredOnes_0 : decode cX2_scaredOnes 0 = .ok (.iconst 0, 1) := by decide +kernel
theorem dX2_scaredOnes_1 : decode cX2_scaredOnes 1 = .ok (.istore_n 1, 1) := by decide +kernel
theorem dX2_scaredOnes_2 : decode cX2_scaredOnes 2 = .ok (.iconst 0, 1) := by decide +kernel
theorem dX2_scaredOnes_3 : decode cX2_scaredOnes 3 = .ok (.istore_n 2, 1) := by decide +kernel
theorem dX2_scaredOnes_4 : decode cX2_scaredOnes 4 = .ok (.iload_n 2, 1) := by decide +kernel
theorem dX2_scaredOnes_5 : decode cX2_scaredOnes 5 = .ok (.aload_n 0, 1) := by decide +kernel
theorem dX2_scaredOnes_6 : decode cX2_scaredOnes 6 = .ok (.getfield 36, 3) := by decide +kernel
theorem dX2_scaredOnes_9 : decode cX2_scaredOnes 9 = .ok (.if_icmp .ge 26, 3) := by decide +kernel
theorem dX2_scaredOnes_12 : decode cX2_scaredOnes 12 = .ok (.aload_n 0, 1) := by decide +kernel
theorem dX2_scaredOnes_13 : decode cX2_scaredOnes 13 = .ok (.getfield 27, 3) := by decide +kernel
theorem dX2_scaredOnes_16 : decode cX2_scaredOnes 16 = .ok (.iload_n 2, 1) := by decide +kernel
theorem dX2_scaredOnes_17 : decode cX2_scaredOnes 17 = .ok (.iaload, 1) := by decide +kernel
theorem dX2_scaredOnes_18 : decode cX2_scaredOnes 18 = .ok (.bipush 9, 2) := by decide +kernel
theorem dX2_scaredOnes_20 : decode cX2_scaredOnes 20 = .ok (.if_icmp .ne 9, 3) := by decide +kernel
theorem dX2_scaredOnes_23 : decode cX2_scaredOnes 23 = .ok (.iload_n 1, 1) := by decide +kernel
theorem dX2_scaredOnes_24 : decode cX2_scaredOnes 24 = .ok (.iconst 1, 1) := by decide +kernel
theorem dX2_scaredOnes_25 : decode cX2_scaredOnes 25 = .ok (.iload_n 2, 1) := by decide +kernel
theorem dX2_scaredOnes_26 : decode cX2_scaredOnes 26 = .ok (.ishl, 1) := by decide +kernel
theorem dX2_scaredOnes_27 : decode cX2_scaredOnes 27 = .ok (.ior, 1) := by decide +kernel
theorem dX2_scaredOnes_28 : decode cX2_scaredOnes 28 = .ok (.istore_n 1, 1) := by decide +kernel
theorem dX2_scaredOnes_29 : decode cX2_scaredOnes 29 = .ok (.iinc 2 1, 3) := by decide +kernel
theorem dX2_scaredOnes_32 : decode cX2_scaredOnes 32 = .ok (.goto (-28), 3) := by decide +kernel
theorem dX2_scaredOnes_35 : decode cX2_scaredOnes 35 = .ok (.iload_n 1, 1) := by decide +kernel
theorem dX2_scaredOnes_36 : decode cX2_scaredOnes 36 = .ok (.ireturn, 1) := by decide +kernel
def p_X2_scaredOnes_J29 (F : tF) (A : tA) (B4 : (Int32 → Int32 → Prop)) (K : Int32 → Prop) (x1 : Int32) (x2 : Int32) : Prop := (∀ y29 : Int32, y29 = (x2 + (1 : Int32)) → (B4 x1 y29))
set_option maxHeartbeats 4000000 in
set_option maxRecDepth 100000 in
theorem b_X2_scaredOnes_J29 {p : Program} {l : Launch} {e : Env} {s : State} {m : MethodId} {args : Array Value} {below : List Frame} {meth : Method} {c : Code} {Q : State → Prop} {D : va_G} {cI cZ cR : ClassId} {adK adV : Nat → Nat} {A9 : Nat → Prop} {o : Nat} {q : Nat → Nat} {K : Int32 → Prop} {B4 : (Int32 → Int32 → Prop)} (F : tF) (A : tA) (x1 : Int32) (x2 : Int32) (X : CX p s m args c yX2_scaredOnes.cls cX2_scaredOnes 3 D cI cZ cR adK adV A9) (ret : RTi p l e (rmN 0 0) s m args below meth c Q cX2_scaredOnes D A9 (fun (r : Int32) (u : Unit) => K r) (fun (u : Unit) => (wX2 cI cZ o q F A : va_W))) (hB4 : ∀ (x1 : Int32) (x2 : Int32) (H : Heap) (locs : List Loc) (ls : Array Slot), B4 x1 x2 → va_P D vwCl (wX2 cI cZ o q F A : va_W) H → va_D A9 (wX2 cI cZ o q F A : va_W) → va_S A9 s.heap H locs → lv_has ls 3 [(0, .ref o), (1, .int x1), (2, .int x2)] → W p l e (rmN 0 0) s m args below meth c H locs 0 0 Q (F0 m 4 ls [])) (H : Heap) (locs : List Loc) (ls : Array Slot) (h : p_X2_scaredOnes_J29 F A B4 K x1 x2) (hP : va_P D vwCl (wX2 cI cZ o q F A : va_W) H) (hD : va_D A9 (wX2 cI cZ o q F A : va_W)) (hS : va_S A9 s.heap H locs) (hl : lv_has ls 3 [(0, .ref o), (1, .int x1), (2, .int x2)]) : W p l e (rmN 0 0) s m args below meth c H locs 0 0 Q (F0 m 29 ls []) := by
  obtain ⟨hx, hb, hml, ht, hown, hK, hA, hE⟩ := id X
  unfold p_X2_scaredOnes_J29 at h
  obtain ⟨y29, ey29⟩ : ∃ y : Int32, y = (x2 + (1 : Int32)) := ⟨_, rfl⟩
  replace h := h y29 ey29
  refine lv_iinc (v := y29) (lv' := [(2, .int y29), (0, .ref o), (1, .int x1)]) hx hb dX2_scaredOnes_29 hl (k := 2) rfl (by rw [ey29]; rfl) (by decide) rfl (fun ls hl => ?_)
  refine lv_goto (tgt := 4) hx hb dX2_scaredOnes_32 (by decide) ?_
  exact hB4 x1 y29 _ _ _ h hP hD hS (lv_sub hl [1, 2, 0] rfl)
def p_X2_scaredOnes_L4 (F : tF) (A : tA) (K : Int32 → Prop) : Nat → Int32 → Int32 → Prop
  | 0, _, _ => False
  | n4 + 1, x1, x2 => (((F 8) ≤ x2 → (K x1)) ∧ (¬ (F 8) ≤ x2 → (vp_in x2 8 ∧ ((¬ ((A 5) (x2).toNatClampNeg) = (9 : Int32) → (p_X2_scaredOnes_J29 F A (p_X2_scaredOnes_L4 F A K n4) K x1 x2)) ∧ (((A 5) (x2).toNatClampNeg) = (9 : Int32) → (∀ y28 : Int32, y28 = (x1 ||| ((1 : Int32) <<< (x2 &&& 31))) → (p_X2_scaredOnes_J29 F A (p_X2_scaredOnes_L4 F A K n4) K y28 x2)))))))
set_option maxHeartbeats 4000000 in
set_option maxRecDepth 100000 in
theorem b_X2_scaredOnes_L4 {p : Program} {l : Launch} {e : Env} {s : State} {m : MethodId} {args : Array Value} {below : List Frame} {meth : Method} {c : Code} {Q : State → Prop} {D : va_G} {cI cZ cR : ClassId} {adK adV : Nat → Nat} {A9 : Nat → Prop} {o : Nat} {q : Nat → Nat} {K : Int32 → Prop}  (F : tF) (A : tA) (X : CX p s m args c yX2_scaredOnes.cls cX2_scaredOnes 3 D cI cZ cR adK adV A9) (ret : RTi p l e (rmN 0 0) s m args below meth c Q cX2_scaredOnes D A9 (fun (r : Int32) (u : Unit) => K r) (fun (u : Unit) => (wX2 cI cZ o q F A : va_W)))   : ∀ (n : Nat) (x1 : Int32) (x2 : Int32) (H : Heap) (locs : List Loc) (ls : Array Slot), p_X2_scaredOnes_L4 F A K n x1 x2 → va_P D vwCl (wX2 cI cZ o q F A : va_W) H → va_D A9 (wX2 cI cZ o q F A : va_W) → va_S A9 s.heap H locs → lv_has ls 3 [(0, .ref o), (1, .int x1), (2, .int x2)] → W p l e (rmN 0 0) s m args below meth c H locs 0 0 Q (F0 m 4 ls []) := by
  obtain ⟨hx, hb, hml, ht, hown, hK, hA, hE⟩ := id X
  intro n
  induction n with
  | zero => intro x1 x2 H locs ls h; exact False.elim h
  | succ n4 ih =>
    intro x1 x2 H locs ls h hP hD hS hl
    rw [p_X2_scaredOnes_L4] at h
    refine lv_iload_n hx hb dX2_scaredOnes_4 rfl (lv_at hl 2 rfl) ?_
    refine lv_aload_n hx hb dX2_scaredOnes_5 rfl (lv_at hl 0 rfl) ?_
    refine va_get (C := RX2) (T := TX2) (N := 13) (own := RX2) (v := .int (F 8)) hx hb ht inlX2 hown hK hP 0 rfl rfl 8 (Nat.le_of_ble_eq_true rfl) (ht _ mw_3_7) (fun _ h9 => h9) rfl dX2_scaredOnes_6 ?_
    refine lv_icmp_ge (tgt := 35) hx hb dX2_scaredOnes_9 (by decide) (fun c9 => ?_) (fun c9 => ?_)
    · replace h := h.1 c9
      refine lv_iload_n hx hb dX2_scaredOnes_35 rfl (lv_at hl 1 rfl) ?_
      exact ret _ () _ _ _ _ dX2_scaredOnes_36 h hP hD hS
    · replace h := h.2 c9
      refine lv_aload_n hx hb dX2_scaredOnes_12 rfl (lv_at hl 0 rfl) ?_
      refine va_get (C := RX2) (T := TX2) (N := 13) (own := RX2) (v := .ref (q 5)) hx hb ht inlX2 hown hK hP 0 rfl rfl 5 (Nat.le_of_ble_eq_true rfl) (ht _ mw_3_4) (fun _ h9 => h9) rfl dX2_scaredOnes_13 ?_
      refine lv_iload_n hx hb dX2_scaredOnes_16 rfl (lv_at hl 2 rfl) ?_
      obtain ⟨hi17, h⟩ := h
      refine g_iald (f := (A 5)) (k := (x2).toNatClampNeg) hx hb hK hP 6 0 rfl rfl hi17 rfl dX2_scaredOnes_17 ?_
      refine lv_bipush (v := 9) hx hb dX2_scaredOnes_18 (by decide) ?_
      refine lv_icmp_ne (tgt := 29) hx hb dX2_scaredOnes_20 (by decide) (fun c20 => ?_) (fun c20 => ?_)
      · replace h := h.1 c20
        exact b_X2_scaredOnes_J29 F A x1 x2 X ret ih _ _ _ h hP hD hS (lv_sub hl [0, 1, 2] rfl)
      · replace h := h.2 c20
        refine lv_iload_n hx hb dX2_scaredOnes_23 rfl (lv_at hl 1 rfl) ?_
        refine lv_iconst (v := 1) hx hb dX2_scaredOnes_24 (by decide) ?_
        refine lv_iload_n hx hb dX2_scaredOnes_25 rfl (lv_at hl 2 rfl) ?_
        refine lv_ishl hx hb dX2_scaredOnes_26 ?_
        refine lv_ior hx hb dX2_scaredOnes_27 ?_
        refine lv_topi (fun y28 ey28 => ?_)
        replace h := h y28 ey28
        refine lv_istore_n (lv' := [(1, .int y28), (0, .ref o), (2, .int x2)]) hx hb dX2_scaredOnes_28 rfl hl (by decide) rfl (fun ls hl => ?_)
        exact b_X2_scaredOnes_J29 F A y28 x2 X ret ih _ _ _ h hP hD hS (lv_sub hl [1, 0, 2] rfl)
def p_X2_scaredOnes (F : tF) (A : tA) (K : Int32 → Prop) : Prop := (∃ n4, p_X2_scaredOnes_L4 F A K n4 (0 : Int32) (0 : Int32))
set_option maxHeartbeats 4000000 in
set_option maxRecDepth 100000 in
theorem w_X2_scaredOnes (l : Launch) (D : va_G) (cI cZ cR : ClassId) (adK adV : Nat → Nat) (sz : Nat) (o : Nat) (q : Nat → Nat) (F : tF) (A : tA) (K : Int32 → Prop) (h : p_X2_scaredOnes F A K) : MI l D cI cZ cR adK adV yX2_scaredOnes cX2_scaredOnes 3 (some .int) (rmN 0 0) [.ref o] (wX2 cI cZ o q F A : va_W) sz (fun (r : Int32) (u : Unit) => K r) (fun (u : Unit) => (wX2 cI cZ o q F A : va_W)) := by
  refine M_i (by decide +kernel) (Nat.le_of_ble_eq_true rfl) ?_
  intro p e s m args below meth c Q A9 ls X ret hP hD hS hl
  obtain ⟨hx, hb, hml, ht, hown, hK, hA, hE⟩ := id X
  have hl : lv_has ls 3 [(0, .ref o)] := hl
  unfold p_X2_scaredOnes at h
  refine lv_iconst (v := 0) hx hb dX2_scaredOnes_0 (by decide) ?_
  refine lv_istore_n (lv' := [(1, .int (0 : Int32)), (0, .ref o)]) hx hb dX2_scaredOnes_1 rfl hl (by decide) rfl (fun ls hl => ?_)
  refine lv_iconst (v := 0) hx hb dX2_scaredOnes_2 (by decide) ?_
  refine lv_istore_n (lv' := [(2, .int (0 : Int32)), (1, .int (0 : Int32)), (0, .ref o)]) hx hb dX2_scaredOnes_3 rfl hl (by decide) rfl (fun ls hl => ?_)
  obtain ⟨n4, h⟩ := h
  exact b_X2_scaredOnes_L4 F A X ret  n4 (0 : Int32) (0 : Int32) _ _ _ h hP hD hS (lv_sub hl [2, 1, 0] rfl)
theorem dX2_placesWithVotes_0 : decode cX2_placesWithVotes 0 = .ok (.aload_n 0, 1) := by decide +kernel
theorem dX2_placesWithVotes_1 : decode cX2_placesWithVotes 1 = .ok (.invokevirtual 84, 3) := by decide +kernel
theorem dX2_placesWithVotes_4 : decode cX2_placesWithVotes 4 = .ok (.iconst 0, 1) := by decide +kernel
theorem dX2_placesWithVotes_5 : decode cX2_placesWithVotes 5 = .ok (.istore_n 1, 1) := by decide +kernel
theorem dX2_placesWithVotes_6 : decode cX2_placesWithVotes 6 = .ok (.iconst 0, 1) := by decide +kernel
theorem dX2_placesWithVotes_7 : decode cX2_placesWithVotes 7 = .ok (.istore_n 2, 1) := by decide +kernel
theorem dX2_placesWithVotes_8 : decode cX2_placesWithVotes 8 = .ok (.iload_n 2, 1) := by decide +kernel
theorem dX2_placesWithVotes_9 : decode cX2_placesWithVotes 9 = .ok (.bipush 6, 2) := by decide +kernel
theorem dX2_placesWithVotes_11 : decode cX2_placesWithVotes 11 = .ok (.if_icmp .ge 21, 3) := by decide +kernel
theorem dX2_placesWithVotes_14 : decode cX2_placesWithVotes 14 = .ok (.aload_n 0, 1) := by decide +kernel
theorem dX2_placesWithVotes_15 : decode cX2_placesWithVotes 15 = .ok (.getfield 33, 3) := by decide +kernel
theorem dX2_placesWithVotes_18 : decode cX2_placesWithVotes 18 = .ok (.iload_n 2, 1) := by decide +kernel
theorem dX2_placesWithVotes_19 : decode cX2_placesWithVotes 19 = .ok (.iaload, 1) := by decide +kernel
theorem dX2_placesWithVotes_20 : decode cX2_placesWithVotes 20 = .ok (.ifCond .eq 6, 3) := by decide +kernel
theorem dX2_placesWithVotes_23 : decode cX2_placesWithVotes 23 = .ok (.iinc 1 1, 3) := by decide +kernel
theorem dX2_placesWithVotes_26 : decode cX2_placesWithVotes 26 = .ok (.iinc 2 1, 3) := by decide +kernel
theorem dX2_placesWithVotes_29 : decode cX2_placesWithVotes 29 = .ok (.goto (-21), 3) := by decide +kernel
theorem dX2_placesWithVotes_32 : decode cX2_placesWithVotes 32 = .ok (.iload_n 1, 1) := by decide +kernel
theorem dX2_placesWithVotes_33 : decode cX2_placesWithVotes 33 = .ok (.ireturn, 1) := by decide +kernel
def p_X2_placesWithVotes_J26 (F : tF) (A : tA) (B8 : (Int32 → Int32 → Prop)) (K : Int32 → tF → tA → Prop) (x1 : Int32) (x2 : Int32) : Prop := (∀ y26 : Int32, y26 = (x2 + (1 : Int32)) → (B8 x1 y26))
set_option maxHeartbeats 4000000 in
set_option maxRecDepth 100000 in
theorem b_X2_placesWithVotes_J26 {p : Program} {l : Launch} {e : Env} {s : State} {m : MethodId} {args : Array Value} {below : List Frame} {meth : Method} {c : Code} {Q : State → Prop} {D : va_G} {cI cZ cR : ClassId} {adK adV : Nat → Nat} {A9 : Nat → Prop} {o : Nat} {q : Nat → Nat} {K : Int32 → tF → tA → Prop} {B8 : (Int32 → Int32 → Prop)} (F : tF) (A : tA) (x1 : Int32) (x2 : Int32) (X : CX p s m args c yX2_placesWithVotes.cls cX2_placesWithVotes 3 D cI cZ cR adK adV A9) (ret : RTi p l e (rmN 4 170) s m args below meth c Q cX2_placesWithVotes D A9 (fun (r : Int32) (u : (tF × tA)) => K r u.1 u.2) (fun (u : (tF × tA)) => (wX2 cI cZ o q u.1 u.2 : va_W))) (hB8 : ∀ (x1 : Int32) (x2 : Int32) (H : Heap) (locs : List Loc) (ls : Array Slot), B8 x1 x2 → va_P D vwCl (wX2 cI cZ o q F A : va_W) H → va_D A9 (wX2 cI cZ o q F A : va_W) → va_S A9 s.heap H locs → lv_has ls 3 [(0, .ref o), (1, .int x1), (2, .int x2)] → W p l e (rmN 4 170) s m args below meth c H locs 0 0 Q (F0 m 8 ls [])) (H : Heap) (locs : List Loc) (ls : Array Slot) (h : p_X2_placesWithVotes_J26 F A B8 K x1 x2) (hP : va_P D vwCl (wX2 cI cZ o q F A : va_W) H) (hD : va_D A9 (wX2 cI cZ o q F A : va_W)) (hS : va_S A9 s.heap H locs) (hl : lv_has ls 3 [(0, .ref o), (1, .int x1), (2, .int x2)]) : W p l e (rmN 4 170) s m args below meth c H locs 0 0 Q (F0 m 26 ls []) := by
  obtain ⟨hx, hb, hml, ht, hown, hK, hA, hE⟩ := id X
  unfold p_X2_placesWithVotes_J26 at h
  obtain ⟨y26, ey26⟩ : ∃ y : Int32, y = (x2 + (1 : Int32)) := ⟨_, rfl⟩
  replace h := h y26 ey26
  refine lv_iinc (v := y26) (lv' := [(2, .int y26), (0, .ref o), (1, .int x1)]) hx hb dX2_placesWithVotes_26 hl (k := 2) rfl (by rw [ey26]; rfl) (by decide) rfl (fun ls hl => ?_)
  refine lv_goto (tgt := 8) hx hb dX2_placesWithVotes_29 (by decide) ?_
  exact hB8 x1 y26 _ _ _ h hP hD hS (lv_sub hl [1, 2, 0] rfl)
def p_X2_placesWithVotes_L8 (F : tF) (A : tA) (K : Int32 → tF → tA → Prop) : Nat → Int32 → Int32 → Prop
  | 0, _, _ => False
  | n8 + 1, x1, x2 => (((6 : Int32) ≤ x2 → (K x1 F A)) ∧ (¬ (6 : Int32) ≤ x2 → (vp_in x2 6 ∧ ((((A 7) (x2).toNatClampNeg) = 0 → (p_X2_placesWithVotes_J26 F A (p_X2_placesWithVotes_L8 F A K n8) K x1 x2)) ∧ (¬ ((A 7) (x2).toNatClampNeg) = 0 → (∀ y23 : Int32, y23 = (x1 + (1 : Int32)) → (p_X2_placesWithVotes_J26 F A (p_X2_placesWithVotes_L8 F A K n8) K y23 x2)))))))
set_option maxHeartbeats 4000000 in
set_option maxRecDepth 100000 in
theorem b_X2_placesWithVotes_L8 {p : Program} {l : Launch} {e : Env} {s : State} {m : MethodId} {args : Array Value} {below : List Frame} {meth : Method} {c : Code} {Q : State → Prop} {D : va_G} {cI cZ cR : ClassId} {adK adV : Nat → Nat} {A9 : Nat → Prop} {o : Nat} {q : Nat → Nat} {K : Int32 → tF → tA → Prop}  (F : tF) (A : tA) (X : CX p s m args c yX2_placesWithVotes.cls cX2_placesWithVotes 3 D cI cZ cR adK adV A9) (ret : RTi p l e (rmN 4 170) s m args below meth c Q cX2_placesWithVotes D A9 (fun (r : Int32) (u : (tF × tA)) => K r u.1 u.2) (fun (u : (tF × tA)) => (wX2 cI cZ o q u.1 u.2 : va_W)))   : ∀ (n : Nat) (x1 : Int32) (x2 : Int32) (H : Heap) (locs : List Loc) (ls : Array Slot), p_X2_placesWithVotes_L8 F A K n x1 x2 → va_P D vwCl (wX2 cI cZ o q F A : va_W) H → va_D A9 (wX2 cI cZ o q F A : va_W) → va_S A9 s.heap H locs → lv_has ls 3 [(0, .ref o), (1, .int x1), (2, .int x2)] → W p l e (rmN 4 170) s m args below meth c H locs 0 0 Q (F0 m 8 ls []) := by
  obtain ⟨hx, hb, hml, ht, hown, hK, hA, hE⟩ := id X
  intro n
  induction n with
  | zero => intro x1 x2 H locs ls h; exact False.elim h
  | succ n8 ih =>
    intro x1 x2 H locs ls h hP hD hS hl
    rw [p_X2_placesWithVotes_L8] at h
    refine lv_iload_n hx hb dX2_placesWithVotes_8 rfl (lv_at hl 2 rfl) ?_
    refine lv_bipush (v := 6) hx hb dX2_placesWithVotes_9 (by decide) ?_
    refine lv_icmp_ge (tgt := 32) hx hb dX2_placesWithVotes_11 (by decide) (fun c11 => ?_) (fun c11 => ?_)
    · replace h := h.1 c11
      refine lv_iload_n hx hb dX2_placesWithVotes_32 rfl (lv_at hl 1 rfl) ?_
      exact ret _ (F, A) _ _ _ _ dX2_placesWithVotes_33 h hP hD hS
    · replace h := h.2 c11
      refine lv_aload_n hx hb dX2_placesWithVotes_14 rfl (lv_at hl 0 rfl) ?_
      refine va_get (C := RX2) (T := TX2) (N := 13) (own := RX2) (v := .ref (q 7)) hx hb ht inlX2 hown hK hP 0 rfl rfl 7 (Nat.le_of_ble_eq_true rfl) (ht _ mw_3_6) (fun _ h9 => h9) rfl dX2_placesWithVotes_15 ?_
      refine lv_iload_n hx hb dX2_placesWithVotes_18 rfl (lv_at hl 2 rfl) ?_
      obtain ⟨hi19, h⟩ := h
      refine g_iald (f := (A 7)) (k := (x2).toNatClampNeg) hx hb hK hP 8 0 rfl rfl hi19 rfl dX2_placesWithVotes_19 ?_
      refine lv_if_eq (tgt := 26) hx hb dX2_placesWithVotes_20 (by decide) (fun c20 => ?_) (fun c20 => ?_)
      · replace h := h.1 c20
        exact b_X2_placesWithVotes_J26 F A x1 x2 X ret ih _ _ _ h hP hD hS (lv_sub hl [0, 1, 2] rfl)
      · replace h := h.2 c20
        obtain ⟨y23, ey23⟩ : ∃ y : Int32, y = (x1 + (1 : Int32)) := ⟨_, rfl⟩
        replace h := h y23 ey23
        refine lv_iinc (v := y23) (lv' := [(1, .int y23), (0, .ref o), (2, .int x2)]) hx hb dX2_placesWithVotes_23 hl (k := 1) rfl (by rw [ey23]; rfl) (by decide) rfl (fun ls hl => ?_)
        exact b_X2_placesWithVotes_J26 F A y23 x2 X ret ih _ _ _ h hP hD hS (lv_sub hl [1, 0, 2] rfl)
def p_X2_placesWithVotes (F : tF) (A : tA) (K : Int32 → tF → tA → Prop) : Prop := (p_X2_takeVotes F A (fun F_1 A_1 => (∃ n8, p_X2_placesWithVotes_L8 F_1 A_1 K n8 (0 : Int32) (0 : Int32))))
set_option maxHeartbeats 4000000 in
set_option maxRecDepth 100000 in
theorem w_X2_placesWithVotes (l : Launch) (D : va_G) (cI cZ cR : ClassId) (adK adV : Nat → Nat) (sz : Nat) (o : Nat) (q : Nat → Nat) (F : tF) (A : tA) (K : Int32 → tF → tA → Prop) (h : p_X2_placesWithVotes F A K) : MI l D cI cZ cR adK adV yX2_placesWithVotes cX2_placesWithVotes 3 (some .int) (rmN 4 170) [.ref o] (wX2 cI cZ o q F A : va_W) sz (fun (r : Int32) (u : (tF × tA)) => K r u.1 u.2) (fun (u : (tF × tA)) => (wX2 cI cZ o q u.1 u.2 : va_W)) := by
  refine M_i (by decide +kernel) (Nat.le_of_ble_eq_true rfl) ?_
  intro p e s m args below meth c Q A9 ls X ret hP hD hS hl
  obtain ⟨hx, hb, hml, ht, hown, hK, hA, hE⟩ := id X
  have hl : lv_has ls 3 [(0, .ref o)] := hl
  unfold p_X2_placesWithVotes at h
  refine lv_aload_n hx hb dX2_placesWithVotes_0 rfl (lv_at hl 0 rfl) ?_
  refine C_vv (wr := []) X hP hD hS [] [] (w_X2_takeVotes l D cI cZ cR adK adV _ o q F A _ h) cal_X2_takeVotes mw_25_4 rfl [0, 1, 2, 3, 4, 5, 6, 7, 8] [] [0, 1, 2, 3, 4, 5, 6, 7, 8] (fun u => (wX2 cI cZ o q u.1 u.2 : va_W)) rfl rfl (fun _ => rfl) rfl 0 rfl rfl ⟨rfl, rfl⟩ ⟨Nat.le_of_ble_eq_true rfl, Nat.le_of_ble_eq_true rfl⟩ hl.1 rfl (Nat.le_of_ble_eq_true rfl) ⟨Nat.zero_le _, Nat.zero_le _⟩ dX2_placesWithVotes_1 (fun u H locs h hP hD hS => ?_)
  obtain ⟨F_1, A_1⟩ := u
  try dsimp only at h
  have hP : va_P D vwCl (wX2 cI cZ o q F_1 A_1 : va_W) H := hP
  have hD : va_D A9 (wX2 cI cZ o q F_1 A_1 : va_W) := hD
  refine lv_iconst (v := 0) hx hb dX2_placesWithVotes_4 (by decide) ?_
  refine lv_istore_n (lv' := [(1, .int (0 : Int32)), (0, .ref o)]) hx hb dX2_placesWithVotes_5 rfl hl (by decide) rfl (fun ls hl => ?_)
  refine lv_iconst (v := 0) hx hb dX2_placesWithVotes_6 (by decide) ?_
  refine lv_istore_n (lv' := [(2, .int (0 : Int32)), (1, .int (0 : Int32)), (0, .ref o)]) hx hb dX2_placesWithVotes_7 rfl hl (by decide) rfl (fun ls hl => ?_)
  obtain ⟨n8, h⟩ := h
  exact b_X2_placesWithVotes_L8 F_1 A_1 X ret  n8 (0 : Int32) (0 : Int32) _ _ _ h hP hD hS (lv_sub hl [2, 1, 0] rfl)
theorem dX2_onesThatCount_0 : decode cX2_onesThatCount 0 = .ok (.iconst 0, 1) := by decide +kernel
theorem dX2_onesThatCount_1 : decode cX2_onesThatCount 1 = .ok (.istore_n 1, 1) := by decide +kernel
theorem dX2_onesThatCount_2 : decode cX2_onesThatCount 2 = .ok (.iconst 0, 1) := by decide +kernel
theorem dX2_onesThatCount_3 : decode cX2_onesThatCount 3 = .ok (.istore_n 2, 1) := by decide +kernel
theorem dX2_onesThatCount_4 : decode cX2_onesThatCount 4 = .ok (.iload_n 2, 1) := by decide +kernel
theorem dX2_onesThatCount_5 : decode cX2_onesThatCount 5 = .ok (.aload_n 0, 1) := by decide +kernel
theorem dX2_onesThatCount_6 : decode cX2_onesThatCount 6 = .ok (.getfield 36, 3) := by decide +kernel
theorem dX2_onesThatCount_9 : decode cX2_onesThatCount 9 = .ok (.if_icmp .ge 20, 3) := by decide +kernel
theorem dX2_onesThatCount_12 : decode cX2_onesThatCount 12 = .ok (.aload_n 0, 1) := by decide +kernel
theorem dX2_onesThatCount_13 : decode cX2_onesThatCount 13 = .ok (.iload_n 2, 1) := by decide +kernel
theorem dX2_onesThatCount_14 : decode cX2_onesThatCount 14 = .ok (.invokevirtual 81, 3) := by decide +kernel
theorem dX2_onesThatCount_17 : decode cX2_onesThatCount 17 = .ok (.ifCond .eq 6, 3) := by decide +kernel
theorem dX2_onesThatCount_20 : decode cX2_onesThatCount 20 = .ok (.iinc 1 1, 3) := by decide +kernel
theorem dX2_onesThatCount_23 : decode cX2_onesThatCount 23 = .ok (.iinc 2 1, 3) := by decide +kernel
theorem dX2_onesThatCount_26 : decode cX2_onesThatCount 26 = .ok (.goto (-22), 3) := by decide +kernel
theorem dX2_onesThatCount_29 : decode cX2_onesThatCount 29 = .ok (.iload_n 1, 1) := by decide +kernel
theorem dX2_onesThatCount_30 : decode cX2_onesThatCount 30 = .ok (.ireturn, 1) := by decide +kernel
def p_X2_onesThatCount_J23 (F : tF) (A : tA) (B4 : (Int32 → Int32 → Prop)) (K : Int32 → Prop) (x1 : Int32) (x2 : Int32) : Prop := (∀ y23 : Int32, y23 = (x2 + (1 : Int32)) → (B4 x1 y23))
set_option maxHeartbeats 4000000 in
set_option maxRecDepth 100000 in
theorem b_X2_onesThatCount_J23 {p : Program} {l : Launch} {e : Env} {s : State} {m : MethodId} {args : Array Value} {below : List Frame} {meth : Method} {c : Code} {Q : State → Prop} {D : va_G} {cI cZ cR : ClassId} {adK adV : Nat → Nat} {A9 : Nat → Prop} {o : Nat} {q : Nat → Nat} {K : Int32 → Prop} {B4 : (Int32 → Int32 → Prop)} (F : tF) (A : tA) (x1 : Int32) (x2 : Int32) (X : CX p s m args c yX2_onesThatCount.cls cX2_onesThatCount 3 D cI cZ cR adK adV A9) (ret : RTi p l e (rmN 1 22) s m args below meth c Q cX2_onesThatCount D A9 (fun (r : Int32) (u : Unit) => K r) (fun (u : Unit) => (wX2 cI cZ o q F A : va_W))) (hB4 : ∀ (x1 : Int32) (x2 : Int32) (H : Heap) (locs : List Loc) (ls : Array Slot), B4 x1 x2 → va_P D vwCl (wX2 cI cZ o q F A : va_W) H → va_D A9 (wX2 cI cZ o q F A : va_W) → va_S A9 s.heap H locs → lv_has ls 3 [(0, .ref o), (1, .int x1), (2, .int x2)] → W p l e (rmN 1 22) s m args below meth c H locs 0 0 Q (F0 m 4 ls [])) (H : Heap) (locs : List Loc) (ls : Array Slot) (h : p_X2_onesThatCount_J23 F A B4 K x1 x2) (hP : va_P D vwCl (wX2 cI cZ o q F A : va_W) H) (hD : va_D A9 (wX2 cI cZ o q F A : va_W)) (hS : va_S A9 s.heap H locs) (hl : lv_has ls 3 [(0, .ref o), (1, .int x1), (2, .int x2)]) : W p l e (rmN 1 22) s m args below meth c H locs 0 0 Q (F0 m 23 ls []) := by
  obtain ⟨hx, hb, hml, ht, hown, hK, hA, hE⟩ := id X
  unfold p_X2_onesThatCount_J23 at h
  obtain ⟨y23, ey23⟩ : ∃ y : Int32, y = (x2 + (1 : Int32)) := ⟨_, rfl⟩
  replace h := h y23 ey23
  refine lv_iinc (v := y23) (lv' := [(2, .int y23), (0, .ref o), (1, .int x1)]) hx hb dX2_onesThatCount_23 hl (k := 2) rfl (by rw [ey23]; rfl) (by decide) rfl (fun ls hl => ?_)
  refine lv_goto (tgt := 4) hx hb dX2_onesThatCount_26 (by decide) ?_
  exact hB4 x1 y23 _ _ _ h hP hD hS (lv_sub hl [1, 2, 0] rfl)
def p_X2_onesThatCount_L4 (F : tF) (A : tA) (K : Int32 → Prop) : Nat → Int32 → Int32 → Prop
  | 0, _, _ => False
  | n4 + 1, x1, x2 => (((F 8) ≤ x2 → (K x1)) ∧ (¬ (F 8) ≤ x2 → (p_X2_weightOf F A x2 (fun r14 => ((r14 = 0 → (p_X2_onesThatCount_J23 F A (p_X2_onesThatCount_L4 F A K n4) K x1 x2)) ∧ (¬ r14 = 0 → (∀ y20 : Int32, y20 = (x1 + (1 : Int32)) → (p_X2_onesThatCount_J23 F A (p_X2_onesThatCount_L4 F A K n4) K y20 x2))))))))
set_option maxHeartbeats 4000000 in
set_option maxRecDepth 100000 in
theorem b_X2_onesThatCount_L4 {p : Program} {l : Launch} {e : Env} {s : State} {m : MethodId} {args : Array Value} {below : List Frame} {meth : Method} {c : Code} {Q : State → Prop} {D : va_G} {cI cZ cR : ClassId} {adK adV : Nat → Nat} {A9 : Nat → Prop} {o : Nat} {q : Nat → Nat} {K : Int32 → Prop}  (F : tF) (A : tA) (X : CX p s m args c yX2_onesThatCount.cls cX2_onesThatCount 3 D cI cZ cR adK adV A9) (ret : RTi p l e (rmN 1 22) s m args below meth c Q cX2_onesThatCount D A9 (fun (r : Int32) (u : Unit) => K r) (fun (u : Unit) => (wX2 cI cZ o q F A : va_W)))   : ∀ (n : Nat) (x1 : Int32) (x2 : Int32) (H : Heap) (locs : List Loc) (ls : Array Slot), p_X2_onesThatCount_L4 F A K n x1 x2 → va_P D vwCl (wX2 cI cZ o q F A : va_W) H → va_D A9 (wX2 cI cZ o q F A : va_W) → va_S A9 s.heap H locs → lv_has ls 3 [(0, .ref o), (1, .int x1), (2, .int x2)] → W p l e (rmN 1 22) s m args below meth c H locs 0 0 Q (F0 m 4 ls []) := by
  obtain ⟨hx, hb, hml, ht, hown, hK, hA, hE⟩ := id X
  intro n
  induction n with
  | zero => intro x1 x2 H locs ls h; exact False.elim h
  | succ n4 ih =>
    intro x1 x2 H locs ls h hP hD hS hl
    rw [p_X2_onesThatCount_L4] at h
    refine lv_iload_n hx hb dX2_onesThatCount_4 rfl (lv_at hl 2 rfl) ?_
    refine lv_aload_n hx hb dX2_onesThatCount_5 rfl (lv_at hl 0 rfl) ?_
    refine va_get (C := RX2) (T := TX2) (N := 13) (own := RX2) (v := .int (F 8)) hx hb ht inlX2 hown hK hP 0 rfl rfl 8 (Nat.le_of_ble_eq_true rfl) (ht _ mw_3_7) (fun _ h9 => h9) rfl dX2_onesThatCount_6 ?_
    refine lv_icmp_ge (tgt := 29) hx hb dX2_onesThatCount_9 (by decide) (fun c9 => ?_) (fun c9 => ?_)
    · replace h := h.1 c9
      refine lv_iload_n hx hb dX2_onesThatCount_29 rfl (lv_at hl 1 rfl) ?_
      exact ret _ () _ _ _ _ dX2_onesThatCount_30 h hP hD hS
    · replace h := h.2 c9
      refine lv_aload_n hx hb dX2_onesThatCount_12 rfl (lv_at hl 0 rfl) ?_
      refine lv_iload_n hx hb dX2_onesThatCount_13 rfl (lv_at hl 2 rfl) ?_
      refine C_vi (wr := []) X hP hD hS [.int x2] [] (w_X2_weightOf l D cI cZ cR adK adV _ o q F A x2 _ h) cal_X2_weightOf mw_22_8 rfl [0, 1, 2, 3, 4, 5, 6, 7, 8] [] [0, 1, 2, 3, 4, 5, 6, 7, 8] (fun u => (wX2 cI cZ o q F A : va_W)) rfl rfl (fun _ => rfl) rfl 0 rfl rfl ⟨rfl, rfl⟩ ⟨Nat.le_of_ble_eq_true rfl, Nat.le_of_ble_eq_true rfl⟩ hl.1 rfl (Nat.le_of_ble_eq_true rfl) ⟨Nat.zero_le _, Nat.zero_le _⟩ dX2_onesThatCount_14 (fun r14 u H locs h hP hD hS => ?_)
      refine lv_if_eq (tgt := 23) hx hb dX2_onesThatCount_17 (by decide) (fun c17 => ?_) (fun c17 => ?_)
      · replace h := h.1 c17
        exact b_X2_onesThatCount_J23 F A x1 x2 X ret ih _ _ _ h hP hD hS (lv_sub hl [0, 1, 2] rfl)
      · replace h := h.2 c17
        obtain ⟨y20, ey20⟩ : ∃ y : Int32, y = (x1 + (1 : Int32)) := ⟨_, rfl⟩
        replace h := h y20 ey20
        refine lv_iinc (v := y20) (lv' := [(1, .int y20), (0, .ref o), (2, .int x2)]) hx hb dX2_onesThatCount_20 hl (k := 1) rfl (by rw [ey20]; rfl) (by decide) rfl (fun ls hl => ?_)
        exact b_X2_onesThatCount_J23 F A y20 x2 X ret ih _ _ _ h hP hD hS (lv_sub hl [1, 0, 2] rfl)
def p_X2_onesThatCount (F : tF) (A : tA) (K : Int32 → Prop) : Prop := (∃ n4, p_X2_onesThatCount_L4 F A K n4 (0 : Int32) (0 : Int32))
set_option maxHeartbeats 4000000 in
set_option maxRecDepth 100000 in
theorem w_X2_onesThatCount (l : Launch) (D : va_G) (cI cZ cR : ClassId) (adK adV : Nat → Nat) (sz : Nat) (o : Nat) (q : Nat → Nat) (F : tF) (A : tA) (K : Int32 → Prop) (h : p_X2_onesThatCount F A K) : MI l D cI cZ cR adK adV yX2_onesThatCount cX2_onesThatCount 3 (some .int) (rmN 1 22) [.ref o] (wX2 cI cZ o q F A : va_W) sz (fun (r : Int32) (u : Unit) => K r) (fun (u : Unit) => (wX2 cI cZ o q F A : va_W)) := by
  refine M_i (by decide +kernel) (Nat.le_of_ble_eq_true rfl) ?_
  intro p e s m args below meth c Q A9 ls X ret hP hD hS hl
  obtain ⟨hx, hb, hml, ht, hown, hK, hA, hE⟩ := id X
  have hl : lv_has ls 3 [(0, .ref o)] := hl
  unfold p_X2_onesThatCount at h
  refine lv_iconst (v := 0) hx hb dX2_onesThatCount_0 (by decide) ?_
  refine lv_istore_n (lv' := [(1, .int (0 : Int32)), (0, .ref o)]) hx hb dX2_onesThatCount_1 rfl hl (by decide) rfl (fun ls hl => ?_)
  refine lv_iconst (v := 0) hx hb dX2_onesThatCount_2 (by decide) ?_
  refine lv_istore_n (lv' := [(2, .int (0 : Int32)), (1, .int (0 : Int32)), (0, .ref o)]) hx hb dX2_onesThatCount_3 rfl hl (by decide) rfl (fun ls hl => ?_)
  obtain ⟨n4, h⟩ := h
  exact b_X2_onesThatCount_L4 F A X ret  n4 (0 : Int32) (0 : Int32) _ _ _ h hP hD hS (lv_sub hl [2, 1, 0] rfl)
