/-! 12.dogs3: what the bytecode of these methods asks, and the walks (written by wip/gen/mk.py) -/
theorem dX5_narrowed_0 : decode cX5_narrowed 0 = .ok (.aload_n 0, 1) := by decide +kernel
theorem dX5_narrowed_1 : decode cX5_narrowed 1 = .ok (.getfield 7, 3) := by decide +kernel
theorem dX5_narrowed_4 : decode cX5_narrowed 4 = .ok (.ifCond .ne 6, 3) := by decide +kernel
theorem dX5_narrowed_7 : decode cX5_narrowed 7 = .ok (.iload_n 1, 1) := by decide +kernel
theorem dX5_narrowed_8 : decode cX5_narrowed 8 = .ok (.i2b, 1) := by decide +kernel
theorem dX5_narrowed_9 : decode cX5_narrowed 9 = .ok (.ireturn, 1) := by decide +kernel
theorem dX5_narrowed_10 : decode cX5_narrowed 10 = .ok (.aload_n 0, 1) := by decide +kernel
theorem dX5_narrowed_11 : decode cX5_narrowed 11 = .ok (.getfield 7, 3) := by decide +kernel
theorem dX5_narrowed_14 : decode cX5_narrowed 14 = .ok (.iconst 1, 1) := by decide +kernel
theorem dX5_narrowed_15 : decode cX5_narrowed 15 = .ok (.if_icmp .ne 8, 3) := by decide +kernel
theorem dX5_narrowed_18 : decode cX5_narrowed 18 = .ok (.iload_n 1, 1) := by decide +kernel
theorem dX5_narrowed_19 : decode cX5_narrowed 19 = .ok (.i2s, 1) := by decide +kernel
theorem dX5_narrowed_20 : decode cX5_narrowed 20 = .ok (.goto 4, 3) := by decide +kernel
theorem dX5_narrowed_23 : decode cX5_narrowed 23 = .ok (.iload_n 1, 1) := by decide +kernel
theorem dX5_narrowed_24 : decode cX5_narrowed 24 = .ok (.ireturn, 1) := by decide +kernel
def p_X5_narrowed (oR : Nat) (nR : Nat) (FR : tF) (AR : tA) (x1 : Int32) (K : Int32 → Prop) : Prop := ((¬ (FR 0) = 0 → ((¬ (FR 0) = (1 : Int32) → (K x1)) ∧ ((FR 0) = (1 : Int32) → (K ((x1).toInt16.toInt32))))) ∧ ((FR 0) = 0 → (K ((x1).toInt8.toInt32))))
set_option maxHeartbeats 4000000 in
set_option maxRecDepth 100000 in
theorem w_X5_narrowed (l : Launch) (D : va_G) (cI cZ cR : ClassId) (adK adV : Nat → Nat) (sz : Nat) (qR : Nat → Nat) (oR : Nat) (nR : Nat) (FR : tF) (AR : tA) (x1 : Int32) (K : Int32 → Prop) (h : p_X5_narrowed oR nR FR AR x1 K) : MI l D cI cZ cR adK adV yX5_narrowed cX5_narrowed 2 (some .int) (rmN 0 0) [.ref oR, .int x1] (wX5 cI cZ nR oR qR FR AR : va_W) sz (fun (r : Int32) (u : Unit) => K r) (fun (u : Unit) => (wX5 cI cZ nR oR qR FR AR : va_W)) := by
  refine M_i (by decide +kernel) (Nat.le_of_ble_eq_true rfl) ?_
  intro p e s m args below meth c Q A9 ls X ret hP hD hS hl
  obtain ⟨hx, hb, hml, ht, hown, hK, hA, hE⟩ := id X
  have hl : lv_has ls 2 [(0, .ref oR), (1, .int x1)] := hl
  unfold p_X5_narrowed at h
  refine lv_aload_n hx hb dX5_narrowed_0 rfl (lv_at hl 0 rfl) ?_
  refine va_get (C := RX5) (T := TX5) (N := 2) (own := RX5) (v := .int (FR 0)) hx hb ht inlX5 hown hK hP 0 rfl rfl 0 (Nat.le_of_ble_eq_true rfl) (ht _ mw_44_0) (fun _ h9 => h9) rfl dX5_narrowed_1 ?_
  refine lv_if_ne (tgt := 10) hx hb dX5_narrowed_4 (by decide) (fun c4 => ?_) (fun c4 => ?_)
  · replace h := h.1 c4
    refine lv_aload_n hx hb dX5_narrowed_10 rfl (lv_at hl 0 rfl) ?_
    refine va_get (C := RX5) (T := TX5) (N := 2) (own := RX5) (v := .int (FR 0)) hx hb ht inlX5 hown hK hP 0 rfl rfl 0 (Nat.le_of_ble_eq_true rfl) (ht _ mw_44_0) (fun _ h9 => h9) rfl dX5_narrowed_11 ?_
    refine lv_iconst (v := 1) hx hb dX5_narrowed_14 (by decide) ?_
    refine lv_icmp_ne (tgt := 23) hx hb dX5_narrowed_15 (by decide) (fun c15 => ?_) (fun c15 => ?_)
    · replace h := h.1 c15
      refine lv_iload_n hx hb dX5_narrowed_23 rfl (lv_at hl 1 rfl) ?_
      exact ret _ () _ _ _ _ dX5_narrowed_24 h hP hD hS
    · replace h := h.2 c15
      refine lv_iload_n hx hb dX5_narrowed_18 rfl (lv_at hl 1 rfl) ?_
      refine lv_i2s (v := (x1).toInt16.toInt32) hx hb dX5_narrowed_19 rfl ?_
      refine lv_goto (tgt := 24) hx hb dX5_narrowed_20 (by decide) ?_
      exact ret _ () _ _ _ _ dX5_narrowed_24 h hP hD hS
  · replace h := h.2 c4
    refine lv_iload_n hx hb dX5_narrowed_7 rfl (lv_at hl 1 rfl) ?_
    refine lv_i2b (v := (x1).toInt8.toInt32) hx hb dX5_narrowed_8 rfl ?_
    exact ret _ () _ _ _ _ dX5_narrowed_9 h hP hD hS
theorem dX6_goesAsTold_0 : decode cX6_goesAsTold 0 = .ok (.iconst 0, 1) := by decide +kernel
theorem dX6_goesAsTold_1 : decode cX6_goesAsTold 1 = .ok (.istore_n 2, 1) := by decide +kernel
theorem dX6_goesAsTold_2 : decode cX6_goesAsTold 2 = .ok (.iload_n 2, 1) := by decide +kernel
theorem dX6_goesAsTold_3 : decode cX6_goesAsTold 3 = .ok (.aload_n 1, 1) := by decide +kernel
theorem dX6_goesAsTold_4 : decode cX6_goesAsTold 4 = .ok (.getfield 267, 3) := by decide +kernel
theorem dX6_goesAsTold_7 : decode cX6_goesAsTold 7 = .ok (.arraylength, 1) := by decide +kernel
theorem dX6_goesAsTold_8 : decode cX6_goesAsTold 8 = .ok (.if_icmp .ge 44, 3) := by decide +kernel
theorem dX6_goesAsTold_11 : decode cX6_goesAsTold 11 = .ok (.aload_n 0, 1) := by decide +kernel
theorem dX6_goesAsTold_12 : decode cX6_goesAsTold 12 = .ok (.getfield 16, 3) := by decide +kernel
theorem dX6_goesAsTold_15 : decode cX6_goesAsTold 15 = .ok (.invokevirtual 177, 3) := by decide +kernel
theorem dX6_goesAsTold_18 : decode cX6_goesAsTold 18 = .ok (.aload_n 1, 1) := by decide +kernel
theorem dX6_goesAsTold_19 : decode cX6_goesAsTold 19 = .ok (.getfield 267, 3) := by decide +kernel
theorem dX6_goesAsTold_22 : decode cX6_goesAsTold 22 = .ok (.iload_n 2, 1) := by decide +kernel
theorem dX6_goesAsTold_23 : decode cX6_goesAsTold 23 = .ok (.iaload, 1) := by decide +kernel
theorem dX6_goesAsTold_24 : decode cX6_goesAsTold 24 = .ok (.iconst (-1), 1) := by decide +kernel
theorem dX6_goesAsTold_25 : decode cX6_goesAsTold 25 = .ok (.if_icmp .eq 21, 3) := by decide +kernel
theorem dX6_goesAsTold_28 : decode cX6_goesAsTold 28 = .ok (.aload_n 1, 1) := by decide +kernel
theorem dX6_goesAsTold_29 : decode cX6_goesAsTold 29 = .ok (.getfield 267, 3) := by decide +kernel
theorem dX6_goesAsTold_32 : decode cX6_goesAsTold 32 = .ok (.iload_n 2, 1) := by decide +kernel
theorem dX6_goesAsTold_33 : decode cX6_goesAsTold 33 = .ok (.iaload, 1) := by decide +kernel
theorem dX6_goesAsTold_34 : decode cX6_goesAsTold 34 = .ok (.aload_n 0, 1) := by decide +kernel
theorem dX6_goesAsTold_35 : decode cX6_goesAsTold 35 = .ok (.getfield 16, 3) := by decide +kernel
theorem dX6_goesAsTold_38 : decode cX6_goesAsTold 38 = .ok (.getfield 157, 3) := by decide +kernel
theorem dX6_goesAsTold_41 : decode cX6_goesAsTold 41 = .ok (.if_icmp .eq 5, 3) := by decide +kernel
theorem dX6_goesAsTold_44 : decode cX6_goesAsTold 44 = .ok (.iconst 0, 1) := by decide +kernel
theorem dX6_goesAsTold_45 : decode cX6_goesAsTold 45 = .ok (.ireturn, 1) := by decide +kernel
theorem dX6_goesAsTold_46 : decode cX6_goesAsTold 46 = .ok (.iinc 2 1, 3) := by decide +kernel
theorem dX6_goesAsTold_49 : decode cX6_goesAsTold 49 = .ok (.goto (-47), 3) := by decide +kernel
theorem dX6_goesAsTold_52 : decode cX6_goesAsTold 52 = .ok (.iconst 1, 1) := by decide +kernel
theorem dX6_goesAsTold_53 : decode cX6_goesAsTold 53 = .ok (.ireturn, 1) := by decide +kernel
def p_X6_goesAsTold_R_J46 (oR : Nat) (nR : Nat) (F : tF) (FR : tF) (AR : tA) (Ft : tF) (At : tA) (B2 : (tF → tA → Int32 → Prop)) (K : Int32 → tF → tA → Prop) (x2 : Int32) : Prop := (∀ y46 : Int32, y46 = (x2 + (1 : Int32)) → (B2 Ft At y46))
set_option maxHeartbeats 4000000 in
set_option maxRecDepth 100000 in
theorem b_X6_goesAsTold_R_J46 {p : Program} {l : Launch} {e : Env} {s : State} {m : MethodId} {args : Array Value} {below : List Frame} {meth : Method} {c : Code} {Q : State → Prop} {D : va_G} {cI cZ cR : ClassId} {adK adV : Nat → Nat} {A9 : Nat → Prop} {o : Nat} {q : Nat → Nat} {qR : Nat → Nat} {qt : Nat → Nat} {K : Int32 → tF → tA → Prop} {B2 : (tF → tA → Int32 → Prop)} (oR : Nat) (nR : Nat) (F : tF) (FR : tF) (AR : tA) (Ft : tF) (At : tA) (x2 : Int32) (X : CX p s m args c yX6_goesAsTold.cls cX6_goesAsTold 3 D cI cZ cR adK adV A9) (ret : RTz p l e (rmN 5 193) s m args below meth c Q cX6_goesAsTold D A9 (fun (r : Int32) (u : (tF × tA)) => K r u.1 u.2) (fun (u : (tF × tA)) => (wX6 o q F ++ wX5 cI cZ nR oR qR FR AR ++ wX2 cI cZ (q 1) qt u.1 u.2 : va_W))) (hB2 : ∀ (Ft : tF) (At : tA) (x2 : Int32) (H : Heap) (locs : List Loc) (ls : Array Slot), B2 Ft At x2 → va_P D vwCl (wX6 o q F ++ wX5 cI cZ nR oR qR FR AR ++ wX2 cI cZ (q 1) qt Ft At : va_W) H → va_D A9 (wX6 o q F ++ wX5 cI cZ nR oR qR FR AR ++ wX2 cI cZ (q 1) qt Ft At : va_W) → va_S A9 s.heap H locs → lv_has ls 3 [(0, .ref o), (1, .ref oR), (2, .int x2)] → W p l e (rmN 5 193) s m args below meth c H locs 0 0 Q (F0 m 2 ls [])) (H : Heap) (locs : List Loc) (ls : Array Slot) (h : p_X6_goesAsTold_R_J46 oR nR F FR AR Ft At B2 K x2) (hP : va_P D vwCl (wX6 o q F ++ wX5 cI cZ nR oR qR FR AR ++ wX2 cI cZ (q 1) qt Ft At : va_W) H) (hD : va_D A9 (wX6 o q F ++ wX5 cI cZ nR oR qR FR AR ++ wX2 cI cZ (q 1) qt Ft At : va_W)) (hS : va_S A9 s.heap H locs) (hl : lv_has ls 3 [(0, .ref o), (1, .ref oR), (2, .int x2)]) : W p l e (rmN 5 193) s m args below meth c H locs 0 0 Q (F0 m 46 ls []) := by
  obtain ⟨hx, hb, hml, ht, hown, hK, hA, hE⟩ := id X
  unfold p_X6_goesAsTold_R_J46 at h
  obtain ⟨y46, ey46⟩ : ∃ y : Int32, y = (x2 + (1 : Int32)) := ⟨_, rfl⟩
  replace h := h y46 ey46
  refine lv_iinc (v := y46) (lv' := [(2, .int y46), (0, .ref o), (1, .ref oR)]) hx hb dX6_goesAsTold_46 hl (k := 2) rfl (by rw [ey46]; rfl) (by decide) rfl (fun ls hl => ?_)
  refine lv_goto (tgt := 2) hx hb dX6_goesAsTold_49 (by decide) ?_
  exact hB2 Ft At y46 _ _ _ h hP hD hS (lv_sub hl [1, 2, 0] rfl)
def p_X6_goesAsTold_R_L2 (oR : Nat) (nR : Nat) (F : tF) (FR : tF) (AR : tA) (K : Int32 → tF → tA → Prop) : Nat → tF → tA → Int32 → Prop
  | 0, _, _, _ => False
  | n2 + 1, Ft, At, x2 => (((Int32.ofNat nR) ≤ x2 → (K (1 : Int32) Ft At)) ∧ (¬ (Int32.ofNat nR) ≤ x2 → (p_X2_passDay Ft At (fun Ft_15 At_15 => (vp_in x2 nR ∧ ((((AR 1) (x2).toNatClampNeg) = (-1 : Int32) → (p_X6_goesAsTold_R_J46 oR nR F FR AR Ft_15 At_15 (p_X6_goesAsTold_R_L2 oR nR F FR AR K n2) K x2)) ∧ (¬ ((AR 1) (x2).toNatClampNeg) = (-1 : Int32) → (vp_in x2 nR ∧ ((((AR 1) (x2).toNatClampNeg) = (Ft_15 9) → (p_X6_goesAsTold_R_J46 oR nR F FR AR Ft_15 At_15 (p_X6_goesAsTold_R_L2 oR nR F FR AR K n2) K x2)) ∧ (¬ ((AR 1) (x2).toNatClampNeg) = (Ft_15 9) → (K (0 : Int32) Ft_15 At_15)))))))))))
set_option maxHeartbeats 4000000 in
set_option maxRecDepth 100000 in
theorem b_X6_goesAsTold_R_L2 {p : Program} {l : Launch} {e : Env} {s : State} {m : MethodId} {args : Array Value} {below : List Frame} {meth : Method} {c : Code} {Q : State → Prop} {D : va_G} {cI cZ cR : ClassId} {adK adV : Nat → Nat} {A9 : Nat → Prop} {o : Nat} {q : Nat → Nat} {qR : Nat → Nat} {qt : Nat → Nat} {K : Int32 → tF → tA → Prop}  (oR : Nat) (nR : Nat) (F : tF) (FR : tF) (AR : tA) (X : CX p s m args c yX6_goesAsTold.cls cX6_goesAsTold 3 D cI cZ cR adK adV A9) (ret : RTz p l e (rmN 5 193) s m args below meth c Q cX6_goesAsTold D A9 (fun (r : Int32) (u : (tF × tA)) => K r u.1 u.2) (fun (u : (tF × tA)) => (wX6 o q F ++ wX5 cI cZ nR oR qR FR AR ++ wX2 cI cZ (q 1) qt u.1 u.2 : va_W)))   : ∀ (n : Nat) (Ft : tF) (At : tA) (x2 : Int32) (H : Heap) (locs : List Loc) (ls : Array Slot), p_X6_goesAsTold_R_L2 oR nR F FR AR K n Ft At x2 → va_P D vwCl (wX6 o q F ++ wX5 cI cZ nR oR qR FR AR ++ wX2 cI cZ (q 1) qt Ft At : va_W) H → va_D A9 (wX6 o q F ++ wX5 cI cZ nR oR qR FR AR ++ wX2 cI cZ (q 1) qt Ft At : va_W) → va_S A9 s.heap H locs → lv_has ls 3 [(0, .ref o), (1, .ref oR), (2, .int x2)] → W p l e (rmN 5 193) s m args below meth c H locs 0 0 Q (F0 m 2 ls []) := by
  obtain ⟨hx, hb, hml, ht, hown, hK, hA, hE⟩ := id X
  intro n
  induction n with
  | zero => intro Ft At x2 H locs ls h; exact False.elim h
  | succ n2 ih =>
    intro Ft At x2 H locs ls h hP hD hS hl
    rw [p_X6_goesAsTold_R_L2] at h
    refine lv_iload_n hx hb dX6_goesAsTold_2 rfl (lv_at hl 2 rfl) ?_
    refine lv_aload_n hx hb dX6_goesAsTold_3 rfl (lv_at hl 1 rfl) ?_
    refine va_get (C := RX5) (T := TX5) (N := 2) (own := RX6) (v := .ref (qR 1)) hx hb ht inlX5 hown hK hP 1 rfl rfl 1 (Nat.le_of_ble_eq_true rfl) (ht _ mw_40_4) (fun _ h9 => h9) rfl dX6_goesAsTold_4 ?_
    refine va_alen (v := (Int32.ofNat nR)) hx hb hK hP 2 0 rfl rfl rfl dX6_goesAsTold_7 ?_
    refine lv_icmp_ge (tgt := 52) hx hb dX6_goesAsTold_8 (by decide) (fun c8 => ?_) (fun c8 => ?_)
    · replace h := h.1 c8
      refine lv_iconst (v := 1) hx hb dX6_goesAsTold_52 (by decide) ?_
      exact ret _ (Ft, At) _ _ _ _ dX6_goesAsTold_53 bo_1 h hP hD hS
    · replace h := h.2 c8
      refine lv_aload_n hx hb dX6_goesAsTold_11 rfl (lv_at hl 0 rfl) ?_
      refine va_get (C := RX6) (T := TX6) (N := 13) (own := RX6) (v := .ref (q 1)) hx hb ht inlX6 hown hK hP 0 rfl rfl 1 (Nat.le_of_ble_eq_true rfl) (ht _ mw_1_17) (fun _ h9 => h9) rfl dX6_goesAsTold_12 ?_
      refine C_vv (wr := [0, 1, 2].filterMap (fun i => (wX6 o q F ++ wX5 cI cZ nR oR qR FR AR ++ wX2 cI cZ (q 1) qt Ft At : va_W)[i]?)) X hP hD hS [] [] (w_X2_passDay l D cI cZ cR adK adV _ (q 1) qt Ft At _ h) cal_X2_passDay mw_27_18 rfl [3, 4, 5, 6, 7, 8, 9, 10, 11] [0, 1, 2] [0, 1, 2, 3, 4, 5, 6, 7, 8, 9, 10, 11] (fun u => (wX6 o q F ++ wX5 cI cZ nR oR qR FR AR ++ wX2 cI cZ (q 1) qt u.1 u.2 : va_W)) rfl rfl (fun _ => rfl) rfl 3 rfl rfl ⟨rfl, rfl⟩ ⟨Nat.le_of_ble_eq_true rfl, Nat.le_of_ble_eq_true rfl⟩ hl.1 rfl (Nat.le_of_ble_eq_true rfl) ⟨Nat.zero_le _, Nat.zero_le _⟩ dX6_goesAsTold_15 (fun u H locs h hP hD hS => ?_)
      obtain ⟨Ft_15, At_15⟩ := u
      try dsimp only at h
      have hP : va_P D vwCl (wX6 o q F ++ wX5 cI cZ nR oR qR FR AR ++ wX2 cI cZ (q 1) qt Ft_15 At_15 : va_W) H := hP
      have hD : va_D A9 (wX6 o q F ++ wX5 cI cZ nR oR qR FR AR ++ wX2 cI cZ (q 1) qt Ft_15 At_15 : va_W) := hD
      refine lv_aload_n hx hb dX6_goesAsTold_18 rfl (lv_at hl 1 rfl) ?_
      refine va_get (C := RX5) (T := TX5) (N := 2) (own := RX6) (v := .ref (qR 1)) hx hb ht inlX5 hown hK hP 1 rfl rfl 1 (Nat.le_of_ble_eq_true rfl) (ht _ mw_40_4) (fun _ h9 => h9) rfl dX6_goesAsTold_19 ?_
      refine lv_iload_n hx hb dX6_goesAsTold_22 rfl (lv_at hl 2 rfl) ?_
      obtain ⟨hi23, h⟩ := h
      refine g_iald (f := (AR 1)) (k := (x2).toNatClampNeg) hx hb hK hP 2 0 rfl rfl hi23 rfl dX6_goesAsTold_23 ?_
      refine lv_iconst (v := -1) hx hb dX6_goesAsTold_24 (by decide) ?_
      refine lv_icmp_eq (tgt := 46) hx hb dX6_goesAsTold_25 (by decide) (fun c25 => ?_) (fun c25 => ?_)
      · replace h := h.1 c25
        exact b_X6_goesAsTold_R_J46 oR nR F FR AR Ft_15 At_15 x2 X ret ih _ _ _ h hP hD hS (lv_sub hl [0, 1, 2] rfl)
      · replace h := h.2 c25
        refine lv_aload_n hx hb dX6_goesAsTold_28 rfl (lv_at hl 1 rfl) ?_
        refine va_get (C := RX5) (T := TX5) (N := 2) (own := RX6) (v := .ref (qR 1)) hx hb ht inlX5 hown hK hP 1 rfl rfl 1 (Nat.le_of_ble_eq_true rfl) (ht _ mw_40_4) (fun _ h9 => h9) rfl dX6_goesAsTold_29 ?_
        refine lv_iload_n hx hb dX6_goesAsTold_32 rfl (lv_at hl 2 rfl) ?_
        obtain ⟨hi33, h⟩ := h
        refine g_iald (f := (AR 1)) (k := (x2).toNatClampNeg) hx hb hK hP 2 0 rfl rfl hi33 rfl dX6_goesAsTold_33 ?_
        refine lv_aload_n hx hb dX6_goesAsTold_34 rfl (lv_at hl 0 rfl) ?_
        refine va_get (C := RX6) (T := TX6) (N := 13) (own := RX6) (v := .ref (q 1)) hx hb ht inlX6 hown hK hP 0 rfl rfl 1 (Nat.le_of_ble_eq_true rfl) (ht _ mw_1_17) (fun _ h9 => h9) rfl dX6_goesAsTold_35 ?_
        refine va_get (C := RX2) (T := TX2) (N := 13) (own := RX6) (v := .int (Ft_15 9)) hx hb ht inlX2 hown hK hP 3 rfl rfl 9 (Nat.le_of_ble_eq_true rfl) (ht _ mw_23_9) (fun _ h9 => h9) rfl dX6_goesAsTold_38 ?_
        refine lv_icmp_eq (tgt := 46) hx hb dX6_goesAsTold_41 (by decide) (fun c41 => ?_) (fun c41 => ?_)
        · replace h := h.1 c41
          exact b_X6_goesAsTold_R_J46 oR nR F FR AR Ft_15 At_15 x2 X ret ih _ _ _ h hP hD hS (lv_sub hl [0, 1, 2] rfl)
        · replace h := h.2 c41
          refine lv_iconst (v := 0) hx hb dX6_goesAsTold_44 (by decide) ?_
          exact ret _ (Ft_15, At_15) _ _ _ _ dX6_goesAsTold_45 bo_0 h hP hD hS
def p_X6_goesAsTold_R (F : tF) (oR : Nat) (nR : Nat) (FR : tF) (AR : tA) (Ft : tF) (At : tA) (K : Int32 → tF → tA → Prop) : Prop := (∃ n2, p_X6_goesAsTold_R_L2 oR nR F FR AR K n2 Ft At (0 : Int32))
set_option maxHeartbeats 4000000 in
set_option maxRecDepth 100000 in
theorem w_X6_goesAsTold_R (l : Launch) (D : va_G) (cI cZ cR : ClassId) (adK adV : Nat → Nat) (sz : Nat) (o : Nat) (q : Nat → Nat) (qR : Nat → Nat) (qt : Nat → Nat) (F : tF) (oR : Nat) (nR : Nat) (FR : tF) (AR : tA) (Ft : tF) (At : tA) (K : Int32 → tF → tA → Prop) (h : p_X6_goesAsTold_R F oR nR FR AR Ft At K) : MI l D cI cZ cR adK adV yX6_goesAsTold cX6_goesAsTold 3 (some .boolean) (rmN 5 193) [.ref o, .ref oR] (wX6 o q F ++ wX5 cI cZ nR oR qR FR AR ++ wX2 cI cZ (q 1) qt Ft At : va_W) sz (fun (r : Int32) (u : (tF × tA)) => K r u.1 u.2) (fun (u : (tF × tA)) => (wX6 o q F ++ wX5 cI cZ nR oR qR FR AR ++ wX2 cI cZ (q 1) qt u.1 u.2 : va_W)) := by
  refine M_z (by decide +kernel) (Nat.le_of_ble_eq_true rfl) ?_
  intro p e s m args below meth c Q A9 ls X ret hP hD hS hl
  obtain ⟨hx, hb, hml, ht, hown, hK, hA, hE⟩ := id X
  have hl : lv_has ls 3 [(0, .ref o), (1, .ref oR)] := hl
  unfold p_X6_goesAsTold_R at h
  refine lv_iconst (v := 0) hx hb dX6_goesAsTold_0 (by decide) ?_
  refine lv_istore_n (lv' := [(2, .int (0 : Int32)), (0, .ref o), (1, .ref oR)]) hx hb dX6_goesAsTold_1 rfl hl (by decide) rfl (fun ls hl => ?_)
  obtain ⟨n2, h⟩ := h
  exact b_X6_goesAsTold_R_L2 oR nR F FR AR X ret  n2 Ft At (0 : Int32) _ _ _ h hP hD hS (lv_sub hl [1, 2, 0] rfl)
theorem dX6_minds_0 : decode cX6_minds 0 = .ok (.iload_n 1, 1) := by decide +kernel
theorem dX6_minds_1 : decode cX6_minds 1 = .ok (.iconst 4, 1) := by decide +kernel
theorem dX6_minds_2 : decode cX6_minds 2 = .ok (.invokestatic 95, 3) := by decide +kernel
theorem dX6_minds_5 : decode cX6_minds 5 = .ok (.ifCond .eq 37, 3) := by decide +kernel
theorem dX6_minds_8 : decode cX6_minds 8 = .ok (.aload_n 0, 1) := by decide +kernel
theorem dX6_minds_9 : decode cX6_minds 9 = .ok (.iload_n 3, 1) := by decide +kernel
theorem dX6_minds_10 : decode cX6_minds 10 = .ok (.invokevirtual 114, 3) := by decide +kernel
theorem dX6_minds_13 : decode cX6_minds 13 = .ok (.ifCond .eq 29, 3) := by decide +kernel
theorem dX6_minds_16 : decode cX6_minds 16 = .ok (.iload 4, 2) := by decide +kernel
theorem dX6_minds_18 : decode cX6_minds 18 = .ok (.ifCond .lt 24, 3) := by decide +kernel
theorem dX6_minds_21 : decode cX6_minds 21 = .ok (.iload 4, 2) := by decide +kernel
theorem dX6_minds_23 : decode cX6_minds 23 = .ok (.bipush 8, 2) := by decide +kernel
theorem dX6_minds_25 : decode cX6_minds 25 = .ok (.if_icmp .gt 17, 3) := by decide +kernel
theorem dX6_minds_28 : decode cX6_minds 28 = .ok (.iload_n 3, 1) := by decide +kernel
theorem dX6_minds_29 : decode cX6_minds 29 = .ok (.iload 4, 2) := by decide +kernel
theorem dX6_minds_31 : decode cX6_minds 31 = .ok (.iadd, 1) := by decide +kernel
theorem dX6_minds_32 : decode cX6_minds 32 = .ok (.aload_n 0, 1) := by decide +kernel
theorem dX6_minds_33 : decode cX6_minds 33 = .ok (.getfield 10, 3) := by decide +kernel
theorem dX6_minds_36 : decode cX6_minds 36 = .ok (.getfield 92, 3) := by decide +kernel
theorem dX6_minds_39 : decode cX6_minds 39 = .ok (.if_icmp .le 5, 3) := by decide +kernel
theorem dX6_minds_42 : decode cX6_minds 42 = .ok (.iconst (-1), 1) := by decide +kernel
theorem dX6_minds_43 : decode cX6_minds 43 = .ok (.ireturn, 1) := by decide +kernel
theorem dX6_minds_44 : decode cX6_minds 44 = .ok (.aload_n 0, 1) := by decide +kernel
theorem dX6_minds_45 : decode cX6_minds 45 = .ok (.getfield 64, 3) := by decide +kernel
theorem dX6_minds_48 : decode cX6_minds 48 = .ok (.iload_n 1, 1) := by decide +kernel
theorem dX6_minds_49 : decode cX6_minds 49 = .ok (.aaload, 1) := by decide +kernel
theorem dX6_minds_50 : decode cX6_minds 50 = .ok (.astore 5, 2) := by decide +kernel
theorem dX6_minds_52 : decode cX6_minds 52 = .ok (.aload 5, 2) := by decide +kernel
theorem dX6_minds_54 : decode cX6_minds 54 = .ok (.ifnonnull 6, 3) := by decide +kernel
theorem dX6_minds_57 : decode cX6_minds 57 = .ok (.bipush (-11), 2) := by decide +kernel
theorem dX6_minds_59 : decode cX6_minds 59 = .ok (.ireturn, 1) := by decide +kernel
theorem dX6_minds_60 : decode cX6_minds 60 = .ok (.aload 5, 2) := by decide +kernel
theorem dX6_minds_62 : decode cX6_minds 62 = .ok (.getfield 264, 3) := by decide +kernel
theorem dX6_minds_65 : decode cX6_minds 65 = .ok (.ifCond .eq 6, 3) := by decide +kernel
theorem dX6_minds_68 : decode cX6_minds 68 = .ok (.bipush (-13), 2) := by decide +kernel
theorem dX6_minds_70 : decode cX6_minds 70 = .ok (.ireturn, 1) := by decide +kernel
theorem dX6_minds_71 : decode cX6_minds 71 = .ok (.iload_n 2, 1) := by decide +kernel
theorem dX6_minds_72 : decode cX6_minds 72 = .ok (.ifCond .lt 26, 3) := by decide +kernel
theorem dX6_minds_75 : decode cX6_minds 75 = .ok (.iload_n 2, 1) := by decide +kernel
theorem dX6_minds_76 : decode cX6_minds 76 = .ok (.aload 5, 2) := by decide +kernel
theorem dX6_minds_78 : decode cX6_minds 78 = .ok (.getfield 267, 3) := by decide +kernel
theorem dX6_minds_81 : decode cX6_minds 81 = .ok (.arraylength, 1) := by decide +kernel
theorem dX6_minds_82 : decode cX6_minds 82 = .ok (.if_icmp .gt 16, 3) := by decide +kernel
theorem dX6_minds_85 : decode cX6_minds 85 = .ok (.iload 4, 2) := by decide +kernel
theorem dX6_minds_87 : decode cX6_minds 87 = .ok (.aload 5, 2) := by decide +kernel
theorem dX6_minds_89 : decode cX6_minds 89 = .ok (.getfield 267, 3) := by decide +kernel
theorem dX6_minds_92 : decode cX6_minds 92 = .ok (.arraylength, 1) := by decide +kernel
theorem dX6_minds_93 : decode cX6_minds 93 = .ok (.iload_n 2, 1) := by decide +kernel
theorem dX6_minds_94 : decode cX6_minds 94 = .ok (.isub, 1) := by decide +kernel
theorem dX6_minds_95 : decode cX6_minds 95 = .ok (.if_icmp .le 6, 3) := by decide +kernel
theorem dX6_minds_98 : decode cX6_minds 98 = .ok (.bipush (-12), 2) := by decide +kernel
theorem dX6_minds_100 : decode cX6_minds 100 = .ok (.ireturn, 1) := by decide +kernel
theorem dX6_minds_101 : decode cX6_minds 101 = .ok (.iconst 0, 1) := by decide +kernel
theorem dX6_minds_102 : decode cX6_minds 102 = .ok (.istore 6, 2) := by decide +kernel
theorem dX6_minds_104 : decode cX6_minds 104 = .ok (.iload 6, 2) := by decide +kernel
theorem dX6_minds_106 : decode cX6_minds 106 = .ok (.iload 4, 2) := by decide +kernel
theorem dX6_minds_108 : decode cX6_minds 108 = .ok (.if_icmp .ge 34, 3) := by decide +kernel
theorem dX6_minds_111 : decode cX6_minds 111 = .ok (.aload_n 0, 1) := by decide +kernel
theorem dX6_minds_112 : decode cX6_minds 112 = .ok (.getfield 10, 3) := by decide +kernel
theorem dX6_minds_115 : decode cX6_minds 115 = .ok (.getfield 123, 3) := by decide +kernel
theorem dX6_minds_118 : decode cX6_minds 118 = .ok (.iload_n 3, 1) := by decide +kernel
theorem dX6_minds_119 : decode cX6_minds 119 = .ok (.iload 6, 2) := by decide +kernel
theorem dX6_minds_121 : decode cX6_minds 121 = .ok (.iadd, 1) := by decide +kernel
theorem dX6_minds_122 : decode cX6_minds 122 = .ok (.aload 5, 2) := by decide +kernel
theorem dX6_minds_124 : decode cX6_minds 124 = .ok (.getfield 267, 3) := by decide +kernel
theorem dX6_minds_127 : decode cX6_minds 127 = .ok (.iload_n 2, 1) := by decide +kernel
theorem dX6_minds_128 : decode cX6_minds 128 = .ok (.iload 6, 2) := by decide +kernel
theorem dX6_minds_130 : decode cX6_minds 130 = .ok (.iadd, 1) := by decide +kernel
theorem dX6_minds_131 : decode cX6_minds 131 = .ok (.iaload, 1) := by decide +kernel
theorem dX6_minds_132 : decode cX6_minds 132 = .ok (.invokestatic 270, 3) := by decide +kernel
theorem dX6_minds_135 : decode cX6_minds 135 = .ok (.iastore, 1) := by decide +kernel
theorem dX6_minds_136 : decode cX6_minds 136 = .ok (.iinc 6 1, 3) := by decide +kernel
theorem dX6_minds_139 : decode cX6_minds 139 = .ok (.goto (-35), 3) := by decide +kernel
theorem dX6_minds_142 : decode cX6_minds 142 = .ok (.iload 4, 2) := by decide +kernel
theorem dX6_minds_144 : decode cX6_minds 144 = .ok (.ireturn, 1) := by decide +kernel
def p_X6_minds_N (F : tF) (Fn : tF) (An : tA) (gsh : tG) (x1 : Int32) (x2 : Int32) (x3 : Int32) (x4 : Int32) (K : Int32 → Prop) : Prop := (p_X6_within x1 (4 : Int32) (fun r2 => ((r2 = 0 → (K (-1 : Int32))) ∧ (¬ r2 = 0 → (p_X6_isSheep F Fn An x3 (fun r10 => ((r10 = 0 → (K (-1 : Int32))) ∧ (¬ r10 = 0 → ((x4 < 0 → (K (-1 : Int32))) ∧ (¬ x4 < 0 → (((8 : Int32) < x4 → (K (-1 : Int32))) ∧ (¬ (8 : Int32) < x4 → (((x3 + x4) ≤ (Fn 8) → (vp_in x1 4 ∧ (gsh (x1).toNatClampNeg = none ∧ (K (-11 : Int32))))) ∧ (¬ (x3 + x4) ≤ (Fn 8) → (K (-1 : Int32))))))))))))))))
set_option maxHeartbeats 4000000 in
set_option maxRecDepth 100000 in
theorem w_X6_minds_N (l : Launch) (D : va_G) (cI cZ cR : ClassId) (adK adV : Nat → Nat) (sz : Nat) (o : Nat) (q : Nat → Nat) (qn : Nat → Nat) (F : tF) (Fn : tF) (An : tA) (gsh : tG) (x1 : Int32) (x2 : Int32) (x3 : Int32) (x4 : Int32) (K : Int32 → Prop) (h : p_X6_minds_N F Fn An gsh x1 x2 x3 x4 K) : MI l D cI cZ cR adK adV yX6_minds cX6_minds 7 (some .int) (rmN 2 42) [.ref o, .int x1, .int x2, .int x3, .int x4] (wX6 o q F ++ wX2 cI cZ (q 0) qn Fn An ++ wQ cR (q 10) gsh : va_W) sz (fun (r : Int32) (u : Unit) => K r) (fun (u : Unit) => (wX6 o q F ++ wX2 cI cZ (q 0) qn Fn An ++ wQ cR (q 10) gsh : va_W)) := by
  refine M_i (by decide +kernel) (Nat.le_of_ble_eq_true rfl) ?_
  intro p e s m args below meth c Q A9 ls X ret hP hD hS hl
  obtain ⟨hx, hb, hml, ht, hown, hK, hA, hE⟩ := id X
  have hl : lv_has ls 7 [(0, .ref o), (1, .int x1), (2, .int x2), (3, .int x3), (4, .int x4)] := hl
  unfold p_X6_minds_N at h
  refine lv_iload_n hx hb dX6_minds_0 rfl (lv_at hl 1 rfl) ?_
  refine lv_iconst (v := 4) hx hb dX6_minds_1 (by decide) ?_
  refine C_si (wr := [0, 1, 2, 3, 4, 5, 6, 7, 8, 9, 10].filterMap (fun i => (wX6 o q F ++ wX2 cI cZ (q 0) qn Fn An ++ wQ cR (q 10) gsh : va_W)[i]?)) X hP hD hS [.int x1, .int (4 : Int32)] [] (w_X6_within l D cI cZ cR adK adV _ x1 (4 : Int32) _ h) cal_X6_within mw_15_9 rfl [] [0, 1, 2, 3, 4, 5, 6, 7, 8, 9, 10] [0, 1, 2, 3, 4, 5, 6, 7, 8, 9, 10] (fun u => (wX6 o q F ++ wX2 cI cZ (q 0) qn Fn An ++ wQ cR (q 10) gsh : va_W)) rfl rfl (fun _ => rfl) rfl ⟨rfl, rfl⟩ ⟨Nat.le_of_ble_eq_true rfl, Nat.le_of_ble_eq_true rfl⟩ hl.1 rfl (Nat.le_of_ble_eq_true rfl) ⟨Nat.zero_le _, Nat.zero_le _⟩ dX6_minds_2 (fun r2 u H locs h hP hD hS => ?_)
  refine lv_if_eq (tgt := 42) hx hb dX6_minds_5 (by decide) (fun c5 => ?_) (fun c5 => ?_)
  · replace h := h.1 c5
    refine lv_iconst (v := -1) hx hb dX6_minds_42 (by decide) ?_
    exact ret _ () _ _ _ _ dX6_minds_43 h hP hD hS
  · replace h := h.2 c5
    refine lv_aload_n hx hb dX6_minds_8 rfl (lv_at hl 0 rfl) ?_
    refine lv_iload_n hx hb dX6_minds_9 rfl (lv_at hl 3 rfl) ?_
    refine C_vi (wr := [10].filterMap (fun i => (wX6 o q F ++ wX2 cI cZ (q 0) qn Fn An ++ wQ cR (q 10) gsh : va_W)[i]?)) X hP hD hS [.int x3] [] (w_X6_isSheep l D cI cZ cR adK adV _ o q qn F Fn An x3 _ h) cal_X6_isSheep mw_17_8 rfl [0, 1, 2, 3, 4, 5, 6, 7, 8, 9] [10] [1, 2, 3, 4, 5, 6, 7, 8, 9, 10, 0] (fun u => (wX6 o q F ++ wX2 cI cZ (q 0) qn Fn An ++ wQ cR (q 10) gsh : va_W)) rfl rfl (fun _ => rfl) rfl 0 rfl rfl ⟨rfl, rfl⟩ ⟨Nat.le_of_ble_eq_true rfl, Nat.le_of_ble_eq_true rfl⟩ hl.1 rfl (Nat.le_of_ble_eq_true rfl) ⟨Nat.zero_le _, Nat.zero_le _⟩ dX6_minds_10 (fun r10 u H locs h hP hD hS => ?_)
    refine lv_if_eq (tgt := 42) hx hb dX6_minds_13 (by decide) (fun c13 => ?_) (fun c13 => ?_)
    · replace h := h.1 c13
      refine lv_iconst (v := -1) hx hb dX6_minds_42 (by decide) ?_
      exact ret _ () _ _ _ _ dX6_minds_43 h hP hD hS
    · replace h := h.2 c13
      refine lv_iload hx hb dX6_minds_16 (lv_at hl 4 rfl) ?_
      refine lv_if_lt (tgt := 42) hx hb dX6_minds_18 (by decide) (fun c18 => ?_) (fun c18 => ?_)
      · replace h := h.1 c18
        refine lv_iconst (v := -1) hx hb dX6_minds_42 (by decide) ?_
        exact ret _ () _ _ _ _ dX6_minds_43 h hP hD hS
      · replace h := h.2 c18
        refine lv_iload hx hb dX6_minds_21 (lv_at hl 4 rfl) ?_
        refine lv_bipush (v := 8) hx hb dX6_minds_23 (by decide) ?_
        refine lv_icmp_gt (tgt := 42) hx hb dX6_minds_25 (by decide) (fun c25 => ?_) (fun c25 => ?_)
        · replace h := h.1 c25
          refine lv_iconst (v := -1) hx hb dX6_minds_42 (by decide) ?_
          exact ret _ () _ _ _ _ dX6_minds_43 h hP hD hS
        · replace h := h.2 c25
          refine lv_iload_n hx hb dX6_minds_28 rfl (lv_at hl 3 rfl) ?_
          refine lv_iload hx hb dX6_minds_29 (lv_at hl 4 rfl) ?_
          refine lv_iadd hx hb dX6_minds_31 ?_
          refine lv_aload_n hx hb dX6_minds_32 rfl (lv_at hl 0 rfl) ?_
          refine va_get (C := RX6) (T := TX6) (N := 13) (own := RX6) (v := .ref (q 0)) hx hb ht inlX6 hown hK hP 0 rfl rfl 0 (Nat.le_of_ble_eq_true rfl) (ht _ mw_1_16) (fun _ h9 => h9) rfl dX6_minds_33 ?_
          refine va_get (C := RX2) (T := TX2) (N := 13) (own := RX6) (v := .int (Fn 8)) hx hb ht inlX2 hown hK hP 1 rfl rfl 8 (Nat.le_of_ble_eq_true rfl) (ht _ mw_7_2) (fun _ h9 => h9) rfl dX6_minds_36 ?_
          refine lv_icmp_le (tgt := 44) hx hb dX6_minds_39 (by decide) (fun c39 => ?_) (fun c39 => ?_)
          · replace h := h.1 c39
            refine lv_aload_n hx hb dX6_minds_44 rfl (lv_at hl 0 rfl) ?_
            refine va_get (C := RX6) (T := TX6) (N := 13) (own := RX6) (v := .ref (q 10)) hx hb ht inlX6 hown hK hP 0 rfl rfl 10 (Nat.le_of_ble_eq_true rfl) (ht _ mw_2_16) (fun _ h9 => h9) rfl dX6_minds_45 ?_
            refine lv_iload_n hx hb dX6_minds_48 rfl (lv_at hl 1 rfl) ?_
            obtain ⟨hi49, h⟩ := h
            obtain ⟨hv49, h⟩ := h
            refine g_aldN (f := gsh) (k := (x1).toNatClampNeg) hx hb hK hP 10 2 rfl rfl hi49 rfl hv49 dX6_minds_49 ?_
            refine lv_astoreN (lv' := [(5, .null), (0, .ref o), (1, .int x1), (2, .int x2), (3, .int x3), (4, .int x4)]) hx hb dX6_minds_50 hl (by decide) rfl (fun ls hl => ?_)
            refine lv_aloadN hx hb dX6_minds_52 (lv_at hl 0 rfl) ?_
            refine lv_ifnonnullN hx hb dX6_minds_54 ?_
            refine lv_bipush (v := -11) hx hb dX6_minds_57 (by decide) ?_
            exact ret _ () _ _ _ _ dX6_minds_59 h hP hD hS
          · replace h := h.2 c39
            refine lv_iconst (v := -1) hx hb dX6_minds_42 (by decide) ?_
            exact ret _ () _ _ _ _ dX6_minds_43 h hP hD hS
def p_X6_minds_R_L104 (oR : Nat) (nR : Nat) (F : tF) (gsh : tG) (FR : tF) (AR : tA) (x2 : Int32) (x3 : Int32) (x4 : Int32) (K : Int32 → tF → tA → Prop) : Nat → tF → tA → Int32 → Prop
  | 0, _, _, _ => False
  | n104 + 1, Fn, An, x6 => ((x4 ≤ x6 → (K x4 Fn An)) ∧ (¬ x4 ≤ x6 → (vp_in (x2 + x6) nR ∧ (p_X6_heldToFigure ((AR 1) ((x2 + x6)).toNatClampNeg) (fun r132 => (vp_in (x3 + x6) 8 ∧ (∀ f_135 : tF, f_135 = (upd (An 5) ((x3 + x6)).toNatClampNeg r132) → (∀ y136 : Int32, y136 = (x6 + (1 : Int32)) → ((p_X6_minds_R_L104 oR nR F gsh FR AR x2 x3 x4 K n104) Fn (va_up An 5 f_135) y136)))))))))
set_option maxHeartbeats 4000000 in
set_option maxRecDepth 100000 in
theorem b_X6_minds_R_L104 {p : Program} {l : Launch} {e : Env} {s : State} {m : MethodId} {args : Array Value} {below : List Frame} {meth : Method} {c : Code} {Q : State → Prop} {D : va_G} {cI cZ cR : ClassId} {adK adV : Nat → Nat} {A9 : Nat → Prop} {o : Nat} {q : Nat → Nat} {qn : Nat → Nat} {qR : Nat → Nat} {K : Int32 → tF → tA → Prop}  (oR : Nat) (nR : Nat) (F : tF) (gsh : tG) (FR : tF) (AR : tA) (x2 : Int32) (x3 : Int32) (x4 : Int32) (X : CX p s m args c yX6_minds.cls cX6_minds 7 D cI cZ cR adK adV A9) (ret : RTi p l e (rmN 2 120) s m args below meth c Q cX6_minds D A9 (fun (r : Int32) (u : (tF × tA)) => K r u.1 u.2) (fun (u : (tF × tA)) => (wX6 o q F ++ wX2 cI cZ (q 0) qn u.1 u.2 ++ wQ cR (q 10) gsh ++ wX5 cI cZ nR oR qR FR AR : va_W)))   : ∀ (n : Nat) (Fn : tF) (An : tA) (x6 : Int32) (H : Heap) (locs : List Loc) (ls : Array Slot), p_X6_minds_R_L104 oR nR F gsh FR AR x2 x3 x4 K n Fn An x6 → va_P D vwCl (wX6 o q F ++ wX2 cI cZ (q 0) qn Fn An ++ wQ cR (q 10) gsh ++ wX5 cI cZ nR oR qR FR AR : va_W) H → va_D A9 (wX6 o q F ++ wX2 cI cZ (q 0) qn Fn An ++ wQ cR (q 10) gsh ++ wX5 cI cZ nR oR qR FR AR : va_W) → va_S A9 s.heap H locs → lv_has ls 7 [(0, .ref o), (2, .int x2), (3, .int x3), (4, .int x4), (5, .ref oR), (6, .int x6)] → W p l e (rmN 2 120) s m args below meth c H locs 0 0 Q (F0 m 104 ls []) := by
  obtain ⟨hx, hb, hml, ht, hown, hK, hA, hE⟩ := id X
  intro n
  induction n with
  | zero => intro Fn An x6 H locs ls h; exact False.elim h
  | succ n104 ih =>
    intro Fn An x6 H locs ls h hP hD hS hl
    rw [p_X6_minds_R_L104] at h
    refine lv_iload hx hb dX6_minds_104 (lv_at hl 5 rfl) ?_
    refine lv_iload hx hb dX6_minds_106 (lv_at hl 3 rfl) ?_
    refine lv_icmp_ge (tgt := 142) hx hb dX6_minds_108 (by decide) (fun c108 => ?_) (fun c108 => ?_)
    · replace h := h.1 c108
      refine lv_iload hx hb dX6_minds_142 (lv_at hl 3 rfl) ?_
      exact ret _ (Fn, An) _ _ _ _ dX6_minds_144 h hP hD hS
    · replace h := h.2 c108
      refine lv_aload_n hx hb dX6_minds_111 rfl (lv_at hl 0 rfl) ?_
      refine va_get (C := RX6) (T := TX6) (N := 13) (own := RX6) (v := .ref (q 0)) hx hb ht inlX6 hown hK hP 0 rfl rfl 0 (Nat.le_of_ble_eq_true rfl) (ht _ mw_1_16) (fun _ h9 => h9) rfl dX6_minds_112 ?_
      refine va_get (C := RX2) (T := TX2) (N := 13) (own := RX6) (v := .ref (qn 5)) hx hb ht inlX2 hown hK hP 1 rfl rfl 5 (Nat.le_of_ble_eq_true rfl) (ht _ mw_17_6) (fun _ h9 => h9) rfl dX6_minds_115 ?_
      refine lv_iload_n hx hb dX6_minds_118 rfl (lv_at hl 2 rfl) ?_
      refine lv_iload hx hb dX6_minds_119 (lv_at hl 5 rfl) ?_
      refine lv_iadd hx hb dX6_minds_121 ?_
      refine lv_aload hx hb dX6_minds_122 (lv_at hl 4 rfl) ?_
      refine va_get (C := RX5) (T := TX5) (N := 2) (own := RX6) (v := .ref (qR 1)) hx hb ht inlX5 hown hK hP 11 rfl rfl 1 (Nat.le_of_ble_eq_true rfl) (ht _ mw_40_4) (fun _ h9 => h9) rfl dX6_minds_124 ?_
      refine lv_iload_n hx hb dX6_minds_127 rfl (lv_at hl 1 rfl) ?_
      refine lv_iload hx hb dX6_minds_128 (lv_at hl 5 rfl) ?_
      refine lv_iadd hx hb dX6_minds_130 ?_
      obtain ⟨hi131, h⟩ := h
      refine g_iald (f := (AR 1)) (k := ((x2 + x6)).toNatClampNeg) hx hb hK hP 12 0 rfl rfl hi131 rfl dX6_minds_131 ?_
      refine C_si (wr := [0, 1, 2, 3, 4, 5, 6, 7, 8, 9, 10, 11, 12].filterMap (fun i => (wX6 o q F ++ wX2 cI cZ (q 0) qn Fn An ++ wQ cR (q 10) gsh ++ wX5 cI cZ nR oR qR FR AR : va_W)[i]?)) X hP hD hS [.int ((AR 1) ((x2 + x6)).toNatClampNeg)] [.int (x3 + x6), .ref (qn 5)] (w_X6_heldToFigure l D cI cZ cR adK adV _ ((AR 1) ((x2 + x6)).toNatClampNeg) _ h) cal_X6_heldToFigure mw_43_5 rfl [] [0, 1, 2, 3, 4, 5, 6, 7, 8, 9, 10, 11, 12] [0, 1, 2, 3, 4, 5, 6, 7, 8, 9, 10, 11, 12] (fun u => (wX6 o q F ++ wX2 cI cZ (q 0) qn Fn An ++ wQ cR (q 10) gsh ++ wX5 cI cZ nR oR qR FR AR : va_W)) rfl rfl (fun _ => rfl) rfl ⟨rfl, rfl⟩ ⟨Nat.le_of_ble_eq_true rfl, Nat.le_of_ble_eq_true rfl⟩ hl.1 rfl (Nat.le_of_ble_eq_true rfl) ⟨Nat.zero_le _, Nat.zero_le _⟩ dX6_minds_132 (fun r132 u H locs h hP hD hS => ?_)
      obtain ⟨hi135, h⟩ := h
      obtain ⟨f_135, ef_135⟩ : ∃ z : tF, z = (upd (An 5) ((x3 + x6)).toNatClampNeg r132) := ⟨_, rfl⟩
      replace h := h f_135 ef_135
      refine g_iast (f := (An 5)) (k := ((x3 + x6)).toNatClampNeg) hx hb hK hP hD hS 7 0 rfl rfl hi135 rfl ef_135 dX6_minds_135 (fun H locs hP hD hS => ?_)
      have hP : va_P D vwCl (wX6 o q F ++ wX2 cI cZ (q 0) qn Fn (va_up An 5 f_135) ++ wQ cR (q 10) gsh ++ wX5 cI cZ nR oR qR FR AR : va_W) H := hP
      have hD : va_D A9 (wX6 o q F ++ wX2 cI cZ (q 0) qn Fn (va_up An 5 f_135) ++ wQ cR (q 10) gsh ++ wX5 cI cZ nR oR qR FR AR : va_W) := hD
      obtain ⟨y136, ey136⟩ : ∃ y : Int32, y = (x6 + (1 : Int32)) := ⟨_, rfl⟩
      replace h := h y136 ey136
      refine lv_iinc (v := y136) (lv' := [(6, .int y136), (0, .ref o), (2, .int x2), (3, .int x3), (4, .int x4), (5, .ref oR)]) hx hb dX6_minds_136 hl (k := 5) rfl (by rw [ey136]; rfl) (by decide) rfl (fun ls hl => ?_)
      refine lv_goto (tgt := 104) hx hb dX6_minds_139 (by decide) ?_
      exact ih Fn (va_up An 5 f_135) y136 _ _ _ h hP hD hS (lv_sub hl [1, 2, 3, 4, 5, 0] rfl)
def p_X6_minds_R (F : tF) (Fn : tF) (An : tA) (gsh : tG) (oR : Nat) (nR : Nat) (FR : tF) (AR : tA) (x1 : Int32) (x2 : Int32) (x3 : Int32) (x4 : Int32) (K : Int32 → tF → tA → Prop) : Prop := (p_X6_within x1 (4 : Int32) (fun r2 => ((r2 = 0 → (K (-1 : Int32) Fn An)) ∧ (¬ r2 = 0 → (p_X6_isSheep F Fn An x3 (fun r10 => ((r10 = 0 → (K (-1 : Int32) Fn An)) ∧ (¬ r10 = 0 → ((x4 < 0 → (K (-1 : Int32) Fn An)) ∧ (¬ x4 < 0 → (((8 : Int32) < x4 → (K (-1 : Int32) Fn An)) ∧ (¬ (8 : Int32) < x4 → (((x3 + x4) ≤ (Fn 8) → (vp_in x1 4 ∧ (gsh (x1).toNatClampNeg = some oR ∧ (((FR 0) = 0 → ((x2 < 0 → (K (-12 : Int32) Fn An)) ∧ (¬ x2 < 0 → (((Int32.ofNat nR) < x2 → (K (-12 : Int32) Fn An)) ∧ (¬ (Int32.ofNat nR) < x2 → ((x4 ≤ ((Int32.ofNat nR) - x2) → (∃ n104, p_X6_minds_R_L104 oR nR F gsh FR AR x2 x3 x4 K n104 Fn An (0 : Int32))) ∧ (¬ x4 ≤ ((Int32.ofNat nR) - x2) → (K (-12 : Int32) Fn An)))))))) ∧ (¬ (FR 0) = 0 → (K (-13 : Int32) Fn An)))))) ∧ (¬ (x3 + x4) ≤ (Fn 8) → (K (-1 : Int32) Fn An)))))))))))))))
set_option maxHeartbeats 4000000 in
set_option maxRecDepth 100000 in
theorem w_X6_minds_R (l : Launch) (D : va_G) (cI cZ cR : ClassId) (adK adV : Nat → Nat) (sz : Nat) (o : Nat) (q : Nat → Nat) (qn : Nat → Nat) (qR : Nat → Nat) (F : tF) (Fn : tF) (An : tA) (gsh : tG) (oR : Nat) (nR : Nat) (FR : tF) (AR : tA) (x1 : Int32) (x2 : Int32) (x3 : Int32) (x4 : Int32) (K : Int32 → tF → tA → Prop) (h : p_X6_minds_R F Fn An gsh oR nR FR AR x1 x2 x3 x4 K) : MI l D cI cZ cR adK adV yX6_minds cX6_minds 7 (some .int) (rmN 2 120) [.ref o, .int x1, .int x2, .int x3, .int x4] (wX6 o q F ++ wX2 cI cZ (q 0) qn Fn An ++ wQ cR (q 10) gsh ++ wX5 cI cZ nR oR qR FR AR : va_W) sz (fun (r : Int32) (u : (tF × tA)) => K r u.1 u.2) (fun (u : (tF × tA)) => (wX6 o q F ++ wX2 cI cZ (q 0) qn u.1 u.2 ++ wQ cR (q 10) gsh ++ wX5 cI cZ nR oR qR FR AR : va_W)) := by
  refine M_i (by decide +kernel) (Nat.le_of_ble_eq_true rfl) ?_
  intro p e s m args below meth c Q A9 ls X ret hP hD hS hl
  obtain ⟨hx, hb, hml, ht, hown, hK, hA, hE⟩ := id X
  have hl : lv_has ls 7 [(0, .ref o), (1, .int x1), (2, .int x2), (3, .int x3), (4, .int x4)] := hl
  unfold p_X6_minds_R at h
  refine lv_iload_n hx hb dX6_minds_0 rfl (lv_at hl 1 rfl) ?_
  refine lv_iconst (v := 4) hx hb dX6_minds_1 (by decide) ?_
  refine C_si (wr := [0, 1, 2, 3, 4, 5, 6, 7, 8, 9, 10, 11, 12].filterMap (fun i => (wX6 o q F ++ wX2 cI cZ (q 0) qn Fn An ++ wQ cR (q 10) gsh ++ wX5 cI cZ nR oR qR FR AR : va_W)[i]?)) X hP hD hS [.int x1, .int (4 : Int32)] [] (w_X6_within l D cI cZ cR adK adV _ x1 (4 : Int32) _ h) cal_X6_within mw_15_9 rfl [] [0, 1, 2, 3, 4, 5, 6, 7, 8, 9, 10, 11, 12] [0, 1, 2, 3, 4, 5, 6, 7, 8, 9, 10, 11, 12] (fun u => (wX6 o q F ++ wX2 cI cZ (q 0) qn Fn An ++ wQ cR (q 10) gsh ++ wX5 cI cZ nR oR qR FR AR : va_W)) rfl rfl (fun _ => rfl) rfl ⟨rfl, rfl⟩ ⟨Nat.le_of_ble_eq_true rfl, Nat.le_of_ble_eq_true rfl⟩ hl.1 rfl (Nat.le_of_ble_eq_true rfl) ⟨Nat.zero_le _, Nat.zero_le _⟩ dX6_minds_2 (fun r2 u H locs h hP hD hS => ?_)
  refine lv_if_eq (tgt := 42) hx hb dX6_minds_5 (by decide) (fun c5 => ?_) (fun c5 => ?_)
  · replace h := h.1 c5
    refine lv_iconst (v := -1) hx hb dX6_minds_42 (by decide) ?_
    exact ret _ (Fn, An) _ _ _ _ dX6_minds_43 h hP hD hS
  · replace h := h.2 c5
    refine lv_aload_n hx hb dX6_minds_8 rfl (lv_at hl 0 rfl) ?_
    refine lv_iload_n hx hb dX6_minds_9 rfl (lv_at hl 3 rfl) ?_
    refine C_vi (wr := [10, 11, 12].filterMap (fun i => (wX6 o q F ++ wX2 cI cZ (q 0) qn Fn An ++ wQ cR (q 10) gsh ++ wX5 cI cZ nR oR qR FR AR : va_W)[i]?)) X hP hD hS [.int x3] [] (w_X6_isSheep l D cI cZ cR adK adV _ o q qn F Fn An x3 _ h) cal_X6_isSheep mw_17_8 rfl [0, 1, 2, 3, 4, 5, 6, 7, 8, 9] [10, 11, 12] [3, 4, 5, 6, 7, 8, 9, 10, 11, 12, 0, 1, 2] (fun u => (wX6 o q F ++ wX2 cI cZ (q 0) qn Fn An ++ wQ cR (q 10) gsh ++ wX5 cI cZ nR oR qR FR AR : va_W)) rfl rfl (fun _ => rfl) rfl 0 rfl rfl ⟨rfl, rfl⟩ ⟨Nat.le_of_ble_eq_true rfl, Nat.le_of_ble_eq_true rfl⟩ hl.1 rfl (Nat.le_of_ble_eq_true rfl) ⟨Nat.zero_le _, Nat.zero_le _⟩ dX6_minds_10 (fun r10 u H locs h hP hD hS => ?_)
    refine lv_if_eq (tgt := 42) hx hb dX6_minds_13 (by decide) (fun c13 => ?_) (fun c13 => ?_)
    · replace h := h.1 c13
      refine lv_iconst (v := -1) hx hb dX6_minds_42 (by decide) ?_
      exact ret _ (Fn, An) _ _ _ _ dX6_minds_43 h hP hD hS
    · replace h := h.2 c13
      refine lv_iload hx hb dX6_minds_16 (lv_at hl 4 rfl) ?_
      refine lv_if_lt (tgt := 42) hx hb dX6_minds_18 (by decide) (fun c18 => ?_) (fun c18 => ?_)
      · replace h := h.1 c18
        refine lv_iconst (v := -1) hx hb dX6_minds_42 (by decide) ?_
        exact ret _ (Fn, An) _ _ _ _ dX6_minds_43 h hP hD hS
      · replace h := h.2 c18
        refine lv_iload hx hb dX6_minds_21 (lv_at hl 4 rfl) ?_
        refine lv_bipush (v := 8) hx hb dX6_minds_23 (by decide) ?_
        refine lv_icmp_gt (tgt := 42) hx hb dX6_minds_25 (by decide) (fun c25 => ?_) (fun c25 => ?_)
        · replace h := h.1 c25
          refine lv_iconst (v := -1) hx hb dX6_minds_42 (by decide) ?_
          exact ret _ (Fn, An) _ _ _ _ dX6_minds_43 h hP hD hS
        · replace h := h.2 c25
          refine lv_iload_n hx hb dX6_minds_28 rfl (lv_at hl 3 rfl) ?_
          refine lv_iload hx hb dX6_minds_29 (lv_at hl 4 rfl) ?_
          refine lv_iadd hx hb dX6_minds_31 ?_
          refine lv_aload_n hx hb dX6_minds_32 rfl (lv_at hl 0 rfl) ?_
          refine va_get (C := RX6) (T := TX6) (N := 13) (own := RX6) (v := .ref (q 0)) hx hb ht inlX6 hown hK hP 0 rfl rfl 0 (Nat.le_of_ble_eq_true rfl) (ht _ mw_1_16) (fun _ h9 => h9) rfl dX6_minds_33 ?_
          refine va_get (C := RX2) (T := TX2) (N := 13) (own := RX6) (v := .int (Fn 8)) hx hb ht inlX2 hown hK hP 1 rfl rfl 8 (Nat.le_of_ble_eq_true rfl) (ht _ mw_7_2) (fun _ h9 => h9) rfl dX6_minds_36 ?_
          refine lv_icmp_le (tgt := 44) hx hb dX6_minds_39 (by decide) (fun c39 => ?_) (fun c39 => ?_)
          · replace h := h.1 c39
            refine lv_aload_n hx hb dX6_minds_44 rfl (lv_at hl 0 rfl) ?_
            refine va_get (C := RX6) (T := TX6) (N := 13) (own := RX6) (v := .ref (q 10)) hx hb ht inlX6 hown hK hP 0 rfl rfl 10 (Nat.le_of_ble_eq_true rfl) (ht _ mw_2_16) (fun _ h9 => h9) rfl dX6_minds_45 ?_
            refine lv_iload_n hx hb dX6_minds_48 rfl (lv_at hl 1 rfl) ?_
            obtain ⟨hi49, h⟩ := h
            obtain ⟨hv49, h⟩ := h
            refine g_aldR (f := gsh) (k := (x1).toNatClampNeg) (v := oR) hx hb hK hP 10 2 rfl rfl hi49 rfl hv49 dX6_minds_49 ?_
            refine lv_astore (lv' := [(5, .ref oR), (0, .ref o), (1, .int x1), (2, .int x2), (3, .int x3), (4, .int x4)]) hx hb dX6_minds_50 hl (by decide) rfl (fun ls hl => ?_)
            refine lv_aload hx hb dX6_minds_52 (lv_at hl 0 rfl) ?_
            refine lv_ifnonnull (tgt := 60) hx hb dX6_minds_54 (by decide) ?_
            refine lv_aload hx hb dX6_minds_60 (lv_at hl 0 rfl) ?_
            refine va_get (C := RX5) (T := TX5) (N := 2) (own := RX6) (v := .int (FR 0)) hx hb ht inlX5 hown hK hP 11 rfl rfl 0 (Nat.le_of_ble_eq_true rfl) (ht _ mw_43_4) (fun _ h9 => h9) rfl dX6_minds_62 ?_
            refine lv_if_eq (tgt := 71) hx hb dX6_minds_65 (by decide) (fun c65 => ?_) (fun c65 => ?_)
            · replace h := h.1 c65
              refine lv_iload_n hx hb dX6_minds_71 rfl (lv_at hl 3 rfl) ?_
              refine lv_if_lt (tgt := 98) hx hb dX6_minds_72 (by decide) (fun c72 => ?_) (fun c72 => ?_)
              · replace h := h.1 c72
                refine lv_bipush (v := -12) hx hb dX6_minds_98 (by decide) ?_
                exact ret _ (Fn, An) _ _ _ _ dX6_minds_100 h hP hD hS
              · replace h := h.2 c72
                refine lv_iload_n hx hb dX6_minds_75 rfl (lv_at hl 3 rfl) ?_
                refine lv_aload hx hb dX6_minds_76 (lv_at hl 0 rfl) ?_
                refine va_get (C := RX5) (T := TX5) (N := 2) (own := RX6) (v := .ref (qR 1)) hx hb ht inlX5 hown hK hP 11 rfl rfl 1 (Nat.le_of_ble_eq_true rfl) (ht _ mw_40_4) (fun _ h9 => h9) rfl dX6_minds_78 ?_
                refine va_alen (v := (Int32.ofNat nR)) hx hb hK hP 12 0 rfl rfl rfl dX6_minds_81 ?_
                refine lv_icmp_gt (tgt := 98) hx hb dX6_minds_82 (by decide) (fun c82 => ?_) (fun c82 => ?_)
                · replace h := h.1 c82
                  refine lv_bipush (v := -12) hx hb dX6_minds_98 (by decide) ?_
                  exact ret _ (Fn, An) _ _ _ _ dX6_minds_100 h hP hD hS
                · replace h := h.2 c82
                  refine lv_iload hx hb dX6_minds_85 (lv_at hl 5 rfl) ?_
                  refine lv_aload hx hb dX6_minds_87 (lv_at hl 0 rfl) ?_
                  refine va_get (C := RX5) (T := TX5) (N := 2) (own := RX6) (v := .ref (qR 1)) hx hb ht inlX5 hown hK hP 11 rfl rfl 1 (Nat.le_of_ble_eq_true rfl) (ht _ mw_40_4) (fun _ h9 => h9) rfl dX6_minds_89 ?_
                  refine va_alen (v := (Int32.ofNat nR)) hx hb hK hP 12 0 rfl rfl rfl dX6_minds_92 ?_
                  refine lv_iload_n hx hb dX6_minds_93 rfl (lv_at hl 3 rfl) ?_
                  refine lv_isub hx hb dX6_minds_94 ?_
                  refine lv_icmp_le (tgt := 101) hx hb dX6_minds_95 (by decide) (fun c95 => ?_) (fun c95 => ?_)
                  · replace h := h.1 c95
                    refine lv_iconst (v := 0) hx hb dX6_minds_101 (by decide) ?_
                    refine lv_istore (lv' := [(6, .int (0 : Int32)), (5, .ref oR), (0, .ref o), (1, .int x1), (2, .int x2), (3, .int x3), (4, .int x4)]) hx hb dX6_minds_102 hl (by decide) rfl (fun ls hl => ?_)
                    obtain ⟨n104, h⟩ := h
                    exact b_X6_minds_R_L104 oR nR F gsh FR AR x2 x3 x4 X ret  n104 Fn An (0 : Int32) _ _ _ h hP hD hS (lv_sub hl [2, 4, 5, 6, 1, 0] rfl)
                  · replace h := h.2 c95
                    refine lv_bipush (v := -12) hx hb dX6_minds_98 (by decide) ?_
                    exact ret _ (Fn, An) _ _ _ _ dX6_minds_100 h hP hD hS
            · replace h := h.2 c65
              refine lv_bipush (v := -13) hx hb dX6_minds_68 (by decide) ?_
              exact ret _ (Fn, An) _ _ _ _ dX6_minds_70 h hP hD hS
          · replace h := h.2 c39
            refine lv_iconst (v := -1) hx hb dX6_minds_42 (by decide) ?_
            exact ret _ (Fn, An) _ _ _ _ dX6_minds_43 h hP hD hS
theorem dX6_put_0 : decode cX6_put 0 = .ok (.iload_n 1, 1) := by decide +kernel
theorem dX6_put_1 : decode cX6_put 1 = .ok (.iconst 4, 1) := by decide +kernel
theorem dX6_put_2 : decode cX6_put 2 = .ok (.invokestatic 95, 3) := by decide +kernel
theorem dX6_put_5 : decode cX6_put 5 = .ok (.ifCond .ne 5, 3) := by decide +kernel
theorem dX6_put_8 : decode cX6_put 8 = .ok (.iconst (-1), 1) := by decide +kernel
theorem dX6_put_9 : decode cX6_put 9 = .ok (.ireturn, 1) := by decide +kernel
theorem dX6_put_10 : decode cX6_put 10 = .ok (.aload_n 0, 1) := by decide +kernel
theorem dX6_put_11 : decode cX6_put 11 = .ok (.getfield 64, 3) := by decide +kernel
theorem dX6_put_14 : decode cX6_put 14 = .ok (.iload_n 1, 1) := by decide +kernel
theorem dX6_put_15 : decode cX6_put 15 = .ok (.aaload, 1) := by decide +kernel
theorem dX6_put_16 : decode cX6_put 16 = .ok (.astore 4, 2) := by decide +kernel
theorem dX6_put_18 : decode cX6_put 18 = .ok (.aload 4, 2) := by decide +kernel
theorem dX6_put_20 : decode cX6_put 20 = .ok (.ifnonnull 6, 3) := by decide +kernel
theorem dX6_put_23 : decode cX6_put 23 = .ok (.bipush (-11), 2) := by decide +kernel
theorem dX6_put_25 : decode cX6_put 25 = .ok (.ireturn, 1) := by decide +kernel
theorem dX6_put_26 : decode cX6_put 26 = .ok (.iload_n 2, 1) := by decide +kernel
theorem dX6_put_27 : decode cX6_put 27 = .ok (.aload 4, 2) := by decide +kernel
theorem dX6_put_29 : decode cX6_put 29 = .ok (.getfield 267, 3) := by decide +kernel
theorem dX6_put_32 : decode cX6_put 32 = .ok (.arraylength, 1) := by decide +kernel
theorem dX6_put_33 : decode cX6_put 33 = .ok (.invokestatic 95, 3) := by decide +kernel
theorem dX6_put_36 : decode cX6_put 36 = .ok (.ifCond .ne 6, 3) := by decide +kernel
theorem dX6_put_39 : decode cX6_put 39 = .ok (.bipush (-12), 2) := by decide +kernel
theorem dX6_put_41 : decode cX6_put 41 = .ok (.ireturn, 1) := by decide +kernel
theorem dX6_put_42 : decode cX6_put 42 = .ok (.aload 4, 2) := by decide +kernel
theorem dX6_put_44 : decode cX6_put 44 = .ok (.getfield 267, 3) := by decide +kernel
theorem dX6_put_47 : decode cX6_put 47 = .ok (.iload_n 2, 1) := by decide +kernel
theorem dX6_put_48 : decode cX6_put 48 = .ok (.aload 4, 2) := by decide +kernel
theorem dX6_put_50 : decode cX6_put 50 = .ok (.iload_n 3, 1) := by decide +kernel
theorem dX6_put_51 : decode cX6_put 51 = .ok (.invokevirtual 276, 3) := by decide +kernel
theorem dX6_put_54 : decode cX6_put 54 = .ok (.iastore, 1) := by decide +kernel
theorem dX6_put_55 : decode cX6_put 55 = .ok (.iconst 1, 1) := by decide +kernel
theorem dX6_put_56 : decode cX6_put 56 = .ok (.ireturn, 1) := by decide +kernel
def p_X6_put_N (F : tF) (gsh : tG) (x1 : Int32) (x2 : Int32) (x3 : Int32) (K : Int32 → Prop) : Prop := (p_X6_within x1 (4 : Int32) (fun r2 => ((¬ r2 = 0 → (vp_in x1 4 ∧ (gsh (x1).toNatClampNeg = none ∧ (K (-11 : Int32))))) ∧ (r2 = 0 → (K (-1 : Int32))))))
set_option maxHeartbeats 4000000 in
set_option maxRecDepth 100000 in
theorem w_X6_put_N (l : Launch) (D : va_G) (cI cZ cR : ClassId) (adK adV : Nat → Nat) (sz : Nat) (o : Nat) (q : Nat → Nat) (F : tF) (gsh : tG) (x1 : Int32) (x2 : Int32) (x3 : Int32) (K : Int32 → Prop) (h : p_X6_put_N F gsh x1 x2 x3 K) : MI l D cI cZ cR adK adV yX6_put cX6_put 5 (some .int) (rmN 1 21) [.ref o, .int x1, .int x2, .int x3] (wX6 o q F ++ wQ cR (q 10) gsh : va_W) sz (fun (r : Int32) (u : Unit) => K r) (fun (u : Unit) => (wX6 o q F ++ wQ cR (q 10) gsh : va_W)) := by
  refine M_i (by decide +kernel) (Nat.le_of_ble_eq_true rfl) ?_
  intro p e s m args below meth c Q A9 ls X ret hP hD hS hl
  obtain ⟨hx, hb, hml, ht, hown, hK, hA, hE⟩ := id X
  have hl : lv_has ls 5 [(0, .ref o), (1, .int x1), (2, .int x2), (3, .int x3)] := hl
  unfold p_X6_put_N at h
  refine lv_iload_n hx hb dX6_put_0 rfl (lv_at hl 1 rfl) ?_
  refine lv_iconst (v := 4) hx hb dX6_put_1 (by decide) ?_
  refine C_si (wr := [0, 1].filterMap (fun i => (wX6 o q F ++ wQ cR (q 10) gsh : va_W)[i]?)) X hP hD hS [.int x1, .int (4 : Int32)] [] (w_X6_within l D cI cZ cR adK adV _ x1 (4 : Int32) _ h) cal_X6_within mw_15_9 rfl [] [0, 1] [0, 1] (fun u => (wX6 o q F ++ wQ cR (q 10) gsh : va_W)) rfl rfl (fun _ => rfl) rfl ⟨rfl, rfl⟩ ⟨Nat.le_of_ble_eq_true rfl, Nat.le_of_ble_eq_true rfl⟩ hl.1 rfl (Nat.le_of_ble_eq_true rfl) ⟨Nat.zero_le _, Nat.zero_le _⟩ dX6_put_2 (fun r2 u H locs h hP hD hS => ?_)
  refine lv_if_ne (tgt := 10) hx hb dX6_put_5 (by decide) (fun c5 => ?_) (fun c5 => ?_)
  · replace h := h.1 c5
    refine lv_aload_n hx hb dX6_put_10 rfl (lv_at hl 0 rfl) ?_
    refine va_get (C := RX6) (T := TX6) (N := 13) (own := RX6) (v := .ref (q 10)) hx hb ht inlX6 hown hK hP 0 rfl rfl 10 (Nat.le_of_ble_eq_true rfl) (ht _ mw_2_16) (fun _ h9 => h9) rfl dX6_put_11 ?_
    refine lv_iload_n hx hb dX6_put_14 rfl (lv_at hl 1 rfl) ?_
    obtain ⟨hi15, h⟩ := h
    obtain ⟨hv15, h⟩ := h
    refine g_aldN (f := gsh) (k := (x1).toNatClampNeg) hx hb hK hP 1 2 rfl rfl hi15 rfl hv15 dX6_put_15 ?_
    refine lv_astoreN (lv' := [(4, .null), (0, .ref o), (1, .int x1), (2, .int x2), (3, .int x3)]) hx hb dX6_put_16 hl (by decide) rfl (fun ls hl => ?_)
    refine lv_aloadN hx hb dX6_put_18 (lv_at hl 0 rfl) ?_
    refine lv_ifnonnullN hx hb dX6_put_20 ?_
    refine lv_bipush (v := -11) hx hb dX6_put_23 (by decide) ?_
    exact ret _ () _ _ _ _ dX6_put_25 h hP hD hS
  · replace h := h.2 c5
    refine lv_iconst (v := -1) hx hb dX6_put_8 (by decide) ?_
    exact ret _ () _ _ _ _ dX6_put_9 h hP hD hS
theorem cal_X5_narrowed : CalV yX5_narrowed cX5_narrowed 2 (some .int) 1 := ⟨mw_44_14, mw_43_19, mw_44_12, mw_44_13, ⟨by decide +kernel, by decide +kernel, by decide +kernel⟩⟩
def p_X6_put_R (F : tF) (gsh : tG) (oR : Nat) (nR : Nat) (FR : tF) (AR : tA) (x1 : Int32) (x2 : Int32) (x3 : Int32) (K : Int32 → tF → tA → Prop) : Prop := (p_X6_within x1 (4 : Int32) (fun r2 => ((¬ r2 = 0 → (vp_in x1 4 ∧ (gsh (x1).toNatClampNeg = some oR ∧ (p_X6_within x2 (Int32.ofNat nR) (fun r33 => ((¬ r33 = 0 → (p_X5_narrowed oR nR FR AR x3 (fun r51 => (vp_in x2 nR ∧ (∀ f_54 : tF, f_54 = (upd (AR 1) (x2).toNatClampNeg r51) → (K (1 : Int32) FR (va_up AR 1 f_54))))))) ∧ (r33 = 0 → (K (-12 : Int32) FR AR)))))))) ∧ (r2 = 0 → (K (-1 : Int32) FR AR)))))
set_option maxHeartbeats 4000000 in
set_option maxRecDepth 100000 in
theorem w_X6_put_R (l : Launch) (D : va_G) (cI cZ cR : ClassId) (adK adV : Nat → Nat) (sz : Nat) (o : Nat) (q : Nat → Nat) (qR : Nat → Nat) (F : tF) (gsh : tG) (oR : Nat) (nR : Nat) (FR : tF) (AR : tA) (x1 : Int32) (x2 : Int32) (x3 : Int32) (K : Int32 → tF → tA → Prop) (h : p_X6_put_R F gsh oR nR FR AR x1 x2 x3 K) : MI l D cI cZ cR adK adV yX6_put cX6_put 5 (some .int) (rmN 1 21) [.ref o, .int x1, .int x2, .int x3] (wX6 o q F ++ wQ cR (q 10) gsh ++ wX5 cI cZ nR oR qR FR AR : va_W) sz (fun (r : Int32) (u : (tF × tA)) => K r u.1 u.2) (fun (u : (tF × tA)) => (wX6 o q F ++ wQ cR (q 10) gsh ++ wX5 cI cZ nR oR qR u.1 u.2 : va_W)) := by
  refine M_i (by decide +kernel) (Nat.le_of_ble_eq_true rfl) ?_
  intro p e s m args below meth c Q A9 ls X ret hP hD hS hl
  obtain ⟨hx, hb, hml, ht, hown, hK, hA, hE⟩ := id X
  have hl : lv_has ls 5 [(0, .ref o), (1, .int x1), (2, .int x2), (3, .int x3)] := hl
  unfold p_X6_put_R at h
  refine lv_iload_n hx hb dX6_put_0 rfl (lv_at hl 1 rfl) ?_
  refine lv_iconst (v := 4) hx hb dX6_put_1 (by decide) ?_
  refine C_si (wr := [0, 1, 2, 3].filterMap (fun i => (wX6 o q F ++ wQ cR (q 10) gsh ++ wX5 cI cZ nR oR qR FR AR : va_W)[i]?)) X hP hD hS [.int x1, .int (4 : Int32)] [] (w_X6_within l D cI cZ cR adK adV _ x1 (4 : Int32) _ h) cal_X6_within mw_15_9 rfl [] [0, 1, 2, 3] [0, 1, 2, 3] (fun u => (wX6 o q F ++ wQ cR (q 10) gsh ++ wX5 cI cZ nR oR qR FR AR : va_W)) rfl rfl (fun _ => rfl) rfl ⟨rfl, rfl⟩ ⟨Nat.le_of_ble_eq_true rfl, Nat.le_of_ble_eq_true rfl⟩ hl.1 rfl (Nat.le_of_ble_eq_true rfl) ⟨Nat.zero_le _, Nat.zero_le _⟩ dX6_put_2 (fun r2 u H locs h hP hD hS => ?_)
  refine lv_if_ne (tgt := 10) hx hb dX6_put_5 (by decide) (fun c5 => ?_) (fun c5 => ?_)
  · replace h := h.1 c5
    refine lv_aload_n hx hb dX6_put_10 rfl (lv_at hl 0 rfl) ?_
    refine va_get (C := RX6) (T := TX6) (N := 13) (own := RX6) (v := .ref (q 10)) hx hb ht inlX6 hown hK hP 0 rfl rfl 10 (Nat.le_of_ble_eq_true rfl) (ht _ mw_2_16) (fun _ h9 => h9) rfl dX6_put_11 ?_
    refine lv_iload_n hx hb dX6_put_14 rfl (lv_at hl 1 rfl) ?_
    obtain ⟨hi15, h⟩ := h
    obtain ⟨hv15, h⟩ := h
    refine g_aldR (f := gsh) (k := (x1).toNatClampNeg) (v := oR) hx hb hK hP 1 2 rfl rfl hi15 rfl hv15 dX6_put_15 ?_
    refine lv_astore (lv' := [(4, .ref oR), (0, .ref o), (1, .int x1), (2, .int x2), (3, .int x3)]) hx hb dX6_put_16 hl (by decide) rfl (fun ls hl => ?_)
    refine lv_aload hx hb dX6_put_18 (lv_at hl 0 rfl) ?_
    refine lv_ifnonnull (tgt := 26) hx hb dX6_put_20 (by decide) ?_
    refine lv_iload_n hx hb dX6_put_26 rfl (lv_at hl 3 rfl) ?_
    refine lv_aload hx hb dX6_put_27 (lv_at hl 0 rfl) ?_
    refine va_get (C := RX5) (T := TX5) (N := 2) (own := RX6) (v := .ref (qR 1)) hx hb ht inlX5 hown hK hP 2 rfl rfl 1 (Nat.le_of_ble_eq_true rfl) (ht _ mw_40_4) (fun _ h9 => h9) rfl dX6_put_29 ?_
    refine va_alen (v := (Int32.ofNat nR)) hx hb hK hP 3 0 rfl rfl rfl dX6_put_32 ?_
    refine C_si (wr := [0, 1, 2, 3].filterMap (fun i => (wX6 o q F ++ wQ cR (q 10) gsh ++ wX5 cI cZ nR oR qR FR AR : va_W)[i]?)) X hP hD hS [.int x2, .int (Int32.ofNat nR)] [] (w_X6_within l D cI cZ cR adK adV _ x2 (Int32.ofNat nR) _ h) cal_X6_within mw_15_9 rfl [] [0, 1, 2, 3] [0, 1, 2, 3] (fun u => (wX6 o q F ++ wQ cR (q 10) gsh ++ wX5 cI cZ nR oR qR FR AR : va_W)) rfl rfl (fun _ => rfl) rfl ⟨rfl, rfl⟩ ⟨Nat.le_of_ble_eq_true rfl, Nat.le_of_ble_eq_true rfl⟩ hl.1 rfl (Nat.le_of_ble_eq_true rfl) ⟨Nat.zero_le _, Nat.zero_le _⟩ dX6_put_33 (fun r33 u H locs h hP hD hS => ?_)
    refine lv_if_ne (tgt := 42) hx hb dX6_put_36 (by decide) (fun c36 => ?_) (fun c36 => ?_)
    · replace h := h.1 c36
      refine lv_aload hx hb dX6_put_42 (lv_at hl 0 rfl) ?_
      refine va_get (C := RX5) (T := TX5) (N := 2) (own := RX6) (v := .ref (qR 1)) hx hb ht inlX5 hown hK hP 2 rfl rfl 1 (Nat.le_of_ble_eq_true rfl) (ht _ mw_40_4) (fun _ h9 => h9) rfl dX6_put_44 ?_
      refine lv_iload_n hx hb dX6_put_47 rfl (lv_at hl 3 rfl) ?_
      refine lv_aload hx hb dX6_put_48 (lv_at hl 0 rfl) ?_
      refine lv_iload_n hx hb dX6_put_50 rfl (lv_at hl 4 rfl) ?_
      refine C_vi (wr := [0, 1].filterMap (fun i => (wX6 o q F ++ wQ cR (q 10) gsh ++ wX5 cI cZ nR oR qR FR AR : va_W)[i]?)) X hP hD hS [.int x3] [.int x2, .ref (qR 1)] (w_X5_narrowed l D cI cZ cR adK adV _ qR oR nR FR AR x3 _ h) cal_X5_narrowed mw_44_11 rfl [2, 3] [0, 1] [0, 1, 2, 3] (fun u => (wX6 o q F ++ wQ cR (q 10) gsh ++ wX5 cI cZ nR oR qR FR AR : va_W)) rfl rfl (fun _ => rfl) rfl 2 rfl rfl ⟨rfl, rfl⟩ ⟨Nat.le_of_ble_eq_true rfl, Nat.le_of_ble_eq_true rfl⟩ hl.1 rfl (Nat.le_of_ble_eq_true rfl) ⟨Nat.zero_le _, Nat.zero_le _⟩ dX6_put_51 (fun r51 u H locs h hP hD hS => ?_)
      obtain ⟨hi54, h⟩ := h
      obtain ⟨f_54, ef_54⟩ : ∃ z : tF, z = (upd (AR 1) (x2).toNatClampNeg r51) := ⟨_, rfl⟩
      replace h := h f_54 ef_54
      refine g_iast (f := (AR 1)) (k := (x2).toNatClampNeg) hx hb hK hP hD hS 3 0 rfl rfl hi54 rfl ef_54 dX6_put_54 (fun H locs hP hD hS => ?_)
      have hP : va_P D vwCl (wX6 o q F ++ wQ cR (q 10) gsh ++ wX5 cI cZ nR oR qR FR (va_up AR 1 f_54) : va_W) H := hP
      have hD : va_D A9 (wX6 o q F ++ wQ cR (q 10) gsh ++ wX5 cI cZ nR oR qR FR (va_up AR 1 f_54) : va_W) := hD
      refine lv_iconst (v := 1) hx hb dX6_put_55 (by decide) ?_
      exact ret _ (FR, (va_up AR 1 f_54)) _ _ _ _ dX6_put_56 h hP hD hS
    · replace h := h.2 c36
      refine lv_bipush (v := -12) hx hb dX6_put_39 (by decide) ?_
      exact ret _ (FR, AR) _ _ _ _ dX6_put_41 h hP hD hS
  · replace h := h.2 c5
    refine lv_iconst (v := -1) hx hb dX6_put_8 (by decide) ?_
    exact ret _ (FR, AR) _ _ _ _ dX6_put_9 h hP hD hS
theorem dX6_item_0 : decode cX6_item 0 = .ok (.iload_n 1, 1) := by decide +kernel
theorem dX6_item_1 : decode cX6_item 1 = .ok (.iconst 4, 1) := by decide +kernel
theorem dX6_item_2 : decode cX6_item 2 = .ok (.invokestatic 95, 3) := by decide +kernel
theorem dX6_item_5 : decode cX6_item 5 = .ok (.ifCond .eq 11, 3) := by decide +kernel
theorem dX6_item_8 : decode cX6_item 8 = .ok (.iload_n 2, 1) := by decide +kernel
theorem dX6_item_9 : decode cX6_item 9 = .ok (.iconst 4, 1) := by decide +kernel
theorem dX6_item_10 : decode cX6_item 10 = .ok (.invokestatic 95, 3) := by decide +kernel
theorem dX6_item_13 : decode cX6_item 13 = .ok (.ifCond .ne 5, 3) := by decide +kernel
theorem dX6_item_16 : decode cX6_item 16 = .ok (.iconst (-1), 1) := by decide +kernel
theorem dX6_item_17 : decode cX6_item 17 = .ok (.ireturn, 1) := by decide +kernel
theorem dX6_item_18 : decode cX6_item 18 = .ok (.aload_n 0, 1) := by decide +kernel
theorem dX6_item_19 : decode cX6_item 19 = .ok (.getfield 64, 3) := by decide +kernel
theorem dX6_item_22 : decode cX6_item 22 = .ok (.iload_n 1, 1) := by decide +kernel
theorem dX6_item_23 : decode cX6_item 23 = .ok (.aaload, 1) := by decide +kernel
theorem dX6_item_24 : decode cX6_item 24 = .ok (.astore 4, 2) := by decide +kernel
theorem dX6_item_26 : decode cX6_item 26 = .ok (.aload 4, 2) := by decide +kernel
theorem dX6_item_28 : decode cX6_item 28 = .ok (.ifnonnull 6, 3) := by decide +kernel
theorem dX6_item_31 : decode cX6_item 31 = .ok (.bipush (-11), 2) := by decide +kernel
theorem dX6_item_33 : decode cX6_item 33 = .ok (.ireturn, 1) := by decide +kernel
theorem dX6_item_34 : decode cX6_item 34 = .ok (.aload 4, 2) := by decide +kernel
theorem dX6_item_36 : decode cX6_item 36 = .ok (.getfield 264, 3) := by decide +kernel
theorem dX6_item_39 : decode cX6_item 39 = .ok (.iload_n 2, 1) := by decide +kernel
theorem dX6_item_40 : decode cX6_item 40 = .ok (.if_icmp .eq 6, 3) := by decide +kernel
theorem dX6_item_43 : decode cX6_item 43 = .ok (.bipush (-13), 2) := by decide +kernel
theorem dX6_item_45 : decode cX6_item 45 = .ok (.ireturn, 1) := by decide +kernel
theorem dX6_item_46 : decode cX6_item 46 = .ok (.iload_n 3, 1) := by decide +kernel
theorem dX6_item_47 : decode cX6_item 47 = .ok (.aload 4, 2) := by decide +kernel
theorem dX6_item_49 : decode cX6_item 49 = .ok (.getfield 267, 3) := by decide +kernel
theorem dX6_item_52 : decode cX6_item 52 = .ok (.arraylength, 1) := by decide +kernel
theorem dX6_item_53 : decode cX6_item 53 = .ok (.invokestatic 95, 3) := by decide +kernel
theorem dX6_item_56 : decode cX6_item 56 = .ok (.ifCond .eq 13, 3) := by decide +kernel
theorem dX6_item_59 : decode cX6_item 59 = .ok (.aload 4, 2) := by decide +kernel
theorem dX6_item_61 : decode cX6_item 61 = .ok (.getfield 267, 3) := by decide +kernel
theorem dX6_item_64 : decode cX6_item 64 = .ok (.iload_n 3, 1) := by decide +kernel
theorem dX6_item_65 : decode cX6_item 65 = .ok (.iaload, 1) := by decide +kernel
theorem dX6_item_66 : decode cX6_item 66 = .ok (.goto 5, 3) := by decide +kernel
theorem dX6_item_69 : decode cX6_item 69 = .ok (.bipush (-12), 2) := by decide +kernel
theorem dX6_item_71 : decode cX6_item 71 = .ok (.ireturn, 1) := by decide +kernel
def p_X6_item_N (F : tF) (gsh : tG) (x1 : Int32) (x2 : Int32) (x3 : Int32) (K : Int32 → Prop) : Prop := (p_X6_within x1 (4 : Int32) (fun r2 => ((r2 = 0 → (K (-1 : Int32))) ∧ (¬ r2 = 0 → (p_X6_within x2 (4 : Int32) (fun r10 => ((¬ r10 = 0 → (vp_in x1 4 ∧ (gsh (x1).toNatClampNeg = none ∧ (K (-11 : Int32))))) ∧ (r10 = 0 → (K (-1 : Int32))))))))))
set_option maxHeartbeats 4000000 in
set_option maxRecDepth 100000 in
theorem w_X6_item_N (l : Launch) (D : va_G) (cI cZ cR : ClassId) (adK adV : Nat → Nat) (sz : Nat) (o : Nat) (q : Nat → Nat) (F : tF) (gsh : tG) (x1 : Int32) (x2 : Int32) (x3 : Int32) (K : Int32 → Prop) (h : p_X6_item_N F gsh x1 x2 x3 K) : MI l D cI cZ cR adK adV yX6_item cX6_item 5 (some .int) (rmN 1 21) [.ref o, .int x1, .int x2, .int x3] (wX6 o q F ++ wQ cR (q 10) gsh : va_W) sz (fun (r : Int32) (u : Unit) => K r) (fun (u : Unit) => (wX6 o q F ++ wQ cR (q 10) gsh : va_W)) := by
  refine M_i (by decide +kernel) (Nat.le_of_ble_eq_true rfl) ?_
  intro p e s m args below meth c Q A9 ls X ret hP hD hS hl
  obtain ⟨hx, hb, hml, ht, hown, hK, hA, hE⟩ := id X
  have hl : lv_has ls 5 [(0, .ref o), (1, .int x1), (2, .int x2), (3, .int x3)] := hl
  unfold p_X6_item_N at h
  refine lv_iload_n hx hb dX6_item_0 rfl (lv_at hl 1 rfl) ?_
  refine lv_iconst (v := 4) hx hb dX6_item_1 (by decide) ?_
  refine C_si (wr := [0, 1].filterMap (fun i => (wX6 o q F ++ wQ cR (q 10) gsh : va_W)[i]?)) X hP hD hS [.int x1, .int (4 : Int32)] [] (w_X6_within l D cI cZ cR adK adV _ x1 (4 : Int32) _ h) cal_X6_within mw_15_9 rfl [] [0, 1] [0, 1] (fun u => (wX6 o q F ++ wQ cR (q 10) gsh : va_W)) rfl rfl (fun _ => rfl) rfl ⟨rfl, rfl⟩ ⟨Nat.le_of_ble_eq_true rfl, Nat.le_of_ble_eq_true rfl⟩ hl.1 rfl (Nat.le_of_ble_eq_true rfl) ⟨Nat.zero_le _, Nat.zero_le _⟩ dX6_item_2 (fun r2 u H locs h hP hD hS => ?_)
  refine lv_if_eq (tgt := 16) hx hb dX6_item_5 (by decide) (fun c5 => ?_) (fun c5 => ?_)
  · replace h := h.1 c5
    refine lv_iconst (v := -1) hx hb dX6_item_16 (by decide) ?_
    exact ret _ () _ _ _ _ dX6_item_17 h hP hD hS
  · replace h := h.2 c5
    refine lv_iload_n hx hb dX6_item_8 rfl (lv_at hl 2 rfl) ?_
    refine lv_iconst (v := 4) hx hb dX6_item_9 (by decide) ?_
    refine C_si (wr := [0, 1].filterMap (fun i => (wX6 o q F ++ wQ cR (q 10) gsh : va_W)[i]?)) X hP hD hS [.int x2, .int (4 : Int32)] [] (w_X6_within l D cI cZ cR adK adV _ x2 (4 : Int32) _ h) cal_X6_within mw_15_9 rfl [] [0, 1] [0, 1] (fun u => (wX6 o q F ++ wQ cR (q 10) gsh : va_W)) rfl rfl (fun _ => rfl) rfl ⟨rfl, rfl⟩ ⟨Nat.le_of_ble_eq_true rfl, Nat.le_of_ble_eq_true rfl⟩ hl.1 rfl (Nat.le_of_ble_eq_true rfl) ⟨Nat.zero_le _, Nat.zero_le _⟩ dX6_item_10 (fun r10 u H locs h hP hD hS => ?_)
    refine lv_if_ne (tgt := 18) hx hb dX6_item_13 (by decide) (fun c13 => ?_) (fun c13 => ?_)
    · replace h := h.1 c13
      refine lv_aload_n hx hb dX6_item_18 rfl (lv_at hl 0 rfl) ?_
      refine va_get (C := RX6) (T := TX6) (N := 13) (own := RX6) (v := .ref (q 10)) hx hb ht inlX6 hown hK hP 0 rfl rfl 10 (Nat.le_of_ble_eq_true rfl) (ht _ mw_2_16) (fun _ h9 => h9) rfl dX6_item_19 ?_
      refine lv_iload_n hx hb dX6_item_22 rfl (lv_at hl 1 rfl) ?_
      obtain ⟨hi23, h⟩ := h
      obtain ⟨hv23, h⟩ := h
      refine g_aldN (f := gsh) (k := (x1).toNatClampNeg) hx hb hK hP 1 2 rfl rfl hi23 rfl hv23 dX6_item_23 ?_
      refine lv_astoreN (lv' := [(4, .null), (0, .ref o), (1, .int x1), (2, .int x2), (3, .int x3)]) hx hb dX6_item_24 hl (by decide) rfl (fun ls hl => ?_)
      refine lv_aloadN hx hb dX6_item_26 (lv_at hl 0 rfl) ?_
      refine lv_ifnonnullN hx hb dX6_item_28 ?_
      refine lv_bipush (v := -11) hx hb dX6_item_31 (by decide) ?_
      exact ret _ () _ _ _ _ dX6_item_33 h hP hD hS
    · replace h := h.2 c13
      refine lv_iconst (v := -1) hx hb dX6_item_16 (by decide) ?_
      exact ret _ () _ _ _ _ dX6_item_17 h hP hD hS
def p_X6_item_R (F : tF) (gsh : tG) (oR : Nat) (nR : Nat) (FR : tF) (AR : tA) (x1 : Int32) (x2 : Int32) (x3 : Int32) (K : Int32 → Prop) : Prop := (p_X6_within x1 (4 : Int32) (fun r2 => ((r2 = 0 → (K (-1 : Int32))) ∧ (¬ r2 = 0 → (p_X6_within x2 (4 : Int32) (fun r10 => ((¬ r10 = 0 → (vp_in x1 4 ∧ (gsh (x1).toNatClampNeg = some oR ∧ (((FR 0) = x2 → (p_X6_within x3 (Int32.ofNat nR) (fun r53 => ((r53 = 0 → (K (-12 : Int32))) ∧ (¬ r53 = 0 → (vp_in x3 nR ∧ (K ((AR 1) (x3).toNatClampNeg)))))))) ∧ (¬ (FR 0) = x2 → (K (-13 : Int32))))))) ∧ (r10 = 0 → (K (-1 : Int32))))))))))
set_option maxHeartbeats 4000000 in
set_option maxRecDepth 100000 in
theorem w_X6_item_R (l : Launch) (D : va_G) (cI cZ cR : ClassId) (adK adV : Nat → Nat) (sz : Nat) (o : Nat) (q : Nat → Nat) (qR : Nat → Nat) (F : tF) (gsh : tG) (oR : Nat) (nR : Nat) (FR : tF) (AR : tA) (x1 : Int32) (x2 : Int32) (x3 : Int32) (K : Int32 → Prop) (h : p_X6_item_R F gsh oR nR FR AR x1 x2 x3 K) : MI l D cI cZ cR adK adV yX6_item cX6_item 5 (some .int) (rmN 1 21) [.ref o, .int x1, .int x2, .int x3] (wX6 o q F ++ wQ cR (q 10) gsh ++ wX5 cI cZ nR oR qR FR AR : va_W) sz (fun (r : Int32) (u : Unit) => K r) (fun (u : Unit) => (wX6 o q F ++ wQ cR (q 10) gsh ++ wX5 cI cZ nR oR qR FR AR : va_W)) := by
  refine M_i (by decide +kernel) (Nat.le_of_ble_eq_true rfl) ?_
  intro p e s m args below meth c Q A9 ls X ret hP hD hS hl
  obtain ⟨hx, hb, hml, ht, hown, hK, hA, hE⟩ := id X
  have hl : lv_has ls 5 [(0, .ref o), (1, .int x1), (2, .int x2), (3, .int x3)] := hl
  unfold p_X6_item_R at h
  refine lv_iload_n hx hb dX6_item_0 rfl (lv_at hl 1 rfl) ?_
  refine lv_iconst (v := 4) hx hb dX6_item_1 (by decide) ?_
  refine C_si (wr := [0, 1, 2, 3].filterMap (fun i => (wX6 o q F ++ wQ cR (q 10) gsh ++ wX5 cI cZ nR oR qR FR AR : va_W)[i]?)) X hP hD hS [.int x1, .int (4 : Int32)] [] (w_X6_within l D cI cZ cR adK adV _ x1 (4 : Int32) _ h) cal_X6_within mw_15_9 rfl [] [0, 1, 2, 3] [0, 1, 2, 3] (fun u => (wX6 o q F ++ wQ cR (q 10) gsh ++ wX5 cI cZ nR oR qR FR AR : va_W)) rfl rfl (fun _ => rfl) rfl ⟨rfl, rfl⟩ ⟨Nat.le_of_ble_eq_true rfl, Nat.le_of_ble_eq_true rfl⟩ hl.1 rfl (Nat.le_of_ble_eq_true rfl) ⟨Nat.zero_le _, Nat.zero_le _⟩ dX6_item_2 (fun r2 u H locs h hP hD hS => ?_)
  refine lv_if_eq (tgt := 16) hx hb dX6_item_5 (by decide) (fun c5 => ?_) (fun c5 => ?_)
  · replace h := h.1 c5
    refine lv_iconst (v := -1) hx hb dX6_item_16 (by decide) ?_
    exact ret _ () _ _ _ _ dX6_item_17 h hP hD hS
  · replace h := h.2 c5
    refine lv_iload_n hx hb dX6_item_8 rfl (lv_at hl 2 rfl) ?_
    refine lv_iconst (v := 4) hx hb dX6_item_9 (by decide) ?_
    refine C_si (wr := [0, 1, 2, 3].filterMap (fun i => (wX6 o q F ++ wQ cR (q 10) gsh ++ wX5 cI cZ nR oR qR FR AR : va_W)[i]?)) X hP hD hS [.int x2, .int (4 : Int32)] [] (w_X6_within l D cI cZ cR adK adV _ x2 (4 : Int32) _ h) cal_X6_within mw_15_9 rfl [] [0, 1, 2, 3] [0, 1, 2, 3] (fun u => (wX6 o q F ++ wQ cR (q 10) gsh ++ wX5 cI cZ nR oR qR FR AR : va_W)) rfl rfl (fun _ => rfl) rfl ⟨rfl, rfl⟩ ⟨Nat.le_of_ble_eq_true rfl, Nat.le_of_ble_eq_true rfl⟩ hl.1 rfl (Nat.le_of_ble_eq_true rfl) ⟨Nat.zero_le _, Nat.zero_le _⟩ dX6_item_10 (fun r10 u H locs h hP hD hS => ?_)
    refine lv_if_ne (tgt := 18) hx hb dX6_item_13 (by decide) (fun c13 => ?_) (fun c13 => ?_)
    · replace h := h.1 c13
      refine lv_aload_n hx hb dX6_item_18 rfl (lv_at hl 0 rfl) ?_
      refine va_get (C := RX6) (T := TX6) (N := 13) (own := RX6) (v := .ref (q 10)) hx hb ht inlX6 hown hK hP 0 rfl rfl 10 (Nat.le_of_ble_eq_true rfl) (ht _ mw_2_16) (fun _ h9 => h9) rfl dX6_item_19 ?_
      refine lv_iload_n hx hb dX6_item_22 rfl (lv_at hl 1 rfl) ?_
      obtain ⟨hi23, h⟩ := h
      obtain ⟨hv23, h⟩ := h
      refine g_aldR (f := gsh) (k := (x1).toNatClampNeg) (v := oR) hx hb hK hP 1 2 rfl rfl hi23 rfl hv23 dX6_item_23 ?_
      refine lv_astore (lv' := [(4, .ref oR), (0, .ref o), (1, .int x1), (2, .int x2), (3, .int x3)]) hx hb dX6_item_24 hl (by decide) rfl (fun ls hl => ?_)
      refine lv_aload hx hb dX6_item_26 (lv_at hl 0 rfl) ?_
      refine lv_ifnonnull (tgt := 34) hx hb dX6_item_28 (by decide) ?_
      refine lv_aload hx hb dX6_item_34 (lv_at hl 0 rfl) ?_
      refine va_get (C := RX5) (T := TX5) (N := 2) (own := RX6) (v := .int (FR 0)) hx hb ht inlX5 hown hK hP 2 rfl rfl 0 (Nat.le_of_ble_eq_true rfl) (ht _ mw_43_4) (fun _ h9 => h9) rfl dX6_item_36 ?_
      refine lv_iload_n hx hb dX6_item_39 rfl (lv_at hl 3 rfl) ?_
      refine lv_icmp_eq (tgt := 46) hx hb dX6_item_40 (by decide) (fun c40 => ?_) (fun c40 => ?_)
      · replace h := h.1 c40
        refine lv_iload_n hx hb dX6_item_46 rfl (lv_at hl 4 rfl) ?_
        refine lv_aload hx hb dX6_item_47 (lv_at hl 0 rfl) ?_
        refine va_get (C := RX5) (T := TX5) (N := 2) (own := RX6) (v := .ref (qR 1)) hx hb ht inlX5 hown hK hP 2 rfl rfl 1 (Nat.le_of_ble_eq_true rfl) (ht _ mw_40_4) (fun _ h9 => h9) rfl dX6_item_49 ?_
        refine va_alen (v := (Int32.ofNat nR)) hx hb hK hP 3 0 rfl rfl rfl dX6_item_52 ?_
        refine C_si (wr := [0, 1, 2, 3].filterMap (fun i => (wX6 o q F ++ wQ cR (q 10) gsh ++ wX5 cI cZ nR oR qR FR AR : va_W)[i]?)) X hP hD hS [.int x3, .int (Int32.ofNat nR)] [] (w_X6_within l D cI cZ cR adK adV _ x3 (Int32.ofNat nR) _ h) cal_X6_within mw_15_9 rfl [] [0, 1, 2, 3] [0, 1, 2, 3] (fun u => (wX6 o q F ++ wQ cR (q 10) gsh ++ wX5 cI cZ nR oR qR FR AR : va_W)) rfl rfl (fun _ => rfl) rfl ⟨rfl, rfl⟩ ⟨Nat.le_of_ble_eq_true rfl, Nat.le_of_ble_eq_true rfl⟩ hl.1 rfl (Nat.le_of_ble_eq_true rfl) ⟨Nat.zero_le _, Nat.zero_le _⟩ dX6_item_53 (fun r53 u H locs h hP hD hS => ?_)
        refine lv_if_eq (tgt := 69) hx hb dX6_item_56 (by decide) (fun c56 => ?_) (fun c56 => ?_)
        · replace h := h.1 c56
          refine lv_bipush (v := -12) hx hb dX6_item_69 (by decide) ?_
          exact ret _ () _ _ _ _ dX6_item_71 h hP hD hS
        · replace h := h.2 c56
          refine lv_aload hx hb dX6_item_59 (lv_at hl 0 rfl) ?_
          refine va_get (C := RX5) (T := TX5) (N := 2) (own := RX6) (v := .ref (qR 1)) hx hb ht inlX5 hown hK hP 2 rfl rfl 1 (Nat.le_of_ble_eq_true rfl) (ht _ mw_40_4) (fun _ h9 => h9) rfl dX6_item_61 ?_
          refine lv_iload_n hx hb dX6_item_64 rfl (lv_at hl 4 rfl) ?_
          obtain ⟨hi65, h⟩ := h
          refine g_iald (f := (AR 1)) (k := (x3).toNatClampNeg) hx hb hK hP 3 0 rfl rfl hi65 rfl dX6_item_65 ?_
          refine lv_goto (tgt := 71) hx hb dX6_item_66 (by decide) ?_
          exact ret _ () _ _ _ _ dX6_item_71 h hP hD hS
      · replace h := h.2 c40
        refine lv_bipush (v := -13) hx hb dX6_item_43 (by decide) ?_
        exact ret _ () _ _ _ _ dX6_item_45 h hP hD hS
    · replace h := h.2 c13
      refine lv_iconst (v := -1) hx hb dX6_item_16 (by decide) ?_
      exact ret _ () _ _ _ _ dX6_item_17 h hP hD hS
theorem dX6_fits_0 : decode cX6_fits 0 = .ok (.iload_n 1, 1) := by decide +kernel
theorem dX6_fits_1 : decode cX6_fits 1 = .ok (.iconst 4, 1) := by decide +kernel
theorem dX6_fits_2 : decode cX6_fits 2 = .ok (.invokestatic 95, 3) := by decide +kernel
theorem dX6_fits_5 : decode cX6_fits 5 = .ok (.ifCond .eq 19, 3) := by decide +kernel
theorem dX6_fits_8 : decode cX6_fits 8 = .ok (.aload_n 0, 1) := by decide +kernel
theorem dX6_fits_9 : decode cX6_fits 9 = .ok (.iload_n 2, 1) := by decide +kernel
theorem dX6_fits_10 : decode cX6_fits 10 = .ok (.invokevirtual 114, 3) := by decide +kernel
theorem dX6_fits_13 : decode cX6_fits 13 = .ok (.ifCond .eq 11, 3) := by decide +kernel
theorem dX6_fits_16 : decode cX6_fits 16 = .ok (.iload_n 3, 1) := by decide +kernel
theorem dX6_fits_17 : decode cX6_fits 17 = .ok (.iconst 2, 1) := by decide +kernel
theorem dX6_fits_18 : decode cX6_fits 18 = .ok (.invokestatic 95, 3) := by decide +kernel
theorem dX6_fits_21 : decode cX6_fits 21 = .ok (.ifCond .ne 5, 3) := by decide +kernel
theorem dX6_fits_24 : decode cX6_fits 24 = .ok (.iconst (-1), 1) := by decide +kernel
theorem dX6_fits_25 : decode cX6_fits 25 = .ok (.ireturn, 1) := by decide +kernel
theorem dX6_fits_26 : decode cX6_fits 26 = .ok (.aload_n 0, 1) := by decide +kernel
theorem dX6_fits_27 : decode cX6_fits 27 = .ok (.getfield 64, 3) := by decide +kernel
theorem dX6_fits_30 : decode cX6_fits 30 = .ok (.iload_n 1, 1) := by decide +kernel
theorem dX6_fits_31 : decode cX6_fits 31 = .ok (.aaload, 1) := by decide +kernel
theorem dX6_fits_32 : decode cX6_fits 32 = .ok (.astore 4, 2) := by decide +kernel
theorem dX6_fits_34 : decode cX6_fits 34 = .ok (.aload 4, 2) := by decide +kernel
theorem dX6_fits_36 : decode cX6_fits 36 = .ok (.ifnonnull 6, 3) := by decide +kernel
theorem dX6_fits_39 : decode cX6_fits 39 = .ok (.bipush (-11), 2) := by decide +kernel
theorem dX6_fits_41 : decode cX6_fits 41 = .ok (.ireturn, 1) := by decide +kernel
theorem dX6_fits_42 : decode cX6_fits 42 = .ok (.iconst 0, 1) := by decide +kernel
theorem dX6_fits_43 : decode cX6_fits 43 = .ok (.istore 5, 2) := by decide +kernel
theorem dX6_fits_45 : decode cX6_fits 45 = .ok (.bipush (-3), 2) := by decide +kernel
theorem dX6_fits_47 : decode cX6_fits 47 = .ok (.istore 6, 2) := by decide +kernel
theorem dX6_fits_49 : decode cX6_fits 49 = .ok (.bipush 9, 2) := by decide +kernel
theorem dX6_fits_51 : decode cX6_fits 51 = .ok (.istore 7, 2) := by decide +kernel
theorem dX6_fits_53 : decode cX6_fits 53 = .ok (.iload 7, 2) := by decide +kernel
theorem dX6_fits_55 : decode cX6_fits 55 = .ok (.ifCond .lt 47, 3) := by decide +kernel
theorem dX6_fits_58 : decode cX6_fits 58 = .ok (.aload_n 0, 1) := by decide +kernel
theorem dX6_fits_59 : decode cX6_fits 59 = .ok (.getfield 16, 3) := by decide +kernel
theorem dX6_fits_62 : decode cX6_fits 62 = .ok (.aload_n 0, 1) := by decide +kernel
theorem dX6_fits_63 : decode cX6_fits 63 = .ok (.getfield 10, 3) := by decide +kernel
theorem dX6_fits_66 : decode cX6_fits 66 = .ok (.invokevirtual 81, 3) := by decide +kernel
theorem dX6_fits_69 : decode cX6_fits 69 = .ok (.aload_n 0, 1) := by decide +kernel
theorem dX6_fits_70 : decode cX6_fits 70 = .ok (.getfield 16, 3) := by decide +kernel
theorem dX6_fits_73 : decode cX6_fits 73 = .ok (.getfield 123, 3) := by decide +kernel
theorem dX6_fits_76 : decode cX6_fits 76 = .ok (.iload_n 2, 1) := by decide +kernel
theorem dX6_fits_77 : decode cX6_fits 77 = .ok (.iload 7, 2) := by decide +kernel
theorem dX6_fits_79 : decode cX6_fits 79 = .ok (.iastore, 1) := by decide +kernel
theorem dX6_fits_80 : decode cX6_fits 80 = .ok (.aload_n 0, 1) := by decide +kernel
theorem dX6_fits_81 : decode cX6_fits 81 = .ok (.aload 4, 2) := by decide +kernel
theorem dX6_fits_83 : decode cX6_fits 83 = .ok (.invokevirtual 258, 3) := by decide +kernel
theorem dX6_fits_86 : decode cX6_fits 86 = .ok (.ifCond .eq 10, 3) := by decide +kernel
theorem dX6_fits_89 : decode cX6_fits 89 = .ok (.iinc 5 1, 3) := by decide +kernel
theorem dX6_fits_92 : decode cX6_fits 92 = .ok (.iload 7, 2) := by decide +kernel
theorem dX6_fits_94 : decode cX6_fits 94 = .ok (.istore 6, 2) := by decide +kernel
theorem dX6_fits_96 : decode cX6_fits 96 = .ok (.iinc 7 (-1), 3) := by decide +kernel
theorem dX6_fits_99 : decode cX6_fits 99 = .ok (.goto (-46), 3) := by decide +kernel
theorem dX6_fits_102 : decode cX6_fits 102 = .ok (.iload_n 3, 1) := by decide +kernel
theorem dX6_fits_103 : decode cX6_fits 103 = .ok (.ifCond .ne 8, 3) := by decide +kernel
theorem dX6_fits_106 : decode cX6_fits 106 = .ok (.iload 5, 2) := by decide +kernel
theorem dX6_fits_108 : decode cX6_fits 108 = .ok (.goto 5, 3) := by decide +kernel
theorem dX6_fits_111 : decode cX6_fits 111 = .ok (.iload 6, 2) := by decide +kernel
theorem dX6_fits_113 : decode cX6_fits 113 = .ok (.ireturn, 1) := by decide +kernel
def p_X6_fits_N (F : tF) (Fn : tF) (An : tA) (gsh : tG) (x1 : Int32) (x2 : Int32) (x3 : Int32) (K : Int32 → Prop) : Prop := (p_X6_within x1 (4 : Int32) (fun r2 => ((r2 = 0 → (K (-1 : Int32))) ∧ (¬ r2 = 0 → (p_X6_isSheep F Fn An x2 (fun r10 => ((r10 = 0 → (K (-1 : Int32))) ∧ (¬ r10 = 0 → (p_X6_within x3 (2 : Int32) (fun r18 => ((¬ r18 = 0 → (vp_in x1 4 ∧ (gsh (x1).toNatClampNeg = none ∧ (K (-11 : Int32))))) ∧ (r18 = 0 → (K (-1 : Int32))))))))))))))
set_option maxHeartbeats 4000000 in
set_option maxRecDepth 100000 in
theorem w_X6_fits_N (l : Launch) (D : va_G) (cI cZ cR : ClassId) (adK adV : Nat → Nat) (sz : Nat) (o : Nat) (q : Nat → Nat) (qn : Nat → Nat) (F : tF) (Fn : tF) (An : tA) (gsh : tG) (x1 : Int32) (x2 : Int32) (x3 : Int32) (K : Int32 → Prop) (h : p_X6_fits_N F Fn An gsh x1 x2 x3 K) : MI l D cI cZ cR adK adV yX6_fits cX6_fits 8 (some .int) (rmN 2 42) [.ref o, .int x1, .int x2, .int x3] (wX6 o q F ++ wX2 cI cZ (q 0) qn Fn An ++ wQ cR (q 10) gsh : va_W) sz (fun (r : Int32) (u : Unit) => K r) (fun (u : Unit) => (wX6 o q F ++ wX2 cI cZ (q 0) qn Fn An ++ wQ cR (q 10) gsh : va_W)) := by
  refine M_i (by decide +kernel) (Nat.le_of_ble_eq_true rfl) ?_
  intro p e s m args below meth c Q A9 ls X ret hP hD hS hl
  obtain ⟨hx, hb, hml, ht, hown, hK, hA, hE⟩ := id X
  have hl : lv_has ls 8 [(0, .ref o), (1, .int x1), (2, .int x2), (3, .int x3)] := hl
  unfold p_X6_fits_N at h
  refine lv_iload_n hx hb dX6_fits_0 rfl (lv_at hl 1 rfl) ?_
  refine lv_iconst (v := 4) hx hb dX6_fits_1 (by decide) ?_
  refine C_si (wr := [0, 1, 2, 3, 4, 5, 6, 7, 8, 9, 10].filterMap (fun i => (wX6 o q F ++ wX2 cI cZ (q 0) qn Fn An ++ wQ cR (q 10) gsh : va_W)[i]?)) X hP hD hS [.int x1, .int (4 : Int32)] [] (w_X6_within l D cI cZ cR adK adV _ x1 (4 : Int32) _ h) cal_X6_within mw_15_9 rfl [] [0, 1, 2, 3, 4, 5, 6, 7, 8, 9, 10] [0, 1, 2, 3, 4, 5, 6, 7, 8, 9, 10] (fun u => (wX6 o q F ++ wX2 cI cZ (q 0) qn Fn An ++ wQ cR (q 10) gsh : va_W)) rfl rfl (fun _ => rfl) rfl ⟨rfl, rfl⟩ ⟨Nat.le_of_ble_eq_true rfl, Nat.le_of_ble_eq_true rfl⟩ hl.1 rfl (Nat.le_of_ble_eq_true rfl) ⟨Nat.zero_le _, Nat.zero_le _⟩ dX6_fits_2 (fun r2 u H locs h hP hD hS => ?_)
  refine lv_if_eq (tgt := 24) hx hb dX6_fits_5 (by decide) (fun c5 => ?_) (fun c5 => ?_)
  · replace h := h.1 c5
    refine lv_iconst (v := -1) hx hb dX6_fits_24 (by decide) ?_
    exact ret _ () _ _ _ _ dX6_fits_25 h hP hD hS
  · replace h := h.2 c5
    refine lv_aload_n hx hb dX6_fits_8 rfl (lv_at hl 0 rfl) ?_
    refine lv_iload_n hx hb dX6_fits_9 rfl (lv_at hl 2 rfl) ?_
    refine C_vi (wr := [10].filterMap (fun i => (wX6 o q F ++ wX2 cI cZ (q 0) qn Fn An ++ wQ cR (q 10) gsh : va_W)[i]?)) X hP hD hS [.int x2] [] (w_X6_isSheep l D cI cZ cR adK adV _ o q qn F Fn An x2 _ h) cal_X6_isSheep mw_17_8 rfl [0, 1, 2, 3, 4, 5, 6, 7, 8, 9] [10] [1, 2, 3, 4, 5, 6, 7, 8, 9, 10, 0] (fun u => (wX6 o q F ++ wX2 cI cZ (q 0) qn Fn An ++ wQ cR (q 10) gsh : va_W)) rfl rfl (fun _ => rfl) rfl 0 rfl rfl ⟨rfl, rfl⟩ ⟨Nat.le_of_ble_eq_true rfl, Nat.le_of_ble_eq_true rfl⟩ hl.1 rfl (Nat.le_of_ble_eq_true rfl) ⟨Nat.zero_le _, Nat.zero_le _⟩ dX6_fits_10 (fun r10 u H locs h hP hD hS => ?_)
    refine lv_if_eq (tgt := 24) hx hb dX6_fits_13 (by decide) (fun c13 => ?_) (fun c13 => ?_)
    · replace h := h.1 c13
      refine lv_iconst (v := -1) hx hb dX6_fits_24 (by decide) ?_
      exact ret _ () _ _ _ _ dX6_fits_25 h hP hD hS
    · replace h := h.2 c13
      refine lv_iload_n hx hb dX6_fits_16 rfl (lv_at hl 3 rfl) ?_
      refine lv_iconst (v := 2) hx hb dX6_fits_17 (by decide) ?_
      refine C_si (wr := [0, 1, 2, 3, 4, 5, 6, 7, 8, 9, 10].filterMap (fun i => (wX6 o q F ++ wX2 cI cZ (q 0) qn Fn An ++ wQ cR (q 10) gsh : va_W)[i]?)) X hP hD hS [.int x3, .int (2 : Int32)] [] (w_X6_within l D cI cZ cR adK adV _ x3 (2 : Int32) _ h) cal_X6_within mw_15_9 rfl [] [0, 1, 2, 3, 4, 5, 6, 7, 8, 9, 10] [0, 1, 2, 3, 4, 5, 6, 7, 8, 9, 10] (fun u => (wX6 o q F ++ wX2 cI cZ (q 0) qn Fn An ++ wQ cR (q 10) gsh : va_W)) rfl rfl (fun _ => rfl) rfl ⟨rfl, rfl⟩ ⟨Nat.le_of_ble_eq_true rfl, Nat.le_of_ble_eq_true rfl⟩ hl.1 rfl (Nat.le_of_ble_eq_true rfl) ⟨Nat.zero_le _, Nat.zero_le _⟩ dX6_fits_18 (fun r18 u H locs h hP hD hS => ?_)
      refine lv_if_ne (tgt := 26) hx hb dX6_fits_21 (by decide) (fun c21 => ?_) (fun c21 => ?_)
      · replace h := h.1 c21
        refine lv_aload_n hx hb dX6_fits_26 rfl (lv_at hl 0 rfl) ?_
        refine va_get (C := RX6) (T := TX6) (N := 13) (own := RX6) (v := .ref (q 10)) hx hb ht inlX6 hown hK hP 0 rfl rfl 10 (Nat.le_of_ble_eq_true rfl) (ht _ mw_2_16) (fun _ h9 => h9) rfl dX6_fits_27 ?_
        refine lv_iload_n hx hb dX6_fits_30 rfl (lv_at hl 1 rfl) ?_
        obtain ⟨hi31, h⟩ := h
        obtain ⟨hv31, h⟩ := h
        refine g_aldN (f := gsh) (k := (x1).toNatClampNeg) hx hb hK hP 10 2 rfl rfl hi31 rfl hv31 dX6_fits_31 ?_
        refine lv_astoreN (lv' := [(4, .null), (0, .ref o), (1, .int x1), (2, .int x2), (3, .int x3)]) hx hb dX6_fits_32 hl (by decide) rfl (fun ls hl => ?_)
        refine lv_aloadN hx hb dX6_fits_34 (lv_at hl 0 rfl) ?_
        refine lv_ifnonnullN hx hb dX6_fits_36 ?_
        refine lv_bipush (v := -11) hx hb dX6_fits_39 (by decide) ?_
        exact ret _ () _ _ _ _ dX6_fits_41 h hP hD hS
      · replace h := h.2 c21
        refine lv_iconst (v := -1) hx hb dX6_fits_24 (by decide) ?_
        exact ret _ () _ _ _ _ dX6_fits_25 h hP hD hS
theorem cal_X6_goesAsTold : CalV yX6_goesAsTold cX6_goesAsTold 3 (some .boolean) 1 := ⟨mw_40_3, mw_1_2, mw_40_1, mw_40_2, ⟨by decide +kernel, by decide +kernel, by decide +kernel⟩⟩
def p_X6_fits_R_J96 (oR : Nat) (nR : Nat) (F : tF) (Fn : tF) (An : tA) (gsh : tG) (FR : tF) (AR : tA) (Ft : tF) (At : tA) (B53 : (tF → tA → Int32 → Int32 → Int32 → Prop)) (K : Int32 → tF → tA → Prop) (x2 : Int32) (x3 : Int32) (x5 : Int32) (x6 : Int32) (x7 : Int32) : Prop := (∀ y96 : Int32, y96 = (x7 + (-1 : Int32)) → (B53 Ft At x5 x6 y96))
set_option maxHeartbeats 4000000 in
set_option maxRecDepth 100000 in
theorem b_X6_fits_R_J96 {p : Program} {l : Launch} {e : Env} {s : State} {m : MethodId} {args : Array Value} {below : List Frame} {meth : Method} {c : Code} {Q : State → Prop} {D : va_G} {cI cZ cR : ClassId} {adK adV : Nat → Nat} {A9 : Nat → Prop} {o : Nat} {q : Nat → Nat} {qn : Nat → Nat} {qR : Nat → Nat} {qt : Nat → Nat} {K : Int32 → tF → tA → Prop} {B53 : (tF → tA → Int32 → Int32 → Int32 → Prop)} (oR : Nat) (nR : Nat) (F : tF) (Fn : tF) (An : tA) (gsh : tG) (FR : tF) (AR : tA) (Ft : tF) (At : tA) (x2 : Int32) (x3 : Int32) (x5 : Int32) (x6 : Int32) (x7 : Int32) (X : CX p s m args c yX6_fits.cls cX6_fits 8 D cI cZ cR adK adV A9) (ret : RTi p l e (rmN 6 215) s m args below meth c Q cX6_fits D A9 (fun (r : Int32) (u : (tF × tA)) => K r u.1 u.2) (fun (u : (tF × tA)) => (wX6 o q F ++ wX2 cI cZ (q 0) qn Fn An ++ wQ cR (q 10) gsh ++ wX5 cI cZ nR oR qR FR AR ++ wX2 cI cZ (q 1) qt u.1 u.2 : va_W))) (hB53 : ∀ (Ft : tF) (At : tA) (x5 : Int32) (x6 : Int32) (x7 : Int32) (H : Heap) (locs : List Loc) (ls : Array Slot), B53 Ft At x5 x6 x7 → va_P D vwCl (wX6 o q F ++ wX2 cI cZ (q 0) qn Fn An ++ wQ cR (q 10) gsh ++ wX5 cI cZ nR oR qR FR AR ++ wX2 cI cZ (q 1) qt Ft At : va_W) H → va_D A9 (wX6 o q F ++ wX2 cI cZ (q 0) qn Fn An ++ wQ cR (q 10) gsh ++ wX5 cI cZ nR oR qR FR AR ++ wX2 cI cZ (q 1) qt Ft At : va_W) → va_S A9 s.heap H locs → lv_has ls 8 [(0, .ref o), (2, .int x2), (3, .int x3), (4, .ref oR), (5, .int x5), (6, .int x6), (7, .int x7)] → W p l e (rmN 6 215) s m args below meth c H locs 0 0 Q (F0 m 53 ls [])) (H : Heap) (locs : List Loc) (ls : Array Slot) (h : p_X6_fits_R_J96 oR nR F Fn An gsh FR AR Ft At B53 K x2 x3 x5 x6 x7) (hP : va_P D vwCl (wX6 o q F ++ wX2 cI cZ (q 0) qn Fn An ++ wQ cR (q 10) gsh ++ wX5 cI cZ nR oR qR FR AR ++ wX2 cI cZ (q 1) qt Ft At : va_W) H) (hD : va_D A9 (wX6 o q F ++ wX2 cI cZ (q 0) qn Fn An ++ wQ cR (q 10) gsh ++ wX5 cI cZ nR oR qR FR AR ++ wX2 cI cZ (q 1) qt Ft At : va_W)) (hS : va_S A9 s.heap H locs) (hl : lv_has ls 8 [(0, .ref o), (2, .int x2), (3, .int x3), (4, .ref oR), (5, .int x5), (6, .int x6), (7, .int x7)]) : W p l e (rmN 6 215) s m args below meth c H locs 0 0 Q (F0 m 96 ls []) := by
  obtain ⟨hx, hb, hml, ht, hown, hK, hA, hE⟩ := id X
  unfold p_X6_fits_R_J96 at h
  obtain ⟨y96, ey96⟩ : ∃ y : Int32, y = (x7 + (-1 : Int32)) := ⟨_, rfl⟩
  replace h := h y96 ey96
  refine lv_iinc (v := y96) (lv' := [(7, .int y96), (0, .ref o), (2, .int x2), (3, .int x3), (4, .ref oR), (5, .int x5), (6, .int x6)]) hx hb dX6_fits_96 hl (k := 6) rfl (by rw [ey96]; rfl) (by decide) rfl (fun ls hl => ?_)
  refine lv_goto (tgt := 53) hx hb dX6_fits_99 (by decide) ?_
  exact hB53 Ft At x5 x6 y96 _ _ _ h hP hD hS (lv_sub hl [1, 2, 3, 4, 5, 6, 0] rfl)
def p_X6_fits_R_L53 (oR : Nat) (nR : Nat) (F : tF) (Fn : tF) (An : tA) (gsh : tG) (FR : tF) (AR : tA) (x2 : Int32) (x3 : Int32) (K : Int32 → tF → tA → Prop) : Nat → tF → tA → Int32 → Int32 → Int32 → Prop
  | 0, _, _, _, _, _ => False
  | n53 + 1, Ft, At, x5, x6, x7 => ((x7 < 0 → ((¬ x3 = 0 → (K x6 Ft At)) ∧ (x3 = 0 → (K x5 Ft At)))) ∧ (¬ x7 < 0 → (p_X2_copyFrom Ft At Fn An (fun Ft_66 At_66 => (vp_in x2 8 ∧ (∀ f_79 : tF, f_79 = (upd (At_66 5) (x2).toNatClampNeg x7) → (p_X6_goesAsTold_R F oR nR FR AR Ft_66 (va_up At_66 5 f_79) (fun r83 Ft_83 At_83 => ((r83 = 0 → (p_X6_fits_R_J96 oR nR F Fn An gsh FR AR Ft_83 At_83 (p_X6_fits_R_L53 oR nR F Fn An gsh FR AR x2 x3 K n53) K x2 x3 x5 x6 x7)) ∧ (¬ r83 = 0 → (∀ y89 : Int32, y89 = (x5 + (1 : Int32)) → (p_X6_fits_R_J96 oR nR F Fn An gsh FR AR Ft_83 At_83 (p_X6_fits_R_L53 oR nR F Fn An gsh FR AR x2 x3 K n53) K x2 x3 y89 x7 x7))))))))))))
set_option maxHeartbeats 4000000 in
set_option maxRecDepth 100000 in
theorem b_X6_fits_R_L53 {p : Program} {l : Launch} {e : Env} {s : State} {m : MethodId} {args : Array Value} {below : List Frame} {meth : Method} {c : Code} {Q : State → Prop} {D : va_G} {cI cZ cR : ClassId} {adK adV : Nat → Nat} {A9 : Nat → Prop} {o : Nat} {q : Nat → Nat} {qn : Nat → Nat} {qR : Nat → Nat} {qt : Nat → Nat} {K : Int32 → tF → tA → Prop}  (oR : Nat) (nR : Nat) (F : tF) (Fn : tF) (An : tA) (gsh : tG) (FR : tF) (AR : tA) (x2 : Int32) (x3 : Int32) (X : CX p s m args c yX6_fits.cls cX6_fits 8 D cI cZ cR adK adV A9) (ret : RTi p l e (rmN 6 215) s m args below meth c Q cX6_fits D A9 (fun (r : Int32) (u : (tF × tA)) => K r u.1 u.2) (fun (u : (tF × tA)) => (wX6 o q F ++ wX2 cI cZ (q 0) qn Fn An ++ wQ cR (q 10) gsh ++ wX5 cI cZ nR oR qR FR AR ++ wX2 cI cZ (q 1) qt u.1 u.2 : va_W)))   : ∀ (n : Nat) (Ft : tF) (At : tA) (x5 : Int32) (x6 : Int32) (x7 : Int32) (H : Heap) (locs : List Loc) (ls : Array Slot), p_X6_fits_R_L53 oR nR F Fn An gsh FR AR x2 x3 K n Ft At x5 x6 x7 → va_P D vwCl (wX6 o q F ++ wX2 cI cZ (q 0) qn Fn An ++ wQ cR (q 10) gsh ++ wX5 cI cZ nR oR qR FR AR ++ wX2 cI cZ (q 1) qt Ft At : va_W) H → va_D A9 (wX6 o q F ++ wX2 cI cZ (q 0) qn Fn An ++ wQ cR (q 10) gsh ++ wX5 cI cZ nR oR qR FR AR ++ wX2 cI cZ (q 1) qt Ft At : va_W) → va_S A9 s.heap H locs → lv_has ls 8 [(0, .ref o), (2, .int x2), (3, .int x3), (4, .ref oR), (5, .int x5), (6, .int x6), (7, .int x7)] → W p l e (rmN 6 215) s m args below meth c H locs 0 0 Q (F0 m 53 ls []) := by
  obtain ⟨hx, hb, hml, ht, hown, hK, hA, hE⟩ := id X
  intro n
  induction n with
  | zero => intro Ft At x5 x6 x7 H locs ls h; exact False.elim h
  | succ n53 ih =>
    intro Ft At x5 x6 x7 H locs ls h hP hD hS hl
    rw [p_X6_fits_R_L53] at h
    refine lv_iload hx hb dX6_fits_53 (lv_at hl 6 rfl) ?_
    refine lv_if_lt (tgt := 102) hx hb dX6_fits_55 (by decide) (fun c55 => ?_) (fun c55 => ?_)
    · replace h := h.1 c55
      refine lv_iload_n hx hb dX6_fits_102 rfl (lv_at hl 2 rfl) ?_
      refine lv_if_ne (tgt := 111) hx hb dX6_fits_103 (by decide) (fun c103 => ?_) (fun c103 => ?_)
      · replace h := h.1 c103
        refine lv_iload hx hb dX6_fits_111 (lv_at hl 5 rfl) ?_
        exact ret _ (Ft, At) _ _ _ _ dX6_fits_113 h hP hD hS
      · replace h := h.2 c103
        refine lv_iload hx hb dX6_fits_106 (lv_at hl 4 rfl) ?_
        refine lv_goto (tgt := 113) hx hb dX6_fits_108 (by decide) ?_
        exact ret _ (Ft, At) _ _ _ _ dX6_fits_113 h hP hD hS
    · replace h := h.2 c55
      refine lv_aload_n hx hb dX6_fits_58 rfl (lv_at hl 0 rfl) ?_
      refine va_get (C := RX6) (T := TX6) (N := 13) (own := RX6) (v := .ref (q 1)) hx hb ht inlX6 hown hK hP 0 rfl rfl 1 (Nat.le_of_ble_eq_true rfl) (ht _ mw_1_17) (fun _ h9 => h9) rfl dX6_fits_59 ?_
      refine lv_aload_n hx hb dX6_fits_62 rfl (lv_at hl 0 rfl) ?_
      refine va_get (C := RX6) (T := TX6) (N := 13) (own := RX6) (v := .ref (q 0)) hx hb ht inlX6 hown hK hP 0 rfl rfl 0 (Nat.le_of_ble_eq_true rfl) (ht _ mw_1_16) (fun _ h9 => h9) rfl dX6_fits_63 ?_
      refine C_vv (wr := [0, 10, 11, 12].filterMap (fun i => (wX6 o q F ++ wX2 cI cZ (q 0) qn Fn An ++ wQ cR (q 10) gsh ++ wX5 cI cZ nR oR qR FR AR ++ wX2 cI cZ (q 1) qt Ft At : va_W)[i]?)) X hP hD hS [.ref (q 0)] [] (w_X2_copyFrom l D cI cZ cR adK adV _ (q 1) qt (q 0) qn Ft At Fn An _ h) cal_X2_copyFrom mw_7_3 rfl [13, 14, 15, 16, 17, 18, 19, 20, 21, 1, 2, 3, 4, 5, 6, 7, 8, 9] [0, 10, 11, 12] [0, 13, 14, 15, 16, 17, 18, 19, 20, 21, 1, 2, 3, 4, 5, 6, 7, 8, 9, 10, 11, 12] (fun u => (wX6 o q F ++ wX2 cI cZ (q 0) qn Fn An ++ wQ cR (q 10) gsh ++ wX5 cI cZ nR oR qR FR AR ++ wX2 cI cZ (q 1) qt u.1 u.2 : va_W)) rfl rfl (fun _ => rfl) rfl 13 rfl rfl ⟨rfl, rfl⟩ ⟨Nat.le_of_ble_eq_true rfl, Nat.le_of_ble_eq_true rfl⟩ hl.1 rfl (Nat.le_of_ble_eq_true rfl) ⟨Nat.zero_le _, Nat.zero_le _⟩ dX6_fits_66 (fun u H locs h hP hD hS => ?_)
      obtain ⟨Ft_66, At_66⟩ := u
      try dsimp only at h
      have hP : va_P D vwCl (wX6 o q F ++ wX2 cI cZ (q 0) qn Fn An ++ wQ cR (q 10) gsh ++ wX5 cI cZ nR oR qR FR AR ++ wX2 cI cZ (q 1) qt Ft_66 At_66 : va_W) H := hP
      have hD : va_D A9 (wX6 o q F ++ wX2 cI cZ (q 0) qn Fn An ++ wQ cR (q 10) gsh ++ wX5 cI cZ nR oR qR FR AR ++ wX2 cI cZ (q 1) qt Ft_66 At_66 : va_W) := hD
      refine lv_aload_n hx hb dX6_fits_69 rfl (lv_at hl 0 rfl) ?_
      refine va_get (C := RX6) (T := TX6) (N := 13) (own := RX6) (v := .ref (q 1)) hx hb ht inlX6 hown hK hP 0 rfl rfl 1 (Nat.le_of_ble_eq_true rfl) (ht _ mw_1_17) (fun _ h9 => h9) rfl dX6_fits_70 ?_
      refine va_get (C := RX2) (T := TX2) (N := 13) (own := RX6) (v := .ref (qt 5)) hx hb ht inlX2 hown hK hP 13 rfl rfl 5 (Nat.le_of_ble_eq_true rfl) (ht _ mw_17_6) (fun _ h9 => h9) rfl dX6_fits_73 ?_
      refine lv_iload_n hx hb dX6_fits_76 rfl (lv_at hl 1 rfl) ?_
      refine lv_iload hx hb dX6_fits_77 (lv_at hl 6 rfl) ?_
      obtain ⟨hi79, h⟩ := h
      obtain ⟨f_79, ef_79⟩ : ∃ z : tF, z = (upd (At_66 5) (x2).toNatClampNeg x7) := ⟨_, rfl⟩
      replace h := h f_79 ef_79
      refine g_iast (f := (At_66 5)) (k := (x2).toNatClampNeg) hx hb hK hP hD hS 19 0 rfl rfl hi79 rfl ef_79 dX6_fits_79 (fun H locs hP hD hS => ?_)
      have hP : va_P D vwCl (wX6 o q F ++ wX2 cI cZ (q 0) qn Fn An ++ wQ cR (q 10) gsh ++ wX5 cI cZ nR oR qR FR AR ++ wX2 cI cZ (q 1) qt Ft_66 (va_up At_66 5 f_79) : va_W) H := hP
      have hD : va_D A9 (wX6 o q F ++ wX2 cI cZ (q 0) qn Fn An ++ wQ cR (q 10) gsh ++ wX5 cI cZ nR oR qR FR AR ++ wX2 cI cZ (q 1) qt Ft_66 (va_up At_66 5 f_79) : va_W) := hD
      refine lv_aload_n hx hb dX6_fits_80 rfl (lv_at hl 0 rfl) ?_
      refine lv_aload hx hb dX6_fits_81 (lv_at hl 3 rfl) ?_
      refine C_vi (wr := [1, 2, 3, 4, 5, 6, 7, 8, 9, 10].filterMap (fun i => (wX6 o q F ++ wX2 cI cZ (q 0) qn Fn An ++ wQ cR (q 10) gsh ++ wX5 cI cZ nR oR qR FR AR ++ wX2 cI cZ (q 1) qt Ft_66 (va_up At_66 5 f_79) : va_W)[i]?)) X hP hD hS [.ref oR] [] (w_X6_goesAsTold_R l D cI cZ cR adK adV _ o q qR qt F oR nR FR AR Ft_66 (va_up At_66 5 f_79) _ h) cal_X6_goesAsTold mw_40_0 rfl [0, 11, 12, 13, 14, 15, 16, 17, 18, 19, 20, 21] [1, 2, 3, 4, 5, 6, 7, 8, 9, 10] [10, 0, 1, 2, 3, 4, 5, 6, 7, 8, 9, 11, 12, 13, 14, 15, 16, 17, 18, 19, 20, 21] (fun u => (wX6 o q F ++ wX2 cI cZ (q 0) qn Fn An ++ wQ cR (q 10) gsh ++ wX5 cI cZ nR oR qR FR AR ++ wX2 cI cZ (q 1) qt u.1 u.2 : va_W)) rfl rfl (fun _ => rfl) rfl 0 rfl rfl ⟨rfl, rfl⟩ ⟨Nat.le_of_ble_eq_true rfl, Nat.le_of_ble_eq_true rfl⟩ hl.1 rfl (Nat.le_of_ble_eq_true rfl) ⟨Nat.zero_le _, Nat.zero_le _⟩ dX6_fits_83 (fun r83 u H locs h hP hD hS => ?_)
      obtain ⟨Ft_83, At_83⟩ := u
      try dsimp only at h
      have hP : va_P D vwCl (wX6 o q F ++ wX2 cI cZ (q 0) qn Fn An ++ wQ cR (q 10) gsh ++ wX5 cI cZ nR oR qR FR AR ++ wX2 cI cZ (q 1) qt Ft_83 At_83 : va_W) H := hP
      have hD : va_D A9 (wX6 o q F ++ wX2 cI cZ (q 0) qn Fn An ++ wQ cR (q 10) gsh ++ wX5 cI cZ nR oR qR FR AR ++ wX2 cI cZ (q 1) qt Ft_83 At_83 : va_W) := hD
      refine lv_if_eq (tgt := 96) hx hb dX6_fits_86 (by decide) (fun c86 => ?_) (fun c86 => ?_)
      · replace h := h.1 c86
        exact b_X6_fits_R_J96 oR nR F Fn An gsh FR AR Ft_83 At_83 x2 x3 x5 x6 x7 X ret ih _ _ _ h hP hD hS (lv_sub hl [0, 1, 2, 3, 4, 5, 6] rfl)
      · replace h := h.2 c86
        obtain ⟨y89, ey89⟩ : ∃ y : Int32, y = (x5 + (1 : Int32)) := ⟨_, rfl⟩
        replace h := h y89 ey89
        refine lv_iinc (v := y89) (lv' := [(5, .int y89), (0, .ref o), (2, .int x2), (3, .int x3), (4, .ref oR), (6, .int x6), (7, .int x7)]) hx hb dX6_fits_89 hl (k := 4) rfl (by rw [ey89]; rfl) (by decide) rfl (fun ls hl => ?_)
        refine lv_iload hx hb dX6_fits_92 (lv_at hl 6 rfl) ?_
        refine lv_istore (lv' := [(6, .int x7), (5, .int y89), (0, .ref o), (2, .int x2), (3, .int x3), (4, .ref oR), (7, .int x7)]) hx hb dX6_fits_94 hl (by decide) rfl (fun ls hl => ?_)
        exact b_X6_fits_R_J96 oR nR F Fn An gsh FR AR Ft_83 At_83 x2 x3 y89 x7 x7 X ret ih _ _ _ h hP hD hS (lv_sub hl [2, 3, 4, 5, 1, 0, 6] rfl)
def p_X6_fits_R (F : tF) (Fn : tF) (An : tA) (gsh : tG) (oR : Nat) (nR : Nat) (FR : tF) (AR : tA) (Ft : tF) (At : tA) (x1 : Int32) (x2 : Int32) (x3 : Int32) (K : Int32 → tF → tA → Prop) : Prop := (p_X6_within x1 (4 : Int32) (fun r2 => ((r2 = 0 → (K (-1 : Int32) Ft At)) ∧ (¬ r2 = 0 → (p_X6_isSheep F Fn An x2 (fun r10 => ((r10 = 0 → (K (-1 : Int32) Ft At)) ∧ (¬ r10 = 0 → (p_X6_within x3 (2 : Int32) (fun r18 => ((¬ r18 = 0 → (vp_in x1 4 ∧ (gsh (x1).toNatClampNeg = some oR ∧ (∃ n53, p_X6_fits_R_L53 oR nR F Fn An gsh FR AR x2 x3 K n53 Ft At (0 : Int32) (-3 : Int32) (9 : Int32))))) ∧ (r18 = 0 → (K (-1 : Int32) Ft At)))))))))))))
set_option maxHeartbeats 4000000 in
set_option maxRecDepth 100000 in
theorem w_X6_fits_R (l : Launch) (D : va_G) (cI cZ cR : ClassId) (adK adV : Nat → Nat) (sz : Nat) (o : Nat) (q : Nat → Nat) (qn : Nat → Nat) (qR : Nat → Nat) (qt : Nat → Nat) (F : tF) (Fn : tF) (An : tA) (gsh : tG) (oR : Nat) (nR : Nat) (FR : tF) (AR : tA) (Ft : tF) (At : tA) (x1 : Int32) (x2 : Int32) (x3 : Int32) (K : Int32 → tF → tA → Prop) (h : p_X6_fits_R F Fn An gsh oR nR FR AR Ft At x1 x2 x3 K) : MI l D cI cZ cR adK adV yX6_fits cX6_fits 8 (some .int) (rmN 6 215) [.ref o, .int x1, .int x2, .int x3] (wX6 o q F ++ wX2 cI cZ (q 0) qn Fn An ++ wQ cR (q 10) gsh ++ wX5 cI cZ nR oR qR FR AR ++ wX2 cI cZ (q 1) qt Ft At : va_W) sz (fun (r : Int32) (u : (tF × tA)) => K r u.1 u.2) (fun (u : (tF × tA)) => (wX6 o q F ++ wX2 cI cZ (q 0) qn Fn An ++ wQ cR (q 10) gsh ++ wX5 cI cZ nR oR qR FR AR ++ wX2 cI cZ (q 1) qt u.1 u.2 : va_W)) := by
  refine M_i (by decide +kernel) (Nat.le_of_ble_eq_true rfl) ?_
  intro p e s m args below meth c Q A9 ls X ret hP hD hS hl
  obtain ⟨hx, hb, hml, ht, hown, hK, hA, hE⟩ := id X
  have hl : lv_has ls 8 [(0, .ref o), (1, .int x1), (2, .int x2), (3, .int x3)] := hl
  unfold p_X6_fits_R at h
  refine lv_iload_n hx hb dX6_fits_0 rfl (lv_at hl 1 rfl) ?_
  refine lv_iconst (v := 4) hx hb dX6_fits_1 (by decide) ?_
  refine C_si (wr := [0, 1, 2, 3, 4, 5, 6, 7, 8, 9, 10, 11, 12, 13, 14, 15, 16, 17, 18, 19, 20, 21].filterMap (fun i => (wX6 o q F ++ wX2 cI cZ (q 0) qn Fn An ++ wQ cR (q 10) gsh ++ wX5 cI cZ nR oR qR FR AR ++ wX2 cI cZ (q 1) qt Ft At : va_W)[i]?)) X hP hD hS [.int x1, .int (4 : Int32)] [] (w_X6_within l D cI cZ cR adK adV _ x1 (4 : Int32) _ h) cal_X6_within mw_15_9 rfl [] [0, 1, 2, 3, 4, 5, 6, 7, 8, 9, 10, 11, 12, 13, 14, 15, 16, 17, 18, 19, 20, 21] [0, 1, 2, 3, 4, 5, 6, 7, 8, 9, 10, 11, 12, 13, 14, 15, 16, 17, 18, 19, 20, 21] (fun u => (wX6 o q F ++ wX2 cI cZ (q 0) qn Fn An ++ wQ cR (q 10) gsh ++ wX5 cI cZ nR oR qR FR AR ++ wX2 cI cZ (q 1) qt Ft At : va_W)) rfl rfl (fun _ => rfl) rfl ⟨rfl, rfl⟩ ⟨Nat.le_of_ble_eq_true rfl, Nat.le_of_ble_eq_true rfl⟩ hl.1 rfl (Nat.le_of_ble_eq_true rfl) ⟨Nat.zero_le _, Nat.zero_le _⟩ dX6_fits_2 (fun r2 u H locs h hP hD hS => ?_)
  refine lv_if_eq (tgt := 24) hx hb dX6_fits_5 (by decide) (fun c5 => ?_) (fun c5 => ?_)
  · replace h := h.1 c5
    refine lv_iconst (v := -1) hx hb dX6_fits_24 (by decide) ?_
    exact ret _ (Ft, At) _ _ _ _ dX6_fits_25 h hP hD hS
  · replace h := h.2 c5
    refine lv_aload_n hx hb dX6_fits_8 rfl (lv_at hl 0 rfl) ?_
    refine lv_iload_n hx hb dX6_fits_9 rfl (lv_at hl 2 rfl) ?_
    refine C_vi (wr := [10, 11, 12, 13, 14, 15, 16, 17, 18, 19, 20, 21].filterMap (fun i => (wX6 o q F ++ wX2 cI cZ (q 0) qn Fn An ++ wQ cR (q 10) gsh ++ wX5 cI cZ nR oR qR FR AR ++ wX2 cI cZ (q 1) qt Ft At : va_W)[i]?)) X hP hD hS [.int x2] [] (w_X6_isSheep l D cI cZ cR adK adV _ o q qn F Fn An x2 _ h) cal_X6_isSheep mw_17_8 rfl [0, 1, 2, 3, 4, 5, 6, 7, 8, 9] [10, 11, 12, 13, 14, 15, 16, 17, 18, 19, 20, 21] [12, 13, 14, 15, 16, 17, 18, 19, 20, 21, 0, 1, 2, 3, 4, 5, 6, 7, 8, 9, 10, 11] (fun u => (wX6 o q F ++ wX2 cI cZ (q 0) qn Fn An ++ wQ cR (q 10) gsh ++ wX5 cI cZ nR oR qR FR AR ++ wX2 cI cZ (q 1) qt Ft At : va_W)) rfl rfl (fun _ => rfl) rfl 0 rfl rfl ⟨rfl, rfl⟩ ⟨Nat.le_of_ble_eq_true rfl, Nat.le_of_ble_eq_true rfl⟩ hl.1 rfl (Nat.le_of_ble_eq_true rfl) ⟨Nat.zero_le _, Nat.zero_le _⟩ dX6_fits_10 (fun r10 u H locs h hP hD hS => ?_)
    refine lv_if_eq (tgt := 24) hx hb dX6_fits_13 (by decide) (fun c13 => ?_) (fun c13 => ?_)
    · replace h := h.1 c13
      refine lv_iconst (v := -1) hx hb dX6_fits_24 (by decide) ?_
      exact ret _ (Ft, At) _ _ _ _ dX6_fits_25 h hP hD hS
    · replace h := h.2 c13
      refine lv_iload_n hx hb dX6_fits_16 rfl (lv_at hl 3 rfl) ?_
      refine lv_iconst (v := 2) hx hb dX6_fits_17 (by decide) ?_
      refine C_si (wr := [0, 1, 2, 3, 4, 5, 6, 7, 8, 9, 10, 11, 12, 13, 14, 15, 16, 17, 18, 19, 20, 21].filterMap (fun i => (wX6 o q F ++ wX2 cI cZ (q 0) qn Fn An ++ wQ cR (q 10) gsh ++ wX5 cI cZ nR oR qR FR AR ++ wX2 cI cZ (q 1) qt Ft At : va_W)[i]?)) X hP hD hS [.int x3, .int (2 : Int32)] [] (w_X6_within l D cI cZ cR adK adV _ x3 (2 : Int32) _ h) cal_X6_within mw_15_9 rfl [] [0, 1, 2, 3, 4, 5, 6, 7, 8, 9, 10, 11, 12, 13, 14, 15, 16, 17, 18, 19, 20, 21] [0, 1, 2, 3, 4, 5, 6, 7, 8, 9, 10, 11, 12, 13, 14, 15, 16, 17, 18, 19, 20, 21] (fun u => (wX6 o q F ++ wX2 cI cZ (q 0) qn Fn An ++ wQ cR (q 10) gsh ++ wX5 cI cZ nR oR qR FR AR ++ wX2 cI cZ (q 1) qt Ft At : va_W)) rfl rfl (fun _ => rfl) rfl ⟨rfl, rfl⟩ ⟨Nat.le_of_ble_eq_true rfl, Nat.le_of_ble_eq_true rfl⟩ hl.1 rfl (Nat.le_of_ble_eq_true rfl) ⟨Nat.zero_le _, Nat.zero_le _⟩ dX6_fits_18 (fun r18 u H locs h hP hD hS => ?_)
      refine lv_if_ne (tgt := 26) hx hb dX6_fits_21 (by decide) (fun c21 => ?_) (fun c21 => ?_)
      · replace h := h.1 c21
        refine lv_aload_n hx hb dX6_fits_26 rfl (lv_at hl 0 rfl) ?_
        refine va_get (C := RX6) (T := TX6) (N := 13) (own := RX6) (v := .ref (q 10)) hx hb ht inlX6 hown hK hP 0 rfl rfl 10 (Nat.le_of_ble_eq_true rfl) (ht _ mw_2_16) (fun _ h9 => h9) rfl dX6_fits_27 ?_
        refine lv_iload_n hx hb dX6_fits_30 rfl (lv_at hl 1 rfl) ?_
        obtain ⟨hi31, h⟩ := h
        obtain ⟨hv31, h⟩ := h
        refine g_aldR (f := gsh) (k := (x1).toNatClampNeg) (v := oR) hx hb hK hP 10 2 rfl rfl hi31 rfl hv31 dX6_fits_31 ?_
        refine lv_astore (lv' := [(4, .ref oR), (0, .ref o), (1, .int x1), (2, .int x2), (3, .int x3)]) hx hb dX6_fits_32 hl (by decide) rfl (fun ls hl => ?_)
        refine lv_aload hx hb dX6_fits_34 (lv_at hl 0 rfl) ?_
        refine lv_ifnonnull (tgt := 42) hx hb dX6_fits_36 (by decide) ?_
        refine lv_iconst (v := 0) hx hb dX6_fits_42 (by decide) ?_
        refine lv_istore (lv' := [(5, .int (0 : Int32)), (4, .ref oR), (0, .ref o), (1, .int x1), (2, .int x2), (3, .int x3)]) hx hb dX6_fits_43 hl (by decide) rfl (fun ls hl => ?_)
        refine lv_bipush (v := -3) hx hb dX6_fits_45 (by decide) ?_
        refine lv_istore (lv' := [(6, .int (-3 : Int32)), (5, .int (0 : Int32)), (4, .ref oR), (0, .ref o), (1, .int x1), (2, .int x2), (3, .int x3)]) hx hb dX6_fits_47 hl (by decide) rfl (fun ls hl => ?_)
        refine lv_bipush (v := 9) hx hb dX6_fits_49 (by decide) ?_
        refine lv_istore (lv' := [(7, .int (9 : Int32)), (6, .int (-3 : Int32)), (5, .int (0 : Int32)), (4, .ref oR), (0, .ref o), (1, .int x1), (2, .int x2), (3, .int x3)]) hx hb dX6_fits_51 hl (by decide) rfl (fun ls hl => ?_)
        obtain ⟨n53, h⟩ := h
        exact b_X6_fits_R_L53 oR nR F Fn An gsh FR AR x2 x3 X ret  n53 Ft At (0 : Int32) (-3 : Int32) (9 : Int32) _ _ _ h hP hD hS (lv_sub hl [4, 6, 7, 3, 2, 1, 0] rfl)
      · replace h := h.2 c21
        refine lv_iconst (v := -1) hx hb dX6_fits_24 (by decide) ?_
        exact ret _ (Ft, At) _ _ _ _ dX6_fits_25 h hP hD hS
theorem dX6_sheet_0 : decode cX6_sheet 0 = .ok (.iload_n 1, 1) := by decide +kernel
theorem dX6_sheet_1 : decode cX6_sheet 1 = .ok (.iconst 4, 1) := by decide +kernel
theorem dX6_sheet_2 : decode cX6_sheet 2 = .ok (.invokestatic 95, 3) := by decide +kernel
theorem dX6_sheet_5 : decode cX6_sheet 5 = .ok (.ifCond .eq 13, 3) := by decide +kernel
theorem dX6_sheet_8 : decode cX6_sheet 8 = .ok (.iload_n 2, 1) := by decide +kernel
theorem dX6_sheet_9 : decode cX6_sheet 9 = .ok (.iconst (-1), 1) := by decide +kernel
theorem dX6_sheet_10 : decode cX6_sheet 10 = .ok (.if_icmp .lt 8, 3) := by decide +kernel
theorem dX6_sheet_13 : decode cX6_sheet 13 = .ok (.iload_n 2, 1) := by decide +kernel
theorem dX6_sheet_14 : decode cX6_sheet 14 = .ok (.iconst 4, 1) := by decide +kernel
theorem dX6_sheet_15 : decode cX6_sheet 15 = .ok (.if_icmp .lt 5, 3) := by decide +kernel
theorem dX6_sheet_18 : decode cX6_sheet 18 = .ok (.iconst (-1), 1) := by decide +kernel
theorem dX6_sheet_19 : decode cX6_sheet 19 = .ok (.ireturn, 1) := by decide +kernel
theorem dX6_sheet_20 : decode cX6_sheet 20 = .ok (.iload_n 2, 1) := by decide +kernel
theorem dX6_sheet_21 : decode cX6_sheet 21 = .ok (.iconst (-1), 1) := by decide +kernel
theorem dX6_sheet_22 : decode cX6_sheet 22 = .ok (.if_icmp .ne 12, 3) := by decide +kernel
theorem dX6_sheet_25 : decode cX6_sheet 25 = .ok (.aload_n 0, 1) := by decide +kernel
theorem dX6_sheet_26 : decode cX6_sheet 26 = .ok (.getfield 64, 3) := by decide +kernel
theorem dX6_sheet_29 : decode cX6_sheet 29 = .ok (.iload_n 1, 1) := by decide +kernel
theorem dX6_sheet_30 : decode cX6_sheet 30 = .ok (.aconst_null, 1) := by decide +kernel
theorem dX6_sheet_31 : decode cX6_sheet 31 = .ok (.aastore, 1) := by decide +kernel
theorem dX6_sheet_32 : decode cX6_sheet 32 = .ok (.iconst 1, 1) := by decide +kernel
theorem dX6_sheet_33 : decode cX6_sheet 33 = .ok (.ireturn, 1) := by decide +kernel
theorem dX6_sheet_34 : decode cX6_sheet 34 = .ok (.iload_n 3, 1) := by decide +kernel
theorem dX6_sheet_35 : decode cX6_sheet 35 = .ok (.bipush 40, 2) := by decide +kernel
theorem dX6_sheet_37 : decode cX6_sheet 37 = .ok (.if_icmp .le 5, 3) := by decide +kernel
theorem dX6_sheet_40 : decode cX6_sheet 40 = .ok (.iconst (-1), 1) := by decide +kernel
theorem dX6_sheet_41 : decode cX6_sheet 41 = .ok (.ireturn, 1) := by decide +kernel
theorem dX6_sheet_42 : decode cX6_sheet 42 = .ok (.iload_n 3, 1) := by decide +kernel
theorem dX6_sheet_43 : decode cX6_sheet 43 = .ok (.ifCond .ge 6, 3) := by decide +kernel
theorem dX6_sheet_46 : decode cX6_sheet 46 = .ok (.bipush (-14), 2) := by decide +kernel
theorem dX6_sheet_48 : decode cX6_sheet 48 = .ok (.ireturn, 1) := by decide +kernel
theorem dX6_sheet_49 : decode cX6_sheet 49 = .ok (.aload_n 0, 1) := by decide +kernel
theorem dX6_sheet_50 : decode cX6_sheet 50 = .ok (.getfield 64, 3) := by decide +kernel
theorem dX6_sheet_53 : decode cX6_sheet 53 = .ok (.iload_n 1, 1) := by decide +kernel
theorem dX6_sheet_54 : decode cX6_sheet 54 = .ok (.new 62, 3) := by decide +kernel
theorem dX6_sheet_57 : decode cX6_sheet 57 = .ok (.dup, 1) := by decide +kernel
theorem dX6_sheet_58 : decode cX6_sheet 58 = .ok (.iload_n 2, 1) := by decide +kernel
theorem dX6_sheet_59 : decode cX6_sheet 59 = .ok (.iload_n 3, 1) := by decide +kernel
theorem dX6_sheet_60 : decode cX6_sheet 60 = .ok (.invokespecial 273, 3) := by decide +kernel
theorem dX6_sheet_63 : decode cX6_sheet 63 = .ok (.aastore, 1) := by decide +kernel
theorem dX6_sheet_64 : decode cX6_sheet 64 = .ok (.iconst 1, 1) := by decide +kernel
theorem dX6_sheet_65 : decode cX6_sheet 65 = .ok (.ireturn, 1) := by decide +kernel
def p_X6_sheet_N (F : tF) (gsh : tG) (x1 : Int32) (x2 : Int32) (x3 : Int32) (K : Int32 → tG → Prop) : Prop := (p_X6_within x1 (4 : Int32) (fun r2 => ((r2 = 0 → (K (-1 : Int32) gsh)) ∧ (¬ r2 = 0 → ((x2 < (-1 : Int32) → (K (-1 : Int32) gsh)) ∧ (¬ x2 < (-1 : Int32) → ((x2 < (4 : Int32) → ((¬ x2 = (-1 : Int32) → ((x3 ≤ (40 : Int32) → ((0 ≤ x3 → False) ∧ (¬ 0 ≤ x3 → (K (-14 : Int32) gsh)))) ∧ (¬ x3 ≤ (40 : Int32) → (K (-1 : Int32) gsh)))) ∧ (x2 = (-1 : Int32) → (vp_in x1 4 ∧ (K (1 : Int32) (va_up gsh (x1).toNatClampNeg none)))))) ∧ (¬ x2 < (4 : Int32) → (K (-1 : Int32) gsh)))))))))
set_option maxHeartbeats 4000000 in
set_option maxRecDepth 100000 in
theorem w_X6_sheet_N (l : Launch) (D : va_G) (cI cZ cR : ClassId) (adK adV : Nat → Nat) (sz : Nat) (o : Nat) (q : Nat → Nat) (F : tF) (gsh : tG) (x1 : Int32) (x2 : Int32) (x3 : Int32) (K : Int32 → tG → Prop) (h : p_X6_sheet_N F gsh x1 x2 x3 K) : MI l D cI cZ cR adK adV yX6_sheet cX6_sheet 4 (some .int) (rmN 1 21) [.ref o, .int x1, .int x2, .int x3] (wX6 o q F ++ wQ cR (q 10) gsh : va_W) sz (fun (r : Int32) (u : tG) => K r u) (fun (u : tG) => (wX6 o q F ++ wQ cR (q 10) u : va_W)) := by
  refine M_i (by decide +kernel) (Nat.le_of_ble_eq_true rfl) ?_
  intro p e s m args below meth c Q A9 ls X ret hP hD hS hl
  obtain ⟨hx, hb, hml, ht, hown, hK, hA, hE⟩ := id X
  have hl : lv_has ls 4 [(0, .ref o), (1, .int x1), (2, .int x2), (3, .int x3)] := hl
  unfold p_X6_sheet_N at h
  refine lv_iload_n hx hb dX6_sheet_0 rfl (lv_at hl 1 rfl) ?_
  refine lv_iconst (v := 4) hx hb dX6_sheet_1 (by decide) ?_
  refine C_si (wr := [0, 1].filterMap (fun i => (wX6 o q F ++ wQ cR (q 10) gsh : va_W)[i]?)) X hP hD hS [.int x1, .int (4 : Int32)] [] (w_X6_within l D cI cZ cR adK adV _ x1 (4 : Int32) _ h) cal_X6_within mw_15_9 rfl [] [0, 1] [0, 1] (fun u => (wX6 o q F ++ wQ cR (q 10) gsh : va_W)) rfl rfl (fun _ => rfl) rfl ⟨rfl, rfl⟩ ⟨Nat.le_of_ble_eq_true rfl, Nat.le_of_ble_eq_true rfl⟩ hl.1 rfl (Nat.le_of_ble_eq_true rfl) ⟨Nat.zero_le _, Nat.zero_le _⟩ dX6_sheet_2 (fun r2 u H locs h hP hD hS => ?_)
  refine lv_if_eq (tgt := 18) hx hb dX6_sheet_5 (by decide) (fun c5 => ?_) (fun c5 => ?_)
  · replace h := h.1 c5
    refine lv_iconst (v := -1) hx hb dX6_sheet_18 (by decide) ?_
    exact ret _ gsh _ _ _ _ dX6_sheet_19 h hP hD hS
  · replace h := h.2 c5
    refine lv_iload_n hx hb dX6_sheet_8 rfl (lv_at hl 2 rfl) ?_
    refine lv_iconst (v := -1) hx hb dX6_sheet_9 (by decide) ?_
    refine lv_icmp_lt (tgt := 18) hx hb dX6_sheet_10 (by decide) (fun c10 => ?_) (fun c10 => ?_)
    · replace h := h.1 c10
      refine lv_iconst (v := -1) hx hb dX6_sheet_18 (by decide) ?_
      exact ret _ gsh _ _ _ _ dX6_sheet_19 h hP hD hS
    · replace h := h.2 c10
      refine lv_iload_n hx hb dX6_sheet_13 rfl (lv_at hl 2 rfl) ?_
      refine lv_iconst (v := 4) hx hb dX6_sheet_14 (by decide) ?_
      refine lv_icmp_lt (tgt := 20) hx hb dX6_sheet_15 (by decide) (fun c15 => ?_) (fun c15 => ?_)
      · replace h := h.1 c15
        refine lv_iload_n hx hb dX6_sheet_20 rfl (lv_at hl 2 rfl) ?_
        refine lv_iconst (v := -1) hx hb dX6_sheet_21 (by decide) ?_
        refine lv_icmp_ne (tgt := 34) hx hb dX6_sheet_22 (by decide) (fun c22 => ?_) (fun c22 => ?_)
        · replace h := h.1 c22
          refine lv_iload_n hx hb dX6_sheet_34 rfl (lv_at hl 3 rfl) ?_
          refine lv_bipush (v := 40) hx hb dX6_sheet_35 (by decide) ?_
          refine lv_icmp_le (tgt := 42) hx hb dX6_sheet_37 (by decide) (fun c37 => ?_) (fun c37 => ?_)
          · replace h := h.1 c37
            refine lv_iload_n hx hb dX6_sheet_42 rfl (lv_at hl 3 rfl) ?_
            refine lv_if_ge (tgt := 49) hx hb dX6_sheet_43 (by decide) (fun c43 => ?_) (fun c43 => ?_)
            · replace h := h.1 c43
              refine lv_aload_n hx hb dX6_sheet_49 rfl (lv_at hl 0 rfl) ?_
              refine va_get (C := RX6) (T := TX6) (N := 13) (own := RX6) (v := .ref (q 10)) hx hb ht inlX6 hown hK hP 0 rfl rfl 10 (Nat.le_of_ble_eq_true rfl) (ht _ mw_2_16) (fun _ h9 => h9) rfl dX6_sheet_50 ?_
              refine lv_iload_n hx hb dX6_sheet_53 rfl (lv_at hl 1 rfl) ?_
              exact False.elim h
            · replace h := h.2 c43
              refine lv_bipush (v := -14) hx hb dX6_sheet_46 (by decide) ?_
              exact ret _ gsh _ _ _ _ dX6_sheet_48 h hP hD hS
          · replace h := h.2 c37
            refine lv_iconst (v := -1) hx hb dX6_sheet_40 (by decide) ?_
            exact ret _ gsh _ _ _ _ dX6_sheet_41 h hP hD hS
        · replace h := h.2 c22
          refine lv_aload_n hx hb dX6_sheet_25 rfl (lv_at hl 0 rfl) ?_
          refine va_get (C := RX6) (T := TX6) (N := 13) (own := RX6) (v := .ref (q 10)) hx hb ht inlX6 hown hK hP 0 rfl rfl 10 (Nat.le_of_ble_eq_true rfl) (ht _ mw_2_16) (fun _ h9 => h9) rfl dX6_sheet_26 ?_
          refine lv_iload_n hx hb dX6_sheet_29 rfl (lv_at hl 1 rfl) ?_
          refine lv_null hx hb dX6_sheet_30 ?_
          obtain ⟨hi31, h⟩ := h
          refine g_astN (f := gsh) (k := (x1).toNatClampNeg) hx hb hK hP hD hS 1 2 rfl rfl hi31 rfl dX6_sheet_31 (fun H locs hP hD hS => ?_)
          have hP : va_P D vwCl (wX6 o q F ++ wQ cR (q 10) (va_up gsh (x1).toNatClampNeg none) : va_W) H := hP
          have hD : va_D A9 (wX6 o q F ++ wQ cR (q 10) (va_up gsh (x1).toNatClampNeg none) : va_W) := hD
          refine lv_iconst (v := 1) hx hb dX6_sheet_32 (by decide) ?_
          exact ret _ (va_up gsh (x1).toNatClampNeg none) _ _ _ _ dX6_sheet_33 h hP hD hS
      · replace h := h.2 c15
        refine lv_iconst (v := -1) hx hb dX6_sheet_18 (by decide) ?_
        exact ret _ gsh _ _ _ _ dX6_sheet_19 h hP hD hS
theorem dX6_putOnShelf_0 : decode cX6_putOnShelf 0 = .ok (.aload_n 0, 1) := by decide +kernel
theorem dX6_putOnShelf_1 : decode cX6_putOnShelf 1 = .ok (.getfield 71, 3) := by decide +kernel
theorem dX6_putOnShelf_4 : decode cX6_putOnShelf 4 = .ok (.iload_n 1, 1) := by decide +kernel
theorem dX6_putOnShelf_5 : decode cX6_putOnShelf 5 = .ok (.iload_n 2, 1) := by decide +kernel
theorem dX6_putOnShelf_6 : decode cX6_putOnShelf 6 = .ok (.iastore, 1) := by decide +kernel
theorem dX6_putOnShelf_7 : decode cX6_putOnShelf 7 = .ok (.aload_n 0, 1) := by decide +kernel
theorem dX6_putOnShelf_8 : decode cX6_putOnShelf 8 = .ok (.getfield 68, 3) := by decide +kernel
theorem dX6_putOnShelf_11 : decode cX6_putOnShelf 11 = .ok (.iload_n 1, 1) := by decide +kernel
theorem dX6_putOnShelf_12 : decode cX6_putOnShelf 12 = .ok (.aload_n 3, 1) := by decide +kernel
theorem dX6_putOnShelf_13 : decode cX6_putOnShelf 13 = .ok (.aastore, 1) := by decide +kernel
theorem dX6_putOnShelf_14 : decode cX6_putOnShelf 14 = .ok (.iconst 1, 1) := by decide +kernel
theorem dX6_putOnShelf_15 : decode cX6_putOnShelf 15 = .ok (.ireturn, 1) := by decide +kernel
def p_X6_putOnShelf_N (F : tF) (fs : tF) (gsv : tG) (x1 : Int32) (x2 : Int32) (K : Int32 → tF → tG → Prop) : Prop := (vp_in x1 4 ∧ (∀ f_6 : tF, f_6 = (upd fs (x1).toNatClampNeg x2) → (vp_in x1 4 ∧ (K (1 : Int32) f_6 (va_up gsv (x1).toNatClampNeg none)))))
set_option maxHeartbeats 4000000 in
set_option maxRecDepth 100000 in
theorem w_X6_putOnShelf_N (l : Launch) (D : va_G) (cI cZ cR : ClassId) (adK adV : Nat → Nat) (sz : Nat) (o : Nat) (q : Nat → Nat) (F : tF) (fs : tF) (gsv : tG) (x1 : Int32) (x2 : Int32) (K : Int32 → tF → tG → Prop) (h : p_X6_putOnShelf_N F fs gsv x1 x2 K) : MI l D cI cZ cR adK adV yX6_putOnShelf cX6_putOnShelf 4 (some .int) (rmN 0 0) [.ref o, .int x1, .int x2, .null] (wX6 o q F ++ wI cI (q 12) 4 fs ++ wQ cR (q 11) gsv : va_W) sz (fun (r : Int32) (u : tF × tG) => K r u.1 u.2) (fun (u : tF × tG) => (wX6 o q F ++ wI cI (q 12) 4 u.1 ++ wQ cR (q 11) u.2 : va_W)) := by
  refine M_i (by decide +kernel) (Nat.le_of_ble_eq_true rfl) ?_
  intro p e s m args below meth c Q A9 ls X ret hP hD hS hl
  obtain ⟨hx, hb, hml, ht, hown, hK, hA, hE⟩ := id X
  have hl : lv_has ls 4 [(0, .ref o), (1, .int x1), (2, .int x2), (3, .null)] := hl
  unfold p_X6_putOnShelf_N at h
  refine lv_aload_n hx hb dX6_putOnShelf_0 rfl (lv_at hl 0 rfl) ?_
  refine va_get (C := RX6) (T := TX6) (N := 13) (own := RX6) (v := .ref (q 12)) hx hb ht inlX6 hown hK hP 0 rfl rfl 12 (Nat.le_of_ble_eq_true rfl) (ht _ mw_2_18) (fun _ h9 => h9) rfl dX6_putOnShelf_1 ?_
  refine lv_iload_n hx hb dX6_putOnShelf_4 rfl (lv_at hl 1 rfl) ?_
  refine lv_iload_n hx hb dX6_putOnShelf_5 rfl (lv_at hl 2 rfl) ?_
  obtain ⟨hi6, h⟩ := h
  obtain ⟨f_6, ef_6⟩ : ∃ z : tF, z = (upd fs (x1).toNatClampNeg x2) := ⟨_, rfl⟩
  replace h := h f_6 ef_6
  refine g_iast (f := fs) (k := (x1).toNatClampNeg) hx hb hK hP hD hS 1 0 rfl rfl hi6 rfl ef_6 dX6_putOnShelf_6 (fun H locs hP hD hS => ?_)
  have hP : va_P D vwCl (wX6 o q F ++ wI cI (q 12) 4 f_6 ++ wQ cR (q 11) gsv : va_W) H := hP
  have hD : va_D A9 (wX6 o q F ++ wI cI (q 12) 4 f_6 ++ wQ cR (q 11) gsv : va_W) := hD
  refine lv_aload_n hx hb dX6_putOnShelf_7 rfl (lv_at hl 0 rfl) ?_
  refine va_get (C := RX6) (T := TX6) (N := 13) (own := RX6) (v := .ref (q 11)) hx hb ht inlX6 hown hK hP 0 rfl rfl 11 (Nat.le_of_ble_eq_true rfl) (ht _ mw_2_17) (fun _ h9 => h9) rfl dX6_putOnShelf_8 ?_
  refine lv_iload_n hx hb dX6_putOnShelf_11 rfl (lv_at hl 1 rfl) ?_
  refine lv_aload_nN hx hb dX6_putOnShelf_12 rfl (lv_at hl 3 rfl) ?_
  obtain ⟨hi13, h⟩ := h
  refine g_astN (f := gsv) (k := (x1).toNatClampNeg) hx hb hK hP hD hS 2 2 rfl rfl hi13 rfl dX6_putOnShelf_13 (fun H locs hP hD hS => ?_)
  have hP : va_P D vwCl (wX6 o q F ++ wI cI (q 12) 4 f_6 ++ wQ cR (q 11) (va_up gsv (x1).toNatClampNeg none) : va_W) H := hP
  have hD : va_D A9 (wX6 o q F ++ wI cI (q 12) 4 f_6 ++ wQ cR (q 11) (va_up gsv (x1).toNatClampNeg none) : va_W) := hD
  refine lv_iconst (v := 1) hx hb dX6_putOnShelf_14 (by decide) ?_
  exact ret _ (f_6, (va_up gsv (x1).toNatClampNeg none)) _ _ _ _ dX6_putOnShelf_15 h hP hD hS
def p_X6_putOnShelf_R (F : tF) (oR : Nat) (nR : Nat) (FR : tF) (AR : tA) (fs : tF) (gsv : tG) (x1 : Int32) (x2 : Int32) (K : Int32 → tF → tG → Prop) : Prop := (vp_in x1 4 ∧ (∀ f_6 : tF, f_6 = (upd fs (x1).toNatClampNeg x2) → (vp_in x1 4 ∧ (K (1 : Int32) f_6 (va_up gsv (x1).toNatClampNeg (some oR))))))
set_option maxHeartbeats 4000000 in
set_option maxRecDepth 100000 in
theorem w_X6_putOnShelf_R (l : Launch) (D : va_G) (cI cZ cR : ClassId) (adK adV : Nat → Nat) (sz : Nat) (o : Nat) (q : Nat → Nat) (qR : Nat → Nat) (F : tF) (oR : Nat) (nR : Nat) (FR : tF) (AR : tA) (fs : tF) (gsv : tG) (x1 : Int32) (x2 : Int32) (K : Int32 → tF → tG → Prop) (h : p_X6_putOnShelf_R F oR nR FR AR fs gsv x1 x2 K) : MI l D cI cZ cR adK adV yX6_putOnShelf cX6_putOnShelf 4 (some .int) (rmN 0 0) [.ref o, .int x1, .int x2, .ref oR] (wX6 o q F ++ wX5 cI cZ nR oR qR FR AR ++ wI cI (q 12) 4 fs ++ wQ cR (q 11) gsv : va_W) sz (fun (r : Int32) (u : tF × tG) => K r u.1 u.2) (fun (u : tF × tG) => (wX6 o q F ++ wX5 cI cZ nR oR qR FR AR ++ wI cI (q 12) 4 u.1 ++ wQ cR (q 11) u.2 : va_W)) := by
  refine M_i (by decide +kernel) (Nat.le_of_ble_eq_true rfl) ?_
  intro p e s m args below meth c Q A9 ls X ret hP hD hS hl
  obtain ⟨hx, hb, hml, ht, hown, hK, hA, hE⟩ := id X
  have hl : lv_has ls 4 [(0, .ref o), (1, .int x1), (2, .int x2), (3, .ref oR)] := hl
  unfold p_X6_putOnShelf_R at h
  refine lv_aload_n hx hb dX6_putOnShelf_0 rfl (lv_at hl 0 rfl) ?_
  refine va_get (C := RX6) (T := TX6) (N := 13) (own := RX6) (v := .ref (q 12)) hx hb ht inlX6 hown hK hP 0 rfl rfl 12 (Nat.le_of_ble_eq_true rfl) (ht _ mw_2_18) (fun _ h9 => h9) rfl dX6_putOnShelf_1 ?_
  refine lv_iload_n hx hb dX6_putOnShelf_4 rfl (lv_at hl 1 rfl) ?_
  refine lv_iload_n hx hb dX6_putOnShelf_5 rfl (lv_at hl 2 rfl) ?_
  obtain ⟨hi6, h⟩ := h
  obtain ⟨f_6, ef_6⟩ : ∃ z : tF, z = (upd fs (x1).toNatClampNeg x2) := ⟨_, rfl⟩
  replace h := h f_6 ef_6
  refine g_iast (f := fs) (k := (x1).toNatClampNeg) hx hb hK hP hD hS 3 0 rfl rfl hi6 rfl ef_6 dX6_putOnShelf_6 (fun H locs hP hD hS => ?_)
  have hP : va_P D vwCl (wX6 o q F ++ wX5 cI cZ nR oR qR FR AR ++ wI cI (q 12) 4 f_6 ++ wQ cR (q 11) gsv : va_W) H := hP
  have hD : va_D A9 (wX6 o q F ++ wX5 cI cZ nR oR qR FR AR ++ wI cI (q 12) 4 f_6 ++ wQ cR (q 11) gsv : va_W) := hD
  refine lv_aload_n hx hb dX6_putOnShelf_7 rfl (lv_at hl 0 rfl) ?_
  refine va_get (C := RX6) (T := TX6) (N := 13) (own := RX6) (v := .ref (q 11)) hx hb ht inlX6 hown hK hP 0 rfl rfl 11 (Nat.le_of_ble_eq_true rfl) (ht _ mw_2_17) (fun _ h9 => h9) rfl dX6_putOnShelf_8 ?_
  refine lv_iload_n hx hb dX6_putOnShelf_11 rfl (lv_at hl 1 rfl) ?_
  refine lv_aload_n hx hb dX6_putOnShelf_12 rfl (lv_at hl 3 rfl) ?_
  obtain ⟨hi13, h⟩ := h
  refine g_astR (f := gsv) (k := (x1).toNatClampNeg) hx hb hK hP hD hS 4 2 1 rfl rfl rfl hi13 rfl dX6_putOnShelf_13 (fun H locs hP hD hS => ?_)
  have hP : va_P D vwCl (wX6 o q F ++ wX5 cI cZ nR oR qR FR AR ++ wI cI (q 12) 4 f_6 ++ wQ cR (q 11) (va_up gsv (x1).toNatClampNeg (some oR)) : va_W) H := hP
  have hD : va_D A9 (wX6 o q F ++ wX5 cI cZ nR oR qR FR AR ++ wI cI (q 12) 4 f_6 ++ wQ cR (q 11) (va_up gsv (x1).toNatClampNeg (some oR)) : va_W) := hD
  refine lv_iconst (v := 1) hx hb dX6_putOnShelf_14 (by decide) ?_
  exact ret _ (f_6, (va_up gsv (x1).toNatClampNeg (some oR))) _ _ _ _ dX6_putOnShelf_15 h hP hD hS
theorem cal_X6_putOnShelf : CalV yX6_putOnShelf cX6_putOnShelf 4 (some .int) 3 := ⟨mw_45_10, mw_1_2, mw_45_8, mw_45_9, ⟨by decide +kernel, by decide +kernel, by decide +kernel⟩⟩
theorem dX6_shelf_0 : decode cX6_shelf 0 = .ok (.iload_n 1, 1) := by decide +kernel
theorem dX6_shelf_1 : decode cX6_shelf 1 = .ok (.iconst 4, 1) := by decide +kernel
theorem dX6_shelf_2 : decode cX6_shelf 2 = .ok (.invokestatic 95, 3) := by decide +kernel
theorem dX6_shelf_5 : decode cX6_shelf 5 = .ok (.ifCond .ne 5, 3) := by decide +kernel
theorem dX6_shelf_8 : decode cX6_shelf 8 = .ok (.iconst (-1), 1) := by decide +kernel
theorem dX6_shelf_9 : decode cX6_shelf 9 = .ok (.ireturn, 1) := by decide +kernel
theorem dX6_shelf_10 : decode cX6_shelf 10 = .ok (.iload_n 2, 1) := by decide +kernel
theorem dX6_shelf_11 : decode cX6_shelf 11 = .ok (.tableswitch 74 0 2 #[25, 43, 66], 25) := by decide +kernel
theorem dX6_shelf_36 : decode cX6_shelf 36 = .ok (.aload_n 0, 1) := by decide +kernel
theorem dX6_shelf_37 : decode cX6_shelf 37 = .ok (.iload_n 3, 1) := by decide +kernel
theorem dX6_shelf_38 : decode cX6_shelf 38 = .ok (.invokevirtual 114, 3) := by decide +kernel
theorem dX6_shelf_41 : decode cX6_shelf 41 = .ok (.ifCond .ne 5, 3) := by decide +kernel
theorem dX6_shelf_44 : decode cX6_shelf 44 = .ok (.iconst (-1), 1) := by decide +kernel
theorem dX6_shelf_45 : decode cX6_shelf 45 = .ok (.ireturn, 1) := by decide +kernel
theorem dX6_shelf_46 : decode cX6_shelf 46 = .ok (.aload_n 0, 1) := by decide +kernel
theorem dX6_shelf_47 : decode cX6_shelf 47 = .ok (.iload_n 1, 1) := by decide +kernel
theorem dX6_shelf_48 : decode cX6_shelf 48 = .ok (.iload_n 3, 1) := by decide +kernel
theorem dX6_shelf_49 : decode cX6_shelf 49 = .ok (.aconst_null, 1) := by decide +kernel
theorem dX6_shelf_50 : decode cX6_shelf 50 = .ok (.invokevirtual 279, 3) := by decide +kernel
theorem dX6_shelf_53 : decode cX6_shelf 53 = .ok (.ireturn, 1) := by decide +kernel
theorem dX6_shelf_54 : decode cX6_shelf 54 = .ok (.iload_n 3, 1) := by decide +kernel
theorem dX6_shelf_55 : decode cX6_shelf 55 = .ok (.iconst 4, 1) := by decide +kernel
theorem dX6_shelf_56 : decode cX6_shelf 56 = .ok (.invokestatic 95, 3) := by decide +kernel
theorem dX6_shelf_59 : decode cX6_shelf 59 = .ok (.ifCond .ne 5, 3) := by decide +kernel
theorem dX6_shelf_62 : decode cX6_shelf 62 = .ok (.iconst (-1), 1) := by decide +kernel
theorem dX6_shelf_63 : decode cX6_shelf 63 = .ok (.ireturn, 1) := by decide +kernel
theorem dX6_shelf_64 : decode cX6_shelf 64 = .ok (.aload_n 0, 1) := by decide +kernel
theorem dX6_shelf_65 : decode cX6_shelf 65 = .ok (.iload_n 1, 1) := by decide +kernel
theorem dX6_shelf_66 : decode cX6_shelf 66 = .ok (.iconst (-1), 1) := by decide +kernel
theorem dX6_shelf_67 : decode cX6_shelf 67 = .ok (.aload_n 0, 1) := by decide +kernel
theorem dX6_shelf_68 : decode cX6_shelf 68 = .ok (.getfield 64, 3) := by decide +kernel
theorem dX6_shelf_71 : decode cX6_shelf 71 = .ok (.iload_n 3, 1) := by decide +kernel
theorem dX6_shelf_72 : decode cX6_shelf 72 = .ok (.aaload, 1) := by decide +kernel
theorem dX6_shelf_73 : decode cX6_shelf 73 = .ok (.invokevirtual 279, 3) := by decide +kernel
theorem dX6_shelf_76 : decode cX6_shelf 76 = .ok (.ireturn, 1) := by decide +kernel
theorem dX6_shelf_77 : decode cX6_shelf 77 = .ok (.aload_n 0, 1) := by decide +kernel
theorem dX6_shelf_78 : decode cX6_shelf 78 = .ok (.iload_n 1, 1) := by decide +kernel
theorem dX6_shelf_79 : decode cX6_shelf 79 = .ok (.iconst (-1), 1) := by decide +kernel
theorem dX6_shelf_80 : decode cX6_shelf 80 = .ok (.aconst_null, 1) := by decide +kernel
theorem dX6_shelf_81 : decode cX6_shelf 81 = .ok (.invokevirtual 279, 3) := by decide +kernel
theorem dX6_shelf_84 : decode cX6_shelf 84 = .ok (.ireturn, 1) := by decide +kernel
theorem dX6_shelf_85 : decode cX6_shelf 85 = .ok (.iconst (-1), 1) := by decide +kernel
theorem dX6_shelf_86 : decode cX6_shelf 86 = .ok (.ireturn, 1) := by decide +kernel
def p_X6_shelf_N (F : tF) (Fn : tF) (An : tA) (fs : tF) (gsv : tG) (gsh : tG) (x1 : Int32) (x2 : Int32) (x3 : Int32) (K : Int32 → tF → tG → Prop) : Prop := (p_X6_within x1 (4 : Int32) (fun r2 => ((¬ r2 = 0 → ((x2 = (0 : Int32) → (p_X6_isSheep F Fn An x3 (fun r38 => ((¬ r38 = 0 → (p_X6_putOnShelf_N F fs gsv x1 x3 (fun r50 fs_50 gsv_50 => (K r50 fs_50 gsv_50)))) ∧ (r38 = 0 → (K (-1 : Int32) fs gsv)))))) ∧ (x2 = (1 : Int32) → (p_X6_within x3 (4 : Int32) (fun r56 => ((¬ r56 = 0 → (vp_in x3 4 ∧ (gsh (x3).toNatClampNeg = none ∧ (p_X6_putOnShelf_N F fs gsv x1 (-1 : Int32) (fun r73 fs_73 gsv_73 => (K r73 fs_73 gsv_73)))))) ∧ (r56 = 0 → (K (-1 : Int32) fs gsv)))))) ∧ (x2 = (2 : Int32) → (p_X6_putOnShelf_N F fs gsv x1 (-1 : Int32) (fun r81 fs_81 gsv_81 => (K r81 fs_81 gsv_81)))) ∧ (¬ x2 = (0 : Int32) → ¬ x2 = (1 : Int32) → ¬ x2 = (2 : Int32) → (K (-1 : Int32) fs gsv)))) ∧ (r2 = 0 → (K (-1 : Int32) fs gsv)))))
set_option maxHeartbeats 4000000 in
set_option maxRecDepth 100000 in
theorem w_X6_shelf_N (l : Launch) (D : va_G) (cI cZ cR : ClassId) (adK adV : Nat → Nat) (sz : Nat) (o : Nat) (q : Nat → Nat) (qn : Nat → Nat) (F : tF) (Fn : tF) (An : tA) (fs : tF) (gsv : tG) (gsh : tG) (x1 : Int32) (x2 : Int32) (x3 : Int32) (K : Int32 → tF → tG → Prop) (h : p_X6_shelf_N F Fn An fs gsv gsh x1 x2 x3 K) : MI l D cI cZ cR adK adV yX6_shelf cX6_shelf 4 (some .int) (rmN 2 42) [.ref o, .int x1, .int x2, .int x3] (wX6 o q F ++ wX2 cI cZ (q 0) qn Fn An ++ wI cI (q 12) 4 fs ++ wQ cR (q 11) gsv ++ wQ cR (q 10) gsh : va_W) sz (fun (r : Int32) (u : tF × tG) => K r u.1 u.2) (fun (u : tF × tG) => (wX6 o q F ++ wX2 cI cZ (q 0) qn Fn An ++ wI cI (q 12) 4 u.1 ++ wQ cR (q 11) u.2 ++ wQ cR (q 10) gsh : va_W)) := by
  refine M_i (by decide +kernel) (Nat.le_of_ble_eq_true rfl) ?_
  intro p e s m args below meth c Q A9 ls X ret hP hD hS hl
  obtain ⟨hx, hb, hml, ht, hown, hK, hA, hE⟩ := id X
  have hl : lv_has ls 4 [(0, .ref o), (1, .int x1), (2, .int x2), (3, .int x3)] := hl
  unfold p_X6_shelf_N at h
  refine lv_iload_n hx hb dX6_shelf_0 rfl (lv_at hl 1 rfl) ?_
  refine lv_iconst (v := 4) hx hb dX6_shelf_1 (by decide) ?_
  refine C_si (wr := [0, 1, 2, 3, 4, 5, 6, 7, 8, 9, 10, 11, 12].filterMap (fun i => (wX6 o q F ++ wX2 cI cZ (q 0) qn Fn An ++ wI cI (q 12) 4 fs ++ wQ cR (q 11) gsv ++ wQ cR (q 10) gsh : va_W)[i]?)) X hP hD hS [.int x1, .int (4 : Int32)] [] (w_X6_within l D cI cZ cR adK adV _ x1 (4 : Int32) _ h) cal_X6_within mw_15_9 rfl [] [0, 1, 2, 3, 4, 5, 6, 7, 8, 9, 10, 11, 12] [0, 1, 2, 3, 4, 5, 6, 7, 8, 9, 10, 11, 12] (fun u => (wX6 o q F ++ wX2 cI cZ (q 0) qn Fn An ++ wI cI (q 12) 4 fs ++ wQ cR (q 11) gsv ++ wQ cR (q 10) gsh : va_W)) rfl rfl (fun _ => rfl) rfl ⟨rfl, rfl⟩ ⟨Nat.le_of_ble_eq_true rfl, Nat.le_of_ble_eq_true rfl⟩ hl.1 rfl (Nat.le_of_ble_eq_true rfl) ⟨Nat.zero_le _, Nat.zero_le _⟩ dX6_shelf_2 (fun r2 u H locs h hP hD hS => ?_)
  refine lv_if_ne (tgt := 10) hx hb dX6_shelf_5 (by decide) (fun c5 => ?_) (fun c5 => ?_)
  · replace h := h.1 c5
    refine lv_iload_n hx hb dX6_shelf_10 rfl (lv_at hl 2 rfl) ?_
    by_cases c11_0 : x2 = (0 : Int32)
    · replace h := h.1 c11_0
      refine lv_tableIn (tgt := 36) hx hb dX6_shelf_11 (by rw [c11_0]; decide) (by rw [c11_0]; decide) (by rw [c11_0]; rfl) (by decide) ?_
      refine lv_aload_n hx hb dX6_shelf_36 rfl (lv_at hl 0 rfl) ?_
      refine lv_iload_n hx hb dX6_shelf_37 rfl (lv_at hl 3 rfl) ?_
      refine C_vi (wr := [10, 11, 12].filterMap (fun i => (wX6 o q F ++ wX2 cI cZ (q 0) qn Fn An ++ wI cI (q 12) 4 fs ++ wQ cR (q 11) gsv ++ wQ cR (q 10) gsh : va_W)[i]?)) X hP hD hS [.int x3] [] (w_X6_isSheep l D cI cZ cR adK adV _ o q qn F Fn An x3 _ h) cal_X6_isSheep mw_17_8 rfl [0, 1, 2, 3, 4, 5, 6, 7, 8, 9] [10, 11, 12] [3, 4, 5, 6, 7, 8, 9, 10, 11, 12, 0, 1, 2] (fun u => (wX6 o q F ++ wX2 cI cZ (q 0) qn Fn An ++ wI cI (q 12) 4 fs ++ wQ cR (q 11) gsv ++ wQ cR (q 10) gsh : va_W)) rfl rfl (fun _ => rfl) rfl 0 rfl rfl ⟨rfl, rfl⟩ ⟨Nat.le_of_ble_eq_true rfl, Nat.le_of_ble_eq_true rfl⟩ hl.1 rfl (Nat.le_of_ble_eq_true rfl) ⟨Nat.zero_le _, Nat.zero_le _⟩ dX6_shelf_38 (fun r38 u H locs h hP hD hS => ?_)
      refine lv_if_ne (tgt := 46) hx hb dX6_shelf_41 (by decide) (fun c41 => ?_) (fun c41 => ?_)
      · replace h := h.1 c41
        refine lv_aload_n hx hb dX6_shelf_46 rfl (lv_at hl 0 rfl) ?_
        refine lv_iload_n hx hb dX6_shelf_47 rfl (lv_at hl 1 rfl) ?_
        refine lv_iload_n hx hb dX6_shelf_48 rfl (lv_at hl 3 rfl) ?_
        refine lv_null hx hb dX6_shelf_49 ?_
        refine C_vi (wr := [1, 2, 3, 4, 5, 6, 7, 8, 9, 12].filterMap (fun i => (wX6 o q F ++ wX2 cI cZ (q 0) qn Fn An ++ wI cI (q 12) 4 fs ++ wQ cR (q 11) gsv ++ wQ cR (q 10) gsh : va_W)[i]?)) X hP hD hS [.int x1, .int x3, .null] [] (w_X6_putOnShelf_N l D cI cZ cR adK adV _ o q F fs gsv x1 x3 _ h) cal_X6_putOnShelf mw_45_7 rfl [0, 10, 11] [1, 2, 3, 4, 5, 6, 7, 8, 9, 12] [10, 0, 1, 2, 3, 4, 5, 6, 7, 8, 11, 12, 9] (fun u => (wX6 o q F ++ wX2 cI cZ (q 0) qn Fn An ++ wI cI (q 12) 4 u.1 ++ wQ cR (q 11) u.2 ++ wQ cR (q 10) gsh : va_W)) rfl rfl (fun _ => rfl) rfl 0 rfl rfl ⟨rfl, rfl⟩ ⟨Nat.le_of_ble_eq_true rfl, Nat.le_of_ble_eq_true rfl⟩ hl.1 rfl (Nat.le_of_ble_eq_true rfl) ⟨Nat.zero_le _, Nat.zero_le _⟩ dX6_shelf_50 (fun r50 u H locs h hP hD hS => ?_)
        obtain ⟨fs_50, gsv_50⟩ := u
        try dsimp only at h
        have hP : va_P D vwCl (wX6 o q F ++ wX2 cI cZ (q 0) qn Fn An ++ wI cI (q 12) 4 fs_50 ++ wQ cR (q 11) gsv_50 ++ wQ cR (q 10) gsh : va_W) H := hP
        have hD : va_D A9 (wX6 o q F ++ wX2 cI cZ (q 0) qn Fn An ++ wI cI (q 12) 4 fs_50 ++ wQ cR (q 11) gsv_50 ++ wQ cR (q 10) gsh : va_W) := hD
        exact ret _ (fs_50, gsv_50) _ _ _ _ dX6_shelf_53 h hP hD hS
      · replace h := h.2 c41
        refine lv_iconst (v := -1) hx hb dX6_shelf_44 (by decide) ?_
        exact ret _ (fs, gsv) _ _ _ _ dX6_shelf_45 h hP hD hS
    by_cases c11_1 : x2 = (1 : Int32)
    · replace h := h.2.1 c11_1
      refine lv_tableIn (tgt := 54) hx hb dX6_shelf_11 (by rw [c11_1]; decide) (by rw [c11_1]; decide) (by rw [c11_1]; rfl) (by decide) ?_
      refine lv_iload_n hx hb dX6_shelf_54 rfl (lv_at hl 3 rfl) ?_
      refine lv_iconst (v := 4) hx hb dX6_shelf_55 (by decide) ?_
      refine C_si (wr := [0, 1, 2, 3, 4, 5, 6, 7, 8, 9, 10, 11, 12].filterMap (fun i => (wX6 o q F ++ wX2 cI cZ (q 0) qn Fn An ++ wI cI (q 12) 4 fs ++ wQ cR (q 11) gsv ++ wQ cR (q 10) gsh : va_W)[i]?)) X hP hD hS [.int x3, .int (4 : Int32)] [] (w_X6_within l D cI cZ cR adK adV _ x3 (4 : Int32) _ h) cal_X6_within mw_15_9 rfl [] [0, 1, 2, 3, 4, 5, 6, 7, 8, 9, 10, 11, 12] [0, 1, 2, 3, 4, 5, 6, 7, 8, 9, 10, 11, 12] (fun u => (wX6 o q F ++ wX2 cI cZ (q 0) qn Fn An ++ wI cI (q 12) 4 fs ++ wQ cR (q 11) gsv ++ wQ cR (q 10) gsh : va_W)) rfl rfl (fun _ => rfl) rfl ⟨rfl, rfl⟩ ⟨Nat.le_of_ble_eq_true rfl, Nat.le_of_ble_eq_true rfl⟩ hl.1 rfl (Nat.le_of_ble_eq_true rfl) ⟨Nat.zero_le _, Nat.zero_le _⟩ dX6_shelf_56 (fun r56 u H locs h hP hD hS => ?_)
      refine lv_if_ne (tgt := 64) hx hb dX6_shelf_59 (by decide) (fun c59 => ?_) (fun c59 => ?_)
      · replace h := h.1 c59
        refine lv_aload_n hx hb dX6_shelf_64 rfl (lv_at hl 0 rfl) ?_
        refine lv_iload_n hx hb dX6_shelf_65 rfl (lv_at hl 1 rfl) ?_
        refine lv_iconst (v := -1) hx hb dX6_shelf_66 (by decide) ?_
        refine lv_aload_n hx hb dX6_shelf_67 rfl (lv_at hl 0 rfl) ?_
        refine va_get (C := RX6) (T := TX6) (N := 13) (own := RX6) (v := .ref (q 10)) hx hb ht inlX6 hown hK hP 0 rfl rfl 10 (Nat.le_of_ble_eq_true rfl) (ht _ mw_2_16) (fun _ h9 => h9) rfl dX6_shelf_68 ?_
        refine lv_iload_n hx hb dX6_shelf_71 rfl (lv_at hl 3 rfl) ?_
        obtain ⟨hi72, h⟩ := h
        obtain ⟨hv72, h⟩ := h
        refine g_aldN (f := gsh) (k := (x3).toNatClampNeg) hx hb hK hP 12 2 rfl rfl hi72 rfl hv72 dX6_shelf_72 ?_
        refine C_vi (wr := [1, 2, 3, 4, 5, 6, 7, 8, 9, 12].filterMap (fun i => (wX6 o q F ++ wX2 cI cZ (q 0) qn Fn An ++ wI cI (q 12) 4 fs ++ wQ cR (q 11) gsv ++ wQ cR (q 10) gsh : va_W)[i]?)) X hP hD hS [.int x1, .int (-1 : Int32), .null] [] (w_X6_putOnShelf_N l D cI cZ cR adK adV _ o q F fs gsv x1 (-1 : Int32) _ h) cal_X6_putOnShelf mw_45_7 rfl [0, 10, 11] [1, 2, 3, 4, 5, 6, 7, 8, 9, 12] [10, 0, 1, 2, 3, 4, 5, 6, 7, 8, 11, 12, 9] (fun u => (wX6 o q F ++ wX2 cI cZ (q 0) qn Fn An ++ wI cI (q 12) 4 u.1 ++ wQ cR (q 11) u.2 ++ wQ cR (q 10) gsh : va_W)) rfl rfl (fun _ => rfl) rfl 0 rfl rfl ⟨rfl, rfl⟩ ⟨Nat.le_of_ble_eq_true rfl, Nat.le_of_ble_eq_true rfl⟩ hl.1 rfl (Nat.le_of_ble_eq_true rfl) ⟨Nat.zero_le _, Nat.zero_le _⟩ dX6_shelf_73 (fun r73 u H locs h hP hD hS => ?_)
        obtain ⟨fs_73, gsv_73⟩ := u
        try dsimp only at h
        have hP : va_P D vwCl (wX6 o q F ++ wX2 cI cZ (q 0) qn Fn An ++ wI cI (q 12) 4 fs_73 ++ wQ cR (q 11) gsv_73 ++ wQ cR (q 10) gsh : va_W) H := hP
        have hD : va_D A9 (wX6 o q F ++ wX2 cI cZ (q 0) qn Fn An ++ wI cI (q 12) 4 fs_73 ++ wQ cR (q 11) gsv_73 ++ wQ cR (q 10) gsh : va_W) := hD
        exact ret _ (fs_73, gsv_73) _ _ _ _ dX6_shelf_76 h hP hD hS
      · replace h := h.2 c59
        refine lv_iconst (v := -1) hx hb dX6_shelf_62 (by decide) ?_
        exact ret _ (fs, gsv) _ _ _ _ dX6_shelf_63 h hP hD hS
    by_cases c11_2 : x2 = (2 : Int32)
    · replace h := h.2.2.1 c11_2
      refine lv_tableIn (tgt := 77) hx hb dX6_shelf_11 (by rw [c11_2]; decide) (by rw [c11_2]; decide) (by rw [c11_2]; rfl) (by decide) ?_
      refine lv_aload_n hx hb dX6_shelf_77 rfl (lv_at hl 0 rfl) ?_
      refine lv_iload_n hx hb dX6_shelf_78 rfl (lv_at hl 1 rfl) ?_
      refine lv_iconst (v := -1) hx hb dX6_shelf_79 (by decide) ?_
      refine lv_null hx hb dX6_shelf_80 ?_
      refine C_vi (wr := [1, 2, 3, 4, 5, 6, 7, 8, 9, 12].filterMap (fun i => (wX6 o q F ++ wX2 cI cZ (q 0) qn Fn An ++ wI cI (q 12) 4 fs ++ wQ cR (q 11) gsv ++ wQ cR (q 10) gsh : va_W)[i]?)) X hP hD hS [.int x1, .int (-1 : Int32), .null] [] (w_X6_putOnShelf_N l D cI cZ cR adK adV _ o q F fs gsv x1 (-1 : Int32) _ h) cal_X6_putOnShelf mw_45_7 rfl [0, 10, 11] [1, 2, 3, 4, 5, 6, 7, 8, 9, 12] [10, 0, 1, 2, 3, 4, 5, 6, 7, 8, 11, 12, 9] (fun u => (wX6 o q F ++ wX2 cI cZ (q 0) qn Fn An ++ wI cI (q 12) 4 u.1 ++ wQ cR (q 11) u.2 ++ wQ cR (q 10) gsh : va_W)) rfl rfl (fun _ => rfl) rfl 0 rfl rfl ⟨rfl, rfl⟩ ⟨Nat.le_of_ble_eq_true rfl, Nat.le_of_ble_eq_true rfl⟩ hl.1 rfl (Nat.le_of_ble_eq_true rfl) ⟨Nat.zero_le _, Nat.zero_le _⟩ dX6_shelf_81 (fun r81 u H locs h hP hD hS => ?_)
      obtain ⟨fs_81, gsv_81⟩ := u
      try dsimp only at h
      have hP : va_P D vwCl (wX6 o q F ++ wX2 cI cZ (q 0) qn Fn An ++ wI cI (q 12) 4 fs_81 ++ wQ cR (q 11) gsv_81 ++ wQ cR (q 10) gsh : va_W) H := hP
      have hD : va_D A9 (wX6 o q F ++ wX2 cI cZ (q 0) qn Fn An ++ wI cI (q 12) 4 fs_81 ++ wQ cR (q 11) gsv_81 ++ wQ cR (q 10) gsh : va_W) := hD
      exact ret _ (fs_81, gsv_81) _ _ _ _ dX6_shelf_84 h hP hD hS
    replace h := h.2.2.2 c11_0 c11_1 c11_2
    refine g_tdef (tgt := 85) hx hb dX6_shelf_11 ?_ (by decide) ?_
    · exact Or.inl (sw0_2 c11_0 c11_1 c11_2)
    refine lv_iconst (v := -1) hx hb dX6_shelf_85 (by decide) ?_
    exact ret _ (fs, gsv) _ _ _ _ dX6_shelf_86 h hP hD hS
  · replace h := h.2 c5
    refine lv_iconst (v := -1) hx hb dX6_shelf_8 (by decide) ?_
    exact ret _ (fs, gsv) _ _ _ _ dX6_shelf_9 h hP hD hS
def p_X6_shelf_R (F : tF) (Fn : tF) (An : tA) (fs : tF) (gsv : tG) (gsh : tG) (oR : Nat) (nR : Nat) (FR : tF) (AR : tA) (x1 : Int32) (x2 : Int32) (x3 : Int32) (K : Int32 → tF → tG → Prop) : Prop := (p_X6_within x1 (4 : Int32) (fun r2 => ((¬ r2 = 0 → ((x2 = (0 : Int32) → (p_X6_isSheep F Fn An x3 (fun r38 => ((¬ r38 = 0 → (p_X6_putOnShelf_N F fs gsv x1 x3 (fun r50 fs_50 gsv_50 => (K r50 fs_50 gsv_50)))) ∧ (r38 = 0 → (K (-1 : Int32) fs gsv)))))) ∧ (x2 = (1 : Int32) → (p_X6_within x3 (4 : Int32) (fun r56 => ((¬ r56 = 0 → (vp_in x3 4 ∧ (gsh (x3).toNatClampNeg = some oR ∧ (p_X6_putOnShelf_R F oR nR FR AR fs gsv x1 (-1 : Int32) (fun r73 fs_73 gsv_73 => (K r73 fs_73 gsv_73)))))) ∧ (r56 = 0 → (K (-1 : Int32) fs gsv)))))) ∧ (x2 = (2 : Int32) → (p_X6_putOnShelf_N F fs gsv x1 (-1 : Int32) (fun r81 fs_81 gsv_81 => (K r81 fs_81 gsv_81)))) ∧ (¬ x2 = (0 : Int32) → ¬ x2 = (1 : Int32) → ¬ x2 = (2 : Int32) → (K (-1 : Int32) fs gsv)))) ∧ (r2 = 0 → (K (-1 : Int32) fs gsv)))))
set_option maxHeartbeats 4000000 in
set_option maxRecDepth 100000 in
theorem w_X6_shelf_R (l : Launch) (D : va_G) (cI cZ cR : ClassId) (adK adV : Nat → Nat) (sz : Nat) (o : Nat) (q : Nat → Nat) (qn : Nat → Nat) (qR : Nat → Nat) (F : tF) (Fn : tF) (An : tA) (fs : tF) (gsv : tG) (gsh : tG) (oR : Nat) (nR : Nat) (FR : tF) (AR : tA) (x1 : Int32) (x2 : Int32) (x3 : Int32) (K : Int32 → tF → tG → Prop) (h : p_X6_shelf_R F Fn An fs gsv gsh oR nR FR AR x1 x2 x3 K) : MI l D cI cZ cR adK adV yX6_shelf cX6_shelf 4 (some .int) (rmN 2 42) [.ref o, .int x1, .int x2, .int x3] (wX6 o q F ++ wX2 cI cZ (q 0) qn Fn An ++ wI cI (q 12) 4 fs ++ wQ cR (q 11) gsv ++ wQ cR (q 10) gsh ++ wX5 cI cZ nR oR qR FR AR : va_W) sz (fun (r : Int32) (u : tF × tG) => K r u.1 u.2) (fun (u : tF × tG) => (wX6 o q F ++ wX2 cI cZ (q 0) qn Fn An ++ wI cI (q 12) 4 u.1 ++ wQ cR (q 11) u.2 ++ wQ cR (q 10) gsh ++ wX5 cI cZ nR oR qR FR AR : va_W)) := by
  refine M_i (by decide +kernel) (Nat.le_of_ble_eq_true rfl) ?_
  intro p e s m args below meth c Q A9 ls X ret hP hD hS hl
  obtain ⟨hx, hb, hml, ht, hown, hK, hA, hE⟩ := id X
  have hl : lv_has ls 4 [(0, .ref o), (1, .int x1), (2, .int x2), (3, .int x3)] := hl
  unfold p_X6_shelf_R at h
  refine lv_iload_n hx hb dX6_shelf_0 rfl (lv_at hl 1 rfl) ?_
  refine lv_iconst (v := 4) hx hb dX6_shelf_1 (by decide) ?_
  refine C_si (wr := [0, 1, 2, 3, 4, 5, 6, 7, 8, 9, 10, 11, 12, 13, 14].filterMap (fun i => (wX6 o q F ++ wX2 cI cZ (q 0) qn Fn An ++ wI cI (q 12) 4 fs ++ wQ cR (q 11) gsv ++ wQ cR (q 10) gsh ++ wX5 cI cZ nR oR qR FR AR : va_W)[i]?)) X hP hD hS [.int x1, .int (4 : Int32)] [] (w_X6_within l D cI cZ cR adK adV _ x1 (4 : Int32) _ h) cal_X6_within mw_15_9 rfl [] [0, 1, 2, 3, 4, 5, 6, 7, 8, 9, 10, 11, 12, 13, 14] [0, 1, 2, 3, 4, 5, 6, 7, 8, 9, 10, 11, 12, 13, 14] (fun u => (wX6 o q F ++ wX2 cI cZ (q 0) qn Fn An ++ wI cI (q 12) 4 fs ++ wQ cR (q 11) gsv ++ wQ cR (q 10) gsh ++ wX5 cI cZ nR oR qR FR AR : va_W)) rfl rfl (fun _ => rfl) rfl ⟨rfl, rfl⟩ ⟨Nat.le_of_ble_eq_true rfl, Nat.le_of_ble_eq_true rfl⟩ hl.1 rfl (Nat.le_of_ble_eq_true rfl) ⟨Nat.zero_le _, Nat.zero_le _⟩ dX6_shelf_2 (fun r2 u H locs h hP hD hS => ?_)
  refine lv_if_ne (tgt := 10) hx hb dX6_shelf_5 (by decide) (fun c5 => ?_) (fun c5 => ?_)
  · replace h := h.1 c5
    refine lv_iload_n hx hb dX6_shelf_10 rfl (lv_at hl 2 rfl) ?_
    by_cases c11_0 : x2 = (0 : Int32)
    · replace h := h.1 c11_0
      refine lv_tableIn (tgt := 36) hx hb dX6_shelf_11 (by rw [c11_0]; decide) (by rw [c11_0]; decide) (by rw [c11_0]; rfl) (by decide) ?_
      refine lv_aload_n hx hb dX6_shelf_36 rfl (lv_at hl 0 rfl) ?_
      refine lv_iload_n hx hb dX6_shelf_37 rfl (lv_at hl 3 rfl) ?_
      refine C_vi (wr := [10, 11, 12, 13, 14].filterMap (fun i => (wX6 o q F ++ wX2 cI cZ (q 0) qn Fn An ++ wI cI (q 12) 4 fs ++ wQ cR (q 11) gsv ++ wQ cR (q 10) gsh ++ wX5 cI cZ nR oR qR FR AR : va_W)[i]?)) X hP hD hS [.int x3] [] (w_X6_isSheep l D cI cZ cR adK adV _ o q qn F Fn An x3 _ h) cal_X6_isSheep mw_17_8 rfl [0, 1, 2, 3, 4, 5, 6, 7, 8, 9] [10, 11, 12, 13, 14] [5, 6, 7, 8, 9, 10, 11, 12, 13, 14, 0, 1, 2, 3, 4] (fun u => (wX6 o q F ++ wX2 cI cZ (q 0) qn Fn An ++ wI cI (q 12) 4 fs ++ wQ cR (q 11) gsv ++ wQ cR (q 10) gsh ++ wX5 cI cZ nR oR qR FR AR : va_W)) rfl rfl (fun _ => rfl) rfl 0 rfl rfl ⟨rfl, rfl⟩ ⟨Nat.le_of_ble_eq_true rfl, Nat.le_of_ble_eq_true rfl⟩ hl.1 rfl (Nat.le_of_ble_eq_true rfl) ⟨Nat.zero_le _, Nat.zero_le _⟩ dX6_shelf_38 (fun r38 u H locs h hP hD hS => ?_)
      refine lv_if_ne (tgt := 46) hx hb dX6_shelf_41 (by decide) (fun c41 => ?_) (fun c41 => ?_)
      · replace h := h.1 c41
        refine lv_aload_n hx hb dX6_shelf_46 rfl (lv_at hl 0 rfl) ?_
        refine lv_iload_n hx hb dX6_shelf_47 rfl (lv_at hl 1 rfl) ?_
        refine lv_iload_n hx hb dX6_shelf_48 rfl (lv_at hl 3 rfl) ?_
        refine lv_null hx hb dX6_shelf_49 ?_
        refine C_vi (wr := [1, 2, 3, 4, 5, 6, 7, 8, 9, 12, 13, 14].filterMap (fun i => (wX6 o q F ++ wX2 cI cZ (q 0) qn Fn An ++ wI cI (q 12) 4 fs ++ wQ cR (q 11) gsv ++ wQ cR (q 10) gsh ++ wX5 cI cZ nR oR qR FR AR : va_W)[i]?)) X hP hD hS [.int x1, .int x3, .null] [] (w_X6_putOnShelf_N l D cI cZ cR adK adV _ o q F fs gsv x1 x3 _ h) cal_X6_putOnShelf mw_45_7 rfl [0, 10, 11] [1, 2, 3, 4, 5, 6, 7, 8, 9, 12, 13, 14] [12, 0, 1, 2, 3, 4, 5, 6, 7, 8, 13, 14, 9, 10, 11] (fun u => (wX6 o q F ++ wX2 cI cZ (q 0) qn Fn An ++ wI cI (q 12) 4 u.1 ++ wQ cR (q 11) u.2 ++ wQ cR (q 10) gsh ++ wX5 cI cZ nR oR qR FR AR : va_W)) rfl rfl (fun _ => rfl) rfl 0 rfl rfl ⟨rfl, rfl⟩ ⟨Nat.le_of_ble_eq_true rfl, Nat.le_of_ble_eq_true rfl⟩ hl.1 rfl (Nat.le_of_ble_eq_true rfl) ⟨Nat.zero_le _, Nat.zero_le _⟩ dX6_shelf_50 (fun r50 u H locs h hP hD hS => ?_)
        obtain ⟨fs_50, gsv_50⟩ := u
        try dsimp only at h
        have hP : va_P D vwCl (wX6 o q F ++ wX2 cI cZ (q 0) qn Fn An ++ wI cI (q 12) 4 fs_50 ++ wQ cR (q 11) gsv_50 ++ wQ cR (q 10) gsh ++ wX5 cI cZ nR oR qR FR AR : va_W) H := hP
        have hD : va_D A9 (wX6 o q F ++ wX2 cI cZ (q 0) qn Fn An ++ wI cI (q 12) 4 fs_50 ++ wQ cR (q 11) gsv_50 ++ wQ cR (q 10) gsh ++ wX5 cI cZ nR oR qR FR AR : va_W) := hD
        exact ret _ (fs_50, gsv_50) _ _ _ _ dX6_shelf_53 h hP hD hS
      · replace h := h.2 c41
        refine lv_iconst (v := -1) hx hb dX6_shelf_44 (by decide) ?_
        exact ret _ (fs, gsv) _ _ _ _ dX6_shelf_45 h hP hD hS
    by_cases c11_1 : x2 = (1 : Int32)
    · replace h := h.2.1 c11_1
      refine lv_tableIn (tgt := 54) hx hb dX6_shelf_11 (by rw [c11_1]; decide) (by rw [c11_1]; decide) (by rw [c11_1]; rfl) (by decide) ?_
      refine lv_iload_n hx hb dX6_shelf_54 rfl (lv_at hl 3 rfl) ?_
      refine lv_iconst (v := 4) hx hb dX6_shelf_55 (by decide) ?_
      refine C_si (wr := [0, 1, 2, 3, 4, 5, 6, 7, 8, 9, 10, 11, 12, 13, 14].filterMap (fun i => (wX6 o q F ++ wX2 cI cZ (q 0) qn Fn An ++ wI cI (q 12) 4 fs ++ wQ cR (q 11) gsv ++ wQ cR (q 10) gsh ++ wX5 cI cZ nR oR qR FR AR : va_W)[i]?)) X hP hD hS [.int x3, .int (4 : Int32)] [] (w_X6_within l D cI cZ cR adK adV _ x3 (4 : Int32) _ h) cal_X6_within mw_15_9 rfl [] [0, 1, 2, 3, 4, 5, 6, 7, 8, 9, 10, 11, 12, 13, 14] [0, 1, 2, 3, 4, 5, 6, 7, 8, 9, 10, 11, 12, 13, 14] (fun u => (wX6 o q F ++ wX2 cI cZ (q 0) qn Fn An ++ wI cI (q 12) 4 fs ++ wQ cR (q 11) gsv ++ wQ cR (q 10) gsh ++ wX5 cI cZ nR oR qR FR AR : va_W)) rfl rfl (fun _ => rfl) rfl ⟨rfl, rfl⟩ ⟨Nat.le_of_ble_eq_true rfl, Nat.le_of_ble_eq_true rfl⟩ hl.1 rfl (Nat.le_of_ble_eq_true rfl) ⟨Nat.zero_le _, Nat.zero_le _⟩ dX6_shelf_56 (fun r56 u H locs h hP hD hS => ?_)
      refine lv_if_ne (tgt := 64) hx hb dX6_shelf_59 (by decide) (fun c59 => ?_) (fun c59 => ?_)
      · replace h := h.1 c59
        refine lv_aload_n hx hb dX6_shelf_64 rfl (lv_at hl 0 rfl) ?_
        refine lv_iload_n hx hb dX6_shelf_65 rfl (lv_at hl 1 rfl) ?_
        refine lv_iconst (v := -1) hx hb dX6_shelf_66 (by decide) ?_
        refine lv_aload_n hx hb dX6_shelf_67 rfl (lv_at hl 0 rfl) ?_
        refine va_get (C := RX6) (T := TX6) (N := 13) (own := RX6) (v := .ref (q 10)) hx hb ht inlX6 hown hK hP 0 rfl rfl 10 (Nat.le_of_ble_eq_true rfl) (ht _ mw_2_16) (fun _ h9 => h9) rfl dX6_shelf_68 ?_
        refine lv_iload_n hx hb dX6_shelf_71 rfl (lv_at hl 3 rfl) ?_
        obtain ⟨hi72, h⟩ := h
        obtain ⟨hv72, h⟩ := h
        refine g_aldR (f := gsh) (k := (x3).toNatClampNeg) (v := oR) hx hb hK hP 12 2 rfl rfl hi72 rfl hv72 dX6_shelf_72 ?_
        refine C_vi (wr := [1, 2, 3, 4, 5, 6, 7, 8, 9, 12].filterMap (fun i => (wX6 o q F ++ wX2 cI cZ (q 0) qn Fn An ++ wI cI (q 12) 4 fs ++ wQ cR (q 11) gsv ++ wQ cR (q 10) gsh ++ wX5 cI cZ nR oR qR FR AR : va_W)[i]?)) X hP hD hS [.int x1, .int (-1 : Int32), .ref oR] [] (w_X6_putOnShelf_R l D cI cZ cR adK adV _ o q qR F oR nR FR AR fs gsv x1 (-1 : Int32) _ h) cal_X6_putOnShelf mw_45_7 rfl [0, 13, 14, 10, 11] [1, 2, 3, 4, 5, 6, 7, 8, 9, 12] [10, 0, 1, 2, 3, 4, 5, 6, 7, 8, 13, 14, 9, 11, 12] (fun u => (wX6 o q F ++ wX2 cI cZ (q 0) qn Fn An ++ wI cI (q 12) 4 u.1 ++ wQ cR (q 11) u.2 ++ wQ cR (q 10) gsh ++ wX5 cI cZ nR oR qR FR AR : va_W)) rfl rfl (fun _ => rfl) rfl 0 rfl rfl ⟨rfl, rfl⟩ ⟨Nat.le_of_ble_eq_true rfl, Nat.le_of_ble_eq_true rfl⟩ hl.1 rfl (Nat.le_of_ble_eq_true rfl) ⟨Nat.zero_le _, Nat.zero_le _⟩ dX6_shelf_73 (fun r73 u H locs h hP hD hS => ?_)
        obtain ⟨fs_73, gsv_73⟩ := u
        try dsimp only at h
        have hP : va_P D vwCl (wX6 o q F ++ wX2 cI cZ (q 0) qn Fn An ++ wI cI (q 12) 4 fs_73 ++ wQ cR (q 11) gsv_73 ++ wQ cR (q 10) gsh ++ wX5 cI cZ nR oR qR FR AR : va_W) H := hP
        have hD : va_D A9 (wX6 o q F ++ wX2 cI cZ (q 0) qn Fn An ++ wI cI (q 12) 4 fs_73 ++ wQ cR (q 11) gsv_73 ++ wQ cR (q 10) gsh ++ wX5 cI cZ nR oR qR FR AR : va_W) := hD
        exact ret _ (fs_73, gsv_73) _ _ _ _ dX6_shelf_76 h hP hD hS
      · replace h := h.2 c59
        refine lv_iconst (v := -1) hx hb dX6_shelf_62 (by decide) ?_
        exact ret _ (fs, gsv) _ _ _ _ dX6_shelf_63 h hP hD hS
    by_cases c11_2 : x2 = (2 : Int32)
    · replace h := h.2.2.1 c11_2
      refine lv_tableIn (tgt := 77) hx hb dX6_shelf_11 (by rw [c11_2]; decide) (by rw [c11_2]; decide) (by rw [c11_2]; rfl) (by decide) ?_
      refine lv_aload_n hx hb dX6_shelf_77 rfl (lv_at hl 0 rfl) ?_
      refine lv_iload_n hx hb dX6_shelf_78 rfl (lv_at hl 1 rfl) ?_
      refine lv_iconst (v := -1) hx hb dX6_shelf_79 (by decide) ?_
      refine lv_null hx hb dX6_shelf_80 ?_
      refine C_vi (wr := [1, 2, 3, 4, 5, 6, 7, 8, 9, 12, 13, 14].filterMap (fun i => (wX6 o q F ++ wX2 cI cZ (q 0) qn Fn An ++ wI cI (q 12) 4 fs ++ wQ cR (q 11) gsv ++ wQ cR (q 10) gsh ++ wX5 cI cZ nR oR qR FR AR : va_W)[i]?)) X hP hD hS [.int x1, .int (-1 : Int32), .null] [] (w_X6_putOnShelf_N l D cI cZ cR adK adV _ o q F fs gsv x1 (-1 : Int32) _ h) cal_X6_putOnShelf mw_45_7 rfl [0, 10, 11] [1, 2, 3, 4, 5, 6, 7, 8, 9, 12, 13, 14] [12, 0, 1, 2, 3, 4, 5, 6, 7, 8, 13, 14, 9, 10, 11] (fun u => (wX6 o q F ++ wX2 cI cZ (q 0) qn Fn An ++ wI cI (q 12) 4 u.1 ++ wQ cR (q 11) u.2 ++ wQ cR (q 10) gsh ++ wX5 cI cZ nR oR qR FR AR : va_W)) rfl rfl (fun _ => rfl) rfl 0 rfl rfl ⟨rfl, rfl⟩ ⟨Nat.le_of_ble_eq_true rfl, Nat.le_of_ble_eq_true rfl⟩ hl.1 rfl (Nat.le_of_ble_eq_true rfl) ⟨Nat.zero_le _, Nat.zero_le _⟩ dX6_shelf_81 (fun r81 u H locs h hP hD hS => ?_)
      obtain ⟨fs_81, gsv_81⟩ := u
      try dsimp only at h
      have hP : va_P D vwCl (wX6 o q F ++ wX2 cI cZ (q 0) qn Fn An ++ wI cI (q 12) 4 fs_81 ++ wQ cR (q 11) gsv_81 ++ wQ cR (q 10) gsh ++ wX5 cI cZ nR oR qR FR AR : va_W) H := hP
      have hD : va_D A9 (wX6 o q F ++ wX2 cI cZ (q 0) qn Fn An ++ wI cI (q 12) 4 fs_81 ++ wQ cR (q 11) gsv_81 ++ wQ cR (q 10) gsh ++ wX5 cI cZ nR oR qR FR AR : va_W) := hD
      exact ret _ (fs_81, gsv_81) _ _ _ _ dX6_shelf_84 h hP hD hS
    replace h := h.2.2.2 c11_0 c11_1 c11_2
    refine g_tdef (tgt := 85) hx hb dX6_shelf_11 ?_ (by decide) ?_
    · exact Or.inl (sw0_2 c11_0 c11_1 c11_2)
    refine lv_iconst (v := -1) hx hb dX6_shelf_85 (by decide) ?_
    exact ret _ (fs, gsv) _ _ _ _ dX6_shelf_86 h hP hD hS
  · replace h := h.2 c5
    refine lv_iconst (v := -1) hx hb dX6_shelf_8 (by decide) ?_
    exact ret _ (fs, gsv) _ _ _ _ dX6_shelf_9 h hP hD hS
theorem cal_X6_isKindOrUnder : CalS yX6_isKindOrUnder cX6_isKindOrUnder 2 (some .boolean) 2 := ⟨mw_46_0, mw_1_2, mw_45_23, ⟨by decide +kernel, by decide +kernel, by decide +kernel⟩⟩
theorem dX6_taken_0 : decode cX6_taken 0 = .ok (.iload_n 2, 1) := by decide +kernel
theorem dX6_taken_1 : decode cX6_taken 1 = .ok (.bipush 10, 2) := by decide +kernel
theorem dX6_taken_3 : decode cX6_taken 3 = .ok (.if_icmp .lt 13, 3) := by decide +kernel
theorem dX6_taken_6 : decode cX6_taken 6 = .ok (.iload_n 2, 1) := by decide +kernel
theorem dX6_taken_7 : decode cX6_taken 7 = .ok (.bipush 14, 2) := by decide +kernel
theorem dX6_taken_9 : decode cX6_taken 9 = .ok (.if_icmp .ge 7, 3) := by decide +kernel
theorem dX6_taken_12 : decode cX6_taken 12 = .ok (.iconst 1, 1) := by decide +kernel
theorem dX6_taken_13 : decode cX6_taken 13 = .ok (.goto 4, 3) := by decide +kernel
theorem dX6_taken_16 : decode cX6_taken 16 = .ok (.iconst 0, 1) := by decide +kernel
theorem dX6_taken_17 : decode cX6_taken 17 = .ok (.istore_n 3, 1) := by decide +kernel
theorem dX6_taken_18 : decode cX6_taken 18 = .ok (.iload_n 1, 1) := by decide +kernel
theorem dX6_taken_19 : decode cX6_taken 19 = .ok (.iconst 4, 1) := by decide +kernel
theorem dX6_taken_20 : decode cX6_taken 20 = .ok (.invokestatic 95, 3) := by decide +kernel
theorem dX6_taken_23 : decode cX6_taken 23 = .ok (.ifCond .eq 16, 3) := by decide +kernel
theorem dX6_taken_26 : decode cX6_taken 26 = .ok (.iload_n 3, 1) := by decide +kernel
theorem dX6_taken_27 : decode cX6_taken 27 = .ok (.ifCond .ne 14, 3) := by decide +kernel
theorem dX6_taken_30 : decode cX6_taken 30 = .ok (.iload_n 2, 1) := by decide +kernel
theorem dX6_taken_31 : decode cX6_taken 31 = .ok (.bipush 6, 2) := by decide +kernel
theorem dX6_taken_33 : decode cX6_taken 33 = .ok (.invokestatic 95, 3) := by decide +kernel
theorem dX6_taken_36 : decode cX6_taken 36 = .ok (.ifCond .ne 5, 3) := by decide +kernel
theorem dX6_taken_39 : decode cX6_taken 39 = .ok (.iconst (-1), 1) := by decide +kernel
theorem dX6_taken_40 : decode cX6_taken 40 = .ok (.ireturn, 1) := by decide +kernel
theorem dX6_taken_41 : decode cX6_taken 41 = .ok (.aload_n 0, 1) := by decide +kernel
theorem dX6_taken_42 : decode cX6_taken 42 = .ok (.getfield 68, 3) := by decide +kernel
theorem dX6_taken_45 : decode cX6_taken 45 = .ok (.iload_n 1, 1) := by decide +kernel
theorem dX6_taken_46 : decode cX6_taken 46 = .ok (.aaload, 1) := by decide +kernel
theorem dX6_taken_47 : decode cX6_taken 47 = .ok (.astore 4, 2) := by decide +kernel
theorem dX6_taken_49 : decode cX6_taken 49 = .ok (.aload_n 0, 1) := by decide +kernel
theorem dX6_taken_50 : decode cX6_taken 50 = .ok (.getfield 71, 3) := by decide +kernel
theorem dX6_taken_53 : decode cX6_taken 53 = .ok (.iload_n 1, 1) := by decide +kernel
theorem dX6_taken_54 : decode cX6_taken 54 = .ok (.iaload, 1) := by decide +kernel
theorem dX6_taken_55 : decode cX6_taken 55 = .ok (.istore 5, 2) := by decide +kernel
theorem dX6_taken_57 : decode cX6_taken 57 = .ok (.aload 4, 2) := by decide +kernel
theorem dX6_taken_59 : decode cX6_taken 59 = .ok (.ifnull 31, 3) := by decide +kernel
theorem dX6_taken_62 : decode cX6_taken 62 = .ok (.iload_n 3, 1) := by decide +kernel
theorem dX6_taken_63 : decode cX6_taken 63 = .ok (.ifCond .eq 24, 3) := by decide +kernel
theorem dX6_taken_66 : decode cX6_taken 66 = .ok (.aload 4, 2) := by decide +kernel
theorem dX6_taken_68 : decode cX6_taken 68 = .ok (.getfield 264, 3) := by decide +kernel
theorem dX6_taken_71 : decode cX6_taken 71 = .ok (.iload_n 2, 1) := by decide +kernel
theorem dX6_taken_72 : decode cX6_taken 72 = .ok (.bipush 10, 2) := by decide +kernel
theorem dX6_taken_74 : decode cX6_taken 74 = .ok (.isub, 1) := by decide +kernel
theorem dX6_taken_75 : decode cX6_taken 75 = .ok (.if_icmp .ne 12, 3) := by decide +kernel
theorem dX6_taken_78 : decode cX6_taken 78 = .ok (.aload 4, 2) := by decide +kernel
theorem dX6_taken_80 : decode cX6_taken 80 = .ok (.getfield 267, 3) := by decide +kernel
theorem dX6_taken_83 : decode cX6_taken 83 = .ok (.arraylength, 1) := by decide +kernel
theorem dX6_taken_84 : decode cX6_taken 84 = .ok (.goto 5, 3) := by decide +kernel
theorem dX6_taken_87 : decode cX6_taken 87 = .ok (.bipush (-13), 2) := by decide +kernel
theorem dX6_taken_89 : decode cX6_taken 89 = .ok (.ireturn, 1) := by decide +kernel
theorem dX6_taken_90 : decode cX6_taken 90 = .ok (.aload_n 0, 1) := by decide +kernel
theorem dX6_taken_91 : decode cX6_taken 91 = .ok (.iload 5, 2) := by decide +kernel
theorem dX6_taken_93 : decode cX6_taken 93 = .ok (.invokevirtual 114, 3) := by decide +kernel
theorem dX6_taken_96 : decode cX6_taken 96 = .ok (.ifCond .ne 6, 3) := by decide +kernel
theorem dX6_taken_99 : decode cX6_taken 99 = .ok (.bipush (-11), 2) := by decide +kernel
theorem dX6_taken_101 : decode cX6_taken 101 = .ok (.ireturn, 1) := by decide +kernel
theorem dX6_taken_102 : decode cX6_taken 102 = .ok (.iload_n 3, 1) := by decide +kernel
theorem dX6_taken_103 : decode cX6_taken 103 = .ok (.ifCond .ne 25, 3) := by decide +kernel
theorem dX6_taken_106 : decode cX6_taken 106 = .ok (.aload_n 0, 1) := by decide +kernel
theorem dX6_taken_107 : decode cX6_taken 107 = .ok (.getfield 10, 3) := by decide +kernel
theorem dX6_taken_110 : decode cX6_taken 110 = .ok (.getfield 117, 3) := by decide +kernel
theorem dX6_taken_113 : decode cX6_taken 113 = .ok (.iload 5, 2) := by decide +kernel
theorem dX6_taken_115 : decode cX6_taken 115 = .ok (.iaload, 1) := by decide +kernel
theorem dX6_taken_116 : decode cX6_taken 116 = .ok (.iload_n 2, 1) := by decide +kernel
theorem dX6_taken_117 : decode cX6_taken 117 = .ok (.invokestatic 283, 3) := by decide +kernel
theorem dX6_taken_120 : decode cX6_taken 120 = .ok (.ifCond .eq 8, 3) := by decide +kernel
theorem dX6_taken_123 : decode cX6_taken 123 = .ok (.iload 5, 2) := by decide +kernel
theorem dX6_taken_125 : decode cX6_taken 125 = .ok (.goto 5, 3) := by decide +kernel
theorem dX6_taken_128 : decode cX6_taken 128 = .ok (.bipush (-13), 2) := by decide +kernel
theorem dX6_taken_130 : decode cX6_taken 130 = .ok (.ireturn, 1) := by decide +kernel
def p_X6_taken_N_J41 (F : tF) (gsv : tG) (fs : tF) (Fn : tF) (An : tA) (K : Int32 → Prop) (x1 : Int32) (x2 : Int32) (x3 : Int32) : Prop := (vp_in x1 4 ∧ (gsv (x1).toNatClampNeg = none ∧ (vp_in x1 4 ∧ (∀ y55 : Int32, y55 = (fs (x1).toNatClampNeg) → (p_X6_isSheep F Fn An y55 (fun r93 => ((¬ r93 = 0 → ((¬ x3 = 0 → (K (-13 : Int32))) ∧ (x3 = 0 → (vp_in y55 8 ∧ (p_X6_isKindOrUnder ((An 3) (y55).toNatClampNeg) x2 (fun r117 => ((r117 = 0 → (K (-13 : Int32))) ∧ (¬ r117 = 0 → (K y55))))))))) ∧ (r93 = 0 → (K (-11 : Int32))))))))))
set_option maxHeartbeats 4000000 in
set_option maxRecDepth 100000 in
theorem b_X6_taken_N_J41 {p : Program} {l : Launch} {e : Env} {s : State} {m : MethodId} {args : Array Value} {below : List Frame} {meth : Method} {c : Code} {Q : State → Prop} {D : va_G} {cI cZ cR : ClassId} {adK adV : Nat → Nat} {A9 : Nat → Prop} {o : Nat} {q : Nat → Nat} {qn : Nat → Nat} {K : Int32 → Prop}  (F : tF) (gsv : tG) (fs : tF) (Fn : tF) (An : tA) (x1 : Int32) (x2 : Int32) (x3 : Int32) (X : CX p s m args c yX6_taken.cls cX6_taken 6 D cI cZ cR adK adV A9) (ret : RTi p l e (rmN 2 42) s m args below meth c Q cX6_taken D A9 (fun (r : Int32) (u : Unit) => K r) (fun (u : Unit) => (wX6 o q F ++ wQ cR (q 11) gsv ++ wI cI (q 12) 4 fs ++ wX2 cI cZ (q 0) qn Fn An : va_W)))  (H : Heap) (locs : List Loc) (ls : Array Slot) (h : p_X6_taken_N_J41 F gsv fs Fn An K x1 x2 x3) (hP : va_P D vwCl (wX6 o q F ++ wQ cR (q 11) gsv ++ wI cI (q 12) 4 fs ++ wX2 cI cZ (q 0) qn Fn An : va_W) H) (hD : va_D A9 (wX6 o q F ++ wQ cR (q 11) gsv ++ wI cI (q 12) 4 fs ++ wX2 cI cZ (q 0) qn Fn An : va_W)) (hS : va_S A9 s.heap H locs) (hl : lv_has ls 6 [(0, .ref o), (1, .int x1), (2, .int x2), (3, .int x3)]) : W p l e (rmN 2 42) s m args below meth c H locs 0 0 Q (F0 m 41 ls []) := by
  obtain ⟨hx, hb, hml, ht, hown, hK, hA, hE⟩ := id X
  unfold p_X6_taken_N_J41 at h
  refine lv_aload_n hx hb dX6_taken_41 rfl (lv_at hl 0 rfl) ?_
  refine va_get (C := RX6) (T := TX6) (N := 13) (own := RX6) (v := .ref (q 11)) hx hb ht inlX6 hown hK hP 0 rfl rfl 11 (Nat.le_of_ble_eq_true rfl) (ht _ mw_2_17) (fun _ h9 => h9) rfl dX6_taken_42 ?_
  refine lv_iload_n hx hb dX6_taken_45 rfl (lv_at hl 1 rfl) ?_
  obtain ⟨hi46, h⟩ := h
  obtain ⟨hv46, h⟩ := h
  refine g_aldN (f := gsv) (k := (x1).toNatClampNeg) hx hb hK hP 1 2 rfl rfl hi46 rfl hv46 dX6_taken_46 ?_
  refine lv_astoreN (lv' := [(4, .null), (0, .ref o), (1, .int x1), (2, .int x2), (3, .int x3)]) hx hb dX6_taken_47 hl (by decide) rfl (fun ls hl => ?_)
  refine lv_aload_n hx hb dX6_taken_49 rfl (lv_at hl 1 rfl) ?_
  refine va_get (C := RX6) (T := TX6) (N := 13) (own := RX6) (v := .ref (q 12)) hx hb ht inlX6 hown hK hP 0 rfl rfl 12 (Nat.le_of_ble_eq_true rfl) (ht _ mw_2_18) (fun _ h9 => h9) rfl dX6_taken_50 ?_
  refine lv_iload_n hx hb dX6_taken_53 rfl (lv_at hl 2 rfl) ?_
  obtain ⟨hi54, h⟩ := h
  refine g_iald (f := fs) (k := (x1).toNatClampNeg) hx hb hK hP 2 0 rfl rfl hi54 rfl dX6_taken_54 ?_
  refine lv_topi (fun y55 ey55 => ?_)
  replace h := h y55 ey55
  refine lv_istore (lv' := [(5, .int y55), (4, .null), (0, .ref o), (1, .int x1), (2, .int x2), (3, .int x3)]) hx hb dX6_taken_55 hl (by decide) rfl (fun ls hl => ?_)
  refine lv_aloadN hx hb dX6_taken_57 (lv_at hl 1 rfl) ?_
  refine lv_ifnullN (tgt := 90) hx hb dX6_taken_59 (by decide) ?_
  refine lv_aload_n hx hb dX6_taken_90 rfl (lv_at hl 2 rfl) ?_
  refine lv_iload hx hb dX6_taken_91 (lv_at hl 0 rfl) ?_
  refine C_vi (wr := [1, 2].filterMap (fun i => (wX6 o q F ++ wQ cR (q 11) gsv ++ wI cI (q 12) 4 fs ++ wX2 cI cZ (q 0) qn Fn An : va_W)[i]?)) X hP hD hS [.int y55] [] (w_X6_isSheep l D cI cZ cR adK adV _ o q qn F Fn An y55 _ h) cal_X6_isSheep mw_17_8 rfl [0, 3, 4, 5, 6, 7, 8, 9, 10, 11] [1, 2] [2, 0, 1, 3, 4, 5, 6, 7, 8, 9, 10, 11] (fun u => (wX6 o q F ++ wQ cR (q 11) gsv ++ wI cI (q 12) 4 fs ++ wX2 cI cZ (q 0) qn Fn An : va_W)) rfl rfl (fun _ => rfl) rfl 0 rfl rfl ⟨rfl, rfl⟩ ⟨Nat.le_of_ble_eq_true rfl, Nat.le_of_ble_eq_true rfl⟩ hl.1 rfl (Nat.le_of_ble_eq_true rfl) ⟨Nat.zero_le _, Nat.zero_le _⟩ dX6_taken_93 (fun r93 u H locs h hP hD hS => ?_)
  refine lv_if_ne (tgt := 102) hx hb dX6_taken_96 (by decide) (fun c96 => ?_) (fun c96 => ?_)
  · replace h := h.1 c96
    refine lv_iload_n hx hb dX6_taken_102 rfl (lv_at hl 5 rfl) ?_
    refine lv_if_ne (tgt := 128) hx hb dX6_taken_103 (by decide) (fun c103 => ?_) (fun c103 => ?_)
    · replace h := h.1 c103
      refine lv_bipush (v := -13) hx hb dX6_taken_128 (by decide) ?_
      exact ret _ () _ _ _ _ dX6_taken_130 h hP hD hS
    · replace h := h.2 c103
      refine lv_aload_n hx hb dX6_taken_106 rfl (lv_at hl 2 rfl) ?_
      refine va_get (C := RX6) (T := TX6) (N := 13) (own := RX6) (v := .ref (q 0)) hx hb ht inlX6 hown hK hP 0 rfl rfl 0 (Nat.le_of_ble_eq_true rfl) (ht _ mw_1_16) (fun _ h9 => h9) rfl dX6_taken_107 ?_
      refine va_get (C := RX2) (T := TX2) (N := 13) (own := RX6) (v := .ref (qn 3)) hx hb ht inlX2 hown hK hP 3 rfl rfl 3 (Nat.le_of_ble_eq_true rfl) (ht _ mw_17_4) (fun _ h9 => h9) rfl dX6_taken_110 ?_
      refine lv_iload hx hb dX6_taken_113 (lv_at hl 0 rfl) ?_
      obtain ⟨hi115, h⟩ := h
      refine g_iald (f := (An 3)) (k := (y55).toNatClampNeg) hx hb hK hP 7 0 rfl rfl hi115 rfl dX6_taken_115 ?_
      refine lv_iload_n hx hb dX6_taken_116 rfl (lv_at hl 4 rfl) ?_
      refine C_si (wr := [0, 1, 2, 3, 4, 5, 6, 7, 8, 9, 10, 11].filterMap (fun i => (wX6 o q F ++ wQ cR (q 11) gsv ++ wI cI (q 12) 4 fs ++ wX2 cI cZ (q 0) qn Fn An : va_W)[i]?)) X hP hD hS [.int ((An 3) (y55).toNatClampNeg), .int x2] [] (w_X6_isKindOrUnder l D cI cZ cR adK adV _ ((An 3) (y55).toNatClampNeg) x2 _ h) cal_X6_isKindOrUnder mw_45_22 rfl [] [0, 1, 2, 3, 4, 5, 6, 7, 8, 9, 10, 11] [0, 1, 2, 3, 4, 5, 6, 7, 8, 9, 10, 11] (fun u => (wX6 o q F ++ wQ cR (q 11) gsv ++ wI cI (q 12) 4 fs ++ wX2 cI cZ (q 0) qn Fn An : va_W)) rfl rfl (fun _ => rfl) rfl ⟨rfl, rfl⟩ ⟨Nat.le_of_ble_eq_true rfl, Nat.le_of_ble_eq_true rfl⟩ hl.1 rfl (Nat.le_of_ble_eq_true rfl) ⟨Nat.zero_le _, Nat.zero_le _⟩ dX6_taken_117 (fun r117 u H locs h hP hD hS => ?_)
      refine lv_if_eq (tgt := 128) hx hb dX6_taken_120 (by decide) (fun c120 => ?_) (fun c120 => ?_)
      · replace h := h.1 c120
        refine lv_bipush (v := -13) hx hb dX6_taken_128 (by decide) ?_
        exact ret _ () _ _ _ _ dX6_taken_130 h hP hD hS
      · replace h := h.2 c120
        refine lv_iload hx hb dX6_taken_123 (lv_at hl 0 rfl) ?_
        refine lv_goto (tgt := 130) hx hb dX6_taken_125 (by decide) ?_
        exact ret _ () _ _ _ _ dX6_taken_130 h hP hD hS
  · replace h := h.2 c96
    refine lv_bipush (v := -11) hx hb dX6_taken_99 (by decide) ?_
    exact ret _ () _ _ _ _ dX6_taken_101 h hP hD hS
def p_X6_taken_N_J17 (F : tF) (gsv : tG) (fs : tF) (Fn : tF) (An : tA) (K : Int32 → Prop) (x1 : Int32) (x2 : Int32) (s0 : Int32) : Prop := (p_X6_within x1 (4 : Int32) (fun r20 => ((r20 = 0 → (K (-1 : Int32))) ∧ (¬ r20 = 0 → ((¬ s0 = 0 → (p_X6_taken_N_J41 F gsv fs Fn An K x1 x2 s0)) ∧ (s0 = 0 → (p_X6_within x2 (6 : Int32) (fun r33 => ((¬ r33 = 0 → (p_X6_taken_N_J41 F gsv fs Fn An K x1 x2 s0)) ∧ (r33 = 0 → (K (-1 : Int32))))))))))))
set_option maxHeartbeats 4000000 in
set_option maxRecDepth 100000 in
theorem b_X6_taken_N_J17 {p : Program} {l : Launch} {e : Env} {s : State} {m : MethodId} {args : Array Value} {below : List Frame} {meth : Method} {c : Code} {Q : State → Prop} {D : va_G} {cI cZ cR : ClassId} {adK adV : Nat → Nat} {A9 : Nat → Prop} {o : Nat} {q : Nat → Nat} {qn : Nat → Nat} {K : Int32 → Prop}  (F : tF) (gsv : tG) (fs : tF) (Fn : tF) (An : tA) (x1 : Int32) (x2 : Int32) (s0 : Int32) (X : CX p s m args c yX6_taken.cls cX6_taken 6 D cI cZ cR adK adV A9) (ret : RTi p l e (rmN 2 42) s m args below meth c Q cX6_taken D A9 (fun (r : Int32) (u : Unit) => K r) (fun (u : Unit) => (wX6 o q F ++ wQ cR (q 11) gsv ++ wI cI (q 12) 4 fs ++ wX2 cI cZ (q 0) qn Fn An : va_W)))  (H : Heap) (locs : List Loc) (ls : Array Slot) (h : p_X6_taken_N_J17 F gsv fs Fn An K x1 x2 s0) (hP : va_P D vwCl (wX6 o q F ++ wQ cR (q 11) gsv ++ wI cI (q 12) 4 fs ++ wX2 cI cZ (q 0) qn Fn An : va_W) H) (hD : va_D A9 (wX6 o q F ++ wQ cR (q 11) gsv ++ wI cI (q 12) 4 fs ++ wX2 cI cZ (q 0) qn Fn An : va_W)) (hS : va_S A9 s.heap H locs) (hl : lv_has ls 6 [(0, .ref o), (1, .int x1), (2, .int x2)]) : W p l e (rmN 2 42) s m args below meth c H locs 0 0 Q (F0 m 17 ls [.int s0]) := by
  obtain ⟨hx, hb, hml, ht, hown, hK, hA, hE⟩ := id X
  unfold p_X6_taken_N_J17 at h
  refine lv_istore_n (lv' := [(3, .int s0), (0, .ref o), (1, .int x1), (2, .int x2)]) hx hb dX6_taken_17 rfl hl (by decide) rfl (fun ls hl => ?_)
  refine lv_iload_n hx hb dX6_taken_18 rfl (lv_at hl 2 rfl) ?_
  refine lv_iconst (v := 4) hx hb dX6_taken_19 (by decide) ?_
  refine C_si (wr := [0, 1, 2, 3, 4, 5, 6, 7, 8, 9, 10, 11].filterMap (fun i => (wX6 o q F ++ wQ cR (q 11) gsv ++ wI cI (q 12) 4 fs ++ wX2 cI cZ (q 0) qn Fn An : va_W)[i]?)) X hP hD hS [.int x1, .int (4 : Int32)] [] (w_X6_within l D cI cZ cR adK adV _ x1 (4 : Int32) _ h) cal_X6_within mw_15_9 rfl [] [0, 1, 2, 3, 4, 5, 6, 7, 8, 9, 10, 11] [0, 1, 2, 3, 4, 5, 6, 7, 8, 9, 10, 11] (fun u => (wX6 o q F ++ wQ cR (q 11) gsv ++ wI cI (q 12) 4 fs ++ wX2 cI cZ (q 0) qn Fn An : va_W)) rfl rfl (fun _ => rfl) rfl ⟨rfl, rfl⟩ ⟨Nat.le_of_ble_eq_true rfl, Nat.le_of_ble_eq_true rfl⟩ hl.1 rfl (Nat.le_of_ble_eq_true rfl) ⟨Nat.zero_le _, Nat.zero_le _⟩ dX6_taken_20 (fun r20 u H locs h hP hD hS => ?_)
  refine lv_if_eq (tgt := 39) hx hb dX6_taken_23 (by decide) (fun c23 => ?_) (fun c23 => ?_)
  · replace h := h.1 c23
    refine lv_iconst (v := -1) hx hb dX6_taken_39 (by decide) ?_
    exact ret _ () _ _ _ _ dX6_taken_40 h hP hD hS
  · replace h := h.2 c23
    refine lv_iload_n hx hb dX6_taken_26 rfl (lv_at hl 0 rfl) ?_
    refine lv_if_ne (tgt := 41) hx hb dX6_taken_27 (by decide) (fun c27 => ?_) (fun c27 => ?_)
    · replace h := h.1 c27
      exact b_X6_taken_N_J41 F gsv fs Fn An x1 x2 s0 X ret  _ _ _ h hP hD hS (lv_sub hl [1, 2, 3, 0] rfl)
    · replace h := h.2 c27
      refine lv_iload_n hx hb dX6_taken_30 rfl (lv_at hl 3 rfl) ?_
      refine lv_bipush (v := 6) hx hb dX6_taken_31 (by decide) ?_
      refine C_si (wr := [0, 1, 2, 3, 4, 5, 6, 7, 8, 9, 10, 11].filterMap (fun i => (wX6 o q F ++ wQ cR (q 11) gsv ++ wI cI (q 12) 4 fs ++ wX2 cI cZ (q 0) qn Fn An : va_W)[i]?)) X hP hD hS [.int x2, .int (6 : Int32)] [] (w_X6_within l D cI cZ cR adK adV _ x2 (6 : Int32) _ h) cal_X6_within mw_15_9 rfl [] [0, 1, 2, 3, 4, 5, 6, 7, 8, 9, 10, 11] [0, 1, 2, 3, 4, 5, 6, 7, 8, 9, 10, 11] (fun u => (wX6 o q F ++ wQ cR (q 11) gsv ++ wI cI (q 12) 4 fs ++ wX2 cI cZ (q 0) qn Fn An : va_W)) rfl rfl (fun _ => rfl) rfl ⟨rfl, rfl⟩ ⟨Nat.le_of_ble_eq_true rfl, Nat.le_of_ble_eq_true rfl⟩ hl.1 rfl (Nat.le_of_ble_eq_true rfl) ⟨Nat.zero_le _, Nat.zero_le _⟩ dX6_taken_33 (fun r33 u H locs h hP hD hS => ?_)
      refine lv_if_ne (tgt := 41) hx hb dX6_taken_36 (by decide) (fun c36 => ?_) (fun c36 => ?_)
      · replace h := h.1 c36
        exact b_X6_taken_N_J41 F gsv fs Fn An x1 x2 s0 X ret  _ _ _ h hP hD hS (lv_sub hl [1, 2, 3, 0] rfl)
      · replace h := h.2 c36
        refine lv_iconst (v := -1) hx hb dX6_taken_39 (by decide) ?_
        exact ret _ () _ _ _ _ dX6_taken_40 h hP hD hS
def p_X6_taken_N_J16 (F : tF) (gsv : tG) (fs : tF) (Fn : tF) (An : tA) (K : Int32 → Prop) (x1 : Int32) (x2 : Int32) : Prop := (p_X6_taken_N_J17 F gsv fs Fn An K x1 x2 (0 : Int32))
set_option maxHeartbeats 4000000 in
set_option maxRecDepth 100000 in
theorem b_X6_taken_N_J16 {p : Program} {l : Launch} {e : Env} {s : State} {m : MethodId} {args : Array Value} {below : List Frame} {meth : Method} {c : Code} {Q : State → Prop} {D : va_G} {cI cZ cR : ClassId} {adK adV : Nat → Nat} {A9 : Nat → Prop} {o : Nat} {q : Nat → Nat} {qn : Nat → Nat} {K : Int32 → Prop}  (F : tF) (gsv : tG) (fs : tF) (Fn : tF) (An : tA) (x1 : Int32) (x2 : Int32) (X : CX p s m args c yX6_taken.cls cX6_taken 6 D cI cZ cR adK adV A9) (ret : RTi p l e (rmN 2 42) s m args below meth c Q cX6_taken D A9 (fun (r : Int32) (u : Unit) => K r) (fun (u : Unit) => (wX6 o q F ++ wQ cR (q 11) gsv ++ wI cI (q 12) 4 fs ++ wX2 cI cZ (q 0) qn Fn An : va_W)))  (H : Heap) (locs : List Loc) (ls : Array Slot) (h : p_X6_taken_N_J16 F gsv fs Fn An K x1 x2) (hP : va_P D vwCl (wX6 o q F ++ wQ cR (q 11) gsv ++ wI cI (q 12) 4 fs ++ wX2 cI cZ (q 0) qn Fn An : va_W) H) (hD : va_D A9 (wX6 o q F ++ wQ cR (q 11) gsv ++ wI cI (q 12) 4 fs ++ wX2 cI cZ (q 0) qn Fn An : va_W)) (hS : va_S A9 s.heap H locs) (hl : lv_has ls 6 [(0, .ref o), (1, .int x1), (2, .int x2)]) : W p l e (rmN 2 42) s m args below meth c H locs 0 0 Q (F0 m 16 ls []) := by
  obtain ⟨hx, hb, hml, ht, hown, hK, hA, hE⟩ := id X
  unfold p_X6_taken_N_J16 at h
  refine lv_iconst (v := 0) hx hb dX6_taken_16 (by decide) ?_
  exact b_X6_taken_N_J17 F gsv fs Fn An x1 x2 (0 : Int32) X ret  _ _ _ h hP hD hS (lv_sub hl [0, 1, 2] rfl)
def p_X6_taken_N (F : tF) (gsv : tG) (fs : tF) (Fn : tF) (An : tA) (x1 : Int32) (x2 : Int32) (K : Int32 → Prop) : Prop := ((x2 < (10 : Int32) → (p_X6_taken_N_J16 F gsv fs Fn An K x1 x2)) ∧ (¬ x2 < (10 : Int32) → (((14 : Int32) ≤ x2 → (p_X6_taken_N_J16 F gsv fs Fn An K x1 x2)) ∧ (¬ (14 : Int32) ≤ x2 → (p_X6_taken_N_J17 F gsv fs Fn An K x1 x2 (1 : Int32))))))
set_option maxHeartbeats 4000000 in
set_option maxRecDepth 100000 in
theorem w_X6_taken_N (l : Launch) (D : va_G) (cI cZ cR : ClassId) (adK adV : Nat → Nat) (sz : Nat) (o : Nat) (q : Nat → Nat) (qn : Nat → Nat) (F : tF) (gsv : tG) (fs : tF) (Fn : tF) (An : tA) (x1 : Int32) (x2 : Int32) (K : Int32 → Prop) (h : p_X6_taken_N F gsv fs Fn An x1 x2 K) : MI l D cI cZ cR adK adV yX6_taken cX6_taken 6 (some .int) (rmN 2 42) [.ref o, .int x1, .int x2] (wX6 o q F ++ wQ cR (q 11) gsv ++ wI cI (q 12) 4 fs ++ wX2 cI cZ (q 0) qn Fn An : va_W) sz (fun (r : Int32) (u : Unit) => K r) (fun (u : Unit) => (wX6 o q F ++ wQ cR (q 11) gsv ++ wI cI (q 12) 4 fs ++ wX2 cI cZ (q 0) qn Fn An : va_W)) := by
  refine M_i (by decide +kernel) (Nat.le_of_ble_eq_true rfl) ?_
  intro p e s m args below meth c Q A9 ls X ret hP hD hS hl
  obtain ⟨hx, hb, hml, ht, hown, hK, hA, hE⟩ := id X
  have hl : lv_has ls 6 [(0, .ref o), (1, .int x1), (2, .int x2)] := hl
  unfold p_X6_taken_N at h
  refine lv_iload_n hx hb dX6_taken_0 rfl (lv_at hl 2 rfl) ?_
  refine lv_bipush (v := 10) hx hb dX6_taken_1 (by decide) ?_
  refine lv_icmp_lt (tgt := 16) hx hb dX6_taken_3 (by decide) (fun c3 => ?_) (fun c3 => ?_)
  · replace h := h.1 c3
    exact b_X6_taken_N_J16 F gsv fs Fn An x1 x2 X ret  _ _ _ h hP hD hS (lv_sub hl [0, 1, 2] rfl)
  · replace h := h.2 c3
    refine lv_iload_n hx hb dX6_taken_6 rfl (lv_at hl 2 rfl) ?_
    refine lv_bipush (v := 14) hx hb dX6_taken_7 (by decide) ?_
    refine lv_icmp_ge (tgt := 16) hx hb dX6_taken_9 (by decide) (fun c9 => ?_) (fun c9 => ?_)
    · replace h := h.1 c9
      exact b_X6_taken_N_J16 F gsv fs Fn An x1 x2 X ret  _ _ _ h hP hD hS (lv_sub hl [0, 1, 2] rfl)
    · replace h := h.2 c9
      refine lv_iconst (v := 1) hx hb dX6_taken_12 (by decide) ?_
      refine lv_goto (tgt := 17) hx hb dX6_taken_13 (by decide) ?_
      exact b_X6_taken_N_J17 F gsv fs Fn An x1 x2 (1 : Int32) X ret  _ _ _ h hP hD hS (lv_sub hl [0, 1, 2] rfl)
def p_X6_taken_R_J41 (oR : Nat) (nR : Nat) (F : tF) (gsv : tG) (FR : tF) (AR : tA) (fs : tF) (K : Int32 → Prop) (x1 : Int32) (x2 : Int32) (x3 : Int32) : Prop := (vp_in x1 4 ∧ (gsv (x1).toNatClampNeg = some oR ∧ (vp_in x1 4 ∧ (∀ y55 : Int32, y55 = (fs (x1).toNatClampNeg) → ((x3 = 0 → (K (-13 : Int32))) ∧ (¬ x3 = 0 → ((¬ (FR 0) = (x2 - (10 : Int32)) → (K (-13 : Int32))) ∧ ((FR 0) = (x2 - (10 : Int32)) → (K (Int32.ofNat nR))))))))))
set_option maxHeartbeats 4000000 in
set_option maxRecDepth 100000 in
theorem b_X6_taken_R_J41 {p : Program} {l : Launch} {e : Env} {s : State} {m : MethodId} {args : Array Value} {below : List Frame} {meth : Method} {c : Code} {Q : State → Prop} {D : va_G} {cI cZ cR : ClassId} {adK adV : Nat → Nat} {A9 : Nat → Prop} {o : Nat} {q : Nat → Nat} {qR : Nat → Nat} {K : Int32 → Prop}  (oR : Nat) (nR : Nat) (F : tF) (gsv : tG) (FR : tF) (AR : tA) (fs : tF) (x1 : Int32) (x2 : Int32) (x3 : Int32) (X : CX p s m args c yX6_taken.cls cX6_taken 6 D cI cZ cR adK adV A9) (ret : RTi p l e (rmN 1 21) s m args below meth c Q cX6_taken D A9 (fun (r : Int32) (u : Unit) => K r) (fun (u : Unit) => (wX6 o q F ++ wQ cR (q 11) gsv ++ wX5 cI cZ nR oR qR FR AR ++ wI cI (q 12) 4 fs : va_W)))  (H : Heap) (locs : List Loc) (ls : Array Slot) (h : p_X6_taken_R_J41 oR nR F gsv FR AR fs K x1 x2 x3) (hP : va_P D vwCl (wX6 o q F ++ wQ cR (q 11) gsv ++ wX5 cI cZ nR oR qR FR AR ++ wI cI (q 12) 4 fs : va_W) H) (hD : va_D A9 (wX6 o q F ++ wQ cR (q 11) gsv ++ wX5 cI cZ nR oR qR FR AR ++ wI cI (q 12) 4 fs : va_W)) (hS : va_S A9 s.heap H locs) (hl : lv_has ls 6 [(0, .ref o), (1, .int x1), (2, .int x2), (3, .int x3)]) : W p l e (rmN 1 21) s m args below meth c H locs 0 0 Q (F0 m 41 ls []) := by
  obtain ⟨hx, hb, hml, ht, hown, hK, hA, hE⟩ := id X
  unfold p_X6_taken_R_J41 at h
  refine lv_aload_n hx hb dX6_taken_41 rfl (lv_at hl 0 rfl) ?_
  refine va_get (C := RX6) (T := TX6) (N := 13) (own := RX6) (v := .ref (q 11)) hx hb ht inlX6 hown hK hP 0 rfl rfl 11 (Nat.le_of_ble_eq_true rfl) (ht _ mw_2_17) (fun _ h9 => h9) rfl dX6_taken_42 ?_
  refine lv_iload_n hx hb dX6_taken_45 rfl (lv_at hl 1 rfl) ?_
  obtain ⟨hi46, h⟩ := h
  obtain ⟨hv46, h⟩ := h
  refine g_aldR (f := gsv) (k := (x1).toNatClampNeg) (v := oR) hx hb hK hP 1 2 rfl rfl hi46 rfl hv46 dX6_taken_46 ?_
  refine lv_astore (lv' := [(4, .ref oR), (0, .ref o), (1, .int x1), (2, .int x2), (3, .int x3)]) hx hb dX6_taken_47 hl (by decide) rfl (fun ls hl => ?_)
  refine lv_aload_n hx hb dX6_taken_49 rfl (lv_at hl 1 rfl) ?_
  refine va_get (C := RX6) (T := TX6) (N := 13) (own := RX6) (v := .ref (q 12)) hx hb ht inlX6 hown hK hP 0 rfl rfl 12 (Nat.le_of_ble_eq_true rfl) (ht _ mw_2_18) (fun _ h9 => h9) rfl dX6_taken_50 ?_
  refine lv_iload_n hx hb dX6_taken_53 rfl (lv_at hl 2 rfl) ?_
  obtain ⟨hi54, h⟩ := h
  refine g_iald (f := fs) (k := (x1).toNatClampNeg) hx hb hK hP 4 0 rfl rfl hi54 rfl dX6_taken_54 ?_
  refine lv_topi (fun y55 ey55 => ?_)
  replace h := h y55 ey55
  refine lv_istore (lv' := [(5, .int y55), (4, .ref oR), (0, .ref o), (1, .int x1), (2, .int x2), (3, .int x3)]) hx hb dX6_taken_55 hl (by decide) rfl (fun ls hl => ?_)
  refine lv_aload hx hb dX6_taken_57 (lv_at hl 1 rfl) ?_
  refine lv_ifnull hx hb dX6_taken_59 ?_
  refine lv_iload_n hx hb dX6_taken_62 rfl (lv_at hl 5 rfl) ?_
  refine lv_if_eq (tgt := 87) hx hb dX6_taken_63 (by decide) (fun c63 => ?_) (fun c63 => ?_)
  · replace h := h.1 c63
    refine lv_bipush (v := -13) hx hb dX6_taken_87 (by decide) ?_
    exact ret _ () _ _ _ _ dX6_taken_89 h hP hD hS
  · replace h := h.2 c63
    refine lv_aload hx hb dX6_taken_66 (lv_at hl 1 rfl) ?_
    refine va_get (C := RX5) (T := TX5) (N := 2) (own := RX6) (v := .int (FR 0)) hx hb ht inlX5 hown hK hP 2 rfl rfl 0 (Nat.le_of_ble_eq_true rfl) (ht _ mw_43_4) (fun _ h9 => h9) rfl dX6_taken_68 ?_
    refine lv_iload_n hx hb dX6_taken_71 rfl (lv_at hl 4 rfl) ?_
    refine lv_bipush (v := 10) hx hb dX6_taken_72 (by decide) ?_
    refine lv_isub hx hb dX6_taken_74 ?_
    refine lv_icmp_ne (tgt := 87) hx hb dX6_taken_75 (by decide) (fun c75 => ?_) (fun c75 => ?_)
    · replace h := h.1 c75
      refine lv_bipush (v := -13) hx hb dX6_taken_87 (by decide) ?_
      exact ret _ () _ _ _ _ dX6_taken_89 h hP hD hS
    · replace h := h.2 c75
      refine lv_aload hx hb dX6_taken_78 (lv_at hl 1 rfl) ?_
      refine va_get (C := RX5) (T := TX5) (N := 2) (own := RX6) (v := .ref (qR 1)) hx hb ht inlX5 hown hK hP 2 rfl rfl 1 (Nat.le_of_ble_eq_true rfl) (ht _ mw_40_4) (fun _ h9 => h9) rfl dX6_taken_80 ?_
      refine va_alen (v := (Int32.ofNat nR)) hx hb hK hP 3 0 rfl rfl rfl dX6_taken_83 ?_
      refine lv_goto (tgt := 89) hx hb dX6_taken_84 (by decide) ?_
      exact ret _ () _ _ _ _ dX6_taken_89 h hP hD hS
def p_X6_taken_R_J17 (oR : Nat) (nR : Nat) (F : tF) (gsv : tG) (FR : tF) (AR : tA) (fs : tF) (K : Int32 → Prop) (x1 : Int32) (x2 : Int32) (s0 : Int32) : Prop := (p_X6_within x1 (4 : Int32) (fun r20 => ((r20 = 0 → (K (-1 : Int32))) ∧ (¬ r20 = 0 → ((¬ s0 = 0 → (p_X6_taken_R_J41 oR nR F gsv FR AR fs K x1 x2 s0)) ∧ (s0 = 0 → (p_X6_within x2 (6 : Int32) (fun r33 => ((¬ r33 = 0 → (p_X6_taken_R_J41 oR nR F gsv FR AR fs K x1 x2 s0)) ∧ (r33 = 0 → (K (-1 : Int32))))))))))))
set_option maxHeartbeats 4000000 in
set_option maxRecDepth 100000 in
theorem b_X6_taken_R_J17 {p : Program} {l : Launch} {e : Env} {s : State} {m : MethodId} {args : Array Value} {below : List Frame} {meth : Method} {c : Code} {Q : State → Prop} {D : va_G} {cI cZ cR : ClassId} {adK adV : Nat → Nat} {A9 : Nat → Prop} {o : Nat} {q : Nat → Nat} {qR : Nat → Nat} {K : Int32 → Prop}  (oR : Nat) (nR : Nat) (F : tF) (gsv : tG) (FR : tF) (AR : tA) (fs : tF) (x1 : Int32) (x2 : Int32) (s0 : Int32) (X : CX p s m args c yX6_taken.cls cX6_taken 6 D cI cZ cR adK adV A9) (ret : RTi p l e (rmN 1 21) s m args below meth c Q cX6_taken D A9 (fun (r : Int32) (u : Unit) => K r) (fun (u : Unit) => (wX6 o q F ++ wQ cR (q 11) gsv ++ wX5 cI cZ nR oR qR FR AR ++ wI cI (q 12) 4 fs : va_W)))  (H : Heap) (locs : List Loc) (ls : Array Slot) (h : p_X6_taken_R_J17 oR nR F gsv FR AR fs K x1 x2 s0) (hP : va_P D vwCl (wX6 o q F ++ wQ cR (q 11) gsv ++ wX5 cI cZ nR oR qR FR AR ++ wI cI (q 12) 4 fs : va_W) H) (hD : va_D A9 (wX6 o q F ++ wQ cR (q 11) gsv ++ wX5 cI cZ nR oR qR FR AR ++ wI cI (q 12) 4 fs : va_W)) (hS : va_S A9 s.heap H locs) (hl : lv_has ls 6 [(0, .ref o), (1, .int x1), (2, .int x2)]) : W p l e (rmN 1 21) s m args below meth c H locs 0 0 Q (F0 m 17 ls [.int s0]) := by
  obtain ⟨hx, hb, hml, ht, hown, hK, hA, hE⟩ := id X
  unfold p_X6_taken_R_J17 at h
  refine lv_istore_n (lv' := [(3, .int s0), (0, .ref o), (1, .int x1), (2, .int x2)]) hx hb dX6_taken_17 rfl hl (by decide) rfl (fun ls hl => ?_)
  refine lv_iload_n hx hb dX6_taken_18 rfl (lv_at hl 2 rfl) ?_
  refine lv_iconst (v := 4) hx hb dX6_taken_19 (by decide) ?_
  refine C_si (wr := [0, 1, 2, 3, 4].filterMap (fun i => (wX6 o q F ++ wQ cR (q 11) gsv ++ wX5 cI cZ nR oR qR FR AR ++ wI cI (q 12) 4 fs : va_W)[i]?)) X hP hD hS [.int x1, .int (4 : Int32)] [] (w_X6_within l D cI cZ cR adK adV _ x1 (4 : Int32) _ h) cal_X6_within mw_15_9 rfl [] [0, 1, 2, 3, 4] [0, 1, 2, 3, 4] (fun u => (wX6 o q F ++ wQ cR (q 11) gsv ++ wX5 cI cZ nR oR qR FR AR ++ wI cI (q 12) 4 fs : va_W)) rfl rfl (fun _ => rfl) rfl ⟨rfl, rfl⟩ ⟨Nat.le_of_ble_eq_true rfl, Nat.le_of_ble_eq_true rfl⟩ hl.1 rfl (Nat.le_of_ble_eq_true rfl) ⟨Nat.zero_le _, Nat.zero_le _⟩ dX6_taken_20 (fun r20 u H locs h hP hD hS => ?_)
  refine lv_if_eq (tgt := 39) hx hb dX6_taken_23 (by decide) (fun c23 => ?_) (fun c23 => ?_)
  · replace h := h.1 c23
    refine lv_iconst (v := -1) hx hb dX6_taken_39 (by decide) ?_
    exact ret _ () _ _ _ _ dX6_taken_40 h hP hD hS
  · replace h := h.2 c23
    refine lv_iload_n hx hb dX6_taken_26 rfl (lv_at hl 0 rfl) ?_
    refine lv_if_ne (tgt := 41) hx hb dX6_taken_27 (by decide) (fun c27 => ?_) (fun c27 => ?_)
    · replace h := h.1 c27
      exact b_X6_taken_R_J41 oR nR F gsv FR AR fs x1 x2 s0 X ret  _ _ _ h hP hD hS (lv_sub hl [1, 2, 3, 0] rfl)
    · replace h := h.2 c27
      refine lv_iload_n hx hb dX6_taken_30 rfl (lv_at hl 3 rfl) ?_
      refine lv_bipush (v := 6) hx hb dX6_taken_31 (by decide) ?_
      refine C_si (wr := [0, 1, 2, 3, 4].filterMap (fun i => (wX6 o q F ++ wQ cR (q 11) gsv ++ wX5 cI cZ nR oR qR FR AR ++ wI cI (q 12) 4 fs : va_W)[i]?)) X hP hD hS [.int x2, .int (6 : Int32)] [] (w_X6_within l D cI cZ cR adK adV _ x2 (6 : Int32) _ h) cal_X6_within mw_15_9 rfl [] [0, 1, 2, 3, 4] [0, 1, 2, 3, 4] (fun u => (wX6 o q F ++ wQ cR (q 11) gsv ++ wX5 cI cZ nR oR qR FR AR ++ wI cI (q 12) 4 fs : va_W)) rfl rfl (fun _ => rfl) rfl ⟨rfl, rfl⟩ ⟨Nat.le_of_ble_eq_true rfl, Nat.le_of_ble_eq_true rfl⟩ hl.1 rfl (Nat.le_of_ble_eq_true rfl) ⟨Nat.zero_le _, Nat.zero_le _⟩ dX6_taken_33 (fun r33 u H locs h hP hD hS => ?_)
      refine lv_if_ne (tgt := 41) hx hb dX6_taken_36 (by decide) (fun c36 => ?_) (fun c36 => ?_)
      · replace h := h.1 c36
        exact b_X6_taken_R_J41 oR nR F gsv FR AR fs x1 x2 s0 X ret  _ _ _ h hP hD hS (lv_sub hl [1, 2, 3, 0] rfl)
      · replace h := h.2 c36
        refine lv_iconst (v := -1) hx hb dX6_taken_39 (by decide) ?_
        exact ret _ () _ _ _ _ dX6_taken_40 h hP hD hS
def p_X6_taken_R_J16 (oR : Nat) (nR : Nat) (F : tF) (gsv : tG) (FR : tF) (AR : tA) (fs : tF) (K : Int32 → Prop) (x1 : Int32) (x2 : Int32) : Prop := (p_X6_taken_R_J17 oR nR F gsv FR AR fs K x1 x2 (0 : Int32))
set_option maxHeartbeats 4000000 in
set_option maxRecDepth 100000 in
theorem b_X6_taken_R_J16 {p : Program} {l : Launch} {e : Env} {s : State} {m : MethodId} {args : Array Value} {below : List Frame} {meth : Method} {c : Code} {Q : State → Prop} {D : va_G} {cI cZ cR : ClassId} {adK adV : Nat → Nat} {A9 : Nat → Prop} {o : Nat} {q : Nat → Nat} {qR : Nat → Nat} {K : Int32 → Prop}  (oR : Nat) (nR : Nat) (F : tF) (gsv : tG) (FR : tF) (AR : tA) (fs : tF) (x1 : Int32) (x2 : Int32) (X : CX p s m args c yX6_taken.cls cX6_taken 6 D cI cZ cR adK adV A9) (ret : RTi p l e (rmN 1 21) s m args below meth c Q cX6_taken D A9 (fun (r : Int32) (u : Unit) => K r) (fun (u : Unit) => (wX6 o q F ++ wQ cR (q 11) gsv ++ wX5 cI cZ nR oR qR FR AR ++ wI cI (q 12) 4 fs : va_W)))  (H : Heap) (locs : List Loc) (ls : Array Slot) (h : p_X6_taken_R_J16 oR nR F gsv FR AR fs K x1 x2) (hP : va_P D vwCl (wX6 o q F ++ wQ cR (q 11) gsv ++ wX5 cI cZ nR oR qR FR AR ++ wI cI (q 12) 4 fs : va_W) H) (hD : va_D A9 (wX6 o q F ++ wQ cR (q 11) gsv ++ wX5 cI cZ nR oR qR FR AR ++ wI cI (q 12) 4 fs : va_W)) (hS : va_S A9 s.heap H locs) (hl : lv_has ls 6 [(0, .ref o), (1, .int x1), (2, .int x2)]) : W p l e (rmN 1 21) s m args below meth c H locs 0 0 Q (F0 m 16 ls []) := by
  obtain ⟨hx, hb, hml, ht, hown, hK, hA, hE⟩ := id X
  unfold p_X6_taken_R_J16 at h
  refine lv_iconst (v := 0) hx hb dX6_taken_16 (by decide) ?_
  exact b_X6_taken_R_J17 oR nR F gsv FR AR fs x1 x2 (0 : Int32) X ret  _ _ _ h hP hD hS (lv_sub hl [0, 1, 2] rfl)
def p_X6_taken_R (F : tF) (gsv : tG) (oR : Nat) (nR : Nat) (FR : tF) (AR : tA) (fs : tF) (x1 : Int32) (x2 : Int32) (K : Int32 → Prop) : Prop := ((x2 < (10 : Int32) → (p_X6_taken_R_J16 oR nR F gsv FR AR fs K x1 x2)) ∧ (¬ x2 < (10 : Int32) → (((14 : Int32) ≤ x2 → (p_X6_taken_R_J16 oR nR F gsv FR AR fs K x1 x2)) ∧ (¬ (14 : Int32) ≤ x2 → (p_X6_taken_R_J17 oR nR F gsv FR AR fs K x1 x2 (1 : Int32))))))
set_option maxHeartbeats 4000000 in
set_option maxRecDepth 100000 in
theorem w_X6_taken_R (l : Launch) (D : va_G) (cI cZ cR : ClassId) (adK adV : Nat → Nat) (sz : Nat) (o : Nat) (q : Nat → Nat) (qR : Nat → Nat) (F : tF) (gsv : tG) (oR : Nat) (nR : Nat) (FR : tF) (AR : tA) (fs : tF) (x1 : Int32) (x2 : Int32) (K : Int32 → Prop) (h : p_X6_taken_R F gsv oR nR FR AR fs x1 x2 K) : MI l D cI cZ cR adK adV yX6_taken cX6_taken 6 (some .int) (rmN 1 21) [.ref o, .int x1, .int x2] (wX6 o q F ++ wQ cR (q 11) gsv ++ wX5 cI cZ nR oR qR FR AR ++ wI cI (q 12) 4 fs : va_W) sz (fun (r : Int32) (u : Unit) => K r) (fun (u : Unit) => (wX6 o q F ++ wQ cR (q 11) gsv ++ wX5 cI cZ nR oR qR FR AR ++ wI cI (q 12) 4 fs : va_W)) := by
  refine M_i (by decide +kernel) (Nat.le_of_ble_eq_true rfl) ?_
  intro p e s m args below meth c Q A9 ls X ret hP hD hS hl
  obtain ⟨hx, hb, hml, ht, hown, hK, hA, hE⟩ := id X
  have hl : lv_has ls 6 [(0, .ref o), (1, .int x1), (2, .int x2)] := hl
  unfold p_X6_taken_R at h
  refine lv_iload_n hx hb dX6_taken_0 rfl (lv_at hl 2 rfl) ?_
  refine lv_bipush (v := 10) hx hb dX6_taken_1 (by decide) ?_
  refine lv_icmp_lt (tgt := 16) hx hb dX6_taken_3 (by decide) (fun c3 => ?_) (fun c3 => ?_)
  · replace h := h.1 c3
    exact b_X6_taken_R_J16 oR nR F gsv FR AR fs x1 x2 X ret  _ _ _ h hP hD hS (lv_sub hl [0, 1, 2] rfl)
  · replace h := h.2 c3
    refine lv_iload_n hx hb dX6_taken_6 rfl (lv_at hl 2 rfl) ?_
    refine lv_bipush (v := 14) hx hb dX6_taken_7 (by decide) ?_
    refine lv_icmp_ge (tgt := 16) hx hb dX6_taken_9 (by decide) (fun c9 => ?_) (fun c9 => ?_)
    · replace h := h.1 c9
      exact b_X6_taken_R_J16 oR nR F gsv FR AR fs x1 x2 X ret  _ _ _ h hP hD hS (lv_sub hl [0, 1, 2] rfl)
    · replace h := h.2 c9
      refine lv_iconst (v := 1) hx hb dX6_taken_12 (by decide) ?_
      refine lv_goto (tgt := 17) hx hb dX6_taken_13 (by decide) ?_
      exact b_X6_taken_R_J17 oR nR F gsv FR AR fs x1 x2 (1 : Int32) X ret  _ _ _ h hP hD hS (lv_sub hl [0, 1, 2] rfl)
