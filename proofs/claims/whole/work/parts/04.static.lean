/-! 04.static: what the bytecode of these methods asks, and the walks (written by wip/gen/mk.py) -/
theorem dX6_within_0 : decode cX6_within 0 = .ok (.iload_n 0, 1) := by decide +kernel
theorem dX6_within_1 : decode cX6_within 1 = .ok (.ifCond .lt 12, 3) := by decide +kernel
theorem dX6_within_4 : decode cX6_within 4 = .ok (.iload_n 0, 1) := by decide +kernel
theorem dX6_within_5 : decode cX6_within 5 = .ok (.iload_n 1, 1) := by decide +kernel
theorem dX6_within_6 : decode cX6_within 6 = .ok (.if_icmp .ge 7, 3) := by decide +kernel
theorem dX6_within_9 : decode cX6_within 9 = .ok (.iconst 1, 1) := by decide +kernel
theorem dX6_within_10 : decode cX6_within 10 = .ok (.goto 4, 3) := by decide +kernel
theorem dX6_within_13 : decode cX6_within 13 = .ok (.iconst 0, 1) := by decide +kernel
theorem dX6_within_14 : decode cX6_within 14 = .ok (.ireturn, 1) := by decide +kernel
def p_X6_within (x0 : Int32) (x1 : Int32) (K : Int32 → Prop) : Prop := ((x0 < 0 → (K (0 : Int32))) ∧ (¬ x0 < 0 → ((x1 ≤ x0 → (K (0 : Int32))) ∧ (¬ x1 ≤ x0 → (K (1 : Int32))))))
set_option maxHeartbeats 4000000 in
set_option maxRecDepth 100000 in
theorem w_X6_within (l : Launch) (D : va_G) (cI cZ cR : ClassId) (adK adV : Nat → Nat) (sz : Nat)  (x0 : Int32) (x1 : Int32) (K : Int32 → Prop) (h : p_X6_within x0 x1 K) : MI l D cI cZ cR adK adV yX6_within cX6_within 2 (some .boolean) (rmN 0 0) [.int x0, .int x1] ([] : va_W) sz (fun (r : Int32) (u : Unit) => K r) (fun (u : Unit) => ([] : va_W)) := by
  refine M_z (by decide +kernel) (Nat.le_of_ble_eq_true rfl) ?_
  intro p e s m args below meth c Q A9 ls X ret hP hD hS hl
  obtain ⟨hx, hb, hml, ht, hown, hK, hA, hE⟩ := id X
  have hl : lv_has ls 2 [(0, .int x0), (1, .int x1)] := hl
  unfold p_X6_within at h
  refine lv_iload_n hx hb dX6_within_0 rfl (lv_at hl 0 rfl) ?_
  refine lv_if_lt (tgt := 13) hx hb dX6_within_1 (by decide) (fun c1 => ?_) (fun c1 => ?_)
  · replace h := h.1 c1
    refine lv_iconst (v := 0) hx hb dX6_within_13 (by decide) ?_
    exact ret _ () _ _ _ _ dX6_within_14 bo_0 h hP hD hS
  · replace h := h.2 c1
    refine lv_iload_n hx hb dX6_within_4 rfl (lv_at hl 0 rfl) ?_
    refine lv_iload_n hx hb dX6_within_5 rfl (lv_at hl 1 rfl) ?_
    refine lv_icmp_ge (tgt := 13) hx hb dX6_within_6 (by decide) (fun c6 => ?_) (fun c6 => ?_)
    · replace h := h.1 c6
      refine lv_iconst (v := 0) hx hb dX6_within_13 (by decide) ?_
      exact ret _ () _ _ _ _ dX6_within_14 bo_0 h hP hD hS
    · replace h := h.2 c6
      refine lv_iconst (v := 1) hx hb dX6_within_9 (by decide) ?_
      refine lv_goto (tgt := 14) hx hb dX6_within_10 (by decide) ?_
      exact ret _ () _ _ _ _ dX6_within_14 bo_1 h hP hD hS
theorem cal_X6_within : CalS yX6_within cX6_within 2 (some .boolean) 2 := ⟨mw_15_11, mw_1_2, mw_15_10, ⟨by decide +kernel, by decide +kernel, by decide +kernel⟩⟩
theorem dX6_isFigure_0 : decode cX6_isFigure 0 = .ok (.iload_n 0, 1) := by decide +kernel
theorem dX6_isFigure_1 : decode cX6_isFigure 1 = .ok (.bipush 10, 2) := by decide +kernel
theorem dX6_isFigure_3 : decode cX6_isFigure 3 = .ok (.invokestatic 95, 3) := by decide +kernel
theorem dX6_isFigure_6 : decode cX6_isFigure 6 = .ok (.ireturn, 1) := by decide +kernel
def p_X6_isFigure (x0 : Int32) (K : Int32 → Prop) : Prop := (p_X6_within x0 (10 : Int32) (fun r3 => (bo r3 ∧ (K r3))))
set_option maxHeartbeats 4000000 in
set_option maxRecDepth 100000 in
theorem w_X6_isFigure (l : Launch) (D : va_G) (cI cZ cR : ClassId) (adK adV : Nat → Nat) (sz : Nat)  (x0 : Int32) (K : Int32 → Prop) (h : p_X6_isFigure x0 K) : MI l D cI cZ cR adK adV yX6_isFigure cX6_isFigure 1 (some .boolean) (rmN 1 21) [.int x0] ([] : va_W) sz (fun (r : Int32) (u : Unit) => K r) (fun (u : Unit) => ([] : va_W)) := by
  refine M_z (by decide +kernel) (Nat.le_of_ble_eq_true rfl) ?_
  intro p e s m args below meth c Q A9 ls X ret hP hD hS hl
  obtain ⟨hx, hb, hml, ht, hown, hK, hA, hE⟩ := id X
  have hl : lv_has ls 1 [(0, .int x0)] := hl
  unfold p_X6_isFigure at h
  refine lv_iload_n hx hb dX6_isFigure_0 rfl (lv_at hl 0 rfl) ?_
  refine lv_bipush (v := 10) hx hb dX6_isFigure_1 (by decide) ?_
  refine C_si (wr := []) X hP hD hS [.int x0, .int (10 : Int32)] [] (w_X6_within l D cI cZ cR adK adV _ x0 (10 : Int32) _ h) cal_X6_within mw_15_9 rfl [] [] [] (fun u => ([] : va_W)) rfl rfl (fun _ => rfl) rfl ⟨rfl, rfl⟩ ⟨Nat.le_of_ble_eq_true rfl, Nat.le_of_ble_eq_true rfl⟩ hl.1 rfl (Nat.le_of_ble_eq_true rfl) ⟨Nat.zero_le _, Nat.zero_le _⟩ dX6_isFigure_3 (fun r3 u H locs h hP hD hS => ?_)
  obtain ⟨hz6, h⟩ := h
  exact ret _ () _ _ _ _ dX6_isFigure_6 hz6 h hP hD hS
theorem dX6_heldToFigure_0 : decode cX6_heldToFigure 0 = .ok (.iconst 0, 1) := by decide +kernel
theorem dX6_heldToFigure_1 : decode cX6_heldToFigure 1 = .ok (.bipush 9, 2) := by decide +kernel
theorem dX6_heldToFigure_3 : decode cX6_heldToFigure 3 = .ok (.iload_n 0, 1) := by decide +kernel
theorem dX6_heldToFigure_4 : decode cX6_heldToFigure 4 = .ok (.invokestatic 310, 3) := by decide +kernel
theorem dX6_heldToFigure_7 : decode cX6_heldToFigure 7 = .ok (.invokestatic 313, 3) := by decide +kernel
theorem dX6_heldToFigure_10 : decode cX6_heldToFigure 10 = .ok (.ireturn, 1) := by decide +kernel
def p_X6_heldToFigure (x0 : Int32) (K : Int32 → Prop) : Prop := (K (if (0 : Int32) < (if x0 < (9 : Int32) then x0 else (9 : Int32)) then (if x0 < (9 : Int32) then x0 else (9 : Int32)) else (0 : Int32)))
set_option maxHeartbeats 4000000 in
set_option maxRecDepth 100000 in
theorem w_X6_heldToFigure (l : Launch) (D : va_G) (cI cZ cR : ClassId) (adK adV : Nat → Nat) (sz : Nat)  (x0 : Int32) (K : Int32 → Prop) (h : p_X6_heldToFigure x0 K) : MI l D cI cZ cR adK adV yX6_heldToFigure cX6_heldToFigure 1 (some .int) (rmN 1 100) [.int x0] ([] : va_W) sz (fun (r : Int32) (u : Unit) => K r) (fun (u : Unit) => ([] : va_W)) := by
  refine M_i (by decide +kernel) (Nat.le_of_ble_eq_true rfl) ?_
  intro p e s m args below meth c Q A9 ls X ret hP hD hS hl
  obtain ⟨hx, hb, hml, ht, hown, hK, hA, hE⟩ := id X
  have hl : lv_has ls 1 [(0, .int x0)] := hl
  unfold p_X6_heldToFigure at h
  refine lv_iconst (v := 0) hx hb dX6_heldToFigure_0 (by decide) ?_
  refine lv_bipush (v := 9) hx hb dX6_heldToFigure_1 (by decide) ?_
  refine lv_iload_n hx hb dX6_heldToFigure_3 rfl (lv_at hl 0 rfl) ?_
  refine va_mmin hx hb (hml.trans hl.1.symm) hown (ht _ mw_25_8) (ht _ mw_25_9) (ht _ mw_18_2) (ht _ mw_25_10) (Nat.le_of_ble_eq_true rfl) (Nat.le_of_ble_eq_true rfl) (Nat.zero_le _) (Nat.zero_le _) dX6_heldToFigure_4 ?_
  refine va_mmax hx hb (hml.trans hl.1.symm) hown (ht _ mw_25_11) (ht _ mw_25_12) (ht _ mw_18_2) (ht _ mw_25_13) (Nat.le_of_ble_eq_true rfl) (Nat.le_of_ble_eq_true rfl) (Nat.zero_le _) (Nat.zero_le _) dX6_heldToFigure_7 ?_
  exact ret _ () _ _ _ _ dX6_heldToFigure_10 h hP hD hS
theorem dX6_mostOfLaw_0 : decode cX6_mostOfLaw 0 = .ok (.iload_n 0, 1) := by decide +kernel
theorem dX6_mostOfLaw_1 : decode cX6_mostOfLaw 1 = .ok (.iconst 3, 1) := by decide +kernel
theorem dX6_mostOfLaw_2 : decode cX6_mostOfLaw 2 = .ok (.if_icmp .ne 8, 3) := by decide +kernel
theorem dX6_mostOfLaw_5 : decode cX6_mostOfLaw 5 = .ok (.bipush 99, 2) := by decide +kernel
theorem dX6_mostOfLaw_7 : decode cX6_mostOfLaw 7 = .ok (.goto 5, 3) := by decide +kernel
theorem dX6_mostOfLaw_10 : decode cX6_mostOfLaw 10 = .ok (.bipush 9, 2) := by decide +kernel
theorem dX6_mostOfLaw_12 : decode cX6_mostOfLaw 12 = .ok (.ireturn, 1) := by decide +kernel
def p_X6_mostOfLaw (x0 : Int32) (K : Int32 → Prop) : Prop := ((¬ x0 = (3 : Int32) → (K (9 : Int32))) ∧ (x0 = (3 : Int32) → (K (99 : Int32))))
set_option maxHeartbeats 4000000 in
set_option maxRecDepth 100000 in
theorem w_X6_mostOfLaw (l : Launch) (D : va_G) (cI cZ cR : ClassId) (adK adV : Nat → Nat) (sz : Nat)  (x0 : Int32) (K : Int32 → Prop) (h : p_X6_mostOfLaw x0 K) : MI l D cI cZ cR adK adV yX6_mostOfLaw cX6_mostOfLaw 1 (some .int) (rmN 0 0) [.int x0] ([] : va_W) sz (fun (r : Int32) (u : Unit) => K r) (fun (u : Unit) => ([] : va_W)) := by
  refine M_i (by decide +kernel) (Nat.le_of_ble_eq_true rfl) ?_
  intro p e s m args below meth c Q A9 ls X ret hP hD hS hl
  obtain ⟨hx, hb, hml, ht, hown, hK, hA, hE⟩ := id X
  have hl : lv_has ls 1 [(0, .int x0)] := hl
  unfold p_X6_mostOfLaw at h
  refine lv_iload_n hx hb dX6_mostOfLaw_0 rfl (lv_at hl 0 rfl) ?_
  refine lv_iconst (v := 3) hx hb dX6_mostOfLaw_1 (by decide) ?_
  refine lv_icmp_ne (tgt := 10) hx hb dX6_mostOfLaw_2 (by decide) (fun c2 => ?_) (fun c2 => ?_)
  · replace h := h.1 c2
    refine lv_bipush (v := 9) hx hb dX6_mostOfLaw_10 (by decide) ?_
    exact ret _ () _ _ _ _ dX6_mostOfLaw_12 h hP hD hS
  · replace h := h.2 c2
    refine lv_bipush (v := 99) hx hb dX6_mostOfLaw_5 (by decide) ?_
    refine lv_goto (tgt := 12) hx hb dX6_mostOfLaw_7 (by decide) ?_
    exact ret _ () _ _ _ _ dX6_mostOfLaw_12 h hP hD hS
theorem dX6_isKindOrUnder_0 : decode cX6_isKindOrUnder 0 = .ok (.iload_n 0, 1) := by decide +kernel
theorem dX6_isKindOrUnder_1 : decode cX6_isKindOrUnder 1 = .ok (.iload_n 1, 1) := by decide +kernel
theorem dX6_isKindOrUnder_2 : decode cX6_isKindOrUnder 2 = .ok (.if_icmp .eq 27, 3) := by decide +kernel
theorem dX6_isKindOrUnder_5 : decode cX6_isKindOrUnder 5 = .ok (.iload_n 1, 1) := by decide +kernel
theorem dX6_isKindOrUnder_6 : decode cX6_isKindOrUnder 6 = .ok (.ifCond .eq 23, 3) := by decide +kernel
theorem dX6_isKindOrUnder_9 : decode cX6_isKindOrUnder 9 = .ok (.iload_n 0, 1) := by decide +kernel
theorem dX6_isKindOrUnder_10 : decode cX6_isKindOrUnder 10 = .ok (.iconst 3, 1) := by decide +kernel
theorem dX6_isKindOrUnder_11 : decode cX6_isKindOrUnder 11 = .ok (.if_icmp .ne 8, 3) := by decide +kernel
theorem dX6_isKindOrUnder_14 : decode cX6_isKindOrUnder 14 = .ok (.iload_n 1, 1) := by decide +kernel
theorem dX6_isKindOrUnder_15 : decode cX6_isKindOrUnder 15 = .ok (.iconst 1, 1) := by decide +kernel
theorem dX6_isKindOrUnder_16 : decode cX6_isKindOrUnder 16 = .ok (.if_icmp .eq 13, 3) := by decide +kernel
theorem dX6_isKindOrUnder_19 : decode cX6_isKindOrUnder 19 = .ok (.iload_n 0, 1) := by decide +kernel
theorem dX6_isKindOrUnder_20 : decode cX6_isKindOrUnder 20 = .ok (.iconst 4, 1) := by decide +kernel
theorem dX6_isKindOrUnder_21 : decode cX6_isKindOrUnder 21 = .ok (.if_icmp .ne 12, 3) := by decide +kernel
theorem dX6_isKindOrUnder_24 : decode cX6_isKindOrUnder 24 = .ok (.iload_n 1, 1) := by decide +kernel
theorem dX6_isKindOrUnder_25 : decode cX6_isKindOrUnder 25 = .ok (.iconst 2, 1) := by decide +kernel
theorem dX6_isKindOrUnder_26 : decode cX6_isKindOrUnder 26 = .ok (.if_icmp .ne 7, 3) := by decide +kernel
theorem dX6_isKindOrUnder_29 : decode cX6_isKindOrUnder 29 = .ok (.iconst 1, 1) := by decide +kernel
theorem dX6_isKindOrUnder_30 : decode cX6_isKindOrUnder 30 = .ok (.goto 4, 3) := by decide +kernel
theorem dX6_isKindOrUnder_33 : decode cX6_isKindOrUnder 33 = .ok (.iconst 0, 1) := by decide +kernel
theorem dX6_isKindOrUnder_34 : decode cX6_isKindOrUnder 34 = .ok (.ireturn, 1) := by decide +kernel
def p_X6_isKindOrUnder_J29 (K : Int32 → Prop)  : Prop := (K (1 : Int32))
set_option maxHeartbeats 4000000 in
set_option maxRecDepth 100000 in
theorem b_X6_isKindOrUnder_J29 {p : Program} {l : Launch} {e : Env} {s : State} {m : MethodId} {args : Array Value} {below : List Frame} {meth : Method} {c : Code} {Q : State → Prop} {D : va_G} {cI cZ cR : ClassId} {adK adV : Nat → Nat} {A9 : Nat → Prop}  {K : Int32 → Prop}   (X : CX p s m args c yX6_isKindOrUnder.cls cX6_isKindOrUnder 2 D cI cZ cR adK adV A9) (ret : RTz p l e (rmN 0 0) s m args below meth c Q cX6_isKindOrUnder D A9 (fun (r : Int32) (u : Unit) => K r) (fun (u : Unit) => ([] : va_W)))  (H : Heap) (locs : List Loc) (ls : Array Slot) (h : p_X6_isKindOrUnder_J29 K) (hP : va_P D vwCl ([] : va_W) H) (hD : va_D A9 ([] : va_W)) (hS : va_S A9 s.heap H locs) (hl : lv_has ls 2 []) : W p l e (rmN 0 0) s m args below meth c H locs 0 0 Q (F0 m 29 ls []) := by
  obtain ⟨hx, hb, hml, ht, hown, hK, hA, hE⟩ := id X
  unfold p_X6_isKindOrUnder_J29 at h
  refine lv_iconst (v := 1) hx hb dX6_isKindOrUnder_29 (by decide) ?_
  refine lv_goto (tgt := 34) hx hb dX6_isKindOrUnder_30 (by decide) ?_
  exact ret _ () _ _ _ _ dX6_isKindOrUnder_34 bo_1 h hP hD hS
def p_X6_isKindOrUnder_J19 (K : Int32 → Prop) (x0 : Int32) (x1 : Int32) : Prop := ((¬ x0 = (4 : Int32) → (K (0 : Int32))) ∧ (x0 = (4 : Int32) → ((¬ x1 = (2 : Int32) → (K (0 : Int32))) ∧ (x1 = (2 : Int32) → (p_X6_isKindOrUnder_J29 K)))))
set_option maxHeartbeats 4000000 in
set_option maxRecDepth 100000 in
theorem b_X6_isKindOrUnder_J19 {p : Program} {l : Launch} {e : Env} {s : State} {m : MethodId} {args : Array Value} {below : List Frame} {meth : Method} {c : Code} {Q : State → Prop} {D : va_G} {cI cZ cR : ClassId} {adK adV : Nat → Nat} {A9 : Nat → Prop}  {K : Int32 → Prop}  (x0 : Int32) (x1 : Int32) (X : CX p s m args c yX6_isKindOrUnder.cls cX6_isKindOrUnder 2 D cI cZ cR adK adV A9) (ret : RTz p l e (rmN 0 0) s m args below meth c Q cX6_isKindOrUnder D A9 (fun (r : Int32) (u : Unit) => K r) (fun (u : Unit) => ([] : va_W)))  (H : Heap) (locs : List Loc) (ls : Array Slot) (h : p_X6_isKindOrUnder_J19 K x0 x1) (hP : va_P D vwCl ([] : va_W) H) (hD : va_D A9 ([] : va_W)) (hS : va_S A9 s.heap H locs) (hl : lv_has ls 2 [(0, .int x0), (1, .int x1)]) : W p l e (rmN 0 0) s m args below meth c H locs 0 0 Q (F0 m 19 ls []) := by
  obtain ⟨hx, hb, hml, ht, hown, hK, hA, hE⟩ := id X
  unfold p_X6_isKindOrUnder_J19 at h
  refine lv_iload_n hx hb dX6_isKindOrUnder_19 rfl (lv_at hl 0 rfl) ?_
  refine lv_iconst (v := 4) hx hb dX6_isKindOrUnder_20 (by decide) ?_
  refine lv_icmp_ne (tgt := 33) hx hb dX6_isKindOrUnder_21 (by decide) (fun c21 => ?_) (fun c21 => ?_)
  · replace h := h.1 c21
    refine lv_iconst (v := 0) hx hb dX6_isKindOrUnder_33 (by decide) ?_
    exact ret _ () _ _ _ _ dX6_isKindOrUnder_34 bo_0 h hP hD hS
  · replace h := h.2 c21
    refine lv_iload_n hx hb dX6_isKindOrUnder_24 rfl (lv_at hl 1 rfl) ?_
    refine lv_iconst (v := 2) hx hb dX6_isKindOrUnder_25 (by decide) ?_
    refine lv_icmp_ne (tgt := 33) hx hb dX6_isKindOrUnder_26 (by decide) (fun c26 => ?_) (fun c26 => ?_)
    · replace h := h.1 c26
      refine lv_iconst (v := 0) hx hb dX6_isKindOrUnder_33 (by decide) ?_
      exact ret _ () _ _ _ _ dX6_isKindOrUnder_34 bo_0 h hP hD hS
    · replace h := h.2 c26
      exact b_X6_isKindOrUnder_J29  X ret  _ _ _ h hP hD hS (lv_sub hl [] rfl)
def p_X6_isKindOrUnder (x0 : Int32) (x1 : Int32) (K : Int32 → Prop) : Prop := ((x0 = x1 → (p_X6_isKindOrUnder_J29 K)) ∧ (¬ x0 = x1 → ((x1 = 0 → (p_X6_isKindOrUnder_J29 K)) ∧ (¬ x1 = 0 → ((¬ x0 = (3 : Int32) → (p_X6_isKindOrUnder_J19 K x0 x1)) ∧ (x0 = (3 : Int32) → ((x1 = (1 : Int32) → (p_X6_isKindOrUnder_J29 K)) ∧ (¬ x1 = (1 : Int32) → (p_X6_isKindOrUnder_J19 K x0 x1)))))))))
set_option maxHeartbeats 4000000 in
set_option maxRecDepth 100000 in
theorem w_X6_isKindOrUnder (l : Launch) (D : va_G) (cI cZ cR : ClassId) (adK adV : Nat → Nat) (sz : Nat)  (x0 : Int32) (x1 : Int32) (K : Int32 → Prop) (h : p_X6_isKindOrUnder x0 x1 K) : MI l D cI cZ cR adK adV yX6_isKindOrUnder cX6_isKindOrUnder 2 (some .boolean) (rmN 0 0) [.int x0, .int x1] ([] : va_W) sz (fun (r : Int32) (u : Unit) => K r) (fun (u : Unit) => ([] : va_W)) := by
  refine M_z (by decide +kernel) (Nat.le_of_ble_eq_true rfl) ?_
  intro p e s m args below meth c Q A9 ls X ret hP hD hS hl
  obtain ⟨hx, hb, hml, ht, hown, hK, hA, hE⟩ := id X
  have hl : lv_has ls 2 [(0, .int x0), (1, .int x1)] := hl
  unfold p_X6_isKindOrUnder at h
  refine lv_iload_n hx hb dX6_isKindOrUnder_0 rfl (lv_at hl 0 rfl) ?_
  refine lv_iload_n hx hb dX6_isKindOrUnder_1 rfl (lv_at hl 1 rfl) ?_
  refine lv_icmp_eq (tgt := 29) hx hb dX6_isKindOrUnder_2 (by decide) (fun c2 => ?_) (fun c2 => ?_)
  · replace h := h.1 c2
    exact b_X6_isKindOrUnder_J29  X ret  _ _ _ h hP hD hS (lv_sub hl [] rfl)
  · replace h := h.2 c2
    refine lv_iload_n hx hb dX6_isKindOrUnder_5 rfl (lv_at hl 1 rfl) ?_
    refine lv_if_eq (tgt := 29) hx hb dX6_isKindOrUnder_6 (by decide) (fun c6 => ?_) (fun c6 => ?_)
    · replace h := h.1 c6
      exact b_X6_isKindOrUnder_J29  X ret  _ _ _ h hP hD hS (lv_sub hl [] rfl)
    · replace h := h.2 c6
      refine lv_iload_n hx hb dX6_isKindOrUnder_9 rfl (lv_at hl 0 rfl) ?_
      refine lv_iconst (v := 3) hx hb dX6_isKindOrUnder_10 (by decide) ?_
      refine lv_icmp_ne (tgt := 19) hx hb dX6_isKindOrUnder_11 (by decide) (fun c11 => ?_) (fun c11 => ?_)
      · replace h := h.1 c11
        exact b_X6_isKindOrUnder_J19 x0 x1 X ret  _ _ _ h hP hD hS (lv_sub hl [0, 1] rfl)
      · replace h := h.2 c11
        refine lv_iload_n hx hb dX6_isKindOrUnder_14 rfl (lv_at hl 1 rfl) ?_
        refine lv_iconst (v := 1) hx hb dX6_isKindOrUnder_15 (by decide) ?_
        refine lv_icmp_eq (tgt := 29) hx hb dX6_isKindOrUnder_16 (by decide) (fun c16 => ?_) (fun c16 => ?_)
        · replace h := h.1 c16
          exact b_X6_isKindOrUnder_J29  X ret  _ _ _ h hP hD hS (lv_sub hl [] rfl)
        · replace h := h.2 c16
          exact b_X6_isKindOrUnder_J19 x0 x1 X ret  _ _ _ h hP hD hS (lv_sub hl [0, 1] rfl)
theorem dX6_commonDivisor_0 : decode cX6_commonDivisor 0 = .ok (.lload_n 0, 1) := by decide +kernel
theorem dX6_commonDivisor_1 : decode cX6_commonDivisor 1 = .ok (.lstore 4, 2) := by decide +kernel
theorem dX6_commonDivisor_3 : decode cX6_commonDivisor 3 = .ok (.lload_n 2, 1) := by decide +kernel
theorem dX6_commonDivisor_4 : decode cX6_commonDivisor 4 = .ok (.lstore 6, 2) := by decide +kernel
theorem dX6_commonDivisor_6 : decode cX6_commonDivisor 6 = .ok (.iconst 0, 1) := by decide +kernel
theorem dX6_commonDivisor_7 : decode cX6_commonDivisor 7 = .ok (.istore 8, 2) := by decide +kernel
theorem dX6_commonDivisor_9 : decode cX6_commonDivisor 9 = .ok (.iload 8, 2) := by decide +kernel
theorem dX6_commonDivisor_11 : decode cX6_commonDivisor 11 = .ok (.sipush 200, 3) := by decide +kernel
theorem dX6_commonDivisor_14 : decode cX6_commonDivisor 14 = .ok (.if_icmp .ge 31, 3) := by decide +kernel
theorem dX6_commonDivisor_17 : decode cX6_commonDivisor 17 = .ok (.lload 6, 2) := by decide +kernel
theorem dX6_commonDivisor_19 : decode cX6_commonDivisor 19 = .ok (.lconst 0, 1) := by decide +kernel
theorem dX6_commonDivisor_20 : decode cX6_commonDivisor 20 = .ok (.lcmp, 1) := by decide +kernel
theorem dX6_commonDivisor_21 : decode cX6_commonDivisor 21 = .ok (.ifCond .eq 24, 3) := by decide +kernel
theorem dX6_commonDivisor_24 : decode cX6_commonDivisor 24 = .ok (.lload 4, 2) := by decide +kernel
theorem dX6_commonDivisor_26 : decode cX6_commonDivisor 26 = .ok (.lload 6, 2) := by decide +kernel
theorem dX6_commonDivisor_28 : decode cX6_commonDivisor 28 = .ok (.lrem, 1) := by decide +kernel
theorem dX6_commonDivisor_29 : decode cX6_commonDivisor 29 = .ok (.lstore 9, 2) := by decide +kernel
theorem dX6_commonDivisor_31 : decode cX6_commonDivisor 31 = .ok (.lload 6, 2) := by decide +kernel
theorem dX6_commonDivisor_33 : decode cX6_commonDivisor 33 = .ok (.lstore 4, 2) := by decide +kernel
theorem dX6_commonDivisor_35 : decode cX6_commonDivisor 35 = .ok (.lload 9, 2) := by decide +kernel
theorem dX6_commonDivisor_37 : decode cX6_commonDivisor 37 = .ok (.lstore 6, 2) := by decide +kernel
theorem dX6_commonDivisor_39 : decode cX6_commonDivisor 39 = .ok (.iinc 8 1, 3) := by decide +kernel
theorem dX6_commonDivisor_42 : decode cX6_commonDivisor 42 = .ok (.goto (-33), 3) := by decide +kernel
theorem dX6_commonDivisor_45 : decode cX6_commonDivisor 45 = .ok (.lload 4, 2) := by decide +kernel
theorem dX6_commonDivisor_47 : decode cX6_commonDivisor 47 = .ok (.lreturn, 1) := by decide +kernel
def p_X6_commonDivisor_L9 (K : Int64 → Prop) : Nat → Int64 → Int64 → Int32 → Prop
  | 0, _, _, _ => False
  | n9 + 1, x4, x6, x8 => (((200 : Int32) ≤ x8 → (K x4)) ∧ (¬ (200 : Int32) ≤ x8 → (((lg_cmp x6 (0 : Int64)) = 0 → (K x4)) ∧ (¬ (lg_cmp x6 (0 : Int64)) = 0 → (¬ x6 = 0 ∧ (∀ y29 : Int64, y29 = (x4 - x4 / x6 * x6) → (∀ y39 : Int32, y39 = (x8 + (1 : Int32)) → ((p_X6_commonDivisor_L9 K n9) x6 y29 y39))))))))
set_option maxHeartbeats 4000000 in
set_option maxRecDepth 100000 in
theorem b_X6_commonDivisor_L9 {p : Program} {l : Launch} {e : Env} {s : State} {m : MethodId} {args : Array Value} {below : List Frame} {meth : Method} {c : Code} {Q : State → Prop} {D : va_G} {cI cZ cR : ClassId} {adK adV : Nat → Nat} {A9 : Nat → Prop}  {K : Int64 → Prop}   (X : CX p s m args c yX6_commonDivisor.cls cX6_commonDivisor 11 D cI cZ cR adK adV A9) (ret : RTl p l e (rmN 0 0) s m args below meth c Q cX6_commonDivisor D A9 (fun (r : Int64) (u : Unit) => K r) (fun (u : Unit) => ([] : va_W)))   : ∀ (n : Nat) (x4 : Int64) (x6 : Int64) (x8 : Int32) (H : Heap) (locs : List Loc) (ls : Array Slot), p_X6_commonDivisor_L9 K n x4 x6 x8 → va_P D vwCl ([] : va_W) H → va_D A9 ([] : va_W) → va_S A9 s.heap H locs → lv_has ls 11 [(4, .long x4), (6, .long x6), (8, .int x8)] → W p l e (rmN 0 0) s m args below meth c H locs 0 0 Q (F0 m 9 ls []) := by
  obtain ⟨hx, hb, hml, ht, hown, hK, hA, hE⟩ := id X
  intro n
  induction n with
  | zero => intro x4 x6 x8 H locs ls h; exact False.elim h
  | succ n9 ih =>
    intro x4 x6 x8 H locs ls h hP hD hS hl
    rw [p_X6_commonDivisor_L9] at h
    refine lv_iload hx hb dX6_commonDivisor_9 (lv_at hl 2 rfl) ?_
    refine lv_sipush (v := 200) hx hb dX6_commonDivisor_11 (by decide) ?_
    refine lv_icmp_ge (tgt := 45) hx hb dX6_commonDivisor_14 (by decide) (fun c14 => ?_) (fun c14 => ?_)
    · replace h := h.1 c14
      refine lv_lload hx hb dX6_commonDivisor_45 (lv_at hl 0 rfl) ?_
      exact ret _ () _ _ _ _ dX6_commonDivisor_47 h hP hD hS
    · replace h := h.2 c14
      refine lv_lload hx hb dX6_commonDivisor_17 (lv_at hl 1 rfl) ?_
      refine lv_lconst (v := 0) hx hb dX6_commonDivisor_19 (by decide) ?_
      refine W.lcmp hx hb dX6_commonDivisor_20 ?_
      refine lv_if_eq (tgt := 45) hx hb dX6_commonDivisor_21 (by decide) (fun c21 => ?_) (fun c21 => ?_)
      · replace h := h.1 c21
        refine lv_lload hx hb dX6_commonDivisor_45 (lv_at hl 0 rfl) ?_
        exact ret _ () _ _ _ _ dX6_commonDivisor_47 h hP hD hS
      · replace h := h.2 c21
        refine lv_lload hx hb dX6_commonDivisor_24 (lv_at hl 0 rfl) ?_
        refine lv_lload hx hb dX6_commonDivisor_26 (lv_at hl 1 rfl) ?_
        obtain ⟨hz28, h⟩ := h
        refine lv_lrem hx hb dX6_commonDivisor_28 hz28 ?_
        refine lv_topl (fun y29 ey29 => ?_)
        replace h := h y29 ey29
        refine lv_lstore (lv' := [(9, .long y29), (4, .long x4), (6, .long x6), (8, .int x8)]) hx hb dX6_commonDivisor_29 hl (by decide) rfl (fun ls hl => ?_)
        refine lv_lload hx hb dX6_commonDivisor_31 (lv_at hl 2 rfl) ?_
        refine lv_lstore (lv' := [(4, .long x6), (9, .long y29), (6, .long x6), (8, .int x8)]) hx hb dX6_commonDivisor_33 hl (by decide) rfl (fun ls hl => ?_)
        refine lv_lload hx hb dX6_commonDivisor_35 (lv_at hl 1 rfl) ?_
        refine lv_lstore (lv' := [(6, .long y29), (4, .long x6), (9, .long y29), (8, .int x8)]) hx hb dX6_commonDivisor_37 hl (by decide) rfl (fun ls hl => ?_)
        obtain ⟨y39, ey39⟩ : ∃ y : Int32, y = (x8 + (1 : Int32)) := ⟨_, rfl⟩
        replace h := h y39 ey39
        refine lv_iinc (v := y39) (lv' := [(8, .int y39), (6, .long y29), (4, .long x6), (9, .long y29)]) hx hb dX6_commonDivisor_39 hl (k := 3) rfl (by rw [ey39]; rfl) (by decide) rfl (fun ls hl => ?_)
        refine lv_goto (tgt := 9) hx hb dX6_commonDivisor_42 (by decide) ?_
        exact ih x6 y29 y39 _ _ _ h hP hD hS (lv_sub hl [2, 1, 0] rfl)
def p_X6_commonDivisor (x0 : Int64) (x2 : Int64) (K : Int64 → Prop) : Prop := (∃ n9, p_X6_commonDivisor_L9 K n9 x0 x2 (0 : Int32))
set_option maxHeartbeats 4000000 in
set_option maxRecDepth 100000 in
theorem w_X6_commonDivisor (l : Launch) (D : va_G) (cI cZ cR : ClassId) (adK adV : Nat → Nat) (sz : Nat)  (x0 : Int64) (x2 : Int64) (K : Int64 → Prop) (h : p_X6_commonDivisor x0 x2 K) : ML l D cI cZ cR adK adV yX6_commonDivisor cX6_commonDivisor 11 (some .long) (rmN 0 0) [.long x0, .long x2] ([] : va_W) sz (fun (r : Int64) (u : Unit) => K r) (fun (u : Unit) => ([] : va_W)) := by
  refine M_l (by decide +kernel) (Nat.le_of_ble_eq_true rfl) ?_
  intro p e s m args below meth c Q A9 ls X ret hP hD hS hl
  obtain ⟨hx, hb, hml, ht, hown, hK, hA, hE⟩ := id X
  have hl : lv_has ls 11 [(0, .long x0), (2, .long x2)] := hl
  unfold p_X6_commonDivisor at h
  refine lv_lload_n hx hb dX6_commonDivisor_0 rfl (lv_at hl 0 rfl) ?_
  refine lv_lstore (lv' := [(4, .long x0), (0, .long x0), (2, .long x2)]) hx hb dX6_commonDivisor_1 hl (by decide) rfl (fun ls hl => ?_)
  refine lv_lload_n hx hb dX6_commonDivisor_3 rfl (lv_at hl 2 rfl) ?_
  refine lv_lstore (lv' := [(6, .long x2), (4, .long x0), (0, .long x0), (2, .long x2)]) hx hb dX6_commonDivisor_4 hl (by decide) rfl (fun ls hl => ?_)
  refine lv_iconst (v := 0) hx hb dX6_commonDivisor_6 (by decide) ?_
  refine lv_istore (lv' := [(8, .int (0 : Int32)), (6, .long x2), (4, .long x0), (0, .long x0), (2, .long x2)]) hx hb dX6_commonDivisor_7 hl (by decide) rfl (fun ls hl => ?_)
  obtain ⟨n9, h⟩ := h
  exact b_X6_commonDivisor_L9  X ret  n9 x0 x2 (0 : Int32) _ _ _ h hP hD hS (lv_sub hl [2, 1, 0] rfl)
theorem cal_X6_commonDivisor : CalS yX6_commonDivisor cX6_commonDivisor 11 (some .long) 2 := ⟨mw_39_8, mw_1_2, mw_39_7, ⟨by decide +kernel, by decide +kernel, by decide +kernel⟩⟩
theorem dX6_partOf_0 : decode cX6_partOf 0 = .ok (.lload_n 0, 1) := by decide +kernel
theorem dX6_partOf_1 : decode cX6_partOf 1 = .ok (.lload_n 2, 1) := by decide +kernel
theorem dX6_partOf_2 : decode cX6_partOf 2 = .ok (.invokestatic 316, 3) := by decide +kernel
theorem dX6_partOf_5 : decode cX6_partOf 5 = .ok (.lstore 5, 2) := by decide +kernel
theorem dX6_partOf_7 : decode cX6_partOf 7 = .ok (.lload 5, 2) := by decide +kernel
theorem dX6_partOf_9 : decode cX6_partOf 9 = .ok (.lconst 0, 1) := by decide +kernel
theorem dX6_partOf_10 : decode cX6_partOf 10 = .ok (.lcmp, 1) := by decide +kernel
theorem dX6_partOf_11 : decode cX6_partOf 11 = .ok (.ifCond .ne 5, 3) := by decide +kernel
theorem dX6_partOf_14 : decode cX6_partOf 14 = .ok (.lconst 0, 1) := by decide +kernel
theorem dX6_partOf_15 : decode cX6_partOf 15 = .ok (.lreturn, 1) := by decide +kernel
theorem dX6_partOf_16 : decode cX6_partOf 16 = .ok (.iload 4, 2) := by decide +kernel
theorem dX6_partOf_18 : decode cX6_partOf 18 = .ok (.ifCond .ne 10, 3) := by decide +kernel
theorem dX6_partOf_21 : decode cX6_partOf 21 = .ok (.lload_n 0, 1) := by decide +kernel
theorem dX6_partOf_22 : decode cX6_partOf 22 = .ok (.lload 5, 2) := by decide +kernel
theorem dX6_partOf_24 : decode cX6_partOf 24 = .ok (.ldiv, 1) := by decide +kernel
theorem dX6_partOf_25 : decode cX6_partOf 25 = .ok (.goto 7, 3) := by decide +kernel
theorem dX6_partOf_28 : decode cX6_partOf 28 = .ok (.lload_n 2, 1) := by decide +kernel
theorem dX6_partOf_29 : decode cX6_partOf 29 = .ok (.lload 5, 2) := by decide +kernel
theorem dX6_partOf_31 : decode cX6_partOf 31 = .ok (.ldiv, 1) := by decide +kernel
theorem dX6_partOf_32 : decode cX6_partOf 32 = .ok (.lreturn, 1) := by decide +kernel
def p_X6_partOf (x0 : Int64) (x2 : Int64) (x4 : Int32) (K : Int64 → Prop) : Prop := (p_X6_commonDivisor x0 x2 (fun r2 => ((¬ (lg_cmp r2 (0 : Int64)) = 0 → ((¬ x4 = 0 → (¬ r2 = 0 ∧ (K (x2 / r2)))) ∧ (x4 = 0 → (¬ r2 = 0 ∧ (K (x0 / r2)))))) ∧ ((lg_cmp r2 (0 : Int64)) = 0 → (K (0 : Int64))))))
set_option maxHeartbeats 4000000 in
set_option maxRecDepth 100000 in
theorem w_X6_partOf (l : Launch) (D : va_G) (cI cZ cR : ClassId) (adK adV : Nat → Nat) (sz : Nat)  (x0 : Int64) (x2 : Int64) (x4 : Int32) (K : Int64 → Prop) (h : p_X6_partOf x0 x2 x4 K) : ML l D cI cZ cR adK adV yX6_partOf cX6_partOf 7 (some .long) (rmN 1 30) [.long x0, .long x2, .int x4] ([] : va_W) sz (fun (r : Int64) (u : Unit) => K r) (fun (u : Unit) => ([] : va_W)) := by
  refine M_l (by decide +kernel) (Nat.le_of_ble_eq_true rfl) ?_
  intro p e s m args below meth c Q A9 ls X ret hP hD hS hl
  obtain ⟨hx, hb, hml, ht, hown, hK, hA, hE⟩ := id X
  have hl : lv_has ls 7 [(0, .long x0), (2, .long x2), (4, .int x4)] := hl
  unfold p_X6_partOf at h
  refine lv_lload_n hx hb dX6_partOf_0 rfl (lv_at hl 0 rfl) ?_
  refine lv_lload_n hx hb dX6_partOf_1 rfl (lv_at hl 1 rfl) ?_
  refine C_sl (wr := []) X hP hD hS [.long x0, .long x2] [] (w_X6_commonDivisor l D cI cZ cR adK adV _ x0 x2 _ h) cal_X6_commonDivisor mw_39_6 rfl [] [] [] (fun u => ([] : va_W)) rfl rfl (fun _ => rfl) rfl ⟨rfl, rfl⟩ ⟨Nat.le_of_ble_eq_true rfl, Nat.le_of_ble_eq_true rfl⟩ hl.1 rfl (Nat.le_of_ble_eq_true rfl) ⟨Nat.zero_le _, Nat.zero_le _⟩ dX6_partOf_2 (fun r2 u H locs h hP hD hS => ?_)
  refine lv_lstore (lv' := [(5, .long r2), (0, .long x0), (2, .long x2), (4, .int x4)]) hx hb dX6_partOf_5 hl (by decide) rfl (fun ls hl => ?_)
  refine lv_lload hx hb dX6_partOf_7 (lv_at hl 0 rfl) ?_
  refine lv_lconst (v := 0) hx hb dX6_partOf_9 (by decide) ?_
  refine W.lcmp hx hb dX6_partOf_10 ?_
  refine lv_if_ne (tgt := 16) hx hb dX6_partOf_11 (by decide) (fun c11 => ?_) (fun c11 => ?_)
  · replace h := h.1 c11
    refine lv_iload hx hb dX6_partOf_16 (lv_at hl 3 rfl) ?_
    refine lv_if_ne (tgt := 28) hx hb dX6_partOf_18 (by decide) (fun c18 => ?_) (fun c18 => ?_)
    · replace h := h.1 c18
      refine lv_lload_n hx hb dX6_partOf_28 rfl (lv_at hl 2 rfl) ?_
      refine lv_lload hx hb dX6_partOf_29 (lv_at hl 0 rfl) ?_
      obtain ⟨hz31, h⟩ := h
      refine lv_ldiv hx hb dX6_partOf_31 hz31 ?_
      exact ret _ () _ _ _ _ dX6_partOf_32 h hP hD hS
    · replace h := h.2 c18
      refine lv_lload_n hx hb dX6_partOf_21 rfl (lv_at hl 1 rfl) ?_
      refine lv_lload hx hb dX6_partOf_22 (lv_at hl 0 rfl) ?_
      obtain ⟨hz24, h⟩ := h
      refine lv_ldiv hx hb dX6_partOf_24 hz24 ?_
      refine lv_goto (tgt := 32) hx hb dX6_partOf_25 (by decide) ?_
      exact ret _ () _ _ _ _ dX6_partOf_32 h hP hD hS
  · replace h := h.2 c11
    refine lv_lconst (v := 0) hx hb dX6_partOf_14 (by decide) ?_
    exact ret _ () _ _ _ _ dX6_partOf_15 h hP hD hS
theorem dX6_sumOf_0 : decode cX6_sumOf 0 = .ok (.iconst 0, 1) := by decide +kernel
theorem dX6_sumOf_1 : decode cX6_sumOf 1 = .ok (.istore_n 2, 1) := by decide +kernel
theorem dX6_sumOf_2 : decode cX6_sumOf 2 = .ok (.iconst 0, 1) := by decide +kernel
theorem dX6_sumOf_3 : decode cX6_sumOf 3 = .ok (.istore_n 3, 1) := by decide +kernel
theorem dX6_sumOf_4 : decode cX6_sumOf 4 = .ok (.iload_n 3, 1) := by decide +kernel
theorem dX6_sumOf_5 : decode cX6_sumOf 5 = .ok (.iload_n 1, 1) := by decide +kernel
theorem dX6_sumOf_6 : decode cX6_sumOf 6 = .ok (.if_icmp .ge 15, 3) := by decide +kernel
theorem dX6_sumOf_9 : decode cX6_sumOf 9 = .ok (.iload_n 2, 1) := by decide +kernel
theorem dX6_sumOf_10 : decode cX6_sumOf 10 = .ok (.aload_n 0, 1) := by decide +kernel
theorem dX6_sumOf_11 : decode cX6_sumOf 11 = .ok (.iload_n 3, 1) := by decide +kernel
theorem dX6_sumOf_12 : decode cX6_sumOf 12 = .ok (.iaload, 1) := by decide +kernel
theorem dX6_sumOf_13 : decode cX6_sumOf 13 = .ok (.iadd, 1) := by decide +kernel
theorem dX6_sumOf_14 : decode cX6_sumOf 14 = .ok (.istore_n 2, 1) := by decide +kernel
theorem dX6_sumOf_15 : decode cX6_sumOf 15 = .ok (.iinc 3 1, 3) := by decide +kernel
theorem dX6_sumOf_18 : decode cX6_sumOf 18 = .ok (.goto (-14), 3) := by decide +kernel
theorem dX6_sumOf_21 : decode cX6_sumOf 21 = .ok (.iload_n 2, 1) := by decide +kernel
theorem dX6_sumOf_22 : decode cX6_sumOf 22 = .ok (.ireturn, 1) := by decide +kernel
def p_X6_sumOf_L4 (n0 : Nat) (f0 : tF) (x1 : Int32) (K : Int32 → Prop) : Nat → Int32 → Int32 → Prop
  | 0, _, _ => False
  | n4 + 1, x2, x3 => ((x1 ≤ x3 → (K x2)) ∧ (¬ x1 ≤ x3 → (vp_in x3 n0 ∧ (∀ y14 : Int32, y14 = (x2 + (f0 (x3).toNatClampNeg)) → (∀ y15 : Int32, y15 = (x3 + (1 : Int32)) → ((p_X6_sumOf_L4 n0 f0 x1 K n4) y14 y15))))))
set_option maxHeartbeats 4000000 in
set_option maxRecDepth 100000 in
theorem b_X6_sumOf_L4 {p : Program} {l : Launch} {e : Env} {s : State} {m : MethodId} {args : Array Value} {below : List Frame} {meth : Method} {c : Code} {Q : State → Prop} {D : va_G} {cI cZ cR : ClassId} {adK adV : Nat → Nat} {A9 : Nat → Prop} {a0 : Nat} {K : Int32 → Prop}  (n0 : Nat) (f0 : tF) (x1 : Int32) (X : CX p s m args c yX6_sumOf.cls cX6_sumOf 4 D cI cZ cR adK adV A9) (ret : RTi p l e (rmN 0 0) s m args below meth c Q cX6_sumOf D A9 (fun (r : Int32) (u : Unit) => K r) (fun (u : Unit) => (wI cI a0 n0 f0 : va_W)))   : ∀ (n : Nat) (x2 : Int32) (x3 : Int32) (H : Heap) (locs : List Loc) (ls : Array Slot), p_X6_sumOf_L4 n0 f0 x1 K n x2 x3 → va_P D vwCl (wI cI a0 n0 f0 : va_W) H → va_D A9 (wI cI a0 n0 f0 : va_W) → va_S A9 s.heap H locs → lv_has ls 4 [(0, .ref a0), (1, .int x1), (2, .int x2), (3, .int x3)] → W p l e (rmN 0 0) s m args below meth c H locs 0 0 Q (F0 m 4 ls []) := by
  obtain ⟨hx, hb, hml, ht, hown, hK, hA, hE⟩ := id X
  intro n
  induction n with
  | zero => intro x2 x3 H locs ls h; exact False.elim h
  | succ n4 ih =>
    intro x2 x3 H locs ls h hP hD hS hl
    rw [p_X6_sumOf_L4] at h
    refine lv_iload_n hx hb dX6_sumOf_4 rfl (lv_at hl 3 rfl) ?_
    refine lv_iload_n hx hb dX6_sumOf_5 rfl (lv_at hl 1 rfl) ?_
    refine lv_icmp_ge (tgt := 21) hx hb dX6_sumOf_6 (by decide) (fun c6 => ?_) (fun c6 => ?_)
    · replace h := h.1 c6
      refine lv_iload_n hx hb dX6_sumOf_21 rfl (lv_at hl 2 rfl) ?_
      exact ret _ () _ _ _ _ dX6_sumOf_22 h hP hD hS
    · replace h := h.2 c6
      refine lv_iload_n hx hb dX6_sumOf_9 rfl (lv_at hl 2 rfl) ?_
      refine lv_aload_n hx hb dX6_sumOf_10 rfl (lv_at hl 0 rfl) ?_
      refine lv_iload_n hx hb dX6_sumOf_11 rfl (lv_at hl 3 rfl) ?_
      obtain ⟨hi12, h⟩ := h
      refine g_iald (f := f0) (k := (x3).toNatClampNeg) hx hb hK hP 0 0 rfl rfl hi12 rfl dX6_sumOf_12 ?_
      refine lv_iadd hx hb dX6_sumOf_13 ?_
      refine lv_topi (fun y14 ey14 => ?_)
      replace h := h y14 ey14
      refine lv_istore_n (lv' := [(2, .int y14), (0, .ref a0), (1, .int x1), (3, .int x3)]) hx hb dX6_sumOf_14 rfl hl (by decide) rfl (fun ls hl => ?_)
      obtain ⟨y15, ey15⟩ : ∃ y : Int32, y = (x3 + (1 : Int32)) := ⟨_, rfl⟩
      replace h := h y15 ey15
      refine lv_iinc (v := y15) (lv' := [(3, .int y15), (2, .int y14), (0, .ref a0), (1, .int x1)]) hx hb dX6_sumOf_15 hl (k := 3) rfl (by rw [ey15]; rfl) (by decide) rfl (fun ls hl => ?_)
      refine lv_goto (tgt := 4) hx hb dX6_sumOf_18 (by decide) ?_
      exact ih y14 y15 _ _ _ h hP hD hS (lv_sub hl [2, 3, 1, 0] rfl)
def p_X6_sumOf (n0 : Nat) (f0 : tF) (x1 : Int32) (K : Int32 → Prop) : Prop := (∃ n4, p_X6_sumOf_L4 n0 f0 x1 K n4 (0 : Int32) (0 : Int32))
set_option maxHeartbeats 4000000 in
set_option maxRecDepth 100000 in
theorem w_X6_sumOf (l : Launch) (D : va_G) (cI cZ cR : ClassId) (adK adV : Nat → Nat) (sz : Nat) (a0 : Nat) (n0 : Nat) (f0 : tF) (x1 : Int32) (K : Int32 → Prop) (h : p_X6_sumOf n0 f0 x1 K) : MI l D cI cZ cR adK adV yX6_sumOf cX6_sumOf 4 (some .int) (rmN 0 0) [.ref a0, .int x1] (wI cI a0 n0 f0 : va_W) sz (fun (r : Int32) (u : Unit) => K r) (fun (u : Unit) => (wI cI a0 n0 f0 : va_W)) := by
  refine M_i (by decide +kernel) (Nat.le_of_ble_eq_true rfl) ?_
  intro p e s m args below meth c Q A9 ls X ret hP hD hS hl
  obtain ⟨hx, hb, hml, ht, hown, hK, hA, hE⟩ := id X
  have hl : lv_has ls 4 [(0, .ref a0), (1, .int x1)] := hl
  unfold p_X6_sumOf at h
  refine lv_iconst (v := 0) hx hb dX6_sumOf_0 (by decide) ?_
  refine lv_istore_n (lv' := [(2, .int (0 : Int32)), (0, .ref a0), (1, .int x1)]) hx hb dX6_sumOf_1 rfl hl (by decide) rfl (fun ls hl => ?_)
  refine lv_iconst (v := 0) hx hb dX6_sumOf_2 (by decide) ?_
  refine lv_istore_n (lv' := [(3, .int (0 : Int32)), (2, .int (0 : Int32)), (0, .ref a0), (1, .int x1)]) hx hb dX6_sumOf_3 rfl hl (by decide) rfl (fun ls hl => ?_)
  obtain ⟨n4, h⟩ := h
  exact b_X6_sumOf_L4 n0 f0 x1 X ret  n4 (0 : Int32) (0 : Int32) _ _ _ h hP hD hS (lv_sub hl [2, 3, 1, 0] rfl)
theorem dX0_ordersOf_0 : decode cX0_ordersOf 0 = .ok (.lconst 1, 1) := by decide +kernel
theorem dX0_ordersOf_1 : decode cX0_ordersOf 1 = .ok (.lstore_n 1, 1) := by decide +kernel
theorem dX0_ordersOf_2 : decode cX0_ordersOf 2 = .ok (.iconst 2, 1) := by decide +kernel
theorem dX0_ordersOf_3 : decode cX0_ordersOf 3 = .ok (.istore_n 3, 1) := by decide +kernel
theorem dX0_ordersOf_4 : decode cX0_ordersOf 4 = .ok (.iload_n 3, 1) := by decide +kernel
theorem dX0_ordersOf_5 : decode cX0_ordersOf 5 = .ok (.iload_n 0, 1) := by decide +kernel
theorem dX0_ordersOf_6 : decode cX0_ordersOf 6 = .ok (.if_icmp .gt 14, 3) := by decide +kernel
theorem dX0_ordersOf_9 : decode cX0_ordersOf 9 = .ok (.lload_n 1, 1) := by decide +kernel
theorem dX0_ordersOf_10 : decode cX0_ordersOf 10 = .ok (.iload_n 3, 1) := by decide +kernel
theorem dX0_ordersOf_11 : decode cX0_ordersOf 11 = .ok (.i2l, 1) := by decide +kernel
theorem dX0_ordersOf_12 : decode cX0_ordersOf 12 = .ok (.lmul, 1) := by decide +kernel
theorem dX0_ordersOf_13 : decode cX0_ordersOf 13 = .ok (.lstore_n 1, 1) := by decide +kernel
theorem dX0_ordersOf_14 : decode cX0_ordersOf 14 = .ok (.iinc 3 1, 3) := by decide +kernel
theorem dX0_ordersOf_17 : decode cX0_ordersOf 17 = .ok (.goto (-13), 3) := by decide +kernel
theorem dX0_ordersOf_20 : decode cX0_ordersOf 20 = .ok (.lload_n 1, 1) := by decide +kernel
theorem dX0_ordersOf_21 : decode cX0_ordersOf 21 = .ok (.lreturn, 1) := by decide +kernel
def p_X0_ordersOf_L4 (x0 : Int32) (K : Int64 → Prop) : Nat → Int64 → Int32 → Prop
  | 0, _, _ => False
  | n4 + 1, x1, x3 => ((x0 < x3 → (K x1)) ∧ (¬ x0 < x3 → (∀ y13 : Int64, y13 = (x1 * (x3).toInt64) → (∀ y14 : Int32, y14 = (x3 + (1 : Int32)) → ((p_X0_ordersOf_L4 x0 K n4) y13 y14)))))
set_option maxHeartbeats 4000000 in
set_option maxRecDepth 100000 in
theorem b_X0_ordersOf_L4 {p : Program} {l : Launch} {e : Env} {s : State} {m : MethodId} {args : Array Value} {below : List Frame} {meth : Method} {c : Code} {Q : State → Prop} {D : va_G} {cI cZ cR : ClassId} {adK adV : Nat → Nat} {A9 : Nat → Prop}  {K : Int64 → Prop}  (x0 : Int32) (X : CX p s m args c yX0_ordersOf.cls cX0_ordersOf 4 D cI cZ cR adK adV A9) (ret : RTl p l e (rmN 0 0) s m args below meth c Q cX0_ordersOf D A9 (fun (r : Int64) (u : Unit) => K r) (fun (u : Unit) => ([] : va_W)))   : ∀ (n : Nat) (x1 : Int64) (x3 : Int32) (H : Heap) (locs : List Loc) (ls : Array Slot), p_X0_ordersOf_L4 x0 K n x1 x3 → va_P D vwCl ([] : va_W) H → va_D A9 ([] : va_W) → va_S A9 s.heap H locs → lv_has ls 4 [(0, .int x0), (1, .long x1), (3, .int x3)] → W p l e (rmN 0 0) s m args below meth c H locs 0 0 Q (F0 m 4 ls []) := by
  obtain ⟨hx, hb, hml, ht, hown, hK, hA, hE⟩ := id X
  intro n
  induction n with
  | zero => intro x1 x3 H locs ls h; exact False.elim h
  | succ n4 ih =>
    intro x1 x3 H locs ls h hP hD hS hl
    rw [p_X0_ordersOf_L4] at h
    refine lv_iload_n hx hb dX0_ordersOf_4 rfl (lv_at hl 2 rfl) ?_
    refine lv_iload_n hx hb dX0_ordersOf_5 rfl (lv_at hl 0 rfl) ?_
    refine lv_icmp_gt (tgt := 20) hx hb dX0_ordersOf_6 (by decide) (fun c6 => ?_) (fun c6 => ?_)
    · replace h := h.1 c6
      refine lv_lload_n hx hb dX0_ordersOf_20 rfl (lv_at hl 1 rfl) ?_
      exact ret _ () _ _ _ _ dX0_ordersOf_21 h hP hD hS
    · replace h := h.2 c6
      refine lv_lload_n hx hb dX0_ordersOf_9 rfl (lv_at hl 1 rfl) ?_
      refine lv_iload_n hx hb dX0_ordersOf_10 rfl (lv_at hl 2 rfl) ?_
      refine lv_i2l (v := (x3).toInt64) hx hb dX0_ordersOf_11 rfl ?_
      refine lv_lmul hx hb dX0_ordersOf_12 ?_
      refine lv_topl (fun y13 ey13 => ?_)
      replace h := h y13 ey13
      refine lv_lstore_n (lv' := [(1, .long y13), (0, .int x0), (3, .int x3)]) hx hb dX0_ordersOf_13 rfl hl (by decide) rfl (fun ls hl => ?_)
      obtain ⟨y14, ey14⟩ : ∃ y : Int32, y = (x3 + (1 : Int32)) := ⟨_, rfl⟩
      replace h := h y14 ey14
      refine lv_iinc (v := y14) (lv' := [(3, .int y14), (1, .long y13), (0, .int x0)]) hx hb dX0_ordersOf_14 hl (k := 2) rfl (by rw [ey14]; rfl) (by decide) rfl (fun ls hl => ?_)
      refine lv_goto (tgt := 4) hx hb dX0_ordersOf_17 (by decide) ?_
      exact ih y13 y14 _ _ _ h hP hD hS (lv_sub hl [2, 1, 0] rfl)
def p_X0_ordersOf (x0 : Int32) (K : Int64 → Prop) : Prop := (∃ n4, p_X0_ordersOf_L4 x0 K n4 (1 : Int64) (2 : Int32))
set_option maxHeartbeats 4000000 in
set_option maxRecDepth 100000 in
theorem w_X0_ordersOf (l : Launch) (D : va_G) (cI cZ cR : ClassId) (adK adV : Nat → Nat) (sz : Nat)  (x0 : Int32) (K : Int64 → Prop) (h : p_X0_ordersOf x0 K) : ML l D cI cZ cR adK adV yX0_ordersOf cX0_ordersOf 4 (some .long) (rmN 0 0) [.int x0] ([] : va_W) sz (fun (r : Int64) (u : Unit) => K r) (fun (u : Unit) => ([] : va_W)) := by
  refine M_l (by decide +kernel) (Nat.le_of_ble_eq_true rfl) ?_
  intro p e s m args below meth c Q A9 ls X ret hP hD hS hl
  obtain ⟨hx, hb, hml, ht, hown, hK, hA, hE⟩ := id X
  have hl : lv_has ls 4 [(0, .int x0)] := hl
  unfold p_X0_ordersOf at h
  refine lv_lconst (v := 1) hx hb dX0_ordersOf_0 (by decide) ?_
  refine lv_lstore_n (lv' := [(1, .long (1 : Int64)), (0, .int x0)]) hx hb dX0_ordersOf_1 rfl hl (by decide) rfl (fun ls hl => ?_)
  refine lv_iconst (v := 2) hx hb dX0_ordersOf_2 (by decide) ?_
  refine lv_istore_n (lv' := [(3, .int (2 : Int32)), (1, .long (1 : Int64)), (0, .int x0)]) hx hb dX0_ordersOf_3 rfl hl (by decide) rfl (fun ls hl => ?_)
  obtain ⟨n4, h⟩ := h
  exact b_X0_ordersOf_L4 x0 X ret  n4 (1 : Int64) (2 : Int32) _ _ _ h hP hD hS (lv_sub hl [2, 1, 0] rfl)
theorem dX1_leftOverAt_0 : decode cX1_leftOverAt 0 = .ok (.iconst 0, 1) := by decide +kernel
theorem dX1_leftOverAt_1 : decode cX1_leftOverAt 1 = .ok (.istore_n 2, 1) := by decide +kernel
theorem dX1_leftOverAt_2 : decode cX1_leftOverAt 2 = .ok (.iconst 0, 1) := by decide +kernel
theorem dX1_leftOverAt_3 : decode cX1_leftOverAt 3 = .ok (.istore_n 3, 1) := by decide +kernel
theorem dX1_leftOverAt_4 : decode cX1_leftOverAt 4 = .ok (.iload_n 3, 1) := by decide +kernel
theorem dX1_leftOverAt_5 : decode cX1_leftOverAt 5 = .ok (.bipush 6, 2) := by decide +kernel
theorem dX1_leftOverAt_7 : decode cX1_leftOverAt 7 = .ok (.if_icmp .ge 28, 3) := by decide +kernel
theorem dX1_leftOverAt_10 : decode cX1_leftOverAt 10 = .ok (.iload_n 0, 1) := by decide +kernel
theorem dX1_leftOverAt_11 : decode cX1_leftOverAt 11 = .ok (.iload_n 3, 1) := by decide +kernel
theorem dX1_leftOverAt_12 : decode cX1_leftOverAt 12 = .ok (.ishr, 1) := by decide +kernel
theorem dX1_leftOverAt_13 : decode cX1_leftOverAt 13 = .ok (.iconst 1, 1) := by decide +kernel
theorem dX1_leftOverAt_14 : decode cX1_leftOverAt 14 = .ok (.iand, 1) := by decide +kernel
theorem dX1_leftOverAt_15 : decode cX1_leftOverAt 15 = .ok (.iconst 1, 1) := by decide +kernel
theorem dX1_leftOverAt_16 : decode cX1_leftOverAt 16 = .ok (.if_icmp .ne 13, 3) := by decide +kernel
theorem dX1_leftOverAt_19 : decode cX1_leftOverAt 19 = .ok (.iload_n 2, 1) := by decide +kernel
theorem dX1_leftOverAt_20 : decode cX1_leftOverAt 20 = .ok (.iload_n 1, 1) := by decide +kernel
theorem dX1_leftOverAt_21 : decode cX1_leftOverAt 21 = .ok (.if_icmp .ne 5, 3) := by decide +kernel
theorem dX1_leftOverAt_24 : decode cX1_leftOverAt 24 = .ok (.iload_n 3, 1) := by decide +kernel
theorem dX1_leftOverAt_25 : decode cX1_leftOverAt 25 = .ok (.ireturn, 1) := by decide +kernel
theorem dX1_leftOverAt_26 : decode cX1_leftOverAt 26 = .ok (.iinc 2 1, 3) := by decide +kernel
theorem dX1_leftOverAt_29 : decode cX1_leftOverAt 29 = .ok (.iinc 3 1, 3) := by decide +kernel
theorem dX1_leftOverAt_32 : decode cX1_leftOverAt 32 = .ok (.goto (-28), 3) := by decide +kernel
theorem dX1_leftOverAt_35 : decode cX1_leftOverAt 35 = .ok (.iconst 0, 1) := by decide +kernel
theorem dX1_leftOverAt_36 : decode cX1_leftOverAt 36 = .ok (.ireturn, 1) := by decide +kernel
def p_X1_leftOverAt_J29 (B4 : (Int32 → Int32 → Prop)) (K : Int32 → Prop) (x0 : Int32) (x1 : Int32) (x2 : Int32) (x3 : Int32) : Prop := (∀ y29 : Int32, y29 = (x3 + (1 : Int32)) → (B4 x2 y29))
set_option maxHeartbeats 4000000 in
set_option maxRecDepth 100000 in
theorem b_X1_leftOverAt_J29 {p : Program} {l : Launch} {e : Env} {s : State} {m : MethodId} {args : Array Value} {below : List Frame} {meth : Method} {c : Code} {Q : State → Prop} {D : va_G} {cI cZ cR : ClassId} {adK adV : Nat → Nat} {A9 : Nat → Prop}  {K : Int32 → Prop} {B4 : (Int32 → Int32 → Prop)} (x0 : Int32) (x1 : Int32) (x2 : Int32) (x3 : Int32) (X : CX p s m args c yX1_leftOverAt.cls cX1_leftOverAt 4 D cI cZ cR adK adV A9) (ret : RTi p l e (rmN 0 0) s m args below meth c Q cX1_leftOverAt D A9 (fun (r : Int32) (u : Unit) => K r) (fun (u : Unit) => ([] : va_W))) (hB4 : ∀ (x2 : Int32) (x3 : Int32) (H : Heap) (locs : List Loc) (ls : Array Slot), B4 x2 x3 → va_P D vwCl ([] : va_W) H → va_D A9 ([] : va_W) → va_S A9 s.heap H locs → lv_has ls 4 [(0, .int x0), (1, .int x1), (2, .int x2), (3, .int x3)] → W p l e (rmN 0 0) s m args below meth c H locs 0 0 Q (F0 m 4 ls [])) (H : Heap) (locs : List Loc) (ls : Array Slot) (h : p_X1_leftOverAt_J29 B4 K x0 x1 x2 x3) (hP : va_P D vwCl ([] : va_W) H) (hD : va_D A9 ([] : va_W)) (hS : va_S A9 s.heap H locs) (hl : lv_has ls 4 [(0, .int x0), (1, .int x1), (2, .int x2), (3, .int x3)]) : W p l e (rmN 0 0) s m args below meth c H locs 0 0 Q (F0 m 29 ls []) := by
  obtain ⟨hx, hb, hml, ht, hown, hK, hA, hE⟩ := id X
  unfold p_X1_leftOverAt_J29 at h
  obtain ⟨y29, ey29⟩ : ∃ y : Int32, y = (x3 + (1 : Int32)) := ⟨_, rfl⟩
  replace h := h y29 ey29
  refine lv_iinc (v := y29) (lv' := [(3, .int y29), (0, .int x0), (1, .int x1), (2, .int x2)]) hx hb dX1_leftOverAt_29 hl (k := 3) rfl (by rw [ey29]; rfl) (by decide) rfl (fun ls hl => ?_)
  refine lv_goto (tgt := 4) hx hb dX1_leftOverAt_32 (by decide) ?_
  exact hB4 x2 y29 _ _ _ h hP hD hS (lv_sub hl [1, 2, 3, 0] rfl)
def p_X1_leftOverAt_L4 (x0 : Int32) (x1 : Int32) (K : Int32 → Prop) : Nat → Int32 → Int32 → Prop
  | 0, _, _ => False
  | n4 + 1, x2, x3 => (((6 : Int32) ≤ x3 → (K (0 : Int32))) ∧ (¬ (6 : Int32) ≤ x3 → ((¬ ((x0 >>> (x3 &&& 31)) &&& (1 : Int32)) = (1 : Int32) → (p_X1_leftOverAt_J29 (p_X1_leftOverAt_L4 x0 x1 K n4) K x0 x1 x2 x3)) ∧ (((x0 >>> (x3 &&& 31)) &&& (1 : Int32)) = (1 : Int32) → ((¬ x2 = x1 → (∀ y26 : Int32, y26 = (x2 + (1 : Int32)) → (p_X1_leftOverAt_J29 (p_X1_leftOverAt_L4 x0 x1 K n4) K x0 x1 y26 x3))) ∧ (x2 = x1 → (K x3)))))))
set_option maxHeartbeats 4000000 in
set_option maxRecDepth 100000 in
theorem b_X1_leftOverAt_L4 {p : Program} {l : Launch} {e : Env} {s : State} {m : MethodId} {args : Array Value} {below : List Frame} {meth : Method} {c : Code} {Q : State → Prop} {D : va_G} {cI cZ cR : ClassId} {adK adV : Nat → Nat} {A9 : Nat → Prop}  {K : Int32 → Prop}  (x0 : Int32) (x1 : Int32) (X : CX p s m args c yX1_leftOverAt.cls cX1_leftOverAt 4 D cI cZ cR adK adV A9) (ret : RTi p l e (rmN 0 0) s m args below meth c Q cX1_leftOverAt D A9 (fun (r : Int32) (u : Unit) => K r) (fun (u : Unit) => ([] : va_W)))   : ∀ (n : Nat) (x2 : Int32) (x3 : Int32) (H : Heap) (locs : List Loc) (ls : Array Slot), p_X1_leftOverAt_L4 x0 x1 K n x2 x3 → va_P D vwCl ([] : va_W) H → va_D A9 ([] : va_W) → va_S A9 s.heap H locs → lv_has ls 4 [(0, .int x0), (1, .int x1), (2, .int x2), (3, .int x3)] → W p l e (rmN 0 0) s m args below meth c H locs 0 0 Q (F0 m 4 ls []) := by
  obtain ⟨hx, hb, hml, ht, hown, hK, hA, hE⟩ := id X
  intro n
  induction n with
  | zero => intro x2 x3 H locs ls h; exact False.elim h
  | succ n4 ih =>
    intro x2 x3 H locs ls h hP hD hS hl
    rw [p_X1_leftOverAt_L4] at h
    refine lv_iload_n hx hb dX1_leftOverAt_4 rfl (lv_at hl 3 rfl) ?_
    refine lv_bipush (v := 6) hx hb dX1_leftOverAt_5 (by decide) ?_
    refine lv_icmp_ge (tgt := 35) hx hb dX1_leftOverAt_7 (by decide) (fun c7 => ?_) (fun c7 => ?_)
    · replace h := h.1 c7
      refine lv_iconst (v := 0) hx hb dX1_leftOverAt_35 (by decide) ?_
      exact ret _ () _ _ _ _ dX1_leftOverAt_36 h hP hD hS
    · replace h := h.2 c7
      refine lv_iload_n hx hb dX1_leftOverAt_10 rfl (lv_at hl 0 rfl) ?_
      refine lv_iload_n hx hb dX1_leftOverAt_11 rfl (lv_at hl 3 rfl) ?_
      refine lv_ishr hx hb dX1_leftOverAt_12 ?_
      refine lv_iconst (v := 1) hx hb dX1_leftOverAt_13 (by decide) ?_
      refine lv_iand hx hb dX1_leftOverAt_14 ?_
      refine lv_iconst (v := 1) hx hb dX1_leftOverAt_15 (by decide) ?_
      refine lv_icmp_ne (tgt := 29) hx hb dX1_leftOverAt_16 (by decide) (fun c16 => ?_) (fun c16 => ?_)
      · replace h := h.1 c16
        exact b_X1_leftOverAt_J29 x0 x1 x2 x3 X ret ih _ _ _ h hP hD hS (lv_sub hl [0, 1, 2, 3] rfl)
      · replace h := h.2 c16
        refine lv_iload_n hx hb dX1_leftOverAt_19 rfl (lv_at hl 2 rfl) ?_
        refine lv_iload_n hx hb dX1_leftOverAt_20 rfl (lv_at hl 1 rfl) ?_
        refine lv_icmp_ne (tgt := 26) hx hb dX1_leftOverAt_21 (by decide) (fun c21 => ?_) (fun c21 => ?_)
        · replace h := h.1 c21
          obtain ⟨y26, ey26⟩ : ∃ y : Int32, y = (x2 + (1 : Int32)) := ⟨_, rfl⟩
          replace h := h y26 ey26
          refine lv_iinc (v := y26) (lv' := [(2, .int y26), (0, .int x0), (1, .int x1), (3, .int x3)]) hx hb dX1_leftOverAt_26 hl (k := 2) rfl (by rw [ey26]; rfl) (by decide) rfl (fun ls hl => ?_)
          exact b_X1_leftOverAt_J29 x0 x1 y26 x3 X ret ih _ _ _ h hP hD hS (lv_sub hl [1, 2, 0, 3] rfl)
        · replace h := h.2 c21
          refine lv_iload_n hx hb dX1_leftOverAt_24 rfl (lv_at hl 3 rfl) ?_
          exact ret _ () _ _ _ _ dX1_leftOverAt_25 h hP hD hS
def p_X1_leftOverAt (x0 : Int32) (x1 : Int32) (K : Int32 → Prop) : Prop := (∃ n4, p_X1_leftOverAt_L4 x0 x1 K n4 (0 : Int32) (0 : Int32))
set_option maxHeartbeats 4000000 in
set_option maxRecDepth 100000 in
theorem w_X1_leftOverAt (l : Launch) (D : va_G) (cI cZ cR : ClassId) (adK adV : Nat → Nat) (sz : Nat)  (x0 : Int32) (x1 : Int32) (K : Int32 → Prop) (h : p_X1_leftOverAt x0 x1 K) : MI l D cI cZ cR adK adV yX1_leftOverAt cX1_leftOverAt 4 (some .int) (rmN 0 0) [.int x0, .int x1] ([] : va_W) sz (fun (r : Int32) (u : Unit) => K r) (fun (u : Unit) => ([] : va_W)) := by
  refine M_i (by decide +kernel) (Nat.le_of_ble_eq_true rfl) ?_
  intro p e s m args below meth c Q A9 ls X ret hP hD hS hl
  obtain ⟨hx, hb, hml, ht, hown, hK, hA, hE⟩ := id X
  have hl : lv_has ls 4 [(0, .int x0), (1, .int x1)] := hl
  unfold p_X1_leftOverAt at h
  refine lv_iconst (v := 0) hx hb dX1_leftOverAt_0 (by decide) ?_
  refine lv_istore_n (lv' := [(2, .int (0 : Int32)), (0, .int x0), (1, .int x1)]) hx hb dX1_leftOverAt_1 rfl hl (by decide) rfl (fun ls hl => ?_)
  refine lv_iconst (v := 0) hx hb dX1_leftOverAt_2 (by decide) ?_
  refine lv_istore_n (lv' := [(3, .int (0 : Int32)), (2, .int (0 : Int32)), (0, .int x0), (1, .int x1)]) hx hb dX1_leftOverAt_3 rfl hl (by decide) rfl (fun ls hl => ?_)
  obtain ⟨n4, h⟩ := h
  exact b_X1_leftOverAt_L4 x0 x1 X ret  n4 (0 : Int32) (0 : Int32) _ _ _ h hP hD hS (lv_sub hl [2, 3, 1, 0] rfl)
theorem dJ6_bitCount_0f7a4_0 : decode cJ6_bitCount_0f7a4 0 = .ok (.iload_n 0, 1) := by decide +kernel
theorem dJ6_bitCount_0f7a4_1 : decode cJ6_bitCount_0f7a4 1 = .ok (.iload_n 0, 1) := by decide +kernel
theorem dJ6_bitCount_0f7a4_2 : decode cJ6_bitCount_0f7a4 2 = .ok (.iconst 1, 1) := by decide +kernel
theorem dJ6_bitCount_0f7a4_3 : decode cJ6_bitCount_0f7a4 3 = .ok (.iushr, 1) := by decide +kernel
theorem dJ6_bitCount_0f7a4_4 : decode cJ6_bitCount_0f7a4 4 = .ok (.ldc_w 265, 3) := by decide +kernel
theorem dJ6_bitCount_0f7a4_7 : decode cJ6_bitCount_0f7a4 7 = .ok (.iand, 1) := by decide +kernel
theorem dJ6_bitCount_0f7a4_8 : decode cJ6_bitCount_0f7a4 8 = .ok (.isub, 1) := by decide +kernel
theorem dJ6_bitCount_0f7a4_9 : decode cJ6_bitCount_0f7a4 9 = .ok (.istore_n 0, 1) := by decide +kernel
theorem dJ6_bitCount_0f7a4_10 : decode cJ6_bitCount_0f7a4 10 = .ok (.iload_n 0, 1) := by decide +kernel
theorem dJ6_bitCount_0f7a4_11 : decode cJ6_bitCount_0f7a4 11 = .ok (.ldc_w 266, 3) := by decide +kernel
theorem dJ6_bitCount_0f7a4_14 : decode cJ6_bitCount_0f7a4 14 = .ok (.iand, 1) := by decide +kernel
theorem dJ6_bitCount_0f7a4_15 : decode cJ6_bitCount_0f7a4 15 = .ok (.iload_n 0, 1) := by decide +kernel
theorem dJ6_bitCount_0f7a4_16 : decode cJ6_bitCount_0f7a4 16 = .ok (.iconst 2, 1) := by decide +kernel
theorem dJ6_bitCount_0f7a4_17 : decode cJ6_bitCount_0f7a4 17 = .ok (.iushr, 1) := by decide +kernel
theorem dJ6_bitCount_0f7a4_18 : decode cJ6_bitCount_0f7a4 18 = .ok (.ldc_w 266, 3) := by decide +kernel
theorem dJ6_bitCount_0f7a4_21 : decode cJ6_bitCount_0f7a4 21 = .ok (.iand, 1) := by decide +kernel
theorem dJ6_bitCount_0f7a4_22 : decode cJ6_bitCount_0f7a4 22 = .ok (.iadd, 1) := by decide +kernel
theorem dJ6_bitCount_0f7a4_23 : decode cJ6_bitCount_0f7a4 23 = .ok (.istore_n 0, 1) := by decide +kernel
theorem dJ6_bitCount_0f7a4_24 : decode cJ6_bitCount_0f7a4 24 = .ok (.iload_n 0, 1) := by decide +kernel
theorem dJ6_bitCount_0f7a4_25 : decode cJ6_bitCount_0f7a4 25 = .ok (.iload_n 0, 1) := by decide +kernel
theorem dJ6_bitCount_0f7a4_26 : decode cJ6_bitCount_0f7a4 26 = .ok (.iconst 4, 1) := by decide +kernel
theorem dJ6_bitCount_0f7a4_27 : decode cJ6_bitCount_0f7a4 27 = .ok (.iushr, 1) := by decide +kernel
theorem dJ6_bitCount_0f7a4_28 : decode cJ6_bitCount_0f7a4 28 = .ok (.iadd, 1) := by decide +kernel
theorem dJ6_bitCount_0f7a4_29 : decode cJ6_bitCount_0f7a4 29 = .ok (.ldc_w 267, 3) := by decide +kernel
theorem dJ6_bitCount_0f7a4_32 : decode cJ6_bitCount_0f7a4 32 = .ok (.iand, 1) := by decide +kernel
theorem dJ6_bitCount_0f7a4_33 : decode cJ6_bitCount_0f7a4 33 = .ok (.istore_n 0, 1) := by decide +kernel
theorem dJ6_bitCount_0f7a4_34 : decode cJ6_bitCount_0f7a4 34 = .ok (.iload_n 0, 1) := by decide +kernel
theorem dJ6_bitCount_0f7a4_35 : decode cJ6_bitCount_0f7a4 35 = .ok (.iload_n 0, 1) := by decide +kernel
theorem dJ6_bitCount_0f7a4_36 : decode cJ6_bitCount_0f7a4 36 = .ok (.bipush 8, 2) := by decide +kernel
theorem dJ6_bitCount_0f7a4_38 : decode cJ6_bitCount_0f7a4 38 = .ok (.iushr, 1) := by decide +kernel
theorem dJ6_bitCount_0f7a4_39 : decode cJ6_bitCount_0f7a4 39 = .ok (.iadd, 1) := by decide +kernel
theorem dJ6_bitCount_0f7a4_40 : decode cJ6_bitCount_0f7a4 40 = .ok (.istore_n 0, 1) := by decide +kernel
theorem dJ6_bitCount_0f7a4_41 : decode cJ6_bitCount_0f7a4 41 = .ok (.iload_n 0, 1) := by decide +kernel
theorem dJ6_bitCount_0f7a4_42 : decode cJ6_bitCount_0f7a4 42 = .ok (.iload_n 0, 1) := by decide +kernel
theorem dJ6_bitCount_0f7a4_43 : decode cJ6_bitCount_0f7a4 43 = .ok (.bipush 16, 2) := by decide +kernel
theorem dJ6_bitCount_0f7a4_45 : decode cJ6_bitCount_0f7a4 45 = .ok (.iushr, 1) := by decide +kernel
theorem dJ6_bitCount_0f7a4_46 : decode cJ6_bitCount_0f7a4 46 = .ok (.iadd, 1) := by decide +kernel
theorem dJ6_bitCount_0f7a4_47 : decode cJ6_bitCount_0f7a4 47 = .ok (.istore_n 0, 1) := by decide +kernel
theorem dJ6_bitCount_0f7a4_48 : decode cJ6_bitCount_0f7a4 48 = .ok (.iload_n 0, 1) := by decide +kernel
theorem dJ6_bitCount_0f7a4_49 : decode cJ6_bitCount_0f7a4 49 = .ok (.bipush 63, 2) := by decide +kernel
theorem dJ6_bitCount_0f7a4_51 : decode cJ6_bitCount_0f7a4 51 = .ok (.iand, 1) := by decide +kernel
theorem dJ6_bitCount_0f7a4_52 : decode cJ6_bitCount_0f7a4 52 = .ok (.ireturn, 1) := by decide +kernel
def p_J6_bitCount_0f7a4 (x0 : Int32) (K : Int32 → Prop) : Prop := (∀ y9 : Int32, y9 = (x0 - ((((x0).toUInt32 >>> (((1 : Int32)).toUInt32 &&& Int32.toUInt32 31)).toInt32) &&& (1431655765 : Int32))) → (∀ y23 : Int32, y23 = ((y9 &&& (858993459 : Int32)) + ((((y9).toUInt32 >>> (((2 : Int32)).toUInt32 &&& Int32.toUInt32 31)).toInt32) &&& (858993459 : Int32))) → (∀ y33 : Int32, y33 = ((y23 + (((y23).toUInt32 >>> (((4 : Int32)).toUInt32 &&& Int32.toUInt32 31)).toInt32)) &&& (252645135 : Int32)) → (∀ y40 : Int32, y40 = (y33 + (((y33).toUInt32 >>> (((8 : Int32)).toUInt32 &&& Int32.toUInt32 31)).toInt32)) → (∀ y47 : Int32, y47 = (y40 + (((y40).toUInt32 >>> (((16 : Int32)).toUInt32 &&& Int32.toUInt32 31)).toInt32)) → (K (y47 &&& (63 : Int32))))))))
set_option maxHeartbeats 4000000 in
set_option maxRecDepth 100000 in
theorem w_J6_bitCount_0f7a4 (l : Launch) (D : va_G) (cI cZ cR : ClassId) (adK adV : Nat → Nat) (sz : Nat)  (x0 : Int32) (K : Int32 → Prop) (h : p_J6_bitCount_0f7a4 x0 K) : MI l D cI cZ cR adK adV yJ6_bitCount_0f7a4 cJ6_bitCount_0f7a4 1 (some .int) (rmN 0 0) [.int x0] ([] : va_W) sz (fun (r : Int32) (u : Unit) => K r) (fun (u : Unit) => ([] : va_W)) := by
  refine M_i (by decide +kernel) (Nat.le_of_ble_eq_true rfl) ?_
  intro p e s m args below meth c Q A9 ls X ret hP hD hS hl
  obtain ⟨hx, hb, hml, ht, hown, hK, hA, hE⟩ := id X
  have hl : lv_has ls 1 [(0, .int x0)] := hl
  unfold p_J6_bitCount_0f7a4 at h
  refine lv_iload_n hx hb dJ6_bitCount_0f7a4_0 rfl (lv_at hl 0 rfl) ?_
  refine lv_iload_n hx hb dJ6_bitCount_0f7a4_1 rfl (lv_at hl 0 rfl) ?_
  refine lv_iconst (v := 1) hx hb dJ6_bitCount_0f7a4_2 (by decide) ?_
  refine lv_iushr (v := ((x0).toUInt32 >>> (((1 : Int32)).toUInt32 &&& Int32.toUInt32 31)).toInt32) hx hb dJ6_bitCount_0f7a4_3 rfl ?_
  refine lv_ldcw (v := 1431655765) hx hb hown (ht _ mw_32_23) dJ6_bitCount_0f7a4_4 ?_
  refine lv_iand hx hb dJ6_bitCount_0f7a4_7 ?_
  refine lv_isub hx hb dJ6_bitCount_0f7a4_8 ?_
  refine lv_topi (fun y9 ey9 => ?_)
  replace h := h y9 ey9
  refine lv_istore_n (lv' := [(0, .int y9)]) hx hb dJ6_bitCount_0f7a4_9 rfl hl (by decide) rfl (fun ls hl => ?_)
  refine lv_iload_n hx hb dJ6_bitCount_0f7a4_10 rfl (lv_at hl 0 rfl) ?_
  refine lv_ldcw (v := 858993459) hx hb hown (ht _ mw_33_0) dJ6_bitCount_0f7a4_11 ?_
  refine lv_iand hx hb dJ6_bitCount_0f7a4_14 ?_
  refine lv_iload_n hx hb dJ6_bitCount_0f7a4_15 rfl (lv_at hl 0 rfl) ?_
  refine lv_iconst (v := 2) hx hb dJ6_bitCount_0f7a4_16 (by decide) ?_
  refine lv_iushr (v := ((y9).toUInt32 >>> (((2 : Int32)).toUInt32 &&& Int32.toUInt32 31)).toInt32) hx hb dJ6_bitCount_0f7a4_17 rfl ?_
  refine lv_ldcw (v := 858993459) hx hb hown (ht _ mw_33_0) dJ6_bitCount_0f7a4_18 ?_
  refine lv_iand hx hb dJ6_bitCount_0f7a4_21 ?_
  refine lv_iadd hx hb dJ6_bitCount_0f7a4_22 ?_
  refine lv_topi (fun y23 ey23 => ?_)
  replace h := h y23 ey23
  refine lv_istore_n (lv' := [(0, .int y23)]) hx hb dJ6_bitCount_0f7a4_23 rfl hl (by decide) rfl (fun ls hl => ?_)
  refine lv_iload_n hx hb dJ6_bitCount_0f7a4_24 rfl (lv_at hl 0 rfl) ?_
  refine lv_iload_n hx hb dJ6_bitCount_0f7a4_25 rfl (lv_at hl 0 rfl) ?_
  refine lv_iconst (v := 4) hx hb dJ6_bitCount_0f7a4_26 (by decide) ?_
  refine lv_iushr (v := ((y23).toUInt32 >>> (((4 : Int32)).toUInt32 &&& Int32.toUInt32 31)).toInt32) hx hb dJ6_bitCount_0f7a4_27 rfl ?_
  refine lv_iadd hx hb dJ6_bitCount_0f7a4_28 ?_
  refine lv_ldcw (v := 252645135) hx hb hown (ht _ mw_33_1) dJ6_bitCount_0f7a4_29 ?_
  refine lv_iand hx hb dJ6_bitCount_0f7a4_32 ?_
  refine lv_topi (fun y33 ey33 => ?_)
  replace h := h y33 ey33
  refine lv_istore_n (lv' := [(0, .int y33)]) hx hb dJ6_bitCount_0f7a4_33 rfl hl (by decide) rfl (fun ls hl => ?_)
  refine lv_iload_n hx hb dJ6_bitCount_0f7a4_34 rfl (lv_at hl 0 rfl) ?_
  refine lv_iload_n hx hb dJ6_bitCount_0f7a4_35 rfl (lv_at hl 0 rfl) ?_
  refine lv_bipush (v := 8) hx hb dJ6_bitCount_0f7a4_36 (by decide) ?_
  refine lv_iushr (v := ((y33).toUInt32 >>> (((8 : Int32)).toUInt32 &&& Int32.toUInt32 31)).toInt32) hx hb dJ6_bitCount_0f7a4_38 rfl ?_
  refine lv_iadd hx hb dJ6_bitCount_0f7a4_39 ?_
  refine lv_topi (fun y40 ey40 => ?_)
  replace h := h y40 ey40
  refine lv_istore_n (lv' := [(0, .int y40)]) hx hb dJ6_bitCount_0f7a4_40 rfl hl (by decide) rfl (fun ls hl => ?_)
  refine lv_iload_n hx hb dJ6_bitCount_0f7a4_41 rfl (lv_at hl 0 rfl) ?_
  refine lv_iload_n hx hb dJ6_bitCount_0f7a4_42 rfl (lv_at hl 0 rfl) ?_
  refine lv_bipush (v := 16) hx hb dJ6_bitCount_0f7a4_43 (by decide) ?_
  refine lv_iushr (v := ((y40).toUInt32 >>> (((16 : Int32)).toUInt32 &&& Int32.toUInt32 31)).toInt32) hx hb dJ6_bitCount_0f7a4_45 rfl ?_
  refine lv_iadd hx hb dJ6_bitCount_0f7a4_46 ?_
  refine lv_topi (fun y47 ey47 => ?_)
  replace h := h y47 ey47
  refine lv_istore_n (lv' := [(0, .int y47)]) hx hb dJ6_bitCount_0f7a4_47 rfl hl (by decide) rfl (fun ls hl => ?_)
  refine lv_iload_n hx hb dJ6_bitCount_0f7a4_48 rfl (lv_at hl 0 rfl) ?_
  refine lv_bipush (v := 63) hx hb dJ6_bitCount_0f7a4_49 (by decide) ?_
  refine lv_iand hx hb dJ6_bitCount_0f7a4_51 ?_
  exact ret _ () _ _ _ _ dJ6_bitCount_0f7a4_52 h hP hD hS
