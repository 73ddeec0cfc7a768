/-! the law from its entry: the constants, the classes, the two objects -/
theorem upd_start (f : tF) (v : Int32) : upd (startS f) 2 v = startS (upd f 2 v) := by
  funext k
  unfold startS upd
  by_cases h : k = 2
  · simp [h]
  · simp [h]
theorem j_init : p_X6_init (fun F Fn An Ft At Fk Ak Fp Ap Fb Ab Fd Ad Ff Af fr gsh gsv fs => p_X7_init (fun FM AM => LI F Fn An Fk Ak Fp Ap Ff Af fr gsh gsv fs FM AM [])) := by
  have h0 : HR (upd (fun _ => 0) 12 (1 : Int32)) (fun _ _ => 0) (upd (fun _ => 0) 2 (1 : Int32)) := by
    refine ⟨⟨rfl, rfl, rfl, rfl, rfl⟩, fun k hk => ?_, fun k hk => ?_, fun k hk => ?_, fun k hk => ?_⟩
    · rw [pk_un (by omega)]
    · rw [pk_un (by omega)]
    · rw [pk_un (by omega)]
    · have : nS (upd (fun _ => 0) 2 (1 : Int32)) = 0 := by decide
      omega
  unfold p_X6_init p_X2_init
  refine s_X2_startOver h0 (fun Fn An hr => s_X2_startOver h0 (fun Ft At _ => s_X2_startOver h0 (fun Fk Ak _ => ?_)))
  unfold p_X3_init p_X0_init p_X1_init p_X4_init p_X7_init
  refine s_X7_begins (fun k _ => rfl) (fun A' t e => ?_)
  have e0 : va_up A' 0 (upd (A' 0) 2 (1 : Int32)) 0 = startS (upd (fun _ => 0) 2 (1 : Int32)) := by
    rw [va_up_self, e, upd_start]; rfl
  have K : ∀ k, k ≠ 0 → k ≠ 16 → ∀ j, va_up A' 0 (upd (A' 0) 2 (1 : Int32)) k j = 0 := fun k h1 h2 j => by
    rw [va_up_ne _ _ h1, t k h1, va_up_ne _ _ h2]
  refine ⟨⟨?_, ?_, ?_, fun k _ => K 2 (by omega) (by omega) k, fun k _ => K 3 (by omega) (by omega) k⟩, ⟨bo_0, rfl, fun k _ => K 1 (by omega) (by omega) k, fun w => absurd w (by decide)⟩, ⟨0, by omega, rfl, rfl, fun k hk => absurd hk (by omega)⟩, ⟨0, by omega, rfl, rfl, fun k hk => absurd hk (by omega)⟩, ⟨0, by omega, rfl, rfl, fun k hk => absurd hk (by omega)⟩, ⟨fun _ => none, fun i _ j _ k w => absurd w (by simp), fun i hi => Or.inl ⟨rfl, rfl, ?_⟩⟩, fun i hi => Or.inl ⟨rfl, ?_, K 19 (by omega) (by omega) i⟩⟩
  · rw [e0]; exact hr
  · rw [e0]; exact OkS.start _
  · rw [e0]; exact Z53.start _
  · rw [va_up_ne _ _ (by omega), t 16 (by omega), va_up_self]
    rcases (show i = 0 ∨ i = 1 ∨ i = 2 ∨ i = 3 by omega) with rfl | rfl | rfl | rfl <;> rfl
  · rcases (show i = 0 ∨ i = 1 ∨ i = 2 ∨ i = 3 by omega) with rfl | rfl | rfl | rfl <;> rfl
theorem strC_start {p : Program} {s : State} {m : MethodId} {meth : Method} {c : Code} {b L : Nat} {xs : Nat → Int32} (C0 : lw_At p s m meth c b L xs) : ∃ adK adV : Nat → Nat, strC adK adV (fun q : Nat => s.heap.size ≤ q) s := by
  obtain ⟨hx, hb, hr, hml, hown, hts, hX, hbl, hlocks, hgv⟩ := id C0
  have hA0 : ∀ a : Nat, a < s.heap.size → ¬ (fun q : Nat => s.heap.size ≤ q) a := fun a h => Nat.not_le.mpr h
  have hq := flat_of_before _ hgv
  obtain ⟨adK, adV, hS, hT⟩ := vk_Sof (args := #[Value.ref b]) (N := sN) (tm := sTm) (len := sLen) (byt := sByt) (A := fun q : Nat => s.heap.size ≤ q) (by decide) (fun i hi => hq _ (mx_ex i hi)) (fun i hi => hq _ (mx_co i hi)) (fun i hi => hq _ (mx_ar i hi)) (fun i hi => hq _ (mx_le i hi)) (fun i hi j hj => hq _ (mx_el i hi j hj)) (fun i j hi hj ne => by
    rcases Nat.lt_or_gt_of_ne ne with w | w
    · exact Or.inl (hq _ (mx_ne j hj i w))
    · exact Or.inr (hq _ (mx_ne i hi j w))) hA0
  refine ⟨adK, adV, ⟨hS, fun i hi => vk_R.of (hts _ (mx_sr i hi)) (hT i hi)⟩, va_Nw.of rfl (hts _ (by decide +kernel)), va_Nw.of rfl (hts _ (by decide +kernel)), ?_, ?_, va_AO.of (hts _ (by decide +kernel))⟩
  · exact va_Zof (hts _ (by decide +kernel)) (hts _ (by decide +kernel)) (va_eqt (hq _ (by decide +kernel))) hA0
  · exact va_Zqof (hts _ (by decide +kernel)) (hts _ (by decide +kernel)) (hq _ (by decide +kernel)) hA0
section LAWI
variable {p : Program} {l : Launch} {e : Env} {R : Room} {s : State} {m : MethodId} {args : Array Value} {below : List Frame} {meth : Method} {c : Code} {H : Heap} {locs : List Loc} {cells slots : Nat} {Q : State → Prop} {pc : Nat} {ls : Array Slot}
variable {own : String} {cc : ByteArray} {nL : Nat} {D : va_G} {cI cZ cR : ClassId} {adK adV : Nat → Nat} {A9 : Nat → Prop} {y : MethodName} {cy : ByteArray} {ny n ix : Nat} {ret : Option FieldType} {rm : Room} {ws0 tl : va_W} {S : Type} {wd : S → va_W}
theorem Q_I {mc ms : Nat} {K : S → Prop} (X : CX p s m args c own cc nL D cI cZ cR adK adV A9) (hP : va_P D vwCl (ws0 ++ tl) H) (hD : va_D A9 (ws0 ++ tl)) (hS : va_S A9 s.heap H locs) {b : Nat} (As rest : List Value) (hM : MVc l D cI cZ cR adK adV y cy ny rm (.ref b :: As) ws0 H.size mc ms K wd)
    (hc : CalI y cy ny n) (hl : Cond.methodLink own ix y ∈ wsL_law) (hn : As.length = n) (hm : rm.cells = mc ∧ rm.slots = ms) (hRm : rm.frames + 1 ≤ R.frames ∧ 8 + (ny + 11) + rm.locals ≤ R.locals) (hls : ls.size = nL)
    {st : List Value} (hst : st = As.reverse ++ .ref b :: rest) (hw : (rest.map fun v => v.category).sum ≤ 8) (hcs : cells + mc ≤ R.cells ∧ slots + ms ≤ R.slots) (hdg : decode cc pc = .ok (.invokespecial ix, 3))
    (kk : ∀ (u : S) (H1 : Heap) (locs1 : List Loc), K u → va_P D vwCl (wd u ++ tl) H1 → va_D A9 (wd u ++ tl) → va_S A9 s.heap H1 locs1 → W p l e R s m args below meth c H1 locs1 (cells + mc) (slots + ms) Q (F0 m (pc + 3) ls rest)) :
    W p l e R s m args below meth c H locs cells slots Q (F0 m pc ls st) := by
  subst hst
  have ht := X.2.2.2.1
  obtain ⟨hpr, hF⟩ := preT X hP hD hS (.ref b :: As)
  obtain ⟨q1, q2, q3, q4, q5⟩ := hc
  refine va_callv (va_runI (As := As) (rest := rest) ⟨X.1, X.2.1, X.2.2.1, X.2.2.2.2.1, X.2.2.2.1⟩ hM (cwI n ht (goodIn_A q1) rfl hm.1 hm.2 (ht _ q2) (ht _ hl) (ht _ q3) q4 q5 hRm) hpr rfl hn hls rfl (lv_room hw) hdg hcs) hS (fun q _ h => hF q h) hF (fun u t H1 locs1 ht hvm hk hB hz1 hk1 hS1 => ?_)
  obtain ⟨hP2, hD2⟩ := aftT hP hD hF ht hB hk1
  exact kk u H1 locs1 hk hP2 hD2 hS1
end LAWI
set_option maxHeartbeats 4000000 in
set_option maxRecDepth 100000 in
/-- THE LAW, from its entry -/
theorem whole_start {p : Program} {e : Env} {s : State} {m : MethodId} {below : List Frame} {meth : Method} {c : Code} (l : Launch) (hflags : l.flags = flags0) {b L : Nat} {xs : Nat → Int32} (hL : L ≤ 2560) (C0 : lw_At p s m meth c b L xs) : W p l e room_1 s m #[Value.ref b] below meth c s.heap [] 0 0 (lw_Z below #[Value.ref b] s) (entryFrame m ([Value.ref b] : List Value).toArray 4) := by
  obtain ⟨hx, hb, hr, hml, hown, hts, hX, hbl, hlocks, hgv⟩ := id C0
  have ht : ∀ w ∈ wsL_law, w.before #[Value.ref b] s = true := fun w hw => hts w (wsL_law_in w hw)
  obtain ⟨adK, adV, hE⟩ := strC_start C0
  obtain ⟨c0, i0, k0⟩ := u_known (C := RX0) (T := TX0) (N := 4) (n := 4) ht inlX0 (ht _ mw_2_1)
  obtain ⟨c1, i1, k1⟩ := u_known (C := RX1) (T := TX1) (N := 4) (n := 4) ht inlX1 (ht _ mw_2_5)
  obtain ⟨c2, i2, k2⟩ := u_known (C := RX2) (T := TX2) (N := 13) (n := 13) ht inlX2 (ht _ mw_1_14)
  obtain ⟨c3, i3, k3⟩ := u_known (C := RX3) (T := TX3) (N := 4) (n := 4) ht inlX3 (ht _ mw_1_21)
  obtain ⟨c4, i4, k4⟩ := u_known (C := RX4) (T := TX4) (N := 6) (n := 6) ht inlX4 (ht _ mw_2_9)
  obtain ⟨c5, i5, k5⟩ := u_known (C := RX5) (T := TX5) (N := 2) (n := 2) ht inlX5 (ht _ mw_43_18)
  obtain ⟨c6, i6, k6⟩ := u_known (C := RX6) (T := TX6) (N := 13) (n := 13) ht inlX6 (ht _ mw_1_1)
  obtain ⟨c7, i7, k7⟩ := u_known (C := RX7) (T := TX7) (N := 28) (n := 28) ht inlX7 (ht _ mw_1_4)
  obtain ⟨cI, kI, mI, fI, gI, hI0⟩ := Cond.arrayClass_spec (ht _ mw_2_12)
  obtain ⟨cZ, kZ, mZ, fZ, gZ, hZ0⟩ := Cond.arrayClass_spec (ht _ mw_4_12)
  obtain ⟨mR, cR, kR, fR, -, gR, hR0, nR⟩ := Cond.arrayOver_spec (va_AO.use (A := #[Value.ref b]) hE.2.2.2.2.2)
  obtain ⟨dC, dI, hKc⟩ : ∃ (dC : Nat → ClassId) (dI : Nat → Nat → Nat), ∀ (k : Nat) (q : vw_C), vwCl[k]? = some q → u_Kn s q.1 q.2.1 q.2.2 (dC k) (dI k) := by
    refine ⟨fun k => [c0, c1, c2, c3, c4, c5, c6, c7].getD k c0, fun k => [i0, i1, i2, i3, i4, i5, i6, i7].getD k i0, ?_⟩
    intro k q hq
    match k, hq with
    | 0, hq => cases hq; exact k0
    | 1, hq => cases hq; exact k1
    | 2, hq => cases hq; exact k2
    | 3, hq => cases hq; exact k3
    | 4, hq => cases hq; exact k4
    | 5, hq => cases hq; exact k5
    | 6, hq => cases hq; exact k6
    | 7, hq => cases hq; exact k7
    | k + 8, hq => simp [vwCl] at hq
  have hK : va_K (dC, dI) vwCl (tyL cI cZ cR) s := by
    refine ⟨hKc, fun k q hq => ?_⟩
    match k, hq with
    | 0, hq => cases hq; exact ⟨fun n z => ⟨fun k h => (by cases h), kI, gI, mI, hI0⟩, fI⟩
    | 1, hq => cases hq; exact ⟨fun n z => ⟨fun k h => (by cases h), kZ, gZ, mZ, hZ0⟩, fZ⟩
    | 2, hq => cases hq; exact ⟨fun n z => ⟨fun k h => (by cases h), kR, gR, mR, hR0⟩, kR, mR, gR, hR0, fR, nR⟩
    | k + 3, hq => simp [tyL] at hq
  have hA : ∀ q : Nat, s.heap.size ≤ q → (fun q : Nat => s.heap.size ≤ q) q := fun _ h => h
  have hbA : ¬ (fun q : Nat => s.heap.size ≤ q) b := Nat.not_le.mpr hbl
  have X : CX p s m #[Value.ref b] c "DogVotesLaw" cL_law 4 (dC, dI) cI cZ cR adK adV (fun q : Nat => s.heap.size ≤ q) := ⟨hx, hb, hml, ht, hown, hK, hA, hE⟩
  have hS : va_S (fun q : Nat => s.heap.size ≤ q) s.heap s.heap [] := va_S.rf
  have hP : va_P (dC, dI) vwCl [] s.heap := fun k q h => by simp at h
  have hD : va_D (fun q : Nat => s.heap.size ≤ q) [] := ⟨fun i j p q h => by simp at h, fun k q h => by simp at h⟩
  have hl := lv_entry ([.ref b]) (n := 4) (Nat.le_of_ble_eq_true rfl)
  rw [lg_entry_eq]
  generalize (lg_sl ([.ref b]) ++ List.replicate (4 - (lg_sl ([.ref b])).length) Slot.unset).toArray = ls at hl ⊢
  have hl : lv_has ls 4 [(0, .ref b)] := hl
  refine va_new (ci := 6) (fs := [.null, .null, .null, .int 0, .null, .null, .null, .null, .null, .int 0, .null, .null, .null]) (C := RX6) (T := TX6) (N := 13) (own := "DogVotesLaw") hx hb ht inlX6 tyX6 tyX6_ok hown (ht _ mw_1_0) (ht _ mw_1_1) (ht _ mw_1_2) hK hP hD hS hA rfl (by intro j hj; rcases (show j = 0 ∨ j = 1 ∨ j = 2 ∨ j = 3 ∨ j = 4 ∨ j = 5 ∨ j = 6 ∨ j = 7 ∨ j = 8 ∨ j = 9 ∨ j = 10 ∨ j = 11 ∨ j = 12 by omega) with rfl | rfl | rfl | rfl | rfl | rfl | rfl | rfl | rfl | rfl | rfl | rfl | rfl <;> rfl) (Nat.le_of_ble_eq_true rfl) (Nat.le_of_ble_eq_true rfl) dL_law_0 (fun o H hP hD hS => ?_)
  have hP : va_P (dC, dI) vwCl ([(o, .inr (6, [.null, .null, .null, .int 0, .null, .null, .null, .null, .null, .int 0, .null, .null, .null]))] ++ []) H := hP
  have hD : va_D (fun q : Nat => s.heap.size ≤ q) ([(o, .inr (6, [.null, .null, .null, .int 0, .null, .null, .null, .null, .null, .int 0, .null, .null, .null]))] ++ []) := hD
  refine lv_dup hx hb dL_law_3 rfl ?_
  refine Q_I X hP hD hS [] [.ref o] (w_X6_init l (dC, dI) cI cZ cR adK adV _ o _ j_init) cal_X6_init mw_1_7 rfl ⟨rfl, rfl⟩ ⟨Nat.le_of_ble_eq_true rfl, Nat.le_of_ble_eq_true rfl⟩ hl.1 rfl (Nat.le_of_ble_eq_true rfl) ⟨Nat.le_of_ble_eq_true rfl, Nat.le_of_ble_eq_true rfl⟩ dL_law_4 (fun u H locs hk hP hD hS => ?_)
  obtain ⟨q, F, qn, Fn, An, qt, Ft, At, qk, Fk, Ak, qp, Fp, Ap, qb, Fb, Ab, qd, Fd, Ad, qf, Ff, Af, fr, gsh, gsv, fs⟩ := u
  have hk : p_X7_init (fun FM AM => LI F Fn An Fk Ak Fp Ap Ff Af fr gsh gsv fs FM AM []) := hk
  rw [List.append_nil] at hP hD
  have hP : va_P (dC, dI) vwCl (wX6 o q F ++ wX2 cI cZ (q 0) qn Fn An ++ wX2 cI cZ (q 1) qt Ft At ++ wX2 cI cZ (q 2) qk Fk Ak ++ wX3 cI cZ (q 4) qp Fp Ap ++ wX0 cI cZ (q 5) qb Fb Ab ++ wX1 cI cZ (q 6) qd Fd Ad ++ wX4 cI cZ (q 7) qf Ff Af ++ wI cI (q 8) 30 fr ++ wQ cR (q 10) gsh ++ wQ cR (q 11) gsv ++ wI cI (q 12) 4 fs) H := hP
  have hD : va_D (fun q : Nat => s.heap.size ≤ q) (wX6 o q F ++ wX2 cI cZ (q 0) qn Fn An ++ wX2 cI cZ (q 1) qt Ft At ++ wX2 cI cZ (q 2) qk Fk Ak ++ wX3 cI cZ (q 4) qp Fp Ap ++ wX0 cI cZ (q 5) qb Fb Ab ++ wX1 cI cZ (q 6) qd Fd Ad ++ wX4 cI cZ (q 7) qf Ff Af ++ wI cI (q 8) 30 fr ++ wQ cR (q 10) gsh ++ wQ cR (q 11) gsv ++ wI cI (q 12) 4 fs) := hD
  refine lv_astore_n (lv' := [(1, .ref o), (0, .ref b)]) hx hb dL_law_7 rfl hl (by decide) rfl (fun ls hl => ?_)
  refine va_new (ci := 7) (fs := [.null, .null, .null, .null, .int 0, .null, .int 0, .int 0, .int 0, .int 0, .int 0, .int 0, .null, .null, .null, .int 0, .null, .null, .null, .null, .null, .null, .null, .int 0, .int 0, .int 0, .int 0, .int 0]) (C := RX7) (T := TX7) (N := 28) (own := "DogVotesLaw") hx hb ht inlX7 tyX7 tyX7_ok hown (ht _ mw_1_3) (ht _ mw_1_4) (ht _ mw_1_5) hK hP hD hS hA rfl (by intro j hj; rcases (show j = 0 ∨ j = 1 ∨ j = 2 ∨ j = 3 ∨ j = 4 ∨ j = 5 ∨ j = 6 ∨ j = 7 ∨ j = 8 ∨ j = 9 ∨ j = 10 ∨ j = 11 ∨ j = 12 ∨ j = 13 ∨ j = 14 ∨ j = 15 ∨ j = 16 ∨ j = 17 ∨ j = 18 ∨ j = 19 ∨ j = 20 ∨ j = 21 ∨ j = 22 ∨ j = 23 ∨ j = 24 ∨ j = 25 ∨ j = 26 ∨ j = 27 by omega) with rfl | rfl | rfl | rfl | rfl | rfl | rfl | rfl | rfl | rfl | rfl | rfl | rfl | rfl | rfl | rfl | rfl | rfl | rfl | rfl | rfl | rfl | rfl | rfl | rfl | rfl | rfl | rfl <;> rfl) (Nat.le_of_ble_eq_true rfl) (Nat.le_of_ble_eq_true rfl) dL_law_8 (fun om H hP hD hS => ?_)
  have hP := hP.perm List.perm_append_comm
  have hD := hD.perm List.perm_append_comm
  refine lv_dup hx hb dL_law_11 rfl ?_
  refine Q_I X hP hD hS [] [.ref om] (w_X7_init l (dC, dI) cI cZ cR adK adV _ om _ hk) cal_X7_init mw_5_3 rfl ⟨rfl, rfl⟩ ⟨Nat.le_of_ble_eq_true rfl, Nat.le_of_ble_eq_true rfl⟩ hl.1 rfl (Nat.le_of_ble_eq_true rfl) ⟨Nat.le_of_ble_eq_true rfl, Nat.le_of_ble_eq_true rfl⟩ dL_law_12 (fun v H locs hk hP hD hS => ?_)
  obtain ⟨qm, FM, AM⟩ := v
  have hk : LI F Fn An Fk Ak Fp Ap Ff Af fr gsh gsv fs FM AM [] := hk
  have hP := hP.perm List.perm_append_comm
  have hD := hD.perm List.perm_append_comm
  have e9 : (WW cI cZ cR o q qn qt qk qp qb qd qf om qm F Fn An Ft At Fk Ak Fp Ap Fb Ab Fd Ad Ff Af fr gsh gsv fs FM AM ++ [wRows cI cZ []]).flatten = (wX6 o q F ++ wX2 cI cZ (q 0) qn Fn An ++ wX2 cI cZ (q 1) qt Ft At ++ wX2 cI cZ (q 2) qk Fk Ak ++ wX3 cI cZ (q 4) qp Fp Ap ++ wX0 cI cZ (q 5) qb Fb Ab ++ wX1 cI cZ (q 6) qd Fd Ad ++ wX4 cI cZ (q 7) qf Ff Af ++ wI cI (q 8) 30 fr ++ wQ cR (q 10) gsh ++ wQ cR (q 11) gsv ++ wI cI (q 12) 4 fs) ++ wX7 cI cZ om qm FM AM := rfl
  refine lv_astore_n (lv' := [(2, .ref om), (1, .ref o), (0, .ref b)]) hx hb dL_law_15 rfl hl (by decide) rfl (fun ls hl => ?_)
  refine lv_iconst (v := 0) hx hb dL_law_16 (by decide) ?_
  refine lv_istore_n (lv' := [(3, .int 0), (2, .ref om), (1, .ref o), (0, .ref b)]) hx hb dL_law_17 rfl hl (by decide) rfl (fun ls hl => ?_)
  refine W.widen (k := 60) (n := 1300) (by omega) (by omega) ?_
  exact law_loop X hr hlocks (fun _ h => h) hX hbl hbA hL (L + 1) 0 60 1300 (by omega) (Nat.zero_le _) (by omega) (by omega) F Fn An Ft At Fk Ak Fp Ap Fb Ab Fd Ad Ff Af fr gsh gsv fs FM AM [] H locs ls hk (by rw [e9]; exact hP) (by rw [e9]; exact hD) hS (lv_sub hl [3, 2, 1, 0] rfl)
