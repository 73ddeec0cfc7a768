/-! the switch, the law's loop -/
section LAWS
variable {p : Program} {l : Launch} {e : Env} {s : State} {m : MethodId} {args : Array Value} {below : List Frame} {meth : Method} {c : Code} {cells slots : Nat} {Q : State → Prop} {ls : Array Slot} {D : va_G} {cI cZ cR : ClassId} {adK adV : Nat → Nat} {A9 : Nat → Prop} {b L i : Nat} {xs : Nat → Int32} {o : Nat} {q qn qt qk qp qb qd qf : Nat → Nat} {om : Nat} {qm : Nat → Nat}
set_option maxHeartbeats 4000000 in
set_option maxRecDepth 100000 in
theorem law_switch {F : tF} {Fn : tF} {An : tA} {Ft : tF} {At : tA} {Fk : tF} {Ak : tA} {Fp : tF} {Ap : tA} {Fb : tF} {Ab : tA} {Fd : tF} {Ad : tA} {Ff : tF} {Af : tA} {fr : tF} {gsh : tG} {gsv : tG} {fs : tF} {FM : tF} {AM : tA} {RL : List RowE} {H : Heap} {locs : List Loc} (X : CX p s m args c "DogVotesLaw" cL_law 4 D cI cZ cR adK adV A9) (hX : va_X b L xs s s.heap) (hbl : b < s.heap.size) (hbA : ¬ A9 b) (hcs : cells + 2 ≤ 600000 ∧ slots + 42 ≤ 7302249) (hi : i + 5 ≤ L) (hL : L ≤ 2560) (kk : LKT p l e s m args below meth c Q D cI cZ cR A9 o q qn qt qk qp qb qd qf om qm (cells + 2) (slots + 42) ls) (hI : LI F Fn An Fk Ak Fp Ap Ff Af fr gsh gsv fs FM AM RL) (hP : va_P D vwCl (WW cI cZ cR o q qn qt qk qp qb qd qf om qm F Fn An Ft At Fk Ak Fp Ap Fb Ab Fd Ad Ff Af fr gsh gsv fs FM AM ++ [wRows cI cZ RL]).flatten H) (hD : va_D A9 (WW cI cZ cR o q qn qt qk qp qb qd qf om qm F Fn An Ft At Fk Ak Fp Ap Fb Ab Fd Ad Ff Af fr gsh gsv fs FM AM ++ [wRows cI cZ RL]).flatten) (hS : va_S A9 s.heap H locs) (hl : lv_has ls 4 [(0, .ref b), (1, .ref o), (2, .ref om), (3, .int (nI i))]) : W p l e room_1 s m args below meth c H locs cells slots Q (F0 m 26 ls []) := by
  obtain ⟨hx, hb, hml, ht, hown, hK, hA, hE⟩ := id X
  refine lv_aload_n hx hb dL_law_26 rfl (lv_at hl 0 rfl) ?_
  refine lv_iload_n hx hb dL_law_27 rfl (lv_at hl 3 rfl) ?_
  refine va_sld hx hb hX hbl hbA hS (vp_in_nI (by omega) (by omega)) dL_law_28 ?_
  refine lv_bipush (v := 63) hx hb dL_law_29 (by decide) ?_
  refine lv_iand hx hb dL_law_31 ?_
  obtain ⟨v, hv, ev⟩ := pk_andE (xs (nI i).toNatClampNeg) (m := 63) 6 (by decide)
  rw [ev]
  rcases Nat.lt_or_ge v 54 with h54 | h54
  · match v, h54 with
    | 0, _ => exact lv_tableIn (off := 232) (tgt := 264) hx hb dL_law_32 (by decide) (by decide) (by rfl) (by decide) (lc_feed X hX hbl hbA hcs hi hL kk hI hP hD hS hl)
    | 1, _ => exact lv_tableIn (off := 295) (tgt := 327) hx hb dL_law_32 (by decide) (by decide) (by rfl) (by decide) (lc_hill X hX hbl hbA hcs hi hL kk hI hP hD hS hl)
    | 2, _ => exact lv_tableIn (off := 308) (tgt := 340) hx hb dL_law_32 (by decide) (by decide) (by rfl) (by decide) (lc_set X hX hbl hbA hcs hi hL kk hI hP hD hS hl)
    | 3, _ => exact lv_tableIn (off := 341) (tgt := 373) hx hb dL_law_32 (by decide) (by decide) (by rfl) (by decide) (lc_lawOf X hX hbl hbA hcs hi hL kk hI hP hD hS hl)
    | 4, _ => exact lv_tableIn (off := 364) (tgt := 396) hx hb dL_law_32 (by decide) (by decide) (by rfl) (by decide) (lc_sheep X hX hbl hbA hcs hi hL kk hI hP hD hS hl)
    | 5, _ => exact lv_tableIn (off := 417) (tgt := 449) hx hb dL_law_32 (by decide) (by decide) (by rfl) (by decide) (lc_of X hX hbl hbA hcs hi hL kk hI hP hD hS hl)
    | 6, _ => exact lv_tableIn (off := 450) (tgt := 482) hx hb dL_law_32 (by decide) (by decide) (by rfl) (by decide) (lc_worth X hX hbl hbA hcs hi hL kk hI hP hD hS hl)
    | 7, _ => exact lv_tableIn (off := 483) (tgt := 515) hx hb dL_law_32 (by decide) (by decide) (by rfl) (by decide) (lc_tames X hX hbl hbA hcs hi hL kk hI hP hD hS hl)
    | 8, _ => exact lv_tableIn (off := 506) (tgt := 538) hx hb dL_law_32 (by decide) (by decide) (by rfl) (by decide) (lc_mind X hX hbl hbA hcs hi hL kk hI hP hD hS hl)
    | 9, _ => exact lv_tableIn (off := 549) (tgt := 581) hx hb dL_law_32 (by decide) (by decide) (by rfl) (by decide) (lc_fear X hX hbl hbA hcs hi hL kk hI hP hD hS hl)
    | 10, _ => exact lv_tableIn (off := 582) (tgt := 614) hx hb dL_law_32 (by decide) (by decide) (by rfl) (by decide) (lc_look X hX hbl hbA hcs hi hL kk hI hP hD hS hl)
    | 11, _ => exact lv_tableIn (off := 615) (tgt := 647) hx hb dL_law_32 (by decide) (by decide) (by rfl) (by decide) (lc_place X hX hbl hbA hcs hi hL kk hI hP hD hS hl)
    | 12, _ => exact lv_tableIn (off := 648) (tgt := 680) hx hb dL_law_32 (by decide) (by decide) (by rfl) (by decide) (lc_grow X hX hbl hbA hcs hi hL kk hI hP hD hS hl)
    | 13, _ => exact lv_tableIn (off := 691) (tgt := 723) hx hb dL_law_32 (by decide) (by decide) (by rfl) (by decide) (lc_flock X hX hbl hbA hcs hi hL kk hI hP hD hS hl)
    | 14, _ => exact lv_tableIn (off := 714) (tgt := 746) hx hb dL_law_32 (by decide) (by decide) (by rfl) (by decide) (lc_call X hX hbl hbA hcs hi hL kk hI hP hD hS hl)
    | 15, _ => exact lv_tableIn (off := 737) (tgt := 769) hx hb dL_law_32 (by decide) (by decide) (by rfl) (by decide) (lc_winner X hX hbl hbA hcs hi hL kk hI hP hD hS hl)
    | 16, _ => exact lv_tableIn (off := 750) (tgt := 782) hx hb dL_law_32 (by decide) (by decide) (by rfl) (by decide) (lc_days X hX hbl hbA hcs hi hL kk hI hP hD hS hl)
    | 17, _ => exact lv_tableIn (off := 773) (tgt := 805) hx hb dL_law_32 (by decide) (by decide) (by rfl) (by decide) (lc_seed X hX hbl hbA hcs hi hL kk hI hP hD hS hl)
    | 18, _ => exact lv_tableIn (off := 796) (tgt := 828) hx hb dL_law_32 (by decide) (by decide) (by rfl) (by decide) (lc_day X hX hbl hbA hcs hi hL kk hI hP hD hS hl)
    | 19, _ => exact lv_tableIn (off := 809) (tgt := 841) hx hb dL_law_32 (by decide) (by decide) (by rfl) (by decide) (lc_strays X hX hbl hbA hcs hi hL kk hI hP hD hS hl)
    | 20, _ => exact lv_tableIn (off := 832) (tgt := 864) hx hb dL_law_32 (by decide) (by decide) (by rfl) (by decide) (lc_state X hX hbl hbA hcs hi hL kk hI hP hD hS hl)
    | 21, _ => exact lv_tableIn (off := 855) (tgt := 887) hx hb dL_law_32 (by decide) (by decide) (by rfl) (by decide) (lc_where X hX hbl hbA hcs hi hL kk hI hP hD hS hl)
    | 22, _ => exact lv_tableIn (off := 878) (tgt := 910) hx hb dL_law_32 (by decide) (by decide) (by rfl) (by decide) (lc_comes X hX hbl hbA hcs hi hL kk hI hP hD hS hl)
    | 23, _ => exact lv_tableIn (off := 901) (tgt := 933) hx hb dL_law_32 (by decide) (by decide) (by rfl) (by decide) (lc_calm X hX hbl hbA hcs hi hL kk hI hP hD hS hl)
    | 24, _ => exact lv_tableIn (off := 914) (tgt := 946) hx hb dL_law_32 (by decide) (by decide) (by rfl) (by decide) (lc_scared X hX hbl hbA hcs hi hL kk hI hP hD hS hl)
    | 25, _ => exact lv_tableIn (off := 937) (tgt := 969) hx hb dL_law_32 (by decide) (by decide) (by rfl) (by decide) (lc_callFor X hX hbl hbA hcs hi hL kk hI hP hD hS hl)
    | 26, _ => exact lv_tableIn (off := 970) (tgt := 1002) hx hb dL_law_32 (by decide) (by decide) (by rfl) (by decide) (lc_kindFor X hX hbl hbA hcs hi hL kk hI hP hD hS hl)
    | 27, _ => exact lv_tableIn (off := 1013) (tgt := 1045) hx hb dL_law_32 (by decide) (by decide) (by rfl) (by decide) (lc_earFor X hX hbl hbA hcs hi hL kk hI hP hD hS hl)
    | 28, _ => exact lv_tableIn (off := 1056) (tgt := 1088) hx hb dL_law_32 (by decide) (by decide) (by rfl) (by decide) (lc_looksFor X hX hbl hbA hcs hi hL kk hI hP hD hS hl)
    | 29, _ => exact lv_tableIn (off := 1079) (tgt := 1111) hx hb dL_law_32 (by decide) (by decide) (by rfl) (by decide) (lc_deafFor X hX hbl hbA hcs hi hL kk hI hP hD hS hl)
    | 30, _ => exact lv_tableIn (off := 1102) (tgt := 1134) hx hb dL_law_32 (by decide) (by decide) (by rfl) (by decide) (lc_beats X hX hbl hbA hcs hi hL kk hI hP hD hS hl)
    | 31, _ => exact lv_tableIn (off := 1135) (tgt := 1167) hx hb dL_law_32 (by decide) (by decide) (by rfl) (by decide) (lc_asked X hX hbl hbA hcs hi hL kk hI hP hD hS hl)
    | 32, _ => exact lv_tableIn (off := 1158) (tgt := 1190) hx hb dL_law_32 (by decide) (by decide) (by rfl) (by decide) (lc_agenda X hX hbl hbA hcs hi hL kk hI hP hD hS hl)
    | 33, _ => exact lv_tableIn (off := 1191) (tgt := 1223) hx hb dL_law_32 (by decide) (by decide) (by rfl) (by decide) (lc_ring X hX hbl hbA hcs hi hL kk hI hP hD hS hl)
    | 34, _ => exact lv_tableIn (off := 1204) (tgt := 1236) hx hb dL_law_32 (by decide) (by decide) (by rfl) (by decide) (lc_sham X hX hbl hbA hcs hi hL kk hI hP hD hS hl)
    | 35, _ => exact lv_tableIn (off := 1227) (tgt := 1259) hx hb dL_law_32 (by decide) (by decide) (by rfl) (by decide) (lc_power X hX hbl hbA hcs hi hL kk hI hP hD hS hl)
    | 36, _ => exact lv_tableIn (off := 1261) (tgt := 1293) hx hb dL_law_32 (by decide) (by decide) (by rfl) (by decide) (lc_fits X hX hbl hbA hcs hi hL kk hI hP hD hS hl)
    | 37, _ => exact lv_tableIn (off := 1304) (tgt := 1336) hx hb dL_law_32 (by decide) (by decide) (by rfl) (by decide) (lc_odds X hX hbl hbA hcs hi hL kk hI hP hD hS hl)
    | 38, _ => exact lv_tableIn (off := 1348) (tgt := 1380) hx hb dL_law_32 (by decide) (by decide) (by rfl) (by decide) (lc_hope X hX hbl hbA hcs hi hL kk hI hP hD hS hl)
    | 39, _ => exact lv_tableIn (off := 1382) (tgt := 1414) hx hb dL_law_32 (by decide) (by decide) (by rfl) (by decide) (lc_prove X hX hbl hbA hcs hi hL kk hI hP hD hS hl)
    | 40, _ => exact lv_tableIn (off := 1415) (tgt := 1447) hx hb dL_law_32 (by decide) (by decide) (by rfl) (by decide) (lc_row X hX hbl hbA hcs hi hL kk hI hP hD hS hl)
    | 41, _ => exact lv_tableIn (off := 1448) (tgt := 1480) hx hb dL_law_32 (by decide) (by decide) (by rfl) (by decide) (lc_alterRow X hX hbl hbA hcs hi hL kk hI hP hD hS hl)
    | 42, _ => exact lv_tableIn (off := 1491) (tgt := 1523) hx hb dL_law_32 (by decide) (by decide) (by rfl) (by decide) (lc_judge X hX hbl hbA hcs hi hL kk hI hP hD hS hl)
    | 43, _ => exact lv_tableIn (off := 1514) (tgt := 1546) hx hb dL_law_32 (by decide) (by decide) (by rfl) (by decide) (lc_minds X hX hbl hbA hcs hi hL kk hI hP hD hS hl)
    | 44, _ => exact lv_tableIn (off := 1567) (tgt := 1599) hx hb dL_law_32 (by decide) (by decide) (by rfl) (by decide) (lc_sheet X hX hbl hbA hcs hi hL kk hI hP hD hS hl)
    | 45, _ => exact lv_tableIn (off := 1610) (tgt := 1642) hx hb dL_law_32 (by decide) (by decide) (by rfl) (by decide) (lc_put X hX hbl hbA hcs hi hL kk hI hP hD hS hl)
    | 46, _ => exact lv_tableIn (off := 1653) (tgt := 1685) hx hb dL_law_32 (by decide) (by decide) (by rfl) (by decide) (lc_item X hX hbl hbA hcs hi hL kk hI hP hD hS hl)
    | 47, _ => exact lv_tableIn (off := 1696) (tgt := 1728) hx hb dL_law_32 (by decide) (by decide) (by rfl) (by decide) (lc_shelf X hX hbl hbA hcs hi hL kk hI hP hD hS hl)
    | 48, _ => exact lv_tableIn (off := 1739) (tgt := 1771) hx hb dL_law_32 (by decide) (by decide) (by rfl) (by decide) (lc_taken X hX hbl hbA hcs hi hL kk hI hP hD hS hl)
    | 49, _ => exact lv_tableIn (off := 1772) (tgt := 1804) hx hb dL_law_32 (by decide) (by decide) (by rfl) (by decide) (lc_act X hX hbl hbA hcs hi hL kk hI hP hD hS hl)
    | 50, _ => exact lv_tableIn (off := 1815) (tgt := 1847) hx hb dL_law_32 (by decide) (by decide) (by rfl) (by decide) (lc_trace X hX hbl hbA hcs hi hL kk hI hP hD hS hl)
    | 51, _ => exact lv_tableIn (off := 1838) (tgt := 1870) hx hb dL_law_32 (by decide) (by decide) (by rfl) (by decide) (lc_many X hX hbl hbA hcs hi hL kk hI hP hD hS hl)
    | 52, _ => exact lv_tableIn (off := 1861) (tgt := 1893) hx hb dL_law_32 (by decide) (by decide) (by rfl) (by decide) (lc_keep X hX hbl hbA hcs hi hL kk hI hP hD hS hl)
    | 53, _ => exact lv_tableIn (off := 1874) (tgt := 1906) hx hb dL_law_32 (by decide) (by decide) (by rfl) (by decide) (lc_again X hX hbl hbA hcs hi hL kk hI hP hD hS hl)
    | n + 54, h => exact absurd h (by omega)
  · refine lv_tableOut (tgt := 1919) hx hb dL_law_32 (Or.inr (by rw [nI_toInt (by omega)]; omega)) (by decide) ?_
    exact W.widen (k := cells + 2) (n := slots + 42) (by omega) (by omega) (kk F Fn An Ft At Fk Ak Fp Ap Fb Ab Fd Ad Ff Af fr gsh gsv fs FM AM RL H locs hI hP hD hS)
set_option maxHeartbeats 4000000 in
set_option maxRecDepth 100000 in
theorem law_loop (X : CX p s m #[Value.ref b] c "DogVotesLaw" cL_law 4 D cI cZ cR adK adV A9) (hr : meth.sig.returnType = ret) (hlocks : meth.locks = false) (hA9 : ∀ q, A9 q → s.heap.size ≤ q) (hX : va_X b L xs s s.heap) (hbl : b < s.heap.size) (hbA : ¬ A9 b) (hL : L ≤ 2560) : ∀ (n i cells slots : Nat), L < i + n → i ≤ L → cells + 2 * (L - i) + 2 ≤ 600000 → slots + 42 * (L - i) + 42 ≤ 7302249 → ∀ (F : tF) (Fn : tF) (An : tA) (Ft : tF) (At : tA) (Fk : tF) (Ak : tA) (Fp : tF) (Ap : tA) (Fb : tF) (Ab : tA) (Fd : tF) (Ad : tA) (Ff : tF) (Af : tA) (fr : tF) (gsh : tG) (gsv : tG) (fs : tF) (FM : tF) (AM : tA) (RL : List RowE) (H : Heap) (locs : List Loc) (ls : Array Slot), LI F Fn An Fk Ak Fp Ap Ff Af fr gsh gsv fs FM AM RL → va_P D vwCl (WW cI cZ cR o q qn qt qk qp qb qd qf om qm F Fn An Ft At Fk Ak Fp Ap Fb Ab Fd Ad Ff Af fr gsh gsv fs FM AM ++ [wRows cI cZ RL]).flatten H → va_D A9 (WW cI cZ cR o q qn qt qk qp qb qd qf om qm F Fn An Ft At Fk Ak Fp Ap Fb Ab Fd Ad Ff Af fr gsh gsv fs FM AM ++ [wRows cI cZ RL]).flatten → va_S A9 s.heap H locs → lv_has ls 4 [(0, .ref b), (1, .ref o), (2, .ref om), (3, .int (nI i))] → W p l e room_1 s m #[Value.ref b] below meth c H locs cells slots (lw_Z below #[Value.ref b] s) (F0 m 18 ls []) := by
  obtain ⟨hx, hb, hml, ht, hown, hK, hA, hE⟩ := id X
  intro n
  induction n with
  | zero => intro i cells slots h h2; omega
  | succ n ih =>
    intro i cells slots hf hiL hc hs F Fn An Ft At Fk Ak Fp Ap Fb Ab Fd Ad Ff Af fr gsh gsv fs FM AM RL H locs ls hI hP hD hS hl
    refine lv_iload_n hx hb dL_law_18 rfl (lv_at hl 3 rfl) ?_
    refine lv_aload_n hx hb dL_law_19 rfl (lv_at hl 0 rfl) ?_
    refine va_slen hx hb hX hbl hbA hS dL_law_20 ?_
    refine lv_iconst (v := 5) hx hb dL_law_21 (by decide) ?_
    refine lv_isub hx hb dL_law_22 ?_
    refine lv_icmp_gt (tgt := 1925) hx hb dL_law_23 (by decide) (fun c9 => ?_) (fun c9 => ?_)
    · refine va_forget (fun q hq => hA9 _ (hS.2.2 q hq)) ?_
      refine lv_iconst (v := 1) hx hb dL_law_1925 (by decide) ?_
      refine W.widen (k := 600000) (n := 7302249) (by omega) (by omega) ?_
      exact lw_ret hx hb hr hlocks dL_law_1926
    · have h5 : i + 5 ≤ L := by
        rw [Int32.lt_iff_toInt_lt] at c9
        have e1 : (Int32.ofNat L - 5).toInt = (L : Int) - 5 := pk_sub_toInt (a := L) (b := 5) (by omega) (by omega)
        rw [e1, nI_toInt (by omega)] at c9
        omega
      refine law_switch X hX hbl hbA ⟨by omega, by omega⟩ h5 hL (fun F Fn An Ft At Fk Ak Fp Ap Fb Ab Fd Ad Ff Af fr gsh gsv fs FM AM RL H locs hI hP hD hS => ?_) hI hP hD hS hl
      refine lv_iinc (v := nI (i + 5)) (lv' := [(3, .int (nI (i + 5))), (0, .ref b), (1, .ref o), (2, .ref om)]) hx hb dL_law_1919 hl (k := 3) rfl (nI_add i 5) (by decide) rfl (fun ls hl => ?_)
      refine lv_goto (tgt := 18) hx hb dL_law_1922 (by decide) ?_
      exact ih (i + 5) (cells + 2) (slots + 42) (by omega) (by omega) (by omega) (by omega) F Fn An Ft At Fk Ak Fp Ap Fb Ab Fd Ad Ff Af fr gsh gsv fs FM AM RL H locs ls hI hP hD hS (lv_sub hl [1, 2, 3, 0] rfl)
end LAWS
