/-! the reference does what the numbers say -/
def inR (x : Int32) (m : Nat) : Prop := ∃ j : Nat, j < m ∧ x = nI j
theorem inR_iff {x : Int32} {m : Nat} (hm : m < 2 ^ 31) : inR x m ↔ ¬ x < 0 ∧ x < nI m := by
  constructor
  · rintro ⟨j, hj, rfl⟩
    exact ⟨nI_pos (by omega), nI_lt hj hm⟩
  · rintro ⟨h1, h2⟩
    obtain ⟨j, hj, rfl⟩ := nI_of h1
    exact ⟨j, (nI_ltI hj hm).mp h2, rfl⟩
theorem inR_out {x : Int32} {m : Nat} (hm : m < 2 ^ 31) (h : ¬ inR x m) : x < 0 ∨ nI m ≤ x := by
  by_cases h0 : x < 0
  · exact Or.inl h0
  · exact Or.inr (Int32.not_lt.mp (fun h1 => h ((inR_iff hm).mpr ⟨h0, h1⟩)))
theorem s_X6_within {x : Int32} {m : Nat} (hm : m < 2 ^ 31) {K : Int32 → Prop} (h1 : inR x m → K 1) (h0 : ¬ inR x m → K 0) : p_X6_within x (nI m) K := by
  unfold p_X6_within
  refine ⟨fun c => h0 (fun q => ((inR_iff hm).mp q).1 c), fun c => ⟨fun d => h0 (fun q => Int32.not_lt.mpr d ((inR_iff hm).mp q).2), fun d => h1 ((inR_iff hm).mpr ⟨c, Int32.not_le.mp d⟩)⟩⟩
theorem s_X6_isFigure {x : Int32} {K : Int32 → Prop} (h1 : inR x 10 → K 1) (h0 : ¬ inR x 10 → K 0) : p_X6_isFigure x K := by
  unfold p_X6_isFigure
  exact s_X6_within (m := 10) (by omega) (fun h => ⟨bo_1, h1 h⟩) (fun h => ⟨bo_0, h0 h⟩)
theorem lc_lt (x y : Int64) : lg_cmp x y < 0 ↔ x < y := by
  unfold lg_cmp
  by_cases h1 : x > y
  · rw [if_pos h1]
    exact ⟨fun q => absurd q (by decide), fun q => by rw [gt_iff_lt, Int64.lt_iff_toInt_lt] at h1; rw [Int64.lt_iff_toInt_lt] at q; omega⟩
  · rw [if_neg h1]
    by_cases h2 : x = y
    · rw [if_pos h2]; subst h2; exact ⟨fun q => absurd q (by decide), fun q => absurd q h1⟩
    · rw [if_neg h2]
      exact ⟨fun _ => by rw [gt_iff_lt, Int64.lt_iff_toInt_lt] at h1; rw [← Int64.toInt_inj] at h2; rw [Int64.lt_iff_toInt_lt]; omega, fun _ => by decide⟩
theorem lc_gt (x y : Int64) : 0 < lg_cmp x y ↔ y < x := by
  unfold lg_cmp
  by_cases h1 : x > y
  · rw [if_pos h1]
    exact ⟨fun _ => h1, fun _ => by decide⟩
  · rw [if_neg h1]
    by_cases h2 : x = y
    · rw [if_pos h2]; exact ⟨fun q => absurd q (by decide), fun q => absurd q h1⟩
    · rw [if_neg h2]; exact ⟨fun q => absurd q (by decide), fun q => absurd q h1⟩
theorem l64_lt {x y : Int32} : x.toInt64 < y.toInt64 ↔ x < y := by
  rw [Int64.lt_iff_toInt_lt, Int32.lt_iff_toInt_lt, Int32.toInt_toInt64, Int32.toInt_toInt64]
theorem s_X7_isIn {x lo hi : Int32} {a b : Int64} (ha : a = lo.toInt64) (hb : b = hi.toInt64) {K : Int32 → Prop} (h1 : lo ≤ x → x ≤ hi → K 1) (h0 : ¬ (lo ≤ x ∧ x ≤ hi) → K 0) : p_X7_isIn x.toInt64 a b K := by
  unfold p_X7_isIn
  rw [lc_lt, lc_gt, ha, hb, l64_lt, l64_lt]
  exact ⟨fun c => h0 (fun q => Int32.not_lt.mpr q.1 c), fun c => ⟨fun d => h0 (fun q => Int32.not_lt.mpr q.2 d), fun d => h1 (Int32.not_lt.mp c) (Int32.not_lt.mp d)⟩⟩
/-- from 0 to below m -/
theorem s_X7_in0 {x : Int32} {m : Nat} (hm : m + 1 < 2 ^ 31) {a b : Int64} (ha : a = 0) (hb : b = (nI m).toInt64) {K : Int32 → Prop} (h1 : inR x (m + 1) → K 1) (h0 : ¬ inR x (m + 1) → K 0) : p_X7_isIn x.toInt64 a b K := by
  have e : inR x (m + 1) ↔ ((0 : Int32) ≤ x ∧ x ≤ nI m) := by
    rw [inR_iff hm, Int32.not_lt]
    constructor
    · rintro ⟨p, q⟩
      obtain ⟨j, hj, rfl⟩ := nI_of (Int32.not_lt.mpr p)
      exact ⟨p, nI_le (by have := (nI_ltI hj (by omega)).mp q; omega) (by omega)⟩
    · rintro ⟨p, q⟩
      obtain ⟨j, hj, rfl⟩ := nI_of (Int32.not_lt.mpr p)
      exact ⟨p, nI_lt (by have := (nI_leI hj (by omega)).mp q; omega) (by omega)⟩
  refine s_X7_isIn (lo := 0) (hi := nI m) (by rw [ha]; rfl) hb (fun p q => h1 (e.mpr ⟨p, q⟩)) (fun p => h0 (fun q => p (e.mp q)))
theorem s_X7_isPlace {x : Int32} {K : Int32 → Prop} (h1 : inR x 6 → K 1) (h0 : ¬ inR x 6 → K 0) : p_X7_isPlace x K := by
  unfold p_X7_isPlace
  refine ⟨fun c => h0 (fun q => ((inR_iff (by omega)).mp q).1 c), fun c => ⟨fun d => h0 (fun q => Int32.not_lt.mpr d ((inR_iff (by omega)).mp q).2), fun d => h1 ((inR_iff (by omega)).mpr ⟨c, Int32.not_le.mp d⟩)⟩⟩
theorem s_X7_isOne {F : tF} {A : tA} (ok : OkS (A 0)) {x : Int32} {K : Int32 → Prop} (h1 : inR x (nS (A 0)) → K 1) (h0 : ¬ inR x (nS (A 0)) → K 0) : p_X7_isOne F A x K := by
  have hn := ok.n
  unfold p_X7_isOne
  rw [hn.1]
  refine ⟨fun c => h0 (fun q => ((inR_iff (by omega)).mp q).1 c), fun c => ⟨fun d => h0 (fun q => Int32.not_lt.mpr d ((inR_iff (by omega)).mp q).2), fun d => h1 ((inR_iff (by omega)).mpr ⟨c, Int32.not_le.mp d⟩)⟩⟩
theorem ix_o (o c : Nat) : ((21 : Int32) + ((4 : Int32) * nI o)) + nI c = nI (21 + 4 * o + c) := by
  show nI 21 + nI 4 * nI o + nI c = _
  rw [pk_mul, nI_add, nI_add]
theorem ix_p (b p : Nat) : nI b + nI p = nI (b + p) := nI_add b p
theorem s_X7_its {F : tF} {A : tA} {o c k : Nat} (ho : o < 8) (hc : c < 4) (hk : k = 21 + 4 * o + c) {K : Int32 → Prop} (h : K (A 0 k)) : p_X7_its F A (nI o) (nI c) K := by
  unfold p_X7_its
  rw [ix_o, ← hk, nI_clamp (by omega)]
  exact ⟨vp_in_nI (by omega) (by omega), h⟩
theorem s_X7_apart {x y : Int32} {K : Int32 → Prop} (h : K (apI x y)) : p_X7_apart x y K := by
  unfold p_X7_apart
  unfold apI at h
  refine ⟨fun c => ?_, fun c => ?_⟩
  · rw [if_neg (Int32.not_lt.mpr c)] at h; exact h
  · rw [if_pos (Int32.not_le.mp c)] at h; exact h
theorem s_X7_within {x : Int32} {K : Int32 → Prop} (h : K (heldI x)) : p_X7_within x K := by
  unfold p_X7_within
  unfold heldI at h
  refine ⟨fun c => ⟨fun d => ?_, fun d => ?_⟩, fun c => ?_⟩
  · rw [if_neg (Int32.not_lt.mpr c), if_neg (Int32.not_lt.mpr d)] at h; exact h
  · rw [if_neg (Int32.not_lt.mpr c), if_pos (Int32.not_le.mp d)] at h; exact h
  · rw [if_pos (Int32.not_le.mp c)] at h; exact h
theorem s_X7_worthOf {F : tF} {A : tA} {o p : Nat} (ho : o < 8) (hp : p < 6) {K : Int32 → Prop} (hk : K (worthS (A 0) o p)) : p_X7_worthOf F A (nI o) (nI p) K := by
  have e9 : (9 : Int32) + nI p = nI (9 + p) := nI_add 9 p
  have e15 : (15 : Int32) + nI p = nI (15 + p) := nI_add 15 p
  have c9 : (nI (9 + p)).toNatClampNeg = 9 + p := nI_clamp (by omega)
  have c15 : (nI (15 + p)).toNatClampNeg = 15 + p := nI_clamp (by omega)
  have i9 : vp_in (nI (9 + p)) 53 := vp_in_nI (by omega) (by omega)
  have i15 : vp_in (nI (15 + p)) 53 := vp_in_nI (by omega) (by omega)
  have J : ∀ z y : Int32, z = earS (A 0) o p → y = eweS (A 0) o p → p_X7_worthOf_J63 F A K (nI o) (nI p) y z y := by
    rintro z y rfl rfl
    unfold p_X7_worthOf_J63
    rintro w rfl
    refine s_X7_its (c := 0) (k := 21 + 4 * o) ho (by omega) (by omega) ?_
    rw [e9, e15, c9, c15]
    unfold worthS at hk
    refine ⟨fun c => ?_, fun c => ?_, fun c => ⟨fun d => ?_, fun d => ?_⟩, fun c => ⟨fun d => ?_, fun d => ?_⟩, fun c => ⟨i9, i15, ?_⟩, fun c1 c2 c3 c4 c5 => ?_⟩
    · simpa [c] using hk
    · simpa [c] using hk
    · simpa [c, d] using hk
    · simpa [c, d] using hk
    · simpa [c, d] using hk
    · refine s_X7_its (c := 1) (k := 22 + 4 * o) ho (by omega) (by omega) ?_
      simpa [c, d] using hk
    · simpa [c] using hk
    · simpa [c1, c2, c3, c4, c5] using hk
  unfold p_X7_worthOf
  rw [e9, e15, c9, c15]
  refine ⟨i9, i15, s_X7_its (c := 2) (k := 23 + 4 * o) ho (by omega) (by omega) (s_X7_apart ?_)⟩
  intro y hy
  refine s_X7_its (c := 3) (k := 24 + 4 * o) ho (by omega) (by omega) ⟨fun c => J _ _ ?_ hy, fun c => s_X7_its (c := 1) (k := 22 + 4 * o) ho (by omega) (by omega) (J _ _ ?_ hy)⟩
  · unfold earS; rw [if_neg c]
  · unfold earS; rw [if_pos c]
theorem s_X7_counts {F : tF} {A : tA} (ok : OkS (A 0)) {o : Nat} (ho : o < 8) {K : Int32 → Prop} (hk : K (countS (A 0) o)) : p_X7_counts F A (nI o) K := by
  have ea : (9 : Int32) + A 0 3 = nI (9 + (A 0 3).toNatClampNeg) := by
    have := nI_add 9 (A 0 3).toNatClampNeg
    rw [← ok.at.1] at this; exact this
  have h6 := ok.at.2
  have J : ∀ z : Int32, z = hoggS (A 0) o → p_X7_counts_J20 F A K (nI o) z := by
    rintro z rfl
    unfold p_X7_counts_J20
    refine s_X7_its (c := 0) (k := 21 + 4 * o) ho (by omega) (by omega) ?_
    have hk' := hk
    unfold countS at hk'
    rw [ea, nI_clamp (by omega)]
    refine ⟨fun c => ?_, fun c => ?_, fun c => ?_, fun c => ?_, fun c => ⟨vp_in_nI (by omega) (by omega), ?_⟩, fun c1 c2 c3 c4 c5 => ?_⟩
    · simpa [c] using hk'
    · simpa [c] using hk'
    · simpa [c] using hk'
    · simpa [c] using hk'
    · rw [c] at hk'
      have hk2 : K (if A 0 (9 + (A 0 3).toNatClampNeg) < 3 then 3 else 1) := by simpa using hk'
      refine ⟨fun d => ?_, fun d => ?_⟩
      · rw [if_neg (Int32.not_lt.mpr d)] at hk2; exact hk2
      · rw [if_pos (Int32.not_le.mp d)] at hk2; exact hk2
    · simpa [c1, c2, c3, c4, c5] using hk'
  unfold p_X7_counts
  refine s_X7_its (c := 3) (k := 24 + 4 * o) ho (by omega) (by omega) ⟨fun c => J _ ?_, fun c => J _ ?_⟩
  · unfold hoggS; rw [if_neg c]
  · unfold hoggS; rw [if_pos c]
theorem s_X7_tamesOf {F : tF} {A : tA} {s : tF} {o : Nat} (ho : o < 8) (e : A 0 (21 + 4 * o) = s (21 + 4 * o)) {K : Int32 → Prop} (hk : K (tameS s o)) : p_X7_tamesOf F A (nI o) K := by
  unfold p_X7_tamesOf
  refine s_X7_its (c := 0) (k := 21 + 4 * o) ho (by omega) (by omega) ?_
  rw [e]
  unfold tameS at hk
  refine ⟨fun c => ?_, fun c => ?_, fun c => ?_, fun c => ?_, fun c => ?_, fun c1 c2 c3 c4 c5 => ?_⟩
  · simpa [c] using hk
  · simpa [c] using hk
  · simpa [c] using hk
  · simpa [c] using hk
  · simpa [c] using hk
  · simpa [c1, c2, c3, c4, c5] using hk
theorem s_X7_voteOf {F : tF} {A : tA} {o : Nat} (ho : o < 8) {K : Int32 → Prop} (hk : K (nI (voteS (A 0) o))) : p_X7_voteOf F A (nI o) K := by
  unfold p_X7_voteOf
  refine lq2 (p_X7_voteOf_L4 F A (nI o) K) (fun i b x => x = nI i ∧ b = nI (voteU (A 0) o (i - 1))) 6 1 (by omega) ?_ ?_ ⟨rfl, rfl⟩
  · rintro n b x ⟨rfl, rfl⟩
    rw [p_X7_voteOf_L4]
    exact ⟨fun _ => hk, fun c => absurd (nI_le (a := 6) (b := 6) (by omega) (by omega)) c⟩
  · rintro n i b x h1 h6 ⟨rfl, rfl⟩ ih
    obtain ⟨j, rfl⟩ : ∃ j, i = j + 1 := ⟨i - 1, by omega⟩
    have e1 : j + 1 - 1 = j := by omega
    have e2 : j + 1 + 1 - 1 = j + 1 := by omega
    have hb := voteU_le (A 0) o j
    rw [p_X7_voteOf_L4, e1]
    refine ⟨fun c => absurd c (nI_ge (a := j + 1) (b := 6) h6 (by omega)), fun _ => s_X7_worthOf ho h6 (s_X7_worthOf ho (by omega) ⟨fun c => ?_, fun c => ?_⟩)⟩
    · unfold p_X7_voteOf_J30
      refine fun y hy => ih _ _ ⟨by rw [hy]; exact nI_1 _, ?_⟩
      rw [e2, voteU, if_neg (Int32.not_lt.mpr c)]
    · unfold p_X7_voteOf_J30
      refine fun y hy => ih _ _ ⟨by rw [hy]; exact nI_1 _, ?_⟩
      rw [e2, voteU, if_pos (Int32.not_le.mp c)]
/-- how the votes fall: deaf ones, one that lies -/
def slotP (s : tF) (liar lie : Int32) (k : Nat) : Nat := if nI k = liar then lie.toNatClampNeg else voteS s k
def wP (s : tF) (deaf : Int32) (k : Nat) : Int32 := if ((deaf >>> (nI k &&& 31)) &&& (1 : Int32)) = 1 then 0 else countS s k
def polP (s : tF) (deaf liar lie : Int32) : tF := tallyU (baseS s) (slotP s liar lie) (wP s deaf) (nS s)
theorem s_X7_polls {F : tF} {A : tA} (ok : OkS (A 0)) {deaf liar lie : Int32} (hl : ∀ k, k < nS (A 0) → nI k = liar → inR lie 6) {K : tF → tA → Prop} (hk : ∀ A', (∀ k, k ≠ 12 → A' k = A k) → (∀ p, p < 6 → A' 12 p = polP (A 0) deaf liar lie p) → K F A') : p_X7_polls F A deaf liar lie K := by
  have hn := ok.n
  unfold p_X7_polls
  refine lq3 (p_X7_polls_L3 deaf liar lie K) (fun i F' A' x => x = nI i ∧ F' = F ∧ (∀ k, k ≠ 12 → A' k = A k) ∧ ∀ p, p < i → A' 12 p = baseS (A 0) p) 6 0 (by omega) ?_ ?_ ⟨rfl, rfl, fun _ _ => rfl, fun p hp => absurd hp (by omega)⟩
  · rintro n F' A' x ⟨rfl, rfl, t, hb⟩
    rw [p_X7_polls_L3]
    refine ⟨fun _ => ?_, fun c => absurd (nI_le (a := 6) (b := 6) (by omega) (by omega)) c⟩
    refine lq3 (p_X7_polls_L50 deaf liar lie K) (fun i F'' A'' x => x = nI i ∧ F'' = F' ∧ (∀ k, k ≠ 12 → A'' k = A k) ∧ ∀ p, p < 6 → A'' 12 p = tallyU (baseS (A 0)) (slotP (A 0) liar lie) (wP (A 0) deaf) i p) (nS (A 0)) 0 (by omega) ?_ ?_ ⟨rfl, rfl, t, hb⟩
    · rintro n F'' A'' x ⟨rfl, rfl, t, hb⟩
      rw [p_X7_polls_L50, t 0 (by omega), hn.1]
      exact ⟨fun _ => hk A'' t hb, fun c => absurd (nI_le (Nat.le_refl _) (by omega)) c⟩
    · rintro n i F'' A'' x h1 h6 ⟨rfl, rfl, t, hb⟩ ih
      rw [p_X7_polls_L50, t 0 (by omega), hn.1]
      have J : ∀ v : Nat, v < 6 → v = slotP (A 0) liar lie i → p_X7_polls_J81 F'' A'' (p_X7_polls_L50 deaf liar lie K n) K deaf liar lie (nI i) (nI v) := by
        intro v hv ev
        have cv : (nI v).toNatClampNeg = v := nI_clamp (by omega)
        have J2 : ∀ w, w = wP (A 0) deaf i → p_X7_polls_J103 F'' A'' (p_X7_polls_L50 deaf liar lie K n) K deaf liar lie (nI i) w (A'' 12 v) (nI v) := by
          intro w ew
          unfold p_X7_polls_J103
          refine ⟨vp_in_nI hv (by omega), fun f hf y hy => ih _ _ _ ⟨by rw [hy]; exact nI_1 _, rfl, fun k hk => ?_, fun p hp => ?_⟩⟩
          · rw [va_up_ne _ _ hk]; exact t k hk
          · have et : tallyU (baseS (A 0)) (slotP (A 0) liar lie) (wP (A 0) deaf) (i + 1) = upd (tallyU (baseS (A 0)) (slotP (A 0) liar lie) (wP (A 0) deaf) i) (slotP (A 0) liar lie i) (tallyU (baseS (A 0)) (slotP (A 0) liar lie) (wP (A 0) deaf) i (slotP (A 0) liar lie i) + wP (A 0) deaf i) := rfl
            rw [va_up_self, hf, cv, hb v hv, ew, et, ← ev]
            simp only [upd]
            split
            · rfl
            · exact hb p hp
        unfold p_X7_polls_J81
        rw [cv]
        refine ⟨vp_in_nI hv (by omega), fun c => s_X7_counts (by rw [t 0 (by omega)]; exact ok) (by omega) (J2 _ ?_), fun c => J2 _ ?_⟩
        · unfold wP; rw [if_neg c, t 0 (by omega)]
        · unfold wP; rw [if_pos c]
      refine ⟨fun c => absurd c (nI_ge h6 (by omega)), fun _ => ⟨fun c => s_X7_voteOf (by omega) ?_, fun c => ?_⟩⟩
      · rw [t 0 (by omega)]
        exact J _ (voteS_lt _ _) (by unfold slotP; rw [if_neg c])
      · obtain ⟨j, hj, e⟩ := hl i h6 c
        rw [e]
        rw [e] at J
        exact J j hj (by unfold slotP; rw [if_pos c, nI_clamp (by omega)])
  · rintro n i F' A' x h1 h6 ⟨rfl, rfl, t, hb⟩ ih
    rw [p_X7_polls_L3, t 0 (by omega)]
    have J : ∀ z, z = baseS (A 0) i → p_X7_polls_J40 F' A' (p_X7_polls_L3 deaf liar lie K n) K deaf liar lie (nI i) z (nI i) := by
      intro z hz
      unfold p_X7_polls_J40
      refine ⟨vp_in_nI h6 (by omega), fun f hf y hy => ih _ _ _ ⟨by rw [hy]; exact nI_1 _, rfl, fun k hk => ?_, fun p hp => ?_⟩⟩
      · rw [va_up_ne _ _ hk]; exact t k hk
      · rw [va_up_self, hf, nI_clamp (by omega)]
        unfold upd
        split
        · rename_i e; rw [e, hz]
        · exact hb p (by omega)
    refine ⟨fun c => absurd c (nI_ge (a := i) (b := 6) h6 (by omega)), fun _ => ⟨fun d => J _ ?_, fun d => J _ ?_⟩⟩
    · unfold baseS; rw [if_neg d]
    · unfold baseS; rw [if_pos d]
theorem s_X7_winnerOf {F : tF} {A : tA} (ok : OkS (A 0)) {deaf liar lie : Int32} (hl : ∀ k, k < nS (A 0) → nI k = liar → inR lie 6) {K : Int32 → tF → tA → Prop} (hk : ∀ A', (∀ k, k ≠ 12 → A' k = A k) → K (nI (favS (polP (A 0) deaf liar lie) (A 0 3))) F A') : p_X7_winnerOf F A deaf liar lie K := by
  unfold p_X7_winnerOf
  refine s_X7_polls ok hl (fun A' t hb => ?_)
  have ef : favS (A' 12) (A' 0 3) = favS (polP (A 0) deaf liar lie) (A 0 3) := by rw [t 0 (by omega)]; exact favS_cg _ hb
  have hk1 := hk A' t
  rw [← ef] at hk1
  refine lq2 (p_X7_winnerOf_L13 F A' K) (fun i b x => x = nI i ∧ b = nI (favU (A' 12) (A' 0 3) (i - 1))) 6 1 (by omega) ?_ ?_ ⟨rfl, rfl⟩
  · rintro n b x ⟨rfl, rfl⟩
    rw [p_X7_winnerOf_L13]
    exact ⟨fun _ => hk1, fun c => absurd (nI_le (a := 6) (b := 6) (by omega) (by omega)) c⟩
  · rintro n i b x h1 h6 ⟨rfl, rfl⟩ ih
    obtain ⟨j, rfl⟩ : ∃ j, i = j + 1 := ⟨i - 1, by omega⟩
    have e1 : j + 1 - 1 = j := by omega
    have e2 : j + 1 + 1 - 1 = j + 1 := by omega
    have hb := favU_le (A' 12) (A' 0 3) j
    rw [p_X7_winnerOf_L13, e1]
    have ci : (nI (j + 1)).toNatClampNeg = j + 1 := nI_clamp (by omega)
    have cb : (nI (favU (A' 12) (A' 0 3) j)).toNatClampNeg = favU (A' 12) (A' 0 3) j := nI_clamp (by omega)
    have ii : vp_in (nI (j + 1)) 6 := vp_in_nI h6 (by omega)
    have ib : vp_in (nI (favU (A' 12) (A' 0 3) j)) 6 := vp_in_nI (by omega) (by omega)
    have J98 : ∀ m, m = favU (A' 12) (A' 0 3) (j + 1) → p_X7_winnerOf_J98 F A' (p_X7_winnerOf_L13 F A' K n) K (nI (j + 1)) (nI m) := by
      intro m hm
      unfold p_X7_winnerOf_J98
      exact fun y hy => ih _ _ ⟨by rw [hy]; exact nI_1 _, by rw [e2, hm]⟩
    have J67 : ∀ z : Int32, (¬ z = 0 ↔ (A' 12 (j + 1) = A' 12 (favU (A' 12) (A' 0 3) j) ∧ apI (nI (j + 1)) (A' 0 3) < apI (nI (favU (A' 12) (A' 0 3) j)) (A' 0 3))) → p_X7_winnerOf_J67 F A' (p_X7_winnerOf_L13 F A' K n) K (nI (favU (A' 12) (A' 0 3) j)) (nI (j + 1)) z := by
      intro z hz
      unfold p_X7_winnerOf_J67 p_X7_winnerOf_J91
      rw [ci, cb]
      refine ⟨ii, ib, fun c => J98 _ ?_, fun c => ⟨fun q => J98 _ ?_, fun q => J98 _ ?_⟩⟩
      · rw [favU, if_pos (Or.inl c)]
      · rw [favU, if_neg (fun w => w.elim c (fun w => (hz.mpr w) q))]
      · rw [favU, if_pos (Or.inr (hz.mp q))]
    unfold p_X7_winnerOf_J66
    rw [ci, cb]
    refine ⟨fun c => absurd c (nI_ge (a := j + 1) (b := 6) h6 (by omega)), fun _ => ⟨ii, ib, fun c => J67 _ ⟨fun q => absurd rfl q, fun q => absurd q.1 c⟩, fun c => s_X7_apart (s_X7_apart ⟨fun d => J67 _ ⟨fun q => absurd rfl q, fun q => absurd q.2 (Int32.not_lt.mpr d)⟩, fun d => J67 _ ⟨fun _ => ⟨c, Int32.not_le.mp d⟩, fun _ => by decide⟩⟩)⟩⟩
theorem polP_0 (s : tF) (hn : nS s ≤ 8) : ∀ p, p < 6 → polP s 0 (-1) 0 p = polS s p := by
  unfold polP polS
  refine tallyU_cg (fun _ _ => rfl) _ (fun o ho => ⟨?_, ?_, ?_⟩)
  · unfold slotP; rw [if_neg]
    have : ∀ k, k < 8 → nI k ≠ -1 := by decide
    exact this o (by omega)
  · unfold wP; rw [if_neg]
    have : ∀ k, k < 8 → ¬ (((0 : Int32) >>> (nI k &&& 31)) &&& (1 : Int32)) = 1 := by decide
    exact this o (by omega)
  · unfold slotP; rw [if_neg]
    · exact voteS_lt _ _
    · have : ∀ k, k < 8 → nI k ≠ -1 := by decide
      exact this o (by omega)
theorem s_X7_win {F : tF} {A : tA} (ok : OkS (A 0)) {K : Int32 → tF → tA → Prop} (hk : ∀ A', (∀ k, k ≠ 12 → A' k = A k) → K (nI (winS (A 0))) F A') : p_X7_winnerOf F A (0 : Int32) (-1 : Int32) (0 : Int32) K := by
  refine s_X7_winnerOf (deaf := 0) (liar := -1) (lie := 0) ok (fun k _ _ => ⟨0, by omega, rfl⟩) (fun A' t => ?_)
  have : favS (polP (A 0) 0 (-1) 0) (A 0 3) = winS (A 0) := favS_cg _ (polP_0 _ ok.n.2)
  rw [this]
  exact hk A' t
