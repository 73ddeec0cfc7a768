/-! duels: beats, asked, agenda, ring -/
theorem nar_0 : vp_nar .boolean (0 : Int32) = 0 := by decide +kernel
theorem nar_1 : vp_nar .boolean (1 : Int32) = 1 := by decide +kernel
def btS (s : tF) (k : Nat) : Int32 := if 0 < leadS s (k / 6) (k % 6) then 1 else 0
theorem btS_bo (s : tF) (k : Nat) : bo (btS s k) := by
  unfold btS; split
  · exact bo_1
  · exact bo_0
theorem btS_e (s : tF) {p q : Nat} (hq : q < 6) : btS s (6 * p + q) = if 0 < leadS s p q then 1 else 0 := by
  unfold btS
  rw [show (6 * p + q) / 6 = p by omega, show (6 * p + q) % 6 = q by omega]
theorem leadU_pp (s : tF) (p : Nat) : ∀ k, leadU s p p k = 0
  | 0 => rfl
  | k + 1 => by
    rw [leadU, Int32.sub_self, if_neg (by decide), if_neg (by decide)]; exact leadU_pp s p k
theorem s_X7_isBeaten {F : tF} {A : tA} (ok : OkS (A 0)) {p q : Nat} (hp : p < 6) (hq : q < 6) {K : Int32 → Prop} (hk : K (if 0 < leadS (A 0) q p then 1 else 0)) : p_X7_isBeaten F A (nI p) (nI q) K := by
  have hn := ok.n
  unfold p_X7_isBeaten
  refine lq2 (p_X7_isBeaten_L5 F A (nI p) (nI q) K) (fun i b x => x = nI i ∧ b = leadU (A 0) q p i) (nS (A 0)) 0 (by omega) ?_ ?_ ⟨rfl, rfl⟩
  · rintro n b x ⟨rfl, rfl⟩
    rw [p_X7_isBeaten_L5, hn.1]
    refine ⟨fun _ => ⟨fun c => ?_, fun c => ?_⟩, fun c => absurd (nI_le (Nat.le_refl _) (by omega)) c⟩
    · rw [if_neg (show ¬ 0 < leadS (A 0) q p from Int32.not_lt.mpr c)] at hk; exact hk
    · rw [if_pos (show 0 < leadS (A 0) q p from Int32.not_le.mp c)] at hk; exact hk
  · rintro n i b x h1 h6 ⟨rfl, rfl⟩ ih
    rw [p_X7_isBeaten_L5, hn.1]
    have J : ∀ z, leadU (A 0) q p i + z = leadU (A 0) q p (i + 1) → p_X7_isBeaten_J64 F A (p_X7_isBeaten_L5 F A (nI p) (nI q) K n) K (nI p) (nI q) (nI i) z (leadU (A 0) q p i) := by
      intro z hz
      unfold p_X7_isBeaten_J64
      exact fun y hy w hw => ih _ _ ⟨by rw [hw]; exact nI_1 _, by rw [hy, hz]⟩
    refine ⟨fun c => absurd c (nI_ge h6 (by omega)), fun _ => s_X7_worthOf (by omega) hq (s_X7_worthOf (by omega) hp (fun y hy => ⟨fun c => ⟨fun d => J _ ?_, fun d => s_X7_counts ok (by omega) (J _ ?_)⟩, fun c => s_X7_counts ok (by omega) (J _ ?_)⟩))⟩
    · rw [leadU, ← hy, if_neg (Int32.not_lt.mpr c), if_neg (Int32.not_lt.mpr d)]; exact Int32.add_zero _
    · rw [leadU, ← hy, if_neg (Int32.not_lt.mpr c), if_pos (Int32.not_le.mp d)]; exact (Int32.sub_eq_add_neg _ _).symm
    · rw [leadU, ← hy, if_pos (Int32.not_le.mp c)]
theorem j_beats {F Fn : tF} {An : tA} {FM : tF} {A : tA} (h : HZ Fn An A) (x y : Int32) : p_X6_beats F Fn An x y (fun r => p_X7_beats FM A x y (fun r' => r = r')) := by
  obtain ⟨hr, ok, _⟩ := id h
  unfold p_X6_beats
  by_cases c : inR x 6
  rotate_left
  · exact w0 (m := 6) c (by omega) (a0 (by unfold p_X7_beats; exact p0 c (a0 rfl)))
  refine w1 (m := 6) c (by omega) (a1 ?_)
  by_cases d : inR y 6
  rotate_left
  · exact w0 (m := 6) d (by omega) (a0 (by unfold p_X7_beats; exact p1 c (a1 (p0 d (a0 rfl)))))
  refine w1 (m := 6) d (by omega) (a1 ⟨fun e => ?_, fun e => by unfold p_X7_beats; exact p1 c (a1 (p1 d (a1 ⟨fun q => absurd e q, fun _ => rfl⟩)))⟩)
  obtain ⟨p, hp, rfl⟩ := id c
  obtain ⟨q, hq, rfl⟩ := id d
  refine s_X2_leadOf hr ok hp hq ⟨fun w => ?_, fun w => ?_⟩
  · unfold p_X7_beats
    refine p1 c (a1 (p1 d (a1 ⟨fun _ => s_X7_isBeaten ok hq hp ?_, fun q => absurd q e⟩)))
    rw [if_neg (Int32.not_lt.mpr w)]; exact a0 rfl
  · unfold p_X7_beats
    refine p1 c (a1 (p1 d (a1 ⟨fun _ => s_X7_isBeaten ok hq hp ?_, fun q => absurd q e⟩)))
    rw [if_pos (Int32.not_le.mp w)]; exact a1 rfl
theorem ix6 (i j : Nat) : nI i * (6 : Int32) + nI j = nI (6 * i + j) := by
  show nI i * nI 6 + nI j = _
  rw [pk_mul, nI_add, Nat.mul_comm]
theorem ix6' (i j : Nat) : (6 : Int32) * nI i + nI j = nI (6 * i + j) := by
  show nI 6 * nI i + nI j = _
  rw [pk_mul, nI_add]
theorem s_X1_hold {F F1 : tF} {A A1 : tA} {s : tF} (h : HR F1 A1 s) (ok : OkS s) {K : tF → tA → Prop} (hk : ∀ A', (∀ j, j ≠ 0 → A' j = A j) → (∀ k, k < 36 → A' 0 k = btS s k) → K F A') : p_X1_hold F A F1 A1 K := by
  unfold p_X1_hold
  refine lq3 (p_X1_hold_L2 F1 A1 K) (fun i F' A' x => F' = F ∧ x = nI i ∧ (∀ j, j ≠ 0 → A' j = A j) ∧ ∀ k, k < 6 * i → A' 0 k = btS s k) 6 0 (by omega) ?_ ?_ ⟨rfl, rfl, fun _ _ => rfl, fun k hk => absurd hk (by omega)⟩
  · rintro n F' A' x ⟨rfl, rfl, t, b⟩
    rw [p_X1_hold_L2]
    exact ⟨fun _ => hk A' t (fun k hk => b k (by omega)), fun c => absurd (nI_le (a := 6) (b := 6) (by omega) (by omega)) c⟩
  · rintro n i F' A' x h1 h6 ⟨rfl, rfl, t, b⟩ ih
    rw [p_X1_hold_L2]
    refine ⟨fun c => absurd c (nI_ge (a := i) (b := 6) h6 (by omega)), fun _ => ?_⟩
    refine lq3 (p_X1_hold_L10 F1 A1 (nI i) (p_X1_hold_L2 F1 A1 K n) K) (fun j F'' A'' x => F'' = F' ∧ x = nI j ∧ (∀ j, j ≠ 0 → A'' j = A j) ∧ ∀ k, k < 6 * i + j → A'' 0 k = btS s k) 6 0 (by omega) ?_ ?_ ⟨rfl, rfl, t, fun k hk => b k (by omega)⟩
    · rintro m F'' A'' x ⟨rfl, rfl, t2, b2⟩
      rw [p_X1_hold_L10]
      exact ⟨fun _ y hy => ih _ _ _ ⟨rfl, by rw [hy]; exact nI_1 _, t2, fun k hk => b2 k (by omega)⟩, fun c => absurd (nI_le (a := 6) (b := 6) (by omega) (by omega)) c⟩
    · rintro m j F'' A'' x g1 g6 ⟨rfl, rfl, t2, b2⟩ ih2
      rw [p_X1_hold_L10, ix6]
      have J : ∀ z, vp_nar .boolean z = btS s (6 * i + j) → p_X1_hold_J40 F'' A'' F1 A1 (p_X1_hold_L2 F1 A1 K n) (p_X1_hold_L10 F1 A1 (nI i) (p_X1_hold_L2 F1 A1 K n) K m) K (nI i) (nI j) z (nI (6 * i + j)) := by
        intro z hz
        unfold p_X1_hold_J40
        refine ⟨vp_in_nI (by omega) (by omega), fun f hf y hy => ih2 _ _ _ ⟨rfl, by rw [hy]; exact nI_1 _, fun j hj => by rw [va_up_ne _ _ hj]; exact t2 j hj, fun k hk => ?_⟩⟩
        rw [va_up_self, hf, hz, nI_clamp (by omega)]
        unfold upd
        split
        · rename_i e; rw [e]
        · exact b2 k (by omega)
      refine ⟨fun c => absurd c (nI_ge (a := j) (b := 6) g6 (by omega)), fun _ => s_X2_leadOf h ok h6 g6 ⟨fun c => J _ ?_, fun c => J _ ?_⟩⟩
      · rw [nar_0, btS_e s g6, if_neg (Int32.not_lt.mpr c)]
      · rw [nar_1, btS_e s g6, if_pos (Int32.not_le.mp c)]
theorem s_X7_meets {F : tF} {A : tA} (ok : OkS (A 0)) {K : tF → tA → Prop} (hk : ∀ A', (∀ j, j ≠ 13 → A' j = A j) → (∀ k, k < 36 → A' 13 k = btS (A 0) k) → K F A') : p_X7_meets F A K := by
  unfold p_X7_meets
  refine lq3 (p_X7_meets_L2 K) (fun i F' A' x => F' = F ∧ x = nI i ∧ (∀ j, j ≠ 13 → A' j = A j) ∧ ∀ k, k < 6 * i → A' 13 k = btS (A 0) k) 6 0 (by omega) ?_ ?_ ⟨rfl, rfl, fun _ _ => rfl, fun k hk => absurd hk (by omega)⟩
  · rintro n F' A' x ⟨rfl, rfl, t, b⟩
    rw [p_X7_meets_L2]
    exact ⟨fun _ => hk A' t (fun k hk => b k (by omega)), fun c => absurd (nI_le (a := 6) (b := 6) (by omega) (by omega)) c⟩
  · rintro n i F' A' x h1 h6 ⟨rfl, rfl, t, b⟩ ih
    rw [p_X7_meets_L2]
    refine ⟨fun c => absurd c (nI_ge (a := i) (b := 6) h6 (by omega)), fun _ => ?_⟩
    refine lq3 (p_X7_meets_L10 (nI i) (p_X7_meets_L2 K n) K) (fun j F'' A'' x => F'' = F' ∧ x = nI j ∧ (∀ j, j ≠ 13 → A'' j = A j) ∧ ∀ k, k < 6 * i + j → A'' 13 k = btS (A 0) k) 6 0 (by omega) ?_ ?_ ⟨rfl, rfl, t, fun k hk => b k (by omega)⟩
    · rintro m F'' A'' x ⟨rfl, rfl, t2, b2⟩
      rw [p_X7_meets_L10]
      exact ⟨fun _ y hy => ih _ _ _ ⟨rfl, by rw [hy]; exact nI_1 _, t2, fun k hk => b2 k (by omega)⟩, fun c => absurd (nI_le (a := 6) (b := 6) (by omega) (by omega)) c⟩
    · rintro m j F'' A'' x g1 g6 ⟨rfl, rfl, t2, b2⟩ ih2
      rw [p_X7_meets_L10, ix6']
      have J : ∀ z, vp_nar .boolean z = btS (A 0) (6 * i + j) → p_X7_meets_J45 F'' A'' (p_X7_meets_L2 K n) (p_X7_meets_L10 (nI i) (p_X7_meets_L2 K n) K m) K (nI i) (nI j) z (nI (6 * i + j)) := by
        intro z hz
        unfold p_X7_meets_J45
        refine ⟨vp_in_nI (by omega) (by omega), fun f hf y hy => ih2 _ _ _ ⟨rfl, by rw [hy]; exact nI_1 _, fun j hj => by rw [va_up_ne _ _ hj]; exact t2 j hj, fun k hk => ?_⟩⟩
        rw [va_up_self, hf, hz, nI_clamp (by omega)]
        unfold upd
        split
        · rename_i e; rw [e]
        · exact b2 k (by omega)
      have J44 : (0 : Int32) = btS (A 0) (6 * i + j) → p_X7_meets_J44 F'' A'' (p_X7_meets_L2 K n) (p_X7_meets_L10 (nI i) (p_X7_meets_L2 K n) K m) K (nI i) (nI j) (nI (6 * i + j)) := by
        intro hz
        unfold p_X7_meets_J44
        exact J 0 (by rw [nar_0]; exact hz)
      have e0 : A'' 0 = A 0 := t2 0 (by omega)
      refine ⟨fun c => absurd c (nI_ge (a := j) (b := 6) g6 (by omega)), fun _ => ⟨fun c => J44 ?_, fun c => s_X7_isBeaten (by rw [e0]; exact ok) g6 h6 ?_⟩⟩
      · have : i = j := (nI_eq (by omega) (by omega)).mp c
        subst this
        rw [btS_e _ g6]
        have : leadS (A 0) i i = 0 := leadU_pp _ _ _
        rw [this, if_neg (by decide)]
      · rw [e0]
        by_cases w : 0 < leadS (A 0) i j
        · rw [if_pos w]; exact a1 (J 1 (by rw [nar_1, btS_e _ g6, if_pos w]))
        · rw [if_neg w]; exact a0 (J44 (by rw [btS_e _ g6, if_neg w]))
def lsU (b : Nat → Int32) (d : Nat → Nat) : Nat → Nat
  | 0 => d 0
  | k + 1 => if b (6 * d (k + 1) + lsU b d k) = 0 then lsU b d k else d (k + 1)
theorem lsU_lt {b : Nat → Int32} {d : Nat → Nat} : ∀ k, (∀ j, j ≤ k → d j < 6) → lsU b d k < 6
  | 0, h => h 0 (by omega)
  | k + 1, h => by
    rw [lsU]; split
    · exact lsU_lt k (fun j hj => h j (by omega))
    · exact h _ (by omega)
theorem lsU_cg {b : Nat → Int32} {d d' : Nat → Nat} : ∀ k, (∀ j, j ≤ k → d j = d' j) → lsU b d k = lsU b d' k
  | 0, h => h 0 (by omega)
  | k + 1, h => by rw [lsU, lsU, lsU_cg k (fun j hj => h j (by omega)), h (k + 1) (by omega)]
theorem s_X1_isWonBy {F : tF} {A : tA} {s : tF} (b : ∀ k, k < 36 → A 0 k = btS s k) {x y : Nat} (hx : x < 6) (hy : y < 6) {K : Int32 → Prop} (k : K (btS s (6 * x + y))) : p_X1_isWonBy F A (nI x) (nI y) K := by
  unfold p_X1_isWonBy
  rw [ix6, nI_clamp (by omega), b _ (by omega)]
  exact ⟨vp_in_nI (by omega) (by omega), btS_bo _ _, k⟩
theorem s_X1_lastStanding {F : tF} {A : tA} {s : tF} (b : ∀ k, k < 36 → A 0 k = btS s k) {d : Nat → Nat} (hd : ∀ k, k < 6 → d k < 6 ∧ A 1 k = nI (d k)) {K : Int32 → Prop} (k : K (nI (lsU (btS s) d 5))) : p_X1_lastStanding F A K := by
  unfold p_X1_lastStanding
  intro y hy
  refine lq2 (p_X1_lastStanding_L9 F A K) (fun i v x => x = nI i ∧ v = nI (lsU (btS s) d (i - 1))) 6 1 (by omega) ?_ ?_ ⟨rfl, by rw [hy]; exact (hd 0 (by omega)).2⟩
  · rintro n v x ⟨rfl, rfl⟩
    rw [p_X1_lastStanding_L9]
    exact ⟨fun _ => k, fun c => absurd (nI_le (a := 6) (b := 6) (by omega) (by omega)) c⟩
  · rintro n i v x h1 h6 ⟨rfl, rfl⟩ ih
    obtain ⟨j, rfl⟩ : ∃ j, i = j + 1 := ⟨i - 1, by omega⟩
    have e1 : j + 1 - 1 = j := by omega
    have e2 : j + 1 + 1 - 1 = j + 1 := by omega
    have ii : vp_in (nI (j + 1)) 6 := vp_in_nI h6 (by omega)
    rw [p_X1_lastStanding_L9, e1, nI_clamp (by omega), (hd _ h6).2]
    unfold p_X1_lastStanding_J36
    refine ⟨fun c => absurd c (nI_ge (a := j + 1) (b := 6) h6 (by omega)), fun _ => ⟨ii, s_X1_isWonBy b (hd _ h6).1 (lsU_lt j (fun i hi => (hd i (by omega)).1)) ⟨fun c y hy => ih _ _ ⟨by rw [hy]; exact nI_1 _, ?_⟩, fun c => ⟨ii, fun z hz y hy => ih _ _ ⟨by rw [hy]; exact nI_1 _, ?_⟩⟩⟩⟩⟩
    · rw [e2, lsU, if_pos c]
    · rw [e2, lsU, if_neg c, hz]
/-! figures of an order -/
def pw (i : Nat) : Nat := 100000 / 10 ^ i
def dg (x i : Nat) : Nat := x / pw i % 10
def okD (x : Nat) : Prop := (∀ i, i < 6 → dg x i < 6) ∧ ∀ i, i < 6 → ∀ j, j < i → dg x i ≠ dg x j
theorem mask_or : ∀ m, m < 64 → ∀ q, q < 6 → nI m ||| ((1 : Int32) <<< (nI q &&& 31)) = nI (m ||| 2 ^ q) ∧ (m ||| 2 ^ q) < 64 ∧ ∀ p, p < 6 → (bitS (m ||| 2 ^ q) p = 1 ↔ bitS m p = 1 ∨ p = q) := by decide +kernel
theorem mask_0 : ∀ p, p < 6 → ¬ bitS 0 p = 1 := by decide +kernel
theorem pw_s : ∀ i, i < 6 → pw i / 10 = pw (i + 1) := by decide +kernel
theorem pw_b : ∀ i, i < 6 → 0 < pw i ∧ pw i ≤ 100000 := by decide +kernel
theorem pw_6 : pw 6 = 0 := by decide
theorem s_X7_winsBy {F : tF} {A : tA} {s : tF} (b : ∀ k, k < 36 → A 13 k = btS s k) {x : Nat} (hx : x < 1000000) {K : Int32 → Prop} (h1 : okD x → K (nI (lsU (btS s) (dg x) 5))) (h0 : ¬ okD x → K (-1)) : p_X7_winsBy F A (nI x) K := by
  unfold p_X7_winsBy
  refine lq3 (p_X7_winsBy_L8 F A (nI x) K) (fun i m v o => o = nI (pw i) ∧ (∃ mm, mm < 64 ∧ m = nI mm ∧ ∀ p, p < 6 → (bitS mm p = 1 ↔ ∃ j, j < i ∧ dg x j = p)) ∧ (∀ j, j < i → dg x j < 6) ∧ (∀ j, j < i → ∀ k, k < j → dg x j ≠ dg x k) ∧ v = if i = 0 then -1 else nI (lsU (btS s) (dg x) (i - 1))) 6 0 (by omega) ?_ ?_ ⟨rfl, ⟨0, by omega, rfl, fun p hp => ⟨fun q => absurd q (mask_0 p hp), fun ⟨j, hj, _⟩ => absurd hj (by omega)⟩⟩, fun j hj => absurd hj (by omega), fun j hj => absurd hj (by omega), rfl⟩
  · rintro n m v o ⟨rfl, ⟨mm, _, _, _⟩, d6, dd, rfl⟩
    rw [p_X7_winsBy_L8, pw_6]
    exact ⟨fun _ => h1 ⟨d6, dd⟩, fun q => absurd (by decide) q⟩
  · rintro n i m v o g1 g6 ⟨rfl, ⟨mm, hm, rfl, bb⟩, d6, dd, rfl⟩ ih
    rw [p_X7_winsBy_L8]
    have hp := pw_b i g6
    refine ⟨fun q => absurd q (nI_nle hp.1 (by omega)), fun _ => ⟨nI_ne0 hp.1 (by omega), fun y hy => ?_⟩⟩
    have ed : y = nI (dg x i) := by
      rw [hy, pk_div (by omega) hp.1 (by omega)]
      exact pk_rem (d := 10) (by have := Nat.div_le_self x (pw i); omega) (by omega) (by omega)
    subst ed
    have hd10 : dg x i < 10 := Nat.mod_lt _ (by omega)
    refine ⟨fun c => h0 (fun q => ?_), fun c => ?_⟩
    · have := q.1 i g6
      exact nI_ge (a := dg x i) (b := 6) this (by omega) c
    · have h6 : dg x i < 6 := by
        rcases Nat.lt_or_ge (dg x i) 6 with w | w
        · exact w
        · exact absurd (nI_le (a := 6) (b := dg x i) w (by omega)) c
      obtain ⟨e1, e2, e3⟩ := mask_or mm hm (dg x i) h6
      have eb : (nI mm >>> (nI (dg x i) &&& 31)) &&& (1 : Int32) = bitS mm (dg x i) := rfl
      rw [eb]
      refine ⟨fun q y1 hy1 => ?_, fun q => h0 (fun w => ?_)⟩
      · have new : ∀ j, j < i → dg x i ≠ dg x j := fun j hj e => q ((bb _ h6).mpr ⟨j, hj, e.symm⟩)
        rw [e1] at hy1
        subst hy1
        have M : ∃ m', m' < 64 ∧ nI (mm ||| 2 ^ dg x i) = nI m' ∧ ∀ p, p < 6 → (bitS m' p = 1 ↔ ∃ j, j < i + 1 ∧ dg x j = p) := by
          refine ⟨_, e2, rfl, fun p hp => ?_⟩
          rw [e3 p hp, bb p hp]
          constructor
          · rintro (⟨j, hj, e⟩ | e)
            · exact ⟨j, by omega, e⟩
            · exact ⟨i, by omega, e.symm⟩
          · rintro ⟨j, hj, e⟩
            by_cases w : j = i
            · subst w; exact Or.inr e.symm
            · exact Or.inl ⟨j, by omega, e⟩
        have D6 : ∀ j, j < i + 1 → dg x j < 6 := fun j hj => by
          by_cases w : j = i
          · rw [w]; exact h6
          · exact d6 j (by omega)
        have DD : ∀ j, j < i + 1 → ∀ k, k < j → dg x j ≠ dg x k := fun j hj k hk => by
          by_cases w : j = i
          · subst w; exact new k hk
          · exact dd j (by omega) k hk
        have J73 : ∀ z, z = nI (lsU (btS s) (dg x) i) → p_X7_winsBy_J73 F A (p_X7_winsBy_L8 F A (nI x) K n) K (nI x) (nI (mm ||| 2 ^ dg x i)) (nI (pw i)) z := by
          intro z hz
          unfold p_X7_winsBy_J73
          intro y hy
          have ey : y = nI (pw (i + 1)) := by rw [hy, ← pw_s i g6]; exact pk_div (d := 10) (by omega) (by omega) (by omega)
          exact ih _ _ _ ⟨ey, M, D6, DD, by rw [hz, if_neg (by omega)]; rfl⟩
        have J67 : nI (dg x i) = nI (lsU (btS s) (dg x) i) → p_X7_winsBy_J67 F A (p_X7_winsBy_L8 F A (nI x) K n) K (nI x) (nI (mm ||| 2 ^ dg x i)) (nI (pw i)) (nI (dg x i)) := by
          intro hz
          unfold p_X7_winsBy_J67
          exact J73 _ hz
        by_cases i0 : i = 0
        · subst i0
          exact ⟨fun _ => J67 rfl, fun q => absurd (show (-1 : Int32) < 0 by decide) q⟩
        · rw [if_neg i0]
          obtain ⟨j, rfl⟩ : ∃ j, i = j + 1 := ⟨i - 1, by omega⟩
          have e1 : j + 1 - 1 = j := by omega
          rw [e1]
          have hl := lsU_lt (b := btS s) j (fun k hk => d6 k (by omega))
          rw [ix6', nI_clamp (by omega), b _ (by omega)]
          refine ⟨fun q => absurd q (nI_pos (by omega)), fun _ => ⟨vp_in_nI (by omega) (by omega), fun c => J73 _ ?_, fun c => J67 ?_⟩⟩
          · rw [lsU, if_pos c]
          · rw [lsU, if_neg c]
      · obtain ⟨j, hj, e⟩ := (bb _ h6).mp q
        exact w.2 i g6 j hj e.symm
theorem okD_ge {x : Nat} (hx : x < 1000000) (h : okD x) : 12345 ≤ x := by
  obtain ⟨h6, hd⟩ := h
  rcases Nat.lt_or_ge x 12345 with q | q
  · exfalso
    have p0 : pw 0 = 100000 := by decide
    have p1 : pw 1 = 10000 := by decide
    have p2 : pw 2 = 1000 := by decide
    have p3 : pw 3 = 100 := by decide
    have p4 : pw 4 = 10 := by decide
    have p5 : pw 5 = 1 := by decide
    have d10 := hd 1 (by omega) 0 (by omega)
    have d20 := hd 2 (by omega) 0 (by omega)
    have d21 := hd 2 (by omega) 1 (by omega)
    have d30 := hd 3 (by omega) 0 (by omega)
    have d31 := hd 3 (by omega) 1 (by omega)
    have d32 := hd 3 (by omega) 2 (by omega)
    have d40 := hd 4 (by omega) 0 (by omega)
    have d41 := hd 4 (by omega) 1 (by omega)
    have d42 := hd 4 (by omega) 2 (by omega)
    have d43 := hd 4 (by omega) 3 (by omega)
    have d50 := hd 5 (by omega) 0 (by omega)
    have d51 := hd 5 (by omega) 1 (by omega)
    have d52 := hd 5 (by omega) 2 (by omega)
    have d53 := hd 5 (by omega) 3 (by omega)
    have d54 := hd 5 (by omega) 4 (by omega)
    unfold dg at d10 d20 d21 d30 d31 d32 d40 d41 d42 d43 d50 d51 d52 d53 d54
    rw [p0, p1] at d10
    rw [p0, p2] at d20
    rw [p1, p2] at d21
    rw [p0, p3] at d30
    rw [p1, p3] at d31
    rw [p2, p3] at d32
    rw [p0, p4] at d40
    rw [p1, p4] at d41
    rw [p2, p4] at d42
    rw [p3, p4] at d43
    rw [p0, p5] at d50
    rw [p1, p5] at d51
    rw [p2, p5] at d52
    rw [p3, p5] at d53
    rw [p4, p5] at d54
    have e0 : x / 100000 % 10 = 0 := by omega
    rw [e0] at d10 d20 d30 d40 d50
    have e1 : x / 10000 % 10 = 1 := by omega
    rw [e1] at d21 d31 d41 d51
    have e2 : x / 1000 % 10 = 2 := by omega
    rw [e2] at d32 d42 d52
    have e3 : x / 100 % 10 = 3 := by omega
    rw [e3] at d43 d53
    have e4 : x / 10 % 10 = 4 := by omega
    rw [e4] at d54
    omega
  · exact q
theorem pw_t : ∀ t, t < 6 → 10 ^ t = pw (5 - t) := by decide +kernel
theorem i_down : ∀ t, t < 6 → nI (5 - t) + (-1 : Int32) = if t + 1 < 6 then nI (5 - (t + 1)) else -1 := by decide +kernel
theorem s_X1_readOrder {F : tF} {A : tA} {x : Nat} (hx : x ≤ 543210) {K : Int32 → tF → tA → Prop} (h1 : okD x → ∀ A', (∀ j, j ≠ 1 → A' j = A j) → (∀ k, k < 6 → A' 1 k = nI (dg x k)) → K 1 F A') (h0 : ¬ okD x → ∀ A', K 0 F A') : p_X1_readOrder F A (nI x) K := by
  unfold p_X1_readOrder
  refine ⟨fun q => absurd q (nI_pos (by omega)), fun _ => ⟨fun _ => ?_, fun q => absurd (nI_le (a := x) (b := 543210) hx (by omega)) q⟩⟩
  refine lq5 (p_X1_readOrder_L19 K) (fun t F' A' r m i => F' = F ∧ r = nI (x / 10 ^ t) ∧ (i = if t < 6 then nI (5 - t) else -1) ∧ (∃ mm, mm < 64 ∧ m = nI mm ∧ ∀ p, p < 6 → (bitS mm p = 1 ↔ ∃ j, 6 - t ≤ j ∧ j < 6 ∧ dg x j = p)) ∧ (∀ j, 6 - t ≤ j → j < 6 → dg x j < 6) ∧ (∀ j, j < 6 → ∀ k, 6 - t ≤ k → k < j → dg x j ≠ dg x k) ∧ (∀ j, j ≠ 1 → A' j = A j) ∧ ∀ k, 6 - t ≤ k → k < 6 → A' 1 k = nI (dg x k)) 6 0 (by omega) ?_ ?_ ⟨rfl, by rw [Nat.pow_zero, Nat.div_one], rfl, ⟨0, by omega, rfl, fun p hp => ⟨fun q => absurd q (mask_0 p hp), fun ⟨j, hj, hj2, _⟩ => absurd hj (by omega)⟩⟩, fun j hj hj2 => absurd hj (by omega), fun j hj k hk hk2 => absurd hk (by omega), fun _ _ => rfl, fun k hk hk2 => absurd hk (by omega)⟩
  · rintro n F' A' r m i ⟨rfl, rfl, ei, _, d6, dd, t, b⟩
    rw [p_X1_readOrder_L19, ei, if_neg (by omega)]
    exact ⟨fun _ => h1 ⟨fun i hi => d6 i (by omega) hi, fun i hi j hj => dd i hi j (by omega) hj⟩ A' t (fun k hk => b k (by omega) hk), fun q => absurd (by decide) q⟩
  · rintro n u F' A' r m i g1 g6 ⟨rfl, rfl, ei, ⟨mm, hm, rfl, bb⟩, d6, dd, t, b⟩ ih
    rw [if_pos g6] at ei
    subst ei
    rw [p_X1_readOrder_L19]
    refine ⟨fun q => absurd q (nI_pos (by omega)), fun _ y hy z hz => ?_⟩
    have hx2 := Nat.div_le_self x (10 ^ u)
    have ed : y = nI (dg x (5 - u)) := by
      rw [hy]
      have := pk_rem (a := x / 10 ^ u) (d := 10) (by omega) (by omega) (by omega)
      unfold dg
      rw [← pw_t u g6]; exact this
    have ez : z = nI (x / 10 ^ (u + 1)) := by
      rw [hz, Nat.pow_succ, ← Nat.div_div_eq_div_mul]
      exact pk_div (d := 10) (by omega) (by omega) (by omega)
    subst ed ez
    have hd10 : dg x (5 - u) < 10 := Nat.mod_lt _ (by omega)
    refine ⟨fun c => h0 (fun q => ?_) _, fun c => ?_⟩
    · have := q.1 (5 - u) (by omega)
      exact nI_ge (a := dg x (5 - u)) (b := 6) this (by omega) c
    · have h6 : dg x (5 - u) < 6 := by
        rcases Nat.lt_or_ge (dg x (5 - u)) 6 with w | w
        · exact w
        · exact absurd (nI_le (a := 6) (b := dg x (5 - u)) w (by omega)) c
      obtain ⟨e1, e2, e3⟩ := mask_or mm hm (dg x (5 - u)) h6
      have eb : (nI mm >>> (nI (dg x (5 - u)) &&& 31)) &&& (1 : Int32) = bitS mm (dg x (5 - u)) := rfl
      rw [eb, nI_clamp (by omega)]
      refine ⟨fun q y1 hy1 => ⟨vp_in_nI (by omega) (by omega), fun f hf y2 hy2 => ?_⟩, fun q => h0 (fun w => ?_) _⟩
      · have new : ∀ j, 6 - u ≤ j → j < 6 → dg x j ≠ dg x (5 - u) := fun j hj hj2 e => q ((bb _ h6).mpr ⟨j, hj, hj2, e⟩)
        rw [e1] at hy1
        subst hy1
        refine ih _ _ _ _ _ ⟨rfl, rfl, ?_, ⟨_, e2, rfl, fun p hp => ?_⟩, fun j hj hj2 => ?_, fun j hj k hk hk2 => ?_, fun j hj => by rw [va_up_ne _ _ hj]; exact t j hj, fun k hk hk2 => ?_⟩
        · rw [hy2]; exact i_down u g6
        · rw [e3 p hp, bb p hp]
          constructor
          · rintro (⟨j, hj, hj2, e⟩ | e)
            · exact ⟨j, by omega, hj2, e⟩
            · exact ⟨5 - u, by omega, by omega, e.symm⟩
          · rintro ⟨j, hj, hj2, e⟩
            by_cases w : j = 5 - u
            · subst w; exact Or.inr e.symm
            · exact Or.inl ⟨j, by omega, hj2, e⟩
        · by_cases w : j = 5 - u
          · rw [w]; exact h6
          · exact d6 j (by omega) hj2
        · by_cases w : k = 5 - u
          · rw [w]; exact new j (by omega) hj
          · exact dd j hj k (by omega) hk2
        · rw [va_up_self, hf]
          by_cases w : k = 5 - u
          · rw [w, pk_us]
          · rw [pk_un w]; exact b k (by omega) hk2
      · obtain ⟨j, hj, hj2, e⟩ := (bb _ h6).mp q
        exact w.2 j hj2 (5 - u) (by omega) e
theorem Kp.of13 {A A' : tA} (h : ∀ k, k ≠ 13 → A' k = A k) : Kp A A' := fun k _ _ _ _ e => h k e
theorem HZ.t13 {Fn : tF} {An A : tA} (h : HZ Fn An A) {A' : tA} (u : ∀ k, k ≠ 13 → A' k = A k) : HZ Fn An A' :=
  ⟨by rw [u 0 (by omega)]; exact h.1, by rw [u 0 (by omega)]; exact h.2.1, by rw [u 0 (by omega)]; exact h.2.2.1, by rw [u 2 (by omega)]; exact h.2.2.2.1, by rw [u 3 (by omega)]; exact h.2.2.2.2⟩
theorem in_asked {x : Nat} (hx : x ≤ 543210) {K : Int32 → Prop} (h1 : 12345 ≤ x → K 1) (h0 : x < 12345 → K 0) : p_X7_isIn (nI x).toInt64 (12345 : Int64) (543210 : Int64) K :=
  s_X7_isIn (lo := 12345) (hi := 543210) rfl rfl (fun a _ => h1 ((nI_leI (a := 12345) (b := x) (by omega) (by omega)).mp a)) (fun q => h0 (by
    rcases Nat.lt_or_ge x 12345 with w | w
    · exact w
    · exact absurd ⟨nI_le (a := 12345) (b := x) w (by omega), nI_le (a := x) (b := 543210) hx (by omega)⟩ q))
theorem j_asked {F Fn Fd : tF} {An Ad : tA} {FM : tF} {A : tA} (h : HZ Fn An A) (x : Int32) : p_X6_asked F Fd Ad Fn An x (fun r _ _ => p_X7_asked FM A x (Rn FM A r Fn An)) := by
  obtain ⟨hr, ok, _⟩ := id h
  unfold p_X6_asked
  by_cases c : inR x 543211
  · obtain ⟨n, hn, rfl⟩ := c
    refine s_X1_readOrder (by omega) (fun od A1 t b => b1 (s_X1_hold hr ok (fun A2 t2 b2 => s_X1_lastStanding b2 (d := dg n) (fun k hk => ⟨od.1 k hk, by rw [t2 1 (by omega)]; exact b k hk⟩) ?_))) (fun nd A1 => b0 ?_)
    · unfold p_X7_asked
      refine in_asked (by omega) (fun _ => b1 (s_X7_meets ok (fun A3 t3 b3 => s_X7_winsBy b3 (by omega) (fun _ => ⟨fun _ => ⟨rfl, rfl, Kp.of13 t3, h.t13 t3⟩, fun q => ?_⟩) (fun q => absurd od q)))) (fun q => ?_)
      · have := lsU_lt (b := btS (A 0)) 5 (fun j hj => od.1 j (by omega))
        exact absurd (nI_pos' (by omega)) q
      · have := okD_ge (by omega) od; omega
    · unfold p_X7_asked
      exact in_asked (by omega) (fun _ => b1 (s_X7_meets ok (fun A3 t3 b3 => s_X7_winsBy b3 (by omega) (fun q => absurd q nd) (fun _ => ⟨fun q => absurd q (by decide), fun _ => ⟨rfl, rfl, Kp.of13 t3, h.t13 t3⟩⟩)))) (fun _ => b0 h.rn)
  · have X7 : p_X7_asked FM A x (Rn FM A (-1) Fn An) := by
      unfold p_X7_asked
      refine s_X7_isIn (lo := 12345) (hi := 543210) rfl rfl (fun a b => ?_) (fun _ => b0 h.rn)
      refine absurd ((inR_iff (by omega)).mpr ⟨fun q => ?_, ?_⟩) c
      · rw [Int32.le_iff_toInt_le] at a
        rw [Int32.lt_iff_toInt_lt] at q
        have e0 : (0 : Int32).toInt = 0 := by decide
        have e1 : (12345 : Int32).toInt = 12345 := by decide
        omega
      · rw [Int32.le_iff_toInt_le] at b
        rw [Int32.lt_iff_toInt_lt]
        have e0 : (543210 : Int32).toInt = 543210 := by decide
        have e1 : (nI 543211).toInt = 543211 := by decide
        omega
    unfold p_X1_readOrder
    exact cl0 (m := 543210) (by omega) (fun q => absurd q c) (fun _ => b0 X7)
