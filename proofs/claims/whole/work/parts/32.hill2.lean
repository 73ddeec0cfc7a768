/-! the class's hill, on -/
def orU (c : Nat → Prop) [∀ k, Decidable (c k)] : Nat → Int32
  | 0 => 0
  | k + 1 => if c k then orU c k ||| ((1 : Int32) <<< (nI k &&& 31)) else orU c k
def sumU (w : Nat → Int32) : Nat → Int32
  | 0 => 0
  | k + 1 => sumU w k + w k
def cntU (c : Nat → Prop) [∀ k, Decidable (c k)] : Nat → Int32
  | 0 => 0
  | k + 1 => if c k then cntU c k + 1 else cntU c k
def votersS (s : tF) (p : Nat) : Int32 := orU (fun o => voteS s o = p) (nS s)
def scaredS (s : tF) : Int32 := orU (fun o => s (23 + 4 * o) = 9) (nS s)
def weightS (s : tF) : Int32 := sumU (countS s) (nS s)
def placesS (s : tF) : Int32 := cntU (fun p => ¬ polS s p = 0) 6
def heardS (s : tF) : Int32 := cntU (fun o => ¬ countS s o = 0) (nS s)
def leadU (s : tF) (p q : Nat) : Nat → Int32
  | 0 => 0
  | k + 1 => if 0 < worthS s k p - worthS s k q then leadU s p q k + countS s k else if worthS s k p - worthS s k q < 0 then leadU s p q k - countS s k else leadU s p q k
def leadS (s : tF) (p q : Nat) : Int32 := leadU s p q (nS s)
theorem s_X2_votersOf {F : tF} {A : tA} {s : tF} (h : HR F A s) (ok : OkS s) {p : Nat} (hp : p < 6) {K : Int32 → Prop} (hk : K (votersS s p)) : p_X2_votersOf F A (nI p) K := by
  have hn := ok.n.2
  unfold p_X2_votersOf
  refine lq2 (p_X2_votersOf_L4 F A (nI p) K) (fun i b x => x = nI i ∧ b = orU (fun o => voteS s o = p) i) (nS s) 0 (by omega) ?_ ?_ ⟨rfl, rfl⟩
  · rintro n b x ⟨rfl, rfl⟩
    rw [p_X2_votersOf_L4, h.1.1, ok.n.1]
    exact ⟨fun _ => hk, fun c => absurd (nI_le (Nat.le_refl _) (by omega)) c⟩
  · rintro n i b x h1 h6 ⟨rfl, rfl⟩ ih
    rw [p_X2_votersOf_L4, h.1.1, ok.n.1]
    refine ⟨fun c => absurd c (nI_ge h6 (by omega)), fun _ => s_X2_voteOf h ok h6 ⟨fun c => ?_, fun c y hy => ?_⟩⟩
    · unfold p_X2_votersOf_J27
      refine fun y hy => ih _ _ ⟨by rw [hy]; exact nI_1 _, ?_⟩
      rw [orU, if_neg]
      intro q; exact c (by rw [q])
    · unfold p_X2_votersOf_J27
      refine fun y hy' => ih _ _ ⟨by rw [hy']; exact nI_1 _, ?_⟩
      rw [orU, if_pos, hy]
      have := voteS_lt s i
      exact (nI_eq (by omega) (by omega)).mp c
theorem s_X2_scaredOnes {F : tF} {A : tA} {s : tF} (h : HR F A s) (ok : OkS s) {K : Int32 → Prop} (hk : K (scaredS s)) : p_X2_scaredOnes F A K := by
  have hn := ok.n.2
  unfold p_X2_scaredOnes
  refine lq2 (p_X2_scaredOnes_L4 F A K) (fun i b x => x = nI i ∧ b = orU (fun o => s (23 + 4 * o) = 9) i) (nS s) 0 (by omega) ?_ ?_ ⟨rfl, rfl⟩
  · rintro n b x ⟨rfl, rfl⟩
    rw [p_X2_scaredOnes_L4, h.1.1, ok.n.1]
    exact ⟨fun _ => hk, fun c => absurd (nI_le (Nat.le_refl _) (by omega)) c⟩
  · rintro n i b x h1 h6 ⟨rfl, rfl⟩ ih
    rw [p_X2_scaredOnes_L4, h.1.1, ok.n.1, nI_clamp (by omega), (h.2.2.2.2 i h6).2.2.1]
    refine ⟨fun c => absurd c (nI_ge h6 (by omega)), fun _ => ⟨vp_in_nI (by omega) (by omega), fun c => ?_, fun c y hy => ?_⟩⟩
    · unfold p_X2_scaredOnes_J29
      refine fun y hy => ih _ _ ⟨by rw [hy]; exact nI_1 _, ?_⟩
      rw [orU, if_neg c]
    · unfold p_X2_scaredOnes_J29
      refine fun y hy' => ih _ _ ⟨by rw [hy']; exact nI_1 _, ?_⟩
      rw [orU, if_pos c, hy]
theorem s_X2_weightOfAll {F : tF} {A : tA} {s : tF} (h : HR F A s) (ok : OkS s) {K : Int32 → Prop} (hk : K (weightS s)) : p_X2_weightOfAll F A K := by
  have hn := ok.n.2
  unfold p_X2_weightOfAll
  refine lq2 (p_X2_weightOfAll_L4 F A K) (fun i b x => x = nI i ∧ b = sumU (countS s) i) (nS s) 0 (by omega) ?_ ?_ ⟨rfl, rfl⟩
  · rintro n b x ⟨rfl, rfl⟩
    rw [p_X2_weightOfAll_L4, h.1.1, ok.n.1]
    exact ⟨fun _ => hk, fun c => absurd (nI_le (Nat.le_refl _) (by omega)) c⟩
  · rintro n i b x h1 h6 ⟨rfl, rfl⟩ ih
    rw [p_X2_weightOfAll_L4, h.1.1, ok.n.1]
    exact ⟨fun c => absurd c (nI_ge h6 (by omega)), fun _ => s_X2_weightOf h ok h6 (fun y hy z hz => ih _ _ ⟨by rw [hz]; exact nI_1 _, by rw [hy]; rfl⟩)⟩
theorem s_X2_onesThatCount {F : tF} {A : tA} {s : tF} (h : HR F A s) (ok : OkS s) {K : Int32 → Prop} (hk : K (heardS s)) : p_X2_onesThatCount F A K := by
  have hn := ok.n.2
  unfold p_X2_onesThatCount
  refine lq2 (p_X2_onesThatCount_L4 F A K) (fun i b x => x = nI i ∧ b = cntU (fun o => ¬ countS s o = 0) i) (nS s) 0 (by omega) ?_ ?_ ⟨rfl, rfl⟩
  · rintro n b x ⟨rfl, rfl⟩
    rw [p_X2_onesThatCount_L4, h.1.1, ok.n.1]
    exact ⟨fun _ => hk, fun c => absurd (nI_le (Nat.le_refl _) (by omega)) c⟩
  · rintro n i b x h1 h6 ⟨rfl, rfl⟩ ih
    rw [p_X2_onesThatCount_L4, h.1.1, ok.n.1]
    refine ⟨fun c => absurd c (nI_ge h6 (by omega)), fun _ => s_X2_weightOf h ok h6 ⟨fun c => ?_, fun c y hy => ?_⟩⟩
    · unfold p_X2_onesThatCount_J23
      refine fun y hy => ih _ _ ⟨by rw [hy]; exact nI_1 _, ?_⟩
      rw [cntU, if_neg (fun q => q c)]
    · unfold p_X2_onesThatCount_J23
      refine fun y hy' => ih _ _ ⟨by rw [hy']; exact nI_1 _, ?_⟩
      rw [cntU, if_pos c, hy]
theorem s_X2_placesWithVotes {F : tF} {A : tA} {s : tF} (h : HR F A s) (ok : OkS s) {K : Int32 → tF → tA → Prop} (hk : ∀ A', (∀ k, k ≠ 7 → A' k = A k) → K (placesS s) F A') : p_X2_placesWithVotes F A K := by
  unfold p_X2_placesWithVotes
  refine s_X2_takeVotes h ok (fun A' t hb => ?_)
  refine lq2 (p_X2_placesWithVotes_L8 F A' K) (fun i b x => x = nI i ∧ b = cntU (fun p => ¬ polS s p = 0) i) 6 0 (by omega) ?_ ?_ ⟨rfl, rfl⟩
  · rintro n b x ⟨rfl, rfl⟩
    rw [p_X2_placesWithVotes_L8]
    exact ⟨fun _ => hk A' t, fun c => absurd (nI_le (a := 6) (b := 6) (by omega) (by omega)) c⟩
  · rintro n i b x h1 h6 ⟨rfl, rfl⟩ ih
    rw [p_X2_placesWithVotes_L8, nI_clamp (by omega), hb i h6]
    refine ⟨fun c => absurd c (nI_ge (a := i) (b := 6) h6 (by omega)), fun _ => ⟨vp_in_nI h6 (by omega), fun c => ?_, fun c y hy => ?_⟩⟩
    · unfold p_X2_placesWithVotes_J26
      refine fun y hy => ih _ _ ⟨by rw [hy]; exact nI_1 _, ?_⟩
      rw [cntU, if_neg (fun q => q c)]
    · unfold p_X2_placesWithVotes_J26
      refine fun y hy' => ih _ _ ⟨by rw [hy']; exact nI_1 _, ?_⟩
      rw [cntU, if_pos c, hy]
theorem s_X2_leadOf {F : tF} {A : tA} {s : tF} (h : HR F A s) (ok : OkS s) {p q : Nat} (hp : p < 6) (hq : q < 6) {K : Int32 → Prop} (hk : K (leadS s p q)) : p_X2_leadOf F A (nI p) (nI q) K := by
  have hn := ok.n.2
  unfold p_X2_leadOf
  refine lq2 (p_X2_leadOf_L5 F A (nI p) (nI q) K) (fun i b x => x = nI i ∧ b = leadU s p q i) (nS s) 0 (by omega) ?_ ?_ ⟨rfl, rfl⟩
  · rintro n b x ⟨rfl, rfl⟩
    rw [p_X2_leadOf_L5, h.1.1, ok.n.1]
    exact ⟨fun _ => hk, fun c => absurd (nI_le (Nat.le_refl _) (by omega)) c⟩
  · rintro n i b x h1 h6 ⟨rfl, rfl⟩ ih
    rw [p_X2_leadOf_L5, h.1.1, ok.n.1]
    refine ⟨fun c => absurd c (nI_ge h6 (by omega)), fun _ => s_X2_worthTo h ok h6 hp (s_X2_worthTo h ok h6 hq (fun y hy => ?_))⟩
    have J : ∀ z, z = leadU s p q (i + 1) → p_X2_leadOf_J62 F A (p_X2_leadOf_L5 F A (nI p) (nI q) K n) K (nI p) (nI q) z (nI i) := by
      intro z hz
      unfold p_X2_leadOf_J62
      exact fun y hy => ih _ _ ⟨by rw [hy]; exact nI_1 _, hz⟩
    refine ⟨fun c => ⟨fun d => J _ ?_, fun d => s_X2_weightOf h ok h6 (fun z hz => J _ ?_)⟩, fun c => s_X2_weightOf h ok h6 (fun z hz => J _ ?_)⟩
    · rw [leadU, ← hy, if_neg (Int32.not_lt.mpr c), if_neg (Int32.not_lt.mpr d)]
    · rw [leadU, ← hy, if_neg (Int32.not_lt.mpr c), if_pos (Int32.not_le.mp d), hz]
    · rw [leadU, ← hy, if_pos (Int32.not_le.mp c), hz]
theorem s_X2_copyFrom {F F1 : tF} {A A1 : tA} {s : tF} (h : HR F1 A1 s) (ok : OkS s) {K : tF → tA → Prop} (hk : ∀ F' A', HR F' A' s → K F' A') : p_X2_copyFrom F A F1 A1 K := by
  have hn := ok.n.2
  unfold p_X2_copyFrom
  intro f1 e1 f2 e2 f3 e3 f4 e4 f5 e5 f6 e6 f7 e7 y1 g1 y2 g2 y3 g3 y4 g4 y5 g5
  refine hk _ _ ?_
  obtain ⟨⟨q1, q2, q3, q4, q5⟩, l1, l2, l3, l4⟩ := h
  have cp : ∀ (f g : tF) (n k : Nat), k < n → va_cpy f g 0 0 n k = f k := fun f g n k hk => sb_cpy0 hk
  refine ⟨⟨?_, ?_, ?_, ?_, ?_⟩, fun k hk => ?_, fun k hk => ?_, fun k hk => ?_, fun o ho => ⟨?_, ?_, ?_, ?_⟩⟩
  · simp [upd, g1, q1]
  · simp [upd, g2, q2]
  · simp [upd, g3, q3]
  · simp [upd, g4, q4]
  · simp [upd, g5, q5]
  · rw [← l1 k hk, ← cp (A1 0) (A 0) 4 k hk, ← e1]; simp [va_up]
  · rw [← l2 k hk, ← cp (A1 1) (A 1) 6 k hk, ← e2]; simp [va_up]
  · rw [← l3 k hk, ← cp (A1 2) (A 2) 6 k hk, ← e3]; simp [va_up]
  · rw [← (l4 o ho).1, ← cp (A1 3) (A 3) 8 o (by omega), ← e4]; simp [va_up]
  · rw [← (l4 o ho).2.1, ← cp (A1 4) (A 4) 8 o (by omega), ← e5]; simp [va_up]
  · rw [← (l4 o ho).2.2.1, ← cp (A1 5) (A 5) 8 o (by omega), ← e6]; simp [va_up]
  · rw [← (l4 o ho).2.2.2, ← cp (A1 6) (A 6) 8 o (by omega), ← e7]; simp [va_up]
/-- one more sheep -/
def addS (s : tF) (k e f l : Int32) : tF := upd (upd (upd (upd (upd s (21 + 4 * nS s) k) (22 + 4 * nS s) e) (23 + 4 * nS s) f) (24 + 4 * nS s) l) 0 (nI (nS s + 1))
theorem nS_add {s : tF} {k e f l : Int32} (h : nS s < 8) : nS (addS s k e f l) = nS s + 1 := by
  have : addS s k e f l 0 = nI (nS s + 1) := by simp [addS, upd]
  unfold nS at *
  rw [this]; exact nI_clamp (by omega)
theorem addS_lo {s : tF} {k e f l : Int32} {j : Nat} (h0 : j ≠ 0) (h : j < 21 + 4 * nS s) : addS s k e f l j = s j := by
  unfold addS upd
  rw [if_neg h0, if_neg (by omega), if_neg (by omega), if_neg (by omega), if_neg (by omega)]
theorem addS_new {s : tF} {k e f l : Int32} : addS s k e f l (21 + 4 * nS s) = k ∧ addS s k e f l (22 + 4 * nS s) = e ∧ addS s k e f l (23 + 4 * nS s) = f ∧ addS s k e f l (24 + 4 * nS s) = l := by
  unfold addS upd
  refine ⟨?_, ?_, ?_, ?_⟩
  · rw [if_neg (by omega), if_neg (by omega), if_neg (by omega), if_neg (by omega), if_pos rfl]
  · rw [if_neg (by omega), if_neg (by omega), if_neg (by omega), if_pos rfl]
  · rw [if_neg (by omega), if_neg (by omega), if_pos rfl]
  · rw [if_neg (by omega), if_pos rfl]
theorem OkS.add {s : tF} (h : OkS s) (hn : nS s < 8) {k e f l : Int32} (hk : upto k 5) (he : upto e 9) (hf : upto f 9) (hl : upto l 5) : OkS (addS s k e f l) := by
  refine ⟨⟨nS s + 1, by omega, by simp [addS, upd]⟩, ?_, ?_, fun j hj => ?_, ?_, fun p hp => ?_, fun p hp => ?_, fun o ho => ?_⟩
  · rw [addS_lo (by omega) (by omega)]; exact h.2.1
  · rw [addS_lo (by omega) (by omega)]; exact h.2.2.1
  · rw [addS_lo (by omega) (by omega)]; exact h.2.2.2.1 j hj
  · rw [addS_lo (by omega) (by omega)]; exact h.2.2.2.2.1
  · rw [addS_lo (by omega) (by omega)]; exact h.2.2.2.2.2.1 p hp
  · rw [addS_lo (by omega) (by omega)]; exact h.2.2.2.2.2.2.1 p hp
  · rw [nS_add hn] at ho
    rcases Nat.lt_or_ge o (nS s) with ho' | ho'
    · obtain ⟨a, b, c, d⟩ := h.2.2.2.2.2.2.2 o ho'
      refine ⟨?_, ?_, ?_, ?_⟩
      · rw [addS_lo (by omega) (by omega)]; exact a
      · rw [addS_lo (by omega) (by omega)]; exact b
      · rw [addS_lo (by omega) (by omega)]; exact c
      · rw [addS_lo (by omega) (by omega)]; exact d
    · have e0 : o = nS s := by omega
      subst e0
      obtain ⟨a, b, c, d⟩ := addS_new (s := s) (k := k) (e := e) (f := f) (l := l)
      exact ⟨by rw [a]; exact hk, by rw [b]; exact he, by rw [c]; exact hf, by rw [d]; exact hl⟩
theorem s_X2_add {F : tF} {A : tA} {s : tF} (h : HR F A s) (ok : OkS s) (hn : nS s < 8) {k e f l : Int32} {K : tF → tA → Prop} (hk : ∀ F' A', HR F' A' (addS s k e f l) → K F' A') : p_X2_add F A k e f l K := by
  have e8 : F 8 = nI (nS s) := by rw [h.1.1]; exact ok.n.1
  have hi : vp_in (F 8) 8 := by rw [e8]; exact vp_in_nI hn (by omega)
  have c8 : (F 8).toNatClampNeg = nS s := by rw [e8]; exact nI_clamp (by omega)
  unfold p_X2_add
  rw [c8]
  refine ⟨fun _ => ⟨hi, fun f1 e1 => ⟨hi, fun f2 e2 => ⟨hi, fun f3 e3 => ⟨hi, fun f4 e4 => fun y hy => hk _ _ ?_⟩⟩⟩⟩, fun c => absurd (by rw [e8]; exact nI_lt (a := nS s) (b := 8) hn (by omega)) c⟩
  obtain ⟨⟨q1, q2, q3, q4, q5⟩, l1, l2, l3, l4⟩ := h
  have lo : ∀ j, j ≠ 0 → j < 21 + 4 * nS s → addS s k e f l j = s j := fun j h0 h1 => addS_lo h0 h1
  refine ⟨⟨?_, ?_, ?_, ?_, ?_⟩, fun j hj => ?_, fun j hj => ?_, fun j hj => ?_, fun o ho => ?_⟩
  · have : addS s k e f l 0 = nI (nS s + 1) := by simp [addS, upd]
    rw [this]; simp only [upd, if_true]; rw [hy, e8]; exact nI_1 _
  · rw [lo 3 (by omega) (by omega), ← q2]; simp [upd]
  · rw [lo 4 (by omega) (by omega), ← q3]; simp [upd]
  · rw [lo 1 (by omega) (by omega), ← q4]; simp [upd]
  · rw [lo 2 (by omega) (by omega), ← q5]; simp [upd]
  · rw [lo _ (by omega) (by omega), ← l1 j hj]; simp [va_up]
  · rw [lo _ (by omega) (by omega), ← l2 j hj]; simp [va_up]
  · rw [lo _ (by omega) (by omega), ← l3 j hj]; simp [va_up]
  · rw [nS_add hn] at ho
    have v3 : ∀ j, va_up (va_up (va_up (va_up A 3 f1) 4 f2) 5 f3) 6 f4 3 j = if j = nS s then k else A 3 j := by intro j; simp [va_up, e1, upd]
    have v4 : ∀ j, va_up (va_up (va_up (va_up A 3 f1) 4 f2) 5 f3) 6 f4 4 j = if j = nS s then e else A 4 j := by intro j; simp [va_up, e2, upd]
    have v5 : ∀ j, va_up (va_up (va_up (va_up A 3 f1) 4 f2) 5 f3) 6 f4 5 j = if j = nS s then f else A 5 j := by intro j; simp [va_up, e3, upd]
    have v6 : ∀ j, va_up (va_up (va_up (va_up A 3 f1) 4 f2) 5 f3) 6 f4 6 j = if j = nS s then l else A 6 j := by intro j; simp [va_up, e4, upd]
    rw [v3, v4, v5, v6]
    rcases Nat.lt_or_ge o (nS s) with ho' | ho'
    · rw [if_neg (by omega), if_neg (by omega), if_neg (by omega), if_neg (by omega), lo _ (by omega) (by omega), lo _ (by omega) (by omega), lo _ (by omega) (by omega), lo _ (by omega) (by omega)]
      exact l4 o ho'
    · have e0 : o = nS s := by omega
      subst e0
      obtain ⟨a, b, c, d⟩ := addS_new (s := s) (k := k) (e := e) (f := f) (l := l)
      rw [if_pos rfl, if_pos rfl, if_pos rfl, if_pos rfl, a, b, c, d]
      exact ⟨rfl, rfl, rfl, rfl⟩
