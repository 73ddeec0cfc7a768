/-! a day of the class's hill, days, days by draws -/
theorem dayS_g (s : tF) {p : Nat} (hp : p < 6) : dayS s (9 + p) = heldI (if nI p = atS s then s (9 + p) - s 7 else s (9 + p) + 1) := by
  unfold dayS
  rw [if_neg (by omega), if_neg (by omega), if_pos (by omega)]
  have : 9 + p - 9 = p := by omega
  rw [this]
theorem dayS_f (s : tF) {o : Nat} (ho : o < nS s) : dayS s (23 + 4 * o) = heldI (if s (23 + 4 * o) < s (15 + (atS s).toNatClampNeg) then s (23 + 4 * o) + 1 else s (23 + 4 * o) - tameS s o) := by
  unfold dayS
  rw [if_neg (by omega), if_neg (by omega), if_neg (by omega), if_pos (by omega)]
  have : (23 + 4 * o - 21) / 4 = o := by omega
  rw [this]
theorem dayS_o (s : tF) {k : Nat} (h1 : k ≠ 1) (h3 : k ≠ 3) (h9 : k < 9 ∨ 15 ≤ k) (h21 : k < 21 ∨ (k - 21) % 4 ≠ 2) : dayS s k = s k := by
  unfold dayS
  rw [if_neg h1, if_neg h3, if_neg (by omega), if_neg (by omega)]
theorem tame_w {F : tF} {A : tA} {s : tF} {o : Nat} (ho : o < 8) (hA : A 3 o = s (21 + 4 * o)) {K : Int32 → Prop} (hk : K (tameS s o)) : p_X2_tamenessOf F A (nI o) K := by
  have eo : (nI o).toNatClampNeg = o := nI_clamp (by omega)
  have io : vp_in (nI o) 8 := vp_in_nI (by omega) (by omega)
  unfold p_X2_tamenessOf
  rw [eo, hA]
  unfold tameS at hk
  refine ⟨io, fun c => ?_, fun c => ?_, fun c => ?_, fun c => ?_, fun c => ?_, fun c1 c2 c3 c4 c5 => ?_⟩
  · simpa [c] using hk
  · simpa [c] using hk
  · simpa [c] using hk
  · simpa [c] using hk
  · simpa [c] using hk
  · simpa [c1, c2, c3, c4, c5] using hk
theorem s_X2_passDay {F : tF} {A : tA} {s : tF} (h : HR F A s) (ok : OkS s) {K : tF → tA → Prop} (hk : ∀ F' A', HR F' A' (dayS s) → K F' A') : p_X2_passDay F A K := by
  have hn := ok.n.2
  obtain ⟨va, hva, eva⟩ := atS_up ok
  have cat : (atS s).toNatClampNeg = va := by rw [eva]; exact nI_clamp (by omega)
  obtain ⟨⟨q1, q2, q3, q4, q5⟩, l1, l2, l3, l4⟩ := id h
  unfold p_X2_passDay
  refine s_X2_takeVotes h ok (fun A1 t hb => ?_)
  have f9 : F 9 = nI (s 3).toNatClampNeg := by rw [q2]; exact ok.at.1
  refine s_X2_favouriteOfTally ok.at.2 f9 ?_
  have ew : favS (A1 7) (F 9) = winS s := by rw [q2]; exact favS_cg _ hb
  rw [ew, q2]
  -- the fears
  have J2 : ∀ F2 : tF, F2 9 = atS s → (∀ k, k ≠ 9 → F2 k = F k) → ∀ A2 : tA, (∀ k, k ≠ 7 → k ≠ 1 → A2 k = A k) → (∀ p, p < 6 → A2 1 p = dayS s (9 + p)) → ∃ n105, p_X2_passDay_L105 K n105 F2 A2 (0 : Int32) := by
    intro F2 g9 gk A2 t2 b2
    refine lq3 (p_X2_passDay_L105 K) (fun i F' A' x => x = nI i ∧ F' = F2 ∧ (∀ k, k ≠ 7 → k ≠ 1 → k ≠ 5 → A' k = A k) ∧ (∀ p, p < 6 → A' 1 p = dayS s (9 + p)) ∧ (∀ o, o < nS s → A' 5 o = if o < i then dayS s (23 + 4 * o) else s (23 + 4 * o))) (nS s) 0 (by omega) ?_ ?_ ⟨rfl, rfl, fun k a b _ => t2 k a b, b2, fun o ho => by rw [if_neg (by omega), t2 5 (by omega) (by omega)]; exact (l4 o ho).2.2.1⟩
    · rintro n F' A' x ⟨rfl, rfl, t3, b3, b5⟩
      rw [p_X2_passDay_L105, gk 8 (by omega), q1, ok.n.1]
      refine ⟨fun _ y hy => hk _ _ ?_, fun c => absurd (nI_le (Nat.le_refl _) (by omega)) c⟩
      refine ⟨⟨?_, ?_, ?_, ?_, ?_⟩, fun k hk => ?_, fun p hp => b3 p hp, fun p hp => ?_, fun o ho => ?_⟩
      · simp only [upd]; rw [if_neg (by omega), gk 8 (by omega), q1, dayS_o s (by omega) (by omega) (by omega) (by omega)]
      · simp only [upd]; rw [if_neg (by omega), g9]; simp [dayS]
      · simp only [upd]; rw [if_neg (by omega), gk 10 (by omega), q3, dayS_o s (by omega) (by omega) (by omega) (by omega)]
      · simp only [upd]; rw [if_pos trivial, hy, gk 11 (by omega), q4]; simp [dayS]
      · simp only [upd]; rw [if_neg (by omega), gk 12 (by omega), q5, dayS_o s (by omega) (by omega) (by omega) (by omega)]
      · rw [t3 0 (by omega) (by omega) (by omega), l1 k hk, dayS_o s (by omega) (by omega) (by omega) (by omega)]
      · rw [t3 2 (by omega) (by omega) (by omega), l3 p hp, dayS_o s (by omega) (by omega) (by omega) (by omega)]
      · rw [nS_day] at ho
        obtain ⟨m1, m2, m3, m4⟩ := l4 o ho
        have b := b5 o ho
        rw [if_pos ho] at b
        refine ⟨?_, ?_, b, ?_⟩
        · rw [t3 3 (by omega) (by omega) (by omega), m1, dayS_o s (by omega) (by omega) (by omega) (by omega)]
        · rw [t3 4 (by omega) (by omega) (by omega), m2, dayS_o s (by omega) (by omega) (by omega) (by omega)]
        · rw [t3 6 (by omega) (by omega) (by omega), m4, dayS_o s (by omega) (by omega) (by omega) (by omega)]
    · rintro n i F' A' x h1 h6 ⟨rfl, rfl, t3, b3, b5⟩ ih
      rw [p_X2_passDay_L105, gk 8 (by omega), q1, ok.n.1]
      have ei : (nI i).toNatClampNeg = i := nI_clamp (by omega)
      have ii : vp_in (nI i) 8 := vp_in_nI (by omega) (by omega)
      have e5 : A' 5 i = s (23 + 4 * i) := by rw [b5 i h6, if_neg (by omega)]
      have e2 : A' 2 (F' 9).toNatClampNeg = s (15 + (atS s).toNatClampNeg) := by rw [t3 2 (by omega) (by omega) (by omega), g9]; exact l3 _ (by omega)
      have J169 : ∀ z : Int32, heldI z = dayS s (23 + 4 * i) → p_X2_passDay_J169 F' A' (p_X2_passDay_L105 K n) K (nI i) z (nI i) := by
        intro z hz
        unfold p_X2_passDay_J169 p_X6_heldToFigure
        rw [held_x6, hz]
        refine ⟨ii, fun f hf y hy => ih _ _ _ ⟨by rw [hy]; exact nI_1 _, rfl, fun k a b c => ?_, fun p hp => ?_, fun o ho => ?_⟩⟩
        · rw [va_up_ne _ _ c]; exact t3 k a b c
        · rw [va_up_ne _ _ (by omega)]; exact b3 p hp
        · rw [va_up_self, hf, ei]
          unfold upd
          by_cases e : o = i
          · rw [if_pos e, if_pos (by omega), e]
          · rw [if_neg e, b5 o ho]
            by_cases e' : o < i
            · rw [if_pos e', if_pos (by omega)]
            · rw [if_neg e', if_neg (by omega)]
      refine ⟨fun c => absurd c (nI_ge h6 (by omega)), fun _ => ⟨by rw [g9, eva]; exact vp_in_nI (by omega) (by omega), ii, ?_⟩⟩
      rw [ei, e2, e5]
      unfold p_X2_passDay_J136
      rw [ei, e5]
      refine ⟨fun c => ⟨fun _ => ⟨ii, tame_w (s := s) (by omega) (by rw [t3 3 (by omega) (by omega) (by omega)]; exact (l4 i h6).1) (J169 _ ?_)⟩, fun q => absurd rfl q⟩, fun c => ⟨fun q => absurd q (by decide), fun _ => ⟨ii, J169 _ ?_⟩⟩⟩
      · rw [dayS_f s h6, if_neg (Int32.not_lt.mpr c)]
      · rw [dayS_f s h6, if_pos (Int32.not_le.mp c)]
  have J1 : ∀ F2 : tF, F2 9 = atS s → (∀ k, k ≠ 9 → F2 k = F k) → p_X2_passDay_J48 F2 A1 K := by
    intro F2 g9 gk
    unfold p_X2_passDay_J48
    refine lq3 (p_X2_passDay_L50 K) (fun i F' A' x => x = nI i ∧ F' = F2 ∧ (∀ k, k ≠ 7 → k ≠ 1 → A' k = A k) ∧ (∀ p, p < 6 → A' 1 p = if p < i then dayS s (9 + p) else s (9 + p))) 6 0 (by omega) ?_ ?_ ⟨rfl, rfl, fun k a b => t k a, fun p hp => by rw [if_neg (by omega), t 1 (by omega)]; exact l2 p hp⟩
    · rintro n F' A' x ⟨rfl, rfl, t3, b3⟩
      rw [p_X2_passDay_L50]
      exact ⟨fun _ => J2 _ g9 gk A' t3 (fun p hp => by rw [b3 p hp, if_pos hp]), fun c => absurd (nI_le (a := 6) (b := 6) (by omega) (by omega)) c⟩
    · rintro n i F' A' x h1 h6 ⟨rfl, rfl, t3, b3⟩ ih
      have ei : (nI i).toNatClampNeg = i := nI_clamp (by omega)
      have ii : vp_in (nI i) 6 := vp_in_nI (by omega) (by omega)
      have e1 : A' 1 i = s (9 + i) := by rw [b3 i h6, if_neg (by omega)]
      have J93 : ∀ z : Int32, heldI z = dayS s (9 + i) → p_X2_passDay_J93 F' A' (p_X2_passDay_L50 K n) K (nI i) z (nI i) := by
        intro z hz
        unfold p_X2_passDay_J93 p_X6_heldToFigure
        rw [held_x6, hz]
        refine ⟨ii, fun f hf y hy => ih _ _ _ ⟨by rw [hy]; exact nI_1 _, rfl, fun k a b => ?_, fun p hp => ?_⟩⟩
        · rw [va_up_ne _ _ b]; exact t3 k a b
        · rw [va_up_self, hf, ei]
          unfold upd
          by_cases e : p = i
          · rw [if_pos e, if_pos (by omega), e]
          · rw [if_neg e, b3 p hp]
            by_cases e' : p < i
            · rw [if_pos e', if_pos (by omega)]
            · rw [if_neg e', if_neg (by omega)]
      rw [p_X2_passDay_L50, g9, ei, e1, t3 0 (by omega) (by omega), l1 2 (by omega)]
      refine ⟨fun c => absurd c (nI_ge (a := i) (b := 6) h6 (by omega)), fun _ => ⟨fun c => ⟨ii, J93 _ ?_⟩, fun c => ⟨ii, J93 _ ?_⟩⟩⟩
      · rw [dayS_g s h6, if_neg c]
      · rw [dayS_g s h6, if_pos c]
  refine ⟨fun c => ⟨fun d => J1 F ?_ (fun _ _ => rfl), fun d y hy => J1 _ ?_ (fun k hk => by simp [upd, hk])⟩, fun c y hy => J1 _ ?_ (fun k hk => by simp [upd, hk])⟩
  · rw [q2]; unfold atS; rw [if_neg (Int32.not_lt.mpr c), if_neg (Int32.not_lt.mpr d)]
  · simp only [upd]; rw [if_pos trivial, hy]; unfold atS; rw [if_neg (Int32.not_lt.mpr c), if_pos (Int32.not_le.mp d)]
  · simp only [upd]; rw [if_pos trivial, hy]; unfold atS; rw [if_pos (Int32.not_le.mp c)]
def daysS : Nat → tF → tF
  | 0, s => s
  | k + 1, s => dayS (daysS k s)
theorem daysS_ok {s : tF} (ok : OkS s) : ∀ k, OkS (daysS k s)
  | 0 => ok
  | k + 1 => (daysS_ok ok k).day
theorem daysS_n {s : tF} : ∀ k, nS (daysS k s) = nS s
  | 0 => rfl
  | k + 1 => by rw [daysS, nS_day]; exact daysS_n k
theorem s_X2_passDays {F : tF} {A : tA} {s : tF} (h : HR F A s) (ok : OkS s) {n : Nat} (hn : n ≤ 60) {K : tF → tA → Prop} (hk : ∀ F' A', HR F' A' (daysS n s) → K F' A') : p_X2_passDays F A (nI n) K := by
  unfold p_X2_passDays
  refine lq3 (p_X2_passDays_L2 (nI n) K) (fun i F' A' x => x = nI i ∧ HR F' A' (daysS i s)) n 0 (by omega) ?_ ?_ ⟨rfl, h⟩
  · rintro m F' A' x ⟨rfl, h'⟩
    rw [p_X2_passDays_L2]
    exact ⟨fun _ => hk _ _ h', fun c => absurd (nI_le (Nat.le_refl _) (by omega)) c⟩
  · rintro m i F' A' x h1 h6 ⟨rfl, h'⟩ ih
    rw [p_X2_passDays_L2]
    exact ⟨fun c => absurd c (nI_ge h6 (by omega)), fun _ => s_X2_passDay h' (daysS_ok ok i) (fun F2 A2 h2 y hy => ih _ _ _ ⟨by rw [hy]; exact nI_1 _, h2⟩)⟩
def zS (s : tF) : Int32 := s 2 * 1103515245 + 12345
def drS (s : tF) : Int32 := ((zS s).toUInt32 >>> (((16 : Int32)).toUInt32 &&& Int32.toUInt32 31)).toInt32
def rS (s : tF) : Nat := (zS s).toBitVec.toNat / 65536
theorem drS_eq (s : tF) : drS s = nI (rS s) := by
  unfold drS rS
  have h := pk_ushr (zS s) 16 16 (by decide)
  have h2 : ((zS s).toUInt32 >>> (((16 : Int32)).toUInt32 &&& Int32.toUInt32 31)).toInt32.toBitVec.toNat = (nI ((zS s).toBitVec.toNat / 65536)).toBitVec.toNat := by
    rw [h, pk_tn]
    have := (zS s).toBitVec.isLt
    omega
  exact Int32.toBitVec_inj.mp (BitVec.eq_of_toNat_eq h2)
theorem rS_lt (s : tF) : rS s < 65536 := by
  unfold rS
  have := (zS s).toBitVec.isLt
  omega
theorem drS_rem (s : tF) {d : Nat} (h0 : 0 < d) (hd : d < 1000) : nI (rS s) - nI (rS s) / nI d * nI d = nI (rS s % d) := pk_rem (by have := rS_lt s; omega) h0 (by omega)
def z1S (s : tF) : tF := upd s 2 (zS s)
def drawS (s : tF) : tF :=
  if nS s = 0 then s
  else if nI (rS (z1S s) % 100) < s 8 then upd (z1S (z1S (z1S s))) (24 + 4 * (rS s % nS s)) (nI (rS (z1S (z1S s)) % 6))
  else z1S (z1S s)
theorem z1S_n (s : tF) : nS (z1S s) = nS s := by simp [nS, z1S, upd]
theorem z1S_o (s : tF) {k : Nat} (h : k ≠ 2) : z1S s k = s k := by simp [z1S, upd, h]
theorem OkS.z1 {s : tF} (h : OkS s) : OkS (z1S s) := by
  obtain ⟨h1, h2, h3, h4, h5, h6, h7, h8⟩ := h
  refine ⟨?_, ?_, ?_, fun k hk => ?_, ?_, fun k hk => ?_, fun k hk => ?_, fun o ho => ?_⟩
  · rw [z1S_o s (by omega)]; exact h1
  · rw [z1S_o s (by omega)]; exact h2
  · rw [z1S_o s (by omega)]; exact h3
  · rw [z1S_o s (by omega)]; exact h4 k hk
  · rw [z1S_o s (by omega)]; exact h5
  · rw [z1S_o s (by omega)]; exact h6 k hk
  · rw [z1S_o s (by omega)]; exact h7 k hk
  · rw [z1S_n] at ho
    obtain ⟨a, b, c, d⟩ := h8 o ho
    refine ⟨?_, ?_, ?_, ?_⟩
    · rw [z1S_o s (by omega)]; exact a
    · rw [z1S_o s (by omega)]; exact b
    · rw [z1S_o s (by omega)]; exact c
    · rw [z1S_o s (by omega)]; exact d
theorem OkS.look {s : tF} (h : OkS s) {o : Nat} (ho : o < nS s) {l : Int32} (hl : upto l 5) : OkS (upd s (24 + 4 * o) l) := by
  obtain ⟨h1, h2, h3, h4, h5, h6, h7, h8⟩ := h
  have e : ∀ k, k ≠ 24 + 4 * o → upd s (24 + 4 * o) l k = s k := fun k hk => by simp [upd, hk]
  have en : nS (upd s (24 + 4 * o) l) = nS s := by unfold nS; rw [e 0 (by omega)]
  refine ⟨?_, ?_, ?_, fun k hk => ?_, ?_, fun k hk => ?_, fun k hk => ?_, fun j hj => ?_⟩
  · rw [e _ (by omega)]; exact h1
  · rw [e _ (by omega)]; exact h2
  · rw [e _ (by omega)]; exact h3
  · rw [e _ (by omega)]; exact h4 k hk
  · rw [e _ (by omega)]; exact h5
  · rw [e _ (by omega)]; exact h6 k hk
  · rw [e _ (by omega)]; exact h7 k hk
  · rw [en] at hj
    obtain ⟨a, b, c, d⟩ := h8 j hj
    refine ⟨?_, ?_, ?_, ?_⟩
    · rw [e _ (by omega)]; exact a
    · rw [e _ (by omega)]; exact b
    · rw [e _ (by omega)]; exact c
    · by_cases q : j = o
      · subst q; simp only [upd, if_true]; exact hl
      · rw [e _ (by omega)]; exact d
theorem OkS.draw {s : tF} (h : OkS s) : OkS (drawS s) := by
  unfold drawS
  split
  · exact h
  · split
    · refine h.z1.z1.z1.look ?_ ⟨_, ?_, rfl⟩
      · rw [z1S_n, z1S_n, z1S_n]; exact Nat.mod_lt _ (by omega)
      · have := Nat.mod_lt (rS (z1S (z1S s))) (show 0 < 6 by omega); omega
    · exact h.z1.z1
theorem s_X2_drawn {F : tF} {A : tA} {s : tF} (h : HR F A s) {K : Int32 → tF → tA → Prop} (hk : ∀ F', HR F' A (z1S s) → K (nI (rS s)) F' A) : p_X2_drawn F A K := by
  unfold p_X2_drawn
  intro y hy
  obtain ⟨⟨q1, q2, q3, q4, q5⟩, l1, l2, l3, l4⟩ := h
  have ey : y = zS s := by rw [hy, q5]; rfl
  subst ey
  have e := drS_eq s
  unfold drS at e
  rw [e]
  refine hk _ ⟨⟨?_, ?_, ?_, ?_, ?_⟩, fun k hk => ?_, fun k hk => ?_, fun k hk => ?_, fun o ho => ?_⟩
  · rw [z1S_o s (by omega), ← q1]; simp [upd]
  · rw [z1S_o s (by omega), ← q2]; simp [upd]
  · rw [z1S_o s (by omega), ← q3]; simp [upd]
  · rw [z1S_o s (by omega), ← q4]; simp [upd]
  · simp [upd, z1S]
  · rw [z1S_o s (by omega)]; exact l1 k hk
  · rw [z1S_o s (by omega)]; exact l2 k hk
  · rw [z1S_o s (by omega)]; exact l3 k hk
  · rw [z1S_n] at ho
    rw [z1S_o s (by omega), z1S_o s (by omega), z1S_o s (by omega), z1S_o s (by omega)]; exact l4 o ho
theorem HR.look {F : tF} {A : tA} {s : tF} (h : HR F A s) (ok : OkS s) {o : Nat} (ho : o < nS s) {l : Int32} {f : tF} (hf : f = upd (A 6) o l) : HR F (va_up A 6 f) (upd s (24 + 4 * o) l) := by
  obtain ⟨⟨q1, q2, q3, q4, q5⟩, l1, l2, l3, l4⟩ := h
  have e : ∀ k, k ≠ 24 + 4 * o → upd s (24 + 4 * o) l k = s k := fun k hk => by simp [upd, hk]
  have en : nS (upd s (24 + 4 * o) l) = nS s := by unfold nS; rw [e 0 (by omega)]
  have v : ∀ k, k ≠ 6 → va_up A 6 f k = A k := fun k hk => va_up_ne _ _ hk
  have hn := ok.n.2
  refine ⟨⟨?_, ?_, ?_, ?_, ?_⟩, fun k hk => ?_, fun k hk => ?_, fun k hk => ?_, fun j hj => ?_⟩
  · rw [e _ (by omega)]; exact q1
  · rw [e _ (by omega)]; exact q2
  · rw [e _ (by omega)]; exact q3
  · rw [e _ (by omega)]; exact q4
  · rw [e _ (by omega)]; exact q5
  · rw [e _ (by omega), v 0 (by omega)]; exact l1 k hk
  · rw [e _ (by omega), v 1 (by omega)]; exact l2 k hk
  · rw [e _ (by omega), v 2 (by omega)]; exact l3 k hk
  · rw [en] at hj
    obtain ⟨a, b, c, d⟩ := l4 j hj
    rw [e (21 + 4 * j) (by omega), e (22 + 4 * j) (by omega), e (23 + 4 * j) (by omega), v 3 (by omega), v 4 (by omega), v 5 (by omega), va_up_self, hf]
    refine ⟨a, b, c, ?_⟩
    by_cases q : j = o
    · subst q; simp [upd]
    · rw [e _ (by omega)]; simp only [upd]; rw [if_neg q]; exact d
theorem s_X2_passDayByDraws {F : tF} {A : tA} {s : tF} (h : HR F A s) (ok : OkS s) {K : tF → tA → Prop} (hk : ∀ F' A', HR F' A' (dayS (drawS s)) → K F' A') : p_X2_passDayByDraws F A K := by
  have hn := ok.n.2
  have J : ∀ F2 A2, HR F2 A2 (drawS s) → p_X2_passDayByDraws_J46 F2 A2 K := by
    intro F2 A2 h2
    unfold p_X2_passDayByDraws_J46
    exact s_X2_passDay h2 ok.draw (fun F3 A3 h3 => hk F3 A3 h3)
  unfold p_X2_passDayByDraws
  rw [h.1.1, ok.n.1]
  refine ⟨fun c => J F A ?_, fun c => s_X2_drawn h (fun F1 h1 => ?_)⟩
  · have : nS s = 0 := by
      rcases Nat.eq_zero_or_pos (nS s) with e | e
      · exact e
      · exact absurd c (nI_nle e (by omega))
    unfold drawS; rw [if_pos this]; exact h
  · have hp : 0 < nS s := by
      rcases Nat.eq_zero_or_pos (nS s) with e | e
      · rw [e] at c; exact absurd (by decide) c
      · exact e
    have e1 : F1 8 = nI (nS s) := by rw [h1.1.1, z1S_o s (by omega)]; exact ok.n.1
    rw [e1]
    refine ⟨nI_ne0 hp (by omega), fun y hy => s_X2_drawn h1 (fun F2 h2 => ?_)⟩
    have e2 : A 0 3 = s 8 := h.2.1 3 (by omega)
    rw [drS_rem s hp (by omega)] at hy
    have hm : rS s % nS s < nS s := Nat.mod_lt _ hp
    have e3 : nI (rS (z1S s)) - nI (rS (z1S s)) / (100 : Int32) * (100 : Int32) = nI (rS (z1S s) % 100) := drS_rem (z1S s) (d := 100) (by omega) (by omega)
    rw [e2, e3]
    refine ⟨fun d => J _ _ ?_, fun d => s_X2_drawn h2 (fun F3 h3 => ⟨by rw [hy]; exact vp_in_nI (by omega) (by omega), fun f hf => J _ _ ?_⟩)⟩
    · unfold drawS; rw [if_neg (by omega), if_neg (Int32.not_lt.mpr d)]; exact h2
    · unfold drawS; rw [if_neg (by omega), if_pos (Int32.not_le.mp d)]
      refine h3.look ok.z1.z1.z1 (by rw [z1S_n, z1S_n, z1S_n]; exact hm) ?_
      have e6 : nI (rS (z1S (z1S s))) - nI (rS (z1S (z1S s))) / (6 : Int32) * (6 : Int32) = nI (rS (z1S (z1S s)) % 6) := drS_rem (z1S (z1S s)) (d := 6) (by omega) (by omega)
      rw [hf, hy, nI_clamp (by omega), e6]
