/-! the reference: a day, days, days by draws, sums, rows copied -/
/-- only s (0) and the votes (12) may change -/
def K12 (A A' : tA) : Prop := ∀ k, k ≠ 0 → k ≠ 12 → A' k = A k
theorem K12.rf {A : tA} : K12 A A := fun _ _ _ => rfl
theorem K12.tr {A B C : tA} (h : K12 A B) (h2 : K12 B C) : K12 A C := fun k a b => (h2 k a b).trans (h k a b)
theorem K12.of {A A' : tA} (t : ∀ k, k ≠ 12 → A' k = A k) : K12 A A' := fun k _ b => t k b
theorem K12.up {A A' : tA} {f : tF} (h : K12 A A') : K12 A (va_up A' 0 f) := fun k a b => by rw [va_up_ne _ _ a]; exact h k a b
theorem s_X7_goesOn {F : tF} {A : tA} (ok : OkS (A 0)) {K : tF → tA → Prop} (hk : ∀ A', A' 0 = dayS (A 0) → K12 A A' → K F A') : p_X7_goesOn F A K := by
  have hn := ok.n
  obtain ⟨va, hva, eva⟩ := atS_up ok
  have cat : (atS (A 0)).toNatClampNeg = va := by rw [eva]; exact nI_clamp (by omega)
  unfold p_X7_goesOn
  refine s_X7_win ok (fun A1 t => ?_)
  have t0 : A1 0 = A 0 := t 0 (by omega)
  rw [t0]
  generalize hs : A 0 = s at *
  -- the fears
  have J2 : ∀ A2 : tA, K12 A A2 → (∀ k, A2 0 k = if k = 1 then s 1 else if k = 3 then atS s else if 9 ≤ k ∧ k < 15 then dayS s k else s k) → ∃ n115, p_X7_goesOn_L115 K n115 F A2 (0 : Int32) := by
    intro A2 t2 b2
    refine lq3 (p_X7_goesOn_L115 K) (fun i F' A' x => x = nI i ∧ F' = F ∧ K12 A A' ∧ ∀ k, A' 0 k = if k = 1 then s 1 else if k = 3 then atS s else if 9 ≤ k ∧ k < 15 then dayS s k else if 21 ≤ k ∧ k < 21 + 4 * i ∧ (k - 21) % 4 = 2 then dayS s k else s k) (nS s) 0 (by omega) ?_ ?_ ⟨rfl, rfl, t2, fun k => by
      have : ¬ (21 ≤ k ∧ k < 21 + 4 * 0 ∧ (k - 21) % 4 = 2) := by omega
      show A2 0 k = _
      rw [b2 k, if_neg this]⟩
    · rintro n F' A' x ⟨rfl, rfl, t3, b3⟩
      have e0 : A' 0 0 = nI (nS s) := by rw [b3 0]; simp; exact hn.1
      rw [p_X7_goesOn_L115, e0]
      refine ⟨fun _ f hf => hk _ ?_ t3.up, fun c => absurd (nI_le (Nat.le_refl _) (by omega)) c⟩
      rw [va_up_self]
      funext k
      rw [hf]
      unfold upd
      have e1 : A' 0 1 = s 1 := by rw [b3 1]; simp
      by_cases k1 : k = 1
      · rw [if_pos k1, e1, k1]; simp [dayS]
      · rw [if_neg k1, b3 k, if_neg k1]
        by_cases k3 : k = 3
        · rw [if_pos k3, k3]; simp [dayS]
        · rw [if_neg k3]
          by_cases k9 : 9 ≤ k ∧ k < 15
          · rw [if_pos k9]
          · rw [if_neg k9]
            by_cases k21 : 21 ≤ k ∧ k < 21 + 4 * nS s ∧ (k - 21) % 4 = 2
            · rw [if_pos k21]
            · rw [if_neg k21]; unfold dayS; rw [if_neg k1, if_neg k3, if_neg k9, if_neg k21]
    · rintro n i F' A' x h1 h6 ⟨rfl, rfl, t3, b3⟩ ih
      have e0 : A' 0 0 = nI (nS s) := by rw [b3 0]; simp; exact hn.1
      have e3 : A' 0 3 = atS s := by rw [b3 3]; simp
      have ef : A' 0 (23 + 4 * i) = s (23 + 4 * i) := by rw [b3]; rw [if_neg (by omega), if_neg (by omega), if_neg (by omega), if_neg (by omega)]
      have ek : A' 0 (21 + 4 * i) = s (21 + 4 * i) := by rw [b3]; rw [if_neg (by omega), if_neg (by omega), if_neg (by omega), if_neg (by omega)]
      have er : A' 0 (15 + va) = s (15 + va) := by rw [b3]; rw [if_neg (by omega), if_neg (by omega), if_neg (by omega), if_neg (by omega)]
      have e15 : (15 : Int32) + atS s = nI (15 + va) := by rw [eva]; exact nI_add 15 va
      rw [p_X7_goesOn_L115, e0, e3, e15, nI_clamp (by omega), er]
      have J175 : ∀ z : Int32, heldI z = dayS s (23 + 4 * i) → p_X7_goesOn_J175 F' A' (p_X7_goesOn_L115 K n) K (nI i) z (((21 : Int32) + ((4 : Int32) * nI i)) + (2 : Int32)) := by
        intro z hz
        unfold p_X7_goesOn_J175
        have ix := ix_o i 2
        have ix2 : ((21 : Int32) + ((4 : Int32) * nI i)) + (2 : Int32) = nI (23 + 4 * i) := by rw [show (23 + 4 * i) = 21 + 4 * i + 2 by omega]; exact ix
        rw [ix2]
        refine s_X7_within ⟨vp_in_nI (by omega) (by omega), fun f hf y hy => ih _ _ _ ⟨by rw [hy]; exact nI_1 _, rfl, t3.up, fun k => ?_⟩⟩
        rw [va_up_self, hf, nI_clamp (by omega)]
        unfold upd
        by_cases e : k = 23 + 4 * i
        · rw [if_pos e, hz, if_neg (by omega), if_neg (by omega), if_neg (by omega), if_pos (by omega), e]
        · rw [if_neg e, b3 k]
          by_cases k1 : k = 1
          · rw [if_pos k1, if_pos k1]
          · rw [if_neg k1, if_neg k1]
            by_cases k3 : k = 3
            · rw [if_pos k3, if_pos k3]
            · rw [if_neg k3, if_neg k3]
              by_cases k9 : 9 ≤ k ∧ k < 15
              · rw [if_pos k9, if_pos k9]
              · rw [if_neg k9, if_neg k9]
                by_cases k21 : 21 ≤ k ∧ k < 21 + 4 * i ∧ (k - 21) % 4 = 2
                · rw [if_pos k21, if_pos (by omega)]
                · rw [if_neg k21, if_neg (by omega)]
      refine ⟨fun c => absurd c (nI_ge h6 (by omega)), fun _ => s_X7_its (c := 2) (k := 23 + 4 * i) (by omega) (by omega) (by omega) ⟨vp_in_nI (by omega) (by omega), fun c => ?_, fun c => ?_⟩⟩
      · rw [ef] at c ⊢
        refine s_X7_tamesOf (s := s) (by omega) ek (J175 _ ?_)
        rw [dayS_f s h6, cat, if_neg (Int32.not_lt.mpr c)]
      · rw [ef] at c ⊢
        refine J175 _ ?_
        rw [dayS_f s h6, cat, if_pos (Int32.not_le.mp c)]
  have J1 : ∀ z : Int32, s 3 + z = atS s → p_X7_goesOn_J44 F A1 K z (s 3) (3 : Int32) := by
    intro z hz
    unfold p_X7_goesOn_J44
    refine ⟨vp_in_lit rfl, fun f hf => ?_⟩
    have hf3 : f = upd s 3 (atS s) := by rw [hf, t0, hz]; rfl
    refine lq3 (p_X7_goesOn_L48 K) (fun i F' A' x => x = nI i ∧ F' = F ∧ K12 A A' ∧ ∀ k, A' 0 k = if k = 1 then s 1 else if k = 3 then atS s else if 9 ≤ k ∧ k < 9 + i then dayS s k else s k) 6 0 (by omega) ?_ ?_ ⟨rfl, rfl, (K12.of t).up, fun k => ?_⟩
    · rintro n F' A' x ⟨rfl, rfl, t3, b3⟩
      rw [p_X7_goesOn_L48]
      exact ⟨fun _ => J2 A' t3 b3, fun c => absurd (nI_le (a := 6) (b := 6) (by omega) (by omega)) c⟩
    · rintro n i F' A' x h1 h6 ⟨rfl, rfl, t3, b3⟩ ih
      have e3 : A' 0 3 = atS s := by rw [b3 3]; simp
      have eg : A' 0 (9 + i) = s (9 + i) := by rw [b3]; rw [if_neg (by omega), if_neg (by omega), if_neg (by omega)]
      have e7 : A' 0 7 = s 7 := by rw [b3]; simp
      have e9 : (9 : Int32) + nI i = nI (9 + i) := nI_add 9 i
      have i9 : vp_in (nI (9 + i)) 53 := vp_in_nI (by omega) (by omega)
      have J103 : ∀ z : Int32, heldI z = dayS s (9 + i) → p_X7_goesOn_J103 F' A' (p_X7_goesOn_L48 K n) K (nI i) z (nI (9 + i)) := by
        intro z hz
        unfold p_X7_goesOn_J103
        refine s_X7_within ⟨i9, fun f hf y hy => ih _ _ _ ⟨by rw [hy]; exact nI_1 _, rfl, t3.up, fun k => ?_⟩⟩
        rw [va_up_self, hf, nI_clamp (by omega)]
        unfold upd
        by_cases e : k = 9 + i
        · rw [if_pos e, hz, if_neg (by omega), if_neg (by omega), if_pos (by omega), e]
        · rw [if_neg e, b3 k]
          by_cases k1 : k = 1
          · rw [if_pos k1, if_pos k1]
          · rw [if_neg k1, if_neg k1]
            by_cases k3 : k = 3
            · rw [if_pos k3, if_pos k3]
            · rw [if_neg k3, if_neg k3]
              by_cases k9 : 9 ≤ k ∧ k < 9 + i
              · rw [if_pos k9, if_pos (by omega)]
              · rw [if_neg k9, if_neg (by omega)]
      rw [p_X7_goesOn_L48, e3, e9, nI_clamp (by omega), eg, e7]
      refine ⟨fun c => absurd c (nI_ge (a := i) (b := 6) h6 (by omega)), fun _ => ⟨fun c => ⟨i9, J103 _ ?_⟩, fun c => ⟨i9, J103 _ ?_⟩⟩⟩
      · rw [dayS_g s h6, if_neg c]
      · rw [dayS_g s h6, if_pos c]
    · rw [va_up_self, hf3]
      unfold upd
      by_cases k3 : k = 3
      · rw [if_pos k3, if_neg (by omega), if_pos k3]
      · rw [if_neg k3]
        by_cases k1 : k = 1
        · rw [if_pos k1, k1]
        · rw [if_neg k1, if_neg k3, if_neg (by omega)]
  refine ⟨fun c => ⟨fun d => J1 _ ?_, fun d => J1 _ ?_⟩, fun c => J1 _ ?_⟩
  · unfold atS; rw [if_neg (Int32.not_lt.mpr c), if_neg (Int32.not_lt.mpr d)]; exact Int32.add_zero _
  · unfold atS; rw [if_neg (Int32.not_lt.mpr c), if_pos (Int32.not_le.mp d)]; exact (Int32.sub_eq_add_neg _ _).symm
  · unfold atS; rw [if_pos (Int32.not_le.mp c)]
theorem s_X7_goes {F : tF} {A : tA} (ok : OkS (A 0)) {n : Nat} (hn : n ≤ 60) {K : tF → tA → Prop} (hk : ∀ A', A' 0 = daysS n (A 0) → K12 A A' → K F A') : p_X7_goes F A (nI n) K := by
  unfold p_X7_goes
  refine lq3 (p_X7_goes_L2 (nI n) K) (fun i F' A' x => x = nI i ∧ F' = F ∧ A' 0 = daysS i (A 0) ∧ K12 A A') n 0 (by omega) ?_ ?_ ⟨rfl, rfl, rfl, K12.rf⟩
  · rintro m F' A' x ⟨rfl, rfl, h', t⟩
    rw [p_X7_goes_L2]
    exact ⟨fun _ => hk _ h' t, fun c => absurd (nI_le (Nat.le_refl _) (by omega)) c⟩
  · rintro m i F' A' x h1 h6 ⟨rfl, rfl, h', t⟩ ih
    rw [p_X7_goes_L2]
    exact ⟨fun c => absurd c (nI_ge h6 (by omega)), fun _ => s_X7_goesOn (by rw [h']; exact daysS_ok ok i) (fun A2 h2 t2 y hy => ih _ _ _ ⟨by rw [hy]; exact nI_1 _, rfl, by rw [h2, h']; rfl, t.tr t2⟩)⟩
theorem s_X7_drawn {F : tF} {A : tA} {K : Int32 → tF → tA → Prop} (hk : K (nI (rS (A 0))) F (va_up A 0 (z1S (A 0)))) : p_X7_drawn F A K := by
  unfold p_X7_drawn
  intro f hf
  have e : f = z1S (A 0) := hf
  have e2 : f 2 = zS (A 0) := by rw [e]; simp [z1S, upd]
  have e3 := drS_eq (A 0)
  unfold drS at e3
  rw [e2, e3, e]
  exact hk
theorem s_X7_day {F : tF} {A : tA} (ok : OkS (A 0)) {K : Int32 → tF → tA → Prop} (hk : ∀ A', A' 0 = dayS (drawS (A 0)) → K12 A A' → K (A' 0 3) F A') : p_X7_day F A K := by
  have hn := ok.n
  have J : ∀ A2, A2 0 = drawS (A 0) → K12 A A2 → p_X7_day_J58 F A2 K := by
    intro A2 e t
    unfold p_X7_day_J58
    exact s_X7_goesOn (by rw [e]; exact ok.draw) (fun A3 h3 t3 => hk A3 (by rw [h3, e]) (t.tr t3))
  unfold p_X7_day
  rw [hn.1]
  generalize hs : A 0 = s at *
  refine ⟨fun c => J A ?_ K12.rf, fun c => s_X7_drawn ?_⟩
  · have : nS s = 0 := by
      rcases Nat.eq_zero_or_pos (nS s) with e | e
      · exact e
      · exact absurd c (nI_nle e (by omega))
    rw [hs]; unfold drawS; rw [if_pos this]
  · have hp : 0 < nS s := by
      rcases Nat.eq_zero_or_pos (nS s) with e | e
      · rw [e] at c; exact absurd (by decide) c
      · exact e
    rw [va_up_self, hs, z1S_o s (by omega), hn.1]
    refine ⟨nI_ne0 hp (by omega), fun y hy => s_X7_drawn ?_⟩
    rw [va_up_self, va_up_self]
    rw [drS_rem s hp (by omega)] at hy
    have hm : rS s % nS s < nS s := Nat.mod_lt _ hp
    have e3 : nI (rS (z1S s)) - nI (rS (z1S s)) / (100 : Int32) * (100 : Int32) = nI (rS (z1S s) % 100) := drS_rem (z1S s) (d := 100) (by omega) (by omega)
    rw [z1S_o _ (by omega), z1S_o s (by omega), e3]
    have k1 : ∀ f, K12 A (va_up (va_up A 0 (z1S s)) 0 f) := fun f => (K12.rf.up).up
    refine ⟨fun d => J _ ?_ (k1 _), fun d => s_X7_drawn ?_⟩
    · rw [va_up_self]; unfold drawS; rw [if_neg (by omega), if_neg (Int32.not_lt.mpr d)]
    · rw [va_up_self, va_up_self]
      have ix2 : ((21 : Int32) + ((4 : Int32) * y)) + (3 : Int32) = nI (24 + 4 * (rS s % nS s)) := by rw [hy, show (24 + 4 * (rS s % nS s)) = 21 + 4 * (rS s % nS s) + 3 by omega]; exact ix_o _ 3
      have e6 : nI (rS (z1S (z1S s))) - nI (rS (z1S (z1S s))) / (6 : Int32) * (6 : Int32) = nI (rS (z1S (z1S s)) % 6) := drS_rem (z1S (z1S s)) (d := 6) (by omega) (by omega)
      rw [ix2, e6, nI_clamp (by omega)]
      refine ⟨vp_in_nI (by omega) (by omega), fun f hf => J _ ?_ ((k1 _).up.up)⟩
      rw [va_up_self, hf]; unfold drawS; rw [if_neg (by omega), if_pos (Int32.not_le.mp d)]
theorem s_X7_voters {F : tF} {A : tA} (ok : OkS (A 0)) {p : Nat} (hp : p < 6) {K : Int32 → Prop} (hk : K (votersS (A 0) p)) : p_X7_voters F A (nI p) K := by
  have hn := ok.n
  unfold p_X7_voters
  refine lq2 (p_X7_voters_L4 F A (nI p) K) (fun i b x => x = nI i ∧ b = orU (fun o => voteS (A 0) o = p) i) (nS (A 0)) 0 (by omega) ?_ ?_ ⟨rfl, rfl⟩
  · rintro n b x ⟨rfl, rfl⟩
    rw [p_X7_voters_L4, hn.1]
    exact ⟨fun _ => hk, fun c => absurd (nI_le (Nat.le_refl _) (by omega)) c⟩
  · rintro n i b x h1 h6 ⟨rfl, rfl⟩ ih
    rw [p_X7_voters_L4, hn.1]
    refine ⟨fun c => absurd c (nI_ge h6 (by omega)), fun _ => s_X7_voteOf (by omega) ⟨fun c => ?_, fun c => ?_⟩⟩
    · unfold p_X7_voters_J31
      refine fun y hy z hz => ih _ _ ⟨by rw [hz]; exact nI_1 _, ?_⟩
      rw [orU, if_neg, hy]
      · exact Int32.or_zero
      · intro q; exact c (by rw [q])
    · unfold p_X7_voters_J31
      refine fun y hy z hz => ih _ _ ⟨by rw [hz]; exact nI_1 _, ?_⟩
      have := voteS_lt (A 0) i
      rw [orU, if_pos ((nI_eq (by omega) (by omega)).mp c), hy]
theorem s_X7_scaredOnes {F : tF} {A : tA} (ok : OkS (A 0)) {K : Int32 → Prop} (hk : K (scaredS (A 0))) : p_X7_scaredOnes F A K := by
  have hn := ok.n
  unfold p_X7_scaredOnes
  refine lq2 (p_X7_scaredOnes_L4 F A K) (fun i b x => x = nI i ∧ b = orU (fun o => A 0 (23 + 4 * o) = 9) i) (nS (A 0)) 0 (by omega) ?_ ?_ ⟨rfl, rfl⟩
  · rintro n b x ⟨rfl, rfl⟩
    rw [p_X7_scaredOnes_L4, hn.1]
    exact ⟨fun _ => hk, fun c => absurd (nI_le (Nat.le_refl _) (by omega)) c⟩
  · rintro n i b x h1 h6 ⟨rfl, rfl⟩ ih
    rw [p_X7_scaredOnes_L4, hn.1]
    refine ⟨fun c => absurd c (nI_ge h6 (by omega)), fun _ => s_X7_its (c := 2) (k := 23 + 4 * i) (by omega) (by omega) (by omega) ⟨fun c => ?_, fun c => ?_⟩⟩
    · unfold p_X7_scaredOnes_J33
      refine fun y hy z hz => ih _ _ ⟨by rw [hz]; exact nI_1 _, ?_⟩
      rw [orU, if_neg c, hy]
      exact Int32.or_zero
    · unfold p_X7_scaredOnes_J33
      refine fun y hy z hz => ih _ _ ⟨by rw [hz]; exact nI_1 _, ?_⟩
      rw [orU, if_pos c, hy]
theorem s_X7_sumOf4 {F : tF} {A : tA} (ok : OkS (A 0)) {K : Int32 → Prop} (hk : K (weightS (A 0))) : p_X7_sumOf F A (4 : Int32) K := by
  have hn := ok.n
  unfold p_X7_sumOf
  refine lq2 (p_X7_sumOf_L4 F A (4 : Int32) K) (fun i b x => x = nI i ∧ b = sumU (countS (A 0)) i) (nS (A 0)) 0 (by omega) ?_ ?_ ⟨rfl, rfl⟩
  · rintro n b x ⟨rfl, rfl⟩
    rw [p_X7_sumOf_L4, hn.1]
    exact ⟨fun _ => hk, fun c => absurd (nI_le (Nat.le_refl _) (by omega)) c⟩
  · rintro n i b x h1 h6 ⟨rfl, rfl⟩ ih
    rw [p_X7_sumOf_L4, hn.1]
    refine ⟨fun c => absurd c (nI_ge h6 (by omega)), fun _ => ⟨fun c => absurd rfl c, fun c => s_X7_counts ok (by omega) ?_⟩⟩
    unfold p_X7_sumOf_J34
    exact fun y hy z hz => ih _ _ ⟨by rw [hz]; exact nI_1 _, by rw [hy]; rfl⟩
def fearsS (s : tF) : Int32 := sumU (fun o => s (23 + 4 * o)) (nS s)
theorem s_X7_sumOf2 {F : tF} {A : tA} (ok : OkS (A 0)) {K : Int32 → Prop} (hk : K (fearsS (A 0))) : p_X7_sumOf F A (2 : Int32) K := by
  have hn := ok.n
  unfold p_X7_sumOf
  refine lq2 (p_X7_sumOf_L4 F A (2 : Int32) K) (fun i b x => x = nI i ∧ b = sumU (fun o => A 0 (23 + 4 * o)) i) (nS (A 0)) 0 (by omega) ?_ ?_ ⟨rfl, rfl⟩
  · rintro n b x ⟨rfl, rfl⟩
    rw [p_X7_sumOf_L4, hn.1]
    exact ⟨fun _ => hk, fun c => absurd (nI_le (Nat.le_refl _) (by omega)) c⟩
  · rintro n i b x h1 h6 ⟨rfl, rfl⟩ ih
    rw [p_X7_sumOf_L4, hn.1]
    refine ⟨fun c => absurd c (nI_ge h6 (by omega)), fun _ => ⟨fun c => s_X7_its (c := 2) (k := 23 + 4 * i) (by omega) (by omega) (by omega) ?_, fun c => absurd c (by decide)⟩⟩
    unfold p_X7_sumOf_J34
    exact fun y hy z hz => ih _ _ ⟨by rw [hz]; exact nI_1 _, by rw [hy]; rfl⟩
/-- rows of 53 hold nothing beyond -/
def Z53 (f : tF) : Prop := ∀ k, 53 ≤ k → f k = 0
theorem Z53.up {f : tF} (h : Z53 f) {k : Nat} {v : Int32} (hk : k < 53) : Z53 (upd f k v) := fun j hj => by
  unfold upd; rw [if_neg (by omega)]; exact h j hj
theorem Z53.day {s : tF} (h : Z53 s) (hn : nS s ≤ 8) : Z53 (dayS s) := fun k hk => by
  unfold dayS; rw [if_neg (by omega), if_neg (by omega), if_neg (by omega)]
  by_cases c : 21 ≤ k ∧ k < 21 + 4 * nS s ∧ (k - 21) % 4 = 2
  · omega
  · rw [if_neg c]; exact h k hk
theorem Z53.days {s : tF} (h : Z53 s) (hn : nS s ≤ 8) : ∀ k, Z53 (daysS k s)
  | 0 => h
  | k + 1 => (Z53.days h hn k).day (by rw [daysS_n]; exact hn)
theorem s_X7_copyRow {f0 f1 : tF} (h0 : Z53 f0) (h1 : Z53 f1) {K : tF → Prop} (hk : K f0) : p_X7_copyRow 53 f0 53 f1 K := by
  unfold p_X7_copyRow
  refine lq2 (p_X7_copyRow_L2 53 53 f0 K) (fun i g x => x = nI i ∧ Z53 g ∧ ∀ k, k < i → g k = f0 k) 53 0 (by omega) ?_ ?_ ⟨rfl, h1, fun k hk => absurd hk (by omega)⟩
  · rintro n g x ⟨rfl, hz, hb⟩
    rw [p_X7_copyRow_L2]
    have e : g = f0 := by
      funext k
      rcases Nat.lt_or_ge k 53 with c | c
      · exact hb k c
      · rw [hz k c, h0 k c]
    rw [e]
    exact ⟨fun _ => hk, fun c => absurd (nI_le (a := 53) (b := 53) (by omega) (by omega)) c⟩
  · rintro n i g x a b ⟨rfl, hz, hb⟩ ih
    rw [p_X7_copyRow_L2, nI_clamp (by omega)]
    refine ⟨fun c => absurd c (nI_ge (a := i) (b := 53) b (by omega)), fun _ => ⟨vp_in_nI b (by omega), vp_in_nI b (by omega), fun f hf y hy => ih _ _ ⟨by rw [hy]; exact nI_1 _, ?_, fun k hk => ?_⟩⟩⟩
    · rw [hf]; exact hz.up b
    · rw [hf]; unfold upd
      split
      · rename_i e; rw [e]
      · exact hb k (by omega)
/-- only the votes (12) and what is set aside (2) may change -/
def K2 (A A' : tA) : Prop := ∀ k, k ≠ 2 → k ≠ 12 → A' k = A k
theorem K2.rf {A : tA} : K2 A A := fun _ _ _ => rfl
theorem K2.tr {A B C : tA} (h : K2 A B) (h2 : K2 B C) : K2 A C := fun k a b => (h2 k a b).trans (h k a b)
theorem s_X7_whereBehind {F : tF} {A : tA} (ok : OkS (A 0)) (z0 : Z53 (A 0)) (z2 : Z53 (A 2)) {n : Nat} (hn : n ≤ 60) {K : Int32 → tF → tA → Prop} (hk : ∀ A', K2 A A' → Z53 (A' 2) → K (daysS n (A 0) 3) F A') : p_X7_whereBehind F A (nI n) K := by
  unfold p_X7_whereBehind
  refine s_X7_copyRow z0 z2 ?_
  have e0 : va_up A 2 (A 0) 0 = A 0 := va_up_ne _ _ (by omega)
  refine s_X7_goes (by rw [e0]; exact ok) hn (fun A' h' t y hy => ?_)
  rw [e0] at h'
  have e2 : A' 2 = A 0 := by rw [t 2 (by omega) (by omega), va_up_self]
  rw [e2]
  refine s_X7_copyRow z0 (by rw [h']; exact z0.days ok.n.2 n) ?_
  rw [hy, h']
  refine hk _ (fun k a b => ?_) ?_
  · by_cases c : k = 0
    · subst c; rw [va_up_self]
    · rw [va_up_ne _ _ c, t k c b, va_up_ne _ _ a]
  · rw [va_up_ne _ _ (by omega), e2]; exact z0
