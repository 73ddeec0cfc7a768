/-! side by side: calm, scared, what to whistle, as what, with how long an ear -/
theorem fears_nat {s : tF} (ok : OkS s) : ∀ n, n ≤ nS s → ∃ m : Nat, m ≤ 9 * n ∧ sumU (fun o => s (23 + 4 * o)) n = nI m
  | 0, _ => ⟨0, by omega, rfl⟩
  | n + 1, h => by
    obtain ⟨m, hm, e⟩ := fears_nat ok n (by omega)
    obtain ⟨v, hv, ev⟩ := (ok.2.2.2.2.2.2.2 n (by omega)).2.2.1
    refine ⟨m + v, by omega, ?_⟩
    show sumU _ n + s (23 + 4 * n) = _
    rw [e, ev]; exact nI_add _ _
theorem fearsS_le {s : tF} (ok : OkS s) : fearsS s ≤ 0 ↔ fearsS s = 0 := by
  obtain ⟨m, hm, e⟩ := fears_nat ok (nS s) (Nat.le_refl _)
  have hn := ok.n.2
  have e' : fearsS s = nI m := e
  rw [e']
  constructor
  · intro q
    have := (nI_leI (a := m) (b := 0) (by omega) (by omega)).mp q
    rw [show m = 0 by omega]; rfl
  · intro q; rw [q]; decide
theorem j_calm {F Fn Ft : tF} {An At : tA} {FM : tF} {A : tA} (h : HZ Fn An A) : p_X6_calm F Ft At Fn An (fun r _ _ => p_X7_calm FM A (Rn FM A r Fn An)) := by
  obtain ⟨hr, ok, z0, z2, z3⟩ := id h
  unfold p_X6_calm
  generalize hs : A 0 = s at *
  have X7 : p_X7_calm FM A (Rn FM A (firstU (fun k => fearsS (daysS k s) = 0) 61 0) Fn An) := by
    unfold p_X7_calm
    rw [hs]
    refine s_X7_copyRow z0 z2 ?_
    have J : ∀ A' i, (K12 (va_up A 2 s) A') → Z53 (A' 0) → i ≤ 61 → (i = 61 → firstU (fun k => fearsS (daysS k s) = 0) 61 0 = -3) → (i < 61 → firstU (fun k => fearsS (daysS k s) = 0) 61 0 = nI i) → p_X7_calm_J37 FM A' (Rn FM A (firstU (fun k => fearsS (daysS k s) = 0) 61 0) Fn An) (nI i) := by
      intro A' i t z hi e1 e2
      unfold p_X7_calm_J37
      have f2 : A' 2 = s := by rw [t 2 (by omega) (by omega), va_up_self]
      rw [f2]
      have kk : K2 A (va_up A' 0 s) := fun k a b => by
        by_cases k0 : k = 0
        · subst k0; rw [va_up_self, hs]
        · rw [va_up_ne _ _ k0, t k k0 b, va_up_ne _ _ a]
      have hz := h.k2 kk (by rw [va_up_ne _ _ (by omega), f2]; exact z0)
      refine s_X7_copyRow z0 z ⟨fun q => ⟨e1 ?_, rfl, Kp.ofK2 kk, hz⟩, fun q => ⟨e2 ?_, rfl, Kp.ofK2 kk, hz⟩⟩
      · have := (nI_ltI (a := 60) (b := i) (by omega) (by omega)).mp q; omega
      · rcases Nat.lt_or_ge i 61 with w | w
        · exact w
        · exact absurd (nI_lt (a := 60) (b := i) (by omega) (by omega)) q
    refine lq3 (p_X7_calm_L13 (Rn FM A (firstU (fun k => fearsS (daysS k s) = 0) 61 0) Fn An)) (fun i F' A' v => F' = FM ∧ v = nI i ∧ A' 0 = daysS i s ∧ K12 (va_up A 2 s) A' ∧ firstU (fun k => fearsS (daysS k s) = 0) (61 - i) i = firstU (fun k => fearsS (daysS k s) = 0) 61 0) 61 0 (by omega) ?_ ?_ ⟨rfl, rfl, by rw [va_up_ne _ _ (by omega)]; exact hs, K12.rf, rfl⟩
    · rintro m F' A' v ⟨rfl, rfl, e, t, u⟩
      rw [p_X7_calm_L13]
      exact ⟨fun _ => J A' 61 t (by rw [e]; exact z0.days ok.n.2 _) (by omega) (fun _ => u.symm) (fun q => absurd q (by omega)), fun q => absurd (nI_lt (a := 60) (b := 61) (by omega) (by omega)) q⟩
    · rintro m i F' A' v g1 g2 ⟨rfl, rfl, e, t, u⟩ ih
      rw [p_X7_calm_L13]
      refine ⟨fun q => absurd q (nI_nlt (a := 60) (b := i) (by omega) (by omega)), fun _ => s_X7_sumOf2 (by rw [e]; exact daysS_ok ok i) ?_⟩
      rw [e]
      have q0 := fearsS_le (daysS_ok ok i)
      refine ⟨fun q => J A' i t (by rw [e]; exact z0.days ok.n.2 _) (by omega) (fun w => absurd w (by omega)) (fun _ => by rw [← u]; exact firstU_y g2 (q0.mp q)), fun q => ?_⟩
      refine s_X7_goesOn (by rw [e]; exact daysS_ok ok i) (fun A2 q2 t2 y hy => ih _ _ _ ⟨rfl, by rw [hy]; exact nI_1 _, by rw [q2, e]; rfl, t.tr t2, by rw [← u]; exact (firstU_n g2 (fun w => q (q0.mpr w))).symm⟩)
  refine s_X2_copyFrom hr ok (fun F1 A1 r1 => ?_)
  refine lq3 (p_X6_calm_L13 F Fn An _) (fun i F' A' v => v = nI i ∧ HR F' A' (daysS i s) ∧ firstU (fun k => fearsS (daysS k s) = 0) (61 - i) i = firstU (fun k => fearsS (daysS k s) = 0) 61 0) 61 0 (by omega) ?_ ?_ ⟨rfl, r1, rfl⟩
  · rintro m F' A' v ⟨rfl, r2, u⟩
    rw [p_X6_calm_L13]
    refine ⟨fun _ => ?_, fun q => absurd (nI_lt (a := 60) (b := 61) (by omega) (by omega)) q⟩
    have u' : (-3 : Int32) = firstU (fun k => fearsS (daysS k s) = 0) 61 0 := u
    rw [u']; exact X7
  · rintro m i F' A' v g1 g2 ⟨rfl, r2, u⟩ ih
    rw [p_X6_calm_L13]
    refine ⟨fun q => absurd q (nI_nlt (a := 60) (b := i) (by omega) (by omega)), fun _ => s_fears r2 (daysS_ok ok i) ⟨fun q => ?_, fun q => ?_⟩⟩
    · exact s_X2_passDay r2 (daysS_ok ok i) (fun F3 A3 r3 y hy => ih _ _ _ ⟨by rw [hy]; exact nI_1 _, r3, by rw [← u]; exact (firstU_n g2 q).symm⟩)
    · have u' : nI i = firstU (fun k => fearsS (daysS k s) = 0) 61 0 := by rw [← u]; exact (firstU_y g2 q).symm
      rw [u']; exact X7
theorem j_scared {F Fn Ft : tF} {An At : tA} {FM : tF} {A : tA} (h : HZ Fn An A) (x : Int32) : p_X6_scared F Fn An Ft At x (fun r _ _ => p_X7_scared FM A x (Rn FM A r Fn An)) := by
  obtain ⟨hr, ok, z0, z2, z3⟩ := id h
  unfold p_X6_scared
  have hn := ok.n.2
  by_cases c : inR x (nS (A 0))
  rotate_left
  · exact f0 hr ok c (b0 (by unfold p_X7_scared; exact o0 ok c (b0 h.rn)))
  refine f1 hr ok c (b1 ?_)
  have CC : ∀ {K : Int32 → Prop}, K 1 → p_X7_isOne FM A x K := fun k => o1 ok c k
  obtain ⟨o, ho, rfl⟩ := id c
  generalize hs : A 0 = s at *
  have dk : ∀ i, upto (daysS i s (23 + 4 * o)) 9 := fun i => ((daysS_ok ok i).2.2.2.2.2.2.2 o (by rw [daysS_n]; exact ho)).2.2.1
  have X7 : p_X7_scared FM A (nI o) (Rn FM A (firstU (fun k => daysS k s (23 + 4 * o) = 9) 61 0) Fn An) := by
    unfold p_X7_scared
    refine CC (b1 ?_)
    rw [hs]
    refine s_X7_copyRow z0 z2 ?_
    have J : ∀ A' i, (K12 (va_up A 2 s) A') → Z53 (A' 0) → i ≤ 61 → (i = 61 → firstU (fun k => daysS k s (23 + 4 * o) = 9) 61 0 = -3) → (i < 61 → firstU (fun k => daysS k s (23 + 4 * o) = 9) 61 0 = nI i) → p_X7_scared_J50 FM A' (Rn FM A (firstU (fun k => daysS k s (23 + 4 * o) = 9) 61 0) Fn An) (nI i) := by
      intro A' i t z hi e1 e2
      unfold p_X7_scared_J50
      have f2 : A' 2 = s := by rw [t 2 (by omega) (by omega), va_up_self]
      rw [f2]
      have kk : K2 A (va_up A' 0 s) := fun k a b => by
        by_cases k0 : k = 0
        · subst k0; rw [va_up_self, hs]
        · rw [va_up_ne _ _ k0, t k k0 b, va_up_ne _ _ a]
      have hz := h.k2 kk (by rw [va_up_ne _ _ (by omega), f2]; exact z0)
      refine s_X7_copyRow z0 z ⟨fun q => ⟨e1 ?_, rfl, Kp.ofK2 kk, hz⟩, fun q => ⟨e2 ?_, rfl, Kp.ofK2 kk, hz⟩⟩
      · have := (nI_ltI (a := 60) (b := i) (by omega) (by omega)).mp q; omega
      · rcases Nat.lt_or_ge i 61 with w | w
        · exact w
        · exact absurd (nI_lt (a := 60) (b := i) (by omega) (by omega)) q
    refine lq3 (p_X7_scared_L23 (nI o) (Rn FM A (firstU (fun k => daysS k s (23 + 4 * o) = 9) 61 0) Fn An)) (fun i F' A' v => F' = FM ∧ v = nI i ∧ A' 0 = daysS i s ∧ K12 (va_up A 2 s) A' ∧ firstU (fun k => daysS k s (23 + 4 * o) = 9) (61 - i) i = firstU (fun k => daysS k s (23 + 4 * o) = 9) 61 0) 61 0 (by omega) ?_ ?_ ⟨rfl, rfl, by rw [va_up_ne _ _ (by omega)]; exact hs, K12.rf, rfl⟩
    · rintro m F' A' v ⟨rfl, rfl, e, t, u⟩
      rw [p_X7_scared_L23]
      exact ⟨fun _ => J A' 61 t (by rw [e]; exact z0.days ok.n.2 _) (by omega) (fun _ => u.symm) (fun q => absurd q (by omega)), fun q => absurd (nI_lt (a := 60) (b := 61) (by omega) (by omega)) q⟩
    · rintro m i F' A' v g1 g2 ⟨rfl, rfl, e, t, u⟩ ih
      rw [p_X7_scared_L23]
      refine ⟨fun q => absurd q (nI_nlt (a := 60) (b := i) (by omega) (by omega)), fun _ => s_X7_its (c := 2) (k := 23 + 4 * o) (by omega) (by omega) (by omega) ?_⟩
      rw [e]
      have q0 : (9 : Int32) ≤ daysS i s (23 + 4 * o) ↔ daysS i s (23 + 4 * o) = 9 := by
        obtain ⟨v, hv, ev⟩ := dk i
        rw [ev]
        constructor
        · intro q
          have := (nI_leI (a := 9) (b := v) (by omega) (by omega)).mp q
          rw [show v = 9 by omega]; rfl
        · intro q; rw [q]; decide
      refine ⟨fun q => J A' i t (by rw [e]; exact z0.days ok.n.2 _) (by omega) (fun w => absurd w (by omega)) (fun _ => by rw [← u]; exact firstU_y g2 (q0.mp q)), fun q => ?_⟩
      refine s_X7_goesOn (by rw [e]; exact daysS_ok ok i) (fun A2 q2 t2 y hy => ih _ _ _ ⟨rfl, by rw [hy]; exact nI_1 _, by rw [q2, e]; rfl, t.tr t2, by rw [← u]; exact (firstU_n g2 (fun w => q (q0.mpr w))).symm⟩)
  refine s_X2_copyFrom hr ok (fun F1 A1 r1 => ?_)
  refine lq3 (p_X6_scared_L23 F Fn An (nI o) _) (fun i F' A' v => v = nI i ∧ HR F' A' (daysS i s) ∧ firstU (fun k => daysS k s (23 + 4 * o) = 9) (61 - i) i = firstU (fun k => daysS k s (23 + 4 * o) = 9) 61 0) 61 0 (by omega) ?_ ?_ ⟨rfl, r1, rfl⟩
  · rintro m F' A' v ⟨rfl, r2, u⟩
    rw [p_X6_scared_L23]
    refine ⟨fun _ => ?_, fun q => absurd (nI_lt (a := 60) (b := 61) (by omega) (by omega)) q⟩
    have u' : (-3 : Int32) = firstU (fun k => daysS k s (23 + 4 * o) = 9) 61 0 := u
    rw [u']; exact X7
  · rintro m i F' A' v g1 g2 ⟨rfl, r2, u⟩ ih
    rw [p_X6_scared_L23, nI_clamp (by omega), (r2.2.2.2.2 o (by rw [daysS_n]; exact ho)).2.2.1]
    refine ⟨fun q => absurd q (nI_nlt (a := 60) (b := i) (by omega) (by omega)), fun _ => ⟨vp_in_nI (by omega) (by omega), fun q => ?_, fun q => ?_⟩⟩
    · exact s_X2_passDay r2 (daysS_ok ok i) (fun F3 A3 r3 y hy => ih _ _ _ ⟨by rw [hy]; exact nI_1 _, r3, by rw [← u]; exact (firstU_n g2 q).symm⟩)
    · have u' : nI i = firstU (fun k => daysS k s (23 + 4 * o) = 9) 61 0 := by rw [← u]; exact (firstU_y g2 q).symm
      rw [u']; exact X7
/-- nearest of all tried -/
def nbL (i : Int32) (off : Nat → Int32) : Nat → Int32
  | 0 => i
  | k + 1 => if off k < nbL i off k then off k else nbL i off k
def nbB (i : Int32) (off : Nat → Int32) : Nat → Int32
  | 0 => 0
  | k + 1 => if off k < nbL i off k then nI k else nbB i off k
theorem nb_eq {off : Nat → Int32} (h : off 0 < 6) : ∀ k, nbB 6 off k = nbB 9 off k ∧ (1 ≤ k → nbL 6 off k = nbL 9 off k)
  | 0 => ⟨rfl, fun q => absurd q (by omega)⟩
  | 1 => by
    have h9 : off 0 < 9 := by
      have e9 : (9 : Int32).toInt = 9 := by decide
      have e6 : (6 : Int32).toInt = 6 := by decide
      rw [Int32.lt_iff_toInt_lt] at h ⊢; omega
    refine ⟨?_, fun _ => ?_⟩
    · show (if off 0 < 6 then nI 0 else 0) = (if off 0 < 9 then nI 0 else 0)
      rw [if_pos h, if_pos h9]
    · show (if off 0 < 6 then off 0 else 6) = (if off 0 < 9 then off 0 else 9)
      rw [if_pos h, if_pos h9]
  | k + 2 => by
    obtain ⟨a, b⟩ := nb_eq h (k + 1)
    have b := b (by omega)
    refine ⟨?_, fun _ => ?_⟩
    · show (if off (k + 1) < nbL 6 off (k + 1) then nI (k + 1) else nbB 6 off (k + 1)) = (if off (k + 1) < nbL 9 off (k + 1) then nI (k + 1) else nbB 9 off (k + 1))
      rw [a, b]
    · show (if off (k + 1) < nbL 6 off (k + 1) then off (k + 1) else nbL 6 off (k + 1)) = (if off (k + 1) < nbL 9 off (k + 1) then off (k + 1) else nbL 9 off (k + 1))
      rw [b]
def offS (s : tF) (k p n : Nat) (v : Nat) : Int32 := apI (daysS n (upd s k (nI v)) 3) (nI p)
theorem offS_ap {s : tF} {k p n v : Nat} (ok : OkS (upd s k (nI v))) (hp : p < 6) : (if 0 ≤ (daysS n (upd s k (nI v)) 3 - nI p) then (daysS n (upd s k (nI v)) 3 - nI p) else 0 - (daysS n (upd s k (nI v)) 3 - nI p)) = offS s k p n v := by
  unfold offS
  obtain ⟨e, ha⟩ := (daysS_ok ok n).at
  rw [e]; exact abs_ap _ ha p hp
theorem offS_lt {s : tF} {k p n v : Nat} (ok : OkS (upd s k (nI v))) (hp : p < 6) : offS s k p n v < 6 := by
  unfold offS
  obtain ⟨e, ha⟩ := (daysS_ok ok n).at
  rw [e]
  have : ∀ a, a < 6 → ∀ p, p < 6 → apI (nI a) (nI p) < 6 := by decide +kernel
  exact this _ ha p hp
theorem s_X7_nearestBy {F : tF} {A : tA} (ok : OkS (A 0)) (z0 : Z53 (A 0)) (z2 : Z53 (A 2)) {k p n last : Nat} (hk : 3 ≤ k) (hk2 : k < 53) (hl : last < 20) (hb : ∀ v, v ≤ last → OkS (upd (A 0) k (nI v))) (hn : n ≤ 60) {K : Int32 → tF → tA → Prop} (hK : ∀ A', K2 A A' → Z53 (A' 2) → K (nbB 9 (offS (A 0) k p n) (last + 1)) F A') : p_X7_nearestBy F A (nI k) (nI last) (nI p) (nI n) K := by
  generalize hs : A 0 = s at *
  unfold p_X7_nearestBy
  rw [nI_clamp (by omega), hs]
  have ik : vp_in (nI k) 53 := vp_in_nI hk2 (by omega)
  refine ⟨ik, fun y hy => ?_⟩
  refine lq5 (p_X7_nearestBy_L18 (nI k) (nI last) (nI p) (nI n) y K) (fun i F' A' b l x => F' = F ∧ x = nI i ∧ b = nbB 9 (offS s k p n) i ∧ l = nbL 9 (offS s k p n) i ∧ (∀ j, j ≠ 0 → j ≠ 2 → j ≠ 12 → A' j = A j) ∧ Z53 (A' 2) ∧ ∃ w, A' 0 = upd s k w) (last + 1) 0 (by omega) ?_ ?_ ⟨rfl, rfl, rfl, rfl, fun _ _ _ _ => rfl, z2, s k, by rw [hs]; exact upd_self.symm⟩
  · rintro m F' A' b l x ⟨rfl, rfl, rfl, rfl, t, z, w, e⟩
    rw [p_X7_nearestBy_L18, nI_clamp (by omega), e]
    refine ⟨fun _ => ⟨ik, fun f hf => hK _ (fun j a b => ?_) ?_⟩, fun q => absurd (nI_lt (a := last) (b := last + 1) (by omega) (by omega)) q⟩
    · by_cases j0 : j = 0
      · subst j0; rw [va_up_self, hf, upd_upd, hy, upd_self, hs]
      · rw [va_up_ne _ _ j0]; exact t j j0 a b
    · rw [va_up_ne _ _ (by omega)]; exact z
  · rintro m i F' A' b l x g1 g2 ⟨rfl, rfl, rfl, rfl, t, z, w, e⟩ ih
    rw [p_X7_nearestBy_L18, nI_clamp (by omega), e]
    refine ⟨fun q => absurd q (nI_nlt (a := last) (b := i) (by omega) (by omega)), fun _ => ⟨ik, fun f hf => ?_⟩⟩
    have ef : f = upd s k (nI i) := by rw [hf, upd_upd]
    subst ef
    refine s_X7_whereBehind (by rw [va_up_self]; exact hb i (by omega)) (by rw [va_up_self]; exact z0.up hk2) (by rw [va_up_ne _ _ (by omega)]; exact z) hn (fun A2 k2 z3 => s_X7_apart ?_)
    rw [va_up_self]
    have t2 : ∀ j, j ≠ 0 → j ≠ 2 → j ≠ 12 → A2 j = A j := fun j a b c => by rw [k2 j b c, va_up_ne _ _ a]; exact t j a b c
    have e2 : A2 0 = upd s k (nI i) := by rw [k2 0 (by omega) (by omega), va_up_self]
    have eo : apI (daysS n (upd s k (nI i)) 3) (nI p) = offS s k p n i := rfl
    rw [eo]
    refine ⟨fun q => ?_, fun q => ?_⟩
    · unfold p_X7_nearestBy_J58 p_X7_nearestBy_J74
      exact ⟨fun _ y hy => ih _ _ _ _ _ ⟨rfl, by rw [hy]; exact nI_1 _, by rw [nbB, if_neg (Int32.not_lt.mpr q)], by rw [nbL, if_neg (Int32.not_lt.mpr q)], t2, z3, _, e2⟩, fun d => absurd q d⟩
    · unfold p_X7_nearestBy_J58 p_X7_nearestBy_J74
      exact ⟨fun d => absurd d q, fun _ y hy => ih _ _ _ _ _ ⟨rfl, by rw [hy]; exact nI_1 _, by rw [nbB, if_pos (Int32.not_le.mp q)], by rw [nbL, if_pos (Int32.not_le.mp q)], t2, z3, _, e2⟩⟩
theorem j_callFor {F Fn Ft : tF} {An At : tA} {FM : tF} {A : tA} (h : HZ Fn An A) (x y : Int32) : p_X6_callFor F Ft At Fn An x y (fun r _ _ => p_X7_callFor FM A x y (Rn FM A r Fn An)) := by
  obtain ⟨hr, ok, z0, z2, z3⟩ := id h
  unfold p_X6_callFor
  by_cases c : inR x 6
  rotate_left
  · exact w0 (m := 6) c (by omega) (a0 (by unfold p_X7_callFor; exact p0 c (a0 h.rn)))
  refine w1 (m := 6) c (by omega) (a1 (cl1 (m := 20) (by omega) (fun d => ?_) (fun d => by unfold p_X7_callFor; exact p1 c (a1 (s_X7_isShort (fun q => absurd q d) (fun _ => a0 h.rn))))))
  obtain ⟨p, hp, rfl⟩ := id c
  obtain ⟨n, n1, n2, rfl⟩ := id d
  have hb : ∀ v, v ≤ 6 → OkS (upd (A 0) 4 (nI v)) := fun v hv => ok.put (by omega) (fun _ => ⟨v, hv, rfl⟩)
  have X7 : p_X7_callFor FM A (nI p) (nI n) (Rn FM A (nbB 6 (offS (A 0) 4 p n) 7) Fn An) := by
    unfold p_X7_callFor
    refine p1 c (a1 (s_X7_isShort (fun _ => a1 (s_X7_nearestBy (k := 4) (last := 6) ok z0 z2 (by omega) (by omega) (by omega) hb (by omega) (fun A' k z => ⟨?_, rfl, Kp.ofK2 k, h.k2 k z⟩))) (fun q => absurd d q)))
    exact (nb_eq (offS_lt (hb 0 (by omega)) hp) 7).1
  refine lq5 (p_X6_callFor_L31 F Fn An (nI p) (nI n) _) (fun i _ _ b l v => v = nI i ∧ b = nbB 6 (offS (A 0) 4 p n) i ∧ l = nbL 6 (offS (A 0) 4 p n) i) 7 0 (by omega) ?_ ?_ ⟨rfl, rfl, rfl⟩
  · rintro m Fa Aa b l v ⟨e1, e2, _⟩
    rw [p_X6_callFor_L31, e1, e2]
    exact ⟨fun _ => X7, fun q => absurd (nI_lt (a := 6) (b := 7) (by omega) (by omega)) q⟩
  · rintro m i Fa Aa b l v g1 g2 ⟨rfl, rfl, rfl⟩ ih
    rw [p_X6_callFor_L31]
    refine ⟨fun q => absurd q (nI_nlt (a := 6) (b := i) (by omega) (by omega)), fun _ => s_X2_copyFrom hr ok (fun F3 A3 r3 => s_X2_passDays (r3.fld (i := 10) (k := 4) (Or.inr (Or.inl ⟨rfl, rfl⟩))) (hb i (by omega)) (by omega) (fun F4 A4 r4 => fun y hy => ?_))⟩
    rw [r4.1.2.1, offS_ap (hb i (by omega)) hp] at hy
    subst hy
    refine ⟨fun q => ?_, fun q => ?_⟩
    · unfold p_X6_callFor_J94
      exact fun w hw => ih _ _ _ _ _ ⟨by rw [hw]; exact nI_1 _, by rw [nbB, if_neg (Int32.not_lt.mpr q)], by rw [nbL, if_neg (Int32.not_lt.mpr q)]⟩
    · unfold p_X6_callFor_J94
      exact fun w hw => ih _ _ _ _ _ ⟨by rw [hw]; exact nI_1 _, by rw [nbB, if_pos (Int32.not_le.mp q)], by rw [nbL, if_pos (Int32.not_le.mp q)]⟩
theorem j_kindFor {F Fn Ft : tF} {An At : tA} {FM : tF} {A : tA} (h : HZ Fn An A) (u x y : Int32) : p_X6_kindFor F Fn An Ft At u x y (fun r _ _ => p_X7_kindFor FM A u x y (Rn FM A r Fn An)) := by
  obtain ⟨hr, ok, z0, z2, z3⟩ := id h
  have hn := ok.n.2
  unfold p_X6_kindFor
  by_cases co : inR u (nS (A 0))
  rotate_left
  · exact f0 hr ok co (a0 (by unfold p_X7_kindFor; exact o0 ok co (a0 h.rn)))
  refine f1 hr ok co (a1 ?_)
  by_cases c : inR x 6
  rotate_left
  · exact w0 (m := 6) c (by omega) (a0 (by unfold p_X7_kindFor; exact o1 ok co (a1 (p0 c (a0 h.rn)))))
  refine w1 (m := 6) c (by omega) (a1 (cl1 (m := 20) (by omega) (fun d => ?_) (fun d => by unfold p_X7_kindFor; exact o1 ok co (a1 (p1 c (a1 (s_X7_isShort (fun q => absurd q d) (fun _ => a0 h.rn))))))))
  obtain ⟨o, ho, rfl⟩ := id co
  obtain ⟨p, hp, rfl⟩ := id c
  obtain ⟨n, n1, n2, rfl⟩ := id d
  have hb : ∀ v, v ≤ 5 → OkS (upd (A 0) (21 + 4 * o) (nI v)) := fun v hv => ok.put (by omega) (fun _ => by rw [bnd_k]; exact ⟨v, hv, rfl⟩)
  have X7 : p_X7_kindFor FM A (nI o) (nI p) (nI n) (Rn FM A (nbB 6 (offS (A 0) (21 + 4 * o) p n) 6) Fn An) := by
    unfold p_X7_kindFor
    rw [ix_o0]
    refine o1 ok co (a1 (p1 c (a1 (s_X7_isShort (fun _ => a1 (s_X7_nearestBy (k := 21 + 4 * o) (last := 5) ok z0 z2 (by omega) (by omega) (by omega) hb (by omega) (fun A' k z => ⟨?_, rfl, Kp.ofK2 k, h.k2 k z⟩))) (fun q => absurd d q)))))
    exact (nb_eq (offS_lt (hb 0 (by omega)) hp) 6).1
  refine lq5 (p_X6_kindFor_L40 F Fn An (nI o) (nI p) (nI n) _) (fun i _ _ b l v => v = nI i ∧ b = nbB 6 (offS (A 0) (21 + 4 * o) p n) i ∧ l = nbL 6 (offS (A 0) (21 + 4 * o) p n) i) 6 0 (by omega) ?_ ?_ ⟨rfl, rfl, rfl⟩
  · rintro m Fa Aa b l v ⟨e1, e2, _⟩
    rw [p_X6_kindFor_L40, e1, e2]
    exact ⟨fun _ => X7, fun q => absurd (nI_le (a := 6) (b := 6) (by omega) (by omega)) q⟩
  · rintro m i Fa Aa b l v g1 g2 ⟨rfl, rfl, rfl⟩ ih
    rw [p_X6_kindFor_L40, nI_clamp (by omega)]
    refine ⟨fun q => absurd q (nI_ge (a := i) (b := 6) g2 (by omega)), fun _ => s_X2_copyFrom hr ok (fun F3 A3 r3 => ⟨vp_in_nI (by omega) (by omega), fun f hf => s_X2_passDays (r3.put (Cs.k ho) hf) (hb i (by omega)) (by omega) (fun F4 A4 r4 => fun y hy => ?_)⟩)⟩
    rw [r4.1.2.1, offS_ap (hb i (by omega)) hp] at hy
    subst hy
    refine ⟨fun q => ?_, fun q => ?_⟩
    · unfold p_X6_kindFor_J106
      exact fun w hw => ih _ _ _ _ _ ⟨by rw [hw]; exact nI_1 _, by rw [nbB, if_neg (Int32.not_lt.mpr q)], by rw [nbL, if_neg (Int32.not_lt.mpr q)]⟩
    · unfold p_X6_kindFor_J106
      exact fun w hw => ih _ _ _ _ _ ⟨by rw [hw]; exact nI_1 _, by rw [nbB, if_pos (Int32.not_le.mp q)], by rw [nbL, if_pos (Int32.not_le.mp q)]⟩
theorem j_earFor {F Fn Ft : tF} {An At : tA} {FM : tF} {A : tA} (h : HZ Fn An A) (u x y : Int32) : p_X6_earFor F Fn An Ft At u x y (fun r _ _ => p_X7_earFor FM A u x y (Rn FM A r Fn An)) := by
  obtain ⟨hr, ok, z0, z2, z3⟩ := id h
  have hn := ok.n.2
  unfold p_X6_earFor
  by_cases co : inR u (nS (A 0))
  rotate_left
  · exact f0 hr ok co (a0 (by unfold p_X7_earFor; exact o0 ok co (a0 h.rn)))
  refine f1 hr ok co (a1 ?_)
  by_cases c : inR x 6
  rotate_left
  · exact w0 (m := 6) c (by omega) (a0 (by unfold p_X7_earFor; exact o1 ok co (a1 (p0 c (a0 h.rn)))))
  refine w1 (m := 6) c (by omega) (a1 (cl1 (m := 20) (by omega) (fun d => ?_) (fun d => by unfold p_X7_earFor; exact o1 ok co (a1 (p1 c (a1 (s_X7_isShort (fun q => absurd q d) (fun _ => b0 h.rn))))))))
  obtain ⟨o, ho, rfl⟩ := id co
  obtain ⟨n, n1, n2, rfl⟩ := id d
  have hb : ∀ v, v ≤ 9 → OkS (upd (A 0) (22 + 4 * o) (nI v)) := fun v hv => ok.put (by omega) (fun _ => by rw [bnd_e]; exact ⟨v, hv, rfl⟩)
  generalize hP : (fun v : Nat => daysS n (upd (A 0) (22 + 4 * o) (nI v)) 3 = x) = P
  have dP : ∀ v, P v ↔ daysS n (upd (A 0) (22 + 4 * o) (nI v)) 3 = x := fun v => by rw [← hP]
  have dd : ∀ v, Decidable (P v) := fun v => decidable_of_iff' _ (dP v)
  have X7 : p_X7_earFor FM A (nI o) x (nI n) (Rn FM A (firstU P 10 0) Fn An) := by
    unfold p_X7_earFor
    rw [ix_o1]
    refine o1 ok co (a1 (p1 c (a1 (s_X7_isShort (fun _ => b1 (fun y1 e1 => ?_)) (fun q => absurd d q)))))
    subst e1
    rw [nI_clamp (by omega)]
    have ik : vp_in (nI (22 + 4 * o)) 53 := vp_in_nI (by omega) (by omega)
    refine ⟨ik, fun y2 e2 => ?_⟩
    have J : ∀ A' w, A' 0 = upd (A 0) (22 + 4 * o) w → (∀ j, j ≠ 0 → j ≠ 2 → j ≠ 12 → A' j = A j) → Z53 (A' 2) → p_X7_earFor_J95 FM A' (Rn FM A (firstU P 10 0) Fn An) (nI (22 + 4 * o)) y2 (firstU P 10 0) := by
      intro A' w e t z
      unfold p_X7_earFor_J95
      rw [nI_clamp (by omega), e]
      refine ⟨ik, fun f hf => ?_⟩
      have kk : K2 A (va_up A' 0 f) := fun j a b => by
        by_cases j0 : j = 0
        · subst j0; rw [va_up_self, hf, upd_upd, e2, upd_self]
        · rw [va_up_ne _ _ j0]; exact t j j0 a b
      exact ⟨rfl, rfl, Kp.ofK2 kk, h.k2 kk (by rw [va_up_ne _ _ (by omega)]; exact z)⟩
    refine lq4 (p_X7_earFor_L50 x (nI n) (nI (22 + 4 * o)) y2 (Rn FM A (firstU P 10 0) Fn An)) (fun i F' A' b v => F' = FM ∧ v = nI i ∧ (∀ j, j ≠ 0 → j ≠ 2 → j ≠ 12 → A' j = A j) ∧ Z53 (A' 2) ∧ (∃ w, A' 0 = upd (A 0) (22 + 4 * o) w) ∧ ((b = -3 ∧ firstU P (10 - i) i = firstU P 10 0) ∨ (¬ b < 0 ∧ b = firstU P 10 0))) 10 0 (by omega) ?_ ?_ ⟨rfl, rfl, fun _ _ _ _ => rfl, z2, ⟨A 0 (22 + 4 * o), upd_self.symm⟩, Or.inl ⟨rfl, rfl⟩⟩
    · rintro m F' A' b v ⟨rfl, rfl, t, z, ⟨w, e⟩, u⟩
      rw [p_X7_earFor_L50]
      refine ⟨fun _ => ?_, fun q => absurd (nI_lt (a := 9) (b := 10) (by omega) (by omega)) q⟩
      rcases u with ⟨u1, u2⟩ | ⟨u1, u2⟩
      · have : b = firstU P 10 0 := by rw [u1, ← u2]; rfl
        rw [this]; exact J A' w e t z
      · rw [u2]; exact J A' w e t z
    · rintro m i F' A' b v g1 g2 ⟨rfl, rfl, t, z, ⟨w, e⟩, u⟩ ih
      rw [p_X7_earFor_L50]
      refine ⟨fun q => absurd q (nI_nlt (a := 9) (b := i) (by omega) (by omega)), fun _ => ?_⟩
      rcases u with ⟨u1, u2⟩ | ⟨u1, u2⟩
      · refine ⟨fun q => absurd q (by rw [u1]; decide), fun _ => ?_⟩
        rw [nI_clamp (by omega), e]
        refine ⟨ik, fun f hf => ?_⟩
        have ef : f = upd (A 0) (22 + 4 * o) (nI i) := by rw [hf, upd_upd]
        subst ef
        refine s_X7_whereBehind (by rw [va_up_self]; exact hb i (by omega)) (by rw [va_up_self]; exact z0.up (by omega)) (by rw [va_up_ne _ _ (by omega)]; exact z) (by omega) (fun A2 k2 z3 => ?_)
        rw [va_up_self]
        have t2 : ∀ j, j ≠ 0 → j ≠ 2 → j ≠ 12 → A2 j = A j := fun j a b c => by rw [k2 j b c, va_up_ne _ _ a]; exact t j a b c
        have e3 : A2 0 = upd (A 0) (22 + 4 * o) (nI i) := by rw [k2 0 (by omega) (by omega), va_up_self]
        refine ⟨fun q => ?_, fun q => ?_⟩
        · unfold p_X7_earFor_J87
          exact fun w hw => ih _ _ _ _ ⟨rfl, by rw [hw]; exact nI_1 _, t2, z3, ⟨_, e3⟩, Or.inl ⟨rfl, by rw [← u2]; exact (firstU_n g2 (fun c => q ((dP i).mp c))).symm⟩⟩
        · unfold p_X7_earFor_J87
          exact fun w hw => ih _ _ _ _ ⟨rfl, by rw [hw]; exact nI_1 _, t2, z3, ⟨_, e3⟩, Or.inr ⟨nI_pos (by omega), by rw [← u2]; exact (firstU_y g2 ((dP i).mpr q)).symm⟩⟩
      · refine ⟨fun _ => ?_, fun q => absurd (Int32.not_lt.mp u1) q⟩
        rw [u2]; exact J A' w e t z
  refine lq3 (p_X6_earFor_L33 F Fn An (nI o) x (nI n) _) (fun i _ _ v => v = nI i ∧ firstU P (10 - i) i = firstU P 10 0) 10 0 (by omega) ?_ ?_ ⟨rfl, rfl⟩
  · rintro m Fa Aa v ⟨rfl, u⟩
    rw [p_X6_earFor_L33]
    refine ⟨fun _ => ?_, fun q => absurd (nI_lt (a := 9) (b := 10) (by omega) (by omega)) q⟩
    have u' : (-3 : Int32) = firstU P 10 0 := u
    rw [u']; exact X7
  · rintro m i Fa Aa v g1 g2 ⟨rfl, u⟩ ih
    rw [p_X6_earFor_L33, nI_clamp (by omega)]
    refine ⟨fun q => absurd q (nI_nlt (a := 9) (b := i) (by omega) (by omega)), fun _ => s_X2_copyFrom hr ok (fun F3 A3 r3 => ⟨vp_in_nI (by omega) (by omega), fun f hf => s_X2_passDays (r3.put (Cs.e ho) hf) (hb i (by omega)) (by omega) (fun F4 A4 r4 => ?_)⟩)⟩
    rw [r4.1.2.1]
    refine ⟨fun q y hy => ih _ _ _ ⟨by rw [hy]; exact nI_1 _, by rw [← u]; exact (firstU_n g2 (fun c => q ((dP i).mp c))).symm⟩, fun q => ?_⟩
    have u' : nI i = firstU P 10 0 := by rw [← u]; exact (firstU_y g2 ((dP i).mpr q)).symm
    rw [u']; exact X7
