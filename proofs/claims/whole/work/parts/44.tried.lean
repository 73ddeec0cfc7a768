/-! side by side: what would come -/
theorem HR.fld {F : tF} {A : tA} {s : tF} (h : HR F A s) {i k : Nat} {v : Int32} (c : (i = 9 ∧ k = 3) ∨ (i = 10 ∧ k = 4) ∨ (i = 12 ∧ k = 2)) : HR (upd F i v) A (upd s k v) := by
  obtain ⟨⟨q1, q2, q3, q4, q5⟩, l⟩ := HR.iff.mp h
  have e : ∀ m, m ≠ k → upd s k v m = s m := fun m hm => pk_un hm
  have ef : ∀ m, m ≠ i → upd F i v m = F m := fun m hm => pk_un hm
  have en : nS (upd s k v) = nS s := by unfold nS; rw [e 0 (by omega)]
  refine HR.iff.mpr ⟨?_, fun i' j' k' c' => ?_⟩
  · rcases c with ⟨rfl, rfl⟩ | ⟨rfl, rfl⟩ | ⟨rfl, rfl⟩
    · rw [pk_us, pk_us, ef 8 (by omega), ef 10 (by omega), ef 11 (by omega), ef 12 (by omega), e 0 (by omega), e 4 (by omega), e 1 (by omega), e 2 (by omega)]; exact ⟨q1, rfl, q3, q4, q5⟩
    · rw [pk_us, pk_us, ef 8 (by omega), ef 9 (by omega), ef 11 (by omega), ef 12 (by omega), e 0 (by omega), e 3 (by omega), e 1 (by omega), e 2 (by omega)]; exact ⟨q1, q2, rfl, q4, q5⟩
    · rw [pk_us, pk_us, ef 8 (by omega), ef 9 (by omega), ef 10 (by omega), ef 11 (by omega), e 0 (by omega), e 3 (by omega), e 4 (by omega), e 1 (by omega)]; exact ⟨q1, q2, q3, q4, rfl⟩
  · rw [en] at c'
    rw [e k' (by unfold Cs at c'; omega)]; exact l i' j' k' c'
theorem nS_put {s : tF} {k : Nat} {v : Int32} (hk : 1 ≤ k) : nS (upd s k v) = nS s := by unfold nS; rw [pk_un (by omega)]
theorem upd_upd {f : tF} {k : Nat} {v w : Int32} : upd (upd f k v) k w = upd f k w := by
  funext j; unfold upd; split <;> rfl
theorem upd_self {f : tF} {k : Nat} : upd f k (f k) = f := by
  funext j; unfold upd; split
  · rename_i e; rw [e]
  · rfl
def stZ (s : tF) : Nat → Int32
  | 0 => s 2
  | k + 1 => dayS (drawS (upd s 2 (stZ s k))) 2
def stC (s : tF) : Nat → Int32
  | 0 => 0
  | k + 1 => if dayS (drawS (upd s 2 (stZ s k))) 3 = dayS s 3 then stC s k else stC s k + 1
theorem HZ.k2 {Fn : tF} {An A : tA} (h : HZ Fn An A) {A' : tA} (k : K2 A A') (z : Z53 (A' 2)) : HZ Fn An A' :=
  h.of (k 0 (by omega) (by omega)) h.1 h.2.1 h.2.2.1 z (k 3 (by omega) (by omega))
theorem s_X6_strays {F Fn Ft : tF} {An At : tA} {s : tF} (hr : HR Fn An s) (ok : OkS s) {n : Nat} (h1 : 1 ≤ n) (h2 : n ≤ 30) {K : Int32 → tF → tA → Prop} (hk : ∀ F' A', K (stC s n) F' A') : p_X6_strays F Ft At Fn An (nI n) K := by
  unfold p_X6_strays
  refine cl1 (m := 30) (by omega) (fun _ => ?_) (fun c => absurd ⟨n, h1, h2, rfl⟩ c)
  refine s_X2_copyFrom hr ok (fun F1 A1 r1 => s_X2_passDay r1 ok (fun F2 A2 r2 y1 e1 y2 e2 => ?_))
  have e1' : y1 = dayS s 3 := by rw [e1]; exact r2.1.2.1
  have e2' : y2 = s 2 := by rw [e2]; exact hr.1.2.2.2.2
  subst e1' e2'
  refine lq5 (p_X6_strays_L53 F Fn An (nI n) (dayS s 3) K) (fun i _ _ c z x => x = nI i ∧ c = stC s i ∧ z = stZ s i) n 0 (by omega) ?_ ?_ ⟨rfl, rfl, rfl⟩
  · rintro m Fa Aa c z x ⟨rfl, rfl, rfl⟩
    rw [p_X6_strays_L53]
    exact ⟨fun _ => hk _ _, fun q => absurd (nI_le (Nat.le_refl _) (by omega)) q⟩
  · rintro m i Fa Aa c z x g1 g2 ⟨rfl, rfl, rfl⟩ ih
    rw [p_X6_strays_L53]
    refine ⟨fun q => absurd q (nI_ge g2 (by omega)), fun _ => s_X2_copyFrom hr ok (fun F3 A3 r3 => ?_)⟩
    refine s_X2_passDayByDraws (r3.fld (i := 12) (k := 2) (Or.inr (Or.inr ⟨rfl, rfl⟩))) (ok.put (by omega) (fun q => absurd q (by decide))) (fun F4 A4 r4 y ey => ?_)
    have e3 : F4 9 = dayS (drawS (upd s 2 (stZ s i))) 3 := r4.1.2.1
    have e4 : y = stZ s (i + 1) := by rw [ey]; exact r4.1.2.2.2.2
    rw [e3]
    refine ⟨fun q => ?_, fun q y2 ey2 => ?_⟩
    · unfold p_X6_strays_J109
      exact fun w hw => ih _ _ _ _ _ ⟨by rw [hw]; exact nI_1 _, by rw [stC, if_pos q], e4⟩
    · unfold p_X6_strays_J109
      exact fun w hw => ih _ _ _ _ _ ⟨by rw [hw]; exact nI_1 _, by rw [stC, if_neg q, ey2], e4⟩
theorem s_X7_strays {F : tF} {A : tA} (ok : OkS (A 0)) (z0 : Z53 (A 0)) (z2 : Z53 (A 2)) {n : Nat} (h1 : 1 ≤ n) (h2 : n ≤ 30) {K : Int32 → tF → tA → Prop} (hk : ∀ A', K2 A A' → Z53 (A' 2) → K (stC (A 0) n) F A') : p_X7_strays F A (nI n) K := by
  generalize hs : A 0 = s at *
  unfold p_X7_strays
  refine j1 (m := 30) ⟨n, h1, h2, rfl⟩ (by omega) rfl rfl (b1 ?_)
  rw [hs]
  refine s_X7_copyRow z0 z2 ?_
  have e0 : va_up A 2 s 0 = s := by rw [va_up_ne _ _ (by omega)]; exact hs
  refine s_X7_goesOn (by rw [e0]; exact ok) (fun A2 q2 t2 => fun y1 e1 y2 e2 => ?_)
  rw [e0] at q2
  have f2 : A2 2 = s := by rw [t2 2 (by omega) (by omega), va_up_self]
  have e1' : y1 = dayS s 3 := by rw [e1, q2]
  have e2' : y2 = s 2 := by rw [e2, f2]
  subst e1' e2'
  have kk : ∀ A', K12 A2 A' → ∀ k, k ≠ 0 → k ≠ 2 → k ≠ 12 → A' k = A k := fun A' t k a b c => by rw [t k a c, t2 k a c, va_up_ne _ _ b]
  refine lq5 (p_X7_strays_L49 (nI n) (dayS s 3) K) (fun i F' A' z c x => F' = F ∧ x = nI i ∧ c = stC s i ∧ z = stZ s i ∧ K12 A2 A' ∧ Z53 (A' 0)) n 0 (by omega) ?_ ?_ ⟨rfl, rfl, rfl, rfl, K12.rf, by rw [q2]; exact z0.day ok.n.2⟩
  · rintro m F' A' z c x ⟨rfl, rfl, rfl, rfl, t3, z3⟩
    rw [p_X7_strays_L49]
    have f3 : A' 2 = s := by rw [t3 2 (by omega) (by omega)]; exact f2
    rw [f3]
    refine ⟨fun _ => s_X7_copyRow z0 z3 (hk _ (fun k a b => ?_) ?_), fun q => absurd (nI_le (Nat.le_refl _) (by omega)) q⟩
    · by_cases k0 : k = 0
      · subst k0; rw [va_up_self, hs]
      · rw [va_up_ne _ _ k0]; exact kk A' t3 k k0 a b
    · rw [va_up_ne _ _ (by omega), f3]; exact z0
  · rintro m i F' A' z c x g1 g2 ⟨rfl, rfl, rfl, rfl, t3, z3⟩ ih
    rw [p_X7_strays_L49]
    have f3 : A' 2 = s := by rw [t3 2 (by omega) (by omega)]; exact f2
    rw [f3]
    refine ⟨fun q => absurd q (nI_ge g2 (by omega)), fun _ => s_X7_copyRow z0 z3 (fun f hf => ?_)⟩
    subst hf
    refine s_X7_day (by rw [va_up_self]; exact ok.put (by omega) (fun q => absurd q (by decide))) (fun A4 q4 t4 => ?_)
    rw [va_up_self] at q4
    have t5 : K12 A2 A4 := fun k a b => by rw [t4 k a b, va_up_ne _ _ a]; exact t3 k a b
    have z5 : Z53 (A4 0) := by
      rw [q4]
      have zz : Z53 (upd s 2 (stZ s i)) := z0.up (by omega)
      have oo : OkS (upd s 2 (stZ s i)) := ok.put (by omega) (fun q => absurd q (by decide))
      exact (zz.draw oo.n.2).day oo.draw.n.2
    have e4 : A4 0 2 = stZ s (i + 1) := by rw [q4]; rfl
    rw [q4]
    refine ⟨fun q => ?_, fun q => ?_⟩
    · unfold p_X7_strays_J88
      exact fun c hc w hw v hv => ih _ _ _ _ _ ⟨rfl, by rw [hv]; exact nI_1 _, by rw [hc, stC, if_neg q], by rw [hw, e4], t5, z5⟩
    · unfold p_X7_strays_J88
      exact fun c hc w hw v hv => ih _ _ _ _ _ ⟨rfl, by rw [hv]; exact nI_1 _, by rw [hc, stC, if_pos q]; exact Int32.add_zero _, by rw [hw, e4], t5, z5⟩
theorem j_strays {F Fn Ft : tF} {An At : tA} {FM : tF} {A : tA} (h : HZ Fn An A) (x : Int32) : p_X6_strays F Ft At Fn An x (fun r _ _ => p_X7_strays FM A x (Rn FM A r Fn An)) := by
  obtain ⟨hr, ok, z0, z2, z3⟩ := id h
  by_cases c : in1 x 30
  · obtain ⟨n, h1, h2, rfl⟩ := id c
    exact s_X6_strays hr ok h1 h2 (fun _ _ => s_X7_strays ok z0 z2 h1 h2 (fun A' k z => ⟨rfl, rfl, Kp.ofK2 k, h.k2 k z⟩))
  · unfold p_X6_strays
    exact cl1 (m := 30) (by omega) (fun q => absurd q c) (fun _ => by unfold p_X7_strays; exact j0 (m := 30) c (by omega) rfl rfl (b0 h.rn))
theorem j_where {F Fn Ft : tF} {An At : tA} {FM : tF} {A : tA} (h : HZ Fn An A) (x : Int32) : p_X6_where F Ft At Fn An x (fun r _ _ => p_X7_where FM A x (Rn FM A r Fn An)) := by
  obtain ⟨hr, ok, z0, z2, z3⟩ := id h
  unfold p_X6_where
  refine cl0 (m := 60) (by omega) (fun c => ?_) (fun c => by unfold p_X7_where; exact i0 (m := 60) c (by omega) rfl rfl (a0 h.rn))
  obtain ⟨n, hn, rfl⟩ := id c
  refine s_X2_copyFrom hr ok (fun F1 A1 r1 => s_X2_passDays r1 ok (by omega) (fun F2 A2 r2 => ?_))
  unfold p_X7_where
  refine i1 (m := 60) c (by omega) rfl rfl (a1 (s_X7_whereBehind ok z0 z2 (by omega) (fun A' k z => ⟨r2.1.2.1, rfl, Kp.ofK2 k, h.k2 k z⟩)))
def firstU (P : Nat → Prop) [∀ k, Decidable (P k)] : Nat → Nat → Int32
  | 0, _ => -3
  | r + 1, i => if P i then nI i else firstU P r (i + 1)
theorem firstU_y {P : Nat → Prop} [∀ k, Decidable (P k)] {N i : Nat} (h : i < N) (c : P i) : firstU P (N - i) i = nI i := by
  rw [show N - i = (N - i - 1) + 1 by omega, firstU, if_pos c]
theorem firstU_n {P : Nat → Prop} [∀ k, Decidable (P k)] {N i : Nat} (h : i < N) (c : ¬ P i) : firstU P (N - i) i = firstU P (N - (i + 1)) (i + 1) := by
  rw [show N - i = (N - (i + 1)) + 1 by omega, firstU, if_neg c]
theorem j_comes {F Fn Ft : tF} {An At : tA} {FM : tF} {A : tA} (h : HZ Fn An A) (x : Int32) : p_X6_comes F Ft At Fn An x (fun r _ _ => p_X7_comes FM A x (Rn FM A r Fn An)) := by
  obtain ⟨hr, ok, z0, z2, z3⟩ := id h
  unfold p_X6_comes
  by_cases c : inR x 6
  rotate_left
  · exact w0 (m := 6) c (by omega) (b0 (by unfold p_X7_comes; exact p0 c (b0 h.rn)))
  refine w1 (m := 6) c (by omega) (b1 ?_)
  generalize hs : A 0 = s at *
  have X7 : p_X7_comes FM A x (Rn FM A (firstU (fun k => daysS k s 3 = x) 61 0) Fn An) := by
    unfold p_X7_comes
    refine p1 c (b1 ?_)
    rw [hs]
    refine s_X7_copyRow z0 z2 ?_
    have J : ∀ A' i, (K12 (va_up A 2 s) A') → Z53 (A' 0) → i ≤ 61 → (i = 61 → firstU (fun k => daysS k s 3 = x) 61 0 = -3) → (i < 61 → firstU (fun k => daysS k s 3 = x) 61 0 = nI i) → p_X7_comes_J48 FM A' (Rn FM A (firstU (fun k => daysS k s 3 = x) 61 0) Fn An) (nI i) := by
      intro A' i t z hi e1 e2
      unfold p_X7_comes_J48
      have f2 : A' 2 = s := by rw [t 2 (by omega) (by omega), va_up_self]
      rw [f2]
      have kk : K2 A (va_up A' 0 s) := fun k a b => by
        by_cases k0 : k = 0
        · subst k0; rw [va_up_self, hs]
        · rw [va_up_ne _ _ k0, t k k0 b, va_up_ne _ _ a]
      have hz := h.k2 kk (by rw [va_up_ne _ _ (by omega), f2]; exact z0)
      refine s_X7_copyRow z0 z ⟨fun q => ⟨e1 ?_, rfl, Kp.ofK2 kk, hz⟩, fun q => ⟨e2 ?_, rfl, Kp.ofK2 kk, hz⟩⟩
      · have := (nI_ltI (a := 60) (b := i) (by omega) (by omega)).mp q; omega
      · rcases Nat.lt_or_ge i 61 with w | w
        · exact w
        · exact absurd (nI_lt (a := 60) (b := i) (by omega) (by omega)) q
    refine lq3 (p_X7_comes_L22 x (Rn FM A (firstU (fun k => daysS k s 3 = x) 61 0) Fn An)) (fun i F' A' v => F' = FM ∧ v = nI i ∧ A' 0 = daysS i s ∧ K12 (va_up A 2 s) A' ∧ firstU (fun k => daysS k s 3 = x) (61 - i) i = firstU (fun k => daysS k s 3 = x) 61 0) 61 0 (by omega) ?_ ?_ ⟨rfl, rfl, by rw [va_up_ne _ _ (by omega)]; exact hs, K12.rf, rfl⟩
    · rintro m F' A' v ⟨rfl, rfl, e, t, u⟩
      rw [p_X7_comes_L22]
      exact ⟨fun _ => J A' 61 t (by rw [e]; exact z0.days ok.n.2 _) (by omega) (fun _ => u.symm) (fun q => absurd q (by omega)), fun q => absurd (nI_lt (a := 60) (b := 61) (by omega) (by omega)) q⟩
    · rintro m i F' A' v g1 g2 ⟨rfl, rfl, e, t, u⟩ ih
      rw [p_X7_comes_L22, e]
      refine ⟨fun q => absurd q (nI_nlt (a := 60) (b := i) (by omega) (by omega)), fun _ => ⟨fun q => J A' i t (by rw [e]; exact z0.days ok.n.2 _) (by omega) (fun w => absurd w (by omega)) (fun _ => by rw [← u]; exact firstU_y g2 q), fun q => ?_⟩⟩
      refine s_X7_goesOn (by rw [e]; exact daysS_ok ok i) (fun A2 q2 t2 y hy => ih _ _ _ ⟨rfl, by rw [hy]; exact nI_1 _, by rw [q2, e]; rfl, t.tr t2, by rw [← u]; exact (firstU_n g2 q).symm⟩)
  refine s_X2_copyFrom hr ok (fun F1 A1 r1 => ?_)
  refine lq3 (p_X6_comes_L24 F Fn An x _) (fun i F' A' v => v = nI i ∧ HR F' A' (daysS i s) ∧ firstU (fun k => daysS k s 3 = x) (61 - i) i = firstU (fun k => daysS k s 3 = x) 61 0) 61 0 (by omega) ?_ ?_ ⟨rfl, r1, rfl⟩
  · rintro m F' A' v ⟨rfl, r2, u⟩
    rw [p_X6_comes_L24]
    refine ⟨fun _ => ?_, fun q => absurd (nI_lt (a := 60) (b := 61) (by omega) (by omega)) q⟩
    have u' : (-3 : Int32) = firstU (fun k => daysS k s 3 = x) 61 0 := u
    rw [u']; exact X7
  · rintro m i F' A' v g1 g2 ⟨rfl, r2, u⟩ ih
    rw [p_X6_comes_L24, r2.1.2.1]
    refine ⟨fun q => absurd q (nI_nlt (a := 60) (b := i) (by omega) (by omega)), fun _ => ⟨fun q => ?_, fun q => ?_⟩⟩
    · exact s_X2_passDay r2 (daysS_ok ok i) (fun F3 A3 r3 y hy => ih _ _ _ ⟨by rw [hy]; exact nI_1 _, r3, by rw [← u]; exact (firstU_n g2 q).symm⟩)
    · have u' : nI i = firstU (fun k => daysS k s 3 = x) 61 0 := by rw [← u]; exact (firstU_y g2 q).symm
      rw [u']; exact X7
