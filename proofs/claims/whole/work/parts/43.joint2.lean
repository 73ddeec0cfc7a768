/-! side by side: laws, sheep, places as they are; days -/
theorem in6 {x : Int32} (h : inR x 6) : x = 0 ∨ x = 1 ∨ x = 2 ∨ x = 3 ∨ x = 4 ∨ x = 5 := by
  obtain ⟨j, hj, rfl⟩ := h
  rcases (show j = 0 ∨ j = 1 ∨ j = 2 ∨ j = 3 ∨ j = 4 ∨ j = 5 by omega) with e | e | e | e | e | e <;> subst e
  · exact Or.inl rfl
  · exact Or.inr (Or.inl rfl)
  · exact Or.inr (Or.inr (Or.inl rfl))
  · exact Or.inr (Or.inr (Or.inr (Or.inl rfl)))
  · exact Or.inr (Or.inr (Or.inr (Or.inr (Or.inl rfl))))
  · exact Or.inr (Or.inr (Or.inr (Or.inr (Or.inr rfl))))
theorem in4 {x : Int32} (h : inR x 4) : x = 0 ∨ x = 1 ∨ x = 2 ∨ x = 3 := by
  obtain ⟨j, hj, rfl⟩ := h
  rcases (show j = 0 ∨ j = 1 ∨ j = 2 ∨ j = 3 by omega) with e | e | e | e <;> subst e
  · exact Or.inl rfl
  · exact Or.inr (Or.inl rfl)
  · exact Or.inr (Or.inr (Or.inl rfl))
  · exact Or.inr (Or.inr (Or.inr rfl))
theorem in2 {x : Int32} (h : inR x 2) : x = 0 ∨ x = 1 := by
  obtain ⟨j, hj, rfl⟩ := h
  rcases (show j = 0 ∨ j = 1 by omega) with e | e <;> subst e
  · exact Or.inl rfl
  · exact Or.inr rfl
theorem j_of {F Fn : tF} {An : tA} {FM : tF} {A : tA} (h : HZ Fn An A) (x y : Int32) : p_X6_of F Fn An x y (fun r => p_X7_of FM A x y (fun r' => r = r')) := by
  obtain ⟨hr, ok, _⟩ := id h
  have hn := ok.n.2
  unfold p_X6_of
  by_cases c : inR x (nS (A 0))
  rotate_left
  · exact f0 hr ok c (b0 (by unfold p_X7_of; exact o0 ok c (a0 rfl)))
  refine f1 hr ok c (b1 ?_)
  obtain ⟨o, ho, rfl⟩ := id c
  have io : vp_in (nI o) 8 := vp_in_nI (by omega) (by omega)
  have eo : (nI o).toNatClampNeg = o := nI_clamp (by omega)
  obtain ⟨m1, m2, m3, m4⟩ := hr.2.2.2.2 o ho
  have h8 : o < 8 := by omega
  have G : ∀ (v : Nat) (r : Int32), v < 6 → (v < 4 → r = A 0 (21 + 4 * o + v)) → (v = 4 → r = countS (A 0) o) → (v = 5 → r = nI (voteS (A 0) o)) → p_X7_of FM A (nI o) (nI v) (fun r' => r = r') := by
    intro v r hv e1 e2 e3
    unfold p_X7_of
    refine o1 ok c (a1 (i1 (m := 5) ⟨v, hv, rfl⟩ (by omega) rfl rfl (b1 ⟨fun q => ⟨fun d => ?_, fun d => ?_⟩, fun q => ?_⟩)))
    · have v4 : 4 ≤ v := (nI_leI (a := 4) (b := v) (by omega) (by omega)).mp q
      exact s_X7_voteOf h8 (e3 (by have : v ≠ 4 := fun w => d (by rw [w]; rfl)
                                   omega))
    · exact s_X7_counts ok h8 (e2 ((nI_eq (a := v) (b := 4) (by omega) (by omega)).mp d))
    · have v4 : v < 4 := by
        rcases Nat.lt_or_ge v 4 with w | w
        · exact w
        · exact absurd (nI_le (a := 4) (b := v) w (by omega)) q
      exact s_X7_its h8 v4 rfl (e1 v4)
  refine ⟨fun e => ?_, fun e => ?_, fun e => ?_, fun e => ?_, fun e => ?_, fun e => ?_, fun e0 e1 e2 e3 e4 e5 => ?_⟩
  · subst e; rw [eo]; exact ⟨io, G 0 _ (by omega) (fun _ => m1) (fun q => absurd q (by decide)) (fun q => absurd q (by decide))⟩
  · subst e; rw [eo]; exact ⟨io, G 1 _ (by omega) (fun _ => by rw [m2]; congr 1; omega) (fun q => absurd q (by decide)) (fun q => absurd q (by decide))⟩
  · subst e; rw [eo]; exact ⟨io, G 2 _ (by omega) (fun _ => by rw [m3]; congr 1; omega) (fun q => absurd q (by decide)) (fun q => absurd q (by decide))⟩
  · subst e; rw [eo]; exact ⟨io, G 3 _ (by omega) (fun _ => by rw [m4]; congr 1; omega) (fun q => absurd q (by decide)) (fun q => absurd q (by decide))⟩
  · subst e; exact s_X2_weightOf hr ok ho (G 4 _ (by omega) (fun q => absurd q (by decide)) (fun _ => rfl) (fun q => absurd q (by decide)))
  · subst e; exact s_X2_voteOf hr ok ho (G 5 _ (by omega) (fun q => absurd q (by decide)) (fun q => absurd q (by decide)) (fun _ => rfl))
  · unfold p_X7_of
    exact o1 ok c (a1 (i0 (m := 5) (fun q => by rcases in6 q with w | w | w | w | w | w <;> first | exact e0 w | exact e1 w | exact e2 w | exact e3 w | exact e4 w | exact e5 w) (by omega) rfl rfl (b0 rfl)))
theorem j_worth {F Fn : tF} {An : tA} {FM : tF} {A : tA} (h : HZ Fn An A) (x y : Int32) : p_X6_worth F Fn An x y (fun r => p_X7_worth FM A x y (fun r' => r = r')) := by
  obtain ⟨hr, ok, _⟩ := id h
  have hn := ok.n.2
  unfold p_X6_worth
  by_cases c : inR x (nS (A 0))
  rotate_left
  · exact f0 hr ok c (a0 (by unfold p_X7_worth; exact o0 ok c (a0 rfl)))
  refine f1 hr ok c (a1 ?_)
  by_cases d : inR y 6
  rotate_left
  · exact w0 (m := 6) d (by omega) (b0 (by unfold p_X7_worth; exact o1 ok c (a1 (p0 d (a0 rfl)))))
  refine w1 (m := 6) d (by omega) (b1 ?_)
  unfold p_X7_worth
  obtain ⟨o, ho, rfl⟩ := id c
  obtain ⟨p, hp, rfl⟩ := id d
  exact s_X2_worthTo hr ok ho hp (o1 ok c (a1 (p1 d (a1 (s_X7_worthOf (by omega) hp rfl)))))
theorem j_tames {F Fn : tF} {An : tA} {FM : tF} {A : tA} (h : HZ Fn An A) (x : Int32) : p_X6_tames F Fn An x (fun r => p_X7_tames FM A x (fun r' => r = r')) := by
  obtain ⟨hr, ok, _⟩ := id h
  have hn := ok.n.2
  unfold p_X6_tames
  by_cases c : inR x (nS (A 0))
  rotate_left
  · exact f0 hr ok c (a0 (by unfold p_X7_tames; exact o0 ok c (a0 rfl)))
  refine f1 hr ok c (a1 ?_)
  unfold p_X7_tames
  obtain ⟨o, ho, rfl⟩ := id c
  exact s_X2_tamenessOf hr ok ho (o1 ok c (a1 (s_X7_tamesOf (s := A 0) (by omega) rfl rfl)))
theorem Cs.k {n o : Nat} (h : o < n) : Cs n 3 o (21 + 4 * o) := Or.inr (Or.inr (Or.inr (Or.inl ⟨rfl, h, rfl⟩)))
theorem Cs.e {n o : Nat} (h : o < n) : Cs n 4 o (22 + 4 * o) := Or.inr (Or.inr (Or.inr (Or.inr (Or.inl ⟨rfl, h, rfl⟩))))
theorem Cs.f {n o : Nat} (h : o < n) : Cs n 5 o (23 + 4 * o) := Or.inr (Or.inr (Or.inr (Or.inr (Or.inr (Or.inl ⟨rfl, h, rfl⟩)))))
theorem Cs.l {n o : Nat} (h : o < n) : Cs n 6 o (24 + 4 * o) := Or.inr (Or.inr (Or.inr (Or.inr (Or.inr (Or.inr ⟨rfl, h, rfl⟩)))))
theorem Cs.g {n p : Nat} (h : p < 6) : Cs n 1 p (9 + p) := Or.inr (Or.inl ⟨rfl, h, rfl⟩)
theorem Cs.r {n p : Nat} (h : p < 6) : Cs n 2 p (15 + p) := Or.inr (Or.inr (Or.inl ⟨rfl, h, rfl⟩))
theorem bnd_k (o : Nat) : bnd (21 + 4 * o) = 5 := by unfold bnd; rw [if_neg (by omega), if_neg (by omega), if_neg (by omega), if_neg (by omega), if_neg (by omega), if_pos (by omega)]
theorem bnd_e (o : Nat) : bnd (22 + 4 * o) = 9 := by unfold bnd; rw [if_neg (by omega), if_neg (by omega), if_neg (by omega), if_neg (by omega), if_neg (by omega), if_neg (by omega), if_neg (by omega)]
theorem bnd_f (o : Nat) : bnd (23 + 4 * o) = 9 := by unfold bnd; rw [if_neg (by omega), if_neg (by omega), if_neg (by omega), if_neg (by omega), if_neg (by omega), if_neg (by omega), if_neg (by omega)]
theorem bnd_l (o : Nat) : bnd (24 + 4 * o) = 5 := by unfold bnd; rw [if_neg (by omega), if_neg (by omega), if_neg (by omega), if_neg (by omega), if_neg (by omega), if_neg (by omega), if_pos (by omega)]
theorem bnd_g {p : Nat} (h : p < 12) : bnd (9 + p) = 9 := by unfold bnd; rw [if_neg (by omega), if_neg (by omega), if_neg (by omega), if_neg (by omega), if_pos (by omega)]
theorem ix_o1 (o : Nat) : ((21 : Int32) + ((4 : Int32) * nI o)) + (1 : Int32) = nI (22 + 4 * o) := by rw [show 22 + 4 * o = 21 + 4 * o + 1 by omega]; exact ix_o o 1
theorem ix_o2 (o : Nat) : ((21 : Int32) + ((4 : Int32) * nI o)) + (2 : Int32) = nI (23 + 4 * o) := by rw [show 23 + 4 * o = 21 + 4 * o + 2 by omega]; exact ix_o o 2
theorem ix_o3 (o : Nat) : ((21 : Int32) + ((4 : Int32) * nI o)) + (3 : Int32) = nI (24 + 4 * o) := by rw [show 24 + 4 * o = 21 + 4 * o + 3 by omega]; exact ix_o o 3
theorem j_mind {F Fn : tF} {An : tA} {FM : tF} {A : tA} (h : HZ Fn An A) (x k e : Int32) : p_X6_mind F Fn An x k e (fun r Fn' An' => p_X7_mind FM A x k e (Rn FM A r Fn' An')) := by
  obtain ⟨hr, ok, z0, z2, z3⟩ := id h
  have hn := ok.n.2
  unfold p_X6_mind
  by_cases c : inR x (nS (A 0))
  rotate_left
  · exact f0 hr ok c (a0 (by unfold p_X7_mind; exact o0 ok c (a0 h.rn)))
  refine f1 hr ok c (a1 ?_)
  by_cases ck : inR k 6
  rotate_left
  · exact w0 (m := 6) ck (by omega) (a0 (by unfold p_X7_mind; exact o1 ok c (a1 (i0 (m := 5) ck (by omega) rfl rfl (a0 h.rn)))))
  refine w1 (m := 6) ck (by omega) (a1 ?_)
  by_cases ce : inR e 10
  rotate_left
  · exact g0 ce (b0 (by unfold p_X7_mind; exact o1 ok c (a1 (i1 (m := 5) ck (by omega) rfl rfl (a1 (i0 (m := 9) ce (by omega) rfl rfl (b0 h.rn)))))))
  refine g1 ce (b1 ?_)
  obtain ⟨o, ho, rfl⟩ := id c
  rw [nI_clamp (by omega)]
  have io : vp_in (nI o) 8 := vp_in_nI (by omega) (by omega)
  obtain ⟨m1, m2, m3, m4⟩ := hr.2.2.2.2 o ho
  refine ⟨io, fun y hy => ⟨io, fun f1 hf1 => ⟨io, fun f2 hf2 => ?_⟩⟩⟩
  unfold p_X7_mind
  rw [ix_o1, ix_o0, nI_clamp (by omega)]
  refine o1 ok c (a1 (i1 (m := 5) ck (by omega) rfl rfl (a1 (i1 (m := 9) ce (by omega) rfl rfl (b1 ⟨vp_in_nI (by omega) (by omega), fun g hg => s_X7_becomes (by omega) ?_⟩)))))
  have e1 := h.put (Cs.e ho) (v := e) (by rw [bnd_e]; exact ce.up) (f := f2) hf2 hg
  have n1 : nS (va_up A 0 g 0) = nS (A 0) := by rw [va_up_self, hg]; unfold nS; rw [pk_un (by omega)]
  have e2 := e1.put (Cs.k (o := o) (by rw [n1]; exact ho)) (v := k) (by rw [bnd_k]; exact ck.up) (f := f1) (by rw [va_up_ne _ _ (by omega)]; exact hf1) rfl
  refine ⟨?_, rfl, Kp.up0.tr Kp.up0, ?_⟩
  · rw [va_up_self, hg, pk_un (by omega), hy]; exact m1
  · have ec : va_up (va_up An 3 f1) 4 f2 = va_up (va_up An 4 f2) 3 f1 := by
      funext i; unfold va_up
      by_cases i3 : i = 3
      · subst i3; rfl
      · by_cases i4 : i = 4
        · subst i4; rfl
        · rw [if_neg i4, if_neg i3, if_neg i3, if_neg i4]
    rw [ec]; exact e2
theorem j_fear {F Fn : tF} {An : tA} {FM : tF} {A : tA} (h : HZ Fn An A) (x v : Int32) : p_X6_fear F Fn An x v (fun r Fn' An' => p_X7_fear FM A x v (Rn FM A r Fn' An')) := by
  obtain ⟨hr, ok, _⟩ := id h
  have hn := ok.n.2
  unfold p_X6_fear
  by_cases c : inR x (nS (A 0))
  rotate_left
  · exact f0 hr ok c (a0 (by unfold p_X7_fear; exact o0 ok c (a0 h.rn)))
  refine f1 hr ok c (a1 ?_)
  by_cases cv : inR v 10
  rotate_left
  · exact g0 cv (b0 (by unfold p_X7_fear; exact o1 ok c (a1 (i0 (m := 9) cv (by omega) rfl rfl (a0 h.rn)))))
  refine g1 cv (b1 ?_)
  obtain ⟨o, ho, rfl⟩ := id c
  rw [nI_clamp (by omega)]
  have io : vp_in (nI o) 8 := vp_in_nI (by omega) (by omega)
  refine ⟨io, fun y hy => ⟨io, fun f hf => ?_⟩⟩
  unfold p_X7_fear
  rw [ix_o2]
  exact o1 ok c (a1 (i1 (m := 9) cv (by omega) rfl rfl (a1 (s_X7_becomes (by omega) ⟨by rw [hy]; exact (hr.2.2.2.2 o ho).2.2.1, rfl, Kp.up0, h.put (Cs.f ho) (by rw [bnd_f]; exact cv.up) hf rfl⟩))))
theorem j_look {F Fn : tF} {An : tA} {FM : tF} {A : tA} (h : HZ Fn An A) (x v : Int32) : p_X6_look F Fn An x v (fun r Fn' An' => p_X7_look FM A x v (Rn FM A r Fn' An')) := by
  obtain ⟨hr, ok, _⟩ := id h
  have hn := ok.n.2
  unfold p_X6_look
  by_cases c : inR x (nS (A 0))
  rotate_left
  · exact f0 hr ok c (a0 (by unfold p_X7_look; exact o0 ok c (a0 h.rn)))
  refine f1 hr ok c (a1 ?_)
  by_cases cv : inR v 6
  rotate_left
  · exact w0 (m := 6) cv (by omega) (b0 (by unfold p_X7_look; exact o1 ok c (a1 (p0 cv (a0 h.rn)))))
  refine w1 (m := 6) cv (by omega) (b1 ?_)
  obtain ⟨o, ho, rfl⟩ := id c
  rw [nI_clamp (by omega)]
  have io : vp_in (nI o) 8 := vp_in_nI (by omega) (by omega)
  refine ⟨io, fun y hy => ⟨io, fun f hf => ?_⟩⟩
  unfold p_X7_look
  rw [ix_o3]
  exact o1 ok c (a1 (p1 cv (a1 (s_X7_becomes (by omega) ⟨by rw [hy]; exact (hr.2.2.2.2 o ho).2.2.2, rfl, Kp.up0, h.put (Cs.l ho) (by rw [bnd_l]; exact cv.up) hf rfl⟩))))
theorem HZ.t7 {Fn : tF} {An A : tA} (h : HZ Fn An A) {An' A' : tA} (t : ∀ k, k ≠ 7 → An' k = An k) (u : ∀ k, k ≠ 12 → A' k = A k) : HZ Fn An' A' := by
  obtain ⟨hr, ok, z0, z2, z3⟩ := h
  refine ⟨?_, ?_, ?_, ?_, ?_⟩
  · rw [u 0 (by omega)]; exact hr.tr t
  · rw [u 0 (by omega)]; exact ok
  · rw [u 0 (by omega)]; exact z0
  · rw [u 2 (by omega)]; exact z2
  · rw [u 3 (by omega)]; exact z3
theorem s_X7_polls0 {F : tF} {A : tA} (ok : OkS (A 0)) {K : tF → tA → Prop} (hk : ∀ A', (∀ k, k ≠ 12 → A' k = A k) → (∀ p, p < 6 → A' 12 p = polS (A 0) p) → K F A') : p_X7_polls F A (0 : Int32) (-1 : Int32) (0 : Int32) K :=
  s_X7_polls (deaf := 0) (liar := -1) (lie := 0) ok (fun k _ _ => ⟨0, by omega, rfl⟩) (fun A' t hb => hk A' t (fun p hp => by rw [hb p hp]; exact polP_0 _ ok.n.2 p hp))
theorem j_place {F Fn : tF} {An : tA} {FM : tF} {A : tA} (h : HZ Fn An A) (x v : Int32) : p_X6_place F Fn An x v (fun r Fn' An' => p_X7_place FM A x v (Rn FM A r Fn' An')) := by
  obtain ⟨hr, ok, _⟩ := id h
  unfold p_X6_place
  by_cases c : inR x 6
  rotate_left
  · exact w0 (m := 6) c (by omega) (b0 (by unfold p_X7_place; exact p0 c (a0 h.rn)))
  refine w1 (m := 6) c (by omega) (b1 ?_)
  obtain ⟨p, hp, rfl⟩ := id c
  have ip : vp_in (nI p) 6 := vp_in_nI hp (by omega)
  have ep : (nI p).toNatClampNeg = p := nI_clamp (by omega)
  have G : ∀ (w : Nat) (r : Int32) (An' : tA), w < 4 → (∀ k, k ≠ 7 → An' k = An k) → (w = 0 → r = A 0 (9 + p)) → (w = 1 → r = A 0 (15 + p)) → (w = 2 → r = votersS (A 0) p) → (w = 3 → r = polS (A 0) p) → p_X7_place FM A (nI p) (nI w) (Rn FM A r Fn An') := by
    intro w r An' hw t e0 e1 e2 e3
    unfold p_X7_place
    refine p1 c (a1 (i1 (m := 3) ⟨w, hw, rfl⟩ (by omega) rfl rfl (b1 (s_X7_polls0 ok (fun A' u hb => ?_)))))
    have hz := h.t7 t u
    have kp : Kp A A' := Kp.of12 u
    rw [show (15 : Int32) + nI p = nI (15 + p) from nI_add 15 p, show (9 : Int32) + nI p = nI (9 + p) from nI_add 9 p, ep, nI_clamp (by omega), nI_clamp (by omega), u 0 (by omega)]
    refine ⟨fun d0 => ⟨fun d1 => ⟨fun d2 => ⟨ip, ?_, rfl, kp, hz⟩, fun d2 => s_X7_voters (by rw [u 0 (by omega)]; exact ok) hp ⟨?_, rfl, kp, hz⟩⟩, fun d1 => ⟨vp_in_nI (by omega) (by omega), ?_, rfl, kp, hz⟩⟩, fun d0 => ⟨vp_in_nI (by omega) (by omega), ?_, rfl, kp, hz⟩⟩
    · rw [hb p hp]
      refine e3 ?_
      have q0 : w ≠ 0 := fun q => d0 (by rw [q]; rfl)
      have q1 : w ≠ 1 := fun q => d1 (by rw [q]; rfl)
      have q2 : w ≠ 2 := fun q => d2 (by rw [q]; rfl)
      omega
    · rw [u 0 (by omega)]; exact e2 ((nI_eq (a := w) (b := 2) (by omega) (by omega)).mp d2)
    · exact e1 ((nI_eq (a := w) (b := 1) (by omega) (by omega)).mp d1)
    · exact e0 ((nI_eq (a := w) (b := 0) (by omega) (by omega)).mp d0)
  rw [ep]
  refine ⟨fun e => ?_, fun e => ?_, fun e => ?_, fun e => ?_, fun e0 e1 e2 e3 => ?_⟩
  · subst e; exact ⟨ip, G 0 _ _ (by omega) (fun _ _ => rfl) (fun _ => hr.2.2.1 p hp) (fun q => absurd q (by decide)) (fun q => absurd q (by decide)) (fun q => absurd q (by decide))⟩
  · subst e; exact ⟨ip, G 1 _ _ (by omega) (fun _ _ => rfl) (fun q => absurd q (by decide)) (fun _ => hr.2.2.2.1 p hp) (fun q => absurd q (by decide)) (fun q => absurd q (by decide))⟩
  · subst e; exact s_X2_votersOf hr ok hp (G 2 _ _ (by omega) (fun _ _ => rfl) (fun q => absurd q (by decide)) (fun q => absurd q (by decide)) (fun _ => rfl) (fun q => absurd q (by decide)))
  · subst e; exact s_X2_takeVotes hr ok (fun A' t hb => ⟨ip, G 3 _ _ (by omega) t (fun q => absurd q (by decide)) (fun q => absurd q (by decide)) (fun q => absurd q (by decide)) (fun _ => hb p hp)⟩)
  · unfold p_X7_place
    exact p1 c (a1 (i0 (m := 3) (fun q => by rcases in4 q with w | w | w | w <;> first | exact e0 w | exact e1 w | exact e2 w | exact e3 w) (by omega) rfl rfl (b0 h.rn)))
theorem j_grow {F Fn : tF} {An : tA} {FM : tF} {A : tA} (h : HZ Fn An A) (x w v : Int32) : p_X6_grow F Fn An x w v (fun r Fn' An' => p_X7_grow FM A x w v (Rn FM A r Fn' An')) := by
  obtain ⟨hr, ok, _⟩ := id h
  unfold p_X6_grow
  by_cases c : inR x 6
  rotate_left
  · exact w0 (m := 6) c (by omega) (a0 (by unfold p_X7_grow; exact p0 c (a0 h.rn)))
  refine w1 (m := 6) c (by omega) (a1 ?_)
  by_cases cw : inR w 2
  rotate_left
  · exact w0 (m := 2) cw (by omega) (a0 (by unfold p_X7_grow; exact p1 c (a1 (i0 (m := 1) cw (by omega) rfl rfl (a0 h.rn)))))
  refine w1 (m := 2) cw (by omega) (a1 ?_)
  by_cases cv : inR v 10
  rotate_left
  · exact g0 cv (b0 (by unfold p_X7_grow; exact p1 c (a1 (i1 (m := 1) cw (by omega) rfl rfl (a1 (i0 (m := 9) cv (by omega) rfl rfl (a0 h.rn)))))))
  refine g1 cv (b1 ?_)
  obtain ⟨p, hp, rfl⟩ := id c
  have ip : vp_in (nI p) 6 := vp_in_nI hp (by omega)
  rw [nI_clamp (by omega)]
  refine ⟨fun d => ⟨ip, fun y hy => ⟨ip, fun f hf => ?_⟩⟩, fun d => ⟨ip, fun y hy => ⟨ip, fun f hf => ?_⟩⟩⟩
  · unfold p_X7_grow p_X7_grow_J41
    rw [show (15 : Int32) + nI p = nI (15 + p) from nI_add 15 p]
    exact p1 c (a1 (i1 (m := 1) cw (by omega) rfl rfl (a1 (i1 (m := 9) cv (by omega) rfl rfl (a1 ⟨fun _ => s_X7_becomes (by omega) ⟨by rw [hy]; exact hr.2.2.2.1 p hp, rfl, Kp.up0, h.put (Cs.r hp) (by rw [show 15 + p = 9 + (6 + p) by omega, bnd_g (by omega)]; exact cv.up) hf rfl⟩, fun q => absurd q d⟩)))))
  · unfold p_X7_grow p_X7_grow_J41
    rw [show (9 : Int32) + nI p = nI (9 + p) from nI_add 9 p]
    exact p1 c (a1 (i1 (m := 1) cw (by omega) rfl rfl (a1 (i1 (m := 9) cv (by omega) rfl rfl (a1 ⟨fun q => absurd d q, fun _ => s_X7_becomes (by omega) ⟨by rw [hy]; exact hr.2.2.1 p hp, rfl, Kp.up0, h.put (Cs.g hp) (by rw [bnd_g (by omega)]; exact cv.up) hf rfl⟩⟩)))))
theorem HZ.fld {Fn : tF} {An A : tA} (h : HZ Fn An A) {i k : Nat} {v : Int32} (c : (i = 9 ∧ k = 3) ∨ (i = 10 ∧ k = 4) ∨ (i = 12 ∧ k = 2)) (hv : 3 ≤ k → upto v (bnd k)) : HZ (upd Fn i v) An (va_up A 0 (upd (A 0) k v)) := by
  obtain ⟨hr, ok, z0, z2, z3⟩ := h
  obtain ⟨⟨q1, q2, q3, q4, q5⟩, l⟩ := HR.iff.mp hr
  have e : ∀ m, m ≠ k → upd (A 0) k v m = A 0 m := fun m hm => pk_un hm
  have ef : ∀ m, m ≠ i → upd Fn i v m = Fn m := fun m hm => pk_un hm
  have en : nS (upd (A 0) k v) = nS (A 0) := by unfold nS; rw [e 0 (by omega)]
  refine ⟨?_, ?_, ?_, ?_, ?_⟩
  · rw [va_up_self]
    refine HR.iff.mpr ⟨?_, fun i' j' k' c' => ?_⟩
    · rcases c with ⟨rfl, rfl⟩ | ⟨rfl, rfl⟩ | ⟨rfl, rfl⟩
      · rw [pk_us, pk_us, ef 8 (by omega), ef 10 (by omega), ef 11 (by omega), ef 12 (by omega), e 0 (by omega), e 4 (by omega), e 1 (by omega), e 2 (by omega)]; exact ⟨q1, rfl, q3, q4, q5⟩
      · rw [pk_us, pk_us, ef 8 (by omega), ef 9 (by omega), ef 11 (by omega), ef 12 (by omega), e 0 (by omega), e 3 (by omega), e 1 (by omega), e 2 (by omega)]; exact ⟨q1, q2, rfl, q4, q5⟩
      · rw [pk_us, pk_us, ef 8 (by omega), ef 9 (by omega), ef 10 (by omega), ef 11 (by omega), e 0 (by omega), e 3 (by omega), e 4 (by omega), e 1 (by omega)]; exact ⟨q1, q2, q3, q4, rfl⟩
    · rw [en] at c'
      rw [e k' (by unfold Cs at c'; omega)]; exact l i' j' k' c'
  · rw [va_up_self]; exact ok.put (by omega) hv
  · rw [va_up_self]; exact z0.up (by omega)
  · rw [va_up_ne _ _ (by omega)]; exact z2
  · rw [va_up_ne _ _ (by omega)]; exact z3
theorem j_flock {F Fn : tF} {An : tA} {FM : tF} {A : tA} (h : HZ Fn An A) (x : Int32) : p_X6_flock F Fn An x (fun r Fn' An' => p_X7_flock FM A x (Rn FM A r Fn' An')) := by
  obtain ⟨hr, ok, _⟩ := id h
  unfold p_X6_flock
  by_cases c : inR x 6
  rotate_left
  · exact w0 (m := 6) c (by omega) (b0 (by unfold p_X7_flock; exact p0 c (a0 h.rn)))
  refine w1 (m := 6) c (by omega) (b1 (fun y hy => ?_))
  unfold p_X7_flock
  exact p1 c (a1 (s_X7_becomes (k := 3) (by omega) ⟨by rw [hy]; exact hr.1.2.1, rfl, Kp.up0, h.fld (Or.inl ⟨rfl, rfl⟩) (fun _ => c.up)⟩))
theorem j_call {F Fn : tF} {An : tA} {FM : tF} {A : tA} (h : HZ Fn An A) (x : Int32) : p_X6_call F Fn An x (fun r Fn' An' => p_X7_call FM A x (Rn FM A r Fn' An')) := by
  obtain ⟨hr, ok, _⟩ := id h
  unfold p_X6_call
  by_cases c : inR x 7
  rotate_left
  · exact w0 (m := 7) c (by omega) (b0 (by unfold p_X7_call; exact i0 (m := 6) c (by omega) rfl rfl (a0 h.rn)))
  refine w1 (m := 7) c (by omega) (b1 (fun y hy => ?_))
  unfold p_X7_call
  exact i1 (m := 6) c (by omega) rfl rfl (a1 (s_X7_becomes (k := 4) (by omega) ⟨by rw [hy]; exact hr.1.2.2.1, rfl, Kp.up0, h.fld (Or.inr (Or.inl ⟨rfl, rfl⟩)) (fun _ => c.up)⟩))
theorem j_seed {F Fn : tF} {An : tA} {FM : tF} {A : tA} (h : HZ Fn An A) (x : Int32) : p_X6_seed F Fn An x (fun r Fn' An' => p_X7_seed FM A x (Rn FM A r Fn' An')) := by
  obtain ⟨hr, ok, _⟩ := id h
  unfold p_X6_seed
  intro y hy
  unfold p_X7_seed
  exact s_X7_becomes (k := 2) (by omega) ⟨by rw [hy]; exact hr.1.2.2.2.2, rfl, Kp.up0, h.fld (Or.inr (Or.inr ⟨rfl, rfl⟩)) (fun q => absurd q (by decide))⟩
theorem s_X2_winner {F : tF} {A : tA} {s : tF} (h : HR F A s) (ok : OkS s) {K : Int32 → tF → tA → Prop} (hk : ∀ A', (∀ k, k ≠ 7 → A' k = A k) → K (nI (winS s)) F A') : p_X2_takeVotes F A (fun F' A' => p_X2_favouriteOfTally F' A' (fun r => K r F' A')) := by
  refine s_X2_takeVotes h ok (fun A' t hb => ?_)
  refine s_X2_favouriteOfTally ok.at.2 (by rw [h.1.2.1]; exact ok.at.1) ?_
  have : favS (A' 7) (F 9) = winS s := by rw [h.1.2.1]; exact favS_cg _ hb
  rw [this]; exact hk A' t
theorem j_winner {F Fn : tF} {An : tA} {FM : tF} {A : tA} (h : HZ Fn An A) : p_X6_winner F Fn An (fun r Fn' An' => p_X7_winner FM A (Rn FM A r Fn' An')) := by
  obtain ⟨hr, ok, _⟩ := id h
  unfold p_X6_winner
  refine s_X2_winner (K := fun r Fn' An' => p_X7_winner FM A (Rn FM A r Fn' An')) hr ok (fun A' t => ?_)
  unfold p_X7_winner
  exact s_X7_win ok (fun A'' u => ⟨rfl, rfl, Kp.of12 u, h.t7 t u⟩)
theorem HZ.of {Fn : tF} {An A : tA} (h : HZ Fn An A) {Fn' : tF} {An' A' : tA} {s : tF} (e : A' 0 = s) (hr : HR Fn' An' s) (ok : OkS s) (z0 : Z53 s) (z2 : Z53 (A' 2)) (e3 : A' 3 = A 3) : HZ Fn' An' A' :=
  ⟨by rw [e]; exact hr, by rw [e]; exact ok, by rw [e]; exact z0, z2, by rw [e3]; exact h.2.2.2.2⟩
theorem j_days {F Fn : tF} {An : tA} {FM : tF} {A : tA} (h : HZ Fn An A) (x : Int32) : p_X6_days F Fn An x (fun r Fn' An' => p_X7_days FM A x (Rn FM A r Fn' An')) := by
  obtain ⟨hr, ok, z0, z2, z3⟩ := id h
  unfold p_X6_days
  refine cl1 (m := 60) (by omega) (fun c => ?_) (fun c => by unfold p_X7_days; exact j0 (m := 60) c (by omega) rfl rfl (b0 h.rn))
  obtain ⟨n, n1, n2, rfl⟩ := id c
  refine s_X2_passDays hr ok n2 (fun F' A' h' => ?_)
  unfold p_X7_days
  refine j1 (m := 60) c (by omega) rfl rfl (b1 (s_X7_goes ok n2 (fun A'' e t => ⟨?_, rfl, Kp.ofK12 t, h.of e h' (daysS_ok ok n) (z0.days ok.n.2 n) (by rw [t 2 (by omega) (by omega)]; exact z2) (t 3 (by omega) (by omega))⟩)))
  rw [e]; exact h'.1.2.1
theorem Z53.draw {s : tF} (z : Z53 s) (hn : nS s ≤ 8) : Z53 (drawS s) := by
  have z1 : ∀ s, Z53 s → Z53 (z1S s) := fun s z => z.up (by omega)
  unfold drawS
  split
  · exact z
  · split
    · refine (z1 _ (z1 _ (z1 _ z))).up ?_
      have := Nat.mod_lt (rS s) (show 0 < nS s by omega)
      omega
    · exact z1 _ (z1 _ z)
theorem j_day {F Fn : tF} {An : tA} {FM : tF} {A : tA} (h : HZ Fn An A) : p_X6_day F Fn An (fun r Fn' An' => p_X7_day FM A (Rn FM A r Fn' An')) := by
  obtain ⟨hr, ok, z0, z2, z3⟩ := id h
  unfold p_X6_day
  refine s_X2_passDayByDraws hr ok (fun F' A' h' => ?_)
  refine s_X7_day ok (fun A'' e t => ⟨?_, rfl, Kp.ofK12 t, h.of e h' ok.draw.day ((z0.draw ok.n.2).day ok.draw.n.2) (by rw [t 2 (by omega) (by omega)]; exact z2) (t 3 (by omega) (by omega))⟩)
  rw [e]; exact h'.1.2.1
theorem s_X6_sumOf {n m : Nat} {f : tF} (hn : n ≤ m) (hm : m < 2 ^ 31) {K : Int32 → Prop} (hk : K (sumU f n)) : p_X6_sumOf m f (nI n) K := by
  unfold p_X6_sumOf
  refine lq2 (p_X6_sumOf_L4 m f (nI n) K) (fun i b x => x = nI i ∧ b = sumU f i) n 0 (by omega) ?_ ?_ ⟨rfl, rfl⟩
  · rintro k b x ⟨rfl, rfl⟩
    rw [p_X6_sumOf_L4]
    exact ⟨fun _ => hk, fun c => absurd (nI_le (Nat.le_refl _) (by omega)) c⟩
  · rintro k i b x h1 h6 ⟨rfl, rfl⟩ ih
    rw [p_X6_sumOf_L4, nI_clamp (by omega)]
    exact ⟨fun c => absurd c (nI_ge h6 (by omega)), fun _ => ⟨vp_in_nI (by omega) (by omega), fun y hy z hz => ih _ _ ⟨by rw [hz]; exact nI_1 _, by rw [hy]; rfl⟩⟩⟩
theorem sumU_cg {f g : tF} : ∀ n, (∀ k, k < n → f k = g k) → sumU f n = sumU g n
  | 0, _ => rfl
  | n + 1, h => by
    show sumU f n + f n = sumU g n + g n
    rw [sumU_cg n (fun k hk => h k (by omega)), h n (by omega)]
theorem s_fears {F : tF} {A : tA} {s : tF} (h : HR F A s) (ok : OkS s) {K : Int32 → Prop} (hk : K (fearsS s)) : p_X6_sumOf 8 (A 5) (F 8) K := by
  rw [h.1.1, ok.n.1]
  refine s_X6_sumOf ok.n.2 (by omega) ?_
  have : sumU (A 5) (nS s) = fearsS s := sumU_cg _ (fun o ho => (h.2.2.2.2 o ho).2.2.1)
  rw [this]; exact hk
theorem j_state {F Fn : tF} {An : tA} {FM : tF} {A : tA} (h : HZ Fn An A) (x : Int32) : p_X6_state F Fn An x (fun r => p_X7_state FM A x (fun r' => r = r')) := by
  obtain ⟨hr, ok, _⟩ := id h
  have na : ∀ (a b : Nat) {P : Prop}, a < 9 → b < 9 → a ≠ b → nI a = nI b → P := fun a b _ ha hb hab q => absurd ((nI_eq (by omega) (by omega)).mp q) hab
  unfold p_X6_state
  refine ⟨fun e => ?_, fun e => ?_, fun e => ?_, fun e => ?_, fun e => ?_, fun e => ?_, fun e0 e1 e2 e3 e4 e5 => ?_⟩
  · subst e; unfold p_X7_state
    exact ⟨fun _ => hr.1.2.2.2.1, na 0 1 (by omega) (by omega) (by omega), na 0 2 (by omega) (by omega) (by omega), na 0 3 (by omega) (by omega) (by omega), na 0 4 (by omega) (by omega) (by omega), na 0 5 (by omega) (by omega) (by omega), fun q => absurd rfl q⟩
  · subst e; unfold p_X7_state
    exact ⟨na 1 0 (by omega) (by omega) (by omega), fun _ => hr.1.2.1, na 1 2 (by omega) (by omega) (by omega), na 1 3 (by omega) (by omega) (by omega), na 1 4 (by omega) (by omega) (by omega), na 1 5 (by omega) (by omega) (by omega), fun _ q => absurd rfl q⟩
  · subst e
    refine s_X2_weightOfAll hr ok ?_
    unfold p_X7_state
    exact ⟨na 2 0 (by omega) (by omega) (by omega), na 2 1 (by omega) (by omega) (by omega), fun _ => s_X7_sumOf4 ok rfl, na 2 3 (by omega) (by omega) (by omega), na 2 4 (by omega) (by omega) (by omega), na 2 5 (by omega) (by omega) (by omega), fun _ _ q => absurd rfl q⟩
  · subst e
    refine s_fears hr ok ?_
    unfold p_X7_state
    exact ⟨na 3 0 (by omega) (by omega) (by omega), na 3 1 (by omega) (by omega) (by omega), na 3 2 (by omega) (by omega) (by omega), fun _ => s_X7_sumOf2 ok rfl, na 3 4 (by omega) (by omega) (by omega), na 3 5 (by omega) (by omega) (by omega), fun _ _ _ q => absurd rfl q⟩
  · subst e
    refine s_X6_sumOf (n := 6) (m := 6) (by omega) (by omega) ?_
    unfold p_X7_state
    refine ⟨na 4 0 (by omega) (by omega) (by omega), na 4 1 (by omega) (by omega) (by omega), na 4 2 (by omega) (by omega) (by omega), na 4 3 (by omega) (by omega) (by omega), fun _ => ?_, na 4 5 (by omega) (by omega) (by omega), fun _ _ _ _ q => absurd rfl q⟩
    refine lq2 (p_X7_state_L68 FM A _) (fun i b x => x = nI i ∧ b = sumU (An 1) i) 6 0 (by omega) ?_ ?_ ⟨rfl, rfl⟩
    · rintro k b x ⟨rfl, rfl⟩
      rw [p_X7_state_L68]
      exact ⟨fun _ => rfl, fun c => absurd (nI_le (a := 6) (b := 6) (by omega) (by omega)) c⟩
    · rintro k i b x g1 g6 ⟨rfl, rfl⟩ ih
      rw [p_X7_state_L68, show (9 : Int32) + nI i = nI (9 + i) from nI_add 9 i, nI_clamp (by omega)]
      exact ⟨fun c => absurd c (nI_ge (a := i) (b := 6) g6 (by omega)), fun _ => ⟨vp_in_nI (by omega) (by omega), fun y hy z hz => ih _ _ ⟨by rw [hz]; exact nI_1 _, by rw [hy, ← hr.2.2.1 i g6]; rfl⟩⟩⟩
  · subst e
    refine s_X2_scaredOnes hr ok ?_
    unfold p_X7_state
    exact ⟨na 5 0 (by omega) (by omega) (by omega), na 5 1 (by omega) (by omega) (by omega), na 5 2 (by omega) (by omega) (by omega), na 5 3 (by omega) (by omega) (by omega), na 5 4 (by omega) (by omega) (by omega), fun _ => s_X7_scaredOnes ok rfl, fun _ _ _ _ _ q => absurd rfl q⟩
  · unfold p_X7_state
    exact ⟨fun q => absurd q e0, fun q => absurd q e1, fun q => absurd q e2, fun q => absurd q e3, fun q => absurd q e4, fun q => absurd q e5, fun _ _ _ _ _ _ => rfl⟩
