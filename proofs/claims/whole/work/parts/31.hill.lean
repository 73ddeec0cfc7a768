/-! the class's hill does what the numbers say -/
theorem HR.tr {F : tF} {A A' : tA} {s : tF} (h : HR F A s) (t : ∀ k, k ≠ 7 → A' k = A k) : HR F A' s := by
  obtain ⟨h1, h2, h3, h4, h5⟩ := h
  refine ⟨h1, ?_, ?_, ?_, ?_⟩
  · rw [t 0 (by omega)]; exact h2
  · rw [t 1 (by omega)]; exact h3
  · rw [t 2 (by omega)]; exact h4
  · rw [t 3 (by omega), t 4 (by omega), t 5 (by omega), t 6 (by omega)]; exact h5
theorem s_X2_isCalled {F : tF} {A : tA} {s : tF} (h : HR F A s) (x : Int32) {K : Int32 → Prop} (h1 : s 4 = 1 + x → K 1) (h0 : ¬ s 4 = 1 + x → K 0) : p_X2_isCalled F A x K := by
  unfold p_X2_isCalled
  rw [h.1.2.2.1, Int32.add_comm x 1]
  exact ⟨h0, h1⟩
theorem s_X2_worthTo {F : tF} {A : tA} {s : tF} (h : HR F A s) (ok : OkS s) {o p : Nat} (ho : o < nS s) (hp : p < 6) {K : Int32 → Prop} (hk : K (worthS s o p)) : p_X2_worthTo F A (nI o) (nI p) K := by
  have hn := ok.n.2
  have eo : (nI o).toNatClampNeg = o := nI_clamp (by omega)
  have ep : (nI p).toNatClampNeg = p := nI_clamp (by omega)
  have io : vp_in (nI o) 8 := vp_in_nI (by omega) (by omega)
  have ip : vp_in (nI p) 6 := vp_in_nI hp (by omega)
  obtain ⟨k3, k4, k5, k6⟩ := h.2.2.2.2 o ho
  have ea : F 9 = nI (s 3).toNatClampNeg := by rw [h.1.2.1]; exact ok.at.1
  have e1 : (((2 : Int32) * ((A 1) (nI p).toNatClampNeg)) - ((A 2) (nI p).toNatClampNeg)) - ((((A 5) (nI o).toNatClampNeg) / (3 : Int32)) * (if 0 ≤ (nI p - (F 9)) then (nI p - (F 9)) else 0 - (nI p - (F 9)))) = eweS s o p := by
    rw [ea, abs_ap p hp _ ok.at.2, ep, eo, h.2.2.1 p hp, h.2.2.2.1 p hp, k5, ← ok.at.1]; rfl
  have J : ∀ z : Int32, z = earS s o p → p_X2_worthTo_J55 F A K (nI o) (nI p) (eweS s o p) z := by
    intro z hz
    unfold p_X2_worthTo_J55
    rw [eo, ep, k3, k4, h.2.2.1 p hp, h.2.2.2.1 p hp, h.2.1 0 (by omega), hz]
    unfold worthS at hk
    refine ⟨io, fun c => ?_, fun c => ?_, fun c => ⟨fun d => ?_, fun d => ?_⟩, fun c => ?_, fun c => ⟨ip, ip, ?_⟩, fun c1 c2 c3 c4 c5 => ?_⟩
    · simpa [c] using hk
    · simpa [c] using hk
    · simpa [c, d] using hk
    · simpa [c, d] using hk
    · refine s_X2_isCalled h _ (fun d => ⟨fun q => absurd q (by decide), fun _ => ⟨io, ?_⟩⟩) (fun d => ⟨fun _ => ?_, fun q => absurd rfl q⟩)
      · simpa [c, d] using hk
      · simpa [c, d] using hk
    · simpa [c] using hk
    · simpa [c1, c2, c3, c4, c5] using hk
  unfold p_X2_worthTo
  rw [e1]
  refine ⟨ip, ip, io, fun y hy => ⟨io, ?_⟩⟩
  subst hy
  rw [eo, k6]
  refine ⟨fun c => J _ ?_, fun c => ⟨io, J _ ?_⟩⟩
  · unfold earS; rw [if_neg c]
  · unfold earS; rw [if_pos c, k4]
theorem s_X2_weightOf {F : tF} {A : tA} {s : tF} (h : HR F A s) (ok : OkS s) {o : Nat} (ho : o < nS s) {K : Int32 → Prop} (hk : K (countS s o)) : p_X2_weightOf F A (nI o) K := by
  have hn := ok.n.2
  have eo : (nI o).toNatClampNeg = o := nI_clamp (by omega)
  have io : vp_in (nI o) 8 := vp_in_nI (by omega) (by omega)
  obtain ⟨k3, k4, k5, k6⟩ := h.2.2.2.2 o ho
  have ia : vp_in (F 9) 6 := by rw [h.1.2.1, ok.at.1]; exact vp_in_nI ok.at.2 (by omega)
  have ga : A 1 (s 3).toNatClampNeg = s (9 + (s 3).toNatClampNeg) := h.2.2.1 _ ok.at.2
  have J : ∀ z : Int32, z = hoggS s o → p_X2_weightOf_J18 F A K (nI o) z := by
    intro z hz
    unfold p_X2_weightOf_J18
    rw [eo, k3, hz]
    have hk' := hk
    unfold countS at hk'
    refine ⟨io, fun c => ?_, fun c => ?_, fun c => ?_, fun c => ?_, fun c => ⟨ia, ?_⟩, fun c1 c2 c3 c4 c5 => ?_⟩
    · simpa [c] using hk'
    · simpa [c] using hk'
    · rw [Int32.mul_comm]; simpa [c] using hk'
    · simpa [c] using hk'
    · rw [h.1.2.1, ga]
      rw [c] at hk'
      have hk2 : K (if s (9 + (s 3).toNatClampNeg) < 3 then 3 else 1) := by simpa using hk'
      refine ⟨fun d => ?_, fun d => ?_⟩
      · rw [if_neg (Int32.not_lt.mpr d)] at hk2; exact hk2
      · rw [if_pos (Int32.not_le.mp d)] at hk2; exact hk2
    · simpa [c1, c2, c3, c4, c5] using hk'
  unfold p_X2_weightOf
  rw [eo, k6, h.1.2.1]
  refine ⟨io, fun c => J _ ?_, fun c => J _ ?_⟩
  · unfold hoggS; rw [if_neg c]
  · unfold hoggS; rw [if_pos c]
theorem s_X2_tamenessOf {F : tF} {A : tA} {s : tF} (h : HR F A s) (ok : OkS s) {o : Nat} (ho : o < nS s) {K : Int32 → Prop} (hk : K (tameS s o)) : p_X2_tamenessOf F A (nI o) K := by
  have hn := ok.n.2
  have eo : (nI o).toNatClampNeg = o := nI_clamp (by omega)
  have io : vp_in (nI o) 8 := vp_in_nI (by omega) (by omega)
  obtain ⟨k3, k4, k5, k6⟩ := h.2.2.2.2 o ho
  unfold p_X2_tamenessOf
  rw [eo, k3]
  unfold tameS at hk
  refine ⟨io, fun c => ?_, fun c => ?_, fun c => ?_, fun c => ?_, fun c => ?_, fun c1 c2 c3 c4 c5 => ?_⟩
  · simpa [c] using hk
  · simpa [c] using hk
  · simpa [c] using hk
  · simpa [c] using hk
  · simpa [c] using hk
  · simpa [c1, c2, c3, c4, c5] using hk
theorem s_X2_voteOf {F : tF} {A : tA} {s : tF} (h : HR F A s) (ok : OkS s) {o : Nat} (ho : o < nS s) {K : Int32 → Prop} (hk : K (nI (voteS s o))) : p_X2_voteOf F A (nI o) K := by
  unfold p_X2_voteOf
  refine s_X2_worthTo (p := 0) h ok ho (by omega) ?_
  refine lq3 (p_X2_voteOf_L12 F A (nI o) K) (fun i b g x => x = nI i ∧ b = nI (voteU s o (i - 1)) ∧ g = worthS s o (voteU s o (i - 1))) 6 1 (by omega) ?_ ?_ ⟨rfl, rfl, rfl⟩
  · rintro n b g x ⟨rfl, rfl, rfl⟩
    rw [p_X2_voteOf_L12]
    exact ⟨fun _ => hk, fun c => absurd (nI_le (a := 6) (b := 6) (by omega) (by omega)) c⟩
  · rintro n i b g x h1 h6 ⟨rfl, rfl, rfl⟩ ih
    rw [p_X2_voteOf_L12]
    refine ⟨fun c => absurd c (nI_ge (a := i) (b := 6) h6 (by omega)), fun _ => ?_⟩
    refine s_X2_worthTo h ok ho h6 ?_
    obtain ⟨j, rfl⟩ : ∃ j, i = j + 1 := ⟨i - 1, by omega⟩
    have e1 : j + 1 - 1 = j := by omega
    have e2 : j + 1 + 1 - 1 = j + 1 := by omega
    rw [e1]
    refine ⟨fun c => ?_, fun c => ?_⟩
    · unfold p_X2_voteOf_J40
      intro y hy
      refine ih _ _ _ ⟨by rw [hy]; exact nI_1 _, ?_⟩
      rw [e2]
      have : voteU s o (j + 1) = voteU s o j := by rw [voteU, if_neg (Int32.not_lt.mpr c)]
      rw [this]; exact ⟨rfl, rfl⟩
    · unfold p_X2_voteOf_J40
      intro y hy
      refine ih _ _ _ ⟨by rw [hy]; exact nI_1 _, ?_⟩
      rw [e2]
      have : voteU s o (j + 1) = j + 1 := by rw [voteU, if_pos (Int32.not_le.mp c)]
      rw [this]; exact ⟨rfl, rfl⟩
theorem s_X2_startTally {F : tF} {A : tA} {s : tF} (h : HR F A s) {K : tF → tA → Prop} (hk : ∀ A', (∀ k, k ≠ 7 → A' k = A k) → (∀ p, p < 6 → A' 7 p = baseS s p) → K F A') : p_X2_startTally F A K := by
  unfold p_X2_startTally
  refine lq3 (p_X2_startTally_L2 K) (fun i F' A' x => x = nI i ∧ F' = F ∧ (∀ k, k ≠ 7 → A' k = A k) ∧ ∀ p, p < i → A' 7 p = baseS s p) 6 0 (by omega) ?_ ?_ ⟨rfl, rfl, fun _ _ => rfl, fun p hp => absurd hp (by omega)⟩
  · rintro n F' A' x ⟨rfl, rfl, t, hb⟩
    rw [p_X2_startTally_L2]
    exact ⟨fun _ => hk A' t hb, fun c => absurd (nI_le (a := 6) (b := 6) (by omega) (by omega)) c⟩
  · rintro n i F' A' x h1 h6 ⟨rfl, rfl, t, hb⟩ ih
    rw [p_X2_startTally_L2]
    refine ⟨fun c => absurd c (nI_ge (a := i) (b := 6) h6 (by omega)), fun _ => ?_⟩
    have J : ∀ z, z = baseS s i → p_X2_startTally_J31 F' A' (p_X2_startTally_L2 K n) K (nI i) z (nI i) := by
      intro z hz
      unfold p_X2_startTally_J31
      refine ⟨vp_in_nI h6 (by omega), fun f hf y hy => ih _ _ _ ⟨by rw [hy]; exact nI_1 _, rfl, fun k hk => ?_, fun p hp => ?_⟩⟩
      · rw [va_up_ne _ _ hk]; exact t k hk
      · rw [va_up_self, hf, nI_clamp (by omega)]
        unfold upd
        split
        · rename_i e; rw [e, hz]
        · exact hb p (by omega)
    refine s_X2_isCalled (h.tr t) _ (fun d => ⟨fun q => absurd q (by decide), fun _ => J _ ?_⟩) (fun d => ⟨fun _ => J _ ?_, fun q => absurd rfl q⟩)
    · rw [t 0 (by omega), h.2.1 1 (by omega)]; unfold baseS; rw [if_pos d]
    · unfold baseS; rw [if_neg d]
theorem s_X2_takeVotes {F : tF} {A : tA} {s : tF} (h : HR F A s) (ok : OkS s) {K : tF → tA → Prop} (hk : ∀ A', (∀ k, k ≠ 7 → A' k = A k) → (∀ p, p < 6 → A' 7 p = polS s p) → K F A') : p_X2_takeVotes F A K := by
  have hn := ok.n.2
  unfold p_X2_takeVotes
  refine s_X2_startTally h (fun A1 t1 hb1 => ?_)
  refine lq3 (p_X2_takeVotes_L6 K) (fun i F' A' x => x = nI i ∧ F' = F ∧ (∀ k, k ≠ 7 → A' k = A k) ∧ ∀ p, p < 6 → A' 7 p = tallyU (baseS s) (voteS s) (countS s) i p) (nS s) 0 (by omega) ?_ ?_ ⟨rfl, rfl, t1, hb1⟩
  · rintro n F' A' x ⟨rfl, rfl, t, hb⟩
    rw [p_X2_takeVotes_L6, h.1.1, ok.n.1]
    exact ⟨fun _ => hk A' t hb, fun c => absurd (nI_le (Nat.le_refl _) (by omega)) c⟩
  · rintro n i F' A' x h1 h6 ⟨rfl, rfl, t, hb⟩ ih
    rw [p_X2_takeVotes_L6, h.1.1, ok.n.1]
    refine ⟨fun c => absurd c (nI_ge h6 (by omega)), fun _ => ?_⟩
    have hv := voteS_lt s i
    refine s_X2_voteOf (h.tr t) ok h6 ⟨vp_in_nI hv (by omega), s_X2_weightOf (h.tr t) ok h6 ⟨vp_in_nI hv (by omega), fun f hf y hy => ih _ _ _ ⟨by rw [hy]; exact nI_1 _, rfl, fun k hk => ?_, fun p hp => ?_⟩⟩⟩
    · rw [va_up_ne _ _ hk]; exact t k hk
    · have et : tallyU (baseS s) (voteS s) (countS s) (i + 1) = upd (tallyU (baseS s) (voteS s) (countS s) i) (voteS s i) (tallyU (baseS s) (voteS s) (countS s) i (voteS s i) + countS s i) := rfl
      rw [va_up_self, hf, nI_clamp (by omega), hb _ hv, et]
      simp only [upd]
      split
      · rfl
      · exact hb p hp
theorem s_X2_favouriteOfTally {F : tF} {A : tA} {a : Nat} (ha : a < 6) (h9 : F 9 = nI a) {K : Int32 → Prop} (hk : K (nI (favS (A 7) (F 9)))) : p_X2_favouriteOfTally F A K := by
  unfold p_X2_favouriteOfTally
  refine lq2 (p_X2_favouriteOfTally_L4 F A K) (fun i b x => x = nI i ∧ b = nI (favU (A 7) (F 9) (i - 1))) 6 1 (by omega) ?_ ?_ ⟨rfl, rfl⟩
  · rintro n b x ⟨rfl, rfl⟩
    rw [p_X2_favouriteOfTally_L4]
    exact ⟨fun _ => hk, fun c => absurd (nI_le (a := 6) (b := 6) (by omega) (by omega)) c⟩
  · rintro n i b x h1 h6 ⟨rfl, rfl⟩ ih
    obtain ⟨j, rfl⟩ : ∃ j, i = j + 1 := ⟨i - 1, by omega⟩
    have e1 : j + 1 - 1 = j := by omega
    have e2 : j + 1 + 1 - 1 = j + 1 := by omega
    rw [p_X2_favouriteOfTally_L4, e1]
    have hb := favU_le (A 7) (F 9) j
    have eb := abs_ap _ (show favU (A 7) (F 9) j < 6 by omega) a ha
    have ei := abs_ap _ h6 a ha
    rw [← h9] at eb ei
    rw [eb, ei]
    refine ⟨fun c => absurd c (nI_ge (a := j + 1) (b := 6) h6 (by omega)), fun _ => ?_⟩
    have J73 : ∀ m, m = favU (A 7) (F 9) (j + 1) → p_X2_favouriteOfTally_J73 F A (p_X2_favouriteOfTally_L4 F A K n) K (nI m) (nI (j + 1)) := by
      intro m hm
      unfold p_X2_favouriteOfTally_J73
      intro y hy
      exact ih _ _ ⟨by rw [hy]; exact nI_1 _, by rw [e2, hm]⟩
    have ci : (nI (j + 1)).toNatClampNeg = j + 1 := nI_clamp (by omega)
    have cb : (nI (favU (A 7) (F 9) j)).toNatClampNeg = favU (A 7) (F 9) j := nI_clamp (by omega)
    have ii : vp_in (nI (j + 1)) 6 := vp_in_nI h6 (by omega)
    have ib : vp_in (nI (favU (A 7) (F 9) j)) 6 := vp_in_nI (by omega) (by omega)
    have J36 : ∀ z : Int32, (¬ z = 0 ↔ apI (nI (j + 1)) (F 9) < apI (nI (favU (A 7) (F 9) j)) (F 9)) → p_X2_favouriteOfTally_J36 F A (p_X2_favouriteOfTally_L4 F A K n) K (nI (favU (A 7) (F 9) j)) (nI (j + 1)) z := by
      intro z hz
      unfold p_X2_favouriteOfTally_J36 p_X2_favouriteOfTally_J71
      rw [ci, cb]
      refine ⟨ii, ib, fun c => J73 _ ?_, fun c => ⟨ii, ib, fun d => J73 _ ?_, fun d => ⟨fun q => J73 _ ?_, fun q => J73 _ ?_⟩⟩⟩
      · rw [favU, if_pos (Or.inl c)]
      · rw [favU, if_neg (fun q => q.elim c (fun q => d q.1))]
      · rw [favU, if_neg (fun w => w.elim c (fun w => (hz.mpr w.2) q))]
      · rw [favU, if_pos (Or.inr ⟨d, hz.mp q⟩)]
    refine ⟨fun c => J36 _ ⟨fun q => absurd rfl q, fun q => absurd q (Int32.not_lt.mpr c)⟩, fun c => J36 _ ⟨fun _ => Int32.not_le.mp c, fun _ => by decide⟩⟩
