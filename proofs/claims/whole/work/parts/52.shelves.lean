/-! sheet, shelf, taken; what a call leaves of the rows -/
theorem IvS.at {gsh : tG} {RL : List RowE} {A : tA} (h : IvS gsh RL A) {t : Nat} (ht : t < 4) : SN gsh A t ∨ ∃ (k : Nat) (e : RowE), RL[k]? = some e ∧ SR gsh A t (rO e) (rN e) (rS' e) (rI e) := by
  obtain ⟨rs, _, h2⟩ := h
  rcases h2 t ht with ⟨_, q⟩ | ⟨k, e, _, a, b⟩
  · exact Or.inl q
  · exact Or.inr ⟨k, e, a, b⟩
theorem IvS.keep {gsh : tG} {RL : List RowE} {A A' : tA} (h : IvS gsh RL A) (e16 : A' 16 = A 16) (e17 : A' 17 = A 17) (e18 : A' 18 = A 18) : IvS gsh RL A' := by
  obtain ⟨rs, h1, h2⟩ := h
  refine ⟨rs, h1, fun i hi => ?_⟩
  unfold SN SR at h2 ⊢
  rw [e16, e17, e18]; exact h2 i hi
theorem IvH.keep {gsv : tG} {fs : tF} {RL : List RowE} {A A' : tA} (h : IvH gsv fs RL A) (e19 : A' 19 = A 19) (e20 : A' 20 = A 20) (e21 : A' 21 = A 21) : IvH gsv fs RL A' := by
  intro i hi
  rw [e19, e20, e21]; exact h i hi
theorem IvH.more {gsv : tG} {fs : tF} {RL : List RowE} {A : tA} (h : IvH gsv fs RL A) (x : RowE) : IvH gsv fs (RL ++ [x]) A := by
  intro i hi
  rcases h i hi with q | q | ⟨k, e, a, b⟩
  · exact Or.inl q
  · exact Or.inr (Or.inl q)
  · refine Or.inr (Or.inr ⟨k, e, ?_, b⟩)
    obtain ⟨hk, _⟩ := List.getElem?_eq_some_iff.mp a
    rw [List.getElem?_append_left hk]; exact a
/-- one row's items become others -/
def rPut (e : RowE) (it : tF) : RowE := (rO e, rA e, rN e, rS' e, it)
theorem IvH.put {gsv : tG} {fs : tF} {RL : List RowE} {A : tA} (h : IvH gsv fs RL A) {k : Nat} {e : RowE} (hk : RL[k]? = some e) (it : tF) : IvH gsv fs (RL.set k (rPut e it)) A := by
  intro i hi
  rcases h i hi with q | q | ⟨k', e', a, b⟩
  · exact Or.inl q
  · exact Or.inr (Or.inl q)
  · obtain ⟨hl, _⟩ := List.getElem?_eq_some_iff.mp a
    by_cases c : k = k'
    · subst c
      have : e' = e := by rw [hk] at a; exact (Option.some.inj a).symm
      subst this
      exact Or.inr (Or.inr ⟨k, rPut e' it, by rw [List.getElem?_set_self hl], b⟩)
    · exact Or.inr (Or.inr ⟨k', e', by rw [List.getElem?_set_ne c]; exact a, b⟩)
theorem IvS.put {gsh : tG} {RL : List RowE} {A A' : tA} (h : IvS gsh RL A) {t : Nat} (ht : t < 4) {o n : Nat} {st : Int32} {it it' : tF} (hr : SR gsh A t o n st it) (e16 : A' 16 = A 16) (e17 : A' 17 = A 17) (hin : ∀ j, j < n → A' 18 (40 * t + j) = it' j) (hout : ∀ k, (k < 40 * t ∨ 40 * t + 40 ≤ k) → A' 18 k = A 18 k) : ∃ (k : Nat) (e : RowE), RL[k]? = some e ∧ rO e = o ∧ rN e = n ∧ rS' e = st ∧ IvS gsh (RL.set k (rPut e it')) A' := by
  obtain ⟨rs, h1, h2⟩ := h
  obtain ⟨g0, hn, hst, f16, f17, _⟩ := id hr
  rcases h2 t ht with ⟨_, q, _⟩ | ⟨k, e, ra, rb, sr⟩
  · rw [q] at g0; exact absurd g0 (by simp)
  · have eo : rO e = o := by have := sr.1; rw [g0] at this; exact (Option.some.inj this).symm
    have en : rN e = n := by
      have := sr.2.2.2.2.1
      rw [f17] at this
      exact ((nI_eq (by omega) (by have := sr.2.1; omega)).mp this).symm
    have es : rS' e = st := by have := sr.2.2.2.1; rw [f16] at this; exact this.symm
    refine ⟨k, e, rb, eo, en, es, rs, h1, fun i hi => ?_⟩
    obtain ⟨hl, _⟩ := List.getElem?_eq_some_iff.mp rb
    by_cases c : i = t
    · subst c
      refine Or.inr ⟨k, rPut e it', ra, by rw [List.getElem?_set_self hl], ?_⟩
      refine ⟨sr.1, sr.2.1, sr.2.2.1, by rw [e16]; exact sr.2.2.2.1, by rw [e17]; exact sr.2.2.2.2.1, fun j hj => hin j (by rw [← en]; exact hj)⟩
    · rcases h2 i hi with ⟨a, b1, b2⟩ | ⟨k', e', ra', rb', sr'⟩
      · exact Or.inl ⟨a, b1, by rw [e16]; exact b2⟩
      · have kn : k ≠ k' := fun w => c (h1 i hi t ht k' ra' (by rw [← w]; exact ra))
        refine Or.inr ⟨k', e', ra', by rw [List.getElem?_set_ne kn]; exact rb', sr'.1, sr'.2.1, sr'.2.2.1, by rw [e16]; exact sr'.2.2.2.1, by rw [e17]; exact sr'.2.2.2.2.1, fun j hj => ?_⟩
        have := sr'.2.1
        rw [hout _ (by omega)]; exact sr'.2.2.2.2.2 j hj
/-! sheet: what the reference does -/
theorem s_X7_sheetGo {F : tF} {A : tA} {t : Nat} (ht : t < 4) {st m : Int32} {K : Int32 → tF → tA → Prop} (hk : ∀ A', (∀ k, k ≠ 16 → k ≠ 17 → k ≠ 18 → A' k = A k) → A' 16 = upd (A 16) t st → A' 17 = upd (A 17) t (if 0 ≤ st then m else 0) → (∀ j, j < 40 → A' 18 (40 * t + j) = 0) → (∀ k, (k < 40 * t ∨ 40 * t + 40 ≤ k) → A' 18 k = A 18 k) → K 1 F A') : p_X7_sheet_J44 F A K (nI t) st m := by
  have iv : vp_in (nI t) 4 := vp_in_nI ht (by omega)
  unfold p_X7_sheet_J44
  rw [nI_clamp (by omega)]
  refine ⟨iv, fun f hf => ?_⟩
  have J : ∀ z, z = (if 0 ≤ st then m else 0) → p_X7_sheet_J65 F (va_up A 16 f) K (nI t) z (nI t) := by
    intro z hz
    unfold p_X7_sheet_J65
    rw [nI_clamp (by omega)]
    refine ⟨iv, fun g hg => ?_⟩
    refine lq3 (p_X7_sheet_L69 (nI t) K) (fun i F' A' x => F' = F ∧ x = nI i ∧ (∀ k, k ≠ 16 → k ≠ 17 → k ≠ 18 → A' k = A k) ∧ A' 16 = f ∧ A' 17 = g ∧ (∀ j, j < i → A' 18 (40 * t + j) = 0) ∧ (∀ k, (k < 40 * t ∨ 40 * t + 40 ≤ k) → A' 18 k = A 18 k)) 40 0 (by omega) ?_ ?_ ⟨rfl, rfl, fun k a b c => by rw [va_up_ne _ _ b, va_up_ne _ _ a], by rw [va_up_ne _ _ (by omega), va_up_self], by rw [va_up_self], fun j hj => absurd hj (by omega), fun k _ => by rw [va_up_ne _ _ (by omega), va_up_ne _ _ (by omega)]⟩
    · rintro n F' A' x ⟨rfl, rfl, t1, e16, e17, b, c⟩
      rw [p_X7_sheet_L69]
      refine ⟨fun _ => hk A' t1 (by rw [e16, hf]) ?_ b c, fun q => absurd (nI_le (a := 40) (b := 40) (by omega) (by omega)) q⟩
      rw [e17, hg, hz, va_up_ne _ _ (by omega)]
    · rintro n i F' A' x h1 h6 ⟨rfl, rfl, t1, e16, e17, b, c⟩ ih
      rw [p_X7_sheet_L69, ix40, nI_clamp (by omega)]
      refine ⟨fun q => absurd q (nI_ge (a := i) (b := 40) h6 (by omega)), fun _ => ⟨vp_in_nI (by omega) (by omega), fun f1 h1 y hy => ih _ _ _ ⟨rfl, by rw [hy]; exact nI_1 _, fun k a b c => by rw [va_up_ne _ _ c]; exact t1 k a b c, by rw [va_up_ne _ _ (by omega)]; exact e16, by rw [va_up_ne _ _ (by omega)]; exact e17, fun j hj => ?_, fun k hk => ?_⟩⟩⟩
      · rw [va_up_self, h1]
        by_cases w : j = i
        · rw [w, pk_us]
        · rw [pk_un (by omega)]; exact b j (by omega)
      · rw [va_up_self, h1, pk_un (by omega)]; exact c k hk
  exact ⟨fun q => J _ (by rw [if_pos q]), fun q => J _ (by rw [if_neg q])⟩
theorem s_X7_inM {x : Int32} {K : Int32 → Prop} (h1 : (x = -1 ∨ inR x 4) → K 1) (h0 : ¬ (x = -1 ∨ inR x 4) → K 0) : p_X7_isIn x.toInt64 (-1 : Int64) (3 : Int64) K := by
  have em : (-1 : Int32).toInt = -1 := by decide
  have e3 : (3 : Int32).toInt = 3 := by decide
  have e0 : (0 : Int32).toInt = 0 := by decide
  have e : (x = -1 ∨ inR x 4) ↔ ((-1 : Int32) ≤ x ∧ x ≤ 3) := by
    rw [Int32.le_iff_toInt_le, Int32.le_iff_toInt_le, em, e3]
    constructor
    · rintro (q | ⟨j, hj, rfl⟩)
      · rw [q, em]; omega
      · rw [nI_toInt (by omega)]; omega
    · rintro ⟨a, b⟩
      by_cases c : x < 0
      · left; rw [Int32.lt_iff_toInt_lt, e0] at c; rw [← Int32.toInt_inj, em]; omega
      · right
        obtain ⟨j, hj, rfl⟩ := nI_of c
        rw [nI_toInt hj] at b
        exact ⟨j, by omega, rfl⟩
  exact s_X7_isIn (lo := -1) (hi := 3) rfl rfl (fun a b => h1 (e.mpr ⟨a, b⟩)) (fun q => h0 (fun w => q (e.mp w)))
theorem IvS.gone {gsh : tG} {RL : List RowE} {A A' : tA} (h : IvS gsh RL A) {t : Nat} (ht : t < 4) (e16 : A' 16 = upd (A 16) t (-1)) (e17 : ∀ k, k ≠ t → A' 17 k = A 17 k) (hout : ∀ k, (k < 40 * t ∨ 40 * t + 40 ≤ k) → A' 18 k = A 18 k) : IvS (va_up gsh t none) RL A' := by
  obtain ⟨rs, h1, h2⟩ := h
  refine ⟨fun i => if i = t then none else rs i, fun i hi j hj k a b => ?_, fun i hi => ?_⟩
  · by_cases ci : i = t
    · simp only [if_pos ci] at a; exact absurd a (by simp)
    · by_cases cj : j = t
      · simp only [if_pos cj] at b; exact absurd b (by simp)
      · simp only [if_neg ci] at a
        simp only [if_neg cj] at b
        exact h1 i hi j hj k a b
  · by_cases ci : i = t
    · subst ci
      exact Or.inl ⟨if_pos rfl, va_up_self _ _ _, by rw [e16, pk_us]⟩
    · rcases h2 i hi with ⟨a, b1, b2⟩ | ⟨k', e', ra', rb', sr'⟩
      · exact Or.inl ⟨by simp only [if_neg ci]; exact a, by rw [va_up_ne _ _ ci]; exact b1, by rw [e16, pk_un ci]; exact b2⟩
      · have := sr'.2.1
        exact Or.inr ⟨k', e', by simp only [if_neg ci]; exact ra', rb', by rw [va_up_ne _ _ ci]; exact sr'.1, sr'.2.1, sr'.2.2.1, by rw [e16, pk_un ci]; exact sr'.2.2.2.1, by rw [e17 i ci]; exact sr'.2.2.2.2.1, fun j hj => by rw [hout _ (by omega)]; exact sr'.2.2.2.2.2 j hj⟩
theorem IvS.new {gsh : tG} {RL : List RowE} {A A' : tA} (h : IvS gsh RL A) {t : Nat} (ht : t < 4) {e : RowE} (hn : rN e ≤ 40) (hst : inR (rS' e) 4) (hz : ∀ j, rI e j = 0) (e16 : A' 16 = upd (A 16) t (rS' e)) (e17 : A' 17 = upd (A 17) t (nI (rN e))) (hin : ∀ j, j < 40 → A' 18 (40 * t + j) = 0) (hout : ∀ k, (k < 40 * t ∨ 40 * t + 40 ≤ k) → A' 18 k = A 18 k) : IvS (va_up gsh t (some (rO e))) (RL ++ [e]) A' := by
  obtain ⟨rs, h1, h2⟩ := h
  have bd : ∀ i, i < 4 → ∀ k, rs i = some k → k < RL.length := by
    intro i hi k hk
    rcases h2 i hi with ⟨a, _⟩ | ⟨k', e', ra', rb', _⟩
    · rw [a] at hk; exact absurd hk (by simp)
    · rw [ra'] at hk
      have := Option.some.inj hk
      subst this
      exact (List.getElem?_eq_some_iff.mp rb').1
  refine ⟨fun i => if i = t then some RL.length else rs i, fun i hi j hj k a b => ?_, fun i hi => ?_⟩
  · by_cases ci : i = t
    · by_cases cj : j = t
      · rw [ci, cj]
      · simp only [if_pos ci] at a
        simp only [if_neg cj] at b
        have := bd j hj k b
        have := Option.some.inj a
        omega
    · by_cases cj : j = t
      · simp only [if_neg ci] at a
        simp only [if_pos cj] at b
        have := bd i hi k a
        have := Option.some.inj b
        omega
      · simp only [if_neg ci] at a
        simp only [if_neg cj] at b
        exact h1 i hi j hj k a b
  · by_cases ci : i = t
    · subst ci
      refine Or.inr ⟨RL.length, e, if_pos rfl, ?_, va_up_self _ _ _, hn, hst, by rw [e16, pk_us], by rw [e17, pk_us], fun j hj => by rw [hin j (by omega), hz]⟩
      rw [List.getElem?_append_right (Nat.le_refl _), Nat.sub_self]; rfl
    · rcases h2 i hi with ⟨a, b1, b2⟩ | ⟨k', e', ra', rb', sr'⟩
      · exact Or.inl ⟨by simp only [if_neg ci]; exact a, by rw [va_up_ne _ _ ci]; exact b1, by rw [e16, pk_un ci]; exact b2⟩
      · have := sr'.2.1
        refine Or.inr ⟨k', e', by simp only [if_neg ci]; exact ra', by rw [List.getElem?_append_left (bd i hi k' ra')]; exact rb', by rw [va_up_ne _ _ ci]; exact sr'.1, sr'.2.1, sr'.2.2.1, by rw [e16, pk_un ci]; exact sr'.2.2.2.1, by rw [e17, pk_un ci]; exact sr'.2.2.2.2.1, fun j hj => by rw [hout _ (by omega)]; exact sr'.2.2.2.2.2 j hj⟩
def keep3 (a b c : Nat) (A A' : tA) : Prop := ∀ k, k ≠ a → k ≠ b → k ≠ c → A' k = A k
theorem j_sheet_N {F : tF} {gsh : tG} {RL : List RowE} {FM : tF} {A : tA} (hS : IvS gsh RL A) (x y n : Int32) (hno : ¬ (inR x 4 ∧ inR y 4 ∧ inR n 41)) : p_X6_sheet_N F gsh x y n (fun r gsh' => p_X7_sheet FM A x y n (fun r' F' A' => r = r' ∧ F' = FM ∧ keep3 16 17 18 A A' ∧ IvS gsh' RL A')) := by
  have R : (1 : Int32) = 1 ∧ FM = FM ∧ keep3 16 17 18 A A ∧ IvS gsh RL A := ⟨rfl, rfl, fun _ _ _ _ => rfl, hS⟩
  have em : (-1 : Int32).toInt = -1 := by decide
  have e0 : (0 : Int32).toInt = 0 := by decide
  unfold p_X6_sheet_N
  by_cases c : inR x 4
  rotate_left
  · exact w0 (m := 4) c (by omega) (a0 (by unfold p_X7_sheet; exact sh0 c (a0 ⟨rfl, R.2⟩)))
  refine w1 (m := 4) c (by omega) (a1 ?_)
  obtain ⟨t, ht, rfl⟩ := id c
  have B : ¬ (y = -1 ∨ inR y 4) → p_X7_sheet FM A (nI t) y n (fun r' F' A' => -1 = r' ∧ F' = FM ∧ keep3 16 17 18 A A' ∧ IvS gsh RL A') := by
    intro q
    unfold p_X7_sheet
    exact sh1 c (a1 (s_X7_inM (fun w => absurd w q) (fun _ => a0 ⟨rfl, R.2⟩)))
  refine ⟨fun q => B ?_, fun q1 => ⟨fun q2 => ⟨fun q3 => ?_, fun q3 => ?_⟩, fun q2 => B ?_⟩⟩
  · rintro (w | ⟨j, hj, w⟩)
    · rw [w] at q; exact absurd q (by decide)
    · rw [w, Int32.lt_iff_toInt_lt, nI_toInt (by omega), em] at q; omega
  · have hy : inR y 4 := by
      refine (inR_iff (by omega)).mpr ⟨fun w => ?_, q2⟩
      rw [Int32.lt_iff_toInt_lt, em] at q1
      rw [Int32.lt_iff_toInt_lt, e0] at w
      exact q3 (by rw [← Int32.toInt_inj, em]; omega)
    obtain ⟨j, hj, rfl⟩ := id hy
    have y0 : ¬ nI j < 0 := nI_pos (by omega)
    refine ⟨fun q4 => ⟨fun q5 => ?_, fun q5 => ?_⟩, fun q4 => ?_⟩
    · have : inR n 41 := by
        obtain ⟨m, hm, rfl⟩ := nI_of (Int32.not_lt.mpr q5)
        exact ⟨m, by have := (nI_leI (a := m) (b := 40) hm (by omega)).mp q4; omega, rfl⟩
      exact hno ⟨c, hy, this⟩
    · unfold p_X7_sheet p_X7_sheet_J33
      exact sh1 c (a1 (s_X7_inM (fun _ => a1 ⟨fun w => absurd w y0, fun _ => ⟨fun _ => ⟨fun w => absurd w y0, fun _ => ⟨fun w => absurd w q5, fun _ => ⟨rfl, R.2⟩⟩⟩, fun w => absurd q4 w⟩⟩) (fun w => absurd (Or.inr hy) w)))
    · unfold p_X7_sheet
      exact sh1 c (a1 (s_X7_inM (fun _ => a1 ⟨fun w => absurd w y0, fun _ => ⟨fun w => absurd w q4, fun _ => ⟨rfl, R.2⟩⟩⟩) (fun w => absurd (Or.inr hy) w)))
  · subst q3
    rw [nI_clamp (by omega)]
    refine ⟨vp_in_nI ht (by omega), ?_⟩
    unfold p_X7_sheet p_X7_sheet_J33
    refine sh1 c (a1 (s_X7_inM (fun _ => a1 ⟨fun _ => ⟨fun _ => s_X7_sheetGo ht (fun A' k1 k2 k3 k4 k5 => ⟨rfl, rfl, k1, hS.gone ht k2 (fun k hk => by rw [k3, pk_un hk]) k5⟩), fun w => absurd (by decide) w⟩, fun w => absurd (by decide) w⟩) (fun w => absurd (Or.inl rfl) w)))
  · rintro (w | w)
    · rw [w] at q2; exact q2 (by decide)
    · exact q2 ((inR_iff (by omega)).mp w).2
theorem j_sheet_A {gsh : tG} {RL : List RowE} {FM : tF} {A : tA} (hS : IvS gsh RL A) {t : Nat} (ht : t < 4) {y : Int32} (hy : inR y 4) {N : Nat} (hN : N ≤ 40) (o a : Nat) : p_X7_sheet FM A (nI t) y (nI N) (fun r' F' A' => 1 = r' ∧ F' = FM ∧ keep3 16 17 18 A A' ∧ IvS (va_up gsh t (some o)) (RL ++ [(o, a, N, y, fun _ => 0)]) A') := by
  have c : inR (nI t) 4 := ⟨t, ht, rfl⟩
  obtain ⟨j, hj, rfl⟩ := id hy
  have y0 : ¬ nI j < 0 := nI_pos (by omega)
  have n40 : nI N ≤ (40 : Int32) := nI_le (a := N) (b := 40) hN (by omega)
  unfold p_X7_sheet p_X7_sheet_J33
  refine sh1 c (a1 (s_X7_inM (fun _ => a1 ⟨fun w => absurd w y0, fun _ => ⟨fun _ => ⟨fun w => absurd w y0, fun _ => ⟨fun _ => s_X7_sheetGo ht (fun A' k1 k2 k3 k4 k5 => ⟨rfl, rfl, k1, ?_⟩), fun w => absurd (nI_pos' (by omega)) w⟩⟩, fun w => absurd n40 w⟩⟩) (fun w => absurd (Or.inr hy) w)))
  rw [if_pos (Int32.not_lt.mp y0)] at k3
  exact hS.new (e := (o, a, N, nI j, fun _ => 0)) ht hN hy (fun _ => rfl) k2 k3 k4 k5
/-! shelf -/
theorem IvH.one {gsv : tG} {fs : tF} {RL : List RowE} {A A' : tA} (h : IvH gsv fs RL A) {t : Nat} {g' : Option Nat} {v a b c : Int32} (e19 : A' 19 = upd (A 19) t a) (e20 : A' 20 = upd (A 20) t b) (e21 : A' 21 = upd (A 21) t c) (ht : (g' = none ∧ v = -1 ∧ a = 0) ∨ (∃ o : Nat, o < 8 ∧ g' = none ∧ v = nI o ∧ a = 1 ∧ b = nI o) ∨ ∃ (k : Nat) (e : RowE), RL[k]? = some e ∧ g' = some (rO e) ∧ v = -1 ∧ a = 2 ∧ b = rS' e ∧ inR (rS' e) 4 ∧ c = nI (rN e) ∧ rN e ≤ 40) : IvH (va_up gsv t g') (upd fs t v) RL A' := by
  intro i hi
  by_cases q : i = t
  · subst q
    rw [va_up_self, pk_us, e19, e20, e21, pk_us, pk_us, pk_us]; exact ht
  · rw [va_up_ne _ _ q, pk_un q, e19, e20, e21, pk_un q, pk_un q, pk_un q]; exact h i hi
theorem s_X7_shelfGo {F : tF} {A : tA} {t : Nat} (ht : t < 4) {what n : Int32} {z : Int32} (hn : ¬ z = 0 → inR n 4) {K : Int32 → tF → tA → Prop} (hk : ∀ A', keep3 19 20 21 A A' → A' 19 = upd (A 19) t (if what = 0 then 1 else if z = 0 then 0 else 2) → A' 20 = upd (A 20) t (if what = 0 then n else if z = 0 then 0 else A 16 n.toNatClampNeg) → A' 21 = upd (A 21) t (if z = 0 then 0 else A 17 n.toNatClampNeg) → K 1 F A') : p_X7_shelf_J64 F A K (nI t) what n z := by
  have iv : vp_in (nI t) 4 := vp_in_nI ht (by omega)
  have ivn : ¬ z = 0 → vp_in n 4 := fun q => by
    obtain ⟨j, hj, e⟩ := hn q
    rw [e]; exact vp_in_nI hj (by omega)
  have J89 : ∀ w, w = (if what = 0 then (1 : Int32) else if z = 0 then 0 else 2) → p_X7_shelf_J89 F A K (nI t) what n z w (nI t) := by
    intro w hw
    unfold p_X7_shelf_J89
    rw [nI_clamp (by omega)]
    refine ⟨iv, fun f1 h1 => ?_⟩
    have J118 : ∀ u, u = (if what = 0 then n else if z = 0 then 0 else A 16 n.toNatClampNeg) → p_X7_shelf_J118 F (va_up A 19 f1) K (nI t) n z u (nI t) := by
      intro u hu
      unfold p_X7_shelf_J118
      rw [nI_clamp (by omega)]
      have D : ∀ (f2 f3 : tF), f2 = upd (A 20) t u → f3 = upd (A 21) t (if z = 0 then 0 else A 17 n.toNatClampNeg) → K 1 F (va_up (va_up (va_up A 19 f1) 20 f2) 21 f3) := by
        intro f2 f3 h2 h3
        refine hk _ (fun k a b c => ?_) ?_ ?_ ?_
        · rw [va_up_ne _ _ c, va_up_ne _ _ b, va_up_ne _ _ a]
        · rw [va_up_ne _ _ (by omega), va_up_ne _ _ (by omega), va_up_self, h1, hw]
        · rw [va_up_ne _ _ (by omega), va_up_self, h2, hu]
        · rw [va_up_self, h3]
      refine ⟨iv, fun f2 h2 => ⟨fun q => ⟨iv, fun f3 h3 => D f2 f3 ?_ ?_⟩, fun q => ⟨ivn q, iv, fun f3 h3 => D f2 f3 ?_ ?_⟩⟩⟩
      · rw [h2, va_up_ne _ _ (by omega)]
      · rw [h3, va_up_ne _ _ (by omega), if_pos q]
      · rw [h2, va_up_ne _ _ (by omega)]
      · rw [h3, va_up_ne _ _ (by omega), if_neg q, va_up_ne _ _ (by omega)]
    refine ⟨fun q => ⟨fun w => J118 _ (by rw [if_neg q, if_pos w]), fun w => ⟨ivn w, J118 _ ?_⟩⟩, fun q => J118 _ (by rw [if_pos q])⟩
    rw [if_neg q, if_neg w]
  unfold p_X7_shelf_J64
  exact ⟨fun q => ⟨fun w => J89 _ (by rw [if_neg q, if_pos w]), fun w => J89 _ (by rw [if_neg q, if_neg w])⟩, fun q => J89 _ (by rw [if_pos q])⟩
def PH (FM : tF) (A : tA) (RL : List RowE) (r : Int32) (fs' : tF) (gsv' : tG) : Int32 → tF → tA → Prop := fun r' F' A' => r = r' ∧ F' = FM ∧ keep3 19 20 21 A A' ∧ IvH gsv' fs' RL A'
theorem in3 {x : Int32} (h : inR x 3) : x = 0 ∨ x = 1 ∨ x = 2 := by
  obtain ⟨j, hj, rfl⟩ := h
  rcases (show j = 0 ∨ j = 1 ∨ j = 2 by omega) with e | e | e <;> subst e
  · exact Or.inl rfl
  · exact Or.inr (Or.inl rfl)
  · exact Or.inr (Or.inr rfl)
/-- all but a row laid on a shelf -/
theorem j_shelf_N {F Fn fs : tF} {An : tA} {gsv gsh : tG} {RL : List RowE} {FM : tF} {A : tA} (hz : HZ Fn An A) (hH : IvH gsv fs RL A) (x w n : Int32) (h : ∀ t, t < 4 → inR x 4 → w = 1 → n = nI t → SN gsh A t) : p_X6_shelf_N F Fn An fs gsv gsh x w n (fun r fs' gsv' => p_X7_shelf FM A x w n (PH FM A RL r fs' gsv')) := by
  obtain ⟨hr, ok, _⟩ := id hz
  have hn8 := ok.n.2
  have R : PH FM A RL (-1) fs gsv (-1) FM A := ⟨rfl, rfl, fun _ _ _ _ => rfl, hH⟩
  unfold p_X6_shelf_N p_X6_putOnShelf_N
  by_cases c : inR x 4
  rotate_left
  · exact w0 (m := 4) c (by omega) (b0 (by unfold p_X7_shelf; exact sv0 c (a0 R)))
  refine w1 (m := 4) c (by omega) (b1 ?_)
  obtain ⟨t, ht, rfl⟩ := id c
  have iv : vp_in (nI t) 4 := vp_in_nI ht (by omega)
  rw [nI_clamp (by omega)]
  refine ⟨fun e => ?_, fun e => ?_, fun e => ?_, fun e0 e1 e2 => ?_⟩
  · subst e
    by_cases d : inR n (nS (A 0))
    rotate_left
    · exact f0 hr ok d (b0 (by unfold p_X7_shelf; exact sv1 c (a1 (i1 (m := 2) ⟨0, by omega, rfl⟩ (by omega) rfl rfl (a1 ⟨fun q => absurd rfl q, fun _ => o0 ok d (a0 R)⟩)))))
    refine f1 hr ok d (b1 ⟨iv, fun f hf => ⟨iv, ?_⟩⟩)
    obtain ⟨o, ho, rfl⟩ := id d
    unfold p_X7_shelf p_X7_shelf_J31 p_X7_shelf_J45 p_X7_shelf_J63
    refine sv1 c (a1 (i1 (m := 2) ⟨0, by omega, rfl⟩ (by omega) rfl rfl (a1 ⟨fun q => absurd rfl q, fun _ => o1 ok d (a1 ⟨fun _ => ⟨fun _ => s_X7_shelfGo ht (fun q => absurd rfl q) (fun A' k1 k2 k3 k4 => ⟨rfl, rfl, k1, ?_⟩), fun q => absurd q (by decide)⟩, fun q => absurd q (by decide)⟩)⟩)))
    rw [hf]
    exact hH.one k2 k3 k4 (Or.inr (Or.inl ⟨o, by omega, rfl, rfl, rfl, rfl⟩))
  · subst e
    by_cases d : inR n 4
    rotate_left
    · exact w0 (m := 4) d (by omega) (b0 (by unfold p_X7_shelf p_X7_shelf_J31; exact sv1 c (a1 (i1 (m := 2) ⟨1, by omega, rfl⟩ (by omega) rfl rfl (a1 ⟨fun _ => ⟨fun q => absurd rfl q, fun _ => sh0 d (b0 R)⟩, fun q => absurd q (by decide)⟩)))))
    refine w1 (m := 4) d (by omega) (b1 ?_)
    obtain ⟨k, hk, rfl⟩ := id d
    obtain ⟨hg, e16⟩ := h k hk c rfl rfl
    have ivk : vp_in (nI k) 4 := vp_in_nI hk (by omega)
    rw [nI_clamp (by omega)]
    refine ⟨ivk, hg, iv, fun f hf => ⟨iv, ?_⟩⟩
    unfold p_X7_shelf p_X7_shelf_J31 p_X7_shelf_J45 p_X7_shelf_J63
    rw [nI_clamp (by omega), e16]
    refine sv1 c (a1 (i1 (m := 2) ⟨1, by omega, rfl⟩ (by omega) rfl rfl (a1 ⟨fun _ => ⟨fun q => absurd rfl q, fun _ => sh1 d (b1 ⟨fun q => absurd rfl q, fun _ => ⟨ivk, fun _ => s_X7_shelfGo ht (fun q => absurd rfl q) (fun A' k1 k2 k3 k4 => ⟨rfl, rfl, k1, ?_⟩), fun q => absurd (by decide) q⟩⟩)⟩, fun q => absurd q (by decide)⟩)))
    rw [hf]
    exact hH.one k2 k3 k4 (Or.inl ⟨rfl, rfl, rfl⟩)
  · subst e
    refine ⟨iv, fun f hf => ⟨iv, ?_⟩⟩
    unfold p_X7_shelf p_X7_shelf_J31 p_X7_shelf_J45 p_X7_shelf_J63
    refine sv1 c (a1 (i1 (m := 2) ⟨2, by omega, rfl⟩ (by omega) rfl rfl (a1 ⟨fun _ => ⟨fun _ => ⟨fun _ => s_X7_shelfGo ht (fun q => absurd rfl q) (fun A' k1 k2 k3 k4 => ⟨rfl, rfl, k1, ?_⟩), fun q => absurd q (by decide)⟩, fun q => absurd q (by decide)⟩, fun q => absurd q (by decide)⟩)))
    rw [hf]
    exact hH.one k2 k3 k4 (Or.inl ⟨rfl, rfl, rfl⟩)
  · unfold p_X7_shelf
    exact sv1 c (a1 (i0 (m := 2) (fun q => by rcases in3 q with w | w | w <;> first | exact e0 w | exact e1 w | exact e2 w) (by omega) rfl rfl (a0 R)))
theorem j_shelf_R {F Fn fs : tF} {An : tA} {gsv gsh : tG} {RL : List RowE} {FM : tF} {A : tA} (hz : HZ Fn An A) (hH : IvH gsv fs RL A) {t k : Nat} (ht : t < 4) (hk : k < 4) {i : Nat} {e : RowE} (he : RL[i]? = some e) {FR : tF} {AR : tA} (h : SR gsh A k (rO e) (rN e) (rS' e) (rI e)) : p_X6_shelf_R F Fn An fs gsv gsh (rO e) (rN e) FR AR (nI t) 1 (nI k) (fun r fs' gsv' => p_X7_shelf FM A (nI t) 1 (nI k) (PH FM A RL r fs' gsv')) := by
  obtain ⟨hg, hn, hst, e16, e17, _⟩ := id h
  have c : inR (nI t) 4 := ⟨t, ht, rfl⟩
  have d : inR (nI k) 4 := ⟨k, hk, rfl⟩
  have iv : vp_in (nI t) 4 := vp_in_nI ht (by omega)
  have ivk : vp_in (nI k) 4 := vp_in_nI hk (by omega)
  unfold p_X6_shelf_R p_X6_putOnShelf_R
  refine w1 (m := 4) c (by omega) (b1 ?_)
  rw [nI_clamp (by omega), nI_clamp (by omega)]
  refine ⟨fun q => absurd q (by decide), fun _ => w1 (m := 4) d (by omega) (b1 ⟨ivk, hg, iv, fun f hf => ⟨iv, ?_⟩⟩), fun q => absurd q (by decide), fun _ q => absurd rfl q⟩
  unfold p_X7_shelf p_X7_shelf_J31 p_X7_shelf_J45
  rw [nI_clamp (by omega)]
  refine sv1 c (a1 (i1 (m := 2) ⟨1, by omega, rfl⟩ (by omega) rfl rfl (a1 ⟨fun _ => ⟨fun q => absurd rfl q, fun _ => sh1 d (b1 ⟨fun q => absurd rfl q, fun _ => ⟨ivk, fun q => absurd q (Int32.not_lt.mpr h.pos), fun _ => s_X7_shelfGo ht (fun _ => d) (fun A' k1 k2 k3 k4 => ⟨rfl, rfl, k1, ?_⟩)⟩⟩)⟩, fun q => absurd q (by decide)⟩)))
  rw [hf]
  rw [nI_clamp (by omega)] at k3 k4
  exact hH.one k2 k3 k4 (Or.inr (Or.inr ⟨i, e, he, rfl, rfl, rfl, e16, hst, e17, hn⟩))
/-! taken -/
theorem heldOn_0 {F : tF} {A : tA} {t : Nat} (ht : t < 4) (e : A 19 t = 0) {K : Int32 → Prop} (k : K 0) : p_X7_heldOn F A (nI t) K := by
  have iv : vp_in (nI t) 4 := vp_in_nI ht (by omega)
  unfold p_X7_heldOn p_X7_heldOn_J27
  rw [nI_clamp (by omega), e]
  exact ⟨iv, fun _ => ⟨iv, k⟩, fun q => absurd q (by decide)⟩
theorem heldOn_2 {F : tF} {A : tA} {t : Nat} (ht : t < 4) (e : A 19 t = 2) {K : Int32 → Prop} (k : K 2) : p_X7_heldOn F A (nI t) K := by
  have iv : vp_in (nI t) 4 := vp_in_nI ht (by omega)
  unfold p_X7_heldOn p_X7_heldOn_J27
  rw [nI_clamp (by omega), e]
  exact ⟨iv, fun _ => ⟨iv, k⟩, fun q => absurd q (by decide)⟩
theorem heldOn_1 {F : tF} {A : tA} (ok : OkS (A 0)) {t : Nat} (ht : t < 4) (e : A 19 t = 1) {K : Int32 → Prop} (k1 : inR (A 20 t) (nS (A 0)) → K 1) (k0 : ¬ inR (A 20 t) (nS (A 0)) → K 0) : p_X7_heldOn F A (nI t) K := by
  have iv : vp_in (nI t) 4 := vp_in_nI ht (by omega)
  unfold p_X7_heldOn p_X7_heldOn_J27
  rw [nI_clamp (by omega), e]
  exact ⟨iv, fun q => absurd rfl q, fun _ => ⟨iv, s_X7_isOne ok (fun q => b1 ⟨iv, k1 q⟩) (fun q => b0 (k0 q))⟩⟩
theorem in_69 {x : Int32} {K : Int32 → Prop} (h1 : (6 ≤ x ∧ x ≤ 9) → K 1) (h0 : ¬ (6 ≤ x ∧ x ≤ 9) → K 0) : p_X7_isIn x.toInt64 (6 : Int64) (9 : Int64) K :=
  s_X7_isIn (lo := 6) (hi := 9) rfl rfl (fun a b => h1 ⟨a, b⟩) h0
def unB (a b : Int32) : Bool := decide (a = b) || decide (b = 0) || (decide (a = 3) && decide (b = 1)) || (decide (a = 4) && decide (b = 2))
theorem unB_1 {a b : Int32} (h : a = b ∨ b = 0 ∨ (a = 3 ∧ b = 1) ∨ (a = 4 ∧ b = 2)) : unB a b = true := by
  unfold unB
  rw [Bool.or_eq_true, Bool.or_eq_true, Bool.or_eq_true, Bool.and_eq_true, Bool.and_eq_true, decide_eq_true_iff, decide_eq_true_iff, decide_eq_true_iff, decide_eq_true_iff, decide_eq_true_iff, decide_eq_true_iff]
  rcases h with h | h | h | h
  · exact Or.inl (Or.inl (Or.inl h))
  · exact Or.inl (Or.inl (Or.inr h))
  · exact Or.inl (Or.inr h)
  · exact Or.inr h
theorem unB_0 {a b : Int32} (h : ¬ (a = b ∨ b = 0 ∨ (a = 3 ∧ b = 1) ∨ (a = 4 ∧ b = 2))) : ¬ unB a b = true := by
  intro q
  unfold unB at q
  rw [Bool.or_eq_true, Bool.or_eq_true, Bool.or_eq_true, Bool.and_eq_true, Bool.and_eq_true, decide_eq_true_iff, decide_eq_true_iff, decide_eq_true_iff, decide_eq_true_iff, decide_eq_true_iff, decide_eq_true_iff] at q
  refine h ?_
  rcases q with ((q | q) | q) | q
  · exact Or.inl q
  · exact Or.inr (Or.inl q)
  · exact Or.inr (Or.inr (Or.inl q))
  · exact Or.inr (Or.inr (Or.inr q))
theorem s_X6_under {a b : Int32} {K : Int32 → Prop} (k : K (if unB a b = true then 1 else 0)) : p_X6_isKindOrUnder a b K := by
  have T : (a = b ∨ b = 0 ∨ (a = 3 ∧ b = 1) ∨ (a = 4 ∧ b = 2)) → K 1 := fun h => by rw [if_pos (unB_1 h)] at k; exact k
  have N : ¬ (a = b ∨ b = 0 ∨ (a = 3 ∧ b = 1) ∨ (a = 4 ∧ b = 2)) → K 0 := fun h => by rw [if_neg (unB_0 h)] at k; exact k
  unfold p_X6_isKindOrUnder p_X6_isKindOrUnder_J19 p_X6_isKindOrUnder_J29
  refine ⟨fun q => T (Or.inl q), fun n1 => ⟨fun q => T (Or.inr (Or.inl q)), fun n2 => ⟨fun n3 => ⟨fun n4 => N ?_, fun q4 => ⟨fun n5 => N ?_, fun q5 => T (Or.inr (Or.inr (Or.inr ⟨q4, q5⟩)))⟩⟩, fun q3 => ⟨fun q => T (Or.inr (Or.inr (Or.inl ⟨q3, q⟩))), fun n6 => ⟨fun n4 => N ?_, fun q4 => ⟨fun n5 => N ?_, fun q5 => T (Or.inr (Or.inr (Or.inr ⟨q4, q5⟩)))⟩⟩⟩⟩⟩⟩
  · rintro (w | w | w | w)
    · exact n1 w
    · exact n2 w
    · exact n3 w.1
    · exact n4 w.1
  · rintro (w | w | w | w)
    · exact n1 w
    · exact n2 w
    · exact n3 w.1
    · exact n5 w.2
  · rintro (w | w | w | w)
    · exact n1 w
    · exact n2 w
    · exact n6 w.2
    · exact n4 w.1
  · rintro (w | w | w | w)
    · exact n1 w
    · exact n2 w
    · exact n6 w.2
    · exact n5 w.2
theorem s_X7_isUnder {a b : Int32} {K : Int32 → Prop} (k : K (if unB a b = true then 1 else 0)) : p_X7_isUnder a b K := by
  have T : (a = b ∨ b = 0 ∨ (a = 3 ∧ b = 1) ∨ (a = 4 ∧ b = 2)) → K 1 := fun h => by rw [if_pos (unB_1 h)] at k; exact k
  have N : ¬ (a = b ∨ b = 0 ∨ (a = 3 ∧ b = 1) ∨ (a = 4 ∧ b = 2)) → K 0 := fun h => by rw [if_neg (unB_0 h)] at k; exact k
  unfold p_X7_isUnder p_X7_isUnder_J19 p_X7_isUnder_J29
  refine ⟨fun q => T (Or.inr (Or.inl q)), fun n2 => ⟨fun q => T (Or.inl q), fun n1 => ⟨fun n3 => ⟨fun n4 => N ?_, fun q4 => ⟨fun n5 => N ?_, fun q5 => T (Or.inr (Or.inr (Or.inr ⟨q5, q4⟩)))⟩⟩, fun q3 => ⟨fun q => T (Or.inr (Or.inr (Or.inl ⟨q, q3⟩))), fun n6 => ⟨fun n4 => N ?_, fun q4 => ⟨fun n5 => N ?_, fun q5 => T (Or.inr (Or.inr (Or.inr ⟨q5, q4⟩)))⟩⟩⟩⟩⟩⟩
  · rintro (w | w | w | w)
    · exact n1 w
    · exact n2 w
    · exact n3 w.2
    · exact n4 w.2
  · rintro (w | w | w | w)
    · exact n1 w
    · exact n2 w
    · exact n3 w.2
    · exact n5 w.1
  · rintro (w | w | w | w)
    · exact n1 w
    · exact n2 w
    · exact n6 w.1
    · exact n4 w.2
  · rintro (w | w | w | w)
    · exact n1 w
    · exact n2 w
    · exact n6 w.1
    · exact n5 w.1
/-- the reference's taken, behind its tests -/
theorem s_X7_taken {F : tF} {A : tA} {t v : Nat} (ht : t < 4) (hv : v < 14) {K : Int32 → Prop} (hb : 6 ≤ v → v < 10 → K (-1)) (hk : (v < 6 ∨ 10 ≤ v) → p_X7_heldOn F A (nI t) (fun r37 => ((¬ r37 = 0 → (((10 : Int32) ≤ nI v → ((¬ r37 = (2 : Int32) → (K (-13 : Int32))) ∧ (r37 = (2 : Int32) → (vp_in (nI t) 4 ∧ ((¬ ((A 20) (nI t).toNatClampNeg) = (nI v - (10 : Int32)) → (K (-13 : Int32))) ∧ (((A 20) (nI t).toNatClampNeg) = (nI v - (10 : Int32)) → (vp_in (nI t) 4 ∧ (K ((A 21) (nI t).toNatClampNeg))))))))) ∧ (¬ (10 : Int32) ≤ nI v → ((¬ r37 = (1 : Int32) → (K (-13 : Int32))) ∧ (r37 = (1 : Int32) → (vp_in (nI t) 4 ∧ (p_X7_its F A ((A 20) (nI t).toNatClampNeg) (0 : Int32) (fun r67 => (p_X7_isUnder r67 (nI v) (fun r71 => ((r71 = 0 → (K (-13 : Int32))) ∧ (¬ r71 = 0 → (vp_in (nI t) 4 ∧ (K ((A 20) (nI t).toNatClampNeg))))))))))))))) ∧ (r37 = 0 → (K (-11 : Int32)))))) : p_X7_taken F A (nI t) (nI v) K := by
  unfold p_X7_taken
  refine sv1 ⟨t, ht, rfl⟩ (a1 (i1 (m := 13) ⟨v, hv, rfl⟩ (by omega) rfl rfl (a1 (in_69 (fun q => a1 ?_) (fun q => a0 ?_)))))
  · have a := (nI_leI (a := 6) (b := v) (by omega) (by omega)).mp q.1
    have b := (nI_leI (a := v) (b := 9) (by omega) (by omega)).mp q.2
    exact hb a (by omega)
  · refine hk ?_
    rcases Nat.lt_or_ge v 6 with w | w
    · exact Or.inl w
    · right
      rcases Nat.lt_or_ge v 10 with u | u
      · exact absurd ⟨nI_le (a := 6) (b := v) w (by omega), nI_le (a := v) (b := 9) (by omega) (by omega)⟩ q
      · exact u
theorem tk_out {x y : Int32} {F : tF} {A : tA} (h : ¬ (inR x 4 ∧ inR y 14)) : p_X7_taken F A x y (fun r' => -1 = r') := by
  unfold p_X7_taken
  by_cases c : inR x 4
  · exact sv1 c (a1 (i0 (m := 13) (fun q => h ⟨c, q⟩) (by omega) rfl rfl (a0 rfl)))
  · exact sv0 c (a0 rfl)
theorem j_taken_N {F Fn fs : tF} {An : tA} {gsv : tG} {FM : tF} {A : tA} (hz : HZ Fn An A) (x y : Int32) (h : ∀ t, t < 4 → x = nI t → gsv t = none ∧ ((fs t = -1 ∧ A 19 t = 0) ∨ ∃ o : Nat, o < 8 ∧ fs t = nI o ∧ A 19 t = 1 ∧ A 20 t = nI o)) : p_X6_taken_N F gsv fs Fn An x y (fun r => p_X7_taken FM A x y (fun r' => r = r')) := by
  obtain ⟨hr, ok, _⟩ := id hz
  have hn8 := ok.n.2
  -- behind the tests: a kind below 6, or a sort from 10 on
  have J41 : ∀ (t v : Nat) (s0 : Int32), t < 4 → x = nI t → v < 14 → y = nI v → ((s0 = 0 ∧ v < 6) ∨ (s0 = 1 ∧ 10 ≤ v)) → p_X6_taken_N_J41 F gsv fs Fn An (fun r => p_X7_taken FM A x y (fun r' => r = r')) x y s0 := by
    rintro t v s0 ht rfl hv rfl hs
    obtain ⟨hg, hc⟩ := h t ht rfl
    have iv : vp_in (nI t) 4 := vp_in_nI ht (by omega)
    unfold p_X6_taken_N_J41
    rw [nI_clamp (by omega)]
    refine ⟨iv, hg, iv, fun y1 h1 => ?_⟩
    rcases hc with ⟨f1', f2⟩ | ⟨o, ho, f1', f2, f3⟩
    · have : ¬ inR y1 (nS (A 0)) := by
        rw [h1, f1']; rintro ⟨j, hj, e⟩
        exact absurd e.symm (nI_m1 j (by omega))
      refine f0 hr ok this (b0 (s_X7_taken ht hv (fun a b => ?_) (fun _ => heldOn_0 ht f2 ⟨fun q => absurd rfl q, fun _ => rfl⟩)))
      rcases hs with ⟨_, q⟩ | ⟨_, q⟩ <;> omega
    · rw [f1'] at h1
      subst h1
      by_cases c : inR (nI o) (nS (A 0))
      rotate_left
      · refine f0 hr ok c (b0 (s_X7_taken ht hv (fun a b => ?_) (fun _ => heldOn_1 ok ht f2 (fun q => absurd (by rw [← f3]; exact q) c) (fun _ => ⟨fun q => absurd rfl q, fun _ => rfl⟩))))
        rcases hs with ⟨_, q⟩ | ⟨_, q⟩ <;> omega
      have hon : o < nS (A 0) := by
        obtain ⟨j, hj, e⟩ := c
        rw [(nI_eq (by omega) (by omega)).mp e]; exact hj
      refine f1 hr ok c (b1 ⟨fun s1 => ?_, fun s1 => ?_⟩)
      · have v10 : 10 ≤ v := by
          rcases hs with ⟨q, _⟩ | ⟨_, q⟩
          · exact absurd q s1
          · exact q
        exact s_X7_taken ht hv (fun a b => by omega) (fun _ => heldOn_1 ok ht f2 (fun _ => ⟨fun _ => ⟨fun _ => ⟨fun _ => rfl, fun q => absurd q (by decide)⟩, fun q => absurd (nI_le (a := 10) (b := v) v10 (by omega)) q⟩, fun q => absurd q (by decide)⟩) (fun q => absurd (by rw [f3]; exact c) q))
      · have v6 : v < 6 := by
          rcases hs with ⟨_, q⟩ | ⟨q, _⟩
          · exact q
          · rw [s1] at q; exact absurd q (by decide)
        rw [nI_clamp (by omega), (hr.2.2.2.2 o hon).1]
        refine ⟨vp_in_nI (by omega) (by omega), s_X6_under ?_⟩
        have X7 : ∀ r : Int32, ((if unB (A 0 (21 + 4 * o)) (nI v) = true then (1 : Int32) else 0) = 0 → r = -13) → (¬ (if unB (A 0 (21 + 4 * o)) (nI v) = true then (1 : Int32) else 0) = 0 → r = nI o) → p_X7_taken FM A (nI t) (nI v) (fun r' => r = r') := by
          intro r g0 g1
          refine s_X7_taken ht hv (fun a b => by omega) (fun _ => heldOn_1 ok ht f2 (fun _ => ⟨fun _ => ⟨fun q => absurd q (nI_ge (a := v) (b := 10) (by omega) (by omega)), fun _ => ⟨fun q => absurd rfl q, fun _ => ⟨iv, ?_⟩⟩⟩, fun q => absurd q (by decide)⟩) (fun q => absurd (by rw [f3]; exact c) q))
          rw [nI_clamp (by omega), f3]
          exact s_X7_its (c := 0) (k := 21 + 4 * o) ho (by omega) (by omega) (s_X7_isUnder ⟨g0, fun q => ⟨iv, g1 q⟩⟩)
        exact ⟨fun q => X7 _ (fun _ => rfl) (fun w => absurd q w), fun q => X7 _ (fun w => absurd w q) (fun _ => rfl)⟩
  have BAD : ∀ s0, (inR x 4 → ¬ inR y 6 ∧ s0 = 0) → (∀ t v, t < 4 → x = nI t → v < 14 → y = nI v → 6 ≤ v ∧ v < 10) → p_X6_taken_N_J17 F gsv fs Fn An (fun r => p_X7_taken FM A x y (fun r' => r = r')) x y s0 := by
    intro s0 g0 g1
    have X : p_X7_taken FM A x y (fun r' => -1 = r') := by
      by_cases d : inR x 4 ∧ inR y 14
      · obtain ⟨⟨t, ht, e1⟩, ⟨v, hv, e2⟩⟩ := d
        have := g1 t v ht e1 hv e2
        subst e1 e2
        exact s_X7_taken ht hv (fun _ _ => rfl) (fun q => by omega)
      · exact tk_out d
    unfold p_X6_taken_N_J17
    by_cases c : inR x 4
    · obtain ⟨q1, q2⟩ := g0 c
      exact w1 (m := 4) c (by omega) (a1 ⟨fun q => absurd q2 q, fun _ => w0 (m := 6) q1 (by omega) (b0 X)⟩)
    · exact w0 (m := 4) c (by omega) (a0 X)
  have GO : ∀ s0, (∀ t, t < 4 → x = nI t → p_X6_taken_N_J41 F gsv fs Fn An (fun r => p_X7_taken FM A x y (fun r' => r = r')) x y s0) → ((s0 = 0 ∧ inR y 6) ∨ s0 = 1) → p_X6_taken_N_J17 F gsv fs Fn An (fun r => p_X7_taken FM A x y (fun r' => r = r')) x y s0 := by
    intro s0 g hs
    unfold p_X6_taken_N_J17
    by_cases c : inR x 4
    · obtain ⟨t, ht, e⟩ := id c
      refine w1 (m := 4) c (by omega) (a1 ⟨fun _ => g t ht e, fun q => ?_⟩)
      rcases hs with ⟨_, q6⟩ | q1
      · exact w1 (m := 6) q6 (by omega) (b1 (g t ht e))
      · rw [q] at q1; exact absurd q1 (by decide)
    · exact w0 (m := 4) c (by omega) (a0 (tk_out (fun q => c q.1)))
  have J16 : (∀ v, v < 14 → y = nI v → v < 10) → p_X6_taken_N_J16 F gsv fs Fn An (fun r => p_X7_taken FM A x y (fun r' => r = r')) x y := by
    intro g
    unfold p_X6_taken_N_J16
    by_cases d : inR y 6
    · obtain ⟨v, hv, e⟩ := id d
      exact GO 0 (fun t ht et => J41 t v 0 ht et (by omega) e (Or.inl ⟨rfl, hv⟩)) (Or.inl ⟨rfl, d⟩)
    · exact BAD 0 (fun _ => ⟨d, rfl⟩) (fun t v _ _ hv ev => ⟨by
        rcases Nat.lt_or_ge v 6 with w | w
        · exact absurd ⟨v, w, ev⟩ d
        · exact w, g v hv ev⟩)
  unfold p_X6_taken_N
  refine ⟨fun q => J16 (fun v hv e => ?_), fun q => ⟨fun w => J16 (fun v hv e => ?_), fun w => ?_⟩⟩
  · rw [e] at q; exact (nI_ltI (a := v) (b := 10) (by omega) (by omega)).mp q
  · rw [e] at w; have := (nI_leI (a := 14) (b := v) (by omega) (by omega)).mp w; omega
  · have y0 : ¬ y < 0 := fun u => q (by
      rw [Int32.lt_iff_toInt_lt] at u ⊢
      have e0 : (0 : Int32).toInt = 0 := by decide
      have e1 : (10 : Int32).toInt = 10 := by decide
      omega)
    obtain ⟨v, hv, rfl⟩ := nI_of y0
    have v10 : 10 ≤ v := by
      rcases Nat.lt_or_ge v 10 with u | u
      · exact absurd (nI_lt (a := v) (b := 10) u (by omega)) q
      · exact u
    have v14 : v < 14 := by
      rcases Nat.lt_or_ge v 14 with u | u
      · exact u
      · exact absurd (nI_le (a := 14) (b := v) u (by omega)) w
    exact GO 1 (fun t ht et => J41 t v 1 ht et v14 rfl (Or.inr ⟨rfl, v10⟩)) (Or.inr rfl)
theorem j_taken_R {F fs : tF} {gsv : tG} {FM : tF} {A : tA} {t : Nat} (ht : t < 4) {o n : Nat} {FR : tF} {AR : tA} (hg : gsv t = some o) (e19 : A 19 t = 2) (e20 : A 20 t = FR 0) (e21 : A 21 t = nI n) (y : Int32) : p_X6_taken_R F gsv o n FR AR fs (nI t) y (fun r => p_X7_taken FM A (nI t) y (fun r' => r = r')) := by
  have iv : vp_in (nI t) 4 := vp_in_nI ht (by omega)
  have c : inR (nI t) 4 := ⟨t, ht, rfl⟩
  have J41 : ∀ (v : Nat) (s0 : Int32), v < 14 → y = nI v → ((s0 = 0 ∧ v < 6) ∨ (s0 = 1 ∧ 10 ≤ v)) → p_X6_taken_R_J41 o n F gsv FR AR fs (fun r => p_X7_taken FM A (nI t) y (fun r' => r = r')) (nI t) y s0 := by
    rintro v s0 hv rfl hs
    unfold p_X6_taken_R_J41
    rw [nI_clamp (by omega)]
    refine ⟨iv, hg, iv, fun y1 _ => ⟨fun s1 => ?_, fun s1 => ⟨fun q => ?_, fun q => ?_⟩⟩⟩
    · have v6 : v < 6 := by
        rcases hs with ⟨_, q⟩ | ⟨q, _⟩
        · exact q
        · rw [s1] at q; exact absurd q (by decide)
      exact s_X7_taken ht hv (fun a b => by omega) (fun _ => heldOn_2 ht e19 ⟨fun _ => ⟨fun q => absurd q (nI_ge (a := v) (b := 10) (by omega) (by omega)), fun _ => ⟨fun _ => rfl, fun q => absurd q (by decide)⟩⟩, fun q => absurd q (by decide)⟩)
    all_goals
      have v10 : 10 ≤ v := by
        rcases hs with ⟨q, _⟩ | ⟨_, q⟩
        · exact absurd q s1
        · exact q
      refine s_X7_taken ht hv (fun a b => by omega) (fun _ => heldOn_2 ht e19 ⟨fun _ => ⟨fun _ => ⟨fun q => absurd rfl q, fun _ => ⟨iv, ?_⟩⟩, fun q => absurd (nI_le (a := 10) (b := v) v10 (by omega)) q⟩, fun q => absurd q (by decide)⟩)
      rw [nI_clamp (by omega), e20, e21]
    · exact ⟨fun _ => rfl, fun w => absurd w q⟩
    · exact ⟨fun w => absurd q w, fun _ => ⟨iv, rfl⟩⟩
  have J16 : (∀ v, v < 14 → y = nI v → v < 10) → p_X6_taken_R_J16 o n F gsv FR AR fs (fun r => p_X7_taken FM A (nI t) y (fun r' => r = r')) (nI t) y := by
    intro g
    unfold p_X6_taken_R_J16 p_X6_taken_R_J17
    refine w1 (m := 4) c (by omega) (a1 ⟨fun q => absurd rfl q, fun _ => ?_⟩)
    by_cases d : inR y 6
    · obtain ⟨v, hv, e⟩ := id d
      exact w1 (m := 6) d (by omega) (b1 (J41 v 0 (by omega) e (Or.inl ⟨rfl, hv⟩)))
    · refine w0 (m := 6) d (by omega) (b0 ?_)
      by_cases e : inR y 14
      · obtain ⟨v, hv, ev⟩ := e
        have := g v hv ev
        have v6 : 6 ≤ v := by
          rcases Nat.lt_or_ge v 6 with w | w
          · exact absurd ⟨v, w, ev⟩ d
          · exact w
        subst ev
        exact s_X7_taken ht hv (fun _ _ => rfl) (fun q => by omega)
      · exact tk_out (fun q => e q.2)
  unfold p_X6_taken_R
  refine ⟨fun q => J16 (fun v hv e => ?_), fun q => ⟨fun w => J16 (fun v hv e => ?_), fun w => ?_⟩⟩
  · rw [e] at q; exact (nI_ltI (a := v) (b := 10) (by omega) (by omega)).mp q
  · rw [e] at w; have := (nI_leI (a := 14) (b := v) (by omega) (by omega)).mp w; omega
  · have y0 : ¬ y < 0 := fun u => q (by
      rw [Int32.lt_iff_toInt_lt] at u ⊢
      have e0 : (0 : Int32).toInt = 0 := by decide
      have e1 : (10 : Int32).toInt = 10 := by decide
      omega)
    obtain ⟨v, hv, rfl⟩ := nI_of y0
    have v10 : 10 ≤ v := by
      rcases Nat.lt_or_ge v 10 with u | u
      · exact absurd (nI_lt (a := v) (b := 10) u (by omega)) q
      · exact u
    have v14 : v < 14 := by
      rcases Nat.lt_or_ge v 14 with u | u
      · exact u
      · exact absurd (nI_le (a := 14) (b := v) u (by omega)) w
    unfold p_X6_taken_R_J17
    exact w1 (m := 4) c (by omega) (a1 ⟨fun _ => J41 v 1 v14 rfl (Or.inr ⟨rfl, v10⟩), fun q => absurd q (by decide)⟩)
