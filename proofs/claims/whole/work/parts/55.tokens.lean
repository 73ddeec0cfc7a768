/-! the reference reads -/
def nB (B : Nat → Int32) (t q : Nat) (m : Int32) : Bool := decide (1 ≤ dE B t q - q) && decide (dE B t q - q ≤ 3) && decide (dvU B q (dE B t q - q) ≤ m)
theorem nB_iff {B : Nat → Int32} {t q : Nat} {m : Int32} : nB B t q m = true ↔ nOK B t q m := by
  unfold nB nOK
  rw [Bool.and_eq_true, Bool.and_eq_true, decide_eq_true_iff, decide_eq_true_iff, decide_eq_true_iff, and_assoc]
def Tok (B : Nat → Int32) (t : Nat) (F : tF) (q : Nat) : Prop := F 8 = nI q ∧ F 9 = nI (tE B t q) ∧ F 7 = tk B q ∧ F 10 = tV B t q
def fr5 (F0 : tF) (F : tF) : Prop := ∀ k, (k < 7 ∨ 11 < k) → F k = F0 k
def MT (t : Nat) (B : Nat → Int32) (F : tF) (A : tA) : Prop := F 6 = nI t ∧ ∀ k, k < t → A 5 k = B k
theorem s_byteAt {t : Nat} {B : Nat → Int32} (hB : TB t B) {F : tF} {A : tA} (h6 : F 6 = nI t) (h5 : ∀ k, k < t → A 5 k = B k) {i : Nat} (hi : i < 1000) {K : Int32 → Prop} (k : K (B i)) : p_X7_byteAt F A (nI i) K := by
  have ht := hB.1
  unfold p_X7_byteAt
  rw [h6]
  refine ⟨fun c => ?_, fun c => ?_⟩
  · have := (nI_leI (a := t) (b := i) (by omega) (by omega)).mp c
    rw [hB.2.2 i this] at k; exact k
  · have hl : i < t := by
      rcases Nat.lt_or_ge i t with w | w
      · exact w
      · exact absurd (nI_le w (by omega)) c
    rw [nI_clamp (by omega), h5 i hl]
    exact ⟨vp_in_nI (by omega) (by omega), k⟩
theorem s_isAlpha {x : Int32} {K : Int32 → Prop} (k : K (if cA x = true then 1 else 0)) : p_X7_isAlpha x K := by
  unfold p_X7_isAlpha
  refine ⟨fun c => ?_, fun c1 => ⟨fun c => ?_, fun c2 => ?_⟩⟩
  · rw [if_neg (fun q => (cA_t q).1 c)] at k; exact k
  · rw [if_neg (fun q => (cA_t q).2 c)] at k; exact k
  · rw [if_pos (cA_1 c1 c2)] at k; exact k
theorem s_isDigit {x : Int32} {K : Int32 → Prop} (k : K (if cD x = true then 1 else 0)) : p_X7_isDigit x K := by
  unfold p_X7_isDigit
  refine ⟨fun c => ?_, fun c1 => ⟨fun c => ?_, fun c2 => ?_⟩⟩
  · rw [if_neg (fun q => (cD_t q).1 c)] at k; exact k
  · rw [if_neg (fun q => (cD_t q).2 c)] at k; exact k
  · rw [if_pos (cD_1 c1 c2)] at k; exact k
theorem tE_le {B : Nat → Int32} {t q : Nat} (hB : TB t B) (hq : q ≤ t) : q ≤ tE B t q ∧ tE B t q ≤ t := by
  obtain ⟨a1, a2, _, _⟩ := rE_s (tb_t hB).2.1 hq
  obtain ⟨d1, d2, _, _⟩ := rE_s (tb_t hB).2.2 hq
  unfold tE
  split
  · exact ⟨a1, a2⟩
  · split
    · exact ⟨d1, d2⟩
    · split
      · rename_i h
        refine ⟨by omega, ?_⟩
        rcases Nat.lt_or_ge q t with w | w
        · omega
        · have hb := hB.2.2 q w
          unfold tk at h
          rw [hb, if_pos (by decide)] at h
          exact absurd h (by decide)
      · exact ⟨Nat.le_refl _, hq⟩
theorem tk_1 {B : Nat → Int32} {q : Nat} : tk B q = 1 ↔ cA (B q) = true := by
  unfold tk
  constructor
  · intro h
    split at h
    · exact absurd h (by decide)
    · split at h
      · assumption
      · split at h
        · exact absurd h (by decide)
        · exact absurd h (by decide)
  · intro h
    have h0 : ¬ B q < 0 := fun w => (cA_t h).1 (by
      rw [Int32.lt_iff_toInt_lt] at w ⊢
      have e0 : (0 : Int32).toInt = 0 := by decide
      have e1 : (97 : Int32).toInt = 97 := by decide
      omega)
    rw [if_neg h0, if_pos h]
theorem cD_nA {x : Int32} (h : cD x = true) : ¬ x < 0 ∧ ¬ cA x = true := by
  obtain ⟨h1, h2⟩ := cD_t h
  have e0 : (0 : Int32).toInt = 0 := by decide
  have e1 : (48 : Int32).toInt = 48 := by decide
  have e2 : (57 : Int32).toInt = 57 := by decide
  have e3 : (97 : Int32).toInt = 97 := by decide
  rw [Int32.lt_iff_toInt_lt, e1] at h1
  rw [Int32.lt_iff_toInt_lt, e2] at h2
  refine ⟨fun w => ?_, fun w => ?_⟩
  · rw [Int32.lt_iff_toInt_lt, e0] at w; omega
  · have := (cA_t w).1
    rw [Int32.lt_iff_toInt_lt, e3] at this; omega
theorem tk_2 {B : Nat → Int32} {q : Nat} : tk B q = 2 ↔ cD (B q) = true := by
  unfold tk
  constructor
  · intro h
    split at h
    · exact absurd h (by decide)
    · split at h
      · exact absurd h (by decide)
      · split at h
        · assumption
        · exact absurd h (by decide)
  · intro h
    rw [if_neg (cD_nA h).1, if_neg (cD_nA h).2, if_pos h]
theorem runE_0 {c : Int32 → Bool} {B : Nat → Int32} {t q : Nat} (h : ¬ c (B q) = true) : rE c B t q = q := by
  unfold rE
  rcases Nat.eq_zero_or_pos (t - q) with z | z
  · rw [z]; rfl
  · obtain ⟨n, hn⟩ : ∃ n, t - q = n + 1 := ⟨t - q - 1, by omega⟩
    rw [hn, runE, if_neg h]
theorem s_X7_nextToken {t : Nat} {B : Nat → Int32} (hB : TB t B) {F : tF} {A : tA} (h6 : F 6 = nI t) (h5 : ∀ k, k < t → A 5 k = B k) {p : Nat} (hp : p ≤ t) (e9 : F 9 = nI p) {K : tF → tA → Prop} (hk : ∀ F', Tok B t F' (skS B t p) → F' 11 = F 11 → fr5 F F' → K F' A) : p_X7_nextToken F A K := by
  have ht := hB.1
  obtain ⟨h1, h2, h3, h4⟩ := rE_s (tb_t hB).1 hp
  have hq : skS B t p ≤ t := h2
  obtain ⟨l1, l2, l3, l4⟩ := rE_s (tb_t hB).2.1 hq
  obtain ⟨d1, d2, d3, d4⟩ := rE_s (tb_t hB).2.2 hq
  have l4 : cA (B (aE B t (skS B t p))) = false := l4
  have d4 : cD (B (dE B t (skS B t p))) = false := d4
  have a1' : skS B t p ≤ aE B t (skS B t p) := l1
  have a2' : aE B t (skS B t p) ≤ t := l2
  have d1' : skS B t p ≤ dE B t (skS B t p) := d1
  have d2' : dE B t (skS B t p) ≤ t := d2
  unfold p_X7_nextToken
  intro y hy
  rw [e9] at hy
  -- behind the token
  have J201 : ∀ F', F' 8 = nI (skS B t p) → F' 7 = tk B (skS B t p) → F' 10 = tV B t (skS B t p) → F' 11 = F 11 → fr5 F F' → F' 9 = (if tk B (skS B t p) = 1 then nI (aE B t (skS B t p)) else if tk B (skS B t p) = 2 then nI (dE B t (skS B t p)) else nI (skS B t p)) → p_X7_nextToken_J201 F' A K := by
    intro F' g8 g7 g10 g11 go g9
    unfold p_X7_nextToken_J201
    rw [g7]
    have T : ∀ z, z = nI (tE B t (skS B t p)) → K (upd F' 9 z) A := fun z hz => hk _ ⟨by rw [pk_un (by omega)]; exact g8, by rw [pk_us]; exact hz, by rw [pk_un (by omega)]; exact g7, by rw [pk_un (by omega)]; exact g10⟩ (by rw [pk_un (by omega)]; exact g11) (fun k hk => by rw [pk_un (by omega)]; exact go k hk)
    have tkv : tk B (skS B t p) = 0 ∨ tk B (skS B t p) = 1 ∨ tk B (skS B t p) = 2 ∨ tk B (skS B t p) = 3 := by
      unfold tk
      split
      · exact Or.inl rfl
      · split
        · exact Or.inr (Or.inl rfl)
        · split
          · exact Or.inr (Or.inr (Or.inl rfl))
          · exact Or.inr (Or.inr (Or.inr rfl))
    refine ⟨fun c z hz => T z ?_, fun c z hz => T z ?_⟩
    · rw [hz, g9]
      unfold tE
      rcases tkv with e | e | e | e <;> rw [e] at c ⊢
      · exact Int32.add_zero _
      · exact Int32.add_zero _
      · exact Int32.add_zero _
      · exact absurd c (by decide)
    · rw [hz, g9]
      unfold tE
      rcases tkv with e | e | e | e <;> rw [e] at c ⊢
      · exact absurd (by decide) c
      · exact absurd (by decide) c
      · exact absurd (by decide) c
      · exact nI_1 _
  have J83 : ∀ F' s0, s0 = tk B (skS B t p) → F' 8 = nI (skS B t p) → F' 9 = nI (skS B t p) → F' 11 = F 11 → fr5 F F' → p_X7_nextToken_J83 F' A K s0 := by
    intro F' s0 hs g8 g9 g11 go
    unfold p_X7_nextToken_J83
    have f6 : ∀ F'' : tF, fr5 F F'' → F'' 6 = nI t := fun F'' g => by rw [g 6 (Or.inl (by omega))]; exact h6
    -- digits, where letters are none
    have L126 : ∀ F'', F'' 8 = nI (skS B t p) → F'' 7 = tk B (skS B t p) → F'' 10 = 0 → F'' 11 = F 11 → fr5 F F'' → F'' 9 = (if tk B (skS B t p) = 1 then nI (aE B t (skS B t p)) else nI (skS B t p)) → ∃ n, p_X7_nextToken_L126 K n F'' A := by
      intro F'' k8 k7 k10 k11 ko k9
      by_cases c2 : tk B (skS B t p) = 2
      · have n1 : ¬ tk B (skS B t p) = 1 := by rw [c2]; decide
        rw [if_neg n1] at k9
        refine lq1 (fun n F3 => p_X7_nextToken_L126 K n F3 A) (fun i F3 => F3 8 = nI (skS B t p) ∧ F3 7 = 2 ∧ F3 10 = dvU B (skS B t p) (i - skS B t p) ∧ F3 11 = F 11 ∧ fr5 F F3 ∧ F3 9 = nI i) (dE B t (skS B t p)) (skS B t p) d1' ?_ ?_ ⟨k8, by rw [k7]; exact c2, by rw [Nat.sub_self]; exact k10, k11, ko, k9⟩
        · rintro n F3 ⟨l8, l7, l10, l11, lo, l9⟩
          show p_X7_nextToken_L126 K (n + 1) F3 A
          rw [p_X7_nextToken_L126, l9]
          refine ⟨fun q => absurd l7 q, fun _ => s_byteAt hB (f6 F3 lo) h5 (by omega) (s_isDigit ?_)⟩
          rw [if_neg (b_not d4)]
          refine a0 (J201 F3 l8 (by rw [l7, c2]) ?_ l11 lo (by rw [l9, if_neg n1, if_pos c2]))
          rw [l10]; unfold tV; rw [if_pos c2]
        · rintro n i F3 g1 g2 ⟨l8, l7, l10, l11, lo, l9⟩ ih
          show p_X7_nextToken_L126 K (n + 1) F3 A
          rw [p_X7_nextToken_L126, l9]
          refine ⟨fun q => absurd l7 q, fun _ => s_byteAt hB (f6 F3 lo) h5 (by omega) (s_isDigit ?_)⟩
          rw [if_pos (d3 i g1 g2)]
          have es : i + 1 - skS B t p = (i - skS B t p) + 1 := by omega
          have eb : skS B t p + (i - skS B t p) = i := by omega
          have J185 : ∀ z, z = dvU B (skS B t p) (i + 1 - skS B t p) → p_X7_nextToken_J185 F3 A (p_X7_nextToken_L126 K n) K z := by
            intro z hz
            unfold p_X7_nextToken_J185
            rw [l9]
            exact fun y hy => ih _ ⟨by rw [pk_un (by omega), pk_un (by omega)]; exact l8, by rw [pk_un (by omega), pk_un (by omega)]; exact l7, by rw [pk_un (by omega), pk_us]; exact hz, by rw [pk_un (by omega), pk_un (by omega)]; exact l11, fun k hk => by rw [pk_un (by omega), pk_un (by omega)]; exact lo k hk, by rw [pk_us, hy]; exact nI_1 _⟩
          refine a1 ⟨fun q => s_byteAt hB (f6 F3 lo) h5 (by omega) (J185 _ ?_), fun q => J185 _ ?_⟩
          · rw [l10] at q ⊢
            rw [es, dvU, if_neg (Int32.not_lt.mpr q), eb]
          · rw [l10] at q ⊢
            rw [es, dvU, if_pos (Int32.not_le.mp q)]
      · refine ⟨1, ?_⟩
        rw [p_X7_nextToken_L126, k7]
        refine ⟨fun _ => J201 F'' k8 k7 ?_ k11 ko ?_, fun q => absurd q c2⟩
        · rw [k10]; unfold tV; rw [if_neg c2]
        · rw [k9]
          by_cases c1 : tk B (skS B t p) = 1
          · rw [if_pos c1, if_pos c1]
          · rw [if_neg c1, if_neg c1, if_neg c2]
    by_cases c1 : tk B (skS B t p) = 1
    · refine lq1 (fun n F3 => p_X7_nextToken_L91 K n F3 A) (fun i F3 => F3 8 = nI (skS B t p) ∧ F3 7 = 1 ∧ F3 10 = 0 ∧ F3 11 = F 11 ∧ fr5 F F3 ∧ F3 9 = nI i) (aE B t (skS B t p)) (skS B t p) a1' ?_ ?_ ⟨by rw [pk_un (by omega), pk_un (by omega)]; exact g8, by rw [pk_un (by omega), pk_us, hs, c1], pk_us, by rw [pk_un (by omega), pk_un (by omega)]; exact g11, fun k hk => by rw [pk_un (by omega), pk_un (by omega)]; exact go k hk, by rw [pk_un (by omega), pk_un (by omega)]; exact g9⟩
      · rintro n F3 ⟨l8, l7, l10, l11, lo, l9⟩
        show p_X7_nextToken_L91 K (n + 1) F3 A
        rw [p_X7_nextToken_L91, l9]
        refine ⟨fun q => absurd l7 q, fun _ => s_byteAt hB (f6 F3 lo) h5 (by omega) (s_isAlpha ?_)⟩
        rw [if_neg (b_not l4)]
        exact a0 (L126 F3 l8 (by rw [l7, c1]) l10 l11 lo (by rw [l9, if_pos c1]))
      · rintro n i F3 g1 g2 ⟨l8, l7, l10, l11, lo, l9⟩ ih
        show p_X7_nextToken_L91 K (n + 1) F3 A
        rw [p_X7_nextToken_L91, l9]
        refine ⟨fun q => absurd l7 q, fun _ => s_byteAt hB (f6 F3 lo) h5 (by omega) (s_isAlpha ?_)⟩
        rw [if_pos (l3 i g1 g2)]
        exact a1 (fun y hy => ih _ ⟨by rw [pk_un (by omega)]; exact l8, by rw [pk_un (by omega)]; exact l7, by rw [pk_un (by omega)]; exact l10, by rw [pk_un (by omega)]; exact l11, fun k hk => by rw [pk_un (by omega)]; exact lo k hk, by rw [pk_us, hy]; exact nI_1 _⟩)
    · refine ⟨1, ?_⟩
      rw [p_X7_nextToken_L91]
      refine ⟨fun _ => L126 _ (by rw [pk_un (by omega), pk_un (by omega)]; exact g8) (by rw [pk_un (by omega), pk_us, hs]) pk_us (by rw [pk_un (by omega), pk_un (by omega)]; exact g11) (fun k hk => by rw [pk_un (by omega), pk_un (by omega)]; exact go k hk) ?_, fun q => ?_⟩
      · rw [pk_un (by omega), pk_un (by omega), if_neg c1]; exact g9
      · rw [pk_un (by omega), pk_us, hs] at q; exact absurd q c1
  refine lq1 (fun n F' => p_X7_nextToken_L8 K n F' A) (fun i F' => F' 8 = nI i ∧ (∀ k, k ≠ 8 → F' k = F k)) (skS B t p) p h1 ?_ ?_ ⟨by rw [pk_us]; exact hy, fun k hk => pk_un hk⟩
  · rintro n F' ⟨g8, go⟩
    show p_X7_nextToken_L8 K (n + 1) F' A
    rw [p_X7_nextToken_L8, g8]
    have i6 : F' 6 = nI t := by rw [go 6 (by omega)]; exact h6
    refine s_byteAt hB i6 h5 (by omega) ⟨fun _ y2 hy2 => s_byteAt hB (by rw [pk_un (by omega)]; exact i6) h5 (by omega) ?_, fun q => absurd (cS_t.mpr q) (b_not h4)⟩
    have G : ∀ s0, s0 = tk B (skS B t p) → p_X7_nextToken_J83 (upd F' 9 y2) A K s0 := fun s0 hs => J83 _ s0 hs (by rw [pk_un (by omega)]; exact g8) (by rw [pk_us]; exact hy2) (by rw [pk_un (by omega)]; exact go 11 (by omega)) (fun k hk => by rw [pk_un (by omega)]; exact go k (by omega))
    refine ⟨fun q0 => s_isAlpha ?_, fun q0 => G 0 ?_⟩
    · by_cases ca : cA (B (skS B t p)) = true
      · rw [if_pos ca]; exact a1 (G 1 (tk_1.mpr ca).symm)
      · rw [if_neg ca]
        refine a0 (s_isDigit ?_)
        by_cases cd : cD (B (skS B t p)) = true
        · rw [if_pos cd]; exact a1 (G 2 (tk_2.mpr cd).symm)
        · rw [if_neg cd]
          refine a0 (G 3 ?_)
          unfold tk
          rw [if_neg (Int32.not_lt.mpr q0), if_neg ca, if_neg cd]
    · unfold tk
      rw [if_pos (Int32.not_le.mp q0)]
  · rintro n i F' g1 g2 ⟨g8, go⟩ ih
    show p_X7_nextToken_L8 K (n + 1) F' A
    rw [p_X7_nextToken_L8, g8]
    exact s_byteAt hB (by rw [go 6 (by omega)]; exact h6) h5 (by omega) ⟨fun q => absurd (cS_t.mp (h3 i g1 g2)) q, fun _ y2 hy2 => ih _ ⟨by rw [pk_us, hy2]; exact nI_1 _, fun k hk => by rw [pk_un hk]; exact go k hk⟩⟩
/-! words, letter by letter -/
theorem aE_pos {B : Nat → Int32} {t q : Nat} (h : 1 ≤ aE B t q - q) : tk B q = 1 := by
  rw [tk_1]
  cases c : cA (B q) with
  | true => rfl
  | false =>
    have : aE B t q = q := runE_0 (b_not c)
    omega
theorem wi_0 {B : Nat → Int32} {t q : Nat} : wdB B t q 0 = true ↔ (tk B q = 1 ∧ aE B t q = q + 3 ∧ B q = 101 ∧ B (q + 1) = 119 ∧ B (q + 2) = 101) := by
  rw [wdB_iff]
  have el : sLn 0 = 3 := rfl
  rw [el]
  constructor
  · rintro ⟨h1, h2⟩
    exact ⟨aE_pos (t := t) (by omega), by omega, h2 0 (by omega), h2 1 (by omega), h2 2 (by omega)⟩
  · rintro ⟨h0, h1, e0, e1, e2⟩
    refine ⟨by omega, fun k hk => ?_⟩
    rcases (show k = 0 ∨ k = 1 ∨ k = 2 by omega) with rfl | rfl | rfl
    · exact e0
    · exact e1
    · exact e2
theorem wi_1 {B : Nat → Int32} {t q : Nat} : wdB B t q 1 = true ↔ (tk B q = 1 ∧ aE B t q = q + 4 ∧ B q = 104 ∧ B (q + 1) = 111 ∧ B (q + 2) = 103 ∧ B (q + 3) = 103) := by
  rw [wdB_iff]
  have el : sLn 1 = 4 := rfl
  rw [el]
  constructor
  · rintro ⟨h1, h2⟩
    exact ⟨aE_pos (t := t) (by omega), by omega, h2 0 (by omega), h2 1 (by omega), h2 2 (by omega), h2 3 (by omega)⟩
  · rintro ⟨h0, h1, e0, e1, e2, e3⟩
    refine ⟨by omega, fun k hk => ?_⟩
    rcases (show k = 0 ∨ k = 1 ∨ k = 2 ∨ k = 3 by omega) with rfl | rfl | rfl | rfl
    · exact e0
    · exact e1
    · exact e2
    · exact e3
theorem wi_2 {B : Nat → Int32} {t q : Nat} : wdB B t q 2 = true ↔ (tk B q = 1 ∧ aE B t q = q + 6 ∧ B q = 119 ∧ B (q + 1) = 101 ∧ B (q + 2) = 116 ∧ B (q + 3) = 104 ∧ B (q + 4) = 101 ∧ B (q + 5) = 114) := by
  rw [wdB_iff]
  have el : sLn 2 = 6 := rfl
  rw [el]
  constructor
  · rintro ⟨h1, h2⟩
    exact ⟨aE_pos (t := t) (by omega), by omega, h2 0 (by omega), h2 1 (by omega), h2 2 (by omega), h2 3 (by omega), h2 4 (by omega), h2 5 (by omega)⟩
  · rintro ⟨h0, h1, e0, e1, e2, e3, e4, e5⟩
    refine ⟨by omega, fun k hk => ?_⟩
    rcases (show k = 0 ∨ k = 1 ∨ k = 2 ∨ k = 3 ∨ k = 4 ∨ k = 5 by omega) with rfl | rfl | rfl | rfl | rfl | rfl
    · exact e0
    · exact e1
    · exact e2
    · exact e3
    · exact e4
    · exact e5
theorem wi_3 {B : Nat → Int32} {t q : Nat} : wdB B t q 3 = true ↔ (tk B q = 1 ∧ aE B t q = q + 6 ∧ B q = 103 ∧ B (q + 1) = 105 ∧ B (q + 2) = 109 ∧ B (q + 3) = 109 ∧ B (q + 4) = 101 ∧ B (q + 5) = 114) := by
  rw [wdB_iff]
  have el : sLn 3 = 6 := rfl
  rw [el]
  constructor
  · rintro ⟨h1, h2⟩
    exact ⟨aE_pos (t := t) (by omega), by omega, h2 0 (by omega), h2 1 (by omega), h2 2 (by omega), h2 3 (by omega), h2 4 (by omega), h2 5 (by omega)⟩
  · rintro ⟨h0, h1, e0, e1, e2, e3, e4, e5⟩
    refine ⟨by omega, fun k hk => ?_⟩
    rcases (show k = 0 ∨ k = 1 ∨ k = 2 ∨ k = 3 ∨ k = 4 ∨ k = 5 by omega) with rfl | rfl | rfl | rfl | rfl | rfl
    · exact e0
    · exact e1
    · exact e2
    · exact e3
    · exact e4
    · exact e5
theorem wi_4 {B : Nat → Int32} {t q : Nat} : wdB B t q 4 = true ↔ (tk B q = 1 ∧ aE B t q = q + 10 ∧ B q = 98 ∧ B (q + 1) = 101 ∧ B (q + 2) = 108 ∧ B (q + 3) = 108 ∧ B (q + 4) = 119 ∧ B (q + 5) = 101 ∧ B (q + 6) = 116 ∧ B (q + 7) = 104 ∧ B (q + 8) = 101 ∧ B (q + 9) = 114) := by
  rw [wdB_iff]
  have el : sLn 4 = 10 := rfl
  rw [el]
  constructor
  · rintro ⟨h1, h2⟩
    exact ⟨aE_pos (t := t) (by omega), by omega, h2 0 (by omega), h2 1 (by omega), h2 2 (by omega), h2 3 (by omega), h2 4 (by omega), h2 5 (by omega), h2 6 (by omega), h2 7 (by omega), h2 8 (by omega), h2 9 (by omega)⟩
  · rintro ⟨h0, h1, e0, e1, e2, e3, e4, e5, e6, e7, e8, e9⟩
    refine ⟨by omega, fun k hk => ?_⟩
    rcases (show k = 0 ∨ k = 1 ∨ k = 2 ∨ k = 3 ∨ k = 4 ∨ k = 5 ∨ k = 6 ∨ k = 7 ∨ k = 8 ∨ k = 9 by omega) with rfl | rfl | rfl | rfl | rfl | rfl | rfl | rfl | rfl | rfl
    · exact e0
    · exact e1
    · exact e2
    · exact e3
    · exact e4
    · exact e5
    · exact e6
    · exact e7
    · exact e8
    · exact e9
theorem wi_5 {B : Nat → Int32} {t q : Nat} : wdB B t q 5 = true ↔ (tk B q = 1 ∧ aE B t q = q + 3 ∧ B q = 116 ∧ B (q + 1) = 117 ∧ B (q + 2) = 112) := by
  rw [wdB_iff]
  have el : sLn 5 = 3 := rfl
  rw [el]
  constructor
  · rintro ⟨h1, h2⟩
    exact ⟨aE_pos (t := t) (by omega), by omega, h2 0 (by omega), h2 1 (by omega), h2 2 (by omega)⟩
  · rintro ⟨h0, h1, e0, e1, e2⟩
    refine ⟨by omega, fun k hk => ?_⟩
    rcases (show k = 0 ∨ k = 1 ∨ k = 2 by omega) with rfl | rfl | rfl
    · exact e0
    · exact e1
    · exact e2
theorem wi_6 {B : Nat → Int32} {t q : Nat} : wdB B t q 6 = true ↔ (tk B q = 1 ∧ aE B t q = q + 3 ∧ B q = 101 ∧ B (q + 1) = 97 ∧ B (q + 2) = 114) := by
  rw [wdB_iff]
  have el : sLn 6 = 3 := rfl
  rw [el]
  constructor
  · rintro ⟨h1, h2⟩
    exact ⟨aE_pos (t := t) (by omega), by omega, h2 0 (by omega), h2 1 (by omega), h2 2 (by omega)⟩
  · rintro ⟨h0, h1, e0, e1, e2⟩
    refine ⟨by omega, fun k hk => ?_⟩
    rcases (show k = 0 ∨ k = 1 ∨ k = 2 by omega) with rfl | rfl | rfl
    · exact e0
    · exact e1
    · exact e2
theorem wi_7 {B : Nat → Int32} {t q : Nat} : wdB B t q 7 = true ↔ (tk B q = 1 ∧ aE B t q = q + 4 ∧ B q = 102 ∧ B (q + 1) = 101 ∧ B (q + 2) = 97 ∧ B (q + 3) = 114) := by
  rw [wdB_iff]
  have el : sLn 7 = 4 := rfl
  rw [el]
  constructor
  · rintro ⟨h1, h2⟩
    exact ⟨aE_pos (t := t) (by omega), by omega, h2 0 (by omega), h2 1 (by omega), h2 2 (by omega), h2 3 (by omega)⟩
  · rintro ⟨h0, h1, e0, e1, e2, e3⟩
    refine ⟨by omega, fun k hk => ?_⟩
    rcases (show k = 0 ∨ k = 1 ∨ k = 2 ∨ k = 3 by omega) with rfl | rfl | rfl | rfl
    · exact e0
    · exact e1
    · exact e2
    · exact e3
theorem wi_8 {B : Nat → Int32} {t q : Nat} : wdB B t q 8 = true ↔ (tk B q = 1 ∧ aE B t q = q + 4 ∧ B q = 108 ∧ B (q + 1) = 111 ∧ B (q + 2) = 111 ∧ B (q + 3) = 107) := by
  rw [wdB_iff]
  have el : sLn 8 = 4 := rfl
  rw [el]
  constructor
  · rintro ⟨h1, h2⟩
    exact ⟨aE_pos (t := t) (by omega), by omega, h2 0 (by omega), h2 1 (by omega), h2 2 (by omega), h2 3 (by omega)⟩
  · rintro ⟨h0, h1, e0, e1, e2, e3⟩
    refine ⟨by omega, fun k hk => ?_⟩
    rcases (show k = 0 ∨ k = 1 ∨ k = 2 ∨ k = 3 by omega) with rfl | rfl | rfl | rfl
    · exact e0
    · exact e1
    · exact e2
    · exact e3
theorem wi_9 {B : Nat → Int32} {t q : Nat} : wdB B t q 9 = true ↔ (tk B q = 1 ∧ aE B t q = q + 5 ∧ B q = 103 ∧ B (q + 1) = 114 ∧ B (q + 2) = 97 ∧ B (q + 3) = 115 ∧ B (q + 4) = 115) := by
  rw [wdB_iff]
  have el : sLn 9 = 5 := rfl
  rw [el]
  constructor
  · rintro ⟨h1, h2⟩
    exact ⟨aE_pos (t := t) (by omega), by omega, h2 0 (by omega), h2 1 (by omega), h2 2 (by omega), h2 3 (by omega), h2 4 (by omega)⟩
  · rintro ⟨h0, h1, e0, e1, e2, e3, e4⟩
    refine ⟨by omega, fun k hk => ?_⟩
    rcases (show k = 0 ∨ k = 1 ∨ k = 2 ∨ k = 3 ∨ k = 4 by omega) with rfl | rfl | rfl | rfl | rfl
    · exact e0
    · exact e1
    · exact e2
    · exact e3
    · exact e4
theorem wi_10 {B : Nat → Int32} {t q : Nat} : wdB B t q 10 = true ↔ (tk B q = 1 ∧ aE B t q = q + 2 ∧ B q = 105 ∧ B (q + 1) = 115) := by
  rw [wdB_iff]
  have el : sLn 10 = 2 := rfl
  rw [el]
  constructor
  · rintro ⟨h1, h2⟩
    exact ⟨aE_pos (t := t) (by omega), by omega, h2 0 (by omega), h2 1 (by omega)⟩
  · rintro ⟨h0, h1, e0, e1⟩
    refine ⟨by omega, fun k hk => ?_⟩
    rcases (show k = 0 ∨ k = 1 by omega) with rfl | rfl
    · exact e0
    · exact e1
theorem wi_11 {B : Nat → Int32} {t q : Nat} : wdB B t q 11 = true ↔ (tk B q = 1 ∧ aE B t q = q + 4 ∧ B q = 114 ∧ B (q + 1) = 105 ∧ B (q + 2) = 115 ∧ B (q + 3) = 107) := by
  rw [wdB_iff]
  have el : sLn 11 = 4 := rfl
  rw [el]
  constructor
  · rintro ⟨h1, h2⟩
    exact ⟨aE_pos (t := t) (by omega), by omega, h2 0 (by omega), h2 1 (by omega), h2 2 (by omega), h2 3 (by omega)⟩
  · rintro ⟨h0, h1, e0, e1, e2, e3⟩
    refine ⟨by omega, fun k hk => ?_⟩
    rcases (show k = 0 ∨ k = 1 ∨ k = 2 ∨ k = 3 by omega) with rfl | rfl | rfl | rfl
    · exact e0
    · exact e1
    · exact e2
    · exact e3
theorem wi_12 {B : Nat → Int32} {t q : Nat} : wdB B t q 12 = true ↔ (tk B q = 1 ∧ aE B t q = q + 5 ∧ B q = 102 ∧ B (q + 1) = 108 ∧ B (q + 2) = 111 ∧ B (q + 3) = 99 ∧ B (q + 4) = 107) := by
  rw [wdB_iff]
  have el : sLn 12 = 5 := rfl
  rw [el]
  constructor
  · rintro ⟨h1, h2⟩
    exact ⟨aE_pos (t := t) (by omega), by omega, h2 0 (by omega), h2 1 (by omega), h2 2 (by omega), h2 3 (by omega), h2 4 (by omega)⟩
  · rintro ⟨h0, h1, e0, e1, e2, e3, e4⟩
    refine ⟨by omega, fun k hk => ?_⟩
    rcases (show k = 0 ∨ k = 1 ∨ k = 2 ∨ k = 3 ∨ k = 4 by omega) with rfl | rfl | rfl | rfl | rfl
    · exact e0
    · exact e1
    · exact e2
    · exact e3
    · exact e4
theorem wi_13 {B : Nat → Int32} {t q : Nat} : wdB B t q 13 = true ↔ (tk B q = 1 ∧ aE B t q = q + 4 ∧ B q = 99 ∧ B (q + 1) = 97 ∧ B (q + 2) = 108 ∧ B (q + 3) = 108) := by
  rw [wdB_iff]
  have el : sLn 13 = 4 := rfl
  rw [el]
  constructor
  · rintro ⟨h1, h2⟩
    exact ⟨aE_pos (t := t) (by omega), by omega, h2 0 (by omega), h2 1 (by omega), h2 2 (by omega), h2 3 (by omega)⟩
  · rintro ⟨h0, h1, e0, e1, e2, e3⟩
    refine ⟨by omega, fun k hk => ?_⟩
    rcases (show k = 0 ∨ k = 1 ∨ k = 2 ∨ k = 3 by omega) with rfl | rfl | rfl | rfl
    · exact e0
    · exact e1
    · exact e2
    · exact e3
theorem wi_14 {B : Nat → Int32} {t q : Nat} : wdB B t q 14 = true ↔ (tk B q = 1 ∧ aE B t q = q + 5 ∧ B q = 114 ∧ B (q + 1) = 105 ∧ B (q + 2) = 118 ∧ B (q + 3) = 101 ∧ B (q + 4) = 114) := by
  rw [wdB_iff]
  have el : sLn 14 = 5 := rfl
  rw [el]
  constructor
  · rintro ⟨h1, h2⟩
    exact ⟨aE_pos (t := t) (by omega), by omega, h2 0 (by omega), h2 1 (by omega), h2 2 (by omega), h2 3 (by omega), h2 4 (by omega)⟩
  · rintro ⟨h0, h1, e0, e1, e2, e3, e4⟩
    refine ⟨by omega, fun k hk => ?_⟩
    rcases (show k = 0 ∨ k = 1 ∨ k = 2 ∨ k = 3 ∨ k = 4 by omega) with rfl | rfl | rfl | rfl | rfl
    · exact e0
    · exact e1
    · exact e2
    · exact e3
    · exact e4
theorem wi_15 {B : Nat → Int32} {t q : Nat} : wdB B t q 15 = true ↔ (tk B q = 1 ∧ aE B t q = q + 7 ∧ B q = 119 ∧ B (q + 1) = 104 ∧ B (q + 2) = 105 ∧ B (q + 3) = 115 ∧ B (q + 4) = 116 ∧ B (q + 5) = 108 ∧ B (q + 6) = 101) := by
  rw [wdB_iff]
  have el : sLn 15 = 7 := rfl
  rw [el]
  constructor
  · rintro ⟨h1, h2⟩
    exact ⟨aE_pos (t := t) (by omega), by omega, h2 0 (by omega), h2 1 (by omega), h2 2 (by omega), h2 3 (by omega), h2 4 (by omega), h2 5 (by omega), h2 6 (by omega)⟩
  · rintro ⟨h0, h1, e0, e1, e2, e3, e4, e5, e6⟩
    refine ⟨by omega, fun k hk => ?_⟩
    rcases (show k = 0 ∨ k = 1 ∨ k = 2 ∨ k = 3 ∨ k = 4 ∨ k = 5 ∨ k = 6 by omega) with rfl | rfl | rfl | rfl | rfl | rfl | rfl
    · exact e0
    · exact e1
    · exact e2
    · exact e3
    · exact e4
    · exact e5
    · exact e6
theorem wi_16 {B : Nat → Int32} {t q : Nat} : wdB B t q 16 = true ↔ (tk B q = 1 ∧ aE B t q = q + 4 ∧ B q = 102 ∧ B (q + 1) = 111 ∧ B (q + 2) = 111 ∧ B (q + 3) = 100) := by
  rw [wdB_iff]
  have el : sLn 16 = 4 := rfl
  rw [el]
  constructor
  · rintro ⟨h1, h2⟩
    exact ⟨aE_pos (t := t) (by omega), by omega, h2 0 (by omega), h2 1 (by omega), h2 2 (by omega), h2 3 (by omega)⟩
  · rintro ⟨h0, h1, e0, e1, e2, e3⟩
    refine ⟨by omega, fun k hk => ?_⟩
    rcases (show k = 0 ∨ k = 1 ∨ k = 2 ∨ k = 3 by omega) with rfl | rfl | rfl | rfl
    · exact e0
    · exact e1
    · exact e2
    · exact e3
theorem wi_17 {B : Nat → Int32} {t q : Nat} : wdB B t q 17 = true ↔ (tk B q = 1 ∧ aE B t q = q + 5 ∧ B q = 119 ∧ B (q + 1) = 114 ∧ B (q + 2) = 111 ∧ B (q + 3) = 110 ∧ B (q + 4) = 103) := by
  rw [wdB_iff]
  have el : sLn 17 = 5 := rfl
  rw [el]
  constructor
  · rintro ⟨h1, h2⟩
    exact ⟨aE_pos (t := t) (by omega), by omega, h2 0 (by omega), h2 1 (by omega), h2 2 (by omega), h2 3 (by omega), h2 4 (by omega)⟩
  · rintro ⟨h0, h1, e0, e1, e2, e3, e4⟩
    refine ⟨by omega, fun k hk => ?_⟩
    rcases (show k = 0 ∨ k = 1 ∨ k = 2 ∨ k = 3 ∨ k = 4 by omega) with rfl | rfl | rfl | rfl | rfl
    · exact e0
    · exact e1
    · exact e2
    · exact e3
    · exact e4
theorem wd_ex : ∀ a, a < 18 → ∀ b, b < 18 → a ≠ b → sLn a ≠ sLn b ∨ ∃ k, k < 10 ∧ k < sLn a ∧ k < sLn b ∧ sCh a k ≠ sCh b k := by decide +kernel
theorem wd_one {B : Nat → Int32} {t q a b : Nat} (ha : a < 18) (hb : b < 18) (h1 : wdB B t q a = true) (h2 : a ≠ b) : ¬ wdB B t q b = true := by
  intro h3
  obtain ⟨a1, a2⟩ := wdB_iff.mp h1
  obtain ⟨b1, b2⟩ := wdB_iff.mp h3
  rcases wd_ex a ha b hb h2 with q | ⟨k, _, ka, kb, q⟩
  · exact q (by rw [← a1, ← b1])
  · exact q (by rw [← a2 k ka, ← b2 k kb])
/-! the reference's tests of names -/
def nmP (B : Nat → Int32) (t q l : Nat) (a b c d : Int32) : Prop := tk B q = 1 ∧ aE B t q = q + l ∧ B q = a ∧ B (q + 1) = b ∧ B (q + 2) = c ∧ B (q + l - 1) = d
theorem s_isName {t : Nat} {B : Nat → Int32} (hB : TB t B) {F : tF} {A : tA} (h6 : F 6 = nI t) (h5 : ∀ k, k < t → A 5 k = B k) {q : Nat} (hq : q ≤ t) (hT : Tok B t F q) {l : Nat} (hl : 1 ≤ l) (hl2 : l < 20) {a b c d : Int32} {K : Int32 → Prop} (h1 : nmP B t q l a b c d → K 1) (h0 : ¬ nmP B t q l a b c d → K 0) : p_X7_isName F A (nI l) a b c d K := by
  have ht := hB.1
  obtain ⟨g8, g9, g7, _⟩ := hT
  obtain ⟨t1, t2⟩ := tE_le hB hq
  have s9 : nI (tE B t q) - nI q = nI (tE B t q - q) := pk_sub t1
  have i1 : nI q + (1 : Int32) = nI (q + 1) := nI_add q 1
  have i2 : nI q + (2 : Int32) = nI (q + 2) := nI_add q 2
  unfold p_X7_isName
  rw [g7, g8, g9, s9, nI_eq (by omega) (by omega), i1, i2]
  refine ⟨fun w => h0 (fun n => w n.1), fun k1 => ?_⟩
  have et : tE B t q = aE B t q := by unfold tE; rw [if_pos k1]
  rw [et] at t1 t2 ⊢
  refine ⟨fun w => h0 (fun n => w (by rw [n.2.1]; omega)), fun k2 => ?_⟩
  have ea : aE B t q = q + l := by omega
  have s1 : nI (aE B t q) - (1 : Int32) = nI (q + l - 1) := by rw [ea]; exact pk_sub (a := q + l) (b := 1) (by omega)
  rw [s1]
  exact s_byteAt hB h6 h5 (by omega) ⟨fun w => h0 (fun n => w n.2.2.1), fun k3 => s_byteAt hB h6 h5 (by omega) ⟨fun w => h0 (fun n => w n.2.2.2.1), fun k4 => s_byteAt hB h6 h5 (by omega) ⟨fun w => h0 (fun n => w n.2.2.2.2.1), fun k5 => s_byteAt hB h6 h5 (by omega) ⟨fun w => h0 (fun n => w n.2.2.2.2.2), fun k6 => h1 ⟨k1, ea, k3, k4, k5, k6⟩⟩⟩⟩⟩
theorem s_isSame {t : Nat} {B : Nat → Int32} (hB : TB t B) {F : tF} {A : tA} (h6 : F 6 = nI t) (h5 : ∀ k, k < t → A 5 k = B k) {q : Nat} (hq : q ≤ t) (hT : Tok B t F q) {i : Nat} (hi : i < 20) {a b c : Int32} {K : Int32 → Prop} (h1 : B (q + i) = a → B (q + i + 1) = b → B (q + i + 2) = c → K 1) (h0 : ¬ (B (q + i) = a ∧ B (q + i + 1) = b ∧ B (q + i + 2) = c) → K 0) : p_X7_isSame F A (nI i) a b c K := by
  have ht := hB.1
  have i1 : nI (q + i) + (1 : Int32) = nI (q + i + 1) := nI_add _ 1
  have i2 : nI (q + i) + (2 : Int32) = nI (q + i + 2) := nI_add _ 2
  unfold p_X7_isSame
  rw [hT.1, nI_add, i1, i2]
  exact s_byteAt hB h6 h5 (by omega) ⟨fun w => h0 (fun n => w n.1), fun k1 => s_byteAt hB h6 h5 (by omega) ⟨fun w => h0 (fun n => w n.2.1), fun k2 => s_byteAt hB h6 h5 (by omega) ⟨fun w => h0 (fun n => w n.2.2), fun k3 => h1 k1 k2 k3⟩⟩⟩
theorem t_1 {t : Nat} {B : Nat → Int32} (hB : TB t B) {F : tF} {A : tA} (h6 : F 6 = nI t) (h5 : ∀ k, k < t → A 5 k = B k) {q : Nat} (hq : q ≤ t) (hT : Tok B t F q) {K : Int32 → Prop} (h1 : wdB B t q 1 = true → K 1) (h0 : ¬ wdB B t q 1 = true → K 0) : p_X7_isFour F A (104 : Int32) (111 : Int32) (103 : Int32) (103 : Int32) K := by
  unfold p_X7_isFour
  exact s_isName (l := 4) hB h6 h5 hq hT (by omega) (by omega) (fun n => ⟨bo_1, h1 (wi_1.mpr n)⟩) (fun n => ⟨bo_0, h0 (fun w => n (wi_1.mp w))⟩)
theorem t_7 {t : Nat} {B : Nat → Int32} (hB : TB t B) {F : tF} {A : tA} (h6 : F 6 = nI t) (h5 : ∀ k, k < t → A 5 k = B k) {q : Nat} (hq : q ≤ t) (hT : Tok B t F q) {K : Int32 → Prop} (h1 : wdB B t q 7 = true → K 1) (h0 : ¬ wdB B t q 7 = true → K 0) : p_X7_isFour F A (102 : Int32) (101 : Int32) (97 : Int32) (114 : Int32) K := by
  unfold p_X7_isFour
  exact s_isName (l := 4) hB h6 h5 hq hT (by omega) (by omega) (fun n => ⟨bo_1, h1 (wi_7.mpr n)⟩) (fun n => ⟨bo_0, h0 (fun w => n (wi_7.mp w))⟩)
theorem t_8 {t : Nat} {B : Nat → Int32} (hB : TB t B) {F : tF} {A : tA} (h6 : F 6 = nI t) (h5 : ∀ k, k < t → A 5 k = B k) {q : Nat} (hq : q ≤ t) (hT : Tok B t F q) {K : Int32 → Prop} (h1 : wdB B t q 8 = true → K 1) (h0 : ¬ wdB B t q 8 = true → K 0) : p_X7_isFour F A (108 : Int32) (111 : Int32) (111 : Int32) (107 : Int32) K := by
  unfold p_X7_isFour
  exact s_isName (l := 4) hB h6 h5 hq hT (by omega) (by omega) (fun n => ⟨bo_1, h1 (wi_8.mpr n)⟩) (fun n => ⟨bo_0, h0 (fun w => n (wi_8.mp w))⟩)
theorem t_16 {t : Nat} {B : Nat → Int32} (hB : TB t B) {F : tF} {A : tA} (h6 : F 6 = nI t) (h5 : ∀ k, k < t → A 5 k = B k) {q : Nat} (hq : q ≤ t) (hT : Tok B t F q) {K : Int32 → Prop} (h1 : wdB B t q 16 = true → K 1) (h0 : ¬ wdB B t q 16 = true → K 0) : p_X7_isFour F A (102 : Int32) (111 : Int32) (111 : Int32) (100 : Int32) K := by
  unfold p_X7_isFour
  exact s_isName (l := 4) hB h6 h5 hq hT (by omega) (by omega) (fun n => ⟨bo_1, h1 (wi_16.mpr n)⟩) (fun n => ⟨bo_0, h0 (fun w => n (wi_16.mp w))⟩)
theorem t_11 {t : Nat} {B : Nat → Int32} (hB : TB t B) {F : tF} {A : tA} (h6 : F 6 = nI t) (h5 : ∀ k, k < t → A 5 k = B k) {q : Nat} (hq : q ≤ t) (hT : Tok B t F q) {K : Int32 → Prop} (h1 : wdB B t q 11 = true → K 1) (h0 : ¬ wdB B t q 11 = true → K 0) : p_X7_isFour F A (114 : Int32) (105 : Int32) (115 : Int32) (107 : Int32) K := by
  unfold p_X7_isFour
  exact s_isName (l := 4) hB h6 h5 hq hT (by omega) (by omega) (fun n => ⟨bo_1, h1 (wi_11.mpr n)⟩) (fun n => ⟨bo_0, h0 (fun w => n (wi_11.mp w))⟩)
theorem t_13 {t : Nat} {B : Nat → Int32} (hB : TB t B) {F : tF} {A : tA} (h6 : F 6 = nI t) (h5 : ∀ k, k < t → A 5 k = B k) {q : Nat} (hq : q ≤ t) (hT : Tok B t F q) {K : Int32 → Prop} (h1 : wdB B t q 13 = true → K 1) (h0 : ¬ wdB B t q 13 = true → K 0) : p_X7_isFour F A (99 : Int32) (97 : Int32) (108 : Int32) (108 : Int32) K := by
  unfold p_X7_isFour
  exact s_isName (l := 4) hB h6 h5 hq hT (by omega) (by omega) (fun n => ⟨bo_1, h1 (wi_13.mpr n)⟩) (fun n => ⟨bo_0, h0 (fun w => n (wi_13.mp w))⟩)
theorem t_0 {t : Nat} {B : Nat → Int32} (hB : TB t B) {F : tF} {A : tA} (h6 : F 6 = nI t) (h5 : ∀ k, k < t → A 5 k = B k) {q : Nat} (hq : q ≤ t) (hT : Tok B t F q) {K : Int32 → Prop} (h1 : wdB B t q 0 = true → K 1) (h0 : ¬ wdB B t q 0 = true → K 0) : p_X7_isName F A (3 : Int32) (101 : Int32) (119 : Int32) (101 : Int32) (101 : Int32) K :=
  s_isName (l := 3) hB h6 h5 hq hT (by omega) (by omega) (fun n => h1 (wi_0.mpr ⟨n.1, n.2.1, n.2.2.1, n.2.2.2.1, n.2.2.2.2.1⟩)) (fun n => h0 (fun w => n (by obtain ⟨a, b, c, d, e⟩ := wi_0.mp w; exact ⟨a, b, c, d, e, e⟩)))
theorem t_5 {t : Nat} {B : Nat → Int32} (hB : TB t B) {F : tF} {A : tA} (h6 : F 6 = nI t) (h5 : ∀ k, k < t → A 5 k = B k) {q : Nat} (hq : q ≤ t) (hT : Tok B t F q) {K : Int32 → Prop} (h1 : wdB B t q 5 = true → K 1) (h0 : ¬ wdB B t q 5 = true → K 0) : p_X7_isName F A (3 : Int32) (116 : Int32) (117 : Int32) (112 : Int32) (112 : Int32) K :=
  s_isName (l := 3) hB h6 h5 hq hT (by omega) (by omega) (fun n => h1 (wi_5.mpr ⟨n.1, n.2.1, n.2.2.1, n.2.2.2.1, n.2.2.2.2.1⟩)) (fun n => h0 (fun w => n (by obtain ⟨a, b, c, d, e⟩ := wi_5.mp w; exact ⟨a, b, c, d, e, e⟩)))
theorem t_6 {t : Nat} {B : Nat → Int32} (hB : TB t B) {F : tF} {A : tA} (h6 : F 6 = nI t) (h5 : ∀ k, k < t → A 5 k = B k) {q : Nat} (hq : q ≤ t) (hT : Tok B t F q) {K : Int32 → Prop} (h1 : wdB B t q 6 = true → K 1) (h0 : ¬ wdB B t q 6 = true → K 0) : p_X7_isName F A (3 : Int32) (101 : Int32) (97 : Int32) (114 : Int32) (114 : Int32) K :=
  s_isName (l := 3) hB h6 h5 hq hT (by omega) (by omega) (fun n => h1 (wi_6.mpr ⟨n.1, n.2.1, n.2.2.1, n.2.2.2.1, n.2.2.2.2.1⟩)) (fun n => h0 (fun w => n (by obtain ⟨a, b, c, d, e⟩ := wi_6.mp w; exact ⟨a, b, c, d, e, e⟩)))
theorem t_9 {t : Nat} {B : Nat → Int32} (hB : TB t B) {F : tF} {A : tA} (h6 : F 6 = nI t) (h5 : ∀ k, k < t → A 5 k = B k) {q : Nat} (hq : q ≤ t) (hT : Tok B t F q) {K : Int32 → Prop} (h1 : wdB B t q 9 = true → K 1) (h0 : ¬ wdB B t q 9 = true → K 0) : p_X7_isFive F A (103 : Int32) (114 : Int32) (97 : Int32) (115 : Int32) (115 : Int32) K := by
  have ht := hB.1
  have i3 : nI q + (3 : Int32) = nI (q + 3) := nI_add q 3
  unfold p_X7_isFive
  rw [hT.1, i3]
  exact s_isName (l := 5) hB h6 h5 hq hT (by omega) (by omega) (fun n => a1 (s_byteAt hB h6 h5 (by omega) ⟨fun w => h0 (fun v => w (wi_9.mp v).2.2.2.2.2.1), fun k => h1 (wi_9.mpr ⟨n.1, n.2.1, n.2.2.1, n.2.2.2.1, n.2.2.2.2.1, k, n.2.2.2.2.2⟩)⟩)) (fun n => a0 (h0 (fun w => n (by obtain ⟨a, b, c, d, e, f, g⟩ := wi_9.mp w; exact ⟨a, b, c, d, e, g⟩))))
theorem t_12 {t : Nat} {B : Nat → Int32} (hB : TB t B) {F : tF} {A : tA} (h6 : F 6 = nI t) (h5 : ∀ k, k < t → A 5 k = B k) {q : Nat} (hq : q ≤ t) (hT : Tok B t F q) {K : Int32 → Prop} (h1 : wdB B t q 12 = true → K 1) (h0 : ¬ wdB B t q 12 = true → K 0) : p_X7_isFive F A (102 : Int32) (108 : Int32) (111 : Int32) (99 : Int32) (107 : Int32) K := by
  have ht := hB.1
  have i3 : nI q + (3 : Int32) = nI (q + 3) := nI_add q 3
  unfold p_X7_isFive
  rw [hT.1, i3]
  exact s_isName (l := 5) hB h6 h5 hq hT (by omega) (by omega) (fun n => a1 (s_byteAt hB h6 h5 (by omega) ⟨fun w => h0 (fun v => w (wi_12.mp v).2.2.2.2.2.1), fun k => h1 (wi_12.mpr ⟨n.1, n.2.1, n.2.2.1, n.2.2.2.1, n.2.2.2.2.1, k, n.2.2.2.2.2⟩)⟩)) (fun n => a0 (h0 (fun w => n (by obtain ⟨a, b, c, d, e, f, g⟩ := wi_12.mp w; exact ⟨a, b, c, d, e, g⟩))))
theorem t_14 {t : Nat} {B : Nat → Int32} (hB : TB t B) {F : tF} {A : tA} (h6 : F 6 = nI t) (h5 : ∀ k, k < t → A 5 k = B k) {q : Nat} (hq : q ≤ t) (hT : Tok B t F q) {K : Int32 → Prop} (h1 : wdB B t q 14 = true → K 1) (h0 : ¬ wdB B t q 14 = true → K 0) : p_X7_isFive F A (114 : Int32) (105 : Int32) (118 : Int32) (101 : Int32) (114 : Int32) K := by
  have ht := hB.1
  have i3 : nI q + (3 : Int32) = nI (q + 3) := nI_add q 3
  unfold p_X7_isFive
  rw [hT.1, i3]
  exact s_isName (l := 5) hB h6 h5 hq hT (by omega) (by omega) (fun n => a1 (s_byteAt hB h6 h5 (by omega) ⟨fun w => h0 (fun v => w (wi_14.mp v).2.2.2.2.2.1), fun k => h1 (wi_14.mpr ⟨n.1, n.2.1, n.2.2.1, n.2.2.2.1, n.2.2.2.2.1, k, n.2.2.2.2.2⟩)⟩)) (fun n => a0 (h0 (fun w => n (by obtain ⟨a, b, c, d, e, f, g⟩ := wi_14.mp w; exact ⟨a, b, c, d, e, g⟩))))
theorem t_17 {t : Nat} {B : Nat → Int32} (hB : TB t B) {F : tF} {A : tA} (h6 : F 6 = nI t) (h5 : ∀ k, k < t → A 5 k = B k) {q : Nat} (hq : q ≤ t) (hT : Tok B t F q) {K : Int32 → Prop} (h1 : wdB B t q 17 = true → K 1) (h0 : ¬ wdB B t q 17 = true → K 0) : p_X7_isFive F A (119 : Int32) (114 : Int32) (111 : Int32) (110 : Int32) (103 : Int32) K := by
  have ht := hB.1
  have i3 : nI q + (3 : Int32) = nI (q + 3) := nI_add q 3
  unfold p_X7_isFive
  rw [hT.1, i3]
  exact s_isName (l := 5) hB h6 h5 hq hT (by omega) (by omega) (fun n => a1 (s_byteAt hB h6 h5 (by omega) ⟨fun w => h0 (fun v => w (wi_17.mp v).2.2.2.2.2.1), fun k => h1 (wi_17.mpr ⟨n.1, n.2.1, n.2.2.1, n.2.2.2.1, n.2.2.2.2.1, k, n.2.2.2.2.2⟩)⟩)) (fun n => a0 (h0 (fun w => n (by obtain ⟨a, b, c, d, e, f, g⟩ := wi_17.mp w; exact ⟨a, b, c, d, e, g⟩))))
def kdW (B : Nat → Int32) (t q : Nat) : Int32 := if wdB B t q 0 = true then 0 else if wdB B t q 1 = true then 1 else if wdB B t q 2 = true then 2 else if wdB B t q 3 = true then 3 else if wdB B t q 4 = true then 4 else if wdB B t q 5 = true then 5 else -1
theorem m_kindHere {t : Nat} {B : Nat → Int32} (hB : TB t B) {F : tF} {A : tA} (h6 : F 6 = nI t) (h5 : ∀ k, k < t → A 5 k = B k) {q : Nat} (hq : q ≤ t) (hT : Tok B t F q) {K : Int32 → Prop} (k : K (kdW B t q)) : p_X7_kindHere F A K := by
  unfold kdW at k
  have J149 : ¬ wdB B t q 0 = true → ¬ wdB B t q 1 = true → ¬ wdB B t q 2 = true → ¬ wdB B t q 3 = true → ¬ wdB B t q 4 = true → p_X7_kindHere_J149 F A K := by
    intro n0 n1 n2 n3 n4
    rw [if_neg n0, if_neg n1, if_neg n2, if_neg n3, if_neg n4] at k
    unfold p_X7_kindHere_J149
    refine t_5 hB h6 h5 hq hT (fun w => a1 ?_) (fun w => a0 ?_)
    · rw [if_pos w] at k; exact k
    · rw [if_neg w] at k; exact k
  have J101 : ¬ wdB B t q 0 = true → ¬ wdB B t q 1 = true → ¬ wdB B t q 2 = true → ¬ wdB B t q 3 = true → p_X7_kindHere_J101 F A K := by
    intro n0 n1 n2 n3
    have N : ¬ wdB B t q 4 = true → p_X7_kindHere_J149 F A K := J149 n0 n1 n2 n3
    unfold p_X7_kindHere_J101
    refine s_isName (l := 10) hB h6 h5 hq hT (by omega) (by omega) (fun n => a1 (s_isSame (i := 3) hB h6 h5 hq hT (by omega) (fun e3 e4 e5 => a1 (s_isSame (i := 6) hB h6 h5 hq hT (by omega) (fun e6 e7 e8 => a1 ?_) (fun c => a0 (N (fun w => ?_))))) (fun c => a0 (N (fun w => ?_))))) (fun n => a0 (N (fun w => ?_)))
    · have w4 : wdB B t q 4 = true := wi_4.mpr ⟨n.1, n.2.1, n.2.2.1, n.2.2.2.1, n.2.2.2.2.1, e3, e4, e5, e6, e7, e8, n.2.2.2.2.2⟩
      rw [if_neg n0, if_neg n1, if_neg n2, if_neg n3, if_pos w4] at k; exact k
    · obtain ⟨_, _, _, _, _, _, _, _, e6, e7, e8, _⟩ := wi_4.mp w; exact c ⟨e6, e7, e8⟩
    · obtain ⟨_, _, _, _, _, e3, e4, e5, _⟩ := wi_4.mp w; exact c ⟨e3, e4, e5⟩
    · obtain ⟨a, b, c, d, e, _, _, _, _, _, _, f⟩ := wi_4.mp w; exact n ⟨a, b, c, d, e, f⟩
  have J68 : ¬ wdB B t q 0 = true → ¬ wdB B t q 1 = true → ¬ wdB B t q 2 = true → p_X7_kindHere_J68 F A K := by
    intro n0 n1 n2
    have N : ¬ wdB B t q 3 = true → p_X7_kindHere_J101 F A K := J101 n0 n1 n2
    unfold p_X7_kindHere_J68
    refine s_isName (l := 6) hB h6 h5 hq hT (by omega) (by omega) (fun n => a1 (s_isSame (i := 2) hB h6 h5 hq hT (by omega) (fun e2 e3 e4 => a1 ?_) (fun c => a0 (N (fun w => ?_))))) (fun n => a0 (N (fun w => ?_)))
    · have w3 : wdB B t q 3 = true := wi_3.mpr ⟨n.1, n.2.1, n.2.2.1, n.2.2.2.1, e2, e3, e4, n.2.2.2.2.2⟩
      rw [if_neg n0, if_neg n1, if_neg n2, if_pos w3] at k; exact k
    · obtain ⟨_, _, _, _, e2, e3, e4, _⟩ := wi_3.mp w; exact c ⟨e2, e3, e4⟩
    · obtain ⟨a, b, c, d, e, _, _, f⟩ := wi_3.mp w; exact n ⟨a, b, c, d, e, f⟩
  unfold p_X7_kindHere
  refine t_0 hB h6 h5 hq hT (fun w => a1 ?_) (fun n0 => a0 (t_1 hB h6 h5 hq hT (fun w => a1 ?_) (fun n1 => a0 ?_)))
  · rw [if_pos w] at k; exact k
  · rw [if_neg n0, if_pos w] at k; exact k
  have N : ¬ wdB B t q 2 = true → p_X7_kindHere_J68 F A K := J68 n0 n1
  refine s_isName (l := 6) hB h6 h5 hq hT (by omega) (by omega) (fun n => a1 (s_isSame (i := 2) hB h6 h5 hq hT (by omega) (fun e2 e3 e4 => a1 ?_) (fun c => a0 (N (fun w => ?_))))) (fun n => a0 (N (fun w => ?_)))
  · have w2 : wdB B t q 2 = true := wi_2.mpr ⟨n.1, n.2.1, n.2.2.1, n.2.2.2.1, e2, e3, e4, n.2.2.2.2.2⟩
    rw [if_neg n0, if_neg n1, if_pos w2] at k; exact k
  · obtain ⟨_, _, _, _, e2, e3, e4, _⟩ := wi_2.mp w; exact c ⟨e2, e3, e4⟩
  · obtain ⟨a, b, c, d, e, _, _, f⟩ := wi_2.mp w; exact n ⟨a, b, c, d, e, f⟩
def owW (B : Nat → Int32) (t q : Nat) : Int32 := if wdB B t q 12 = true then 3 else if wdB B t q 14 = true then 5 else if wdB B t q 15 = true then 6 else if wdB B t q 16 = true then 7 else if wdB B t q 17 = true then 8 else -1
theorem m_ownHere {t : Nat} {B : Nat → Int32} (hB : TB t B) {F : tF} {A : tA} (h6 : F 6 = nI t) (h5 : ∀ k, k < t → A 5 k = B k) {q : Nat} (hq : q ≤ t) (hT : Tok B t F q) {K : Int32 → Prop} (k : K (owW B t q)) : p_X7_ownHere F A K := by
  unfold owW at k
  have J72 : ¬ wdB B t q 12 = true → ¬ wdB B t q 14 = true → ¬ wdB B t q 15 = true → p_X7_ownHere_J72 F A K := by
    intro n0 n1 n2
    rw [if_neg n0, if_neg n1, if_neg n2] at k
    unfold p_X7_ownHere_J72
    refine t_16 hB h6 h5 hq hT (fun w => a1 ?_) (fun n3 => a0 (t_17 hB h6 h5 hq hT (fun w => a1 ?_) (fun w => a0 ?_)))
    · rw [if_pos w] at k; exact k
    · rw [if_neg n3, if_pos w] at k; exact k
    · rw [if_neg n3, if_neg w] at k; exact k
  unfold p_X7_ownHere
  refine t_12 hB h6 h5 hq hT (fun w => a1 ?_) (fun n0 => a0 (t_14 hB h6 h5 hq hT (fun w => a1 ?_) (fun n1 => a0 ?_)))
  · rw [if_pos w] at k; exact k
  · rw [if_neg n0, if_pos w] at k; exact k
  have N : ¬ wdB B t q 15 = true → p_X7_ownHere_J72 F A K := J72 n0 n1
  refine s_isName (l := 7) hB h6 h5 hq hT (by omega) (by omega) (fun n => a1 (s_isSame (i := 3) hB h6 h5 hq hT (by omega) (fun e3 e4 e5 => a1 ?_) (fun c => a0 (N (fun w => ?_))))) (fun n => a0 (N (fun w => ?_)))
  · have w2 : wdB B t q 15 = true := wi_15.mpr ⟨n.1, n.2.1, n.2.2.1, n.2.2.2.1, n.2.2.2.2.1, e3, e4, e5, n.2.2.2.2.2⟩
    rw [if_neg n0, if_neg n1, if_pos w2] at k; exact k
  · obtain ⟨_, _, _, _, _, e3, e4, e5, _⟩ := wi_15.mp w; exact c ⟨e3, e4, e5⟩
  · obtain ⟨a, b, c, d, e, _, _, _, f⟩ := wi_15.mp w; exact n ⟨a, b, c, d, e, f⟩
