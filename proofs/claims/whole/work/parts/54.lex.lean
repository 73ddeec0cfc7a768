/-! the hill's text: bytes B below t, -1 from t on -/
def TB (t : Nat) (B : Nat → Int32) : Prop := t ≤ 200 ∧ (∀ k, k < t → inR (B k) 256) ∧ ∀ k, t ≤ k → B k = -1
def runE (c : Int32 → Bool) (B : Nat → Int32) : Nat → Nat → Nat
  | 0, p => p
  | n + 1, p => if c (B p) = true then runE c B n (p + 1) else p
theorem runE_s {c : Int32 → Bool} {B : Nat → Int32} {t : Nat} (hc : c (B t) = false) : ∀ n p, p + n = t → p ≤ runE c B n p ∧ runE c B n p ≤ t ∧ (∀ k, p ≤ k → k < runE c B n p → c (B k) = true) ∧ c (B (runE c B n p)) = false
  | 0, p, e => by
    have e : p = t := by omega
    subst e
    exact ⟨Nat.le_refl _, Nat.le_refl _, fun k a b => absurd b (by rw [runE]; omega), hc⟩
  | n + 1, p, e => by
    rw [runE]
    by_cases q : c (B p) = true
    · rw [if_pos q]
      obtain ⟨h1, h2, h3, h4⟩ := runE_s hc n (p + 1) (by omega)
      refine ⟨by omega, h2, fun k a b => ?_, h4⟩
      by_cases w : k = p
      · rw [w]; exact q
      · exact h3 k (by omega) b
    · rw [if_neg q]
      exact ⟨Nat.le_refl _, by omega, fun k a b => absurd b (by omega), by
        cases h : c (B p) with
        | false => rfl
        | true => exact absurd h q⟩
def rE (c : Int32 → Bool) (B : Nat → Int32) (t p : Nat) : Nat := runE c B (t - p) p
theorem rE_s {c : Int32 → Bool} {B : Nat → Int32} {t p : Nat} (hc : c (B t) = false) (hp : p ≤ t) : p ≤ rE c B t p ∧ rE c B t p ≤ t ∧ (∀ k, p ≤ k → k < rE c B t p → c (B k) = true) ∧ c (B (rE c B t p)) = false := runE_s hc (t - p) p (by omega)
def cS (x : Int32) : Bool := decide (x = 32)
def cA (x : Int32) : Bool := decide (97 ≤ x) && decide (x ≤ 122)
def cD (x : Int32) : Bool := decide (48 ≤ x) && decide (x ≤ 57)
theorem cA_1 {x : Int32} (h1 : ¬ x < 97) (h2 : ¬ 122 < x) : cA x = true := by
  unfold cA; rw [Bool.and_eq_true, decide_eq_true_iff, decide_eq_true_iff]; exact ⟨Int32.not_lt.mp h1, Int32.not_lt.mp h2⟩
theorem cA_t {x : Int32} (h : cA x = true) : ¬ x < 97 ∧ ¬ 122 < x := by
  unfold cA at h; rw [Bool.and_eq_true, decide_eq_true_iff, decide_eq_true_iff] at h; exact ⟨Int32.not_lt.mpr h.1, Int32.not_lt.mpr h.2⟩
theorem cD_1 {x : Int32} (h1 : ¬ x < 48) (h2 : ¬ 57 < x) : cD x = true := by
  unfold cD; rw [Bool.and_eq_true, decide_eq_true_iff, decide_eq_true_iff]; exact ⟨Int32.not_lt.mp h1, Int32.not_lt.mp h2⟩
theorem cD_t {x : Int32} (h : cD x = true) : ¬ x < 48 ∧ ¬ 57 < x := by
  unfold cD at h; rw [Bool.and_eq_true, decide_eq_true_iff, decide_eq_true_iff] at h; exact ⟨Int32.not_lt.mpr h.1, Int32.not_lt.mpr h.2⟩
theorem cS_t {x : Int32} : cS x = true ↔ x = 32 := by unfold cS; exact decide_eq_true_iff
theorem tb_t {t : Nat} {B : Nat → Int32} (h : TB t B) : cS (B t) = false ∧ cA (B t) = false ∧ cD (B t) = false := by
  rw [h.2.2 t (Nat.le_refl _)]; decide
theorem b_not {b : Bool} (h : b = false) : ¬ b = true := by rw [h]; exact Bool.false_ne_true
def skS (B : Nat → Int32) (t p : Nat) : Nat := rE cS B t p
def aE (B : Nat → Int32) (t p : Nat) : Nat := rE cA B t p
def dE (B : Nat → Int32) (t p : Nat) : Nat := rE cD B t p
theorem skS_id {B : Nat → Int32} {t p : Nat} (h : TB t B) (hp : p ≤ t) : skS B t (skS B t p) = skS B t p := by
  obtain ⟨a, b, _, d⟩ := rE_s (tb_t h).1 hp
  have e : skS B t p = rE cS B t p := rfl
  rw [← e] at a b d
  unfold skS rE
  rcases Nat.eq_zero_or_pos (t - runE cS B (t - p) p) with z | z
  · rw [z]; rfl
  · obtain ⟨n, hn⟩ : ∃ n, t - runE cS B (t - p) p = n + 1 := ⟨t - runE cS B (t - p) p - 1, by omega⟩
    rw [hn, runE, if_neg]
    exact b_not d
def tk (B : Nat → Int32) (q : Nat) : Int32 := if B q < 0 then 0 else if cA (B q) = true then 1 else if cD (B q) = true then 2 else 3
def tE (B : Nat → Int32) (t q : Nat) : Nat := if tk B q = 1 then aE B t q else if tk B q = 2 then dE B t q else if tk B q = 3 then q + 1 else q
def dvU (B : Nat → Int32) (q : Nat) : Nat → Int32
  | 0 => 0
  | k + 1 => if 999 < dvU B q k then dvU B q k else ((10 * dvU B q k) + B (q + k)) - 48
def tV (B : Nat → Int32) (t q : Nat) : Int32 := if tk B q = 2 then dvU B q (dE B t q - q) else 0
/-! the class reads -/
def CT (t : Nat) (B : Nat → Int32) (F : tF) (A : tA) : Prop := F 1 = nI t ∧ ∀ k, k < t → A 0 k = B k
theorem CT.f {t : Nat} {B : Nat → Int32} {F F' : tF} {A : tA} (h : CT t B F A) (e : F' 1 = F 1) : CT t B F' A := ⟨by rw [e]; exact h.1, h.2⟩
theorem s_skipBlanks {t : Nat} {B : Nat → Int32} (hB : TB t B) {F : tF} {A : tA} (h : CT t B F A) {p : Nat} (hp : p ≤ t) (e2 : F 2 = nI p) {K : tF → tA → Prop} (hk : ∀ F', F' 2 = nI (skS B t p) → (∀ k, k ≠ 2 → F' k = F k) → K F' A) : p_X3_skipBlanks F A K := by
  have ht := hB.1
  obtain ⟨h1, h2, h3, h4⟩ := rE_s (tb_t hB).1 hp
  unfold p_X3_skipBlanks
  refine lq2 (p_X3_skipBlanks_L0 K) (fun i F' A' => A' = A ∧ F' 2 = nI i ∧ ∀ k, k ≠ 2 → F' k = F k) (skS B t p) p h1 ?_ ?_ ⟨rfl, e2, fun _ _ => rfl⟩
  · rintro n F' A' ⟨rfl, f2, fo⟩
    rw [p_X3_skipBlanks_L0, fo 1 (by omega), h.1, f2]
    have hle : skS B t p ≤ t := h2
    refine ⟨fun _ => hk F' f2 fo, fun c => ?_⟩
    have hl : skS B t p < t := by
      rcases Nat.lt_or_ge (skS B t p) t with w | w
      · exact w
      · exact absurd (nI_le w (by omega)) c
    rw [nI_clamp (by omega), h.2 _ hl]
    exact ⟨vp_in_nI (by omega) (by omega), fun _ => hk F' f2 fo, fun c2 => absurd (cS_t.mpr c2) (b_not h4)⟩
  · rintro n i F' A' g1 g2 ⟨rfl, f2, fo⟩ ih
    have hle : skS B t p ≤ t := h2
    rw [p_X3_skipBlanks_L0, fo 1 (by omega), h.1, f2, nI_clamp (by omega), h.2 i (by omega)]
    exact ⟨fun c => absurd c (nI_ge (by omega) (by omega)), fun _ => ⟨vp_in_nI (by omega) (by omega), fun c => absurd (cS_t.mp (h3 i g1 g2)) c, fun _ y hy => ih _ _ ⟨rfl, by rw [pk_us, hy]; exact nI_1 _, fun k hk => by rw [pk_un hk]; exact fo k hk⟩⟩⟩
def fltS (x : Int32) (q : Nat) : Int32 := if x = -1 then nI q else x
theorem s_fail {F : tF} {A : tA} {q : Nat} {K : tF → tA → Prop} (hk : ∀ F', F' 3 = fltS (F 3) q → (∀ k, k ≠ 3 → F' k = F k) → K F' A) : p_X3_fail F A (nI q) K := by
  unfold p_X3_fail
  refine ⟨fun c => hk F (by unfold fltS; rw [if_neg c]) (fun _ _ => rfl), fun c => hk _ (by rw [pk_us]; unfold fltS; rw [if_pos c]) (fun k hk => pk_un hk)⟩
/-- whether a name stands at q -/
def wdB (B : Nat → Int32) (t q w : Nat) : Bool := decide (aE B t q - q = sLn w) && (List.range (sLn w)).all (fun k => decide (B (q + k) = sCh w k))
theorem wdB_iff {B : Nat → Int32} {t q w : Nat} : wdB B t q w = true ↔ aE B t q - q = sLn w ∧ ∀ k, k < sLn w → B (q + k) = sCh w k := by
  unfold wdB
  rw [Bool.and_eq_true, decide_eq_true_iff, List.all_eq_true]
  refine ⟨fun h => ⟨h.1, fun k hk => of_decide_eq_true (h.2 k (List.mem_range.mpr hk))⟩, fun h => ⟨h.1, fun k hk => decide_eq_true (h.2 k (List.mem_range.mp hk))⟩⟩
theorem s_isNext {t : Nat} {B : Nat → Int32} (hB : TB t B) {F : tF} {A : tA} (h : CT t B F A) {p : Nat} (hp : p ≤ t) (e2 : F 2 = nI p) {w : Nat} (hw : w < sN) {K : Int32 → tF → tA → Prop} (h1 : wdB B t (skS B t p) w = true → ∀ F', F' 2 = nI (aE B t (skS B t p)) → (∀ k, k ≠ 2 → F' k = F k) → K 1 F' A) (h0 : ¬ wdB B t (skS B t p) w = true → ∀ F', F' 2 = nI (skS B t p) → (∀ k, k ≠ 2 → F' k = F k) → K 0 F' A) : p_X3_isNext F A w K := by
  have ht := hB.1
  have hsp := rE_s (tb_t hB).1 hp
  have hq : skS B t p ≤ t := hsp.2.1
  obtain ⟨r1, r2, r3, r4⟩ := rE_s (tb_t hB).2.1 hq
  have hlw := sLn_lt w hw
  unfold p_X3_isNext
  refine s_skipBlanks hB h hp e2 (fun F1 f2 fo y hy => ?_)
  rw [f2] at hy
  have c1 : F1 1 = nI t := by rw [fo 1 (by omega)]; exact h.1
  have J45 : p_X3_isNext_J45 w F1 A K (nI (aE B t (skS B t p))) := by
    unfold p_X3_isNext_J45
    rw [f2]
    have es : nI (aE B t (skS B t p)) - nI (skS B t p) = nI (aE B t (skS B t p) - skS B t p) := pk_sub r1
    have r2' : aE B t (skS B t p) ≤ t := r2
    rw [es, nI_eq (by omega) (by omega)]
    refine ⟨hw, fun c => ?_, fun c => h0 (fun q => c (wdB_iff.mp q).1) F1 f2 fo⟩
    -- how far the letters agree
    by_cases al : ∀ k, k < sLn w → B (skS B t p + k) = sCh w k
    · refine lq1 (p_X3_isNext_L62 w F1 A (nI (aE B t (skS B t p))) K) (fun i x => x = nI i) (sLn w) 0 (by omega) ?_ ?_ rfl
      · rintro n x rfl
        rw [p_X3_isNext_L62]
        exact ⟨hw, fun _ => h1 (wdB_iff.mpr ⟨c, al⟩) _ pk_us (fun k hk => by rw [pk_un hk]; exact fo k hk), fun q => absurd (nI_le (Nat.le_refl _) (by omega)) q⟩
      · rintro n i x g1 g2 rfl ih
        rw [p_X3_isNext_L62, f2, nI_add, nI_clamp (by omega), nI_clamp (by omega), h.2 _ (by omega)]
        exact ⟨hw, fun q => absurd q (nI_ge g2 (by omega)), fun _ => ⟨vp_in_nI (by omega) (by omega), hw, vp_in_nI (by omega) (by omega), fun _ y hy => ih _ (by rw [hy]; exact nI_1 _), fun q => absurd (al i g2) q⟩⟩
    · have ex : ∃ k, k < sLn w ∧ ¬ B (skS B t p + k) = sCh w k := Classical.byContradiction (fun q => al (fun k hk => Classical.byContradiction (fun u => q ⟨k, hk, u⟩)))
      obtain ⟨k, ⟨hk, hd⟩, hm⟩ := pk_least _ ex
      refine lq1 (p_X3_isNext_L62 w F1 A (nI (aE B t (skS B t p))) K) (fun i x => x = nI i) k 0 (by omega) ?_ ?_ rfl
      · rintro n x rfl
        rw [p_X3_isNext_L62, f2, nI_add, nI_clamp (by omega), nI_clamp (by omega), h.2 _ (by omega)]
        exact ⟨hw, fun q => absurd q (nI_ge hk (by omega)), fun _ => ⟨vp_in_nI (by omega) (by omega), hw, vp_in_nI (by omega) (by omega), fun q => absurd q hd, fun _ => h0 (fun q => hd ((wdB_iff.mp q).2 k hk)) F1 f2 fo⟩⟩
      · rintro n i x g1 g2 rfl ih
        have hi : B (skS B t p + i) = sCh w i := Classical.byContradiction (fun u => hm i g2 ⟨by omega, u⟩)
        rw [p_X3_isNext_L62, f2, nI_add, nI_clamp (by omega), nI_clamp (by omega), h.2 _ (by omega)]
        exact ⟨hw, fun q => absurd q (nI_ge (by omega) (by omega)), fun _ => ⟨vp_in_nI (by omega) (by omega), hw, vp_in_nI (by omega) (by omega), fun _ y hy => ih _ (by rw [hy]; exact nI_1 _), fun q => absurd hi q⟩⟩
  have r2' : aE B t (skS B t p) ≤ t := r2
  refine lq1 (p_X3_isNext_L9 w F1 A K) (fun i x => x = nI i) (aE B t (skS B t p)) (skS B t p) r1 ?_ ?_ hy
  · rintro n x rfl
    rw [p_X3_isNext_L9, c1]
    refine ⟨fun _ => J45, fun c => ?_⟩
    have hl : aE B t (skS B t p) < t := by
      rcases Nat.lt_or_ge (aE B t (skS B t p)) t with w | w
      · exact w
      · exact absurd (nI_le w (by omega)) c
    rw [nI_clamp (by omega), h.2 _ hl]
    have iv : vp_in (nI (aE B t (skS B t p))) 200 := vp_in_nI (by omega) (by omega)
    exact ⟨iv, fun _ => J45, fun q1 => ⟨iv, fun _ => J45, fun q2 => absurd (cA_1 q1 q2) (b_not r4)⟩⟩
  · rintro n i x g1 g2 rfl ih
    rw [p_X3_isNext_L9, c1, nI_clamp (by omega), h.2 i (by omega)]
    have iv : vp_in (nI i) 200 := vp_in_nI (by omega) (by omega)
    obtain ⟨a1, a2⟩ := cA_t (r3 i g1 g2)
    exact ⟨fun c => absurd c (nI_ge (by omega) (by omega)), fun _ => ⟨iv, fun q => absurd q a1, fun _ => ⟨iv, fun q => absurd q a2, fun _ y hy => ih _ (by rw [hy]; exact nI_1 _)⟩⟩⟩
/-! numbers -/
theorem dig_n {x : Int32} (h : cD x = true) : ∃ j : Nat, j < 10 ∧ x = nI (48 + j) := by
  obtain ⟨h1, h2⟩ := cD_t h
  have h0 : ¬ x < 0 := fun q => h1 (by
    rw [Int32.lt_iff_toInt_lt] at q ⊢
    have e0 : (0 : Int32).toInt = 0 := by decide
    have e1 : (48 : Int32).toInt = 48 := by decide
    omega)
  obtain ⟨j, hj, rfl⟩ := nI_of h0
  have a : 48 ≤ j := by
    rcases Nat.lt_or_ge j 48 with w | w
    · exact absurd (nI_lt (a := j) (b := 48) w (by omega)) h1
    · exact w
  have b : j ≤ 57 := by
    rcases Nat.lt_or_ge 57 j with w | w
    · exact absurd (nI_lt (a := 57) (b := j) w (by omega)) h2
    · exact w
  exact ⟨j - 48, by omega, by rw [show 48 + (j - 48) = j by omega]⟩
theorem dig_st {m j : Nat} : ((10 : Int32) * nI m + nI (48 + j)) - 48 = nI (10 * m + j) ∧ (nI m * (10 : Int32) + nI (48 + j)) - 48 = nI (10 * m + j) := by
  have e1 : (10 : Int32) * nI m = nI (10 * m) := pk_mul 10 m
  have e2 : nI m * (10 : Int32) = nI (10 * m) := by rw [Int32.mul_comm]; exact e1
  have e3 : nI (10 * m) + nI (48 + j) - 48 = nI (10 * m + j) := by
    rw [nI_add]
    have := pk_sub (a := 10 * m + (48 + j)) (b := 48) (by omega)
    rw [show 10 * m + (48 + j) - 48 = 10 * m + j by omega] at this
    exact this
  rw [e1, e2]; exact ⟨e3, e3⟩
/-- up to three digits: plain -/
theorem dv_n {B : Nat → Int32} {q n : Nat} (h : ∀ k, k < n → cD (B (q + k)) = true) : ∀ k, k ≤ n → k ≤ 3 → ∃ m : Nat, m < 10 ^ k ∧ dvU B q k = nI m
  | 0, _, _ => ⟨0, by omega, rfl⟩
  | k + 1, h1, h2 => by
    obtain ⟨m, hm, e⟩ := dv_n h k (by omega) (by omega)
    obtain ⟨j, hj, ej⟩ := dig_n (h k (by omega))
    have hm9 : m < 100 := by
      have : 10 ^ k ≤ 10 ^ 2 := Nat.pow_le_pow_right (by omega) (by omega)
      omega
    refine ⟨10 * m + j, by rw [Nat.pow_succ]; omega, ?_⟩
    rw [dvU, e, if_neg (show ¬ (999 : Int32) < nI m from nI_nlt (a := 999) (b := m) (by omega) (by omega)), ej]; exact dig_st.1
/-- what the class reads of the digits -/
def cvU (B : Nat → Int32) (q : Nat) : Nat → Int32
  | 0 => 0
  | k + 1 => if k < 3 then ((cvU B q k * 10) + B (q + k)) - 48 else cvU B q k
theorem cv_eq {B : Nat → Int32} {q n : Nat} (h : ∀ k, k < n → cD (B (q + k)) = true) : ∀ k, k ≤ n → k ≤ 3 → cvU B q k = dvU B q k
  | 0, _, _ => rfl
  | k + 1, h1, h2 => by
    obtain ⟨m, hm, e⟩ := dv_n h k (by omega) (by omega)
    have hm9 : m < 100 := by
      have : 10 ^ k ≤ 10 ^ 2 := Nat.pow_le_pow_right (by omega) (by omega)
      omega
    rw [cvU, dvU, if_pos (by omega), cv_eq h k (by omega) (by omega), e, if_neg (show ¬ (999 : Int32) < nI m from nI_nlt (a := 999) (b := m) (by omega) (by omega)), Int32.mul_comm]
/-- a number of at most three digits, at most m, stands at q -/
def nOK (B : Nat → Int32) (t q : Nat) (m : Int32) : Prop := 1 ≤ dE B t q - q ∧ dE B t q - q ≤ 3 ∧ dvU B q (dE B t q - q) ≤ m
theorem nOK_up {B : Nat → Int32} {t q : Nat} {M : Nat} (hB : TB t B) (hq : q ≤ t) (hM : M < 1000) (h : nOK B t q (nI M)) : inR (dvU B q (dE B t q - q)) (M + 1) := by
  obtain ⟨h1, h2, h3⟩ := h
  obtain ⟨r1, r2, r3, r4⟩ := rE_s (tb_t hB).2.2 hq
  have r1' : q ≤ dE B t q := r1
  obtain ⟨m, hm, e⟩ := dv_n (B := B) (q := q) (n := dE B t q - q) (fun k hk => r3 _ (by omega) (by show q + k < dE B t q; omega)) _ (Nat.le_refl _) h2
  rw [e] at h3 ⊢
  have hm9 : m < 1000 := by
    have : 10 ^ (dE B t q - q) ≤ 10 ^ 3 := Nat.pow_le_pow_right (by omega) h2
    omega
  exact ⟨m, by have := (nI_leI (a := m) (b := M) (by omega) (by omega)).mp h3; omega, rfl⟩
theorem s_readNumber {t : Nat} {B : Nat → Int32} (hB : TB t B) {F : tF} {A : tA} (h : CT t B F A) {p : Nat} (hp : p ≤ t) (e2 : F 2 = nI p) {m : Int32} {K : Int32 → tF → tA → Prop} (h1 : nOK B t (skS B t p) m → ∀ F', F' 2 = nI (dE B t (skS B t p)) → (∀ k, k ≠ 2 → F' k = F k) → K (dvU B (skS B t p) (dE B t (skS B t p) - skS B t p)) F' A) (h0 : ¬ nOK B t (skS B t p) m → ∀ F', F' 2 = nI (dE B t (skS B t p)) → F' 3 = fltS (F 3) (skS B t p) → (∀ k, k ≠ 2 → k ≠ 3 → F' k = F k) → K 0 F' A) : p_X3_readNumber F A m K := by
  have ht := hB.1
  have hsp := rE_s (tb_t hB).1 hp
  have hq : skS B t p ≤ t := hsp.2.1
  obtain ⟨r1, r2, r3, r4⟩ := rE_s (tb_t hB).2.2 hq
  unfold p_X3_readNumber
  refine s_skipBlanks hB h hp e2 (fun F1 f2 fo y hy => ?_)
  rw [f2] at hy
  subst hy
  generalize hQ : skS B t p = q at *
  have r1' : q ≤ dE B t q := r1
  have r2' : dE B t q ≤ t := r2
  have c1 : F1 1 = nI t := by rw [fo 1 (by omega)]; exact h.1
  have dd : ∀ k, k < dE B t q - q → cD (B (q + k)) = true := fun k hk => r3 _ (by omega) (by show q + k < dE B t q; omega)
  have J91 : ∀ F2 : tF, F2 2 = nI (dE B t q) → (∀ k, k ≠ 2 → F2 k = F k) → p_X3_readNumber_J91 F2 A K m (nI q) (cvU B q (dE B t q - q)) := by
    intro F2 g2 go
    have J116 : ¬ nOK B t q m → p_X3_readNumber_J116 F2 A K (nI q) := by
      intro c
      unfold p_X3_readNumber_J116
      exact s_fail (fun F3 g3 go3 => h0 c F3 (by rw [go3 2 (by omega)]; exact g2) (by rw [g3, go 3 (by omega)]) (fun k a b => by rw [go3 k b]; exact go k a))
    unfold p_X3_readNumber_J91
    intro y hy
    rw [g2, pk_sub r1'] at hy
    subst hy
    refine ⟨fun c => J116 (fun w => ?_), fun c1 => ⟨fun c => J116 (fun w => ?_), fun c2 => ?_⟩⟩
    · exact nI_nlt (a := dE B t q - q) (b := 1) w.1 (by omega) c
    · exact nI_nlt (a := 3) (b := dE B t q - q) w.2.1 (by omega) c
    · have a1 : 1 ≤ dE B t q - q := by
        rcases Nat.lt_or_ge (dE B t q - q) 1 with u | u
        · exact absurd (nI_lt (a := dE B t q - q) (b := 1) u (by omega)) c1
        · exact u
      have a3 : dE B t q - q ≤ 3 := by
        rcases Nat.lt_or_ge 3 (dE B t q - q) with u | u
        · exact absurd (nI_lt (a := 3) (b := dE B t q - q) u (by omega)) c2
        · exact u
      rw [cv_eq dd _ (Nat.le_refl _) a3]
      exact ⟨fun c => h1 ⟨a1, a3, c⟩ F2 g2 go, fun c => J116 (fun w => c w.2.2)⟩
  refine lq3 (p_X3_readNumber_L11 m (nI q) K) (fun i F' A' v => A' = A ∧ F' 2 = nI i ∧ (∀ k, k ≠ 2 → F' k = F k) ∧ v = cvU B q (i - q)) (dE B t q) q r1' ?_ ?_ ⟨rfl, f2, fo, by rw [Nat.sub_self]; rfl⟩
  · rintro n F' A' v ⟨rfl, g2, go, rfl⟩
    rw [p_X3_readNumber_L11, go 1 (by omega), h.1, g2]
    refine ⟨fun _ => J91 F' g2 go, fun c => ?_⟩
    have hl : dE B t q < t := by
      rcases Nat.lt_or_ge (dE B t q) t with w | w
      · exact w
      · exact absurd (nI_le w (by omega)) c
    rw [nI_clamp (by omega), h.2 _ hl]
    have iv : vp_in (nI (dE B t q)) 200 := vp_in_nI (by omega) (by omega)
    exact ⟨iv, fun _ => J91 F' g2 go, fun q1 => ⟨iv, fun _ => J91 F' g2 go, fun q2 => absurd (cD_1 q1 q2) (b_not r4)⟩⟩
  · rintro n i F' A' v g1 g3 ⟨rfl, g2, go, rfl⟩ ih
    rw [p_X3_readNumber_L11, go 1 (by omega), h.1, g2, nI_clamp (by omega), h.2 i (by omega), pk_sub g1]
    have iv : vp_in (nI i) 200 := vp_in_nI (by omega) (by omega)
    obtain ⟨a1, a2⟩ := cD_t (r3 i g1 g3)
    have es : i + 1 - q = (i - q) + 1 := by omega
    have eb : q + (i - q) = i := by omega
    unfold p_X3_readNumber_J78
    rw [g2]
    refine ⟨fun c => absurd c (nI_ge (by omega) (by omega)), fun _ => ⟨iv, fun c => absurd c a1, fun _ => ⟨iv, fun c => absurd c a2, fun _ => ⟨fun c y hy => ih _ _ _ ⟨rfl, by rw [pk_us, hy]; exact nI_1 _, fun k hk => by rw [pk_un hk]; exact go k hk, ?_⟩, fun c => ⟨iv, fun z hz y hy => ih _ _ _ ⟨rfl, by rw [pk_us, hy]; exact nI_1 _, fun k hk => by rw [pk_un hk]; exact go k hk, ?_⟩⟩⟩⟩⟩⟩
    · have := (nI_leI (a := 3) (b := i - q) (by omega) (by omega)).mp c
      rw [es, cvU, if_neg (by omega)]
    · have : i - q < 3 := by
        rcases Nat.lt_or_ge (i - q) 3 with u | u
        · exact u
        · exact absurd (nI_le (a := 3) (b := i - q) u (by omega)) c
      rw [es, cvU, if_pos this, eb, hz]
theorem s_readEnd {t : Nat} {B : Nat → Int32} (hB : TB t B) {F : tF} {A : tA} (h : CT t B F A) {p : Nat} (hp : p ≤ t) (e2 : F 2 = nI p) {K : tF → tA → Prop} (h1 : B (skS B t p) = 59 → ∀ F', F' 2 = nI (skS B t p + 1) → (∀ k, k ≠ 2 → F' k = F k) → K F' A) (h0 : ¬ B (skS B t p) = 59 → ∀ F', F' 2 = nI (skS B t p) → F' 3 = fltS (F 3) (skS B t p) → (∀ k, k ≠ 2 → k ≠ 3 → F' k = F k) → K F' A) : p_X3_readEnd F A K := by
  have ht := hB.1
  have hsp := rE_s (tb_t hB).1 hp
  have hq : skS B t p ≤ t := hsp.2.1
  unfold p_X3_readEnd
  refine s_skipBlanks hB h hp e2 (fun F1 f2 fo => ?_)
  have J42 : ¬ B (skS B t p) = 59 → p_X3_readEnd_J42 F1 A K := by
    intro c
    unfold p_X3_readEnd_J42
    rw [f2]
    exact s_fail (fun F3 g3 go3 => h0 c F3 (by rw [go3 2 (by omega)]; exact f2) (by rw [g3, fo 3 (by omega)]) (fun k a b => by rw [go3 k b]; exact fo k a))
  rw [fo 1 (by omega), h.1, f2]
  refine ⟨fun c => J42 ?_, fun c => ?_⟩
  · have := (nI_leI (a := t) (b := skS B t p) (by omega) (by omega)).mp c
    rw [hB.2.2 _ this]; decide
  · have hl : skS B t p < t := by
      rcases Nat.lt_or_ge (skS B t p) t with w | w
      · exact w
      · exact absurd (nI_le w (by omega)) c
    rw [nI_clamp (by omega), h.2 _ hl]
    exact ⟨vp_in_nI (by omega) (by omega), fun c => J42 c, fun c y hy => h1 c _ (by rw [pk_us, hy]; exact nI_1 _) (fun k hk => by rw [pk_un hk]; exact fo k hk)⟩
