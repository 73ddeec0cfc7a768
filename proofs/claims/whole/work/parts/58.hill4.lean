/-! the whole text; hill, side by side -/
theorem nV_ge {t : Nat} {B : Nat → Int32} (hB : TB t B) {m : Int32} {p : Nat} (hp : p ≤ t) : p ≤ (nV B t m p).2.1 := by
  obtain ⟨q1, q2⟩ := sk_le hB hp
  unfold nV
  split
  · exact Nat.le_trans q1 (dE_le hB q2).1
  · exact q1
theorem oV_ge {t : Nat} {B : Nat → Int32} (hB : TB t B) {w : Nat} {m : Int32} {p : Nat} (hp : p ≤ t) : p ≤ (oV B t w m p).2.1 := by
  obtain ⟨q1, q2⟩ := sk_le hB hp
  unfold oV
  split
  · obtain ⟨a1', a2'⟩ := aE_le hB q2
    exact Nat.le_trans q1 (Nat.le_trans a1' (nV_ge hB a2'))
  · exact Nat.le_refl _
theorem oV_in {t : Nat} {B : Nat → Int32} (hB : TB t B) {w p : Nat} (hp : p ≤ t) {M : Nat} (hM : M < 1000) : inR (oV B t w (nI M) p).2.2 (M + 1) := by
  unfold oV
  split
  · exact nV_in hB (aE_le hB (sk_le hB hp).2).2 hM
  · exact ⟨0, by omega, rfl⟩
theorem sheepAt_le {t : Nat} {B : Nat → Int32} (hB : TB t B) {kd : Int32} {p q : Nat} {s : tF} (h1 : q ≤ p) (hp : p ≤ t) : q ≤ (sheepAt B t kd p s q).2.1 ∧ (sheepAt B t kd p s q).2.1 ≤ t := by
  have x1 := oV_ge hB (w := 6) (m := 9) hp
  have x2 := oV_le hB (w := 6) (m := 9) hp
  have y1 := oV_ge hB (w := 7) (m := 9) x2
  have y2 := oV_le hB (w := 7) (m := 9) x2
  have z1 := oV_ge hB (w := 8) (m := 5) y2
  have z2 := oV_le hB (w := 8) (m := 5) y2
  unfold sheepAt
  by_cases c8 : nS s < 8
  · rw [if_pos c8]
    by_cases c6 : (oV B t 6 9 p).1 = true
    · rw [if_pos c6]
      by_cases c7 : (oV B t 7 9 (oV B t 6 9 p).2.1).1 = true
      · rw [if_pos c7]; exact ⟨Nat.le_trans h1 (Nat.le_trans x1 (Nat.le_trans y1 z1)), z2⟩
      · rw [if_neg c7]; exact ⟨Nat.le_trans h1 (Nat.le_trans x1 y1), y2⟩
    · rw [if_neg c6]; exact ⟨Nat.le_trans h1 x1, x2⟩
  · rw [if_neg c8]; exact ⟨Nat.le_refl _, Nat.le_trans h1 hp⟩
theorem placeAt_le {t : Nat} {B : Nat → Int32} (hB : TB t B) {row p : Nat} {s : tF} (hp : p ≤ t) : p ≤ (placeAt B t row p s).2.1 ∧ (placeAt B t row p s).2.1 ≤ t := by
  have x1 := nV_ge hB (m := 5) hp
  have x2 := nV_le hB (m := 5) hp
  obtain ⟨q1, q2⟩ := sk_le hB x2
  obtain ⟨a1', a2'⟩ := aE_le hB q2
  have z1 := nV_ge hB (m := 9) a2'
  have z2 := nV_le hB (m := 9) a2'
  unfold placeAt
  by_cases c5 : (nV B t 5 p).1 = true
  · rw [if_pos c5]
    by_cases cw : wdB B t (skS B t (nV B t 5 p).2.1) 10 = true
    · rw [if_pos cw]; exact ⟨Nat.le_trans x1 (Nat.le_trans q1 (Nat.le_trans a1' z1)), z2⟩
    · rw [if_neg cw]; exact ⟨Nat.le_trans x1 q1, q2⟩
  · rw [if_neg c5]; exact ⟨x1, x2⟩
theorem item_le {t : Nat} {B : Nat → Int32} (hB : TB t B) {q : Nat} {s : tF} (hq : q ≤ t) : q ≤ (itemS B t q s).2.1 ∧ (itemS B t q s).2.1 ≤ t := by
  obtain ⟨a1', a2'⟩ := aE_le hB hq
  have N : ∀ (m : Int32), q ≤ (nV B t m (aE B t q)).2.1 ∧ (nV B t m (aE B t q)).2.1 ≤ t := fun m => ⟨Nat.le_trans a1' (nV_ge hB a2'), nV_le hB a2'⟩
  have P : ∀ row : Nat, q ≤ (placeAt B t row (aE B t q) s).2.1 ∧ (placeAt B t row (aE B t q) s).2.1 ≤ t := fun row => ⟨Nat.le_trans a1' (placeAt_le hB a2').1, (placeAt_le hB a2').2⟩
  unfold itemS
  by_cases k0 : 0 ≤ kdW B t q
  · rw [if_pos k0]; exact sheepAt_le hB a1' a2'
  rw [if_neg k0]
  by_cases c9 : wdB B t q 9 = true
  · rw [if_pos c9]; exact P 9
  rw [if_neg c9]
  by_cases c11 : wdB B t q 11 = true
  · rw [if_pos c11]; exact P 15
  rw [if_neg c11]
  by_cases c12 : wdB B t q 12 = true
  · rw [if_pos c12]; exact N 5
  rw [if_neg c12]
  by_cases c13 : wdB B t q 13 = true
  · rw [if_pos c13]; exact N 5
  rw [if_neg c13]
  by_cases c14 : wdB B t q 14 = true
  · rw [if_pos c14]; exact N 9
  rw [if_neg c14]
  by_cases c15 : wdB B t q 15 = true
  · rw [if_pos c15]; exact N 9
  rw [if_neg c15]
  by_cases c16 : wdB B t q 16 = true
  · rw [if_pos c16]; exact N 9
  rw [if_neg c16]
  by_cases c17 : wdB B t q 17 = true
  · rw [if_pos c17]; exact N 99
  rw [if_neg c17]
  exact ⟨Nat.le_refl _, hq⟩
theorem st_pos {t : Nat} {B : Nat → Int32} (hB : TB t B) {p : Nat} {s : tF} (hp : p ≤ t) (h : (stS B t p s).1 = true) : p < (stS B t p s).2.1 := by
  obtain ⟨q1, q2⟩ := sk_le hB hp
  obtain ⟨i1, i2⟩ := item_le hB (s := s) q2
  obtain ⟨e1, e2⟩ := sk_le hB i2
  unfold stS bd at h ⊢
  by_cases c : (itemS B t (skS B t p) s).1 = true
  · rw [if_pos c] at h ⊢
    unfold endS at h ⊢
    by_cases d : B (skS B t (itemS B t (skS B t p) s).2.1) = 59
    · rw [if_pos d]
      show p < skS B t (itemS B t (skS B t p) s).2.1 + 1
      omega
    · rw [if_neg d] at h; exact Bool.noConfusion (show false = true from h)
  · rw [if_neg c] at h; exact absurd h c
theorem zn_put {s : tF} (zn : ZN s) {k : Nat} {v : Int32} (h1 : 1 ≤ k) (h2 : k < 21) : ZN (upd s k v) := by
  intro j hj
  have e : nS (upd s k v) = nS s := by unfold nS; rw [pk_un (by omega)]
  rw [e] at hj
  rw [pk_un (by omega)]; exact zn j hj
theorem zn_add {s : tF} (zn : ZN s) (h8 : nS s < 8) {k e f l : Int32} : ZN (addS s k e f l) := by
  intro j hj
  rw [nS_add h8] at hj
  unfold addS
  rw [pk_un (by omega), pk_un (by omega), pk_un (by omega), pk_un (by omega), pk_un (by omega)]
  exact zn j (by omega)
theorem item_ok {t : Nat} {B : Nat → Int32} (hB : TB t B) {q : Nat} {s : tF} (hq : q ≤ t) (ok : OkS s) (zn : ZN s) (h : (itemS B t q s).1 = true) : OkS (itemS B t q s).2.2 ∧ ZN (itemS B t q s).2.2 := by
  obtain ⟨a1', a2'⟩ := aE_le hB hq
  have N : ∀ (k M : Nat), M < 1000 → 1 ≤ k → k < 21 → bnd k = M → OkS (numAt B t k (nI M) (aE B t q) s).2.2 ∧ ZN (numAt B t k (nI M) (aE B t q) s).2.2 := fun k M hM h1 h2 hb =>
    ⟨ok.put h1 (fun _ => by rw [hb]; exact (nV_in hB a2' hM).up), zn_put zn h1 h2⟩
  have P : ∀ row : Nat, (row = 9 ∨ row = 15) → OkS (placeAt B t row (aE B t q) s).2.2 ∧ ZN (placeAt B t row (aE B t q) s).2.2 := by
    intro row hrow
    have x2 := nV_le hB (m := 5) a2'
    obtain ⟨y, hy, ey⟩ : inR (nV B t (nI 5) (aE B t q)).2.2 6 := nV_in hB a2' (by omega)
    have ey : (nV B t 5 (aE B t q)).2.2 = nI y := ey
    have cy : (nV B t 5 (aE B t q)).2.2.toNatClampNeg = y := by rw [ey]; exact nI_clamp (by omega)
    unfold placeAt
    by_cases c5 : (nV B t 5 (aE B t q)).1 = true
    · rw [if_pos c5]
      by_cases cw : wdB B t (skS B t (nV B t 5 (aE B t q)).2.1) 10 = true
      · rw [if_pos cw, cy]
        have z := (nV_in hB (aE_le hB (sk_le hB x2).2).2 (M := 9) (by omega)).up
        refine ⟨ok.put (by omega) (fun _ => ?_), zn_put zn (by omega) (by omega)⟩
        rcases hrow with rfl | rfl
        · rw [bnd_g (by omega)]; exact z
        · rw [show 15 + y = 9 + (6 + y) by omega, bnd_g (by omega)]; exact z
      · rw [if_neg cw]; exact ⟨ok, zn⟩
    · rw [if_neg c5]; exact ⟨ok, zn⟩
  unfold itemS at h ⊢
  by_cases k0 : 0 ≤ kdW B t q
  · rw [if_pos k0]
    have uk : upto (kdW B t q) 5 := by
      rcases kdW_up B t q with e | ⟨w, hw, e, -⟩
      · rw [e] at k0; exact absurd k0 (by decide)
      · exact ⟨w, by omega, e⟩
    have x2 := oV_le hB (w := 6) (m := 9) a2'
    have y2 := oV_le hB (w := 7) (m := 9) x2
    unfold sheepAt
    by_cases c8 : nS s < 8
    · rw [if_pos c8]
      by_cases c6 : (oV B t 6 9 (aE B t q)).1 = true
      · rw [if_pos c6]
        by_cases c7 : (oV B t 7 9 (oV B t 6 9 (aE B t q)).2.1).1 = true
        · rw [if_pos c7]
          exact ⟨ok.add c8 uk (oV_in hB a2' (M := 9) (by omega)).up (oV_in hB x2 (M := 9) (by omega)).up (oV_in hB y2 (M := 5) (by omega)).up, zn_add zn c8⟩
        · rw [if_neg c7]; exact ⟨ok, zn⟩
      · rw [if_neg c6]; exact ⟨ok, zn⟩
    · rw [if_neg c8]; exact ⟨ok, zn⟩
  rw [if_neg k0]
  by_cases c9 : wdB B t q 9 = true
  · rw [if_pos c9]; exact P 9 (Or.inl rfl)
  rw [if_neg c9]
  by_cases c11 : wdB B t q 11 = true
  · rw [if_pos c11]; exact P 15 (Or.inr rfl)
  rw [if_neg c11]
  by_cases c12 : wdB B t q 12 = true
  · rw [if_pos c12]; exact N 3 5 (by omega) (by omega) (by omega) rfl
  rw [if_neg c12]
  by_cases c13 : wdB B t q 13 = true
  · rw [if_pos c13]
    refine ⟨ok.put (by omega) (fun _ => ?_), zn_put zn (by omega) (by omega)⟩
    obtain ⟨y, hy, ey⟩ : inR (nV B t (nI 5) (aE B t q)).2.2 6 := nV_in hB a2' (by omega)
    have ey : (nV B t 5 (aE B t q)).2.2 = nI y := ey
    rw [ey]
    exact ⟨1 + y, by show 1 + y ≤ 6; omega, nI_add 1 y⟩
  rw [if_neg c13]
  by_cases c14 : wdB B t q 14 = true
  · rw [if_pos c14]; exact N 5 9 (by omega) (by omega) (by omega) rfl
  rw [if_neg c14]
  by_cases c15 : wdB B t q 15 = true
  · rw [if_pos c15]; exact N 6 9 (by omega) (by omega) (by omega) rfl
  rw [if_neg c15]
  by_cases c16 : wdB B t q 16 = true
  · rw [if_pos c16]; exact N 7 9 (by omega) (by omega) (by omega) rfl
  rw [if_neg c16]
  by_cases c17 : wdB B t q 17 = true
  · rw [if_pos c17]; exact N 8 99 (by omega) (by omega) (by omega) rfl
  rw [if_neg c17]
  exact ⟨ok, zn⟩
theorem st_ok {t : Nat} {B : Nat → Int32} (hB : TB t B) {p : Nat} {s : tF} (hp : p ≤ t) (ok : OkS s) (zn : ZN s) (h : (stS B t p s).1 = true) : OkS (stS B t p s).2.2 ∧ ZN (stS B t p s).2.2 := by
  obtain ⟨q1, q2⟩ := sk_le hB hp
  unfold stS bd at h ⊢
  by_cases c : (itemS B t (skS B t p) s).1 = true
  · rw [if_pos c] at h ⊢
    have g := item_ok hB q2 ok zn c
    unfold endS at h ⊢
    by_cases d : B (skS B t (itemS B t (skS B t p) s).2.1) = 59
    · rw [if_pos d]; exact g
    · rw [if_neg d]; exact g
  · rw [if_neg c] at h; exact absurd h c
/-- the whole text from p on -/
def rd (B : Nat → Int32) (t : Nat) : Nat → Nat → tF → PS
  | 0, p, s => (true, p, s)
  | n + 1, p, s => if skS B t p < t then (if (stS B t p s).1 = true then rd B t n (stS B t p s).2.1 (stS B t p s).2.2 else stS B t p s) else (true, p, s)
theorem rd_s {B : Nat → Int32} {t n p : Nat} {s : tF} : rd B t (n + 1) p s = if skS B t p < t then (if (stS B t p s).1 = true then rd B t n (stS B t p s).2.1 (stS B t p s).2.2 else stS B t p s) else (true, p, s) := rfl
theorem c_skip {t : Nat} {B : Nat → Int32} (hB : TB t B) {b : Bool} {p : Nat} {F : tF} {A : tA} (cx : CXr t B b p F A) {K : tF → tA → Prop} (hk : ∀ F', CXr t B b p F' A → (b = true → F' 2 = nI (skS B t p)) → K F' A) : p_X3_skipBlanks F A K := by
  obtain ⟨p', hp', e2, ht1, ht0⟩ := cx.pos
  obtain ⟨q1, q2⟩ := sk_le hB hp'
  refine s_skipBlanks hB cx.1 hp' e2 (fun F' g2 go => hk F' ⟨cx.1.f (go 1 (by omega)), cx.2.1, ?_⟩ (fun hb => ?_))
  · cases b with
    | true => rw [if_pos rfl]; exact ⟨by rw [go 3 (by omega)]; exact (ht1 rfl).2, _, q2, g2, by rw [skS_id hB hp', (ht1 rfl).1]⟩
    | false => rw [if_neg (by decide)]; exact ⟨by rw [go 3 (by omega)]; exact ht0 rfl, _, q2, g2⟩
  · rw [g2, (ht1 hb).1]
theorem c_loop {t : Nat} {B : Nat → Int32} (hB : TB t B) {A : tA} {K : Int32 → tF → tA → tF → tA → Prop} : ∀ (n p i : Nat) (F F1 : tF) (A1 : tA) (s : tF), t < n + p → i ≤ p → CXr t B true p F A → F 2 = nI (skS B t p) → HR F1 A1 s → OkS s → (∀ F' F1' A1', CFr t B F' A F1' A1' (rd B t n p s) → K (F' 3) F' A F1' A1') → p_X3_readOnto_L16 K (n + 1) F A F1 A1 (nI i) := by
  have ht := hB.1
  intro n
  induction n with
  | zero => intro p i F F1 A1 s h _ cx; have := cx.2.1; omega
  | succ n ih =>
    intro p i F F1 A1 s h hi cx e2 hr ok hk
    obtain ⟨q1, q2⟩ := sk_le hB cx.2.1
    obtain ⟨p', hp', -, ht1, -⟩ := cx.pos
    have e3 : F 3 = -1 := (ht1 rfl).2
    have e1 : F 1 = nI t := cx.1.1
    have OUT : ¬ skS B t p < t → K (F 3) F A F1 A1 := fun c => hk F F1 A1 (by rw [rd_s, if_neg c]; exact ⟨cx, hr.in9 ok, fun _ => ⟨hr, ok⟩⟩)
    rw [p_X3_readOnto_L16, e1, e2]
    refine ⟨fun c => OUT (fun w => ?_), fun c => ⟨fun c2 => OUT (fun w => nI_ge w (by omega) c2), fun c2 => ⟨fun c3 => absurd e3 c3, fun _ => ?_⟩⟩⟩
    · exact nI_ge (a := i) (b := 200) (by omega) (by omega) c
    · have lt : skS B t p < t := by
        rcases Nat.lt_or_ge (skS B t p) t with w | w
        · exact w
        · exact absurd (nI_le w (by omega)) c2
      refine c_statement hB cx e2 hr ok (fun F2 F12 A12 cf => c_skip hB cf.1 (fun F3 cx3 e3' y hy => ?_))
      rw [hy, nI_1]
      by_cases yb : (stS B t p s).1 = true
      · obtain ⟨hr', ok'⟩ := cf.2.2 yb
        have pos := st_pos hB cx.2.1 yb
        rw [yb] at cx3
        refine ih _ (i + 1) F3 F12 A12 _ (by omega) (by omega) cx3 (e3' yb) hr' ok' (fun F' F1' A1' c' => hk F' F1' A1' ?_)
        rw [rd_s, if_pos lt, if_pos yb]; exact c'
      · have G : K (F3 3) F3 A F12 A12 := hk F3 F12 A12 (by rw [rd_s, if_pos lt, if_neg yb]; exact ⟨cx3, cf.2.1, cf.2.2⟩)
        have ef : (stS B t p s).1 = false := by
          cases h9 : (stS B t p s).1 with
          | true => exact absurd h9 yb
          | false => rfl
        obtain ⟨p9, hp9, -, -, ht0⟩ := cx3.pos
        have ne : ¬ F3 3 = -1 := by rw [ht0 ef]; exact nI_m1' (Nat.le_trans cx3.2.1 ht)
        rw [p_X3_readOnto_L16]
        exact ⟨fun _ => G, fun _ => ⟨fun _ => G, fun _ => ⟨fun _ => G, fun c => absurd c ne⟩⟩⟩
theorem tk_0 {t : Nat} {B : Nat → Int32} (hB : TB t B) {q : Nat} : tk B q = 0 ↔ ¬ q < t := by
  constructor
  · intro h w
    obtain ⟨j, hj, e⟩ := hB.2.1 q w
    unfold tk at h
    rw [e, if_neg (nI_pos (by omega))] at h
    split at h
    · exact absurd h (by decide)
    · split at h
      · exact absurd h (by decide)
      · exact absurd h (by decide)
  · intro h
    unfold tk
    rw [hB.2.2 q (by omega), if_pos (by decide)]
theorem m_loop {t : Nat} {B : Nat → Int32} (hB : TB t B) {F0 : tF} {A0 : tA} (h6 : F0 6 = nI t) (h5 : ∀ k, k < t → A0 5 k = B k) {K : Int32 → tF → tA → Prop} : ∀ (n p : Nat) (F : tF) (A : tA) (s : tF), t < n + p → RX t B F0 A0 F A (true, p, s) → OkS s → ZN s → (∀ F' A', RX t B F0 A0 F' A' (rd B t n p s) → p_X7_hill_J50 F' A' K) → p_X7_hill_L29 K (n + 1) F A := by
  intro n
  induction n with
  | zero => intro p F A s h r; have : p ≤ t := r.2.2.1; omega
  | succ n ih =>
    intro p F A s h r ok zn hk
    obtain ⟨hf, ha, hp, hz, hT, h11, hA⟩ := id r
    have hp : p ≤ t := hp
    have hT : Tok B t F (skS B t p) := hT
    obtain ⟨q1, q2⟩ := sk_le hB hp
    rw [p_X7_hill_L29]
    refine ⟨fun c => absurd h11 c, fun _ => ⟨fun c => ?_, fun c => ?_⟩⟩
    · rw [hT.2.2.1] at c
      have nl := (tk_0 hB).mp c
      exact hk F A (by rw [rd_s, if_neg nl]; exact r)
    · rw [hT.2.2.1] at c
      have lt : skS B t p < t := by
        rcases Nat.lt_or_ge (skS B t p) t with w | w
        · exact w
        · exact absurd ((tk_0 hB).mpr (by omega)) c
      refine m_itemHere hB h6 h5 r ok zn (fun F2 A2 r2 => ?_)
      by_cases yb : (stS B t p s).1 = true
      · obtain ⟨ok', zn'⟩ := st_ok hB hp ok zn yb
        have pos := st_pos hB hp yb
        have r3 : RX t B F0 A0 F2 A2 (true, (stS B t p s).2.1, (stS B t p s).2.2) := by
          rw [← yb]; exact r2
        exact ih _ F2 A2 _ (by omega) r3 ok' zn' (fun F' A' r' => hk F' A' (by rw [rd_s, if_pos lt, if_pos yb]; exact r'))
      · have G := hk F2 A2 (by rw [rd_s, if_pos lt, if_neg yb]; exact r2)
        obtain ⟨q', -, -, -, bad⟩ := m_tok hB r2
        have e11 : F2 11 = 1 := (bad yb).2
        rw [p_X7_hill_L29]
        exact ⟨fun _ => G, fun c => absurd (e11.symm.trans c) (by decide)⟩
/-- as at first; z stays -/
def startS (s : tF) : tF := fun k => if k = 2 then s 2 else if k = 5 then 3 else if k = 6 then 2 else if k = 7 then 1 else if k = 8 then 20 else if 9 ≤ k ∧ k < 15 then 5 else 0
theorem startS_g (s : tF) {p : Nat} (hp : p < 6) : startS s (9 + p) = 5 := by
  unfold startS
  rw [if_neg (by omega), if_neg (by omega), if_neg (by omega), if_neg (by omega), if_neg (by omega), if_pos (by omega)]
theorem startS_0 (s : tF) {k : Nat} (h : k < 2 ∨ k = 3 ∨ k = 4 ∨ 15 ≤ k) : startS s k = 0 := by
  unfold startS
  rw [if_neg (by omega), if_neg (by omega), if_neg (by omega), if_neg (by omega), if_neg (by omega), if_neg (by omega)]
theorem startS_n (s : tF) : nS (startS s) = 0 := by unfold nS; rw [startS_0 s (Or.inl (by omega))]; decide
theorem OkS.start (s : tF) : OkS (startS s) := by
  refine ⟨⟨0, by omega, startS_0 s (Or.inl (by omega))⟩, ⟨0, by omega, startS_0 s (by omega)⟩, ⟨0, by omega, startS_0 s (by omega)⟩, fun k hk => ?_, ⟨20, by omega, rfl⟩, fun p hp => ⟨5, by omega, startS_g s hp⟩, fun p hp => ⟨0, by omega, startS_0 s (by omega)⟩, fun o ho => ?_⟩
  · rcases (show k = 0 ∨ k = 1 ∨ k = 2 by omega) with rfl | rfl | rfl
    · exact ⟨3, by omega, rfl⟩
    · exact ⟨2, by omega, rfl⟩
    · exact ⟨1, by omega, rfl⟩
  · rw [startS_n] at ho; omega
theorem ZN.start (s : tF) : ZN (startS s) := fun k hk => startS_0 s (by omega)
theorem Z53.start (s : tF) : Z53 (startS s) := fun k hk => startS_0 s (by omega)
theorem s_X2_startOver {F : tF} {A : tA} {s : tF} (h : HR F A s) {K : tF → tA → Prop} (hk : ∀ F' A', HR F' A' (startS s) → K F' A') : p_X2_startOver F A K := by
  have h12 : F 12 = s 2 := h.1.2.2.2.2
  unfold p_X2_startOver
  intro f1 g1 f2 g2 f3 g3 f4 g4
  refine lq3 (p_X2_startOver_L31 K) (fun i F' A' x => x = nI i ∧ F' = F ∧ A' 0 = f4 ∧ ∀ p, p < i → A' 1 p = 5 ∧ A' 2 p = 0) 6 0 (by omega) ?_ ?_ ⟨rfl, rfl, va_up_self _ _ _, fun p hp => absurd hp (by omega)⟩
  · rintro n F' A' x ⟨rfl, rfl, e0, b⟩
    rw [p_X2_startOver_L31]
    refine ⟨fun _ => hk _ _ ⟨⟨?_, ?_, ?_, ?_, ?_⟩, fun k hk => ?_, fun p hp => ?_, fun p hp => ?_, fun o ho => ?_⟩, fun c => absurd (nI_le (a := 6) (b := 6) (by omega) (by omega)) c⟩
    · rw [pk_un (by omega), pk_un (by omega), pk_un (by omega), pk_us]; exact (startS_0 s (by omega)).symm
    · rw [pk_un (by omega), pk_un (by omega), pk_us]; exact (startS_0 s (by omega)).symm
    · rw [pk_un (by omega), pk_us]; exact (startS_0 s (by omega)).symm
    · rw [pk_us]; exact (startS_0 s (by omega)).symm
    · rw [pk_un (by omega), pk_un (by omega), pk_un (by omega), pk_un (by omega), h12]; rfl
    · rw [e0, g4, g3, g2, g1]
      rcases (show k = 0 ∨ k = 1 ∨ k = 2 ∨ k = 3 by omega) with rfl | rfl | rfl | rfl
      · rw [pk_un (by omega), pk_un (by omega), pk_un (by omega), pk_us]; rfl
      · rw [pk_un (by omega), pk_un (by omega), pk_us]; rfl
      · rw [pk_un (by omega), pk_us]; rfl
      · rw [pk_us]; rfl
    · rw [(b p hp).1]; exact (startS_g s hp).symm
    · rw [(b p hp).2]; exact (startS_0 s (by omega)).symm
    · rw [startS_n] at ho; omega
  · rintro n i F' A' x h1 h6 ⟨rfl, rfl, e0, b⟩ ih
    rw [p_X2_startOver_L31, nI_clamp (by omega)]
    have ii : vp_in (nI i) 6 := vp_in_nI h6 (by omega)
    refine ⟨fun c => absurd c (nI_ge (a := i) (b := 6) h6 (by omega)), fun _ => ⟨ii, fun f hf => ⟨ii, fun g hg y hy => ih _ _ _ ⟨by rw [hy]; exact nI_1 _, rfl, by rw [va_up_ne _ _ (by omega), va_up_ne _ _ (by omega)]; exact e0, fun p hp => ?_⟩⟩⟩⟩
    rw [va_up_ne _ _ (show 1 ≠ 2 by omega), va_up_self, va_up_self, hf, hg]
    by_cases w : p = i
    · rw [w, pk_us, pk_us]; exact ⟨rfl, rfl⟩
    · rw [pk_un w, pk_un w]; exact b p (by omega)
theorem s_X7_begins {F : tF} {A : tA} (z0 : Z53 (A 0)) {K : tF → tA → Prop} (hk : ∀ A', (∀ k, k ≠ 0 → A' k = A k) → A' 0 = startS (A 0) → K F A') : p_X7_begins F A K := by
  unfold p_X7_begins
  intro y hy
  refine lq3 (p_X7_begins_L9 y K) (fun i F' A' x => F' = F ∧ x = nI i ∧ (∀ k, k ≠ 0 → A' k = A k) ∧ Z53 (A' 0) ∧ ∀ k, k < i → A' 0 k = 0) 53 0 (by omega) ?_ ?_ ⟨rfl, rfl, fun _ _ => rfl, z0, fun k hk => absurd hk (by omega)⟩
  · rintro n F' A' x ⟨rfl, rfl, t, z, b⟩
    have a0' : ∀ k, A' 0 k = 0 := fun k => by
      rcases Nat.lt_or_ge k 53 with c | c
      · exact b k c
      · exact z k c
    rw [p_X7_begins_L9]
    refine ⟨fun _ => ?_, fun c => absurd (nI_le (a := 53) (b := 53) (by omega) (by omega)) c⟩
    intro f34 g34 f41 g41 f49 g49 f57 g57 f66 g66
    refine lq3 (p_X7_begins_L69 K) (fun i F2 A2 x => F2 = F' ∧ x = nI i ∧ (∀ k, k ≠ 0 → A2 k = A k) ∧ ∀ k, A2 0 k = if 9 ≤ k ∧ k < 9 + i then 5 else f66 k) 6 0 (by omega) ?_ ?_ ⟨rfl, rfl, fun k hk => by rw [va_up_ne _ _ hk]; exact t k hk, fun k => by rw [va_up_self, if_neg (by omega)]⟩
    · rintro n F2 A2 x ⟨rfl, rfl, t2, b2⟩
      rw [p_X7_begins_L69]
      refine ⟨fun _ => hk A2 t2 (funext fun k => ?_), fun c => absurd (nI_le (a := 6) (b := 6) (by omega) (by omega)) c⟩
      rw [b2 k]
      unfold startS
      by_cases c : 9 ≤ k ∧ k < 9 + 6
      · rw [if_pos c, if_neg (by omega), if_neg (by omega), if_neg (by omega), if_neg (by omega), if_neg (by omega), if_pos c]
      · rw [if_neg c, g66, g57, g49, g41, g34]
        by_cases e8 : k = 8
        · subst e8; rfl
        rw [pk_un e8]
        by_cases e7 : k = 7
        · subst e7; rfl
        rw [pk_un e7]
        by_cases e6 : k = 6
        · subst e6; rfl
        rw [pk_un e6]
        by_cases e5 : k = 5
        · subst e5; rfl
        rw [pk_un e5]
        by_cases e2 : k = 2
        · subst e2; rw [pk_us, hy, if_pos rfl]
        rw [pk_un e2, a0', if_neg e2, if_neg e5, if_neg e6, if_neg e7, if_neg e8, if_neg c]
    · rintro n i F2 A2 x h1 h6 ⟨rfl, rfl, t2, b2⟩ ih
      have e9 : (9 : Int32) + nI i = nI (9 + i) := nI_add 9 i
      rw [p_X7_begins_L69, e9, nI_clamp (by omega)]
      refine ⟨fun c => absurd c (nI_ge (a := i) (b := 6) h6 (by omega)), fun _ => ⟨vp_in_nI (by omega) (by omega), fun f hf y hy => ih _ _ _ ⟨rfl, by rw [hy]; exact nI_1 _, fun k hk => by rw [va_up_ne _ _ hk]; exact t2 k hk, fun k => ?_⟩⟩⟩
      rw [va_up_self, hf]
      by_cases w : k = 9 + i
      · rw [w, pk_us, if_pos (by omega)]
      · rw [pk_un w, b2 k]
        by_cases c : 9 ≤ k ∧ k < 9 + i
        · rw [if_pos c, if_pos (by omega)]
        · rw [if_neg c, if_neg (by omega)]
  · rintro n i F' A' x h1 h6 ⟨rfl, rfl, t, z, b⟩ ih
    rw [p_X7_begins_L9, nI_clamp (by omega)]
    refine ⟨fun c => absurd c (nI_ge (a := i) (b := 53) h6 (by omega)), fun _ => ⟨vp_in_nI h6 (by omega), fun f hf y hy => ih _ _ _ ⟨rfl, by rw [hy]; exact nI_1 _, fun k hk => by rw [va_up_ne _ _ hk]; exact t k hk, ?_, fun k hk => ?_⟩⟩⟩
    · rw [va_up_self, hf]; exact z.up h6
    · rw [va_up_self, hf]
      by_cases w : k = i
      · rw [w, pk_us]
      · rw [pk_un w]; exact b k (by omega)
theorem j_hill {F Ft Fn Fp : tF} {At An Ap : tA} {FM : tF} {A : tA} (h : HZ Fn An A) (hT : IvT Fp Ap FM A) : p_X6_hill F Ft At Fn An Fp Ap (fun r F' _ _ Fn' An' Fp' Ap' => p_X7_hill FM A (fun r' FM' A' => r = r' ∧ (∀ k, k ≠ 9 → F' k = F k) ∧ (∀ k, (k < 6 ∨ 11 < k) → k ≠ 15 → FM' k = FM k) ∧ (∀ k, k ≠ 0 → k ≠ 3 → A' k = A k) ∧ HZ Fn' An' A' ∧ IvT Fp' Ap' FM' A' ∧ ((F' 9 = F 9 ∧ FM' 15 = FM 15) ∨ (F' 9 = 0 ∧ FM' 15 = 0)))) := by
  obtain ⟨hr, ok, z0, z2, z3⟩ := id h
  obtain ⟨t, ht, e1, e6, hb⟩ := hT
  obtain ⟨B, hBd⟩ : ∃ B : Nat → Int32, B = fun k => if k < t then A 5 k else -1 := ⟨_, rfl⟩
  have Blt : ∀ k, k < t → B k = A 5 k := fun k hk => by rw [hBd]; exact if_pos hk
  have hB : TB t B := ⟨ht, fun k hk => by rw [Blt k hk]; exact (hb k hk).2, fun k hk => by rw [hBd]; exact if_neg (by omega)⟩
  have CL : ∀ k, k < t → Ap 0 k = B k := fun k hk => by rw [(hb k hk).1, Blt k hk]
  have okS := OkS.start (A 0)
  unfold p_X6_hill
  refine s_X2_copyFrom hr ok (fun F1 A1 r1 => s_X2_startOver r1 (fun F2 A2 r2 => ?_))
  unfold p_X3_readOnto
  have cx0 : CXr t B true 0 (upd (upd Fp 2 (0 : Int32)) 3 (-1 : Int32)) Ap := ⟨⟨by rw [pk_un (by omega), pk_un (by omega)]; exact e1, CL⟩, Nat.zero_le _, by rw [if_pos rfl]; exact ⟨pk_us, 0, Nat.zero_le _, by rw [pk_un (by omega), pk_us]; rfl, rfl⟩⟩
  refine c_skip hB cx0 (fun F3 cx3 e2 => ⟨t + 1 + 1, ?_⟩)
  have REF : ∀ K : Int32 → tF → tA → Prop, (∀ F' A', RX t B FM (va_up A 3 (A 0)) F' A' (rd B t (t + 1) 0 (startS (A 0))) → p_X7_hill_J50 F' A' K) → p_X7_hill FM A K := by
    intro K hk
    unfold p_X7_hill
    refine s_X7_copyRow z0 z3 (s_X7_begins (by rw [va_up_ne _ _ (by omega)]; exact z0) (fun A' t1 eA => ?_))
    rw [va_up_ne _ _ (by omega)] at eA
    refine s_X7_nextToken hB (p := 0) (by rw [pk_un (by omega), pk_un (by omega)]; exact e6) (fun k hk => by rw [t1 5 (by omega), va_up_ne _ _ (by omega), Blt k hk]) (Nat.zero_le _) (by rw [pk_un (by omega), pk_us]; rfl) (fun F' T e11 fr => ⟨t + 1 + 1, ?_⟩)
    refine m_loop hB (F0 := FM) (A0 := va_up A 3 (A 0)) e6 (fun k hk => by rw [va_up_ne _ _ (by omega)]; exact (Blt k hk).symm) (t + 1) 0 F' A' (startS (A 0)) (by omega) ⟨fun k hk => ?_, t1, Nat.zero_le _, ?_, T, ?_, eA⟩ okS (ZN.start _) hk
    · rw [fr k hk, pk_un (by omega), pk_un (by omega)]
    · rw [eA]; exact Z53.start _
    · rw [e11, pk_us]
  refine c_loop hB (t + 1) 0 0 F3 F2 A2 (startS (A 0)) (by omega) (by omega) cx3 (e2 rfl) r2 okS (fun F4 F5 A5 cf => ?_)
  generalize rd B t (t + 1) 0 (startS (A 0)) = Y at cf REF
  obtain ⟨p', hp', -, ht1, ht0⟩ := cf.1.pos
  by_cases yb : Y.1 = true
  · obtain ⟨hr', ok'⟩ := cf.2.2 yb
    refine ⟨fun _ => s_X2_copyFrom hr' ok' (fun F6 A6 r6 => REF _ (fun F' A' rx => ?_)), fun c => absurd (ht1 yb).2 c⟩
    obtain ⟨hf, ha, hp, hz, hx⟩ := rx
    rw [if_pos yb] at hx
    obtain ⟨T, h11, hA⟩ := hx
    unfold p_X7_hill_J50
    refine ⟨fun _ => ⟨by rw [hA]; exact r6.1.1, fun k hk => pk_un hk, fun k hk h15 => by rw [pk_un h15, pk_un (by omega)]; exact hf k (by omega), fun k h0 h3 => by rw [ha k h0, va_up_ne _ _ h3], ⟨by rw [hA]; exact r6, by rw [hA]; exact ok', hz, by rw [ha 2 (by omega), va_up_ne _ _ (by omega)]; exact z2, by rw [ha 3 (by omega), va_up_self]; exact z0⟩, ⟨0, by omega, by rw [pk_us]; rfl, by rw [pk_un (by omega), pk_us]; rfl, fun k hk => absurd hk (by omega)⟩, Or.inr ⟨pk_us, pk_us⟩⟩, fun c => absurd h11 c⟩
  · have yf : Y.1 = false := by
      cases h9 : Y.1 with
      | true => exact absurd h9 yb
      | false => rfl
    have e3 : F4 3 = nI Y.2.1 := ht0 yf
    have np : Y.2.1 ≤ t := cf.1.2.1
    refine ⟨fun c => absurd (e3.symm.trans c) (nI_m1' (by omega)), fun _ => REF _ (fun F' A' rx => ?_)⟩
    obtain ⟨hf, ha, hp, hz, hx⟩ := rx
    rw [if_neg yb] at hx
    obtain ⟨T, h11⟩ := hx
    have e30 : A' 3 = A 0 := by rw [ha 3 (by omega), va_up_self]
    unfold p_X7_hill_J50
    refine ⟨fun c => absurd (h11.symm.trans c) (by decide), fun _ => s_X7_copyRow (by rw [e30]; exact z0) hz ?_⟩
    rw [e30]
    exact ⟨by rw [e3, T.1], fun k hk => rfl, fun k hk h15 => by rw [pk_un (by omega)]; exact hf k (by omega), fun k h0 h3 => by rw [va_up_ne _ _ h0, ha k h0, va_up_ne _ _ h3], ⟨by rw [va_up_self]; exact hr, by rw [va_up_self]; exact ok, by rw [va_up_self]; exact z0, by rw [va_up_ne _ _ (by omega), ha 2 (by omega), va_up_ne _ _ (by omega)]; exact z2, by rw [va_up_ne _ _ (by omega), e30]; exact z0⟩, ⟨0, by omega, by rw [pk_us]; rfl, by rw [pk_us]; rfl, fun k hk => absurd hk (by omega)⟩, Or.inl ⟨rfl, by rw [pk_un (by omega)]; exact hf 15 (by omega)⟩⟩
