/-! what a statement tells, in numbers: whether it is right, where it goes on (or where it is wrong), the hill behind it -/
abbrev PS : Type := Bool × Nat × tF
abbrev PV : Type := Bool × Nat × Int32
def nV (B : Nat → Int32) (t : Nat) (m : Int32) (p : Nat) : PV := if nB B t (skS B t p) m = true then (true, dE B t (skS B t p), dvU B (skS B t p) (dE B t (skS B t p) - skS B t p)) else (false, skS B t p, 0)
def oV (B : Nat → Int32) (t : Nat) (w : Nat) (m : Int32) (p : Nat) : PV := if wdB B t (skS B t p) w = true then nV B t m (aE B t (skS B t p)) else (true, p, 0)
def numAt (B : Nat → Int32) (t k : Nat) (m : Int32) (p : Nat) (s : tF) : PS := ((nV B t m p).1, (nV B t m p).2.1, upd s k (nV B t m p).2.2)
def sheepAt (B : Nat → Int32) (t : Nat) (kd : Int32) (p : Nat) (s : tF) (q : Nat) : PS :=
  if nS s < 8 then
    (if (oV B t 6 9 p).1 = true then
      (if (oV B t 7 9 (oV B t 6 9 p).2.1).1 = true then
        ((oV B t 8 5 (oV B t 7 9 (oV B t 6 9 p).2.1).2.1).1, (oV B t 8 5 (oV B t 7 9 (oV B t 6 9 p).2.1).2.1).2.1, addS s kd (oV B t 6 9 p).2.2 (oV B t 7 9 (oV B t 6 9 p).2.1).2.2 (oV B t 8 5 (oV B t 7 9 (oV B t 6 9 p).2.1).2.1).2.2)
      else (false, (oV B t 7 9 (oV B t 6 9 p).2.1).2.1, s))
    else (false, (oV B t 6 9 p).2.1, s))
  else (false, q, s)
def placeAt (B : Nat → Int32) (t row p : Nat) (s : tF) : PS :=
  if (nV B t 5 p).1 = true then
    (if wdB B t (skS B t (nV B t 5 p).2.1) 10 = true then
      ((nV B t 9 (aE B t (skS B t (nV B t 5 p).2.1))).1, (nV B t 9 (aE B t (skS B t (nV B t 5 p).2.1))).2.1, upd s (row + (nV B t 5 p).2.2.toNatClampNeg) (nV B t 9 (aE B t (skS B t (nV B t 5 p).2.1))).2.2)
    else (false, skS B t (nV B t 5 p).2.1, s))
  else (false, (nV B t 5 p).2.1, s)
def callAt (B : Nat → Int32) (t p : Nat) (s : tF) : PS := ((nV B t 5 p).1, (nV B t 5 p).2.1, upd s 4 (1 + (nV B t 5 p).2.2))
def itemS (B : Nat → Int32) (t q : Nat) (s : tF) : PS :=
  if 0 ≤ kdW B t q then sheepAt B t (kdW B t q) (aE B t q) s q
  else if wdB B t q 9 = true then placeAt B t 9 (aE B t q) s
  else if wdB B t q 11 = true then placeAt B t 15 (aE B t q) s
  else if wdB B t q 12 = true then numAt B t 3 5 (aE B t q) s
  else if wdB B t q 13 = true then callAt B t (aE B t q) s
  else if wdB B t q 14 = true then numAt B t 5 9 (aE B t q) s
  else if wdB B t q 15 = true then numAt B t 6 9 (aE B t q) s
  else if wdB B t q 16 = true then numAt B t 7 9 (aE B t q) s
  else if wdB B t q 17 = true then numAt B t 8 99 (aE B t q) s
  else (false, q, s)
def endS (B : Nat → Int32) (t p : Nat) (s : tF) : PS := if B (skS B t p) = 59 then (true, skS B t p + 1, s) else (false, skS B t p, s)
def bd (x : PS) (g : Nat → tF → PS) : PS := if x.1 = true then g x.2.1 x.2.2 else x
def stS (B : Nat → Int32) (t p : Nat) (s : tF) : PS := bd (itemS B t (skS B t p) s) (endS B t)
theorem dE_pos {B : Nat → Int32} {t q : Nat} (h : 1 ≤ dE B t q - q) : tk B q = 2 := by
  rw [tk_2]
  cases c : cD (B q) with
  | true => rfl
  | false =>
    have : dE B t q = q := runE_0 (b_not c)
    omega
theorem dE_pos' {B : Nat → Int32} {t q : Nat} (hB : TB t B) (hq : q ≤ t) (h : tk B q = 2) : 1 ≤ dE B t q - q := by
  obtain ⟨d1, d2, d3, d4⟩ := rE_s (tb_t hB).2.2 hq
  have d1 : q ≤ dE B t q := d1
  have d4 : cD (B (dE B t q)) = false := d4
  rcases Nat.eq_or_lt_of_le d1 with e | e
  · rw [← e, tk_2.mp h] at d4; exact absurd d4 (by decide)
  · omega
/-! the reference, from a right or a wrong state -/
def RX (t : Nat) (B : Nat → Int32) (F0 : tF) (A0 : tA) (F : tF) (A : tA) (x : PS) : Prop := fr5 F0 F ∧ (∀ k, k ≠ 0 → A k = A0 k) ∧ x.2.1 ≤ t ∧ Z53 (A 0) ∧ (if x.1 = true then Tok B t F (skS B t x.2.1) ∧ F 11 = 0 ∧ A 0 = x.2.2 else Tok B t F x.2.1 ∧ F 11 = 1)
theorem RX.bad {t : Nat} {B : Nat → Int32} {F0 : tF} {A0 : tA} {F : tF} {A : tA} {p : Nat} {s s' : tF} (h : RX t B F0 A0 F A (false, p, s)) : RX t B F0 A0 F A (false, p, s') := h
theorem sk_le {B : Nat → Int32} {t p : Nat} (hB : TB t B) (hp : p ≤ t) : p ≤ skS B t p ∧ skS B t p ≤ t := ⟨(rE_s (tb_t hB).1 hp).1, (rE_s (tb_t hB).1 hp).2.1⟩
theorem aE_le {B : Nat → Int32} {t p : Nat} (hB : TB t B) (hp : p ≤ t) : p ≤ aE B t p ∧ aE B t p ≤ t := ⟨(rE_s (tb_t hB).2.1 hp).1, (rE_s (tb_t hB).2.1 hp).2.1⟩
theorem dE_le {B : Nat → Int32} {t p : Nat} (hB : TB t B) (hp : p ≤ t) : p ≤ dE B t p ∧ dE B t p ≤ t := ⟨(rE_s (tb_t hB).2.2 hp).1, (rE_s (tb_t hB).2.2 hp).2.1⟩
theorem m_need1 {t : Nat} {B : Nat → Int32} (hB : TB t B) {F0 : tF} {A0 : tA} (h6 : F0 6 = nI t) (h5 : ∀ k, k < t → A0 5 k = B k) {F : tF} {A : tA} (hf : fr5 F0 F) (ha : ∀ k, k ≠ 0 → A k = A0 k) {q : Nat} (hq : q ≤ t) (hT : Tok B t F q) (h11 : F 11 = 0) (hz : Z53 (A 0)) {K : tF → tA → Prop} (hk : ∀ F', RX t B F0 A0 F' A (true, tE B t q, A 0) → K F' A) : p_X7_needs F A 1 K := by
  obtain ⟨t1, t2⟩ := tE_le hB hq
  unfold p_X7_needs p_X7_needs_J17
  refine ⟨fun c => absurd h11 c, fun _ => ⟨fun _ => ⟨bo_0, fun c => absurd rfl c, fun _ => ?_⟩, fun c => absurd c (by decide)⟩⟩
  refine s_X7_nextToken hB (p := tE B t q) (by rw [pk_un (by omega), hf 6 (Or.inl (by omega))]; exact h6) (fun k hk => by rw [ha 5 (by omega)]; exact h5 k hk) t2 (by rw [pk_un (by omega)]; exact hT.2.1) (fun F' T e11 fr => hk F' ⟨fun k hk => ?_, ha, t2, hz, ?_⟩)
  · rw [fr k hk, pk_un (by omega)]; exact hf k hk
  · exact ⟨T, by rw [e11, pk_us], rfl⟩
theorem m_need0 {F : tF} {A : tA} {x : Int32} (h : F 11 = 0 → x = 0) {K : tF → tA → Prop} (k : K (upd F 11 1) A) : p_X7_needs F A x K := by
  unfold p_X7_needs p_X7_needs_J12 p_X7_needs_J17
  exact ⟨fun _ => ⟨bo_1, fun _ => k, fun c => absurd c (by decide)⟩, fun c => ⟨fun d => absurd (h c) d, fun _ => ⟨bo_1, fun _ => k, fun c => absurd c (by decide)⟩⟩⟩
theorem RX.wrong {t : Nat} {B : Nat → Int32} {F0 : tF} {A0 : tA} {F : tF} {A : tA} {q : Nat} {s : tF} (hf : fr5 F0 F) (ha : ∀ k, k ≠ 0 → A k = A0 k) (hq : q ≤ t) (hT : Tok B t F q) (hz : Z53 (A 0)) : RX t B F0 A0 (upd F 11 1) A (false, q, s) :=
  ⟨fun k hk => by rw [pk_un (by omega)]; exact hf k hk, ha, hq, hz, ⟨by rw [pk_un (by omega)]; exact hT.1, by rw [pk_un (by omega)]; exact hT.2.1, by rw [pk_un (by omega)]; exact hT.2.2.1, by rw [pk_un (by omega)]; exact hT.2.2.2⟩, pk_us⟩
theorem nB_tok {t : Nat} {B : Nat → Int32} (hB : TB t B) {q : Nat} (hq : q ≤ t) {m : Int32} : nB B t q m = true ↔ (tk B q = 2 ∧ tE B t q - q ≤ 3 ∧ tV B t q ≤ m) := by
  rw [nB_iff]
  constructor
  · rintro ⟨h1, h2, h3⟩
    have k := dE_pos h1
    have et : tE B t q = dE B t q := by unfold tE; rw [if_neg (by rw [k]; decide), if_pos k]
    have ev : tV B t q = dvU B q (dE B t q - q) := by unfold tV; rw [if_pos k]
    rw [et, ev]; exact ⟨k, h2, h3⟩
  · rintro ⟨k, h2, h3⟩
    have et : tE B t q = dE B t q := by unfold tE; rw [if_neg (by rw [k]; decide), if_pos k]
    have ev : tV B t q = dvU B q (dE B t q - q) := by unfold tV; rw [if_pos k]
    rw [et] at h2
    rw [ev] at h3
    exact ⟨dE_pos' hB hq k, h2, h3⟩
theorem nB_yes {t : Nat} {B : Nat → Int32} (hB : TB t B) {q : Nat} (hq : q ≤ t) {m : Int32} (h : nB B t q m = true) : tE B t q = dE B t q ∧ tV B t q = dvU B q (dE B t q - q) := by
  have k := ((nB_tok hB hq).mp h).1
  exact ⟨by unfold tE; rw [if_neg (by rw [k]; decide), if_pos k], by unfold tV; rw [if_pos k]⟩
theorem wd_tE {B : Nat → Int32} {t q w : Nat} (hw : w < 18) (h : wdB B t q w = true) : tE B t q = aE B t q := by
  have hl : ∀ w, w < 18 → 1 ≤ sLn w := by decide +kernel
  have k : tk B q = 1 := aE_pos (t := t) (by rw [(wdB_iff.mp h).1]; exact hl w hw)
  unfold tE; rw [if_pos k]
theorem m_numberTo {t : Nat} {B : Nat → Int32} (hB : TB t B) {F0 : tF} {A0 : tA} (h6 : F0 6 = nI t) (h5 : ∀ k, k < t → A0 5 k = B k) {F : tF} {A : tA} {x : PS} (hx : RX t B F0 A0 F A x) {k : Nat} (hk53 : k < 53) {m : Int32} {K : tF → tA → Prop} (hk : ∀ F' A', RX t B F0 A0 F' A' (bd x (numAt B t k m)) → K F' A') : p_X7_numberTo F A (nI k) m K := by
  have ht := hB.1
  obtain ⟨b, p, s⟩ := x
  obtain ⟨hf, ha, hp, hz, hs⟩ := hx
  have hp : p ≤ t := hp
  unfold p_X7_numberTo p_X7_numberTo_J33 p_X7_numberTo_J34 p_X7_numberTo_J56
  cases b with
  | false =>
    obtain ⟨hT, h11⟩ : Tok B t F p ∧ F 11 = 1 := hs
    have n11 : ¬ F 11 = 0 := by rw [h11]; decide
    have E : ∀ z : Int32, p_X7_needs F A z (fun F' A' => K F' A') := fun z => m_need0 (fun c => absurd c n11) (hk _ _ (RX.wrong hf ha hp hT hz))
    exact ⟨fun _ => ⟨fun _ => E _, fun c => absurd rfl c⟩, fun _ => ⟨fun _ => ⟨fun _ => E _, fun c => absurd rfl c⟩, fun _ => ⟨fun _ => ⟨fun _ => E _, fun c => absurd rfl c⟩, fun _ => ⟨fun c => absurd c (by decide), fun _ => ⟨fun _ => E _, fun c => absurd c n11⟩⟩⟩⟩⟩
  | true =>
    obtain ⟨hT, h11, hA⟩ : Tok B t F (skS B t p) ∧ F 11 = 0 ∧ A 0 = s := hs
    obtain ⟨q1, q2⟩ := sk_le (p := p) hB hp
    obtain ⟨t1, t2⟩ := tE_le hB q2
    have s9 : nI (tE B t (skS B t p)) - nI (skS B t p) = nI (tE B t (skS B t p) - skS B t p) := pk_sub t1
    have er : bd (true, p, s) (numAt B t k m) = numAt B t k m p s := rfl
    rw [er] at hk
    rw [hT.2.2.1, hT.1, hT.2.1, s9, hT.2.2.2]
    have N : ¬ nB B t (skS B t p) m = true → ∀ z : Int32, z = 0 → p_X7_needs F A z (fun F' A' => K F' A') := by
      intro c z hz0
      refine m_need0 (fun _ => hz0) (hk _ _ ?_)
      unfold numAt nV
      rw [if_neg c]
      exact RX.wrong hf ha q2 hT hz
    have le3 : (¬ (3 : Int32) < nI (tE B t (skS B t p) - skS B t p)) ↔ tE B t (skS B t p) - skS B t p ≤ 3 := by
      rw [Int32.not_lt]; exact nI_leI (a := tE B t (skS B t p) - skS B t p) (b := 3) (by omega) (by omega)
    refine ⟨fun c => ⟨fun z => N (fun w => c ((nB_tok hB q2).mp w).1) _ rfl, fun w => absurd rfl w⟩, fun k2 => ⟨fun c => ⟨fun z => N (fun w => le3.mpr ((nB_tok hB q2).mp w).2.1 c) _ rfl, fun w => absurd rfl w⟩, fun k3 => ⟨fun c => ⟨fun z => N (fun w => Int32.not_lt.mpr ((nB_tok hB q2).mp w).2.2 c) _ rfl, fun w => absurd rfl w⟩, fun k4 => ⟨fun w => absurd w (by decide), fun _ => ⟨fun w => absurd h11 w, fun _ => ⟨vp_in_nI hk53 (by omega), fun f hfe => ?_⟩⟩⟩⟩⟩⟩
    have yes : nB B t (skS B t p) m = true := (nB_tok hB q2).mpr ⟨k2, le3.mp k3, Int32.not_lt.mp k4⟩
    obtain ⟨et, ev⟩ := nB_yes hB q2 yes
    rw [nI_clamp (by omega)] at hfe
    refine m_need1 hB h6 h5 hf (A := va_up A 0 f) (fun k hk => by rw [va_up_ne _ _ hk]; exact ha k hk) q2 hT h11 (by rw [va_up_self, hfe]; exact hz.up hk53) (fun F' r => hk _ _ ?_)
    unfold numAt nV
    rw [if_pos yes]
    rw [et, va_up_self] at r
    have e2 : f = upd s k (dvU B (skS B t p) (dE B t (skS B t p) - skS B t p)) := by rw [hfe, ev, hA]
    rw [e2] at r ⊢
    exact r
theorem m_perhaps {t : Nat} {B : Nat → Int32} (hB : TB t B) {F0 : tF} {A0 : tA} (h6 : F0 6 = nI t) (h5 : ∀ k, k < t → A0 5 k = B k) {F : tF} {A : tA} {b : Bool} {p : Nat} {s : tF} (hx : RX t B F0 A0 F A (b, p, s)) {is : Int32} {w : Nat} (hw : w < 18) (his : b = true → is = if wdB B t (skS B t p) w = true then 1 else 0) {k : Nat} (hk53 : k < 53) (hk0 : b = true → s k = 0) {m : Int32} {K : tF → tA → Prop} (hk : ∀ F' A', RX t B F0 A0 F' A' (if b = true then ((oV B t w m p).1, (oV B t w m p).2.1, upd s k (oV B t w m p).2.2) else (false, p, s)) → K F' A') : p_X7_perhaps F A is (nI k) m K := by
  unfold p_X7_perhaps
  cases b with
  | false =>
    have h11 : F 11 = 1 := hx.2.2.2.2.2
    exact ⟨fun _ => hk F A hx, fun c => absurd c (by rw [h11]; decide)⟩
  | true =>
    obtain ⟨hf, ha, hp, hz, hT, h11, hA⟩ := id hx
    have hT : Tok B t F (skS B t p) := hT
    obtain ⟨q1, q2⟩ := sk_le hB hp
    have his := his rfl
    rw [if_pos rfl] at hk
    refine ⟨fun c => absurd h11 c, fun _ => ⟨fun c => ?_, fun c => ?_⟩⟩
    · have nw : ¬ wdB B t (skS B t p) w = true := fun u => by rw [if_pos u] at his; rw [his] at c; exact absurd c (by decide)
      refine hk F A ?_
      unfold oV
      rw [if_neg nw]
      have : upd s k 0 = s := by
        have e0 := hk0 rfl
        rw [← e0]; exact upd_self
      rw [this]; exact hx
    · have yw : wdB B t (skS B t p) w = true := by
        cases u : wdB B t (skS B t p) w with
        | true => rfl
        | false => rw [u] at his; exact absurd his c
      have et := wd_tE hw yw
      obtain ⟨a1', a2'⟩ := aE_le hB q2
      refine s_X7_nextToken hB (p := aE B t (skS B t p)) (by rw [hf 6 (Or.inl (by omega))]; exact h6) (fun k hk => by rw [ha 5 (by omega)]; exact h5 k hk) a2' (by rw [hT.2.1, et]) (fun F' T e11 fr => ?_)
      have r : RX t B F0 A0 F' A (true, aE B t (skS B t p), s) := ⟨fun k hk => by rw [fr k hk]; exact hf k hk, ha, a2', hz, T, by rw [e11]; exact h11, hA⟩
      refine m_numberTo hB h6 h5 r hk53 (fun F2 A2 r2 => hk F2 A2 ?_)
      unfold oV
      rw [if_pos yw]; exact r2
theorem ZN_add {s : tF} {kd : Int32} {n : Nat} (hn : n = nS s) : ∀ k, upd (upd s (21 + 4 * n) kd) 0 (nI (n + 1)) k = if k = 0 then nI (n + 1) else if k = 21 + 4 * n then kd else s k := by
  intro k; unfold upd; rfl
/-- cells behind the last sheep are 0 -/
def ZN (s : tF) : Prop := ∀ k, 21 + 4 * nS s ≤ k → s k = 0
theorem addS_eq {s : tF} {kd e f l : Int32} : upd (upd (upd (upd (upd s (21 + 4 * nS s) kd) 0 (nI (nS s + 1))) (22 + 4 * nS s) e) (23 + 4 * nS s) f) (24 + 4 * nS s) l = addS s kd e f l := by
  funext k
  unfold addS
  simp only [upd]
  by_cases c0 : k = 0
  · rw [if_neg (by omega), if_neg (by omega), if_neg (by omega), if_pos c0, if_pos c0]
  · by_cases c4 : k = 24 + 4 * nS s
    · rw [if_pos c4, if_neg c0, if_pos c4]
    · by_cases c3 : k = 23 + 4 * nS s
      · rw [if_neg c4, if_pos c3, if_neg c0, if_neg c4, if_pos c3]
      · by_cases c2 : k = 22 + 4 * nS s
        · rw [if_neg c4, if_neg c3, if_pos c2, if_neg c0, if_neg c4, if_neg c3, if_pos c2]
        · rw [if_neg c4, if_neg c3, if_neg c2, if_neg c0, if_neg c0, if_neg c4, if_neg c3, if_neg c2]
theorem nV_le {t : Nat} {B : Nat → Int32} (hB : TB t B) {m : Int32} {p : Nat} (hp : p ≤ t) : (nV B t m p).2.1 ≤ t := by
  obtain ⟨q1, q2⟩ := sk_le hB hp
  unfold nV
  split
  · exact (dE_le hB q2).2
  · exact q2
theorem oV_le {t : Nat} {B : Nat → Int32} (hB : TB t B) {w : Nat} {m : Int32} {p : Nat} (hp : p ≤ t) : (oV B t w m p).2.1 ≤ t := by
  obtain ⟨q1, q2⟩ := sk_le hB hp
  unfold oV
  split
  · exact nV_le hB (aE_le hB q2).2
  · exact hp
theorem m_sheepHere {t : Nat} {B : Nat → Int32} (hB : TB t B) {F0 : tF} {A0 : tA} (h6 : F0 6 = nI t) (h5 : ∀ k, k < t → A0 5 k = B k) {F : tF} {A : tA} {p : Nat} {s : tF} (hx : RX t B F0 A0 F A (true, p, s)) (ok : OkS s) (zn : ZN s) {kd : Int32} (he : tE B t (skS B t p) = aE B t (skS B t p)) {K : tF → tA → Prop} (hk : ∀ F' A', RX t B F0 A0 F' A' (sheepAt B t kd (aE B t (skS B t p)) s (skS B t p)) → K F' A') : p_X7_sheepHere F A kd K := by
  have hn := ok.n
  obtain ⟨hf, ha, hp, hz, hT, h11, hA⟩ := id hx
  have hT : Tok B t F (skS B t p) := hT
  have hA : A 0 = s := hA
  obtain ⟨q1, q2⟩ := sk_le hB hp
  obtain ⟨a1', a2'⟩ := aE_le hB q2
  have FA : ∀ {F' : tF} {A' : tA} {x : PS}, RX t B F0 A0 F' A' x → F' 6 = nI t ∧ ∀ k, k < t → A' 5 k = B k := fun r => ⟨by rw [r.1 6 (Or.inl (by omega))]; exact h6, fun k hk => by rw [r.2.1 5 (by omega)]; exact h5 k hk⟩
  -- the token of a state, right or wrong
  have TK : ∀ {F' : tF} {A' : tA} {b : Bool} {p' : Nat} {s' : tF}, RX t B F0 A0 F' A' (b, p', s') → ∃ q, q ≤ t ∧ Tok B t F' q ∧ (b = true → q = skS B t p') := by
    intro F' A' b p' s' r
    cases b with
    | true => exact ⟨skS B t p', (sk_le hB r.2.2.1).2, r.2.2.2.2.1, fun _ => rfl⟩
    | false => exact ⟨p', r.2.2.1, r.2.2.2.2.1, fun c => absurd c (by decide)⟩
  -- behind the name
  have J56 : ∀ {F' : tF} {A' : tA} {b : Bool} {p' : Nat} {s' : tF}, RX t B F0 A0 F' A' (b, p', s') → (b = true → s' = upd (upd s (21 + 4 * nS s) kd) 0 (nI (nS s + 1))) → (nS s < 8 ∨ b = false) → nS s ≤ 8 →
      (∀ F2 A2, RX t B F0 A0 F2 A2 (if b = true then (if (oV B t 6 9 p').1 = true then
      (if (oV B t 7 9 (oV B t 6 9 p').2.1).1 = true then
        ((oV B t 8 5 (oV B t 7 9 (oV B t 6 9 p').2.1).2.1).1, (oV B t 8 5 (oV B t 7 9 (oV B t 6 9 p').2.1).2.1).2.1, addS s kd (oV B t 6 9 p').2.2 (oV B t 7 9 (oV B t 6 9 p').2.1).2.2 (oV B t 8 5 (oV B t 7 9 (oV B t 6 9 p').2.1).2.1).2.2)
      else (false, (oV B t 7 9 (oV B t 6 9 p').2.1).2.1, s))
    else (false, (oV B t 6 9 p').2.1, s)) else (false, p', s)) → K F2 A2) → p_X7_sheepHere_J56 F' A' K (nI (21 + 4 * nS s)) := by
    intro F' A' b p' s' r hs' hb h8 hk
    have c22 : b = true → 24 + 4 * nS s < 53 := fun hbt => by
      rcases hb with w | w
      · omega
      · rw [hbt] at w; exact absurd w (by decide)
    unfold p_X7_sheepHere_J56
    have i1 : nI (21 + 4 * nS s) + (1 : Int32) = nI (22 + 4 * nS s) := by rw [show 22 + 4 * nS s = 21 + 4 * nS s + 1 by omega]; exact nI_add _ 1
    have i2 : nI (21 + 4 * nS s) + (2 : Int32) = nI (23 + 4 * nS s) := by rw [show 23 + 4 * nS s = 21 + 4 * nS s + 2 by omega]; exact nI_add _ 2
    have i3 : nI (21 + 4 * nS s) + (3 : Int32) = nI (24 + 4 * nS s) := by rw [show 24 + 4 * nS s = 21 + 4 * nS s + 3 by omega]; exact nI_add _ 3
    rw [i1, i2, i3]
    obtain ⟨q, hq, tq, eq⟩ := TK r
    -- one asked for, then the next
    have P : ∀ {F' : tF} {A' : tA} {b : Bool} {p' : Nat} {s' : tF} {w k : Nat} {m : Int32} {is : Int32} {K' : tF → tA → Prop}, RX t B F0 A0 F' A' (b, p', s') → w < 18 → (b = true → is = if wdB B t (skS B t p') w = true then 1 else 0) → (b = true → k < 53) → (b = true → s' k = 0) → (∀ F2 A2, RX t B F0 A0 F2 A2 (if b = true then ((oV B t w m p').1, (oV B t w m p').2.1, upd s' k (oV B t w m p').2.2) else (false, p', s')) → K' F2 A2) → p_X7_perhaps F' A' is (nI k) m K' := by
      intro F' A' b p' s' w k m is K' r hw hi h53 h0 hk
      cases b with
      | true => exact m_perhaps hB h6 h5 r hw hi (h53 rfl) h0 hk
      | false =>
        unfold p_X7_perhaps
        have e11 : F' 11 = 1 := r.2.2.2.2.2
        exact ⟨fun _ => hk F' A' r, fun c => absurd c (by rw [e11]; decide)⟩
    have S1 : ∀ is : Int32, (b = true → is = if wdB B t (skS B t p') 6 = true then 1 else 0) → p_X7_perhaps F' A' is (nI (22 + 4 * nS s)) 9 (fun F_75 A_75 => p_X7_isFour F_75 A_75 102 101 97 114 fun r88 => p_X7_perhaps F_75 A_75 r88 (nI (23 + 4 * nS s)) 9 fun F_96 A_96 => p_X7_isFour F_96 A_96 108 111 111 107 fun r109 => p_X7_perhaps F_96 A_96 r109 (nI (24 + 4 * nS s)) 5 fun F_116 A_116 => K F_116 A_116) := by
      intro is his
      refine P r (w := 6) (by omega) his (fun h => by have := c22 h; omega) (fun hbt => ?_) (fun F2 A2 r2 => ?_)
      · rw [hs' hbt, ZN_add rfl, if_neg (by omega), if_neg (by omega)]; exact zn _ (by omega)
      generalize hb1 : (if b = true then ((oV B t 6 9 p').1, (oV B t 6 9 p').2.1, upd s' (22 + 4 * nS s) (oV B t 6 9 p').2.2) else (false, p', s')) = y1 at r2
      obtain ⟨b1, p1, s1⟩ := y1
      obtain ⟨q', hq', tq', eq'⟩ := TK r2
      have T7 : ∀ is : Int32, (b1 = true → is = if wdB B t (skS B t p1) 7 = true then 1 else 0) → p_X7_perhaps F2 A2 is (nI (23 + 4 * nS s)) 9 (fun F_96 A_96 => p_X7_isFour F_96 A_96 108 111 111 107 fun r109 => p_X7_perhaps F_96 A_96 r109 (nI (24 + 4 * nS s)) 5 fun F_116 A_116 => K F_116 A_116) := by
        intro is his
        have hbb : b1 = true → b = true ∧ (oV B t 6 9 p').1 = true ∧ p1 = (oV B t 6 9 p').2.1 ∧ s1 = upd s' (22 + 4 * nS s) (oV B t 6 9 p').2.2 := by
          intro h
          cases b with
          | true => rw [if_pos rfl] at hb1; obtain ⟨e1, e2⟩ := Prod.mk.inj hb1; obtain ⟨e2, e3⟩ := Prod.mk.inj e2; exact ⟨rfl, e1.trans h, e2.symm, e3.symm⟩
          | false => rw [if_neg (by decide)] at hb1; obtain ⟨e1, _⟩ := Prod.mk.inj hb1; rw [← e1] at h; exact absurd h (by decide)
        refine P r2 (w := 7) (by omega) his (fun h => by have := c22 (hbb h).1; omega) (fun hbt => ?_) (fun F3 A3 r3 => ?_)
        · obtain ⟨g1, _, _, g4⟩ := hbb hbt
          rw [g4, pk_un (by omega), hs' g1, ZN_add rfl, if_neg (by omega), if_neg (by omega)]; exact zn _ (by omega)
        generalize hb2 : (if b1 = true then ((oV B t 7 9 p1).1, (oV B t 7 9 p1).2.1, upd s1 (23 + 4 * nS s) (oV B t 7 9 p1).2.2) else (false, p1, s1)) = y2 at r3
        obtain ⟨b2, p2, s2⟩ := y2
        have hbc : b2 = true → b1 = true ∧ (oV B t 7 9 p1).1 = true ∧ p2 = (oV B t 7 9 p1).2.1 ∧ s2 = upd s1 (23 + 4 * nS s) (oV B t 7 9 p1).2.2 := by
          intro h
          cases b1 with
          | true => rw [if_pos rfl] at hb2; obtain ⟨e1, e2⟩ := Prod.mk.inj hb2; obtain ⟨e2, e3⟩ := Prod.mk.inj e2; exact ⟨rfl, e1.trans h, e2.symm, e3.symm⟩
          | false => rw [if_neg (by decide)] at hb2; obtain ⟨e1, _⟩ := Prod.mk.inj hb2; rw [← e1] at h; exact absurd h (by decide)
        obtain ⟨q2', hq2', tq2', eq2'⟩ := TK r3
        have T8 : ∀ is : Int32, (b2 = true → is = if wdB B t (skS B t p2) 8 = true then 1 else 0) → p_X7_perhaps F3 A3 is (nI (24 + 4 * nS s)) 5 (fun F_116 A_116 => K F_116 A_116) := by
          intro is his
          refine P r3 (w := 8) (by omega) his (fun h => by have := c22 (hbb (hbc h).1).1; omega) (fun hbt => ?_) (fun F4 A4 r4 => hk F4 A4 ?_)
          · obtain ⟨g1, _, _, g4⟩ := hbc hbt
            obtain ⟨k1, _, _, k4⟩ := hbb g1
            rw [g4, pk_un (by omega), k4, pk_un (by omega), hs' k1, ZN_add rfl, if_neg (by omega), if_neg (by omega)]; exact zn _ (by omega)
          · cases b with
            | false =>
              rw [if_neg (by decide)] at hb1
              obtain ⟨e1, e2⟩ := Prod.mk.inj hb1; obtain ⟨e2, e3⟩ := Prod.mk.inj e2
              subst e1 e2 e3
              rw [if_neg (by decide)] at hb2
              obtain ⟨e1, e2⟩ := Prod.mk.inj hb2; obtain ⟨e2, e3⟩ := Prod.mk.inj e2
              subst e1 e2 e3
              exact r4
            | true =>
              rw [if_pos rfl] at hb1
              obtain ⟨e1, e2⟩ := Prod.mk.inj hb1; obtain ⟨e2, e3⟩ := Prod.mk.inj e2
              rw [if_pos rfl]
              cases b1 with
              | false =>
                rw [if_neg (by rw [e1]; decide)]
                rw [if_neg (by decide)] at hb2
                obtain ⟨f1, f2⟩ := Prod.mk.inj hb2; obtain ⟨f2, f3⟩ := Prod.mk.inj f2
                subst f1 f2 f3
                rw [e2]; exact r4
              | true =>
                rw [if_pos e1, e2]
                rw [if_pos rfl] at hb2
                obtain ⟨f1, f2⟩ := Prod.mk.inj hb2; obtain ⟨f2, f3⟩ := Prod.mk.inj f2
                cases b2 with
                | false =>
                  rw [if_neg (by rw [f1]; decide), f2]; exact r4
                | true =>
                  rw [if_pos f1, f2]
                  rw [if_pos rfl] at r4
                  have es : upd s2 (24 + 4 * nS s) (oV B t 8 5 p2).2.2 = addS s kd (oV B t 6 9 p').2.2 (oV B t 7 9 p1).2.2 (oV B t 8 5 p2).2.2 := by
                    rw [← f3, ← e3, hs' rfl]; exact addS_eq
                  rw [es] at r4
                  exact r4
        obtain ⟨g6, g5⟩ := FA r3
        exact t_8 hB g6 g5 hq2' tq2' (fun w => T8 1 (fun h => by rw [if_pos (by rw [← eq2' h]; exact w)])) (fun w => T8 0 (fun h => by rw [if_neg (by rw [← eq2' h]; exact w)]))
      obtain ⟨g6, g5⟩ := FA r2
      exact t_7 hB g6 g5 hq' tq' (fun w => T7 1 (fun h => by rw [if_pos (by rw [← eq' h]; exact w)])) (fun w => T7 0 (fun h => by rw [if_neg (by rw [← eq' h]; exact w)]))
    obtain ⟨g6, g5⟩ := FA r
    exact t_6 hB g6 g5 hq tq (fun w => S1 1 (fun h => by rw [if_pos (by rw [← eq h]; exact w)])) (fun w => S1 0 (fun h => by rw [if_neg (by rw [← eq h]; exact w)]))
  unfold p_X7_sheepHere
  intro y hy
  rw [hA, hn.1, ix_o0] at hy
  subst hy
  rw [hA, hn.1]
  unfold p_X7_sheepHere_J29
  refine ⟨fun c => ?_, fun c => ?_⟩
  · have h8 : ¬ nS s < 8 := fun w => nI_ge (a := nS s) (b := 8) w (by omega) c
    refine m_need0 (fun _ => rfl) ⟨fun _ => ?_, fun w => absurd w (by rw [pk_us]; decide)⟩
    refine J56 (b := false) (p' := skS B t p) (s' := s) (RX.wrong hf ha q2 hT hz) (fun w => absurd w (by decide)) (Or.inr rfl) hn.2 (fun F2 A2 r2 => hk F2 A2 ?_)
    unfold sheepAt
    rw [if_neg h8]; exact r2
  · have h8 : nS s < 8 := by
      rcases Nat.lt_or_ge (nS s) 8 with w | w
      · exact w
      · exact absurd (nI_le (a := 8) (b := nS s) w (by omega)) c
    refine m_need1 hB h6 h5 hf ha q2 hT h11 hz (fun F' r => ?_)
    rw [he] at r
    have e11 : F' 11 = 0 := r.2.2.2.2.2.1
    refine ⟨fun w => absurd e11 w, fun _ => ⟨vp_in_nI (by omega) (by omega), fun f1 g1 f2 g2 => ?_⟩⟩
    rw [nI_clamp (by omega), hA] at g1
    have e0 : f1 0 = nI (nS s) := by rw [g1, pk_un (by omega)]; exact hn.1
    rw [e0, nI_1, g1] at g2
    refine J56 (b := true) (p' := aE B t (skS B t p)) (s' := f2) ⟨r.1, fun k hk => by rw [va_up_ne _ _ hk]; exact ha k hk, a2', ?_, r.2.2.2.2.1, e11, va_up_self _ _ _⟩ (fun _ => g2) (Or.inl h8) hn.2 (fun F2 A2 r2 => hk F2 A2 ?_)
    · have hz' : Z53 s := by rw [← hA]; exact hz
      rw [va_up_self, g2]; exact (hz'.up (by omega)).up (by omega)
    · unfold sheepAt
      rw [if_pos h8]; rw [if_pos rfl] at r2; exact r2
theorem m_tok {t : Nat} {B : Nat → Int32} (hB : TB t B) {F0 : tF} {A0 : tA} {F : tF} {A : tA} {x : PS} (r : RX t B F0 A0 F A x) : ∃ q, q ≤ t ∧ Tok B t F q ∧ (x.1 = true → q = skS B t x.2.1 ∧ F 11 = 0 ∧ A 0 = x.2.2) ∧ (¬ x.1 = true → q = x.2.1 ∧ F 11 = 1) := by
  obtain ⟨b, p, s⟩ := x
  cases b with
  | true => exact ⟨skS B t p, (sk_le hB r.2.2.1).2, r.2.2.2.2.1, fun _ => ⟨rfl, r.2.2.2.2.2⟩, fun c => absurd rfl c⟩
  | false => exact ⟨p, r.2.2.1, r.2.2.2.2.1, fun c => Bool.noConfusion (show false = true from c), fun _ => ⟨rfl, r.2.2.2.2.2⟩⟩
/-- a token that must be a number up to m: right and on, or wrong here -/
theorem m_needN {t : Nat} {B : Nat → Int32} (hB : TB t B) {F0 : tF} {A0 : tA} (h6 : F0 6 = nI t) (h5 : ∀ k, k < t → A0 5 k = B k) {F : tF} {A : tA} {p : Nat} {s : tF} (hx : RX t B F0 A0 F A (true, p, s)) {P : Int32 → Prop} (hP : ∀ z, (z = 1 → nB B t (skS B t p) 5 = true) → (z = 0 → ¬ nB B t (skS B t p) 5 = true) → (z = 0 ∨ z = 1) → P z) : ((¬ F 7 = (2 : Int32) → P 0) ∧ (F 7 = (2 : Int32) → (((3 : Int32) < (F 9 - F 8) → P 0) ∧ (¬ (3 : Int32) < (F 9 - F 8) → (((6 : Int32) ≤ F 10 → P 0) ∧ (¬ (6 : Int32) ≤ F 10 → P 1)))))) := by
  have ht := hB.1
  obtain ⟨hf, ha, hp, hz, hT, h11, hA⟩ := hx
  have hp : p ≤ t := hp
  have hT : Tok B t F (skS B t p) := hT
  obtain ⟨q1, q2⟩ := sk_le hB hp
  obtain ⟨t1, t2⟩ := tE_le hB q2
  have s9 : nI (tE B t (skS B t p)) - nI (skS B t p) = nI (tE B t (skS B t p) - skS B t p) := pk_sub t1
  rw [hT.2.2.1, hT.1, hT.2.1, s9, hT.2.2.2]
  have N : ¬ nB B t (skS B t p) 5 = true → P 0 := fun c => hP 0 (fun w => absurd w (by decide)) (fun _ => c) (Or.inl rfl)
  have le3 : (¬ (3 : Int32) < nI (tE B t (skS B t p) - skS B t p)) ↔ tE B t (skS B t p) - skS B t p ≤ 3 := by
    rw [Int32.not_lt]; exact nI_leI (a := tE B t (skS B t p) - skS B t p) (b := 3) (by omega) (by omega)
  have e5 : ∀ v : Int32, (¬ (6 : Int32) ≤ v) ↔ v ≤ 5 := by
    intro v
    have a6 : (6 : Int32).toInt = 6 := by decide
    have a5 : (5 : Int32).toInt = 5 := by decide
    rw [Int32.le_iff_toInt_le, Int32.le_iff_toInt_le, a6, a5]; omega
  refine ⟨fun c => N (fun w => c ((nB_tok hB q2).mp w).1), fun k2 => ⟨fun c => N (fun w => le3.mpr ((nB_tok hB q2).mp w).2.1 c), fun k3 => ⟨fun c => N (fun w => (e5 _).mpr ((nB_tok hB q2).mp w).2.2 c), fun k4 => ?_⟩⟩⟩
  exact hP 1 (fun _ => (nB_tok hB q2).mpr ⟨k2, le3.mp k3, (e5 _).mp k4⟩) (fun w => absurd w (by decide)) (Or.inr rfl)
theorem nV_in {t : Nat} {B : Nat → Int32} (hB : TB t B) {p : Nat} (hp : p ≤ t) {M : Nat} (hM : M < 1000) : inR (nV B t (nI M) p).2.2 (M + 1) := by
  unfold nV
  split
  · rename_i h
    exact nOK_up hB (sk_le hB hp).2 hM (nB_iff.mp h)
  · exact ⟨0, by omega, rfl⟩
theorem m_placeHere {t : Nat} {B : Nat → Int32} (hB : TB t B) {F0 : tF} {A0 : tA} (h6 : F0 6 = nI t) (h5 : ∀ k, k < t → A0 5 k = B k) {F : tF} {A : tA} {p : Nat} {s : tF} (hx : RX t B F0 A0 F A (true, p, s)) (he : tE B t (skS B t p) = aE B t (skS B t p)) {row : Nat} (hrow : row ≤ 15) {K : tF → tA → Prop} (hk : ∀ F' A', RX t B F0 A0 F' A' (placeAt B t row (aE B t (skS B t p)) s) → K F' A') : p_X7_placeHere F A (nI row) K := by
  have ht := hB.1
  obtain ⟨hf, ha, hp, hz, hT, h11, hA⟩ := id hx
  have hT : Tok B t F (skS B t p) := hT
  have hp : p ≤ t := hp
  obtain ⟨q1, q2⟩ := sk_le hB hp
  obtain ⟨a1', a2'⟩ := aE_le hB q2
  generalize hP1 : aE B t (skS B t p) = p1 at *
  unfold p_X7_placeHere
  refine s_X7_nextToken hB (p := p1) (by rw [hf 6 (Or.inl (by omega))]; exact h6) (fun k hk => by rw [ha 5 (by omega)]; exact h5 k hk) a2' (by rw [hT.2.1, he]) (fun F1 T e11 fr => ?_)
  have r : RX t B F0 A0 F1 A (true, p1, s) := ⟨fun k hk => by rw [fr k hk]; exact hf k hk, ha, a2', hz, T, by rw [e11]; exact h11, hA⟩
  obtain ⟨w1, w2⟩ := sk_le hB a2'
  have vin : inR (nV B t 5 p1).2.2 6 := nV_in hB a2' (M := 5) (by omega)
  intro y hy
  rw [T.2.2.2] at hy
  -- behind the place's number, right or wrong
  have TAIL : ∀ {F2 : tF} {A2 : tA} {x : PS}, RX t B F0 A0 F2 A2 x → (x.1 = true → x.2.2 = s ∧ x.2.1 = (nV B t 5 p1).2.1 ∧ y = (nV B t 5 p1).2.2 ∧ (nV B t 5 p1).1 = true) → (¬ x.1 = true → (nV B t 5 p1).1 = false ∧ x.2.1 = (nV B t 5 p1).2.1) → ((¬ F2 7 = (1 : Int32) → p_X7_placeHere_J102 F2 A2 K (nI row) y) ∧ (F2 7 = (1 : Int32) → ((¬ (F2 9 - F2 8) = (2 : Int32) → p_X7_placeHere_J102 F2 A2 K (nI row) y) ∧ ((F2 9 - F2 8) = (2 : Int32) → p_X7_byteAt F2 A2 (F2 8) (fun r75 => ((¬ r75 = (105 : Int32) → p_X7_placeHere_J102 F2 A2 K (nI row) y) ∧ (r75 = (105 : Int32) → p_X7_byteAt F2 A2 (F2 8 + (1 : Int32)) (fun r90 => ((¬ r90 = (115 : Int32) → p_X7_placeHere_J102 F2 A2 K (nI row) y) ∧ (r90 = (115 : Int32) → p_X7_placeHere_J103 F2 A2 K (nI row) y (1 : Int32))))))))))) := by
    intro F2 A2 x rx hok hbad
    obtain ⟨q, hq, tq, ok1, bad1⟩ := m_tok hB rx
    have G6 : F2 6 = nI t := by rw [rx.1 6 (Or.inl (by omega))]; exact h6
    have G5 : ∀ k, k < t → A2 5 k = B k := fun k hk => by rw [rx.2.1 5 (by omega)]; exact h5 k hk
    -- what needs(is) leads to
    have J103 : ∀ z : Int32, (x.1 = true → (z = 1 ∧ wdB B t q 10 = true) ∨ (z = 0 ∧ ¬ wdB B t q 10 = true)) → p_X7_placeHere_J103 F2 A2 K (nI row) y z := by
      intro z hzz
      unfold p_X7_placeHere_J103 p_X7_placeHere_J120
      by_cases xb : x.1 = true
      · obtain ⟨eq, e110, eA⟩ := ok1 xb
        obtain ⟨es, ep, ey, en⟩ := hok xb
        have Z2 : Z53 (A2 0) := rx.2.2.2.1
        rcases hzz xb with ⟨z1, wy⟩ | ⟨z0, wn⟩
        · subst z1
          refine m_need1 hB h6 h5 rx.1 rx.2.1 hq tq e110 Z2 (fun F3 r3 => ?_)
          have e311 : F3 11 = 0 := r3.2.2.2.2.2.1
          refine ⟨fun _ => ?_, fun c => absurd e311 c⟩
          obtain ⟨j, hj, ej⟩ := vin
          rw [ey, ej, nI_add]
          refine m_numberTo hB h6 h5 r3 (by omega) (fun F4 A4 r4 => hk F4 A4 ?_)
          unfold placeAt
          rw [if_pos en, ← ep, ← eq, if_pos wy, ej, nI_clamp (by omega)]
          have et := wd_tE (w := 10) (by omega) wy
          rw [et, eA, es] at r4
          exact r4
        · subst z0
          refine m_need0 (fun _ => rfl) ⟨fun c => absurd c (by rw [pk_us]; decide), fun _ => ?_⟩
          have rw0 : nI row + (0 : Int32) = nI row := Int32.add_zero _
          rw [rw0]
          refine m_numberTo hB h6 h5 (RX.wrong (s := s) rx.1 rx.2.1 hq tq Z2) (by omega) (fun F4 A4 r4 => hk F4 A4 ?_)
          unfold placeAt
          rw [if_pos en, ← ep, ← eq, if_neg wn]
          exact r4
      · obtain ⟨eq, e111⟩ := bad1 xb
        obtain ⟨en, ep⟩ := hbad xb
        have Z2 : Z53 (A2 0) := rx.2.2.2.1
        refine m_need0 (fun c => absurd c (by rw [e111]; decide)) ⟨fun c => absurd c (by rw [pk_us]; decide), fun _ => ?_⟩
        have rw0 : nI row + (0 : Int32) = nI row := Int32.add_zero _
        rw [rw0]
        refine m_numberTo hB h6 h5 (RX.wrong (s := s) rx.1 rx.2.1 hq tq Z2) (by omega) (fun F4 A4 r4 => hk F4 A4 ?_)
        unfold placeAt
        rw [if_neg (by rw [en]; decide), ← ep, ← eq]
        exact r4
    have J102 : (x.1 = true → ¬ wdB B t q 10 = true) → p_X7_placeHere_J102 F2 A2 K (nI row) y := by
      intro c
      unfold p_X7_placeHere_J102
      exact J103 0 (fun h => Or.inr ⟨rfl, c h⟩)
    obtain ⟨t1, t2⟩ := tE_le hB hq
    have s9 : nI (tE B t q) - nI q = nI (tE B t q - q) := pk_sub t1
    have i1 : nI q + (1 : Int32) = nI (q + 1) := nI_add q 1
    rw [tq.2.2.1, tq.1, tq.2.1, s9, i1]
    refine ⟨fun c => J102 (fun _ w => c (wi_10.mp w).1), fun k1 => ⟨fun c => J102 (fun _ w => c ?_), fun k2 => s_byteAt hB G6 G5 (by omega) ⟨fun c => J102 (fun _ w => c (wi_10.mp w).2.2.1), fun k3 => s_byteAt hB G6 G5 (by omega) ⟨fun c => J102 (fun _ w => c (wi_10.mp w).2.2.2), fun k4 => J103 1 (fun _ => Or.inl ⟨rfl, wi_10.mpr ⟨k1, ?_, k3, k4⟩⟩)⟩⟩⟩⟩
    · rw [wd_tE (w := 10) (by omega) w, (wi_10.mp w).2.1, show q + 2 - q = 2 by omega]; rfl
    · have et : tE B t q = aE B t q := by unfold tE; rw [if_pos k1]
      have := (nI_eq (a := tE B t q - q) (b := 2) (by omega) (by omega)).mp k2
      rw [← et]; omega
  refine m_needN hB h6 h5 r (P := fun z => p_X7_placeHere_J45 F1 A K (nI row) y z) (fun z hz1 hz0 hzz => ?_)
  unfold p_X7_placeHere_J45
  rcases hzz with z0 | z1
  · have nn := hz0 z0
    subst z0
    refine m_need0 (fun _ => rfl) (TAIL (x := (false, skS B t p1, s)) (RX.wrong r.1 r.2.1 w2 T hz) (fun c => Bool.noConfusion (show false = true from c)) (fun _ => ?_))
    unfold nV; rw [if_neg nn]; exact ⟨rfl, rfl⟩
  · have yy := hz1 z1
    subst z1
    obtain ⟨et, ev⟩ := nB_yes hB w2 yy
    refine m_need1 hB h6 h5 r.1 r.2.1 w2 T r.2.2.2.2.2.1 hz (fun F2 r2 => TAIL r2 (fun _ => ?_) (fun c => absurd rfl c))
    unfold nV; rw [if_pos yy]
    exact ⟨hA, et, by rw [hy, ev], rfl⟩
theorem m_callHere {t : Nat} {B : Nat → Int32} (hB : TB t B) {F0 : tF} {A0 : tA} (h6 : F0 6 = nI t) (h5 : ∀ k, k < t → A0 5 k = B k) {F : tF} {A : tA} {p : Nat} {s : tF} (hx : RX t B F0 A0 F A (true, p, s)) (he : tE B t (skS B t p) = aE B t (skS B t p)) {K : tF → tA → Prop} (hk : ∀ F' A', RX t B F0 A0 F' A' (callAt B t (aE B t (skS B t p)) s) → K F' A') : p_X7_callHere F A K := by
  have ht := hB.1
  obtain ⟨hf, ha, hp, hz, hT, h11, hA⟩ := id hx
  have hT : Tok B t F (skS B t p) := hT
  have hA : A 0 = s := hA
  have hp : p ≤ t := hp
  obtain ⟨q1, q2⟩ := sk_le hB hp
  obtain ⟨a1', a2'⟩ := aE_le hB q2
  generalize hP1 : aE B t (skS B t p) = p1 at *
  unfold p_X7_callHere
  refine s_X7_nextToken hB (p := p1) (by rw [hf 6 (Or.inl (by omega))]; exact h6) (fun k hk => by rw [ha 5 (by omega)]; exact h5 k hk) a2' (by rw [hT.2.1, he]) (fun F1 T e11 fr => ?_)
  have r : RX t B F0 A0 F1 A (true, p1, s) := ⟨fun k hk => by rw [fr k hk]; exact hf k hk, ha, a2', hz, T, by rw [e11]; exact h11, hA⟩
  obtain ⟨w1, w2⟩ := sk_le hB a2'
  intro y hy
  rw [T.2.2.2] at hy
  refine m_needN hB h6 h5 r (P := fun z => p_X7_callHere_J45 F1 A K y z) (fun z hz1 hz0 hzz => ?_)
  unfold p_X7_callHere_J45
  rcases hzz with z0 | z1
  · have nn := hz0 z0
    subst z0
    refine m_need0 (fun _ => rfl) ⟨fun c => absurd c (by rw [pk_us]; decide), fun _ f hfe => hk _ _ ?_⟩
    have ef : f = A 0 := by rw [hfe]; exact upd_self
    unfold callAt nV
    rw [if_neg nn]
    have rr := RX.wrong (s := upd s 4 (1 + 0)) r.1 r.2.1 w2 T hz
    have eA : va_up A 0 f = A := by
      funext i; unfold va_up
      by_cases c : i = 0
      · rw [if_pos c, ef, c]
      · rw [if_neg c]
    rw [eA]; exact rr
  · have yy := hz1 z1
    subst z1
    obtain ⟨et, ev⟩ := nB_yes hB w2 yy
    refine m_need1 hB h6 h5 r.1 r.2.1 w2 T r.2.2.2.2.2.1 hz (fun F2 r2 => ?_)
    have e211 : F2 11 = 0 := r2.2.2.2.2.2.1
    refine ⟨fun _ f hfe => hk _ _ ?_, fun c => absurd e211 c⟩
    unfold callAt nV
    rw [if_pos yy]
    have r2T : Tok B t F2 (skS B t (tE B t (skS B t p1))) := r2.2.2.2.2.1
    rw [et] at r2T
    exact ⟨r2.1, fun k hk => by rw [va_up_ne _ _ hk]; exact ha k hk, (dE_le hB w2).2, by rw [va_up_self, hfe]; exact hz.up (by omega), r2T, e211, by rw [va_up_self, hfe, hy, ev, hA]⟩
theorem kdW_up (B : Nat → Int32) (t q : Nat) : kdW B t q = -1 ∨ ∃ w : Nat, w < 6 ∧ kdW B t q = nI w ∧ wdB B t q w = true := by
  unfold kdW
  by_cases c0 : wdB B t q 0 = true
  · rw [if_pos c0]; exact Or.inr ⟨0, by omega, rfl, c0⟩
  rw [if_neg c0]
  by_cases c1 : wdB B t q 1 = true
  · rw [if_pos c1]; exact Or.inr ⟨1, by omega, rfl, c1⟩
  rw [if_neg c1]
  by_cases c2 : wdB B t q 2 = true
  · rw [if_pos c2]; exact Or.inr ⟨2, by omega, rfl, c2⟩
  rw [if_neg c2]
  by_cases c3 : wdB B t q 3 = true
  · rw [if_pos c3]; exact Or.inr ⟨3, by omega, rfl, c3⟩
  rw [if_neg c3]
  by_cases c4 : wdB B t q 4 = true
  · rw [if_pos c4]; exact Or.inr ⟨4, by omega, rfl, c4⟩
  rw [if_neg c4]
  by_cases c5 : wdB B t q 5 = true
  · rw [if_pos c5]; exact Or.inr ⟨5, by omega, rfl, c5⟩
  rw [if_neg c5]; exact Or.inl rfl
/-- ';' and on -/
theorem m_end {t : Nat} {B : Nat → Int32} (hB : TB t B) {F0 : tF} {A0 : tA} (h6 : F0 6 = nI t) (h5 : ∀ k, k < t → A0 5 k = B k) {F : tF} {A : tA} {x : PS} (hx : RX t B F0 A0 F A x) {K : tF → tA → Prop} (hk : ∀ F' A', RX t B F0 A0 F' A' (bd x (endS B t)) → K F' A') : p_X7_itemHere_J137 F A K := by
  have ht := hB.1
  obtain ⟨q, hq, tq, ok1, bad1⟩ := m_tok hB hx
  have G6 : F 6 = nI t := by rw [hx.1 6 (Or.inl (by omega))]; exact h6
  have G5 : ∀ k, k < t → A 5 k = B k := fun k hk => by rw [hx.2.1 5 (by omega)]; exact h5 k hk
  have Z2 : Z53 (A 0) := hx.2.2.2.1
  unfold p_X7_itemHere_J137 p_X7_itemHere_J163 p_X7_itemHere_J164
  rw [tq.1, tq.2.2.1]
  by_cases xb : x.1 = true
  · obtain ⟨eq, e110, eA⟩ := ok1 xb
    have eb : bd x (endS B t) = endS B t x.2.1 x.2.2 := by unfold bd; rw [if_pos xb]
    rw [eb] at hk
    have N : ¬ B q = 59 → p_X7_needs F A 0 (fun F' A' => K F' A') := by
      intro c
      refine m_need0 (fun _ => rfl) (hk _ _ ?_)
      unfold endS
      rw [← eq, if_neg c]
      exact RX.wrong hx.1 hx.2.1 hq tq Z2
    refine ⟨fun c => N (fun w => c ?_), fun k3 => s_byteAt hB G6 G5 (by omega) ⟨N, fun k4 => ?_⟩⟩
    · unfold tk; rw [w]; decide
    · refine m_need1 hB h6 h5 hx.1 hx.2.1 hq tq e110 Z2 (fun F' r => hk F' A ?_)
      have et : tE B t q = q + 1 := by unfold tE; rw [k3]; rfl
      unfold endS
      rw [← eq, if_pos k4]
      rw [et, eA] at r
      exact r
  · obtain ⟨eq, e111⟩ := bad1 xb
    have eb : bd x (endS B t) = x := by unfold bd; rw [if_neg xb]
    rw [eb] at hk
    have E : ∀ z : Int32, p_X7_needs F A z (fun F' A' => K F' A') := fun z => m_need0 (fun c => absurd c (by rw [e111]; decide)) (hk _ _ (by
      obtain ⟨b, p, s⟩ := x
      cases b with
      | true => exact absurd rfl xb
      | false => exact RX.wrong hx.1 hx.2.1 hx.2.2.1 (by have eq : q = p := eq; rw [← eq]; exact tq) Z2))
    exact ⟨fun _ => E _, fun _ => s_byteAt hB G6 G5 (by omega) ⟨fun _ => E _, fun _ => E _⟩⟩
theorem m_itemHere {t : Nat} {B : Nat → Int32} (hB : TB t B) {F0 : tF} {A0 : tA} (h6 : F0 6 = nI t) (h5 : ∀ k, k < t → A0 5 k = B k) {F : tF} {A : tA} {p : Nat} {s : tF} (hx : RX t B F0 A0 F A (true, p, s)) (ok : OkS s) (zn : ZN s) {K : tF → tA → Prop} (hk : ∀ F' A', RX t B F0 A0 F' A' (stS B t p s) → K F' A') : p_X7_itemHere F A K := by
  have ht := hB.1
  obtain ⟨hf, ha, hp, hz, hT, h11, hA⟩ := id hx
  have hT : Tok B t F (skS B t p) := hT
  have hp : p ≤ t := hp
  obtain ⟨q1, q2⟩ := sk_le hB hp
  obtain ⟨a1', a2'⟩ := aE_le hB q2
  have G6 : F 6 = nI t := by rw [hf 6 (Or.inl (by omega))]; exact h6
  have G5 : ∀ k, k < t → A 5 k = B k := fun k hk => by rw [ha 5 (by omega)]; exact h5 k hk
  unfold p_X7_itemHere
  refine m_kindHere hB G6 G5 q2 hT (m_ownHere hB G6 G5 q2 hT ?_)
  have FIN : ∀ {F' : tF} {A' : tA}, RX t B F0 A0 F' A' (itemS B t (skS B t p) s) → p_X7_itemHere_J137 F' A' K := fun r => m_end hB h6 h5 r (fun F2 A2 r2 => hk F2 A2 r2)
  refine ⟨fun c => ?_, fun c => ?_⟩
  · have k0 : ¬ 0 ≤ kdW B t (skS B t p) := fun w => Int32.not_lt.mpr w c
    have eI : itemS B t (skS B t p) s = (if wdB B t (skS B t p) 9 = true then placeAt B t 9 (aE B t (skS B t p)) s
  else if wdB B t (skS B t p) 11 = true then placeAt B t 15 (aE B t (skS B t p)) s
  else if wdB B t (skS B t p) 12 = true then numAt B t 3 5 (aE B t (skS B t p)) s
  else if wdB B t (skS B t p) 13 = true then callAt B t (aE B t (skS B t p)) s
  else if wdB B t (skS B t p) 14 = true then numAt B t 5 9 (aE B t (skS B t p)) s
  else if wdB B t (skS B t p) 15 = true then numAt B t 6 9 (aE B t (skS B t p)) s
  else if wdB B t (skS B t p) 16 = true then numAt B t 7 9 (aE B t (skS B t p)) s
  else if wdB B t (skS B t p) 17 = true then numAt B t 8 99 (aE B t (skS B t p)) s
  else (false, skS B t p, s)) := by unfold itemS; rw [if_neg k0]
    -- a number of its own
    have NUM : ∀ (w k : Nat) (m : Int32), w < 18 → wdB B t (skS B t p) w = true → k < 53 → itemS B t (skS B t p) s = numAt B t k m (aE B t (skS B t p)) s → ∀ F1 : tF, Tok B t F1 (skS B t (aE B t (skS B t p))) → F1 11 = F 11 → fr5 F F1 → p_X7_itemHere_J54 F1 A K m (nI k) := by
      intro w k m hw yw h53 ei F1 T e11 fr
      unfold p_X7_itemHere_J54
      have r : RX t B F0 A0 F1 A (true, aE B t (skS B t p), s) := ⟨fun k hk => by rw [fr k hk]; exact hf k hk, ha, a2', hz, T, by rw [e11]; exact h11, hA⟩
      refine m_numberTo hB h6 h5 r h53 (fun F2 A2 r2 => FIN ?_)
      rw [ei]; exact r2
    refine ⟨fun d => ?_, fun d => ?_⟩
    · -- none of its own
      have d' := d
      unfold owW at d'
      have n12 : ¬ wdB B t (skS B t p) 12 = true := fun w => by rw [if_pos w] at d'; exact absurd d' (by decide)
      rw [if_neg n12] at d'
      have n14 : ¬ wdB B t (skS B t p) 14 = true := fun w => by rw [if_pos w] at d'; exact absurd d' (by decide)
      rw [if_neg n14] at d'
      have n15 : ¬ wdB B t (skS B t p) 15 = true := fun w => by rw [if_pos w] at d'; exact absurd d' (by decide)
      rw [if_neg n15] at d'
      have n16 : ¬ wdB B t (skS B t p) 16 = true := fun w => by rw [if_pos w] at d'; exact absurd d' (by decide)
      rw [if_neg n16] at d'
      have n17 : ¬ wdB B t (skS B t p) 17 = true := fun w => by rw [if_pos w] at d'; exact absurd d' (by decide)
      rw [if_neg n12, if_neg n14, if_neg n15, if_neg n16, if_neg n17] at eI
      refine t_9 hB G6 G5 q2 hT (fun w => a1 ?_) (fun n9 => a0 (t_11 hB G6 G5 q2 hT (fun w => a1 ?_) (fun n11 => a0 (t_13 hB G6 G5 q2 hT (fun w => a1 ?_) (fun n13 => a0 ?_)))))
      · refine m_placeHere (row := 9) hB h6 h5 hx (wd_tE (w := 9) (by omega) w) (by omega) (fun F2 A2 r2 => FIN ?_)
        rw [eI, if_pos w]; exact r2
      · refine m_placeHere (row := 15) hB h6 h5 hx (wd_tE (w := 11) (by omega) w) (by omega) (fun F2 A2 r2 => FIN ?_)
        rw [eI, if_neg n9, if_pos w]; exact r2
      · refine m_callHere hB h6 h5 hx (wd_tE (w := 13) (by omega) w) (fun F2 A2 r2 => FIN ?_)
        rw [eI, if_neg n9, if_neg n11, if_pos w]; exact r2
      · refine m_need0 (fun _ => rfl) (FIN ?_)
        rw [eI, if_neg n9, if_neg n11, if_neg n13]
        exact RX.wrong hf ha q2 hT hz
    · have ow : ∃ w, w < 18 ∧ wdB B t (skS B t p) w = true ∧ ((w = 12 ∧ owW B t (skS B t p) = 3) ∨ (w = 14 ∧ owW B t (skS B t p) = 5) ∨ (w = 15 ∧ owW B t (skS B t p) = 6) ∨ (w = 16 ∧ owW B t (skS B t p) = 7) ∨ (w = 17 ∧ owW B t (skS B t p) = 8)) := by
        unfold owW at d ⊢
        by_cases c12 : wdB B t (skS B t p) 12 = true
        · rw [if_pos c12]; exact ⟨12, by omega, c12, Or.inl ⟨rfl, rfl⟩⟩
        rw [if_neg c12] at d ⊢
        by_cases c14 : wdB B t (skS B t p) 14 = true
        · rw [if_pos c14]; exact ⟨14, by omega, c14, Or.inr (Or.inl ⟨rfl, rfl⟩)⟩
        rw [if_neg c14] at d ⊢
        by_cases c15 : wdB B t (skS B t p) 15 = true
        · rw [if_pos c15]; exact ⟨15, by omega, c15, Or.inr (Or.inr (Or.inl ⟨rfl, rfl⟩))⟩
        rw [if_neg c15] at d ⊢
        by_cases c16 : wdB B t (skS B t p) 16 = true
        · rw [if_pos c16]; exact ⟨16, by omega, c16, Or.inr (Or.inr (Or.inr (Or.inl ⟨rfl, rfl⟩)))⟩
        rw [if_neg c16] at d ⊢
        by_cases c17 : wdB B t (skS B t p) 17 = true
        · rw [if_pos c17]; exact ⟨17, by omega, c17, Or.inr (Or.inr (Or.inr (Or.inr ⟨rfl, rfl⟩)))⟩
        rw [if_neg c17] at d; exact absurd (by decide) d
      obtain ⟨w, hw, yw, hc⟩ := ow
      have ne : ∀ w', w' < 18 → w ≠ w' → ¬ wdB B t (skS B t p) w' = true := fun w' h' hne => wd_one hw h' yw hne
      refine s_X7_nextToken hB (p := aE B t (skS B t p)) G6 G5 a2' (by rw [hT.2.1, wd_tE hw yw]) (fun F1 T e11 fr => ?_)
      rcases hc with ⟨ew, eo⟩ | ⟨ew, eo⟩ | ⟨ew, eo⟩ | ⟨ew, eo⟩ | ⟨ew, eo⟩ <;> subst ew <;> rw [eo]
      · refine ⟨fun q => absurd rfl q, fun _ => NUM 12 3 5 (by omega) yw (by omega) ?_ F1 T e11 fr⟩
        rw [eI, if_neg (ne 9 (by omega) (by omega)), if_neg (ne 11 (by omega) (by omega)), if_pos yw]
      · refine ⟨fun _ => ⟨fun _ => NUM 14 5 9 (by omega) yw (by omega) ?_ F1 T e11 fr, fun q => absurd q (by decide)⟩, fun q => absurd q (by decide)⟩
        rw [eI, if_neg (ne 9 (by omega) (by omega)), if_neg (ne 11 (by omega) (by omega)), if_neg (ne 12 (by omega) (by omega)), if_neg (ne 13 (by omega) (by omega)), if_pos yw]
      · refine ⟨fun _ => ⟨fun _ => NUM 15 6 9 (by omega) yw (by omega) ?_ F1 T e11 fr, fun q => absurd q (by decide)⟩, fun q => absurd q (by decide)⟩
        rw [eI, if_neg (ne 9 (by omega) (by omega)), if_neg (ne 11 (by omega) (by omega)), if_neg (ne 12 (by omega) (by omega)), if_neg (ne 13 (by omega) (by omega)), if_neg (ne 14 (by omega) (by omega)), if_pos yw]
      · refine ⟨fun _ => ⟨fun _ => NUM 16 7 9 (by omega) yw (by omega) ?_ F1 T e11 fr, fun q => absurd q (by decide)⟩, fun q => absurd q (by decide)⟩
        rw [eI, if_neg (ne 9 (by omega) (by omega)), if_neg (ne 11 (by omega) (by omega)), if_neg (ne 12 (by omega) (by omega)), if_neg (ne 13 (by omega) (by omega)), if_neg (ne 14 (by omega) (by omega)), if_neg (ne 15 (by omega) (by omega)), if_pos yw]
      · refine ⟨fun _ => ⟨fun q => absurd rfl q, fun _ => NUM 17 8 99 (by omega) yw (by omega) ?_ F1 T e11 fr⟩, fun q => absurd q (by decide)⟩
        rw [eI, if_neg (ne 9 (by omega) (by omega)), if_neg (ne 11 (by omega) (by omega)), if_neg (ne 12 (by omega) (by omega)), if_neg (ne 13 (by omega) (by omega)), if_neg (ne 14 (by omega) (by omega)), if_neg (ne 15 (by omega) (by omega)), if_neg (ne 16 (by omega) (by omega)), if_pos yw]
  · rcases kdW_up B t (skS B t p) with e | ⟨w, hw, e, yw⟩
    · rw [e] at c; exact absurd (by decide) c
    · refine m_sheepHere hB h6 h5 hx ok zn (wd_tE (w := w) (by omega) yw) (fun F2 A2 r2 => FIN ?_)
      unfold itemS
      rw [if_pos (Int32.not_lt.mp c)]; exact r2
