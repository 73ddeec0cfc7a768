/-! the class's statements -/
def CXr (t : Nat) (B : Nat → Int32) (b : Bool) (p : Nat) (F : tF) (A : tA) : Prop := CT t B F A ∧ p ≤ t ∧ (if b = true then F 3 = -1 ∧ ∃ p', p' ≤ t ∧ F 2 = nI p' ∧ skS B t p' = skS B t p else F 3 = nI p ∧ ∃ p', p' ≤ t ∧ F 2 = nI p')
theorem CXr.pos {t : Nat} {B : Nat → Int32} {b : Bool} {p : Nat} {F : tF} {A : tA} (h : CXr t B b p F A) : ∃ p', p' ≤ t ∧ F 2 = nI p' ∧ (b = true → skS B t p' = skS B t p ∧ F 3 = -1) ∧ (b = false → F 3 = nI p) := by
  obtain ⟨_, _, h3⟩ := h
  cases b with
  | true =>
    obtain ⟨e3, p', a, c, d⟩ : F 3 = -1 ∧ ∃ p', p' ≤ t ∧ F 2 = nI p' ∧ skS B t p' = skS B t p := h3
    exact ⟨p', a, c, fun _ => ⟨d, e3⟩, fun q => Bool.noConfusion q⟩
  | false =>
    obtain ⟨e3, p', a, c⟩ : F 3 = nI p ∧ ∃ p', p' ≤ t ∧ F 2 = nI p' := h3
    exact ⟨p', a, c, fun q => Bool.noConfusion q, fun _ => e3⟩
theorem flt_m1 (q : Nat) : fltS (-1) q = nI q := by unfold fltS; rw [if_pos rfl]
theorem nI_m1' {p : Nat} (h : p ≤ 200) : ¬ nI p = -1 := by
  intro e
  have : (nI p).toInt = (-1 : Int32).toInt := by rw [e]
  rw [nI_toInt (by omega)] at this
  have em : (-1 : Int32).toInt = -1 := by decide
  rw [em] at this; omega
theorem flt_p {p q : Nat} (h : p ≤ 200) : fltS (nI p) q = nI p := by unfold fltS; rw [if_neg (nI_m1' h)]
theorem c_isNext {t : Nat} {B : Nat → Int32} (hB : TB t B) {b : Bool} {p : Nat} {F : tF} {A : tA} (cx : CXr t B b p F A) {w : Nat} (hw : w < 18) {K : Int32 → tF → tA → Prop} (h1 : ∀ F', CXr t B b (if b = true then aE B t (skS B t p) else p) F' A → (b = true → wdB B t (skS B t p) w = true) → K 1 F' A) (h0 : ∀ F', CXr t B b p F' A → (∃ q, q ≤ t ∧ F' 2 = nI q ∧ (b = true → q = skS B t p)) → (b = true → ¬ wdB B t (skS B t p) w = true) → K 0 F' A) : p_X3_isNext F A w K := by
  have ht := hB.1
  obtain ⟨p', hp', e2, ht1, ht0⟩ := cx.pos
  obtain ⟨q1, q2⟩ := sk_le hB hp'
  obtain ⟨a1', a2'⟩ := aE_le hB q2
  refine s_isNext hB cx.1 hp' e2 (w := w) hw (fun yw F' g2 go => h1 F' ?_ ?_) (fun nw F' g2 go => h0 F' ?_ ?_ ?_)
  · refine ⟨cx.1.f (go 1 (by omega)), ?_, ?_⟩
    · split
      · rename_i hb; rw [← (ht1 hb).1]; exact a2'
      · exact cx.2.1
    · cases b with
      | true =>
        rw [if_pos rfl, if_pos rfl]
        exact ⟨by rw [go 3 (by omega)]; exact (ht1 rfl).2, _, a2', g2, by rw [(ht1 rfl).1]⟩
      | false =>
        rw [if_neg (by decide), if_neg (by decide)]
        exact ⟨by rw [go 3 (by omega)]; exact ht0 rfl, _, a2', g2⟩
  · intro hb; rw [← (ht1 hb).1]; exact yw
  · refine ⟨cx.1.f (go 1 (by omega)), cx.2.1, ?_⟩
    cases b with
    | true =>
      rw [if_pos rfl]
      exact ⟨by rw [go 3 (by omega)]; exact (ht1 rfl).2, _, q2, g2, by rw [skS_id hB hp', (ht1 rfl).1]⟩
    | false =>
      rw [if_neg (by decide)]
      exact ⟨by rw [go 3 (by omega)]; exact ht0 rfl, _, q2, g2⟩
  · exact ⟨_, q2, g2, fun hb => (ht1 hb).1⟩
  · intro hb; rw [← (ht1 hb).1]; exact nw
theorem c_num {t : Nat} {B : Nat → Int32} (hB : TB t B) {b : Bool} {p : Nat} {F : tF} {A : tA} (cx : CXr t B b p F A) {M : Nat} (hM : M < 1000) {K : Int32 → tF → tA → Prop} (hk : ∀ F' v b' p', CXr t B b' p' F' A → inR v (M + 1) → (b = true → (b', p', v) = nV B t (nI M) p) → (b = false → b' = false ∧ p' = p) → K v F' A) : p_X3_readNumber F A (nI M) K := by
  have ht := hB.1
  obtain ⟨p', hp', e2, ht1, ht0⟩ := cx.pos
  obtain ⟨q1, q2⟩ := sk_le hB hp'
  obtain ⟨d1', d2'⟩ := dE_le hB q2
  refine s_readNumber hB cx.1 hp' e2 (fun yn F' g2 go => ?_) (fun nn F' g2 g3 go => ?_)
  · cases b with
    | true =>
      have es := (ht1 rfl).1
      refine hk F' _ true (dE B t (skS B t p)) ⟨cx.1.f (go 1 (by omega)), by rw [← es]; exact d2', ?_⟩ (nOK_up hB q2 hM yn) (fun _ => ?_) (fun q => Bool.noConfusion q)
      · rw [if_pos rfl]
        exact ⟨by rw [go 3 (by omega)]; exact (ht1 rfl).2, _, d2', g2, by rw [es]⟩
      · unfold nV
        rw [← es, if_pos (nB_iff.mpr yn)]
    | false =>
      refine hk F' _ false p ⟨cx.1.f (go 1 (by omega)), cx.2.1, ?_⟩ (nOK_up hB q2 hM yn) (fun q => Bool.noConfusion q) (fun _ => ⟨rfl, rfl⟩)
      rw [if_neg (by decide)]
      exact ⟨by rw [go 3 (by omega)]; exact ht0 rfl, _, d2', g2⟩
  · cases b with
    | true =>
      have es := (ht1 rfl).1
      refine hk F' 0 false (skS B t p) ⟨cx.1.f (go 1 (by omega) (by omega)), by rw [← es]; exact q2, ?_⟩ ⟨0, by omega, rfl⟩ (fun _ => ?_) (fun q => Bool.noConfusion q)
      · rw [if_neg (by decide)]
        exact ⟨by rw [g3, (ht1 rfl).2, flt_m1, es], _, d2', g2⟩
      · unfold nV
        rw [← es, if_neg (fun w => nn (nB_iff.mp w))]
    | false =>
      refine hk F' 0 false p ⟨cx.1.f (go 1 (by omega) (by omega)), cx.2.1, ?_⟩ ⟨0, by omega, rfl⟩ (fun q => Bool.noConfusion q) (fun _ => ⟨rfl, rfl⟩)
      rw [if_neg (by decide)]
      exact ⟨by rw [g3, ht0 rfl]; exact flt_p (by have := cx.2.1; omega), _, d2', g2⟩
theorem c_opt {t : Nat} {B : Nat → Int32} (hB : TB t B) {b : Bool} {p : Nat} {F : tF} {A : tA} (cx : CXr t B b p F A) {w M : Nat} (hw : w < 18) (hM : M < 1000) (J : Int32 → tF → tA → Prop) (hJ : ∀ F' v b' p', CXr t B b' p' F' A → inR v (M + 1) → (b = true → (b', p', v) = oV B t w (nI M) p) → (b = false → b' = false ∧ p' = p) → J v F' A) : p_X3_isNext F A w (fun r F' A' => (r = 0 → J 0 F' A') ∧ (¬ r = 0 → p_X3_readNumber F' A' (nI M) (fun r' F'' A'' => J r' F'' A''))) := by
  refine c_isNext hB cx hw (fun F' cx' yw => a1 (c_num hB cx' hM (fun F2 v b' p' cx2 hv e1 e0 => hJ F2 v b' p' cx2 hv (fun hb => ?_) (fun hb => ?_)))) (fun F' cx' _ nw => a0 (hJ F' 0 b p cx' ⟨0, by omega, rfl⟩ (fun hb => ?_) (fun hb => ⟨hb, rfl⟩)))
  · rw [e1 hb, if_pos hb]; unfold oV; rw [if_pos (yw hb)]
  · have := e0 hb
    rw [if_neg (by rw [hb]; decide)] at this; exact this
  · rw [hb]; unfold oV; rw [if_neg (nw hb)]
theorem c_fail {t : Nat} {B : Nat → Int32} (hB : TB t B) {b : Bool} {p q : Nat} (hq : q ≤ t) {F : tF} {A : tA} (cx : CXr t B b p F A) {K : tF → tA → Prop} (hk : ∀ F', CXr t B false (if b = true then q else p) F' A → K F' A) : p_X3_fail F A (nI q) K := by
  have ht := hB.1
  obtain ⟨p', hp', e2, ht1, ht0⟩ := cx.pos
  refine s_fail (fun F' g3 go => hk F' ⟨cx.1.f (go 1 (by omega)), ?_, ?_⟩)
  · split
    · exact hq
    · exact cx.2.1
  · rw [if_neg (by decide)]
    cases b with
    | true => rw [if_pos rfl]; exact ⟨by rw [g3, (ht1 rfl).2, flt_m1], p', hp', by rw [go 2 (by omega)]; exact e2⟩
    | false => rw [if_neg (by decide)]; exact ⟨by rw [g3, ht0 rfl]; exact flt_p (by have := cx.2.1; omega), p', hp', by rw [go 2 (by omega)]; exact e2⟩
def CFr (t : Nat) (B : Nat → Int32) (F : tF) (A : tA) (F1 : tF) (A1 : tA) (y : PS) : Prop := CXr t B y.1 y.2.1 F A ∧ inR (F1 8) 9 ∧ (y.1 = true → HR F1 A1 y.2.2 ∧ OkS y.2.2)
theorem HR.in9 {F1 : tF} {A1 : tA} {s : tF} (h : HR F1 A1 s) (ok : OkS s) : inR (F1 8) 9 := ⟨nS s, by have := ok.n.2; omega, h.iff_F ok⟩
theorem c_add {F1 : tF} {A1 : tA} (h8 : inR (F1 8) 9) {k e f l : Int32} {K : tF → tA → Prop} (hk : ∀ F' A', inR (F' 8) 9 → K F' A') : p_X2_add F1 A1 k e f l K := by
  obtain ⟨n, hn, e8⟩ := h8
  unfold p_X2_add
  rw [e8]
  refine ⟨fun c => ?_, fun _ => hk F1 A1 ⟨n, hn, e8⟩⟩
  have h8' : n < 8 := (nI_ltI (a := n) (b := 8) (by omega) (by omega)).mp c
  have iv : vp_in (nI n) 8 := vp_in_nI h8' (by omega)
  exact ⟨iv, fun f1 _ => ⟨iv, fun f2 _ => ⟨iv, fun f3 _ => ⟨iv, fun f4 _ => fun y hy => hk _ _ ⟨n + 1, by omega, by rw [pk_us, hy]; exact nI_1 _⟩⟩⟩⟩⟩
theorem c_J74 {t : Nat} {B : Nat → Int32} {b : Bool} {p : Nat} {F : tF} {A : tA} (cx : CXr t B b p F A) {F1 : tF} {A1 : tA} (h8 : inR (F1 8) 9) {s : tF} {kd e f l : Int32} (hh : b = true → HR F1 A1 s ∧ OkS s ∧ nS s < 8 ∧ upto kd 5 ∧ upto e 9 ∧ upto f 9 ∧ upto l 5) {K : tF → tA → tF → tA → Prop} (hk : ∀ F1' A1', CFr t B F A F1' A1' (b, p, addS s kd e f l) → K F A F1' A1') : p_X3_readSheep_J74 F A F1 A1 K kd e f l := by
  unfold p_X3_readSheep_J74
  cases b with
  | true =>
    obtain ⟨hr, ok, hn, u1, u2, u3, u4⟩ := hh rfl
    have ok' := ok.add hn u1 u2 u3 u4
    exact s_X2_add hr ok hn (fun F' A' h' => hk F' A' ⟨cx, h'.in9 ok', fun _ => ⟨h', ok'⟩⟩)
  | false => exact c_add h8 (fun F' A' h' => hk F' A' ⟨cx, h', fun q => Bool.noConfusion (show false = true from q)⟩)
theorem CFr.bad {t : Nat} {B : Nat → Int32} {F : tF} {A : tA} {F1 : tF} {A1 : tA} {p : Nat} {s s' : tF} (h : CFr t B F A F1 A1 (false, p, s)) : CFr t B F A F1 A1 (false, p, s') := ⟨h.1, h.2.1, fun q => Bool.noConfusion (show false = true from q)⟩
theorem pv_inj {b b' : Bool} {p p' : Nat} {v v' : Int32} (h : (b, p, v) = ((b', p', v') : PV)) : b = b' ∧ p = p' ∧ v = v' := by
  obtain ⟨e1, e2⟩ := Prod.mk.inj h
  obtain ⟨e2, e3⟩ := Prod.mk.inj e2
  exact ⟨e1, e2, e3⟩
theorem pv_eq {b : Bool} {p : Nat} {v : Int32} {y : PV} (h : (b, p, v) = y) : b = y.1 ∧ p = y.2.1 ∧ v = y.2.2 := by subst h; exact ⟨rfl, rfl, rfl⟩
theorem c_J54 {t : Nat} {B : Nat → Int32} (hB : TB t B) {b : Bool} {p : Nat} {F : tF} {A : tA} (cx : CXr t B b p F A) {F1 : tF} {A1 : tA} (h8 : inR (F1 8) 9) {s : tF} {kd e f : Int32} (hh : b = true → HR F1 A1 s ∧ OkS s ∧ nS s < 8 ∧ upto kd 5 ∧ upto e 9 ∧ upto f 9) {K : tF → tA → tF → tA → Prop} (hk : ∀ F' F1' A1', CFr t B F' A F1' A1' (if b = true then ((oV B t 8 5 p).1, (oV B t 8 5 p).2.1, addS s kd e f (oV B t 8 5 p).2.2) else (false, p, s)) → K F' A F1' A1') : p_X3_readSheep_J54 F A F1 A1 K kd e f := by
  unfold p_X3_readSheep_J54
  refine c_opt (M := 5) hB cx (w := 8) (by omega) (by omega) (fun v F' A' => p_X3_readSheep_J74 F' A' F1 A1 K kd e f v) (fun F' v b' p' cx' hv e1 e0 => c_J74 cx' h8 (s := s) (fun hb' => ?_) (fun F1' A1' cf => hk F' F1' A1' ?_))
  · have hb : b = true := by
      cases b with
      | true => rfl
      | false => rw [(e0 rfl).1] at hb'; exact hb'
    obtain ⟨g1, g2, g3, g4, g5, g6⟩ := hh hb
    exact ⟨g1, g2, g3, g4, g5, g6, hv.up⟩
  · cases b with
    | true =>
      rw [if_pos rfl]
      obtain ⟨k1, k2, k3⟩ := pv_eq (e1 rfl)
      have k1' : (oV B t 8 5 p).1 = b' := k1.symm
      have k2' : (oV B t 8 5 p).2.1 = p' := k2.symm
      have k3' : (oV B t 8 5 p).2.2 = v := k3.symm
      rw [k1', k2', k3']; exact cf
    | false =>
      rw [if_neg (by decide)]
      obtain ⟨k1, k2⟩ := e0 rfl
      rw [k1, k2] at cf
      exact cf.bad
theorem c_J33 {t : Nat} {B : Nat → Int32} (hB : TB t B) {b : Bool} {p : Nat} {F : tF} {A : tA} (cx : CXr t B b p F A) {F1 : tF} {A1 : tA} (h8 : inR (F1 8) 9) {s : tF} {kd e : Int32} (hh : b = true → HR F1 A1 s ∧ OkS s ∧ nS s < 8 ∧ upto kd 5 ∧ upto e 9) {K : tF → tA → tF → tA → Prop} (hk : ∀ F' F1' A1', CFr t B F' A F1' A1' (if b = true then (if (oV B t 7 9 p).1 = true then ((oV B t 8 5 (oV B t 7 9 p).2.1).1, (oV B t 8 5 (oV B t 7 9 p).2.1).2.1, addS s kd e (oV B t 7 9 p).2.2 (oV B t 8 5 (oV B t 7 9 p).2.1).2.2) else (false, (oV B t 7 9 p).2.1, s)) else (false, p, s)) → K F' A F1' A1') : p_X3_readSheep_J33 F A F1 A1 K kd e := by
  unfold p_X3_readSheep_J33
  refine c_opt (M := 9) hB cx (w := 7) (by omega) (by omega) (fun v F' A' => p_X3_readSheep_J54 F' A' F1 A1 K kd e v) (fun F' v b' p' cx' hv e1 e0 => c_J54 hB cx' h8 (s := s) (fun hb' => ?_) (fun F2 F1' A1' cf => hk F2 F1' A1' ?_))
  · have hb : b = true := by
      cases b with
      | true => rfl
      | false => rw [(e0 rfl).1] at hb'; exact hb'
    obtain ⟨g1, g2, g3, g4, g5⟩ := hh hb
    exact ⟨g1, g2, g3, g4, g5, hv.up⟩
  · cases b with
    | true =>
      rw [if_pos rfl]
      obtain ⟨k1, k2, k3⟩ := pv_eq (e1 rfl)
      have k1' : (oV B t 7 9 p).1 = b' := k1.symm
      have k2' : (oV B t 7 9 p).2.1 = p' := k2.symm
      have k3' : (oV B t 7 9 p).2.2 = v := k3.symm
      rw [k1', k2', k3']; exact cf
    | false =>
      rw [if_neg (by decide)]
      obtain ⟨k1, k2⟩ := e0 rfl
      rw [k1, k2, if_neg (by decide)] at cf
      exact cf
theorem c_J14 {t : Nat} {B : Nat → Int32} (hB : TB t B) {b : Bool} {p : Nat} {F : tF} {A : tA} (cx : CXr t B b p F A) {F1 : tF} {A1 : tA} (h8 : inR (F1 8) 9) {s : tF} {kd : Int32} (hh : b = true → HR F1 A1 s ∧ OkS s ∧ nS s < 8 ∧ upto kd 5) {K : tF → tA → tF → tA → Prop} (hk : ∀ F' F1' A1', CFr t B F' A F1' A1' (if b = true then (if (oV B t 6 9 p).1 = true then
      (if (oV B t 7 9 (oV B t 6 9 p).2.1).1 = true then
        ((oV B t 8 5 (oV B t 7 9 (oV B t 6 9 p).2.1).2.1).1, (oV B t 8 5 (oV B t 7 9 (oV B t 6 9 p).2.1).2.1).2.1, addS s kd (oV B t 6 9 p).2.2 (oV B t 7 9 (oV B t 6 9 p).2.1).2.2 (oV B t 8 5 (oV B t 7 9 (oV B t 6 9 p).2.1).2.1).2.2)
      else (false, (oV B t 7 9 (oV B t 6 9 p).2.1).2.1, s))
    else (false, (oV B t 6 9 p).2.1, s)) else (false, p, s)) → K F' A F1' A1') : p_X3_readSheep_J14 F A F1 A1 K kd := by
  unfold p_X3_readSheep_J14
  refine c_opt (M := 9) hB cx (w := 6) (by omega) (by omega) (fun v F' A' => p_X3_readSheep_J33 F' A' F1 A1 K kd v) (fun F' v b' p' cx' hv e1 e0 => c_J33 hB cx' h8 (s := s) (fun hb' => ?_) (fun F2 F1' A1' cf => hk F2 F1' A1' ?_))
  · have hb : b = true := by
      cases b with
      | true => rfl
      | false => rw [(e0 rfl).1] at hb'; exact hb'
    obtain ⟨g1, g2, g3, g4⟩ := hh hb
    exact ⟨g1, g2, g3, g4, hv.up⟩
  · cases b with
    | true =>
      rw [if_pos rfl]
      obtain ⟨k1, k2, k3⟩ := pv_eq (e1 rfl)
      have k1' : (oV B t 6 9 p).1 = b' := k1.symm
      have k2' : (oV B t 6 9 p).2.1 = p' := k2.symm
      have k3' : (oV B t 6 9 p).2.2 = v := k3.symm
      rw [k1', k2', k3']; exact cf
    | false =>
      rw [if_neg (by decide)]
      obtain ⟨k1, k2⟩ := e0 rfl
      rw [k1, k2, if_neg (by decide)] at cf
      exact cf
theorem c_sheep {t : Nat} {B : Nat → Int32} (hB : TB t B) {p q : Nat} (hq : q ≤ t) {F : tF} {A : tA} (cx : CXr t B true p F A) {F1 : tF} {A1 : tA} {s : tF} (hr : HR F1 A1 s) (ok : OkS s) {kd : Int32} (hkd : upto kd 5) {K : tF → tA → tF → tA → Prop} (hk : ∀ F' F1' A1', CFr t B F' A F1' A1' (sheepAt B t kd p s q) → K F' A F1' A1') : p_X3_readSheep F A F1 A1 kd (nI q) K := by
  have hn := ok.n
  unfold p_X3_readSheep
  rw [hr.iff_F ok]
  refine ⟨fun c => ?_, fun c => c_fail hB hq cx (fun F' cx' => ?_)⟩
  · have h8 : nS s < 8 := (nI_ltI (a := nS s) (b := 8) (by omega) (by omega)).mp c
    refine c_J14 hB cx (hr.in9 ok) (s := s) (fun _ => ⟨hr, ok, h8, hkd⟩) (fun F' F1' A1' cf => hk F' F1' A1' ?_)
    unfold sheepAt
    rw [if_pos h8]; rw [if_pos rfl] at cf; exact cf
  · have h8 : ¬ nS s < 8 := fun w => c (nI_lt (a := nS s) (b := 8) w (by omega))
    refine c_J14 hB cx' (hr.in9 ok) (s := s) (fun q => Bool.noConfusion (show false = true from q)) (fun F' F1' A1' cf => hk F' F1' A1' ?_)
    unfold sheepAt
    rw [if_neg h8]; rw [if_neg (by decide), if_pos rfl] at cf; exact cf
theorem c_place {t : Nat} {B : Nat → Int32} (hB : TB t B) {p : Nat} {F : tF} {A : tA} (cx : CXr t B true p F A) {F1 : tF} {A1 : tA} {s : tF} (hr : HR F1 A1 s) (ok : OkS s) {i row : Nat} (hi : (i = 1 ∧ row = 9) ∨ (i = 2 ∧ row = 15)) {K : tF → tA → tF → Prop} (hk : ∀ F' g, CFr t B F' A F1 (va_up A1 i g) (placeAt B t row p s) → K F' A g) : p_X3_readPlace F A 6 (A1 i) K := by
  have ht := hB.1
  -- behind what must be 'is'
  have J23 : ∀ {F2 : tF} {b2 : Bool} {p2 : Nat} {v : Int32}, CXr t B b2 p2 F2 A → inR v 6 → (∀ F' g, CFr t B F' A F1 (va_up A1 i g) (if b2 = true then ((nV B t 9 p2).1, (nV B t 9 p2).2.1, upd s (row + v.toNatClampNeg) (nV B t 9 p2).2.2) else (false, p2, s)) → K F' A g) → p_X3_readPlace_J23 6 F2 A (A1 i) K v := by
    intro F2 b2 p2 v cx2 hv hk
    obtain ⟨j, hj, rfl⟩ := hv
    unfold p_X3_readPlace_J23
    refine c_num hB cx2 (M := 9) (by omega) (fun F3 v3 b3 p3 cx3 hv3 e1 e0 => ⟨vp_in_nI hj (by omega), fun g hg => hk F3 g ?_⟩)
    rw [nI_clamp (by omega)] at hg ⊢
    cases b2 with
    | true =>
      rw [if_pos rfl]
      obtain ⟨k1, k2, k3⟩ := pv_eq (e1 rfl)
      have k1' : (nV B t 9 p2).1 = b3 := k1.symm
      have k2' : (nV B t 9 p2).2.1 = p3 := k2.symm
      have k3' : (nV B t 9 p2).2.2 = v3 := k3.symm
      rw [k1', k2', k3']
      refine ⟨cx3, hr.in9 ok, fun _ => ⟨?_, ?_⟩⟩
      · rcases hi with ⟨rfl, rfl⟩ | ⟨rfl, rfl⟩
        · exact hr.put (Cs.g hj) hg
        · exact hr.put (Cs.r hj) hg
      · rcases hi with ⟨rfl, rfl⟩ | ⟨rfl, rfl⟩
        · exact ok.put (by omega) (fun _ => by rw [bnd_g (by omega)]; exact hv3.up)
        · exact ok.put (by omega) (fun _ => by rw [show 15 + j = 9 + (6 + j) by omega, bnd_g (by omega)]; exact hv3.up)
    | false =>
      rw [if_neg (by decide)]
      obtain ⟨k1, k2⟩ := e0 rfl
      rw [k1, k2] at cx3
      exact ⟨cx3, hr.in9 ok, fun q => Bool.noConfusion (show false = true from q)⟩
  unfold p_X3_readPlace
  refine c_num hB cx (M := 5) (by omega) (fun F2 v b2 p2 cx2 hv e1 _ => ?_)
  obtain ⟨k1, k2, k3⟩ := pv_eq (e1 rfl)
  have k1' : (nV B t 5 p).1 = b2 := k1.symm
  have k2' : (nV B t 5 p).2.1 = p2 := k2.symm
  have k3' : (nV B t 5 p).2.2 = v := k3.symm
  refine c_isNext hB cx2 (w := 10) (by omega) (fun F3 cx3 yw => b1 (J23 cx3 hv (fun F' g cf => hk F' g ?_))) (fun F3 cx3 ⟨q, hq, eq, hs⟩ nw => b0 ?_)
  · unfold placeAt
    rw [k1', k2', k3']
    cases b2 with
    | true => rw [if_pos rfl, if_pos (yw rfl)]; rw [if_pos rfl, if_pos rfl] at cf; exact cf
    | false => rw [if_neg (by decide)]; rw [if_neg (by decide), if_neg (by decide)] at cf; exact cf
  · rw [eq]
    refine c_fail hB hq cx3 (fun F4 cx4 => J23 cx4 hv (fun F' g cf => hk F' g ?_))
    unfold placeAt
    rw [k1', k2', k3']
    rw [if_neg (by decide)] at cf
    cases b2 with
    | true => rw [if_pos rfl, if_neg (nw rfl), ← hs rfl]; rw [if_pos rfl] at cf; exact cf
    | false => rw [if_neg (by decide)]; rw [if_neg (by decide)] at cf; exact cf
theorem c_end {t : Nat} {B : Nat → Int32} (hB : TB t B) {F : tF} {A : tA} {F1 : tF} {A1 : tA} {y : PS} (cf : CFr t B F A F1 A1 y) {K : tF → tA → Prop} (hk : ∀ F', CFr t B F' A F1 A1 (bd y (endS B t)) → K F' A) : p_X3_readEnd F A K := by
  have ht := hB.1
  obtain ⟨cx, h8, hh⟩ := cf
  obtain ⟨p', hp', e2, ht1, ht0⟩ := cx.pos
  obtain ⟨q1, q2⟩ := sk_le hB hp'
  obtain ⟨b, p, s⟩ := y
  have hp : p ≤ t := cx.2.1
  refine s_readEnd hB cx.1 hp' e2 (fun yb F' g2 go => hk F' ?_) (fun nb F' g2 g3 go => hk F' ?_)
  · have hl : skS B t p' < t := by
      rcases Nat.lt_or_ge (skS B t p') t with w | w
      · exact w
      · have := hB.2.2 _ w
        rw [this] at yb; exact absurd yb (by decide)
    cases b with
    | true =>
      have es : skS B t p' = skS B t p := (ht1 rfl).1
      have eb : bd (true, p, s) (endS B t) = (true, skS B t p + 1, s) := by
        show endS B t p s = _
        unfold endS; rw [← es, if_pos yb]
      rw [eb]
      exact ⟨⟨cx.1.f (go 1 (by omega)), by show skS B t p + 1 ≤ t; omega, by rw [if_pos rfl]; exact ⟨by rw [go 3 (by omega)]; exact (ht1 rfl).2, skS B t p + 1, by omega, by rw [g2, es], rfl⟩⟩, h8, fun _ => hh rfl⟩
    | false =>
      have eb : bd (false, p, s) (endS B t) = (false, p, s) := rfl
      rw [eb]
      exact ⟨⟨cx.1.f (go 1 (by omega)), hp, by rw [if_neg (show ¬ (false : Bool) = true from Bool.false_ne_true)]; exact ⟨by rw [go 3 (by omega)]; exact ht0 rfl, skS B t p' + 1, by omega, g2⟩⟩, h8, fun q => Bool.noConfusion (show false = true from q)⟩
  · cases b with
    | true =>
      have es : skS B t p' = skS B t p := (ht1 rfl).1
      have eb : bd (true, p, s) (endS B t) = (false, skS B t p, s) := by
        show endS B t p s = _
        unfold endS; rw [← es, if_neg nb]
      rw [eb]
      exact ⟨⟨cx.1.f (go 1 (by omega) (by omega)), by show skS B t p ≤ t; omega, by rw [if_neg (show ¬ (false : Bool) = true from Bool.false_ne_true)]; exact ⟨by rw [g3, (ht1 rfl).2, flt_m1, es], _, q2, g2⟩⟩, h8, fun q => Bool.noConfusion (show false = true from q)⟩
    | false =>
      have eb : bd (false, p, s) (endS B t) = (false, p, s) := rfl
      rw [eb]
      exact ⟨⟨cx.1.f (go 1 (by omega) (by omega)), hp, by rw [if_neg (show ¬ (false : Bool) = true from Bool.false_ne_true)]; exact ⟨by rw [g3, ht0 rfl]; exact flt_p (p := p) (by omega), _, q2, g2⟩⟩, h8, fun q => Bool.noConfusion (show false = true from q)⟩
theorem c_readKind {t : Nat} {B : Nat → Int32} (hB : TB t B) {p : Nat} {F : tF} {A : tA} (cx : CXr t B true p F A) {K : Int32 → tF → tA → Prop} (h1 : ∀ F' w, w < 6 → kdW B t (skS B t p) = nI w → CXr t B true (aE B t (skS B t p)) F' A → K (nI w) F' A) (h0 : ∀ F', kdW B t (skS B t p) = -1 → CXr t B true p F' A → (∃ q, q ≤ t ∧ F' 2 = nI q ∧ (true = true → q = skS B t p)) → K 6 F' A) : p_X3_readKind F A K := by
  have KD : kdW B t (skS B t p) = kdW B t (skS B t p) := rfl
  unfold p_X3_readKind
  refine c_isNext hB cx (w := 0) (by omega) (fun F1 cx1 y0 => a1 (h1 F1 0 (by omega) ?_ cx1)) (fun F1 cx1 _ n0 => a0 ?_)
  · unfold kdW; rw [if_pos (y0 rfl)]; rfl
  refine c_isNext hB cx1 (w := 1) (by omega) (fun F2 cx2 y1 => a1 (h1 F2 1 (by omega) ?_ cx2)) (fun F2 cx2 _ n1 => a0 ?_)
  · unfold kdW; rw [if_neg (n0 rfl), if_pos (y1 rfl)]; rfl
  refine c_isNext hB cx2 (w := 2) (by omega) (fun F3 cx3 y2 => a1 (h1 F3 2 (by omega) ?_ cx3)) (fun F3 cx3 _ n2 => a0 ?_)
  · unfold kdW; rw [if_neg (n0 rfl), if_neg (n1 rfl), if_pos (y2 rfl)]; rfl
  refine c_isNext hB cx3 (w := 3) (by omega) (fun F4 cx4 y3 => a1 (h1 F4 3 (by omega) ?_ cx4)) (fun F4 cx4 _ n3 => a0 ?_)
  · unfold kdW; rw [if_neg (n0 rfl), if_neg (n1 rfl), if_neg (n2 rfl), if_pos (y3 rfl)]; rfl
  refine c_isNext hB cx4 (w := 4) (by omega) (fun F5 cx5 y4 => a1 (h1 F5 4 (by omega) ?_ cx5)) (fun F5 cx5 _ n4 => a0 ?_)
  · unfold kdW; rw [if_neg (n0 rfl), if_neg (n1 rfl), if_neg (n2 rfl), if_neg (n3 rfl), if_pos (y4 rfl)]; rfl
  refine c_isNext hB cx5 (w := 5) (by omega) (fun F6 cx6 y5 => a1 (h1 F6 5 (by omega) ?_ cx6)) (fun F6 cx6 ex n5 => a0 (h0 F6 ?_ cx6 ex))
  · unfold kdW; rw [if_neg (n0 rfl), if_neg (n1 rfl), if_neg (n2 rfl), if_neg (n3 rfl), if_neg (n4 rfl), if_pos (y5 rfl)]; rfl
  · unfold kdW; rw [if_neg (n0 rfl), if_neg (n1 rfl), if_neg (n2 rfl), if_neg (n3 rfl), if_neg (n4 rfl), if_neg (n5 rfl)]
theorem c_law {t : Nat} {B : Nat → Int32} (hB : TB t B) {p : Nat} {F : tF} {A : tA} (cx : CXr t B true p F A) {F1 : tF} {A1 : tA} {s : tF} (hr : HR F1 A1 s) (ok : OkS s) {i M : Nat} (hi : i < 4) (hM : M = if i = 3 then 99 else 9) {K : tF → tA → tF → tA → Prop} (hk : ∀ F' A1', CFr t B F' A F1 A1' (numAt B t (5 + i) (nI M) p s) → K F' A F1 A1') : p_X3_readLaw_J55 F A F1 A1 K (nI i) := by
  unfold p_X3_readLaw_J55
  refine ⟨fun _ => s_X6_mostOfLaw ?_, fun q => absurd ((nI_eq (a := i) (b := 4) (by omega) (by omega)).mp q) (by omega)⟩
  have em : (if nI i = 3 then (99 : Int32) else 9) = nI M := by
    by_cases c : i = 3
    · subst c; rw [if_pos (by rfl), hM, if_pos rfl]; rfl
    · rw [if_neg (show ¬ nI i = (3 : Int32) from fun q => c ((nI_eq (a := i) (b := 3) (by omega) (by omega)).mp q)), hM, if_neg c]; rfl
  rw [em]
  refine c_num hB cx (M := M) (by rw [hM]; split <;> omega) (fun F2 v b2 p2 cx2 hv e1 _ => ⟨vp_in_nI hi (by omega), fun f hf => hk F2 _ ?_⟩)
  obtain ⟨k1, k2, k3⟩ := pv_eq (e1 rfl)
  have k1' : (nV B t (nI M) p).1 = b2 := k1.symm
  have k2' : (nV B t (nI M) p).2.1 = p2 := k2.symm
  have k3' : (nV B t (nI M) p).2.2 = v := k3.symm
  rw [nI_clamp (by omega)] at hf
  unfold numAt
  rw [k1', k2', k3']
  refine ⟨cx2, hr.in9 ok, fun _ => ⟨hr.put (Or.inl ⟨rfl, hi, rfl⟩) hf, ok.put (by omega) (fun _ => ?_)⟩⟩
  have := hv.up
  rw [hM] at this
  by_cases c : i = 3
  · subst c; exact this
  · rw [if_neg c] at this
    unfold bnd; rw [if_neg (by omega), if_neg (by omega), if_pos (by omega)]; exact this
theorem c_statement {t : Nat} {B : Nat → Int32} (hB : TB t B) {p : Nat} {F : tF} {A : tA} (cx : CXr t B true p F A) (e2 : F 2 = nI (skS B t p)) {F1 : tF} {A1 : tA} {s : tF} (hr : HR F1 A1 s) (ok : OkS s) {K : tF → tA → tF → tA → Prop} (hk : ∀ F' F1' A1', CFr t B F' A F1' A1' (stS B t p s) → K F' A F1' A1') : p_X3_readStatement F A F1 A1 K := by
  have ht := hB.1
  obtain ⟨q1, q2⟩ := sk_le hB cx.2.1
  have FIN : ∀ {F' : tF} {F1' : tF} {A1' : tA}, CFr t B F' A F1' A1' (itemS B t (skS B t p) s) → p_X3_readStatement_J115 F' A F1' A1' K := fun cf => by
    unfold p_X3_readStatement_J115
    exact c_end hB cf (fun F2 cf2 => hk F2 _ _ cf2)
  unfold p_X3_readStatement
  intro y hy
  rw [e2] at hy
  subst hy
  refine c_readKind hB cx (fun F2 w hw ek cx2 => ⟨fun c => absurd c (nI_ge (a := w) (b := 6) hw (by omega)), fun _ => ?_⟩) (fun F2 ek cx2 ex => ⟨fun _ => ?_, fun c => absurd (by decide) c⟩)
  · refine c_sheep hB q2 cx2 hr ok (kd := nI w) ⟨w, by omega, rfl⟩ (fun F' F1' A1' cf => FIN ?_)
    unfold itemS
    rw [ek, if_pos (nI_pos' (by omega))]; exact cf
  · have k0 : ¬ 0 ≤ kdW B t (skS B t p) := by rw [ek]; decide
    have eI : itemS B t (skS B t p) s = (if wdB B t (skS B t p) 9 = true then placeAt B t 9 (aE B t (skS B t p)) s
  else if wdB B t (skS B t p) 11 = true then placeAt B t 15 (aE B t (skS B t p)) s
  else if wdB B t (skS B t p) 12 = true then numAt B t 3 5 (aE B t (skS B t p)) s
  else if wdB B t (skS B t p) 13 = true then callAt B t (aE B t (skS B t p)) s
  else if wdB B t (skS B t p) 14 = true then numAt B t 5 9 (aE B t (skS B t p)) s
  else if wdB B t (skS B t p) 15 = true then numAt B t 6 9 (aE B t (skS B t p)) s
  else if wdB B t (skS B t p) 16 = true then numAt B t 7 9 (aE B t (skS B t p)) s
  else if wdB B t (skS B t p) 17 = true then numAt B t 8 99 (aE B t (skS B t p)) s
  else (false, skS B t p, s)) := by unfold itemS; rw [if_neg k0]
    refine c_isNext hB cx2 (w := 9) (by omega) (fun F3 cx3 y9 => a1 ?_) (fun F3 cx3 _ n9 => a0 ?_)
    · refine c_place hB cx3 hr ok (i := 1) (row := 9) (Or.inl ⟨rfl, rfl⟩) (fun F' g cf => FIN ?_)
      rw [eI, if_pos (y9 rfl)]; exact cf
    refine c_isNext hB cx3 (w := 11) (by omega) (fun F4 cx4 y11 => a1 ?_) (fun F4 cx4 _ n11 => a0 ?_)
    · refine c_place hB cx4 hr ok (i := 2) (row := 15) (Or.inr ⟨rfl, rfl⟩) (fun F' g cf => FIN ?_)
      rw [eI, if_neg (n9 rfl), if_pos (y11 rfl)]; exact cf
    refine c_isNext hB cx4 (w := 12) (by omega) (fun F5 cx5 y12 => a1 ?_) (fun F5 cx5 _ n12 => a0 ?_)
    · refine c_num hB cx5 (M := 5) (by omega) (fun F6 v b6 p6 cx6 hv e1 _ => FIN ?_)
      obtain ⟨k1, k2, k3⟩ := pv_eq (e1 rfl)
      have k1' : (nV B t 5 (aE B t (skS B t p))).1 = b6 := k1.symm
      have k2' : (nV B t 5 (aE B t (skS B t p))).2.1 = p6 := k2.symm
      have k3' : (nV B t 5 (aE B t (skS B t p))).2.2 = v := k3.symm
      rw [eI, if_neg (n9 rfl), if_neg (n11 rfl), if_pos (y12 rfl)]
      unfold numAt
      rw [k1', k2', k3']
      exact ⟨cx6, by rw [pk_un (by omega)]; exact hr.in9 ok, fun _ => ⟨hr.fld (Or.inl ⟨rfl, rfl⟩), ok.put (by omega) (fun _ => hv.up)⟩⟩
    refine c_isNext hB cx5 (w := 13) (by omega) (fun F6 cx6 y13 => a1 ?_) (fun F6 cx6 _ n13 => a0 ?_)
    · refine c_num hB cx6 (M := 5) (by omega) (fun F7 v b7 p7 cx7 hv e1 _ z hz => FIN ?_)
      obtain ⟨k1, k2, k3⟩ := pv_eq (e1 rfl)
      have k1' : (nV B t 5 (aE B t (skS B t p))).1 = b7 := k1.symm
      have k2' : (nV B t 5 (aE B t (skS B t p))).2.1 = p7 := k2.symm
      have k3' : (nV B t 5 (aE B t (skS B t p))).2.2 = v := k3.symm
      rw [eI, if_neg (n9 rfl), if_neg (n11 rfl), if_neg (n12 rfl), if_pos (y13 rfl)]
      unfold callAt
      rw [k1', k2', k3']
      have ez : z = 1 + v := by rw [hz]; exact Int32.add_comm _ _
      refine ⟨cx7, by rw [pk_un (by omega)]; exact hr.in9 ok, fun _ => ⟨?_, ok.put (by omega) (fun _ => ?_)⟩⟩
      · rw [ez]; exact hr.fld (Or.inr (Or.inl ⟨rfl, rfl⟩))
      · obtain ⟨j, hj, rfl⟩ := hv
        exact ⟨1 + j, by show 1 + j ≤ 6; omega, nI_add 1 j⟩
    unfold p_X3_readLaw
    refine c_isNext hB cx6 (w := 14) (by omega) (fun F7 cx7 y14 => a1 ?_) (fun F7 cx7 _ n14 => a0 ?_)
    · refine c_law hB cx7 hr ok (i := 0) (M := 9) (by omega) rfl (fun F' A1' cf => FIN ?_)
      rw [eI, if_neg (n9 rfl), if_neg (n11 rfl), if_neg (n12 rfl), if_neg (n13 rfl), if_pos (y14 rfl)]; exact cf
    refine c_isNext hB cx7 (w := 15) (by omega) (fun F8 cx8 y15 => a1 ?_) (fun F8 cx8 _ n15 => a0 ?_)
    · refine c_law hB cx8 hr ok (i := 1) (M := 9) (by omega) rfl (fun F' A1' cf => FIN ?_)
      rw [eI, if_neg (n9 rfl), if_neg (n11 rfl), if_neg (n12 rfl), if_neg (n13 rfl), if_neg (n14 rfl), if_pos (y15 rfl)]; exact cf
    refine c_isNext hB cx8 (w := 16) (by omega) (fun F9 cx9 y16 => a1 ?_) (fun F9 cx9 _ n16 => a0 ?_)
    · refine c_law hB cx9 hr ok (i := 2) (M := 9) (by omega) rfl (fun F' A1' cf => FIN ?_)
      rw [eI, if_neg (n9 rfl), if_neg (n11 rfl), if_neg (n12 rfl), if_neg (n13 rfl), if_neg (n14 rfl), if_neg (n15 rfl), if_pos (y16 rfl)]; exact cf
    refine c_isNext hB cx9 (w := 17) (by omega) (fun Fa cxa y17 => a1 ?_) (fun Fa cxa ⟨q, hq, eq, hs⟩ n17 => a0 ?_)
    · refine c_law hB cxa hr ok (i := 3) (M := 99) (by omega) rfl (fun F' A1' cf => FIN ?_)
      rw [eI, if_neg (n9 rfl), if_neg (n11 rfl), if_neg (n12 rfl), if_neg (n13 rfl), if_neg (n14 rfl), if_neg (n15 rfl), if_neg (n16 rfl), if_pos (y17 rfl)]; exact cf
    unfold p_X3_readLaw_J55
    refine ⟨fun c => absurd rfl c, fun _ => ?_⟩
    rw [eq]
    refine c_fail hB hq cxa (fun Fb cxb => FIN ?_)
    rw [if_pos rfl, hs rfl] at cxb
    rw [eI, if_neg (n9 rfl), if_neg (n11 rfl), if_neg (n12 rfl), if_neg (n13 rfl), if_neg (n14 rfl), if_neg (n15 rfl), if_neg (n16 rfl), if_neg (n17 rfl)]
    exact ⟨cxb, hr.in9 ok, fun q => Bool.noConfusion (show false = true from q)⟩
