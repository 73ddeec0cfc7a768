/-! the two side by side: what goes round the numbers -/
theorem a1 {P Q : Prop} (h : Q) : ((1 : Int32) = 0 → P) ∧ (¬ (1 : Int32) = 0 → Q) := ⟨fun q => absurd q (by decide), fun _ => h⟩
theorem b1 {P Q : Prop} (h : P) : (¬ (1 : Int32) = 0 → P) ∧ ((1 : Int32) = 0 → Q) := ⟨fun _ => h, fun q => absurd q (by decide)⟩
theorem a0 {P Q : Prop} (h : P) : ((0 : Int32) = 0 → P) ∧ (¬ (0 : Int32) = 0 → Q) := ⟨fun _ => h, fun q => absurd rfl q⟩
theorem b0 {P Q : Prop} (h : Q) : (¬ (0 : Int32) = 0 → P) ∧ ((0 : Int32) = 0 → Q) := ⟨fun q => absurd rfl q, fun _ => h⟩
theorem w1 {x : Int32} {m : Nat} (h : inR x m) (hm : m < 2 ^ 31) {K : Int32 → Prop} (k : K 1) : p_X6_within x (nI m) K := s_X6_within hm (fun _ => k) (fun q => absurd h q)
theorem w0 {x : Int32} {m : Nat} (h : ¬ inR x m) (hm : m < 2 ^ 31) {K : Int32 → Prop} (k : K 0) : p_X6_within x (nI m) K := s_X6_within hm (fun q => absurd q h) (fun _ => k)
theorem g1 {x : Int32} (h : inR x 10) {K : Int32 → Prop} (k : K 1) : p_X6_isFigure x K := s_X6_isFigure (fun _ => k) (fun q => absurd h q)
theorem g0 {x : Int32} (h : ¬ inR x 10) {K : Int32 → Prop} (k : K 0) : p_X6_isFigure x K := s_X6_isFigure (fun q => absurd q h) (fun _ => k)
theorem p1 {x : Int32} (h : inR x 6) {K : Int32 → Prop} (k : K 1) : p_X7_isPlace x K := s_X7_isPlace (fun _ => k) (fun q => absurd h q)
theorem p0 {x : Int32} (h : ¬ inR x 6) {K : Int32 → Prop} (k : K 0) : p_X7_isPlace x K := s_X7_isPlace (fun q => absurd q h) (fun _ => k)
theorem o1 {F : tF} {A : tA} (ok : OkS (A 0)) {x : Int32} (h : inR x (nS (A 0))) {K : Int32 → Prop} (k : K 1) : p_X7_isOne F A x K := s_X7_isOne ok (fun _ => k) (fun q => absurd h q)
theorem o0 {F : tF} {A : tA} (ok : OkS (A 0)) {x : Int32} (h : ¬ inR x (nS (A 0))) {K : Int32 → Prop} (k : K 0) : p_X7_isOne F A x K := s_X7_isOne ok (fun q => absurd q h) (fun _ => k)
theorem i1 {x : Int32} {m : Nat} {a b : Int64} (h : inR x (m + 1)) (hm : m + 1 < 2 ^ 31) (ha : a = 0) (hb : b = (nI m).toInt64) {K : Int32 → Prop} (k : K 1) : p_X7_isIn x.toInt64 a b K := s_X7_in0 hm ha hb (fun _ => k) (fun q => absurd h q)
theorem i0 {x : Int32} {m : Nat} {a b : Int64} (h : ¬ inR x (m + 1)) (hm : m + 1 < 2 ^ 31) (ha : a = 0) (hb : b = (nI m).toInt64) {K : Int32 → Prop} (k : K 0) : p_X7_isIn x.toInt64 a b K := s_X7_in0 hm ha hb (fun q => absurd q h) (fun _ => k)
theorem s_X6_isSheep {F Fn : tF} {An : tA} {s : tF} (h : HR Fn An s) (ok : OkS s) {x : Int32} {K : Int32 → Prop} (h1 : inR x (nS s) → K 1) (h0 : ¬ inR x (nS s) → K 0) : p_X6_isSheep F Fn An x K := by
  unfold p_X6_isSheep
  rw [h.1.1, ok.n.1]
  have := ok.n.2
  exact s_X6_within (by omega) (fun q => ⟨bo_1, h1 q⟩) (fun q => ⟨bo_0, h0 q⟩)
theorem f1 {F Fn : tF} {An : tA} {s : tF} (h : HR Fn An s) (ok : OkS s) {x : Int32} (c : inR x (nS s)) {K : Int32 → Prop} (k : K 1) : p_X6_isSheep F Fn An x K := s_X6_isSheep h ok (fun _ => k) (fun q => absurd c q)
theorem f0 {F Fn : tF} {An : tA} {s : tF} (h : HR Fn An s) (ok : OkS s) {x : Int32} (c : ¬ inR x (nS s)) {K : Int32 → Prop} (k : K 0) : p_X6_isSheep F Fn An x K := s_X6_isSheep h ok (fun q => absurd q c) (fun _ => k)
/-- at least 1, at most m -/
theorem in1_iff {x : Int32} {m : Nat} (hm : m + 1 < 2 ^ 31) : (∃ j : Nat, 1 ≤ j ∧ j ≤ m ∧ x = nI j) ↔ (¬ x < 1 ∧ x ≤ nI m) := by
  constructor
  · rintro ⟨j, h1, h2, rfl⟩
    exact ⟨nI_nlt (a := j) (b := 1) h1 (by omega), nI_le h2 (by omega)⟩
  · rintro ⟨h1, h2⟩
    have h0 : ¬ x < 0 := fun q => h1 (by rw [Int32.lt_iff_toInt_lt] at q ⊢; have e0 : (0 : Int32).toInt = 0 := by decide
                                         have e1 : (1 : Int32).toInt = 1 := by decide
                                         omega)
    obtain ⟨j, hj, rfl⟩ := nI_of h0
    refine ⟨j, ?_, (nI_leI hj (by omega)).mp h2, rfl⟩
    rcases Nat.eq_zero_or_pos j with e | e
    · subst e; exact absurd (by decide) h1
    · exact e
def in1 (x : Int32) (m : Nat) : Prop := ∃ j : Nat, 1 ≤ j ∧ j ≤ m ∧ x = nI j
theorem s_X7_in1 {x : Int32} {m : Nat} (hm : m + 1 < 2 ^ 31) {a b : Int64} (ha : a = 1) (hb : b = (nI m).toInt64) {K : Int32 → Prop} (h1 : in1 x m → K 1) (h0 : ¬ in1 x m → K 0) : p_X7_isIn x.toInt64 a b K :=
  s_X7_isIn (lo := 1) (hi := nI m) (by rw [ha]; rfl) hb (fun p q => h1 ((in1_iff hm).mpr ⟨Int32.not_lt.mpr p, q⟩)) (fun p => h0 (fun q => p ⟨Int32.not_lt.mp ((in1_iff hm).mp q).1, ((in1_iff hm).mp q).2⟩))
theorem j1 {x : Int32} {m : Nat} {a b : Int64} (h : in1 x m) (hm : m + 1 < 2 ^ 31) (ha : a = 1) (hb : b = (nI m).toInt64) {K : Int32 → Prop} (k : K 1) : p_X7_isIn x.toInt64 a b K := s_X7_in1 hm ha hb (fun _ => k) (fun q => absurd h q)
theorem j0 {x : Int32} {m : Nat} {a b : Int64} (h : ¬ in1 x m) (hm : m + 1 < 2 ^ 31) (ha : a = 1) (hb : b = (nI m).toInt64) {K : Int32 → Prop} (k : K 0) : p_X7_isIn x.toInt64 a b K := s_X7_in1 hm ha hb (fun q => absurd q h) (fun _ => k)
theorem s_X7_isShort {x : Int32} {K : Int32 → Prop} (h1 : in1 x 20 → K 1) (h0 : ¬ in1 x 20 → K 0) : p_X7_isShort x K := by
  unfold p_X7_isShort
  exact s_X7_in1 (m := 20) (by omega) rfl rfl (fun q => ⟨bo_1, h1 q⟩) (fun q => ⟨bo_0, h0 q⟩)
/-- 1 to m: the class's two tests -/
theorem cl1 {x : Int32} {m : Nat} (hm : m + 1 < 2 ^ 31) {P Q : Prop} (h1 : in1 x m → Q) (h0 : ¬ in1 x m → P) : (x < 1 → P) ∧ (¬ x < 1 → ((x ≤ nI m → Q) ∧ (¬ x ≤ nI m → P))) :=
  ⟨fun c => h0 (fun q => ((in1_iff hm).mp q).1 c), fun c => ⟨fun d => h1 ((in1_iff hm).mpr ⟨c, d⟩), fun d => h0 (fun q => d ((in1_iff hm).mp q).2)⟩⟩
theorem cl0 {x : Int32} {m : Nat} (hm : m + 1 < 2 ^ 31) {P Q : Prop} (h1 : inR x (m + 1) → Q) (h0 : ¬ inR x (m + 1) → P) : (x < 0 → P) ∧ (¬ x < 0 → ((x ≤ nI m → Q) ∧ (¬ x ≤ nI m → P))) := by
  have e : inR x (m + 1) ↔ (¬ x < 0 ∧ x ≤ nI m) := by
    rw [inR_iff hm]
    constructor
    · rintro ⟨p, q⟩
      obtain ⟨j, hj, rfl⟩ := nI_of p
      exact ⟨p, nI_le (by have := (nI_ltI hj (by omega)).mp q; omega) (by omega)⟩
    · rintro ⟨p, q⟩
      obtain ⟨j, hj, rfl⟩ := nI_of p
      exact ⟨p, nI_lt (by have := (nI_leI hj (by omega)).mp q; omega) (by omega)⟩
  exact ⟨fun c => h0 (fun q => (e.mp q).1 c), fun c => ⟨fun d => h1 (e.mpr ⟨c, d⟩), fun d => h0 (fun q => d (e.mp q).2)⟩⟩
theorem s_X7_becomes {F : tF} {A : tA} {k : Nat} (hk : k < 53) {v : Int32} {K : Int32 → tF → tA → Prop} (h : K (A 0 k) F (va_up A 0 (upd (A 0) k v))) : p_X7_becomes F A (nI k) v K := by
  unfold p_X7_becomes
  rw [nI_clamp (by omega)]
  refine ⟨vp_in_nI hk (by omega), fun y hy => ⟨vp_in_nI hk (by omega), fun f hf => ?_⟩⟩
  rw [hy, hf]; exact h
/-! where which number lies -/
def Cs (n i j k : Nat) : Prop := (i = 0 ∧ j < 4 ∧ k = 5 + j) ∨ (i = 1 ∧ j < 6 ∧ k = 9 + j) ∨ (i = 2 ∧ j < 6 ∧ k = 15 + j) ∨ (i = 3 ∧ j < n ∧ k = 21 + 4 * j) ∨ (i = 4 ∧ j < n ∧ k = 22 + 4 * j) ∨ (i = 5 ∧ j < n ∧ k = 23 + 4 * j) ∨ (i = 6 ∧ j < n ∧ k = 24 + 4 * j)
theorem HR.iff {F : tF} {A : tA} {s : tF} : HR F A s ↔ ((F 8 = s 0 ∧ F 9 = s 3 ∧ F 10 = s 4 ∧ F 11 = s 1 ∧ F 12 = s 2) ∧ ∀ i j k, Cs (nS s) i j k → A i j = s k) := by
  constructor
  · rintro ⟨h, l1, l2, l3, l4⟩
    refine ⟨h, fun i j k c => ?_⟩
    rcases c with ⟨rfl, c, rfl⟩ | ⟨rfl, c, rfl⟩ | ⟨rfl, c, rfl⟩ | ⟨rfl, c, rfl⟩ | ⟨rfl, c, rfl⟩ | ⟨rfl, c, rfl⟩ | ⟨rfl, c, rfl⟩
    · exact l1 j c
    · exact l2 j c
    · exact l3 j c
    · exact (l4 j c).1
    · exact (l4 j c).2.1
    · exact (l4 j c).2.2.1
    · exact (l4 j c).2.2.2
  · rintro ⟨h, l⟩
    refine ⟨h, fun j c => l 0 j _ ?_, fun j c => l 1 j _ ?_, fun j c => l 2 j _ ?_, fun j c => ⟨l 3 j _ ?_, l 4 j _ ?_, l 5 j _ ?_, l 6 j _ ?_⟩⟩ <;> (unfold Cs; omega)
theorem HR.put {F : tF} {A : tA} {s : tF} (h : HR F A s) {i j k : Nat} {v : Int32} (c : Cs (nS s) i j k) {f : tF} (hf : f = upd (A i) j v) : HR F (va_up A i f) (upd s k v) := by
  obtain ⟨q, l⟩ := HR.iff.mp h
  have hk : 5 ≤ k := by unfold Cs at c; omega
  have e : ∀ m, m ≠ k → upd s k v m = s m := fun m hm => pk_un hm
  have en : nS (upd s k v) = nS s := by unfold nS; rw [e 0 (by omega)]
  refine HR.iff.mpr ⟨by rw [e 0 (by omega), e 3 (by omega), e 4 (by omega), e 1 (by omega), e 2 (by omega)]; exact q, fun i' j' k' c' => ?_⟩
  rw [en] at c'
  have hl := l i' j' k' c'
  by_cases ei : i' = i
  · subst ei
    rw [va_up_self, hf]
    by_cases ej : j' = j
    · subst ej
      have : k' = k := by unfold Cs at c c'; omega
      subst this; rw [pk_us, pk_us]
    · have : k' ≠ k := by unfold Cs at c c'; omega
      rw [pk_un ej, pk_un this]; exact hl
  · have : k' ≠ k := by unfold Cs at c c'; omega
    rw [va_up_ne _ _ ei, pk_un this]; exact hl
def bnd (k : Nat) : Nat := if k = 3 then 5 else if k = 4 then 6 else if k < 8 then 9 else if k = 8 then 99 else if k < 21 then 9 else if (k - 21) % 4 = 0 then 5 else if (k - 21) % 4 = 3 then 5 else 9
theorem OkS.iff {s : tF} : OkS s ↔ (upto (s 0) 8 ∧ ∀ k, 3 ≤ k → k < 21 + 4 * nS s → upto (s k) (bnd k)) := by
  constructor
  · rintro ⟨h0, h3, h4, hl, h8, hg, hr, ho⟩
    refine ⟨h0, fun k a b => ?_⟩
    unfold bnd
    by_cases c : k = 3
    · subst c; exact h3
    rw [if_neg c]
    by_cases c : k = 4
    · subst c; exact h4
    rw [if_neg c]
    by_cases c : k < 8
    · rw [if_pos c]
      have := hl (k - 5) (by omega)
      rw [show 5 + (k - 5) = k by omega] at this; exact this
    rw [if_neg c]
    by_cases c : k = 8
    · subst c; exact h8
    rw [if_neg c]
    by_cases c : k < 15
    · rw [if_pos (by omega)]
      have := hg (k - 9) (by omega)
      rw [show 9 + (k - 9) = k by omega] at this; exact this
    by_cases c : k < 21
    · rw [if_pos c]
      have := hr (k - 15) (by omega)
      rw [show 15 + (k - 15) = k by omega] at this; exact this
    rw [if_neg c]
    obtain ⟨q1, q2, q3, q4⟩ := ho ((k - 21) / 4) (by omega)
    by_cases c0 : (k - 21) % 4 = 0
    · rw [if_pos c0]; rw [show 21 + 4 * ((k - 21) / 4) = k by omega] at q1; exact q1
    rw [if_neg c0]
    by_cases c3 : (k - 21) % 4 = 3
    · rw [if_pos c3]; rw [show 24 + 4 * ((k - 21) / 4) = k by omega] at q4; exact q4
    rw [if_neg c3]
    by_cases c1 : (k - 21) % 4 = 1
    · rw [show 22 + 4 * ((k - 21) / 4) = k by omega] at q2; exact q2
    · rw [show 23 + 4 * ((k - 21) / 4) = k by omega] at q3; exact q3
  · rintro ⟨h0, h⟩
    refine ⟨h0, h 3 (by omega) (by omega), h 4 (by omega) (by omega), fun k hk => ?_, h 8 (by omega) (by omega), fun p hp => ?_, fun p hp => ?_, fun o ho => ⟨?_, ?_, ?_, ?_⟩⟩
    · have := h (5 + k) (by omega) (by omega)
      unfold bnd at this; rw [if_neg (by omega), if_neg (by omega), if_pos (by omega)] at this; exact this
    · have := h (9 + p) (by omega) (by omega)
      unfold bnd at this; rw [if_neg (by omega), if_neg (by omega), if_neg (by omega), if_neg (by omega), if_pos (by omega)] at this; exact this
    · have := h (15 + p) (by omega) (by omega)
      unfold bnd at this; rw [if_neg (by omega), if_neg (by omega), if_neg (by omega), if_neg (by omega), if_pos (by omega)] at this; exact this
    · have := h (21 + 4 * o) (by omega) (by omega)
      unfold bnd at this; rw [if_neg (by omega), if_neg (by omega), if_neg (by omega), if_neg (by omega), if_neg (by omega), if_pos (by omega)] at this; exact this
    · have := h (22 + 4 * o) (by omega) (by omega)
      unfold bnd at this; rw [if_neg (by omega), if_neg (by omega), if_neg (by omega), if_neg (by omega), if_neg (by omega), if_neg (by omega), if_neg (by omega)] at this; exact this
    · have := h (23 + 4 * o) (by omega) (by omega)
      unfold bnd at this; rw [if_neg (by omega), if_neg (by omega), if_neg (by omega), if_neg (by omega), if_neg (by omega), if_neg (by omega), if_neg (by omega)] at this; exact this
    · have := h (24 + 4 * o) (by omega) (by omega)
      unfold bnd at this; rw [if_neg (by omega), if_neg (by omega), if_neg (by omega), if_neg (by omega), if_neg (by omega), if_neg (by omega), if_pos (by omega)] at this; exact this
theorem OkS.put {s : tF} (h : OkS s) {k : Nat} {v : Int32} (hk : 1 ≤ k) (hv : 3 ≤ k → upto v (bnd k)) : OkS (upd s k v) := by
  obtain ⟨h0, hl⟩ := OkS.iff.mp h
  have e : ∀ m, m ≠ k → upd s k v m = s m := fun m hm => pk_un hm
  have en : nS (upd s k v) = nS s := by unfold nS; rw [e 0 (by omega)]
  refine OkS.iff.mpr ⟨by rw [e 0 (by omega)]; exact h0, fun m a b => ?_⟩
  rw [en] at b
  by_cases c : m = k
  · subst c; rw [pk_us]; exact hv a
  · rw [e m c]; exact hl m a b
/-- the hill that is now, side by side -/
def HZ (Fn : tF) (An A : tA) : Prop := HR Fn An (A 0) ∧ OkS (A 0) ∧ Z53 (A 0) ∧ Z53 (A 2) ∧ Z53 (A 3)
def Kp (A A' : tA) : Prop := ∀ k, k ≠ 0 → k ≠ 2 → k ≠ 3 → k ≠ 12 → k ≠ 13 → A' k = A k
theorem Kp.rf {A : tA} : Kp A A := fun _ _ _ _ _ _ => rfl
theorem Kp.tr {A B C : tA} (h : Kp A B) (h2 : Kp B C) : Kp A C := fun k a b c d e => (h2 k a b c d e).trans (h k a b c d e)
theorem Kp.up0 {A : tA} {f : tF} : Kp A (va_up A 0 f) := fun _ a _ _ _ _ => va_up_ne _ _ a
theorem Kp.of12 {A A' : tA} (h : ∀ k, k ≠ 12 → A' k = A k) : Kp A A' := fun k _ _ _ d _ => h k d
theorem Kp.ofK12 {A A' : tA} (h : K12 A A') : Kp A A' := fun k a _ _ d _ => h k a d
theorem Kp.ofK2 {A A' : tA} (h : K2 A A') : Kp A A' := fun k _ b _ d _ => h k b d
/-- what a call leaves: the same answer, the hill side by side, all else as it was -/
def Rn (F : tF) (A : tA) (r : Int32) (Fn : tF) (An : tA) : Int32 → tF → tA → Prop := fun r' F' A' => r = r' ∧ F' = F ∧ Kp A A' ∧ HZ Fn An A'
theorem HZ.rn {Fn : tF} {An A : tA} (h : HZ Fn An A) {F : tF} {r : Int32} : Rn F A r Fn An r F A := ⟨rfl, rfl, Kp.rf, h⟩
theorem HZ.put {Fn : tF} {An A : tA} (h : HZ Fn An A) {i j k : Nat} {v : Int32} (c : Cs (nS (A 0)) i j k) (hv : upto v (bnd k)) {f g : tF} (hf : f = upd (An i) j v) (hg : g = upd (A 0) k v) : HZ Fn (va_up An i f) (va_up A 0 g) := by
  obtain ⟨h1, h2, h3, h4, h5⟩ := h
  have hn := h2.n.2
  have hk : 5 ≤ k ∧ k < 53 := by unfold Cs at c; omega
  refine ⟨?_, ?_, ?_, ?_, ?_⟩
  · rw [va_up_self, hg]; exact h1.put c hf
  · rw [va_up_self, hg]; exact h2.put (by omega) (fun _ => hv)
  · rw [va_up_self, hg]; exact h3.up hk.2
  · rw [va_up_ne _ _ (by omega)]; exact h4
  · rw [va_up_ne _ _ (by omega)]; exact h5
theorem inR.up {x : Int32} {m : Nat} (h : inR x (m + 1)) : upto x m := by
  obtain ⟨j, hj, e⟩ := h
  exact ⟨j, by omega, e⟩
theorem ix_o0 (o : Nat) : ((21 : Int32) + ((4 : Int32) * nI o)) = nI (21 + 4 * o) := by
  show nI 21 + nI 4 * nI o = _
  rw [pk_mul, nI_add]
theorem s_X6_mostOfLaw {x : Int32} {K : Int32 → Prop} (h : K (if x = 3 then 99 else 9)) : p_X6_mostOfLaw x K := by
  unfold p_X6_mostOfLaw
  exact ⟨fun c => by rw [if_neg c] at h; exact h, fun c => by rw [if_pos c] at h; exact h⟩
theorem mostOfLaw_eq {x : Int32} {K : Int32 → Prop} : p_X6_mostOfLaw x K = K (if x = 3 then 99 else 9) := by
  refine propext ⟨fun h => ?_, s_X6_mostOfLaw⟩
  unfold p_X6_mostOfLaw at h
  by_cases c : x = 3
  · rw [if_pos c]; exact h.2 c
  · rw [if_neg c]; exact h.1 c
theorem j_set {F Fn : tF} {An : tA} {FM : tF} {A : tA} (h : HZ Fn An A) (x v : Int32) : p_X6_set F Fn An x v (fun r Fn' An' => p_X7_set FM A x v (Rn FM A r Fn' An')) := by
  obtain ⟨hr, ok, _⟩ := id h
  unfold p_X6_set
  by_cases c : inR x 4
  rotate_left
  · exact w0 (m := 4) c (by omega) (a0 (by unfold p_X7_set; exact i0 (m := 3) c (by omega) rfl rfl (a0 h.rn)))
  refine w1 (m := 4) c (by omega) (a1 ?_)
  rw [mostOfLaw_eq]
  have D : ∀ (m : Nat), (m = if x = 3 then 99 else 9) → inR v (m + 1) → ∀ (K : Int32 → tF → tA → Prop), (∀ j f y, j < 4 → x = nI j → y = An 0 j → f = upd (An 0) j v → (Rn FM A y Fn (va_up An 0 f) (A 0 (5 + j)) FM (va_up A 0 (upd (A 0) (5 + j) v))) → K y Fn (va_up An 0 f)) → (vp_in x 4 ∧ (∀ y31 : Int32, y31 = ((An 0) (x).toNatClampNeg) → (vp_in x 4 ∧ (∀ f_41 : tF, f_41 = (upd (An 0) (x).toNatClampNeg v) → K y31 Fn (va_up An 0 f_41))))) := by
    intro m em q K hk
    obtain ⟨j, hj, rfl⟩ := c
    rw [nI_clamp (by omega)]
    refine ⟨vp_in_nI hj (by omega), fun y hy => ⟨vp_in_nI hj (by omega), fun f hf => hk j f y hj rfl hy hf ?_⟩⟩
    refine ⟨by rw [hy]; exact hr.2.1 j hj, rfl, Kp.up0, h.put (i := 0) (j := j) (k := 5 + j) (Or.inl ⟨rfl, hj, rfl⟩) ?_ hf rfl⟩
    by_cases e3 : nI j = 3
    · rw [if_pos e3] at em; subst em
      have : j = 3 := (nI_eq (a := j) (b := 3) (by omega) (by omega)).mp e3
      subst this; exact q.up
    · rw [if_neg e3] at em; subst em
      have hj3 : j ≠ 3 := fun w => e3 (by rw [w]; rfl)
      unfold bnd; rw [if_neg (by omega), if_neg (by omega), if_pos (by omega)]; exact q.up
  by_cases e3 : x = 3
  · rw [if_pos e3]
    refine cl0 (m := 99) (by omega) (fun q => D 99 (by rw [if_pos e3]) q (fun r Fn' An' => p_X7_set FM A x v (Rn FM A r Fn' An')) (fun j f y hj ex hy hf R => ?_)) (fun q => ?_)
    · unfold p_X7_set p_X7_set_J29
      refine i1 (m := 3) c (by omega) rfl rfl (a1 ⟨fun w => absurd e3 w, fun _ => i1 (m := 99) q (by omega) rfl rfl (a1 ?_)⟩)
      rw [ex, show (5 : Int32) + nI j = nI (5 + j) from nI_add 5 j]
      exact s_X7_becomes (by omega) R
    · unfold p_X7_set p_X7_set_J29
      exact i1 (m := 3) c (by omega) rfl rfl (a1 ⟨fun w => absurd e3 w, fun _ => i0 (m := 99) q (by omega) rfl rfl (a0 h.rn)⟩)
  · rw [if_neg e3]
    refine cl0 (m := 9) (by omega) (fun q => D 9 (by rw [if_neg e3]) q (fun r Fn' An' => p_X7_set FM A x v (Rn FM A r Fn' An')) (fun j f y hj ex hy hf R => ?_)) (fun q => ?_)
    · unfold p_X7_set p_X7_set_J29
      refine i1 (m := 3) c (by omega) rfl rfl (a1 ⟨fun _ => i1 (m := 9) q (by omega) rfl rfl (a1 ?_), fun w => absurd w e3⟩)
      rw [ex, show (5 : Int32) + nI j = nI (5 + j) from nI_add 5 j]
      exact s_X7_becomes (by omega) R
    · unfold p_X7_set p_X7_set_J29
      exact i1 (m := 3) c (by omega) rfl rfl (a1 ⟨fun _ => i0 (m := 9) q (by omega) rfl rfl (a0 h.rn), fun w => absurd w e3⟩)
theorem j_lawOf {F Fn : tF} {An : tA} {FM : tF} {A : tA} (h : HZ Fn An A) (x : Int32) : p_X6_lawOf F Fn An x (fun r => p_X7_lawOf FM A x (fun r' => r = r')) := by
  obtain ⟨hr, ok, _⟩ := id h
  unfold p_X6_lawOf p_X7_lawOf
  by_cases c : inR x 4
  · obtain ⟨j, hj, rfl⟩ := id c
    have e5 : (5 : Int32) + nI j = nI (5 + j) := nI_add 5 j
    refine w1 (m := 4) c (by omega) (a1 ⟨vp_in_nI hj (by omega), i1 (m := 3) c (by omega) rfl rfl (a1 ?_)⟩)
    rw [e5, nI_clamp (by omega), nI_clamp (by omega)]
    exact ⟨vp_in_nI (by omega) (by omega), hr.2.1 j hj⟩
  · exact w0 (m := 4) c (by omega) (a0 (i0 (m := 3) c (by omega) rfl rfl (a0 rfl)))
theorem j_sheep {F Fn : tF} {An : tA} {FM : tF} {A : tA} (h : HZ Fn An A) (x1 x2 x3 x4 : Int32) : p_X6_sheep F Fn An x1 x2 x3 x4 (fun r Fn' An' => p_X7_sheep FM A x1 x2 x3 x4 (Rn FM A r Fn' An')) := by
  obtain ⟨hr, ok, z0, z2, z3⟩ := id h
  have hn := ok.n
  unfold p_X6_sheep p_X7_sheep
  by_cases c1 : inR x1 6
  rotate_left
  · exact w0 (m := 6) c1 (by omega) (a0 (i0 (m := 5) c1 (by omega) rfl rfl (a0 h.rn)))
  refine w1 (m := 6) c1 (by omega) (a1 ?_)
  by_cases c2 : inR x2 10
  rotate_left
  · exact g0 c2 (a0 (i1 (m := 5) c1 (by omega) rfl rfl (a1 (i0 (m := 9) c2 (by omega) rfl rfl (a0 h.rn)))))
  refine g1 c2 (a1 ?_)
  by_cases c3 : inR x3 10
  rotate_left
  · exact g0 c3 (a0 (i1 (m := 5) c1 (by omega) rfl rfl (a1 (i1 (m := 9) c2 (by omega) rfl rfl (a1 (i0 (m := 9) c3 (by omega) rfl rfl (a0 h.rn)))))))
  refine g1 c3 (a1 ?_)
  by_cases c4 : inR x4 6
  rotate_left
  · exact w0 (m := 6) c4 (by omega) (b0 (i1 (m := 5) c1 (by omega) rfl rfl (a1 (i1 (m := 9) c2 (by omega) rfl rfl (a1 (i1 (m := 9) c3 (by omega) rfl rfl (a1 (p0 c4 (b0 h.rn)))))))))
  refine w1 (m := 6) c4 (by omega) (b1 ?_)
  rw [hr.1.1, hn.1]
  refine ⟨fun c => ?_, fun c => ?_⟩
  · have hlt : nS (A 0) < 8 := (nI_ltI (a := nS (A 0)) (b := 8) (by omega) (by omega)).mp c
    refine s_X2_add hr ok hlt (fun F' A' h' => ?_)
    refine i1 (m := 5) c1 (by omega) rfl rfl (a1 (i1 (m := 9) c2 (by omega) rfl rfl (a1 (i1 (m := 9) c3 (by omega) rfl rfl (a1 (p1 c4 (b1 ⟨fun _ => ?_, fun q => ?_⟩)))))))
    · intro y hy
      rw [ix_o0] at hy
      subst hy
      have t1 : nI (21 + 4 * nS (A 0)) + 1 = nI (22 + 4 * nS (A 0)) := by rw [show 22 + 4 * nS (A 0) = 21 + 4 * nS (A 0) + 1 by omega]; exact nI_add _ 1
      have t2 : nI (21 + 4 * nS (A 0)) + 2 = nI (23 + 4 * nS (A 0)) := by rw [show 23 + 4 * nS (A 0) = 21 + 4 * nS (A 0) + 2 by omega]; exact nI_add _ 2
      have t3 : nI (21 + 4 * nS (A 0)) + 3 = nI (24 + 4 * nS (A 0)) := by rw [show 24 + 4 * nS (A 0) = 21 + 4 * nS (A 0) + 3 by omega]; exact nI_add _ 3
      rw [t1, t2, t3, nI_clamp (by omega), nI_clamp (by omega), nI_clamp (by omega), nI_clamp (by omega)]
      refine ⟨vp_in_nI (by omega) (by omega), fun f1 e1 => ⟨vp_in_nI (by omega) (by omega), fun f2 e2 => ⟨vp_in_nI (by omega) (by omega), fun f3 e3 => ⟨vp_in_nI (by omega) (by omega), fun f4 e4 => fun f5 e5 => ?_⟩⟩⟩⟩
      have e0 : f4 0 = nI (nS (A 0)) := by rw [e4, pk_un (by omega), e3, pk_un (by omega), e2, pk_un (by omega), e1, pk_un (by omega)]; exact hn.1
      have ef : f5 = addS (A 0) x1 x2 x3 x4 := by rw [e5, e0, nI_1, e4, e3, e2, e1]; rfl
      rw [ef]
      refine ⟨?_, rfl, Kp.up0, ?_, ?_, ?_, ?_, ?_⟩
      · rw [h'.1.1]
      · rw [va_up_self]; exact h'
      · rw [va_up_self]; exact ok.add hlt c1.up c2.up c3.up c4.up
      · rw [va_up_self, ← ef, e5, e4, e3, e2, e1]; exact ((((z0.up (by omega)).up (by omega)).up (by omega)).up (by omega)).up (by omega)
      · rw [va_up_ne _ _ (by omega)]; exact z2
      · rw [va_up_ne _ _ (by omega)]; exact z3
    · exact absurd ((nI_eq (a := nS (A 0)) (b := 8) (by omega) (by omega)).mp q) (by omega)
  · have h8 : nS (A 0) = 8 := by
      have : ¬ nS (A 0) < 8 := fun q => c (nI_lt (a := nS (A 0)) (b := 8) q (by omega))
      omega
    refine i1 (m := 5) c1 (by omega) rfl rfl (a1 (i1 (m := 9) c2 (by omega) rfl rfl (a1 (i1 (m := 9) c3 (by omega) rfl rfl (a1 (p1 c4 (b1 ⟨fun q => ?_, fun _ => h.rn⟩)))))))
    exact absurd (by rw [h8]; rfl) q
