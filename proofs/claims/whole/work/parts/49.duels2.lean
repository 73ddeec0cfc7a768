/-! all orders by their numbers; rings -/
def loR (l r : Int32) : Nat → Int32 → Int32 → Int32
  | 0, _, _ => 0
  | n + 1, a, p => if 6 ≤ p then 0 else if (l >>> (p &&& 31)) &&& (1 : Int32) = 1 then (if a = r then p else loR l r n (a + 1) (p + 1)) else loR l r n a (p + 1)
theorem s_lo {l r : Int32} {K : Int32 → Prop} : ∀ m i a, i + m = 6 → K (loR l r (m + 1) a (nI i)) → p_X1_leftOverAt_L4 l r K (m + 1) a (nI i)
  | 0, i, a, e, k => by
    have e : i = 6 := by omega
    subst e
    rw [p_X1_leftOverAt_L4]
    rw [loR, if_pos (by decide)] at k
    exact ⟨fun _ => k, fun q => absurd (by decide) q⟩
  | m + 1, i, a, e, k => by
    have h6 : ¬ (6 : Int32) ≤ nI i := nI_ge (a := i) (b := 6) (by omega) (by omega)
    rw [p_X1_leftOverAt_L4]
    rw [loR, if_neg h6] at k
    unfold p_X1_leftOverAt_J29
    refine ⟨fun q => absurd q h6, fun _ => ⟨fun q y hy => ?_, fun q => ⟨fun w y hy z hz => ?_, fun w => ?_⟩⟩⟩
    · rw [if_neg q] at k
      rw [hy, nI_1]; rw [nI_1] at k
      exact s_lo m (i + 1) a (by omega) k
    · rw [if_pos q, if_neg w] at k
      rw [hy, hz, nI_1]; rw [nI_1] at k
      exact s_lo m (i + 1) _ (by omega) k
    · rw [if_pos q, if_pos w] at k; exact k
theorem s_X1_leftOverAt {l r : Int32} {K : Int32 → Prop} (k : K (loR l r 7 0 0)) : p_X1_leftOverAt l r K := ⟨7, s_lo 6 0 0 (by omega) k⟩
/-- left, rest, block, number after k steps -/
def soU (i : Nat) : Nat → Int32 × Int32 × Int32 × Int32
  | 0 => (63, nI i, 720, 0)
  | k + 1 =>
    let s := soU i k
    let b := s.2.2.1 / (6 - nI k)
    let q := if b = 0 then 0 else s.2.1 / b
    let f := loR s.1 q 7 0 0
    (s.1 &&& (((1 : Int32) <<< (f &&& 31)) ^^^ (-1 : Int32)), s.2.1 - q * b, b, s.2.2.2 * 10 + f)
def soF (i k : Nat) : Int32 :=
  let s := soU i k
  let b := s.2.2.1 / (6 - nI k)
  loR s.1 (if b = 0 then 0 else s.2.1 / b) 7 0 0
theorem six_sub : ∀ k, k < 6 → ¬ (6 : Int32) - nI k = 0 := by decide +kernel
theorem s_X1_setOrder {F : tF} {A : tA} {i : Nat} {K : Int32 → tF → tA → Prop} (hk : ∀ A', (∀ j, j ≠ 1 → A' j = A j) → (∀ k, k < 6 → A' 1 k = soF i k) → K (soU i 6).2.2.2 F A') : p_X1_setOrder F A (nI i) K := by
  unfold p_X1_setOrder
  refine lq1 (fun n (a : tF × tA × Int32 × Int32 × Int32 × Int32 × Int32) => p_X1_setOrder_L16 K n a.1 a.2.1 a.2.2.1 a.2.2.2.1 a.2.2.2.2.1 a.2.2.2.2.2.1 a.2.2.2.2.2.2) (fun k a => a.1 = F ∧ (∀ j, j ≠ 1 → a.2.1 j = A j) ∧ (∀ j, j < k → a.2.1 1 j = soF i j) ∧ a.2.2.1 = (soU i k).1 ∧ a.2.2.2.1 = (soU i k).2.1 ∧ a.2.2.2.2.1 = (soU i k).2.2.1 ∧ a.2.2.2.2.2.1 = (soU i k).2.2.2 ∧ a.2.2.2.2.2.2 = nI k) 6 0 (by omega) ?_ ?_ (a1 := (F, A, 63, nI i, 720, 0, 0)) ⟨rfl, fun _ _ => rfl, fun j hj => absurd hj (by omega), rfl, rfl, rfl, rfl, rfl⟩
  · rintro n ⟨F', A', l, r, b, v, x⟩ ⟨e0, t, d, _, _, _, ev, ex⟩
    simp only at e0 t d ev ex ⊢
    rw [p_X1_setOrder_L16, ex, ev, e0]
    exact ⟨fun _ => hk A' t d, fun c => absurd (nI_le (a := 6) (b := 6) (by omega) (by omega)) c⟩
  · rintro n k ⟨F', A', l, r, b, v, x⟩ h1 h6 ⟨e0, t, d, el, er, eb, ev, ex⟩ ih
    simp only at e0 t d el er eb ev ex ⊢
    rw [p_X1_setOrder_L16, ex, ev, e0, el, er, eb]
    refine ⟨fun c => absurd c (nI_ge (a := k) (b := 6) h6 (by omega)), fun _ => ⟨six_sub k h6, fun y hy => ?_⟩⟩
    have J : ∀ q, q = (if y = 0 then 0 else (soU i k).2.1 / y) → p_X1_setOrder_J46 F A' (p_X1_setOrder_L16 K n) K (soU i k).1 (soU i k).2.1 y (soU i k).2.2.2 (nI k) q := by
      intro q hq
      unfold p_X1_setOrder_J46
      refine fun y1 h1 => s_X1_leftOverAt (fun y2 h2 => ?_)
      have ef : loR (soU i k).1 q 7 0 0 = soF i k := by rw [hq, hy]; rfl
      rw [nI_clamp (by omega)]
      refine ⟨vp_in_nI h6 (by omega), fun f hf y3 h3 y4 h4 => ih (F, va_up A' 1 f, y2, y1, y, y3, y4) ⟨rfl, fun j hj => ?_, fun j hj => ?_, ?_, ?_, ?_, ?_, ?_⟩⟩
      · show va_up A' 1 f j = _
        rw [va_up_ne _ _ hj]; exact t j hj
      · show va_up A' 1 f 1 j = _
        rw [va_up_self, hf, ef]
        by_cases w : j = k
        · rw [w, pk_us]
        · rw [pk_un w]; exact d j (by omega)
      · show y2 = _; rw [h2, hq, hy]; rfl
      · show y1 = _; rw [h1, hq, hy]; rfl
      · show y = _; rw [hy]; rfl
      · show y3 = _; rw [h3, hq, hy]; rfl
      · show y4 = _; rw [h4]; exact nI_1 _
    exact ⟨fun q => ⟨q, J _ (by rw [if_neg q])⟩, fun q => J _ (by rw [if_pos q])⟩
def fgP (l : Int32) : Nat → Int32 → Int32 → Int32
  | 0, _, p => p
  | n + 1, k, p => if 0 < k then fgP l n (k - ((l >>> (p &&& 31)) &&& (1 : Int32))) (p + 1) else if (l >>> (p &&& 31)) &&& (1 : Int32) = 0 then fgP l n (k - ((l >>> (p &&& 31)) &&& (1 : Int32))) (p + 1) else p
def fgT (l : Int32) : Nat → Int32 → Int32 → Bool
  | 0, _, _ => false
  | n + 1, k, p => if 0 < k then fgT l n (k - ((l >>> (p &&& 31)) &&& (1 : Int32))) (p + 1) else if (l >>> (p &&& 31)) &&& (1 : Int32) = 0 then fgT l n (k - ((l >>> (p &&& 31)) &&& (1 : Int32))) (p + 1) else true
/-- left, of, free, order after k steps -/
def fiU (i : Nat) : Nat → Int32 × Int32 × Int32 × Int32
  | 0 => (nI i, 720, 63, 0)
  | k + 1 =>
    let s := fiU i k
    let b := s.2.1 / nI (6 - k)
    let p := fgP s.2.2.1 13 (s.1 / b) 0
    (s.1 - s.1 / b * b, b, s.2.2.1 &&& (((1 : Int32) <<< (p &&& 31)) ^^^ (-1 : Int32)), 10 * s.2.2.2 + p)
def fiT (i k : Nat) : Bool :=
  let s := fiU i k
  let b := s.2.1 / nI (6 - k)
  decide (¬ b = 0) && fgT s.2.2.1 13 (s.1 / b) 0
theorem s_fg {x1 x2 l x4 x5 : Int32} {B : Int32 → Int32 → Int32 → Int32 → Int32 → Prop} {K : Int32 → Prop} : ∀ n k p, fgT l n k p = true → B x1 x2 (l &&& (((1 : Int32) <<< (fgP l n k p &&& 31)) ^^^ (-1 : Int32))) (10 * x4 + fgP l n k p) (x5 + (-1)) → p_X7_figures_L38 x1 x2 l x4 x5 B K n k p
  | 0, _, _, h, _ => Bool.noConfusion (show false = true from h)
  | n + 1, k, p, h, b => by
    rw [p_X7_figures_L38]
    unfold p_X7_figures_J52
    refine ⟨fun c y hy z hz => ?_, fun c => ⟨fun d y hy z hz w hw => ?_, fun d y hy z hz => ?_⟩⟩
    · rw [fgT, if_pos c] at h
      rw [fgP, if_pos c] at b
      rw [hy, hz]; exact s_fg n _ _ h b
    · rw [fgP, if_neg c, if_neg d] at b
      rw [hy, hz, hw]; exact b
    · rw [fgT, if_neg c, if_pos d] at h
      rw [fgP, if_neg c, if_pos d] at b
      rw [hy, hz]; exact s_fg n _ _ h b
theorem i_down6 : ∀ k, k < 6 → nI (6 - k) + (-1 : Int32) = nI (6 - (k + 1)) := by decide +kernel
theorem s_X7_figures {i : Nat} (hT : ∀ k, k < 6 → fiT i k = true) {K : Int32 → Prop} (hk : K (fiU i 6).2.2.2) : p_X7_figures (nI i) K := by
  unfold p_X7_figures
  refine lq5 (p_X7_figures_L16 K) (fun k a b c d x => a = (fiU i k).1 ∧ b = (fiU i k).2.1 ∧ c = (fiU i k).2.2.1 ∧ d = (fiU i k).2.2.2 ∧ x = nI (6 - k)) 6 0 (by omega) ?_ ?_ ⟨rfl, rfl, rfl, rfl, rfl⟩
  · rintro n a b c d x ⟨_, _, _, ed, ex⟩
    rw [p_X7_figures_L16, ed, ex]
    exact ⟨fun _ => hk, fun q => absurd (by decide) q⟩
  · rintro n k a b c d x h1 h6 ⟨ea, eb, ec, ed, ex⟩ ih
    rw [p_X7_figures_L16, ea, eb, ec, ed, ex]
    have ht := hT k h6
    unfold fiT at ht
    rw [Bool.and_eq_true, decide_eq_true_iff] at ht
    refine ⟨fun q => absurd q (nI_nle (by omega) (by omega)), fun _ => ⟨nI_ne0 (by omega) (by omega), fun y hy => ?_⟩⟩
    rw [← hy] at ht
    refine ⟨ht.1, fun z hz => ⟨ht.1, fun w hw => ⟨13, ?_⟩⟩⟩
    rw [hz]
    refine s_fg 13 _ _ ht.2 (ih _ _ _ _ _ ⟨?_, ?_, ?_, ?_, i_down6 k h6⟩)
    · rw [hw, hy]; rfl
    · rw [hy]; rfl
    · rw [hy]; rfl
    · rw [hy]; rfl
/-- both count alike: the number of the i-th order, its figures -/
def nuN (i : Nat) : Nat := (soU i 6).2.2.2.toNatClampNeg
def chkO (i : Nat) : Bool :=
  decide ((soU i 6).2.2.2 = nI (nuN i)) && decide ((fiU i 6).2.2.2 = nI (nuN i)) && decide (nuN i < 1000000) && (List.range 6).all (fun k => fiT i k && decide (soF i k = nI (dg (nuN i) k)) && decide (dg (nuN i) k < 6) && (List.range k).all (fun j => decide (dg (nuN i) k ≠ dg (nuN i) j)))
theorem chk_all : (List.range 720).all chkO = true := by decide +kernel
theorem chk_i {i : Nat} (h : i < 720) : (soU i 6).2.2.2 = nI (nuN i) ∧ (fiU i 6).2.2.2 = nI (nuN i) ∧ nuN i < 1000000 ∧ okD (nuN i) ∧ ∀ k, k < 6 → fiT i k = true ∧ soF i k = nI (dg (nuN i) k) := by
  have c := List.all_eq_true.mp chk_all i (List.mem_range.mpr h)
  unfold chkO at c
  rw [Bool.and_eq_true, Bool.and_eq_true, Bool.and_eq_true, decide_eq_true_iff, decide_eq_true_iff, decide_eq_true_iff] at c
  obtain ⟨⟨⟨c1, c2⟩, c3⟩, c4⟩ := c
  have c5 : ∀ k, k < 6 → fiT i k = true ∧ soF i k = nI (dg (nuN i) k) ∧ dg (nuN i) k < 6 ∧ ∀ j, j < k → dg (nuN i) k ≠ dg (nuN i) j := by
    intro k hk
    have d := List.all_eq_true.mp c4 k (List.mem_range.mpr hk)
    rw [Bool.and_eq_true, Bool.and_eq_true, Bool.and_eq_true, decide_eq_true_iff, decide_eq_true_iff] at d
    obtain ⟨⟨⟨d1, d2⟩, d3⟩, d4⟩ := d
    exact ⟨d1, d2, d3, fun j hj => of_decide_eq_true (List.all_eq_true.mp d4 j (List.mem_range.mpr hj))⟩
  exact ⟨c1, c2, c3, ⟨fun k hk => (c5 k hk).2.2.1, fun k hk j hj => (c5 k hk).2.2.2 j hj⟩, fun k hk => ⟨(c5 k hk).1, (c5 k hk).2.1⟩⟩
def agW (s : tF) (p i : Nat) : Prop := lsU (btS s) (dg (nuN i)) 5 = p
def agM (s : tF) (p : Nat) [∀ i, Decidable (agW s p i)] : Nat → Nat
  | 0 => 0
  | i + 1 => if agW s p i then agM s p i + 1 else agM s p i
def agF (s : tF) (p : Nat) [∀ i, Decidable (agW s p i)] : Nat → Int32
  | 0 => -3
  | i + 1 => if agW s p i ∧ agM s p i = 0 then nI (nuN i) else agF s p i
theorem agM_le {s : tF} {p : Nat} [∀ i, Decidable (agW s p i)] : ∀ i, agM s p i ≤ i ∧ (agM s p i = 0 → agF s p i = -3)
  | 0 => ⟨by rw [agM]; omega, fun _ => rfl⟩
  | i + 1 => by
    obtain ⟨a, b⟩ := agM_le (s := s) (p := p) i
    rw [agM, agF]
    by_cases c : agW s p i
    · rw [if_pos c]; exact ⟨by omega, fun q => absurd q (by omega)⟩
    · rw [if_neg c, if_neg (fun q => c q.1)]; exact ⟨by omega, b⟩
theorem agM_0 {m : Nat} (h : m < 2 ^ 31) : nI m = 0 ↔ m = 0 := by
  show nI m = nI 0 ↔ _
  exact nI_eq h (by omega)
theorem s_X1_tryOrdersFor {F : tF} {A : tA} {s : tF} (b : ∀ k, k < 36 → A 0 k = btS s k) {p : Nat} (hp : p < 6) [∀ i, Decidable (agW s p i)] {K : tF → tA → Prop} (hk : ∀ F' A', F' 2 = nI (agM s p 720) → (agM s p 720 ≠ 0 → F' 3 = agF s p 720) → K F' A') : p_X1_tryOrdersFor F A (nI p) K := by
  unfold p_X1_tryOrdersFor
  refine lq3 (p_X1_tryOrdersFor_L7 (nI p) K) (fun i F' A' x => x = nI i ∧ (∀ k, k < 36 → A' 0 k = btS s k) ∧ F' 2 = nI (agM s p i) ∧ (agM s p i ≠ 0 → F' 3 = agF s p i)) 720 0 (by omega) ?_ ?_ ⟨rfl, b, rfl, fun q => absurd rfl q⟩
  · rintro n F' A' x ⟨ex, b1, e1, e2⟩
    rw [p_X1_tryOrdersFor_L7, ex]
    exact ⟨fun _ => hk F' A' e1 e2, fun c => absurd (nI_le (a := 720) (b := 720) (by omega) (by omega)) c⟩
  · rintro n i F' A' x h1 h6 ⟨rfl, b1, e1, e2⟩ ih
    obtain ⟨c1, c2, c3, c4, c5⟩ := chk_i h6
    have hm := agM_le (s := s) (p := p) i
    rw [p_X1_tryOrdersFor_L7]
    refine ⟨fun c => absurd c (nI_ge (a := i) (b := 720) h6 (by omega)), fun _ => s_X1_setOrder (fun A2 t2 d2 => ?_)⟩
    have b2 : ∀ k, k < 36 → A2 0 k = btS s k := fun k hk => by rw [t2 0 (by omega)]; exact b1 k hk
    refine s_X1_lastStanding b2 (d := dg (nuN i)) (fun k hk => ⟨c4.1 k hk, by rw [d2 k hk]; exact (c5 k hk).2⟩) ?_
    have hl := lsU_lt (b := btS s) 5 (fun j hj => c4.1 j (by omega))
    rw [e1, c1]
    refine ⟨fun q => ?_, fun q => ⟨fun w => ?_, fun w => ?_⟩⟩
    · have nw : ¬ agW s p i := fun w => q (by rw [show lsU (btS s) (dg (nuN i)) 5 = p from w])
      unfold p_X1_tryOrdersFor_J50
      exact fun y hy => ih _ _ _ ⟨by rw [hy]; exact nI_1 _, b2, by rw [agM, if_neg nw]; exact e1, fun h => by rw [agF, if_neg (fun q => nw q.1)]; rw [agM, if_neg nw] at h; exact e2 h⟩
    · have aw : agW s p i := (nI_eq (by omega) (by omega)).mp q
      have m0 : agM s p i ≠ 0 := fun e => w (by rw [e]; rfl)
      unfold p_X1_tryOrdersFor_J40 p_X1_tryOrdersFor_J50
      refine fun z hz y hy => ih _ _ _ ⟨by rw [hy]; exact nI_1 _, b2, ?_, fun h => ?_⟩
      · rw [pk_us, hz, e1, agM, if_pos aw]; exact nI_1 _
      · rw [pk_un (by omega), agF, if_neg (fun q => m0 q.2)]; exact e2 m0
    · have aw : agW s p i := (nI_eq (by omega) (by omega)).mp q
      have m0 : agM s p i = 0 := (agM_0 (by omega)).mp w
      unfold p_X1_tryOrdersFor_J40 p_X1_tryOrdersFor_J50
      refine fun z hz y hy => ih _ _ _ ⟨by rw [hy]; exact nI_1 _, b2, ?_, fun h => ?_⟩
      · rw [pk_us, hz, pk_un (by omega), e1, agM, if_pos aw]; exact nI_1 _
      · rw [pk_un (by omega), pk_us, agF, if_pos ⟨aw, m0⟩]
theorem s_X7_agenda {F : tF} {A : tA} (ok : OkS (A 0)) {p : Nat} (hp : p < 6) {w : Int32} (hw : inR w 2) [∀ i, Decidable (agW (A 0) p i)] {K : Int32 → tF → tA → Prop} (hk : ∀ A', (∀ j, j ≠ 13 → A' j = A j) → K (if w = 0 then nI (agM (A 0) p 720) else agF (A 0) p 720) F A') : p_X7_agenda F A (nI p) w K := by
  unfold p_X7_agenda
  refine p1 ⟨p, hp, rfl⟩ (a1 (i1 (m := 1) hw (by omega) rfl rfl (b1 (s_X7_meets ok (fun A1 t1 b1 => ?_)))))
  refine lq3 (p_X7_agenda_L32 F A1 (nI p) w K) (fun i m f x => x = nI i ∧ m = nI (agM (A 0) p i) ∧ f = agF (A 0) p i) 720 0 (by omega) ?_ ?_ ⟨rfl, rfl, rfl⟩
  · rintro n m f x ⟨ex, em, ef⟩
    rw [p_X7_agenda_L32, ex, em, ef]
    refine ⟨fun _ => ⟨fun q => ?_, fun q => ?_⟩, fun c => absurd (nI_le (a := 720) (b := 720) (by omega) (by omega)) c⟩
    · have := hk A1 t1; rw [if_neg q] at this; exact this
    · have := hk A1 t1; rw [if_pos q] at this; exact this
  · rintro n i m f x h1 h6 ⟨rfl, rfl, rfl⟩ ih
    obtain ⟨c1, c2, c3, c4, c5⟩ := chk_i h6
    have hm := agM_le (s := A 0) (p := p) i
    rw [p_X7_agenda_L32]
    refine ⟨fun c => absurd c (nI_ge (a := i) (b := 720) h6 (by omega)), fun _ => s_X7_figures (fun k hk => (c5 k hk).1) ?_⟩
    rw [c2]
    refine s_X7_winsBy b1 c3 (fun _ => ?_) (fun q => absurd c4 q)
    have hl := lsU_lt (b := btS (A 0)) 5 (fun j hj => c4.1 j (by omega))
    refine ⟨fun q => ?_, fun q => ⟨fun w => ?_, fun w => ?_⟩⟩
    · have nw : ¬ agW (A 0) p i := fun w => q (by rw [show lsU (btS (A 0)) (dg (nuN i)) 5 = p from w])
      unfold p_X7_agenda_J73
      exact fun y hy => ih _ _ _ ⟨by rw [hy]; exact nI_1 _, by rw [agM, if_neg nw], by rw [agF, if_neg (fun q => nw q.1)]⟩
    · have aw : agW (A 0) p i := (nI_eq (by omega) (by omega)).mp q
      have m0 : agM (A 0) p i ≠ 0 := fun e => w (by rw [e]; rfl)
      unfold p_X7_agenda_J68 p_X7_agenda_J73
      exact fun z hz y hy => ih _ _ _ ⟨by rw [hy]; exact nI_1 _, by rw [hz, agM, if_pos aw]; exact nI_1 _, by rw [agF, if_neg (fun q => m0 q.2)]⟩
    · have aw : agW (A 0) p i := (nI_eq (by omega) (by omega)).mp q
      have m0 : agM (A 0) p i = 0 := (agM_0 (by omega)).mp w
      unfold p_X7_agenda_J68 p_X7_agenda_J73
      exact fun z hz y hy => ih _ _ _ ⟨by rw [hy]; exact nI_1 _, by rw [hz, agM, if_pos aw]; exact nI_1 _, by rw [agF, if_pos ⟨aw, m0⟩]⟩
theorem j_agenda {F Fn Fd : tF} {An Ad : tA} {FM : tF} {A : tA} (h : HZ Fn An A) (x y : Int32) : p_X6_agenda F Fd Ad Fn An x y (fun r _ _ => p_X7_agenda FM A x y (Rn FM A r Fn An)) := by
  obtain ⟨hr, ok, _⟩ := id h
  unfold p_X6_agenda
  by_cases c : inR x 6
  rotate_left
  · exact w0 (m := 6) c (by omega) (a0 (by unfold p_X7_agenda; exact p0 c (a0 h.rn)))
  refine w1 (m := 6) c (by omega) (a1 ?_)
  by_cases d : inR y 2
  rotate_left
  · exact w0 (m := 2) d (by omega) (b0 (by unfold p_X7_agenda; exact p1 c (a1 (i0 (m := 1) d (by omega) rfl rfl (b0 h.rn)))))
  refine w1 (m := 2) d (by omega) (b1 ?_)
  obtain ⟨p, hp, rfl⟩ := c
  have da : ∀ i, Decidable (agW (A 0) p i) := fun i => by unfold agW; exact inferInstance
  have hm := agM_le (s := A 0) (p := p) 720
  have X7 : p_X7_agenda FM A (nI p) y (Rn FM A (if y = 0 then nI (agM (A 0) p 720) else agF (A 0) p 720) Fn An) := s_X7_agenda ok hp d (fun A' t => ⟨rfl, rfl, Kp.of13 t, h.t13 t⟩)
  refine s_X1_hold hr ok (fun A1 t1 b1 => s_X1_tryOrdersFor b1 hp (fun F2 A2 e1 e2 => ?_))
  rw [e1]
  generalize agM (A 0) p 720 = M at hm e2 X7 ⊢
  refine ⟨fun q => ⟨fun w => ?_, fun w => ?_⟩, fun q => ?_⟩
  · rw [if_neg q] at X7
    rw [e2 (fun e => w (by rw [e]; rfl))]; exact X7
  · rw [if_neg q, hm.2 ((agM_0 (by omega)).mp w)] at X7; exact X7
  · rw [if_pos q] at X7; exact X7
def rgP (s : tF) (i : Nat) : Prop := ¬ btS s (6 * (i / 36) + i / 6 % 6) = 0 ∧ ¬ btS s (6 * (i / 6 % 6) + i % 6) = 0 ∧ ¬ btS s (6 * (i % 6) + i / 36) = 0
def rgV (i : Nat) : Int32 := ((100 : Int32) * nI (i / 36) + (10 : Int32) * nI (i / 6 % 6)) + nI (i % 6)
def rgU (s : tF) [∀ i, Decidable (rgP s i)] : Nat → Nat → Int32
  | 0, _ => -3
  | r + 1, i => if rgP s i then rgV i else rgU s r (i + 1)
theorem rgU_y {s : tF} [∀ i, Decidable (rgP s i)] {N i : Nat} (h : i < N) (c : rgP s i) : rgU s (N - i) i = rgV i := by
  rw [show N - i = (N - i - 1) + 1 by omega, rgU, if_pos c]
theorem rgU_n {s : tF} [∀ i, Decidable (rgP s i)] {N i : Nat} (h : i < N) (c : ¬ rgP s i) : rgU s (N - i) i = rgU s (N - (i + 1)) (i + 1) := by
  rw [show N - i = (N - (i + 1)) + 1 by omega, rgU, if_neg c]
theorem rg_i : ∀ i, i < 216 → nI i / (36 : Int32) = nI (i / 36) ∧ (nI i / (6 : Int32)) - (nI i / (6 : Int32)) / (6 : Int32) * (6 : Int32) = nI (i / 6 % 6) ∧ nI i - nI i / (6 : Int32) * (6 : Int32) = nI (i % 6) := by decide +kernel
theorem s_X1_leastRing {F : tF} {A : tA} {s : tF} (b : ∀ k, k < 36 → A 0 k = btS s k) [∀ i, Decidable (rgP s i)] {K : Int32 → Prop} (hk : K (rgU s 216 0)) : p_X1_leastRing F A K := by
  unfold p_X1_leastRing
  refine lq1 (p_X1_leastRing_L2 F A K) (fun i x => x = nI i ∧ rgU s (216 - i) i = rgU s 216 0) 216 0 (by omega) ?_ ?_ ⟨rfl, rfl⟩
  · rintro n x ⟨ex, u⟩
    rw [p_X1_leastRing_L2, ex]
    refine ⟨fun _ => ?_, fun c => absurd (nI_le (a := 216) (b := 216) (by omega) (by omega)) c⟩
    rw [← u] at hk; exact hk
  · rintro n i x h1 h6 ⟨rfl, u⟩ ih
    obtain ⟨e1, e2, e3⟩ := rg_i i h6
    rw [p_X1_leastRing_L2]
    refine ⟨fun c => absurd c (nI_ge (a := i) (b := 216) h6 (by omega)), fun _ y1 h1 y2 h2 y3 h3 => ?_⟩
    rw [e1] at h1
    rw [e2] at h2
    rw [e3] at h3
    subst h1 h2 h3
    have N : ¬ rgP s i → p_X1_leastRing_J70 F A (p_X1_leastRing_L2 F A K n) K (nI i) := by
      intro c
      unfold p_X1_leastRing_J70
      exact fun y hy => ih _ ⟨by rw [hy]; exact nI_1 _, by rw [← u]; exact (rgU_n h6 c).symm⟩
    have i1 : i / 36 < 6 := by omega
    have i2 : i / 6 % 6 < 6 := by omega
    have i3 : i % 6 < 6 := by omega
    refine s_X1_isWonBy b i1 i2 ⟨fun q => N (fun c => c.1 q), fun q1 => s_X1_isWonBy b i2 i3 ⟨fun q => N (fun c => c.2.1 q), fun q2 => s_X1_isWonBy b i3 i1 ⟨fun q => N (fun c => c.2.2 q), fun q3 => ?_⟩⟩⟩
    rw [← u, rgU_y h6 ⟨q1, q2, q3⟩] at hk
    rw [Int32.mul_comm (nI (i / 36)), Int32.mul_comm (nI (i / 6 % 6))]; exact hk
theorem s_X7_ring {F : tF} {A : tA} (ok : OkS (A 0)) [∀ i, Decidable (rgP (A 0) i)] {K : Int32 → tF → tA → Prop} (hk : ∀ A', (∀ j, j ≠ 13 → A' j = A j) → K (rgU (A 0) 216 0) F A') : p_X7_ring F A K := by
  unfold p_X7_ring
  refine s_X7_meets ok (fun A1 t1 b1 => ?_)
  have hk := hk A1 t1
  refine lq1 (p_X7_ring_L6 F A1 K) (fun i x => x = nI i ∧ rgU (A 0) (216 - i) i = rgU (A 0) 216 0) 216 0 (by omega) ?_ ?_ ⟨rfl, rfl⟩
  · rintro n x ⟨ex, u⟩
    rw [p_X7_ring_L6, ex]
    refine ⟨fun _ => ?_, fun c => absurd (nI_le (a := 216) (b := 216) (by omega) (by omega)) c⟩
    rw [← u] at hk; exact hk
  · rintro n i x h1 h6 ⟨rfl, u⟩ ih
    obtain ⟨e1, e2, e3⟩ := rg_i i h6
    rw [p_X7_ring_L6]
    refine ⟨fun c => absurd c (nI_ge (a := i) (b := 216) h6 (by omega)), fun _ y1 h1 y2 h2 y3 h3 => ?_⟩
    rw [e1] at h1
    rw [e2] at h2
    rw [e3] at h3
    subst h1 h2 h3
    have N : ¬ rgP (A 0) i → p_X7_ring_J89 F A1 (p_X7_ring_L6 F A1 K n) K (nI i) := by
      intro c
      unfold p_X7_ring_J89
      exact fun y hy => ih _ ⟨by rw [hy]; exact nI_1 _, by rw [← u]; exact (rgU_n h6 c).symm⟩
    have i1 : i / 36 < 6 := by omega
    have i2 : i / 6 % 6 < 6 := by omega
    have i3 : i % 6 < 6 := by omega
    rw [ix6', ix6', ix6', nI_clamp (by omega), nI_clamp (by omega), nI_clamp (by omega), b1 _ (by omega), b1 _ (by omega), b1 _ (by omega)]
    refine ⟨vp_in_nI (by omega) (by omega), fun q => N (fun c => c.1 q), fun q1 => ⟨vp_in_nI (by omega) (by omega), fun q => N (fun c => c.2.1 q), fun q2 => ⟨vp_in_nI (by omega) (by omega), fun q => N (fun c => c.2.2 q), fun q3 => ?_⟩⟩⟩
    rw [← u, rgU_y h6 ⟨q1, q2, q3⟩] at hk
    exact hk
theorem j_ring {F Fn Fd : tF} {An Ad : tA} {FM : tF} {A : tA} (h : HZ Fn An A) : p_X6_ring F Fd Ad Fn An (fun r _ _ => p_X7_ring FM A (Rn FM A r Fn An)) := by
  obtain ⟨hr, ok, _⟩ := id h
  have da : ∀ i, Decidable (rgP (A 0) i) := fun i => by unfold rgP; exact inferInstance
  unfold p_X6_ring
  exact s_X1_hold hr ok (fun A1 t1 b1 => s_X1_leastRing b1 (s_X7_ring ok (fun A' t => ⟨rfl, rfl, Kp.of13 t, h.t13 t⟩)))
