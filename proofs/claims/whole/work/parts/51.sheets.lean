/-! sheets and shelves: rows (their object, their items' array, how many, sort, items) -/
abbrev RowE : Type := Nat × Nat × Nat × Int32 × tF
def rO (e : RowE) : Nat := e.1
def rA (e : RowE) : Nat := e.2.1
def rN (e : RowE) : Nat := e.2.2.1
def rS' (e : RowE) : Int32 := e.2.2.2.1
def rI (e : RowE) : tF := e.2.2.2.2
def SN (gsh : tG) (A : tA) (t : Nat) : Prop := gsh t = none ∧ A 16 t = -1
def SR (gsh : tG) (A : tA) (t o n : Nat) (st : Int32) (it : tF) : Prop := gsh t = some o ∧ n ≤ 40 ∧ inR st 4 ∧ A 16 t = st ∧ A 17 t = nI n ∧ ∀ j, j < n → A 18 (40 * t + j) = it j
def IvS (gsh : tG) (RL : List RowE) (A : tA) : Prop := ∃ rs : Nat → Option Nat, (∀ i, i < 4 → ∀ j, j < 4 → ∀ k, rs i = some k → rs j = some k → i = j) ∧ ∀ i, i < 4 → ((rs i = none ∧ SN gsh A i) ∨ ∃ (k : Nat) (e : RowE), rs i = some k ∧ RL[k]? = some e ∧ SR gsh A i (rO e) (rN e) (rS' e) (rI e))
def IvH (gsv : tG) (fs : tF) (RL : List RowE) (A : tA) : Prop := ∀ i, i < 4 → ((gsv i = none ∧ fs i = -1 ∧ A 19 i = 0) ∨ (∃ o : Nat, o < 8 ∧ gsv i = none ∧ fs i = nI o ∧ A 19 i = 1 ∧ A 20 i = nI o) ∨ ∃ (k : Nat) (e : RowE), RL[k]? = some e ∧ gsv i = some (rO e) ∧ fs i = -1 ∧ A 19 i = 2 ∧ A 20 i = rS' e ∧ inR (rS' e) 4 ∧ A 21 i = nI (rN e) ∧ rN e ≤ 40)
theorem sh1 {x : Int32} (h : inR x 4) {K : Int32 → Prop} (k : K 1) : p_X7_isSheet x K := by
  unfold p_X7_isSheet; exact i1 (m := 3) h (by omega) rfl rfl ⟨bo_1, k⟩
theorem sh0 {x : Int32} (h : ¬ inR x 4) {K : Int32 → Prop} (k : K 0) : p_X7_isSheet x K := by
  unfold p_X7_isSheet; exact i0 (m := 3) h (by omega) rfl rfl ⟨bo_0, k⟩
theorem sv1 {x : Int32} (h : inR x 4) {K : Int32 → Prop} (k : K 1) : p_X7_isShelf x K := by
  unfold p_X7_isShelf; exact i1 (m := 3) h (by omega) rfl rfl ⟨bo_1, k⟩
theorem sv0 {x : Int32} (h : ¬ inR x 4) {K : Int32 → Prop} (k : K 0) : p_X7_isShelf x K := by
  unfold p_X7_isShelf; exact i0 (m := 3) h (by omega) rfl rfl ⟨bo_0, k⟩
theorem SR.pos {gsh : tG} {A : tA} {t o n : Nat} {st : Int32} {it : tF} (h : SR gsh A t o n st it) : 0 ≤ A 16 t := by
  obtain ⟨_, _, ⟨j, hj, e⟩, e16, _⟩ := h
  rw [e16, e]; exact nI_pos' (by omega)
theorem lacks_N {F : tF} {A : tA} {t : Nat} (ht : t < 4) (e : A 16 t = -1) {x : Int32} {K : Int32 → Prop} (k : K (-11)) : p_X7_lacks F A (nI t) x K := by
  unfold p_X7_lacks
  rw [nI_clamp (by omega), e]
  exact ⟨vp_in_nI ht (by omega), fun q => absurd q (by decide), fun _ => k⟩
theorem lacks_R {F : tF} {A : tA} {gsh : tG} {t o n : Nat} (ht : t < 4) {st : Int32} {it : tF} (h : SR gsh A t o n st it) {x : Int32} {K : Int32 → Prop} (h1 : st = x → K 0) (h0 : ¬ st = x → K (-13)) : p_X7_lacks F A (nI t) x K := by
  have hp := h.pos
  unfold p_X7_lacks
  rw [nI_clamp (by omega)]
  refine ⟨vp_in_nI ht (by omega), fun _ => ⟨vp_in_nI ht (by omega), fun q => h1 (by rw [← h.2.2.2.1]; exact q), fun q => h0 (fun w => q (by rw [h.2.2.2.1]; exact w))⟩, fun q => absurd hp q⟩
theorem ix40 (t j : Nat) : (40 : Int32) * nI t + nI j = nI (40 * t + j) := by
  show nI 40 * nI t + nI j = _
  rw [pk_mul, nI_add]
/-! put -/
theorem j_put_N {F : tF} {gsh : tG} {FM : tF} {A : tA} (x i v : Int32) (h : ∀ t, t < 4 → x = nI t → SN gsh A t) : p_X6_put_N F gsh x i v (fun r => p_X7_put FM A x i v (fun r' F' A' => r = r' ∧ F' = FM ∧ A' = A)) := by
  unfold p_X6_put_N
  by_cases c : inR x 4
  rotate_left
  · exact w0 (m := 4) c (by omega) (b0 (by unfold p_X7_put; exact sh0 c (b0 ⟨rfl, rfl, rfl⟩)))
  obtain ⟨t, ht, rfl⟩ := id c
  obtain ⟨hg, e16⟩ := h t ht rfl
  have iv : vp_in (nI t) 4 := vp_in_nI ht (by omega)
  refine w1 (m := 4) c (by omega) (b1 ?_)
  rw [nI_clamp (by omega)]
  refine ⟨iv, hg, ?_⟩
  unfold p_X7_put
  rw [nI_clamp (by omega), e16]
  exact sh1 c (b1 ⟨iv, fun q => absurd q (by decide), fun _ => ⟨rfl, rfl, rfl⟩⟩)
theorem j_put_R {F : tF} {gsh : tG} {FM : tF} {A : tA} {t o n : Nat} (ht : t < 4) {FR : tF} {AR : tA} (h : SR gsh A t o n (FR 0) (AR 1)) (i v : Int32) : p_X6_put_R F gsh o n FR AR (nI t) i v (fun r FR' AR' => p_X7_put FM A (nI t) i v (fun r' F' A' => r = r' ∧ F' = FM ∧ FR' = FR ∧ (∀ k, k ≠ 18 → A' k = A k) ∧ (∀ j, j < n → A' 18 (40 * t + j) = AR' 1 j) ∧ (∀ k, (k < 40 * t ∨ 40 * t + 40 ≤ k) → A' 18 k = A 18 k))) := by
  obtain ⟨hg, hn, hst, e16, e17, hb⟩ := id h
  have iv : vp_in (nI t) 4 := vp_in_nI ht (by omega)
  have c : inR (nI t) 4 := ⟨t, ht, rfl⟩
  unfold p_X6_put_R
  refine w1 (m := 4) c (by omega) (b1 ?_)
  rw [nI_clamp (by omega)]
  refine ⟨iv, hg, ?_⟩
  by_cases d : inR i n
  rotate_left
  · refine w0 (m := n) d (by omega) (b0 ?_)
    unfold p_X7_put
    rw [nI_clamp (by omega), e17]
    exact sh1 c (b1 ⟨iv, fun _ => ⟨iv, s_X7_inN (by omega) (fun q => absurd q d) (fun _ => b0 ⟨rfl, rfl, rfl, fun _ _ => rfl, hb, fun _ _ => rfl⟩)⟩, fun q => absurd h.pos q⟩)
  refine w1 (m := n) d (by omega) (b1 ?_)
  obtain ⟨j, hj, rfl⟩ := id d
  have X7 : ∀ w f, (FR 0 = 0 → w = v.toInt8.toInt32) → (FR 0 = 1 → w = v.toInt16.toInt32) → (¬ FR 0 = 0 → ¬ FR 0 = 1 → w = v) → f = upd (AR 1) j w → p_X7_put FM A (nI t) (nI j) v (fun r' F' A' => 1 = r' ∧ F' = FM ∧ FR = FR ∧ (∀ k, k ≠ 18 → A' k = A k) ∧ (∀ j, j < n → A' 18 (40 * t + j) = va_up AR 1 f 1 j) ∧ (∀ k, (k < 40 * t ∨ 40 * t + 40 ≤ k) → A' 18 k = A 18 k)) := by
    intro w f w1 w2 w3 hf
    have D : ∀ g, g = upd (A 18) (40 * t + j) w → (1 : Int32) = 1 ∧ FM = FM ∧ FR = FR ∧ (∀ k, k ≠ 18 → va_up A 18 g k = A k) ∧ (∀ j, j < n → va_up A 18 g 18 (40 * t + j) = va_up AR 1 f 1 j) ∧ (∀ k, (k < 40 * t ∨ 40 * t + 40 ≤ k) → va_up A 18 g 18 k = A 18 k) := by
      intro g hg
      refine ⟨rfl, rfl, rfl, fun k hk => va_up_ne _ _ hk, fun l hl => ?_, fun k hk => ?_⟩
      · rw [va_up_self, va_up_self, hg, hf]
        by_cases q : l = j
        · rw [q, pk_us, pk_us]
        · rw [pk_un (by omega), pk_un q]; exact hb l hl
      · rw [va_up_self, hg, pk_un (by omega)]
    unfold p_X7_put
    rw [nI_clamp (by omega), e17, ix40, nI_clamp (by omega), e16]
    have i160 : vp_in (nI (40 * t + j)) 160 := vp_in_nI (by omega) (by omega)
    have hp : (0 : Int32) ≤ FR 0 := by rw [← e16]; exact h.pos
    refine sh1 c (b1 ⟨iv, fun _ => ⟨iv, s_X7_inN (by omega) (fun _ => b1 ⟨iv, fun q0 => ⟨iv, fun q1 => ⟨i160, fun g hg => D g ?_⟩, fun q1 => ⟨i160, fun g hg => D g ?_⟩⟩, fun q0 => ⟨i160, fun g hg => D g ?_⟩⟩) (fun q => absurd d q)⟩, fun q => absurd hp q⟩)
    · rw [hg, w3 q0 q1]
    · rw [hg, w2 q1]
    · rw [hg, w1 q0]
  have ivj : vp_in (nI j) n := vp_in_nI hj (by omega)
  unfold p_X5_narrowed
  rw [nI_clamp (by omega)]
  refine ⟨fun q0 => ⟨fun q1 => ⟨ivj, fun f hf => X7 v f (fun q => absurd q q0) (fun q => absurd q q1) (fun _ _ => rfl) hf⟩, fun q1 => ⟨ivj, fun f hf => X7 _ f (fun q => absurd q q0) (fun _ => rfl) (fun _ q => absurd q1 q) hf⟩⟩, fun q0 => ⟨ivj, fun f hf => X7 _ f (fun _ => rfl) (fun q => absurd (q0.symm.trans q) (by decide)) (fun q => absurd q0 q) hf⟩⟩
/-! item -/
theorem j_item_N {F : tF} {gsh : tG} {FM : tF} {A : tA} (x y i : Int32) (h : ∀ t, t < 4 → x = nI t → SN gsh A t) : p_X6_item_N F gsh x y i (fun r => p_X7_item FM A x y i (fun r' => r = r')) := by
  unfold p_X6_item_N
  by_cases c : inR x 4
  rotate_left
  · exact w0 (m := 4) c (by omega) (a0 (by unfold p_X7_item; exact sh0 c (a0 rfl)))
  refine w1 (m := 4) c (by omega) (a1 ?_)
  by_cases d : inR y 4
  rotate_left
  · exact w0 (m := 4) d (by omega) (b0 (by unfold p_X7_item; exact sh1 c (a1 (i0 (m := 3) d (by omega) rfl rfl (b0 rfl)))))
  refine w1 (m := 4) d (by omega) (b1 ?_)
  obtain ⟨t, ht, rfl⟩ := id c
  obtain ⟨hg, e16⟩ := h t ht rfl
  rw [nI_clamp (by omega)]
  refine ⟨vp_in_nI ht (by omega), hg, ?_⟩
  unfold p_X7_item
  exact sh1 c (a1 (i1 (m := 3) d (by omega) rfl rfl (b1 (lacks_N ht e16 ⟨fun q => absurd q (by decide), fun _ => lacks_N ht e16 rfl⟩))))
theorem j_item_R {F : tF} {gsh : tG} {FM : tF} {A : tA} {t o n : Nat} (ht : t < 4) {FR : tF} {AR : tA} (h : SR gsh A t o n (FR 0) (AR 1)) (y i : Int32) : p_X6_item_R F gsh o n FR AR (nI t) y i (fun r => p_X7_item FM A (nI t) y i (fun r' => r = r')) := by
  obtain ⟨hg, hn, hst, e16, e17, hb⟩ := id h
  have iv : vp_in (nI t) 4 := vp_in_nI ht (by omega)
  have c : inR (nI t) 4 := ⟨t, ht, rfl⟩
  unfold p_X6_item_R
  refine w1 (m := 4) c (by omega) (a1 ?_)
  by_cases d : inR y 4
  rotate_left
  · exact w0 (m := 4) d (by omega) (b0 (by unfold p_X7_item; exact sh1 c (a1 (i0 (m := 3) d (by omega) rfl rfl (b0 rfl)))))
  refine w1 (m := 4) d (by omega) (b1 ?_)
  rw [nI_clamp (by omega)]
  refine ⟨iv, hg, fun q => ?_, fun q => ?_⟩
  · by_cases e : inR i n
    rotate_left
    · refine w0 (m := n) e (by omega) (a0 ?_)
      unfold p_X7_item
      rw [nI_clamp (by omega), e17]
      exact sh1 c (a1 (i1 (m := 3) d (by omega) rfl rfl (b1 (lacks_R ht h (fun _ => a0 ⟨iv, s_X7_inN (by omega) (fun w => absurd w e) (fun _ => a0 rfl)⟩) (fun w => absurd q w)))))
    refine w1 (m := n) e (by omega) (a1 ?_)
    obtain ⟨j, hj, rfl⟩ := id e
    rw [nI_clamp (by omega)]
    refine ⟨vp_in_nI hj (by omega), ?_⟩
    unfold p_X7_item
    rw [nI_clamp (by omega), e17, ix40, nI_clamp (by omega)]
    exact sh1 c (a1 (i1 (m := 3) d (by omega) rfl rfl (b1 (lacks_R ht h (fun _ => a0 ⟨iv, s_X7_inN (by omega) (fun _ => a1 ⟨vp_in_nI (by omega) (by omega), (hb j hj).symm⟩) (fun w => absurd e w)⟩) (fun w => absurd q w)))))
  · unfold p_X7_item
    exact sh1 c (a1 (i1 (m := 3) d (by omega) rfl rfl (b1 (lacks_R ht h (fun w => absurd w q) (fun _ => ⟨fun w => absurd w (by decide), fun _ => lacks_R ht h (fun w => absurd w q) (fun _ => rfl)⟩)))))
/-! minds -/
def mnU (s it : tF) (o i : Nat) : Nat → tF
  | 0 => s
  | k + 1 => upd (mnU s it o i k) (23 + 4 * (o + k)) (heldI (it (i + k)))
theorem mnU_n {s it : tF} {o i : Nat} : ∀ k, nS (mnU s it o i k) = nS s
  | 0 => rfl
  | k + 1 => by rw [mnU, nS_put (by omega)]; exact mnU_n k
theorem mnU_ok {s it : tF} (ok : OkS s) {o i : Nat} : ∀ k, OkS (mnU s it o i k)
  | 0 => ok
  | k + 1 => by rw [mnU]; exact (mnU_ok ok k).put (by omega) (fun _ => by rw [bnd_f]; exact heldI_up _)
theorem mnU_z {s it : tF} (z : Z53 s) {o i : Nat} : ∀ k, o + k ≤ 8 → Z53 (mnU s it o i k)
  | 0, _ => z
  | k + 1, h => by rw [mnU]; exact (mnU_z z k (by omega)).up (by omega)
theorem mn_sum {F Fn : tF} {An : tA} {s : tF} (hr : HR Fn An s) : Fn 8 = s 0 := hr.1.1
theorem j_minds_N {F Fn : tF} {An : tA} {gsh : tG} {FM : tF} {A : tA} (hz : HZ Fn An A) (x i u m : Int32) (h : ∀ t, t < 4 → x = nI t → SN gsh A t) : p_X6_minds_N F Fn An gsh x i u m (fun r => p_X7_minds FM A x i u m (Rn FM A r Fn An)) := by
  obtain ⟨hr, ok, _⟩ := id hz
  unfold p_X6_minds_N
  by_cases c : inR x 4
  rotate_left
  · exact w0 (m := 4) c (by omega) (a0 (by unfold p_X7_minds; exact sh0 c (a0 hz.rn)))
  refine w1 (m := 4) c (by omega) (a1 ?_)
  by_cases d : inR u (nS (A 0))
  rotate_left
  · exact f0 hr ok d (a0 (by unfold p_X7_minds; exact sh1 c (a1 (o0 ok d (a0 hz.rn)))))
  refine f1 hr ok d (a1 (cl0' (m := 8) (by omega) (fun e => ?_) (fun e => by unfold p_X7_minds; exact sh1 c (a1 (o1 ok d (a1 (i0 (m := 8) e (by omega) rfl rfl (a0 hz.rn))))))))
  rw [hr.1.1]
  refine ⟨fun q => ?_, fun q => by unfold p_X7_minds; exact sh1 c (a1 (o1 ok d (a1 (i1 (m := 8) e (by omega) rfl rfl (a1 ⟨fun w => absurd w q, fun _ => hz.rn⟩)))))⟩
  obtain ⟨t, ht, rfl⟩ := id c
  obtain ⟨hg, e16⟩ := h t ht rfl
  rw [nI_clamp (by omega)]
  refine ⟨vp_in_nI ht (by omega), hg, ?_⟩
  unfold p_X7_minds
  exact sh1 c (a1 (o1 ok d (a1 (i1 (m := 8) e (by omega) rfl rfl (a1 ⟨fun _ => lacks_N ht e16 ⟨fun w => absurd w (by decide), fun _ => lacks_N ht e16 hz.rn⟩, fun w => absurd q w⟩)))))
theorem j_minds_R {F Fn : tF} {An : tA} {gsh : tG} {FM : tF} {A : tA} (hz : HZ Fn An A) {t o n : Nat} (ht : t < 4) {FR : tF} {AR : tA} (h : SR gsh A t o n (FR 0) (AR 1)) (i u m : Int32) : p_X6_minds_R F Fn An gsh o n FR AR (nI t) i u m (fun r Fn' An' => p_X7_minds FM A (nI t) i u m (Rn FM A r Fn' An')) := by
  obtain ⟨hg, hn, hst, e16, e17, hb⟩ := id h
  obtain ⟨hr, ok, z0, z2, z3⟩ := id hz
  have hn8 := ok.n
  have iv : vp_in (nI t) 4 := vp_in_nI ht (by omega)
  have c : inR (nI t) 4 := ⟨t, ht, rfl⟩
  unfold p_X6_minds_R
  refine w1 (m := 4) c (by omega) (a1 ?_)
  by_cases d : inR u (nS (A 0))
  rotate_left
  · exact f0 hr ok d (a0 (by unfold p_X7_minds; exact sh1 c (a1 (o0 ok d (a0 hz.rn)))))
  refine f1 hr ok d (a1 (cl0' (m := 8) (by omega) (fun e => ?_) (fun e => by unfold p_X7_minds; exact sh1 c (a1 (o1 ok d (a1 (i0 (m := 8) e (by omega) rfl rfl (a0 hz.rn))))))))
  rw [hr.1.1]
  refine ⟨fun q => ?_, fun q => by unfold p_X7_minds; exact sh1 c (a1 (o1 ok d (a1 (i1 (m := 8) e (by omega) rfl rfl (a1 ⟨fun w => absurd w q, fun _ => hz.rn⟩)))))⟩
  obtain ⟨p, hp, rfl⟩ := id d
  obtain ⟨k, hk, rfl⟩ := id e
  have q' := q
  rw [nI_add, hn8.1] at q'
  have hpk := (nI_leI (a := p + k) (b := nS (A 0)) (by omega) (by omega)).mp q'
  have T : ∀ {K : Int32 → tF → tA → Prop}, (∀ K2, (FR 0 = 0 → K2 0) → (¬ FR 0 = 0 → K2 (-13)) → p_X7_lacks FM A (nI t) 0 K2) → (p_X7_lacks FM A (nI t) 0 (fun r46 => ((r46 = 0 → (vp_in (nI t) 4 ∧ (p_X7_isIn (i.toInt64) (0 : Int64) ((((A 17) (nI t).toNatClampNeg)).toInt64) (fun r69 => ((r69 = 0 → (K (-12 : Int32) FM A)) ∧ (¬ r69 = 0 → (vp_in (nI t) 4 ∧ (((lg_cmp (i.toInt64 + (nI k).toInt64) (((A 17) (nI t).toNatClampNeg)).toInt64) ≤ 0 → (∃ n98, p_X7_minds_L98 (nI t) i (nI p) (nI k) K n98 FM A (0 : Int32))) ∧ (¬ (lg_cmp (i.toInt64 + (nI k).toInt64) (((A 17) (nI t).toNatClampNeg)).toInt64) ≤ 0 → (K (-12 : Int32) FM A)))))))))) ∧ (¬ r46 = 0 → (p_X7_lacks FM A (nI t) 0 (fun r55 => (K r55 FM A))))))) → p_X7_minds FM A (nI t) i (nI p) (nI k) K := by
    intro K _ g
    unfold p_X7_minds
    exact sh1 c (a1 (o1 ok d (a1 (i1 (m := 8) e (by omega) rfl rfl (a1 ⟨fun _ => g, fun w => absurd q w⟩)))))
  have LK : ∀ K2 : Int32 → Prop, (FR 0 = 0 → K2 0) → (¬ FR 0 = 0 → K2 (-13)) → p_X7_lacks FM A (nI t) 0 K2 := fun K2 a b => lacks_R ht h a b
  rw [nI_clamp (by omega)]
  refine ⟨iv, hg, fun s0 => ?_, fun s0 => T LK (LK _ (fun w => absurd w s0) (fun _ => ⟨fun w => absurd w (by decide), fun _ => LK _ (fun w => absurd w s0) (fun _ => hz.rn)⟩))⟩
  have OUT : ∀ {K : Int32 → tF → tA → Prop}, ¬ inR i (n + 1) → K (-12) FM A → p_X7_minds FM A (nI t) i (nI p) (nI k) K := by
    intro K w kk
    refine T LK (LK _ (fun _ => ⟨fun _ => ⟨iv, ?_⟩, fun w => absurd rfl w⟩) (fun w => absurd s0 w))
    rw [nI_clamp (by omega), e17]
    exact i0 (m := n) w (by omega) rfl rfl (a0 kk)
  refine cl0' (m := n) (by omega) (fun ci => ?_) (fun ci => OUT ci hz.rn)
  obtain ⟨j, hj, rfl⟩ := id ci
  have es : Int32.ofNat n - nI j = nI (n - j) := pk_sub (a := n) (b := j) (by omega)
  rw [es]
  have lc : lg_cmp ((nI j).toInt64 + (nI k).toInt64) (nI n).toInt64 ≤ 0 ↔ j + k ≤ n := by
    rw [nI_l (by omega), nI_l (by omega), nI_l (by omega)]
    have ea : lN j + lN k = lN (j + k) := (Int64.ofNat_add _ _).symm
    rw [ea]
    have := lc_gt (lN (j + k)) (lN n)
    rw [pk_lLT (by omega) (by omega)] at this
    constructor
    · intro w
      rcases Nat.lt_or_ge n (j + k) with v | v
      · exact absurd (this.mpr v) (Int32.not_lt.mpr w)
      · exact v
    · intro w
      exact Int32.not_lt.mp (fun v => by have := this.mp v; omega)
  have IN : ∀ {K : Int32 → tF → tA → Prop}, (j + k ≤ n → ∃ n98, p_X7_minds_L98 (nI t) (nI j) (nI p) (nI k) K n98 FM A 0) → (¬ j + k ≤ n → K (-12) FM A) → p_X7_minds FM A (nI t) (nI j) (nI p) (nI k) K := by
    intro K g1 g0
    refine T LK (LK _ (fun _ => ⟨fun _ => ⟨iv, ?_⟩, fun w => absurd rfl w⟩) (fun w => absurd s0 w))
    rw [nI_clamp (by omega), e17, lc]
    exact i1 (m := n) ci (by omega) rfl rfl (a1 ⟨iv, g1, g0⟩)
  refine ⟨fun w => ?_, fun w => IN (fun v => absurd (nI_le (a := k) (b := n - j) (by omega) (by omega)) w) (fun _ => hz.rn)⟩
  have hjk : j + k ≤ n := by
    have := (nI_leI (a := k) (b := n - j) (by omega) (by omega)).mp w
    omega
  have X7 : ∀ Fn' An', HR Fn' An' (mnU (A 0) (AR 1) p j k) → p_X7_minds FM A (nI t) (nI j) (nI p) (nI k) (Rn FM A (nI k) Fn' An') := by
    intro Fn' An' rr
    refine IN (fun _ => ?_) (fun w => absurd hjk w)
    refine lq3 (p_X7_minds_L98 (nI t) (nI j) (nI p) (nI k) (Rn FM A (nI k) Fn' An')) (fun l F' A' v => F' = FM ∧ v = nI l ∧ (∀ q, q ≠ 0 → A' q = A q) ∧ A' 0 = mnU (A 0) (AR 1) p j l) k 0 (by omega) ?_ ?_ ⟨rfl, rfl, fun _ _ => rfl, rfl⟩
    · rintro f F' A' v ⟨rfl, rfl, t1, e0⟩
      rw [p_X7_minds_L98]
      refine ⟨fun _ => ⟨rfl, rfl, fun q a _ _ _ _ => t1 q a, hz.of e0 rr (mnU_ok ok k) (mnU_z z0 k (by omega)) (by rw [t1 2 (by omega)]; exact z2) (t1 3 (by omega))⟩, fun q => absurd (nI_le (Nat.le_refl _) (by omega)) q⟩
    · rintro f l F' A' v g1 g2 ⟨rfl, rfl, t1, e0⟩ ih
      rw [p_X7_minds_L98]
      have i1 : (40 : Int32) * nI t + nI j + nI l = nI (40 * t + (j + l)) := by rw [ix40, nI_add, Nat.add_assoc]
      have i2 : (21 : Int32) + (4 : Int32) * (nI p + nI l) + (2 : Int32) = nI (23 + 4 * (p + l)) := by rw [nI_add]; exact ix_o2 _
      rw [i1, i2, nI_clamp (by omega), nI_clamp (by omega), t1 18 (by omega), hb (j + l) (by omega)]
      refine ⟨fun q => absurd q (nI_ge g2 (by omega)), fun _ => ⟨vp_in_nI (by omega) (by omega), s_X7_within ⟨vp_in_nI (by omega) (by omega), fun f hf y hy => ih _ _ _ ⟨rfl, by rw [hy]; exact nI_1 _, fun q hq => by rw [va_up_ne _ _ hq]; exact t1 q hq, ?_⟩⟩⟩⟩
      rw [va_up_self, hf, e0]; rfl
  refine lq3 (p_X6_minds_R_L104 o n F gsh FR AR (nI j) (nI p) (nI k) _) (fun l F' A' v => F' = Fn ∧ v = nI l ∧ HR F' A' (mnU (A 0) (AR 1) p j l)) k 0 (by omega) ?_ ?_ ⟨rfl, rfl, hr⟩
  · rintro f F' A' v ⟨rfl, rfl, rr⟩
    rw [p_X6_minds_R_L104]
    exact ⟨fun _ => X7 _ _ rr, fun q => absurd (nI_le (Nat.le_refl _) (by omega)) q⟩
  · rintro f l F' A' v g1 g2 ⟨rfl, rfl, rr⟩ ih
    rw [p_X6_minds_R_L104]
    unfold p_X6_heldToFigure
    rw [held_x6, nI_add, nI_add, nI_clamp (by omega), nI_clamp (by omega)]
    refine ⟨fun q => absurd q (nI_ge g2 (by omega)), fun _ => ⟨vp_in_nI (by omega) (by omega), vp_in_nI (by omega) (by omega), fun f hf y hy => ih _ _ _ ⟨rfl, by rw [hy]; exact nI_1 _, ?_⟩⟩⟩
    exact rr.put (Cs.f (o := p + l) (by rw [mnU_n]; omega)) hf
/-! fits -/
def tdB (s it : tF) : Nat → Bool
  | 0 => true
  | k + 1 => tdB s it k && (decide (it k = -1) || decide (it k = daysS (k + 1) s 3))
theorem tdB_f {s it : tF} {i : Nat} (h : tdB s it i = false) : ∀ n, i ≤ n → tdB s it n = false
  | 0, hn => by rw [show i = 0 by omega] at h; exact h
  | n + 1, hn => by
    by_cases c : i = n + 1
    · rw [← c]; exact h
    · rw [tdB, tdB_f h n (by omega)]; rfl
theorem tdB_s {s it : tF} {i : Nat} (h : tdB s it i = true) (c : it i = -1 ∨ it i = daysS (i + 1) s 3) : tdB s it (i + 1) = true := by
  rw [tdB, h, Bool.true_and, Bool.or_eq_true, decide_eq_true_iff, decide_eq_true_iff]; exact c
theorem tdB_n {s it : tF} {i : Nat} (c : ¬ it i = -1) (d : ¬ it i = daysS (i + 1) s 3) : tdB s it (i + 1) = false := by
  rw [tdB, decide_eq_false c, decide_eq_false d, Bool.or_false, Bool.and_false]
theorem s_X6_goesAsTold {F : tF} {o n : Nat} (hn : n ≤ 40) {FR : tF} {AR : tA} {Ft : tF} {At : tA} {s : tF} (h : HR Ft At s) (ok : OkS s) {K : Int32 → tF → tA → Prop} (hk : ∀ F' A', K (if tdB s (AR 1) n = true then 1 else 0) F' A') : p_X6_goesAsTold_R F o n FR AR Ft At K := by
  unfold p_X6_goesAsTold_R
  refine lq3 (p_X6_goesAsTold_R_L2 o n F FR AR K) (fun i F' A' x => x = nI i ∧ HR F' A' (daysS i s) ∧ tdB s (AR 1) i = true) n 0 (by omega) ?_ ?_ ⟨rfl, h, rfl⟩
  · rintro m F' A' x ⟨rfl, r, t⟩
    rw [p_X6_goesAsTold_R_L2]
    have := hk F' A'
    rw [if_pos t] at this
    exact ⟨fun _ => this, fun q => absurd (nI_le (Nat.le_refl n) (by omega)) q⟩
  · rintro m i F' A' x g1 g2 ⟨rfl, r, t⟩ ih
    rw [p_X6_goesAsTold_R_L2, nI_clamp (by omega)]
    unfold p_X6_goesAsTold_R_J46
    refine ⟨fun q => absurd q (nI_ge g2 (by omega)), fun _ => s_X2_passDay r (daysS_ok ok i) (fun F3 A3 r3 => ?_)⟩
    have e3 : F3 9 = daysS (i + 1) s 3 := r3.1.2.1
    have iv : vp_in (nI i) n := vp_in_nI g2 (by omega)
    rw [e3]
    refine ⟨iv, fun q y hy => ih _ _ _ ⟨by rw [hy]; exact nI_1 _, r3, tdB_s t (Or.inl q)⟩, fun q => ⟨iv, fun w y hy => ih _ _ _ ⟨by rw [hy]; exact nI_1 _, r3, tdB_s t (Or.inr w)⟩, fun w => ?_⟩⟩
    have := hk F3 A3
    rw [if_neg (by rw [tdB_f (tdB_n q w) n (by omega)]; exact Bool.false_ne_true)] at this
    exact this
theorem s_X7_isTold {F : tF} {A : tA} (ok : OkS (A 0)) (z0 : Z53 (A 0)) (z2 : Z53 (A 2)) {t n : Nat} (ht : t < 4) (hn : n ≤ 40) (e17 : A 17 t = nI n) {it : tF} (hb : ∀ j, j < n → A 18 (40 * t + j) = it j) {K : Int32 → tF → tA → Prop} (hk : ∀ A', K2 A A' → Z53 (A' 2) → K (if tdB (A 0) it n = true then 1 else 0) F A') : p_X7_isTold F A (nI t) K := by
  generalize hs : A 0 = s at *
  unfold p_X7_isTold
  rw [hs]
  refine s_X7_copyRow z0 z2 ?_
  have iv : vp_in (nI t) 4 := vp_in_nI ht (by omega)
  have J : ∀ A' z, (∀ k, k ≠ 0 → k ≠ 2 → k ≠ 12 → A' k = A k) → A' 2 = s → Z53 (A' 0) → z = (if tdB s it n = true then (1 : Int32) else 0) → p_X7_isTold_J80 F A' K z := by
    intro A' z u e2 z' hz
    unfold p_X7_isTold_J80
    rw [e2, hz]
    refine s_X7_copyRow z0 z' ⟨?_, hk _ (fun k a b => ?_) (by rw [va_up_ne _ _ (by omega), e2]; exact z0)⟩
    · split
      · exact bo_1
      · exact bo_0
    · by_cases k0 : k = 0
      · subst k0; rw [va_up_self, hs]
      · rw [va_up_ne _ _ k0]; exact u k k0 a b
  refine lq4 (p_X7_isTold_L15 (nI t) K) (fun i F' A' z x => F' = F ∧ x = nI i ∧ (∀ k, k ≠ 0 → k ≠ 2 → k ≠ 12 → A' k = A k) ∧ A' 2 = s ∧ Z53 (A' 0) ∧ ((z = 1 ∧ A' 0 = daysS i s ∧ tdB s it i = true) ∨ (z = 0 ∧ tdB s it n = false))) n 0 (by omega) ?_ ?_ ⟨rfl, rfl, fun k _ b _ => va_up_ne _ _ b, by rw [va_up_self], by rw [va_up_ne _ _ (by omega), hs]; exact z0, Or.inl ⟨rfl, by rw [va_up_ne _ _ (by omega)]; exact hs, rfl⟩⟩
  · rintro m F' A' z x ⟨rfl, rfl, u, e2, z', w⟩
    rw [p_X7_isTold_L15, nI_clamp (by omega), u 17 (by omega) (by omega) (by omega), e17]
    refine ⟨iv, fun _ => J A' z u e2 z' ?_, fun q => absurd (nI_le (Nat.le_refl _) (by omega)) q⟩
    rcases w with ⟨w1, _, w3⟩ | ⟨w1, w2⟩
    · rw [w1, if_pos w3]
    · rw [w1, if_neg (by rw [w2]; exact Bool.false_ne_true)]
  · rintro m i F' A' z x g1 g2 ⟨rfl, rfl, u, e2, z', w⟩ ih
    rw [p_X7_isTold_L15, nI_clamp (by omega), u 17 (by omega) (by omega) (by omega), e17]
    refine ⟨iv, fun q => absurd q (nI_ge g2 (by omega)), fun _ => ?_⟩
    rcases w with ⟨w1, ed, w3⟩ | ⟨w1, w2⟩
    · refine ⟨fun q => absurd q (by rw [w1]; decide), fun _ => s_X7_goesOn (by rw [ed]; exact daysS_ok ok i) (fun A2 q2 t2 => ?_)⟩
      have q2' : A2 0 = daysS (i + 1) s := by rw [q2, ed]; rfl
      have t3 : ∀ k, k ≠ 0 → k ≠ 2 → k ≠ 12 → A2 k = A k := fun k a b c => by rw [t2 k a c]; exact u k a b c
      have e3 : A2 2 = s := by rw [t2 2 (by omega) (by omega)]; exact e2
      have z3' : Z53 (A2 0) := by rw [q2']; exact z0.days ok.n.2 _
      have i160 : vp_in (nI (40 * t + i)) 160 := vp_in_nI (by omega) (by omega)
      rw [ix40, nI_clamp (by omega), t3 18 (by omega) (by omega) (by omega), hb i g2, q2']
      unfold p_X7_isTold_J68 p_X7_isTold_J73
      refine ⟨i160, fun q y hy => ih _ _ _ _ ⟨rfl, by rw [hy]; exact nI_1 _, t3, e3, z3', Or.inl ⟨rfl, q2', tdB_s w3 (Or.inl q)⟩⟩, fun q => ⟨i160, fun v y hy => ih _ _ _ _ ⟨rfl, by rw [hy]; exact nI_1 _, t3, e3, z3', Or.inr ⟨rfl, tdB_f (tdB_n q v) n (by omega)⟩⟩, fun v y hy => ih _ _ _ _ ⟨rfl, by rw [hy]; exact nI_1 _, t3, e3, z3', Or.inl ⟨rfl, q2', tdB_s w3 (Or.inr v)⟩⟩⟩⟩
    · refine ⟨fun _ => J A' z u e2 z' (by rw [w1, if_neg (by rw [w2]; exact Bool.false_ne_true)]), fun q => absurd w1 q⟩
def ftS (s : tF) (o c : Nat) : tF := upd s (23 + 4 * o) (nI (9 - c))
def ftM (s it : tF) (o n : Nat) : Nat → Int32
  | 0 => 0
  | c + 1 => if tdB (ftS s o c) it n = true then ftM s it o n c + 1 else ftM s it o n c
def ftL (s it : tF) (o n : Nat) : Nat → Int32
  | 0 => -3
  | c + 1 => if tdB (ftS s o c) it n = true then nI (9 - c) else ftL s it o n c
theorem dn9 : ∀ c, c < 10 → nI (9 - c) + (-1 : Int32) = if c + 1 < 10 then nI (9 - (c + 1)) else -1 := by decide +kernel
theorem j_fits_N {F Fn : tF} {An : tA} {gsh : tG} {FM : tF} {A : tA} (hz : HZ Fn An A) (x u w : Int32) (h : ∀ t, t < 4 → x = nI t → SN gsh A t) : p_X6_fits_N F Fn An gsh x u w (fun r => p_X7_fits FM A x u w (Rn FM A r Fn An)) := by
  obtain ⟨hr, ok, _⟩ := id hz
  unfold p_X6_fits_N
  by_cases c : inR x 4
  rotate_left
  · exact w0 (m := 4) c (by omega) (a0 (by unfold p_X7_fits; exact sh0 c (a0 hz.rn)))
  refine w1 (m := 4) c (by omega) (a1 ?_)
  by_cases d : inR u (nS (A 0))
  rotate_left
  · exact f0 hr ok d (a0 (by unfold p_X7_fits; exact sh1 c (a1 (o0 ok d (a0 hz.rn)))))
  refine f1 hr ok d (a1 ?_)
  by_cases e : inR w 2
  rotate_left
  · exact w0 (m := 2) e (by omega) (b0 (by unfold p_X7_fits; exact sh1 c (a1 (o1 ok d (a1 (i0 (m := 1) e (by omega) rfl rfl (b0 hz.rn)))))))
  refine w1 (m := 2) e (by omega) (b1 ?_)
  obtain ⟨t, ht, rfl⟩ := id c
  obtain ⟨hg, e16⟩ := h t ht rfl
  rw [nI_clamp (by omega)]
  refine ⟨vp_in_nI ht (by omega), hg, ?_⟩
  unfold p_X7_fits
  rw [nI_clamp (by omega), e16]
  exact sh1 c (a1 (o1 ok d (a1 (i1 (m := 1) e (by omega) rfl rfl (b1 ⟨vp_in_nI ht (by omega), fun q => absurd q (by decide), fun _ => hz.rn⟩)))))
theorem j_fits_R {F Fn Ft : tF} {An At : tA} {gsh : tG} {FM : tF} {A : tA} (hz : HZ Fn An A) {t o n : Nat} (ht : t < 4) {FR : tF} {AR : tA} (h : SR gsh A t o n (FR 0) (AR 1)) (u w : Int32) : p_X6_fits_R F Fn An gsh o n FR AR Ft At (nI t) u w (fun r _ _ => p_X7_fits FM A (nI t) u w (Rn FM A r Fn An)) := by
  obtain ⟨hg, hn, hst, e16, e17, hb⟩ := id h
  obtain ⟨hr, ok, z0, z2, z3⟩ := id hz
  have hn8 := ok.n
  have iv : vp_in (nI t) 4 := vp_in_nI ht (by omega)
  have c : inR (nI t) 4 := ⟨t, ht, rfl⟩
  unfold p_X6_fits_R
  refine w1 (m := 4) c (by omega) (a1 ?_)
  by_cases d : inR u (nS (A 0))
  rotate_left
  · exact f0 hr ok d (a0 (by unfold p_X7_fits; exact sh1 c (a1 (o0 ok d (a0 hz.rn)))))
  refine f1 hr ok d (a1 ?_)
  by_cases e : inR w 2
  rotate_left
  · exact w0 (m := 2) e (by omega) (b0 (by unfold p_X7_fits; exact sh1 c (a1 (o1 ok d (a1 (i0 (m := 1) e (by omega) rfl rfl (b0 hz.rn)))))))
  refine w1 (m := 2) e (by omega) (b1 ?_)
  obtain ⟨p, hp, rfl⟩ := id d
  rw [nI_clamp (by omega)]
  refine ⟨iv, hg, ?_⟩
  have fo : ∀ c, OkS (ftS (A 0) p c) := fun c => ok.put (by omega) (fun _ => by rw [bnd_f]; exact ⟨9 - c, by omega, rfl⟩)
  have X7 : p_X7_fits FM A (nI t) (nI p) w (Rn FM A (if w = 0 then ftM (A 0) (AR 1) p n 10 else ftL (A 0) (AR 1) p n 10) Fn An) := by
    unfold p_X7_fits
    rw [ix_o2, nI_clamp (by omega)]
    refine sh1 c (a1 (o1 ok d (a1 (i1 (m := 1) e (by omega) rfl rfl (b1 ⟨iv, fun _ => ?_, fun q => absurd h.pos q⟩)))))
    intro y1 h1
    subst h1
    have ik : vp_in (nI (23 + 4 * p)) 53 := vp_in_nI (by omega) (by omega)
    rw [nI_clamp (by omega)]
    refine ⟨ik, fun y2 h2 => ?_⟩
    refine lq5 (p_X7_fits_L69 (nI t) w (nI (23 + 4 * p)) y2 _) (fun cc F' A' m l v => F' = FM ∧ (v = if cc < 10 then nI (9 - cc) else -1) ∧ m = ftM (A 0) (AR 1) p n cc ∧ l = ftL (A 0) (AR 1) p n cc ∧ (∀ j, j ≠ 0 → j ≠ 2 → j ≠ 12 → A' j = A j) ∧ Z53 (A' 2) ∧ ∃ q, A' 0 = upd (A 0) (23 + 4 * p) q) 10 0 (by omega) ?_ ?_ ⟨rfl, rfl, rfl, rfl, fun _ _ _ _ => rfl, z2, A 0 (23 + 4 * p), upd_self.symm⟩
    · rintro f F' A' m l v ⟨rfl, ev, em, el, t1, z, q, e0⟩
      rw [p_X7_fits_L69, ev, if_neg (by omega), nI_clamp (by omega), e0, em, el]
      refine ⟨fun _ => ⟨ik, fun g hg => ?_⟩, fun w => absurd (by decide) w⟩
      have kk : K2 A (va_up A' 0 g) := fun j a b => by
        by_cases j0 : j = 0
        · subst j0; rw [va_up_self, hg, upd_upd, h2, upd_self]
        · rw [va_up_ne _ _ j0]; exact t1 j j0 a b
      have hz2 := hz.k2 kk (by rw [va_up_ne _ _ (by omega)]; exact z)
      exact ⟨fun q => ⟨by rw [if_neg q], rfl, Kp.ofK2 kk, hz2⟩, fun q => ⟨by rw [if_pos q], rfl, Kp.ofK2 kk, hz2⟩⟩
    · rintro f cc F' A' m l v g1 g2 ⟨rfl, ev, rfl, rfl, t1, z, q, e0⟩ ih
      rw [if_pos g2] at ev
      subst ev
      rw [p_X7_fits_L69, nI_clamp (by omega), e0]
      refine ⟨fun q => absurd q (nI_pos (by omega)), fun _ => ⟨ik, fun g hg => ?_⟩⟩
      have eg : g = ftS (A 0) p cc := by rw [hg, upd_upd]; rfl
      subst eg
      refine s_X7_isTold (it := AR 1) (by rw [va_up_self]; exact fo cc) (by rw [va_up_self]; exact z0.up (by omega)) (by rw [va_up_ne _ _ (by omega)]; exact z) ht hn (by rw [va_up_ne _ _ (by omega), t1 17 (by omega) (by omega) (by omega)]; exact e17) (fun j hj => by rw [va_up_ne _ _ (by omega), t1 18 (by omega) (by omega) (by omega)]; exact hb j hj) (fun A2 k2 z4 => ?_)
      rw [va_up_self]
      have t2 : ∀ j, j ≠ 0 → j ≠ 2 → j ≠ 12 → A2 j = A j := fun j a b c => by rw [k2 j b c, va_up_ne _ _ a]; exact t1 j a b c
      have e4 : A2 0 = upd (A 0) (23 + 4 * p) (nI (9 - cc)) := by rw [k2 0 (by omega) (by omega), va_up_self]; rfl
      unfold p_X7_fits_J102 p_X7_fits_J117
      by_cases td : tdB (ftS (A 0) p cc) (AR 1) n = true
      · rw [if_pos td]
        exact a1 (fun y3 h3 => a1 (fun y4 h4 => ih _ _ _ _ _ ⟨rfl, by rw [h4]; exact dn9 cc g2, by rw [h3, ftM, if_pos td], by rw [ftL, if_pos td], t2, z4, _, e4⟩))
      · rw [if_neg td]
        exact a0 (fun y3 h3 => a0 (fun y4 h4 => ih _ _ _ _ _ ⟨rfl, by rw [h4]; exact dn9 cc g2, by rw [h3, ftM, if_neg td]; exact Int32.add_zero _, by rw [ftL, if_neg td], t2, z4, _, e4⟩))
  refine lq5 (p_X6_fits_R_L53 o n F Fn An gsh FR AR (nI p) w _) (fun cc _ _ m l v => (v = if cc < 10 then nI (9 - cc) else -1) ∧ m = ftM (A 0) (AR 1) p n cc ∧ l = ftL (A 0) (AR 1) p n cc) 10 0 (by omega) ?_ ?_ ⟨rfl, rfl, rfl⟩
  · rintro f F' A' m l v ⟨ev, em, el⟩
    rw [p_X6_fits_R_L53, ev, if_neg (by omega), em, el]
    refine ⟨fun _ => ⟨fun q => ?_, fun q => ?_⟩, fun w => absurd (by decide) w⟩
    · rw [if_neg q] at X7; exact X7
    · rw [if_pos q] at X7; exact X7
  · rintro f cc F' A' m l v g1 g2 ⟨ev, rfl, rfl⟩ ih
    rw [if_pos g2] at ev
    subst ev
    rw [p_X6_fits_R_L53, nI_clamp (by omega)]
    refine ⟨fun q => absurd q (nI_pos (by omega)), fun _ => s_X2_copyFrom hr ok (fun F3 A3 r3 => ⟨vp_in_nI (by omega) (by omega), fun g hg => ?_⟩)⟩
    refine s_X6_goesAsTold hn (r3.put (Cs.f hp) hg) (fo cc) (fun F4 A4 => ?_)
    have es : upd (A 0) (23 + 4 * p) (nI (9 - cc)) = ftS (A 0) p cc := rfl
    rw [es]
    unfold p_X6_fits_R_J96
    by_cases td : tdB (ftS (A 0) p cc) (AR 1) n = true
    · rw [if_pos td]
      exact a1 (fun y3 h3 y4 h4 => ih _ _ _ _ _ ⟨by rw [h4]; exact dn9 cc g2, by rw [h3, ftM, if_pos td], by rw [ftL, if_pos td]⟩)
    · rw [if_neg td]
      exact a0 (fun y4 h4 => ih _ _ _ _ _ ⟨by rw [h4]; exact dn9 cc g2, by rw [ftM, if_neg td], by rw [ftL, if_neg td]⟩)
