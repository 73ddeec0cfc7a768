/-! sets of sheep: bits, how many; ballots; deafFor, looksFor, sham -/
theorem bit01 (x y : Int32) : (x >>> y) &&& (1 : Int32) = 0 ∨ (x >>> y) &&& (1 : Int32) = 1 := by
  obtain ⟨j, hj, e⟩ := pk_andE (x >>> y) (m := 1) 1 (by decide)
  rcases (show j = 0 ∨ j = 1 by omega) with q | q
  · subst q; exact Or.inl e
  · subst q; exact Or.inr e
theorem shl_n : ∀ k, k < 9 → (1 : Int32) <<< (nI k &&& 31) = nI (2 ^ k) := by decide +kernel
theorem pow_le : ∀ k, k < 9 → 2 ^ k ≤ 256 := by decide +kernel
def szR : Nat → Int32 → Int32 → Int32
  | 0, a, _ => a
  | n + 1, a, b => if b = 0 then a else szR n (a + 1) (b &&& (b - 1))
def szT : Nat → Int32 → Bool
  | 0, _ => false
  | n + 1, b => if b = 0 then true else szT n (b &&& (b - 1))
theorem s_szl {K : Int32 → Prop} : ∀ n a b, szT n b = true → K (szR n a b) → p_X7_size_L4 K n a b
  | 0, _, _, h, _ => Bool.noConfusion (show false = true from h)
  | n + 1, a, b, h, k => by
    rw [p_X7_size_L4]
    refine ⟨fun c => ?_, fun c y hy z hz => ?_⟩
    · rw [szR, if_pos c] at k; exact k
    · rw [szR, if_neg c] at k
      rw [szT, if_neg c] at h
      rw [hy, hz]; exact s_szl n _ _ h k
def pcI (v : Nat) : Int32 := szR 9 0 (nI v)
theorem sz_ok : ∀ v, v < 256 → szT 9 (nI v) = true := by decide +kernel
theorem s_X7_size {v : Nat} (hv : v < 256) {K : Int32 → Prop} (k : K (pcI v)) : p_X7_size (nI v) K := ⟨9, s_szl 9 _ _ (sz_ok v hv) k⟩
def bcE (x0 : Int32) : Int32 :=
  let y9 := (x0 - ((((x0).toUInt32 >>> (((1 : Int32)).toUInt32 &&& Int32.toUInt32 31)).toInt32) &&& (1431655765 : Int32)))
  let y23 := ((y9 &&& (858993459 : Int32)) + ((((y9).toUInt32 >>> (((2 : Int32)).toUInt32 &&& Int32.toUInt32 31)).toInt32) &&& (858993459 : Int32)))
  let y33 := ((y23 + (((y23).toUInt32 >>> (((4 : Int32)).toUInt32 &&& Int32.toUInt32 31)).toInt32)) &&& (252645135 : Int32))
  let y40 := (y33 + (((y33).toUInt32 >>> (((8 : Int32)).toUInt32 &&& Int32.toUInt32 31)).toInt32))
  let y47 := (y40 + (((y40).toUInt32 >>> (((16 : Int32)).toUInt32 &&& Int32.toUInt32 31)).toInt32))
  y47 &&& (63 : Int32)
theorem bc_eq : ∀ v, v < 256 → bcE (nI v) = pcI v := by decide +kernel
theorem s_J6_bitCount {v : Nat} (hv : v < 256) {K : Int32 → Prop} (k : K (pcI v)) : p_J6_bitCount_0f7a4 (nI v) K := by
  unfold p_J6_bitCount_0f7a4
  intro y9 h9 y23 h23 y33 h33 y40 h40 y47 h47
  have e : y47 &&& (63 : Int32) = bcE (nI v) := by rw [h47, h40, h33, h23, h9]; rfl
  rw [e, bc_eq v hv]; exact k
theorem pcI_n : ∀ v, v < 256 → ∃ c, c < 9 ∧ pcI v = nI c := by decide +kernel
theorem pcI_lt {v : Nat} (hv : v < 256) : pcI v < 9 := by
  obtain ⟨c, hc, e⟩ := pcI_n v hv
  rw [e]; exact nI_lt (a := c) (b := 9) hc (by omega)
def fwF (W : Nat → Bool) : Nat → Int32
  | 0 => 9
  | k + 1 => if pcI k < fwF W k ∧ W k = true then pcI k else fwF W k
def fwB (W : Nat → Bool) : Nat → Int32
  | 0 => -3
  | k + 1 => if pcI k < fwF W k ∧ W k = true then nI k else fwB W k
theorem fw_cg {W W' : Nat → Bool} : ∀ k, (∀ v, v < k → W v = W' v) → fwF W k = fwF W' k ∧ fwB W k = fwB W' k
  | 0, _ => ⟨rfl, rfl⟩
  | k + 1, h => by
    obtain ⟨a, b⟩ := fw_cg k (fun v hv => h v (by omega))
    rw [fwF, fwB, fwF, fwB, a, b, h k (by omega)]; exact ⟨rfl, rfl⟩
theorem fw_inv {W : Nat → Bool} : ∀ k, k ≤ 256 → (fwB W k = -3 ∧ fwF W k = 9) ∨ ∃ j, j < 256 ∧ fwB W k = nI j ∧ fwF W k = pcI j
  | 0, _ => Or.inl ⟨rfl, rfl⟩
  | k + 1, h => by
    rw [fwF, fwB]
    split
    · exact Or.inr ⟨k, by omega, rfl, rfl⟩
    · exact fw_inv k (by omega)
theorem s_X0_take {F F1 : tF} {A A1 : tA} {s : tF} (h : HR F1 A1 s) (ok : OkS s) {K : tF → tA → Prop} (hk : ∀ A', (∀ o, o < nS s → A' 0 o = nI (voteS s o) ∧ A' 1 o = countS s o) → K F A') : p_X0_take F A F1 A1 K := by
  have hn := ok.n.2
  unfold p_X0_take
  refine lq3 (p_X0_take_L2 F1 A1 K) (fun i F' A' x => F' = F ∧ x = nI i ∧ ∀ o, o < i → A' 0 o = nI (voteS s o) ∧ A' 1 o = countS s o) (nS s) 0 (by omega) ?_ ?_ ⟨rfl, rfl, fun o ho => absurd ho (by omega)⟩
  · rintro n F' A' x ⟨rfl, rfl, b⟩
    rw [p_X0_take_L2, h.1.1, ok.n.1]
    exact ⟨fun _ => hk A' b, fun c => absurd (nI_le (Nat.le_refl _) (by omega)) c⟩
  · rintro n i F' A' x h1 h6 ⟨rfl, rfl, b⟩ ih
    rw [p_X0_take_L2, h.1.1, ok.n.1, nI_clamp (by omega)]
    have ii : vp_in (nI i) 8 := vp_in_nI (by omega) (by omega)
    refine ⟨fun c => absurd c (nI_ge h6 (by omega)), fun _ => s_X2_voteOf h ok h6 ⟨ii, fun f1 e1 => s_X2_weightOf h ok h6 ⟨ii, fun f2 e2 y hy => ih _ _ _ ⟨rfl, by rw [hy]; exact nI_1 _, fun o ho => ?_⟩⟩⟩⟩
    rw [va_up_self, va_up_ne _ _ (by omega), va_up_self, e1, e2]
    by_cases q : o = i
    · subst q; rw [pk_us, pk_us]; exact ⟨rfl, rfl⟩
    · rw [pk_un q, pk_un q]; exact b o (by omega)
theorem s_X0_favouriteWith {F F1 : tF} {A A1 : tA} {s : tF} (h : HR F1 A1 s) (ok : OkS s) {set : Int32} {slot : Nat → Nat} {w : Nat → Int32} (hs : ∀ k, k < nS s → slot k < 6 ∧ (((set >>> (nI k &&& 31)) &&& (1 : Int32)) = 0 → A 0 k = nI (slot k) ∧ A 1 k = w k) ∧ (¬ ((set >>> (nI k &&& 31)) &&& (1 : Int32)) = 0 → A 2 k = nI (slot k) ∧ A 3 k = w k)) {K : Int32 → tF → tA → Prop} (hk : ∀ A', (∀ j, j ≠ 7 → A' j = A1 j) → K (nI (favS (tallyU (baseS s) slot w (nS s)) (s 3))) F1 A') : p_X0_favouriteWith F A F1 A1 set K := by
  have hn := ok.n.2
  unfold p_X0_favouriteWith
  refine s_X2_startTally h (fun A2 t2 b2 => ?_)
  refine lq3 (p_X0_favouriteWith_L6 F A set K) (fun i F' A' x => F' = F1 ∧ x = nI i ∧ (∀ j, j ≠ 7 → A' j = A1 j) ∧ ∀ p, p < 6 → A' 7 p = tallyU (baseS s) slot w i p) (nS s) 0 (by omega) ?_ ?_ ⟨rfl, rfl, t2, b2⟩
  · rintro n F' A' x ⟨rfl, rfl, t, b⟩
    rw [p_X0_favouriteWith_L6, h.1.1, ok.n.1]
    refine ⟨fun _ => s_X2_favouriteOfTally ok.at.2 (by rw [h.1.2.1]; exact ok.at.1) ?_, fun c => absurd (nI_le (Nat.le_refl _) (by omega)) c⟩
    have : favS (A' 7) (F' 9) = favS (tallyU (baseS s) slot w (nS s)) (s 3) := by rw [h.1.2.1]; exact favS_cg _ b
    rw [this]; exact hk A' t
  · rintro n i F' A' x h1 h6 ⟨rfl, rfl, t, b⟩ ih
    rw [p_X0_favouriteWith_L6, h.1.1, ok.n.1, nI_clamp (by omega)]
    have ii : vp_in (nI i) 8 := vp_in_nI (by omega) (by omega)
    obtain ⟨s6, sa, sb⟩ := hs i h6
    have is : vp_in (nI (slot i)) 6 := vp_in_nI s6 (by omega)
    have J : ∀ f, f = upd (A' 7) (slot i) (A' 7 (slot i) + w i) → p_X0_favouriteWith_J65 F A F' (va_up A' 7 f) (p_X0_favouriteWith_L6 F A set K n) K set (nI i) := by
      intro f hf
      unfold p_X0_favouriteWith_J65
      refine fun y hy => ih _ _ _ ⟨rfl, by rw [hy]; exact nI_1 _, fun j hj => by rw [va_up_ne _ _ hj]; exact t j hj, fun p hp => ?_⟩
      have et : tallyU (baseS s) slot w (i + 1) = upd (tallyU (baseS s) slot w i) (slot i) (tallyU (baseS s) slot w i (slot i) + w i) := rfl
      rw [va_up_self, hf, b _ s6, et]
      simp only [upd]
      split
      · rfl
      · exact b p hp
    refine ⟨fun c => absurd c (nI_ge h6 (by omega)), fun _ => ⟨fun c => ?_, fun c => ?_⟩⟩
    · obtain ⟨e1, e2⟩ := sb c
      rw [e1, e2, nI_clamp (by omega)]
      exact ⟨ii, is, ii, is, fun f hf => J f hf⟩
    · obtain ⟨e1, e2⟩ := sa c
      rw [e1, e2, nI_clamp (by omega)]
      exact ⟨ii, is, ii, is, fun f hf => J f hf⟩
def favW (s : tF) (slot : Nat → Nat → Nat) (w : Nat → Nat → Int32) (p v : Nat) : Bool := decide (favS (tallyU (baseS s) (slot v) (w v) (nS s)) (s 3) = p)
theorem s_X0_fewestFor {F F1 : tF} {A A1 : tA} {s : tF} (h : HR F1 A1 s) (ok : OkS s) {p : Nat} (hp : p < 6) {slot : Nat → Nat → Nat} {w : Nat → Nat → Int32} (hs : ∀ v, v < 2 ^ nS s → ∀ k, k < nS s → slot v k < 6 ∧ (((nI v >>> (nI k &&& 31)) &&& (1 : Int32)) = 0 → A 0 k = nI (slot v k) ∧ A 1 k = w v k) ∧ (¬ ((nI v >>> (nI k &&& 31)) &&& (1 : Int32)) = 0 → A 2 k = nI (slot v k) ∧ A 3 k = w v k)) {K : Int32 → tF → tA → Prop} (hk : ∀ A', (∀ j, j ≠ 7 → A' j = A1 j) → K (fwB (favW s slot w p) (2 ^ nS s)) F1 A') : p_X0_fewestFor F A F1 A1 (nI p) K := by
  have hn := ok.n.2
  have hw := pow_le (nS s) (by omega)
  unfold p_X0_fewestFor
  refine lq5 (p_X0_fewestFor_L10 F A (nI p) K) (fun i F' A' b l x => F' = F1 ∧ x = nI i ∧ (∀ j, j ≠ 7 → A' j = A1 j) ∧ b = fwB (favW s slot w p) i ∧ l = fwF (favW s slot w p) i) (2 ^ nS s) 0 (Nat.zero_le _) ?_ ?_ ⟨rfl, rfl, fun _ _ => rfl, rfl, rfl⟩
  · rintro n F' A' b l x ⟨rfl, rfl, t, rfl, rfl⟩
    rw [p_X0_fewestFor_L10, h.1.1, ok.n.1, shl_n _ (by omega)]
    exact ⟨fun _ => hk A' t, fun c => absurd (nI_le (Nat.le_refl _) (by omega)) c⟩
  · rintro n i F' A' b l x h1 h6 ⟨rfl, rfl, t, rfl, rfl⟩ ih
    rw [p_X0_fewestFor_L10, h.1.1, ok.n.1, shl_n _ (by omega)]
    refine ⟨fun c => absurd c (nI_ge h6 (by omega)), fun _ => s_J6_bitCount (by omega) ⟨fun c => ?_, fun c => ?_⟩⟩
    · unfold p_X0_fewestFor_J53
      have c' : ¬ (pcI i < fwF (favW s slot w p) i ∧ favW s slot w p i = true) := fun q => Int32.not_lt.mpr c q.1
      exact fun y hy => ih _ _ _ _ _ ⟨rfl, by rw [hy]; exact nI_1 _, t, by rw [fwB, if_neg c'], by rw [fwF, if_neg c']⟩
    · refine s_X0_favouriteWith (h.tr t) ok (hs i h6) (fun A3 t3 => ⟨fun d => ?_, fun d => ?_⟩)
      · unfold p_X0_fewestFor_J53
        have c' : ¬ (pcI i < fwF (favW s slot w p) i ∧ favW s slot w p i = true) := fun q => d (by rw [of_decide_eq_true q.2])
        exact fun y hy => ih _ _ _ _ _ ⟨rfl, by rw [hy]; exact nI_1 _, fun j hj => by rw [t3 j hj]; exact t j hj, by rw [fwB, if_neg c'], by rw [fwF, if_neg c']⟩
      · unfold p_X0_fewestFor_J53
        have hf := favS_lt (tallyU (baseS s) (slot i) (w i) (nS s)) (s 3)
        have c' : pcI i < fwF (favW s slot w p) i ∧ favW s slot w p i = true := ⟨Int32.not_le.mp c, decide_eq_true ((nI_eq (by omega) (by omega)).mp d)⟩
        exact fun y hy => ih _ _ _ _ _ ⟨rfl, by rw [hy]; exact nI_1 _, fun j hj => by rw [t3 j hj]; exact t j hj, by rw [fwB, if_pos c'], by rw [fwF, if_pos c']⟩
theorem HR.iff_F {F : tF} {A : tA} {s : tF} (h : HR F A s) (ok : OkS s) : F 8 = nI (nS s) := by rw [h.1.1]; exact ok.n.1
theorem s_X7_deafFor {F : tF} {A : tA} (ok : OkS (A 0)) {p : Nat} (hp : p < 6) {W : Nat → Bool} (hW : ∀ v, v < 2 ^ nS (A 0) → (W v = true ↔ favS (polP (A 0) (nI v) (-1) 0) (A 0 3) = p)) {K : Int32 → tF → tA → Prop} (hk : ∀ A', (∀ k, k ≠ 12 → A' k = A k) → K (fwB W (2 ^ nS (A 0))) F A') : p_X7_deafFor F A (nI p) K := by
  have hn := ok.n.2
  have hw := pow_le (nS (A 0)) (by omega)
  unfold p_X7_deafFor
  refine p1 ⟨p, hp, rfl⟩ (b1 ?_)
  refine lq4 (p_X7_deafFor_L14 (nI p) K) (fun i F' A' b x => F' = F ∧ x = nI i ∧ (∀ j, j ≠ 12 → A' j = A j) ∧ b = fwB W i) (2 ^ nS (A 0)) 0 (Nat.zero_le _) ?_ ?_ ⟨rfl, rfl, fun _ _ => rfl, rfl⟩
  · rintro n F' A' b x ⟨rfl, rfl, t, rfl⟩
    rw [p_X7_deafFor_L14, t 0 (by omega), ok.n.1, shl_n _ (by omega)]
    exact ⟨fun _ => hk A' t, fun c => absurd (nI_le (Nat.le_refl _) (by omega)) c⟩
  · rintro n i F' A' b x h1 h6 ⟨rfl, rfl, t, rfl⟩ ih
    rw [p_X7_deafFor_L14, t 0 (by omega), ok.n.1, shl_n _ (by omega)]
    have N : ¬ (pcI i < fwF W i ∧ W i = true) → ∀ A2, (∀ j, j ≠ 12 → A2 j = A j) → p_X7_deafFor_J56 F' A2 (p_X7_deafFor_L14 (nI p) K n) K (nI p) (fwB W i) (nI i) := by
      intro c A2 t2
      unfold p_X7_deafFor_J56 p_X7_deafFor_J57
      exact fun y hy => ih _ _ _ _ ⟨rfl, by rw [hy]; exact nI_1 _, t2, by rw [fwB, if_neg c]⟩
    have J41 : pcI i < fwF W i → p_X7_deafFor_J41 F' A' (p_X7_deafFor_L14 (nI p) K n) K (nI p) (fwB W i) (nI i) := by
      intro c
      unfold p_X7_deafFor_J41
      refine s_X7_winnerOf (deaf := nI i) (liar := -1) (lie := 0) (by rw [t 0 (by omega)]; exact ok) (fun k _ _ => ⟨0, by omega, rfl⟩) (fun A2 t2 => ?_)
      have t3 : ∀ j, j ≠ 12 → A2 j = A j := fun j hj => by rw [t2 j hj]; exact t j hj
      rw [t 0 (by omega)]
      refine ⟨fun d => N (fun q => d (by rw [(hW i h6).mp q.2])) A2 t3, fun d => ?_⟩
      unfold p_X7_deafFor_J57
      have hf := favS_lt (polP (A 0) (nI i) (-1) 0) (A 0 3)
      have c' : pcI i < fwF W i ∧ W i = true := ⟨c, (hW i h6).mpr ((nI_eq (by omega) (by omega)).mp d)⟩
      exact fun y hy => ih _ _ _ _ ⟨rfl, by rw [hy]; exact nI_1 _, t3, by rw [fwB, if_pos c']⟩
    refine ⟨fun c => absurd c (nI_ge h6 (by omega)), fun _ => ?_⟩
    rcases fw_inv (W := W) i (by omega) with ⟨e1, e2⟩ | ⟨j, hj, e1, e2⟩
    · refine ⟨fun _ => J41 (by rw [e2]; exact pcI_lt (by omega)), fun c => absurd (by rw [e1]; decide) c⟩
    · refine ⟨fun c => absurd c (by rw [e1]; exact nI_pos (by omega)), fun _ => s_X7_size (by omega) ?_⟩
      rw [e1] at J41 N ⊢
      exact s_X7_size hj ⟨fun c => N (fun q => Int32.not_lt.mpr c (by rw [← e2]; exact q.1)) A' t, fun c => J41 (by rw [e2]; exact Int32.not_le.mp c)⟩
theorem HZ.t7a {Fn : tF} {An A : tA} (h : HZ Fn An A) {An' : tA} (t : ∀ k, k ≠ 7 → An' k = An k) : HZ Fn An' A := h.t7 t (fun _ _ => rfl)
theorem tally_eq {b : tF} {slot slot' : Nat → Nat} {w w' : Nat → Int32} {n : Nat} (h : ∀ o, o < n → slot o = slot' o ∧ w o = w' o ∧ slot o < 6) (a : Int32) : favS (tallyU b slot w n) a = favS (tallyU b slot' w' n) a := favS_cg _ (tallyU_cg (fun _ _ => rfl) n h)
theorem nI_m1 : ∀ k, k < 8 → nI k ≠ -1 := by decide
theorem j_deafFor {F Fn Fb : tF} {An Ab : tA} {FM : tF} {A : tA} (h : HZ Fn An A) (x : Int32) : p_X6_deafFor F Fb Ab Fn An x (fun r _ _ Fn' An' => p_X7_deafFor FM A x (Rn FM A r Fn' An')) := by
  obtain ⟨hr, ok, z0, z2, z3⟩ := id h
  have hn := ok.n.2
  unfold p_X6_deafFor
  by_cases c : inR x 6
  rotate_left
  · exact w0 (m := 6) c (by omega) (b0 (by unfold p_X7_deafFor; exact p0 c (b0 h.rn)))
  refine w1 (m := 6) c (by omega) (b1 ?_)
  obtain ⟨p, hp, rfl⟩ := c
  refine s_X0_take hr ok (fun A1 b1 => ?_)
  refine lq3 (p_X6_deafFor_L24 F Fn An (nI p) _) (fun i _ A' x => x = nI i ∧ (∀ o, o < nS (A 0) → A' 0 o = nI (voteS (A 0) o) ∧ A' 1 o = countS (A 0) o) ∧ ∀ o, o < i → A' 2 o = nI (voteS (A 0) o) ∧ A' 3 o = 0) (nS (A 0)) 0 (by omega) ?_ ?_ ⟨rfl, b1, fun o ho => absurd ho (by omega)⟩
  · rintro n F' A' x ⟨rfl, b, d⟩
    rw [p_X6_deafFor_L24, hr.iff_F ok]
    refine ⟨fun _ => ?_, fun c => absurd (nI_le (Nat.le_refl _) (by omega)) c⟩
    refine s_X0_fewestFor (slot := fun _ k => voteS (A 0) k) (w := fun v k => if ((nI v >>> (nI k &&& 31)) &&& (1 : Int32)) = 0 then countS (A 0) k else 0) hr ok hp (fun v _ k hk => ⟨voteS_lt _ _, fun q => ⟨(b k hk).1, by rw [if_pos q]; exact (b k hk).2⟩, fun q => ⟨(d k hk).1, by rw [if_neg q]; exact (d k hk).2⟩⟩) (fun A2 t2 => ?_)
    refine s_X7_deafFor ok hp (fun v _ => ?_) (fun A3 t3 => ⟨rfl, rfl, Kp.of12 t3, h.t7 t2 t3⟩)
    unfold favW
    rw [decide_eq_true_iff]
    unfold polP
    rw [tally_eq (slot' := slotP (A 0) (-1) 0) (w' := wP (A 0) (nI v)) (fun o ho => ⟨?_, ?_, voteS_lt _ _⟩)]
    · unfold slotP; rw [if_neg (nI_m1 o (by omega))]
    · unfold wP
      show (if ((nI v >>> (nI o &&& 31)) &&& (1 : Int32)) = 0 then countS (A 0) o else 0) = _
      rcases bit01 (nI v) (nI o &&& 31) with q | q
      · rw [if_pos q, if_neg (by rw [q]; decide)]
      · rw [if_neg (by rw [q]; decide), if_pos q]
  · rintro n i F' A' x h1 h6 ⟨rfl, b, d⟩ ih
    rw [p_X6_deafFor_L24, hr.iff_F ok, nI_clamp (by omega)]
    have ii : vp_in (nI i) 8 := vp_in_nI (by omega) (by omega)
    refine ⟨fun c => absurd c (nI_ge h6 (by omega)), fun _ => ⟨ii, ii, fun f1 e1 => ⟨ii, fun f2 e2 y hy => ih _ _ _ ⟨by rw [hy]; exact nI_1 _, fun o ho => ?_, fun o ho => ?_⟩⟩⟩⟩
    · rw [va_up_ne _ _ (by omega), va_up_ne _ _ (by omega), va_up_ne _ _ (by omega), va_up_ne _ _ (by omega)]; exact b o ho
    · rw [va_up_ne _ _ (by omega), va_up_self, va_up_self, e1, e2]
      by_cases q : o = i
      · subst q; rw [pk_us, pk_us]; exact ⟨(b o h6).1, rfl⟩
      · rw [pk_un q, pk_un q]; exact d o (by omega)
/-! looksFor -/
theorem worthS_cg {s s' : tF} {o p : Nat} (hp : p < 6) (h : ∀ k, 3 ≤ k → k < 21 → s k = s' k) (g : ∀ c, c < 4 → s (21 + 4 * o + c) = s' (21 + 4 * o + c)) : worthS s o p = worthS s' o p := by
  have g0 := g 0 (by omega)
  have g1 := g 1 (by omega)
  have g2 := g 2 (by omega)
  have g3 := g 3 (by omega)
  rw [show 21 + 4 * o + 0 = 21 + 4 * o by omega] at g0
  rw [show 21 + 4 * o + 1 = 22 + 4 * o by omega] at g1
  rw [show 21 + 4 * o + 2 = 23 + 4 * o by omega] at g2
  rw [show 21 + 4 * o + 3 = 24 + 4 * o by omega] at g3
  unfold worthS eweS earS
  rw [g0, g1, g2, g3, h 3 (by omega) (by omega), h 4 (by omega) (by omega), h 5 (by omega) (by omega), h (9 + p) (by omega) (by omega), h (15 + p) (by omega) (by omega)]
theorem voteS_cg {s s' : tF} {o : Nat} (h : ∀ k, 3 ≤ k → k < 21 → s k = s' k) (g : ∀ c, c < 4 → s (21 + 4 * o + c) = s' (21 + 4 * o + c)) : voteS s o = voteS s' o := by
  have H : ∀ k, k < 6 → voteU s o k = voteU s' o k := by
    intro k
    induction k with
    | zero => intro _; rfl
    | succ k ih =>
      intro hk
      have hv := voteU_le s' o k
      rw [voteU, voteU, ih (by omega), worthS_cg (by omega) h g, worthS_cg (p := k + 1) hk h g]
  exact H 5 (by omega)
theorem countS_cg {s s' : tF} {o : Nat} (ok : OkS s') (h : ∀ k, 3 ≤ k → k < 21 → s k = s' k) (g : ∀ c, c < 4 → s (21 + 4 * o + c) = s' (21 + 4 * o + c)) : countS s o = countS s' o := by
  have g0 := g 0 (by omega)
  have g3 := g 3 (by omega)
  rw [show 21 + 4 * o + 0 = 21 + 4 * o by omega] at g0
  rw [show 21 + 4 * o + 3 = 24 + 4 * o by omega] at g3
  have h6 := ok.at.2
  unfold countS hoggS
  rw [g0, g3, h 3 (by omega) (by omega), h (9 + (s' 3).toNatClampNeg) (by omega) (by omega)]
def lookU (s : tF) (v : Nat) (l : Int32) (i : Nat) : tF := fun k => if 24 ≤ k ∧ k < 24 + 4 * i ∧ (k - 24) % 4 = 0 ∧ ((nI v >>> (nI ((k - 24) / 4) &&& 31)) &&& (1 : Int32)) = 1 then l else s k
theorem lookU_o {s : tF} {v : Nat} {l : Int32} {i k : Nat} (h : k < 24 ∨ 24 + 4 * i ≤ k ∨ (k - 24) % 4 ≠ 0) : lookU s v l i k = s k := by
  unfold lookU; rw [if_neg (by omega)]
theorem lookU_1 {s : tF} {v : Nat} {l : Int32} {i o : Nat} (h : o < i) (b : ((nI v >>> (nI o &&& 31)) &&& (1 : Int32)) = 1) : lookU s v l i (24 + 4 * o) = l := by
  unfold lookU
  rw [show (24 + 4 * o - 24) / 4 = o by omega, if_pos ⟨by omega, by omega, by omega, b⟩]
theorem lookU_0 {s : tF} {v : Nat} {l : Int32} {i o : Nat} (b : ¬ ((nI v >>> (nI o &&& 31)) &&& (1 : Int32)) = 1) : lookU s v l i (24 + 4 * o) = s (24 + 4 * o) := by
  unfold lookU
  rw [show (24 + 4 * o - 24) / 4 = o by omega, if_neg (fun q => b q.2.2.2)]
theorem lookU_s {s : tF} {v : Nat} {l : Int32} {i : Nat} : lookU s v l (i + 1) = upd (lookU s v l i) (24 + 4 * i) (if ((nI v >>> (nI i &&& 31)) &&& (1 : Int32)) = 1 then l else s (24 + 4 * i)) := by
  funext k
  by_cases c : k = 24 + 4 * i
  · subst c
    rw [pk_us]
    split
    · rename_i b; exact lookU_1 (by omega) b
    · rename_i b; exact lookU_0 b
  · rw [pk_un c]
    unfold lookU
    by_cases q : 24 ≤ k ∧ k < 24 + 4 * i ∧ (k - 24) % 4 = 0 ∧ ((nI v >>> (nI ((k - 24) / 4) &&& 31)) &&& (1 : Int32)) = 1
    · rw [if_pos q, if_pos ⟨q.1, by omega, q.2.2⟩]
    · rw [if_neg q, if_neg (fun w => q ⟨w.1, by omega, w.2.2⟩)]
theorem lookU_n {s : tF} {v : Nat} {l : Int32} {i : Nat} : nS (lookU s v l i) = nS s := by unfold nS; rw [lookU_o (by omega)]
theorem lookU_ok {s : tF} (ok : OkS s) {v p : Nat} (hp : p < 6) {i : Nat} : OkS (lookU s v (nI p) i) := by
  obtain ⟨h0, hl⟩ := OkS.iff.mp ok
  refine OkS.iff.mpr ⟨by rw [lookU_o (by omega)]; exact h0, fun k a b => ?_⟩
  rw [lookU_n] at b
  unfold lookU
  split
  · rename_i q
    unfold bnd
    rw [if_neg (by omega), if_neg (by omega), if_neg (by omega), if_neg (by omega), if_neg (by omega), if_neg (by omega), if_pos (by omega)]
    exact ⟨p, by omega, rfl⟩
  · exact hl k a b
theorem lookU_z {s : tF} (z : Z53 s) {v : Nat} {l : Int32} {i : Nat} (hi : i ≤ 7 ∨ i ≤ 8) : Z53 (lookU s v l i) := fun k hk => by
  rw [lookU_o (by omega)]; exact z k hk
def lookS (s : tF) (v p : Nat) : tF := lookU s v (nI p) (nS s)
theorem s_X7_winsByLooks {F : tF} {A : tA} (ok : OkS (A 0)) (z0 : Z53 (A 0)) (z2 : Z53 (A 2)) {v p : Nat} (hp : p < 6) {K : Int32 → tF → tA → Prop} (hk : ∀ A', K2 A A' → Z53 (A' 2) → K (if winS (lookS (A 0) v p) = p then 1 else 0) F A') : p_X7_winsByLooks F A (nI v) (nI p) K := by
  generalize hs : A 0 = s at *
  have hn := ok.n.2
  unfold p_X7_winsByLooks
  rw [hs]
  refine s_X7_copyRow z0 z2 ?_
  refine lq3 (p_X7_winsByLooks_L13 (nI v) (nI p) K) (fun i F' A' x => F' = F ∧ x = nI i ∧ (∀ j, j ≠ 0 → j ≠ 2 → A' j = A j) ∧ A' 2 = s ∧ A' 0 = lookU s v (nI p) i) (nS s) 0 (by omega) ?_ ?_ ⟨rfl, rfl, fun j _ b => va_up_ne _ _ b, by rw [va_up_self], ?_⟩
  · rintro n F' A' x ⟨rfl, rfl, t, e2, e0⟩
    rw [p_X7_winsByLooks_L13, e0, lookU_o (by omega), ok.n.1]
    refine ⟨fun _ => ?_, fun c => absurd (nI_le (Nat.le_refl _) (by omega)) c⟩
    unfold p_X7_winner
    refine s_X7_win (by rw [e0]; exact lookU_ok ok hp) (fun A3 t3 => ?_)
    have J : ∀ z, z = (if winS (lookS s v p) = p then (1 : Int32) else 0) → bo z → p_X7_winsByLooks_J74 F' A3 K z := by
      intro z hz bz
      unfold p_X7_winsByLooks_J74
      have f2 : A3 2 = s := by rw [t3 2 (by omega)]; exact e2
      rw [f2]
      refine s_X7_copyRow z0 (by rw [t3 0 (by omega), e0]; exact lookU_z z0 (Or.inr hn)) ⟨bz, ?_⟩
      rw [hz]
      refine hk _ (fun j a b => ?_) (by rw [va_up_ne _ _ (by omega), f2]; exact z0)
      by_cases j0 : j = 0
      · subst j0; rw [va_up_self, hs]
      · rw [va_up_ne _ _ j0, t3 j b]; exact t j j0 a
    have hw := winS_lt (lookU s v (nI p) (nS s))
    rw [e0]
    refine ⟨fun c => J _ ?_ bo_0, fun c => J _ ?_ bo_1⟩
    · rw [if_neg]; intro q; exact c (by rw [show winS (lookU s v (nI p) (nS s)) = p from q])
    · rw [if_pos]; show winS (lookU s v (nI p) (nS s)) = p; exact (nI_eq (by omega) (by omega)).mp c
  · rintro n i F' A' x h1 h6 ⟨rfl, rfl, t, e2, e0⟩ ih
    rw [p_X7_winsByLooks_L13, e0, lookU_o (by omega), ok.n.1, ix_o3]
    have J : ∀ z, z = (if ((nI v >>> (nI i &&& 31)) &&& (1 : Int32)) = 1 then nI p else s (24 + 4 * i)) → p_X7_winsByLooks_J54 F' A' (p_X7_winsByLooks_L13 (nI v) (nI p) K n) K (nI v) (nI p) (nI i) z (nI (24 + 4 * i)) := by
      intro z hz
      unfold p_X7_winsByLooks_J54
      rw [nI_clamp (by omega)]
      refine ⟨vp_in_nI (by omega) (by omega), fun f hf y hy => ih _ _ _ ⟨rfl, by rw [hy]; exact nI_1 _, fun j a b => by rw [va_up_ne _ _ a]; exact t j a b, by rw [va_up_ne _ _ (by omega)]; exact e2, ?_⟩⟩
      rw [va_up_self, hf, hz, e0, lookU_s]
    refine ⟨fun c => absurd c (nI_ge h6 (by omega)), fun _ => ⟨fun c => s_X7_its (c := 3) (k := 24 + 4 * i) (by omega) (by omega) (by omega) (J _ ?_), fun c => J _ ?_⟩⟩
    · rw [if_neg c, e0, lookU_o (by omega)]
    · rw [if_pos c]
  · rw [va_up_ne _ _ (by omega), hs]
    funext k; rw [lookU_o (by omega)]
theorem s_X7_looksFor {F : tF} {A : tA} (ok : OkS (A 0)) (z0 : Z53 (A 0)) (z2 : Z53 (A 2)) {p : Nat} (hp : p < 6) {W : Nat → Bool} (hW : ∀ v, v < 2 ^ nS (A 0) → (W v = true ↔ winS (lookS (A 0) v p) = p)) {K : Int32 → tF → tA → Prop} (hk : ∀ A', K2 A A' → Z53 (A' 2) → K (fwB W (2 ^ nS (A 0))) F A') : p_X7_looksFor F A (nI p) K := by
  have hn := ok.n.2
  have hw := pow_le (nS (A 0)) (by omega)
  unfold p_X7_looksFor
  refine p1 ⟨p, hp, rfl⟩ (b1 ?_)
  refine lq4 (p_X7_looksFor_L14 (nI p) K) (fun i F' A' b x => F' = F ∧ x = nI i ∧ K2 A A' ∧ Z53 (A' 2) ∧ b = fwB W i) (2 ^ nS (A 0)) 0 (Nat.zero_le _) ?_ ?_ ⟨rfl, rfl, K2.rf, z2, rfl⟩
  · rintro n F' A' b x ⟨rfl, rfl, t, z, rfl⟩
    rw [p_X7_looksFor_L14, t 0 (by omega) (by omega), ok.n.1, shl_n _ (by omega)]
    exact ⟨fun _ => hk A' t z, fun c => absurd (nI_le (Nat.le_refl _) (by omega)) c⟩
  · rintro n i F' A' b x h1 h6 ⟨rfl, rfl, t, z, rfl⟩ ih
    rw [p_X7_looksFor_L14, t 0 (by omega) (by omega), ok.n.1, shl_n _ (by omega)]
    have N : ¬ (pcI i < fwF W i ∧ W i = true) → ∀ A2, K2 A A2 → Z53 (A2 2) → p_X7_looksFor_J54 F' A2 (p_X7_looksFor_L14 (nI p) K n) K (nI p) (fwB W i) (nI i) := by
      intro c A2 t2 z3
      unfold p_X7_looksFor_J54 p_X7_looksFor_J55
      exact fun y hy => ih _ _ _ _ ⟨rfl, by rw [hy]; exact nI_1 _, t2, z3, by rw [fwB, if_neg c]⟩
    have J41 : pcI i < fwF W i → p_X7_looksFor_J41 F' A' (p_X7_looksFor_L14 (nI p) K n) K (nI p) (fwB W i) (nI i) := by
      intro c
      unfold p_X7_looksFor_J41
      have e0 : A' 0 = A 0 := t 0 (by omega) (by omega)
      refine s_X7_winsByLooks (by rw [e0]; exact ok) (by rw [e0]; exact z0) z hp (fun A2 t2 z3 => ?_)
      rw [e0]
      refine ⟨fun d => N (fun q => ?_) A2 (t.tr t2) z3, fun d => ?_⟩
      · rw [if_pos ((hW i h6).mp q.2)] at d; exact absurd d (by decide)
      · unfold p_X7_looksFor_J55
        have c' : pcI i < fwF W i ∧ W i = true := ⟨c, (hW i h6).mpr (by
          by_cases q : winS (lookS (A 0) i p) = p
          · exact q
          · rw [if_neg q] at d; exact absurd rfl d)⟩
        exact fun y hy => ih _ _ _ _ ⟨rfl, by rw [hy]; exact nI_1 _, t.tr t2, z3, by rw [fwB, if_pos c']⟩
    refine ⟨fun c => absurd c (nI_ge h6 (by omega)), fun _ => ?_⟩
    rcases fw_inv (W := W) i (by omega) with ⟨e1, e2⟩ | ⟨j, hj, e1, e2⟩
    · refine ⟨fun _ => J41 (by rw [e2]; exact pcI_lt (by omega)), fun c => absurd (by rw [e1]; decide) c⟩
    · refine ⟨fun c => absurd c (by rw [e1]; exact nI_pos (by omega)), fun _ => s_X7_size (by omega) ?_⟩
      rw [e1] at J41 N ⊢
      exact s_X7_size hj ⟨fun c => N (fun q => Int32.not_lt.mpr c (by rw [← e2]; exact q.1)) A' t z, fun c => J41 (by rw [e2]; exact Int32.not_le.mp c)⟩
theorem j_looksFor {F Fn Ft Fb : tF} {An At Ab : tA} {FM : tF} {A : tA} (h : HZ Fn An A) (x : Int32) : p_X6_looksFor F Ft At Fn An Fb Ab x (fun r _ _ Fn' An' _ _ => p_X7_looksFor FM A x (Rn FM A r Fn' An')) := by
  obtain ⟨hr, ok, z0, z2, z3⟩ := id h
  have hn := ok.n.2
  unfold p_X6_looksFor
  by_cases c : inR x 6
  rotate_left
  · exact w0 (m := 6) c (by omega) (b0 (by unfold p_X7_looksFor; exact p0 c (b0 h.rn)))
  refine w1 (m := 6) c (by omega) (b1 ?_)
  obtain ⟨p, hp, rfl⟩ := c
  generalize hs : A 0 = s at *
  refine s_X2_copyFrom hr ok (fun F0 A0 r0 => s_X0_take r0 ok (fun A1 b1 => ?_))
  have vo : ∀ i si, i < nS s → (∀ k, k < 24 → si k = s k) → (∀ o, i ≤ o → ∀ c, c < 4 → si (21 + 4 * o + c) = s (21 + 4 * o + c)) → voteS (upd si (24 + 4 * i) (nI p)) i = voteS (upd s (24 + 4 * i) (nI p)) i ∧ countS (upd si (24 + 4 * i) (nI p)) i = countS (upd s (24 + 4 * i) (nI p)) i := by
    intro i si hi g1 g2
    have q1 : ∀ k, 3 ≤ k → k < 21 → upd si (24 + 4 * i) (nI p) k = upd s (24 + 4 * i) (nI p) k := fun k a b => by rw [pk_un (by omega), pk_un (by omega)]; exact g1 k (by omega)
    have q2 : ∀ c, c < 4 → upd si (24 + 4 * i) (nI p) (21 + 4 * i + c) = upd s (24 + 4 * i) (nI p) (21 + 4 * i + c) := fun c hc => by
      by_cases c3 : c = 3
      · subst c3; rw [show 21 + 4 * i + 3 = 24 + 4 * i by omega, pk_us, pk_us]
      · rw [pk_un (by omega), pk_un (by omega)]; exact g2 i (Nat.le_refl _) c hc
    exact ⟨voteS_cg q1 q2, countS_cg (ok.put (by omega) (fun _ => by rw [bnd_l]; exact ⟨p, by omega, rfl⟩)) q1 q2⟩
  refine lq5 (p_X6_looksFor_L35 F Fn An (nI p) _) (fun i F' A' _ Ab' x => x = nI i ∧ (∃ si, HR F' A' si ∧ OkS si ∧ nS si = nS s ∧ (∀ k, k < 24 → si k = s k) ∧ (∀ o, i ≤ o → ∀ c, c < 4 → si (21 + 4 * o + c) = s (21 + 4 * o + c))) ∧ (∀ o, o < nS s → Ab' 0 o = nI (voteS s o) ∧ Ab' 1 o = countS s o) ∧ ∀ o, o < i → Ab' 2 o = nI (voteS (upd s (24 + 4 * o) (nI p)) o) ∧ Ab' 3 o = countS (upd s (24 + 4 * o) (nI p)) o) (nS s) 0 (by omega) ?_ ?_ ⟨rfl, ⟨s, r0, ok, rfl, fun _ _ => rfl, fun _ _ _ _ => rfl⟩, b1, fun o ho => absurd ho (by omega)⟩
  · rintro n F' A' Fb' Ab' x ⟨rfl, ⟨si, rs, os, ns, g1, g2⟩, b, d⟩
    rw [p_X6_looksFor_L35, rs.iff_F os, ns]
    refine ⟨fun _ => ?_, fun c => absurd (nI_le (Nat.le_refl _) (by omega)) c⟩
    refine s_X0_fewestFor (slot := fun v k => if ((nI v >>> (nI k &&& 31)) &&& (1 : Int32)) = 0 then voteS s k else voteS (upd s (24 + 4 * k) (nI p)) k) (w := fun v k => if ((nI v >>> (nI k &&& 31)) &&& (1 : Int32)) = 0 then countS s k else countS (upd s (24 + 4 * k) (nI p)) k) hr ok hp (fun v _ k hk => ⟨?_, fun q => ?_, fun q => ?_⟩) (fun A2 t2 => ?_)
    · show (if _ then _ else _) < 6
      split
      · exact voteS_lt _ _
      · exact voteS_lt _ _
    · rw [if_pos q, if_pos q]; exact b k hk
    · rw [if_neg q, if_neg q]; exact d k hk
    · have hW : ∀ v, v < 2 ^ nS (A 0) → (favW s (fun v k => if ((nI v >>> (nI k &&& 31)) &&& (1 : Int32)) = 0 then voteS s k else voteS (upd s (24 + 4 * k) (nI p)) k) (fun v k => if ((nI v >>> (nI k &&& 31)) &&& (1 : Int32)) = 0 then countS s k else countS (upd s (24 + 4 * k) (nI p)) k) p v = true ↔ winS (lookS (A 0) v p) = p) := by
        intro v _
        rw [hs]
        unfold favW
        rw [decide_eq_true_iff]
        have e3 : lookS s v p 3 = s 3 := lookU_o (by omega)
        have en : nS (lookS s v p) = nS s := lookU_n
        unfold winS
        rw [e3]
        have : favS (polS (lookS s v p)) (s 3) = favS (tallyU (baseS s) (fun k => if ((nI v >>> (nI k &&& 31)) &&& (1 : Int32)) = 0 then voteS s k else voteS (upd s (24 + 4 * k) (nI p)) k) (fun k => if ((nI v >>> (nI k &&& 31)) &&& (1 : Int32)) = 0 then countS s k else countS (upd s (24 + 4 * k) (nI p)) k) (nS s)) (s 3) := by
          unfold polS
          rw [en]
          refine favS_cg _ (tallyU_cg (fun q hq => ?_) _ (fun o ho => ?_))
          · unfold baseS; rw [show lookS s v p 4 = s 4 from lookU_o (by omega), show lookS s v p 6 = s 6 from lookU_o (by omega)]
          · have ll : ∀ c, c < 3 → lookS s v p (21 + 4 * o + c) = s (21 + 4 * o + c) := fun c hc => lookU_o (by omega)
            have hi : ∀ k, 3 ≤ k → k < 21 → lookS s v p k = s k := fun k _ b => lookU_o (by omega)
            rcases bit01 (nI v) (nI o &&& 31) with q | q
            · have l3 : lookS s v p (24 + 4 * o) = s (24 + 4 * o) := lookU_0 (by rw [q]; decide)
              have hc : ∀ c, c < 4 → lookS s v p (21 + 4 * o + c) = s (21 + 4 * o + c) := fun c hc => by
                by_cases c3 : c = 3
                · subst c3; rw [show 21 + 4 * o + 3 = 24 + 4 * o by omega]; exact l3
                · exact ll c (by omega)
              rw [if_pos q, if_pos q]
              exact ⟨voteS_cg hi hc, countS_cg ok hi hc, voteS_lt _ _⟩
            · have q' : ¬ ((nI v >>> (nI o &&& 31)) &&& (1 : Int32)) = 0 := by rw [q]; decide
              have l3 : lookS s v p (24 + 4 * o) = nI p := lookU_1 ho q
              have hc : ∀ c, c < 4 → lookS s v p (21 + 4 * o + c) = upd s (24 + 4 * o) (nI p) (21 + 4 * o + c) := fun c hc => by
                by_cases c3 : c = 3
                · subst c3; rw [show 21 + 4 * o + 3 = 24 + 4 * o by omega, pk_us]; exact l3
                · rw [pk_un (by omega)]; exact ll c (by omega)
              have hi' : ∀ k, 3 ≤ k → k < 21 → lookS s v p k = upd s (24 + 4 * o) (nI p) k := fun k a b => by rw [pk_un (by omega)]; exact hi k a b
              rw [if_neg q', if_neg q']
              exact ⟨voteS_cg hi' hc, countS_cg (ok.put (by omega) (fun _ => by rw [bnd_l]; exact ⟨p, by omega, rfl⟩)) hi' hc, voteS_lt _ _⟩
        rw [this]
      rw [← hs]
      rw [← hs] at hW
      exact s_X7_looksFor (by rw [hs]; exact ok) (by rw [hs]; exact z0) z2 hp hW (fun A3 k z => ⟨rfl, rfl, Kp.ofK2 k, (h.t7a t2).k2 k z⟩)
  · rintro n i F' A' Fb' Ab' x h1 h6 ⟨rfl, ⟨si, rs, os, ns, g1, g2⟩, b, d⟩ ih
    rw [p_X6_looksFor_L35, rs.iff_F os, ns, nI_clamp (by omega)]
    have ii : vp_in (nI i) 8 := vp_in_nI (by omega) (by omega)
    refine ⟨fun c => absurd c (nI_ge h6 (by omega)), fun _ => ⟨ii, fun f1 e1 => ?_⟩⟩
    have rs' := rs.put (Cs.l (o := i) (by omega)) e1
    have os' : OkS (upd si (24 + 4 * i) (nI p)) := os.put (by omega) (fun _ => by rw [bnd_l]; exact ⟨p, by omega, rfl⟩)
    have ns' : nS (upd si (24 + 4 * i) (nI p)) = nS s := by rw [nS_put (by omega)]; exact ns
    obtain ⟨ev, ec⟩ := vo i si h6 g1 g2
    refine s_X2_voteOf rs' os' (by omega) ⟨ii, fun f2 e2 => s_X2_weightOf rs' os' (by omega) ⟨ii, fun f3 e3 y hy => ih _ _ _ _ _ ⟨by rw [hy]; exact nI_1 _, ⟨_, rs', os', ns', fun k hk => by rw [pk_un (by omega)]; exact g1 k hk, fun o ho c hc => by rw [pk_un (by omega)]; exact g2 o (by omega) c hc⟩, fun o ho => ?_, fun o ho => ?_⟩⟩⟩
    · rw [va_up_ne _ _ (by omega), va_up_ne _ _ (by omega), va_up_ne _ _ (by omega), va_up_ne _ _ (by omega)]; exact b o ho
    · rw [va_up_ne _ _ (by omega), va_up_self, va_up_self, e2, e3, ev, ec]
      by_cases q : o = i
      · subst q; rw [pk_us, pk_us]; exact ⟨rfl, rfl⟩
      · rw [pk_un q, pk_un q]; exact d o (by omega)
/-! sham -/
def shV (s : tF) (o p : Nat) : Int32 := worthS s o (favS (polP s 0 (nI o) (nI p)) (s 3))
def shM (s : tF) (o : Nat) : Nat → Int32
  | 0 => worthS s o (winS s)
  | k + 1 => if shM s o k < shV s o k then shV s o k else shM s o k
def shB (s : tF) (o : Nat) : Nat → Int32
  | 0 => -3
  | k + 1 => if shM s o k < shV s o k then nI k else shB s o k
theorem s_X7_sham {F : tF} {A : tA} (ok : OkS (A 0)) {o : Nat} (ho : o < nS (A 0)) {K : Int32 → tF → tA → Prop} (hk : ∀ A', (∀ k, k ≠ 12 → A' k = A k) → K (shB (A 0) o 6) F A') : p_X7_sham F A (nI o) K := by
  have hn := ok.n.2
  unfold p_X7_sham
  refine o1 ok ⟨o, ho, rfl⟩ (b1 ?_)
  unfold p_X7_winner
  refine s_X7_win ok (fun A1 t1 => s_X7_worthOf (by omega) (winS_lt _) ?_)
  rw [t1 0 (by omega)]
  refine lq5 (p_X7_sham_L26 (nI o) K) (fun i F' A' m b x => F' = F ∧ x = nI i ∧ (∀ j, j ≠ 12 → A' j = A j) ∧ m = shM (A 0) o i ∧ b = shB (A 0) o i) 6 0 (by omega) ?_ ?_ ⟨rfl, rfl, t1, rfl, rfl⟩
  · rintro n F' A' m b x ⟨rfl, rfl, t, _, e⟩
    rw [p_X7_sham_L26, e]
    exact ⟨fun _ => hk A' t, fun c => absurd (nI_le (a := 6) (b := 6) (by omega) (by omega)) c⟩
  · rintro n i F' A' m b x h1 h6 ⟨rfl, rfl, t, rfl, rfl⟩ ih
    rw [p_X7_sham_L26]
    refine ⟨fun c => absurd c (nI_ge (a := i) (b := 6) h6 (by omega)), fun _ => ?_⟩
    refine s_X7_winnerOf (deaf := 0) (liar := nI o) (lie := nI i) (by rw [t 0 (by omega)]; exact ok) (fun k _ _ => ⟨i, h6, rfl⟩) (fun A2 t2 => ?_)
    have t3 : ∀ j, j ≠ 12 → A2 j = A j := fun j hj => by rw [t2 j hj]; exact t j hj
    rw [t 0 (by omega)]
    refine s_X7_worthOf (by omega) (favS_lt _ _) ?_
    rw [t3 0 (by omega)]
    have ev : worthS (A 0) o (favS (polP (A 0) 0 (nI o) (nI i)) (A 0 3)) = shV (A 0) o i := rfl
    rw [ev]
    refine ⟨fun c => ?_, fun c => ?_⟩
    · unfold p_X7_sham_J60 p_X7_sham_J73
      exact ⟨fun _ y hy => ih _ _ _ _ _ ⟨rfl, by rw [hy]; exact nI_1 _, t3, by rw [shM, if_neg (Int32.not_lt.mpr c)], by rw [shB, if_neg (Int32.not_lt.mpr c)]⟩, fun d => absurd c d⟩
    · unfold p_X7_sham_J60 p_X7_sham_J73
      exact ⟨fun d => absurd d c, fun _ y hy => ih _ _ _ _ _ ⟨rfl, by rw [hy]; exact nI_1 _, t3, by rw [shM, if_pos (Int32.not_le.mp c)], by rw [shB, if_pos (Int32.not_le.mp c)]⟩⟩
theorem bit_1o : ∀ o, o < 8 → ∀ k, k < 8 → (((((1 : Int32) <<< (nI o &&& 31)) >>> (nI k &&& 31)) &&& (1 : Int32)) = 0 ↔ k ≠ o) := by decide +kernel
theorem bit_00 : ∀ k, k < 8 → ((((0 : Int32) >>> (nI k &&& 31)) &&& (1 : Int32)) = 0) := by decide +kernel
theorem j_sham {F Fn Fb : tF} {An Ab : tA} {FM : tF} {A : tA} (h : HZ Fn An A) (x : Int32) : p_X6_sham F Fn An Fb Ab x (fun r Fn' An' _ _ => p_X7_sham FM A x (Rn FM A r Fn' An')) := by
  obtain ⟨hr, ok, z0, z2, z3⟩ := id h
  have hn := ok.n.2
  unfold p_X6_sham
  by_cases c : inR x (nS (A 0))
  rotate_left
  · exact f0 hr ok c (b0 (by unfold p_X7_sham; exact o0 ok c (b0 h.rn)))
  refine f1 hr ok c (b1 ?_)
  obtain ⟨o, ho, rfl⟩ := c
  have io : vp_in (nI o) 8 := vp_in_nI (by omega) (by omega)
  refine s_X0_take hr ok (fun A1 b1 => ?_)
  rw [nI_clamp (by omega)]
  refine ⟨io, io, fun f1 e1 => ?_⟩
  have B : ∀ k, k < nS (A 0) → va_up A1 3 f1 0 k = nI (voteS (A 0) k) ∧ va_up A1 3 f1 1 k = countS (A 0) k := fun k hk => by rw [va_up_ne _ _ (by omega), va_up_ne _ _ (by omega)]; exact b1 k hk
  have B3 : va_up A1 3 f1 3 o = countS (A 0) o := by rw [va_up_self, e1, pk_us]; exact (b1 o ho).2
  refine s_X0_favouriteWith (slot := voteS (A 0)) (w := countS (A 0)) hr ok (fun k hk => ⟨voteS_lt _ _, fun _ => B k hk, fun q => absurd (bit_00 k (by omega)) q⟩) (fun A2 t2 => ?_)
  have ew : favS (tallyU (baseS (A 0)) (voteS (A 0)) (countS (A 0)) (nS (A 0))) (A 0 3) = winS (A 0) := rfl
  rw [ew]
  refine s_X2_worthTo (hr.tr t2) ok ho (winS_lt _) ?_
  generalize va_up A1 3 f1 = A3 at B B3 ⊢
  refine lq1 (fun n (a : tF × tA × tF × tA × Int32 × Int32 × Int32) => p_X6_sham_L66 F (nI o) (fun r Fn' An' _ _ => p_X7_sham FM A (nI o) (Rn FM A r Fn' An')) n a.1 a.2.1 a.2.2.1 a.2.2.2.1 a.2.2.2.2.1 a.2.2.2.2.2.1 a.2.2.2.2.2.2) (fun i a => a.1 = Fn ∧ (∀ j, j ≠ 7 → a.2.1 j = An j) ∧ ((∀ k, k < nS (A 0) → a.2.2.2.1 0 k = nI (voteS (A 0) k) ∧ a.2.2.2.1 1 k = countS (A 0) k) ∧ a.2.2.2.1 3 o = countS (A 0) o) ∧ a.2.2.2.2.1 = shB (A 0) o i ∧ a.2.2.2.2.2.1 = shM (A 0) o i ∧ a.2.2.2.2.2.2 = nI i) 6 0 (by omega) ?_ ?_ (a1 := (Fn, A2, Fb, A3, -3, worthS (A 0) o (winS (A 0)), 0)) ⟨rfl, t2, ⟨B, B3⟩, rfl, rfl, rfl⟩
  · rintro n ⟨F', A', Fb', Ab', b, m, x⟩ ⟨e0, t, _, eb, _, ex⟩
    simp only at e0 t eb ex ⊢
    rw [p_X6_sham_L66, ex, eb, e0]
    refine ⟨fun _ => s_X7_sham ok ho (fun A'' u => ⟨rfl, rfl, Kp.of12 u, h.t7 t u⟩), fun c => absurd (nI_le (a := 6) (b := 6) (by omega) (by omega)) c⟩
  · rintro n i ⟨F', A', Fb', Ab', b, m, x⟩ h1 h6 ⟨e0, t, ⟨bb, b3⟩, eb, em, ex⟩ ih
    simp only at e0 t bb b3 eb em ex ⊢
    subst e0 eb em ex
    rw [p_X6_sham_L66, nI_clamp (by omega)]
    refine ⟨fun c => absurd c (nI_ge (a := i) (b := 6) h6 (by omega)), fun _ => ⟨io, fun f2 e2 => ?_⟩⟩
    refine s_X0_favouriteWith (slot := slotP (A 0) (nI o) (nI i)) (w := wP (A 0) 0) (hr.tr t) ok (fun k hk => ?_) (fun A4 t4 => ?_)
    · have ew : wP (A 0) 0 k = countS (A 0) k := by unfold wP; rw [if_neg (by rw [bit_00 k (by omega)]; decide)]
      refine ⟨?_, fun q => ?_, fun q => ?_⟩
      · unfold slotP
        split
        · rw [nI_clamp (by omega)]; exact h6
        · exact voteS_lt _ _
      · have hk2 := (bit_1o o (by omega) k (by omega)).mp q
        rw [va_up_ne _ _ (by omega), va_up_ne _ _ (by omega), ew]
        unfold slotP
        rw [if_neg (fun w => hk2 ((nI_eq (by omega) (by omega)).mp w))]
        exact bb k hk
      · have hk2 : k = o := by
          by_cases w : k = o
          · exact w
          · exact absurd ((bit_1o o (by omega) k (by omega)).mpr w) q
        subst hk2
        rw [va_up_self, va_up_ne _ _ (by omega), ew, e2, pk_us]
        unfold slotP
        rw [if_pos rfl, nI_clamp (by omega)]
        exact ⟨rfl, b3⟩
    · have ef : favS (tallyU (baseS (A 0)) (slotP (A 0) (nI o) (nI i)) (wP (A 0) 0) (nS (A 0))) (A 0 3) = favS (polP (A 0) 0 (nI o) (nI i)) (A 0 3) := rfl
      rw [ef]
      have t5 : ∀ j, j ≠ 7 → A4 j = An j := fun j hj => by rw [t4 j hj]; exact t j hj
      refine s_X2_worthTo (hr.tr t5) ok ho (favS_lt _ _) ?_
      have ev : worthS (A 0) o (favS (polP (A 0) 0 (nI o) (nI i)) (A 0 3)) = shV (A 0) o i := rfl
      rw [ev]
      have bb' : (∀ k, k < nS (A 0) → va_up Ab' 2 f2 0 k = nI (voteS (A 0) k) ∧ va_up Ab' 2 f2 1 k = countS (A 0) k) ∧ va_up Ab' 2 f2 3 o = countS (A 0) o := by
        refine ⟨fun k hk => ?_, ?_⟩
        · rw [va_up_ne _ _ (by omega), va_up_ne _ _ (by omega)]; exact bb k hk
        · rw [va_up_ne _ _ (by omega)]; exact b3
      refine ⟨fun c => ?_, fun c => ?_⟩
      · unfold p_X6_sham_J120
        exact fun y hy => ih (_, _, _, _, shB (A 0) o i, shM (A 0) o i, y) ⟨rfl, t5, bb', by show shB (A 0) o i = _; rw [shB, if_neg (Int32.not_lt.mpr c)], by show shM (A 0) o i = _; rw [shM, if_neg (Int32.not_lt.mpr c)], by show y = _; rw [hy]; exact nI_1 _⟩
      · unfold p_X6_sham_J120
        exact fun y hy => ih (_, _, _, _, nI i, shV (A 0) o i, y) ⟨rfl, t5, bb', by show nI i = _; rw [shB, if_pos (Int32.not_le.mp c)], by show shV (A 0) o i = _; rw [shM, if_pos (Int32.not_le.mp c)], by show y = _; rw [hy]; exact nI_1 _⟩
