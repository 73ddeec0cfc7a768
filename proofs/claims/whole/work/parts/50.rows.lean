/-! what else the two hold: the tape, rows, the trace, what is kept; prove, judge, feed .. -/
def IvK (F Fk : tF) (Ak : tA) (FM : tF) (AM : tA) : Prop := bo (F 3) ∧ F 3 = FM 4 ∧ Z53 (AM 1) ∧ (F 3 = 1 → HR Fk Ak (AM 1) ∧ OkS (AM 1))
def IvT (Fp : tF) (Ap : tA) (FM : tF) (AM : tA) : Prop := ∃ t : Nat, t ≤ 200 ∧ Fp 1 = nI t ∧ FM 6 = nI t ∧ ∀ k, k < t → Ap 0 k = AM 5 k ∧ inR (AM 5 k) 256
def IvR (F fr : tF) (FM : tF) (AM : tA) : Prop := ∃ r : Nat, r ≤ 10 ∧ F 9 = nI r ∧ FM 15 = nI r ∧ ∀ k, k < 3 * r → fr k = AM 14 k
def IvF (Ff : tF) (Af : tA) (FM : tF) (AM : tA) : Prop := ∃ r : Nat, r ≤ 30 ∧ Ff 1 = nI r ∧ FM 23 = nI r ∧ ∀ k, k < r → Af 0 k = AM 22 k
/-! feed -/
theorem sh_8 : ∀ i, i < 8 → ((((8 : Int32) * nI i)).toInt64 &&& 63).toBitVec.smod 64 = BitVec.ofNat 64 (8 * i) ∧ (((((8 : Int32) * nI i)).toInt64.toUInt64 &&& Int64.toUInt64 63)).toBitVec % 64 = BitVec.ofNat 64 (8 * i) := by decide +kernel
theorem feed_b (x : Int64) {i : Nat} (hi : i < 8) : (((((x).toUInt64 >>> ((((8 : Int32) * nI i)).toInt64.toUInt64 &&& Int64.toUInt64 63)).toInt64) &&& (255 : Int64))).toInt32 = (((x >>> ((((8 : Int32) * nI i)).toInt64 &&& 63)) &&& (255 : Int64))).toInt32 := by
  obtain ⟨e1, e2⟩ := sh_8 i hi
  refine congrArg Int64.toInt32 (Int64.toBitVec_inj.mp ?_)
  have h1 : (((x).toUInt64 >>> ((((8 : Int32) * nI i)).toInt64.toUInt64 &&& Int64.toUInt64 63)).toInt64).toBitVec = x.toBitVec >>> (8 * i) := by
    have : (((x).toUInt64 >>> ((((8 : Int32) * nI i)).toInt64.toUInt64 &&& Int64.toUInt64 63)).toInt64).toBitVec = x.toBitVec >>> ((((((8 : Int32) * nI i)).toInt64.toUInt64 &&& Int64.toUInt64 63)).toBitVec % 64) := UInt64.toBitVec_shiftRight _ _
    rw [this, e2]
    show x.toBitVec >>> (BitVec.ofNat 64 (8 * i)).toNat = _
    rw [BitVec.toNat_ofNat, Nat.mod_eq_of_lt (by omega)]
  have h2 : (x >>> ((((8 : Int32) * nI i)).toInt64 &&& 63)).toBitVec = x.toBitVec.sshiftRight (8 * i) := by
    show x.toBitVec.sshiftRight (((((8 : Int32) * nI i)).toInt64 &&& 63).toBitVec.smod 64).toNat = _
    rw [e1, BitVec.toNat_ofNat, Nat.mod_eq_of_lt (by omega)]
  show _ &&& (255 : Int64).toBitVec = _ &&& (255 : Int64).toBitVec
  rw [h1, h2]
  apply BitVec.eq_of_getLsbD_eq
  intro k hk
  rw [BitVec.getLsbD_and, BitVec.getLsbD_and, BitVec.getLsbD_ushiftRight, BitVec.getLsbD_sshiftRight]
  by_cases c : k < 8
  · rw [if_pos (by omega)]
    have : decide (64 ≤ k) = false := decide_eq_false (by omega)
    rw [this]; rfl
  · have z : ∀ k, k < 64 → ¬ k < 8 → (255 : Int64).toBitVec.getLsbD k = false := by decide +kernel
    rw [z k hk c, Bool.and_false, Bool.and_false]
theorem feed_r (y : Int64) : inR ((y &&& (255 : Int64)).toInt32) 256 := by
  refine ⟨y.toBitVec.toNat % 256, Nat.mod_lt _ (by omega), ?_⟩
  apply Int32.toBitVec_inj.mp
  apply BitVec.eq_of_toNat_eq
  have e : ((y &&& (255 : Int64)).toInt32).toBitVec = (y.toBitVec &&& 255#64).setWidth 32 := by
    rw [Int64.toBitVec_toInt32, BitVec.signExtend_eq_setWidth_of_le _ (by omega)]; rfl
  have h := Nat.mod_lt y.toBitVec.toNat (show 0 < 256 by omega)
  rw [e, BitVec.toNat_setWidth, BitVec.toNat_and, pk_tn (by omega)]
  have : y.toBitVec.toNat &&& (255#64).toNat = y.toBitVec.toNat % 256 := Nat.and_two_pow_sub_one_eq_mod y.toBitVec.toNat 8
  rw [this]
  omega
def fbV (x : Int64) (i : Nat) : Int32 := (((x >>> ((((8 : Int32) * nI i)).toInt64 &&& 63)) &&& (255 : Int64))).toInt32
theorem s_X7_feed {F : tF} {A : tA} {t n : Nat} (e6 : F 6 = nI t) (h1 : 1 ≤ n) (h8 : n ≤ 8) (ht : t + n ≤ 200) (x : Int64) {K : Int32 → tF → tA → Prop} (hk : ∀ F' A', (∀ k, k ≠ 6 → F' k = F k) → (∀ k, k ≠ 5 → A' k = A k) → F' 6 = nI (t + n) → (∀ k, A' 5 k = if t ≤ k ∧ k < t + n then fbV x (k - t) else A 5 k) → K (nI (t + n)) F' A') : p_X7_feed F A x (nI n) K := by
  unfold p_X7_feed
  refine j1 (m := 8) ⟨n, h1, h8, rfl⟩ (by omega) rfl rfl (b1 ?_)
  rw [e6, nI_add]
  refine ⟨fun _ => ?_, fun c => absurd (nI_le (a := t + n) (b := 200) ht (by omega)) c⟩
  refine lq3 (p_X7_feed_L32 x (nI n) K) (fun i F' A' v => v = nI i ∧ (∀ k, k ≠ 6 → F' k = F k) ∧ (∀ k, k ≠ 5 → A' k = A k) ∧ F' 6 = nI (t + i) ∧ ∀ k, A' 5 k = if t ≤ k ∧ k < t + i then fbV x (k - t) else A 5 k) n 0 (by omega) ?_ ?_ ⟨rfl, fun _ _ => rfl, fun _ _ => rfl, e6, fun k => by rw [if_neg (by omega)]⟩
  · rintro m F' A' v ⟨rfl, f1, f2, f3, f4⟩
    rw [p_X7_feed_L32, f3]
    exact ⟨fun _ => hk F' A' f1 f2 f3 f4, fun c => absurd (nI_le (Nat.le_refl _) (by omega)) c⟩
  · rintro m i F' A' v g1 g2 ⟨rfl, f1, f2, f3, f4⟩ ih
    rw [p_X7_feed_L32, f3, nI_clamp (by omega)]
    refine ⟨fun c => absurd c (nI_ge g2 (by omega)), fun _ => ⟨vp_in_nI (by omega) (by omega), fun f hf y hy w hw => ih _ _ _ ⟨by rw [hw]; exact nI_1 _, fun k hk => by rw [pk_un hk]; exact f1 k hk, fun k hk => by rw [va_up_ne _ _ hk]; exact f2 k hk, by rw [pk_us, hy]; exact nI_1 _, fun k => ?_⟩⟩⟩
    rw [va_up_self, hf]
    by_cases c : k = t + i
    · subst c
      rw [pk_us, if_pos (by omega), show t + i - t = i by omega]; rfl
    · rw [pk_un c, f4 k]
      by_cases d : t ≤ k ∧ k < t + i
      · rw [if_pos d, if_pos (by omega)]
      · rw [if_neg d, if_neg (by omega)]
theorem s_X3_append {F : tF} {A : tA} {t n : Nat} (e1 : F 1 = nI t) (h8 : n ≤ 8) (ht : t + n ≤ 200) (x : Int64) {K : tF → tA → Prop} (hk : ∀ F' A', F' 1 = nI (t + n) → (∀ k, A' 0 k = if t ≤ k ∧ k < t + n then fbV x (k - t) else A 0 k) → K F' A') : p_X3_append F A x (nI n) K := by
  unfold p_X3_append
  refine lq3 (p_X3_append_L3 x (nI n) K) (fun i F' A' v => v = nI i ∧ F' 1 = nI (t + i) ∧ ∀ k, A' 0 k = if t ≤ k ∧ k < t + i then fbV x (k - t) else A 0 k) n 0 (by omega) ?_ ?_ ⟨rfl, e1, fun k => by rw [if_neg (by omega)]⟩
  · rintro m F' A' v ⟨rfl, f3, f4⟩
    rw [p_X3_append_L3, f3]
    exact ⟨fun _ => hk F' A' f3 f4, fun c => absurd (nI_le (Nat.le_refl _) (by omega)) c⟩
  · rintro m i F' A' v g1 g2 ⟨rfl, f3, f4⟩ ih
    rw [p_X3_append_L3, f3, nI_clamp (by omega), feed_b x (by omega)]
    refine ⟨fun c => absurd c (nI_ge g2 (by omega)), fun _ => ⟨fun c => absurd c (nI_ge (a := t + i) (b := 200) (by omega) (by omega)), fun _ => ⟨vp_in_nI (by omega) (by omega), fun f hf y hy w hw => ih _ _ _ ⟨by rw [hw]; exact nI_1 _, by rw [pk_us, hy]; exact nI_1 _, fun k => ?_⟩⟩⟩⟩
    rw [va_up_self, hf]
    by_cases c : k = t + i
    · subst c
      rw [pk_us, if_pos (by omega), show t + i - t = i by omega]; rfl
    · rw [pk_un c, f4 k]
      by_cases d : t ≤ k ∧ k < t + i
      · rw [if_pos d, if_pos (by omega)]
      · rw [if_neg d, if_neg (by omega)]
theorem j_feed {F Fp : tF} {Ap : tA} {FM : tF} {A : tA} (h : IvT Fp Ap FM A) (x : Int64) (n : Int32) : p_X6_feed F Fp Ap x n (fun r Fp' Ap' => p_X7_feed FM A x n (fun r' F' A' => r = r' ∧ (∀ k, k ≠ 6 → F' k = FM k) ∧ (∀ k, k ≠ 5 → A' k = A k) ∧ IvT Fp' Ap' F' A')) := by
  obtain ⟨t, ht, e1, e6, hb⟩ := id h
  unfold p_X6_feed
  refine cl1 (m := 8) (by omega) (fun c => ?_) (fun c => by unfold p_X7_feed; exact j0 (m := 8) c (by omega) rfl rfl (b0 ⟨rfl, fun _ _ => rfl, fun _ _ => rfl, h⟩))
  obtain ⟨n, h1, h8, rfl⟩ := id c
  rw [e1, nI_add]
  refine ⟨fun d => ?_, fun d => ?_⟩
  · have hd := (nI_leI (a := t + n) (b := 200) (by omega) (by omega)).mp d
    refine s_X3_append e1 h8 hd x (fun F1 A1 f1 f2 => s_X7_feed e6 h1 h8 hd x (fun F2 A2 q1 q2 q3 q4 => ⟨f1, q1, q2, t + n, hd, f1, q3, fun k hk => ?_⟩))
    rw [f2 k, q4 k]
    by_cases c : t ≤ k ∧ k < t + n
    · rw [if_pos c, if_pos c]; exact ⟨rfl, feed_r _⟩
    · rw [if_neg c, if_neg c]; exact hb k (by omega)
  · unfold p_X7_feed
    rw [e6, nI_add]
    exact j1 (m := 8) c (by omega) rfl rfl (b1 ⟨fun q => absurd q d, fun _ => ⟨rfl, fun _ _ => rfl, fun _ _ => rfl, h⟩⟩)
/-! rows -/
theorem ix3 (i c : Nat) : nI i * (3 : Int32) + nI c = nI (3 * i + c) := by
  show nI i * nI 3 + nI c = _
  rw [pk_mul, nI_add, Nat.mul_comm]
theorem ix3' (i c : Nat) : (3 : Int32) * nI i + nI c = nI (3 * i + c) := by
  show nI 3 * nI i + nI c = _
  rw [pk_mul, nI_add]
theorem ix30 (i : Nat) : nI i * (3 : Int32) = nI (3 * i) := by
  show nI i * nI 3 = _
  rw [pk_mul, Nat.mul_comm]
theorem ix30' (i : Nat) : (3 : Int32) * nI i = nI (3 * i) := pk_mul 3 i
def pvA (s : tF) (o k : Nat) : Int32 := if k % 3 = 0 then daysS (k / 3 + 1) s (23 + 4 * o) else if k % 3 = 1 then nI (voteS (daysS (k / 3 + 1) s) o) else daysS (k / 3 + 1) s 3
theorem pvA_0 (s : tF) (o i : Nat) : pvA s o (3 * i) = daysS (i + 1) s (23 + 4 * o) := by
  unfold pvA; rw [if_pos (by omega), show 3 * i / 3 = i by omega]
theorem pvA_1 (s : tF) (o i : Nat) : pvA s o (3 * i + 1) = nI (voteS (daysS (i + 1) s) o) := by
  unfold pvA; rw [if_neg (by omega), if_pos (by omega), show (3 * i + 1) / 3 = i by omega]
theorem pvA_2 (s : tF) (o i : Nat) : pvA s o (3 * i + 2) = daysS (i + 1) s 3 := by
  unfold pvA; rw [if_neg (by omega), if_neg (by omega), show (3 * i + 2) / 3 = i by omega]
theorem pv_three {f f0 : tF} {s : tF} {o i : Nat} (hf : f = upd (upd (upd f0 (3 * i) (daysS (i + 1) s (23 + 4 * o))) (3 * i + 1) (nI (voteS (daysS (i + 1) s) o))) (3 * i + 2) (daysS (i + 1) s 3)) (h0 : ∀ k, k < 3 * i → f0 k = pvA s o k) : ∀ k, k < 3 * (i + 1) → f k = pvA s o k := by
  intro k hk
  rw [hf]
  by_cases c2 : k = 3 * i + 2
  · rw [c2, pk_us, pvA_2]
  by_cases c1 : k = 3 * i + 1
  · rw [c1, pk_un (by omega), pk_us, pvA_1]
  by_cases c0 : k = 3 * i
  · rw [c0, pk_un (by omega), pk_un (by omega), pk_us, pvA_0]
  rw [pk_un c2, pk_un c1, pk_un c0]; exact h0 k (by omega)
theorem j_prove {F Fn Ft fr : tF} {An At : tA} {FM : tF} {A : tA} (h : HZ Fn An A) (hR : IvR F fr FM A) (x y : Int32) : p_X6_prove F Fn An Ft At fr x y (fun r F' _ _ fr' => p_X7_prove FM A x y (fun r' FM' A' => r = r' ∧ (∀ k, k ≠ 9 → F' k = F k) ∧ (∀ k, k ≠ 15 → FM' k = FM k) ∧ (∀ k, k ≠ 0 → k ≠ 2 → k ≠ 12 → k ≠ 14 → A' k = A k) ∧ HZ Fn An A' ∧ IvR F' fr' FM' A')) := by
  obtain ⟨hr, ok, z0, z2, z3⟩ := id h
  have hn := ok.n.2
  unfold p_X6_prove
  by_cases c : inR x (nS (A 0))
  rotate_left
  · exact f0 hr ok c (a0 (by unfold p_X7_prove; exact o0 ok c (a0 ⟨rfl, fun _ _ => rfl, fun _ _ => rfl, fun _ _ _ _ _ => rfl, h, hR⟩)))
  refine f1 hr ok c (a1 (cl1 (m := 10) (by omega) (fun d => ?_) (fun d => by unfold p_X7_prove; exact o1 ok c (a1 (j0 (m := 10) d (by omega) rfl rfl (b0 ⟨rfl, fun _ _ => rfl, fun _ _ => rfl, fun _ _ _ _ _ => rfl, h, hR⟩))))))
  have CC : ∀ {K : Int32 → Prop}, K 1 → p_X7_isOne FM A x K := fun k => o1 ok c k
  obtain ⟨o, ho, rfl⟩ := id c
  obtain ⟨n, n1, n2, rfl⟩ := id d
  generalize hs : A 0 = s at *
  have X7 : ∀ fr', (∀ k, k < 3 * n → fr' k = pvA s o k) → p_X7_prove FM A (nI o) (nI n) (fun r' FM' A' => nI n = r' ∧ (∀ k, k ≠ 9 → upd F 9 (nI n) k = F k) ∧ (∀ k, k ≠ 15 → FM' k = FM k) ∧ (∀ k, k ≠ 0 → k ≠ 2 → k ≠ 12 → k ≠ 14 → A' k = A k) ∧ HZ Fn An A' ∧ IvR (upd F 9 (nI n)) fr' FM' A') := by
    intro fr' hfr
    unfold p_X7_prove
    refine CC (a1 (j1 (m := 10) d (by omega) rfl rfl (b1 ?_)))
    rw [hs]
    refine s_X7_copyRow z0 z2 ?_
    refine lq3 (p_X7_prove_L35 (nI o) (nI n) _) (fun i F' A' v => F' = FM ∧ v = nI i ∧ A' 0 = daysS i s ∧ A' 2 = s ∧ (∀ k, k ≠ 0 → k ≠ 2 → k ≠ 12 → k ≠ 14 → A' k = A k) ∧ ∀ k, k < 3 * i → A' 14 k = pvA s o k) n 0 (by omega) ?_ ?_ ⟨rfl, rfl, by rw [va_up_ne _ _ (by omega)]; exact hs, by rw [va_up_self], fun k _ b _ _ => va_up_ne _ _ b, fun k hk => absurd hk (by omega)⟩
    · rintro m F' A' v ⟨rfl, rfl, e, e2, t, b⟩
      rw [p_X7_prove_L35, e2, e]
      refine ⟨fun _ => s_X7_copyRow z0 (z0.days ok.n.2 _) ⟨rfl, fun k hk => pk_un hk, fun k hk => pk_un hk, fun k a b c d => by rw [va_up_ne _ _ a]; exact t k a b c d, ⟨?_, ?_, ?_, ?_, ?_⟩, n, n2, pk_us, pk_us, fun k hk => ?_⟩, fun q => absurd (nI_le (Nat.le_refl _) (by omega)) q⟩
      · rw [va_up_self]; exact hr
      · rw [va_up_self]; exact ok
      · rw [va_up_self]; exact z0
      · rw [va_up_ne _ _ (by omega), e2]; exact z0
      · rw [va_up_ne _ _ (by omega), t 3 (by omega) (by omega) (by omega) (by omega)]; exact z3
      · rw [va_up_ne _ _ (by omega), b k hk]; exact hfr k hk
    · rintro m i F' A' v g1 g2 ⟨rfl, rfl, e, e2, t, b⟩ ih
      rw [p_X7_prove_L35]
      refine ⟨fun q => absurd q (nI_ge g2 (by omega)), fun _ => s_X7_goesOn (by rw [e]; exact daysS_ok ok i) (fun A2 q2 t2 => ?_)⟩
      have q2' : A2 0 = daysS (i + 1) s := by rw [q2, e]; rfl
      refine s_X7_its (c := 2) (k := 23 + 4 * o) (by omega) (by omega) (by omega) ?_
      have i1 : (3 : Int32) * nI i + (1 : Int32) = nI (3 * i + 1) := ix3' i 1
      have i2 : (3 : Int32) * nI i + (2 : Int32) = nI (3 * i + 2) := ix3' i 2
      rw [i1, i2, ix30', nI_clamp (by omega), nI_clamp (by omega), nI_clamp (by omega)]
      refine ⟨vp_in_nI (by omega) (by omega), fun f1 h1 => s_X7_voteOf (by omega) ⟨vp_in_nI (by omega) (by omega), fun f2 h2 => ⟨vp_in_nI (by omega) (by omega), fun f3 h3 y hy => ih _ _ _ ⟨rfl, by rw [hy]; exact nI_1 _, ?_, ?_, fun k a b c d => ?_, ?_⟩⟩⟩⟩
      · rw [va_up_ne _ _ (by omega)]; exact q2'
      · rw [va_up_ne _ _ (by omega), t2 2 (by omega) (by omega)]; exact e2
      · rw [va_up_ne _ _ d, t2 k a c]; exact t k a b c d
      · rw [va_up_self]
        refine pv_three (f0 := A2 14) (i := i) ?_ (fun k hk => by rw [t2 14 (by omega) (by omega)]; exact b k hk)
        rw [h3, h2, h1, va_up_ne _ _ (by omega), q2']
  refine s_X2_copyFrom hr ok (fun F1 A1 r1 => ?_)
  refine lq4 (p_X6_prove_L34 F Fn An (nI o) (nI n) _) (fun i F' A' f v => v = nI i ∧ HR F' A' (daysS i s) ∧ ∀ k, k < 3 * i → f k = pvA s o k) n 0 (by omega) ?_ ?_ ⟨rfl, r1, fun k hk => absurd hk (by omega)⟩
  · rintro m F' A' f v ⟨rfl, r2, b⟩
    rw [p_X6_prove_L34]
    exact ⟨fun _ => X7 f b, fun q => absurd (nI_le (Nat.le_refl _) (by omega)) q⟩
  · rintro m i F' A' f v g1 g2 ⟨rfl, r2, b⟩ ih
    rw [p_X6_prove_L34]
    refine ⟨fun q => absurd q (nI_ge g2 (by omega)), fun _ => s_X2_passDay r2 (daysS_ok ok i) (fun F3 A3 r3 => ?_)⟩
    have r3' : HR F3 A3 (daysS (i + 1) s) := r3
    have ho3 : o < nS (daysS (i + 1) s) := by rw [daysS_n]; exact ho
    have i1 : nI i * (3 : Int32) + (1 : Int32) = nI (3 * i + 1) := ix3 i 1
    have i2 : nI i * (3 : Int32) + (2 : Int32) = nI (3 * i + 2) := ix3 i 2
    rw [i1, i2, ix30, nI_clamp (by omega), nI_clamp (by omega), nI_clamp (by omega), nI_clamp (by omega)]
    refine ⟨vp_in_nI (by omega) (by omega), vp_in_nI (by omega) (by omega), fun f1 h1 => s_X2_voteOf r3' (daysS_ok ok _) ho3 ⟨vp_in_nI (by omega) (by omega), fun f2 h2 => ⟨vp_in_nI (by omega) (by omega), fun f3 h3 y hy => ih _ _ _ _ ⟨by rw [hy]; exact nI_1 _, r3', ?_⟩⟩⟩⟩
    refine pv_three (f0 := f) (i := i) ?_ b
    rw [h3, h2, h1, (r3'.2.2.2.2 o ho3).2.2.1, r3'.1.2.1]
theorem s_X7_inN {x : Int32} {r : Nat} (hr : r < 2 ^ 30) {K : Int32 → Prop} (h1 : inR x r → K 1) (h0 : ¬ inR x r → K 0) : p_X7_isIn x.toInt64 (0 : Int64) ((nI r - (1 : Int32)).toInt64) K := by
  have e : inR x r ↔ ((0 : Int32) ≤ x ∧ x ≤ nI r - 1) := by
    have hs : (nI r - 1).toInt = (r : Int) - 1 := pk_sub_toInt (a := r) (b := 1) hr (by omega)
    constructor
    · rintro ⟨j, hj, rfl⟩
      refine ⟨nI_pos' (by omega), ?_⟩
      rw [Int32.le_iff_toInt_le, hs, nI_toInt (by omega)]; omega
    · rintro ⟨p, q⟩
      obtain ⟨j, hj, rfl⟩ := nI_of (Int32.not_lt.mpr p)
      rw [Int32.le_iff_toInt_le, hs, nI_toInt hj] at q
      exact ⟨j, by omega, rfl⟩
  exact s_X7_isIn (lo := 0) (hi := nI r - 1) rfl rfl (fun a b => h1 (e.mpr ⟨a, b⟩)) (fun q => h0 (fun w => q (e.mp w)))
theorem s_X7_isRow {F : tF} {A : tA} {r : Nat} (hr : r ≤ 10) (e : F 15 = nI r) {x y : Int32} {K : Int32 → Prop} (h1 : inR x r → inR y 3 → K 1) (h0 : ¬ (inR x r ∧ inR y 3) → K 0) : p_X7_isRow F A x y K := by
  unfold p_X7_isRow
  rw [e]
  refine s_X7_inN (by omega) (fun q => a1 ?_) (fun q => a0 (h0 (fun w => q w.1)))
  exact s_X7_in0 (m := 2) (by omega) rfl rfl (fun w => a1 (h1 q w)) (fun w => a0 (h0 (fun v => w v.2)))
theorem j_row {F fr : tF} {FM : tF} {A : tA} (hR : IvR F fr FM A) (x y : Int32) : p_X6_row F fr x y (fun r => p_X7_row FM A x y (fun r' => r = r')) := by
  obtain ⟨r, hr, e9, e15, b⟩ := hR
  unfold p_X6_row
  rw [e9]
  by_cases c : inR x r
  rotate_left
  · exact w0 c (by omega) (a0 (by unfold p_X7_row; exact s_X7_isRow hr e15 (fun q _ => absurd q c) (fun _ => a0 rfl)))
  refine w1 c (by omega) (a1 ?_)
  by_cases d : inR y 3
  rotate_left
  · exact w0 (m := 3) d (by omega) (a0 (by unfold p_X7_row; exact s_X7_isRow hr e15 (fun _ q => absurd q d) (fun _ => a0 rfl)))
  refine w1 (m := 3) d (by omega) (a1 ?_)
  obtain ⟨i, hi, rfl⟩ := id c
  obtain ⟨j, hj, rfl⟩ := id d
  rw [ix3, nI_clamp (by omega)]
  refine ⟨vp_in_nI (by omega) (by omega), ?_⟩
  unfold p_X7_row
  refine s_X7_isRow hr e15 (fun _ _ => a1 ?_) (fun q => absurd ⟨c, d⟩ q)
  rw [ix3', nI_clamp (by omega)]
  exact ⟨vp_in_nI (by omega) (by omega), b _ (by omega)⟩
theorem j_alterRow {F fr : tF} {FM : tF} {A : tA} (hR : IvR F fr FM A) (x y v : Int32) : p_X6_alterRow F fr x y v (fun r fr' => p_X7_alterRow FM A x y v (fun r' F' A' => r = r' ∧ F' = FM ∧ (∀ k, k ≠ 14 → A' k = A k) ∧ IvR F fr' FM A')) := by
  obtain ⟨r, hr, e9, e15, b⟩ := id hR
  unfold p_X6_alterRow
  rw [e9]
  by_cases c : inR x r
  rotate_left
  · exact w0 c (by omega) (a0 (by unfold p_X7_alterRow; exact s_X7_isRow hr e15 (fun q _ => absurd q c) (fun _ => b0 ⟨rfl, rfl, fun _ _ => rfl, hR⟩)))
  refine w1 c (by omega) (a1 ?_)
  by_cases d : inR y 3
  rotate_left
  · exact w0 (m := 3) d (by omega) (b0 (by unfold p_X7_alterRow; exact s_X7_isRow hr e15 (fun _ q => absurd q d) (fun _ => b0 ⟨rfl, rfl, fun _ _ => rfl, hR⟩)))
  refine w1 (m := 3) d (by omega) (b1 ?_)
  obtain ⟨i, hi, rfl⟩ := id c
  obtain ⟨j, hj, rfl⟩ := id d
  have iv : vp_in (nI (3 * i + j)) 30 := vp_in_nI (by omega) (by omega)
  rw [ix3, nI_clamp (by omega)]
  refine ⟨iv, fun y1 h1 => ⟨iv, fun f1 h2 => ?_⟩⟩
  unfold p_X7_alterRow
  refine s_X7_isRow hr e15 (fun _ _ => b1 ?_) (fun q => absurd ⟨c, d⟩ q)
  rw [ix3', nI_clamp (by omega)]
  refine ⟨iv, fun y2 h3 => ⟨iv, fun f2 h4 => ⟨by rw [h1, h3]; exact b _ (by omega), rfl, fun k hk => va_up_ne _ _ hk, r, hr, e9, e15, fun k hk => ?_⟩⟩⟩
  rw [va_up_self, h2, h4]
  by_cases w : k = 3 * i + j
  · rw [w, pk_us, pk_us]
  · rw [pk_un w, pk_un w]; exact b k hk
def jdP (s f : tF) (o i : Nat) : Prop := f (3 * i) = daysS (i + 1) s (23 + 4 * o) ∧ f (3 * i + 1) = nI (voteS (daysS (i + 1) s) o) ∧ f (3 * i + 2) = daysS (i + 1) s 3
def jdU (s f : tF) (o : Nat) [∀ i, Decidable (jdP s f o i)] : Nat → Nat → Int32
  | 0, _ => 0
  | r + 1, i => if jdP s f o i then jdU s f o r (i + 1) else nI (i + 1)
theorem jdU_y {s f : tF} {o : Nat} [∀ i, Decidable (jdP s f o i)] {N i : Nat} (h : i < N) (c : jdP s f o i) : jdU s f o (N - i) i = jdU s f o (N - (i + 1)) (i + 1) := by
  rw [show N - i = (N - (i + 1)) + 1 by omega, jdU, if_pos c]
theorem jdU_n {s f : tF} {o : Nat} [∀ i, Decidable (jdP s f o i)] {N i : Nat} (h : i < N) (c : ¬ jdP s f o i) : jdU s f o (N - i) i = nI (i + 1) := by
  rw [show N - i = (N - (i + 1)) + 1 by omega, jdU, if_neg c]
theorem j_judge {F Fn Ft fr : tF} {An At : tA} {FM : tF} {A : tA} (h : HZ Fn An A) (hR : IvR F fr FM A) (x : Int32) : p_X6_judge F Fn An Ft At fr x (fun r _ _ => p_X7_judge FM A x (Rn FM A r Fn An)) := by
  obtain ⟨hr, ok, z0, z2, z3⟩ := id h
  obtain ⟨r, hr10, e9, e15, b⟩ := id hR
  have hn := ok.n.2
  unfold p_X6_judge
  by_cases c : inR x (nS (A 0))
  rotate_left
  · exact f0 hr ok c (b0 (by unfold p_X7_judge; exact o0 ok c (b0 h.rn)))
  refine f1 hr ok c (b1 ?_)
  have CC : ∀ {K : Int32 → Prop}, K 1 → p_X7_isOne FM A x K := fun k => o1 ok c k
  obtain ⟨o, ho, rfl⟩ := id c
  generalize hs : A 0 = s at *
  have dj : ∀ i, Decidable (jdP s fr o i) := fun i => by unfold jdP; exact inferInstance
  have X7 : p_X7_judge FM A (nI o) (Rn FM A (jdU s fr o r 0) Fn An) := by
    unfold p_X7_judge
    refine CC (b1 ?_)
    rw [hs]
    refine s_X7_copyRow z0 z2 ?_
    have J : ∀ A' v z, (∀ k, k ≠ 0 → k ≠ 2 → k ≠ 12 → A' k = A k) → A' 2 = s → Z53 (A' 0) → (z = 0 → v = jdU s fr o r 0) → (¬ z = 0 → 0 = jdU s fr o r 0) → p_X7_judge_J107 FM A' (Rn FM A (jdU s fr o r 0) Fn An) v z := by
      intro A' v z t e2 z' h1 h2
      unfold p_X7_judge_J107
      rw [e2]
      have kk : K2 A (va_up A' 0 s) := fun k a b => by
        by_cases k0 : k = 0
        · subst k0; rw [va_up_self, hs]
        · rw [va_up_ne _ _ k0]; exact t k k0 a b
      have hz := h.k2 kk (by rw [va_up_ne _ _ (by omega), e2]; exact z0)
      exact s_X7_copyRow z0 z' ⟨fun q => ⟨(h1 q).symm, rfl, Kp.ofK2 kk, hz⟩, fun q => ⟨(h2 q).symm, rfl, Kp.ofK2 kk, hz⟩⟩
    refine lq4 (p_X7_judge_L25 (nI o) (Rn FM A (jdU s fr o r 0) Fn An)) (fun i F' A' v z => F' = FM ∧ v = nI i ∧ (∀ k, k ≠ 0 → k ≠ 2 → k ≠ 12 → A' k = A k) ∧ A' 2 = s ∧ Z53 (A' 0) ∧ ((z = 1 ∧ A' 0 = daysS i s ∧ jdU s fr o (r - i) i = jdU s fr o r 0) ∨ (z = 0 ∧ nI i = jdU s fr o r 0))) r 0 (by omega) ?_ ?_ ⟨rfl, rfl, fun k _ b _ => va_up_ne _ _ b, by rw [va_up_self], by rw [va_up_ne _ _ (by omega), hs]; exact z0, Or.inl ⟨rfl, by rw [va_up_ne _ _ (by omega)]; exact hs, rfl⟩⟩
    · rintro m F' A' v z ⟨rfl, rfl, t, e2, z', u⟩
      rw [p_X7_judge_L25, e15]
      refine ⟨fun _ => J A' _ _ t e2 z' (fun q => ?_) (fun q => ?_), fun q => absurd (nI_le (Nat.le_refl _) (by omega)) q⟩
      · rcases u with ⟨u1, _, _⟩ | ⟨_, u2⟩
        · rw [u1] at q; exact absurd q (by decide)
        · exact u2
      · rcases u with ⟨_, _, u3⟩ | ⟨u1, _⟩
        · rw [Nat.sub_self] at u3; exact u3
        · exact absurd u1 q
    · rintro m i F' A' v z g1 g2 ⟨rfl, rfl, t, e2, z', u⟩ ih
      rw [p_X7_judge_L25, e15]
      refine ⟨fun q => absurd q (nI_ge g2 (by omega)), fun _ => ?_⟩
      rcases u with ⟨u1, ed, u3⟩ | ⟨u1, u2⟩
      · refine ⟨fun q => absurd q (by rw [u1]; decide), fun _ => s_X7_goesOn (by rw [ed]; exact daysS_ok ok i) (fun A2 q2 t2 => ?_)⟩
        have q2' : A2 0 = daysS (i + 1) s := by rw [q2, ed]; rfl
        have t3 : ∀ k, k ≠ 0 → k ≠ 2 → k ≠ 12 → A2 k = A k := fun k a b c => by rw [t2 k a c]; exact t k a b c
        have e3 : A2 2 = s := by rw [t2 2 (by omega) (by omega)]; exact e2
        have z3' : Z53 (A2 0) := by rw [q2']; exact z0.days ok.n.2 _
        have i1 : (3 : Int32) * nI i + (1 : Int32) = nI (3 * i + 1) := ix3' i 1
        have i2 : (3 : Int32) * nI i + (2 : Int32) = nI (3 * i + 2) := ix3' i 2
        have b14 : ∀ k, k < 3 * r → A2 14 k = fr k := fun k hk => by rw [t3 14 (by omega) (by omega) (by omega)]; exact (b k hk).symm
        have N : ¬ jdP s fr o i → p_X7_judge_J99 F' A2 (p_X7_judge_L25 (nI o) (Rn F' A (jdU s fr o r 0) Fn An) m) (Rn F' A (jdU s fr o r 0) Fn An) (nI o) (nI i) := by
          intro q
          unfold p_X7_judge_J99 p_X7_judge_J100
          exact fun y hy => ih _ _ _ _ ⟨rfl, by rw [hy]; exact nI_1 _, t3, e3, z3', Or.inr ⟨rfl, by rw [← u3]; exact (jdU_n g2 q).symm⟩⟩
        rw [i1, i2, ix30', nI_clamp (by omega), nI_clamp (by omega), nI_clamp (by omega), b14 _ (by omega), b14 _ (by omega), b14 _ (by omega), q2']
        refine ⟨vp_in_nI (by omega) (by omega), s_X7_its (c := 2) (k := 23 + 4 * o) (by omega) (by omega) (by omega) ?_⟩
        rw [q2']
        refine ⟨fun q => N (fun w => q w.1), fun w1 => ⟨vp_in_nI (by omega) (by omega), s_X7_voteOf (by omega) ?_⟩⟩
        rw [q2']
        refine ⟨fun q => N (fun w => q w.2.1), fun w2 => ⟨vp_in_nI (by omega) (by omega), fun q => N (fun w => q w.2.2), fun w3 => ?_⟩⟩
        unfold p_X7_judge_J100
        exact fun y hy => ih _ _ _ _ ⟨rfl, by rw [hy]; exact nI_1 _, t3, e3, z3', Or.inl ⟨rfl, q2', by rw [← u3]; exact (jdU_y g2 ⟨w1, w2, w3⟩).symm⟩⟩
      · exact ⟨fun _ => J A' _ _ t e2 z' (fun _ => u2) (fun q => absurd u1 q), fun q => absurd u1 q⟩
  refine s_X2_copyFrom hr ok (fun F1 A1 r1 => ?_)
  refine lq3 (p_X6_judge_L23 F Fn An fr (nI o) _) (fun i F' A' v => v = nI i ∧ HR F' A' (daysS i s) ∧ jdU s fr o (r - i) i = jdU s fr o r 0) r 0 (by omega) ?_ ?_ ⟨rfl, r1, rfl⟩
  · rintro m F' A' v ⟨rfl, r2, u⟩
    rw [p_X6_judge_L23, e9]
    rw [Nat.sub_self] at u
    have u' : (0 : Int32) = jdU s fr o r 0 := u
    refine ⟨fun _ => by rw [u']; exact X7, fun q => absurd (nI_le (Nat.le_refl _) (by omega)) q⟩
  · rintro m i F' A' v g1 g2 ⟨rfl, r2, u⟩ ih
    rw [p_X6_judge_L23, e9]
    refine ⟨fun q => absurd q (nI_ge g2 (by omega)), fun _ => s_X2_passDay r2 (daysS_ok ok i) (fun F3 A3 r3 => ?_)⟩
    have r3' : HR F3 A3 (daysS (i + 1) s) := r3
    have ho3 : o < nS (daysS (i + 1) s) := by rw [daysS_n]; exact ho
    have i1 : nI i * (3 : Int32) + (1 : Int32) = nI (3 * i + 1) := ix3 i 1
    have i2 : nI i * (3 : Int32) + (2 : Int32) = nI (3 * i + 2) := ix3 i 2
    have N : ¬ jdP s fr o i → p_X7_judge FM A (nI o) (Rn FM A (nI i + 1) Fn An) := by
      intro q
      have u' : nI i + 1 = jdU s fr o r 0 := by rw [← u, jdU_n g2 q]; exact nI_1 _
      rw [u']; exact X7
    rw [i1, i2, ix30, nI_clamp (by omega), nI_clamp (by omega), nI_clamp (by omega), nI_clamp (by omega), (r3'.2.2.2.2 o ho3).2.2.1, r3'.1.2.1]
    refine ⟨vp_in_nI (by omega) (by omega), vp_in_nI (by omega) (by omega), fun q => N (fun w => q w.1), fun w1 => ⟨vp_in_nI (by omega) (by omega), s_X2_voteOf r3' (daysS_ok ok _) ho3 ⟨fun q => N (fun w => q w.2.1), fun w2 => ⟨vp_in_nI (by omega) (by omega), fun w3 y hy => ih _ _ _ ⟨by rw [hy]; exact nI_1 _, r3', by rw [← u]; exact (jdU_y g2 ⟨w1, w2, w3⟩).symm⟩, fun q => N (fun w => q w.2.2)⟩⟩⟩⟩
theorem j_trace {F Ff : tF} {Af : tA} {FM : tF} {A : tA} (hF : IvF Ff Af FM A) (x : Int32) : p_X6_trace F Ff Af x (fun r => p_X7_trace FM A x (fun r' => r = r')) := by
  obtain ⟨r, hr, e1, e23, b⟩ := hF
  unfold p_X6_trace
  rw [e1]
  by_cases c : inR x r
  rotate_left
  · exact w0 c (by omega) (a0 (by unfold p_X7_trace; rw [e23]; exact s_X7_inN (by omega) (fun q => absurd q c) (fun _ => a0 rfl)))
  refine w1 c (by omega) (a1 ?_)
  unfold p_X7_trace
  rw [e23]
  obtain ⟨i, hi, rfl⟩ := id c
  rw [nI_clamp (by omega)]
  exact ⟨vp_in_nI (by omega) (by omega), s_X7_inN (by omega) (fun _ => a1 ⟨vp_in_nI (by omega) (by omega), b i hi⟩) (fun q => absurd c q)⟩
/-! many -/
theorem or_bit : ∀ v, v < 256 → ∀ k, k < 8 → nI v ||| ((1 : Int32) <<< (nI k &&& 31)) = nI (v ||| 2 ^ k) ∧ (v ||| 2 ^ k) < 256 := by decide +kernel
theorem orU_n (c : Nat → Prop) [∀ k, Decidable (c k)] : ∀ n, n ≤ 8 → ∃ v, v < 256 ∧ orU c n = nI v
  | 0, _ => ⟨0, by omega, rfl⟩
  | n + 1, h => by
    obtain ⟨v, hv, e⟩ := orU_n c n (by omega)
    rw [orU]
    split
    · obtain ⟨q1, q2⟩ := or_bit v hv n (by omega)
      exact ⟨_, q2, by rw [e, q1]⟩
    · exact ⟨v, hv, e⟩
theorem count_n (s : tF) (o : Nat) : ∃ c : Nat, c ≤ 4 ∧ countS s o = nI c := by
  have hh : ∃ c : Nat, c ≤ 2 ∧ hoggS s o = nI c := by
    unfold hoggS; split
    · exact ⟨2, by omega, rfl⟩
    · exact ⟨1, by omega, rfl⟩
  obtain ⟨c, hc, e⟩ := hh
  unfold countS
  split
  · exact ⟨c, by omega, e⟩
  · split
    · exact ⟨0, by omega, rfl⟩
    · split
      · exact ⟨2 * c, by omega, by rw [e]; exact pk_mul 2 c⟩
      · split
        · exact ⟨2, by omega, rfl⟩
        · split
          · split
            · exact ⟨3, by omega, rfl⟩
            · exact ⟨1, by omega, rfl⟩
          · exact ⟨1, by omega, rfl⟩
theorem tally_n {b : tF} {slot : Nat → Nat} {w : Nat → Int32} (hb : ∀ p, p < 6 → ∃ m : Nat, m ≤ 9 ∧ b p = nI m) (hw : ∀ o, ∃ c : Nat, c ≤ 4 ∧ w o = nI c) (hs : ∀ o, slot o < 6) : ∀ n p, p < 6 → ∃ m : Nat, m ≤ 9 + 4 * n ∧ tallyU b slot w n p = nI m
  | 0, p, hp => hb p hp
  | n + 1, p, hp => by
    have et : tallyU b slot w (n + 1) p = (if p = slot n then tallyU b slot w n (slot n) + w n else tallyU b slot w n p) := rfl
    rw [et]
    split
    · obtain ⟨m, hm, e⟩ := tally_n hb hw hs n (slot n) (hs n)
      obtain ⟨c, hc, ec⟩ := hw n
      exact ⟨m + c, by omega, by rw [e, ec]; exact nI_add _ _⟩
    · obtain ⟨m, hm, e⟩ := tally_n hb hw hs n p hp
      exact ⟨m, by omega, e⟩
theorem pol_n {s : tF} (ok : OkS s) {p : Nat} (hp : p < 6) : ∃ m : Nat, m ≤ 41 ∧ polS s p = nI m := by
  have hn := ok.n.2
  obtain ⟨m, hm, e⟩ := tally_n (b := baseS s) (slot := voteS s) (w := countS s) (fun p _ => by
    unfold baseS; split
    · obtain ⟨v, hv, e⟩ := ok.2.2.2.1 1 (by omega)
      exact ⟨v, hv, e⟩
    · exact ⟨0, by omega, rfl⟩) (count_n s) (voteS_lt s) (nS s) p hp
  exact ⟨m, by omega, e⟩
theorem s_X7_placesWithVotes {F : tF} {A : tA} (ok : OkS (A 0)) {K : Int32 → tF → tA → Prop} (hk : ∀ A', (∀ k, k ≠ 12 → A' k = A k) → K (placesS (A 0)) F A') : p_X7_placesWithVotes F A K := by
  unfold p_X7_placesWithVotes
  refine s_X7_polls0 ok (fun A1 t b => ?_)
  refine lq2 (p_X7_placesWithVotes_L11 F A1 K) (fun i v x => x = nI i ∧ v = cntU (fun p => ¬ polS (A 0) p = 0) i) 6 0 (by omega) ?_ ?_ ⟨rfl, rfl⟩
  · rintro n v x ⟨rfl, rfl⟩
    rw [p_X7_placesWithVotes_L11]
    exact ⟨fun _ => hk A1 t, fun c => absurd (nI_le (a := 6) (b := 6) (by omega) (by omega)) c⟩
  · rintro n i v x h1 h6 ⟨rfl, rfl⟩ ih
    obtain ⟨m, hm, e⟩ := pol_n ok h6
    rw [p_X7_placesWithVotes_L11, nI_clamp (by omega), b i h6]
    unfold p_X7_placesWithVotes_J32
    refine ⟨fun c => absurd c (nI_ge (a := i) (b := 6) h6 (by omega)), fun _ => ⟨vp_in_nI h6 (by omega), fun c y hy z hz => ih _ _ ⟨by rw [hz]; exact nI_1 _, ?_⟩, fun c y hy z hz => ih _ _ ⟨by rw [hz]; exact nI_1 _, ?_⟩⟩⟩
    · have e0 : polS (A 0) i = 0 := by
        rw [e] at c ⊢
        have := (nI_leI (a := m) (b := 0) (by omega) (by omega)).mp c
        rw [show m = 0 by omega]; rfl
      rw [cntU, if_neg (fun q => q e0), hy]; exact Int32.add_zero _
    · have e0 : ¬ polS (A 0) i = 0 := fun q => c (by rw [q]; decide)
      rw [cntU, if_pos e0, hy]
theorem s_X7_heardOnes {F : tF} {A : tA} (ok : OkS (A 0)) {K : Int32 → Prop} (hk : K (heardS (A 0))) : p_X7_heardOnes F A K := by
  have hn := ok.n
  unfold p_X7_heardOnes
  refine lq2 (p_X7_heardOnes_L4 F A K) (fun i v x => x = nI i ∧ v = cntU (fun o => ¬ countS (A 0) o = 0) i) (nS (A 0)) 0 (by omega) ?_ ?_ ⟨rfl, rfl⟩
  · rintro n v x ⟨rfl, rfl⟩
    rw [p_X7_heardOnes_L4, hn.1]
    exact ⟨fun _ => hk, fun c => absurd (nI_le (Nat.le_refl _) (by omega)) c⟩
  · rintro n i v x h1 h6 ⟨rfl, rfl⟩ ih
    rw [p_X7_heardOnes_L4, hn.1]
    unfold p_X7_heardOnes_J28
    refine ⟨fun c => absurd c (nI_ge h6 (by omega)), fun _ => s_X7_counts ok (by omega) ⟨fun c y hy z hz => ih _ _ ⟨by rw [hz]; exact nI_1 _, ?_⟩, fun c y hy z hz => ih _ _ ⟨by rw [hz]; exact nI_1 _, ?_⟩⟩⟩
    · rw [cntU, if_pos c, hy]
    · rw [cntU, if_neg (fun q => q c), hy]; exact Int32.add_zero _
theorem j_many {F Fn Fp Ff fr : tF} {An Ap Af : tA} {FM : tF} {A : tA} (h : HZ Fn An A) (hR : IvR F fr FM A) (hT : IvT Fp Ap FM A) (hF : IvF Ff Af FM A) (x : Int32) : p_X6_many F Fn An Fp Ap Ff Af x (fun r Fn' An' => p_X7_many FM A x (Rn FM A r Fn' An')) := by
  obtain ⟨hr, ok, _⟩ := id h
  obtain ⟨r, hr10, e9, e15, _⟩ := hR
  obtain ⟨t, ht, ep, e6, _⟩ := hT
  obtain ⟨q, hq, ef, e23, _⟩ := hF
  have na : ∀ (a b : Nat) {P : Prop}, a < 9 → b < 9 → a ≠ b → nI a = nI b → P := fun a b _ ha hb hab q => absurd ((nI_eq (by omega) (by omega)).mp q) hab
  unfold p_X6_many
  refine ⟨fun e => ?_, fun e => ?_, fun e => ?_, fun e => ?_, fun e => ?_, fun e => ?_, fun e => ?_, fun e0 e1 e2 e3 e4 e5 e6 => ?_⟩
  · subst e; unfold p_X7_many
    exact ⟨fun _ => by rw [hr.1.1]; exact h.rn, na 0 1 (by omega) (by omega) (by omega), na 0 2 (by omega) (by omega) (by omega), na 0 3 (by omega) (by omega) (by omega), na 0 4 (by omega) (by omega) (by omega), na 0 5 (by omega) (by omega) (by omega), na 0 6 (by omega) (by omega) (by omega), fun q => absurd rfl q⟩
  · subst e
    refine s_X2_placesWithVotes hr ok (fun A' t => ?_)
    unfold p_X7_many
    exact ⟨na 1 0 (by omega) (by omega) (by omega), fun _ => s_X7_placesWithVotes ok (fun A2 t2 => ⟨rfl, rfl, Kp.of12 t2, h.t7 t t2⟩), na 1 2 (by omega) (by omega) (by omega), na 1 3 (by omega) (by omega) (by omega), na 1 4 (by omega) (by omega) (by omega), na 1 5 (by omega) (by omega) (by omega), na 1 6 (by omega) (by omega) (by omega), fun _ q => absurd rfl q⟩
  · subst e
    refine s_X2_onesThatCount hr ok ?_
    unfold p_X7_many
    exact ⟨na 2 0 (by omega) (by omega) (by omega), na 2 1 (by omega) (by omega) (by omega), fun _ => s_X7_heardOnes ok h.rn, na 2 3 (by omega) (by omega) (by omega), na 2 4 (by omega) (by omega) (by omega), na 2 5 (by omega) (by omega) (by omega), na 2 6 (by omega) (by omega) (by omega), fun _ _ q => absurd rfl q⟩
  · subst e
    refine s_X2_scaredOnes hr ok ?_
    obtain ⟨v, hv, ev⟩ := orU_n (fun o => A 0 (23 + 4 * o) = 9) (nS (A 0)) ok.n.2
    have ev : scaredS (A 0) = nI v := ev
    rw [ev]
    refine s_J6_bitCount hv ?_
    unfold p_X7_many
    exact ⟨na 3 0 (by omega) (by omega) (by omega), na 3 1 (by omega) (by omega) (by omega), na 3 2 (by omega) (by omega) (by omega), fun _ => s_X7_scaredOnes ok (by rw [ev]; exact s_X7_size hv h.rn), na 3 4 (by omega) (by omega) (by omega), na 3 5 (by omega) (by omega) (by omega), na 3 6 (by omega) (by omega) (by omega), fun _ _ _ q => absurd rfl q⟩
  · subst e; unfold p_X7_many
    exact ⟨na 4 0 (by omega) (by omega) (by omega), na 4 1 (by omega) (by omega) (by omega), na 4 2 (by omega) (by omega) (by omega), na 4 3 (by omega) (by omega) (by omega), fun _ => by rw [e9, e15]; exact h.rn, na 4 5 (by omega) (by omega) (by omega), na 4 6 (by omega) (by omega) (by omega), fun _ _ _ _ q => absurd rfl q⟩
  · subst e; unfold p_X7_many
    exact ⟨na 5 0 (by omega) (by omega) (by omega), na 5 1 (by omega) (by omega) (by omega), na 5 2 (by omega) (by omega) (by omega), na 5 3 (by omega) (by omega) (by omega), na 5 4 (by omega) (by omega) (by omega), fun _ => by rw [ep, e6]; exact h.rn, na 5 6 (by omega) (by omega) (by omega), fun _ _ _ _ _ q => absurd rfl q⟩
  · subst e; unfold p_X7_many
    exact ⟨na 6 0 (by omega) (by omega) (by omega), na 6 1 (by omega) (by omega) (by omega), na 6 2 (by omega) (by omega) (by omega), na 6 3 (by omega) (by omega) (by omega), na 6 4 (by omega) (by omega) (by omega), na 6 5 (by omega) (by omega) (by omega), fun _ => by rw [ef, e23]; exact h.rn, fun _ _ _ _ _ _ q => absurd rfl q⟩
  · unfold p_X7_many
    exact ⟨fun q => absurd q e0, fun q => absurd q e1, fun q => absurd q e2, fun q => absurd q e3, fun q => absurd q e4, fun q => absurd q e5, fun q => absurd q e6, fun _ _ _ _ _ _ _ => h.rn⟩
/-! keep, again -/
theorem s_X7_keep {F : tF} {A : tA} (z0 : Z53 (A 0)) (z1 : Z53 (A 1)) {K : Int32 → tF → tA → Prop} (hk : ∀ A', (∀ k, k ≠ 1 → A' k = A k) → A' 1 = A 0 → K 1 (upd F 4 1) A') : p_X7_keep F A K := by
  unfold p_X7_keep
  refine lq3 (p_X7_keep_L2 K) (fun i F' A' x => F' = F ∧ x = nI i ∧ (∀ k, k ≠ 1 → A' k = A k) ∧ Z53 (A' 1) ∧ ∀ k, k < i → A' 1 k = A 0 k) 53 0 (by omega) ?_ ?_ ⟨rfl, rfl, fun _ _ => rfl, z1, fun k hk => absurd hk (by omega)⟩
  · rintro n F' A' x ⟨rfl, rfl, t, z, b⟩
    rw [p_X7_keep_L2]
    refine ⟨fun _ => hk A' t ?_, fun c => absurd (nI_le (a := 53) (b := 53) (by omega) (by omega)) c⟩
    funext k
    rcases Nat.lt_or_ge k 53 with c | c
    · exact b k c
    · rw [z k c, z0 k c]
  · rintro n i F' A' x h1 h6 ⟨rfl, rfl, t, z, b⟩ ih
    rw [p_X7_keep_L2, nI_clamp (by omega)]
    have ii : vp_in (nI i) 53 := vp_in_nI h6 (by omega)
    refine ⟨fun c => absurd c (nI_ge (a := i) (b := 53) h6 (by omega)), fun _ => ⟨ii, ii, fun f hf y hy => ih _ _ _ ⟨rfl, by rw [hy]; exact nI_1 _, fun k hk => by rw [va_up_ne _ _ hk]; exact t k hk, ?_, fun k hk => ?_⟩⟩⟩
    · rw [va_up_self, hf]; exact z.up h6
    · rw [va_up_self, hf, t 0 (by omega)]
      by_cases w : k = i
      · rw [w, pk_us]
      · rw [pk_un w]; exact b k (by omega)
theorem s_X7_again {F : tF} {A : tA} (z0 : Z53 (A 0)) (z1 : Z53 (A 1)) (h4 : ¬ F 4 = 0) {K : Int32 → tF → tA → Prop} (hk : ∀ A', (∀ k, k ≠ 0 → A' k = A k) → A' 0 = A 1 → K (A 1 0) F A') : p_X7_again F A K := by
  unfold p_X7_again
  refine ⟨fun _ => ?_, fun q => absurd q h4⟩
  refine lq3 (p_X7_again_L12 K) (fun i F' A' x => F' = F ∧ x = nI i ∧ (∀ k, k ≠ 0 → A' k = A k) ∧ Z53 (A' 0) ∧ ∀ k, k < i → A' 0 k = A 1 k) 53 0 (by omega) ?_ ?_ ⟨rfl, rfl, fun _ _ => rfl, z0, fun k hk => absurd hk (by omega)⟩
  · rintro n F' A' x ⟨rfl, rfl, t, z, b⟩
    rw [p_X7_again_L12]
    have e : A' 0 = A 1 := by
      funext k
      rcases Nat.lt_or_ge k 53 with c | c
      · exact b k c
      · rw [z k c, z1 k c]
    rw [e]
    exact ⟨fun _ => hk A' t e, fun c => absurd (nI_le (a := 53) (b := 53) (by omega) (by omega)) c⟩
  · rintro n i F' A' x h1 h6 ⟨rfl, rfl, t, z, b⟩ ih
    rw [p_X7_again_L12, nI_clamp (by omega)]
    have ii : vp_in (nI i) 53 := vp_in_nI h6 (by omega)
    refine ⟨fun c => absurd c (nI_ge (a := i) (b := 53) h6 (by omega)), fun _ => ⟨ii, ii, fun f hf y hy => ih _ _ _ ⟨rfl, by rw [hy]; exact nI_1 _, fun k hk => by rw [va_up_ne _ _ hk]; exact t k hk, ?_, fun k hk => ?_⟩⟩⟩
    · rw [va_up_self, hf]; exact z.up h6
    · rw [va_up_self, hf, t 1 (by omega)]
      by_cases w : k = i
      · rw [w, pk_us]
      · rw [pk_un w]; exact b k (by omega)
theorem j_keep {F Fn Fk : tF} {An Ak : tA} {FM : tF} {A : tA} (h : HZ Fn An A) (hK : IvK F Fk Ak FM A) : p_X6_keep F Fk Ak Fn An (fun r F' Fk' Ak' => p_X7_keep FM A (fun r' FM' A' => r = r' ∧ (∀ k, k ≠ 3 → F' k = F k) ∧ (∀ k, k ≠ 4 → FM' k = FM k) ∧ (∀ k, k ≠ 1 → A' k = A k) ∧ IvK F' Fk' Ak' FM' A')) := by
  obtain ⟨hr, ok, z0, z2, z3⟩ := id h
  obtain ⟨k1, k2, k3, k4⟩ := hK
  unfold p_X6_keep
  refine s_X2_copyFrom hr ok (fun F1 A1 r1 => s_X7_keep z0 k3 (fun A' t e => ⟨rfl, fun k hk => pk_un hk, fun k hk => pk_un hk, t, ?_, ?_, ?_, fun _ => ?_⟩))
  · rw [pk_us]; exact bo_1
  · rw [pk_us, pk_us]
  · rw [e]; exact z0
  · rw [e]; exact ⟨r1, ok⟩
theorem j_again {F Fn Fk : tF} {An Ak : tA} {FM : tF} {A : tA} (h : HZ Fn An A) (hK : IvK F Fk Ak FM A) : p_X6_again F Fn An Fk Ak (fun r Fn' An' => p_X7_again FM A (fun r' FM' A' => r = r' ∧ FM' = FM ∧ (∀ k, k ≠ 0 → A' k = A k) ∧ HZ Fn' An' A')) := by
  obtain ⟨hr, ok, z0, z2, z3⟩ := id h
  obtain ⟨k1, k2, k3, k4⟩ := hK
  unfold p_X6_again
  refine ⟨fun q => ?_, fun q => ?_⟩
  · have e3 : F 3 = 1 := by
      rcases k1 with w | w
      · exact absurd w q
      · exact w
    obtain ⟨hk, hok⟩ := k4 e3
    refine s_X2_copyFrom hk hok (fun F1 A1 r1 => s_X7_again z0 k3 (by rw [← k2]; exact q) (fun A' t e => ⟨r1.1.1, rfl, t, h.of e r1 hok k3 ?_ (t 3 (by omega))⟩))
    rw [t 2 (by omega)]; exact z2
  · unfold p_X7_again
    exact ⟨fun w => absurd (by rw [← k2]; exact q) w, fun _ => ⟨rfl, rfl, fun _ _ => rfl, h⟩⟩
