/-! products, parts, power, odds, hope -/
theorem lc_0 (x y : Int64) : lg_cmp x y = 0 ↔ x = y := by
  constructor
  · intro h
    have h1 : ¬ x < y := fun q => by
      have := (lc_lt x y).mpr q; rw [h] at this; exact absurd this (by decide)
    have h2 : ¬ y < x := fun q => by
      have := (lc_gt x y).mpr q; rw [h] at this; exact absurd this (by decide)
    rw [Int64.lt_iff_toInt_lt] at h1 h2
    rw [← Int64.toInt_inj]; omega
  · rintro rfl
    have h1 : ¬ lg_cmp x x < 0 := fun q => by have := (lc_lt x x).mp q; rw [Int64.lt_iff_toInt_lt] at this; omega
    have h2 : ¬ 0 < lg_cmp x x := fun q => by have := (lc_gt x x).mp q; rw [Int64.lt_iff_toInt_lt] at this; omega
    rw [Int32.lt_iff_toInt_lt] at h1 h2
    rw [← Int32.toInt_inj]; omega
theorem lN_0 : (0 : Int64) = lN 0 := rfl
theorem lN_eq0 {a : Nat} (ha : a < 2 ^ 63) : lN a = 0 ↔ a = 0 := by rw [lN_0]; exact pk_lEQ ha (by omega)
theorem gcd_st (a b : Nat) : Nat.gcd a b = Nat.gcd b (a % b) := by
  rw [Nat.gcd_comm a b, Nat.gcd_rec b a, Nat.gcd_comm]
theorem s_gcd7 {x0 x2 : Int64} {x4 : Int32} {K : Int64 → Prop} : ∀ m b a, b ≤ m → a < 2 ^ 63 → b < 2 ^ 63 → ((¬ x4 = 0 → (¬ lN (Nat.gcd a b) = 0 ∧ (K (x2 / lN (Nat.gcd a b))))) ∧ (x4 = 0 → (¬ lN (Nat.gcd a b) = 0 ∧ (K (x0 / lN (Nat.gcd a b)))))) → ∃ n, p_X7_partOf_L6 x0 x2 x4 K n (lN a) (lN b) := by
  intro m
  induction m with
  | zero =>
    intro b a hb ha hb2 k
    have e : b = 0 := Nat.le_zero.mp hb
    subst e
    rw [Nat.gcd_zero_right] at k
    refine ⟨1, ?_⟩
    rw [p_X7_partOf_L6, lc_0]
    exact ⟨fun _ => k, fun q => absurd rfl q⟩
  | succ m ih =>
    intro b a hb ha hb2 k
    by_cases e : b = 0
    · subst e
      rw [Nat.gcd_zero_right] at k
      refine ⟨1, ?_⟩
      rw [p_X7_partOf_L6, lc_0]
      exact ⟨fun _ => k, fun q => absurd rfl q⟩
    · rw [gcd_st] at k
      have hl := Nat.mod_lt a (show 0 < b by omega)
      obtain ⟨n, hn⟩ := ih (a % b) b (by omega) hb2 (by omega) k
      refine ⟨n + 1, ?_⟩
      rw [p_X7_partOf_L6, lc_0]
      have e0 : ¬ lN b = 0 := fun q => e ((lN_eq0 hb2).mp q)
      refine ⟨fun q => absurd q e0, fun _ => ⟨e0, fun y hy => ?_⟩⟩
      rw [hy, pk_lRem ha (by omega) hb2]; exact hn
theorem s_gcd6 {K : Int64 → Prop} : ∀ k a b i, a < 2 ^ 63 → b < 2 ^ 63 → b < 2 ^ k → i + 2 * k + 1 ≤ 200 → K (lN (Nat.gcd a b)) → ∃ n, p_X6_commonDivisor_L9 K n (lN a) (lN b) (nI i) := by
  have Z : ∀ a i, i < 200 → K (lN (Nat.gcd a 0)) → ∃ n, p_X6_commonDivisor_L9 K n (lN a) (lN 0) (nI i) := by
    intro a i hi k
    rw [Nat.gcd_zero_right] at k
    refine ⟨1, ?_⟩
    rw [p_X6_commonDivisor_L9, lc_0]
    exact ⟨fun q => absurd q (nI_ge (a := i) (b := 200) hi (by omega)), fun _ => ⟨fun _ => k, fun q => absurd rfl q⟩⟩
  have S : ∀ a b i, i < 200 → a < 2 ^ 63 → b < 2 ^ 63 → b ≠ 0 → (∃ n, p_X6_commonDivisor_L9 K n (lN b) (lN (a % b)) (nI (i + 1))) → ∃ n, p_X6_commonDivisor_L9 K n (lN a) (lN b) (nI i) := by
    intro a b i hi ha hb e ⟨n, hn⟩
    refine ⟨n + 1, ?_⟩
    rw [p_X6_commonDivisor_L9, lc_0]
    have e0 : ¬ lN b = 0 := fun q => e ((lN_eq0 hb).mp q)
    refine ⟨fun q => absurd q (nI_ge (a := i) (b := 200) hi (by omega)), fun _ => ⟨fun q => absurd q e0, fun _ => ⟨e0, fun y hy z hz => ?_⟩⟩⟩
    rw [hy, hz, pk_lRem ha (by omega) hb, nI_1]; exact hn
  intro k
  induction k with
  | zero =>
    intro a b i ha hb h2 hi hk
    have e : b = 0 := by omega
    subst e; exact Z a i (by omega) hk
  | succ k ih =>
    intro a b i ha hb h2 hi hk
    by_cases e : b = 0
    · subst e; exact Z a i (by omega) hk
    · have hl := Nat.mod_lt a (show 0 < b by omega)
      refine S a b i (by omega) ha hb e ?_
      rw [gcd_st] at hk
      by_cases e2 : a % b = 0
      · rw [e2] at hk ⊢; exact Z b (i + 1) (by omega) hk
      · have hl2 := Nat.mod_lt b (show 0 < a % b by omega)
        have hd := Nat.div_add_mod b (a % b)
        have hq : 1 ≤ b / (a % b) := Nat.div_pos (by omega) (by omega)
        have hm : a % b ≤ (a % b) * (b / (a % b)) := Nat.le_mul_of_pos_right _ hq
        have hp : 2 ^ (k + 1) = 2 * 2 ^ k := by rw [Nat.pow_succ, Nat.mul_comm]
        refine S b (a % b) (i + 1) (by omega) hb (by omega) e2 ?_
        rw [gcd_st] at hk
        exact ih (a % b) (b % (a % b)) (i + 1 + 1) (by omega) (by omega) (by omega) (by omega) hk
def pvS (a b : Nat) (part : Int32) : Int64 := if part = 0 then lN a / lN (Nat.gcd a b) else lN b / lN (Nat.gcd a b)
theorem s_X6_partOf {a b : Nat} (hb0 : 0 < b) (ha : a < 2 ^ 63) (hb : b < 2 ^ 60) {part : Int32} {K : Int64 → Prop} (k : K (pvS a b part)) : p_X6_partOf (lN a) (lN b) part K := by
  unfold p_X6_partOf p_X6_commonDivisor
  have hg : Nat.gcd a b ≤ b := Nat.le_of_dvd hb0 (Nat.gcd_dvd_right a b)
  have hg0 : 0 < Nat.gcd a b := Nat.gcd_pos_of_pos_right a hb0
  have e0 : ¬ lN (Nat.gcd a b) = 0 := fun q => by have := (lN_eq0 (by omega)).mp q; omega
  refine s_gcd6 60 a b 0 ha (by omega) hb (by omega) ?_
  rw [lc_0]
  unfold pvS at k
  refine ⟨fun _ => ⟨fun q => ⟨e0, ?_⟩, fun q => ⟨e0, ?_⟩⟩, fun q => absurd q e0⟩
  · rw [if_neg q] at k; exact k
  · rw [if_pos q] at k; exact k
theorem s_X7_partOf {a b : Nat} (hb0 : 0 < b) (ha : a < 2 ^ 63) (hb : b < 2 ^ 60) {part : Int32} {K : Int64 → Prop} (k : K (pvS a b part)) : p_X7_partOf (lN a) (lN b) part K := by
  unfold p_X7_partOf
  have hg : Nat.gcd a b ≤ b := Nat.le_of_dvd hb0 (Nat.gcd_dvd_right a b)
  have hg0 : 0 < Nat.gcd a b := Nat.gcd_pos_of_pos_right a hb0
  have e0 : ¬ lN (Nat.gcd a b) = 0 := fun q => by have := (lN_eq0 (by omega)).mp q; omega
  refine s_gcd7 a a b (Nat.le_refl _) (by omega) ha ?_
  rw [Nat.gcd_comm b a]
  unfold pvS at k
  refine ⟨fun q => ⟨e0, ?_⟩, fun q => ⟨e0, ?_⟩⟩
  · rw [if_neg q] at k; exact k
  · rw [if_pos q] at k; exact k
def fcU : Nat → Int64
  | 0 => 1
  | k + 1 => fcU k * (nI (k + 1)).toInt64
def fcN : Nat → Nat
  | 0 => 1
  | k + 1 => fcN k * (k + 1)
def prodS (x : Int32) : Int64 := if x < 2 then 1 else fcU x.toNatClampNeg
theorem lt2_of {x : Int32} (h : ¬ x < 2) (h8 : x ≤ 8) : ∃ n : Nat, 2 ≤ n ∧ n ≤ 8 ∧ x = nI n := by
  have h0 : ¬ x < 0 := fun q => h (by
    rw [Int32.lt_iff_toInt_lt] at q ⊢
    have e0 : (0 : Int32).toInt = 0 := by decide
    have e1 : (2 : Int32).toInt = 2 := by decide
    omega)
  obtain ⟨n, hn, rfl⟩ := nI_of h0
  refine ⟨n, ?_, (nI_leI (a := n) (b := 8) hn (by omega)).mp h8, rfl⟩
  rcases Nat.lt_or_ge n 2 with q | q
  · exact absurd (nI_lt (a := n) (b := 2) q (by omega)) h
  · exact q
theorem s_X7_product {x : Int32} (h8 : x ≤ 8) {K : Int64 → Prop} (k : K (prodS x)) : p_X7_product x K := by
  unfold p_X7_product
  by_cases h : x < 2
  · refine ⟨1, ?_⟩
    rw [p_X7_product_L4]
    unfold prodS at k
    rw [if_pos h] at k
    exact ⟨fun _ => k, fun q => absurd h q⟩
  · obtain ⟨n, n2, n8, rfl⟩ := lt2_of h h8
    unfold prodS at k
    rw [if_neg h, nI_clamp (by omega)] at k
    refine lq2 (p_X7_product_L4 (nI n) K) (fun i b v => v = nI i ∧ b = fcU (i - 1)) (n + 1) 2 (by omega) ?_ ?_ ⟨rfl, by decide⟩
    · rintro m b v ⟨rfl, rfl⟩
      rw [p_X7_product_L4]
      exact ⟨fun _ => k, fun q => absurd (nI_lt (by omega) (by omega)) q⟩
    · rintro m i b v h1 h2 ⟨rfl, rfl⟩ ih
      rw [p_X7_product_L4]
      refine ⟨fun q => absurd q (nI_nlt (by omega) (by omega)), fun _ y hy z hz => ih _ _ ⟨by rw [hz]; exact nI_1 _, ?_⟩⟩
      obtain ⟨j, rfl⟩ : ∃ j, i = j + 1 := ⟨i - 1, by omega⟩
      rw [hy]; rfl
theorem s_X0_ordersOf {x : Int32} (h8 : x ≤ 8) {K : Int64 → Prop} (k : K (prodS x)) : p_X0_ordersOf x K := by
  unfold p_X0_ordersOf
  by_cases h : x < 2
  · refine ⟨1, ?_⟩
    rw [p_X0_ordersOf_L4]
    unfold prodS at k
    rw [if_pos h] at k
    exact ⟨fun _ => k, fun q => absurd h q⟩
  · obtain ⟨n, n2, n8, rfl⟩ := lt2_of h h8
    unfold prodS at k
    rw [if_neg h, nI_clamp (by omega)] at k
    refine lq2 (p_X0_ordersOf_L4 (nI n) K) (fun i b v => v = nI i ∧ b = fcU (i - 1)) (n + 1) 2 (by omega) ?_ ?_ ⟨rfl, by decide⟩
    · rintro m b v ⟨rfl, rfl⟩
      rw [p_X0_ordersOf_L4]
      exact ⟨fun _ => k, fun q => absurd (nI_lt (by omega) (by omega)) q⟩
    · rintro m i b v h1 h2 ⟨rfl, rfl⟩ ih
      rw [p_X0_ordersOf_L4]
      refine ⟨fun q => absurd q (nI_nlt (by omega) (by omega)), fun _ y hy z hz => ih _ _ ⟨by rw [hz]; exact nI_1 _, ?_⟩⟩
      obtain ⟨j, rfl⟩ : ∃ j, i = j + 1 := ⟨i - 1, by omega⟩
      rw [hy]; rfl
theorem prodS_n : ∀ n, n < 9 → prodS (nI n) = lN (fcN n) := by decide +kernel
theorem fcN_b : ∀ n, n < 9 → 0 < fcN n ∧ fcN n ≤ 40320 := by decide +kernel
theorem prodS_d : ∀ n, n < 9 → ∀ c, c < 9 → nI n - 1 - nI c ≤ 8 ∧ prodS (nI n - 1 - nI c) = lN (if c + 1 ≤ n then fcN (n - 1 - c) else 1) := by decide +kernel
theorem nI_le8 : ∀ n, n < 9 → nI n ≤ 8 := by decide +kernel
def bitS (v k : Nat) : Int32 := (nI v >>> (nI k &&& 31)) &&& (1 : Int32)
def wsU (s : tF) (v : Nat) : Nat → Int32
  | 0 => 0
  | k + 1 => if bitS v k = 1 then wsU s v k + countS s k else wsU s v k
theorem bit_all : ∀ n, n < 9 → ∀ k, k < n → bitS (2 ^ n - 1) k = 1 := by decide +kernel
theorem wsU_all (s : tF) (n : Nat) (hn : n < 9) : ∀ k, k ≤ n → wsU s (2 ^ n - 1) k = sumU (countS s) k
  | 0, _ => rfl
  | k + 1, h => by
    rw [wsU, if_pos (bit_all n hn k (by omega)), wsU_all s n hn k (by omega)]; rfl
def poC (s : tF) (o v : Nat) : Prop := bitS v o = 0 ∧ ¬ weightS s < 2 * wsU s v (nS s) ∧ ¬ 2 * (wsU s v (nS s) + countS s o) ≤ weightS s
def poU (s : tF) (o : Nat) [∀ v, Decidable (poC s o v)] : Nat → Int64
  | 0 => 0
  | v + 1 => if poC s o v then poU s o v + prodS (pcI v) * prodS (nI (nS s) - 1 - pcI v) else poU s o v
theorem poU_n {s : tF} {o : Nat} [∀ v, Decidable (poC s o v)] (hn : nS s ≤ 8) : ∀ v, v ≤ 256 → ∃ m, m ≤ v * (40320 * 40320) ∧ poU s o v = lN m
  | 0, _ => ⟨0, by omega, rfl⟩
  | v + 1, h => by
    obtain ⟨m, hm, e⟩ := poU_n (s := s) (o := o) hn v (by omega)
    rw [poU]
    split
    · obtain ⟨c, hc, ec⟩ := pcI_n v (by omega)
      obtain ⟨q1, q2⟩ := prodS_d (nS s) (by omega) c hc
      have hb1 := fcN_b c hc
      have hb2 : (if c + 1 ≤ nS s then fcN (nS s - 1 - c) else 1) ≤ 40320 := by
        split
        · exact (fcN_b (nS s - 1 - c) (by omega)).2
        · omega
      generalize (if c + 1 ≤ nS s then fcN (nS s - 1 - c) else 1) = d at q2 hb2
      refine ⟨m + fcN c * d, ?_, ?_⟩
      · have := Nat.mul_le_mul hb1.2 hb2
        rw [Nat.add_mul, Nat.one_mul]; omega
      · rw [e, ec, q2, prodS_n c hc]
        show Int64.ofNat m + Int64.ofNat (fcN c) * Int64.ofNat d = Int64.ofNat (m + fcN c * d)
        rw [Int64.ofNat_add, Int64.ofNat_mul]
    · exact ⟨m, Nat.le_trans hm (Nat.mul_le_mul_right _ (by omega)), e⟩
theorem s_X0_weightOfSet {F : tF} {A : tA} {s : tF} (ok : OkS s) (b : ∀ o, o < nS s → A 1 o = countS s o) {v : Nat} {K : Int32 → Prop} (k : K (wsU s v (nS s))) : p_X0_weightOfSet F A (nI v) (nI (nS s)) K := by
  have hn := ok.n.2
  unfold p_X0_weightOfSet
  refine lq2 (p_X0_weightOfSet_L5 F A (nI v) (nI (nS s)) K) (fun i w x => x = nI i ∧ w = wsU s v i) (nS s) 0 (by omega) ?_ ?_ ⟨rfl, rfl⟩
  · rintro m w x ⟨rfl, rfl⟩
    rw [p_X0_weightOfSet_L5]
    exact ⟨fun _ => k, fun q => absurd (nI_le (Nat.le_refl _) (by omega)) q⟩
  · rintro m i w x h1 h2 ⟨rfl, rfl⟩ ih
    rw [p_X0_weightOfSet_L5, nI_clamp (by omega), b i h2]
    unfold p_X0_weightOfSet_J31
    refine ⟨fun q => absurd q (nI_ge h2 (by omega)), fun _ => ⟨fun q y hy => ih _ _ ⟨by rw [hy]; exact nI_1 _, ?_⟩, fun q => ⟨vp_in_nI (by omega) (by omega), fun z hz y hy => ih _ _ ⟨by rw [hy]; exact nI_1 _, ?_⟩⟩⟩⟩
    · rw [wsU, if_neg (show ¬ bitS v i = 1 from q)]
    · rw [wsU, if_pos (show bitS v i = 1 from q), hz]
theorem s_X0_ordersTurnedBy {F : tF} {A : tA} {s : tF} (ok : OkS s) {o : Nat} (ho : o < nS s) [∀ v, Decidable (poC s o v)] (b : ∀ o, o < nS s → A 1 o = countS s o) {K : Int64 → Prop} (k : K (poU s o (2 ^ nS s))) : p_X0_ordersTurnedBy F A (nI o) (nI (nS s)) K := by
  have hn := ok.n.2
  have hw := pow_le (nS s) (by omega)
  have hp : 0 < 2 ^ nS s := Nat.two_pow_pos _
  unfold p_X0_ordersTurnedBy
  rw [shl_n _ (by omega)]
  have e1 : nI (2 ^ nS s) - 1 = nI (2 ^ nS s - 1) := pk_sub (a := 2 ^ nS s) (b := 1) (by omega)
  rw [e1]
  refine s_X0_weightOfSet ok b ?_
  rw [wsU_all s (nS s) (by omega) (nS s) (Nat.le_refl _)]
  have ew : sumU (countS s) (nS s) = weightS s := rfl
  rw [ew]
  refine lq2 (p_X0_ordersTurnedBy_L17 F A (nI o) (nI (nS s)) (weightS s) K) (fun i w x => x = nI i ∧ w = poU s o i) (2 ^ nS s) 0 (Nat.zero_le _) ?_ ?_ ⟨rfl, rfl⟩
  · rintro m w x ⟨rfl, rfl⟩
    rw [p_X0_ordersTurnedBy_L17, shl_n _ (by omega)]
    exact ⟨fun _ => k, fun q => absurd (nI_le (Nat.le_refl _) (by omega)) q⟩
  · rintro m i w x h1 h2 ⟨rfl, rfl⟩ ih
    rw [p_X0_ordersTurnedBy_L17, shl_n _ (by omega), nI_clamp (by omega), b o ho]
    have N : ¬ poC s o i → p_X0_ordersTurnedBy_J93 F A (p_X0_ordersTurnedBy_L17 F A (nI o) (nI (nS s)) (weightS s) K m) K (nI o) (nI (nS s)) (weightS s) (poU s o i) (nI i) := by
      intro c
      unfold p_X0_ordersTurnedBy_J93
      exact fun y hy => ih _ _ ⟨by rw [hy]; exact nI_1 _, by rw [poU, if_neg c]⟩
    refine ⟨fun q => absurd q (nI_ge h2 (by omega)), fun _ => ⟨fun q => N (fun c => q c.1), fun q1 => s_X0_weightOfSet ok b ?_⟩⟩
    rw [Int32.mul_comm _ 2, Int32.mul_comm _ 2]
    refine ⟨fun q => N (fun c => c.2.1 q), fun q2 => ⟨vp_in_nI (by omega) (by omega), fun q => N (fun c => c.2.2 q), fun q3 => s_J6_bitCount (by omega) ?_⟩⟩
    obtain ⟨c, hc, ec⟩ := pcI_n i (by omega)
    refine s_X0_ordersOf (by rw [ec]; exact nI_le8 c hc) (s_X0_ordersOf (by rw [ec]; exact (prodS_d (nS s) (by omega) c hc).1) ?_)
    unfold p_X0_ordersTurnedBy_J93
    exact fun y hy z hz => ih _ _ ⟨by rw [hz]; exact nI_1 _, by rw [poU, if_pos ⟨q1, q2, q3⟩, hy]⟩
theorem s_X7_power {F : tF} {A : tA} (ok : OkS (A 0)) {o : Nat} (ho : o < nS (A 0)) {part : Int32} (hpt : inR part 2) [∀ v, Decidable (poC (A 0) o v)] {K : Int64 → Prop} (k : p_X7_partOf (poU (A 0) o (2 ^ nS (A 0))) (prodS (nI (nS (A 0)))) part K) : p_X7_power F A (nI o) part K := by
  have hn := ok.n.2
  have hw := pow_le (nS (A 0)) (by omega)
  unfold p_X7_power
  refine o1 ok ⟨o, ho, rfl⟩ (a1 (i1 (m := 1) hpt (by omega) rfl rfl (b1 (s_X7_sumOf4 ok ?_))))
  refine lq2 (p_X7_power_L34 F A (nI o) part (weightS (A 0)) K) (fun i w x => x = nI i ∧ w = poU (A 0) o i) (2 ^ nS (A 0)) 0 (Nat.zero_le _) ?_ ?_ ⟨rfl, rfl⟩
  · rintro m w x ⟨rfl, rfl⟩
    rw [p_X7_power_L34, ok.n.1, shl_n _ (by omega)]
    exact ⟨fun _ => s_X7_product (nI_le8 _ (by omega)) k, fun q => absurd (nI_le (Nat.le_refl _) (by omega)) q⟩
  · rintro m i w x h1 h2 ⟨rfl, rfl⟩ ih
    rw [p_X7_power_L34, ok.n.1, shl_n _ (by omega)]
    refine ⟨fun q => absurd q (nI_ge h2 (by omega)), fun _ => ?_⟩
    have J132 : ∀ z : Int32, (z = 0 ↔ ¬ poC (A 0) o i) → p_X7_power_J132 F A (p_X7_power_L34 F A (nI o) part (weightS (A 0)) K m) K (nI o) part (weightS (A 0)) (poU (A 0) o i) (nI i) z := by
      intro z hz
      unfold p_X7_power_J132 p_X7_power_J171
      refine ⟨fun q => fun y hy v hv => ih _ _ ⟨by rw [hv]; exact nI_1 _, ?_⟩, fun q => s_X7_size (by omega) ?_⟩
      · rw [poU, if_neg (hz.mp q), hy]; exact Int64.add_zero _
      · obtain ⟨c, hc, ec⟩ := pcI_n i (by omega)
        rw [ok.n.1]
        refine s_X7_product (by rw [ec]; exact nI_le8 c hc) (s_X7_size (by omega) (s_X7_product (by rw [ec]; exact (prodS_d (nS (A 0)) (by omega) c hc).1) ?_))
        refine fun y hy v hv => ih _ _ ⟨by rw [hv]; exact nI_1 _, ?_⟩
        have pc : poC (A 0) o i := Decidable.byContradiction (fun w => q (hz.mpr w))
        rw [poU, if_pos pc, hy]
    have J131 : ¬ poC (A 0) o i → p_X7_power_J131 F A (p_X7_power_L34 F A (nI o) part (weightS (A 0)) K m) K (nI o) part (weightS (A 0)) (poU (A 0) o i) (nI i) := by
      intro c
      unfold p_X7_power_J131
      exact J132 0 ⟨fun _ => c, fun _ => rfl⟩
    refine lq2 (p_X7_power_L53 F A (nI o) part (weightS (A 0)) (poU (A 0) o i) (nI i) (p_X7_power_L34 F A (nI o) part (weightS (A 0)) K m) K) (fun j w x => x = nI j ∧ w = wsU (A 0) i j) (nS (A 0)) 0 (by omega) ?_ ?_ ⟨rfl, rfl⟩
    · rintro m' w x ⟨rfl, rfl⟩
      rw [p_X7_power_L53, ok.n.1]
      refine ⟨fun _ => ⟨fun q => J131 (fun c => q c.1), fun q1 => ⟨fun q => J131 (fun c => c.2.1 q), fun q2 => s_X7_counts ok (by omega) ⟨fun q => J131 (fun c => c.2.2 q), fun q3 => J132 1 ⟨fun q => absurd q (by decide), fun q => absurd ⟨q1, q2, q3⟩ q⟩⟩⟩⟩, fun q => absurd (nI_le (Nat.le_refl _) (by omega)) q⟩
    · rintro m' j w x g1 g2 ⟨rfl, rfl⟩ ih2
      rw [p_X7_power_L53, ok.n.1]
      unfold p_X7_power_J87
      refine ⟨fun q => absurd q (nI_ge g2 (by omega)), fun _ => ⟨fun q y hy v hv => ih2 _ _ ⟨by rw [hv]; exact nI_1 _, ?_⟩, fun q => s_X7_counts ok (by omega) (fun y hy v hv => ih2 _ _ ⟨by rw [hv]; exact nI_1 _, ?_⟩)⟩⟩
      · rw [wsU, if_neg (show ¬ bitS i j = 1 from q), hy]; exact Int32.add_zero _
      · rw [wsU, if_pos (show bitS i j = 1 from q), hy]
theorem j_power {F Fn Fb : tF} {An Ab : tA} {FM : tF} {A : tA} (h : HZ Fn An A) (x y : Int32) : p_X6_power F Fn An Fb Ab x y (fun r _ _ => p_X7_power FM A x y (fun r' => r = r')) := by
  obtain ⟨hr, ok, z0, z2, z3⟩ := id h
  have hn := ok.n.2
  have hw := pow_le (nS (A 0)) (by omega)
  unfold p_X6_power
  by_cases c : inR x (nS (A 0))
  rotate_left
  · exact f0 hr ok c (a0 (by unfold p_X7_power; exact o0 ok c (a0 rfl)))
  refine f1 hr ok c (a1 ?_)
  by_cases d : inR y 2
  rotate_left
  · exact w0 (m := 2) d (by omega) (b0 (by unfold p_X7_power; exact o1 ok c (a1 (i0 (m := 1) d (by omega) rfl rfl (b0 rfl)))))
  refine w1 (m := 2) d (by omega) (b1 ?_)
  obtain ⟨o, ho, rfl⟩ := c
  have dp : ∀ v, Decidable (poC (A 0) o v) := fun v => by unfold poC; exact inferInstance
  refine s_X0_take hr ok (fun A1 b1 => ?_)
  rw [hr.iff_F ok]
  refine s_X0_ordersTurnedBy ok ho (fun k hk => (b1 k hk).2) (s_X0_ordersOf (nI_le8 _ (by omega)) ?_)
  obtain ⟨m, hm, em⟩ := poU_n (s := A 0) (o := o) hn (2 ^ nS (A 0)) hw
  have hb := fcN_b (nS (A 0)) (by omega)
  have hm2 : m < 2 ^ 63 := by
    have : 2 ^ nS (A 0) * (40320 * 40320) ≤ 256 * (40320 * 40320) := Nat.mul_le_mul_right _ hw
    omega
  have X7 : p_X7_power FM A (nI o) y (fun r' => pvS m (fcN (nS (A 0))) y = r') := by
    refine s_X7_power ok ho d ?_
    rw [em, prodS_n _ (by omega)]
    exact s_X7_partOf hb.1 hm2 (by omega) rfl
  rw [em, prodS_n _ (by omega)]
  exact s_X6_partOf hb.1 hm2 (by omega) X7
/-! odds, hope -/
theorem cl0' {x : Int32} {m : Nat} (hm : m + 1 < 2 ^ 31) {P Q : Prop} (h1 : inR x (m + 1) → Q) (h0 : ¬ inR x (m + 1) → P) : (x < 0 → P) ∧ (¬ x < 0 → ((nI m < x → P) ∧ (¬ nI m < x → Q))) := by
  obtain ⟨a, b⟩ := cl0 hm h1 h0
  exact ⟨a, fun c => ⟨fun d => (b c).2 (Int32.not_le.mpr d), fun d => (b c).1 (Int32.not_lt.mp d)⟩⟩
def abU (w : Nat) (k : Nat) : Nat → Int64
  | 0 => 1
  | i + 1 => abU w k i * (if k ≤ i then lN (100 - w) else lN w)
def blU : Nat → Int64
  | 0 => 1
  | i + 1 => blU i * 100
def wyU (n : Nat) : Nat → Int64
  | 0 => 1
  | i + 1 => (wyU n i * (nI n - nI i).toInt64) / (nI i + 1).toInt64
theorem wyU_ok : ∀ n, n < 9 → ∀ k, k < 9 → k ≤ n → wyU n k = prodS (nI n) / prodS (nI k) / prodS (nI n - nI k) := by decide +kernel
theorem wyU_n : ∀ n, n < 9 → ∀ k, k < 9 → k ≤ n → ∃ c, c < 71 ∧ wyU n k = lN c := by decide +kernel
theorem blU_n : ∀ n, n < 9 → blU n = lN (100 ^ n) := by decide +kernel
theorem abU_n {w k : Nat} (hw : w ≤ 99) : ∀ i, i ≤ 8 → ∃ m, m ≤ 100 ^ i ∧ abU w k i = lN m
  | 0, _ => ⟨1, by omega, rfl⟩
  | i + 1, h => by
    obtain ⟨m, hm, e⟩ := abU_n (w := w) (k := k) hw i (by omega)
    rw [abU, e]
    split
    · exact ⟨m * (100 - w), by rw [Nat.pow_succ]; exact Nat.mul_le_mul hm (by omega), (Int64.ofNat_mul _ _).symm⟩
    · exact ⟨m * w, by rw [Nat.pow_succ]; exact Nat.mul_le_mul hm (by omega), (Int64.ofNat_mul _ _).symm⟩
theorem w_sub : ∀ w, w < 100 → (100 : Int64) - (nI w).toInt64 = lN (100 - w) ∧ ((100 : Int32) - nI w).toInt64 = lN (100 - w) := by decide +kernel
theorem sub_le8 : ∀ n, n < 9 → ∀ k, k < 9 → k ≤ n → nI n - nI k ≤ 8 ∧ ¬ prodS (nI k) = 0 ∧ ¬ prodS (nI n - nI k) = 0 := by decide +kernel
theorem i_ne : ∀ i, i < 9 → ¬ (nI i + 1).toInt64 = 0 := by decide +kernel
theorem pow8 : ∀ n, n < 9 → 0 < 100 ^ n ∧ 100 ^ n ≤ 10000000000000000 := by decide +kernel
theorem j_odds {F Fn : tF} {An : tA} {FM : tF} {A : tA} (h : HZ Fn An A) (x y z : Int32) : p_X6_odds F Fn An x y z (fun r => p_X7_odds FM A x y z (fun r' => r = r')) := by
  obtain ⟨hr, ok, _⟩ := id h
  obtain ⟨w, hw, ew⟩ := ok.2.2.2.2.1
  have eL : An 0 3 = nI w := by rw [← ew]; exact hr.2.1 3 (by omega)
  unfold p_X6_odds
  refine cl0' (m := 8) (by omega) (fun c => ?_) (fun c => by unfold p_X7_odds; exact i0 (m := 8) c (by omega) rfl rfl (a0 rfl))
  obtain ⟨n, hn, rfl⟩ := id c
  refine cl0' (m := n) (by omega) (fun d => ?_) (fun d => by unfold p_X7_odds; exact i1 (m := 8) c (by omega) rfl rfl (a1 (i0 (m := n) d (by omega) rfl rfl (a0 rfl))))
  obtain ⟨k, hk, rfl⟩ := id d
  by_cases e : inR z 2
  rotate_left
  · exact w0 (m := 2) e (by omega) (b0 (by unfold p_X7_odds; exact i1 (m := 8) c (by omega) rfl rfl (a1 (i1 (m := n) d (by omega) rfl rfl (a1 (i0 (m := 1) e (by omega) rfl rfl (b0 rfl)))))))
  refine w1 (m := 2) e (by omega) (b1 (fun y1 h1 => ?_))
  obtain ⟨cc, hc, ec⟩ := wyU_n n (by omega) k (by omega) (by omega)
  obtain ⟨m, hm, em⟩ := abU_n (w := w) (k := k) hw n (by omega)
  have hp := pow8 n (by omega)
  have hcm : cc * m < 2 ^ 63 := by
    have : cc * m ≤ 70 * 10000000000000000 := Nat.mul_le_mul (by omega) (by omega)
    omega
  have hs := w_sub w (by omega)
  have hl : (nI w).toInt64 = lN w := nI_l (by omega)
  have X7 : p_X7_odds FM A (nI n) (nI k) z (fun r' => pvS (cc * m) (100 ^ n) z = r') := by
    obtain ⟨q1, q2, q3⟩ := sub_le8 n (by omega) k (by omega) (by omega)
    unfold p_X7_odds
    refine i1 (m := 8) c (by omega) rfl rfl (a1 (i1 (m := n) d (by omega) rfl rfl (a1 (i1 (m := 1) e (by omega) rfl rfl (b1 (s_X7_product (nI_le8 n (by omega)) (s_X7_product (nI_le8 k (by omega)) ⟨q2, s_X7_product q1 ⟨q3, fun y2 h2 => ?_⟩⟩)))))))
    rw [← wyU_ok n (by omega) k (by omega) (by omega)] at h2
    subst h2
    refine lq3 (p_X7_odds_L61 FM A (nI n) (nI k) z _) (fun i a b x => x = nI i ∧ a = wyU n k * abU w k i ∧ b = blU i) n 0 (by omega) ?_ ?_ ⟨rfl, (Int64.mul_one _).symm, rfl⟩
    · rintro f a b x ⟨rfl, rfl, rfl⟩
      rw [p_X7_odds_L61]
      refine ⟨fun _ => ?_, fun q => absurd (nI_le (Nat.le_refl _) (by omega)) q⟩
      rw [ec, em, blU_n n (by omega)]
      have : lN cc * lN m = lN (cc * m) := (Int64.ofNat_mul _ _).symm
      rw [this]
      exact s_X7_partOf hp.1 hcm (by omega) rfl
    · rintro f i a b x g1 g2 ⟨rfl, rfl, rfl⟩ ih
      rw [p_X7_odds_L61, ew, hs.2, hl]
      unfold p_X7_odds_J97
      refine ⟨fun q => absurd q (nI_ge g2 (by omega)), fun _ => ⟨fun q y3 h3 y4 h4 y5 h5 => ih _ _ _ ⟨by rw [h5]; exact nI_1 _, ?_, by rw [h4]; rfl⟩, fun q y3 h3 y4 h4 y5 h5 => ih _ _ _ ⟨by rw [h5]; exact nI_1 _, ?_, by rw [h4]; rfl⟩⟩⟩
      · rw [h3, abU, if_pos ((nI_leI (by omega) (by omega)).mp q), Int64.mul_assoc]
      · rw [h3, abU, if_neg (fun w => q (nI_le w (by omega))), Int64.mul_assoc]
  refine lq3 (p_X6_odds_L55 F Fn An (nI n) (nI k) z y1 1 _) (fun i a b x => x = nI i ∧ a = abU w k i ∧ b = blU i) n 0 (by omega) ?_ ?_ ⟨rfl, rfl, rfl⟩
  · rintro f a b x ⟨rfl, rfl, rfl⟩
    rw [p_X6_odds_L55]
    refine ⟨fun _ => ?_, fun q => absurd (nI_le (Nat.le_refl _) (by omega)) q⟩
    refine lq2 (p_X6_odds_L100 F Fn An (nI n) (nI k) z (abU w k n) (blU n) _) (fun i a x => x = nI i ∧ a = wyU n i) k 0 (by omega) ?_ ?_ ⟨rfl, rfl⟩
    · rintro f a x ⟨rfl, rfl⟩
      rw [p_X6_odds_L100]
      refine ⟨fun _ => ?_, fun q => absurd (nI_le (Nat.le_refl _) (by omega)) q⟩
      rw [ec, em, blU_n n (by omega)]
      have : lN cc * lN m = lN (cc * m) := (Int64.ofNat_mul _ _).symm
      rw [this]
      exact s_X6_partOf hp.1 hcm (by omega) X7
    · rintro f i a x g1 g2 ⟨rfl, rfl⟩ ih
      rw [p_X6_odds_L100]
      exact ⟨fun q => absurd q (nI_ge g2 (by omega)), fun _ => ⟨i_ne i (by omega), fun y3 h3 y4 h4 => ih _ _ ⟨by rw [h4]; exact nI_1 _, by rw [h3]; rfl⟩⟩⟩
  · rintro f i a b x g1 g2 ⟨rfl, rfl, rfl⟩ ih
    rw [p_X6_odds_L55, h1, eL, hs.1, hl]
    unfold p_X6_odds_J80
    refine ⟨fun q => absurd q (nI_ge g2 (by omega)), fun _ => ⟨fun q y3 h3 y4 h4 y5 h5 => ?_, fun q y3 h3 y4 h4 y5 h5 => ?_⟩⟩
    · have := ih y3 y4 y5 ⟨by rw [h5]; exact nI_1 _, by rw [h3, abU, if_pos ((nI_leI (by omega) (by omega)).mp q)], by rw [h4]; rfl⟩
      rw [h1, eL, hl] at this; exact this
    · have := ih y3 y4 y5 ⟨by rw [h5]; exact nI_1 _, by rw [h3, abU, if_neg (fun w => q (nI_le w (by omega)))], by rw [h4]; rfl⟩
      rw [h1, eL, hl] at this; exact this
theorem j_hope {F Fn : tF} {An : tA} {FM : tF} {A : tA} (h : HZ Fn An A) (x y : Int32) : p_X6_hope F Fn An x y (fun r => p_X7_hope FM A x y (fun r' => r = r')) := by
  obtain ⟨hr, ok, _⟩ := id h
  obtain ⟨w, hw, ew⟩ := ok.2.2.2.2.1
  have eL : An 0 3 = nI w := by rw [← ew]; exact hr.2.1 3 (by omega)
  unfold p_X6_hope
  refine cl0' (m := 99) (by omega) (fun c => ?_) (fun c => by unfold p_X7_hope; exact i0 (m := 99) c (by omega) rfl rfl (a0 rfl))
  obtain ⟨n, hn, rfl⟩ := id c
  by_cases e : inR y 2
  rotate_left
  · exact w0 (m := 2) e (by omega) (b0 (by unfold p_X7_hope; exact i1 (m := 99) c (by omega) rfl rfl (a1 (i0 (m := 1) e (by omega) rfl rfl (a0 rfl)))))
  refine w1 (m := 2) e (by omega) (b1 ?_)
  have hp : n * w < 2 ^ 63 := by
    have : n * w ≤ 99 * 99 := Nat.mul_le_mul (by omega) (by omega)
    omega
  have e1 : (nI n).toInt64 * (nI w).toInt64 = lN (n * w) := by rw [nI_l (by omega), nI_l (by omega)]; exact (Int64.ofNat_mul _ _).symm
  have X7 : p_X7_hope FM A (nI n) y (fun r' => pvS (n * w) 100 y = r') := by
    unfold p_X7_hope
    rw [ew, e1]
    exact i1 (m := 99) c (by omega) rfl rfl (a1 (i1 (m := 1) e (by omega) rfl rfl (a1 (s_X7_partOf (b := 100) (by omega) hp (by omega) rfl))))
  rw [eL, e1]
  exact s_X6_partOf (b := 100) (by omega) hp (by omega) X7
