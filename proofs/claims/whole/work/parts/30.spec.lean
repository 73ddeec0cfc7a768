/-! Layer two, in numbers alone. A hill is a row s: 0 how many sheep, 1 day, 2 z, 3 where the flock is, 4 call, 5 to 8 laws, 9 to 14 grass, 15 to 20 risk, from 21 on four a sheep (kind, ear, fear, look) -/
theorem lq1 {A1 : Type} (W : Nat → A1 → Prop) (I : Nat → A1 → Prop) (N i0 : Nat) (hi : i0 ≤ N) (hx : ∀ n a1, I N a1 → W (n + 1) a1) (hs : ∀ n i a1, i0 ≤ i → i < N → I i a1 → (∀ b1, I (i + 1) b1 → W n b1) → W (n + 1) a1) {a1 : A1} (h0 : I i0 a1) : ∃ n, W n a1 := by
  have H : ∀ m i a1, i + m = N → i0 ≤ i → I i a1 → W (m + 1) a1 := by
    intro m
    induction m with
    | zero => intro i a1 e _ h; have e : i = N := by omega
              subst e; exact hx 0 a1 h
    | succ m ih => intro i a1 e h1 h; exact hs (m + 1) i a1 h1 (by omega) h (fun b1 hb => ih (i + 1) b1 (by omega) (by omega) hb)
  exact ⟨N - i0 + 1, H (N - i0) i0 a1 (by omega) (Nat.le_refl _) h0⟩
theorem lq2 {A1 A2 : Type} (W : Nat → A1 → A2 → Prop) (I : Nat → A1 → A2 → Prop) (N i0 : Nat) (hi : i0 ≤ N) (hx : ∀ n a1 a2, I N a1 a2 → W (n + 1) a1 a2) (hs : ∀ n i a1 a2, i0 ≤ i → i < N → I i a1 a2 → (∀ b1 b2, I (i + 1) b1 b2 → W n b1 b2) → W (n + 1) a1 a2) {a1 : A1} {a2 : A2} (h0 : I i0 a1 a2) : ∃ n, W n a1 a2 :=
  lq1 (fun n (a : A1 × A2) => W n a.1 a.2) (fun i a => I i a.1 a.2) N i0 hi (fun n a h => hx n a.1 a.2 h) (fun n i a h1 h2 h3 h4 => hs n i a.1 a.2 h1 h2 h3 (fun b1 b2 hb => h4 (b1, b2) hb)) (a1 := (a1, a2)) h0
theorem lq3 {A1 A2 A3 : Type} (W : Nat → A1 → A2 → A3 → Prop) (I : Nat → A1 → A2 → A3 → Prop) (N i0 : Nat) (hi : i0 ≤ N) (hx : ∀ n a1 a2 a3, I N a1 a2 a3 → W (n + 1) a1 a2 a3) (hs : ∀ n i a1 a2 a3, i0 ≤ i → i < N → I i a1 a2 a3 → (∀ b1 b2 b3, I (i + 1) b1 b2 b3 → W n b1 b2 b3) → W (n + 1) a1 a2 a3) {a1 : A1} {a2 : A2} {a3 : A3} (h0 : I i0 a1 a2 a3) : ∃ n, W n a1 a2 a3 :=
  lq1 (fun n (a : A1 × A2 × A3) => W n a.1 a.2.1 a.2.2) (fun i a => I i a.1 a.2.1 a.2.2) N i0 hi (fun n a h => hx n a.1 a.2.1 a.2.2 h) (fun n i a h1 h2 h3 h4 => hs n i a.1 a.2.1 a.2.2 h1 h2 h3 (fun b1 b2 b3 hb => h4 (b1, b2, b3) hb)) (a1 := (a1, a2, a3)) h0
theorem lq4 {A1 A2 A3 A4 : Type} (W : Nat → A1 → A2 → A3 → A4 → Prop) (I : Nat → A1 → A2 → A3 → A4 → Prop) (N i0 : Nat) (hi : i0 ≤ N) (hx : ∀ n a1 a2 a3 a4, I N a1 a2 a3 a4 → W (n + 1) a1 a2 a3 a4) (hs : ∀ n i a1 a2 a3 a4, i0 ≤ i → i < N → I i a1 a2 a3 a4 → (∀ b1 b2 b3 b4, I (i + 1) b1 b2 b3 b4 → W n b1 b2 b3 b4) → W (n + 1) a1 a2 a3 a4) {a1 : A1} {a2 : A2} {a3 : A3} {a4 : A4} (h0 : I i0 a1 a2 a3 a4) : ∃ n, W n a1 a2 a3 a4 :=
  lq1 (fun n (a : A1 × A2 × A3 × A4) => W n a.1 a.2.1 a.2.2.1 a.2.2.2) (fun i a => I i a.1 a.2.1 a.2.2.1 a.2.2.2) N i0 hi (fun n a h => hx n a.1 a.2.1 a.2.2.1 a.2.2.2 h) (fun n i a h1 h2 h3 h4 => hs n i a.1 a.2.1 a.2.2.1 a.2.2.2 h1 h2 h3 (fun b1 b2 b3 b4 hb => h4 (b1, b2, b3, b4) hb)) (a1 := (a1, a2, a3, a4)) h0
theorem lq5 {A1 A2 A3 A4 A5 : Type} (W : Nat → A1 → A2 → A3 → A4 → A5 → Prop) (I : Nat → A1 → A2 → A3 → A4 → A5 → Prop) (N i0 : Nat) (hi : i0 ≤ N) (hx : ∀ n a1 a2 a3 a4 a5, I N a1 a2 a3 a4 a5 → W (n + 1) a1 a2 a3 a4 a5) (hs : ∀ n i a1 a2 a3 a4 a5, i0 ≤ i → i < N → I i a1 a2 a3 a4 a5 → (∀ b1 b2 b3 b4 b5, I (i + 1) b1 b2 b3 b4 b5 → W n b1 b2 b3 b4 b5) → W (n + 1) a1 a2 a3 a4 a5) {a1 : A1} {a2 : A2} {a3 : A3} {a4 : A4} {a5 : A5} (h0 : I i0 a1 a2 a3 a4 a5) : ∃ n, W n a1 a2 a3 a4 a5 :=
  lq1 (fun n (a : A1 × A2 × A3 × A4 × A5) => W n a.1 a.2.1 a.2.2.1 a.2.2.2.1 a.2.2.2.2) (fun i a => I i a.1 a.2.1 a.2.2.1 a.2.2.2.1 a.2.2.2.2) N i0 hi (fun n a h => hx n a.1 a.2.1 a.2.2.1 a.2.2.2.1 a.2.2.2.2 h) (fun n i a h1 h2 h3 h4 => hs n i a.1 a.2.1 a.2.2.1 a.2.2.2.1 a.2.2.2.2 h1 h2 h3 (fun b1 b2 b3 b4 b5 hb => h4 (b1, b2, b3, b4, b5) hb)) (a1 := (a1, a2, a3, a4, a5)) h0
def nS (s : tF) : Nat := (s 0).toNatClampNeg
def apI (a b : Int32) : Int32 := if a < b then b - a else a - b
def eweS (s : tF) (o p : Nat) : Int32 := 2 * s (9 + p) - s (15 + p) - s (23 + 4 * o) / 3 * apI (nI p) (s 3)
def earS (s : tF) (o p : Nat) : Int32 := if s (24 + 4 * o) = nI p then s (22 + 4 * o) else 0
def worthS (s : tF) (o p : Nat) : Int32 :=
  if s (21 + 4 * o) = 1 then eweS s o p + earS s o p
  else if s (21 + 4 * o) = 2 then eweS s o p / 2
  else if s (21 + 4 * o) = 3 then (if nI p = 5 then eweS s o p + earS s o p - s 5 else eweS s o p + earS s o p)
  else if s (21 + 4 * o) = 4 then eweS s o p / 2 + (if s 4 = 1 + nI p then s (22 + 4 * o) else 0)
  else if s (21 + 4 * o) = 5 then eweS s o p + s (9 + p) + s (15 + p)
  else eweS s o p
def hoggS (s : tF) (o : Nat) : Int32 := if s 3 = s (24 + 4 * o) then 2 else 1
def countS (s : tF) (o : Nat) : Int32 :=
  if s (21 + 4 * o) = 1 then hoggS s o
  else if s (21 + 4 * o) = 2 then 0
  else if s (21 + 4 * o) = 3 then 2 * hoggS s o
  else if s (21 + 4 * o) = 4 then 2
  else if s (21 + 4 * o) = 5 then (if s (9 + (s 3).toNatClampNeg) < 3 then 3 else 1)
  else 1
def tameS (s : tF) (o : Nat) : Int32 :=
  if s (21 + 4 * o) = 1 then 2
  else if s (21 + 4 * o) = 2 then 3
  else if s (21 + 4 * o) = 3 then -1
  else if s (21 + 4 * o) = 4 then 3
  else if s (21 + 4 * o) = 5 then 0
  else 1
def voteU (s : tF) (o : Nat) : Nat → Nat
  | 0 => 0
  | k + 1 => if worthS s o (voteU s o k) < worthS s o (k + 1) then k + 1 else voteU s o k
def voteS (s : tF) (o : Nat) : Nat := voteU s o 5
theorem voteU_le (s : tF) (o : Nat) : ∀ k, voteU s o k ≤ k
  | 0 => Nat.le_refl 0
  | k + 1 => by
    have := voteU_le s o k
    unfold voteU
    split <;> omega
theorem voteS_lt (s : tF) (o : Nat) : voteS s o < 6 := Nat.lt_succ_of_le (voteU_le s o 5)
def baseS (s : tF) : tF := fun p => if s 4 = 1 + nI p then s 6 else 0
def tallyU (b : tF) (slot : Nat → Nat) (w : Nat → Int32) : Nat → tF
  | 0 => b
  | k + 1 => upd (tallyU b slot w k) (slot k) (tallyU b slot w k (slot k) + w k)
def favU (t : tF) (a : Int32) : Nat → Nat
  | 0 => 0
  | k + 1 => if t (favU t a k) < t (k + 1) ∨ (t (k + 1) = t (favU t a k) ∧ apI (nI (k + 1)) a < apI (nI (favU t a k)) a) then k + 1 else favU t a k
def favS (t : tF) (a : Int32) : Nat := favU t a 5
theorem favU_le (t : tF) (a : Int32) : ∀ k, favU t a k ≤ k
  | 0 => Nat.le_refl 0
  | k + 1 => by
    have := favU_le t a k
    unfold favU
    split <;> omega
theorem favS_lt (t : tF) (a : Int32) : favS t a < 6 := Nat.lt_succ_of_le (favU_le t a 5)
theorem favU_cg {t t' : tF} (a : Int32) (h : ∀ p, p < 6 → t p = t' p) : ∀ k, k < 6 → favU t a k = favU t' a k
  | 0, _ => rfl
  | k + 1, hk => by
    have e := favU_cg a h k (by omega)
    have hl := favU_le t' a k
    unfold favU
    rw [e, h _ hk, h (favU t' a k) (by omega)]
theorem favS_cg {t t' : tF} (a : Int32) (h : ∀ p, p < 6 → t p = t' p) : favS t a = favS t' a := favU_cg a h 5 (by omega)
theorem tallyU_cg {b b' : tF} {slot slot' : Nat → Nat} {w w' : Nat → Int32} (hb : ∀ p, p < 6 → b p = b' p) : ∀ k, (∀ o, o < k → slot o = slot' o ∧ w o = w' o ∧ slot o < 6) → ∀ p, p < 6 → tallyU b slot w k p = tallyU b' slot' w' k p
  | 0, _, p, hp => hb p hp
  | k + 1, h, p, hp => by
    obtain ⟨h1, h2, h3⟩ := h k (by omega)
    have ih := tallyU_cg hb k (fun o ho => h o (by omega))
    unfold tallyU upd
    rw [← h1, h2, ih p hp, ih _ h3]
def polS (s : tF) : tF := tallyU (baseS s) (voteS s) (countS s) (nS s)
def winS (s : tF) : Nat := favS (polS s) (s 3)
theorem winS_lt (s : tF) : winS s < 6 := favS_lt _ _
def heldI (v : Int32) : Int32 := if v < 0 then 0 else if 9 < v then 9 else v
def atS (s : tF) : Int32 := if s 3 < nI (winS s) then s 3 + 1 else if nI (winS s) < s 3 then s 3 - 1 else s 3
def dayS (s : tF) : tF := fun k =>
  if k = 1 then s 1 + 1 else if k = 3 then atS s
  else if 9 ≤ k ∧ k < 15 then heldI (if nI (k - 9) = atS s then s k - s 7 else s k + 1)
  else if 21 ≤ k ∧ k < 21 + 4 * nS s ∧ (k - 21) % 4 = 2 then heldI (if s k < s (15 + (atS s).toNatClampNeg) then s k + 1 else s k - tameS s ((k - 21) / 4))
  else s k
/-- numbers are as told -/
def upto (x : Int32) (m : Nat) : Prop := ∃ v : Nat, v ≤ m ∧ x = nI v
def OkO (s : tF) (o : Nat) : Prop := upto (s (21 + 4 * o)) 5 ∧ upto (s (22 + 4 * o)) 9 ∧ upto (s (23 + 4 * o)) 9 ∧ upto (s (24 + 4 * o)) 5
def OkS (s : tF) : Prop := upto (s 0) 8 ∧ upto (s 3) 5 ∧ upto (s 4) 6 ∧ (∀ k, k < 3 → upto (s (5 + k)) 9) ∧ upto (s 8) 99 ∧ (∀ p, p < 6 → upto (s (9 + p)) 9) ∧ (∀ p, p < 6 → upto (s (15 + p)) 9) ∧ ∀ o, o < nS s → OkO s o
theorem OkS.n {s : tF} (h : OkS s) : s 0 = nI (nS s) ∧ nS s ≤ 8 := by
  obtain ⟨v, hv, e⟩ := h.1
  have e2 : nS s = v := by unfold nS; rw [e]; exact nI_clamp (by omega)
  rw [e2]; exact ⟨e, hv⟩
theorem OkS.at {s : tF} (h : OkS s) : s 3 = nI (s 3).toNatClampNeg ∧ (s 3).toNatClampNeg < 6 := by
  obtain ⟨v, hv, e⟩ := h.2.1
  have e2 : (s 3).toNatClampNeg = v := by rw [e]; exact nI_clamp (by omega)
  rw [e2]; exact ⟨e, by omega⟩
theorem upto.cl {x : Int32} {m : Nat} (h : upto x m) (hm : m < 2 ^ 31) : x = nI x.toNatClampNeg ∧ x.toNatClampNeg ≤ m := by
  obtain ⟨v, hv, rfl⟩ := h
  rw [nI_clamp (by omega)]; exact ⟨rfl, hv⟩
theorem heldI_up (v : Int32) : upto (heldI v) 9 := by
  unfold heldI
  split
  · exact ⟨0, by omega, rfl⟩
  · split
    · exact ⟨9, by omega, rfl⟩
    · rename_i h1 h2
      obtain ⟨j, hj, rfl⟩ := nI_of h1
      refine ⟨j, ?_, rfl⟩
      rcases Nat.lt_or_ge 9 j with h | h
      · exact absurd (nI_lt h hj) h2
      · exact h
theorem held_x6 (x : Int32) : (if (0 : Int32) < (if x < (9 : Int32) then x else (9 : Int32)) then (if x < (9 : Int32) then x else (9 : Int32)) else (0 : Int32)) = heldI x := by
  unfold heldI
  have e9 : (9 : Int32).toInt = 9 := by decide
  have e0 : (0 : Int32).toInt = 0 := by decide
  by_cases h1 : x < 0
  · have h2 : x < 9 := by rw [Int32.lt_iff_toInt_lt] at h1 ⊢; omega
    have h3 : ¬ 0 < x := by rw [Int32.lt_iff_toInt_lt] at h1 ⊢; omega
    simp [h1, h2, h3]
  · by_cases h2 : x < 9
    · have h3 : ¬ 9 < x := by rw [Int32.lt_iff_toInt_lt] at h2 ⊢; omega
      by_cases h4 : 0 < x
      · simp [h1, h2, h3, h4]
      · have : x = 0 := by
          rw [← Int32.toInt_inj]; rw [Int32.lt_iff_toInt_lt] at h1 h4; omega
        subst this; rfl
    · by_cases h3 : 9 < x
      · have : (0 : Int32) < 9 := by decide
        simp [h1, h2, h3, this]
      · have : x = 9 := by
          rw [← Int32.toInt_inj]; rw [Int32.lt_iff_toInt_lt] at h2 h3; omega
        subst this; rfl
theorem abs_ap : ∀ p, p < 6 → ∀ a, a < 6 → (if 0 ≤ (nI p - nI a) then (nI p - nI a) else 0 - (nI p - nI a)) = apI (nI p) (nI a) := by decide +kernel
theorem ap_sy : ∀ p, p < 6 → ∀ a, a < 6 → apI (nI p) (nI a) = apI (nI a) (nI p) := by decide +kernel
theorem atS_up {s : tF} (h : OkS s) : upto (atS s) 5 := by
  obtain ⟨e, ha⟩ := h.at
  have hw := winS_lt s
  unfold atS
  rw [e]
  generalize (s 3).toNatClampNeg = a at ha
  generalize winS s = w at hw
  rcases Nat.lt_trichotomy a w with hlt | rfl | hgt
  · rw [if_pos (nI_lt hlt (by omega))]
    exact ⟨a + 1, by omega, nI_1 a⟩
  · rw [if_neg (nI_nlt (Nat.le_refl _) (by omega)), if_neg (nI_nlt (Nat.le_refl _) (by omega))]
    exact ⟨a, by omega, rfl⟩
  · rw [if_neg (nI_nlt (by omega) (by omega)), if_pos (nI_lt hgt (by omega))]
    refine ⟨a - 1, by omega, ?_⟩
    exact pk_sub (a := a) (b := 1) (by omega)
theorem nS_day {s : tF} : nS (dayS s) = nS s := by simp [nS, dayS]
theorem OkS.day {s : tF} (h : OkS s) : OkS (dayS s) := by
  refine ⟨by simpa [dayS] using h.1, by simpa [dayS] using atS_up h, by simpa [dayS] using h.2.2.1, fun k hk => ?_, by simpa [dayS] using h.2.2.2.2.1, fun p hp => ?_, fun p hp => ?_, fun o ho => ?_⟩
  · have := h.2.2.2.1 k hk
    have e : dayS s (5 + k) = s (5 + k) := by
      unfold dayS; rw [if_neg (by omega), if_neg (by omega), if_neg (by omega), if_neg (by omega)]
    rw [e]; exact this
  · have e : dayS s (9 + p) = heldI (if nI (9 + p - 9) = atS s then s (9 + p) - s 7 else s (9 + p) + 1) := by
      unfold dayS; rw [if_neg (by omega), if_neg (by omega), if_pos (by omega)]
    rw [e]; exact heldI_up _
  · have e : dayS s (15 + p) = s (15 + p) := by
      unfold dayS; rw [if_neg (by omega), if_neg (by omega), if_neg (by omega), if_neg (by omega)]
    rw [e]; exact h.2.2.2.2.2.2.1 p hp
  · rw [nS_day] at ho
    obtain ⟨h1, h2, h3, h4⟩ := h.2.2.2.2.2.2.2 o ho
    have e1 : dayS s (21 + 4 * o) = s (21 + 4 * o) := by unfold dayS; rw [if_neg (by omega), if_neg (by omega), if_neg (by omega), if_neg (by omega)]
    have e2 : dayS s (22 + 4 * o) = s (22 + 4 * o) := by unfold dayS; rw [if_neg (by omega), if_neg (by omega), if_neg (by omega), if_neg (by omega)]
    have e4 : dayS s (24 + 4 * o) = s (24 + 4 * o) := by unfold dayS; rw [if_neg (by omega), if_neg (by omega), if_neg (by omega), if_neg (by omega)]
    have e3 : ∃ v, dayS s (23 + 4 * o) = heldI v := by unfold dayS; rw [if_neg (by omega), if_neg (by omega), if_neg (by omega), if_pos (by omega)]; exact ⟨_, rfl⟩
    obtain ⟨v, e3⟩ := e3
    refine ⟨by rw [e1]; exact h1, by rw [e2]; exact h2, by rw [e3]; exact heldI_up v, by rw [e4]; exact h4⟩
/-- the class's hill (its numbers F, its rows A) is the hill s -/
def HR (F : tF) (A : tA) (s : tF) : Prop := (F 8 = s 0 ∧ F 9 = s 3 ∧ F 10 = s 4 ∧ F 11 = s 1 ∧ F 12 = s 2) ∧ (∀ k, k < 4 → A 0 k = s (5 + k)) ∧ (∀ p, p < 6 → A 1 p = s (9 + p)) ∧ (∀ p, p < 6 → A 2 p = s (15 + p)) ∧
  ∀ o, o < nS s → A 3 o = s (21 + 4 * o) ∧ A 4 o = s (22 + 4 * o) ∧ A 5 o = s (23 + 4 * o) ∧ A 6 o = s (24 + 4 * o)
