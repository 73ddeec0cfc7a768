/-! acts -/
abbrev aSt : Type := Nat × tF
def wrS (s : aSt) (b : Int32) : aSt := if 30 ≤ s.1 then s else (s.1 + 1, upd s.2 s.1 b)
def asksP (n : Int32) (s : aSt) (x : Int32) : Int32 × aSt := (x * 2 - n, wrS s 10)
def asksW (n : Int32) (s : aSt) (x : Int32) : Int32 × aSt := (0 - (asksP n (wrS s 30) x).1, (asksP n (wrS s 30) x).2)
def asksS (kd n : Int32) (s : aSt) (x : Int32) : Int32 × aSt :=
  if kd = 2 then asksW n s x else if kd = 3 then ((asksP n (wrS s 51) x).1 + 1, (asksP n (wrS s 51) x).2) else if kd = 4 then ((asksW n (wrS s 40) x).1 * 3, (asksW n (wrS s 40) x).2) else asksP n s x
def bleatsP (kd n e : Int32) (s : aSt) (x : Int32) : Int32 × aSt := ((asksS kd n (wrS s 11) x).1 + e, (asksS kd n (wrS s 11) x).2)
def bleatsS (kd n e : Int32) (s : aSt) (x : Int32) : Int32 × aSt :=
  if kd = 1 then ((bleatsP kd n e (wrS s 20) x).1 - 4, (bleatsP kd n e (wrS s 20) x).2) else if kd = 3 then ((bleatsP kd n e (wrS s 20) x).1 - 4, (bleatsP kd n e (wrS s 20) x).2) else if kd = 4 then ((bleatsP kd n e (wrS s 41) x).1 ^^^ (asksS kd n (bleatsP kd n e (wrS s 41) x).2 e).1, (asksS kd n (bleatsP kd n e (wrS s 41) x).2 e).2) else bleatsP kd n e s x
/-- parted: 1, and then the answer doesn't matter -/
def ptS (n e : Int32) : Int32 := if e - n = 0 then 1 else 0
def turnsS (kd n e : Int32) (s : aSt) (x : Int32) : Int32 × aSt :=
  if kd = 3 then ((x - 7) / (e - n) + e, wrS (wrS s 50) 12) else if kd = 5 then (if e - n = 0 then (0, wrS (wrS s 61) 12) else (x / (e - n) - (asksS kd n (wrS (wrS s 61) 12) n).1, (asksS kd n (wrS (wrS s 61) 12) n).2)) else (x / (e - n), wrS s 12)
def leadsP (kd n e : Int32) (s : aSt) (x : Int32) : Int32 × aSt := ((bleatsS kd n e (wrS s 13) x).1 ^^^ 6, (bleatsS kd n e (wrS s 13) x).2)
def lead2 (kd n e : Int32) (s : aSt) (x : Int32) : Int32 × aSt := ((leadsP kd n e (wrS s 31) x).1 + (turnsS kd n e (leadsP kd n e (wrS s 31) x).2 n).1, (turnsS kd n e (leadsP kd n e (wrS s 31) x).2 n).2)
def leadsS (kd n e : Int32) (s : aSt) (x : Int32) : Int32 × aSt :=
  if kd = 2 then lead2 kd n e s x else if kd = 4 then lead2 kd n e s x else if kd = 5 then (100 - (leadsP kd n e (wrS s 60) x).1, (leadsP kd n e (wrS s 60) x).2) else leadsP kd n e s x
/-- whether leads parts -/
def ptL (kd n e : Int32) : Int32 := if kd = 2 then ptS n e else if kd = 4 then ptS n e else 0
/-! the class's performer -/
def Rc (F : tF) (A : tA) (kd n e : Int32) (s : aSt) (pt : Int32) : Prop := F 1 = nI s.1 ∧ s.1 ≤ 30 ∧ (∀ k, k < s.1 → A 0 k = s.2 k) ∧ F 2 = pt ∧ F 3 = kd ∧ F 4 = n ∧ F 5 = e
theorem wrS_le {s : aSt} {b : Int32} (h : s.1 ≤ 30) : (wrS s b).1 ≤ 30 := by
  unfold wrS; split
  · exact h
  · show s.1 + 1 ≤ 30; omega
theorem s_X4_writeDown {F : tF} {A : tA} {kd n e : Int32} {s : aSt} {pt b : Int32} (h : Rc F A kd n e s pt) {K : tF → tA → Prop} (hk : ∀ F' A', Rc F' A' kd n e (wrS s b) pt → K F' A') : p_X4_writeDown F A b K := by
  obtain ⟨h1, h2, h3, h4⟩ := id h
  unfold p_X4_writeDown
  rw [h1]
  refine ⟨fun q => hk F A ?_, fun q => ⟨?_, fun f hf y hy => hk _ _ ?_⟩⟩
  · have := (nI_leI (a := 30) (b := s.1) (by omega) (by omega)).mp q
    have ew : wrS s b = s := by unfold wrS; rw [if_pos this]
    rw [ew]; exact h
  · have : s.1 < 30 := by
      rcases Nat.lt_or_ge s.1 30 with w | w
      · exact w
      · exact absurd (nI_le (a := 30) (b := s.1) w (by omega)) q
    exact vp_in_nI this (by omega)
  · have hl : s.1 < 30 := by
      rcases Nat.lt_or_ge s.1 30 with w | w
      · exact w
      · exact absurd (nI_le (a := 30) (b := s.1) w (by omega)) q
    have ew : wrS s b = (s.1 + 1, upd s.2 s.1 b) := by unfold wrS; rw [if_neg (by omega)]
    rw [ew]
    rw [nI_clamp (by omega)] at hf
    refine ⟨by rw [pk_us, hy]; exact nI_1 _, by show s.1 + 1 ≤ 30; omega, fun k hk => ?_, by rw [pk_un (by omega)]; exact h4.1, by rw [pk_un (by omega)]; exact h4.2.1, by rw [pk_un (by omega)]; exact h4.2.2.1, by rw [pk_un (by omega)]; exact h4.2.2.2⟩
    have hk : k < s.1 + 1 := hk
    rw [va_up_self, hf]
    show _ = upd s.2 s.1 b k
    by_cases w : k = s.1
    · rw [w, pk_us, pk_us]
    · rw [pk_un w, pk_un w]; exact h3 k (by omega)
def aC (kd : Int32) : Int32 := if kd = 2 then 30 else if kd = 3 then 51 else if kd = 4 then 40 else 10
def bC (kd : Int32) : Int32 := if kd = 1 then 20 else if kd = 3 then 20 else if kd = 4 then 41 else 11
def tC (kd : Int32) : Int32 := if kd = 3 then 50 else if kd = 5 then 61 else 12
def lC (kd : Int32) : Int32 := if kd = 2 then 31 else if kd = 4 then 31 else if kd = 5 then 60 else 13
theorem s_bodyAsks {F : tF} {A : tA} {K : Int32 → Prop} (k : K (aC (F 3))) : p_X4_bodyOf F A 0 K := by
  unfold p_X4_bodyOf p_X4_bodyOfAsks
  unfold aC at k
  refine ⟨fun _ => ⟨fun q => ?_, fun q => ?_, fun q => ?_, fun q1 q2 q3 => ?_⟩, fun q => absurd q (by decide), fun q => absurd q (by decide), fun q => absurd rfl q⟩
  · rw [if_pos q] at k; exact k
  · rw [if_neg (by rw [q]; decide), if_pos q] at k; exact k
  · rw [if_neg (by rw [q]; decide), if_neg (by rw [q]; decide), if_pos q] at k; exact k
  · rw [if_neg q1, if_neg q2, if_neg q3] at k; exact k
theorem s_bodyBleats {F : tF} {A : tA} {K : Int32 → Prop} (k : K (bC (F 3))) : p_X4_bodyOf F A 1 K := by
  unfold p_X4_bodyOf p_X4_bodyOfBleats
  unfold bC at k
  refine ⟨fun q => absurd q (by decide), fun _ => ⟨fun q => ?_, fun q => ?_, fun q => ?_, fun q1 q2 q3 => ?_⟩, fun q => absurd q (by decide), fun _ q => absurd rfl q⟩
  · rw [if_pos q] at k; exact k
  · rw [if_neg (by rw [q]; decide), if_pos q] at k; exact k
  · rw [if_neg (by rw [q]; decide), if_neg (by rw [q]; decide), if_pos q] at k; exact k
  · rw [if_neg q1, if_neg q2, if_neg q3] at k; exact k
theorem s_bodyTurns {F : tF} {A : tA} {K : Int32 → Prop} (k : K (tC (F 3))) : p_X4_bodyOf F A 2 K := by
  unfold p_X4_bodyOf
  unfold tC at k
  refine ⟨fun q => absurd q (by decide), fun q => absurd q (by decide), fun _ => ⟨fun q => ⟨fun w => ?_, fun w => ?_⟩, fun q => ?_⟩, fun _ _ q => absurd rfl q⟩
  · rw [if_neg q, if_neg w] at k; exact k
  · rw [if_neg q, if_pos w] at k; exact k
  · rw [if_pos q] at k; exact k
theorem s_bodyLeads {F : tF} {A : tA} {K : Int32 → Prop} (k : K (lC (F 3))) : p_X4_bodyOf F A 3 K := by
  unfold p_X4_bodyOf p_X4_bodyOfLeads
  unfold lC at k
  refine ⟨fun q => absurd q (by decide), fun q => absurd q (by decide), fun q => absurd q (by decide), fun _ _ _ => ⟨fun q => ?_, fun q => ?_, fun q => ?_, fun q1 q2 q3 => ?_⟩⟩
  · rw [if_pos q] at k; exact k
  · rw [if_neg (by rw [q]; decide), if_pos q] at k; exact k
  · rw [if_neg (by rw [q]; decide), if_neg (by rw [q]; decide), if_pos q] at k; exact k
  · rw [if_neg q1, if_neg q2, if_neg q3] at k; exact k
theorem run_pt {m : Nat} {F : tF} {A : tA} {b x d : Int32} (h : ¬ F 2 = 0) {K : Int32 → tF → tA → Prop} (k : K 0 F A) : p_X4_run (m + 1) F A b x d K := by
  rw [p_X4_run]
  exact ⟨fun _ => k, fun q => absurd q h⟩
theorem run10 {m d : Nat} {F : tF} {A : tA} {kd n e : Int32} {s : aSt} {x : Int32} (h : Rc F A kd n e s 0) (hd : d + 1 ≤ 41) {K : Int32 → tF → tA → Prop} (k : ∀ F' A', Rc F' A' kd n e (asksP n s x).2 0 → K (asksP n s x).1 F' A') : p_X4_run (m + 1) F A 10 x (nI d) K := by
  rw [p_X4_run]
  refine ⟨fun q => absurd h.2.2.2.1 q, fun _ => ⟨fun _ => s_X4_writeDown (b := 10) h (fun F1 A1 r1 y hy => ?_), fun q => absurd (nI_le (a := d) (b := 40) (by omega) (by omega)) q⟩⟩
  rw [nI_1] at hy
  subst hy
  refine ⟨fun _ => ?_, fun q => absurd q (by decide), fun q => absurd q (by decide), fun q => absurd q (by decide), fun q => absurd q (by decide), fun q => absurd q (by decide), fun q => absurd q (by decide), fun q => absurd q (by decide), fun q => absurd q (by decide), fun q => absurd q (by decide), fun q => absurd q (by decide), fun q => absurd q (by decide), fun q => absurd q (by decide), fun q _ _ _ _ _ _ _ _ _ _ _ _ => absurd rfl q⟩
  rw [r1.2.2.2.2.2.1]
  exact k F1 A1 r1
theorem run30 {m d : Nat} {F : tF} {A : tA} {kd n e : Int32} {s : aSt} {x : Int32} (h : Rc F A kd n e s 0) (hd : d + 2 ≤ 41) {K : Int32 → tF → tA → Prop} (k : ∀ F' A', Rc F' A' kd n e (asksW n s x).2 0 → K (asksW n s x).1 F' A') : p_X4_run (m + 2) F A 30 x (nI d) K := by
  rw [p_X4_run]
  refine ⟨fun q => absurd h.2.2.2.1 q, fun _ => ⟨fun _ => s_X4_writeDown (b := 30) h (fun F1 A1 r1 y hy => ?_), fun q => absurd (nI_le (a := d) (b := 40) (by omega) (by omega)) q⟩⟩
  rw [nI_1] at hy
  subst hy
  refine ⟨fun q => absurd q (by decide), fun q => absurd q (by decide), fun q => absurd q (by decide), fun q => absurd q (by decide), fun q => absurd q (by decide), fun _ => ?_, fun q => absurd q (by decide), fun q => absurd q (by decide), fun q => absurd q (by decide), fun q => absurd q (by decide), fun q => absurd q (by decide), fun q => absurd q (by decide), fun q => absurd q (by decide), fun _ _ _ _ _ q _ _ _ _ _ _ _ => absurd rfl q⟩
  exact run10 r1 (by omega) (fun F2 A2 r2 => k F2 A2 r2)
theorem run51 {m d : Nat} {F : tF} {A : tA} {kd n e : Int32} {s : aSt} {x : Int32} (h : Rc F A kd n e s 0) (hd : d + 2 ≤ 41) {K : Int32 → tF → tA → Prop} (k : ∀ F' A', Rc F' A' kd n e (asksP n (wrS s 51) x).2 0 → K ((asksP n (wrS s 51) x).1 + 1) F' A') : p_X4_run (m + 2) F A 51 x (nI d) K := by
  rw [p_X4_run]
  refine ⟨fun q => absurd h.2.2.2.1 q, fun _ => ⟨fun _ => s_X4_writeDown (b := 51) h (fun F1 A1 r1 y hy => ?_), fun q => absurd (nI_le (a := d) (b := 40) (by omega) (by omega)) q⟩⟩
  rw [nI_1] at hy
  subst hy
  refine ⟨fun q => absurd q (by decide), fun q => absurd q (by decide), fun q => absurd q (by decide), fun q => absurd q (by decide), fun q => absurd q (by decide), fun q => absurd q (by decide), fun q => absurd q (by decide), fun q => absurd q (by decide), fun q => absurd q (by decide), fun q => absurd q (by decide), fun _ => ?_, fun q => absurd q (by decide), fun q => absurd q (by decide), fun _ _ _ _ _ _ _ _ _ _ q _ _ => absurd rfl q⟩
  exact run10 r1 (by omega) (fun F2 A2 r2 => k F2 A2 r2)
theorem run40 {m d : Nat} {F : tF} {A : tA} {kd n e : Int32} {s : aSt} {x : Int32} (h : Rc F A kd n e s 0) (hd : d + 3 ≤ 41) {K : Int32 → tF → tA → Prop} (k : ∀ F' A', Rc F' A' kd n e (asksW n (wrS s 40) x).2 0 → K ((asksW n (wrS s 40) x).1 * 3) F' A') : p_X4_run (m + 3) F A 40 x (nI d) K := by
  rw [p_X4_run]
  refine ⟨fun q => absurd h.2.2.2.1 q, fun _ => ⟨fun _ => s_X4_writeDown (b := 40) h (fun F1 A1 r1 y hy => ?_), fun q => absurd (nI_le (a := d) (b := 40) (by omega) (by omega)) q⟩⟩
  rw [nI_1] at hy
  subst hy
  refine ⟨fun q => absurd q (by decide), fun q => absurd q (by decide), fun q => absurd q (by decide), fun q => absurd q (by decide), fun q => absurd q (by decide), fun q => absurd q (by decide), fun q => absurd q (by decide), fun _ => ?_, fun q => absurd q (by decide), fun q => absurd q (by decide), fun q => absurd q (by decide), fun q => absurd q (by decide), fun q => absurd q (by decide), fun _ _ _ _ _ _ _ q _ _ _ _ _ => absurd rfl q⟩
  exact run30 r1 (by omega) (fun F2 A2 r2 => k F2 A2 r2)
theorem runA {m d : Nat} {F : tF} {A : tA} {kd n e : Int32} {s : aSt} {x : Int32} (h : Rc F A kd n e s 0) (hd : d + 3 ≤ 41) {K : Int32 → tF → tA → Prop} (k : ∀ F' A', Rc F' A' kd n e (asksS kd n s x).2 0 → K (asksS kd n s x).1 F' A') : p_X4_run (m + 3) F A (aC kd) x (nI d) K := by
  unfold asksS at k
  unfold aC
  by_cases c2 : kd = 2
  · rw [if_pos c2] at k ⊢; exact run30 (m := m + 1) h (by omega) k
  rw [if_neg c2] at k ⊢
  by_cases c3 : kd = 3
  · rw [if_pos c3] at k ⊢; exact run51 (m := m + 1) h (by omega) k
  rw [if_neg c3] at k ⊢
  by_cases c4 : kd = 4
  · rw [if_pos c4] at k ⊢; exact run40 (m := m) h (by omega) k
  rw [if_neg c4] at k ⊢; exact run10 (m := m + 2) h (by omega) k
theorem run11 {m d : Nat} {F : tF} {A : tA} {kd n e : Int32} {s : aSt} {x : Int32} (h : Rc F A kd n e s 0) (hd : d + 4 ≤ 41) {K : Int32 → tF → tA → Prop} (k : ∀ F' A', Rc F' A' kd n e (bleatsP kd n e s x).2 0 → K (bleatsP kd n e s x).1 F' A') : p_X4_run (m + 4) F A 11 x (nI d) K := by
  rw [p_X4_run]
  refine ⟨fun q => absurd h.2.2.2.1 q, fun _ => ⟨fun _ => s_X4_writeDown (b := 11) h (fun F1 A1 r1 y hy => ?_), fun q => absurd (nI_le (a := d) (b := 40) (by omega) (by omega)) q⟩⟩
  rw [nI_1] at hy
  subst hy
  refine ⟨fun q => absurd q (by decide), fun _ => ?_, fun q => absurd q (by decide), fun q => absurd q (by decide), fun q => absurd q (by decide), fun q => absurd q (by decide), fun q => absurd q (by decide), fun q => absurd q (by decide), fun q => absurd q (by decide), fun q => absurd q (by decide), fun q => absurd q (by decide), fun q => absurd q (by decide), fun q => absurd q (by decide), fun _ q _ _ _ _ _ _ _ _ _ _ _ => absurd rfl q⟩
  refine s_bodyAsks ?_
  rw [r1.2.2.2.2.1]
  refine runA r1 (by omega) (fun F2 A2 r2 => ?_)
  rw [r2.2.2.2.2.2.2]
  exact k F2 A2 r2
theorem run20 {m d : Nat} {F : tF} {A : tA} {kd n e : Int32} {s : aSt} {x : Int32} (h : Rc F A kd n e s 0) (hd : d + 5 ≤ 41) {K : Int32 → tF → tA → Prop} (k : ∀ F' A', Rc F' A' kd n e (bleatsP kd n e (wrS s 20) x).2 0 → K ((bleatsP kd n e (wrS s 20) x).1 - 4) F' A') : p_X4_run (m + 5) F A 20 x (nI d) K := by
  rw [p_X4_run]
  refine ⟨fun q => absurd h.2.2.2.1 q, fun _ => ⟨fun _ => s_X4_writeDown (b := 20) h (fun F1 A1 r1 y hy => ?_), fun q => absurd (nI_le (a := d) (b := 40) (by omega) (by omega)) q⟩⟩
  rw [nI_1] at hy
  subst hy
  refine ⟨fun q => absurd q (by decide), fun q => absurd q (by decide), fun q => absurd q (by decide), fun q => absurd q (by decide), fun _ => ?_, fun q => absurd q (by decide), fun q => absurd q (by decide), fun q => absurd q (by decide), fun q => absurd q (by decide), fun q => absurd q (by decide), fun q => absurd q (by decide), fun q => absurd q (by decide), fun q => absurd q (by decide), fun _ _ _ _ q _ _ _ _ _ _ _ _ => absurd rfl q⟩
  exact run11 r1 (by omega) (fun F2 A2 r2 => k F2 A2 r2)
theorem run41 {m d : Nat} {F : tF} {A : tA} {kd n e : Int32} {s : aSt} {x : Int32} (h : Rc F A kd n e s 0) (hd : d + 5 ≤ 41) {K : Int32 → tF → tA → Prop} (k : ∀ F' A', Rc F' A' kd n e (asksS kd n (bleatsP kd n e (wrS s 41) x).2 e).2 0 → K ((bleatsP kd n e (wrS s 41) x).1 ^^^ (asksS kd n (bleatsP kd n e (wrS s 41) x).2 e).1) F' A') : p_X4_run (m + 5) F A 41 x (nI d) K := by
  rw [p_X4_run]
  refine ⟨fun q => absurd h.2.2.2.1 q, fun _ => ⟨fun _ => s_X4_writeDown (b := 41) h (fun F1 A1 r1 y hy => ?_), fun q => absurd (nI_le (a := d) (b := 40) (by omega) (by omega)) q⟩⟩
  rw [nI_1] at hy
  subst hy
  refine ⟨fun q => absurd q (by decide), fun q => absurd q (by decide), fun q => absurd q (by decide), fun q => absurd q (by decide), fun q => absurd q (by decide), fun q => absurd q (by decide), fun q => absurd q (by decide), fun q => absurd q (by decide), fun _ => ?_, fun q => absurd q (by decide), fun q => absurd q (by decide), fun q => absurd q (by decide), fun q => absurd q (by decide), fun _ _ _ _ _ _ _ _ q _ _ _ _ => absurd rfl q⟩
  refine run11 r1 (by omega) (fun F2 A2 r2 => s_bodyAsks ?_)
  rw [r2.2.2.2.2.1, r2.2.2.2.2.2.2]
  exact runA (m := m + 1) r2 (by omega) (fun F3 A3 r3 => k F3 A3 r3)
theorem runB {m d : Nat} {F : tF} {A : tA} {kd n e : Int32} {s : aSt} {x : Int32} (h : Rc F A kd n e s 0) (hd : d + 5 ≤ 41) {K : Int32 → tF → tA → Prop} (k : ∀ F' A', Rc F' A' kd n e (bleatsS kd n e s x).2 0 → K (bleatsS kd n e s x).1 F' A') : p_X4_run (m + 5) F A (bC kd) x (nI d) K := by
  unfold bleatsS at k
  unfold bC
  by_cases c1 : kd = 1
  · rw [if_pos c1] at k ⊢; exact run20 h (by omega) k
  rw [if_neg c1] at k ⊢
  by_cases c3 : kd = 3
  · rw [if_pos c3] at k ⊢; exact run20 h (by omega) k
  rw [if_neg c3] at k ⊢
  by_cases c4 : kd = 4
  · rw [if_pos c4] at k ⊢; exact run41 h (by omega) k
  rw [if_neg c4] at k ⊢; exact run11 (m := m + 1) h (by omega) k
theorem run13 {m d : Nat} {F : tF} {A : tA} {kd n e : Int32} {s : aSt} {x : Int32} (h : Rc F A kd n e s 0) (hd : d + 6 ≤ 41) {K : Int32 → tF → tA → Prop} (k : ∀ F' A', Rc F' A' kd n e (leadsP kd n e s x).2 0 → K (leadsP kd n e s x).1 F' A') : p_X4_run (m + 6) F A 13 x (nI d) K := by
  rw [p_X4_run]
  refine ⟨fun q => absurd h.2.2.2.1 q, fun _ => ⟨fun _ => s_X4_writeDown (b := 13) h (fun F1 A1 r1 y hy => ?_), fun q => absurd (nI_le (a := d) (b := 40) (by omega) (by omega)) q⟩⟩
  rw [nI_1] at hy
  subst hy
  refine ⟨fun q => absurd q (by decide), fun q => absurd q (by decide), fun q => absurd q (by decide), fun _ => ?_, fun q => absurd q (by decide), fun q => absurd q (by decide), fun q => absurd q (by decide), fun q => absurd q (by decide), fun q => absurd q (by decide), fun q => absurd q (by decide), fun q => absurd q (by decide), fun q => absurd q (by decide), fun q => absurd q (by decide), fun _ _ _ q _ _ _ _ _ _ _ _ _ => absurd rfl q⟩
  refine s_bodyBleats ?_
  rw [r1.2.2.2.2.1]
  exact runB r1 (by omega) (fun F2 A2 r2 => k F2 A2 r2)
theorem run60 {m d : Nat} {F : tF} {A : tA} {kd n e : Int32} {s : aSt} {x : Int32} (h : Rc F A kd n e s 0) (hd : d + 7 ≤ 41) {K : Int32 → tF → tA → Prop} (k : ∀ F' A', Rc F' A' kd n e (leadsP kd n e (wrS s 60) x).2 0 → K (100 - (leadsP kd n e (wrS s 60) x).1) F' A') : p_X4_run (m + 7) F A 60 x (nI d) K := by
  rw [p_X4_run]
  refine ⟨fun q => absurd h.2.2.2.1 q, fun _ => ⟨fun _ => s_X4_writeDown (b := 60) h (fun F1 A1 r1 y hy => ?_), fun q => absurd (nI_le (a := d) (b := 40) (by omega) (by omega)) q⟩⟩
  rw [nI_1] at hy
  subst hy
  refine ⟨fun q => absurd q (by decide), fun q => absurd q (by decide), fun q => absurd q (by decide), fun q => absurd q (by decide), fun q => absurd q (by decide), fun q => absurd q (by decide), fun q => absurd q (by decide), fun q => absurd q (by decide), fun q => absurd q (by decide), fun q => absurd q (by decide), fun q => absurd q (by decide), fun _ => ?_, fun q => absurd q (by decide), fun _ _ _ _ _ _ _ _ _ _ _ q _ => absurd rfl q⟩
  exact run13 r1 (by omega) (fun F2 A2 r2 => k F2 A2 r2)
theorem run12 {m d : Nat} {F : tF} {A : tA} {kd n e : Int32} {s : aSt} {x : Int32} (h : Rc F A kd n e s 0) (hd : d + 1 ≤ 41) {K : Int32 → tF → tA → Prop} (k : ∀ r F' A', Rc F' A' kd n e (wrS s 12) (ptS n e) → (ptS n e = 0 → r = x / (e - n)) → K r F' A') : p_X4_run (m + 1) F A 12 x (nI d) K := by
  rw [p_X4_run]
  refine ⟨fun q => absurd h.2.2.2.1 q, fun _ => ⟨fun _ => s_X4_writeDown (b := 12) h (fun F1 A1 r1 y hy => ?_), fun q => absurd (nI_le (a := d) (b := 40) (by omega) (by omega)) q⟩⟩
  rw [nI_1] at hy
  subst hy
  refine ⟨fun q => absurd q (by decide), fun q => absurd q (by decide), fun _ => ?_, fun q => absurd q (by decide), fun q => absurd q (by decide), fun q => absurd q (by decide), fun q => absurd q (by decide), fun q => absurd q (by decide), fun q => absurd q (by decide), fun q => absurd q (by decide), fun q => absurd q (by decide), fun q => absurd q (by decide), fun q => absurd q (by decide), fun _ _ q _ _ _ _ _ _ _ _ _ _ => absurd rfl q⟩
  unfold p_X4_quotient
  rw [r1.2.2.2.2.2.1, r1.2.2.2.2.2.2]
  refine ⟨fun q => ⟨q, k _ F1 A1 ?_ (fun _ => rfl)⟩, fun q => k _ _ _ ?_ (fun w => ?_)⟩
  · unfold ptS; rw [if_neg q]; exact r1
  · unfold ptS; rw [if_pos q]
    exact ⟨by rw [pk_un (by omega)]; exact r1.1, r1.2.1, r1.2.2.1, pk_us, by rw [pk_un (by omega)]; exact r1.2.2.2.2.1, by rw [pk_un (by omega)]; exact r1.2.2.2.2.2.1, by rw [pk_un (by omega)]; exact r1.2.2.2.2.2.2⟩
  · unfold ptS at w; rw [if_pos q] at w; exact absurd w (by decide)
theorem run50 {m d : Nat} {F : tF} {A : tA} {kd n e : Int32} {s : aSt} {x : Int32} (h : Rc F A kd n e s 0) (hd : d + 2 ≤ 41) {K : Int32 → tF → tA → Prop} (k : ∀ r F' A', Rc F' A' kd n e (wrS (wrS s 50) 12) (ptS n e) → (ptS n e = 0 → r = (x - 7) / (e - n) + e) → K r F' A') : p_X4_run (m + 2) F A 50 x (nI d) K := by
  rw [p_X4_run]
  refine ⟨fun q => absurd h.2.2.2.1 q, fun _ => ⟨fun _ => s_X4_writeDown (b := 50) h (fun F1 A1 r1 y hy => ?_), fun q => absurd (nI_le (a := d) (b := 40) (by omega) (by omega)) q⟩⟩
  rw [nI_1] at hy
  subst hy
  refine ⟨fun q => absurd q (by decide), fun q => absurd q (by decide), fun q => absurd q (by decide), fun q => absurd q (by decide), fun q => absurd q (by decide), fun q => absurd q (by decide), fun q => absurd q (by decide), fun q => absurd q (by decide), fun q => absurd q (by decide), fun _ => ?_, fun q => absurd q (by decide), fun q => absurd q (by decide), fun q => absurd q (by decide), fun _ _ _ _ _ _ _ _ _ q _ _ _ => absurd rfl q⟩
  refine run12 r1 (by omega) (fun r F2 A2 r2 hr => ?_)
  exact k _ F2 A2 r2 (fun w => by rw [hr w, r2.2.2.2.2.2.2])
theorem run61 {m d : Nat} {F : tF} {A : tA} {kd n e : Int32} {s : aSt} {x : Int32} (h : Rc F A kd n e s 0) (hd : d + 4 ≤ 41) {K : Int32 → tF → tA → Prop} (k : ∀ r F' A', Rc F' A' kd n e (if e - n = 0 then wrS (wrS s 61) 12 else (asksS kd n (wrS (wrS s 61) 12) n).2) (ptS n e) → (ptS n e = 0 → r = x / (e - n) - (asksS kd n (wrS (wrS s 61) 12) n).1) → K r F' A') : p_X4_run (m + 4) F A 61 x (nI d) K := by
  rw [p_X4_run]
  refine ⟨fun q => absurd h.2.2.2.1 q, fun _ => ⟨fun _ => s_X4_writeDown (b := 61) h (fun F1 A1 r1 y hy => ?_), fun q => absurd (nI_le (a := d) (b := 40) (by omega) (by omega)) q⟩⟩
  rw [nI_1] at hy
  subst hy
  refine ⟨fun q => absurd q (by decide), fun q => absurd q (by decide), fun q => absurd q (by decide), fun q => absurd q (by decide), fun q => absurd q (by decide), fun q => absurd q (by decide), fun q => absurd q (by decide), fun q => absurd q (by decide), fun q => absurd q (by decide), fun q => absurd q (by decide), fun q => absurd q (by decide), fun q => absurd q (by decide), fun _ => ?_, fun _ _ _ _ _ _ _ _ _ _ _ _ q  => absurd rfl q⟩
  refine run12 (m := m + 2) r1 (by omega) (fun r F2 A2 r2 hr => s_bodyAsks ?_)
  rw [r2.2.2.2.2.1, r2.2.2.2.2.2.1]
  by_cases c : e - n = 0
  · refine run_pt (m := m + 2) (by rw [r2.2.2.2.1]; unfold ptS; rw [if_pos c]; decide) (k _ F2 A2 (by rw [if_pos c]; exact r2) (fun w => ?_))
    unfold ptS at w; rw [if_pos c] at w; exact absurd w (by decide)
  · have p0 : ptS n e = 0 := by unfold ptS; rw [if_neg c]
    rw [p0] at r2 k
    rw [if_neg c] at k
    exact runA (m := m) r2 (by omega) (fun F3 A3 r3 => k _ F3 A3 r3 (fun _ => by rw [hr p0]))
theorem runT {m d : Nat} {F : tF} {A : tA} {kd n e : Int32} {s : aSt} {x : Int32} (h : Rc F A kd n e s 0) (hd : d + 4 ≤ 41) {K : Int32 → tF → tA → Prop} (k : ∀ r F' A', Rc F' A' kd n e (turnsS kd n e s x).2 (ptS n e) → (ptS n e = 0 → r = (turnsS kd n e s x).1) → K r F' A') : p_X4_run (m + 4) F A (tC kd) x (nI d) K := by
  unfold turnsS at k
  unfold tC
  by_cases c3 : kd = 3
  · rw [if_pos c3] at k ⊢; exact run50 (m := m + 2) h (by omega) k
  rw [if_neg c3] at k ⊢
  by_cases c5 : kd = 5
  · rw [if_pos c5] at k ⊢
    refine run61 (m := m) h (by omega) (fun r F' A' r1 hr => k r F' A' ?_ (fun w => ?_))
    · by_cases c : e - n = 0
      · rw [if_pos c] at r1 ⊢; exact r1
      · rw [if_neg c] at r1 ⊢; exact r1
    · have c : ¬ e - n = 0 := fun q => by unfold ptS at w; rw [if_pos q] at w; exact absurd w (by decide)
      rw [if_neg c, hr w]
  rw [if_neg c5] at k ⊢; exact run12 (m := m + 3) h (by omega) k
theorem run31 {m d : Nat} {F : tF} {A : tA} {kd n e : Int32} {s : aSt} {x : Int32} (h : Rc F A kd n e s 0) (hd : d + 7 ≤ 41) {K : Int32 → tF → tA → Prop} (k : ∀ r F' A', Rc F' A' kd n e (lead2 kd n e s x).2 (ptS n e) → (ptS n e = 0 → r = (lead2 kd n e s x).1) → K r F' A') : p_X4_run (m + 7) F A 31 x (nI d) K := by
  rw [p_X4_run]
  refine ⟨fun q => absurd h.2.2.2.1 q, fun _ => ⟨fun _ => s_X4_writeDown (b := 31) h (fun F1 A1 r1 y hy => ?_), fun q => absurd (nI_le (a := d) (b := 40) (by omega) (by omega)) q⟩⟩
  rw [nI_1] at hy
  subst hy
  refine ⟨fun q => absurd q (by decide), fun q => absurd q (by decide), fun q => absurd q (by decide), fun q => absurd q (by decide), fun q => absurd q (by decide), fun q => absurd q (by decide), fun _ => ?_, fun q => absurd q (by decide), fun q => absurd q (by decide), fun q => absurd q (by decide), fun q => absurd q (by decide), fun q => absurd q (by decide), fun q => absurd q (by decide), fun _ _ _ _ _ _ q _ _ _ _ _ _ => absurd rfl q⟩
  refine run13 r1 (by omega) (fun F2 A2 r2 => s_bodyTurns ?_)
  rw [r2.2.2.2.2.1, r2.2.2.2.2.2.1]
  exact runT (m := m + 2) r2 (by omega) (fun r F3 A3 r3 hr => k _ F3 A3 r3 (fun w => by rw [hr w]; rfl))
theorem runL {m d : Nat} {F : tF} {A : tA} {kd n e : Int32} {s : aSt} {x : Int32} (h : Rc F A kd n e s 0) (hd : d + 7 ≤ 41) {K : Int32 → tF → tA → Prop} (k : ∀ r F' A', Rc F' A' kd n e (leadsS kd n e s x).2 (ptL kd n e) → (ptL kd n e = 0 → r = (leadsS kd n e s x).1) → K r F' A') : p_X4_run (m + 7) F A (lC kd) x (nI d) K := by
  unfold leadsS ptL at k
  unfold lC
  by_cases c2 : kd = 2
  · rw [if_pos c2, if_pos c2] at k; rw [if_pos c2]; exact run31 h (by omega) k
  rw [if_neg c2, if_neg c2] at k
  rw [if_neg c2]
  by_cases c4 : kd = 4
  · rw [if_pos c4, if_pos c4] at k; rw [if_pos c4]; exact run31 h (by omega) k
  rw [if_neg c4, if_neg c4] at k
  rw [if_neg c4]
  by_cases c5 : kd = 5
  · rw [if_pos c5] at k ⊢; exact run60 h (by omega) (fun F' A' r1 => k _ F' A' r1 (fun _ => rfl))
  rw [if_neg c5] at k ⊢; exact run13 (m := m + 1) h (by omega) (fun F' A' r1 => k _ F' A' r1 (fun _ => rfl))
/-! the reference's acts -/
def Rm (F0 : tF) (A0 : tA) (F : tF) (A : tA) (kd n e : Int32) (s : aSt) (pt : Int32) : Prop := F 23 = nI s.1 ∧ s.1 ≤ 30 ∧ (∀ k, k < s.1 → A 22 k = s.2 k) ∧ F 27 = pt ∧ F 24 = kd ∧ F 25 = n ∧ F 26 = e ∧ (∀ k, k ≠ 22 → A k = A0 k) ∧ ∀ k, (k < 23 ∨ 27 < k) → F k = F0 k
theorem s_X7_runs {F0 : tF} {A0 : tA} {F : tF} {A : tA} {kd n e : Int32} {s : aSt} {pt b : Int32} (h : Rm F0 A0 F A kd n e s pt) {K : tF → tA → Prop} (hk : ∀ F' A', Rm F0 A0 F' A' kd n e (wrS s b) pt → K F' A') : p_X7_runs F A b K := by
  obtain ⟨h1, h2, h3, h4, h5, h6, h7, h8, h9⟩ := id h
  unfold p_X7_runs
  rw [h1]
  have hl : ¬ (30 : Int32) ≤ nI s.1 → s.1 < 30 := fun q => by
    rcases Nat.lt_or_ge s.1 30 with w | w
    · exact w
    · exact absurd (nI_le (a := 30) (b := s.1) w (by omega)) q
  refine ⟨fun q => hk F A ?_, fun q => ⟨vp_in_nI (hl q) (by omega), fun f hf y hy => hk _ _ ?_⟩⟩
  · have := (nI_leI (a := 30) (b := s.1) (by omega) (by omega)).mp q
    have ew : wrS s b = s := by unfold wrS; rw [if_pos this]
    rw [ew]; exact h
  · have hl := hl q
    have ew : wrS s b = (s.1 + 1, upd s.2 s.1 b) := by unfold wrS; rw [if_neg (by omega)]
    rw [ew]
    rw [nI_clamp (by omega)] at hf
    refine ⟨by rw [pk_us, hy]; exact nI_1 _, by show s.1 + 1 ≤ 30; omega, fun k hk => ?_, by rw [pk_un (by omega)]; exact h4, by rw [pk_un (by omega)]; exact h5, by rw [pk_un (by omega)]; exact h6, by rw [pk_un (by omega)]; exact h7, fun k hk => by rw [va_up_ne _ _ hk]; exact h8 k hk, fun k hk => by rw [pk_un (by omega)]; exact h9 k hk⟩
    have hk : k < s.1 + 1 := hk
    rw [va_up_self, hf]
    show _ = upd s.2 s.1 b k
    by_cases w : k = s.1
    · rw [w, pk_us, pk_us]
    · rw [pk_un w, pk_un w]; exact h3 k (by omega)
theorem m_asksP {F0 : tF} {A0 : tA} {F : tF} {A : tA} {kd n e : Int32} {s : aSt} {x : Int32} (h : Rm F0 A0 F A kd n e s 0) {K : Int32 → tF → tA → Prop} (k : ∀ F' A', Rm F0 A0 F' A' kd n e (asksP n s x).2 0 → K (asksP n s x).1 F' A') : p_X7_asksPlain F A x K := by
  unfold p_X7_asksPlain
  refine s_X7_runs (b := 10) h (fun F1 A1 r1 => ?_)
  rw [r1.2.2.2.2.2.1]
  exact k F1 A1 r1
theorem m_asksW {F0 : tF} {A0 : tA} {F : tF} {A : tA} {kd n e : Int32} {s : aSt} {x : Int32} (h : Rm F0 A0 F A kd n e s 0) {K : Int32 → tF → tA → Prop} (k : ∀ F' A', Rm F0 A0 F' A' kd n e (asksW n s x).2 0 → K (asksW n s x).1 F' A') : p_X7_asksOfWether F A x K := by
  unfold p_X7_asksOfWether
  exact s_X7_runs (b := 30) h (fun F1 A1 r1 => m_asksP r1 (fun F2 A2 r2 => k F2 A2 r2))
theorem m_asks {F0 : tF} {A0 : tA} {F : tF} {A : tA} {kd n e : Int32} {s : aSt} {x : Int32} (h : Rm F0 A0 F A kd n e s 0) {K : Int32 → tF → tA → Prop} (k : ∀ F' A', Rm F0 A0 F' A' kd n e (asksS kd n s x).2 0 → K (asksS kd n s x).1 F' A') : p_X7_asks F A x K := by
  unfold p_X7_asks
  rw [h.2.2.2.2.1]
  unfold asksS at k
  refine ⟨fun q => ?_, fun q => ?_, fun q => ?_, fun q2 q3 q4 => ?_⟩
  · rw [if_pos q] at k; exact m_asksW h k
  · rw [if_neg (by rw [q]; decide), if_pos q] at k; exact s_X7_runs (b := 51) h (fun F1 A1 r1 => m_asksP r1 (fun F2 A2 r2 => k F2 A2 r2))
  · rw [if_neg (by rw [q]; decide), if_neg (by rw [q]; decide), if_pos q] at k; exact s_X7_runs (b := 40) h (fun F1 A1 r1 => m_asksW r1 (fun F2 A2 r2 => k F2 A2 r2))
  · rw [if_neg q2, if_neg q3, if_neg q4] at k; exact m_asksP h k
theorem m_bleatsP {F0 : tF} {A0 : tA} {F : tF} {A : tA} {kd n e : Int32} {s : aSt} {x : Int32} (h : Rm F0 A0 F A kd n e s 0) {K : Int32 → tF → tA → Prop} (k : ∀ F' A', Rm F0 A0 F' A' kd n e (bleatsP kd n e s x).2 0 → K (bleatsP kd n e s x).1 F' A') : p_X7_bleatsPlain F A x K := by
  unfold p_X7_bleatsPlain
  refine s_X7_runs (b := 11) h (fun F1 A1 r1 => m_asks r1 (fun F2 A2 r2 => ?_))
  rw [r2.2.2.2.2.2.2.1]
  exact k F2 A2 r2
theorem m_bleats {F0 : tF} {A0 : tA} {F : tF} {A : tA} {kd n e : Int32} {s : aSt} {x : Int32} (h : Rm F0 A0 F A kd n e s 0) {K : Int32 → tF → tA → Prop} (k : ∀ F' A', Rm F0 A0 F' A' kd n e (bleatsS kd n e s x).2 0 → K (bleatsS kd n e s x).1 F' A') : p_X7_bleats F A x K := by
  unfold p_X7_bleats p_X7_bleats_J16
  rw [h.2.2.2.2.1]
  unfold bleatsS at k
  refine ⟨fun q => ?_, fun q1 => ⟨fun q3 => ⟨fun q4 => ?_, fun q4 => ?_⟩, fun q3 => ?_⟩⟩
  · rw [if_pos q] at k; exact s_X7_runs (b := 20) h (fun F1 A1 r1 => m_bleatsP r1 (fun F2 A2 r2 => k F2 A2 r2))
  · rw [if_neg q1, if_neg q3, if_neg q4] at k; exact m_bleatsP h k
  · rw [if_neg q1, if_neg q3, if_pos q4] at k
    refine s_X7_runs (b := 41) h (fun F1 A1 r1 => m_bleatsP r1 (fun F2 A2 r2 => ?_))
    rw [r2.2.2.2.2.2.2.1]
    exact m_asks r2 (fun F3 A3 r3 => k F3 A3 r3)
  · rw [if_neg q1, if_pos q3] at k; exact s_X7_runs (b := 20) h (fun F1 A1 r1 => m_bleatsP r1 (fun F2 A2 r2 => k F2 A2 r2))
theorem sub0_iff {a b : Int32} : a - b = 0 ↔ a = b := by
  constructor
  · intro h
    have e : a - b + b = a := Int32.sub_add_cancel a b
    rw [h, Int32.zero_add] at e; exact e.symm
  · rintro rfl; exact Int32.sub_self _
theorem m_turnsP {F0 : tF} {A0 : tA} {F : tF} {A : tA} {kd n e : Int32} {s : aSt} {x : Int32} (h : Rm F0 A0 F A kd n e s 0) {K : Int32 → tF → tA → Prop} (k : ∀ r F' A', Rm F0 A0 F' A' kd n e (wrS s 12) (ptS n e) → (ptS n e = 0 → r = x / (e - n)) → K r F' A') : p_X7_turnsPlain F A x K := by
  unfold p_X7_turnsPlain p_X7_turnsPlain_J25 p_X7_turnsPlain_J30
  refine s_X7_runs (b := 12) h (fun F1 A1 r1 => ?_)
  have up : ∀ z, Rm F0 A0 (upd F1 27 z) A1 kd n e (wrS s 12) z := fun z => ⟨by rw [pk_un (by omega)]; exact r1.1, r1.2.1, r1.2.2.1, pk_us, by rw [pk_un (by omega)]; exact r1.2.2.2.2.1, by rw [pk_un (by omega)]; exact r1.2.2.2.2.2.1, by rw [pk_un (by omega)]; exact r1.2.2.2.2.2.2.1, r1.2.2.2.2.2.2.2.1, fun k hk => by rw [pk_un (by omega)]; exact r1.2.2.2.2.2.2.2.2 k hk⟩
  rw [r1.2.2.2.1, r1.2.2.2.2.2.1, r1.2.2.2.2.2.2.1]
  refine ⟨fun q => absurd rfl q, fun _ => ⟨fun q => ⟨bo_0, fun _ => ⟨fun w => q (sub0_iff.mp w).symm, k _ _ _ ?_ (fun _ => rfl)⟩, fun w => absurd rfl w⟩, fun q => ⟨bo_1, fun w => absurd w (by decide), fun _ => k _ _ _ ?_ (fun w => ?_)⟩⟩⟩
  · have : ptS n e = 0 := by unfold ptS; rw [if_neg (fun w => q (sub0_iff.mp w).symm)]
    rw [this]; exact up 0
  · have : ptS n e = 1 := by unfold ptS; rw [if_pos (sub0_iff.mpr q.symm)]
    rw [this]; exact up 1
  · unfold ptS at w; rw [if_pos (sub0_iff.mpr q.symm)] at w; exact absurd w (by decide)
theorem m_turns {F0 : tF} {A0 : tA} {F : tF} {A : tA} {kd n e : Int32} {s : aSt} {x : Int32} (h : Rm F0 A0 F A kd n e s 0) {K : Int32 → tF → tA → Prop} (k : ∀ r F' A', Rm F0 A0 F' A' kd n e (turnsS kd n e s x).2 (ptS n e) → (ptS n e = 0 → r = (turnsS kd n e s x).1) → K r F' A') : p_X7_turns F A x K := by
  unfold p_X7_turns
  rw [h.2.2.2.2.1]
  unfold turnsS at k
  refine ⟨fun q3 => ⟨fun q5 => ?_, fun q5 => ?_⟩, fun q3 => ?_⟩
  · rw [if_neg q3, if_neg q5] at k; exact m_turnsP h k
  · rw [if_neg q3, if_pos q5] at k
    refine s_X7_runs (b := 61) h (fun F1 A1 r1 => m_turnsP r1 (fun r F2 A2 r2 hr => ?_))
    rw [r2.2.2.2.1, r2.2.2.2.2.2.1]
    by_cases c : e - n = 0
    · have p1 : ptS n e = 1 := by unfold ptS; rw [if_pos c]
      rw [p1] at r2 ⊢
      rw [if_pos c, p1] at k
      exact ⟨fun w => absurd w (by decide), fun _ => k _ F2 A2 r2 (fun _ => rfl)⟩
    · have p0 : ptS n e = 0 := by unfold ptS; rw [if_neg c]
      rw [p0] at r2 ⊢
      rw [if_neg c, p0] at k
      exact ⟨fun _ => m_asks r2 (fun F3 A3 r3 => k _ F3 A3 r3 (fun _ => by rw [hr p0])), fun w => absurd rfl w⟩
  · rw [if_pos q3] at k
    refine s_X7_runs (b := 50) h (fun F1 A1 r1 => m_turnsP r1 (fun r F2 A2 r2 hr => ?_))
    rw [r2.2.2.2.2.2.2.1]
    exact k _ F2 A2 r2 (fun w => by rw [hr w])
theorem m_leadsP {F0 : tF} {A0 : tA} {F : tF} {A : tA} {kd n e : Int32} {s : aSt} {x : Int32} (h : Rm F0 A0 F A kd n e s 0) {K : Int32 → tF → tA → Prop} (k : ∀ F' A', Rm F0 A0 F' A' kd n e (leadsP kd n e s x).2 0 → K (leadsP kd n e s x).1 F' A') : p_X7_leadsPlain F A x K := by
  unfold p_X7_leadsPlain
  exact s_X7_runs (b := 13) h (fun F1 A1 r1 => m_bleats r1 (fun F2 A2 r2 => k F2 A2 r2))
theorem m_lead2 {F0 : tF} {A0 : tA} {F : tF} {A : tA} {kd n e : Int32} {s : aSt} {x : Int32} (h : Rm F0 A0 F A kd n e s 0) {K : Int32 → tF → tA → Prop} (k : ∀ r F' A', Rm F0 A0 F' A' kd n e (lead2 kd n e s x).2 (ptS n e) → (ptS n e = 0 → r = (lead2 kd n e s x).1) → K r F' A') : p_X7_leads_J16 F A K x := by
  unfold p_X7_leads_J16
  refine s_X7_runs (b := 31) h (fun F1 A1 r1 => m_leadsP r1 (fun F2 A2 r2 => ?_))
  rw [r2.2.2.2.2.2.1]
  exact m_turns r2 (fun r F3 A3 r3 hr => k _ F3 A3 r3 (fun w => by rw [hr w]; rfl))
theorem m_leads {F0 : tF} {A0 : tA} {F : tF} {A : tA} {kd n e : Int32} {s : aSt} {x : Int32} (h : Rm F0 A0 F A kd n e s 0) {K : Int32 → tF → tA → Prop} (k : ∀ r F' A', Rm F0 A0 F' A' kd n e (leadsS kd n e s x).2 (ptL kd n e) → (ptL kd n e = 0 → r = (leadsS kd n e s x).1) → K r F' A') : p_X7_leads F A x K := by
  unfold p_X7_leads
  rw [h.2.2.2.2.1]
  unfold leadsS ptL at k
  refine ⟨fun q => ?_, fun q2 => ⟨fun q4 => ⟨fun q5 => ?_, fun q5 => ?_⟩, fun q4 => ?_⟩⟩
  · rw [if_pos q, if_pos q] at k; exact m_lead2 h k
  · rw [if_neg q2, if_neg q2, if_neg q4, if_neg q4, if_neg q5] at k; exact m_leadsP h (fun F' A' r1 => k _ F' A' r1 (fun _ => rfl))
  · rw [if_neg q2, if_neg q2, if_neg q4, if_neg q4, if_pos q5] at k; exact s_X7_runs (b := 60) h (fun F1 A1 r1 => m_leadsP r1 (fun F2 A2 r2 => k _ F2 A2 r2 (fun _ => rfl)))
  · rw [if_neg q2, if_neg q2, if_pos q4, if_pos q4] at k; exact m_lead2 h k
/-! act, side by side -/
def PA (FM : tF) (A : tA) (r : Int32) (Ff' : tF) (Af' : tA) : Int32 → tF → tA → Prop := fun r' F' A' => r = r' ∧ (∀ k, (k < 23 ∨ 27 < k) → F' k = FM k) ∧ (∀ k, k ≠ 22 → A' k = A k) ∧ IvF Ff' Af' F' A'
theorem pa_end {FM : tF} {A : tA} {kd n e : Int32} {s : aSt} {pt r r' : Int32} {Ff : tF} {Af : tA} {F' : tF} {A' : tA} (hc : Rc Ff Af kd n e s pt) (hm : Rm FM A F' A' kd n e s pt) (e0 : pt = 0 → r = r') : (pt = 0 → PA FM A r Ff Af r' F' A') ∧ (¬ pt = 0 → PA FM A (-15) Ff Af (-15) F' A') := by
  have I : IvF Ff Af F' A' := ⟨s.1, hc.2.1, hc.1, hm.1, fun k hk => by rw [hc.2.2.1 k hk, hm.2.2.1 k hk]⟩
  exact ⟨fun q => ⟨e0 q, hm.2.2.2.2.2.2.2.2, hm.2.2.2.2.2.2.2.1, I⟩, fun _ => ⟨rfl, hm.2.2.2.2.2.2.2.2, hm.2.2.2.2.2.2.2.1, I⟩⟩
theorem j_act {F Fn Ff fs : tF} {An Af : tA} {gsv : tG} {RL : List RowE} {FM : tF} {A : tA} (hz : HZ Fn An A) (hH : IvH gsv fs RL A) (x w v : Int32) : p_X6_act F Ff Af fs Fn An x w v (fun r Ff' Af' => p_X7_act FM A x w v (PA FM A r Ff' Af')) := by
  obtain ⟨hr, ok, _⟩ := id hz
  have hn8 := ok.n.2
  have Z : PA FM A 0 (upd (upd Ff 1 0) 2 0) Af 0 (upd FM 23 0) A := ⟨rfl, fun k hk => pk_un (by omega), fun _ _ => rfl, 0, by omega, by rw [pk_un (by omega), pk_us]; rfl, by rw [pk_us]; rfl, fun k hk => absurd hk (by omega)⟩
  unfold p_X6_act p_X4_forget
  by_cases c : inR x 4
  rotate_left
  · exact w0 (m := 4) c (by omega) (a0 (by unfold p_X7_act; exact sv0 c (a0 Z)))
  refine w1 (m := 4) c (by omega) (a1 ?_)
  by_cases d : inR w 4
  rotate_left
  · exact w0 (m := 4) d (by omega) (b0 (by unfold p_X7_act; exact sv1 c (a1 (i0 (m := 3) d (by omega) rfl rfl (a0 Z)))))
  refine w1 (m := 4) d (by omega) (b1 ?_)
  obtain ⟨t, ht, rfl⟩ := id c
  have iv : vp_in (nI t) 4 := vp_in_nI ht (by omega)
  rw [nI_clamp (by omega)]
  refine ⟨iv, fun y hy => ?_⟩
  have OFF : (∀ K : Int32 → Prop, (∀ r, r ≠ 1 → K r) → p_X7_heldOn (upd FM 23 0) A (nI t) K) → p_X7_act FM A (nI t) w v (PA FM A 0 (upd (upd Ff 1 0) 2 0) Af) := by
    intro g
    unfold p_X7_act
    exact sv1 c (a1 (i1 (m := 3) d (by omega) rfl rfl (a1 (g _ (fun r hr => ⟨fun q => absurd q hr, fun _ => Z⟩)))))
  have NO : ¬ inR (-1 : Int32) (nS (A 0)) := by rintro ⟨j, hj, e⟩; exact absurd e.symm (nI_m1 j (by omega))
  rcases hH t ht with ⟨_, e1, e2⟩ | ⟨o, ho, _, e1, e2, e3⟩ | ⟨_, _, _, _, e1, e2, _⟩
  · rw [e1] at hy; subst hy
    exact f0 hr ok NO (b0 (OFF (fun K g => heldOn_0 ht e2 (g 0 (by decide)))))
  · rw [e1] at hy; subst hy
    by_cases co : inR (nI o) (nS (A 0))
    rotate_left
    · exact f0 hr ok co (b0 (OFF (fun K g => heldOn_1 ok ht e2 (fun q => absurd (by rw [← e3]; exact q) co) (fun _ => g 0 (by decide)))))
    have hon : o < nS (A 0) := by
      obtain ⟨j, hj, e⟩ := co
      rw [(nI_eq (by omega) (by omega)).mp e]; exact hj
    refine f1 hr ok co (b1 ?_)
    rw [nI_clamp (by omega), (hr.2.2.2.2 o hon).1, (hr.2.2.2.2 o hon).2.1]
    have io : vp_in (nI o) 8 := vp_in_nI (by omega) (by omega)
    refine ⟨io, io, ?_⟩
    generalize hkd : A 0 (21 + 4 * o) = kd
    generalize hea : A 0 (22 + 4 * o) = ea
    have RM : Rm FM A (upd (upd (upd (upd (upd FM 23 0) 27 0) 24 kd) 25 (nI o)) 26 ea) A kd (nI o) ea (0, fun _ => 0) 0 := ⟨by rw [pk_un (by omega), pk_un (by omega), pk_un (by omega), pk_un (by omega), pk_us]; rfl, by show 0 ≤ 30; omega, fun k hk => absurd hk (Nat.not_lt_zero _), by rw [pk_un (by omega), pk_un (by omega), pk_un (by omega), pk_us], by rw [pk_un (by omega), pk_un (by omega), pk_us], by rw [pk_un (by omega), pk_us], pk_us, fun _ _ => rfl, fun k hk => by rw [pk_un (by omega), pk_un (by omega), pk_un (by omega), pk_un (by omega), pk_un (by omega)]⟩
    have G : ∀ K : Int32 → tF → tA → Prop, (w = 0 → p_X7_asks (upd (upd (upd (upd (upd FM 23 0) 27 0) 24 kd) 25 (nI o)) 26 ea) A v (fun r F' A' => p_X7_act_J123 F' A' K r)) → (w = 1 → p_X7_bleats (upd (upd (upd (upd (upd FM 23 0) 27 0) 24 kd) 25 (nI o)) 26 ea) A v (fun r F' A' => p_X7_act_J123 F' A' K r)) → (w = 2 → p_X7_turns (upd (upd (upd (upd (upd FM 23 0) 27 0) 24 kd) 25 (nI o)) 26 ea) A v (fun r F' A' => p_X7_act_J123 F' A' K r)) → (w = 3 → p_X7_leads (upd (upd (upd (upd (upd FM 23 0) 27 0) 24 kd) 25 (nI o)) 26 ea) A v (fun r F' A' => p_X7_act_J123 F' A' K r)) → p_X7_act FM A (nI t) w v K := by
      intro K g0 g1 g2 g3
      unfold p_X7_act
      rw [nI_clamp (by omega), e3]
      refine sv1 c (a1 (i1 (m := 3) d (by omega) rfl rfl (a1 (heldOn_1 ok ht e2 (fun _ => ⟨fun _ => ⟨iv, s_X7_its (c := 0) (k := 21 + 4 * o) ho (by omega) (by omega) ⟨iv, fun y hy => ⟨iv, s_X7_its (c := 1) (k := 22 + 4 * o) ho (by omega) (by omega) ?_⟩⟩⟩, fun q => absurd rfl q⟩) (fun q => absurd (by rw [e3]; exact co) q)))))
      subst hy
      rw [hkd, hea]
      refine ⟨fun q0 => ⟨fun q1 => ⟨fun q2 => g3 ?_, g2⟩, g1⟩, g0⟩
      rcases in4 d with q | q | q | q
      · exact absurd q q0
      · exact absurd q q1
      · exact absurd q q2
      · exact q
    unfold p_X4_perform p_X4_forget
    have RC : Rc (upd (upd (upd (upd (upd (upd (upd Ff 1 0) 2 0) 1 0) 2 0) 3 kd) 4 (nI o)) 5 ea) Af kd (nI o) ea (0, fun _ => 0) 0 := ⟨by rw [pk_un (by omega), pk_un (by omega), pk_un (by omega), pk_un (by omega), pk_us]; rfl, by show 0 ≤ 30; omega, fun k hk => absurd hk (Nat.not_lt_zero _), by rw [pk_un (by omega), pk_un (by omega), pk_un (by omega), pk_us], by rw [pk_un (by omega), pk_un (by omega), pk_us], by rw [pk_un (by omega), pk_us], pk_us⟩
    have e3F : upd (upd (upd (upd (upd (upd (upd Ff 1 0) 2 0) 1 0) 2 0) 3 kd) 4 (nI o)) 5 ea 3 = kd := RC.2.2.2.2.1
    rcases in4 d with q | q | q | q
    · subst q
      refine s_bodyAsks ?_
      rw [e3F]
      refine runA (m := 9) (d := 0) RC (by omega) (fun F1 A1 r1 => ?_)
      rw [r1.2.2.2.1]
      refine ⟨fun _ => G _ (fun _ => m_asks RM (fun F2 A2 r2 => ?_)) (fun q => absurd q (by decide)) (fun q => absurd q (by decide)) (fun q => absurd q (by decide)), fun q => absurd rfl q⟩
      unfold p_X7_act_J123
      rw [r2.2.2.2.1]
      exact ⟨fun q => (pa_end r1 r2 (fun _ => rfl)).1 q, fun q => absurd rfl q⟩
    · subst q
      refine s_bodyBleats ?_
      rw [e3F]
      refine runB (m := 7) (d := 0) RC (by omega) (fun F1 A1 r1 => ?_)
      rw [r1.2.2.2.1]
      refine ⟨fun _ => G _ (fun q => absurd q (by decide)) (fun _ => m_bleats RM (fun F2 A2 r2 => ?_)) (fun q => absurd q (by decide)) (fun q => absurd q (by decide)), fun q => absurd rfl q⟩
      unfold p_X7_act_J123
      rw [r2.2.2.2.1]
      exact ⟨fun q => (pa_end r1 r2 (fun _ => rfl)).1 q, fun q => absurd rfl q⟩
    · subst q
      refine s_bodyTurns ?_
      rw [e3F]
      refine runT (m := 8) (d := 0) RC (by omega) (fun r F1 A1 r1 hr => ?_)
      rw [r1.2.2.2.1]
      refine ⟨fun p => G _ (fun q => absurd q (by decide)) (fun q => absurd q (by decide)) (fun _ => m_turns RM (fun r' F2 A2 r2 hr' => ?_)) (fun q => absurd q (by decide)), fun p => G _ (fun q => absurd q (by decide)) (fun q => absurd q (by decide)) (fun _ => m_turns RM (fun r' F2 A2 r2 hr' => ?_)) (fun q => absurd q (by decide))⟩
      · unfold p_X7_act_J123
        rw [r2.2.2.2.1]
        exact ⟨fun q => (pa_end r1 r2 (fun z => by rw [hr z, hr' z])).1 q, fun q => absurd p q⟩
      · unfold p_X7_act_J123
        rw [r2.2.2.2.1]
        exact ⟨fun q => absurd q p, fun q => (pa_end r1 r2 (r := r) (r' := r') (fun z => absurd z p)).2 q⟩
    · subst q
      refine s_bodyLeads ?_
      rw [e3F]
      refine runL (m := 5) (d := 0) RC (by omega) (fun r F1 A1 r1 hr => ?_)
      rw [r1.2.2.2.1]
      refine ⟨fun p => G _ (fun q => absurd q (by decide)) (fun q => absurd q (by decide)) (fun q => absurd q (by decide)) (fun _ => m_leads RM (fun r' F2 A2 r2 hr' => ?_)), fun p => G _ (fun q => absurd q (by decide)) (fun q => absurd q (by decide)) (fun q => absurd q (by decide)) (fun _ => m_leads RM (fun r' F2 A2 r2 hr' => ?_))⟩
      · unfold p_X7_act_J123
        rw [r2.2.2.2.1]
        exact ⟨fun q => (pa_end r1 r2 (fun z => by rw [hr z, hr' z])).1 q, fun q => absurd p q⟩
      · unfold p_X7_act_J123
        rw [r2.2.2.2.1]
        exact ⟨fun q => absurd q p, fun q => (pa_end r1 r2 (r := r) (r' := r') (fun z => absurd z p)).2 q⟩
  · rw [e1] at hy; subst hy
    exact f0 hr ok NO (b0 (OFF (fun K g => heldOn_2 ht e2 (g 2 (by decide)))))
