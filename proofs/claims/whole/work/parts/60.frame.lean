/-! the law's own frame: a world with rows of any number behind it, calls of the two objects, what holds between calls -/
theorem va_P.pre {D : va_G} {cl : List vw_C} {a b : va_W} {H : Heap} (h : va_P D cl (a ++ b) H) : va_P D cl a H := fun k q hk => h k q (by rw [List.getElem?_append_left (List.getElem?_eq_some_iff.mp hk).1]; exact hk)
theorem va_D.pre {A : Nat → Prop} {a b : va_W} (h : va_D A (a ++ b)) : va_D A a := by
  have L : ∀ {k : Nat} {q : Nat × va_E}, a[k]? = some q → (a ++ b)[k]? = some q := fun hk => by rw [List.getElem?_append_left (List.getElem?_eq_some_iff.mp hk).1]; exact hk
  exact ⟨fun i j p q hi hj e => h.1 i j p q (L hi) (L hj) e, fun k q hk => h.2 k q (L hk)⟩
theorem va_P.perm {D : va_G} {cl : List vw_C} {a b : va_W} {H : Heap} (h : va_P D cl a H) (p : a.Perm b) : va_P D cl b H := by
  intro k q hk
  obtain ⟨j, hj⟩ := List.getElem?_of_mem (p.mem_iff.mpr (List.mem_of_getElem? hk))
  exact h j q hj
theorem va_D.iff {A : Nat → Prop} {a : va_W} : va_D A a ↔ (a.Pairwise (fun x y => x.1 ≠ y.1) ∧ ∀ q ∈ a, A q.1) := by
  constructor
  · intro h
    refine ⟨List.pairwise_iff_getElem.mpr (fun i j hi hj hij e => ?_), fun q hq => ?_⟩
    · have := h.1 i j _ _ (List.getElem?_eq_getElem hi) (List.getElem?_eq_getElem hj) e
      omega
    · obtain ⟨k, hk⟩ := List.getElem?_of_mem hq
      exact h.2 k q hk
  · rintro ⟨h1, h2⟩
    have h1 := List.pairwise_iff_getElem.mp h1
    refine ⟨fun i j p q hi hj e => ?_, fun k q hk => h2 q (List.mem_of_getElem? hk)⟩
    obtain ⟨li, ei⟩ := List.getElem?_eq_some_iff.mp hi
    obtain ⟨lj, ej⟩ := List.getElem?_eq_some_iff.mp hj
    rcases Nat.lt_trichotomy i j with w | w | w
    · exact absurd (by rw [ei, ej]; exact e) (h1 i j li lj w)
    · exact w
    · exact absurd (by rw [ei, ej]; exact e.symm) (h1 j i lj li w)
theorem va_D.perm {A : Nat → Prop} {a b : va_W} (h : va_D A a) (p : a.Perm b) : va_D A b := by
  obtain ⟨h1, h2⟩ := va_D.iff.mp h
  exact va_D.iff.mpr ⟨(p.pairwise_iff (fun e w => e w.symm)).mp h1, fun q hq => h2 q (p.mem_iff.mpr hq)⟩
/-- the rows -/
abbrev wRow (cI cZ : ClassId) (e : RowE) : va_W := wX5 cI cZ (rN e) (rO e) (fun _ => rA e) (fun _ => rS' e) (fun _ => rI e)
def wRows (cI cZ : ClassId) (RL : List RowE) : va_W := RL.flatMap (wRow cI cZ)
theorem wRows_app (cI cZ : ClassId) (a b : List RowE) : wRows cI cZ (a ++ b) = wRows cI cZ a ++ wRows cI cZ b := List.flatMap_append
theorem wRows_one (cI cZ : ClassId) (e : RowE) : wRows cI cZ [e] = wRow cI cZ e := by
  unfold wRows; rw [List.flatMap_cons, List.flatMap_nil, List.append_nil]
theorem erase_perm {α : Type} : ∀ (l : List α) (k : Nat) (x : α), l[k]? = some x → (x :: l.eraseIdx k).Perm l
  | [], k, x, h => by simp at h
  | a :: l, 0, x, h => by
    have : a = x := by simpa using h
    subst this
    exact List.Perm.refl _
  | a :: l, k + 1, x, h => (List.Perm.swap a x (l.eraseIdx k)).trans ((erase_perm l k x (by simpa using h)).cons a)
/-- one row out of them, and another in its place -/
theorem rows_out (cI cZ : ClassId) {RL : List RowE} {k : Nat} {e : RowE} (hk : RL[k]? = some e) (X : List va_W) : (X ++ [wRows cI cZ RL]).flatten.Perm (X ++ [wRow cI cZ e, wRows cI cZ (RL.eraseIdx k)]).flatten := by
  have h2 : (wRow cI cZ e ++ wRows cI cZ (RL.eraseIdx k)).Perm (wRows cI cZ RL) := by
    have h3 := (erase_perm RL k e hk).flatMap_right (wRow cI cZ)
    rw [List.flatMap_cons] at h3
    exact h3
  rw [List.flatten_append, List.flatten_append]
  refine List.Perm.append_left _ ?_
  rw [List.flatten_cons, List.flatten_nil, List.append_nil, List.flatten_cons, List.flatten_cons, List.flatten_nil, List.append_nil]
  exact h2.symm
theorem rows_in (cI cZ : ClassId) {RL : List RowE} {k : Nat} {e e' : RowE} (hk : RL[k]? = some e) (X : List va_W) : (X ++ [wRow cI cZ e', wRows cI cZ (RL.eraseIdx k)]).flatten.Perm (X ++ [wRows cI cZ (RL.set k e')]).flatten := by
  obtain ⟨hl, -⟩ := List.getElem?_eq_some_iff.mp hk
  have h1 := rows_out cI cZ (RL := RL.set k e') (k := k) (e := e') (by rw [List.getElem?_set_self hl]) X
  rw [List.eraseIdx_set_eq] at h1
  exact h1.symm
theorem rows_new (cI cZ : ClassId) {RL : List RowE} {e : RowE} (X : List va_W) : (X ++ [wRows cI cZ RL, wRow cI cZ e]).flatten = (X ++ [wRows cI cZ (RL ++ [e])]).flatten := by
  rw [List.flatten_append, List.flatten_append]
  rw [List.flatten_cons, List.flatten_cons, List.flatten_nil, List.append_nil, List.flatten_cons, List.flatten_nil, List.append_nil, wRows_app, wRows_one]
section LAWF
variable {p : Program} {l : Launch} {e : Env} {R : Room} {s : State} {m : MethodId} {args : Array Value} {below : List Frame} {meth : Method} {c : Code} {H : Heap} {locs : List Loc} {cells slots : Nat} {Q : State → Prop} {pc : Nat} {ls : Array Slot}
variable {own : String} {cc : ByteArray} {nL : Nat} {D : va_G} {cI cZ cR : ClassId} {adK adV : Nat → Nat} {A9 : Nat → Prop} {y : MethodName} {cy : ByteArray} {ny n ix : Nat} {ret : Option FieldType} {rm : Room} {ws0 wc wr tl : va_W} {S : Type} {wd : S → va_W}
theorem rg_map (ws : va_W) : (List.range ws.length).map (fun i => ws[i]?) = ws.map some := by
  apply List.ext_getElem?
  intro i
  rw [List.getElem?_map, List.getElem?_map]
  rcases Nat.lt_or_ge i ws.length with h | h
  · rw [List.getElem?_range h, List.getElem?_eq_getElem h]; simp [List.getElem?_eq_getElem h]
  · rw [List.getElem?_eq_none (by simpa using h), List.getElem?_eq_none h]; rfl
/-- the same parts, by their places -/
theorem ixp {α : Type} (l : List α) {n : Nat} (hn : l.length = n) (is : List Nat) (h : is.Perm (List.range n)) : (is.filterMap (fun i => l[i]?)).Perm l := by
  subst hn
  have h1 := h.filterMap (fun i => l[i]?)
  have h2 : (List.range l.length).filterMap (fun i => l[i]?) = l := fm_of (by
    apply List.ext_getElem?
    intro i
    rw [List.getElem?_map, List.getElem?_map]
    rcases Nat.lt_or_ge i l.length with h | h
    · rw [List.getElem?_range h, List.getElem?_eq_getElem h]; simp [List.getElem?_eq_getElem h]
    · rw [List.getElem?_eq_none (by simpa using h), List.getElem?_eq_none h]; rfl)
  rw [h2] at h1
  exact h1
/-- a callee's part in front -/
theorem preT (X : CX p s m args c own cc nL D cI cZ cR adK adV A9) (hP : va_P D vwCl (ws0 ++ tl) H) (hD : va_D A9 (ws0 ++ tl)) (hS : va_S A9 s.heap H locs) (av : List Value) :
    (FrameBlind (PrC D cI cZ cR adK adV av ws0 H.size) ∧ ∀ U : State, U.heap = H → s.WarmedH U.vm → PrC D cI cZ cR adK adV av ws0 H.size av.toArray U) ∧ ∀ q, va_A ws0 H.size q → A9 q := by
  obtain ⟨-, -, -, -, -, hK, hA, hE⟩ := X
  have hP1 := hP.pre
  have hD1 := hD.pre
  have hF := va_free (wc := ws0) hD1 hS hA _ (rg_map ws0)
  refine ⟨⟨fun a U g mk q => ?_, fun U hU hW => ⟨rfl, by rw [hU], by rw [hU]; exact hP1, va_K.moved hW.alike hK, hD1.weaken (fun _ _ _ _ => trivial), hE.call hS hU hW hF⟩⟩, hF⟩
  obtain ⟨q0, q1, qP, qK, qD, qE⟩ := q
  exact ⟨q0, q1, qP, va_K.moved (u := U) (U := U.calling g mk a) (Vm.Alike.refl U.vm) qK, qD, qE.calling⟩
theorem aftT (hP : va_P D vwCl (ws0 ++ tl) H) (hD : va_D A9 (ws0 ++ tl)) (hF : ∀ q, va_A ws0 H.size q → A9 q) {u : S} {t : State} {H1 : Heap} (ht : t.heap = H1) (hB : EnD D ws0 H.size wd u t) (hk : ∀ q : Nat, q < H.size → ¬ va_A ws0 H.size q → H1[q]? = H[q]?) :
    va_P D vwCl (wd u ++ tl) H1 ∧ va_D A9 (wd u ++ tl) := by
  obtain ⟨hP1, hD1⟩ := hB
  rw [ht] at hP1
  exact va_joinQ (wr := []) (w1 := wd u) hP hD _ [] (rg_map ws0) rfl rfl (fun i hi => absurd hi List.not_mem_nil) hk hF hP1 hD1
/-- a call of an object's method: the world in parts, the callee's brought in front and laid back -/
theorem Q_vi {K : Int32 → S → Prop} (X : CX p s m args c own cc nL D cI cZ cR adK adV A9) (CS CA CR : List va_W) (CB CN : S → List va_W) (hP : va_P D vwCl CS.flatten H) (hD : va_D A9 CS.flatten) (hS : va_S A9 s.heap H locs) (h1 : (CA ++ CR).Perm CS) (h2 : CA.flatten = ws0) (h3 : ∀ u, (CB u).flatten = wd u) (h4 : ∀ u, (CB u ++ CR).Perm (CN u)) {b : Nat} (As rest : List Value) (hM : MI l D cI cZ cR adK adV y cy ny ret rm (.ref b :: As) ws0 H.size K wd)
    (hc : CalV y cy ny ret n) (hl : Cond.methodLink own ix y ∈ wsL_law) (hn : As.length = n) {ci : Nat} {fs : List Value} {T : u_T} {nT : Nat} (hrc : ws0[0]? = some (b, .inr (ci, fs))) (hcl : vwCl[ci]? = some (y.cls, T, nT)) (hm : rm.cells = 0 ∧ rm.slots = 0) (hRm : rm.frames + 1 ≤ R.frames ∧ 8 + (ny + 11) + rm.locals ≤ R.locals) (hls : ls.size = nL)
    {st : List Value} (hst : st = As.reverse ++ .ref b :: rest) (hw : (rest.map fun v => v.category).sum ≤ 8) (hcs : cells ≤ R.cells ∧ slots ≤ R.slots) (hdg : decode cc pc = .ok (.invokevirtual ix, 3))
    (kk : ∀ (r : Int32) (u : S) (H1 : Heap) (locs1 : List Loc), K r u → va_P D vwCl (CN u).flatten H1 → va_D A9 (CN u).flatten → va_S A9 s.heap H1 locs1 → W p l e R s m args below meth c H1 locs1 cells slots Q (F0 m (pc + 3) ls (.int r :: rest))) :
    W p l e R s m args below meth c H locs cells slots Q (F0 m pc ls st) := by
  subst hst
  have e1 : (CA ++ CR).flatten = ws0 ++ CR.flatten := by rw [List.flatten_append, h2]
  have hP := hP.perm h1.symm.flatten
  have hD := hD.perm h1.symm.flatten
  rw [e1] at hP hD
  obtain ⟨hpr, hF⟩ := preT X hP hD hS (.ref b :: As)
  refine va_calli (va_runV (As := As) (rest := rest) ⟨X.1, X.2.1, X.2.2.1, X.2.2.2.2.1, X.2.2.2.1⟩ hM (cbV X hc hl hm hRm) ⟨hpr.1, va_recv X.2.2.2.2.2.1 hP.pre hcl hrc, hpr.2⟩ rfl hn hls rfl (lv_room hw) hdg ⟨by omega, by omega⟩) hS (fun q _ h => hF q h) hF (fun r u t H1 locs1 ht hvm hk hB hz1 hk1 hS1 => ?_)
  obtain ⟨hP2, hD2⟩ := aftT hP hD hF ht hB hk1
  have e2 : wd u ++ CR.flatten = (CB u ++ CR).flatten := by rw [List.flatten_append, h3]
  rw [e2] at hP2 hD2
  exact kk r u H1 locs1 hk (hP2.perm (h4 u).flatten) (hD2.perm (h4 u).flatten) hS1
theorem Q_vl {K : Int64 → S → Prop} (X : CX p s m args c own cc nL D cI cZ cR adK adV A9) (CS CA CR : List va_W) (CB CN : S → List va_W) (hP : va_P D vwCl CS.flatten H) (hD : va_D A9 CS.flatten) (hS : va_S A9 s.heap H locs) (h1 : (CA ++ CR).Perm CS) (h2 : CA.flatten = ws0) (h3 : ∀ u, (CB u).flatten = wd u) (h4 : ∀ u, (CB u ++ CR).Perm (CN u)) {b : Nat} (As rest : List Value) (hM : ML l D cI cZ cR adK adV y cy ny ret rm (.ref b :: As) ws0 H.size K wd)
    (hc : CalV y cy ny ret n) (hl : Cond.methodLink own ix y ∈ wsL_law) (hn : As.length = n) {ci : Nat} {fs : List Value} {T : u_T} {nT : Nat} (hrc : ws0[0]? = some (b, .inr (ci, fs))) (hcl : vwCl[ci]? = some (y.cls, T, nT)) (hm : rm.cells = 0 ∧ rm.slots = 0) (hRm : rm.frames + 1 ≤ R.frames ∧ 8 + (ny + 11) + rm.locals ≤ R.locals) (hls : ls.size = nL)
    {st : List Value} (hst : st = As.reverse ++ .ref b :: rest) (hw : (rest.map fun v => v.category).sum ≤ 8) (hcs : cells ≤ R.cells ∧ slots ≤ R.slots) (hdg : decode cc pc = .ok (.invokevirtual ix, 3))
    (kk : ∀ (r : Int64) (u : S) (H1 : Heap) (locs1 : List Loc), K r u → va_P D vwCl (CN u).flatten H1 → va_D A9 (CN u).flatten → va_S A9 s.heap H1 locs1 → W p l e R s m args below meth c H1 locs1 cells slots Q (F0 m (pc + 3) ls (.long r :: rest))) :
    W p l e R s m args below meth c H locs cells slots Q (F0 m pc ls st) := by
  subst hst
  have e1 : (CA ++ CR).flatten = ws0 ++ CR.flatten := by rw [List.flatten_append, h2]
  have hP := hP.perm h1.symm.flatten
  have hD := hD.perm h1.symm.flatten
  rw [e1] at hP hD
  obtain ⟨hpr, hF⟩ := preT X hP hD hS (.ref b :: As)
  refine va_calll (va_runV (As := As) (rest := rest) ⟨X.1, X.2.1, X.2.2.1, X.2.2.2.2.1, X.2.2.2.1⟩ hM (cbV X hc hl hm hRm) ⟨hpr.1, va_recv X.2.2.2.2.2.1 hP.pre hcl hrc, hpr.2⟩ rfl hn hls rfl (lv_room hw) hdg ⟨by omega, by omega⟩) hS (fun q _ h => hF q h) hF (fun r u t H1 locs1 ht hvm hk hB hz1 hk1 hS1 => ?_)
  obtain ⟨hP2, hD2⟩ := aftT hP hD hF ht hB hk1
  have e2 : wd u ++ CR.flatten = (CB u ++ CR).flatten := by rw [List.flatten_append, h3]
  rw [e2] at hP2 hD2
  exact kk r u H1 locs1 hk (hP2.perm (h4 u).flatten) (hD2.perm (h4 u).flatten) hS1
/-- a call that makes cells: sheet() with a new row -/
theorem Q_sheet (X : CX p s m args c own cc nL D cI cZ cR adK adV A9) {o : Nat} {q : Nat → Nat} {F : tF} {g : tG} (CS CR : List va_W) (CN : Nat × Nat → List va_W) (hP : va_P D vwCl CS.flatten H) (hD : va_D A9 CS.flatten) (hS : va_S A9 s.heap H locs) {k N : Nat} {x2 : Int32} (hk : k < 4) (h1 : ¬ x2 < -1) (h2 : x2 < 4) (h3 : ¬ x2 = -1) (hN : N ≤ 40) (p1 : ([wX6 o q F, wQ cR (q 10) g] ++ CR).Perm CS) (p2 : ∀ u : Nat × Nat, ([wX6 o q F, wQ cR (q 10) (va_up g k (some u.1)), wX5 cI cZ N u.1 (fun _ => u.2) (fun _ => x2) (fun _ _ => 0)] ++ CR).Perm (CN u))
    (hc : CalV yX6_sheet cX6_sheet 4 (some .int) 3) (hl : Cond.methodLink own ix yX6_sheet ∈ wsL_law) (hRm : 2 + 1 ≤ R.frames ∧ 8 + (4 + 11) + 122 ≤ R.locals) (hls : ls.size = nL)
    {rest : List Value} (hw : (rest.map fun v => v.category).sum ≤ 8) (hcs : cells + 2 ≤ R.cells ∧ slots + 42 ≤ R.slots) (hdg : decode cc pc = .ok (.invokevirtual ix, 3))
    (kk : ∀ (u : Nat × Nat) (H1 : Heap) (locs1 : List Loc), va_P D vwCl (CN u).flatten H1 → va_D A9 (CN u).flatten → va_S A9 s.heap H1 locs1 → W p l e R s m args below meth c H1 locs1 (cells + 2) (slots + 42) Q (F0 m (pc + 3) ls (.int 1 :: rest))) :
    W p l e R s m args below meth c H locs cells slots Q (F0 m pc ls (.int (nI N) :: .int x2 :: .int (nI k) :: .ref o :: rest)) := by
  have e1 : ([wX6 o q F, wQ cR (q 10) g] ++ CR).flatten = (wX6 o q F ++ wQ cR (q 10) g) ++ CR.flatten := by rw [List.flatten_append]; rfl
  have hP := hP.perm p1.symm.flatten
  have hD := hD.perm p1.symm.flatten
  rw [e1] at hP hD
  obtain ⟨hpr, hF⟩ := preT X hP hD hS [.ref o, .int (nI k), .int x2, .int (nI N)]
  refine C_vic (wc := wX6 o q F ++ wQ cR (q 10) g) X hP.pre hD.pre hS [.int (nI k), .int x2, .int (nI N)] rest (w_X6_sheet_A l D cI cZ cR adK adV _ o q F g k hk x2 h1 h2 h3 N hN (fun K k1 => w1 ⟨k, hk, rfl⟩ (by omega) k1)) hc hl rfl ⟨[0, 1], rfl, rfl⟩ 0 rfl rfl ⟨rfl, rfl⟩ hRm hls rfl hw hcs hdg (fun r u t H1 locs1 hr ht hB hk1 hS1 => ?_)
  have hr : r = 1 := hr
  subst hr
  obtain ⟨hP2, hD2⟩ := aftT hP hD hF ht hB hk1
  have e2 : (wX6 o q F ++ wQ cR (q 10) (va_up g k (some u.1)) ++ wX5 cI cZ N u.1 (fun _ => u.2) (fun _ => x2) (fun _ _ => 0)) ++ CR.flatten = ([wX6 o q F, wQ cR (q 10) (va_up g k (some u.1)), wX5 cI cZ N u.1 (fun _ => u.2) (fun _ => x2) (fun _ _ => 0)] ++ CR).flatten := by rw [List.flatten_append]; rfl
  rw [e2] at hP2 hD2
  exact kk u H1 locs1 (hP2.perm (p2 u).flatten) (hD2.perm (p2 u).flatten) hS1
end LAWF
/-! between calls -/
theorem HZ.cg {Fn : tF} {An A A' : tA} (h : HZ Fn An A) (e0 : A' 0 = A 0) (e2 : A' 2 = A 2) (e3 : A' 3 = A 3) : HZ Fn An A' := by
  unfold HZ; rw [e0, e2, e3]; exact h
theorem IvK.cg {F F' Fk : tF} {Ak : tA} {FM FM' : tF} {A A' : tA} (h : IvK F Fk Ak FM A) (e3 : F' 3 = F 3) (e4 : FM' 4 = FM 4) (e1 : A' 1 = A 1) : IvK F' Fk Ak FM' A' := by
  unfold IvK; rw [e3, e4, e1]; exact h
theorem IvT.cg {Fp : tF} {Ap : tA} {FM FM' : tF} {A A' : tA} (h : IvT Fp Ap FM A) (e6 : FM' 6 = FM 6) (e5 : A' 5 = A 5) : IvT Fp Ap FM' A' := by
  unfold IvT; rw [e6, e5]; exact h
theorem IvR.cg {F F' fr : tF} {FM FM' : tF} {A A' : tA} (h : IvR F fr FM A) (e9 : F' 9 = F 9) (e15 : FM' 15 = FM 15) (e14 : A' 14 = A 14) : IvR F' fr FM' A' := by
  unfold IvR; rw [e9, e15, e14]; exact h
theorem IvF.cg {Ff : tF} {Af : tA} {FM FM' : tF} {A A' : tA} (h : IvF Ff Af FM A) (e23 : FM' 23 = FM 23) (e22 : A' 22 = A 22) : IvF Ff Af FM' A' := by
  unfold IvF; rw [e23, e22]; exact h
def LI (F Fn : tF) (An : tA) (Fk : tF) (Ak : tA) (Fp : tF) (Ap : tA) (Ff : tF) (Af : tA) (fr : tF) (gsh gsv : tG) (fs FM : tF) (AM : tA) (RL : List RowE) : Prop :=
  HZ Fn An AM ∧ IvK F Fk Ak FM AM ∧ IvT Fp Ap FM AM ∧ IvR F fr FM AM ∧ IvF Ff Af FM AM ∧ IvS gsh RL AM ∧ IvH gsv fs RL AM
section LIV
variable {F Fn : tF} {An : tA} {Fk : tF} {Ak : tA} {Fp : tF} {Ap : tA} {Ff : tF} {Af : tA} {fr : tF} {gsh gsv : tG} {fs FM : tF} {AM : tA} {RL : List RowE}
theorem LI.z (h : LI F Fn An Fk Ak Fp Ap Ff Af fr gsh gsv fs FM AM RL) : HZ Fn An AM := h.1
theorem LI.k (h : LI F Fn An Fk Ak Fp Ap Ff Af fr gsh gsv fs FM AM RL) : IvK F Fk Ak FM AM := h.2.1
theorem LI.t (h : LI F Fn An Fk Ak Fp Ap Ff Af fr gsh gsv fs FM AM RL) : IvT Fp Ap FM AM := h.2.2.1
theorem LI.r (h : LI F Fn An Fk Ak Fp Ap Ff Af fr gsh gsv fs FM AM RL) : IvR F fr FM AM := h.2.2.2.1
theorem LI.f (h : LI F Fn An Fk Ak Fp Ap Ff Af fr gsh gsv fs FM AM RL) : IvF Ff Af FM AM := h.2.2.2.2.1
theorem LI.s (h : LI F Fn An Fk Ak Fp Ap Ff Af fr gsh gsv fs FM AM RL) : IvS gsh RL AM := h.2.2.2.2.2.1
theorem LI.h (h : LI F Fn An Fk Ak Fp Ap Ff Af fr gsh gsv fs FM AM RL) : IvH gsv fs RL AM := h.2.2.2.2.2.2
theorem LI.rn (h : LI F Fn An Fk Ak Fp Ap Ff Af fr gsh gsv fs FM AM RL) {r r' : Int32} {Fn' : tF} {An' : tA} {FM' : tF} {AM' : tA} (n : Rn FM AM r Fn' An' r' FM' AM') : LI F Fn' An' Fk Ak Fp Ap Ff Af fr gsh gsv fs FM' AM' RL := by
  obtain ⟨-, rfl, kp, hz⟩ := n
  have K : ∀ k, k = 1 ∨ k = 5 ∨ (14 ≤ k ∧ k < 23) → AM' k = AM k := fun k hk => kp k (by omega) (by omega) (by omega) (by omega) (by omega)
  exact ⟨hz, h.k.cg rfl rfl (K 1 (by omega)), h.t.cg rfl (K 5 (by omega)), h.r.cg rfl rfl (K 14 (by omega)), h.f.cg rfl (K 22 (by omega)), h.s.keep (K 16 (by omega)) (K 17 (by omega)) (K 18 (by omega)), h.h.keep (K 19 (by omega)) (K 20 (by omega)) (K 21 (by omega))⟩
theorem LI.feed (h : LI F Fn An Fk Ak Fp Ap Ff Af fr gsh gsv fs FM AM RL) {r r' : Int32} {Fp' : tF} {Ap' : tA} {FM' : tF} {AM' : tA} (n : r = r' ∧ (∀ k, k ≠ 6 → FM' k = FM k) ∧ (∀ k, k ≠ 5 → AM' k = AM k) ∧ IvT Fp' Ap' FM' AM') : LI F Fn An Fk Ak Fp' Ap' Ff Af fr gsh gsv fs FM' AM' RL := by
  obtain ⟨-, f, K, t⟩ := n
  exact ⟨h.z.cg (K 0 (by omega)) (K 2 (by omega)) (K 3 (by omega)), h.k.cg rfl (f 4 (by omega)) (K 1 (by omega)), t, h.r.cg rfl (f 15 (by omega)) (K 14 (by omega)), h.f.cg (f 23 (by omega)) (K 22 (by omega)), h.s.keep (K 16 (by omega)) (K 17 (by omega)) (K 18 (by omega)), h.h.keep (K 19 (by omega)) (K 20 (by omega)) (K 21 (by omega))⟩
theorem LI.hill (h : LI F Fn An Fk Ak Fp Ap Ff Af fr gsh gsv fs FM AM RL) {r r' : Int32} {F' Fn' : tF} {An' : tA} {Fp' : tF} {Ap' : tA} {FM' : tF} {AM' : tA} (n : r = r' ∧ (∀ k, k ≠ 9 → F' k = F k) ∧ (∀ k, (k < 6 ∨ 11 < k) → k ≠ 15 → FM' k = FM k) ∧ (∀ k, k ≠ 0 → k ≠ 3 → AM' k = AM k) ∧ HZ Fn' An' AM' ∧ IvT Fp' Ap' FM' AM' ∧ ((F' 9 = F 9 ∧ FM' 15 = FM 15) ∨ (F' 9 = 0 ∧ FM' 15 = 0))) : LI F' Fn' An' Fk Ak Fp' Ap' Ff Af fr gsh gsv fs FM' AM' RL := by
  obtain ⟨-, g, f, K0, z, t, o⟩ := n
  have K : ∀ k, k = 1 ∨ k = 5 ∨ (14 ≤ k ∧ k < 23) → AM' k = AM k := fun k hk => K0 k (by omega) (by omega)
  refine ⟨z, h.k.cg (g 3 (by omega)) (f 4 (by omega) (by omega)) (K 1 (by omega)), t, ?_, h.f.cg (f 23 (by omega) (by omega)) (K 22 (by omega)), h.s.keep (K 16 (by omega)) (K 17 (by omega)) (K 18 (by omega)), h.h.keep (K 19 (by omega)) (K 20 (by omega)) (K 21 (by omega))⟩
  rcases o with ⟨a, b⟩ | ⟨a, b⟩
  · exact h.r.cg a b (K 14 (by omega))
  · exact ⟨0, by omega, a, b, fun k hk => absurd hk (by omega)⟩
theorem LI.prove (h : LI F Fn An Fk Ak Fp Ap Ff Af fr gsh gsv fs FM AM RL) {r r' : Int32} {F' fr' : tF} {FM' : tF} {AM' : tA} (n : r = r' ∧ (∀ k, k ≠ 9 → F' k = F k) ∧ (∀ k, k ≠ 15 → FM' k = FM k) ∧ (∀ k, k ≠ 0 → k ≠ 2 → k ≠ 12 → k ≠ 14 → AM' k = AM k) ∧ HZ Fn An AM' ∧ IvR F' fr' FM' AM') : LI F' Fn An Fk Ak Fp Ap Ff Af fr' gsh gsv fs FM' AM' RL := by
  obtain ⟨-, g, f, K0, z, r⟩ := n
  have K : ∀ k, k = 1 ∨ k = 5 ∨ (15 ≤ k ∧ k < 23) → AM' k = AM k := fun k hk => K0 k (by omega) (by omega) (by omega) (by omega)
  exact ⟨z, h.k.cg (g 3 (by omega)) (f 4 (by omega)) (K 1 (by omega)), h.t.cg (f 6 (by omega)) (K 5 (by omega)), r, h.f.cg (f 23 (by omega)) (K 22 (by omega)), h.s.keep (K 16 (by omega)) (K 17 (by omega)) (K 18 (by omega)), h.h.keep (K 19 (by omega)) (K 20 (by omega)) (K 21 (by omega))⟩
theorem LI.alter (h : LI F Fn An Fk Ak Fp Ap Ff Af fr gsh gsv fs FM AM RL) {r r' : Int32} {fr' : tF} {FM' : tF} {AM' : tA} (n : r = r' ∧ FM' = FM ∧ (∀ k, k ≠ 14 → AM' k = AM k) ∧ IvR F fr' FM AM') : LI F Fn An Fk Ak Fp Ap Ff Af fr' gsh gsv fs FM' AM' RL := by
  obtain ⟨-, rfl, K, r⟩ := n
  exact ⟨h.z.cg (K 0 (by omega)) (K 2 (by omega)) (K 3 (by omega)), h.k.cg rfl rfl (K 1 (by omega)), h.t.cg rfl (K 5 (by omega)), r, h.f.cg rfl (K 22 (by omega)), h.s.keep (K 16 (by omega)) (K 17 (by omega)) (K 18 (by omega)), h.h.keep (K 19 (by omega)) (K 20 (by omega)) (K 21 (by omega))⟩
theorem LI.keepq (h : LI F Fn An Fk Ak Fp Ap Ff Af fr gsh gsv fs FM AM RL) {r r' : Int32} {F' Fk' : tF} {Ak' : tA} {FM' : tF} {AM' : tA} (n : r = r' ∧ (∀ k, k ≠ 3 → F' k = F k) ∧ (∀ k, k ≠ 4 → FM' k = FM k) ∧ (∀ k, k ≠ 1 → AM' k = AM k) ∧ IvK F' Fk' Ak' FM' AM') : LI F' Fn An Fk' Ak' Fp Ap Ff Af fr gsh gsv fs FM' AM' RL := by
  obtain ⟨-, g, f, K, k⟩ := n
  exact ⟨h.z.cg (K 0 (by omega)) (K 2 (by omega)) (K 3 (by omega)), k, h.t.cg (f 6 (by omega)) (K 5 (by omega)), h.r.cg (g 9 (by omega)) (f 15 (by omega)) (K 14 (by omega)), h.f.cg (f 23 (by omega)) (K 22 (by omega)), h.s.keep (K 16 (by omega)) (K 17 (by omega)) (K 18 (by omega)), h.h.keep (K 19 (by omega)) (K 20 (by omega)) (K 21 (by omega))⟩
theorem LI.again (h : LI F Fn An Fk Ak Fp Ap Ff Af fr gsh gsv fs FM AM RL) {r r' : Int32} {Fn' : tF} {An' : tA} {FM' : tF} {AM' : tA} (n : r = r' ∧ FM' = FM ∧ (∀ k, k ≠ 0 → AM' k = AM k) ∧ HZ Fn' An' AM') : LI F Fn' An' Fk Ak Fp Ap Ff Af fr gsh gsv fs FM' AM' RL := by
  obtain ⟨-, rfl, K, z⟩ := n
  exact ⟨z, h.k.cg rfl rfl (K 1 (by omega)), h.t.cg rfl (K 5 (by omega)), h.r.cg rfl rfl (K 14 (by omega)), h.f.cg rfl (K 22 (by omega)), h.s.keep (K 16 (by omega)) (K 17 (by omega)) (K 18 (by omega)), h.h.keep (K 19 (by omega)) (K 20 (by omega)) (K 21 (by omega))⟩
theorem LI.act (h : LI F Fn An Fk Ak Fp Ap Ff Af fr gsh gsv fs FM AM RL) {r r' : Int32} {Ff' : tF} {Af' : tA} {FM' : tF} {AM' : tA} (n : PA FM AM r Ff' Af' r' FM' AM') : LI F Fn An Fk Ak Fp Ap Ff' Af' fr gsh gsv fs FM' AM' RL := by
  obtain ⟨-, f, K, w⟩ := n
  exact ⟨h.z.cg (K 0 (by omega)) (K 2 (by omega)) (K 3 (by omega)), h.k.cg rfl (f 4 (by omega)) (K 1 (by omega)), h.t.cg (f 6 (by omega)) (K 5 (by omega)), h.r.cg rfl (f 15 (by omega)) (K 14 (by omega)), w, h.s.keep (K 16 (by omega)) (K 17 (by omega)) (K 18 (by omega)), h.h.keep (K 19 (by omega)) (K 20 (by omega)) (K 21 (by omega))⟩
theorem LI.sheetN (h : LI F Fn An Fk Ak Fp Ap Ff Af fr gsh gsv fs FM AM RL) {r r' : Int32} {gsh' : tG} {FM' : tF} {AM' : tA} (n : r = r' ∧ FM' = FM ∧ keep3 16 17 18 AM AM' ∧ IvS gsh' RL AM') : LI F Fn An Fk Ak Fp Ap Ff Af fr gsh' gsv fs FM' AM' RL := by
  obtain ⟨-, rfl, K0, s⟩ := n
  have K : ∀ k, (k < 16 ∨ 18 < k) → AM' k = AM k := fun k hk => K0 k (by omega) (by omega) (by omega)
  exact ⟨h.z.cg (K 0 (by omega)) (K 2 (by omega)) (K 3 (by omega)), h.k.cg rfl rfl (K 1 (by omega)), h.t.cg rfl (K 5 (by omega)), h.r.cg rfl rfl (K 14 (by omega)), h.f.cg rfl (K 22 (by omega)), s, h.h.keep (K 19 (by omega)) (K 20 (by omega)) (K 21 (by omega))⟩
theorem LI.sheetA (h : LI F Fn An Fk Ak Fp Ap Ff Af fr gsh gsv fs FM AM RL) {r r' : Int32} {gsh' : tG} {x : RowE} {FM' : tF} {AM' : tA} (n : r = r' ∧ FM' = FM ∧ keep3 16 17 18 AM AM' ∧ IvS gsh' (RL ++ [x]) AM') : LI F Fn An Fk Ak Fp Ap Ff Af fr gsh' gsv fs FM' AM' (RL ++ [x]) := by
  obtain ⟨-, rfl, K0, s⟩ := n
  have K : ∀ k, (k < 16 ∨ 18 < k) → AM' k = AM k := fun k hk => K0 k (by omega) (by omega) (by omega)
  exact ⟨h.z.cg (K 0 (by omega)) (K 2 (by omega)) (K 3 (by omega)), h.k.cg rfl rfl (K 1 (by omega)), h.t.cg rfl (K 5 (by omega)), h.r.cg rfl rfl (K 14 (by omega)), h.f.cg rfl (K 22 (by omega)), s, (h.h.keep (K 19 (by omega)) (K 20 (by omega)) (K 21 (by omega))).more x⟩
theorem LI.shelf (h : LI F Fn An Fk Ak Fp Ap Ff Af fr gsh gsv fs FM AM RL) {r r' : Int32} {fs' : tF} {gsv' : tG} {FM' : tF} {AM' : tA} (n : PH FM AM RL r fs' gsv' r' FM' AM') : LI F Fn An Fk Ak Fp Ap Ff Af fr gsh gsv' fs' FM' AM' RL := by
  obtain ⟨-, rfl, K0, w⟩ := n
  have K : ∀ k, (k < 19 ∨ 21 < k) → AM' k = AM k := fun k hk => K0 k (by omega) (by omega) (by omega)
  exact ⟨h.z.cg (K 0 (by omega)) (K 2 (by omega)) (K 3 (by omega)), h.k.cg rfl rfl (K 1 (by omega)), h.t.cg rfl (K 5 (by omega)), h.r.cg rfl rfl (K 14 (by omega)), h.f.cg rfl (K 22 (by omega)), h.s.keep (K 16 (by omega)) (K 17 (by omega)) (K 18 (by omega)), w⟩
/-- what sheet t holds: nothing, or the k-th row, which may be written -/
theorem IvS.at2 (h : IvS gsh RL AM) {t : Nat} (ht : t < 4) : SN gsh AM t ∨ ∃ (k : Nat) (x : RowE), RL[k]? = some x ∧ SR gsh AM t (rO x) (rN x) (rS' x) (rI x) ∧ ∀ (A' : tA) (it' : tF), A' 16 = AM 16 → A' 17 = AM 17 → (∀ j, j < rN x → A' 18 (40 * t + j) = it' j) → (∀ k, (k < 40 * t ∨ 40 * t + 40 ≤ k) → A' 18 k = AM 18 k) → IvS gsh (RL.set k (rPut x it')) A' := by
  obtain ⟨rs, inj, a⟩ := id h
  rcases a t ht with ⟨-, b⟩ | ⟨k, x, b, hk, hs⟩
  · exact Or.inl b
  · refine Or.inr ⟨k, x, hk, hs, fun A' it' e16 e17 hin hout => ⟨rs, inj, fun i hi => ?_⟩⟩
    have kl : k < RL.length := (List.getElem?_eq_some_iff.mp hk).1
    by_cases w : i = t
    · subst w
      obtain ⟨s1, s2, s3, s4, s5, s6⟩ := hs
      exact Or.inr ⟨k, rPut x it', b, List.getElem?_set_self kl, s1, s2, s3, by rw [e16]; exact s4, by rw [e17]; exact s5, hin⟩
    · rcases a i hi with ⟨c, d1, d2⟩ | ⟨k', x', c, hk', s1, s2, s3, s4, s5, s6⟩
      · exact Or.inl ⟨c, d1, by rw [e16]; exact d2⟩
      · have ne : k ≠ k' := fun q => w (inj i hi t ht k (by rw [c, q]) b)
        exact Or.inr ⟨k', x', c, by rw [List.getElem?_set_ne ne]; exact hk', s1, s2, s3, by rw [e16]; exact s4, by rw [e17]; exact s5, fun j hj => by rw [hout _ (by omega)]; exact s6 j hj⟩
end LIV
