/-- the text constants as terms -/
def sTm (i : Nat) : Term := Term.string RX3 (sIx i)
abbrev lw_G : Jvm.Cond := Jvm.Cond.and given_1 narrow_1
set_option maxRecDepth 100000 in
theorem mx_ex : ∀ i, i < sN → Cond.exactly (sTm i) "java/lang/String" ∈ flatC lw_G := by decide +kernel
set_option maxRecDepth 100000 in
theorem mx_co : ∀ i, i < sN → Cond.eq (.field (sTm i) "java/lang/String" "coder" "B") (.int 0) ∈ flatC lw_G := by decide +kernel
set_option maxRecDepth 100000 in
theorem mx_ar : ∀ i, i < sN → Cond.arrayOf (.field (sTm i) "java/lang/String" "value" "[B") .byte ∈ flatC lw_G := by decide +kernel
set_option maxRecDepth 100000 in
theorem mx_le : ∀ i, i < sN → Cond.eq (.length (.field (sTm i) "java/lang/String" "value" "[B")) (.int (Int32.ofNat (sLen.getD i 0))) ∈ flatC lw_G := by decide +kernel
set_option maxRecDepth 100000 in
theorem mx_el : ∀ i, i < sN → ∀ j, j < sLen.getD i 0 → Cond.eq (.elem (.field (sTm i) "java/lang/String" "value" "[B") (.int (Int32.ofNat j))) (.int ((sByt.getD i []).getD j 0)) ∈ flatC lw_G := by decide +kernel
set_option maxRecDepth 100000 in
theorem mx_ne_1 : ∀ j, j < 1 → Cond.not (Cond.eq (sTm j) (sTm 1)) ∈ flatC lw_G := by decide +kernel
set_option maxRecDepth 100000 in
theorem mx_ne_2 : ∀ j, j < 2 → Cond.not (Cond.eq (sTm j) (sTm 2)) ∈ flatC lw_G := by decide +kernel
set_option maxRecDepth 100000 in
theorem mx_ne_3 : ∀ j, j < 3 → Cond.not (Cond.eq (sTm j) (sTm 3)) ∈ flatC lw_G := by decide +kernel
set_option maxRecDepth 100000 in
theorem mx_ne_4 : ∀ j, j < 4 → Cond.not (Cond.eq (sTm j) (sTm 4)) ∈ flatC lw_G := by decide +kernel
set_option maxRecDepth 100000 in
theorem mx_ne_5 : ∀ j, j < 5 → Cond.not (Cond.eq (sTm j) (sTm 5)) ∈ flatC lw_G := by decide +kernel
set_option maxRecDepth 100000 in
theorem mx_ne_6 : ∀ j, j < 6 → Cond.not (Cond.eq (sTm j) (sTm 6)) ∈ flatC lw_G := by decide +kernel
set_option maxRecDepth 100000 in
theorem mx_ne_7 : ∀ j, j < 7 → Cond.not (Cond.eq (sTm j) (sTm 7)) ∈ flatC lw_G := by decide +kernel
set_option maxRecDepth 100000 in
theorem mx_ne_8 : ∀ j, j < 8 → Cond.not (Cond.eq (sTm j) (sTm 8)) ∈ flatC lw_G := by decide +kernel
set_option maxRecDepth 100000 in
theorem mx_ne_9 : ∀ j, j < 9 → Cond.not (Cond.eq (sTm j) (sTm 9)) ∈ flatC lw_G := by decide +kernel
set_option maxRecDepth 100000 in
theorem mx_ne_10 : ∀ j, j < 10 → Cond.not (Cond.eq (sTm j) (sTm 10)) ∈ flatC lw_G := by decide +kernel
set_option maxRecDepth 100000 in
theorem mx_ne_11 : ∀ j, j < 11 → Cond.not (Cond.eq (sTm j) (sTm 11)) ∈ flatC lw_G := by decide +kernel
set_option maxRecDepth 100000 in
theorem mx_ne_12 : ∀ j, j < 12 → Cond.not (Cond.eq (sTm j) (sTm 12)) ∈ flatC lw_G := by decide +kernel
set_option maxRecDepth 100000 in
theorem mx_ne_13 : ∀ j, j < 13 → Cond.not (Cond.eq (sTm j) (sTm 13)) ∈ flatC lw_G := by decide +kernel
set_option maxRecDepth 100000 in
theorem mx_ne_14 : ∀ j, j < 14 → Cond.not (Cond.eq (sTm j) (sTm 14)) ∈ flatC lw_G := by decide +kernel
set_option maxRecDepth 100000 in
theorem mx_ne_15 : ∀ j, j < 15 → Cond.not (Cond.eq (sTm j) (sTm 15)) ∈ flatC lw_G := by decide +kernel
set_option maxRecDepth 100000 in
theorem mx_ne_16 : ∀ j, j < 16 → Cond.not (Cond.eq (sTm j) (sTm 16)) ∈ flatC lw_G := by decide +kernel
set_option maxRecDepth 100000 in
theorem mx_ne_17 : ∀ j, j < 17 → Cond.not (Cond.eq (sTm j) (sTm 17)) ∈ flatC lw_G := by decide +kernel
theorem mx_ne (i : Nat) (hi : i < sN) : ∀ j, j < i → Cond.not (Cond.eq (sTm j) (sTm i)) ∈ flatC lw_G := by
  have hi : i < 18 := hi
  match i, hi with
  | 0, _ => intro j hj; omega
  | 1, _ => exact mx_ne_1
  | 2, _ => exact mx_ne_2
  | 3, _ => exact mx_ne_3
  | 4, _ => exact mx_ne_4
  | 5, _ => exact mx_ne_5
  | 6, _ => exact mx_ne_6
  | 7, _ => exact mx_ne_7
  | 8, _ => exact mx_ne_8
  | 9, _ => exact mx_ne_9
  | 10, _ => exact mx_ne_10
  | 11, _ => exact mx_ne_11
  | 12, _ => exact mx_ne_12
  | 13, _ => exact mx_ne_13
  | 14, _ => exact mx_ne_14
  | 15, _ => exact mx_ne_15
  | 16, _ => exact mx_ne_16
  | 17, _ => exact mx_ne_17
  | n + 18, h => exact absurd h (by omega)
set_option maxRecDepth 100000 in
theorem mx_sr : ∀ i, i < sN → Cond.stringRef RX3 (sIx i) (sTx i) ∈ lw_tbl := by decide +kernel
