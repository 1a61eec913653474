/-! the words that a call may carry along; checks of the tables, by the kernel -/
def am_g : List Cond := lw_tbl.filter goodWord
theorem am_gin {w : Cond} (h : w ∈ lw_tbl) (hg : goodWord w = true) : w ∈ am_g := List.mem_filter.mpr ⟨h, hg⟩
theorem am_gat {w : Cond} {i : Nat} (h : am_at i = some w) (hg : goodWord w = true) : w ∈ am_g := am_gin (am_at_in h) hg
theorem am_ggood {w : Cond} (h : w ∈ am_g) : (w.onTables && w.keeps) = true ∨ ∃ ty, w = .arrayClass ty := good_of_word (List.mem_filter.mp h).2
def am_okq (q : am_MT) : Bool := Nat.beq q.2.1 2 || am_okm q
set_option maxRecDepth 100000 in
theorem am_mt_ok0 : am_mt0.all am_okq = true := by decide +kernel
set_option maxRecDepth 100000 in
theorem am_mt_ok1 : am_mt1.all am_okq = true := by decide +kernel
set_option maxRecDepth 100000 in
theorem am_mt_ok2 : am_mt2.all am_okq = true := by decide +kernel
set_option maxRecDepth 100000 in
theorem am_mt_ok3 : am_mt3.all am_okq = true := by decide +kernel
set_option maxRecDepth 100000 in
theorem am_mt_ok4 : am_mt4.all am_okq = true := by decide +kernel
set_option maxRecDepth 100000 in
theorem am_mt_ok5 : am_mt5.all am_okq = true := by decide +kernel
set_option maxRecDepth 100000 in
theorem am_mt_ok6 : am_mt6.all am_okq = true := by decide +kernel
set_option maxRecDepth 100000 in
theorem am_mt_ok7 : am_mt7.all am_okq = true := by decide +kernel
set_option maxRecDepth 100000 in
theorem am_mt_ok8 : am_mt8.all am_okq = true := by decide +kernel
set_option maxRecDepth 100000 in
theorem am_mt_ok9 : am_mt9.all am_okq = true := by decide +kernel
set_option maxRecDepth 100000 in
theorem am_mt_ok10 : am_mt10.all am_okq = true := by decide +kernel
set_option maxRecDepth 100000 in
theorem am_mt_ok11 : am_mt11.all am_okq = true := by decide +kernel
set_option maxRecDepth 100000 in
theorem am_mt_ok12 : am_mt12.all am_okq = true := by decide +kernel
set_option maxRecDepth 100000 in
theorem am_mt_ok13 : am_mt13.all am_okq = true := by decide +kernel
set_option maxRecDepth 100000 in
theorem am_mt_ok14 : am_mt14.all am_okq = true := by decide +kernel
set_option maxRecDepth 100000 in
theorem am_mt_ok15 : am_mt15.all am_okq = true := by decide +kernel
set_option maxRecDepth 100000 in
theorem am_mt_ok16 : am_mt16.all am_okq = true := by decide +kernel
set_option maxRecDepth 100000 in
theorem am_mt_ok17 : am_mt17.all am_okq = true := by decide +kernel
theorem am_mt_ok : am_mt.all am_okq = true := by
  simp only [am_mt, List.all_append, am_mt_ok0, am_mt_ok1, am_mt_ok2, am_mt_ok3, am_mt_ok4, am_mt_ok5, am_mt_ok6, am_mt_ok7, am_mt_ok8, am_mt_ok9, am_mt_ok10, am_mt_ok11, am_mt_ok12, am_mt_ok13, am_mt_ok14, am_mt_ok15, am_mt_ok16, am_mt_ok17, Bool.and_self]
theorem am_me_ok (j : Nat) : am_okq (am_me j) = true := by
  unfold am_me
  rw [List.getD_eq_getElem?_getD]
  cases h : am_mt[j]? with
  | none => rfl
  | some q => exact List.all_eq_true.mp am_mt_ok q (List.mem_of_getElem? h)
def am_cl (k : Nat) : vw_C := vwCl.getD k (RX0, TX0, 5)
def am_okF (q : Nat × Nat × Nat × Nat × Nat) : Bool := Nat.blt q.2.2.1 12 && Nat.blt q.2.2.2.1 (am_cl q.2.2.1).2.2 && decide (am_at q.2.2.2.2 = some (.fieldLink (am_on q.1) q.2.1 ((am_cl q.2.2.1).2.1 q.2.2.2.1).1 ((am_cl q.2.2.1).2.1 q.2.2.2.1).2.1 ((am_cl q.2.2.1).2.1 q.2.2.2.1).2.2.1))
set_option maxRecDepth 100000 in
theorem am_lkF_ok : am_lkF.all am_okF = true := by decide +kernel
def am_pn (j : Nat) : MethodName := match j with
  | 9999 => arraycopyName
  | 9001 => Lib.Math.min.name
  | 9002 => Lib.Math.max.name
  | 9003 => Lib.MathLoose.abs_long.x
  | j => am_y j
def am_okM (q : Nat × Nat × Nat × Nat) : Bool := decide (am_at q.2.2.2 = some (.methodLink (am_on q.1) q.2.1 (am_pn q.2.2.1)))
set_option maxRecDepth 100000 in
theorem am_lkM_ok : am_lkM.all am_okM = true := by decide +kernel
def am_okI (q : Nat × Nat × Int32 × Nat) : Bool := decide (am_at q.2.2.2 = some (.constant (am_on q.1) q.2.1 q.2.2.1))
set_option maxRecDepth 100000 in
theorem am_lkI_ok : am_lkI.all am_okI = true := by decide +kernel
def am_okL (q : Nat × Nat × Int64 × Nat) : Bool := decide (am_at q.2.2.2 = some (.constantLong (am_on q.1) q.2.1 q.2.2.1))
set_option maxRecDepth 100000 in
theorem am_lkL_ok : am_lkL.all am_okL = true := by decide +kernel
set_option maxRecDepth 100000 in
theorem am_uws0 : (vwCl.flatMap (fun q => u_ws q.1 q.2.1 q.2.2)).all (fun w => decide (w ∈ am_tb 1) || decide (w ∈ am_tb 2) || decide (w ∈ am_tb 3) || decide (w ∈ am_tb 4) || decide (w ∈ am_tb 5) || decide (w ∈ am_tb 6) || decide (w ∈ am_tb 7) || decide (w ∈ am_tb 8) || decide (w ∈ am_tb 9)) = true := by decide +kernel
set_option maxRecDepth 100000 in
theorem am_uws1 : (vwCl.flatMap (fun q => u_ws q.1 q.2.1 q.2.2)).all goodWord = true := by decide +kernel
