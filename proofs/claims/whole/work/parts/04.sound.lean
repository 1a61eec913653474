/-! ===== facts of the tables, as the steps use them ===== -/
theorem am_beq {a b : Nat} (h : Nat.beq a b = true) : a = b := Nat.eq_of_beq_eq_true h
theorem am_blt {a b : Nat} (h : Nat.blt a b = true) : a < b := Nat.le_of_ble_eq_true h
theorem am_lkF_use {o i a1 a2 : Nat} (h : am_lkF.any (fun q => Nat.beq q.1 o && Nat.beq q.2.1 i && Nat.beq q.2.2.1 a1 && Nat.beq q.2.2.2.1 a2) = true) : a1 < 12 ∧ a2 < (am_cl a1).2.2 ∧ Cond.fieldLink (am_on o) i ((am_cl a1).2.1 a2).1 ((am_cl a1).2.1 a2).2.1 ((am_cl a1).2.1 a2).2.2.1 ∈ am_g := by
  obtain ⟨⟨q1, q2, q3, q4, q5⟩, hq, he⟩ := List.any_eq_true.mp h
  have hok := List.all_eq_true.mp am_lkF_ok _ hq
  simp only [Bool.and_eq_true] at he
  obtain ⟨⟨⟨e1, e2⟩, e3⟩, e4⟩ := he
  have e1 := am_beq e1
  have e2 := am_beq e2
  have e3 := am_beq e3
  have e4 := am_beq e4
  try dsimp only at e1 e2 e3 e4
  subst e1; subst e2; subst e3; subst e4
  unfold am_okF at hok
  simp only [Bool.and_eq_true, decide_eq_true_eq] at hok
  exact ⟨am_blt hok.1.1, am_blt hok.1.2, am_gat hok.2 rfl⟩
theorem am_lkM_use {o i a1 : Nat} (h : am_lkM.any (fun q => Nat.beq q.1 o && Nat.beq q.2.1 i && Nat.beq q.2.2.1 a1) = true) : Cond.methodLink (am_on o) i (am_pn a1) ∈ am_g := by
  obtain ⟨⟨q1, q2, q3, q4⟩, hq, he⟩ := List.any_eq_true.mp h
  have hok := List.all_eq_true.mp am_lkM_ok _ hq
  simp only [Bool.and_eq_true] at he
  obtain ⟨⟨e1, e2⟩, e3⟩ := he
  have e1 := am_beq e1
  have e2 := am_beq e2
  have e3 := am_beq e3
  try dsimp only at e1 e2 e3
  subst e1; subst e2; subst e3
  unfold am_okM at hok
  simp only [decide_eq_true_eq] at hok
  exact am_gat hok rfl
theorem am_lkI_use {o i : Nat} {a3 : Int32} (h : am_lkI.any (fun q => Nat.beq q.1 o && Nat.beq q.2.1 i && decide (q.2.2.1 = a3)) = true) : Cond.constant (am_on o) i a3 ∈ am_g := by
  obtain ⟨⟨q1, q2, q3, q4⟩, hq, he⟩ := List.any_eq_true.mp h
  have hok := List.all_eq_true.mp am_lkI_ok _ hq
  simp only [Bool.and_eq_true, decide_eq_true_eq] at he
  obtain ⟨⟨e1, e2⟩, e3⟩ := he
  have e1 := am_beq e1
  have e2 := am_beq e2
  try dsimp only at e1 e2 e3
  subst e1; subst e2; subst e3
  unfold am_okI at hok
  simp only [decide_eq_true_eq] at hok
  exact am_gat hok rfl
theorem am_lkL_use {o i : Nat} {a4 : Int64} (h : am_lkL.any (fun q => Nat.beq q.1 o && Nat.beq q.2.1 i && decide (q.2.2.1 = a4)) = true) : Cond.constantLong (am_on o) i a4 ∈ am_g := by
  obtain ⟨⟨q1, q2, q3, q4⟩, hq, he⟩ := List.any_eq_true.mp h
  have hok := List.all_eq_true.mp am_lkL_ok _ hq
  simp only [Bool.and_eq_true, decide_eq_true_eq] at he
  obtain ⟨⟨e1, e2⟩, e3⟩ := he
  have e1 := am_beq e1
  have e2 := am_beq e2
  try dsimp only at e1 e2 e3
  subst e1; subst e2; subst e3
  unfold am_okL at hok
  simp only [decide_eq_true_eq] at hok
  exact am_gat hok rfl
theorem am_cl_at : ∀ kd : Nat, kd < 12 → vwCl[kd]? = some (am_cl kd) := by
  intro kd h
  match kd, h with
  | 0, _ => rfl
  | 1, _ => rfl
  | 2, _ => rfl
  | 3, _ => rfl
  | 4, _ => rfl
  | 5, _ => rfl
  | 6, _ => rfl
  | 7, _ => rfl
  | 8, _ => rfl
  | 9, _ => rfl
  | 10, _ => rfl
  | 11, _ => rfl
  | k + 12, h => exact absurd h (by omega)
theorem am_cl_in {kd : Nat} (h : kd < 12) : am_cl kd ∈ vwCl := List.mem_of_getElem? (am_cl_at kd h)
theorem am_uws {kd : Nat} (h : kd < 12) : ∀ w ∈ u_ws (am_cl kd).1 (am_cl kd).2.1 (am_cl kd).2.2, w ∈ am_g := by
  intro w hw
  have hm : w ∈ vwCl.flatMap (fun q => u_ws q.1 q.2.1 q.2.2) := List.mem_flatMap.mpr ⟨am_cl kd, am_cl_in h, hw⟩
  have h0 := List.all_eq_true.mp am_uws0 w hm
  have h1 := List.all_eq_true.mp am_uws1 w hm
  simp only [Bool.or_eq_true, decide_eq_true_eq] at h0
  have key : ∀ k : Nat, k < 10 → w ∈ am_tb k → w ∈ am_g := by
    intro k hk hkw
    obtain ⟨i, hi⟩ := List.getElem?_of_mem hkw
    refine am_gin ?_ h1
    unfold lw_tbl tables_1
    simp only [List.mem_append]
    match k, hk, hkw with
    | 0, _, h1 => exact Or.inl h1
    | 1, _, h1 => exact Or.inr (Or.inl h1)
    | 2, _, h1 => exact Or.inr (Or.inr (Or.inl h1))
    | 3, _, h1 => exact Or.inr (Or.inr (Or.inr (Or.inl h1)))
    | 4, _, h1 => exact Or.inr (Or.inr (Or.inr (Or.inr (Or.inl h1))))
    | 5, _, h1 => exact Or.inr (Or.inr (Or.inr (Or.inr (Or.inr (Or.inl h1)))))
    | 6, _, h1 => exact Or.inr (Or.inr (Or.inr (Or.inr (Or.inr (Or.inr (Or.inl h1))))))
    | 7, _, h1 => exact Or.inr (Or.inr (Or.inr (Or.inr (Or.inr (Or.inr (Or.inr (Or.inl h1)))))))
    | 8, _, h1 => exact Or.inr (Or.inr (Or.inr (Or.inr (Or.inr (Or.inr (Or.inr (Or.inr (Or.inl h1))))))))
    | 9, _, h1 => exact Or.inr (Or.inr (Or.inr (Or.inr (Or.inr (Or.inr (Or.inr (Or.inr (Or.inr h1))))))))
  rcases h0 with (((((((h0 | h0) | h0) | h0) | h0) | h0) | h0) | h0) | h0
  · exact key 1 (by decide) h0
  · exact key 2 (by decide) h0
  · exact key 3 (by decide) h0
  · exact key 4 (by decide) h0
  · exact key 5 (by decide) h0
  · exact key 6 (by decide) h0
  · exact key 7 (by decide) h0
  · exact key 8 (by decide) h0
  · exact key 9 (by decide) h0
set_option maxRecDepth 100000 in
theorem am_nm0 : vwCl.all (fun q => (List.range q.2.2).all fun a => (List.range q.2.2).all fun b => Nat.beq a b || decide ((q.2.1 a).2.1 ≠ (q.2.1 b).2.1)) = true := by decide +kernel
theorem am_nm {kd : Nat} (h : kd < 12) : ∀ a, a < (am_cl kd).2.2 → ∀ b, b < (am_cl kd).2.2 → a ≠ b → ((am_cl kd).2.1 a).2.1 ≠ ((am_cl kd).2.1 b).2.1 := by
  intro a ha b hb hab
  have h0 := List.all_eq_true.mp am_nm0 _ (am_cl_in h)
  have h1 := List.all_eq_true.mp h0 a (List.mem_range.mpr ha)
  have h2 := List.all_eq_true.mp h1 b (List.mem_range.mpr hb)
  simp only [Bool.or_eq_true, decide_eq_true_eq] at h2
  rcases h2 with h2 | h2
  · exact absurd (am_beq h2) hab
  · exact h2
def am_ty0 (kd f : Nat) : FieldType := (parseFieldDescriptor ((am_cl kd).2.1 f).2.2.1).getD .int
set_option maxRecDepth 100000 in
theorem am_ty1 : (List.range 12).all (fun kd => (List.range (am_cl kd).2.2).all fun f => (parseFieldDescriptor ((am_cl kd).2.1 f).2.2.1).isSome && (match (am_fd kd f).1 with
  | 0 => decide (am_ty0 kd f = .int)
  | 1 => decide (am_ty0 kd f = .long)
  | _ => true)) = true := by decide +kernel
theorem am_tyok {kd : Nat} (h : kd < 12) : ∀ f, f < (am_cl kd).2.2 → parseFieldDescriptor ((am_cl kd).2.1 f).2.2.1 = some (am_ty0 kd f) := by
  intro f hf
  have h0 := List.all_eq_true.mp am_ty1 kd (List.mem_range.mpr h)
  have h1 := List.all_eq_true.mp h0 f (List.mem_range.mpr hf)
  simp only [Bool.and_eq_true] at h1
  obtain ⟨x, hx⟩ := Option.isSome_iff_exists.mp h1.1
  unfold am_ty0
  rw [hx]
  rfl
theorem am_tyI {kd f : Nat} (h : kd < 12) (hf : f < (am_cl kd).2.2) (e : (am_fd kd f).1 = 0) : parseFieldDescriptor ((am_cl kd).2.1 f).2.2.1 = some .int := by
  have h0 := List.all_eq_true.mp am_ty1 kd (List.mem_range.mpr h)
  have h1 := List.all_eq_true.mp h0 f (List.mem_range.mpr hf)
  simp only [Bool.and_eq_true] at h1
  have h2 := h1.2
  rw [e] at h2
  rw [am_tyok h f hf, of_decide_eq_true h2]
theorem am_tyL {kd f : Nat} (h : kd < 12) (hf : f < (am_cl kd).2.2) (e : (am_fd kd f).1 = 1) : parseFieldDescriptor ((am_cl kd).2.1 f).2.2.1 = some .long := by
  have h0 := List.all_eq_true.mp am_ty1 kd (List.mem_range.mpr h)
  have h1 := List.all_eq_true.mp h0 f (List.mem_range.mpr hf)
  simp only [Bool.and_eq_true] at h1
  have h2 := h1.2
  rw [e] at h2
  rw [am_tyok h f hf, of_decide_eq_true h2]
theorem am_fd_at {kd f : Nat} {q : Nat × Nat × Nat} (h : am_fd kd f = q) (h9 : q.1 ≠ 9) : (am_fl kd)[f]? = some q := by
  unfold am_fd at h
  rw [List.getD_eq_getElem?_getD] at h
  cases hq : (am_fl kd)[f]? with
  | none => rw [hq] at h; subst h; exact absurd rfl h9
  | some z => rw [hq] at h; subst h; rfl
theorem am_wk_lo {kd a : Nat} (h : am_wkb kd a = true) (hk : kd < 60) : a < am_N ∧ am_sh a = kd := by
  unfold am_wkb at h
  simp only [Bool.or_eq_true, Bool.and_eq_true] at h
  rcases h with ((h | h) | h) | h
  · exact ⟨am_blt h.1, am_beq h.2⟩
  · have := am_beq h.1.1; omega
  · have := am_beq h.1; omega
  · have := am_beq h.1; omega
theorem am_wk_ar {kd a : Nat} (h : am_wkb kd a = true) (hk : (am_ar kd).1 < 5) : a < am_N ∧ am_sh a = kd := by
  unfold am_wkb at h
  simp only [Bool.or_eq_true, Bool.and_eq_true] at h
  rcases h with ((h | h) | h) | h
  · exact ⟨am_blt h.1, am_beq h.2⟩
  · rw [am_beq h.1.1] at hk; exact absurd hk (by decide)
  · rw [am_beq h.1] at hk; exact absurd hk (by decide)
  · rw [am_beq h.1] at hk; exact absurd hk (by decide)
set_option maxRecDepth 100000 in
theorem am_clo0 : (List.range am_N).all (fun a => (am_fl (am_sh a)).all (fun q => !(Nat.beq q.1 2) || am_wkb q.2.1 (a + q.2.2))) = true := by decide +kernel
set_option maxRecDepth 100000 in
theorem am_clo1 : (List.range am_N).all (fun a => !(Nat.beq (am_ar (am_sh a)).1 4) || (List.range (am_ar (am_sh a)).2.1).all (fun i => am_wkb (am_ar (am_sh a)).2.2.2.1 (a + ((am_ar (am_sh a)).2.2.2.2.1 + (am_ar (am_sh a)).2.2.2.2.2 * i)))) = true := by decide +kernel
set_option maxRecDepth 100000 in
theorem am_clo2 : (List.range am_N).all (fun a => Nat.blt (am_sh a) 20 == Nat.beq (am_ar (am_sh a)).1 9 && (!(Nat.blt (am_ar (am_sh a)).1 4) || Nat.beq (am_ar (am_sh a)).2.2.1 (am_ar (am_sh a)).1) && (!(Nat.beq (am_ar (am_sh a)).1 4) || (Nat.ble 4 (am_ar (am_sh a)).2.2.1 && Nat.ble (am_ar (am_sh a)).2.2.1 6)) && Nat.ble (am_ar (am_sh a)).2.1 2000) = true := by decide +kernel
theorem am_clo_f {a f : Nat} {k2 dd : Nat} (ha : a < am_N) (h : am_fd (am_sh a) f = (2, k2, dd)) : am_wkb k2 (a + dd) = true := by
  have h0 := List.all_eq_true.mp am_clo0 a (List.mem_range.mpr ha)
  have h1 := List.all_eq_true.mp h0 _ (List.mem_of_getElem? (am_fd_at h (by simp)))
  simpa using h1
theorem am_clo_a {a i : Nat} {n ci ek f0 dd : Nat} (ha : a < am_N) (h : am_ar (am_sh a) = (4, n, ci, ek, f0, dd)) (hi : i < n) : am_wkb ek (a + (f0 + dd * i)) = true := by
  have h0 := List.all_eq_true.mp am_clo1 a (List.mem_range.mpr ha)
  rw [h] at h0
  simp only [Bool.or_eq_true] at h0
  rcases h0 with h0 | h0
  · exact absurd h0 (by decide)
  · exact List.all_eq_true.mp h0 i (List.mem_range.mpr hi)
theorem am_clo_k {a : Nat} (ha : a < am_N) : (am_sh a < 20 ↔ (am_ar (am_sh a)).1 = 9) ∧ ((am_ar (am_sh a)).1 < 4 → (am_ar (am_sh a)).2.2.1 = (am_ar (am_sh a)).1) ∧ ((am_ar (am_sh a)).1 = 4 → 4 ≤ (am_ar (am_sh a)).2.2.1 ∧ (am_ar (am_sh a)).2.2.1 ≤ 6) ∧ (am_ar (am_sh a)).2.1 ≤ 2000 := by
  have h0 := List.all_eq_true.mp am_clo2 a (List.mem_range.mpr ha)
  simp only [Bool.and_eq_true, Bool.or_eq_true, beq_iff_eq] at h0
  obtain ⟨⟨⟨h1, h2⟩, h3⟩, h4⟩ := h0
  refine ⟨⟨fun q => ?_, fun q => ?_⟩, fun q => ?_, fun q => ?_, Nat.le_of_ble_eq_true h4⟩
  · have e : Nat.blt (am_sh a) 20 = true := Nat.ble_eq_true_of_le q
    rw [e] at h1
    exact am_beq h1.symm
  · have e : Nat.beq (am_ar (am_sh a)).1 9 = true := by rw [q]; rfl
    rw [e] at h1
    exact am_blt h1
  · rcases h2 with h2 | h2
    · have e : Nat.blt (am_ar (am_sh a)).1 4 = true := Nat.ble_eq_true_of_le q
      rw [e] at h2
      exact absurd h2 (by decide)
    · exact am_beq h2
  · rcases h3 with h3 | h3
    · have e : Nat.beq (am_ar (am_sh a)).1 4 = true := by rw [q]; rfl
      rw [e] at h3
      exact absurd h3 (by decide)
    · exact ⟨Nat.le_of_ble_eq_true h3.1, Nat.le_of_ble_eq_true h3.2⟩
theorem am_ce_o {C : aC} {M : aM} {a kd : Nat} (h : am_sh a = kd) (hk : kd < 20) : am_ce C M a = .inr (kd, am_fs C M a) := by
  unfold am_ce
  rw [h, if_pos hk]
theorem am_ce_a {C : aC} {M : aM} {a kd : Nat} {q : am_AT} (ha : a < am_N) (h : am_sh a = kd) (hq : am_ar kd = q) (h9 : q.1 ≠ 9) : am_ce C M a = .inl (C.2.2.1 q.2.2.1, q.2.1, am_ac C M a q) := by
  unfold am_ce
  subst h
  rw [if_neg (fun z => h9 (by rw [← hq]; exact (am_clo_k ha).1.mp z)), hq]
theorem am_ce_same {C : aC} {M M' : aM} {b : Nat} (h1 : M'.1 b = M.1 b) (h2 : M'.2 b = M.2 b) : am_ce C M' b = am_ce C M b := by
  unfold am_ce
  have e1 : am_fs C M' b = am_fs C M b := by
    unfold am_fs am_fv
    simp only [h1, h2]
  have e2 : ∀ q, am_ac C M' b q = am_ac C M b q := by
    intro q
    unfold am_ac
    simp only [h1, h2]
  rw [e1, e2]
theorem am_u_ne {f : Nat → Nat → Int32} {a b i : Nat} {x : Int32} (h : b ≠ a) : am_u f a i x b = f b := by
  funext j
  unfold am_u
  rw [if_neg (fun q => h q.1)]
theorem am_u_eq {f : Nat → Nat → Int32} {a i : Nat} {x : Int32} : am_u f a i x a = upd (f a) i x := by
  funext j
  unfold am_u upd
  by_cases h : j = i
  · rw [if_pos ⟨rfl, h⟩, if_pos h]
  · rw [if_neg (fun q => h q.2), if_neg h]
theorem am_ul_ne {f : Nat → Nat → Int64} {a b i : Nat} {x : Int64} (h : b ≠ a) : am_ul f a i x b = f b := by
  funext j
  unfold am_ul
  rw [if_neg (fun q => h q.1)]
theorem am_ul_eq {f : Nat → Nat → Int64} {a i : Nat} {x : Int64} : am_ul f a i x a = vp_updL (f a) i x := by
  funext j
  unfold am_ul vp_updL
  by_cases h : j = i
  · rw [if_pos ⟨rfl, h⟩, if_pos h]
  · rw [if_neg (fun q => h q.2), if_neg h]
theorem am_ua_ne {α : Type} {f : Nat → Nat → α} {a b : Nat} {g : Nat → α} (h : b ≠ a) : am_ua f a g b = f b := by
  unfold am_ua
  rw [if_neg h]
theorem am_ua_eq {α : Type} {f : Nat → Nat → α} {a : Nat} {g : Nat → α} : am_ua f a g a = g := by
  unfold am_ua
  rw [if_pos rfl]
theorem am_fs_at {C : aC} {M : aM} {a kd f : Nat} {q : Nat × Nat × Nat} (h : am_sh a = kd) (hq : am_fd kd f = q) (h9 : q.1 ≠ 9) : (am_fs C M a)[f]? = some (am_fv C M a f q) := by
  unfold am_fs
  rw [List.getElem?_mapIdx, h, am_fd_at hq h9]
  rfl
theorem am_fs_i {C : aC} {M : aM} {a f k2 dd : Nat} {v : Int32} (hq : am_fd (am_sh a) f = (0, k2, dd)) : am_fs C (am_u M.1 a f v, M.2) a = (am_fs C M a).set f (.int v) := by
  have hl := am_fd_at hq (by simp)
  have hlt : f < (am_fl (am_sh a)).length := (List.getElem?_eq_some_iff.mp hl).1
  apply List.ext_getElem?
  intro i
  unfold am_fs
  by_cases e : i = f
  · subst e
    rw [List.getElem?_set_self (by simpa using hlt), List.getElem?_mapIdx, hl]
    simp [am_fv, am_u]
  · rw [List.getElem?_set_ne (Ne.symm e), List.getElem?_mapIdx, List.getElem?_mapIdx]
    congr 1
    funext q
    unfold am_fv
    have e2 : am_u M.1 a f v a i = M.1 a i := by unfold am_u; rw [if_neg (fun q => e q.2)]
    simp only [e2]
theorem am_fs_l {C : aC} {M : aM} {a f k2 dd : Nat} {v : Int64} (hq : am_fd (am_sh a) f = (1, k2, dd)) : am_fs C (M.1, am_ul M.2 a f v) a = (am_fs C M a).set f (.long v) := by
  have hl := am_fd_at hq (by simp)
  have hlt : f < (am_fl (am_sh a)).length := (List.getElem?_eq_some_iff.mp hl).1
  apply List.ext_getElem?
  intro i
  unfold am_fs
  by_cases e : i = f
  · subst e
    rw [List.getElem?_set_self (by simpa using hlt), List.getElem?_mapIdx, hl]
    simp [am_fv, am_ul]
  · rw [List.getElem?_set_ne (Ne.symm e), List.getElem?_mapIdx, List.getElem?_mapIdx]
    congr 1
    funext q
    unfold am_fv
    have e2 : am_ul M.2 a f v a i = M.2 a i := by unfold am_ul; rw [if_neg (fun q => e q.2)]
    simp only [e2]
/-! ===== contracts ===== -/
def am_KS (C : aC) (U : State) : Prop := ∀ q ∈ am_lkS, vk_R (am_on q.1) q.2.1 q.2.2.2.2 (am_ad C (5000 + q.2.2.1)) U
def am_KH (C : aC) (U : State) (H : Heap) : Prop := vk_S am_nS am_slen am_sbyt (fun i => am_ad C (5000 + i)) (fun i => am_ad C (5040 + i)) (am_A C) U H ∧ va_T .int (am_ad C 5100) 9 (fun k => .int (am_fact k)) (am_A C) U H ∧ va_Z "ArgumentMender" "FACTORIALS" "[I" (.ref (am_ad C 5100)) (am_A C) U H ∧ va_Z "java/lang/String" "COMPACT_STRINGS" "Z" (.int 1) (am_A C) U H ∧ va_Zq "jdk/internal/util/Preconditions" "SIOOBE_FORMATTER" "Ljava/util/function/BiFunction;" (am_A C) U H
def am_K (C : aC) (U : State) (H : Heap) : Prop := va_K C.2.1 vwCl (am_tys C) U ∧ am_KS C U ∧ am_KH C U H
theorem am_K.warm {C : aC} {s U : State} {H H1 : Heap} (h : am_K C s H) (hW : s.WarmedH U.vm) (hq : ∀ a : Nat, a < H.size → ¬ am_A C a → H1[a]? = H[a]?) : am_K C U H1 := by
  obtain ⟨h1, h2, h3, h4, h5, h6, h7⟩ := h
  exact ⟨va_K.moved hW.alike h1, fun q hq => (h2 q hq).warm hW, (h3.moved hW.alike).kept hq, (h4.moved hW.alike).kept hq, (h5.moved hW.alike).kept hq, (h6.moved hW.alike).kept hq, (h7.moved hW.alike).kept hq⟩
theorem am_K.same {C : aC} {s U : State} {H : Heap} (h : am_K C s H) (hv : U.vm = s.vm) : am_K C U H := by
  obtain ⟨h1, h2, h3, h4, h5, h6, h7⟩ := h
  have ha : s.vm.Alike U.vm := by rw [hv]; exact Vm.Alike.refl _
  exact ⟨va_K.moved ha h1, fun q hq => (h2 q hq).same hv, h3.moved ha, h4.moved ha, h5.moved ha, h6.moved ha, h7.moved ha⟩
def am_rm (d : Nat) : Room := { frames := d, cells := 0, slots := 0, locals := 40 * d }
def am_wsU (j : Nat) : List Cond := .code (am_y j) (am_b j) (am_ml j) (am_rt j) :: am_g
def am_Pc (C : aC) (as : List aV) (M : aM) : Array Value → State → Prop := fun v U => v = (as.map (am_cv C)).toArray ∧ am_K C U U.heap ∧ va_P C.2.1 vwCl (am_ws C M) U.heap
def am_okO (v : Option aV) : Prop := ∀ u, v = some u → am_ok u
def am_Qc (C : aC) (r : aR) : Array Value → State → Outcome → State → Prop := fun _ st o t => o = .returned (r.1.map (am_cv C)) ∧ va_P C.2.1 vwCl (am_ws C r.2) t.heap ∧ va_F (am_A C) st t ∧ am_okO r.1
/-- method j, in a room of depth d, does what F says -/
def am_Snd (d j : Nat) (F : List aV → aM → Option aR) : Prop := ∀ (as : List aV) (M : aM) (r : aR), am_wk as → F as M = some r → ∀ (l : Launch) (C : aC), Met l (am_y j) (am_wsU j) (am_rm d) (am_Pc C as M) (am_Qc C r) 0 0 (am_A C)
theorem am_Pc_blind (C : aC) (as : List aV) (M : aM) : FrameBlind (am_Pc C as M) := by
  intro a U g mk h
  obtain ⟨h1, h2, h3⟩ := h
  exact ⟨h1, am_K.same (U := U.calling g mk a) h2 rfl, h3⟩
/-- the machine's own facts at a method's body -/
abbrev am_F (X : Option (Nat × (Nat → Int32))) (p : Program) (R : Room) (s : State) (m : MethodId) (args : Array Value) (c : Code) (C : aC) (j d ce sl : Nat) : Prop :=
  p.tables.exec = Jvm.exec ∧ c.code = am_b j ∧ c.maxLocals = am_ml j ∧ s.vm.findClass (am_on (am_ow j)) = some m.cls ∧ (∀ w ∈ am_g, w.before args s = true) ∧ am_K C s s.heap ∧ (d ≤ R.frames ∧ 40 * d ≤ R.locals ∧ ce ≤ R.cells ∧ sl ≤ R.slots) ∧ ∀ (n : Nat) (xs : Nat → Int32), X = some (n, xs) → va_X (am_ad C 5200) n xs s s.heap ∧ am_ad C 5200 < s.heap.size ∧ ¬ am_A C (am_ad C 5200)
def am_Wd (p : Program) (l : Launch) (e : Env) (R : Room) (s : State) (m : MethodId) (args : Array Value) (below : List Frame) (meth : Method) (c : Code) (C : aC) (nL ce sl : Nat) (Q : State → Prop) (pc : Nat) (al : aL) (st : List aV) (M : aM) : Prop :=
  am_wl al → am_wk st → ∀ (H : Heap) (locs : List Loc) (ls : Array Slot), am_lh C ls nL al → va_P C.2.1 vwCl (am_ws C M) H → va_S (am_A C) s.heap H locs → W p l e R s m args below meth c H locs ce sl Q (F0 m pc ls (st.map (am_cv C)))
abbrev am_HK (p : Program) (l : Launch) (e : Env) (R : Room) (s : State) (m : MethodId) (args : Array Value) (below : List Frame) (meth : Method) (c : Code) (C : aC) (nL ce sl : Nat) (Q : State → Prop) (r : aR) (k : aK) : Prop :=
  ∀ (pc : Nat) (al : aL) (st : List aV) (M : aM), k pc al st M = some r → am_Wd p l e R s m args below meth c C nL ce sl Q pc al st M

section AMS
variable {X : Option (Nat × (Nat → Int32))} {sws : List (List (Int32 × Nat) × Nat)} {sem : Nat → List aV → aM → Option aR} {p : Program} {l : Launch} {e : Env} {R : Room} {s : State} {m : MethodId} {args : Array Value} {below : List Frame} {meth : Method} {c : Code} {C : aC} {Q : State → Prop} {j d ce sl : Nat} {r : aR} {k : aK} {pc a1 a2 : Nat} {a3 : Int32} {a4 : Int64} {al : aL} {st : List aV} {M : aM}
theorem am_o_iadd  (F : am_F X p R s m args c C j d ce sl) (hk : am_HK p l e R s m args below meth c C (am_ml j) ce sl Q r k) (hdg : decode (am_b j) pc = .ok (.iadd, 1)) (h : am_iadd k pc al st M = some r) : am_Wd p l e R s m args below meth c C (am_ml j) ce sl Q pc al st M := by
  intro hal hst H locs ls hl hP hS
  unfold am_iadd at h
  split at h
  · exact lv_iadd F.1 F.2.1 hdg (hk _ _ _ _ h hal (am_wk_c trivial (am_wk_t (am_wk_t hst))) H locs ls hl hP hS)
  · cases h
theorem am_o_isub  (F : am_F X p R s m args c C j d ce sl) (hk : am_HK p l e R s m args below meth c C (am_ml j) ce sl Q r k) (hdg : decode (am_b j) pc = .ok (.isub, 1)) (h : am_isub k pc al st M = some r) : am_Wd p l e R s m args below meth c C (am_ml j) ce sl Q pc al st M := by
  intro hal hst H locs ls hl hP hS
  unfold am_isub at h
  split at h
  · exact lv_isub F.1 F.2.1 hdg (hk _ _ _ _ h hal (am_wk_c trivial (am_wk_t (am_wk_t hst))) H locs ls hl hP hS)
  · cases h
theorem am_o_imul  (F : am_F X p R s m args c C j d ce sl) (hk : am_HK p l e R s m args below meth c C (am_ml j) ce sl Q r k) (hdg : decode (am_b j) pc = .ok (.imul, 1)) (h : am_imul k pc al st M = some r) : am_Wd p l e R s m args below meth c C (am_ml j) ce sl Q pc al st M := by
  intro hal hst H locs ls hl hP hS
  unfold am_imul at h
  split at h
  · exact lv_imul F.1 F.2.1 hdg (hk _ _ _ _ h hal (am_wk_c trivial (am_wk_t (am_wk_t hst))) H locs ls hl hP hS)
  · cases h
theorem am_o_iand  (F : am_F X p R s m args c C j d ce sl) (hk : am_HK p l e R s m args below meth c C (am_ml j) ce sl Q r k) (hdg : decode (am_b j) pc = .ok (.iand, 1)) (h : am_iand k pc al st M = some r) : am_Wd p l e R s m args below meth c C (am_ml j) ce sl Q pc al st M := by
  intro hal hst H locs ls hl hP hS
  unfold am_iand at h
  split at h
  · exact lv_iand F.1 F.2.1 hdg (hk _ _ _ _ h hal (am_wk_c trivial (am_wk_t (am_wk_t hst))) H locs ls hl hP hS)
  · cases h
theorem am_o_ior  (F : am_F X p R s m args c C j d ce sl) (hk : am_HK p l e R s m args below meth c C (am_ml j) ce sl Q r k) (hdg : decode (am_b j) pc = .ok (.ior, 1)) (h : am_ior k pc al st M = some r) : am_Wd p l e R s m args below meth c C (am_ml j) ce sl Q pc al st M := by
  intro hal hst H locs ls hl hP hS
  unfold am_ior at h
  split at h
  · exact lv_ior F.1 F.2.1 hdg (hk _ _ _ _ h hal (am_wk_c trivial (am_wk_t (am_wk_t hst))) H locs ls hl hP hS)
  · cases h
theorem am_o_ixor  (F : am_F X p R s m args c C j d ce sl) (hk : am_HK p l e R s m args below meth c C (am_ml j) ce sl Q r k) (hdg : decode (am_b j) pc = .ok (.ixor, 1)) (h : am_ixor k pc al st M = some r) : am_Wd p l e R s m args below meth c C (am_ml j) ce sl Q pc al st M := by
  intro hal hst H locs ls hl hP hS
  unfold am_ixor at h
  split at h
  · exact lv_ixor F.1 F.2.1 hdg (hk _ _ _ _ h hal (am_wk_c trivial (am_wk_t (am_wk_t hst))) H locs ls hl hP hS)
  · cases h
theorem am_o_ishl  (F : am_F X p R s m args c C j d ce sl) (hk : am_HK p l e R s m args below meth c C (am_ml j) ce sl Q r k) (hdg : decode (am_b j) pc = .ok (.ishl, 1)) (h : am_ishl k pc al st M = some r) : am_Wd p l e R s m args below meth c C (am_ml j) ce sl Q pc al st M := by
  intro hal hst H locs ls hl hP hS
  unfold am_ishl at h
  split at h
  · exact lv_ishl F.1 F.2.1 hdg (hk _ _ _ _ h hal (am_wk_c trivial (am_wk_t (am_wk_t hst))) H locs ls hl hP hS)
  · cases h
theorem am_o_ishr  (F : am_F X p R s m args c C j d ce sl) (hk : am_HK p l e R s m args below meth c C (am_ml j) ce sl Q r k) (hdg : decode (am_b j) pc = .ok (.ishr, 1)) (h : am_ishr k pc al st M = some r) : am_Wd p l e R s m args below meth c C (am_ml j) ce sl Q pc al st M := by
  intro hal hst H locs ls hl hP hS
  unfold am_ishr at h
  split at h
  · exact lv_ishr F.1 F.2.1 hdg (hk _ _ _ _ h hal (am_wk_c trivial (am_wk_t (am_wk_t hst))) H locs ls hl hP hS)
  · cases h
theorem am_o_iushr  (F : am_F X p R s m args c C j d ce sl) (hk : am_HK p l e R s m args below meth c C (am_ml j) ce sl Q r k) (hdg : decode (am_b j) pc = .ok (.iushr, 1)) (h : am_iushr k pc al st M = some r) : am_Wd p l e R s m args below meth c C (am_ml j) ce sl Q pc al st M := by
  intro hal hst H locs ls hl hP hS
  unfold am_iushr at h
  split at h
  · exact lv_iushr F.1 F.2.1 hdg rfl (hk _ _ _ _ h hal (am_wk_c trivial (am_wk_t (am_wk_t hst))) H locs ls hl hP hS)
  · cases h
theorem am_o_ladd  (F : am_F X p R s m args c C j d ce sl) (hk : am_HK p l e R s m args below meth c C (am_ml j) ce sl Q r k) (hdg : decode (am_b j) pc = .ok (.ladd, 1)) (h : am_ladd k pc al st M = some r) : am_Wd p l e R s m args below meth c C (am_ml j) ce sl Q pc al st M := by
  intro hal hst H locs ls hl hP hS
  unfold am_ladd at h
  split at h
  · exact lv_ladd F.1 F.2.1 hdg (hk _ _ _ _ h hal (am_wk_c trivial (am_wk_t (am_wk_t hst))) H locs ls hl hP hS)
  · cases h
theorem am_o_lsub  (F : am_F X p R s m args c C j d ce sl) (hk : am_HK p l e R s m args below meth c C (am_ml j) ce sl Q r k) (hdg : decode (am_b j) pc = .ok (.lsub, 1)) (h : am_lsub k pc al st M = some r) : am_Wd p l e R s m args below meth c C (am_ml j) ce sl Q pc al st M := by
  intro hal hst H locs ls hl hP hS
  unfold am_lsub at h
  split at h
  · exact lv_lsub F.1 F.2.1 hdg (hk _ _ _ _ h hal (am_wk_c trivial (am_wk_t (am_wk_t hst))) H locs ls hl hP hS)
  · cases h
theorem am_o_lmul  (F : am_F X p R s m args c C j d ce sl) (hk : am_HK p l e R s m args below meth c C (am_ml j) ce sl Q r k) (hdg : decode (am_b j) pc = .ok (.lmul, 1)) (h : am_lmul k pc al st M = some r) : am_Wd p l e R s m args below meth c C (am_ml j) ce sl Q pc al st M := by
  intro hal hst H locs ls hl hP hS
  unfold am_lmul at h
  split at h
  · exact lv_lmul F.1 F.2.1 hdg (hk _ _ _ _ h hal (am_wk_c trivial (am_wk_t (am_wk_t hst))) H locs ls hl hP hS)
  · cases h
theorem am_o_land  (F : am_F X p R s m args c C j d ce sl) (hk : am_HK p l e R s m args below meth c C (am_ml j) ce sl Q r k) (hdg : decode (am_b j) pc = .ok (.land, 1)) (h : am_land k pc al st M = some r) : am_Wd p l e R s m args below meth c C (am_ml j) ce sl Q pc al st M := by
  intro hal hst H locs ls hl hP hS
  unfold am_land at h
  split at h
  · exact lv_land F.1 F.2.1 hdg (hk _ _ _ _ h hal (am_wk_c trivial (am_wk_t (am_wk_t hst))) H locs ls hl hP hS)
  · cases h
theorem am_o_lor  (F : am_F X p R s m args c C j d ce sl) (hk : am_HK p l e R s m args below meth c C (am_ml j) ce sl Q r k) (hdg : decode (am_b j) pc = .ok (.lor, 1)) (h : am_lor k pc al st M = some r) : am_Wd p l e R s m args below meth c C (am_ml j) ce sl Q pc al st M := by
  intro hal hst H locs ls hl hP hS
  unfold am_lor at h
  split at h
  · exact lv_lor F.1 F.2.1 hdg (hk _ _ _ _ h hal (am_wk_c trivial (am_wk_t (am_wk_t hst))) H locs ls hl hP hS)
  · cases h
theorem am_o_lshl  (F : am_F X p R s m args c C j d ce sl) (hk : am_HK p l e R s m args below meth c C (am_ml j) ce sl Q r k) (hdg : decode (am_b j) pc = .ok (.lshl, 1)) (h : am_lshl k pc al st M = some r) : am_Wd p l e R s m args below meth c C (am_ml j) ce sl Q pc al st M := by
  intro hal hst H locs ls hl hP hS
  unfold am_lshl at h
  split at h
  · exact lv_lshl F.1 F.2.1 hdg rfl (hk _ _ _ _ h hal (am_wk_c trivial (am_wk_t (am_wk_t hst))) H locs ls hl hP hS)
  · cases h
theorem am_o_lshr  (F : am_F X p R s m args c C j d ce sl) (hk : am_HK p l e R s m args below meth c C (am_ml j) ce sl Q r k) (hdg : decode (am_b j) pc = .ok (.lshr, 1)) (h : am_lshr k pc al st M = some r) : am_Wd p l e R s m args below meth c C (am_ml j) ce sl Q pc al st M := by
  intro hal hst H locs ls hl hP hS
  unfold am_lshr at h
  split at h
  · exact lv_lshr F.1 F.2.1 hdg rfl (hk _ _ _ _ h hal (am_wk_c trivial (am_wk_t (am_wk_t hst))) H locs ls hl hP hS)
  · cases h
theorem am_o_idiv  (F : am_F X p R s m args c C j d ce sl) (hk : am_HK p l e R s m args below meth c C (am_ml j) ce sl Q r k) (hdg : decode (am_b j) pc = .ok (.idiv, 1)) (h : am_idiv k pc al st M = some r) : am_Wd p l e R s m args below meth c C (am_ml j) ce sl Q pc al st M := by
  intro hal hst H locs ls hl hP hS
  unfold am_idiv at h
  split at h
  · split at h
    · cases h
    · rename_i hy
      exact lv_idiv F.1 F.2.1 hdg hy (hk _ _ _ _ h hal (am_wk_c trivial (am_wk_t (am_wk_t hst))) H locs ls hl hP hS)
  · cases h
theorem am_o_irem  (F : am_F X p R s m args c C j d ce sl) (hk : am_HK p l e R s m args below meth c C (am_ml j) ce sl Q r k) (hdg : decode (am_b j) pc = .ok (.irem, 1)) (h : am_irem k pc al st M = some r) : am_Wd p l e R s m args below meth c C (am_ml j) ce sl Q pc al st M := by
  intro hal hst H locs ls hl hP hS
  unfold am_irem at h
  split at h
  · split at h
    · cases h
    · rename_i hy
      exact lv_irem F.1 F.2.1 hdg hy (hk _ _ _ _ h hal (am_wk_c trivial (am_wk_t (am_wk_t hst))) H locs ls hl hP hS)
  · cases h
theorem am_o_ldiv  (F : am_F X p R s m args c C j d ce sl) (hk : am_HK p l e R s m args below meth c C (am_ml j) ce sl Q r k) (hdg : decode (am_b j) pc = .ok (.ldiv, 1)) (h : am_ldiv k pc al st M = some r) : am_Wd p l e R s m args below meth c C (am_ml j) ce sl Q pc al st M := by
  intro hal hst H locs ls hl hP hS
  unfold am_ldiv at h
  split at h
  · split at h
    · cases h
    · rename_i hy
      exact lv_ldiv F.1 F.2.1 hdg hy (hk _ _ _ _ h hal (am_wk_c trivial (am_wk_t (am_wk_t hst))) H locs ls hl hP hS)
  · cases h
theorem am_o_lrem  (F : am_F X p R s m args c C j d ce sl) (hk : am_HK p l e R s m args below meth c C (am_ml j) ce sl Q r k) (hdg : decode (am_b j) pc = .ok (.lrem, 1)) (h : am_lrem k pc al st M = some r) : am_Wd p l e R s m args below meth c C (am_ml j) ce sl Q pc al st M := by
  intro hal hst H locs ls hl hP hS
  unfold am_lrem at h
  split at h
  · split at h
    · cases h
    · rename_i hy
      exact lv_lrem F.1 F.2.1 hdg hy (hk _ _ _ _ h hal (am_wk_c trivial (am_wk_t (am_wk_t hst))) H locs ls hl hP hS)
  · cases h
theorem am_o_ineg  (F : am_F X p R s m args c C j d ce sl) (hk : am_HK p l e R s m args below meth c C (am_ml j) ce sl Q r k) (hdg : decode (am_b j) pc = .ok (.ineg, 1)) (h : am_ineg k pc al st M = some r) : am_Wd p l e R s m args below meth c C (am_ml j) ce sl Q pc al st M := by
  intro hal hst H locs ls hl hP hS
  unfold am_ineg at h
  split at h
  · exact lv_ineg F.1 F.2.1 hdg (hk _ _ _ _ h hal (am_wk_c trivial (am_wk_t hst)) H locs ls hl hP hS)
  · cases h
theorem am_o_i2b  (F : am_F X p R s m args c C j d ce sl) (hk : am_HK p l e R s m args below meth c C (am_ml j) ce sl Q r k) (hdg : decode (am_b j) pc = .ok (.i2b, 1)) (h : am_i2b k pc al st M = some r) : am_Wd p l e R s m args below meth c C (am_ml j) ce sl Q pc al st M := by
  intro hal hst H locs ls hl hP hS
  unfold am_i2b at h
  split at h
  · exact lv_i2b F.1 F.2.1 hdg rfl (hk _ _ _ _ h hal (am_wk_c trivial (am_wk_t hst)) H locs ls hl hP hS)
  · cases h
theorem am_o_i2s  (F : am_F X p R s m args c C j d ce sl) (hk : am_HK p l e R s m args below meth c C (am_ml j) ce sl Q r k) (hdg : decode (am_b j) pc = .ok (.i2s, 1)) (h : am_i2s k pc al st M = some r) : am_Wd p l e R s m args below meth c C (am_ml j) ce sl Q pc al st M := by
  intro hal hst H locs ls hl hP hS
  unfold am_i2s at h
  split at h
  · exact lv_i2s F.1 F.2.1 hdg rfl (hk _ _ _ _ h hal (am_wk_c trivial (am_wk_t hst)) H locs ls hl hP hS)
  · cases h
theorem am_o_i2c  (F : am_F X p R s m args c C j d ce sl) (hk : am_HK p l e R s m args below meth c C (am_ml j) ce sl Q r k) (hdg : decode (am_b j) pc = .ok (.i2c, 1)) (h : am_i2c k pc al st M = some r) : am_Wd p l e R s m args below meth c C (am_ml j) ce sl Q pc al st M := by
  intro hal hst H locs ls hl hP hS
  unfold am_i2c at h
  split at h
  · exact lv_i2c F.1 F.2.1 hdg rfl (hk _ _ _ _ h hal (am_wk_c trivial (am_wk_t hst)) H locs ls hl hP hS)
  · cases h
theorem am_o_lneg  (F : am_F X p R s m args c C j d ce sl) (hk : am_HK p l e R s m args below meth c C (am_ml j) ce sl Q r k) (hdg : decode (am_b j) pc = .ok (.lneg, 1)) (h : am_lneg k pc al st M = some r) : am_Wd p l e R s m args below meth c C (am_ml j) ce sl Q pc al st M := by
  intro hal hst H locs ls hl hP hS
  unfold am_lneg at h
  split at h
  · exact lv_lneg F.1 F.2.1 hdg (hk _ _ _ _ h hal (am_wk_c trivial (am_wk_t hst)) H locs ls hl hP hS)
  · cases h
theorem am_o_i2l  (F : am_F X p R s m args c C j d ce sl) (hk : am_HK p l e R s m args below meth c C (am_ml j) ce sl Q r k) (hdg : decode (am_b j) pc = .ok (.i2l, 1)) (h : am_i2l k pc al st M = some r) : am_Wd p l e R s m args below meth c C (am_ml j) ce sl Q pc al st M := by
  intro hal hst H locs ls hl hP hS
  unfold am_i2l at h
  split at h
  · exact lv_i2l F.1 F.2.1 hdg rfl (hk _ _ _ _ h hal (am_wk_c trivial (am_wk_t hst)) H locs ls hl hP hS)
  · cases h
theorem am_o_l2i  (F : am_F X p R s m args c C j d ce sl) (hk : am_HK p l e R s m args below meth c C (am_ml j) ce sl Q r k) (hdg : decode (am_b j) pc = .ok (.l2i, 1)) (h : am_l2i k pc al st M = some r) : am_Wd p l e R s m args below meth c C (am_ml j) ce sl Q pc al st M := by
  intro hal hst H locs ls hl hP hS
  unfold am_l2i at h
  split at h
  · exact lv_l2i F.1 F.2.1 hdg rfl (hk _ _ _ _ h hal (am_wk_c trivial (am_wk_t hst)) H locs ls hl hP hS)
  · cases h
theorem am_o_lcmp  (F : am_F X p R s m args c C j d ce sl) (hk : am_HK p l e R s m args below meth c C (am_ml j) ce sl Q r k) (hdg : decode (am_b j) pc = .ok (.lcmp, 1)) (h : am_lcmp k pc al st M = some r) : am_Wd p l e R s m args below meth c C (am_ml j) ce sl Q pc al st M := by
  intro hal hst H locs ls hl hP hS
  unfold am_lcmp at h
  split at h
  · exact W.lcmp F.1 F.2.1 hdg (hk _ _ _ _ h hal (am_wk_c trivial (am_wk_t (am_wk_t hst))) H locs ls hl hP hS)
  · cases h
theorem am_o_ifeq {off : Int} (ht : (pc : Int) + off = (a1 : Int)) (F : am_F X p R s m args c C j d ce sl) (hk : am_HK p l e R s m args below meth c C (am_ml j) ce sl Q r k) (hdg : decode (am_b j) pc = .ok (.ifCond .eq off, 3)) (h : am_ifeq a1 k pc al st M = some r) : am_Wd p l e R s m args below meth c C (am_ml j) ce sl Q pc al st M := by
  intro hal hst H locs ls hl hP hS
  unfold am_ifeq at h
  split at h
  · refine lv_if_eq (tgt := a1) F.1 F.2.1 hdg ht (fun q => ?_) (fun q => ?_)
    · rw [if_pos q] at h
      exact hk _ _ _ _ h hal (am_wk_t hst) H locs ls hl hP hS
    · rw [if_neg q] at h
      exact hk _ _ _ _ h hal (am_wk_t hst) H locs ls hl hP hS
  · cases h
theorem am_o_iceq {off : Int} (ht : (pc : Int) + off = (a1 : Int)) (F : am_F X p R s m args c C j d ce sl) (hk : am_HK p l e R s m args below meth c C (am_ml j) ce sl Q r k) (hdg : decode (am_b j) pc = .ok (.if_icmp .eq off, 3)) (h : am_iceq a1 k pc al st M = some r) : am_Wd p l e R s m args below meth c C (am_ml j) ce sl Q pc al st M := by
  intro hal hst H locs ls hl hP hS
  unfold am_iceq at h
  split at h
  · refine lv_icmp_eq (tgt := a1) F.1 F.2.1 hdg ht (fun q => ?_) (fun q => ?_)
    · rw [if_pos q] at h
      exact hk _ _ _ _ h hal (am_wk_t (am_wk_t hst)) H locs ls hl hP hS
    · rw [if_neg q] at h
      exact hk _ _ _ _ h hal (am_wk_t (am_wk_t hst)) H locs ls hl hP hS
  · cases h
theorem am_o_ifne {off : Int} (ht : (pc : Int) + off = (a1 : Int)) (F : am_F X p R s m args c C j d ce sl) (hk : am_HK p l e R s m args below meth c C (am_ml j) ce sl Q r k) (hdg : decode (am_b j) pc = .ok (.ifCond .ne off, 3)) (h : am_ifne a1 k pc al st M = some r) : am_Wd p l e R s m args below meth c C (am_ml j) ce sl Q pc al st M := by
  intro hal hst H locs ls hl hP hS
  unfold am_ifne at h
  split at h
  · refine lv_if_ne (tgt := a1) F.1 F.2.1 hdg ht (fun q => ?_) (fun q => ?_)
    · rw [if_pos q] at h
      exact hk _ _ _ _ h hal (am_wk_t hst) H locs ls hl hP hS
    · rw [if_neg (fun z => z q)] at h
      exact hk _ _ _ _ h hal (am_wk_t hst) H locs ls hl hP hS
  · cases h
theorem am_o_icne {off : Int} (ht : (pc : Int) + off = (a1 : Int)) (F : am_F X p R s m args c C j d ce sl) (hk : am_HK p l e R s m args below meth c C (am_ml j) ce sl Q r k) (hdg : decode (am_b j) pc = .ok (.if_icmp .ne off, 3)) (h : am_icne a1 k pc al st M = some r) : am_Wd p l e R s m args below meth c C (am_ml j) ce sl Q pc al st M := by
  intro hal hst H locs ls hl hP hS
  unfold am_icne at h
  split at h
  · refine lv_icmp_ne (tgt := a1) F.1 F.2.1 hdg ht (fun q => ?_) (fun q => ?_)
    · rw [if_pos q] at h
      exact hk _ _ _ _ h hal (am_wk_t (am_wk_t hst)) H locs ls hl hP hS
    · rw [if_neg (fun z => z q)] at h
      exact hk _ _ _ _ h hal (am_wk_t (am_wk_t hst)) H locs ls hl hP hS
  · cases h
theorem am_o_iflt {off : Int} (ht : (pc : Int) + off = (a1 : Int)) (F : am_F X p R s m args c C j d ce sl) (hk : am_HK p l e R s m args below meth c C (am_ml j) ce sl Q r k) (hdg : decode (am_b j) pc = .ok (.ifCond .lt off, 3)) (h : am_iflt a1 k pc al st M = some r) : am_Wd p l e R s m args below meth c C (am_ml j) ce sl Q pc al st M := by
  intro hal hst H locs ls hl hP hS
  unfold am_iflt at h
  split at h
  · refine lv_if_lt (tgt := a1) F.1 F.2.1 hdg ht (fun q => ?_) (fun q => ?_)
    · rw [if_pos q] at h
      exact hk _ _ _ _ h hal (am_wk_t hst) H locs ls hl hP hS
    · rw [if_neg q] at h
      exact hk _ _ _ _ h hal (am_wk_t hst) H locs ls hl hP hS
  · cases h
theorem am_o_iclt {off : Int} (ht : (pc : Int) + off = (a1 : Int)) (F : am_F X p R s m args c C j d ce sl) (hk : am_HK p l e R s m args below meth c C (am_ml j) ce sl Q r k) (hdg : decode (am_b j) pc = .ok (.if_icmp .lt off, 3)) (h : am_iclt a1 k pc al st M = some r) : am_Wd p l e R s m args below meth c C (am_ml j) ce sl Q pc al st M := by
  intro hal hst H locs ls hl hP hS
  unfold am_iclt at h
  split at h
  · refine lv_icmp_lt (tgt := a1) F.1 F.2.1 hdg ht (fun q => ?_) (fun q => ?_)
    · rw [if_pos q] at h
      exact hk _ _ _ _ h hal (am_wk_t (am_wk_t hst)) H locs ls hl hP hS
    · rw [if_neg q] at h
      exact hk _ _ _ _ h hal (am_wk_t (am_wk_t hst)) H locs ls hl hP hS
  · cases h
theorem am_o_ifge {off : Int} (ht : (pc : Int) + off = (a1 : Int)) (F : am_F X p R s m args c C j d ce sl) (hk : am_HK p l e R s m args below meth c C (am_ml j) ce sl Q r k) (hdg : decode (am_b j) pc = .ok (.ifCond .ge off, 3)) (h : am_ifge a1 k pc al st M = some r) : am_Wd p l e R s m args below meth c C (am_ml j) ce sl Q pc al st M := by
  intro hal hst H locs ls hl hP hS
  unfold am_ifge at h
  split at h
  · refine lv_if_ge (tgt := a1) F.1 F.2.1 hdg ht (fun q => ?_) (fun q => ?_)
    · rw [if_pos q] at h
      exact hk _ _ _ _ h hal (am_wk_t hst) H locs ls hl hP hS
    · rw [if_neg q] at h
      exact hk _ _ _ _ h hal (am_wk_t hst) H locs ls hl hP hS
  · cases h
theorem am_o_icge {off : Int} (ht : (pc : Int) + off = (a1 : Int)) (F : am_F X p R s m args c C j d ce sl) (hk : am_HK p l e R s m args below meth c C (am_ml j) ce sl Q r k) (hdg : decode (am_b j) pc = .ok (.if_icmp .ge off, 3)) (h : am_icge a1 k pc al st M = some r) : am_Wd p l e R s m args below meth c C (am_ml j) ce sl Q pc al st M := by
  intro hal hst H locs ls hl hP hS
  unfold am_icge at h
  split at h
  · refine lv_icmp_ge (tgt := a1) F.1 F.2.1 hdg ht (fun q => ?_) (fun q => ?_)
    · rw [if_pos q] at h
      exact hk _ _ _ _ h hal (am_wk_t (am_wk_t hst)) H locs ls hl hP hS
    · rw [if_neg q] at h
      exact hk _ _ _ _ h hal (am_wk_t (am_wk_t hst)) H locs ls hl hP hS
  · cases h
theorem am_o_ifgt {off : Int} (ht : (pc : Int) + off = (a1 : Int)) (F : am_F X p R s m args c C j d ce sl) (hk : am_HK p l e R s m args below meth c C (am_ml j) ce sl Q r k) (hdg : decode (am_b j) pc = .ok (.ifCond .gt off, 3)) (h : am_ifgt a1 k pc al st M = some r) : am_Wd p l e R s m args below meth c C (am_ml j) ce sl Q pc al st M := by
  intro hal hst H locs ls hl hP hS
  unfold am_ifgt at h
  split at h
  · refine lv_if_gt (tgt := a1) F.1 F.2.1 hdg ht (fun q => ?_) (fun q => ?_)
    · rw [if_pos q] at h
      exact hk _ _ _ _ h hal (am_wk_t hst) H locs ls hl hP hS
    · rw [if_neg q] at h
      exact hk _ _ _ _ h hal (am_wk_t hst) H locs ls hl hP hS
  · cases h
theorem am_o_icgt {off : Int} (ht : (pc : Int) + off = (a1 : Int)) (F : am_F X p R s m args c C j d ce sl) (hk : am_HK p l e R s m args below meth c C (am_ml j) ce sl Q r k) (hdg : decode (am_b j) pc = .ok (.if_icmp .gt off, 3)) (h : am_icgt a1 k pc al st M = some r) : am_Wd p l e R s m args below meth c C (am_ml j) ce sl Q pc al st M := by
  intro hal hst H locs ls hl hP hS
  unfold am_icgt at h
  split at h
  · refine lv_icmp_gt (tgt := a1) F.1 F.2.1 hdg ht (fun q => ?_) (fun q => ?_)
    · rw [if_pos q] at h
      exact hk _ _ _ _ h hal (am_wk_t (am_wk_t hst)) H locs ls hl hP hS
    · rw [if_neg q] at h
      exact hk _ _ _ _ h hal (am_wk_t (am_wk_t hst)) H locs ls hl hP hS
  · cases h
theorem am_o_ifle {off : Int} (ht : (pc : Int) + off = (a1 : Int)) (F : am_F X p R s m args c C j d ce sl) (hk : am_HK p l e R s m args below meth c C (am_ml j) ce sl Q r k) (hdg : decode (am_b j) pc = .ok (.ifCond .le off, 3)) (h : am_ifle a1 k pc al st M = some r) : am_Wd p l e R s m args below meth c C (am_ml j) ce sl Q pc al st M := by
  intro hal hst H locs ls hl hP hS
  unfold am_ifle at h
  split at h
  · refine lv_if_le (tgt := a1) F.1 F.2.1 hdg ht (fun q => ?_) (fun q => ?_)
    · rw [if_pos q] at h
      exact hk _ _ _ _ h hal (am_wk_t hst) H locs ls hl hP hS
    · rw [if_neg q] at h
      exact hk _ _ _ _ h hal (am_wk_t hst) H locs ls hl hP hS
  · cases h
theorem am_o_icle {off : Int} (ht : (pc : Int) + off = (a1 : Int)) (F : am_F X p R s m args c C j d ce sl) (hk : am_HK p l e R s m args below meth c C (am_ml j) ce sl Q r k) (hdg : decode (am_b j) pc = .ok (.if_icmp .le off, 3)) (h : am_icle a1 k pc al st M = some r) : am_Wd p l e R s m args below meth c C (am_ml j) ce sl Q pc al st M := by
  intro hal hst H locs ls hl hP hS
  unfold am_icle at h
  split at h
  · refine lv_icmp_le (tgt := a1) F.1 F.2.1 hdg ht (fun q => ?_) (fun q => ?_)
    · rw [if_pos q] at h
      exact hk _ _ _ _ h hal (am_wk_t (am_wk_t hst)) H locs ls hl hP hS
    · rw [if_neg q] at h
      exact hk _ _ _ _ h hal (am_wk_t (am_wk_t hst)) H locs ls hl hP hS
  · cases h
theorem am_o_iconst {n : Int} (hn : Int32.ofInt n = a3) (F : am_F X p R s m args c C j d ce sl) (hk : am_HK p l e R s m args below meth c C (am_ml j) ce sl Q r k) (hdg : decode (am_b j) pc = .ok (.iconst n, 1)) (h : k (pc + 1) al (.inl a3 :: st) M = some r) : am_Wd p l e R s m args below meth c C (am_ml j) ce sl Q pc al st M := by
  intro hal hst H locs ls hl hP hS
  exact lv_iconst F.1 F.2.1 hdg hn (hk _ _ _ _ h hal (am_wk_c trivial hst) H locs ls hl hP hS)
theorem am_o_bipush {n : Int} (hn : (Int8.ofInt n).toInt32 = a3) (F : am_F X p R s m args c C j d ce sl) (hk : am_HK p l e R s m args below meth c C (am_ml j) ce sl Q r k) (hdg : decode (am_b j) pc = .ok (.bipush n, 2)) (h : k (pc + 2) al (.inl a3 :: st) M = some r) : am_Wd p l e R s m args below meth c C (am_ml j) ce sl Q pc al st M := by
  intro hal hst H locs ls hl hP hS
  exact lv_bipush F.1 F.2.1 hdg hn (hk _ _ _ _ h hal (am_wk_c trivial hst) H locs ls hl hP hS)
theorem am_o_sipush {n : Int} (hn : (Int16.ofInt n).toInt32 = a3) (F : am_F X p R s m args c C j d ce sl) (hk : am_HK p l e R s m args below meth c C (am_ml j) ce sl Q r k) (hdg : decode (am_b j) pc = .ok (.sipush n, 3)) (h : k (pc + 3) al (.inl a3 :: st) M = some r) : am_Wd p l e R s m args below meth c C (am_ml j) ce sl Q pc al st M := by
  intro hal hst H locs ls hl hP hS
  exact lv_sipush F.1 F.2.1 hdg hn (hk _ _ _ _ h hal (am_wk_c trivial hst) H locs ls hl hP hS)
theorem am_o_lconst {n : Fin 2} (hn : Int64.ofNat (n : Nat) = a4) (F : am_F X p R s m args c C j d ce sl) (hk : am_HK p l e R s m args below meth c C (am_ml j) ce sl Q r k) (hdg : decode (am_b j) pc = .ok (.lconst n, 1)) (h : k (pc + 1) al (.inr (.inl a4) :: st) M = some r) : am_Wd p l e R s m args below meth c C (am_ml j) ce sl Q pc al st M := by
  intro hal hst H locs ls hl hP hS
  exact lv_lconst F.1 F.2.1 hdg hn (hk _ _ _ _ h hal (am_wk_c trivial hst) H locs ls hl hP hS)
theorem am_o_ldci {i : Nat} (hc : Cond.constant (am_on (am_ow j)) i a3 ∈ am_g) (F : am_F X p R s m args c C j d ce sl) (hk : am_HK p l e R s m args below meth c C (am_ml j) ce sl Q r k) (hdg : decode (am_b j) pc = .ok (.ldc i, 2)) (h : k (pc + 2) al (.inl a3 :: st) M = some r) : am_Wd p l e R s m args below meth c C (am_ml j) ce sl Q pc al st M := by
  intro hal hst H locs ls hl hP hS
  exact lv_ldc F.1 F.2.1 F.2.2.2.1 (F.2.2.2.2.1 _ hc) hdg (hk _ _ _ _ h hal (am_wk_c trivial hst) H locs ls hl hP hS)
theorem am_o_ldcw {i : Nat} (hc : Cond.constant (am_on (am_ow j)) i a3 ∈ am_g) (F : am_F X p R s m args c C j d ce sl) (hk : am_HK p l e R s m args below meth c C (am_ml j) ce sl Q r k) (hdg : decode (am_b j) pc = .ok (.ldc_w i, 3)) (h : k (pc + 3) al (.inl a3 :: st) M = some r) : am_Wd p l e R s m args below meth c C (am_ml j) ce sl Q pc al st M := by
  intro hal hst H locs ls hl hP hS
  exact lv_ldcw F.1 F.2.1 F.2.2.2.1 (F.2.2.2.2.1 _ hc) hdg (hk _ _ _ _ h hal (am_wk_c trivial hst) H locs ls hl hP hS)
theorem am_o_ldc2 {i : Nat} (hc : Cond.constantLong (am_on (am_ow j)) i a4 ∈ am_g) (F : am_F X p R s m args c C j d ce sl) (hk : am_HK p l e R s m args below meth c C (am_ml j) ce sl Q r k) (hdg : decode (am_b j) pc = .ok (.ldc2_w i, 3)) (h : k (pc + 3) al (.inr (.inl a4) :: st) M = some r) : am_Wd p l e R s m args below meth c C (am_ml j) ce sl Q pc al st M := by
  intro hal hst H locs ls hl hP hS
  exact lv_ldc2 F.1 F.2.1 F.2.2.2.1 (F.2.2.2.2.1 _ hc) hdg (hk _ _ _ _ h hal (am_wk_c trivial hst) H locs ls hl hP hS)
theorem am_strs_lt : am_lkS.all (fun q => Nat.blt q.2.2.1 am_nS) = true := by decide +kernel
theorem am_wk_s {i : Nat} (h : i < am_nS) : am_wkb 60 (5000 + i) = true := by
  unfold am_wkb
  have e1 : Nat.ble 5000 (5000 + i) = true := Nat.ble_eq_true_of_le (by omega)
  have e2 : Nat.blt (5000 + i) (5000 + am_nS) = true := Nat.ble_eq_true_of_le (by omega)
  rw [e1, e2]
  simp
theorem am_o_ldcs {i : Nat} (hc : am_lkS.any (fun q => Nat.beq q.1 (am_ow j) && Nat.beq q.2.1 i && Nat.beq q.2.2.1 a1) = true) (F : am_F X p R s m args c C j d ce sl) (hk : am_HK p l e R s m args below meth c C (am_ml j) ce sl Q r k) (hdg : decode (am_b j) pc = .ok (.ldc i, 2)) (h : k (pc + 2) al (.inr (.inr (60, 5000 + a1)) :: st) M = some r) : am_Wd p l e R s m args below meth c C (am_ml j) ce sl Q pc al st M := by
  intro hal hst H locs ls hl hP hS
  obtain ⟨⟨q1, q2, q3, q4, q5⟩, hq, he⟩ := List.any_eq_true.mp hc
  simp only [Bool.and_eq_true] at he
  obtain ⟨⟨e1, e2⟩, e3⟩ := he
  have e1 := am_beq e1
  have e2 := am_beq e2
  have e3 := am_beq e3
  try dsimp only at e1 e2 e3
  subst e2; subst e3
  have hz := F.2.2.2.2.2.1.2.1 _ hq
  have hlt := am_blt (List.all_eq_true.mp am_strs_lt _ hq)
  try dsimp only at hz hlt
  rw [e1] at hz
  exact va_ldcS F.1 F.2.1 F.2.2.2.1 hz hdg (hk _ _ _ _ h hal (am_wk_c (am_wk_s hlt) hst) H locs ls hl hP hS)
theorem am_o_iload_n {n : Fin 4} (hn : Nat.beq n.val a1 = true) (F : am_F X p R s m args c C j d ce sl) (hk : am_HK p l e R s m args below meth c C (am_ml j) ce sl Q r k) (hdg : decode (am_b j) pc = .ok (.iload_n n, 1)) (h : am_il 1 a1 k pc al st M = some r) : am_Wd p l e R s m args below meth c C (am_ml j) ce sl Q pc al st M := by
  intro hal hst H locs ls hl hP hS
  unfold am_il at h
  split at h
  · rename_i hx
    exact lv_iload_n F.1 F.2.1 hdg (am_beq hn) (hl.2.2.2 _ _ hx) (hk _ _ _ _ h hal (am_wk_c trivial hst) H locs ls hl hP hS)
  · cases h
theorem am_o_iload {i : Nat} (hn : Nat.beq i a1 = true) (F : am_F X p R s m args c C j d ce sl) (hk : am_HK p l e R s m args below meth c C (am_ml j) ce sl Q r k) (hdg : decode (am_b j) pc = .ok (.iload i, 2)) (h : am_il 2 a1 k pc al st M = some r) : am_Wd p l e R s m args below meth c C (am_ml j) ce sl Q pc al st M := by
  intro hal hst H locs ls hl hP hS
  have hn := am_beq hn
  subst hn
  unfold am_il at h
  split at h
  · rename_i hx
    exact lv_iload F.1 F.2.1 hdg (hl.2.2.2 _ _ hx) (hk _ _ _ _ h hal (am_wk_c trivial hst) H locs ls hl hP hS)
  · cases h
theorem am_o_lload_n {n : Fin 4} (hn : Nat.beq n.val a1 = true) (F : am_F X p R s m args c C j d ce sl) (hk : am_HK p l e R s m args below meth c C (am_ml j) ce sl Q r k) (hdg : decode (am_b j) pc = .ok (.lload_n n, 1)) (h : am_ll 1 a1 k pc al st M = some r) : am_Wd p l e R s m args below meth c C (am_ml j) ce sl Q pc al st M := by
  intro hal hst H locs ls hl hP hS
  unfold am_ll at h
  split at h
  · rename_i hx
    exact lv_lload_n F.1 F.2.1 hdg (am_beq hn) (hl.2.2.2 _ _ hx) (hk _ _ _ _ h hal (am_wk_c trivial hst) H locs ls hl hP hS)
  · cases h
theorem am_o_lload {i : Nat} (hn : Nat.beq i a1 = true) (F : am_F X p R s m args c C j d ce sl) (hk : am_HK p l e R s m args below meth c C (am_ml j) ce sl Q r k) (hdg : decode (am_b j) pc = .ok (.lload i, 2)) (h : am_ll 2 a1 k pc al st M = some r) : am_Wd p l e R s m args below meth c C (am_ml j) ce sl Q pc al st M := by
  intro hal hst H locs ls hl hP hS
  have hn := am_beq hn
  subst hn
  unfold am_ll at h
  split at h
  · rename_i hx
    exact lv_lload F.1 F.2.1 hdg (hl.2.2.2 _ _ hx) (hk _ _ _ _ h hal (am_wk_c trivial hst) H locs ls hl hP hS)
  · cases h
theorem am_o_aload_n {n : Fin 4} (hn : Nat.beq n.val a1 = true) (F : am_F X p R s m args c C j d ce sl) (hk : am_HK p l e R s m args below meth c C (am_ml j) ce sl Q r k) (hdg : decode (am_b j) pc = .ok (.aload_n n, 1)) (h : am_al 1 a1 k pc al st M = some r) : am_Wd p l e R s m args below meth c C (am_ml j) ce sl Q pc al st M := by
  intro hal hst H locs ls hl hP hS
  unfold am_al at h
  split at h
  · rename_i hx
    exact lv_aload_n F.1 F.2.1 hdg (am_beq hn) (hl.2.2.2 _ _ hx) (hk _ _ _ _ h hal (am_wk_c (hal _ _ hx) hst) H locs ls hl hP hS)
  · cases h
theorem am_o_aload {i : Nat} (hn : Nat.beq i a1 = true) (F : am_F X p R s m args c C j d ce sl) (hk : am_HK p l e R s m args below meth c C (am_ml j) ce sl Q r k) (hdg : decode (am_b j) pc = .ok (.aload i, 2)) (h : am_al 2 a1 k pc al st M = some r) : am_Wd p l e R s m args below meth c C (am_ml j) ce sl Q pc al st M := by
  intro hal hst H locs ls hl hP hS
  have hn := am_beq hn
  subst hn
  unfold am_al at h
  split at h
  · rename_i hx
    exact lv_aload F.1 F.2.1 hdg (hl.2.2.2 _ _ hx) (hk _ _ _ _ h hal (am_wk_c (hal _ _ hx) hst) H locs ls hl hP hS)
  · cases h
theorem am_o_istore_n {n : Fin 4} (hn : Nat.beq n.val a1 = true) (F : am_F X p R s m args c C j d ce sl) (hk : am_HK p l e R s m args below meth c C (am_ml j) ce sl Q r k) (hdg : decode (am_b j) pc = .ok (.istore_n n, 1)) (h : am_is 1 a1 k pc al st M = some r) : am_Wd p l e R s m args below meth c C (am_ml j) ce sl Q pc al st M := by
  intro hal hst H locs ls hl hP hS
  unfold am_is at h
  split at h
  · rename_i hb
    have hlt := am_blt hb
    rw [hl.2.2.1] at hlt
    exact lv_istore_n (lv := am_lv C al (am_ml j)) F.1 F.2.1 hdg (am_beq hn) (am_lh_has hl) hlt rfl (fun ls' h' => hk _ _ _ _ h (am_wl_s1 hal trivial) (am_wk_t hst) H locs ls' (am_lh_s1 hl hlt h') hP hS)
  · cases h
theorem am_o_istore {i : Nat} (hn : Nat.beq i a1 = true) (F : am_F X p R s m args c C j d ce sl) (hk : am_HK p l e R s m args below meth c C (am_ml j) ce sl Q r k) (hdg : decode (am_b j) pc = .ok (.istore i, 2)) (h : am_is 2 a1 k pc al st M = some r) : am_Wd p l e R s m args below meth c C (am_ml j) ce sl Q pc al st M := by
  intro hal hst H locs ls hl hP hS
  have hn := am_beq hn
  subst hn
  unfold am_is at h
  split at h
  · rename_i hb
    have hlt := am_blt hb
    rw [hl.2.2.1] at hlt
    exact lv_istore (lv := am_lv C al (am_ml j)) F.1 F.2.1 hdg (am_lh_has hl) hlt rfl (fun ls' h' => hk _ _ _ _ h (am_wl_s1 hal trivial) (am_wk_t hst) H locs ls' (am_lh_s1 hl hlt h') hP hS)
  · cases h
theorem am_o_lstore_n {n : Fin 4} (hn : Nat.beq n.val a1 = true) (F : am_F X p R s m args c C j d ce sl) (hk : am_HK p l e R s m args below meth c C (am_ml j) ce sl Q r k) (hdg : decode (am_b j) pc = .ok (.lstore_n n, 1)) (h : am_ls 1 a1 k pc al st M = some r) : am_Wd p l e R s m args below meth c C (am_ml j) ce sl Q pc al st M := by
  intro hal hst H locs ls hl hP hS
  unfold am_ls at h
  split at h
  · rename_i hb
    have hlt := am_blt hb
    rw [hl.2.2.1] at hlt
    exact lv_lstore_n (lv := am_lv C al (am_ml j)) F.1 F.2.1 hdg (am_beq hn) (am_lh_has hl) hlt rfl (fun ls' h' => hk _ _ _ _ h (am_wl_s2 hal trivial) (am_wk_t hst) H locs ls' (am_lh_s2 hl hlt h') hP hS)
  · cases h
theorem am_o_lstore {i : Nat} (hn : Nat.beq i a1 = true) (F : am_F X p R s m args c C j d ce sl) (hk : am_HK p l e R s m args below meth c C (am_ml j) ce sl Q r k) (hdg : decode (am_b j) pc = .ok (.lstore i, 2)) (h : am_ls 2 a1 k pc al st M = some r) : am_Wd p l e R s m args below meth c C (am_ml j) ce sl Q pc al st M := by
  intro hal hst H locs ls hl hP hS
  have hn := am_beq hn
  subst hn
  unfold am_ls at h
  split at h
  · rename_i hb
    have hlt := am_blt hb
    rw [hl.2.2.1] at hlt
    exact lv_lstore (lv := am_lv C al (am_ml j)) F.1 F.2.1 hdg (am_lh_has hl) hlt rfl (fun ls' h' => hk _ _ _ _ h (am_wl_s2 hal trivial) (am_wk_t hst) H locs ls' (am_lh_s2 hl hlt h') hP hS)
  · cases h
theorem am_o_astore_n {n : Fin 4} (hn : Nat.beq n.val a1 = true) (F : am_F X p R s m args c C j d ce sl) (hk : am_HK p l e R s m args below meth c C (am_ml j) ce sl Q r k) (hdg : decode (am_b j) pc = .ok (.astore_n n, 1)) (h : am_as 1 a1 k pc al st M = some r) : am_Wd p l e R s m args below meth c C (am_ml j) ce sl Q pc al st M := by
  intro hal hst H locs ls hl hP hS
  unfold am_as at h
  split at h
  · rename_i hb
    have hlt := am_blt hb
    rw [hl.2.2.1] at hlt
    exact lv_astore_n (lv := am_lv C al (am_ml j)) F.1 F.2.1 hdg (am_beq hn) (am_lh_has hl) hlt rfl (fun ls' h' => hk _ _ _ _ h (am_wl_s1 hal (am_wk_h hst)) (am_wk_t hst) H locs ls' (am_lh_s1 hl hlt h') hP hS)
  · cases h
theorem am_o_astore {i : Nat} (hn : Nat.beq i a1 = true) (F : am_F X p R s m args c C j d ce sl) (hk : am_HK p l e R s m args below meth c C (am_ml j) ce sl Q r k) (hdg : decode (am_b j) pc = .ok (.astore i, 2)) (h : am_as 2 a1 k pc al st M = some r) : am_Wd p l e R s m args below meth c C (am_ml j) ce sl Q pc al st M := by
  intro hal hst H locs ls hl hP hS
  have hn := am_beq hn
  subst hn
  unfold am_as at h
  split at h
  · rename_i hb
    have hlt := am_blt hb
    rw [hl.2.2.1] at hlt
    exact lv_astore (lv := am_lv C al (am_ml j)) F.1 F.2.1 hdg (am_lh_has hl) hlt rfl (fun ls' h' => hk _ _ _ _ h (am_wl_s1 hal (am_wk_h hst)) (am_wk_t hst) H locs ls' (am_lh_s1 hl hlt h') hP hS)
  · cases h
theorem am_o_iinc {i : Nat} {n : Int} (hn : Nat.beq i a1 = true) (hv : Int32.ofInt n = a3) (F : am_F X p R s m args c C j d ce sl) (hk : am_HK p l e R s m args below meth c C (am_ml j) ce sl Q r k) (hdg : decode (am_b j) pc = .ok (.iinc i n, 3)) (h : am_inc a1 a3 k pc al st M = some r) : am_Wd p l e R s m args below meth c C (am_ml j) ce sl Q pc al st M := by
  intro hal hst H locs ls hl hP hS
  have hn := am_beq hn
  subst hn
  subst hv
  unfold am_inc at h
  split at h
  · rename_i hx
    have hlt := am_ld_lt _ _ _ hx
    rw [hl.2.2.1] at hlt
    obtain ⟨kk, hkk⟩ := List.getElem?_of_mem (am_lv_mem (C := C) hlt hx)
    exact lv_iinc (lv := am_lv C al (am_ml j)) F.1 F.2.1 hdg (am_lh_has hl) hkk rfl hlt rfl (fun ls' h' => hk _ _ _ _ h (am_wl_s1 hal trivial) hst H locs ls' (am_lh_s1 hl hlt h') hP hS)
  · cases h
theorem am_o_dup  (F : am_F X p R s m args c C j d ce sl) (hk : am_HK p l e R s m args below meth c C (am_ml j) ce sl Q r k) (hdg : decode (am_b j) pc = .ok (.dup, 1)) (h : am_dup k pc al st M = some r) : am_Wd p l e R s m args below meth c C (am_ml j) ce sl Q pc al st M := by
  intro hal hst H locs ls hl hP hS
  unfold am_dup at h
  split at h
  · exact lv_dup F.1 F.2.1 hdg rfl (hk _ _ _ _ h hal (am_wk_c trivial hst) H locs ls hl hP hS)
  · exact lv_dup F.1 F.2.1 hdg rfl (hk _ _ _ _ h hal (am_wk_c (am_wk_h hst) hst) H locs ls hl hP hS)
  · cases h
theorem am_o_dup2  (F : am_F X p R s m args c C j d ce sl) (hk : am_HK p l e R s m args below meth c C (am_ml j) ce sl Q r k) (hdg : decode (am_b j) pc = .ok (.dup2, 1)) (h : am_dup2 k pc al st M = some r) : am_Wd p l e R s m args below meth c C (am_ml j) ce sl Q pc al st M := by
  intro hal hst H locs ls hl hP hS
  unfold am_dup2 at h
  split at h
  · exact lv_dup2_11 F.1 F.2.1 hdg rfl rfl (hk _ _ _ _ h hal (am_wk_c trivial (am_wk_c (am_wk_h (am_wk_t hst)) hst)) H locs ls hl hP hS)
  · cases h
theorem am_o_pop  (F : am_F X p R s m args c C j d ce sl) (hk : am_HK p l e R s m args below meth c C (am_ml j) ce sl Q r k) (hdg : decode (am_b j) pc = .ok (.pop, 1)) (h : am_popi k pc al st M = some r) : am_Wd p l e R s m args below meth c C (am_ml j) ce sl Q pc al st M := by
  intro hal hst H locs ls hl hP hS
  unfold am_popi at h
  split at h
  · exact lv_pop F.1 F.2.1 hdg rfl (hk _ _ _ _ h hal (am_wk_t hst) H locs ls hl hP hS)
  · exact lv_pop F.1 F.2.1 hdg rfl (hk _ _ _ _ h hal (am_wk_t hst) H locs ls hl hP hS)
  · cases h
theorem am_o_goto {off : Int} (ht : (pc : Int) + off = (a1 : Int)) (F : am_F X p R s m args c C j d ce sl) (hk : am_HK p l e R s m args below meth c C (am_ml j) ce sl Q r k) (hdg : decode (am_b j) pc = .ok (.goto off, 3)) (h : k a1 al st M = some r) : am_Wd p l e R s m args below meth c C (am_ml j) ce sl Q pc al st M := by
  intro hal hst H locs ls hl hP hS
  exact lv_goto (tgt := a1) F.1 F.2.1 hdg ht (hk _ _ _ _ h hal hst H locs ls hl hP hS)
end AMS
