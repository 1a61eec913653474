/-! ===== the constructors run; the memory that they leave; the relation holds there ===== -/
def c1_L0 : c1_L := [(205, 48, 1), (205, 47, 1), (205, 46, 1), (205, 45, 1), (229, 3, (-1)), (229, 2, (-1)), (229, 1, (-1)), (229, 0, (-1)), (205, 41, 1), (205, 38, 1), (205, 37, 1), (205, 35, 1), (205, 34, 1), (205, 33, 1), (205, 32, 1), (205, 31, 1), (205, 30, 1), (205, 29, 1), (205, 28, 1), (205, 27, 1), (205, 26, 1), (205, 21, 1), (205, 20, 1), (205, 19, 1), (205, 15, 1), (205, 14, 1), (205, 13, (-1)), (205, 6, 1), (205, 4, 1), (205, 3, 1), (205, 2, 1), (205, 1, 1), (153, 2, 1), (191, 15, 1), (200, 4, 1), (200, 3, 1), (200, 2, 1), (200, 1, 1), (191, 14, 1), (191, 13, 1), (191, 12, 1), (191, 11, 1), (191, 10, 1), (191, 9, 1), (191, 8, 1), (191, 7, 1), (153, 1, 1), (177, 15, 1), (186, 4, 1), (186, 3, 1), (186, 2, 1), (186, 1, 1), (177, 14, 1), (177, 13, 1), (177, 12, 1), (177, 11, 1), (177, 10, 1), (177, 9, 1), (177, 8, 1), (177, 7, 1), (153, 0, 1), (163, 15, 1), (172, 4, 1), (172, 3, 1), (172, 2, 1), (172, 1, 1), (163, 14, 1), (163, 13, 1), (163, 12, 1), (163, 11, 1), (163, 10, 1), (163, 9, 1), (163, 8, 1), (163, 7, 1), (152, 3, 1), (161, 2, 1), (161, 0, (-1)), (152, 2, 1), (159, 2, 1), (159, 0, (-1)), (152, 1, 1), (157, 2, 1), (157, 0, (-1)), (152, 0, 1), (155, 2, 1), (155, 0, (-1)), (0, 8, 1), (0, 7, 1), (0, 6, 1), (0, 5, 1), (116, 0, 1), (117, 11, 1), (149, 5, 1), (149, 0, 1), (117, 10, 1), (117, 9, 1), (117, 8, 1), (117, 7, 1), (117, 6, 1), (117, 5, 1), (117, 4, 1), (132, 0, 1), (132, 1, 1), (132, 2, 1), (132, 3, 1), (132, 4, 1), (132, 5, 1), (132, 6, 1), (132, 7, 1), (132, 8, 1), (132, 9, 1), (117, 3, 1), (118, 0, 1), (118, 1, 1), (118, 2, 1), (118, 3, 1), (118, 4, 1), (118, 5, 1), (118, 6, 1), (118, 7, 1), (118, 8, 1), (118, 9, 1), (118, 10, 1), (118, 11, 1), (118, 12, 1), (0, 4, 1), (70, 6, 1), (70, 5, 1), (70, 4, 1), (70, 3, 1), (70, 2, 1), (109, 5, 1), (109, 0, 1), (70, 1, 1), (74, 11, 1), (106, 5, 1), (106, 0, 1), (74, 10, 1), (74, 9, 1), (74, 8, 1), (74, 7, 1), (74, 6, 1), (74, 5, 1), (74, 4, 1), (89, 0, 1), (89, 1, 1), (89, 2, 1), (89, 3, 1), (89, 4, 1), (89, 5, 1), (89, 6, 1), (89, 7, 1), (89, 8, 1), (89, 9, 1), (74, 3, 1), (75, 0, 1), (75, 1, 1), (75, 2, 1), (75, 3, 1), (75, 4, 1), (75, 5, 1), (75, 6, 1), (75, 7, 1), (75, 8, 1), (75, 9, 1), (75, 10, 1), (75, 11, 1), (75, 12, 1), (70, 0, 1), (71, 1, 1), (71, 0, 1), (0, 3, 1), (67, 1, 1), (67, 0, 1), (0, 2, 1), (32, 11, 1), (64, 5, 1), (64, 0, 1), (32, 10, 1), (32, 9, 1), (32, 8, 1), (32, 7, 1), (32, 6, 1), (32, 5, 1), (32, 4, 1), (47, 0, 1), (47, 1, 1), (47, 2, 1), (47, 3, 1), (47, 4, 1), (47, 5, 1), (47, 6, 1), (47, 7, 1), (47, 8, 1), (47, 9, 1), (32, 3, 1), (33, 0, 1), (33, 1, 1), (33, 2, 1), (33, 3, 1), (33, 4, 1), (33, 5, 1), (33, 6, 1), (33, 7, 1), (33, 8, 1), (33, 9, 1), (33, 10, 1), (33, 11, 1), (33, 12, 1), (0, 1, 1), (18, 15, 1), (27, 4, 1), (27, 3, 1), (27, 2, 1), (27, 1, 1), (18, 14, 1), (18, 13, 1), (18, 12, 1), (18, 11, 1), (18, 10, 1), (18, 9, 1), (18, 8, 1), (18, 7, 1), (0, 0, 1), (1, 3, (-1)), (1, 1, 1), (4, 15, 1), (13, 4, 1), (13, 3, 1), (13, 2, 1), (13, 1, 1), (4, 14, 1), (4, 13, 1), (4, 12, 1), (4, 11, 1), (4, 10, 1), (4, 9, 1), (4, 8, 1), (4, 7, 1), (1, 0, 1), (2, 0, 1)]
def c1_alok (al : aL) : Bool := match al with
  | [some (.inr (.inr (k0, p0))), some (.inr (.inr (k1, p1))), some (.inr (.inr (k2, p2))), some (.inl x)] => Nat.beq k0 62 && Nat.beq p0 5200 && Nat.beq k1 10 && Nat.beq p1 0 && Nat.beq k2 11 && Nat.beq p2 205 && decide (x = 0)
  | _ => false
theorem c1_alok_use {al : aL} (h : c1_alok al = true) : al = [some (.inr (.inr (62, 5200))), some (.inr (.inr (10, 0))), some (.inr (.inr (11, 205))), some (.inl 0)] := by
  unfold c1_alok at h
  split at h
  · simp only [Bool.and_eq_true, decide_eq_true_eq] at h
    obtain ⟨⟨⟨⟨⟨⟨h1, h2⟩, h3⟩, h4⟩, h5⟩, h6⟩, h7⟩ := h
    rw [am_beq h1, am_beq h2, am_beq h3, am_beq h4, am_beq h5, am_beq h6, h7]
  · cases h
def c1_lok (o : Option c1_T) : Bool := match o with
  | some (pc, al, st, n, Lm) => Nat.beq pc 18 && c1_alok al && st.isEmpty && Nat.beq n 233 && decide (Lm = c1_L0)
  | none => false
set_option maxRecDepth 1000000 in
theorem c1_law_ok : c1_lok c1_law = true := by decide +kernel
theorem c1_law_eq : c1_law = some (18, [some (.inr (.inr (62, 5200))), some (.inr (.inr (10, 0))), some (.inr (.inr (11, 205))), some (.inl 0)], [], 233, c1_L0) := by
  have h := c1_law_ok
  generalize c1_law = o at h ⊢
  unfold c1_lok at h
  split at h
  · rename_i pc al st n Lm
    simp only [Bool.and_eq_true, decide_eq_true_eq] at h
    obtain ⟨⟨⟨⟨h1, h2⟩, h3⟩, h4⟩, h5⟩ := h
    rw [am_beq h1, c1_alok_use h2, List.isEmpty_iff.mp h3, am_beq h4, h5]
  · cases h
set_option maxRecDepth 1000000 in
theorem c1_flO : (List.range am_N).all (fun a => (List.range (am_fl (am_sh a)).length).all (fun j => Nat.ble (am_fd (am_sh a) j).1 1 || !(decide (c1_rd c1_L0 a j = 0)))) = true := by decide +kernel
set_option maxRecDepth 1000000 in
theorem c1_flA : (List.range am_N).all (fun a => !(Nat.beq (am_ar (am_sh a)).1 4) || (List.range (am_ar (am_sh a)).2.1).all (fun i => !(decide (c1_rd c1_L0 a i = 0)))) = true := by decide +kernel
theorem c1_arr_ext {cA : ClassId} {N : Nat} {f g : Nat → Value} (h : ∀ j, j < N → f j = g j) : arrV cA N f = arrV cA N g := by
  unfold arrV
  have e : (Array.ofFn (n := N) fun j => f j.val) = (Array.ofFn (n := N) fun j => g j.val) := by
    congr 1
    funext j
    exact h j.val j.isLt
  rw [e]
/-- when all is set, it is the world of the methods -/
theorem c1_done {C : aC} {H : Heap} (hP : c1_P C am_N (c1_M c1_L0) H) : va_P C.2.1 vwCl (am_ws C (c1_M c1_L0)) H := by
  intro k q hk
  have hkN : k < am_N := Classical.byContradiction (fun z => by rw [am_ws_no C _ z] at hk; cases hk)
  rw [am_ws_get C _ hkN] at hk
  cases hk
  have h := hP.2.2.2 k _ (c1_ws_get C _ hkN)
  by_cases ho : am_sh k < 20
  · rw [c1_ce_o rfl ho] at h
    rw [am_ce_o rfl ho]
    have e : c1_fs C (c1_M c1_L0) k = am_fs C (c1_M c1_L0) k := by
      apply List.ext_getElem?
      intro i
      unfold c1_fs am_fs
      rw [List.getElem?_mapIdx, List.getElem?_mapIdx]
      cases hi : (am_fl (am_sh k))[i]? with
      | none => rfl
      | some dd =>
        have hlt := (List.getElem?_eq_some_iff.mp hi).1
        have hfd : am_fd (am_sh k) i = dd := by
          unfold am_fd
          rw [List.getD_eq_getElem?_getD, hi]
          rfl
        have hfl := List.all_eq_true.mp (List.all_eq_true.mp c1_flO k (List.mem_range.mpr hkN)) i (List.mem_range.mpr hlt)
        rw [hfd] at hfl
        show some (c1_fv C (c1_M c1_L0) k i dd) = some (am_fv C (c1_M c1_L0) k i dd)
        simp only [Bool.or_eq_true, Bool.not_eq_true', decide_eq_false_iff_not] at hfl
        obtain ⟨x, y, w⟩ := dd
        match x with
        | 0 => rfl
        | 1 => rfl
        | x + 2 =>
          show some (if (c1_M c1_L0).1 k i = 0 then Value.null else Value.ref (am_ad C (k + w))) = some (Value.ref (am_ad C (k + w)))
          rcases hfl with z | z
          · have z := Nat.le_of_ble_eq_true z
            exfalso
            have z : x + 2 ≤ 1 := z
            omega
          · rw [if_neg (show ¬ (c1_M c1_L0).1 k i = 0 from z)]
    rw [← e]
    exact h
  · unfold c1_ce at h
    unfold am_ce
    rw [if_neg ho] at h ⊢
    have hfl := List.all_eq_true.mp c1_flA k (List.mem_range.mpr hkN)
    have h : H[am_ad C k]? = some (vp_cell (C.2.2.1 (am_ar (am_sh k)).2.2.1) ((am_ar (am_sh k)).2.1, c1_ac C (c1_M c1_L0) k (am_ar (am_sh k)))) := h
    show H[am_ad C k]? = some (vp_cell (C.2.2.1 (am_ar (am_sh k)).2.2.1) ((am_ar (am_sh k)).2.1, am_ac C (c1_M c1_L0) k (am_ar (am_sh k))))
    rw [h]
    simp only [Bool.or_eq_true, Bool.not_eq_true'] at hfl
    generalize am_ar (am_sh k) = q at hfl ⊢
    obtain ⟨x, len, ci, ek, f0, dd⟩ := q
    by_cases x4 : x = 4
    · subst x4
      rw [c1_ac_4, show am_ac C (c1_M c1_L0) k (4, len, ci, ek, f0, dd) = .inr (.inr (.inr (.inr (fun i => some (am_ad C (k + (f0 + dd * i))))))) from rfl, vp_cell_q, vp_cell_q]
      congr 1
      refine c1_arr_ext (fun i hi => ?_)
      rcases hfl with z | z
      · cases z
      · have z := List.all_eq_true.mp z i (List.mem_range.mpr hi)
        simp only [Bool.not_eq_true', decide_eq_false_iff_not] at z
        rw [if_neg (show ¬ (c1_M c1_L0).1 k i = 0 from z)]
    · have e : c1_ac C (c1_M c1_L0) k (x, len, ci, ek, f0, dd) = am_ac C (c1_M c1_L0) k (x, len, ci, ek, f0, dd) := by
        by_cases x3 : x = 3
        · subst x3
          rfl
        · have e1 : c1_ac C (c1_M c1_L0) k (x, len, ci, ek, f0, dd) = .inl ((c1_M c1_L0).1 k) := by
            unfold c1_ac
            split
            · exact absurd (by assumption) x3
            · exact absurd (by assumption) x4
            · rfl
          have e2 : am_ac C (c1_M c1_L0) k (x, len, ci, ek, f0, dd) = .inl ((c1_M c1_L0).1 k) := by
            unfold am_ac
            split
            · exact absurd (by assumption) x3
            · exact absurd (by assumption) x4
            · rfl
          rw [e1, e2]
      rw [e]
theorem c1_rd_no : ∀ (Lm : c1_L) (a : Nat), Lm.all (fun q => !(Nat.beq a q.1)) = true → ∀ j, c1_rd Lm a j = 0
  | [], _, _, _ => rfl
  | (b, i, x) :: r, a, h, j => by
    simp only [List.all_cons, Bool.and_eq_true, Bool.not_eq_true'] at h
    rw [c1_rd, h.1]
    exact c1_rd_no r a h.2 j
theorem c1_r0 {a : Nat} (h : c1_L0.all (fun q => !(Nat.beq a q.1)) = true) (j : Nat) : (c1_M c1_L0).1 a j = nI 0 := c1_rd_no c1_L0 a h j
def c1_vl : List (Nat × Nat × Int32) := [(18, 0, 0), (18, 1, 0), (18, 2, 0), (18, 3, 0), (18, 4, 0), (18, 5, 0), (18, 6, 0), (27, 0, 0), (155, 0, (-1)), (157, 0, (-1)), (159, 0, (-1)), (161, 0, (-1)), (229, 0, (-1)), (229, 1, (-1)), (229, 2, (-1)), (229, 3, (-1)), (2, 1, 0), (205, 5, 0), (1, 2, 0), (205, 12, 0), (1, 3, (-1)), (205, 13, (-1))]
set_option maxRecDepth 1000000 in
theorem c1_vl_ok : c1_vl.all (fun q => decide (c1_rd c1_L0 q.1 q.2.1 = q.2.2)) = true := by decide +kernel
theorem c1_vu (k : Nat) {a j : Nat} {x : Int32} (h : c1_vl[k]? = some (a, j, x)) : (c1_M c1_L0).1 a j = x := of_decide_eq_true (List.all_eq_true.mp c1_vl_ok _ (List.mem_of_getElem? h))
theorem c1_th (k : Nat) : thr W00 k = [] := rfl
theorem c1_bg (k : Nat) : bg W00 k = 0 := by
  have := bg_le W00 k
  have e : W00 0 4 = 0 := rfl
  omega
theorem RW_0 : RW (c1_M c1_L0) W00 := by
  refine ⟨wf_00, ?_, ?_, ?_, ?_, ?_, ?_, ?_, ?_⟩
  · refine ⟨⟨?_, ?_, ?_, ?_, ?_, ?_, ?_⟩, fun t ht => absurd ht (Nat.not_lt_zero t), fun t ht => absurd ht (Nat.not_lt_zero t), fun k hk => ?_, fun k i hk hi => ?_, ?_, fun t ht => absurd ht (Nat.not_lt_zero t)⟩
    · exact c1_vu 0 rfl
    · exact c1_vu 1 rfl
    · exact c1_vu 2 rfl
    · exact c1_vu 3 rfl
    · exact c1_vu 4 rfl
    · exact c1_vu 5 rfl
    · exact c1_vu 6 rfl
    · rw [c1_bg]
      exact c1_r0 (a := 26) (by decide +kernel) k
    · rw [c1_th] at hi
      exact absurd hi (Nat.not_lt_zero i)
    · exact c1_vu 7 rfl
  · refine ⟨⟨?_, ?_, ?_, ?_, ?_, ?_, ?_, ?_⟩, fun t ht => absurd ht (Nat.not_lt_zero t), fun t ht => absurd ht (Nat.not_lt_zero t), fun t ht => absurd ht (Nat.not_lt_zero t)⟩
    all_goals exact c1_r0 (a := 206) (by decide +kernel) _
  · exact ⟨fun y hy t ht => absurd ht (Nat.not_lt_zero t), fun t ht => absurd ht (Nat.not_lt_zero t), fun t ht => absurd ht (Nat.not_lt_zero t), fun t ht => absurd ht (Nat.not_lt_zero t), fun t ht => absurd ht (Nat.not_lt_zero t)⟩
  · refine ⟨fun t m ht => absurd ht (Nat.not_lt_zero t), fun e he => .inr ?_, fun e he => .inr ?_⟩
    · exact c1_r0 (a := 114) (by decide +kernel) e
    · have e1 : stV W00 e = 0 := by
        unfold stV
        rw [show ∀ Y, lH W00 Y = 0 from fun _ => rfl]
        decide
      rw [e1]
      exact c1_r0 (a := 115) (by decide +kernel) e
  · exact fun k hk => .inl ⟨c1_r0 (a := 154) (by decide +kernel) k, c1_r0 (a := 208) (by decide +kernel) k⟩
  · intro x hx
    refine .inl ?_
    rcases (show x = 0 ∨ x = 1 ∨ x = 2 ∨ x = 3 by omega) with rfl | rfl | rfl | rfl
    · constructor
      · exact c1_vu 8 rfl
      · exact c1_vu 12 rfl
    · constructor
      · exact c1_vu 9 rfl
      · exact c1_vu 13 rfl
    · constructor
      · exact c1_vu 10 rfl
      · exact c1_vu 14 rfl
    · constructor
      · exact c1_vu 11 rfl
      · exact c1_vu 15 rfl
  · refine ⟨0, by omega, ?_, ?_, fun i hi => absurd hi (Nat.not_lt_zero i)⟩
    · exact c1_vu 16 rfl
    · exact c1_vu 17 rfl
  · constructor
    · exact (c1_vu 18 (a := 1) (j := 2) (x := 0) rfl).trans (c1_vu 19 (a := 205) (j := 12) (x := 0) rfl).symm
    · exact (c1_vu 20 (a := 1) (j := 3) (x := -1) rfl).trans (c1_vu 21 (a := 205) (j := 13) (x := -1) rfl).symm
