section AMC
variable {X : Option (Nat × (Nat → Int32))} {sws : List (List (Int32 × Nat) × Nat)} {sem : Nat → List aV → aM → Option aR} {p : Program} {l : Launch} {e : Env} {R : Room} {s : State} {m : MethodId} {args : Array Value} {below : List Frame} {meth : Method} {c : Code} {C : aC} {Q : State → Prop} {j d ce sl rt : Nat} {r : aR} {k : aK} {pc a1 a2 : Nat} {a3 : Int32} {a4 : Int64} {al : aL} {st : List aV} {M : aM}
theorem am_callW {H : Heap} {locs : List Loc} {ls : Array Slot} {st0 rest : List Value} {rr : aR} {aa : Array Value}
    (hr : va_Run p l e R s m args below meth c H locs ce sl 0 0 (F0 m pc ls st0) rest (am_Qc C rr aa) (am_A C)) (hS : va_S (am_A C) s.heap H locs)
    (kk : am_okO rr.1 → ∀ (H1 : Heap) (locs1 : List Loc), va_P C.2.1 vwCl (am_ws C rr.2) H1 → va_S (am_A C) s.heap H1 locs1 → W p l e R s m args below meth c H1 locs1 ce sl Q (F0 m (pc + 3) ls ((rr.1.map (am_cv C)).toList ++ rest))) : W p l e R s m args below meth c H locs ce sl Q (F0 m pc ls st0) := by
  intro T hT X0
  obtain ⟨v, st₀, t, T', L, h0, X', hL, e1, e2, ⟨hv, hp, ⟨hz, hk⟩, hro⟩, st⟩ := hr T hT X0
  injection hv with hv
  subst hv
  rw [h0] at hz hk
  have hS1 : va_S (am_A C) s.heap T'.heap (locs ++ L) := by
    refine ⟨Nat.le_trans hS.1 (by rw [e1]; exact hz), fun q h1 h2 => ?_, fun q hq => ?_⟩
    · rw [e1, hk q (Nat.lt_of_lt_of_le h1 hS.1) h2]
      exact hS.2.1 q h1 h2
    · rcases List.mem_append.mp hq with hq | hq
      · exact hS.2.2 q hq
      · exact hL q hq
  obtain ⟨t2, a1, b1⟩ := kk hro T'.heap (locs ++ L) (by rw [e1]; exact hp) hS1 T' rfl X'
  exact ⟨t2, st t2 a1, b1⟩
theorem am_back_none {kd : Nat} {k : aK} {pc : Nat} {al : aL} {rest : List aV} : am_back kd k pc al rest none = none := by
  unfold am_back
  split <;> rfl
theorem am_back_ok {kd : Nat} {rest : List aV} {rr : aR} (hk : am_HK p l e R s m args below meth c C (am_ml j) ce sl Q r k) (hro : am_okO rr.1) (h : am_back kd k pc al rest (some rr) = some r) (hal : am_wl al) (hst : am_wk rest) (H : Heap) (locs : List Loc) (ls : Array Slot) (hl : am_lh C ls (am_ml j) al) (hP : va_P C.2.1 vwCl (am_ws C rr.2) H) (hS : va_S (am_A C) s.heap H locs) : W p l e R s m args below meth c H locs ce sl Q (F0 m (pc + 3) ls ((rr.1.map (am_cv C)).toList ++ rest.map (am_cv C))) := by
  obtain ⟨rv, M2⟩ := rr
  unfold am_back at h
  split at h
  · unfold am_bi at h
    split at h
    · rename_i hq
      cases hq
      exact hk _ _ _ _ h hal (am_wk_c trivial hst) H locs ls hl hP hS
    · cases h
  · unfold am_bl at h
    split at h
    · rename_i hq
      cases hq
      exact hk _ _ _ _ h hal (am_wk_c trivial hst) H locs ls hl hP hS
    · cases h
  · unfold am_br at h
    split at h
    · rename_i hq
      cases hq
      split at h
      · rename_i e1 e2
        have e1 := am_beq e1
        have e2 := am_beq e2
        subst e1
        subst e2
        exact hk _ _ _ _ h hal (am_wk_c (hro _ rfl) hst) H locs ls hl hP hS
      · cases h
    · cases h
  · unfold am_bv at h
    split at h
    · rename_i hq
      cases hq
      exact hk _ _ _ _ h hal hst H locs ls hl hP hS
    · cases h
theorem am_pop_ok : ∀ (n : Nat) (acc st as r : List aV), am_pop n acc st = some (as, r) → as.length = n + acc.length ∧ as.reverse ++ r = acc.reverse ++ st
  | 0, acc, st, as, r, h => by
    unfold am_pop at h
    cases h
    exact ⟨by omega, rfl⟩
  | n + 1, acc, [], as, r, h => by
    unfold am_pop at h
    cases h
  | n + 1, acc, v :: st, as, r, h => by
    unfold am_pop at h
    obtain ⟨h1, h2⟩ := am_pop_ok n (v :: acc) st as r h
    refine ⟨by simp at h1; omega, ?_⟩
    rw [h2]
    simp
theorem am_wd_cv (C : aC) : ∀ (st : List aV), ((st.map (am_cv C)).map fun v => v.category).sum = am_wd st
  | [] => rfl
  | .inl x :: r => by
    show 1 + ((r.map (am_cv C)).map fun v => v.category).sum = 1 + am_wd r
    rw [am_wd_cv C r]
  | .inr (.inl x) :: r => by
    show 2 + ((r.map (am_cv C)).map fun v => v.category).sum = 2 + am_wd r
    rw [am_wd_cv C r]
  | .inr (.inr q) :: r => by
    show 1 + ((r.map (am_cv C)).map fun v => v.category).sum = 1 + am_wd r
    rw [am_wd_cv C r]
theorem am_wk_app {a b : List aV} (h : am_wk (a ++ b)) : am_wk a ∧ am_wk b := ⟨fun v hv => h v (List.mem_append_left _ hv), fun v hv => h v (List.mem_append_right _ hv)⟩
theorem am_wk_rev {a : List aV} (h : am_wk a.reverse) : am_wk a := fun v hv => h v (List.mem_reverse.mpr hv)
/-- what the tables say of a callee -/
theorem am_okj {j : Nat} (h : am_ss j < 2) : am_okm (am_me j) = true := by
  have h0 := am_me_ok j
  unfold am_okq at h0
  simp only [Bool.or_eq_true] at h0
  rcases h0 with h0 | h0
  · have := am_beq h0
    unfold am_ss at h
    omega
  · exact h0
theorem am_okj_all {j : Nat} (h : am_ss j < 2) : am_cwo (am_me j).2.2.2.1 = some (am_cw j) ∧ plainName (am_y j).cls = true ∧ am_on (am_ow j) = (am_y j).cls ∧ Cond.initialized (am_y j).cls ∈ am_g ∧ ((am_y j).cls ≠ "java/lang/invoke/MethodHandle" ∧ (am_y j).cls ≠ "java/lang/invoke/VarHandle") ∧ (parseMethodDescriptor (am_y j).desc).map (fun d => d.parameters.length) = some (am_np j) ∧ am_ml j ≤ 21 ∧ Cond.code (am_y j) (am_b j) (am_ml j) (am_rt j) ∈ am_g ∧ (am_ss j = 0 → Cond.instanceMethod (am_y j) ∈ am_g ∧ Cond.selects (am_y j).cls (am_y j) (am_y j) ∈ am_g) ∧ (am_ss j = 1 → Cond.static (am_y j) ∈ am_g) := by
  have h0 := am_okj h
  unfold am_okm at h0
  split at h0
  · rename_i y b n r hc
    have ecw : am_cw j = (y, b, n, r) := by unfold am_cw; rw [hc]; rfl
    have ey : am_y j = y := by unfold am_y; rw [ecw]
    have eb : am_b j = b := by unfold am_b; rw [ecw]
    have en : am_ml j = n := by unfold am_ml; rw [ecw]
    have er : am_rt j = r := by unfold am_rt; rw [ecw]
    rw [ey, eb, en, er, ecw]
    simp only [Bool.and_eq_true, decide_eq_true_eq] at h0
    obtain ⟨⟨⟨⟨⟨⟨h1, h2⟩, h3⟩, h4⟩, h5⟩, h6⟩, h7⟩ := h0
    have hcode : am_at (am_me j).2.2.2.1 = some (.code y b n r) := by
      unfold am_cwo at hc
      split at hc
      · rename_i hq
        cases hc
        exact hq
      · cases hc
    refine ⟨hc, h1, h2, am_gat h3 rfl, h4, h5, Nat.le_of_ble_eq_true h6, am_gat hcode rfl, fun q => ?_, fun q => ?_⟩
    · have q : (am_me j).2.1 = 0 := q
      rw [q] at h7
      simp only [Bool.and_eq_true, decide_eq_true_eq] at h7
      exact ⟨am_gat h7.1 rfl, am_gat h7.2 rfl⟩
    · have q : (am_me j).2.1 = 1 := q
      rw [q] at h7
      simp only [decide_eq_true_eq] at h7
      exact am_gat h7 rfl
  · cases h0
theorem am_goodU {j : Nat} (h : am_ss j < 2) : GoodIn am_g (am_wsU j) := by
  intro w hw
  unfold am_wsU at hw
  rcases List.mem_cons.mp hw with e | e
  · subst e
    have := (am_okj_all h).2.2.2.2.2.2.2.1
    exact ⟨this, am_ggood this⟩
  · exact ⟨e, am_ggood e⟩
theorem am_pn_lo {j : Nat} (h : j < 9000) : am_pn j = am_y j := by
  unfold am_pn
  split
  · omega
  · omega
  · omega
  · omega
  · rfl
theorem am_callB {s : State} {args : Array Value} {o i j2 d2 : Nat} {R : Room} {d : Nat} (hts : ∀ w ∈ am_g, w.before args s = true) (hlk : Cond.methodLink (am_on o) i (am_y j2) ∈ am_g) (hss : am_ss j2 < 2) (hd : d2 + 1 ≤ d) (hR : d ≤ R.frames ∧ 40 * d ≤ R.locals) : CallB R s args (am_on o) i (am_y j2) (am_b j2) (am_ml j2) (am_rt j2) (am_wsU j2) (am_rm d2) 0 0 (am_np j2) := by
  obtain ⟨-, -, -, h4, h5, h6, h7, h8, -, -⟩ := am_okj_all hss
  exact callB_of (am_np j2) hts (am_goodU hss) rfl rfl rfl (hts _ h4) (hts _ hlk) ⟨h5.1, h5.2, h6⟩ ⟨show d2 + 1 ≤ R.frames by omega, show 8 + (am_ml j2 + 11) + 40 * d2 ≤ R.locals by omega⟩
set_option maxRecDepth 100000 in
theorem am_on_cl : (List.range 12).all (fun kd => decide (am_on kd = (am_cl kd).1)) = true := by decide +kernel
set_option maxRecDepth 100000 in
theorem am_on_str : (List.range 400).all (fun j => !(Nat.beq (am_rk j) 60) || decide (am_on (am_ow j) = "java/lang/String")) = true := by decide +kernel
theorem am_on_s {j : Nat} (h : am_rk j = 60) : am_on (am_ow j) = "java/lang/String" := by
  by_cases hj : j < 400
  · have h0 := List.all_eq_true.mp am_on_str j (List.mem_range.mpr hj)
    rw [h] at h0
    simpa using h0
  · exfalso
    have e : am_me j = (0, 2, 0, 0, 0, 0, 0) := by
      unfold am_me
      rw [List.getD_eq_getElem?_getD, List.getElem?_eq_none]
      · rfl
      · have : am_mt.length = 346 := by decide +kernel
        omega
    unfold am_rk am_ow at h
    rw [e] at h
    exact absurd h (by decide)
theorem am_rk_lo {j : Nat} (h : am_rk j ≠ 60) : am_rk j = am_ow j := by
  unfold am_rk at h ⊢
  split
  · rename_i q
    rw [if_pos q] at h
    exact absurd rfl h
  · rfl
theorem am_str_ad {a : Nat} (h : am_wkb 60 a = true) : ∃ i, i < am_nS ∧ a = 5000 + i := by
  unfold am_wkb at h
  simp only [Bool.or_eq_true, Bool.and_eq_true] at h
  rcases h with ((h | h) | h) | h
  · exfalso
    have h1 := am_clo_k (am_blt h.1)
    have h2 := am_beq h.2
    rw [h2] at h1
    exact absurd (h1.1.mpr (by decide)) (by decide)
  · have h1 := Nat.le_of_ble_eq_true h.1.2
    have h2 := am_blt h.2
    exact ⟨a - 5000, by omega, by omega⟩
  · exact absurd (am_beq h.1) (by decide)
  · exact absurd (am_beq h.1) (by decide)
/-- a receiver of the callee's kind -/
theorem am_rcv {H : Heap} {locs : List Loc} {kq a j2 : Nat} (F : am_F X p R s m args c C j d ce sl) (hP : va_P C.2.1 vwCl (am_ws C M) H) (hS : va_S (am_A C) s.heap H locs) (hok : am_wkb kq a = true) (hkq : kq = am_rk j2) (hss : am_ss j2 < 2) (hlt : am_ow j2 < 12 ∨ am_rk j2 = 60) : ∃ cellB : Cell, H[am_ad C a]? = some cellB ∧ cellB.vm.isStatics = false ∧ s.vm.findClass (am_y j2).cls = some cellB.cls := by
  obtain ⟨-, -, h3, -⟩ := am_okj_all hss
  rw [← h3]
  by_cases h60 : am_rk j2 = 60
  · rw [am_on_s h60]
    rw [hkq, h60] at hok
    obtain ⟨i, hi, rfl⟩ := am_str_ad hok
    exact vk_recv (adK := fun i => am_ad C (5000 + i)) F.2.2.2.2.2.1.2.2.1 hi hS
  · have e := am_rk_lo h60
    have h12 : am_ow j2 < 12 := hlt.resolve_right h60
    obtain ⟨haN, hsh⟩ := am_wk_lo hok (by omega)
    rw [of_decide_eq_true (List.all_eq_true.mp am_on_cl (am_ow j2) (List.mem_range.mpr h12))]
    exact va_recv F.2.2.2.2.2.1.1 hP (am_cl_at _ h12) (q0 := a) (fs := am_fs C M a) (by rw [am_ws_get C M haN, am_ce_o (show am_sh a = am_ow j2 by omega) (by omega)])

theorem am_o_invokevirtual (hs : ∀ j2 : Nat, ∃ d2 : Nat, d2 + 1 ≤ d ∧ am_Snd d2 j2 (sem j2)) {i : Nat} (hch : am_lkM.any (fun q => Nat.beq q.1 (am_ow j) && Nat.beq q.2.1 i && Nat.beq q.2.2.1 a1) = true) (h9 : a1 < 9000) (hvl : am_ow a1 < 12 ∨ am_rk a1 = 60) (hss0 : am_ss a1 = 0) (hnp : am_np a1 = a2 / 10 % 100) (hrk : am_rk a1 = a2 / 1000) (F : am_F X p R s m args c C j d ce sl) (hk : am_HK p l e R s m args below meth c C (am_ml j) ce sl Q r k) (hdg : decode (am_b j) pc = .ok (.invokevirtual i, 3)) (h : am_iv sem a1 a2 k pc al st M = some r) : am_Wd p l e R s m args below meth c C (am_ml j) ce sl Q pc al st M := by
  intro hal hst H locs ls hl hP hS
  have hlk := am_lkM_use hch
  rw [am_pn_lo h9] at hlk
  unfold am_iv at h
  split at h
  · rename_i kq a as rest hpop
    split at h
    · rename_i hb1 hb3
      obtain ⟨hlen, heq⟩ := am_pop_ok _ _ _ _ _ hpop
      simp only [List.reverse_nil, List.nil_append, List.reverse_cons] at heq
      have hwd := Nat.le_of_ble_eq_true hb3
      have hkq : kq = am_rk a1 := (am_beq hb1).trans hrk.symm
      have hss : am_ss a1 < 2 := by omega
      rw [← heq] at hst
      obtain ⟨hst1, hst2⟩ := am_wk_app hst
      have hasw : am_wk (.inr (.inr (kq, a)) :: as) := am_wk_rev (by simpa using hst1)
      have hok : am_wkb kq a = true := am_wk_h hasw
      cases hsem : sem a1 (.inr (.inr (kq, a)) :: as) M with
      | none => rw [hsem] at h; exact absurd h (by simp [am_back_none])
      | some rr =>
        rw [hsem] at h
        obtain ⟨d2, hd2, hsnd⟩ := hs a1
        have hmet := hsnd _ _ _ hasw hsem
        obtain ⟨-, -, -, -, -, -, -, -, hvi, -⟩ := am_okj_all hss
        have hcb := am_callB (R := R) F.2.2.2.2.1 hlk hss hd2 ⟨F.2.2.2.2.2.2.1.1, F.2.2.2.2.2.2.1.2.1⟩
        have hst0 : st.map (am_cv C) = (as.map (am_cv C)).reverse ++ .ref (am_ad C a) :: rest.map (am_cv C) := by
          rw [← heq]
          simp [am_cv]
        rw [hst0]
        exact am_callW (va_runV (As := as.map (am_cv C)) (rest := rest.map (am_cv C)) (b := am_ad C a) (C := (am_y a1).cls) ⟨F.1, F.2.1, F.2.2.1, F.2.2.2.1, F.2.2.2.2.1⟩ (hmet l C) ⟨hcb, F.2.2.2.2.1 _ (hvi hss0).1, F.2.2.2.2.1 _ (hvi hss0).2⟩ ⟨am_Pc_blind C _ M, am_rcv F hP hS hok hkq hss hvl, fun U hU hW => ⟨by simp [am_cv], F.2.2.2.2.2.1.warm hW (by rw [hU]; exact hS.2.1), by rw [hU]; exact hP⟩⟩ rfl (by simp at hlen ⊢; omega) hl.1 rfl (lv_room (by rw [am_wd_cv]; exact hwd)) hdg ⟨by have := F.2.2.2.2.2.2.1.2.2.1; omega, by have := F.2.2.2.2.2.2.1.2.2.2; omega⟩) hS (fun hro H1 locs1 hP1 hS1 => am_back_ok hk hro h hal hst2 H1 locs1 ls hl hP1 hS1)
    · cases h
  · cases h
theorem am_o_invokestatic (hs : ∀ j2 : Nat, ∃ d2 : Nat, d2 + 1 ≤ d ∧ am_Snd d2 j2 (sem j2)) {i : Nat} (hch : am_lkM.any (fun q => Nat.beq q.1 (am_ow j) && Nat.beq q.2.1 i && Nat.beq q.2.2.1 a1) = true) (h9 : a1 < 9000) (hss0 : am_ss a1 = 1) {x : Nat} (hnp : am_np a1 = x / 10) (F : am_F X p R s m args c C j d ce sl) (hk : am_HK p l e R s m args below meth c C (am_ml j) ce sl Q r k) (hdg : decode (am_b j) pc = .ok (.invokestatic i, 3)) (h : am_iS sem a1 x k pc al st M = some r) : am_Wd p l e R s m args below meth c C (am_ml j) ce sl Q pc al st M := by
  intro hal hst H locs ls hl hP hS
  have hlk := am_lkM_use hch
  rw [am_pn_lo h9] at hlk
  unfold am_iS at h
  split at h
  · rename_i as rest hpop
    split at h
    · rename_i hb3
      obtain ⟨hlen, heq⟩ := am_pop_ok _ _ _ _ _ hpop
      simp only [List.reverse_nil, List.nil_append] at heq
      have hwd := Nat.le_of_ble_eq_true hb3
      have hss : am_ss a1 < 2 := by omega
      rw [← heq] at hst
      obtain ⟨hst1, hst2⟩ := am_wk_app hst
      have hasw : am_wk as := am_wk_rev hst1
      cases hsem : sem a1 as M with
      | none => rw [hsem] at h; exact absurd h (by simp [am_back_none])
      | some rr =>
        rw [hsem] at h
        obtain ⟨d2, hd2, hsnd⟩ := hs a1
        have hmet := hsnd _ _ _ hasw hsem
        obtain ⟨-, -, -, -, -, -, -, -, -, hvi⟩ := am_okj_all hss
        have hcb := am_callB (R := R) F.2.2.2.2.1 hlk hss hd2 ⟨F.2.2.2.2.2.2.1.1, F.2.2.2.2.2.2.1.2.1⟩
        have hst0 : st.map (am_cv C) = (as.map (am_cv C)).reverse ++ rest.map (am_cv C) := by
          rw [← heq]
          simp
        rw [hst0]
        exact am_callW (va_runS (As := as.map (am_cv C)) (rest := rest.map (am_cv C)) ⟨F.1, F.2.1, F.2.2.1, F.2.2.2.1, F.2.2.2.2.1⟩ (hmet l C) ⟨hcb, F.2.2.2.2.1 _ (hvi hss0)⟩ ⟨am_Pc_blind C _ M, fun U hU hW => ⟨rfl, F.2.2.2.2.2.1.warm hW (by rw [hU]; exact hS.2.1), by rw [hU]; exact hP⟩⟩ rfl (by simp at hlen ⊢; omega) hl.1 rfl (lv_room (by rw [am_wd_cv]; exact hwd)) hdg ⟨by have := F.2.2.2.2.2.2.1.2.2.1; omega, by have := F.2.2.2.2.2.2.1.2.2.2; omega⟩) hS (fun hro H1 locs1 hP1 hS1 => am_back_ok hk hro h hal hst2 H1 locs1 ls hl hP1 hS1)
    · cases h
  · cases h
set_option maxRecDepth 100000 in
theorem am_lib0 : decide (am_at 3128 = some (.native arraycopyName)) && decide (am_at 3127 = some (.static arraycopyName)) && decide (am_at 1018 = some (.initialized "java/lang/System")) && decide (am_at 1013 = some (.initialized "java/lang/Math")) = true := by decide +kernel
theorem am_libc : Cond.native arraycopyName ∈ am_g ∧ Cond.static arraycopyName ∈ am_g ∧ Cond.initialized "java/lang/System" ∈ am_g ∧ Cond.initialized "java/lang/Math" ∈ am_g := by
  have h := am_lib0
  simp only [Bool.and_eq_true, decide_eq_true_eq] at h
  exact ⟨am_gat h.1.1.1 rfl, am_gat h.1.1.2 rfl, am_gat h.1.2 rfl, am_gat h.2 rfl⟩
set_option maxRecDepth 100000 in
theorem am_math_min : Cond.static Lib.Math.min.name ∈ am_g ∧ Cond.code Lib.Math.min.name Lib.Math.min.code 2 (some .int) ∈ am_g := by
  have h : decide (am_at 3016 = some (.static Lib.Math.min.name)) && decide (am_at 3017 = some (.code Lib.Math.min.name Lib.Math.min.code 2 (some .int))) = true := by decide +kernel
  simp only [Bool.and_eq_true, decide_eq_true_eq] at h
  exact ⟨am_gat h.1 rfl, am_gat h.2 rfl⟩
set_option maxRecDepth 100000 in
theorem am_math_max : Cond.static Lib.Math.max.name ∈ am_g ∧ Cond.code Lib.Math.max.name Lib.Math.max.code 2 (some .int) ∈ am_g := by
  have h : decide (am_at 8193 = some (.static Lib.Math.max.name)) && decide (am_at 8194 = some (.code Lib.Math.max.name Lib.Math.max.code 2 (some .int))) = true := by decide +kernel
  simp only [Bool.and_eq_true, decide_eq_true_eq] at h
  exact ⟨am_gat h.1 rfl, am_gat h.2 rfl⟩
set_option maxRecDepth 100000 in
theorem am_math_abs : Cond.static Lib.MathLoose.abs_long.x ∈ am_g ∧ Cond.code Lib.MathLoose.abs_long.x Lib.MathLoose.abs_long.code 2 (some .long) ∈ am_g := by
  have h : decide (am_at 5112 = some (.static Lib.MathLoose.abs_long.x)) && decide (am_at 5113 = some (.code Lib.MathLoose.abs_long.x Lib.MathLoose.abs_long.code 2 (some .long))) = true := by decide +kernel
  simp only [Bool.and_eq_true, decide_eq_true_eq] at h
  exact ⟨am_gat h.1 rfl, am_gat h.2 rfl⟩
theorem am_o_mmin (hd : 1 ≤ d) {i : Nat} (hch : am_lkM.any (fun q => Nat.beq q.1 (am_ow j) && Nat.beq q.2.1 i && Nat.beq q.2.2.1 9001) = true) (F : am_F X p R s m args c C j d ce sl) (hk : am_HK p l e R s m args below meth c C (am_ml j) ce sl Q r k) (hdg : decode (am_b j) pc = .ok (.invokestatic i, 3)) (h : am_mn k pc al st M = some r) : am_Wd p l e R s m args below meth c C (am_ml j) ce sl Q pc al st M := by
  intro hal hst H locs ls hl hP hS
  have hlk := am_lkM_use hch
  unfold am_mn at h
  split at h
  · split at h
    · rename_i hb
      have hwd := Nat.le_of_ble_eq_true hb
      have hR := F.2.2.2.2.2.2.1
      exact va_mmin F.1 F.2.1 (F.2.2.1.trans hl.1.symm) F.2.2.2.1 (F.2.2.2.2.1 _ hlk) (F.2.2.2.2.1 _ am_math_min.1) (F.2.2.2.2.1 _ am_libc.2.2.2) (F.2.2.2.2.1 _ am_math_min.2) (by omega) (by rw [am_wd_cv]; omega) hR.2.2.1 hR.2.2.2 hdg (hk _ _ _ _ h hal (am_wk_c trivial (am_wk_t (am_wk_t hst))) H locs ls hl hP hS)
    · cases h
  · cases h
theorem am_o_mmax (hd : 1 ≤ d) {i : Nat} (hch : am_lkM.any (fun q => Nat.beq q.1 (am_ow j) && Nat.beq q.2.1 i && Nat.beq q.2.2.1 9002) = true) (F : am_F X p R s m args c C j d ce sl) (hk : am_HK p l e R s m args below meth c C (am_ml j) ce sl Q r k) (hdg : decode (am_b j) pc = .ok (.invokestatic i, 3)) (h : am_mx k pc al st M = some r) : am_Wd p l e R s m args below meth c C (am_ml j) ce sl Q pc al st M := by
  intro hal hst H locs ls hl hP hS
  have hlk := am_lkM_use hch
  unfold am_mx at h
  split at h
  · split at h
    · rename_i hb
      have hwd := Nat.le_of_ble_eq_true hb
      have hR := F.2.2.2.2.2.2.1
      exact va_mmax F.1 F.2.1 (F.2.2.1.trans hl.1.symm) F.2.2.2.1 (F.2.2.2.2.1 _ hlk) (F.2.2.2.2.1 _ am_math_max.1) (F.2.2.2.2.1 _ am_libc.2.2.2) (F.2.2.2.2.1 _ am_math_max.2) (by omega) (by rw [am_wd_cv]; omega) hR.2.2.1 hR.2.2.2 hdg (hk _ _ _ _ h hal (am_wk_c trivial (am_wk_t (am_wk_t hst))) H locs ls hl hP hS)
    · cases h
  · cases h
theorem am_o_mabs (hd : 1 ≤ d) {i : Nat} (hch : am_lkM.any (fun q => Nat.beq q.1 (am_ow j) && Nat.beq q.2.1 i && Nat.beq q.2.2.1 9003) = true) (F : am_F X p R s m args c C j d ce sl) (hk : am_HK p l e R s m args below meth c C (am_ml j) ce sl Q r k) (hdg : decode (am_b j) pc = .ok (.invokestatic i, 3)) (h : am_ab k pc al st M = some r) : am_Wd p l e R s m args below meth c C (am_ml j) ce sl Q pc al st M := by
  intro hal hst H locs ls hl hP hS
  have hlk := am_lkM_use hch
  unfold am_ab at h
  split at h
  · split at h
    · rename_i hb
      have hwd := Nat.le_of_ble_eq_true hb
      have hR := F.2.2.2.2.2.2.1
      exact va_mabs_long F.1 F.2.1 (F.2.2.1.trans hl.1.symm) F.2.2.2.1 (F.2.2.2.2.1 _ hlk) (F.2.2.2.2.1 _ am_math_abs.1) (F.2.2.2.2.1 _ am_libc.2.2.2) (F.2.2.2.2.1 _ am_math_abs.2) (by omega) (by rw [am_wd_cv]; omega) hR.2.2.1 hR.2.2.2 hdg (hk _ _ _ _ h hal (am_wk_c trivial (am_wk_t hst)) H locs ls hl hP hS)
    · cases h
  · cases h
theorem am_o_arraycopy (hd : 1 ≤ d) {i : Nat} (hch : am_lkM.any (fun q => Nat.beq q.1 (am_ow j) && Nat.beq q.2.1 i && Nat.beq q.2.2.1 9999) = true) (F : am_F X p R s m args c C j d ce sl) (hk : am_HK p l e R s m args below meth c C (am_ml j) ce sl Q r k) (hdg : decode (am_b j) pc = .ok (.invokestatic i, 3)) (h : am_cpi k pc al st M = some r) : am_Wd p l e R s m args below meth c C (am_ml j) ce sl Q pc al st M := by
  intro hal hst H locs ls hl hP hS
  have hlk := am_lkM_use hch
  unfold am_cpi at h
  split at h
  · rename_i n dp k1 a sp k0 b rest
    split at h
    · rename_i l0 c0 e0 f0 d0 l1 c1 e1 f1 d1 har0 har1 hb
      split at h
      · rename_i hcp
        have hwd := Nat.le_of_ble_eq_true hb
        have hR := F.2.2.2.2.2.2.1
        have hok1 : am_wkb k1 a = true := am_wk_h (am_wk_t (am_wk_t hst))
        have hok0 : am_wkb k0 b = true := am_wk_h (am_wk_t (am_wk_t (am_wk_t (am_wk_t hst))))
        obtain ⟨haN1, hsh1, hws1, hci1, -⟩ := am_arr (C := C) (M := M) hok1 har1 (by simp)
        obtain ⟨haN0, hsh0, hws0, hci0, -⟩ := am_arr (C := C) (M := M) hok0 har0 (by simp)
        have hci1 : c1 = 0 := hci1 (by simp)
        have hci0 : c0 = 0 := hci0 (by simp)
        subst hci1
        subst hci0
        unfold am_cpOk at hcp
        simp only [Bool.and_eq_true, Bool.not_eq_true', decide_eq_false_iff_not] at hcp
        obtain ⟨⟨⟨⟨c1, c2⟩, c3⟩, c4⟩, c5⟩ := hcp
        refine va_copyi F.1 F.2.1 (F.2.2.1.trans hl.1.symm) F.2.2.2.1 (F.2.2.2.2.1 _ hlk) (F.2.2.2.2.1 _ am_libc.1) (F.2.2.2.2.1 _ am_libc.2.1) (F.2.2.2.2.1 _ am_libc.2.2.1) F.2.2.2.2.2.1.1 hP (am_wD C M) hS b a 0 0 hws0 hws1 rfl rfl rfl c1 c2 c3 (Nat.le_of_ble_eq_true c4) (Nat.le_of_ble_eq_true c5) (fun _ _ => rfl) (by omega) (by rw [am_wd_cv]; show _ + (7 + 11) ≤ _; omega) hdg (fun H1 locs1 hP1 hD1 hS1 => ?_)
        refine hk _ _ _ _ h hal (am_wk_t (am_wk_t (am_wk_t (am_wk_t (am_wk_t hst))))) H1 locs1 ls hl ?_ hS1
        rw [← am_ws_set C (M := M) (M' := (am_ua M.1 a (va_cpy (M.1 b) (M.1 a) sp.toNatClampNeg dp.toNatClampNeg n.toNatClampNeg), M.2)) haN1 (fun b hb hne => am_ce_same (am_ua_ne hne) rfl), am_ce_a haN1 hsh1 har1 (by simp)]
        unfold am_ac
        dsimp only
        rw [am_ua_eq]
        exact hP1
      · cases h
    · rename_i l0 c0 e0 f0 d0 l1 c1 e1 f1 d1 har0 har1 hb
      split at h
      · rename_i hcp
        have hwd := Nat.le_of_ble_eq_true hb
        have hR := F.2.2.2.2.2.2.1
        have hok1 : am_wkb k1 a = true := am_wk_h (am_wk_t (am_wk_t hst))
        have hok0 : am_wkb k0 b = true := am_wk_h (am_wk_t (am_wk_t (am_wk_t (am_wk_t hst))))
        obtain ⟨haN1, hsh1, hws1, hci1, -⟩ := am_arr (C := C) (M := M) hok1 har1 (by simp)
        obtain ⟨haN0, hsh0, hws0, hci0, -⟩ := am_arr (C := C) (M := M) hok0 har0 (by simp)
        have hci1 : c1 = 3 := hci1 (by simp)
        have hci0 : c0 = 3 := hci0 (by simp)
        subst hci1
        subst hci0
        unfold am_cpOk at hcp
        simp only [Bool.and_eq_true, Bool.not_eq_true', decide_eq_false_iff_not] at hcp
        obtain ⟨⟨⟨⟨c1, c2⟩, c3⟩, c4⟩, c5⟩ := hcp
        refine va_copyl F.1 F.2.1 (F.2.2.1.trans hl.1.symm) F.2.2.2.1 (F.2.2.2.2.1 _ hlk) (F.2.2.2.2.1 _ am_libc.1) (F.2.2.2.2.1 _ am_libc.2.1) (F.2.2.2.2.1 _ am_libc.2.2.1) F.2.2.2.2.2.1.1 hP (am_wD C M) hS b a 3 3 hws0 hws1 rfl rfl rfl c1 c2 c3 (Nat.le_of_ble_eq_true c4) (Nat.le_of_ble_eq_true c5) (fun _ _ => rfl) (by omega) (by rw [am_wd_cv]; show _ + (7 + 11) ≤ _; omega) hdg (fun H1 locs1 hP1 hD1 hS1 => ?_)
        refine hk _ _ _ _ h hal (am_wk_t (am_wk_t (am_wk_t (am_wk_t (am_wk_t hst))))) H1 locs1 ls hl ?_ hS1
        rw [← am_ws_set C (M := M) (M' := (M.1, am_ua M.2 a (va_cpy (M.2 b) (M.2 a) sp.toNatClampNeg dp.toNatClampNeg n.toNatClampNeg))) haN1 (fun b hb hne => am_ce_same rfl (am_ua_ne hne)), am_ce_a haN1 hsh1 har1 (by simp)]
        unfold am_ac
        dsimp only
        rw [am_ua_eq]
        exact hP1
      · cases h
    · cases h
  · cases h
end AMC
