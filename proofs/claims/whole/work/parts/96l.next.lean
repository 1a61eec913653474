/-! ===== the model's lines ===== -/
theorem mSt.r {M M' : aM} {b : Nat → Int32} {n : Nat} {p : cF} (h : mSt M b n p) (h1 : M'.1 205 = M.1 205) (h2 : M'.1 209 = M.1 209) : mSt M' b n p := by
  unfold mSt mTk at h ⊢
  rw [h1, h2]
  exact h
theorem mSt.u {M : aM} {b : Nat → Int32} {n : Nat} {p : cF} (h : mSt M b n p) {i : Nat} {x : Int32} : mSt (am_u M.1 211 i x, M.2) b n p := by
  refine h.r ?_ ?_
  · simp (disch := omega) only [u_row]
  · simp (disch := omega) only [u_row]
def wY (M M' : aM) : Prop := Fx (fun a => a = 205 ∨ a = 211) M M' ∧ M'.1 205 5 = M.1 205 5
theorem wY.id0 (M : aM) : wY M M := ⟨Fx.id0, rfl⟩
theorem wY.trans {a b c : aM} (h : wY a b) (h' : wY b c) : wY a c := ⟨h.1.trans h'.1, h'.2.trans h.2⟩
theorem wZ.y {a b : aM} (h : wZ a b) : wY a b := ⟨h.1.mono (fun _ q => .inl q), h.2⟩
theorem wY.u {M : aM} {i : Nat} {x : Int32} : wY M (am_u M.1 211 i x, M.2) := ⟨Fx.w Fx.id0 (.inr rfl), by simp (disch := omega) only [u_row]⟩
theorem wZ.g {a b : aM} (h : wZ a b) : b.1 211 = a.1 211 := h.1.2 211 (by omega)
theorem ic_0 : (0 : Int32).toNatClampNeg = 0 := by decide
theorem ic_1 : (1 : Int32).toNatClampNeg = 1 := by decide
theorem ic_2 : (2 : Int32).toNatClampNeg = 2 := by decide
theorem ic_3 : (3 : Int32).toNatClampNeg = 3 := by decide
theorem ic_4 : (4 : Int32).toNatClampNeg = 4 := by decide
theorem ic_5 : (5 : Int32).toNatClampNeg = 5 := by decide
theorem ic_7 : (7 : Int32).toNatClampNeg = 7 := by decide
theorem ib_0 : am_inB (0 : Int32) 116 = true := by decide
theorem ib_1 : am_inB (1 : Int32) 116 = true := by decide
theorem ib_2 : am_inB (2 : Int32) 116 = true := by decide
theorem ib_3 : am_inB (3 : Int32) 116 = true := by decide
theorem ib_4 : am_inB (4 : Int32) 116 = true := by decide
theorem ib_5 : am_inB (5 : Int32) 116 = true := by decide
theorem ib_7 : am_inB (7 : Int32) 116 = true := by decide
theorem m_head {z : Nat} (hz : 2000 ≤ z) {M : aM} {b : Nat → Int32} {n : Nat} {p : cF} (h : mSt M b n p) : ∃ M', f200 z M = some (none, M') ∧ mSt M' b n (hO b n (pX b n 0 p)).2 ∧ wY M M' ∧ (M'.1 211 0 = nI (hY b n (pX b n 0 p)).1 ∧ M'.1 211 1 = nI (hL b n (pX b n 0 p)).1 ∧ M'.1 211 2 = nI (hO b n (pX b n 0 p)).1) ∧ ∀ j, 3 ≤ j → M'.1 211 j = M.1 211 j := by
  obtain ⟨M1, a1, a2, a3⟩ := m_ex hz (x := 5000) (c := 0) (by omega) rfl h
  generalize pX b n 0 p = p1 at *
  obtain ⟨M2, b1, b2, b3⟩ := m_told hz (x := 5001) (c := 1) (lo := 1) (hi := 13) (x1 := 1) (x2 := 12) (by omega) rfl rfl rfl (by omega) (by omega) a2
  change mSt M2 b n (hY b n p1).2 at b2
  change f198 z 5001 1 12 M1 = some (some (.inl (nI (hY b n p1).1)), M2) at b1
  obtain ⟨M3, c1, c2, c3⟩ := m_told hz (M := (am_u M2.1 211 0 (nI (hY b n p1).1), M2.2)) (x := 5002) (c := 2) (lo := 0) (hi := 4) (x1 := 0) (x2 := 3) (by omega) rfl rfl rfl (by omega) (by omega) b2.u
  change mSt M3 b n (hL b n p1).2 at c2
  change f198 z 5002 0 3 _ = some (some (.inl (nI (hL b n p1).1)), M3) at c1
  obtain ⟨M4, d1, d2, d3⟩ := m_told hz (M := (am_u M3.1 211 1 (nI (hL b n p1).1), M3.2)) (x := 5003) (c := 3) (lo := 0) (hi := 11) (x1 := 0) (x2 := 10) (by omega) rfl rfl rfl (by omega) (by omega) c2.u
  change mSt M4 b n (hO b n p1).2 at d2
  change f198 z 5003 0 10 _ = some (some (.inl (nI (hO b n p1).1)), M4) at d1
  refine ⟨(am_u M4.1 211 2 (nI (hO b n p1).1), M4.2), ?_, d2.u, (((((a3.y.trans b3.y).trans wY.u).trans c3.y).trans wY.u).trans d3.y).trans wY.u, ⟨?_, ?_, ?_⟩, ?_⟩
  · unfold f200
    rw [a1, cb_bv, b1, cb_bi, if_pos ib_0, ic_0]
    dsimp only
    rw [c1, cb_bi, if_pos ib_1, ic_1]
    rw [d1, cb_bi, if_pos ib_2, ic_2]
  · simp (disch := omega) only [u_ne, d3.g, c3.g, u_self]
  · simp (disch := omega) only [u_ne, d3.g, u_self]
  · simp (disch := omega) only [u_self]
  · intro j hj
    simp (disch := omega) only [u_ne, d3.g, c3.g, b3.g, a3.g]
theorem m_thread {z : Nat} (hz : 2000 ≤ z) {M : aM} {b : Nat → Int32} {n c t : Nat} {p : cF} (h : mSt M b n p) (hc : c ≤ 8) (h3 : M.1 211 3 = nI c) (ht : t < 16) (h4 : M.1 211 4 = nI t) : ∃ M', f201 z M = some (none, M') ∧ mSt M' b n (tH b n c p).2 ∧ wY M M' ∧ (M'.1 211 (8 + 3 * t) = nI (tA b n c p).1 ∧ M'.1 211 (8 + 3 * t + 1) = hI (tC b n c p).1 ∧ M'.1 211 (8 + 3 * t + 2) = nI (tH b n c p).1) ∧ M'.1 211 4 = nI (t + 1) ∧ ∀ j, j ≠ 4 → j ≠ 8 + 3 * t → j ≠ 8 + 3 * t + 1 → j ≠ 8 + 3 * t + 2 → M'.1 211 j = M.1 211 j := by
  obtain ⟨M1, a1, a2, a3⟩ := m_num hz (lo := 0) (hi := c) (x1 := 0) (x2 := nI c - 1) rfl rfl (by omega) (by omega) h
  change mSt M1 b n (tA b n c p).2 at a2
  change f197 z 0 (nI c - 1) M = some (some (.inl (nI (tA b n c p).1)), M1) at a1
  have hA : (tA b n c p).1 ≤ c - 1 := pN_b b n 0 c p
  have ek : (8 : Int32) + 3 * nI t = nI (8 + 3 * t) := by rw [n_8, n_3, q_mul, q_add]
  have ek1 : nI (8 + 3 * t) + 1 = nI (8 + 3 * t + 1) := by rw [n_1, q_add]
  have ek2 : nI (8 + 3 * t) + 2 = nI (8 + 3 * t + 2) := by rw [n_2, q_add]
  obtain ⟨M2, b1, b2, b3⟩ := m_ex hz (M := (am_u M1.1 211 (8 + 3 * t) (nI (tA b n c p).1), M1.2)) (x := 5006) (c := 6) (by omega) rfl a2.u
  change mSt M2 b n (tB b n c p) at b2
  obtain ⟨M3, c1, c2, c3⟩ := m_tk hz (x := 5007) (c := 7) (by omega) rfl b2
  unfold f201
  rw [if_pos ib_4, if_pos ib_3, ic_3, ic_4, h3, h4, ek, ek1, ek2, a1, cb_bi, if_pos (q_inB (show 8 + 3 * t < 116 by omega) (by omega)), q_cl (by omega)]
  dsimp only
  rw [b1, cb_bv, c1, cb_bi]
  have y3 : wY M M3 := ((a3.y.trans wY.u).trans b3.y).trans c3.y
  have r3 : M3.1 211 = am_u M1.1 211 (8 + 3 * t) (nI (tA b n c p).1) 211 := by rw [c3.g, b3.g]
  have fin : ∀ (A : aM) (v : Int32), mSt A b n (tC b n c p).2 → A.1 211 = am_u M1.1 211 (8 + 3 * t) (nI (tA b n c p).1) 211 → wY M A → v = hI (tC b n c p).1 → ∃ M', (am_bi (f198 z 5008 (1 : Int32) (60 : Int32) (am_u A.1 211 (8 + 3 * t + 1) v, A.2)) fun v11 M10 =>
                        if am_inB (nI (8 + 3 * t + 2)) 116 then
                          let I12 := am_u M10.1 211 (nI (8 + 3 * t + 2)).toNatClampNeg v11
                          if am_inB (4 : Int32) 116 then
                            if am_inB (4 : Int32) 116 then
                              let I13 := am_u I12 211 4 ((I12 211 4) + (1 : Int32))
                              some (none, (I13, M10.2))
                            else
                              none
                          else
                            none
                        else
                          none) = some (none, M') ∧ mSt M' b n (tH b n c p).2 ∧ wY M M' ∧ (M'.1 211 (8 + 3 * t) = nI (tA b n c p).1 ∧ M'.1 211 (8 + 3 * t + 1) = hI (tC b n c p).1 ∧ M'.1 211 (8 + 3 * t + 2) = nI (tH b n c p).1) ∧ M'.1 211 4 = nI (t + 1) ∧ ∀ j, j ≠ 4 → j ≠ 8 + 3 * t → j ≠ 8 + 3 * t + 1 → j ≠ 8 + 3 * t + 2 → M'.1 211 j = M.1 211 j := by
    intro A v hA0 rA yA hv
    obtain ⟨M4, d1, d2, d3⟩ := m_told hz (M := (am_u A.1 211 (8 + 3 * t + 1) v, A.2)) (x := 5008) (c := 8) (lo := 1) (hi := 61) (x1 := 1) (x2 := 60) (by omega) rfl rfl rfl (by omega) (by omega) hA0.u
    change mSt M4 b n (tH b n c p).2 at d2
    change f198 z 5008 1 60 _ = some (some (.inl (nI (tH b n c p).1)), M4) at d1
    rw [d1, cb_bi, if_pos (q_inB (show 8 + 3 * t + 2 < 116 by omega) (by omega)), if_pos ib_4, if_pos ib_4, q_cl (by omega)]
    refine ⟨_, rfl, (d2.u).u (M := (am_u M4.1 211 (8 + 3 * t + 2) (nI (tH b n c p).1), M4.2)), (((yA.trans wY.u).trans d3.y).trans wY.u).trans (wY.u (M := (am_u M4.1 211 (8 + 3 * t + 2) (nI (tH b n c p).1), M4.2))), ⟨?_, ?_, ?_⟩, ?_, ?_⟩
    · simp (disch := omega) only [u_ne, d3.g, rA, u_self]
    · simp (disch := omega) only [u_ne, d3.g, u_self]; exact hv
    · simp (disch := omega) only [u_ne, u_self]
    · simp (disch := omega) only [u_ne, d3.g, rA, a3.g, u_self]; rw [h4, n_1, q_add]
    · intro j j1 j2 j3 j4
      simp (disch := omega) only [u_ne, d3.g, rA, a3.g]
  by_cases e : pI b n 7 (tB b n c p) = true
  · have eC : tC b n c p = (8, pA b n (tB b n c p)) := by unfold tC; rw [if_pos e]
    have eT : pT b n 7 (tB b n c p) = (tC b n c p).2 := by rw [eC]; unfold pT; rw [if_pos e]
    rw [if_pos e, i1f, if_pos (q_inB (show 8 + 3 * t + 1 < 116 by omega) (by omega)), q_cl (by omega)]
    rw [eT] at c2
    exact fin M3 (-1) c2 r3 y3 (by rw [eC]; rfl)
  · have eC : tC b n c p = pN b n 0 (tA b n c p).1 (tB b n c p) := by unfold tC; rw [if_neg e]
    have eT : pT b n 7 (tB b n c p) = tB b n c p := by unfold pT; rw [if_neg e]
    rw [eT] at c2
    rw [if_neg e, i0f, if_pos (q_inB (show 8 + 3 * t < 116 by omega) (by omega)), r3, u_self]
    obtain ⟨M4, d1, d2, d3⟩ := m_num hz (lo := 0) (hi := (tA b n c p).1) (x1 := 0) (x2 := nI (tA b n c p).1 - 1) rfl rfl (by omega) (by omega) c2
    rw [← eC] at d1 d2
    have hC := pN_b b n 0 (tA b n c p).1 (tB b n c p)
    rw [← eC] at hC
    rw [d1, cb_bi, if_pos (q_inB (show 8 + 3 * t + 1 < 116 by omega) (by omega)), q_cl (by omega)]
    exact fin M4 (nI (tC b n c p).1) d2 (by rw [d3.g, r3]) (y3.trans d3.y) (by rw [hI_n (by omega)])
theorem m_quar {z : Nat} (hz : 2000 ≤ z) {M : aM} {b : Nat → Int32} {n c t : Nat} {p : cF} (h : mSt M b n p) (hc : c ≤ 8) (h3 : M.1 211 3 = nI c) (ht : t < 10) (h4 : M.1 211 5 = nI t) : ∃ M', f202 z M = some (none, M') ∧ mSt M' b n (qC b n c p).2 ∧ wY M M' ∧ (M'.1 211 (56 + 3 * t) = nI (qA b n c p).1 ∧ M'.1 211 (56 + 3 * t + 1) = nI (qB b n c p).1 ∧ M'.1 211 (56 + 3 * t + 2) = nI (qC b n c p).1) ∧ M'.1 211 5 = nI (t + 1) ∧ ∀ j, j ≠ 5 → j ≠ 56 + 3 * t → j ≠ 56 + 3 * t + 1 → j ≠ 56 + 3 * t + 2 → M'.1 211 j = M.1 211 j := by
  obtain ⟨M1, a1, a2, a3⟩ := m_num hz (lo := 0) (hi := c) (x1 := 0) (x2 := nI c - 1) rfl rfl (by omega) (by omega) h
  change mSt M1 b n (qA b n c p).2 at a2
  change f197 z 0 (nI c - 1) M = some (some (.inl (nI (qA b n c p).1)), M1) at a1
  have ek : (56 : Int32) + 3 * nI t = nI (56 + 3 * t) := by rw [n_56, n_3, q_mul, q_add]
  have ek1 : nI (56 + 3 * t) + 1 = nI (56 + 3 * t + 1) := by rw [n_1, q_add]
  have ek2 : nI (56 + 3 * t) + 2 = nI (56 + 3 * t + 2) := by rw [n_2, q_add]
  obtain ⟨M2, b1, b2, b3⟩ := m_told hz (M := (am_u M1.1 211 (56 + 3 * t) (nI (qA b n c p).1), M1.2)) (x := 5010) (c := 10) (lo := 1) (hi := 91) (x1 := 1) (x2 := 90) (by omega) rfl rfl rfl (by omega) (by omega) a2.u
  change mSt M2 b n (qB b n c p).2 at b2
  change f198 z 5010 1 90 _ = some (some (.inl (nI (qB b n c p).1)), M2) at b1
  obtain ⟨M3, c1, c2, c3⟩ := m_told hz (M := (am_u M2.1 211 (56 + 3 * t + 1) (nI (qB b n c p).1), M2.2)) (x := 5011) (c := 11) (lo := 0) (hi := 12) (x1 := 0) (x2 := 11) (by omega) rfl rfl rfl (by omega) (by omega) b2.u
  change mSt M3 b n (qC b n c p).2 at c2
  change f198 z 5011 0 11 _ = some (some (.inl (nI (qC b n c p).1)), M3) at c1
  unfold f202
  rw [if_pos ib_5, if_pos ib_3, ic_3, ic_5, h3, h4, ek, ek1, ek2, a1, cb_bi, if_pos (q_inB (show 56 + 3 * t < 116 by omega) (by omega)), q_cl (by omega)]
  dsimp only
  rw [b1, cb_bi, if_pos (q_inB (show 56 + 3 * t + 1 < 116 by omega) (by omega)), q_cl (by omega)]
  rw [c1, cb_bi, if_pos (q_inB (show 56 + 3 * t + 2 < 116 by omega) (by omega)), if_pos ib_5, if_pos ib_5, q_cl (by omega)]
  refine ⟨_, rfl, (c2.u).u (M := (am_u M3.1 211 (56 + 3 * t + 2) (nI (qC b n c p).1), M3.2)), (((((a3.y.trans wY.u).trans b3.y).trans wY.u).trans c3.y).trans wY.u).trans (wY.u (M := (am_u M3.1 211 (56 + 3 * t + 2) (nI (qC b n c p).1), M3.2))), ⟨?_, ?_, ?_⟩, ?_, ?_⟩
  · simp (disch := omega) only [u_ne, c3.g, b3.g, u_self]
  · simp (disch := omega) only [u_ne, c3.g, u_self]
  · simp (disch := omega) only [u_ne, u_self]
  · simp (disch := omega) only [u_ne, c3.g, b3.g, a3.g, u_self]; rw [h4, n_1, q_add]
  · intro j j1 j2 j3 j4
    simp (disch := omega) only [u_ne, c3.g, b3.g, a3.g]
