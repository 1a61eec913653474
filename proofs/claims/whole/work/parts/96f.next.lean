/-! ===== the class's threads and quarrels ===== -/
def Ft : Nat → Prop := fun a => a = 1 ∨ a = 2 ∨ (4 ≤ a ∧ a ≤ 10)
theorem Fc.t {A A' : aM} (q : Fx Fc A A') : Fx Ft A A' := q.mono (fun a w => by unfold Fc at w; unfold Ft; omega)
/-- rows 4 to 10 are as they were -/
def kB (M M' : aM) : Prop := ∀ a, 4 ≤ a → a ≤ 10 → M'.1 a = M.1 a
theorem Fx.kB {M M' : aM} (h : Fx Fc M M') : kB M M' := fun a x1 x2 => h.2 a (by unfold Fc; omega)
theorem kB.trans {a b c : aM} (h : kB a b) (h' : kB b c) : kB a c := fun r x y => (h' r x y).trans (h r x y)
/-- the end of a thread's line: holds, its number -/
theorem c_thE {z : Nat} (hz : 2000 ≤ z) {M : aM} {b : Nat → Int32} {n t : Nat} {p : cF} {x : Int32} (h : cS M b n p) (hp : p.2.1 = 0) (ht : t < 16) (h5 : M.1 4 5 = nI t) (hx : x = nI t) : ∃ M', (am_bi (f23 z 5008 M) fun v22 M21 =>
                          if v22 = 0 then
                            some (some (.inl ((0 : Int32) &&& 1)), M21)
                          else
                            am_bi (f24 z (1 : Int32) (60 : Int32) M21) fun v24 M23 =>
                              if ¬ v24 = 0 then
                                if am_inB x 16 then
                                  let I25 := am_u M23.1 7 x.toNatClampNeg (M23.1 1 4)
                                  let I26 := am_u I25 4 5 ((I25 4 5) + (1 : Int32))
                                  some (some (.inl ((1 : Int32) &&& 1)), (I26, M23.2))
                                else
                                  none
                              else
                                some (some (.inl ((0 : Int32) &&& 1)), M23)) = some (some (.inl (o1 (pN b n 1 61 (pX b n 8 p)).2)), M') ∧ cS M' b n (pN b n 1 61 (pX b n 8 p)).2 ∧ Fx Ft M M' ∧ ((pN b n 1 61 (pX b n 8 p)).2.2.1 = 0 → M'.1 7 t = nI (pN b n 1 61 (pX b n 8 p)).1 ∧ (∀ j, j ≠ t → M'.1 7 j = M.1 7 j) ∧ M'.1 4 5 = nI (t + 1) ∧ (∀ j, j ≠ 5 → M'.1 4 j = M.1 4 j) ∧ ∀ a, (5 ≤ a ∧ a ≤ 6) ∨ (8 ≤ a ∧ a ≤ 10) → M'.1 a = M.1 a) := by
  subst hx
  obtain ⟨M1, a1, a2, a3⟩ := c_wrd hz (x := 5008) (c := 8) (by omega) rfl h hp
  rw [a1, cb_bi]
  by_cases e1 : (pX b n 8 p).2.1 = 0
  · rw [o1_0 e1, i1f]
    obtain ⟨M2, b1, b2, b3, b4⟩ := c_num hz (lo := 1) (hi := 61) (x1 := 1) (x2 := 60) rfl rfl (by omega) (by omega) a2 e1
    rw [b1, cb_bi]
    have K := a3.kB.trans b4.kB
    by_cases e2 : (pN b n 1 61 (pX b n 8 p)).2.2.1 = 0
    · rw [o1_0 e2, i1n, if_pos (q_inB ht (by omega)), q_cl (by omega)]
      have b3 := b3 e2
      refine ⟨(am_u (am_u M2.1 7 t (M2.1 1 4)) 4 5 (am_u M2.1 7 t (M2.1 1 4) 4 5 + 1), M2.2), rfl, (b2.u (by omega)).u (M := (am_u M2.1 7 t (M2.1 1 4), M2.2)) (by omega), ((Fc.t a3).trans (Fc.t b4)).trans (Fx.w (Fx.w Fx.id0 (by unfold Ft; omega)) (by unfold Ft; omega)), fun _ => ⟨?_, ?_, ?_, ?_, ?_⟩⟩
      · simp (disch := omega) only [u_row, u_self]; exact b3
      · intro j hj
        simp (disch := omega) only [u_row, u_ne]; rw [K 7 (by omega) (by omega)]
      · simp (disch := omega) only [u_row, u_self]; rw [K 4 (by omega) (by omega), h5, n_1, q_add]
      · intro j hj
        simp (disch := omega) only [u_row, u_ne]; rw [K 4 (by omega) (by omega)]
      · intro a ha
        simp (disch := omega) only [u_row]; rw [K a (by omega) (by omega)]
    · rw [o1_1 e2, i0n]
      exact ⟨M2, rfl, b2, (Fc.t a3).trans (Fc.t b4), fun w => absurd w e2⟩
  · rw [pN_1 e1, o1_1 e1, i0f]
    exact ⟨M1, rfl, a2, Fc.t a3, fun w => absurd w e1⟩
theorem c_thread {z : Nat} (hz : 2000 ≤ z) {M : aM} {b : Nat → Int32} {n c t : Nat} {p : cF} (h : cS M b n p) (hp : p.2.1 = 0) (hc : c ≤ 8) (h4 : M.1 4 4 = nI c) (ht : t < 16) (h5 : M.1 4 5 = nI t) : ∃ M', f21 z M = some (some (.inl (o1 (tH b n c (pA b n p)).2)), M') ∧ cS M' b n (tH b n c (pA b n p)).2 ∧ Fx Ft M M' ∧ ((tH b n c (pA b n p)).2.2.1 = 0 → M'.1 5 t = nI (tA b n c (pA b n p)).1 ∧ M'.1 6 t = hI (tC b n c (pA b n p)).1 ∧ M'.1 7 t = nI (tH b n c (pA b n p)).1 ∧ (∀ a j, 5 ≤ a → a ≤ 7 → j ≠ t → M'.1 a j = M.1 a j) ∧ M'.1 4 5 = nI (t + 1) ∧ (∀ j, j ≠ 5 → M'.1 4 j = M.1 4 j) ∧ ∀ a, 8 ≤ a → a ≤ 10 → M'.1 a = M.1 a) := by
  unfold f21
  rw [h5, if_pos (show nI t < 16 by rw [n_16, q_lt (by omega) (by omega)]; exact ht)]
  obtain ⟨M1, a1, a2, a3⟩ := c_adv hz h
  have k1 : (pA b n p).2.1 = 0 := hp
  rw [a1, cb_bv]
  have a3 : Fx Fc M M1 := a3.mono (fun a q => .inr q)
  have K1 := a3.kB
  generalize pA b n p = p1 at *
  rw [K1 4 (by omega) (by omega), h4]
  obtain ⟨M2, b1, b2, b3, b4⟩ := c_num hz (lo := 0) (hi := c) (x1 := 0) (x2 := nI c - 1) rfl rfl (by omega) (by omega) a2 k1
  change cS M2 b n (tA b n c p1).2 at b2
  change (tA b n c p1).2.2.1 = 0 → M2.1 1 4 = nI (tA b n c p1).1 at b3
  rw [b1, cb_bi, show (pN b n 0 c p1).2 = (tA b n c p1).2 from rfl]
  have K2 := K1.trans b4.kB
  have G2 : Fx Ft M M2 := (Fc.t a3).trans (Fc.t b4)
  by_cases e1 : (tA b n c p1).2.2.1 = 0
  · rw [o1_0 e1, i1n, if_pos (q_inB ht (by omega)), q_cl (by omega)]
    have b3 := b3 e1
    have ha := (pN_0 (show (pN b n 0 c p1).2.2.1 = 0 from e1)).2.2
    change (tA b n c p1).1 < c at ha
    have G3 : Fx Ft M (am_u M2.1 5 t (M2.1 1 4), M2.2) := G2.trans (Fx.w Fx.id0 (by unfold Ft; omega))
    have r5 : am_u M2.1 5 t (M2.1 1 4) 5 t = nI (tA b n c p1).1 := by rw [u_self]; exact b3
    have r5n : ∀ j, j ≠ t → am_u M2.1 5 t (M2.1 1 4) 5 j = M.1 5 j := fun j hj => by rw [u_ne hj, K2 5 (by omega) (by omega)]
    have rr : ∀ a, 4 ≤ a → a ≤ 10 → a ≠ 5 → am_u M2.1 5 t (M2.1 1 4) a = M.1 a := fun a x1 x2 x3 => by rw [u_row x3, K2 a x1 x2]
    have b2 : cS (am_u M2.1 5 t (M2.1 1 4), M2.2) b n (tA b n c p1).2 := b2.u (by omega)
    dsimp only
    generalize hA : ((am_u M2.1 5 t (M2.1 1 4), M2.2) : aM) = A at *
    have hA1 : am_u M2.1 5 t (M2.1 1 4) = A.1 := by rw [← hA]
    rw [hA1] at r5 r5n rr
    obtain ⟨M3, c1, c2, c3⟩ := c_wrd hz (x := 5006) (c := 6) (by omega) rfl b2 e1
    change cS M3 b n (tB b n c p1) at c2
    rw [c1, cb_bi, show pX b n 6 (tA b n c p1).2 = tB b n c p1 from rfl]
    have G4 : Fx Ft M M3 := G3.trans (Fc.t c3)
    have K4 := c3.kB
    by_cases e2 : (tB b n c p1).2.1 = 0
    · rw [o1_0 e2, i1n, c_is hz (x := 5007) (c := 7) (by omega) rfl c2.1, cb_bi, ← pI_0 e2]
      by_cases e3 : pI b n 7 (tB b n c p1) = true
      · rw [if_pos e3, i1f]
        have eC : tC b n c p1 = (8, pA b n (tB b n c p1)) := by unfold tC; rw [if_pos e3]
        obtain ⟨M4, d1, d2, d3⟩ := c_adv hz c2
        rw [d1, cb_bv, if_pos (q_inB ht (by omega))]
        have d3 : Fx Fc M3 M4 := d3.mono (fun a q => .inr q)
        have K5 := K4.trans d3.kB
        have C5 : cS (am_u (am_u M4.1 1 4 (-1)) 6 t (am_u M4.1 1 4 (-1) 1 4), M4.2) b n (pA b n (tB b n c p1)) := (d2.u1).u (M := (am_u M4.1 1 4 (-1), M4.2)) (by omega)
        have s5 : am_u (am_u M4.1 1 4 (-1)) 6 t (am_u M4.1 1 4 (-1) 1 4) 4 5 = nI t := by simp (disch := omega) only [u_row]; rw [K5 4 (by omega) (by omega), rr 4 (by omega) (by omega) (by omega)]; exact h5
        obtain ⟨M5, g1, g2, g3, g4⟩ := c_thE hz C5 (t := t) (x := nI t) e2 ht s5 rfl
        rw [q_cl (by omega)] at g1
        have eH : tH b n c p1 = pN b n 1 61 (pX b n 8 (pA b n (tB b n c p1))) := by unfold tH; rw [eC]
        rw [eH]
        refine ⟨M5, g1, g2, (G4.trans (Fc.t d3)).trans (Fx.trans (Fx.w (Fx.w Fx.id0 (by unfold Ft; omega)) (by unfold Ft; omega)) g3), fun w => ?_⟩
        obtain ⟨w1, w2, w3, w4, w5⟩ := g4 w
        rw [eC]
        refine ⟨?_, ?_, w1, ?_, w3, ?_, ?_⟩
        · rw [w5 5 (by omega)]; simp (disch := omega) only [u_row]; rw [K5 5 (by omega) (by omega)]; exact r5
        · rw [w5 6 (by omega)]; simp (disch := omega) only [u_self]; rfl
        · intro a j x1 x2 hj
          by_cases ea : a = 7
          · rw [ea, w2 j hj]; simp (disch := omega) only [u_row]; rw [K5 7 (by omega) (by omega), rr 7 (by omega) (by omega) (by omega)]
          · rw [w5 a (by omega)]
            by_cases ea : a = 6
            · rw [ea]; simp (disch := omega) only [u_row, u_ne]; rw [K5 6 (by omega) (by omega), rr 6 (by omega) (by omega) (by omega)]
            · have ea : a = 5 := by omega
              rw [ea]; simp (disch := omega) only [u_row]; rw [K5 5 (by omega) (by omega), r5n j hj]
        · intro j hj
          rw [w4 j hj]; simp (disch := omega) only [u_row]; rw [K5 4 (by omega) (by omega), rr 4 (by omega) (by omega) (by omega)]
        · intro a x1 x2
          rw [w5 a (by omega)]; simp (disch := omega) only [u_row]; rw [K5 a (by omega) (by omega), rr a (by omega) (by omega) (by omega)]
      · rw [if_neg e3, i0f, if_pos (q_inB ht (by omega)), K4 5 (by omega) (by omega), r5]
        have eC : tC b n c p1 = pN b n 0 (tA b n c p1).1 (tB b n c p1) := by unfold tC; rw [if_neg e3]
        obtain ⟨M4, d1, d2, d3, d4⟩ := c_num hz (lo := 0) (hi := (tA b n c p1).1) (x1 := 0) (x2 := nI (tA b n c p1).1 - 1) rfl rfl (by omega) (by omega) c2 e2
        rw [← eC] at d1 d2 d3
        rw [d1, cb_bi]
        have K5 := K4.trans d4.kB
        by_cases e4 : (tC b n c p1).2.2.1 = 0
        · rw [o1_0 e4, i1n, if_pos (q_inB ht (by omega))]
          have d3 := d3 e4
          have C5 : cS (am_u M4.1 6 t (M4.1 1 4), M4.2) b n (tC b n c p1).2 := d2.u (by omega)
          have s5 : am_u M4.1 6 t (M4.1 1 4) 4 5 = nI t := by simp (disch := omega) only [u_row]; rw [K5 4 (by omega) (by omega), rr 4 (by omega) (by omega) (by omega)]; exact h5
          obtain ⟨M5, g1, g2, g3, g4⟩ := c_thE hz C5 (t := t) (x := nI t) e4 ht s5 rfl
          rw [q_cl (by omega)] at g1
          refine ⟨M5, g1, g2, (G4.trans (Fc.t d4)).trans (Fx.trans (Fx.w Fx.id0 (by unfold Ft; omega)) g3), fun w => ?_⟩
          obtain ⟨w1, w2, w3, w4, w5⟩ := g4 w
          have hb8 := pN_b b n 0 (tA b n c p1).1 (tB b n c p1)
          rw [← eC] at hb8
          refine ⟨?_, ?_, w1, ?_, w3, ?_, ?_⟩
          · rw [w5 5 (by omega)]; simp (disch := omega) only [u_row]; rw [K5 5 (by omega) (by omega)]; exact r5
          · rw [w5 6 (by omega)]; simp (disch := omega) only [u_self]; rw [d3, hI_n (by omega)]
          · intro a j x1 x2 hj
            by_cases ea : a = 7
            · rw [ea, w2 j hj]; simp (disch := omega) only [u_row]; rw [K5 7 (by omega) (by omega), rr 7 (by omega) (by omega) (by omega)]
            · rw [w5 a (by omega)]
              by_cases ea : a = 6
              · rw [ea]; simp (disch := omega) only [u_ne]; rw [K5 6 (by omega) (by omega), rr 6 (by omega) (by omega) (by omega)]
              · have ea : a = 5 := by omega
                rw [ea]; simp (disch := omega) only [u_row]; rw [K5 5 (by omega) (by omega), r5n j hj]
          · intro j hj
            rw [w4 j hj]; simp (disch := omega) only [u_row]; rw [K5 4 (by omega) (by omega), rr 4 (by omega) (by omega) (by omega)]
          · intro a x1 x2
            rw [w5 a (by omega)]; simp (disch := omega) only [u_row]; rw [K5 a (by omega) (by omega), rr a (by omega) (by omega) (by omega)]
        · have eq : (tH b n c p1).2 = (tC b n c p1).2 := by unfold tH; rw [pX_1 e4, pN_1 e4]
          rw [eq, o1_1 e4, i0n]
          exact ⟨M4, rfl, d2, G4.trans (Fc.t d4), fun w => absurd w e4⟩
    · have eC : tC b n c p1 = (0, tB b n c p1) := by unfold tC; rw [pI_1 e2, pN_1 e2]; rfl
      have eq : (tH b n c p1).2 = tB b n c p1 := by unfold tH; rw [eC, pX_1 e2, pN_1 e2]
      rw [eq, o1_1 e2, i0n]
      exact ⟨M3, rfl, c2, G4, fun w => absurd w e2⟩
  · have eB : tB b n c p1 = (tA b n c p1).2 := by unfold tB; rw [pX_1 e1]
    have eC : tC b n c p1 = (0, (tA b n c p1).2) := by unfold tC; rw [eB, pI_1 e1, pN_1 e1]; rfl
    have eq : (tH b n c p1).2 = (tA b n c p1).2 := by unfold tH; rw [eC, pX_1 e1, pN_1 e1]
    rw [eq, o1_1 e1, i0n]
    exact ⟨M2, rfl, b2, G2, fun w => absurd w e1⟩
