/-! ===== the class's quarrels, its lines ===== -/
theorem c_quar {z : Nat} (hz : 2000 ≤ z) {M : aM} {b : Nat → Int32} {n c t : Nat} {p : cF} (h : cS M b n p) (hp : p.2.1 = 0) (hc : c ≤ 8) (h4 : M.1 4 4 = nI c) (ht : t < 10) (h5 : M.1 4 6 = nI t) : ∃ M', f22 z M = some (some (.inl (o1 (qC b n c (pA b n p)).2)), M') ∧ cS M' b n (qC b n c (pA b n p)).2 ∧ Fx Ft M M' ∧ ((qC b n c (pA b n p)).2.2.1 = 0 → M'.1 8 t = nI (qA b n c (pA b n p)).1 ∧ M'.1 9 t = nI (qB b n c (pA b n p)).1 ∧ M'.1 10 t = nI (qC b n c (pA b n p)).1 ∧ (∀ a j, 8 ≤ a → a ≤ 10 → j ≠ t → M'.1 a j = M.1 a j) ∧ M'.1 4 6 = nI (t + 1) ∧ (∀ j, j ≠ 6 → M'.1 4 j = M.1 4 j) ∧ ∀ a, 5 ≤ a → a ≤ 7 → M'.1 a = M.1 a) := by
  unfold f22
  rw [h5, if_pos (show nI t < 10 by rw [n_10, q_lt (by omega) (by omega)]; exact ht)]
  obtain ⟨M1, a1, a2, a3⟩ := c_adv hz h
  have k1 : (pA b n p).2.1 = 0 := hp
  rw [a1, cb_bv]
  have a3 : Fx Fc M M1 := a3.mono (fun a q => .inr q)
  have K1 := a3.kB
  generalize pA b n p = p1 at *
  rw [K1 4 (by omega) (by omega), h4]
  obtain ⟨M2, b1, b2, b3, b4⟩ := c_num hz (lo := 0) (hi := c) (x1 := 0) (x2 := nI c - 1) rfl rfl (by omega) (by omega) a2 k1
  change cS M2 b n (qA b n c p1).2 at b2
  change (qA b n c p1).2.2.1 = 0 → M2.1 1 4 = nI (qA b n c p1).1 at b3
  rw [b1, cb_bi, show (pN b n 0 c p1).2 = (qA b n c p1).2 from rfl]
  have K2 := K1.trans b4.kB
  have G2 : Fx Ft M M2 := (Fc.t a3).trans (Fc.t b4)
  by_cases e1 : (qA b n c p1).2.2.1 = 0
  · rw [o1_0 e1, i1n, if_pos (q_inB ht (by omega)), q_cl (by omega)]
    have b3 := b3 e1
    have G3 : Fx Ft M (am_u M2.1 8 t (M2.1 1 4), M2.2) := G2.trans (Fx.w Fx.id0 (by unfold Ft; omega))
    have r5 : am_u M2.1 8 t (M2.1 1 4) 8 t = nI (qA b n c p1).1 := by rw [u_self]; exact b3
    have r5n : ∀ j, j ≠ t → am_u M2.1 8 t (M2.1 1 4) 8 j = M.1 8 j := fun j hj => by rw [u_ne hj, K2 8 (by omega) (by omega)]
    have rr : ∀ a, 4 ≤ a → a ≤ 10 → a ≠ 8 → am_u M2.1 8 t (M2.1 1 4) a = M.1 a := fun a x1 x2 x3 => by rw [u_row x3, K2 a x1 x2]
    have b2 : cS (am_u M2.1 8 t (M2.1 1 4), M2.2) b n (qA b n c p1).2 := b2.u (by omega)
    dsimp only
    generalize hA : ((am_u M2.1 8 t (M2.1 1 4), M2.2) : aM) = A at *
    have hA1 : am_u M2.1 8 t (M2.1 1 4) = A.1 := by rw [← hA]
    rw [hA1] at r5 r5n rr
    obtain ⟨M3, c1, c2, c3⟩ := c_wrd hz (x := 5010) (c := 10) (by omega) rfl b2 e1
    rw [c1, cb_bi]
    have G4 : Fx Ft M M3 := G3.trans (Fc.t c3)
    have K4 := c3.kB
    by_cases e2 : (pX b n 10 (qA b n c p1).2).2.1 = 0
    · rw [o1_0 e2, i1f]
      obtain ⟨M4, d1, d2, d3, d4⟩ := c_num hz (lo := 1) (hi := 91) (x1 := 1) (x2 := 90) rfl rfl (by omega) (by omega) c2 e2
      change cS M4 b n (qB b n c p1).2 at d2
      change (qB b n c p1).2.2.1 = 0 → M4.1 1 4 = nI (qB b n c p1).1 at d3
      rw [d1, cb_bi, show (pN b n 1 91 (pX b n 10 (qA b n c p1).2)).2 = (qB b n c p1).2 from rfl]
      have K5 := K4.trans d4.kB
      have G5 : Fx Ft M M4 := G4.trans (Fc.t d4)
      by_cases e3 : (qB b n c p1).2.2.1 = 0
      · rw [o1_0 e3, i1n, if_pos (q_inB ht (by omega))]
        have d3 := d3 e3
        have G6 : Fx Ft M (am_u M4.1 9 t (M4.1 1 4), M4.2) := G5.trans (Fx.w Fx.id0 (by unfold Ft; omega))
        have s5 : am_u M4.1 9 t (M4.1 1 4) 9 t = nI (qB b n c p1).1 := by rw [u_self]; exact d3
        have s5n : ∀ j, j ≠ t → am_u M4.1 9 t (M4.1 1 4) 9 j = M.1 9 j := fun j hj => by rw [u_ne hj, K5 9 (by omega) (by omega), rr 9 (by omega) (by omega) (by omega)]
        have ss : ∀ a, 4 ≤ a → a ≤ 10 → a ≠ 9 → am_u M4.1 9 t (M4.1 1 4) a = A.1 a := fun a x1 x2 x3 => by rw [u_row x3, K5 a x1 x2]
        have d2 : cS (am_u M4.1 9 t (M4.1 1 4), M4.2) b n (qB b n c p1).2 := d2.u (by omega)
        generalize hD : ((am_u M4.1 9 t (M4.1 1 4), M4.2) : aM) = D at *
        have hD1 : am_u M4.1 9 t (M4.1 1 4) = D.1 := by rw [← hD]
        rw [hD1] at s5 s5n ss
        obtain ⟨M5, f1, f2, f3⟩ := c_wrd hz (x := 5011) (c := 11) (by omega) rfl d2 e3
        rw [f1, cb_bi]
        have G7 : Fx Ft M M5 := G6.trans (Fc.t f3)
        have K7 := f3.kB
        by_cases e4 : (pX b n 11 (qB b n c p1).2).2.1 = 0
        · rw [o1_0 e4, i1f]
          obtain ⟨M6, g1, g2, g3, g4⟩ := c_num hz (lo := 0) (hi := 12) (x1 := 0) (x2 := 11) rfl rfl (by omega) (by omega) f2 e4
          change cS M6 b n (qC b n c p1).2 at g2
          change (qC b n c p1).2.2.1 = 0 → M6.1 1 4 = nI (qC b n c p1).1 at g3
          rw [g1, cb_bi, show (pN b n 0 12 (pX b n 11 (qB b n c p1).2)).2 = (qC b n c p1).2 from rfl]
          have K8 := K7.trans g4.kB
          have G8 : Fx Ft M M6 := G7.trans (Fc.t g4)
          by_cases e5 : (qC b n c p1).2.2.1 = 0
          · rw [o1_0 e5, i1n, if_pos (q_inB ht (by omega))]
            have g3 := g3 e5
            refine ⟨(am_u (am_u M6.1 10 t (M6.1 1 4)) 4 6 (am_u M6.1 10 t (M6.1 1 4) 4 6 + 1), M6.2), rfl, (g2.u (by omega)).u (M := (am_u M6.1 10 t (M6.1 1 4), M6.2)) (by omega), G8.trans (Fx.w (Fx.w Fx.id0 (by unfold Ft; omega)) (by unfold Ft; omega)), fun _ => ⟨?_, ?_, ?_, ?_, ?_, ?_, ?_⟩⟩
            · simp (disch := omega) only [u_row]; rw [K8 8 (by omega) (by omega), ss 8 (by omega) (by omega) (by omega)]; exact r5
            · simp (disch := omega) only [u_row]; rw [K8 9 (by omega) (by omega)]; exact s5
            · simp (disch := omega) only [u_row, u_self]; exact g3
            · intro a j x1 x2 hj
              by_cases ea : a = 10
              · rw [ea]; simp (disch := omega) only [u_row, u_ne]; rw [K8 10 (by omega) (by omega), ss 10 (by omega) (by omega) (by omega), rr 10 (by omega) (by omega) (by omega)]
              · simp (disch := omega) only [u_row]
                rw [K8 a (by omega) (by omega)]
                by_cases ea : a = 9
                · rw [ea]; exact s5n j hj
                · have ea : a = 8 := by omega
                  rw [ea, ss 8 (by omega) (by omega) (by omega)]; exact r5n j hj
            · simp (disch := omega) only [u_row, u_self]; rw [K8 4 (by omega) (by omega), ss 4 (by omega) (by omega) (by omega), rr 4 (by omega) (by omega) (by omega), h5, n_1, q_add]
            · intro j hj
              simp (disch := omega) only [u_row, u_ne]; rw [K8 4 (by omega) (by omega), ss 4 (by omega) (by omega) (by omega), rr 4 (by omega) (by omega) (by omega)]
            · intro a x1 x2
              simp (disch := omega) only [u_row]; rw [K8 a (by omega) (by omega), ss a (by omega) (by omega) (by omega), rr a (by omega) (by omega) (by omega)]
          · rw [o1_1 e5, i0n]
            exact ⟨M6, rfl, g2, G8, fun w => absurd w e5⟩
        · have eq : (qC b n c p1).2 = pX b n 11 (qB b n c p1).2 := by unfold qC; rw [pN_1 e4]
          rw [eq, o1_1 e4, i0f]
          exact ⟨M5, rfl, f2, G7, fun w => absurd w e4⟩
      · have eq : (qC b n c p1).2 = (qB b n c p1).2 := by unfold qC; rw [pX_1 e3, pN_1 e3]
        rw [eq, o1_1 e3, i0n]
        exact ⟨M4, rfl, d2, G5, fun w => absurd w e3⟩
    · have eq : (qC b n c p1).2 = pX b n 10 (qA b n c p1).2 := by unfold qC qB; rw [pN_1 e2, pX_1 e2, pN_1 e2]
      rw [eq, o1_1 e2, i0f]
      exact ⟨M3, rfl, c2, G4, fun w => absurd w e2⟩
  · have eq : (qC b n c p1).2 = (qA b n c p1).2 := by unfold qC qB; rw [pX_1 e1, pN_1 e1, pX_1 e1, pN_1 e1]
    rw [eq, o1_1 e1, i0n]
    exact ⟨M2, rfl, b2, G2, fun w => absurd w e1⟩
/-- what is read so far, in the class -/
def rK (M : aM) (W : cW) : Prop :=
  (M.1 4 0 = nI (W 0 7) ∧ M.1 4 1 = nI (W 0 0) ∧ M.1 4 2 = nI (W 0 1) ∧ M.1 4 3 = nI (W 0 2) ∧ M.1 4 4 = nI (W 0 3) ∧ M.1 4 5 = nI (W 0 4) ∧ M.1 4 6 = nI (W 0 5))
  ∧ (∀ t, t < W 0 4 → M.1 5 t = nI (W 1 t) ∧ M.1 6 t = hI (W 2 t) ∧ M.1 7 t = nI (W 3 t))
  ∧ (∀ q, q < W 0 5 → M.1 8 q = nI (W 4 q) ∧ M.1 9 q = nI (W 5 q) ∧ M.1 10 q = nI (W 6 q))
def lWh (b : Nat → Int32) (n : Nat) (W : cW) (p : cF) : cW := wu (wu (wu W 0 0 (hY b n p).1) 0 1 (hL b n p).1) 0 2 (hO b n p).1
def lWt (b : Nat → Int32) (n : Nat) (W : cW) (p : cF) : cW := wu (wu (wu (wu W 1 (W 0 4) (tA b n (W 0 3) p).1) 2 (W 0 4) (tC b n (W 0 3) p).1) 3 (W 0 4) (tH b n (W 0 3) p).1) 0 4 (W 0 4 + 1)
def lWq (b : Nat → Int32) (n : Nat) (W : cW) (p : cF) : cW := wu (wu (wu (wu W 4 (W 0 5) (qA b n (W 0 3) p).1) 5 (W 0 5) (qB b n (W 0 3) p).1) 6 (W 0 5) (qC b n (W 0 3) p).1) 0 5 (W 0 5 + 1)
def lW (b : Nat → Int32) (n : Nat) (W : cW) (p : cF) : cW :=
  if W 0 7 = 0 then lWh b n W (pX b n 0 p) else if wq b n 4 p.1 = true then wu W 0 3 (W 0 3 + 1) else if wq b n 5 p.1 = true then lWt b n W (pA b n p) else lWq b n W (pA b n p)
def lQ (b : Nat → Int32) (n : Nat) (W : cW) (p : cF) : cF :=
  if W 0 7 = 0 then (hO b n (pX b n 0 p)).2 else if wq b n 4 p.1 = true then (if W 0 3 < 8 then pA b n p else pE 3 p) else if wq b n 5 p.1 = true then (if W 0 4 < 16 then (tH b n (W 0 3) (pA b n p)).2 else pE 3 p) else if wq b n 9 p.1 = true then (if W 0 5 < 10 then (qC b n (W 0 3) (pA b n p)).2 else pE 3 p) else pE 1 p
theorem wn4 {b : Nat → Int32} {n s : Nat} (h : wq b n 4 s = true) : ¬ wq b n 5 s = true ∧ ¬ wq b n 9 s = true := by
  unfold wq at h ⊢
  simp only [Bool.and_eq_true, decide_eq_true_eq] at h ⊢
  have e4 : wl 4 = 5 := rfl
  have e5 : wl 5 = 6 := rfl
  have e9 : wl 9 = 7 := rfl
  omega
theorem wn5 {b : Nat → Int32} {n s : Nat} (h : wq b n 5 s = true) : ¬ wq b n 9 s = true := by
  unfold wq at h ⊢
  simp only [Bool.and_eq_true, decide_eq_true_eq] at h ⊢
  have e5 : wl 5 = 6 := rfl
  have e9 : wl 9 = 7 := rfl
  omega
