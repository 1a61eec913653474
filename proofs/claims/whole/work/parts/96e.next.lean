/-! ===== the class's lines ===== -/
theorem cS.r {M M' : aM} {b : Nat → Int32} {n : Nat} {p : cF} (h : cS M b n p) (h1 : M'.1 1 2 = M.1 1 2) (h2 : M'.1 1 3 = M.1 1 3) (h3 : M'.1 2 = M.1 2) (h4 : M'.1 3 = M.1 3) : cS M' b n p := by
  unfold cS cT at h ⊢
  rw [h1, h2, h3, h4]
  exact h
theorem cS.u {M : aM} {b : Nat → Int32} {n : Nat} {p : cF} (h : cS M b n p) {r i : Nat} {x : Int32} (hr : 4 ≤ r) : cS (am_u M.1 r i x, M.2) b n p := by
  refine h.r ?_ ?_ ?_ ?_
  · simp (disch := omega) only [u_row]
  · simp (disch := omega) only [u_row]
  · simp (disch := omega) only [u_row]
  · simp (disch := omega) only [u_row]
theorem cS.u1 {M : aM} {b : Nat → Int32} {n : Nat} {p : cF} (h : cS M b n p) {x : Int32} : cS (am_u M.1 1 4 x, M.2) b n p := by
  refine h.r ?_ ?_ ?_ ?_
  · simp (disch := omega) only [u_ne]
  · simp (disch := omega) only [u_ne]
  · simp (disch := omega) only [u_row]
  · simp (disch := omega) only [u_row]
def hY (b : Nat → Int32) (n : Nat) (p : cF) : Nat × cF := pN b n 1 13 (pX b n 1 p)
def hL (b : Nat → Int32) (n : Nat) (p : cF) : Nat × cF := pN b n 0 4 (pX b n 2 (hY b n p).2)
def hO (b : Nat → Int32) (n : Nat) (p : cF) : Nat × cF := pN b n 0 11 (pX b n 3 (hL b n p).2)
def tA (b : Nat → Int32) (n c : Nat) (p : cF) : Nat × cF := pN b n 0 c p
def tB (b : Nat → Int32) (n c : Nat) (p : cF) : cF := pX b n 6 (tA b n c p).2
def tC (b : Nat → Int32) (n c : Nat) (p : cF) : Nat × cF := if pI b n 7 (tB b n c p) = true then (8, pA b n (tB b n c p)) else pN b n 0 (tA b n c p).1 (tB b n c p)
def tH (b : Nat → Int32) (n c : Nat) (p : cF) : Nat × cF := pN b n 1 61 (pX b n 8 (tC b n c p).2)
def qA (b : Nat → Int32) (n c : Nat) (p : cF) : Nat × cF := pN b n 0 c p
def qB (b : Nat → Int32) (n c : Nat) (p : cF) : Nat × cF := pN b n 1 91 (pX b n 10 (qA b n c p).2)
def qC (b : Nat → Int32) (n c : Nat) (p : cF) : Nat × cF := pN b n 0 12 (pX b n 11 (qB b n c p).2)
theorem pN_b (b : Nat → Int32) (n lo hi : Nat) (p : cF) : (pN b n lo hi p).1 ≤ hi - 1 := by
  unfold pN
  repeat' split
  all_goals (dsimp only; omega)
theorem pN_0 {b : Nat → Int32} {n lo hi : Nat} {p : cF} (h : (pN b n lo hi p).2.2.1 = 0) : p.2.1 = 0 ∧ lo ≤ (pN b n lo hi p).1 ∧ (pN b n lo hi p).1 < hi := by
  unfold pN at h ⊢
  by_cases h0 : p.2.1 = 0
  · rw [if_pos h0] at h ⊢
    by_cases h1 : tK b n p.1 = 2
    · rw [if_pos h1] at h ⊢
      by_cases h2 : lo ≤ pV b n p ∧ pV b n p < hi
      · rw [if_pos h2]; exact ⟨h0, h2⟩
      · rw [if_neg h2] at h; exact absurd h (pE_k (by omega))
    · rw [if_neg h1] at h; exact absurd h (pE_k (by omega))
  · rw [if_neg h0] at h; exact absurd h h0
theorem pX_0 {b : Nat → Int32} {n c : Nat} {p : cF} (h : (pX b n c p).2.1 = 0) : p.2.1 = 0 ∧ pI b n c p = true := by
  unfold pX at h
  by_cases h0 : pI b n c p = true
  · rw [if_pos h0] at h; exact ⟨h, h0⟩
  · rw [if_neg h0] at h; exact absurd h (pE_k (by omega))
/-- the head -/
def Fh : Nat → Prop := fun a => a = 1 ∨ a = 2 ∨ a = 4
theorem c_head {z : Nat} (hz : 2000 ≤ z) {M : aM} {b : Nat → Int32} {n : Nat} {p : cF} (h : cS M b n p) (hp : p.2.1 = 0) : ∃ M', f19 z M = some (some (.inl (o1 (hO b n (pA b n p)).2)), M') ∧ cS M' b n (hO b n (pA b n p)).2 ∧ Fx Fh M M' ∧ ((hO b n (pA b n p)).2.2.1 = 0 → (M'.1 4 1 = nI (hY b n (pA b n p)).1 ∧ M'.1 4 2 = nI (hL b n (pA b n p)).1 ∧ M'.1 4 3 = nI (hO b n (pA b n p)).1) ∧ ∀ j, j = 0 ∨ 4 ≤ j → M'.1 4 j = M.1 4 j) := by
  have F1 : ∀ {A A' : aM}, Fx Fc A A' → Fx Fh A A' := fun q => q.mono (fun a w => by unfold Fc at w; unfold Fh; omega)
  unfold f19
  obtain ⟨M1, a1, a2, a3⟩ := c_adv hz h
  have k1 : (pA b n p).2.1 = 0 := hp
  rw [a1, cb_bv]
  have G0 : Fx Fh M M1 := a3.mono (fun a w => by unfold Fh; omega)
  have R0 : M1.1 4 = M.1 4 := a3.2 4 (by omega)
  generalize pA b n p = p1 at *
  obtain ⟨M2, b1, b2, b3⟩ := c_wrd hz (x := 5001) (c := 1) (by omega) rfl a2 k1
  rw [b1, cb_bi]
  have G1 : Fx Fh M M2 := G0.trans (F1 b3)
  have R1 : M2.1 4 = M.1 4 := (b3.2 4 (by unfold Fc; omega)).trans R0
  by_cases e1 : (pX b n 1 p1).2.1 = 0
  · rw [o1_0 e1, i1f]
    obtain ⟨M3, c1, c2, c3, c4⟩ := c_num hz (lo := 1) (hi := 13) (x1 := 1) (x2 := 12) rfl rfl (by omega) (by omega) b2 e1
    rw [c1, cb_bi]
    have G2 : Fx Fh M M3 := G1.trans (F1 c4)
    have R2 : M3.1 4 = M.1 4 := (c4.2 4 (by unfold Fc; omega)).trans R1
    change cS M3 b n (hY b n p1).2 at c2
    change (hY b n p1).2.2.1 = 0 → M3.1 1 4 = nI (hY b n p1).1 at c3
    by_cases e2 : (hY b n p1).2.2.1 = 0
    · rw [show (pN b n 1 13 (pX b n 1 p1)).2 = (hY b n p1).2 from rfl, o1_0 e2, i1n]
      have c3 := c3 e2
      obtain ⟨M4, d1, d2, d3⟩ := c_wrd hz (M := (am_u M3.1 4 1 (M3.1 1 4), M3.2)) (x := 5002) (c := 2) (by omega) rfl (c2.u (by omega)) e2
      dsimp only
      rw [d1, cb_bi]
      have G3 : Fx Fh M M4 := (G2.trans (Fx.w Fx.id0 (by unfold Fh; omega))).trans (F1 d3)
      have R3 : M4.1 4 = am_u M3.1 4 1 (M3.1 1 4) 4 := d3.2 4 (by unfold Fc; omega)
      by_cases e3 : (pX b n 2 (hY b n p1).2).2.1 = 0
      · rw [o1_0 e3, i1f]
        obtain ⟨M5, f1, f2, f3, f4⟩ := c_num hz (lo := 0) (hi := 4) (x1 := 0) (x2 := 3) rfl rfl (by omega) (by omega) d2 e3
        rw [f1, cb_bi]
        have G4 : Fx Fh M M5 := G3.trans (F1 f4)
        have R4 : M5.1 4 = am_u M3.1 4 1 (M3.1 1 4) 4 := (f4.2 4 (by unfold Fc; omega)).trans R3
        change cS M5 b n (hL b n p1).2 at f2
        change (hL b n p1).2.2.1 = 0 → M5.1 1 4 = nI (hL b n p1).1 at f3
        by_cases e4 : (hL b n p1).2.2.1 = 0
        · rw [show (pN b n 0 4 (pX b n 2 (hY b n p1).2)).2 = (hL b n p1).2 from rfl, o1_0 e4, i1n]
          have f3 := f3 e4
          obtain ⟨M6, g1, g2, g3⟩ := c_wrd hz (M := (am_u M5.1 4 2 (M5.1 1 4), M5.2)) (x := 5003) (c := 3) (by omega) rfl (f2.u (by omega)) e4
          rw [g1, cb_bi]
          have G5 : Fx Fh M M6 := (G4.trans (Fx.w Fx.id0 (by unfold Fh; omega))).trans (F1 g3)
          have R5 : M6.1 4 = am_u M5.1 4 2 (M5.1 1 4) 4 := g3.2 4 (by unfold Fc; omega)
          by_cases e5 : (pX b n 3 (hL b n p1).2).2.1 = 0
          · rw [o1_0 e5, i1f]
            obtain ⟨M7, k1, k2, k3, k4⟩ := c_num hz (lo := 0) (hi := 11) (x1 := 0) (x2 := 10) rfl rfl (by omega) (by omega) g2 e5
            rw [k1, cb_bi]
            have G6 : Fx Fh M M7 := G5.trans (F1 k4)
            have R6 : M7.1 4 = am_u M5.1 4 2 (M5.1 1 4) 4 := (k4.2 4 (by unfold Fc; omega)).trans R5
            change cS M7 b n (hO b n p1).2 at k2
            change (hO b n p1).2.2.1 = 0 → M7.1 1 4 = nI (hO b n p1).1 at k3
            by_cases e6 : (hO b n p1).2.2.1 = 0
            · rw [show (pN b n 0 11 (pX b n 3 (hL b n p1).2)).2 = (hO b n p1).2 from rfl, o1_0 e6, i1n]
              have k3 := k3 e6
              refine ⟨(am_u M7.1 4 3 (M7.1 1 4), M7.2), rfl, k2.u (by omega), G6.trans (Fx.w Fx.id0 (by unfold Fh; omega)), fun _ => ⟨⟨?_, ?_, ?_⟩, ?_⟩⟩
              · simp (disch := omega) only [u_ne, R6, R4, u_self]; exact c3
              · simp (disch := omega) only [u_ne, R6, u_self]; exact f3
              · simp (disch := omega) only [u_self]; exact k3
              · intro j hj
                simp (disch := omega) only [u_ne, R6, R4, R2]
            · rw [show (pN b n 0 11 (pX b n 3 (hL b n p1).2)).2 = (hO b n p1).2 from rfl, o1_1 e6, i0n]
              exact ⟨M7, rfl, k2, G6, fun w => absurd w e6⟩
          · have eq : (hO b n p1).2 = pX b n 3 (hL b n p1).2 := by unfold hO; rw [pN_1 e5]
            rw [eq, o1_1 e5, i0f]
            exact ⟨M6, rfl, g2, G5, fun w => absurd w e5⟩
        · have eq : (hO b n p1).2 = (hL b n p1).2 := by unfold hO; rw [pX_1 e4, pN_1 e4]
          rw [show (pN b n 0 4 (pX b n 2 (hY b n p1).2)).2 = (hL b n p1).2 from rfl, eq, o1_1 e4, i0n]
          exact ⟨M5, rfl, f2, G4, fun w => absurd w e4⟩
      · have eq : (hO b n p1).2 = pX b n 2 (hY b n p1).2 := by unfold hO hL; rw [pN_1 e3, pX_1 e3, pN_1 e3]
        rw [eq, o1_1 e3, i0f]
        exact ⟨M4, rfl, d2, G3, fun w => absurd w e3⟩
    · have eq : (hO b n p1).2 = (hY b n p1).2 := by unfold hO hL; rw [pX_1 e2, pN_1 e2, pX_1 e2, pN_1 e2]
      rw [show (pN b n 1 13 (pX b n 1 p1)).2 = (hY b n p1).2 from rfl, eq, o1_1 e2, i0n]
      exact ⟨M3, rfl, c2, G2, fun w => absurd w e2⟩
  · have eq : (hO b n p1).2 = pX b n 1 p1 := by unfold hO hL hY; rw [pN_1 e1, pX_1 e1, pN_1 e1, pX_1 e1, pN_1 e1]
    rw [eq, o1_1 e1, i0f]
    exact ⟨M2, rfl, b2, G1, fun w => absurd w e1⟩
