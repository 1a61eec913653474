/-! ===== the class's line ===== -/
theorem c_err {z : Nat} {M : aM} {b : Nat → Int32} {n k : Nat} {p : cF} {x : Int32} (h : cS M b n p) (hp : p.2.1 = 0) (hk : k ≤ 3) (h0 : k ≠ 0) (hx : x = nI k) : ∃ M', (am_bi (f26 z x M) fun v M1 => some (some (.inl (v &&& 1)), M1)) = some (some (.inl (o1 (pE k p))), M') ∧ cS M' b n (pE k p) ∧ Fx Ft M M' := by
  subst hx
  obtain ⟨M', a1, a2, a3⟩ := c_fail (z := z) h hp hk h0
  refine ⟨M', ?_, a2, a3.mono (fun a q => .inl q)⟩
  rw [a1, cb_bi, o1_1 (pE_k h0)]
  rfl
theorem c_l58 {z : Nat} (hz : 2000 ≤ z) {M : aM} {b : Nat → Int32} {n : Nat} {p : cF} (h : cS M b n p) (hp : p.2.1 = 0) : ∃ M', f18_58 z (1 : Int32) M = some (some (.inl (o1 (pE 1 p))), M') ∧ cS M' b n (pE 1 p) ∧ Fx Ft M M' := by
  have e1 : ¬ (1 : Int32) = 0 := by decide
  unfold f18_58
  rw [c_is hz (x := 5005) (c := 5) (by omega) rfl h.1, cb_bi, c_is hz (x := 5009) (c := 9) (by omega) rfl h.1, cb_bi, if_pos e1, if_pos e1]
  simp only [ite_self]
  exact c_err (z := z) (x := 1) h hp (show 1 ≤ 3 by omega) (by omega) rfl
theorem rK.of {M M' : aM} {W : cW} (h : rK M W) (k : kB M M') : rK M' W := by
  unfold rK at h ⊢
  rw [k 4 (by omega) (by omega), k 5 (by omega) (by omega), k 6 (by omega) (by omega), k 7 (by omega) (by omega), k 8 (by omega) (by omega), k 9 (by omega) (by omega), k 10 (by omega) (by omega)]
  exact h
theorem c_line {z : Nat} (hz : 2000 ≤ z) {M : aM} {b : Nat → Int32} {n : Nat} {W : cW} {p : cF} (h : cS M b n p) (hp : p.2.1 = 0) (hK : rK M W) (hW : wf W) : ∃ M', f18 z M = some (some (.inl (o1 (lQ b n W p))), M') ∧ cS M' b n (lQ b n W p) ∧ Fx Ft M M' ∧ ((lQ b n W p).2.1 = 0 → rK M' (lW b n W p)) := by
  obtain ⟨⟨k0, k1, k2, k3, k4, k5, k6⟩, kt, kq⟩ := hK
  have n3 : W 0 3 ≤ 8 := hW.2.2.2.1
  have n4 : W 0 4 ≤ 16 := hW.2.2.2.2.1
  have n5 : W 0 5 ≤ 10 := hW.2.2.2.2.2.1
  have n7 : W 0 7 ≤ 800 := hW.2.2.2.2.2.2.2.1
  unfold f18 lQ lW
  rw [k0]
  by_cases z7 : W 0 7 = 0
  · rw [z7, if_neg (fun w => w (show nI 0 = 0 from rfl)), if_pos rfl, if_pos rfl]
    unfold f18_15
    rw [c_is hz (x := 5000) (c := 0) (by omega) rfl h.1, cb_bi]
    by_cases w0 : wq b n 0 p.1 = true
    · rw [if_pos w0, i1f, if_neg (by decide)]
      have eX : pX b n 0 p = pA b n p := by unfold pX; rw [pI_0 hp, if_pos w0]
      obtain ⟨M', a1, a2, a3, a4⟩ := c_head hz h hp
      rw [a1, cb_bi, o1_and, eX]
      refine ⟨M', rfl, a2, a3.mono (fun a q => by unfold Fh at q; unfold Ft; omega), fun w => ?_⟩
      obtain ⟨⟨b1, b2, b3⟩, b4⟩ := a4 w
      have r : ∀ a, 5 ≤ a → a ≤ 10 → M'.1 a = M.1 a := fun a x1 x2 => a3.2 a (by unfold Fh; omega)
      unfold rK lWh
      rw [r 5 (by omega) (by omega), r 6 (by omega) (by omega), r 7 (by omega) (by omega), r 8 (by omega) (by omega), r 9 (by omega) (by omega), r 10 (by omega) (by omega), b4 0 (by omega), b4 4 (by omega), b4 5 (by omega), b4 6 (by omega)]
      simp (disch := omega) only [wu_n, wu_s]
      exact ⟨⟨k0, b1, b2, b3, k4, k5, k6⟩, kt, kq⟩
    · rw [if_neg w0, i0f, c_is hz (x := 5004) (c := 4) (by omega) rfl h.1, cb_bi]
      have eX : pX b n 0 p = pE 1 p := by unfold pX; rw [pI_0 hp, if_neg w0]
      have eq : (hO b n (pX b n 0 p)).2 = pE 1 p := by
        have e1 : ¬ (pE 1 p).2.1 = 0 := pE_k (by omega)
        unfold hO hL hY
        rw [eX, pX_1 e1, pN_1 e1, pX_1 e1, pN_1 e1, pX_1 e1, pN_1 e1]
      rw [eq]
      obtain ⟨M', a1, a2, a3⟩ := c_l58 hz h hp
      refine ⟨M', ?_, a2, a3, fun w => absurd w (pE_k (by omega))⟩
      rw [if_pos (show ¬ (1 : Int32) = 0 by decide), a1]
      split
      · rfl
      · rfl
  · rw [if_pos (nI_ne0 (show 0 < W 0 7 by omega) (by omega)), if_neg z7, if_neg z7]
    have e15 : f18_15 z (0 : Int32) M = am_bi (f43 z 5004 M) fun v4 M3 => if v4 = 0 then f18_58 z 0 M3 else am_bi (f20 z M3) fun v6 M5 => some (some (.inl (v6 &&& 1)), M5) := by
      unfold f18_15
      rw [c_is hz (x := 5000) (c := 0) (by omega) rfl h.1, cb_bi, if_pos rfl]
      simp only [not_true_eq_false, if_false]
      split
      · rfl
      · rfl
    rw [e15, c_is hz (x := 5004) (c := 4) (by omega) rfl h.1, cb_bi]
    by_cases w4 : wq b n 4 p.1 = true
    · rw [if_pos w4, if_pos w4, if_pos w4, i1f]
      unfold f20
      rw [k4]
      by_cases c8 : W 0 3 < 8
      · rw [if_pos (show nI (W 0 3) < 8 by rw [n_8, q_lt (by omega) (by omega)]; exact c8), if_pos c8]
        obtain ⟨M', a1, a2, a3⟩ := c_adv hz h
        have r : ∀ a, 3 ≤ a → M'.1 a = M.1 a := fun a x1 => a3.2 a (by omega)
        rw [a1, cb_bv, r 4 (by omega), k4, n_1, q_add, cb_bi, o1_0 (show (pA b n p).2.1 = 0 from hp)]
        refine ⟨(am_u M'.1 4 4 (nI (W 0 3 + 1)), M'.2), rfl, a2.u (by omega), (a3.mono (fun a q => .inr (.inl q))).trans (Fx.w Fx.id0 (by unfold Ft; omega)), fun _ => ?_⟩
        unfold rK
        simp (disch := omega) only [u_row, u_ne, u_self, wu_n, wu_s]
        rw [r 4 (by omega), r 5 (by omega), r 6 (by omega), r 7 (by omega), r 8 (by omega), r 9 (by omega), r 10 (by omega)]
        exact ⟨⟨k0, k1, k2, k3, trivial, k5, k6⟩, kt, kq⟩
      · rw [if_neg (show ¬ nI (W 0 3) < 8 by rw [n_8, q_lt (by omega) (by omega)]; exact c8), if_neg c8]
        obtain ⟨M', a1, a2, a3⟩ := c_err (z := z) (x := 3) h hp (show 3 ≤ 3 by omega) (by omega) rfl
        rw [a1, cb_bi, o1_and]
        exact ⟨M', rfl, a2, a3, fun w => absurd w (pE_k (by omega))⟩
    · rw [if_neg w4, if_neg w4, if_neg w4, i0f]
      unfold f18_58
      rw [c_is hz (x := 5005) (c := 5) (by omega) rfl h.1, cb_bi]
      by_cases w5 : wq b n 5 p.1 = true
      · rw [if_pos w5, if_pos w5, if_pos w5, i1f, if_neg (fun w => w rfl)]
        by_cases c8 : W 0 4 < 16
        · rw [if_pos c8]
          obtain ⟨M', a1, a2, a3, a4⟩ := c_thread hz h hp n3 k4 c8 k5
          rw [a1, cb_bi, o1_and]
          refine ⟨M', rfl, a2, a3, fun w => ?_⟩
          obtain ⟨b1, b2, b3, b4, b5, b6, b7⟩ := a4 w
          unfold rK lWt
          rw [b5, b6 0 (by omega), b6 1 (by omega), b6 2 (by omega), b6 3 (by omega), b6 4 (by omega), b6 6 (by omega), b7 8 (by omega) (by omega), b7 9 (by omega) (by omega), b7 10 (by omega) (by omega)]
          simp (disch := omega) only [wu_n, wu_s]
          refine ⟨⟨k0, k1, k2, k3, k4, trivial, k6⟩, fun t ht => ?_, kq⟩
          by_cases et : t = W 0 4
          · subst et
            simp (disch := omega) only [wu_n, wu_s]
            exact ⟨b1, b2, b3⟩
          · simp (disch := omega) only [wu_n]
            rw [b4 5 t (by omega) (by omega) et, b4 6 t (by omega) (by omega) et, b4 7 t (by omega) (by omega) et]
            exact kt t (by omega)
        · rw [if_neg c8]
          unfold f21
          rw [k5, if_neg (show ¬ nI (W 0 4) < 16 by rw [n_16, q_lt (by omega) (by omega)]; exact c8)]
          obtain ⟨M', a1, a2, a3⟩ := c_err (z := z) (x := 3) h hp (show 3 ≤ 3 by omega) (by omega) rfl
          rw [a1, cb_bi, o1_and]
          exact ⟨M', rfl, a2, a3, fun w => absurd w (pE_k (by omega))⟩
      · rw [if_neg w5, if_neg w5, if_neg w5, i0f, c_is hz (x := 5009) (c := 9) (by omega) rfl h.1, cb_bi]
        by_cases w9 : wq b n 9 p.1 = true
        · rw [if_pos w9, if_pos w9, i1f, if_neg (fun w => w rfl)]
          by_cases c8 : W 0 5 < 10
          · rw [if_pos c8]
            obtain ⟨M', a1, a2, a3, a4⟩ := c_quar hz h hp n3 k4 c8 k6
            rw [a1, cb_bi, o1_and]
            refine ⟨M', rfl, a2, a3, fun w => ?_⟩
            obtain ⟨b1, b2, b3, b4, b5, b6, b7⟩ := a4 w
            unfold rK lWq
            rw [b5, b6 0 (by omega), b6 1 (by omega), b6 2 (by omega), b6 3 (by omega), b6 4 (by omega), b6 5 (by omega), b7 5 (by omega) (by omega), b7 6 (by omega) (by omega), b7 7 (by omega) (by omega)]
            simp (disch := omega) only [wu_n, wu_s]
            refine ⟨⟨k0, k1, k2, k3, k4, k5, trivial⟩, kt, fun t ht => ?_⟩
            by_cases et : t = W 0 5
            · subst et
              simp (disch := omega) only [wu_n, wu_s]
              exact ⟨b1, b2, b3⟩
            · simp (disch := omega) only [wu_n]
              rw [b4 8 t (by omega) (by omega) et, b4 9 t (by omega) (by omega) et, b4 10 t (by omega) (by omega) et]
              exact kq t (by omega)
          · rw [if_neg c8]
            unfold f22
            rw [k6, if_neg (show ¬ nI (W 0 5) < 10 by rw [n_10, q_lt (by omega) (by omega)]; exact c8)]
            obtain ⟨M', a1, a2, a3⟩ := c_err (z := z) (x := 3) h hp (show 3 ≤ 3 by omega) (by omega) rfl
            rw [a1, cb_bi, o1_and]
            exact ⟨M', rfl, a2, a3, fun w => absurd w (pE_k (by omega))⟩
        · rw [if_neg w9, if_neg w9, i0f]
          obtain ⟨M', a1, a2, a3⟩ := c_err (z := z) (x := 1) h hp (show 1 ≤ 3 by omega) (by omega) rfl
          exact ⟨M', a1, a2, a3, fun w => absurd w (pE_k (by omega))⟩
