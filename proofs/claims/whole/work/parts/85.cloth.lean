/-! ===== the cloth changes ===== -/
def wu (W : cW) (i j v : Nat) : cW := fun a b => if a = i ∧ b = j then v else W a b
theorem wu_s (W : cW) (i j v : Nat) : wu W i j v i j = v := if_pos ⟨rfl, rfl⟩
theorem wu_n (W : cW) {i j v a b : Nat} (h : ¬ (a = i ∧ b = j)) : wu W i j v a b = W a b := if_neg h
theorem thr_cong {W W' : cW} (h4 : W' 0 4 = W 0 4) (h1 : ∀ t, W' 1 t = W 1 t) (c : Nat) : thr W' c = thr W c := by
  unfold thr
  rw [h4]
  congr 1
  funext t
  rw [h1]
theorem bg_cong {W W' : cW} (h4 : W' 0 4 = W 0 4) (h1 : ∀ t, W' 1 t = W 1 t) : ∀ c, bg W' c = bg W c
  | 0 => rfl
  | c + 1 => by
    show bg W' c + (thr W' c).length = bg W c + (thr W c).length
    rw [bg_cong h4 h1 c, thr_cong h4 h1 c]
def RX (M : aM) : Prop := iM M ∧ sL M ∧ rTape M ∧ rFault M
theorem RW.x {M : aM} {W : cW} (h : RW M W) : RX M := h.2.2.2.2.2
def kX (M M' : aM) : Prop := (∀ a, a ≠ 205 → ¬ Sc a → ¬ (18 ≤ a ∧ a ≤ 66) → ¬ (113 ≤ a ∧ a ≤ 115) → a ≠ 206 → M'.1 a = M.1 a) ∧ (M'.1 205 5 = M.1 205 5 ∧ M'.1 205 12 = M.1 205 12 ∧ M'.1 205 13 = M.1 205 13) ∧ (∀ a, a ≠ 205 → a ≠ 232 → M'.2 a = M.2 a)
theorem kX.trans {M M' M'' : aM} (h : kX M M') (h' : kX M' M'') : kX M M'' := ⟨fun a q r s t u => (h'.1 a q r s t u).trans (h.1 a q r s t u), ⟨h'.2.1.1.trans h.2.1.1, h'.2.1.2.1.trans h.2.1.2.1, h'.2.1.2.2.trans h.2.1.2.2⟩, fun a q r => (h'.2.2 a q r).trans (h.2.2 a q r)⟩
theorem kX.fx {S : Nat → Prop} {M M' : aM} (h : Fx S M M') (hS : ∀ a, S a → a ≠ 205 ∧ (Sc a ∨ (18 ≤ a ∧ a ≤ 66) ∨ (113 ≤ a ∧ a ≤ 115) ∨ a = 206)) : kX M M' := ⟨fun a _ q1 q2 q3 q4 => h.2 a (fun r => by rcases (hS a r).2 with x | x | x | x; exact q1 x; exact q2 x; exact q3 x; exact q4 x), by rw [h.2 205 (fun r => (hS 205 r).1 rfl)]; exact ⟨rfl, rfl, rfl⟩, fun a _ _ => by rw [h.1]⟩
theorem kX.ofR {M M' : aM} (h : kR M M') : kX M M' := ⟨fun a q r _ _ _ => h.1 a q r, h.2.1, h.2.2⟩
theorem RX.k {M M' : aM} (h : RX M) (k : kX M M') : RX M' := by
  obtain ⟨h6, h7, h8, h9⟩ := h
  obtain ⟨k1, k2, k3⟩ := k
  have r : ∀ a, a ≠ 205 → ¬ Sc a → ¬ (18 ≤ a ∧ a ≤ 66) → ¬ (113 ≤ a ∧ a ≤ 115) → a ≠ 206 → M'.1 a = M.1 a := k1
  refine ⟨h6.of (r 154 (by decide) (by unfold Sc; omega) (by omega) (by omega) (by omega)) (r 208 (by decide) (by unfold Sc; omega) (by omega) (by omega) (by omega)) (fun a x1 x2 => r a (by omega) (by unfold Sc; omega) (by omega) (by omega) (by omega)) (r 207 (by decide) (by unfold Sc; omega) (by omega) (by omega) (by omega)), h7.of (fun a x1 x2 => ⟨r a (by omega) (by unfold Sc; omega) (by omega) (by omega) (by omega), k3 a (by omega) (by omega)⟩) (r 229 (by decide) (by unfold Sc; omega) (by omega) (by omega) (by omega)) (r 230 (by decide) (by unfold Sc; omega) (by omega) (by omega) (by omega)) (k3 231 (by decide) (by decide)), ?_, ?_⟩
  · unfold rTape
    rw [k2.1, r 2 (by decide) (by unfold Sc; omega) (by omega) (by omega) (by omega), r 3 (by decide) (by unfold Sc; omega) (by omega) (by omega) (by omega), r 209 (by decide) (by unfold Sc; omega) (by omega) (by omega) (by omega)]
    exact h8
  · unfold rFault
    rw [k2.2.1, k2.2.2, r 1 (by decide) (by unfold Sc; omega) (by omega) (by omega) (by omega)]
    exact h9
theorem cA.u6 {M : aM} {W : cW} {j : Nat} {v : Int32} (h : cA M W) : cA (am_u M.1 206 j v, M.2) W := h.of (by show am_u M.1 206 j v 113 = _; rw [u_row (by decide)]) (by show am_u M.1 206 j v 114 = _; rw [u_row (by decide)]) (by show am_u M.1 206 j v 115 = _; rw [u_row (by decide)])
/-- refresh -/
def rfS (a : Nat) : Prop := (32 ≤ a ∧ a ≤ 66) ∨ (113 ≤ a ∧ a ≤ 115)
theorem c_refresh {z : Nat} (hz : 2000 ≤ z) {M : aM} {W : cW} (hW : wf W) (hC : rC M 18 W) : ∃ M', f84 z M = some (none, M') ∧ Fx rfS M M' ∧ rC M' 18 W ∧ yR M' 32 W (tY W) (W 0 0) ∧ cA M' W := by
  have hN4 : W 0 4 ≤ 16 := hW.2.2.2.2.1
  obtain ⟨M1, a1, a2, a3, a4, a5, a6⟩ := c_asTold (z := z) (y0 := 32) hW hC (by omega)
  have hC1 := hC.fx a2 (fun a q => by omega)
  obtain ⟨M2, b1, b2, b3⟩ := c_live hz (y0 := 32) (law := W 0 1) (h := hT0 W) (gn := nB) (hd := nB) hW hC1 (by omega) a3 hW.2.1 (by rw [a4]; exact hB_0 16 (by omega)) (by rw [a5]; exact hB_0 10 (by omega)) (hT0_b hW) a6
  obtain ⟨M3, c1, c2, c3⟩ := c_f28 hz 113 mI M2
  obtain ⟨M4, d1, d2, d3⟩ := c_f29 hz 114 mI M3
  obtain ⟨M5, e1, e2, e3⟩ := c_f30 hz 115 mI M4
  have hF : Fx rfS M M5 := (((a2.mono (fun a q => by unfold rfS; omega)).trans (b2.mono (fun a q => by unfold yF at q; unfold rfS; omega))).trans (c2.mono (fun a q => by unfold rfS; omega))).trans ((d2.mono (fun a q => by unfold rfS; omega)).trans (e2.mono (fun a q => by unfold rfS; omega)))
  refine ⟨M5, ?_, hF, hC.fx hF (fun a q => by unfold rfS at q; omega), b3.of hW hW.1 (fun a q1 q2 => by rw [e2.2 a (by omega), d2.2 a (by omega), c2.2 a (by omega)]), ?_, ?_, ?_⟩
  · unfold f84 f45
    rw [a1, cb_bv, b1, cb_bv, q_m1, c1, cb_bv, d1, cb_bv, e1, cb_bv, cb_bv]
  · intro t m ht hm
    rw [e2.2 113 (by omega), d2.2 113 (by omega)]
    exact .inl (c3 _ (by omega))
  · intro e he
    rw [e2.2 114 (by omega)]
    exact .inl (d3 e he)
  · intro e he
    exact .inl (e3 e he)
theorem kX.rf {M M' : aM} (h : Fx rfS M M') : kX M M' := kX.fx h (fun a q => by unfold rfS at q; unfold Sc; omega)
/-- a number of the world changes that no thread's place depends on -/
theorem rC_6 {M : aM} {W : cW} {m : Nat} (hC : rC M 18 W) (hm : m ≤ W 0 6) : rC (am_u M.1 27 0 (nI m), M.2) 18 (wu W 0 6 m) := by
  have h4 : wu W 0 6 m 0 4 = W 0 4 := wu_n W (by omega)
  have h1 : ∀ t, wu W 0 6 m 1 t = W 1 t := fun t => wu_n W (by omega)
  obtain ⟨⟨a0, a1, a2, a3, a4, a5, a6⟩, b, c, d, e, f, g⟩ := hC
  refine ⟨⟨?_, ?_, ?_, ?_, ?_, ?_, ?_⟩, ?_, ?_, ?_, ?_, ?_, ?_⟩
  · simp (disch := omega) only [u_row, wu_n]; exact a0
  · simp (disch := omega) only [u_row, wu_n]; exact a1
  · simp (disch := omega) only [u_row, wu_n]; exact a2
  · simp (disch := omega) only [u_row, wu_n]; exact a3
  · simp (disch := omega) only [u_row, wu_n]; exact a4
  · simp (disch := omega) only [u_row, wu_n]; exact a5
  · simp (disch := omega) only [u_row, wu_n]; exact a6
  · intro t ht
    rw [h4] at ht
    simp (disch := omega) only [u_row, wu_n]; exact b t ht
  · intro q hq
    rw [wu_n W (by omega)] at hq
    simp (disch := omega) only [u_row, wu_n]; exact c q hq
  · intro k hk
    rw [bg_cong h4 h1]
    simp (disch := omega) only [u_row]; exact d k hk
  · intro k i hk hi
    rw [thr_cong h4 h1] at hi ⊢
    rw [bg_cong h4 h1]
    simp (disch := omega) only [u_row]; exact e k i hk hi
  · show am_u M.1 27 0 (nI m) 27 0 = _
    rw [u_self, wu_s]
  · intro i hi
    rw [wu_s] at hi
    simp (disch := omega) only [u_row, wu_n]; exact g i (by omega)
theorem rM_6 {M : aM} {W : cW} {m : Nat} (h : rM (M.1 206) W) (hm : m ≤ W 0 6) : rM (am_u M.1 206 6 (nI m) 206) (wu W 0 6 m) := by
  obtain ⟨⟨a0, a1, a2, a3, a4, a5, a6, a7⟩, b, c, d⟩ := h
  have hs : ∀ j, j ≠ 6 → am_u M.1 206 6 (nI m) 206 j = M.1 206 j := fun j hj => u_ne hj
  refine ⟨⟨?_, ?_, ?_, ?_, ?_, ?_, ?_, ?_⟩, ?_, ?_, ?_⟩
  · rw [hs 0 (by omega), wu_n W (by omega)]; exact a0
  · rw [hs 1 (by omega), wu_n W (by omega)]; exact a1
  · rw [hs 2 (by omega), wu_n W (by omega)]; exact a2
  · rw [hs 3 (by omega), wu_n W (by omega)]; exact a3
  · rw [hs 4 (by omega), wu_n W (by omega)]; exact a4
  · rw [hs 5 (by omega), wu_n W (by omega)]; exact a5
  · rw [u_self, wu_s]
  · rw [hs 7 (by omega), wu_n W (by omega)]; exact a7
  · intro t ht
    rw [wu_n W (by omega)] at ht
    rw [hs _ (by omega), hs _ (by omega), hs _ (by omega), wu_n W (by omega), wu_n W (by omega), wu_n W (by omega)]
    exact b t ht
  · intro q hq
    rw [wu_n W (by omega)] at hq
    rw [hs _ (by omega), hs _ (by omega), hs _ (by omega), wu_n W (by omega), wu_n W (by omega), wu_n W (by omega)]
    exact c q hq
  · intro i hi
    rw [wu_s] at hi
    rw [hs _ (by omega)]
    unfold aE
    rw [wu_n W (by omega), wu_n W (by omega), wu_n W (by omega), wu_n W (by omega)]
    exact d i (by omega)
theorem wf_6 {W : cW} {m : Nat} (h : wf W) (hm : m ≤ W 0 6) : wf (wu W 0 6 m) := by
  obtain ⟨a0, a1, a2, a3, a4, a5, a6, a7, b, c, d, e, f⟩ := h
  unfold wf
  rw [wu_s]
  simp (disch := omega) only [wu_n]
  exact ⟨a0, a1, a2, a3, a4, a5, by omega, a7, b, c, fun i hi => d i (by omega), fun q => by have := e q; omega, f⟩
theorem P_undo {z : Nat} (hz : 2000 ≤ z) {M : aM} {W : cW} (h : RW M W) : PR (f154 z M) (f315 z) := by
  have hA : W 0 6 ≤ 30 := h.w.2.2.2.2.2.2.1
  have e6 : am_inB (6 : Int32) 116 = true := by decide
  have e7 : (6 : Int32).toNatClampNeg = 6 := by decide
  have m6 : M.1 206 6 = nI (W 0 6) := h.m.1.2.2.2.2.2.2.1
  by_cases h7 : 0 < W 0 7
  · by_cases h0 : W 0 6 = 0
    · refine PR.r (M := M) (v := cm5) (M1 := M) ?_ h ⟨M, ?_, kR.id0⟩
      · simp only [f154, k7t h.c h.w h7, cb_bi, i1n, h.c.na, h0]
        rfl
      · simp only [f315, g175t h.m h.w h7, cb_bi, i1n, if_pos e6, e7, m6, h0]
        rfl
    · have hwf := wf_6 (m := W 0 6 - 1) h.w (by omega)
      have hC := rC_6 (m := W 0 6 - 1) h.c (by omega)
      obtain ⟨M1, a1, a2, a3, a4, a5⟩ := c_refresh hz hwf hC
      have hx1 : kX M M1 := (kX.fx (S := fun a => a = 27) (Fx.w Fx.id0 rfl) (fun a q => by omega)).trans (kX.rf a2)
      have r206 : M1.1 206 = M.1 206 := by rw [a2.2 206 (by unfold rfS; omega)]; simp (disch := omega) only [u_row]
      have n6 : M1.1 206 6 = nI (W 0 6) := by rw [r206]; exact m6
      refine ⟨nI (W 0 6 - 1), M1, (am_u M1.1 206 6 (nI (W 0 6 - 1)), M1.2), ?_, ?_, wu W 0 6 (W 0 6 - 1), hwf, ?_, ?_, ?_, ?_, hx1 |> fun k => (h.x.k k).k (kX.fx (S := fun a => a = 206) (Fx.w Fx.id0 rfl) (fun a q => by omega))⟩
      · simp only [f154, k7t h.c h.w h7, cb_bi, i1n, h.c.na, if_pos (nI_ne0 (show 0 < W 0 6 by omega) (by omega))]
        simp only [n_1, q_sub (show 1 ≤ W 0 6 by omega), a1, cb_bv, a3.na, wu_s]
      · have hw : ¬ nI (W 0 6) = 0 := nI_ne0 (by omega) (by omega)
        simp only [f315, g175t (show rM (M1.1 206) W by rw [r206]; exact h.m) h.w h7, cb_bi, i1n, if_pos e6, e7, n6, if_pos hw]
        simp only [n_1, q_sub (show 1 ≤ W 0 6 by omega), u_self]
      · exact a3.of (fun a q1 q2 => by show am_u M1.1 206 6 _ a = _; rw [u_row (by omega)])
      · exact rM_6 (by rw [r206]; exact h.m) (by omega)
      · exact a4.of hwf hwf.1 (fun a q1 q2 => by show am_u M1.1 206 6 _ a = _; rw [u_row (by omega)])
      · exact a5.u6
  · refine PR.r (M := M) (v := cm2) (M1 := M) ?_ h ⟨M, ?_, kR.id0⟩
    · simp only [f154, k7f h.c h7, cb_bi, i0n]
      rfl
    · simp only [f315, g175f h.m h.w h7, cb_bi, i0n]
      rfl
theorem P_anew {z : Nat} (hz : 2000 ≤ z) {M : aM} {W : cW} (h : RW M W) : PR (f155 z M) (f316 z) := by
  have e6 : am_inB (6 : Int32) 116 = true := by decide
  have e7 : (6 : Int32).toNatClampNeg = 6 := by decide
  have m6 : M.1 206 6 = nI (W 0 6) := h.m.1.2.2.2.2.2.2.1
  by_cases h7 : 0 < W 0 7
  · have hwf := wf_6 (m := 0) h.w (by omega)
    have hC := rC_6 (m := 0) h.c (by omega)
    obtain ⟨M1, a1, a2, a3, a4, a5⟩ := c_refresh hz hwf hC
    have hx1 : kX M M1 := (kX.fx (S := fun a => a = 27) (Fx.w Fx.id0 rfl) (fun a q => by omega)).trans (kX.rf a2)
    have r206 : M1.1 206 = M.1 206 := by rw [a2.2 206 (by unfold rfS; omega)]; simp (disch := omega) only [u_row]
    have n6 : M1.1 206 6 = nI (W 0 6) := by rw [r206]; exact m6
    refine ⟨nI (W 0 6), M1, (am_u M1.1 206 6 (nI 0), M1.2), ?_, ?_, wu W 0 6 0, hwf, ?_, ?_, ?_, ?_, hx1 |> fun k => (h.x.k k).k (kX.fx (S := fun a => a = 206) (Fx.w Fx.id0 rfl) (fun a q => by omega))⟩
    · simp only [f155, k7t h.c h.w h7, cb_bi, i1n, h.c.na]
      simp only [n_0, a1, cb_bv]
    · simp only [f316, g175t (show rM (M1.1 206) W by rw [r206]; exact h.m) h.w h7, cb_bi, i1n, if_pos e6, e7, n6]
      rfl
    · exact a3.of (fun a q1 q2 => by show am_u M1.1 206 6 _ a = _; rw [u_row (by omega)])
    · exact rM_6 (by rw [r206]; exact h.m) (by omega)
    · exact a4.of hwf hwf.1 (fun a q1 q2 => by show am_u M1.1 206 6 _ a = _; rw [u_row (by omega)])
    · exact a5.u6
  · refine PR.r (M := M) (v := cm2) (M1 := M) ?_ h ⟨M, ?_, kR.id0⟩
    · simp only [f155, k7f h.c h7, cb_bi, i0n]
      rfl
    · simp only [f316, g175f h.m h.w h7, cb_bi, i0n]
      rfl
/-! rate -/
theorem rC_3 {M : aM} {W : cW} {t m : Nat} (hC : rC M 18 W) (ht : t < W 0 4) : rC (am_u M.1 21 t (nI m), M.2) 18 (wu W 3 t m) := by
  have h4 : wu W 3 t m 0 4 = W 0 4 := wu_n W (by omega)
  have h1 : ∀ t', wu W 3 t m 1 t' = W 1 t' := fun t' => wu_n W (by omega)
  obtain ⟨⟨a0, a1, a2, a3, a4, a5, a6⟩, b, c, d, e, f, g⟩ := hC
  refine ⟨⟨?_, ?_, ?_, ?_, ?_, ?_, ?_⟩, ?_, ?_, ?_, ?_, ?_, ?_⟩
  · simp (disch := omega) only [u_row, wu_n]; exact a0
  · simp (disch := omega) only [u_row, wu_n]; exact a1
  · simp (disch := omega) only [u_row, wu_n]; exact a2
  · simp (disch := omega) only [u_row, wu_n]; exact a3
  · simp (disch := omega) only [u_row, wu_n]; exact a4
  · simp (disch := omega) only [u_row, wu_n]; exact a5
  · simp (disch := omega) only [u_row, wu_n]; exact a6
  · intro t' ht'
    rw [h4] at ht'
    refine ⟨?_, ?_, ?_⟩
    · simp (disch := omega) only [u_row, wu_n]; exact (b t' ht').1
    · simp (disch := omega) only [u_row, wu_n]; exact (b t' ht').2.1
    · show am_u M.1 21 t (nI m) 21 t' = _
      rw [u_at]
      by_cases q : t' = t
      · rw [if_pos q, q, wu_s]
      · rw [if_neg q, wu_n W (by omega)]; exact (b t' ht').2.2
  · intro q hq
    rw [wu_n W (by omega)] at hq
    simp (disch := omega) only [u_row, wu_n]; exact c q hq
  · intro k hk
    rw [bg_cong h4 h1]
    simp (disch := omega) only [u_row]; exact d k hk
  · intro k i hk hi
    rw [thr_cong h4 h1] at hi ⊢
    rw [bg_cong h4 h1]
    simp (disch := omega) only [u_row]; exact e k i hk hi
  · simp (disch := omega) only [u_row, wu_n]; exact f
  · intro i hi
    rw [wu_n W (by omega)] at hi
    simp (disch := omega) only [u_row, wu_n]; exact g i hi
theorem rM_3 {M : aM} {W : cW} {t m : Nat} (hW : wf W) (h : rM (M.1 206) W) (ht : t < W 0 4) : rM (am_u M.1 206 (8 + 3 * t + 2) (nI m) 206) (wu W 3 t m) := by
  have hN4 : W 0 4 ≤ 16 := hW.2.2.2.2.1
  obtain ⟨⟨a0, a1, a2, a3, a4, a5, a6, a7⟩, b, c, d⟩ := h
  have hs : ∀ j, j ≠ 8 + 3 * t + 2 → am_u M.1 206 (8 + 3 * t + 2) (nI m) 206 j = M.1 206 j := fun j hj => u_ne hj
  refine ⟨⟨?_, ?_, ?_, ?_, ?_, ?_, ?_, ?_⟩, ?_, ?_, ?_⟩
  · rw [hs 0 (by omega), wu_n W (by omega)]; exact a0
  · rw [hs 1 (by omega), wu_n W (by omega)]; exact a1
  · rw [hs 2 (by omega), wu_n W (by omega)]; exact a2
  · rw [hs 3 (by omega), wu_n W (by omega)]; exact a3
  · rw [hs 4 (by omega), wu_n W (by omega)]; exact a4
  · rw [hs 5 (by omega), wu_n W (by omega)]; exact a5
  · rw [hs 6 (by omega), wu_n W (by omega)]; exact a6
  · rw [hs 7 (by omega), wu_n W (by omega)]; exact a7
  · intro t' ht'
    rw [wu_n W (by omega)] at ht'
    rw [hs _ (by omega), hs (8 + 3 * t' + 1) (by omega), wu_n W (by omega), wu_n W (by omega)]
    refine ⟨(b t' ht').1, (b t' ht').2.1, ?_⟩
    by_cases q : t' = t
    · rw [q, u_self, wu_s]
    · rw [hs _ (by omega), wu_n W (by omega)]; exact (b t' ht').2.2
  · intro q hq
    rw [wu_n W (by omega)] at hq
    rw [hs _ (by omega), hs _ (by omega), hs _ (by omega), wu_n W (by omega), wu_n W (by omega), wu_n W (by omega)]
    exact c q hq
  · intro i hi
    rw [wu_n W (by omega)] at hi
    rw [hs _ (by omega)]
    unfold aE
    rw [wu_n W (by omega), wu_n W (by omega), wu_n W (by omega), wu_n W (by omega)]
    exact d i hi
theorem wf_3 {W : cW} {t m : Nat} (h : wf W) (h1 : 1 ≤ m) (h2 : m ≤ 60) : wf (wu W 3 t m) := by
  obtain ⟨a0, a1, a2, a3, a4, a5, a6, a7, b, c, d, e, f⟩ := h
  unfold wf
  simp (disch := omega) only [wu_n]
  refine ⟨a0, a1, a2, a3, a4, a5, a6, a7, fun t' ht' => ?_, c, d, e, f⟩
  have := b t' ht'
  by_cases q : t' = t
  · rw [q, wu_s]
    rw [q] at this
    exact ⟨this.1, this.2.1, h1, h2⟩
  · rw [wu_n W (by omega)]
    exact this
theorem L60 : (60 : Int64) = (nI 60).toInt64 := by decide
theorem L90 : (90 : Int64) = (nI 90).toInt64 := by decide
theorem P_rate {z : Nat} (hz : 2000 ≤ z) {M : aM} {W : cW} (h : RW M W) (x1 x2 : Int32) : PR (f159 z x1 x2 M) (f321 z x1 x2) := by
  have hN4 := h.n4
  have hA : W 0 6 ≤ 30 := h.w.2.2.2.2.2.2.1
  have e6 : am_inB (6 : Int32) 116 = true := by decide
  have e7 : (6 : Int32).toNatClampNeg = 6 := by decide
  have m6 : M.1 206 6 = nI (W 0 6) := h.m.1.2.2.2.2.2.2.1
  by_cases o1 : okN (W 0 4) x1
  · obtain ⟨t, ht, rfl⟩ := o1
    by_cases o2 : okW 1 60 x2
    · obtain ⟨m, hm1, hm2, rfl⟩ := o2
      by_cases h0 : W 0 6 = 0
      · have hwf := wf_3 (t := t) h.w hm1 hm2
        have hC := rC_3 (m := m) h.c ht
        obtain ⟨M1, a1, a2, a3, a4, a5⟩ := c_refresh hz hwf hC
        have hx1 : kX M M1 := (kX.fx (S := fun a => a = 21) (Fx.w Fx.id0 rfl) (fun a q => by omega)).trans (kX.rf a2)
        have r206 : M1.1 206 = M.1 206 := by rw [a2.2 206 (by unfold rfS; omega)]; simp (disch := omega) only [u_row]
        have n6 : M1.1 206 6 = nI (W 0 6) := by rw [r206]; exact m6
        have nh : M1.1 206 (8 + 3 * t + 2) = nI (W 3 t) := by rw [r206]; exact (h.m.2.1 t ht).2.2
        have rm1 : rM (M1.1 206) W := by rw [r206]; exact h.m
        refine ⟨nI (W 3 t), M1, (am_u M1.1 206 (8 + 3 * t + 2) (nI m), M1.2), ?_, ?_, wu W 3 t m, hwf, ?_, ?_, ?_, ?_, hx1 |> fun k => (h.x.k k).k (kX.fx (S := fun a => a = 206) (Fx.w Fx.id0 rfl) (fun a q => by omega))⟩
        · simp only [f159, k9t h.c h.w ht, cb_bi, i1f]
          rw [n_1, n_60, k165t hm1 hm2 (by omega), cb_bi, i1n, h.c.na, h0, if_pos (show nI 0 ≤ 0 by decide), if_pos (q_inB (show t < 16 by omega) (by omega)), if_pos (q_inB (show t < 16 by omega) (by omega))]
          simp only [q_cl (show t < 2147483648 by omega), a1, cb_bv, h.c.ho ht]
        · simp only [f321, k183t rm1 h.w ht, k170wt L1 L60 hm1 hm2 (by omega), cb_bi, i1f, i1n, if_pos e6, e7, n6, h0, if_pos (show nI 0 ≤ 0 by decide)]
          simp (disch := omega) only [n_0, n_1, n_2, n_3, n_4, n_5, n_6, n_7, n_8, n_9, n_10, n_12, n_13, n_16, n_30, n_60, n_61, n_86, n_99, n_100, n_200, n_201, n_1023, n_65535, n_10000, n_1000000, ↓q_m1, ↓q_m2, ↓q_m3, ↓q_m4, ↓q_m5, ↓q_m6, ↓q_m7, ↓q_m8, ↓q_m1000, ↓q_m100000, q_add, q_addm, q_inB, q_cl, q_le, q_lt, q_eq, q_eqm, q_meq, q_mltT, q_ltm, q_lem, q_mleT, if_true, if_false, if_pos, if_neg, Nat.reduceAdd, Nat.reduceMul, Nat.add_zero, Nat.zero_add, Nat.one_mul, not_true_eq_false, not_false_eq_true, u_row, u_self, u_ne, cb_bi, cb_bv, cb_bl, q_mul, nh]
        · exact a3.of (fun a q1 q2 => by show am_u M1.1 206 _ _ a = _; rw [u_row (by omega)])
        · exact rM_3 h.w rm1 ht
        · exact a4.of hwf hwf.1 (fun a q1 q2 => by show am_u M1.1 206 _ _ a = _; rw [u_row (by omega)])
        · exact a5.u6
      · have hn : ¬ nI (W 0 6) ≤ 0 := nI_nle (by omega) (by omega)
        refine PR.r (M := M) (v := cm5) (M1 := M) ?_ h ⟨M, ?_, kR.id0⟩
        · simp only [f159, k9t h.c h.w ht, cb_bi, i1f]
          rw [n_1, n_60, k165t hm1 hm2 (by omega), cb_bi, i1n, h.c.na, if_neg hn]
          rfl
        · simp only [f321, k183t h.m h.w ht, k170wt L1 L60 hm1 hm2 (by omega), cb_bi, i1f, i1n, if_pos e6, e7, m6, if_neg hn]
          rfl
    · refine PR.r (M := M) (v := cm2) (M1 := M) ?_ h ⟨M, ?_, kR.id0⟩
      · simp only [f159, k9t h.c h.w ht, cb_bi, i1f]
        rw [n_1, n_60, k165f o2 (by omega) (by omega), cb_bi, i0n]
        rfl
      · simp only [f321, k183t h.m h.w ht, k170wf L1 L60 o2 (by omega) (by omega), cb_bi, i1f, i0n]
        rfl
  · refine PR.r (M := M) (v := cm2) (M1 := M) ?_ h ⟨M, ?_, kR.id0⟩
    · simp only [f159, k9f h.c h.w o1, cb_bi, i0f]
      rfl
    · simp only [f321, k183f h.m h.w o1, cb_bi, i0f]
      rfl
