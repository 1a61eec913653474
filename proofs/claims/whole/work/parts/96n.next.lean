/-! ===== the model reads all; cloth ===== -/
theorem m_loop {z : Nat} (hz : 2000 ≤ z) {b : Nat → Int32} {n : Nat} : ∀ (m k : Nat) (M : aM) (W : cW) (p : cF), n < p.1 + m → m < k → mSt M b n p → p.2.1 = 0 → rM (M.1 211) W → wf W → W 0 6 = 0 → W 0 7 ≤ p.1 →
    ∃ M', mSt M' b n (lR b n m W p).2 ∧ wY M M' ∧ ((lR b n m W p).2.2.1 = 0 → rM (M'.1 211) (lR b n m W p).1 ∧ wf (lR b n m W p).1 ∧ f206_53 z k M = f206_86 z z (0 : Int32) M') ∧ (¬ (lR b n m W p).2.2.1 = 0 → f206_53 z k M = some (some (.inl (-4 : Int32)), M'))
  | 0, k, M, W, p, hm, _, h, _, _, _, _, _ => by
    have := h.1.2.2.2.2.2.2.1
    omega
  | m + 1, k, M, W, p, hm, hk, h, hp, hK, hW, h6, h7 => by
    obtain ⟨k, rfl⟩ : ∃ k', k = k' + 1 := ⟨k - 1, by omega⟩
    have h8 := h.1.2.2.2.2.2.1
    have hs := h.1.2.2.2.2.2.2.1
    have hk4 := tK_le b n p.1
    unfold lR
    rw [f206_53, k192 h, cb_bi, o1_0 hp, i1f, h.1.2.2.2.1]
    by_cases e0 : tK b n p.1 = 0
    · rw [if_pos e0, e0, if_pos (show nI 0 = 0 from rfl), k192 h, cb_bi, o1_0 hp, i1n]
      exact ⟨M, h, wY.id0 M, fun _ => ⟨hK, hW, rfl⟩, fun w => absurd hp w⟩
    · rw [if_neg e0, if_neg (show ¬ nI (tK b n p.1) = 0 from nI_ne0 (by omega) (by omega))]
      have hn : p.1 < n := by
        apply Nat.lt_of_not_le
        intro w
        exact e0 (by unfold tK; rw [if_pos w])
      obtain ⟨M1, a1, a2, a3, a4⟩ := m_line hz h hp hK hW h6
      rw [a1, cb_bv]
      by_cases e2 : (pS b n (lQ b n W p)).2.1 = 0
      · rw [if_pos e2]
        have hlt := lt_S e2
        have hle := le_Q b n W p
        have hs2 := a2.1.2.2.2.2.2.2.1
        obtain ⟨M3, c1, c2, c3, c4⟩ := m_loop hz m k M1 (wu (lW b n W p) 0 7 (W 0 7 + 1)) (pS b n (lQ b n W p)) (by omega) (by omega) a2 e2 (a4 e2) (wf_l hW h6 hp (by omega) (pS_0 e2).1) (w6_l h6) (by rw [wu_s]; omega)
        exact ⟨M3, c1, a3.trans c2, c3, c4⟩
      · rw [if_neg e2]
        refine ⟨M1, a2, a3, fun w => absurd w e2, fun _ => ?_⟩
        obtain ⟨k, rfl⟩ : ∃ k', k = k' + 1 := ⟨k - 1, by omega⟩
        rw [f206_53, k192 a2, cb_bi, o1_1 e2, i0f, k192 a2, cb_bi, o1_1 e2, i0n]
theorem m_copy {z : Nat} (hz : 2000 ≤ z) (M : aM) : ∃ M', f206_86 z z (nI 0) M = some (some (.inl (M'.1 206 7)), M') ∧ Fx (fun a => a = 206) M M' ∧ ∀ i, i < 116 → M'.1 206 i = M.1 211 i := by
  obtain ⟨n, M', e, hF, hG⟩ := lr0 (fun n i M' => f206_86 z n (nI i) M') 116 (fun t M' => Fx (fun a => a = 206) M M' ∧ (∀ i, i < t → M'.1 206 i = M.1 211 i)) z M (by omega) ⟨Fx.id0, fun t ht => by omega⟩ (by
    intro n t M' ht hI
    refine ⟨(am_u M'.1 206 t (M'.1 211 t), M'.2), ?_, Fx.w hI.1 rfl, ?_⟩
    · rw [f206_86, n_116, if_neg (show ¬ nI 116 ≤ nI t by rw [q_le (by omega) (by omega)]; omega), if_pos (q_inB ht (by omega)), if_pos (q_inB ht (by omega)), q_cl (by omega), n_1, q_add]
    · intro u hu
      show am_u M'.1 206 _ _ 206 u = _
      by_cases q : u = t
      · rw [q, u_self, hI.1.2 211 (by omega)]
      · rw [u_ne (by omega)]
        exact hI.2 u (by omega))
  refine ⟨M', ?_, hF, hG⟩
  rw [e, f206_86, n_116, if_pos (show nI 116 ≤ nI 116 by decide), if_pos ib_7, ic_7]
theorem m_zero {z : Nat} (hz : 2000 ≤ z) (M : aM) : ∃ M', f206_30 z z (nI 0) M = (am_bv (f191 z M') fun M1 => f206_53 z z M1) ∧ Fx (fun a => a = 211) M M' ∧ ∀ i, i < 116 → M'.1 211 i = nI 0 := by
  obtain ⟨n, M', e, hF, hG⟩ := lr0 (fun n i M' => f206_30 z n (nI i) M') 116 (fun t M' => Fx (fun a => a = 211) M M' ∧ (∀ i, i < t → M'.1 211 i = nI 0)) z M (by omega) ⟨Fx.id0, fun t ht => by omega⟩ (by
    intro n t M' ht hI
    refine ⟨(am_u M'.1 211 t (nI 0), M'.2), ?_, Fx.w hI.1 rfl, ?_⟩
    · rw [f206_30, n_116, if_neg (show ¬ nI 116 ≤ nI t by rw [q_le (by omega) (by omega)]; omega), if_pos (q_inB ht (by omega)), q_cl (by omega), n_1, q_add]
      rfl
    · intro u hu
      show am_u M'.1 211 _ _ 211 u = _
      by_cases q : u = t
      · rw [q, u_self]
      · rw [u_ne (by omega)]
        exact hI.2 u (by omega))
  refine ⟨M', ?_, hF, hG⟩
  rw [e, f206_30, n_116, if_pos (show nI 116 ≤ nI 116 by decide)]
theorem m_cloth {z : Nat} (hz : 2000 ≤ z) {M : aM} {b : Nat → Int32} {n : Nat} (hn : n ≤ 800) (h1 : M.1 205 5 = nI n) (hb : ∀ i, i < n → M.1 209 i = b i ∧ byt (b i)) :
    ∃ M', Fx (fun a => a = 205 ∨ a = 206 ∨ a = 211) M M' ∧ M'.1 205 5 = nI 0 ∧ M'.1 205 12 = nI (lZ b n).2.2.1 ∧ M'.1 205 13 = fP (lZ b n).2 ∧ ((lZ b n).2.2.1 = 0 → rM (M'.1 206) (lZ b n).1 ∧ f206 z M = some (some (.inl (nI ((lZ b n).1 0 7))), M')) ∧ (¬ (lZ b n).2.2.1 = 0 → M'.1 206 = M.1 206 ∧ f206 z M = some (some (.inl (-4 : Int32)), M')) := by
  obtain ⟨M1, a1, a2, a3⟩ := m_zero hz ((am_u (am_u (am_u (am_u (am_u M.1 205 7 (nI n)) 205 5 (nI 0)) 205 8 (nI 0)) 205 12 (nI 0)) 205 13 mI, M.2) : aM)
  have hP : mP M1 b n 0 := by
    refine ⟨?_, ?_, hn, by omega, fun i hi => ?_⟩
    · rw [a2.2 205 (by omega)]; simp (disch := omega) only [u_ne, u_self]
    · rw [a2.2 205 (by omega)]; simp (disch := omega) only [u_ne, u_self]
    · rw [a2.2 209 (by omega)]; simp (disch := omega) only [u_row]; exact hb i hi
  obtain ⟨M2, b1, b2, b3⟩ := m_next hz hP
  have c1 : mSt M2 b n (tQ b n 0, 0, 0) := by
    refine ⟨b3, ?_, ?_, show 0 ≤ 3 by omega⟩
    · rw [b2.2 12 (by omega), a2.2 205 (by omega)]; simp (disch := omega) only [u_ne, u_self]
    · rw [b2.2 13 (by omega), a2.2 205 (by omega)]; simp (disch := omega) only [u_self]; rfl
  have r5 : M2.1 205 5 = nI 0 := by rw [b2.2 5 (by omega), a2.2 205 (by omega)]; simp (disch := omega) only [u_ne, u_self]
  have hK : rM (M2.1 211) W00 := by
    rw [b2.1.2 211 (by omega)]
    unfold rM W00
    refine ⟨⟨a3 0 (by omega), a3 1 (by omega), a3 2 (by omega), a3 3 (by omega), a3 4 (by omega), a3 5 (by omega), a3 6 (by omega), a3 7 (by omega)⟩, fun t ht => by omega, fun t ht => by omega, fun t ht => by omega⟩
  obtain ⟨M3, d1, d2, d3, d4⟩ := m_loop hz (n + 1) z M2 W00 (tQ b n 0, 0, 0) (by omega) (by omega) c1 rfl hK wf_00 rfl (by show 0 ≤ _; omega)
  change mSt M3 b n (lZ b n).2 at d1
  change (lZ b n).2.2.1 = 0 → rM (M3.1 211) (lZ b n).1 ∧ wf (lZ b n).1 ∧ _ at d3
  change ¬ (lZ b n).2.2.1 = 0 → _ at d4
  have F3 : Fx (fun a => a = 205 ∨ a = 211) M M3 := ((Fx.trans (Fx.w (Fx.w (Fx.w (Fx.w (Fx.w Fx.id0 (.inl rfl)) (.inl rfl)) (.inl rfl)) (.inl rfl)) (.inl rfl)) (a2.mono (fun a q => .inr q))).trans (b2.1.mono (fun a q => .inl q))).trans d2.1
  have e206 : f206 z M = f206_53 z z M2 := by
    unfold f206 f206_23
    dsimp only
    rw [h1, n_0, q_m1, a1, b1, cb_bv]
  by_cases e : (lZ b n).2.2.1 = 0
  · obtain ⟨g1, g2, g3⟩ := d3 e
    obtain ⟨M4, s1, s2, s3⟩ := m_copy hz M3
    have rm : rM (M4.1 206) (lZ b n).1 := g1.cp g2 s3
    refine ⟨M4, (F3.mono (fun a q => by omega)).trans (s2.mono (fun a q => by omega)), ?_, ?_, ?_, fun _ => ⟨rm, ?_⟩, fun w => absurd e w⟩
    · rw [s2.2 205 (by omega), d2.2]; exact r5
    · rw [s2.2 205 (by omega)]; exact d1.2.1
    · rw [s2.2 205 (by omega)]; exact d1.2.2.1
    · rw [e206, g3, n_0, s1, rm.1.2.2.2.2.2.2.2]
  · exact ⟨M3, F3.mono (fun a q => by omega), by rw [d2.2]; exact r5, d1.2.1, d1.2.2.1, fun w => absurd w e, fun w => ⟨F3.2 206 (by omega), by rw [e206]; exact d4 w⟩⟩
theorem P_cloth {z : Nat} (hz : 2000 ≤ z) {M : aM} {W : cW} (h : RW M W) : PR (f82 z M) (f206 z) := by
  obtain ⟨n, hn, t1, t2, t3⟩ := h.t
  obtain ⟨M1, a1, a2, a3, a4, a5⟩ := c_read hz (M := M) (b := M.1 3) hn t1 (fun i _ => rfl)
  have hbb : ∀ A : aM, A.1 209 = M.1 209 → ∀ i, i < n → A.1 209 i = M.1 3 i ∧ byt (M.1 3 i) := fun A e i hi => by
    rw [e, (t3 i hi).1]; exact ⟨rfl, (t3 i hi).2⟩
  by_cases e : (lZ (M.1 3) n).2.2.1 = 0
  · obtain ⟨b1, b2, b3⟩ := a4 e
    have hC4 : rC (am_u M1.1 2 1 (nI 0), M1.2) 4 (lZ (M.1 3) n).1 := b1.of (fun a x1 x2 => by simp (disch := omega) only [u_row])
    obtain ⟨M2, c1, c2, c3⟩ := c_f6 (z := z) (c0 := 18) (c1 := 4) (by omega) ((am_u M1.1 2 1 (nI 0), M1.2) : aM)
    have hC := rC.cp b2 hC4 c3
    obtain ⟨M3, d1, d2, d3, d4, d5⟩ := c_refresh hz b2 hC
    have F3 : Fx (fun a => (Fr a ∨ (18 ≤ a ∧ a < 32)) ∨ rfS a) M M3 := ((a1.mono (fun a q => .inl (.inl q))).trans (Fx.trans (Fx.w Fx.id0 (.inl (.inl (.inr (.inl rfl))))) (c2.mono (fun a q => .inl (.inr (by omega)))))).trans (d2.mono (fun a q => .inr q))
    have k3 : ∀ a, 116 ≤ a → M3.1 a = M.1 a := fun a x => F3.2 a (by unfold Fr rfS; omega)
    obtain ⟨M4, g1, g2, g3, g4, g5, g6⟩ := m_cloth hz (M := M3) (b := M.1 3) hn (by rw [k3 205 (by omega)]; exact t2) (hbb M3 (k3 209 (by omega)))
    obtain ⟨g5, g7⟩ := g5 e
    have k4 : ∀ a, 116 ≤ a → a < 205 → M4.1 a = M.1 a := fun a x y => by rw [g1.2 a (by omega), k3 a x]
    have l4 : M4.2 = M.2 := by rw [g1.1, F3.1]
    have k1 : M4.1 1 = M1.1 1 := by
      rw [g1.2 1 (by omega), d2.2 1 (by unfold rfS; omega), c2.2 1 (by omega)]; simp (disch := omega) only [u_row]
    have k2 : M4.1 2 1 = nI 0 := by
      rw [g1.2 2 (by omega), d2.2 2 (by unfold rfS; omega), c2.2 2 (by omega)]; simp (disch := omega) only [u_self]
    refine ⟨nI ((lZ (M.1 3) n).1 0 7), M3, M4, ?_, g7, (lZ (M.1 3) n).1, b2, d3.of (fun a x1 x2 => g1.2 a (by omega)), g5, d4.of b2 b2.1 (fun a x1 x2 => g1.2 a (by omega)), d5.of (g1.2 113 (by omega)) (g1.2 114 (by omega)) (g1.2 115 (by omega)), ?_, ?_, ⟨0, by omega, k2, g2, fun i hi => by omega⟩, ?_, ?_⟩
    · unfold f82
      rw [b3, cb_bi, i1n, n_0]
      rw [c1, cb_bv, d1, cb_bv, d3.i0]
    · exact h.i.of (k4 154 (by omega) (by omega)) (by rw [g1.2 208 (by omega), k3 208 (by omega)]) (fun a x1 x2 => k4 a (by omega) (by omega)) (by rw [g1.2 207 (by omega), k3 207 (by omega)])
    · exact h.s.of (fun a x1 x2 => ⟨k4 a (by omega) (by omega), by rw [l4]⟩) (by rw [g1.2 229 (by omega), k3 229 (by omega)]) (by rw [g1.2 230 (by omega), k3 230 (by omega)]) (by rw [l4])
    · rw [k1, g3]; exact a2
    · rw [k1, g4]; exact a3
  · have b3 := a5 e
    have F3 : Fx Fr M (am_u M1.1 2 1 (nI 0), M1.2) := a1.trans (Fx.w Fx.id0 (.inr (.inl rfl)))
    have k3 : ∀ a, 18 ≤ a → am_u M1.1 2 1 (nI 0) a = M.1 a := fun a x => F3.2 a (by unfold Fr; omega)
    obtain ⟨M4, g1, g2, g3, g4, g5, g6⟩ := m_cloth hz (M := (am_u M1.1 2 1 (nI 0), M1.2)) (b := M.1 3) hn (by rw [← t2]; exact congrFun (k3 205 (by omega)) 5) (hbb _ (k3 209 (by omega)))
    obtain ⟨g6, g7⟩ := g6 e
    have k4 : ∀ a, 18 ≤ a → a < 205 → M4.1 a = M.1 a := fun a x y => by rw [g1.2 a (by omega)]; exact k3 a x
    have l4 : M4.2 = M.2 := by rw [g1.1]; exact F3.1
    have k1 : M4.1 1 = M1.1 1 := by
      rw [g1.2 1 (by omega)]; simp (disch := omega) only [u_row]
    have k2 : M4.1 2 1 = nI 0 := by
      rw [g1.2 2 (by omega)]; simp (disch := omega) only [u_self]
    have k6 : M4.1 206 = M.1 206 := by rw [g6]; exact k3 206 (by omega)
    refine ⟨-4, (am_u M1.1 2 1 (nI 0), M1.2), M4, ?_, g7, W, h.w, h.c.of (fun a x1 x2 => k4 a (by omega) (by omega)), by rw [k6]; exact h.m, h.y.of h.w h.w.1 (fun a x1 x2 => k4 a (by omega) (by omega)), h.a.of (k4 113 (by omega) (by omega)) (k4 114 (by omega) (by omega)) (k4 115 (by omega) (by omega)), ?_, ?_, ⟨0, by omega, k2, g2, fun i hi => by omega⟩, ?_, ?_⟩
    · unfold f82
      rw [b3, cb_bi, i0n, n_0]
    · exact h.i.of (k4 154 (by omega) (by omega)) (by rw [g1.2 208 (by omega)]; exact k3 208 (by omega)) (fun a x1 x2 => k4 a (by omega) (by omega)) (by rw [g1.2 207 (by omega)]; exact k3 207 (by omega))
    · exact h.s.of (fun a x1 x2 => ⟨k4 a (by omega) (by omega), by rw [l4]⟩) (by rw [g1.2 229 (by omega)]; exact k3 229 (by omega)) (by rw [g1.2 230 (by omega)]; exact k3 230 (by omega)) (by rw [l4])
    · rw [k1, g3]; exact a2
    · rw [k1, g4]; exact a3
