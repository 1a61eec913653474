/-! ===== the class reads all ===== -/
def lR (b : Nat → Int32) (n : Nat) : Nat → cW → cF → cW × cF
  | 0, W, p => (W, p)
  | m + 1, W, p => if tK b n p.1 = 0 then (W, p) else if (pS b n (lQ b n W p)).2.1 = 0 then lR b n m (wu (lW b n W p) 0 7 (W 0 7 + 1)) (pS b n (lQ b n W p)) else (W, pS b n (lQ b n W p))
theorem lW_7 (b : Nat → Int32) (n : Nat) (W : cW) (p : cF) : lW b n W p 0 7 = W 0 7 := by
  unfold lW lWh lWt lWq
  repeat' split
  all_goals simp (disch := omega) only [wu_n]
theorem rK_7 {M : aM} {W : cW} {m : Nat} (h : rK M W) : rK (am_u M.1 4 0 (nI m), M.2) (wu W 0 7 m) := by
  obtain ⟨⟨k0, k1, k2, k3, k4, k5, k6⟩, kt, kq⟩ := h
  unfold rK
  simp (disch := omega) only [u_row, u_ne, u_self, wu_n, wu_s]
  exact ⟨⟨trivial, k1, k2, k3, k4, k5, k6⟩, kt, kq⟩
theorem c_loop {z : Nat} (hz : 2000 ≤ z) {b : Nat → Int32} {n : Nat} : ∀ (m k i : Nat) (M : aM) (W : cW) (p : cF), n < p.1 + m → m ≤ k → cS M b n p → p.2.1 = 0 → rK M W → wf W → W 0 6 = 0 → W 0 7 = i → i ≤ p.1 →
    ∃ M', cS M' b n (lR b n m W p).2 ∧ Fx Ft M M' ∧ ((lR b n m W p).2.2.1 = 0 → rK M' (lR b n m W p).1 ∧ wf (lR b n m W p).1 ∧ (lR b n m W p).1 0 6 = 0 ∧ f17_34 z k (nI i) M = am_bv (f5 z 4 M') fun M1 => some (some (.inl ((1 : Int32) &&& 1)), M1)) ∧ (¬ (lR b n m W p).2.2.1 = 0 → f17_34 z k (nI i) M = some (some (.inl (nI 0)), M'))
  | 0, k, i, M, W, p, hm, _, h, _, _, _, _, _, _ => by
    have := h.1.2.2.2.2.2.2.1
    omega
  | m + 1, k, i, M, W, p, hm, hk, h, hp, hK, hW, h6, h7, hi => by
    obtain ⟨k, rfl⟩ : ∃ k', k = k' + 1 := ⟨k - 1, by omega⟩
    have h8 := h.1.2.2.2.2.2.1
    have hs := h.1.2.2.2.2.2.2.1
    have hk4 := tK_le b n p.1
    unfold lR
    rw [f17_34, h.1.2.2.2.1]
    by_cases e0 : tK b n p.1 = 0
    · rw [if_pos e0]
      refine ⟨M, h, Fx.id0, fun _ => ⟨hK, hW, h6, ?_⟩, fun w => absurd hp w⟩
      rw [e0, if_pos (show nI 0 = 0 from rfl)]
      split
      · rfl
      · rfl
    · rw [if_neg e0]
      have hn : p.1 < n := by
        apply Nat.lt_of_not_le
        intro w
        exact e0 (by unfold tK; rw [if_pos w])
      rw [if_neg (show ¬ (800 : Int32) ≤ nI i by rw [n_800, q_le (by omega) (by omega)]; omega), if_neg (show ¬ nI (tK b n p.1) = 0 from nI_ne0 (by omega) (by omega))]
      obtain ⟨M1, a1, a2, a3, a4⟩ := c_line hz h hp hK hW
      rw [a1, cb_bi]
      by_cases e1 : (lQ b n W p).2.1 = 0
      · rw [o1_0 e1, i1f]
        have a4 := a4 e1
        obtain ⟨M2, b1, b2, b3⟩ := c_sign hz a2 e1
        rw [b1, cb_bi]
        by_cases e2 : (pS b n (lQ b n W p)).2.1 = 0
        · rw [o1_0 e2, i1n, if_pos e2]
          have hlt := lt_S e2
          have hle := le_Q b n W p
          have hK2 := a4.of b3.kB
          have hr : M2.1 4 0 + 1 = nI (W 0 7 + 1) := by rw [hK2.1.1, lW_7, n_1, q_add]
          have hK3 := rK_7 (m := W 0 7 + 1) hK2
          have hs2 := b2.1.2.2.2.2.2.2.1
          obtain ⟨M3, c1, c2, c3, c4⟩ := c_loop hz m k (i + 1) (am_u M2.1 4 0 (nI (W 0 7 + 1)), M2.2) (wu (lW b n W p) 0 7 (W 0 7 + 1)) (pS b n (lQ b n W p)) (by omega) (by omega) (b2.u (by omega)) e2 hK3 (wf_l hW h6 hp (by omega) e1) (w6_l h6) (by rw [wu_s]; omega) (by omega)
          refine ⟨M3, c1, ((a3.trans (Fc.t b3)).trans (Fx.w Fx.id0 (by unfold Ft; omega))).trans c2, fun w => ?_, fun w => ?_⟩
          · obtain ⟨d1, d2, d3, d4⟩ := c3 w
            refine ⟨d1, d2, d3, ?_⟩
            dsimp only
            rw [hr, n_1, q_add]
            exact d4
          · dsimp only
            rw [hr, n_1, q_add]
            exact c4 w
        · rw [o1_1 e2, i0n, if_neg e2]
          exact ⟨M2, b2, a3.trans (Fc.t b3), fun w => absurd w e2, fun _ => rfl⟩
      · have e2 : ¬ (pS b n (lQ b n W p)).2.1 = 0 := by rw [pS_1 e1]; exact e1
        rw [o1_1 e1, i0f, if_neg e2, pS_1 e1]
        exact ⟨M1, a2, a3, fun w => absurd w e1, fun _ => rfl⟩
/-! the threads by their claims -/
def lT (W : cW) (c t : Nat) : List Nat := (List.range t).filter (fun t => W 1 t == c)
theorem lT_s (W : cW) (c t : Nat) : lT W c (t + 1) = lT W c t ++ (if W 1 t = c then [t] else []) := by
  unfold lT
  rw [List.range_succ, List.filter_append]
  congr 1
  by_cases e : W 1 t = c
  · rw [if_pos e]; simp [e]
  · rw [if_neg e]; simp [e]
theorem lT_le (W : cW) (c : Nat) {t : Nat} (h : t ≤ W 0 4) : (lT W c t).length ≤ (thr W c).length := ((List.range_sublist.mpr h).filter _).length_le
def iS (M0 M : aM) (W : cW) (c t : Nat) : Prop := Fx (fun a => a = 11 ∨ a = 12) M0 M ∧ (∀ k, k ≤ c → M.1 12 k = nI (bg W k)) ∧ (∀ k i, k < c → i < (thr W k).length → M.1 11 (bg W k + i) = nI ((thr W k).getD i 0)) ∧ ∀ i, i < (lT W c t).length → M.1 11 (bg W c + i) = nI ((lT W c t).getD i 0)
theorem bg_mono (W : cW) {k c : Nat} (h : k < c) : bg W k + (thr W k).length ≤ bg W c := by
  induction c with
  | zero => omega
  | succ c ih =>
    rw [bg_s]
    by_cases e : k = c
    · rw [e]; omega
    · have := ih (by omega); omega
theorem c_sort {z : Nat} (hz : 2000 ≤ z) {M : aM} {W : cW} (hK : rK M W) (hW : wf W) (h6 : W 0 6 = 0) (ha : M.1 13 0 = nI 0) : ∃ M', f5 z 4 M = some (none, M') ∧ Fx (fun a => a = 11 ∨ a = 12) M M' ∧ rC M' 4 W := by
  have n4 : W 0 4 ≤ 16 := hW.2.2.2.2.1
  obtain ⟨⟨k0, k1, k2, k3, k4, k5, k6⟩, kt, kq⟩ := hK
  unfold f5
  obtain ⟨n', M', e, hI⟩ := lr0 (fun n c M' => f5_4 z n 4 (nI (bg W c)) (nI c) M') 8 (fun c M' => Fx (fun a => a = 11 ∨ a = 12) M M' ∧ (∀ k, k < c → M'.1 12 k = nI (bg W k)) ∧ (∀ k i, k < c → i < (thr W k).length → M'.1 11 (bg W k + i) = nI ((thr W k).getD i 0))) z M (by omega) ⟨Fx.id0, fun k hk => by omega, fun k i hk => by omega⟩ (by
    intro n c M1 hc hI
    obtain ⟨i1, i2, i3⟩ := hI
    obtain ⟨n2, M2, e2, j1, j2, j3, j4⟩ := lr0 (fun k t M' => f5_19 z (f5_4 z n) k 4 (nI (bg W c + (lT W c t).length)) (nI c) (nI t) M') (W 0 4) (fun t M' => iS M M' W c t) z (am_u M1.1 12 c (nI (bg W c)), M1.2) (by omega) (by
      refine ⟨Fx.trans i1 (Fx.w Fx.id0 (.inr rfl)), fun k hk => ?_, fun k i hk hi => ?_, fun i hi => absurd hi (Nat.not_lt_zero i)⟩
      · show am_u M1.1 12 c (nI (bg W c)) 12 k = _
        by_cases q : k = c
        · rw [q, u_self]
        · rw [u_ne q]; exact i2 k (by omega)
      · show am_u M1.1 12 c (nI (bg W c)) 11 _ = _
        rw [u_row (by omega)]; exact i3 k i hk hi) (by
      intro k t M2 ht hJ
      obtain ⟨j1, j2, j3, j4⟩ := hJ
      have hb := bg_le W (c + 1)
      rw [bg_s] at hb
      have hl := lT_le W c (t := t + 1) (by omega)
      have r5 : M2.1 4 5 = nI (W 0 4) := by rw [j1.2 4 (by omega)]; exact k5
      have rf : M2.1 5 t = nI (W 1 t) := by rw [j1.2 5 (by omega)]; exact (kt t ht).1
      have w1 := (hW.2.2.2.2.2.2.2.2.1 t ht).1
      have n3 : W 0 3 ≤ 8 := hW.2.2.2.1
      rw [lT_s] at hl ⊢
      show ∃ s', f5_19 z (f5_4 z n) (k + 1) 4 (nI (bg W c + (lT W c t).length)) (nI c) (nI t) M2 = _ ∧ _
      rw [f5_19, r5, if_neg (show ¬ nI (W 0 4) ≤ nI t by rw [q_le (by omega) (by omega)]; omega), if_pos (q_inB (show t < 16 by omega) (by omega)), q_cl (by omega), rf]
      by_cases et : W 1 t = c
      · rw [if_pos et] at hl ⊢
        rw [List.length_append, List.length_singleton] at hl ⊢
        rw [if_neg (show ¬ ¬ nI (W 1 t) = nI c by rw [et]; exact fun w => w rfl), if_pos (q_inB (show bg W c + (lT W c t).length < 16 by omega) (by omega)), q_cl (by omega), n_1, q_add, q_add]
        refine ⟨_, rfl, Fx.trans j1 (Fx.w Fx.id0 (.inl rfl)), fun k' hk => ?_, fun k' i hk hi => ?_, fun i hi => ?_⟩
        · show am_u M2.1 11 (bg W c + (lT W c t).length) (nI t) 12 k' = _
          rw [u_row (by omega)]; exact j2 k' hk
        · show am_u M2.1 11 (bg W c + (lT W c t).length) (nI t) 11 (bg W k' + i) = _
          have := bg_mono W hk
          rw [u_ne (by omega)]; exact j3 k' i hk hi
        · show am_u M2.1 11 (bg W c + (lT W c t).length) (nI t) 11 (bg W c + i) = _
          rw [lT_s, if_pos et] at hi ⊢
          rw [List.length_append, List.length_singleton] at hi
          by_cases q : i = (lT W c t).length
          · rw [q, u_self, List.getD_eq_getElem?_getD, List.getElem?_append_right (Nat.le_refl _), Nat.sub_self]
            rfl
          · rw [u_ne (by omega), List.getD_eq_getElem?_getD, List.getElem?_append_left (by omega), ← List.getD_eq_getElem?_getD]
            exact j4 i (by omega)
      · rw [if_neg et, List.append_nil, if_pos (show ¬ nI (W 1 t) = nI c by rw [q_eq (by omega) (by omega)]; exact et), n_1, q_add]
        refine ⟨M2, rfl, j1, j2, j3, fun i hi => ?_⟩
        rw [lT_s, if_neg et, List.append_nil] at hi ⊢
        exact j4 i hi)
    have hb := bg_le W (c + 1)
    rw [bg_s] at hb
    have et : lT W c (W 0 4) = thr W c := rfl
    refine ⟨M2, ?_, j1, fun k hk => j2 k (by omega), fun k i hk hi => ?_⟩
    · have r5 : M2.1 4 5 = nI (W 0 4) := by rw [j1.2 4 (by omega)]; exact k5
      show f5_4 z (n + 1) 4 (nI (bg W c)) (nI c) M1 = f5_4 z n 4 (nI (bg W (c + 1))) (nI (c + 1)) M2
      rw [f5_4, if_neg (show ¬ (8 : Int32) ≤ nI c by rw [n_8, q_le (by omega) (by omega)]; omega), if_pos (q_inB (show c < 9 by omega) (by omega)), q_cl (by omega), n_0]
      refine e2.trans ?_
      show f5_19 z (f5_4 z n) (n2 + 1) 4 (nI (bg W c + (lT W c (W 0 4)).length)) (nI c) (nI (W 0 4)) M2 = _
      rw [f5_19, r5, if_pos (show nI (W 0 4) ≤ nI (W 0 4) from Int32.le_refl _), n_1, q_add, et, bg_s]
    · by_cases q : k = c
      · rw [q] at hi ⊢
        rw [et] at j4
        exact j4 i hi
      · exact j3 k i (by omega) hi)
  obtain ⟨i1, i2, i3⟩ := hI
  refine ⟨(am_u M'.1 12 8 (nI (bg W 8)), M'.2), ?_, Fx.trans i1 (Fx.w Fx.id0 (.inr rfl)), ?_⟩
  · rw [n_0]
    refine e.trans ?_
    show f5_4 z (n' + 1) 4 (nI (bg W 8)) (nI 8) M' = _
    rw [f5_4, n_8, if_pos (show nI 8 ≤ nI 8 by decide), if_pos (by decide)]
    rfl
  · have r : ∀ a, a ≠ 11 → a ≠ 12 → am_u M'.1 12 8 (nI (bg W 8)) a = M.1 a := fun a x1 x2 => by rw [u_row x2, i1.2 a (by omega)]
    unfold rC
    dsimp only
    simp only [Nat.reduceAdd]
    rw [r 4 (by omega) (by omega), r 5 (by omega) (by omega), r 6 (by omega) (by omega), r 7 (by omega) (by omega), r 8 (by omega) (by omega), r 9 (by omega) (by omega), r 10 (by omega) (by omega), r 13 (by omega) (by omega), h6]
    refine ⟨⟨k0, k1, k2, k3, k4, k5, k6⟩, kt, kq, fun k hk => ?_, fun k i hk hi => ?_, ha, fun i hi => by omega⟩
    · by_cases q : k = 8
      · rw [q, u_self]
      · rw [u_ne q]; exact i2 k (by omega)
    · rw [u_row (by omega)]; exact i3 k i hk hi
