/-! ===== fits ===== -/
def ftB (W : cW) (N : Nat → Int64) (m t : Nat) : Nat → Bool := fun k => (fst (agB N (lv W (W 0 1) nB nB (up (hT0 W) t (k + 1)))) m).isNone
def lst (p : Nat → Bool) : Nat → Option Nat
  | 0 => none
  | k + 1 => if p k = true then some (k + 1) else lst p k
theorem cnt_t {p : Nat → Bool} {k : Nat} (q : p k = true) : cnt p (k + 1) = cnt p k + 1 := by
  show cnt p k + (if p k = true then 1 else 0) = _
  rw [if_pos q]
theorem cnt_f {p : Nat → Bool} {k : Nat} (q : ¬ p k = true) : cnt p (k + 1) = cnt p k := by
  show cnt p k + (if p k = true then 1 else 0) = _
  rw [if_neg q]
  rfl
theorem lst_t {p : Nat → Bool} {k : Nat} (q : p k = true) : lst p (k + 1) = some (k + 1) := if_pos q
theorem lst_f {p : Nat → Bool} {k : Nat} (q : ¬ p k = true) : lst p (k + 1) = lst p k := if_neg q
theorem fst_f {p : Nat → Bool} {k : Nat} (q : ¬ p k = true) : fst p (k + 1) = fst p k := by
  show (match fst p k with | some k => some k | none => if p k = true then some k else none) = fst p k
  cases fst p k with
  | none => exact if_neg q
  | some j => rfl
theorem fst_t0 {p : Nat → Bool} {k : Nat} (h : fst p k = none) (q : p k = true) : fst p (k + 1) = some k := by
  show (match fst p k with | some k => some k | none => if p k = true then some k else none) = some k
  rw [h]
  exact if_pos q
theorem fst_k {p : Nat → Bool} {k j : Nat} (h : fst p k = some j) : fst p (k + 1) = some j := by
  show (match fst p k with | some k => some k | none => if p k = true then some k else none) = some j
  rw [h]
theorem isN {α : Type} (o : Option α) : (if o = none then 1 else 0 : Nat) = if o.isNone = true then 1 else 0 := by
  cases o <;> simp
/-- countFits -/
theorem c_count {z : Nat} (hz : 2000 ≤ z) {M : aM} {W : cW} (h : RW M W) {s n m t : Nat} {N : Nat → Int64} (hs : s < 4) (hD : sD M s n N) (hm : n = 3 * m) (hok : fst (bdT W N) m = none) (ht : t < W 0 4) :
    ∃ M', f30 z 18 (155 + 2 * s) (nI t) M = some (none, M') ∧ kR M M' ∧ M'.1 116 1 = nI (cnt (ftB W N m t) 60) ∧ M'.1 116 2 = oI (su (fst (ftB W N m t) 60)) ∧ M'.1 116 3 = oI (lst (ftB W N m t) 60) := by
  have hN4 := h.n4
  have hN0 := h.n0
  have kS : ∀ (M : aM) (j : Nat) (v : Int32), kR M (am_u M.1 116 j v, M.2) := fun M j v => kR.fx (S := fun a => a = 116) (Fx.w Fx.id0 rfl) (fun a q => by unfold Sc; omega)
  obtain ⟨p, hp⟩ : ∃ p, p = ftB W N m t := ⟨_, rfl⟩
  rw [← hp]
  obtain ⟨n1, M1, e1, hK, i1, i2, i3⟩ := lr0 (fun n k M' => f30_18 z n 18 (155 + 2 * s) (nI t) (nI (k + 1)) M') 60 (fun k M' => kR M M' ∧ M'.1 116 1 = nI (cnt p k) ∧ M'.1 116 2 = oI (su (fst p k)) ∧ M'.1 116 3 = oI (lst p k)) z (am_u (am_u (am_u M.1 116 1 (nI 0)) 116 2 mI) 116 3 mI, M.2) (by omega) ⟨((kS M 1 (nI 0)).trans (kS _ 2 mI)).trans (kS _ 3 mI), by simp (disch := omega) only [u_ne, u_self]; rfl, by simp (disch := omega) only [u_ne, u_self]; rfl, by simp only [u_self]; rfl⟩ (by
    intro n' k M' hk hI
    obtain ⟨hK, i1, i2, i3⟩ := hI
    have hI := h.k hK
    have hD' := hD.k hs hK
    obtain ⟨M1, a1, a2, a3, a4, a5, a6⟩ := c_asTold (z := z) (y0 := 117) hI.w hI.c (by omega)
    have k1 : kR M' M1 := kR.fx a2 (fun a q => by unfold Sc; omega)
    have h1 := hI.k k1
    have k2 : kR M1 (am_u M1.1 119 t (nI (k + 1)), M1.2) := kR.fx (S := fun a => a = 119) (Fx.w Fx.id0 rfl) (fun a q => by unfold Sc; omega)
    have h2 := h1.k k2
    obtain ⟨M3, b1, b2, b3⟩ := c_live hz (M := (am_u M1.1 119 t (nI (k + 1)), M1.2)) (y0 := 117) (law := W 0 1) (h := up (hT0 W) t (k + 1)) (gn := nB) (hd := nB) h2.w h2.c (by omega) (by simp (disch := omega) only [u_row]; exact a3) h.w.2.1 (by simp (disch := omega) only [u_row, a4]; exact hB_0 16 (by omega)) (by simp (disch := omega) only [u_row, a5]; exact hB_0 10 (by omega)) (up_b (hT0_b h.w) (by omega)) (row_upg a6)
    have k3 : kR M' M3 := (k1.trans k2).trans (kR.ofY b2 (.inr rfl))
    have r116 : M3.1 116 = M'.1 116 := by
      rw [b2.2 116 (by unfold yF; omega)]
      simp (disch := omega) only [u_row]
      exact a2.2 116 (by omega)
    have e32 := c_agrees (z := z) hz h.w (hD'.k hs k3) hm hok b3
    have ep : p k = (fst (agB N (lv W (W 0 1) nB nB (up (hT0 W) t (k + 1)))) m).isNone := by rw [hp]; rfl
    rw [isN, ← ep] at e32
    rw [← r116] at i1 i2 i3
    have hsu : ∀ v, su (fst p k) = some v → v ≤ 60 := by
      intro v q
      cases e : fst p k with
      | none => rw [e] at q; cases q
      | some j => rw [e] at q; have := (fst_s e).1; cases q; omega
    rw [f30_18]
    simp (disch := omega) only [n_0, n_1, n_2, n_3, n_4, n_5, n_6, n_7, n_8, n_9, n_10, n_12, n_13, n_16, n_30, n_60, n_61, n_86, n_99, n_100, n_200, n_201, n_1023, n_65535, n_10000, n_1000000, ↓q_m1, ↓q_m2, ↓q_m3, ↓q_m4, ↓q_m5, ↓q_m6, ↓q_m7, ↓q_m8, ↓q_m1000, ↓q_m100000, q_add, q_addm, q_inB, q_cl, q_le, q_lt, q_eq, q_eqm, q_meq, q_mltT, q_ltm, q_lem, q_mleT, if_true, if_false, if_pos, if_neg, Nat.reduceAdd, Nat.reduceMul, Nat.add_zero, Nat.zero_add, Nat.one_mul, not_true_eq_false, not_false_eq_true, u_row, u_self, u_ne, cb_bi, cb_bv, cb_bl, a1, b1, e32]
    by_cases q : p k = true
    · have c1 : cnt p (k + 1) = cnt p k + 1 := cnt_t q
      have c3 : lst p (k + 1) = some (k + 1) := lst_t q
      rw [c1, c3, oI_s]
      simp only [if_pos q]
      cases hf : fst p k with
      | none =>
        have c2 : fst p (k + 1) = some k := fst_t0 hf q
        rw [hf] at i2
        rw [c2]
        simp (disch := omega) only [n_0, n_1, n_2, n_3, n_4, n_5, n_6, n_7, n_8, n_9, n_10, n_12, n_13, n_16, n_30, n_60, n_61, n_86, n_99, n_100, n_200, n_201, n_1023, n_65535, n_10000, n_1000000, ↓q_m1, ↓q_m2, ↓q_m3, ↓q_m4, ↓q_m5, ↓q_m6, ↓q_m7, ↓q_m8, ↓q_m1000, ↓q_m100000, q_add, q_addm, q_inB, q_cl, q_le, q_lt, q_eq, q_eqm, q_meq, q_mltT, q_ltm, q_lem, q_mleT, if_true, if_false, if_pos, if_neg, Nat.reduceAdd, Nat.reduceMul, Nat.add_zero, Nat.zero_add, Nat.one_mul, not_true_eq_false, not_false_eq_true, u_row, u_self, u_ne, cb_bi, cb_bv, cb_bl, i1, i2, su, oI_n]
        exact ⟨_, rfl, (((hK.trans k3).trans (kS _ _ _)).trans (kS _ _ _)).trans (kS _ _ _), by simp (disch := omega) only [u_ne, u_self], by simp (disch := omega) only [u_ne, u_self]; rfl, by simp only [u_self]⟩
      | some j =>
        have c2 : fst p (k + 1) = some j := fst_k hf
        have hj := (fst_s hf).1
        rw [hf] at i2
        rw [c2]
        simp (disch := omega) only [n_0, n_1, n_2, n_3, n_4, n_5, n_6, n_7, n_8, n_9, n_10, n_12, n_13, n_16, n_30, n_60, n_61, n_86, n_99, n_100, n_200, n_201, n_1023, n_65535, n_10000, n_1000000, ↓q_m1, ↓q_m2, ↓q_m3, ↓q_m4, ↓q_m5, ↓q_m6, ↓q_m7, ↓q_m8, ↓q_m1000, ↓q_m100000, q_add, q_addm, q_inB, q_cl, q_le, q_lt, q_eq, q_eqm, q_meq, q_mltT, q_ltm, q_lem, q_mleT, if_true, if_false, if_pos, if_neg, Nat.reduceAdd, Nat.reduceMul, Nat.add_zero, Nat.zero_add, Nat.one_mul, not_true_eq_false, not_false_eq_true, u_row, u_self, u_ne, cb_bi, cb_bv, cb_bl, i1, i2, su, oI_s]
        exact ⟨_, rfl, (((hK.trans k3).trans (kS _ _ _)).trans (kS _ _ _)).trans (kS _ _ _), by simp (disch := omega) only [u_ne, u_self], by simp (disch := omega) only [u_ne, u_self], by simp only [u_self]⟩
    · have c1 : cnt p (k + 1) = cnt p k := cnt_f q
      have c3 : lst p (k + 1) = lst p k := lst_f q
      have c2 : fst p (k + 1) = fst p k := fst_f q
      rw [c1, c2, c3]
      simp only [if_neg q]
      simp (disch := omega) only [n_0, n_1, n_2, n_3, n_4, n_5, n_6, n_7, n_8, n_9, n_10, n_12, n_13, n_16, n_30, n_60, n_61, n_86, n_99, n_100, n_200, n_201, n_1023, n_65535, n_10000, n_1000000, ↓q_m1, ↓q_m2, ↓q_m3, ↓q_m4, ↓q_m5, ↓q_m6, ↓q_m7, ↓q_m8, ↓q_m1000, ↓q_m100000, q_add, q_addm, q_inB, q_cl, q_le, q_lt, q_eq, q_eqm, q_meq, q_mltT, q_ltm, q_lem, q_mleT, if_true, if_false, if_pos, if_neg, Nat.reduceAdd, Nat.reduceMul, Nat.add_zero, Nat.zero_add, Nat.one_mul, not_true_eq_false, not_false_eq_true, u_row, u_self, u_ne, cb_bi, cb_bv, cb_bl]
      exact ⟨M3, rfl, hK.trans k3, i1, i2, i3⟩)
  refine ⟨M1, ?_, hK, i1, i2, i3⟩
  unfold f30
  simp only [n_0, ↓q_m1, n_1]
  refine Eq.trans e1 ?_
  rw [f30_18]
  simp (disch := omega) only [n_0, n_1, n_2, n_3, n_4, n_5, n_6, n_7, n_8, n_9, n_10, n_12, n_13, n_16, n_30, n_60, n_61, n_86, n_99, n_100, n_200, n_201, n_1023, n_65535, n_10000, n_1000000, ↓q_m1, ↓q_m2, ↓q_m3, ↓q_m4, ↓q_m5, ↓q_m6, ↓q_m7, ↓q_m8, ↓q_m1000, ↓q_m100000, q_add, q_addm, q_inB, q_cl, q_le, q_lt, q_eq, q_eqm, q_meq, q_mltT, q_ltm, q_lem, q_mleT, if_true, if_false, if_pos, if_neg, Nat.reduceAdd, Nat.reduceMul, Nat.add_zero, Nat.zero_add, Nat.one_mul, not_true_eq_false, not_false_eq_true, u_row, u_self, u_ne, cb_bi, cb_bv, cb_bl]
theorem kR.u {M : aM} {j : Nat} {v : Int32} (h5 : j ≠ 5) (h12 : j ≠ 12) (h13 : j ≠ 13) : kR M (am_u M.1 205 j v, M.2) := ⟨fun a q _ => u_row q, ⟨u_ne (Ne.symm h5), u_ne (Ne.symm h12), u_ne (Ne.symm h13)⟩, fun _ _ _ => rfl⟩
/-- what the model lays -/
def fLs (M : aM) (p : Nat → Bool) (k : Nat) : Prop := M.1 205 39 = nI (cnt p k) ∧ ∃ F : Nat → Nat, (∀ i, i < cnt p k → M.1 226 i = nI (F i) ∧ M.1 227 (13 * i) = nI (F i) ∧ 1 ≤ F i ∧ F i ≤ k) ∧ (∀ i j, i < j → j < cnt p k → F i < F j) ∧ (cnt p k = 0 → fst p k = none ∧ lst p k = none) ∧ (0 < cnt p k → su (fst p k) = some (F 0) ∧ lst p k = some (F (cnt p k - 1)))
theorem cnt_le (p : Nat → Bool) : ∀ k, cnt p k ≤ k
  | 0 => Nat.le_refl _
  | k + 1 => by
    have := cnt_le p k
    show cnt p k + (if p k = true then 1 else 0) ≤ k + 1
    split <;> omega
theorem m_lay {z : Nat} (hz : 2000 ≤ z) {M : aM} {W : cW} (hW : wf W) {s n m t : Nat} {N : Nat → Int64} (hs : s < 4) (hD : sD M s n N) (hm : n = 3 * m) (hok : fst (bdT W N) m = none) (ht : t < W 0 4) (hF : mF M W) :
    ∃ M', f287_32 z z (nI s) (nI t) (nI 1) (am_u M.1 205 39 (nI 0), M.2) = some (some (.inl (nI 0)), M') ∧ kR M M' ∧ fLs M' (ftB W N m t) 60 ∧ rM (M'.1 206) W := by
  have hT : W 0 4 ≤ 16 := hW.2.2.2.2.1
  have hY0 : W 0 0 ≤ 12 := hW.1
  obtain ⟨p, hp⟩ : ∃ p, p = ftB W N m t := ⟨_, rfl⟩
  rw [← hp]
  have kS : ∀ (M : aM) (a j : Nat) (v : Int32), (a = 226 ∨ a = 227 ∨ a = 212) → kR M (am_u M.1 a j v, M.2) := fun M a j v ha => kR.fx (S := fun b => b = a) (Fx.w Fx.id0 rfl) (fun a q => by unfold Sc; omega)
  have k39 : ∀ (M : aM) (v : Int32), kR M (am_u M.1 205 39 v, M.2) := fun M v => kR.u (by decide) (by decide) (by decide)
  obtain ⟨n1, M1, e1, hK, hI, hL⟩ := lr0 (fun n k M' => f287_32 z n (nI s) (nI t) (nI (k + 1)) M') 60 (fun k M' => kR M M' ∧ mT M' W t ∧ fLs M' p k) z (am_u M.1 205 39 (nI 0), M.2) (by omega) ⟨k39 _ _, ⟨by simp (disch := omega) only [u_row]; exact hF.1, by simp (disch := omega) only [u_ne]; exact hF.2.1, by simp (disch := omega) only [u_ne]; exact hF.2.2.1, by simp (disch := omega) only [u_ne]; exact hF.2.2.2.1, fun i hi _ => by simp (disch := omega) only [u_row]; exact hF.2.2.2.2 i hi⟩, by simp only [u_self]; rfl, fun _ => 0, fun i hi => by exact absurd hi (by show ¬ i < 0; omega), fun i j _ hj => by exact absurd hj (by show ¬ j < 0; omega), fun _ => ⟨rfl, rfl⟩, fun q => by exact absurd q (by show ¬ 0 < 0; omega)⟩ (by
    intro n' k M' hk hI
    obtain ⟨hK, hI, i39, F, f1, f2, f3, f4⟩ := hI
    have hcl := cnt_le p k
    have hKu : kR M' (am_u M'.1 212 t (nI (k + 1)), M'.2) := kS _ _ _ _ (.inr (.inr rfl))
    have hIu : mT (am_u M'.1 212 t (nI (k + 1)), M'.2) W t := by
      refine ⟨?_, ?_, ?_, ?_, ?_⟩
      · simp (disch := omega) only [u_row]; exact hI.1
      · simp (disch := omega) only [u_row]; exact hI.2.1
      · simp (disch := omega) only [u_row]; exact hI.2.2.1
      · simp (disch := omega) only [u_row]; exact hI.2.2.2.1
      · intro i hi hne
        simp (disch := omega) only [u_ne]; exact hI.2.2.2.2 i hi hne
    obtain ⟨M2, a1, a2, a3⟩ := m_goAll hz (M := (am_u M'.1 212 t (nI (k + 1)), M'.2)) (law := W 0 1) (s := up (hT0 W) t (k + 1)) (gn := nB) (hd := nB) hIu.1 hW hIu.2.1 hW.2.1 (by rw [hIu.2.2.1]; exact hB_65535) (by rw [hIu.2.2.2.1]; exact hB_1023) (up_b (hT0_b hW) (by omega)) (fun i hi => by
      simp only [u_at, up]
      by_cases q : i = t
      · rw [if_pos q, if_pos q]
      · rw [if_neg q, if_neg q]; exact hI.2.2.2.2 i hi q)
    have k2 : kR M' M2 := hKu.trans (kR.ofA (kA.ofG a2))
    have hD2 := hD.k hs (hK.trans k2)
    have e286 := m_agrees (z := z) hz hW hs hD2 hm hok a3
    have ep : p k = (fst (agB N (lv W (W 0 1) nB nB (up (hT0 W) t (k + 1)))) m).isNone := by rw [hp]; rfl
    rw [isN, ← ep] at e286
    have r226 : M2.1 226 = M'.1 226 := by
      rw [a2.1.2 226 (by unfold gF; omega)]
      simp (disch := omega) only [u_row]
    have r227 : M2.1 227 = M'.1 227 := by
      rw [a2.1.2 227 (by unfold gF; omega)]
      simp (disch := omega) only [u_row]
    have j39 : M2.1 205 39 = nI (cnt p k) := by
      rw [a2.2 39 (by omega)]
      simp (disch := omega) only [u_row]
      exact i39
    have hT2 : mT M2 W t := hIu.g a2
    have ef : f286 z (nI s) (am_u M'.1 212 t (nI (k + 1)), M'.2) = some (some (.inl (nI (if p k = true then 1 else 0))), M2) := by
      unfold f286
      rw [a1, cb_bv, n_0]
      exact e286
    have hy0 : lv W (W 0 1) nB nB (up (hT0 W) t (k + 1)) 0 t = k + 1 := by
      rw [lv_0 hW]
      show (if nB t = true then 0 else up (hT0 W) t (k + 1) t) = k + 1
      rw [if_neg (by unfold nB; decide), up_self]
    generalize lv W (W 0 1) nB nB (up (hT0 W) t (k + 1)) = Y at *
    rw [f287_32]
    simp (disch := omega) only [n_0, n_1, n_2, n_3, n_4, n_5, n_6, n_7, n_8, n_9, n_10, n_12, n_13, n_16, n_30, n_60, n_61, n_86, n_99, n_100, n_200, n_201, n_1023, n_65535, n_10000, n_1000000, ↓q_m1, ↓q_m2, ↓q_m3, ↓q_m4, ↓q_m5, ↓q_m6, ↓q_m7, ↓q_m8, ↓q_m1000, ↓q_m100000, q_add, q_addm, q_inB, q_cl, q_le, q_lt, q_eq, q_eqm, q_meq, q_mltT, q_ltm, q_lem, q_mleT, if_true, if_false, if_pos, if_neg, Nat.reduceAdd, Nat.reduceMul, Nat.add_zero, Nat.zero_add, Nat.one_mul, not_true_eq_false, not_false_eq_true, u_row, u_self, u_ne, cb_bi, cb_bv, cb_bl, ef]
    by_cases q : p k = true
    · simp (disch := omega) only [if_pos q, n_0, n_1, n_2, n_3, n_4, n_5, n_6, n_7, n_8, n_9, n_10, n_12, n_13, n_16, n_30, n_60, n_61, n_86, n_99, n_100, n_200, n_201, n_1023, n_65535, n_10000, n_1000000, ↓q_m1, ↓q_m2, ↓q_m3, ↓q_m4, ↓q_m5, ↓q_m6, ↓q_m7, ↓q_m8, ↓q_m1000, ↓q_m100000, q_add, q_addm, q_inB, q_cl, q_le, q_lt, q_eq, q_eqm, q_meq, q_mltT, q_ltm, q_lem, q_mleT, if_true, if_false, if_pos, if_neg, Nat.reduceAdd, Nat.reduceMul, Nat.add_zero, Nat.zero_add, Nat.one_mul, not_true_eq_false, not_false_eq_true, u_row, u_self, u_ne, cb_bi, cb_bv, cb_bl, j39]
      have c1 : cnt p (k + 1) = cnt p k + 1 := cnt_t q
      have c3 : lst p (k + 1) = some (k + 1) := lst_t q
      generalize hc : cnt p k = C at *
      have k3 : kR M2 (am_u M2.1 226 C (nI (k + 1)), M2.2) := kS _ _ _ _ (.inl rfl)
      have hT3 : mT (am_u M2.1 226 C (nI (k + 1)), M2.2) W t := by
        refine ⟨?_, ?_, ?_, ?_, ?_⟩
        · simp (disch := omega) only [u_row]; exact hT2.1
        · simp (disch := omega) only [u_row]; exact hT2.2.1
        · simp (disch := omega) only [u_row]; exact hT2.2.2.1
        · simp (disch := omega) only [u_row]; exact hT2.2.2.2.1
        · simp (disch := omega) only [u_row]; exact hT2.2.2.2.2
      obtain ⟨n2, M4, e4, hX, g1, g2⟩ := lr0 (fun n j M' => f287_72 z (f287_32 z n') n (nI s) (nI t) (nI (k + 1)) (nI j) M') (W 0 0 + 1) (fun j M4 => Fx (fun a => a = 227) (am_u M2.1 226 C (nI (k + 1)), M2.2) M4 ∧ (∀ y, y < j → M4.1 227 (13 * C + y) = nI (Y y t)) ∧ (∀ i, i < 13 * C → M4.1 227 i = M2.1 227 i)) z (am_u M2.1 226 C (nI (k + 1)), M2.2) (by omega) ⟨Fx.id0, fun y hy => by omega, fun i _ => by simp (disch := omega) only [u_row]⟩ (by
        intro n3 j M5 hj hJ
        obtain ⟨hX, g1, g2⟩ := hJ
        have r5 : rM (M5.1 206) W := by rw [hX.2 206 (by decide)]; exact hT3.1
        have x39 : M5.1 205 39 = nI C := by rw [hX.2 205 (by decide)]; simp (disch := omega) only [u_row]; exact j39
        have e27 : f227 z (nI t) (nI j) M5 = some (some (.inl (nI (Y j t))), M5) := by
          unfold f227
          have h218 : M5.1 218 = M2.1 218 := by rw [hX.2 218 (by decide)]; simp (disch := omega) only [u_row]
          simp (disch := omega) only [n_0, n_1, n_2, n_3, n_4, n_5, n_6, n_7, n_8, n_9, n_10, n_12, n_13, n_16, n_30, n_60, n_61, n_86, n_99, n_100, n_200, n_201, n_1023, n_65535, n_10000, n_1000000, ↓q_m1, ↓q_m2, ↓q_m3, ↓q_m4, ↓q_m5, ↓q_m6, ↓q_m7, ↓q_m8, ↓q_m1000, ↓q_m100000, q_add, q_addm, q_inB, q_cl, q_le, q_lt, q_eq, q_eqm, q_meq, q_mltT, q_ltm, q_lem, q_mleT, if_true, if_false, if_pos, if_neg, Nat.reduceAdd, Nat.reduceMul, Nat.add_zero, Nat.zero_add, Nat.one_mul, not_true_eq_false, not_false_eq_true, u_row, u_self, u_ne, cb_bi, cb_bv, cb_bl, q_mul, h218, a3.1 j hj t ht]
        rw [f287_72, g176 r5, cb_bi, if_neg (show ¬ nI (W 0 0) < nI j by rw [q_lt (by omega) (by omega)]; omega), e27, cb_bi, x39]
        simp (disch := omega) only [n_0, n_1, n_2, n_3, n_4, n_5, n_6, n_7, n_8, n_9, n_10, n_12, n_13, n_16, n_30, n_60, n_61, n_86, n_99, n_100, n_200, n_201, n_1023, n_65535, n_10000, n_1000000, ↓q_m1, ↓q_m2, ↓q_m3, ↓q_m4, ↓q_m5, ↓q_m6, ↓q_m7, ↓q_m8, ↓q_m1000, ↓q_m100000, q_add, q_addm, q_inB, q_cl, q_le, q_lt, q_eq, q_eqm, q_meq, q_mltT, q_ltm, q_lem, q_mleT, if_true, if_false, if_pos, if_neg, Nat.reduceAdd, Nat.reduceMul, Nat.add_zero, Nat.zero_add, Nat.one_mul, not_true_eq_false, not_false_eq_true, u_row, u_self, u_ne, cb_bi, cb_bv, cb_bl, q_mul]
        refine ⟨_, rfl, Fx.w hX rfl, ?_, ?_⟩
        · intro y hy
          simp only [u_at]
          by_cases e : y = j
          · rw [if_pos (by omega), e]
          · rw [if_neg (by omega)]; exact g1 y (by omega)
        · intro i hi
          simp only [u_at]
          rw [if_neg (by omega)]; exact g2 i hi)
      have r4 : rM (M4.1 206) W := by rw [hX.2 206 (by decide)]; exact hT3.1
      have x39 : M4.1 205 39 = nI C := by rw [hX.2 205 (by decide)]; simp (disch := omega) only [u_row]; exact j39
      have x226 : M4.1 226 = am_u M2.1 226 C (nI (k + 1)) 226 := hX.2 226 (by decide)
      rw [e4, f287_72, g176 r4, cb_bi, if_pos (show nI (W 0 0) < nI (W 0 0 + 1) by rw [q_lt (by omega) (by omega)]; omega), x39, n_1, q_add, q_add]
      refine ⟨_, rfl, (((hK.trans k2).trans k3).trans (kR.fx hX (fun a q => by unfold Sc; omega))).trans (k39 _ _), ?_, ?_⟩
      · refine ⟨?_, ?_, ?_, ?_, ?_⟩
        · simp (disch := omega) only [u_row]; exact r4
        · simp (disch := omega) only [u_ne]; rw [hX.2 205 (by decide)]; exact hT3.2.1
        · simp (disch := omega) only [u_ne]; rw [hX.2 205 (by decide)]; exact hT3.2.2.1
        · simp (disch := omega) only [u_ne]; rw [hX.2 205 (by decide)]; exact hT3.2.2.2.1
        · simp (disch := omega) only [u_row]; rw [hX.2 212 (by decide)]; exact hT3.2.2.2.2
      · unfold fLs
        rw [c1, c3]
        refine ⟨by simp only [u_self], up F C (k + 1), ?_, ?_, fun q => by omega, ?_⟩
        · intro i hi
          simp (disch := omega) only [u_row]
          rw [x226, u_at]
          unfold up
          by_cases e : i = C
          · rw [if_pos e, if_pos e, e]
            have := g1 0 (by omega)
            rw [Nat.add_zero, hy0] at this
            exact ⟨rfl, this, by omega, by omega⟩
          · rw [if_neg e, if_neg e]
            obtain ⟨y1, y2, y3, y4⟩ := f1 i (by omega)
            rw [g2 (13 * i) (by omega), r226, r227]
            exact ⟨y1, y2, y3, by omega⟩
        · intro i j hij hj
          unfold up
          by_cases e : j = C
          · rw [if_pos e, if_neg (show ¬ i = C by omega)]
            have := (f1 i (by omega)).2.2.2
            omega
          · rw [if_neg e, if_neg (show ¬ i = C by omega)]
            exact f2 i j hij (by omega)
        · intro _
          refine ⟨?_, ?_⟩
          · by_cases c0 : C = 0
            · have h0 := (f3 c0).1
              have c2 : fst p (k + 1) = some k := fst_t0 h0 q
              rw [c2, c0]
              show some (k + 1) = some (up F 0 (k + 1) 0)
              rw [up_self]
            · have h0 := (f4 (by omega)).1
              cases hf : fst p k with
              | none => rw [hf] at h0; cases h0
              | some j =>
                have c2 : fst p (k + 1) = some j := fst_k hf
                rw [c2, ← hf, h0, up_ne F (show 0 ≠ C by omega)]
          · rw [Nat.add_sub_cancel, up_self]
    · have c1 : cnt p (k + 1) = cnt p k := cnt_f q
      have c3 : lst p (k + 1) = lst p k := lst_f q
      have c2 : fst p (k + 1) = fst p k := fst_f q
      simp only [if_neg q]
      simp (disch := omega) only [n_0, n_1, n_2, n_3, n_4, n_5, n_6, n_7, n_8, n_9, n_10, n_12, n_13, n_16, n_30, n_60, n_61, n_86, n_99, n_100, n_200, n_201, n_1023, n_65535, n_10000, n_1000000, ↓q_m1, ↓q_m2, ↓q_m3, ↓q_m4, ↓q_m5, ↓q_m6, ↓q_m7, ↓q_m8, ↓q_m1000, ↓q_m100000, q_add, q_addm, q_inB, q_cl, q_le, q_lt, q_eq, q_eqm, q_meq, q_mltT, q_ltm, q_lem, q_mleT, if_true, if_false, if_pos, if_neg, Nat.reduceAdd, Nat.reduceMul, Nat.add_zero, Nat.zero_add, Nat.one_mul, not_true_eq_false, not_false_eq_true, u_row, u_self, u_ne, cb_bi, cb_bv, cb_bl]
      refine ⟨M2, rfl, hK.trans k2, hT2, ?_⟩
      unfold fLs
      rw [c1, c2, c3, r226, r227]
      exact ⟨j39, F, fun i hi => ⟨(f1 i hi).1, (f1 i hi).2.1, (f1 i hi).2.2.1, by have := (f1 i hi).2.2.2; omega⟩, f2, f3, f4⟩)
  refine ⟨M1, ?_, hK, hL, hI.1⟩
  refine Eq.trans e1 ?_
  rw [f287_32]
  simp (disch := omega) only [n_0, n_1, n_2, n_3, n_4, n_5, n_6, n_7, n_8, n_9, n_10, n_12, n_13, n_16, n_30, n_60, n_61, n_86, n_99, n_100, n_200, n_201, n_1023, n_65535, n_10000, n_1000000, ↓q_m1, ↓q_m2, ↓q_m3, ↓q_m4, ↓q_m5, ↓q_m6, ↓q_m7, ↓q_m8, ↓q_m1000, ↓q_m100000, q_add, q_addm, q_inB, q_cl, q_le, q_lt, q_eq, q_eqm, q_meq, q_mltT, q_ltm, q_lem, q_mleT, if_true, if_false, if_pos, if_neg, Nat.reduceAdd, Nat.reduceMul, Nat.add_zero, Nat.zero_add, Nat.one_mul, not_true_eq_false, not_false_eq_true, u_row, u_self, u_ne, cb_bi, cb_bv, cb_bl]
