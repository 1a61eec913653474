/-! ===== the class's cloth in memory ===== -/
def hI (n : Nat) : Int32 := if n = 8 then mI else nI n
theorem hI_8 : hI 8 = mI := rfl
theorem hI_n {n : Nat} (h : n ≠ 8) : hI n = nI n := if_neg h
def oI : Option Nat → Int32
  | none => mI
  | some n => nI n
theorem oI_n : oI none = mI := rfl
theorem oI_s (n : Nat) : oI (some n) = nI n := rfl
def bg (W : cW) : Nat → Nat
  | 0 => 0
  | c + 1 => bg W c + (thr W c).length
theorem bg_aux (f : Nat → Nat) (c : Nat) : ∀ l : List Nat, (l.filter (fun t => decide (f t < c + 1))).length = (l.filter (fun t => decide (f t < c))).length + (l.filter (fun t => f t == c)).length
  | [] => rfl
  | t :: l => by
    have ih := bg_aux f c l
    simp only [List.filter_cons, decide_eq_true_eq, beq_iff_eq]
    by_cases h1 : f t < c
    · rw [if_pos (by omega), if_pos h1, if_neg (by omega)]
      simp only [List.length_cons]
      omega
    · by_cases h2 : f t = c
      · rw [if_pos (by omega), if_neg h1, if_pos h2]
        simp only [List.length_cons]
        omega
      · rw [if_neg (by omega), if_neg h1, if_neg h2]
        exact ih
theorem bg_eq (W : cW) : ∀ c, bg W c = ((List.range (W 0 4)).filter (fun t => decide (W 1 t < c))).length
  | 0 => by
    show 0 = _
    rw [List.filter_eq_nil_iff.mpr (by simp)]
    rfl
  | c + 1 => by
    rw [bg_aux, ← bg_eq W c]
    rfl
theorem bg_le (W : cW) (c : Nat) : bg W c ≤ W 0 4 := by
  rw [bg_eq]
  have := List.length_filter_le (fun t => decide (W 1 t < c)) (List.range (W 0 4))
  rw [List.length_range] at this
  exact this
theorem bg_s (W : cW) (c : Nat) : bg W (c + 1) = bg W c + (thr W c).length := rfl
def rC (M : aM) (c : Nat) (W : cW) : Prop :=
  (M.1 c 0 = nI (W 0 7) ∧ M.1 c 1 = nI (W 0 0) ∧ M.1 c 2 = nI (W 0 1) ∧ M.1 c 3 = nI (W 0 2) ∧ M.1 c 4 = nI (W 0 3) ∧ M.1 c 5 = nI (W 0 4) ∧ M.1 c 6 = nI (W 0 5))
  ∧ (∀ t, t < W 0 4 → M.1 (c + 1) t = nI (W 1 t) ∧ M.1 (c + 2) t = hI (W 2 t) ∧ M.1 (c + 3) t = nI (W 3 t))
  ∧ (∀ q, q < W 0 5 → M.1 (c + 4) q = nI (W 4 q) ∧ M.1 (c + 5) q = nI (W 5 q) ∧ M.1 (c + 6) q = nI (W 6 q))
  ∧ (∀ k, k ≤ 8 → M.1 (c + 8) k = nI (bg W k))
  ∧ (∀ k i, k < 8 → i < (thr W k).length → M.1 (c + 7) (bg W k + i) = nI ((thr W k).getD i 0))
  ∧ M.1 (c + 9) 0 = nI (W 0 6)
  ∧ (∀ i, i < W 0 6 → M.1 (c + 10) i = nI (W 7 i) ∧ M.1 (c + 11) i = nI (W 8 i) ∧ M.1 (c + 12) i = nI (W 9 i) ∧ M.1 (c + 13) i = nI (W 10 i))
theorem rC.of {M M' : aM} {c : Nat} {W : cW} (h : rC M c W) (he : ∀ a, c ≤ a → a < c + 14 → M'.1 a = M.1 a) : rC M' c W := by
  unfold rC at h ⊢
  rw [he c (by omega) (by omega), he (c + 1) (by omega) (by omega), he (c + 2) (by omega) (by omega), he (c + 3) (by omega) (by omega), he (c + 4) (by omega) (by omega), he (c + 5) (by omega) (by omega), he (c + 6) (by omega) (by omega), he (c + 7) (by omega) (by omega), he (c + 8) (by omega) (by omega), he (c + 9) (by omega) (by omega), he (c + 10) (by omega) (by omega), he (c + 11) (by omega) (by omega), he (c + 12) (by omega) (by omega), he (c + 13) (by omega) (by omega)]
  exact h
theorem rC.fx {S : Nat → Prop} {M M' : aM} {W : cW} (h : rC M 18 W) (hF : Fx S M M') (hS : ∀ a, S a → 32 ≤ a) : rC M' 18 W :=
  h.of (fun a _ h2 => hF.2 a (fun q => by have := hS a q; omega))
theorem rC.i0 {M : aM} {W : cW} (h : rC M 18 W) : M.1 18 0 = nI (W 0 7) := h.1.1
theorem rC.i1 {M : aM} {W : cW} (h : rC M 18 W) : M.1 18 1 = nI (W 0 0) := h.1.2.1
theorem rC.i2 {M : aM} {W : cW} (h : rC M 18 W) : M.1 18 2 = nI (W 0 1) := h.1.2.2.1
theorem rC.i3 {M : aM} {W : cW} (h : rC M 18 W) : M.1 18 3 = nI (W 0 2) := h.1.2.2.2.1
theorem rC.i4 {M : aM} {W : cW} (h : rC M 18 W) : M.1 18 4 = nI (W 0 3) := h.1.2.2.2.2.1
theorem rC.i5 {M : aM} {W : cW} (h : rC M 18 W) : M.1 18 5 = nI (W 0 4) := h.1.2.2.2.2.2.1
theorem rC.i6 {M : aM} {W : cW} (h : rC M 18 W) : M.1 18 6 = nI (W 0 5) := h.1.2.2.2.2.2.2
theorem rC.fr {M : aM} {W : cW} (h : rC M 18 W) {t : Nat} (ht : t < W 0 4) : M.1 19 t = nI (W 1 t) := (h.2.1 t ht).1
theorem rC.to {M : aM} {W : cW} (h : rC M 18 W) {t : Nat} (ht : t < W 0 4) : M.1 20 t = hI (W 2 t) := (h.2.1 t ht).2.1
theorem rC.ho {M : aM} {W : cW} (h : rC M 18 W) {t : Nat} (ht : t < W 0 4) : M.1 21 t = nI (W 3 t) := (h.2.1 t ht).2.2
theorem rC.qc {M : aM} {W : cW} (h : rC M 18 W) {q : Nat} (ht : q < W 0 5) : M.1 22 q = nI (W 4 q) := (h.2.2.1 q ht).1
theorem rC.qp {M : aM} {W : cW} (h : rC M 18 W) {q : Nat} (ht : q < W 0 5) : M.1 23 q = nI (W 5 q) := (h.2.2.1 q ht).2.1
theorem rC.qy {M : aM} {W : cW} (h : rC M 18 W) {q : Nat} (ht : q < W 0 5) : M.1 24 q = nI (W 6 q) := (h.2.2.1 q ht).2.2
theorem rC.bv {M : aM} {W : cW} (h : rC M 18 W) {k : Nat} (hk : k ≤ 8) : M.1 26 k = nI (bg W k) := h.2.2.2.1 k hk
theorem rC.so {M : aM} {W : cW} (h : rC M 18 W) {k i : Nat} (hk : k < 8) (hi : i < (thr W k).length) : M.1 25 (bg W k + i) = nI ((thr W k).getD i 0) := h.2.2.2.2.1 k i hk hi
theorem rC.na {M : aM} {W : cW} (h : rC M 18 W) : M.1 27 0 = nI (W 0 6) := h.2.2.2.2.2.1
theorem rC.ak {M : aM} {W : cW} (h : rC M 18 W) {i : Nat} (hi : i < W 0 6) : M.1 28 i = nI (W 7 i) := (h.2.2.2.2.2.2 i hi).1
theorem rC.aa {M : aM} {W : cW} (h : rC M 18 W) {i : Nat} (hi : i < W 0 6) : M.1 29 i = nI (W 8 i) := (h.2.2.2.2.2.2 i hi).2.1
theorem rC.an {M : aM} {W : cW} (h : rC M 18 W) {i : Nat} (hi : i < W 0 6) : M.1 30 i = nI (W 9 i) := (h.2.2.2.2.2.2 i hi).2.2.1
theorem rC.ay {M : aM} {W : cW} (h : rC M 18 W) {i : Nat} (hi : i < W 0 6) : M.1 31 i = nI (W 10 i) := (h.2.2.2.2.2.2 i hi).2.2.2
/-- the k-th thread of a claim -/
theorem th_at {W : cW} {c k : Nat} (h : k < (thr W c).length) : (thr W c).getD k 0 < W 0 4 ∧ W 1 ((thr W c).getD k 0) = c ∧ (thr W c).getD k 0 ∈ thr W c := by
  have e : (thr W c).getD k 0 = (thr W c)[k] := by rw [List.getD_eq_getElem?_getD, List.getElem?_eq_getElem h]; rfl
  have hm : (thr W c).getD k 0 ∈ thr W c := by rw [e]; exact List.getElem_mem h
  exact ⟨(thr_mem.mp hm).1, (thr_mem.mp hm).2, hm⟩
theorem th_take {W : cW} {c k : Nat} (h : k < (thr W c).length) : (thr W c).take (k + 1) = (thr W c).take k ++ [(thr W c).getD k 0] := by
  have e : (thr W c).getD k 0 = (thr W c)[k] := by rw [List.getD_eq_getElem?_getD, List.getElem?_eq_getElem h]; rfl
  rw [e]
  exact (List.take_append_getElem h).symm
theorem th_new {W : cW} {c k : Nat} (h : k < (thr W c).length) : (thr W c).getD k 0 ∉ (thr W c).take k := by
  have h1 := thr_nodup W c
  rw [← List.take_append_drop (k + 1) (thr W c), th_take h, List.append_assoc] at h1
  have h2 := (List.nodup_append.mp h1).2.2
  intro q
  exact h2 _ q _ (List.mem_append.mpr (.inl (List.mem_singleton.mpr rfl))) rfl
/-- survey -/
theorem c_survey {z : Nat} (hz : 2000 ≤ z) {M : aM} {W : cW} {s : Nat → Nat} {u r c : Nat} (hW : wf W) (hC : rC M 18 W) (hu : 32 ≤ u) (hr : 32 ≤ r) (hne : r ≠ u) (hc : c < 8) (hs : ∀ t, t < W 0 4 → M.1 r t = nI (s t)) (hb : ∀ t, s t ≤ 1000) :
    ∃ M', f59 z u 18 r (nI c) M = some (none, M') ∧ Fx (fun a => a = u) M M' ∧ M'.1 u 6 = nI (nW s (thr W c)) ∧ M'.1 u 7 = nI (ws s s (thr W c)) ∧ M'.1 u 8 = oI (mx s 99 (thr W c)) ∧ M'.1 u 9 = oI (m2 s (thr W c)) ∧ (∀ j, j < 6 → M'.1 u j = M.1 u j) := by
  have hT : W 0 4 ≤ 16 := hW.2.2.2.2.1
  have hbl := bg_le W (c + 1)
  rw [bg_s] at hbl
  unfold f59 f59_20
  simp (disch := omega) only [n_0, n_1, n_2, n_3, n_4, n_5, n_6, n_7, n_8, n_9, n_10, n_12, n_13, n_16, n_30, n_60, n_61, n_86, n_99, n_100, n_200, n_201, n_1023, n_65535, n_10000, n_1000000, ↓q_m1, q_add, q_addm, q_inB, q_cl, q_le, q_lt, q_eq, q_eqm, q_meq, q_mltT, q_ltm, q_lem, q_mleT, if_true, if_false, if_pos, if_neg, Nat.reduceAdd, Nat.reduceMul, Nat.add_zero, Nat.zero_add, not_true_eq_false, not_false_eq_true, u_row, u_self, u_ne, cb_bi, cb_bv, cb_bl, hC.bv]
  refine lk0 (L := fun n k M' => f59_28 z n u 18 r (nI c) (nI (bg W c + k)) M') (N := (thr W c).length) (Inv := fun k M' => Fx (fun a => a = u) M M' ∧ M'.1 u 6 = nI (nW s ((thr W c).take k)) ∧ M'.1 u 7 = nI (ws s s ((thr W c).take k)) ∧ M'.1 u 8 = oI (mx s 99 ((thr W c).take k)) ∧ M'.1 u 9 = oI (m2 s ((thr W c).take k)) ∧ (∀ j, j < 6 → M'.1 u j = M.1 u j)) (P := fun o => ∃ M', o = some (none, M') ∧ Fx (fun a => a = u) M M' ∧ M'.1 u 6 = nI (nW s (thr W c)) ∧ M'.1 u 7 = nI (ws s s (thr W c)) ∧ M'.1 u 8 = oI (mx s 99 (thr W c)) ∧ M'.1 u 9 = oI (m2 s (thr W c)) ∧ (∀ j, j < 6 → M'.1 u j = M.1 u j)) z _ (by omega) ?_ ?_ ?_
  · refine ⟨Fx.w (Fx.w (Fx.w (Fx.w Fx.id0 rfl) rfl) rfl) rfl, ?_, ?_, ?_, ?_, ?_⟩
    · simp (disch := omega) only [u_ne, u_self]; rfl
    · simp (disch := omega) only [u_ne, u_self]; rfl
    · simp (disch := omega) only [u_ne, u_self]; rfl
    · simp (disch := omega) only [u_ne, u_self]; rfl
    · intro j hj
      simp (disch := omega) only [u_ne]
  · intro n k M' hk hI
    obtain ⟨hF, h6, h7, h8, h9, hj⟩ := hI
    have hC' := hC.fx hF (fun a q => by omega)
    obtain ⟨ht, htc, htm⟩ := th_at hk
    have hso := hC'.so hc hk
    have hst : ∀ t, t < W 0 4 → M'.1 r t = nI (s t) := fun t ht => by rw [hF.2 r (fun q => hne q)]; exact hs _ ht
    have hstep := m2_step (s := s) (th_new hk) (by omega) (fun t h => thr_ne99 hW (List.mem_of_mem_take h))
    rw [← th_take hk] at hstep
    have hn6 : nW s ((thr W c).take (k + 1)) = nW s ((thr W c).take k) + (if 0 < s ((thr W c).getD k 0) then 1 else 0) := by
      rw [th_take hk, nW_app]; rfl
    have hn7 : ws s s ((thr W c).take (k + 1)) = ws s s ((thr W c).take k) + (if 0 < s ((thr W c).getD k 0) then s ((thr W c).getD k 0) else 0) := by
      rw [th_take hk, ws_app]; rfl
    have hmm : ∀ b, mx s 99 ((thr W c).take k) = some b → b < W 0 4 := fun b e => (thr_mem.mp (List.mem_of_mem_take (mx_mem e).1)).1
    have hm2 : ∀ d, m2 s ((thr W c).take k) = some d → d < W 0 4 := fun d e => by
      cases hb1 : mx s 99 ((thr W c).take k) with
      | none => unfold m2 at e; rw [hb1] at e; cases e
      | some b => exact (thr_mem.mp (List.mem_of_mem_take (m2_mem hb1 e).1)).1
    generalize (thr W c).getD k 0 = t at *
    have e8 : mx s 99 ((thr W c).take (k + 1)) = (sv s (mx s 99 ((thr W c).take k), m2 s ((thr W c).take k)) t).1 := by rw [hstep]
    have e9 : m2 s ((thr W c).take (k + 1)) = (sv s (mx s 99 ((thr W c).take k), m2 s ((thr W c).take k)) t).2 := by rw [hstep]
    simp only [hn6, hn7, e8, e9]
    generalize mx s 99 ((thr W c).take k) = o1 at *
    generalize m2 s ((thr W c).take k) = o2 at *
    have hbt := hb t
    rw [f59_28]
    by_cases h0 : 0 < s t
    · unfold sv
      simp only [if_pos h0]
      cases o1 with
      | none =>
        simp only
        simp (disch := omega) only [n_0, n_1, n_2, n_3, n_4, n_5, n_6, n_7, n_8, n_9, n_10, n_12, n_13, n_16, n_30, n_60, n_61, n_86, n_99, n_100, n_200, n_201, n_1023, n_65535, n_10000, n_1000000, ↓q_m1, q_add, q_addm, q_inB, q_cl, q_le, q_lt, q_eq, q_eqm, q_meq, q_mltT, q_ltm, q_lem, q_mleT, if_true, if_false, if_pos, if_neg, Nat.reduceAdd, Nat.reduceMul, Nat.add_zero, Nat.zero_add, not_true_eq_false, not_false_eq_true, u_row, u_self, u_ne, cb_bi, cb_bv, cb_bl, hC'.bv, bg_s, hso, hst, h6, h7, h8, h9, oI_n, oI_s, f59_114]
        refine Lst.go ⟨(Fx.w (Fx.w (Fx.w (Fx.w hF rfl) rfl) rfl) rfl), ?_, ?_, ?_, ?_, ?_⟩
        · simp (disch := omega) only [u_ne, u_self, oI_s, oI_n, h6, h7, h8, h9]
        · simp (disch := omega) only [u_ne, u_self, oI_s, oI_n, h6, h7, h8, h9]
        · simp (disch := omega) only [u_ne, u_self, oI_s, oI_n, h6, h7, h8, h9]
        · simp (disch := omega) only [u_ne, u_self, oI_s, oI_n, h6, h7, h8, h9]
        · intro j hj2
          simp (disch := omega) only [u_ne]
          exact hj j hj2
      | some b =>
        have hb1 := hmm b rfl
        have hbb := hb b
        by_cases h2 : s b < s t
        · simp only [if_pos h2]
          simp (disch := omega) only [n_0, n_1, n_2, n_3, n_4, n_5, n_6, n_7, n_8, n_9, n_10, n_12, n_13, n_16, n_30, n_60, n_61, n_86, n_99, n_100, n_200, n_201, n_1023, n_65535, n_10000, n_1000000, ↓q_m1, q_add, q_addm, q_inB, q_cl, q_le, q_lt, q_eq, q_eqm, q_meq, q_mltT, q_ltm, q_lem, q_mleT, if_true, if_false, if_pos, if_neg, Nat.reduceAdd, Nat.reduceMul, Nat.add_zero, Nat.zero_add, not_true_eq_false, not_false_eq_true, u_row, u_self, u_ne, cb_bi, cb_bv, cb_bl, hC'.bv, bg_s, hso, hst, h6, h7, h8, h9, oI_n, oI_s, f59_114]
          refine Lst.go ⟨(Fx.w (Fx.w (Fx.w (Fx.w hF rfl) rfl) rfl) rfl), ?_, ?_, ?_, ?_, ?_⟩
          · simp (disch := omega) only [u_ne, u_self, oI_s, oI_n, h6, h7, h8, h9]
          · simp (disch := omega) only [u_ne, u_self, oI_s, oI_n, h6, h7, h8, h9]
          · simp (disch := omega) only [u_ne, u_self, oI_s, oI_n, h6, h7, h8, h9]
          · simp (disch := omega) only [u_ne, u_self, oI_s, oI_n, h6, h7, h8, h9]
          · intro j hj2
            simp (disch := omega) only [u_ne]
            exact hj j hj2
        · simp only [if_neg h2]
          cases o2 with
          | none =>
            simp only [stp, if_pos h0]
            simp (disch := omega) only [n_0, n_1, n_2, n_3, n_4, n_5, n_6, n_7, n_8, n_9, n_10, n_12, n_13, n_16, n_30, n_60, n_61, n_86, n_99, n_100, n_200, n_201, n_1023, n_65535, n_10000, n_1000000, ↓q_m1, q_add, q_addm, q_inB, q_cl, q_le, q_lt, q_eq, q_eqm, q_meq, q_mltT, q_ltm, q_lem, q_mleT, if_true, if_false, if_pos, if_neg, Nat.reduceAdd, Nat.reduceMul, Nat.add_zero, Nat.zero_add, not_true_eq_false, not_false_eq_true, u_row, u_self, u_ne, cb_bi, cb_bv, cb_bl, hC'.bv, bg_s, hso, hst, h6, h7, h8, h9, oI_n, oI_s, f59_114]
            refine Lst.go ⟨(Fx.w (Fx.w (Fx.w hF rfl) rfl) rfl), ?_, ?_, ?_, ?_, ?_⟩
            · simp (disch := omega) only [u_ne, u_self, oI_s, oI_n, h6, h7, h8, h9]
            · simp (disch := omega) only [u_ne, u_self, oI_s, oI_n, h6, h7, h8, h9]
            · simp (disch := omega) only [u_ne, u_self, oI_s, oI_n, h6, h7, h8, h9]
            · simp (disch := omega) only [u_ne, u_self, oI_s, oI_n, h6, h7, h8, h9]
            · intro j hj2
              simp (disch := omega) only [u_ne]
              exact hj j hj2
          | some d =>
            have hd1 := hm2 d rfl
            have hbd := hb d
            simp only [stp, if_pos h0]
            by_cases h3 : s d < s t
            · simp only [if_pos h3]
              simp (disch := omega) only [n_0, n_1, n_2, n_3, n_4, n_5, n_6, n_7, n_8, n_9, n_10, n_12, n_13, n_16, n_30, n_60, n_61, n_86, n_99, n_100, n_200, n_201, n_1023, n_65535, n_10000, n_1000000, ↓q_m1, q_add, q_addm, q_inB, q_cl, q_le, q_lt, q_eq, q_eqm, q_meq, q_mltT, q_ltm, q_lem, q_mleT, if_true, if_false, if_pos, if_neg, Nat.reduceAdd, Nat.reduceMul, Nat.add_zero, Nat.zero_add, not_true_eq_false, not_false_eq_true, u_row, u_self, u_ne, cb_bi, cb_bv, cb_bl, hC'.bv, bg_s, hso, hst, h6, h7, h8, h9, oI_n, oI_s, f59_114]
              refine Lst.go ⟨(Fx.w (Fx.w (Fx.w hF rfl) rfl) rfl), ?_, ?_, ?_, ?_, ?_⟩
              · simp (disch := omega) only [u_ne, u_self, oI_s, oI_n, h6, h7, h8, h9]
              · simp (disch := omega) only [u_ne, u_self, oI_s, oI_n, h6, h7, h8, h9]
              · simp (disch := omega) only [u_ne, u_self, oI_s, oI_n, h6, h7, h8, h9]
              · simp (disch := omega) only [u_ne, u_self, oI_s, oI_n, h6, h7, h8, h9]
              · intro j hj2
                simp (disch := omega) only [u_ne]
                exact hj j hj2
            · simp only [if_neg h3]
              simp (disch := omega) only [n_0, n_1, n_2, n_3, n_4, n_5, n_6, n_7, n_8, n_9, n_10, n_12, n_13, n_16, n_30, n_60, n_61, n_86, n_99, n_100, n_200, n_201, n_1023, n_65535, n_10000, n_1000000, ↓q_m1, q_add, q_addm, q_inB, q_cl, q_le, q_lt, q_eq, q_eqm, q_meq, q_mltT, q_ltm, q_lem, q_mleT, if_true, if_false, if_pos, if_neg, Nat.reduceAdd, Nat.reduceMul, Nat.add_zero, Nat.zero_add, not_true_eq_false, not_false_eq_true, u_row, u_self, u_ne, cb_bi, cb_bv, cb_bl, hC'.bv, bg_s, hso, hst, h6, h7, h8, h9, oI_n, oI_s, f59_114]
              refine Lst.go ⟨(Fx.w (Fx.w hF rfl) rfl), ?_, ?_, ?_, ?_, ?_⟩
              · simp (disch := omega) only [u_ne, u_self, oI_s, oI_n, h6, h7, h8, h9]
              · simp (disch := omega) only [u_ne, u_self, oI_s, oI_n, h6, h7, h8, h9]
              · simp (disch := omega) only [u_ne, u_self, oI_s, oI_n, h6, h7, h8, h9]
              · simp (disch := omega) only [u_ne, u_self, oI_s, oI_n, h6, h7, h8, h9]
              · intro j hj2
                simp (disch := omega) only [u_ne]
                exact hj j hj2
    · unfold sv
      simp (disch := omega) only [if_neg h0, Nat.add_zero, n_0, n_1, n_2, n_3, n_4, n_5, n_6, n_7, n_8, n_9, n_10, n_12, n_13, n_16, n_30, n_60, n_61, n_86, n_99, n_100, n_200, n_201, n_1023, n_65535, n_10000, n_1000000, ↓q_m1, q_add, q_addm, q_inB, q_cl, q_le, q_lt, q_eq, q_eqm, q_meq, q_mltT, q_ltm, q_lem, q_mleT, if_true, if_false, if_pos, if_neg, Nat.reduceAdd, Nat.reduceMul, Nat.add_zero, Nat.zero_add, not_true_eq_false, not_false_eq_true, u_row, u_self, u_ne, cb_bi, cb_bv, cb_bl, hC'.bv, bg_s, hso, hst]
      exact Lst.go ⟨hF, h6, h7, h8, h9, hj⟩
  · intro n M' hI
    rw [List.take_length] at hI
    refine ⟨M', ?_, hI⟩
    have hC' := hC.fx hI.1 (fun a q => by omega)
    rw [f59_28]
    simp (disch := omega) only [n_0, n_1, n_2, n_3, n_4, n_5, n_6, n_7, n_8, n_9, n_10, n_12, n_13, n_16, n_30, n_60, n_61, n_86, n_99, n_100, n_200, n_201, n_1023, n_65535, n_10000, n_1000000, ↓q_m1, q_add, q_addm, q_inB, q_cl, q_le, q_lt, q_eq, q_eqm, q_meq, q_mltT, q_ltm, q_lem, q_mleT, if_true, if_false, if_pos, if_neg, Nat.reduceAdd, Nat.reduceMul, Nat.add_zero, Nat.zero_add, not_true_eq_false, not_false_eq_true, u_row, u_self, u_ne, cb_bi, cb_bv, cb_bl, hC'.bv, bg_s]
