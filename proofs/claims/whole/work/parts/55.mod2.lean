/-! ===== the model's pulls, further ===== -/
theorem row_up {M : aM} {a N : Nat} {g : Nat → Nat} {t v : Nat} (h : ∀ i, i < N → M.1 a i = nI (g i)) : ∀ i, i < N → am_u M.1 a t (nI v) a i = nI (up g t v i) := by
  intro i hi
  rw [u_at]
  unfold up
  split
  · rfl
  · exact h i hi
theorem fo_thT {α : Type} (W : cW) (st : α → Nat → α) (p : α) (c k : Nat) : (thT W c (k + 1)).foldl st p = if W 1 k = c then st ((thT W c k).foldl st p) k else (thT W c k).foldl st p := by
  rw [thT_succ, List.foldl_append]
  split <;> rfl
theorem ws_thT (W : cW) (s g : Nat → Nat) (c k : Nat) : ws s g (thT W c (k + 1)) = ws s g (thT W c k) + (if W 1 k = c ∧ 0 < s k then g k else 0) := by
  rw [thT_succ, ws_app]
  by_cases h1 : W 1 k = c
  · rw [if_pos h1]
    by_cases h2 : 0 < s k
    · rw [if_pos ⟨h1, h2⟩]
      show _ + ((if 0 < s k then g k else 0) + 0) = _
      rw [if_pos h2]; rfl
    · rw [if_neg (fun q => h2 q.2)]
      show _ + ((if 0 < s k then g k else 0) + 0) = _
      rw [if_neg h2]
  · rw [if_neg h1, if_neg (fun q => h1 q.1)]; rfl
/-- shareEqually -/
theorem m_equal {z : Nat} (hz : 2000 ≤ z) {M : aM} {W : cW} (h : rM (M.1 206) W) (hW : wf W) {s : Nat → Nat} (hs : ∀ t, t < W 0 4 → M.1 213 t = nI (s t)) (hb : ∀ t, s t ≤ 1000) {c L : Nat} (hc : c < 8) (hL : L ≤ 200) {sh : Nat → Nat} (hsh : ∀ t, t < 16 → M.1 214 t = nI (sh t)) (hm : nW s (thr W c) ≠ 0) (hm2 : nW s (thr W c) ≤ 16) :
    ∃ M', f214 z (nI c) (nI L) (nI (nW s (thr W c))) M = some (none, M') ∧ Fx (fun a => a = 214) M M' ∧ ∀ t, t < 16 → M'.1 214 t = nI (((thr W c).foldl (st0 s L (nW s (thr W c))) (sh, 0)).1 t) := by
  have hT : W 0 4 ≤ 16 := hW.2.2.2.2.1
  generalize nW s (thr W c) = m at *
  unfold f214
  simp only [n_0]
  refine lk0 (L := fun n k M' => f214_6 z n (nI c) (nI L) (nI m) (nI ((thT W c k).foldl (st0 s L m) (sh, 0)).2) (nI k) M') (N := W 0 4) (Inv := fun k M' => Fx (fun a => a = 214) M M' ∧ (∀ t, t < 16 → M'.1 214 t = nI (((thT W c k).foldl (st0 s L m) (sh, 0)).1 t)) ∧ ((thT W c k).foldl (st0 s L m) (sh, 0)).2 ≤ k) (P := fun o => ∃ M', o = some (none, M') ∧ Fx (fun a => a = 214) M M' ∧ ∀ t, t < 16 → M'.1 214 t = nI (((thr W c).foldl (st0 s L m) (sh, 0)).1 t)) z M (by omega) ⟨Fx.id0, hsh, Nat.le_refl _⟩ ?_ ?_
  · intro n k M' hk hI
    obtain ⟨hF, hr, hq⟩ := hI
    have h' : rM (M'.1 206) W := by rw [hF.2 206 (by decide)]; exact h
    have hs' : ∀ t, t < W 0 4 → M'.1 213 t = nI (s t) := by rw [hF.2 213 (by decide)]; exact hs
    simp only [fo_thT]
    rw [f214_6, g178 h', cb_bi]
    simp (disch := omega) only [n_0, n_1, n_2, n_3, n_4, n_5, n_6, n_7, n_8, n_9, n_10, n_12, n_13, n_16, n_30, n_60, n_61, n_86, n_99, n_100, n_200, n_201, n_1023, n_65535, n_10000, n_1000000, ↓q_m1, q_add, q_addm, q_inB, q_cl, q_le, q_lt, q_eq, q_eqm, q_meq, q_mltT, q_ltm, q_lem, q_mleT, if_true, if_false, if_pos, if_neg, Nat.reduceAdd, Nat.reduceMul, Nat.add_zero, Nat.zero_add, not_true_eq_false, not_false_eq_true, u_row, u_self, u_ne, cb_bi, cb_bv, cb_bl]
    rw [g212 h' hW hs' hb hk hc, cb_bi]
    generalize (thT W c k).foldl (st0 s L m) (sh, 0) = p at *
    have hLm : L % m < m := Nat.mod_lt _ (by omega)
    have hLd : L / m ≤ L := Nat.div_le_self _ _
    by_cases h1 : W 1 k = c ∧ 0 < s k
    · simp only [if_pos h1, if_pos h1.1, st0, if_pos h1.2]
      simp (disch := omega) only [n_0, n_1, n_2, n_3, n_4, n_5, n_6, n_7, n_8, n_9, n_10, n_12, n_13, n_16, n_30, n_60, n_61, n_86, n_99, n_100, n_200, n_201, n_1023, n_65535, n_10000, n_1000000, ↓q_m1, q_add, q_addm, q_inB, q_cl, q_le, q_lt, q_eq, q_eqm, q_meq, q_mltT, q_ltm, q_lem, q_mleT, if_true, if_false, if_pos, if_neg, Nat.reduceAdd, Nat.reduceMul, Nat.add_zero, Nat.zero_add, not_true_eq_false, not_false_eq_true, u_row, u_self, u_ne, cb_bi, cb_bv, cb_bl, q_div, q_mul, q_rem]
      by_cases h2 : p.2 < L % m
      · simp (disch := omega) only [n_0, n_1, n_2, n_3, n_4, n_5, n_6, n_7, n_8, n_9, n_10, n_12, n_13, n_16, n_30, n_60, n_61, n_86, n_99, n_100, n_200, n_201, n_1023, n_65535, n_10000, n_1000000, ↓q_m1, q_add, q_addm, q_inB, q_cl, q_le, q_lt, q_eq, q_eqm, q_meq, q_mltT, q_ltm, q_lem, q_mleT, if_true, if_false, if_pos, if_neg, Nat.reduceAdd, Nat.reduceMul, Nat.add_zero, Nat.zero_add, not_true_eq_false, not_false_eq_true, u_row, u_self, u_ne, cb_bi, cb_bv, cb_bl]
        refine Lst.go ⟨Fx.w hF rfl, row_up hr, by omega⟩
      · simp (disch := omega) only [n_0, n_1, n_2, n_3, n_4, n_5, n_6, n_7, n_8, n_9, n_10, n_12, n_13, n_16, n_30, n_60, n_61, n_86, n_99, n_100, n_200, n_201, n_1023, n_65535, n_10000, n_1000000, ↓q_m1, q_add, q_addm, q_inB, q_cl, q_le, q_lt, q_eq, q_eqm, q_meq, q_mltT, q_ltm, q_lem, q_mleT, if_true, if_false, if_pos, if_neg, Nat.reduceAdd, Nat.reduceMul, Nat.add_zero, Nat.zero_add, not_true_eq_false, not_false_eq_true, u_row, u_self, u_ne, cb_bi, cb_bv, cb_bl]
        refine Lst.go ⟨Fx.w hF rfl, row_up hr, by omega⟩
    · have e3 : (if W 1 k = c then st0 s L m p k else p) = p := by
        split
        · rename_i q1
          exact if_neg (fun q => h1 ⟨q1, q⟩)
        · rfl
      simp only [e3, if_neg h1]
      simp (disch := omega) only [n_0, n_1, n_2, n_3, n_4, n_5, n_6, n_7, n_8, n_9, n_10, n_12, n_13, n_16, n_30, n_60, n_61, n_86, n_99, n_100, n_200, n_201, n_1023, n_65535, n_10000, n_1000000, ↓q_m1, q_add, q_addm, q_inB, q_cl, q_le, q_lt, q_eq, q_eqm, q_meq, q_mltT, q_ltm, q_lem, q_mleT, if_true, if_false, if_pos, if_neg, Nat.reduceAdd, Nat.reduceMul, Nat.add_zero, Nat.zero_add, not_true_eq_false, not_false_eq_true, u_row, u_self, u_ne, cb_bi, cb_bv, cb_bl]
      exact Lst.go ⟨hF, hr, by omega⟩
  · intro n M' hI
    obtain ⟨hF, hr, hq⟩ := hI
    have h' : rM (M'.1 206) W := by rw [hF.2 206 (by decide)]; exact h
    refine ⟨M', ?_, hF, hr⟩
    rw [f214_6, g178 h', cb_bi]
    simp (disch := omega) only [n_0, n_1, n_2, n_3, n_4, n_5, n_6, n_7, n_8, n_9, n_10, n_12, n_13, n_16, n_30, n_60, n_61, n_86, n_99, n_100, n_200, n_201, n_1023, n_65535, n_10000, n_1000000, ↓q_m1, q_add, q_addm, q_inB, q_cl, q_le, q_lt, q_eq, q_eqm, q_meq, q_mltT, q_ltm, q_lem, q_mleT, if_true, if_false, if_pos, if_neg, Nat.reduceAdd, Nat.reduceMul, Nat.add_zero, Nat.zero_add, not_true_eq_false, not_false_eq_true, u_row, u_self, u_ne, cb_bi, cb_bv, cb_bl]
theorem i_sub (a b c : Int32) : a - b - c = a - (b + c) := by
  rw [Int32.sub_eq_add_neg, Int32.sub_eq_add_neg, Int32.sub_eq_add_neg, Int32.neg_add, Int32.add_assoc]
  congr 1
  rw [Int32.sub_eq_add_neg]
theorem st2_row (s : Nat → Nat) (L tt : Nat) (l : List Nat) (p q : (Nat → Nat) × Nat) (h : p.1 = q.1) : (l.foldl (st2 s L tt) p).1 = (l.foldl (st2 s L tt) q).1 := by
  induction l generalizing p q with
  | nil => exact h
  | cons t l ih =>
    show (l.foldl (st2 s L tt) (st2 s L tt p t)).1 = (l.foldl (st2 s L tt) (st2 s L tt q t)).1
    apply ih
    unfold st2
    split
    · simp only [h]
    · exact h
theorem ws_lim (s : Nat → Nat) (hb : ∀ t, s t ≤ 1000) : ∀ l : List Nat, ws s s l ≤ 1000 * l.length
  | [] => by simp [ws]
  | t :: l => by
    have := ws_lim s hb l
    have := hb t
    show (if 0 < s t then s t else 0) + ws s s l ≤ 1000 * (l.length + 1)
    split <;> omega
theorem thr_len {W : cW} (hW : wf W) (c : Nat) : (thr W c).length ≤ 16 := by
  have hT : W 0 4 ≤ 16 := hW.2.2.2.2.1
  have := List.length_filter_le (fun t => W 1 t == c) (List.range (W 0 4))
  rw [List.length_range] at this
  unfold thr
  omega
theorem thT_len (W : cW) (c k : Nat) : (thT W c k).length ≤ k := by
  have := List.length_filter_le (fun t => W 1 t == c) (List.range k)
  rw [List.length_range] at this
  exact this
/-- shareByStrength -/
theorem m_bystr {z : Nat} (hz : 2000 ≤ z) {M : aM} {W : cW} (h : rM (M.1 206) W) (hW : wf W) {s : Nat → Nat} (hs : ∀ t, t < W 0 4 → M.1 213 t = nI (s t)) (hb : ∀ t, s t ≤ 1000) {c L b : Nat} (hc : c < 8) (hL : L ≤ 200) {sh : Nat → Nat} (hsh : ∀ t, t < 16 → M.1 214 t = nI (sh t)) (hbm : mx s 99 (thr W c) = some b) :
    ∃ M', f215 z (nI c) (nI L) (nI b) M = some (none, M') ∧ Fx (fun a => a = 214) M M' ∧ ∀ t, t < 16 → M'.1 214 t = nI (shr 2 s (thr W c) L sh t) := by
  have hT : W 0 4 ≤ 16 := hW.2.2.2.2.1
  have hbb := mx_mem hbm
  have hb16 := (thr_mem.mp hbb.1).1
  have htt : 0 < ws s s (thr W c) := Nat.lt_of_lt_of_le hbb.2.1 (ws_le hbb.1 hbb.2.1)
  have htl := ws_lim s hb (thr W c)
  have htL := thr_len hW c
  have hA : ws s (fun t => s t * L / ws s s (thr W c)) (thr W c) ≤ L := by
    have h4 := ws_div s L (ws s s (thr W c)) (thr W c)
    rw [Nat.mul_comm (ws s s (thr W c)) L] at h4
    exact Nat.le_of_mul_le_mul_right h4 htt
  have hA2 := st2_ws s L (ws s s (thr W c)) (thr W c) (sh, L) (thr_nodup W c)
  have e2 : shr 2 s (thr W c) L sh = up ((thr W c).foldl (st2 s L (ws s s (thr W c))) (sh, L)).1 b (((thr W c).foldl (st2 s L (ws s s (thr W c))) (sh, L)).1 b + (L - ws s (fun t => s t * L / ws s s (thr W c)) (thr W c))) := by
    unfold shr
    rw [if_neg (by decide), if_neg (by decide), if_pos rfl, hbm, hA2.2]
    rfl
  rw [e2]
  generalize htg : ws s s (thr W c) = tt at *
  unfold f215
  simp only [n_0]
  refine lk0 (L := fun n k (_ : Unit) => f215_6 z n (nI c) (nI L) (nI b) (nI (ws s s (thT W c k))) (nI k) M) (N := W 0 4) (Inv := fun _ _ => True) (P := fun o => ∃ M', o = some (none, M') ∧ Fx (fun a => a = 214) M M' ∧ ∀ t, t < 16 → M'.1 214 t = nI (up ((thr W c).foldl (st2 s L tt) (sh, L)).1 b (((thr W c).foldl (st2 s L tt) (sh, L)).1 b + (L - ws s (fun t => s t * L / tt) (thr W c))) t)) z () (by omega) trivial ?_ ?_
  · intro n k _ hk _
    simp only [ws_thT]
    rw [f215_6, g178 h, cb_bi]
    simp (disch := omega) only [n_0, n_1, n_2, n_3, n_4, n_5, n_6, n_7, n_8, n_9, n_10, n_12, n_13, n_16, n_30, n_60, n_61, n_86, n_99, n_100, n_200, n_201, n_1023, n_65535, n_10000, n_1000000, ↓q_m1, q_add, q_addm, q_inB, q_cl, q_le, q_lt, q_eq, q_eqm, q_meq, q_mltT, q_ltm, q_lem, q_mleT, if_true, if_false, if_pos, if_neg, Nat.reduceAdd, Nat.reduceMul, Nat.add_zero, Nat.zero_add, not_true_eq_false, not_false_eq_true, u_row, u_self, u_ne, cb_bi, cb_bv, cb_bl]
    rw [g212 h hW hs hb hk hc, cb_bi]
    by_cases h1 : W 1 k = c ∧ 0 < s k
    · simp (disch := omega) only [n_0, n_1, n_2, n_3, n_4, n_5, n_6, n_7, n_8, n_9, n_10, n_12, n_13, n_16, n_30, n_60, n_61, n_86, n_99, n_100, n_200, n_201, n_1023, n_65535, n_10000, n_1000000, ↓q_m1, q_add, q_addm, q_inB, q_cl, q_le, q_lt, q_eq, q_eqm, q_meq, q_mltT, q_ltm, q_lem, q_mleT, if_true, if_false, if_pos, if_neg, Nat.reduceAdd, Nat.reduceMul, Nat.add_zero, Nat.zero_add, not_true_eq_false, not_false_eq_true, u_row, u_self, u_ne, cb_bi, cb_bv, cb_bl, if_pos h1, hs]
      exact Lst.go (s' := ()) trivial
    · simp (disch := omega) only [n_0, n_1, n_2, n_3, n_4, n_5, n_6, n_7, n_8, n_9, n_10, n_12, n_13, n_16, n_30, n_60, n_61, n_86, n_99, n_100, n_200, n_201, n_1023, n_65535, n_10000, n_1000000, ↓q_m1, q_add, q_addm, q_inB, q_cl, q_le, q_lt, q_eq, q_eqm, q_meq, q_mltT, q_ltm, q_lem, q_mleT, if_true, if_false, if_pos, if_neg, Nat.reduceAdd, Nat.reduceMul, Nat.add_zero, Nat.zero_add, not_true_eq_false, not_false_eq_true, u_row, u_self, u_ne, cb_bi, cb_bv, cb_bl, if_neg h1]
      exact Lst.go (s' := ()) trivial
  · intro n _ _
    rw [f215_6, g178 h, cb_bi]
    simp (disch := omega) only [n_0, n_1, n_2, n_3, n_4, n_5, n_6, n_7, n_8, n_9, n_10, n_12, n_13, n_16, n_30, n_60, n_61, n_86, n_99, n_100, n_200, n_201, n_1023, n_65535, n_10000, n_1000000, ↓q_m1, q_add, q_addm, q_inB, q_cl, q_le, q_lt, q_eq, q_eqm, q_meq, q_mltT, q_ltm, q_lem, q_mleT, if_true, if_false, if_pos, if_neg, Nat.reduceAdd, Nat.reduceMul, Nat.add_zero, Nat.zero_add, not_true_eq_false, not_false_eq_true, u_row, u_self, u_ne, cb_bi, cb_bv, cb_bl, ← thr_eq, htg]
    have e0 : nI L - nI (ws s (fun t => s t * L / tt) (thT W c 0)) = nI L := q_s0 L
    rw [show f215_53 z z (nI c) (nI L) (nI b) (nI tt) (nI L) (nI 0) M = f215_53 z z (nI c) (nI L) (nI b) (nI tt) (nI L - nI (ws s (fun t => s t * L / tt) (thT W c 0))) (nI 0) M by rw [e0]]
    refine lk0 (L := fun n k M' => f215_53 z n (nI c) (nI L) (nI b) (nI tt) (nI L - nI (ws s (fun t => s t * L / tt) (thT W c k))) (nI k) M') (N := W 0 4) (Inv := fun k M' => Fx (fun a => a = 214) M M' ∧ (∀ t, t < 16 → M'.1 214 t = nI (((thT W c k).foldl (st2 s L tt) (sh, L)).1 t))) (P := fun o => ∃ M', o = some (none, M') ∧ Fx (fun a => a = 214) M M' ∧ ∀ t, t < 16 → M'.1 214 t = nI (up ((thr W c).foldl (st2 s L tt) (sh, L)).1 b (((thr W c).foldl (st2 s L tt) (sh, L)).1 b + (L - ws s (fun t => s t * L / tt) (thr W c))) t)) z M (by omega) ⟨Fx.id0, hsh⟩ ?_ ?_
    · intro n k M' hk hI
      obtain ⟨hF, hr⟩ := hI
      have h' : rM (M'.1 206) W := by rw [hF.2 206 (by decide)]; exact h
      have hs' : ∀ t, t < W 0 4 → M'.1 213 t = nI (s t) := by rw [hF.2 213 (by decide)]; exact hs
      simp only [fo_thT, ws_thT]
      rw [f215_53, g178 h', cb_bi]
      simp (disch := omega) only [n_0, n_1, n_2, n_3, n_4, n_5, n_6, n_7, n_8, n_9, n_10, n_12, n_13, n_16, n_30, n_60, n_61, n_86, n_99, n_100, n_200, n_201, n_1023, n_65535, n_10000, n_1000000, ↓q_m1, q_add, q_addm, q_inB, q_cl, q_le, q_lt, q_eq, q_eqm, q_meq, q_mltT, q_ltm, q_lem, q_mleT, if_true, if_false, if_pos, if_neg, Nat.reduceAdd, Nat.reduceMul, Nat.add_zero, Nat.zero_add, not_true_eq_false, not_false_eq_true, u_row, u_self, u_ne, cb_bi, cb_bv, cb_bl]
      rw [g212 h' hW hs' hb hk hc, cb_bi]
      generalize (thT W c k).foldl (st2 s L tt) (sh, L) = p at *
      have hbk := hb k
      have hm : s k * L ≤ 200000 := Nat.mul_le_mul hbk hL
      by_cases h1 : W 1 k = c ∧ 0 < s k
      · simp only [if_pos h1, if_pos h1.1, st2, if_pos h1.2]
        simp (disch := omega) only [n_0, n_1, n_2, n_3, n_4, n_5, n_6, n_7, n_8, n_9, n_10, n_12, n_13, n_16, n_30, n_60, n_61, n_86, n_99, n_100, n_200, n_201, n_1023, n_65535, n_10000, n_1000000, ↓q_m1, q_add, q_addm, q_inB, q_cl, q_le, q_lt, q_eq, q_eqm, q_meq, q_mltT, q_ltm, q_lem, q_mleT, if_true, if_false, if_pos, if_neg, Nat.reduceAdd, Nat.reduceMul, Nat.add_zero, Nat.zero_add, not_true_eq_false, not_false_eq_true, u_row, u_self, u_ne, cb_bi, cb_bv, cb_bl, q_mul, q_div, hs', i_sub]
        refine Lst.go ⟨Fx.w hF rfl, row_up hr⟩
      · have e3 : (if W 1 k = c then st2 s L tt p k else p) = p := by
          split
          · rename_i q1
            exact if_neg (fun q => h1 ⟨q1, q⟩)
          · rfl
        simp only [e3, if_neg h1]
        simp (disch := omega) only [n_0, n_1, n_2, n_3, n_4, n_5, n_6, n_7, n_8, n_9, n_10, n_12, n_13, n_16, n_30, n_60, n_61, n_86, n_99, n_100, n_200, n_201, n_1023, n_65535, n_10000, n_1000000, ↓q_m1, q_add, q_addm, q_inB, q_cl, q_le, q_lt, q_eq, q_eqm, q_meq, q_mltT, q_ltm, q_lem, q_mleT, if_true, if_false, if_pos, if_neg, Nat.reduceAdd, Nat.reduceMul, Nat.add_zero, Nat.zero_add, not_true_eq_false, not_false_eq_true, u_row, u_self, u_ne, cb_bi, cb_bv, cb_bl]
        exact Lst.go ⟨hF, hr⟩
    · intro n M' hI
      obtain ⟨hF, hr⟩ := hI
      have h' : rM (M'.1 206) W := by rw [hF.2 206 (by decide)]; exact h
      rw [f215_53, g178 h', cb_bi]
      simp (disch := omega) only [n_0, n_1, n_2, n_3, n_4, n_5, n_6, n_7, n_8, n_9, n_10, n_12, n_13, n_16, n_30, n_60, n_61, n_86, n_99, n_100, n_200, n_201, n_1023, n_65535, n_10000, n_1000000, ↓q_m1, q_add, q_addm, q_inB, q_cl, q_le, q_lt, q_eq, q_eqm, q_meq, q_mltT, q_ltm, q_lem, q_mleT, if_true, if_false, if_pos, if_neg, Nat.reduceAdd, Nat.reduceMul, Nat.add_zero, Nat.zero_add, not_true_eq_false, not_false_eq_true, u_row, u_self, u_ne, cb_bi, cb_bv, cb_bl, ← thr_eq, q_sub, hr]
      exact ⟨_, rfl, Fx.w hF rfl, row_up hr⟩
/-- shareByHalves -/
theorem m_halves {z : Nat} (hz : 2000 ≤ z) {M : aM} {W : cW} (h : rM (M.1 206) W) (hW : wf W) {s : Nat → Nat} (hs : ∀ t, t < W 0 4 → M.1 213 t = nI (s t)) (hb : ∀ t, s t ≤ 1000) {c L b : Nat} (hc : c < 8) (hL : L ≤ 200) {sh : Nat → Nat} (hsh : ∀ t, t < 16 → M.1 214 t = nI (sh t)) (hbm : mx s 99 (thr W c) = some b) :
    ∃ M', f216 z (nI c) (nI L) (nI b) M = some (none, M') ∧ Fx (fun a => a = 214) M M' ∧ ∀ t, t < 16 → M'.1 214 t = nI (shr 3 s (thr W c) L sh t) := by
  have hT : W 0 4 ≤ 16 := hW.2.2.2.2.1
  have hbb := mx_mem hbm
  have hb16 := (thr_mem.mp hbb.1).1
  have em : m2 s (thr W c) = mx s b (thr W c) := by unfold m2; rw [hbm]
  unfold f216
  rw [m_strongest hz h hW hs hb hc (but := b) (.inr ⟨by omega, rfl⟩), cb_bi]
  have e2 : shr 3 s (thr W c) L sh = match mx s b (thr W c) with
    | none => up sh b L
    | some d => up (up sh b (L - L / 2)) d (L / 2) := by
    unfold shr
    rw [if_neg (by decide), if_neg (by decide), if_neg (by decide), hbm, em]
    rfl
  rw [e2]
  cases hd : mx s b (thr W c) with
  | none =>
    simp (disch := omega) only [n_0, n_1, n_2, n_3, n_4, n_5, n_6, n_7, n_8, n_9, n_10, n_12, n_13, n_16, n_30, n_60, n_61, n_86, n_99, n_100, n_200, n_201, n_1023, n_65535, n_10000, n_1000000, ↓q_m1, q_add, q_addm, q_inB, q_cl, q_le, q_lt, q_eq, q_eqm, q_meq, q_mltT, q_ltm, q_lem, q_mleT, if_true, if_false, if_pos, if_neg, Nat.reduceAdd, Nat.reduceMul, Nat.add_zero, Nat.zero_add, not_true_eq_false, not_false_eq_true, u_row, u_self, u_ne, cb_bi, cb_bv, cb_bl, oI_n, ne_eq]
    exact ⟨_, rfl, Fx.w Fx.id0 rfl, row_up hsh⟩
  | some d =>
    have hd16 := (thr_mem.mp (mx_mem hd).1).1
    simp (disch := omega) only [n_0, n_1, n_2, n_3, n_4, n_5, n_6, n_7, n_8, n_9, n_10, n_12, n_13, n_16, n_30, n_60, n_61, n_86, n_99, n_100, n_200, n_201, n_1023, n_65535, n_10000, n_1000000, ↓q_m1, q_add, q_addm, q_inB, q_cl, q_le, q_lt, q_eq, q_eqm, q_meq, q_mltT, q_ltm, q_lem, q_mleT, if_true, if_false, if_pos, if_neg, Nat.reduceAdd, Nat.reduceMul, Nat.add_zero, Nat.zero_add, not_true_eq_false, not_false_eq_true, u_row, u_self, u_ne, cb_bi, cb_bv, cb_bl, oI_s, q_div, q_sub]
    exact ⟨_, rfl, Fx.w (Fx.w Fx.id0 rfl) rfl, row_upg (row_upg hsh)⟩
