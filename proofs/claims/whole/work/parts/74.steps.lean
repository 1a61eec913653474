/-! ===== steps ===== -/
def fs1 (W : cW) (F : Nat → Option Nat) (t : Nat) : Option Nat := if W 2 t = 8 then some 0 else F (W 2 t)
def fs2 (b : Option Nat) (r : Option Nat) : Option Nat := match r with
  | none => b
  | some r => match b with
    | none => some (r + 1)
    | some b => if r + 1 < b then some (r + 1) else some b
def fsT (W : cW) (s : Nat → Nat) (F : Nat → Option Nat) (b : Option Nat) (t : Nat) : Option Nat := if 0 < s t then fs2 b (fs1 W F t) else b
def fA (W : cW) (s : Nat → Nat) : Nat → Nat → Option Nat
  | 0 => fun _ => none
  | c + 1 => fun i => if i = c then (thr W c).foldl (fsT W s (fA W s c)) none else fA W s c i
def fB9 (o : Option Nat) : Prop := ∀ v, o = some v → v ≤ 100
theorem fs2_b {b r : Option Nat} {m : Nat} (hb : ∀ v, b = some v → v ≤ m + 1) (hr : ∀ v, r = some v → v ≤ m) : ∀ v, fs2 b r = some v → v ≤ m + 1 := by
  intro v h
  unfold fs2 at h
  cases r with
  | none => exact hb v h
  | some r =>
    have h1 := hr r rfl
    cases b with
    | none => simp only at h; cases h; omega
    | some b =>
      have h2 := hb b rfl
      simp only at h
      split at h <;> (cases h; omega)
theorem fol_b {W : cW} {s : Nat → Nat} {F : Nat → Option Nat} {m : Nat} (hF : ∀ i v, F i = some v → v ≤ m) : ∀ (l : List Nat) (b : Option Nat), (∀ v, b = some v → v ≤ m + 1) → ∀ v, l.foldl (fsT W s F) b = some v → v ≤ m + 1
  | [], b, hb, v, h => hb v h
  | t :: l, b, hb, v, h => by
    refine fol_b hF l (fsT W s F b t) ?_ v h
    intro v h
    unfold fsT at h
    split at h
    · refine fs2_b hb ?_ v h
      intro v h
      unfold fs1 at h
      split at h
      · cases h; omega
      · exact hF _ v h
    · exact hb v h
theorem fA_b (W : cW) (s : Nat → Nat) : ∀ c i v, fA W s c i = some v → v ≤ c
  | 0, _, _, h => by cases h
  | c + 1, i, v, h => by
    unfold fA at h
    split at h
    · exact fol_b (fA_b W s c) _ none (fun _ q => by cases q) v h
    · have := fA_b W s c i v h; omega
/-- inner loop, class -/
theorem c_short1 {z : Nat} (hz : 2000 ≤ z) {M : aM} {W : cW} {s : Nat → Nat} {r c : Nat} {F : Nat → Option Nat} (hW : wf W) (hC : rC M 18 W) (hr : r ≠ 68) (hs : ∀ t, t < W 0 4 → M.1 r t = nI (s t)) (hb : ∀ t, t < W 0 4 → s t ≤ 1000) (hc : c < 8) (hF : ∀ i v, F i = some v → v ≤ 8) (hM : ∀ i, i < c → M.1 68 i = oI (F i)) (h0 : M.1 68 c = mI) (K : Nat → Nat → Nat → Int32 → Int32 → aM → Option aR) (x : Int32) :
    ∃ M', f67_26 z K z 67 18 r x (nI c) (nI (bg W c)) M = K 67 18 r x (nI (c + 1)) M' ∧ Fx (fun a => a = 68) M M' ∧ (∀ i, i < c → M'.1 68 i = oI (F i)) ∧ M'.1 68 c = oI ((thr W c).foldl (fsT W s F) none) := by
  have hT : W 0 4 ≤ 16 := hW.2.2.2.2.1
  have hbl := bg_le W (c + 1)
  rw [bg_s] at hbl
  obtain ⟨n, M', e, hX, hI, hJ⟩ := lr0 (fun n k M' => f67_26 z K n 67 18 r x (nI c) (nI (bg W c + k)) M') (thr W c).length (fun k M' => Fx (fun a => a = 68) M M' ∧ (∀ i, i < c → M'.1 68 i = oI (F i)) ∧ M'.1 68 c = oI (((thr W c).take k).foldl (fsT W s F) none)) z M (by omega) ⟨Fx.id0, hM, h0⟩ (by
    intro n k M' hk hI
    obtain ⟨hX, hI, hJ⟩ := hI
    have hC' := hC.fx hX (fun a q => by omega)
    obtain ⟨ht, htc, htm⟩ := th_at hk
    have hso := hC'.so hc hk
    have hto := hC'.to ht
    have hw := (hW.2.2.2.2.2.2.2.2.1 _ ht)
    have hbt := hb _ ht
    have hst : ∀ t, t < W 0 4 → M'.1 r t = nI (s t) := fun t ht => by rw [hX.2 r (fun q => hr q)]; exact hs _ ht
    have hbd := fol_b (W := W) (s := s) hF ((thr W c).take k) none (fun _ q => by cases q)
    simp only [fo_take _ _ hk]
    generalize ((thr W c).take k).foldl (fsT W s F) none = b at *
    generalize (thr W c).getD k 0 = t at *
    have fin : ∀ v, Fx (fun a => a = 68) M (am_u M'.1 68 c (nI v), M'.2) ∧ (∀ i, i < c → (am_u M'.1 68 c (nI v)) 68 i = oI (F i)) := fun v => ⟨Fx.w hX rfl, fun i hi => by rw [u_ne (by omega)]; exact hI i hi⟩
    rw [f67_26]
    unfold fsT
    by_cases h1 : 0 < s t
    · rw [if_pos h1]
      by_cases h8 : W 2 t = 8
      · rw [h8, hI_8] at hto
        have ef : fs1 W F t = some 0 := if_pos h8
        rw [ef]
        cases b with
        | none =>
          rw [oI_n] at hJ
          simp (disch := omega) only [n_0, n_1, n_2, n_3, n_4, n_5, n_6, n_7, n_8, n_9, n_10, n_12, n_13, n_16, n_30, n_60, n_61, n_86, n_99, n_100, n_200, n_201, n_1023, n_65535, n_10000, n_1000000, ↓q_m1, ↓q_m2, ↓q_m3, ↓q_m4, ↓q_m5, ↓q_m6, ↓q_m7, ↓q_m8, ↓q_m1000, ↓q_m100000, q_add, q_addm, q_inB, q_cl, q_le, q_lt, q_eq, q_eqm, q_meq, q_mltT, q_ltm, q_lem, q_mleT, if_true, if_false, if_pos, if_neg, Nat.reduceAdd, Nat.reduceMul, Nat.add_zero, Nat.zero_add, Nat.one_mul, not_true_eq_false, not_false_eq_true, u_row, u_self, u_ne, cb_bi, cb_bv, cb_bl, hC'.bv, bg_s, hso, hst, hto, hJ, fs2]
          exact ⟨_, rfl, (fin 1).1, (fin 1).2, by simp only [u_self]; rfl⟩
        | some b =>
          have hb9 := hbd b rfl
          rw [oI_s] at hJ
          by_cases h2 : 1 < b
          · simp (disch := omega) only [n_0, n_1, n_2, n_3, n_4, n_5, n_6, n_7, n_8, n_9, n_10, n_12, n_13, n_16, n_30, n_60, n_61, n_86, n_99, n_100, n_200, n_201, n_1023, n_65535, n_10000, n_1000000, ↓q_m1, ↓q_m2, ↓q_m3, ↓q_m4, ↓q_m5, ↓q_m6, ↓q_m7, ↓q_m8, ↓q_m1000, ↓q_m100000, q_add, q_addm, q_inB, q_cl, q_le, q_lt, q_eq, q_eqm, q_meq, q_mltT, q_ltm, q_lem, q_mleT, if_true, if_false, if_pos, if_neg, Nat.reduceAdd, Nat.reduceMul, Nat.add_zero, Nat.zero_add, Nat.one_mul, not_true_eq_false, not_false_eq_true, u_row, u_self, u_ne, cb_bi, cb_bv, cb_bl, hC'.bv, bg_s, hso, hst, hto, hJ, fs2]
            exact ⟨_, rfl, (fin 1).1, (fin 1).2, by simp only [u_self]; rfl⟩
          · simp (disch := omega) only [n_0, n_1, n_2, n_3, n_4, n_5, n_6, n_7, n_8, n_9, n_10, n_12, n_13, n_16, n_30, n_60, n_61, n_86, n_99, n_100, n_200, n_201, n_1023, n_65535, n_10000, n_1000000, ↓q_m1, ↓q_m2, ↓q_m3, ↓q_m4, ↓q_m5, ↓q_m6, ↓q_m7, ↓q_m8, ↓q_m1000, ↓q_m100000, q_add, q_addm, q_inB, q_cl, q_le, q_lt, q_eq, q_eqm, q_meq, q_mltT, q_ltm, q_lem, q_mleT, if_true, if_false, if_pos, if_neg, Nat.reduceAdd, Nat.reduceMul, Nat.add_zero, Nat.zero_add, Nat.one_mul, not_true_eq_false, not_false_eq_true, u_row, u_self, u_ne, cb_bi, cb_bv, cb_bl, hC'.bv, bg_s, hso, hst, hto, hJ, fs2]
            exact ⟨M', rfl, hX, hI, hJ⟩
      · rw [hI_n h8] at hto
        have hlt : W 2 t < c := by omega
        have hfr := hI (W 2 t) hlt
        have ef : fs1 W F t = F (W 2 t) := if_neg h8
        rw [ef]
        cases hq : F (W 2 t) with
        | none =>
          rw [hq, oI_n] at hfr
          simp (disch := omega) only [n_0, n_1, n_2, n_3, n_4, n_5, n_6, n_7, n_8, n_9, n_10, n_12, n_13, n_16, n_30, n_60, n_61, n_86, n_99, n_100, n_200, n_201, n_1023, n_65535, n_10000, n_1000000, ↓q_m1, ↓q_m2, ↓q_m3, ↓q_m4, ↓q_m5, ↓q_m6, ↓q_m7, ↓q_m8, ↓q_m1000, ↓q_m100000, q_add, q_addm, q_inB, q_cl, q_le, q_lt, q_eq, q_eqm, q_meq, q_mltT, q_ltm, q_lem, q_mleT, if_true, if_false, if_pos, if_neg, Nat.reduceAdd, Nat.reduceMul, Nat.add_zero, Nat.zero_add, Nat.one_mul, not_true_eq_false, not_false_eq_true, u_row, u_self, u_ne, cb_bi, cb_bv, cb_bl, hC'.bv, bg_s, hso, hst, hto, hfr, fs2]
          exact ⟨M', rfl, hX, hI, hJ⟩
        | some v =>
          have hv := hF _ _ hq
          rw [hq, oI_s] at hfr
          cases b with
          | none =>
            rw [oI_n] at hJ
            simp (disch := omega) only [n_0, n_1, n_2, n_3, n_4, n_5, n_6, n_7, n_8, n_9, n_10, n_12, n_13, n_16, n_30, n_60, n_61, n_86, n_99, n_100, n_200, n_201, n_1023, n_65535, n_10000, n_1000000, ↓q_m1, ↓q_m2, ↓q_m3, ↓q_m4, ↓q_m5, ↓q_m6, ↓q_m7, ↓q_m8, ↓q_m1000, ↓q_m100000, q_add, q_addm, q_inB, q_cl, q_le, q_lt, q_eq, q_eqm, q_meq, q_mltT, q_ltm, q_lem, q_mleT, if_true, if_false, if_pos, if_neg, Nat.reduceAdd, Nat.reduceMul, Nat.add_zero, Nat.zero_add, Nat.one_mul, not_true_eq_false, not_false_eq_true, u_row, u_self, u_ne, cb_bi, cb_bv, cb_bl, hC'.bv, bg_s, hso, hst, hto, hfr, hJ, fs2]
            exact ⟨_, rfl, (fin (v + 1)).1, (fin (v + 1)).2, by simp only [u_self]; rfl⟩
          | some b =>
            have hb9 := hbd b rfl
            rw [oI_s] at hJ
            by_cases h2 : v + 1 < b
            · simp (disch := omega) only [n_0, n_1, n_2, n_3, n_4, n_5, n_6, n_7, n_8, n_9, n_10, n_12, n_13, n_16, n_30, n_60, n_61, n_86, n_99, n_100, n_200, n_201, n_1023, n_65535, n_10000, n_1000000, ↓q_m1, ↓q_m2, ↓q_m3, ↓q_m4, ↓q_m5, ↓q_m6, ↓q_m7, ↓q_m8, ↓q_m1000, ↓q_m100000, q_add, q_addm, q_inB, q_cl, q_le, q_lt, q_eq, q_eqm, q_meq, q_mltT, q_ltm, q_lem, q_mleT, if_true, if_false, if_pos, if_neg, Nat.reduceAdd, Nat.reduceMul, Nat.add_zero, Nat.zero_add, Nat.one_mul, not_true_eq_false, not_false_eq_true, u_row, u_self, u_ne, cb_bi, cb_bv, cb_bl, hC'.bv, bg_s, hso, hst, hto, hfr, hJ, fs2]
              exact ⟨_, rfl, (fin (v + 1)).1, (fin (v + 1)).2, by simp only [u_self]; rfl⟩
            · simp (disch := omega) only [n_0, n_1, n_2, n_3, n_4, n_5, n_6, n_7, n_8, n_9, n_10, n_12, n_13, n_16, n_30, n_60, n_61, n_86, n_99, n_100, n_200, n_201, n_1023, n_65535, n_10000, n_1000000, ↓q_m1, ↓q_m2, ↓q_m3, ↓q_m4, ↓q_m5, ↓q_m6, ↓q_m7, ↓q_m8, ↓q_m1000, ↓q_m100000, q_add, q_addm, q_inB, q_cl, q_le, q_lt, q_eq, q_eqm, q_meq, q_mltT, q_ltm, q_lem, q_mleT, if_true, if_false, if_pos, if_neg, Nat.reduceAdd, Nat.reduceMul, Nat.add_zero, Nat.zero_add, Nat.one_mul, not_true_eq_false, not_false_eq_true, u_row, u_self, u_ne, cb_bi, cb_bv, cb_bl, hC'.bv, bg_s, hso, hst, hto, hfr, hJ, fs2]
              exact ⟨M', rfl, hX, hI, hJ⟩
    · rw [if_neg h1]
      by_cases h8 : W 2 t = 8
      · rw [h8, hI_8] at hto
        simp (disch := omega) only [n_0, n_1, n_2, n_3, n_4, n_5, n_6, n_7, n_8, n_9, n_10, n_12, n_13, n_16, n_30, n_60, n_61, n_86, n_99, n_100, n_200, n_201, n_1023, n_65535, n_10000, n_1000000, ↓q_m1, ↓q_m2, ↓q_m3, ↓q_m4, ↓q_m5, ↓q_m6, ↓q_m7, ↓q_m8, ↓q_m1000, ↓q_m100000, q_add, q_addm, q_inB, q_cl, q_le, q_lt, q_eq, q_eqm, q_meq, q_mltT, q_ltm, q_lem, q_mleT, if_true, if_false, if_pos, if_neg, Nat.reduceAdd, Nat.reduceMul, Nat.add_zero, Nat.zero_add, Nat.one_mul, not_true_eq_false, not_false_eq_true, u_row, u_self, u_ne, cb_bi, cb_bv, cb_bl, hC'.bv, bg_s, hso, hst, hto]
        exact ⟨M', rfl, hX, hI, hJ⟩
      · rw [hI_n h8] at hto
        simp (disch := omega) only [n_0, n_1, n_2, n_3, n_4, n_5, n_6, n_7, n_8, n_9, n_10, n_12, n_13, n_16, n_30, n_60, n_61, n_86, n_99, n_100, n_200, n_201, n_1023, n_65535, n_10000, n_1000000, ↓q_m1, ↓q_m2, ↓q_m3, ↓q_m4, ↓q_m5, ↓q_m6, ↓q_m7, ↓q_m8, ↓q_m1000, ↓q_m100000, q_add, q_addm, q_inB, q_cl, q_le, q_lt, q_eq, q_eqm, q_meq, q_mltT, q_ltm, q_lem, q_mleT, if_true, if_false, if_pos, if_neg, Nat.reduceAdd, Nat.reduceMul, Nat.add_zero, Nat.zero_add, Nat.one_mul, not_true_eq_false, not_false_eq_true, u_row, u_self, u_ne, cb_bi, cb_bv, cb_bl, hC'.bv, bg_s, hso, hst, hto]
        exact ⟨M', rfl, hX, hI, hJ⟩)
  have hC' := hC.fx hX (fun a q => by omega)
  rw [List.take_length] at hJ
  refine ⟨M', ?_, hX, hI, hJ⟩
  refine Eq.trans e ?_
  rw [f67_26]
  simp (disch := omega) only [n_0, n_1, n_2, n_3, n_4, n_5, n_6, n_7, n_8, n_9, n_10, n_12, n_13, n_16, n_30, n_60, n_61, n_86, n_99, n_100, n_200, n_201, n_1023, n_65535, n_10000, n_1000000, ↓q_m1, ↓q_m2, ↓q_m3, ↓q_m4, ↓q_m5, ↓q_m6, ↓q_m7, ↓q_m8, ↓q_m1000, ↓q_m100000, q_add, q_addm, q_inB, q_cl, q_le, q_lt, q_eq, q_eqm, q_meq, q_mltT, q_ltm, q_lem, q_mleT, if_true, if_false, if_pos, if_neg, Nat.reduceAdd, Nat.reduceMul, Nat.add_zero, Nat.zero_add, Nat.one_mul, not_true_eq_false, not_false_eq_true, u_row, u_self, u_ne, cb_bi, cb_bv, cb_bl, hC'.bv, bg_s]
theorem fA_s (W : cW) (s : Nat → Nat) (c : Nat) : fA W s (c + 1) c = (thr W c).foldl (fsT W s (fA W s c)) none := if_pos rfl
theorem fA_n (W : cW) (s : Nat → Nat) {c i : Nat} (h : i ≠ c) : fA W s (c + 1) i = fA W s c i := if_neg h
theorem c_short {z : Nat} (hz : 2000 ≤ z) {M : aM} {W : cW} {s : Nat → Nat} {r c : Nat} (hW : wf W) (hC : rC M 18 W) (hr : r ≠ 68) (hs : ∀ t, t < W 0 4 → M.1 r t = nI (s t)) (hb : ∀ t, t < W 0 4 → s t ≤ 1000) (hc : c < 8) :
    ∃ M', f67 z 67 18 r (nI c) M = some (some (.inl (oI (fA W s (c + 1) c))), M') ∧ Fx (fun a => a = 68) M M' := by
  unfold f67
  simp only [n_0]
  obtain ⟨n, M', e, hX, hI⟩ := lr0 (fun n k M' => f67_3 z n 67 18 r (nI c) (nI k) M') (c + 1) (fun k M' => Fx (fun a => a = 68) M M' ∧ ∀ i, i < k → M'.1 68 i = oI (fA W s k i)) z M (by omega) ⟨Fx.id0, fun i hi => by omega⟩ (by
    intro n k M' hk hI
    obtain ⟨hX, hI⟩ := hI
    have hF1 : Fx (fun a => a = 68) M (am_u M'.1 68 k mI, M'.2) := Fx.w hX rfl
    have hC1 := hC.fx hF1 (fun a q => by omega)
    obtain ⟨M2, a1, a2, a3, a4⟩ := c_short1 hz (M := (am_u M'.1 68 k mI, M'.2)) (s := s) (r := r) (c := k) (F := fA W s k) hW hC1 hr (fun t ht => by rw [hF1.2 r (fun q => hr q)]; exact hs t ht) hb (by omega) (fun i v q => by have := fA_b W s k i v q; omega) (fun i hi => by show am_u M'.1 68 k mI 68 i = _; rw [u_ne (by omega)]; exact hI i hi) (by simp only [u_self]) (f67_3 z n) (nI c)
    have hbv : am_u M'.1 68 k mI 26 k = nI (bg W k) := hC1.bv (by omega)
    rw [f67_3]
    simp (disch := omega) only [n_0, n_1, n_2, n_3, n_4, n_5, n_6, n_7, n_8, n_9, n_10, n_12, n_13, n_16, n_30, n_60, n_61, n_86, n_99, n_100, n_200, n_201, n_1023, n_65535, n_10000, n_1000000, ↓q_m1, ↓q_m2, ↓q_m3, ↓q_m4, ↓q_m5, ↓q_m6, ↓q_m7, ↓q_m8, ↓q_m1000, ↓q_m100000, q_add, q_addm, q_inB, q_cl, q_le, q_lt, q_eq, q_eqm, q_meq, q_mltT, q_ltm, q_lem, q_mleT, if_true, if_false, if_pos, if_neg, Nat.reduceAdd, Nat.reduceMul, Nat.add_zero, Nat.zero_add, Nat.one_mul, not_true_eq_false, not_false_eq_true, u_row, u_self, u_ne, cb_bi, cb_bv, cb_bl, hC1.bv] at hbv ⊢
    simp only [hbv]
    refine ⟨M2, a1, hF1.trans a2, ?_⟩
    intro i hi
    by_cases q : i = k
    · rw [q, fA_s]; exact a4
    · rw [fA_n _ _ q]; exact a3 i (by omega))
  refine ⟨M', ?_, hX⟩
  refine Eq.trans e ?_
  rw [f67_3]
  simp (disch := omega) only [n_0, n_1, n_2, n_3, n_4, n_5, n_6, n_7, n_8, n_9, n_10, n_12, n_13, n_16, n_30, n_60, n_61, n_86, n_99, n_100, n_200, n_201, n_1023, n_65535, n_10000, n_1000000, ↓q_m1, ↓q_m2, ↓q_m3, ↓q_m4, ↓q_m5, ↓q_m6, ↓q_m7, ↓q_m8, ↓q_m1000, ↓q_m100000, q_add, q_addm, q_inB, q_cl, q_le, q_lt, q_eq, q_eqm, q_meq, q_mltT, q_ltm, q_lem, q_mleT, if_true, if_false, if_pos, if_neg, Nat.reduceAdd, Nat.reduceMul, Nat.add_zero, Nat.zero_add, Nat.one_mul, not_true_eq_false, not_false_eq_true, u_row, u_self, u_ne, cb_bi, cb_bv, cb_bl, hI c (by omega)]
/-- inner loop, model -/
theorem m_step1 {z : Nat} (hz : 2000 ≤ z) {M : aM} {W : cW} {Y : cY} {m y c : Nat} {F : Nat → Option Nat} (h : rM (M.1 206) W) (hW : wf W) (hR : zR M W Y m) (hm : m ≤ 13) (hy : y < m) (hb : ∀ t, Y y t ≤ 1000) (hc : c < 8) (hF : ∀ i v, F i = some v → v ≤ 8) (hM : ∀ i, i < c → M.1 224 i = oI (F i)) (h0 : M.1 224 c = mI) (K : Int32 → Int32 → Int32 → aM → Option aR) (x : Int32) :
    ∃ M', f250_36 z K z x (nI y) (nI c) (nI 0) M = K x (nI y) (nI (c + 1)) M' ∧ Fx (fun a => a = 224) M M' ∧ (∀ i, i < c → M'.1 224 i = oI (F i)) ∧ M'.1 224 c = oI ((thr W c).foldl (fsT W (Y y) F) none) := by
  have hT : W 0 4 ≤ 16 := hW.2.2.2.2.1
  have hC8 : W 0 3 ≤ 8 := hW.2.2.2.1
  obtain ⟨n, M', e, hX, hI, hJ⟩ := lr0 (fun n k M' => f250_36 z K n x (nI y) (nI c) (nI k) M') (W 0 4) (fun k M' => Fx (fun a => a = 224) M M' ∧ (∀ i, i < c → M'.1 224 i = oI (F i)) ∧ M'.1 224 c = oI ((thT W c k).foldl (fsT W (Y y) F) none)) z M (by omega) ⟨Fx.id0, hM, h0⟩ (by
    intro n k M' hk hI
    obtain ⟨hX, hI, hJ⟩ := hI
    have h' : rM (M'.1 206) W := by rw [hX.2 206 (by decide)]; exact h
    have e227 : f227 z (nI k) (nI y) M' = some (some (.inl (nI (Y y k))), M') := by
      unfold f227
      simp (disch := omega) only [n_0, n_1, n_2, n_3, n_4, n_5, n_6, n_7, n_8, n_9, n_10, n_12, n_13, n_16, n_30, n_60, n_61, n_86, n_99, n_100, n_200, n_201, n_1023, n_65535, n_10000, n_1000000, ↓q_m1, ↓q_m2, ↓q_m3, ↓q_m4, ↓q_m5, ↓q_m6, ↓q_m7, ↓q_m8, ↓q_m1000, ↓q_m100000, q_add, q_addm, q_inB, q_cl, q_le, q_lt, q_eq, q_eqm, q_meq, q_mltT, q_ltm, q_lem, q_mleT, if_true, if_false, if_pos, if_neg, Nat.reduceAdd, Nat.reduceMul, Nat.add_zero, Nat.zero_add, Nat.one_mul, not_true_eq_false, not_false_eq_true, u_row, u_self, u_ne, cb_bi, cb_bv, cb_bl, q_mul, hX.2 218 (by decide), hR.1 y hy k hk]
    have hw := (hW.2.2.2.2.2.2.2.2.1 _ hk)
    have hbt := hb k
    have hbd := fol_b (W := W) (s := Y y) hF (thT W c k) none (fun _ q => by cases q)
    simp only [fo_thT]
    generalize (thT W c k).foldl (fsT W (Y y) F) none = b at *
    have fin : ∀ v, Fx (fun a => a = 224) M (am_u M'.1 224 c (nI v), M'.2) ∧ (∀ i, i < c → (am_u M'.1 224 c (nI v)) 224 i = oI (F i)) := fun v => ⟨Fx.w hX rfl, fun i hi => by rw [u_ne (by omega)]; exact hI i hi⟩
    rw [f250_36, g178 h', cb_bi, if_neg (show ¬ nI (W 0 4) ≤ nI k by rw [q_le (by omega) (by omega)]; omega), g185 h' hW hk, cb_bi]
    by_cases h3 : W 1 k = c
    · simp only [if_pos h3]
      rw [if_neg (show ¬ ¬ nI (W 1 k) = nI c from fun q => q (by rw [h3])), e227, cb_bi]
      unfold fsT
      by_cases h1 : 0 < Y y k
      · rw [if_pos h1, if_pos (show ¬ nI (Y y k) = 0 from nI_ne0 h1 (by omega))]
        by_cases h8 : W 2 k = 8
        · have ef : fs1 W F k = some 0 := if_pos h8
          have e186 := g186 (z := z) h' hW hk
          rw [h8, hI_8] at e186
          rw [ef, e186, cb_bi, if_neg (show ¬ ¬ mI = -1 from fun q => q rfl)]
          cases b with
          | none =>
            rw [oI_n] at hJ
            simp (disch := omega) only [n_0, n_1, n_2, n_3, n_4, n_5, n_6, n_7, n_8, n_9, n_10, n_12, n_13, n_16, n_30, n_60, n_61, n_86, n_99, n_100, n_200, n_201, n_1023, n_65535, n_10000, n_1000000, ↓q_m1, ↓q_m2, ↓q_m3, ↓q_m4, ↓q_m5, ↓q_m6, ↓q_m7, ↓q_m8, ↓q_m1000, ↓q_m100000, q_add, q_addm, q_inB, q_cl, q_le, q_lt, q_eq, q_eqm, q_meq, q_mltT, q_ltm, q_lem, q_mleT, if_true, if_false, if_pos, if_neg, Nat.reduceAdd, Nat.reduceMul, Nat.add_zero, Nat.zero_add, Nat.one_mul, not_true_eq_false, not_false_eq_true, u_row, u_self, u_ne, cb_bi, cb_bv, cb_bl, hJ, fs2]
            exact ⟨_, rfl, (fin 1).1, (fin 1).2, by simp only [u_self]; rfl⟩
          | some b =>
            have hb9 := hbd b rfl
            rw [oI_s] at hJ
            by_cases h2 : 1 < b
            · simp (disch := omega) only [n_0, n_1, n_2, n_3, n_4, n_5, n_6, n_7, n_8, n_9, n_10, n_12, n_13, n_16, n_30, n_60, n_61, n_86, n_99, n_100, n_200, n_201, n_1023, n_65535, n_10000, n_1000000, ↓q_m1, ↓q_m2, ↓q_m3, ↓q_m4, ↓q_m5, ↓q_m6, ↓q_m7, ↓q_m8, ↓q_m1000, ↓q_m100000, q_add, q_addm, q_inB, q_cl, q_le, q_lt, q_eq, q_eqm, q_meq, q_mltT, q_ltm, q_lem, q_mleT, if_true, if_false, if_pos, if_neg, Nat.reduceAdd, Nat.reduceMul, Nat.add_zero, Nat.zero_add, Nat.one_mul, not_true_eq_false, not_false_eq_true, u_row, u_self, u_ne, cb_bi, cb_bv, cb_bl, hJ, fs2]
              exact ⟨_, rfl, (fin 1).1, (fin 1).2, by simp only [u_self]; rfl⟩
            · simp (disch := omega) only [n_0, n_1, n_2, n_3, n_4, n_5, n_6, n_7, n_8, n_9, n_10, n_12, n_13, n_16, n_30, n_60, n_61, n_86, n_99, n_100, n_200, n_201, n_1023, n_65535, n_10000, n_1000000, ↓q_m1, ↓q_m2, ↓q_m3, ↓q_m4, ↓q_m5, ↓q_m6, ↓q_m7, ↓q_m8, ↓q_m1000, ↓q_m100000, q_add, q_addm, q_inB, q_cl, q_le, q_lt, q_eq, q_eqm, q_meq, q_mltT, q_ltm, q_lem, q_mleT, if_true, if_false, if_pos, if_neg, Nat.reduceAdd, Nat.reduceMul, Nat.add_zero, Nat.zero_add, Nat.one_mul, not_true_eq_false, not_false_eq_true, u_row, u_self, u_ne, cb_bi, cb_bv, cb_bl, hJ, fs2]
              exact ⟨M', rfl, hX, hI, hJ⟩
        · have hlt : W 2 k < c := by omega
          have hfr := hI (W 2 k) hlt
          have ef : fs1 W F k = F (W 2 k) := if_neg h8
          have e186 := g186 (z := z) h' hW hk
          rw [hI_n h8] at e186
          rw [ef, e186, cb_bi, if_pos (show ¬ nI (W 2 k) = -1 from of_eq_false (q_eqm (by omega))), e186, cb_bi, if_pos (q_inB (show W 2 k < 8 by omega) (by omega)), q_cl (show W 2 k < 2147483648 by omega)]
          cases hq : F (W 2 k) with
          | none =>
            rw [hq, oI_n] at hfr
            rw [hfr, if_neg (show ¬ ¬ mI = -1 from fun q => q rfl)]
            simp (disch := omega) only [n_0, n_1, n_2, n_3, n_4, n_5, n_6, n_7, n_8, n_9, n_10, n_12, n_13, n_16, n_30, n_60, n_61, n_86, n_99, n_100, n_200, n_201, n_1023, n_65535, n_10000, n_1000000, ↓q_m1, ↓q_m2, ↓q_m3, ↓q_m4, ↓q_m5, ↓q_m6, ↓q_m7, ↓q_m8, ↓q_m1000, ↓q_m100000, q_add, q_addm, q_inB, q_cl, q_le, q_lt, q_eq, q_eqm, q_meq, q_mltT, q_ltm, q_lem, q_mleT, if_true, if_false, if_pos, if_neg, Nat.reduceAdd, Nat.reduceMul, Nat.add_zero, Nat.zero_add, Nat.one_mul, not_true_eq_false, not_false_eq_true, u_row, u_self, u_ne, cb_bi, cb_bv, cb_bl, hfr, fs2]
            exact ⟨M', rfl, hX, hI, hJ⟩
          | some v =>
            have hv := hF _ _ hq
            rw [hq, oI_s] at hfr
            rw [hfr, if_pos (show ¬ nI v = -1 from of_eq_false (q_eqm (by omega))), e186, cb_bi]
            cases b with
            | none =>
              rw [oI_n] at hJ
              simp (disch := omega) only [n_0, n_1, n_2, n_3, n_4, n_5, n_6, n_7, n_8, n_9, n_10, n_12, n_13, n_16, n_30, n_60, n_61, n_86, n_99, n_100, n_200, n_201, n_1023, n_65535, n_10000, n_1000000, ↓q_m1, ↓q_m2, ↓q_m3, ↓q_m4, ↓q_m5, ↓q_m6, ↓q_m7, ↓q_m8, ↓q_m1000, ↓q_m100000, q_add, q_addm, q_inB, q_cl, q_le, q_lt, q_eq, q_eqm, q_meq, q_mltT, q_ltm, q_lem, q_mleT, if_true, if_false, if_pos, if_neg, Nat.reduceAdd, Nat.reduceMul, Nat.add_zero, Nat.zero_add, Nat.one_mul, not_true_eq_false, not_false_eq_true, u_row, u_self, u_ne, cb_bi, cb_bv, cb_bl, hfr, hJ, fs2]
              exact ⟨_, rfl, (fin (v + 1)).1, (fin (v + 1)).2, by simp only [u_self]; rfl⟩
            | some b =>
              have hb9 := hbd b rfl
              rw [oI_s] at hJ
              by_cases h2 : v + 1 < b
              · simp (disch := omega) only [n_0, n_1, n_2, n_3, n_4, n_5, n_6, n_7, n_8, n_9, n_10, n_12, n_13, n_16, n_30, n_60, n_61, n_86, n_99, n_100, n_200, n_201, n_1023, n_65535, n_10000, n_1000000, ↓q_m1, ↓q_m2, ↓q_m3, ↓q_m4, ↓q_m5, ↓q_m6, ↓q_m7, ↓q_m8, ↓q_m1000, ↓q_m100000, q_add, q_addm, q_inB, q_cl, q_le, q_lt, q_eq, q_eqm, q_meq, q_mltT, q_ltm, q_lem, q_mleT, if_true, if_false, if_pos, if_neg, Nat.reduceAdd, Nat.reduceMul, Nat.add_zero, Nat.zero_add, Nat.one_mul, not_true_eq_false, not_false_eq_true, u_row, u_self, u_ne, cb_bi, cb_bv, cb_bl, hfr, hJ, fs2]
                exact ⟨_, rfl, (fin (v + 1)).1, (fin (v + 1)).2, by simp only [u_self]; rfl⟩
              · simp (disch := omega) only [n_0, n_1, n_2, n_3, n_4, n_5, n_6, n_7, n_8, n_9, n_10, n_12, n_13, n_16, n_30, n_60, n_61, n_86, n_99, n_100, n_200, n_201, n_1023, n_65535, n_10000, n_1000000, ↓q_m1, ↓q_m2, ↓q_m3, ↓q_m4, ↓q_m5, ↓q_m6, ↓q_m7, ↓q_m8, ↓q_m1000, ↓q_m100000, q_add, q_addm, q_inB, q_cl, q_le, q_lt, q_eq, q_eqm, q_meq, q_mltT, q_ltm, q_lem, q_mleT, if_true, if_false, if_pos, if_neg, Nat.reduceAdd, Nat.reduceMul, Nat.add_zero, Nat.zero_add, Nat.one_mul, not_true_eq_false, not_false_eq_true, u_row, u_self, u_ne, cb_bi, cb_bv, cb_bl, hfr, hJ, fs2]
                exact ⟨M', rfl, hX, hI, hJ⟩
      · rw [if_neg h1, if_neg (show ¬ ¬ nI (Y y k) = 0 from fun q => q (by rw [show Y y k = 0 by omega]; rfl))]
        simp (disch := omega) only [n_0, n_1, n_2, n_3, n_4, n_5, n_6, n_7, n_8, n_9, n_10, n_12, n_13, n_16, n_30, n_60, n_61, n_86, n_99, n_100, n_200, n_201, n_1023, n_65535, n_10000, n_1000000, ↓q_m1, ↓q_m2, ↓q_m3, ↓q_m4, ↓q_m5, ↓q_m6, ↓q_m7, ↓q_m8, ↓q_m1000, ↓q_m100000, q_add, q_addm, q_inB, q_cl, q_le, q_lt, q_eq, q_eqm, q_meq, q_mltT, q_ltm, q_lem, q_mleT, if_true, if_false, if_pos, if_neg, Nat.reduceAdd, Nat.reduceMul, Nat.add_zero, Nat.zero_add, Nat.one_mul, not_true_eq_false, not_false_eq_true, u_row, u_self, u_ne, cb_bi, cb_bv, cb_bl]
        exact ⟨M', rfl, hX, hI, hJ⟩
    · simp only [if_neg h3]
      rw [if_pos (show ¬ nI (W 1 k) = nI c by rw [q_eq (by omega) (by omega)]; exact h3)]
      simp (disch := omega) only [n_0, n_1, n_2, n_3, n_4, n_5, n_6, n_7, n_8, n_9, n_10, n_12, n_13, n_16, n_30, n_60, n_61, n_86, n_99, n_100, n_200, n_201, n_1023, n_65535, n_10000, n_1000000, ↓q_m1, ↓q_m2, ↓q_m3, ↓q_m4, ↓q_m5, ↓q_m6, ↓q_m7, ↓q_m8, ↓q_m1000, ↓q_m100000, q_add, q_addm, q_inB, q_cl, q_le, q_lt, q_eq, q_eqm, q_meq, q_mltT, q_ltm, q_lem, q_mleT, if_true, if_false, if_pos, if_neg, Nat.reduceAdd, Nat.reduceMul, Nat.add_zero, Nat.zero_add, Nat.one_mul, not_true_eq_false, not_false_eq_true, u_row, u_self, u_ne, cb_bi, cb_bv, cb_bl]
      exact ⟨M', rfl, hX, hI, hJ⟩)
  have h' : rM (M'.1 206) W := by rw [hX.2 206 (by decide)]; exact h
  refine ⟨M', ?_, hX, hI, hJ⟩
  refine Eq.trans e ?_
  rw [f250_36, g178 h', cb_bi]
  simp (disch := omega) only [n_0, n_1, n_2, n_3, n_4, n_5, n_6, n_7, n_8, n_9, n_10, n_12, n_13, n_16, n_30, n_60, n_61, n_86, n_99, n_100, n_200, n_201, n_1023, n_65535, n_10000, n_1000000, ↓q_m1, ↓q_m2, ↓q_m3, ↓q_m4, ↓q_m5, ↓q_m6, ↓q_m7, ↓q_m8, ↓q_m1000, ↓q_m100000, q_add, q_addm, q_inB, q_cl, q_le, q_lt, q_eq, q_eqm, q_meq, q_mltT, q_ltm, q_lem, q_mleT, if_true, if_false, if_pos, if_neg, Nat.reduceAdd, Nat.reduceMul, Nat.add_zero, Nat.zero_add, Nat.one_mul, not_true_eq_false, not_false_eq_true, u_row, u_self, u_ne, cb_bi, cb_bv, cb_bl]
theorem zR.of {M M' : aM} {W : cW} {Y : cY} {m : Nat} (h : zR M W Y m) (he : ∀ a, 216 ≤ a → a ≤ 223 → M'.1 a = M.1 a) : zR M' W Y m := by
  unfold zR
  rw [he 218 (by omega) (by omega), he 220 (by omega) (by omega), he 221 (by omega) (by omega), he 222 (by omega) (by omega), he 223 (by omega) (by omega), he 219 (by omega) (by omega), he 217 (by omega) (by omega), he 216 (by omega) (by omega)]
  exact h
theorem m_steps {z : Nat} (hz : 2000 ≤ z) {M : aM} {W : cW} {Y : cY} {m y c : Nat} (h : rM (M.1 206) W) (hW : wf W) (hR : zR M W Y m) (hm : m ≤ 13) (hy : y < m) (hb : ∀ t, Y y t ≤ 1000) (hc : c < 8) :
    ∃ M', f250_21 z z (nI c) (nI y) (nI 0) M = some (some (.inl (oI (fA W (Y y) (c + 1) c))), M') ∧ Fx (fun a => a = 224) M M' := by
  obtain ⟨n, M', e, hX, hI⟩ := lr0 (fun n k M' => f250_21 z n (nI c) (nI y) (nI k) M') (c + 1) (fun k M' => Fx (fun a => a = 224) M M' ∧ ∀ i, i < k → M'.1 224 i = oI (fA W (Y y) k i)) z M (by omega) ⟨Fx.id0, fun i hi => by omega⟩ (by
    intro n k M' hk hI
    obtain ⟨hX, hI⟩ := hI
    have hF1 : Fx (fun a => a = 224) M (am_u M'.1 224 k mI, M'.2) := Fx.w hX rfl
    obtain ⟨M2, a1, a2, a3, a4⟩ := m_step1 hz (M := (am_u M'.1 224 k mI, M'.2)) (Y := Y) (m := m) (y := y) (c := k) (F := fA W (Y y) k) (by rw [hF1.2 206 (by decide)]; exact h) hW (hR.of (fun a q1 q2 => hF1.2 a (by omega))) hm hy hb (by omega) (fun i v q => by have := fA_b W (Y y) k i v q; omega) (fun i hi => by show am_u M'.1 224 k mI 224 i = _; rw [u_ne (by omega)]; exact hI i hi) (by simp only [u_self]) (f250_21 z n) (nI c)
    rw [f250_21]
    simp (disch := omega) only [n_0, n_1, n_2, n_3, n_4, n_5, n_6, n_7, n_8, n_9, n_10, n_12, n_13, n_16, n_30, n_60, n_61, n_86, n_99, n_100, n_200, n_201, n_1023, n_65535, n_10000, n_1000000, ↓q_m1, ↓q_m2, ↓q_m3, ↓q_m4, ↓q_m5, ↓q_m6, ↓q_m7, ↓q_m8, ↓q_m1000, ↓q_m100000, q_add, q_addm, q_inB, q_cl, q_le, q_lt, q_eq, q_eqm, q_meq, q_mltT, q_ltm, q_lem, q_mleT, if_true, if_false, if_pos, if_neg, Nat.reduceAdd, Nat.reduceMul, Nat.add_zero, Nat.zero_add, Nat.one_mul, not_true_eq_false, not_false_eq_true, u_row, u_self, u_ne, cb_bi, cb_bv, cb_bl]
    refine ⟨M2, a1, hF1.trans a2, ?_⟩
    intro i hi
    by_cases q : i = k
    · rw [q, fA_s]; exact a4
    · rw [fA_n _ _ q]; exact a3 i (by omega))
  refine ⟨M', ?_, hX⟩
  refine Eq.trans e ?_
  rw [f250_21]
  simp (disch := omega) only [n_0, n_1, n_2, n_3, n_4, n_5, n_6, n_7, n_8, n_9, n_10, n_12, n_13, n_16, n_30, n_60, n_61, n_86, n_99, n_100, n_200, n_201, n_1023, n_65535, n_10000, n_1000000, ↓q_m1, ↓q_m2, ↓q_m3, ↓q_m4, ↓q_m5, ↓q_m6, ↓q_m7, ↓q_m8, ↓q_m1000, ↓q_m100000, q_add, q_addm, q_inB, q_cl, q_le, q_lt, q_eq, q_eqm, q_meq, q_mltT, q_ltm, q_lem, q_mleT, if_true, if_false, if_pos, if_neg, Nat.reduceAdd, Nat.reduceMul, Nat.add_zero, Nat.zero_add, Nat.one_mul, not_true_eq_false, not_false_eq_true, u_row, u_self, u_ne, cb_bi, cb_bv, cb_bl, hI c (by omega)]
theorem P_steps {z : Nat} (hz : 2000 ≤ z) {M : aM} {W : cW} (h : RW M W) (x1 x2 : Int32) : PR (f104 z x1 x2 M) (f250 z x1 x2) := by
  have hN0 := h.n0
  have hN3 := h.n3
  by_cases o0 : okN (W 0 3) x1
  · obtain ⟨c, hc, rfl⟩ := o0
    by_cases o1 : okY W x2
    · obtain ⟨h7, y, hy, rfl⟩ := o1
      have hy2 : y ≤ W 0 0 := Nat.le_of_lt_succ hy
      obtain ⟨M1, e1, e2⟩ := c_short hz h.w h.c (r := 33 + (1 + y)) (s := tY W y) (c := c) (by omega) (fun t ht => h.row hy2 ht) (fun t _ => h.rb hy2 t) (by omega)
      refine PR.q h (v := oI (fA W (tY W y) (c + 1) c)) (M1 := M1) ?_ (kR.fx e2 (fun a q => by unfold Sc; omega)) (fun M2 h1 => ?_)
      · simp only [f104, k8t h.c h.w hc, k11t h.c h.w h7 hy2, cb_bi, i1f, i1n]
        simp (disch := omega) only [n_0, n_1, n_2, n_3, n_4, n_5, n_6, n_7, n_8, n_9, n_10, n_12, n_13, n_16, n_30, n_60, n_61, n_86, n_99, n_100, n_200, n_201, n_1023, n_65535, n_10000, n_1000000, ↓q_m1, ↓q_m2, ↓q_m3, ↓q_m4, ↓q_m5, ↓q_m6, ↓q_m7, ↓q_m8, ↓q_m1000, ↓q_m100000, q_add, q_addm, q_inB, q_cl, q_le, q_lt, q_eq, q_eqm, q_meq, q_mltT, q_ltm, q_lem, q_mleT, if_true, if_false, if_pos, if_neg, Nat.reduceAdd, Nat.reduceMul, Nat.add_zero, Nat.zero_add, Nat.one_mul, not_true_eq_false, not_false_eq_true, u_row, u_self, u_ne, cb_bi, cb_bv, cb_bl, e1]
      · obtain ⟨M3, e, k, r, R⟩ := m_Yt hz h1 h7 hy2
        obtain ⟨M4, b1, b2⟩ := m_steps hz (y := y) (c := c) r h1.w R (by omega) hy (h1.rb hy2) (by omega)
        refine ⟨M4, ?_, k.trans (kR.fx b2 (fun a q => by unfold Sc; omega))⟩
        simp only [f250, e, k182t r h1.w hc, cb_bi, i1f, i1n]
        exact b1
    · refine PR.s h (v := -2) (by simp only [f104, k8t h.c h.w hc, k11f h.c h.w o1, cb_bi, i1f, i0n]) (fun M1 h1 => ?_)
      obtain ⟨M2, e, k⟩ := m_Yf hz h1 o1
      exact ⟨M2, by simp only [f250, e, cb_bi, i0f], k⟩
  · refine PR.s h (v := -2) (by simp only [f104, k8f h.c h.w o0, cb_bi, i0f]) (fun M1 h1 => ?_)
    by_cases o1 : okY W x2
    · obtain ⟨h7, y, hy, rfl⟩ := o1
      obtain ⟨M2, e, k, r, R⟩ := m_Yt hz h1 h7 (Nat.le_of_lt_succ hy)
      exact ⟨M2, by simp only [f250, e, k182f r h1.w o0, cb_bi, i1f, i0n], k⟩
    · obtain ⟨M2, e, k⟩ := m_Yf hz h1 o1
      exact ⟨M2, by simp only [f250, e, cb_bi, i0f], k⟩
