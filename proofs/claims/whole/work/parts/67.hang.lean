/-! ===== bounds of the years ===== -/
theorem qr_rp {W : cW} (hT : W 0 4 ≤ 16) {law c n : Nat} : ∀ (f : Nat) (s : Nat → Nat) (k r : Nat), r < 65536 → (qr W law c n f s k r).2.2.2 < 65536
  | 0, _, _, _, h => h
  | f + 1, s, k, r, h => by
    unfold qr
    split
    · exact h
    · exact qr_rp hT f _ _ _ (Nat.or_lt_two_pow (n := 16) h (bN_ltm _ hT))
theorem qd_rp {W : cW} (hW : wf W) (law c n : Nat) (s : Nat → Nat) : (qd W law c n s).2.2.2 < 65536 := qr_rp hW.2.2.2.2.1 17 s 0 0 (by omega)
theorem qd_lo {W : cW} (hW : wf W) (law c n : Nat) (s : Nat → Nat) : (qd W law c n s).2.1.2.2.1 ≤ n ∧ (qd W law c n s).2.1.2.2.2 ≤ n := by
  obtain ⟨s', h⟩ := (qr_end hW (law := law) (c := c) (n := n) 17 s 0 0 (nW_range hW s)).2.2.1
  show (qr W law c n 17 s 0 0).2.1.2.2.1 ≤ n ∧ (qr W law c n 17 s 0 0).2.1.2.2.2 ≤ n
  rw [h]
  have := (pl_ix hW law s' c n).1
  omega
def yI (Y : cY) : Prop := ∀ q, Y 30 q ≤ 17 ∧ Y 31 q < 65536 ∧ Y 32 q ≤ 1000 ∧ Y 33 q ≤ 1000 ∧ (Y 30 q = 0 → Y 32 q = 0)
theorem yA_I {W : cW} {law c n : Nat} {p : yS} (h : yI p.2) : yI (yA W law c n p).2 := by
  intro q
  simp (disch := omega) only [yA, yu_n]
  exact h q
theorem yT_I {W : cW} (hW : wf W) {law : Nat} {hd : Nat → Bool} {y : Nat} {p : yS} {k : Nat} (hk : k < W 0 5) (h : yI p.2) : yI (yT W law hd y p k).2 := by
  have hQ : W 0 5 ≤ 10 := hW.2.2.2.2.2.1
  have hw := hW.2.2.2.2.2.2.2.2.2.1 k hk
  unfold yT
  split
  · intro q
    have h' := yA_I (W := W) (law := law) (c := W 4 k) (n := W 5 k) h q
    have h1 := qd_tm hW law (W 4 k) (W 5 k) p.1
    have h2 := qd_rp hW law (W 4 k) (W 5 k) p.1
    have h3 := qd_lo hW law (W 4 k) (W 5 k) p.1
    simp (disch := omega) only [yN, yu_n, yu_s, up]
    by_cases e : q = k
    · simp only [if_pos e]
      omega
    · simp only [if_neg e]
      exact h'
  · exact h
theorem yB_I {W : cW} {law y : Nat} {p : yS} {k : Nat} (h : yI p.2) : yI (yB W law y p k).2 := by
  unfold yB
  split
  · exact yA_I h
  · exact h
theorem yY_I {W : cW} (hW : wf W) {law : Nat} {gn hd : Nat → Bool} {y : Nat} {p : yS} (h : yI p.2) : yI (yY W law gn hd y p).2 := by
  unfold yY
  refine fo_P (fun p : yS => yI p.2) (N := W 0 6) ?_ (fun _ _ _ q => yB_I q) _ (Nat.le_refl _)
  exact fo_P (fun p : yS => yI p.2) (st := yT W law hd y) (a := (fo (yL W gn y) p.1 (W 0 6), p.2)) (N := W 0 5) h (fun _ _ hk q => yT_I hW hk q) _ (Nat.le_refl _)
theorem yV_I {W : cW} (hW : wf W) {law : Nat} {gn hd : Nat → Bool} {s : Nat → Nat} : ∀ y, y ≤ 12 → yI (yV W law gn hd s y).2
  | 0, _ => fun q => by
    show 0 ≤ 17 ∧ 0 < 65536 ∧ 0 ≤ 1000 ∧ 0 ≤ 1000 ∧ (0 = 0 → 0 = 0)
    omega
  | y + 1, h => fun q => by
    have := yY_I (law := law) (gn := gn) (hd := hd) (y := y) hW (yV_I hW (law := law) (gn := gn) (hd := hd) (s := s) y (by omega)) q
    show (yu _ (y + 1) _) 30 q ≤ 17 ∧ (yu _ (y + 1) _) 31 q < 65536 ∧ (yu _ (y + 1) _) 32 q ≤ 1000 ∧ (yu _ (y + 1) _) 33 q ≤ 1000 ∧ ((yu _ (y + 1) _) 30 q = 0 → (yu _ (y + 1) _) 32 q = 0)
    simp (disch := omega) only [yu_n]
    exact this
theorem lv_I {W : cW} (hW : wf W) (law : Nat) (gn hd : Nat → Bool) (s : Nat → Nat) : yI (lv W law gn hd s) := yV_I hW _ hW.1
/-- rows of the years -/
theorem yA_r {W : cW} {law c n : Nat} {p : yS} {j : Nat} (hj : j < 20) : (yA W law c n p).2 j = p.2 j := by
  simp (disch := omega) only [yA, yu_n]
theorem yT_r {W : cW} {law : Nat} {hd : Nat → Bool} {y : Nat} {p : yS} {k j : Nat} (hj : j < 20) : (yT W law hd y p k).2 j = p.2 j := by
  unfold yT
  split
  · simp (disch := omega) only [yN, yu_n]
    exact yA_r hj
  · rfl
theorem yB_r {W : cW} {law y : Nat} {p : yS} {k j : Nat} (hj : j < 20) : (yB W law y p k).2 j = p.2 j := by
  unfold yB
  split
  · exact yA_r hj
  · rfl
theorem yY_r {W : cW} {law : Nat} {gn hd : Nat → Bool} {y : Nat} {p : yS} {j : Nat} (hj : j < 20) : (yY W law gn hd y p).2 j = p.2 j := by
  unfold yY
  refine fo_P (fun p' : yS => p'.2 j = p.2 j) (N := W 0 6) ?_ (fun _ _ _ q => (yB_r hj).trans q) _ (Nat.le_refl _)
  exact fo_P (fun p' : yS => p'.2 j = p.2 j) (st := yT W law hd y) (a := (fo (yL W gn y) p.1 (W 0 6), p.2)) (N := W 0 5) rfl (fun _ _ _ q => (yT_r hj).trans q) _ (Nat.le_refl _)
theorem yV_rb {W : cW} (hW : wf W) {law : Nat} {gn hd : Nat → Bool} {s : Nat → Nat} (h : bd s) : ∀ y, y ≤ 12 → ∀ j, j ≤ y → bd ((yV W law gn hd s y).2 j)
  | 0, _, j, hj => by
    have : j = 0 := by omega
    subst this
    exact h
  | y + 1, hy, j, hj => by
    show bd (yu _ (y + 1) _ j)
    by_cases e : j = y + 1
    · rw [e, yu_s]
      exact yY_b hW (yV_b hW h y)
    · rw [yu_n _ _ e, yY_r (by omega)]
      exact yV_rb hW h y (by omega) j (by omega)
theorem bd_g {s : Nat → Nat} {gn : Nat → Bool} (h : bd s) : bd (fun t => if gn t = true then 0 else s t) := fun t => by
  show (if gn t = true then 0 else s t) ≤ 1000
  split
  · omega
  · exact h t
theorem lv_b {W : cW} (hW : wf W) (law : Nat) (gn hd : Nat → Bool) {s : Nat → Nat} (h : bd s) {y : Nat} (hy : y ≤ W 0 0) (t : Nat) : lv W law gn hd s y t ≤ 1000 := yV_rb hW (bd_g h) _ hW.1 y hy t
/-- the first year is what was given -/
theorem yV_0 {W : cW} {law : Nat} {gn hd : Nat → Bool} {s : Nat → Nat} : ∀ y, y ≤ 12 → (yV W law gn hd s y).2 0 = s
  | 0, _ => rfl
  | y + 1, h => by
    show yu (yY W law gn hd y (yV W law gn hd s y)).2 (y + 1) (yY W law gn hd y (yV W law gn hd s y)).1 0 = s
    rw [yu_n _ _ (by omega), yY_r (by omega)]
    exact yV_0 y (by omega)
theorem lv_0 {W : cW} (hW : wf W) (law : Nat) (gn hd : Nat → Bool) (s : Nat → Nat) : lv W law gn hd s 0 = fun t => if gn t = true then 0 else s t := yV_0 _ hW.1
/-! ===== what hangs ===== -/
def hx (W : cW) (w : Nat → Bool) (b t : Nat) : Bool := w t && (W 2 t == 8 || bt b (W 2 t) == 1)
def hg (W : cW) (w : Nat → Bool) : Nat → Nat
  | 0 => 0
  | c + 1 => if (thr W c).any (hx W w (hg W w c)) = true then hg W w c + 2 ^ c else hg W w c
theorem hg_lt (W : cW) (w : Nat → Bool) : ∀ c, hg W w c < 2 ^ c
  | 0 => by simp [hg]
  | c + 1 => by
    have := hg_lt W w c
    unfold hg
    rw [Nat.pow_succ]
    split <;> omega
theorem bt_add {b c j : Nat} (h : j < c) : bt (b + 2 ^ c) j = bt b j := by
  have e := Nat.testBit_two_pow_add_gt h b
  have x := bt_tb (b + 2 ^ c) j
  have y := bt_tb b j
  have u := bt_lt (b + 2 ^ c) j
  have v := bt_lt b j
  rw [Nat.add_comm] at e
  rw [e] at x
  have w : (bt (b + 2 ^ c) j = 1) = (bt b j = 1) := x.trans y.symm
  by_cases q : bt b j = 1
  · rw [q, w]; exact q
  · have q2 : ¬ bt (b + 2 ^ c) j = 1 := by rw [w]; exact q
    omega
theorem or_again {b c : Nat} (h : b < 2 ^ c) : (b + 2 ^ c) ||| 2 ^ c = b + 2 ^ c := by
  have e : b + 2 ^ c = b ||| 2 ^ c := by
    have := Nat.two_pow_add_eq_or_of_lt h 1
    rw [Nat.mul_one] at this
    rw [Nat.or_comm, ← this, Nat.add_comm]
  rw [e, Nat.or_assoc, Nat.or_self]
def sw (s : Nat → Nat) : Nat → Bool := fun t => decide (0 < s t)
theorem any_take {W : cW} {c k : Nat} (f : Nat → Bool) (h : k < (thr W c).length) : ((thr W c).take (k + 1)).any f = (((thr W c).take k).any f || f ((thr W c).getD k 0)) := by
  rw [th_take h, List.any_append]
  simp
theorem c_hang1 {z : Nat} (hz : 2000 ≤ z) {M : aM} {W : cW} {s : Nat → Nat} {r c b : Nat} (hW : wf W) (hC : rC M 18 W) (hs : ∀ t, t < W 0 4 → M.1 r t = nI (s t)) (hb : ∀ t, t < W 0 4 → s t ≤ 1000) (hc : c < 8) (hB : b < 2 ^ c) (K : Nat → Nat → Int32 → Int32 → aM → Option aR) :
    f66_23 z K z 18 r (nI b) (nI c) (nI (bg W c)) M = K 18 r (nI (if (thr W c).any (hx W (sw s) b) = true then b + 2 ^ c else b)) (nI (c + 1)) M := by
  have hT : W 0 4 ≤ 16 := hW.2.2.2.2.1
  have hbl := bg_le W (c + 1)
  rw [bg_s] at hbl
  have hc8 : 2 ^ c ≤ 256 := Nat.pow_le_pow_right (n := 2) (by omega) (show c ≤ 8 by omega)
  obtain ⟨n', e'⟩ := lf0 (fun n k => f66_23 z K n 18 r (nI (if ((thr W c).take k).any (hx W (sw s) b) = true then b + 2 ^ c else b)) (nI c) (nI (bg W c + k)) M) (thr W c).length z (by omega) (by
    intro n k hk
    obtain ⟨ht, htc, htm⟩ := th_at hk
    have hso := hC.so hc hk
    have hto := hC.to ht
    have hw := (hW.2.2.2.2.2.2.2.2.1 _ ht)
    have hbt := hb _ ht
    rw [any_take _ hk]
    generalize ((thr W c).take k).any (hx W (sw s) b) = A at *
    generalize (thr W c).getD k 0 = t at *
    have hbA : (if A = true then b + 2 ^ c else b) < 2147483648 := by split <;> omega
    have hor : nI (if A = true then b + 2 ^ c else b) ||| nI (2 ^ c) = nI (b + 2 ^ c) := by
      cases A
      · simp only [Bool.false_eq_true, if_false]
        exact q_or2 hB
      · simp only [if_true]
        rw [q_orN, or_again hB]
    rw [f66_23]
    by_cases h0 : 0 < s t
    · by_cases h8 : W 2 t = 8
      · rw [h8, hI_8] at hto
        have e1 : hx W (sw s) b t = true := by simp [hx, sw, h0, h8]
        simp (disch := omega) only [n_0, n_1, n_2, n_3, n_4, n_5, n_6, n_7, n_8, n_9, n_10, n_12, n_13, n_16, n_30, n_60, n_61, n_86, n_99, n_100, n_200, n_201, n_1023, n_65535, n_10000, n_1000000, ↓q_m1, q_add, q_addm, q_inB, q_cl, q_le, q_lt, q_eq, q_eqm, q_meq, q_mltT, q_ltm, q_lem, q_mleT, if_true, if_false, if_pos, if_neg, Nat.reduceAdd, Nat.reduceMul, Nat.add_zero, Nat.zero_add, Nat.one_mul, not_true_eq_false, not_false_eq_true, u_row, u_self, u_ne, cb_bi, cb_bv, cb_bl, hC.bv, bg_s, hso, hs, hto, e1, Bool.or_true, q_shl, n_31]
        rw [hor]
        rfl
      · rw [hI_n h8] at hto
        have hlt : W 2 t < c := by omega
        have ebt : bt (if A = true then b + 2 ^ c else b) (W 2 t) = bt b (W 2 t) := by
          split
          · exact bt_add hlt
          · rfl
        have hb2 := bt_lt b (W 2 t)
        by_cases h1 : bt b (W 2 t) = 1
        · have e1 : hx W (sw s) b t = true := by simp [hx, sw, h0, h1]
          simp (disch := omega) only [n_0, n_1, n_2, n_3, n_4, n_5, n_6, n_7, n_8, n_9, n_10, n_12, n_13, n_16, n_30, n_60, n_61, n_86, n_99, n_100, n_200, n_201, n_1023, n_65535, n_10000, n_1000000, ↓q_m1, q_add, q_addm, q_inB, q_cl, q_le, q_lt, q_eq, q_eqm, q_meq, q_mltT, q_ltm, q_lem, q_mleT, if_true, if_false, if_pos, if_neg, Nat.reduceAdd, Nat.reduceMul, Nat.add_zero, Nat.zero_add, Nat.one_mul, not_true_eq_false, not_false_eq_true, u_row, u_self, u_ne, cb_bi, cb_bv, cb_bl, hC.bv, bg_s, hso, hs, hto, e1, Bool.or_true, q_shl, n_31, q_bt, ebt, h1]
          rw [hor]
          rfl
        · have e1 : hx W (sw s) b t = false := by simp [hx, sw, h0, h8, h1]
          simp (disch := omega) only [n_0, n_1, n_2, n_3, n_4, n_5, n_6, n_7, n_8, n_9, n_10, n_12, n_13, n_16, n_30, n_60, n_61, n_86, n_99, n_100, n_200, n_201, n_1023, n_65535, n_10000, n_1000000, ↓q_m1, q_add, q_addm, q_inB, q_cl, q_le, q_lt, q_eq, q_eqm, q_meq, q_mltT, q_ltm, q_lem, q_mleT, if_true, if_false, if_pos, if_neg, Nat.reduceAdd, Nat.reduceMul, Nat.add_zero, Nat.zero_add, Nat.one_mul, not_true_eq_false, not_false_eq_true, u_row, u_self, u_ne, cb_bi, cb_bv, cb_bl, hC.bv, bg_s, hso, hs, hto, e1, Bool.or_false, q_shl, n_31, q_bt, ebt]
          rfl
    · have e1 : hx W (sw s) b t = false := by simp [hx, sw, h0]
      simp (disch := omega) only [n_0, n_1, n_2, n_3, n_4, n_5, n_6, n_7, n_8, n_9, n_10, n_12, n_13, n_16, n_30, n_60, n_61, n_86, n_99, n_100, n_200, n_201, n_1023, n_65535, n_10000, n_1000000, ↓q_m1, q_add, q_addm, q_inB, q_cl, q_le, q_lt, q_eq, q_eqm, q_meq, q_mltT, q_ltm, q_lem, q_mleT, if_true, if_false, if_pos, if_neg, Nat.reduceAdd, Nat.reduceMul, Nat.add_zero, Nat.zero_add, Nat.one_mul, not_true_eq_false, not_false_eq_true, u_row, u_self, u_ne, cb_bi, cb_bv, cb_bl, hC.bv, bg_s, hso, hs, hto, e1, Bool.or_false]
      rfl)
  rw [List.take_length] at e'
  refine Eq.trans e' ?_
  rw [f66_23]
  simp (disch := omega) only [n_0, n_1, n_2, n_3, n_4, n_5, n_6, n_7, n_8, n_9, n_10, n_12, n_13, n_16, n_30, n_60, n_61, n_86, n_99, n_100, n_200, n_201, n_1023, n_65535, n_10000, n_1000000, ↓q_m1, q_add, q_addm, q_inB, q_cl, q_le, q_lt, q_eq, q_eqm, q_meq, q_mltT, q_ltm, q_lem, q_mleT, if_true, if_false, if_pos, if_neg, Nat.reduceAdd, Nat.reduceMul, Nat.add_zero, Nat.zero_add, Nat.one_mul, not_true_eq_false, not_false_eq_true, u_row, u_self, u_ne, cb_bi, cb_bv, cb_bl, hC.bv, bg_s]
/-- the class's hanging -/
theorem c_hang {z : Nat} (hz : 2000 ≤ z) {M : aM} {W : cW} {s : Nat → Nat} {r : Nat} (u : Nat) (hW : wf W) (hC : rC M 18 W) (hs : ∀ t, t < W 0 4 → M.1 r t = nI (s t)) (hb : ∀ t, t < W 0 4 → s t ≤ 1000) :
    f66 z u 18 r M = some (some (.inl (nI (hg W (sw s) (W 0 3)))), M) := by
  have hC8 : W 0 3 ≤ 8 := hW.2.2.2.1
  unfold f66
  simp only [n_0]
  obtain ⟨n, e⟩ := lf0 (fun n c => f66_5 z n 18 r (nI (hg W (sw s) c)) (nI c) M) (W 0 3) z (by omega) (by
    intro n c hc
    have hB := hg_lt W (sw s) c
    rw [f66_5]
    simp (disch := omega) only [n_0, n_1, n_2, n_3, n_4, n_5, n_6, n_7, n_8, n_9, n_10, n_12, n_13, n_16, n_30, n_60, n_61, n_86, n_99, n_100, n_200, n_201, n_1023, n_65535, n_10000, n_1000000, ↓q_m1, q_add, q_addm, q_inB, q_cl, q_le, q_lt, q_eq, q_eqm, q_meq, q_mltT, q_ltm, q_lem, q_mleT, if_true, if_false, if_pos, if_neg, Nat.reduceAdd, Nat.reduceMul, Nat.add_zero, Nat.zero_add, Nat.one_mul, not_true_eq_false, not_false_eq_true, u_row, u_self, u_ne, cb_bi, cb_bv, cb_bl, hC.i4, hC.bv]
    rw [c_hang1 hz hW hC hs hb (by omega) hB]
    rfl)
  refine Eq.trans e ?_
  rw [f66_5]
  simp (disch := omega) only [n_0, n_1, n_2, n_3, n_4, n_5, n_6, n_7, n_8, n_9, n_10, n_12, n_13, n_16, n_30, n_60, n_61, n_86, n_99, n_100, n_200, n_201, n_1023, n_65535, n_10000, n_1000000, ↓q_m1, q_add, q_addm, q_inB, q_cl, q_le, q_lt, q_eq, q_eqm, q_meq, q_mltT, q_ltm, q_lem, q_mleT, if_true, if_false, if_pos, if_neg, Nat.reduceAdd, Nat.reduceMul, Nat.add_zero, Nat.zero_add, Nat.one_mul, not_true_eq_false, not_false_eq_true, u_row, u_self, u_ne, cb_bi, cb_bv, cb_bl, hC.i4]
/-- wholeOf -/
theorem c_whole {z : Nat} (hz : 2000 ≤ z) {M : aM} {W : cW} {s : Nat → Nat} {r c : Nat} (u : Nat) (hW : wf W) (hC : rC M 18 W) (hs : ∀ t, t < W 0 4 → M.1 r t = nI (s t)) (hb : ∀ t, t < W 0 4 → s t ≤ 1000) (hc : c < 8) :
    f65 z u 18 r (nI c) M = some (some (.inl (nI (nW s (thr W c)))), M) := by
  have hT : W 0 4 ≤ 16 := hW.2.2.2.2.1
  have hbl := bg_le W (c + 1)
  rw [bg_s] at hbl
  unfold f65
  simp (disch := omega) only [n_0, n_1, n_2, n_3, n_4, n_5, n_6, n_7, n_8, n_9, n_10, n_12, n_13, n_16, n_30, n_60, n_61, n_86, n_99, n_100, n_200, n_201, n_1023, n_65535, n_10000, n_1000000, ↓q_m1, q_add, q_addm, q_inB, q_cl, q_le, q_lt, q_eq, q_eqm, q_meq, q_mltT, q_ltm, q_lem, q_mleT, if_true, if_false, if_pos, if_neg, Nat.reduceAdd, Nat.reduceMul, Nat.add_zero, Nat.zero_add, Nat.one_mul, not_true_eq_false, not_false_eq_true, u_row, u_self, u_ne, cb_bi, cb_bv, cb_bl, hC.bv]
  obtain ⟨n', e'⟩ := lf0 (fun n k => f65_11 z n 18 r (nI c) (nI (nW s ((thr W c).take k))) (nI (bg W c + k)) M) (thr W c).length z (by omega) (by
    intro n k hk
    obtain ⟨ht, htc, htm⟩ := th_at hk
    have hso := hC.so hc hk
    have hbt := hb _ ht
    have e : nW s ((thr W c).take (k + 1)) = nW s ((thr W c).take k) + (if 0 < s ((thr W c).getD k 0) then 1 else 0) := ws_take _ _ hk
    rw [e]
    generalize (thr W c).getD k 0 = t at *
    rw [f65_11]
    by_cases h0 : 0 < s t
    · simp (disch := omega) only [n_0, n_1, n_2, n_3, n_4, n_5, n_6, n_7, n_8, n_9, n_10, n_12, n_13, n_16, n_30, n_60, n_61, n_86, n_99, n_100, n_200, n_201, n_1023, n_65535, n_10000, n_1000000, ↓q_m1, q_add, q_addm, q_inB, q_cl, q_le, q_lt, q_eq, q_eqm, q_meq, q_mltT, q_ltm, q_lem, q_mleT, if_true, if_false, if_pos, if_neg, Nat.reduceAdd, Nat.reduceMul, Nat.add_zero, Nat.zero_add, Nat.one_mul, not_true_eq_false, not_false_eq_true, u_row, u_self, u_ne, cb_bi, cb_bv, cb_bl, hC.bv, bg_s, hso, hs, if_pos h0]
      rfl
    · simp (disch := omega) only [n_0, n_1, n_2, n_3, n_4, n_5, n_6, n_7, n_8, n_9, n_10, n_12, n_13, n_16, n_30, n_60, n_61, n_86, n_99, n_100, n_200, n_201, n_1023, n_65535, n_10000, n_1000000, ↓q_m1, q_add, q_addm, q_inB, q_cl, q_le, q_lt, q_eq, q_eqm, q_meq, q_mltT, q_ltm, q_lem, q_mleT, if_true, if_false, if_pos, if_neg, Nat.reduceAdd, Nat.reduceMul, Nat.add_zero, Nat.zero_add, Nat.one_mul, not_true_eq_false, not_false_eq_true, u_row, u_self, u_ne, cb_bi, cb_bv, cb_bl, hC.bv, bg_s, hso, hs, if_neg h0]
      rfl)
  rw [List.take_length] at e'
  refine Eq.trans e' ?_
  rw [f65_11]
  simp (disch := omega) only [n_0, n_1, n_2, n_3, n_4, n_5, n_6, n_7, n_8, n_9, n_10, n_12, n_13, n_16, n_30, n_60, n_61, n_86, n_99, n_100, n_200, n_201, n_1023, n_65535, n_10000, n_1000000, ↓q_m1, q_add, q_addm, q_inB, q_cl, q_le, q_lt, q_eq, q_eqm, q_meq, q_mltT, q_ltm, q_lem, q_mleT, if_true, if_false, if_pos, if_neg, Nat.reduceAdd, Nat.reduceMul, Nat.add_zero, Nat.zero_add, Nat.one_mul, not_true_eq_false, not_false_eq_true, u_row, u_self, u_ne, cb_bi, cb_bv, cb_bl, hC.bv, bg_s]
/-! the model: what is torn, whole, hung -/
theorem g227 {z : Nat} {M : aM} {W : cW} {Y : cY} {m t y : Nat} (hW : wf W) (hR : zR M W Y m) (hm : m ≤ 13) (ht : t < W 0 4) (hy : y < m) : f227 z (nI t) (nI y) M = some (some (.inl (nI (Y y t))), M) := by
  have hT : W 0 4 ≤ 16 := hW.2.2.2.2.1
  unfold f227
  simp (disch := omega) only [n_0, n_1, n_2, n_3, n_4, n_5, n_6, n_7, n_8, n_9, n_10, n_12, n_13, n_16, n_30, n_60, n_61, n_86, n_99, n_100, n_200, n_201, n_1023, n_65535, n_10000, n_1000000, ↓q_m1, q_add, q_addm, q_inB, q_cl, q_le, q_lt, q_eq, q_eqm, q_meq, q_mltT, q_ltm, q_lem, q_mleT, if_true, if_false, if_pos, if_neg, Nat.reduceAdd, Nat.reduceMul, Nat.add_zero, Nat.zero_add, Nat.one_mul, not_true_eq_false, not_false_eq_true, u_row, u_self, u_ne, cb_bi, cb_bv, cb_bl, q_mul, hR.1 y hy t ht]
def tn (s : Nat → Nat) : Nat → Bool := fun t => decide (s t = 0)
theorem g228 {z : Nat} (hz : 2000 ≤ z) {M : aM} {W : cW} {Y : cY} {m y : Nat} (h : rM (M.1 206) W) (hW : wf W) (hR : zR M W Y m) (hm : m ≤ 13) (hy : y < m) (hb : ∀ t, Y y t ≤ 1000) : f228 z (nI y) M = some (some (.inl (nI (bN (tn (Y y)) (W 0 4)))), M) := by
  have hT : W 0 4 ≤ 16 := hW.2.2.2.2.1
  unfold f228
  simp only [n_0]
  obtain ⟨n, e⟩ := lf0 (fun n k => f228_4 z n (nI y) (nI (bN (tn (Y y)) k)) (nI k) M) (W 0 4) z (by omega) (by
    intro n k hk
    have hbk := hb k
    rw [f228_4, g178 h, cb_bi]
    simp (disch := omega) only [n_0, n_1, n_2, n_3, n_4, n_5, n_6, n_7, n_8, n_9, n_10, n_12, n_13, n_16, n_30, n_60, n_61, n_86, n_99, n_100, n_200, n_201, n_1023, n_65535, n_10000, n_1000000, ↓q_m1, q_add, q_addm, q_inB, q_cl, q_le, q_lt, q_eq, q_eqm, q_meq, q_mltT, q_ltm, q_lem, q_mleT, if_true, if_false, if_pos, if_neg, Nat.reduceAdd, Nat.reduceMul, Nat.add_zero, Nat.zero_add, Nat.one_mul, not_true_eq_false, not_false_eq_true, u_row, u_self, u_ne, cb_bi, cb_bv, cb_bl, g227 hW hR hm hk hy]
    rw [bN_or1]
    by_cases h0 : Y y k = 0
    · have e1 : tn (Y y) k = true := by simp [tn, h0]
      simp (disch := omega) only [n_0, n_1, n_2, n_3, n_4, n_5, n_6, n_7, n_8, n_9, n_10, n_12, n_13, n_16, n_30, n_60, n_61, n_86, n_99, n_100, n_200, n_201, n_1023, n_65535, n_10000, n_1000000, ↓q_m1, q_add, q_addm, q_inB, q_cl, q_le, q_lt, q_eq, q_eqm, q_meq, q_mltT, q_ltm, q_lem, q_mleT, if_true, if_false, if_pos, if_neg, Nat.reduceAdd, Nat.reduceMul, Nat.add_zero, Nat.zero_add, Nat.one_mul, not_true_eq_false, not_false_eq_true, u_row, u_self, u_ne, cb_bi, cb_bv, cb_bl, e1, q_shl, q_orN, n_31]
    · have e1 : tn (Y y) k = false := by simp [tn, h0]
      simp (disch := omega) only [n_0, n_1, n_2, n_3, n_4, n_5, n_6, n_7, n_8, n_9, n_10, n_12, n_13, n_16, n_30, n_60, n_61, n_86, n_99, n_100, n_200, n_201, n_1023, n_65535, n_10000, n_1000000, ↓q_m1, q_add, q_addm, q_inB, q_cl, q_le, q_lt, q_eq, q_eqm, q_meq, q_mltT, q_ltm, q_lem, q_mleT, if_true, if_false, if_pos, if_neg, Nat.reduceAdd, Nat.reduceMul, Nat.add_zero, Nat.zero_add, Nat.one_mul, not_true_eq_false, not_false_eq_true, u_row, u_self, u_ne, cb_bi, cb_bv, cb_bl, e1, q_orN, Bool.false_eq_true])
  refine Eq.trans e ?_
  rw [f228_4, g178 h, cb_bi]
  simp (disch := omega) only [n_0, n_1, n_2, n_3, n_4, n_5, n_6, n_7, n_8, n_9, n_10, n_12, n_13, n_16, n_30, n_60, n_61, n_86, n_99, n_100, n_200, n_201, n_1023, n_65535, n_10000, n_1000000, ↓q_m1, q_add, q_addm, q_inB, q_cl, q_le, q_lt, q_eq, q_eqm, q_meq, q_mltT, q_ltm, q_lem, q_mleT, if_true, if_false, if_pos, if_neg, Nat.reduceAdd, Nat.reduceMul, Nat.add_zero, Nat.zero_add, Nat.one_mul, not_true_eq_false, not_false_eq_true, u_row, u_self, u_ne, cb_bi, cb_bv, cb_bl]
theorem q_not {A B : Nat} (hB : B < 2147483648) : nI A &&& (nI B ^^^ mI) = nI (A &&& (4294967295 - B)) := by
  have e : nI B ^^^ mI = nI (4294967295 - B) := by
    apply Int32.toBitVec_inj.mp
    rw [Int32.toBitVec_xor]
    show BitVec.ofNat 32 B ^^^ BitVec.ofNat 32 4294967295 = BitVec.ofNat 32 (4294967295 - B)
    rw [show BitVec.ofNat 32 4294967295 = BitVec.allOnes 32 by decide, BitVec.xor_allOnes]
    apply BitVec.eq_of_toNat_eq
    rw [BitVec.toNat_not, BitVec.toNat_ofNat, BitVec.toNat_ofNat, Nat.mod_eq_of_lt (show B < 2 ^ 32 by omega), Nat.mod_eq_of_lt (show 4294967295 - B < 2 ^ 32 by omega)]
  rw [e, q_andN]
theorem bN_not (p q : Nat → Bool) {n : Nat} (hn : n ≤ 16) : bN p n &&& (4294967295 - bN q n) = bN (fun t => p t && !q t) n := by
  apply Nat.eq_of_testBit_eq
  intro k
  have hl : bN q n < 2 ^ 32 := bN_ltm q (by omega)
  have e := Nat.testBit_two_pow_sub_succ hl k
  rw [show 2 ^ 32 - (bN q n + 1) = 4294967295 - bN q n by omega] at e
  rw [Nat.testBit_and, e, bN_tb, bN_tb, bN_tb]
  by_cases h : k < n
  · simp [h, show k < 32 by omega]
  · simp [h]
theorem sw_tn (s : Nat → Nat) (n : Nat) : bN (fun t => true && !tn s t) n = bN (sw s) n := bN_cong n (fun k _ => by
  unfold sw tn
  by_cases h : s k = 0
  · simp [h]
  · simp [h]; omega)
theorem g229 {z : Nat} (hz : 2000 ≤ z) {M : aM} {W : cW} {Y : cY} {m y : Nat} (h : rM (M.1 206) W) (hW : wf W) (hR : zR M W Y m) (hm : m ≤ 13) (hy : y < m) (hb : ∀ t, Y y t ≤ 1000) : f229 z (nI y) M = some (some (.inl (nI (bN (sw (Y y)) (W 0 4)))), M) := by
  have hT : W 0 4 ≤ 16 := hW.2.2.2.2.1
  have hB := bN_lt16 (tn (Y y)) hT
  have hp := Nat.two_pow_pos (W 0 4)
  unfold f229
  rw [g178 h, cb_bi, g228 hz h hW hR hm hy hb, cb_bi]
  simp (disch := omega) only [n_31, n_1, q_shl, ↓q_m1, q_sub]
  rw [q_not (by omega), ← bN_all (W 0 4), bN_not _ _ hT, sw_tn]
theorem any_thT (W : cW) (f : Nat → Bool) (c k : Nat) : (thT W c (k + 1)).any f = ((thT W c k).any f || (decide (W 1 k = c) && f k)) := by
  rw [thT_succ, List.any_append]
  by_cases h : W 1 k = c <;> simp [h]
theorem m_hung1 {z : Nat} (hz : 2000 ≤ z) {M : aM} {W : cW} (h : rM (M.1 206) W) (hW : wf W) {w : Nat → Bool} {X c b : Nat} (hX : X < 65536) (hw : ∀ t, t < W 0 4 → (bt X t = 1) = (w t = true)) (hc : c < 8) (hB : b < 2 ^ c) (K : Int32 → Int32 → Int32 → aM → Option aR) :
    f230_18 z K z (nI X) (nI b) (nI c) (nI 0) (nI 0) M = K (nI X) (nI (if (thr W c).any (hx W w b) = true then b + 2 ^ c else b)) (nI (c + 1)) M := by
  have hT : W 0 4 ≤ 16 := hW.2.2.2.2.1
  have hC8 : W 0 3 ≤ 8 := hW.2.2.2.1
  have hc8 : 2 ^ c ≤ 256 := Nat.pow_le_pow_right (n := 2) (by omega) (show c ≤ 8 by omega)
  obtain ⟨n, e⟩ := lf0 (fun n k => f230_18 z K n (nI X) (nI b) (nI c) (nI (if (thT W c k).any (hx W w b) = true then 1 else 0)) (nI k) M) (W 0 4) z (by omega) (by
    intro n k hk
    have hwk := hw k hk
    have hbx := bt_lt X k
    have hww := (hW.2.2.2.2.2.2.2.2.1 k hk)
    rw [any_thT, f230_18, g178 h, cb_bi]
    generalize (thT W c k).any (hx W w b) = A at *
    cases A
    · simp only [Bool.false_or, Bool.false_eq_true, if_false]
      simp (disch := omega) only [n_0, n_1, n_2, n_3, n_4, n_5, n_6, n_7, n_8, n_9, n_10, n_12, n_13, n_16, n_30, n_60, n_61, n_86, n_99, n_100, n_200, n_201, n_1023, n_65535, n_10000, n_1000000, ↓q_m1, q_add, q_addm, q_inB, q_cl, q_le, q_lt, q_eq, q_eqm, q_meq, q_mltT, q_ltm, q_lem, q_mleT, if_true, if_false, if_pos, if_neg, Nat.reduceAdd, Nat.reduceMul, Nat.add_zero, Nat.zero_add, Nat.one_mul, not_true_eq_false, not_false_eq_true, u_row, u_self, u_ne, cb_bi, cb_bv, cb_bl]
      rw [g172 z M (by omega) (by omega), cb_bi]
      by_cases h1 : bt X k = 1
      · have hwt : w k = true := by rw [← hwk]; exact h1
        simp (disch := omega) only [n_0, n_1, n_2, n_3, n_4, n_5, n_6, n_7, n_8, n_9, n_10, n_12, n_13, n_16, n_30, n_60, n_61, n_86, n_99, n_100, n_200, n_201, n_1023, n_65535, n_10000, n_1000000, ↓q_m1, q_add, q_addm, q_inB, q_cl, q_le, q_lt, q_eq, q_eqm, q_meq, q_mltT, q_ltm, q_lem, q_mleT, if_true, if_false, if_pos, if_neg, Nat.reduceAdd, Nat.reduceMul, Nat.add_zero, Nat.zero_add, Nat.one_mul, not_true_eq_false, not_false_eq_true, u_row, u_self, u_ne, cb_bi, cb_bv, cb_bl, h1, g185 h hW hk]
        by_cases h2 : W 1 k = c
        · simp (disch := omega) only [n_0, n_1, n_2, n_3, n_4, n_5, n_6, n_7, n_8, n_9, n_10, n_12, n_13, n_16, n_30, n_60, n_61, n_86, n_99, n_100, n_200, n_201, n_1023, n_65535, n_10000, n_1000000, ↓q_m1, q_add, q_addm, q_inB, q_cl, q_le, q_lt, q_eq, q_eqm, q_meq, q_mltT, q_ltm, q_lem, q_mleT, if_true, if_false, if_pos, if_neg, Nat.reduceAdd, Nat.reduceMul, Nat.add_zero, Nat.zero_add, Nat.one_mul, not_true_eq_false, not_false_eq_true, u_row, u_self, u_ne, cb_bi, cb_bv, cb_bl, h2, g186 h hW hk]
          by_cases h8 : W 2 k = 8
          · have e1 : hx W w b k = true := by simp [hx, hwt, h8]
            simp only [h8, hI_8, e1, decide_true, Bool.and_self, if_true]
          · rw [hI_n h8]
            simp (disch := omega) only [n_0, n_1, n_2, n_3, n_4, n_5, n_6, n_7, n_8, n_9, n_10, n_12, n_13, n_16, n_30, n_60, n_61, n_86, n_99, n_100, n_200, n_201, n_1023, n_65535, n_10000, n_1000000, ↓q_m1, q_add, q_addm, q_inB, q_cl, q_le, q_lt, q_eq, q_eqm, q_meq, q_mltT, q_ltm, q_lem, q_mleT, if_true, if_false, if_pos, if_neg, Nat.reduceAdd, Nat.reduceMul, Nat.add_zero, Nat.zero_add, Nat.one_mul, not_true_eq_false, not_false_eq_true, u_row, u_self, u_ne, cb_bi, cb_bv, cb_bl]
            rw [g172 z M (by omega) (by omega), cb_bi]
            have hb2 := bt_lt b (W 2 k)
            by_cases h3 : bt b (W 2 k) = 1
            · have e1 : hx W w b k = true := by simp [hx, hwt, h3]
              simp (disch := omega) only [n_0, n_1, n_2, n_3, n_4, n_5, n_6, n_7, n_8, n_9, n_10, n_12, n_13, n_16, n_30, n_60, n_61, n_86, n_99, n_100, n_200, n_201, n_1023, n_65535, n_10000, n_1000000, ↓q_m1, q_add, q_addm, q_inB, q_cl, q_le, q_lt, q_eq, q_eqm, q_meq, q_mltT, q_ltm, q_lem, q_mleT, if_true, if_false, if_pos, if_neg, Nat.reduceAdd, Nat.reduceMul, Nat.add_zero, Nat.zero_add, Nat.one_mul, not_true_eq_false, not_false_eq_true, u_row, u_self, u_ne, cb_bi, cb_bv, cb_bl, h3, e1, decide_true, Bool.and_self]
            · have e1 : hx W w b k = false := by simp [hx, hwt, h8, h3]
              simp (disch := omega) only [n_0, n_1, n_2, n_3, n_4, n_5, n_6, n_7, n_8, n_9, n_10, n_12, n_13, n_16, n_30, n_60, n_61, n_86, n_99, n_100, n_200, n_201, n_1023, n_65535, n_10000, n_1000000, ↓q_m1, q_add, q_addm, q_inB, q_cl, q_le, q_lt, q_eq, q_eqm, q_meq, q_mltT, q_ltm, q_lem, q_mleT, if_true, if_false, if_pos, if_neg, Nat.reduceAdd, Nat.reduceMul, Nat.add_zero, Nat.zero_add, Nat.one_mul, not_true_eq_false, not_false_eq_true, u_row, u_self, u_ne, cb_bi, cb_bv, cb_bl, e1, decide_true, Bool.and_false, Bool.false_eq_true]
        · simp (disch := omega) only [n_0, n_1, n_2, n_3, n_4, n_5, n_6, n_7, n_8, n_9, n_10, n_12, n_13, n_16, n_30, n_60, n_61, n_86, n_99, n_100, n_200, n_201, n_1023, n_65535, n_10000, n_1000000, ↓q_m1, q_add, q_addm, q_inB, q_cl, q_le, q_lt, q_eq, q_eqm, q_meq, q_mltT, q_ltm, q_lem, q_mleT, if_true, if_false, if_pos, if_neg, Nat.reduceAdd, Nat.reduceMul, Nat.add_zero, Nat.zero_add, Nat.one_mul, not_true_eq_false, not_false_eq_true, u_row, u_self, u_ne, cb_bi, cb_bv, cb_bl, h2, decide_false, Bool.false_and, Bool.false_eq_true]
      · have hwt : w k = false := by
          cases e : w k
          · rfl
          · exact absurd (by rw [hwk]; exact e) h1
        have e1 : hx W w b k = false := by simp [hx, hwt]
        simp (disch := omega) only [n_0, n_1, n_2, n_3, n_4, n_5, n_6, n_7, n_8, n_9, n_10, n_12, n_13, n_16, n_30, n_60, n_61, n_86, n_99, n_100, n_200, n_201, n_1023, n_65535, n_10000, n_1000000, ↓q_m1, q_add, q_addm, q_inB, q_cl, q_le, q_lt, q_eq, q_eqm, q_meq, q_mltT, q_ltm, q_lem, q_mleT, if_true, if_false, if_pos, if_neg, Nat.reduceAdd, Nat.reduceMul, Nat.add_zero, Nat.zero_add, Nat.one_mul, not_true_eq_false, not_false_eq_true, u_row, u_self, u_ne, cb_bi, cb_bv, cb_bl, e1, Bool.and_false, Bool.false_eq_true]
    · simp only [Bool.true_or, if_true]
      simp (disch := omega) only [n_0, n_1, n_2, n_3, n_4, n_5, n_6, n_7, n_8, n_9, n_10, n_12, n_13, n_16, n_30, n_60, n_61, n_86, n_99, n_100, n_200, n_201, n_1023, n_65535, n_10000, n_1000000, ↓q_m1, q_add, q_addm, q_inB, q_cl, q_le, q_lt, q_eq, q_eqm, q_meq, q_mltT, q_ltm, q_lem, q_mleT, if_true, if_false, if_pos, if_neg, Nat.reduceAdd, Nat.reduceMul, Nat.add_zero, Nat.zero_add, Nat.one_mul, not_true_eq_false, not_false_eq_true, u_row, u_self, u_ne, cb_bi, cb_bv, cb_bl])
  refine Eq.trans e ?_
  rw [f230_18, g178 h, cb_bi, ← thr_eq]
  simp (disch := omega) only [n_0, n_1, n_2, n_3, n_4, n_5, n_6, n_7, n_8, n_9, n_10, n_12, n_13, n_16, n_30, n_60, n_61, n_86, n_99, n_100, n_200, n_201, n_1023, n_65535, n_10000, n_1000000, ↓q_m1, q_add, q_addm, q_inB, q_cl, q_le, q_lt, q_eq, q_eqm, q_meq, q_mltT, q_ltm, q_lem, q_mleT, if_true, if_false, if_pos, if_neg, Nat.reduceAdd, Nat.reduceMul, Nat.add_zero, Nat.zero_add, Nat.one_mul, not_true_eq_false, not_false_eq_true, u_row, u_self, u_ne, cb_bi, cb_bv, cb_bl]
  cases hA : (thr W c).any (hx W w b)
  · simp (disch := omega) only [n_0, n_1, n_2, n_3, n_4, n_5, n_6, n_7, n_8, n_9, n_10, n_12, n_13, n_16, n_30, n_60, n_61, n_86, n_99, n_100, n_200, n_201, n_1023, n_65535, n_10000, n_1000000, ↓q_m1, q_add, q_addm, q_inB, q_cl, q_le, q_lt, q_eq, q_eqm, q_meq, q_mltT, q_ltm, q_lem, q_mleT, if_true, if_false, if_pos, if_neg, Nat.reduceAdd, Nat.reduceMul, Nat.add_zero, Nat.zero_add, Nat.one_mul, not_true_eq_false, not_false_eq_true, u_row, u_self, u_ne, cb_bi, cb_bv, cb_bl, Bool.false_eq_true, q_orN, Nat.or_zero]
  · simp (disch := omega) only [n_0, n_1, n_2, n_3, n_4, n_5, n_6, n_7, n_8, n_9, n_10, n_12, n_13, n_16, n_30, n_60, n_61, n_86, n_99, n_100, n_200, n_201, n_1023, n_65535, n_10000, n_1000000, ↓q_m1, q_add, q_addm, q_inB, q_cl, q_le, q_lt, q_eq, q_eqm, q_meq, q_mltT, q_ltm, q_lem, q_mleT, if_true, if_false, if_pos, if_neg, Nat.reduceAdd, Nat.reduceMul, Nat.add_zero, Nat.zero_add, Nat.one_mul, not_true_eq_false, not_false_eq_true, u_row, u_self, u_ne, cb_bi, cb_bv, cb_bl, n_31, q_shl]
    rw [q_or2 hB]
/-- hungBy -/
theorem m_hung {z : Nat} (hz : 2000 ≤ z) {M : aM} {W : cW} (h : rM (M.1 206) W) (hW : wf W) {w : Nat → Bool} {X : Nat} (hX : X < 65536) (hw : ∀ t, t < W 0 4 → (bt X t = 1) = (w t = true)) :
    f230 z (nI X) M = some (some (.inl (nI (hg W w (W 0 3)))), M) := by
  have hC8 : W 0 3 ≤ 8 := hW.2.2.2.1
  unfold f230
  simp only [n_0]
  obtain ⟨n, e⟩ := lf0 (fun n c => f230_4 z n (nI X) (nI (hg W w c)) (nI c) M) (W 0 3) z (by omega) (by
    intro n c hc
    have hB := hg_lt W w c
    rw [f230_4, g177 h, cb_bi]
    simp (disch := omega) only [n_0, n_1, n_2, n_3, n_4, n_5, n_6, n_7, n_8, n_9, n_10, n_12, n_13, n_16, n_30, n_60, n_61, n_86, n_99, n_100, n_200, n_201, n_1023, n_65535, n_10000, n_1000000, ↓q_m1, q_add, q_addm, q_inB, q_cl, q_le, q_lt, q_eq, q_eqm, q_meq, q_mltT, q_ltm, q_lem, q_mleT, if_true, if_false, if_pos, if_neg, Nat.reduceAdd, Nat.reduceMul, Nat.add_zero, Nat.zero_add, Nat.one_mul, not_true_eq_false, not_false_eq_true, u_row, u_self, u_ne, cb_bi, cb_bv, cb_bl]
    rw [m_hung1 hz h hW hX hw (by omega) hB]
    rfl)
  refine Eq.trans e ?_
  rw [f230_4, g177 h, cb_bi]
  simp (disch := omega) only [n_0, n_1, n_2, n_3, n_4, n_5, n_6, n_7, n_8, n_9, n_10, n_12, n_13, n_16, n_30, n_60, n_61, n_86, n_99, n_100, n_200, n_201, n_1023, n_65535, n_10000, n_1000000, ↓q_m1, q_add, q_addm, q_inB, q_cl, q_le, q_lt, q_eq, q_eqm, q_meq, q_mltT, q_ltm, q_lem, q_mleT, if_true, if_false, if_pos, if_neg, Nat.reduceAdd, Nat.reduceMul, Nat.add_zero, Nat.zero_add, Nat.one_mul, not_true_eq_false, not_false_eq_true, u_row, u_self, u_ne, cb_bi, cb_bv, cb_bl]
/-- hungIn -/
theorem g231 {z : Nat} (hz : 2000 ≤ z) {M : aM} {W : cW} {Y : cY} {m y : Nat} (h : rM (M.1 206) W) (hW : wf W) (hR : zR M W Y m) (hm : m ≤ 13) (hy : y < m) (hb : ∀ t, Y y t ≤ 1000) : f231 z (nI y) M = some (some (.inl (nI (hg W (sw (Y y)) (W 0 3)))), M) := by
  have hT : W 0 4 ≤ 16 := hW.2.2.2.2.1
  unfold f231
  rw [g229 hz h hW hR hm hy hb, cb_bi, m_hung hz h hW (bN_lt16 _ hT) (fun t ht => bt_bN _ ht), cb_bi]
/-- what hangs in the last year -/
def lH (W : cW) (Y : cY) : Nat := hg W (sw (Y (W 0 0))) (W 0 3)
theorem lH_lt {W : cW} (hW : wf W) (Y : cY) : lH W Y < 256 := Nat.lt_of_lt_of_le (hg_lt W _ _) (Nat.pow_le_pow_right (n := 2) (by omega) (show W 0 3 ≤ 8 from hW.2.2.2.1))
/-- hungLast -/
theorem g232 {z : Nat} (hz : 2000 ≤ z) {M : aM} {W : cW} {Y : cY} (h : rM (M.1 206) W) (hW : wf W) (hR : zR M W Y (W 0 0 + 1)) (hb : ∀ t, Y (W 0 0) t ≤ 1000) : f232 z M = some (some (.inl (nI (lH W Y))), M) := by
  have hY : W 0 0 ≤ 12 := hW.1
  unfold f232
  rw [g176 h, cb_bi, g231 hz h hW hR (by omega) (by omega) hb, cb_bi]
  rfl
