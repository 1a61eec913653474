/-! ===== the years, in numbers ===== -/
abbrev cY : Type := Nat → Nat → Nat
abbrev yS : Type := (Nat → Nat) × cY
def fo {α : Type} (st : α → Nat → α) (a : α) : Nat → α
  | 0 => a
  | n + 1 => st (fo st a n) n
def yu (Y : cY) (a : Nat) (f : Nat → Nat) : cY := fun b => if b = a then f else Y b
theorem yu_s (Y : cY) (a : Nat) (f : Nat → Nat) : yu Y a f a = f := if_pos rfl
theorem yu_n (Y : cY) {a b : Nat} (f : Nat → Nat) (h : b ≠ a) : yu Y a f b = Y b := if_neg h
/-- a quarrel is borne -/
def yA (W : cW) (law c n : Nat) (p : yS) : yS := ((qd W law c n p.1).1, yu (yu p.2 34 (ad (W 0 4) (p.2 34) (qd W law c n p.1).2.1.1)) 35 (ad (W 0 4) (p.2 35) (fun t => (qd W law c n p.1).2.1.1 t / 5)))
/-- and noted -/
def yN (q : Nat) (Q : cQ) (Y : cY) : cY := yu (yu (yu (yu (yu Y (20 + q) Q.2.1.1) 30 (up (Y 30) q Q.2.2.1)) 31 (up (Y 31) q Q.2.2.2)) 32 (up (Y 32) q Q.2.1.2.2.1)) 33 (up (Y 33) q Q.2.1.2.2.2)
def yT (W : cW) (law : Nat) (hd : Nat → Bool) (y : Nat) (p : yS) (q : Nat) : yS := if W 6 q = y ∧ hd q = false then ((yA W law (W 4 q) (W 5 q) p).1, yN q (qd W law (W 4 q) (W 5 q) p.1) (yA W law (W 4 q) (W 5 q) p).2) else p
def yB (W : cW) (law y : Nat) (p : yS) (i : Nat) : yS := if W 7 i = 1 ∧ W 10 i = y then yA W law (W 8 i) (W 9 i) p else p
def yL (W : cW) (gn : Nat → Bool) (y : Nat) (s : Nat → Nat) (i : Nat) : Nat → Nat := if W 7 i = 0 ∧ W 10 i = y ∧ gn (W 8 i) = false then up s (W 8 i) (min 99 (s (W 8 i) + W 9 i)) else s
def yY (W : cW) (law : Nat) (gn hd : Nat → Bool) (y : Nat) (p : yS) : yS := fo (yB W law y) (fo (yT W law hd y) (fo (yL W gn y) p.1 (W 0 6), p.2) (W 0 5)) (W 0 6)
def yV (W : cW) (law : Nat) (gn hd : Nat → Bool) (s : Nat → Nat) : Nat → yS
  | 0 => (s, yu (fun _ _ => 0) 0 s)
  | y + 1 => ((yY W law gn hd y (yV W law gn hd s y)).1, yu (yY W law gn hd y (yV W law gn hd s y)).2 (y + 1) (yY W law gn hd y (yV W law gn hd s y)).1)
def lv (W : cW) (law : Nat) (gn hd : Nat → Bool) (s : Nat → Nat) : cY := (yV W law gn hd (fun t => if gn t = true then 0 else s t) (W 0 0)).2
theorem fo_s {α : Type} (st : α → Nat → α) (a : α) (n : Nat) : fo st a (n + 1) = st (fo st a n) n := rfl
theorem fo_P {α : Type} (P : α → Prop) {st : α → Nat → α} {a : α} (h0 : P a) {N : Nat} (hs : ∀ k x, k < N → P x → P (st x k)) : ∀ n, n ≤ N → P (fo st a n)
  | 0, _ => h0
  | n + 1, h => hs n _ (by omega) (fo_P P h0 hs n (by omega))
theorem qd_le {W : cW} (hW : wf W) (law c n : Nat) (s : Nat → Nat) (t : Nat) : (qd W law c n s).1 t ≤ s t := by
  have h := (qr_end hW (law := law) (c := c) (n := n) 17 s 0 0 (nW_range hW s)).2.1 t
  show wr (W 0 4) (qr W law c n 17 s 0 0).1 (qr W law c n 17 s 0 0).2.1.1 t ≤ s t
  unfold wr
  split <;> omega
theorem qd_sh {W : cW} (hW : wf W) (law c n : Nat) (s : Nat → Nat) (t : Nat) : (qd W law c n s).2.1.1 t ≤ n := by
  obtain ⟨s', h⟩ := (qr_end hW (law := law) (c := c) (n := n) 17 s 0 0 (nW_range hW s)).2.2.1
  show (qr W law c n 17 s 0 0).2.1.1 t ≤ n
  rw [h]
  exact (pl_ix hW law s' c n).2.1 t
theorem qd_tm {W : cW} (hW : wf W) (law c n : Nat) (s : Nat → Nat) : 0 < (qd W law c n s).2.2.1 ∧ (qd W law c n s).2.2.1 ≤ 17 := by
  obtain ⟨_, _, _, h1, h2⟩ := qr_end hW (law := law) (c := c) (n := n) 17 s 0 0 (nW_range hW s)
  exact ⟨h1, by show (qr W law c n 17 s 0 0).2.2.1 ≤ 17; omega⟩
def bd (s : Nat → Nat) : Prop := ∀ t, s t ≤ 1000
theorem yA_b {W : cW} (hW : wf W) {law c n : Nat} {p : yS} (h : bd p.1) : bd (yA W law c n p).1 := fun t => Nat.le_trans (qd_le hW law c n p.1 t) (h t)
theorem yT_b {W : cW} (hW : wf W) {law : Nat} {hd : Nat → Bool} {y : Nat} {p : yS} {q : Nat} (h : bd p.1) : bd (yT W law hd y p q).1 := by
  unfold yT
  split
  · exact yA_b hW h
  · exact h
theorem yB_b {W : cW} (hW : wf W) {law : Nat} {y : Nat} {p : yS} {q : Nat} (h : bd p.1) : bd (yB W law y p q).1 := by
  unfold yB
  split
  · exact yA_b hW h
  · exact h
theorem yL_b {W : cW} {gn : Nat → Bool} {y : Nat} {s : Nat → Nat} {i : Nat} (h : bd s) : bd (yL W gn y s i) := by
  unfold yL
  split
  · intro t
    unfold up
    split
    · have := Nat.min_le_left 99 (s (W 8 i) + W 9 i); omega
    · exact h t
  · exact h
theorem fT_b {W : cW} (hW : wf W) {law : Nat} {hd : Nat → Bool} {y : Nat} {p : yS} (h : bd p.1) (n : Nat) : bd (fo (yT W law hd y) p n).1 := fo_P (fun p : yS => bd p.1) h (N := n) (fun _ _ _ q => yT_b hW q) n (Nat.le_refl _)
theorem fB_b {W : cW} (hW : wf W) {law : Nat} {y : Nat} {p : yS} (h : bd p.1) (n : Nat) : bd (fo (yB W law y) p n).1 := fo_P (fun p : yS => bd p.1) h (N := n) (fun _ _ _ q => yB_b hW q) n (Nat.le_refl _)
theorem fL_b {W : cW} {gn : Nat → Bool} {y : Nat} {s : Nat → Nat} (h : bd s) (n : Nat) : bd (fo (yL W gn y) s n) := fo_P bd h (N := n) (fun _ _ _ q => yL_b q) n (Nat.le_refl _)
theorem yY_b {W : cW} (hW : wf W) {law : Nat} {gn hd : Nat → Bool} {y : Nat} {p : yS} (h : bd p.1) : bd (yY W law gn hd y p).1 := fB_b hW (fT_b hW (p := (fo (yL W gn y) p.1 (W 0 6), p.2)) (fL_b h _) _) _
theorem yV_b {W : cW} (hW : wf W) {law : Nat} {gn hd : Nat → Bool} {s : Nat → Nat} (h : bd s) : ∀ y, bd (yV W law gn hd s y).1
  | 0 => h
  | y + 1 => yY_b hW (yV_b hW h y)
/-! copies of rows -/
theorem cp9 : am_cpOk (nI 0) (nI 0) (nI 9) 9 9 = true := by decide
theorem cp10 : am_cpOk (nI 0) (nI 0) (nI 10) 10 10 = true := by decide
theorem cp16 : am_cpOk (nI 0) (nI 0) (nI 16) 16 16 = true := by decide
theorem cp30 : am_cpOk (nI 0) (nI 0) (nI 30) 30 30 = true := by decide
/-! ===== the class's years in memory ===== -/
def yR (M : aM) (y0 : Nat) (W : cW) (Y : cY) (m : Nat) : Prop :=
  (∀ y, y ≤ m → ∀ t, t < W 0 4 → M.1 (y0 + 2 + y) t = nI (Y y t))
  ∧ (∀ q, q < W 0 5 → M.1 (y0 + 26) q = nI (Y 30 q) ∧ M.1 (y0 + 27) q = nI (Y 31 q) ∧ M.1 (y0 + 28) q = nI (Y 32 q) ∧ M.1 (y0 + 29) q = nI (Y 33 q))
  ∧ (∀ q, q < W 0 5 → Y 30 q ≠ 0 → ∀ t, t < W 0 4 → M.1 (y0 + 16 + q) t = nI (Y (20 + q) t))
  ∧ (∀ t, t < W 0 4 → M.1 (y0 + 30) t = nI (Y 34 t))
  ∧ (∀ t, t < W 0 4 → M.1 (y0 + 31) t = nI (Y 35 t))
def yF (y0 a : Nat) : Prop := y0 + 2 ≤ a ∧ a ≤ y0 + 34
theorem c_addUp {z : Nat} (hz : 2000 ≤ z) {M : aM} {W : cW} {y0 : Nat} (hW : wf W) (hC : rC M 18 W) (hy : 32 ≤ y0) {g be wo : Nat → Nat} (hg : ∀ t, t < 16 → M.1 (y0 + 32 + 1) t = nI (g t)) (hgb : ∀ t, g t ≤ 1000) (hbe : ∀ t, t < W 0 4 → M.1 (y0 + 30) t = nI (be t)) (hwo : ∀ t, t < W 0 4 → M.1 (y0 + 31) t = nI (wo t)) :
    ∃ M', f78 z y0 18 M = some (none, M') ∧ Fx (fun a => a = y0 + 30 ∨ a = y0 + 31) M M' ∧ (∀ t, t < W 0 4 → M'.1 (y0 + 30) t = nI (ad (W 0 4) be g t)) ∧ (∀ t, t < W 0 4 → M'.1 (y0 + 31) t = nI (ad (W 0 4) wo (fun t => g t / 5) t)) := by
  have hT : W 0 4 ≤ 16 := hW.2.2.2.2.1
  unfold f78
  simp only [n_0]
  obtain ⟨n, M', e, hF, hI, hJ⟩ := lr0 (fun n k M' => f78_2 z n y0 18 (nI k) M') (W 0 4) (fun k M' => Fx (fun a => a = y0 + 30 ∨ a = y0 + 31) M M' ∧ (∀ t, t < W 0 4 → M'.1 (y0 + 30) t = nI (ad k be g t)) ∧ (∀ t, t < W 0 4 → M'.1 (y0 + 31) t = nI (ad k wo (fun t => g t / 5) t))) z M (by omega) ⟨Fx.id0, hbe, hwo⟩ (by
    intro n k M' hk hI
    obtain ⟨hF, hI, hJ⟩ := hI
    have hC' := hC.fx hF (fun a q => by omega)
    have hg' : ∀ t, t < 16 → M'.1 (y0 + 32 + 1) t = nI (g t) := by rw [hF.2 (y0 + 32 + 1) (by omega)]; exact hg
    have hbk : M'.1 (y0 + 30) k = nI (be k) := by rw [hI k hk, ad_k]
    have hwk : M'.1 (y0 + 31) k = nI (wo k) := by rw [hJ k hk, ad_k]
    have hgk := hgb k
    rw [f78_2]
    simp (disch := omega) only [n_0, n_1, n_2, n_3, n_4, n_5, n_6, n_7, n_8, n_9, n_10, n_12, n_13, n_16, n_30, n_60, n_61, n_86, n_99, n_100, n_200, n_201, n_1023, n_65535, n_10000, n_1000000, ↓q_m1, q_add, q_addm, q_inB, q_cl, q_le, q_lt, q_eq, q_eqm, q_meq, q_mltT, q_ltm, q_lem, q_mleT, if_true, if_false, if_pos, if_neg, Nat.reduceAdd, Nat.reduceMul, Nat.add_zero, Nat.zero_add, Nat.one_mul, not_true_eq_false, not_false_eq_true, u_row, u_self, u_ne, cb_bi, cb_bv, cb_bl, hC'.i5, hg', hbk, hwk, q_div]
    refine ⟨_, rfl, Fx.w (Fx.w hF (.inl rfl)) (.inr rfl), ?_, ?_⟩
    · simp (disch := omega) only [u_row, ad_s]
      exact row_upg hI
    · simp (disch := omega) only [ad_s]
      exact row_upg (fun i hi => by simp (disch := omega) only [u_row]; exact hJ i hi))
  have hC' := hC.fx hF (fun a q => by omega)
  refine ⟨M', ?_, hF, hI, hJ⟩
  refine Eq.trans e ?_
  rw [f78_2]
  simp (disch := omega) only [n_0, n_1, n_2, n_3, n_4, n_5, n_6, n_7, n_8, n_9, n_10, n_12, n_13, n_16, n_30, n_60, n_61, n_86, n_99, n_100, n_200, n_201, n_1023, n_65535, n_10000, n_1000000, ↓q_m1, q_add, q_addm, q_inB, q_cl, q_le, q_lt, q_eq, q_eqm, q_meq, q_mltT, q_ltm, q_lem, q_mleT, if_true, if_false, if_pos, if_neg, Nat.reduceAdd, Nat.reduceMul, Nat.add_zero, Nat.zero_add, Nat.one_mul, not_true_eq_false, not_false_eq_true, u_row, u_self, u_ne, cb_bi, cb_bv, cb_bl, hC'.i5]
theorem c_note {z : Nat} {M : aM} {y0 q : Nat} (hq : q < 10) :
    ∃ M', f77 z y0 (nI q) M = some (none, M') ∧ Fx (fun a => a = y0 + 16 + q ∨ a = y0 + 26 ∨ a = y0 + 27 ∨ a = y0 + 28 ∨ a = y0 + 29) M M' ∧ (∀ t, t < 16 → M'.1 (y0 + 16 + q) t = M.1 (y0 + 32 + 1) t) ∧ (∀ i, M'.1 (y0 + 26) i = if i = q then M.1 (y0 + 32) 1 else M.1 (y0 + 26) i) ∧ (∀ i, M'.1 (y0 + 27) i = if i = q then M.1 (y0 + 32) 2 else M.1 (y0 + 27) i) ∧ (∀ i, M'.1 (y0 + 28) i = if i = q then M.1 (y0 + 32) 3 else M.1 (y0 + 28) i) ∧ (∀ i, M'.1 (y0 + 29) i = if i = q then M.1 (y0 + 32) 4 else M.1 (y0 + 29) i) := by
  unfold f77 f77_46
  have e0 : y0 + 15 + (1 + q) = y0 + 16 + q := by omega
  simp (disch := omega) only [n_0, n_1, n_2, n_3, n_4, n_5, n_6, n_7, n_8, n_9, n_10, n_12, n_13, n_16, n_30, n_60, n_61, n_86, n_99, n_100, n_200, n_201, n_1023, n_65535, n_10000, n_1000000, ↓q_m1, q_add, q_addm, q_inB, q_cl, q_le, q_lt, q_eq, q_eqm, q_meq, q_mltT, q_ltm, q_lem, q_mleT, if_true, if_false, if_pos, if_neg, Nat.reduceAdd, Nat.reduceMul, Nat.add_zero, Nat.zero_add, Nat.one_mul, not_true_eq_false, not_false_eq_true, u_row, u_self, u_ne, cb_bi, cb_bv, cb_bl, cp16, e0, ua_row]
  refine ⟨_, rfl, Fx.w (Fx.w (Fx.w (Fx.w (Fx.wa Fx.id0 (.inl rfl)) (.inr (.inl rfl))) (.inr (.inr (.inl rfl)))) (.inr (.inr (.inr (.inl rfl))))) (.inr (.inr (.inr (.inr rfl)))), ?_, ?_, ?_, ?_, ?_⟩
  · intro t ht
    simp (disch := omega) only [u_row, ua_self, sb_cpy0]
  · intro i
    simp (disch := omega) only [u_row, u_at, ua_row]
  · intro i
    simp (disch := omega) only [u_row, u_at, ua_row]
  · intro i
    simp (disch := omega) only [u_row, u_at, ua_row]
  · intro i
    simp (disch := omega) only [u_row, u_at, ua_row]
