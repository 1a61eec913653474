/-! ===== loops that go out, with memory; tries ===== -/
theorem leM {σ ρ : Type} (L : Nat → Nat → σ → ρ) (N : Nat) (p : Nat → Bool) (R : Nat → σ → ρ) (E : σ → ρ) (Inv : σ → Prop)
    (hs : ∀ (n k : Nat) (s : σ), k < N → Inv s → ∃ s', Inv s' ∧ L (n + 1) k s = if p k = true then R k s' else L n (k + 1) s')
    (he : ∀ (n : Nat) (s : σ), Inv s → ∃ s', Inv s' ∧ L (n + 1) N s = E s') (n : Nat) (s : σ) (hn : N < n) (h : Inv s) :
    ∃ s', Inv s' ∧ L n 0 s = (match fst p N with | some k => R k s' | none => E s') := by
  have key : ∀ m k n s, k + m = N → m < n → fst p k = none → Inv s → ∃ s', Inv s' ∧ L n k s = (match fst p N with | some k => R k s' | none => E s') := by
    intro m
    induction m with
    | zero =>
      intro k n s hk hn hf hI
      obtain ⟨n, rfl⟩ : ∃ n', n = n' + 1 := ⟨n - 1, by omega⟩
      have e : k = N := by omega
      subst e
      obtain ⟨s', h1, h2⟩ := he n s hI
      exact ⟨s', h1, by rw [hf]; exact h2⟩
    | succ m ih =>
      intro k n s hk hn hf hI
      obtain ⟨n, rfl⟩ : ∃ n', n = n' + 1 := ⟨n - 1, by omega⟩
      obtain ⟨s', h1, h2⟩ := hs n k s (by omega) hI
      by_cases hp : p k = true
      · rw [if_pos hp] at h2
        have h3 : fst p (k + 1) = some k := by unfold fst; rw [hf]; simp only [if_pos hp]
        have h4 : ∀ j, fst p (k + 1 + j) = some k := by
          intro j
          induction j with
          | zero => exact h3
          | succ j ih2 =>
            show fst p (k + 1 + j + 1) = some k
            unfold fst
            rw [ih2]
        have h5 := h4 (N - (k + 1))
        rw [show k + 1 + (N - (k + 1)) = N by omega] at h5
        exact ⟨s', h1, by rw [h5]; exact h2⟩
      · rw [if_neg hp] at h2
        obtain ⟨s'', h3, h4⟩ := ih (k + 1) n s' (by omega) (by omega) (by unfold fst; rw [hf]; simp only [if_neg hp]) h1
        exact ⟨s'', h3, h2.trans h4⟩
  exact key N 0 n s (by omega) hn rfl h
theorem k_br (M : aM) (f : aM → Option aR) : am_br (some (some (.inr (.inr (7, 109))), M)) f = f M := rfl
/-- every number is one of nI -/
theorem nI_sur (x : Int32) : ∃ n, x = nI n := ⟨x.toBitVec.toNat, by
  apply Int32.toBitVec_inj.mp
  show x.toBitVec = BitVec.ofNat 32 x.toBitVec.toNat
  rw [BitVec.ofNat_toNat, BitVec.setWidth_eq]⟩
theorem row_sur (f : Nat → Int32) : ∃ g : Nat → Nat, ∀ t, f t = nI (g t) := ⟨fun t => (nI_sur (f t)).choose, fun t => (nI_sur (f t)).choose_spec⟩
/-- the model as it stands behind asItIs -/
def mF (M : aM) (W : cW) : Prop := rM (M.1 206) W ∧ M.1 205 16 = nI (W 0 1) ∧ M.1 205 17 = nI 65535 ∧ M.1 205 18 = nI 1023 ∧ (∀ t, t < W 0 4 → M.1 212 t = nI (hT0 W t))
theorem m_asF {z : Nat} (hz : 2000 ≤ z) {M : aM} {W : cW} (h : rM (M.1 206) W) (hW : wf W) : ∃ M', f211 z M = some (none, M') ∧ kA M M' ∧ mF M' W := by
  obtain ⟨M', a1, a2, a3, a4, a5, a6, a7⟩ := m_asIs hz h hW
  exact ⟨M', a1, ⟨a2.mono (fun a q => by unfold aF; omega), fun j hj => a3 j (by omega)⟩, by rw [a2.2 206 (by omega)]; exact h, a4, a5, a6, a7⟩
theorem mF.g {M M' : aM} {W : cW} (h : mF M W) (k : kG M M') : mF M' W := ⟨by rw [k.r206]; exact h.1, by rw [k.2 16 (by omega)]; exact h.2.1, by rw [k.2 17 (by omega)]; exact h.2.2.1, by rw [k.2 18 (by omega)]; exact h.2.2.2.1, by rw [k.1.2 212 (by unfold gF; omega)]; exact h.2.2.2.2⟩
theorem m_CF {z : Nat} (hz : 2000 ≤ z) {M : aM} {W : cW} (h : RW M W) : ∃ M', f225 z M = some (some (.inl (nI (if 0 < W 0 7 then 1 else 0))), M') ∧ kR M M' ∧ mF M' W ∧ zR M' W (tY W) (W 0 0 + 1) := by
  obtain ⟨M1, a1, a2, a3⟩ := m_asF hz h.m h.w
  obtain ⟨M2, b1, b2, b3⟩ := m_goAll hz (law := W 0 1) (gn := nB) (hd := nB) (s := hT0 W) a3.1 h.w a3.2.1 h.w.2.1 (by rw [a3.2.2.1]; exact hB_65535) (by rw [a3.2.2.2.1]; exact hB_1023) (hT0_b h.w) a3.2.2.2.2
  have h2 := a3.g b2
  unfold f225
  rw [a1, cb_bv, b1, cb_bv, g175 h2.1 h.w, cb_bi]
  refine ⟨M2, ?_, kR.ofA (a2.trans (kA.ofG b2)), h2, b3⟩
  split <;> rfl
theorem m_YF {z : Nat} (hz : 2000 ≤ z) {M : aM} {W : cW} (h : RW M W) {y : Nat} (h7 : 0 < W 0 7) (hy : y ≤ W 0 0) : ∃ M', f226 z (nI y) M = some (some (.inl (nI 1)), M') ∧ kR M M' ∧ mF M' W ∧ zR M' W (tY W) (W 0 0 + 1) := by
  obtain ⟨M', e, k, r, R⟩ := m_CF hz h
  refine ⟨M', ?_, k, r, R⟩
  unfold f226
  rw [e, cb_bi, k180t r.1 h.w h7 hy, cb_bi]
  rfl
theorem kR.ofQ {M M' : aM} (h : kQ M M') : kR M M' := kR.ofA (kA.ofG (kG.ofQ h))
/-- tryOn -/
theorem m_try {z : Nat} (hz : 2000 ≤ z) {M : aM} {W : cW} (h : rM (M.1 206) W) (hW : wf W) {y c n0 law : Nat} {s : Nat → Nat} (hy : y ≤ 12) (hs : ∀ t, t < W 0 4 → M.1 218 (16 * y + t) = nI (s t)) (hb : bd s) (hl : M.1 205 16 = nI law) (hl3 : law ≤ 3) (hc : c < W 0 3) (h200 : n0 ≤ 200) :
    ∃ M', f263 z (nI c) (nI n0) (nI y) M = some (none, M') ∧ kQ M M' ∧ mX M' (qd W law c n0 s).2.1 ∧ M'.1 205 25 = nI (qd W law c n0 s).2.2.2 := by
  have hT : W 0 4 ≤ 16 := hW.2.2.2.2.1
  unfold f263
  simp only [n_0]
  obtain ⟨n1, M1, e1, hF1, hI1⟩ := lr0 (fun n k M' => f263_3 z n (nI c) (nI n0) (nI y) (nI k) M') 16 (fun k M' => Fx (fun a => a = 213) M M' ∧ ∀ t, t < k → M'.1 213 t = M.1 218 (16 * y + t)) z M (by omega) ⟨Fx.id0, fun t ht => by omega⟩ (by
    intro n k M' hk hI
    have h218 : M'.1 218 = M.1 218 := hI.1.2 218 (by decide)
    rw [f263_3, f227]
    simp (disch := omega) only [n_0, n_1, n_2, n_3, n_4, n_5, n_6, n_7, n_8, n_9, n_10, n_12, n_13, n_16, n_30, n_60, n_61, n_86, n_99, n_100, n_200, n_201, n_1023, n_65535, n_10000, n_1000000, ↓q_m1, ↓q_m2, ↓q_m3, ↓q_m4, ↓q_m5, ↓q_m6, ↓q_m7, ↓q_m8, ↓q_m1000, ↓q_m100000, q_add, q_addm, q_inB, q_cl, q_le, q_lt, q_eq, q_eqm, q_meq, q_mltT, q_ltm, q_lem, q_mleT, if_true, if_false, if_pos, if_neg, Nat.reduceAdd, Nat.reduceMul, Nat.add_zero, Nat.zero_add, Nat.one_mul, not_true_eq_false, not_false_eq_true, u_row, u_self, u_ne, cb_bi, cb_bv, cb_bl, q_mul, h218]
    refine ⟨_, rfl, Fx.w hI.1 rfl, ?_⟩
    intro t ht
    simp only [u_at]
    by_cases q : t = k
    · rw [if_pos q, q]
    · rw [if_neg q]; exact hI.2 t (by omega))
  have hK1 : kQ M M1 := ⟨hF1.mono (fun a q => by unfold kS; omega), fun j _ => by rw [hF1.2 205 (by decide)]⟩
  obtain ⟨wo, hwo⟩ := row_sur (M1.1 216)
  obtain ⟨be, hbe⟩ := row_sur (M1.1 217)
  obtain ⟨M2, b1, b2, b3, b4, b5, b6, _⟩ := m_quarrel hz (M := M1) (law := law) (c := c) (n0 := n0) (s := s) (wo := wo) (be := be) (by rw [hK1.r206]; exact h) hW (fun t ht => by rw [hI1 t (by omega)]; exact hs t ht) hb hc (by rw [hK1.2 16 (by omega)]; exact hl) hl3 h200 (fun t _ => hwo t) (fun t _ => hbe t)
  refine ⟨M2, ?_, hK1.trans b2, b4, b6⟩
  refine Eq.trans e1 ?_
  rw [f263_3]
  simp (disch := omega) only [n_0, n_1, n_2, n_3, n_4, n_5, n_6, n_7, n_8, n_9, n_10, n_12, n_13, n_16, n_30, n_60, n_61, n_86, n_99, n_100, n_200, n_201, n_1023, n_65535, n_10000, n_1000000, ↓q_m1, ↓q_m2, ↓q_m3, ↓q_m4, ↓q_m5, ↓q_m6, ↓q_m7, ↓q_m8, ↓q_m1000, ↓q_m100000, q_add, q_addm, q_inB, q_cl, q_le, q_lt, q_eq, q_eqm, q_meq, q_mltT, q_ltm, q_lem, q_mleT, if_true, if_false, if_pos, if_neg, Nat.reduceAdd, Nat.reduceMul, Nat.add_zero, Nat.zero_add, Nat.one_mul, not_true_eq_false, not_false_eq_true, u_row, u_self, u_ne, cb_bi, cb_bv, cb_bl, b1]
/-- tryPull -/
def tS (a : Nat) : Prop := 109 ≤ a ∧ a ≤ 112
theorem c_try {z : Nat} (hz : 2000 ≤ z) {M : aM} {W : cW} (hW : wf W) (hC : rC M 18 W) {r c n0 : Nat} {s : Nat → Nat} (hs : ∀ t, t < W 0 4 → M.1 r t = nI (s t)) (hb : bd s) (hc : c < 8) (h200 : n0 ≤ 200) :
    ∃ M', f52 z 18 r (nI c) (nI n0) M = some (some (.inr (.inr (7, 109))), M') ∧ Fx tS M M' ∧ (∀ t, t < 16 → M'.1 110 t = nI ((qd W (W 0 1) c n0 s).2.1.1 t)) ∧ M'.1 109 3 = nI (qd W (W 0 1) c n0 s).2.1.2.2.1 ∧ M'.1 109 2 = nI (qd W (W 0 1) c n0 s).2.2.2 := by
  have hT : W 0 4 ≤ 16 := hW.2.2.2.2.1
  have hF1 : Fx tS M (am_ua M.1 112 (va_cpy (M.1 r) (M.1 112) 0 0 16), M.2) := Fx.wa Fx.id0 (by unfold tS; omega)
  have hC1 := hC.fx hF1 (fun a q => by unfold tS at q; omega)
  obtain ⟨M2, d1, d2, d3, d4, d5, d6⟩ := c_drag hz hW hC1 (u := 109) (r := 112) (s := s) (law := W 0 1) (c := c) (n0 := n0) (by omega) (by omega) (by omega) (by omega) (by omega) hW.2.1 h200 hc (fun t ht => by
    simp (disch := omega) only [ua_self, sb_cpy0]
    exact hs t ht) hb
  unfold f52
  have h18 : am_ua M.1 112 (va_cpy (M.1 r) (M.1 112) 0 0 16) 18 2 = nI (W 0 1) := hC1.i2
  simp (disch := omega) only [n_0, n_1, n_2, n_3, n_4, n_5, n_6, n_7, n_8, n_9, n_10, n_12, n_13, n_16, n_30, n_60, n_61, n_86, n_99, n_100, n_200, n_201, n_1023, n_65535, n_10000, n_1000000, ↓q_m1, ↓q_m2, ↓q_m3, ↓q_m4, ↓q_m5, ↓q_m6, ↓q_m7, ↓q_m8, ↓q_m1000, ↓q_m100000, q_add, q_addm, q_inB, q_cl, q_le, q_lt, q_eq, q_eqm, q_meq, q_mltT, q_ltm, q_lem, q_mleT, if_true, if_false, if_pos, if_neg, Nat.reduceAdd, Nat.reduceMul, Nat.add_zero, Nat.zero_add, Nat.one_mul, not_true_eq_false, not_false_eq_true, u_row, u_self, u_ne, cb_bi, cb_bv, cb_bl, cp16, h18, d1]
  exact ⟨M2, rfl, hF1.trans (d2.mono (fun a q => by unfold dS at q; unfold tS; omega)), d4.1, d4.2.2.1, d6⟩
/-! within -/
def okW (lo hi : Nat) (x : Int32) : Prop := ∃ n, lo ≤ n ∧ n ≤ hi ∧ x = nI n
theorem k165t {z : Nat} {M : aM} {lo hi n : Nat} (h1 : lo ≤ n) (h2 : n ≤ hi) (hh : hi < 2147483648) : f165 z (nI n) (nI lo) (nI hi) M = some (some (.inl (nI 1)), M) := by
  unfold f165
  simp (disch := omega) only [n_0, n_1, n_2, n_3, n_4, n_5, n_6, n_7, n_8, n_9, n_10, n_12, n_13, n_16, n_30, n_60, n_61, n_86, n_99, n_100, n_200, n_201, n_1023, n_65535, n_10000, n_1000000, ↓q_m1, ↓q_m2, ↓q_m3, ↓q_m4, ↓q_m5, ↓q_m6, ↓q_m7, ↓q_m8, ↓q_m1000, ↓q_m100000, q_add, q_addm, q_inB, q_cl, q_le, q_lt, q_eq, q_eqm, q_meq, q_mltT, q_ltm, q_lem, q_mleT, if_true, if_false, if_pos, if_neg, Nat.reduceAdd, Nat.reduceMul, Nat.add_zero, Nat.zero_add, Nat.one_mul, not_true_eq_false, not_false_eq_true, u_row, u_self, u_ne, cb_bi, cb_bv, cb_bl, z1]
theorem k165f {z : Nat} {M : aM} {lo hi : Nat} {x : Int32} (h : ¬ okW lo hi x) (hl : lo < 2147483648) (hh : hi < 2147483648) : f165 z x (nI lo) (nI hi) M = some (some (.inl (nI 0)), M) := by
  unfold f165
  rw [n0, n1]
  by_cases h0 : x < nI lo
  · rw [if_pos h0]
  · rw [if_neg h0, if_pos]
    have h1 : ¬ x < 0 := by
      intro q
      apply h0
      rw [Int32.lt_iff_toInt_lt, nI_toInt hl]
      rw [Int32.lt_iff_toInt_lt] at q
      have : (0 : Int32).toInt = 0 := by decide
      omega
    obtain ⟨j, hj, rfl⟩ := nI_of h1
    rw [q_lt hj hl] at h0
    rw [q_lt hh hj]
    apply Classical.byContradiction
    intro q
    exact h ⟨j, by omega, by omega, rfl⟩
theorem k170wt {z : Nat} {M : aM} {lo hi n : Nat} {L H : Int64} (hL : L = (nI lo).toInt64) (hH : H = (nI hi).toInt64) (h1 : lo ≤ n) (h2 : n ≤ hi) (hh : hi < 2147483648) : f170 z (nI n).toInt64 L H M = some (some (.inl (nI 1)), M) := by
  rw [hL, hH]
  refine g170t z M ⟨(cb_wle _ _).mpr ?_, (cb_wle _ _).mpr ?_⟩
  · rw [q_le (by omega) (by omega)]; exact h1
  · rw [q_le (by omega) (by omega)]; exact h2
theorem k170wf {z : Nat} {M : aM} {lo hi : Nat} {x : Int32} {L H : Int64} (hL : L = (nI lo).toInt64) (hH : H = (nI hi).toInt64) (h : ¬ okW lo hi x) (hl : lo < 2147483648) (hh : hi < 2147483648) : f170 z x.toInt64 L H M = some (some (.inl (nI 0)), M) := by
  rw [hL, hH]
  refine g170f z M (fun q => h ?_)
  have q1 := (cb_wle _ _).mp q.1
  have q2 := (cb_wle _ _).mp q.2
  have h1 : ¬ x < 0 := by
    intro q
    rw [Int32.le_iff_toInt_le, nI_toInt hl] at q1
    rw [Int32.lt_iff_toInt_lt] at q
    have : (0 : Int32).toInt = 0 := by decide
    omega
  obtain ⟨j, hj, rfl⟩ := nI_of h1
  rw [q_le (by omega) (by omega)] at q1 q2
  exact ⟨j, q1, q2, rfl⟩
theorem L200 : (200 : Int64) = (nI 200).toInt64 := by decide
def okTry (W : cW) (x1 x2 x3 : Int32) : Prop := okN (W 0 3) x1 ∧ okW 1 200 x2 ∧ okY W x3
theorem k115t {z : Nat} {M : aM} {W : cW} (h : RW M W) {c n y : Nat} (hc : c < W 0 3) (h1 : 1 ≤ n) (h2 : n ≤ 200) (h7 : 0 < W 0 7) (hy : y ≤ W 0 0) : f115 z (nI c) (nI n) (nI y) M = some (some (.inl (nI 1)), M) := by
  unfold f115
  simp only [n_1, n_200]
  simp only [k8t h.c h.w hc, k165t h1 h2 (by omega), k11t h.c h.w h7 hy, cb_bi, i1f, z1]
theorem k115f {z : Nat} {M : aM} {W : cW} (h : RW M W) {x1 x2 x3 : Int32} (hx : ¬ okTry W x1 x2 x3) : f115 z x1 x2 x3 M = some (some (.inl (nI 0)), M) := by
  unfold f115
  simp only [n_1, n_200]
  by_cases o1 : okN (W 0 3) x1
  · obtain ⟨c, hc, rfl⟩ := o1
    by_cases o2 : okW 1 200 x2
    · obtain ⟨n, a1, a2, rfl⟩ := o2
      have o3 : ¬ okY W x3 := fun q => hx ⟨⟨c, hc, rfl⟩, ⟨n, a1, a2, rfl⟩, q⟩
      simp only [k8t h.c h.w hc, k165t a1 a2 (by omega), k11f h.c h.w o3, cb_bi, i1f, i0f]
      rfl
    · simp only [k8t h.c h.w hc, k165f o2 (by omega) (by omega), cb_bi, i1f, i0f]
      rfl
  · simp only [k8f h.c h.w o1, cb_bi, i0f]
    rfl
theorem m_Tt {z : Nat} (hz : 2000 ≤ z) {M : aM} {W : cW} (h : RW M W) {c n y : Nat} (hc : c < W 0 3) (h1 : 1 ≤ n) (h2 : n ≤ 200) (h7 : 0 < W 0 7) (hy : y ≤ W 0 0) :
    ∃ M', f264 z (nI c) (nI n) (nI y) M = some (some (.inl (nI 1)), M') ∧ kR M M' ∧ rM (M'.1 206) W ∧ mX M' (qd W (W 0 1) c n (tY W y)).2.1 ∧ M'.1 205 25 = nI (qd W (W 0 1) c n (tY W y)).2.2.2 := by
  obtain ⟨M1, e, k, r, R⟩ := m_YF hz h h7 hy
  have hN0 := h.n0
  obtain ⟨M2, b1, b2, b3, b4⟩ := m_try hz (c := c) (n0 := n) (y := y) (s := tY W y) r.1 h.w (by omega) (fun t ht => R.1 y (by omega) t ht) (h.rb hy) r.2.1 h.w.2.1 hc h2
  refine ⟨M2, ?_, k.trans (kR.ofQ b2), by rw [b2.r206]; exact r.1, b3, b4⟩
  unfold f264
  simp only [e, k182t r.1 h.w hc, k170wt L1 L200 h1 h2 (by omega), b1, cb_bi, cb_bv, i1f, i1n, n1]
theorem m_Tf {z : Nat} (hz : 2000 ≤ z) {M : aM} {W : cW} (h : RW M W) {x1 x2 x3 : Int32} (hx : ¬ okTry W x1 x2 x3) : ∃ M', f264 z x1 x2 x3 M = some (some (.inl (nI 0)), M') ∧ kR M M' := by
  unfold f264
  by_cases o3 : okY W x3
  · obtain ⟨h7, y, hy, rfl⟩ := o3
    obtain ⟨M1, e, k, r, R⟩ := m_YF hz h h7 (Nat.le_of_lt_succ hy)
    refine ⟨M1, ?_, k⟩
    by_cases o1 : okN (W 0 3) x1
    · obtain ⟨c, hc, rfl⟩ := o1
      have o2 : ¬ okW 1 200 x2 := fun q => hx ⟨⟨c, hc, rfl⟩, q, h7, y, hy, rfl⟩
      simp only [e, k182t r.1 h.w hc, k170wf L1 L200 o2 (by omega) (by omega), cb_bi, i1f, i0n, n0]
    · simp only [e, k182f r.1 h.w o1, cb_bi, i1f, i0f, n0]
  · obtain ⟨M1, e, k⟩ := m_Yf hz h o3
    exact ⟨M1, by simp only [e, cb_bi, i0f, n0], k⟩
theorem kR.ofT {M M' : aM} (h : Fx tS M M') : kR M M' := kR.fx h (fun a q => by unfold tS at q; unfold Sc; omega)
theorem P_tries {z : Nat} (hz : 2000 ≤ z) {M : aM} {W : cW} (h : RW M W) (x1 x2 x3 : Int32) : PR (f116 z x1 x2 x3 M) (f265 z x1 x2 x3) := by
  by_cases o : okTry W x1 x2 x3
  · obtain ⟨⟨c, hc, rfl⟩, ⟨n, a1, a2, rfl⟩, h7, y, hy, rfl⟩ := o
    have hy2 : y ≤ W 0 0 := Nat.le_of_lt_succ hy
    have hN0 := h.n0
    have hN3 := h.n3
    obtain ⟨M1, e1, e2, e3, e4, e5⟩ := c_try hz h.w h.c (r := 33 + (1 + y)) (s := tY W y) (c := c) (n0 := n) (fun t ht => h.row hy2 ht) (h.rb hy2) (by omega) a2
    have hrp := qd_rp h.w (W 0 1) c n (tY W y)
    refine PR.q h (v := nI (pc (qd W (W 0 1) c n (tY W y)).2.2.2)) (M1 := M1) ?_ (kR.ofT e2) (fun M2 h1 => ?_)
    · simp only [f116, k115t h hc a1 a2 h7 hy2, cb_bi, i1n]
      simp (disch := omega) only [n_0, n_1, n_2, n_3, n_4, n_5, n_6, n_7, n_8, n_9, n_10, n_12, n_13, n_16, n_30, n_60, n_61, n_86, n_99, n_100, n_200, n_201, n_1023, n_65535, n_10000, n_1000000, ↓q_m1, ↓q_m2, ↓q_m3, ↓q_m4, ↓q_m5, ↓q_m6, ↓q_m7, ↓q_m8, ↓q_m1000, ↓q_m100000, q_add, q_addm, q_inB, q_cl, q_le, q_lt, q_eq, q_eqm, q_meq, q_mltT, q_ltm, q_lem, q_mleT, if_true, if_false, if_pos, if_neg, Nat.reduceAdd, Nat.reduceMul, Nat.add_zero, Nat.zero_add, Nat.one_mul, not_true_eq_false, not_false_eq_true, u_row, u_self, u_ne, cb_bi, cb_bv, cb_bl, e1, k_br, e5, g328]
    · obtain ⟨M3, b1, b2, b3, b4, b5⟩ := m_Tt hz h1 hc a1 a2 h7 hy2
      refine ⟨M3, ?_, b2⟩
      simp only [f265, b1, cb_bi, i1f, b5, g171 hz M3 (show (qd W (W 0 1) c n (tY W y)).2.2.2 < 2147483648 by omega)]
  · refine PR.s h (v := -2) (by simp only [f116, k115f h o, cb_bi, i0n]) (fun M1 h1 => ?_)
    obtain ⟨M2, e, k⟩ := m_Tf hz h1 o
    exact ⟨M2, by simp only [f265, e, cb_bi, i0f], k⟩
theorem P_lets {z : Nat} (hz : 2000 ≤ z) {M : aM} {W : cW} (h : RW M W) (x1 x2 x3 : Int32) : PR (f118 z x1 x2 x3 M) (f267 z x1 x2 x3) := by
  by_cases o : okTry W x1 x2 x3
  · obtain ⟨⟨c, hc, rfl⟩, ⟨n, a1, a2, rfl⟩, h7, y, hy, rfl⟩ := o
    have hy2 : y ≤ W 0 0 := Nat.le_of_lt_succ hy
    have hN0 := h.n0
    have hN3 := h.n3
    obtain ⟨M1, e1, e2, e3, e4, e5⟩ := c_try hz h.w h.c (r := 33 + (1 + y)) (s := tY W y) (c := c) (n0 := n) (fun t ht => h.row hy2 ht) (h.rb hy2) (by omega) a2
    refine PR.q h (v := nI (qd W (W 0 1) c n (tY W y)).2.1.2.2.1) (M1 := M1) ?_ (kR.ofT e2) (fun M2 h1 => ?_)
    · simp only [f118, k115t h hc a1 a2 h7 hy2, cb_bi, i1n]
      simp (disch := omega) only [n_0, n_1, n_2, n_3, n_4, n_5, n_6, n_7, n_8, n_9, n_10, n_12, n_13, n_16, n_30, n_60, n_61, n_86, n_99, n_100, n_200, n_201, n_1023, n_65535, n_10000, n_1000000, ↓q_m1, ↓q_m2, ↓q_m3, ↓q_m4, ↓q_m5, ↓q_m6, ↓q_m7, ↓q_m8, ↓q_m1000, ↓q_m100000, q_add, q_addm, q_inB, q_cl, q_le, q_lt, q_eq, q_eqm, q_meq, q_mltT, q_ltm, q_lem, q_mleT, if_true, if_false, if_pos, if_neg, Nat.reduceAdd, Nat.reduceMul, Nat.add_zero, Nat.zero_add, Nat.one_mul, not_true_eq_false, not_false_eq_true, u_row, u_self, u_ne, cb_bi, cb_bv, cb_bl, e1, k_br, e4]
    · obtain ⟨M3, b1, b2, b3, b4, b5⟩ := m_Tt hz h1 hc a1 a2 h7 hy2
      refine ⟨M3, ?_, b2⟩
      simp only [f267, b1, cb_bi, i1f, b4.2.2.1]
  · refine PR.s h (v := -2) (by simp only [f118, k115f h o, cb_bi, i0n]) (fun M1 h1 => ?_)
    obtain ⟨M2, e, k⟩ := m_Tf hz h1 o
    exact ⟨M2, by simp only [f267, e, cb_bi, i0f], k⟩
theorem P_would {z : Nat} (hz : 2000 ≤ z) {M : aM} {W : cW} (h : RW M W) (x1 x2 x3 x4 : Int32) : PR (f117 z x1 x2 x3 x4 M) (f266 z x1 x2 x3 x4) := by
  by_cases o : okTry W x1 x2 x3
  · obtain ⟨⟨c, hc, rfl⟩, ⟨n, a1, a2, rfl⟩, h7, y, hy, rfl⟩ := o
    have hy2 : y ≤ W 0 0 := Nat.le_of_lt_succ hy
    have hN0 := h.n0
    have hN3 := h.n3
    have hN4 := h.n4
    by_cases o4 : okN (W 0 4) x4
    · obtain ⟨t, ht, rfl⟩ := o4
      obtain ⟨M1, e1, e2, e3, e4, e5⟩ := c_try hz h.w h.c (r := 33 + (1 + y)) (s := tY W y) (c := c) (n0 := n) (fun t ht => h.row hy2 ht) (h.rb hy2) (by omega) a2
      refine PR.q h (v := nI ((qd W (W 0 1) c n (tY W y)).2.1.1 t)) (M1 := M1) ?_ (kR.ofT e2) (fun M2 h1 => ?_)
      · simp only [f117, k115t h hc a1 a2 h7 hy2, k9t h.c h.w ht, cb_bi, i1n, i1f]
        simp (disch := omega) only [n_0, n_1, n_2, n_3, n_4, n_5, n_6, n_7, n_8, n_9, n_10, n_12, n_13, n_16, n_30, n_60, n_61, n_86, n_99, n_100, n_200, n_201, n_1023, n_65535, n_10000, n_1000000, ↓q_m1, ↓q_m2, ↓q_m3, ↓q_m4, ↓q_m5, ↓q_m6, ↓q_m7, ↓q_m8, ↓q_m1000, ↓q_m100000, q_add, q_addm, q_inB, q_cl, q_le, q_lt, q_eq, q_eqm, q_meq, q_mltT, q_ltm, q_lem, q_mleT, if_true, if_false, if_pos, if_neg, Nat.reduceAdd, Nat.reduceMul, Nat.add_zero, Nat.zero_add, Nat.one_mul, not_true_eq_false, not_false_eq_true, u_row, u_self, u_ne, cb_bi, cb_bv, cb_bl, e1, k_br, e3]
      · obtain ⟨M3, b1, b2, b3, b4, b5⟩ := m_Tt hz h1 hc a1 a2 h7 hy2
        refine ⟨M3, ?_, b2⟩
        simp only [f266, b1, k183t b3 h1.w ht, cb_bi, i1f]
        simp (disch := omega) only [n_0, n_1, n_2, n_3, n_4, n_5, n_6, n_7, n_8, n_9, n_10, n_12, n_13, n_16, n_30, n_60, n_61, n_86, n_99, n_100, n_200, n_201, n_1023, n_65535, n_10000, n_1000000, ↓q_m1, ↓q_m2, ↓q_m3, ↓q_m4, ↓q_m5, ↓q_m6, ↓q_m7, ↓q_m8, ↓q_m1000, ↓q_m100000, q_add, q_addm, q_inB, q_cl, q_le, q_lt, q_eq, q_eqm, q_meq, q_mltT, q_ltm, q_lem, q_mleT, if_true, if_false, if_pos, if_neg, Nat.reduceAdd, Nat.reduceMul, Nat.add_zero, Nat.zero_add, Nat.one_mul, not_true_eq_false, not_false_eq_true, u_row, u_self, u_ne, cb_bi, cb_bv, cb_bl, b4.1]
    · refine PR.s h (v := -2) (by simp only [f117, k115t h hc a1 a2 h7 hy2, k9f h.c h.w o4, cb_bi, i0n, i1f]) (fun M1 h1 => ?_)
      obtain ⟨M3, b1, b2, b3, b4, b5⟩ := m_Tt hz h1 hc a1 a2 h7 hy2
      exact ⟨M3, by simp only [f266, b1, k183f b3 h1.w o4, cb_bi, i1f, i0f], b2⟩
  · refine PR.s h (v := -2) (by simp only [f117, k115f h o, cb_bi, i0f]) (fun M1 h1 => ?_)
    obtain ⟨M2, e, k⟩ := m_Tf hz h1 o
    exact ⟨M2, by simp only [f266, e, cb_bi, i0f], k⟩
