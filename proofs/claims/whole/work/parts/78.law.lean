/-! ===== by, law, worth ===== -/
def byV (W : cW) (l : Nat) : Nat := lH W (lv W l nB nB (hT0 W))
theorem byV_lt {W : cW} (hW : wf W) (l : Nat) : byV W l < 256 := lH_lt hW _
theorem c_law' {z : Nat} (hz : 2000 ≤ z) {M : aM} {W : cW} (h : RW M W) {l : Nat} (hl : l ≤ 3) : ∃ M', f48 z 18 (nI l) M = some (some (.inl (nI (byV W l))), M') ∧ RW M' W ∧ f328 z (nI (byV W l)) M' = some (some (.inl (nI (pc (byV W l)))), M') := by
  obtain ⟨M', a1, a2⟩ := c_law hz h hl
  have := byV_lt h.w l
  exact ⟨M', a1, a2, g328 z M' (by omega)⟩
def mB (M : aM) (W : cW) : Prop := mA M W ∧ M.1 205 17 = nI 65535 ∧ M.1 205 18 = nI 1023
theorem mF.b {M : aM} {W : cW} (h : mF M W) : mB M W := ⟨h.a, h.2.2.1, h.2.2.2.1⟩
theorem m_law {z : Nat} (hz : 2000 ≤ z) {M : aM} {W : cW} (hW : wf W) (h : mB M W) {l : Nat} (hl : l ≤ 3) : ∃ M', f296 z (nI l) M = some (some (.inl (nI (byV W l))), M') ∧ kA M M' ∧ mB M' W ∧ f171 z (nI (byV W l)) M' = some (some (.inl (nI (pc (byV W l)))), M') := by
  obtain ⟨hA, h17, h18⟩ := h
  obtain ⟨M4, b1, b2, b3, b4, b5, b6⟩ := m_run hz (M := (am_u M.1 205 16 (nI l), M.2)) (law := l) (gn := nB) (hd := nB) hA.u hW (by simp only [u_self]) hl (by simp (disch := omega) only [u_ne, h17]; exact hB_65535) (by simp (disch := omega) only [u_ne, h18]; exact hB_1023)
  refine ⟨M4, ?_, (kA.u (by omega) (by omega)).trans (kA.ofG b2), ⟨b3, ?_, ?_⟩, b6⟩
  · unfold f296
    simp only [b1, b5, cb_bv, cb_bi]
    rfl
  · rw [b2.2 17 (by omega)]; simp (disch := omega) only [u_ne]; exact h17
  · rw [b2.2 18 (by omega)]; simp (disch := omega) only [u_ne]; exact h18
theorem P_by {z : Nat} (hz : 2000 ≤ z) {M : aM} {W : cW} (h : RW M W) (x1 : Int32) : PR (f139 z x1 M) (f297 z x1) := by
  by_cases h7 : 0 < W 0 7
  · by_cases o : okW 0 3 x1
    · obtain ⟨l, _, hl, rfl⟩ := o
      obtain ⟨M1, e1, h1, _⟩ := c_law' hz h hl
      refine PR.r (M := M) (v := nI (byV W l)) (M1 := M1) ?_ h1 ?_
      · simp only [f139, k7t h.c h.w h7, cb_bi, i1f]
        rw [n_0, n_3, k165t (Nat.zero_le l) hl (by omega), cb_bi, if_pos (show ¬ nI 1 = nI 0 by decide), e1, cb_bi]
      · obtain ⟨M2, e, k, r, R⟩ := m_CF hz h1
        rw [if_pos h7] at e
        obtain ⟨M3, b1, b2, b3, _⟩ := m_law hz h1.w r.b hl
        exact ⟨M3, by simp only [f297, e, cb_bi, i1f, k170t 3 L3 (by omega) hl, b1], k.trans (kR.ofA b2)⟩
    · refine PR.s h (v := -2) ?_ (fun M1 h1 => ?_)
      · simp only [f139, k7t h.c h.w h7, cb_bi, i1f]
        rw [n_0, n_3, k165f o (by omega) (by omega), cb_bi, if_neg (show ¬ ¬ nI 0 = nI 0 from fun q => q rfl)]
      · obtain ⟨M2, e, k, r, R⟩ := m_CF hz h1
        rw [if_pos h7] at e
        have o' : ¬ okN (3 + 1) x1 := fun q => by obtain ⟨c, hc, e⟩ := q; exact o ⟨c, by omega, by omega, e⟩
        exact ⟨M2, by simp only [f297, e, cb_bi, i1f, k170f 3 L3 (by omega) o', i0f], k⟩
  · refine PR.s h (v := -2) (by simp only [f139, k7f h.c h7, cb_bi, i0f]) (fun M1 h1 => ?_)
    obtain ⟨M2, e, k⟩ := m_Cf hz h1 h7
    exact ⟨M2, by simp only [f297, e, cb_bi, i0f], k⟩
def lwB (f : Nat → Nat) : Nat → Nat
  | 0 => 0
  | k + 1 => if f (lwB f k) < f (k + 1) then k + 1 else lwB f k
theorem lwB_le (f : Nat → Nat) : ∀ k, lwB f k ≤ k
  | 0 => Nat.le_refl _
  | k + 1 => by
    have := lwB_le f k
    unfold lwB
    split <;> omega
theorem P_law {z : Nat} (hz : 2000 ≤ z) {M : aM} {W : cW} (h : RW M W) : PR (f140 z M) (f298 z) := by
  obtain ⟨f, hf⟩ : ∃ f : Nat → Nat, ∀ l, f l = pc (byV W l) := ⟨_, fun _ => rfl⟩
  have hf16 : ∀ l, f l ≤ 16 := fun l => by rw [hf]; exact pc_le _
  have cl : ∀ (l : Nat) (M : aM), l ≤ 3 → RW M W → ∃ M', RW M' W ∧ ∀ (n : Nat) (x y : Int32), f140_19 z (n + 1) x y (nI l) M = if nI (f l) ≤ y then f140_19 z n x y (nI (l + 1)) M' else f140_19 z n (nI l) (nI (f l)) (nI (l + 1)) M' := by
    intro l M hl h
    obtain ⟨M', a1, a2, a3⟩ := c_law' hz h hl
    rw [← hf] at a3
    refine ⟨M', a2, fun n x y => ?_⟩
    rw [f140_19, n_4, if_neg (show ¬ nI 4 ≤ nI l by rw [q_le (by omega) (by omega)]; omega), a1, cb_bi, a3, cb_bi, n_1, q_add]
  by_cases h7 : 0 < W 0 7
  · obtain ⟨M0, h0, e0⟩ := cl 0 M (by omega) h
    obtain ⟨n1, M1, e1, h1⟩ := lr0 (fun n k M' => f140_19 z n (nI (lwB f k)) (nI (f (lwB f k))) (nI (k + 1)) M') 3 (fun k M' => RW M' W) (z - 1) M0 (by omega) h0 (by
      intro n k M' hk hI
      obtain ⟨M2, a1, a2⟩ := cl (k + 1) M' (by omega) hI
      have l1 := hf16 (k + 1)
      have l2 := hf16 (lwB f k)
      refine ⟨M2, ?_, a1⟩
      rw [a2]
      by_cases q : f (lwB f k) < f (k + 1)
      · have es : lwB f (k + 1) = k + 1 := if_pos q
        rw [es, if_neg (show ¬ nI (f (k + 1)) ≤ nI (f (lwB f k)) by rw [q_le (by omega) (by omega)]; omega)]
      · have es : lwB f (k + 1) = lwB f k := if_neg q
        rw [es, if_pos (show nI (f (k + 1)) ≤ nI (f (lwB f k)) by rw [q_le (by omega) (by omega)]; omega)])
    refine PR.r (M := M) (v := nI (lwB f 3)) (M1 := M1) ?_ h1 ?_
    · simp only [f140, k7t h.c h.w h7, cb_bi, i1n]
      obtain ⟨z', hz'⟩ : ∃ z', z = z' + 1 := ⟨z - 1, by omega⟩
      have e9 : f140_19 z z 0 (-1) 0 M = f140_19 z (z - 1) (nI 0) (nI (f 0)) (nI 1) M0 := by
        have := e0 (z - 1) (nI 0) mI
        rw [show z - 1 + 1 = z by omega] at this
        have l1 := hf16 0
        rw [if_neg (show ¬ nI (f 0) ≤ mI by rw [q_lem (by omega)]; exact fun q => q)] at this
        exact this
      rw [e9]
      refine Eq.trans e1 ?_
      rw [f140_19, n_4, if_pos (show nI 4 ≤ nI (3 + 1) by decide)]
    · obtain ⟨M2, e, k, r, R⟩ := m_CF hz h1
      rw [if_pos h7] at e
      obtain ⟨n3, M3, e3, hK, hBb⟩ := lr0 (fun n k M' => f298_14 z n (nI (lwB f k)) (nI (k + 1)) M') 3 (fun k M' => kA M2 M' ∧ mB M' W) z M2 (by omega) ⟨kA.id0, r.b⟩ (by
        intro n k M' hk hI
        obtain ⟨hK, hBb⟩ := hI
        have lb := lwB_le f k
        obtain ⟨M4, b1, b2, b3, b4⟩ := m_law hz h1.w hBb (show k + 1 ≤ 3 by omega)
        obtain ⟨M5, c1, c2, c3, c4⟩ := m_law hz h1.w b3 (show lwB f k ≤ 3 by omega)
        rw [← hf] at b4 c4
        have l1 := hf16 (k + 1)
        have l2 := hf16 (lwB f k)
        refine ⟨M5, ?_, (hK.trans b2).trans c2, c3⟩
        rw [f298_14, n_4, if_neg (show ¬ nI 4 ≤ nI (k + 1) by rw [q_le (by omega) (by omega)]; omega), b1, cb_bi, b4, cb_bi, c1, cb_bi, c4, cb_bi, n_1, q_add]
        by_cases q : f (lwB f k) < f (k + 1)
        · have es : lwB f (k + 1) = k + 1 := if_pos q
          rw [es, if_neg (show ¬ nI (f (k + 1)) ≤ nI (f (lwB f k)) by rw [q_le (by omega) (by omega)]; omega)]
        · have es : lwB f (k + 1) = lwB f k := if_neg q
          rw [es, if_pos (show nI (f (k + 1)) ≤ nI (f (lwB f k)) by rw [q_le (by omega) (by omega)]; omega)])
      refine ⟨M3, ?_, k.trans (kR.ofA hK)⟩
      simp only [f298, e, cb_bi, i1n]
      refine Eq.trans e3 ?_
      rw [f298_14, n_4, if_pos (show nI 4 ≤ nI (3 + 1) by decide)]
  · refine PR.s h (v := -2) (by simp only [f140, k7f h.c h7, cb_bi, i0n]) (fun M1 h1 => ?_)
    obtain ⟨M2, e, k⟩ := m_Cf hz h1 h7
    exact ⟨M2, by simp only [f298, e, cb_bi, i0n], k⟩
/-! worth -/
theorem k14 {z : Nat} {M : aM} {W : cW} (hC : rC M 18 W) (hW : wf W) : f14 z 18 M = some (some (.inl (nI (2 ^ W 0 4 - 1))), M) := by
  have hT : W 0 4 ≤ 16 := hW.2.2.2.2.1
  have := Nat.two_pow_pos (W 0 4)
  unfold f14
  simp (disch := omega) only [hC.i5, n_31, n_1, q_shl, q_sub]
theorem pow16 {n : Nat} (h : n ≤ 16) : 2 ^ n ≤ 65536 := Nat.pow_le_pow_right (n := 2) (by omega) h
def gnS (e : Nat) : Nat → Bool := fun t => decide (bt e t = 0)
theorem woV_cong {W : cW} (hW : wf W) {gn gn' : Nat → Bool} (h : ∀ t, t < W 0 4 → gn t = gn' t) : woV W gn = woV W gn' := by
  unfold woV
  rw [lv_cong hW _ h (fun _ _ => rfl)]
/-- with just a set of threads -/
theorem m_wo {z : Nat} (hz : 2000 ≤ z) {M : aM} {W : cW} (hW : wf W) {e : Nat} (he : e < 2147483648) (h : mA M W) (h16 : M.1 205 16 = nI (W 0 1)) (h18 : M.1 205 18 = nI 1023) : ∃ M', f299 z (nI e) M = some (some (.inl (nI (woV W (gnS e)))), M') ∧ kA M M' ∧ mA M' W ∧ M'.1 205 16 = nI (W 0 1) ∧ M'.1 205 18 = nI 1023 := by
  have hh : hB (nI e) 16 (nt (gnS e)) := hB_n he (by omega) (fun j hj => by
    have := bt_lt e j
    unfold nt gnS
    by_cases q : bt e j = 0
    · simp [q]
    · have : bt e j = 1 := by omega
      simp [this])
  obtain ⟨M4, b1, b2, b3, b4, b5, b6⟩ := m_run hz (M := (am_u M.1 205 17 (nI e), M.2)) (law := W 0 1) (gn := gnS e) (hd := nB) h.u hW (by simp (disch := omega) only [u_ne]; exact h16) hW.2.1 (by simp only [u_self]; exact hh) (by simp (disch := omega) only [u_ne, h18]; exact hB_1023)
  refine ⟨M4, ?_, (kA.u (by omega) (by omega)).trans (kA.ofG b2), b3, ?_, ?_⟩
  · unfold f299
    simp only [b1, b5, b6, cb_bi, cb_bv]
    rfl
  · rw [b2.2 16 (by omega)]; simp (disch := omega) only [u_ne]; exact h16
  · rw [b2.2 18 (by omega)]; simp (disch := omega) only [u_ne]; exact h18
theorem P_worth {z : Nat} (hz : 2000 ≤ z) {M : aM} {W : cW} (h : RW M W) (x1 : Int32) : PR (f141 z x1 M) (f300 z x1) := by
  have hN4 := h.n4
  have hp := pow16 hN4
  have hp0 := Nat.two_pow_pos (W 0 4)
  by_cases h7 : 0 < W 0 7
  · by_cases o : okN (2 ^ W 0 4) x1
    · obtain ⟨e, he, rfl⟩ := o
      have hX : (2 ^ W 0 4 - 1) &&& (4294967295 - e) < 2147483648 := Nat.lt_of_le_of_lt Nat.and_le_left (by omega)
      have hg : hB (nI ((2 ^ W 0 4 - 1) &&& (4294967295 - e))) 16 (fun t => decide (t < W 0 4) && gnS e t) := hB_n hX (by omega) (fun j hj => by
        rw [bt_and, bt_ones, bt_not (by omega) (by omega)]
        have := bt_lt e j
        unfold gnS
        by_cases q : bt e j = 0
        · simp [q]
        · have : bt e j = 1 := by omega
          simp [this])
      obtain ⟨M1, e1, h1⟩ := c_wo hz h hg
      rw [woV_cong h.w (gn' := gnS e) (fun t ht => by simp [ht])] at e1
      generalize hv : woV W (gnS e) = v at e1
      refine PR.r (M := M) (v := nI v) (M1 := M1) ?_ h1 ?_
      · simp only [f141, k7t h.c h.w h7, k14 h.c h.w, cb_bi, i1f, ↓q_m1]
        rw [if_neg (nI_pos (by omega)), if_pos (show nI e ≤ nI (2 ^ W 0 4 - 1) by rw [q_le (by omega) (by omega)]; omega), q_not (by omega), e1, cb_bi]
      · obtain ⟨M2, a1, a2, a3⟩ := m_asF hz h1.m h1.w
        obtain ⟨M3, b1, b2, _⟩ := m_wo hz h1.w (show e < 2147483648 by omega) a3.a a3.2.1 a3.2.2.2.1
        rw [hv] at b1
        refine ⟨M3, ?_, (kR.ofA a2).trans (kR.ofA b2)⟩
        have en : nI (2 ^ W 0 4) - nI 1 = nI (2 ^ W 0 4 - 1) := q_sub (by omega)
        simp only [f300, a1, g175t a3.1 h1.w h7, g178 a3.1, cb_bi, cb_bv, i1f]
        rw [n_1, n_31, q_shl (by omega), en, g170t z M2 ((in_iff0 (by omega) _).mpr ⟨e, by omega, rfl⟩), cb_bi, if_neg (by decide), b1, cb_bi]
    · refine PR.s h (v := -2) ?_ (fun M1 h1 => ?_)
      · simp only [f141, k7t h.c h.w h7, k14 h.c h.w, cb_bi, i1f]
        rcases ok_c (by omega) o with q | ⟨q, q2⟩
        · rw [if_pos q]
        · obtain ⟨j, hj, rfl⟩ := nI_of q
          rw [q_le (by omega) hj] at q2
          rw [if_neg q, if_neg (show ¬ nI j ≤ nI (2 ^ W 0 4 - 1) by rw [q_le hj (by omega)]; omega)]
      · obtain ⟨M2, a1, a2, a3⟩ := m_asF hz h1.m h1.w
        refine ⟨M2, ?_, kR.ofA a2⟩
        have en : nI (2 ^ W 0 4) - nI 1 = nI (2 ^ W 0 4 - 1) := q_sub (by omega)
        simp only [f300, a1, g175t a3.1 h1.w h7, g178 a3.1, cb_bi, cb_bv, i1f]
        rw [n_1, n_31, q_shl (by omega), en, g170f z M2 (fun q => by obtain ⟨c, hc, e⟩ := (in_iff0 (by omega) _).mp q; exact o ⟨c, by omega, e⟩), cb_bi, if_pos (by decide)]
  · refine PR.s h (v := -2) (by simp only [f141, k7f h.c h7, cb_bi, i0f]) (fun M1 h1 => ?_)
    obtain ⟨M2, a1, a2, a3⟩ := m_asF hz h1.m h1.w
    exact ⟨M2, by simp only [f300, a1, g175f a3.1 h1.w h7, cb_bi, cb_bv, i0f], kR.ofA a2⟩
/-! gets, rests -/
def hd2 (a b x y : Nat) : Nat → Bool := fun k => (decide (k = a) && decide (x = 1)) || (decide (k = b) && decide (y = 1))
theorem hd2_sw (a b x y : Nat) : hd2 b a y x = hd2 a b x y := by
  funext k
  unfold hd2
  rw [Bool.or_comm]
def H2 (a b x y : Nat) : Nat := x * 2 ^ a ||| y * 2 ^ b
theorem bt_or (A B k : Nat) : (bt (A ||| B) k = 1) = (bt A k = 1 ∨ bt B k = 1) := by
  rw [bt_tb, bt_tb, bt_tb, Nat.testBit_or]
  simp
theorem bt_xp {x a k : Nat} (hx : x < 2) : (bt (x * 2 ^ a) k = 1) = (k = a ∧ x = 1) := by
  have : x = 0 ∨ x = 1 := by omega
  rcases this with rfl | rfl
  · rw [Nat.zero_mul, bt_0]; simp
  · rw [Nat.one_mul, bt_pow]; simp
theorem H2_bt {a b x y k : Nat} (hx : x < 2) (hy : y < 2) : (bt (H2 a b x y) k = 1) = (hd2 a b x y k = true) := by
  unfold H2 hd2
  rw [bt_or, bt_xp hx, bt_xp hy]
  simp
theorem H2_lt {a b x y : Nat} (ha : a < 10) (hb : b < 10) (hx : x < 2) (hy : y < 2) : H2 a b x y < 1024 := by
  have h1 : x * 2 ^ a < 2 ^ 10 := by
    have := Nat.pow_lt_pow_right (a := 2) (by omega) ha
    have : x = 0 ∨ x = 1 := by omega
    rcases this with rfl | rfl <;> omega
  have h2 : y * 2 ^ b < 2 ^ 10 := by
    have := Nat.pow_lt_pow_right (a := 2) (by omega) hb
    have : y = 0 ∨ y = 1 := by omega
    rcases this with rfl | rfl <;> omega
  exact Nat.or_lt_two_pow h1 h2
theorem q_shlx {x a : Nat} (hx : x < 2) (ha : a < 31) : nI x <<< (nI a &&& nI 31) = nI (x * 2 ^ a) := by
  have : x = 0 ∨ x = 1 := by omega
  rcases this with rfl | rfl
  · rw [Nat.zero_mul]
    refine (pk_shlN (n := 0) _ a (q_sm (by omega)) (by omega)).trans ?_
    rw [Nat.zero_mul]
  · rw [Nat.one_mul]; exact q_shl ha
def gaV (W : cW) (hd : Nat → Bool) (q : Nat) : Int32 := if lv W (W 0 1) nB hd (hT0 W) 30 q = 0 then nI 0 else (if 0 < lv W (W 0 1) nB hd (hT0 W) 32 q then nI 0 else nI (W 5 q)) - nI 20 * nI (pc (lv W (W 0 1) nB hd (hT0 W) 31 q))
/-- gain -/
theorem c_gain {z : Nat} (hz : 2000 ≤ z) {M : aM} {W : cW} (h : RW M W) {a b x y : Nat} (ha : a < W 0 5) (hb : b < W 0 5) (hx : x < 2) (hy : y < 2) : ∃ M', f51 z 18 (nI a) (nI b) (nI x) (nI y) M = some (some (.inl (gaV W (hd2 a b x y) a)), M') ∧ RW M' W := by
  have hN5 := h.n5
  obtain ⟨M1, a1, a2, a3, a4, a5, a6⟩ := c_asTold (z := z) (y0 := 74) h.w h.c (by omega)
  have h1 := h.k (kR.fx a2 (fun a q => by unfold Sc; omega))
  have hH := H2_lt (a := a) (b := b) (by omega) (by omega) hx hy
  have k2 : kR M1 (am_u M1.1 74 2 (nI (H2 a b x y)), M1.2) := kR.fx (S := fun a => a = 74) (Fx.w Fx.id0 rfl) (fun a q => by unfold Sc; omega)
  have h2 := h1.k k2
  obtain ⟨M3, b1, b2, b3⟩ := c_live hz (M := (am_u M1.1 74 2 (nI (H2 a b x y)), M1.2)) (y0 := 74) (law := W 0 1) (h := hT0 W) (gn := nB) (hd := hd2 a b x y) h2.w h2.c (by omega) (by simp (disch := omega) only [u_ne]; exact a3) h.w.2.1 (by simp (disch := omega) only [u_ne, a4]; exact hB_0 16 (by omega)) (by simp only [u_self]; exact hB_n (by omega) (by omega) (fun k _ => H2_bt hx hy)) (hT0_b h.w) (by simp (disch := omega) only [u_row]; exact a6)
  have h3 := h2.k (kR.ofY b2 (.inl rfl))
  have hI := lv_I h.w (W 0 1) nB (hd2 a b x y) (hT0 W) a
  obtain ⟨v0, v1, v2, v3⟩ := b3.2.1 a ha
  have hpl := h3.c.qp ha
  have esh : (nI x <<< (nI a &&& nI 31)) ||| (nI y <<< (nI b &&& nI 31)) = nI (H2 a b x y) := by
    rw [q_shlx hx (by omega), q_shlx hy (by omega), q_orN]
    rfl
  unfold gaV
  generalize lv W (W 0 1) nB (hd2 a b x y) (hT0 W) = Y at *
  have e8 := g328 z M3 hI.2.1
  refine ⟨M3, ?_, h3⟩
  unfold f51
  simp (disch := omega) only [a1, cb_bv, n_31, esh, b1, q_inB, q_cl, if_true]
  by_cases q0 : Y 30 a = 0
  · simp (disch := omega) only [n_0, n_1, n_2, n_3, n_4, n_5, n_6, n_7, n_8, n_9, n_10, n_12, n_13, n_16, n_30, n_60, n_61, n_86, n_99, n_100, n_200, n_201, n_1023, n_65535, n_10000, n_1000000, ↓q_m1, ↓q_m2, ↓q_m3, ↓q_m4, ↓q_m5, ↓q_m6, ↓q_m7, ↓q_m8, ↓q_m1000, ↓q_m100000, q_add, q_addm, q_inB, q_cl, q_le, q_lt, q_eq, q_eqm, q_meq, q_mltT, q_ltm, q_lem, q_mleT, if_true, if_false, if_pos, if_neg, Nat.reduceAdd, Nat.reduceMul, Nat.add_zero, Nat.zero_add, Nat.one_mul, not_true_eq_false, not_false_eq_true, u_row, u_self, u_ne, cb_bi, cb_bv, cb_bl, v0, q0]
  · by_cases q2 : 0 < Y 32 a
    · simp (disch := omega) only [n_0, n_1, n_2, n_3, n_4, n_5, n_6, n_7, n_8, n_9, n_10, n_12, n_13, n_16, n_30, n_60, n_61, n_86, n_99, n_100, n_200, n_201, n_1023, n_65535, n_10000, n_1000000, ↓q_m1, ↓q_m2, ↓q_m3, ↓q_m4, ↓q_m5, ↓q_m6, ↓q_m7, ↓q_m8, ↓q_m1000, ↓q_m100000, q_add, q_addm, q_inB, q_cl, q_le, q_lt, q_eq, q_eqm, q_meq, q_mltT, q_ltm, q_lem, q_mleT, if_true, if_false, if_pos, if_neg, Nat.reduceAdd, Nat.reduceMul, Nat.add_zero, Nat.zero_add, Nat.one_mul, not_true_eq_false, not_false_eq_true, u_row, u_self, u_ne, cb_bi, cb_bv, cb_bl, v0, v1, v2, e8, n_20]
    · simp (disch := omega) only [n_0, n_1, n_2, n_3, n_4, n_5, n_6, n_7, n_8, n_9, n_10, n_12, n_13, n_16, n_30, n_60, n_61, n_86, n_99, n_100, n_200, n_201, n_1023, n_65535, n_10000, n_1000000, ↓q_m1, ↓q_m2, ↓q_m3, ↓q_m4, ↓q_m5, ↓q_m6, ↓q_m7, ↓q_m8, ↓q_m1000, ↓q_m100000, q_add, q_addm, q_inB, q_cl, q_le, q_lt, q_eq, q_eqm, q_meq, q_mltT, q_ltm, q_lem, q_mleT, if_true, if_false, if_pos, if_neg, Nat.reduceAdd, Nat.reduceMul, Nat.add_zero, Nat.zero_add, Nat.one_mul, not_true_eq_false, not_false_eq_true, u_row, u_self, u_ne, cb_bi, cb_bv, cb_bl, v0, v1, v2, e8, n_20, hpl]
/-- getsBy -/
theorem m_gain {z : Nat} (hz : 2000 ≤ z) {M : aM} {W : cW} (r : rM (M.1 206) W) (hW : wf W) {a b x y w : Nat} (ha : a < W 0 5) (hb : b < W 0 5) (hx : x < 2) (hy : y < 2) (hw : w < 2) : ∃ M', f305 z (nI a) (nI b) (nI x) (nI y) (nI w) M = some (some (.inl (gaV W (hd2 a b x y) (if w = 0 then a else b))), M') ∧ kA M M' := by
  have hN5 : W 0 5 ≤ 10 := hW.2.2.2.2.2.1
  obtain ⟨M1, a1, a2, a3⟩ := m_asF hz r hW
  have hH := H2_lt (a := a) (b := b) (by omega) (by omega) hx hy
  have hX : 1023 &&& (4294967295 - H2 a b x y) < 2147483648 := Nat.lt_of_le_of_lt Nat.and_le_left (by omega)
  have hh : hB (nI (1023 &&& (4294967295 - H2 a b x y))) 10 (nt (hd2 a b x y)) := hB_n hX (by omega) (fun j hj => by
    have e1 := bt_and 1023 (4294967295 - H2 a b x y) j
    have e2 : (bt 1023 j = 1) = (j < 10) := bt_ones 10 j
    rw [e2, bt_not (by omega) (by omega), H2_bt hx hy] at e1
    rw [e1]
    unfold nt
    simp [hj])
  obtain ⟨M3, b1, b2, b3, b4, _⟩ := m_run hz (M := (am_u M1.1 205 18 (nI (1023 &&& (4294967295 - H2 a b x y))), M1.2)) (law := W 0 1) (gn := nB) (hd := hd2 a b x y) a3.a.u hW (by simp (disch := omega) only [u_ne]; exact a3.2.1) hW.2.1 (by simp (disch := omega) only [u_ne, a3.2.2.1]; exact hB_65535) (by simp only [u_self]; exact hh)
  have esh : (nI x <<< (nI a &&& nI 31)) ||| (nI y <<< (nI b &&& nI 31)) = nI (H2 a b x y) := by
    rw [q_shlx hx (by omega), q_shlx hy (by omega), q_orN]
    rfl
  have en : nI 1023 &&& (nI (H2 a b x y) ^^^ mI) = nI (1023 &&& (4294967295 - H2 a b x y)) := q_not (by omega)
  have hK : kA M M3 := (a2.trans (kA.u (by omega) (by omega))).trans (kA.ofG b2)
  have fin : ∀ q, q < W 0 5 → am_bi (f252 z (nI q) M3) (fun v5 M4 => if ¬ v5 = 0 then (if am_inB (nI q) 10 then (if (M4.1 222 (nI q).toNatClampNeg) ≤ 0 then am_bi (f187 z (nI q) (nI 1) M4) (fun v7 M6 => if am_inB (nI q) 10 then am_bi (f171 z (M6.1 221 (nI q).toNatClampNeg) M6) (fun v9 M8 => some (some (.inl (v7 - ((nI 20) * v9))), M8)) else none) else (if am_inB (nI q) 10 then am_bi (f171 z (M4.1 221 (nI q).toNatClampNeg) M4) (fun v11 M10 => some (some (.inl ((nI 0) - ((nI 20) * v11))), M10)) else none)) else none) else some (some (.inl (nI 0)), M4)) = some (some (.inl (gaV W (hd2 a b x y) q)), M3) := by
    intro q hq
    have hI := lv_I hW (W 0 1) nB (hd2 a b x y) (hT0 W) q
    have e87 := (g187 (z := z) b3.1 hW hq).2.1
    unfold gaV
    generalize lv W (W 0 1) nB (hd2 a b x y) (hT0 W) = Y at *
    have v1 := (b4.2.1 q hq).2
    have e8 := g171 (z := z) hz M3 (x := Y 31 q) (by omega)
    by_cases q0 : Y 30 q = 0
    · rw [g252f hW b4 hq q0, cb_bi, i0n, if_pos q0]
    · have v2 := (b4.2.2.1 q hq q0).1
      rw [g252t hW b4 hq hI.1 q0, cb_bi, i1n, if_neg q0]
      by_cases q2 : 0 < Y 32 q
      · simp (disch := omega) only [n_0, n_1, n_2, n_3, n_4, n_5, n_6, n_7, n_8, n_9, n_10, n_12, n_13, n_16, n_30, n_60, n_61, n_86, n_99, n_100, n_200, n_201, n_1023, n_65535, n_10000, n_1000000, ↓q_m1, ↓q_m2, ↓q_m3, ↓q_m4, ↓q_m5, ↓q_m6, ↓q_m7, ↓q_m8, ↓q_m1000, ↓q_m100000, q_add, q_addm, q_inB, q_cl, q_le, q_lt, q_eq, q_eqm, q_meq, q_mltT, q_ltm, q_lem, q_mleT, if_true, if_false, if_pos, if_neg, Nat.reduceAdd, Nat.reduceMul, Nat.add_zero, Nat.zero_add, Nat.one_mul, not_true_eq_false, not_false_eq_true, u_row, u_self, u_ne, cb_bi, cb_bv, cb_bl, v1, v2, e8]
      · simp (disch := omega) only [n_0, n_1, n_2, n_3, n_4, n_5, n_6, n_7, n_8, n_9, n_10, n_12, n_13, n_16, n_30, n_60, n_61, n_86, n_99, n_100, n_200, n_201, n_1023, n_65535, n_10000, n_1000000, ↓q_m1, ↓q_m2, ↓q_m3, ↓q_m4, ↓q_m5, ↓q_m6, ↓q_m7, ↓q_m8, ↓q_m1000, ↓q_m100000, q_add, q_addm, q_inB, q_cl, q_le, q_lt, q_eq, q_eqm, q_meq, q_mltT, q_ltm, q_lem, q_mleT, if_true, if_false, if_pos, if_neg, Nat.reduceAdd, Nat.reduceMul, Nat.add_zero, Nat.zero_add, Nat.one_mul, not_true_eq_false, not_false_eq_true, u_row, u_self, u_ne, cb_bi, cb_bv, cb_bl, v1, v2, e8, e87]
  refine ⟨M3, ?_, hK⟩
  unfold f305
  simp only [a1, cb_bv, a3.2.2.2.1, n_31, esh, ↓q_m1, en, b1]
  have hw2 : w = 0 ∨ w = 1 := by omega
  rcases hw2 with rfl | rfl
  · rw [i0n, if_pos rfl]
    exact fin a ha
  · rw [i1n, if_neg (by omega)]
    exact fin b hb
def okQ2 (W : cW) (x1 x2 : Int32) : Prop := okN (W 0 5) x1 ∧ okN (W 0 5) x2 ∧ x1 ≠ x2
theorem k143t {z : Nat} {M : aM} {W : cW} (h : RW M W) {a b : Nat} (ha : a < W 0 5) (hb : b < W 0 5) (hne : nI a ≠ nI b) : f143 z (nI a) (nI b) M = some (some (.inl (nI 1)), M) := by
  simp only [f143, k10t h.c h.w ha, k10t h.c h.w hb, cb_bi, i1f, if_neg hne, n1]
theorem k143f {z : Nat} {M : aM} {W : cW} (h : RW M W) {x1 x2 : Int32} (o : ¬ okQ2 W x1 x2) : f143 z x1 x2 M = some (some (.inl (nI 0)), M) := by
  by_cases o1 : okN (W 0 5) x1
  · by_cases o2 : okN (W 0 5) x2
    · have e : x1 = x2 := Classical.byContradiction (fun q => o ⟨o1, o2, q⟩)
      obtain ⟨a, ha, rfl⟩ := o1
      subst e
      simp only [f143, k10t h.c h.w ha, cb_bi, i1f, if_true, n0]
    · obtain ⟨a, ha, rfl⟩ := o1
      simp only [f143, k10t h.c h.w ha, k10f h.c h.w o2, cb_bi, i1f, i0f, n0]
  · simp only [f143, k10f h.c h.w o1, cb_bi, i0f, n0]
theorem k306t {z : Nat} {M : aM} {W : cW} (h : RW M W) {a b : Nat} (ha : a < W 0 5) (hb : b < W 0 5) (hne : nI a ≠ nI b) : f306 z (nI a) (nI b) M = some (some (.inl (nI 1)), M) := by
  simp only [f306, k184t h.m h.w ha, k184t h.m h.w hb, cb_bi, i1f, if_neg hne, n1]
theorem k306f {z : Nat} {M : aM} {W : cW} (h : RW M W) {x1 x2 : Int32} (o : ¬ okQ2 W x1 x2) : f306 z x1 x2 M = some (some (.inl (nI 0)), M) := by
  by_cases o1 : okN (W 0 5) x1
  · by_cases o2 : okN (W 0 5) x2
    · have e : x1 = x2 := Classical.byContradiction (fun q => o ⟨o1, o2, q⟩)
      obtain ⟨a, ha, rfl⟩ := o1
      subst e
      simp only [f306, k184t h.m h.w ha, cb_bi, i1f, if_true, n0]
    · obtain ⟨a, ha, rfl⟩ := o1
      simp only [f306, k184t h.m h.w ha, k184f h.m h.w o2, cb_bi, i1f, i0f, n0]
  · simp only [f306, k184f h.m h.w o1, cb_bi, i0f, n0]
theorem okW01 {x : Int32} (h : ¬ okW 0 1 x) : ¬ okN (1 + 1) x := fun q => by obtain ⟨c, hc, e⟩ := q; exact h ⟨c, by omega, by omega, e⟩
theorem j0f {α : Type} (a b : α) : (if nI 0 = nI 0 then a else b) = a := if_pos rfl
theorem j1f {α : Type} (a b : α) : (if nI 1 = nI 0 then a else b) = b := if_neg (by decide)
theorem j0n {α : Type} (a b : α) : (if ¬ nI 0 = nI 0 then a else b) = b := if_neg (fun q => q rfl)
theorem j1n {α : Type} (a b : α) : (if ¬ nI 1 = nI 0 then a else b) = a := if_pos (by decide)
theorem P_gets {z : Nat} (hz : 2000 ≤ z) {M : aM} {W : cW} (h : RW M W) (x1 x2 x3 x4 : Int32) : PR (f145 z x1 x2 x3 x4 M) (f308 z x1 x2 x3 x4) := by
  by_cases o : okQ2 W x1 x2
  · obtain ⟨⟨a, ha, rfl⟩, ⟨b, hb, rfl⟩, hne⟩ := o
    by_cases o3 : okW 0 1 x3
    · obtain ⟨x, _, hx, rfl⟩ := o3
      by_cases o4 : okW 0 1 x4
      · obtain ⟨y, _, hy, rfl⟩ := o4
        obtain ⟨M1, e1, h1⟩ := c_gain hz h ha hb (show x < 2 by omega) (show y < 2 by omega)
        refine PR.r (M := M) (v := gaV W (hd2 a b x y) a) (M1 := M1) ?_ h1 ?_
        · simp only [f145, k143t h ha hb hne, cb_bi, i1f]
          simp only [n_0, n_1, k165t (Nat.zero_le x) hx (by omega), k165t (Nat.zero_le y) hy (by omega), cb_bi, j1f, j1n, e1]
        · obtain ⟨M2, b1, b2⟩ := m_gain hz h1.m h1.w ha hb (show x < 2 by omega) (show y < 2 by omega) (show 0 < 2 by omega)
          rw [if_pos rfl] at b1
          refine ⟨M2, ?_, kR.ofA b2⟩
          simp only [f308, k306t h1 ha hb hne, k170t 1 L1 (by omega) hx, k170t 1 L1 (by omega) hy, cb_bi, i1f]
          rw [n_0, b1, cb_bi]
      · refine PR.s h (v := -1000) ?_ (fun M1 h1 => ⟨M1, ?_, kR.id0⟩)
        · simp only [f145, k143t h ha hb hne, cb_bi, i1f]
          rw [n_0, n_1, k165t (Nat.zero_le x) hx (by omega), cb_bi, j1f, k165f o4 (by omega) (by omega), cb_bi, j0n]
        · simp only [f308, k306t h1 ha hb hne, k170t 1 L1 (by omega) hx, k170f 1 L1 (by omega) (okW01 o4), cb_bi, i1f, i0f]
    · refine PR.s h (v := -1000) ?_ (fun M1 h1 => ⟨M1, ?_, kR.id0⟩)
      · simp only [f145, k143t h ha hb hne, cb_bi, i1f]
        rw [n_0, n_1, k165f o3 (by omega) (by omega), cb_bi, j0f]
      · simp only [f308, k306t h1 ha hb hne, k170f 1 L1 (by omega) (okW01 o3), cb_bi, i1f, i0f]
  · refine PR.s h (v := -1000) (by simp only [f145, k143f h o, cb_bi, i0f]) (fun M1 h1 => ⟨M1, by simp only [f308, k306f h1 o, cb_bi, i0f], kR.id0⟩)
def reB (W : cW) (a b : Nat) : Nat → Bool := fun k => !(decide (gaV W (hd2 a b (k % 2) (k / 2)) a < gaV W (hd2 a b (1 - k % 2) (k / 2)) a)) && !(decide (gaV W (hd2 a b (k % 2) (k / 2)) b < gaV W (hd2 a b (k % 2) (1 - k / 2)) b))
theorem P_rests {z : Nat} (hz : 2000 ≤ z) {M : aM} {W : cW} (h : RW M W) (x1 x2 : Int32) : PR (f144 z x1 x2 M) (f307 z x1 x2) := by
  by_cases o : okQ2 W x1 x2
  · obtain ⟨⟨a, ha, rfl⟩, ⟨b, hb, rfl⟩, hne⟩ := o
    obtain ⟨n1, M1, e1, h1⟩ := lr0 (fun n k M' => f144_17 z n (nI a) (nI b) (nI (bN (reB W a b) k)) (nI k) M') 4 (fun k M' => RW M' W) z M (by omega) h (by
      intro n k M' hk hI
      have k2 : k % 2 < 2 := by omega
      have k3 : k / 2 < 2 := by omega
      obtain ⟨M1, a1, b1⟩ := c_gain hz hI ha hb k2 k3
      obtain ⟨M2, a2, b2⟩ := c_gain hz b1 ha hb (show 1 - k % 2 < 2 by omega) k3
      obtain ⟨M3, a3, b3⟩ := c_gain hz b2 hb ha k3 k2
      obtain ⟨M4, a4, b4⟩ := c_gain hz b3 hb ha (show 1 - k / 2 < 2 by omega) k2
      rw [hd2_sw] at a3 a4
      have e0 : reB W a b k = (!(decide (gaV W (hd2 a b (k % 2) (k / 2)) a < gaV W (hd2 a b (1 - k % 2) (k / 2)) a)) && !(decide (gaV W (hd2 a b (k % 2) (k / 2)) b < gaV W (hd2 a b (k % 2) (1 - k / 2)) b))) := rfl
      generalize gaV W (hd2 a b (k % 2) (k / 2)) a = g1 at *
      generalize gaV W (hd2 a b (1 - k % 2) (k / 2)) a = g2 at *
      generalize gaV W (hd2 a b (k % 2) (k / 2)) b = g3 at *
      generalize gaV W (hd2 a b (k % 2) (1 - k / 2)) b = g4 at *
      have s1 : nI k &&& nI 1 = nI (k % 2) := q_and1 (by omega)
      have s2 : nI k >>> (nI 1 &&& nI 31) = nI (k / 2) := by
        have := q_shr (x := k) (k := 1) (by omega) (by omega)
        rw [this]
      have s3 : nI 1 - nI (k % 2) = nI (1 - k % 2) := q_sub (by omega)
      have s4 : nI 1 - nI (k / 2) = nI (1 - k / 2) := q_sub (by omega)
      refine ⟨M4, ?_, b4⟩
      rw [bN_or1, f144_17]
      by_cases q1 : g1 < g2
      · by_cases q3 : g3 < g4
        · have ep : reB W a b k = false := by rw [e0]; simp [q1]
          simp (disch := omega) only [n_0, n_1, n_2, n_3, n_4, n_5, n_6, n_7, n_8, n_9, n_10, n_12, n_13, n_16, n_30, n_60, n_61, n_86, n_99, n_100, n_200, n_201, n_1023, n_65535, n_10000, n_1000000, ↓q_m1, ↓q_m2, ↓q_m3, ↓q_m4, ↓q_m5, ↓q_m6, ↓q_m7, ↓q_m8, ↓q_m1000, ↓q_m100000, q_add, q_addm, q_inB, q_cl, q_le, q_lt, q_eq, q_eqm, q_meq, q_mltT, q_ltm, q_lem, q_mleT, if_true, if_false, if_pos, if_neg, Nat.reduceAdd, Nat.reduceMul, Nat.add_zero, Nat.zero_add, Nat.one_mul, not_true_eq_false, not_false_eq_true, u_row, u_self, u_ne, cb_bi, cb_bv, cb_bl, n_31, s1, s2, s3, s4, a1, a2, a3, a4, q1, q3, ep, Bool.false_eq_true, Nat.or_zero]
        · have ep : reB W a b k = false := by rw [e0]; simp [q1]
          simp (disch := omega) only [n_0, n_1, n_2, n_3, n_4, n_5, n_6, n_7, n_8, n_9, n_10, n_12, n_13, n_16, n_30, n_60, n_61, n_86, n_99, n_100, n_200, n_201, n_1023, n_65535, n_10000, n_1000000, ↓q_m1, ↓q_m2, ↓q_m3, ↓q_m4, ↓q_m5, ↓q_m6, ↓q_m7, ↓q_m8, ↓q_m1000, ↓q_m100000, q_add, q_addm, q_inB, q_cl, q_le, q_lt, q_eq, q_eqm, q_meq, q_mltT, q_ltm, q_lem, q_mleT, if_true, if_false, if_pos, if_neg, Nat.reduceAdd, Nat.reduceMul, Nat.add_zero, Nat.zero_add, Nat.one_mul, not_true_eq_false, not_false_eq_true, u_row, u_self, u_ne, cb_bi, cb_bv, cb_bl, n_31, s1, s2, s3, s4, a1, a2, a3, a4, q1, q3, ep, Bool.false_eq_true, Nat.or_zero]
      · by_cases q3 : g3 < g4
        · have ep : reB W a b k = false := by rw [e0]; simp [q3]
          simp (disch := omega) only [n_0, n_1, n_2, n_3, n_4, n_5, n_6, n_7, n_8, n_9, n_10, n_12, n_13, n_16, n_30, n_60, n_61, n_86, n_99, n_100, n_200, n_201, n_1023, n_65535, n_10000, n_1000000, ↓q_m1, ↓q_m2, ↓q_m3, ↓q_m4, ↓q_m5, ↓q_m6, ↓q_m7, ↓q_m8, ↓q_m1000, ↓q_m100000, q_add, q_addm, q_inB, q_cl, q_le, q_lt, q_eq, q_eqm, q_meq, q_mltT, q_ltm, q_lem, q_mleT, if_true, if_false, if_pos, if_neg, Nat.reduceAdd, Nat.reduceMul, Nat.add_zero, Nat.zero_add, Nat.one_mul, not_true_eq_false, not_false_eq_true, u_row, u_self, u_ne, cb_bi, cb_bv, cb_bl, n_31, s1, s2, s3, s4, a1, a2, a3, a4, q1, q3, ep, Bool.false_eq_true, Nat.or_zero]
        · have ep : reB W a b k = true := by rw [e0]; simp [q1, q3]
          simp (disch := omega) only [n_0, n_1, n_2, n_3, n_4, n_5, n_6, n_7, n_8, n_9, n_10, n_12, n_13, n_16, n_30, n_60, n_61, n_86, n_99, n_100, n_200, n_201, n_1023, n_65535, n_10000, n_1000000, ↓q_m1, ↓q_m2, ↓q_m3, ↓q_m4, ↓q_m5, ↓q_m6, ↓q_m7, ↓q_m8, ↓q_m1000, ↓q_m100000, q_add, q_addm, q_inB, q_cl, q_le, q_lt, q_eq, q_eqm, q_meq, q_mltT, q_ltm, q_lem, q_mleT, if_true, if_false, if_pos, if_neg, Nat.reduceAdd, Nat.reduceMul, Nat.add_zero, Nat.zero_add, Nat.one_mul, not_true_eq_false, not_false_eq_true, u_row, u_self, u_ne, cb_bi, cb_bv, cb_bl, n_31, s1, s2, s3, s4, a1, a2, a3, a4, q1, q3, ep, q_shl, q_orN])
    refine PR.r (M := M) (v := nI (bN (reB W a b) 4)) (M1 := M1) ?_ h1 ?_
    · simp only [f144, k143t h ha hb hne, cb_bi, i1n]
      refine Eq.trans e1 ?_
      rw [f144_17]
      simp (disch := omega) only [n_0, n_1, n_2, n_3, n_4, n_5, n_6, n_7, n_8, n_9, n_10, n_12, n_13, n_16, n_30, n_60, n_61, n_86, n_99, n_100, n_200, n_201, n_1023, n_65535, n_10000, n_1000000, ↓q_m1, ↓q_m2, ↓q_m3, ↓q_m4, ↓q_m5, ↓q_m6, ↓q_m7, ↓q_m8, ↓q_m1000, ↓q_m100000, q_add, q_addm, q_inB, q_cl, q_le, q_lt, q_eq, q_eqm, q_meq, q_mltT, q_ltm, q_lem, q_mleT, if_true, if_false, if_pos, if_neg, Nat.reduceAdd, Nat.reduceMul, Nat.add_zero, Nat.zero_add, Nat.one_mul, not_true_eq_false, not_false_eq_true, u_row, u_self, u_ne, cb_bi, cb_bv, cb_bl]
    · obtain ⟨n3, M3, e3, hK⟩ := lr0 (fun n k M' => f307_17 z n (nI a) (nI b) (nI (bN (reB W a b) k)) (nI k) M') 4 (fun k M' => kA M1 M') z M1 (by omega) kA.id0 (by
        intro n k M' hk hK
        have r' : rM (M'.1 206) W := by rw [hK.r206]; exact h1.m
        have k2 : k % 2 < 2 := by omega
        have k3 : k / 2 < 2 := by omega
        obtain ⟨M2, a1, b1⟩ := m_gain hz r' h1.w ha hb k2 k3 (show 0 < 2 by omega)
        have r2 : rM (M2.1 206) W := by rw [b1.r206]; exact r'
        obtain ⟨M3, a2, b2⟩ := m_gain hz r2 h1.w ha hb (show 1 - k % 2 < 2 by omega) k3 (show 0 < 2 by omega)
        have r3 : rM (M3.1 206) W := by rw [b2.r206]; exact r2
        obtain ⟨M4, a3, b3⟩ := m_gain hz r3 h1.w ha hb k2 k3 (show 1 < 2 by omega)
        have r4 : rM (M4.1 206) W := by rw [b3.r206]; exact r3
        obtain ⟨M5, a4, b4⟩ := m_gain hz r4 h1.w ha hb k2 (show 1 - k / 2 < 2 by omega) (show 1 < 2 by omega)
        rw [if_pos rfl] at a1 a2
        rw [if_neg (show ¬ 1 = 0 by omega)] at a3 a4
        have e0 : reB W a b k = (!(decide (gaV W (hd2 a b (k % 2) (k / 2)) a < gaV W (hd2 a b (1 - k % 2) (k / 2)) a)) && !(decide (gaV W (hd2 a b (k % 2) (k / 2)) b < gaV W (hd2 a b (k % 2) (1 - k / 2)) b))) := rfl
        generalize gaV W (hd2 a b (k % 2) (k / 2)) a = g1 at *
        generalize gaV W (hd2 a b (1 - k % 2) (k / 2)) a = g2 at *
        generalize gaV W (hd2 a b (k % 2) (k / 2)) b = g3 at *
        generalize gaV W (hd2 a b (k % 2) (1 - k / 2)) b = g4 at *
        have s1 : nI k &&& nI 1 = nI (k % 2) := q_and1 (by omega)
        have s2 : nI k >>> (nI 1 &&& nI 31) = nI (k / 2) := by
          have := q_shr (x := k) (k := 1) (by omega) (by omega)
          rw [this]
        have s3 : nI 1 - nI (k % 2) = nI (1 - k % 2) := q_sub (by omega)
        have s4 : nI 1 - nI (k / 2) = nI (1 - k / 2) := q_sub (by omega)
        rw [bN_or1, f307_17]
        by_cases q1 : g1 < g2
        · have ep : reB W a b k = false := by rw [e0]; simp [q1]
          refine ⟨M3, ?_, (hK.trans b1).trans b2⟩
          simp (disch := omega) only [n_0, n_1, n_2, n_3, n_4, n_5, n_6, n_7, n_8, n_9, n_10, n_12, n_13, n_16, n_30, n_60, n_61, n_86, n_99, n_100, n_200, n_201, n_1023, n_65535, n_10000, n_1000000, ↓q_m1, ↓q_m2, ↓q_m3, ↓q_m4, ↓q_m5, ↓q_m6, ↓q_m7, ↓q_m8, ↓q_m1000, ↓q_m100000, q_add, q_addm, q_inB, q_cl, q_le, q_lt, q_eq, q_eqm, q_meq, q_mltT, q_ltm, q_lem, q_mleT, if_true, if_false, if_pos, if_neg, Nat.reduceAdd, Nat.reduceMul, Nat.add_zero, Nat.zero_add, Nat.one_mul, not_true_eq_false, not_false_eq_true, u_row, u_self, u_ne, cb_bi, cb_bv, cb_bl, n_31, s1, s2, s3, s4, a1, a2, q1, ep, Bool.false_eq_true, q_orN, Nat.or_zero]
        · refine ⟨M5, ?_, ((hK.trans b1).trans b2).trans (b3.trans b4)⟩
          by_cases q3 : g3 < g4
          · have ep : reB W a b k = false := by rw [e0]; simp [q3]
            simp (disch := omega) only [n_0, n_1, n_2, n_3, n_4, n_5, n_6, n_7, n_8, n_9, n_10, n_12, n_13, n_16, n_30, n_60, n_61, n_86, n_99, n_100, n_200, n_201, n_1023, n_65535, n_10000, n_1000000, ↓q_m1, ↓q_m2, ↓q_m3, ↓q_m4, ↓q_m5, ↓q_m6, ↓q_m7, ↓q_m8, ↓q_m1000, ↓q_m100000, q_add, q_addm, q_inB, q_cl, q_le, q_lt, q_eq, q_eqm, q_meq, q_mltT, q_ltm, q_lem, q_mleT, if_true, if_false, if_pos, if_neg, Nat.reduceAdd, Nat.reduceMul, Nat.add_zero, Nat.zero_add, Nat.one_mul, not_true_eq_false, not_false_eq_true, u_row, u_self, u_ne, cb_bi, cb_bv, cb_bl, n_31, s1, s2, s3, s4, a1, a2, a3, a4, q1, q3, ep, Bool.false_eq_true, q_orN, Nat.or_zero]
          · have ep : reB W a b k = true := by rw [e0]; simp [q1, q3]
            simp (disch := omega) only [n_0, n_1, n_2, n_3, n_4, n_5, n_6, n_7, n_8, n_9, n_10, n_12, n_13, n_16, n_30, n_60, n_61, n_86, n_99, n_100, n_200, n_201, n_1023, n_65535, n_10000, n_1000000, ↓q_m1, ↓q_m2, ↓q_m3, ↓q_m4, ↓q_m5, ↓q_m6, ↓q_m7, ↓q_m8, ↓q_m1000, ↓q_m100000, q_add, q_addm, q_inB, q_cl, q_le, q_lt, q_eq, q_eqm, q_meq, q_mltT, q_ltm, q_lem, q_mleT, if_true, if_false, if_pos, if_neg, Nat.reduceAdd, Nat.reduceMul, Nat.add_zero, Nat.zero_add, Nat.one_mul, not_true_eq_false, not_false_eq_true, u_row, u_self, u_ne, cb_bi, cb_bv, cb_bl, n_31, s1, s2, s3, s4, a1, a2, a3, a4, q1, q3, ep, q_shl, q_orN])
      refine ⟨M3, ?_, kR.ofA hK⟩
      simp only [f307, k306t h1 ha hb hne, cb_bi, i1n]
      refine Eq.trans e3 ?_
      rw [f307_17]
      simp (disch := omega) only [n_0, n_1, n_2, n_3, n_4, n_5, n_6, n_7, n_8, n_9, n_10, n_12, n_13, n_16, n_30, n_60, n_61, n_86, n_99, n_100, n_200, n_201, n_1023, n_65535, n_10000, n_1000000, ↓q_m1, ↓q_m2, ↓q_m3, ↓q_m4, ↓q_m5, ↓q_m6, ↓q_m7, ↓q_m8, ↓q_m1000, ↓q_m100000, q_add, q_addm, q_inB, q_cl, q_le, q_lt, q_eq, q_eqm, q_meq, q_mltT, q_ltm, q_lem, q_mleT, if_true, if_false, if_pos, if_neg, Nat.reduceAdd, Nat.reduceMul, Nat.add_zero, Nat.zero_add, Nat.one_mul, not_true_eq_false, not_false_eq_true, u_row, u_self, u_ne, cb_bi, cb_bv, cb_bl]
  · refine PR.s h (v := -2) (by simp only [f144, k143f h o, cb_bi, i0n]) (fun M1 h1 => ⟨M1, by simp only [f307, k306f h1 o, cb_bi, i0n], kR.id0⟩)
