/-! ===== chance ===== -/
theorem PL.r {M1 : aM} {W : cW} {o : Option aR} {g : aM → Option aR} {v : Int64} (e1 : o = some (some (.inr (.inl v)), M1)) (h1 : RW M1 W) (e2 : ∃ M2, g M1 = some (some (.inr (.inl v)), M2) ∧ kR M1 M2) : PL o g := by
  obtain ⟨M2, e, k⟩ := e2
  exact ⟨v, M1, M2, e1, e, W, h1.k k⟩
def prN (o e : Nat) : Nat → Nat
  | 0 => 1
  | k + 1 => prN o e k * (if bt e k = 1 then o else 10 - o)
theorem prN_eq (o e : Nat) : ∀ n, prN o e n = o ^ pcS e n * (10 - o) ^ (n - pcS e n)
  | 0 => rfl
  | n + 1 => by
    have hl := pcS_le e n
    have hb := bt_lt e n
    show prN o e n * (if bt e n = 1 then o else 10 - o) = o ^ (pcS e n + bt e n) * (10 - o) ^ (n + 1 - (pcS e n + bt e n))
    rw [prN_eq o e n]
    by_cases h : bt e n = 1
    · rw [if_pos h, h, Nat.pow_succ, show n + 1 - (pcS e n + 1) = n - pcS e n by omega, Nat.mul_right_comm]
    · have h0 : bt e n = 0 := by omega
      rw [if_neg h, h0, Nat.add_zero, show n + 1 - pcS e n = n - pcS e n + 1 by omega, Nat.pow_succ, Nat.mul_assoc]
theorem pcS_n {e n : Nat} (he : e < 2 ^ n) (hn : n ≤ 16) : pc e = pcS e n := by
  have h1 : ∀ k, n ≤ k → bt e k = 0 := by
    intro k hk
    unfold bt
    rw [Nat.div_eq_of_lt (Nat.lt_of_lt_of_le he (Nat.pow_le_pow_right (by omega) hk))]
  have h2 : ∀ j, pcS e (n + j) = pcS e n := by
    intro j
    induction j with
    | zero => rfl
    | succ j ih =>
      show pcS e (n + j) + bt e (n + j) = _
      rw [ih, h1 _ (by omega), Nat.add_zero]
  have h4 := h2 (16 - n)
  rw [show n + (16 - n) = 16 by omega] at h4
  exact h4
theorem prN_le {o : Nat} (ho : o ≤ 10) (e : Nat) : ∀ n, prN o e n ≤ 10 ^ n
  | 0 => Nat.le_refl _
  | n + 1 => by
    rw [Nat.pow_succ]
    show prN o e n * _ ≤ _
    refine Nat.mul_le_mul (prN_le ho e n) ?_
    split <;> omega
theorem sm_add (f : Nat → Nat) (a : Nat) : ∀ b, sm f (a + b) = sm f a + sm (fun k => f (a + k)) b
  | 0 => rfl
  | b + 1 => by
    show sm f (a + b) + f (a + b) = sm f a + (sm (fun k => f (a + k)) b + f (a + b))
    rw [sm_add f a b]
    omega
theorem sm_mul (f : Nat → Nat) (c : Nat) : ∀ n, sm (fun k => f k * c) n = sm f n * c
  | 0 => (Nat.zero_mul c).symm
  | n + 1 => by
    show sm (fun k => f k * c) n + f n * c = (sm f n + f n) * c
    rw [sm_mul f c n, Nat.add_mul]
theorem prN_sum {o : Nat} (ho : o ≤ 10) : ∀ n, sm (fun e => prN o e n) (2 ^ n) = 10 ^ n
  | 0 => rfl
  | n + 1 => by
    have e1 : 2 ^ (n + 1) = 2 ^ n + 2 ^ n := by rw [Nat.pow_succ]; omega
    rw [e1, sm_add]
    have h1 : sm (fun e => prN o e (n + 1)) (2 ^ n) = sm (fun e => prN o e n * (10 - o)) (2 ^ n) := sm_cong _ (fun k hk => by
      have : bt k n = 0 := by unfold bt; rw [Nat.div_eq_of_lt hk]
      show prN o k n * (if bt k n = 1 then o else 10 - o) = _
      rw [this, if_neg (by omega)])
    have h2 : sm (fun k => prN o (2 ^ n + k) (n + 1)) (2 ^ n) = sm (fun e => prN o e n * o) (2 ^ n) := sm_cong _ (fun k hk => by
      have hb : bt (2 ^ n + k) n = 1 := by
        rw [bt_tb, Nat.testBit_two_pow_add_eq, Nat.testBit_lt_two_pow hk]
        rfl
      have hl : ∀ m, m ≤ n → prN o (2 ^ n + k) m = prN o k m := by
        intro m
        induction m with
        | zero => intro _; rfl
        | succ m ih =>
          intro hm
          show prN o (2 ^ n + k) m * (if bt (2 ^ n + k) m = 1 then o else 10 - o) = prN o k m * (if bt k m = 1 then o else 10 - o)
          rw [ih (by omega), Nat.add_comm (2 ^ n) k, bt_add (by omega)]
      show prN o (2 ^ n + k) n * (if bt (2 ^ n + k) n = 1 then o else 10 - o) = _
      rw [hb, if_pos rfl, hl n (Nat.le_refl _)])
    rw [h1, h2, sm_mul, sm_mul, prN_sum ho n, Nat.pow_succ, ← Nat.mul_add]
    congr 1
    omega
/-- power -/
theorem k149 {z : Nat} (hz : 2000 ≤ z) {M : aM} {b k : Nat} (hk : k ≤ 8) : f149 z (lN b) (nI k) M = some (some (.inr (.inl (lN (b ^ k)))), M) := by
  unfold f149
  obtain ⟨n, e⟩ := lf0 (fun n i => f149_5 z n (lN b) (nI k) (lN (b ^ i)) (nI i) M) k z (by omega) (by
    intro n i hi
    rw [f149_5, if_neg (show ¬ nI k ≤ nI i by rw [q_le (by omega) (by omega)]; omega), n_8, if_neg (show ¬ nI 8 ≤ nI i by rw [q_le (by omega) (by omega)]; omega), lN_mul, n_1, q_add]
    rfl)
  refine Eq.trans e ?_
  rw [f149_5, if_pos (show nI k ≤ nI k by rw [q_le (by omega) (by omega)]; omega)]
/-- how likely an evening is -/
def lkV (W : cW) (e : Nat) : Nat := prN (W 0 2) e (W 0 5)
def chS (W : cW) (X : Nat) : Nat → Nat := sm (fun e => lkV W e * pc (evV W e &&& X))
theorem lkV_le {W : cW} (hW : wf W) (h8 : W 0 5 ≤ 8) (e : Nat) : lkV W e ≤ 100000000 := by
  have h1 := prN_le (show W 0 2 ≤ 10 from hW.2.2.1) e (W 0 5)
  have h2 : 10 ^ W 0 5 ≤ 10 ^ 8 := Nat.pow_le_pow_right (by omega) h8
  exact Nat.le_trans h1 h2
theorem lk_c {W : cW} {e : Nat} (h8 : W 0 5 ≤ 8) (he : e < 2 ^ W 0 5) : W 0 2 ^ pc e * (10 - W 0 2) ^ (W 0 5 - pc e) = lkV W e := by
  unfold lkV
  rw [prN_eq, pcS_n he (by omega)]
theorem sm_le2 {f : Nat → Nat} {B : Nat} (h : ∀ k, f k ≤ B) : ∀ n, sm f n ≤ B * n
  | 0 => Nat.le_refl _
  | n + 1 => by
    have := sm_le2 h n
    have := h n
    show sm f n + f n ≤ B * (n + 1)
    rw [Nat.mul_add]
    omega
theorem chS_lt {W : cW} (hW : wf W) (h8 : W 0 5 ≤ 8) (X : Nat) : chS W X (2 ^ W 0 5) < 2 ^ 62 := by
  have h1 : ∀ e, lkV W e * pc (evV W e &&& X) ≤ 100000000 * 16 := fun e => Nat.mul_le_mul (lkV_le hW h8 e) (pc_le _)
  have h2 := sm_le2 h1 (2 ^ W 0 5)
  have h3 := pow8' (show W 0 5 < 9 by omega)
  have : 100000000 * 16 * 2 ^ W 0 5 ≤ 100000000 * 16 * 256 := Nat.mul_le_mul_left _ h3
  exact Nat.lt_of_le_of_lt h2 (by omega)
theorem absN {a : Nat} (h : a < 2 ^ 63) : (if 0 < lN a then lN a else -lN a) = lN a := by
  by_cases q : 0 < a
  · rw [if_pos]
    have : lN 0 < lN a := (pk_lLT (by omega) h).mpr q
    exact this
  · have : a = 0 := by omega
    subst this
    decide
theorem ten_lt {n : Nat} (h : n ≤ 8) : 0 < 10 ^ n ∧ 10 ^ n < 2 ^ 27 := by
  have h1 : 10 ^ n ≤ 10 ^ 8 := Nat.pow_le_pow_right (by omega) h
  exact ⟨Nat.pow_pos (by omega), by omega⟩
/-- expected -/
theorem c_exp {z : Nat} (hz : 2000 ≤ z) {M : aM} {W : cW} (h : RW M W) {X w : Nat} (h8 : W 0 5 ≤ 8) (hX : X < 65536) (hw : w ≤ 1) : ∃ M', f148 z (nI X) (nI w) M = some (some (.inr (.inl (fv (lN (chS W X (2 ^ W 0 5))) (lN (10 ^ W 0 5)) w (Nat.gcd (chS W X (2 ^ W 0 5)) (10 ^ W 0 5))))), M') ∧ RW M' W := by
  have hp := pow8' (show W 0 5 < 9 by omega)
  have hp0 := Nat.two_pow_pos (W 0 5)
  have ho : W 0 2 ≤ 10 := h.w.2.2.1
  obtain ⟨n1, M1, e1, h1⟩ := lr0 (fun m k M' => f148_21 z m (nI X) (nI w) (lN (chS W X k)) (nI k) M') (2 ^ W 0 5) (fun k M' => RW M' W) z M (by omega) h (by
    intro m k M' hk hI
    have hpc : pc k ≤ W 0 5 := by rw [pcS_n hk (by omega)]; exact pcS_le _ _
    have hlk := lkV_le h.w h8 k
    have es : chS W X (k + 1) = chS W X k + lkV W k * pc (evV W k &&& X) := rfl
    have e10 : (nI 10 - nI (W 0 2)).toInt64 = lN (10 - W 0 2) := by rw [q_sub ho, nI_l (by omega)]
    have ev : lN (W 0 2 ^ pc k) * lN ((10 - W 0 2) ^ (W 0 5 - pc k)) = lN (lkV W k) := by rw [lN_mul, lk_c h8 hk]
    rw [es, f148_21, k15 hI.c h.w, cb_bi, if_neg (show ¬ nI (2 ^ W 0 5 - 1) < nI k by rw [q_lt (by omega) (by omega)]; omega), g328 z M' (show k < 65536 by omega), cb_bi, hI.c.i3, nI_l (show W 0 2 < 2 ^ 31 by omega), k149 hz (show pc k ≤ 8 by omega), cb_bl, hI.c.i3, hI.c.i6, n_10, e10, q_sub hpc, k149 hz (show W 0 5 - pc k ≤ 8 by omega), cb_bl, ev]
    by_cases h0 : lkV W k = 0
    · refine ⟨M', ?_, hI⟩
      rw [h0, if_pos (show lg_cmp (lN 0) 0 ≤ 0 by decide), Nat.zero_mul, Nat.add_zero, n_1, q_add]
    · obtain ⟨M2, a1, a2⟩ := c_ev hz hI (show k < 1024 by omega)
      have hle : evV W k &&& X ≤ X := Nat.and_le_right
      have hpcx := pc_le (evV W k &&& X)
      have hc : ¬ lg_cmp (lN (lkV W k)) 0 ≤ 0 := by
        rw [lg_cmp_le]
        intro q
        have : lN (lkV W k) ≤ lN 0 := q
        rw [pk_lLE (by omega) (by omega)] at this
        omega
      refine ⟨M2, ?_, a2⟩
      rw [if_neg hc, a1, cb_bi, q_andX, g328 z M2 (show evV W k &&& X < 65536 by omega), cb_bi, nI_l (by omega), lN_mul, lN_add, n_1, q_add])
  have e0 : lN (chS W X 0) = 0 := rfl
  rw [e0] at e1
  have hch := chS_lt h.w h8 X
  have ht := ten_lt h8
  refine ⟨M1, ?_, h1⟩
  unfold f148
  rw [h.c.i6, n_8, if_pos (show nI (W 0 5) ≤ nI 8 by rw [q_le (by omega) (by omega)]; omega), n_0]
  refine Eq.trans e1 ?_
  rw [f148_21, k15 h1.c h.w, cb_bi, if_pos (show nI (2 ^ W 0 5 - 1) < nI (2 ^ W 0 5) by rw [q_lt (by omega) (by omega)]; omega), h1.c.i6, show (10 : Int64) = lN 10 from rfl, k149 hz h8, cb_bl, c_low hz (absN (by omega)) (by omega) ht.1 ht.2, fin9_v hw, cb_bl]
/-! the model's sums -/
theorem ul_row {f : Nat → Nat → Int64} {a i b : Nat} {x : Int64} (h : b ≠ a) : am_ul f a i x b = f b := by
  funext j
  simp [am_ul, h]
theorem ul_self {f : Nat → Nat → Int64} {a i : Nat} {x : Int64} : am_ul f a i x a i = x := by
  simp [am_ul]
theorem ul_ne {f : Nat → Nat → Int64} {a i j : Nat} {x : Int64} (h : j ≠ i) : am_ul f a i x a j = f a j := by
  simp [am_ul, h]
theorem kR.l {M : aM} {f : Nat → Nat → Int64} (h : ∀ a, a ≠ 205 → a ≠ 232 → f a = M.2 a) : kR M (M.1, f) := ⟨fun _ _ _ => rfl, ⟨rfl, rfl, rfl⟩, h⟩
/-- layChance: how likely -/
theorem m_lk {z : Nat} (hz : 2000 ≤ z) {M : aM} {W : cW} (r : rM (M.1 206) W) (hW : wf W) (h8 : W 0 5 ≤ 8) {e : Nat} (he : e < 256) (K : Int32 → Int32 → Int32 → aM → Option aR) (x1 : Int32) : ∃ n, f309_39 z K z x1 (nI (W 0 5)) (nI e) 1 (nI 0) M = f309_39 z K (n + 1) x1 (nI (W 0 5)) (nI e) (lN (lkV W e)) (nI (W 0 5)) M := by
  have ho : W 0 2 ≤ 10 := hW.2.2.1
  have h2 : M.1 206 2 = nI (W 0 2) := r.1.2.2.1
  obtain ⟨n, e1⟩ := lf0 (fun n k => f309_39 z K n x1 (nI (W 0 5)) (nI e) (lN (prN (W 0 2) e k)) (nI k) M) (W 0 5) z (by omega) (by
    intro n k hk
    have hb2 := bt_lt e k
    have e10 : (nI 10 - nI (W 0 2)).toInt64 = lN (10 - W 0 2) := by rw [q_sub ho, nI_l (by omega)]
    have es : prN (W 0 2) e (k + 1) = prN (W 0 2) e k * (if bt e k = 1 then W 0 2 else 10 - W 0 2) := rfl
    have e6 : am_inB (2 : Int32) 116 = true := by decide
    have e7 : (2 : Int32).toNatClampNeg = 2 := by decide
    rw [es, f309_39, if_neg (show ¬ nI (W 0 5) ≤ nI k by rw [q_le (by omega) (by omega)]; omega), g172 z M (show e < 2147483648 by omega) (by omega), cb_bi]
    by_cases h0 : bt e k = 1
    · rw [h0, if_neg (show ¬ ¬ nI 1 = 1 from fun q => q rfl), if_pos e6, e7, h2, if_pos rfl, nI_l (by omega), lN_mul, n_1, q_add]
    · have h0' : bt e k = 0 := by omega
      rw [h0', if_pos (show ¬ nI 0 = 1 by decide), if_pos e6, e7, h2, if_neg (by omega), n_10, e10, lN_mul, n_1, q_add])
  exact ⟨n, e1⟩
def huS (W : cW) (c : Nat) : Nat → Nat := sm (fun e => lkV W e * bt (evV W e) c)
def maS (W : cW) : Nat → Nat := sm (fun e => lkV W e * pc (evV W e))
def alS (W : cW) : Nat → Nat := sm (fun e => lkV W e)
theorem m_chance {z : Nat} (hz : 2000 ≤ z) {M : aM} {W : cW} (r : rM (M.1 206) W) (hW : wf W) (h8 : W 0 5 ≤ 8) {c : Nat} (hc : c < 8) : ∃ M', f309 z (nI c) M = some (none, M') ∧ kR M M' ∧ M'.2 205 42 = lN (10 ^ W 0 5) ∧ M'.2 205 43 = lN (huS W c (2 ^ W 0 5)) ∧ M'.2 205 44 = lN (maS W (2 ^ W 0 5)) := by
  have hp := pow8' (show W 0 5 < 9 by omega)
  have ho : W 0 2 ≤ 10 := hW.2.2.1
  obtain ⟨M1, a1, a2, a3⟩ := m_asF hz (M := (M.1, am_ul (am_ul (am_ul M.2 205 42 0) 205 43 0) 205 44 0)) r hW
  have hK0 : kR M M1 := (kR.l (fun a q1 q2 => by rw [ul_row q1, ul_row q1, ul_row q1])).trans (kR.ofA a2)
  have hl1 : M1.2 = am_ul (am_ul (am_ul M.2 205 42 0) 205 43 0) 205 44 0 := a2.1.1
  obtain ⟨n1, M2, e1, hK, hA, h16, h17, i42, i43, i44⟩ := lr0 (fun m k M' => f309_26 z m (nI c) (nI (W 0 5)) (nI k) M') (2 ^ W 0 5) (fun k M' => kR M M' ∧ mA M' W ∧ M'.1 205 16 = nI (W 0 1) ∧ M'.1 205 17 = nI 65535 ∧ M'.2 205 42 = lN (alS W k) ∧ M'.2 205 43 = lN (huS W c k) ∧ M'.2 205 44 = lN (maS W k)) z M1 (by omega) ⟨hK0, a3.a, a3.2.1, a3.2.2.1, by rw [hl1, ul_ne (by omega), ul_ne (by omega), ul_self]; rfl, by rw [hl1, ul_ne (by omega), ul_self]; rfl, by rw [hl1, ul_self]; rfl⟩ (by
    intro m k M' hk hI
    obtain ⟨hK, hA, h16, h17, i42, i43, i44⟩ := hI
    have hcond : ¬ (nI 1 <<< (nI (W 0 5) &&& nI 31)) ≤ nI k := by
      rw [q_shl (by omega), q_le (by omega) (by omega)]
      omega
    have hlk := lkV_le hW h8 k
    obtain ⟨n2, e2⟩ := m_lk hz hA.1 hW h8 (show k < 256 by omega) (f309_26 z m) (nI c)
    have s1 : alS W (k + 1) = alS W k + lkV W k := rfl
    have s2 : huS W c (k + 1) = huS W c k + lkV W k * bt (evV W k) c := rfl
    have s3 : maS W (k + 1) = maS W k + lkV W k * pc (evV W k) := rfl
    have hev : evV W k < 256 := lH_lt hW _
    have hb2 := bt_lt (evV W k) c
    rw [s1, s2, s3, f309_26, n_1, n_31, if_neg hcond, n_0, e2, f309_39, if_pos (show nI (W 0 5) ≤ nI (W 0 5) by rw [q_le (by omega) (by omega)]; omega)]
    by_cases h0 : lkV W k = 0
    · refine ⟨M', ?_, hK, hA, h16, h17, ?_, ?_, ?_⟩
      · rw [h0, if_neg (show ¬ ¬ lg_cmp (lN 0) 0 = 0 by decide), n_1, q_add]
      · rw [i42, h0]; rfl
      · rw [i43, h0, Nat.zero_mul]; rfl
      · rw [i44, h0, Nat.zero_mul]; rfl
    · rw [if_pos (cmp0 (by omega) (by omega))]
      obtain ⟨M3, b1, b2, b3, b4, b5, b6⟩ := m_run hz (M := (am_u M'.1 205 18 (nI k), M'.2)) (law := W 0 1) (gn := nB) (hd := fun q => decide (bt k q = 0)) hA.u hW (by simp (disch := omega) only [u_ne]; exact h16) hW.2.1 (by simp (disch := omega) only [u_ne, h17]; exact hB_65535) (by
        simp only [u_self]
        refine hB_n (by omega) (by omega) (fun j hj => ?_)
        have := bt_lt k j
        unfold nt
        by_cases q : bt k j = 0
        · simp [q]
        · have : bt k j = 1 := by omega
          simp [this])
      have hl3 : M3.2 = M'.2 := b2.1.1
      have hev2 : lH W (lv W (W 0 1) nB (fun q => decide (bt k q = 0)) (hT0 W)) = evV W k := rfl
      have eh : ∀ f, f232 z (M3.1, f) = some (some (.inl (nI (evV W k))), (M3.1, f)) := fun f => by
        have := g232 (z := z) (M := (M3.1, f)) hz b3.1 hW b4 (fun t => lv_b hW _ _ _ (hT0_b hW) (Nat.le_refl _) t)
        rw [hev2] at this
        exact this
      have e71 : ∀ f, f171 z (nI (evV W k)) (M3.1, f) = some (some (.inl (nI (pc (evV W k)))), (M3.1, f)) := fun f => g171 hz _ (by omega)
      have hpc := pc_le (evV W k)
      have m16 : M3.1 205 16 = nI (W 0 1) := by rw [b2.2 16 (by omega)]; simp (disch := omega) only [u_ne]; exact h16
      have m17 : M3.1 205 17 = nI 65535 := by rw [b2.2 17 (by omega)]; simp (disch := omega) only [u_ne]; exact h17
      have hK3 : kR M M3 := hK.trans (kR.ofA ((kA.u (by omega) (by omega)).trans (kA.ofG b2)))
      generalize evV W k = v at *
      have key : ∀ (f : Nat → Nat → Int64) , f = am_ul (am_ul (am_ul M'.2 205 42 (lN (alS W k + lkV W k))) 205 43 (lN (huS W c k + lkV W k * bt v c))) 205 44 (lN (maS W k + lkV W k * pc v)) → kR M (M3.1, f) ∧ mA (M3.1, f) W ∧ f 205 42 = lN (alS W k + lkV W k) ∧ f 205 43 = lN (huS W c k + lkV W k * bt v c) ∧ f 205 44 = lN (maS W k + lkV W k * pc v) := by
        intro f hf
        rw [hf]
        refine ⟨hK3.trans (kR.l (fun a q1 q2 => by rw [ul_row q1, ul_row q1, ul_row q1, hl3])), b3, ?_, ?_, ?_⟩
        · rw [ul_ne (by omega), ul_ne (by omega), ul_self]
        · rw [ul_ne (by omega), ul_self]
        · rw [ul_self]
      simp only [b1, cb_bv]
      by_cases h1 : bt v c = 1
      · simp (disch := omega) only [hl3, i42, lN_add, eh, cb_bi, g172, h1, e71, ul_ne, ul_self, i43, i44, nI_l, lN_mul, n_1, q_add, not_true_eq_false, if_false]
        obtain ⟨c1, c2, c3, c4, c5⟩ := key _ rfl
        rw [h1, Nat.mul_one] at c1 c2 c3 c4 c5
        rw [Nat.mul_one]
        exact ⟨_, rfl, c1, c2, m16, m17, c3, c4, c5⟩
      · have h1' : bt v c = 0 := by omega
        have hn : ¬ nI 0 = nI 1 := by decide
        simp (disch := omega) only [hl3, i42, lN_add, eh, cb_bi, g172, h1', e71, ul_ne, ul_self, i43, i44, nI_l, lN_mul, n_1, q_add, hn, not_false_eq_true, if_true]
        obtain ⟨c1, c2, c3, c4, c5⟩ := key _ rfl
        rw [h1', Nat.mul_zero, Nat.add_zero] at c1 c2 c3 c4 c5
        rw [Nat.mul_zero, Nat.add_zero, show lN (huS W c k) + 0 = lN (huS W c k) from by rw [show (0 : Int64) = lN 0 from rfl, lN_add, Nat.add_zero]]
        exact ⟨_, rfl, c1, c2, m16, m17, c3, c4, c5⟩)
  refine ⟨M2, ?_, hK, ?_, i43, i44⟩
  · unfold f309
    simp only [a1, cb_bv, g179 a3.1, cb_bi]
    refine Eq.trans e1 ?_
    have hcond : (nI 1 <<< (nI (W 0 5) &&& nI 31)) ≤ nI (2 ^ W 0 5) := by
      rw [q_shl (by omega), q_le (by omega) (by omega)]
      omega
    rw [f309_26, n_1, n_31, if_pos hcond]
  · rw [i42]
    congr 1
    exact prN_sum ho (W 0 5)
theorem pc_1 : ∀ c, c < 8 → pc (2 ^ c) = 1 := by decide
theorem ch_hu {W : cW} {c : Nat} (hc : c < 8) : ∀ n, chS W (2 ^ c) n = huS W c n := fun n => sm_cong n (fun e _ => by
  have h1 := and_pow (evV W e) c
  have h2 := bt_lt (evV W e) c
  congr 1
  by_cases h : bt (evV W e) c = 1
  · rw [h]
    have : evV W e &&& 2 ^ c = 2 ^ c := by rw [h1]; exact h
    rw [this, pc_1 c hc]
  · have h0 : bt (evV W e) c = 0 := by omega
    rw [h0]
    have : evV W e &&& 2 ^ c = 0 := by
      apply Nat.eq_of_testBit_eq
      intro j
      rw [Nat.testBit_and, Nat.zero_testBit]
      by_cases q : j = c
      · have h3 : (evV W e).testBit c = false := by
          cases e9 : (evV W e).testBit c with
          | false => rfl
          | true => exact absurd (by rw [bt_tb]; exact e9) h
        rw [q, h3]; simp
      · rw [Nat.testBit_two_pow_of_ne (Ne.symm q)]; simp
    rw [this]
    rfl)
theorem ch_ma {W : cW} : ∀ n, chS W (2 ^ W 0 3 - 1) n = maS W n := fun n => sm_cong n (fun e _ => by
  show lkV W e * pc (evV W e &&& (2 ^ W 0 3 - 1)) = lkV W e * pc (evV W e)
  have : evV W e &&& (2 ^ W 0 3 - 1) = evV W e := hg_and W _ _
  rw [this])
theorem P_chance {z : Nat} (hz : 2000 ≤ z) {M : aM} {W : cW} (h : RW M W) (x1 x2 : Int32) : PL (f146 z x1 x2 M) (f310 z x1 x2) := by
  have hN3 := h.n3
  have hN5 := h.n5
  by_cases o1 : okN (W 0 3) x1
  · obtain ⟨c, hc, rfl⟩ := o1
    by_cases o2 : okW 0 1 x2
    · obtain ⟨w, _, hw, rfl⟩ := o2
      by_cases h8 : W 0 5 ≤ 8
      · obtain ⟨M1, e1, h1⟩ := c_exp hz h h8 (pow8 (show c < 8 by omega)) hw
        rw [ch_hu (by omega)] at e1
        have hch := chS_lt h.w h8 (2 ^ c)
        rw [ch_hu (by omega)] at hch
        have ht := ten_lt h8
        refine PL.r (v := fv (lN (huS W c (2 ^ W 0 5))) (lN (10 ^ W 0 5)) w (Nat.gcd (huS W c (2 ^ W 0 5)) (10 ^ W 0 5))) (M1 := M1) ?_ h1 ?_
        · simp only [f146, k8t h.c h.w hc, cb_bi, i1f]
          rw [n_0, n_1, k165t (Nat.zero_le w) hw (by omega), cb_bi, j1n, n_31, q_shl (show c < 31 by omega), e1, cb_bl]
        · obtain ⟨M2, b1, b2, b3, b4, b5⟩ := m_chance hz h1.m h1.w h8 (show c < 8 by omega)
          refine ⟨M2, ?_, b2⟩
          simp only [f310, k182t h1.m h1.w hc, k170t 1 L1 (by omega) hw, g179 h1.m, cb_bi, i1f, i1n]
          rw [n_8, if_pos (show nI (W 0 5) ≤ nI 8 by rw [q_le (by omega) (by omega)]; omega), b1, cb_bv, b3, b4, m_low hz (absN (by omega)) (by omega) ht.1 ht.2, fin9_v hw, cb_bl]
      · refine PL.r (v := -3) (M1 := M) ?_ h ⟨M, ?_, kR.id0⟩
        · simp only [f146, k8t h.c h.w hc, cb_bi, i1f]
          rw [n_0, n_1, k165t (Nat.zero_le w) hw (by omega), cb_bi, j1n]
          unfold f148
          rw [h.c.i6, n_8, if_neg (show ¬ nI (W 0 5) ≤ nI 8 by rw [q_le (by omega) (by omega)]; omega), cb_bl]
        · simp only [f310, k182t h.m h.w hc, k170t 1 L1 (by omega) hw, g179 h.m, cb_bi, i1f, i1n]
          rw [n_8, if_neg (show ¬ nI (W 0 5) ≤ nI 8 by rw [q_le (by omega) (by omega)]; omega)]
    · refine PL.r (v := -2) (M1 := M) ?_ h ⟨M, ?_, kR.id0⟩
      · simp only [f146, k8t h.c h.w hc, cb_bi, i1f]
        rw [n_0, n_1, k165f o2 (by omega) (by omega), cb_bi, j0n]
      · simp only [f310, k182t h.m h.w hc, k170f 1 L1 (by omega) (okW01 o2), cb_bi, i1f, i0n]
  · refine PL.r (v := -2) (M1 := M) ?_ h ⟨M, ?_, kR.id0⟩
    · simp only [f146, k8f h.c h.w o1, cb_bi, i0f]
    · simp only [f310, k182f h.m h.w o1, cb_bi, i0f]
theorem P_mean {z : Nat} (hz : 2000 ≤ z) {M : aM} {W : cW} (h : RW M W) (x1 : Int32) : PL (f147 z x1 M) (f311 z x1) := by
  have hN3 := h.n3
  have hN5 := h.n5
  by_cases h7 : 0 < W 0 7
  · by_cases o2 : okW 0 1 x1
    · obtain ⟨w, _, hw, rfl⟩ := o2
      by_cases h8 : W 0 5 ≤ 8
      · obtain ⟨M1, e1, h1⟩ := c_exp hz h h8 (pow8m hN3) hw
        rw [ch_ma] at e1
        have hch := chS_lt h.w h8 (2 ^ W 0 3 - 1)
        rw [ch_ma] at hch
        have ht := ten_lt h8
        refine PL.r (v := fv (lN (maS W (2 ^ W 0 5))) (lN (10 ^ W 0 5)) w (Nat.gcd (maS W (2 ^ W 0 5)) (10 ^ W 0 5))) (M1 := M1) ?_ h1 ?_
        · simp only [f147, k7t h.c h.w h7, cb_bi, i1f]
          rw [n_0, n_1, k165t (Nat.zero_le w) hw (by omega), cb_bi, j1n, k13 h.c h.w, cb_bi, e1, cb_bl]
        · obtain ⟨M2, b1, b2, b3, b4, b5⟩ := m_chance hz h1.m h1.w h8 (show 0 < 8 by omega)
          refine ⟨M2, ?_, b2⟩
          simp only [f311, g175t h1.m h1.w h7, k170t 1 L1 (by omega) hw, g179 h1.m, cb_bi, i1f, i1n]
          rw [n_8, if_pos (show nI (W 0 5) ≤ nI 8 by rw [q_le (by omega) (by omega)]; omega), n_0, b1, cb_bv, b3, b5, m_low hz (absN (by omega)) (by omega) ht.1 ht.2, fin9_v hw, cb_bl]
      · refine PL.r (v := -3) (M1 := M) ?_ h ⟨M, ?_, kR.id0⟩
        · simp only [f147, k7t h.c h.w h7, cb_bi, i1f]
          rw [n_0, n_1, k165t (Nat.zero_le w) hw (by omega), cb_bi, j1n, k13 h.c h.w, cb_bi]
          unfold f148
          rw [h.c.i6, n_8, if_neg (show ¬ nI (W 0 5) ≤ nI 8 by rw [q_le (by omega) (by omega)]; omega), cb_bl]
        · simp only [f311, g175t h.m h.w h7, k170t 1 L1 (by omega) hw, g179 h.m, cb_bi, i1f, i1n]
          rw [n_8, if_neg (show ¬ nI (W 0 5) ≤ nI 8 by rw [q_le (by omega) (by omega)]; omega)]
    · refine PL.r (v := -2) (M1 := M) ?_ h ⟨M, ?_, kR.id0⟩
      · simp only [f147, k7t h.c h.w h7, cb_bi, i1f]
        rw [n_0, n_1, k165f o2 (by omega) (by omega), cb_bi, j0n]
      · simp only [f311, g175t h.m h.w h7, k170f 1 L1 (by omega) (okW01 o2), cb_bi, i1f, i0n]
  · refine PL.r (v := -2) (M1 := M) ?_ h ⟨M, ?_, kR.id0⟩
    · simp only [f147, k7f h.c h7, cb_bi, i0f]
    · simp only [f311, g175f h.m h.w h7, cb_bi, i0f]
