/-! ===== lowest terms ===== -/
def fin9 (y0 y2 : Int64) (x : Int32) (g : Nat) (M : aM) : Option aR := if ¬ x = 0 then some (some (.inr (.inl (y2 / lN g))), M) else some (some (.inr (.inl (y0 / lN g))), M)
def fv (y0 y2 : Int64) (w g : Nat) : Int64 := if w = 0 then y0 / lN g else y2 / lN g
theorem fin9_v {y0 y2 : Int64} {w g : Nat} {M : aM} (hw : w ≤ 1) : fin9 y0 y2 (nI w) g M = some (some (.inr (.inl (fv y0 y2 w g))), M) := by
  have : w = 0 ∨ w = 1 := by omega
  rcases this with rfl | rfl
  · exact if_neg (by decide)
  · exact if_pos (by decide)
theorem lN_ne0 {a : Nat} (h0 : 0 < a) (h : a < 2 ^ 63) : ¬ lN a = 0 := by
  intro q
  have e : lN a = lN 0 := q
  rw [pk_lEQ h (by omega)] at e
  omega
theorem cmp0 {a : Nat} (h0 : 0 < a) (h : a < 2 ^ 63) : ¬ lg_cmp (lN a) 0 = 0 := by
  rw [lg_cmp_eq]
  exact lN_ne0 h0 h
theorem gcd_st (a b : Nat) : Nat.gcd a b = Nat.gcd b (a % b) := by
  rw [Nat.gcd_comm a b, Nat.gcd_rec b a, Nat.gcd_comm]
theorem eu_c0 {z : Nat} {M : aM} {y0 y2 : Int64} {x : Int32} {a i n : Nat} (ha : 0 < a) (ha2 : a < 2 ^ 63) (hi : i < 100) : f150_12 z (n + 1) y0 y2 x (lN a) (lN 0) (nI i) M = fin9 y0 y2 x a M := by
  rw [f150_12, n_100, if_neg (show ¬ nI 100 ≤ nI i by rw [q_le (by omega) (by omega)]; omega), if_pos (show lg_cmp (lN 0) 0 = 0 by decide), if_pos (cmp0 ha ha2), if_neg (lN_ne0 ha ha2), if_neg (lN_ne0 ha ha2)]
  rfl
theorem eu_c1 {z : Nat} {M : aM} {y0 y2 : Int64} {x : Int32} {a b i n : Nat} (hb : 0 < b) (ha2 : a < 2 ^ 63) (hb2 : b < 2 ^ 63) (hi : i < 100) : f150_12 z (n + 1) y0 y2 x (lN a) (lN b) (nI i) M = f150_12 z n y0 y2 x (lN b) (lN (a % b)) (nI (i + 1)) M := by
  rw [f150_12, n_100, if_neg (show ¬ nI 100 ≤ nI i by rw [q_le (by omega) (by omega)]; omega), if_neg (cmp0 hb hb2), if_neg (lN_ne0 hb hb2), pk_lRem ha2 hb hb2, n_1, q_add]
theorem eu_c {z : Nat} {M : aM} {y0 y2 : Int64} {x : Int32} : ∀ (m i a b n : Nat), b < 2 ^ m → m ≤ 40 → a < 2 ^ 63 → 0 < a → i + 2 * m < 100 → 2 * m < n → f150_12 z n y0 y2 x (lN a) (lN b) (nI i) M = fin9 y0 y2 x (Nat.gcd a b) M
  | 0, i, a, b, n, hb, hm, ha2, ha, hi, hn => by
    obtain ⟨n, rfl⟩ : ∃ n', n = n' + 1 := ⟨n - 1, by omega⟩
    have e : b = 0 := by omega
    subst e
    rw [eu_c0 ha ha2 (by omega), Nat.gcd_zero_right]
  | m + 1, i, a, b, n, hb, hm, ha2, ha, hi, hn => by
    obtain ⟨n, rfl⟩ : ∃ n', n = n' + 1 := ⟨n - 1, by omega⟩
    by_cases b0 : b = 0
    · subst b0
      rw [eu_c0 ha ha2 (by omega), Nat.gcd_zero_right]
    · have hp : 2 ^ (m + 1) ≤ 2 ^ 40 := Nat.pow_le_pow_right (n := 2) (by omega) (by omega)
      have hr := Nat.mod_lt a (show 0 < b by omega)
      rw [eu_c1 (by omega) ha2 (by omega) (by omega), gcd_st]
      obtain ⟨n, rfl⟩ : ∃ n', n = n' + 1 := ⟨n - 1, by omega⟩
      by_cases r0 : a % b = 0
      · rw [r0, eu_c0 (by omega) (by omega) (by omega), Nat.gcd_zero_right]
      · have hr2 := Nat.mod_lt b (show 0 < a % b by omega)
        have hd := Nat.div_add_mod b (a % b)
        have hq : 1 ≤ b / (a % b) := Nat.div_pos (by omega) (by omega)
        have hmul : a % b ≤ a % b * (b / (a % b)) := Nat.le_mul_of_pos_right _ hq
        have hh : b % (a % b) < 2 ^ m := by
          rw [Nat.pow_succ] at hb
          omega
        rw [eu_c1 (by omega) (by omega) (by omega) (by omega), gcd_st]
        exact eu_c m (i + 1 + 1) (a % b) (b % (a % b)) n hh (by omega) (by omega) (by omega) (by omega) (by omega)
theorem eu_m0 {z : Nat} {M : aM} {a n : Nat} : f302_9 z (n + 1) (lN a) (lN 0) M = some (some (.inr (.inl (lN a))), M) := by
  rw [f302_9, if_pos (show lg_cmp (lN 0) 0 = 0 by decide)]
theorem eu_m1 {z : Nat} {M : aM} {a b n : Nat} (hb : 0 < b) (ha2 : a < 2 ^ 63) (hb2 : b < 2 ^ 63) : f302_9 z (n + 1) (lN a) (lN b) M = f302_9 z n (lN b) (lN (a % b)) M := by
  rw [f302_9, if_neg (cmp0 hb hb2), if_neg (lN_ne0 hb hb2), pk_lRem ha2 hb hb2]
theorem eu_m {z : Nat} {M : aM} : ∀ (m a b n : Nat), b < 2 ^ m → m ≤ 40 → a < 2 ^ 63 → 2 * m < n → f302_9 z n (lN a) (lN b) M = some (some (.inr (.inl (lN (Nat.gcd a b)))), M)
  | 0, a, b, n, hb, hm, ha2, hn => by
    obtain ⟨n, rfl⟩ : ∃ n', n = n' + 1 := ⟨n - 1, by omega⟩
    have e : b = 0 := by omega
    subst e
    rw [eu_m0, Nat.gcd_zero_right]
  | m + 1, a, b, n, hb, hm, ha2, hn => by
    obtain ⟨n, rfl⟩ : ∃ n', n = n' + 1 := ⟨n - 1, by omega⟩
    by_cases b0 : b = 0
    · subst b0
      rw [eu_m0, Nat.gcd_zero_right]
    · have hp : 2 ^ (m + 1) ≤ 2 ^ 40 := Nat.pow_le_pow_right (n := 2) (by omega) (by omega)
      have hr := Nat.mod_lt a (show 0 < b by omega)
      rw [eu_m1 (by omega) ha2 (by omega), gcd_st]
      obtain ⟨n, rfl⟩ : ∃ n', n = n' + 1 := ⟨n - 1, by omega⟩
      by_cases r0 : a % b = 0
      · rw [r0, eu_m0, Nat.gcd_zero_right]
      · have hr2 := Nat.mod_lt b (show 0 < a % b by omega)
        have hd := Nat.div_add_mod b (a % b)
        have hq : 1 ≤ b / (a % b) := Nat.div_pos (by omega) (by omega)
        have hmul : a % b ≤ a % b * (b / (a % b)) := Nat.le_mul_of_pos_right _ hq
        have hh : b % (a % b) < 2 ^ m := by
          rw [Nat.pow_succ] at hb
          omega
        rw [eu_m1 (by omega) (by omega) (by omega), gcd_st]
        exact eu_m m (a % b) (b % (a % b)) n hh (by omega) (by omega) (by omega)
/-- inLowest; where what is above is 0 the first step goes to the number below -/
theorem c_low {z : Nat} (hz : 2000 ≤ z) {M : aM} {y0 : Int64} {x : Int32} {a b : Nat} (he : (if 0 < y0 then y0 else -y0) = lN a) (ha2 : a < 2 ^ 63) (hb : 0 < b) (hb2 : b < 2 ^ 27) : f150 z y0 (lN b) x M = fin9 y0 (lN b) x (Nat.gcd a b) M := by
  unfold f150
  rw [he, n_0]
  obtain ⟨z', hz'⟩ : ∃ z', z = z' + 1 := ⟨z - 1, by omega⟩
  have hr := Nat.mod_lt a hb
  have e := eu_c1 (z := z) (M := M) (y0 := y0) (y2 := lN b) (x := x) (a := a) (b := b) (i := 0) (n := z') hb ha2 (by omega) (by omega)
  rw [← hz'] at e
  rw [e, gcd_st]
  exact eu_c 27 1 b (a % b) z' (by omega) (by omega) (by omega) hb (by omega) (by omega)
theorem m_low {z : Nat} (hz : 2000 ≤ z) {M : aM} {y0 : Int64} {x : Int32} {a b : Nat} (he : (if 0 < y0 then y0 else -y0) = lN a) (ha2 : a < 2 ^ 63) (hb : 0 < b) (hb2 : b < 2 ^ 27) : f303 z y0 (lN b) x M = fin9 y0 (lN b) x (Nat.gcd a b) M := by
  have e : f302 z y0 (lN b) M = some (some (.inr (.inl (lN (Nat.gcd a b)))), M) := by
    unfold f302
    rw [he]
    exact eu_m 27 a b z hb2 (by omega) ha2 (by omega)
  have g0 : 0 < Nat.gcd a b := Nat.gcd_pos_of_pos_right a hb
  have g1 : Nat.gcd a b ≤ b := Nat.gcd_le_right a hb
  unfold f303 fin9
  rw [e, cb_bl, cb_bl, if_neg (lN_ne0 g0 (by omega)), if_neg (lN_ne0 g0 (by omega))]
/-! ===== share ===== -/
def fac : Nat → Nat
  | 0 => 1
  | n + 1 => (n + 1) * fac n
theorem fac_t : ∀ b, b < 9 → am_fact b = nI (fac b) ∧ 0 < fac b ∧ fac b ≤ 40320 := by decide
theorem fac_m : ∀ n, n < 9 → ∀ b, b < n → fac b * fac (n - 1 - b) ≤ 5040 := by decide
theorem g301 {z : Nat} (hz : 2000 ≤ z) {M : aM} {b : Nat} (hb : b < 9) : f301 z (nI b) M = some (some (.inl (nI (fac b))), M) := by
  unfold f301
  by_cases b0 : b = 0
  · obtain ⟨z', hz'⟩ : ∃ z', z = z' + 1 := ⟨z - 1, by omega⟩
    have : ∀ x, f301_4 z z (nI b) x 2 M = if nI b < 2 then some (some (.inl x), M) else f301_4 z z' (nI b) (x * 2) (2 + 1) M := by
      intro x
      rw [hz', f301_4]
    rw [this, if_pos (by rw [b0]; decide), b0]
    rfl
  · obtain ⟨n, e⟩ := lf0 (fun n k => f301_4 z n (nI b) (nI (fac (k + 1))) (nI (k + 2)) M) (b - 1) z (by omega) (by
      intro n k hk
      rw [f301_4, if_neg (show ¬ nI b < nI (k + 2) by rw [q_lt (by omega) (by omega)]; omega), n_1, q_mul, q_add]
      have : fac (k + 1) * (k + 2) = fac (k + 1 + 1) := Nat.mul_comm _ _
      rw [this])
    refine Eq.trans e ?_
    rw [f301_4, if_pos (show nI b < nI (b - 1 + 2) by rw [q_lt (by omega) (by omega)]; omega), show b - 1 + 1 = b by omega]
theorem stV_le (W : cW) (e : Nat) : stV W e ≤ 16 := pc_le _
/-- worthOfFirst -/
theorem c_st {z : Nat} (hz : 2000 ≤ z) {M : aM} {W : cW} (h : RW M W) {e : Nat} (he : e < 256) : ∃ M', f50 z 18 (nI e) M = some (some (.inl (nI (stV W e))), M') ∧ RW M' W := by
  have hlt := stV_le W e
  unfold f50
  rcases h.a.2.2 e he with q | q
  · have hX : 255 &&& (4294967295 - e) < 2147483648 := Nat.lt_of_le_of_lt Nat.and_le_left (by omega)
    have hg : hB (nI (255 &&& (4294967295 - e))) 16 (gnV e) := hB_n hX (by omega) (fun j hj => by
      have e1 := bt_and 255 (4294967295 - e) j
      have e2 : (bt 255 j = 1) = (j < 8) := bt_ones 8 j
      rw [e2, bt_not (by omega) (by omega)] at e1
      rw [e1]
      have := bt_lt e j
      unfold gnV
      by_cases q : bt e j = 0
      · simp [q]
      · have : bt e j = 1 := by omega
        simp [this])
    obtain ⟨M1, a1, a2⟩ := c_wo hz h hg
    have ev : woV W (gnV e) = stV W e := rfl
    rw [ev] at a1
    have en : nI 255 &&& (nI e ^^^ mI) = nI (255 &&& (4294967295 - e)) := q_not (by omega)
    generalize hv : stV W e = v at *
    simp (disch := omega) only [n_0, n_1, n_2, n_3, n_4, n_5, n_6, n_7, n_8, n_9, n_10, n_12, n_13, n_16, n_30, n_60, n_61, n_86, n_99, n_100, n_200, n_201, n_1023, n_65535, n_10000, n_1000000, ↓q_m1, ↓q_m2, ↓q_m3, ↓q_m4, ↓q_m5, ↓q_m6, ↓q_m7, ↓q_m8, ↓q_m1000, ↓q_m100000, q_add, q_addm, q_inB, q_cl, q_le, q_lt, q_eq, q_eqm, q_meq, q_mltT, q_ltm, q_lem, q_mleT, if_true, if_false, if_pos, if_neg, Nat.reduceAdd, Nat.reduceMul, Nat.add_zero, Nat.zero_add, Nat.one_mul, not_true_eq_false, not_false_eq_true, u_row, u_self, u_ne, cb_bi, cb_bv, cb_bl, q, n_255, en, a1]
    refine ⟨_, rfl, a2.cc (Fx.w Fx.id0 (by omega)) ?_⟩
    obtain ⟨c1, c2, c3⟩ := a2.a
    refine ⟨?_, ?_, ?_⟩
    · simp (disch := omega) only [u_row]
      exact c1
    · simp (disch := omega) only [u_row]
      exact c2
    · intro e' he'
      simp only [u_at]
      by_cases x : e' = e
      · rw [if_pos x, x]
        exact .inr (by rw [hv])
      · rw [if_neg x]
        exact c3 e' he'
  · generalize stV W e = v at *
    simp (disch := omega) only [n_0, n_1, n_2, n_3, n_4, n_5, n_6, n_7, n_8, n_9, n_10, n_12, n_13, n_16, n_30, n_60, n_61, n_86, n_99, n_100, n_200, n_201, n_1023, n_65535, n_10000, n_1000000, ↓q_m1, ↓q_m2, ↓q_m3, ↓q_m4, ↓q_m5, ↓q_m6, ↓q_m7, ↓q_m8, ↓q_m1000, ↓q_m100000, q_add, q_addm, q_inB, q_cl, q_le, q_lt, q_eq, q_eqm, q_meq, q_mltT, q_ltm, q_lem, q_mleT, if_true, if_false, if_pos, if_neg, Nat.reduceAdd, Nat.reduceMul, Nat.add_zero, Nat.zero_add, Nat.one_mul, not_true_eq_false, not_false_eq_true, u_row, u_self, u_ne, cb_bi, cb_bv, cb_bl, q]
    exact ⟨M, rfl, h⟩
theorem pc_lt {e n t : Nat} (he : e < 2 ^ n) (hn : n ≤ 16) (ht : t < n) (h0 : bt e t = 0) : pc e < n := by
  have h1 : ∀ k, n ≤ k → bt e k = 0 := by
    intro k hk
    unfold bt
    rw [Nat.div_eq_of_lt (Nat.lt_of_lt_of_le he (Nat.pow_le_pow_right (by omega) hk))]
  have h2 : ∀ j, pcS e (n + j) = pcS e n := by
    intro j
    induction j with
    | zero => rfl
    | succ j ih =>
      show pcS e (n + j) + bt e (n + j) = _
      rw [ih, h1 _ (by omega), Nat.add_zero]
  have h3 : ∀ k, t < k → pcS e k < k := by
    intro k
    induction k with
    | zero => intro q; omega
    | succ k ih =>
      intro q
      show pcS e k + bt e k < k + 1
      have b2 := bt_lt e k
      by_cases x : t = k
      · rw [← x, h0]
        have := pcS_le e t
        omega
      · have := ih (by omega)
        omega
  have h4 := h2 (16 - n)
  rw [show n + (16 - n) = 16 by omega] at h4
  show pcS e 16 < n
  rw [h4]
  exact h3 n ht
def shT (W : cW) (n t k : Nat) : Int64 := ((nI (fac (pc k))).toInt64 * (nI (fac (n - 1 - pc k))).toInt64) * (nI (stV W (k ||| 2 ^ t)) - nI (stV W k)).toInt64
def shS (W : cW) (n t : Nat) : Nat → Int64
  | 0 => 0
  | k + 1 => if bt k t = 0 then shS W n t k + shT W n t k else shS W n t k
theorem shT_32 (W : cW) (n t k : Nat) : (shT W n t k).toInt32 = (nI (fac (pc k)) * nI (fac (n - 1 - pc k))) * (nI (stV W (k ||| 2 ^ t)) - nI (stV W k)) := by
  unfold shT
  rw [lg_l2i_mul, lg_l2i_mul, lg_l2i_i2l, lg_l2i_i2l, lg_l2i_i2l]
theorem shT_b {W : cW} {n t k : Nat} (hn : n < 9) (hk : k < 2 ^ n) (ht : t < n) (h0 : bt k t = 0) : -80640 ≤ (shT W n t k).toInt ∧ (shT W n t k).toInt ≤ 80640 := by
  have hp := pc_lt hk (by omega) ht h0
  have hm := fac_m n hn (pc k) hp
  have f1 := fac_t (pc k) (by omega)
  have f2 := fac_t (n - 1 - pc k) (by omega)
  have s1 := stV_le W (k ||| 2 ^ t)
  have s2 := stV_le W k
  unfold shT
  generalize fac (pc k) = A at *
  generalize fac (n - 1 - pc k) = B at *
  generalize stV W (k ||| 2 ^ t) = u at *
  generalize stV W k = v at *
  have eAB : (nI A).toInt64 * (nI B).toInt64 = lN (A * B) := by rw [nI_l (by omega), nI_l (by omega), lN_mul]
  rw [eAB, Int64.toInt_mul, Int32.toInt_toInt64, q_subI (by omega) (by omega), pk_lT (by omega)]
  have hAB : ((A * B : Nat) : Int) ≤ ((5040 : Nat) : Int) := Int.ofNat_le.mpr hm
  have hAB0 : (0 : Int) ≤ ((A * B : Nat) : Int) := Int.natCast_nonneg _
  generalize ((A * B : Nat) : Int) = C at *
  have hd1 : -16 ≤ (u : Int) - v := by omega
  have hd2 : (u : Int) - v ≤ 16 := by omega
  generalize (u : Int) - v = D at *
  have hub : C * D ≤ 80640 := by
    have h1 : C * D ≤ C * 16 := Int.mul_le_mul_of_nonneg_left hd2 hAB0
    omega
  have hlb : -80640 ≤ C * D := by
    have h1 : C * (-16) ≤ C * D := Int.mul_le_mul_of_nonneg_left hd1 hAB0
    omega
  rw [Int.bmod_eq_of_le (by omega) (by omega)]
  exact ⟨hlb, hub⟩
theorem shS_b {W : cW} {n t : Nat} (hn : n < 9) (ht : t < n) : ∀ k : Nat, k ≤ 2 ^ n → k ≤ 256 → -80640 * (k : Int) ≤ (shS W n t k).toInt ∧ (shS W n t k).toInt ≤ 80640 * (k : Int)
  | 0, _, _ => by
    show -80640 * ((0 : Nat) : Int) ≤ (0 : Int64).toInt ∧ (0 : Int64).toInt ≤ 80640 * ((0 : Nat) : Int)
    have : (0 : Int64).toInt = 0 := by decide
    omega
  | k + 1, hk, hk2 => by
    have ih := shS_b (W := W) hn ht k (by omega) (by omega)
    unfold shS
    split
    · rename_i h0
      have hT := shT_b (W := W) hn (by omega) ht h0
      rw [Int64.toInt_add, Int.bmod_eq_of_le (by omega) (by omega)]
      omega
    · omega
theorem pow8' {n : Nat} (h : n < 9) : 2 ^ n ≤ 256 := Nat.pow_le_pow_right (n := 2) (by omega) (show n ≤ 8 by omega)
theorem or_lt8 {e n t : Nat} (he : e < 2 ^ n) (ht : t < n) : e ||| 2 ^ t < 2 ^ n := Nat.or_lt_two_pow he (Nat.pow_lt_pow_right (a := 2) (by omega) ht)
theorem q_or2' (a b : Nat) : nI a ||| nI (2 ^ b) = nI (a ||| 2 ^ b) := q_orN _ _
/-- the class's sum over sets -/
theorem c_share {z : Nat} (hz : 2000 ≤ z) {M : aM} {W : cW} (h : RW M W) {n t w : Nat} (hn : n < 9) (ht : t < n) : ∃ M', f142_43 z z (nI t) (nI w) (nI n) (nI 0) (nI 0) M = (am_bl (f150 z (shS W n t (2 ^ n)) (lN (fac n)) (nI w) M') fun v2 M1 => some (some (.inl (Int64.toInt32 v2)), M1)) ∧ RW M' W := by
  have h2n := pow8' hn
  obtain ⟨n1, M1, e1, h1⟩ := lr0 (fun m k M' => f142_43 z m (nI t) (nI w) (nI n) (shS W n t k).toInt32 (nI k) M') (2 ^ n) (fun k M' => RW M' W) z M (by omega) h (by
    intro m k M' hk hI
    have hcond : ¬ (nI 1 <<< (nI n &&& nI 31)) ≤ nI k := by
      rw [q_shl (by omega), q_le (by omega) (by omega)]
      omega
    have hb2 := bt_lt k t
    have ebt : (nI k >>> (nI t &&& nI 31)) &&& nI 1 = nI (bt k t) := q_bt (by omega) (by omega)
    rw [f142_43, n_1, n_31, if_neg hcond, ebt]
    by_cases h0 : bt k t = 0
    · have hp := pc_lt hk (by omega) ht h0
      have hor := or_lt8 hk ht
      obtain ⟨M2, a1, a2⟩ := c_st hz hI (show k ||| 2 ^ t < 256 by omega)
      obtain ⟨M3, b1, b2⟩ := c_st hz a2 (show k < 256 by omega)
      have es : shS W n t (k + 1) = shS W n t k + shT W n t k := if_pos h0
      refine ⟨M3, ?_, b2⟩
      rw [es, lg_l2i_add, shT_32, h0, if_neg (show ¬ ¬ nI 0 = 0 from fun q => q rfl), g328 z M' (show k < 65536 by omega), cb_bi, if_pos (q_inB (show pc k < 9 by omega) (by omega)), q_sub (show 1 ≤ n by omega), q_sub (show pc k ≤ n - 1 by omega), if_pos (q_inB (show n - 1 - pc k < 9 by omega) (by omega)), q_shl (show t < 31 by omega), q_or2', a1, cb_bi, b1, cb_bi, q_cl (by omega), q_cl (by omega), (fac_t (pc k) (by omega)).1, (fac_t (n - 1 - pc k) (by omega)).1, q_add]
    · have es : shS W n t (k + 1) = shS W n t k := if_neg h0
      have e1 : bt k t = 1 := by omega
      refine ⟨M', ?_, hI⟩
      rw [es, e1, if_pos (show ¬ nI 1 = 0 by decide), q_add])
  refine ⟨M1, ?_, h1⟩
  have e0 : (shS W n t 0).toInt32 = nI 0 := by
    show (0 : Int64).toInt32 = nI 0
    decide
  rw [e0] at e1
  refine Eq.trans e1 ?_
  have hcond : (nI 1 <<< (nI n &&& nI 31)) ≤ nI (2 ^ n) := by
    rw [q_shl (by omega), q_le (by omega) (by omega)]
    omega
  have hr := shS_b (W := W) hn ht (2 ^ n) (Nat.le_refl _) h2n
  have h2i : ((2 ^ n : Nat) : Int) ≤ ((256 : Nat) : Int) := Int.ofNat_le.mpr h2n
  have f2 := fac_t n hn
  rw [f142_43, n_1, n_31, if_pos hcond, if_pos (q_inB hn (by omega)), q_cl (by omega), f2.1, nI_l (by omega), lg_i2l_l2i (by omega) (by omega)]
/-- the model's worth of each set -/
theorem rest_ok {W : cW} (hW : wf W) {n e : Nat} (hn : n = min 8 (W 0 4)) (he : e < 2 ^ n) : woV W (gnS (e ||| (65536 - 2 ^ n))) = stV W e := by
  have hT : W 0 4 ≤ 16 := hW.2.2.2.2.1
  have hn8 : n ≤ 8 := by omega
  have hp := pow8' (show n < 9 by omega)
  show woV W (gnS (e ||| (65536 - 2 ^ n))) = woV W (gnV e)
  apply woV_cong hW
  intro t ht
  have hr : (bt (65536 - 2 ^ n) t = 1) = ¬ (t < n) := by
    have e1 : bt (65536 - 2 ^ n) t = bt (65535 &&& (4294967295 - (2 ^ n - 1))) t := by
      congr 1
      have h1 : 65535 &&& (4294967295 - (2 ^ n - 1)) = (4294967295 - (2 ^ n - 1)) % 65536 := by
        rw [Nat.and_comm]
        exact Nat.and_two_pow_sub_one_eq_mod _ 16
      rw [h1]
      have := Nat.two_pow_pos n
      omega
    have e2 : (bt 65535 t = 1) = (t < 16) := bt_ones 16 t
    rw [e1, bt_and, e2, bt_not (by omega) (by omega), bt_ones]
    simp [show t < 16 by omega]
  have ho := bt_or e (65536 - 2 ^ n) t
  rw [hr] at ho
  have h0 := bt_eq0 (e ||| (65536 - 2 ^ n)) t
  rw [ho] at h0
  have h1 := bt_eq0 e t
  unfold gnS gnV
  by_cases q : t < n
  · have q8 : t < 8 := by omega
    simp only [q8, decide_true, Bool.true_and]
    congr 1
    rw [h0, h1]
    simp [q]
  · have q8 : ¬ t < 8 := by omega
    simp only [q8, decide_false, Bool.false_and]
    rw [decide_eq_false_iff_not, h0]
    simp [q]
theorem m_share1 {z : Nat} (hz : 2000 ≤ z) {M : aM} {W : cW} (hW : wf W) {n : Nat} (hn : n = min 8 (W 0 4)) (hF : mF M W) (x1 x2 : Int32) : ∃ M', f304_55 z z x1 x2 (nI n) (nI (65536 - 2 ^ n)) (nI 0) M = f304_91 z z x1 x2 (nI n) 0 (nI 0) M' ∧ kR M M' ∧ (∀ e, e < 2 ^ n → M'.1 228 e = nI (stV W e)) := by
  have hn9 : n < 9 := by omega
  have h2n := pow8' hn9
  obtain ⟨n1, M1, e1, hK, hA, h16, h18, hI⟩ := lr0 (fun m k M' => f304_55 z m x1 x2 (nI n) (nI (65536 - 2 ^ n)) (nI k) M') (2 ^ n) (fun k M' => kR M M' ∧ mA M' W ∧ M'.1 205 16 = nI (W 0 1) ∧ M'.1 205 18 = nI 1023 ∧ (∀ e, e < k → M'.1 228 e = nI (stV W e))) z M (by omega) ⟨kR.id0, hF.a, hF.2.1, hF.2.2.2.1, fun e he => by omega⟩ (by
    intro m k M' hk hI
    obtain ⟨hK, hA, h16, h18, hI⟩ := hI
    have hcond : ¬ (nI 1 <<< (nI n &&& nI 31)) ≤ nI k := by
      rw [q_shl (by omega), q_le (by omega) (by omega)]
      omega
    have hX : k ||| (65536 - 2 ^ n) < 2 ^ 16 := Nat.or_lt_two_pow (by omega) (by have := Nat.two_pow_pos n; omega)
    obtain ⟨M2, b1, b2, b3, b4, b5⟩ := m_wo hz hW (show k ||| (65536 - 2 ^ n) < 2147483648 by omega) hA h16 h18
    rw [rest_ok hW hn hk] at b1
    have r228 : M2.1 228 = M'.1 228 := b2.1.2 228 (by unfold aF; omega)
    refine ⟨(am_u M2.1 228 k (nI (stV W k)), M2.2), ?_, ?_, ?_, ?_, ?_, ?_⟩
    · rw [f304_55, n_1, n_31, if_neg hcond, q_orN, b1, cb_bi, if_pos (q_inB (show k < 256 by omega) (by omega)), q_cl (by omega), q_add]
    · exact (hK.trans (kR.ofA b2)).trans (kR.fx (S := fun a => a = 228) (Fx.w Fx.id0 rfl) (fun a q => by unfold Sc; omega))
    · exact ⟨by simp (disch := omega) only [u_row]; exact b3.1, by simp (disch := omega) only [u_row]; exact b3.2⟩
    · simp (disch := omega) only [u_row]; exact b4
    · simp (disch := omega) only [u_row]; exact b5
    · intro e he
      simp only [u_at]
      by_cases q : e = k
      · rw [if_pos q, q]
      · rw [if_neg q, r228]; exact hI e (by omega))
  refine ⟨M1, ?_, hK, hI⟩
  refine Eq.trans e1 ?_
  have hcond : (nI 1 <<< (nI n &&& nI 31)) ≤ nI (2 ^ n) := by
    rw [q_shl (by omega), q_le (by omega) (by omega)]
    omega
  rw [f304_55, n_1, n_31, if_pos hcond, n_0]
theorem m_share2 {z : Nat} (hz : 2000 ≤ z) {M : aM} {W : cW} {n t w : Nat} (hn : n < 9) (ht : t < n) (hI : ∀ e, e < 2 ^ n → M.1 228 e = nI (stV W e)) : f304_91 z z (nI t) (nI w) (nI n) 0 (nI 0) M = (am_bl (f303 z (shS W n t (2 ^ n)) (lN (fac n)) (nI w) M) fun v4 M3 => some (some (.inl (Int64.toInt32 v4)), M3)) := by
  have h2n := pow8' hn
  obtain ⟨n1, e1⟩ := lf0 (fun m k => f304_91 z m (nI t) (nI w) (nI n) (shS W n t k) (nI k) M) (2 ^ n) z (by omega) (by
    intro m k hk
    have hcond : ¬ (nI 1 <<< (nI n &&& nI 31)) ≤ nI k := by
      rw [q_shl (by omega), q_le (by omega) (by omega)]
      omega
    have hb2 := bt_lt k t
    rw [f304_91, n_1, n_31, if_neg hcond, g172 z M (show k < 2147483648 by omega) (by omega), cb_bi]
    by_cases h0 : bt k t = 0
    · have hp := pc_lt hk (by omega) ht h0
      have hor := or_lt8 hk ht
      have es : shS W n t (k + 1) = shS W n t k + shT W n t k := if_pos h0
      have e171 := g171 (z := z) hz M (x := k) (by omega)
      rw [es, h0, if_neg (show ¬ ¬ nI 0 = 0 from fun q => q rfl), e171, cb_bi, g301 hz (show pc k < 9 by omega), cb_bi, e171, cb_bi, q_sub (show 1 ≤ n by omega), q_sub (show pc k ≤ n - 1 by omega), g301 hz (show n - 1 - pc k < 9 by omega), cb_bi, q_shl (show t < 31 by omega), q_or2', if_pos (q_inB (show k ||| 2 ^ t < 256 by omega) (by omega)), if_pos (q_inB (show k < 256 by omega) (by omega)), q_cl (by omega), q_cl (by omega), hI _ hor, hI k hk, q_add]
      rfl
    · have es : shS W n t (k + 1) = shS W n t k := if_neg h0
      have e1 : bt k t = 1 := by omega
      rw [es, e1, if_pos (show ¬ nI 1 = 0 by decide), q_add])
  refine Eq.trans e1 ?_
  have hcond : (nI 1 <<< (nI n &&& nI 31)) ≤ nI (2 ^ n) := by
    rw [q_shl (by omega), q_le (by omega) (by omega)]
    omega
  have f2 := fac_t n hn
  rw [f304_91, n_1, n_31, if_pos hcond, g301 hz hn, cb_bi, nI_l (by omega)]
theorem abs_ok {y : Int64} {B : Nat} (h1 : -(B : Int) ≤ y.toInt) (h2 : y.toInt ≤ B) (hB : B < 2 ^ 62) : ∃ a, (if 0 < y then y else -y) = lN a ∧ a < 2 ^ 63 := by
  have hnn : ¬ (if 0 < y then y else -y) < 0 := by
    have z0 : (0 : Int64).toInt = 0 := by decide
    split
    · rename_i q
      exact lg_lt_not q
    · rename_i q
      rw [Int64.lt_iff_toInt_lt, z0] at q
      rw [Int64.lt_iff_toInt_lt, z0, Int64.toInt_neg, Int.bmod_eq_of_le (by omega) (by omega)]
      omega
  obtain ⟨k, hk, e⟩ := pk_lOf hnn
  exact ⟨k, e, hk⟩
theorem k165nt {z : Nat} {M : aM} {n c : Nat} (h : c < n) (hn : n ≤ 1000) : f165 z (nI c) (nI 0) (nI n - nI 1) M = some (some (.inl (nI 1)), M) := by
  rw [q_sub (by omega)]
  exact k165t (Nat.zero_le c) (by omega) (by omega)
theorem k165nf {z : Nat} {M : aM} {n : Nat} {x : Int32} (h : ¬ okN n x) (hn : n ≤ 1000) : f165 z x (nI 0) (nI n - nI 1) M = some (some (.inl (nI 0)), M) := by
  by_cases n0' : n = 0
  · subst n0'
    unfold f165
    rw [n0, n1]
    rcases ok_c (by omega) h with q | ⟨q, q2⟩
    · rw [if_pos (show x < nI 0 from q)]
    · rw [if_neg (show ¬ x < nI 0 from q), if_pos]
      obtain ⟨j, hj, rfl⟩ := nI_of q
      rw [show nI 0 - nI 1 = mI by decide]
      exact q_mlt hj
  · rw [q_sub (by omega)]
    exact k165f (fun q => by obtain ⟨m, _, hm, e⟩ := q; exact h ⟨m, by omega, e⟩) (by omega) (by omega)
theorem P_share {z : Nat} (hz : 2000 ≤ z) {M : aM} {W : cW} (h : RW M W) (x1 x2 : Int32) : PR (f142 z x1 x2 M) (f304 z x1 x2) := by
  have hN4 := h.n4
  obtain ⟨n, hn⟩ : ∃ n, n = min 8 (W 0 4) := ⟨_, rfl⟩
  have hn9 : n < 9 := by omega
  have ec : (if nI 8 < nI (W 0 4) then nI 8 else nI (W 0 4)) = nI n := by
    by_cases q : 8 < W 0 4
    · rw [if_pos (show nI 8 < nI (W 0 4) by rw [q_lt (by omega) (by omega)]; exact q)]
      congr 1; omega
    · rw [if_neg (show ¬ nI 8 < nI (W 0 4) by rw [q_lt (by omega) (by omega)]; exact q)]
      congr 1; omega
  have em : (if nI (W 0 4) < nI 8 then nI (W 0 4) else nI 8) = nI n := by
    by_cases q : W 0 4 < 8
    · rw [if_pos (show nI (W 0 4) < nI 8 by rw [q_lt (by omega) (by omega)]; exact q)]
      congr 1; omega
    · rw [if_neg (show ¬ nI (W 0 4) < nI 8 by rw [q_lt (by omega) (by omega)]; exact q)]
      congr 1; omega
  by_cases o1 : okN n x1
  · obtain ⟨t, ht, rfl⟩ := o1
    by_cases o2 : okW 0 1 x2
    · obtain ⟨w, _, hw, rfl⟩ := o2
      obtain ⟨M1, e1, h1⟩ := c_share hz h (w := w) hn9 ht
      have hr := shS_b (W := W) hn9 ht (2 ^ n) (Nat.le_refl _) (pow8' hn9)
      have h2i : ((2 ^ n : Nat) : Int) ≤ ((256 : Nat) : Int) := Int.ofNat_le.mpr (pow8' hn9)
      obtain ⟨a, ha1, ha2⟩ := abs_ok (y := shS W n t (2 ^ n)) (B := 20643840) (by omega) (by omega) (by omega)
      have f2 := fac_t n hn9
      refine PR.r (M := M) (v := (fv (shS W n t (2 ^ n)) (lN (fac n)) w (Nat.gcd a (fac n))).toInt32) (M1 := M1) ?_ h1 ?_
      · unfold f142
        rw [h.c.i5, n_8, n_0, n_1, ec, k165nt ht (by omega), cb_bi, j1f, k165t (Nat.zero_le w) hw (by omega), cb_bi, j1n, e1, c_low hz ha1 ha2 f2.2.1 (by omega), fin9_v hw, cb_bl]
      · obtain ⟨M2, a1, a2, a3⟩ := m_asF hz h1.m h1.w
        obtain ⟨M3, b1, b2, b3⟩ := m_share1 hz h1.w hn a3 (nI t) (nI w)
        have hp := pow8' hn9
        refine ⟨M3, ?_, (kR.ofA a2).trans b2⟩
        simp only [f304, a1, k183t a3.1 h1.w (show t < W 0 4 by omega), cb_bi, cb_bv, i1f]
        rw [n_8, if_neg (show ¬ nI 8 ≤ nI t by rw [q_le (by omega) (by omega)]; omega), k170t 1 L1 (by omega) hw, cb_bi, i1n, g178 a3.1, cb_bi, em, n_1, n_31, q_shl (by omega), n_65536, q_sub (by omega), n_0, b1, m_share2 hz hn9 ht b3, m_low hz ha1 ha2 f2.2.1 (by omega), fin9_v hw, cb_bl]
    · refine PR.s h (v := -1000) ?_ (fun M1 h1 => ?_)
      · unfold f142
        rw [h.c.i5, n_8, n_0, n_1, ec, k165nt ht (by omega), cb_bi, j1f, k165f o2 (by omega) (by omega), cb_bi, j0n]
      · obtain ⟨M2, a1, a2, a3⟩ := m_asF hz h1.m h1.w
        refine ⟨M2, ?_, kR.ofA a2⟩
        simp only [f304, a1, k183t a3.1 h1.w (show t < W 0 4 by omega), cb_bi, cb_bv, i1f]
        rw [n_8, if_neg (show ¬ nI 8 ≤ nI t by rw [q_le (by omega) (by omega)]; omega), k170f 1 L1 (by omega) (okW01 o2), cb_bi, i0n]
  · refine PR.s h (v := -1000) ?_ (fun M1 h1 => ?_)
    · unfold f142
      rw [h.c.i5, n_8, n_0, n_1, ec, k165nf o1 (by omega), cb_bi, j0f]
    · obtain ⟨M2, a1, a2, a3⟩ := m_asF hz h1.m h1.w
      refine ⟨M2, ?_, kR.ofA a2⟩
      by_cases o4 : okN (W 0 4) x1
      · obtain ⟨t, ht, rfl⟩ := o4
        have h8 : 8 ≤ t := by
          apply Classical.byContradiction
          intro q
          exact o1 ⟨t, by omega, rfl⟩
        simp only [f304, a1, k183t a3.1 h1.w ht, cb_bi, cb_bv, i1f]
        rw [n_8, if_pos (show nI 8 ≤ nI t by rw [q_le (by omega) (by omega)]; omega)]
      · simp only [f304, a1, k183f a3.1 h1.w o4, cb_bi, cb_bv, i0f]
