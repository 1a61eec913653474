/-! ===== numbers of bits ===== -/
def pcS (x : Nat) : Nat → Nat
  | 0 => 0
  | n + 1 => pcS x n + bt x n
/-- how many of the first 16 bits -/
def pc (x : Nat) : Nat := pcS x 16
def bc1 (x : Nat) : Nat := x - (x / 2 ^ 1 &&& 1431655765)
def bc2 (x : Nat) : Nat := (x &&& 858993459) + (x / 2 ^ 2 &&& 858993459)
def bc3 (x : Nat) : Nat := (x + x / 2 ^ 4) &&& 252645135
def bc4 (x : Nat) : Nat := x + x / 2 ^ 8
def bc5 (x : Nat) : Nat := x + x / 2 ^ 16
theorem and8 {a b m k : Nat} (hb : b < 2 ^ 8) (hk : k < 2 ^ 8) : (2 ^ 8 * a + b) &&& (2 ^ 8 * m + k) = 2 ^ 8 * (a &&& m) + (b &&& k) := by
  apply Nat.eq_of_testBit_eq
  intro j
  have h : b &&& k < 2 ^ 8 := Nat.lt_of_le_of_lt Nat.and_le_left hb
  rw [Nat.testBit_and, Nat.testBit_two_pow_mul_add a hb, Nat.testBit_two_pow_mul_add m hk, Nat.testBit_two_pow_mul_add (a &&& m) h]
  split
  · rw [Nat.testBit_and]
  · rw [Nat.testBit_and]
theorem and8' {a b m k : Nat} (hb : b < 256) (hk : k < 256) : (256 * a + b) &&& (256 * m + k) = 256 * (a &&& m) + (b &&& k) := and8 (a := a) (b := b) (m := m) (k := k) hb hk
theorem bs1 : ∀ r, r < 2 → ∀ b, b < 256 → (128 * r + b / 2) &&& 85 = b / 2 &&& 85 := by decide +kernel
theorem bs2 : ∀ r, r < 4 → ∀ b, b < 256 → (64 * r + b / 4) &&& 51 = b / 4 &&& 51 := by decide +kernel
theorem bs3 : ∀ r, r < 5 → ∀ b, b < 69 → (b + b / 16 + 16 * r) &&& 15 = (b + b / 16) &&& 15 := by decide +kernel
def by1 (b : Nat) : Nat := b - (b / 2 &&& 85)
def by2 (b : Nat) : Nat := (b &&& 51) + (b / 4 &&& 51)
def by3 (b : Nat) : Nat := (b + b / 16) &&& 15
theorem bs4 : ∀ b, b < 256 → b / 2 &&& 85 ≤ b ∧ (b / 2 &&& 5592405) = (b / 2 &&& 85) ∧ by1 b < 256 ∧ (by1 b &&& 3355443) = (by1 b &&& 51) ∧ (by1 b / 4 &&& 3355443) = (by1 b / 4 &&& 51) ∧ by2 (by1 b) < 69 ∧ by2 (by1 b) % 16 < 5 ∧ (by2 (by1 b) + by2 (by1 b) / 16) &&& 986895 = by3 (by2 (by1 b)) ∧ by3 (by2 (by1 b)) = pcS b 8 ∧ pcS b 8 < 9 := by decide +kernel
theorem bs5 : ∀ p, p < 9 → ∀ q, q < 9 → bc5 (bc4 (256 * p + q)) &&& 63 = q + p ∧ bc5 (bc4 (256 * p + q)) < 100000000 := by decide +kernel
theorem bs6 (a b : Nat) (hb : b < 256) : pc (256 * a + b) = pcS b 8 + pcS a 8 := by
  have h1 : ∀ k, k < 8 → bt (256 * a + b) k = bt b k := by
    intro k hk
    have e := Nat.testBit_two_pow_mul_add (i := 8) (b := b) a hb k
    rw [if_pos hk] at e
    have x := bt_tb (256 * a + b) k
    have y := bt_tb b k
    have u := bt_lt (256 * a + b) k
    have v := bt_lt b k
    rw [show (2 : Nat) ^ 8 = 256 from rfl] at e
    rw [e] at x
    have w : (bt (256 * a + b) k = 1) = (bt b k = 1) := x.trans y.symm
    by_cases q : bt b k = 1
    · rw [q]; rw [w]; exact q
    · have q2 : ¬ bt (256 * a + b) k = 1 := by rw [w]; exact q
      omega
  have h2 : ∀ k, bt (256 * a + b) (8 + k) = bt a k := by
    intro k
    have e := Nat.testBit_two_pow_mul_add (i := 8) (b := b) a hb (8 + k)
    rw [if_neg (by omega), Nat.add_sub_cancel_left] at e
    have x := bt_tb (256 * a + b) (8 + k)
    have y := bt_tb a k
    have u := bt_lt (256 * a + b) (8 + k)
    have v := bt_lt a k
    rw [show (2 : Nat) ^ 8 = 256 from rfl] at e
    rw [e] at x
    have w : (bt (256 * a + b) (8 + k) = 1) = (bt a k = 1) := x.trans y.symm
    by_cases q : bt a k = 1
    · rw [q]; rw [w]; exact q
    · have q2 : ¬ bt (256 * a + b) (8 + k) = 1 := by rw [w]; exact q
      omega
  have a0 := h1 0 (by omega)
  have a1 := h1 1 (by omega)
  have a2 := h1 2 (by omega)
  have a3 := h1 3 (by omega)
  have a4 := h1 4 (by omega)
  have a5 := h1 5 (by omega)
  have a6 := h1 6 (by omega)
  have a7 := h1 7 (by omega)
  have c0 : bt (256 * a + b) 8 = bt a 0 := h2 0
  have c1 : bt (256 * a + b) 9 = bt a 1 := h2 1
  have c2 : bt (256 * a + b) 10 = bt a 2 := h2 2
  have c3 : bt (256 * a + b) 11 = bt a 3 := h2 3
  have c4 : bt (256 * a + b) 12 = bt a 4 := h2 4
  have c5 : bt (256 * a + b) 13 = bt a 5 := h2 5
  have c6 : bt (256 * a + b) 14 = bt a 6 := h2 6
  have c7 : bt (256 * a + b) 15 = bt a 7 := h2 7
  simp only [pc, pcS]
  omega
theorem bc_ok {x : Nat} (hx : x < 65536) : (x / 2 ^ 1 &&& 1431655765) ≤ x ∧ bc5 (bc4 (bc3 (bc2 (bc1 x)))) &&& 63 = pc x ∧ bc5 (bc4 (bc3 (bc2 (bc1 x)))) < 100000000 := by
  obtain ⟨a, b, ha, hb, rfl⟩ : ∃ a b, a < 256 ∧ b < 256 ∧ x = 256 * a + b := ⟨x / 256, x % 256, by omega, by omega, by omega⟩
  obtain ⟨p1, p2, p3, p4, p5, p6, p7, p8, p9, p10⟩ := bs4 a ha
  obtain ⟨q1, q2, q3, q4, q5, q6, q7, q8, q9, q10⟩ := bs4 b hb
  have e1 : (256 * a + b) / 2 ^ 1 &&& 1431655765 = 256 * (a / 2 &&& 85) + (b / 2 &&& 85) := by
    rw [show (256 * a + b) / 2 ^ 1 = 256 * (a / 2) + (128 * (a % 2) + b / 2) by omega, show 1431655765 = 256 * 5592405 + 85 from rfl, and8' (by omega) (by omega), bs1 _ (by omega) b hb, p2]
  have e2 : bc1 (256 * a + b) = 256 * by1 a + by1 b := by
    unfold bc1 by1
    rw [e1]
    omega
  have e3 : bc2 (256 * by1 a + by1 b) = 256 * by2 (by1 a) + by2 (by1 b) := by
    unfold bc2
    rw [show (256 * by1 a + by1 b) / 2 ^ 2 = 256 * (by1 a / 4) + (64 * (by1 a % 4) + by1 b / 4) by omega, show 858993459 = 256 * 3355443 + 51 from rfl, and8' q3 (by omega), and8' (by omega) (by omega), bs2 _ (by omega) _ q3, p4, p5]
    unfold by2
    omega
  have e4 : bc3 (256 * by2 (by1 a) + by2 (by1 b)) = 256 * by3 (by2 (by1 a)) + by3 (by2 (by1 b)) := by
    unfold bc3
    generalize by2 (by1 a) = A at *
    generalize by2 (by1 b) = B at *
    rw [show 256 * A + B + (256 * A + B) / 2 ^ 4 = 256 * (A + A / 16) + (B + B / 16 + 16 * (A % 16)) by omega, show 252645135 = 256 * 986895 + 15 from rfl, and8' (by omega) (by omega), bs3 _ (by omega) _ q6, p8]
    rfl
  have e5 := bs5 (pcS a 8) p10 (pcS b 8) q10
  rw [e2, e3, e4, p9, q9, bs6 a b hb, e1]
  exact ⟨by omega, e5.1, e5.2⟩
def bi1 (x : Int32) : Int32 := x - (((x.toUInt32 >>> ((1 : Int32).toUInt32 &&& Int32.toUInt32 31)).toInt32) &&& (1431655765 : Int32))
def bi2 (x : Int32) : Int32 := (x &&& (858993459 : Int32)) + (((x.toUInt32 >>> ((2 : Int32).toUInt32 &&& Int32.toUInt32 31)).toInt32) &&& (858993459 : Int32))
def bi3 (x : Int32) : Int32 := (x + ((x.toUInt32 >>> ((4 : Int32).toUInt32 &&& Int32.toUInt32 31)).toInt32)) &&& (252645135 : Int32)
def bi4 (x : Int32) : Int32 := x + ((x.toUInt32 >>> ((8 : Int32).toUInt32 &&& Int32.toUInt32 31)).toInt32)
def bi5 (x : Int32) : Int32 := x + ((x.toUInt32 >>> ((16 : Int32).toUInt32 &&& Int32.toUInt32 31)).toInt32)
theorem f328_eq (z : Nat) (x : Int32) (M : aM) : f328 z x M = some (some (.inl (bi5 (bi4 (bi3 (bi2 (bi1 x)))) &&& (63 : Int32))), M) := rfl
theorem bi1_n {x : Nat} (hx : x < 4294967296) (h : (x / 2 ^ 1 &&& 1431655765) ≤ x) : bi1 (nI x) = nI (bc1 x) := by
  unfold bi1 bc1
  rw [pk_ushrN hx _ 1 (by decide), show (1431655765 : Int32) = nI 1431655765 from rfl, q_andN, q_sub h]
theorem bi2_n {x : Nat} (hx : x < 4294967296) : bi2 (nI x) = nI (bc2 x) := by
  unfold bi2 bc2
  rw [pk_ushrN hx _ 2 (by decide), show (858993459 : Int32) = nI 858993459 from rfl, q_andN, q_andN, q_add]
theorem bi3_n {x : Nat} (hx : x < 4294967296) : bi3 (nI x) = nI (bc3 x) := by
  unfold bi3 bc3
  rw [pk_ushrN hx _ 4 (by decide), show (252645135 : Int32) = nI 252645135 from rfl, q_add, q_andN]
theorem bi4_n {x : Nat} (hx : x < 4294967296) : bi4 (nI x) = nI (bc4 x) := by
  unfold bi4 bc4
  rw [pk_ushrN hx _ 8 (by decide), q_add]
theorem bi5_n {x : Nat} (hx : x < 4294967296) : bi5 (nI x) = nI (bc5 x) := by
  unfold bi5 bc5
  rw [pk_ushrN hx _ 16 (by decide), q_add]
/-- Integer.bitCount -/
theorem g328 (z : Nat) {x : Nat} (M : aM) (hx : x < 65536) : f328 z (nI x) M = some (some (.inl (nI (pc x))), M) := by
  obtain ⟨h1, h2, h3⟩ := bc_ok hx
  have l1 : bc1 x ≤ x := Nat.sub_le _ _
  have l2 : bc2 (bc1 x) ≤ 858993459 + 858993459 := Nat.add_le_add Nat.and_le_right Nat.and_le_right
  have l3 : bc3 (bc2 (bc1 x)) ≤ 252645135 := Nat.and_le_right
  have l4 : bc4 (bc3 (bc2 (bc1 x))) ≤ 252645135 + 252645135 := Nat.add_le_add l3 (Nat.le_trans (Nat.div_le_self _ _) l3)
  rw [f328_eq, bi1_n (by omega) h1, bi2_n (by omega), bi3_n (by omega), bi4_n (by omega), bi5_n (by omega), show (63 : Int32) = nI 63 from rfl, q_andN, h2]
/-- the model's bits -/
theorem g171 {z : Nat} (hz : 2000 ≤ z) {x : Nat} (M : aM) (hx : x < 2147483648) : f171 z (nI x) M = some (some (.inl (nI (pc x))), M) := by
  unfold f171
  simp only [n_0]
  obtain ⟨n, e⟩ := lf0 (fun n k => f171_4 z n (nI x) (nI (pcS x k)) (nI k) M) 16 z (by omega) (by
    intro n k hk
    rw [f171_4]
    simp (disch := omega) only [n_0, n_1, n_2, n_3, n_4, n_5, n_6, n_7, n_8, n_9, n_10, n_12, n_13, n_16, n_30, n_60, n_61, n_86, n_99, n_100, n_200, n_201, n_1023, n_65535, n_10000, n_1000000, ↓q_m1, q_add, q_addm, q_inB, q_cl, q_le, q_lt, q_eq, q_eqm, q_meq, q_mltT, q_ltm, q_lem, q_mleT, if_true, if_false, if_pos, if_neg, Nat.reduceAdd, Nat.reduceMul, Nat.add_zero, Nat.zero_add, Nat.one_mul, not_true_eq_false, not_false_eq_true, u_row, u_self, u_ne, cb_bi, cb_bv, cb_bl, n_31]
    rw [q_bt hx (by omega), q_add]
    rfl)
  refine Eq.trans e ?_
  rw [f171_4]
  simp (disch := omega) only [n_0, n_1, n_2, n_3, n_4, n_5, n_6, n_7, n_8, n_9, n_10, n_12, n_13, n_16, n_30, n_60, n_61, n_86, n_99, n_100, n_200, n_201, n_1023, n_65535, n_10000, n_1000000, ↓q_m1, q_add, q_addm, q_inB, q_cl, q_le, q_lt, q_eq, q_eqm, q_meq, q_mltT, q_ltm, q_lem, q_mleT, if_true, if_false, if_pos, if_neg, Nat.reduceAdd, Nat.reduceMul, Nat.add_zero, Nat.zero_add, Nat.one_mul, not_true_eq_false, not_false_eq_true, u_row, u_self, u_ne, cb_bi, cb_bv, cb_bl]
  rfl
/-! ===== which numbers name something ===== -/
theorem in_iff {n : Nat} (hn : n ≤ 100000) (x : Int32) : ((0 : Int64) ≤ x.toInt64 ∧ x.toInt64 ≤ (nI n - nI 1).toInt64) ↔ ∃ c, c < n ∧ x = nI c := by
  rw [cb_w0, cb_wle]
  constructor
  · intro ⟨h1, h2⟩
    obtain ⟨j, hj, rfl⟩ := nI_of (Int32.not_lt.mpr h1)
    refine ⟨j, ?_, rfl⟩
    rw [Int32.le_iff_toInt_le, q_subI (by omega) (by omega), nI_toInt hj] at h2
    omega
  · intro ⟨c, hc, e⟩
    rw [e]
    refine ⟨nI_pos' (by omega), ?_⟩
    rw [Int32.le_iff_toInt_le, q_subI (by omega) (by omega), nI_toInt (by omega)]
    omega
theorem in_iff0 {n : Nat} (hn : n ≤ 100000) (x : Int32) : ((0 : Int64) ≤ x.toInt64 ∧ x.toInt64 ≤ (nI n).toInt64) ↔ ∃ c, c ≤ n ∧ x = nI c := by
  rw [cb_w0, cb_wle]
  constructor
  · intro ⟨h1, h2⟩
    obtain ⟨j, hj, rfl⟩ := nI_of (Int32.not_lt.mpr h1)
    exact ⟨j, (nI_leI hj (by omega)).mp h2, rfl⟩
  · intro ⟨c, hc, e⟩
    rw [e]
    exact ⟨nI_pos' (by omega), (nI_leI (by omega) (by omega)).mpr hc⟩
def okN (n : Nat) (x : Int32) : Prop := ∃ c, c < n ∧ x = nI c
theorem okN.i {n c : Nat} (h : c < n) : okN n (nI c) := ⟨c, h, rfl⟩
/-- x is neither below 0 nor n and more -/
theorem ok_c {n : Nat} (hn : n ≤ 100000) {x : Int32} (h : ¬ okN n x) : x < 0 ∨ ¬ x < 0 ∧ nI n ≤ x := by
  by_cases h0 : x < 0
  · exact .inl h0
  · refine .inr ⟨h0, ?_⟩
    obtain ⟨j, hj, rfl⟩ := nI_of h0
    rw [q_le (by omega) hj]
    apply Classical.byContradiction
    intro q
    exact h ⟨j, by omega, rfl⟩
theorem n0 : (0 : Int32) &&& 1 = nI 0 := by decide
theorem n1 : (1 : Int32) &&& 1 = nI 1 := by decide
theorem z0 : nI 0 &&& nI 1 = nI 0 := by decide
theorem z1 : nI 1 &&& nI 1 = nI 1 := by decide
/-! the class: hasClaim, hasThread, hasQuarrel, isThere, hasYear, hasYearAhead, within -/
theorem k8t {z : Nat} {M : aM} {W : cW} (hC : rC M 18 W) (hW : wf W) {c : Nat} (h : c < W 0 3) : f8 z 18 (nI c) M = some (some (.inl (nI 1)), M) := by
  have hC8 : W 0 3 ≤ 8 := hW.2.2.2.1
  unfold f8
  simp (disch := omega) only [n_0, n_1, n_2, n_3, n_4, n_5, n_6, n_7, n_8, n_9, n_10, n_12, n_13, n_16, n_30, n_60, n_61, n_86, n_99, n_100, n_200, n_201, n_1023, n_65535, n_10000, n_1000000, ↓q_m1, q_add, q_addm, q_inB, q_cl, q_le, q_lt, q_eq, q_eqm, q_meq, q_mltT, q_ltm, q_lem, q_mleT, if_true, if_false, if_pos, if_neg, Nat.reduceAdd, Nat.reduceMul, Nat.add_zero, Nat.zero_add, Nat.one_mul, not_true_eq_false, not_false_eq_true, u_row, u_self, u_ne, cb_bi, cb_bv, cb_bl, hC.i4, z1]
theorem k8f {z : Nat} {M : aM} {W : cW} (hC : rC M 18 W) (hW : wf W) {x : Int32} (h : ¬ okN (W 0 3) x) : f8 z 18 x M = some (some (.inl (nI 0)), M) := by
  have hC8 : W 0 3 ≤ 8 := hW.2.2.2.1
  unfold f8
  rw [hC.i4, n0, n1]
  rcases ok_c (by omega) h with q | ⟨q, q2⟩
  · rw [if_pos q]
  · rw [if_neg q, if_pos q2]
theorem k9t {z : Nat} {M : aM} {W : cW} (hC : rC M 18 W) (hW : wf W) {c : Nat} (h : c < W 0 4) : f9 z 18 (nI c) M = some (some (.inl (nI 1)), M) := by
  have hC8 : W 0 4 ≤ 16 := hW.2.2.2.2.1
  unfold f9
  simp (disch := omega) only [n_0, n_1, n_2, n_3, n_4, n_5, n_6, n_7, n_8, n_9, n_10, n_12, n_13, n_16, n_30, n_60, n_61, n_86, n_99, n_100, n_200, n_201, n_1023, n_65535, n_10000, n_1000000, ↓q_m1, q_add, q_addm, q_inB, q_cl, q_le, q_lt, q_eq, q_eqm, q_meq, q_mltT, q_ltm, q_lem, q_mleT, if_true, if_false, if_pos, if_neg, Nat.reduceAdd, Nat.reduceMul, Nat.add_zero, Nat.zero_add, Nat.one_mul, not_true_eq_false, not_false_eq_true, u_row, u_self, u_ne, cb_bi, cb_bv, cb_bl, hC.i5, z1]
theorem k9f {z : Nat} {M : aM} {W : cW} (hC : rC M 18 W) (hW : wf W) {x : Int32} (h : ¬ okN (W 0 4) x) : f9 z 18 x M = some (some (.inl (nI 0)), M) := by
  have hC8 : W 0 4 ≤ 16 := hW.2.2.2.2.1
  unfold f9
  rw [hC.i5, n0, n1]
  rcases ok_c (by omega) h with q | ⟨q, q2⟩
  · rw [if_pos q]
  · rw [if_neg q, if_pos q2]
theorem k10t {z : Nat} {M : aM} {W : cW} (hC : rC M 18 W) (hW : wf W) {c : Nat} (h : c < W 0 5) : f10 z 18 (nI c) M = some (some (.inl (nI 1)), M) := by
  have hC8 : W 0 5 ≤ 10 := hW.2.2.2.2.2.1
  unfold f10
  simp (disch := omega) only [n_0, n_1, n_2, n_3, n_4, n_5, n_6, n_7, n_8, n_9, n_10, n_12, n_13, n_16, n_30, n_60, n_61, n_86, n_99, n_100, n_200, n_201, n_1023, n_65535, n_10000, n_1000000, ↓q_m1, q_add, q_addm, q_inB, q_cl, q_le, q_lt, q_eq, q_eqm, q_meq, q_mltT, q_ltm, q_lem, q_mleT, if_true, if_false, if_pos, if_neg, Nat.reduceAdd, Nat.reduceMul, Nat.add_zero, Nat.zero_add, Nat.one_mul, not_true_eq_false, not_false_eq_true, u_row, u_self, u_ne, cb_bi, cb_bv, cb_bl, hC.i6, z1]
theorem k10f {z : Nat} {M : aM} {W : cW} (hC : rC M 18 W) (hW : wf W) {x : Int32} (h : ¬ okN (W 0 5) x) : f10 z 18 x M = some (some (.inl (nI 0)), M) := by
  have hC8 : W 0 5 ≤ 10 := hW.2.2.2.2.2.1
  unfold f10
  rw [hC.i6, n0, n1]
  rcases ok_c (by omega) h with q | ⟨q, q2⟩
  · rw [if_pos q]
  · rw [if_neg q, if_pos q2]
theorem k7t {z : Nat} {M : aM} {W : cW} (hC : rC M 18 W) (hW : wf W) (h : 0 < W 0 7) : f7 z 18 M = some (some (.inl (nI 1)), M) := by
  have h7 : W 0 7 ≤ 800 := hW.2.2.2.2.2.2.2.1
  unfold f7
  simp (disch := omega) only [n_0, n_1, n_2, n_3, n_4, n_5, n_6, n_7, n_8, n_9, n_10, n_12, n_13, n_16, n_30, n_60, n_61, n_86, n_99, n_100, n_200, n_201, n_1023, n_65535, n_10000, n_1000000, ↓q_m1, q_add, q_addm, q_inB, q_cl, q_le, q_lt, q_eq, q_eqm, q_meq, q_mltT, q_ltm, q_lem, q_mleT, if_true, if_false, if_pos, if_neg, Nat.reduceAdd, Nat.reduceMul, Nat.add_zero, Nat.zero_add, Nat.one_mul, not_true_eq_false, not_false_eq_true, u_row, u_self, u_ne, cb_bi, cb_bv, cb_bl, hC.i0, z1]
theorem k7f {z : Nat} {M : aM} {W : cW} (hC : rC M 18 W) (h : ¬ 0 < W 0 7) : f7 z 18 M = some (some (.inl (nI 0)), M) := by
  unfold f7
  simp (disch := omega) only [n_0, n_1, n_2, n_3, n_4, n_5, n_6, n_7, n_8, n_9, n_10, n_12, n_13, n_16, n_30, n_60, n_61, n_86, n_99, n_100, n_200, n_201, n_1023, n_65535, n_10000, n_1000000, ↓q_m1, q_add, q_addm, q_inB, q_cl, q_le, q_lt, q_eq, q_eqm, q_meq, q_mltT, q_ltm, q_lem, q_mleT, if_true, if_false, if_pos, if_neg, Nat.reduceAdd, Nat.reduceMul, Nat.add_zero, Nat.zero_add, Nat.one_mul, not_true_eq_false, not_false_eq_true, u_row, u_self, u_ne, cb_bi, cb_bv, cb_bl, hC.i0, z0]
def okY (W : cW) (x : Int32) : Prop := 0 < W 0 7 ∧ okN (W 0 0 + 1) x
def okA (W : cW) (x : Int32) : Prop := 0 < W 0 7 ∧ okN (W 0 0) x
theorem k11t {z : Nat} {M : aM} {W : cW} (hC : rC M 18 W) (hW : wf W) {y : Nat} (h7 : 0 < W 0 7) (h : y ≤ W 0 0) : f11 z 18 (nI y) M = some (some (.inl (nI 1)), M) := by
  have hY : W 0 0 ≤ 12 := hW.1
  unfold f11
  rw [k7t hC hW h7, cb_bi]
  simp (disch := omega) only [n_0, n_1, n_2, n_3, n_4, n_5, n_6, n_7, n_8, n_9, n_10, n_12, n_13, n_16, n_30, n_60, n_61, n_86, n_99, n_100, n_200, n_201, n_1023, n_65535, n_10000, n_1000000, ↓q_m1, q_add, q_addm, q_inB, q_cl, q_le, q_lt, q_eq, q_eqm, q_meq, q_mltT, q_ltm, q_lem, q_mleT, if_true, if_false, if_pos, if_neg, Nat.reduceAdd, Nat.reduceMul, Nat.add_zero, Nat.zero_add, Nat.one_mul, not_true_eq_false, not_false_eq_true, u_row, u_self, u_ne, cb_bi, cb_bv, cb_bl, hC.i1, z1]
theorem k11f {z : Nat} {M : aM} {W : cW} (hC : rC M 18 W) (hW : wf W) {x : Int32} (h : ¬ okY W x) : f11 z 18 x M = some (some (.inl (nI 0)), M) := by
  have hY : W 0 0 ≤ 12 := hW.1
  unfold f11
  by_cases h7 : 0 < W 0 7
  · rw [k7t hC hW h7, cb_bi, if_neg (by decide), hC.i1, n0, n1]
    rcases ok_c (n := W 0 0 + 1) (by omega) (fun q => h ⟨h7, q⟩) with q | ⟨q, q2⟩
    · rw [if_pos q]
    · rw [if_neg q, if_pos]
      obtain ⟨j, hj, rfl⟩ := nI_of q
      rw [q_le (by omega) hj] at q2
      rw [q_lt (by omega) hj]
      omega
  · rw [k7f hC h7, cb_bi, if_pos (show nI 0 = 0 from rfl), n0]
theorem k12t {z : Nat} {M : aM} {W : cW} (hC : rC M 18 W) (hW : wf W) {y : Nat} (h7 : 0 < W 0 7) (h : y < W 0 0) : f12 z 18 (nI y) M = some (some (.inl (nI 1)), M) := by
  have hY : W 0 0 ≤ 12 := hW.1
  unfold f12
  rw [k7t hC hW h7, cb_bi]
  simp (disch := omega) only [n_0, n_1, n_2, n_3, n_4, n_5, n_6, n_7, n_8, n_9, n_10, n_12, n_13, n_16, n_30, n_60, n_61, n_86, n_99, n_100, n_200, n_201, n_1023, n_65535, n_10000, n_1000000, ↓q_m1, q_add, q_addm, q_inB, q_cl, q_le, q_lt, q_eq, q_eqm, q_meq, q_mltT, q_ltm, q_lem, q_mleT, if_true, if_false, if_pos, if_neg, Nat.reduceAdd, Nat.reduceMul, Nat.add_zero, Nat.zero_add, Nat.one_mul, not_true_eq_false, not_false_eq_true, u_row, u_self, u_ne, cb_bi, cb_bv, cb_bl, hC.i1, z1]
theorem k12f {z : Nat} {M : aM} {W : cW} (hC : rC M 18 W) (hW : wf W) {x : Int32} (h : ¬ okA W x) : f12 z 18 x M = some (some (.inl (nI 0)), M) := by
  have hY : W 0 0 ≤ 12 := hW.1
  unfold f12
  by_cases h7 : 0 < W 0 7
  · rw [k7t hC hW h7, cb_bi, if_neg (by decide), hC.i1, n0, n1]
    rcases ok_c (n := W 0 0) (by omega) (fun q => h ⟨h7, q⟩) with q | ⟨q, q2⟩
    · rw [if_pos q]
    · rw [if_neg q, if_pos q2]
  · rw [k7f hC h7, cb_bi, if_pos (show nI 0 = 0 from rfl), n0]
/-! the model: isClaim, isThread, isQuarrel, isYear, isAhead -/
theorem k182t {z : Nat} {M : aM} {W : cW} (h : rM (M.1 206) W) (hW : wf W) {c : Nat} (hc : c < W 0 3) : f182 z (nI c) M = some (some (.inl (nI 1)), M) := by
  have hC8 : W 0 3 ≤ 8 := hW.2.2.2.1
  unfold f182
  rw [g177 h, cb_bi, n_1, g170t z M ((in_iff (by omega) _).mpr ⟨c, hc, rfl⟩), cb_bi]
  rfl
theorem k182f {z : Nat} {M : aM} {W : cW} (h : rM (M.1 206) W) (hW : wf W) {x : Int32} (hc : ¬ okN (W 0 3) x) : f182 z x M = some (some (.inl (nI 0)), M) := by
  have hC8 : W 0 3 ≤ 8 := hW.2.2.2.1
  unfold f182
  rw [g177 h, cb_bi, n_1, g170f z M (fun q => hc ((in_iff (by omega) _).mp q)), cb_bi]
  rfl
theorem k183t {z : Nat} {M : aM} {W : cW} (h : rM (M.1 206) W) (hW : wf W) {c : Nat} (hc : c < W 0 4) : f183 z (nI c).toInt64 M = some (some (.inl (nI 1)), M) := by
  have hC8 : W 0 4 ≤ 16 := hW.2.2.2.2.1
  unfold f183
  rw [g178 h, cb_bi, n_1, g170t z M ((in_iff (by omega) _).mpr ⟨c, hc, rfl⟩), cb_bi]
  rfl
theorem k183f {z : Nat} {M : aM} {W : cW} (h : rM (M.1 206) W) (hW : wf W) {x : Int32} (hc : ¬ okN (W 0 4) x) : f183 z x.toInt64 M = some (some (.inl (nI 0)), M) := by
  have hC8 : W 0 4 ≤ 16 := hW.2.2.2.2.1
  unfold f183
  rw [g178 h, cb_bi, n_1, g170f z M (fun q => hc ((in_iff (by omega) _).mp q)), cb_bi]
  rfl
theorem k184t {z : Nat} {M : aM} {W : cW} (h : rM (M.1 206) W) (hW : wf W) {c : Nat} (hc : c < W 0 5) : f184 z (nI c) M = some (some (.inl (nI 1)), M) := by
  have hC8 : W 0 5 ≤ 10 := hW.2.2.2.2.2.1
  unfold f184
  rw [g179 h, cb_bi, n_1, g170t z M ((in_iff (by omega) _).mpr ⟨c, hc, rfl⟩), cb_bi]
  rfl
theorem k184f {z : Nat} {M : aM} {W : cW} (h : rM (M.1 206) W) (hW : wf W) {x : Int32} (hc : ¬ okN (W 0 5) x) : f184 z x M = some (some (.inl (nI 0)), M) := by
  have hC8 : W 0 5 ≤ 10 := hW.2.2.2.2.2.1
  unfold f184
  rw [g179 h, cb_bi, n_1, g170f z M (fun q => hc ((in_iff (by omega) _).mp q)), cb_bi]
  rfl
theorem g175t {z : Nat} {M : aM} {W : cW} (h : rM (M.1 206) W) (hW : wf W) (h7 : 0 < W 0 7) : f175 z M = some (some (.inl (nI 1)), M) := by
  rw [g175 h hW, if_pos h7]
theorem g175f {z : Nat} {M : aM} {W : cW} (h : rM (M.1 206) W) (hW : wf W) (h7 : ¬ 0 < W 0 7) : f175 z M = some (some (.inl (nI 0)), M) := by
  rw [g175 h hW, if_neg h7]
theorem k180t {z : Nat} {M : aM} {W : cW} (h : rM (M.1 206) W) (hW : wf W) {y : Nat} (h7 : 0 < W 0 7) (hy : y ≤ W 0 0) : f180 z (nI y).toInt64 M = some (some (.inl (nI 1)), M) := by
  have hY : W 0 0 ≤ 12 := hW.1
  unfold f180
  rw [g175t h hW h7, cb_bi, if_neg (by decide), g176 h, cb_bi, g170t z M ((in_iff0 (by omega) _).mpr ⟨y, hy, rfl⟩), cb_bi]
  rfl
theorem k180f {z : Nat} {M : aM} {W : cW} (h : rM (M.1 206) W) (hW : wf W) {x : Int32} (hx : ¬ okY W x) : f180 z x.toInt64 M = some (some (.inl (nI 0)), M) := by
  have hY : W 0 0 ≤ 12 := hW.1
  unfold f180
  by_cases h7 : 0 < W 0 7
  · rw [g175t h hW h7, cb_bi, if_neg (by decide), g176 h, cb_bi, g170f z M (fun q => hx ⟨h7, by obtain ⟨c, hc, e⟩ := (in_iff0 (by omega) _).mp q; exact ⟨c, by omega, e⟩⟩), cb_bi]
    rfl
  · rw [g175f h hW h7, cb_bi, if_pos (show nI 0 = 0 from rfl)]
    rfl
theorem k181t {z : Nat} {M : aM} {W : cW} (h : rM (M.1 206) W) (hW : wf W) {y : Nat} (h7 : 0 < W 0 7) (hy : y < W 0 0) : f181 z (nI y).toInt64 M = some (some (.inl (nI 1)), M) := by
  have hY : W 0 0 ≤ 12 := hW.1
  unfold f181
  rw [g175t h hW h7, cb_bi, if_neg (by decide), g176 h, cb_bi, n_1, g170t z M ((in_iff (by omega) _).mpr ⟨y, hy, rfl⟩), cb_bi]
  rfl
theorem k181f {z : Nat} {M : aM} {W : cW} (h : rM (M.1 206) W) (hW : wf W) {x : Int32} (hx : ¬ okA W x) : f181 z x.toInt64 M = some (some (.inl (nI 0)), M) := by
  have hY : W 0 0 ≤ 12 := hW.1
  unfold f181
  by_cases h7 : 0 < W 0 7
  · rw [g175t h hW h7, cb_bi, if_neg (by decide), g176 h, cb_bi, n_1, g170f z M (fun q => hx ⟨h7, (in_iff (by omega) _).mp q⟩), cb_bi]
    rfl
  · rw [g175f h hW h7, cb_bi, if_pos (show nI 0 = 0 from rfl)]
    rfl
