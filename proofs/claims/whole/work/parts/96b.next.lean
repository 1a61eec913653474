/-! ===== the model's next token ===== -/
def byP (x : Int32) : Bool := decide (((x &&& 255 = 32) ↔ x = 32) ∧ ((x &&& 255 = 10) ↔ x = 10) ∧ ((x &&& 255 = 59) ↔ x = 59) ∧ ((97 ≤ x &&& 255 ∧ x &&& 255 ≤ 122) ↔ (97 ≤ x ∧ x ≤ 122)) ∧ ((48 ≤ x &&& 255 ∧ x &&& 255 ≤ 57) ↔ (48 ≤ x ∧ x ≤ 57)) ∧ ¬ (x &&& 255 = -1) ∧ ((48 ≤ x ∧ x ≤ 57) → x &&& 255 = x))
theorem byA : ∀ n : Fin 256, byP (Int8.ofBitVec (BitVec.ofFin n)).toInt32 = true := by decide +kernel
theorem byT {x : Int32} (h : byt x) : ((x &&& 255 = 32) ↔ x = 32) ∧ ((x &&& 255 = 10) ↔ x = 10) ∧ ((x &&& 255 = 59) ↔ x = 59) ∧ ((97 ≤ x &&& 255 ∧ x &&& 255 ≤ 122) ↔ (97 ≤ x ∧ x ≤ 122)) ∧ ((48 ≤ x &&& 255 ∧ x &&& 255 ≤ 57) ↔ (48 ≤ x ∧ x ≤ 57)) ∧ ¬ (x &&& 255 = -1) ∧ ((48 ≤ x ∧ x ≤ 57) → x &&& 255 = x) := by
  have h1 : byP x.toInt8.toInt32 = true := byA x.toInt8.toBitVec.toFin
  rw [show x.toInt8.toInt32 = x from h] at h1
  exact of_decide_eq_true h1
theorem u_p {f : Nat → Nat → Int32} {g : Nat → Nat → Int64} {a i : Nat} {x y : Int32} (h : x = y) : ((am_u f a i x, g) : aM).1 a i = y := by rw [← h]; exact u_self
/-- the model's tape -/
def mP (M : aM) (b : Nat → Int32) (n q : Nat) : Prop := M.1 205 7 = nI n ∧ M.1 205 8 = nI q ∧ n ≤ 800 ∧ q ≤ n ∧ ∀ i, i < n → M.1 209 i = b i ∧ byt (b i)
theorem mP.u {M : aM} {b : Nat → Int32} {n q : Nat} (h : mP M b n q) {q' : Nat} (hq : q' ≤ n) : mP (am_u M.1 205 8 (nI q'), M.2) b n q' := by
  obtain ⟨a, b, c, d, e⟩ := h
  refine ⟨?_, ?_, c, hq, fun i hi => ?_⟩
  · show am_u M.1 205 8 (nI q') 205 7 = _
    rw [u_ne (by omega)]; exact a
  · show am_u M.1 205 8 (nI q') 205 8 = _
    rw [u_self]
  · show am_u M.1 205 8 (nI q') 209 i = _ ∧ _
    rw [u_row (by omega)]; exact e i hi
theorem mP.v {M : aM} {b : Nat → Int32} {n q : Nat} (h : mP M b n q) {j : Nat} {x : Int32} (h1 : j ≠ 7) (h2 : j ≠ 8) : mP (am_u M.1 205 j x, M.2) b n q := by
  obtain ⟨a, b, c, d, e⟩ := h
  refine ⟨?_, ?_, c, d, fun i hi => ?_⟩
  · show am_u M.1 205 j x 205 7 = _
    rw [u_ne (by omega)]; exact a
  · show am_u M.1 205 j x 205 8 = _
    rw [u_ne (by omega)]; exact b
  · show am_u M.1 205 j x 209 i = _ ∧ _
    rw [u_row (by omega)]; exact e i hi
theorem k190 {z : Nat} {M : aM} {b : Nat → Int32} {n q : Nat} (h : mP M b n q) : f190 z (nI q) M = some (some (.inl (if q < n then b q &&& 255 else mI)), M) := by
  obtain ⟨a, _, c, d, e⟩ := h
  unfold f190
  rw [a]
  by_cases hq : q < n
  · rw [if_neg (show ¬ nI n ≤ nI q by rw [q_le (by omega) (by omega)]; omega), if_pos (q_inB (show q < 800 by omega) (by omega)), q_cl (by omega), (e q hq).1, if_pos hq]
  · rw [if_pos (show nI n ≤ nI q by rw [q_le (by omega) (by omega)]; omega), if_neg hq]
    rfl
theorem k170w {z : Nat} {M : aM} (v : Int32) : f170 z (Int32.toInt64 v) (97 : Int64) (122 : Int64) M = some (some (.inl (if 97 ≤ v ∧ v ≤ 122 then 1 else 0)), M) := by
  rw [g170, show (97 : Int64) = (97 : Int32).toInt64 by decide, show (122 : Int64) = (122 : Int32).toInt64 by decide]
  simp only [cb_wle]
theorem k170d {z : Nat} {M : aM} (v : Int32) : f170 z (Int32.toInt64 v) (48 : Int64) (57 : Int64) M = some (some (.inl (if 48 ≤ v ∧ v ≤ 57 then 1 else 0)), M) := by
  rw [g170, show (48 : Int64) = (48 : Int32).toInt64 by decide, show (57 : Int64) = (57 : Int32).toInt64 by decide]
  simp only [cb_wle]
def w8 (M M' : aM) : Prop := Fx (fun a => a = 205) M M' ∧ ∀ j, j ≠ 8 → j ≠ 10 → j ≠ 11 → M'.1 205 j = M.1 205 j
theorem w8.id0 (M : aM) : w8 M M := ⟨Fx.id0, fun _ _ _ _ => rfl⟩
theorem w8.trans {a b c : aM} (h : w8 a b) (h' : w8 b c) : w8 a c := ⟨h.1.trans h'.1, fun j q r s => (h'.2 j q r s).trans (h.2 j q r s)⟩
theorem w8.u {M : aM} {j : Nat} {x : Int32} (hj : j = 8 ∨ j = 10 ∨ j = 11) : w8 M (am_u M.1 205 j x, M.2) := ⟨Fx.w Fx.id0 rfl, fun i q r s => by show am_u M.1 205 j x 205 i = _; rw [u_ne (by omega)]⟩
theorem m_let {z : Nat} {b : Nat → Int32} {n : Nat} : ∀ (m q k : Nat) (M : aM), q + m = n → m < k → mP M b n q → ∃ M', f191_83 z k M = some (none, M') ∧ w8 M M' ∧ mP M' b n (nx (tL b) m q) ∧ M'.1 205 10 = nI 1
  | 0, q, k, M, hm, hk, h => by
    obtain ⟨k, rfl⟩ : ∃ k', k = k' + 1 := ⟨k - 1, by omega⟩
    refine ⟨(am_u M.1 205 10 (1 : Int32), M.2), ?_, w8.u (by omega), h.v (by omega) (by omega), u_p rfl⟩
    rw [f191_83, h.2.1, k190 h, cb_bi, if_neg (show ¬ q < n by omega), k170w, if_neg (by decide), cb_bi, if_pos rfl]
  | m + 1, q, k, M, hm, hk, h => by
    obtain ⟨k, rfl⟩ : ∃ k', k = k' + 1 := ⟨k - 1, by omega⟩
    have hB := byT (h.2.2.2.2 q (by omega)).2
    unfold nx
    rw [f191_83, h.2.1, k190 h, cb_bi, if_pos (show q < n by omega), k170w, cb_bi]
    by_cases e : tL b q = true
    · have e' := of_decide_eq_true e
      rw [if_pos e, if_pos (hB.2.2.2.1.mpr e'), if_neg (by decide), h.2.1, n_1, q_add]
      obtain ⟨M', a1, a2, a3⟩ := m_let (z := z) m (q + 1) k _ (by omega) (by omega) (h.u (q' := q + 1) (by omega))
      exact ⟨M', a1, (w8.u (.inl rfl)).trans a2, a3⟩
    · have e' : ¬ (97 ≤ b q ∧ b q ≤ 122) := fun w => e (decide_eq_true w)
      rw [if_neg e, if_neg (fun w => e' (hB.2.2.2.1.mp w)), if_pos rfl]
      exact ⟨_, rfl, w8.u (by omega), h.v (by omega) (by omega), u_p rfl⟩
theorem m_dig {z : Nat} {b : Nat → Int32} {n : Nat} : ∀ (m q k a : Nat) (M : aM), q + m = n → m < k → mP M b n q → M.1 205 11 = nI (min a 99999) → ∃ M', f191_144 z k M = some (none, M') ∧ w8 M M' ∧ mP M' b n (nx (tD b) m q) ∧ M'.1 205 10 = nI 2 ∧ M'.1 205 11 = nI (min (tV b m q a) 99999)
  | 0, q, k, a, M, hm, hk, h, h5 => by
    obtain ⟨k, rfl⟩ : ∃ k', k = k' + 1 := ⟨k - 1, by omega⟩
    refine ⟨(am_u M.1 205 10 (2 : Int32), M.2), ?_, w8.u (by omega), h.v (by omega) (by omega), u_p rfl, ?_⟩
    · rw [f191_144, h.2.1, k190 h, cb_bi, if_neg (show ¬ q < n by omega), k170d, if_neg (by decide), cb_bi, if_pos rfl]
    · simp (disch := omega) only [u_ne]; exact h5
  | m + 1, q, k, a, M, hm, hk, h, h5 => by
    obtain ⟨k, rfl⟩ : ∃ k', k = k' + 1 := ⟨k - 1, by omega⟩
    have hB := byT (h.2.2.2.2 q (by omega)).2
    unfold nx tV
    rw [f191_144, h.2.1, k190 h, cb_bi, if_pos (show q < n by omega), k170d, cb_bi]
    by_cases e : tD b q = true
    · have e' : 48 ≤ b q ∧ b q ≤ 57 := of_decide_eq_true e
      obtain ⟨v, v1, v2, v3⟩ := tD_d e
      rw [if_pos e, if_pos e, if_pos (hB.2.2.2.2.1.mpr e'), if_neg (by decide), h.2.1, k190 h, cb_bi, if_pos (show q < n by omega), hB.2.2.2.2.2.2 e', v3, h5, q_cl (by omega), n_10, n_48, n_99999, q_mul, q_add, q_sub (show 48 ≤ 10 * min a 99999 + v by omega)]
      have hmn : min a 99999 ≤ 99999 := Nat.min_le_right _ _
      have eif : (if nI (10 * min a 99999 + v - 48) < nI 99999 then nI (10 * min a 99999 + v - 48) else nI 99999) = nI (min (10 * a + v - 48) 99999) := by
        by_cases c : 10 * min a 99999 + v - 48 < 99999
        · rw [if_pos (show nI (10 * min a 99999 + v - 48) < nI 99999 by rw [q_lt (by omega) (by omega)]; exact c)]
          congr 1
          omega
        · rw [if_neg (show ¬ nI (10 * min a 99999 + v - 48) < nI 99999 by rw [q_lt (by omega) (by omega)]; exact c)]
          congr 1
          omega
      rw [eif]
      dsimp only
      rw [u_ne (show 8 ≠ 11 by omega), h.2.1, n_1, q_add]
      have h' : mP (am_u (am_u M.1 205 11 (nI (min (10 * a + v - 48) 99999))) 205 8 (nI (q + 1)), M.2) b n (q + 1) := (h.v (j := 11) (by omega) (by omega)).u (by omega)
      obtain ⟨M', a1, a2, a3, a4⟩ := m_dig (z := z) m (q + 1) k (10 * a + v - 48) _ (by omega) (by omega) h' (by show am_u (am_u M.1 205 11 (nI (min (10 * a + v - 48) 99999))) 205 8 (nI (q + 1)) 205 11 = _; rw [u_ne (by omega), u_self])
      exact ⟨M', a1, ((w8.u (.inr (.inr rfl))).trans (w8.u (M := (am_u M.1 205 11 (nI (min (10 * a + v - 48) 99999)), M.2)) (.inl rfl))).trans a2, a3, a4⟩
    · have e' : ¬ (48 ≤ b q ∧ b q ≤ 57) := fun w => e (decide_eq_true w)
      rw [if_neg e, if_neg e, if_neg (fun w => e' (hB.2.2.2.2.1.mp w)), if_pos rfl]
      refine ⟨_, rfl, w8.u (by omega), h.v (by omega) (by omega), u_p rfl, ?_⟩
      simp (disch := omega) only [u_ne]; exact h5
def mTk (M : aM) (b : Nat → Int32) (n s : Nat) : Prop := M.1 205 7 = nI n ∧ M.1 205 8 = nI (tE b n s) ∧ M.1 205 9 = nI s ∧ M.1 205 10 = nI (tK b n s) ∧ (tK b n s = 2 → M.1 205 11 = nI (min (tV b (n - s) s 0) 99999)) ∧ n ≤ 800 ∧ s ≤ n ∧ ∀ i, i < n → M.1 209 i = b i ∧ byt (b i)
/-- places 8 to 11 of row 205 alone -/
def w9 (M M' : aM) : Prop := Fx (fun a => a = 205) M M' ∧ ∀ j, j < 8 ∨ 11 < j → M'.1 205 j = M.1 205 j
theorem w9.id0 (M : aM) : w9 M M := ⟨Fx.id0, fun _ _ => rfl⟩
theorem w9.trans {a b c : aM} (h : w9 a b) (h' : w9 b c) : w9 a c := ⟨h.1.trans h'.1, fun j q => (h'.2 j q).trans (h.2 j q)⟩
theorem w9.u {M : aM} {j : Nat} {x : Int32} (hj : 8 ≤ j ∧ j ≤ 11) : w9 M (am_u M.1 205 j x, M.2) := ⟨Fx.w Fx.id0 rfl, fun i q => by show am_u M.1 205 j x 205 i = _; rw [u_ne (by omega)]⟩
theorem w9.of8 {M M' : aM} (h : w8 M M') : w9 M M' := ⟨h.1, fun j q => h.2 j (by omega) (by omega) (by omega)⟩
theorem m_nx {z : Nat} (hz : 2000 ≤ z) {b : Nat → Int32} {n : Nat} : ∀ (m q k : Nat) (M : aM), q + m = n → m < k → mP M b n q → ∃ M', f191_0 z k M = some (none, M') ∧ w9 M M' ∧ mTk M' b n (nx (tSp b) m q)
  | 0, q, k, M, hm, hk, h => by
    obtain ⟨k, rfl⟩ : ∃ k', k = k' + 1 := ⟨k - 1, by omega⟩
    have h8 := h.2.2.1
    have hb := h.2.2.2.2
    have hP : mP (am_u M.1 205 9 (nI q), M.2) b n q := h.v (by omega) (by omega)
    refine ⟨(am_u (am_u M.1 205 9 (nI q)) 205 10 (nI 0), M.2), ?_, (w9.u (j := 9) (by omega)).trans (w9.u (M := (am_u M.1 205 9 (nI q), M.2)) (j := 10) (by omega)), ?_⟩
    · rw [f191_0, h.2.1, k190 h, cb_bi, if_neg (show ¬ q < n by omega), if_neg (by decide), h.2.1, k190 h, cb_bi, if_neg (show ¬ q < n by omega), if_pos (by decide)]
      dsimp only
      rw [u_ne (show 8 ≠ 9 by omega), h.2.1, k190 hP, cb_bi, if_neg (show ¬ q < n by omega), if_neg (fun w => w rfl)]
      rfl
    · have e : nx (tSp b) 0 q = q := rfl
      have ek : tK b n q = 0 := by unfold tK; rw [if_pos (by omega)]
      have ee : tE b n q = q := by unfold tE; rw [if_pos (by omega)]
      rw [e]
      refine ⟨?_, ?_, ?_, ?_, ?_, h8, by omega, ?_⟩
      · simp (disch := omega) only [u_ne, u_self]; exact h.1
      · simp (disch := omega) only [u_ne, u_self]; rw [ee]; exact h.2.1
      · simp (disch := omega) only [u_ne, u_self]
      · simp (disch := omega) only [u_ne, u_self]; rw [ek]
      · intro w; rw [ek] at w; omega
      · intro i hi
        simp (disch := omega) only [u_row]; exact hb i hi
  | m + 1, q, k, M, hm, hk, h => by
    obtain ⟨k, rfl⟩ : ∃ k', k = k' + 1 := ⟨k - 1, by omega⟩
    have h8 := h.2.2.1
    have hb := h.2.2.2.2
    have hB := byT (h.2.2.2.2 q (by omega)).2
    have hq : q < n := by omega
    rw [f191_0, h.2.1, k190 h, cb_bi, if_pos hq]
    have hrec : tSp b q = true → ∃ M', f191_0 z k (am_u M.1 205 8 (nI q + 1), M.2) = some (none, M') ∧ w9 M M' ∧ mTk M' b n (nx (tSp b) (m + 1) q) := fun w => by
      obtain ⟨M', a1, a2, a3⟩ := m_nx hz m (q + 1) k (am_u M.1 205 8 (nI (q + 1)), M.2) (by omega) (by omega) (h.u (by omega))
      refine ⟨M', ?_, (w9.u (by omega)).trans a2, ?_⟩
      · rw [n_1, q_add]; exact a1
      · unfold nx; rw [if_pos w]; exact a3
    by_cases h1 : b q = 32
    · rw [if_pos (hB.1.mpr h1), h.2.1]
      exact hrec (decide_eq_true (.inl h1))
    · rw [if_neg (fun w => h1 (hB.1.mp w)), h.2.1, k190 h, cb_bi, if_pos hq]
      by_cases h2 : b q = 10
      · rw [if_neg (fun w => w (hB.2.1.mpr h2)), h.2.1]
        exact hrec (decide_eq_true (.inr h2))
      · rw [if_pos (fun w => h2 (hB.2.1.mp w)), h.2.1]
        have es : nx (tSp b) (m + 1) q = q := by unfold nx; rw [if_neg (tSp_n h1 h2)]
        rw [es]
        have hP : mP (am_u M.1 205 9 (nI q), M.2) b n q := h.v (by omega) (by omega)
        dsimp only
        rw [u_ne (show 8 ≠ 9 by omega), h.2.1, k190 hP, cb_bi, if_pos hq, if_pos hB.2.2.2.2.2.1, k170w, cb_bi]
        have hF : w9 M (am_u M.1 205 9 (nI q), M.2) := w9.u (by omega)
        have h3 : am_u M.1 205 9 (nI q) 205 9 = nI q := u_self
        generalize hA : ((am_u M.1 205 9 (nI q), M.2) : aM) = A at hP hF ⊢
        have h3 : A.1 205 9 = nI q := by rw [← hA]; exact h3
        have nq : ¬ n ≤ q := by omega
        by_cases e1 : tL b q = true
        · have ek : tK b n q = 1 := by unfold tK; rw [if_neg nq, if_pos e1]
          have ee : tE b n q = nx (tL b) (n - q) q := by unfold tE; rw [if_neg nq, if_pos e1]
          rw [if_pos (hB.2.2.2.1.mpr (of_decide_eq_true e1)), if_neg (by decide)]
          obtain ⟨M', a1, a2, a3, a4⟩ := m_let (z := z) (n - q) q z A (by omega) (by omega) hP
          refine ⟨M', a1, hF.trans (w9.of8 a2), a3.1, ?_, ?_, ?_, ?_, h8, by omega, a3.2.2.2.2⟩
          · rw [ee]; exact a3.2.1
          · rw [a2.2 9 (by omega) (by omega) (by omega)]; exact h3
          · rw [ek]; exact a4
          · intro w; omega
        · rw [if_neg (fun w => e1 (decide_eq_true (hB.2.2.2.1.mp w))), if_pos rfl, k170d, cb_bi]
          by_cases e2 : tD b q = true
          · have ek : tK b n q = 2 := by unfold tK; rw [if_neg nq, if_neg e1, if_pos e2]
            have ee : tE b n q = nx (tD b) (n - q) q := by unfold tE; rw [if_neg nq, if_neg e1, if_pos e2]
            rw [if_pos (hB.2.2.2.2.1.mpr (of_decide_eq_true e2)), if_neg (by decide)]
            obtain ⟨M', a1, a2, a3, a4, a5⟩ := m_dig (z := z) (n - q) q z 0 (am_u A.1 205 11 (0 : Int32), A.2) (by omega) (by omega) (hP.v (by omega) (by omega)) (u_p rfl)
            refine ⟨M', a1, (hF.trans (w9.u (by omega))).trans (w9.of8 a2), a3.1, ?_, ?_, ?_, fun _ => a5, h8, by omega, a3.2.2.2.2⟩
            · rw [ee]; exact a3.2.1
            · rw [a2.2 9 (by omega) (by omega) (by omega)]; simp (disch := omega) only [u_ne]; exact h3
            · rw [ek]; exact a4
          · have ee : tE b n q = q + 1 := by unfold tE; rw [if_neg nq, if_neg e1, if_neg e2]
            rw [if_neg (fun w => e2 (decide_eq_true (hB.2.2.2.2.1.mp w))), if_pos rfl]
            have fin : ∀ x : Nat, tK b n q = x → x ≠ 2 → mTk (am_u (am_u A.1 205 10 (nI x)) 205 8 (am_u A.1 205 10 (nI x) 205 8 + 1), A.2) b n q := fun x ek x2 => by
              refine ⟨?_, ?_, ?_, ?_, ?_, h8, by omega, ?_⟩
              · simp (disch := omega) only [u_ne, u_self]; exact hP.1
              · simp (disch := omega) only [u_ne, u_self]; rw [hP.2.1, ee, n_1, q_add]
              · simp (disch := omega) only [u_ne, u_self]; exact h3
              · simp (disch := omega) only [u_ne, u_self]; rw [ek]
              · intro w; omega
              · intro i hi
                simp (disch := omega) only [u_row]; exact hP.2.2.2.2 i hi
            have w' : ∀ x y : Int32, w9 M (am_u (am_u A.1 205 10 x) 205 8 y, A.2) := fun x y => hF.trans ((w9.u (j := 10) (by omega)).trans (w9.u (M := (am_u A.1 205 10 x, A.2)) (j := 8) (by omega)))
            by_cases e3 : b q = 59
            · rw [if_neg (fun w => w (hB.2.2.1.mpr e3))]
              exact ⟨_, rfl, w' _ _, fin 3 (by unfold tK; rw [if_neg nq, if_neg e1, if_neg e2, if_pos e3]) (by omega)⟩
            · rw [if_pos (fun w => e3 (hB.2.2.1.mp w))]
              exact ⟨_, rfl, w' _ _, fin 4 (by unfold tK; rw [if_neg nq, if_neg e1, if_neg e2, if_neg e3]) (by omega)⟩
theorem m_next {z : Nat} (hz : 2000 ≤ z) {b : Nat → Int32} {n q : Nat} {M : aM} (h : mP M b n q) : ∃ M', f191 z M = some (none, M') ∧ w9 M M' ∧ mTk M' b n (tQ b n q) := by
  have h8 := h.2.2.1
  have h9 := h.2.2.2.1
  exact m_nx hz (n - q) q z M (by omega) (by omega) h
