/-! ===== loops without a way out ahead of their end; differences ===== -/
theorem lr {σ ρ : Type} (L : Nat → Nat → σ → ρ) (N : Nat) (Inv : Nat → σ → Prop)
    (hs : ∀ (n k : Nat) (s : σ), k < N → Inv k s → ∃ s', L (n + 1) k s = L n (k + 1) s' ∧ Inv (k + 1) s') :
    ∀ (m k n : Nat) (s : σ), k + m = N → m < n → Inv k s → ∃ n' s', L n k s = L (n' + 1) N s' ∧ Inv N s' ∧ n ≤ n' + 1 + m
  | 0, k, n, s, hk, hn, h => by
    obtain ⟨n, rfl⟩ : ∃ n', n = n' + 1 := ⟨n - 1, by omega⟩
    have e : k = N := by omega
    subst e
    exact ⟨n, s, rfl, h, by omega⟩
  | m + 1, k, n, s, hk, hn, h => by
    obtain ⟨n, rfl⟩ : ∃ n', n = n' + 1 := ⟨n - 1, by omega⟩
    obtain ⟨s', e, h'⟩ := hs n k s (by omega) h
    obtain ⟨n', s'', e2, h2, h3⟩ := lr L N Inv hs m (k + 1) n s' (by omega) (by omega) h'
    exact ⟨n', s'', e.trans e2, h2, by omega⟩
theorem lr0 {σ ρ : Type} (L : Nat → Nat → σ → ρ) (N : Nat) (Inv : Nat → σ → Prop) (n : Nat) (s : σ) (hn : N < n) (h : Inv 0 s)
    (hs : ∀ (n k : Nat) (s : σ), k < N → Inv k s → ∃ s', L (n + 1) k s = L n (k + 1) s' ∧ Inv (k + 1) s') :
    ∃ n' s', L n 0 s = L (n' + 1) N s' ∧ Inv N s' := by
  obtain ⟨n', s', e, h1, _⟩ := lr L N Inv hs N 0 n s (by omega) hn h
  exact ⟨n', s', e, h1⟩
/-- a loop whose state is a function of its count -/
theorem lf0 {ρ : Type} (L : Nat → Nat → ρ) (N n : Nat) (hn : N < n) (hs : ∀ n k : Nat, k < N → L (n + 1) k = L n (k + 1)) : ∃ n', L n 0 = L (n' + 1) N := by
  obtain ⟨n', _, e, _⟩ := lr0 (σ := Unit) (fun n k _ => L n k) N (fun _ _ => True) n () hn trivial (fun n k _ hk _ => ⟨(), hs n k hk, trivial⟩)
  exact ⟨n', e⟩
/-- the first place at which something holds -/
def fst (p : Nat → Bool) : Nat → Option Nat
  | 0 => none
  | n + 1 => match fst p n with
    | some k => some k
    | none => if p n = true then some n else none
theorem fst_n {p : Nat → Bool} : ∀ {n : Nat}, fst p n = none → ∀ k, k < n → p k = false
  | 0, _, k, hk => by omega
  | n + 1, h, k, hk => by
    unfold fst at h
    cases e : fst p n with
    | some j => rw [e] at h; cases h
    | none =>
      rw [e] at h
      by_cases hp : p n = true
      · simp only [if_pos hp] at h; cases h
      · by_cases ek : k = n
        · subst ek; simpa using hp
        · exact fst_n e k (by omega)
theorem fst_s {p : Nat → Bool} : ∀ {n j : Nat}, fst p n = some j → j < n ∧ p j = true ∧ ∀ k, k < j → p k = false
  | 0, _, h => by cases h
  | n + 1, j, h => by
    unfold fst at h
    cases e : fst p n with
    | some i =>
      rw [e] at h
      cases h
      obtain ⟨a, b, c⟩ := fst_s e
      exact ⟨by omega, b, c⟩
    | none =>
      rw [e] at h
      by_cases hp : p n = true
      · simp only [if_pos hp] at h
        cases h
        exact ⟨by omega, hp, fst_n e⟩
      · simp only [if_neg hp] at h; cases h
/-- a loop that goes out at the first such place -/
theorem le0 {ρ : Type} (L : Nat → Nat → ρ) (N n : Nat) (p : Nat → Bool) (R : Nat → ρ) (E : ρ) (hn : N < n)
    (hs : ∀ n k : Nat, k < N → L (n + 1) k = if p k = true then R k else L n (k + 1)) (he : ∀ n, L (n + 1) N = E) :
    L n 0 = (match fst p N with | some k => R k | none => E) := by
  have h : ∀ m k n, k + m = N → m < n → fst p k = none → L n k = (match fst p N with | some k => R k | none => E) := by
    intro m
    induction m with
    | zero =>
      intro k n hk hn hf
      obtain ⟨n, rfl⟩ : ∃ n', n = n' + 1 := ⟨n - 1, by omega⟩
      have e : k = N := by omega
      subst e
      rw [hf, he]
    | succ m ih =>
      intro k n hk hn hf
      obtain ⟨n, rfl⟩ : ∃ n', n = n' + 1 := ⟨n - 1, by omega⟩
      rw [hs n k (by omega)]
      by_cases hp : p k = true
      · rw [if_pos hp]
        have h1 : fst p (k + 1) = some k := by unfold fst; rw [hf]; simp only [if_pos hp]
        have h2 : ∀ j, fst p (k + 1 + j) = some k := by
          intro j
          induction j with
          | zero => exact h1
          | succ j ih2 =>
            show fst p (k + 1 + j + 1) = some k
            unfold fst
            rw [ih2]
        have h3 := h2 (N - (k + 1))
        rw [show k + 1 + (N - (k + 1)) = N by omega] at h3
        rw [h3]
      · rw [if_neg hp]
        refine ih (k + 1) n (by omega) (by omega) ?_
        unfold fst
        rw [hf]
        simp only [if_neg hp]
  exact h N 0 n (by omega) hn rfl
theorem q_subI {a b : Nat} (ha : a < 2147483648) (hb : b < 2147483648) : (nI a - nI b).toInt = (a : Int) - b := by
  rw [Int32.toInt_sub, nI_toInt ha, nI_toInt hb]
  exact Int.bmod_eq_of_le (by omega) (by omega)
theorem q_sle {a b : Nat} (ha : a < 2147483648) (hb : b < 2147483648) : (nI a - nI b ≤ nI 0) = (a ≤ b) := by
  apply propext
  rw [Int32.le_iff_toInt_le, q_subI ha hb, nI_toInt (by omega)]
  omega
theorem q_s0 (a : Nat) : nI a - nI 0 = nI a := by rw [q_sub (Nat.zero_le a)]; rfl
theorem q_sm1 (a b : Nat) : nI a - nI b + mI = nI a - nI (b + 1) := by
  have h : mI = - nI 1 := by decide
  rw [h, ← nI_add, Int32.sub_eq_add_neg, Int32.sub_eq_add_neg, Int32.neg_add, Int32.sub_eq_add_neg, Int32.add_assoc]
theorem bN_or1 (p : Nat → Bool) (k : Nat) : bN p (k + 1) = bN p k ||| (if p k = true then 2 ^ k else 0) := by
  have h := bN_lt p k
  show bN p k + (if p k = true then 2 ^ k else 0) = _
  split
  · have := Nat.two_pow_add_eq_or_of_lt h 1
    rw [Nat.mul_one] at this
    rw [Nat.or_comm, ← this, Nat.add_comm]
  · simp
theorem Fx.w {S : Nat → Prop} {M : aM} {f : Nat → Nat → Int32} {g : Nat → Nat → Int64} {a i : Nat} {x : Int32} (h : Fx S M (f, g)) (ha : S a) : Fx S M (am_u f a i x, g) := by
  refine ⟨h.1, fun b hb => ?_⟩
  have e : b ≠ a := fun q => hb (q ▸ ha)
  show am_u f a i x b = M.1 b
  rw [u_row e]
  exact h.2 b hb
theorem Fx.wa {S : Nat → Prop} {M : aM} {f : Nat → Nat → Int32} {g : Nat → Nat → Int64} {a : Nat} {x : Nat → Int32} (h : Fx S M (f, g)) (ha : S a) : Fx S M (am_ua f a x, g) := by
  refine ⟨h.1, fun b hb => ?_⟩
  have e : b ≠ a := fun q => hb (q ▸ ha)
  show am_ua f a x b = M.1 b
  rw [ua_row e]
  exact h.2 b hb
theorem row_upg {a N : Nat} {f : Nat → Nat → Int32} {g : Nat → Nat} {t v : Nat} (h : ∀ i, i < N → f a i = nI (g i)) : ∀ i, i < N → am_u f a t (nI v) a i = nI (up g t v i) := by
  intro i hi
  rw [u_at]
  unfold up
  split
  · rfl
  · exact h i hi
/-! fills -/
theorem c_f21 {z : Nat} (hz : 2000 ≤ z) (c : Nat) (x : Int32) (M : aM) : ∃ M', f343_k21 z c x M = some (none, M') ∧ Fx (fun a => a = c) M M' ∧ ∀ t, t < 16 → M'.1 c t = x := by
  unfold f343_k21
  simp only [n_0]
  obtain ⟨n, M', e, hF, hI⟩ := lr0 (fun n k M' => f343_k21_5 z n c x (nI k) (nI 16) M') 16 (fun k M' => Fx (fun a => a = c) M M' ∧ ∀ t, t < k → M'.1 c t = x) z M (by omega) ⟨Fx.id0, fun t ht => by omega⟩ (by
    intro n k M' hk hI
    refine ⟨(am_u M'.1 c k x, M'.2), ?_, Fx.w hI.1 rfl, ?_⟩
    · rw [f343_k21_5]
      simp (disch := omega) only [n_0, n_1, n_2, n_3, n_4, n_5, n_6, n_7, n_8, n_9, n_10, n_12, n_13, n_16, n_30, n_60, n_61, n_86, n_99, n_100, n_200, n_201, n_1023, n_65535, n_10000, n_1000000, ↓q_m1, q_add, q_addm, q_inB, q_cl, q_le, q_lt, q_eq, q_eqm, q_meq, q_mltT, q_ltm, q_lem, q_mleT, if_true, if_false, if_pos, if_neg, Nat.reduceAdd, Nat.reduceMul, Nat.add_zero, Nat.zero_add, not_true_eq_false, not_false_eq_true, u_row, u_self, u_ne, cb_bi, cb_bv, cb_bl]
    · intro t ht
      show am_u M'.1 c k x c t = x
      rw [u_at]
      split
      · rfl
      · exact hI.2 t (by omega))
  rw [e, f343_k21_5]
  simp (disch := omega) only [n_0, n_1, n_2, n_3, n_4, n_5, n_6, n_7, n_8, n_9, n_10, n_12, n_13, n_16, n_30, n_60, n_61, n_86, n_99, n_100, n_200, n_201, n_1023, n_65535, n_10000, n_1000000, ↓q_m1, q_add, q_addm, q_inB, q_cl, q_le, q_lt, q_eq, q_eqm, q_meq, q_mltT, q_ltm, q_lem, q_mleT, if_true, if_false, if_pos, if_neg, Nat.reduceAdd, Nat.reduceMul, Nat.add_zero, Nat.zero_add, not_true_eq_false, not_false_eq_true, u_row, u_self, u_ne, cb_bi, cb_bv, cb_bl]
  exact ⟨M', rfl, hF, hI⟩
theorem c_f22 {z : Nat} (hz : 2000 ≤ z) (c : Nat) (x : Int32) (M : aM) : ∃ M', f343_k22 z c x M = some (none, M') ∧ Fx (fun a => a = c) M M' ∧ ∀ t, t < 10 → M'.1 c t = x := by
  unfold f343_k22
  simp only [n_0]
  obtain ⟨n, M', e, hF, hI⟩ := lr0 (fun n k M' => f343_k22_5 z n c x (nI k) (nI 10) M') 10 (fun k M' => Fx (fun a => a = c) M M' ∧ ∀ t, t < k → M'.1 c t = x) z M (by omega) ⟨Fx.id0, fun t ht => by omega⟩ (by
    intro n k M' hk hI
    refine ⟨(am_u M'.1 c k x, M'.2), ?_, Fx.w hI.1 rfl, ?_⟩
    · rw [f343_k22_5]
      simp (disch := omega) only [n_0, n_1, n_2, n_3, n_4, n_5, n_6, n_7, n_8, n_9, n_10, n_12, n_13, n_16, n_30, n_60, n_61, n_86, n_99, n_100, n_200, n_201, n_1023, n_65535, n_10000, n_1000000, ↓q_m1, q_add, q_addm, q_inB, q_cl, q_le, q_lt, q_eq, q_eqm, q_meq, q_mltT, q_ltm, q_lem, q_mleT, if_true, if_false, if_pos, if_neg, Nat.reduceAdd, Nat.reduceMul, Nat.add_zero, Nat.zero_add, not_true_eq_false, not_false_eq_true, u_row, u_self, u_ne, cb_bi, cb_bv, cb_bl]
    · intro t ht
      show am_u M'.1 c k x c t = x
      rw [u_at]
      split
      · rfl
      · exact hI.2 t (by omega))
  rw [e, f343_k22_5]
  simp (disch := omega) only [n_0, n_1, n_2, n_3, n_4, n_5, n_6, n_7, n_8, n_9, n_10, n_12, n_13, n_16, n_30, n_60, n_61, n_86, n_99, n_100, n_200, n_201, n_1023, n_65535, n_10000, n_1000000, ↓q_m1, q_add, q_addm, q_inB, q_cl, q_le, q_lt, q_eq, q_eqm, q_meq, q_mltT, q_ltm, q_lem, q_mleT, if_true, if_false, if_pos, if_neg, Nat.reduceAdd, Nat.reduceMul, Nat.add_zero, Nat.zero_add, not_true_eq_false, not_false_eq_true, u_row, u_self, u_ne, cb_bi, cb_bv, cb_bl]
  exact ⟨M', rfl, hF, hI⟩
theorem c_f23 {z : Nat} (hz : 2000 ≤ z) (c : Nat) (x : Int32) (M : aM) : ∃ M', f343_k23 z c x M = some (none, M') ∧ Fx (fun a => a = c) M M' ∧ ∀ t, t < 9 → M'.1 c t = x := by
  unfold f343_k23
  simp only [n_0]
  obtain ⟨n, M', e, hF, hI⟩ := lr0 (fun n k M' => f343_k23_5 z n c x (nI k) (nI 9) M') 9 (fun k M' => Fx (fun a => a = c) M M' ∧ ∀ t, t < k → M'.1 c t = x) z M (by omega) ⟨Fx.id0, fun t ht => by omega⟩ (by
    intro n k M' hk hI
    refine ⟨(am_u M'.1 c k x, M'.2), ?_, Fx.w hI.1 rfl, ?_⟩
    · rw [f343_k23_5]
      simp (disch := omega) only [n_0, n_1, n_2, n_3, n_4, n_5, n_6, n_7, n_8, n_9, n_10, n_12, n_13, n_16, n_30, n_60, n_61, n_86, n_99, n_100, n_200, n_201, n_1023, n_65535, n_10000, n_1000000, ↓q_m1, q_add, q_addm, q_inB, q_cl, q_le, q_lt, q_eq, q_eqm, q_meq, q_mltT, q_ltm, q_lem, q_mleT, if_true, if_false, if_pos, if_neg, Nat.reduceAdd, Nat.reduceMul, Nat.add_zero, Nat.zero_add, not_true_eq_false, not_false_eq_true, u_row, u_self, u_ne, cb_bi, cb_bv, cb_bl]
    · intro t ht
      show am_u M'.1 c k x c t = x
      rw [u_at]
      split
      · rfl
      · exact hI.2 t (by omega))
  rw [e, f343_k23_5]
  simp (disch := omega) only [n_0, n_1, n_2, n_3, n_4, n_5, n_6, n_7, n_8, n_9, n_10, n_12, n_13, n_16, n_30, n_60, n_61, n_86, n_99, n_100, n_200, n_201, n_1023, n_65535, n_10000, n_1000000, ↓q_m1, q_add, q_addm, q_inB, q_cl, q_le, q_lt, q_eq, q_eqm, q_meq, q_mltT, q_ltm, q_lem, q_mleT, if_true, if_false, if_pos, if_neg, Nat.reduceAdd, Nat.reduceMul, Nat.add_zero, Nat.zero_add, not_true_eq_false, not_false_eq_true, u_row, u_self, u_ne, cb_bi, cb_bv, cb_bl]
  exact ⟨M', rfl, hF, hI⟩
theorem c_f27 {z : Nat} (hz : 2000 ≤ z) (c : Nat) (x : Int32) (M : aM) : ∃ M', f343_k27 z c x M = some (none, M') ∧ Fx (fun a => a = c) M M' ∧ ∀ t, t < 8 → M'.1 c t = x := by
  unfold f343_k27
  simp only [n_0]
  obtain ⟨n, M', e, hF, hI⟩ := lr0 (fun n k M' => f343_k27_5 z n c x (nI k) (nI 8) M') 8 (fun k M' => Fx (fun a => a = c) M M' ∧ ∀ t, t < k → M'.1 c t = x) z M (by omega) ⟨Fx.id0, fun t ht => by omega⟩ (by
    intro n k M' hk hI
    refine ⟨(am_u M'.1 c k x, M'.2), ?_, Fx.w hI.1 rfl, ?_⟩
    · rw [f343_k27_5]
      simp (disch := omega) only [n_0, n_1, n_2, n_3, n_4, n_5, n_6, n_7, n_8, n_9, n_10, n_12, n_13, n_16, n_30, n_60, n_61, n_86, n_99, n_100, n_200, n_201, n_1023, n_65535, n_10000, n_1000000, ↓q_m1, q_add, q_addm, q_inB, q_cl, q_le, q_lt, q_eq, q_eqm, q_meq, q_mltT, q_ltm, q_lem, q_mleT, if_true, if_false, if_pos, if_neg, Nat.reduceAdd, Nat.reduceMul, Nat.add_zero, Nat.zero_add, not_true_eq_false, not_false_eq_true, u_row, u_self, u_ne, cb_bi, cb_bv, cb_bl]
    · intro t ht
      show am_u M'.1 c k x c t = x
      rw [u_at]
      split
      · rfl
      · exact hI.2 t (by omega))
  rw [e, f343_k27_5]
  simp (disch := omega) only [n_0, n_1, n_2, n_3, n_4, n_5, n_6, n_7, n_8, n_9, n_10, n_12, n_13, n_16, n_30, n_60, n_61, n_86, n_99, n_100, n_200, n_201, n_1023, n_65535, n_10000, n_1000000, ↓q_m1, q_add, q_addm, q_inB, q_cl, q_le, q_lt, q_eq, q_eqm, q_meq, q_mltT, q_ltm, q_lem, q_mleT, if_true, if_false, if_pos, if_neg, Nat.reduceAdd, Nat.reduceMul, Nat.add_zero, Nat.zero_add, not_true_eq_false, not_false_eq_true, u_row, u_self, u_ne, cb_bi, cb_bv, cb_bl]
  exact ⟨M', rfl, hF, hI⟩
theorem c_f28 {z : Nat} (hz : 2000 ≤ z) (c : Nat) (x : Int32) (M : aM) : ∃ M', f343_k28 z c x M = some (none, M') ∧ Fx (fun a => a = c) M M' ∧ ∀ t, t < 976 → M'.1 c t = x := by
  unfold f343_k28
  simp only [n_0]
  obtain ⟨n, M', e, hF, hI⟩ := lr0 (fun n k M' => f343_k28_5 z n c x (nI k) (nI 976) M') 976 (fun k M' => Fx (fun a => a = c) M M' ∧ ∀ t, t < k → M'.1 c t = x) z M (by omega) ⟨Fx.id0, fun t ht => by omega⟩ (by
    intro n k M' hk hI
    refine ⟨(am_u M'.1 c k x, M'.2), ?_, Fx.w hI.1 rfl, ?_⟩
    · rw [f343_k28_5]
      simp (disch := omega) only [n_0, n_1, n_2, n_3, n_4, n_5, n_6, n_7, n_8, n_9, n_10, n_12, n_13, n_16, n_30, n_60, n_61, n_86, n_99, n_100, n_200, n_201, n_1023, n_65535, n_10000, n_1000000, ↓q_m1, q_add, q_addm, q_inB, q_cl, q_le, q_lt, q_eq, q_eqm, q_meq, q_mltT, q_ltm, q_lem, q_mleT, if_true, if_false, if_pos, if_neg, Nat.reduceAdd, Nat.reduceMul, Nat.add_zero, Nat.zero_add, not_true_eq_false, not_false_eq_true, u_row, u_self, u_ne, cb_bi, cb_bv, cb_bl]
    · intro t ht
      show am_u M'.1 c k x c t = x
      rw [u_at]
      split
      · rfl
      · exact hI.2 t (by omega))
  rw [e, f343_k28_5]
  simp (disch := omega) only [n_0, n_1, n_2, n_3, n_4, n_5, n_6, n_7, n_8, n_9, n_10, n_12, n_13, n_16, n_30, n_60, n_61, n_86, n_99, n_100, n_200, n_201, n_1023, n_65535, n_10000, n_1000000, ↓q_m1, q_add, q_addm, q_inB, q_cl, q_le, q_lt, q_eq, q_eqm, q_meq, q_mltT, q_ltm, q_lem, q_mleT, if_true, if_false, if_pos, if_neg, Nat.reduceAdd, Nat.reduceMul, Nat.add_zero, Nat.zero_add, not_true_eq_false, not_false_eq_true, u_row, u_self, u_ne, cb_bi, cb_bv, cb_bl]
  exact ⟨M', rfl, hF, hI⟩
theorem c_f29 {z : Nat} (hz : 2000 ≤ z) (c : Nat) (x : Int32) (M : aM) : ∃ M', f343_k29 z c x M = some (none, M') ∧ Fx (fun a => a = c) M M' ∧ ∀ t, t < 1024 → M'.1 c t = x := by
  unfold f343_k29
  simp only [n_0]
  obtain ⟨n, M', e, hF, hI⟩ := lr0 (fun n k M' => f343_k29_5 z n c x (nI k) (nI 1024) M') 1024 (fun k M' => Fx (fun a => a = c) M M' ∧ ∀ t, t < k → M'.1 c t = x) z M (by omega) ⟨Fx.id0, fun t ht => by omega⟩ (by
    intro n k M' hk hI
    refine ⟨(am_u M'.1 c k x, M'.2), ?_, Fx.w hI.1 rfl, ?_⟩
    · rw [f343_k29_5]
      simp (disch := omega) only [n_0, n_1, n_2, n_3, n_4, n_5, n_6, n_7, n_8, n_9, n_10, n_12, n_13, n_16, n_30, n_60, n_61, n_86, n_99, n_100, n_200, n_201, n_1023, n_65535, n_10000, n_1000000, ↓q_m1, q_add, q_addm, q_inB, q_cl, q_le, q_lt, q_eq, q_eqm, q_meq, q_mltT, q_ltm, q_lem, q_mleT, if_true, if_false, if_pos, if_neg, Nat.reduceAdd, Nat.reduceMul, Nat.add_zero, Nat.zero_add, not_true_eq_false, not_false_eq_true, u_row, u_self, u_ne, cb_bi, cb_bv, cb_bl]
    · intro t ht
      show am_u M'.1 c k x c t = x
      rw [u_at]
      split
      · rfl
      · exact hI.2 t (by omega))
  rw [e, f343_k29_5]
  simp (disch := omega) only [n_0, n_1, n_2, n_3, n_4, n_5, n_6, n_7, n_8, n_9, n_10, n_12, n_13, n_16, n_30, n_60, n_61, n_86, n_99, n_100, n_200, n_201, n_1023, n_65535, n_10000, n_1000000, ↓q_m1, q_add, q_addm, q_inB, q_cl, q_le, q_lt, q_eq, q_eqm, q_meq, q_mltT, q_ltm, q_lem, q_mleT, if_true, if_false, if_pos, if_neg, Nat.reduceAdd, Nat.reduceMul, Nat.add_zero, Nat.zero_add, not_true_eq_false, not_false_eq_true, u_row, u_self, u_ne, cb_bi, cb_bv, cb_bl]
  exact ⟨M', rfl, hF, hI⟩
theorem c_f30 {z : Nat} (hz : 2000 ≤ z) (c : Nat) (x : Int32) (M : aM) : ∃ M', f343_k30 z c x M = some (none, M') ∧ Fx (fun a => a = c) M M' ∧ ∀ t, t < 256 → M'.1 c t = x := by
  unfold f343_k30
  simp only [n_0]
  obtain ⟨n, M', e, hF, hI⟩ := lr0 (fun n k M' => f343_k30_5 z n c x (nI k) (nI 256) M') 256 (fun k M' => Fx (fun a => a = c) M M' ∧ ∀ t, t < k → M'.1 c t = x) z M (by omega) ⟨Fx.id0, fun t ht => by omega⟩ (by
    intro n k M' hk hI
    refine ⟨(am_u M'.1 c k x, M'.2), ?_, Fx.w hI.1 rfl, ?_⟩
    · rw [f343_k30_5]
      simp (disch := omega) only [n_0, n_1, n_2, n_3, n_4, n_5, n_6, n_7, n_8, n_9, n_10, n_12, n_13, n_16, n_30, n_60, n_61, n_86, n_99, n_100, n_200, n_201, n_1023, n_65535, n_10000, n_1000000, ↓q_m1, q_add, q_addm, q_inB, q_cl, q_le, q_lt, q_eq, q_eqm, q_meq, q_mltT, q_ltm, q_lem, q_mleT, if_true, if_false, if_pos, if_neg, Nat.reduceAdd, Nat.reduceMul, Nat.add_zero, Nat.zero_add, not_true_eq_false, not_false_eq_true, u_row, u_self, u_ne, cb_bi, cb_bv, cb_bl]
    · intro t ht
      show am_u M'.1 c k x c t = x
      rw [u_at]
      split
      · rfl
      · exact hI.2 t (by omega))
  rw [e, f343_k30_5]
  simp (disch := omega) only [n_0, n_1, n_2, n_3, n_4, n_5, n_6, n_7, n_8, n_9, n_10, n_12, n_13, n_16, n_30, n_60, n_61, n_86, n_99, n_100, n_200, n_201, n_1023, n_65535, n_10000, n_1000000, ↓q_m1, q_add, q_addm, q_inB, q_cl, q_le, q_lt, q_eq, q_eqm, q_meq, q_mltT, q_ltm, q_lem, q_mleT, if_true, if_false, if_pos, if_neg, Nat.reduceAdd, Nat.reduceMul, Nat.add_zero, Nat.zero_add, not_true_eq_false, not_false_eq_true, u_row, u_self, u_ne, cb_bi, cb_bv, cb_bl]
  exact ⟨M', rfl, hF, hI⟩
