/-! ===== the model reads: words, numbers ===== -/
def wZ (M M' : aM) : Prop := Fx (fun a => a = 205) M M' ∧ M'.1 205 5 = M.1 205 5
theorem wZ.id0 (M : aM) : wZ M M := ⟨Fx.id0, rfl⟩
theorem wZ.trans {a b c : aM} (h : wZ a b) (h' : wZ b c) : wZ a c := ⟨h.1.trans h'.1, h'.2.trans h.2⟩
theorem k192 {z : Nat} {M : aM} {b : Nat → Int32} {n : Nat} {p : cF} (h : mSt M b n p) : f192 z M = some (some (.inl (o1 p)), M) := by
  have h3 := h.2.2.2
  unfold f192 o1
  rw [h.2.1]
  by_cases e : p.2.1 = 0
  · rw [e, if_pos rfl, if_neg (fun w => w rfl)]
    rfl
  · rw [if_neg e, if_pos (nI_ne0 (by omega) (by omega))]
    rfl
theorem o1_0 {p : cF} (h : p.2.1 = 0) : o1 p = nI 1 := by unfold o1; rw [if_pos h]
theorem o1_1 {p : cF} (h : ¬ p.2.1 = 0) : o1 p = nI 0 := by unfold o1; rw [if_neg h]
theorem m_adv {z : Nat} (hz : 2000 ≤ z) {M : aM} {b : Nat → Int32} {n : Nat} {p : cF} (h : mSt M b n p) : ∃ M', f191 z M = some (none, M') ∧ mSt M' b n (pA b n p) ∧ wZ M M' := by
  obtain ⟨⟨a1, a2, a3, a4, a5, a6, a7, a8⟩, h2, h3, h4⟩ := h
  obtain ⟨M', e1, e2, e3⟩ := m_next hz (M := M) (b := b) (n := n) (q := tE b n p.1) ⟨a1, a2, a6, (tE_le b a7).2, a8⟩
  exact ⟨M', e1, ⟨e3, by rw [e2.2 12 (by omega)]; exact h2, by rw [e2.2 13 (by omega)]; exact h3, h4⟩, e2.1, e2.2 5 (by omega)⟩
theorem m_err {z : Nat} {M : aM} {b : Nat → Int32} {n k : Nat} {p : cF} (h : mSt M b n p) (hk : k ≤ 3) (h0 : k ≠ 0) : ∃ M', f193 z (nI k) M = some (none, M') ∧ mSt M' b n (pE k p) ∧ wZ M M' := by
  unfold f193
  rw [k192 h, cb_bi]
  by_cases hp : p.2.1 = 0
  · rw [o1_0 hp, i1n]
    obtain ⟨⟨a1, a2, a3, a4, a5, a6, a7, a8⟩, h2, h3, h4⟩ := h
    refine ⟨(am_u (am_u M.1 205 12 (nI k)) 205 13 (nI p.1), M.2), ?_, ?_, Fx.w (Fx.w Fx.id0 rfl) rfl, ?_⟩
    · dsimp only
      rw [u_ne (by omega), a3]
    · unfold pE
      rw [if_pos hp]
      refine ⟨⟨?_, ?_, ?_, ?_, ?_, a6, a7, ?_⟩, ?_, ?_, hk⟩
      · simp (disch := omega) only [u_ne]; exact a1
      · simp (disch := omega) only [u_ne]; exact a2
      · simp (disch := omega) only [u_ne]; exact a3
      · simp (disch := omega) only [u_ne]; exact a4
      · simp (disch := omega) only [u_ne]; exact a5
      · simp (disch := omega) only [u_row]; exact a8
      · simp (disch := omega) only [u_ne, u_self]
      · unfold fP
        simp (disch := omega) only [u_self, if_neg h0]
    · simp (disch := omega) only [u_ne]
  · rw [o1_1 hp, i0n, pE_1 hp]
    exact ⟨M, rfl, h, wZ.id0 M⟩
theorem m_is0 {z : Nat} {M : aM} {c x i k : Nat} (hc : c < 12) (hx : x = 5000 + c) (hk : 0 < k) : f194_39 z k x (nI 0) (nI i) M = some (some (.inl (nI 0)), M) := by
  obtain ⟨k, rfl⟩ : ∃ k', k = k' + 1 := ⟨k - 1, by omega⟩
  rw [f194_39, k332 hc hx, cb_bi, i0f]
  split
  · rfl
  · rfl
theorem m_isl {z : Nat} {M : aM} {b : Nat → Int32} {n s c x : Nat} (hc : c < 12) (hx : x = 5000 + c) (h : mTk M b n s) (he : tE b n s = s + wl c) : ∀ (m i k : Nat), i + m = wl c → m < k → f194_39 z k x (nI 1) (nI i) M = some (some (.inl (nI (if wc b c s m i = true then 1 else 0))), M)
  | 0, i, k, hm, hk => by
    obtain ⟨k, rfl⟩ : ∃ k', k = k' + 1 := ⟨k - 1, by omega⟩
    have h7 := wl_ok c hc
    rw [f194_39, k332 hc hx, cb_bi, if_pos (show nI (wl c) ≤ nI i by rw [q_le (by omega) (by omega)]; omega), if_pos (show wc b c s 0 i = true from rfl)]
    rfl
  | m + 1, i, k, hm, hk => by
    obtain ⟨k, rfl⟩ : ∃ k', k = k' + 1 := ⟨k - 1, by omega⟩
    have h7 := wl_ok c hc
    obtain ⟨a1, a2, a3, a4, a5, a6, a7, a8⟩ := h
    have hE := (tE_le b a7).2
    unfold wc
    rw [f194_39, k332 hc hx, cb_bi, if_neg (show ¬ nI (wl c) ≤ nI i by rw [q_le (by omega) (by omega)]; omega), i1f, a3, q_add, if_pos (q_inB (show s + i < 800 by omega) (by omega)), k333 hc hx (by omega), cb_bi, q_cl (by omega), (a8 _ (by omega)).1]
    by_cases e : b (s + i) = wb c i
    · rw [if_pos e, if_neg (fun w => w e), n_1, q_add]
      exact m_isl hc hx ⟨a1, a2, a3, a4, a5, a6, a7, a8⟩ he m (i + 1) k (by omega) (by omega)
    · rw [if_neg e, if_pos e, n_1, q_add, n_0]
      exact m_is0 hc hx (by omega)
theorem m_is {z : Nat} (hz : 2000 ≤ z) {M : aM} {b : Nat → Int32} {n c x : Nat} {p : cF} (hc : c < 12) (hx : x = 5000 + c) (h : mSt M b n p) : f194 z x M = some (some (.inl (nI (if pI b n c p = true then 1 else 0))), M) := by
  have h7 := wl_ok c hc
  have hk := tK_le b n p.1
  unfold f194
  rw [k192 h, cb_bi]
  by_cases hp : p.2.1 = 0
  · rw [o1_0 hp, i1f, pI_0 hp]
    obtain ⟨⟨a1, a2, a3, a4, a5, a6, a7, a8⟩, h2, h3, h4⟩ := h
    have hE := tE_le b a7
    unfold wq
    rw [a4, a2, a3, q_sub hE.1]
    by_cases e1 : tK b n p.1 = 1
    · rw [e1, if_neg (fun w => w rfl), k332 hc hx, cb_bi]
      by_cases e2 : tE b n p.1 = p.1 + wl c
      · rw [if_neg (fun w => w (show nI (tE b n p.1 - p.1) = nI (wl c) by rw [e2, Nat.add_sub_cancel_left])), n_0, n_1, m_isl hc hx ⟨a1, a2, a3, a4, a5, a6, a7, a8⟩ e2 (wl c) 0 z (by omega) (by omega), decide_eq_true e2]
        simp only [decide_true, Bool.true_and]
      · rw [if_pos (show ¬ nI (tE b n p.1 - p.1) = nI (wl c) by rw [q_eq (by omega) (by omega)]; omega), decide_eq_false e2, n_0, m_is0 hc hx (by omega)]
        simp only [Bool.false_and, Bool.and_false]
        rfl
    · rw [if_pos (show ¬ nI (tK b n p.1) = 1 by rw [n_1, q_eq (by omega) (by omega)]; exact e1), decide_eq_false e1, n_0, m_is0 hc hx (by omega)]
      simp only [Bool.false_and]
      rfl
  · rw [o1_1 hp, i0f, pI_1 hp, n_0, m_is0 hc hx (by omega)]
    rfl
theorem m_tk {z : Nat} (hz : 2000 ≤ z) {M : aM} {b : Nat → Int32} {n c x : Nat} {p : cF} (hc : c < 12) (hx : x = 5000 + c) (h : mSt M b n p) : ∃ M', f195 z x M = some (some (.inl (nI (if pI b n c p = true then 1 else 0))), M') ∧ mSt M' b n (pT b n c p) ∧ wZ M M' := by
  unfold f195 pT
  rw [m_is hz hc hx h, cb_bi]
  by_cases e : pI b n c p = true
  · rw [if_pos e, if_pos e, i1f]
    obtain ⟨M', a1, a2, a3⟩ := m_adv hz h
    refine ⟨M', ?_, a2, a3⟩
    rw [a1, cb_bv]
    rfl
  · rw [if_neg e, if_neg e, i0f]
    exact ⟨M, rfl, h, wZ.id0 M⟩
theorem m_ex {z : Nat} (hz : 2000 ≤ z) {M : aM} {b : Nat → Int32} {n c x : Nat} {p : cF} (hc : c < 12) (hx : x = 5000 + c) (h : mSt M b n p) : ∃ M', f196 z x M = some (none, M') ∧ mSt M' b n (pX b n c p) ∧ wZ M M' := by
  obtain ⟨M', a1, a2, a3⟩ := m_tk hz hc hx h
  unfold f196 pX
  unfold pT at a2
  rw [a1, cb_bi]
  by_cases e : pI b n c p = true
  · rw [if_pos e] at a2
    rw [if_pos e, if_pos e, i1n]
    exact ⟨M', rfl, a2, a3⟩
  · rw [if_neg e] at a2
    rw [if_neg e, if_neg e, i0n, n_1]
    obtain ⟨M2, b1, b2, b3⟩ := m_err (z := z) a2 (show 1 ≤ 3 by omega) (by omega)
    exact ⟨M2, by rw [b1, cb_bv], b2, a3.trans b3⟩
theorem m_bad {z : Nat} {M : aM} {b : Nat → Int32} {n : Nat} {x1 x2 : Int32} {p : cF} (h : mSt M b n p) (hp : ¬ p.2.1 = 0) : f197_20 z x1 x2 M = some (some (.inl (nI 0)), M) := by
  unfold f197_20
  rw [k192 h, cb_bi, o1_1 hp, i0f, k192 h, cb_bi, o1_1 hp, i0n]
  rfl
theorem m_num {z : Nat} (hz : 2000 ≤ z) {M : aM} {b : Nat → Int32} {n lo hi : Nat} {x1 x2 : Int32} {p : cF} (h1 : x1 = nI lo) (h2 : x2 = nI hi - nI 1) (hlo : lo ≤ 100) (hhi : hi ≤ 100) (h : mSt M b n p) : ∃ M', f197 z x1 x2 M = some (some (.inl (nI (pN b n lo hi p).1)), M') ∧ mSt M' b n (pN b n lo hi p).2 ∧ wZ M M' := by
  have hk := tK_le b n p.1
  unfold f197 pN
  rw [k192 h, cb_bi]
  by_cases hp : p.2.1 = 0
  · rw [o1_0 hp, i1f, if_pos hp, h.1.2.2.2.1]
    by_cases e1 : tK b n p.1 = 2
    · have e5 := h.1.2.2.2.2.1 e1
      rw [e1, if_pos (show nI 2 = 2 from rfl), if_pos rfl]
      unfold f197_20
      rw [k192 h, cb_bi, o1_0 hp, i1f, e5, g170, cb_bi]
      have eq : ((Int32.toInt64 x1 ≤ (nI (min (tV b (n - p.1) p.1 0) 99999)).toInt64) ∧ (nI (min (tV b (n - p.1) p.1 0) 99999)).toInt64 ≤ Int32.toInt64 x2) ↔ (lo ≤ pV b n p ∧ pV b n p < hi) := by
        rw [cb_wle, cb_wle, h1, q_le (by omega) (by omega), h2]
        unfold pV
        by_cases hh : hi = 0
        · rw [hh, show nI 0 - nI 1 = mI from rfl, q_lem (by omega)]
          constructor
          · intro w; exact w.2.elim
          · intro w; omega
        · rw [q_sub (by omega), q_le (by omega) (by omega)]
          omega
      by_cases e3 : lo ≤ pV b n p ∧ pV b n p < hi
      · rw [if_pos (eq.mpr e3), if_pos e3, if_pos (by decide), k192 h, cb_bi, o1_0 hp, i1n]
        obtain ⟨M', a1, a2, a3⟩ := m_adv hz h
        refine ⟨M', ?_, a2, a3⟩
        rw [a1, cb_bv, e5]
        unfold pV at e3 ⊢
        rw [Nat.min_eq_left (by omega)]
      · rw [if_neg (fun w => e3 (eq.mp w)), if_neg e3, if_neg (by decide), n_2]
        obtain ⟨M', a1, a2, a3⟩ := m_err (z := z) h (show 2 ≤ 3 by omega) (by omega)
        refine ⟨M', ?_, a2, a3⟩
        rw [a1, cb_bv, k192 a2, cb_bi, o1_1 (pE_k (by omega)), i0n]
        rfl
    · rw [if_neg (show ¬ nI (tK b n p.1) = 2 by rw [n_2, q_eq (by omega) (by omega)]; exact e1), if_neg e1, n_1]
      obtain ⟨M', a1, a2, a3⟩ := m_err (z := z) h (show 1 ≤ 3 by omega) (by omega)
      exact ⟨M', by rw [a1, cb_bv, m_bad a2 (pE_k (by omega))], a2, a3⟩
  · rw [o1_1 hp, i0f, if_neg hp, m_bad h hp]
    exact ⟨M, rfl, h, wZ.id0 M⟩
theorem m_told {z : Nat} (hz : 2000 ≤ z) {M : aM} {b : Nat → Int32} {n c x lo hi : Nat} {x1 x2 : Int32} {p : cF} (hc : c < 12) (hx : x = 5000 + c) (h1 : x1 = nI lo) (h2 : x2 = nI hi - nI 1) (hlo : lo ≤ 100) (hhi : hi ≤ 100) (h : mSt M b n p) : ∃ M', f198 z x x1 x2 M = some (some (.inl (nI (pN b n lo hi (pX b n c p)).1)), M') ∧ mSt M' b n (pN b n lo hi (pX b n c p)).2 ∧ wZ M M' := by
  obtain ⟨M1, a1, a2, a3⟩ := m_ex hz hc hx h
  obtain ⟨M2, b1, b2, b3⟩ := m_num hz h1 h2 hlo hhi a2
  refine ⟨M2, ?_, b2, a3.trans b3⟩
  unfold f198
  rw [a1, cb_bv, b1, cb_bi]
