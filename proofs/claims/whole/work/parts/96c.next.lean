/-! ===== what is read: words, numbers, signs; the state (start of the token, fault, its place) ===== -/
abbrev cF : Type := Nat × (Nat × Nat)
def wl (c : Nat) : Nat := am_slen.getD c 0
def wb (c i : Nat) : Int32 := (am_sbyt.getD c []).getD i 0
def wc (b : Nat → Int32) (c s : Nat) : Nat → Nat → Bool
  | 0, _ => true
  | m + 1, i => if b (s + i) = wb c i then wc b c s m (i + 1) else false
def wq (b : Nat → Int32) (n c s : Nat) : Bool := decide (tK b n s = 1) && (decide (tE b n s = s + wl c) && wc b c s (wl c) 0)
def pE (k : Nat) (p : cF) : cF := if p.2.1 = 0 then (p.1, k, p.1) else p
def pA (b : Nat → Int32) (n : Nat) (p : cF) : cF := (tQ b n (tE b n p.1), p.2)
def pI (b : Nat → Int32) (n c : Nat) (p : cF) : Bool := decide (p.2.1 = 0) && wq b n c p.1
def pT (b : Nat → Int32) (n c : Nat) (p : cF) : cF := if pI b n c p = true then pA b n p else p
def pX (b : Nat → Int32) (n c : Nat) (p : cF) : cF := if pI b n c p = true then pA b n p else pE 1 p
def pV (b : Nat → Int32) (n : Nat) (p : cF) : Nat := tV b (n - p.1) p.1 0
def pN (b : Nat → Int32) (n lo hi : Nat) (p : cF) : Nat × cF := if p.2.1 = 0 then (if tK b n p.1 = 2 then (if lo ≤ pV b n p ∧ pV b n p < hi then (pV b n p, pA b n p) else (0, pE 2 p)) else (0, pE 1 p)) else (0, p)
def pS (b : Nat → Int32) (n : Nat) (p : cF) : cF := if p.2.1 = 0 then (if tK b n p.1 = 3 then pA b n p else pE 1 p) else p
def fP (p : cF) : Int32 := if p.2.1 = 0 then mI else nI p.2.2
def cS (M : aM) (b : Nat → Int32) (n : Nat) (p : cF) : Prop := cT M b n p.1 ∧ M.1 1 2 = nI p.2.1 ∧ M.1 1 3 = fP p ∧ p.2.1 ≤ 3
def mSt (M : aM) (b : Nat → Int32) (n : Nat) (p : cF) : Prop := mTk M b n p.1 ∧ M.1 205 12 = nI p.2.1 ∧ M.1 205 13 = fP p ∧ p.2.1 ≤ 3
theorem wk_ok : ∀ c, c < 12 → am_wkb 60 (5000 + c) = true := by decide
theorem wb_ok : ∀ c, c < 12 → ∀ i, i < wl c → wb c i &&& 255 = wb c i := by decide
theorem wl_ok : ∀ c, c < 12 → 0 < wl c ∧ wl c ≤ 7 := by decide
theorem k332 {z : Nat} {M : aM} {c x : Nat} (hc : c < 12) (hx : x = 5000 + c) : f332 z x M = some (some (.inl (nI (wl c))), M) := by
  subst hx
  unfold f332
  rw [wk_ok c hc, Nat.add_sub_cancel_left]
  rfl
theorem k333 {z : Nat} {M : aM} {c x i : Nat} (hc : c < 12) (hx : x = 5000 + c) (hi : i < wl c) : f333 z x (nI i) M = some (some (.inl (wb c i)), M) := by
  have h7 := wl_ok c hc
  subst hx
  unfold f333
  rw [wk_ok c hc, Nat.add_sub_cancel_left, show am_inB (nI i) (am_slen.getD c 0) = true from q_inB hi (by have : am_slen.getD c 0 = wl c := rfl; omega), q_cl (by omega)]
  show some (some (Sum.inl (wb c i &&& 255)), M) = _
  rw [wb_ok c hc i hi]
theorem tK_le (b : Nat → Int32) (n s : Nat) : tK b n s ≤ 4 := by
  unfold tK
  repeat' split
  all_goals omega
theorem c_isl {z : Nat} {M : aM} {b : Nat → Int32} {n s c x : Nat} (hc : c < 12) (hx : x = 5000 + c) (h : cT M b n s) (he : tE b n s = s + wl c) : ∀ (m i k : Nat), i + m = wl c → m < k → f43_28 z k x (nI i) M = some (some (.inl (nI (if wc b c s m i = true then 1 else 0))), M)
  | 0, i, k, hm, hk => by
    obtain ⟨k, rfl⟩ : ∃ k', k = k' + 1 := ⟨k - 1, by omega⟩
    have h7 := wl_ok c hc
    rw [f43_28, k332 hc hx, cb_bi, if_pos (show nI (wl c) ≤ nI i by rw [q_le (by omega) (by omega)]; omega), if_pos (show wc b c s 0 i = true from rfl)]
    rfl
  | m + 1, i, k, hm, hk => by
    obtain ⟨k, rfl⟩ : ∃ k', k = k' + 1 := ⟨k - 1, by omega⟩
    have h7 := wl_ok c hc
    obtain ⟨a1, a2, a3, a4, a5, a6, a7, a8⟩ := h
    have hE := (tE_le b a7).2
    unfold wc
    rw [f43_28, k332 hc hx, cb_bi, if_neg (show ¬ nI (wl c) ≤ nI i by rw [q_le (by omega) (by omega)]; omega), a3, q_add, if_pos (q_inB (show s + i < 800 by omega) (by omega)), k333 hc hx (by omega), cb_bi, q_cl (by omega), a8 _ (by omega)]
    by_cases e : b (s + i) = wb c i
    · rw [if_pos e, if_pos e, n_1, q_add]
      exact c_isl hc hx ⟨a1, a2, a3, a4, a5, a6, a7, a8⟩ he m (i + 1) k (by omega) (by omega)
    · rw [if_neg e, if_neg e]
      rfl
theorem c_is {z : Nat} (hz : 2000 ≤ z) {M : aM} {b : Nat → Int32} {n s c x : Nat} (hc : c < 12) (hx : x = 5000 + c) (h : cT M b n s) : f43 z x M = some (some (.inl (nI (if wq b n c s = true then 1 else 0))), M) := by
  have h7 := wl_ok c hc
  have hk := tK_le b n s
  obtain ⟨a1, a2, a3, a4, a5, a6, a7, a8⟩ := h
  have hE := tE_le b a7
  unfold f43 wq
  rw [a4, a2, a3, q_sub hE.1]
  by_cases e1 : tK b n s = 1
  · rw [e1, if_neg (fun w => w rfl), k332 hc hx, cb_bi]
    by_cases e2 : tE b n s = s + wl c
    · rw [if_pos (show nI (tE b n s - s) = nI (wl c) by rw [e2, Nat.add_sub_cancel_left]), n_0, c_isl hc hx ⟨a1, a2, a3, a4, a5, a6, a7, a8⟩ e2 (wl c) 0 z (by omega) (by omega), decide_eq_true e2]
      simp only [decide_true, Bool.true_and]
    · rw [if_neg (show ¬ nI (tE b n s - s) = nI (wl c) by rw [q_eq (by omega) (by omega)]; omega), decide_eq_false e2]
      simp only [Bool.false_and, Bool.and_false]
      rfl
  · rw [if_pos (show ¬ nI (tK b n s) = 1 by rw [n_1, q_eq (by omega) (by omega)]; exact e1), decide_eq_false e1]
    simp only [Bool.false_and]
    rfl
theorem c_adv {z : Nat} (hz : 2000 ≤ z) {M : aM} {b : Nat → Int32} {n : Nat} {p : cF} (h : cS M b n p) : ∃ M', f40 z M = some (none, M') ∧ cS M' b n (pA b n p) ∧ Fx (fun a => a = 2) M M' := by
  obtain ⟨⟨a1, a2, a3, a4, a5, a6, a7, a8⟩, h2, h3, h4⟩ := h
  obtain ⟨M', e1, e2, e3⟩ := c_next hz (M := M) (b := b) (n := n) (q := tE b n p.1) ⟨a1, a2, a6, (tE_le b a7).2, a8⟩
  exact ⟨M', e1, ⟨e3, by rw [e2.2 1 (by omega)]; exact h2, by rw [e2.2 1 (by omega)]; exact h3, h4⟩, e2⟩
theorem c_fail {z : Nat} {M : aM} {b : Nat → Int32} {n k : Nat} {p : cF} (h : cS M b n p) (hp : p.2.1 = 0) (hk : k ≤ 3) (h0 : k ≠ 0) : ∃ M', f26 z (nI k) M = some (some (.inl (nI 0)), M') ∧ cS M' b n (pE k p) ∧ Fx (fun a => a = 1) M M' := by
  obtain ⟨⟨a1, a2, a3, a4, a5, a6, a7, a8⟩, h2, h3, h4⟩ := h
  refine ⟨(am_u (am_u M.1 1 2 (nI k)) 1 3 (nI p.1), M.2), ?_, ?_, Fx.w (Fx.w Fx.id0 rfl) rfl⟩
  · unfold f26
    dsimp only
    rw [u_row (by omega), a3]
    rfl
  · unfold pE
    rw [if_pos hp]
    refine ⟨⟨?_, ?_, ?_, ?_, ?_, a6, a7, ?_⟩, ?_, ?_, hk⟩
    · simp (disch := omega) only [u_row]; exact a1
    · simp (disch := omega) only [u_row]; exact a2
    · simp (disch := omega) only [u_row]; exact a3
    · simp (disch := omega) only [u_row]; exact a4
    · simp (disch := omega) only [u_row]; exact a5
    · simp (disch := omega) only [u_row]; exact a8
    · simp (disch := omega) only [u_ne, u_self]
    · unfold fP
      simp (disch := omega) only [u_self, if_neg h0]
def o1 (p : cF) : Int32 := nI (if p.2.1 = 0 then 1 else 0)
def Fc : Nat → Prop := fun a => a = 1 ∨ a = 2
theorem pE_k {k : Nat} {p : cF} (h0 : k ≠ 0) : ¬ (pE k p).2.1 = 0 := by
  unfold pE
  split
  · exact h0
  · assumption
theorem pI_0 {b : Nat → Int32} {n c : Nat} {p : cF} (hp : p.2.1 = 0) : pI b n c p = wq b n c p.1 := by
  unfold pI
  rw [decide_eq_true hp, Bool.true_and]
theorem pI_1 {b : Nat → Int32} {n c : Nat} {p : cF} (hp : ¬ p.2.1 = 0) : pI b n c p = false := by
  unfold pI
  rw [decide_eq_false hp, Bool.false_and]
theorem pE_1 {k : Nat} {p : cF} (hp : ¬ p.2.1 = 0) : pE k p = p := if_neg hp
theorem pX_1 {b : Nat → Int32} {n c : Nat} {p : cF} (hp : ¬ p.2.1 = 0) : pX b n c p = p := by
  unfold pX
  rw [pI_1 hp, pE_1 hp]
  rfl
theorem pT_1 {b : Nat → Int32} {n c : Nat} {p : cF} (hp : ¬ p.2.1 = 0) : pT b n c p = p := by
  unfold pT
  rw [pI_1 hp]
  rfl
theorem pN_1 {b : Nat → Int32} {n lo hi : Nat} {p : cF} (hp : ¬ p.2.1 = 0) : pN b n lo hi p = (0, p) := if_neg hp
theorem pS_1 {b : Nat → Int32} {n : Nat} {p : cF} (hp : ¬ p.2.1 = 0) : pS b n p = p := if_neg hp
theorem c_wrd {z : Nat} (hz : 2000 ≤ z) {M : aM} {b : Nat → Int32} {n c x : Nat} {p : cF} (hc : c < 12) (hx : x = 5000 + c) (h : cS M b n p) (hp : p.2.1 = 0) : ∃ M', f23 z x M = some (some (.inl (o1 (pX b n c p))), M') ∧ cS M' b n (pX b n c p) ∧ Fx Fc M M' := by
  unfold f23 pX
  rw [c_is hz hc hx h.1, cb_bi, pI_0 hp]
  by_cases e : wq b n c p.1 = true
  · rw [if_pos e, if_pos e, i1n]
    obtain ⟨M', a1, a2, a3⟩ := c_adv hz h
    refine ⟨M', ?_, a2, a3.mono (fun a q => .inr q)⟩
    rw [a1, cb_bv]
    unfold o1 pA
    rw [if_pos hp]
    rfl
  · rw [if_neg e, if_neg e, i0n, n_1]
    obtain ⟨M', a1, a2, a3⟩ := c_fail (z := z) h hp (show 1 ≤ 3 by omega) (by omega)
    refine ⟨M', ?_, a2, a3.mono (fun a q => .inl q)⟩
    rw [a1, cb_bi]
    unfold o1
    rw [if_neg (pE_k (by omega))]
    rfl
theorem c_num {z : Nat} (hz : 2000 ≤ z) {M : aM} {b : Nat → Int32} {n lo hi : Nat} {x1 x2 : Int32} {p : cF} (h1 : x1 = nI lo) (h2 : x2 = nI hi - nI 1) (hlo : lo ≤ 100) (hhi : hi ≤ 100) (h : cS M b n p) (hp : p.2.1 = 0) : ∃ M', f24 z x1 x2 M = some (some (.inl (o1 (pN b n lo hi p).2)), M') ∧ cS M' b n (pN b n lo hi p).2 ∧ ((pN b n lo hi p).2.2.1 = 0 → M'.1 1 4 = nI (pN b n lo hi p).1) ∧ Fx Fc M M' := by
  have hk := tK_le b n p.1
  unfold f24 pN
  rw [if_pos hp, h.1.2.2.2.1]
  by_cases e1 : tK b n p.1 = 2
  · have e5 := h.1.2.2.2.2.1 e1
    rw [e1, if_pos (show nI 2 = 2 from rfl), if_pos rfl, e5, h1]
    have bad : ∃ M', (am_bi (f26 z 2 M) fun v2 M1 => some (some (Sum.inl (v2 &&& 1)), M1)) = some (some (.inl (o1 (pE 2 p))), M') ∧ cS M' b n (pE 2 p) ∧ ((pE 2 p).2.1 = 0 → M'.1 1 4 = nI 0) ∧ Fx Fc M M' := by
      obtain ⟨M', a1, a2, a3⟩ := c_fail (z := z) h hp (show 2 ≤ 3 by omega) (by omega)
      refine ⟨M', ?_, a2, fun w => absurd w (pE_k (by omega)), a3.mono (fun a q => .inl q)⟩
      rw [n_2, a1, cb_bi]
      unfold o1
      rw [if_neg (pE_k (by omega))]
      rfl
    by_cases e2 : pV b n p < lo
    · rw [if_pos (show nI (min (tV b (n - p.1) p.1 0) 1000000) < nI lo by rw [q_lt (by omega) (by omega)]; unfold pV at e2; omega), if_neg (show ¬ (lo ≤ pV b n p ∧ pV b n p < hi) by omega)]
      exact bad
    · rw [if_neg (show ¬ nI (min (tV b (n - p.1) p.1 0) 1000000) < nI lo by rw [q_lt (by omega) (by omega)]; unfold pV at e2; omega)]
      by_cases e3 : pV b n p < hi
      · rw [h2, q_sub (by omega), if_pos (show nI (min (tV b (n - p.1) p.1 0) 1000000) ≤ nI (hi - 1) by rw [q_le (by omega) (by omega)]; unfold pV at e3; omega), if_pos (show lo ≤ pV b n p ∧ pV b n p < hi by omega)]
        have hc : cS (am_u M.1 1 4 (nI (min (tV b (n - p.1) p.1 0) 1000000)), M.2) b n p := by
          obtain ⟨⟨a1, a2, a3, a4, a5, a6, a7, a8⟩, h2, h3, h4⟩ := h
          refine ⟨⟨?_, ?_, ?_, ?_, ?_, a6, a7, ?_⟩, ?_, ?_, h4⟩
          · simp (disch := omega) only [u_row]; exact a1
          · simp (disch := omega) only [u_row]; exact a2
          · simp (disch := omega) only [u_row]; exact a3
          · simp (disch := omega) only [u_row]; exact a4
          · simp (disch := omega) only [u_row]; exact a5
          · simp (disch := omega) only [u_row]; exact a8
          · simp (disch := omega) only [u_ne]; exact h2
          · simp (disch := omega) only [u_ne]; exact h3
        obtain ⟨M', a1, a2, a3⟩ := c_adv hz hc
        refine ⟨M', ?_, a2, fun _ => ?_, Fx.trans (Fx.w Fx.id0 (.inl rfl)) (a3.mono (fun a q => .inr q))⟩
        · dsimp only
          rw [a1, cb_bv]
          unfold o1 pA
          rw [if_pos hp]
          rfl
        · rw [a3.2 1 (by omega)]
          refine u_p ?_
          unfold pV at e3 ⊢
          congr 1
          omega
      · have hno : ¬ nI (min (tV b (n - p.1) p.1 0) 1000000) ≤ x2 := by
          rw [h2]
          by_cases hh : hi = 0
          · rw [hh, show nI 0 - nI 1 = mI from rfl, q_lem (by omega)]; exact fun w => w
          · rw [q_sub (by omega), q_le (by omega) (by omega)]; unfold pV at e3; omega
        rw [if_neg hno, if_neg (show ¬ (lo ≤ pV b n p ∧ pV b n p < hi) by omega)]
        exact bad
  · rw [if_neg (show ¬ nI (tK b n p.1) = 2 by rw [n_2, q_eq (by omega) (by omega)]; exact e1), if_neg e1, n_1]
    obtain ⟨M', a1, a2, a3⟩ := c_fail (z := z) h hp (show 1 ≤ 3 by omega) (by omega)
    refine ⟨M', ?_, a2, fun w => absurd w (pE_k (by omega)), a3.mono (fun a q => .inl q)⟩
    rw [a1, cb_bi]
    unfold o1
    rw [if_neg (pE_k (by omega))]
    rfl
theorem c_sign {z : Nat} (hz : 2000 ≤ z) {M : aM} {b : Nat → Int32} {n : Nat} {p : cF} (h : cS M b n p) (hp : p.2.1 = 0) : ∃ M', f25 z M = some (some (.inl (o1 (pS b n p))), M') ∧ cS M' b n (pS b n p) ∧ Fx Fc M M' := by
  have hk := tK_le b n p.1
  unfold f25 pS
  rw [if_pos hp, h.1.2.2.2.1]
  by_cases e1 : tK b n p.1 = 3
  · rw [e1, if_pos (show nI 3 = 3 from rfl), if_pos rfl]
    obtain ⟨M', a1, a2, a3⟩ := c_adv hz h
    refine ⟨M', ?_, a2, a3.mono (fun a q => .inr q)⟩
    rw [a1, cb_bv]
    unfold o1 pA
    rw [if_pos hp]
    rfl
  · rw [if_neg (show ¬ nI (tK b n p.1) = 3 by rw [n_3, q_eq (by omega) (by omega)]; exact e1), if_neg e1, n_1]
    obtain ⟨M', a1, a2, a3⟩ := c_fail (z := z) h hp (show 1 ≤ 3 by omega) (by omega)
    refine ⟨M', ?_, a2, a3.mono (fun a q => .inl q)⟩
    rw [a1, cb_bi]
    unfold o1
    rw [if_neg (pE_k (by omega))]
    rfl
