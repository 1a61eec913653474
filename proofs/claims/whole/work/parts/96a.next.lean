/-! ===== the class's next token ===== -/
def cT (M : aM) (b : Nat → Int32) (n s : Nat) : Prop := M.1 2 1 = nI n ∧ M.1 2 2 = nI (tE b n s) ∧ M.1 2 3 = nI s ∧ M.1 2 4 = nI (tK b n s) ∧ (tK b n s = 2 → M.1 2 5 = nI (min (tV b (n - s) s 0) 1000000)) ∧ n ≤ 800 ∧ s ≤ n ∧ ∀ i, i < n → M.1 3 i = b i
theorem tE_le (b : Nat → Int32) {n s : Nat} (h : s ≤ n) : s ≤ tE b n s ∧ tE b n s ≤ n := by
  unfold tE
  have h1 := nx_le (tL b) (n - s) s
  have h2 := nx_le (tD b) (n - s) s
  split
  · omega
  · split
    · omega
    · split
      · omega
      · omega
theorem tSp_n {b : Nat → Int32} {q : Nat} (h1 : ¬ b q = 32) (h2 : ¬ b q = 10) : ¬ tSp b q = true := fun w => by
  have := of_decide_eq_true w
  rcases this with x | x
  · exact h1 x
  · exact h2 x
theorem c_nx {z : Nat} (hz : 2000 ≤ z) {b : Nat → Int32} {n : Nat} : ∀ (m q k : Nat) (M : aM), q + m = n → m < k → cP M b n q → ∃ M', f40_0 z k M = some (none, M') ∧ Fx (fun a => a = 2) M M' ∧ cT M' b n (nx (tSp b) m q)
  | 0, q, k, M, hm, hk, h => by
    obtain ⟨k, rfl⟩ : ∃ k', k = k' + 1 := ⟨k - 1, by omega⟩
    have h8 := h.2.2.1
    have hb := h.2.2.2.2
    refine ⟨(am_u (am_u (am_u M.1 2 3 (nI q)) 2 5 (nI 0)) 2 4 (nI 0), M.2), ?_, Fx.w (Fx.w (Fx.w Fx.id0 rfl) rfl) rfl, ?_⟩
    · rw [f40_0, h.1, h.2.1, if_pos (show nI n ≤ nI q by rw [q_le (by omega) (by omega)]; omega)]
      dsimp only
      rw [u_ne (show 2 ≠ 5 by omega), u_ne (show 2 ≠ 3 by omega), u_ne (show 1 ≠ 5 by omega), u_ne (show 1 ≠ 3 by omega), h.1, h.2.1, if_neg (show ¬ nI q < nI n by rw [q_lt (by omega) (by omega)]; omega)]
      rfl
    · have e : nx (tSp b) 0 q = q := rfl
      have ek : tK b n q = 0 := by unfold tK; rw [if_pos (by omega)]
      have ee : tE b n q = q := by unfold tE; rw [if_pos (by omega)]
      rw [e]
      refine ⟨?_, ?_, ?_, ?_, ?_, h8, by omega, ?_⟩
      · simp (disch := omega) only [u_ne, u_self]; exact h.1
      · simp (disch := omega) only [u_ne, u_self]; rw [ee]; exact h.2.1
      · simp (disch := omega) only [u_ne, u_self]
      · simp (disch := omega) only [u_ne, u_self]; rw [ek]
      · intro w; rw [ek] at w; omega
      · intro i hi
        simp (disch := omega) only [u_row]; exact hb i hi
  | m + 1, q, k, M, hm, hk, h => by
    obtain ⟨k, rfl⟩ : ∃ k', k = k' + 1 := ⟨k - 1, by omega⟩
    have h8 := h.2.2.1
    have hb := h.2.2.2.2
    rw [f40_0, h.1, h.2.1, if_neg (show ¬ nI n ≤ nI q by rw [q_le (by omega) (by omega)]; omega), if_pos (q_inB (show q < 800 by omega) (by omega)), q_cl (by omega), hb q (by omega), if_pos (q_inB (show q < 800 by omega) (by omega))]
    have hrec : tSp b q = true → ∃ M', f40_0 z k (am_u M.1 2 2 (nI q + 1), M.2) = some (none, M') ∧ Fx (fun a => a = 2) M M' ∧ cT M' b n (nx (tSp b) (m + 1) q) := fun w => by
      obtain ⟨M', a1, a2, a3⟩ := c_nx hz m (q + 1) k (am_u M.1 2 2 (nI (q + 1)), M.2) (by omega) (by omega) (h.u (by omega))
      refine ⟨M', ?_, Fx.trans (Fx.w Fx.id0 rfl) a2, ?_⟩
      · rw [n_1, q_add]; exact a1
      · unfold nx; rw [if_pos w]; exact a3
    by_cases h1 : b q = 32
    · rw [if_pos h1]
      exact hrec (decide_eq_true (.inl h1))
    · rw [if_neg h1]
      by_cases h2 : b q = 10
      · rw [if_neg (fun w => w h2)]
        exact hrec (decide_eq_true (.inr h2))
      · rw [if_pos h2]
        have es : nx (tSp b) (m + 1) q = q := by unfold nx; rw [if_neg (tSp_n h1 h2)]
        rw [es]
        have hP : cP (am_u (am_u M.1 2 3 (nI q)) 2 5 (nI 0), M.2) b n q := cP.v (M := (am_u M.1 2 3 (nI q), M.2)) (h.v (by omega) (by omega)) (by omega) (by omega)
        dsimp only
        rw [n_0] 
        rw [u_ne (show 2 ≠ 5 by omega), u_ne (show 2 ≠ 3 by omega), u_ne (show 1 ≠ 5 by omega), u_ne (show 1 ≠ 3 by omega), h.1, h.2.1, if_pos (show nI q < nI n by rw [q_lt (by omega) (by omega)]; omega), k41 hP (by omega), cb_bi]
        have hF : Fx (fun a => a = 2) M (am_u (am_u M.1 2 3 (nI q)) 2 5 (nI 0), M.2) := Fx.w (Fx.w Fx.id0 rfl) rfl
        have h3 : am_u (am_u M.1 2 3 (nI q)) 2 5 (nI 0) 2 3 = nI q := by simp (disch := omega) only [u_ne, u_self]
        have h5 : am_u (am_u M.1 2 3 (nI q)) 2 5 (nI 0) 2 5 = nI 0 := u_self
        generalize hA : ((am_u (am_u M.1 2 3 (nI q)) 2 5 (nI 0), M.2) : aM) = A at hP hF ⊢
        have h3 : A.1 2 3 = nI q := by rw [← hA]; exact h3
        have h5 : A.1 2 5 = nI 0 := by rw [← hA]; exact h5
        have nq : ¬ n ≤ q := by omega
        by_cases e1 : tL b q = true
        · have ek : tK b n q = 1 := by unfold tK; rw [if_neg nq, if_pos e1]
          have ee : tE b n q = nx (tL b) (n - q) q := by unfold tE; rw [if_neg nq, if_pos e1]
          rw [if_pos e1, ← n_0, i1f]
          obtain ⟨M', a1, a2, a3⟩ := c_let (z := z) (n - q) q z (am_u A.1 2 4 (1 : Int32), A.2) (by omega) (by omega) (hP.v (by omega) (by omega))
          refine ⟨M', a1, hF.trans (Fx.trans (Fx.w Fx.id0 rfl) a2.1), a3.1, ?_, ?_, ?_, ?_, h8, by omega, a3.2.2.2.2⟩
          · rw [ee]; exact a3.2.1
          · rw [a2.2 3 (by omega) (by omega)]; simp (disch := omega) only [u_ne]; exact h3
          · rw [a2.2 4 (by omega) (by omega), ek]; simp only [u_self]; rfl
          · intro w; omega
        · rw [if_neg e1, if_pos rfl, k42 hP (by omega), cb_bi]
          by_cases e2 : tD b q = true
          · have ek : tK b n q = 2 := by unfold tK; rw [if_neg nq, if_neg e1, if_pos e2]
            have ee : tE b n q = nx (tD b) (n - q) q := by unfold tE; rw [if_neg nq, if_neg e1, if_pos e2]
            rw [if_pos e2, ← n_0, i1f]
            obtain ⟨M', a1, a2, a3, a4⟩ := c_dig (z := z) (n - q) q z 0 (am_u A.1 2 4 (2 : Int32), A.2) (by omega) (by omega) (hP.v (by omega) (by omega)) (by simp (disch := omega) only [u_ne]; exact h5)
            refine ⟨M', a1, hF.trans (Fx.trans (Fx.w Fx.id0 rfl) a2.1), a3.1, ?_, ?_, ?_, fun _ => a4, h8, by omega, a3.2.2.2.2⟩
            · rw [ee]; exact a3.2.1
            · rw [a2.2 3 (by omega) (by omega)]; simp (disch := omega) only [u_ne]; exact h3
            · rw [a2.2 4 (by omega) (by omega), ek]; simp only [u_self]; rfl
          · have ee : tE b n q = q + 1 := by unfold tE; rw [if_neg nq, if_neg e1, if_neg e2]
            rw [if_neg e2, if_pos rfl, hP.2.1, if_pos (q_inB (show q < 800 by omega) (by omega)), q_cl (by omega), hP.2.2.2.2 q (by omega)]
            have fin : ∀ x : Nat, tK b n q = x → x ≠ 2 → cT (am_u (am_u A.1 2 4 (nI x)) 2 2 (am_u A.1 2 4 (nI x) 2 2 + 1), A.2) b n q := fun x ek x2 => by
              refine ⟨?_, ?_, ?_, ?_, ?_, h8, by omega, ?_⟩
              · simp (disch := omega) only [u_ne, u_self]; exact hP.1
              · simp (disch := omega) only [u_ne, u_self]; rw [hP.2.1, ee, n_1, q_add]
              · simp (disch := omega) only [u_ne, u_self]; exact h3
              · simp (disch := omega) only [u_ne, u_self]; rw [ek]
              · intro w; omega
              · intro i hi
                simp (disch := omega) only [u_row]; exact hP.2.2.2.2 i hi
            by_cases e3 : b q = 59
            · rw [if_neg (fun w => w e3)]
              exact ⟨_, rfl, hF.trans (Fx.w (Fx.w Fx.id0 rfl) rfl), fin 3 (by unfold tK; rw [if_neg nq, if_neg e1, if_neg e2, if_pos e3]) (by omega)⟩
            · rw [if_pos e3]
              exact ⟨_, rfl, hF.trans (Fx.w (Fx.w Fx.id0 rfl) rfl), fin 4 (by unfold tK; rw [if_neg nq, if_neg e1, if_neg e2, if_neg e3]) (by omega)⟩
def tQ (b : Nat → Int32) (n q : Nat) : Nat := nx (tSp b) (n - q) q
theorem c_next {z : Nat} (hz : 2000 ≤ z) {b : Nat → Int32} {n q : Nat} {M : aM} (h : cP M b n q) : ∃ M', f40 z M = some (none, M') ∧ Fx (fun a => a = 2) M M' ∧ cT M' b n (tQ b n q) := by
  have h8 := h.2.2.1
  have h9 := h.2.2.2.1
  exact c_nx hz (n - q) q z M (by omega) (by omega) h
