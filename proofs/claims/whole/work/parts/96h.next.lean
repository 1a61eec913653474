/-! ===== one line: where it ends, that it is well formed; the class ===== -/
theorem o1_and (p : cF) : o1 p &&& 1 = o1 p := by
  unfold o1
  split
  · rfl
  · rfl
theorem le_A (b : Nat → Int32) (n : Nat) (p : cF) : p.1 ≤ (pA b n p).1 := by
  unfold pA tQ
  have h1 := nx_le (tSp b) (n - tE b n p.1) (tE b n p.1)
  have h2 : p.1 ≤ tE b n p.1 := by
    unfold tE
    have h1 := nx_le (tL b) (n - p.1) p.1
    have h2 := nx_le (tD b) (n - p.1) p.1
    repeat' split
    all_goals omega
  dsimp only
  omega
theorem le_E (k : Nat) (p : cF) : p.1 ≤ (pE k p).1 := by
  unfold pE
  split
  · exact Nat.le_refl _
  · exact Nat.le_refl _
theorem le_X (b : Nat → Int32) (n c : Nat) (p : cF) : p.1 ≤ (pX b n c p).1 := by
  unfold pX
  split
  · exact le_A b n p
  · exact le_E 1 p
theorem le_N (b : Nat → Int32) (n lo hi : Nat) (p : cF) : p.1 ≤ (pN b n lo hi p).2.1 := by
  unfold pN
  repeat' split
  · exact le_A b n p
  · exact le_E 2 p
  · exact le_E 1 p
  · exact Nat.le_refl _
theorem le_hO (b : Nat → Int32) (n : Nat) (p : cF) : p.1 ≤ (hO b n p).2.1 :=
  Nat.le_trans (Nat.le_trans (Nat.le_trans (le_X b n 1 p) (le_N b n 1 13 _)) (Nat.le_trans (le_X b n 2 _) (le_N b n 0 4 _))) (Nat.le_trans (le_X b n 3 _) (le_N b n 0 11 _))
theorem le_tH (b : Nat → Int32) (n c : Nat) (p : cF) : p.1 ≤ (tH b n c p).2.1 := by
  have h1 : p.1 ≤ (tB b n c p).1 := Nat.le_trans (le_N b n 0 c p) (le_X b n 6 _)
  have h2 : (tB b n c p).1 ≤ (tC b n c p).2.1 := by
    unfold tC
    split
    · exact le_A b n _
    · exact le_N b n _ _ _
  exact Nat.le_trans (Nat.le_trans h1 h2) (Nat.le_trans (le_X b n 8 _) (le_N b n 1 61 _))
theorem le_qC (b : Nat → Int32) (n c : Nat) (p : cF) : p.1 ≤ (qC b n c p).2.1 :=
  Nat.le_trans (Nat.le_trans (le_N b n 0 c p) (Nat.le_trans (le_X b n 10 _) (le_N b n 1 91 _))) (Nat.le_trans (le_X b n 11 _) (le_N b n 0 12 _))
theorem le_Q (b : Nat → Int32) (n : Nat) (W : cW) (p : cF) : p.1 ≤ (lQ b n W p).1 := by
  unfold lQ
  repeat' split
  · exact Nat.le_trans (le_X b n 0 p) (le_hO b n _)
  · exact le_A b n p
  · exact le_E 3 p
  · exact Nat.le_trans (le_A b n p) (le_tH b n _ _)
  · exact le_E 3 p
  · exact Nat.le_trans (le_A b n p) (le_qC b n _ _)
  · exact le_E 3 p
  · exact le_E 1 p
theorem pS_0 {b : Nat → Int32} {n : Nat} {p : cF} (h : (pS b n p).2.1 = 0) : p.2.1 = 0 ∧ tK b n p.1 = 3 ∧ pS b n p = pA b n p := by
  unfold pS at h ⊢
  by_cases h0 : p.2.1 = 0
  · rw [if_pos h0] at h ⊢
    by_cases h1 : tK b n p.1 = 3
    · rw [if_pos h1]; exact ⟨h0, h1, rfl⟩
    · rw [if_neg h1] at h; exact absurd h (pE_k (by omega))
  · rw [if_neg h0] at h; exact absurd h h0
theorem lt_S {b : Nat → Int32} {n : Nat} {p : cF} (h : (pS b n p).2.1 = 0) : p.1 < (pS b n p).1 := by
  obtain ⟨h0, h3, e⟩ := pS_0 h
  rw [e]
  have hK : tE b n p.1 = p.1 + 1 := by
    unfold tK at h3
    unfold tE
    by_cases q1 : n ≤ p.1
    · rw [if_pos q1] at h3; omega
    · rw [if_neg q1] at h3 ⊢
      by_cases q2 : tL b p.1 = true
      · rw [if_pos q2] at h3; omega
      · rw [if_neg q2] at h3 ⊢
        by_cases q3 : tD b p.1 = true
        · rw [if_pos q3] at h3; omega
        · rw [if_neg q3]
  unfold pA tQ
  have h1 := nx_le (tSp b) (n - tE b n p.1) (tE b n p.1)
  dsimp only
  omega
/-- a line that is good leaves a cloth that is well formed -/
theorem wf_l {b : Nat → Int32} {n : Nat} {W : cW} {p : cF} (h : wf W) (h6 : W 0 6 = 0) (hp : p.2.1 = 0) (h7 : W 0 7 < 800) (hq : (lQ b n W p).2.1 = 0) : wf (wu (lW b n W p) 0 7 (W 0 7 + 1)) := by
  obtain ⟨a0, a1, a2, a3, a4, a5, a6, a7, bb, cc, d, e, f⟩ := h
  unfold lW
  unfold lQ at hq
  by_cases z7 : W 0 7 = 0
  · rw [if_pos z7] at hq ⊢
    obtain ⟨e1, e2, e3, e4, e5⟩ := e z7
    generalize pX b n 0 p = p1 at *
    have o := pN_0 hq
    have l := pN_0 (pX_0 o.1).1
    have y := pN_0 (pX_0 l.1).1
    change _ ∧ 0 ≤ (hO b n p1).1 ∧ (hO b n p1).1 < 11 at o
    change _ ∧ 0 ≤ (hL b n p1).1 ∧ (hL b n p1).1 < 4 at l
    change _ ∧ 1 ≤ (hY b n p1).1 ∧ (hY b n p1).1 < 13 at y
    unfold wf lWh
    rw [wu_s]
    simp (disch := omega) only [wu_n, wu_s]
    exact ⟨by omega, by omega, by omega, a3, a4, a5, a6, by omega, fun t ht => by omega, fun q hq => by omega, fun i hi => by omega, fun w => by omega, fun _ => by omega⟩
  · rw [if_neg z7] at hq ⊢
    have f := f (by omega)
    by_cases w4 : wq b n 4 p.1 = true
    · rw [if_pos w4] at hq ⊢
      by_cases c8 : W 0 3 < 8
      · unfold wf
        rw [wu_s]
        simp (disch := omega) only [wu_n, wu_s]
        refine ⟨a0, a1, a2, by omega, a4, a5, a6, by omega, fun t ht => ?_, fun q hq => ?_, fun i hi => by omega, fun w => by omega, fun _ => f⟩
        · have := bb t ht; omega
        · have := cc q hq; omega
      · rw [if_neg c8] at hq; exact absurd hq (pE_k (by omega))
    · rw [if_neg w4] at hq ⊢
      by_cases w5 : wq b n 5 p.1 = true
      · rw [if_pos w5] at hq ⊢
        by_cases c8 : W 0 4 < 16
        · rw [if_pos c8] at hq
          generalize pA b n p = p1 at *
          have o := pN_0 hq
          have x := pX_0 o.1
          have hB : (tB b n (W 0 3) p1).2.1 = 0 ∧ ((tC b n (W 0 3) p1).1 = 8 ∨ (tC b n (W 0 3) p1).1 < (tA b n (W 0 3) p1).1) := by
            have x1 := x.1
            unfold tC at x1 ⊢
            by_cases q : pI b n 7 (tB b n (W 0 3) p1) = true
            · rw [if_pos q] at x1 ⊢; exact ⟨x1, .inl rfl⟩
            · rw [if_neg q] at x1 ⊢
              exact ⟨(pN_0 x1).1, .inr (pN_0 x1).2.2⟩
          have y := pN_0 (pX_0 hB.1).1
          change _ ∧ 1 ≤ (tH b n (W 0 3) p1).1 ∧ (tH b n (W 0 3) p1).1 < 61 at o
          change _ ∧ 0 ≤ (tA b n (W 0 3) p1).1 ∧ (tA b n (W 0 3) p1).1 < W 0 3 at y
          unfold wf lWt
          rw [wu_s]
          simp (disch := omega) only [wu_n, wu_s]
          refine ⟨a0, a1, a2, a3, by omega, a5, a6, by omega, fun t ht => ?_, cc, fun i hi => by omega, fun w => by omega, fun _ => f⟩
          by_cases et : t = W 0 4
          · subst et
            simp (disch := omega) only [wu_n, wu_s]
            omega
          · simp (disch := omega) only [wu_n]
            exact bb t (by omega)
        · rw [if_neg c8] at hq; exact absurd hq (pE_k (by omega))
      · rw [if_neg w5] at hq ⊢
        by_cases w9 : wq b n 9 p.1 = true
        · rw [if_pos w9] at hq
          by_cases c8 : W 0 5 < 10
          · rw [if_pos c8] at hq
            generalize pA b n p = p1 at *
            have o := pN_0 hq
            have x := pN_0 (pX_0 o.1).1
            have y := pN_0 (pX_0 x.1).1
            change _ ∧ 0 ≤ (qC b n (W 0 3) p1).1 ∧ (qC b n (W 0 3) p1).1 < 12 at o
            change _ ∧ 1 ≤ (qB b n (W 0 3) p1).1 ∧ (qB b n (W 0 3) p1).1 < 91 at x
            change _ ∧ 0 ≤ (qA b n (W 0 3) p1).1 ∧ (qA b n (W 0 3) p1).1 < W 0 3 at y
            unfold wf lWq
            rw [wu_s]
            simp (disch := omega) only [wu_n, wu_s]
            refine ⟨a0, a1, a2, a3, a4, by omega, a6, by omega, bb, fun t ht => ?_, fun i hi => by omega, fun w => by omega, fun _ => f⟩
            by_cases et : t = W 0 5
            · subst et
              simp (disch := omega) only [wu_n, wu_s]
              omega
            · simp (disch := omega) only [wu_n]
              exact cc t (by omega)
          · rw [if_neg c8] at hq; exact absurd hq (pE_k (by omega))
        · rw [if_neg w9] at hq; exact absurd hq (pE_k (by omega))
theorem w6_l {b : Nat → Int32} {n : Nat} {W : cW} {p : cF} (h6 : W 0 6 = 0) : wu (lW b n W p) 0 7 (W 0 7 + 1) 0 6 = 0 := by
  unfold lW lWh lWt lWq
  rw [wu_n _ (by omega)]
  repeat' split
  all_goals simp (disch := omega) only [wu_n]; exact h6
