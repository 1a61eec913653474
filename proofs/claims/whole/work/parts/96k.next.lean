/-! ===== the class's cloth, read ===== -/
def W00 : cW := fun _ _ => 0
theorem wf_00 : wf W00 := by
  unfold wf W00
  exact ⟨by omega, by omega, by omega, by omega, by omega, by omega, by omega, by omega, fun t ht => by omega, fun t ht => by omega, fun t ht => by omega, fun _ => by omega, fun w => by omega⟩
theorem tQ_le (b : Nat → Int32) {n q : Nat} (h : q ≤ n) : tQ b n q ≤ n := by
  unfold tQ
  have := nx_le (tSp b) (n - q) q
  omega
def lZ (b : Nat → Int32) (n : Nat) : cW × cF := lR b n (n + 1) W00 (tQ b n 0, 0, 0)
def Fr : Nat → Prop := fun a => a = 1 ∨ a = 2 ∨ (4 ≤ a ∧ a ≤ 17)
theorem c_read {z : Nat} (hz : 2000 ≤ z) {M : aM} {b : Nat → Int32} {n : Nat} (hn : n ≤ 800) (h1 : M.1 2 1 = nI n) (hb : ∀ i, i < n → M.1 3 i = b i) :
    ∃ M', Fx Fr M M' ∧ M'.1 1 2 = nI (lZ b n).2.2.1 ∧ M'.1 1 3 = fP (lZ b n).2 ∧ ((lZ b n).2.2.1 = 0 → rC M' 4 (lZ b n).1 ∧ wf (lZ b n).1 ∧ f17 z M = some (some (.inl (nI 1)), M')) ∧ (¬ (lZ b n).2.2.1 = 0 → f17 z M = some (some (.inl (nI 0)), M')) := by
  obtain ⟨M1, a1, a2, a3, a4⟩ : ∃ M1, f4 z 4 M = some (none, M1) ∧ Fx (fun a => a = 4 ∨ a = 13) M M1 ∧ (∀ j, j < 7 → M1.1 4 j = nI 0) ∧ M1.1 13 0 = nI 0 := by
    unfold f4 f4_20 f4_43
    refine ⟨_, rfl, Fx.w (Fx.w (Fx.w (Fx.w (Fx.w (Fx.w (Fx.w (Fx.w Fx.id0 (.inl rfl)) (.inl rfl)) (.inl rfl)) (.inl rfl)) (.inl rfl)) (.inl rfl)) (.inl rfl)) (.inr rfl), fun j hj => ?_, u_p rfl⟩
    dsimp only
    rw [u_row (by omega), n_0]
    rcases (show j = 0 ∨ j = 1 ∨ j = 2 ∨ j = 3 ∨ j = 4 ∨ j = 5 ∨ j = 6 by omega) with rfl | rfl | rfl | rfl | rfl | rfl | rfl <;> simp (disch := omega) only [u_ne, u_self]
  have hP : cP (am_u (am_u (am_u M1.1 1 2 (nI 0)) 1 3 mI) 2 2 (nI 0), M1.2) b n 0 := by
    refine ⟨?_, ?_, hn, by omega, fun i hi => ?_⟩
    · simp (disch := omega) only [u_ne, u_row]; rw [a2.2 2 (by omega)]; exact h1
    · simp (disch := omega) only [u_self]
    · simp (disch := omega) only [u_row]; rw [a2.2 3 (by omega)]; exact hb i hi
  obtain ⟨M2, b1, b2, b3⟩ := c_next hz hP
  have c1 : cS M2 b n (tQ b n 0, 0, 0) := by
    refine ⟨b3, ?_, ?_, show 0 ≤ 3 by omega⟩
    · rw [b2.2 1 (by omega)]; simp (disch := omega) only [u_ne, u_row, u_self]
    · rw [b2.2 1 (by omega)]; simp (disch := omega) only [u_row, u_self]; rfl
  have r4 : ∀ a, 4 ≤ a → M2.1 a = M1.1 a := fun a x => by
    rw [b2.2 a (by omega)]; simp (disch := omega) only [u_row]
  have hK : rK M2 W00 := by
    unfold rK W00
    rw [r4 4 (by omega)]
    refine ⟨⟨a3 0 (by omega), a3 1 (by omega), a3 2 (by omega), a3 3 (by omega), a3 4 (by omega), a3 5 (by omega), a3 6 (by omega)⟩, fun t ht => by omega, fun t ht => by omega⟩
  obtain ⟨M3, d1, d2, d3, d4⟩ := c_loop hz (n + 1) z 0 M2 W00 (tQ b n 0, 0, 0) (by omega) (by omega) c1 rfl hK wf_00 rfl rfl (by omega)
  have F3 : Fx Fr M M3 := (((a2.mono (fun a q => by unfold Fr; omega)).trans (Fx.w (Fx.w (Fx.w Fx.id0 (.inl rfl)) (.inl rfl)) (.inr (.inl rfl)))).trans (b2.mono (fun a q => by unfold Fr; omega))).trans (d2.mono (fun a q => by unfold Ft at q; unfold Fr; omega))
  have e17 : f17 z M = f17_34 z z (nI 0) M2 := by
    unfold f17
    rw [a1, cb_bv, n_0, q_m1]
    dsimp only
    rw [b1, cb_bv]
  change cS M3 b n (lZ b n).2 at d1
  change (lZ b n).2.2.1 = 0 → rK M3 (lZ b n).1 ∧ wf (lZ b n).1 ∧ (lZ b n).1 0 6 = 0 ∧ _ at d3
  change ¬ (lZ b n).2.2.1 = 0 → _ at d4
  by_cases e : (lZ b n).2.2.1 = 0
  · obtain ⟨g1, g2, g3, g4⟩ := d3 e
    have g13 : M3.1 13 0 = nI 0 := by rw [d2.2 13 (by unfold Ft; omega), r4 13 (by omega)]; exact a4
    obtain ⟨M4, s1, s2, s3⟩ := c_sort hz g1 g2 g3 g13
    refine ⟨M4, F3.trans (s2.mono (fun a q => by unfold Fr; omega)), ?_, ?_, fun _ => ⟨s3, g2, ?_⟩, fun w => absurd e w⟩
    · rw [s2.2 1 (by omega)]; exact d1.2.1
    · rw [s2.2 1 (by omega)]; exact d1.2.2.1
    · rw [e17, g4, s1, cb_bv]
      rfl
  · exact ⟨M3, F3, d1.2.1, d1.2.2.1, fun w => absurd w e, fun w => by rw [e17]; exact d4 w⟩
