/-! ===== tokens ===== -/
def nx (p : Nat → Bool) : Nat → Nat → Nat
  | 0, q => q
  | m + 1, q => if p q = true then nx p m (q + 1) else q
def tL (B : Nat → Int32) (q : Nat) : Bool := decide (97 ≤ B q ∧ B q ≤ 122)
def tD (B : Nat → Int32) (q : Nat) : Bool := decide (48 ≤ B q ∧ B q ≤ 57)
def tSp (B : Nat → Int32) (q : Nat) : Bool := decide (B q = 32 ∨ B q = 10)
def tK (B : Nat → Int32) (n s : Nat) : Nat := if n ≤ s then 0 else if tL B s = true then 1 else if tD B s = true then 2 else if B s = 59 then 3 else 4
def tE (B : Nat → Int32) (n s : Nat) : Nat := if n ≤ s then s else if tL B s = true then nx (tL B) (n - s) s else if tD B s = true then nx (tD B) (n - s) s else s + 1
/-- the number in the digits -/
def tV (B : Nat → Int32) : Nat → Nat → Nat → Nat
  | 0, _, a => a
  | m + 1, q, a => if tD B q = true then tV B m (q + 1) (10 * a + (B q).toNatClampNeg - 48) else a
theorem nx_le (p : Nat → Bool) : ∀ m q, q ≤ nx p m q ∧ nx p m q ≤ q + m
  | 0, q => ⟨Nat.le_refl _, Nat.le_refl _⟩
  | m + 1, q => by
    unfold nx
    split
    · have := nx_le p m (q + 1)
      omega
    · omega
theorem tD_d {B : Nat → Int32} {q : Nat} (h : tD B q = true) : ∃ v, 48 ≤ v ∧ v ≤ 57 ∧ B q = nI v := by
  have h' : 48 ≤ B q ∧ B q ≤ 57 := of_decide_eq_true h
  obtain ⟨v, hv, e⟩ := nI_of (Int32.not_lt.mpr (Int32.le_trans (show (0 : Int32) ≤ 48 by decide) h'.1))
  rw [e, show (48 : Int32) = nI 48 from rfl, show (57 : Int32) = nI 57 from rfl, q_le (by omega) (by omega), q_le (by omega) (by omega)] at h'
  exact ⟨v, h'.1, h'.2, e⟩
/-- the class's tape -/
def cP (M : aM) (B : Nat → Int32) (n q : Nat) : Prop := M.1 2 1 = nI n ∧ M.1 2 2 = nI q ∧ n ≤ 800 ∧ q ≤ n ∧ ∀ i, i < n → M.1 3 i = B i
theorem cP.u {M : aM} {B : Nat → Int32} {n q : Nat} (h : cP M B n q) {q' : Nat} (hq : q' ≤ n) : cP (am_u M.1 2 2 (nI q'), M.2) B n q' := by
  obtain ⟨a, b, c, d, e⟩ := h
  refine ⟨?_, ?_, c, hq, fun i hi => ?_⟩
  · show am_u M.1 2 2 (nI q') 2 1 = _
    rw [u_ne (by omega)]; exact a
  · show am_u M.1 2 2 (nI q') 2 2 = _
    rw [u_self]
  · show am_u M.1 2 2 (nI q') 3 i = _
    rw [u_row (by omega)]; exact e i hi
theorem cP.v {M : aM} {B : Nat → Int32} {n q : Nat} (h : cP M B n q) {j : Nat} {x : Int32} (h1 : j ≠ 1) (h2 : j ≠ 2) : cP (am_u M.1 2 j x, M.2) B n q := by
  obtain ⟨a, b, c, d, e⟩ := h
  refine ⟨?_, ?_, c, d, fun i hi => ?_⟩
  · show am_u M.1 2 j x 2 1 = _
    rw [u_ne (by omega)]; exact a
  · show am_u M.1 2 j x 2 2 = _
    rw [u_ne (by omega)]; exact b
  · show am_u M.1 2 j x 3 i = _
    rw [u_row (by omega)]; exact e i hi
theorem k41 {z : Nat} {M : aM} {B : Nat → Int32} {n q : Nat} (h : cP M B n q) (hq : q < n) : f41 z M = some (some (.inl (nI (if tL B q = true then 1 else 0))), M) := by
  obtain ⟨a, b, c, d, e⟩ := h
  unfold f41 tL
  rw [b, if_pos (q_inB (show q < 800 by omega) (by omega)), q_cl (by omega), e q hq, if_pos (q_inB (show q < 800 by omega) (by omega))]
  by_cases h1 : B q < 97
  · rw [if_pos h1, decide_eq_false (fun w => Int32.not_le.mpr h1 w.1)]
    rfl
  · rw [if_neg h1]
    by_cases h2 : 122 < B q
    · rw [if_pos h2, decide_eq_false (fun w => Int32.not_le.mpr h2 w.2)]
      rfl
    · rw [if_neg h2, decide_eq_true ⟨Int32.not_lt.mp h1, Int32.not_lt.mp h2⟩]
      rfl
theorem k42 {z : Nat} {M : aM} {B : Nat → Int32} {n q : Nat} (h : cP M B n q) (hq : q < n) : f42 z M = some (some (.inl (nI (if tD B q = true then 1 else 0))), M) := by
  obtain ⟨a, b, c, d, e⟩ := h
  unfold f42 tD
  rw [b, if_pos (q_inB (show q < 800 by omega) (by omega)), q_cl (by omega), e q hq, if_pos (q_inB (show q < 800 by omega) (by omega))]
  by_cases h1 : B q < 48
  · rw [if_pos h1, decide_eq_false (fun w => Int32.not_le.mpr h1 w.1)]
    rfl
  · rw [if_neg h1]
    by_cases h2 : 57 < B q
    · rw [if_pos h2, decide_eq_false (fun w => Int32.not_le.mpr h2 w.2)]
      rfl
    · rw [if_neg h2, decide_eq_true ⟨Int32.not_lt.mp h1, Int32.not_lt.mp h2⟩]
      rfl
/-- but for places 2 and 5 row 2 is as it was -/
def w25 (M M' : aM) : Prop := Fx (fun a => a = 2) M M' ∧ ∀ j, j ≠ 2 → j ≠ 5 → M'.1 2 j = M.1 2 j
theorem w25.id0 (M : aM) : w25 M M := ⟨Fx.id0, fun _ _ _ => rfl⟩
theorem w25.trans {a b c : aM} (h : w25 a b) (h' : w25 b c) : w25 a c := ⟨h.1.trans h'.1, fun j q r => (h'.2 j q r).trans (h.2 j q r)⟩
theorem w25.u {M : aM} {j : Nat} {x : Int32} (hj : j = 2 ∨ j = 5) : w25 M (am_u M.1 2 j x, M.2) := ⟨Fx.w Fx.id0 rfl, fun i q r => by show am_u M.1 2 j x 2 i = _; rw [u_ne (by omega)]⟩
theorem c_let {z : Nat} {B : Nat → Int32} {n : Nat} : ∀ (m q k : Nat) (M : aM), q + m = n → m < k → cP M B n q → ∃ M', f40_96 z k M = some (none, M') ∧ w25 M M' ∧ cP M' B n (nx (tL B) m q)
  | 0, q, k, M, hm, hk, h => by
    obtain ⟨k, rfl⟩ : ∃ k', k = k' + 1 := ⟨k - 1, by omega⟩
    refine ⟨M, ?_, w25.id0 M, h⟩
    rw [f40_96, h.1, h.2.1, if_pos (show nI n ≤ nI q by rw [q_le (by have := h.2.2.1; omega) (by have := h.2.2.1; omega)]; omega)]
  | m + 1, q, k, M, hm, hk, h => by
    obtain ⟨k, rfl⟩ : ∃ k', k = k' + 1 := ⟨k - 1, by omega⟩
    have h8 := h.2.2.1
    unfold nx
    rw [f40_96, h.1, h.2.1, if_neg (show ¬ nI n ≤ nI q by rw [q_le (by omega) (by omega)]; omega), k41 h (by omega), cb_bi]
    by_cases e : tL B q = true
    · rw [if_pos e, if_pos e, i1f, h.2.1, n_1, q_add]
      obtain ⟨M', a1, a2, a3⟩ := c_let (z := z) m (q + 1) k _ (by omega) (by omega) (h.u (q' := q + 1) (by omega))
      exact ⟨M', a1, (w25.u (.inl rfl)).trans a2, a3⟩
    · rw [if_neg e, if_neg e, i0f]
      exact ⟨M, rfl, w25.id0 M, h⟩
theorem n_48 : (48 : Int32) = nI 48 := rfl
theorem c_dig {z : Nat} {B : Nat → Int32} {n : Nat} : ∀ (m q k a : Nat) (M : aM), q + m = n → m < k → cP M B n q → M.1 2 5 = nI (min a 1000000) → ∃ M', f40_139 z k M = some (none, M') ∧ w25 M M' ∧ cP M' B n (nx (tD B) m q) ∧ M'.1 2 5 = nI (min (tV B m q a) 1000000)
  | 0, q, k, a, M, hm, hk, h, h5 => by
    obtain ⟨k, rfl⟩ : ∃ k', k = k' + 1 := ⟨k - 1, by omega⟩
    refine ⟨M, ?_, w25.id0 M, h, h5⟩
    rw [f40_139, h.1, h.2.1, if_pos (show nI n ≤ nI q by rw [q_le (by have := h.2.2.1; omega) (by have := h.2.2.1; omega)]; omega)]
  | m + 1, q, k, a, M, hm, hk, h, h5 => by
    obtain ⟨k, rfl⟩ : ∃ k', k = k' + 1 := ⟨k - 1, by omega⟩
    have h8 := h.2.2.1
    unfold nx tV
    rw [f40_139, h.1, h.2.1, if_neg (show ¬ nI n ≤ nI q by rw [q_le (by omega) (by omega)]; omega), k42 h (by omega), cb_bi]
    by_cases e : tD B q = true
    · obtain ⟨v, v1, v2, v3⟩ := tD_d e
      rw [if_pos e, if_pos e, if_pos e, i1f, h.2.1, if_pos (q_inB (show q < 800 by omega) (by omega)), q_cl (by omega), h.2.2.2.2 q (by omega), h5, v3, q_cl (by omega), n_10, n_48, n_1000000, q_mul, q_add, q_sub (show 48 ≤ min a 1000000 * 10 + v by omega)]
      have hmn : min a 1000000 ≤ 1000000 := Nat.min_le_right _ _
      have eif : (if nI (min a 1000000 * 10 + v - 48) < nI 1000000 then nI (min a 1000000 * 10 + v - 48) else nI 1000000) = nI (min (10 * a + v - 48) 1000000) := by
        by_cases c : min a 1000000 * 10 + v - 48 < 1000000
        · rw [if_pos (show nI (min a 1000000 * 10 + v - 48) < nI 1000000 by rw [q_lt (by omega) (by omega)]; exact c)]
          congr 1
          omega
        · rw [if_neg (show ¬ nI (min a 1000000 * 10 + v - 48) < nI 1000000 by rw [q_lt (by omega) (by omega)]; exact c)]
          congr 1
          omega
      rw [eif]
      dsimp only
      rw [u_ne (show 2 ≠ 5 by omega), h.2.1, n_1, q_add]
      have h' : cP (am_u (am_u M.1 2 5 (nI (min (10 * a + v - 48) 1000000))) 2 2 (nI (q + 1)), M.2) B n (q + 1) := (h.v (j := 5) (by omega) (by omega)).u (by omega)
      obtain ⟨M', a1, a2, a3, a4⟩ := c_dig (z := z) m (q + 1) k (10 * a + v - 48) _ (by omega) (by omega) h' (by show am_u (am_u M.1 2 5 (nI (min (10 * a + v - 48) 1000000))) 2 2 (nI (q + 1)) 2 5 = _; rw [u_ne (by omega), u_self])
      exact ⟨M', a1, ((w25.u (.inr rfl)).trans (w25.u (M := (am_u M.1 2 5 (nI (min (10 * a + v - 48) 1000000)), M.2)) (.inl rfl))).trans a2, a3, a4⟩
    · rw [if_neg e, if_neg e, if_neg e, i0f]
      exact ⟨M, rfl, w25.id0 M, h, h5⟩
