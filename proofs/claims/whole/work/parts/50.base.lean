/-! ===== pure facts about the methods' functions: first words ===== -/
theorem cb_bi (v : Int32) (M : aM) (f : Int32 → aM → Option aR) : am_bi (some (some (.inl v), M)) f = f v M := rfl
theorem cb_bl (v : Int64) (M : aM) (f : Int64 → aM → Option aR) : am_bl (some (some (.inr (.inl v)), M)) f = f v M := rfl
theorem cb_bv (M : aM) (f : aM → Option aR) : am_bv (some (none, M)) f = f M := rfl
theorem cb_br (M : aM) (f : aM → Option aR) : am_br (some (some (.inr (.inr (am_tk, am_ta))), M)) f = f M := rfl
theorem cb_01 : (0 : Int32) &&& 1 = 0 := by decide
theorem cb_11 : (1 : Int32) &&& 1 = 1 := by decide
theorem cb_inB {k n : Nat} (h : k < n) (hn : n < 2 ^ 31) : am_inB (nI k) n = true := by
  unfold am_inB
  have h1 : ¬ nI k < 0 := nI_pos (by omega)
  have h2 : (nI k).toNatClampNeg = k := nI_clamp (by omega)
  have h3 : Nat.ble n k = false := by
    cases hq : Nat.ble n k with
    | false => rfl
    | true => exact absurd (Nat.le_of_ble_eq_true hq) (by omega)
  rw [h2, h3]
  simp [h1]
theorem cb_wle (a b : Int32) : a.toInt64 ≤ b.toInt64 ↔ a ≤ b := by
  rw [Int64.le_iff_toInt_le, Int32.le_iff_toInt_le, Int32.toInt_toInt64, Int32.toInt_toInt64]
theorem cb_wlt (a b : Int32) : a.toInt64 < b.toInt64 ↔ a < b := by
  rw [Int64.lt_iff_toInt_lt, Int32.lt_iff_toInt_lt, Int32.toInt_toInt64, Int32.toInt_toInt64]
theorem cb_w0 (a : Int32) : (0 : Int64) ≤ a.toInt64 ↔ 0 ≤ a := by
  rw [show (0 : Int64) = (0 : Int32).toInt64 by decide]
  exact cb_wle 0 a
theorem cb_u_self (f : Nat → Nat → Int32) (a i : Nat) (x : Int32) : am_u f a i x a i = x := by simp [am_u]
theorem cb_u_ne {f : Nat → Nat → Int32} {a i b j : Nat} {x : Int32} (h : ¬ (b = a ∧ j = i)) : am_u f a i x b j = f b j := by simp [am_u, h]
/-- the model's 'in' -/
theorem g170 (z : Nat) (a b c : Int64) (M : aM) : f170 z a b c M = some (some (.inl (if b ≤ a ∧ a ≤ c then 1 else 0)), M) := by
  unfold f170
  rw [cb_01, cb_11]
  by_cases h1 : lg_cmp a b < 0
  · rw [if_pos h1, if_neg]
    rw [lg_cmp_lt] at h1
    exact fun q => absurd h1 (Int64.not_lt.mpr q.1)
  · rw [if_neg h1]
    rw [lg_cmp_lt] at h1
    have h1 := Int64.not_lt.mp h1
    by_cases h2 : 0 < lg_cmp a c
    · rw [if_pos h2, if_neg]
      rw [lg_cmp_gt] at h2
      exact fun q => absurd h2 (Int64.not_lt.mpr q.2)
    · rw [if_neg h2, if_pos]
      rw [lg_cmp_gt] at h2
      exact ⟨h1, Int64.not_lt.mp h2⟩
theorem g170t (z : Nat) {a b c : Int64} (M : aM) (h : b ≤ a ∧ a ≤ c) : f170 z a b c M = some (some (.inl 1), M) := by rw [g170, if_pos h]
theorem g170f (z : Nat) {a b c : Int64} (M : aM) (h : ¬ (b ≤ a ∧ a ≤ c)) : f170 z a b c M = some (some (.inl 0), M) := by rw [g170, if_neg h]
/-! what class and model share: tape and fault -/
def byt (x : Int32) : Prop := x.toInt8.toInt32 = x
def rTape (M : aM) : Prop := ∃ n : Nat, n ≤ 800 ∧ M.1 2 1 = nI n ∧ M.1 205 5 = nI n ∧ ∀ i, i < n → M.1 3 i = M.1 209 i ∧ byt (M.1 209 i)
def rFault (M : aM) : Prop := M.1 1 2 = M.1 205 12 ∧ M.1 1 3 = M.1 205 13
/-- end: both set the length, or neither -/
theorem c_end (z : Nat) (x : Int32) (M : aM) (h : rTape M) : ∃ (v : Int32) (M1 M2 : aM), f81 z x M = some (some (.inl v), M1) ∧ f189 z x M1 = some (some (.inl v), M2) ∧ rTape M2 ∧ (∀ a j, (a, j) ≠ (2, 1) → (a, j) ≠ (205, 5) → M2.1 a j = M.1 a j) ∧ M2.2 = M.2 := by
  obtain ⟨n, hn, h1, h2, h3⟩ := h
  by_cases hx : 0 ≤ x ∧ x ≤ nI n
  · have hx0 : ¬ x < 0 := Int32.not_lt.mpr hx.1
    obtain ⟨k, hk, rfl⟩ := nI_of hx0
    have hkn : k ≤ n := (nI_leI hk (by omega)).mp hx.2
    refine ⟨nI k, (am_u M.1 2 1 (nI k), M.2), (am_u (am_u M.1 2 1 (nI k)) 205 5 (nI k), M.2), ?_, ?_, ⟨k, by omega, ?_, ?_, ?_⟩, ?_, rfl⟩
    · unfold f81
      rw [if_neg hx0, h1, if_pos hx.2]
    · unfold f189
      have e : am_u M.1 2 1 (nI k) 205 5 = nI n := by rw [cb_u_ne (by omega)]; exact h2
      dsimp only
      rw [e, g170t z _ ⟨(cb_w0 _).mpr hx.1, (cb_wle _ _).mpr hx.2⟩, cb_bi, if_pos (by decide)]
    · dsimp only
      rw [cb_u_ne (by omega), cb_u_self]
    · dsimp only
      rw [cb_u_self]
    · intro i hi
      dsimp only
      rw [cb_u_ne (by omega), cb_u_ne (by omega), cb_u_ne (by omega), cb_u_ne (by omega)]
      exact h3 i (by omega)
    · intro a j q1 q2
      dsimp only
      rw [cb_u_ne (fun q => q2 (by rw [q.1, q.2])), cb_u_ne (fun q => q1 (by rw [q.1, q.2]))]
  · refine ⟨-1, M, M, ?_, ?_, ⟨n, hn, h1, h2, h3⟩, fun _ _ _ _ => rfl, rfl⟩
    · unfold f81
      by_cases hx0 : x < 0
      · rw [if_pos hx0]
      · rw [if_neg hx0, h1, if_neg (fun q => hx ⟨Int32.not_lt.mp hx0, q⟩)]
    · unfold f189
      rw [h2, g170f z _ (fun q => hx ⟨(cb_w0 _).mp q.1, (cb_wle _ _).mp q.2⟩), cb_bi, if_neg (by decide)]
/-! loops that count up: the function of a loop, by its steps -/
def lp_it {σ : Type} (step : Nat → σ → σ) : Nat → Nat → σ → σ
  | _, 0, s => s
  | k, m + 1, s => lp_it step (k + 1) m (step k s)
theorem lp_it_succ {σ : Type} (step : Nat → σ → σ) : ∀ (m k : Nat) (s : σ), lp_it step k (m + 1) s = step (k + m) (lp_it step k m s)
  | 0, k, s => rfl
  | m + 1, k, s => by
    show lp_it step (k + 1) (m + 1) (step k s) = _
    rw [lp_it_succ step m (k + 1) (step k s), show k + 1 + m = k + (m + 1) by omega]
    rfl
theorem lp_up {σ ρ : Type} (L : Nat → Int32 → σ → ρ) (N : Nat) (Inv : Nat → σ → Prop) (step : Nat → σ → σ) (ex : σ → ρ) (hs : ∀ (n k : Nat) (s : σ), k < N → Inv k s → L (n + 1) (nI k) s = L n (nI (k + 1)) (step k s)) (he : ∀ (n : Nat) (s : σ), Inv N s → L (n + 1) (nI N) s = ex s) (hi : ∀ (k : Nat) (s : σ), k < N → Inv k s → Inv (k + 1) (step k s)) :
    ∀ (m k n : Nat) (s : σ), k + m = N → m < n → Inv k s → L n (nI k) s = ex (lp_it step k m s)
  | 0, k, n, s, hk, hn, h => by
    obtain ⟨n, rfl⟩ : ∃ n', n = n' + 1 := ⟨n - 1, by omega⟩
    have e : k = N := by omega
    subst e
    exact he n s h
  | m + 1, k, n, s, hk, hn, h => by
    obtain ⟨n, rfl⟩ : ∃ n', n = n' + 1 := ⟨n - 1, by omega⟩
    rw [hs n k s (by omega) h]
    exact lp_up L N Inv step ex hs he hi m (k + 1) n (step k s) (by omega) (by omega) (hi k s (by omega) h)
theorem lp_inv {σ : Type} (N : Nat) (Inv : Nat → σ → Prop) (step : Nat → σ → σ) (hi : ∀ (k : Nat) (s : σ), k < N → Inv k s → Inv (k + 1) (step k s)) : ∀ (m k : Nat) (s : σ), k + m = N → Inv k s → Inv N (lp_it step k m s)
  | 0, k, s, hk, h => by
    have e : k = N := by omega
    subst e
    exact h
  | m + 1, k, s, hk, h => lp_inv N Inv step hi m (k + 1) (step k s) (by omega) (hi k s (by omega) h)
theorem lp_cong {σ : Type} (f g : Nat → σ → σ) : ∀ (m k : Nat) (s : σ), (∀ i s, k ≤ i → i < k + m → f i s = g i s) → lp_it f k m s = lp_it g k m s
  | 0, _, _, _ => rfl
  | m + 1, k, s, h => by
    show lp_it f (k + 1) m (f k s) = lp_it g (k + 1) m (g k s)
    rw [h k s (Nat.le_refl _) (by omega)]
    exact lp_cong f g m (k + 1) (g k s) (fun i s h1 h2 => h i s (by omega) (by omega))
/-- fault: nothing changes -/
theorem c_fault (z : Nat) (x : Int32) (M : aM) (h : rFault M) : ∃ v : Int32, f83 z x M = some (some (.inl v), M) ∧ f199 z x M = some (some (.inl v), M) := by
  unfold f83 f199
  rw [h.1, h.2]
  by_cases h0 : x = 0
  · exact ⟨M.1 205 12, by rw [if_neg (fun q => q h0)], by rw [if_neg (fun q => q h0)]⟩
  · by_cases h1 : x = 1
    · exact ⟨M.1 205 13, by rw [if_pos h0, if_neg (fun q => q h1)], by rw [if_pos h0, if_neg (fun q => q h1)]⟩
    · exact ⟨-1, by rw [if_pos h0, if_pos h1], by rw [if_pos h0, if_pos h1]⟩
/-! a place of the script, in range -/
theorem cs_in {L i d : Nat} (h : i + d < L) (hL : L ≤ 3072) : am_inB (nI i + nI d) L = true := by
  rw [nI_add]
  exact cb_inB h (by omega)
theorem cs_1 : (1 : Int32) = nI 1 := rfl
theorem cs_6 : (6 : Int32) = nI 6 := rfl
/-- the law's case 'end' -/
theorem L_end (z L : Nat) (xs : Nat → Int32) (k18 : Int32 → aM → Option aR) (n i : Nat) (M : aM) (hi : i + 6 ≤ L) (hL : L ≤ 3072) (h : rTape M) : ∃ M2 : aM, f345_403 z L xs k18 (n + 1) (nI i) M = k18 (nI (i + 6)) M2 ∧ rTape M2 ∧ (∀ a j, (a, j) ≠ (2, 1) → (a, j) ≠ (205, 5) → M2.1 a j = M.1 a j) ∧ M2.2 = M.2 := by
  obtain ⟨v, M1, M2, e1, e2, e3, e4, e5⟩ := c_end z (xs (nI i + 1).toNatClampNeg) M h
  refine ⟨M2, ?_, e3, e4, e5⟩
  have hin : am_inB (nI i + 1) L = true := by rw [cs_1]; exact cs_in (by omega) hL
  rw [f345_403]
  rw [if_pos hin, e1, cb_bi, if_pos hin, e2, cb_bi, if_pos rfl, cs_6, nI_add]
