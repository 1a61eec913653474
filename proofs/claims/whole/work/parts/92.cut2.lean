/-! ===== the cut: how the search ends ===== -/
theorem jfo_I {W : cW} (hW : wf W) {s : Nat → Nat} {T c : Nat} {b : Bool} {w : Nat → Nat} {l : List Nat} (h : jI W T c w l) : ∀ n, n ≤ W 0 4 → ∃ l', jI W T c (fo (jst W s T b) w n) l' ∧ ((fo (jst W s T b) w n = w ∧ l' = l) ∨ l.length < l'.length)
  | 0, _ => ⟨l, h, .inl ⟨rfl, rfl⟩⟩
  | n + 1, hn => by
    obtain ⟨l', h1, h2⟩ := jfo_I hW (s := s) (b := b) h n (by omega)
    rw [fo_s]
    rcases jst_I hW (s := s) (b := b) (t := n) (by omega) h1 with e | ⟨e, e'⟩
    · rw [e]; exact ⟨l', h1, h2⟩
    · refine ⟨_, e', .inr ?_⟩
      rcases h2 with ⟨_, q⟩ | q
      · rw [q]; simp
      · simp only [List.length_cons]; omega
theorem jpa_I {W : cW} (hW : wf W) {s : Nat → Nat} {T c : Nat} {b : Bool} {w : Nat → Nat} {l : List Nat} (h : jI W T c w l) : ∃ l', jI W T c (jpa W s T b w) l' ∧ ((jpa W s T b w = w ∧ l' = l) ∨ l.length < l'.length) := jfo_I hW h _ (Nat.le_refl _)
theorem jit_I {W : cW} (hW : wf W) {s : Nat → Nat} {T c : Nat} {b : Bool} (hc : c < 8) : ∀ k, ∃ l, jI W T c (jit W s T b (jw0 c) k) l
  | 0 => ⟨[c], jI_0 hc⟩
  | k + 1 => by
    obtain ⟨l, h⟩ := jit_I hW (s := s) (T := T) (b := b) hc k
    obtain ⟨l', h', _⟩ := jpa_I hW (s := s) (b := b) h
    exact ⟨l', h'⟩
def jEn (W : cW) (s : Nat → Nat) (T c K : Nat) : Prop := 1 ≤ K ∧ K ≤ 9 ∧ (∀ k, k < K → jit W s T true (jw0 c) k 8 = 17) ∧ (∀ k, k + 1 < K → jit W s T true (jw0 c) (k + 1) ≠ jit W s T true (jw0 c) k) ∧ (jit W s T true (jw0 c) K 8 ≠ 17 ∨ jit W s T true (jw0 c) K = jit W s T true (jw0 c) (K - 1))
theorem jend {W : cW} (hW : wf W) {s : Nat → Nat} {T c : Nat} (hc : c < 8) : ∃ K, jEn W s T c K := by
  have aux : ∀ k, k ≤ 9 → (∃ K, jEn W s T c K) ∨ ((∀ i, i ≤ k → jit W s T true (jw0 c) i 8 = 17) ∧ (∀ i, i < k → jit W s T true (jw0 c) (i + 1) ≠ jit W s T true (jw0 c) i) ∧ ∃ l, jI W T c (jit W s T true (jw0 c) k) l ∧ k < l.length) := by
    intro k
    induction k with
    | zero =>
      intro _
      refine .inr ⟨fun i hi => ?_, fun i hi => by omega, [c], jI_0 hc, by simp⟩
      have : i = 0 := by omega
      subst this
      show jw0 c 8 = 17
      unfold jw0
      rw [if_neg (by omega)]
    | succ k ih =>
      intro hk
      rcases ih (by omega) with q | ⟨q1, q2, l, q3, q4⟩
      · exact .inl q
      · by_cases e8 : jit W s T true (jw0 c) (k + 1) 8 = 17
        · by_cases e : jit W s T true (jw0 c) (k + 1) = jit W s T true (jw0 c) k
          · exact .inl ⟨k + 1, by omega, hk, fun i hi => q1 i (by omega), fun i hi => q2 i (by omega), .inr e⟩
          · refine .inr ⟨fun i hi => ?_, fun i hi => ?_, ?_⟩
            · by_cases ei : i = k + 1
              · rw [ei]; exact e8
              · exact q1 i (by omega)
            · by_cases ei : i = k
              · rw [ei]; exact e
              · exact q2 i (by omega)
            · obtain ⟨l', a1, a2⟩ := jpa_I hW (s := s) (b := true) q3
              refine ⟨l', a1, ?_⟩
              rcases a2 with ⟨a2, _⟩ | a2
              · exact absurd a2 e
              · omega
        · exact .inl ⟨k + 1, by omega, hk, fun i hi => q1 i (by omega), fun i hi => q2 i (by omega), .inl e8⟩
  rcases aux 9 (Nat.le_refl _) with q | ⟨_, _, l, q1, q2⟩
  · exact q
  · have := q1.1.len
    omega
theorem jit_fix {W : cW} {s : Nat → Nat} {T : Nat} {b : Bool} {w : Nat → Nat} {k : Nat} (h : jit W s T b w (k + 1) = jit W s T b w k) : ∀ n, jit W s T b w (k + n) = jit W s T b w k
  | 0 => rfl
  | n + 1 => by
    show jpa W s T b (jit W s T b w (k + n)) = _
    rw [jit_fix h n]
    exact h
theorem jres {W : cW} (hW : wf W) {s : Nat → Nat} {T c K : Nat} (hc : c < 8) (h : jEn W s T c K) :
    (jit W s T true (jw0 c) K 8 = 17 ∧ jit W s T false (jw0 c) 9 8 = 17) ∨ (jit W s T true (jw0 c) K 8 ≠ 17 ∧ jit W s T false (jw0 c) 9 8 ≠ 17 ∧ ∃ l w, jO W T c w l ∧ 8 ∈ l ∧ (∀ j, j ∈ l → jit W s T true (jw0 c) K j = w j) ∧ ∀ j, j ∈ l → jit W s T false (jw0 c) 9 j = w j) := by
  obtain ⟨h1, h2, h3, h4, h5⟩ := h
  obtain ⟨k, rfl⟩ : ∃ k, K = k + 1 := ⟨K - 1, by omega⟩
  have e0 := jit_q k (h3 k (by omega))
  by_cases e8 : jit W s T true (jw0 c) (k + 1) 8 = 17
  · left
    refine ⟨e8, ?_⟩
    have e1 := jit_q (k + 1) e8
    rcases h5 with q | q
    · exact absurd e8 q
    · rw [Nat.add_sub_cancel, e0, e1] at q
      have := jit_fix q (9 - k)
      rw [show k + (9 - k) = 9 by omega] at this
      rw [this, ← e0]
      exact h3 k (by omega)
  · right
    have hex : ∀ n, fo (jst W s T true) (jit W s T true (jw0 c) k) n 8 ≠ 17 → ∃ m, m < n ∧ fo (jst W s T true) (jit W s T true (jw0 c) k) m 8 = 17 ∧ fo (jst W s T true) (jit W s T true (jw0 c) k) (m + 1) 8 ≠ 17 := by
      intro n
      induction n with
      | zero => intro q; exact absurd (h3 k (by omega)) q
      | succ n ih =>
        intro q
        by_cases e : fo (jst W s T true) (jit W s T true (jw0 c) k) n 8 = 17
        · exact ⟨n, by omega, e, q⟩
        · obtain ⟨m, m1, m2⟩ := ih e
          exact ⟨m, by omega, m2⟩
    obtain ⟨m, m1, m2, m3⟩ := hex (W 0 4) e8
    have ew : fo (jst W s T true) (jit W s T true (jw0 c) k) (m + 1) = fo (jst W s T false) (jit W s T false (jw0 c) k) (m + 1) := by
      rw [fo_s, fo_s, jst_q m2, jfo_q m m2, e0]
    obtain ⟨l0, i0⟩ := jit_I hW (s := s) (T := T) (b := true) hc k
    obtain ⟨l, i1, _⟩ := jfo_I hW (s := s) (b := true) i0 (m + 1) (by omega)
    have x1 : jE (fo (jst W s T true) (jit W s T true (jw0 c) k) (m + 1)) (jit W s T true (jw0 c) (k + 1)) := by
      have := jfo_E W s T true (jit W s T true (jw0 c) k) (m + 1) (W 0 4 - (m + 1))
      rw [show m + 1 + (W 0 4 - (m + 1)) = W 0 4 by omega] at this
      exact this
    have x2 : jE (fo (jst W s T true) (jit W s T true (jw0 c) k) (m + 1)) (jit W s T false (jw0 c) 9) := by
      have := jfo_E W s T false (jit W s T false (jw0 c) k) (m + 1) (W 0 4 - (m + 1))
      rw [show m + 1 + (W 0 4 - (m + 1)) = W 0 4 by omega, ← ew] at this
      have y := jit_E W s T false (jw0 c) (k + 1) (9 - (k + 1))
      rw [show k + 1 + (9 - (k + 1)) = 9 by omega] at y
      exact this.trans y
    have hl : ∀ j, j ∈ l → fo (jst W s T true) (jit W s T true (jw0 c) k) (m + 1) j ≠ 17 := fun j hj => (i1.2 j (i1.1.b j hj).1).mpr hj
    refine ⟨e8, ?_, l, fo (jst W s T true) (jit W s T true (jw0 c) k) (m + 1), i1.1, (i1.2 8 (by omega)).mp m3, fun j hj => x1 j (hl j hj), fun j hj => x2 j (hl j hj)⟩
    rw [x2 8 m3]
    exact m3
/-! the way back -/
def jwk (W : cW) (T : Nat) (w : Nat → Nat) : List Nat → Nat → Nat → Nat
  | [], _, X => X
  | j :: l, v, X => if v = j then (if l = [] then X else jwk W T w l (jS W T (w j)) (X ^^^ 2 ^ (w j))) else jwk W T w l v X
theorem jO.c {W : cW} {T c : Nat} {w : Nat → Nat} : ∀ {l : List Nat}, jO W T c w l → c ∈ l
  | [], h => h.elim
  | i :: l, h => by
    rcases h with ⟨_, h2, _⟩ | ⟨h1, _⟩
    · rw [h2]; exact List.mem_cons_self
    · exact List.mem_cons_of_mem _ (jO.c h1)
theorem jO.ne {W : cW} {T c : Nat} {w : Nat → Nat} (h : jO W T c w []) : False := h
theorem jO.tl {W : cW} {T c j : Nat} {w : Nat → Nat} {l : List Nat} (h : jO W T c w (j :: l)) (hl : l ≠ []) : jO W T c w l ∧ j ∉ l ∧ j < 9 ∧ w j < W 0 4 ∧ jG W T (w j) = j ∧ jS W T (w j) ∈ l := by
  rcases h with ⟨h1, _⟩ | h
  · exact absurd h1 hl
  · exact h
theorem jO.hd {W : cW} {T c j : Nat} {w : Nat → Nat} (h : jO W T c w [j]) : j = c := by
  rcases h with ⟨_, h1, _⟩ | ⟨h1, _⟩
  · exact h1
  · exact h1.elim
/-! what goes out of the claim and what comes in -/
def jP (W : cW) (c X : Nat) : Nat := sm (fun t => if bt X t = 1 ∧ W 1 t = c then 1 else 0) (W 0 4)
def jQ (W : cW) (c X : Nat) : Nat := sm (fun t => if bt X t = 1 ∧ W 2 t = c then 1 else 0) (W 0 4)
theorem jP_le (W : cW) (c X : Nat) : jP W c X ≤ W 0 4 := by
  have := sm_le2 (f := fun t => if bt X t = 1 ∧ W 1 t = c then 1 else 0) (B := 1) (fun k => by show (if bt X k = 1 ∧ W 1 k = c then 1 else 0) ≤ 1; split <;> omega) (W 0 4)
  unfold jP
  omega
theorem bt_xor (X t j : Nat) : (bt (X ^^^ 2 ^ t) j = 1) = if j = t then ¬ bt X j = 1 else bt X j = 1 := by
  rw [bt_tb, bt_tb, Nat.testBit_xor, Nat.testBit_two_pow]
  by_cases q : j = t
  · rw [q]; simp
  · rw [if_neg q]
    simp [show ¬ t = j from fun w => q w.symm]
theorem jflip {W : cW} {X t : Nat} (i c : Nat) (ht : t < W 0 4) : sm (fun u => if bt (X ^^^ 2 ^ t) u = 1 ∧ W i u = c then 1 else 0) (W 0 4) + (if bt X t = 1 ∧ W i t = c then 1 else 0) = sm (fun u => if bt X u = 1 ∧ W i u = c then 1 else 0) (W 0 4) + (if ¬ bt X t = 1 ∧ W i t = c then 1 else 0) := by
  have e : (fun u => if bt (X ^^^ 2 ^ t) u = 1 ∧ W i u = c then 1 else 0) = up (fun u => if bt X u = 1 ∧ W i u = c then 1 else 0) t (if ¬ bt X t = 1 ∧ W i t = c then 1 else 0) := by
    funext u
    unfold up
    have e := bt_xor X t u
    by_cases q : u = t
    · rw [if_pos q] at e
      rw [if_pos q]
      simp only [e]
      rw [q]
    · rw [if_neg q] at e
      rw [if_neg q]
      simp only [e]
  rw [e]
  exact sm_up _ t _ _ ht
theorem jnet1 {W : cW} (hW : wf W) {T X t c : Nat} (ht : t < W 0 4) (hx : (bt X t = 1) = (bt T t = 1)) (hg : jG W T t ≠ c) : jP W c (X ^^^ 2 ^ t) + jQ W c X = jP W c X + jQ W c (X ^^^ 2 ^ t) + (if jS W T t = c then 1 else 0) := by
  have h := hW.2.2.2.2.2.2.2.2.1 t ht
  have p := jflip (W := W) (X := X) 1 c ht
  have q := jflip (W := W) (X := X) 2 c ht
  unfold jP jQ
  unfold jG at hg
  unfold jS
  by_cases b : bt T t = 1
  · have bx : bt X t = 1 := by rw [hx]; exact b
    rw [if_pos b] at hg
    simp only [bx, true_and, not_true_eq_false, false_and, if_false] at p q
    rw [if_neg hg] at p
    rw [if_pos b]
    omega
  · have bx : ¬ bt X t = 1 := by rw [hx]; exact b
    rw [if_neg b] at hg
    simp only [bx, false_and, if_false, not_false_eq_true, true_and] at p q
    rw [if_neg hg] at q
    rw [if_neg b]
    omega
theorem jnet {W : cW} (hW : wf W) {T c : Nat} {w : Nat → Nat} : ∀ (l : List Nat) (v X : Nat), jO W T c w l → v ∈ l → (∀ t, t < W 0 4 → jG W T t ∈ l → (bt X t = 1) = (bt T t = 1)) → jP W c (jwk W T w l v X) + jQ W c X = jP W c X + jQ W c (jwk W T w l v X) + (if v = c then 0 else 1)
  | [], _, _, h, _, _ => h.elim
  | j :: l, v, X, h, hv, hX => by
    unfold jwk
    by_cases e : v = j
    · rw [if_pos e]
      by_cases el : l = []
      · subst el
        rw [if_pos rfl, e, if_pos h.hd]
        omega
      · rw [if_neg el]
        obtain ⟨h1, h2, h3, h4, h5, h6⟩ := h.tl el
        have hjc : j ≠ c := fun q => h2 (q ▸ h1.c)
        have hx := hX (w j) h4 (by rw [h5]; exact List.mem_cons_self)
        have n1 := jnet1 hW (c := c) h4 hx (by rw [h5]; exact hjc)
        have n2 := jnet hW l (jS W T (w j)) (X ^^^ 2 ^ (w j)) h1 h6 (fun t ht hg => by
          have hne : t ≠ w j := fun q => h2 (by rw [← h5, ← q]; exact hg)
          rw [bt_xor, if_neg hne]
          exact hX t ht (List.mem_cons_of_mem _ hg))
        rw [if_neg (show ¬ v = c by rw [e]; exact hjc)]
        by_cases q : jS W T (w j) = c
        · rw [if_pos q] at n1 n2; omega
        · rw [if_neg q] at n1 n2; omega
    · rw [if_neg e]
      have hv' : v ∈ l := by
        rcases List.mem_cons.mp hv with q | q
        · exact absurd q e
        · exact q
      have el : l ≠ [] := fun q => by rw [q] at hv'; cases hv'
      obtain ⟨h1, _⟩ := h.tl el
      exact jnet hW l v X h1 hv' (fun t ht hg => hX t ht (List.mem_cons_of_mem _ hg))
/-- each way back carries one more -/
theorem jnet0 {W : cW} (hW : wf W) {T c : Nat} {w : Nat → Nat} {l : List Nat} (hc : c < 8) (h : jO W T c w l) (h8 : 8 ∈ l) : jP W c (jwk W T w l 8 T) + jQ W c T = jP W c T + jQ W c (jwk W T w l 8 T) + 1 := by
  have := jnet hW l 8 T h h8 (fun _ _ _ => rfl)
  rw [if_neg (show ¬ 8 = c by omega)] at this
  exact this
theorem jwk_lt {W : cW} (hW : wf W) {T c : Nat} {w : Nat → Nat} : ∀ (l : List Nat) (v X : Nat), jO W T c w l → v ∈ l → X < 65536 → jwk W T w l v X < 65536
  | [], _, _, h, _, _ => h.elim
  | j :: l, v, X, h, hv, hX => by
    have hN : W 0 4 ≤ 16 := hW.2.2.2.2.1
    unfold jwk
    by_cases e : v = j
    · rw [if_pos e]
      by_cases el : l = []
      · rw [if_pos el]; exact hX
      · rw [if_neg el]
        obtain ⟨h1, h2, h3, h4, h5, h6⟩ := h.tl el
        exact jwk_lt hW l _ _ h1 h6 (Nat.xor_lt_two_pow (n := 16) hX (Nat.pow_lt_pow_right (by omega) (by omega)))
    · rw [if_neg e]
      have hv' : v ∈ l := by
        rcases List.mem_cons.mp hv with q | q
        · exact absurd q e
        · exact q
      have el : l ≠ [] := fun q => by rw [q] at hv'; cases hv'
      exact jwk_lt hW l v X (h.tl el).1 hv' hX
