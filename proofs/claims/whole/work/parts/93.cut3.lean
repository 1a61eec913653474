/-! ===== the cut: the class ===== -/
theorem q_xorN (a b : Nat) : nI a ^^^ nI b = nI (a ^^^ b) := by
  apply Int32.toBitVec_inj.mp
  rw [Int32.toBitVec_xor]
  show BitVec.ofNat 32 a ^^^ BitVec.ofNat 32 b = BitVec.ofNat 32 (a ^^^ b)
  rw [BitVec.ofNat_xor]
theorem jt_or (X g j : Nat) : (bt (X ||| 2 ^ g) j = 1) = (j = g ∨ bt X j = 1) := by
  rw [bt_tb, bt_tb, Nat.testBit_or, Nat.testBit_two_pow]
  by_cases q : j = g
  · rw [q]; simp
  · simp [q, show ¬ g = j from fun w => q w.symm]
theorem k71 {z : Nat} {M : aM} {W : cW} (hW : wf W) (hC : rC M 18 W) {t : Nat} (ht : t < W 0 4) : f71 z 18 (nI t) M = some (some (.inl (nI (W 2 t))), M) := by
  have hN : W 0 4 ≤ 16 := hW.2.2.2.2.1
  have h2 : M.1 20 t = hI (W 2 t) := (hC.2.1 t ht).2.1
  have hw := hW.2.2.2.2.2.2.2.2.1 t ht
  have h3 : W 0 3 ≤ 8 := hW.2.2.2.1
  unfold f71
  simp only [Nat.reduceAdd]
  rw [if_pos (q_inB (show t < 16 by omega) (by omega)), q_cl (by omega), h2]
  by_cases e : W 2 t = 8
  · rw [e, hI_8, if_neg (show ¬ ¬ mI = -1 from fun q => q rfl)]
    rfl
  · rw [hI_n e, if_pos (show ¬ nI (W 2 t) = -1 from of_eq_false (q_eqm (by omega))), if_pos (q_inB (show t < 16 by omega) (by omega))]
theorem c_58 {z : Nat} {M : aM} {W : cW} (hW : wf W) (hC : rC M 18 W) {r t T X k : Nat} (ht : t < W 0 4) (hX : X < 512) (k16 : Nat → Nat → Nat → Int32 → Int32 → Int32 → aM → Option aR) (k26 : Nat → Nat → Nat → Int32 → Int32 → Int32 → Int32 → aM → Option aR) :
    f69_58 z k16 k26 67 18 r (nI T) (nI X) (nI k) (nI t) (nI (bt T t)) M = if ¬ bt X (jS W T t) = 1 then k26 67 18 r (nI T) (nI X) (nI k) (nI (t + 1)) M else if ¬ bt X (jG W T t) = 0 then k26 67 18 r (nI T) (nI X) (nI k) (nI (t + 1)) M else k26 67 18 r (nI T) (nI (X ||| 2 ^ jG W T t)) (nI k) (nI (t + 1)) (am_u M.1 69 (jG W T t) (nI t), M.2) := by
  have hN : W 0 4 ≤ 16 := hW.2.2.2.2.1
  have h1 : M.1 19 t = nI (W 1 t) := (hC.2.1 t ht).1
  have hw := hW.2.2.2.2.2.2.2.2.1 t ht
  have h3 : W 0 3 ≤ 8 := hW.2.2.2.1
  have hin : am_inB (nI t) 16 = true := q_inB (by omega) (by omega)
  have x1 := bt_lt X (W 1 t)
  have x2 := bt_lt X (W 2 t)
  have b0 := bt_lt T t
  unfold f69_58
  simp only [Nat.reduceAdd]
  by_cases b : bt T t = 1
  · simp only [jS, jG, if_pos b]
    rw [b, i1f, k71 hW hC ht, cb_bi, i1f, if_pos hin, q_cl (by omega), h1]
    rw [n_31, n_1, q_bt (by omega) (by omega), q_bt (by omega) (by omega), q_add, q_shl (by omega), q_orN]
    by_cases e1 : bt X (W 2 t) = 1
    · rw [e1, if_neg (show ¬ ¬ nI 1 = nI 1 from fun q => q rfl), if_neg (show ¬ ¬ 1 = 1 from fun q => q rfl)]
      by_cases e2 : bt X (W 1 t) = 0
      · rw [e2, if_neg (show ¬ ¬ nI 0 = 0 from fun q => q rfl), if_neg (show ¬ ¬ 0 = 0 from fun q => q rfl), if_pos (q_inB (show W 1 t < 9 by omega) (by omega)), q_cl (by omega)]
      · rw [if_pos e2, if_pos (show ¬ nI (bt X (W 1 t)) = 0 from nI_ne0 (by omega) (by omega))]
    · rw [if_pos e1, if_pos (show ¬ nI (bt X (W 2 t)) = nI 1 by rw [q_eq (by omega) (by omega)]; exact e1)]
  · have b' : bt T t = 0 := by omega
    simp only [jS, jG, if_neg b]
    rw [b', i0f, if_pos hin, i0f, k71 hW hC ht, cb_bi, q_cl (by omega), h1]
    rw [n_31, n_1, q_bt (by omega) (by omega), q_bt (by omega) (by omega), q_add, q_shl (by omega), q_orN]
    by_cases e1 : bt X (W 1 t) = 1
    · rw [e1, if_neg (show ¬ ¬ nI 1 = nI 1 from fun q => q rfl), if_neg (show ¬ ¬ 1 = 1 from fun q => q rfl)]
      by_cases e2 : bt X (W 2 t) = 0
      · rw [e2, if_neg (show ¬ ¬ nI 0 = 0 from fun q => q rfl), if_neg (show ¬ ¬ 0 = 0 from fun q => q rfl), if_pos (q_inB (show W 2 t < 9 by omega) (by omega)), q_cl (by omega)]
      · rw [if_pos e2, if_pos (show ¬ nI (bt X (W 2 t)) = 0 from nI_ne0 (by omega) (by omega))]
    · rw [if_pos e1, if_pos (show ¬ nI (bt X (W 1 t)) = nI 1 by rw [q_eq (by omega) (by omega)]; exact e1)]
def cR (M : aM) (w : Nat → Nat) : Prop := ∀ j, j < 9 → M.1 69 j = if w j < 16 then nI (w j) else mI
def xB (X : Nat) (w : Nat → Nat) : Prop := X < 512 ∧ ∀ j, j < 9 → (bt X j = 1) = (w j ≠ 17)
theorem c_jpass {z : Nat} (hz : 2000 ≤ z) {M : aM} {W : cW} (hW : wf W) (hC : rC M 18 W) {s : Nat → Nat} {r T X k : Nat} {w : Nat → Nat} (hr : r < 67) (hs : ∀ t, t < W 0 4 → M.1 r t = nI (s t)) (hb : ∀ t, s t ≤ 1000) (hT : T < 65536) (hR : cR M w) (hX : xB X w) (K : Nat → Nat → Nat → Int32 → Int32 → Int32 → aM → Option aR) : ∃ M' X', f69_26 z K z 67 18 r (nI T) (nI X) (nI k) (nI 0) M = K 67 18 r (nI T) (nI X') (nI (k + 1)) M' ∧ Fx (fun a => a = 69) M M' ∧ cR M' (jpa W s T false w) ∧ xB X' (jpa W s T false w) := by
  have hN : W 0 4 ≤ 16 := hW.2.2.2.2.1
  obtain ⟨n, p, e, h1, h2, h3⟩ := lr0 (fun n t (p : aM × Nat) => f69_26 z K n 67 18 r (nI T) (nI p.2) (nI k) (nI t) p.1) (W 0 4) (fun t p => Fx (fun a => a = 69) M p.1 ∧ cR p.1 (fo (jst W s T false) w t) ∧ xB p.2 (fo (jst W s T false) w t)) z (M, X) (by omega) ⟨Fx.id0, hR, hX⟩ (by
    intro n t p ht hI
    obtain ⟨i1, i2, i3⟩ := hI
    obtain ⟨N, Y⟩ := p
    simp only at i1 i2 i3
    have hC' : rC N 18 W := hC.fx i1 (fun a q => by omega)
    have hst : N.1 r t = nI (s t) := by rw [i1.2 r (by omega)]; exact hs t ht
    have hbt := hb t
    have g9 := jG9 hW (T := T) ht
    have bT := bt_lt T t
    rw [fo_s]
    generalize fo (jst W s T false) w t = u at *
    have e1 := i3.2 _ g9.2.1
    have e2 := i3.2 _ g9.1
    have y2 := bt_lt Y (jG W T t)
    have hun : f69_26 z K (n + 1) 67 18 r (nI T) (nI Y) (nI k) (nI t) N = if s t = 0 then f69_26 z K n 67 18 r (nI T) (nI Y) (nI k) (nI (t + 1)) N else f69_58 z K (f69_26 z K n) 67 18 r (nI T) (nI Y) (nI k) (nI t) (nI (bt T t)) N := by
      rw [f69_26, hC'.i5, if_neg (show ¬ nI (W 0 4) ≤ nI t by rw [q_le (by omega) (by omega)]; omega), if_pos (q_inB (show t < 16 by omega) (by omega)), q_cl (by omega), hst, n_31, n_1, q_bt (by omega) (by omega), q_add]
      by_cases s0 : s t = 0
      · rw [if_pos s0, if_pos (show nI (s t) ≤ 0 by rw [s0]; decide)]
      · rw [if_neg s0, if_neg (show ¬ nI (s t) ≤ 0 by rw [n_0, q_le (by omega) (by omega)]; omega)]
        by_cases b : bt T t = 1
        · rw [b, if_neg (show ¬ ¬ nI 1 = nI 1 from fun q => q rfl)]
        · have b' : bt T t = 0 := by omega
          rw [b', if_pos (show ¬ nI 0 = nI 1 by decide)]
          rfl
    by_cases s0 : s t = 0
    · refine ⟨(N, Y), ?_, i1, ?_⟩
      · show f69_26 z K (n + 1) 67 18 r (nI T) (nI Y) (nI k) (nI t) N = _
        rw [hun, if_pos s0]
      · have : jst W s T false u t = u := by unfold jst; rw [if_neg (by omega)]
        rw [this]
        exact ⟨i2, i3⟩
    · have hun' := hun.trans ((if_neg s0).trans (c_58 hW hC' ht i3.1 K (f69_26 z K n)))
      by_cases c1 : u (jS W T t) ≠ 17
      · have d1 : bt Y (jS W T t) = 1 := by rw [e1]; exact c1
        rw [if_neg (fun q => q d1)] at hun'
        by_cases c2 : u (jG W T t) = 17
        · have d2 : bt Y (jG W T t) = 0 := by
            have : ¬ bt Y (jG W T t) = 1 := by rw [e2]; exact fun q => q c2
            omega
          rw [if_neg (fun q => q d2)] at hun'
          have eu : jst W s T false u t = up u (jG W T t) t := by
            unfold jst
            rw [if_pos ⟨by omega, c1, c2, fun q => by cases q⟩]
          rw [eu]
          refine ⟨((am_u N.1 69 (jG W T t) (nI t), N.2), Y ||| 2 ^ jG W T t), hun', Fx.w i1 rfl, fun j hj => ?_, Nat.or_lt_two_pow (n := 9) i3.1 (Nat.pow_lt_pow_right (by omega) g9.1), fun j hj => ?_⟩
          · show am_u N.1 69 (jG W T t) (nI t) 69 j = _
            rw [u_at]
            by_cases q : j = jG W T t
            · rw [if_pos q, q, up_self, if_pos (by omega)]
            · rw [if_neg q, up_ne _ q]; exact i2 j hj
          · show (bt (Y ||| 2 ^ jG W T t) j = 1) = _
            rw [jt_or]
            by_cases q : j = jG W T t
            · rw [q, up_self]
              simp
              omega
            · rw [up_ne _ q, ← i3.2 j hj]
              simp [q]
        · have d2 : ¬ bt Y (jG W T t) = 0 := by
            have : bt Y (jG W T t) = 1 := by rw [e2]; exact c2
            omega
          rw [if_pos d2] at hun'
          have eu : jst W s T false u t = u := by
            unfold jst
            rw [if_neg (fun q => c2 q.2.2.1)]
          rw [eu]
          exact ⟨(N, Y), hun', i1, i2, i3⟩
      · have d1 : ¬ bt Y (jS W T t) = 1 := by rw [e1]; exact c1
        rw [if_pos d1] at hun'
        have eu : jst W s T false u t = u := by
          unfold jst
          rw [if_neg (fun q => c1 q.2.1)]
        rw [eu]
        exact ⟨(N, Y), hun', i1, i2, i3⟩)
  refine ⟨p.1, p.2, ?_, h1, h2, h3⟩
  have hC' : rC p.1 18 W := hC.fx h1 (fun a q => by omega)
  refine Eq.trans e ?_
  show f69_26 z K (n + 1) 67 18 r (nI T) (nI p.2) (nI k) (nI (W 0 4)) p.1 = _
  rw [f69_26, hC'.i5, if_pos (show nI (W 0 4) ≤ nI (W 0 4) by rw [q_le (by omega) (by omega)]; omega), n_1, q_add]
/-- reaches -/
theorem c_reach {z : Nat} (hz : 2000 ≤ z) {M : aM} {W : cW} (hW : wf W) (hC : rC M 18 W) {s : Nat → Nat} {r T c : Nat} (hr : r < 67) (hs : ∀ t, t < W 0 4 → M.1 r t = nI (s t)) (hb : ∀ t, s t ≤ 1000) (hT : T < 65536) (hc : c < 8) : ∃ M', f69 z 67 18 r (nI c) (nI T) M = some (some (.inl (nI (if jit W s T false (jw0 c) 9 8 = 17 then 0 else 1))), M') ∧ Fx (fun a => a = 69) M M' ∧ cR M' (jit W s T false (jw0 c) 9) := by
  obtain ⟨M0, a1, a2, a3⟩ := c_f23 hz 69 mI M
  obtain ⟨n, p, e, h1, h2, h3⟩ := lr0 (fun n k (p : aM × Nat) => f69_16 z n 67 18 r (nI T) (nI p.2) (nI k) p.1) 9 (fun k p => Fx (fun a => a = 69) M p.1 ∧ cR p.1 (jit W s T false (jw0 c) k) ∧ xB p.2 (jit W s T false (jw0 c) k)) z (M0, 2 ^ c) (by omega) ⟨a2, fun j hj => by
      show M0.1 69 j = _
      rw [a3 j hj]
      show _ = if jw0 c j < 16 then _ else _
      unfold jw0
      split <;> rfl, (show 2 ^ c < 2 ^ 9 from Nat.pow_lt_pow_right (by omega) (by omega)), fun j hj => by
      show (bt (2 ^ c) j = 1) = (jw0 c j ≠ 17)
      have := jt_or 0 c j
      rw [Nat.zero_or] at this
      rw [this]
      unfold jw0
      by_cases q : j = c
      · simp [q]
      · have b0 : ¬ bt 0 j = 1 := by rw [bt_tb]; simp
        simp [q, b0]⟩ (by
    intro n k p hk hI
    obtain ⟨i1, i2, i3⟩ := hI
    obtain ⟨N', X', b1, b2, b3, b4⟩ := c_jpass hz hW (hC.fx i1 (fun a q => by omega)) (k := k) hr (fun t ht => by rw [i1.2 r (by omega)]; exact hs t ht) hb hT i2 i3 (f69_16 z n)
    refine ⟨(N', X'), ?_, i1.trans b2, b3, b4⟩
    show f69_16 z (n + 1) 67 18 r (nI T) (nI p.2) (nI k) p.1 = _
    rw [f69_16, if_neg (show ¬ (8 : Int32) < nI k by rw [n_8, q_lt (by omega) (by omega)]; omega), n_0]
    exact b1)
  refine ⟨p.1, ?_, h1, h2⟩
  unfold f69
  rw [q_m1]
  show am_bv (f343_k23 z 69 mI M) _ = _
  rw [a1, cb_bv, n_31, n_1, q_shl (by omega), n_0]
  refine Eq.trans e ?_
  show f69_16 z (n + 1) 67 18 r (nI T) (nI p.2) (nI 9) p.1 = _
  have hp := h3.1
  have b8 := bt_lt p.2 8
  have e8 := h3.2 8 (by omega)
  rw [f69_16, if_pos (show (8 : Int32) < nI 9 by decide), n_8, n_31, n_1, q_bt (by omega) (by omega)]
  by_cases q : jit W s T false (jw0 c) 9 8 = 17
  · have d : bt p.2 8 = 0 := by
      have : ¬ bt p.2 8 = 1 := by rw [e8]; exact fun w => w q
      omega
    rw [d, if_pos (show ¬ nI 0 = nI 1 by decide), if_pos q]
    rfl
  · have d : bt p.2 8 = 1 := by rw [e8]; exact q
    rw [d, if_neg (show ¬ ¬ nI 1 = nI 1 from fun w => w rfl), if_neg q]
    rfl
/-- turned: the way back -/
theorem c_walk {z : Nat} {M : aM} {W : cW} (hW : wf W) (hC : rC M 18 W) {T c : Nat} (hc : c < 8) (hT : T < 65536) {w : Nat → Nat} : ∀ (l : List Nat) (v X k n : Nat), jO W T c w l → (∀ j, j ∈ l → j ≠ c → M.1 69 j = nI (w j)) → v ∈ l → X < 65536 → k + l.length ≤ 9 → l.length < n → f70_10 z n 67 18 (nI c) (nI T) (nI X) (nI v) (nI k) M = some (some (.inl (nI (jwk W T w l v X))), M)
  | [], _, _, _, _, h, _, _, _, _, _ => h.elim
  | j :: l, v, X, k, n, h, hM, hv, hX, hk, hn => by
    have hN : W 0 4 ≤ 16 := hW.2.2.2.2.1
    simp only [List.length_cons] at hk hn
    unfold jwk
    by_cases e : v = j
    · rw [if_pos e]
      obtain ⟨n, rfl⟩ : ∃ n', n = n' + 1 := ⟨n - 1, by omega⟩
      rw [f70_10, if_neg (show ¬ (8 : Int32) < nI k by rw [n_8, q_lt (by omega) (by omega)]; omega)]
      by_cases el : l = []
      · subst el
        rw [e, h.hd, if_pos rfl, if_pos rfl]
      · obtain ⟨h1, h2, h3, h4, h5, h6⟩ := h.tl el
        have hjc : j ≠ c := fun q => h2 (q ▸ h1.c)
        have hl := List.length_pos_iff.mpr el
        have hMj : M.1 69 j = nI (w j) := hM j List.mem_cons_self hjc
        have h19 : M.1 19 (w j) = nI (W 1 (w j)) := (hC.2.1 _ h4).1
        have bT := bt_lt T (w j)
        have ih := c_walk (z := z) hW hC hc hT l (jS W T (w j)) (X ^^^ 2 ^ (w j)) (k + 1) n h1 (fun i hi => hM i (List.mem_cons_of_mem _ hi)) h6 (Nat.xor_lt_two_pow (n := 16) hX (Nat.pow_lt_pow_right (by omega) (by omega))) (by omega) (by omega)
        rw [if_neg el, e, if_neg (show ¬ nI j = nI c by rw [q_eq (by omega) (by omega)]; exact hjc), if_pos (q_inB (show j < 9 by omega) (by omega)), q_cl (by omega)]
        simp only [Nat.reduceAdd]
        rw [hMj, if_pos (show 0 ≤ nI (w j) by rw [n_0, q_le (by omega) (by omega)]; omega), n_31, n_1, q_bt (by omega) (by omega), q_shl (by omega), q_xorN, q_add]
        unfold jS at ih ⊢
        by_cases b : bt T (w j) = 1
        · rw [if_pos b] at ih ⊢
          rw [b, if_neg (show ¬ ¬ nI 1 = nI 1 from fun w => w rfl), if_neg (show ¬ nI 1 = 0 by decide), k71 hW hC h4, cb_bi]
          exact ih
        · rw [if_neg b] at ih ⊢
          have b' : bt T (w j) = 0 := by omega
          rw [b', if_pos (show ¬ nI 0 = nI 1 by decide), if_pos trivial, if_pos (q_inB (show w j < 16 by omega) (by omega)), q_cl (by omega), h19]
          exact ih
    · rw [if_neg e]
      have hv' : v ∈ l := by
        rcases List.mem_cons.mp hv with q | q
        · exact absurd q e
        · exact q
      have el : l ≠ [] := fun q => by rw [q] at hv'; cases hv'
      exact c_walk hW hC hc hT l v X k n (h.tl el).1 (fun i hi => hM i (List.mem_cons_of_mem _ hi)) hv' hX (by omega) (by omega)
