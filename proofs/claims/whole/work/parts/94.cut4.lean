/-! ===== the cut: the model ===== -/
def mR (M : aM) (w : Nat → Nat) : Prop := ∀ j, j < 9 → M.1 225 j = if w j = 17 then mI else nI (w j)
theorem m_131 {z : Nat} {M : aM} {W : cW} (hW : wf W) (h : rM (M.1 206) W) {t T : Nat} (ht : t < W 0 4) (x1 x2 x3 : Int32) (k31 : Int32 → Int32 → Int32 → aM → Option aR) (k51 : Int32 → Int32 → Int32 → Int32 → aM → Option aR) :
    f277_131 z k31 k51 x1 x2 x3 (nI t) (nI (W 2 t)) (nI (bt T t)) (nI (jS W T t)) M = if M.1 225 (jS W T t) = -1 then k51 x1 x2 x3 (nI (t + 1)) M else if ¬ M.1 225 (jG W T t) = -1 then k51 x1 x2 x3 (nI (t + 1)) M else if ¬ jS W T t = 8 then k51 x1 x2 1 (nI (t + 1)) (am_u M.1 225 (jG W T t) (nI t), M.2) else k51 x1 x2 x3 (nI (t + 1)) M := by
  have hN : W 0 4 ≤ 16 := hW.2.2.2.2.1
  have g9 := jG9 hW (T := T) ht
  have hw := hW.2.2.2.2.2.2.2.2.1 t ht
  have h3 : W 0 3 ≤ 8 := hW.2.2.2.1
  have b0 := bt_lt T t
  have e8 : (¬ nI (jS W T t) = (8 : Int32)) = ¬ jS W T t = 8 := by rw [n_8, q_eq (by omega) (by omega)]
  have en : nI t + (1 : Int32) = nI (t + 1) := by rw [n_1, q_add]
  unfold f277_131
  by_cases b : bt T t = 1
  · have eG : jG W T t = W 1 t := if_pos b
    rw [b, i1f, g185 h hW ht, cb_bi, if_pos (q_inB g9.2.1 (by omega)), if_pos (q_inB (show W 1 t < 9 by omega) (by omega)), if_pos (q_inB (show W 1 t < 9 by omega) (by omega)), q_cl (by omega), q_cl (by omega), en, eG]
    simp only [e8]
  · have b' : bt T t = 0 := by omega
    have eG : jG W T t = W 2 t := if_neg b
    rw [b', i0f, if_pos (q_inB g9.2.1 (by omega)), if_pos (q_inB (show W 2 t < 9 by omega) (by omega)), if_pos (q_inB (show W 2 t < 9 by omega) (by omega)), q_cl (by omega), q_cl (by omega), en, eG]
    simp only [e8]
theorem m_51 {z : Nat} {M : aM} {W : cW} (hW : wf W) (h : rM (M.1 206) W) {s : Nat → Nat} {t T n : Nat} (ht : t < W 0 4) (hT : T < 65536) (h36 : M.1 205 36 = nI T) (x1 x3 : Int32) (k31 : Int32 → Int32 → Int32 → aM → Option aR) :
    f277_51 z k31 (n + 1) x1 (nI (bN (sw s) (W 0 4))) x3 (nI t) M = if s t = 0 then f277_51 z k31 n x1 (nI (bN (sw s) (W 0 4))) x3 (nI (t + 1)) M else f277_131 z k31 (f277_51 z k31 n) x1 (nI (bN (sw s) (W 0 4))) x3 (nI t) (nI (W 2 t)) (nI (bt T t)) (nI (jS W T t)) M := by
  have hN : W 0 4 ≤ 16 := hW.2.2.2.2.1
  have hw := hW.2.2.2.2.2.2.2.2.1 t ht
  have h3 : W 0 3 ≤ 8 := hW.2.2.2.1
  have hB := bN_lt16 (sw s) hN
  have b0 := bt_lt T t
  have x0 := bt_lt (bN (sw s) (W 0 4)) t
  have hsw := bt_bN (sw s) ht
  rw [f277_51, g178 h, cb_bi, if_neg (show ¬ nI (W 0 4) ≤ nI t by rw [q_le (by omega) (by omega)]; omega), g172 z M (by omega) (by omega), cb_bi]
  by_cases s0 : s t = 0
  · have e0 : bt (bN (sw s) (W 0 4)) t = 0 := by
      have : ¬ bt (bN (sw s) (W 0 4)) t = 1 := by rw [hsw]; simp [sw, s0]
      omega
    rw [e0, i0n, if_pos s0, n_1, q_add]
  · have e0 : bt (bN (sw s) (W 0 4)) t = 1 := by rw [hsw]; simp [sw]; omega
    rw [e0, i1n, if_neg s0, g186 h hW ht, cb_bi]
    by_cases e8 : W 2 t = 8
    · rw [e8, hI_8, if_neg (show ¬ ¬ mI = -1 from fun q => q rfl), h36, g172 z M (by omega) (by omega), cb_bi]
      by_cases b : bt T t = 1
      · have eS : jS W T t = 8 := by unfold jS; rw [if_pos b, e8]
        rw [b, if_neg (show ¬ ¬ nI 1 = 1 from fun q => q rfl), if_neg (show ¬ (1 : Int32) = 0 by decide), eS]
        rfl
      · have b' : bt T t = 0 := by omega
        have eS : jS W T t = W 1 t := by unfold jS; rw [if_neg b]
        rw [b', if_pos (show ¬ nI 0 = 1 by decide), if_pos (show (0 : Int32) = 0 from rfl), g185 h hW ht, cb_bi, eS]
        rfl
    · rw [hI_n e8, if_pos (show ¬ nI (W 2 t) = -1 from of_eq_false (q_eqm (by omega))), g186 h hW ht, hI_n e8, cb_bi, h36, g172 z M (by omega) (by omega), cb_bi]
      by_cases b : bt T t = 1
      · have eS : jS W T t = W 2 t := by unfold jS; rw [if_pos b]
        rw [b, if_neg (show ¬ ¬ nI 1 = 1 from fun q => q rfl), if_neg (show ¬ (1 : Int32) = 0 by decide), eS]
        rfl
      · have b' : bt T t = 0 := by omega
        have eS : jS W T t = W 1 t := by unfold jS; rw [if_neg b]
        rw [b', if_pos (show ¬ nI 0 = 1 by decide), if_pos (show (0 : Int32) = 0 from rfl), g185 h hW ht, cb_bi, eS]
        rfl
theorem m_jpass {z : Nat} (hz : 2000 ≤ z) {M : aM} {W : cW} (hW : wf W) (h : rM (M.1 206) W) {s : Nat → Nat} {T : Nat} {w : Nat → Nat} (hT : T < 65536) (h36 : M.1 205 36 = nI T) (hR : mR M w) (hw : ∀ j, j < 9 → w j ≤ 17) (x1 : Int32) (K : Int32 → Int32 → Int32 → aM → Option aR) : ∃ M' f, f277_51 z K z x1 (nI (bN (sw s) (W 0 4))) (nI 0) (nI 0) M = K x1 (nI (bN (sw s) (W 0 4))) (nI f) M' ∧ Fx (fun a => a = 225) M M' ∧ mR M' (jpa W s T true w) ∧ ((f = 0 ∧ jpa W s T true w = w) ∨ (f = 1 ∧ jpa W s T true w ≠ w)) ∧ ∀ j, j < 9 → jpa W s T true w j ≤ 17 := by
  have hN : W 0 4 ≤ 16 := hW.2.2.2.2.1
  obtain ⟨n, p, e, h1, h2, h3, h4⟩ := lr0 (fun n t (p : aM × Nat) => f277_51 z K n x1 (nI (bN (sw s) (W 0 4))) (nI p.2) (nI t) p.1) (W 0 4) (fun t p => Fx (fun a => a = 225) M p.1 ∧ mR p.1 (fo (jst W s T true) w t) ∧ ((p.2 = 0 ∧ fo (jst W s T true) w t = w) ∨ (p.2 = 1 ∧ fo (jst W s T true) w t ≠ w)) ∧ ∀ j, j < 9 → fo (jst W s T true) w t j ≤ 17) z (M, 0) (by omega) ⟨Fx.id0, hR, .inl ⟨rfl, rfl⟩, hw⟩ (by
    intro n t p ht hI
    obtain ⟨i1, i2, i3, i4⟩ := hI
    obtain ⟨N, f⟩ := p
    simp only at i1 i2 i3 i4
    have hr : rM (N.1 206) W := by rw [i1.2 206 (by omega)]; exact h
    have n36 : N.1 205 36 = nI T := by rw [i1.2 205 (by omega)]; exact h36
    have g9 := jG9 hW (T := T) ht
    have hE : jE w (fo (jst W s T true) w t) := by
      have := jfo_E W s T true w 0 t
      rw [Nat.zero_add] at this
      exact this
    rw [fo_s]
    generalize fo (jst W s T true) w t = u at *
    have hun := m_51 (z := z) (n := n) (s := s) hW hr ht hT n36 x1 (nI f) K
    by_cases s0 : s t = 0
    · rw [if_pos s0] at hun
      have : jst W s T true u t = u := by unfold jst; rw [if_neg (by omega)]
      rw [this]
      exact ⟨(N, f), hun, i1, i2, i3, i4⟩
    · rw [if_neg s0, m_131 hW hr ht] at hun
      have e1 := i2 _ g9.2.1
      have e2 := i2 _ g9.1
      have b1 := i4 _ g9.2.1
      have b2 := i4 _ g9.1
      by_cases c1 : u (jS W T t) = 17
      · rw [if_pos c1] at e1
        rw [e1, if_pos (show mI = -1 from rfl)] at hun
        have eu : jst W s T true u t = u := by
          unfold jst
          rw [if_neg (fun q => q.2.1 c1)]
        rw [eu]
        exact ⟨(N, f), hun, i1, i2, i3, i4⟩
      · rw [if_neg c1] at e1
        rw [e1, if_neg (show ¬ nI (u (jS W T t)) = -1 from of_eq_false (q_eqm (by omega)))] at hun
        by_cases c2 : u (jG W T t) = 17
        · rw [if_pos c2] at e2
          rw [e2, if_neg (show ¬ ¬ mI = -1 from fun q => q rfl)] at hun
          by_cases c3 : jS W T t = 8
          · rw [if_neg (fun q => q c3)] at hun
            have eu : jst W s T true u t = u := by
              unfold jst
              rw [if_neg (fun q => q.2.2.2 rfl c3)]
            rw [eu]
            exact ⟨(N, f), hun, i1, i2, i3, i4⟩
          · rw [if_pos c3] at hun
            have eu : jst W s T true u t = up u (jG W T t) t := by
              unfold jst
              rw [if_pos ⟨by omega, c1, c2, fun _ => c3⟩]
            rw [eu]
            refine ⟨((am_u N.1 225 (jG W T t) (nI t), N.2), 1), hun, Fx.w i1 rfl, fun j hj => ?_, .inr ⟨rfl, fun q => ?_⟩, fun j hj => ?_⟩
            · show am_u N.1 225 (jG W T t) (nI t) 225 j = _
              rw [u_at]
              by_cases q : j = jG W T t
              · rw [if_pos q, q, up_self, if_neg (by omega)]
              · rw [if_neg q, up_ne _ q]; exact i2 j hj
            · have r1 := congrFun q (jG W T t)
              rw [up_self, hE.h17 c2] at r1
              omega
            · by_cases q : j = jG W T t
              · rw [q, up_self]; omega
              · rw [up_ne _ q]; exact i4 j hj
        · rw [if_neg c2] at e2
          rw [e2, if_pos (show ¬ nI (u (jG W T t)) = -1 from of_eq_false (q_eqm (by omega)))] at hun
          have eu : jst W s T true u t = u := by
            unfold jst
            rw [if_neg (fun q => c2 q.2.2.1)]
          rw [eu]
          exact ⟨(N, f), hun, i1, i2, i3, i4⟩)
  refine ⟨p.1, p.2, ?_, h1, h2, h3, h4⟩
  have hr : rM (p.1.1 206) W := by rw [h1.2 206 (by omega)]; exact h
  refine Eq.trans e ?_
  show f277_51 z K (n + 1) x1 (nI (bN (sw s) (W 0 4))) (nI p.2) (nI (W 0 4)) p.1 = _
  rw [f277_51, g178 hr, cb_bi, if_pos (show nI (W 0 4) ≤ nI (W 0 4) by rw [q_le (by omega) (by omega)]; omega)]
noncomputable def jfl (W : cW) (s : Nat → Nat) (T c k : Nat) : Nat := @ite _ (k ≠ 0 ∧ jit W s T true (jw0 c) k = jit W s T true (jw0 c) (k - 1)) (Classical.propDecidable _) 0 1
theorem jfl_0 {W : cW} {s : Nat → Nat} {T c k : Nat} (h : jit W s T true (jw0 c) (k + 1) = jit W s T true (jw0 c) k) : jfl W s T c (k + 1) = 0 := by
  unfold jfl
  rw [if_pos ⟨by omega, h⟩]
theorem jfl_1 {W : cW} {s : Nat → Nat} {T c k : Nat} (h : jit W s T true (jw0 c) (k + 1) ≠ jit W s T true (jw0 c) k) : jfl W s T c (k + 1) = 1 := by
  unfold jfl
  rw [if_neg (fun q => h q.2)]
theorem jfl_00 {W : cW} {s : Nat → Nat} {T c : Nat} : jfl W s T c 0 = 1 := by
  unfold jfl
  rw [if_neg (fun q => q.1 rfl)]
theorem jfl_b {W : cW} {s : Nat → Nat} {T c k : Nat} : jfl W s T c k = 0 ∨ jfl W s T c k = 1 := by
  unfold jfl
  split
  · exact .inl rfl
  · exact .inr rfl
/-- findWay, but for the way back -/
theorem m_find {z : Nat} (hz : 2000 ≤ z) {M : aM} {W : cW} (hW : wf W) (h : rM (M.1 206) W) {s : Nat → Nat} {T c K : Nat} (hc : c < 8) (hT : T < 65536) (h36 : M.1 205 36 = nI T) (hK : jEn W s T c K) : ∃ M', Fx (fun a => a = 225) M M' ∧ mR M' (jit W s T true (jw0 c) K) ∧ f277 z (nI c) (nI (bN (sw s) (W 0 4))) M = if jit W s T true (jw0 c) K 8 = 17 then some (some (.inl (nI 0)), M') else f277_220 z z (nI c) (nI 8) M' := by
  obtain ⟨k1, k2, k3, k4, k5⟩ := hK
  obtain ⟨n0, M0, e0, a1, a2⟩ := lr0 (fun n k M' => f277_2 z n (nI c) (nI (bN (sw s) (W 0 4))) (nI k) M') 9 (fun k M' => Fx (fun a => a = 225) M M' ∧ ∀ j, j < k → M'.1 225 j = mI) z M (by omega) ⟨Fx.id0, fun j hj => by omega⟩ (by
    intro n k N hk hI
    refine ⟨(am_u N.1 225 k mI, N.2), ?_, Fx.w hI.1 rfl, fun j hj => ?_⟩
    · rw [f277_2, if_neg (show ¬ (8 : Int32) < nI k by rw [n_8, q_lt (by omega) (by omega)]; omega), if_pos (q_inB (show k < 9 by omega) (by omega)), q_cl (by omega), q_m1, n_1, q_add]
    · show am_u N.1 225 k mI 225 j = mI
      rw [u_at]
      split
      · rfl
      · exact hI.2 j (by omega))
  have r0 : mR ((am_u M0.1 225 c (nI 16), M0.2) : aM) (jw0 c) := fun j hj => by
    show am_u M0.1 225 c (nI 16) 225 j = _
    rw [u_at]
    unfold jw0
    by_cases q : j = c
    · rw [if_pos q, if_pos q, if_neg (by omega)]
    · rw [if_neg q, if_neg q, if_pos rfl]; exact a2 j hj
  have e1 : f277 z (nI c) (nI (bN (sw s) (W 0 4))) M = f277_31 z z (nI c) (nI (bN (sw s) (W 0 4))) (nI 1) ((am_u M0.1 225 c (nI 16), M0.2) : aM) := by
    unfold f277
    rw [n_0]
    refine Eq.trans e0 ?_
    rw [f277_2, if_pos (show (8 : Int32) < nI 9 by decide), if_pos (q_inB (show c < 9 by omega) (by omega)), q_cl (by omega)]
    rfl
  have hin : am_inB (8 : Int32) 9 = true := by decide
  have hz8 : (8 : Int32).toNatClampNeg = 8 := by decide
  obtain ⟨n, M', e, h1, h2, h3⟩ := lr0 (fun n k M' => f277_31 z n (nI c) (nI (bN (sw s) (W 0 4))) (nI (jfl W s T c k)) M') K (fun k M' => Fx (fun a => a = 225) M M' ∧ mR M' (jit W s T true (jw0 c) k) ∧ ∀ j, j < 9 → jit W s T true (jw0 c) k j ≤ 17) z ((am_u M0.1 225 c (nI 16), M0.2) : aM) (by omega) ⟨Fx.w a1 rfl, r0, fun j _ => by show jw0 c j ≤ 17; unfold jw0; split <;> omega⟩ (by
    intro n k N hk hI
    obtain ⟨i1, i2, i3⟩ := hI
    have f1 : jfl W s T c k = 1 := by
      by_cases q : k = 0
      · rw [q]; exact jfl_00
      · obtain ⟨k', rfl⟩ : ∃ k', k = k' + 1 := ⟨k - 1, by omega⟩
        exact jfl_1 (k4 k' (by omega))
    have n8 : N.1 225 8 = mI := by rw [i2 8 (by omega), if_pos (k3 k hk)]
    obtain ⟨N', f, b1, b2, b3, b4, b5⟩ := m_jpass hz hW (s := s) (show rM (N.1 206) W by rw [i1.2 206 (by omega)]; exact h) hT (show N.1 205 36 = nI T by rw [i1.2 205 (by omega)]; exact h36) i2 i3 (nI c) (f277_31 z n)
    have f2 : jfl W s T c (k + 1) = f := by
      rcases b4 with ⟨q1, q2⟩ | ⟨q1, q2⟩
      · rw [q1]; exact jfl_0 q2
      · rw [q1]; exact jfl_1 q2
    refine ⟨N', ?_, i1.trans b2, b3, b5⟩
    rw [f1, f2, f277_31, if_neg (show ¬ nI 1 = 0 by decide), if_pos hin, hz8, n8, if_neg (show ¬ ¬ mI = -1 from fun q => q rfl), n_0]
    exact b1)
  rw [jfl_00] at e
  refine ⟨M', h1, h2, e1.trans (e.trans ?_)⟩
  have n8 := h2 8 (by omega)
  have b8 := h3 8 (by omega)
  rw [f277_31, hz8]
  by_cases q : jit W s T true (jw0 c) K 8 = 17
  · rw [if_pos q] at n8
    have fK : jfl W s T c K = 0 := by
      rcases k5 with r | r
      · exact absurd q r
      · obtain ⟨k', rfl⟩ : ∃ k', K = k' + 1 := ⟨K - 1, by omega⟩
        exact jfl_0 r
    rw [fK, if_pos (show nI 0 = 0 from rfl), if_pos hin, n8, if_neg (show ¬ ¬ mI = -1 from fun q => q rfl), if_pos q]
    rfl
  · rw [if_neg q] at n8
    have hm : ¬ nI (jit W s T true (jw0 c) K 8) = -1 := of_eq_false (q_eqm (by omega))
    rw [if_neg q, n8]
    rcases jfl_b (W := W) (s := s) (T := T) (c := c) (k := K) with r | r
    · rw [r, if_pos (show nI 0 = 0 from rfl), if_pos hin, if_pos hm]
      rfl
    · rw [r, if_neg (show ¬ nI 1 = 0 by decide), if_pos hin, if_pos hm, if_pos hin, if_pos hm]
      rfl
/-- the way back -/
def m36 (M M' : aM) : Prop := (∀ a, a ≠ 205 → a ≠ 225 → M'.1 a = M.1 a) ∧ (∀ j, j ≠ 36 → M'.1 205 j = M.1 205 j) ∧ M'.2 = M.2
theorem m36.trans {a b c : aM} (h : m36 a b) (h' : m36 b c) : m36 a c := ⟨fun x q r => (h'.1 x q r).trans (h.1 x q r), fun j q => (h'.2.1 j q).trans (h.2.1 j q), h'.2.2.trans h.2.2⟩
theorem m36.id0 (M : aM) : m36 M M := ⟨fun _ _ _ => rfl, fun _ _ => rfl, rfl⟩
theorem m36.kR {M M' : aM} (h : m36 M M') : kR M M' := ⟨fun a q r => h.1 a q (by unfold Sc at r; omega), ⟨h.2.1 5 (by omega), h.2.1 12 (by omega), h.2.1 13 (by omega)⟩, fun a _ _ => by rw [h.2.2]⟩
theorem m_walk {z : Nat} {W : cW} (hW : wf W) {T c : Nat} (hc : c < 8) {w : Nat → Nat} : ∀ (l : List Nat) (v X n : Nat) (M : aM), jO W T c w l → rM (M.1 206) W → (∀ j, j ∈ l → j ≠ c → M.1 225 j = nI (w j)) → v ∈ l → M.1 205 36 = nI X → l.length < n → ∃ M', f277_220 z n (nI c) (nI v) M = some (some (.inl (nI 1)), M') ∧ m36 M M' ∧ M'.1 205 36 = nI (jwk W T w l v X)
  | [], _, _, _, _, h, _, _, _, _, _ => h.elim
  | j :: l, v, X, n, M, h, hr, hM, hv, h36, hn => by
    have hN : W 0 4 ≤ 16 := hW.2.2.2.2.1
    have h38 : W 0 3 ≤ 8 := hW.2.2.2.1
    simp only [List.length_cons] at hn
    unfold jwk
    by_cases e : v = j
    · rw [if_pos e]
      obtain ⟨n, rfl⟩ : ∃ n', n = n' + 1 := ⟨n - 1, by omega⟩
      by_cases el : l = []
      · subst el
        refine ⟨M, ?_, m36.id0 M, ?_⟩
        · rw [f277_220, e, h.hd, if_pos rfl]
          rfl
        · rw [if_pos rfl]; exact h36
      · obtain ⟨h1, h2, h3, h4, h5, h6⟩ := h.tl el
        have hjc : j ≠ c := fun q => h2 (q ▸ h1.c)
        have hMj : M.1 225 j = nI (w j) := hM j List.mem_cons_self hjc
        have hw := hW.2.2.2.2.2.2.2.2.1 _ h4
        rw [if_neg el]
        have hr1 : rM (((am_u M.1 205 36 (nI (X ^^^ 2 ^ (w j))), M.2) : aM).1 206) W := by
          show rM (am_u M.1 205 36 (nI (X ^^^ 2 ^ (w j))) 206) W
          rw [u_row (by omega)]
          exact hr
        obtain ⟨M', a1, a2, a3⟩ := m_walk (z := z) hW hc l (jS W T (w j)) (X ^^^ 2 ^ (w j)) n ((am_u M.1 205 36 (nI (X ^^^ 2 ^ (w j))), M.2) : aM) h1 hr1 (fun i hi hic => by
          show am_u M.1 205 36 (nI (X ^^^ 2 ^ (w j))) 225 i = _
          rw [u_row (by omega)]
          exact hM i (List.mem_cons_of_mem _ hi) hic) h6 (by show am_u M.1 205 36 (nI (X ^^^ 2 ^ (w j))) 205 36 = _; rw [u_self]) (by omega)
        have k0 : m36 M ((am_u M.1 205 36 (nI (X ^^^ 2 ^ (w j))), M.2) : aM) := ⟨fun a q _ => u_row q, fun i q => u_ne q, rfl⟩
        refine ⟨M', ?_, k0.trans a2, a3⟩
        rw [f277_220, e, if_neg (show ¬ nI j = nI c by rw [q_eq (by omega) (by omega)]; exact hjc), if_pos (q_inB (show j < 9 by omega) (by omega)), q_cl (by omega), hMj, g186 hr hW h4, cb_bi]
        by_cases e8 : W 2 (w j) = 8
        · rw [e8, hI_8, if_neg (show ¬ ¬ mI = -1 from fun q => q rfl), h36, n_31, n_1, q_shl (by omega), q_xorN]
          dsimp only
          unfold jG at h5
          unfold jS at a1
          by_cases b : bt T (w j) = 1
          · rw [if_pos b] at h5 a1
            rw [n_8, if_pos (show ¬ nI j = nI 8 by rw [q_eq (by omega) (by omega)]; omega), ← e8]
            exact a1
          · rw [if_neg b] at h5 a1
            rw [n_8, if_neg (show ¬ ¬ nI j = nI 8 from fun q => q (by rw [← h5, e8])), g185 hr1 hW h4, cb_bi]
            exact a1
        · rw [hI_n e8, if_pos (show ¬ nI (W 2 (w j)) = -1 from of_eq_false (q_eqm (by omega))), g186 hr hW h4, hI_n e8, cb_bi, h36, n_31, n_1, q_shl (by omega), q_xorN]
          dsimp only
          unfold jG at h5
          unfold jS at a1
          by_cases b : bt T (w j) = 1
          · rw [if_pos b] at h5 a1
            rw [if_pos (show ¬ nI j = nI (W 2 (w j)) by rw [q_eq (by omega) (by omega)]; omega)]
            exact a1
          · rw [if_neg b] at h5 a1
            rw [if_neg (show ¬ ¬ nI j = nI (W 2 (w j)) from fun q => q (by rw [h5])), g185 hr1 hW h4, cb_bi]
            exact a1
    · rw [if_neg e]
      have hv' : v ∈ l := by
        rcases List.mem_cons.mp hv with q | q
        · exact absurd q e
        · exact q
      have el : l ≠ [] := fun q => by rw [q] at hv'; cases hv'
      exact m_walk hW hc l v X n M (h.tl el).1 hr (fun i hi => hM i (List.mem_cons_of_mem _ hi)) hv' h36 (by omega)
