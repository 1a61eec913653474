/-! ===== fits, least, greatest, ask, leaves, laws ===== -/
theorem wf7 {W : cW} (hW : wf W) (h : 0 < W 0 4) : 0 < W 0 7 := by
  apply Classical.byContradiction
  intro q
  have := (hW.2.2.2.2.2.2.2.2.2.2.2.1 (by omega)).2.2.1
  omega
theorem look {z : Nat} (hz : 2000 ≤ z) {M : aM} {W : cW} (h : RW M W) (x1 x2 : Int32) :
    (∃ v, (v = cm2 ∨ v = cm6) ∧ f132 z x1 x2 M = some (some (.inl v), M) ∧ ∃ M2, f287 z x1 x2 M = some (some (.inl v), M2) ∧ kR M M2) ∨
    (∃ p M1, f132 z x1 x2 M = some (some (.inl (nI 0)), M1) ∧ kR M M1 ∧ M1.1 116 1 = nI (cnt p 60) ∧ M1.1 116 2 = oI (su (fst p 60)) ∧ M1.1 116 3 = oI (lst p 60) ∧ ∃ M2, f287 z x1 x2 M1 = some (some (.inl (nI 0)), M2) ∧ kR M1 M2 ∧ fLs M2 p 60 ∧ rM (M2.1 206) W) := by
  by_cases o2 : okN (W 0 4) x2
  · obtain ⟨t, ht, rfl⟩ := o2
    have h7 := wf7 h.w (show 0 < W 0 4 by omega)
    by_cases o1 : okN 4 x1
    · obtain ⟨s, hs, rfl⟩ := o1
      have ec : 152 + (3 + 2 * s) = 155 + 2 * s := by omega
      have eb := q_inB (show s < 4 by omega) (show 4 ≤ 100000 by omega)
      have neg2 : ¬ 0 ≤ cm2 := by decide
      have neg6 : ¬ 0 ≤ cm6 := by decide
      rcases h.s.cs hs with ⟨q1, q2⟩ | ⟨n, N, hD⟩
      · refine .inl ⟨cm6, .inr rfl, ?_, M, ?_, kR.id0⟩
        · simp only [f132, k164t hs, k9t h.c h.w ht, cb_bi, i1f, i1n, if_pos eb, q_cl (show s < 2147483648 by omega), ec, k34f q1, i0n]
          rfl
        · simp only [f287, k183t h.m h.w ht, cb_bi, i1n, m_seen6 h.m h.w h7 hs q2, if_neg neg6]
      · by_cases h3 : n % 3 = 0
        · obtain ⟨m, hm⟩ : ∃ m, n = 3 * m := ⟨n / 3, by omega⟩
          obtain ⟨M0, a1, a2, a3⟩ := m_asF hz h.m h.w
          cases hok : fst (bdT W N) m with
          | some j =>
            have e28 := c_seen hz h.c hD hm (W := W)
            rw [hok, if_neg (by simp)] at e28
            have e285 := m_seen hz h.m h.w h7 hs hD hm a1
            rw [hok] at e285
            refine .inl ⟨cm2, .inl rfl, ?_, M, ?_, kR.id0⟩
            · simp only [f132, k164t hs, k9t h.c h.w ht, cb_bi, i1f, i1n, if_pos eb, q_cl (show s < 2147483648 by omega), ec, k34t hD, e28, i0n]
              rfl
            · simp only [f287, k183t h.m h.w ht, cb_bi, i1n, e285, if_neg neg2]
          | none =>
            have e28 := c_seen hz h.c hD hm (W := W)
            rw [hok, if_pos rfl] at e28
            obtain ⟨M1, b1, b2, b3, b4, b5⟩ := c_count hz h hs hD hm hok ht
            have h1 := h.k b2
            have hD1 := hD.k hs b2
            obtain ⟨M2, c1, c2, c3⟩ := m_asF hz h1.m h1.w
            have e285 := m_seen hz h1.m h1.w h7 hs hD1 hm c1
            rw [hok] at e285
            obtain ⟨M3, d1, d2, d3, d4⟩ := m_lay hz h.w hs (hD1.k hs (kR.ofA c2)) hm hok ht c3
            refine .inr ⟨ftB W N m t, M1, ?_, b2, b3, b4, b5, M3, ?_, (kR.ofA c2).trans d2, d3, d4⟩
            · simp only [f132, k164t hs, k9t h.c h.w ht, cb_bi, i1f, i1n, if_pos eb, q_cl (show s < 2147483648 by omega), ec, k34t hD, e28, b1, cb_bv]
              rfl
            · simp only [f287, k183t h1.m h1.w ht, cb_bi, i1n, e285]
              rw [if_pos (show (0 : Int32) ≤ nI 0 by decide), n_0, n_1]
              exact d1
        · refine .inl ⟨cm2, .inl rfl, ?_, M, ?_, kR.id0⟩
          · simp only [f132, k164t hs, k9t h.c h.w ht, cb_bi, i1f, i1n, if_pos eb, q_cl (show s < 2147483648 by omega), ec, k34t hD, c_seen3 hD h3, i0n]
            rfl
          · simp only [f287, k183t h.m h.w ht, cb_bi, i1n, m_seen3 h.m h.w h7 hs hD h3, if_neg neg2]
    · refine .inl ⟨cm2, .inl rfl, ?_, M, ?_, kR.id0⟩
      · simp only [f132, k164f o1, cb_bi, i0f]
        rfl
      · have e285 : f285 z x1 M = some (some (.inl cm2), M) := by
          unfold f285
          rw [k323f o1, cb_bi, i0f]
          rfl
        simp only [f287, k183t h.m h.w ht, cb_bi, i1n, e285, if_neg (show ¬ 0 ≤ cm2 by decide)]
  · refine .inl ⟨cm2, .inl rfl, ?_, M, ?_, kR.id0⟩
    · by_cases o1 : okN 4 x1
      · obtain ⟨s, hs, rfl⟩ := o1
        simp only [f132, k164t hs, k9f h.c h.w o2, cb_bi, i1f, i0n]
        rfl
      · simp only [f132, k164f o1, cb_bi, i0f]
        rfl
    · simp only [f287, k183f h.m h.w o2, cb_bi, i0n]
      rfl
theorem cmv {v : Int32} (h : v = cm2 ∨ v = cm6) : ¬ v = 0 ∧ ¬ 0 ≤ v := by
  rcases h with rfl | rfl <;> exact ⟨by decide, by decide⟩
theorem z00 : (0 : Int32) ≤ nI 0 := by decide
theorem P_fits {z : Nat} (hz : 2000 ≤ z) {M : aM} {W : cW} (h : RW M W) (x1 x2 : Int32) : PR (f133 z x1 x2 M) (f288 z x1 x2) := by
  rcases look hz h x1 x2 with ⟨v, hv, e1, M2, e2, k2⟩ | ⟨p, M1, e1, k1, i1, i2, i3, M2, e2, k2, ⟨l1, F, l2, l3, l4, l5⟩, _⟩
  · exact PR.r (M := M) (v := v) (M1 := M) (by simp only [f133, e1, cb_bi, if_neg (cmv hv).1]) h ⟨M2, by simp only [f288, e2, cb_bi, if_neg (cmv hv).2], k2⟩
  · exact PR.r (M := M) (v := nI (cnt p 60)) (M1 := M1) (by simp only [f133, e1, cb_bi, i0f, i1]) (h.k k1) ⟨M2, by simp only [f288, e2, cb_bi, if_pos z00, l1], k2⟩
theorem P_least {z : Nat} (hz : 2000 ≤ z) {M : aM} {W : cW} (h : RW M W) (x1 x2 : Int32) : PR (f134 z x1 x2 M) (f289 z x1 x2) := by
  rcases look hz h x1 x2 with ⟨v, hv, e1, M2, e2, k2⟩ | ⟨p, M1, e1, k1, i1, i2, i3, M2, e2, k2, ⟨l1, F, l2, l3, l4, l5⟩, _⟩
  · exact PR.r (M := M) (v := v) (M1 := M) (by simp only [f134, e1, cb_bi, if_neg (cmv hv).1]) h ⟨M2, by simp only [f289, e2, cb_bi, if_neg (cmv hv).2], k2⟩
  · have hc := cnt_le p 60
    refine PR.r (M := M) (v := oI (su (fst p 60))) (M1 := M1) (by simp only [f134, e1, cb_bi, i0f, i2]) (h.k k1) ⟨M2, ?_, k2⟩
    simp only [f289, e2, cb_bi, if_pos z00, l1]
    by_cases c0 : cnt p 60 = 0
    · rw [c0, i0n, (l4 c0).1]
      rfl
    · rw [if_pos (nI_ne0 (by omega) (by omega)), if_pos (show am_inB (0 : Int32) 60 = true by decide), show (0 : Int32).toNatClampNeg = 0 by decide, (l2 0 (by omega)).1, (l5 (by omega)).1]
      rfl
theorem P_greatest {z : Nat} (hz : 2000 ≤ z) {M : aM} {W : cW} (h : RW M W) (x1 x2 : Int32) : PR (f135 z x1 x2 M) (f290 z x1 x2) := by
  rcases look hz h x1 x2 with ⟨v, hv, e1, M2, e2, k2⟩ | ⟨p, M1, e1, k1, i1, i2, i3, M2, e2, k2, ⟨l1, F, l2, l3, l4, l5⟩, _⟩
  · exact PR.r (M := M) (v := v) (M1 := M) (by simp only [f135, e1, cb_bi, if_neg (cmv hv).1]) h ⟨M2, by simp only [f290, e2, cb_bi, if_neg (cmv hv).2], k2⟩
  · have hc := cnt_le p 60
    refine PR.r (M := M) (v := oI (lst p 60)) (M1 := M1) (by simp only [f135, e1, cb_bi, i0f, i3]) (h.k k1) ⟨M2, ?_, k2⟩
    simp only [f290, e2, cb_bi, if_pos z00, l1]
    by_cases c0 : cnt p 60 = 0
    · rw [c0, i0n, (l4 c0).2]
      rfl
    · rw [if_pos (nI_ne0 (by omega) (by omega)), n_1, q_sub (by omega), if_pos (q_inB (show cnt p 60 - 1 < 60 by omega) (by omega)), q_cl (by omega), (l2 (cnt p 60 - 1) (by omega)).1, (l5 (by omega)).2]
      rfl
/-! which year tells most -/
def mxS (f : Nat → Nat) : Nat → Nat
  | 0 => 0
  | a + 1 => if mxS f a < f a then f a else mxS f a
theorem mxS_ge {f : Nat → Nat} : ∀ {n a : Nat}, a < n → f a ≤ mxS f n
  | n + 1, a, h => by
    show f a ≤ (if mxS f n < f n then f n else mxS f n)
    by_cases e : a = n
    · subst e
      split <;> omega
    · have := mxS_ge (f := f) (n := n) (a := a) (by omega)
      split <;> omega
theorem mxS_le {f : Nat → Nat} {B : Nat} : ∀ {n : Nat}, (∀ a, a < n → f a ≤ B) → mxS f n ≤ B
  | 0, _ => Nat.zero_le _
  | n + 1, h => by
    show (if mxS f n < f n then f n else mxS f n) ≤ B
    have h1 := mxS_le (n := n) (fun a ha => h a (by omega))
    have h2 := h n (by omega)
    split <;> omega
theorem cnt_pos {p : Nat → Bool} : ∀ {n a : Nat}, a < n → p a = true → 1 ≤ cnt p n
  | n + 1, a, h, q => by
    show 1 ≤ cnt p n + (if p n = true then 1 else 0)
    by_cases e : a = n
    · subst e
      rw [if_pos q]; omega
    · have := cnt_pos (p := p) (n := n) (a := a) (by omega) q
      omega
theorem cnt_one {p : Nat → Bool} {a : Nat} : ∀ {n : Nat}, (∀ b, b < n → p b = true → b = a) → cnt p n ≤ 1 ∧ (n ≤ a → cnt p n = 0)
  | 0, _ => ⟨Nat.zero_le _, fun _ => rfl⟩
  | n + 1, h => by
    have ih := cnt_one (p := p) (a := a) (n := n) (fun b hb q => h b (by omega) q)
    show cnt p n + (if p n = true then 1 else 0) ≤ 1 ∧ (n + 1 ≤ a → cnt p n + (if p n = true then 1 else 0) = 0)
    by_cases q : p n = true
    · have e := h n (by omega) q
      rw [if_pos q]
      have := ih.2 (by omega)
      exact ⟨by omega, fun _ => by omega⟩
    · rw [if_neg q]
      exact ⟨ih.1, fun x => ih.2 (by omega)⟩
def alk (K : Nat → Int32) (y a : Nat) : Nat → Bool := fun b => decide (K (13 * a + y) = K (13 * b + y))
theorem m_worst {z : Nat} (hz : 2000 ≤ z) {M : aM} {C y : Nat} (hC : M.1 205 39 = nI C) (h60 : C ≤ 60) (hy : y ≤ 12) : f291 z (nI y) M = some (some (.inl (nI (mxS (fun a => cnt (alk (M.1 227) y a) C) C))), M) := by
  have hb : ∀ a, cnt (alk (M.1 227) y a) C ≤ 60 := fun a => by have := cnt_le (alk (M.1 227) y a) C; omega
  have inner : ∀ (K : Int32 → Int32 → Int32 → aM → Option aR) (a w : Nat), a < C → w ≤ 60 → f291_18 z K z (nI y) (nI w) (nI a) (nI 0) (nI 0) M = K (nI y) (nI (if w < cnt (alk (M.1 227) y a) C then cnt (alk (M.1 227) y a) C else w)) (nI (a + 1)) M := by
    intro K a w ha hw
    obtain ⟨n, e⟩ := lf0 (fun n b => f291_18 z K n (nI y) (nI w) (nI a) (nI (cnt (alk (M.1 227) y a) b)) (nI b) M) C z (by omega) (by
      intro n b hb'
      rw [f291_18, hC, if_neg (show ¬ nI C ≤ nI b by rw [q_le (by omega) (by omega)]; omega), n_13, q_mul, q_mul, q_add, q_add, if_pos (q_inB (show 13 * a + y < 780 by omega) (by omega)), if_pos (q_inB (show 13 * b + y < 780 by omega) (by omega)), q_cl (by omega), q_cl (by omega)]
      by_cases q : M.1 227 (13 * a + y) = M.1 227 (13 * b + y)
      · have ep : alk (M.1 227) y a b = true := by unfold alk; simp [q]
        rw [if_neg (fun x => x q), cnt_t ep, n_1, q_add, q_add]
      · have ep : ¬ alk (M.1 227) y a b = true := by unfold alk; simp [q]
        rw [if_pos q, cnt_f ep, n_0, n_1, q_add, q_add, Nat.add_zero])
    refine Eq.trans e ?_
    have hba := hb a
    rw [f291_18, hC, if_pos (show nI C ≤ nI C by rw [q_le (by omega) (by omega)]; omega), n_1, q_add]
    congr 1
    by_cases q : w < cnt (alk (M.1 227) y a) C
    · rw [if_pos q, if_pos (show nI w < nI (cnt (alk (M.1 227) y a) C) by rw [q_lt (by omega) (by omega)]; exact q)]
    · rw [if_neg q, if_neg (show ¬ nI w < nI (cnt (alk (M.1 227) y a) C) by rw [q_lt (by omega) (by omega)]; exact q)]
  unfold f291
  rw [n_0]
  obtain ⟨n, e⟩ := lf0 (fun n a => f291_4 z n (nI y) (nI (mxS (fun a => cnt (alk (M.1 227) y a) C) a)) (nI a) M) C z (by omega) (by
    intro n a ha
    rw [f291_4, hC, if_neg (show ¬ nI C ≤ nI a by rw [q_le (by omega) (by omega)]; omega), n_0, inner _ a _ ha (mxS_le (fun a _ => hb a))]
    rfl)
  refine Eq.trans e ?_
  rw [f291_4, hC, if_pos (show nI C ≤ nI C by rw [q_le (by omega) (by omega)]; omega)]
theorem m_askOf {z : Nat} (hz : 2000 ≤ z) {M : aM} {W : cW} (r : rM (M.1 206) W) (hW : wf W) {p : Nat → Bool} (hL : fLs M p 60) : ∃ M', f292 z M = some (some (.inl (if cnt p 60 ≤ 1 then mI else nI 0)), M') ∧ kR M M' ∧ M'.1 205 40 = nI (if 1 < cnt p 60 then 1 else cnt p 60) := by
  have hY0 : W 0 0 ≤ 12 := hW.1
  obtain ⟨l1, F, l2, l3, _, _⟩ := hL
  have hc := cnt_le p 60
  generalize cnt p 60 = C at *
  obtain ⟨K, hKr⟩ : ∃ K, K = M.1 227 := ⟨_, rfl⟩
  -- the numbers of year y
  have w0 : ∀ y, C = 0 → mxS (fun a => cnt (alk K y a) C) C = 0 := by
    intro y q
    rw [q]
    rfl
  have w1 : ∀ y, 0 < C → 1 ≤ mxS (fun a => cnt (alk K y a) C) C := by
    intro y q
    have h1 : 1 ≤ cnt (alk K y 0) C := cnt_pos q (by unfold alk; simp)
    have h2 := mxS_ge (f := fun a => cnt (alk K y a) C) q
    exact Nat.le_trans h1 h2
  have w2 : mxS (fun a => cnt (alk K 0 a) C) C ≤ 1 := by
    refine mxS_le (fun a ha => ?_)
    refine (cnt_one (a := a) (fun b hb q => ?_)).1
    unfold alk at q
    rw [decide_eq_true_iff, Nat.add_zero, Nat.add_zero, hKr, (l2 a ha).2.1, (l2 b hb).2.1] at q
    have fa := (l2 a ha).2.2.2
    have fb := (l2 b hb).2.2.2
    rw [q_eq (by omega) (by omega)] at q
    apply Classical.byContradiction
    intro x
    by_cases y : a < b
    · have := l3 a b y hb; omega
    · have := l3 b a (by omega) ha; omega
  have w60 : ∀ y, mxS (fun a => cnt (alk K y a) C) C ≤ 60 := fun y => mxS_le (fun a _ => by have := cnt_le (alk K y a) C; omega)
  obtain ⟨n1, M1, e1, hF, i40⟩ := lr0 (fun n y M' => f292_12 z n (if y = 0 then mI else if C ≤ 1 then mI else nI 0) (nI y) M') (W 0 0 + 1) (fun y M' => (Fx (fun a => a = 205) M M' ∧ ∀ j, j ≠ 40 → M'.1 205 j = M.1 205 j) ∧ M'.1 205 40 = nI (if y = 0 then C else if 1 < C then 1 else C)) z (am_u M.1 205 40 (nI C), M.2) (by omega) ⟨⟨Fx.w Fx.id0 rfl, fun j hj => u_ne hj⟩, by simp only [u_self, if_true]⟩ (by
    intro n y M' hy hI
    obtain ⟨⟨hF, hJ⟩, i40⟩ := hI
    have r' : rM (M'.1 206) W := by rw [hF.2 206 (by decide)]; exact r
    have i39 : M'.1 205 39 = nI C := by rw [hJ 39 (by decide)]; exact l1
    have hK' : M'.1 227 = K := by rw [hF.2 227 (by decide), hKr]
    have ew := m_worst (z := z) hz i39 hc (show y ≤ 12 by omega)
    rw [hK'] at ew
    have v0 := w0 y
    have v1 := w1 y
    have v60 := w60 y
    have v2 : y = 0 → mxS (fun a => cnt (alk K y a) C) C ≤ 1 := fun q => by rw [q]; exact w2
    generalize mxS (fun a => cnt (alk K y a) C) C = w at *
    rw [f292_12, g176 r', cb_bi, if_neg (show ¬ nI (W 0 0) < nI y by rw [q_lt (by omega) (by omega)]; omega), ew, cb_bi, i40, n_1, q_add]
    by_cases y0 : y = 0
    · subst y0
      rw [if_pos rfl, if_pos rfl, if_neg (show ¬ 0 + 1 = 0 by omega), if_neg (show ¬ 0 + 1 = 0 by omega)]
      by_cases c1 : 1 < C
      · have : w = 1 := by have := v1 (by omega); have := v2 rfl; omega
        rw [if_pos (show nI w < nI C by rw [q_lt (by omega) (by omega)]; omega), if_neg (show ¬ C ≤ 1 by omega), if_pos c1]
        refine ⟨_, rfl, ⟨Fx.w hF rfl, fun j hj => ?_⟩, ?_⟩
        · show am_u M'.1 205 40 (nI w) 205 j = M.1 205 j
          rw [u_ne hj]; exact hJ j hj
        · simp only [u_self, this]
      · have : ¬ w < C := by
          by_cases c0 : C = 0
          · omega
          · have := v1 (by omega); omega
        rw [if_neg (show ¬ nI w < nI C by rw [q_lt (by omega) (by omega)]; exact this), if_pos (show C ≤ 1 by omega), if_neg c1]
        exact ⟨M', rfl, ⟨hF, hJ⟩, by rw [i40, if_pos rfl]⟩
    · rw [if_neg y0, if_neg y0, if_neg (show ¬ y + 1 = 0 by omega), if_neg (show ¬ y + 1 = 0 by omega)]
      rw [if_neg y0] at i40
      have : ¬ w < (if 1 < C then 1 else C) := by
        split
        · have := v1 (by omega); omega
        · by_cases c0 : C = 0
          · omega
          · have := v1 (by omega); omega
      have hle : (if 1 < C then 1 else C) ≤ 60 := by split <;> omega
      rw [if_neg (show ¬ nI w < nI (if 1 < C then 1 else C) by rw [q_lt (by omega) (by omega)]; exact this)]
      exact ⟨M', rfl, ⟨hF, hJ⟩, i40⟩)
  rw [if_neg (show ¬ W 0 0 + 1 = 0 by omega)] at i40
  rw [if_pos (show 0 = 0 from rfl), if_neg (show ¬ W 0 0 + 1 = 0 by omega)] at e1
  have r' : rM (M1.1 206) W := by rw [hF.1.2 206 (by decide)]; exact r
  refine ⟨M1, ?_, ⟨fun a q _ => hF.1.2 a q, ⟨hF.2 5 (by decide), hF.2 12 (by decide), hF.2 13 (by decide)⟩, fun a _ _ => by rw [hF.1.1]⟩, i40⟩
  unfold f292
  simp only [l1, ↓q_m1, n_0]
  refine Eq.trans e1 ?_
  rw [f292_12, g176 r', cb_bi, if_pos (show nI (W 0 0) < nI (W 0 0 + 1) by rw [q_lt (by omega) (by omega)]; omega)]
theorem P_ask {z : Nat} (hz : 2000 ≤ z) {M : aM} {W : cW} (h : RW M W) (x1 x2 : Int32) : PR (f136 z x1 x2 M) (f293 z x1 x2) := by
  rcases look hz h x1 x2 with ⟨v, hv, e1, M2, e2, k2⟩ | ⟨p, M1, e1, k1, i1, i2, i3, M2, e2, k2, hL, r2⟩
  · exact PR.r (M := M) (v := v) (M1 := M) (by simp only [f136, e1, cb_bi, if_neg (cmv hv).1]) h ⟨M2, by simp only [f293, e2, cb_bi, if_neg (cmv hv).2], k2⟩
  · have hc := cnt_le p 60
    obtain ⟨M3, a1, a2, a3⟩ := m_askOf hz r2 h.w hL
    refine PR.r (M := M) (v := if cnt p 60 ≤ 1 then mI else nI 0) (M1 := M1) ?_ (h.k k1) ⟨M3, by simp only [f293, e2, cb_bi, if_pos z00, a1], k2.trans a2⟩
    simp only [f136, e1, cb_bi, i0f, i1]
    by_cases q : cnt p 60 ≤ 1
    · rw [n_1, if_pos (show nI (cnt p 60) ≤ nI 1 by rw [q_le (by omega) (by omega)]; exact q), if_pos q]
      rfl
    · rw [n_1, if_neg (show ¬ nI (cnt p 60) ≤ nI 1 by rw [q_le (by omega) (by omega)]; exact q), if_neg q]
      rfl
theorem P_leaves {z : Nat} (hz : 2000 ≤ z) {M : aM} {W : cW} (h : RW M W) (x1 x2 : Int32) : PR (f137 z x1 x2 M) (f294 z x1 x2) := by
  rcases look hz h x1 x2 with ⟨v, hv, e1, M2, e2, k2⟩ | ⟨p, M1, e1, k1, i1, i2, i3, M2, e2, k2, hL, r2⟩
  · exact PR.r (M := M) (v := v) (M1 := M) (by simp only [f137, e1, cb_bi, if_neg (cmv hv).1]) h ⟨M2, by simp only [f294, e2, cb_bi, if_neg (cmv hv).2], k2⟩
  · have hc := cnt_le p 60
    obtain ⟨M3, a1, a2, a3⟩ := m_askOf hz r2 h.w hL
    refine PR.r (M := M) (v := nI (if 1 < cnt p 60 then 1 else cnt p 60)) (M1 := M1) ?_ (h.k k1) ⟨M3, by simp only [f294, e2, cb_bi, if_pos z00, a1, a3], k2.trans a2⟩
    simp only [f137, e1, cb_bi, i0f, i1]
    by_cases q : 1 < cnt p 60
    · rw [n_1, if_pos (show nI 1 < nI (cnt p 60) by rw [q_lt (by omega) (by omega)]; exact q), if_pos q]
    · rw [n_1, if_neg (show ¬ nI 1 < nI (cnt p 60) by rw [q_lt (by omega) (by omega)]; exact q), if_neg q]
/-! laws -/
def laB (W : cW) (N : Nat → Int64) (m : Nat) : Nat → Bool := fun l => (fst (agB N (lv W l nB nB (hT0 W))) m).isNone
theorem c_laws {z : Nat} (hz : 2000 ≤ z) {M : aM} {W : cW} (h : RW M W) {s n m : Nat} {N : Nat → Int64} (hs : s < 4) (hD : sD M s n N) (hm : n = 3 * m) (hok : fst (bdT W N) m = none) : ∃ M', f138_62 z z (nI s) (nI 0) (nI 0) M = some (some (.inl (nI (bN (laB W N m) 4))), M') ∧ kR M M' := by
  have ec : 152 + (3 + 2 * s) = 155 + 2 * s := by omega
  have eb := q_inB (show s < 4 by omega) (show 4 ≤ 100000 by omega)
  obtain ⟨p, hp⟩ : ∃ p, p = laB W N m := ⟨_, rfl⟩
  rw [← hp]
  obtain ⟨n1, M1, e1, hK⟩ := lr0 (fun n k M' => f138_62 z n (nI s) (nI (bN p k)) (nI k) M') 4 (fun k M' => kR M M') z M (by omega) kR.id0 (by
    intro n' k M' hk hK
    have hI := h.k hK
    have hD' := hD.k hs hK
    obtain ⟨M1, a1, a2, a3, a4, a5, a6⟩ := c_asTold (z := z) (y0 := 117) hI.w hI.c (by omega)
    have k1 : kR M' M1 := kR.fx a2 (fun a q => by unfold Sc; omega)
    have h1 := hI.k k1
    have k2 : kR M1 (am_u M1.1 117 0 (nI k), M1.2) := kR.fx (S := fun a => a = 117) (Fx.w Fx.id0 rfl) (fun a q => by unfold Sc; omega)
    have h2 := h1.k k2
    obtain ⟨M3, b1, b2, b3⟩ := c_live hz (M := (am_u M1.1 117 0 (nI k), M1.2)) (y0 := 117) (law := k) (h := hT0 W) (gn := nB) (hd := nB) h2.w h2.c (by omega) (by simp only [u_self]) (by omega) (by simp (disch := omega) only [u_ne, a4]; exact hB_0 16 (by omega)) (by simp (disch := omega) only [u_ne, a5]; exact hB_0 10 (by omega)) (hT0_b h.w) (by simp (disch := omega) only [u_row]; exact a6)
    have k3 : kR M' M3 := (k1.trans k2).trans (kR.ofY b2 (.inr rfl))
    have e32 := c_agrees (z := z) hz h.w (hD'.k hs k3) hm hok b3
    have ep : p k = (fst (agB N (lv W k nB nB (hT0 W))) m).isNone := by rw [hp]; rfl
    rw [isN, ← ep] at e32
    have e31 : f31 z 18 (155 + 2 * s) (nI k) M' = some (some (.inl (nI (if p k = true then 1 else 0))), M3) := by
      unfold f31
      simp only [a1, cb_bv, b1, e32, cb_bi]
      split <;> rfl
    refine ⟨M3, ?_, hK.trans k3⟩
    rw [bN_or1, f138_62, n_4, if_neg (show ¬ nI 4 ≤ nI k by rw [q_le (by omega) (by omega)]; omega), if_pos eb, q_cl (by omega), ec, e31, cb_bi]
    by_cases q : p k = true
    · rw [if_pos q, if_pos q, i1f, n_1, n_31, q_shl (by omega), q_orN, q_add]
    · rw [if_neg q, if_neg q, i0f, Nat.or_zero, n_1, q_add])
  refine ⟨M1, ?_, hK⟩
  refine Eq.trans e1 ?_
  rw [f138_62, n_4, if_pos (show nI 4 ≤ nI 4 by decide)]
theorem m_laws {z : Nat} (hz : 2000 ≤ z) {M : aM} {W : cW} (hW : wf W) {s n m : Nat} {N : Nat → Int64} (hs : s < 4) (hD : sD M s n N) (hm : n = 3 * m) (hok : fst (bdT W N) m = none) (hF : mF M W) : ∃ M', f295_19 z z (nI s) (nI 0) (am_u M.1 205 16 (nI 0), M.2) = some (some (.inl (nI (bN (laB W N m) 4))), M') ∧ kR M M' := by
  obtain ⟨p, hp⟩ : ∃ p, p = laB W N m := ⟨_, rfl⟩
  rw [← hp]
  obtain ⟨n1, M1, e1, hK, hA, h16, h17, h18⟩ := lr0 (fun n k M' => f295_19 z n (nI s) (nI (bN p k)) M') 4 (fun k M' => kR M M' ∧ mA M' W ∧ M'.1 205 16 = nI k ∧ M'.1 205 17 = nI 65535 ∧ M'.1 205 18 = nI 1023) z (am_u M.1 205 16 (nI 0), M.2) (by omega) ⟨kR.u (by decide) (by decide) (by decide), hF.a.u, by simp only [u_self], by simp (disch := omega) only [u_ne]; exact hF.2.2.1, by simp (disch := omega) only [u_ne]; exact hF.2.2.2.1⟩ (by
    intro n' k M' hk hI
    obtain ⟨hK, hA, h16, h17, h18⟩ := hI
    obtain ⟨M3, b1, b2, b3, b4, _⟩ := m_run hz (M := M') (law := k) (gn := nB) (hd := nB) hA hW h16 (by omega) (by rw [h17]; exact hB_65535) (by rw [h18]; exact hB_1023)
    have k3 : kR M' M3 := kR.ofA (kA.ofG b2)
    have e286 := m_agrees (z := z) hz hW hs (hD.k hs (hK.trans k3)) hm hok b4
    have ep : p k = (fst (agB N (lv W k nB nB (hT0 W))) m).isNone := by rw [hp]; rfl
    rw [isN, ← ep] at e286
    have ef : f286 z (nI s) M' = some (some (.inl (nI (if p k = true then 1 else 0))), M3) := by
      unfold f286
      rw [b1, cb_bv, n_0]
      exact e286
    have m16 : M3.1 205 16 = nI k := by rw [b2.2 16 (by omega)]; exact h16
    have m17 : M3.1 205 17 = nI 65535 := by rw [b2.2 17 (by omega)]; exact h17
    have m18 : M3.1 205 18 = nI 1023 := by rw [b2.2 18 (by omega)]; exact h18
    refine ⟨(am_u M3.1 205 16 (nI (k + 1)), M3.2), ?_, (hK.trans k3).trans (kR.u (by decide) (by decide) (by decide)), b3.u, by simp only [u_self], by simp (disch := omega) only [u_ne]; exact m17, by simp (disch := omega) only [u_ne]; exact m18⟩
    rw [bN_or1, f295_19, h16, n_4, if_neg (show ¬ nI 4 ≤ nI k by rw [q_le (by omega) (by omega)]; omega), ef, cb_bi]
    by_cases q : p k = true
    · simp (disch := omega) only [if_pos q, i1f, m16, n_1, n_31, q_shl, q_orN, q_add]
    · simp (disch := omega) only [if_neg q, i0f, m16, n_0, n_1, q_orN, q_add, if_true])
  refine ⟨M1, ?_, hK⟩
  refine Eq.trans e1 ?_
  rw [f295_19, h16, n_4, if_pos (show nI 4 ≤ nI 4 by decide)]
theorem P_laws {z : Nat} (hz : 2000 ≤ z) {M : aM} {W : cW} (h : RW M W) (x1 : Int32) : PR (f138 z x1 M) (f295 z x1) := by
  by_cases o1 : okN 4 x1
  · obtain ⟨s, hs, rfl⟩ := o1
    have ec : 152 + (3 + 2 * s) = 155 + 2 * s := by omega
    have eb := q_inB (show s < 4 by omega) (show 4 ≤ 100000 by omega)
    have neg2 : ¬ 0 ≤ cm2 := by decide
    have neg6 : ¬ 0 ≤ cm6 := by decide
    by_cases h7 : 0 < W 0 7
    · rcases h.s.cs hs with ⟨q1, q2⟩ | ⟨n, N, hD⟩
      · refine PR.r (M := M) (v := cm6) (M1 := M) ?_ h ⟨M, ?_, kR.id0⟩
        · simp only [f138, k164t hs, k7t h.c h.w h7, cb_bi, i1f, i1n, if_pos eb, q_cl (show s < 2147483648 by omega), ec, k34f q1, i0n]
          rfl
        · simp only [f295, cb_bi, m_seen6 h.m h.w h7 hs q2, if_neg neg6]
      · by_cases h3 : n % 3 = 0
        · obtain ⟨m, hm⟩ : ∃ m, n = 3 * m := ⟨n / 3, by omega⟩
          obtain ⟨M0, a1, a2, a3⟩ := m_asF hz h.m h.w
          cases hok : fst (bdT W N) m with
          | some j =>
            have e28 := c_seen hz h.c hD hm (W := W)
            rw [hok, if_neg (by simp)] at e28
            have e285 := m_seen hz h.m h.w h7 hs hD hm a1
            rw [hok] at e285
            refine PR.r (M := M) (v := cm2) (M1 := M) ?_ h ⟨M, ?_, kR.id0⟩
            · simp only [f138, k164t hs, k7t h.c h.w h7, cb_bi, i1f, i1n, if_pos eb, q_cl (show s < 2147483648 by omega), ec, k34t hD, e28, i0n]
              rfl
            · simp only [f295, cb_bi, e285, if_neg neg2]
          | none =>
            have e28 := c_seen hz h.c hD hm (W := W)
            rw [hok, if_pos rfl] at e28
            obtain ⟨M1, b1, b2⟩ := c_laws hz h hs hD hm hok
            have h1 := h.k b2
            have hD1 := hD.k hs b2
            obtain ⟨M2, c1, c2, c3⟩ := m_asF hz h1.m h1.w
            have e285 := m_seen hz h1.m h1.w h7 hs hD1 hm c1
            rw [hok] at e285
            obtain ⟨M3, d1, d2⟩ := m_laws hz h.w hs (hD1.k hs (kR.ofA c2)) hm hok c3
            refine PR.r (M := M) (v := nI (bN (laB W N m) 4)) (M1 := M1) ?_ h1 ⟨M3, ?_, (kR.ofA c2).trans d2⟩
            · simp only [f138, k164t hs, k7t h.c h.w h7, cb_bi, i1f, i1n, if_pos eb, q_cl (show s < 2147483648 by omega), ec, k34t hD, e28]
              exact b1
            · simp only [f295, cb_bi, e285]
              rw [if_pos z00, n_0]
              exact d1
        · refine PR.r (M := M) (v := cm2) (M1 := M) ?_ h ⟨M, ?_, kR.id0⟩
          · simp only [f138, k164t hs, k7t h.c h.w h7, cb_bi, i1f, i1n, if_pos eb, q_cl (show s < 2147483648 by omega), ec, k34t hD, c_seen3 hD h3, i0n]
            rfl
          · simp only [f295, cb_bi, m_seen3 h.m h.w h7 hs hD h3, if_neg neg2]
    · refine PR.r (M := M) (v := cm2) (M1 := M) ?_ h ⟨M, ?_, kR.id0⟩
      · simp only [f138, k164t hs, k7f h.c h7, cb_bi, i1f, i0n]
        rfl
      · have e285 : f285 z (nI s) M = some (some (.inl cm2), M) := by
          unfold f285
          rw [k323t hs, cb_bi, i1f, g175f h.m h.w h7, cb_bi, i0n]
          rfl
        simp only [f295, cb_bi, e285, if_neg neg2]
  · refine PR.r (M := M) (v := cm2) (M1 := M) ?_ h ⟨M, ?_, kR.id0⟩
    · simp only [f138, k164f o1, cb_bi, i0f]
      rfl
    · have e285 : f285 z x1 M = some (some (.inl cm2), M) := by
        unfold f285
        rw [k323f o1, cb_bi, i0f]
        rfl
      simp only [f295, cb_bi, e285, if_neg (show ¬ 0 ≤ cm2 by decide)]
