/-! ===== what class and model share between calls ===== -/
def cm2 : Int32 := -2
def cm3 : Int32 := -3
def cm4 : Int32 := -4
def cm5 : Int32 := -5
def cm6 : Int32 := -6
def cm7 : Int32 := -7
def cm8 : Int32 := -8
def cm1000 : Int32 := -1000
def cm100000 : Int32 := -100000
theorem q_m2 : (-2 : Int32) = cm2 := rfl
theorem q_m3 : (-3 : Int32) = cm3 := rfl
theorem q_m4 : (-4 : Int32) = cm4 := rfl
theorem q_m5 : (-5 : Int32) = cm5 := rfl
theorem q_m6 : (-6 : Int32) = cm6 := rfl
theorem q_m7 : (-7 : Int32) = cm7 := rfl
theorem q_m8 : (-8 : Int32) = cm8 := rfl
theorem q_m1000 : (-1000 : Int32) = cm1000 := rfl
theorem q_m100000 : (-100000 : Int32) = cm100000 := rfl
def wdV (W : cW) (t m : Nat) : Nat := lH W (lv W (W 0 1) nB nB (up (hT0 W) t (hT0 W t + m)))
def evV (W : cW) (e : Nat) : Nat := lH W (lv W (W 0 1) nB (fun q => decide (bt e q = 0)) (hT0 W))
def gnV (e : Nat) : Nat → Bool := fun t => decide (t < 8) && decide (bt e t = 0)
def stV (W : cW) (e : Nat) : Nat := pc (lH W (lv W (W 0 1) (gnV e) nB (hT0 W)))
def cA (M : aM) (W : cW) : Prop :=
  (∀ t m, t < W 0 4 → m ≤ 60 → M.1 113 (t * 61 + m) = mI ∨ M.1 113 (t * 61 + m) = nI (wdV W t m))
  ∧ (∀ e, e < 1024 → M.1 114 e = mI ∨ M.1 114 e = nI (evV W e))
  ∧ (∀ e, e < 256 → M.1 115 e = mI ∨ M.1 115 e = nI (stV W e))
def iM (M : aM) : Prop := ∀ k, k < 3 → (M.1 154 k = nI 0 ∧ M.1 208 k = nI 0) ∨ (M.1 154 k = nI 1 ∧ M.1 208 k = nI 1 ∧ ∃ W', wf W' ∧ rC M (163 + 14 * k) W' ∧ rM (fun i => M.1 207 (116 * k + i)) W')
def sL (M : aM) : Prop := ∀ s, s < 4 → (M.1 (155 + 2 * s) 0 = mI ∧ M.1 229 s = mI) ∨ ∃ w n, w ≤ 3 ∧ n ≤ 60 ∧ M.1 (155 + 2 * s) 0 = nI w ∧ M.1 (155 + 2 * s) 1 = nI n ∧ M.1 229 s = nI n ∧ M.1 230 s = nI w ∧ ∀ i, i < 60 → M.2 (156 + 2 * s) i = M.2 231 (60 * s + i)
def RW (M : aM) (W : cW) : Prop := wf W ∧ rC M 18 W ∧ rM (M.1 206) W ∧ yR M 32 W (tY W) (W 0 0) ∧ cA M W ∧ iM M ∧ sL M ∧ rTape M ∧ rFault M
theorem RW.w {M : aM} {W : cW} (h : RW M W) : wf W := h.1
theorem RW.c {M : aM} {W : cW} (h : RW M W) : rC M 18 W := h.2.1
theorem RW.m {M : aM} {W : cW} (h : RW M W) : rM (M.1 206) W := h.2.2.1
theorem RW.y {M : aM} {W : cW} (h : RW M W) : yR M 32 W (tY W) (W 0 0) := h.2.2.2.1
theorem RW.a {M : aM} {W : cW} (h : RW M W) : cA M W := h.2.2.2.2.1
def Sc (a : Nat) : Prop := (67 ≤ a ∧ a ≤ 112) ∨ (116 ≤ a ∧ a ≤ 151) ∨ (210 ≤ a ∧ a ≤ 228) ∨ a = 232
def kR (M M' : aM) : Prop := (∀ a, a ≠ 205 → ¬ Sc a → M'.1 a = M.1 a) ∧ (M'.1 205 5 = M.1 205 5 ∧ M'.1 205 12 = M.1 205 12 ∧ M'.1 205 13 = M.1 205 13) ∧ (∀ a, a ≠ 205 → a ≠ 232 → M'.2 a = M.2 a)
theorem kR.id0 {M : aM} : kR M M := ⟨fun _ _ _ => rfl, ⟨rfl, rfl, rfl⟩, fun _ _ _ => rfl⟩
theorem kR.trans {M M' M'' : aM} (h : kR M M') (h' : kR M' M'') : kR M M'' := ⟨fun a q r => (h'.1 a q r).trans (h.1 a q r), ⟨h'.2.1.1.trans h.2.1.1, h'.2.1.2.1.trans h.2.1.2.1, h'.2.1.2.2.trans h.2.1.2.2⟩, fun a q r => (h'.2.2 a q r).trans (h.2.2 a q r)⟩
theorem kR.fx {S : Nat → Prop} {M M' : aM} (h : Fx S M M') (hS : ∀ a, S a → Sc a) : kR M M' := ⟨fun a _ q => h.2 a (fun r => q (hS a r)), by rw [h.2 205 (fun r => by have := hS 205 r; unfold Sc at this; omega)]; exact ⟨rfl, rfl, rfl⟩, fun a _ _ => by rw [h.1]⟩
theorem kR.ofA {M M' : aM} (h : kA M M') : kR M M' := ⟨fun a q r => h.1.2 a (by unfold aF; unfold Sc at r; omega), ⟨h.2 5 (by omega), h.2 12 (by omega), h.2 13 (by omega)⟩, fun a _ _ => by rw [h.1.1]⟩
theorem cA.of {M M' : aM} {W : cW} (h : cA M W) (h1 : M'.1 113 = M.1 113) (h2 : M'.1 114 = M.1 114) (h3 : M'.1 115 = M.1 115) : cA M' W := by
  unfold cA
  rw [h1, h2, h3]
  exact h
theorem yR.of {M M' : aM} {y0 : Nat} {W : cW} {Y : cY} {m : Nat} (hW : wf W) (hm : m ≤ 12) (h : yR M y0 W Y m) (he : ∀ a, y0 ≤ a → a ≤ y0 + 34 → M'.1 a = M.1 a) : yR M' y0 W Y m := by
  have hQ : W 0 5 ≤ 10 := hW.2.2.2.2.2.1
  obtain ⟨a1, a2, a3, a4, a5⟩ := h
  refine ⟨fun y hy => ?_, fun q hq => ?_, fun q hq => ?_, ?_, ?_⟩
  · rw [he _ (by omega) (by omega)]; exact a1 y hy
  · rw [he _ (by omega) (by omega), he _ (by omega) (by omega), he _ (by omega) (by omega), he _ (by omega) (by omega)]; exact a2 q hq
  · rw [he _ (by omega) (by omega)]; exact a3 q hq
  · rw [he _ (by omega) (by omega)]; exact a4
  · rw [he _ (by omega) (by omega)]; exact a5
theorem iM.of {M M' : aM} (h : iM M) (h1 : M'.1 154 = M.1 154) (h2 : M'.1 208 = M.1 208) (h3 : ∀ a, 163 ≤ a → a < 205 → M'.1 a = M.1 a) (h4 : M'.1 207 = M.1 207) : iM M' := by
  intro k hk
  rw [h1, h2, h4]
  rcases h k hk with q | ⟨q1, q2, W', q3, q4, q5⟩
  · exact .inl q
  · exact .inr ⟨q1, q2, W', q3, q4.of (fun a x1 x2 => h3 a (by omega) (by omega)), q5⟩
theorem sL.of {M M' : aM} (h : sL M) (h1 : ∀ a, 155 ≤ a → a < 163 → M'.1 a = M.1 a ∧ M'.2 a = M.2 a) (h2 : M'.1 229 = M.1 229) (h3 : M'.1 230 = M.1 230) (h4 : M'.2 231 = M.2 231) : sL M' := by
  intro s hs
  rw [h2, h3, h4, (h1 (155 + 2 * s) (by omega) (by omega)).1, (h1 (156 + 2 * s) (by omega) (by omega)).2]
  exact h s hs
theorem RW.k {M M' : aM} {W : cW} (h : RW M W) (k : kR M M') : RW M' W := by
  obtain ⟨h1, h2, h3, h4, h5, h6, h7, h8, h9⟩ := h
  obtain ⟨k1, k2, k3⟩ := k
  have r : ∀ a, a ≠ 205 → ¬ Sc a → M'.1 a = M.1 a := k1
  refine ⟨h1, h2.of (fun a x1 x2 => r a (by omega) (by unfold Sc; omega)), by rw [r 206 (by decide) (by unfold Sc; omega)]; exact h3, h4.of h1 h1.1 (fun a x1 x2 => r a (by omega) (by unfold Sc; omega)), h5.of (r 113 (by decide) (by unfold Sc; omega)) (r 114 (by decide) (by unfold Sc; omega)) (r 115 (by decide) (by unfold Sc; omega)), h6.of (r 154 (by decide) (by unfold Sc; omega)) (r 208 (by decide) (by unfold Sc; omega)) (fun a x1 x2 => r a (by omega) (by unfold Sc; omega)) (r 207 (by decide) (by unfold Sc; omega)), h7.of (fun a x1 x2 => ⟨r a (by omega) (by unfold Sc; omega), k3 a (by omega) (by omega)⟩) (r 229 (by decide) (by unfold Sc; omega)) (r 230 (by decide) (by unfold Sc; omega)) (k3 231 (by decide) (by decide)), ?_, ?_⟩
  · unfold rTape
    rw [k2.1, r 2 (by decide) (by unfold Sc; omega), r 3 (by decide) (by unfold Sc; omega), r 209 (by decide) (by unfold Sc; omega)]
    exact h8
  · unfold rFault
    rw [k2.2.1, k2.2.2, r 1 (by decide) (by unfold Sc; omega)]
    exact h9
/-- one call on both sides, with one answer -/
def PR (o : Option aR) (g : aM → Option aR) : Prop := ∃ v M1 M2, o = some (some (.inl v), M1) ∧ g M1 = some (some (.inl v), M2) ∧ ∃ W, RW M2 W
def PL (o : Option aR) (g : aM → Option aR) : Prop := ∃ v M1 M2, o = some (some (.inr (.inl v)), M1) ∧ g M1 = some (some (.inr (.inl v)), M2) ∧ ∃ W, RW M2 W
theorem PR.q {M M1 : aM} {W : cW} {o : Option aR} {g : aM → Option aR} {v : Int32} (h : RW M W) (e1 : o = some (some (.inl v), M1)) (k1 : kR M M1) (e2 : ∀ M1, RW M1 W → ∃ M2, g M1 = some (some (.inl v), M2) ∧ kR M1 M2) : PR o g := by
  obtain ⟨M2, e, k⟩ := e2 M1 (h.k k1)
  exact ⟨v, M1, M2, e1, e, W, (h.k k1).k k⟩
/-- the same where class and model leave all as it is -/
theorem PR.s {M : aM} {W : cW} {o : Option aR} {g : aM → Option aR} {v : Int32} (h : RW M W) (e1 : o = some (some (.inl v), M)) (e2 : ∀ M1, RW M1 W → ∃ M2, g M1 = some (some (.inl v), M2) ∧ kR M1 M2) : PR o g := PR.q h e1 kR.id0 e2
theorem RW.row {M : aM} {W : cW} (h : RW M W) {y t : Nat} (hy : y ≤ W 0 0) (ht : t < W 0 4) : M.1 (33 + (1 + y)) t = nI (tY W y t) := by
  rw [show 33 + (1 + y) = 32 + 2 + y by omega]
  exact h.y.1 y hy t ht
theorem RW.rb {M : aM} {W : cW} (h : RW M W) {y : Nat} (hy : y ≤ W 0 0) (t : Nat) : tY W y t ≤ 1000 := lv_b h.w _ _ _ (hT0_b h.w) hy t
theorem RW.n3 {M : aM} {W : cW} (h : RW M W) : W 0 3 ≤ 8 := h.w.2.2.2.1
theorem RW.n4 {M : aM} {W : cW} (h : RW M W) : W 0 4 ≤ 16 := h.w.2.2.2.2.1
theorem RW.n5 {M : aM} {W : cW} (h : RW M W) : W 0 5 ≤ 10 := h.w.2.2.2.2.2.1
theorem RW.n0 {M : aM} {W : cW} (h : RW M W) : W 0 0 ≤ 12 := h.w.1
/-! the model's questions -/
theorem m_C {z : Nat} (hz : 2000 ≤ z) {M : aM} {W : cW} (h : RW M W) : ∃ M', f225 z M = some (some (.inl (nI (if 0 < W 0 7 then 1 else 0))), M') ∧ kR M M' ∧ rM (M'.1 206) W ∧ zR M' W (tY W) (W 0 0 + 1) := by
  obtain ⟨M', e, k, r⟩ := m_asks hz h.m h.w
  exact ⟨M', e, kR.ofA k, by rw [k.r206]; exact h.m, r⟩
theorem m_Ct {z : Nat} (hz : 2000 ≤ z) {M : aM} {W : cW} (h : RW M W) (h7 : 0 < W 0 7) : ∃ M', f225 z M = some (some (.inl (nI 1)), M') ∧ kR M M' ∧ rM (M'.1 206) W ∧ zR M' W (tY W) (W 0 0 + 1) := by
  have := m_C hz h
  rw [if_pos h7] at this
  exact this
theorem m_Cf {z : Nat} (hz : 2000 ≤ z) {M : aM} {W : cW} (h : RW M W) (h7 : ¬ 0 < W 0 7) : ∃ M', f225 z M = some (some (.inl (nI 0)), M') ∧ kR M M' := by
  obtain ⟨M', e, k, _⟩ := m_C hz h
  rw [if_neg h7] at e
  exact ⟨M', e, k⟩
theorem m_Yt {z : Nat} (hz : 2000 ≤ z) {M : aM} {W : cW} (h : RW M W) {y : Nat} (h7 : 0 < W 0 7) (hy : y ≤ W 0 0) : ∃ M', f226 z (nI y) M = some (some (.inl (nI 1)), M') ∧ kR M M' ∧ rM (M'.1 206) W ∧ zR M' W (tY W) (W 0 0 + 1) := by
  obtain ⟨M', e, k, r, R⟩ := m_C hz h
  refine ⟨M', ?_, k, r, R⟩
  unfold f226
  rw [e, cb_bi, k180t r h.w h7 hy, cb_bi]
  rfl
theorem m_Yf {z : Nat} (hz : 2000 ≤ z) {M : aM} {W : cW} (h : RW M W) {x : Int32} (hx : ¬ okY W x) : ∃ M', f226 z x M = some (some (.inl (nI 0)), M') ∧ kR M M' := by
  obtain ⟨M', e, k, r, R⟩ := m_C hz h
  refine ⟨M', ?_, k⟩
  unfold f226
  rw [e, cb_bi, k180f r h.w hx, cb_bi]
  rfl
theorem m_Qt {z : Nat} (hz : 2000 ≤ z) {M : aM} {W : cW} (h : RW M W) {q : Nat} (hq : q < W 0 5) : ∃ M', f251 z (nI q) M = some (some (.inl (nI 1)), M') ∧ kR M M' ∧ rM (M'.1 206) W ∧ zR M' W (tY W) (W 0 0 + 1) := by
  obtain ⟨M', e, k, r, R⟩ := m_C hz h
  refine ⟨M', ?_, k, r, R⟩
  unfold f251
  rw [e, cb_bi, k184t r h.w hq, cb_bi]
  rfl
theorem m_Qf {z : Nat} (hz : 2000 ≤ z) {M : aM} {W : cW} (h : RW M W) {x : Int32} (hx : ¬ okN (W 0 5) x) : ∃ M', f251 z x M = some (some (.inl (nI 0)), M') ∧ kR M M' := by
  obtain ⟨M', e, k, r, R⟩ := m_C hz h
  refine ⟨M', ?_, k⟩
  unfold f251
  rw [e, cb_bi, k184f r h.w hx, cb_bi]
  rfl
theorem i0f {α : Type} (a b : α) : (if nI 0 = 0 then a else b) = a := if_pos (by decide)
theorem i1f {α : Type} (a b : α) : (if nI 1 = 0 then a else b) = b := if_neg (by decide)
theorem i0n {α : Type} (a b : α) : (if ¬ nI 0 = 0 then a else b) = b := if_neg (by decide)
theorem i1n {α : Type} (a b : α) : (if ¬ nI 1 = 0 then a else b) = a := if_pos (by decide)
