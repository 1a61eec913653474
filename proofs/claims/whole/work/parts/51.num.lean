/-! ===== pure part: numbers, bits, loops, frames ===== -/
def mI : Int32 := -1
theorem q_m1 : (-1 : Int32) = mI := rfl
theorem q_inB {k n : Nat} (h : k < n) (hn : n ≤ 100000) : am_inB (nI k) n = true := cb_inB h (by omega)
theorem q_cl {k : Nat} (h : k < 2147483648) : (nI k).toNatClampNeg = k := nI_clamp h
theorem q_le {a b : Nat} (ha : a < 2147483648) (hb : b < 2147483648) : (nI a ≤ nI b) = (a ≤ b) := propext (nI_leI ha hb)
theorem q_lt {a b : Nat} (ha : a < 2147483648) (hb : b < 2147483648) : (nI a < nI b) = (a < b) := propext (nI_ltI ha hb)
theorem q_eq {a b : Nat} (ha : a < 2147483648) (hb : b < 2147483648) : (nI a = nI b) = (a = b) := propext (nI_eq ha hb)
theorem q_mlt {a : Nat} (ha : a < 2147483648) : mI < nI a := by
  have h : (nI a).toInt = (a : Int) := nI_toInt ha
  have h2 : mI.toInt = -1 := by decide
  rw [Int32.lt_iff_toInt_lt, h, h2]
  omega
theorem q_eqm {a : Nat} (ha : a < 2147483648) : (nI a = mI) = False := by
  apply eq_false
  intro h
  have := q_mlt ha
  rw [h] at this
  exact absurd this (by decide)
theorem q_meq {a : Nat} (ha : a < 2147483648) : (mI = nI a) = False := by
  apply eq_false
  intro h
  have := q_eqm ha
  rw [← h] at this
  exact absurd rfl (of_eq_false this)
theorem q_mltT {a : Nat} (ha : a < 2147483648) : (mI < nI a) = True := eq_true (q_mlt ha)
theorem q_mleT {a : Nat} (ha : a < 2147483648) : (mI ≤ nI a) = True := eq_true (Int32.le_of_lt (q_mlt ha))
theorem q_ltm {a : Nat} (ha : a < 2147483648) : (nI a < mI) = False := eq_false (fun h => absurd (Int32.lt_trans h (q_mlt ha)) (Int32.lt_irrefl))
theorem q_lem {a : Nat} (ha : a < 2147483648) : (nI a ≤ mI) = False := eq_false (fun h => absurd (q_mlt ha) (Int32.not_lt.mpr h))
theorem q_add (a b : Nat) : nI a + nI b = nI (a + b) := nI_add a b
theorem q_sub {a b : Nat} (h : b ≤ a) : nI a - nI b = nI (a - b) := pk_sub h
theorem q_addm {a : Nat} (h : 0 < a) : nI a + mI = nI (a - 1) := sb_m1 h
theorem q_mul (a b : Nat) : nI a * nI b = nI (a * b) := pk_mul a b
theorem q_div {a d : Nat} (ha : a < 2147483648) (h0 : 0 < d) (hd : d < 2147483648) : nI a / nI d = nI (a / d) := pk_div ha h0 hd
theorem q_mod (a d : Nat) : a - a / d * d = a % d := by
  have := Nat.div_add_mod a d
  rw [Nat.mul_comm] at this
  omega
theorem q_rem (a d : Nat) : nI a - nI (a / d * d) = nI (a % d) := by
  rw [pk_sub (Nat.div_mul_le_self a d), q_mod]
theorem q_max {a b : Nat} : (if nI a < nI b then nI b else nI a) = (if nI a < nI b then nI b else nI a) := rfl
theorem q_orN (a b : Nat) : nI a ||| nI b = nI (a ||| b) := by
  apply Int32.toBitVec_inj.mp
  rw [Int32.toBitVec_or]
  show BitVec.ofNat 32 a ||| BitVec.ofNat 32 b = BitVec.ofNat 32 (a ||| b)
  apply BitVec.eq_of_toNat_eq
  simp [Nat.or_mod_two_pow]
theorem q_andN (a b : Nat) : nI a &&& nI b = nI (a &&& b) := by
  apply Int32.toBitVec_inj.mp
  rw [Int32.toBitVec_and]
  show BitVec.ofNat 32 a &&& BitVec.ofNat 32 b = BitVec.ofNat 32 (a &&& b)
  apply BitVec.eq_of_toNat_eq
  simp [Nat.and_mod_two_pow]
theorem q_shl : ∀ {k : Nat}, k < 31 → nI 1 <<< (nI k &&& nI 31) = nI (2 ^ k) := by decide
theorem q_sm : ∀ {k : Nat}, k < 32 → ((nI k &&& nI 31).toBitVec.smod 32).toNat = k := by decide
theorem q_shr {x k : Nat} (hx : x < 2147483648) (hk : k < 32) : nI x >>> (nI k &&& nI 31) = nI (x / 2 ^ k) := pk_shrN hx _ k (q_sm hk)
theorem q_and1 {x : Nat} (hx : x < 2147483648) : nI x &&& nI 1 = nI (x % 2) := by
  have := pk_andN (n := x) (by omega) (m := nI 1) 1 (by decide)
  simpa using this
theorem q_or2 {x k : Nat} (hx : x < 2 ^ k) : nI x ||| nI (2 ^ k) = nI (x + 2 ^ k) := by
  rw [q_orN]
  congr 1
  have := Nat.two_pow_add_eq_or_of_lt hx 1
  rw [Nat.mul_one] at this
  rw [Nat.or_comm, ← this, Nat.add_comm]
/-- a bit of a number -/
def bt (x k : Nat) : Nat := x / 2 ^ k % 2
theorem q_bt {x k : Nat} (hx : x < 2147483648) (hk : k < 32) : (nI x >>> (nI k &&& nI 31)) &&& nI 1 = nI (bt x k) := by
  rw [q_shr hx hk, q_and1 (Nat.lt_of_le_of_lt (Nat.div_le_self _ _) hx)]
  rfl
theorem bt_lt (x k : Nat) : bt x k < 2 := Nat.mod_lt _ (by decide)
theorem bt_tb (x k : Nat) : (bt x k = 1) = (x.testBit k = true) := by
  rw [Nat.testBit_eq_decide_div_mod_eq]
  simp [bt]
/-- bits of a set of numbers -/
def bN (p : Nat → Bool) : Nat → Nat
  | 0 => 0
  | n + 1 => bN p n + (if p n = true then 2 ^ n else 0)
theorem bN_lt (p : Nat → Bool) : ∀ n, bN p n < 2 ^ n
  | 0 => by simp [bN]
  | n + 1 => by
    have := bN_lt p n
    unfold bN
    rw [Nat.pow_succ]
    split <;> omega
theorem bN_ltm (p : Nat → Bool) {n m : Nat} (h : n ≤ m) : bN p n < 2 ^ m := Nat.lt_of_lt_of_le (bN_lt p n) (Nat.pow_le_pow_right (by decide) h)
theorem bN_lt16 (p : Nat → Bool) {n : Nat} (h : n ≤ 16) : bN p n < 65536 := bN_ltm p h
theorem bN_tb (p : Nat → Bool) : ∀ n k, (bN p n).testBit k = (decide (k < n) && p k)
  | 0, k => by simp [bN]
  | n + 1, k => by
    have ih := bN_tb p n k
    have hl := bN_lt p n
    unfold bN
    by_cases hp : p n = true
    · rw [if_pos hp, Nat.add_comm]
      by_cases h1 : k < n
      · rw [Nat.testBit_two_pow_add_gt h1, ih]
        simp [h1, Nat.lt_succ_of_lt h1]
      · by_cases h2 : k = n
        · subst h2
          rw [Nat.testBit_two_pow_add_eq, Nat.testBit_lt_two_pow hl]
          simp [hp]
        · have h3 : n + 1 ≤ k := by omega
          rw [Nat.testBit_lt_two_pow]
          · simp; omega
          · refine Nat.lt_of_lt_of_le ?_ (Nat.pow_le_pow_right (by decide) h3)
            rw [Nat.pow_succ]
            omega
    · rw [if_neg hp, Nat.add_zero, ih]
      by_cases h1 : k < n
      · simp [h1, Nat.lt_succ_of_lt h1]
      · by_cases h2 : k = n
        · subst h2
          simp [hp]
        · have : ¬ k < n + 1 := by omega
          simp [h1, this]
theorem bt_bN (p : Nat → Bool) {n k : Nat} (h : k < n) : (bt (bN p n) k = 1) = (p k = true) := by
  rw [bt_tb, bN_tb]
  simp [h]
theorem bt_eq0 (x k : Nat) : (bt x k = 0) = ¬ (bt x k = 1) := by
  have := bt_lt x k
  apply propext
  omega
theorem bN_cong {p q : Nat → Bool} : ∀ n, (∀ k, k < n → p k = q k) → bN p n = bN q n
  | 0, _ => rfl
  | n + 1, h => by
    unfold bN
    rw [bN_cong n (fun k hk => h k (by omega)), h n (by omega)]
theorem bN_zero {p : Nat → Bool} : ∀ n, (bN p n = 0) = (∀ k, k < n → ¬ p k = true)
  | 0 => by simp [bN]
  | n + 1 => by
    have ih := bN_zero (p := p) n
    have hp := Nat.two_pow_pos n
    apply propext
    unfold bN
    constructor
    · intro h k hk
      by_cases hn : p n = true
      · rw [if_pos hn] at h; omega
      · rw [if_neg hn] at h
        by_cases e : k = n
        · subst e; exact hn
        · have h0 : bN p n = 0 := by omega
          rw [ih] at h0
          exact h0 k (by omega)
    · intro h
      rw [if_neg (h n (by omega))]
      have : bN p n = 0 := by rw [ih]; exact fun k hk => h k (by omega)
      omega
theorem bN_or (p q : Nat → Bool) (n : Nat) : bN p n ||| bN q n = bN (fun k => p k || q k) n := by
  apply Nat.eq_of_testBit_eq
  intro k
  rw [Nat.testBit_or, bN_tb, bN_tb, bN_tb]
  by_cases h : k < n <;> simp [h]
theorem bN_and (p q : Nat → Bool) (n : Nat) : bN p n &&& bN q n = bN (fun k => p k && q k) n := by
  apply Nat.eq_of_testBit_eq
  intro k
  rw [Nat.testBit_and, bN_tb, bN_tb, bN_tb]
  by_cases h : k < n <;> simp [h]
theorem bN_all : ∀ n, bN (fun _ => true) n = 2 ^ n - 1
  | 0 => rfl
  | n + 1 => by
    have := Nat.two_pow_pos n
    unfold bN
    rw [bN_all n, Nat.pow_succ]
    simp only [if_true]
    omega
/-! numbers of the text as numbers -/
theorem n_0 : (0 : Int32) = nI 0 := rfl
theorem n_1 : (1 : Int32) = nI 1 := rfl
theorem n_2 : (2 : Int32) = nI 2 := rfl
theorem n_3 : (3 : Int32) = nI 3 := rfl
theorem n_4 : (4 : Int32) = nI 4 := rfl
theorem n_5 : (5 : Int32) = nI 5 := rfl
theorem n_6 : (6 : Int32) = nI 6 := rfl
theorem n_7 : (7 : Int32) = nI 7 := rfl
theorem n_8 : (8 : Int32) = nI 8 := rfl
theorem n_9 : (9 : Int32) = nI 9 := rfl
theorem n_10 : (10 : Int32) = nI 10 := rfl
theorem n_11 : (11 : Int32) = nI 11 := rfl
theorem n_12 : (12 : Int32) = nI 12 := rfl
theorem n_13 : (13 : Int32) = nI 13 := rfl
theorem n_15 : (15 : Int32) = nI 15 := rfl
theorem n_16 : (16 : Int32) = nI 16 := rfl
theorem n_20 : (20 : Int32) = nI 20 := rfl
theorem n_24 : (24 : Int32) = nI 24 := rfl
theorem n_30 : (30 : Int32) = nI 30 := rfl
theorem n_31 : (31 : Int32) = nI 31 := rfl
theorem n_32 : (32 : Int32) = nI 32 := rfl
theorem n_57 : (57 : Int32) = nI 57 := rfl
theorem n_59 : (59 : Int32) = nI 59 := rfl
theorem n_60 : (60 : Int32) = nI 60 := rfl
theorem n_61 : (61 : Int32) = nI 61 := rfl
theorem n_86 : (86 : Int32) = nI 86 := rfl
theorem n_90 : (90 : Int32) = nI 90 := rfl
theorem n_97 : (97 : Int32) = nI 97 := rfl
theorem n_99 : (99 : Int32) = nI 99 := rfl
theorem n_100 : (100 : Int32) = nI 100 := rfl
theorem n_116 : (116 : Int32) = nI 116 := rfl
theorem n_122 : (122 : Int32) = nI 122 := rfl
theorem n_200 : (200 : Int32) = nI 200 := rfl
theorem n_201 : (201 : Int32) = nI 201 := rfl
theorem n_255 : (255 : Int32) = nI 255 := rfl
theorem n_800 : (800 : Int32) = nI 800 := rfl
theorem n_1000 : (1000 : Int32) = nI 1000 := rfl
theorem n_1023 : (1023 : Int32) = nI 1023 := rfl
theorem n_10000 : (10000 : Int32) = nI 10000 := rfl
theorem n_65535 : (65535 : Int32) = nI 65535 := rfl
theorem n_65536 : (65536 : Int32) = nI 65536 := rfl
theorem n_99999 : (99999 : Int32) = nI 99999 := rfl
theorem n_1000000 : (1000000 : Int32) = nI 1000000 := rfl
theorem n_2000000000 : (2000000000 : Int32) = nI 2000000000 := rfl
def Lst {σ ρ : Type} (P : ρ → Prop) (Ln : σ → ρ) (Inv : σ → Prop) (o : ρ) : Prop := P o ∨ ∃ s', o = Ln s' ∧ Inv s'
theorem Lst.go {σ ρ : Type} {P : ρ → Prop} {Ln : σ → ρ} {Inv : σ → Prop} {s' : σ} (h : Inv s') : Lst P Ln Inv (Ln s') := .inr ⟨s', rfl, h⟩
theorem Lst.ed {σ ρ : Type} {P : ρ → Prop} {Ln : σ → ρ} {Inv : σ → Prop} {o : ρ} (h : P o) : Lst P Ln Inv o := .inl h
theorem lk {σ ρ : Type} (L : Nat → Nat → σ → ρ) (N : Nat) (Inv : Nat → σ → Prop) (P : ρ → Prop)
    (hs : ∀ (n k : Nat) (s : σ), k < N → Inv k s → Lst P (L n (k + 1)) (Inv (k + 1)) (L (n + 1) k s))
    (he : ∀ (n : Nat) (s : σ), Inv N s → P (L (n + 1) N s)) :
    ∀ (m k n : Nat) (s : σ), k + m = N → m < n → Inv k s → P (L n k s)
  | 0, k, n, s, hk, hn, h => by
    obtain ⟨n, rfl⟩ : ∃ n', n = n' + 1 := ⟨n - 1, by omega⟩
    have e : k = N := by omega
    subst e
    exact he n s h
  | m + 1, k, n, s, hk, hn, h => by
    obtain ⟨n, rfl⟩ : ∃ n', n = n' + 1 := ⟨n - 1, by omega⟩
    rcases hs n k s (by omega) h with hp | ⟨s', e, h'⟩
    · exact hp
    · rw [e]
      exact lk L N Inv P hs he m (k + 1) n s' (by omega) (by omega) h'
theorem lk0 {σ ρ : Type} (L : Nat → Nat → σ → ρ) (N : Nat) (Inv : Nat → σ → Prop) (P : ρ → Prop) (n : Nat) (s : σ) (hn : N < n) (h : Inv 0 s)
    (hs : ∀ (n k : Nat) (s : σ), k < N → Inv k s → Lst P (L n (k + 1)) (Inv (k + 1)) (L (n + 1) k s))
    (he : ∀ (n : Nat) (s : σ), Inv N s → P (L (n + 1) N s)) : P (L n 0 s) :=
  lk L N Inv P hs he N 0 n s (by omega) hn h
/-! frames: which rows may have changed -/
def Fx (S : Nat → Prop) (M M' : aM) : Prop := M'.2 = M.2 ∧ ∀ a, ¬ S a → M'.1 a = M.1 a
theorem Fx.id0 {S : Nat → Prop} {M : aM} : Fx S M M := ⟨by rfl, fun _ _ => by rfl⟩
theorem Fx.trans {S : Nat → Prop} {M M' M'' : aM} (h : Fx S M M') (h' : Fx S M' M'') : Fx S M M'' := ⟨h'.1.trans h.1, fun a ha => (h'.2 a ha).trans (h.2 a ha)⟩
theorem Fx.mono {S S' : Nat → Prop} {M M' : aM} (h : Fx S M M') (hs : ∀ a, S a → S' a) : Fx S' M M' := ⟨h.1, fun a ha => h.2 a (fun q => ha (hs a q))⟩
theorem Fx.u {S : Nat → Prop} {M : aM} {f : Nat → Nat → Int32} {a i : Nat} {x : Int32} (h : Fx S M (f, M.2)) (ha : S a) : Fx S M (am_u f a i x, M.2) := by
  refine ⟨by rfl, fun b hb => ?_⟩
  have e : b ≠ a := fun q => hb (q ▸ ha)
  have : am_u f a i x b = f b := by
    funext j
    simp [am_u, e]
  show am_u f a i x b = M.1 b
  rw [this]
  exact h.2 b hb
theorem Fx.u1 {S : Nat → Prop} {M : aM} {a i : Nat} {x : Int32} (ha : S a) : Fx S M (am_u M.1 a i x, M.2) := Fx.u (f := M.1) Fx.id0 ha
theorem u_row {f : Nat → Nat → Int32} {a i b : Nat} {x : Int32} (h : b ≠ a) : am_u f a i x b = f b := by
  funext j
  simp [am_u, h]
theorem u_at {f : Nat → Nat → Int32} {a i j : Nat} {x : Int32} : am_u f a i x a j = if j = i then x else f a j := by
  simp [am_u]
theorem u_self {f : Nat → Nat → Int32} {a i : Nat} {x : Int32} : am_u f a i x a i = x := by
  simp [am_u]
theorem u_ne {f : Nat → Nat → Int32} {a i j : Nat} {x : Int32} (h : j ≠ i) : am_u f a i x a j = f a j := by
  simp [am_u, h]
theorem ua_row {f : Nat → Nat → Int32} {a b : Nat} {g : Nat → Int32} (h : b ≠ a) : am_ua f a g b = f b := by
  simp [am_ua, h]
theorem ua_self {f : Nat → Nat → Int32} {a : Nat} {g : Nat → Int32} : am_ua f a g a = g := by
  simp [am_ua]
/-! a row of numbers changed at a place -/
def up (f : Nat → Nat) (i x : Nat) : Nat → Nat := fun j => if j = i then x else f j
theorem up_self (f : Nat → Nat) (i x : Nat) : up f i x i = x := by simp [up]
theorem up_ne (f : Nat → Nat) {i x j : Nat} (h : j ≠ i) : up f i x j = f j := by simp [up, h]
def sm (f : Nat → Nat) : Nat → Nat
  | 0 => 0
  | n + 1 => sm f n + f n
theorem sm_le (f : Nat → Nat) {k n : Nat} (h : k < n) : f k ≤ sm f n := by
  induction n with
  | zero => omega
  | succ n ih =>
    unfold sm
    by_cases e : k = n
    · subst e; omega
    · have := ih (by omega); omega
theorem sm_cong {f g : Nat → Nat} : ∀ n, (∀ k, k < n → f k = g k) → sm f n = sm g n
  | 0, _ => rfl
  | n + 1, h => by
    unfold sm
    rw [sm_cong n (fun k hk => h k (by omega)), h n (by omega)]
theorem sm_up (f : Nat → Nat) (i x : Nat) : ∀ n, i < n → sm (up f i x) n + f i = sm f n + x
  | 0, h => by omega
  | n + 1, h => by
    unfold sm
    by_cases e : i = n
    · subst e
      rw [up_self, sm_cong (g := f) i (fun k hk => up_ne f (by omega))]
      omega
    · have := sm_up f i x n (by omega)
      rw [up_ne f (show n ≠ i by omega)]
      omega
theorem sm_up_ge (f : Nat → Nat) (i x n : Nat) (h : n ≤ i) : sm (up f i x) n = sm f n := sm_cong n (fun k hk => up_ne f (by omega))
theorem sm_zero : ∀ n, sm (fun _ => 0) n = 0
  | 0 => rfl
  | n + 1 => by unfold sm; rw [sm_zero n]
