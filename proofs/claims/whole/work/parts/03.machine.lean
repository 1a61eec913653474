/-! ===== the typed machine: references carry their kind, the memory is two tables of numbers; shape and references never change behind the constructors ===== -/
abbrev aV : Type := Int32 ⊕ (Int64 ⊕ (Nat × Nat))
abbrev aM : Type := (Nat → Nat → Int32) × (Nat → Nat → Int64)
abbrev aL : Type := List (Option aV)
abbrev aR : Type := Option aV × aM
abbrev aC : Type := Nat × va_G × (Nat → ClassId) × (Nat → Nat)
abbrev aK : Type := Nat → aL → List aV → aM → Option aR
abbrev am_E : Type := Nat × Instr × Nat × Nat × Nat × Int32 × Int64
def am_u (f : Nat → Nat → Int32) (a i : Nat) (x : Int32) : Nat → Nat → Int32 := fun b j => if b = a ∧ j = i then x else f b j
def am_ul (f : Nat → Nat → Int64) (a i : Nat) (x : Int64) : Nat → Nat → Int64 := fun b j => if b = a ∧ j = i then x else f b j
def am_ua {α : Type} (f : Nat → Nat → α) (a : Nat) (g : Nat → α) : Nat → Nat → α := fun b => if b = a then g else f b
def am_ad (C : aC) (a : Nat) : Nat := if a < 5000 then C.1 + a else C.2.2.2 (a - 5000)
def am_cv (C : aC) (v : aV) : Value := match v with
  | .inl x => .int x
  | .inr (.inl x) => .long x
  | .inr (.inr q) => .ref (am_ad C q.2)
def am_fv (C : aC) (M : aM) (a j : Nat) (d : Nat × Nat × Nat) : Value := match d.1 with
  | 0 => .int (M.1 a j)
  | 1 => .long (M.2 a j)
  | _ => .ref (am_ad C (a + d.2.2))
def am_fs (C : aC) (M : aM) (a : Nat) : List Value := (am_fl (am_sh a)).mapIdx (fun j d => am_fv C M a j d)
abbrev am_AT : Type := Nat × Nat × Nat × Nat × Nat × Nat
def am_ac (C : aC) (M : aM) (a : Nat) (q : am_AT) : (Nat → Int32) ⊕ (Nat → Int64) ⊕ (Nat → UInt32) ⊕ (Nat → UInt64) ⊕ (Nat → Option Nat) := match q.1 with
  | 3 => .inr (.inl (M.2 a))
  | 4 => .inr (.inr (.inr (.inr (fun i => some (am_ad C (a + (q.2.2.2.2.1 + q.2.2.2.2.2 * i)))))))
  | _ => .inl (M.1 a)
def am_ce (C : aC) (M : aM) (a : Nat) : va_E := if am_sh a < 20 then .inr (am_sh a, am_fs C M a) else .inl (C.2.2.1 (am_ar (am_sh a)).2.2.1, (am_ar (am_sh a)).2.1, am_ac C M a (am_ar (am_sh a)))
def am_ws (C : aC) (M : aM) : va_W := (List.range am_N).map (fun a => (am_ad C a, am_ce C M a))
def am_A (C : aC) : Nat → Prop := fun q => C.1 ≤ q
def am_tys (C : aC) : List (ClassId × FieldType) := [(C.2.2.1 0, .int), (C.2.2.1 1, .byte), (C.2.2.1 2, .boolean), (C.2.2.1 3, .long), (C.2.2.1 4, .array .int), (C.2.2.1 5, .object "ArgumentMender$Slot"), (C.2.2.1 6, .object "ArgumentMender$Cloth")]
theorem am_N_lt {a : Nat} (h : a < am_N) : a < 5000 := Nat.lt_trans h (by decide)
theorem am_ad_in (C : aC) {a : Nat} (h : a < am_N) : am_ad C a = C.1 + a := by unfold am_ad; rw [if_pos (am_N_lt h)]
theorem am_ws_get (C : aC) (M : aM) {a : Nat} (h : a < am_N) : (am_ws C M)[a]? = some (am_ad C a, am_ce C M a) := by
  unfold am_ws
  rw [List.getElem?_map, List.getElem?_range h]
  rfl
theorem am_ws_no (C : aC) (M : aM) {a : Nat} (h : ¬ a < am_N) : (am_ws C M)[a]? = none := by
  unfold am_ws
  rw [List.getElem?_eq_none]
  simp
  omega
theorem am_ws_set (C : aC) {M M' : aM} {a : Nat} (h : a < am_N) (hM : ∀ b, b < am_N → b ≠ a → am_ce C M' b = am_ce C M b) : (am_ws C M).set a (am_ad C a, am_ce C M' a) = am_ws C M' := by
  apply List.ext_getElem?
  intro b
  by_cases hb : b < am_N
  · rw [am_ws_get C M' hb]
    by_cases e : b = a
    · subst e
      rw [List.getElem?_set_self (by simp [am_ws]; exact hb)]
    · rw [List.getElem?_set_ne (Ne.symm e), am_ws_get C M hb, hM b hb e]
  · rw [am_ws_no C M' hb, List.getElem?_eq_none]
    simp [am_ws]
    omega
theorem am_wD (C : aC) (M : aM) : va_D (am_A C) (am_ws C M) := by
  have key : ∀ (k : Nat) (q : Nat × va_E), (am_ws C M)[k]? = some q → k < am_N ∧ q.1 = C.1 + k := by
    intro k q hk
    by_cases h : k < am_N
    · rw [am_ws_get C M h] at hk
      cases hk
      exact ⟨h, am_ad_in C h⟩
    · rw [am_ws_no C M h] at hk
      cases hk
  refine ⟨fun i j p q hi hj e => ?_, fun k q hk => ?_⟩
  · have h1 := (key i p hi).2
    have h2 := (key j q hj).2
    omega
  · show C.1 ≤ q.1
    rw [(key k q hk).2]
    omega
/-! locals: a fixed row of places -/
def am_ld : aL → Nat → Option aV
  | [], _ => none
  | v :: _, 0 => v
  | _ :: r, i + 1 => am_ld r i
def am_set : aL → Nat → Option aV → aL
  | [], _, _ => []
  | _ :: r, 0, v => v :: r
  | x :: r, i + 1, v => x :: am_set r i v
theorem am_set_len : ∀ (al : aL) (i : Nat) (v : Option aV), (am_set al i v).length = al.length
  | [], _, _ => rfl
  | _ :: _, 0, _ => rfl
  | _ :: r, i + 1, v => by simp [am_set, am_set_len r i v]
theorem am_ld_set : ∀ (al : aL) (i : Nat) (v : Option aV) (k : Nat), am_ld (am_set al i v) k = if k = i ∧ i < al.length then v else am_ld al k
  | [], i, v, k => by simp [am_set, am_ld]
  | x :: r, 0, v, k => by cases k <;> simp [am_set, am_ld]
  | x :: r, i + 1, v, k => by
    cases k with
    | zero => simp [am_set, am_ld]
    | succ k => simp [am_set, am_ld, am_ld_set r i v k]
theorem am_ld_lt : ∀ (al : aL) (i : Nat) (v : aV), am_ld al i = some v → i < al.length
  | [], _, _, h => by simp [am_ld] at h
  | _ :: _, 0, _, _ => by simp
  | _ :: r, i + 1, v, h => by simpa using am_ld_lt r i v h
def am_kl (al : aL) (i : Nat) : aL := match i with
  | 0 => al
  | k + 1 => match am_ld al k with
    | some (.inr (.inl _)) => am_set al k none
    | _ => al
def am_s1 (al : aL) (i : Nat) (v : aV) : aL := am_set (am_kl al i) i (some v)
def am_s2 (al : aL) (i : Nat) (v : aV) : aL := am_set (am_set (am_kl al i) (i + 1) none) i (some v)
theorem am_kl_len (al : aL) (i : Nat) : (am_kl al i).length = al.length := by
  unfold am_kl
  split
  · rfl
  · split
    · exact am_set_len _ _ _
    · rfl
theorem am_kl_ld {al : aL} {i k : Nat} {v : aV} (h : am_ld (am_kl al i) k = some v) : am_ld al k = some v ∧ ¬ (k + 1 = i ∧ ∃ x, v = .inr (.inl x)) := by
  unfold am_kl at h
  split at h
  · exact ⟨h, fun q => by omega⟩
  · rename_i n
    split at h
    · rename_i x hx
      rw [am_ld_set] at h
      split at h
      · cases h
      · refine ⟨h, fun q => ?_⟩
        have hk : k = n := by omega
        subst hk
        rename_i hn
        exact hn ⟨rfl, am_ld_lt _ _ _ hx⟩
    · rename_i hx
      refine ⟨h, fun q => ?_⟩
      have hk : k = n := by omega
      subst hk
      obtain ⟨-, x, e⟩ := q
      subst e
      exact hx x h
def am_wkb (kd a : Nat) : Bool := (Nat.blt a am_N && Nat.beq (am_sh a) kd) || (Nat.beq kd 60 && Nat.ble 5000 a && Nat.blt a (5000 + am_nS)) || (Nat.beq kd 61 && Nat.beq a 5100) || (Nat.beq kd 62 && Nat.beq a 5200)
def am_ok (v : aV) : Prop := match v with
  | .inr (.inr q) => am_wkb q.1 q.2 = true
  | _ => True
def am_wk (st : List aV) : Prop := ∀ v ∈ st, am_ok v
def am_wl (al : aL) : Prop := ∀ (i : Nat) (v : aV), am_ld al i = some v → am_ok v
theorem am_wk_c {v : aV} {st : List aV} (h : am_ok v) (ht : am_wk st) : am_wk (v :: st) := fun u hu => by
  rcases List.mem_cons.mp hu with e | e
  · rw [e]; exact h
  · exact ht u e
theorem am_wk_t {v : aV} {st : List aV} (h : am_wk (v :: st)) : am_wk st := fun u hu => h u (List.mem_cons_of_mem _ hu)
theorem am_wk_h {v : aV} {st : List aV} (h : am_wk (v :: st)) : am_ok v := h v List.mem_cons_self
theorem am_wl_s1 {al : aL} {i : Nat} {v : aV} (h : am_wl al) (hv : am_ok v) : am_wl (am_s1 al i v) := by
  intro k u hk
  unfold am_s1 at hk
  rw [am_ld_set] at hk
  split at hk
  · cases hk; exact hv
  · exact h k u (am_kl_ld hk).1
theorem am_wl_s2 {al : aL} {i : Nat} {v : aV} (h : am_wl al) (hv : am_ok v) : am_wl (am_s2 al i v) := by
  intro k u hk
  unfold am_s2 at hk
  rw [am_ld_set] at hk
  split at hk
  · cases hk; exact hv
  · rw [am_ld_set] at hk
    split at hk
    · cases hk
    · exact h k u (am_kl_ld hk).1
def am_lh (C : aC) (ls : Array Slot) (nL : Nat) (al : aL) : Prop := ls.size = nL ∧ lv_wf ls ∧ al.length = nL ∧ ∀ (i : Nat) (v : aV), am_ld al i = some v → ls[i]? = some (.val (am_cv C v))
def am_lv (C : aC) (al : aL) (nL : Nat) : List (Nat × Value) := (List.range nL).filterMap (fun k => (am_ld al k).map (fun v => (k, am_cv C v)))
theorem am_lv_mem {C : aC} {al : aL} {nL k : Nat} {v : aV} (hk : k < nL) (h : am_ld al k = some v) : (k, am_cv C v) ∈ am_lv C al nL := by
  unfold am_lv
  exact List.mem_filterMap.mpr ⟨k, List.mem_range.mpr hk, by rw [h]; rfl⟩
theorem am_lh_has {C : aC} {ls : Array Slot} {nL : Nat} {al : aL} (h : am_lh C ls nL al) : lv_has ls nL (am_lv C al nL) := by
  refine ⟨h.1, h.2.1, fun q hq => ?_⟩
  obtain ⟨k, -, hk⟩ := List.mem_filterMap.mp hq
  cases hv : am_ld al k with
  | none => rw [hv] at hk; cases hk
  | some v =>
    rw [hv] at hk
    cases hk
    exact h.2.2.2 k v hv
theorem am_lh_sub {C : aC} {ls : Array Slot} {nL : Nat} {al al' : aL} (h : am_lh C ls nL al) (hl : al'.length = al.length) (hs : ∀ i v, am_ld al' i = some v → am_ld al i = some v) : am_lh C ls nL al' := ⟨h.1, h.2.1, hl.trans h.2.2.1, fun i v hv => h.2.2.2 i v (hs i v hv)⟩
theorem am_cat1 {C : aC} {v : aV} (h : ¬ ∃ x, v = .inr (.inl x)) : (am_cv C v).category = 1 := by
  match v with
  | .inl x => rfl
  | .inr (.inl x) => exact absurd ⟨x, rfl⟩ h
  | .inr (.inr q) => rfl
theorem am_lh_s1 {C : aC} {ls ls' : Array Slot} {nL i : Nat} {al : aL} {v : aV} (h : am_lh C ls nL al) (hi : i < nL) (h' : lv_has ls' nL ((i, am_cv C v) :: (am_lv C al nL).filter (fun q => !(q.1 == i) && !(q.1 + 1 == i && q.2.category == 2)))) : am_lh C ls' nL (am_s1 al i v) := by
  refine ⟨h'.1, h'.2.1, by unfold am_s1; rw [am_set_len, am_kl_len]; exact h.2.2.1, fun k u hk => ?_⟩
  unfold am_s1 at hk
  rw [am_ld_set] at hk
  split at hk
  · rename_i e
    cases hk
    rw [e.1]
    exact h'.2.2 (i, am_cv C v) List.mem_cons_self
  · rename_i e
    obtain ⟨h1, h2⟩ := am_kl_ld hk
    have hki : k ≠ i := fun q => e ⟨q, by rw [am_kl_len, h.2.2.1]; exact hi⟩
    refine h'.2.2 (k, am_cv C u) (List.mem_cons_of_mem _ (List.mem_filter.mpr ⟨am_lv_mem (by have := am_ld_lt _ _ _ h1; rw [h.2.2.1] at this; exact this) h1, ?_⟩))
    by_cases hq : k + 1 = i
    · have := am_cat1 (C := C) (v := u) (fun z => h2 ⟨hq, z⟩)
      simp [hki, this]
    · simp [hki, hq]
theorem am_lh_s2 {C : aC} {ls ls' : Array Slot} {nL i : Nat} {al : aL} {v : aV} (h : am_lh C ls nL al) (hi : i + 1 < nL) (h' : lv_has ls' nL ((i, am_cv C v) :: (am_lv C al nL).filter (fun q => !(q.1 == i) && (!(q.1 == i + 1) && !(q.1 + 1 == i && q.2.category == 2))))) : am_lh C ls' nL (am_s2 al i v) := by
  refine ⟨h'.1, h'.2.1, by unfold am_s2; rw [am_set_len, am_set_len, am_kl_len]; exact h.2.2.1, fun k u hk => ?_⟩
  unfold am_s2 at hk
  rw [am_ld_set] at hk
  split at hk
  · rename_i e
    cases hk
    rw [e.1]
    exact h'.2.2 (i, am_cv C v) List.mem_cons_self
  · rename_i e
    rw [am_ld_set] at hk
    split at hk
    · cases hk
    · rename_i e2
      obtain ⟨h1, h2⟩ := am_kl_ld hk
      have hki : k ≠ i := fun q => e ⟨q, by rw [am_set_len, am_kl_len, h.2.2.1]; omega⟩
      have hki2 : k ≠ i + 1 := fun q => e2 ⟨q, by rw [am_kl_len, h.2.2.1]; omega⟩
      refine h'.2.2 (k, am_cv C u) (List.mem_cons_of_mem _ (List.mem_filter.mpr ⟨am_lv_mem (by have := am_ld_lt _ _ _ h1; rw [h.2.2.1] at this; exact this) h1, ?_⟩))
      by_cases hq : k + 1 = i
      · have := am_cat1 (C := C) (v := u) (fun z => h2 ⟨hq, z⟩)
        simp [hki, hki2, this]
      · simp [hki, hki2, hq]
def am_inB (j : Int32) (n : Nat) : Bool := !(decide (j < 0) || Nat.ble n j.toNatClampNeg)
theorem am_inB_in {j : Int32} {n : Nat} (h : am_inB j n = true) : vp_in j n := by
  unfold am_inB at h
  unfold vp_in
  simp only [Bool.not_eq_true', Bool.or_eq_false_iff, decide_eq_false_iff_not] at h
  intro q
  rcases q with q | q
  · exact h.1 q
  · have := Nat.ble_eq_true_of_le q
    rw [this] at h
    exact absurd h.2 (by decide)
/-! ===== one step: to a continuation ===== -/
def am_pop : Nat → List aV → List aV → Option (List aV × List aV)
  | 0, acc, st => some (acc, st)
  | n + 1, acc, v :: st => am_pop n (v :: acc) st
  | _ + 1, _, [] => none
def am_wd : List aV → Nat
  | [] => 0
  | .inr (.inl _) :: r => 2 + am_wd r
  | _ :: r => 1 + am_wd r
def am_ret (rt : Nat) (ins : Instr) (st : List aV) (M : aM) : Option aR := match ins, st with
  | .ireturn, [.inl v] => match rt with
    | 0 => some (some (.inl v), M)
    | 1 => some (some (.inl (v &&& 1)), M)
    | _ => none
  | .lreturn, [.inr (.inl v)] => match rt with
    | 2 => some (some (.inr (.inl v)), M)
    | _ => none
  | .areturn, [.inr (.inr q)] => match rt with
    | 3 => some (some (.inr (.inr q)), M)
    | _ => none
  | .return_, [] => match rt with
    | 4 => some (none, M)
    | _ => none
  | _, _ => none
def am_bi (o : Option aR) (f : Int32 → aM → Option aR) : Option aR := match o with
  | some (some (.inl v), M) => f v M
  | _ => none
def am_bl (o : Option aR) (f : Int64 → aM → Option aR) : Option aR := match o with
  | some (some (.inr (.inl v)), M) => f v M
  | _ => none
/-- the one reference that is ever answered -/
def am_br (o : Option aR) (f : aM → Option aR) : Option aR := match o with
  | some (some (.inr (.inr (kq, a))), M) => match Nat.beq kq am_tk, Nat.beq a am_ta with
    | true, true => f M
    | _, _ => none
  | _ => none
def am_bv (o : Option aR) (f : aM → Option aR) : Option aR := match o with
  | some (none, M) => f M
  | _ => none
/-- the callee's answer, by its kind: 0 an int, 2 a long, 3 a reference, else nothing -/
def am_back (kd : Nat) (k : aK) (pc : Nat) (al : aL) (r : List aV) (o : Option aR) : Option aR := match kd with
  | 0 => am_bi o (fun v M => k (pc + 3) al (.inl v :: r) M)
  | 2 => am_bl o (fun v M => k (pc + 3) al (.inr (.inl v) :: r) M)
  | 3 => am_br o (fun M => k (pc + 3) al (.inr (.inr (am_tk, am_ta)) :: r) M)
  | _ => am_bv o (fun M => k (pc + 3) al r M)
def am_cpOk (sp dp n : Int32) (l0 l1 : Nat) : Bool := !(decide (sp < 0)) && !(decide (dp < 0)) && !(decide (n < 0)) && Nat.ble (sp.toNatClampNeg + n.toNatClampNeg) l0 && Nat.ble (dp.toNatClampNeg + n.toNatClampNeg) l1

def am_iadd (k : aK) (pc : Nat) (al : aL) (st : List aV) (M : aM) : Option aR := match st with
  | .inl y :: .inl x :: r => k (pc + 1) al (.inl (x + y) :: r) M
  | _ => none
def am_isub (k : aK) (pc : Nat) (al : aL) (st : List aV) (M : aM) : Option aR := match st with
  | .inl y :: .inl x :: r => k (pc + 1) al (.inl (x - y) :: r) M
  | _ => none
def am_imul (k : aK) (pc : Nat) (al : aL) (st : List aV) (M : aM) : Option aR := match st with
  | .inl y :: .inl x :: r => k (pc + 1) al (.inl (x * y) :: r) M
  | _ => none
def am_iand (k : aK) (pc : Nat) (al : aL) (st : List aV) (M : aM) : Option aR := match st with
  | .inl y :: .inl x :: r => k (pc + 1) al (.inl (x &&& y) :: r) M
  | _ => none
def am_ior (k : aK) (pc : Nat) (al : aL) (st : List aV) (M : aM) : Option aR := match st with
  | .inl y :: .inl x :: r => k (pc + 1) al (.inl (x ||| y) :: r) M
  | _ => none
def am_ixor (k : aK) (pc : Nat) (al : aL) (st : List aV) (M : aM) : Option aR := match st with
  | .inl y :: .inl x :: r => k (pc + 1) al (.inl (x ^^^ y) :: r) M
  | _ => none
def am_ishl (k : aK) (pc : Nat) (al : aL) (st : List aV) (M : aM) : Option aR := match st with
  | .inl y :: .inl x :: r => k (pc + 1) al (.inl (x <<< (y &&& 31)) :: r) M
  | _ => none
def am_ishr (k : aK) (pc : Nat) (al : aL) (st : List aV) (M : aM) : Option aR := match st with
  | .inl y :: .inl x :: r => k (pc + 1) al (.inl (x >>> (y &&& 31)) :: r) M
  | _ => none
def am_iushr (k : aK) (pc : Nat) (al : aL) (st : List aV) (M : aM) : Option aR := match st with
  | .inl y :: .inl x :: r => k (pc + 1) al (.inl ((x.toUInt32 >>> (y.toUInt32 &&& Int32.toUInt32 31)).toInt32) :: r) M
  | _ => none
def am_idiv (k : aK) (pc : Nat) (al : aL) (st : List aV) (M : aM) : Option aR := match st with
  | .inl y :: .inl x :: r => if y = 0 then none else k (pc + 1) al (.inl (x / y) :: r) M
  | _ => none
def am_irem (k : aK) (pc : Nat) (al : aL) (st : List aV) (M : aM) : Option aR := match st with
  | .inl y :: .inl x :: r => if y = 0 then none else k (pc + 1) al (.inl (x - x / y * y) :: r) M
  | _ => none
def am_ladd (k : aK) (pc : Nat) (al : aL) (st : List aV) (M : aM) : Option aR := match st with
  | .inr (.inl y) :: .inr (.inl x) :: r => k (pc + 1) al (.inr (.inl (x + y)) :: r) M
  | _ => none
def am_lsub (k : aK) (pc : Nat) (al : aL) (st : List aV) (M : aM) : Option aR := match st with
  | .inr (.inl y) :: .inr (.inl x) :: r => k (pc + 1) al (.inr (.inl (x - y)) :: r) M
  | _ => none
def am_lmul (k : aK) (pc : Nat) (al : aL) (st : List aV) (M : aM) : Option aR := match st with
  | .inr (.inl y) :: .inr (.inl x) :: r => k (pc + 1) al (.inr (.inl (x * y)) :: r) M
  | _ => none
def am_land (k : aK) (pc : Nat) (al : aL) (st : List aV) (M : aM) : Option aR := match st with
  | .inr (.inl y) :: .inr (.inl x) :: r => k (pc + 1) al (.inr (.inl (x &&& y)) :: r) M
  | _ => none
def am_lor (k : aK) (pc : Nat) (al : aL) (st : List aV) (M : aM) : Option aR := match st with
  | .inr (.inl y) :: .inr (.inl x) :: r => k (pc + 1) al (.inr (.inl (x ||| y)) :: r) M
  | _ => none
def am_ldiv (k : aK) (pc : Nat) (al : aL) (st : List aV) (M : aM) : Option aR := match st with
  | .inr (.inl y) :: .inr (.inl x) :: r => if y = 0 then none else k (pc + 1) al (.inr (.inl (x / y)) :: r) M
  | _ => none
def am_lrem (k : aK) (pc : Nat) (al : aL) (st : List aV) (M : aM) : Option aR := match st with
  | .inr (.inl y) :: .inr (.inl x) :: r => if y = 0 then none else k (pc + 1) al (.inr (.inl (x - x / y * y)) :: r) M
  | _ => none
def am_lshl (k : aK) (pc : Nat) (al : aL) (st : List aV) (M : aM) : Option aR := match st with
  | .inl y :: .inr (.inl x) :: r => k (pc + 1) al (.inr (.inl (x <<< (y.toInt64 &&& 63))) :: r) M
  | _ => none
def am_lshr (k : aK) (pc : Nat) (al : aL) (st : List aV) (M : aM) : Option aR := match st with
  | .inl y :: .inr (.inl x) :: r => k (pc + 1) al (.inr (.inl (x >>> (y.toInt64 &&& 63))) :: r) M
  | _ => none
def am_ineg (k : aK) (pc : Nat) (al : aL) (st : List aV) (M : aM) : Option aR := match st with
  | .inl x :: r => k (pc + 1) al (.inl (-x) :: r) M
  | _ => none
def am_i2b (k : aK) (pc : Nat) (al : aL) (st : List aV) (M : aM) : Option aR := match st with
  | .inl x :: r => k (pc + 1) al (.inl (x.toInt8.toInt32) :: r) M
  | _ => none
def am_i2s (k : aK) (pc : Nat) (al : aL) (st : List aV) (M : aM) : Option aR := match st with
  | .inl x :: r => k (pc + 1) al (.inl (x.toInt16.toInt32) :: r) M
  | _ => none
def am_i2c (k : aK) (pc : Nat) (al : aL) (st : List aV) (M : aM) : Option aR := match st with
  | .inl x :: r => k (pc + 1) al (.inl ((x.toUInt32 % 65536).toInt32) :: r) M
  | _ => none
def am_lneg (k : aK) (pc : Nat) (al : aL) (st : List aV) (M : aM) : Option aR := match st with
  | .inr (.inl x) :: r => k (pc + 1) al (.inr (.inl (-x)) :: r) M
  | _ => none
def am_i2l (k : aK) (pc : Nat) (al : aL) (st : List aV) (M : aM) : Option aR := match st with
  | .inl x :: r => k (pc + 1) al (.inr (.inl x.toInt64) :: r) M
  | _ => none
def am_l2i (k : aK) (pc : Nat) (al : aL) (st : List aV) (M : aM) : Option aR := match st with
  | .inr (.inl x) :: r => k (pc + 1) al (.inl x.toInt32 :: r) M
  | _ => none
def am_lcmp (k : aK) (pc : Nat) (al : aL) (st : List aV) (M : aM) : Option aR := match st with
  | .inr (.inl y) :: .inr (.inl x) :: r => k (pc + 1) al (.inl (lg_cmp x y) :: r) M
  | _ => none
def am_ifeq (t : Nat) (k : aK) (pc : Nat) (al : aL) (st : List aV) (M : aM) : Option aR := match st with
  | .inl x :: r => if x = 0 then k t al r M else k (pc + 3) al r M
  | _ => none
def am_iceq (t : Nat) (k : aK) (pc : Nat) (al : aL) (st : List aV) (M : aM) : Option aR := match st with
  | .inl y :: .inl x :: r => if x = y then k t al r M else k (pc + 3) al r M
  | _ => none
def am_ifne (t : Nat) (k : aK) (pc : Nat) (al : aL) (st : List aV) (M : aM) : Option aR := match st with
  | .inl x :: r => if ¬ x = 0 then k t al r M else k (pc + 3) al r M
  | _ => none
def am_icne (t : Nat) (k : aK) (pc : Nat) (al : aL) (st : List aV) (M : aM) : Option aR := match st with
  | .inl y :: .inl x :: r => if ¬ x = y then k t al r M else k (pc + 3) al r M
  | _ => none
def am_iflt (t : Nat) (k : aK) (pc : Nat) (al : aL) (st : List aV) (M : aM) : Option aR := match st with
  | .inl x :: r => if x < 0 then k t al r M else k (pc + 3) al r M
  | _ => none
def am_iclt (t : Nat) (k : aK) (pc : Nat) (al : aL) (st : List aV) (M : aM) : Option aR := match st with
  | .inl y :: .inl x :: r => if x < y then k t al r M else k (pc + 3) al r M
  | _ => none
def am_ifge (t : Nat) (k : aK) (pc : Nat) (al : aL) (st : List aV) (M : aM) : Option aR := match st with
  | .inl x :: r => if 0 ≤ x then k t al r M else k (pc + 3) al r M
  | _ => none
def am_icge (t : Nat) (k : aK) (pc : Nat) (al : aL) (st : List aV) (M : aM) : Option aR := match st with
  | .inl y :: .inl x :: r => if y ≤ x then k t al r M else k (pc + 3) al r M
  | _ => none
def am_ifgt (t : Nat) (k : aK) (pc : Nat) (al : aL) (st : List aV) (M : aM) : Option aR := match st with
  | .inl x :: r => if 0 < x then k t al r M else k (pc + 3) al r M
  | _ => none
def am_icgt (t : Nat) (k : aK) (pc : Nat) (al : aL) (st : List aV) (M : aM) : Option aR := match st with
  | .inl y :: .inl x :: r => if y < x then k t al r M else k (pc + 3) al r M
  | _ => none
def am_ifle (t : Nat) (k : aK) (pc : Nat) (al : aL) (st : List aV) (M : aM) : Option aR := match st with
  | .inl x :: r => if x ≤ 0 then k t al r M else k (pc + 3) al r M
  | _ => none
def am_icle (t : Nat) (k : aK) (pc : Nat) (al : aL) (st : List aV) (M : aM) : Option aR := match st with
  | .inl y :: .inl x :: r => if x ≤ y then k t al r M else k (pc + 3) al r M
  | _ => none
def am_dup (k : aK) (pc : Nat) (al : aL) (st : List aV) (M : aM) : Option aR := match st with
  | .inl x :: r => k (pc + 1) al (.inl x :: .inl x :: r) M
  | .inr (.inr q) :: r => k (pc + 1) al (.inr (.inr q) :: .inr (.inr q) :: r) M
  | _ => none
def am_dup2 (k : aK) (pc : Nat) (al : aL) (st : List aV) (M : aM) : Option aR := match st with
  | .inl x :: .inr (.inr q) :: r => k (pc + 1) al (.inl x :: .inr (.inr q) :: .inl x :: .inr (.inr q) :: r) M
  | _ => none
def am_popi (k : aK) (pc : Nat) (al : aL) (st : List aV) (M : aM) : Option aR := match st with
  | .inl _ :: r => k (pc + 1) al r M
  | .inr (.inr _) :: r => k (pc + 1) al r M
  | _ => none
def am_il (n i : Nat) (k : aK) (pc : Nat) (al : aL) (st : List aV) (M : aM) : Option aR := match am_ld al i with
  | some (.inl x) => k (pc + n) al (.inl x :: st) M
  | _ => none
def am_ll (n i : Nat) (k : aK) (pc : Nat) (al : aL) (st : List aV) (M : aM) : Option aR := match am_ld al i with
  | some (.inr (.inl x)) => k (pc + n) al (.inr (.inl x) :: st) M
  | _ => none
def am_al (n i : Nat) (k : aK) (pc : Nat) (al : aL) (st : List aV) (M : aM) : Option aR := match am_ld al i with
  | some (.inr (.inr q)) => k (pc + n) al (.inr (.inr q) :: st) M
  | _ => none
def am_is (n i : Nat) (k : aK) (pc : Nat) (al : aL) (st : List aV) (M : aM) : Option aR := match Nat.blt i al.length, st with
  | true, .inl x :: r => k (pc + n) (am_s1 al i (.inl x)) r M
  | _, _ => none
def am_ls (n i : Nat) (k : aK) (pc : Nat) (al : aL) (st : List aV) (M : aM) : Option aR := match Nat.blt (i + 1) al.length, st with
  | true, .inr (.inl x) :: r => k (pc + n) (am_s2 al i (.inr (.inl x))) r M
  | _, _ => none
def am_as (n i : Nat) (k : aK) (pc : Nat) (al : aL) (st : List aV) (M : aM) : Option aR := match Nat.blt i al.length, st with
  | true, .inr (.inr q) :: r => k (pc + n) (am_s1 al i (.inr (.inr q))) r M
  | _, _ => none
def am_inc (i : Nat) (d : Int32) (k : aK) (pc : Nat) (al : aL) (st : List aV) (M : aM) : Option aR := match am_ld al i with
  | some (.inl x) => k (pc + 3) (am_s1 al i (.inl (x + d))) st M
  | _ => none
def am_fd (kd f : Nat) : Nat × Nat × Nat := (am_fl kd).getD f (9, 0, 0)
def am_gf (kd f : Nat) (k : aK) (pc : Nat) (al : aL) (st : List aV) (M : aM) : Option aR := match st with
  | .inr (.inr (kq, a)) :: r => match Nat.beq kq kd, am_fd kd f with
    | true, (0, _, _) => k (pc + 3) al (.inl (M.1 a f) :: r) M
    | true, (1, _, _) => k (pc + 3) al (.inr (.inl (M.2 a f)) :: r) M
    | true, (2, k2, d) => k (pc + 3) al (.inr (.inr (k2, a + d)) :: r) M
    | _, _ => none
  | _ => none
def am_pf (kd f : Nat) (k : aK) (pc : Nat) (al : aL) (st : List aV) (M : aM) : Option aR := match st with
  | .inl v :: .inr (.inr (kq, a)) :: r => match Nat.beq kq kd, am_fd kd f with
    | true, (0, _, _) => k (pc + 3) al r (am_u M.1 a f v, M.2)
    | _, _ => none
  | .inr (.inl v) :: .inr (.inr (kq, a)) :: r => match Nat.beq kq kd, am_fd kd f with
    | true, (1, _, _) => k (pc + 3) al r (M.1, am_ul M.2 a f v)
    | _, _ => none
  | _ => none
def am_iald (X : Option (Nat × (Nat → Int32))) (k : aK) (pc : Nat) (al : aL) (st : List aV) (M : aM) : Option aR := match st with
  | .inl j :: .inr (.inr (kq, a)) :: r => match am_ar kq with
    | (0, n, _, _, _, _) => if am_inB j n then k (pc + 1) al (.inl (M.1 a j.toNatClampNeg) :: r) M else none
    | (7, _, _, _, _, _) => if am_inB j 9 then k (pc + 1) al (.inl (am_fact j.toNatClampNeg) :: r) M else none
    | (8, _, _, _, _, _) => match X with
      | some (n, xs) => if am_inB j n then k (pc + 1) al (.inl (xs j.toNatClampNeg) :: r) M else none
      | none => none
    | _ => none
  | _ => none
def am_bald (k : aK) (pc : Nat) (al : aL) (st : List aV) (M : aM) : Option aR := match st with
  | .inl j :: .inr (.inr (kq, a)) :: r => match am_ar kq with
    | (1, n, _, _, _, _) => if am_inB j n then k (pc + 1) al (.inl (M.1 a j.toNatClampNeg) :: r) M else none
    | (2, n, _, _, _, _) => if am_inB j n then k (pc + 1) al (.inl (M.1 a j.toNatClampNeg) :: r) M else none
    | _ => none
  | _ => none
def am_lald (k : aK) (pc : Nat) (al : aL) (st : List aV) (M : aM) : Option aR := match st with
  | .inl j :: .inr (.inr (kq, a)) :: r => match am_ar kq with
    | (3, n, _, _, _, _) => if am_inB j n then k (pc + 1) al (.inr (.inl (M.2 a j.toNatClampNeg)) :: r) M else none
    | _ => none
  | _ => none
def am_aald (k : aK) (pc : Nat) (al : aL) (st : List aV) (M : aM) : Option aR := match st with
  | .inl j :: .inr (.inr (kq, a)) :: r => match am_ar kq with
    | (4, n, _, ek, o, d) => if am_inB j n then k (pc + 1) al (.inr (.inr (ek, a + (o + d * j.toNatClampNeg))) :: r) M else none
    | _ => none
  | _ => none
def am_iast (k : aK) (pc : Nat) (al : aL) (st : List aV) (M : aM) : Option aR := match st with
  | .inl v :: .inl j :: .inr (.inr (kq, a)) :: r => match am_ar kq with
    | (0, n, _, _, _, _) => if am_inB j n then k (pc + 1) al r (am_u M.1 a j.toNatClampNeg v, M.2) else none
    | _ => none
  | _ => none
def am_bast (k : aK) (pc : Nat) (al : aL) (st : List aV) (M : aM) : Option aR := match st with
  | .inl v :: .inl j :: .inr (.inr (kq, a)) :: r => match am_ar kq with
    | (1, n, _, _, _, _) => if am_inB j n then k (pc + 1) al r (am_u M.1 a j.toNatClampNeg v.toInt8.toInt32, M.2) else none
    | (2, n, _, _, _, _) => if am_inB j n then k (pc + 1) al r (am_u M.1 a j.toNatClampNeg (v &&& 1), M.2) else none
    | _ => none
  | _ => none
def am_last (k : aK) (pc : Nat) (al : aL) (st : List aV) (M : aM) : Option aR := match st with
  | .inr (.inl v) :: .inl j :: .inr (.inr (kq, a)) :: r => match am_ar kq with
    | (3, n, _, _, _, _) => if am_inB j n then k (pc + 1) al r (M.1, am_ul M.2 a j.toNatClampNeg v) else none
    | _ => none
  | _ => none
def am_alen (X : Option (Nat × (Nat → Int32))) (k : aK) (pc : Nat) (al : aL) (st : List aV) (M : aM) : Option aR := match st with
  | .inr (.inr (kq, _)) :: r => match am_ar kq with
    | (0, n, _, _, _, _) => k (pc + 1) al (.inl (nI n) :: r) M
    | (3, n, _, _, _, _) => k (pc + 1) al (.inl (nI n) :: r) M
    | (8, _, _, _, _, _) => match X with
      | some (n, _) => k (pc + 1) al (.inl (nI n) :: r) M
      | none => none
    | _ => none
  | _ => none
/-- invokevirtual: the callee's arguments are taken off, its answer comes back; x: receiver's kind, arguments, kind of answer -/
def am_iv (sem : Nat → List aV → aM → Option aR) (j x : Nat) (k : aK) (pc : Nat) (al : aL) (st : List aV) (M : aM) : Option aR := match am_pop (x / 10 % 100 + 1) [] st with
  | some (.inr (.inr (kq, a)) :: as, r) => match Nat.beq kq (x / 1000), Nat.ble (am_wd r) 8 with
    | true, true => am_back (x % 10) k pc al r (sem j (.inr (.inr (kq, a)) :: as) M)
    | _, _ => none
  | _ => none
def am_cpi (k : aK) (pc : Nat) (al : aL) (st : List aV) (M : aM) : Option aR := match st with
  | .inl n :: .inl dp :: .inr (.inr (k1, a)) :: .inl sp :: .inr (.inr (k0, b)) :: r => match am_ar k0, am_ar k1, Nat.ble (am_wd r) 4 with
    | (0, l0, _, _, _, _), (0, l1, _, _, _, _), true => if am_cpOk sp dp n l0 l1 then k (pc + 3) al r (am_ua M.1 a (va_cpy (M.1 b) (M.1 a) sp.toNatClampNeg dp.toNatClampNeg n.toNatClampNeg), M.2) else none
    | (3, l0, _, _, _, _), (3, l1, _, _, _, _), true => if am_cpOk sp dp n l0 l1 then k (pc + 3) al r (M.1, am_ua M.2 a (va_cpy (M.2 b) (M.2 a) sp.toNatClampNeg dp.toNatClampNeg n.toNatClampNeg)) else none
    | _, _, _ => none
  | _ => none
def am_mn (k : aK) (pc : Nat) (al : aL) (st : List aV) (M : aM) : Option aR := match st with
  | .inl y :: .inl x :: r => match Nat.ble (am_wd r) 8 with
    | true => k (pc + 3) al (.inl (if y < x then y else x) :: r) M
    | false => none
  | _ => none
def am_mx (k : aK) (pc : Nat) (al : aL) (st : List aV) (M : aM) : Option aR := match st with
  | .inl y :: .inl x :: r => match Nat.ble (am_wd r) 8 with
    | true => k (pc + 3) al (.inl (if x < y then y else x) :: r) M
    | false => none
  | _ => none
def am_ab (k : aK) (pc : Nat) (al : aL) (st : List aV) (M : aM) : Option aR := match st with
  | .inr (.inl x) :: r => match Nat.ble (am_wd r) 8 with
    | true => k (pc + 3) al (.inr (.inl (if 0 < x then x else -x)) :: r) M
    | false => none
  | _ => none
def am_iS (sem : Nat → List aV → aM → Option aR) (j x : Nat) (k : aK) (pc : Nat) (al : aL) (st : List aV) (M : aM) : Option aR := match am_pop (x / 10) [] st with
  | some (as, r) => match Nat.ble (am_wd r) 8 with
    | true => am_back (x % 10) k pc al r (sem j as M)
    | false => none
  | none => none
def am_sw (k : aK) (al : aL) (r : List aV) (M : aM) (x : Int32) (d : Nat) : List (Int32 × Nat) → Option aR
  | [] => k d al r M
  | (c, t) :: q => if x = c then k t al r M else am_sw k al r M x d q

def am_len (ins : Instr) : Nat := match ins with
  | .iload _ | .lload _ | .aload _ | .istore _ | .lstore _ | .astore _ | .bipush _ | .ldc _ => 2
  | .sipush _ | .iinc _ _ | .goto _ | .if_icmp _ _ | .ifCond _ _ | .getfield _ | .putfield _ | .getstatic _ | .invokevirtual _ | .invokestatic _ | .ldc_w _ | .ldc2_w _ => 3
  | _ => 1
def am_stp (X : Option (Nat × (Nat → Int32))) (sws : List (List (Int32 × Nat) × Nat)) (sem : Nat → List aV → aM → Option aR) (rt : Nat) (k : aK) (ins : Instr) (a1 a2 : Nat) (a3 : Int32) (a4 : Int64) (pc : Nat) (al : aL) (st : List aV) (M : aM) : Option aR := match ins with
  | .iconst _ => k (pc + 1) al (.inl a3 :: st) M
  | .bipush _ => k (pc + 2) al (.inl a3 :: st) M
  | .sipush _ => k (pc + 3) al (.inl a3 :: st) M
  | .lconst _ => k (pc + 1) al (.inr (.inl a4) :: st) M
  | .ldc _ => match a2 with
    | 0 => k (pc + 2) al (.inl a3 :: st) M
    | _ => k (pc + 2) al (.inr (.inr (60, 5000 + a1)) :: st) M
  | .ldc_w _ => k (pc + 3) al (.inl a3 :: st) M
  | .ldc2_w _ => k (pc + 3) al (.inr (.inl a4) :: st) M
  | .iload_n _ => am_il 1 a1 k pc al st M
  | .iload _ => am_il 2 a1 k pc al st M
  | .lload_n _ => am_ll 1 a1 k pc al st M
  | .lload _ => am_ll 2 a1 k pc al st M
  | .aload_n _ => am_al 1 a1 k pc al st M
  | .aload _ => am_al 2 a1 k pc al st M
  | .istore_n _ => am_is 1 a1 k pc al st M
  | .istore _ => am_is 2 a1 k pc al st M
  | .lstore_n _ => am_ls 1 a1 k pc al st M
  | .lstore _ => am_ls 2 a1 k pc al st M
  | .astore_n _ => am_as 1 a1 k pc al st M
  | .astore _ => am_as 2 a1 k pc al st M
  | .iinc _ _ => am_inc a1 a3 k pc al st M
  | .dup => am_dup k pc al st M
  | .dup2 => am_dup2 k pc al st M
  | .pop => am_popi k pc al st M
  | .goto _ => k a1 al st M
  | .ifCond .eq _ => am_ifeq a1 k pc al st M
  | .ifCond .ne _ => am_ifne a1 k pc al st M
  | .ifCond .lt _ => am_iflt a1 k pc al st M
  | .ifCond .ge _ => am_ifge a1 k pc al st M
  | .ifCond .gt _ => am_ifgt a1 k pc al st M
  | .ifCond .le _ => am_ifle a1 k pc al st M
  | .if_icmp .eq _ => am_iceq a1 k pc al st M
  | .if_icmp .ne _ => am_icne a1 k pc al st M
  | .if_icmp .lt _ => am_iclt a1 k pc al st M
  | .if_icmp .ge _ => am_icge a1 k pc al st M
  | .if_icmp .gt _ => am_icgt a1 k pc al st M
  | .if_icmp .le _ => am_icle a1 k pc al st M
  | .getfield _ => am_gf a1 a2 k pc al st M
  | .putfield _ => am_pf a1 a2 k pc al st M
  | .getstatic _ => k (pc + 3) al (.inr (.inr (61, 5100)) :: st) M
  | .iaload => am_iald X k pc al st M
  | .baload => am_bald k pc al st M
  | .laload => am_lald k pc al st M
  | .aaload => am_aald k pc al st M
  | .iastore => am_iast k pc al st M
  | .bastore => am_bast k pc al st M
  | .lastore => am_last k pc al st M
  | .arraylength => am_alen X k pc al st M
  | .invokevirtual _ => am_iv sem a1 a2 k pc al st M
  | .invokestatic _ => match a2 with
    | 0 => none
    | 1 => am_cpi k pc al st M
    | 2 => am_mn k pc al st M
    | 3 => am_mx k pc al st M
    | 4 => am_ab k pc al st M
    | x + 5 => am_iS sem a1 x k pc al st M
  | .tableswitch _ _ _ _ => match st with
    | .inl x :: r => am_sw k al r M x (sws.getD a1 ([], 0)).2 (sws.getD a1 ([], 0)).1
    | _ => none
  | .iadd => am_iadd k pc al st M
  | .isub => am_isub k pc al st M
  | .imul => am_imul k pc al st M
  | .iand => am_iand k pc al st M
  | .ior => am_ior k pc al st M
  | .ixor => am_ixor k pc al st M
  | .ishl => am_ishl k pc al st M
  | .ishr => am_ishr k pc al st M
  | .iushr => am_iushr k pc al st M
  | .idiv => am_idiv k pc al st M
  | .irem => am_irem k pc al st M
  | .ladd => am_ladd k pc al st M
  | .lsub => am_lsub k pc al st M
  | .lmul => am_lmul k pc al st M
  | .land => am_land k pc al st M
  | .lor => am_lor k pc al st M
  | .ldiv => am_ldiv k pc al st M
  | .lrem => am_lrem k pc al st M
  | .lshl => am_lshl k pc al st M
  | .lshr => am_lshr k pc al st M
  | .ineg => am_ineg k pc al st M
  | .i2b => am_i2b k pc al st M
  | .i2s => am_i2s k pc al st M
  | .i2c => am_i2c k pc al st M
  | .lneg => am_lneg k pc al st M
  | .i2l => am_i2l k pc al st M
  | .l2i => am_l2i k pc al st M
  | .lcmp => am_lcmp k pc al st M
  | ins => am_ret rt ins st M
def am_chi (sws : List (List (Int32 × Nat) × Nat)) (o pc : Nat) (ins : Instr) (a1 a2 : Nat) (a3 : Int32) (a4 : Int64) : Bool := match ins with
  | .iconst n => decide (Int32.ofInt n = a3)
  | .bipush n => decide ((Int8.ofInt n).toInt32 = a3)
  | .sipush n => decide ((Int16.ofInt n).toInt32 = a3)
  | .lconst n => decide (Int64.ofNat (n : Nat) = a4)
  | .ldc i => match a2 with
    | 0 => am_lkI.any (fun q => Nat.beq q.1 o && Nat.beq q.2.1 i && decide (q.2.2.1 = a3))
    | _ => am_lkS.any (fun q => Nat.beq q.1 o && Nat.beq q.2.1 i && Nat.beq q.2.2.1 a1)
  | .ldc_w i => am_lkI.any (fun q => Nat.beq q.1 o && Nat.beq q.2.1 i && decide (q.2.2.1 = a3))
  | .ldc2_w i => am_lkL.any (fun q => Nat.beq q.1 o && Nat.beq q.2.1 i && decide (q.2.2.1 = a4))
  | .iload_n n => Nat.beq n.val a1
  | .lload_n n => Nat.beq n.val a1
  | .aload_n n => Nat.beq n.val a1
  | .istore_n n => Nat.beq n.val a1
  | .lstore_n n => Nat.beq n.val a1
  | .astore_n n => Nat.beq n.val a1
  | .iload i => Nat.beq i a1
  | .lload i => Nat.beq i a1
  | .aload i => Nat.beq i a1
  | .istore i => Nat.beq i a1
  | .lstore i => Nat.beq i a1
  | .astore i => Nat.beq i a1
  | .iinc i n => Nat.beq i a1 && decide (Int32.ofInt n = a3)
  | .goto off => decide ((pc : Int) + off = (a1 : Int))
  | .ifCond _ off => decide ((pc : Int) + off = (a1 : Int))
  | .if_icmp _ off => decide ((pc : Int) + off = (a1 : Int))
  | .getfield i => am_lkF.any (fun q => Nat.beq q.1 o && Nat.beq q.2.1 i && Nat.beq q.2.2.1 a1 && Nat.beq q.2.2.2.1 a2)
  | .putfield i => !((am_cl a1).2.1 a2).2.2.2 && am_lkF.any (fun q => Nat.beq q.1 o && Nat.beq q.2.1 i && Nat.beq q.2.2.1 a1 && Nat.beq q.2.2.2.1 a2)
  | .getstatic i => am_lkG.any (fun q => Nat.beq q.1 o && Nat.beq q.2.1 i)
  | .invokevirtual i => am_lkM.any (fun q => Nat.beq q.1 o && Nat.beq q.2.1 i && Nat.beq q.2.2.1 a1) && Nat.blt a1 9000 && (Nat.blt (am_ow a1) 12 || Nat.beq (am_rk a1) 60) && Nat.beq (am_ss a1) 0 && Nat.beq (am_np a1) (a2 / 10 % 100) && Nat.beq (am_rk a1) (a2 / 1000)
  | .invokestatic i => match a2 with
    | 0 => false
    | 1 => am_lkM.any (fun q => Nat.beq q.1 o && Nat.beq q.2.1 i && Nat.beq q.2.2.1 9999)
    | 2 => am_lkM.any (fun q => Nat.beq q.1 o && Nat.beq q.2.1 i && Nat.beq q.2.2.1 9001)
    | 3 => am_lkM.any (fun q => Nat.beq q.1 o && Nat.beq q.2.1 i && Nat.beq q.2.2.1 9002)
    | 4 => am_lkM.any (fun q => Nat.beq q.1 o && Nat.beq q.2.1 i && Nat.beq q.2.2.1 9003)
    | x + 5 => am_lkM.any (fun q => Nat.beq q.1 o && Nat.beq q.2.1 i && Nat.beq q.2.2.1 a1) && Nat.blt a1 9000 && Nat.beq (am_ss a1) 1 && Nat.beq (am_np a1) (x / 10)
  | .tableswitch d lo hi offs => decide ((pc : Int) + d = ((sws.getD a1 ([], 0)).2 : Int)) && decide (hi + 1 - lo = ((sws.getD a1 ([], 0)).1.length : Int)) && decide (offs.toList.length = (sws.getD a1 ([], 0)).1.length) && (List.range (sws.getD a1 ([], 0)).1.length).all (fun i => decide (((sws.getD a1 ([], 0)).1.getD i (0, 0)).1.toInt = lo + (i : Int)) && decide ((pc : Int) + offs.toList.getD i 0 = (((sws.getD a1 ([], 0)).1.getD i (0, 0)).2 : Int)))
  | _ => true
def am_isw (ins : Instr) : Bool := match ins with
  | .tableswitch _ _ _ _ => true
  | _ => false
def am_chk (sws : List (List (Int32 × Nat) × Nat)) (j : Nat) (q : am_E) : Bool := decide (decode (am_b j) q.1 = .ok (q.2.1, q.2.2.1)) && (am_isw q.2.1 || Nat.beq q.2.2.1 (am_len q.2.1)) && am_chi sws (am_ow j) q.1 q.2.1 q.2.2.2.1 q.2.2.2.2.1 q.2.2.2.2.2.1 q.2.2.2.2.2.2
def am_fetch : List am_E → Nat → Option (Instr × Nat × Nat × Int32 × Int64)
  | [], _ => none
  | (q, i, _, x) :: r, pc => match Nat.beq q pc with
    | true => some (i, x)
    | false => am_fetch r pc
def am_keep : List Bool → aL → aL
  | [], _ => []
  | _ :: _, [] => []
  | true :: m, v :: al => v :: am_keep m al
  | false :: m, _ :: al => none :: am_keep m al
def am_cutf : List (Nat × List Bool) → Nat → Option (List Bool)
  | [], _ => none
  | (q, m) :: r, pc => match Nat.beq q pc with
    | true => some m
    | false => am_cutf r pc
/-- from a place on until a cut, where the continuation takes over -/
def am_seg (X : Option (Nat × (Nat → Int32))) (sws : List (List (Int32 × Nat) × Nat)) (sem : Nat → List aV → aM → Option aR) (rt : Nat) (cd : List am_E) (cut : List (Nat × List Bool)) (kap : aK) : Nat → aK
  | 0 => fun _ _ _ _ => none
  | n + 1 => fun pc al st M => match am_fetch cd pc with
    | some (ins, a1, a2, a3, a4) => am_stp X sws sem rt (fun pc' al' st' M' => match am_cutf cut pc' with
      | some m => kap pc' (am_keep m al') st' M'
      | none => am_seg X sws sem rt cd cut kap n pc' al' st' M') ins a1 a2 a3 a4 pc al st M
    | none => none
