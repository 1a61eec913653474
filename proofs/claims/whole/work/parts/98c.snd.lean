/-! ===== the constructors' machine is sound ===== -/
theorem c1_rd_u (a i : Nat) (x : Int32) (Lm : c1_L) : c1_rd ((a, i, x) :: Lm) = am_u (c1_rd Lm) a i x := by
  funext b j
  unfold am_u
  rw [c1_rd]
  cases h1 : Nat.beq b a with
  | false =>
    rw [if_neg (fun q => by rw [q.1] at h1; rw [Nat.beq_refl] at h1; cases h1)]
  | true =>
    cases h2 : Nat.beq j i with
    | false => rw [if_neg (fun q => by rw [q.2] at h2; rw [Nat.beq_refl] at h2; cases h2)]
    | true => rw [if_pos ⟨am_beq h1, am_beq h2⟩]
theorem c1_M_u (a i : Nat) (x : Int32) (Lm : c1_L) : c1_M ((a, i, x) :: Lm) = (am_u (c1_M Lm).1 a i x, (c1_M Lm).2) := by
  unfold c1_M
  rw [c1_rd_u]
theorem c1_ws_succ (C : aC) (n : Nat) (M : aM) : c1_ws C (n + 1) M = c1_ws C n M ++ [(am_ad C n, c1_ce C M n)] := by
  unfold c1_ws
  rw [List.range_succ, List.map_append]
  rfl
theorem c1_ws_get (C : aC) (M : aM) {a n : Nat} (h : a < n) : (c1_ws C n M)[a]? = some (am_ad C a, c1_ce C M a) := by
  unfold c1_ws
  rw [List.getElem?_map, List.getElem?_range h]
  rfl
theorem c1_ws_no (C : aC) (M : aM) {a n : Nat} (h : ¬ a < n) : (c1_ws C n M)[a]? = none := by
  unfold c1_ws
  rw [List.getElem?_eq_none]
  simp
  omega
theorem c1_ws_set (C : aC) {M M' : aM} {a n : Nat} (h : a < n) (hM : ∀ b, b < n → b ≠ a → c1_ce C M' b = c1_ce C M b) : (c1_ws C n M).set a (am_ad C a, c1_ce C M' a) = c1_ws C n M' := by
  apply List.ext_getElem?
  intro b
  by_cases hb : b < n
  · rw [c1_ws_get C M' hb]
    by_cases e : b = a
    · subst e
      rw [List.getElem?_set_self (by simp [c1_ws]; exact hb)]
    · rw [List.getElem?_set_ne (Ne.symm e), c1_ws_get C M hb, hM b hb e]
  · rw [c1_ws_no C M' hb, List.getElem?_eq_none]
    simp [c1_ws]
    omega
theorem c1_wD (C : aC) (M : aM) {n : Nat} (hn : n ≤ am_N) : va_D (am_A C) (c1_ws C n M) := by
  have key : ∀ (k : Nat) (q : Nat × va_E), (c1_ws C n M)[k]? = some q → k < n ∧ q.1 = C.1 + k := by
    intro k q hk
    by_cases h : k < n
    · rw [c1_ws_get C M h] at hk
      cases hk
      exact ⟨h, am_ad_in C (Nat.lt_of_lt_of_le h hn)⟩
    · rw [c1_ws_no C M h] at hk
      cases hk
  refine ⟨fun i j p q hi hj e => ?_, fun k q hk => ?_⟩
  · have h1 := (key i p hi).2
    have h2 := (key j q hj).2
    omega
  · show C.1 ≤ q.1
    rw [(key k q hk).2]
    omega
theorem c1_ce_same {C : aC} {M M' : aM} {b : Nat} (h1 : M'.1 b = M.1 b) (h2 : M'.2 b = M.2 b) : c1_ce C M' b = c1_ce C M b := by
  unfold c1_ce
  have e1 : c1_fs C M' b = c1_fs C M b := by
    unfold c1_fs c1_fv
    simp only [h1, h2]
  have e2 : ∀ q, c1_ac C M' b q = c1_ac C M b q := by
    intro q
    unfold c1_ac
    simp only [h1, h2]
  rw [e1, e2]
theorem c1_ce_o {C : aC} {M : aM} {a kd : Nat} (h : am_sh a = kd) (hk : kd < 20) : c1_ce C M a = .inr (kd, c1_fs C M a) := by
  unfold c1_ce
  rw [h, if_pos hk]
theorem c1_ce_a {C : aC} {M : aM} {a kd : Nat} {q : am_AT} (ha : a < am_N) (h : am_sh a = kd) (hq : am_ar kd = q) (h9 : q.1 ≠ 9) : c1_ce C M a = .inl (C.2.2.1 q.2.2.1, q.2.1, c1_ac C M a q) := by
  unfold c1_ce
  subst h
  rw [if_neg (fun z => h9 (by rw [← hq]; exact (am_clo_k ha).1.mp z)), hq]
theorem c1_fs_at {C : aC} {M : aM} {a kd f : Nat} {q : Nat × Nat × Nat} (h : am_sh a = kd) (hq : am_fd kd f = q) (h9 : q.1 ≠ 9) : (c1_fs C M a)[f]? = some (c1_fv C M a f q) := by
  unfold c1_fs
  rw [List.getElem?_mapIdx, h, am_fd_at hq h9]
  rfl
theorem c1_fs_u {C : aC} {M : aM} {a f : Nat} {v : Int32} {q : Nat × Nat × Nat} (hq : am_fd (am_sh a) f = q) (h9 : q.1 ≠ 9) : c1_fs C (am_u M.1 a f v, M.2) a = (c1_fs C M a).set f (c1_fv C (am_u M.1 a f v, M.2) a f q) := by
  have hl := am_fd_at hq h9
  have hlt : f < (am_fl (am_sh a)).length := (List.getElem?_eq_some_iff.mp hl).1
  apply List.ext_getElem?
  intro i
  unfold c1_fs
  by_cases e : i = f
  · subst e
    rw [List.getElem?_set_self (by simpa using hlt), List.getElem?_mapIdx, hl]
    rfl
  · rw [List.getElem?_set_ne (Ne.symm e), List.getElem?_mapIdx, List.getElem?_mapIdx]
    congr 1
    funext q
    unfold c1_fv
    have e2 : am_u M.1 a f v a i = M.1 a i := by unfold am_u; rw [if_neg (fun q => e q.2)]
    simp only [e2]
def c1_Z (n : Nat) (M : aM) : Prop := ∀ a, n ≤ a → ∀ j, M.1 a j = 0 ∧ M.2 a j = 0
def c1_P (C : aC) (n : Nat) (M : aM) (H : Heap) : Prop := n ≤ am_N ∧ H.size = C.1 + n ∧ c1_Z n M ∧ va_P C.2.1 vwCl (c1_ws C n M) H
theorem c1_Z_u {n : Nat} {M : aM} (h : c1_Z n M) {a i : Nat} {x : Int32} (ha : a < n) : c1_Z n (am_u M.1 a i x, M.2) := fun b hb j => by
  refine ⟨?_, (h b hb j).2⟩
  show am_u M.1 a i x b j = 0
  rw [am_u_ne (by omega)]
  exact (h b hb j).1
/-- a new cell at the frontier -/
theorem c1_push {C : aC} {n : Nat} {M : aM} {H H1 : Heap} (hP : c1_P C n M H) (hn : n < am_N) (hat : va_at C.2.1 vwCl (am_ad C n, c1_ce C M n) H1) (hz : H1.size = C.1 + n + 1) (ho : ∀ q : Nat, q < C.1 + n → H1[q]? = H[q]?) : c1_P C (n + 1) M H1 := by
  obtain ⟨h1, h2, h3, h4⟩ := hP
  refine ⟨hn, by omega, fun a ha => h3 a (by omega), ?_⟩
  rw [c1_ws_succ]
  refine (h4.kept (fun k x hx => ho x.1 (by rw [← h2]; exact (h4 k x hx).lt))).app (fun k x hx => ?_)
  have hz : k < 1 := (List.getElem?_eq_some_iff.mp hx).1
  rw [show k = 0 by omega] at hx
  cases hx
  exact hat
theorem c1_gr {C : aC} {s : State} {H H1 : Heap} {locs : List Loc} {n k : Nat} (hS : va_S (am_A C) s.heap H locs) (h2 : H.size = C.1 + n) (hz : H1.size = C.1 + n + k) (ho : ∀ q : Nat, q < C.1 + n → H1[q]? = H[q]?) : va_S (am_A C) s.heap H1 locs := by
  obtain ⟨a1, a2, a3⟩ := hS
  exact ⟨by omega, fun q h1 h2' => by rw [ho q (by omega)]; exact a2 q h1 h2', a3⟩
theorem c1_S_le {a b : Nat} (h : a ≤ b) : c1_S a ≤ c1_S b := by
  induction b with
  | zero => have e : a = 0 := by omega
            rw [e]; exact Nat.le_refl _
  | succ b ih =>
    by_cases e : a = b + 1
    · rw [e]; exact Nat.le_refl _
    · have := ih (by omega)
      show _ ≤ c1_S b + c1_sz b
      omega
theorem c1_S_s (n : Nat) : c1_S (n + 1) = c1_S n + c1_sz n := rfl
def c1_AO (U : State) : Prop := va_AO "ArgumentMender$Slot" U ∧ va_AO "ArgumentMender$Cloth" U ∧ mn_A U
theorem c1_AO.moved {u U : State} (hvm : u.vm.Alike U.vm) (h : c1_AO u) : c1_AO U := ⟨va_AO.moved hvm h.1, va_AO.moved hvm h.2.1, h.2.2.moved hvm⟩
def c1_rm (d n n2 : Nat) : Room := { frames := d, cells := n2 - n, slots := c1_S n2 - c1_S n, locals := 40 * d }
def c1_Pc (C : aC) (a n : Nat) (Lm : c1_L) : Array Value → State → Prop := fun v U => v = #[Value.ref (am_ad C a)] ∧ am_K C U U.heap ∧ c1_AO U ∧ c1_P C n (c1_M Lm) U.heap
def c1_Qc (C : aC) (n2 : Nat) (L2 : c1_L) : Array Value → State → Outcome → State → Prop := fun _ st o t => o = .returned none ∧ c1_P C n2 (c1_M L2) t.heap ∧ va_F (am_A C) st t
theorem c1_Pc_blind (C : aC) (a n : Nat) (Lm : c1_L) : FrameBlind (c1_Pc C a n Lm) := by
  intro v U g mk h
  obtain ⟨h1, h2, h3, h4⟩ := h
  exact ⟨h1, am_K.same (U := U.calling g mk v) h2 rfl, h3, h4⟩
/-- constructor j2 does, at depth d2, what f says -/
def c1_Ok (d j : Nat) (f : Nat → Nat → c1_L → Option (Nat × c1_L)) : Prop := ∀ (a n : Nat) (Lm : c1_L) (n2 : Nat) (L2 : c1_L), c1_okr n (am_ow j) a = true → f a n Lm = some (n2, L2) → n ≤ n2 ∧ ∀ (l : Launch) (C : aC), Met l (am_y j) (am_wsU j) (c1_rm d n n2) (c1_Pc C a n Lm) (c1_Qc C n2 L2) (n2 - n) (c1_S n2 - c1_S n) (am_A C)
/-- what the tables say of a constructor -/
def c1_okm (q : am_MT) : Bool := match am_cwo q.2.2.2.1 with
  | some (y, _, n, r) => plainName y.cls && decide (am_on q.2.2.1 = y.cls) && decide (am_at q.2.2.2.2.2.2 = some (.initialized y.cls)) && decide (y.cls ≠ "java/lang/invoke/MethodHandle" ∧ y.cls ≠ "java/lang/invoke/VarHandle") && decide ((parseMethodDescriptor y.desc).map (fun d => d.parameters.length) = some 0) && Nat.ble n 21 && decide (am_at q.2.2.2.2.1 = some (.instanceMethod y)) && decide (y.name = "<init>") && r.isNone
  | none => false
theorem c1_okm_use {j : Nat} (h0 : c1_okm (am_me j) = true) : plainName (am_y j).cls = true ∧ am_on (am_ow j) = (am_y j).cls ∧ Cond.initialized (am_y j).cls ∈ am_g ∧ ((am_y j).cls ≠ "java/lang/invoke/MethodHandle" ∧ (am_y j).cls ≠ "java/lang/invoke/VarHandle") ∧ (parseMethodDescriptor (am_y j).desc).map (fun d => d.parameters.length) = some 0 ∧ am_ml j ≤ 21 ∧ Cond.code (am_y j) (am_b j) (am_ml j) (am_rt j) ∈ am_g ∧ Cond.instanceMethod (am_y j) ∈ am_g ∧ (am_y j).name = "<init>" ∧ am_rt j = none := by
  unfold c1_okm at h0
  split at h0
  · rename_i y b n r hc
    have ecw : am_cw j = (y, b, n, r) := by unfold am_cw; rw [hc]; rfl
    have ey : am_y j = y := by unfold am_y; rw [ecw]
    have eb : am_b j = b := by unfold am_b; rw [ecw]
    have en : am_ml j = n := by unfold am_ml; rw [ecw]
    have er : am_rt j = r := by unfold am_rt; rw [ecw]
    rw [ey, eb, en, er]
    simp only [Bool.and_eq_true, decide_eq_true_eq] at h0
    obtain ⟨⟨⟨⟨⟨⟨⟨⟨h1, h2⟩, h3⟩, h4⟩, h5⟩, h6⟩, h7⟩, h8⟩, h9⟩ := h0
    have hcode : am_at (am_me j).2.2.2.1 = some (.code y b n r) := by
      unfold am_cwo at hc
      split at hc
      · rename_i hq
        cases hc
        exact hq
      · cases hc
    refine ⟨h1, h2, am_gat h3 rfl, h4, h5, Nat.le_of_ble_eq_true h6, am_gat hcode rfl, am_gat h7 rfl, h8, ?_⟩
    cases r with
    | none => rfl
    | some _ => cases h9
  · cases h0
theorem c1_good {j : Nat} (h : Cond.code (am_y j) (am_b j) (am_ml j) (am_rt j) ∈ am_g) : GoodIn am_g (am_wsU j) := by
  intro w hw
  unfold am_wsU at hw
  rcases List.mem_cons.mp hw with e | e
  · subst e
    exact ⟨h, am_ggood h⟩
  · exact ⟨e, am_ggood e⟩
set_option maxRecDepth 100000 in
theorem c1_inst : (List.range 12).all (fun kd => decide (am_at (([1073, 1067, 1030, 2142, 2168, 1036, 2108, 1234, 2095, 1226, 1022, 5238] : List Nat).getD kd 0) = some (.instantiable (am_cl kd).1 (am_cl kd).2.2)) && decide (am_at (([1005, 1004, 1002, 1010, 1011, 1003, 1009, 1007, 1008, 1006, 1001, 1012] : List Nat).getD kd 0) = some (.initialized (am_cl kd).1)) && Nat.beq (am_fl kd).length (am_cl kd).2.2) = true := by decide +kernel
theorem c1_inst_use {kd : Nat} (h : kd < 12) : Cond.instantiable (am_cl kd).1 (am_cl kd).2.2 ∈ am_g ∧ Cond.initialized (am_cl kd).1 ∈ am_g ∧ (am_fl kd).length = (am_cl kd).2.2 := by
  have h0 := List.all_eq_true.mp c1_inst kd (List.mem_range.mpr h)
  simp only [Bool.and_eq_true, decide_eq_true_eq] at h0
  exact ⟨am_gat h0.1.1 rfl, am_gat h0.1.2 rfl, am_beq h0.2⟩
def c1_df (k : Nat) : Value := match k with
  | 0 => .int 0
  | 1 => .long 0
  | _ => .null
set_option maxRecDepth 100000 in
theorem c1_dv : (List.range 12).all (fun kd => (List.range (am_cl kd).2.2).all fun f => decide (defaultValue (am_ty0 kd f) = c1_df (am_fd kd f).1) && Nat.blt (am_fd kd f).1 3 && (!(Nat.beq (am_fd kd f).1 2) || (am_ty0 kd f).isReference)) = true := by decide +kernel
theorem c1_dv_use {kd f : Nat} (h : kd < 12) (hf : f < (am_cl kd).2.2) : defaultValue (am_ty0 kd f) = c1_df (am_fd kd f).1 ∧ (am_fd kd f).1 < 3 ∧ ((am_fd kd f).1 = 2 → (am_ty0 kd f).isReference = true) := by
  have h0 := List.all_eq_true.mp (List.all_eq_true.mp c1_dv kd (List.mem_range.mpr h)) f (List.mem_range.mpr hf)
  simp only [Bool.and_eq_true, decide_eq_true_eq, Bool.or_eq_true, Bool.not_eq_true'] at h0
  refine ⟨h0.1.1, am_blt h0.1.2, fun q => ?_⟩
  rcases h0.2 with w | w
  · rw [q] at w; cases w
  · exact w
theorem c1_refT {t : FieldType} (h : t.isReference = true) (x : Nat) : narrow t (.ref x) = .ref x ∧ fits t (.ref x) = true := by
  cases t <;> first | (exact ⟨rfl, rfl⟩) | (simp [FieldType.isReference] at h)
theorem c1_zero {C : aC} {M : aM} {n kd : Nat} (hz : c1_Z n M) (hsh : am_sh n = kd) (h12 : kd < 12) : ∀ k, k < (am_cl kd).2.2 → defaultValue (am_ty0 kd k) = vp_V (c1_fs C M n) k := by
  intro k hk
  obtain ⟨h1, h2, -⟩ := c1_dv_use h12 hk
  rw [h1]
  unfold vp_V
  rw [List.getD_eq_getElem?_getD, c1_fs_at hsh (q := am_fd kd k) rfl (by omega)]
  have z := hz n (Nat.le_refl n) k
  unfold c1_fv c1_df
  rw [z.1, z.2]
  generalize am_fd kd k = dd at h2 ⊢
  obtain ⟨x, y⟩ := dd
  have h2 : x < 3 := h2
  rcases (show x = 0 ∨ x = 1 ∨ x = 2 by omega) with rfl | rfl | rfl
  · rfl
  · rfl
  · rfl
section C1
variable {ini : Bool} {sem : c1_Sm} {p : Program} {l : Launch} {e : Env} {R : Room} {s : State} {m : MethodId} {args : Array Value} {below : List Frame} {meth : Method} {c : Code} {C : aC} {Q : State → Prop} {j d nB n0 : Nat} {pc a1 a2 : Nat} {a3 : Int32} {al : aL} {st : List aV} {n : Nat} {Lm : c1_L} {t : c1_T}
abbrev c1_F (ini : Bool) (p : Program) (R : Room) (s : State) (m : MethodId) (args : Array Value) (meth : Method) (c : Code) (C : aC) (j d nB n0 : Nat) : Prop :=
  p.tables.exec = Jvm.exec ∧ c.code = am_b j ∧ c.maxLocals = am_ml j ∧ s.vm.findClass (am_on (am_ow j)) = some m.cls ∧ (∀ w ∈ am_g, w.before args s = true) ∧ am_K C s s.heap ∧ c1_AO s ∧ (d ≤ R.frames ∧ 40 * d ≤ R.locals ∧ nB - n0 ≤ R.cells ∧ c1_S nB - c1_S n0 ≤ R.slots) ∧ (ini = true → meth.name = "<init>") ∧ 1 ≤ d ∧ s.heap.size = C.1 + n0
def c1_Wd (p : Program) (l : Launch) (e : Env) (R : Room) (s : State) (m : MethodId) (args : Array Value) (below : List Frame) (meth : Method) (c : Code) (C : aC) (nL n0 : Nat) (Q : State → Prop) (t : c1_T) : Prop :=
  n0 ≤ t.2.2.2.1 → ∀ (H : Heap) (locs : List Loc) (ls : Array Slot), am_lh C ls nL t.2.1 → c1_P C t.2.2.2.1 (c1_M t.2.2.2.2) H → va_S (am_A C) s.heap H locs → W p l e R s m args below meth c H locs (t.2.2.2.1 - n0) (c1_S t.2.2.2.1 - c1_S n0) Q (F0 m t.1 ls (t.2.2.1.map (am_cv C)))
/-- the heap has no more cells than the frontier says -/
theorem c1_fixW {M' : aM} {H1 : Heap} {locs1 : List Loc} {sl : Nat} {g : JFrame} (hs : s.heap.size = C.1 + n0) (h0 : n0 ≤ n) (hN : n ≤ am_N) (hn : 0 < n) (hP2 : va_P C.2.1 vwCl (c1_ws C n M') H1) (kk : H1.size = C.1 + n → W p l e R s m args below meth c H1 locs1 (n - n0) sl Q g) : W p l e R s m args below meth c H1 locs1 (n - n0) sl Q g := by
  intro T hT X
  refine kk ?_ T hT X
  have h1 : T.heap.size ≤ s.heap.size + (n - n0) := X.same.2.2.1
  have h2 : am_ad C (n - 1) < H1.size := (hP2 (n - 1) _ (c1_ws_get C M' (show n - 1 < n by omega))).lt
  rw [am_ad_in C (show n - 1 < am_N by omega)] at h2
  rw [hT] at h1
  omega
theorem c1_o_ald {k : Fin 4} (hn : Nat.beq k.val a1 = true) (F : c1_F ini p R s m args meth c C j d nB n0) (hB : t.2.2.2.1 ≤ nB) (hk : c1_Wd p l e R s m args below meth c C (am_ml j) n0 Q t) (hdg : decode (am_b j) pc = .ok (.aload_n k, 1)) (h : c1_ald a1 pc al st n Lm = some t) : c1_Wd p l e R s m args below meth c C (am_ml j) n0 Q (pc, al, st, n, Lm) := by
  intro h0 H locs ls hl hP hS
  unfold c1_ald at h
  split at h
  · rename_i q hx
    cases h
    exact lv_aload_n F.1 F.2.1 hdg (am_beq hn) (hl.2.2.2 _ _ hx) (hk h0 H locs ls hl hP hS)
  · cases h
theorem c1_o_ild {k : Fin 4} (hn : Nat.beq k.val a1 = true) (F : c1_F ini p R s m args meth c C j d nB n0) (hB : t.2.2.2.1 ≤ nB) (hk : c1_Wd p l e R s m args below meth c C (am_ml j) n0 Q t) (hdg : decode (am_b j) pc = .ok (.iload_n k, 1)) (h : c1_ild a1 pc al st n Lm = some t) : c1_Wd p l e R s m args below meth c C (am_ml j) n0 Q (pc, al, st, n, Lm) := by
  intro h0 H locs ls hl hP hS
  unfold c1_ild at h
  split at h
  · rename_i q hx
    cases h
    exact lv_iload_n F.1 F.2.1 hdg (am_beq hn) (hl.2.2.2 _ _ hx) (hk h0 H locs ls hl hP hS)
  · cases h
theorem c1_o_ist {k : Fin 4} (hn : Nat.beq k.val a1 = true) (F : c1_F ini p R s m args meth c C j d nB n0) (hB : t.2.2.2.1 ≤ nB) (hk : c1_Wd p l e R s m args below meth c C (am_ml j) n0 Q t) (hdg : decode (am_b j) pc = .ok (.istore_n k, 1)) (h : c1_ist a1 pc al st n Lm = some t) : c1_Wd p l e R s m args below meth c C (am_ml j) n0 Q (pc, al, st, n, Lm) := by
  intro h0 H locs ls hl hP hS
  unfold c1_ist at h
  split at h
  · rename_i x r hb
    cases h
    have hlt := am_blt hb
    have hll : al.length = am_ml j := hl.2.2.1
    rw [hll] at hlt
    exact lv_istore_n (lv := am_lv C al (am_ml j)) F.1 F.2.1 hdg (am_beq hn) (am_lh_has hl) hlt rfl (fun ls' h' => hk h0 H locs ls' (am_lh_s1 (v := .inl x) hl hlt h') hP hS)
  · cases h
theorem c1_o_ast {k : Fin 4} (hn : Nat.beq k.val a1 = true) (F : c1_F ini p R s m args meth c C j d nB n0) (hB : t.2.2.2.1 ≤ nB) (hk : c1_Wd p l e R s m args below meth c C (am_ml j) n0 Q t) (hdg : decode (am_b j) pc = .ok (.astore_n k, 1)) (h : c1_ast a1 pc al st n Lm = some t) : c1_Wd p l e R s m args below meth c C (am_ml j) n0 Q (pc, al, st, n, Lm) := by
  intro h0 H locs ls hl hP hS
  unfold c1_ast at h
  split at h
  · rename_i q r hb
    cases h
    have hlt := am_blt hb
    have hll : al.length = am_ml j := hl.2.2.1
    rw [hll] at hlt
    exact lv_astore_n (lv := am_lv C al (am_ml j)) F.1 F.2.1 hdg (am_beq hn) (am_lh_has hl) hlt rfl (fun ls' h' => hk h0 H locs ls' (am_lh_s1 (v := .inr (.inr q)) hl hlt h') hP hS)
  · cases h
theorem c1_o_inc {i : Nat} {k : Int} (hn : Nat.beq i a1 = true) (hv : Int32.ofInt k = a3) (F : c1_F ini p R s m args meth c C j d nB n0) (hB : t.2.2.2.1 ≤ nB) (hk : c1_Wd p l e R s m args below meth c C (am_ml j) n0 Q t) (hdg : decode (am_b j) pc = .ok (.iinc i k, 3)) (h : c1_inc a1 a3 pc al st n Lm = some t) : c1_Wd p l e R s m args below meth c C (am_ml j) n0 Q (pc, al, st, n, Lm) := by
  intro h0 H locs ls hl hP hS
  have hn := am_beq hn
  subst hn
  subst hv
  unfold c1_inc at h
  split at h
  · rename_i x hx
    cases h
    have hlt := am_ld_lt _ _ _ hx
    have hll : al.length = am_ml j := hl.2.2.1
    rw [hll] at hlt
    obtain ⟨kk, hkk⟩ := List.getElem?_of_mem (am_lv_mem (C := C) hlt hx)
    exact lv_iinc (lv := am_lv C al (am_ml j)) F.1 F.2.1 hdg (am_lh_has hl) hkk rfl hlt rfl (fun ls' h' => hk h0 H locs ls' (am_lh_s1 (v := .inl _) hl hlt h') hP hS)
  · cases h
theorem c1_o_icge {off : Int} (ht : (pc : Int) + off = (a1 : Int)) (F : c1_F ini p R s m args meth c C j d nB n0) (hB : t.2.2.2.1 ≤ nB) (hk : c1_Wd p l e R s m args below meth c C (am_ml j) n0 Q t) (hdg : decode (am_b j) pc = .ok (.if_icmp .ge off, 3)) (h : c1_icge a1 pc al st n Lm = some t) : c1_Wd p l e R s m args below meth c C (am_ml j) n0 Q (pc, al, st, n, Lm) := by
  intro h0 H locs ls hl hP hS
  unfold c1_icge at h
  split at h
  · rename_i y x r
    split at h
    · rename_i hc
      cases h
      refine lv_icmp_ge (tgt := a1) F.1 F.2.1 hdg ht (fun _ => hk h0 H locs ls hl hP hS) (fun q => absurd hc q)
    · rename_i hc
      cases h
      refine lv_icmp_ge (tgt := a1) F.1 F.2.1 hdg ht (fun q => absurd q hc) (fun _ => hk h0 H locs ls hl hP hS)
  · cases h
theorem c1_o_dup (F : c1_F ini p R s m args meth c C j d nB n0) (hB : t.2.2.2.1 ≤ nB) (hk : c1_Wd p l e R s m args below meth c C (am_ml j) n0 Q t) (hdg : decode (am_b j) pc = .ok (.dup, 1)) (h : c1_dup pc al st n Lm = some t) : c1_Wd p l e R s m args below meth c C (am_ml j) n0 Q (pc, al, st, n, Lm) := by
  intro h0 H locs ls hl hP hS
  unfold c1_dup at h
  split at h
  · cases h
    exact lv_dup F.1 F.2.1 hdg rfl (hk h0 H locs ls hl hP hS)
  · cases h
theorem c1_o_new {i : Nat} (h12 : a1 < 12) (hcl : Cond.classLink (am_on (am_ow j)) i (am_cl a1).1 ∈ am_g) (F : c1_F ini p R s m args meth c C j d nB n0) (hB : t.2.2.2.1 ≤ nB) (hk : c1_Wd p l e R s m args below meth c C (am_ml j) n0 Q t) (hdg : decode (am_b j) pc = .ok (.new i, 3)) (h : c1_new a1 pc al st n Lm = some t) : c1_Wd p l e R s m args below meth c C (am_ml j) n0 Q (pc, al, st, n, Lm) := by
  intro h0 H locs ls hl hP hS
  unfold c1_new at h
  split at h
  · rename_i hb1 hb2
    cases h
    have hsh := am_beq hb1
    have hN := am_blt hb2
    have h0 : n0 ≤ n := h0
    have hP : c1_P C n (c1_M Lm) H := hP
    have hB : n + 1 ≤ nB := hB
    obtain ⟨g1, g2, g3⟩ := c1_inst_use h12
    have hKn := F.2.2.2.2.2.1.1.1 a1 _ (am_cl_at a1 h12)
    have hsz : c1_sz n = (am_cl a1).2.2 := by unfold c1_sz; rw [hsh, if_pos (by omega)]; exact g3
    have hm1 := c1_S_le hB
    have hm2 := c1_S_le h0
    have hm3 := c1_S_s n
    have hR := F.2.2.2.2.2.2.2.1
    refine W.newcK (h := C.1 + n) F.1 F.2.1 F.2.2.2.1 (F.2.2.2.2.1 _ hcl) (F.2.2.2.2.1 _ g1) (F.2.2.2.2.1 _ g2) rfl hdg (by show n - n0 + 1 ≤ R.cells; omega) (by show c1_S n - c1_S n0 + (am_cl a1).2.2 ≤ R.slots; omega) hKn.2.1 hP.2.1 fun H1 kC hkC e1 z1 o1 => ?_
    have hat : va_at C.2.1 vwCl (am_ad C n, c1_ce C (c1_M Lm) n) H1 := by
      rw [c1_ce_o hsh (by omega), am_ad_in C hN]
      exact ⟨am_cl a1, am_cl_at a1 h12, (u_born (am_ty0 a1) F.2.2.2.2.1 (am_uws h12) hKn hkC e1 (am_tyok h12)).to (c1_zero hP.2.2.1 hsh h12)⟩
    have w := hk (show n0 ≤ n + 1 by omega) H1 locs ls hl (c1_push hP hN hat z1 o1) (c1_gr (k := 1) hS hP.2.1 z1 o1)
    have e1 : n - n0 + 1 = n + 1 - n0 := by omega
    have e2 : c1_S n - c1_S n0 + (am_cl a1).2.2 = c1_S (n + 1) - c1_S n0 := by omega
    rw [e1, e2]
    rw [← am_ad_in C hN]
    exact w
  · cases h
theorem c1_nI {k : Int32} {x : Nat} (h : k = nI x) (hx : x ≤ 2000) : ¬ k < 0 ∧ k.toNatClampNeg = x := by
  subst h
  exact ⟨nI_pos (by omega), nI_clamp (by omega)⟩
theorem c1_o_nwa {ty : ArrayType} (hel : Nat.beq (c1_elt ty) a1 = true) (h4 : a1 < 4) (F : c1_F ini p R s m args meth c C j d nB n0) (hB : t.2.2.2.1 ≤ nB) (hk : c1_Wd p l e R s m args below meth c C (am_ml j) n0 Q t) (hdg : decode (am_b j) pc = .ok (.newarray ty, 2)) (h : c1_nwa a1 pc al st n Lm = some t) : c1_Wd p l e R s m args below meth c C (am_ml j) n0 Q (pc, al, st, n, Lm) := by
  intro h0 H locs ls hl hP hS
  unfold c1_nwa at h
  split at h
  · rename_i k r
    split at h
    · rename_i hb1 hb2 hb3
      cases h
      have hel1 := am_beq hel
      have har := am_beq hb1
      have hN := am_blt hb2
      have h0 : n0 ≤ n := h0
      have hP : c1_P C n (c1_M Lm) H := hP
      have hB : n + 1 ≤ nB := hB
      obtain ⟨k1, k2, k3, k4⟩ := am_clo_k hN
      have hci : (am_ar (am_sh n)).2.2.1 = a1 := by rw [k2 (by omega), har]
      have hno : ¬ am_sh n < 20 := fun q => by have := k1.mp q; omega
      obtain ⟨hk0, hkN⟩ := c1_nI (of_decide_eq_true hb3) k4
      have hsz : c1_sz n = (am_ar (am_sh n)).2.1 := by unfold c1_sz; rw [if_neg hno]
      have hm1 := c1_S_le hB
      have hm2 := c1_S_le h0
      have hm3 := c1_S_s n
      have hR := F.2.2.2.2.2.2.2.1
      have hz := hP.2.2.1 n (Nat.le_refl n)
      have key : ∀ (hh : (Cond.arrayClass (newarray.typeOf ty)).before args s = true) (hbt : (am_ar (am_sh n)).2.1 * componentBytes (newarray.typeOf ty) ≤ 536870912) (ht : (am_tys C)[a1]? = some (C.2.2.1 a1, newarray.typeOf ty)) (hRA : va_RA s (C.2.2.1 a1) (newarray.typeOf ty) → s.vm.findClass ("[" ++ (newarray.typeOf ty).toString) = some (C.2.2.1 a1)) (hce : vp_cell (C.2.2.1 a1) ((am_ar (am_sh n)).2.1, c1_ac C (c1_M Lm) n (am_ar (am_sh n))) = arrV (C.2.2.1 a1) (am_ar (am_sh n)).2.1 (fun _ => defaultValue (newarray.typeOf ty))), W p l e R s m args below meth c H locs (n - n0) (c1_S n - c1_S n0) Q (F0 m pc ls (.int k :: r.map (am_cv C))) := by
        intro hh hbt ht hRA hce
        refine va_newaK (h := C.1 + n) (N := (am_ar (am_sh n)).2.1) F.1 F.2.1 hh rfl hdg rfl hk0 hkN hbt (by show n - n0 + 1 ≤ R.cells; omega) (by show c1_S n - c1_S n0 + (am_ar (am_sh n)).2.1 ≤ R.slots; omega) hP.2.1 fun H1 cA e1 z1 o1 hAr hNm => ?_
        have hcA : cA = C.2.2.1 a1 := Option.some.inj (hNm.symm.trans (hRA (F.2.2.2.2.2.1.1.2 a1 _ ht).2))
        have hat : va_at C.2.1 vwCl (am_ad C n, c1_ce C (c1_M Lm) n) H1 := by
          unfold c1_ce
          rw [if_neg hno, hci, am_ad_in C hN]
          show H1[C.1 + n]? = some (vp_cell _ _)
          rw [hce, ← hcA]
          exact e1
        have w := hk (show n0 ≤ n + 1 by omega) H1 locs ls hl (c1_push hP hN hat z1 o1) (c1_gr (k := 1) hS hP.2.1 z1 o1)
        have e1 : n - n0 + 1 = n + 1 - n0 := by omega
        have e2 : c1_S n - c1_S n0 + (am_ar (am_sh n)).2.1 = c1_S (n + 1) - c1_S n0 := by omega
        rw [e1, e2, ← am_ad_in C hN]
        exact w
      have ac0 : (am_ar (am_sh n)).1 ≠ 3 → (am_ar (am_sh n)).1 ≠ 4 → ∀ cA : ClassId, vp_cell cA ((am_ar (am_sh n)).2.1, c1_ac C (c1_M Lm) n (am_ar (am_sh n))) = arrV cA (am_ar (am_sh n)).2.1 (fun _ => .int 0) := fun q1 q2 cA => by
        unfold c1_ac
        split
        · exact absurd (by assumption) q1
        · exact absurd (by assumption) q2
        · rw [vp_cell_i]
          congr 1
          funext i
          rw [(hz i).1]
      cases ty with
      | int =>
        have ha : a1 = 0 := hel1.symm
        subst ha
        exact key (F.2.2.2.2.1 _ (am_gat (i := 1101) (by decide +kernel) rfl)) (by show _ * 4 ≤ _; omega) rfl (fun q => q) (ac0 (by omega) (by omega) _)
      | byte =>
        have ha : a1 = 1 := hel1.symm
        subst ha
        exact key (F.2.2.2.2.1 _ (am_gat (i := 1065) (by decide +kernel) rfl)) (by show _ * 1 ≤ _; omega) rfl (fun q => q) (ac0 (by omega) (by omega) _)
      | boolean =>
        have ha : a1 = 2 := hel1.symm
        subst ha
        exact key (F.2.2.2.2.1 _ (am_gat (i := 2188) (by decide +kernel) rfl)) (by show _ * 1 ≤ _; omega) rfl (fun q => q) (ac0 (by omega) (by omega) _)
      | long =>
        have ha : a1 = 3 := hel1.symm
        subst ha
        refine key (F.2.2.2.2.1 _ (am_gat (i := 2189) (by decide +kernel) rfl)) (by show _ * 8 ≤ _; omega) rfl (fun q => q) ?_
        unfold c1_ac
        split
        · rw [vp_cell_l]
          rfl
        · rename_i q; omega
        · rename_i q1 q2; exact absurd har q1
      | _ => exact absurd hel1 (by show ¬ 9 = a1; omega)
    · cases h
  · cases h
end C1
