/-! THE CLAIM OUT OF ONE WALK OF THE LAW'S BODY. Your part is whole_start (and what it stands on); all else here is the same for every law, but numbers. -/
def R_law : String := "ArgumentMenderLaw"
def lw_P (b : Addr) (xs : List Int32) (args : Array Value) (s : State) : Prop := args = #[.ref b] ∧ s.IntsAt b xs ∧ xs.length ≤ 3072 ∧ (Jvm.Cond.and given_1 narrow_1).before args s = true
def lw_Q (_ : Array Value) (s : State) (o : Outcome) (t : State) : Prop := o = .returned (some (.int 1)) ∧ Framed s o t [] 600000 7302250
def lw_Z (below : List Frame) (a : Array Value) (s : State) : State → Prop := fun t => ∃ o, t.status = .running ∧ Ended t below o ∧ lw_Q a s o t
/-- the law's own end, with 1 on the stack, nothing written that was there before, its room as the claim has it -/
theorem lw_ret {p : Program} {l : Launch} {e : Env} {s : State} {m : MethodId} {below : List Frame} {meth : Method} {c : Code} {b : Nat} (hx : p.tables.exec = Jvm.exec) (hb : c.code = code) (hr : meth.sig.returnType = ret) (hlocks : meth.locks = false) {pc : Nat} {H : Heap} {ls : Array Slot} (hdg : decode code pc = .ok (.ireturn, 1)) : W p l e room_1 s m #[Value.ref b] below meth c H [] 600000 7302250 (lw_Z below #[Value.ref b] s) (F0 m pc ls [.int 1]) := by
  intro T hT X
  obtain ⟨fs, hret, hrun, hended, hW, hframe⟩ := X.leave (v := some (.int 1)) (hlocks := hlocks) (fun h => by rw [hr] at h; cases h)
  have hmeth' : T.vm.method? m = some meth := X.method'
  refine ⟨T.setFrames fs, ?_, .returned (some (.int 1)), hrun, hended, rfl, ⟨_, rfl⟩, hW, hframe⟩
  jvm_step X.here [X.here.top, hx, hb, hdg, hmeth', hr, ret, narrow_b1]
  (try refine ⟨rfl, ?_⟩); (try refine ⟨rfl, ?_⟩)
  first | (intro acts; rw [hret _ acts rfl rfl rfl]) | rw [hret _ _ rfl rfl rfl]
  exact Steps.refl _
/-- what holds at the law's entry: the machine, the code, the tables' words (any of lw_tbl by 'hts w (by decide +kernel)'), the script of L ints xs at the cell b, what the Statement gives of the start (any of its parts by flat_of_before) -/
def lw_At (p : Program) (s : State) (m : MethodId) (meth : Method) (c : Code) (b L : Nat) (xs : Nat → Int32) : Prop :=
  p.tables.exec = Jvm.exec ∧ c.code = code ∧ meth.sig.returnType = ret ∧ c.maxLocals = 4 ∧ s.vm.findClass R_law = some m.cls ∧ (∀ w ∈ lw_tbl, w.before #[Value.ref b] s = true) ∧ va_X b L xs s s.heap ∧ b < s.heap.size ∧ meth.locks = false ∧ (Jvm.Cond.and given_1 narrow_1).before #[Value.ref b] s = true

/-- the law's own end, with an odd number on the stack -/
theorem lw_retv {p : Program} {l : Launch} {e : Env} {s : State} {m : MethodId} {below : List Frame} {meth : Method} {c : Code} {b : Nat} {cc : ByteArray} (hx : p.tables.exec = Jvm.exec) (hb : c.code = cc) (hr : meth.sig.returnType = some .boolean) (hlocks : meth.locks = false) {pc : Nat} {H : Heap} {ls : Array Slot} {v : Int32} (hv : v &&& 1 = 1) (hdg : decode cc pc = .ok (.ireturn, 1)) : W p l e room_1 s m #[Value.ref b] below meth c H [] 600000 7302250 (lw_Z below #[Value.ref b] s) (F0 m pc ls [.int v]) := by
  intro T hT X
  obtain ⟨fs, hret, hrun, hended, hW, hframe⟩ := X.leave (v := some (.int (v &&& 1))) (hlocks := hlocks) (fun h => by rw [hr] at h; cases h)
  have hmeth' : T.vm.method? m = some meth := X.method'
  refine ⟨T.setFrames fs, ?_, .returned (some (.int (v &&& 1))), hrun, hended, by rw [hv], ⟨_, rfl⟩, hW, hframe⟩
  jvm_step X.here [X.here.top, hx, hb, hdg, hmeth', hr, narrow]
  (try refine ⟨rfl, ?_⟩); (try refine ⟨rfl, ?_⟩)
  first | (intro acts; rw [hret _ acts rfl rfl rfl]) | rw [hret _ _ rfl rfl rfl]
  exact Steps.refl _
theorem k9_at {w : Cond} {args : Array Value} {s : State} (hts : ∀ w ∈ lw_tbl, w.before args s = true) {i : Nat} (h : am_at i = some w) : w.before args s = true := hts w (am_at_in h)
/-- what the tables say of the rows' classes -/
theorem k9_arr {s : State} {args : Array Value} {ty : FieldType} (h : (Cond.arrayClass ty).before args s = true) (hp : va_RA s = va_RA s) : ∃ cA, ArrOfT s cA ty ∧ s.vm.findClass ("[" ++ ty.toString) = some cA := by
  obtain ⟨cA, kA, comp, h1, h2, h3⟩ := Cond.arrayClass_spec h
  exact ⟨cA, fun n z => ⟨fun k h => (by cases h), kA, h2, comp, h3⟩, h1⟩
/-- the world at the start -/
theorem k9_start {s : State} {b : Nat} (hts : ∀ w ∈ lw_tbl, w.before #[Value.ref b] s = true) (hgv : (Jvm.Cond.and given_1 narrow_1).before #[Value.ref b] s = true) : ∃ C : aC, C.1 = s.heap.size ∧ am_ad C 5200 = b ∧ am_K C s s.heap ∧ c1_AO s := by
  have hg : ∀ w ∈ am_g, w.before #[Value.ref b] s = true := fun w hw => hts w (List.mem_filter.mp hw).1
  have hF : ∀ w, w ∈ k9_F → w.before #[Value.ref b] s = true := fun w hw => flat_of_before _ hgv w hw
  have hA : ∀ a : Nat, a < s.heap.size → ¬ (fun q => s.heap.size ≤ q) a := fun a ha q => by omega
  have t1 := fun i (hi : i < 12) => List.all_eq_true.mp k9_1 i (List.mem_range.mpr hi)
  simp only [Bool.and_eq_true] at t1
  have t2 := fun i (hi : i < 12) j (hj : j < am_slen.getD i 0) => List.all_eq_true.mp (List.all_eq_true.mp k9_2 i (List.mem_range.mpr hi)) j (List.mem_range.mpr hj)
  have t3 := fun i (hi : i < 12) j (hj : j < 12) => List.all_eq_true.mp (List.all_eq_true.mp k9_3 i (List.mem_range.mpr hi)) j (List.mem_range.mpr hj)
  simp only [Bool.or_eq_true] at t3
  have t4 := k9_4
  simp only [Bool.and_eq_true] at t4
  obtain ⟨⟨⟨⟨u1, u2⟩, u3⟩, u4⟩, u5⟩ := t4
  have hlen : ∀ i : Nat, i < 12 → am_slen.getD i 0 < 2 ^ 31 := by decide
  obtain ⟨adK, adV, hS, hev⟩ := vk_Sof (args := #[Value.ref b]) (s := s) (N := 12) (tm := k9_tm) (len := am_slen) (byt := am_sbyt) (A := fun q => s.heap.size ≤ q) hlen (fun i hi => hF _ (k9_is_use (t1 i hi).1.1.1.1)) (fun i hi => hF _ (k9_is_use (t1 i hi).1.1.1.2)) (fun i hi => hF _ (k9_is_use (t1 i hi).1.1.2)) (fun i hi => hF _ (k9_is_use (t1 i hi).1.2)) (fun i hi j hj => hF _ (k9_is_use (t2 i hi j hj))) (fun i j hi hj hne => by
    rcases t3 i hi j hj with (q | q) | q
    · rcases t3 j hj i hi with (r | r) | r
      · have q := Nat.le_of_ble_eq_true q
        have r := Nat.le_of_ble_eq_true r
        omega
      · exact .inr (hF _ (k9_is_use r))
      · exact .inl (hF _ (k9_is_use r))
    · exact .inl (hF _ (k9_is_use q))
    · exact .inr (hF _ (k9_is_use q))) hA
  obtain ⟨tF, hFe, hFT⟩ := va_Tof (args := #[Value.ref b]) (s := s) (tm := .static "ArgumentMender" "FACTORIALS" "[I") (ty := .int) (N := 9) (f := fun k => .int (am_fact k)) (A := fun q => s.heap.size ≤ q) (by decide) (hF _ (k9_is_use u1)) (va_eqt (hF _ (k9_is_use u2))) (fun j hj => va_eqt (hF _ (k9_is_use (List.all_eq_true.mp u3 j (List.mem_range.mpr hj))))) hA
  have hcls : ∀ kd : Nat, ∃ q : ClassId × (Nat → Nat), kd < 12 → u_Kn s (am_cl kd).1 (am_cl kd).2.1 (am_cl kd).2.2 q.1 q.2 := fun kd => by
    by_cases h : kd < 12
    · obtain ⟨cC, iS, hq⟩ := u_known (n := (am_cl kd).2.2) hg (am_uws h) (hg _ (c1_inst_use h).1)
      exact ⟨(cC, iS), fun _ => hq⟩
    · exact ⟨(0, fun k => k), fun q => absurd q h⟩
  obtain ⟨D, hD⟩ := Classical.axiomOfChoice hcls
  obtain ⟨r0, r01, r02⟩ := k9_arr (ty := .int) (k9_at hts (i := 1101) (by decide +kernel)) rfl
  obtain ⟨r1, r11, r12⟩ := k9_arr (ty := .byte) (k9_at hts (i := 1065) (by decide +kernel)) rfl
  obtain ⟨r2, r21, r22⟩ := k9_arr (ty := .boolean) (k9_at hts (i := 2188) (by decide +kernel)) rfl
  obtain ⟨r3, r31, r32⟩ := k9_arr (ty := .long) (k9_at hts (i := 2189) (by decide +kernel)) rfl
  have o4 : (Cond.arrayOver (.array .int)).before #[Value.ref b] s = true := k9_at hts (i := 1232) (by decide +kernel)
  have o5 : (Cond.arrayOver (.object "ArgumentMender$Slot")).before #[Value.ref b] s = true := k9_at hts (i := 2166) (by decide +kernel)
  have o6 : (Cond.arrayOver (.object "ArgumentMender$Cloth")).before #[Value.ref b] s = true := k9_at hts (i := 2167) (by decide +kernel)
  obtain ⟨p4, r4, k4, a41, a42, a43, a44, a45⟩ := arrayOverA_spec o4
  obtain ⟨p5, r5, k5, a51, a52, a53, a54, a55⟩ := Cond.arrayOver_spec o5
  obtain ⟨p6, r6, k6, a61, a62, a63, a64, a65⟩ := Cond.arrayOver_spec o6
  refine ⟨(s.heap.size, (fun kd => (D kd).1, fun kd => (D kd).2), (fun i => if i = 0 then r0 else if i = 1 then r1 else if i = 2 then r2 else if i = 3 then r3 else if i = 4 then r4 else if i = 5 then r5 else r6), (fun i => if i < 40 then adK i else if i < 100 then adV (i - 40) else if i = 100 then tF else b)), rfl, rfl, ⟨⟨?_, ?_⟩, ?_, ?_, ?_, ?_, ?_, ?_⟩, va_AO.of o5, va_AO.of o6, mn_A.of o4 (k9_at hts (i := 1101) (by decide +kernel))⟩
  · intro c q hq
    have hc : c < 12 := by
      have := (List.getElem?_eq_some_iff.mp hq).1
      have e : vwCl.length = 12 := by decide +kernel
      omega
    rw [am_cl_at c hc] at hq
    cases hq
    exact hD c hc
  · intro k q hq
    have hk : k < 7 := (List.getElem?_eq_some_iff.mp hq).1
    rcases (show k = 0 ∨ k = 1 ∨ k = 2 ∨ k = 3 ∨ k = 4 ∨ k = 5 ∨ k = 6 by omega) with rfl | rfl | rfl | rfl | rfl | rfl | rfl
    · cases hq; exact ⟨r01, r02⟩
    · cases hq; exact ⟨r11, r12⟩
    · cases hq; exact ⟨r21, r22⟩
    · cases hq; exact ⟨r31, r32⟩
    · cases hq; exact ⟨fun n z => ⟨fun k h => (by cases h), k4, a43, p4, a44⟩, a45⟩
    · cases hq; exact ⟨fun n z => ⟨fun k h => (by cases h), k5, a53, p5, a54⟩, k5, p5, a53, a54, a51, a55⟩
    · cases hq; exact ⟨fun n z => ⟨fun k h => (by cases h), k6, a63, p6, a64⟩, k6, p6, a63, a64, a61, a65⟩
  · intro q hq
    have h5 := List.all_eq_true.mp k9_5 q hq
    simp only [Bool.and_eq_true, Bool.or_eq_true, decide_eq_true_eq] at h5
    obtain ⟨⟨h51, h52⟩, h53⟩ := h5
    have hi := am_blt h51
    have had : ∀ f : Nat → Nat, (if 5000 + q.2.2.1 < 5000 then s.heap.size + (5000 + q.2.2.1) else f (5000 + q.2.2.1 - 5000)) = f q.2.2.1 := fun f => by rw [if_neg (by omega), Nat.add_sub_cancel_left]
    unfold am_ad
    rw [had]
    dsimp only
    rw [if_pos (show q.2.2.1 < 40 by omega)]
    refine vk_R.of (A := #[Value.ref b]) (k9_at hts h52) ?_
    rcases h53 with z | z
    · rw [am_beq z.1, am_beq z.2]
      exact hev q.2.2.1 hi
    · rw [am_beq z.1, am_beq z.2]
      exact va_eqR (hF _ (k9_is_use (t1 q.2.2.1 hi).2)) (hev q.2.2.1 hi)
  · have e1 : (fun i => am_ad ((s.heap.size, (fun kd => (D kd).1, fun kd => (D kd).2), (fun i => if i = 0 then r0 else if i = 1 then r1 else if i = 2 then r2 else if i = 3 then r3 else if i = 4 then r4 else if i = 5 then r5 else r6), (fun i => if i < 40 then adK i else if i < 100 then adV (i - 40) else if i = 100 then tF else b)) : aC) (5000 + i)) = (fun i => if i < 40 then adK i else if i < 100 then adV (i - 40) else if i = 100 then tF else b) := by
      funext i
      unfold am_ad
      rw [if_neg (by omega), Nat.add_sub_cancel_left]
    have e2 : ∀ i, i < 12 → am_ad ((s.heap.size, (fun kd => (D kd).1, fun kd => (D kd).2), (fun i => if i = 0 then r0 else if i = 1 then r1 else if i = 2 then r2 else if i = 3 then r3 else if i = 4 then r4 else if i = 5 then r5 else r6), (fun i => if i < 40 then adK i else if i < 100 then adV (i - 40) else if i = 100 then tF else b)) : aC) (5040 + i) = adV i := fun i hi => by
      unfold am_ad
      rw [if_neg (by omega)]
      dsimp only
      rw [show 5040 + i - 5000 = 40 + i by omega, if_neg (by omega), if_pos (by omega), Nat.add_sub_cancel_left]
    rw [e1]
    refine ⟨fun i hi => ?_, fun i j hi hj => ?_⟩
    · have hi' : i < 12 := hi
      dsimp only
      rw [if_pos (show i < 40 by omega), e2 i hi']
      exact hS.1 i hi'
    · have hi' : i < 12 := hi
      have hj' : j < 12 := hj
      dsimp only
      rw [if_pos (show i < 40 by omega), if_pos (show j < 40 by omega)]
      exact hS.2 i j hi' hj'
  · exact hFT
  · exact va_Zof (k9_at hts (i := 5102) (by decide +kernel)) (k9_at hts (i := 1001) (by decide +kernel)) hFe hA
  · exact va_Zof (k9_at hts (i := 3036) (by decide +kernel)) (k9_at hts (i := 1014) (by decide +kernel)) (va_eqi (hF _ (k9_is_use u4))) hA
  · exact va_Zqof (k9_at hts (i := 3052) (by decide +kernel)) (k9_at hts (i := 1016) (by decide +kernel)) (hF _ (k9_is_use u5)) hA
theorem k9_b : am_b 345 = code := rfl
theorem k9_ml : am_ml 345 = 4 := rfl
/-- from the entry, for every script of at most 3072 ints, the law comes to its end with true -/
theorem whole_start {p : Program} {e : Env} {s : State} {m : MethodId} {below : List Frame} {meth : Method} {c : Code} (l : Launch) {b L : Nat} {xs : Nat → Int32} (hL : L ≤ 3072) (C0 : lw_At p s m meth c b L xs) : W p l e room_1 s m #[Value.ref b] below meth c s.heap [] 0 0 (lw_Z below #[Value.ref b] s) (entryFrame m ([Value.ref b] : List Value).toArray 4) := by
  obtain ⟨c1, c2, c3, c4, c5, c6, c7, c8, c9, c10⟩ := C0
  obtain ⟨C, hC1, hCb, hK, hAO⟩ := k9_start c6 c10
  have hg : ∀ w ∈ am_g, w.before #[Value.ref b] s = true := fun w hw => c6 w (List.mem_filter.mp hw).1
  have hR : (14 ≤ room_1.frames ∧ 40 * 14 ≤ room_1.locals) ∧ 600000 ≤ room_1.cells ∧ 7302250 ≤ room_1.slots := by decide
  obtain ⟨z, hz⟩ : ∃ z : Nat, 2000 ≤ z := ⟨2000, Nat.le_refl _⟩
  obtain ⟨n, hn⟩ : ∃ n : Nat, 1000 ≤ n := ⟨1000, Nat.le_refl _⟩
  obtain ⟨nf, hnf⟩ : ∃ nf : Nat, nf = 233 := ⟨233, rfl⟩
  have hS9 : c1_S nf ≤ 7302250 := by rw [hnf]; exact k9_S
  have hl := lv_entry [Value.ref b] (n := 4) (by show 1 ≤ 4; omega)
  rw [lg_entry_eq]
  generalize (lg_sl [Value.ref b] ++ List.replicate (4 - (lg_sl [Value.ref b]).length) Slot.unset).toArray = ls at hl ⊢
  have F : c1_F false p room_1 s m #[Value.ref b] meth c C 345 14 nf 0 := ⟨c1, c2, c4, c5, hg, hK, hAO, ⟨hR.1.1, hR.1.2, by omega, by omega⟩, (fun q => by cases q), (by omega), (by rw [hC1]; rfl)⟩
  have FA : am_F (some (L, xs)) p room_1 s m #[Value.ref b] c C 345 14 (nf - 0) (c1_S nf - c1_S 0) := ⟨c1, c2, c4, c5, hg, hK, ⟨hR.1.1, hR.1.2, by omega, by omega⟩, fun n' xs' q => by
    cases q
    rw [hCb]
    exact ⟨c7, c8, fun q => by have q : C.1 ≤ b := q; omega⟩⟩
  obtain ⟨M2, hM2⟩ := L_all (xs := xs) hz hL (fun h => P_cloth hz h) n 0 (c1_M c1_L0) W00 RW_0 (by omega) (by omega)
  have hHR : am_HR p l e room_1 s m #[Value.ref b] below meth c C 345 (am_ml 345) (nf - 0) (c1_S nf - c1_S 0) 1 (lw_Z below #[Value.ref b] s) (some (.inl ((1 : Int32) &&& 1)), M2) := by
    intro pc al st M ins h hdg hal hst H locs ls2 hl2 hP2 hS2
    unfold am_ret at h
    split at h
    · rename_i v
      have h : some (some (Sum.inl (v &&& 1)), M) = some (some (Sum.inl ((1 : Int32) &&& 1)), M2) := h
      have hv : v &&& 1 = 1 := (congrArg (fun o : Option aR => match o with
        | some (some (.inl x), _) => x
        | _ => 0) h).trans (show (1 : Int32) &&& 1 = 1 by decide)
      refine va_forget (fun q hq => ?_) (W.widen (by omega) (by omega) (lw_retv c1 c2 (by rw [c3]; rfl) c9 hv hdg))
      have w : C.1 ≤ q.base := hS2.2.2 q hq
      omega
    · cases h
    · cases h
    · cases h
    · cases h
  have hend : c1_Wd p l e room_1 s m #[Value.ref b] below meth c C (am_ml 345) 0 (lw_Z below #[Value.ref b] s) (18, [some (.inr (.inr (62, 5200))), some (.inr (.inr (10, 0))), some (.inr (.inr (11, 205))), some (.inl 0)], [], nf, c1_L0) := by
    intro h0 H locs ls2 hl2 hP2 hS2
    have hP2 : c1_P C nf (c1_M c1_L0) H := hP2
    have hP3 : c1_P C am_N (c1_M c1_L0) H := by
      rw [show am_N = nf from hnf.symm]
      exact hP2
    have w := e345_18 z L xs FA _ hHR n (nI 0) (c1_M c1_L0) hM2
    refine w ?_ (fun v hv => by cases hv) H locs ls2 hl2 (c1_done hP3) hS2
    intro i v hv
    rcases (show i = 0 ∨ i = 1 ∨ i = 2 ∨ i = 3 ∨ 4 ≤ i by omega) with rfl | rfl | rfl | rfl | hi
    · cases hv; exact (by decide +kernel : am_wkb 62 5200 = true)
    · cases hv; exact (by decide +kernel : am_wkb 10 0 = true)
    · cases hv; exact (by decide +kernel : am_wkb 11 205 = true)
    · cases hv; trivial
    · have := am_ld_lt _ _ _ hv
      simp at this
      omega
  have hrun : c1_run false (c1_sm 169 c1_169 (c1_sm 79 c1_79 c1_s0)) cdI345 18 60 (0, [some (.inr (.inr (62, 5200))), none, none, none], [], 0, []) = some (18, [some (.inr (.inr (62, 5200))), some (.inr (.inr (10, 0))), some (.inr (.inr (11, 205))), some (.inl 0)], [], nf, c1_L0) := by
    rw [hnf]
    exact k9_lawdef.symm.trans c1_law_eq
  have w := c1_run_ok c1_slaw cdI345_ok F (Nat.le_refl nf) hend 60 (0, [some (.inr (.inr (62, 5200))), none, none, none], [], 0, []) hrun (Nat.le_refl 0) s.heap [] ls ?_ ⟨Nat.zero_le _, by rw [hC1]; rfl, fun a ha j => ⟨rfl, rfl⟩, fun k q hk => by rw [c1_ws_no C _ (Nat.not_lt_zero k)] at hk; cases hk⟩ va_S.rf
  · exact w
  · refine ⟨hl.1, hl.2.1, rfl, fun i v hv => ?_⟩
    cases i with
    | zero =>
      cases hv
      have := hl.2.2 (0, .ref b) (by simp [lv_args])
      show ls[0]? = some (.val (.ref (am_ad C 5200)))
      rw [hCb]
      exact this
    | succ i =>
      exfalso
      rcases (show i = 0 ∨ i = 1 ∨ i = 2 ∨ 3 ≤ i by omega) with rfl | rfl | rfl | hi
      · cases hv
      · cases hv
      · cases hv
      · have := am_ld_lt _ _ _ hv
        simp at this
        omega
