/-! ===== new int[n][k]: the state behind it told outright: behind the old cells the outer row, behind it the inner ones ===== -/
def mn_o (cA : ClassId) (N h i : Nat) : Cell := arrV cA N (fun j => va_rf (if j < i then some (h + 1 + j) else none))
def mn_i (cI : ClassId) (K : Nat) : Cell := arrV cI K (fun _ => .int 0)
/-- i of the inner rows are made -/
def mn_h (cA cI : ClassId) (N K : Nat) (H : Heap) (i : Nat) : Heap := H.push (mn_o cA N H.size i) ++ Array.replicate i (mn_i cI K)
def mn_s (cA cI : ClassId) (N K : Nat) (T : State) (i : Nat) : State := { T with heap := mn_h cA cI N K T.heap i, slotsUsed := T.slotsUsed + N + i * K }
theorem mn_o_size (cA : ClassId) (N h i : Nat) : (mn_o cA N h i).slots.size = N := arrV_size _ _ _
theorem mn_i_size (cI : ClassId) (K : Nat) : (mn_i cI K).slots.size = K := arrV_size _ _ _
theorem mn_o_set (cA : ClassId) (N h i : Nat) : (mn_o cA N h i).setSlot i (.ref (h + 1 + i)) = mn_o cA N h (i + 1) := by
  unfold mn_o
  rw [arrV_store]
  congr 1
  funext j
  show (if j = i then Value.ref (h + 1 + i) else va_rf (if j < i then some (h + 1 + j) else none)) = va_rf (if j < i + 1 then some (h + 1 + j) else none)
  rcases Nat.lt_trichotomy j i with w | w | w
  · rw [if_neg (by omega), if_pos w, if_pos (by omega)]
  · rw [if_pos w, w, if_pos (by omega)]
    rfl
  · rw [if_neg (by omega), if_neg (by omega), if_neg (by omega)]
section MNH
variable {cA cI : ClassId} {N K : Nat} {H : Heap} {i : Nat}
theorem mn_h_size : (mn_h cA cI N K H i).size = H.size + 1 + i := by
  unfold mn_h
  rw [Array.size_append, Array.size_push, Array.size_replicate]
theorem mn_h_old {q : Nat} (hq : q < H.size) : (mn_h cA cI N K H i)[q]? = H[q]? := by
  unfold mn_h
  rw [Array.getElem?_append_left (by rw [Array.size_push]; omega), Array.getElem?_push, if_neg (by omega)]
theorem mn_h_at : (mn_h cA cI N K H i)[H.size]? = some (mn_o cA N H.size i) := by
  unfold mn_h
  rw [Array.getElem?_append_left (by rw [Array.size_push]; omega), Array.getElem?_push_size]
theorem mn_h_in {j : Nat} (hj : j < i) : (mn_h cA cI N K H i)[H.size + 1 + j]? = some (mn_i cI K) := by
  unfold mn_h
  rw [Array.getElem?_append_right (by rw [Array.size_push]; omega), Array.size_push, Nat.add_sub_cancel_left, Array.getElem?_replicate, if_pos hj]
theorem mn_h_no {q : Nat} (hq : H.size + 1 + i ≤ q) : (mn_h cA cI N K H i)[q]? = none := Array.getElem?_eq_none (by rw [mn_h_size]; exact hq)
/-- one inner row more, and its place in the outer one -/
theorem mn_h_step : ((mn_h cA cI N K H i).push (mn_i cI K)).setIfInBounds H.size (mn_o cA N H.size (i + 1)) = mn_h cA cI N K H (i + 1) := by
  apply Array.ext_getElem?
  intro q
  rw [Array.getElem?_setIfInBounds]
  rcases Nat.lt_trichotomy q H.size with w | w | w
  · rw [if_neg (by omega), Array.getElem?_push, mn_h_size, if_neg (by omega), mn_h_old w, mn_h_old w]
  · rw [if_pos w.symm, if_pos (by rw [Array.size_push, mn_h_size]; omega), w, mn_h_at]
  · obtain ⟨j, rfl⟩ : ∃ j, q = H.size + 1 + j := ⟨q - H.size - 1, by omega⟩
    rw [if_neg (by omega), Array.getElem?_push, mn_h_size]
    rcases Nat.lt_trichotomy j i with x | x | x
    · rw [if_neg (by omega), mn_h_in x, mn_h_in (by omega)]
    · rw [if_pos (by omega), mn_h_in (by omega)]
    · rw [if_neg (by omega), mn_h_no (by omega), mn_h_no (by omega)]
end MNH
theorem mn_s_0 (cA cI : ClassId) (N K : Nat) (T : State) : T.pushCell (mn_o cA N T.heap.size 0) = mn_s cA cI N K T 0 := by
  unfold State.pushCell mn_s mn_h
  rw [mn_o_size, Nat.zero_mul, Nat.add_zero, Array.replicate_zero, Array.append_empty]
theorem mn_s_s (cA cI : ClassId) (N K : Nat) (T : State) (i : Nat) : ((mn_s cA cI N K T i).pushCell (mn_i cI K)).setCell T.heap.size (mn_o cA N T.heap.size (i + 1)) = mn_s cA cI N K T (i + 1) := by
  have e1 : ((mn_h cA cI N K T.heap i).push (mn_i cI K)).setIfInBounds T.heap.size (mn_o cA N T.heap.size (i + 1)) = mn_h cA cI N K T.heap (i + 1) := mn_h_step
  have e2 : T.slotsUsed + N + i * K + (mn_i cI K).slots.size = T.slotsUsed + N + (i + 1) * K := by rw [mn_i_size, Nat.succ_mul]; omega
  show ({ T with heap := ((mn_h cA cI N K T.heap i).push (mn_i cI K)).setIfInBounds T.heap.size (mn_o cA N T.heap.size (i + 1)), slotsUsed := T.slotsUsed + N + i * K + (mn_i cI K).slots.size } : State) = _
  rw [e1, e2]
  rfl
/-- what is to be known of the two classes -/
def mn_A (U : State) : Prop := ∃ (cA cI cc : ClassId) (kA kI : Class), U.vm.findClass "[[I" = some cA ∧ U.vm.findClass "[I" = some cI ∧ U.vm.classes[cA]? = some kA ∧ kA.kind = .array cI (.array .int) ∧ U.vm.classes[cI]? = some kI ∧ kI.kind = .array cc .int
theorem mn_A.moved {u U : State} (hvm : u.vm.Alike U.vm) (h : mn_A u) : mn_A U := by
  obtain ⟨cA, cI, cc, kA, kI, h1, h2, h3, h4, h5, h6⟩ := h
  obtain ⟨kA', a1, a2⟩ := hvm.2.2 _ _ h3
  obtain ⟨kI', b1, b2⟩ := hvm.2.2 _ _ h5
  exact ⟨cA, cI, cc, kA', kI', by rw [hvm.findClass]; exact h1, by rw [hvm.findClass]; exact h2, a1, by rw [a2]; exact h4, b1, by rw [b2]; exact h6⟩
theorem mn_A.of {U : State} {A : Array Value} (ho : (Cond.arrayOver (.array .int)).before A U = true) (ha : (Cond.arrayClass .int).before A U = true) : mn_A U := by
  obtain ⟨cI, cA, kA, h1, -, h3, h4, h5⟩ := arrayOverA_spec ho
  obtain ⟨cI', kI, cc, g1, g2, g3⟩ := Cond.arrayClass_spec ha
  have e : cI' = cI := Option.some.inj (g1.symm.trans h1)
  subst e
  exact ⟨cA, cI', cc, kA, kI, h5, h1, h3, h4, g2, g3⟩
section MNW
variable {E : CtlPost} {e : Env}
/-- a loop over i, i + 1 .. whose round i leads from S i to S (i + 1) -/
theorem mn_loop {N : Nat} {f : Nat → PUnit → Sem (ForInStep PUnit)} {S : Nat → State} (hf : ∀ i, i < N → ∀ (d : Bool) (acts : List Action) (Q' : ForInStep PUnit → Pre), (∀ d' acts', Q' (ForInStep.yield PUnit.unit) d' acts' (S (i + 1))) → wp (f i PUnit.unit) Q' E e d acts (S i)) {Q : PUnit → Pre} (hq : ∀ d acts, Q PUnit.unit d acts (S N)) :
    ∀ (t i : Nat) (d : Bool) (acts : List Action), i + t = N → wp (forIn (List.range' i t) PUnit.unit f) Q E e d acts (S i)
  | 0, i, d, acts, h => by
    have hi : i = N := by omega
    subst hi
    simp only [List.range'_zero, List.forIn_nil, wp_pure']
    exact hq d acts
  | t + 1, i, d, acts, h => by
    rw [List.range'_succ]
    simp only [List.forIn_cons, wp_bind']
    exact hf i (by omega) d acts _ (fun d' acts' => mn_loop hf hq t (i + 1) d' acts' (by omega))
variable {d : Bool} {acts : List Action} {s : State}
/-- a row of N defaults -/
theorem mn_row {cA comp : ClassId} {k : Class} {ty : FieldType} {N : Nat} (hk : s.vm.classes[cA]? = some k) (hkind : k.kind = .array comp ty) (hN : N ≤ 1000) (hty : componentBytes ty ≤ 8) {v : Value} (hfit : fits ty v = true) (hdef : v.isDefault = true) (hl : 1000 ≤ e.platform.arrayLengthLimit) (hh : 8000 ≤ e.platform.maxHeapBytes)
    (h1 : s.heap.size + 1 ≤ e.platform.maxCells) (h2 : s.slotsUsed + N ≤ e.platform.maxSlots) {Q : Addr → Pre} (hq : Q s.heap.size d acts (s.pushCell (arrV cA N (fun _ => v)))) : wp (Jvm.newArray cA N v) Q E e d acts s := by
  have hb : N * componentBytes ty ≤ 1000 * 8 := Nat.mul_le_mul hN hty
  have q1 : ¬ N > e.platform.arrayLengthLimit := by omega
  have q2 : ¬ N * componentBytes ty > e.platform.maxHeapBytes := by omega
  have q3 : allocActs (Array.replicate N v) s.heap.size acts = acts := if_pos (by rw [Array.all_replicate]; split <;> simp [hdef])
  rw [← arrV_new] at hq
  simp only [Jvm.newArray, Jvm.arrayFits, wp_bind', wp_pure', W.ask, W.ite, W.stop, W.alloc, W.theClass, hk, hkind, q1, q2, q3, if_false, Option.some.injEq, exists_eq_left', Array.size_replicate]
  rw [if_neg (by omega)]
  refine ⟨h1, h2, fun i x hx => ?_, hq⟩
  have hx : x = v := by
    rw [Array.getElem?_replicate] at hx
    split at hx
    · exact (Option.some.inj hx).symm
    · cases hx
  rw [hx]
  simp [State.fitsSlot, State.slotType?, hk, hkind, hfit]
theorem mn_wp {cA cI cc : ClassId} {kA kI : Class} {n m : Int32} {N K : Nat} (hA : s.vm.classes[cA]? = some kA) (hA2 : kA.kind = .array cI (.array .int)) (hI : s.vm.classes[cI]? = some kI) (hI2 : kI.kind = .array cc .int) (hn : ¬ n < 0) (hm : ¬ m < 0) (hN : n.toNatClampNeg = N) (hK : m.toNatClampNeg = K) (hN1 : N ≤ 1000) (hK1 : K ≤ 1000) (hl : 1000 ≤ e.platform.arrayLengthLimit) (hh : 8000 ≤ e.platform.maxHeapBytes)
    (hc : s.heap.size + (1 + N) ≤ e.platform.maxCells) (hs : s.slotsUsed + (N + N * K) ≤ e.platform.maxSlots) {Q : Addr → Pre} (hq : ∀ d' acts', Q s.heap.size d' acts' (mn_s cA cI N K s N)) : wp (multianewarray.make cA [n, m]) Q E e d acts s := by
  subst hN; subst hK
  generalize hN : n.toNatClampNeg = N at *
  generalize hK : m.toNatClampNeg = K at *
  have hno : ([m].find? (· < 0)) = none := by simp [hm]
  rw [multianewarray.make]
  simp only [wp_bind', wp_pure', W.ite, W.theClass, hn, if_false, hA, hA2, Option.some.injEq, exists_eq_left', hN]
  refine mn_row hA hA2 hN1 (by show 4 ≤ 8; omega) rfl rfl hl hh (by omega) (by omega) ?_
  rw [show arrV cA N (fun _ => Value.null) = mn_o cA N s.heap.size 0 by unfold mn_o; congr 1, mn_s_0 cA cI N K s]
  simp only [hno]
  rw [ite_self, wp_bind', Std.Legacy.Range.forIn_eq_forIn_range', show ([:N] : Std.Legacy.Range).size = N by simp [Std.Legacy.Range.size]]
  refine mn_loop (N := N) (S := fun i => mn_s cA cI N K s i) (fun i hi d acts Q' hn' => ?_) (fun d acts => ?_) N 0 d acts (by omega)
  · have z : (mn_s cA cI N K s i).heap.size = s.heap.size + 1 + i := mn_h_size
    have u : (mn_s cA cI N K s i).slotsUsed = s.slotsUsed + N + i * K := rfl
    have hmul : i * K + K ≤ N * K := by rw [← Nat.succ_mul]; exact Nat.mul_le_mul_right K hi
    rw [wp_bind', multianewarray.make]
    simp only [wp_bind', wp_pure', W.ite, W.theClass, hm, if_false, show (mn_s cA cI N K s i).vm = s.vm from rfl, hI, hI2, Option.some.injEq, exists_eq_left', hK]
    refine mn_row (s := mn_s cA cI N K s i) hI hI2 hK1 (by show 4 ≤ 8; omega) rfl rfl hl hh (by omega) (by omega) ?_
    simp only [wp_bind', W.writeLoc, wp_pure']
    have hat : ((mn_s cA cI N K s i).pushCell (mn_i cI K)).heap[s.heap.size]? = some (mn_o cA N s.heap.size i) := by
      show ((mn_h cA cI N K s.heap i).push (mn_i cI K))[s.heap.size]? = _
      rw [Array.getElem?_push, mn_h_size, if_neg (by omega), mn_h_at]
    refine ⟨_, hat, by simp [mn_o, arrV], by rw [mn_o_size]; exact hi, ?_, ?_⟩
    · simp [State.fitsSlot, State.slotType?, mn_o, arrV, fits, show (mn_s cA cI N K s i).vm = s.vm from rfl, hA, hA2]
    · rw [z, mn_o_set]
      have w := hn' true (writeActs { base := s.heap.size, slot := i } Mode.plain (.ref (s.heap.size + 1 + i)) acts)
      exact (mn_s_s cA cI N K s i) ▸ w
  · simp only [wp_pure']
    exact hq d acts
end MNW
section MNX
variable {p : Program} {l : Launch} {e : Env} {R : Room} {s : State} {m : MethodId} {args : Array Value} {below : List Frame} {meth : Method} {c : Code} {H : Heap} {locs : List Loc} {cells slots : Nat} {Q : State → Prop}
theorem mn_stand {T : State} (X : Stand p l e R s m args below meth c T locs cells slots) (cA cI : ClassId) (N K : Nat) (i : Nat) : Stand p l e R s m args below meth c (mn_s cA cI N K T i) locs (cells + 1 + i) (slots + N + i * K) := by
  induction i with
  | zero =>
    have h := X.pushed (mn_o cA N T.heap.size 0)
    rw [mn_o_size, mn_s_0 cA cI N K T] at h
    rw [Nat.zero_mul]
    exact h
  | succ i ih =>
    have hat : ((mn_s cA cI N K T i).pushCell (mn_i cI K)).heap[T.heap.size]? = some (mn_o cA N T.heap.size i) := by
      show ((mn_h cA cI N K T.heap i).push (mn_i cI K))[T.heap.size]? = _
      rw [Array.getElem?_push, mn_h_size, if_neg (by omega), mn_h_at]
    have h := (ih.pushed (mn_i cI K)).stored hat i (.ref (T.heap.size + 1 + i))
    rw [mn_i_size, mn_o_set, mn_s_s] at h
    rw [show slots + N + (i + 1) * K = slots + N + i * K + K by rw [Nat.succ_mul]; omega]
    refine Stand.forget h (fun y hy => ?_)
    have e := List.mem_singleton.mp hy
    subst e
    exact X.same.2.1
theorem mn_W {cc : ByteArray} (hexec : p.tables.exec = Jvm.exec) (hb : c.code = cc) {own : String} {index : Nat} (hown : s.vm.findClass own = some m.cls) (hclink : (Cond.classLink own index "[[I").before args s = true) (hAA : mn_A s)
    {pc : Nat} {ls : Array Slot} {n k : Int32} {N K h : Nat} {rest : List Value} (hn : ¬ n < 0) (hk : ¬ k < 0) (hN : n.toNatClampNeg = N) (hK : k.toNatClampNeg = K) (hb1 : N ≤ 1000) (hb2 : K ≤ 1000) (hcells : cells + (1 + N) ≤ R.cells) (hslots : slots + (N + N * K) ≤ R.slots) (hdg : decode cc pc = .ok (.multianewarray index 2, 4)) (hh : H.size = h)
    (kk : ∀ (H1 : Heap) (cA cI : ClassId), s.vm.findClass "[[I" = some cA → s.vm.findClass "[I" = some cI → H1.size = h + 1 + N → H1[h]? = some (mn_o cA N h N) → (∀ j, j < N → H1[h + 1 + j]? = some (mn_i cI K)) → (∀ q, q < h → H1[q]? = H[q]?) → W p l e R s m args below meth c H1 locs (cells + 1 + N) (slots + N + N * K) Q (F0 m (pc + 4) ls (.ref h :: rest))) :
    W p l e R s m args below meth c H locs cells slots Q (F0 m pc ls (.int k :: .int n :: rest)) := by
  intro T hT X
  subst hT; subst hh; subst hb
  obtain ⟨hr1, hr2⟩ := X.roomAbove hcells hslots
  have hlim : 1000 ≤ e.platform.arrayLengthLimit := by rw [Launch.admits_arrayLengthLimit X.admits]; omega
  have hhb : 8000 ≤ e.platform.maxHeapBytes := by rw [Launch.admits_maxHeapBytes X.admits]; omega
  obtain ⟨c0, hc0, hcl⟩ := Cond.classLink_spec hown hclink e.platform (by rw [X.admits.platform])
  obtain ⟨hg₁, hw₁, -⟩ := State.classEntry (e := e) X.warmed hcl
  generalize T.vm.noted m.cls index (.cls c0) = vm₁ at hg₁ hw₁
  obtain ⟨cA, cI, co, kA, kI, a1, a2, a3, a4, a5, a6⟩ := hAA.moved (U := T.setVm vm₁) hw₁.alike
  have b1 : s.vm.findClass "[[I" = some cA := (hw₁.alike.findClass "[[I" _).symm.trans a1
  have b2 : s.vm.findClass "[I" = some cI := (hw₁.alike.findClass "[I" _).symm.trans a2
  have ec : c0 = cA := Option.some.inj (hc0.symm.trans b1)
  subst ec
  have XF := mn_stand (X.noted hw₁) c0 cI N K N
  obtain ⟨t, y1, y2⟩ := kk (mn_s c0 cI N K (T.setVm vm₁) N).heap c0 cI b1 b2 mn_h_size mn_h_at (fun j hj => mn_h_in hj) (fun q hq => mn_h_old hq) _ rfl XF
  refine ⟨t, ?_, y2⟩
  jvm_step X.here [hexec, hdg]
  simp only [multianewarray.sem, wp_bind', W.resolveClassAt_links (State.method?_setTop (F0 m pc ls (.int k :: .int n :: rest)) X.here.top) hg₁]
  rw [W.popN, if_neg (by decide)]
  refine ⟨F0 m pc ls (.int k :: .int n :: rest), State.topJava?_setTop' (s := T.setVm vm₁) _ X.here.top, [.int n, .int k], rest, rfl, rfl, ?_⟩
  simp only [List.mapM_cons, List.mapM_nil, wp_bind', wp_pure']
  have es : (((T.setTop (F0 m pc ls (.int k :: .int n :: rest))).setVm vm₁).setTop { F0 m pc ls (.int k :: .int n :: rest) with stack := rest }) = (T.setVm vm₁).setTop { F0 m pc ls (.int k :: .int n :: rest) with stack := rest } := State.setTop_setTop (s := T.setVm vm₁) ..
  rw [es]
  refine mn_wp (s := (T.setVm vm₁).setTop { F0 m pc ls (.int k :: .int n :: rest) with stack := rest }) (N := N) (K := K) a3 a4 a5 a6 hn hk hN hK hb1 hb2 hlim hhb hr1 hr2 (fun d acts => ?_)
  have top : (mn_s c0 cI N K (T.setVm vm₁) N).topJava?.isSome := XF.here.top
  show wp _ _ _ e d acts ((mn_s c0 cI N K (T.setVm vm₁) N).setTop { F0 m pc ls (.int k :: .int n :: rest) with stack := rest })
  simp only [wp_bind', W.mark, W.pushRef, State.topJava?_setTop' _ top, State.setTop_setTop, State.heap_setTop, Option.some.injEq, exists_eq_left']
  intro acts
  simp [jvm, top]
  exact y1
end MNX
