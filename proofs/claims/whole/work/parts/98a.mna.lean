/-! ===== new int[n][k]: the outer row, and behind it the inner ones ===== -/
def mn_o (cA : ClassId) (N h i : Nat) : Cell := arrV cA N (fun j => va_rf (if j < i then some (h + 1 + j) else none))
def mn_i (cI : ClassId) (K : Nat) : Cell := arrV cI K (fun _ => .int 0)
def mn_s (cA cI : ClassId) (N K : Nat) (T : State) : Nat → State
  | 0 => T.pushCell (mn_o cA N T.heap.size 0)
  | i + 1 => ((mn_s cA cI N K T i).pushCell (mn_i cI K)).setCell T.heap.size (mn_o cA N T.heap.size (i + 1))
theorem mn_o_size (cA : ClassId) (N h i : Nat) : (mn_o cA N h i).slots.size = N := arrV_size _ _ _
theorem mn_i_size (cI : ClassId) (K : Nat) : (mn_i cI K).slots.size = K := arrV_size _ _ _
theorem mn_o_set (cA : ClassId) (N h i : Nat) : (mn_o cA N h i).setSlot i (.ref (h + 1 + i)) = mn_o cA N h (i + 1) := by
  unfold mn_o
  rw [arrV_store]
  congr 1
  funext j
  unfold updV
  by_cases e : j = i
  · rw [if_pos e, e, if_pos (Nat.lt_succ_self i)]
    rfl
  · rw [if_neg e]
    show va_rf (if j < i then some (h + 1 + j) else none) = va_rf (if j < i + 1 then some (h + 1 + j) else none)
    by_cases w : j < i
    · rw [if_pos w, if_pos (by omega)]
    · rw [if_neg w, if_neg (by omega)]
theorem mn_facts (cA cI : ClassId) (N K : Nat) (T : State) : ∀ i : Nat, (mn_s cA cI N K T i).heap.size = T.heap.size + 1 + i ∧ (mn_s cA cI N K T i).heap[T.heap.size]? = some (mn_o cA N T.heap.size i) ∧ (mn_s cA cI N K T i).vm = T.vm ∧ (mn_s cA cI N K T i).slotsUsed = T.slotsUsed + N + i * K
  | 0 => by
    refine ⟨by simp [mn_s], by simp [mn_s], rfl, ?_⟩
    have := mn_o_size cA N T.heap.size 0
    simp [mn_s, this]
  | i + 1 => by
    obtain ⟨a, b, d, u⟩ := mn_facts cA cI N K T i
    have hlt : T.heap.size < (mn_s cA cI N K T i).heap.size := by omega
    have hb : ((mn_s cA cI N K T i).pushCell (mn_i cI K)).heap[T.heap.size]? = some (mn_o cA N T.heap.size i) := by rw [State.heap_pushCell_of_lt (h := hlt)]; exact b
    refine ⟨?_, State.heap_setCell_self hb, by simp [mn_s, d], ?_⟩
    · simp [mn_s, State.setCell, a]; omega
    · have := mn_i_size cI K
      simp [mn_s, u, this, Nat.succ_mul]; omega
theorem mn_top (cA cI : ClassId) (N K : Nat) (T : State) (f : JFrame) : ∀ i : Nat, mn_s cA cI N K (T.setTop f) i = (mn_s cA cI N K T i).setTop f
  | 0 => rfl
  | i + 1 => by simp only [mn_s, mn_top cA cI N K T f i, State.heap_setTop, State.pushCell_setTop, State.setCell_setTop]
theorem mn_old (cA cI : ClassId) (N K : Nat) (T : State) {a : Nat} (ha : a < T.heap.size) : ∀ i : Nat, (mn_s cA cI N K T i).heap[a]? = T.heap[a]?
  | 0 => State.heap_pushCell_of_lt _ _ ha
  | i + 1 => by
    have f1 := (mn_facts cA cI N K T i).1
    show (((mn_s cA cI N K T i).pushCell (mn_i cI K)).setCell T.heap.size _).heap[a]? = _
    rw [State.heap_setCell_other (Nat.ne_of_gt ha), State.heap_pushCell_of_lt (h := show a < (mn_s cA cI N K T i).heap.size by omega)]
    exact mn_old cA cI N K T ha i
theorem mn_in (cA cI : ClassId) (N K : Nat) (T : State) : ∀ i j : Nat, j < i → (mn_s cA cI N K T i).heap[T.heap.size + 1 + j]? = some (mn_i cI K)
  | 0, j, h => by omega
  | i + 1, j, h => by
    have f1 := (mn_facts cA cI N K T i).1
    show (((mn_s cA cI N K T i).pushCell (mn_i cI K)).setCell T.heap.size _).heap[T.heap.size + 1 + j]? = _
    rw [State.heap_setCell_other (show T.heap.size ≠ T.heap.size + 1 + j by omega)]
    by_cases hj : j < i
    · rw [State.heap_pushCell_of_lt (h := show T.heap.size + 1 + j < (mn_s cA cI N K T i).heap.size by omega)]
      exact mn_in cA cI N K T i j hj
    · have ej : j = i := by omega
      rw [ej, ← f1]
      exact State.heap_pushCell_size _ _
section MNS
variable {p : Program} {l : Launch} {e : Env} {R : Room} {s : State} {m : MethodId} {args : Array Value} {below : List Frame} {meth : Method} {c : Code} {T : State} {locs : List Loc} {cells slots : Nat}
theorem mn_stand (X : Stand p l e R s m args below meth c T locs cells slots) (cA cI : ClassId) (N K : Nat) : ∀ i : Nat, Stand p l e R s m args below meth c (mn_s cA cI N K T i) locs (cells + 1 + i) (slots + N + i * K)
  | 0 => by
    have h := X.pushed (mn_o cA N T.heap.size 0)
    rw [mn_o_size] at h
    simpa [mn_s] using h
  | i + 1 => by
    have Xi := mn_stand X cA cI N K i
    obtain ⟨f1, f2, f3, f4⟩ := mn_facts cA cI N K T i
    have hcell : ((mn_s cA cI N K T i).pushCell (mn_i cI K)).heap[T.heap.size]? = some (mn_o cA N T.heap.size i) := by rw [State.heap_pushCell_of_lt (h := show T.heap.size < (mn_s cA cI N K T i).heap.size by omega)]; exact f2
    have h := (Xi.pushed (mn_i cI K)).stored hcell i (.ref (T.heap.size + 1 + i))
    rw [mn_i_size, mn_o_set] at h
    have e3 : slots + N + (i + 1) * K = slots + N + i * K + K := by rw [Nat.succ_mul]; omega
    rw [e3]
    refine Stand.forget h (fun y hy => ?_)
    rw [List.mem_singleton.mp hy]
    exact X.heapGrown
end MNS
section MNW
variable {E : CtlPost} {e : Env} {d : Bool} {acts : List Action} {s : State}
theorem mn_arr {cA comp : ClassId} {k : Class} {ty : FieldType} {N : Nat} {v : Value} (hk : s.vm.classes[cA]? = some k) (hkind : k.kind = .array comp ty) (hl : ¬ N > e.platform.arrayLengthLimit) (hh : ¬ N * componentBytes ty > e.platform.maxHeapBytes) (hfit : fits ty v = true) (hdef : v.isDefault = true) {Q : Addr → Pre}
    (h1 : s.heap.size < e.platform.maxCells) (h2 : s.slotsUsed + N ≤ e.platform.maxSlots) (hq : Q s.heap.size d acts (s.pushCell (arrV cA N (fun _ => v)))) : wp (Jvm.newArray cA N v) Q E e d acts s := by
  have hf : ∀ i x, (Array.replicate N v)[i]? = some x → s.fitsSlot cA .none i x = true := fun i x hx => by
    simp only [Array.getElem?_replicate] at hx
    split at hx
    · cases hx; simp [State.fitsSlot, State.slotType?, hk, hkind, hfit]
    · cases hx
  have ha : allocActs (Array.replicate N v) s.heap.size acts = acts := by
    unfold allocActs
    rw [if_pos]
    rw [Array.all_replicate]
    split <;> simp [hdef]
  simp only [Jvm.newArray, Jvm.arrayFits, wp_bind', W.ask, W.ite, hl, if_false, wp_pure', W.theClass, hk, hkind, hh, W.alloc, W.stop, Option.some.injEq, exists_eq_left', Array.size_replicate, ha]
  rw [if_neg (by omega)]
  rw [← arrV_new] at hq
  exact ⟨h1, h2, hf, hq⟩
theorem mn_wp {cA cI cc : ClassId} {k kI : Class} {n m : Int32} (hk : s.vm.classes[cA]? = some k) (hkind : k.kind = .array cI (.array .int)) (hkI : s.vm.classes[cI]? = some kI) (hkindI : kI.kind = .array cc .int) (hn : ¬ n < 0) (hm : ¬ m < 0)
    (hl1 : ¬ n.toNatClampNeg > e.platform.arrayLengthLimit) (hh1 : ¬ n.toNatClampNeg * componentBytes (.array .int) > e.platform.maxHeapBytes) (hl2 : ¬ m.toNatClampNeg > e.platform.arrayLengthLimit) (hh2 : ¬ m.toNatClampNeg * componentBytes .int > e.platform.maxHeapBytes)
    (hc : s.heap.size + 1 + n.toNatClampNeg ≤ e.platform.maxCells) (hs : s.slotsUsed + n.toNatClampNeg + n.toNatClampNeg * m.toNatClampNeg ≤ e.platform.maxSlots)
    {Q : Addr → Pre} (hq : ∀ d' acts', Q s.heap.size d' acts' (mn_s cA cI n.toNatClampNeg m.toNatClampNeg s n.toNatClampNeg)) : wp (multianewarray.make cA [n, m]) Q E e d acts s := by
  have hfind : ([m].find? (· < 0)) = none := by simp [hm]
  rw [multianewarray.make]
  simp only [wp_bind', W.ite, hn, if_false, wp_pure', W.theClass, hk, hkind, Option.some.injEq, exists_eq_left']
  have h00 := Nat.zero_le (n.toNatClampNeg * m.toNatClampNeg)
  refine mn_arr hk hkind hl1 hh1 rfl rfl (by omega) (by omega) ?_
  simp only [hfind]
  rw [ite_self, wp_bind', Std.Legacy.Range.forIn_eq_forIn_range']
  rw [show ([:n.toNatClampNeg] : Std.Legacy.Range).size = n.toNatClampNeg by simp [Std.Legacy.Range.size]]
  show wp (forIn (List.range' 0 n.toNatClampNeg 1) PUnit.unit _) _ E e d acts _
  have key : ∀ t i : Nat, List.range' i (t + 1) = i :: List.range' (i + 1) t := fun t i => List.range'_succ
  refine wp_forIn_inv (fun rest S => ∃ i t, i + t = n.toNatClampNeg ∧ rest = List.range' i t ∧ S = mn_s cA cI n.toNatClampNeg m.toNatClampNeg s i) _ _ ⟨0, n.toNatClampNeg, by omega, rfl, ?_⟩ ?_ ?_
  · show _ = s.pushCell (mn_o cA n.toNatClampNeg s.heap.size 0)
    congr 1
  · rintro x rest S d' acts' Q' ⟨i, t, hit, hl, rfl⟩ hnext
    obtain ⟨t, rfl⟩ : ∃ t', t = t' + 1 := by
      cases t with
      | zero => simp at hl
      | succ t => exact ⟨t, rfl⟩
    rw [key t i] at hl
    obtain ⟨rfl, rfl⟩ := List.cons.inj hl
    obtain ⟨f1, f2, f3, f4⟩ := mn_facts cA cI n.toNatClampNeg m.toNatClampNeg s x
    have hmul : x * m.toNatClampNeg + m.toNatClampNeg ≤ n.toNatClampNeg * m.toNatClampNeg := by
      have := Nat.mul_le_mul_right m.toNatClampNeg (show x + 1 ≤ n.toNatClampNeg by omega)
      rw [Nat.succ_mul] at this; exact this
    simp only [wp_bind']
    rw [multianewarray.make]
    simp only [wp_bind', W.ite, hm, if_false, wp_pure', W.theClass, f3, hkI, hkindI, Option.some.injEq, exists_eq_left']
    refine mn_arr (by rw [f3]; exact hkI) hkindI hl2 hh2 rfl rfl (by rw [f1]; omega) (by rw [f4]; omega) ?_
    simp only [wp_bind', W.writeLoc, wp_pure']
    refine ⟨mn_o cA n.toNatClampNeg s.heap.size x, ?_, (by simp [mn_o, arrV]), (by rw [mn_o_size]; omega), ?_, hnext _ _ _ ⟨x + 1, t, by omega, rfl, ?_⟩⟩
    · rw [State.heap_pushCell_of_lt (h := show s.heap.size < (mn_s cA cI n.toNatClampNeg m.toNatClampNeg s x).heap.size by omega)]; exact f2
    · simp [State.fitsSlot, State.slotType?, mn_o, arrV, f3, hk, hkind, fits]
    · rw [f1, mn_o_set]
      rfl
  · rintro S d' acts' ⟨i, t, hit, hl, rfl⟩
    have ht : t = 0 := by
      cases t with
      | zero => rfl
      | succ t => rw [key t i] at hl; cases hl
    have hi : i = n.toNatClampNeg := by omega
    rw [hi]
    simp only [wp_pure']
    exact hq _ _
end MNW
section MNX
variable {p : Program} {l : Launch} {e : Env} {R : Room} {s : State} {m : MethodId} {args : Array Value} {below : List Frame} {meth : Method} {c : Code} {H : Heap} {locs : List Loc} {cells slots : Nat} {Q : State → Prop}
theorem mn_go {T : State} (X : Stand p l e R s m args below meth c T locs cells slots) (hexec : p.tables.exec = Jvm.exec) {own : String} {index : Nat} (hown : s.vm.findClass own = some m.cls) (hclink : (Cond.classLink own index "[[I").before args s = true) (hover : (Cond.arrayOver (.array .int)).before args s = true) (harr : (Cond.arrayClass .int).before args s = true)
    {g : JFrame} (hg : g.method = m) (hdg : decode c.code g.pc = .ok (.multianewarray index 2, 4)) {n k : Int32} {rest : List Value} (hstack : g.stack = .int k :: .int n :: rest) (hn : ¬ n < 0) (hk : ¬ k < 0) (hb1 : n.toNatClampNeg ≤ 1000) (hb2 : k.toNatClampNeg ≤ 1000) (hcells : cells + (1 + n.toNatClampNeg) ≤ R.cells) (hslots : slots + (n.toNatClampNeg + n.toNatClampNeg * k.toNatClampNeg) ≤ R.slots) :
    ∃ (vm₁ : Vm) (cA cI : ClassId), s.vm.findClass "[[I" = some cA ∧ s.vm.findClass "[I" = some cI ∧ Stand p l e R s m args below meth c (mn_s cA cI n.toNatClampNeg k.toNatClampNeg (T.setVm vm₁) n.toNatClampNeg) locs (cells + 1 + n.toNatClampNeg) (slots + n.toNatClampNeg + n.toNatClampNeg * k.toNatClampNeg) ∧
      ∀ target, Steps p.tables e below ((mn_s cA cI n.toNatClampNeg k.toNatClampNeg (T.setVm vm₁) n.toNatClampNeg).setTop { g with pc := g.pc + 4, stack := .ref T.heap.size :: rest }) target → Steps p.tables e below (T.setTop g) target := by
  subst hg
  have hpl : e.platform.magicAccessors = ({} : Platform).magicAccessors := by rw [X.admits.platform]
  obtain ⟨cI, cA, kA, hcI, -, hkA, hkindA, hnA⟩ := arrayOverA_spec hover
  obtain ⟨cI', kI, cc, hcI', hkI, hkindI⟩ := Cond.arrayClass_spec harr
  cases hcI'.symm.trans hcI
  obtain ⟨c0, hfc0, hcl⟩ := Cond.classLink_spec hown hclink e.platform hpl
  cases hnA.symm.trans hfc0
  obtain ⟨hg₁, hwarm₁, hready₁⟩ := State.classEntry (e := e) X.warmed hcl
  generalize T.vm.noted g.method.cls index (.cls cA) = vm₁ at hg₁ hwarm₁ hready₁
  obtain ⟨kA₁, hkA₁, heA⟩ := hwarm₁.alike.2.2 _ _ hkA
  obtain ⟨kI₁, hkI₁, heI⟩ := hwarm₁.alike.2.2 _ _ hkI
  have X₁ := X.noted hwarm₁
  have XF := mn_stand X₁ cA cI n.toNatClampNeg k.toNatClampNeg n.toNatClampNeg
  obtain ⟨hr1, hr2⟩ := X.roomAbove hcells hslots
  refine ⟨vm₁, cA, cI, hnA, hcI, XF, fun target hrest => ?_⟩
  have hl1 : ¬ n.toNatClampNeg > e.platform.arrayLengthLimit := by rw [Launch.admits_arrayLengthLimit X.admits]; omega
  have hh1 : ¬ n.toNatClampNeg * componentBytes (.array .int) > e.platform.maxHeapBytes := by
    rw [Launch.admits_maxHeapBytes X.admits]; show ¬ n.toNatClampNeg * 4 > 536870912; omega
  have hl2 : ¬ k.toNatClampNeg > e.platform.arrayLengthLimit := by rw [Launch.admits_arrayLengthLimit X.admits]; omega
  have hh2 : ¬ k.toNatClampNeg * componentBytes .int > e.platform.maxHeapBytes := by
    rw [Launch.admits_maxHeapBytes X.admits]; show ¬ k.toNatClampNeg * 4 > 536870912; omega
  jvm_step X.here [hexec, hdg]
  simp only [multianewarray.sem, wp_bind', W.resolveClassAt_links (State.method?_setTop g X.here.top) hg₁]
  rw [W.popN, if_neg (by decide)]
  refine ⟨g, State.topJava?_setTop' (s := T.setVm vm₁) g X.here.top, [.int n, .int k], rest, rfl, hstack, ?_⟩
  simp only [List.mapM_cons, List.mapM_nil, wp_bind', wp_pure']
  refine mn_wp (k := kA₁) (kI := kI₁) (cI := cI) (cc := cc) hkA₁ (by rw [heA]; exact hkindA) hkI₁ (by rw [heI]; exact hkindI) hn hk hl1 hh1 hl2 hh2 (by show T.heap.size + 1 + _ ≤ _; omega) (by show T.slotsUsed + _ + _ ≤ _; omega) (fun d' acts' => ?_)
  have eS : ((T.setTop g).setVm vm₁).setTop { g with stack := rest } = (T.setVm vm₁).setTop { g with stack := rest } := by
    show ((T.setVm vm₁).setTop g).setTop _ = _
    rw [State.setTop_setTop]
  rw [eS, mn_top]
  simp only [wp_bind', W.mark, W.pushRef, State.topJava?_setTop' _ XF.here.top, Option.some.injEq, exists_eq_left', State.setTop_setTop, State.heap_setTop]
  intro acts
  simp [jvm, XF.here.top]
  exact hrest
theorem mn_W {cc : ByteArray} (hexec : p.tables.exec = Jvm.exec) (hb : c.code = cc) {own : String} {index : Nat} (hown : s.vm.findClass own = some m.cls) (hclink : (Cond.classLink own index "[[I").before args s = true) (hover : (Cond.arrayOver (.array .int)).before args s = true) (harr : (Cond.arrayClass .int).before args s = true)
    {pc : Nat} {ls : Array Slot} {n k : Int32} {N K h : Nat} {rest : List Value} (hn : ¬ n < 0) (hk : ¬ k < 0) (hN : n.toNatClampNeg = N) (hK : k.toNatClampNeg = K) (hb1 : N ≤ 1000) (hb2 : K ≤ 1000) (hcells : cells + (1 + N) ≤ R.cells) (hslots : slots + (N + N * K) ≤ R.slots) (hdg : decode cc pc = .ok (.multianewarray index 2, 4)) (hh : H.size = h)
    (kk : ∀ (H1 : Heap) (cA cI : ClassId), s.vm.findClass "[[I" = some cA → s.vm.findClass "[I" = some cI → H1.size = h + 1 + N → H1[h]? = some (mn_o cA N h N) → (∀ j, j < N → H1[h + 1 + j]? = some (mn_i cI K)) → (∀ q, q < h → H1[q]? = H[q]?) → W p l e R s m args below meth c H1 locs (cells + 1 + N) (slots + N + N * K) Q (F0 m (pc + 4) ls (.ref h :: rest))) :
    W p l e R s m args below meth c H locs cells slots Q (F0 m pc ls (.int k :: .int n :: rest)) := by
  subst hN; subst hK; subst hh; subst hb
  intro T hT X
  subst hT
  obtain ⟨vm₁, cA, cI, h1, h2, X', st⟩ := mn_go X hexec hown hclink hover harr (g := F0 m pc ls (.int k :: .int n :: rest)) rfl hdg rfl hn hk hb1 hb2 hcells hslots
  obtain ⟨f1, f2, -, -⟩ := mn_facts cA cI n.toNatClampNeg k.toNatClampNeg (T.setVm vm₁) n.toNatClampNeg
  obtain ⟨t, a1, b1⟩ := kk _ cA cI h1 h2 f1 f2 (fun j hj => mn_in cA cI _ _ (T.setVm vm₁) _ j hj) (fun q hq => mn_old cA cI _ _ (T.setVm vm₁) hq _) _ rfl X'
  exact ⟨t, st t a1, b1⟩
end MNX
