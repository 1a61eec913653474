section AMT
variable {X : Option (Nat × (Nat → Int32))} {sws : List (List (Int32 × Nat) × Nat)} {sem : Nat → List aV → aM → Option aR} {p : Program} {l : Launch} {e : Env} {R : Room} {s : State} {m : MethodId} {args : Array Value} {below : List Frame} {meth : Method} {c : Code} {C : aC} {Q : State → Prop} {j d ce sl rt : Nat} {r : aR} {k : aK} {pc a1 a2 : Nat} {a3 : Int32} {a4 : Int64} {al : aL} {st : List aV} {M : aM}
theorem am_sw_ok (x : Int32) (dt : Nat) : ∀ (q : List (Int32 × Nat)), am_sw k al st M x dt q = some r → (∃ (i : Nat) (c : Int32) (t : Nat), q[i]? = some (c, t) ∧ x = c ∧ k t al st M = some r) ∨ ((∀ (i : Nat) (c : Int32) (t : Nat), q[i]? = some (c, t) → x ≠ c) ∧ k dt al st M = some r)
  | [], h => Or.inr ⟨fun i c t hi => by simp at hi, h⟩
  | (c0, t0) :: q, h => by
    unfold am_sw at h
    split at h
    · rename_i hx
      exact Or.inl ⟨0, c0, t0, rfl, hx, h⟩
    · rename_i hx
      rcases am_sw_ok x dt q h with ⟨i, c, t, h1, h2, h3⟩ | ⟨h1, h2⟩
      · exact Or.inl ⟨i + 1, c, t, h1, h2, h3⟩
      · refine Or.inr ⟨fun i c t hi => ?_, h2⟩
        cases i with
        | zero => cases hi; exact hx
        | succ i => exact h1 i c t hi
theorem am_o_tableswitch {dfl lo hi : Int} {offs : Array Int} {len : Nat} (hch : (decide ((pc : Int) + dfl = ((sws.getD a1 ([], 0)).2 : Int)) && decide (hi + 1 - lo = ((sws.getD a1 ([], 0)).1.length : Int)) && decide (offs.toList.length = (sws.getD a1 ([], 0)).1.length) && (List.range (sws.getD a1 ([], 0)).1.length).all (fun i => decide (((sws.getD a1 ([], 0)).1.getD i (0, 0)).1.toInt = lo + (i : Int)) && decide ((pc : Int) + offs.toList.getD i 0 = (((sws.getD a1 ([], 0)).1.getD i (0, 0)).2 : Int)))) = true)
    (F : am_F X p R s m args c C j d ce sl) (hk : am_HK p l e R s m args below meth c C (am_ml j) ce sl Q r k) (hdg : decode (am_b j) pc = .ok (.tableswitch dfl lo hi offs, len)) (h : (match st with
    | .inl x :: r => am_sw k al r M x (sws.getD a1 ([], 0)).2 (sws.getD a1 ([], 0)).1
    | _ => none) = some r) : am_Wd p l e R s m args below meth c C (am_ml j) ce sl Q pc al st M := by
  intro hal hst H locs ls hl hP hS
  generalize (sws.getD a1 ([], 0)).2 = dt at hch h
  generalize (sws.getD a1 ([], 0)).1 = q at hch h
  simp only [Bool.and_eq_true, decide_eq_true_eq, List.all_eq_true, List.mem_range] at hch
  obtain ⟨⟨⟨h1, h2⟩, h3⟩, h4⟩ := hch
  split at h
  · rename_i x rest
    rcases am_sw_ok x dt q h with ⟨i, cc, t, g1, g2, g3⟩ | ⟨g1, g2⟩
    · have hi := (List.getElem?_eq_some_iff.mp g1).1
      obtain ⟨e1, e2⟩ := h4 i hi
      have eq : q.getD i (0, 0) = (cc, t) := by rw [List.getD_eq_getElem?_getD, g1]; rfl
      rw [eq] at e1 e2
      dsimp only at e1 e2
      rw [← g2] at e1
      have ho : offs[(x.toInt - lo).toNat]? = some (offs.toList.getD i 0) := by
        have e3 : (x.toInt - lo).toNat = i := by omega
        rw [e3, ← Array.getElem?_toList, List.getD_eq_getElem?_getD]
        have hio : i < offs.toList.length := by omega
        rw [List.getElem?_eq_getElem hio]
        rfl
      exact lv_tableIn (tgt := t) F.1 F.2.1 hdg (by omega) (by omega) ho e2 (hk _ _ _ _ g3 hal (am_wk_t hst) H locs ls hl hP hS)
    · refine lv_tableOut (tgt := dt) F.1 F.2.1 hdg ?_ h1 (hk _ _ _ _ g2 hal (am_wk_t hst) H locs ls hl hP hS)
      rcases Int.lt_or_le x.toInt lo with q1 | q1
      · exact Or.inl q1
      · rcases Int.lt_or_le hi x.toInt with q2 | q2
        · exact Or.inr q2
        · exfalso
          have hlt : (x.toInt - lo).toNat < q.length := by omega
          obtain ⟨e1, -⟩ := h4 _ hlt
          have hq : q[(x.toInt - lo).toNat]? = some (q.getD (x.toInt - lo).toNat (0, 0)) := by
            rw [List.getD_eq_getElem?_getD, List.getElem?_eq_getElem hlt]
            rfl
          refine g1 _ (q.getD (x.toInt - lo).toNat (0, 0)).1 (q.getD (x.toInt - lo).toNat (0, 0)).2 hq ?_
          rw [← Int32.toInt_inj, e1]
          omega
  · cases h
/-- returns: handed on to whoever walks the method -/
abbrev am_HR (p : Program) (l : Launch) (e : Env) (R : Room) (s : State) (m : MethodId) (args : Array Value) (below : List Frame) (meth : Method) (c : Code) (C : aC) (j nL ce sl rt : Nat) (Q : State → Prop) (r : aR) : Prop :=
  ∀ (pc : Nat) (al : aL) (st : List aV) (M : aM) (ins : Instr), am_ret rt ins st M = some r → decode (am_b j) pc = .ok (ins, 1) → am_Wd p l e R s m args below meth c C nL ce sl Q pc al st M
theorem am_stp_ok {ins : Instr} {len : Nat} (hs : ∀ j2 : Nat, ∃ d2 : Nat, d2 + 1 ≤ d ∧ am_Snd d2 j2 (sem j2)) (F : am_F X p R s m args c C j d ce sl) (hk : am_HK p l e R s m args below meth c C (am_ml j) ce sl Q r k) (hR : am_HR p l e R s m args below meth c C j (am_ml j) ce sl rt Q r)
    (hdg : decode (am_b j) pc = .ok (ins, len)) (hln : (am_isw ins || Nat.beq len (am_len ins)) = true) (hch : am_chi sws (am_ow j) pc ins a1 a2 a3 a4 = true) (h : am_stp X sws sem rt k ins a1 a2 a3 a4 pc al st M = some r) : am_Wd p l e R s m args below meth c C (am_ml j) ce sl Q pc al st M := by
  have h1d : 1 ≤ d := by
    obtain ⟨d2, h2, -⟩ := hs 0
    omega
  have hl1 : am_isw ins = false → len = am_len ins := by
    intro q
    rw [q, Bool.false_or] at hln
    exact am_beq hln
  cases ins with
  | iadd =>
    have hln := hl1 rfl
    subst hln
    exact am_o_iadd F hk hdg h
  | isub =>
    have hln := hl1 rfl
    subst hln
    exact am_o_isub F hk hdg h
  | imul =>
    have hln := hl1 rfl
    subst hln
    exact am_o_imul F hk hdg h
  | iand =>
    have hln := hl1 rfl
    subst hln
    exact am_o_iand F hk hdg h
  | ior =>
    have hln := hl1 rfl
    subst hln
    exact am_o_ior F hk hdg h
  | ixor =>
    have hln := hl1 rfl
    subst hln
    exact am_o_ixor F hk hdg h
  | ishl =>
    have hln := hl1 rfl
    subst hln
    exact am_o_ishl F hk hdg h
  | ishr =>
    have hln := hl1 rfl
    subst hln
    exact am_o_ishr F hk hdg h
  | iushr =>
    have hln := hl1 rfl
    subst hln
    exact am_o_iushr F hk hdg h
  | ladd =>
    have hln := hl1 rfl
    subst hln
    exact am_o_ladd F hk hdg h
  | lsub =>
    have hln := hl1 rfl
    subst hln
    exact am_o_lsub F hk hdg h
  | lmul =>
    have hln := hl1 rfl
    subst hln
    exact am_o_lmul F hk hdg h
  | land =>
    have hln := hl1 rfl
    subst hln
    exact am_o_land F hk hdg h
  | lor =>
    have hln := hl1 rfl
    subst hln
    exact am_o_lor F hk hdg h
  | lshl =>
    have hln := hl1 rfl
    subst hln
    exact am_o_lshl F hk hdg h
  | lshr =>
    have hln := hl1 rfl
    subst hln
    exact am_o_lshr F hk hdg h
  | idiv =>
    have hln := hl1 rfl
    subst hln
    exact am_o_idiv F hk hdg h
  | irem =>
    have hln := hl1 rfl
    subst hln
    exact am_o_irem F hk hdg h
  | ldiv =>
    have hln := hl1 rfl
    subst hln
    exact am_o_ldiv F hk hdg h
  | lrem =>
    have hln := hl1 rfl
    subst hln
    exact am_o_lrem F hk hdg h
  | ineg =>
    have hln := hl1 rfl
    subst hln
    exact am_o_ineg F hk hdg h
  | i2b =>
    have hln := hl1 rfl
    subst hln
    exact am_o_i2b F hk hdg h
  | i2s =>
    have hln := hl1 rfl
    subst hln
    exact am_o_i2s F hk hdg h
  | i2c =>
    have hln := hl1 rfl
    subst hln
    exact am_o_i2c F hk hdg h
  | lneg =>
    have hln := hl1 rfl
    subst hln
    exact am_o_lneg F hk hdg h
  | i2l =>
    have hln := hl1 rfl
    subst hln
    exact am_o_i2l F hk hdg h
  | l2i =>
    have hln := hl1 rfl
    subst hln
    exact am_o_l2i F hk hdg h
  | lcmp =>
    have hln := hl1 rfl
    subst hln
    exact am_o_lcmp F hk hdg h
  | dup =>
    have hln := hl1 rfl
    subst hln
    exact am_o_dup F hk hdg h
  | dup2 =>
    have hln := hl1 rfl
    subst hln
    exact am_o_dup2 F hk hdg h
  | pop =>
    have hln := hl1 rfl
    subst hln
    exact am_o_pop F hk hdg h
  | iaload =>
    have hln := hl1 rfl
    subst hln
    exact am_o_iaload F hk hdg h
  | baload =>
    have hln := hl1 rfl
    subst hln
    exact am_o_baload F hk hdg h
  | laload =>
    have hln := hl1 rfl
    subst hln
    exact am_o_laload F hk hdg h
  | aaload =>
    have hln := hl1 rfl
    subst hln
    exact am_o_aaload F hk hdg h
  | iastore =>
    have hln := hl1 rfl
    subst hln
    exact am_o_iastore F hk hdg h
  | bastore =>
    have hln := hl1 rfl
    subst hln
    exact am_o_bastore F hk hdg h
  | lastore =>
    have hln := hl1 rfl
    subst hln
    exact am_o_lastore F hk hdg h
  | arraylength =>
    have hln := hl1 rfl
    subst hln
    exact am_o_arraylength F hk hdg h
  | iconst n =>
    have hln := hl1 rfl
    subst hln
    exact am_o_iconst (of_decide_eq_true hch) F hk hdg h
  | bipush n =>
    have hln := hl1 rfl
    subst hln
    exact am_o_bipush (of_decide_eq_true hch) F hk hdg h
  | sipush n =>
    have hln := hl1 rfl
    subst hln
    exact am_o_sipush (of_decide_eq_true hch) F hk hdg h
  | lconst n =>
    have hln := hl1 rfl
    subst hln
    exact am_o_lconst (of_decide_eq_true hch) F hk hdg h
  | ldc i =>
    have hln := hl1 rfl
    subst hln
    match a2, hch, h with
    | 0, hch, h => exact am_o_ldci (am_lkI_use hch) F hk hdg h
    | _ + 1, hch, h => exact am_o_ldcs hch F hk hdg h
  | ldc_w i =>
    have hln := hl1 rfl
    subst hln
    exact am_o_ldcw (am_lkI_use hch) F hk hdg h
  | ldc2_w i =>
    have hln := hl1 rfl
    subst hln
    exact am_o_ldc2 (am_lkL_use hch) F hk hdg h
  | iload_n n =>
    have hln := hl1 rfl
    subst hln
    exact am_o_iload_n hch F hk hdg h
  | iload i =>
    have hln := hl1 rfl
    subst hln
    exact am_o_iload hch F hk hdg h
  | lload_n n =>
    have hln := hl1 rfl
    subst hln
    exact am_o_lload_n hch F hk hdg h
  | lload i =>
    have hln := hl1 rfl
    subst hln
    exact am_o_lload hch F hk hdg h
  | aload_n n =>
    have hln := hl1 rfl
    subst hln
    exact am_o_aload_n hch F hk hdg h
  | aload i =>
    have hln := hl1 rfl
    subst hln
    exact am_o_aload hch F hk hdg h
  | istore_n n =>
    have hln := hl1 rfl
    subst hln
    exact am_o_istore_n hch F hk hdg h
  | istore i =>
    have hln := hl1 rfl
    subst hln
    exact am_o_istore hch F hk hdg h
  | lstore_n n =>
    have hln := hl1 rfl
    subst hln
    exact am_o_lstore_n hch F hk hdg h
  | lstore i =>
    have hln := hl1 rfl
    subst hln
    exact am_o_lstore hch F hk hdg h
  | astore_n n =>
    have hln := hl1 rfl
    subst hln
    exact am_o_astore_n hch F hk hdg h
  | astore i =>
    have hln := hl1 rfl
    subst hln
    exact am_o_astore hch F hk hdg h
  | iinc i n =>
    have hln := hl1 rfl
    subst hln
    simp only [am_chi, Bool.and_eq_true, decide_eq_true_eq] at hch
    exact am_o_iinc hch.1 hch.2 F hk hdg h
  | goto off =>
    have hln := hl1 rfl
    subst hln
    exact am_o_goto (of_decide_eq_true hch) F hk hdg h
  | ifCond cd off =>
    have hln := hl1 rfl
    subst hln
    cases cd with
    | eq => exact am_o_ifeq (of_decide_eq_true hch) F hk hdg h
    | ne => exact am_o_ifne (of_decide_eq_true hch) F hk hdg h
    | lt => exact am_o_iflt (of_decide_eq_true hch) F hk hdg h
    | ge => exact am_o_ifge (of_decide_eq_true hch) F hk hdg h
    | gt => exact am_o_ifgt (of_decide_eq_true hch) F hk hdg h
    | le => exact am_o_ifle (of_decide_eq_true hch) F hk hdg h
  | if_icmp cd off =>
    have hln := hl1 rfl
    subst hln
    cases cd with
    | eq => exact am_o_iceq (of_decide_eq_true hch) F hk hdg h
    | ne => exact am_o_icne (of_decide_eq_true hch) F hk hdg h
    | lt => exact am_o_iclt (of_decide_eq_true hch) F hk hdg h
    | ge => exact am_o_icge (of_decide_eq_true hch) F hk hdg h
    | gt => exact am_o_icgt (of_decide_eq_true hch) F hk hdg h
    | le => exact am_o_icle (of_decide_eq_true hch) F hk hdg h
  | getfield i =>
    have hln := hl1 rfl
    subst hln
    exact am_o_getfield hch F hk hdg h
  | putfield i =>
    have hln := hl1 rfl
    subst hln
    simp only [am_chi, Bool.and_eq_true] at hch
    exact am_o_putfield hch.1 hch.2 F hk hdg h
  | getstatic i =>
    have hln := hl1 rfl
    subst hln
    exact am_o_getstatic hch F hk hdg h
  | invokevirtual i =>
    have hln := hl1 rfl
    subst hln
    simp only [am_chi, Bool.and_eq_true, Bool.or_eq_true] at hch
    exact am_o_invokevirtual hs hch.1.1.1.1.1 (am_blt hch.1.1.1.1.2) (hch.1.1.1.2.imp am_blt am_beq) (am_beq hch.1.1.2) (am_beq hch.1.2) (am_beq hch.2) F hk hdg h
  | invokestatic i =>
    have hln := hl1 rfl
    subst hln
    match a2, hch, h with
    | 0, hch, h => cases h
    | 1, hch, h => exact am_o_arraycopy h1d hch F hk hdg h
    | 2, hch, h => exact am_o_mmin h1d hch F hk hdg h
    | 3, hch, h => exact am_o_mmax h1d hch F hk hdg h
    | 4, hch, h => exact am_o_mabs h1d hch F hk hdg h
    | x + 5, hch, h =>
      simp only [am_chi, Bool.and_eq_true] at hch
      exact am_o_invokestatic hs hch.1.1.1 (am_blt hch.1.1.2) (am_beq hch.1.2) (am_beq hch.2) F hk hdg h
  | tableswitch dfl lo hi offs => exact am_o_tableswitch (a1 := a1) (sws := sws) hch F hk hdg h
  | ireturn =>
    have hln := hl1 rfl
    subst hln
    exact hR _ _ _ _ _ h hdg
  | lreturn =>
    have hln := hl1 rfl
    subst hln
    exact hR _ _ _ _ _ h hdg
  | areturn =>
    have hln := hl1 rfl
    subst hln
    exact hR _ _ _ _ _ h hdg
  | return_ =>
    have hln := hl1 rfl
    subst hln
    exact hR _ _ _ _ _ h hdg
  | _ => exact absurd h (by simp [am_stp, am_ret])
theorem am_fetch_in : ∀ (cd : List am_E) (pc : Nat) (x : Instr × Nat × Nat × Int32 × Int64), am_fetch cd pc = some x → ∃ n, (pc, x.1, n, x.2) ∈ cd
  | [], _, _, h => by simp [am_fetch] at h
  | (q, i, n, y) :: cd, pc, x, h => by
    unfold am_fetch at h
    split at h
    · rename_i hq
      cases h
      rw [← am_beq hq]
      exact ⟨n, List.mem_cons_self⟩
    · obtain ⟨n2, h2⟩ := am_fetch_in cd pc x h
      exact ⟨n2, List.mem_cons_of_mem _ h2⟩
theorem am_keep_ld : ∀ (msk : List Bool) (al : aL) (i : Nat) (v : aV), am_ld (am_keep msk al) i = some v → am_ld al i = some v
  | [], al, i, v, h => by simp [am_keep, am_ld] at h
  | _ :: _, [], i, v, h => by simp [am_keep, am_ld] at h
  | true :: msk, x :: al, 0, v, h => h
  | false :: msk, x :: al, 0, v, h => by simp [am_keep, am_ld] at h
  | true :: msk, x :: al, i + 1, v, h => am_keep_ld msk al i v h
  | false :: msk, x :: al, i + 1, v, h => am_keep_ld msk al i v h
theorem am_keep_len : ∀ (msk : List Bool) (al : aL), msk.length = al.length → (am_keep msk al).length = al.length
  | [], al, h => by simpa [am_keep] using h
  | _ :: _, [], h => by simp at h
  | true :: msk, x :: al, h => by simp [am_keep, am_keep_len msk al (by simpa using h)]
  | false :: msk, x :: al, h => by simp [am_keep, am_keep_len msk al (by simpa using h)]
theorem am_cutf_in : ∀ (cut : List (Nat × List Bool)) (pc : Nat) (msk : List Bool), am_cutf cut pc = some msk → (pc, msk) ∈ cut
  | [], _, _, h => by simp [am_cutf] at h
  | (q, x) :: cut, pc, msk, h => by
    unfold am_cutf at h
    split at h
    · rename_i hq
      cases h
      rw [← am_beq hq]
      exact List.mem_cons_self
    · exact List.mem_cons_of_mem _ (am_cutf_in cut pc msk h)
theorem am_seg_ok {cd : List am_E} {cut : List (Nat × List Bool)} {kap : aK} (hs : ∀ j2 : Nat, ∃ d2 : Nat, d2 + 1 ≤ d ∧ am_Snd d2 j2 (sem j2)) (F : am_F X p R s m args c C j d ce sl) (hR : am_HR p l e R s m args below meth c C j (am_ml j) ce sl rt Q r) (hcd : cd.all (am_chk sws j) = true) (hcut : ∀ q ∈ cut, q.2.length = am_ml j)
    (hkap : am_HK p l e R s m args below meth c C (am_ml j) ce sl Q r kap) : ∀ (n pc : Nat) (al : aL) (st : List aV) (M : aM), am_seg X sws sem rt cd cut kap n pc al st M = some r → am_Wd p l e R s m args below meth c C (am_ml j) ce sl Q pc al st M
  | 0, _, _, _, _, h => by cases h
  | n + 1, pc, al, st, M, h => by
    unfold am_seg at h
    split at h
    · rename_i ins a1 a2 a3 a4 hf
      obtain ⟨len, hin⟩ := am_fetch_in _ _ _ hf
      have hq := List.all_eq_true.mp hcd _ hin
      unfold am_chk at hq
      simp only [Bool.and_eq_true, decide_eq_true_eq] at hq
      refine am_stp_ok (ins := ins) (len := len) (a1 := a1) (a2 := a2) (a3 := a3) (a4 := a4) hs F ?_ hR hq.1.1 hq.1.2 hq.2 h
      intro pc' al' st' M' h'
      dsimp only at h'
      split at h'
      · rename_i msk hc
        intro hal hst H locs ls hl hP hS
        exact hkap _ _ _ _ h' (fun i v hv => hal i v (am_keep_ld msk al' i v hv)) hst H locs ls (am_lh_sub hl (am_keep_len msk al' (by rw [hcut _ (am_cutf_in _ _ _ hc), hl.2.2.1])) (am_keep_ld msk al')) hP hS
      · exact am_seg_ok hs F hR hcd hcut hkap n pc' al' st' M' h'
    · cases h
end AMT
/-! ===== methods ===== -/
/-- from a place of method j on, at depth d, with the answer r: in every world -/
def am_Ev (d j : Nat) (pc : Nat) (al : aL) (st : List aV) (M : aM) (r : aR) : Prop := ∀ (p : Program) (l : Launch) (e : Env) (s : State) (m : MethodId) (args : Array Value) (below : List Frame) (meth : Method) (c : Code) (C : aC), am_F none p (am_rm d) s m args c C j d 0 0 → meth.sig.returnType = am_rt j → meth.locks = false → am_Wd p l e (am_rm d) s m args below meth c C (am_ml j) 0 0 (MQ below (am_Qc C r) args s 0 0 (am_A C)) pc al st M
/-- how a method's answers come back: 0 an int, 1 a boolean, 2 a long, 3 a reference, 4 nothing -/
def am_rtc (j : Nat) : Nat := match am_rt j with
  | some .int => 0
  | some .boolean => 1
  | some .long => 2
  | some (.object _) => 3
  | none => 4
  | _ => 5
theorem am_rt_of {j : Nat} {n : Nat} (h : am_rtc j = n) : (n = 0 → am_rt j = some .int) ∧ (n = 1 → am_rt j = some .boolean) ∧ (n = 2 → am_rt j = some .long) ∧ (n = 3 → ∃ x, am_rt j = some (.object x)) ∧ (n = 4 → am_rt j = none) := by
  subst h
  unfold am_rtc
  cases hq : am_rt j with
  | none => simp
  | some ty => cases ty <;> simp
section AMZ
variable {p : Program} {l : Launch} {e : Env} {R : Room} {s : State} {m : MethodId} {args : Array Value} {below : List Frame} {meth : Method} {c : Code} {H : Heap} {locs : List Loc} {cells slots : Nat}
theorem am_zret {cc : ByteArray} {Qc : Array Value → State → Outcome → State → Prop} {free : Addr → Prop} {v : Int32} (hexec : p.tables.exec = Jvm.exec) (hb : c.code = cc) (hr : meth.sig.returnType = some .boolean)
    (hq : ∀ t : State, t.heap = H → s.WarmedH t.vm → Qc args s (.returned (some (.int (v &&& 1)))) t) (hf : ∀ q ∈ locs, free q.base)
    {pc : Nat} {ls : Array Slot} (hdg : decode cc pc = .ok (.ireturn, 1)) (hlocks : meth.locks = false) : W p l e R s m args below meth c H locs cells slots (MQ below Qc args s cells slots free) (F0 m pc ls [.int v]) := by
  intro T hT X
  obtain ⟨fs, hret, hrun, hended, hW, hframe⟩ := X.leave (v := some (.int (v &&& 1))) (hlocks := hlocks) (fun h => by rw [hr] at h; cases h)
  have hmeth' : T.vm.method? m = some meth := X.method'
  refine ⟨T.setFrames fs, ?_, .returned (some (.int (v &&& 1))), hrun, hended, hq _ hT hW, locs, ⟨⟨_, rfl⟩, hW, hframe⟩, hf⟩
  jvm_step X.here [X.here.top, hexec, hb, hdg, hmeth', hr, narrow]
  (try refine ⟨rfl, ?_⟩); (try refine ⟨rfl, ?_⟩)
  first | (intro acts; rw [hret _ acts rfl rfl rfl]) | rw [hret _ _ rfl rfl rfl]
  exact Steps.refl _
end AMZ
theorem am_okr {v : aV} (h : am_wk [v]) : am_okO (some v) := fun u hu => by cases hu; exact am_wk_h h
theorem am_ret_ok {d j rt : Nat} {p : Program} {l : Launch} {e : Env} {s : State} {m : MethodId} {args : Array Value} {below : List Frame} {meth : Method} {c : Code} {C : aC} {r : aR} (F : am_F none p (am_rm d) s m args c C j d 0 0) (hr : meth.sig.returnType = am_rt j) (hlocks : meth.locks = false) (hrt : am_rtc j = rt) : am_HR p l e (am_rm d) s m args below meth c C j (am_ml j) 0 0 rt (MQ below (am_Qc C r) args s 0 0 (am_A C)) r := by
  intro pc al st M ins h hdg hal hst H locs ls hl hP hS
  obtain ⟨r0, r1, r2, r3, r4⟩ := am_rt_of hrt
  unfold am_ret at h
  split at h
  · split at h
    · cases h
      exact W.iret F.1 F.2.1 (hr.trans (r0 rfl)) (fun t ht hW => ⟨rfl, by rw [ht]; exact hP, hS.F ht, am_okr hst⟩) hS.2.2 hdg hlocks
    · cases h
      exact am_zret F.1 F.2.1 (hr.trans (r1 rfl)) (fun t ht hW => ⟨rfl, by rw [ht]; exact hP, hS.F ht, fun u hu => by cases hu; trivial⟩) hS.2.2 hdg hlocks
    · cases h
  · split at h
    · cases h
      exact W.lret F.1 F.2.1 (hr.trans (r2 rfl)) (fun t ht hW => ⟨rfl, by rw [ht]; exact hP, hS.F ht, am_okr hst⟩) hS.2.2 hdg hlocks
    · cases h
  · split at h
    · cases h
      obtain ⟨x, hx⟩ := r3 rfl
      exact W.aret F.1 F.2.1 (hr.trans hx) (Or.inl ⟨x, rfl⟩) (Or.inr ⟨_, rfl⟩) (fun t ht hW => ⟨rfl, by rw [ht]; exact hP, hS.F ht, am_okr hst⟩) hS.2.2 hdg hlocks
    · cases h
  · split at h
    · cases h
      exact W.vret F.1 F.2.1 (hr.trans (r4 rfl)) (fun t ht hW => ⟨rfl, by rw [ht]; exact hP, hS.F ht, fun u hu => by cases hu⟩) hS.2.2 hdg hlocks
    · cases h
  · cases h
/-- a stretch of a method: to its cuts -/
theorem am_Ev_seg {d j rt : Nat} {sws : List (List (Int32 × Nat) × Nat)} {sem : Nat → List aV → aM → Option aR} {cd : List am_E} {cut : List (Nat × List Bool)} {r : aR} (hs : ∀ j2 : Nat, ∃ d2 : Nat, d2 + 1 ≤ d ∧ am_Snd d2 j2 (sem j2)) (hrt : am_rtc j = rt) (hcd : cd.all (am_chk sws j) = true) (hcut : ∀ q ∈ cut, q.2.length = am_ml j) (kap : aK) (n : Nat) {pc : Nat} {al : aL} {st : List aV} {M : aM}
    (h : am_seg none sws sem rt cd cut kap n pc al st M = some r) (hkap : ∀ (pc : Nat) (al : aL) (st : List aV) (M : aM), kap pc al st M = some r → am_Ev d j pc al st M r) : am_Ev d j pc al st M r := by
  intro p l e s m args below meth c C F hr hlocks
  exact am_seg_ok hs F (am_ret_ok F hr hlocks hrt) hcd hcut (fun pc al st M hk => hkap pc al st M hk p l e s m args below meth c C F hr hlocks) n pc al st M h
/-- the locals with which a method begins -/
def am_lay : List aV → aL
  | [] => []
  | .inr (.inl x) :: r => some (.inr (.inl x)) :: none :: am_lay r
  | v :: r => some v :: am_lay r
def am_pad : Nat → aL → aL
  | 0, _ => []
  | n + 1, [] => none :: am_pad n []
  | n + 1, v :: r => v :: am_pad n r
theorem am_pad_len : ∀ (n : Nat) (al : aL), (am_pad n al).length = n
  | 0, _ => rfl
  | n + 1, [] => by simp [am_pad, am_pad_len n []]
  | n + 1, v :: r => by simp [am_pad, am_pad_len n r]
theorem am_pad_ld : ∀ (n : Nat) (al : aL) (i : Nat) (v : aV), am_ld (am_pad n al) i = some v → am_ld al i = some v
  | 0, _, i, v, h => by simp [am_pad, am_ld] at h
  | n + 1, [], 0, v, h => by simp [am_pad, am_ld] at h
  | n + 1, [], i + 1, v, h => by
    have := am_pad_ld n [] i v h
    simp [am_ld] at this
  | n + 1, x :: r, 0, v, h => h
  | n + 1, x :: r, i + 1, v, h => am_pad_ld n r i v h
theorem am_lay_args (C : aC) : ∀ (as : List aV) (b i : Nat) (v : aV), am_ld (am_lay as) i = some v → (b + i, am_cv C v) ∈ lv_args b (as.map (am_cv C)) ∧ v ∈ as
  | [], b, i, v, h => by simp [am_lay, am_ld] at h
  | .inl x :: r, b, 0, v, h => by
    simp only [am_lay, am_ld, Option.some.injEq] at h
    subst h
    exact ⟨List.mem_cons_self, List.mem_cons_self⟩
  | .inl x :: r, b, i + 1, v, h => by
    obtain ⟨h1, h2⟩ := am_lay_args C r (b + 1) i v h
    refine ⟨List.mem_cons_of_mem _ ?_, List.mem_cons_of_mem _ h2⟩
    rw [show b + (i + 1) = b + 1 + i by omega]
    exact h1
  | .inr (.inr x) :: r, b, 0, v, h => by
    simp only [am_lay, am_ld, Option.some.injEq] at h
    subst h
    exact ⟨List.mem_cons_self, List.mem_cons_self⟩
  | .inr (.inr x) :: r, b, i + 1, v, h => by
    obtain ⟨h1, h2⟩ := am_lay_args C r (b + 1) i v h
    refine ⟨List.mem_cons_of_mem _ ?_, List.mem_cons_of_mem _ h2⟩
    rw [show b + (i + 1) = b + 1 + i by omega]
    exact h1
  | .inr (.inl x) :: r, b, 0, v, h => by
    simp only [am_lay, am_ld, Option.some.injEq] at h
    subst h
    exact ⟨List.mem_cons_self, List.mem_cons_self⟩
  | .inr (.inl x) :: r, b, 1, v, h => by simp [am_lay, am_ld] at h
  | .inr (.inl x) :: r, b, i + 2, v, h => by
    obtain ⟨h1, h2⟩ := am_lay_args C r (b + 2) i v h
    refine ⟨List.mem_cons_of_mem _ ?_, List.mem_cons_of_mem _ h2⟩
    rw [show b + (i + 2) = b + 2 + i by omega]
    exact h1
theorem am_lay_len (C : aC) : ∀ (as : List aV), (lg_sl (as.map (am_cv C))).length = (am_lay as).length
  | [] => rfl
  | .inl x :: r => by
    have := am_lay_len C r
    simp only [lg_sl, List.map_cons, List.flatMap_cons, List.length_append] at this ⊢
    rw [this]
    simp [am_lay, am_cv, Value.category]
    omega
  | .inr (.inr x) :: r => by
    have := am_lay_len C r
    simp only [lg_sl, List.map_cons, List.flatMap_cons, List.length_append] at this ⊢
    rw [this]
    simp [am_lay, am_cv, Value.category]
    omega
  | .inr (.inl x) :: r => by
    have := am_lay_len C r
    simp only [lg_sl, List.map_cons, List.flatMap_cons, List.length_append] at this ⊢
    rw [this]
    simp [am_lay, am_cv, Value.category]
    omega
/-- a method's contract, out of the walk of its body -/
theorem am_meth {d j : Nat} {F : List aV → aM → Option aR} (hss : am_ss j < 2) (hF : ∀ (as : List aV) (M : aM) (r : aR), am_wk as → F as M = some r → (am_lay as).length ≤ am_ml j ∧ am_Ev d j 0 (am_pad (am_ml j) (am_lay as)) [] M r) : am_Snd d j F := by
  intro as M r has h l C
  obtain ⟨h2, h3⟩ := hF as M r has h
  obtain ⟨-, hpl, hon, -⟩ := am_okj_all hss
  refine Met.ofW (cc := am_b j) (maxL := am_ml j) (ret := am_rt j) hpl rfl ?_
  intro p e s m args below meth c s₁ B hml hv
  obtain ⟨rfl, hK, hP⟩ := hv
  have hts := atoms_spec (ws := am_wsU j) B.pre
  have hown : s.vm.findClass (am_y j).cls = some m.cls := findClass_of_methodNamed B.named
  have hl := lv_entry (as.map (am_cv C)) (n := am_ml j) (by rw [am_lay_len]; exact h2)
  rw [lg_entry_eq]
  generalize (lg_sl (as.map (am_cv C)) ++ List.replicate (am_ml j - (lg_sl (as.map (am_cv C))).length) Slot.unset).toArray = ls at hl ⊢
  refine h3 p l e s m _ below meth c C ⟨B.exec, B.bytes, hml, by rw [hon]; exact hown, fun w hw => hts w (List.mem_cons_of_mem _ hw), hK, ⟨Nat.le_refl _, Nat.le_refl _, Nat.le_refl _, Nat.le_refl _⟩, fun n xs q => by cases q⟩ B.returns B.notSynchronized ?_ (fun v hv => by cases hv) s.heap [] ls ?_ hP va_S.rf
  · intro i v hv
    exact has v (am_lay_args C as 0 i v (am_pad_ld _ _ _ _ hv)).2
  · refine ⟨hl.1, hl.2.1, am_pad_len _ _, fun i v hv => ?_⟩
    have := hl.2.2 _ (am_lay_args C as 0 i v (am_pad_ld _ _ _ _ hv)).1
    simpa using this
theorem am_Snd_no (j : Nat) : am_Snd 0 j (fun _ _ => none) := by
  intro as M r _ h
  cases h
/-! what callers know of their callees; where a stretch is cut -/
def am_s0 : Nat → List aV → aM → Option aR := fun _ _ _ => none
def am_sm (q : Nat) (F : List aV → aM → Option aR) (rest : Nat → List aV → aM → Option aR) : Nat → List aV → aM → Option aR := fun j => match Nat.beq j q with
  | true => F
  | false => rest j
theorem am_s0_ok {d : Nat} (h : 1 ≤ d) : ∀ j2 : Nat, ∃ d2 : Nat, d2 + 1 ≤ d ∧ am_Snd d2 j2 (am_s0 j2) := fun j2 => ⟨0, h, am_Snd_no j2⟩
theorem am_sm_ok {d dq q : Nat} {F : List aV → aM → Option aR} {rest : Nat → List aV → aM → Option aR} (hF : am_Snd dq q F) (hd : dq + 1 ≤ d) (hr : ∀ j2 : Nat, ∃ d2 : Nat, d2 + 1 ≤ d ∧ am_Snd d2 j2 (rest j2)) : ∀ j2 : Nat, ∃ d2 : Nat, d2 + 1 ≤ d ∧ am_Snd d2 j2 (am_sm q F rest j2) := by
  intro j2
  unfold am_sm
  split
  · rename_i e
    rw [am_beq e]
    exact ⟨dq, hd, hF⟩
  · exact hr j2
def am_k0 : aK := fun _ _ _ _ => none
def am_kc (q : Nat) (f : aL → List aV → aM → Option aR) (rest : aK) : aK := fun pc al st M => match Nat.beq pc q with
  | true => f al st M
  | false => rest pc al st M
theorem am_k0_ok {d j : Nat} {r : aR} : ∀ (pc : Nat) (al : aL) (st : List aV) (M : aM), am_k0 pc al st M = some r → am_Ev d j pc al st M r := fun _ _ _ _ h => by cases h
theorem am_kc_ok {d j q : Nat} {r : aR} {f : aL → List aV → aM → Option aR} {rest : aK} (hf : ∀ (al : aL) (st : List aV) (M : aM), f al st M = some r → am_Ev d j q al st M r) (hr : ∀ (pc : Nat) (al : aL) (st : List aV) (M : aM), rest pc al st M = some r → am_Ev d j pc al st M r) : ∀ (pc : Nat) (al : aL) (st : List aV) (M : aM), am_kc q f rest pc al st M = some r → am_Ev d j pc al st M r := by
  intro pc al st M h
  unfold am_kc at h
  split at h
  · rename_i e
    rw [am_beq e]
    exact hf al st M h
  · exact hr pc al st M h
