/-! ===== the constructors' runs are sound ===== -/
section C3
variable {ini : Bool} {sem : c1_Sm} {p : Program} {l : Launch} {e : Env} {R : Room} {s : State} {m : MethodId} {args : Array Value} {below : List Frame} {meth : Method} {c : Code} {C : aC} {Q : State → Prop} {j d nB n0 : Nat} {pc a1 a2 : Nat} {a3 : Int32} {al : aL} {st : List aV} {n : Nat} {Lm : c1_L} {t : c1_T}
theorem c1_mono (hs : c1_SOk d sem) {ins : Instr} (h : c1_stp ini sem ins a1 a2 a3 pc al st n Lm = some t) : n ≤ t.2.2.2.1 := by
  unfold c1_stp at h
  split at h
  · unfold c1_ald at h; split at h <;> cases h; exact Nat.le_refl _
  · unfold c1_ild at h; split at h <;> cases h; exact Nat.le_refl _
  · unfold c1_ist at h; split at h <;> cases h; exact Nat.le_refl _
  · unfold c1_ast at h; split at h <;> cases h; exact Nat.le_refl _
  · cases h; exact Nat.le_refl _
  · cases h; exact Nat.le_refl _
  · cases h; exact Nat.le_refl _
  · unfold c1_inc at h; split at h <;> cases h; exact Nat.le_refl _
  · cases h; exact Nat.le_refl _
  · unfold c1_icge at h
    split at h
    · split at h <;> cases h <;> exact Nat.le_refl _
    · cases h
  · unfold c1_dup at h; split at h <;> cases h; exact Nat.le_refl _
  · unfold c1_new at h; split at h <;> cases h; exact Nat.le_succ _
  · unfold c1_nwa at h
    split at h
    · split at h <;> cases h; exact Nat.le_succ _
    · cases h
  · unfold c1_anw at h
    split at h
    · split at h <;> cases h; exact Nat.le_succ _
    · cases h
  · unfold c1_mna at h
    split at h
    · split at h <;> cases h
      show n ≤ n + 1 + _
      omega
    · cases h
  · unfold c1_gf at h
    split at h
    · split at h <;> cases h; exact Nat.le_refl _
    · cases h
  · unfold c1_pf at h
    split at h
    · split at h <;> cases h; exact Nat.le_refl _
    · split at h
      · split at h <;> cases h; exact Nat.le_refl _
      · cases h
    · cases h
  · unfold c1_iast at h
    split at h
    · split at h <;> cases h; exact Nat.le_refl _
    · cases h
  · unfold c1_aast at h
    split at h
    · split at h
      · split at h <;> cases h; exact Nat.le_refl _
      · cases h
    · cases h
  · unfold c1_isp at h
    split at h
    · split at h
      · cases h; exact Nat.le_refl _
      · split at h
        · rename_i n2 L2 hok hkq hsem
          cases h
          rcases hs a1 with q | ⟨d2, hd2, hokm, hOk⟩
          · rw [q] at hsem; cases hsem
          · exact (hOk _ n Lm n2 L2 hok hsem).1
        · cases h
      · cases h
    · cases h
  · cases h
theorem c1_stp_ok (hs : c1_SOk d sem) {ins : Instr} {len : Nat} (hdg : decode (am_b j) pc = .ok (ins, len)) (hch : c1_chi (am_ow j) pc ins len a1 a2 a3 = true) (F : c1_F ini p R s m args meth c C j d nB n0) (hB : t.2.2.2.1 ≤ nB) (hk : c1_Wd p l e R s m args below meth c C (am_ml j) n0 Q t) (h : c1_stp ini sem ins a1 a2 a3 pc al st n Lm = some t) : c1_Wd p l e R s m args below meth c C (am_ml j) n0 Q (pc, al, st, n, Lm) := by
  unfold c1_stp at h
  unfold c1_chi at hch
  split at h <;> (try simp only [Bool.and_eq_true, decide_eq_true_eq] at hch)
  · rw [am_beq hch.2] at hdg
    exact c1_o_ald hch.1 F hB hk hdg h
  · rw [am_beq hch.2] at hdg
    exact c1_o_ild hch.1 F hB hk hdg h
  · rw [am_beq hch.2] at hdg
    exact c1_o_ist hch.1 F hB hk hdg h
  · rw [am_beq hch.2] at hdg
    exact c1_o_ast hch.1 F hB hk hdg h
  · rw [am_beq hch.2] at hdg
    cases h
    exact fun h0 H locs ls hl hP hS => lv_iconst F.1 F.2.1 hdg hch.1 (hk h0 H locs ls hl hP hS)
  · rw [am_beq hch.2] at hdg
    cases h
    exact fun h0 H locs ls hl hP hS => lv_bipush F.1 F.2.1 hdg hch.1 (hk h0 H locs ls hl hP hS)
  · rw [am_beq hch.2] at hdg
    cases h
    exact fun h0 H locs ls hl hP hS => lv_sipush F.1 F.2.1 hdg hch.1 (hk h0 H locs ls hl hP hS)
  · rw [am_beq hch.2] at hdg
    exact c1_o_inc hch.1.1 hch.1.2 F hB hk hdg h
  · rw [am_beq hch.2] at hdg
    cases h
    exact fun h0 H locs ls hl hP hS => lv_goto (tgt := a1) F.1 F.2.1 hdg hch.1 (hk h0 H locs ls hl hP hS)
  · rw [am_beq hch.2] at hdg
    exact c1_o_icge hch.1 F hB hk hdg h
  · rw [am_beq hch] at hdg
    exact c1_o_dup F hB hk hdg h
  · rw [am_beq hch.1.1] at hdg
    exact c1_o_new (am_blt hch.1.2) (am_gat hch.2 rfl) F hB hk hdg h
  · rw [am_beq hch.1.1] at hdg
    exact c1_o_nwa hch.1.2 (am_blt hch.2) F hB hk hdg h
  · rw [am_beq hch.1] at hdg
    have h2 := hch.2
    simp only [Bool.or_eq_true, Bool.and_eq_true, decide_eq_true_eq] at h2
    rcases h2 with q | q
    · have e1 := am_beq q.1
      subst e1
      exact c1_o_anw (am_gat q.2 rfl) F.2.2.2.2.2.2.1.1 rfl F hB hk hdg h
    · have e1 := am_beq q.1
      subst e1
      exact c1_o_anw (am_gat q.2 rfl) F.2.2.2.2.2.2.1.2.1 rfl F hB hk hdg h
  · rw [am_beq hch.1.1, am_beq hch.1.2] at hdg
    exact c1_o_mna (am_gat hch.2 rfl) F hB hk hdg h
  · rw [am_beq hch.1] at hdg
    exact c1_o_gf hch.2 F hB hk hdg h
  · rw [am_beq hch.1.1] at hdg
    exact c1_o_pf hch.1.2 hch.2 F hB hk hdg h
  · rw [am_beq hch] at hdg
    exact c1_o_iast F hB hk hdg h
  · rw [am_beq hch] at hdg
    exact c1_o_aast F hB hk hdg h
  · rw [am_beq hch.1] at hdg
    exact (c1_o_isp hs hch.2 F hB hk hdg h).2
  · cases h
theorem c1_fetch : ∀ (cd : List am_E) (pc : Nat) (q : Instr × Nat × Nat × Int32 × Int64), am_fetch cd pc = some q → ∃ len, (pc, q.1, len, q.2) ∈ cd
  | [], _, _, h => by cases h
  | (a, i, k, x) :: r, pc, q, h => by
    unfold am_fetch at h
    split at h
    · rename_i hb
      cases h
      rw [am_beq hb]
      exact ⟨k, List.mem_cons_self⟩
    · obtain ⟨len, hm⟩ := c1_fetch r pc q h
      exact ⟨len, List.mem_cons_of_mem _ hm⟩
theorem c1_run_mono {cd : List am_E} {stop : Nat} (hs : c1_SOk d sem) : ∀ (f : Nat) (t t2 : c1_T), c1_run ini sem cd stop f t = some t2 → t.2.2.2.1 ≤ t2.2.2.2.1 ∧ t2.1 = stop
  | 0, _, _, h => by cases h
  | f + 1, (pc, al, st, n, Lm), t2, h => by
    unfold c1_run at h
    split at h
    · rename_i hb
      cases h
      exact ⟨Nat.le_refl _, am_beq hb⟩
    · split at h
      · split at h
        · rename_i t1 ht
          have h1 := c1_run_mono hs f t1 t2 h
          exact ⟨Nat.le_trans (c1_mono hs ht) h1.1, h1.2⟩
        · cases h
      · cases h
theorem c1_run_ok {cd : List am_E} {stop : Nat} {t2 : c1_T} (hs : c1_SOk d sem) (hcd : cd.all (c1_chk j) = true) (F : c1_F ini p R s m args meth c C j d nB n0) (hB : t2.2.2.2.1 ≤ nB) (hk : c1_Wd p l e R s m args below meth c C (am_ml j) n0 Q t2) : ∀ (f : Nat) (t : c1_T), c1_run ini sem cd stop f t = some t2 → c1_Wd p l e R s m args below meth c C (am_ml j) n0 Q t
  | 0, _, h => by cases h
  | f + 1, (pc, al, st, n, Lm), h => by
    unfold c1_run at h
    split at h
    · cases h
      exact hk
    · split at h
      · rename_i ins a1 a2 a3 a4 hfe
        split at h
        · rename_i t1 ht
          obtain ⟨len, hm⟩ := c1_fetch cd pc _ hfe
          have hq := List.all_eq_true.mp hcd _ hm
          unfold c1_chk at hq
          simp only [Bool.and_eq_true, decide_eq_true_eq] at hq
          exact c1_stp_ok hs hq.1 hq.2 F (Nat.le_trans (c1_run_mono hs f t1 t2 h).1 hB) (c1_run_ok hs hcd F hB hk f t1 h) ht
        · cases h
      · cases h
end C3
theorem c1_ctor_ok {d j kd ml stop : Nat} {sem : c1_Sm} {cd : List am_E} (hokm : c1_okm (am_me j) = true) (hcd : cd.all (c1_chk j) = true) (hret : decode (am_b j) stop = .ok (.return_, 1)) (hkd : am_ow j = kd) (hml : am_ml j = ml) (hm1 : 1 ≤ ml) (hd : 1 ≤ d) (hs : c1_SOk d sem) : c1_Ok d j (c1_ctor kd ml stop sem cd) := by
  intro a n Lm n2 L2 hok h
  unfold c1_ctor at h
  split at h
  · rename_i pc' al' n2' L2' hrun
    cases h
    obtain ⟨hle, hpc⟩ := c1_run_mono hs _ _ _ hrun
    have hpc : pc' = stop := hpc
    subst hpc
    refine ⟨hle, fun l C => ?_⟩
    obtain ⟨g1, g2, g3, g4, g5, g6, g7, g8, g9, g10⟩ := c1_okm_use hokm
    refine Met.ofW (cc := am_b j) (maxL := am_ml j) (ret := am_rt j) g1 rfl ?_
    intro p e s m args below meth c s₁ B hmx hv
    obtain ⟨rfl, hK, hAO, hP⟩ := hv
    have hts := atoms_spec (ws := am_wsU j) B.pre
    have hown : s.vm.findClass (am_y j).cls = some m.cls := findClass_of_methodNamed B.named
    have hname : meth.name = "<init>" := (name_of_methodNamed B.named (Stand.of_body B).method).1.trans g9
    have hl := lv_entry [Value.ref (am_ad C a)] (n := am_ml j) (by show 1 ≤ am_ml j; omega)
    rw [show #[Value.ref (am_ad C a)] = ([Value.ref (am_ad C a)] : List Value).toArray from rfl, lg_entry_eq]
    generalize (lg_sl [Value.ref (am_ad C a)] ++ List.replicate (am_ml j - (lg_sl [Value.ref (am_ad C a)]).length) Slot.unset).toArray = ls at hl ⊢
    have F : c1_F true p (headSpec (am_wsU j) (c1_rm d n n2)).room s m ([Value.ref (am_ad C a)] : List Value).toArray meth c C j d n2 n := ⟨B.exec, B.bytes, hmx, by rw [g2]; exact hown, fun w hw => hts w (List.mem_cons_of_mem _ hw), hK, hAO, ⟨Nat.le_refl _, Nat.le_refl _, Nat.le_refl _, Nat.le_refl _⟩, fun _ => hname, hd, hP.2.1⟩
    have hend : c1_Wd p l e (headSpec (am_wsU j) (c1_rm d n n2)).room s m ([Value.ref (am_ad C a)] : List Value).toArray below meth c C (am_ml j) n (MQ below (c1_Qc C n2 L2) ([Value.ref (am_ad C a)] : List Value).toArray s (n2 - n) (c1_S n2 - c1_S n) (am_A C)) (pc', al', [], n2, L2) := by
      intro h0 H locs ls2 hl2 hP2 hS2
      exact W.vret B.exec B.bytes (by rw [B.returns]; exact g10) (fun t ht hw => ⟨rfl, by rw [ht]; exact hP2, hS2.F ht⟩) hS2.2.2 hret B.notSynchronized
    have w := c1_run_ok hs hcd F (Nat.le_refl n2) hend _ _ hrun (Nat.le_refl n) s.heap [] ls ?_ hP va_S.rf
    · have e1 : n - n = 0 := Nat.sub_self n
      have e2 : c1_S n - c1_S n = 0 := Nat.sub_self _
      have w' : W p l e (headSpec (am_wsU j) (c1_rm d n n2)).room s m ([Value.ref (am_ad C a)] : List Value).toArray below meth c s.heap [] (n - n) (c1_S n - c1_S n) (MQ below (c1_Qc C n2 L2) ([Value.ref (am_ad C a)] : List Value).toArray s (n2 - n) (c1_S n2 - c1_S n) (am_A C)) (F0 m 0 ls []) := w
      rw [e1, e2] at w'
      exact w'
    · refine ⟨hl.1, hl.2.1, ?_, fun i v hv => ?_⟩
      · show (some (Sum.inr (Sum.inr (kd, a))) :: List.replicate (ml - 1) none).length = am_ml j
        simp
        omega
      · cases i with
        | zero =>
          have hv : some (Sum.inr (Sum.inr (kd, a))) = some v := hv
          cases hv
          have := hl.2.2 (0, .ref (am_ad C a)) (by simp [lv_args])
          exact this
        | succ i =>
          exfalso
          have hv : am_ld (List.replicate (ml - 1) none) i = some v := hv
          have key : ∀ (k i : Nat), am_ld (List.replicate k none) i = none := by
            intro k
            induction k with
            | zero => intro i; rfl
            | succ k ih =>
              intro i
              cases i with
              | zero => rfl
              | succ i => exact ih i
          rw [key] at hv
          cases hv
  · cases h
theorem c1_s0_ok {d : Nat} : c1_SOk d c1_s0 := fun j2 => .inl rfl
theorem c1_sm_ok {d dq q : Nat} {F : Nat → Nat → c1_L → Option (Nat × c1_L)} {rest : c1_Sm} (hF : c1_Ok dq q F) (hm : c1_okm (am_me q) = true) (hd : dq + 1 ≤ d) (hr : c1_SOk d rest) : c1_SOk d (c1_sm q F rest) := by
  intro j2
  unfold c1_sm
  split
  · rename_i e
    rw [am_beq e]
    exact .inr ⟨dq, hd, hm, hF⟩
  · exact hr j2
set_option maxRecDepth 100000 in
theorem c1_m0 : c1_okm (am_me 0) = true := by decide +kernel
set_option maxRecDepth 100000 in
theorem c1_m3 : c1_okm (am_me 3) = true := by decide +kernel
set_option maxRecDepth 100000 in
theorem c1_m38 : c1_okm (am_me 38) = true := by decide +kernel
set_option maxRecDepth 100000 in
theorem c1_m16 : c1_okm (am_me 16) = true := by decide +kernel
set_option maxRecDepth 100000 in
theorem c1_m55 : c1_okm (am_me 55) = true := by decide +kernel
set_option maxRecDepth 100000 in
theorem c1_m72 : c1_okm (am_me 72) = true := by decide +kernel
set_option maxRecDepth 100000 in
theorem c1_m27 : c1_okm (am_me 27) = true := by decide +kernel
set_option maxRecDepth 100000 in
theorem c1_m33 : c1_okm (am_me 33) = true := by decide +kernel
set_option maxRecDepth 100000 in
theorem c1_m64 : c1_okm (am_me 64) = true := by decide +kernel
set_option maxRecDepth 100000 in
theorem c1_m44 : c1_okm (am_me 44) = true := by decide +kernel
set_option maxRecDepth 100000 in
theorem c1_m79 : c1_okm (am_me 79) = true := by decide +kernel
set_option maxRecDepth 100000 in
theorem c1_m169 : c1_okm (am_me 169) = true := by decide +kernel
set_option maxRecDepth 100000 in
theorem c1_k0 : c1_Ok 1 0 c1_0 := c1_ctor_ok c1_m0 cdI0_ok (by decide +kernel) (by decide +kernel) (by decide +kernel) (by decide) (by decide) c1_s0_ok
set_option maxRecDepth 100000 in
theorem c1_k3 : c1_Ok 2 3 c1_3 := c1_ctor_ok c1_m3 cdI3_ok (by decide +kernel) (by decide +kernel) (by decide +kernel) (by decide) (by decide) (c1_sm_ok c1_k0 c1_m0 (by decide) c1_s0_ok)
set_option maxRecDepth 100000 in
theorem c1_k38 : c1_Ok 1 38 c1_38 := c1_ctor_ok c1_m38 cdI38_ok (by decide +kernel) (by decide +kernel) (by decide +kernel) (by decide) (by decide) c1_s0_ok
set_option maxRecDepth 100000 in
theorem c1_k16 : c1_Ok 3 16 c1_16 := c1_ctor_ok c1_m16 cdI16_ok (by decide +kernel) (by decide +kernel) (by decide +kernel) (by decide) (by decide) (c1_sm_ok c1_k38 c1_m38 (by decide) (c1_sm_ok c1_k3 c1_m3 (by decide) c1_s0_ok))
set_option maxRecDepth 100000 in
theorem c1_k55 : c1_Ok 1 55 c1_55 := c1_ctor_ok c1_m55 cdI55_ok (by decide +kernel) (by decide +kernel) (by decide +kernel) (by decide) (by decide) c1_s0_ok
set_option maxRecDepth 100000 in
theorem c1_k72 : c1_Ok 2 72 c1_72 := c1_ctor_ok c1_m72 cdI72_ok (by decide +kernel) (by decide +kernel) (by decide +kernel) (by decide) (by decide) (c1_sm_ok c1_k55 c1_m55 (by decide) c1_s0_ok)
set_option maxRecDepth 100000 in
theorem c1_k27 : c1_Ok 3 27 c1_27 := c1_ctor_ok c1_m27 cdI27_ok (by decide +kernel) (by decide +kernel) (by decide +kernel) (by decide) (by decide) (c1_sm_ok c1_k72 c1_m72 (by decide) c1_s0_ok)
set_option maxRecDepth 100000 in
theorem c1_k33 : c1_Ok 1 33 c1_33 := c1_ctor_ok c1_m33 cdI33_ok (by decide +kernel) (by decide +kernel) (by decide +kernel) (by decide) (by decide) c1_s0_ok
set_option maxRecDepth 100000 in
theorem c1_k64 : c1_Ok 1 64 c1_64 := c1_ctor_ok c1_m64 cdI64_ok (by decide +kernel) (by decide +kernel) (by decide +kernel) (by decide) (by decide) c1_s0_ok
set_option maxRecDepth 100000 in
theorem c1_k44 : c1_Ok 3 44 c1_44 := c1_ctor_ok c1_m44 cdI44_ok (by decide +kernel) (by decide +kernel) (by decide +kernel) (by decide) (by decide) (c1_sm_ok c1_k72 c1_m72 (by decide) (c1_sm_ok c1_k64 c1_m64 (by decide) (c1_sm_ok c1_k55 c1_m55 (by decide) c1_s0_ok)))
set_option maxRecDepth 100000 in
theorem c1_k79 : c1_Ok 4 79 c1_79 := c1_ctor_ok c1_m79 cdI79_ok (by decide +kernel) (by decide +kernel) (by decide +kernel) (by decide) (by decide) (c1_sm_ok c1_k72 c1_m72 (by decide) (c1_sm_ok c1_k64 c1_m64 (by decide) (c1_sm_ok c1_k44 c1_m44 (by decide) (c1_sm_ok c1_k33 c1_m33 (by decide) (c1_sm_ok c1_k27 c1_m27 (by decide) (c1_sm_ok c1_k16 c1_m16 (by decide) (c1_sm_ok c1_k3 c1_m3 (by decide) c1_s0_ok)))))))
set_option maxRecDepth 100000 in
theorem c1_k169 : c1_Ok 1 169 c1_169 := c1_ctor_ok c1_m169 cdI169_ok (by decide +kernel) (by decide +kernel) (by decide +kernel) (by decide) (by decide) c1_s0_ok
theorem c1_slaw : c1_SOk 14 (c1_sm 169 c1_169 (c1_sm 79 c1_79 c1_s0)) := (c1_sm_ok c1_k169 c1_m169 (by decide) (c1_sm_ok c1_k79 c1_m79 (by decide) c1_s0_ok))
