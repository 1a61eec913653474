theorem tx_coder_0 : decode (am_b 334) 0 = .ok (.getstatic 38, 3) := by decide +kernel
theorem tx_coder_3 : decode (am_b 334) 3 = .ok (.ifCond .eq 10, 3) := by decide +kernel
theorem tx_coder_6 : decode (am_b 334) 6 = .ok (.aload_n 0, 1) := by decide +kernel
theorem tx_coder_7 : decode (am_b 334) 7 = .ok (.getfield 15, 3) := by decide +kernel
theorem tx_coder_10 : decode (am_b 334) 10 = .ok (.goto 4, 3) := by decide +kernel
theorem tx_coder_13 : decode (am_b 334) 13 = .ok (.iconst 1, 1) := by decide +kernel
theorem tx_coder_14 : decode (am_b 334) 14 = .ok (.ireturn, 1) := by decide +kernel
theorem tx_l_coder : am_ml 334 = 1 := by decide +kernel
theorem tx_r_coder : am_rt 334 = some .byte := by decide +kernel
theorem tx_s_coder : am_ss 334 < 2 := by decide +kernel
theorem tx_n_coder : am_np 334 = 0 := by decide +kernel
theorem tx_lat_0 : decode (am_b 335) 0 = .ok (.getstatic 38, 3) := by decide +kernel
theorem tx_lat_3 : decode (am_b 335) 3 = .ok (.ifCond .eq 14, 3) := by decide +kernel
theorem tx_lat_6 : decode (am_b 335) 6 = .ok (.aload_n 0, 1) := by decide +kernel
theorem tx_lat_7 : decode (am_b 335) 7 = .ok (.getfield 15, 3) := by decide +kernel
theorem tx_lat_10 : decode (am_b 335) 10 = .ok (.ifCond .ne 7, 3) := by decide +kernel
theorem tx_lat_13 : decode (am_b 335) 13 = .ok (.iconst 1, 1) := by decide +kernel
theorem tx_lat_14 : decode (am_b 335) 14 = .ok (.goto 4, 3) := by decide +kernel
theorem tx_lat_17 : decode (am_b 335) 17 = .ok (.iconst 0, 1) := by decide +kernel
theorem tx_lat_18 : decode (am_b 335) 18 = .ok (.ireturn, 1) := by decide +kernel
theorem tx_l_lat : am_ml 335 = 1 := by decide +kernel
theorem tx_r_lat : am_rt 335 = some .boolean := by decide +kernel
theorem tx_s_lat : am_ss 335 < 2 := by decide +kernel
theorem tx_n_lat : am_np 335 = 0 := by decide +kernel
theorem tx_len_0 : decode (am_b 332) 0 = .ok (.aload_n 0, 1) := by decide +kernel
theorem tx_len_1 : decode (am_b 332) 1 = .ok (.getfield 9, 3) := by decide +kernel
theorem tx_len_4 : decode (am_b 332) 4 = .ok (.arraylength, 1) := by decide +kernel
theorem tx_len_5 : decode (am_b 332) 5 = .ok (.aload_n 0, 1) := by decide +kernel
theorem tx_len_6 : decode (am_b 332) 6 = .ok (.invokevirtual 335, 3) := by decide +kernel
theorem tx_len_9 : decode (am_b 332) 9 = .ok (.ishr, 1) := by decide +kernel
theorem tx_len_10 : decode (am_b 332) 10 = .ok (.ireturn, 1) := by decide +kernel
theorem tx_l_len : am_ml 332 = 1 := by decide +kernel
theorem tx_r_len : am_rt 332 = some .int := by decide +kernel
theorem tx_s_len : am_ss 332 < 2 := by decide +kernel
theorem tx_n_len : am_np 332 = 0 := by decide +kernel
theorem tx_ch_0 : decode (am_b 333) 0 = .ok (.aload_n 0, 1) := by decide +kernel
theorem tx_ch_1 : decode (am_b 333) 1 = .ok (.invokevirtual 492, 3) := by decide +kernel
theorem tx_ch_4 : decode (am_b 333) 4 = .ok (.ifCond .eq 12, 3) := by decide +kernel
theorem tx_ch_7 : decode (am_b 333) 7 = .ok (.aload_n 0, 1) := by decide +kernel
theorem tx_ch_8 : decode (am_b 333) 8 = .ok (.getfield 9, 3) := by decide +kernel
theorem tx_ch_11 : decode (am_b 333) 11 = .ok (.iload_n 1, 1) := by decide +kernel
theorem tx_ch_12 : decode (am_b 333) 12 = .ok (.invokestatic 495, 3) := by decide +kernel
theorem tx_ch_15 : decode (am_b 333) 15 = .ok (.ireturn, 1) := by decide +kernel
theorem tx_ch_16 : decode (am_b 333) 16 = .ok (.aload_n 0, 1) := by decide +kernel
theorem tx_ch_17 : decode (am_b 333) 17 = .ok (.getfield 9, 3) := by decide +kernel
theorem tx_ch_20 : decode (am_b 333) 20 = .ok (.iload_n 1, 1) := by decide +kernel
theorem tx_ch_21 : decode (am_b 333) 21 = .ok (.invokestatic 498, 3) := by decide +kernel
theorem tx_ch_24 : decode (am_b 333) 24 = .ok (.ireturn, 1) := by decide +kernel
theorem tx_l_ch : am_ml 333 = 2 := by decide +kernel
theorem tx_r_ch : am_rt 333 = some .char := by decide +kernel
theorem tx_s_ch : am_ss 333 < 2 := by decide +kernel
theorem tx_n_ch : am_np 333 = 1 := by decide +kernel
theorem tx_lc_0 : decode (am_b 337) 0 = .ok (.iload_n 1, 1) := by decide +kernel
theorem tx_lc_1 : decode (am_b 337) 1 = .ok (.aload_n 0, 1) := by decide +kernel
theorem tx_lc_2 : decode (am_b 337) 2 = .ok (.arraylength, 1) := by decide +kernel
theorem tx_lc_3 : decode (am_b 337) 3 = .ok (.invokestatic 9, 3) := by decide +kernel
theorem tx_lc_6 : decode (am_b 337) 6 = .ok (.aload_n 0, 1) := by decide +kernel
theorem tx_lc_7 : decode (am_b 337) 7 = .ok (.iload_n 1, 1) := by decide +kernel
theorem tx_lc_8 : decode (am_b 337) 8 = .ok (.baload, 1) := by decide +kernel
theorem tx_lc_9 : decode (am_b 337) 9 = .ok (.sipush 255, 3) := by decide +kernel
theorem tx_lc_12 : decode (am_b 337) 12 = .ok (.iand, 1) := by decide +kernel
theorem tx_lc_13 : decode (am_b 337) 13 = .ok (.i2c, 1) := by decide +kernel
theorem tx_lc_14 : decode (am_b 337) 14 = .ok (.ireturn, 1) := by decide +kernel
theorem tx_l_lc : am_ml 337 = 2 := by decide +kernel
theorem tx_r_lc : am_rt 337 = some .char := by decide +kernel
theorem tx_s_lc : am_ss 337 < 2 := by decide +kernel
theorem tx_n_lc : am_np 337 = 2 := by decide +kernel
theorem tx_ci_0 : decode (am_b 336) 0 = .ok (.iload_n 0, 1) := by decide +kernel
theorem tx_ci_1 : decode (am_b 336) 1 = .ok (.iload_n 1, 1) := by decide +kernel
theorem tx_ci_2 : decode (am_b 336) 2 = .ok (.getstatic 1053, 3) := by decide +kernel
theorem tx_ci_5 : decode (am_b 336) 5 = .ok (.invokestatic 1059, 3) := by decide +kernel
theorem tx_ci_8 : decode (am_b 336) 8 = .ok (.pop, 1) := by decide +kernel
theorem tx_ci_9 : decode (am_b 336) 9 = .ok (.return_, 1) := by decide +kernel
theorem tx_l_ci : am_ml 336 = 2 := by decide +kernel
theorem tx_r_ci : am_rt 336 = none := by decide +kernel
theorem tx_s_ci : am_ss 336 < 2 := by decide +kernel
theorem tx_n_ci : am_np 336 = 2 := by decide +kernel
theorem tx_pc_0 : decode (am_b 344) 0 = .ok (.iload_n 0, 1) := by decide +kernel
theorem tx_pc_1 : decode (am_b 344) 1 = .ok (.ifCond .lt 8, 3) := by decide +kernel
theorem tx_pc_4 : decode (am_b 344) 4 = .ok (.iload_n 0, 1) := by decide +kernel
theorem tx_pc_5 : decode (am_b 344) 5 = .ok (.iload_n 1, 1) := by decide +kernel
theorem tx_pc_6 : decode (am_b 344) 6 = .ok (.if_icmp .lt 10, 3) := by decide +kernel
theorem tx_pc_9 : decode (am_b 344) 9 = .ok (.aload_n 2, 1) := by decide +kernel
theorem tx_pc_10 : decode (am_b 344) 10 = .ok (.iload_n 0, 1) := by decide +kernel
theorem tx_pc_11 : decode (am_b 344) 11 = .ok (.iload_n 1, 1) := by decide +kernel
theorem tx_pc_12 : decode (am_b 344) 12 = .ok (.invokestatic 95, 3) := by decide +kernel
theorem tx_pc_15 : decode (am_b 344) 15 = .ok (.athrow, 1) := by decide +kernel
theorem tx_pc_16 : decode (am_b 344) 16 = .ok (.iload_n 0, 1) := by decide +kernel
theorem tx_pc_17 : decode (am_b 344) 17 = .ok (.ireturn, 1) := by decide +kernel
theorem tx_l_pc : am_ml 344 = 3 := by decide +kernel
theorem tx_r_pc : am_rt 344 = some .int := by decide +kernel
theorem tx_s_pc : am_ss 344 < 2 := by decide +kernel
theorem tx_n_pc : am_np 344 = 3 := by decide +kernel
theorem tx_k_compact : Cond.fieldLink (am_on 17) 38 "java/lang/String" "COMPACT_STRINGS" "Z" ∈ am_g := am_gat (i := 3035) (by decide +kernel) rfl
theorem tx_k_coderf : Cond.fieldLink (am_on 17) 15 "java/lang/String" "coder" "B" ∈ am_g := am_gat (i := 9098) (by decide +kernel) rfl
theorem tx_k_value : Cond.fieldLink (am_on 17) 9 "java/lang/String" "value" "[B" ∈ am_g := am_gat (i := 9097) (by decide +kernel) rfl
theorem tx_k_form : Cond.fieldLink (am_on 17) 1053 "jdk/internal/util/Preconditions" "SIOOBE_FORMATTER" "Ljava/util/function/BiFunction;" ∈ am_g := am_gat (i := 3051) (by decide +kernel) rfl
theorem tx_k_coder : Cond.methodLink (am_on 17) 335 (am_y 334) ∈ am_g := am_gat (i := 3031) (by decide +kernel) rfl
theorem tx_k_lat : Cond.methodLink (am_on 17) 492 (am_y 335) ∈ am_g := am_gat (i := 3041) (by decide +kernel) rfl
theorem tx_k_lc : Cond.methodLink (am_on 17) 495 (am_y 337) ∈ am_g := am_gat (i := 3045) (by decide +kernel) rfl
theorem tx_k_ci : Cond.methodLink (am_on 18) 9 (am_y 336) ∈ am_g := am_gat (i := 3048) (by decide +kernel) rfl
theorem tx_k_pc : Cond.methodLink (am_on 17) 1059 (am_y 344) ∈ am_g := am_gat (i := 3053) (by decide +kernel) rfl
theorem tx_o_coder : am_ow 334 = 17 := by decide +kernel
theorem tx_o_lat : am_ow 335 = 17 := by decide +kernel
theorem tx_o_len : am_ow 332 = 17 := by decide +kernel
theorem tx_o_ch : am_ow 333 = 17 := by decide +kernel
theorem tx_o_lc : am_ow 337 = 18 := by decide +kernel
theorem tx_o_ci : am_ow 336 = 17 := by decide +kernel
theorem tx_o_pc : am_ow 344 = 24 := by decide +kernel

def am_PX (C : aC) (vs : List Value) (M : aM) : Array Value → State → Prop := fun v U => v = vs.toArray ∧ am_K C U U.heap ∧ va_P C.2.1 vwCl (am_ws C M) U.heap
theorem am_PX_blind (C : aC) (vs : List Value) (M : aM) : FrameBlind (am_PX C vs M) := by
  intro a U g mk h
  obtain ⟨h1, h2, h3⟩ := h
  exact ⟨h1, am_K.same (U := U.calling g mk a) h2 rfl, h3⟩
theorem am_methX {d j : Nat} (hss : am_ss j < 2) (l : Launch) (C : aC) (vs : List Value) (M : aM) (r : aR) (hlen : (lg_sl vs).length ≤ am_ml j)
    (hW : ∀ (p : Program) (e : Env) (s : State) (m : MethodId) (args : Array Value) (below : List Frame) (meth : Method) (c : Code) (ls : Array Slot), am_F none p (am_rm d) s m args c C j d 0 0 → meth.sig.returnType = am_rt j → meth.locks = false → lv_has ls (am_ml j) (lv_args 0 vs) → va_P C.2.1 vwCl (am_ws C M) s.heap → W p l e (am_rm d) s m args below meth c s.heap [] 0 0 (MQ below (am_Qc C r) args s 0 0 (am_A C)) (F0 m 0 ls [])) : Met l (am_y j) (am_wsU j) (am_rm d) (am_PX C vs M) (am_Qc C r) 0 0 (am_A C) := by
  obtain ⟨-, hpl, hon, -⟩ := am_okj_all hss
  refine Met.ofW (cc := am_b j) (maxL := am_ml j) (ret := am_rt j) hpl rfl ?_
  intro p e s m args below meth c s₁ B hml hv
  obtain ⟨rfl, hK, hP⟩ := hv
  have hts := atoms_spec (ws := am_wsU j) B.pre
  have hown : s.vm.findClass (am_y j).cls = some m.cls := findClass_of_methodNamed B.named
  have hl := lv_entry vs (n := am_ml j) hlen
  rw [lg_entry_eq]
  exact hW p e s m _ below meth c _ ⟨B.exec, B.bytes, hml, by rw [hon]; exact hown, fun w hw => hts w (List.mem_cons_of_mem _ hw), hK, ⟨Nat.le_refl _, Nat.le_refl _, Nat.le_refl _, Nat.le_refl _⟩, fun n xs q => by cases q⟩ B.returns B.notSynchronized hl hP

theorem tx_short (i : Nat) : am_slen.getD i 0 ≤ 7 := by
  rw [List.getD_eq_getElem?_getD]
  cases h : am_slen[i]? with
  | none => simp
  | some x =>
    have h1 : am_slen.all (fun x => Nat.ble x 7) = true := by decide
    exact Nat.le_of_ble_eq_true (List.all_eq_true.mp h1 x (List.mem_of_getElem? h))

/-- Preconditions.checkIndex, in range -/
theorem tx_pc (l : Launch) (C : aC) (M : aM) (k n : Int32) (v : Value) (hv : v = .null ∨ ∃ t, v = .ref t) (h0 : ¬ k < 0) (h1 : k < n) : Met l (am_y 344) (am_wsU 344) (am_rm 1) (am_PX C [.int k, .int n, v] M) (am_Qc C (some (.inl k), M)) 0 0 (am_A C) := by
  refine am_methX tx_s_pc l C _ M _ ?_ ?_
  · rcases hv with rfl | ⟨t, rfl⟩ <;> (rw [tx_l_pc]; exact Nat.le_of_ble_eq_true rfl)
  · intro p e s m args below meth c ls F hr hlocks hl hP
    have hl0 : ls[0]? = some (.val (.int k)) := hl.2.2 (0, .int k) (by simp [lv_args])
    have hl1 : ls[1]? = some (.val (.int n)) := hl.2.2 (1, .int n) (by simp [lv_args, Value.category])
    have hS : va_S (am_A C) s.heap s.heap [] := va_S.rf
    refine lv_iload_n F.1 F.2.1 tx_pc_0 rfl hl0 ?_
    refine lv_if_lt (tgt := 9) F.1 F.2.1 tx_pc_1 (by decide) (fun q => absurd q h0) (fun _ => ?_)
    refine lv_iload_n F.1 F.2.1 tx_pc_4 rfl hl0 ?_
    refine lv_iload_n F.1 F.2.1 tx_pc_5 rfl hl1 ?_
    refine lv_icmp_lt (tgt := 16) F.1 F.2.1 tx_pc_6 (by decide) (fun _ => ?_) (fun q => absurd h1 q)
    refine lv_iload_n F.1 F.2.1 tx_pc_16 rfl hl0 ?_
    exact W.iret F.1 F.2.1 (hr.trans tx_r_pc) (fun t ht hW => ⟨rfl, by rw [ht]; exact hP, hS.F ht, fun u hu => by cases hu; trivial⟩) hS.2.2 tx_pc_17 hlocks
/-- String.checkIndex, in range -/
theorem tx_ci (l : Launch) (C : aC) (M : aM) (k n : Int32) (h0 : ¬ k < 0) (h1 : k < n) : Met l (am_y 336) (am_wsU 336) (am_rm 2) (am_PX C [.int k, .int n] M) (am_Qc C (none, M)) 0 0 (am_A C) := by
  refine am_methX tx_s_ci l C _ M _ (by rw [tx_l_ci]; exact Nat.le_of_ble_eq_true rfl) ?_
  intro p e s m args below meth c ls F hr hlocks hl hP
  have hl0 : ls[0]? = some (.val (.int k)) := hl.2.2 (0, .int k) (by simp [lv_args])
  have hl1 : ls[1]? = some (.val (.int n)) := hl.2.2 (1, .int n) (by simp [lv_args, Value.category])
  have hS : va_S (am_A C) s.heap s.heap [] := va_S.rf
  have hown := F.2.2.2.1
  rw [tx_o_ci] at hown
  refine lv_iload_n F.1 F.2.1 tx_ci_0 rfl hl0 ?_
  refine lv_iload_n F.1 F.2.1 tx_ci_1 rfl hl1 ?_
  have key : ∀ v : Value, (v = .null ∨ ∃ t, v = .ref t) → W p l e (am_rm 2) s m args below meth c s.heap [] 0 0 (MQ below (am_Qc C (none, M)) args s 0 0 (am_A C)) (F0 m 5 ls [v, .int n, .int k]) := by
    intro v hv
    have hcb := am_callB (R := am_rm 2) (d := 2) (d2 := 1) F.2.2.2.2.1 tx_k_pc tx_s_pc (by decide) ⟨Nat.le_refl _, Nat.le_refl _⟩
    refine am_callW (va_runS (As := [.int k, .int n, v]) (rest := []) ⟨F.1, F.2.1, F.2.2.1, hown, F.2.2.2.2.1⟩ (tx_pc l C M k n v hv h0 h1) ⟨hcb, F.2.2.2.2.1 _ ((am_okj_all tx_s_pc).2.2.2.2.2.2.2.2.2 (by decide +kernel))⟩ ⟨am_PX_blind C _ M, fun U hU hW => ⟨rfl, F.2.2.2.2.2.1.warm hW (by rw [hU]; exact hS.2.1), by rw [hU]; exact hP⟩⟩ rfl tx_n_pc.symm hl.1 rfl (lv_room (by decide)) tx_ci_5 ⟨Nat.le_refl _, Nat.le_refl _⟩) hS (fun hro H1 locs1 hP1 hS1 => ?_)
    refine lv_pop F.1 F.2.1 tx_ci_8 rfl ?_
    exact W.vret F.1 F.2.1 (hr.trans tx_r_ci) (fun t ht hW => ⟨rfl, by rw [ht]; exact hP1, hS1.F ht, fun u hu => by cases hu⟩) hS1.2.2 tx_ci_9 hlocks
  rcases F.2.2.2.2.2.1.2.2.2.2.2.2 with hz | ⟨t, hz⟩
  · exact va_gets F.1 F.2.1 hz hS hown (F.2.2.2.2.1 _ tx_k_form) (fun _ z => z) tx_ci_2 (key _ (Or.inl rfl))
  · exact va_gets F.1 F.2.1 hz hS hown (F.2.2.2.2.1 _ tx_k_form) (fun _ z => z) tx_ci_2 (key _ (Or.inr ⟨t, rfl⟩))
/-- StringLatin1.charAt, in range -/
theorem tx_lc (l : Launch) (C : aC) (M : aM) (i : Nat) (hi : i < am_nS) (k : Int32) (hin : vp_in k (am_slen.getD i 0)) : Met l (am_y 337) (am_wsU 337) (am_rm 3) (am_PX C [.ref (am_ad C (5040 + i)), .int k] M) (am_Qc C (some (.inl ((am_sbyt.getD i []).getD k.toNatClampNeg 0 &&& 255)), M)) 0 0 (am_A C) := by
  refine am_methX tx_s_lc l C _ M _ (by rw [tx_l_lc]; exact Nat.le_of_ble_eq_true rfl) ?_
  intro p e s m args below meth c ls F hr hlocks hl hP
  have hl0 : ls[0]? = some (.val (.ref (am_ad C (5040 + i)))) := hl.2.2 (0, .ref (am_ad C (5040 + i))) (by simp [lv_args])
  have hl1 : ls[1]? = some (.val (.int k)) := hl.2.2 (1, .int k) (by simp [lv_args, Value.category])
  have hS : va_S (am_A C) s.heap s.heap [] := va_S.rf
  have hown := F.2.2.2.1
  rw [tx_o_lc] at hown
  have hT := (F.2.2.2.2.2.1.2.2.1.1 i hi).2.2.2
  have hlt : am_slen.getD i 0 < 2 ^ 31 := Nat.lt_of_le_of_lt (tx_short i) (by decide)
  obtain ⟨jj, hj, rfl⟩ := vp_in_of hin hlt
  refine lv_iload_n F.1 F.2.1 tx_lc_0 rfl hl1 ?_
  refine lv_aload_n F.1 F.2.1 tx_lc_1 rfl hl0 ?_
  refine va_tlen F.1 F.2.1 hT hS (v := nI (am_slen.getD i 0)) rfl tx_lc_2 ?_
  have hcb := am_callB (R := am_rm 3) (d := 3) (d2 := 2) F.2.2.2.2.1 tx_k_ci tx_s_ci (by decide) ⟨Nat.le_refl _, Nat.le_refl _⟩
  refine am_callW (va_runS (As := [.int (nI jj), .int (nI (am_slen.getD i 0))]) (rest := []) ⟨F.1, F.2.1, F.2.2.1, hown, F.2.2.2.2.1⟩ (tx_ci l C M (nI jj) (nI (am_slen.getD i 0)) (nI_pos (by omega)) (nI_lt hj hlt)) ⟨hcb, F.2.2.2.2.1 _ ((am_okj_all tx_s_ci).2.2.2.2.2.2.2.2.2 (by decide +kernel))⟩ ⟨am_PX_blind C _ M, fun U hU hW => ⟨rfl, F.2.2.2.2.2.1.warm hW (by rw [hU]; exact hS.2.1), by rw [hU]; exact hP⟩⟩ rfl tx_n_ci.symm hl.1 rfl (lv_room (by decide)) tx_lc_3 ⟨Nat.le_refl _, Nat.le_refl _⟩) hS (fun hro H1 locs1 hP1 hS1 => ?_)
  refine lv_aload_n F.1 F.2.1 tx_lc_6 rfl hl0 ?_
  refine lv_iload_n F.1 F.2.1 tx_lc_7 rfl hl1 ?_
  refine va_tb F.1 F.2.1 hT hS1 hin rfl tx_lc_8 ?_
  refine lv_sipush (v := 255) F.1 F.2.1 tx_lc_9 (by decide) ?_
  refine lv_iand F.1 F.2.1 tx_lc_12 ?_
  refine lv_i2c F.1 F.2.1 tx_lc_13 (sc_c2 _) ?_
  exact W.zret F.1 F.2.1 (hr.trans tx_r_lc) (sc_nar _) (fun t ht hW => ⟨rfl, by rw [ht]; exact hP1, hS1.F ht, fun u hu => by cases hu; trivial⟩) hS1.2.2 tx_lc_14 hlocks
/-- String.coder of a constant text -/
def f334 (z : Nat) (c0 : Nat) (M : aM) : Option aR := match am_wkb 60 c0 with
  | true => some (some (.inl 0), M)
  | false => none
def F334 (z : Nat) (as : List aV) (M : aM) : Option aR := match as with
  | [.inr (.inr (60, c0))] => f334 z c0 M
  | _ => none
theorem S334 (z : Nat) : am_Snd 1 334 (F334 z) := am_meth tx_s_coder (fun as M r has h => by
  rw [tx_l_coder]
  unfold F334 at h
  split at h
  · rename_i c0
    refine ⟨Nat.le_of_ble_eq_true rfl, ?_⟩
    unfold f334 at h
    split at h
    · rename_i hw
      cases h
      obtain ⟨i, hi, rfl⟩ := am_str_ad hw
      intro p l e s m args below meth c C F hr hlocks hal hst H locs ls hl hP hS
      have hown := F.2.2.2.1
      rw [tx_o_coder] at hown
      refine va_gets F.1 F.2.1 F.2.2.2.2.2.1.2.2.2.2.2.1 hS hown (F.2.2.2.2.1 _ tx_k_compact) (fun _ z => z) tx_coder_0 ?_
      refine lv_if_eq (tgt := 13) F.1 F.2.1 tx_coder_3 (by decide) (fun q => absurd q (by decide)) (fun _ => ?_)
      refine lv_aload_n F.1 F.2.1 tx_coder_6 rfl (hl.2.2.2 0 _ rfl) ?_
      refine vk_getf F.1 F.2.1 (F.2.2.2.2.2.1.2.2.1.1 i hi).2.1 hS hown (F.2.2.2.2.1 _ tx_k_coderf) (fun _ z => z) tx_coder_7 ?_
      refine lv_goto (tgt := 14) F.1 F.2.1 tx_coder_10 (by decide) ?_
      exact W.zret F.1 F.2.1 (hr.trans tx_r_coder) (by decide) (fun t ht hW => ⟨rfl, by rw [ht]; exact hP, hS.F ht, fun u hu => by cases hu; trivial⟩) hS.2.2 tx_coder_14 hlocks
    · cases h
  · cases h)
/-- String.isLatin1 of a constant text -/
def f335 (z : Nat) (c0 : Nat) (M : aM) : Option aR := match am_wkb 60 c0 with
  | true => some (some (.inl 1), M)
  | false => none
def F335 (z : Nat) (as : List aV) (M : aM) : Option aR := match as with
  | [.inr (.inr (60, c0))] => f335 z c0 M
  | _ => none
theorem S335 (z : Nat) : am_Snd 1 335 (F335 z) := am_meth tx_s_lat (fun as M r has h => by
  rw [tx_l_lat]
  unfold F335 at h
  split at h
  · rename_i c0
    refine ⟨Nat.le_of_ble_eq_true rfl, ?_⟩
    unfold f335 at h
    split at h
    · rename_i hw
      cases h
      obtain ⟨i, hi, rfl⟩ := am_str_ad hw
      intro p l e s m args below meth c C F hr hlocks hal hst H locs ls hl hP hS
      have hown := F.2.2.2.1
      rw [tx_o_lat] at hown
      refine va_gets F.1 F.2.1 F.2.2.2.2.2.1.2.2.2.2.2.1 hS hown (F.2.2.2.2.1 _ tx_k_compact) (fun _ z => z) tx_lat_0 ?_
      refine lv_if_eq (tgt := 17) F.1 F.2.1 tx_lat_3 (by decide) (fun q => absurd q (by decide)) (fun _ => ?_)
      refine lv_aload_n F.1 F.2.1 tx_lat_6 rfl (hl.2.2.2 0 _ rfl) ?_
      refine vk_getf F.1 F.2.1 (F.2.2.2.2.2.1.2.2.1.1 i hi).2.1 hS hown (F.2.2.2.2.1 _ tx_k_coderf) (fun _ z => z) tx_lat_7 ?_
      refine lv_if_ne (tgt := 17) F.1 F.2.1 tx_lat_10 (by decide) (fun q => absurd rfl q) (fun _ => ?_)
      refine lv_iconst (v := 1) F.1 F.2.1 tx_lat_13 (by decide) ?_
      refine lv_goto (tgt := 18) F.1 F.2.1 tx_lat_14 (by decide) ?_
      exact W.zret F.1 F.2.1 (hr.trans tx_r_lat) (by decide) (fun t ht hW => ⟨rfl, by rw [ht]; exact hP, hS.F ht, fun u hu => by cases hu; trivial⟩) hS.2.2 tx_lat_18 hlocks
    · cases h
  · cases h)
/-- String.length of a constant text -/
def f332 (z : Nat) (c0 : Nat) (M : aM) : Option aR := match am_wkb 60 c0 with
  | true => some (some (.inl (nI (am_slen.getD (c0 - 5000) 0))), M)
  | false => none
def F332 (z : Nat) (as : List aV) (M : aM) : Option aR := match as with
  | [.inr (.inr (60, c0))] => f332 z c0 M
  | _ => none
theorem S332 (z : Nat) : am_Snd 3 332 (F332 z) := am_meth tx_s_len (fun as M r has h => by
  rw [tx_l_len]
  unfold F332 at h
  split at h
  · rename_i c0
    refine ⟨Nat.le_of_ble_eq_true rfl, ?_⟩
    unfold f332 at h
    split at h
    · rename_i hw
      cases h
      obtain ⟨i, hi, rfl⟩ := am_str_ad hw
      rw [Nat.add_sub_cancel_left]
      intro p l e s m args below meth c C F hr hlocks hal hst H locs ls hl hP hS
      have hown := F.2.2.2.1
      rw [tx_o_len] at hown
      refine lv_aload_n F.1 F.2.1 tx_len_0 rfl (hl.2.2.2 0 _ rfl) ?_
      refine vk_getf F.1 F.2.1 (F.2.2.2.2.2.1.2.2.1.1 i hi).2.2.1 hS hown (F.2.2.2.2.1 _ tx_k_value) (fun _ z => z) tx_len_1 ?_
      refine va_tlen F.1 F.2.1 (F.2.2.2.2.2.1.2.2.1.1 i hi).2.2.2 hS (v := nI (am_slen.getD i 0)) rfl tx_len_4 ?_
      refine lv_aload_n F.1 F.2.1 tx_len_5 rfl (hl.2.2.2 0 _ rfl) ?_
      have hcb := am_callB (R := am_rm 3) (d := 3) (d2 := 1) F.2.2.2.2.1 tx_k_coder tx_s_coder (by decide) ⟨Nat.le_refl _, Nat.le_refl _⟩
      have hvi := (am_okj_all tx_s_coder).2.2.2.2.2.2.2.2.1 (by decide +kernel)
      have hmet := S334 0 [.inr (.inr (60, 5000 + i))] M (some (.inl 0), M) (am_wk_c hw (fun v hv => by cases hv)) (by show f334 0 (5000 + i) M = _; unfold f334; rw [hw]) l C
      refine am_callW (va_runV (As := []) (rest := [.int (nI (am_slen.getD i 0))]) (b := am_ad C (5000 + i)) (C := (am_y 334).cls) ⟨F.1, F.2.1, F.2.2.1, hown, F.2.2.2.2.1⟩ hmet ⟨hcb, F.2.2.2.2.1 _ hvi.1, F.2.2.2.2.1 _ hvi.2⟩ ⟨am_Pc_blind C _ M, am_rcv F hP hS hw (by decide +kernel) tx_s_coder (Or.inr (by decide +kernel)), fun U hU hW => ⟨rfl, F.2.2.2.2.2.1.warm hW (by rw [hU]; exact hS.2.1), by rw [hU]; exact hP⟩⟩ rfl tx_n_coder.symm hl.1 rfl (lv_room (Nat.le_of_ble_eq_true rfl)) tx_len_6 ⟨Nat.le_refl _, Nat.le_refl _⟩) hS (fun hro H1 locs1 hP1 hS1 => ?_)
      refine lv_ishr F.1 F.2.1 tx_len_9 ?_
      rw [sb_shr0]
      exact W.iret F.1 F.2.1 (hr.trans tx_r_len) (fun t ht hW => ⟨rfl, by rw [ht]; exact hP1, hS1.F ht, fun u hu => by cases hu; trivial⟩) hS1.2.2 tx_len_10 hlocks
    · cases h
  · cases h)
/-- String.charAt of a constant text -/
def f333 (z : Nat) (c0 : Nat) (x1 : Int32) (M : aM) : Option aR := match am_wkb 60 c0, am_inB x1 (am_slen.getD (c0 - 5000) 0) with
  | true, true => some (some (.inl ((am_sbyt.getD (c0 - 5000) []).getD x1.toNatClampNeg 0 &&& 255)), M)
  | _, _ => none
def F333 (z : Nat) (as : List aV) (M : aM) : Option aR := match as with
  | [.inr (.inr (60, c0)), .inl x1] => f333 z c0 x1 M
  | _ => none
theorem S333 (z : Nat) : am_Snd 4 333 (F333 z) := am_meth tx_s_ch (fun as M r has h => by
  rw [tx_l_ch]
  unfold F333 at h
  split at h
  · rename_i c0 x1
    refine ⟨Nat.le_of_ble_eq_true rfl, ?_⟩
    unfold f333 at h
    split at h
    · rename_i hw hin
      cases h
      obtain ⟨i, hi, rfl⟩ := am_str_ad hw
      rw [Nat.add_sub_cancel_left] at hin ⊢
      have hin := am_inB_in hin
      intro p l e s m args below meth c C F hr hlocks hal hst H locs ls hl hP hS
      have hown := F.2.2.2.1
      rw [tx_o_ch] at hown
      refine lv_aload_n F.1 F.2.1 tx_ch_0 rfl (hl.2.2.2 0 _ rfl) ?_
      have hcb := am_callB (R := am_rm 4) (d := 4) (d2 := 1) F.2.2.2.2.1 tx_k_lat tx_s_lat (by decide) ⟨Nat.le_refl _, Nat.le_refl _⟩
      have hvi := (am_okj_all tx_s_lat).2.2.2.2.2.2.2.2.1 (by decide +kernel)
      have hmet := S335 0 [.inr (.inr (60, 5000 + i))] M (some (.inl 1), M) (am_wk_c hw (fun v hv => by cases hv)) (by show f335 0 (5000 + i) M = _; unfold f335; rw [hw]) l C
      refine am_callW (va_runV (As := []) (rest := []) (b := am_ad C (5000 + i)) (C := (am_y 335).cls) ⟨F.1, F.2.1, F.2.2.1, hown, F.2.2.2.2.1⟩ hmet ⟨hcb, F.2.2.2.2.1 _ hvi.1, F.2.2.2.2.1 _ hvi.2⟩ ⟨am_Pc_blind C _ M, am_rcv F hP hS hw (by decide +kernel) tx_s_lat (Or.inr (by decide +kernel)), fun U hU hW => ⟨rfl, F.2.2.2.2.2.1.warm hW (by rw [hU]; exact hS.2.1), by rw [hU]; exact hP⟩⟩ rfl tx_n_lat.symm hl.1 rfl (lv_room (by decide)) tx_ch_1 ⟨Nat.le_refl _, Nat.le_refl _⟩) hS (fun hro H1 locs1 hP1 hS1 => ?_)
      refine lv_if_eq (tgt := 16) F.1 F.2.1 tx_ch_4 (by decide) (fun q => absurd q (by decide)) (fun _ => ?_)
      refine lv_aload_n F.1 F.2.1 tx_ch_7 rfl (hl.2.2.2 0 _ rfl) ?_
      refine vk_getf F.1 F.2.1 (F.2.2.2.2.2.1.2.2.1.1 i hi).2.2.1 hS1 hown (F.2.2.2.2.1 _ tx_k_value) (fun _ z => z) tx_ch_8 ?_
      refine lv_iload_n F.1 F.2.1 tx_ch_11 rfl (hl.2.2.2 1 _ rfl) ?_
      have hcb2 := am_callB (R := am_rm 4) (d := 4) (d2 := 3) F.2.2.2.2.1 tx_k_lc tx_s_lc (by decide) ⟨Nat.le_refl _, Nat.le_refl _⟩
      refine am_callW (va_runS (As := [.ref (am_ad C (5040 + i)), .int x1]) (rest := []) ⟨F.1, F.2.1, F.2.2.1, hown, F.2.2.2.2.1⟩ (tx_lc l C M i hi x1 hin) ⟨hcb2, F.2.2.2.2.1 _ ((am_okj_all tx_s_lc).2.2.2.2.2.2.2.2.2 (by decide +kernel))⟩ ⟨am_PX_blind C _ M, fun U hU hW => ⟨rfl, F.2.2.2.2.2.1.warm hW (by rw [hU]; exact hS1.2.1), by rw [hU]; exact hP1⟩⟩ rfl tx_n_lc.symm hl.1 rfl (lv_room (by decide)) tx_ch_12 ⟨Nat.le_refl _, Nat.le_refl _⟩) hS1 (fun hro H2 locs2 hP2 hS2 => ?_)
      exact W.zret F.1 F.2.1 (hr.trans tx_r_ch) (sc_nar _) (fun t ht hW => ⟨rfl, by rw [ht]; exact hP2, hS2.F ht, fun u hu => by cases hu; trivial⟩) hS2.2.2 tx_ch_15 hlocks
    · cases h
  · cases h)
