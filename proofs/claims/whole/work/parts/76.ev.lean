theorem dnS_2 (n : Nat → Nat) : ∀ k, (dnS n k).2 ≤ 61
  | 0 => by show 61 ≤ 61; omega
  | k + 1 => by
    have ih := dnS_2 n k
    unfold dnS
    split
    · rename_i q; show n k ≤ 61; omega
    · exact ih
theorem P_darn {z : Nat} (hz : 2000 ≤ z) {M : aM} {W : cW} (h : RW M W) (x1 : Int32) : PR (f124 z x1 M) (f275 z x1) := by
  have hN3 := h.n3
  have hN4 := h.n4
  by_cases o0 : okN (W 0 3) x1
  · obtain ⟨c, hc, rfl⟩ := o0
    have hc8 : c < 8 := by omega
    have inner : ∀ (K : Int32 → Int32 → aM → Option aR) (m : Nat) (M : aM), m ≤ 60 → RW M W → ∃ M', RW M' W ∧ f124_24 z K z (nI c) (nI m) (nI 0) M = (match fst (dnP W c m) (W 0 4) with | some t => some (some (.inl (nI t)), M') | none => K (nI c) (nI (m + 1)) M') := by
      intro K m M hm h
      exact leM (fun n k M' => f124_24 z K n (nI c) (nI m) (nI k) M') (W 0 4) (dnP W c m) (fun k M' => some (some (.inl (nI k)), M')) (fun M' => K (nI c) (nI (m + 1)) M') (fun M' => RW M' W) (by
        intro n k M' hk hI
        obtain ⟨M1, e1, e2⟩ := c_word hz hI hk hm
        have hlt : wdV W k m < 256 := lH_lt hI.w _
        have hap := and_pow (wdV W k m) c
        have hb2 := bt_lt (wdV W k m) c
        refine ⟨M1, e2, ?_⟩
        rw [f124_24]
        by_cases h1 : bt (wdV W k m) c = 1
        · have ep : dnP W c m k = true := decide_eq_true (by rw [hap]; exact h1)
          simp (disch := omega) only [n_0, n_1, n_2, n_3, n_4, n_5, n_6, n_7, n_8, n_9, n_10, n_12, n_13, n_16, n_30, n_60, n_61, n_86, n_99, n_100, n_200, n_201, n_1023, n_65535, n_10000, n_1000000, ↓q_m1, ↓q_m2, ↓q_m3, ↓q_m4, ↓q_m5, ↓q_m6, ↓q_m7, ↓q_m8, ↓q_m1000, ↓q_m100000, q_add, q_addm, q_inB, q_cl, q_le, q_lt, q_eq, q_eqm, q_meq, q_mltT, q_ltm, q_lem, q_mleT, if_true, if_false, if_pos, if_neg, Nat.reduceAdd, Nat.reduceMul, Nat.add_zero, Nat.zero_add, Nat.one_mul, not_true_eq_false, not_false_eq_true, u_row, u_self, u_ne, cb_bi, cb_bv, cb_bl, hI.c.i5, e1, n_31, q_bt, h1, ep]
        · have ep : dnP W c m k = false := by unfold dnP; rw [decide_eq_false_iff_not, hap]; exact h1
          simp (disch := omega) only [n_0, n_1, n_2, n_3, n_4, n_5, n_6, n_7, n_8, n_9, n_10, n_12, n_13, n_16, n_30, n_60, n_61, n_86, n_99, n_100, n_200, n_201, n_1023, n_65535, n_10000, n_1000000, ↓q_m1, ↓q_m2, ↓q_m3, ↓q_m4, ↓q_m5, ↓q_m6, ↓q_m7, ↓q_m8, ↓q_m1000, ↓q_m100000, q_add, q_addm, q_inB, q_cl, q_le, q_lt, q_eq, q_eqm, q_meq, q_mltT, q_ltm, q_lem, q_mleT, if_true, if_false, if_pos, if_neg, Nat.reduceAdd, Nat.reduceMul, Nat.add_zero, Nat.zero_add, Nat.one_mul, not_true_eq_false, not_false_eq_true, u_row, u_self, u_ne, cb_bi, cb_bv, cb_bl, hI.c.i5, e1, n_31, q_bt, ep, Bool.false_eq_true]) (by
        intro n M' hI
        refine ⟨M', hI, ?_⟩
        rw [f124_24]
        simp (disch := omega) only [n_0, n_1, n_2, n_3, n_4, n_5, n_6, n_7, n_8, n_9, n_10, n_12, n_13, n_16, n_30, n_60, n_61, n_86, n_99, n_100, n_200, n_201, n_1023, n_65535, n_10000, n_1000000, ↓q_m1, ↓q_m2, ↓q_m3, ↓q_m4, ↓q_m5, ↓q_m6, ↓q_m7, ↓q_m8, ↓q_m1000, ↓q_m100000, q_add, q_addm, q_inB, q_cl, q_le, q_lt, q_eq, q_eqm, q_meq, q_mltT, q_ltm, q_lem, q_mleT, if_true, if_false, if_pos, if_neg, Nat.reduceAdd, Nat.reduceMul, Nat.add_zero, Nat.zero_add, Nat.one_mul, not_true_eq_false, not_false_eq_true, u_row, u_self, u_ne, cb_bi, cb_bv, cb_bl, hI.c.i5]) z M (by omega) h
    obtain ⟨M1, h1, e1⟩ := leM (fun n k M' => f124_16 z n (nI c) (nI k) M') 61 (dnQ W c) (fun k M' => some (some (.inl (oI (fst (dnP W c k) (W 0 4)))), M')) (fun M' => some (some (.inl mI), M')) (fun M' => RW M' W) (by
      intro n k M' hk hI
      obtain ⟨M1, i1, i2⟩ := inner (f124_16 z n) k M' (by omega) hI
      refine ⟨M1, i1, ?_⟩
      rw [f124_16]
      simp (disch := omega) only [n_0, n_1, n_2, n_3, n_4, n_5, n_6, n_7, n_8, n_9, n_10, n_12, n_13, n_16, n_30, n_60, n_61, n_86, n_99, n_100, n_200, n_201, n_1023, n_65535, n_10000, n_1000000, ↓q_m1, ↓q_m2, ↓q_m3, ↓q_m4, ↓q_m5, ↓q_m6, ↓q_m7, ↓q_m8, ↓q_m1000, ↓q_m100000, q_add, q_addm, q_inB, q_cl, q_le, q_lt, q_eq, q_eqm, q_meq, q_mltT, q_ltm, q_lem, q_mleT, if_true, if_false, if_pos, if_neg, Nat.reduceAdd, Nat.reduceMul, Nat.add_zero, Nat.zero_add, Nat.one_mul, not_true_eq_false, not_false_eq_true, u_row, u_self, u_ne, cb_bi, cb_bv, cb_bl]
      rw [i2]
      unfold dnQ
      cases fst (dnP W c k) (W 0 4) with
      | none => simp only [Option.isSome_none, Bool.false_eq_true, if_false]
      | some t => simp only [Option.isSome_some, if_true]; rfl) (by
      intro n M' hI
      refine ⟨M', hI, ?_⟩
      rw [f124_16]
      simp (disch := omega) only [n_0, n_1, n_2, n_3, n_4, n_5, n_6, n_7, n_8, n_9, n_10, n_12, n_13, n_16, n_30, n_60, n_61, n_86, n_99, n_100, n_200, n_201, n_1023, n_65535, n_10000, n_1000000, ↓q_m1, ↓q_m2, ↓q_m3, ↓q_m4, ↓q_m5, ↓q_m6, ↓q_m7, ↓q_m8, ↓q_m1000, ↓q_m100000, q_add, q_addm, q_inB, q_cl, q_le, q_lt, q_eq, q_eqm, q_meq, q_mltT, q_ltm, q_lem, q_mleT, if_true, if_false, if_pos, if_neg, Nat.reduceAdd, Nat.reduceMul, Nat.add_zero, Nat.zero_add, Nat.one_mul, not_true_eq_false, not_false_eq_true, u_row, u_self, u_ne, cb_bi, cb_bv, cb_bl]) z M (by omega) h
    refine PR.r (M := M) (v := oI (dnR W c)) (M1 := M1) ?_ h1 ?_
    · simp only [f124, k8t h.c h.w hc, cb_bi, i1n]
      refine Eq.trans e1 ?_
      unfold dnR
      cases fst (dnQ W c) 61 <;> rfl
    · rw [dn_eq]
      obtain ⟨n2, M2, e2, hK⟩ := lr0 (fun n k M' => f275_19 z n (nI c) (oI (dnS (fun t => sz 61 (fst (wdB W (2 ^ c) t) 61)) k).1) (nI (dnS (fun t => sz 61 (fst (wdB W (2 ^ c) t) 61)) k).2) (nI k) M') (W 0 4) (fun k M' => kA M1 M') z M1 (by omega) kA.id0 (by
        intro n k M' hk hI
        have r' : rM (M'.1 206) W := by rw [hI.r206]; exact h1.m
        obtain ⟨M3, a1, a2, a3⟩ := m_asF hz r' h1.w
        obtain ⟨M4, b1, b2, b3⟩ := m_word hz h1.w (a3.t k) hk (pow8 hc8)
        have l2 := dnS_2 (fun t => sz 61 (fst (wdB W (2 ^ c) t) 61)) k
        have ln : sz 61 (fst (wdB W (2 ^ c) k) 61) ≤ 61 := by
          cases e : fst (wdB W (2 ^ c) k) 61 with
          | none => exact Nat.le_refl _
          | some k => have := (fst_s e).1; show k ≤ 61; omega
        refine ⟨M4, ?_, (hI.trans a2).trans b2⟩
        rw [f275_19, g178 r', cb_bi]
        by_cases q : sz 61 (fst (wdB W (2 ^ c) k) 61) < (dnS (fun t => sz 61 (fst (wdB W (2 ^ c) t) 61)) k).2
        · have es : dnS (fun t => sz 61 (fst (wdB W (2 ^ c) t) 61)) (k + 1) = (some k, sz 61 (fst (wdB W (2 ^ c) k) 61)) := if_pos q
          rw [es]
          simp (disch := omega) only [n_0, n_1, n_2, n_3, n_4, n_5, n_6, n_7, n_8, n_9, n_10, n_12, n_13, n_16, n_30, n_60, n_61, n_86, n_99, n_100, n_200, n_201, n_1023, n_65535, n_10000, n_1000000, ↓q_m1, ↓q_m2, ↓q_m3, ↓q_m4, ↓q_m5, ↓q_m6, ↓q_m7, ↓q_m8, ↓q_m1000, ↓q_m100000, q_add, q_addm, q_inB, q_cl, q_le, q_lt, q_eq, q_eqm, q_meq, q_mltT, q_ltm, q_lem, q_mleT, if_true, if_false, if_pos, if_neg, Nat.reduceAdd, Nat.reduceMul, Nat.add_zero, Nat.zero_add, Nat.one_mul, not_true_eq_false, not_false_eq_true, u_row, u_self, u_ne, cb_bi, cb_bv, cb_bl, n_31, q_shl, a1, b1, oI_s]
        · have es : dnS (fun t => sz 61 (fst (wdB W (2 ^ c) t) 61)) (k + 1) = dnS (fun t => sz 61 (fst (wdB W (2 ^ c) t) 61)) k := if_neg q
          rw [es]
          simp (disch := omega) only [n_0, n_1, n_2, n_3, n_4, n_5, n_6, n_7, n_8, n_9, n_10, n_12, n_13, n_16, n_30, n_60, n_61, n_86, n_99, n_100, n_200, n_201, n_1023, n_65535, n_10000, n_1000000, ↓q_m1, ↓q_m2, ↓q_m3, ↓q_m4, ↓q_m5, ↓q_m6, ↓q_m7, ↓q_m8, ↓q_m1000, ↓q_m100000, q_add, q_addm, q_inB, q_cl, q_le, q_lt, q_eq, q_eqm, q_meq, q_mltT, q_ltm, q_lem, q_mleT, if_true, if_false, if_pos, if_neg, Nat.reduceAdd, Nat.reduceMul, Nat.add_zero, Nat.zero_add, Nat.one_mul, not_true_eq_false, not_false_eq_true, u_row, u_self, u_ne, cb_bi, cb_bv, cb_bl, n_31, q_shl, a1, b1])
      refine ⟨M2, ?_, kR.ofA hK⟩
      have r' : rM (M2.1 206) W := by rw [hK.r206]; exact h1.m
      simp only [f275, k182t h1.m h1.w hc, cb_bi, i1n]
      refine Eq.trans e2 ?_
      rw [f275_19, g178 r', cb_bi]
      simp (disch := omega) only [n_0, n_1, n_2, n_3, n_4, n_5, n_6, n_7, n_8, n_9, n_10, n_12, n_13, n_16, n_30, n_60, n_61, n_86, n_99, n_100, n_200, n_201, n_1023, n_65535, n_10000, n_1000000, ↓q_m1, ↓q_m2, ↓q_m3, ↓q_m4, ↓q_m5, ↓q_m6, ↓q_m7, ↓q_m8, ↓q_m1000, ↓q_m100000, q_add, q_addm, q_inB, q_cl, q_le, q_lt, q_eq, q_eqm, q_meq, q_mltT, q_ltm, q_lem, q_mleT, if_true, if_false, if_pos, if_neg, Nat.reduceAdd, Nat.reduceMul, Nat.add_zero, Nat.zero_add, Nat.one_mul, not_true_eq_false, not_false_eq_true, u_row, u_self, u_ne, cb_bi, cb_bv, cb_bl]
  · refine PR.s h (v := -2) (by simp only [f124, k8f h.c h.w o0, cb_bi, i0n]) (fun M1 h1 => ?_)
    exact ⟨M1, by simp only [f275, k182f h1.m h1.w o0, cb_bi, i0n], kR.id0⟩
/-! ===== evenings, sets, laws ===== -/
theorem fo_cong {α : Type} {st st' : α → Nat → α} {a : α} : ∀ n, (∀ x k, k < n → st x k = st' x k) → fo st a n = fo st' a n
  | 0, _ => rfl
  | n + 1, h => by
    rw [fo_s, fo_s, fo_cong n (fun x k hk => h x k (by omega))]
    exact h _ n (by omega)
theorem yV_cong {W : cW} (hW : wf W) {law : Nat} {gn gn' hd hd' : Nat → Bool} {s : Nat → Nat} (hg : ∀ t, t < W 0 4 → gn t = gn' t) (hh : ∀ q, q < W 0 5 → hd q = hd' q) : ∀ y, yV W law gn hd s y = yV W law gn' hd' s y
  | 0 => rfl
  | y + 1 => by
    have e : ∀ p, yY W law gn hd y p = yY W law gn' hd' y p := by
      intro p
      unfold yY
      have e1 : fo (yL W gn y) p.1 (W 0 6) = fo (yL W gn' y) p.1 (W 0 6) := fo_cong _ (fun x k hk => by
        have hw := hW.2.2.2.2.2.2.2.2.2.2.1 k hk
        unfold yL
        by_cases q : W 7 k = 0
        · rw [hg (W 8 k) (by omega)]
        · rw [if_neg (fun r => q r.1), if_neg (fun r => q r.1)])
      rw [e1]
      have e2 : ∀ p', fo (yT W law hd y) p' (W 0 5) = fo (yT W law hd' y) p' (W 0 5) := fun p' => fo_cong _ (fun x k hk => by
        unfold yT
        rw [hh k hk])
      rw [e2]
    show ((yY W law gn hd y (yV W law gn hd s y)).1, yu (yY W law gn hd y (yV W law gn hd s y)).2 (y + 1) (yY W law gn hd y (yV W law gn hd s y)).1) = ((yY W law gn' hd' y (yV W law gn' hd' s y)).1, yu (yY W law gn' hd' y (yV W law gn' hd' s y)).2 (y + 1) (yY W law gn' hd' y (yV W law gn' hd' s y)).1)
    rw [yV_cong hW hg hh y, e]
theorem lv_cong {W : cW} (hW : wf W) (law : Nat) {gn gn' hd hd' : Nat → Bool} (hg : ∀ t, t < W 0 4 → gn t = gn' t) (hh : ∀ q, q < W 0 5 → hd q = hd' q) : lv W law gn hd (hT0 W) = lv W law gn' hd' (hT0 W) := by
  unfold lv
  have e : (fun t => if gn t = true then 0 else hT0 W t) = (fun t => if gn' t = true then 0 else hT0 W t) := by
    funext t
    by_cases q : t < W 0 4
    · rw [hg t q]
    · have : hT0 W t = 0 := if_neg q
      rw [this]
      simp
  rw [e, yV_cong hW hg hh]
/-- complement -/
theorem q_nx {B : Nat} (hB : B < 2147483648) : nI B ^^^ mI = nI (4294967295 - B) := by
  have := q_not (A := 4294967295) hB
  have e : nI 4294967295 &&& (nI B ^^^ mI) = nI B ^^^ mI := by
    rw [show nI 4294967295 = mI by decide]
    apply Int32.toBitVec_inj.mp
    rw [Int32.toBitVec_and]
    show BitVec.allOnes 32 &&& _ = _
    rw [BitVec.allOnes_and]
  rw [e] at this
  rw [this]
  congr 1
  have h2 : (4294967295 - B) &&& (2 ^ 32 - 1) = 4294967295 - B := by rw [Nat.and_two_pow_sub_one_eq_mod, Nat.mod_eq_of_lt (by omega)]
  rw [Nat.and_comm]
  exact h2
theorem bt_not {B k : Nat} (hB : B < 4294967296) (hk : k < 32) : (bt (4294967295 - B) k = 1) = ¬ (bt B k = 1) := by
  have e := Nat.testBit_two_pow_sub_succ (n := 32) (x := B) hB k
  rw [show 2 ^ 32 - (B + 1) = 4294967295 - B by omega] at e
  rw [bt_tb, e, bt_tb]
  simp [hk]
theorem cx_toInt {B : Nat} (hB : B < 2147483648) : (nI B ^^^ mI).toInt = -(B : Int) - 1 := by
  rw [q_nx hB]
  show (BitVec.ofNat 32 (4294967295 - B)).toInt = _
  rw [BitVec.toInt_eq_toNat_bmod, BitVec.toNat_ofNat]
  simp only [Int.bmod]
  omega
theorem cx_shr {B k : Nat} (hB : B < 2147483648) (hk : k < 10) : (nI B ^^^ mI) >>> (nI k &&& nI 31) = nI (B / 2 ^ k) ^^^ mI := by
  apply Int32.toInt_inj.mp
  rw [pk_shr _ _ k (q_sm (by omega)), cx_toInt hB, cx_toInt (Nat.lt_of_le_of_lt (Nat.div_le_self _ _) hB), Int.shiftRight_eq_div_pow]
  have : k = 0 ∨ k = 1 ∨ k = 2 ∨ k = 3 ∨ k = 4 ∨ k = 5 ∨ k = 6 ∨ k = 7 ∨ k = 8 ∨ k = 9 := by omega
  rcases this with rfl | rfl | rfl | rfl | rfl | rfl | rfl | rfl | rfl | rfl <;> omega
theorem hB_not {B : Nat} (hB9 : B < 2147483648) : hB (nI B ^^^ mI) 10 (fun q => decide (bt B q = 0)) := by
  intro k hk
  have hl : B / 2 ^ k < 2147483648 := Nat.lt_of_le_of_lt (Nat.div_le_self _ _) hB9
  rw [cx_shr hB9 hk, Int32.and_comm, q_not hl]
  congr 1
  have h1 : 1 &&& (4294967295 - B / 2 ^ k) = (4294967295 - B / 2 ^ k) % 2 := by
    rw [Nat.and_comm]
    exact Nat.and_two_pow_sub_one_eq_mod (4294967295 - B / 2 ^ k) 1
  rw [h1]
  show (4294967295 - B / 2 ^ k) % 2 = (if decide (B / 2 ^ k % 2 = 0) = true then 1 else 0)
  generalize B / 2 ^ k = C at *
  by_cases q : C % 2 = 0
  · simp only [q, decide_true, if_true]; omega
  · simp only [q, decide_false, Bool.false_eq_true, if_false]; omega
theorem hB_n {X n : Nat} {p : Nat → Bool} (hX : X < 2147483648) (hn : n ≤ 32) (h : ∀ k, k < n → (bt X k = 1) = (p k = true)) : hB (nI X) n p := by
  intro k hk
  rw [q_bt hX (by omega)]
  have h1 := h k hk
  have h2 := bt_lt X k
  congr 1
  by_cases q : p k = true
  · rw [if_pos q]; rw [h1]; exact q
  · rw [if_neg q]
    have : ¬ bt X k = 1 := by rw [h1]; exact q
    omega
theorem bt_and (A B k : Nat) : (bt (A &&& B) k = 1) = (bt A k = 1 ∧ bt B k = 1) := by
  rw [bt_tb, bt_tb, bt_tb, Nat.testBit_and]
  simp
theorem bt_pow (q k : Nat) : (bt (2 ^ q) k = 1) = (k = q) := by
  rw [bt_tb]
  by_cases e : k = q
  · rw [e, Nat.testBit_two_pow_self]; simp
  · rw [Nat.testBit_two_pow_of_ne (Ne.symm e)]; simp [e]
theorem bt_ones (n k : Nat) : (bt (2 ^ n - 1) k = 1) = (k < n) := by
  rw [bt_tb, Nat.testBit_two_pow_sub_one]
  simp
/-- hungByEvening -/
theorem c_ev {z : Nat} (hz : 2000 ≤ z) {M : aM} {W : cW} (h : RW M W) {e : Nat} (he : e < 1024) : ∃ M', f47 z 18 (nI e) M = some (some (.inl (nI (evV W e))), M') ∧ RW M' W := by
  have hN0 := h.n0
  have hlt : evV W e < 256 := lH_lt h.w _
  unfold f47
  rcases h.a.2.1 e he with q | q
  · obtain ⟨M1, a1, a2, a3, a4, a5, a6⟩ := c_asTold (z := z) (y0 := 74) h.w h.c (by omega)
    have h1 := h.k (kR.fx a2 (fun a q => by unfold Sc; omega))
    have k2 : kR M1 (am_u M1.1 74 2 (nI e ^^^ mI), M1.2) := kR.fx (S := fun a => a = 74) (Fx.w Fx.id0 rfl) (fun a q => by unfold Sc; omega)
    have h2 := h1.k k2
    obtain ⟨M3, b1, b2, b3, b4, b5⟩ := c_last hz (M := (am_u M1.1 74 2 (nI e ^^^ mI), M1.2)) (y0 := 74) (law := W 0 1) (h := hT0 W) (gn := nB) (hd := fun q => decide (bt e q = 0)) 71 h2.w h2.c (by omega) (by simp (disch := omega) only [u_ne]; exact a3) h.w.2.1 (by simp (disch := omega) only [u_ne, a4]; exact hB_0 16 (by omega)) (by simp only [u_self]; exact hB_not (by omega)) (hT0_b h.w) (by simp (disch := omega) only [u_row]; exact a6)
    have h3 := h2.k (kR.ofY b2 (.inl rfl))
    have ev : lH W (lv W (W 0 1) nB (fun q => decide (bt e q = 0)) (hT0 W)) = evV W e := rfl
    rw [ev] at b5
    simp (disch := omega) only [n_0, n_1, n_2, n_3, n_4, n_5, n_6, n_7, n_8, n_9, n_10, n_12, n_13, n_16, n_30, n_60, n_61, n_86, n_99, n_100, n_200, n_201, n_1023, n_65535, n_10000, n_1000000, ↓q_m1, ↓q_m2, ↓q_m3, ↓q_m4, ↓q_m5, ↓q_m6, ↓q_m7, ↓q_m8, ↓q_m1000, ↓q_m100000, q_add, q_addm, q_inB, q_cl, q_le, q_lt, q_eq, q_eqm, q_meq, q_mltT, q_ltm, q_lem, q_mleT, if_true, if_false, if_pos, if_neg, Nat.reduceAdd, Nat.reduceMul, Nat.add_zero, Nat.zero_add, Nat.one_mul, not_true_eq_false, not_false_eq_true, u_row, u_self, u_ne, cb_bi, cb_bv, cb_bl, q, a1, b1, b4.i1, b5]
    refine ⟨_, rfl, h3.cc (Fx.w Fx.id0 (by omega)) ?_⟩
    obtain ⟨c1, c2, c3⟩ := h3.a
    refine ⟨?_, ?_, ?_⟩
    · simp (disch := omega) only [u_row]
      exact c1
    · intro e' he'
      simp only [u_at]
      by_cases x : e' = e
      · rw [if_pos x, x]
        exact .inr rfl
      · rw [if_neg x]
        exact c2 e' he'
    · simp (disch := omega) only [u_row]
      exact c3
  · simp (disch := omega) only [n_0, n_1, n_2, n_3, n_4, n_5, n_6, n_7, n_8, n_9, n_10, n_12, n_13, n_16, n_30, n_60, n_61, n_86, n_99, n_100, n_200, n_201, n_1023, n_65535, n_10000, n_1000000, ↓q_m1, ↓q_m2, ↓q_m3, ↓q_m4, ↓q_m5, ↓q_m6, ↓q_m7, ↓q_m8, ↓q_m1000, ↓q_m100000, q_add, q_addm, q_inB, q_cl, q_le, q_lt, q_eq, q_eqm, q_meq, q_mltT, q_ltm, q_lem, q_mleT, if_true, if_false, if_pos, if_neg, Nat.reduceAdd, Nat.reduceMul, Nat.add_zero, Nat.zero_add, Nat.one_mul, not_true_eq_false, not_false_eq_true, u_row, u_self, u_ne, cb_bi, cb_bv, cb_bl, q]
    exact ⟨M, rfl, h⟩
/-- hungByLaw -/
theorem c_law {z : Nat} (hz : 2000 ≤ z) {M : aM} {W : cW} (h : RW M W) {l : Nat} (hl : l ≤ 3) : ∃ M', f48 z 18 (nI l) M = some (some (.inl (nI (lH W (lv W l nB nB (hT0 W))))), M') ∧ RW M' W := by
  have hN0 := h.n0
  unfold f48
  obtain ⟨M1, a1, a2, a3, a4, a5, a6⟩ := c_asTold (z := z) (y0 := 74) h.w h.c (by omega)
  have h1 := h.k (kR.fx a2 (fun a q => by unfold Sc; omega))
  have k2 : kR M1 (am_u M1.1 74 0 (nI l), M1.2) := kR.fx (S := fun a => a = 74) (Fx.w Fx.id0 rfl) (fun a q => by unfold Sc; omega)
  have h2 := h1.k k2
  obtain ⟨M3, b1, b2, b3, b4, b5⟩ := c_last hz (M := (am_u M1.1 74 0 (nI l), M1.2)) (y0 := 74) (law := l) (h := hT0 W) (gn := nB) (hd := nB) 71 h2.w h2.c (by omega) (by simp only [u_self]) hl (by simp (disch := omega) only [u_ne, a4]; exact hB_0 16 (by omega)) (by simp (disch := omega) only [u_ne, a5]; exact hB_0 10 (by omega)) (hT0_b h.w) (by simp (disch := omega) only [u_row]; exact a6)
  have h3 := h2.k (kR.ofY b2 (.inl rfl))
  simp (disch := omega) only [n_0, n_1, n_2, n_3, n_4, n_5, n_6, n_7, n_8, n_9, n_10, n_12, n_13, n_16, n_30, n_60, n_61, n_86, n_99, n_100, n_200, n_201, n_1023, n_65535, n_10000, n_1000000, ↓q_m1, ↓q_m2, ↓q_m3, ↓q_m4, ↓q_m5, ↓q_m6, ↓q_m7, ↓q_m8, ↓q_m1000, ↓q_m100000, q_add, q_addm, q_inB, q_cl, q_le, q_lt, q_eq, q_eqm, q_meq, q_mltT, q_ltm, q_lem, q_mleT, if_true, if_false, if_pos, if_neg, Nat.reduceAdd, Nat.reduceMul, Nat.add_zero, Nat.zero_add, Nat.one_mul, not_true_eq_false, not_false_eq_true, u_row, u_self, u_ne, cb_bi, cb_bv, cb_bl, a1, b1, b4.i1, b5]
  exact ⟨M3, rfl, h3⟩
def woV (W : cW) (gn : Nat → Bool) : Nat := pc (lH W (lv W (W 0 1) gn nB (hT0 W)))
theorem woV_le (W : cW) (gn : Nat → Bool) : woV W gn ≤ 16 := pc_le _
/-- hungWithout -/
theorem c_wo {z : Nat} (hz : 2000 ≤ z) {M : aM} {W : cW} (h : RW M W) {x : Int32} {gn : Nat → Bool} (hg : hB x 16 gn) : ∃ M', f49 z 18 x M = some (some (.inl (nI (woV W gn))), M') ∧ RW M' W := by
  have hN0 := h.n0
  unfold f49
  obtain ⟨M1, a1, a2, a3, a4, a5, a6⟩ := c_asTold (z := z) (y0 := 74) h.w h.c (by omega)
  have h1 := h.k (kR.fx a2 (fun a q => by unfold Sc; omega))
  have k2 : kR M1 (am_u M1.1 74 1 x, M1.2) := kR.fx (S := fun a => a = 74) (Fx.w Fx.id0 rfl) (fun a q => by unfold Sc; omega)
  have h2 := h1.k k2
  obtain ⟨M3, b1, b2, b3, b4, b5⟩ := c_last hz (M := (am_u M1.1 74 1 x, M1.2)) (y0 := 74) (law := W 0 1) (h := hT0 W) (gn := gn) (hd := nB) 71 h2.w h2.c (by omega) (by simp (disch := omega) only [u_ne]; exact a3) h.w.2.1 (by simp only [u_self]; exact hg) (by simp (disch := omega) only [u_ne, a5]; exact hB_0 10 (by omega)) (hT0_b h.w) (by simp (disch := omega) only [u_row]; exact a6)
  have h3 := h2.k (kR.ofY b2 (.inl rfl))
  have hlt := lH_lt h.w (lv W (W 0 1) gn nB (hT0 W))
  simp (disch := omega) only [n_0, n_1, n_2, n_3, n_4, n_5, n_6, n_7, n_8, n_9, n_10, n_12, n_13, n_16, n_30, n_60, n_61, n_86, n_99, n_100, n_200, n_201, n_1023, n_65535, n_10000, n_1000000, ↓q_m1, ↓q_m2, ↓q_m3, ↓q_m4, ↓q_m5, ↓q_m6, ↓q_m7, ↓q_m8, ↓q_m1000, ↓q_m100000, q_add, q_addm, q_inB, q_cl, q_le, q_lt, q_eq, q_eqm, q_meq, q_mltT, q_ltm, q_lem, q_mleT, if_true, if_false, if_pos, if_neg, Nat.reduceAdd, Nat.reduceMul, Nat.add_zero, Nat.zero_add, Nat.one_mul, not_true_eq_false, not_false_eq_true, u_row, u_self, u_ne, cb_bi, cb_bv, cb_bl, a1, b1, b4.i1, b5, g328]
  exact ⟨M3, rfl, h3⟩
/-- hangingAtLast -/
theorem k128 {z : Nat} (hz : 2000 ≤ z) {M : aM} {W : cW} (h : RW M W) : f128 z M = some (some (.inl (nI (pc (lH W (tY W))))), M) := by
  have hN0 := h.n0
  have hlt := lH_lt h.w (tY W)
  have e9 : f66 z 67 18 (33 + (1 + W 0 0)) M = some (some (.inl (nI (lH W (tY W)))), M) := c_hang hz 67 h.w h.c (fun t ht => h.row (Nat.le_refl _) ht) (fun t _ => h.rb (Nat.le_refl _) t)
  unfold f128
  simp (disch := omega) only [n_0, n_1, n_2, n_3, n_4, n_5, n_6, n_7, n_8, n_9, n_10, n_12, n_13, n_16, n_30, n_60, n_61, n_86, n_99, n_100, n_200, n_201, n_1023, n_65535, n_10000, n_1000000, ↓q_m1, ↓q_m2, ↓q_m3, ↓q_m4, ↓q_m5, ↓q_m6, ↓q_m7, ↓q_m8, ↓q_m1000, ↓q_m100000, q_add, q_addm, q_inB, q_cl, q_le, q_lt, q_eq, q_eqm, q_meq, q_mltT, q_ltm, q_lem, q_mleT, if_true, if_false, if_pos, if_neg, Nat.reduceAdd, Nat.reduceMul, Nat.add_zero, Nat.zero_add, Nat.one_mul, not_true_eq_false, not_false_eq_true, u_row, u_self, u_ne, cb_bi, cb_bv, cb_bl, h.c.i1, e9, g328]
/-- the model: goAll with things told otherwise, from any state behind asItIs -/
def mA (M : aM) (W : cW) : Prop := rM (M.1 206) W ∧ (∀ t, t < W 0 4 → M.1 212 t = nI (hT0 W t))
theorem mF.a {M : aM} {W : cW} (h : mF M W) : mA M W := ⟨h.1, h.2.2.2.2⟩
theorem mA.g {M M' : aM} {W : cW} (h : mA M W) (k : kG M M') : mA M' W := ⟨by rw [k.r206]; exact h.1, by rw [k.1.2 212 (by unfold gF; omega)]; exact h.2⟩
theorem mA.u {M : aM} {W : cW} {j : Nat} {x : Int32} (h : mA M W) : mA (am_u M.1 205 j x, M.2) W := ⟨by simp (disch := omega) only [u_row]; exact h.1, by simp (disch := omega) only [u_row]; exact h.2⟩
theorem kA.u {M : aM} {j : Nat} {x : Int32} (h1 : 16 ≤ j) (h2 : j ≤ 25) : kA M (am_u M.1 205 j x, M.2) := ⟨Fx.w Fx.id0 (by unfold aF; omega), fun i hi => by simp (disch := omega) only [u_ne]⟩
