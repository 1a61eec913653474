def cd272_0 : List am_E := [(0, .aload_n 0, 1, 0, 0, 0, 0), (1, .iload_n 1, 1, 1, 0, 0, 0), (2, .invokevirtual 356, 3, 226, 11010, 0, 0), (5, .ifCond .ne 6, 3, 11, 0, 0, 0), (8, .bipush (-2), 2, 0, 0, (-2), 0), (10, .ireturn, 1, 0, 0, 0, 0), (11, .iconst (-1), 1, 0, 0, (-1), 0), (12, .istore_n 2, 1, 2, 0, 0, 0), (13, .sipush 201, 3, 0, 0, 201, 0), (16, .istore_n 3, 1, 3, 0, 0, 0), (17, .iconst 0, 1, 0, 0, 0, 0), (18, .istore 4, 2, 4, 0, 0, 0), (20, .iload 4, 2, 4, 0, 0, 0), (22, .aload_n 0, 1, 0, 0, 0, 0), (23, .invokevirtual 115, 3, 177, 11000, 0, 0), (26, .if_icmp .ge 34, 3, 60, 0, 0, 0), (29, .aload_n 0, 1, 0, 0, 0, 0), (30, .iload 4, 2, 4, 0, 0, 0), (32, .iload_n 1, 1, 1, 0, 0, 0), (33, .iconst 0, 1, 0, 0, 0, 0), (34, .invokevirtual 390, 3, 268, 11030, 0, 0), (37, .istore 5, 2, 5, 0, 0, 0), (39, .iload 5, 2, 5, 0, 0, 0), (41, .iload_n 3, 1, 3, 0, 0, 0), (42, .if_icmp .lt 6, 3, 48, 0, 0, 0), (45, .goto 9, 3, 54, 0, 0, 0), (48, .iload 5, 2, 5, 0, 0, 0), (50, .istore_n 3, 1, 3, 0, 0, 0), (51, .iload 4, 2, 4, 0, 0, 0), (53, .istore_n 2, 1, 2, 0, 0, 0), (54, .iinc 4 1, 3, 4, 0, 1, 0), (57, .goto (-37), 3, 20, 0, 0, 0), (60, .iload_n 2, 1, 2, 0, 0, 0), (61, .ireturn, 1, 0, 0, 0, 0)]
def cd272 : List am_E := cd272_0
def am_w272 : List (List (Int32 × Nat) × Nat) := []
set_option maxRecDepth 100000 in
theorem kcd272_0 : cd272_0.all (am_chk am_w272 272) = true := by decide +kernel
theorem am_k272 : cd272.all (am_chk am_w272 272) = true := by
  simp only [cd272, List.all_append, kcd272_0, Bool.and_self]
theorem am_r272 : am_rtc 272 = 0 := by decide +kernel
theorem am_l272 : am_ml 272 = 6 := by decide +kernel
def am_s272_ (z : Nat) : Nat → List aV → aM → Option aR := (am_sm 177 (F177 z) (am_sm 226 (F226 z) (am_sm 268 (F268 z) am_s0)))
theorem hs272 (z : Nat) : ∀ j2 : Nat, ∃ d2 : Nat, d2 + 1 ≤ 12 ∧ am_Snd d2 j2 (am_s272_ z j2) := (am_sm_ok (S177 z) (by decide) (am_sm_ok (S226 z) (by decide) (am_sm_ok (S268 z) (by decide) (am_s0_ok (by decide)))))
def f272_20 (z : Nat) : Nat → Int32 → Int32 → Int32 → Int32 → aM → Option aR
  | 0, _, _, _, _, _ => none
  | n + 1, x1, x2, x3, x4, M =>
    am_bi (f177 z M) fun v2 M1 =>
      if v2 ≤ x4 then
        some (some (.inl x2), M1)
      else
        am_bi (f268 z x4 x1 (0 : Int32) M1) fun v4 M3 =>
          if v4 < x3 then
            f272_20 z n x1 x4 v4 (x4 + (1 : Int32)) M3
          else
            f272_20 z n x1 x2 x3 (x4 + (1 : Int32)) M3
set_option maxRecDepth 100000 in
set_option maxHeartbeats 4000000 in
theorem e272_20 (z : Nat) : ∀ (n : Nat) (x1 : Int32) (x2 : Int32) (x3 : Int32) (x4 : Int32) (M : aM) (r : aR), f272_20 z n x1 x2 x3 x4 M = some r → am_Ev 12 272 20 [some (.inr (.inr (11, 205))), some (.inl x1), some (.inl x2), some (.inl x3), some (.inl x4), none] [] M r := by
  intro n
  induction n with
  | zero =>
    intro x1 x2 x3 x4 M r h
    cases h
  | succ n ih =>
    intro x1 x2 x3 x4 M r h
    exact am_Ev_seg (sem := am_s272_ z) (cut := ([(20, [true, true, true, true, true, false])] : List (Nat × List Bool))) (hs272 z) am_r272 am_k272 (by rw [am_l272]; decide) (am_kc 20 (fun al st M => match al, st with
      | [some (.inr (.inr (11, 205))), some (.inl x1), some (.inl x2), some (.inl x3), some (.inl x4), none], [] => f272_20 z n x1 x2 x3 x4 M
      | _, _ => none) am_k0) 21 h (am_kc_ok (fun al st M hk => by
      split at hk
      · exact ih _ _ _ _ _ _ hk
      · cases hk) am_k0_ok)
/-- ArgumentMenderModel.soft(I)I -/
def f272 (z : Nat) (x1 : Int32) (M : aM) : Option aR :=
  am_bi (f226 z x1 M) fun v2 M1 =>
    if ¬ v2 = 0 then
      f272_20 z z x1 (-1 : Int32) (201 : Int32) (0 : Int32) M1
    else
      some (some (.inl (-2 : Int32)), M1)
set_option maxRecDepth 100000 in
set_option maxHeartbeats 4000000 in
theorem e272 (z : Nat) : ∀ (x1 : Int32) (M : aM) (r : aR), f272 z x1 M = some r → am_Ev 12 272 0 [some (.inr (.inr (11, 205))), some (.inl x1), none, none, none, none] [] M r := by
  intro x1 M r h
  exact am_Ev_seg (sem := am_s272_ z) (cut := ([(20, [true, true, true, true, true, false])] : List (Nat × List Bool))) (hs272 z) am_r272 am_k272 (by rw [am_l272]; decide) (am_kc 20 (fun al st M => match al, st with
      | [some (.inr (.inr (11, 205))), some (.inl x1), some (.inl x2), some (.inl x3), some (.inl x4), none], [] => f272_20 z z x1 x2 x3 x4 M
      | _, _ => none) am_k0) 12 h (am_kc_ok (fun al st M hk => by
      split at hk
      · exact e272_20 z _ _ _ _ _ _ _ hk
      · cases hk) am_k0_ok)
def F272 (z : Nat) (as : List aV) (M : aM) : Option aR := match as with
  | [.inr (.inr (11, 205)), .inl x1] => f272 z x1 M
  | _ => none
theorem S272 (z : Nat) : am_Snd 12 272 (F272 z) := am_meth (by decide +kernel) (fun as M r has h => by
    rw [am_l272]
    unfold F272 at h
    split at h
    · exact ⟨Nat.le_of_ble_eq_true rfl, e272 z _ _ _ h⟩
    · cases h)
def cd273_0 : List am_E := [(0, .iconst 0, 1, 0, 0, 0, 0), (1, .istore_n 3, 1, 3, 0, 0, 0), (2, .iload_n 3, 1, 3, 0, 0, 0), (3, .bipush 60, 2, 0, 0, 60, 0), (5, .if_icmp .gt 46, 3, 51, 0, 0, 0), (8, .aload_n 0, 1, 0, 0, 0, 0), (9, .getfield 34, 3, 11, 15, 0, 0), (12, .iload_n 1, 1, 1, 0, 0, 0), (13, .aload_n 0, 1, 0, 0, 0, 0), (14, .getfield 9, 3, 11, 1, 0, 0), (17, .bipush 8, 2, 0, 0, 8, 0), (19, .iconst 3, 1, 0, 0, 3, 0), (20, .iload_n 1, 1, 1, 0, 0, 0), (21, .imul, 1, 0, 0, 0, 0), (22, .iadd, 1, 0, 0, 0, 0), (23, .iconst 2, 1, 0, 0, 2, 0), (24, .iadd, 1, 0, 0, 0, 0), (25, .iaload, 1, 0, 0, 0, 0), (26, .iload_n 3, 1, 3, 0, 0, 0), (27, .iadd, 1, 0, 0, 0, 0), (28, .iastore, 1, 0, 0, 0, 0), (29, .aload_n 0, 1, 0, 0, 0, 0), (30, .invokevirtual 332, 3, 224, 11004, 0, 0), (33, .aload_n 0, 1, 0, 0, 0, 0), (34, .invokevirtual 397, 3, 232, 11000, 0, 0), (37, .iload_n 2, 1, 2, 0, 0, 0), (38, .iand, 1, 0, 0, 0, 0), (39, .iload_n 2, 1, 2, 0, 0, 0), (40, .if_icmp .ne 5, 3, 45, 0, 0, 0), (43, .iload_n 3, 1, 3, 0, 0, 0), (44, .ireturn, 1, 0, 0, 0, 0), (45, .iinc 3 1, 3, 3, 0, 1, 0), (48, .goto (-46), 3, 2, 0, 0, 0), (51, .bipush 61, 2, 0, 0, 61, 0), (53, .ireturn, 1, 0, 0, 0, 0)]
def cd273 : List am_E := cd273_0
def am_w273 : List (List (Int32 × Nat) × Nat) := []
set_option maxRecDepth 100000 in
theorem kcd273_0 : cd273_0.all (am_chk am_w273 273) = true := by decide +kernel
theorem am_k273 : cd273.all (am_chk am_w273 273) = true := by
  simp only [cd273, List.all_append, kcd273_0, Bool.and_self]
theorem am_r273 : am_rtc 273 = 0 := by decide +kernel
theorem am_l273 : am_ml 273 = 4 := by decide +kernel
def am_s273_ (z : Nat) : Nat → List aV → aM → Option aR := (am_sm 224 (F224 z) (am_sm 232 (F232 z) am_s0))
theorem hs273 (z : Nat) : ∀ j2 : Nat, ∃ d2 : Nat, d2 + 1 ≤ 10 ∧ am_Snd d2 j2 (am_s273_ z j2) := (am_sm_ok (S224 z) (by decide) (am_sm_ok (S232 z) (by decide) (am_s0_ok (by decide))))
def f273_2 (z : Nat) : Nat → Int32 → Int32 → Int32 → aM → Option aR
  | 0, _, _, _, _ => none
  | n + 1, x1, x2, x3, M =>
    if (60 : Int32) < x3 then
      some (some (.inl (61 : Int32)), M)
    else
      if am_inB (((8 : Int32) + ((3 : Int32) * x1)) + (2 : Int32)) 116 then
        if am_inB x1 16 then
          let I1 := am_u M.1 212 x1.toNatClampNeg ((M.1 206 (((8 : Int32) + ((3 : Int32) * x1)) + (2 : Int32)).toNatClampNeg) + x3)
          am_bv (f224 z (I1, M.2)) fun M2 =>
            am_bi (f232 z M2) fun v4 M3 =>
              if ¬ (v4 &&& x2) = x2 then
                f273_2 z n x1 x2 (x3 + (1 : Int32)) M3
              else
                some (some (.inl x3), M3)
        else
          none
      else
        none
set_option maxRecDepth 100000 in
set_option maxHeartbeats 4000000 in
theorem e273_2 (z : Nat) : ∀ (n : Nat) (x1 : Int32) (x2 : Int32) (x3 : Int32) (M : aM) (r : aR), f273_2 z n x1 x2 x3 M = some r → am_Ev 10 273 2 [some (.inr (.inr (11, 205))), some (.inl x1), some (.inl x2), some (.inl x3)] [] M r := by
  intro n
  induction n with
  | zero =>
    intro x1 x2 x3 M r h
    cases h
  | succ n ih =>
    intro x1 x2 x3 M r h
    exact am_Ev_seg (sem := am_s273_ z) (cut := ([(2, [true, true, true, true])] : List (Nat × List Bool))) (hs273 z) am_r273 am_k273 (by rw [am_l273]; decide) (am_kc 2 (fun al st M => match al, st with
      | [some (.inr (.inr (11, 205))), some (.inl x1), some (.inl x2), some (.inl x3)], [] => f273_2 z n x1 x2 x3 M
      | _, _ => none) am_k0) 31 h (am_kc_ok (fun al st M hk => by
      split at hk
      · exact ih _ _ _ _ _ hk
      · cases hk) am_k0_ok)
/-- ArgumentMenderModel.wordOf(II)I -/
def f273 (z : Nat) (x1 : Int32) (x2 : Int32) (M : aM) : Option aR :=
  f273_2 z z x1 x2 (0 : Int32) M
set_option maxRecDepth 100000 in
set_option maxHeartbeats 4000000 in
theorem e273 (z : Nat) : ∀ (x1 : Int32) (x2 : Int32) (M : aM) (r : aR), f273 z x1 x2 M = some r → am_Ev 10 273 0 [some (.inr (.inr (11, 205))), some (.inl x1), some (.inl x2), none] [] M r := by
  intro x1 x2 M r h
  exact am_Ev_seg (sem := am_s273_ z) (cut := ([(2, [true, true, true, true])] : List (Nat × List Bool))) (hs273 z) am_r273 am_k273 (by rw [am_l273]; decide) (am_kc 2 (fun al st M => match al, st with
      | [some (.inr (.inr (11, 205))), some (.inl x1), some (.inl x2), some (.inl x3)], [] => f273_2 z z x1 x2 x3 M
      | _, _ => none) am_k0) 4 h (am_kc_ok (fun al st M hk => by
      split at hk
      · exact e273_2 z _ _ _ _ _ _ hk
      · cases hk) am_k0_ok)
def F273 (z : Nat) (as : List aV) (M : aM) : Option aR := match as with
  | [.inr (.inr (11, 205)), .inl x1, .inl x2] => f273 z x1 x2 M
  | _ => none
theorem S273 (z : Nat) : am_Snd 10 273 (F273 z) := am_meth (by decide +kernel) (fun as M r has h => by
    rw [am_l273]
    unfold F273 at h
    split at h
    · exact ⟨Nat.le_of_ble_eq_true rfl, e273 z _ _ _ _ h⟩
    · cases h)
def cd274_0 : List am_E := [(0, .aload_n 0, 1, 0, 0, 0, 0), (1, .invokevirtual 329, 3, 211, 11004, 0, 0), (4, .aload_n 0, 1, 0, 0, 0, 0), (5, .iload_n 1, 1, 1, 0, 0, 0), (6, .i2l, 1, 0, 0, 0, 0), (7, .invokevirtual 241, 3, 183, 11010, 0, 0), (10, .ifCond .eq 27, 3, 37, 0, 0, 0), (13, .aload_n 0, 1, 0, 0, 0, 0), (14, .iload_n 2, 1, 2, 0, 0, 0), (15, .invokevirtual 255, 3, 182, 11010, 0, 0), (18, .ifCond .eq 19, 3, 37, 0, 0, 0), (21, .aload_n 0, 1, 0, 0, 0, 0), (22, .iload_n 1, 1, 1, 0, 0, 0), (23, .iconst 1, 1, 0, 0, 1, 0), (24, .iload_n 2, 1, 2, 0, 0, 0), (25, .ishl, 1, 0, 0, 0, 0), (26, .invokevirtual 400, 3, 273, 11020, 0, 0), (29, .bipush 60, 2, 0, 0, 60, 0), (31, .invokestatic 394, 3, 269, 25, 0, 0), (34, .goto 5, 3, 39, 0, 0, 0), (37, .bipush (-2), 2, 0, 0, (-2), 0), (39, .ireturn, 1, 0, 0, 0, 0)]
def cd274 : List am_E := cd274_0
def am_w274 : List (List (Int32 × Nat) × Nat) := []
set_option maxRecDepth 100000 in
theorem kcd274_0 : cd274_0.all (am_chk am_w274 274) = true := by decide +kernel
theorem am_k274 : cd274.all (am_chk am_w274 274) = true := by
  simp only [cd274, List.all_append, kcd274_0, Bool.and_self]
theorem am_r274 : am_rtc 274 = 0 := by decide +kernel
theorem am_l274 : am_ml 274 = 3 := by decide +kernel
def am_s274_ (z : Nat) : Nat → List aV → aM → Option aR := (am_sm 182 (F182 z) (am_sm 183 (F183 z) (am_sm 211 (F211 z) (am_sm 269 (F269 z) (am_sm 273 (F273 z) am_s0)))))
theorem hs274 (z : Nat) : ∀ j2 : Nat, ∃ d2 : Nat, d2 + 1 ≤ 11 ∧ am_Snd d2 j2 (am_s274_ z j2) := (am_sm_ok (S182 z) (by decide) (am_sm_ok (S183 z) (by decide) (am_sm_ok (S211 z) (by decide) (am_sm_ok (S269 z) (by decide) (am_sm_ok (S273 z) (by decide) (am_s0_ok (by decide)))))))
/-- ArgumentMenderModel.word(II)I -/
def f274 (z : Nat) (x1 : Int32) (x2 : Int32) (M : aM) : Option aR :=
  am_bv (f211 z M) fun M1 =>
    am_bi (f183 z (Int32.toInt64 x1) M1) fun v3 M2 =>
      if v3 = 0 then
        some (some (.inl (-2 : Int32)), M2)
      else
        am_bi (f182 z x2 M2) fun v5 M4 =>
          if v5 = 0 then
            some (some (.inl (-2 : Int32)), M4)
          else
            am_bi (f273 z x1 ((1 : Int32) <<< (x2 &&& 31)) M4) fun v7 M6 =>
              am_bi (f269 z v7 (60 : Int32) M6) fun v9 M8 =>
                some (some (.inl v9), M8)
set_option maxRecDepth 100000 in
set_option maxHeartbeats 4000000 in
theorem e274 (z : Nat) : ∀ (x1 : Int32) (x2 : Int32) (M : aM) (r : aR), f274 z x1 x2 M = some r → am_Ev 11 274 0 [some (.inr (.inr (11, 205))), some (.inl x1), some (.inl x2)] [] M r := by
  intro x1 x2 M r h
  exact am_Ev_seg (sem := am_s274_ z) (cut := ([] : List (Nat × List Bool))) (hs274 z) am_r274 am_k274 (by rw [am_l274]; decide) am_k0 22 h am_k0_ok
def F274 (z : Nat) (as : List aV) (M : aM) : Option aR := match as with
  | [.inr (.inr (11, 205)), .inl x1, .inl x2] => f274 z x1 x2 M
  | _ => none
theorem S274 (z : Nat) : am_Snd 11 274 (F274 z) := am_meth (by decide +kernel) (fun as M r has h => by
    rw [am_l274]
    unfold F274 at h
    split at h
    · exact ⟨Nat.le_of_ble_eq_true rfl, e274 z _ _ _ _ h⟩
    · cases h)
def cd275_0 : List am_E := [(0, .aload_n 0, 1, 0, 0, 0, 0), (1, .iload_n 1, 1, 1, 0, 0, 0), (2, .invokevirtual 255, 3, 182, 11010, 0, 0), (5, .ifCond .ne 6, 3, 11, 0, 0, 0), (8, .bipush (-2), 2, 0, 0, (-2), 0), (10, .ireturn, 1, 0, 0, 0, 0), (11, .iconst (-1), 1, 0, 0, (-1), 0), (12, .istore_n 2, 1, 2, 0, 0, 0), (13, .bipush 61, 2, 0, 0, 61, 0), (15, .istore_n 3, 1, 3, 0, 0, 0), (16, .iconst 0, 1, 0, 0, 0, 0), (17, .istore 4, 2, 4, 0, 0, 0), (19, .iload 4, 2, 4, 0, 0, 0), (21, .aload_n 0, 1, 0, 0, 0, 0), (22, .invokevirtual 118, 3, 178, 11000, 0, 0), (25, .if_icmp .ge 39, 3, 64, 0, 0, 0), (28, .aload_n 0, 1, 0, 0, 0, 0), (29, .invokevirtual 329, 3, 211, 11004, 0, 0), (32, .aload_n 0, 1, 0, 0, 0, 0), (33, .iload 4, 2, 4, 0, 0, 0), (35, .iconst 1, 1, 0, 0, 1, 0), (36, .iload_n 1, 1, 1, 0, 0, 0), (37, .ishl, 1, 0, 0, 0, 0), (38, .invokevirtual 400, 3, 273, 11020, 0, 0), (41, .istore 5, 2, 5, 0, 0, 0), (43, .iload 5, 2, 5, 0, 0, 0), (45, .iload_n 3, 1, 3, 0, 0, 0), (46, .if_icmp .lt 6, 3, 52, 0, 0, 0), (49, .goto 9, 3, 58, 0, 0, 0), (52, .iload 5, 2, 5, 0, 0, 0), (54, .istore_n 3, 1, 3, 0, 0, 0), (55, .iload 4, 2, 4, 0, 0, 0), (57, .istore_n 2, 1, 2, 0, 0, 0), (58, .iinc 4 1, 3, 4, 0, 1, 0), (61, .goto (-42), 3, 19, 0, 0, 0), (64, .iload_n 2, 1, 2, 0, 0, 0), (65, .ireturn, 1, 0, 0, 0, 0)]
def cd275 : List am_E := cd275_0
def am_w275 : List (List (Int32 × Nat) × Nat) := []
set_option maxRecDepth 100000 in
theorem kcd275_0 : cd275_0.all (am_chk am_w275 275) = true := by decide +kernel
theorem am_k275 : cd275.all (am_chk am_w275 275) = true := by
  simp only [cd275, List.all_append, kcd275_0, Bool.and_self]
theorem am_r275 : am_rtc 275 = 0 := by decide +kernel
theorem am_l275 : am_ml 275 = 6 := by decide +kernel
def am_s275_ (z : Nat) : Nat → List aV → aM → Option aR := (am_sm 178 (F178 z) (am_sm 182 (F182 z) (am_sm 211 (F211 z) (am_sm 273 (F273 z) am_s0))))
theorem hs275 (z : Nat) : ∀ j2 : Nat, ∃ d2 : Nat, d2 + 1 ≤ 11 ∧ am_Snd d2 j2 (am_s275_ z j2) := (am_sm_ok (S178 z) (by decide) (am_sm_ok (S182 z) (by decide) (am_sm_ok (S211 z) (by decide) (am_sm_ok (S273 z) (by decide) (am_s0_ok (by decide))))))
def f275_19 (z : Nat) : Nat → Int32 → Int32 → Int32 → Int32 → aM → Option aR
  | 0, _, _, _, _, _ => none
  | n + 1, x1, x2, x3, x4, M =>
    am_bi (f178 z M) fun v2 M1 =>
      if v2 ≤ x4 then
        some (some (.inl x2), M1)
      else
        am_bv (f211 z M1) fun M3 =>
          am_bi (f273 z x4 ((1 : Int32) <<< (x1 &&& 31)) M3) fun v5 M4 =>
            if v5 < x3 then
              f275_19 z n x1 x4 v5 (x4 + (1 : Int32)) M4
            else
              f275_19 z n x1 x2 x3 (x4 + (1 : Int32)) M4
set_option maxRecDepth 100000 in
set_option maxHeartbeats 4000000 in
theorem e275_19 (z : Nat) : ∀ (n : Nat) (x1 : Int32) (x2 : Int32) (x3 : Int32) (x4 : Int32) (M : aM) (r : aR), f275_19 z n x1 x2 x3 x4 M = some r → am_Ev 11 275 19 [some (.inr (.inr (11, 205))), some (.inl x1), some (.inl x2), some (.inl x3), some (.inl x4), none] [] M r := by
  intro n
  induction n with
  | zero =>
    intro x1 x2 x3 x4 M r h
    cases h
  | succ n ih =>
    intro x1 x2 x3 x4 M r h
    exact am_Ev_seg (sem := am_s275_ z) (cut := ([(19, [true, true, true, true, true, false])] : List (Nat × List Bool))) (hs275 z) am_r275 am_k275 (by rw [am_l275]; decide) (am_kc 19 (fun al st M => match al, st with
      | [some (.inr (.inr (11, 205))), some (.inl x1), some (.inl x2), some (.inl x3), some (.inl x4), none], [] => f275_19 z n x1 x2 x3 x4 M
      | _, _ => none) am_k0) 24 h (am_kc_ok (fun al st M hk => by
      split at hk
      · exact ih _ _ _ _ _ _ hk
      · cases hk) am_k0_ok)
/-- ArgumentMenderModel.darn(I)I -/
def f275 (z : Nat) (x1 : Int32) (M : aM) : Option aR :=
  am_bi (f182 z x1 M) fun v2 M1 =>
    if ¬ v2 = 0 then
      f275_19 z z x1 (-1 : Int32) (61 : Int32) (0 : Int32) M1
    else
      some (some (.inl (-2 : Int32)), M1)
set_option maxRecDepth 100000 in
set_option maxHeartbeats 4000000 in
theorem e275 (z : Nat) : ∀ (x1 : Int32) (M : aM) (r : aR), f275 z x1 M = some r → am_Ev 11 275 0 [some (.inr (.inr (11, 205))), some (.inl x1), none, none, none, none] [] M r := by
  intro x1 M r h
  exact am_Ev_seg (sem := am_s275_ z) (cut := ([(19, [true, true, true, true, true, false])] : List (Nat × List Bool))) (hs275 z) am_r275 am_k275 (by rw [am_l275]; decide) (am_kc 19 (fun al st M => match al, st with
      | [some (.inr (.inr (11, 205))), some (.inl x1), some (.inl x2), some (.inl x3), some (.inl x4), none], [] => f275_19 z z x1 x2 x3 x4 M
      | _, _ => none) am_k0) 12 h (am_kc_ok (fun al st M hk => by
      split at hk
      · exact e275_19 z _ _ _ _ _ _ _ hk
      · cases hk) am_k0_ok)
def F275 (z : Nat) (as : List aV) (M : aM) : Option aR := match as with
  | [.inr (.inr (11, 205)), .inl x1] => f275 z x1 M
  | _ => none
theorem S275 (z : Nat) : am_Snd 11 275 (F275 z) := am_meth (by decide +kernel) (fun as M r has h => by
    rw [am_l275]
    unfold F275 at h
    split at h
    · exact ⟨Nat.le_of_ble_eq_true rfl, e275 z _ _ _ h⟩
    · cases h)
def cd276_0 : List am_E := [(0, .aload_n 0, 1, 0, 0, 0, 0), (1, .invokevirtual 329, 3, 211, 11004, 0, 0), (4, .aload_n 0, 1, 0, 0, 0, 0), (5, .iload_n 1, 1, 1, 0, 0, 0), (6, .i2l, 1, 0, 0, 0, 0), (7, .invokevirtual 241, 3, 183, 11010, 0, 0), (10, .ifCond .eq 20, 3, 30, 0, 0, 0), (13, .aload_n 0, 1, 0, 0, 0, 0), (14, .iload_n 1, 1, 1, 0, 0, 0), (15, .aload_n 0, 1, 0, 0, 0, 0), (16, .invokevirtual 362, 3, 233, 11000, 0, 0), (19, .invokevirtual 400, 3, 273, 11020, 0, 0), (22, .bipush 60, 2, 0, 0, 60, 0), (24, .invokestatic 394, 3, 269, 25, 0, 0), (27, .goto 5, 3, 32, 0, 0, 0), (30, .bipush (-2), 2, 0, 0, (-2), 0), (32, .ireturn, 1, 0, 0, 0, 0)]
def cd276 : List am_E := cd276_0
def am_w276 : List (List (Int32 × Nat) × Nat) := []
set_option maxRecDepth 100000 in
theorem kcd276_0 : cd276_0.all (am_chk am_w276 276) = true := by decide +kernel
theorem am_k276 : cd276.all (am_chk am_w276 276) = true := by
  simp only [cd276, List.all_append, kcd276_0, Bool.and_self]
theorem am_r276 : am_rtc 276 = 0 := by decide +kernel
theorem am_l276 : am_ml 276 = 2 := by decide +kernel
def am_s276_ (z : Nat) : Nat → List aV → aM → Option aR := (am_sm 183 (F183 z) (am_sm 211 (F211 z) (am_sm 233 (F233 z) (am_sm 269 (F269 z) (am_sm 273 (F273 z) am_s0)))))
theorem hs276 (z : Nat) : ∀ j2 : Nat, ∃ d2 : Nat, d2 + 1 ≤ 11 ∧ am_Snd d2 j2 (am_s276_ z j2) := (am_sm_ok (S183 z) (by decide) (am_sm_ok (S211 z) (by decide) (am_sm_ok (S233 z) (by decide) (am_sm_ok (S269 z) (by decide) (am_sm_ok (S273 z) (by decide) (am_s0_ok (by decide)))))))
/-- ArgumentMenderModel.mend(I)I -/
def f276 (z : Nat) (x1 : Int32) (M : aM) : Option aR :=
  am_bv (f211 z M) fun M1 =>
    am_bi (f183 z (Int32.toInt64 x1) M1) fun v3 M2 =>
      if v3 = 0 then
        some (some (.inl (-2 : Int32)), M2)
      else
        am_bi (f233 z M2) fun v5 M4 =>
          am_bi (f273 z x1 v5 M4) fun v7 M6 =>
            am_bi (f269 z v7 (60 : Int32) M6) fun v9 M8 =>
              some (some (.inl v9), M8)
set_option maxRecDepth 100000 in
set_option maxHeartbeats 4000000 in
theorem e276 (z : Nat) : ∀ (x1 : Int32) (M : aM) (r : aR), f276 z x1 M = some r → am_Ev 11 276 0 [some (.inr (.inr (11, 205))), some (.inl x1)] [] M r := by
  intro x1 M r h
  exact am_Ev_seg (sem := am_s276_ z) (cut := ([] : List (Nat × List Bool))) (hs276 z) am_r276 am_k276 (by rw [am_l276]; decide) am_k0 17 h am_k0_ok
def F276 (z : Nat) (as : List aV) (M : aM) : Option aR := match as with
  | [.inr (.inr (11, 205)), .inl x1] => f276 z x1 M
  | _ => none
theorem S276 (z : Nat) : am_Snd 11 276 (F276 z) := am_meth (by decide +kernel) (fun as M r has h => by
    rw [am_l276]
    unfold F276 at h
    split at h
    · exact ⟨Nat.le_of_ble_eq_true rfl, e276 z _ _ _ h⟩
    · cases h)
def cd277_0 : List am_E := [(0, .iconst 0, 1, 0, 0, 0, 0), (1, .istore_n 3, 1, 3, 0, 0, 0), (2, .iload_n 3, 1, 3, 0, 0, 0), (3, .bipush 8, 2, 0, 0, 8, 0), (5, .if_icmp .gt 16, 3, 21, 0, 0, 0), (8, .aload_n 0, 1, 0, 0, 0, 0), (9, .getfield 73, 3, 11, 35, 0, 0), (12, .iload_n 3, 1, 3, 0, 0, 0), (13, .iconst (-1), 1, 0, 0, (-1), 0), (14, .iastore, 1, 0, 0, 0, 0), (15, .iinc 3 1, 3, 3, 0, 1, 0), (18, .goto (-16), 3, 2, 0, 0, 0), (21, .aload_n 0, 1, 0, 0, 0, 0), (22, .getfield 73, 3, 11, 35, 0, 0), (25, .iload_n 1, 1, 1, 0, 0, 0), (26, .bipush 16, 2, 0, 0, 16, 0), (28, .iastore, 1, 0, 0, 0, 0), (29, .iconst 1, 1, 0, 0, 1, 0), (30, .istore_n 3, 1, 3, 0, 0, 0), (31, .iload_n 3, 1, 3, 0, 0, 0), (32, .ifCond .eq 171, 3, 203, 0, 0, 0), (35, .aload_n 0, 1, 0, 0, 0, 0), (36, .getfield 73, 3, 11, 35, 0, 0), (39, .bipush 8, 2, 0, 0, 8, 0), (41, .iaload, 1, 0, 0, 0, 0), (42, .iconst (-1), 1, 0, 0, (-1), 0), (43, .if_icmp .ne 160, 3, 203, 0, 0, 0), (46, .iconst 0, 1, 0, 0, 0, 0), (47, .istore_n 3, 1, 3, 0, 0, 0), (48, .iconst 0, 1, 0, 0, 0, 0), (49, .istore 4, 2, 4, 0, 0, 0), (51, .iload 4, 2, 4, 0, 0, 0), (53, .aload_n 0, 1, 0, 0, 0, 0), (54, .invokevirtual 118, 3, 178, 11000, 0, 0), (57, .if_icmp .ge 143, 3, 200, 0, 0, 0), (60, .iload_n 2, 1, 2, 0, 0, 0), (61, .iload 4, 2, 4, 0, 0, 0), (63, .invokestatic 300, 3, 172, 25, 0, 0), (66, .ifCond .ne 6, 3, 72, 0, 0, 0), (69, .goto 125, 3, 194, 0, 0, 0)]
def cd277_1 : List am_E := [(72, .aload_n 0, 1, 0, 0, 0, 0), (73, .iload 4, 2, 4, 0, 0, 0), (75, .invokevirtual 291, 3, 186, 11010, 0, 0), (78, .iconst (-1), 1, 0, 0, (-1), 0), (79, .if_icmp .ne 8, 3, 87, 0, 0, 0), (82, .bipush 8, 2, 0, 0, 8, 0), (84, .goto 9, 3, 93, 0, 0, 0), (87, .aload_n 0, 1, 0, 0, 0, 0), (88, .iload 4, 2, 4, 0, 0, 0), (90, .invokevirtual 291, 3, 186, 11010, 0, 0), (93, .istore 5, 2, 5, 0, 0, 0), (95, .aload_n 0, 1, 0, 0, 0, 0), (96, .getfield 403, 3, 11, 36, 0, 0), (99, .iload 4, 2, 4, 0, 0, 0), (101, .invokestatic 300, 3, 172, 25, 0, 0), (104, .iconst 1, 1, 0, 0, 1, 0), (105, .if_icmp .ne 7, 3, 112, 0, 0, 0), (108, .iconst 1, 1, 0, 0, 1, 0), (109, .goto 4, 3, 113, 0, 0, 0), (112, .iconst 0, 1, 0, 0, 0, 0), (113, .istore 6, 2, 6, 0, 0, 0), (115, .iload 6, 2, 6, 0, 0, 0), (117, .ifCond .eq 8, 3, 125, 0, 0, 0), (120, .iload 5, 2, 5, 0, 0, 0), (122, .goto 9, 3, 131, 0, 0, 0), (125, .aload_n 0, 1, 0, 0, 0, 0), (126, .iload 4, 2, 4, 0, 0, 0), (128, .invokevirtual 252, 3, 185, 11010, 0, 0), (131, .istore 7, 2, 7, 0, 0, 0), (133, .iload 6, 2, 6, 0, 0, 0), (135, .ifCond .eq 12, 3, 147, 0, 0, 0), (138, .aload_n 0, 1, 0, 0, 0, 0), (139, .iload 4, 2, 4, 0, 0, 0), (141, .invokevirtual 252, 3, 185, 11010, 0, 0), (144, .goto 5, 3, 149, 0, 0, 0), (147, .iload 5, 2, 5, 0, 0, 0), (149, .istore 8, 2, 8, 0, 0, 0), (151, .aload_n 0, 1, 0, 0, 0, 0), (152, .getfield 73, 3, 11, 35, 0, 0), (155, .iload 7, 2, 7, 0, 0, 0)]
def cd277_2 : List am_E := [(157, .iaload, 1, 0, 0, 0, 0), (158, .iconst (-1), 1, 0, 0, (-1), 0), (159, .if_icmp .eq 35, 3, 194, 0, 0, 0), (162, .aload_n 0, 1, 0, 0, 0, 0), (163, .getfield 73, 3, 11, 35, 0, 0), (166, .iload 8, 2, 8, 0, 0, 0), (168, .iaload, 1, 0, 0, 0, 0), (169, .iconst (-1), 1, 0, 0, (-1), 0), (170, .if_icmp .ne 24, 3, 194, 0, 0, 0), (173, .iload 7, 2, 7, 0, 0, 0), (175, .bipush 8, 2, 0, 0, 8, 0), (177, .if_icmp .ne 6, 3, 183, 0, 0, 0), (180, .goto 14, 3, 194, 0, 0, 0), (183, .aload_n 0, 1, 0, 0, 0, 0), (184, .getfield 73, 3, 11, 35, 0, 0), (187, .iload 8, 2, 8, 0, 0, 0), (189, .iload 4, 2, 4, 0, 0, 0), (191, .iastore, 1, 0, 0, 0, 0), (192, .iconst 1, 1, 0, 0, 1, 0), (193, .istore_n 3, 1, 3, 0, 0, 0), (194, .iinc 4 1, 3, 4, 0, 1, 0), (197, .goto (-146), 3, 51, 0, 0, 0), (200, .goto (-169), 3, 31, 0, 0, 0), (203, .aload_n 0, 1, 0, 0, 0, 0), (204, .getfield 73, 3, 11, 35, 0, 0), (207, .bipush 8, 2, 0, 0, 8, 0), (209, .iaload, 1, 0, 0, 0, 0), (210, .iconst (-1), 1, 0, 0, (-1), 0), (211, .if_icmp .ne 5, 3, 216, 0, 0, 0), (214, .iconst 0, 1, 0, 0, 0, 0), (215, .ireturn, 1, 0, 0, 0, 0), (216, .bipush 8, 2, 0, 0, 8, 0), (218, .istore 4, 2, 4, 0, 0, 0), (220, .iload 4, 2, 4, 0, 0, 0), (222, .iload_n 1, 1, 1, 0, 0, 0), (223, .if_icmp .eq 71, 3, 294, 0, 0, 0), (226, .aload_n 0, 1, 0, 0, 0, 0), (227, .getfield 73, 3, 11, 35, 0, 0), (230, .iload 4, 2, 4, 0, 0, 0), (232, .iaload, 1, 0, 0, 0, 0)]
def cd277_3 : List am_E := [(233, .istore 5, 2, 5, 0, 0, 0), (235, .aload_n 0, 1, 0, 0, 0, 0), (236, .iload 5, 2, 5, 0, 0, 0), (238, .invokevirtual 291, 3, 186, 11010, 0, 0), (241, .iconst (-1), 1, 0, 0, (-1), 0), (242, .if_icmp .ne 8, 3, 250, 0, 0, 0), (245, .bipush 8, 2, 0, 0, 8, 0), (247, .goto 9, 3, 256, 0, 0, 0), (250, .aload_n 0, 1, 0, 0, 0, 0), (251, .iload 5, 2, 5, 0, 0, 0), (253, .invokevirtual 291, 3, 186, 11010, 0, 0), (256, .istore 6, 2, 6, 0, 0, 0), (258, .aload_n 0, 1, 0, 0, 0, 0), (259, .dup, 1, 0, 0, 0, 0), (260, .getfield 403, 3, 11, 36, 0, 0), (263, .iconst 1, 1, 0, 0, 1, 0), (264, .iload 5, 2, 5, 0, 0, 0), (266, .ishl, 1, 0, 0, 0, 0), (267, .ixor, 1, 0, 0, 0, 0), (268, .putfield 403, 3, 11, 36, 0, 0), (271, .iload 4, 2, 4, 0, 0, 0), (273, .iload 6, 2, 6, 0, 0, 0), (275, .if_icmp .ne 12, 3, 287, 0, 0, 0), (278, .aload_n 0, 1, 0, 0, 0, 0), (279, .iload 5, 2, 5, 0, 0, 0), (281, .invokevirtual 252, 3, 185, 11010, 0, 0), (284, .goto 5, 3, 289, 0, 0, 0), (287, .iload 6, 2, 6, 0, 0, 0), (289, .istore 4, 2, 4, 0, 0, 0), (291, .goto (-71), 3, 220, 0, 0, 0), (294, .iconst 1, 1, 0, 0, 1, 0), (295, .ireturn, 1, 0, 0, 0, 0)]
def cd277 : List am_E := cd277_0 ++ (cd277_1 ++ (cd277_2 ++ (cd277_3)))
def am_w277 : List (List (Int32 × Nat) × Nat) := []
set_option maxRecDepth 100000 in
theorem kcd277_0 : cd277_0.all (am_chk am_w277 277) = true := by decide +kernel
set_option maxRecDepth 100000 in
theorem kcd277_1 : cd277_1.all (am_chk am_w277 277) = true := by decide +kernel
set_option maxRecDepth 100000 in
theorem kcd277_2 : cd277_2.all (am_chk am_w277 277) = true := by decide +kernel
set_option maxRecDepth 100000 in
theorem kcd277_3 : cd277_3.all (am_chk am_w277 277) = true := by decide +kernel
theorem am_k277 : cd277.all (am_chk am_w277 277) = true := by
  simp only [cd277, List.all_append, kcd277_0, kcd277_1, kcd277_2, kcd277_3, Bool.and_self]
theorem am_r277 : am_rtc 277 = 1 := by decide +kernel
theorem am_l277 : am_ml 277 = 9 := by decide +kernel
def am_s277_ (z : Nat) : Nat → List aV → aM → Option aR := (am_sm 172 (F172 z) (am_sm 178 (F178 z) (am_sm 185 (F185 z) (am_sm 186 (F186 z) am_s0))))
theorem hs277 (z : Nat) : ∀ j2 : Nat, ∃ d2 : Nat, d2 + 1 ≤ 2 ∧ am_Snd d2 j2 (am_s277_ z j2) := (am_sm_ok (S172 z) (by decide) (am_sm_ok (S178 z) (by decide) (am_sm_ok (S185 z) (by decide) (am_sm_ok (S186 z) (by decide) (am_s0_ok (by decide))))))
def f277_131 (z : Nat) (k31 : Int32 → Int32 → Int32 → aM → Option aR) (k51 : Int32 → Int32 → Int32 → Int32 → aM → Option aR)  (x1 : Int32) (x2 : Int32) (x3 : Int32) (x4 : Int32) (x5 : Int32) (x6 : Int32) (xs0 : Int32) (M : aM) : Option aR :=
  if x6 = 0 then
    if am_inB xs0 9 then
      if (M.1 225 xs0.toNatClampNeg) = (-1 : Int32) then
        k51 x1 x2 x3 (x4 + (1 : Int32)) M
      else
        if am_inB x5 9 then
          if ¬ (M.1 225 x5.toNatClampNeg) = (-1 : Int32) then
            k51 x1 x2 x3 (x4 + (1 : Int32)) M
          else
            if ¬ xs0 = (8 : Int32) then
              if am_inB x5 9 then
                let I1 := am_u M.1 225 x5.toNatClampNeg x4
                k51 x1 x2 (1 : Int32) (x4 + (1 : Int32)) (I1, M.2)
              else
                none
            else
              k51 x1 x2 x3 (x4 + (1 : Int32)) M
        else
          none
    else
      none
  else
    am_bi (f185 z x4 M) fun v3 M2 =>
      if am_inB xs0 9 then
        if (M2.1 225 xs0.toNatClampNeg) = (-1 : Int32) then
          k51 x1 x2 x3 (x4 + (1 : Int32)) M2
        else
          if am_inB v3 9 then
            if ¬ (M2.1 225 v3.toNatClampNeg) = (-1 : Int32) then
              k51 x1 x2 x3 (x4 + (1 : Int32)) M2
            else
              if ¬ xs0 = (8 : Int32) then
                if am_inB v3 9 then
                  let I4 := am_u M2.1 225 v3.toNatClampNeg x4
                  k51 x1 x2 (1 : Int32) (x4 + (1 : Int32)) (I4, M2.2)
                else
                  none
              else
                k51 x1 x2 x3 (x4 + (1 : Int32)) M2
          else
            none
      else
        none
set_option maxRecDepth 100000 in
set_option maxHeartbeats 4000000 in
theorem e277_131 (z : Nat) (k31 : Int32 → Int32 → Int32 → aM → Option aR) (hk31 : ∀ (x1 : Int32) (x2 : Int32) (x3 : Int32) (M : aM) (r : aR), k31 x1 x2 x3 M = some r → am_Ev 2 277 31 [some (.inr (.inr (11, 205))), some (.inl x1), some (.inl x2), some (.inl x3), none, none, none, none, none] [] M r) (k51 : Int32 → Int32 → Int32 → Int32 → aM → Option aR) (hk51 : ∀ (x1 : Int32) (x2 : Int32) (x3 : Int32) (x4 : Int32) (M : aM) (r : aR), k51 x1 x2 x3 x4 M = some r → am_Ev 2 277 51 [some (.inr (.inr (11, 205))), some (.inl x1), some (.inl x2), some (.inl x3), some (.inl x4), none, none, none, none] [] M r) : ∀ (x1 : Int32) (x2 : Int32) (x3 : Int32) (x4 : Int32) (x5 : Int32) (x6 : Int32) (xs0 : Int32) (M : aM) (r : aR), f277_131 z k31 k51 x1 x2 x3 x4 x5 x6 xs0 M = some r → am_Ev 2 277 131 [some (.inr (.inr (11, 205))), some (.inl x1), some (.inl x2), some (.inl x3), some (.inl x4), some (.inl x5), some (.inl x6), none, none] [.inl xs0] M r := by
  intro x1 x2 x3 x4 x5 x6 xs0 M r h
  exact am_Ev_seg (sem := am_s277_ z) (cut := ([(51, [true, true, true, true, true, false, false, false, false])] : List (Nat × List Bool))) (hs277 z) am_r277 am_k277 (by rw [am_l277]; decide) (am_kc 51 (fun al st M => match al, st with
      | [some (.inr (.inr (11, 205))), some (.inl x1), some (.inl x2), some (.inl x3), some (.inl x4), none, none, none, none], [] => k51 x1 x2 x3 x4 M
      | _, _ => none) am_k0) 34 h (am_kc_ok (fun al st M hk => by
      split at hk
      · exact hk51 _ _ _ _ _ _ hk
      · cases hk) am_k0_ok)
def f277_51 (z : Nat) (k31 : Int32 → Int32 → Int32 → aM → Option aR) : Nat → Int32 → Int32 → Int32 → Int32 → aM → Option aR
  | 0, _, _, _, _, _ => none
  | n + 1, x1, x2, x3, x4, M =>
    am_bi (f178 z M) fun v2 M1 =>
      if v2 ≤ x4 then
        k31 x1 x2 x3 M1
      else
        am_bi (f172 z x2 x4 M1) fun v4 M3 =>
          if ¬ v4 = 0 then
            am_bi (f186 z x4 M3) fun v6 M5 =>
              if ¬ v6 = (-1 : Int32) then
                am_bi (f186 z x4 M5) fun v8 M7 =>
                  am_bi (f172 z (M7.1 205 36) x4 M7) fun v10 M9 =>
                    if ¬ v10 = (1 : Int32) then
                      if (0 : Int32) = 0 then
                        am_bi (f185 z x4 M9) fun v12 M11 =>
                          f277_131 z k31 (f277_51 z k31 n) x1 x2 x3 x4 v8 (0 : Int32) v12 M11
                      else
                        f277_131 z k31 (f277_51 z k31 n) x1 x2 x3 x4 v8 (0 : Int32) v8 M9
                    else
                      if (1 : Int32) = 0 then
                        am_bi (f185 z x4 M9) fun v14 M13 =>
                          f277_131 z k31 (f277_51 z k31 n) x1 x2 x3 x4 v8 (1 : Int32) v14 M13
                      else
                        f277_131 z k31 (f277_51 z k31 n) x1 x2 x3 x4 v8 (1 : Int32) v8 M9
              else
                am_bi (f172 z (M5.1 205 36) x4 M5) fun v16 M15 =>
                  if ¬ v16 = (1 : Int32) then
                    if (0 : Int32) = 0 then
                      am_bi (f185 z x4 M15) fun v18 M17 =>
                        f277_131 z k31 (f277_51 z k31 n) x1 x2 x3 x4 (8 : Int32) (0 : Int32) v18 M17
                    else
                      f277_131 z k31 (f277_51 z k31 n) x1 x2 x3 x4 (8 : Int32) (0 : Int32) (8 : Int32) M15
                  else
                    if (1 : Int32) = 0 then
                      am_bi (f185 z x4 M15) fun v20 M19 =>
                        f277_131 z k31 (f277_51 z k31 n) x1 x2 x3 x4 (8 : Int32) (1 : Int32) v20 M19
                    else
                      f277_131 z k31 (f277_51 z k31 n) x1 x2 x3 x4 (8 : Int32) (1 : Int32) (8 : Int32) M15
          else
            f277_51 z k31 n x1 x2 x3 (x4 + (1 : Int32)) M3
set_option maxRecDepth 100000 in
set_option maxHeartbeats 4000000 in
theorem e277_51 (z : Nat) (k31 : Int32 → Int32 → Int32 → aM → Option aR) (hk31 : ∀ (x1 : Int32) (x2 : Int32) (x3 : Int32) (M : aM) (r : aR), k31 x1 x2 x3 M = some r → am_Ev 2 277 31 [some (.inr (.inr (11, 205))), some (.inl x1), some (.inl x2), some (.inl x3), none, none, none, none, none] [] M r) : ∀ (n : Nat) (x1 : Int32) (x2 : Int32) (x3 : Int32) (x4 : Int32) (M : aM) (r : aR), f277_51 z k31 n x1 x2 x3 x4 M = some r → am_Ev 2 277 51 [some (.inr (.inr (11, 205))), some (.inl x1), some (.inl x2), some (.inl x3), some (.inl x4), none, none, none, none] [] M r := by
  intro n
  induction n with
  | zero =>
    intro x1 x2 x3 x4 M r h
    cases h
  | succ n ih =>
    intro x1 x2 x3 x4 M r h
    exact am_Ev_seg (sem := am_s277_ z) (cut := ([(31, [true, true, true, true, false, false, false, false, false]), (51, [true, true, true, true, true, false, false, false, false]), (131, [true, true, true, true, true, true, true, false, false])] : List (Nat × List Bool))) (hs277 z) am_r277 am_k277 (by rw [am_l277]; decide) (am_kc 31 (fun al st M => match al, st with
      | [some (.inr (.inr (11, 205))), some (.inl x1), some (.inl x2), some (.inl x3), none, none, none, none, none], [] => k31 x1 x2 x3 M
      | _, _ => none) (am_kc 51 (fun al st M => match al, st with
      | [some (.inr (.inr (11, 205))), some (.inl x1), some (.inl x2), some (.inl x3), some (.inl x4), none, none, none, none], [] => f277_51 z k31 n x1 x2 x3 x4 M
      | _, _ => none) (am_kc 131 (fun al st M => match al, st with
      | [some (.inr (.inr (11, 205))), some (.inl x1), some (.inl x2), some (.inl x3), some (.inl x4), some (.inl x5), some (.inl x6), none, none], [.inl xs0] => f277_131 z k31 (f277_51 z k31 n) x1 x2 x3 x4 x5 x6 xs0 M
      | _, _ => none) am_k0))) 33 h (am_kc_ok (fun al st M hk => by
      split at hk
      · exact hk31 _ _ _ _ _ hk
      · cases hk) (am_kc_ok (fun al st M hk => by
      split at hk
      · exact ih _ _ _ _ _ _ hk
      · cases hk) (am_kc_ok (fun al st M hk => by
      split at hk
      · exact e277_131 z _ hk31 _ ih _ _ _ _ _ _ _ _ _ hk
      · cases hk) am_k0_ok)))
def f277_220 (z : Nat) : Nat → Int32 → Int32 → aM → Option aR
  | 0, _, _, _ => none
  | n + 1, x1, x4, M =>
    if x4 = x1 then
      some (some (.inl ((1 : Int32) &&& 1)), M)
    else
      if am_inB x4 9 then
        am_bi (f186 z (M.1 225 x4.toNatClampNeg) M) fun v2 M1 =>
          if ¬ v2 = (-1 : Int32) then
            am_bi (f186 z (M.1 225 x4.toNatClampNeg) M1) fun v4 M3 =>
              let I5 := am_u M3.1 205 36 ((M3.1 205 36) ^^^ ((1 : Int32) <<< ((M.1 225 x4.toNatClampNeg) &&& 31)))
              if ¬ x4 = v4 then
                f277_220 z n x1 v4 (I5, M3.2)
              else
                am_bi (f185 z (M.1 225 x4.toNatClampNeg) (I5, M3.2)) fun v7 M6 =>
                  f277_220 z n x1 v7 M6
          else
            let I8 := am_u M1.1 205 36 ((M1.1 205 36) ^^^ ((1 : Int32) <<< ((M.1 225 x4.toNatClampNeg) &&& 31)))
            if ¬ x4 = (8 : Int32) then
              f277_220 z n x1 (8 : Int32) (I8, M1.2)
            else
              am_bi (f185 z (M.1 225 x4.toNatClampNeg) (I8, M1.2)) fun v10 M9 =>
                f277_220 z n x1 v10 M9
      else
        none
set_option maxRecDepth 100000 in
set_option maxHeartbeats 4000000 in
theorem e277_220 (z : Nat) : ∀ (n : Nat) (x1 : Int32) (x4 : Int32) (M : aM) (r : aR), f277_220 z n x1 x4 M = some r → am_Ev 2 277 220 [some (.inr (.inr (11, 205))), some (.inl x1), none, none, some (.inl x4), none, none, none, none] [] M r := by
  intro n
  induction n with
  | zero =>
    intro x1 x4 M r h
    cases h
  | succ n ih =>
    intro x1 x4 M r h
    exact am_Ev_seg (sem := am_s277_ z) (cut := ([(220, [true, true, false, false, true, false, false, false, false])] : List (Nat × List Bool))) (hs277 z) am_r277 am_k277 (by rw [am_l277]; decide) (am_kc 220 (fun al st M => match al, st with
      | [some (.inr (.inr (11, 205))), some (.inl x1), none, none, some (.inl x4), none, none, none, none], [] => f277_220 z n x1 x4 M
      | _, _ => none) am_k0) 36 h (am_kc_ok (fun al st M hk => by
      split at hk
      · exact ih _ _ _ _ hk
      · cases hk) am_k0_ok)
def f277_31 (z : Nat) : Nat → Int32 → Int32 → Int32 → aM → Option aR
  | 0, _, _, _, _ => none
  | n + 1, x1, x2, x3, M =>
    if x3 = 0 then
      if am_inB (8 : Int32) 9 then
        if ¬ (M.1 225 (8 : Int32).toNatClampNeg) = (-1 : Int32) then
          f277_220 z z x1 (8 : Int32) M
        else
          some (some (.inl ((0 : Int32) &&& 1)), M)
      else
        none
    else
      if am_inB (8 : Int32) 9 then
        if ¬ (M.1 225 (8 : Int32).toNatClampNeg) = (-1 : Int32) then
          if am_inB (8 : Int32) 9 then
            if ¬ (M.1 225 (8 : Int32).toNatClampNeg) = (-1 : Int32) then
              f277_220 z z x1 (8 : Int32) M
            else
              some (some (.inl ((0 : Int32) &&& 1)), M)
          else
            none
        else
          f277_51 z (f277_31 z n) z x1 x2 (0 : Int32) (0 : Int32) M
      else
        none
set_option maxRecDepth 100000 in
set_option maxHeartbeats 4000000 in
theorem e277_31 (z : Nat) : ∀ (n : Nat) (x1 : Int32) (x2 : Int32) (x3 : Int32) (M : aM) (r : aR), f277_31 z n x1 x2 x3 M = some r → am_Ev 2 277 31 [some (.inr (.inr (11, 205))), some (.inl x1), some (.inl x2), some (.inl x3), none, none, none, none, none] [] M r := by
  intro n
  induction n with
  | zero =>
    intro x1 x2 x3 M r h
    cases h
  | succ n ih =>
    intro x1 x2 x3 M r h
    exact am_Ev_seg (sem := am_s277_ z) (cut := ([(51, [true, true, true, true, true, false, false, false, false]), (220, [true, true, false, false, true, false, false, false, false])] : List (Nat × List Bool))) (hs277 z) am_r277 am_k277 (by rw [am_l277]; decide) (am_kc 51 (fun al st M => match al, st with
      | [some (.inr (.inr (11, 205))), some (.inl x1), some (.inl x2), some (.inl x3), some (.inl x4), none, none, none, none], [] => f277_51 z (f277_31 z n) z x1 x2 x3 x4 M
      | _, _ => none) (am_kc 220 (fun al st M => match al, st with
      | [some (.inr (.inr (11, 205))), some (.inl x1), none, none, some (.inl x4), none, none, none, none], [] => f277_220 z z x1 x4 M
      | _, _ => none) am_k0)) 18 h (am_kc_ok (fun al st M hk => by
      split at hk
      · exact e277_51 z _ ih _ _ _ _ _ _ _ hk
      · cases hk) (am_kc_ok (fun al st M hk => by
      split at hk
      · exact e277_220 z _ _ _ _ _ hk
      · cases hk) am_k0_ok))
def f277_2 (z : Nat) : Nat → Int32 → Int32 → Int32 → aM → Option aR
  | 0, _, _, _, _ => none
  | n + 1, x1, x2, x3, M =>
    if (8 : Int32) < x3 then
      if am_inB x1 9 then
        let I1 := am_u M.1 225 x1.toNatClampNeg (16 : Int32)
        f277_31 z z x1 x2 (1 : Int32) (I1, M.2)
      else
        none
    else
      if am_inB x3 9 then
        let I2 := am_u M.1 225 x3.toNatClampNeg (-1 : Int32)
        f277_2 z n x1 x2 (x3 + (1 : Int32)) (I2, M.2)
      else
        none
set_option maxRecDepth 100000 in
set_option maxHeartbeats 4000000 in
theorem e277_2 (z : Nat) : ∀ (n : Nat) (x1 : Int32) (x2 : Int32) (x3 : Int32) (M : aM) (r : aR), f277_2 z n x1 x2 x3 M = some r → am_Ev 2 277 2 [some (.inr (.inr (11, 205))), some (.inl x1), some (.inl x2), some (.inl x3), none, none, none, none, none] [] M r := by
  intro n
  induction n with
  | zero =>
    intro x1 x2 x3 M r h
    cases h
  | succ n ih =>
    intro x1 x2 x3 M r h
    exact am_Ev_seg (sem := am_s277_ z) (cut := ([(2, [true, true, true, true, false, false, false, false, false]), (31, [true, true, true, true, false, false, false, false, false])] : List (Nat × List Bool))) (hs277 z) am_r277 am_k277 (by rw [am_l277]; decide) (am_kc 2 (fun al st M => match al, st with
      | [some (.inr (.inr (11, 205))), some (.inl x1), some (.inl x2), some (.inl x3), none, none, none, none, none], [] => f277_2 z n x1 x2 x3 M
      | _, _ => none) (am_kc 31 (fun al st M => match al, st with
      | [some (.inr (.inr (11, 205))), some (.inl x1), some (.inl x2), some (.inl x3), none, none, none, none, none], [] => f277_31 z z x1 x2 x3 M
      | _, _ => none) am_k0)) 12 h (am_kc_ok (fun al st M hk => by
      split at hk
      · exact ih _ _ _ _ _ hk
      · cases hk) (am_kc_ok (fun al st M hk => by
      split at hk
      · exact e277_31 z _ _ _ _ _ _ hk
      · cases hk) am_k0_ok))
/-- ArgumentMenderModel.findWay(II)Z -/
def f277 (z : Nat) (x1 : Int32) (x2 : Int32) (M : aM) : Option aR :=
  f277_2 z z x1 x2 (0 : Int32) M
set_option maxRecDepth 100000 in
set_option maxHeartbeats 4000000 in
theorem e277 (z : Nat) : ∀ (x1 : Int32) (x2 : Int32) (M : aM) (r : aR), f277 z x1 x2 M = some r → am_Ev 2 277 0 [some (.inr (.inr (11, 205))), some (.inl x1), some (.inl x2), none, none, none, none, none, none] [] M r := by
  intro x1 x2 M r h
  exact am_Ev_seg (sem := am_s277_ z) (cut := ([(2, [true, true, true, true, false, false, false, false, false])] : List (Nat × List Bool))) (hs277 z) am_r277 am_k277 (by rw [am_l277]; decide) (am_kc 2 (fun al st M => match al, st with
      | [some (.inr (.inr (11, 205))), some (.inl x1), some (.inl x2), some (.inl x3), none, none, none, none, none], [] => f277_2 z z x1 x2 x3 M
      | _, _ => none) am_k0) 4 h (am_kc_ok (fun al st M hk => by
      split at hk
      · exact e277_2 z _ _ _ _ _ _ hk
      · cases hk) am_k0_ok)
def F277 (z : Nat) (as : List aV) (M : aM) : Option aR := match as with
  | [.inr (.inr (11, 205)), .inl x1, .inl x2] => f277 z x1 x2 M
  | _ => none
theorem S277 (z : Nat) : am_Snd 2 277 (F277 z) := am_meth (by decide +kernel) (fun as M r has h => by
    rw [am_l277]
    unfold F277 at h
    split at h
    · exact ⟨Nat.le_of_ble_eq_true rfl, e277 z _ _ _ _ h⟩
    · cases h)
def cd278_0 : List am_E := [(0, .aload_n 0, 1, 0, 0, 0, 0), (1, .iload_n 2, 1, 2, 0, 0, 0), (2, .invokevirtual 356, 3, 226, 11010, 0, 0), (5, .ifCond .eq 11, 3, 16, 0, 0, 0), (8, .aload_n 0, 1, 0, 0, 0, 0), (9, .iload_n 1, 1, 1, 0, 0, 0), (10, .invokevirtual 255, 3, 182, 11010, 0, 0), (13, .ifCond .ne 6, 3, 19, 0, 0, 0), (16, .bipush (-2), 2, 0, 0, (-2), 0), (18, .ireturn, 1, 0, 0, 0, 0), (19, .aload_n 0, 1, 0, 0, 0, 0), (20, .iconst 0, 1, 0, 0, 0, 0), (21, .putfield 403, 3, 11, 36, 0, 0), (24, .iconst 0, 1, 0, 0, 0, 0), (25, .istore_n 3, 1, 3, 0, 0, 0), (26, .aload_n 0, 1, 0, 0, 0, 0), (27, .iload_n 1, 1, 1, 0, 0, 0), (28, .aload_n 0, 1, 0, 0, 0, 0), (29, .iload_n 2, 1, 2, 0, 0, 0), (30, .invokevirtual 347, 3, 229, 11010, 0, 0), (33, .invokevirtual 406, 3, 277, 11020, 0, 0), (36, .ifCond .eq 9, 3, 45, 0, 0, 0), (39, .iinc 3 1, 3, 3, 0, 1, 0), (42, .goto (-16), 3, 26, 0, 0, 0), (45, .iload_n 3, 1, 3, 0, 0, 0), (46, .ireturn, 1, 0, 0, 0, 0)]
def cd278 : List am_E := cd278_0
def am_w278 : List (List (Int32 × Nat) × Nat) := []
set_option maxRecDepth 100000 in
theorem kcd278_0 : cd278_0.all (am_chk am_w278 278) = true := by decide +kernel
theorem am_k278 : cd278.all (am_chk am_w278 278) = true := by
  simp only [cd278, List.all_append, kcd278_0, Bool.and_self]
theorem am_r278 : am_rtc 278 = 0 := by decide +kernel
theorem am_l278 : am_ml 278 = 4 := by decide +kernel
def am_s278_ (z : Nat) : Nat → List aV → aM → Option aR := (am_sm 182 (F182 z) (am_sm 226 (F226 z) (am_sm 229 (F229 z) (am_sm 277 (F277 z) am_s0))))
theorem hs278 (z : Nat) : ∀ j2 : Nat, ∃ d2 : Nat, d2 + 1 ≤ 12 ∧ am_Snd d2 j2 (am_s278_ z j2) := (am_sm_ok (S182 z) (by decide) (am_sm_ok (S226 z) (by decide) (am_sm_ok (S229 z) (by decide) (am_sm_ok (S277 z) (by decide) (am_s0_ok (by decide))))))
def f278_26 (z : Nat) : Nat → Int32 → Int32 → Int32 → aM → Option aR
  | 0, _, _, _, _ => none
  | n + 1, x1, x2, x3, M =>
    am_bi (f229 z x2 M) fun v2 M1 =>
      am_bi (f277 z x1 v2 M1) fun v4 M3 =>
        if v4 = 0 then
          some (some (.inl x3), M3)
        else
          f278_26 z n x1 x2 (x3 + (1 : Int32)) M3
set_option maxRecDepth 100000 in
set_option maxHeartbeats 4000000 in
theorem e278_26 (z : Nat) : ∀ (n : Nat) (x1 : Int32) (x2 : Int32) (x3 : Int32) (M : aM) (r : aR), f278_26 z n x1 x2 x3 M = some r → am_Ev 12 278 26 [some (.inr (.inr (11, 205))), some (.inl x1), some (.inl x2), some (.inl x3)] [] M r := by
  intro n
  induction n with
  | zero =>
    intro x1 x2 x3 M r h
    cases h
  | succ n ih =>
    intro x1 x2 x3 M r h
    exact am_Ev_seg (sem := am_s278_ z) (cut := ([(26, [true, true, true, true])] : List (Nat × List Bool))) (hs278 z) am_r278 am_k278 (by rw [am_l278]; decide) (am_kc 26 (fun al st M => match al, st with
      | [some (.inr (.inr (11, 205))), some (.inl x1), some (.inl x2), some (.inl x3)], [] => f278_26 z n x1 x2 x3 M
      | _, _ => none) am_k0) 11 h (am_kc_ok (fun al st M hk => by
      split at hk
      · exact ih _ _ _ _ _ hk
      · cases hk) am_k0_ok)
/-- ArgumentMenderModel.cut(II)I -/
def f278 (z : Nat) (x1 : Int32) (x2 : Int32) (M : aM) : Option aR :=
  am_bi (f226 z x2 M) fun v2 M1 =>
    if v2 = 0 then
      some (some (.inl (-2 : Int32)), M1)
    else
      am_bi (f182 z x1 M1) fun v4 M3 =>
        if ¬ v4 = 0 then
          let I5 := am_u M3.1 205 36 (0 : Int32)
          f278_26 z z x1 x2 (0 : Int32) (I5, M3.2)
        else
          some (some (.inl (-2 : Int32)), M3)
set_option maxRecDepth 100000 in
set_option maxHeartbeats 4000000 in
theorem e278 (z : Nat) : ∀ (x1 : Int32) (x2 : Int32) (M : aM) (r : aR), f278 z x1 x2 M = some r → am_Ev 12 278 0 [some (.inr (.inr (11, 205))), some (.inl x1), some (.inl x2), none] [] M r := by
  intro x1 x2 M r h
  exact am_Ev_seg (sem := am_s278_ z) (cut := ([(26, [true, true, true, true])] : List (Nat × List Bool))) (hs278 z) am_r278 am_k278 (by rw [am_l278]; decide) (am_kc 26 (fun al st M => match al, st with
      | [some (.inr (.inr (11, 205))), some (.inl x1), some (.inl x2), some (.inl x3)], [] => f278_26 z z x1 x2 x3 M
      | _, _ => none) am_k0) 15 h (am_kc_ok (fun al st M hk => by
      split at hk
      · exact e278_26 z _ _ _ _ _ _ hk
      · cases hk) am_k0_ok)
def F278 (z : Nat) (as : List aV) (M : aM) : Option aR := match as with
  | [.inr (.inr (11, 205)), .inl x1, .inl x2] => f278 z x1 x2 M
  | _ => none
theorem S278 (z : Nat) : am_Snd 12 278 (F278 z) := am_meth (by decide +kernel) (fun as M r has h => by
    rw [am_l278]
    unfold F278 at h
    split at h
    · exact ⟨Nat.le_of_ble_eq_true rfl, e278 z _ _ _ _ h⟩
    · cases h)
def cd279_0 : List am_E := [(0, .aload_n 0, 1, 0, 0, 0, 0), (1, .iload_n 2, 1, 2, 0, 0, 0), (2, .invokevirtual 356, 3, 226, 11010, 0, 0), (5, .ifCond .eq 11, 3, 16, 0, 0, 0), (8, .aload_n 0, 1, 0, 0, 0, 0), (9, .iload_n 1, 1, 1, 0, 0, 0), (10, .invokevirtual 255, 3, 182, 11010, 0, 0), (13, .ifCond .ne 6, 3, 19, 0, 0, 0), (16, .bipush (-2), 2, 0, 0, (-2), 0), (18, .ireturn, 1, 0, 0, 0, 0), (19, .iconst 0, 1, 0, 0, 0, 0), (20, .istore_n 3, 1, 3, 0, 0, 0), (21, .aload_n 0, 1, 0, 0, 0, 0), (22, .iload_n 2, 1, 2, 0, 0, 0), (23, .invokevirtual 353, 3, 231, 11010, 0, 0), (26, .iload_n 1, 1, 1, 0, 0, 0), (27, .invokestatic 300, 3, 172, 25, 0, 0), (30, .ifCond .ne 5, 3, 35, 0, 0, 0), (33, .iconst 0, 1, 0, 0, 0, 0), (34, .ireturn, 1, 0, 0, 0, 0), (35, .iconst 0, 1, 0, 0, 0, 0), (36, .istore 4, 2, 4, 0, 0, 0), (38, .iload 4, 2, 4, 0, 0, 0), (40, .aload_n 0, 1, 0, 0, 0, 0), (41, .invokevirtual 118, 3, 178, 11000, 0, 0), (44, .if_icmp .ge 57, 3, 101, 0, 0, 0), (47, .iload_n 3, 1, 3, 0, 0, 0), (48, .aload_n 0, 1, 0, 0, 0, 0), (49, .iload_n 2, 1, 2, 0, 0, 0), (50, .invokevirtual 347, 3, 229, 11010, 0, 0), (53, .iload 4, 2, 4, 0, 0, 0), (55, .invokestatic 300, 3, 172, 25, 0, 0), (58, .iconst 1, 1, 0, 0, 1, 0), (59, .if_icmp .ne 33, 3, 92, 0, 0, 0), (62, .aload_n 0, 1, 0, 0, 0, 0), (63, .aload_n 0, 1, 0, 0, 0, 0), (64, .iload_n 2, 1, 2, 0, 0, 0), (65, .invokevirtual 347, 3, 229, 11010, 0, 0), (68, .iconst 1, 1, 0, 0, 1, 0), (69, .iload 4, 2, 4, 0, 0, 0)]
def cd279_1 : List am_E := [(71, .ishl, 1, 0, 0, 0, 0), (72, .iconst (-1), 1, 0, 0, (-1), 0), (73, .ixor, 1, 0, 0, 0, 0), (74, .iand, 1, 0, 0, 0, 0), (75, .invokevirtual 350, 3, 230, 11010, 0, 0), (78, .iload_n 1, 1, 1, 0, 0, 0), (79, .invokestatic 300, 3, 172, 25, 0, 0), (82, .ifCond .ne 10, 3, 92, 0, 0, 0), (85, .iconst 1, 1, 0, 0, 1, 0), (86, .iload 4, 2, 4, 0, 0, 0), (88, .ishl, 1, 0, 0, 0, 0), (89, .goto 4, 3, 93, 0, 0, 0), (92, .iconst 0, 1, 0, 0, 0, 0), (93, .ior, 1, 0, 0, 0, 0), (94, .istore_n 3, 1, 3, 0, 0, 0), (95, .iinc 4 1, 3, 4, 0, 1, 0), (98, .goto (-60), 3, 38, 0, 0, 0), (101, .iload_n 3, 1, 3, 0, 0, 0), (102, .ireturn, 1, 0, 0, 0, 0)]
def cd279 : List am_E := cd279_0 ++ (cd279_1)
def am_w279 : List (List (Int32 × Nat) × Nat) := []
set_option maxRecDepth 100000 in
theorem kcd279_0 : cd279_0.all (am_chk am_w279 279) = true := by decide +kernel
set_option maxRecDepth 100000 in
theorem kcd279_1 : cd279_1.all (am_chk am_w279 279) = true := by decide +kernel
theorem am_k279 : cd279.all (am_chk am_w279 279) = true := by
  simp only [cd279, List.all_append, kcd279_0, kcd279_1, Bool.and_self]
theorem am_r279 : am_rtc 279 = 0 := by decide +kernel
theorem am_l279 : am_ml 279 = 5 := by decide +kernel
def am_s279_ (z : Nat) : Nat → List aV → aM → Option aR := (am_sm 172 (F172 z) (am_sm 178 (F178 z) (am_sm 182 (F182 z) (am_sm 226 (F226 z) (am_sm 229 (F229 z) (am_sm 230 (F230 z) (am_sm 231 (F231 z) am_s0)))))))
theorem hs279 (z : Nat) : ∀ j2 : Nat, ∃ d2 : Nat, d2 + 1 ≤ 12 ∧ am_Snd d2 j2 (am_s279_ z j2) := (am_sm_ok (S172 z) (by decide) (am_sm_ok (S178 z) (by decide) (am_sm_ok (S182 z) (by decide) (am_sm_ok (S226 z) (by decide) (am_sm_ok (S229 z) (by decide) (am_sm_ok (S230 z) (by decide) (am_sm_ok (S231 z) (by decide) (am_s0_ok (by decide)))))))))
def f279_38 (z : Nat) : Nat → Int32 → Int32 → Int32 → Int32 → aM → Option aR
  | 0, _, _, _, _, _ => none
  | n + 1, x1, x2, x3, x4, M =>
    am_bi (f178 z M) fun v2 M1 =>
      if v2 ≤ x4 then
        some (some (.inl x3), M1)
      else
        am_bi (f229 z x2 M1) fun v4 M3 =>
          am_bi (f172 z v4 x4 M3) fun v6 M5 =>
            if ¬ v6 = (1 : Int32) then
              f279_38 z n x1 x2 (x3 ||| (0 : Int32)) (x4 + (1 : Int32)) M5
            else
              am_bi (f229 z x2 M5) fun v8 M7 =>
                am_bi (f230 z (v8 &&& (((1 : Int32) <<< (x4 &&& 31)) ^^^ (-1 : Int32))) M7) fun v10 M9 =>
                  am_bi (f172 z v10 x1 M9) fun v12 M11 =>
                    if ¬ v12 = 0 then
                      f279_38 z n x1 x2 (x3 ||| (0 : Int32)) (x4 + (1 : Int32)) M11
                    else
                      f279_38 z n x1 x2 (x3 ||| ((1 : Int32) <<< (x4 &&& 31))) (x4 + (1 : Int32)) M11
set_option maxRecDepth 100000 in
set_option maxHeartbeats 4000000 in
theorem e279_38 (z : Nat) : ∀ (n : Nat) (x1 : Int32) (x2 : Int32) (x3 : Int32) (x4 : Int32) (M : aM) (r : aR), f279_38 z n x1 x2 x3 x4 M = some r → am_Ev 12 279 38 [some (.inr (.inr (11, 205))), some (.inl x1), some (.inl x2), some (.inl x3), some (.inl x4)] [] M r := by
  intro n
  induction n with
  | zero =>
    intro x1 x2 x3 x4 M r h
    cases h
  | succ n ih =>
    intro x1 x2 x3 x4 M r h
    exact am_Ev_seg (sem := am_s279_ z) (cut := ([(38, [true, true, true, true, true])] : List (Nat × List Bool))) (hs279 z) am_r279 am_k279 (by rw [am_l279]; decide) (am_kc 38 (fun al st M => match al, st with
      | [some (.inr (.inr (11, 205))), some (.inl x1), some (.inl x2), some (.inl x3), some (.inl x4)], [] => f279_38 z n x1 x2 x3 x4 M
      | _, _ => none) am_k0) 36 h (am_kc_ok (fun al st M hk => by
      split at hk
      · exact ih _ _ _ _ _ _ hk
      · cases hk) am_k0_ok)
/-- ArgumentMenderModel.keys(II)I -/
def f279 (z : Nat) (x1 : Int32) (x2 : Int32) (M : aM) : Option aR :=
  am_bi (f226 z x2 M) fun v2 M1 =>
    if v2 = 0 then
      some (some (.inl (-2 : Int32)), M1)
    else
      am_bi (f182 z x1 M1) fun v4 M3 =>
        if ¬ v4 = 0 then
          am_bi (f231 z x2 M3) fun v6 M5 =>
            am_bi (f172 z v6 x1 M5) fun v8 M7 =>
              if ¬ v8 = 0 then
                f279_38 z z x1 x2 (0 : Int32) (0 : Int32) M7
              else
                some (some (.inl (0 : Int32)), M7)
        else
          some (some (.inl (-2 : Int32)), M3)
set_option maxRecDepth 100000 in
set_option maxHeartbeats 4000000 in
theorem e279 (z : Nat) : ∀ (x1 : Int32) (x2 : Int32) (M : aM) (r : aR), f279 z x1 x2 M = some r → am_Ev 12 279 0 [some (.inr (.inr (11, 205))), some (.inl x1), some (.inl x2), none, none] [] M r := by
  intro x1 x2 M r h
  exact am_Ev_seg (sem := am_s279_ z) (cut := ([(38, [true, true, true, true, true])] : List (Nat × List Bool))) (hs279 z) am_r279 am_k279 (by rw [am_l279]; decide) (am_kc 38 (fun al st M => match al, st with
      | [some (.inr (.inr (11, 205))), some (.inl x1), some (.inl x2), some (.inl x3), some (.inl x4)], [] => f279_38 z z x1 x2 x3 x4 M
      | _, _ => none) am_k0) 20 h (am_kc_ok (fun al st M hk => by
      split at hk
      · exact e279_38 z _ _ _ _ _ _ _ hk
      · cases hk) am_k0_ok)
def F279 (z : Nat) (as : List aV) (M : aM) : Option aR := match as with
  | [.inr (.inr (11, 205)), .inl x1, .inl x2] => f279 z x1 x2 M
  | _ => none
theorem S279 (z : Nat) : am_Snd 12 279 (F279 z) := am_meth (by decide +kernel) (fun as M r has h => by
    rw [am_l279]
    unfold F279 at h
    split at h
    · exact ⟨Nat.le_of_ble_eq_true rfl, e279 z _ _ _ _ h⟩
    · cases h)
def cd280_0 : List am_E := [(0, .aload_n 0, 1, 0, 0, 0, 0), (1, .invokevirtual 335, 3, 225, 11000, 0, 0), (4, .ifCond .ne 6, 3, 10, 0, 0, 0), (7, .bipush (-2), 2, 0, 0, (-2), 0), (9, .ireturn, 1, 0, 0, 0, 0), (10, .aload_n 0, 1, 0, 0, 0, 0), (11, .invokevirtual 397, 3, 232, 11000, 0, 0), (14, .invokestatic 372, 3, 171, 15, 0, 0), (17, .istore_n 1, 1, 1, 0, 0, 0), (18, .iconst (-1), 1, 0, 0, (-1), 0), (19, .istore_n 2, 1, 2, 0, 0, 0), (20, .iconst 0, 1, 0, 0, 0, 0), (21, .istore_n 3, 1, 3, 0, 0, 0), (22, .iload_n 3, 1, 3, 0, 0, 0), (23, .aload_n 0, 1, 0, 0, 0, 0), (24, .invokevirtual 121, 3, 179, 11000, 0, 0), (27, .if_icmp .ge 50, 3, 77, 0, 0, 0), (30, .aload_n 0, 1, 0, 0, 0, 0), (31, .sipush 1023, 3, 0, 0, 1023, 0), (34, .iconst 1, 1, 0, 0, 1, 0), (35, .iload_n 3, 1, 3, 0, 0, 0), (36, .ishl, 1, 0, 0, 0, 0), (37, .iconst (-1), 1, 0, 0, (-1), 0), (38, .ixor, 1, 0, 0, 0, 0), (39, .iand, 1, 0, 0, 0, 0), (40, .putfield 268, 3, 11, 18, 0, 0), (43, .aload_n 0, 1, 0, 0, 0, 0), (44, .invokevirtual 332, 3, 224, 11004, 0, 0), (47, .aload_n 0, 1, 0, 0, 0, 0), (48, .invokevirtual 397, 3, 232, 11000, 0, 0), (51, .invokestatic 372, 3, 171, 15, 0, 0), (54, .iload_n 1, 1, 1, 0, 0, 0), (55, .if_icmp .gt 6, 3, 61, 0, 0, 0), (58, .goto 13, 3, 71, 0, 0, 0), (61, .aload_n 0, 1, 0, 0, 0, 0), (62, .invokevirtual 397, 3, 232, 11000, 0, 0), (65, .invokestatic 372, 3, 171, 15, 0, 0), (68, .istore_n 1, 1, 1, 0, 0, 0), (69, .iload_n 3, 1, 3, 0, 0, 0), (70, .istore_n 2, 1, 2, 0, 0, 0)]
def cd280_1 : List am_E := [(71, .iinc 3 1, 3, 3, 0, 1, 0), (74, .goto (-52), 3, 22, 0, 0, 0), (77, .iload_n 2, 1, 2, 0, 0, 0), (78, .ireturn, 1, 0, 0, 0, 0)]
def cd280 : List am_E := cd280_0 ++ (cd280_1)
def am_w280 : List (List (Int32 × Nat) × Nat) := []
set_option maxRecDepth 100000 in
theorem kcd280_0 : cd280_0.all (am_chk am_w280 280) = true := by decide +kernel
set_option maxRecDepth 100000 in
theorem kcd280_1 : cd280_1.all (am_chk am_w280 280) = true := by decide +kernel
theorem am_k280 : cd280.all (am_chk am_w280 280) = true := by
  simp only [cd280, List.all_append, kcd280_0, kcd280_1, Bool.and_self]
theorem am_r280 : am_rtc 280 = 0 := by decide +kernel
theorem am_l280 : am_ml 280 = 4 := by decide +kernel
def am_s280_ (z : Nat) : Nat → List aV → aM → Option aR := (am_sm 171 (F171 z) (am_sm 179 (F179 z) (am_sm 224 (F224 z) (am_sm 225 (F225 z) (am_sm 232 (F232 z) am_s0)))))
theorem hs280 (z : Nat) : ∀ j2 : Nat, ∃ d2 : Nat, d2 + 1 ≤ 11 ∧ am_Snd d2 j2 (am_s280_ z j2) := (am_sm_ok (S171 z) (by decide) (am_sm_ok (S179 z) (by decide) (am_sm_ok (S224 z) (by decide) (am_sm_ok (S225 z) (by decide) (am_sm_ok (S232 z) (by decide) (am_s0_ok (by decide)))))))
def f280_22 (z : Nat) : Nat → Int32 → Int32 → Int32 → aM → Option aR
  | 0, _, _, _, _ => none
  | n + 1, x1, x2, x3, M =>
    am_bi (f179 z M) fun v2 M1 =>
      if v2 ≤ x3 then
        some (some (.inl x2), M1)
      else
        let I3 := am_u M1.1 205 18 ((1023 : Int32) &&& (((1 : Int32) <<< (x3 &&& 31)) ^^^ (-1 : Int32)))
        am_bv (f224 z (I3, M1.2)) fun M4 =>
          am_bi (f232 z M4) fun v6 M5 =>
            am_bi (f171 z v6 M5) fun v8 M7 =>
              if x1 < v8 then
                am_bi (f232 z M7) fun v10 M9 =>
                  am_bi (f171 z v10 M9) fun v12 M11 =>
                    f280_22 z n v12 x3 (x3 + (1 : Int32)) M11
              else
                f280_22 z n x1 x2 (x3 + (1 : Int32)) M7
set_option maxRecDepth 100000 in
set_option maxHeartbeats 4000000 in
theorem e280_22 (z : Nat) : ∀ (n : Nat) (x1 : Int32) (x2 : Int32) (x3 : Int32) (M : aM) (r : aR), f280_22 z n x1 x2 x3 M = some r → am_Ev 11 280 22 [some (.inr (.inr (11, 205))), some (.inl x1), some (.inl x2), some (.inl x3)] [] M r := by
  intro n
  induction n with
  | zero =>
    intro x1 x2 x3 M r h
    cases h
  | succ n ih =>
    intro x1 x2 x3 M r h
    exact am_Ev_seg (sem := am_s280_ z) (cut := ([(22, [true, true, true, true])] : List (Nat × List Bool))) (hs280 z) am_r280 am_k280 (by rw [am_l280]; decide) (am_kc 22 (fun al st M => match al, st with
      | [some (.inr (.inr (11, 205))), some (.inl x1), some (.inl x2), some (.inl x3)], [] => f280_22 z n x1 x2 x3 M
      | _, _ => none) am_k0) 30 h (am_kc_ok (fun al st M hk => by
      split at hk
      · exact ih _ _ _ _ _ hk
      · cases hk) am_k0_ok)
/-- ArgumentMenderModel.blame()I -/
def f280 (z : Nat) (M : aM) : Option aR :=
  am_bi (f225 z M) fun v2 M1 =>
    if ¬ v2 = 0 then
      am_bi (f232 z M1) fun v4 M3 =>
        am_bi (f171 z v4 M3) fun v6 M5 =>
          f280_22 z z v6 (-1 : Int32) (0 : Int32) M5
    else
      some (some (.inl (-2 : Int32)), M1)
set_option maxRecDepth 100000 in
set_option maxHeartbeats 4000000 in
theorem e280 (z : Nat) : ∀ (M : aM) (r : aR), f280 z  M = some r → am_Ev 11 280 0 [some (.inr (.inr (11, 205))), none, none, none] [] M r := by
  intro  M r h
  exact am_Ev_seg (sem := am_s280_ z) (cut := ([(22, [true, true, true, true])] : List (Nat × List Bool))) (hs280 z) am_r280 am_k280 (by rw [am_l280]; decide) (am_kc 22 (fun al st M => match al, st with
      | [some (.inr (.inr (11, 205))), some (.inl x1), some (.inl x2), some (.inl x3)], [] => f280_22 z z x1 x2 x3 M
      | _, _ => none) am_k0) 13 h (am_kc_ok (fun al st M hk => by
      split at hk
      · exact e280_22 z _ _ _ _ _ _ hk
      · cases hk) am_k0_ok)
def F280 (z : Nat) (as : List aV) (M : aM) : Option aR := match as with
  | [.inr (.inr (11, 205))] => f280 z  M
  | _ => none
theorem S280 (z : Nat) : am_Snd 11 280 (F280 z) := am_meth (by decide +kernel) (fun as M r has h => by
    rw [am_l280]
    unfold F280 at h
    split at h
    · exact ⟨Nat.le_of_ble_eq_true rfl, e280 z _ _ h⟩
    · cases h)
def cd281_0 : List am_E := [(0, .aload_n 0, 1, 0, 0, 0, 0), (1, .ldc_w 264, 3, 0, 0, 65535, 0), (4, .iconst 1, 1, 0, 0, 1, 0), (5, .iload_n 1, 1, 1, 0, 0, 0), (6, .ishl, 1, 0, 0, 0, 0), (7, .iconst (-1), 1, 0, 0, (-1), 0), (8, .ixor, 1, 0, 0, 0, 0), (9, .iand, 1, 0, 0, 0, 0), (10, .putfield 265, 3, 11, 17, 0, 0), (13, .aload_n 0, 1, 0, 0, 0, 0), (14, .invokevirtual 332, 3, 224, 11004, 0, 0), (17, .aload_n 0, 1, 0, 0, 0, 0), (18, .invokevirtual 397, 3, 232, 11000, 0, 0), (21, .invokestatic 372, 3, 171, 15, 0, 0), (24, .ireturn, 1, 0, 0, 0, 0)]
def cd281 : List am_E := cd281_0
def am_w281 : List (List (Int32 × Nat) × Nat) := []
set_option maxRecDepth 100000 in
theorem kcd281_0 : cd281_0.all (am_chk am_w281 281) = true := by decide +kernel
theorem am_k281 : cd281.all (am_chk am_w281 281) = true := by
  simp only [cd281, List.all_append, kcd281_0, Bool.and_self]
theorem am_r281 : am_rtc 281 = 0 := by decide +kernel
theorem am_l281 : am_ml 281 = 2 := by decide +kernel
def am_s281_ (z : Nat) : Nat → List aV → aM → Option aR := (am_sm 171 (F171 z) (am_sm 224 (F224 z) (am_sm 232 (F232 z) am_s0)))
theorem hs281 (z : Nat) : ∀ j2 : Nat, ∃ d2 : Nat, d2 + 1 ≤ 10 ∧ am_Snd d2 j2 (am_s281_ z j2) := (am_sm_ok (S171 z) (by decide) (am_sm_ok (S224 z) (by decide) (am_sm_ok (S232 z) (by decide) (am_s0_ok (by decide)))))
/-- ArgumentMenderModel.hungWithout(I)I -/
def f281 (z : Nat) (x1 : Int32) (M : aM) : Option aR :=
  let I1 := am_u M.1 205 17 ((65535 : Int32) &&& (((1 : Int32) <<< (x1 &&& 31)) ^^^ (-1 : Int32)))
  am_bv (f224 z (I1, M.2)) fun M2 =>
    am_bi (f232 z M2) fun v4 M3 =>
      am_bi (f171 z v4 M3) fun v6 M5 =>
        some (some (.inl v6), M5)
set_option maxRecDepth 100000 in
set_option maxHeartbeats 4000000 in
theorem e281 (z : Nat) : ∀ (x1 : Int32) (M : aM) (r : aR), f281 z x1 M = some r → am_Ev 10 281 0 [some (.inr (.inr (11, 205))), some (.inl x1)] [] M r := by
  intro x1 M r h
  exact am_Ev_seg (sem := am_s281_ z) (cut := ([] : List (Nat × List Bool))) (hs281 z) am_r281 am_k281 (by rw [am_l281]; decide) am_k0 16 h am_k0_ok
def F281 (z : Nat) (as : List aV) (M : aM) : Option aR := match as with
  | [.inr (.inr (11, 205)), .inl x1] => f281 z x1 M
  | _ => none
theorem S281 (z : Nat) : am_Snd 10 281 (F281 z) := am_meth (by decide +kernel) (fun as M r has h => by
    rw [am_l281]
    unfold F281 at h
    split at h
    · exact ⟨Nat.le_of_ble_eq_true rfl, e281 z _ _ _ h⟩
    · cases h)
def cd282_0 : List am_E := [(0, .aload_n 0, 1, 0, 0, 0, 0), (1, .invokevirtual 335, 3, 225, 11000, 0, 0), (4, .ifCond .ne 6, 3, 10, 0, 0, 0), (7, .bipush (-2), 2, 0, 0, (-2), 0), (9, .ireturn, 1, 0, 0, 0, 0), (10, .aload_n 0, 1, 0, 0, 0, 0), (11, .invokevirtual 397, 3, 232, 11000, 0, 0), (14, .invokestatic 372, 3, 171, 15, 0, 0), (17, .istore_n 1, 1, 1, 0, 0, 0), (18, .iconst (-1), 1, 0, 0, (-1), 0), (19, .istore_n 2, 1, 2, 0, 0, 0), (20, .iconst 0, 1, 0, 0, 0, 0), (21, .istore_n 3, 1, 3, 0, 0, 0), (22, .iload_n 3, 1, 3, 0, 0, 0), (23, .aload_n 0, 1, 0, 0, 0, 0), (24, .invokevirtual 118, 3, 178, 11000, 0, 0), (27, .if_icmp .ge 30, 3, 57, 0, 0, 0), (30, .aload_n 0, 1, 0, 0, 0, 0), (31, .iload_n 3, 1, 3, 0, 0, 0), (32, .invokevirtual 409, 3, 281, 11010, 0, 0), (35, .istore 4, 2, 4, 0, 0, 0), (37, .iload 4, 2, 4, 0, 0, 0), (39, .iload_n 1, 1, 1, 0, 0, 0), (40, .if_icmp .lt 6, 3, 46, 0, 0, 0), (43, .goto 8, 3, 51, 0, 0, 0), (46, .iload 4, 2, 4, 0, 0, 0), (48, .istore_n 1, 1, 1, 0, 0, 0), (49, .iload_n 3, 1, 3, 0, 0, 0), (50, .istore_n 2, 1, 2, 0, 0, 0), (51, .iinc 3 1, 3, 3, 0, 1, 0), (54, .goto (-32), 3, 22, 0, 0, 0), (57, .iload_n 2, 1, 2, 0, 0, 0), (58, .ireturn, 1, 0, 0, 0, 0)]
def cd282 : List am_E := cd282_0
def am_w282 : List (List (Int32 × Nat) × Nat) := []
set_option maxRecDepth 100000 in
theorem kcd282_0 : cd282_0.all (am_chk am_w282 282) = true := by decide +kernel
theorem am_k282 : cd282.all (am_chk am_w282 282) = true := by
  simp only [cd282, List.all_append, kcd282_0, Bool.and_self]
theorem am_r282 : am_rtc 282 = 0 := by decide +kernel
theorem am_l282 : am_ml 282 = 5 := by decide +kernel
def am_s282_ (z : Nat) : Nat → List aV → aM → Option aR := (am_sm 171 (F171 z) (am_sm 178 (F178 z) (am_sm 225 (F225 z) (am_sm 232 (F232 z) (am_sm 281 (F281 z) am_s0)))))
theorem hs282 (z : Nat) : ∀ j2 : Nat, ∃ d2 : Nat, d2 + 1 ≤ 11 ∧ am_Snd d2 j2 (am_s282_ z j2) := (am_sm_ok (S171 z) (by decide) (am_sm_ok (S178 z) (by decide) (am_sm_ok (S225 z) (by decide) (am_sm_ok (S232 z) (by decide) (am_sm_ok (S281 z) (by decide) (am_s0_ok (by decide)))))))
def f282_22 (z : Nat) : Nat → Int32 → Int32 → Int32 → aM → Option aR
  | 0, _, _, _, _ => none
  | n + 1, x1, x2, x3, M =>
    am_bi (f178 z M) fun v2 M1 =>
      if v2 ≤ x3 then
        some (some (.inl x2), M1)
      else
        am_bi (f281 z x3 M1) fun v4 M3 =>
          if v4 < x1 then
            f282_22 z n v4 x3 (x3 + (1 : Int32)) M3
          else
            f282_22 z n x1 x2 (x3 + (1 : Int32)) M3
set_option maxRecDepth 100000 in
set_option maxHeartbeats 4000000 in
theorem e282_22 (z : Nat) : ∀ (n : Nat) (x1 : Int32) (x2 : Int32) (x3 : Int32) (M : aM) (r : aR), f282_22 z n x1 x2 x3 M = some r → am_Ev 11 282 22 [some (.inr (.inr (11, 205))), some (.inl x1), some (.inl x2), some (.inl x3), none] [] M r := by
  intro n
  induction n with
  | zero =>
    intro x1 x2 x3 M r h
    cases h
  | succ n ih =>
    intro x1 x2 x3 M r h
    exact am_Ev_seg (sem := am_s282_ z) (cut := ([(22, [true, true, true, true, false])] : List (Nat × List Bool))) (hs282 z) am_r282 am_k282 (by rw [am_l282]; decide) (am_kc 22 (fun al st M => match al, st with
      | [some (.inr (.inr (11, 205))), some (.inl x1), some (.inl x2), some (.inl x3), none], [] => f282_22 z n x1 x2 x3 M
      | _, _ => none) am_k0) 19 h (am_kc_ok (fun al st M hk => by
      split at hk
      · exact ih _ _ _ _ _ hk
      · cases hk) am_k0_ok)
/-- ArgumentMenderModel.dear()I -/
def f282 (z : Nat) (M : aM) : Option aR :=
  am_bi (f225 z M) fun v2 M1 =>
    if ¬ v2 = 0 then
      am_bi (f232 z M1) fun v4 M3 =>
        am_bi (f171 z v4 M3) fun v6 M5 =>
          f282_22 z z v6 (-1 : Int32) (0 : Int32) M5
    else
      some (some (.inl (-2 : Int32)), M1)
set_option maxRecDepth 100000 in
set_option maxHeartbeats 4000000 in
theorem e282 (z : Nat) : ∀ (M : aM) (r : aR), f282 z  M = some r → am_Ev 11 282 0 [some (.inr (.inr (11, 205))), none, none, none, none] [] M r := by
  intro  M r h
  exact am_Ev_seg (sem := am_s282_ z) (cut := ([(22, [true, true, true, true, false])] : List (Nat × List Bool))) (hs282 z) am_r282 am_k282 (by rw [am_l282]; decide) (am_kc 22 (fun al st M => match al, st with
      | [some (.inr (.inr (11, 205))), some (.inl x1), some (.inl x2), some (.inl x3), none], [] => f282_22 z z x1 x2 x3 M
      | _, _ => none) am_k0) 13 h (am_kc_ok (fun al st M hk => by
      split at hk
      · exact e282_22 z _ _ _ _ _ _ hk
      · cases hk) am_k0_ok)
def F282 (z : Nat) (as : List aV) (M : aM) : Option aR := match as with
  | [.inr (.inr (11, 205))] => f282 z  M
  | _ => none
theorem S282 (z : Nat) : am_Snd 11 282 (F282 z) := am_meth (by decide +kernel) (fun as M r has h => by
    rw [am_l282]
    unfold F282 at h
    split at h
    · exact ⟨Nat.le_of_ble_eq_true rfl, e282 z _ _ h⟩
    · cases h)
def cd283_0 : List am_E := [(0, .aload_n 0, 1, 0, 0, 0, 0), (1, .invokevirtual 335, 3, 225, 11000, 0, 0), (4, .ifCond .ne 6, 3, 10, 0, 0, 0), (7, .bipush (-2), 2, 0, 0, (-2), 0), (9, .ireturn, 1, 0, 0, 0, 0), (10, .aload_n 0, 1, 0, 0, 0, 0), (11, .invokevirtual 397, 3, 232, 11000, 0, 0), (14, .invokestatic 372, 3, 171, 15, 0, 0), (17, .istore_n 1, 1, 1, 0, 0, 0), (18, .iconst (-1), 1, 0, 0, (-1), 0), (19, .istore_n 2, 1, 2, 0, 0, 0), (20, .iconst 0, 1, 0, 0, 0, 0), (21, .istore_n 3, 1, 3, 0, 0, 0), (22, .iload_n 3, 1, 3, 0, 0, 0), (23, .aload_n 0, 1, 0, 0, 0, 0), (24, .invokevirtual 118, 3, 178, 11000, 0, 0), (27, .if_icmp .ge 30, 3, 57, 0, 0, 0), (30, .aload_n 0, 1, 0, 0, 0, 0), (31, .iload_n 3, 1, 3, 0, 0, 0), (32, .invokevirtual 409, 3, 281, 11010, 0, 0), (35, .istore 4, 2, 4, 0, 0, 0), (37, .iload 4, 2, 4, 0, 0, 0), (39, .iload_n 1, 1, 1, 0, 0, 0), (40, .if_icmp .gt 6, 3, 46, 0, 0, 0), (43, .goto 8, 3, 51, 0, 0, 0), (46, .iload 4, 2, 4, 0, 0, 0), (48, .istore_n 1, 1, 1, 0, 0, 0), (49, .iload_n 3, 1, 3, 0, 0, 0), (50, .istore_n 2, 1, 2, 0, 0, 0), (51, .iinc 3 1, 3, 3, 0, 1, 0), (54, .goto (-32), 3, 22, 0, 0, 0), (57, .iload_n 2, 1, 2, 0, 0, 0), (58, .ireturn, 1, 0, 0, 0, 0)]
def cd283 : List am_E := cd283_0
def am_w283 : List (List (Int32 × Nat) × Nat) := []
set_option maxRecDepth 100000 in
theorem kcd283_0 : cd283_0.all (am_chk am_w283 283) = true := by decide +kernel
theorem am_k283 : cd283.all (am_chk am_w283 283) = true := by
  simp only [cd283, List.all_append, kcd283_0, Bool.and_self]
theorem am_r283 : am_rtc 283 = 0 := by decide +kernel
theorem am_l283 : am_ml 283 = 5 := by decide +kernel
def am_s283_ (z : Nat) : Nat → List aV → aM → Option aR := (am_sm 171 (F171 z) (am_sm 178 (F178 z) (am_sm 225 (F225 z) (am_sm 232 (F232 z) (am_sm 281 (F281 z) am_s0)))))
theorem hs283 (z : Nat) : ∀ j2 : Nat, ∃ d2 : Nat, d2 + 1 ≤ 11 ∧ am_Snd d2 j2 (am_s283_ z j2) := (am_sm_ok (S171 z) (by decide) (am_sm_ok (S178 z) (by decide) (am_sm_ok (S225 z) (by decide) (am_sm_ok (S232 z) (by decide) (am_sm_ok (S281 z) (by decide) (am_s0_ok (by decide)))))))
def f283_22 (z : Nat) : Nat → Int32 → Int32 → Int32 → aM → Option aR
  | 0, _, _, _, _ => none
  | n + 1, x1, x2, x3, M =>
    am_bi (f178 z M) fun v2 M1 =>
      if v2 ≤ x3 then
        some (some (.inl x2), M1)
      else
        am_bi (f281 z x3 M1) fun v4 M3 =>
          if x1 < v4 then
            f283_22 z n v4 x3 (x3 + (1 : Int32)) M3
          else
            f283_22 z n x1 x2 (x3 + (1 : Int32)) M3
set_option maxRecDepth 100000 in
set_option maxHeartbeats 4000000 in
theorem e283_22 (z : Nat) : ∀ (n : Nat) (x1 : Int32) (x2 : Int32) (x3 : Int32) (M : aM) (r : aR), f283_22 z n x1 x2 x3 M = some r → am_Ev 11 283 22 [some (.inr (.inr (11, 205))), some (.inl x1), some (.inl x2), some (.inl x3), none] [] M r := by
  intro n
  induction n with
  | zero =>
    intro x1 x2 x3 M r h
    cases h
  | succ n ih =>
    intro x1 x2 x3 M r h
    exact am_Ev_seg (sem := am_s283_ z) (cut := ([(22, [true, true, true, true, false])] : List (Nat × List Bool))) (hs283 z) am_r283 am_k283 (by rw [am_l283]; decide) (am_kc 22 (fun al st M => match al, st with
      | [some (.inr (.inr (11, 205))), some (.inl x1), some (.inl x2), some (.inl x3), none], [] => f283_22 z n x1 x2 x3 M
      | _, _ => none) am_k0) 19 h (am_kc_ok (fun al st M hk => by
      split at hk
      · exact ih _ _ _ _ _ hk
      · cases hk) am_k0_ok)
/-- ArgumentMenderModel.worse()I -/
def f283 (z : Nat) (M : aM) : Option aR :=
  am_bi (f225 z M) fun v2 M1 =>
    if ¬ v2 = 0 then
      am_bi (f232 z M1) fun v4 M3 =>
        am_bi (f171 z v4 M3) fun v6 M5 =>
          f283_22 z z v6 (-1 : Int32) (0 : Int32) M5
    else
      some (some (.inl (-2 : Int32)), M1)
set_option maxRecDepth 100000 in
set_option maxHeartbeats 4000000 in
theorem e283 (z : Nat) : ∀ (M : aM) (r : aR), f283 z  M = some r → am_Ev 11 283 0 [some (.inr (.inr (11, 205))), none, none, none, none] [] M r := by
  intro  M r h
  exact am_Ev_seg (sem := am_s283_ z) (cut := ([(22, [true, true, true, true, false])] : List (Nat × List Bool))) (hs283 z) am_r283 am_k283 (by rw [am_l283]; decide) (am_kc 22 (fun al st M => match al, st with
      | [some (.inr (.inr (11, 205))), some (.inl x1), some (.inl x2), some (.inl x3), none], [] => f283_22 z z x1 x2 x3 M
      | _, _ => none) am_k0) 13 h (am_kc_ok (fun al st M hk => by
      split at hk
      · exact e283_22 z _ _ _ _ _ _ hk
      · cases hk) am_k0_ok)
def F283 (z : Nat) (as : List aV) (M : aM) : Option aR := match as with
  | [.inr (.inr (11, 205))] => f283 z  M
  | _ => none
theorem S283 (z : Nat) : am_Snd 11 283 (F283 z) := am_meth (by decide +kernel) (fun as M r has h => by
    rw [am_l283]
    unfold F283 at h
    split at h
    · exact ⟨Nat.le_of_ble_eq_true rfl, e283 z _ _ h⟩
    · cases h)
def cd284_0 : List am_E := [(0, .aload_n 0, 1, 0, 0, 0, 0), (1, .getfield 91, 3, 11, 47, 0, 0), (4, .bipush 60, 2, 0, 0, 60, 0), (6, .iload_n 1, 1, 1, 0, 0, 0), (7, .imul, 1, 0, 0, 0, 0), (8, .iload_n 2, 1, 2, 0, 0, 0), (9, .iadd, 1, 0, 0, 0, 0), (10, .laload, 1, 0, 0, 0, 0), (11, .lreturn, 1, 0, 0, 0, 0)]
def cd284 : List am_E := cd284_0
def am_w284 : List (List (Int32 × Nat) × Nat) := []
set_option maxRecDepth 100000 in
theorem kcd284_0 : cd284_0.all (am_chk am_w284 284) = true := by decide +kernel
theorem am_k284 : cd284.all (am_chk am_w284 284) = true := by
  simp only [cd284, List.all_append, kcd284_0, Bool.and_self]
theorem am_r284 : am_rtc 284 = 2 := by decide +kernel
theorem am_l284 : am_ml 284 = 3 := by decide +kernel
def am_s284_ (z : Nat) : Nat → List aV → aM → Option aR := am_s0
theorem hs284 (z : Nat) : ∀ j2 : Nat, ∃ d2 : Nat, d2 + 1 ≤ 1 ∧ am_Snd d2 j2 (am_s284_ z j2) := (am_s0_ok (by decide))
/-- ArgumentMenderModel.numberAt(II)J -/
def f284 (z : Nat) (x1 : Int32) (x2 : Int32) (M : aM) : Option aR :=
  if am_inB (((60 : Int32) * x1) + x2) 240 then
    some (some (.inr (.inl (M.2 231 (((60 : Int32) * x1) + x2).toNatClampNeg))), M)
  else
    none
set_option maxRecDepth 100000 in
set_option maxHeartbeats 4000000 in
theorem e284 (z : Nat) : ∀ (x1 : Int32) (x2 : Int32) (M : aM) (r : aR), f284 z x1 x2 M = some r → am_Ev 1 284 0 [some (.inr (.inr (11, 205))), some (.inl x1), some (.inl x2)] [] M r := by
  intro x1 x2 M r h
  exact am_Ev_seg (sem := am_s284_ z) (cut := ([] : List (Nat × List Bool))) (hs284 z) am_r284 am_k284 (by rw [am_l284]; decide) am_k0 10 h am_k0_ok
def F284 (z : Nat) (as : List aV) (M : aM) : Option aR := match as with
  | [.inr (.inr (11, 205)), .inl x1, .inl x2] => f284 z x1 x2 M
  | _ => none
theorem S284 (z : Nat) : am_Snd 1 284 (F284 z) := am_meth (by decide +kernel) (fun as M r has h => by
    rw [am_l284]
    unfold F284 at h
    split at h
    · exact ⟨Nat.le_of_ble_eq_true rfl, e284 z _ _ _ _ h⟩
    · cases h)
def cd323_0 : List am_E := [(0, .iload_n 0, 1, 0, 0, 0, 0), (1, .i2l, 1, 0, 0, 0, 0), (2, .lconst 0, 1, 0, 0, 0, 0), (3, .ldc2_w 445, 3, 0, 0, 0, 3), (6, .invokestatic 103, 3, 170, 35, 0, 0), (9, .ireturn, 1, 0, 0, 0, 0)]
def cd323 : List am_E := cd323_0
def am_w323 : List (List (Int32 × Nat) × Nat) := []
set_option maxRecDepth 100000 in
theorem kcd323_0 : cd323_0.all (am_chk am_w323 323) = true := by decide +kernel
theorem am_k323 : cd323.all (am_chk am_w323 323) = true := by
  simp only [cd323, List.all_append, kcd323_0, Bool.and_self]
theorem am_r323 : am_rtc 323 = 1 := by decide +kernel
theorem am_l323 : am_ml 323 = 1 := by decide +kernel
def am_s323_ (z : Nat) : Nat → List aV → aM → Option aR := (am_sm 170 (F170 z) am_s0)
theorem hs323 (z : Nat) : ∀ j2 : Nat, ∃ d2 : Nat, d2 + 1 ≤ 2 ∧ am_Snd d2 j2 (am_s323_ z j2) := (am_sm_ok (S170 z) (by decide) (am_s0_ok (by decide)))
/-- ArgumentMenderModel.isSlot(I)Z -/
def f323 (z : Nat) (x0 : Int32) (M : aM) : Option aR :=
  am_bi (f170 z (Int32.toInt64 x0) (0 : Int64) (3 : Int64) M) fun v2 M1 =>
    some (some (.inl (v2 &&& 1)), M1)
set_option maxRecDepth 100000 in
set_option maxHeartbeats 4000000 in
theorem e323 (z : Nat) : ∀ (x0 : Int32) (M : aM) (r : aR), f323 z x0 M = some r → am_Ev 2 323 0 [some (.inl x0)] [] M r := by
  intro x0 M r h
  exact am_Ev_seg (sem := am_s323_ z) (cut := ([] : List (Nat × List Bool))) (hs323 z) am_r323 am_k323 (by rw [am_l323]; decide) am_k0 7 h am_k0_ok
def F323 (z : Nat) (as : List aV) (M : aM) : Option aR := match as with
  | [.inl x0] => f323 z x0 M
  | _ => none
theorem S323 (z : Nat) : am_Snd 2 323 (F323 z) := am_meth (by decide +kernel) (fun as M r has h => by
    rw [am_l323]
    unfold F323 at h
    split at h
    · exact ⟨Nat.le_of_ble_eq_true rfl, e323 z _ _ _ h⟩
    · cases h)
def cd285_0 : List am_E := [(0, .iload_n 1, 1, 1, 0, 0, 0), (1, .invokestatic 412, 3, 323, 15, 0, 0), (4, .ifCond .eq 10, 3, 14, 0, 0, 0), (7, .aload_n 0, 1, 0, 0, 0, 0), (8, .invokevirtual 107, 3, 175, 11000, 0, 0), (11, .ifCond .ne 6, 3, 17, 0, 0, 0), (14, .bipush (-2), 2, 0, 0, (-2), 0), (16, .ireturn, 1, 0, 0, 0, 0), (17, .aload_n 0, 1, 0, 0, 0, 0), (18, .getfield 85, 3, 11, 45, 0, 0), (21, .iload_n 1, 1, 1, 0, 0, 0), (22, .iaload, 1, 0, 0, 0, 0), (23, .iconst (-1), 1, 0, 0, (-1), 0), (24, .if_icmp .ne 6, 3, 30, 0, 0, 0), (27, .bipush (-6), 2, 0, 0, (-6), 0), (29, .ireturn, 1, 0, 0, 0, 0), (30, .aload_n 0, 1, 0, 0, 0, 0), (31, .getfield 85, 3, 11, 45, 0, 0), (34, .iload_n 1, 1, 1, 0, 0, 0), (35, .iaload, 1, 0, 0, 0, 0), (36, .iconst 3, 1, 0, 0, 3, 0), (37, .irem, 1, 0, 0, 0, 0), (38, .ifCond .eq 6, 3, 44, 0, 0, 0), (41, .bipush (-2), 2, 0, 0, (-2), 0), (43, .ireturn, 1, 0, 0, 0, 0), (44, .iconst 0, 1, 0, 0, 0, 0), (45, .istore_n 2, 1, 2, 0, 0, 0), (46, .iload_n 2, 1, 2, 0, 0, 0), (47, .aload_n 0, 1, 0, 0, 0, 0), (48, .getfield 85, 3, 11, 45, 0, 0), (51, .iload_n 1, 1, 1, 0, 0, 0), (52, .iaload, 1, 0, 0, 0, 0), (53, .if_icmp .ge 58, 3, 111, 0, 0, 0), (56, .aload_n 0, 1, 0, 0, 0, 0), (57, .aload_n 0, 1, 0, 0, 0, 0), (58, .iload_n 1, 1, 1, 0, 0, 0), (59, .iload_n 2, 1, 2, 0, 0, 0), (60, .invokevirtual 415, 3, 284, 11022, 0, 0), (63, .invokevirtual 241, 3, 183, 11010, 0, 0), (66, .ifCond .eq 36, 3, 102, 0, 0, 0)]
def cd285_1 : List am_E := [(69, .aload_n 0, 1, 0, 0, 0, 0), (70, .aload_n 0, 1, 0, 0, 0, 0), (71, .iload_n 1, 1, 1, 0, 0, 0), (72, .iload_n 2, 1, 2, 0, 0, 0), (73, .iconst 1, 1, 0, 0, 1, 0), (74, .iadd, 1, 0, 0, 0, 0), (75, .invokevirtual 415, 3, 284, 11022, 0, 0), (78, .invokevirtual 338, 3, 180, 11010, 0, 0), (81, .ifCond .eq 21, 3, 102, 0, 0, 0), (84, .aload_n 0, 1, 0, 0, 0, 0), (85, .iload_n 1, 1, 1, 0, 0, 0), (86, .iload_n 2, 1, 2, 0, 0, 0), (87, .iconst 2, 1, 0, 0, 2, 0), (88, .iadd, 1, 0, 0, 0, 0), (89, .invokevirtual 415, 3, 284, 11022, 0, 0), (92, .lconst 0, 1, 0, 0, 0, 0), (93, .ldc2_w 419, 3, 0, 0, 0, 99), (96, .invokestatic 103, 3, 170, 35, 0, 0), (99, .ifCond .ne 6, 3, 105, 0, 0, 0), (102, .bipush (-2), 2, 0, 0, (-2), 0), (104, .ireturn, 1, 0, 0, 0, 0), (105, .iinc 2 3, 3, 2, 0, 3, 0), (108, .goto (-62), 3, 46, 0, 0, 0), (111, .aload_n 0, 1, 0, 0, 0, 0), (112, .invokevirtual 329, 3, 211, 11004, 0, 0), (115, .iconst 0, 1, 0, 0, 0, 0), (116, .ireturn, 1, 0, 0, 0, 0)]
def cd285 : List am_E := cd285_0 ++ (cd285_1)
def am_w285 : List (List (Int32 × Nat) × Nat) := []
set_option maxRecDepth 100000 in
theorem kcd285_0 : cd285_0.all (am_chk am_w285 285) = true := by decide +kernel
set_option maxRecDepth 100000 in
theorem kcd285_1 : cd285_1.all (am_chk am_w285 285) = true := by decide +kernel
theorem am_k285 : cd285.all (am_chk am_w285 285) = true := by
  simp only [cd285, List.all_append, kcd285_0, kcd285_1, Bool.and_self]
theorem am_r285 : am_rtc 285 = 0 := by decide +kernel
theorem am_l285 : am_ml 285 = 3 := by decide +kernel
def am_s285_ (z : Nat) : Nat → List aV → aM → Option aR := (am_sm 170 (F170 z) (am_sm 175 (F175 z) (am_sm 180 (F180 z) (am_sm 183 (F183 z) (am_sm 211 (F211 z) (am_sm 284 (F284 z) (am_sm 323 (F323 z) am_s0)))))))
theorem hs285 (z : Nat) : ∀ j2 : Nat, ∃ d2 : Nat, d2 + 1 ≤ 3 ∧ am_Snd d2 j2 (am_s285_ z j2) := (am_sm_ok (S170 z) (by decide) (am_sm_ok (S175 z) (by decide) (am_sm_ok (S180 z) (by decide) (am_sm_ok (S183 z) (by decide) (am_sm_ok (S211 z) (by decide) (am_sm_ok (S284 z) (by decide) (am_sm_ok (S323 z) (by decide) (am_s0_ok (by decide)))))))))
def f285_46 (z : Nat) : Nat → Int32 → Int32 → aM → Option aR
  | 0, _, _, _ => none
  | n + 1, x1, x2, M =>
    if am_inB x1 4 then
      if (M.1 229 x1.toNatClampNeg) ≤ x2 then
        am_bv (f211 z M) fun M1 =>
          some (some (.inl (0 : Int32)), M1)
      else
        am_bl (f284 z x1 x2 M) fun v3 M2 =>
          am_bi (f183 z v3 M2) fun v5 M4 =>
            if v5 = 0 then
              some (some (.inl (-2 : Int32)), M4)
            else
              am_bl (f284 z x1 (x2 + (1 : Int32)) M4) fun v7 M6 =>
                am_bi (f180 z v7 M6) fun v9 M8 =>
                  if v9 = 0 then
                    some (some (.inl (-2 : Int32)), M8)
                  else
                    am_bl (f284 z x1 (x2 + (2 : Int32)) M8) fun v11 M10 =>
                      am_bi (f170 z v11 (0 : Int64) (99 : Int64) M10) fun v13 M12 =>
                        if ¬ v13 = 0 then
                          f285_46 z n x1 (x2 + (3 : Int32)) M12
                        else
                          some (some (.inl (-2 : Int32)), M12)
    else
      none
set_option maxRecDepth 100000 in
set_option maxHeartbeats 4000000 in
theorem e285_46 (z : Nat) : ∀ (n : Nat) (x1 : Int32) (x2 : Int32) (M : aM) (r : aR), f285_46 z n x1 x2 M = some r → am_Ev 3 285 46 [some (.inr (.inr (11, 205))), some (.inl x1), some (.inl x2)] [] M r := by
  intro n
  induction n with
  | zero =>
    intro x1 x2 M r h
    cases h
  | succ n ih =>
    intro x1 x2 M r h
    exact am_Ev_seg (sem := am_s285_ z) (cut := ([(46, [true, true, true])] : List (Nat × List Bool))) (hs285 z) am_r285 am_k285 (by rw [am_l285]; decide) (am_kc 46 (fun al st M => match al, st with
      | [some (.inr (.inr (11, 205))), some (.inl x1), some (.inl x2)], [] => f285_46 z n x1 x2 M
      | _, _ => none) am_k0) 36 h (am_kc_ok (fun al st M hk => by
      split at hk
      · exact ih _ _ _ _ hk
      · cases hk) am_k0_ok)
/-- ArgumentMenderModel.askSeen(I)I -/
def f285 (z : Nat) (x1 : Int32) (M : aM) : Option aR :=
  am_bi (f323 z x1 M) fun v2 M1 =>
    if v2 = 0 then
      some (some (.inl (-2 : Int32)), M1)
    else
      am_bi (f175 z M1) fun v4 M3 =>
        if ¬ v4 = 0 then
          if am_inB x1 4 then
            if ¬ (M3.1 229 x1.toNatClampNeg) = (-1 : Int32) then
              if am_inB x1 4 then
                if (3 : Int32) = 0 then
                  none
                else
                  if ((M3.1 229 x1.toNatClampNeg) - (M3.1 229 x1.toNatClampNeg) / (3 : Int32) * (3 : Int32)) = 0 then
                    f285_46 z z x1 (0 : Int32) M3
                  else
                    some (some (.inl (-2 : Int32)), M3)
              else
                none
            else
              some (some (.inl (-6 : Int32)), M3)
          else
            none
        else
          some (some (.inl (-2 : Int32)), M3)
set_option maxRecDepth 100000 in
set_option maxHeartbeats 4000000 in
theorem e285 (z : Nat) : ∀ (x1 : Int32) (M : aM) (r : aR), f285 z x1 M = some r → am_Ev 3 285 0 [some (.inr (.inr (11, 205))), some (.inl x1), none] [] M r := by
  intro x1 M r h
  exact am_Ev_seg (sem := am_s285_ z) (cut := ([(46, [true, true, true])] : List (Nat × List Bool))) (hs285 z) am_r285 am_k285 (by rw [am_l285]; decide) (am_kc 46 (fun al st M => match al, st with
      | [some (.inr (.inr (11, 205))), some (.inl x1), some (.inl x2)], [] => f285_46 z z x1 x2 M
      | _, _ => none) am_k0) 23 h (am_kc_ok (fun al st M hk => by
      split at hk
      · exact e285_46 z _ _ _ _ _ hk
      · cases hk) am_k0_ok)
def F285 (z : Nat) (as : List aV) (M : aM) : Option aR := match as with
  | [.inr (.inr (11, 205)), .inl x1] => f285 z x1 M
  | _ => none
theorem S285 (z : Nat) : am_Snd 3 285 (F285 z) := am_meth (by decide +kernel) (fun as M r has h => by
    rw [am_l285]
    unfold F285 at h
    split at h
    · exact ⟨Nat.le_of_ble_eq_true rfl, e285 z _ _ _ h⟩
    · cases h)
def cd286_0 : List am_E := [(0, .aload_n 0, 1, 0, 0, 0, 0), (1, .invokevirtual 332, 3, 224, 11004, 0, 0), (4, .iconst 0, 1, 0, 0, 0, 0), (5, .istore_n 2, 1, 2, 0, 0, 0), (6, .iload_n 2, 1, 2, 0, 0, 0), (7, .aload_n 0, 1, 0, 0, 0, 0), (8, .getfield 85, 3, 11, 45, 0, 0), (11, .iload_n 1, 1, 1, 0, 0, 0), (12, .iaload, 1, 0, 0, 0, 0), (13, .if_icmp .ge 44, 3, 57, 0, 0, 0), (16, .aload_n 0, 1, 0, 0, 0, 0), (17, .aload_n 0, 1, 0, 0, 0, 0), (18, .iload_n 1, 1, 1, 0, 0, 0), (19, .iload_n 2, 1, 2, 0, 0, 0), (20, .invokevirtual 415, 3, 284, 11022, 0, 0), (23, .l2i, 1, 0, 0, 0, 0), (24, .aload_n 0, 1, 0, 0, 0, 0), (25, .iload_n 1, 1, 1, 0, 0, 0), (26, .iload_n 2, 1, 2, 0, 0, 0), (27, .iconst 1, 1, 0, 0, 1, 0), (28, .iadd, 1, 0, 0, 0, 0), (29, .invokevirtual 415, 3, 284, 11022, 0, 0), (32, .l2i, 1, 0, 0, 0, 0), (33, .invokevirtual 341, 3, 227, 11020, 0, 0), (36, .i2l, 1, 0, 0, 0, 0), (37, .aload_n 0, 1, 0, 0, 0, 0), (38, .iload_n 1, 1, 1, 0, 0, 0), (39, .iload_n 2, 1, 2, 0, 0, 0), (40, .iconst 2, 1, 0, 0, 2, 0), (41, .iadd, 1, 0, 0, 0, 0), (42, .invokevirtual 415, 3, 284, 11022, 0, 0), (45, .lcmp, 1, 0, 0, 0, 0), (46, .ifCond .eq 5, 3, 51, 0, 0, 0), (49, .iconst 0, 1, 0, 0, 0, 0), (50, .ireturn, 1, 0, 0, 0, 0), (51, .iinc 2 3, 3, 2, 0, 3, 0), (54, .goto (-48), 3, 6, 0, 0, 0), (57, .iconst 1, 1, 0, 0, 1, 0), (58, .ireturn, 1, 0, 0, 0, 0)]
def cd286 : List am_E := cd286_0
def am_w286 : List (List (Int32 × Nat) × Nat) := []
set_option maxRecDepth 100000 in
theorem kcd286_0 : cd286_0.all (am_chk am_w286 286) = true := by decide +kernel
theorem am_k286 : cd286.all (am_chk am_w286 286) = true := by
  simp only [cd286, List.all_append, kcd286_0, Bool.and_self]
theorem am_r286 : am_rtc 286 = 1 := by decide +kernel
theorem am_l286 : am_ml 286 = 3 := by decide +kernel
def am_s286_ (z : Nat) : Nat → List aV → aM → Option aR := (am_sm 224 (F224 z) (am_sm 227 (F227 z) (am_sm 284 (F284 z) am_s0)))
theorem hs286 (z : Nat) : ∀ j2 : Nat, ∃ d2 : Nat, d2 + 1 ≤ 10 ∧ am_Snd d2 j2 (am_s286_ z j2) := (am_sm_ok (S224 z) (by decide) (am_sm_ok (S227 z) (by decide) (am_sm_ok (S284 z) (by decide) (am_s0_ok (by decide)))))
def f286_6 (z : Nat) : Nat → Int32 → Int32 → aM → Option aR
  | 0, _, _, _ => none
  | n + 1, x1, x2, M =>
    if am_inB x1 4 then
      if (M.1 229 x1.toNatClampNeg) ≤ x2 then
        some (some (.inl ((1 : Int32) &&& 1)), M)
      else
        am_bl (f284 z x1 x2 M) fun v2 M1 =>
          am_bl (f284 z x1 (x2 + (1 : Int32)) M1) fun v4 M3 =>
            am_bi (f227 z (Int64.toInt32 v2) (Int64.toInt32 v4) M3) fun v6 M5 =>
              am_bl (f284 z x1 (x2 + (2 : Int32)) M5) fun v8 M7 =>
                if (lg_cmp (Int32.toInt64 v6) v8) = 0 then
                  f286_6 z n x1 (x2 + (3 : Int32)) M7
                else
                  some (some (.inl ((0 : Int32) &&& 1)), M7)
    else
      none
set_option maxRecDepth 100000 in
set_option maxHeartbeats 4000000 in
theorem e286_6 (z : Nat) : ∀ (n : Nat) (x1 : Int32) (x2 : Int32) (M : aM) (r : aR), f286_6 z n x1 x2 M = some r → am_Ev 10 286 6 [some (.inr (.inr (11, 205))), some (.inl x1), some (.inl x2)] [] M r := by
  intro n
  induction n with
  | zero =>
    intro x1 x2 M r h
    cases h
  | succ n ih =>
    intro x1 x2 M r h
    exact am_Ev_seg (sem := am_s286_ z) (cut := ([(6, [true, true, true])] : List (Nat × List Bool))) (hs286 z) am_r286 am_k286 (by rw [am_l286]; decide) (am_kc 6 (fun al st M => match al, st with
      | [some (.inr (.inr (11, 205))), some (.inl x1), some (.inl x2)], [] => f286_6 z n x1 x2 M
      | _, _ => none) am_k0) 33 h (am_kc_ok (fun al st M hk => by
      split at hk
      · exact ih _ _ _ _ hk
      · cases hk) am_k0_ok)
/-- ArgumentMenderModel.isSeen(I)Z -/
def f286 (z : Nat) (x1 : Int32) (M : aM) : Option aR :=
  am_bv (f224 z M) fun M1 =>
    f286_6 z z x1 (0 : Int32) M1
set_option maxRecDepth 100000 in
set_option maxHeartbeats 4000000 in
theorem e286 (z : Nat) : ∀ (x1 : Int32) (M : aM) (r : aR), f286 z x1 M = some r → am_Ev 10 286 0 [some (.inr (.inr (11, 205))), some (.inl x1), none] [] M r := by
  intro x1 M r h
  exact am_Ev_seg (sem := am_s286_ z) (cut := ([(6, [true, true, true])] : List (Nat × List Bool))) (hs286 z) am_r286 am_k286 (by rw [am_l286]; decide) (am_kc 6 (fun al st M => match al, st with
      | [some (.inr (.inr (11, 205))), some (.inl x1), some (.inl x2)], [] => f286_6 z z x1 x2 M
      | _, _ => none) am_k0) 6 h (am_kc_ok (fun al st M hk => by
      split at hk
      · exact e286_6 z _ _ _ _ _ hk
      · cases hk) am_k0_ok)
def F286 (z : Nat) (as : List aV) (M : aM) : Option aR := match as with
  | [.inr (.inr (11, 205)), .inl x1] => f286 z x1 M
  | _ => none
theorem S286 (z : Nat) : am_Snd 10 286 (F286 z) := am_meth (by decide +kernel) (fun as M r has h => by
    rw [am_l286]
    unfold F286 at h
    split at h
    · exact ⟨Nat.le_of_ble_eq_true rfl, e286 z _ _ _ h⟩
    · cases h)
def cd287_0 : List am_E := [(0, .aload_n 0, 1, 0, 0, 0, 0), (1, .iload_n 2, 1, 2, 0, 0, 0), (2, .i2l, 1, 0, 0, 0, 0), (3, .invokevirtual 241, 3, 183, 11010, 0, 0), (6, .ifCond .ne 6, 3, 12, 0, 0, 0), (9, .bipush (-2), 2, 0, 0, (-2), 0), (11, .ireturn, 1, 0, 0, 0, 0), (12, .aload_n 0, 1, 0, 0, 0, 0), (13, .iload_n 1, 1, 1, 0, 0, 0), (14, .invokevirtual 421, 3, 285, 11010, 0, 0), (17, .istore_n 3, 1, 3, 0, 0, 0), (18, .iload_n 3, 1, 3, 0, 0, 0), (19, .ifCond .ge 5, 3, 24, 0, 0, 0), (22, .iload_n 3, 1, 3, 0, 0, 0), (23, .ireturn, 1, 0, 0, 0, 0), (24, .aload_n 0, 1, 0, 0, 0, 0), (25, .iconst 0, 1, 0, 0, 0, 0), (26, .putfield 424, 3, 11, 39, 0, 0), (29, .iconst 1, 1, 0, 0, 1, 0), (30, .istore 4, 2, 4, 0, 0, 0), (32, .iload 4, 2, 4, 0, 0, 0), (34, .bipush 60, 2, 0, 0, 60, 0), (36, .if_icmp .gt 89, 3, 125, 0, 0, 0), (39, .aload_n 0, 1, 0, 0, 0, 0), (40, .getfield 34, 3, 11, 15, 0, 0), (43, .iload_n 2, 1, 2, 0, 0, 0), (44, .iload 4, 2, 4, 0, 0, 0), (46, .iastore, 1, 0, 0, 0, 0), (47, .aload_n 0, 1, 0, 0, 0, 0), (48, .iload_n 1, 1, 1, 0, 0, 0), (49, .invokevirtual 427, 3, 286, 11010, 0, 0), (52, .ifCond .ne 6, 3, 58, 0, 0, 0), (55, .goto 64, 3, 119, 0, 0, 0), (58, .aload_n 0, 1, 0, 0, 0, 0), (59, .getfield 76, 3, 11, 37, 0, 0), (62, .aload_n 0, 1, 0, 0, 0, 0), (63, .getfield 424, 3, 11, 39, 0, 0), (66, .iload 4, 2, 4, 0, 0, 0), (68, .iastore, 1, 0, 0, 0, 0), (69, .iconst 0, 1, 0, 0, 0, 0)]
def cd287_1 : List am_E := [(70, .istore 5, 2, 5, 0, 0, 0), (72, .iload 5, 2, 5, 0, 0, 0), (74, .aload_n 0, 1, 0, 0, 0, 0), (75, .invokevirtual 111, 3, 176, 11000, 0, 0), (78, .if_icmp .gt 31, 3, 109, 0, 0, 0), (81, .aload_n 0, 1, 0, 0, 0, 0), (82, .getfield 79, 3, 11, 38, 0, 0), (85, .bipush 13, 2, 0, 0, 13, 0), (87, .aload_n 0, 1, 0, 0, 0, 0), (88, .getfield 424, 3, 11, 39, 0, 0), (91, .imul, 1, 0, 0, 0, 0), (92, .iload 5, 2, 5, 0, 0, 0), (94, .iadd, 1, 0, 0, 0, 0), (95, .aload_n 0, 1, 0, 0, 0, 0), (96, .iload_n 2, 1, 2, 0, 0, 0), (97, .iload 5, 2, 5, 0, 0, 0), (99, .invokevirtual 341, 3, 227, 11020, 0, 0), (102, .iastore, 1, 0, 0, 0, 0), (103, .iinc 5 1, 3, 5, 0, 1, 0), (106, .goto (-34), 3, 72, 0, 0, 0), (109, .aload_n 0, 1, 0, 0, 0, 0), (110, .dup, 1, 0, 0, 0, 0), (111, .getfield 424, 3, 11, 39, 0, 0), (114, .iconst 1, 1, 0, 0, 1, 0), (115, .iadd, 1, 0, 0, 0, 0), (116, .putfield 424, 3, 11, 39, 0, 0), (119, .iinc 4 1, 3, 4, 0, 1, 0), (122, .goto (-90), 3, 32, 0, 0, 0), (125, .iconst 0, 1, 0, 0, 0, 0), (126, .ireturn, 1, 0, 0, 0, 0)]
def cd287 : List am_E := cd287_0 ++ (cd287_1)
def am_w287 : List (List (Int32 × Nat) × Nat) := []
set_option maxRecDepth 100000 in
theorem kcd287_0 : cd287_0.all (am_chk am_w287 287) = true := by decide +kernel
set_option maxRecDepth 100000 in
theorem kcd287_1 : cd287_1.all (am_chk am_w287 287) = true := by decide +kernel
theorem am_k287 : cd287.all (am_chk am_w287 287) = true := by
  simp only [cd287, List.all_append, kcd287_0, kcd287_1, Bool.and_self]
theorem am_r287 : am_rtc 287 = 0 := by decide +kernel
theorem am_l287 : am_ml 287 = 6 := by decide +kernel
def am_s287_ (z : Nat) : Nat → List aV → aM → Option aR := (am_sm 176 (F176 z) (am_sm 183 (F183 z) (am_sm 227 (F227 z) (am_sm 285 (F285 z) (am_sm 286 (F286 z) am_s0)))))
theorem hs287 (z : Nat) : ∀ j2 : Nat, ∃ d2 : Nat, d2 + 1 ≤ 11 ∧ am_Snd d2 j2 (am_s287_ z j2) := (am_sm_ok (S176 z) (by decide) (am_sm_ok (S183 z) (by decide) (am_sm_ok (S227 z) (by decide) (am_sm_ok (S285 z) (by decide) (am_sm_ok (S286 z) (by decide) (am_s0_ok (by decide)))))))
def f287_72 (z : Nat) (k32 : Int32 → Int32 → Int32 → aM → Option aR) : Nat → Int32 → Int32 → Int32 → Int32 → aM → Option aR
  | 0, _, _, _, _, _ => none
  | n + 1, x1, x2, x4, x5, M =>
    am_bi (f176 z M) fun v2 M1 =>
      if v2 < x5 then
        let I3 := am_u M1.1 205 39 ((M1.1 205 39) + (1 : Int32))
        k32 x1 x2 (x4 + (1 : Int32)) (I3, M1.2)
      else
        am_bi (f227 z x2 x5 M1) fun v5 M4 =>
          if am_inB (((13 : Int32) * (M1.1 205 39)) + x5) 780 then
            let I6 := am_u M4.1 227 (((13 : Int32) * (M1.1 205 39)) + x5).toNatClampNeg v5
            f287_72 z k32 n x1 x2 x4 (x5 + (1 : Int32)) (I6, M4.2)
          else
            none
set_option maxRecDepth 100000 in
set_option maxHeartbeats 4000000 in
theorem e287_72 (z : Nat) (k32 : Int32 → Int32 → Int32 → aM → Option aR) (hk32 : ∀ (x1 : Int32) (x2 : Int32) (x4 : Int32) (M : aM) (r : aR), k32 x1 x2 x4 M = some r → am_Ev 11 287 32 [some (.inr (.inr (11, 205))), some (.inl x1), some (.inl x2), none, some (.inl x4), none] [] M r) : ∀ (n : Nat) (x1 : Int32) (x2 : Int32) (x4 : Int32) (x5 : Int32) (M : aM) (r : aR), f287_72 z k32 n x1 x2 x4 x5 M = some r → am_Ev 11 287 72 [some (.inr (.inr (11, 205))), some (.inl x1), some (.inl x2), none, some (.inl x4), some (.inl x5)] [] M r := by
  intro n
  induction n with
  | zero =>
    intro x1 x2 x4 x5 M r h
    cases h
  | succ n ih =>
    intro x1 x2 x4 x5 M r h
    exact am_Ev_seg (sem := am_s287_ z) (cut := ([(32, [true, true, true, false, true, false]), (72, [true, true, true, false, true, true])] : List (Nat × List Bool))) (hs287 z) am_r287 am_k287 (by rw [am_l287]; decide) (am_kc 32 (fun al st M => match al, st with
      | [some (.inr (.inr (11, 205))), some (.inl x1), some (.inl x2), none, some (.inl x4), none], [] => k32 x1 x2 x4 M
      | _, _ => none) (am_kc 72 (fun al st M => match al, st with
      | [some (.inr (.inr (11, 205))), some (.inl x1), some (.inl x2), none, some (.inl x4), some (.inl x5)], [] => f287_72 z k32 n x1 x2 x4 x5 M
      | _, _ => none) am_k0)) 21 h (am_kc_ok (fun al st M hk => by
      split at hk
      · exact hk32 _ _ _ _ _ hk
      · cases hk) (am_kc_ok (fun al st M hk => by
      split at hk
      · exact ih _ _ _ _ _ _ hk
      · cases hk) am_k0_ok))
def f287_32 (z : Nat) : Nat → Int32 → Int32 → Int32 → aM → Option aR
  | 0, _, _, _, _ => none
  | n + 1, x1, x2, x4, M =>
    if (60 : Int32) < x4 then
      some (some (.inl (0 : Int32)), M)
    else
      if am_inB x2 16 then
        let I1 := am_u M.1 212 x2.toNatClampNeg x4
        am_bi (f286 z x1 (I1, M.2)) fun v3 M2 =>
          if ¬ v3 = 0 then
            if am_inB (M2.1 205 39) 60 then
              let I4 := am_u M2.1 226 (M2.1 205 39).toNatClampNeg x4
              f287_72 z (f287_32 z n) z x1 x2 x4 (0 : Int32) (I4, M2.2)
            else
              none
          else
            f287_32 z n x1 x2 (x4 + (1 : Int32)) M2
      else
        none
set_option maxRecDepth 100000 in
set_option maxHeartbeats 4000000 in
theorem e287_32 (z : Nat) : ∀ (n : Nat) (x1 : Int32) (x2 : Int32) (x4 : Int32) (M : aM) (r : aR), f287_32 z n x1 x2 x4 M = some r → am_Ev 11 287 32 [some (.inr (.inr (11, 205))), some (.inl x1), some (.inl x2), none, some (.inl x4), none] [] M r := by
  intro n
  induction n with
  | zero =>
    intro x1 x2 x4 M r h
    cases h
  | succ n ih =>
    intro x1 x2 x4 M r h
    exact am_Ev_seg (sem := am_s287_ z) (cut := ([(32, [true, true, true, false, true, false]), (72, [true, true, true, false, true, true])] : List (Nat × List Bool))) (hs287 z) am_r287 am_k287 (by rw [am_l287]; decide) (am_kc 32 (fun al st M => match al, st with
      | [some (.inr (.inr (11, 205))), some (.inl x1), some (.inl x2), none, some (.inl x4), none], [] => f287_32 z n x1 x2 x4 M
      | _, _ => none) (am_kc 72 (fun al st M => match al, st with
      | [some (.inr (.inr (11, 205))), some (.inl x1), some (.inl x2), none, some (.inl x4), some (.inl x5)], [] => f287_72 z (f287_32 z n) z x1 x2 x4 x5 M
      | _, _ => none) am_k0)) 22 h (am_kc_ok (fun al st M hk => by
      split at hk
      · exact ih _ _ _ _ _ hk
      · cases hk) (am_kc_ok (fun al st M hk => by
      split at hk
      · exact e287_72 z _ ih _ _ _ _ _ _ _ hk
      · cases hk) am_k0_ok))
/-- ArgumentMenderModel.layFits(II)I -/
def f287 (z : Nat) (x1 : Int32) (x2 : Int32) (M : aM) : Option aR :=
  am_bi (f183 z (Int32.toInt64 x2) M) fun v2 M1 =>
    if ¬ v2 = 0 then
      am_bi (f285 z x1 M1) fun v4 M3 =>
        if 0 ≤ v4 then
          let I5 := am_u M3.1 205 39 (0 : Int32)
          f287_32 z z x1 x2 (1 : Int32) (I5, M3.2)
        else
          some (some (.inl v4), M3)
    else
      some (some (.inl (-2 : Int32)), M1)
set_option maxRecDepth 100000 in
set_option maxHeartbeats 4000000 in
theorem e287 (z : Nat) : ∀ (x1 : Int32) (x2 : Int32) (M : aM) (r : aR), f287 z x1 x2 M = some r → am_Ev 11 287 0 [some (.inr (.inr (11, 205))), some (.inl x1), some (.inl x2), none, none, none] [] M r := by
  intro x1 x2 M r h
  exact am_Ev_seg (sem := am_s287_ z) (cut := ([(32, [true, true, true, false, true, false])] : List (Nat × List Bool))) (hs287 z) am_r287 am_k287 (by rw [am_l287]; decide) (am_kc 32 (fun al st M => match al, st with
      | [some (.inr (.inr (11, 205))), some (.inl x1), some (.inl x2), none, some (.inl x4), none], [] => f287_32 z z x1 x2 x4 M
      | _, _ => none) am_k0) 18 h (am_kc_ok (fun al st M hk => by
      split at hk
      · exact e287_32 z _ _ _ _ _ _ hk
      · cases hk) am_k0_ok)
def F287 (z : Nat) (as : List aV) (M : aM) : Option aR := match as with
  | [.inr (.inr (11, 205)), .inl x1, .inl x2] => f287 z x1 x2 M
  | _ => none
theorem S287 (z : Nat) : am_Snd 11 287 (F287 z) := am_meth (by decide +kernel) (fun as M r has h => by
    rw [am_l287]
    unfold F287 at h
    split at h
    · exact ⟨Nat.le_of_ble_eq_true rfl, e287 z _ _ _ _ h⟩
    · cases h)
def cd288_0 : List am_E := [(0, .aload_n 0, 1, 0, 0, 0, 0), (1, .iload_n 1, 1, 1, 0, 0, 0), (2, .iload_n 2, 1, 2, 0, 0, 0), (3, .invokevirtual 430, 3, 287, 11020, 0, 0), (6, .istore_n 3, 1, 3, 0, 0, 0), (7, .iload_n 3, 1, 3, 0, 0, 0), (8, .ifCond .ge 7, 3, 15, 0, 0, 0), (11, .iload_n 3, 1, 3, 0, 0, 0), (12, .goto 7, 3, 19, 0, 0, 0), (15, .aload_n 0, 1, 0, 0, 0, 0), (16, .getfield 424, 3, 11, 39, 0, 0), (19, .ireturn, 1, 0, 0, 0, 0)]
def cd288 : List am_E := cd288_0
def am_w288 : List (List (Int32 × Nat) × Nat) := []
set_option maxRecDepth 100000 in
theorem kcd288_0 : cd288_0.all (am_chk am_w288 288) = true := by decide +kernel
theorem am_k288 : cd288.all (am_chk am_w288 288) = true := by
  simp only [cd288, List.all_append, kcd288_0, Bool.and_self]
theorem am_r288 : am_rtc 288 = 0 := by decide +kernel
theorem am_l288 : am_ml 288 = 4 := by decide +kernel
def am_s288_ (z : Nat) : Nat → List aV → aM → Option aR := (am_sm 287 (F287 z) am_s0)
theorem hs288 (z : Nat) : ∀ j2 : Nat, ∃ d2 : Nat, d2 + 1 ≤ 12 ∧ am_Snd d2 j2 (am_s288_ z j2) := (am_sm_ok (S287 z) (by decide) (am_s0_ok (by decide)))
/-- ArgumentMenderModel.fits(II)I -/
def f288 (z : Nat) (x1 : Int32) (x2 : Int32) (M : aM) : Option aR :=
  am_bi (f287 z x1 x2 M) fun v2 M1 =>
    if 0 ≤ v2 then
      some (some (.inl (M1.1 205 39)), M1)
    else
      some (some (.inl v2), M1)
set_option maxRecDepth 100000 in
set_option maxHeartbeats 4000000 in
theorem e288 (z : Nat) : ∀ (x1 : Int32) (x2 : Int32) (M : aM) (r : aR), f288 z x1 x2 M = some r → am_Ev 12 288 0 [some (.inr (.inr (11, 205))), some (.inl x1), some (.inl x2), none] [] M r := by
  intro x1 x2 M r h
  exact am_Ev_seg (sem := am_s288_ z) (cut := ([] : List (Nat × List Bool))) (hs288 z) am_r288 am_k288 (by rw [am_l288]; decide) am_k0 11 h am_k0_ok
def F288 (z : Nat) (as : List aV) (M : aM) : Option aR := match as with
  | [.inr (.inr (11, 205)), .inl x1, .inl x2] => f288 z x1 x2 M
  | _ => none
theorem S288 (z : Nat) : am_Snd 12 288 (F288 z) := am_meth (by decide +kernel) (fun as M r has h => by
    rw [am_l288]
    unfold F288 at h
    split at h
    · exact ⟨Nat.le_of_ble_eq_true rfl, e288 z _ _ _ _ h⟩
    · cases h)
