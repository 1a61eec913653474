def cd311_0 : List am_E := [(0, .aload_n 0, 1, 0, 0, 0, 0), (1, .invokevirtual 107, 3, 175, 11000, 0, 0), (4, .ifCond .eq 13, 3, 17, 0, 0, 0), (7, .iload_n 1, 1, 1, 0, 0, 0), (8, .i2l, 1, 0, 0, 0, 0), (9, .lconst 0, 1, 0, 0, 0, 0), (10, .lconst 1, 1, 0, 0, 0, 1), (11, .invokestatic 103, 3, 170, 35, 0, 0), (14, .ifCond .ne 7, 3, 21, 0, 0, 0), (17, .ldc2_w 486, 3, 0, 0, 0, (-2)), (20, .lreturn, 1, 0, 0, 0, 0), (21, .aload_n 0, 1, 0, 0, 0, 0), (22, .invokevirtual 121, 3, 179, 11000, 0, 0), (25, .bipush 8, 2, 0, 0, 8, 0), (27, .if_icmp .le 7, 3, 34, 0, 0, 0), (30, .ldc2_w 488, 3, 0, 0, 0, (-3)), (33, .lreturn, 1, 0, 0, 0, 0), (34, .aload_n 0, 1, 0, 0, 0, 0), (35, .iconst 0, 1, 0, 0, 0, 0), (36, .invokevirtual 490, 3, 309, 11014, 0, 0), (39, .aload_n 0, 1, 0, 0, 0, 0), (40, .getfield 483, 3, 11, 44, 0, 0), (43, .aload_n 0, 1, 0, 0, 0, 0), (44, .getfield 476, 3, 11, 42, 0, 0), (47, .iload_n 1, 1, 1, 0, 0, 0), (48, .invokestatic 465, 3, 303, 37, 0, 0), (51, .lreturn, 1, 0, 0, 0, 0)]
def cd311 : List am_E := cd311_0
def am_w311 : List (List (Int32 × Nat) × Nat) := []
set_option maxRecDepth 100000 in
theorem kcd311_0 : cd311_0.all (am_chk am_w311 311) = true := by decide +kernel
theorem am_k311 : cd311.all (am_chk am_w311 311) = true := by
  simp only [cd311, List.all_append, kcd311_0, Bool.and_self]
theorem am_r311 : am_rtc 311 = 2 := by decide +kernel
theorem am_l311 : am_ml 311 = 2 := by decide +kernel
def am_s311_ (z : Nat) : Nat → List aV → aM → Option aR := (am_sm 170 (F170 z) (am_sm 175 (F175 z) (am_sm 179 (F179 z) (am_sm 303 (F303 z) (am_sm 309 (F309 z) am_s0)))))
theorem hs311 (z : Nat) : ∀ j2 : Nat, ∃ d2 : Nat, d2 + 1 ≤ 11 ∧ am_Snd d2 j2 (am_s311_ z j2) := (am_sm_ok (S170 z) (by decide) (am_sm_ok (S175 z) (by decide) (am_sm_ok (S179 z) (by decide) (am_sm_ok (S303 z) (by decide) (am_sm_ok (S309 z) (by decide) (am_s0_ok (by decide)))))))
/-- ArgumentMenderModel.mean(I)J -/
def f311 (z : Nat) (x1 : Int32) (M : aM) : Option aR :=
  am_bi (f175 z M) fun v2 M1 =>
    if v2 = 0 then
      some (some (.inr (.inl (-2 : Int64))), M1)
    else
      am_bi (f170 z (Int32.toInt64 x1) (0 : Int64) (1 : Int64) M1) fun v4 M3 =>
        if ¬ v4 = 0 then
          am_bi (f179 z M3) fun v6 M5 =>
            if v6 ≤ (8 : Int32) then
              am_bv (f309 z (0 : Int32) M5) fun M7 =>
                am_bl (f303 z (M7.2 205 44) (M7.2 205 42) x1 M7) fun v9 M8 =>
                  some (some (.inr (.inl v9)), M8)
            else
              some (some (.inr (.inl (-3 : Int64))), M5)
        else
          some (some (.inr (.inl (-2 : Int64))), M3)
set_option maxRecDepth 100000 in
set_option maxHeartbeats 4000000 in
theorem e311 (z : Nat) : ∀ (x1 : Int32) (M : aM) (r : aR), f311 z x1 M = some r → am_Ev 11 311 0 [some (.inr (.inr (11, 205))), some (.inl x1)] [] M r := by
  intro x1 M r h
  exact am_Ev_seg (sem := am_s311_ z) (cut := ([] : List (Nat × List Bool))) (hs311 z) am_r311 am_k311 (by rw [am_l311]; decide) am_k0 24 h am_k0_ok
def F311 (z : Nat) (as : List aV) (M : aM) : Option aR := match as with
  | [.inr (.inr (11, 205)), .inl x1] => f311 z x1 M
  | _ => none
theorem S311 (z : Nat) : am_Snd 11 311 (F311 z) := am_meth (by decide +kernel) (fun as M r has h => by
    rw [am_l311]
    unfold F311 at h
    split at h
    · exact ⟨Nat.le_of_ble_eq_true rfl, e311 z _ _ _ h⟩
    · cases h)
def cd312_0 : List am_E := [(0, .aload_n 0, 1, 0, 0, 0, 0), (1, .getfield 9, 3, 11, 1, 0, 0), (4, .bipush 6, 2, 0, 0, 6, 0), (6, .iaload, 1, 0, 0, 0, 0), (7, .bipush 30, 2, 0, 0, 30, 0), (9, .if_icmp .ne 6, 3, 15, 0, 0, 0), (12, .bipush (-5), 2, 0, 0, (-5), 0), (14, .ireturn, 1, 0, 0, 0, 0), (15, .aload_n 0, 1, 0, 0, 0, 0), (16, .getfield 9, 3, 11, 1, 0, 0), (19, .bipush 86, 2, 0, 0, 86, 0), (21, .aload_n 0, 1, 0, 0, 0, 0), (22, .getfield 9, 3, 11, 1, 0, 0), (25, .bipush 6, 2, 0, 0, 6, 0), (27, .iaload, 1, 0, 0, 0, 0), (28, .iadd, 1, 0, 0, 0, 0), (29, .iload_n 1, 1, 1, 0, 0, 0), (30, .iastore, 1, 0, 0, 0, 0), (31, .aload_n 0, 1, 0, 0, 0, 0), (32, .getfield 9, 3, 11, 1, 0, 0), (35, .bipush 6, 2, 0, 0, 6, 0), (37, .dup2, 1, 0, 0, 0, 0), (38, .iaload, 1, 0, 0, 0, 0), (39, .iconst 1, 1, 0, 0, 1, 0), (40, .iadd, 1, 0, 0, 0, 0), (41, .iastore, 1, 0, 0, 0, 0), (42, .aload_n 0, 1, 0, 0, 0, 0), (43, .invokevirtual 335, 3, 225, 11000, 0, 0), (46, .pop, 1, 0, 0, 0, 0), (47, .aload_n 0, 1, 0, 0, 0, 0), (48, .invokevirtual 397, 3, 232, 11000, 0, 0), (51, .ireturn, 1, 0, 0, 0, 0)]
def cd312 : List am_E := cd312_0
def am_w312 : List (List (Int32 × Nat) × Nat) := []
set_option maxRecDepth 100000 in
theorem kcd312_0 : cd312_0.all (am_chk am_w312 312) = true := by decide +kernel
theorem am_k312 : cd312.all (am_chk am_w312 312) = true := by
  simp only [cd312, List.all_append, kcd312_0, Bool.and_self]
theorem am_r312 : am_rtc 312 = 0 := by decide +kernel
theorem am_l312 : am_ml 312 = 2 := by decide +kernel
def am_s312_ (z : Nat) : Nat → List aV → aM → Option aR := (am_sm 225 (F225 z) (am_sm 232 (F232 z) am_s0))
theorem hs312 (z : Nat) : ∀ j2 : Nat, ∃ d2 : Nat, d2 + 1 ≤ 11 ∧ am_Snd d2 j2 (am_s312_ z j2) := (am_sm_ok (S225 z) (by decide) (am_sm_ok (S232 z) (by decide) (am_s0_ok (by decide))))
/-- ArgumentMenderModel.keepAct(I)I -/
def f312 (z : Nat) (x1 : Int32) (M : aM) : Option aR :=
  if am_inB (6 : Int32) 116 then
    if ¬ (M.1 206 (6 : Int32).toNatClampNeg) = (30 : Int32) then
      if am_inB (6 : Int32) 116 then
        if am_inB ((86 : Int32) + (M.1 206 (6 : Int32).toNatClampNeg)) 116 then
          let I1 := am_u M.1 206 ((86 : Int32) + (M.1 206 (6 : Int32).toNatClampNeg)).toNatClampNeg x1
          if am_inB (6 : Int32) 116 then
            if am_inB (6 : Int32) 116 then
              let I2 := am_u I1 206 (6 : Int32).toNatClampNeg ((I1 206 (6 : Int32).toNatClampNeg) + (1 : Int32))
              am_bi (f225 z (I2, M.2)) fun v4 M3 =>
                am_bi (f232 z M3) fun v6 M5 =>
                  some (some (.inl v6), M5)
            else
              none
          else
            none
        else
          none
      else
        none
    else
      some (some (.inl (-5 : Int32)), M)
  else
    none
set_option maxRecDepth 100000 in
set_option maxHeartbeats 4000000 in
theorem e312 (z : Nat) : ∀ (x1 : Int32) (M : aM) (r : aR), f312 z x1 M = some r → am_Ev 11 312 0 [some (.inr (.inr (11, 205))), some (.inl x1)] [] M r := by
  intro x1 M r h
  exact am_Ev_seg (sem := am_s312_ z) (cut := ([] : List (Nat × List Bool))) (hs312 z) am_r312 am_k312 (by rw [am_l312]; decide) am_k0 31 h am_k0_ok
def F312 (z : Nat) (as : List aV) (M : aM) : Option aR := match as with
  | [.inr (.inr (11, 205)), .inl x1] => f312 z x1 M
  | _ => none
theorem S312 (z : Nat) : am_Snd 11 312 (F312 z) := am_meth (by decide +kernel) (fun as M r has h => by
    rw [am_l312]
    unfold F312 at h
    split at h
    · exact ⟨Nat.le_of_ble_eq_true rfl, e312 z _ _ _ h⟩
    · cases h)
def cd313_0 : List am_E := [(0, .aload_n 0, 1, 0, 0, 0, 0), (1, .iload_n 1, 1, 1, 0, 0, 0), (2, .i2l, 1, 0, 0, 0, 0), (3, .invokevirtual 241, 3, 183, 11010, 0, 0), (6, .ifCond .eq 47, 3, 53, 0, 0, 0), (9, .iload_n 2, 1, 2, 0, 0, 0), (10, .i2l, 1, 0, 0, 0, 0), (11, .lconst 1, 1, 0, 0, 0, 1), (12, .ldc2_w 493, 3, 0, 0, 0, 60), (15, .invokestatic 103, 3, 170, 35, 0, 0), (18, .ifCond .eq 35, 3, 53, 0, 0, 0), (21, .aload_n 0, 1, 0, 0, 0, 0), (22, .iload_n 3, 1, 3, 0, 0, 0), (23, .i2l, 1, 0, 0, 0, 0), (24, .invokevirtual 368, 3, 181, 11010, 0, 0), (27, .ifCond .eq 26, 3, 53, 0, 0, 0), (30, .aload_n 0, 1, 0, 0, 0, 0), (31, .ldc_w 316, 3, 0, 0, 1000000, 0), (34, .sipush 10000, 3, 0, 0, 10000, 0), (37, .iload_n 1, 1, 1, 0, 0, 0), (38, .imul, 1, 0, 0, 0, 0), (39, .iadd, 1, 0, 0, 0, 0), (40, .bipush 100, 2, 0, 0, 100, 0), (42, .iload_n 2, 1, 2, 0, 0, 0), (43, .imul, 1, 0, 0, 0, 0), (44, .iadd, 1, 0, 0, 0, 0), (45, .iload_n 3, 1, 3, 0, 0, 0), (46, .iadd, 1, 0, 0, 0, 0), (47, .invokevirtual 495, 3, 312, 11010, 0, 0), (50, .goto 5, 3, 55, 0, 0, 0), (53, .bipush (-2), 2, 0, 0, (-2), 0), (55, .ireturn, 1, 0, 0, 0, 0)]
def cd313 : List am_E := cd313_0
def am_w313 : List (List (Int32 × Nat) × Nat) := []
set_option maxRecDepth 100000 in
theorem kcd313_0 : cd313_0.all (am_chk am_w313 313) = true := by decide +kernel
theorem am_k313 : cd313.all (am_chk am_w313 313) = true := by
  simp only [cd313, List.all_append, kcd313_0, Bool.and_self]
theorem am_r313 : am_rtc 313 = 0 := by decide +kernel
theorem am_l313 : am_ml 313 = 4 := by decide +kernel
def am_s313_ (z : Nat) : Nat → List aV → aM → Option aR := (am_sm 170 (F170 z) (am_sm 181 (F181 z) (am_sm 183 (F183 z) (am_sm 312 (F312 z) am_s0))))
theorem hs313 (z : Nat) : ∀ j2 : Nat, ∃ d2 : Nat, d2 + 1 ≤ 12 ∧ am_Snd d2 j2 (am_s313_ z j2) := (am_sm_ok (S170 z) (by decide) (am_sm_ok (S181 z) (by decide) (am_sm_ok (S183 z) (by decide) (am_sm_ok (S312 z) (by decide) (am_s0_ok (by decide))))))
/-- ArgumentMenderModel.sews(III)I -/
def f313 (z : Nat) (x1 : Int32) (x2 : Int32) (x3 : Int32) (M : aM) : Option aR :=
  am_bi (f183 z (Int32.toInt64 x1) M) fun v2 M1 =>
    if v2 = 0 then
      some (some (.inl (-2 : Int32)), M1)
    else
      am_bi (f170 z (Int32.toInt64 x2) (1 : Int64) (60 : Int64) M1) fun v4 M3 =>
        if v4 = 0 then
          some (some (.inl (-2 : Int32)), M3)
        else
          am_bi (f181 z (Int32.toInt64 x3) M3) fun v6 M5 =>
            if v6 = 0 then
              some (some (.inl (-2 : Int32)), M5)
            else
              am_bi (f312 z ((((1000000 : Int32) + ((10000 : Int32) * x1)) + ((100 : Int32) * x2)) + x3) M5) fun v8 M7 =>
                some (some (.inl v8), M7)
set_option maxRecDepth 100000 in
set_option maxHeartbeats 4000000 in
theorem e313 (z : Nat) : ∀ (x1 : Int32) (x2 : Int32) (x3 : Int32) (M : aM) (r : aR), f313 z x1 x2 x3 M = some r → am_Ev 12 313 0 [some (.inr (.inr (11, 205))), some (.inl x1), some (.inl x2), some (.inl x3)] [] M r := by
  intro x1 x2 x3 M r h
  exact am_Ev_seg (sem := am_s313_ z) (cut := ([] : List (Nat × List Bool))) (hs313 z) am_r313 am_k313 (by rw [am_l313]; decide) am_k0 32 h am_k0_ok
def F313 (z : Nat) (as : List aV) (M : aM) : Option aR := match as with
  | [.inr (.inr (11, 205)), .inl x1, .inl x2, .inl x3] => f313 z x1 x2 x3 M
  | _ => none
theorem S313 (z : Nat) : am_Snd 12 313 (F313 z) := am_meth (by decide +kernel) (fun as M r has h => by
    rw [am_l313]
    unfold F313 at h
    split at h
    · exact ⟨Nat.le_of_ble_eq_true rfl, e313 z _ _ _ _ _ h⟩
    · cases h)
def cd314_0 : List am_E := [(0, .aload_n 0, 1, 0, 0, 0, 0), (1, .iload_n 1, 1, 1, 0, 0, 0), (2, .invokevirtual 255, 3, 182, 11010, 0, 0), (5, .ifCond .eq 43, 3, 48, 0, 0, 0), (8, .iload_n 2, 1, 2, 0, 0, 0), (9, .i2l, 1, 0, 0, 0, 0), (10, .lconst 1, 1, 0, 0, 0, 1), (11, .ldc2_w 498, 3, 0, 0, 0, 90), (14, .invokestatic 103, 3, 170, 35, 0, 0), (17, .ifCond .eq 31, 3, 48, 0, 0, 0), (20, .aload_n 0, 1, 0, 0, 0, 0), (21, .iload_n 3, 1, 3, 0, 0, 0), (22, .i2l, 1, 0, 0, 0, 0), (23, .invokevirtual 368, 3, 181, 11010, 0, 0), (26, .ifCond .eq 22, 3, 48, 0, 0, 0), (29, .aload_n 0, 1, 0, 0, 0, 0), (30, .sipush 10000, 3, 0, 0, 10000, 0), (33, .iload_n 1, 1, 1, 0, 0, 0), (34, .imul, 1, 0, 0, 0, 0), (35, .bipush 100, 2, 0, 0, 100, 0), (37, .iload_n 2, 1, 2, 0, 0, 0), (38, .imul, 1, 0, 0, 0, 0), (39, .iadd, 1, 0, 0, 0, 0), (40, .iload_n 3, 1, 3, 0, 0, 0), (41, .iadd, 1, 0, 0, 0, 0), (42, .invokevirtual 495, 3, 312, 11010, 0, 0), (45, .goto 5, 3, 50, 0, 0, 0), (48, .bipush (-2), 2, 0, 0, (-2), 0), (50, .ireturn, 1, 0, 0, 0, 0)]
def cd314 : List am_E := cd314_0
def am_w314 : List (List (Int32 × Nat) × Nat) := []
set_option maxRecDepth 100000 in
theorem kcd314_0 : cd314_0.all (am_chk am_w314 314) = true := by decide +kernel
theorem am_k314 : cd314.all (am_chk am_w314 314) = true := by
  simp only [cd314, List.all_append, kcd314_0, Bool.and_self]
theorem am_r314 : am_rtc 314 = 0 := by decide +kernel
theorem am_l314 : am_ml 314 = 4 := by decide +kernel
def am_s314_ (z : Nat) : Nat → List aV → aM → Option aR := (am_sm 170 (F170 z) (am_sm 181 (F181 z) (am_sm 182 (F182 z) (am_sm 312 (F312 z) am_s0))))
theorem hs314 (z : Nat) : ∀ j2 : Nat, ∃ d2 : Nat, d2 + 1 ≤ 12 ∧ am_Snd d2 j2 (am_s314_ z j2) := (am_sm_ok (S170 z) (by decide) (am_sm_ok (S181 z) (by decide) (am_sm_ok (S182 z) (by decide) (am_sm_ok (S312 z) (by decide) (am_s0_ok (by decide))))))
/-- ArgumentMenderModel.quarrels(III)I -/
def f314 (z : Nat) (x1 : Int32) (x2 : Int32) (x3 : Int32) (M : aM) : Option aR :=
  am_bi (f182 z x1 M) fun v2 M1 =>
    if v2 = 0 then
      some (some (.inl (-2 : Int32)), M1)
    else
      am_bi (f170 z (Int32.toInt64 x2) (1 : Int64) (90 : Int64) M1) fun v4 M3 =>
        if v4 = 0 then
          some (some (.inl (-2 : Int32)), M3)
        else
          am_bi (f181 z (Int32.toInt64 x3) M3) fun v6 M5 =>
            if v6 = 0 then
              some (some (.inl (-2 : Int32)), M5)
            else
              am_bi (f312 z ((((10000 : Int32) * x1) + ((100 : Int32) * x2)) + x3) M5) fun v8 M7 =>
                some (some (.inl v8), M7)
set_option maxRecDepth 100000 in
set_option maxHeartbeats 4000000 in
theorem e314 (z : Nat) : ∀ (x1 : Int32) (x2 : Int32) (x3 : Int32) (M : aM) (r : aR), f314 z x1 x2 x3 M = some r → am_Ev 12 314 0 [some (.inr (.inr (11, 205))), some (.inl x1), some (.inl x2), some (.inl x3)] [] M r := by
  intro x1 x2 x3 M r h
  exact am_Ev_seg (sem := am_s314_ z) (cut := ([] : List (Nat × List Bool))) (hs314 z) am_r314 am_k314 (by rw [am_l314]; decide) am_k0 29 h am_k0_ok
def F314 (z : Nat) (as : List aV) (M : aM) : Option aR := match as with
  | [.inr (.inr (11, 205)), .inl x1, .inl x2, .inl x3] => f314 z x1 x2 x3 M
  | _ => none
theorem S314 (z : Nat) : am_Snd 12 314 (F314 z) := am_meth (by decide +kernel) (fun as M r has h => by
    rw [am_l314]
    unfold F314 at h
    split at h
    · exact ⟨Nat.le_of_ble_eq_true rfl, e314 z _ _ _ _ _ h⟩
    · cases h)
def cd315_0 : List am_E := [(0, .aload_n 0, 1, 0, 0, 0, 0), (1, .invokevirtual 107, 3, 175, 11000, 0, 0), (4, .ifCond .ne 6, 3, 10, 0, 0, 0), (7, .bipush (-2), 2, 0, 0, (-2), 0), (9, .ireturn, 1, 0, 0, 0, 0), (10, .aload_n 0, 1, 0, 0, 0, 0), (11, .getfield 9, 3, 11, 1, 0, 0), (14, .bipush 6, 2, 0, 0, 6, 0), (16, .iaload, 1, 0, 0, 0, 0), (17, .ifCond .ne 6, 3, 23, 0, 0, 0), (20, .bipush (-5), 2, 0, 0, (-5), 0), (22, .ireturn, 1, 0, 0, 0, 0), (23, .aload_n 0, 1, 0, 0, 0, 0), (24, .getfield 9, 3, 11, 1, 0, 0), (27, .bipush 6, 2, 0, 0, 6, 0), (29, .dup2, 1, 0, 0, 0, 0), (30, .iaload, 1, 0, 0, 0, 0), (31, .iconst 1, 1, 0, 0, 1, 0), (32, .isub, 1, 0, 0, 0, 0), (33, .iastore, 1, 0, 0, 0, 0), (34, .aload_n 0, 1, 0, 0, 0, 0), (35, .getfield 9, 3, 11, 1, 0, 0), (38, .bipush 6, 2, 0, 0, 6, 0), (40, .iaload, 1, 0, 0, 0, 0), (41, .ireturn, 1, 0, 0, 0, 0)]
def cd315 : List am_E := cd315_0
def am_w315 : List (List (Int32 × Nat) × Nat) := []
set_option maxRecDepth 100000 in
theorem kcd315_0 : cd315_0.all (am_chk am_w315 315) = true := by decide +kernel
theorem am_k315 : cd315.all (am_chk am_w315 315) = true := by
  simp only [cd315, List.all_append, kcd315_0, Bool.and_self]
theorem am_r315 : am_rtc 315 = 0 := by decide +kernel
theorem am_l315 : am_ml 315 = 1 := by decide +kernel
def am_s315_ (z : Nat) : Nat → List aV → aM → Option aR := (am_sm 175 (F175 z) am_s0)
theorem hs315 (z : Nat) : ∀ j2 : Nat, ∃ d2 : Nat, d2 + 1 ≤ 2 ∧ am_Snd d2 j2 (am_s315_ z j2) := (am_sm_ok (S175 z) (by decide) (am_s0_ok (by decide)))
/-- ArgumentMenderModel.undo()I -/
def f315 (z : Nat) (M : aM) : Option aR :=
  am_bi (f175 z M) fun v2 M1 =>
    if ¬ v2 = 0 then
      if am_inB (6 : Int32) 116 then
        if ¬ (M1.1 206 (6 : Int32).toNatClampNeg) = 0 then
          if am_inB (6 : Int32) 116 then
            if am_inB (6 : Int32) 116 then
              let I3 := am_u M1.1 206 (6 : Int32).toNatClampNeg ((M1.1 206 (6 : Int32).toNatClampNeg) - (1 : Int32))
              if am_inB (6 : Int32) 116 then
                some (some (.inl (I3 206 (6 : Int32).toNatClampNeg)), (I3, M1.2))
              else
                none
            else
              none
          else
            none
        else
          some (some (.inl (-5 : Int32)), M1)
      else
        none
    else
      some (some (.inl (-2 : Int32)), M1)
set_option maxRecDepth 100000 in
set_option maxHeartbeats 4000000 in
theorem e315 (z : Nat) : ∀ (M : aM) (r : aR), f315 z  M = some r → am_Ev 2 315 0 [some (.inr (.inr (11, 205)))] [] M r := by
  intro  M r h
  exact am_Ev_seg (sem := am_s315_ z) (cut := ([] : List (Nat × List Bool))) (hs315 z) am_r315 am_k315 (by rw [am_l315]; decide) am_k0 22 h am_k0_ok
def F315 (z : Nat) (as : List aV) (M : aM) : Option aR := match as with
  | [.inr (.inr (11, 205))] => f315 z  M
  | _ => none
theorem S315 (z : Nat) : am_Snd 2 315 (F315 z) := am_meth (by decide +kernel) (fun as M r has h => by
    rw [am_l315]
    unfold F315 at h
    split at h
    · exact ⟨Nat.le_of_ble_eq_true rfl, e315 z _ _ h⟩
    · cases h)
def cd316_0 : List am_E := [(0, .aload_n 0, 1, 0, 0, 0, 0), (1, .invokevirtual 107, 3, 175, 11000, 0, 0), (4, .ifCond .ne 6, 3, 10, 0, 0, 0), (7, .bipush (-2), 2, 0, 0, (-2), 0), (9, .ireturn, 1, 0, 0, 0, 0), (10, .aload_n 0, 1, 0, 0, 0, 0), (11, .getfield 9, 3, 11, 1, 0, 0), (14, .bipush 6, 2, 0, 0, 6, 0), (16, .iaload, 1, 0, 0, 0, 0), (17, .istore_n 1, 1, 1, 0, 0, 0), (18, .aload_n 0, 1, 0, 0, 0, 0), (19, .getfield 9, 3, 11, 1, 0, 0), (22, .bipush 6, 2, 0, 0, 6, 0), (24, .iconst 0, 1, 0, 0, 0, 0), (25, .iastore, 1, 0, 0, 0, 0), (26, .iload_n 1, 1, 1, 0, 0, 0), (27, .ireturn, 1, 0, 0, 0, 0)]
def cd316 : List am_E := cd316_0
def am_w316 : List (List (Int32 × Nat) × Nat) := []
set_option maxRecDepth 100000 in
theorem kcd316_0 : cd316_0.all (am_chk am_w316 316) = true := by decide +kernel
theorem am_k316 : cd316.all (am_chk am_w316 316) = true := by
  simp only [cd316, List.all_append, kcd316_0, Bool.and_self]
theorem am_r316 : am_rtc 316 = 0 := by decide +kernel
theorem am_l316 : am_ml 316 = 2 := by decide +kernel
def am_s316_ (z : Nat) : Nat → List aV → aM → Option aR := (am_sm 175 (F175 z) am_s0)
theorem hs316 (z : Nat) : ∀ j2 : Nat, ∃ d2 : Nat, d2 + 1 ≤ 2 ∧ am_Snd d2 j2 (am_s316_ z j2) := (am_sm_ok (S175 z) (by decide) (am_s0_ok (by decide)))
/-- ArgumentMenderModel.anew()I -/
def f316 (z : Nat) (M : aM) : Option aR :=
  am_bi (f175 z M) fun v2 M1 =>
    if ¬ v2 = 0 then
      if am_inB (6 : Int32) 116 then
        if am_inB (6 : Int32) 116 then
          let I3 := am_u M1.1 206 (6 : Int32).toNatClampNeg (0 : Int32)
          some (some (.inl (M1.1 206 (6 : Int32).toNatClampNeg)), (I3, M1.2))
        else
          none
      else
        none
    else
      some (some (.inl (-2 : Int32)), M1)
set_option maxRecDepth 100000 in
set_option maxHeartbeats 4000000 in
theorem e316 (z : Nat) : ∀ (M : aM) (r : aR), f316 z  M = some r → am_Ev 2 316 0 [some (.inr (.inr (11, 205))), none] [] M r := by
  intro  M r h
  exact am_Ev_seg (sem := am_s316_ z) (cut := ([] : List (Nat × List Bool))) (hs316 z) am_r316 am_k316 (by rw [am_l316]; decide) am_k0 16 h am_k0_ok
def F316 (z : Nat) (as : List aV) (M : aM) : Option aR := match as with
  | [.inr (.inr (11, 205))] => f316 z  M
  | _ => none
theorem S316 (z : Nat) : am_Snd 2 316 (F316 z) := am_meth (by decide +kernel) (fun as M r has h => by
    rw [am_l316]
    unfold F316 at h
    split at h
    · exact ⟨Nat.le_of_ble_eq_true rfl, e316 z _ _ h⟩
    · cases h)
def cd317_0 : List am_E := [(0, .aload_n 0, 1, 0, 0, 0, 0), (1, .invokevirtual 329, 3, 211, 11004, 0, 0), (4, .lload_n 1, 1, 1, 0, 0, 0), (5, .lstore_n 3, 1, 3, 0, 0, 0), (6, .aload_n 0, 1, 0, 0, 0, 0), (7, .iconst 0, 1, 0, 0, 0, 0), (8, .putfield 268, 3, 11, 18, 0, 0), (11, .iconst 0, 1, 0, 0, 0, 0), (12, .istore 5, 2, 5, 0, 0, 0), (14, .iload 5, 2, 5, 0, 0, 0), (16, .aload_n 0, 1, 0, 0, 0, 0), (17, .invokevirtual 121, 3, 179, 11000, 0, 0), (20, .if_icmp .ge 60, 3, 80, 0, 0, 0), (23, .ldc2_w 500, 3, 0, 0, 0, 1103515245), (26, .lload_n 3, 1, 3, 0, 0, 0), (27, .lmul, 1, 0, 0, 0, 0), (28, .ldc2_w 502, 3, 0, 0, 0, 12345), (31, .ladd, 1, 0, 0, 0, 0), (32, .ldc2_w 504, 3, 0, 0, 0, 2147483648), (35, .lrem, 1, 0, 0, 0, 0), (36, .lstore_n 3, 1, 3, 0, 0, 0), (37, .aload_n 0, 1, 0, 0, 0, 0), (38, .dup, 1, 0, 0, 0, 0), (39, .getfield 268, 3, 11, 18, 0, 0), (42, .lload_n 3, 1, 3, 0, 0, 0), (43, .ldc2_w 506, 3, 0, 0, 0, 65536), (46, .ldiv, 1, 0, 0, 0, 0), (47, .ldc2_w 508, 3, 0, 0, 0, 10), (50, .lrem, 1, 0, 0, 0, 0), (51, .aload_n 0, 1, 0, 0, 0, 0), (52, .getfield 9, 3, 11, 1, 0, 0), (55, .iconst 2, 1, 0, 0, 2, 0), (56, .iaload, 1, 0, 0, 0, 0), (57, .i2l, 1, 0, 0, 0, 0), (58, .lcmp, 1, 0, 0, 0, 0), (59, .ifCond .ge 10, 3, 69, 0, 0, 0), (62, .iconst 1, 1, 0, 0, 1, 0), (63, .iload 5, 2, 5, 0, 0, 0), (65, .ishl, 1, 0, 0, 0, 0), (66, .goto 4, 3, 70, 0, 0, 0)]
def cd317_1 : List am_E := [(69, .iconst 0, 1, 0, 0, 0, 0), (70, .ior, 1, 0, 0, 0, 0), (71, .putfield 268, 3, 11, 18, 0, 0), (74, .iinc 5 1, 3, 5, 0, 1, 0), (77, .goto (-63), 3, 14, 0, 0, 0), (80, .aload_n 0, 1, 0, 0, 0, 0), (81, .invokevirtual 332, 3, 224, 11004, 0, 0), (84, .return_, 1, 0, 0, 0, 0)]
def cd317 : List am_E := cd317_0 ++ (cd317_1)
def am_w317 : List (List (Int32 × Nat) × Nat) := []
set_option maxRecDepth 100000 in
theorem kcd317_0 : cd317_0.all (am_chk am_w317 317) = true := by decide +kernel
set_option maxRecDepth 100000 in
theorem kcd317_1 : cd317_1.all (am_chk am_w317 317) = true := by decide +kernel
theorem am_k317 : cd317.all (am_chk am_w317 317) = true := by
  simp only [cd317, List.all_append, kcd317_0, kcd317_1, Bool.and_self]
theorem am_r317 : am_rtc 317 = 4 := by decide +kernel
theorem am_l317 : am_ml 317 = 6 := by decide +kernel
def am_s317_ (z : Nat) : Nat → List aV → aM → Option aR := (am_sm 179 (F179 z) (am_sm 211 (F211 z) (am_sm 224 (F224 z) am_s0)))
theorem hs317 (z : Nat) : ∀ j2 : Nat, ∃ d2 : Nat, d2 + 1 ≤ 10 ∧ am_Snd d2 j2 (am_s317_ z j2) := (am_sm_ok (S179 z) (by decide) (am_sm_ok (S211 z) (by decide) (am_sm_ok (S224 z) (by decide) (am_s0_ok (by decide)))))
def f317_14 (z : Nat) : Nat → Int64 → Int32 → aM → Option aR
  | 0, _, _, _ => none
  | n + 1, y3, x5, M =>
    am_bi (f179 z M) fun v2 M1 =>
      if v2 ≤ x5 then
        am_bv (f224 z M1) fun M3 =>
          some (none, M3)
      else
        if (2147483648 : Int64) = 0 then
          none
        else
          if (65536 : Int64) = 0 then
            none
          else
            if (10 : Int64) = 0 then
              none
            else
              if am_inB (2 : Int32) 116 then
                if 0 ≤ (lg_cmp ((((((1103515245 : Int64) * y3) + (12345 : Int64)) - (((1103515245 : Int64) * y3) + (12345 : Int64)) / (2147483648 : Int64) * (2147483648 : Int64)) / (65536 : Int64)) - (((((1103515245 : Int64) * y3) + (12345 : Int64)) - (((1103515245 : Int64) * y3) + (12345 : Int64)) / (2147483648 : Int64) * (2147483648 : Int64)) / (65536 : Int64)) / (10 : Int64) * (10 : Int64)) (Int32.toInt64 (M1.1 206 (2 : Int32).toNatClampNeg))) then
                  let I4 := am_u M1.1 205 18 ((M1.1 205 18) ||| (0 : Int32))
                  f317_14 z n ((((1103515245 : Int64) * y3) + (12345 : Int64)) - (((1103515245 : Int64) * y3) + (12345 : Int64)) / (2147483648 : Int64) * (2147483648 : Int64)) (x5 + (1 : Int32)) (I4, M1.2)
                else
                  let I5 := am_u M1.1 205 18 ((M1.1 205 18) ||| ((1 : Int32) <<< (x5 &&& 31)))
                  f317_14 z n ((((1103515245 : Int64) * y3) + (12345 : Int64)) - (((1103515245 : Int64) * y3) + (12345 : Int64)) / (2147483648 : Int64) * (2147483648 : Int64)) (x5 + (1 : Int32)) (I5, M1.2)
              else
                none
set_option maxRecDepth 100000 in
set_option maxHeartbeats 4000000 in
theorem e317_14 (z : Nat) : ∀ (n : Nat) (y3 : Int64) (x5 : Int32) (M : aM) (r : aR), f317_14 z n y3 x5 M = some r → am_Ev 10 317 14 [some (.inr (.inr (11, 205))), none, none, some (.inr (.inl y3)), none, some (.inl x5)] [] M r := by
  intro n
  induction n with
  | zero =>
    intro y3 x5 M r h
    cases h
  | succ n ih =>
    intro y3 x5 M r h
    exact am_Ev_seg (sem := am_s317_ z) (cut := ([(14, [true, false, false, true, false, true])] : List (Nat × List Bool))) (hs317 z) am_r317 am_k317 (by rw [am_l317]; decide) (am_kc 14 (fun al st M => match al, st with
      | [some (.inr (.inr (11, 205))), none, none, some (.inr (.inl y3)), none, some (.inl x5)], [] => f317_14 z n y3 x5 M
      | _, _ => none) am_k0) 37 h (am_kc_ok (fun al st M hk => by
      split at hk
      · exact ih _ _ _ _ hk
      · cases hk) am_k0_ok)
/-- ArgumentMenderModel.goDrawn(J)V -/
def f317 (z : Nat) (y1 : Int64) (M : aM) : Option aR :=
  am_bv (f211 z M) fun M1 =>
    let I2 := am_u M1.1 205 18 (0 : Int32)
    f317_14 z z y1 (0 : Int32) (I2, M1.2)
set_option maxRecDepth 100000 in
set_option maxHeartbeats 4000000 in
theorem e317 (z : Nat) : ∀ (y1 : Int64) (M : aM) (r : aR), f317 z y1 M = some r → am_Ev 10 317 0 [some (.inr (.inr (11, 205))), some (.inr (.inl y1)), none, none, none, none] [] M r := by
  intro y1 M r h
  exact am_Ev_seg (sem := am_s317_ z) (cut := ([(14, [true, false, false, true, false, true])] : List (Nat × List Bool))) (hs317 z) am_r317 am_k317 (by rw [am_l317]; decide) (am_kc 14 (fun al st M => match al, st with
      | [some (.inr (.inr (11, 205))), none, none, some (.inr (.inl y3)), none, some (.inl x5)], [] => f317_14 z z y3 x5 M
      | _, _ => none) am_k0) 11 h (am_kc_ok (fun al st M hk => by
      split at hk
      · exact e317_14 z _ _ _ _ _ hk
      · cases hk) am_k0_ok)
def F317 (z : Nat) (as : List aV) (M : aM) : Option aR := match as with
  | [.inr (.inr (11, 205)), .inr (.inl y1)] => f317 z y1 M
  | _ => none
theorem S317 (z : Nat) : am_Snd 10 317 (F317 z) := am_meth (by decide +kernel) (fun as M r has h => by
    rw [am_l317]
    unfold F317 at h
    split at h
    · exact ⟨Nat.le_of_ble_eq_true rfl, e317 z _ _ _ h⟩
    · cases h)
def cd318_0 : List am_E := [(0, .iload_n 0, 1, 0, 0, 0, 0), (1, .i2l, 1, 0, 0, 0, 0), (2, .lconst 0, 1, 0, 0, 0, 0), (3, .ldc2_w 510, 3, 0, 0, 0, 2000000000), (6, .invokestatic 103, 3, 170, 35, 0, 0), (9, .ireturn, 1, 0, 0, 0, 0)]
def cd318 : List am_E := cd318_0
def am_w318 : List (List (Int32 × Nat) × Nat) := []
set_option maxRecDepth 100000 in
theorem kcd318_0 : cd318_0.all (am_chk am_w318 318) = true := by decide +kernel
theorem am_k318 : cd318.all (am_chk am_w318 318) = true := by
  simp only [cd318, List.all_append, kcd318_0, Bool.and_self]
theorem am_r318 : am_rtc 318 = 1 := by decide +kernel
theorem am_l318 : am_ml 318 = 1 := by decide +kernel
def am_s318_ (z : Nat) : Nat → List aV → aM → Option aR := (am_sm 170 (F170 z) am_s0)
theorem hs318 (z : Nat) : ∀ j2 : Nat, ∃ d2 : Nat, d2 + 1 ≤ 2 ∧ am_Snd d2 j2 (am_s318_ z j2) := (am_sm_ok (S170 z) (by decide) (am_s0_ok (by decide)))
/-- ArgumentMenderModel.isSeed(I)Z -/
def f318 (z : Nat) (x0 : Int32) (M : aM) : Option aR :=
  am_bi (f170 z (Int32.toInt64 x0) (0 : Int64) (2000000000 : Int64) M) fun v2 M1 =>
    some (some (.inl (v2 &&& 1)), M1)
set_option maxRecDepth 100000 in
set_option maxHeartbeats 4000000 in
theorem e318 (z : Nat) : ∀ (x0 : Int32) (M : aM) (r : aR), f318 z x0 M = some r → am_Ev 2 318 0 [some (.inl x0)] [] M r := by
  intro x0 M r h
  exact am_Ev_seg (sem := am_s318_ z) (cut := ([] : List (Nat × List Bool))) (hs318 z) am_r318 am_k318 (by rw [am_l318]; decide) am_k0 7 h am_k0_ok
def F318 (z : Nat) (as : List aV) (M : aM) : Option aR := match as with
  | [.inl x0] => f318 z x0 M
  | _ => none
theorem S318 (z : Nat) : am_Snd 2 318 (F318 z) := am_meth (by decide +kernel) (fun as M r has h => by
    rw [am_l318]
    unfold F318 at h
    split at h
    · exact ⟨Nat.le_of_ble_eq_true rfl, e318 z _ _ _ h⟩
    · cases h)
def cd319_0 : List am_E := [(0, .aload_n 0, 1, 0, 0, 0, 0), (1, .invokevirtual 107, 3, 175, 11000, 0, 0), (4, .ifCond .eq 20, 3, 24, 0, 0, 0), (7, .iload_n 1, 1, 1, 0, 0, 0), (8, .invokestatic 512, 3, 318, 15, 0, 0), (11, .ifCond .eq 13, 3, 24, 0, 0, 0), (14, .iload_n 2, 1, 2, 0, 0, 0), (15, .i2l, 1, 0, 0, 0, 0), (16, .lconst 0, 1, 0, 0, 0, 0), (17, .lconst 1, 1, 0, 0, 0, 1), (18, .invokestatic 103, 3, 170, 35, 0, 0), (21, .ifCond .ne 6, 3, 27, 0, 0, 0), (24, .bipush (-2), 2, 0, 0, (-2), 0), (26, .ireturn, 1, 0, 0, 0, 0), (27, .aload_n 0, 1, 0, 0, 0, 0), (28, .iload_n 1, 1, 1, 0, 0, 0), (29, .i2l, 1, 0, 0, 0, 0), (30, .invokevirtual 515, 3, 317, 11014, 0, 0), (33, .iload_n 2, 1, 2, 0, 0, 0), (34, .ifCond .ne 10, 3, 44, 0, 0, 0), (37, .aload_n 0, 1, 0, 0, 0, 0), (38, .getfield 268, 3, 11, 18, 0, 0), (41, .goto 7, 3, 48, 0, 0, 0), (44, .aload_n 0, 1, 0, 0, 0, 0), (45, .invokevirtual 397, 3, 232, 11000, 0, 0), (48, .ireturn, 1, 0, 0, 0, 0)]
def cd319 : List am_E := cd319_0
def am_w319 : List (List (Int32 × Nat) × Nat) := []
set_option maxRecDepth 100000 in
theorem kcd319_0 : cd319_0.all (am_chk am_w319 319) = true := by decide +kernel
theorem am_k319 : cd319.all (am_chk am_w319 319) = true := by
  simp only [cd319, List.all_append, kcd319_0, Bool.and_self]
theorem am_r319 : am_rtc 319 = 0 := by decide +kernel
theorem am_l319 : am_ml 319 = 3 := by decide +kernel
def am_s319_ (z : Nat) : Nat → List aV → aM → Option aR := (am_sm 170 (F170 z) (am_sm 175 (F175 z) (am_sm 232 (F232 z) (am_sm 317 (F317 z) (am_sm 318 (F318 z) am_s0)))))
theorem hs319 (z : Nat) : ∀ j2 : Nat, ∃ d2 : Nat, d2 + 1 ≤ 11 ∧ am_Snd d2 j2 (am_s319_ z j2) := (am_sm_ok (S170 z) (by decide) (am_sm_ok (S175 z) (by decide) (am_sm_ok (S232 z) (by decide) (am_sm_ok (S317 z) (by decide) (am_sm_ok (S318 z) (by decide) (am_s0_ok (by decide)))))))
/-- ArgumentMenderModel.drawn(II)I -/
def f319 (z : Nat) (x1 : Int32) (x2 : Int32) (M : aM) : Option aR :=
  am_bi (f175 z M) fun v2 M1 =>
    if v2 = 0 then
      some (some (.inl (-2 : Int32)), M1)
    else
      am_bi (f318 z x1 M1) fun v4 M3 =>
        if v4 = 0 then
          some (some (.inl (-2 : Int32)), M3)
        else
          am_bi (f170 z (Int32.toInt64 x2) (0 : Int64) (1 : Int64) M3) fun v6 M5 =>
            if ¬ v6 = 0 then
              am_bv (f317 z (Int32.toInt64 x1) M5) fun M7 =>
                if ¬ x2 = 0 then
                  am_bi (f232 z M7) fun v9 M8 =>
                    some (some (.inl v9), M8)
                else
                  some (some (.inl (M7.1 205 18)), M7)
            else
              some (some (.inl (-2 : Int32)), M5)
set_option maxRecDepth 100000 in
set_option maxHeartbeats 4000000 in
theorem e319 (z : Nat) : ∀ (x1 : Int32) (x2 : Int32) (M : aM) (r : aR), f319 z x1 x2 M = some r → am_Ev 11 319 0 [some (.inr (.inr (11, 205))), some (.inl x1), some (.inl x2)] [] M r := by
  intro x1 x2 M r h
  exact am_Ev_seg (sem := am_s319_ z) (cut := ([] : List (Nat × List Bool))) (hs319 z) am_r319 am_k319 (by rw [am_l319]; decide) am_k0 23 h am_k0_ok
def F319 (z : Nat) (as : List aV) (M : aM) : Option aR := match as with
  | [.inr (.inr (11, 205)), .inl x1, .inl x2] => f319 z x1 x2 M
  | _ => none
theorem S319 (z : Nat) : am_Snd 11 319 (F319 z) := am_meth (by decide +kernel) (fun as M r has h => by
    rw [am_l319]
    unfold F319 at h
    split at h
    · exact ⟨Nat.le_of_ble_eq_true rfl, e319 z _ _ _ _ h⟩
    · cases h)
def cd320_0 : List am_E := [(0, .iload_n 1, 1, 1, 0, 0, 0), (1, .invokestatic 512, 3, 318, 15, 0, 0), (4, .ifCond .eq 23, 3, 27, 0, 0, 0), (7, .iload_n 2, 1, 2, 0, 0, 0), (8, .i2l, 1, 0, 0, 0, 0), (9, .lconst 1, 1, 0, 0, 0, 1), (10, .ldc2_w 519, 3, 0, 0, 0, 20), (13, .invokestatic 103, 3, 170, 35, 0, 0), (16, .ifCond .eq 11, 3, 27, 0, 0, 0), (19, .aload_n 0, 1, 0, 0, 0, 0), (20, .iload_n 3, 1, 3, 0, 0, 0), (21, .invokevirtual 255, 3, 182, 11010, 0, 0), (24, .ifCond .ne 6, 3, 30, 0, 0, 0), (27, .bipush (-2), 2, 0, 0, (-2), 0), (29, .ireturn, 1, 0, 0, 0, 0), (30, .iconst 0, 1, 0, 0, 0, 0), (31, .istore 4, 2, 4, 0, 0, 0), (33, .iconst 0, 1, 0, 0, 0, 0), (34, .istore 5, 2, 5, 0, 0, 0), (36, .iload 5, 2, 5, 0, 0, 0), (38, .iload_n 2, 1, 2, 0, 0, 0), (39, .if_icmp .ge 32, 3, 71, 0, 0, 0), (42, .aload_n 0, 1, 0, 0, 0, 0), (43, .iload_n 1, 1, 1, 0, 0, 0), (44, .i2l, 1, 0, 0, 0, 0), (45, .iload 5, 2, 5, 0, 0, 0), (47, .i2l, 1, 0, 0, 0, 0), (48, .ladd, 1, 0, 0, 0, 0), (49, .invokevirtual 515, 3, 317, 11014, 0, 0), (52, .iload 4, 2, 4, 0, 0, 0), (54, .aload_n 0, 1, 0, 0, 0, 0), (55, .invokevirtual 397, 3, 232, 11000, 0, 0), (58, .iload_n 3, 1, 3, 0, 0, 0), (59, .invokestatic 300, 3, 172, 25, 0, 0), (62, .iadd, 1, 0, 0, 0, 0), (63, .istore 4, 2, 4, 0, 0, 0), (65, .iinc 5 1, 3, 5, 0, 1, 0), (68, .goto (-32), 3, 36, 0, 0, 0), (71, .iload 4, 2, 4, 0, 0, 0), (73, .ireturn, 1, 0, 0, 0, 0)]
def cd320 : List am_E := cd320_0
def am_w320 : List (List (Int32 × Nat) × Nat) := []
set_option maxRecDepth 100000 in
theorem kcd320_0 : cd320_0.all (am_chk am_w320 320) = true := by decide +kernel
theorem am_k320 : cd320.all (am_chk am_w320 320) = true := by
  simp only [cd320, List.all_append, kcd320_0, Bool.and_self]
theorem am_r320 : am_rtc 320 = 0 := by decide +kernel
theorem am_l320 : am_ml 320 = 6 := by decide +kernel
def am_s320_ (z : Nat) : Nat → List aV → aM → Option aR := (am_sm 170 (F170 z) (am_sm 172 (F172 z) (am_sm 182 (F182 z) (am_sm 232 (F232 z) (am_sm 317 (F317 z) (am_sm 318 (F318 z) am_s0))))))
theorem hs320 (z : Nat) : ∀ j2 : Nat, ∃ d2 : Nat, d2 + 1 ≤ 11 ∧ am_Snd d2 j2 (am_s320_ z j2) := (am_sm_ok (S170 z) (by decide) (am_sm_ok (S172 z) (by decide) (am_sm_ok (S182 z) (by decide) (am_sm_ok (S232 z) (by decide) (am_sm_ok (S317 z) (by decide) (am_sm_ok (S318 z) (by decide) (am_s0_ok (by decide))))))))
def f320_36 (z : Nat) : Nat → Int32 → Int32 → Int32 → Int32 → Int32 → aM → Option aR
  | 0, _, _, _, _, _, _ => none
  | n + 1, x1, x2, x3, x4, x5, M =>
    if x2 ≤ x5 then
      some (some (.inl x4), M)
    else
      am_bv (f317 z ((Int32.toInt64 x1) + (Int32.toInt64 x5)) M) fun M1 =>
        am_bi (f232 z M1) fun v3 M2 =>
          am_bi (f172 z v3 x3 M2) fun v5 M4 =>
            f320_36 z n x1 x2 x3 (x4 + v5) (x5 + (1 : Int32)) M4
set_option maxRecDepth 100000 in
set_option maxHeartbeats 4000000 in
theorem e320_36 (z : Nat) : ∀ (n : Nat) (x1 : Int32) (x2 : Int32) (x3 : Int32) (x4 : Int32) (x5 : Int32) (M : aM) (r : aR), f320_36 z n x1 x2 x3 x4 x5 M = some r → am_Ev 11 320 36 [some (.inr (.inr (11, 205))), some (.inl x1), some (.inl x2), some (.inl x3), some (.inl x4), some (.inl x5)] [] M r := by
  intro n
  induction n with
  | zero =>
    intro x1 x2 x3 x4 x5 M r h
    cases h
  | succ n ih =>
    intro x1 x2 x3 x4 x5 M r h
    exact am_Ev_seg (sem := am_s320_ z) (cut := ([(36, [true, true, true, true, true, true])] : List (Nat × List Bool))) (hs320 z) am_r320 am_k320 (by rw [am_l320]; decide) (am_kc 36 (fun al st M => match al, st with
      | [some (.inr (.inr (11, 205))), some (.inl x1), some (.inl x2), some (.inl x3), some (.inl x4), some (.inl x5)], [] => f320_36 z n x1 x2 x3 x4 x5 M
      | _, _ => none) am_k0) 21 h (am_kc_ok (fun al st M hk => by
      split at hk
      · exact ih _ _ _ _ _ _ _ hk
      · cases hk) am_k0_ok)
/-- ArgumentMenderModel.luck(III)I -/
def f320 (z : Nat) (x1 : Int32) (x2 : Int32) (x3 : Int32) (M : aM) : Option aR :=
  am_bi (f318 z x1 M) fun v2 M1 =>
    if v2 = 0 then
      some (some (.inl (-2 : Int32)), M1)
    else
      am_bi (f170 z (Int32.toInt64 x2) (1 : Int64) (20 : Int64) M1) fun v4 M3 =>
        if v4 = 0 then
          some (some (.inl (-2 : Int32)), M3)
        else
          am_bi (f182 z x3 M3) fun v6 M5 =>
            if ¬ v6 = 0 then
              f320_36 z z x1 x2 x3 (0 : Int32) (0 : Int32) M5
            else
              some (some (.inl (-2 : Int32)), M5)
set_option maxRecDepth 100000 in
set_option maxHeartbeats 4000000 in
theorem e320 (z : Nat) : ∀ (x1 : Int32) (x2 : Int32) (x3 : Int32) (M : aM) (r : aR), f320 z x1 x2 x3 M = some r → am_Ev 11 320 0 [some (.inr (.inr (11, 205))), some (.inl x1), some (.inl x2), some (.inl x3), none, none] [] M r := by
  intro x1 x2 x3 M r h
  exact am_Ev_seg (sem := am_s320_ z) (cut := ([(36, [true, true, true, true, true, true])] : List (Nat × List Bool))) (hs320 z) am_r320 am_k320 (by rw [am_l320]; decide) (am_kc 36 (fun al st M => match al, st with
      | [some (.inr (.inr (11, 205))), some (.inl x1), some (.inl x2), some (.inl x3), some (.inl x4), some (.inl x5)], [] => f320_36 z z x1 x2 x3 x4 x5 M
      | _, _ => none) am_k0) 19 h (am_kc_ok (fun al st M hk => by
      split at hk
      · exact e320_36 z _ _ _ _ _ _ _ _ hk
      · cases hk) am_k0_ok)
def F320 (z : Nat) (as : List aV) (M : aM) : Option aR := match as with
  | [.inr (.inr (11, 205)), .inl x1, .inl x2, .inl x3] => f320 z x1 x2 x3 M
  | _ => none
theorem S320 (z : Nat) : am_Snd 11 320 (F320 z) := am_meth (by decide +kernel) (fun as M r has h => by
    rw [am_l320]
    unfold F320 at h
    split at h
    · exact ⟨Nat.le_of_ble_eq_true rfl, e320 z _ _ _ _ _ h⟩
    · cases h)
def cd321_0 : List am_E := [(0, .aload_n 0, 1, 0, 0, 0, 0), (1, .iload_n 1, 1, 1, 0, 0, 0), (2, .i2l, 1, 0, 0, 0, 0), (3, .invokevirtual 241, 3, 183, 11010, 0, 0), (6, .ifCond .eq 15, 3, 21, 0, 0, 0), (9, .iload_n 2, 1, 2, 0, 0, 0), (10, .i2l, 1, 0, 0, 0, 0), (11, .lconst 1, 1, 0, 0, 0, 1), (12, .ldc2_w 493, 3, 0, 0, 0, 60), (15, .invokestatic 103, 3, 170, 35, 0, 0), (18, .ifCond .ne 6, 3, 24, 0, 0, 0), (21, .bipush (-2), 2, 0, 0, (-2), 0), (23, .ireturn, 1, 0, 0, 0, 0), (24, .aload_n 0, 1, 0, 0, 0, 0), (25, .getfield 9, 3, 11, 1, 0, 0), (28, .bipush 6, 2, 0, 0, 6, 0), (30, .iaload, 1, 0, 0, 0, 0), (31, .ifCond .le 6, 3, 37, 0, 0, 0), (34, .bipush (-5), 2, 0, 0, (-5), 0), (36, .ireturn, 1, 0, 0, 0, 0), (37, .aload_n 0, 1, 0, 0, 0, 0), (38, .getfield 9, 3, 11, 1, 0, 0), (41, .bipush 8, 2, 0, 0, 8, 0), (43, .iconst 3, 1, 0, 0, 3, 0), (44, .iload_n 1, 1, 1, 0, 0, 0), (45, .imul, 1, 0, 0, 0, 0), (46, .iadd, 1, 0, 0, 0, 0), (47, .iconst 2, 1, 0, 0, 2, 0), (48, .iadd, 1, 0, 0, 0, 0), (49, .iaload, 1, 0, 0, 0, 0), (50, .istore_n 3, 1, 3, 0, 0, 0), (51, .aload_n 0, 1, 0, 0, 0, 0), (52, .getfield 9, 3, 11, 1, 0, 0), (55, .bipush 8, 2, 0, 0, 8, 0), (57, .iconst 3, 1, 0, 0, 3, 0), (58, .iload_n 1, 1, 1, 0, 0, 0), (59, .imul, 1, 0, 0, 0, 0), (60, .iadd, 1, 0, 0, 0, 0), (61, .iconst 2, 1, 0, 0, 2, 0), (62, .iadd, 1, 0, 0, 0, 0)]
def cd321_1 : List am_E := [(63, .iload_n 2, 1, 2, 0, 0, 0), (64, .iastore, 1, 0, 0, 0, 0), (65, .iload_n 3, 1, 3, 0, 0, 0), (66, .ireturn, 1, 0, 0, 0, 0)]
def cd321 : List am_E := cd321_0 ++ (cd321_1)
def am_w321 : List (List (Int32 × Nat) × Nat) := []
set_option maxRecDepth 100000 in
theorem kcd321_0 : cd321_0.all (am_chk am_w321 321) = true := by decide +kernel
set_option maxRecDepth 100000 in
theorem kcd321_1 : cd321_1.all (am_chk am_w321 321) = true := by decide +kernel
theorem am_k321 : cd321.all (am_chk am_w321 321) = true := by
  simp only [cd321, List.all_append, kcd321_0, kcd321_1, Bool.and_self]
theorem am_r321 : am_rtc 321 = 0 := by decide +kernel
theorem am_l321 : am_ml 321 = 4 := by decide +kernel
def am_s321_ (z : Nat) : Nat → List aV → aM → Option aR := (am_sm 170 (F170 z) (am_sm 183 (F183 z) am_s0))
theorem hs321 (z : Nat) : ∀ j2 : Nat, ∃ d2 : Nat, d2 + 1 ≤ 3 ∧ am_Snd d2 j2 (am_s321_ z j2) := (am_sm_ok (S170 z) (by decide) (am_sm_ok (S183 z) (by decide) (am_s0_ok (by decide))))
/-- ArgumentMenderModel.rate(II)I -/
def f321 (z : Nat) (x1 : Int32) (x2 : Int32) (M : aM) : Option aR :=
  am_bi (f183 z (Int32.toInt64 x1) M) fun v2 M1 =>
    if v2 = 0 then
      some (some (.inl (-2 : Int32)), M1)
    else
      am_bi (f170 z (Int32.toInt64 x2) (1 : Int64) (60 : Int64) M1) fun v4 M3 =>
        if ¬ v4 = 0 then
          if am_inB (6 : Int32) 116 then
            if (M3.1 206 (6 : Int32).toNatClampNeg) ≤ 0 then
              if am_inB (((8 : Int32) + ((3 : Int32) * x1)) + (2 : Int32)) 116 then
                if am_inB (((8 : Int32) + ((3 : Int32) * x1)) + (2 : Int32)) 116 then
                  let I5 := am_u M3.1 206 (((8 : Int32) + ((3 : Int32) * x1)) + (2 : Int32)).toNatClampNeg x2
                  some (some (.inl (M3.1 206 (((8 : Int32) + ((3 : Int32) * x1)) + (2 : Int32)).toNatClampNeg)), (I5, M3.2))
                else
                  none
              else
                none
            else
              some (some (.inl (-5 : Int32)), M3)
          else
            none
        else
          some (some (.inl (-2 : Int32)), M3)
set_option maxRecDepth 100000 in
set_option maxHeartbeats 4000000 in
theorem e321 (z : Nat) : ∀ (x1 : Int32) (x2 : Int32) (M : aM) (r : aR), f321 z x1 x2 M = some r → am_Ev 3 321 0 [some (.inr (.inr (11, 205))), some (.inl x1), some (.inl x2), none] [] M r := by
  intro x1 x2 M r h
  exact am_Ev_seg (sem := am_s321_ z) (cut := ([] : List (Nat × List Bool))) (hs321 z) am_r321 am_k321 (by rw [am_l321]; decide) am_k0 41 h am_k0_ok
def F321 (z : Nat) (as : List aV) (M : aM) : Option aR := match as with
  | [.inr (.inr (11, 205)), .inl x1, .inl x2] => f321 z x1 x2 M
  | _ => none
theorem S321 (z : Nat) : am_Snd 3 321 (F321 z) := am_meth (by decide +kernel) (fun as M r has h => by
    rw [am_l321]
    unfold F321 at h
    split at h
    · exact ⟨Nat.le_of_ble_eq_true rfl, e321 z _ _ _ _ h⟩
    · cases h)
def cd322_0 : List am_E := [(0, .iload_n 1, 1, 1, 0, 0, 0), (1, .i2l, 1, 0, 0, 0, 0), (2, .lconst 0, 1, 0, 0, 0, 0), (3, .ldc2_w 521, 3, 0, 0, 0, 7), (6, .invokestatic 103, 3, 170, 35, 0, 0), (9, .ifCond .eq 10, 3, 19, 0, 0, 0), (12, .aload_n 0, 1, 0, 0, 0, 0), (13, .getfield 9, 3, 11, 1, 0, 0), (16, .iload_n 1, 1, 1, 0, 0, 0), (17, .iaload, 1, 0, 0, 0, 0), (18, .ireturn, 1, 0, 0, 0, 0), (19, .iload_n 1, 1, 1, 0, 0, 0), (20, .bipush 8, 2, 0, 0, 8, 0), (22, .if_icmp .ne 8, 3, 30, 0, 0, 0), (25, .aload_n 0, 1, 0, 0, 0, 0), (26, .getfield 124, 3, 11, 5, 0, 0), (29, .ireturn, 1, 0, 0, 0, 0), (30, .iload_n 1, 1, 1, 0, 0, 0), (31, .bipush 9, 2, 0, 0, 9, 0), (33, .if_icmp .eq 5, 3, 38, 0, 0, 0), (36, .iconst (-1), 1, 0, 0, (-1), 0), (37, .ireturn, 1, 0, 0, 0, 0), (38, .iconst 0, 1, 0, 0, 0, 0), (39, .istore_n 2, 1, 2, 0, 0, 0), (40, .iconst 0, 1, 0, 0, 0, 0), (41, .istore_n 3, 1, 3, 0, 0, 0), (42, .iload_n 3, 1, 3, 0, 0, 0), (43, .iconst 4, 1, 0, 0, 4, 0), (44, .if_icmp .ge 27, 3, 71, 0, 0, 0), (47, .iload_n 2, 1, 2, 0, 0, 0), (48, .aload_n 0, 1, 0, 0, 0, 0), (49, .getfield 85, 3, 11, 45, 0, 0), (52, .iload_n 3, 1, 3, 0, 0, 0), (53, .iaload, 1, 0, 0, 0, 0), (54, .iconst (-1), 1, 0, 0, (-1), 0), (55, .if_icmp .ne 7, 3, 62, 0, 0, 0), (58, .iconst 0, 1, 0, 0, 0, 0), (59, .goto 4, 3, 63, 0, 0, 0), (62, .iconst 1, 1, 0, 0, 1, 0), (63, .iadd, 1, 0, 0, 0, 0)]
def cd322_1 : List am_E := [(64, .istore_n 2, 1, 2, 0, 0, 0), (65, .iinc 3 1, 3, 3, 0, 1, 0), (68, .goto (-26), 3, 42, 0, 0, 0), (71, .iload_n 2, 1, 2, 0, 0, 0), (72, .ireturn, 1, 0, 0, 0, 0)]
def cd322 : List am_E := cd322_0 ++ (cd322_1)
def am_w322 : List (List (Int32 × Nat) × Nat) := []
set_option maxRecDepth 100000 in
theorem kcd322_0 : cd322_0.all (am_chk am_w322 322) = true := by decide +kernel
set_option maxRecDepth 100000 in
theorem kcd322_1 : cd322_1.all (am_chk am_w322 322) = true := by decide +kernel
theorem am_k322 : cd322.all (am_chk am_w322 322) = true := by
  simp only [cd322, List.all_append, kcd322_0, kcd322_1, Bool.and_self]
theorem am_r322 : am_rtc 322 = 0 := by decide +kernel
theorem am_l322 : am_ml 322 = 4 := by decide +kernel
def am_s322_ (z : Nat) : Nat → List aV → aM → Option aR := (am_sm 170 (F170 z) am_s0)
theorem hs322 (z : Nat) : ∀ j2 : Nat, ∃ d2 : Nat, d2 + 1 ≤ 2 ∧ am_Snd d2 j2 (am_s322_ z j2) := (am_sm_ok (S170 z) (by decide) (am_s0_ok (by decide)))
def f322_42 (z : Nat) : Nat → Int32 → Int32 → aM → Option aR
  | 0, _, _, _ => none
  | n + 1, x2, x3, M =>
    if (4 : Int32) ≤ x3 then
      some (some (.inl x2), M)
    else
      if am_inB x3 4 then
        if ¬ (M.1 229 x3.toNatClampNeg) = (-1 : Int32) then
          f322_42 z n (x2 + (1 : Int32)) (x3 + (1 : Int32)) M
        else
          f322_42 z n (x2 + (0 : Int32)) (x3 + (1 : Int32)) M
      else
        none
set_option maxRecDepth 100000 in
set_option maxHeartbeats 4000000 in
theorem e322_42 (z : Nat) : ∀ (n : Nat) (x2 : Int32) (x3 : Int32) (M : aM) (r : aR), f322_42 z n x2 x3 M = some r → am_Ev 2 322 42 [some (.inr (.inr (11, 205))), none, some (.inl x2), some (.inl x3)] [] M r := by
  intro n
  induction n with
  | zero =>
    intro x2 x3 M r h
    cases h
  | succ n ih =>
    intro x2 x3 M r h
    exact am_Ev_seg (sem := am_s322_ z) (cut := ([(42, [true, false, true, true])] : List (Nat × List Bool))) (hs322 z) am_r322 am_k322 (by rw [am_l322]; decide) (am_kc 42 (fun al st M => match al, st with
      | [some (.inr (.inr (11, 205))), none, some (.inl x2), some (.inl x3)], [] => f322_42 z n x2 x3 M
      | _, _ => none) am_k0) 18 h (am_kc_ok (fun al st M hk => by
      split at hk
      · exact ih _ _ _ _ hk
      · cases hk) am_k0_ok)
/-- ArgumentMenderModel.count(I)I -/
def f322 (z : Nat) (x1 : Int32) (M : aM) : Option aR :=
  am_bi (f170 z (Int32.toInt64 x1) (0 : Int64) (7 : Int64) M) fun v2 M1 =>
    if v2 = 0 then
      if ¬ x1 = (8 : Int32) then
        if x1 = (9 : Int32) then
          f322_42 z z (0 : Int32) (0 : Int32) M1
        else
          some (some (.inl (-1 : Int32)), M1)
      else
        some (some (.inl (M1.1 205 5)), M1)
    else
      if am_inB x1 116 then
        some (some (.inl (M1.1 206 x1.toNatClampNeg)), M1)
      else
        none
set_option maxRecDepth 100000 in
set_option maxHeartbeats 4000000 in
theorem e322 (z : Nat) : ∀ (x1 : Int32) (M : aM) (r : aR), f322 z x1 M = some r → am_Ev 2 322 0 [some (.inr (.inr (11, 205))), some (.inl x1), none, none] [] M r := by
  intro x1 M r h
  exact am_Ev_seg (sem := am_s322_ z) (cut := ([(42, [true, false, true, true])] : List (Nat × List Bool))) (hs322 z) am_r322 am_k322 (by rw [am_l322]; decide) (am_kc 42 (fun al st M => match al, st with
      | [some (.inr (.inr (11, 205))), none, some (.inl x2), some (.inl x3)], [] => f322_42 z z x2 x3 M
      | _, _ => none) am_k0) 18 h (am_kc_ok (fun al st M hk => by
      split at hk
      · exact e322_42 z _ _ _ _ _ hk
      · cases hk) am_k0_ok)
def F322 (z : Nat) (as : List aV) (M : aM) : Option aR := match as with
  | [.inr (.inr (11, 205)), .inl x1] => f322 z x1 M
  | _ => none
theorem S322 (z : Nat) : am_Snd 2 322 (F322 z) := am_meth (by decide +kernel) (fun as M r has h => by
    rw [am_l322]
    unfold F322 at h
    split at h
    · exact ⟨Nat.le_of_ble_eq_true rfl, e322 z _ _ _ h⟩
    · cases h)
def cd324_0 : List am_E := [(0, .bipush 64, 2, 0, 0, 64, 0), (2, .bipush 8, 2, 0, 0, 8, 0), (4, .iload_n 2, 1, 2, 0, 0, 0), (5, .ishl, 1, 0, 0, 0, 0), (6, .isub, 1, 0, 0, 0, 0), (7, .istore_n 3, 1, 3, 0, 0, 0), (8, .lload_n 0, 1, 0, 0, 0, 0), (9, .iload_n 3, 1, 3, 0, 0, 0), (10, .lshl, 1, 0, 0, 0, 0), (11, .iload_n 3, 1, 3, 0, 0, 0), (12, .lshr, 1, 0, 0, 0, 0), (13, .lreturn, 1, 0, 0, 0, 0)]
def cd324 : List am_E := cd324_0
def am_w324 : List (List (Int32 × Nat) × Nat) := []
set_option maxRecDepth 100000 in
theorem kcd324_0 : cd324_0.all (am_chk am_w324 324) = true := by decide +kernel
theorem am_k324 : cd324.all (am_chk am_w324 324) = true := by
  simp only [cd324, List.all_append, kcd324_0, Bool.and_self]
theorem am_r324 : am_rtc 324 = 2 := by decide +kernel
theorem am_l324 : am_ml 324 = 4 := by decide +kernel
def am_s324_ (z : Nat) : Nat → List aV → aM → Option aR := am_s0
theorem hs324 (z : Nat) : ∀ j2 : Nat, ∃ d2 : Nat, d2 + 1 ≤ 1 ∧ am_Snd d2 j2 (am_s324_ z j2) := (am_s0_ok (by decide))
/-- ArgumentMenderModel.clipped(JI)J -/
def f324 (z : Nat) (y0 : Int64) (x2 : Int32) (M : aM) : Option aR :=
  some (some (.inr (.inl ((y0 <<< (((64 : Int32) - ((8 : Int32) <<< (x2 &&& 31))).toInt64 &&& 63)) >>> (((64 : Int32) - ((8 : Int32) <<< (x2 &&& 31))).toInt64 &&& 63)))), M)
set_option maxRecDepth 100000 in
set_option maxHeartbeats 4000000 in
theorem e324 (z : Nat) : ∀ (y0 : Int64) (x2 : Int32) (M : aM) (r : aR), f324 z y0 x2 M = some r → am_Ev 1 324 0 [some (.inr (.inl y0)), none, some (.inl x2), none] [] M r := by
  intro y0 x2 M r h
  exact am_Ev_seg (sem := am_s324_ z) (cut := ([] : List (Nat × List Bool))) (hs324 z) am_r324 am_k324 (by rw [am_l324]; decide) am_k0 13 h am_k0_ok
def F324 (z : Nat) (as : List aV) (M : aM) : Option aR := match as with
  | [.inr (.inl y0), .inl x2] => f324 z y0 x2 M
  | _ => none
theorem S324 (z : Nat) : am_Snd 1 324 (F324 z) := am_meth (by decide +kernel) (fun as M r has h => by
    rw [am_l324]
    unfold F324 at h
    split at h
    · exact ⟨Nat.le_of_ble_eq_true rfl, e324 z _ _ _ _ h⟩
    · cases h)
def cd325_0 : List am_E := [(0, .iload_n 1, 1, 1, 0, 0, 0), (1, .invokestatic 412, 3, 323, 15, 0, 0), (4, .ifCond .eq 21, 3, 25, 0, 0, 0), (7, .iload_n 2, 1, 2, 0, 0, 0), (8, .i2l, 1, 0, 0, 0, 0), (9, .lconst 0, 1, 0, 0, 0, 0), (10, .ldc2_w 445, 3, 0, 0, 0, 3), (13, .invokestatic 103, 3, 170, 35, 0, 0), (16, .ifCond .eq 9, 3, 25, 0, 0, 0), (19, .iload_n 3, 1, 3, 0, 0, 0), (20, .bipush 60, 2, 0, 0, 60, 0), (22, .if_icmp .le 6, 3, 28, 0, 0, 0), (25, .bipush (-2), 2, 0, 0, (-2), 0), (27, .ireturn, 1, 0, 0, 0, 0), (28, .iload_n 3, 1, 3, 0, 0, 0), (29, .ifCond .ge 6, 3, 35, 0, 0, 0), (32, .bipush (-3), 2, 0, 0, (-3), 0), (34, .ireturn, 1, 0, 0, 0, 0), (35, .aload_n 0, 1, 0, 0, 0, 0), (36, .getfield 85, 3, 11, 45, 0, 0), (39, .iload_n 1, 1, 1, 0, 0, 0), (40, .iload_n 3, 1, 3, 0, 0, 0), (41, .iastore, 1, 0, 0, 0, 0), (42, .aload_n 0, 1, 0, 0, 0, 0), (43, .getfield 88, 3, 11, 46, 0, 0), (46, .iload_n 1, 1, 1, 0, 0, 0), (47, .iload_n 2, 1, 2, 0, 0, 0), (48, .iastore, 1, 0, 0, 0, 0), (49, .iconst 0, 1, 0, 0, 0, 0), (50, .istore 4, 2, 4, 0, 0, 0), (52, .iload 4, 2, 4, 0, 0, 0), (54, .bipush 60, 2, 0, 0, 60, 0), (56, .if_icmp .ge 22, 3, 78, 0, 0, 0), (59, .aload_n 0, 1, 0, 0, 0, 0), (60, .getfield 91, 3, 11, 47, 0, 0), (63, .bipush 60, 2, 0, 0, 60, 0), (65, .iload_n 1, 1, 1, 0, 0, 0), (66, .imul, 1, 0, 0, 0, 0), (67, .iload 4, 2, 4, 0, 0, 0), (69, .iadd, 1, 0, 0, 0, 0)]
def cd325_1 : List am_E := [(70, .lconst 0, 1, 0, 0, 0, 0), (71, .lastore, 1, 0, 0, 0, 0), (72, .iinc 4 1, 3, 4, 0, 1, 0), (75, .goto (-23), 3, 52, 0, 0, 0), (78, .iconst 0, 1, 0, 0, 0, 0), (79, .ireturn, 1, 0, 0, 0, 0)]
def cd325 : List am_E := cd325_0 ++ (cd325_1)
def am_w325 : List (List (Int32 × Nat) × Nat) := []
set_option maxRecDepth 100000 in
theorem kcd325_0 : cd325_0.all (am_chk am_w325 325) = true := by decide +kernel
set_option maxRecDepth 100000 in
theorem kcd325_1 : cd325_1.all (am_chk am_w325 325) = true := by decide +kernel
theorem am_k325 : cd325.all (am_chk am_w325 325) = true := by
  simp only [cd325, List.all_append, kcd325_0, kcd325_1, Bool.and_self]
theorem am_r325 : am_rtc 325 = 0 := by decide +kernel
theorem am_l325 : am_ml 325 = 5 := by decide +kernel
def am_s325_ (z : Nat) : Nat → List aV → aM → Option aR := (am_sm 170 (F170 z) (am_sm 323 (F323 z) am_s0))
theorem hs325 (z : Nat) : ∀ j2 : Nat, ∃ d2 : Nat, d2 + 1 ≤ 3 ∧ am_Snd d2 j2 (am_s325_ z j2) := (am_sm_ok (S170 z) (by decide) (am_sm_ok (S323 z) (by decide) (am_s0_ok (by decide))))
def f325_52 (z : Nat) : Nat → Int32 → Int32 → aM → Option aR
  | 0, _, _, _ => none
  | n + 1, x1, x4, M =>
    if (60 : Int32) ≤ x4 then
      some (some (.inl (0 : Int32)), M)
    else
      if am_inB (((60 : Int32) * x1) + x4) 240 then
        let J1 := am_ul M.2 231 (((60 : Int32) * x1) + x4).toNatClampNeg (0 : Int64)
        f325_52 z n x1 (x4 + (1 : Int32)) (M.1, J1)
      else
        none
set_option maxRecDepth 100000 in
set_option maxHeartbeats 4000000 in
theorem e325_52 (z : Nat) : ∀ (n : Nat) (x1 : Int32) (x4 : Int32) (M : aM) (r : aR), f325_52 z n x1 x4 M = some r → am_Ev 3 325 52 [some (.inr (.inr (11, 205))), some (.inl x1), none, none, some (.inl x4)] [] M r := by
  intro n
  induction n with
  | zero =>
    intro x1 x4 M r h
    cases h
  | succ n ih =>
    intro x1 x4 M r h
    exact am_Ev_seg (sem := am_s325_ z) (cut := ([(52, [true, true, false, false, true])] : List (Nat × List Bool))) (hs325 z) am_r325 am_k325 (by rw [am_l325]; decide) (am_kc 52 (fun al st M => match al, st with
      | [some (.inr (.inr (11, 205))), some (.inl x1), none, none, some (.inl x4)], [] => f325_52 z n x1 x4 M
      | _, _ => none) am_k0) 16 h (am_kc_ok (fun al st M hk => by
      split at hk
      · exact ih _ _ _ _ hk
      · cases hk) am_k0_ok)
/-- ArgumentMenderModel.row(III)I -/
def f325 (z : Nat) (x1 : Int32) (x2 : Int32) (x3 : Int32) (M : aM) : Option aR :=
  am_bi (f323 z x1 M) fun v2 M1 =>
    if v2 = 0 then
      some (some (.inl (-2 : Int32)), M1)
    else
      am_bi (f170 z (Int32.toInt64 x2) (0 : Int64) (3 : Int64) M1) fun v4 M3 =>
        if v4 = 0 then
          some (some (.inl (-2 : Int32)), M3)
        else
          if x3 ≤ (60 : Int32) then
            if 0 ≤ x3 then
              if am_inB x1 4 then
                let I5 := am_u M3.1 229 x1.toNatClampNeg x3
                if am_inB x1 4 then
                  let I6 := am_u I5 230 x1.toNatClampNeg x2
                  f325_52 z z x1 (0 : Int32) (I6, M3.2)
                else
                  none
              else
                none
            else
              some (some (.inl (-3 : Int32)), M3)
          else
            some (some (.inl (-2 : Int32)), M3)
set_option maxRecDepth 100000 in
set_option maxHeartbeats 4000000 in
theorem e325 (z : Nat) : ∀ (x1 : Int32) (x2 : Int32) (x3 : Int32) (M : aM) (r : aR), f325 z x1 x2 x3 M = some r → am_Ev 3 325 0 [some (.inr (.inr (11, 205))), some (.inl x1), some (.inl x2), some (.inl x3), none] [] M r := by
  intro x1 x2 x3 M r h
  exact am_Ev_seg (sem := am_s325_ z) (cut := ([(52, [true, true, false, false, true])] : List (Nat × List Bool))) (hs325 z) am_r325 am_k325 (by rw [am_l325]; decide) (am_kc 52 (fun al st M => match al, st with
      | [some (.inr (.inr (11, 205))), some (.inl x1), none, none, some (.inl x4)], [] => f325_52 z z x1 x4 M
      | _, _ => none) am_k0) 28 h (am_kc_ok (fun al st M hk => by
      split at hk
      · exact e325_52 z _ _ _ _ _ hk
      · cases hk) am_k0_ok)
def F325 (z : Nat) (as : List aV) (M : aM) : Option aR := match as with
  | [.inr (.inr (11, 205)), .inl x1, .inl x2, .inl x3] => f325 z x1 x2 x3 M
  | _ => none
theorem S325 (z : Nat) : am_Snd 3 325 (F325 z) := am_meth (by decide +kernel) (fun as M r has h => by
    rw [am_l325]
    unfold F325 at h
    split at h
    · exact ⟨Nat.le_of_ble_eq_true rfl, e325 z _ _ _ _ _ h⟩
    · cases h)
def cd326_0 : List am_E := [(0, .iload_n 1, 1, 1, 0, 0, 0), (1, .invokestatic 412, 3, 323, 15, 0, 0), (4, .ifCond .ne 6, 3, 10, 0, 0, 0), (7, .bipush (-2), 2, 0, 0, (-2), 0), (9, .ireturn, 1, 0, 0, 0, 0), (10, .aload_n 0, 1, 0, 0, 0, 0), (11, .getfield 85, 3, 11, 45, 0, 0), (14, .iload_n 1, 1, 1, 0, 0, 0), (15, .iaload, 1, 0, 0, 0, 0), (16, .iconst (-1), 1, 0, 0, (-1), 0), (17, .if_icmp .ne 6, 3, 23, 0, 0, 0), (20, .bipush (-6), 2, 0, 0, (-6), 0), (22, .ireturn, 1, 0, 0, 0, 0), (23, .iload_n 2, 1, 2, 0, 0, 0), (24, .i2l, 1, 0, 0, 0, 0), (25, .lconst 0, 1, 0, 0, 0, 0), (26, .aload_n 0, 1, 0, 0, 0, 0), (27, .getfield 85, 3, 11, 45, 0, 0), (30, .iload_n 1, 1, 1, 0, 0, 0), (31, .iaload, 1, 0, 0, 0, 0), (32, .iconst 1, 1, 0, 0, 1, 0), (33, .isub, 1, 0, 0, 0, 0), (34, .i2l, 1, 0, 0, 0, 0), (35, .invokestatic 103, 3, 170, 35, 0, 0), (38, .ifCond .ne 6, 3, 44, 0, 0, 0), (41, .bipush (-7), 2, 0, 0, (-7), 0), (43, .ireturn, 1, 0, 0, 0, 0), (44, .aload_n 0, 1, 0, 0, 0, 0), (45, .getfield 91, 3, 11, 47, 0, 0), (48, .bipush 60, 2, 0, 0, 60, 0), (50, .iload_n 1, 1, 1, 0, 0, 0), (51, .imul, 1, 0, 0, 0, 0), (52, .iload_n 2, 1, 2, 0, 0, 0), (53, .iadd, 1, 0, 0, 0, 0), (54, .lload_n 3, 1, 3, 0, 0, 0), (55, .aload_n 0, 1, 0, 0, 0, 0), (56, .getfield 88, 3, 11, 46, 0, 0), (59, .iload_n 1, 1, 1, 0, 0, 0), (60, .iaload, 1, 0, 0, 0, 0), (61, .invokestatic 523, 3, 324, 27, 0, 0)]
def cd326_1 : List am_E := [(64, .lastore, 1, 0, 0, 0, 0), (65, .iconst 0, 1, 0, 0, 0, 0), (66, .ireturn, 1, 0, 0, 0, 0)]
def cd326 : List am_E := cd326_0 ++ (cd326_1)
def am_w326 : List (List (Int32 × Nat) × Nat) := []
set_option maxRecDepth 100000 in
theorem kcd326_0 : cd326_0.all (am_chk am_w326 326) = true := by decide +kernel
set_option maxRecDepth 100000 in
theorem kcd326_1 : cd326_1.all (am_chk am_w326 326) = true := by decide +kernel
theorem am_k326 : cd326.all (am_chk am_w326 326) = true := by
  simp only [cd326, List.all_append, kcd326_0, kcd326_1, Bool.and_self]
theorem am_r326 : am_rtc 326 = 0 := by decide +kernel
theorem am_l326 : am_ml 326 = 5 := by decide +kernel
def am_s326_ (z : Nat) : Nat → List aV → aM → Option aR := (am_sm 170 (F170 z) (am_sm 323 (F323 z) (am_sm 324 (F324 z) am_s0)))
theorem hs326 (z : Nat) : ∀ j2 : Nat, ∃ d2 : Nat, d2 + 1 ≤ 3 ∧ am_Snd d2 j2 (am_s326_ z j2) := (am_sm_ok (S170 z) (by decide) (am_sm_ok (S323 z) (by decide) (am_sm_ok (S324 z) (by decide) (am_s0_ok (by decide)))))
/-- ArgumentMenderModel.write(IIJ)I -/
def f326 (z : Nat) (x1 : Int32) (x2 : Int32) (y3 : Int64) (M : aM) : Option aR :=
  am_bi (f323 z x1 M) fun v2 M1 =>
    if ¬ v2 = 0 then
      if am_inB x1 4 then
        if ¬ (M1.1 229 x1.toNatClampNeg) = (-1 : Int32) then
          if am_inB x1 4 then
            am_bi (f170 z (Int32.toInt64 x2) (0 : Int64) (Int32.toInt64 ((M1.1 229 x1.toNatClampNeg) - (1 : Int32))) M1) fun v4 M3 =>
              if ¬ v4 = 0 then
                if am_inB x1 4 then
                  am_bl (f324 z y3 (M3.1 230 x1.toNatClampNeg) M3) fun v6 M5 =>
                    if am_inB (((60 : Int32) * x1) + x2) 240 then
                      let J7 := am_ul M5.2 231 (((60 : Int32) * x1) + x2).toNatClampNeg v6
                      some (some (.inl (0 : Int32)), (M5.1, J7))
                    else
                      none
                else
                  none
              else
                some (some (.inl (-7 : Int32)), M3)
          else
            none
        else
          some (some (.inl (-6 : Int32)), M1)
      else
        none
    else
      some (some (.inl (-2 : Int32)), M1)
set_option maxRecDepth 100000 in
set_option maxHeartbeats 4000000 in
theorem e326 (z : Nat) : ∀ (x1 : Int32) (x2 : Int32) (y3 : Int64) (M : aM) (r : aR), f326 z x1 x2 y3 M = some r → am_Ev 3 326 0 [some (.inr (.inr (11, 205))), some (.inl x1), some (.inl x2), some (.inr (.inl y3)), none] [] M r := by
  intro x1 x2 y3 M r h
  exact am_Ev_seg (sem := am_s326_ z) (cut := ([] : List (Nat × List Bool))) (hs326 z) am_r326 am_k326 (by rw [am_l326]; decide) am_k0 38 h am_k0_ok
def F326 (z : Nat) (as : List aV) (M : aM) : Option aR := match as with
  | [.inr (.inr (11, 205)), .inl x1, .inl x2, .inr (.inl y3)] => f326 z x1 x2 y3 M
  | _ => none
theorem S326 (z : Nat) : am_Snd 3 326 (F326 z) := am_meth (by decide +kernel) (fun as M r has h => by
    rw [am_l326]
    unfold F326 at h
    split at h
    · exact ⟨Nat.le_of_ble_eq_true rfl, e326 z _ _ _ _ _ h⟩
    · cases h)
def cd327_0 : List am_E := [(0, .iload_n 1, 1, 1, 0, 0, 0), (1, .invokestatic 412, 3, 323, 15, 0, 0), (4, .ifCond .eq 10, 3, 14, 0, 0, 0), (7, .iload_n 3, 1, 3, 0, 0, 0), (8, .invokestatic 412, 3, 323, 15, 0, 0), (11, .ifCond .ne 6, 3, 17, 0, 0, 0), (14, .bipush (-2), 2, 0, 0, (-2), 0), (16, .ireturn, 1, 0, 0, 0, 0), (17, .aload_n 0, 1, 0, 0, 0, 0), (18, .getfield 85, 3, 11, 45, 0, 0), (21, .iload_n 1, 1, 1, 0, 0, 0), (22, .iaload, 1, 0, 0, 0, 0), (23, .iconst (-1), 1, 0, 0, (-1), 0), (24, .if_icmp .eq 13, 3, 37, 0, 0, 0), (27, .aload_n 0, 1, 0, 0, 0, 0), (28, .getfield 85, 3, 11, 45, 0, 0), (31, .iload_n 3, 1, 3, 0, 0, 0), (32, .iaload, 1, 0, 0, 0, 0), (33, .iconst (-1), 1, 0, 0, (-1), 0), (34, .if_icmp .ne 6, 3, 40, 0, 0, 0), (37, .bipush (-6), 2, 0, 0, (-6), 0), (39, .ireturn, 1, 0, 0, 0, 0), (40, .aload_n 0, 1, 0, 0, 0, 0), (41, .getfield 88, 3, 11, 46, 0, 0), (44, .iload_n 1, 1, 1, 0, 0, 0), (45, .iaload, 1, 0, 0, 0, 0), (46, .aload_n 0, 1, 0, 0, 0, 0), (47, .getfield 88, 3, 11, 46, 0, 0), (50, .iload_n 3, 1, 3, 0, 0, 0), (51, .iaload, 1, 0, 0, 0, 0), (52, .if_icmp .eq 6, 3, 58, 0, 0, 0), (55, .bipush (-8), 2, 0, 0, (-8), 0), (57, .ireturn, 1, 0, 0, 0, 0), (58, .iload_n 2, 1, 2, 0, 0, 0), (59, .ifCond .lt 48, 3, 107, 0, 0, 0), (62, .iload 4, 2, 4, 0, 0, 0), (64, .ifCond .lt 43, 3, 107, 0, 0, 0), (67, .iload 5, 2, 5, 0, 0, 0), (69, .ifCond .lt 38, 3, 107, 0, 0, 0), (72, .iload_n 2, 1, 2, 0, 0, 0)]
def cd327_1 : List am_E := [(73, .i2l, 1, 0, 0, 0, 0), (74, .iload 5, 2, 5, 0, 0, 0), (76, .i2l, 1, 0, 0, 0, 0), (77, .ladd, 1, 0, 0, 0, 0), (78, .aload_n 0, 1, 0, 0, 0, 0), (79, .getfield 85, 3, 11, 45, 0, 0), (82, .iload_n 1, 1, 1, 0, 0, 0), (83, .iaload, 1, 0, 0, 0, 0), (84, .i2l, 1, 0, 0, 0, 0), (85, .lcmp, 1, 0, 0, 0, 0), (86, .ifCond .gt 21, 3, 107, 0, 0, 0), (89, .iload 4, 2, 4, 0, 0, 0), (91, .i2l, 1, 0, 0, 0, 0), (92, .iload 5, 2, 5, 0, 0, 0), (94, .i2l, 1, 0, 0, 0, 0), (95, .ladd, 1, 0, 0, 0, 0), (96, .aload_n 0, 1, 0, 0, 0, 0), (97, .getfield 85, 3, 11, 45, 0, 0), (100, .iload_n 3, 1, 3, 0, 0, 0), (101, .iaload, 1, 0, 0, 0, 0), (102, .i2l, 1, 0, 0, 0, 0), (103, .lcmp, 1, 0, 0, 0, 0), (104, .ifCond .le 6, 3, 110, 0, 0, 0), (107, .bipush (-7), 2, 0, 0, (-7), 0), (109, .ireturn, 1, 0, 0, 0, 0), (110, .iconst 0, 1, 0, 0, 0, 0), (111, .istore 6, 2, 6, 0, 0, 0), (113, .iload 6, 2, 6, 0, 0, 0), (115, .iload 5, 2, 5, 0, 0, 0), (117, .if_icmp .ge 30, 3, 147, 0, 0, 0), (120, .aload_n 0, 1, 0, 0, 0, 0), (121, .getfield 95, 3, 11, 48, 0, 0), (124, .iload 6, 2, 6, 0, 0, 0), (126, .aload_n 0, 1, 0, 0, 0, 0), (127, .getfield 91, 3, 11, 47, 0, 0), (130, .bipush 60, 2, 0, 0, 60, 0), (132, .iload_n 1, 1, 1, 0, 0, 0), (133, .imul, 1, 0, 0, 0, 0), (134, .iload_n 2, 1, 2, 0, 0, 0), (135, .iadd, 1, 0, 0, 0, 0)]
def cd327_2 : List am_E := [(136, .iload 6, 2, 6, 0, 0, 0), (138, .iadd, 1, 0, 0, 0, 0), (139, .laload, 1, 0, 0, 0, 0), (140, .lastore, 1, 0, 0, 0, 0), (141, .iinc 6 1, 3, 6, 0, 1, 0), (144, .goto (-31), 3, 113, 0, 0, 0), (147, .iconst 0, 1, 0, 0, 0, 0), (148, .istore 6, 2, 6, 0, 0, 0), (150, .iload 6, 2, 6, 0, 0, 0), (152, .iload 5, 2, 5, 0, 0, 0), (154, .if_icmp .ge 31, 3, 185, 0, 0, 0), (157, .aload_n 0, 1, 0, 0, 0, 0), (158, .getfield 91, 3, 11, 47, 0, 0), (161, .bipush 60, 2, 0, 0, 60, 0), (163, .iload_n 3, 1, 3, 0, 0, 0), (164, .imul, 1, 0, 0, 0, 0), (165, .iload 4, 2, 4, 0, 0, 0), (167, .iadd, 1, 0, 0, 0, 0), (168, .iload 6, 2, 6, 0, 0, 0), (170, .iadd, 1, 0, 0, 0, 0), (171, .aload_n 0, 1, 0, 0, 0, 0), (172, .getfield 95, 3, 11, 48, 0, 0), (175, .iload 6, 2, 6, 0, 0, 0), (177, .laload, 1, 0, 0, 0, 0), (178, .lastore, 1, 0, 0, 0, 0), (179, .iinc 6 1, 3, 6, 0, 1, 0), (182, .goto (-32), 3, 150, 0, 0, 0), (185, .iconst 0, 1, 0, 0, 0, 0), (186, .ireturn, 1, 0, 0, 0, 0)]
def cd327 : List am_E := cd327_0 ++ (cd327_1 ++ (cd327_2))
def am_w327 : List (List (Int32 × Nat) × Nat) := []
set_option maxRecDepth 100000 in
theorem kcd327_0 : cd327_0.all (am_chk am_w327 327) = true := by decide +kernel
set_option maxRecDepth 100000 in
theorem kcd327_1 : cd327_1.all (am_chk am_w327 327) = true := by decide +kernel
set_option maxRecDepth 100000 in
theorem kcd327_2 : cd327_2.all (am_chk am_w327 327) = true := by decide +kernel
theorem am_k327 : cd327.all (am_chk am_w327 327) = true := by
  simp only [cd327, List.all_append, kcd327_0, kcd327_1, kcd327_2, Bool.and_self]
theorem am_r327 : am_rtc 327 = 0 := by decide +kernel
theorem am_l327 : am_ml 327 = 7 := by decide +kernel
def am_s327_ (z : Nat) : Nat → List aV → aM → Option aR := (am_sm 323 (F323 z) am_s0)
theorem hs327 (z : Nat) : ∀ j2 : Nat, ∃ d2 : Nat, d2 + 1 ≤ 3 ∧ am_Snd d2 j2 (am_s327_ z j2) := (am_sm_ok (S323 z) (by decide) (am_s0_ok (by decide)))
def f327_150 (z : Nat) : Nat → Int32 → Int32 → Int32 → Int32 → aM → Option aR
  | 0, _, _, _, _, _ => none
  | n + 1, x3, x4, x5, x6, M =>
    if x5 ≤ x6 then
      some (some (.inl (0 : Int32)), M)
    else
      if am_inB x6 60 then
        if am_inB ((((60 : Int32) * x3) + x4) + x6) 240 then
          let J1 := am_ul M.2 231 ((((60 : Int32) * x3) + x4) + x6).toNatClampNeg (M.2 232 x6.toNatClampNeg)
          f327_150 z n x3 x4 x5 (x6 + (1 : Int32)) (M.1, J1)
        else
          none
      else
        none
set_option maxRecDepth 100000 in
set_option maxHeartbeats 4000000 in
theorem e327_150 (z : Nat) : ∀ (n : Nat) (x3 : Int32) (x4 : Int32) (x5 : Int32) (x6 : Int32) (M : aM) (r : aR), f327_150 z n x3 x4 x5 x6 M = some r → am_Ev 3 327 150 [some (.inr (.inr (11, 205))), none, none, some (.inl x3), some (.inl x4), some (.inl x5), some (.inl x6)] [] M r := by
  intro n
  induction n with
  | zero =>
    intro x3 x4 x5 x6 M r h
    cases h
  | succ n ih =>
    intro x3 x4 x5 x6 M r h
    exact am_Ev_seg (sem := am_s327_ z) (cut := ([(150, [true, false, false, true, true, true, true])] : List (Nat × List Bool))) (hs327 z) am_r327 am_k327 (by rw [am_l327]; decide) (am_kc 150 (fun al st M => match al, st with
      | [some (.inr (.inr (11, 205))), none, none, some (.inl x3), some (.inl x4), some (.inl x5), some (.inl x6)], [] => f327_150 z n x3 x4 x5 x6 M
      | _, _ => none) am_k0) 21 h (am_kc_ok (fun al st M hk => by
      split at hk
      · exact ih _ _ _ _ _ _ hk
      · cases hk) am_k0_ok)
def f327_113 (z : Nat) : Nat → Int32 → Int32 → Int32 → Int32 → Int32 → Int32 → aM → Option aR
  | 0, _, _, _, _, _, _, _ => none
  | n + 1, x1, x2, x3, x4, x5, x6, M =>
    if x5 ≤ x6 then
      f327_150 z z x3 x4 x5 (0 : Int32) M
    else
      if am_inB ((((60 : Int32) * x1) + x2) + x6) 240 then
        if am_inB x6 60 then
          let J1 := am_ul M.2 232 x6.toNatClampNeg (M.2 231 ((((60 : Int32) * x1) + x2) + x6).toNatClampNeg)
          f327_113 z n x1 x2 x3 x4 x5 (x6 + (1 : Int32)) (M.1, J1)
        else
          none
      else
        none
set_option maxRecDepth 100000 in
set_option maxHeartbeats 4000000 in
theorem e327_113 (z : Nat) : ∀ (n : Nat) (x1 : Int32) (x2 : Int32) (x3 : Int32) (x4 : Int32) (x5 : Int32) (x6 : Int32) (M : aM) (r : aR), f327_113 z n x1 x2 x3 x4 x5 x6 M = some r → am_Ev 3 327 113 [some (.inr (.inr (11, 205))), some (.inl x1), some (.inl x2), some (.inl x3), some (.inl x4), some (.inl x5), some (.inl x6)] [] M r := by
  intro n
  induction n with
  | zero =>
    intro x1 x2 x3 x4 x5 x6 M r h
    cases h
  | succ n ih =>
    intro x1 x2 x3 x4 x5 x6 M r h
    exact am_Ev_seg (sem := am_s327_ z) (cut := ([(113, [true, true, true, true, true, true, true]), (150, [true, false, false, true, true, true, true])] : List (Nat × List Bool))) (hs327 z) am_r327 am_k327 (by rw [am_l327]; decide) (am_kc 113 (fun al st M => match al, st with
      | [some (.inr (.inr (11, 205))), some (.inl x1), some (.inl x2), some (.inl x3), some (.inl x4), some (.inl x5), some (.inl x6)], [] => f327_113 z n x1 x2 x3 x4 x5 x6 M
      | _, _ => none) (am_kc 150 (fun al st M => match al, st with
      | [some (.inr (.inr (11, 205))), none, none, some (.inl x3), some (.inl x4), some (.inl x5), some (.inl x6)], [] => f327_150 z z x3 x4 x5 x6 M
      | _, _ => none) am_k0)) 21 h (am_kc_ok (fun al st M hk => by
      split at hk
      · exact ih _ _ _ _ _ _ _ _ hk
      · cases hk) (am_kc_ok (fun al st M hk => by
      split at hk
      · exact e327_150 z _ _ _ _ _ _ _ hk
      · cases hk) am_k0_ok))
/-- ArgumentMenderModel.paste(IIIII)I -/
def f327 (z : Nat) (x1 : Int32) (x2 : Int32) (x3 : Int32) (x4 : Int32) (x5 : Int32) (M : aM) : Option aR :=
  am_bi (f323 z x1 M) fun v2 M1 =>
    if v2 = 0 then
      some (some (.inl (-2 : Int32)), M1)
    else
      am_bi (f323 z x3 M1) fun v4 M3 =>
        if ¬ v4 = 0 then
          if am_inB x1 4 then
            if (M3.1 229 x1.toNatClampNeg) = (-1 : Int32) then
              some (some (.inl (-6 : Int32)), M3)
            else
              if am_inB x3 4 then
                if ¬ (M3.1 229 x3.toNatClampNeg) = (-1 : Int32) then
                  if am_inB x1 4 then
                    if am_inB x3 4 then
                      if (M3.1 230 x1.toNatClampNeg) = (M3.1 230 x3.toNatClampNeg) then
                        if x2 < 0 then
                          some (some (.inl (-7 : Int32)), M3)
                        else
                          if x4 < 0 then
                            some (some (.inl (-7 : Int32)), M3)
                          else
                            if x5 < 0 then
                              some (some (.inl (-7 : Int32)), M3)
                            else
                              if am_inB x1 4 then
                                if 0 < (lg_cmp ((Int32.toInt64 x2) + (Int32.toInt64 x5)) (Int32.toInt64 (M3.1 229 x1.toNatClampNeg))) then
                                  some (some (.inl (-7 : Int32)), M3)
                                else
                                  if am_inB x3 4 then
                                    if (lg_cmp ((Int32.toInt64 x4) + (Int32.toInt64 x5)) (Int32.toInt64 (M3.1 229 x3.toNatClampNeg))) ≤ 0 then
                                      f327_113 z z x1 x2 x3 x4 x5 (0 : Int32) M3
                                    else
                                      some (some (.inl (-7 : Int32)), M3)
                                  else
                                    none
                              else
                                none
                      else
                        some (some (.inl (-8 : Int32)), M3)
                    else
                      none
                  else
                    none
                else
                  some (some (.inl (-6 : Int32)), M3)
              else
                none
          else
            none
        else
          some (some (.inl (-2 : Int32)), M3)
set_option maxRecDepth 100000 in
set_option maxHeartbeats 4000000 in
theorem e327 (z : Nat) : ∀ (x1 : Int32) (x2 : Int32) (x3 : Int32) (x4 : Int32) (x5 : Int32) (M : aM) (r : aR), f327 z x1 x2 x3 x4 x5 M = some r → am_Ev 3 327 0 [some (.inr (.inr (11, 205))), some (.inl x1), some (.inl x2), some (.inl x3), some (.inl x4), some (.inl x5), none] [] M r := by
  intro x1 x2 x3 x4 x5 M r h
  exact am_Ev_seg (sem := am_s327_ z) (cut := ([(113, [true, true, true, true, true, true, true])] : List (Nat × List Bool))) (hs327 z) am_r327 am_k327 (by rw [am_l327]; decide) (am_kc 113 (fun al st M => match al, st with
      | [some (.inr (.inr (11, 205))), some (.inl x1), some (.inl x2), some (.inl x3), some (.inl x4), some (.inl x5), some (.inl x6)], [] => f327_113 z z x1 x2 x3 x4 x5 x6 M
      | _, _ => none) am_k0) 61 h (am_kc_ok (fun al st M hk => by
      split at hk
      · exact e327_113 z _ _ _ _ _ _ _ _ _ hk
      · cases hk) am_k0_ok)
def F327 (z : Nat) (as : List aV) (M : aM) : Option aR := match as with
  | [.inr (.inr (11, 205)), .inl x1, .inl x2, .inl x3, .inl x4, .inl x5] => f327 z x1 x2 x3 x4 x5 M
  | _ => none
theorem S327 (z : Nat) : am_Snd 3 327 (F327 z) := am_meth (by decide +kernel) (fun as M r has h => by
    rw [am_l327]
    unfold F327 at h
    split at h
    · exact ⟨Nat.le_of_ble_eq_true rfl, e327 z _ _ _ _ _ _ _ h⟩
    · cases h)
