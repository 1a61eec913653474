def cd326_0 : List am_E := [(0, .iload_n 1, 1, 1, 0, 0, 0), (1, .invokestatic 412, 3, 323, 15, 0, 0), (4, .ifCond .ne 6, 3, 10, 0, 0, 0), (7, .bipush (-2), 2, 0, 0, (-2), 0), (9, .ireturn, 1, 0, 0, 0, 0), (10, .aload_n 0, 1, 0, 0, 0, 0), (11, .getfield 85, 3, 11, 45, 0, 0), (14, .iload_n 1, 1, 1, 0, 0, 0), (15, .iaload, 1, 0, 0, 0, 0), (16, .iconst (-1), 1, 0, 0, (-1), 0), (17, .if_icmp .ne 6, 3, 23, 0, 0, 0), (20, .bipush (-6), 2, 0, 0, (-6), 0), (22, .ireturn, 1, 0, 0, 0, 0), (23, .iload_n 2, 1, 2, 0, 0, 0), (24, .i2l, 1, 0, 0, 0, 0), (25, .lconst 0, 1, 0, 0, 0, 0), (26, .aload_n 0, 1, 0, 0, 0, 0), (27, .getfield 85, 3, 11, 45, 0, 0), (30, .iload_n 1, 1, 1, 0, 0, 0), (31, .iaload, 1, 0, 0, 0, 0), (32, .iconst 1, 1, 0, 0, 1, 0), (33, .isub, 1, 0, 0, 0, 0), (34, .i2l, 1, 0, 0, 0, 0), (35, .invokestatic 103, 3, 170, 35, 0, 0), (38, .ifCond .ne 6, 3, 44, 0, 0, 0), (41, .bipush (-7), 2, 0, 0, (-7), 0), (43, .ireturn, 1, 0, 0, 0, 0), (44, .aload_n 0, 1, 0, 0, 0, 0), (45, .getfield 91, 3, 11, 47, 0, 0), (48, .bipush 60, 2, 0, 0, 60, 0), (50, .iload_n 1, 1, 1, 0, 0, 0), (51, .imul, 1, 0, 0, 0, 0), (52, .iload_n 2, 1, 2, 0, 0, 0), (53, .iadd, 1, 0, 0, 0, 0), (54, .lload_n 3, 1, 3, 0, 0, 0), (55, .aload_n 0, 1, 0, 0, 0, 0), (56, .getfield 88, 3, 11, 46, 0, 0), (59, .iload_n 1, 1, 1, 0, 0, 0), (60, .iaload, 1, 0, 0, 0, 0), (61, .invokestatic 523, 3, 324, 27, 0, 0)]
def cd326_1 : List am_E := [(64, .lastore, 1, 0, 0, 0, 0), (65, .iconst 0, 1, 0, 0, 0, 0), (66, .ireturn, 1, 0, 0, 0, 0)]
def cd326 : List am_E := cd326_0 ++ (cd326_1)
def am_w326 : List (List (Int32 × Nat) × Nat) := []
set_option maxRecDepth 100000 in
theorem kcd326_0 : cd326_0.all (am_chk am_w326 326) = true := by decide +kernel
set_option maxRecDepth 100000 in
theorem kcd326_1 : cd326_1.all (am_chk am_w326 326) = true := by decide +kernel
theorem am_k326 : cd326.all (am_chk am_w326 326) = true := by
  simp only [cd326, List.all_append, kcd326_0, kcd326_1, Bool.and_self]
theorem am_r326 : am_rtc 326 = 0 := by decide +kernel
theorem am_l326 : am_ml 326 = 5 := by decide +kernel
def am_s326_ (z : Nat) : Nat → List aV → aM → Option aR := fun j => (match Nat.beq j 170 with
  | true => F170 z
  | false => (match Nat.beq j 323 with
  | true => F323 z
  | false => (match Nat.beq j 324 with
  | true => F324 z
  | false => (fun _ _ => none))))
theorem hs326 (z : Nat) : ∀ j2 : Nat, ∃ d2 : Nat, d2 + 1 ≤ 3 ∧ am_Snd d2 j2 (am_s326_ z j2) := by
  intro j2
  unfold am_s326_
  split
  · rename_i he
    rw [am_beq he]
    exact ⟨_, by decide, S170 z⟩
  · skip
    split
    · rename_i he
      rw [am_beq he]
      exact ⟨_, by decide, S323 z⟩
    · skip
      split
      · rename_i he
        rw [am_beq he]
        exact ⟨_, by decide, S324 z⟩
      · skip
        exact ⟨0, by decide, am_Snd_no j2⟩
/-- ArgumentMenderModel.write(IIJ)I -/
def f326 (z : Nat) (x1 : Int32) (x2 : Int32) (y3 : Int64) (M : aM) : Option aR :=
  am_bi (f323 z x1 M) fun v2 M1 =>
    if ¬ v2 = 0 then
      if am_inB x1 4 then
        if ¬ (M1.1 229 x1.toNatClampNeg) = (-1 : Int32) then
          if am_inB x1 4 then
            am_bi (f170 z (Int32.toInt64 x2) (0 : Int64) (Int32.toInt64 ((M1.1 229 x1.toNatClampNeg) - (1 : Int32))) M1) fun v4 M3 =>
              if ¬ v4 = 0 then
                if am_inB x1 4 then
                  am_bl (f324 z y3 (M3.1 230 x1.toNatClampNeg) M3) fun v6 M5 =>
                    if am_inB (((60 : Int32) * x1) + x2) 240 then
                      let J7 := am_ul M5.2 231 (((60 : Int32) * x1) + x2).toNatClampNeg v6
                      some (some (.inl (0 : Int32)), (M5.1, J7))
                    else
                      none
                else
                  none
              else
                some (some (.inl (-7 : Int32)), M3)
          else
            none
        else
          some (some (.inl (-6 : Int32)), M1)
      else
        none
    else
      some (some (.inl (-2 : Int32)), M1)
set_option maxRecDepth 100000 in
set_option maxHeartbeats 4000000 in
theorem e326 (z : Nat) : ∀ (x1 : Int32) (x2 : Int32) (y3 : Int64) (M : aM) (r : aR), f326 z x1 x2 y3 M = some r → am_Ev 3 326 0 [some (.inr (.inr (11, 205))), some (.inl x1), some (.inl x2), some (.inr (.inl y3)), none] [] M r := by
  intro x1 x2 y3 M r h
  exact am_Ev_seg (sem := am_s326_ z) (cut := ([] : List (Nat × List Bool))) (hs326 z) am_r326 am_k326 (by rw [am_l326]; decide) (fun _ _ _ _ => none) 38 h (fun _ _ _ _ hk => by cases hk)
def F326 (z : Nat) (as : List aV) (M : aM) : Option aR := match as with
  | [.inr (.inr (11, 205)), .inl x1, .inl x2, .inr (.inl y3)] => f326 z x1 x2 y3 M
  | _ => none
theorem S326 (z : Nat) : am_Snd 3 326 (F326 z) := am_meth (by decide +kernel) (fun as M r has h => by
    rw [am_l326]
    unfold F326 at h
    split at h
    · exact ⟨Nat.le_of_ble_eq_true rfl, e326 z _ _ _ _ _ h⟩
    · cases h)
def cd327_0 : List am_E := [(0, .iload_n 1, 1, 1, 0, 0, 0), (1, .invokestatic 412, 3, 323, 15, 0, 0), (4, .ifCond .eq 10, 3, 14, 0, 0, 0), (7, .iload_n 3, 1, 3, 0, 0, 0), (8, .invokestatic 412, 3, 323, 15, 0, 0), (11, .ifCond .ne 6, 3, 17, 0, 0, 0), (14, .bipush (-2), 2, 0, 0, (-2), 0), (16, .ireturn, 1, 0, 0, 0, 0), (17, .aload_n 0, 1, 0, 0, 0, 0), (18, .getfield 85, 3, 11, 45, 0, 0), (21, .iload_n 1, 1, 1, 0, 0, 0), (22, .iaload, 1, 0, 0, 0, 0), (23, .iconst (-1), 1, 0, 0, (-1), 0), (24, .if_icmp .eq 13, 3, 37, 0, 0, 0), (27, .aload_n 0, 1, 0, 0, 0, 0), (28, .getfield 85, 3, 11, 45, 0, 0), (31, .iload_n 3, 1, 3, 0, 0, 0), (32, .iaload, 1, 0, 0, 0, 0), (33, .iconst (-1), 1, 0, 0, (-1), 0), (34, .if_icmp .ne 6, 3, 40, 0, 0, 0), (37, .bipush (-6), 2, 0, 0, (-6), 0), (39, .ireturn, 1, 0, 0, 0, 0), (40, .aload_n 0, 1, 0, 0, 0, 0), (41, .getfield 88, 3, 11, 46, 0, 0), (44, .iload_n 1, 1, 1, 0, 0, 0), (45, .iaload, 1, 0, 0, 0, 0), (46, .aload_n 0, 1, 0, 0, 0, 0), (47, .getfield 88, 3, 11, 46, 0, 0), (50, .iload_n 3, 1, 3, 0, 0, 0), (51, .iaload, 1, 0, 0, 0, 0), (52, .if_icmp .eq 6, 3, 58, 0, 0, 0), (55, .bipush (-8), 2, 0, 0, (-8), 0), (57, .ireturn, 1, 0, 0, 0, 0), (58, .iload_n 2, 1, 2, 0, 0, 0), (59, .ifCond .lt 48, 3, 107, 0, 0, 0), (62, .iload 4, 2, 4, 0, 0, 0), (64, .ifCond .lt 43, 3, 107, 0, 0, 0), (67, .iload 5, 2, 5, 0, 0, 0), (69, .ifCond .lt 38, 3, 107, 0, 0, 0), (72, .iload_n 2, 1, 2, 0, 0, 0)]
def cd327_1 : List am_E := [(73, .i2l, 1, 0, 0, 0, 0), (74, .iload 5, 2, 5, 0, 0, 0), (76, .i2l, 1, 0, 0, 0, 0), (77, .ladd, 1, 0, 0, 0, 0), (78, .aload_n 0, 1, 0, 0, 0, 0), (79, .getfield 85, 3, 11, 45, 0, 0), (82, .iload_n 1, 1, 1, 0, 0, 0), (83, .iaload, 1, 0, 0, 0, 0), (84, .i2l, 1, 0, 0, 0, 0), (85, .lcmp, 1, 0, 0, 0, 0), (86, .ifCond .gt 21, 3, 107, 0, 0, 0), (89, .iload 4, 2, 4, 0, 0, 0), (91, .i2l, 1, 0, 0, 0, 0), (92, .iload 5, 2, 5, 0, 0, 0), (94, .i2l, 1, 0, 0, 0, 0), (95, .ladd, 1, 0, 0, 0, 0), (96, .aload_n 0, 1, 0, 0, 0, 0), (97, .getfield 85, 3, 11, 45, 0, 0), (100, .iload_n 3, 1, 3, 0, 0, 0), (101, .iaload, 1, 0, 0, 0, 0), (102, .i2l, 1, 0, 0, 0, 0), (103, .lcmp, 1, 0, 0, 0, 0), (104, .ifCond .le 6, 3, 110, 0, 0, 0), (107, .bipush (-7), 2, 0, 0, (-7), 0), (109, .ireturn, 1, 0, 0, 0, 0), (110, .iconst 0, 1, 0, 0, 0, 0), (111, .istore 6, 2, 6, 0, 0, 0), (113, .iload 6, 2, 6, 0, 0, 0), (115, .iload 5, 2, 5, 0, 0, 0), (117, .if_icmp .ge 30, 3, 147, 0, 0, 0), (120, .aload_n 0, 1, 0, 0, 0, 0), (121, .getfield 95, 3, 11, 48, 0, 0), (124, .iload 6, 2, 6, 0, 0, 0), (126, .aload_n 0, 1, 0, 0, 0, 0), (127, .getfield 91, 3, 11, 47, 0, 0), (130, .bipush 60, 2, 0, 0, 60, 0), (132, .iload_n 1, 1, 1, 0, 0, 0), (133, .imul, 1, 0, 0, 0, 0), (134, .iload_n 2, 1, 2, 0, 0, 0), (135, .iadd, 1, 0, 0, 0, 0)]
def cd327_2 : List am_E := [(136, .iload 6, 2, 6, 0, 0, 0), (138, .iadd, 1, 0, 0, 0, 0), (139, .laload, 1, 0, 0, 0, 0), (140, .lastore, 1, 0, 0, 0, 0), (141, .iinc 6 1, 3, 6, 0, 1, 0), (144, .goto (-31), 3, 113, 0, 0, 0), (147, .iconst 0, 1, 0, 0, 0, 0), (148, .istore 6, 2, 6, 0, 0, 0), (150, .iload 6, 2, 6, 0, 0, 0), (152, .iload 5, 2, 5, 0, 0, 0), (154, .if_icmp .ge 31, 3, 185, 0, 0, 0), (157, .aload_n 0, 1, 0, 0, 0, 0), (158, .getfield 91, 3, 11, 47, 0, 0), (161, .bipush 60, 2, 0, 0, 60, 0), (163, .iload_n 3, 1, 3, 0, 0, 0), (164, .imul, 1, 0, 0, 0, 0), (165, .iload 4, 2, 4, 0, 0, 0), (167, .iadd, 1, 0, 0, 0, 0), (168, .iload 6, 2, 6, 0, 0, 0), (170, .iadd, 1, 0, 0, 0, 0), (171, .aload_n 0, 1, 0, 0, 0, 0), (172, .getfield 95, 3, 11, 48, 0, 0), (175, .iload 6, 2, 6, 0, 0, 0), (177, .laload, 1, 0, 0, 0, 0), (178, .lastore, 1, 0, 0, 0, 0), (179, .iinc 6 1, 3, 6, 0, 1, 0), (182, .goto (-32), 3, 150, 0, 0, 0), (185, .iconst 0, 1, 0, 0, 0, 0), (186, .ireturn, 1, 0, 0, 0, 0)]
def cd327 : List am_E := cd327_0 ++ (cd327_1 ++ (cd327_2))
def am_w327 : List (List (Int32 × Nat) × Nat) := []
set_option maxRecDepth 100000 in
theorem kcd327_0 : cd327_0.all (am_chk am_w327 327) = true := by decide +kernel
set_option maxRecDepth 100000 in
theorem kcd327_1 : cd327_1.all (am_chk am_w327 327) = true := by decide +kernel
set_option maxRecDepth 100000 in
theorem kcd327_2 : cd327_2.all (am_chk am_w327 327) = true := by decide +kernel
theorem am_k327 : cd327.all (am_chk am_w327 327) = true := by
  simp only [cd327, List.all_append, kcd327_0, kcd327_1, kcd327_2, Bool.and_self]
theorem am_r327 : am_rtc 327 = 0 := by decide +kernel
theorem am_l327 : am_ml 327 = 7 := by decide +kernel
def am_s327_ (z : Nat) : Nat → List aV → aM → Option aR := fun j => (match Nat.beq j 323 with
  | true => F323 z
  | false => (fun _ _ => none))
theorem hs327 (z : Nat) : ∀ j2 : Nat, ∃ d2 : Nat, d2 + 1 ≤ 3 ∧ am_Snd d2 j2 (am_s327_ z j2) := by
  intro j2
  unfold am_s327_
  split
  · rename_i he
    rw [am_beq he]
    exact ⟨_, by decide, S323 z⟩
  · skip
    exact ⟨0, by decide, am_Snd_no j2⟩
def f327_150 (z : Nat) : Nat → Int32 → Int32 → Int32 → Int32 → aM → Option aR
  | 0, _, _, _, _, _ => none
  | n + 1, x3, x4, x5, x6, M =>
    if x5 ≤ x6 then
      some (some (.inl (0 : Int32)), M)
    else
      if am_inB x6 60 then
        if am_inB ((((60 : Int32) * x3) + x4) + x6) 240 then
          let J1 := am_ul M.2 231 ((((60 : Int32) * x3) + x4) + x6).toNatClampNeg (M.2 232 x6.toNatClampNeg)
          f327_150 z n x3 x4 x5 (x6 + (1 : Int32)) (M.1, J1)
        else
          none
      else
        none
set_option maxRecDepth 100000 in
set_option maxHeartbeats 4000000 in
theorem e327_150 (z : Nat) : ∀ (n : Nat) (x3 : Int32) (x4 : Int32) (x5 : Int32) (x6 : Int32) (M : aM) (r : aR), f327_150 z n x3 x4 x5 x6 M = some r → am_Ev 3 327 150 [some (.inr (.inr (11, 205))), none, none, some (.inl x3), some (.inl x4), some (.inl x5), some (.inl x6)] [] M r := by
  intro n
  induction n with
  | zero =>
    intro x3 x4 x5 x6 M r h
    cases h
  | succ n ih =>
    intro x3 x4 x5 x6 M r h
    exact am_Ev_seg (sem := am_s327_ z) (cut := ([(150, [true, false, false, true, true, true, true])] : List (Nat × List Bool))) (hs327 z) am_r327 am_k327 (by rw [am_l327]; decide) (fun pc al st M => (match Nat.beq pc 150 with
      | true => (match al, st with
        | [some (.inr (.inr (11, 205))), none, none, some (.inl x3), some (.inl x4), some (.inl x5), some (.inl x6)], [] => f327_150 z n x3 x4 x5 x6 M
        | _, _ => none)
      | false => none)) 21 h (fun pc al st M hk => by
      try dsimp only at hk
      split at hk
      · rename_i he
        rw [am_beq he]
        split at hk
        · exact ih _ _ _ _ _ _ hk
        · cases hk
      · cases hk)
def f327_113 (z : Nat) : Nat → Int32 → Int32 → Int32 → Int32 → Int32 → Int32 → aM → Option aR
  | 0, _, _, _, _, _, _, _ => none
  | n + 1, x1, x2, x3, x4, x5, x6, M =>
    if x5 ≤ x6 then
      f327_150 z z x3 x4 x5 (0 : Int32) M
    else
      if am_inB ((((60 : Int32) * x1) + x2) + x6) 240 then
        if am_inB x6 60 then
          let J1 := am_ul M.2 232 x6.toNatClampNeg (M.2 231 ((((60 : Int32) * x1) + x2) + x6).toNatClampNeg)
          f327_113 z n x1 x2 x3 x4 x5 (x6 + (1 : Int32)) (M.1, J1)
        else
          none
      else
        none
set_option maxRecDepth 100000 in
set_option maxHeartbeats 4000000 in
theorem e327_113 (z : Nat) : ∀ (n : Nat) (x1 : Int32) (x2 : Int32) (x3 : Int32) (x4 : Int32) (x5 : Int32) (x6 : Int32) (M : aM) (r : aR), f327_113 z n x1 x2 x3 x4 x5 x6 M = some r → am_Ev 3 327 113 [some (.inr (.inr (11, 205))), some (.inl x1), some (.inl x2), some (.inl x3), some (.inl x4), some (.inl x5), some (.inl x6)] [] M r := by
  intro n
  induction n with
  | zero =>
    intro x1 x2 x3 x4 x5 x6 M r h
    cases h
  | succ n ih =>
    intro x1 x2 x3 x4 x5 x6 M r h
    exact am_Ev_seg (sem := am_s327_ z) (cut := ([(113, [true, true, true, true, true, true, true]), (150, [true, false, false, true, true, true, true])] : List (Nat × List Bool))) (hs327 z) am_r327 am_k327 (by rw [am_l327]; decide) (fun pc al st M => (match Nat.beq pc 113 with
      | true => (match al, st with
        | [some (.inr (.inr (11, 205))), some (.inl x1), some (.inl x2), some (.inl x3), some (.inl x4), some (.inl x5), some (.inl x6)], [] => f327_113 z n x1 x2 x3 x4 x5 x6 M
        | _, _ => none)
      | false => (match Nat.beq pc 150 with
      | true => (match al, st with
        | [some (.inr (.inr (11, 205))), none, none, some (.inl x3), some (.inl x4), some (.inl x5), some (.inl x6)], [] => f327_150 z z x3 x4 x5 x6 M
        | _, _ => none)
      | false => none))) 21 h (fun pc al st M hk => by
      try dsimp only at hk
      split at hk
      · rename_i he
        rw [am_beq he]
        split at hk
        · exact ih _ _ _ _ _ _ _ _ hk
        · cases hk
      · skip
        split at hk
        · rename_i he
          rw [am_beq he]
          split at hk
          · exact e327_150 z _ _ _ _ _ _ _ hk
          · cases hk
        · cases hk)
/-- ArgumentMenderModel.paste(IIIII)I -/
def f327 (z : Nat) (x1 : Int32) (x2 : Int32) (x3 : Int32) (x4 : Int32) (x5 : Int32) (M : aM) : Option aR :=
  am_bi (f323 z x1 M) fun v2 M1 =>
    if v2 = 0 then
      some (some (.inl (-2 : Int32)), M1)
    else
      am_bi (f323 z x3 M1) fun v4 M3 =>
        if ¬ v4 = 0 then
          if am_inB x1 4 then
            if (M3.1 229 x1.toNatClampNeg) = (-1 : Int32) then
              some (some (.inl (-6 : Int32)), M3)
            else
              if am_inB x3 4 then
                if ¬ (M3.1 229 x3.toNatClampNeg) = (-1 : Int32) then
                  if am_inB x1 4 then
                    if am_inB x3 4 then
                      if (M3.1 230 x1.toNatClampNeg) = (M3.1 230 x3.toNatClampNeg) then
                        if x2 < 0 then
                          some (some (.inl (-7 : Int32)), M3)
                        else
                          if x4 < 0 then
                            some (some (.inl (-7 : Int32)), M3)
                          else
                            if x5 < 0 then
                              some (some (.inl (-7 : Int32)), M3)
                            else
                              if am_inB x1 4 then
                                if 0 < (lg_cmp ((Int32.toInt64 x2) + (Int32.toInt64 x5)) (Int32.toInt64 (M3.1 229 x1.toNatClampNeg))) then
                                  some (some (.inl (-7 : Int32)), M3)
                                else
                                  if am_inB x3 4 then
                                    if (lg_cmp ((Int32.toInt64 x4) + (Int32.toInt64 x5)) (Int32.toInt64 (M3.1 229 x3.toNatClampNeg))) ≤ 0 then
                                      f327_113 z z x1 x2 x3 x4 x5 (0 : Int32) M3
                                    else
                                      some (some (.inl (-7 : Int32)), M3)
                                  else
                                    none
                              else
                                none
                      else
                        some (some (.inl (-8 : Int32)), M3)
                    else
                      none
                  else
                    none
                else
                  some (some (.inl (-6 : Int32)), M3)
              else
                none
          else
            none
        else
          some (some (.inl (-2 : Int32)), M3)
set_option maxRecDepth 100000 in
set_option maxHeartbeats 4000000 in
theorem e327 (z : Nat) : ∀ (x1 : Int32) (x2 : Int32) (x3 : Int32) (x4 : Int32) (x5 : Int32) (M : aM) (r : aR), f327 z x1 x2 x3 x4 x5 M = some r → am_Ev 3 327 0 [some (.inr (.inr (11, 205))), some (.inl x1), some (.inl x2), some (.inl x3), some (.inl x4), some (.inl x5), none] [] M r := by
  intro x1 x2 x3 x4 x5 M r h
  exact am_Ev_seg (sem := am_s327_ z) (cut := ([(113, [true, true, true, true, true, true, true])] : List (Nat × List Bool))) (hs327 z) am_r327 am_k327 (by rw [am_l327]; decide) (fun pc al st M => (match Nat.beq pc 113 with
      | true => (match al, st with
        | [some (.inr (.inr (11, 205))), some (.inl x1), some (.inl x2), some (.inl x3), some (.inl x4), some (.inl x5), some (.inl x6)], [] => f327_113 z z x1 x2 x3 x4 x5 x6 M
        | _, _ => none)
      | false => none)) 61 h (fun pc al st M hk => by
      try dsimp only at hk
      split at hk
      · rename_i he
        rw [am_beq he]
        split at hk
        · exact e327_113 z _ _ _ _ _ _ _ _ _ hk
        · cases hk
      · cases hk)
def F327 (z : Nat) (as : List aV) (M : aM) : Option aR := match as with
  | [.inr (.inr (11, 205)), .inl x1, .inl x2, .inl x3, .inl x4, .inl x5] => f327 z x1 x2 x3 x4 x5 M
  | _ => none
theorem S327 (z : Nat) : am_Snd 3 327 (F327 z) := am_meth (by decide +kernel) (fun as M r has h => by
    rw [am_l327]
    unfold F327 at h
    split at h
    · exact ⟨Nat.le_of_ble_eq_true rfl, e327 z _ _ _ _ _ _ _ h⟩
    · cases h)
