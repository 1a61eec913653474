def cd191_0 : List am_E := [(0, .aload_n 0, 1, 0, 0, 0, 0), (1, .aload_n 0, 1, 0, 0, 0, 0), (2, .getfield 130, 3, 11, 8, 0, 0), (5, .invokevirtual 133, 3, 190, 11010, 0, 0), (8, .bipush 32, 2, 0, 0, 32, 0), (10, .if_icmp .eq 16, 3, 26, 0, 0, 0), (13, .aload_n 0, 1, 0, 0, 0, 0), (14, .aload_n 0, 1, 0, 0, 0, 0), (15, .getfield 130, 3, 11, 8, 0, 0), (18, .invokevirtual 133, 3, 190, 11010, 0, 0), (21, .bipush 10, 2, 0, 0, 10, 0), (23, .if_icmp .ne 16, 3, 39, 0, 0, 0), (26, .aload_n 0, 1, 0, 0, 0, 0), (27, .dup, 1, 0, 0, 0, 0), (28, .getfield 130, 3, 11, 8, 0, 0), (31, .iconst 1, 1, 0, 0, 1, 0), (32, .iadd, 1, 0, 0, 0, 0), (33, .putfield 130, 3, 11, 8, 0, 0), (36, .goto (-36), 3, 0, 0, 0, 0), (39, .aload_n 0, 1, 0, 0, 0, 0), (40, .aload_n 0, 1, 0, 0, 0, 0), (41, .getfield 130, 3, 11, 8, 0, 0), (44, .putfield 137, 3, 11, 9, 0, 0), (47, .aload_n 0, 1, 0, 0, 0, 0), (48, .aload_n 0, 1, 0, 0, 0, 0), (49, .getfield 130, 3, 11, 8, 0, 0), (52, .invokevirtual 133, 3, 190, 11010, 0, 0), (55, .istore_n 1, 1, 1, 0, 0, 0), (56, .iload_n 1, 1, 1, 0, 0, 0), (57, .iconst (-1), 1, 0, 0, (-1), 0), (58, .if_icmp .ne 11, 3, 69, 0, 0, 0), (61, .aload_n 0, 1, 0, 0, 0, 0), (62, .iconst 0, 1, 0, 0, 0, 0), (63, .putfield 140, 3, 11, 10, 0, 0), (66, .goto 173, 3, 239, 0, 0, 0), (69, .iload_n 1, 1, 1, 0, 0, 0), (70, .i2l, 1, 0, 0, 0, 0), (71, .ldc2_w 143, 3, 0, 0, 0, 97), (74, .ldc2_w 145, 3, 0, 0, 0, 122), (77, .invokestatic 103, 3, 170, 35, 0, 0)]
def cd191_1 : List am_E := [(80, .ifCond .eq 45, 3, 125, 0, 0, 0), (83, .aload_n 0, 1, 0, 0, 0, 0), (84, .aload_n 0, 1, 0, 0, 0, 0), (85, .getfield 130, 3, 11, 8, 0, 0), (88, .invokevirtual 133, 3, 190, 11010, 0, 0), (91, .i2l, 1, 0, 0, 0, 0), (92, .ldc2_w 143, 3, 0, 0, 0, 97), (95, .ldc2_w 145, 3, 0, 0, 0, 122), (98, .invokestatic 103, 3, 170, 35, 0, 0), (101, .ifCond .eq 16, 3, 117, 0, 0, 0), (104, .aload_n 0, 1, 0, 0, 0, 0), (105, .dup, 1, 0, 0, 0, 0), (106, .getfield 130, 3, 11, 8, 0, 0), (109, .iconst 1, 1, 0, 0, 1, 0), (110, .iadd, 1, 0, 0, 0, 0), (111, .putfield 130, 3, 11, 8, 0, 0), (114, .goto (-31), 3, 83, 0, 0, 0), (117, .aload_n 0, 1, 0, 0, 0, 0), (118, .iconst 1, 1, 0, 0, 1, 0), (119, .putfield 140, 3, 11, 10, 0, 0), (122, .goto 117, 3, 239, 0, 0, 0), (125, .iload_n 1, 1, 1, 0, 0, 0), (126, .i2l, 1, 0, 0, 0, 0), (127, .ldc2_w 147, 3, 0, 0, 0, 48), (130, .ldc2_w 149, 3, 0, 0, 0, 57), (133, .invokestatic 103, 3, 170, 35, 0, 0), (136, .ifCond .eq 78, 3, 214, 0, 0, 0), (139, .aload_n 0, 1, 0, 0, 0, 0), (140, .iconst 0, 1, 0, 0, 0, 0), (141, .putfield 151, 3, 11, 11, 0, 0), (144, .aload_n 0, 1, 0, 0, 0, 0), (145, .aload_n 0, 1, 0, 0, 0, 0), (146, .getfield 130, 3, 11, 8, 0, 0), (149, .invokevirtual 133, 3, 190, 11010, 0, 0), (152, .i2l, 1, 0, 0, 0, 0), (153, .ldc2_w 147, 3, 0, 0, 0, 48), (156, .ldc2_w 149, 3, 0, 0, 0, 57), (159, .invokestatic 103, 3, 170, 35, 0, 0), (162, .ifCond .eq 44, 3, 206, 0, 0, 0), (165, .aload_n 0, 1, 0, 0, 0, 0)]
def cd191_2 : List am_E := [(166, .ldc 154, 2, 0, 0, 99999, 0), (168, .bipush 10, 2, 0, 0, 10, 0), (170, .aload_n 0, 1, 0, 0, 0, 0), (171, .getfield 151, 3, 11, 11, 0, 0), (174, .imul, 1, 0, 0, 0, 0), (175, .aload_n 0, 1, 0, 0, 0, 0), (176, .aload_n 0, 1, 0, 0, 0, 0), (177, .getfield 130, 3, 11, 8, 0, 0), (180, .invokevirtual 133, 3, 190, 11010, 0, 0), (183, .iadd, 1, 0, 0, 0, 0), (184, .bipush 48, 2, 0, 0, 48, 0), (186, .isub, 1, 0, 0, 0, 0), (187, .invokestatic 155, 3, 0, 2, 0, 0), (190, .putfield 151, 3, 11, 11, 0, 0), (193, .aload_n 0, 1, 0, 0, 0, 0), (194, .dup, 1, 0, 0, 0, 0), (195, .getfield 130, 3, 11, 8, 0, 0), (198, .iconst 1, 1, 0, 0, 1, 0), (199, .iadd, 1, 0, 0, 0, 0), (200, .putfield 130, 3, 11, 8, 0, 0), (203, .goto (-59), 3, 144, 0, 0, 0), (206, .aload_n 0, 1, 0, 0, 0, 0), (207, .iconst 2, 1, 0, 0, 2, 0), (208, .putfield 140, 3, 11, 10, 0, 0), (211, .goto 28, 3, 239, 0, 0, 0), (214, .aload_n 0, 1, 0, 0, 0, 0), (215, .iload_n 1, 1, 1, 0, 0, 0), (216, .bipush 59, 2, 0, 0, 59, 0), (218, .if_icmp .ne 7, 3, 225, 0, 0, 0), (221, .iconst 3, 1, 0, 0, 3, 0), (222, .goto 4, 3, 226, 0, 0, 0), (225, .iconst 4, 1, 0, 0, 4, 0), (226, .putfield 140, 3, 11, 10, 0, 0), (229, .aload_n 0, 1, 0, 0, 0, 0), (230, .dup, 1, 0, 0, 0, 0), (231, .getfield 130, 3, 11, 8, 0, 0), (234, .iconst 1, 1, 0, 0, 1, 0), (235, .iadd, 1, 0, 0, 0, 0), (236, .putfield 130, 3, 11, 8, 0, 0), (239, .return_, 1, 0, 0, 0, 0)]
def cd191 : List am_E := cd191_0 ++ (cd191_1 ++ (cd191_2))
def am_w191 : List (List (Int32 × Nat) × Nat) := []
set_option maxRecDepth 100000 in
theorem kcd191_0 : cd191_0.all (am_chk am_w191 191) = true := by decide +kernel
set_option maxRecDepth 100000 in
theorem kcd191_1 : cd191_1.all (am_chk am_w191 191) = true := by decide +kernel
set_option maxRecDepth 100000 in
theorem kcd191_2 : cd191_2.all (am_chk am_w191 191) = true := by decide +kernel
theorem am_k191 : cd191.all (am_chk am_w191 191) = true := by
  simp only [cd191, List.all_append, kcd191_0, kcd191_1, kcd191_2, Bool.and_self]
theorem am_r191 : am_rtc 191 = 4 := by decide +kernel
theorem am_l191 : am_ml 191 = 2 := by decide +kernel
def am_s191_ (z : Nat) : Nat → List aV → aM → Option aR := fun j => (match Nat.beq j 170 with
  | true => F170 z
  | false => (match Nat.beq j 190 with
  | true => F190 z
  | false => (fun _ _ => none)))
theorem hs191 (z : Nat) : ∀ j2 : Nat, ∃ d2 : Nat, d2 + 1 ≤ 2 ∧ am_Snd d2 j2 (am_s191_ z j2) := by
  intro j2
  unfold am_s191_
  split
  · rename_i he
    rw [am_beq he]
    exact ⟨_, by decide, S170 z⟩
  · skip
    split
    · rename_i he
      rw [am_beq he]
      exact ⟨_, by decide, S190 z⟩
    · skip
      exact ⟨0, by decide, am_Snd_no j2⟩
def f191_83 (z : Nat) : Nat → aM → Option aR
  | 0, _ => none
  | n + 1, M =>
    am_bi (f190 z (M.1 205 8) M) fun v2 M1 =>
      am_bi (f170 z (Int32.toInt64 v2) (97 : Int64) (122 : Int64) M1) fun v4 M3 =>
        if v4 = 0 then
          let I5 := am_u M3.1 205 10 (1 : Int32)
          some (none, (I5, M3.2))
        else
          let I6 := am_u M3.1 205 8 ((M3.1 205 8) + (1 : Int32))
          f191_83 z n (I6, M3.2)
set_option maxRecDepth 100000 in
set_option maxHeartbeats 4000000 in
theorem e191_83 (z : Nat) : ∀ (n : Nat) (M : aM) (r : aR), f191_83 z n  M = some r → am_Ev 2 191 83 [some (.inr (.inr (11, 205))), none] [] M r := by
  intro n
  induction n with
  | zero =>
    intro  M r h
    cases h
  | succ n ih =>
    intro  M r h
    exact am_Ev_seg (sem := am_s191_ z) (cut := ([(83, [true, false])] : List (Nat × List Bool))) (hs191 z) am_r191 am_k191 (by rw [am_l191]; decide) (fun pc al st M => (match Nat.beq pc 83 with
      | true => (match al, st with
        | [some (.inr (.inr (11, 205))), none], [] => f191_83 z n  M
        | _, _ => none)
      | false => none)) 18 h (fun pc al st M hk => by
      try dsimp only at hk
      split at hk
      · rename_i he
        rw [am_beq he]
        split at hk
        · exact ih _ _ hk
        · cases hk
      · cases hk)
def f191_144 (z : Nat) : Nat → aM → Option aR
  | 0, _ => none
  | n + 1, M =>
    am_bi (f190 z (M.1 205 8) M) fun v2 M1 =>
      am_bi (f170 z (Int32.toInt64 v2) (48 : Int64) (57 : Int64) M1) fun v4 M3 =>
        if v4 = 0 then
          let I5 := am_u M3.1 205 10 (2 : Int32)
          some (none, (I5, M3.2))
        else
          am_bi (f190 z (M3.1 205 8) M3) fun v7 M6 =>
            let I8 := am_u M6.1 205 11 (if ((((10 : Int32) * (M3.1 205 11)) + v7) - (48 : Int32)) < (99999 : Int32) then ((((10 : Int32) * (M3.1 205 11)) + v7) - (48 : Int32)) else (99999 : Int32))
            let I9 := am_u I8 205 8 ((I8 205 8) + (1 : Int32))
            f191_144 z n (I9, M6.2)
set_option maxRecDepth 100000 in
set_option maxHeartbeats 4000000 in
theorem e191_144 (z : Nat) : ∀ (n : Nat) (M : aM) (r : aR), f191_144 z n  M = some r → am_Ev 2 191 144 [some (.inr (.inr (11, 205))), none] [] M r := by
  intro n
  induction n with
  | zero =>
    intro  M r h
    cases h
  | succ n ih =>
    intro  M r h
    exact am_Ev_seg (sem := am_s191_ z) (cut := ([(144, [true, false])] : List (Nat × List Bool))) (hs191 z) am_r191 am_k191 (by rw [am_l191]; decide) (fun pc al st M => (match Nat.beq pc 144 with
      | true => (match al, st with
        | [some (.inr (.inr (11, 205))), none], [] => f191_144 z n  M
        | _, _ => none)
      | false => none)) 33 h (fun pc al st M hk => by
      try dsimp only at hk
      split at hk
      · rename_i he
        rw [am_beq he]
        split at hk
        · exact ih _ _ hk
        · cases hk
      · cases hk)
def f191_0 (z : Nat) : Nat → aM → Option aR
  | 0, _ => none
  | n + 1, M =>
    am_bi (f190 z (M.1 205 8) M) fun v2 M1 =>
      if v2 = (32 : Int32) then
        let I3 := am_u M1.1 205 8 ((M1.1 205 8) + (1 : Int32))
        f191_0 z n (I3, M1.2)
      else
        am_bi (f190 z (M1.1 205 8) M1) fun v5 M4 =>
          if ¬ v5 = (10 : Int32) then
            let I6 := am_u M4.1 205 9 (M4.1 205 8)
            am_bi (f190 z (I6 205 8) (I6, M4.2)) fun v8 M7 =>
              if ¬ v8 = (-1 : Int32) then
                am_bi (f170 z (Int32.toInt64 v8) (97 : Int64) (122 : Int64) M7) fun v10 M9 =>
                  if v10 = 0 then
                    am_bi (f170 z (Int32.toInt64 v8) (48 : Int64) (57 : Int64) M9) fun v12 M11 =>
                      if v12 = 0 then
                        if ¬ v8 = (59 : Int32) then
                          let I13 := am_u M11.1 205 10 (4 : Int32)
                          let I14 := am_u I13 205 8 ((I13 205 8) + (1 : Int32))
                          some (none, (I14, M11.2))
                        else
                          let I15 := am_u M11.1 205 10 (3 : Int32)
                          let I16 := am_u I15 205 8 ((I15 205 8) + (1 : Int32))
                          some (none, (I16, M11.2))
                      else
                        let I17 := am_u M11.1 205 11 (0 : Int32)
                        f191_144 z z (I17, M11.2)
                  else
                    f191_83 z z M9
              else
                let I18 := am_u M7.1 205 10 (0 : Int32)
                some (none, (I18, M7.2))
          else
            let I19 := am_u M4.1 205 8 ((M4.1 205 8) + (1 : Int32))
            f191_0 z n (I19, M4.2)
set_option maxRecDepth 100000 in
set_option maxHeartbeats 4000000 in
theorem e191_0 (z : Nat) : ∀ (n : Nat) (M : aM) (r : aR), f191_0 z n  M = some r → am_Ev 2 191 0 [some (.inr (.inr (11, 205))), none] [] M r := by
  intro n
  induction n with
  | zero =>
    intro  M r h
    cases h
  | succ n ih =>
    intro  M r h
    exact am_Ev_seg (sem := am_s191_ z) (cut := ([(0, [true, false]), (83, [true, false]), (144, [true, false])] : List (Nat × List Bool))) (hs191 z) am_r191 am_k191 (by rw [am_l191]; decide) (fun pc al st M => (match Nat.beq pc 0 with
      | true => (match al, st with
        | [some (.inr (.inr (11, 205))), none], [] => f191_0 z n  M
        | _, _ => none)
      | false => (match Nat.beq pc 83 with
      | true => (match al, st with
        | [some (.inr (.inr (11, 205))), none], [] => f191_83 z z  M
        | _, _ => none)
      | false => (match Nat.beq pc 144 with
      | true => (match al, st with
        | [some (.inr (.inr (11, 205))), none], [] => f191_144 z z  M
        | _, _ => none)
      | false => none)))) 51 h (fun pc al st M hk => by
      try dsimp only at hk
      split at hk
      · rename_i he
        rw [am_beq he]
        split at hk
        · exact ih _ _ hk
        · cases hk
      · skip
        split at hk
        · rename_i he
          rw [am_beq he]
          split at hk
          · exact e191_83 z _ _ _ hk
          · cases hk
        · skip
          split at hk
          · rename_i he
            rw [am_beq he]
            split at hk
            · exact e191_144 z _ _ _ hk
            · cases hk
          · cases hk)
/-- ArgumentMenderModel.advance()V -/
def f191 (z : Nat) (M : aM) : Option aR := f191_0 z z  M
theorem e191 (z : Nat) : ∀ (M : aM) (r : aR), f191 z  M = some r → am_Ev 2 191 0 [some (.inr (.inr (11, 205))), none] [] M r := by
  intro  M r h
  exact e191_0 z _  _ _ h
def F191 (z : Nat) (as : List aV) (M : aM) : Option aR := match as with
  | [.inr (.inr (11, 205))] => f191 z  M
  | _ => none
theorem S191 (z : Nat) : am_Snd 2 191 (F191 z) := am_meth (by decide +kernel) (fun as M r has h => by
    rw [am_l191]
    unfold F191 at h
    split at h
    · exact ⟨Nat.le_of_ble_eq_true rfl, e191 z _ _ h⟩
    · cases h)
def cd192_0 : List am_E := [(0, .aload_n 0, 1, 0, 0, 0, 0), (1, .getfield 161, 3, 11, 12, 0, 0), (4, .ifCond .ne 7, 3, 11, 0, 0, 0), (7, .iconst 1, 1, 0, 0, 1, 0), (8, .goto 4, 3, 12, 0, 0, 0), (11, .iconst 0, 1, 0, 0, 0, 0), (12, .ireturn, 1, 0, 0, 0, 0)]
def cd192 : List am_E := cd192_0
def am_w192 : List (List (Int32 × Nat) × Nat) := []
set_option maxRecDepth 100000 in
theorem kcd192_0 : cd192_0.all (am_chk am_w192 192) = true := by decide +kernel
theorem am_k192 : cd192.all (am_chk am_w192 192) = true := by
  simp only [cd192, List.all_append, kcd192_0, Bool.and_self]
theorem am_r192 : am_rtc 192 = 1 := by decide +kernel
theorem am_l192 : am_ml 192 = 1 := by decide +kernel
def am_s192_ (z : Nat) : Nat → List aV → aM → Option aR := fun j => (fun _ _ => none)
theorem hs192 (z : Nat) : ∀ j2 : Nat, ∃ d2 : Nat, d2 + 1 ≤ 1 ∧ am_Snd d2 j2 (am_s192_ z j2) := by
  intro j2
  unfold am_s192_
  exact ⟨0, by decide, am_Snd_no j2⟩
/-- ArgumentMenderModel.good()Z -/
def f192 (z : Nat) (M : aM) : Option aR :=
  if ¬ (M.1 205 12) = 0 then
    some (some (.inl ((0 : Int32) &&& 1)), M)
  else
    some (some (.inl ((1 : Int32) &&& 1)), M)
set_option maxRecDepth 100000 in
set_option maxHeartbeats 4000000 in
theorem e192 (z : Nat) : ∀ (M : aM) (r : aR), f192 z  M = some r → am_Ev 1 192 0 [some (.inr (.inr (11, 205)))] [] M r := by
  intro  M r h
  exact am_Ev_seg (sem := am_s192_ z) (cut := ([] : List (Nat × List Bool))) (hs192 z) am_r192 am_k192 (by rw [am_l192]; decide) (fun _ _ _ _ => none) 7 h (fun _ _ _ _ hk => by cases hk)
def F192 (z : Nat) (as : List aV) (M : aM) : Option aR := match as with
  | [.inr (.inr (11, 205))] => f192 z  M
  | _ => none
theorem S192 (z : Nat) : am_Snd 1 192 (F192 z) := am_meth (by decide +kernel) (fun as M r has h => by
    rw [am_l192]
    unfold F192 at h
    split at h
    · exact ⟨Nat.le_of_ble_eq_true rfl, e192 z _ _ h⟩
    · cases h)
def cd193_0 : List am_E := [(0, .aload_n 0, 1, 0, 0, 0, 0), (1, .invokevirtual 164, 3, 192, 11000, 0, 0), (4, .ifCond .ne 4, 3, 8, 0, 0, 0), (7, .return_, 1, 0, 0, 0, 0), (8, .aload_n 0, 1, 0, 0, 0, 0), (9, .iload_n 1, 1, 1, 0, 0, 0), (10, .putfield 161, 3, 11, 12, 0, 0), (13, .aload_n 0, 1, 0, 0, 0, 0), (14, .aload_n 0, 1, 0, 0, 0, 0), (15, .getfield 137, 3, 11, 9, 0, 0), (18, .putfield 27, 3, 11, 13, 0, 0), (21, .return_, 1, 0, 0, 0, 0)]
def cd193 : List am_E := cd193_0
def am_w193 : List (List (Int32 × Nat) × Nat) := []
set_option maxRecDepth 100000 in
theorem kcd193_0 : cd193_0.all (am_chk am_w193 193) = true := by decide +kernel
theorem am_k193 : cd193.all (am_chk am_w193 193) = true := by
  simp only [cd193, List.all_append, kcd193_0, Bool.and_self]
theorem am_r193 : am_rtc 193 = 4 := by decide +kernel
theorem am_l193 : am_ml 193 = 2 := by decide +kernel
def am_s193_ (z : Nat) : Nat → List aV → aM → Option aR := fun j => (match Nat.beq j 192 with
  | true => F192 z
  | false => (fun _ _ => none))
theorem hs193 (z : Nat) : ∀ j2 : Nat, ∃ d2 : Nat, d2 + 1 ≤ 2 ∧ am_Snd d2 j2 (am_s193_ z j2) := by
  intro j2
  unfold am_s193_
  split
  · rename_i he
    rw [am_beq he]
    exact ⟨_, by decide, S192 z⟩
  · skip
    exact ⟨0, by decide, am_Snd_no j2⟩
/-- ArgumentMenderModel.errs(I)V -/
def f193 (z : Nat) (x1 : Int32) (M : aM) : Option aR :=
  am_bi (f192 z M) fun v2 M1 =>
    if ¬ v2 = 0 then
      let I3 := am_u M1.1 205 12 x1
      let I4 := am_u I3 205 13 (I3 205 9)
      some (none, (I4, M1.2))
    else
      some (none, M1)
set_option maxRecDepth 100000 in
set_option maxHeartbeats 4000000 in
theorem e193 (z : Nat) : ∀ (x1 : Int32) (M : aM) (r : aR), f193 z x1 M = some r → am_Ev 2 193 0 [some (.inr (.inr (11, 205))), some (.inl x1)] [] M r := by
  intro x1 M r h
  exact am_Ev_seg (sem := am_s193_ z) (cut := ([] : List (Nat × List Bool))) (hs193 z) am_r193 am_k193 (by rw [am_l193]; decide) (fun _ _ _ _ => none) 12 h (fun _ _ _ _ hk => by cases hk)
def F193 (z : Nat) (as : List aV) (M : aM) : Option aR := match as with
  | [.inr (.inr (11, 205)), .inl x1] => f193 z x1 M
  | _ => none
theorem S193 (z : Nat) : am_Snd 2 193 (F193 z) := am_meth (by decide +kernel) (fun as M r has h => by
    rw [am_l193]
    unfold F193 at h
    split at h
    · exact ⟨Nat.le_of_ble_eq_true rfl, e193 z _ _ _ h⟩
    · cases h)
def cd197_0 : List am_E := [(0, .aload_n 0, 1, 0, 0, 0, 0), (1, .invokevirtual 164, 3, 192, 11000, 0, 0), (4, .ifCond .eq 16, 3, 20, 0, 0, 0), (7, .aload_n 0, 1, 0, 0, 0, 0), (8, .getfield 140, 3, 11, 10, 0, 0), (11, .iconst 2, 1, 0, 0, 2, 0), (12, .if_icmp .eq 8, 3, 20, 0, 0, 0), (15, .aload_n 0, 1, 0, 0, 0, 0), (16, .iconst 1, 1, 0, 0, 1, 0), (17, .invokevirtual 186, 3, 193, 11014, 0, 0), (20, .aload_n 0, 1, 0, 0, 0, 0), (21, .invokevirtual 164, 3, 192, 11000, 0, 0), (24, .ifCond .eq 23, 3, 47, 0, 0, 0), (27, .aload_n 0, 1, 0, 0, 0, 0), (28, .getfield 151, 3, 11, 11, 0, 0), (31, .i2l, 1, 0, 0, 0, 0), (32, .iload_n 1, 1, 1, 0, 0, 0), (33, .i2l, 1, 0, 0, 0, 0), (34, .iload_n 2, 1, 2, 0, 0, 0), (35, .i2l, 1, 0, 0, 0, 0), (36, .invokestatic 103, 3, 170, 35, 0, 0), (39, .ifCond .ne 8, 3, 47, 0, 0, 0), (42, .aload_n 0, 1, 0, 0, 0, 0), (43, .iconst 2, 1, 0, 0, 2, 0), (44, .invokevirtual 186, 3, 193, 11014, 0, 0), (47, .aload_n 0, 1, 0, 0, 0, 0), (48, .invokevirtual 164, 3, 192, 11000, 0, 0), (51, .ifCond .ne 5, 3, 56, 0, 0, 0), (54, .iconst 0, 1, 0, 0, 0, 0), (55, .ireturn, 1, 0, 0, 0, 0), (56, .aload_n 0, 1, 0, 0, 0, 0), (57, .getfield 151, 3, 11, 11, 0, 0), (60, .istore_n 3, 1, 3, 0, 0, 0), (61, .aload_n 0, 1, 0, 0, 0, 0), (62, .invokevirtual 180, 3, 191, 11004, 0, 0), (65, .iload_n 3, 1, 3, 0, 0, 0), (66, .ireturn, 1, 0, 0, 0, 0)]
def cd197 : List am_E := cd197_0
def am_w197 : List (List (Int32 × Nat) × Nat) := []
set_option maxRecDepth 100000 in
theorem kcd197_0 : cd197_0.all (am_chk am_w197 197) = true := by decide +kernel
theorem am_k197 : cd197.all (am_chk am_w197 197) = true := by
  simp only [cd197, List.all_append, kcd197_0, Bool.and_self]
theorem am_r197 : am_rtc 197 = 0 := by decide +kernel
theorem am_l197 : am_ml 197 = 4 := by decide +kernel
def am_s197_ (z : Nat) : Nat → List aV → aM → Option aR := fun j => (match Nat.beq j 170 with
  | true => F170 z
  | false => (match Nat.beq j 191 with
  | true => F191 z
  | false => (match Nat.beq j 192 with
  | true => F192 z
  | false => (match Nat.beq j 193 with
  | true => F193 z
  | false => (fun _ _ => none)))))
theorem hs197 (z : Nat) : ∀ j2 : Nat, ∃ d2 : Nat, d2 + 1 ≤ 3 ∧ am_Snd d2 j2 (am_s197_ z j2) := by
  intro j2
  unfold am_s197_
  split
  · rename_i he
    rw [am_beq he]
    exact ⟨_, by decide, S170 z⟩
  · skip
    split
    · rename_i he
      rw [am_beq he]
      exact ⟨_, by decide, S191 z⟩
    · skip
      split
      · rename_i he
        rw [am_beq he]
        exact ⟨_, by decide, S192 z⟩
      · skip
        split
        · rename_i he
          rw [am_beq he]
          exact ⟨_, by decide, S193 z⟩
        · skip
          exact ⟨0, by decide, am_Snd_no j2⟩
def f197_20 (z : Nat)  (x1 : Int32) (x2 : Int32) (M : aM) : Option aR :=
  am_bi (f192 z M) fun v2 M1 =>
    if v2 = 0 then
      am_bi (f192 z M1) fun v4 M3 =>
        if ¬ v4 = 0 then
          am_bv (f191 z M3) fun M5 =>
            some (some (.inl (M3.1 205 11)), M5)
        else
          some (some (.inl (0 : Int32)), M3)
    else
      am_bi (f170 z (Int32.toInt64 (M1.1 205 11)) (Int32.toInt64 x1) (Int32.toInt64 x2) M1) fun v7 M6 =>
        if ¬ v7 = 0 then
          am_bi (f192 z M6) fun v9 M8 =>
            if ¬ v9 = 0 then
              am_bv (f191 z M8) fun M10 =>
                some (some (.inl (M8.1 205 11)), M10)
            else
              some (some (.inl (0 : Int32)), M8)
        else
          am_bv (f193 z (2 : Int32) M6) fun M11 =>
            am_bi (f192 z M11) fun v13 M12 =>
              if ¬ v13 = 0 then
                am_bv (f191 z M12) fun M14 =>
                  some (some (.inl (M12.1 205 11)), M14)
              else
                some (some (.inl (0 : Int32)), M12)
set_option maxRecDepth 100000 in
set_option maxHeartbeats 4000000 in
theorem e197_20 (z : Nat) : ∀ (x1 : Int32) (x2 : Int32) (M : aM) (r : aR), f197_20 z x1 x2 M = some r → am_Ev 3 197 20 [some (.inr (.inr (11, 205))), some (.inl x1), some (.inl x2), none] [] M r := by
  intro x1 x2 M r h
  exact am_Ev_seg (sem := am_s197_ z) (cut := ([] : List (Nat × List Bool))) (hs197 z) am_r197 am_k197 (by rw [am_l197]; decide) (fun _ _ _ _ => none) 26 h (fun _ _ _ _ hk => by cases hk)
/-- ArgumentMenderModel.number(II)I -/
def f197 (z : Nat) (x1 : Int32) (x2 : Int32) (M : aM) : Option aR :=
  am_bi (f192 z M) fun v2 M1 =>
    if v2 = 0 then
      f197_20 z x1 x2 M1
    else
      if (M1.1 205 10) = (2 : Int32) then
        f197_20 z x1 x2 M1
      else
        am_bv (f193 z (1 : Int32) M1) fun M3 =>
          f197_20 z x1 x2 M3
set_option maxRecDepth 100000 in
set_option maxHeartbeats 4000000 in
theorem e197 (z : Nat) : ∀ (x1 : Int32) (x2 : Int32) (M : aM) (r : aR), f197 z x1 x2 M = some r → am_Ev 3 197 0 [some (.inr (.inr (11, 205))), some (.inl x1), some (.inl x2), none] [] M r := by
  intro x1 x2 M r h
  exact am_Ev_seg (sem := am_s197_ z) (cut := ([(20, [true, true, true, false])] : List (Nat × List Bool))) (hs197 z) am_r197 am_k197 (by rw [am_l197]; decide) (fun pc al st M => (match Nat.beq pc 20 with
      | true => (match al, st with
        | [some (.inr (.inr (11, 205))), some (.inl x1), some (.inl x2), none], [] => f197_20 z x1 x2 M
        | _, _ => none)
      | false => none)) 12 h (fun pc al st M hk => by
      try dsimp only at hk
      split at hk
      · rename_i he
        rw [am_beq he]
        split at hk
        · exact e197_20 z _ _ _ _ hk
        · cases hk
      · cases hk)
def F197 (z : Nat) (as : List aV) (M : aM) : Option aR := match as with
  | [.inr (.inr (11, 205)), .inl x1, .inl x2] => f197 z x1 x2 M
  | _ => none
theorem S197 (z : Nat) : am_Snd 3 197 (F197 z) := am_meth (by decide +kernel) (fun as M r has h => by
    rw [am_l197]
    unfold F197 at h
    split at h
    · exact ⟨Nat.le_of_ble_eq_true rfl, e197 z _ _ _ _ h⟩
    · cases h)
def cd199_0 : List am_E := [(0, .iload_n 1, 1, 1, 0, 0, 0), (1, .ifCond .ne 10, 3, 11, 0, 0, 0), (4, .aload_n 0, 1, 0, 0, 0, 0), (5, .getfield 161, 3, 11, 12, 0, 0), (8, .goto 16, 3, 24, 0, 0, 0), (11, .iload_n 1, 1, 1, 0, 0, 0), (12, .iconst 1, 1, 0, 0, 1, 0), (13, .if_icmp .ne 10, 3, 23, 0, 0, 0), (16, .aload_n 0, 1, 0, 0, 0, 0), (17, .getfield 27, 3, 11, 13, 0, 0), (20, .goto 4, 3, 24, 0, 0, 0), (23, .iconst (-1), 1, 0, 0, (-1), 0), (24, .ireturn, 1, 0, 0, 0, 0)]
def cd199 : List am_E := cd199_0
def am_w199 : List (List (Int32 × Nat) × Nat) := []
set_option maxRecDepth 100000 in
theorem kcd199_0 : cd199_0.all (am_chk am_w199 199) = true := by decide +kernel
theorem am_k199 : cd199.all (am_chk am_w199 199) = true := by
  simp only [cd199, List.all_append, kcd199_0, Bool.and_self]
theorem am_r199 : am_rtc 199 = 0 := by decide +kernel
theorem am_l199 : am_ml 199 = 2 := by decide +kernel
def am_s199_ (z : Nat) : Nat → List aV → aM → Option aR := fun j => (fun _ _ => none)
theorem hs199 (z : Nat) : ∀ j2 : Nat, ∃ d2 : Nat, d2 + 1 ≤ 1 ∧ am_Snd d2 j2 (am_s199_ z j2) := by
  intro j2
  unfold am_s199_
  exact ⟨0, by decide, am_Snd_no j2⟩
/-- ArgumentMenderModel.fault(I)I -/
def f199 (z : Nat) (x1 : Int32) (M : aM) : Option aR :=
  if ¬ x1 = 0 then
    if ¬ x1 = (1 : Int32) then
      some (some (.inl (-1 : Int32)), M)
    else
      some (some (.inl (M.1 205 13)), M)
  else
    some (some (.inl (M.1 205 12)), M)
set_option maxRecDepth 100000 in
set_option maxHeartbeats 4000000 in
theorem e199 (z : Nat) : ∀ (x1 : Int32) (M : aM) (r : aR), f199 z x1 M = some r → am_Ev 1 199 0 [some (.inr (.inr (11, 205))), some (.inl x1)] [] M r := by
  intro x1 M r h
  exact am_Ev_seg (sem := am_s199_ z) (cut := ([] : List (Nat × List Bool))) (hs199 z) am_r199 am_k199 (by rw [am_l199]; decide) (fun _ _ _ _ => none) 10 h (fun _ _ _ _ hk => by cases hk)
def F199 (z : Nat) (as : List aV) (M : aM) : Option aR := match as with
  | [.inr (.inr (11, 205)), .inl x1] => f199 z x1 M
  | _ => none
theorem S199 (z : Nat) : am_Snd 1 199 (F199 z) := am_meth (by decide +kernel) (fun as M r has h => by
    rw [am_l199]
    unfold F199 at h
    split at h
    · exact ⟨Nat.le_of_ble_eq_true rfl, e199 z _ _ _ h⟩
    · cases h)
def cd207_0 : List am_E := [(0, .aload_n 0, 1, 0, 0, 0, 0), (1, .iload_n 1, 1, 1, 0, 0, 0), (2, .i2l, 1, 0, 0, 0, 0), (3, .invokevirtual 241, 3, 183, 11010, 0, 0), (6, .ifCond .eq 31, 3, 37, 0, 0, 0), (9, .iload_n 2, 1, 2, 0, 0, 0), (10, .i2l, 1, 0, 0, 0, 0), (11, .lconst 0, 1, 0, 0, 0, 0), (12, .ldc2_w 101, 3, 0, 0, 0, 2), (15, .invokestatic 103, 3, 170, 35, 0, 0), (18, .ifCond .eq 19, 3, 37, 0, 0, 0), (21, .aload_n 0, 1, 0, 0, 0, 0), (22, .getfield 9, 3, 11, 1, 0, 0), (25, .bipush 8, 2, 0, 0, 8, 0), (27, .iconst 3, 1, 0, 0, 3, 0), (28, .iload_n 1, 1, 1, 0, 0, 0), (29, .imul, 1, 0, 0, 0, 0), (30, .iadd, 1, 0, 0, 0, 0), (31, .iload_n 2, 1, 2, 0, 0, 0), (32, .iadd, 1, 0, 0, 0, 0), (33, .iaload, 1, 0, 0, 0, 0), (34, .goto 5, 3, 39, 0, 0, 0), (37, .bipush (-2), 2, 0, 0, (-2), 0), (39, .ireturn, 1, 0, 0, 0, 0)]
def cd207 : List am_E := cd207_0
def am_w207 : List (List (Int32 × Nat) × Nat) := []
set_option maxRecDepth 100000 in
theorem kcd207_0 : cd207_0.all (am_chk am_w207 207) = true := by decide +kernel
theorem am_k207 : cd207.all (am_chk am_w207 207) = true := by
  simp only [cd207, List.all_append, kcd207_0, Bool.and_self]
theorem am_r207 : am_rtc 207 = 0 := by decide +kernel
theorem am_l207 : am_ml 207 = 3 := by decide +kernel
def am_s207_ (z : Nat) : Nat → List aV → aM → Option aR := fun j => (match Nat.beq j 170 with
  | true => F170 z
  | false => (match Nat.beq j 183 with
  | true => F183 z
  | false => (fun _ _ => none)))
theorem hs207 (z : Nat) : ∀ j2 : Nat, ∃ d2 : Nat, d2 + 1 ≤ 3 ∧ am_Snd d2 j2 (am_s207_ z j2) := by
  intro j2
  unfold am_s207_
  split
  · rename_i he
    rw [am_beq he]
    exact ⟨_, by decide, S170 z⟩
  · skip
    split
    · rename_i he
      rw [am_beq he]
      exact ⟨_, by decide, S183 z⟩
    · skip
      exact ⟨0, by decide, am_Snd_no j2⟩
/-- ArgumentMenderModel.thread(II)I -/
def f207 (z : Nat) (x1 : Int32) (x2 : Int32) (M : aM) : Option aR :=
  am_bi (f183 z (Int32.toInt64 x1) M) fun v2 M1 =>
    if v2 = 0 then
      some (some (.inl (-2 : Int32)), M1)
    else
      am_bi (f170 z (Int32.toInt64 x2) (0 : Int64) (2 : Int64) M1) fun v4 M3 =>
        if v4 = 0 then
          some (some (.inl (-2 : Int32)), M3)
        else
          if am_inB (((8 : Int32) + ((3 : Int32) * x1)) + x2) 116 then
            some (some (.inl (M3.1 206 (((8 : Int32) + ((3 : Int32) * x1)) + x2).toNatClampNeg)), M3)
          else
            none
set_option maxRecDepth 100000 in
set_option maxHeartbeats 4000000 in
theorem e207 (z : Nat) : ∀ (x1 : Int32) (x2 : Int32) (M : aM) (r : aR), f207 z x1 x2 M = some r → am_Ev 3 207 0 [some (.inr (.inr (11, 205))), some (.inl x1), some (.inl x2)] [] M r := by
  intro x1 x2 M r h
  exact am_Ev_seg (sem := am_s207_ z) (cut := ([] : List (Nat × List Bool))) (hs207 z) am_r207 am_k207 (by rw [am_l207]; decide) (fun _ _ _ _ => none) 24 h (fun _ _ _ _ hk => by cases hk)
def F207 (z : Nat) (as : List aV) (M : aM) : Option aR := match as with
  | [.inr (.inr (11, 205)), .inl x1, .inl x2] => f207 z x1 x2 M
  | _ => none
theorem S207 (z : Nat) : am_Snd 3 207 (F207 z) := am_meth (by decide +kernel) (fun as M r has h => by
    rw [am_l207]
    unfold F207 at h
    split at h
    · exact ⟨Nat.le_of_ble_eq_true rfl, e207 z _ _ _ _ h⟩
    · cases h)
def cd208_0 : List am_E := [(0, .aload_n 0, 1, 0, 0, 0, 0), (1, .iload_n 1, 1, 1, 0, 0, 0), (2, .invokevirtual 245, 3, 184, 11010, 0, 0), (5, .ifCond .eq 24, 3, 29, 0, 0, 0), (8, .iload_n 2, 1, 2, 0, 0, 0), (9, .i2l, 1, 0, 0, 0, 0), (10, .lconst 0, 1, 0, 0, 0, 0), (11, .ldc2_w 101, 3, 0, 0, 0, 2), (14, .invokestatic 103, 3, 170, 35, 0, 0), (17, .ifCond .eq 12, 3, 29, 0, 0, 0), (20, .aload_n 0, 1, 0, 0, 0, 0), (21, .iload_n 1, 1, 1, 0, 0, 0), (22, .iload_n 2, 1, 2, 0, 0, 0), (23, .invokevirtual 249, 3, 187, 11020, 0, 0), (26, .goto 5, 3, 31, 0, 0, 0), (29, .bipush (-2), 2, 0, 0, (-2), 0), (31, .ireturn, 1, 0, 0, 0, 0)]
def cd208 : List am_E := cd208_0
def am_w208 : List (List (Int32 × Nat) × Nat) := []
set_option maxRecDepth 100000 in
theorem kcd208_0 : cd208_0.all (am_chk am_w208 208) = true := by decide +kernel
theorem am_k208 : cd208.all (am_chk am_w208 208) = true := by
  simp only [cd208, List.all_append, kcd208_0, Bool.and_self]
theorem am_r208 : am_rtc 208 = 0 := by decide +kernel
theorem am_l208 : am_ml 208 = 3 := by decide +kernel
def am_s208_ (z : Nat) : Nat → List aV → aM → Option aR := fun j => (match Nat.beq j 170 with
  | true => F170 z
  | false => (match Nat.beq j 184 with
  | true => F184 z
  | false => (match Nat.beq j 187 with
  | true => F187 z
  | false => (fun _ _ => none))))
theorem hs208 (z : Nat) : ∀ j2 : Nat, ∃ d2 : Nat, d2 + 1 ≤ 3 ∧ am_Snd d2 j2 (am_s208_ z j2) := by
  intro j2
  unfold am_s208_
  split
  · rename_i he
    rw [am_beq he]
    exact ⟨_, by decide, S170 z⟩
  · skip
    split
    · rename_i he
      rw [am_beq he]
      exact ⟨_, by decide, S184 z⟩
    · skip
      split
      · rename_i he
        rw [am_beq he]
        exact ⟨_, by decide, S187 z⟩
      · skip
        exact ⟨0, by decide, am_Snd_no j2⟩
/-- ArgumentMenderModel.quarrel(II)I -/
def f208 (z : Nat) (x1 : Int32) (x2 : Int32) (M : aM) : Option aR :=
  am_bi (f184 z x1 M) fun v2 M1 =>
    if v2 = 0 then
      some (some (.inl (-2 : Int32)), M1)
    else
      am_bi (f170 z (Int32.toInt64 x2) (0 : Int64) (2 : Int64) M1) fun v4 M3 =>
        if v4 = 0 then
          some (some (.inl (-2 : Int32)), M3)
        else
          am_bi (f187 z x1 x2 M3) fun v6 M5 =>
            some (some (.inl v6), M5)
set_option maxRecDepth 100000 in
set_option maxHeartbeats 4000000 in
theorem e208 (z : Nat) : ∀ (x1 : Int32) (x2 : Int32) (M : aM) (r : aR), f208 z x1 x2 M = some r → am_Ev 3 208 0 [some (.inr (.inr (11, 205))), some (.inl x1), some (.inl x2)] [] M r := by
  intro x1 x2 M r h
  exact am_Ev_seg (sem := am_s208_ z) (cut := ([] : List (Nat × List Bool))) (hs208 z) am_r208 am_k208 (by rw [am_l208]; decide) (fun _ _ _ _ => none) 17 h (fun _ _ _ _ hk => by cases hk)
def F208 (z : Nat) (as : List aV) (M : aM) : Option aR := match as with
  | [.inr (.inr (11, 205)), .inl x1, .inl x2] => f208 z x1 x2 M
  | _ => none
theorem S208 (z : Nat) : am_Snd 3 208 (F208 z) := am_meth (by decide +kernel) (fun as M r has h => by
    rw [am_l208]
    unfold F208 at h
    split at h
    · exact ⟨Nat.le_of_ble_eq_true rfl, e208 z _ _ _ _ h⟩
    · cases h)
def cd209_0 : List am_E := [(0, .iconst 0, 1, 0, 0, 0, 0), (1, .istore_n 2, 1, 2, 0, 0, 0), (2, .iconst 0, 1, 0, 0, 0, 0), (3, .istore_n 3, 1, 3, 0, 0, 0), (4, .iload_n 3, 1, 3, 0, 0, 0), (5, .aload_n 0, 1, 0, 0, 0, 0), (6, .invokevirtual 118, 3, 178, 11000, 0, 0), (9, .if_icmp .ge 28, 3, 37, 0, 0, 0), (12, .iload_n 2, 1, 2, 0, 0, 0), (13, .aload_n 0, 1, 0, 0, 0, 0), (14, .iload_n 3, 1, 3, 0, 0, 0), (15, .invokevirtual 252, 3, 185, 11010, 0, 0), (18, .iload_n 1, 1, 1, 0, 0, 0), (19, .if_icmp .ne 9, 3, 28, 0, 0, 0), (22, .iconst 1, 1, 0, 0, 1, 0), (23, .iload_n 3, 1, 3, 0, 0, 0), (24, .ishl, 1, 0, 0, 0, 0), (25, .goto 4, 3, 29, 0, 0, 0), (28, .iconst 0, 1, 0, 0, 0, 0), (29, .ior, 1, 0, 0, 0, 0), (30, .istore_n 2, 1, 2, 0, 0, 0), (31, .iinc 3 1, 3, 3, 0, 1, 0), (34, .goto (-30), 3, 4, 0, 0, 0), (37, .iload_n 2, 1, 2, 0, 0, 0), (38, .ireturn, 1, 0, 0, 0, 0)]
def cd209 : List am_E := cd209_0
def am_w209 : List (List (Int32 × Nat) × Nat) := []
set_option maxRecDepth 100000 in
theorem kcd209_0 : cd209_0.all (am_chk am_w209 209) = true := by decide +kernel
theorem am_k209 : cd209.all (am_chk am_w209 209) = true := by
  simp only [cd209, List.all_append, kcd209_0, Bool.and_self]
theorem am_r209 : am_rtc 209 = 0 := by decide +kernel
theorem am_l209 : am_ml 209 = 4 := by decide +kernel
def am_s209_ (z : Nat) : Nat → List aV → aM → Option aR := fun j => (match Nat.beq j 178 with
  | true => F178 z
  | false => (match Nat.beq j 185 with
  | true => F185 z
  | false => (fun _ _ => none)))
theorem hs209 (z : Nat) : ∀ j2 : Nat, ∃ d2 : Nat, d2 + 1 ≤ 2 ∧ am_Snd d2 j2 (am_s209_ z j2) := by
  intro j2
  unfold am_s209_
  split
  · rename_i he
    rw [am_beq he]
    exact ⟨_, by decide, S178 z⟩
  · skip
    split
    · rename_i he
      rw [am_beq he]
      exact ⟨_, by decide, S185 z⟩
    · skip
      exact ⟨0, by decide, am_Snd_no j2⟩
def f209_4 (z : Nat) : Nat → Int32 → Int32 → Int32 → aM → Option aR
  | 0, _, _, _, _ => none
  | n + 1, x1, x2, x3, M =>
    am_bi (f178 z M) fun v2 M1 =>
      if v2 ≤ x3 then
        some (some (.inl x2), M1)
      else
        am_bi (f185 z x3 M1) fun v4 M3 =>
          if ¬ v4 = x1 then
            f209_4 z n x1 (x2 ||| (0 : Int32)) (x3 + (1 : Int32)) M3
          else
            f209_4 z n x1 (x2 ||| ((1 : Int32) <<< (x3 &&& 31))) (x3 + (1 : Int32)) M3
set_option maxRecDepth 100000 in
set_option maxHeartbeats 4000000 in
theorem e209_4 (z : Nat) : ∀ (n : Nat) (x1 : Int32) (x2 : Int32) (x3 : Int32) (M : aM) (r : aR), f209_4 z n x1 x2 x3 M = some r → am_Ev 2 209 4 [some (.inr (.inr (11, 205))), some (.inl x1), some (.inl x2), some (.inl x3)] [] M r := by
  intro n
  induction n with
  | zero =>
    intro x1 x2 x3 M r h
    cases h
  | succ n ih =>
    intro x1 x2 x3 M r h
    exact am_Ev_seg (sem := am_s209_ z) (cut := ([(4, [true, true, true, true])] : List (Nat × List Bool))) (hs209 z) am_r209 am_k209 (by rw [am_l209]; decide) (fun pc al st M => (match Nat.beq pc 4 with
      | true => (match al, st with
        | [some (.inr (.inr (11, 205))), some (.inl x1), some (.inl x2), some (.inl x3)], [] => f209_4 z n x1 x2 x3 M
        | _, _ => none)
      | false => none)) 20 h (fun pc al st M hk => by
      try dsimp only at hk
      split at hk
      · rename_i he
        rw [am_beq he]
        split at hk
        · exact ih _ _ _ _ _ hk
        · cases hk
      · cases hk)
/-- ArgumentMenderModel.threadsOf(I)I -/
def f209 (z : Nat) (x1 : Int32) (M : aM) : Option aR :=
  f209_4 z z x1 (0 : Int32) (0 : Int32) M
set_option maxRecDepth 100000 in
set_option maxHeartbeats 4000000 in
theorem e209 (z : Nat) : ∀ (x1 : Int32) (M : aM) (r : aR), f209 z x1 M = some r → am_Ev 2 209 0 [some (.inr (.inr (11, 205))), some (.inl x1), none, none] [] M r := by
  intro x1 M r h
  exact am_Ev_seg (sem := am_s209_ z) (cut := ([(4, [true, true, true, true])] : List (Nat × List Bool))) (hs209 z) am_r209 am_k209 (by rw [am_l209]; decide) (fun pc al st M => (match Nat.beq pc 4 with
      | true => (match al, st with
        | [some (.inr (.inr (11, 205))), some (.inl x1), some (.inl x2), some (.inl x3)], [] => f209_4 z z x1 x2 x3 M
        | _, _ => none)
      | false => none)) 6 h (fun pc al st M hk => by
      try dsimp only at hk
      split at hk
      · rename_i he
        rw [am_beq he]
        split at hk
        · exact e209_4 z _ _ _ _ _ _ hk
        · cases hk
      · cases hk)
def F209 (z : Nat) (as : List aV) (M : aM) : Option aR := match as with
  | [.inr (.inr (11, 205)), .inl x1] => f209 z x1 M
  | _ => none
theorem S209 (z : Nat) : am_Snd 2 209 (F209 z) := am_meth (by decide +kernel) (fun as M r has h => by
    rw [am_l209]
    unfold F209 at h
    split at h
    · exact ⟨Nat.le_of_ble_eq_true rfl, e209 z _ _ _ h⟩
    · cases h)
def cd210_0 : List am_E := [(0, .aload_n 0, 1, 0, 0, 0, 0), (1, .iload_n 1, 1, 1, 0, 0, 0), (2, .invokevirtual 255, 3, 182, 11010, 0, 0), (5, .ifCond .eq 11, 3, 16, 0, 0, 0), (8, .aload_n 0, 1, 0, 0, 0, 0), (9, .iload_n 1, 1, 1, 0, 0, 0), (10, .invokevirtual 258, 3, 209, 11010, 0, 0), (13, .goto 5, 3, 18, 0, 0, 0), (16, .bipush (-2), 2, 0, 0, (-2), 0), (18, .ireturn, 1, 0, 0, 0, 0)]
def cd210 : List am_E := cd210_0
def am_w210 : List (List (Int32 × Nat) × Nat) := []
set_option maxRecDepth 100000 in
theorem kcd210_0 : cd210_0.all (am_chk am_w210 210) = true := by decide +kernel
theorem am_k210 : cd210.all (am_chk am_w210 210) = true := by
  simp only [cd210, List.all_append, kcd210_0, Bool.and_self]
theorem am_r210 : am_rtc 210 = 0 := by decide +kernel
theorem am_l210 : am_ml 210 = 2 := by decide +kernel
def am_s210_ (z : Nat) : Nat → List aV → aM → Option aR := fun j => (match Nat.beq j 182 with
  | true => F182 z
  | false => (match Nat.beq j 209 with
  | true => F209 z
  | false => (fun _ _ => none)))
theorem hs210 (z : Nat) : ∀ j2 : Nat, ∃ d2 : Nat, d2 + 1 ≤ 3 ∧ am_Snd d2 j2 (am_s210_ z j2) := by
  intro j2
  unfold am_s210_
  split
  · rename_i he
    rw [am_beq he]
    exact ⟨_, by decide, S182 z⟩
  · skip
    split
    · rename_i he
      rw [am_beq he]
      exact ⟨_, by decide, S209 z⟩
    · skip
      exact ⟨0, by decide, am_Snd_no j2⟩
/-- ArgumentMenderModel.threads(I)I -/
def f210 (z : Nat) (x1 : Int32) (M : aM) : Option aR :=
  am_bi (f182 z x1 M) fun v2 M1 =>
    if v2 = 0 then
      some (some (.inl (-2 : Int32)), M1)
    else
      am_bi (f209 z x1 M1) fun v4 M3 =>
        some (some (.inl v4), M3)
set_option maxRecDepth 100000 in
set_option maxHeartbeats 4000000 in
theorem e210 (z : Nat) : ∀ (x1 : Int32) (M : aM) (r : aR), f210 z x1 M = some r → am_Ev 3 210 0 [some (.inr (.inr (11, 205))), some (.inl x1)] [] M r := by
  intro x1 M r h
  exact am_Ev_seg (sem := am_s210_ z) (cut := ([] : List (Nat × List Bool))) (hs210 z) am_r210 am_k210 (by rw [am_l210]; decide) (fun _ _ _ _ => none) 10 h (fun _ _ _ _ hk => by cases hk)
def F210 (z : Nat) (as : List aV) (M : aM) : Option aR := match as with
  | [.inr (.inr (11, 205)), .inl x1] => f210 z x1 M
  | _ => none
theorem S210 (z : Nat) : am_Snd 3 210 (F210 z) := am_meth (by decide +kernel) (fun as M r has h => by
    rw [am_l210]
    unfold F210 at h
    split at h
    · exact ⟨Nat.le_of_ble_eq_true rfl, e210 z _ _ _ h⟩
    · cases h)
def cd211_0 : List am_E := [(0, .aload_n 0, 1, 0, 0, 0, 0), (1, .aload_n 0, 1, 0, 0, 0, 0), (2, .getfield 9, 3, 11, 1, 0, 0), (5, .iconst 1, 1, 0, 0, 1, 0), (6, .iaload, 1, 0, 0, 0, 0), (7, .putfield 261, 3, 11, 16, 0, 0), (10, .aload_n 0, 1, 0, 0, 0, 0), (11, .ldc_w 264, 3, 0, 0, 65535, 0), (14, .putfield 265, 3, 11, 17, 0, 0), (17, .aload_n 0, 1, 0, 0, 0, 0), (18, .sipush 1023, 3, 0, 0, 1023, 0), (21, .putfield 268, 3, 11, 18, 0, 0), (24, .iconst 0, 1, 0, 0, 0, 0), (25, .istore_n 1, 1, 1, 0, 0, 0), (26, .iload_n 1, 1, 1, 0, 0, 0), (27, .bipush 16, 2, 0, 0, 16, 0), (29, .if_icmp .ge 28, 3, 57, 0, 0, 0), (32, .aload_n 0, 1, 0, 0, 0, 0), (33, .getfield 34, 3, 11, 15, 0, 0), (36, .iload_n 1, 1, 1, 0, 0, 0), (37, .aload_n 0, 1, 0, 0, 0, 0), (38, .getfield 9, 3, 11, 1, 0, 0), (41, .bipush 8, 2, 0, 0, 8, 0), (43, .iconst 3, 1, 0, 0, 3, 0), (44, .iload_n 1, 1, 1, 0, 0, 0), (45, .imul, 1, 0, 0, 0, 0), (46, .iadd, 1, 0, 0, 0, 0), (47, .iconst 2, 1, 0, 0, 2, 0), (48, .iadd, 1, 0, 0, 0, 0), (49, .iaload, 1, 0, 0, 0, 0), (50, .iastore, 1, 0, 0, 0, 0), (51, .iinc 1 1, 3, 1, 0, 1, 0), (54, .goto (-28), 3, 26, 0, 0, 0), (57, .return_, 1, 0, 0, 0, 0)]
def cd211 : List am_E := cd211_0
def am_w211 : List (List (Int32 × Nat) × Nat) := []
set_option maxRecDepth 100000 in
theorem kcd211_0 : cd211_0.all (am_chk am_w211 211) = true := by decide +kernel
theorem am_k211 : cd211.all (am_chk am_w211 211) = true := by
  simp only [cd211, List.all_append, kcd211_0, Bool.and_self]
theorem am_r211 : am_rtc 211 = 4 := by decide +kernel
theorem am_l211 : am_ml 211 = 2 := by decide +kernel
def am_s211_ (z : Nat) : Nat → List aV → aM → Option aR := fun j => (fun _ _ => none)
theorem hs211 (z : Nat) : ∀ j2 : Nat, ∃ d2 : Nat, d2 + 1 ≤ 1 ∧ am_Snd d2 j2 (am_s211_ z j2) := by
  intro j2
  unfold am_s211_
  exact ⟨0, by decide, am_Snd_no j2⟩
def f211_26 (z : Nat) : Nat → Int32 → aM → Option aR
  | 0, _, _ => none
  | n + 1, x1, M =>
    if (16 : Int32) ≤ x1 then
      some (none, M)
    else
      if am_inB (((8 : Int32) + ((3 : Int32) * x1)) + (2 : Int32)) 116 then
        if am_inB x1 16 then
          let I1 := am_u M.1 212 x1.toNatClampNeg (M.1 206 (((8 : Int32) + ((3 : Int32) * x1)) + (2 : Int32)).toNatClampNeg)
          f211_26 z n (x1 + (1 : Int32)) (I1, M.2)
        else
          none
      else
        none
set_option maxRecDepth 100000 in
set_option maxHeartbeats 4000000 in
theorem e211_26 (z : Nat) : ∀ (n : Nat) (x1 : Int32) (M : aM) (r : aR), f211_26 z n x1 M = some r → am_Ev 1 211 26 [some (.inr (.inr (11, 205))), some (.inl x1)] [] M r := by
  intro n
  induction n with
  | zero =>
    intro x1 M r h
    cases h
  | succ n ih =>
    intro x1 M r h
    exact am_Ev_seg (sem := am_s211_ z) (cut := ([(26, [true, true])] : List (Nat × List Bool))) (hs211 z) am_r211 am_k211 (by rw [am_l211]; decide) (fun pc al st M => (match Nat.beq pc 26 with
      | true => (match al, st with
        | [some (.inr (.inr (11, 205))), some (.inl x1)], [] => f211_26 z n x1 M
        | _, _ => none)
      | false => none)) 21 h (fun pc al st M hk => by
      try dsimp only at hk
      split at hk
      · rename_i he
        rw [am_beq he]
        split at hk
        · exact ih _ _ _ hk
        · cases hk
      · cases hk)
/-- ArgumentMenderModel.asItIs()V -/
def f211 (z : Nat) (M : aM) : Option aR :=
  if am_inB (1 : Int32) 116 then
    let I1 := am_u M.1 205 16 (M.1 206 (1 : Int32).toNatClampNeg)
    let I2 := am_u I1 205 17 (65535 : Int32)
    let I3 := am_u I2 205 18 (1023 : Int32)
    f211_26 z z (0 : Int32) (I3, M.2)
  else
    none
set_option maxRecDepth 100000 in
set_option maxHeartbeats 4000000 in
theorem e211 (z : Nat) : ∀ (M : aM) (r : aR), f211 z  M = some r → am_Ev 1 211 0 [some (.inr (.inr (11, 205))), none] [] M r := by
  intro  M r h
  exact am_Ev_seg (sem := am_s211_ z) (cut := ([(26, [true, true])] : List (Nat × List Bool))) (hs211 z) am_r211 am_k211 (by rw [am_l211]; decide) (fun pc al st M => (match Nat.beq pc 26 with
      | true => (match al, st with
        | [some (.inr (.inr (11, 205))), some (.inl x1)], [] => f211_26 z z x1 M
        | _, _ => none)
      | false => none)) 16 h (fun pc al st M hk => by
      try dsimp only at hk
      split at hk
      · rename_i he
        rw [am_beq he]
        split at hk
        · exact e211_26 z _ _ _ _ hk
        · cases hk
      · cases hk)
def F211 (z : Nat) (as : List aV) (M : aM) : Option aR := match as with
  | [.inr (.inr (11, 205))] => f211 z  M
  | _ => none
theorem S211 (z : Nat) : am_Snd 1 211 (F211 z) := am_meth (by decide +kernel) (fun as M r has h => by
    rw [am_l211]
    unfold F211 at h
    split at h
    · exact ⟨Nat.le_of_ble_eq_true rfl, e211 z _ _ h⟩
    · cases h)
def cd212_0 : List am_E := [(0, .aload_n 0, 1, 0, 0, 0, 0), (1, .iload_n 1, 1, 1, 0, 0, 0), (2, .invokevirtual 252, 3, 185, 11010, 0, 0), (5, .iload_n 2, 1, 2, 0, 0, 0), (6, .if_icmp .ne 16, 3, 22, 0, 0, 0), (9, .aload_n 0, 1, 0, 0, 0, 0), (10, .getfield 37, 3, 11, 19, 0, 0), (13, .iload_n 1, 1, 1, 0, 0, 0), (14, .iaload, 1, 0, 0, 0, 0), (15, .ifCond .le 7, 3, 22, 0, 0, 0), (18, .iconst 1, 1, 0, 0, 1, 0), (19, .goto 4, 3, 23, 0, 0, 0), (22, .iconst 0, 1, 0, 0, 0, 0), (23, .ireturn, 1, 0, 0, 0, 0)]
def cd212 : List am_E := cd212_0
def am_w212 : List (List (Int32 × Nat) × Nat) := []
set_option maxRecDepth 100000 in
theorem kcd212_0 : cd212_0.all (am_chk am_w212 212) = true := by decide +kernel
theorem am_k212 : cd212.all (am_chk am_w212 212) = true := by
  simp only [cd212, List.all_append, kcd212_0, Bool.and_self]
theorem am_r212 : am_rtc 212 = 1 := by decide +kernel
theorem am_l212 : am_ml 212 = 3 := by decide +kernel
def am_s212_ (z : Nat) : Nat → List aV → aM → Option aR := fun j => (match Nat.beq j 185 with
  | true => F185 z
  | false => (fun _ _ => none))
theorem hs212 (z : Nat) : ∀ j2 : Nat, ∃ d2 : Nat, d2 + 1 ≤ 2 ∧ am_Snd d2 j2 (am_s212_ z j2) := by
  intro j2
  unfold am_s212_
  split
  · rename_i he
    rw [am_beq he]
    exact ⟨_, by decide, S185 z⟩
  · skip
    exact ⟨0, by decide, am_Snd_no j2⟩
/-- ArgumentMenderModel.isWhole(II)Z -/
def f212 (z : Nat) (x1 : Int32) (x2 : Int32) (M : aM) : Option aR :=
  am_bi (f185 z x1 M) fun v2 M1 =>
    if ¬ v2 = x2 then
      some (some (.inl ((0 : Int32) &&& 1)), M1)
    else
      if am_inB x1 16 then
        if (M1.1 213 x1.toNatClampNeg) ≤ 0 then
          some (some (.inl ((0 : Int32) &&& 1)), M1)
        else
          some (some (.inl ((1 : Int32) &&& 1)), M1)
      else
        none
set_option maxRecDepth 100000 in
set_option maxHeartbeats 4000000 in
theorem e212 (z : Nat) : ∀ (x1 : Int32) (x2 : Int32) (M : aM) (r : aR), f212 z x1 x2 M = some r → am_Ev 2 212 0 [some (.inr (.inr (11, 205))), some (.inl x1), some (.inl x2)] [] M r := by
  intro x1 x2 M r h
  exact am_Ev_seg (sem := am_s212_ z) (cut := ([] : List (Nat × List Bool))) (hs212 z) am_r212 am_k212 (by rw [am_l212]; decide) (fun _ _ _ _ => none) 14 h (fun _ _ _ _ hk => by cases hk)
def F212 (z : Nat) (as : List aV) (M : aM) : Option aR := match as with
  | [.inr (.inr (11, 205)), .inl x1, .inl x2] => f212 z x1 x2 M
  | _ => none
theorem S212 (z : Nat) : am_Snd 2 212 (F212 z) := am_meth (by decide +kernel) (fun as M r has h => by
    rw [am_l212]
    unfold F212 at h
    split at h
    · exact ⟨Nat.le_of_ble_eq_true rfl, e212 z _ _ _ _ h⟩
    · cases h)
def cd213_0 : List am_E := [(0, .iconst (-1), 1, 0, 0, (-1), 0), (1, .istore_n 3, 1, 3, 0, 0, 0), (2, .iconst 0, 1, 0, 0, 0, 0), (3, .istore 4, 2, 4, 0, 0, 0), (5, .iload 4, 2, 4, 0, 0, 0), (7, .aload_n 0, 1, 0, 0, 0, 0), (8, .invokevirtual 118, 3, 178, 11000, 0, 0), (11, .if_icmp .ge 49, 3, 60, 0, 0, 0), (14, .iload 4, 2, 4, 0, 0, 0), (16, .iload_n 2, 1, 2, 0, 0, 0), (17, .if_icmp .eq 37, 3, 54, 0, 0, 0), (20, .aload_n 0, 1, 0, 0, 0, 0), (21, .iload 4, 2, 4, 0, 0, 0), (23, .iload_n 1, 1, 1, 0, 0, 0), (24, .invokevirtual 271, 3, 212, 11020, 0, 0), (27, .ifCond .eq 27, 3, 54, 0, 0, 0), (30, .iload_n 3, 1, 3, 0, 0, 0), (31, .iconst (-1), 1, 0, 0, (-1), 0), (32, .if_icmp .eq 19, 3, 51, 0, 0, 0), (35, .aload_n 0, 1, 0, 0, 0, 0), (36, .getfield 37, 3, 11, 19, 0, 0), (39, .iload 4, 2, 4, 0, 0, 0), (41, .iaload, 1, 0, 0, 0, 0), (42, .aload_n 0, 1, 0, 0, 0, 0), (43, .getfield 37, 3, 11, 19, 0, 0), (46, .iload_n 3, 1, 3, 0, 0, 0), (47, .iaload, 1, 0, 0, 0, 0), (48, .if_icmp .le 6, 3, 54, 0, 0, 0), (51, .iload 4, 2, 4, 0, 0, 0), (53, .istore_n 3, 1, 3, 0, 0, 0), (54, .iinc 4 1, 3, 4, 0, 1, 0), (57, .goto (-52), 3, 5, 0, 0, 0), (60, .iload_n 3, 1, 3, 0, 0, 0), (61, .ireturn, 1, 0, 0, 0, 0)]
def cd213 : List am_E := cd213_0
def am_w213 : List (List (Int32 × Nat) × Nat) := []
set_option maxRecDepth 100000 in
theorem kcd213_0 : cd213_0.all (am_chk am_w213 213) = true := by decide +kernel
theorem am_k213 : cd213.all (am_chk am_w213 213) = true := by
  simp only [cd213, List.all_append, kcd213_0, Bool.and_self]
theorem am_r213 : am_rtc 213 = 0 := by decide +kernel
theorem am_l213 : am_ml 213 = 5 := by decide +kernel
def am_s213_ (z : Nat) : Nat → List aV → aM → Option aR := fun j => (match Nat.beq j 178 with
  | true => F178 z
  | false => (match Nat.beq j 212 with
  | true => F212 z
  | false => (fun _ _ => none)))
theorem hs213 (z : Nat) : ∀ j2 : Nat, ∃ d2 : Nat, d2 + 1 ≤ 3 ∧ am_Snd d2 j2 (am_s213_ z j2) := by
  intro j2
  unfold am_s213_
  split
  · rename_i he
    rw [am_beq he]
    exact ⟨_, by decide, S178 z⟩
  · skip
    split
    · rename_i he
      rw [am_beq he]
      exact ⟨_, by decide, S212 z⟩
    · skip
      exact ⟨0, by decide, am_Snd_no j2⟩
def f213_5 (z : Nat) : Nat → Int32 → Int32 → Int32 → Int32 → aM → Option aR
  | 0, _, _, _, _, _ => none
  | n + 1, x1, x2, x3, x4, M =>
    am_bi (f178 z M) fun v2 M1 =>
      if v2 ≤ x4 then
        some (some (.inl x3), M1)
      else
        if x4 = x2 then
          f213_5 z n x1 x2 x3 (x4 + (1 : Int32)) M1
        else
          am_bi (f212 z x4 x1 M1) fun v4 M3 =>
            if v4 = 0 then
              f213_5 z n x1 x2 x3 (x4 + (1 : Int32)) M3
            else
              if x3 = (-1 : Int32) then
                f213_5 z n x1 x2 x4 (x4 + (1 : Int32)) M3
              else
                if am_inB x4 16 then
                  if am_inB x3 16 then
                    if (M3.1 213 x4.toNatClampNeg) ≤ (M3.1 213 x3.toNatClampNeg) then
                      f213_5 z n x1 x2 x3 (x4 + (1 : Int32)) M3
                    else
                      f213_5 z n x1 x2 x4 (x4 + (1 : Int32)) M3
                  else
                    none
                else
                  none
set_option maxRecDepth 100000 in
set_option maxHeartbeats 4000000 in
theorem e213_5 (z : Nat) : ∀ (n : Nat) (x1 : Int32) (x2 : Int32) (x3 : Int32) (x4 : Int32) (M : aM) (r : aR), f213_5 z n x1 x2 x3 x4 M = some r → am_Ev 3 213 5 [some (.inr (.inr (11, 205))), some (.inl x1), some (.inl x2), some (.inl x3), some (.inl x4)] [] M r := by
  intro n
  induction n with
  | zero =>
    intro x1 x2 x3 x4 M r h
    cases h
  | succ n ih =>
    intro x1 x2 x3 x4 M r h
    exact am_Ev_seg (sem := am_s213_ z) (cut := ([(5, [true, true, true, true, true])] : List (Nat × List Bool))) (hs213 z) am_r213 am_k213 (by rw [am_l213]; decide) (fun pc al st M => (match Nat.beq pc 5 with
      | true => (match al, st with
        | [some (.inr (.inr (11, 205))), some (.inl x1), some (.inl x2), some (.inl x3), some (.inl x4)], [] => f213_5 z n x1 x2 x3 x4 M
        | _, _ => none)
      | false => none)) 30 h (fun pc al st M hk => by
      try dsimp only at hk
      split at hk
      · rename_i he
        rw [am_beq he]
        split at hk
        · exact ih _ _ _ _ _ _ hk
        · cases hk
      · cases hk)
/-- ArgumentMenderModel.strongestOf(II)I -/
def f213 (z : Nat) (x1 : Int32) (x2 : Int32) (M : aM) : Option aR :=
  f213_5 z z x1 x2 (-1 : Int32) (0 : Int32) M
set_option maxRecDepth 100000 in
set_option maxHeartbeats 4000000 in
theorem e213 (z : Nat) : ∀ (x1 : Int32) (x2 : Int32) (M : aM) (r : aR), f213 z x1 x2 M = some r → am_Ev 3 213 0 [some (.inr (.inr (11, 205))), some (.inl x1), some (.inl x2), none, none] [] M r := by
  intro x1 x2 M r h
  exact am_Ev_seg (sem := am_s213_ z) (cut := ([(5, [true, true, true, true, true])] : List (Nat × List Bool))) (hs213 z) am_r213 am_k213 (by rw [am_l213]; decide) (fun pc al st M => (match Nat.beq pc 5 with
      | true => (match al, st with
        | [some (.inr (.inr (11, 205))), some (.inl x1), some (.inl x2), some (.inl x3), some (.inl x4)], [] => f213_5 z z x1 x2 x3 x4 M
        | _, _ => none)
      | false => none)) 6 h (fun pc al st M hk => by
      try dsimp only at hk
      split at hk
      · rename_i he
        rw [am_beq he]
        split at hk
        · exact e213_5 z _ _ _ _ _ _ _ hk
        · cases hk
      · cases hk)
def F213 (z : Nat) (as : List aV) (M : aM) : Option aR := match as with
  | [.inr (.inr (11, 205)), .inl x1, .inl x2] => f213 z x1 x2 M
  | _ => none
theorem S213 (z : Nat) : am_Snd 3 213 (F213 z) := am_meth (by decide +kernel) (fun as M r has h => by
    rw [am_l213]
    unfold F213 at h
    split at h
    · exact ⟨Nat.le_of_ble_eq_true rfl, e213 z _ _ _ _ h⟩
    · cases h)
def cd214_0 : List am_E := [(0, .iconst 0, 1, 0, 0, 0, 0), (1, .istore 4, 2, 4, 0, 0, 0), (3, .iconst 0, 1, 0, 0, 0, 0), (4, .istore 5, 2, 5, 0, 0, 0), (6, .iload 5, 2, 5, 0, 0, 0), (8, .aload_n 0, 1, 0, 0, 0, 0), (9, .invokevirtual 118, 3, 178, 11000, 0, 0), (12, .if_icmp .ge 49, 3, 61, 0, 0, 0), (15, .aload_n 0, 1, 0, 0, 0, 0), (16, .iload 5, 2, 5, 0, 0, 0), (18, .iload_n 1, 1, 1, 0, 0, 0), (19, .invokevirtual 271, 3, 212, 11020, 0, 0), (22, .ifCond .ne 6, 3, 28, 0, 0, 0), (25, .goto 30, 3, 55, 0, 0, 0), (28, .aload_n 0, 1, 0, 0, 0, 0), (29, .getfield 40, 3, 11, 20, 0, 0), (32, .iload 5, 2, 5, 0, 0, 0), (34, .iload_n 2, 1, 2, 0, 0, 0), (35, .iload_n 3, 1, 3, 0, 0, 0), (36, .idiv, 1, 0, 0, 0, 0), (37, .iload 4, 2, 4, 0, 0, 0), (39, .iload_n 2, 1, 2, 0, 0, 0), (40, .iload_n 3, 1, 3, 0, 0, 0), (41, .irem, 1, 0, 0, 0, 0), (42, .if_icmp .ge 7, 3, 49, 0, 0, 0), (45, .iconst 1, 1, 0, 0, 1, 0), (46, .goto 4, 3, 50, 0, 0, 0), (49, .iconst 0, 1, 0, 0, 0, 0), (50, .iadd, 1, 0, 0, 0, 0), (51, .iastore, 1, 0, 0, 0, 0), (52, .iinc 4 1, 3, 4, 0, 1, 0), (55, .iinc 5 1, 3, 5, 0, 1, 0), (58, .goto (-52), 3, 6, 0, 0, 0), (61, .return_, 1, 0, 0, 0, 0)]
def cd214 : List am_E := cd214_0
def am_w214 : List (List (Int32 × Nat) × Nat) := []
set_option maxRecDepth 100000 in
theorem kcd214_0 : cd214_0.all (am_chk am_w214 214) = true := by decide +kernel
theorem am_k214 : cd214.all (am_chk am_w214 214) = true := by
  simp only [cd214, List.all_append, kcd214_0, Bool.and_self]
theorem am_r214 : am_rtc 214 = 4 := by decide +kernel
theorem am_l214 : am_ml 214 = 6 := by decide +kernel
def am_s214_ (z : Nat) : Nat → List aV → aM → Option aR := fun j => (match Nat.beq j 178 with
  | true => F178 z
  | false => (match Nat.beq j 212 with
  | true => F212 z
  | false => (fun _ _ => none)))
theorem hs214 (z : Nat) : ∀ j2 : Nat, ∃ d2 : Nat, d2 + 1 ≤ 3 ∧ am_Snd d2 j2 (am_s214_ z j2) := by
  intro j2
  unfold am_s214_
  split
  · rename_i he
    rw [am_beq he]
    exact ⟨_, by decide, S178 z⟩
  · skip
    split
    · rename_i he
      rw [am_beq he]
      exact ⟨_, by decide, S212 z⟩
    · skip
      exact ⟨0, by decide, am_Snd_no j2⟩
def f214_6 (z : Nat) : Nat → Int32 → Int32 → Int32 → Int32 → Int32 → aM → Option aR
  | 0, _, _, _, _, _, _ => none
  | n + 1, x1, x2, x3, x4, x5, M =>
    am_bi (f178 z M) fun v2 M1 =>
      if v2 ≤ x5 then
        some (none, M1)
      else
        am_bi (f212 z x5 x1 M1) fun v4 M3 =>
          if ¬ v4 = 0 then
            if x3 = 0 then
              none
            else
              if x3 = 0 then
                none
              else
                if (x2 - x2 / x3 * x3) ≤ x4 then
                  if am_inB x5 16 then
                    let I5 := am_u M3.1 214 x5.toNatClampNeg ((x2 / x3) + (0 : Int32))
                    f214_6 z n x1 x2 x3 (x4 + (1 : Int32)) (x5 + (1 : Int32)) (I5, M3.2)
                  else
                    none
                else
                  if am_inB x5 16 then
                    let I6 := am_u M3.1 214 x5.toNatClampNeg ((x2 / x3) + (1 : Int32))
                    f214_6 z n x1 x2 x3 (x4 + (1 : Int32)) (x5 + (1 : Int32)) (I6, M3.2)
                  else
                    none
          else
            f214_6 z n x1 x2 x3 x4 (x5 + (1 : Int32)) M3
set_option maxRecDepth 100000 in
set_option maxHeartbeats 4000000 in
theorem e214_6 (z : Nat) : ∀ (n : Nat) (x1 : Int32) (x2 : Int32) (x3 : Int32) (x4 : Int32) (x5 : Int32) (M : aM) (r : aR), f214_6 z n x1 x2 x3 x4 x5 M = some r → am_Ev 3 214 6 [some (.inr (.inr (11, 205))), some (.inl x1), some (.inl x2), some (.inl x3), some (.inl x4), some (.inl x5)] [] M r := by
  intro n
  induction n with
  | zero =>
    intro x1 x2 x3 x4 x5 M r h
    cases h
  | succ n ih =>
    intro x1 x2 x3 x4 x5 M r h
    exact am_Ev_seg (sem := am_s214_ z) (cut := ([(6, [true, true, true, true, true, true])] : List (Nat × List Bool))) (hs214 z) am_r214 am_k214 (by rw [am_l214]; decide) (fun pc al st M => (match Nat.beq pc 6 with
      | true => (match al, st with
        | [some (.inr (.inr (11, 205))), some (.inl x1), some (.inl x2), some (.inl x3), some (.inl x4), some (.inl x5)], [] => f214_6 z n x1 x2 x3 x4 x5 M
        | _, _ => none)
      | false => none)) 29 h (fun pc al st M hk => by
      try dsimp only at hk
      split at hk
      · rename_i he
        rw [am_beq he]
        split at hk
        · exact ih _ _ _ _ _ _ _ hk
        · cases hk
      · cases hk)
/-- ArgumentMenderModel.shareEqually(III)V -/
def f214 (z : Nat) (x1 : Int32) (x2 : Int32) (x3 : Int32) (M : aM) : Option aR :=
  f214_6 z z x1 x2 x3 (0 : Int32) (0 : Int32) M
set_option maxRecDepth 100000 in
set_option maxHeartbeats 4000000 in
theorem e214 (z : Nat) : ∀ (x1 : Int32) (x2 : Int32) (x3 : Int32) (M : aM) (r : aR), f214 z x1 x2 x3 M = some r → am_Ev 3 214 0 [some (.inr (.inr (11, 205))), some (.inl x1), some (.inl x2), some (.inl x3), none, none] [] M r := by
  intro x1 x2 x3 M r h
  exact am_Ev_seg (sem := am_s214_ z) (cut := ([(6, [true, true, true, true, true, true])] : List (Nat × List Bool))) (hs214 z) am_r214 am_k214 (by rw [am_l214]; decide) (fun pc al st M => (match Nat.beq pc 6 with
      | true => (match al, st with
        | [some (.inr (.inr (11, 205))), some (.inl x1), some (.inl x2), some (.inl x3), some (.inl x4), some (.inl x5)], [] => f214_6 z z x1 x2 x3 x4 x5 M
        | _, _ => none)
      | false => none)) 6 h (fun pc al st M hk => by
      try dsimp only at hk
      split at hk
      · rename_i he
        rw [am_beq he]
        split at hk
        · exact e214_6 z _ _ _ _ _ _ _ _ hk
        · cases hk
      · cases hk)
def F214 (z : Nat) (as : List aV) (M : aM) : Option aR := match as with
  | [.inr (.inr (11, 205)), .inl x1, .inl x2, .inl x3] => f214 z x1 x2 x3 M
  | _ => none
theorem S214 (z : Nat) : am_Snd 3 214 (F214 z) := am_meth (by decide +kernel) (fun as M r has h => by
    rw [am_l214]
    unfold F214 at h
    split at h
    · exact ⟨Nat.le_of_ble_eq_true rfl, e214 z _ _ _ _ _ h⟩
    · cases h)
def cd215_0 : List am_E := [(0, .iconst 0, 1, 0, 0, 0, 0), (1, .istore 4, 2, 4, 0, 0, 0), (3, .iconst 0, 1, 0, 0, 0, 0), (4, .istore 5, 2, 5, 0, 0, 0), (6, .iload 5, 2, 5, 0, 0, 0), (8, .aload_n 0, 1, 0, 0, 0, 0), (9, .invokevirtual 118, 3, 178, 11000, 0, 0), (12, .if_icmp .ge 35, 3, 47, 0, 0, 0), (15, .iload 4, 2, 4, 0, 0, 0), (17, .aload_n 0, 1, 0, 0, 0, 0), (18, .iload 5, 2, 5, 0, 0, 0), (20, .iload_n 1, 1, 1, 0, 0, 0), (21, .invokevirtual 271, 3, 212, 11020, 0, 0), (24, .ifCond .eq 13, 3, 37, 0, 0, 0), (27, .aload_n 0, 1, 0, 0, 0, 0), (28, .getfield 37, 3, 11, 19, 0, 0), (31, .iload 5, 2, 5, 0, 0, 0), (33, .iaload, 1, 0, 0, 0, 0), (34, .goto 4, 3, 38, 0, 0, 0), (37, .iconst 0, 1, 0, 0, 0, 0), (38, .iadd, 1, 0, 0, 0, 0), (39, .istore 4, 2, 4, 0, 0, 0), (41, .iinc 5 1, 3, 5, 0, 1, 0), (44, .goto (-38), 3, 6, 0, 0, 0), (47, .iload_n 2, 1, 2, 0, 0, 0), (48, .istore 5, 2, 5, 0, 0, 0), (50, .iconst 0, 1, 0, 0, 0, 0), (51, .istore 6, 2, 6, 0, 0, 0), (53, .iload 6, 2, 6, 0, 0, 0), (55, .aload_n 0, 1, 0, 0, 0, 0), (56, .invokevirtual 118, 3, 178, 11000, 0, 0), (59, .if_icmp .ge 53, 3, 112, 0, 0, 0), (62, .aload_n 0, 1, 0, 0, 0, 0), (63, .iload 6, 2, 6, 0, 0, 0), (65, .iload_n 1, 1, 1, 0, 0, 0), (66, .invokevirtual 271, 3, 212, 11020, 0, 0), (69, .ifCond .ne 6, 3, 75, 0, 0, 0), (72, .goto 34, 3, 106, 0, 0, 0), (75, .aload_n 0, 1, 0, 0, 0, 0), (76, .getfield 40, 3, 11, 20, 0, 0)]
def cd215_1 : List am_E := [(79, .iload 6, 2, 6, 0, 0, 0), (81, .aload_n 0, 1, 0, 0, 0, 0), (82, .getfield 37, 3, 11, 19, 0, 0), (85, .iload 6, 2, 6, 0, 0, 0), (87, .iaload, 1, 0, 0, 0, 0), (88, .iload_n 2, 1, 2, 0, 0, 0), (89, .imul, 1, 0, 0, 0, 0), (90, .iload 4, 2, 4, 0, 0, 0), (92, .idiv, 1, 0, 0, 0, 0), (93, .iastore, 1, 0, 0, 0, 0), (94, .iload 5, 2, 5, 0, 0, 0), (96, .aload_n 0, 1, 0, 0, 0, 0), (97, .getfield 40, 3, 11, 20, 0, 0), (100, .iload 6, 2, 6, 0, 0, 0), (102, .iaload, 1, 0, 0, 0, 0), (103, .isub, 1, 0, 0, 0, 0), (104, .istore 5, 2, 5, 0, 0, 0), (106, .iinc 6 1, 3, 6, 0, 1, 0), (109, .goto (-56), 3, 53, 0, 0, 0), (112, .aload_n 0, 1, 0, 0, 0, 0), (113, .getfield 40, 3, 11, 20, 0, 0), (116, .iload_n 3, 1, 3, 0, 0, 0), (117, .dup2, 1, 0, 0, 0, 0), (118, .iaload, 1, 0, 0, 0, 0), (119, .iload 5, 2, 5, 0, 0, 0), (121, .iadd, 1, 0, 0, 0, 0), (122, .iastore, 1, 0, 0, 0, 0), (123, .return_, 1, 0, 0, 0, 0)]
def cd215 : List am_E := cd215_0 ++ (cd215_1)
def am_w215 : List (List (Int32 × Nat) × Nat) := []
set_option maxRecDepth 100000 in
theorem kcd215_0 : cd215_0.all (am_chk am_w215 215) = true := by decide +kernel
set_option maxRecDepth 100000 in
theorem kcd215_1 : cd215_1.all (am_chk am_w215 215) = true := by decide +kernel
theorem am_k215 : cd215.all (am_chk am_w215 215) = true := by
  simp only [cd215, List.all_append, kcd215_0, kcd215_1, Bool.and_self]
theorem am_r215 : am_rtc 215 = 4 := by decide +kernel
theorem am_l215 : am_ml 215 = 7 := by decide +kernel
def am_s215_ (z : Nat) : Nat → List aV → aM → Option aR := fun j => (match Nat.beq j 178 with
  | true => F178 z
  | false => (match Nat.beq j 212 with
  | true => F212 z
  | false => (fun _ _ => none)))
theorem hs215 (z : Nat) : ∀ j2 : Nat, ∃ d2 : Nat, d2 + 1 ≤ 3 ∧ am_Snd d2 j2 (am_s215_ z j2) := by
  intro j2
  unfold am_s215_
  split
  · rename_i he
    rw [am_beq he]
    exact ⟨_, by decide, S178 z⟩
  · skip
    split
    · rename_i he
      rw [am_beq he]
      exact ⟨_, by decide, S212 z⟩
    · skip
      exact ⟨0, by decide, am_Snd_no j2⟩
def f215_53 (z : Nat) : Nat → Int32 → Int32 → Int32 → Int32 → Int32 → Int32 → aM → Option aR
  | 0, _, _, _, _, _, _, _ => none
  | n + 1, x1, x2, x3, x4, x5, x6, M =>
    am_bi (f178 z M) fun v2 M1 =>
      if v2 ≤ x6 then
        if am_inB x3 16 then
          if am_inB x3 16 then
            let I3 := am_u M1.1 214 x3.toNatClampNeg ((M1.1 214 x3.toNatClampNeg) + x5)
            some (none, (I3, M1.2))
          else
            none
        else
          none
      else
        am_bi (f212 z x6 x1 M1) fun v5 M4 =>
          if ¬ v5 = 0 then
            if am_inB x6 16 then
              if x4 = 0 then
                none
              else
                if am_inB x6 16 then
                  let I6 := am_u M4.1 214 x6.toNatClampNeg (((M4.1 213 x6.toNatClampNeg) * x2) / x4)
                  if am_inB x6 16 then
                    f215_53 z n x1 x2 x3 x4 (x5 - (I6 214 x6.toNatClampNeg)) (x6 + (1 : Int32)) (I6, M4.2)
                  else
                    none
                else
                  none
            else
              none
          else
            f215_53 z n x1 x2 x3 x4 x5 (x6 + (1 : Int32)) M4
set_option maxRecDepth 100000 in
set_option maxHeartbeats 4000000 in
theorem e215_53 (z : Nat) : ∀ (n : Nat) (x1 : Int32) (x2 : Int32) (x3 : Int32) (x4 : Int32) (x5 : Int32) (x6 : Int32) (M : aM) (r : aR), f215_53 z n x1 x2 x3 x4 x5 x6 M = some r → am_Ev 3 215 53 [some (.inr (.inr (11, 205))), some (.inl x1), some (.inl x2), some (.inl x3), some (.inl x4), some (.inl x5), some (.inl x6)] [] M r := by
  intro n
  induction n with
  | zero =>
    intro x1 x2 x3 x4 x5 x6 M r h
    cases h
  | succ n ih =>
    intro x1 x2 x3 x4 x5 x6 M r h
    exact am_Ev_seg (sem := am_s215_ z) (cut := ([(53, [true, true, true, true, true, true, true])] : List (Nat × List Bool))) (hs215 z) am_r215 am_k215 (by rw [am_l215]; decide) (fun pc al st M => (match Nat.beq pc 53 with
      | true => (match al, st with
        | [some (.inr (.inr (11, 205))), some (.inl x1), some (.inl x2), some (.inl x3), some (.inl x4), some (.inl x5), some (.inl x6)], [] => f215_53 z n x1 x2 x3 x4 x5 x6 M
        | _, _ => none)
      | false => none)) 32 h (fun pc al st M hk => by
      try dsimp only at hk
      split at hk
      · rename_i he
        rw [am_beq he]
        split at hk
        · exact ih _ _ _ _ _ _ _ _ hk
        · cases hk
      · cases hk)
def f215_6 (z : Nat) : Nat → Int32 → Int32 → Int32 → Int32 → Int32 → aM → Option aR
  | 0, _, _, _, _, _, _ => none
  | n + 1, x1, x2, x3, x4, x5, M =>
    am_bi (f178 z M) fun v2 M1 =>
      if v2 ≤ x5 then
        f215_53 z z x1 x2 x3 x4 x2 (0 : Int32) M1
      else
        am_bi (f212 z x5 x1 M1) fun v4 M3 =>
          if v4 = 0 then
            f215_6 z n x1 x2 x3 (x4 + (0 : Int32)) (x5 + (1 : Int32)) M3
          else
            if am_inB x5 16 then
              f215_6 z n x1 x2 x3 (x4 + (M3.1 213 x5.toNatClampNeg)) (x5 + (1 : Int32)) M3
            else
              none
set_option maxRecDepth 100000 in
set_option maxHeartbeats 4000000 in
theorem e215_6 (z : Nat) : ∀ (n : Nat) (x1 : Int32) (x2 : Int32) (x3 : Int32) (x4 : Int32) (x5 : Int32) (M : aM) (r : aR), f215_6 z n x1 x2 x3 x4 x5 M = some r → am_Ev 3 215 6 [some (.inr (.inr (11, 205))), some (.inl x1), some (.inl x2), some (.inl x3), some (.inl x4), some (.inl x5), none] [] M r := by
  intro n
  induction n with
  | zero =>
    intro x1 x2 x3 x4 x5 M r h
    cases h
  | succ n ih =>
    intro x1 x2 x3 x4 x5 M r h
    exact am_Ev_seg (sem := am_s215_ z) (cut := ([(6, [true, true, true, true, true, true, false]), (53, [true, true, true, true, true, true, true])] : List (Nat × List Bool))) (hs215 z) am_r215 am_k215 (by rw [am_l215]; decide) (fun pc al st M => (match Nat.beq pc 6 with
      | true => (match al, st with
        | [some (.inr (.inr (11, 205))), some (.inl x1), some (.inl x2), some (.inl x3), some (.inl x4), some (.inl x5), none], [] => f215_6 z n x1 x2 x3 x4 x5 M
        | _, _ => none)
      | false => (match Nat.beq pc 53 with
      | true => (match al, st with
        | [some (.inr (.inr (11, 205))), some (.inl x1), some (.inl x2), some (.inl x3), some (.inl x4), some (.inl x5), some (.inl x6)], [] => f215_53 z z x1 x2 x3 x4 x5 x6 M
        | _, _ => none)
      | false => none))) 21 h (fun pc al st M hk => by
      try dsimp only at hk
      split at hk
      · rename_i he
        rw [am_beq he]
        split at hk
        · exact ih _ _ _ _ _ _ _ hk
        · cases hk
      · skip
        split at hk
        · rename_i he
          rw [am_beq he]
          split at hk
          · exact e215_53 z _ _ _ _ _ _ _ _ _ hk
          · cases hk
        · cases hk)
/-- ArgumentMenderModel.shareByStrength(III)V -/
def f215 (z : Nat) (x1 : Int32) (x2 : Int32) (x3 : Int32) (M : aM) : Option aR :=
  f215_6 z z x1 x2 x3 (0 : Int32) (0 : Int32) M
set_option maxRecDepth 100000 in
set_option maxHeartbeats 4000000 in
theorem e215 (z : Nat) : ∀ (x1 : Int32) (x2 : Int32) (x3 : Int32) (M : aM) (r : aR), f215 z x1 x2 x3 M = some r → am_Ev 3 215 0 [some (.inr (.inr (11, 205))), some (.inl x1), some (.inl x2), some (.inl x3), none, none, none] [] M r := by
  intro x1 x2 x3 M r h
  exact am_Ev_seg (sem := am_s215_ z) (cut := ([(6, [true, true, true, true, true, true, false])] : List (Nat × List Bool))) (hs215 z) am_r215 am_k215 (by rw [am_l215]; decide) (fun pc al st M => (match Nat.beq pc 6 with
      | true => (match al, st with
        | [some (.inr (.inr (11, 205))), some (.inl x1), some (.inl x2), some (.inl x3), some (.inl x4), some (.inl x5), none], [] => f215_6 z z x1 x2 x3 x4 x5 M
        | _, _ => none)
      | false => none)) 6 h (fun pc al st M hk => by
      try dsimp only at hk
      split at hk
      · rename_i he
        rw [am_beq he]
        split at hk
        · exact e215_6 z _ _ _ _ _ _ _ _ hk
        · cases hk
      · cases hk)
def F215 (z : Nat) (as : List aV) (M : aM) : Option aR := match as with
  | [.inr (.inr (11, 205)), .inl x1, .inl x2, .inl x3] => f215 z x1 x2 x3 M
  | _ => none
theorem S215 (z : Nat) : am_Snd 3 215 (F215 z) := am_meth (by decide +kernel) (fun as M r has h => by
    rw [am_l215]
    unfold F215 at h
    split at h
    · exact ⟨Nat.le_of_ble_eq_true rfl, e215 z _ _ _ _ _ h⟩
    · cases h)
def cd216_0 : List am_E := [(0, .aload_n 0, 1, 0, 0, 0, 0), (1, .iload_n 1, 1, 1, 0, 0, 0), (2, .iload_n 3, 1, 3, 0, 0, 0), (3, .invokevirtual 275, 3, 213, 11020, 0, 0), (6, .istore 4, 2, 4, 0, 0, 0), (8, .aload_n 0, 1, 0, 0, 0, 0), (9, .getfield 40, 3, 11, 20, 0, 0), (12, .iload_n 3, 1, 3, 0, 0, 0), (13, .iload 4, 2, 4, 0, 0, 0), (15, .iconst (-1), 1, 0, 0, (-1), 0), (16, .if_icmp .ne 7, 3, 23, 0, 0, 0), (19, .iload_n 2, 1, 2, 0, 0, 0), (20, .goto 8, 3, 28, 0, 0, 0), (23, .iload_n 2, 1, 2, 0, 0, 0), (24, .iload_n 2, 1, 2, 0, 0, 0), (25, .iconst 2, 1, 0, 0, 2, 0), (26, .idiv, 1, 0, 0, 0, 0), (27, .isub, 1, 0, 0, 0, 0), (28, .iastore, 1, 0, 0, 0, 0), (29, .iload 4, 2, 4, 0, 0, 0), (31, .iconst (-1), 1, 0, 0, (-1), 0), (32, .if_icmp .eq 13, 3, 45, 0, 0, 0), (35, .aload_n 0, 1, 0, 0, 0, 0), (36, .getfield 40, 3, 11, 20, 0, 0), (39, .iload 4, 2, 4, 0, 0, 0), (41, .iload_n 2, 1, 2, 0, 0, 0), (42, .iconst 2, 1, 0, 0, 2, 0), (43, .idiv, 1, 0, 0, 0, 0), (44, .iastore, 1, 0, 0, 0, 0), (45, .return_, 1, 0, 0, 0, 0)]
def cd216 : List am_E := cd216_0
def am_w216 : List (List (Int32 × Nat) × Nat) := []
set_option maxRecDepth 100000 in
theorem kcd216_0 : cd216_0.all (am_chk am_w216 216) = true := by decide +kernel
theorem am_k216 : cd216.all (am_chk am_w216 216) = true := by
  simp only [cd216, List.all_append, kcd216_0, Bool.and_self]
theorem am_r216 : am_rtc 216 = 4 := by decide +kernel
theorem am_l216 : am_ml 216 = 5 := by decide +kernel
def am_s216_ (z : Nat) : Nat → List aV → aM → Option aR := fun j => (match Nat.beq j 213 with
  | true => F213 z
  | false => (fun _ _ => none))
theorem hs216 (z : Nat) : ∀ j2 : Nat, ∃ d2 : Nat, d2 + 1 ≤ 4 ∧ am_Snd d2 j2 (am_s216_ z j2) := by
  intro j2
  unfold am_s216_
  split
  · rename_i he
    rw [am_beq he]
    exact ⟨_, by decide, S213 z⟩
  · skip
    exact ⟨0, by decide, am_Snd_no j2⟩
/-- ArgumentMenderModel.shareByHalves(III)V -/
def f216 (z : Nat) (x1 : Int32) (x2 : Int32) (x3 : Int32) (M : aM) : Option aR :=
  am_bi (f213 z x1 x3 M) fun v2 M1 =>
    if ¬ v2 = (-1 : Int32) then
      if (2 : Int32) = 0 then
        none
      else
        if am_inB x3 16 then
          let I3 := am_u M1.1 214 x3.toNatClampNeg (x2 - (x2 / (2 : Int32)))
          if v2 = (-1 : Int32) then
            some (none, (I3, M1.2))
          else
            if (2 : Int32) = 0 then
              none
            else
              if am_inB v2 16 then
                let I4 := am_u I3 214 v2.toNatClampNeg (x2 / (2 : Int32))
                some (none, (I4, M1.2))
              else
                none
        else
          none
    else
      if am_inB x3 16 then
        let I5 := am_u M1.1 214 x3.toNatClampNeg x2
        if v2 = (-1 : Int32) then
          some (none, (I5, M1.2))
        else
          if (2 : Int32) = 0 then
            none
          else
            if am_inB v2 16 then
              let I6 := am_u I5 214 v2.toNatClampNeg (x2 / (2 : Int32))
              some (none, (I6, M1.2))
            else
              none
      else
        none
set_option maxRecDepth 100000 in
set_option maxHeartbeats 4000000 in
theorem e216 (z : Nat) : ∀ (x1 : Int32) (x2 : Int32) (x3 : Int32) (M : aM) (r : aR), f216 z x1 x2 x3 M = some r → am_Ev 4 216 0 [some (.inr (.inr (11, 205))), some (.inl x1), some (.inl x2), some (.inl x3), none] [] M r := by
  intro x1 x2 x3 M r h
  exact am_Ev_seg (sem := am_s216_ z) (cut := ([] : List (Nat × List Bool))) (hs216 z) am_r216 am_k216 (by rw [am_l216]; decide) (fun _ _ _ _ => none) 29 h (fun _ _ _ _ hk => by cases hk)
def F216 (z : Nat) (as : List aV) (M : aM) : Option aR := match as with
  | [.inr (.inr (11, 205)), .inl x1, .inl x2, .inl x3] => f216 z x1 x2 x3 M
  | _ => none
theorem S216 (z : Nat) : am_Snd 4 216 (F216 z) := am_meth (by decide +kernel) (fun as M r has h => by
    rw [am_l216]
    unfold F216 at h
    split at h
    · exact ⟨Nat.le_of_ble_eq_true rfl, e216 z _ _ _ _ _ h⟩
    · cases h)
def cd217_0 : List am_E := [(0, .aload_n 0, 1, 0, 0, 0, 0), (1, .getfield 43, 3, 11, 21, 0, 0), (4, .iload_n 1, 1, 1, 0, 0, 0), (5, .iaload, 1, 0, 0, 0, 0), (6, .istore_n 2, 1, 2, 0, 0, 0), (7, .iconst 0, 1, 0, 0, 0, 0), (8, .istore_n 3, 1, 3, 0, 0, 0), (9, .iconst 0, 1, 0, 0, 0, 0), (10, .istore 4, 2, 4, 0, 0, 0), (12, .iload 4, 2, 4, 0, 0, 0), (14, .aload_n 0, 1, 0, 0, 0, 0), (15, .invokevirtual 118, 3, 178, 11000, 0, 0), (18, .if_icmp .ge 27, 3, 45, 0, 0, 0), (21, .iload_n 3, 1, 3, 0, 0, 0), (22, .aload_n 0, 1, 0, 0, 0, 0), (23, .iload 4, 2, 4, 0, 0, 0), (25, .iload_n 1, 1, 1, 0, 0, 0), (26, .invokevirtual 271, 3, 212, 11020, 0, 0), (29, .ifCond .eq 7, 3, 36, 0, 0, 0), (32, .iconst 1, 1, 0, 0, 1, 0), (33, .goto 4, 3, 37, 0, 0, 0), (36, .iconst 0, 1, 0, 0, 0, 0), (37, .iadd, 1, 0, 0, 0, 0), (38, .istore_n 3, 1, 3, 0, 0, 0), (39, .iinc 4 1, 3, 4, 0, 1, 0), (42, .goto (-30), 3, 12, 0, 0, 0), (45, .iload_n 2, 1, 2, 0, 0, 0), (46, .ifCond .ne 4, 3, 50, 0, 0, 0), (49, .return_, 1, 0, 0, 0, 0), (50, .iload_n 3, 1, 3, 0, 0, 0), (51, .ifCond .ne 14, 3, 65, 0, 0, 0), (54, .aload_n 0, 1, 0, 0, 0, 0), (55, .dup, 1, 0, 0, 0, 0), (56, .getfield 278, 3, 11, 22, 0, 0), (59, .iload_n 2, 1, 2, 0, 0, 0), (60, .iadd, 1, 0, 0, 0, 0), (61, .putfield 278, 3, 11, 22, 0, 0), (64, .return_, 1, 0, 0, 0, 0), (65, .aload_n 0, 1, 0, 0, 0, 0), (66, .iload_n 1, 1, 1, 0, 0, 0)]
def cd217_1 : List am_E := [(67, .iconst (-1), 1, 0, 0, (-1), 0), (68, .invokevirtual 275, 3, 213, 11020, 0, 0), (71, .istore 4, 2, 4, 0, 0, 0), (73, .aload_n 0, 1, 0, 0, 0, 0), (74, .getfield 261, 3, 11, 16, 0, 0), (77, .ifCond .ne 13, 3, 90, 0, 0, 0), (80, .aload_n 0, 1, 0, 0, 0, 0), (81, .iload_n 1, 1, 1, 0, 0, 0), (82, .iload_n 2, 1, 2, 0, 0, 0), (83, .iload_n 3, 1, 3, 0, 0, 0), (84, .invokevirtual 281, 3, 214, 11034, 0, 0), (87, .goto 49, 3, 136, 0, 0, 0), (90, .aload_n 0, 1, 0, 0, 0, 0), (91, .getfield 261, 3, 11, 16, 0, 0), (94, .iconst 1, 1, 0, 0, 1, 0), (95, .if_icmp .ne 14, 3, 109, 0, 0, 0), (98, .aload_n 0, 1, 0, 0, 0, 0), (99, .getfield 40, 3, 11, 20, 0, 0), (102, .iload 4, 2, 4, 0, 0, 0), (104, .iload_n 2, 1, 2, 0, 0, 0), (105, .iastore, 1, 0, 0, 0, 0), (106, .goto 30, 3, 136, 0, 0, 0), (109, .aload_n 0, 1, 0, 0, 0, 0), (110, .getfield 261, 3, 11, 16, 0, 0), (113, .iconst 2, 1, 0, 0, 2, 0), (114, .if_icmp .ne 14, 3, 128, 0, 0, 0), (117, .aload_n 0, 1, 0, 0, 0, 0), (118, .iload_n 1, 1, 1, 0, 0, 0), (119, .iload_n 2, 1, 2, 0, 0, 0), (120, .iload 4, 2, 4, 0, 0, 0), (122, .invokevirtual 285, 3, 215, 11034, 0, 0), (125, .goto 11, 3, 136, 0, 0, 0), (128, .aload_n 0, 1, 0, 0, 0, 0), (129, .iload_n 1, 1, 1, 0, 0, 0), (130, .iload_n 2, 1, 2, 0, 0, 0), (131, .iload 4, 2, 4, 0, 0, 0), (133, .invokevirtual 288, 3, 216, 11034, 0, 0), (136, .iconst 0, 1, 0, 0, 0, 0), (137, .istore 5, 2, 5, 0, 0, 0), (139, .iload 5, 2, 5, 0, 0, 0)]
def cd217_2 : List am_E := [(141, .aload_n 0, 1, 0, 0, 0, 0), (142, .invokevirtual 118, 3, 178, 11000, 0, 0), (145, .if_icmp .ge 72, 3, 217, 0, 0, 0), (148, .aload_n 0, 1, 0, 0, 0, 0), (149, .iload 5, 2, 5, 0, 0, 0), (151, .iload_n 1, 1, 1, 0, 0, 0), (152, .invokevirtual 271, 3, 212, 11020, 0, 0), (155, .ifCond .ne 6, 3, 161, 0, 0, 0), (158, .goto 53, 3, 211, 0, 0, 0), (161, .aload_n 0, 1, 0, 0, 0, 0), (162, .iload 5, 2, 5, 0, 0, 0), (164, .invokevirtual 291, 3, 186, 11010, 0, 0), (167, .iconst (-1), 1, 0, 0, (-1), 0), (168, .if_icmp .ne 22, 3, 190, 0, 0, 0), (171, .aload_n 0, 1, 0, 0, 0, 0), (172, .dup, 1, 0, 0, 0, 0), (173, .getfield 294, 3, 11, 23, 0, 0), (176, .aload_n 0, 1, 0, 0, 0, 0), (177, .getfield 40, 3, 11, 20, 0, 0), (180, .iload 5, 2, 5, 0, 0, 0), (182, .iaload, 1, 0, 0, 0, 0), (183, .iadd, 1, 0, 0, 0, 0), (184, .putfield 294, 3, 11, 23, 0, 0), (187, .goto 24, 3, 211, 0, 0, 0), (190, .aload_n 0, 1, 0, 0, 0, 0), (191, .getfield 43, 3, 11, 21, 0, 0), (194, .aload_n 0, 1, 0, 0, 0, 0), (195, .iload 5, 2, 5, 0, 0, 0), (197, .invokevirtual 291, 3, 186, 11010, 0, 0), (200, .dup2, 1, 0, 0, 0, 0), (201, .iaload, 1, 0, 0, 0, 0), (202, .aload_n 0, 1, 0, 0, 0, 0), (203, .getfield 40, 3, 11, 20, 0, 0), (206, .iload 5, 2, 5, 0, 0, 0), (208, .iaload, 1, 0, 0, 0, 0), (209, .iadd, 1, 0, 0, 0, 0), (210, .iastore, 1, 0, 0, 0, 0), (211, .iinc 5 1, 3, 5, 0, 1, 0), (214, .goto (-75), 3, 139, 0, 0, 0), (217, .return_, 1, 0, 0, 0, 0)]
def cd217 : List am_E := cd217_0 ++ (cd217_1 ++ (cd217_2))
def am_w217 : List (List (Int32 × Nat) × Nat) := []
set_option maxRecDepth 100000 in
theorem kcd217_0 : cd217_0.all (am_chk am_w217 217) = true := by decide +kernel
set_option maxRecDepth 100000 in
theorem kcd217_1 : cd217_1.all (am_chk am_w217 217) = true := by decide +kernel
set_option maxRecDepth 100000 in
theorem kcd217_2 : cd217_2.all (am_chk am_w217 217) = true := by decide +kernel
theorem am_k217 : cd217.all (am_chk am_w217 217) = true := by
  simp only [cd217, List.all_append, kcd217_0, kcd217_1, kcd217_2, Bool.and_self]
theorem am_r217 : am_rtc 217 = 4 := by decide +kernel
theorem am_l217 : am_ml 217 = 6 := by decide +kernel
def am_s217_ (z : Nat) : Nat → List aV → aM → Option aR := fun j => (match Nat.beq j 178 with
  | true => F178 z
  | false => (match Nat.beq j 186 with
  | true => F186 z
  | false => (match Nat.beq j 212 with
  | true => F212 z
  | false => (match Nat.beq j 213 with
  | true => F213 z
  | false => (match Nat.beq j 214 with
  | true => F214 z
  | false => (match Nat.beq j 215 with
  | true => F215 z
  | false => (match Nat.beq j 216 with
  | true => F216 z
  | false => (fun _ _ => none))))))))
theorem hs217 (z : Nat) : ∀ j2 : Nat, ∃ d2 : Nat, d2 + 1 ≤ 5 ∧ am_Snd d2 j2 (am_s217_ z j2) := by
  intro j2
  unfold am_s217_
  split
  · rename_i he
    rw [am_beq he]
    exact ⟨_, by decide, S178 z⟩
  · skip
    split
    · rename_i he
      rw [am_beq he]
      exact ⟨_, by decide, S186 z⟩
    · skip
      split
      · rename_i he
        rw [am_beq he]
        exact ⟨_, by decide, S212 z⟩
      · skip
        split
        · rename_i he
          rw [am_beq he]
          exact ⟨_, by decide, S213 z⟩
        · skip
          split
          · rename_i he
            rw [am_beq he]
            exact ⟨_, by decide, S214 z⟩
          · skip
            split
            · rename_i he
              rw [am_beq he]
              exact ⟨_, by decide, S215 z⟩
            · skip
              split
              · rename_i he
                rw [am_beq he]
                exact ⟨_, by decide, S216 z⟩
              · skip
                exact ⟨0, by decide, am_Snd_no j2⟩
def f217_139 (z : Nat) : Nat → Int32 → Int32 → aM → Option aR
  | 0, _, _, _ => none
  | n + 1, x1, x5, M =>
    am_bi (f178 z M) fun v2 M1 =>
      if v2 ≤ x5 then
        some (none, M1)
      else
        am_bi (f212 z x5 x1 M1) fun v4 M3 =>
          if ¬ v4 = 0 then
            am_bi (f186 z x5 M3) fun v6 M5 =>
              if ¬ v6 = (-1 : Int32) then
                am_bi (f186 z x5 M5) fun v8 M7 =>
                  if am_inB v8 8 then
                    if am_inB x5 16 then
                      if am_inB v8 8 then
                        let I9 := am_u M7.1 215 v8.toNatClampNeg ((M7.1 215 v8.toNatClampNeg) + (M7.1 214 x5.toNatClampNeg))
                        f217_139 z n x1 (x5 + (1 : Int32)) (I9, M7.2)
                      else
                        none
                    else
                      none
                  else
                    none
              else
                if am_inB x5 16 then
                  let I10 := am_u M5.1 205 23 ((M5.1 205 23) + (M5.1 214 x5.toNatClampNeg))
                  f217_139 z n x1 (x5 + (1 : Int32)) (I10, M5.2)
                else
                  none
          else
            f217_139 z n x1 (x5 + (1 : Int32)) M3
set_option maxRecDepth 100000 in
set_option maxHeartbeats 4000000 in
theorem e217_139 (z : Nat) : ∀ (n : Nat) (x1 : Int32) (x5 : Int32) (M : aM) (r : aR), f217_139 z n x1 x5 M = some r → am_Ev 5 217 139 [some (.inr (.inr (11, 205))), some (.inl x1), none, none, none, some (.inl x5)] [] M r := by
  intro n
  induction n with
  | zero =>
    intro x1 x5 M r h
    cases h
  | succ n ih =>
    intro x1 x5 M r h
    exact am_Ev_seg (sem := am_s217_ z) (cut := ([(139, [true, true, false, false, false, true])] : List (Nat × List Bool))) (hs217 z) am_r217 am_k217 (by rw [am_l217]; decide) (fun pc al st M => (match Nat.beq pc 139 with
      | true => (match al, st with
        | [some (.inr (.inr (11, 205))), some (.inl x1), none, none, none, some (.inl x5)], [] => f217_139 z n x1 x5 M
        | _, _ => none)
      | false => none)) 31 h (fun pc al st M hk => by
      try dsimp only at hk
      split at hk
      · rename_i he
        rw [am_beq he]
        split at hk
        · exact ih _ _ _ _ hk
        · cases hk
      · cases hk)
def f217_12 (z : Nat) : Nat → Int32 → Int32 → Int32 → Int32 → aM → Option aR
  | 0, _, _, _, _, _ => none
  | n + 1, x1, x2, x3, x4, M =>
    am_bi (f178 z M) fun v2 M1 =>
      if v2 ≤ x4 then
        if ¬ x2 = 0 then
          if ¬ x3 = 0 then
            am_bi (f213 z x1 (-1 : Int32) M1) fun v4 M3 =>
              if ¬ (M3.1 205 16) = 0 then
                if ¬ (M3.1 205 16) = (1 : Int32) then
                  if ¬ (M3.1 205 16) = (2 : Int32) then
                    am_bv (f216 z x1 x2 v4 M3) fun M5 =>
                      f217_139 z z x1 (0 : Int32) M5
                  else
                    am_bv (f215 z x1 x2 v4 M3) fun M6 =>
                      f217_139 z z x1 (0 : Int32) M6
                else
                  if am_inB v4 16 then
                    let I7 := am_u M3.1 214 v4.toNatClampNeg x2
                    f217_139 z z x1 (0 : Int32) (I7, M3.2)
                  else
                    none
              else
                am_bv (f214 z x1 x2 x3 M3) fun M8 =>
                  f217_139 z z x1 (0 : Int32) M8
          else
            let I9 := am_u M1.1 205 22 ((M1.1 205 22) + x2)
            some (none, (I9, M1.2))
        else
          some (none, M1)
      else
        am_bi (f212 z x4 x1 M1) fun v11 M10 =>
          if v11 = 0 then
            f217_12 z n x1 x2 (x3 + (0 : Int32)) (x4 + (1 : Int32)) M10
          else
            f217_12 z n x1 x2 (x3 + (1 : Int32)) (x4 + (1 : Int32)) M10
set_option maxRecDepth 100000 in
set_option maxHeartbeats 4000000 in
theorem e217_12 (z : Nat) : ∀ (n : Nat) (x1 : Int32) (x2 : Int32) (x3 : Int32) (x4 : Int32) (M : aM) (r : aR), f217_12 z n x1 x2 x3 x4 M = some r → am_Ev 5 217 12 [some (.inr (.inr (11, 205))), some (.inl x1), some (.inl x2), some (.inl x3), some (.inl x4), none] [] M r := by
  intro n
  induction n with
  | zero =>
    intro x1 x2 x3 x4 M r h
    cases h
  | succ n ih =>
    intro x1 x2 x3 x4 M r h
    exact am_Ev_seg (sem := am_s217_ z) (cut := ([(12, [true, true, true, true, true, false]), (139, [true, true, false, false, false, true])] : List (Nat × List Bool))) (hs217 z) am_r217 am_k217 (by rw [am_l217]; decide) (fun pc al st M => (match Nat.beq pc 12 with
      | true => (match al, st with
        | [some (.inr (.inr (11, 205))), some (.inl x1), some (.inl x2), some (.inl x3), some (.inl x4), none], [] => f217_12 z n x1 x2 x3 x4 M
        | _, _ => none)
      | false => (match Nat.beq pc 139 with
      | true => (match al, st with
        | [some (.inr (.inr (11, 205))), some (.inl x1), none, none, none, some (.inl x5)], [] => f217_139 z z x1 x5 M
        | _, _ => none)
      | false => none))) 34 h (fun pc al st M hk => by
      try dsimp only at hk
      split at hk
      · rename_i he
        rw [am_beq he]
        split at hk
        · exact ih _ _ _ _ _ _ hk
        · cases hk
      · skip
        split at hk
        · rename_i he
          rw [am_beq he]
          split at hk
          · exact e217_139 z _ _ _ _ _ hk
          · cases hk
        · cases hk)
/-- ArgumentMenderModel.shareOut(I)V -/
def f217 (z : Nat) (x1 : Int32) (M : aM) : Option aR :=
  if am_inB x1 8 then
    f217_12 z z x1 (M.1 215 x1.toNatClampNeg) (0 : Int32) (0 : Int32) M
  else
    none
set_option maxRecDepth 100000 in
set_option maxHeartbeats 4000000 in
theorem e217 (z : Nat) : ∀ (x1 : Int32) (M : aM) (r : aR), f217 z x1 M = some r → am_Ev 5 217 0 [some (.inr (.inr (11, 205))), some (.inl x1), none, none, none, none] [] M r := by
  intro x1 M r h
  exact am_Ev_seg (sem := am_s217_ z) (cut := ([(12, [true, true, true, true, true, false])] : List (Nat × List Bool))) (hs217 z) am_r217 am_k217 (by rw [am_l217]; decide) (fun pc al st M => (match Nat.beq pc 12 with
      | true => (match al, st with
        | [some (.inr (.inr (11, 205))), some (.inl x1), some (.inl x2), some (.inl x3), some (.inl x4), none], [] => f217_12 z z x1 x2 x3 x4 M
        | _, _ => none)
      | false => none)) 11 h (fun pc al st M hk => by
      try dsimp only at hk
      split at hk
      · rename_i he
        rw [am_beq he]
        split at hk
        · exact e217_12 z _ _ _ _ _ _ _ hk
        · cases hk
      · cases hk)
def F217 (z : Nat) (as : List aV) (M : aM) : Option aR := match as with
  | [.inr (.inr (11, 205)), .inl x1] => f217 z x1 M
  | _ => none
theorem S217 (z : Nat) : am_Snd 5 217 (F217 z) := am_meth (by decide +kernel) (fun as M r has h => by
    rw [am_l217]
    unfold F217 at h
    split at h
    · exact ⟨Nat.le_of_ble_eq_true rfl, e217 z _ _ _ h⟩
    · cases h)
def cd218_0 : List am_E := [(0, .iconst 0, 1, 0, 0, 0, 0), (1, .istore_n 3, 1, 3, 0, 0, 0), (2, .iload_n 3, 1, 3, 0, 0, 0), (3, .bipush 16, 2, 0, 0, 16, 0), (5, .if_icmp .ge 16, 3, 21, 0, 0, 0), (8, .aload_n 0, 1, 0, 0, 0, 0), (9, .getfield 40, 3, 11, 20, 0, 0), (12, .iload_n 3, 1, 3, 0, 0, 0), (13, .iconst 0, 1, 0, 0, 0, 0), (14, .iastore, 1, 0, 0, 0, 0), (15, .iinc 3 1, 3, 3, 0, 1, 0), (18, .goto (-16), 3, 2, 0, 0, 0), (21, .iconst 0, 1, 0, 0, 0, 0), (22, .istore_n 3, 1, 3, 0, 0, 0), (23, .iload_n 3, 1, 3, 0, 0, 0), (24, .bipush 8, 2, 0, 0, 8, 0), (26, .if_icmp .ge 16, 3, 42, 0, 0, 0), (29, .aload_n 0, 1, 0, 0, 0, 0), (30, .getfield 43, 3, 11, 21, 0, 0), (33, .iload_n 3, 1, 3, 0, 0, 0), (34, .iconst 0, 1, 0, 0, 0, 0), (35, .iastore, 1, 0, 0, 0, 0), (36, .iinc 3 1, 3, 3, 0, 1, 0), (39, .goto (-16), 3, 23, 0, 0, 0), (42, .aload_n 0, 1, 0, 0, 0, 0), (43, .iconst 0, 1, 0, 0, 0, 0), (44, .putfield 278, 3, 11, 22, 0, 0), (47, .aload_n 0, 1, 0, 0, 0, 0), (48, .iconst 0, 1, 0, 0, 0, 0), (49, .putfield 294, 3, 11, 23, 0, 0), (52, .aload_n 0, 1, 0, 0, 0, 0), (53, .getfield 43, 3, 11, 21, 0, 0), (56, .iload_n 1, 1, 1, 0, 0, 0), (57, .iload_n 2, 1, 2, 0, 0, 0), (58, .iastore, 1, 0, 0, 0, 0), (59, .aload_n 0, 1, 0, 0, 0, 0), (60, .invokevirtual 115, 3, 177, 11000, 0, 0), (63, .iconst 1, 1, 0, 0, 1, 0), (64, .isub, 1, 0, 0, 0, 0), (65, .istore_n 3, 1, 3, 0, 0, 0)]
def cd218_1 : List am_E := [(66, .iload_n 3, 1, 3, 0, 0, 0), (67, .ifCond .lt 14, 3, 81, 0, 0, 0), (70, .aload_n 0, 1, 0, 0, 0, 0), (71, .iload_n 3, 1, 3, 0, 0, 0), (72, .invokevirtual 297, 3, 217, 11014, 0, 0), (75, .iinc 3 (-1), 3, 3, 0, (-1), 0), (78, .goto (-12), 3, 66, 0, 0, 0), (81, .return_, 1, 0, 0, 0, 0)]
def cd218 : List am_E := cd218_0 ++ (cd218_1)
def am_w218 : List (List (Int32 × Nat) × Nat) := []
set_option maxRecDepth 100000 in
theorem kcd218_0 : cd218_0.all (am_chk am_w218 218) = true := by decide +kernel
set_option maxRecDepth 100000 in
theorem kcd218_1 : cd218_1.all (am_chk am_w218 218) = true := by decide +kernel
theorem am_k218 : cd218.all (am_chk am_w218 218) = true := by
  simp only [cd218, List.all_append, kcd218_0, kcd218_1, Bool.and_self]
theorem am_r218 : am_rtc 218 = 4 := by decide +kernel
theorem am_l218 : am_ml 218 = 4 := by decide +kernel
def am_s218_ (z : Nat) : Nat → List aV → aM → Option aR := fun j => (match Nat.beq j 177 with
  | true => F177 z
  | false => (match Nat.beq j 217 with
  | true => F217 z
  | false => (fun _ _ => none)))
theorem hs218 (z : Nat) : ∀ j2 : Nat, ∃ d2 : Nat, d2 + 1 ≤ 6 ∧ am_Snd d2 j2 (am_s218_ z j2) := by
  intro j2
  unfold am_s218_
  split
  · rename_i he
    rw [am_beq he]
    exact ⟨_, by decide, S177 z⟩
  · skip
    split
    · rename_i he
      rw [am_beq he]
      exact ⟨_, by decide, S217 z⟩
    · skip
      exact ⟨0, by decide, am_Snd_no j2⟩
def f218_66 (z : Nat) : Nat → Int32 → aM → Option aR
  | 0, _, _ => none
  | n + 1, x3, M =>
    if x3 < 0 then
      some (none, M)
    else
      am_bv (f217 z x3 M) fun M1 =>
        f218_66 z n (x3 + (-1 : Int32)) M1
set_option maxRecDepth 100000 in
set_option maxHeartbeats 4000000 in
theorem e218_66 (z : Nat) : ∀ (n : Nat) (x3 : Int32) (M : aM) (r : aR), f218_66 z n x3 M = some r → am_Ev 6 218 66 [some (.inr (.inr (11, 205))), none, none, some (.inl x3)] [] M r := by
  intro n
  induction n with
  | zero =>
    intro x3 M r h
    cases h
  | succ n ih =>
    intro x3 M r h
    exact am_Ev_seg (sem := am_s218_ z) (cut := ([(66, [true, false, false, true])] : List (Nat × List Bool))) (hs218 z) am_r218 am_k218 (by rw [am_l218]; decide) (fun pc al st M => (match Nat.beq pc 66 with
      | true => (match al, st with
        | [some (.inr (.inr (11, 205))), none, none, some (.inl x3)], [] => f218_66 z n x3 M
        | _, _ => none)
      | false => none)) 9 h (fun pc al st M hk => by
      try dsimp only at hk
      split at hk
      · rename_i he
        rw [am_beq he]
        split at hk
        · exact ih _ _ _ hk
        · cases hk
      · cases hk)
def f218_23 (z : Nat) : Nat → Int32 → Int32 → Int32 → aM → Option aR
  | 0, _, _, _, _ => none
  | n + 1, x1, x2, x3, M =>
    if (8 : Int32) ≤ x3 then
      let I1 := am_u M.1 205 22 (0 : Int32)
      let I2 := am_u I1 205 23 (0 : Int32)
      if am_inB x1 8 then
        let I3 := am_u I2 215 x1.toNatClampNeg x2
        am_bi (f177 z (I3, M.2)) fun v5 M4 =>
          f218_66 z z (v5 - (1 : Int32)) M4
      else
        none
    else
      if am_inB x3 8 then
        let I6 := am_u M.1 215 x3.toNatClampNeg (0 : Int32)
        f218_23 z n x1 x2 (x3 + (1 : Int32)) (I6, M.2)
      else
        none
set_option maxRecDepth 100000 in
set_option maxHeartbeats 4000000 in
theorem e218_23 (z : Nat) : ∀ (n : Nat) (x1 : Int32) (x2 : Int32) (x3 : Int32) (M : aM) (r : aR), f218_23 z n x1 x2 x3 M = some r → am_Ev 6 218 23 [some (.inr (.inr (11, 205))), some (.inl x1), some (.inl x2), some (.inl x3)] [] M r := by
  intro n
  induction n with
  | zero =>
    intro x1 x2 x3 M r h
    cases h
  | succ n ih =>
    intro x1 x2 x3 M r h
    exact am_Ev_seg (sem := am_s218_ z) (cut := ([(23, [true, true, true, true]), (66, [true, false, false, true])] : List (Nat × List Bool))) (hs218 z) am_r218 am_k218 (by rw [am_l218]; decide) (fun pc al st M => (match Nat.beq pc 23 with
      | true => (match al, st with
        | [some (.inr (.inr (11, 205))), some (.inl x1), some (.inl x2), some (.inl x3)], [] => f218_23 z n x1 x2 x3 M
        | _, _ => none)
      | false => (match Nat.beq pc 66 with
      | true => (match al, st with
        | [some (.inr (.inr (11, 205))), none, none, some (.inl x3)], [] => f218_66 z z x3 M
        | _, _ => none)
      | false => none))) 21 h (fun pc al st M hk => by
      try dsimp only at hk
      split at hk
      · rename_i he
        rw [am_beq he]
        split at hk
        · exact ih _ _ _ _ _ hk
        · cases hk
      · skip
        split at hk
        · rename_i he
          rw [am_beq he]
          split at hk
          · exact e218_66 z _ _ _ _ hk
          · cases hk
        · cases hk)
def f218_2 (z : Nat) : Nat → Int32 → Int32 → Int32 → aM → Option aR
  | 0, _, _, _, _ => none
  | n + 1, x1, x2, x3, M =>
    if (16 : Int32) ≤ x3 then
      f218_23 z z x1 x2 (0 : Int32) M
    else
      if am_inB x3 16 then
        let I1 := am_u M.1 214 x3.toNatClampNeg (0 : Int32)
        f218_2 z n x1 x2 (x3 + (1 : Int32)) (I1, M.2)
      else
        none
set_option maxRecDepth 100000 in
set_option maxHeartbeats 4000000 in
theorem e218_2 (z : Nat) : ∀ (n : Nat) (x1 : Int32) (x2 : Int32) (x3 : Int32) (M : aM) (r : aR), f218_2 z n x1 x2 x3 M = some r → am_Ev 6 218 2 [some (.inr (.inr (11, 205))), some (.inl x1), some (.inl x2), some (.inl x3)] [] M r := by
  intro n
  induction n with
  | zero =>
    intro x1 x2 x3 M r h
    cases h
  | succ n ih =>
    intro x1 x2 x3 M r h
    exact am_Ev_seg (sem := am_s218_ z) (cut := ([(2, [true, true, true, true]), (23, [true, true, true, true])] : List (Nat × List Bool))) (hs218 z) am_r218 am_k218 (by rw [am_l218]; decide) (fun pc al st M => (match Nat.beq pc 2 with
      | true => (match al, st with
        | [some (.inr (.inr (11, 205))), some (.inl x1), some (.inl x2), some (.inl x3)], [] => f218_2 z n x1 x2 x3 M
        | _, _ => none)
      | false => (match Nat.beq pc 23 with
      | true => (match al, st with
        | [some (.inr (.inr (11, 205))), some (.inl x1), some (.inl x2), some (.inl x3)], [] => f218_23 z z x1 x2 x3 M
        | _, _ => none)
      | false => none))) 12 h (fun pc al st M hk => by
      try dsimp only at hk
      split at hk
      · rename_i he
        rw [am_beq he]
        split at hk
        · exact ih _ _ _ _ _ hk
        · cases hk
      · skip
        split at hk
        · rename_i he
          rw [am_beq he]
          split at hk
          · exact e218_23 z _ _ _ _ _ _ hk
          · cases hk
        · cases hk)
/-- ArgumentMenderModel.pullOnce(II)V -/
def f218 (z : Nat) (x1 : Int32) (x2 : Int32) (M : aM) : Option aR :=
  f218_2 z z x1 x2 (0 : Int32) M
set_option maxRecDepth 100000 in
set_option maxHeartbeats 4000000 in
theorem e218 (z : Nat) : ∀ (x1 : Int32) (x2 : Int32) (M : aM) (r : aR), f218 z x1 x2 M = some r → am_Ev 6 218 0 [some (.inr (.inr (11, 205))), some (.inl x1), some (.inl x2), none] [] M r := by
  intro x1 x2 M r h
  exact am_Ev_seg (sem := am_s218_ z) (cut := ([(2, [true, true, true, true])] : List (Nat × List Bool))) (hs218 z) am_r218 am_k218 (by rw [am_l218]; decide) (fun pc al st M => (match Nat.beq pc 2 with
      | true => (match al, st with
        | [some (.inr (.inr (11, 205))), some (.inl x1), some (.inl x2), some (.inl x3)], [] => f218_2 z z x1 x2 x3 M
        | _, _ => none)
      | false => none)) 4 h (fun pc al st M hk => by
      try dsimp only at hk
      split at hk
      · rename_i he
        rw [am_beq he]
        split at hk
        · exact e218_2 z _ _ _ _ _ _ hk
        · cases hk
      · cases hk)
def F218 (z : Nat) (as : List aV) (M : aM) : Option aR := match as with
  | [.inr (.inr (11, 205)), .inl x1, .inl x2] => f218 z x1 x2 M
  | _ => none
theorem S218 (z : Nat) : am_Snd 6 218 (F218 z) := am_meth (by decide +kernel) (fun as M r has h => by
    rw [am_l218]
    unfold F218 at h
    split at h
    · exact ⟨Nat.le_of_ble_eq_true rfl, e218 z _ _ _ _ h⟩
    · cases h)
def cd219_0 : List am_E := [(0, .iconst 0, 1, 0, 0, 0, 0), (1, .istore_n 1, 1, 1, 0, 0, 0), (2, .iconst 0, 1, 0, 0, 0, 0), (3, .istore_n 2, 1, 2, 0, 0, 0), (4, .iload_n 2, 1, 2, 0, 0, 0), (5, .aload_n 0, 1, 0, 0, 0, 0), (6, .invokevirtual 118, 3, 178, 11000, 0, 0), (9, .if_icmp .ge 30, 3, 39, 0, 0, 0), (12, .aload_n 0, 1, 0, 0, 0, 0), (13, .getfield 40, 3, 11, 20, 0, 0), (16, .iload_n 2, 1, 2, 0, 0, 0), (17, .iaload, 1, 0, 0, 0, 0), (18, .aload_n 0, 1, 0, 0, 0, 0), (19, .getfield 37, 3, 11, 19, 0, 0), (22, .iload_n 2, 1, 2, 0, 0, 0), (23, .iaload, 1, 0, 0, 0, 0), (24, .if_icmp .le 9, 3, 33, 0, 0, 0), (27, .iload_n 1, 1, 1, 0, 0, 0), (28, .iconst 1, 1, 0, 0, 1, 0), (29, .iload_n 2, 1, 2, 0, 0, 0), (30, .ishl, 1, 0, 0, 0, 0), (31, .ior, 1, 0, 0, 0, 0), (32, .istore_n 1, 1, 1, 0, 0, 0), (33, .iinc 2 1, 3, 2, 0, 1, 0), (36, .goto (-32), 3, 4, 0, 0, 0), (39, .iconst 0, 1, 0, 0, 0, 0), (40, .istore_n 2, 1, 2, 0, 0, 0), (41, .iload_n 2, 1, 2, 0, 0, 0), (42, .aload_n 0, 1, 0, 0, 0, 0), (43, .invokevirtual 118, 3, 178, 11000, 0, 0), (46, .if_icmp .ge 25, 3, 71, 0, 0, 0), (49, .iload_n 1, 1, 1, 0, 0, 0), (50, .iload_n 2, 1, 2, 0, 0, 0), (51, .invokestatic 300, 3, 172, 25, 0, 0), (54, .iconst 1, 1, 0, 0, 1, 0), (55, .if_icmp .ne 10, 3, 65, 0, 0, 0), (58, .aload_n 0, 1, 0, 0, 0, 0), (59, .getfield 37, 3, 11, 19, 0, 0), (62, .iload_n 2, 1, 2, 0, 0, 0), (63, .iconst 0, 1, 0, 0, 0, 0)]
def cd219_1 : List am_E := [(64, .iastore, 1, 0, 0, 0, 0), (65, .iinc 2 1, 3, 2, 0, 1, 0), (68, .goto (-27), 3, 41, 0, 0, 0), (71, .iload_n 1, 1, 1, 0, 0, 0), (72, .ireturn, 1, 0, 0, 0, 0)]
def cd219 : List am_E := cd219_0 ++ (cd219_1)
def am_w219 : List (List (Int32 × Nat) × Nat) := []
set_option maxRecDepth 100000 in
theorem kcd219_0 : cd219_0.all (am_chk am_w219 219) = true := by decide +kernel
set_option maxRecDepth 100000 in
theorem kcd219_1 : cd219_1.all (am_chk am_w219 219) = true := by decide +kernel
theorem am_k219 : cd219.all (am_chk am_w219 219) = true := by
  simp only [cd219, List.all_append, kcd219_0, kcd219_1, Bool.and_self]
theorem am_r219 : am_rtc 219 = 0 := by decide +kernel
theorem am_l219 : am_ml 219 = 3 := by decide +kernel
def am_s219_ (z : Nat) : Nat → List aV → aM → Option aR := fun j => (match Nat.beq j 172 with
  | true => F172 z
  | false => (match Nat.beq j 178 with
  | true => F178 z
  | false => (fun _ _ => none)))
theorem hs219 (z : Nat) : ∀ j2 : Nat, ∃ d2 : Nat, d2 + 1 ≤ 2 ∧ am_Snd d2 j2 (am_s219_ z j2) := by
  intro j2
  unfold am_s219_
  split
  · rename_i he
    rw [am_beq he]
    exact ⟨_, by decide, S172 z⟩
  · skip
    split
    · rename_i he
      rw [am_beq he]
      exact ⟨_, by decide, S178 z⟩
    · skip
      exact ⟨0, by decide, am_Snd_no j2⟩
def f219_41 (z : Nat) : Nat → Int32 → Int32 → aM → Option aR
  | 0, _, _, _ => none
  | n + 1, x1, x2, M =>
    am_bi (f178 z M) fun v2 M1 =>
      if v2 ≤ x2 then
        some (some (.inl x1), M1)
      else
        am_bi (f172 z x1 x2 M1) fun v4 M3 =>
          if ¬ v4 = (1 : Int32) then
            f219_41 z n x1 (x2 + (1 : Int32)) M3
          else
            if am_inB x2 16 then
              let I5 := am_u M3.1 213 x2.toNatClampNeg (0 : Int32)
              f219_41 z n x1 (x2 + (1 : Int32)) (I5, M3.2)
            else
              none
set_option maxRecDepth 100000 in
set_option maxHeartbeats 4000000 in
theorem e219_41 (z : Nat) : ∀ (n : Nat) (x1 : Int32) (x2 : Int32) (M : aM) (r : aR), f219_41 z n x1 x2 M = some r → am_Ev 2 219 41 [some (.inr (.inr (11, 205))), some (.inl x1), some (.inl x2)] [] M r := by
  intro n
  induction n with
  | zero =>
    intro x1 x2 M r h
    cases h
  | succ n ih =>
    intro x1 x2 M r h
    exact am_Ev_seg (sem := am_s219_ z) (cut := ([(41, [true, true, true])] : List (Nat × List Bool))) (hs219 z) am_r219 am_k219 (by rw [am_l219]; decide) (fun pc al st M => (match Nat.beq pc 41 with
      | true => (match al, st with
        | [some (.inr (.inr (11, 205))), some (.inl x1), some (.inl x2)], [] => f219_41 z n x1 x2 M
        | _, _ => none)
      | false => none)) 18 h (fun pc al st M hk => by
      try dsimp only at hk
      split at hk
      · rename_i he
        rw [am_beq he]
        split at hk
        · exact ih _ _ _ _ hk
        · cases hk
      · cases hk)
def f219_4 (z : Nat) : Nat → Int32 → Int32 → aM → Option aR
  | 0, _, _, _ => none
  | n + 1, x1, x2, M =>
    am_bi (f178 z M) fun v2 M1 =>
      if v2 ≤ x2 then
        f219_41 z z x1 (0 : Int32) M1
      else
        if am_inB x2 16 then
          if am_inB x2 16 then
            if (M1.1 214 x2.toNatClampNeg) ≤ (M1.1 213 x2.toNatClampNeg) then
              f219_4 z n x1 (x2 + (1 : Int32)) M1
            else
              f219_4 z n (x1 ||| ((1 : Int32) <<< (x2 &&& 31))) (x2 + (1 : Int32)) M1
          else
            none
        else
          none
set_option maxRecDepth 100000 in
set_option maxHeartbeats 4000000 in
theorem e219_4 (z : Nat) : ∀ (n : Nat) (x1 : Int32) (x2 : Int32) (M : aM) (r : aR), f219_4 z n x1 x2 M = some r → am_Ev 2 219 4 [some (.inr (.inr (11, 205))), some (.inl x1), some (.inl x2)] [] M r := by
  intro n
  induction n with
  | zero =>
    intro x1 x2 M r h
    cases h
  | succ n ih =>
    intro x1 x2 M r h
    exact am_Ev_seg (sem := am_s219_ z) (cut := ([(4, [true, true, true]), (41, [true, true, true])] : List (Nat × List Bool))) (hs219 z) am_r219 am_k219 (by rw [am_l219]; decide) (fun pc al st M => (match Nat.beq pc 4 with
      | true => (match al, st with
        | [some (.inr (.inr (11, 205))), some (.inl x1), some (.inl x2)], [] => f219_4 z n x1 x2 M
        | _, _ => none)
      | false => (match Nat.beq pc 41 with
      | true => (match al, st with
        | [some (.inr (.inr (11, 205))), some (.inl x1), some (.inl x2)], [] => f219_41 z z x1 x2 M
        | _, _ => none)
      | false => none))) 23 h (fun pc al st M hk => by
      try dsimp only at hk
      split at hk
      · rename_i he
        rw [am_beq he]
        split at hk
        · exact ih _ _ _ _ hk
        · cases hk
      · skip
        split at hk
        · rename_i he
          rw [am_beq he]
          split at hk
          · exact e219_41 z _ _ _ _ _ hk
          · cases hk
        · cases hk)
/-- ArgumentMenderModel.tearNow()I -/
def f219 (z : Nat) (M : aM) : Option aR :=
  f219_4 z z (0 : Int32) (0 : Int32) M
set_option maxRecDepth 100000 in
set_option maxHeartbeats 4000000 in
theorem e219 (z : Nat) : ∀ (M : aM) (r : aR), f219 z  M = some r → am_Ev 2 219 0 [some (.inr (.inr (11, 205))), none, none] [] M r := by
  intro  M r h
  exact am_Ev_seg (sem := am_s219_ z) (cut := ([(4, [true, true, true])] : List (Nat × List Bool))) (hs219 z) am_r219 am_k219 (by rw [am_l219]; decide) (fun pc al st M => (match Nat.beq pc 4 with
      | true => (match al, st with
        | [some (.inr (.inr (11, 205))), some (.inl x1), some (.inl x2)], [] => f219_4 z z x1 x2 M
        | _, _ => none)
      | false => none)) 6 h (fun pc al st M hk => by
      try dsimp only at hk
      split at hk
      · rename_i he
        rw [am_beq he]
        split at hk
        · exact e219_4 z _ _ _ _ _ hk
        · cases hk
      · cases hk)
def F219 (z : Nat) (as : List aV) (M : aM) : Option aR := match as with
  | [.inr (.inr (11, 205))] => f219 z  M
  | _ => none
theorem S219 (z : Nat) : am_Snd 2 219 (F219 z) := am_meth (by decide +kernel) (fun as M r has h => by
    rw [am_l219]
    unfold F219 at h
    split at h
    · exact ⟨Nat.le_of_ble_eq_true rfl, e219 z _ _ h⟩
    · cases h)
def cd220_0 : List am_E := [(0, .aload_n 0, 1, 0, 0, 0, 0), (1, .iconst 0, 1, 0, 0, 0, 0), (2, .putfield 303, 3, 11, 24, 0, 0), (5, .aload_n 0, 1, 0, 0, 0, 0), (6, .iconst 0, 1, 0, 0, 0, 0), (7, .putfield 306, 3, 11, 25, 0, 0), (10, .iconst 1, 1, 0, 0, 1, 0), (11, .istore_n 3, 1, 3, 0, 0, 0), (12, .iload_n 3, 1, 3, 0, 0, 0), (13, .ifCond .eq 37, 3, 50, 0, 0, 0), (16, .aload_n 0, 1, 0, 0, 0, 0), (17, .iload_n 1, 1, 1, 0, 0, 0), (18, .iload_n 2, 1, 2, 0, 0, 0), (19, .invokevirtual 309, 3, 218, 11024, 0, 0), (22, .aload_n 0, 1, 0, 0, 0, 0), (23, .dup, 1, 0, 0, 0, 0), (24, .getfield 303, 3, 11, 24, 0, 0), (27, .iconst 1, 1, 0, 0, 1, 0), (28, .iadd, 1, 0, 0, 0, 0), (29, .putfield 303, 3, 11, 24, 0, 0), (32, .aload_n 0, 1, 0, 0, 0, 0), (33, .invokevirtual 313, 3, 219, 11000, 0, 0), (36, .istore_n 3, 1, 3, 0, 0, 0), (37, .aload_n 0, 1, 0, 0, 0, 0), (38, .dup, 1, 0, 0, 0, 0), (39, .getfield 306, 3, 11, 25, 0, 0), (42, .iload_n 3, 1, 3, 0, 0, 0), (43, .ior, 1, 0, 0, 0, 0), (44, .putfield 306, 3, 11, 25, 0, 0), (47, .goto (-35), 3, 12, 0, 0, 0), (50, .iconst 0, 1, 0, 0, 0, 0), (51, .istore 4, 2, 4, 0, 0, 0), (53, .iload 4, 2, 4, 0, 0, 0), (55, .aload_n 0, 1, 0, 0, 0, 0), (56, .invokevirtual 118, 3, 178, 11000, 0, 0), (59, .if_icmp .ge 91, 3, 150, 0, 0, 0), (62, .aload_n 0, 1, 0, 0, 0, 0), (63, .getfield 40, 3, 11, 20, 0, 0), (66, .iload 4, 2, 4, 0, 0, 0), (68, .iaload, 1, 0, 0, 0, 0)]
def cd220_1 : List am_E := [(69, .iconst 5, 1, 0, 0, 5, 0), (70, .idiv, 1, 0, 0, 0, 0), (71, .istore 5, 2, 5, 0, 0, 0), (73, .iload 5, 2, 5, 0, 0, 0), (75, .ifCond .le 28, 3, 103, 0, 0, 0), (78, .aload_n 0, 1, 0, 0, 0, 0), (79, .getfield 37, 3, 11, 19, 0, 0), (82, .iload 4, 2, 4, 0, 0, 0), (84, .iaload, 1, 0, 0, 0, 0), (85, .iload 5, 2, 5, 0, 0, 0), (87, .if_icmp .ne 16, 3, 103, 0, 0, 0), (90, .aload_n 0, 1, 0, 0, 0, 0), (91, .dup, 1, 0, 0, 0, 0), (92, .getfield 306, 3, 11, 25, 0, 0), (95, .iconst 1, 1, 0, 0, 1, 0), (96, .iload 4, 2, 4, 0, 0, 0), (98, .ishl, 1, 0, 0, 0, 0), (99, .ior, 1, 0, 0, 0, 0), (100, .putfield 306, 3, 11, 25, 0, 0), (103, .aload_n 0, 1, 0, 0, 0, 0), (104, .getfield 37, 3, 11, 19, 0, 0), (107, .iload 4, 2, 4, 0, 0, 0), (109, .dup2, 1, 0, 0, 0, 0), (110, .iaload, 1, 0, 0, 0, 0), (111, .iload 5, 2, 5, 0, 0, 0), (113, .isub, 1, 0, 0, 0, 0), (114, .iastore, 1, 0, 0, 0, 0), (115, .aload_n 0, 1, 0, 0, 0, 0), (116, .getfield 46, 3, 11, 26, 0, 0), (119, .iload 4, 2, 4, 0, 0, 0), (121, .dup2, 1, 0, 0, 0, 0), (122, .iaload, 1, 0, 0, 0, 0), (123, .iload 5, 2, 5, 0, 0, 0), (125, .iadd, 1, 0, 0, 0, 0), (126, .iastore, 1, 0, 0, 0, 0), (127, .aload_n 0, 1, 0, 0, 0, 0), (128, .getfield 49, 3, 11, 27, 0, 0), (131, .iload 4, 2, 4, 0, 0, 0), (133, .dup2, 1, 0, 0, 0, 0), (134, .iaload, 1, 0, 0, 0, 0)]
def cd220_2 : List am_E := [(135, .aload_n 0, 1, 0, 0, 0, 0), (136, .getfield 40, 3, 11, 20, 0, 0), (139, .iload 4, 2, 4, 0, 0, 0), (141, .iaload, 1, 0, 0, 0, 0), (142, .iadd, 1, 0, 0, 0, 0), (143, .iastore, 1, 0, 0, 0, 0), (144, .iinc 4 1, 3, 4, 0, 1, 0), (147, .goto (-94), 3, 53, 0, 0, 0), (150, .return_, 1, 0, 0, 0, 0)]
def cd220 : List am_E := cd220_0 ++ (cd220_1 ++ (cd220_2))
def am_w220 : List (List (Int32 × Nat) × Nat) := []
set_option maxRecDepth 100000 in
theorem kcd220_0 : cd220_0.all (am_chk am_w220 220) = true := by decide +kernel
set_option maxRecDepth 100000 in
theorem kcd220_1 : cd220_1.all (am_chk am_w220 220) = true := by decide +kernel
set_option maxRecDepth 100000 in
theorem kcd220_2 : cd220_2.all (am_chk am_w220 220) = true := by decide +kernel
theorem am_k220 : cd220.all (am_chk am_w220 220) = true := by
  simp only [cd220, List.all_append, kcd220_0, kcd220_1, kcd220_2, Bool.and_self]
theorem am_r220 : am_rtc 220 = 4 := by decide +kernel
theorem am_l220 : am_ml 220 = 6 := by decide +kernel
def am_s220_ (z : Nat) : Nat → List aV → aM → Option aR := fun j => (match Nat.beq j 178 with
  | true => F178 z
  | false => (match Nat.beq j 218 with
  | true => F218 z
  | false => (match Nat.beq j 219 with
  | true => F219 z
  | false => (fun _ _ => none))))
theorem hs220 (z : Nat) : ∀ j2 : Nat, ∃ d2 : Nat, d2 + 1 ≤ 7 ∧ am_Snd d2 j2 (am_s220_ z j2) := by
  intro j2
  unfold am_s220_
  split
  · rename_i he
    rw [am_beq he]
    exact ⟨_, by decide, S178 z⟩
  · skip
    split
    · rename_i he
      rw [am_beq he]
      exact ⟨_, by decide, S218 z⟩
    · skip
      split
      · rename_i he
        rw [am_beq he]
        exact ⟨_, by decide, S219 z⟩
      · skip
        exact ⟨0, by decide, am_Snd_no j2⟩
def f220_144 (z : Nat) (k53 : Int32 → aM → Option aR)  (x4 : Int32) (M : aM) : Option aR :=
  k53 (x4 + (1 : Int32)) M
set_option maxRecDepth 100000 in
set_option maxHeartbeats 4000000 in
theorem e220_144 (z : Nat) (k53 : Int32 → aM → Option aR) (hk53 : ∀ (x4 : Int32) (M : aM) (r : aR), k53 x4 M = some r → am_Ev 7 220 53 [some (.inr (.inr (11, 205))), none, none, none, some (.inl x4), none] [] M r) : ∀ (x4 : Int32) (M : aM) (r : aR), f220_144 z k53 x4 M = some r → am_Ev 7 220 144 [some (.inr (.inr (11, 205))), none, none, none, some (.inl x4), none] [] M r := by
  intro x4 M r h
  exact am_Ev_seg (sem := am_s220_ z) (cut := ([(53, [true, false, false, false, true, false])] : List (Nat × List Bool))) (hs220 z) am_r220 am_k220 (by rw [am_l220]; decide) (fun pc al st M => (match Nat.beq pc 53 with
      | true => (match al, st with
        | [some (.inr (.inr (11, 205))), none, none, none, some (.inl x4), none], [] => k53 x4 M
        | _, _ => none)
      | false => none)) 4 h (fun pc al st M hk => by
      try dsimp only at hk
      split at hk
      · rename_i he
        rw [am_beq he]
        split at hk
        · exact hk53 _ _ _ hk
        · cases hk
      · cases hk)
def f220_53 (z : Nat) : Nat → Int32 → aM → Option aR
  | 0, _, _ => none
  | n + 1, x4, M =>
    am_bi (f178 z M) fun v2 M1 =>
      if v2 ≤ x4 then
        some (none, M1)
      else
        if am_inB x4 16 then
          if (5 : Int32) = 0 then
            none
          else
            if ((M1.1 214 x4.toNatClampNeg) / (5 : Int32)) ≤ 0 then
              if am_inB x4 16 then
                if am_inB x4 16 then
                  let I3 := am_u M1.1 213 x4.toNatClampNeg ((M1.1 213 x4.toNatClampNeg) - ((M1.1 214 x4.toNatClampNeg) / (5 : Int32)))
                  if am_inB x4 16 then
                    if am_inB x4 16 then
                      let I4 := am_u I3 216 x4.toNatClampNeg ((I3 216 x4.toNatClampNeg) + ((M1.1 214 x4.toNatClampNeg) / (5 : Int32)))
                      if am_inB x4 16 then
                        if am_inB x4 16 then
                          if am_inB x4 16 then
                            let I5 := am_u I4 217 x4.toNatClampNeg ((I4 217 x4.toNatClampNeg) + (I4 214 x4.toNatClampNeg))
                            f220_144 z (f220_53 z n) x4 (I5, M1.2)
                          else
                            none
                        else
                          none
                      else
                        none
                    else
                      none
                  else
                    none
                else
                  none
              else
                none
            else
              if am_inB x4 16 then
                if ¬ (M1.1 213 x4.toNatClampNeg) = ((M1.1 214 x4.toNatClampNeg) / (5 : Int32)) then
                  if am_inB x4 16 then
                    if am_inB x4 16 then
                      let I6 := am_u M1.1 213 x4.toNatClampNeg ((M1.1 213 x4.toNatClampNeg) - ((M1.1 214 x4.toNatClampNeg) / (5 : Int32)))
                      if am_inB x4 16 then
                        if am_inB x4 16 then
                          let I7 := am_u I6 216 x4.toNatClampNeg ((I6 216 x4.toNatClampNeg) + ((M1.1 214 x4.toNatClampNeg) / (5 : Int32)))
                          if am_inB x4 16 then
                            if am_inB x4 16 then
                              if am_inB x4 16 then
                                let I8 := am_u I7 217 x4.toNatClampNeg ((I7 217 x4.toNatClampNeg) + (I7 214 x4.toNatClampNeg))
                                f220_144 z (f220_53 z n) x4 (I8, M1.2)
                              else
                                none
                            else
                              none
                          else
                            none
                        else
                          none
                      else
                        none
                    else
                      none
                  else
                    none
                else
                  let I9 := am_u M1.1 205 25 ((M1.1 205 25) ||| ((1 : Int32) <<< (x4 &&& 31)))
                  if am_inB x4 16 then
                    if am_inB x4 16 then
                      let I10 := am_u I9 213 x4.toNatClampNeg ((I9 213 x4.toNatClampNeg) - ((M1.1 214 x4.toNatClampNeg) / (5 : Int32)))
                      if am_inB x4 16 then
                        if am_inB x4 16 then
                          let I11 := am_u I10 216 x4.toNatClampNeg ((I10 216 x4.toNatClampNeg) + ((M1.1 214 x4.toNatClampNeg) / (5 : Int32)))
                          if am_inB x4 16 then
                            if am_inB x4 16 then
                              if am_inB x4 16 then
                                let I12 := am_u I11 217 x4.toNatClampNeg ((I11 217 x4.toNatClampNeg) + (I11 214 x4.toNatClampNeg))
                                f220_144 z (f220_53 z n) x4 (I12, M1.2)
                              else
                                none
                            else
                              none
                          else
                            none
                        else
                          none
                      else
                        none
                    else
                      none
                  else
                    none
              else
                none
        else
          none
set_option maxRecDepth 100000 in
set_option maxHeartbeats 4000000 in
theorem e220_53 (z : Nat) : ∀ (n : Nat) (x4 : Int32) (M : aM) (r : aR), f220_53 z n x4 M = some r → am_Ev 7 220 53 [some (.inr (.inr (11, 205))), none, none, none, some (.inl x4), none] [] M r := by
  intro n
  induction n with
  | zero =>
    intro x4 M r h
    cases h
  | succ n ih =>
    intro x4 M r h
    exact am_Ev_seg (sem := am_s220_ z) (cut := ([(144, [true, false, false, false, true, false])] : List (Nat × List Bool))) (hs220 z) am_r220 am_k220 (by rw [am_l220]; decide) (fun pc al st M => (match Nat.beq pc 144 with
      | true => (match al, st with
        | [some (.inr (.inr (11, 205))), none, none, none, some (.inl x4), none], [] => f220_144 z (f220_53 z n) x4 M
        | _, _ => none)
      | false => none)) 56 h (fun pc al st M hk => by
      try dsimp only at hk
      split at hk
      · rename_i he
        rw [am_beq he]
        split at hk
        · exact e220_144 z _ ih _ _ _ hk
        · cases hk
      · cases hk)
def f220_12 (z : Nat) : Nat → Int32 → Int32 → Int32 → aM → Option aR
  | 0, _, _, _, _ => none
  | n + 1, x1, x2, x3, M =>
    if x3 = 0 then
      f220_53 z z (0 : Int32) M
    else
      am_bv (f218 z x1 x2 M) fun M1 =>
        let I2 := am_u M1.1 205 24 ((M1.1 205 24) + (1 : Int32))
        am_bi (f219 z (I2, M1.2)) fun v4 M3 =>
          let I5 := am_u M3.1 205 25 ((M3.1 205 25) ||| v4)
          f220_12 z n x1 x2 v4 (I5, M3.2)
set_option maxRecDepth 100000 in
set_option maxHeartbeats 4000000 in
theorem e220_12 (z : Nat) : ∀ (n : Nat) (x1 : Int32) (x2 : Int32) (x3 : Int32) (M : aM) (r : aR), f220_12 z n x1 x2 x3 M = some r → am_Ev 7 220 12 [some (.inr (.inr (11, 205))), some (.inl x1), some (.inl x2), some (.inl x3), none, none] [] M r := by
  intro n
  induction n with
  | zero =>
    intro x1 x2 x3 M r h
    cases h
  | succ n ih =>
    intro x1 x2 x3 M r h
    exact am_Ev_seg (sem := am_s220_ z) (cut := ([(12, [true, true, true, true, false, false]), (53, [true, false, false, false, true, false])] : List (Nat × List Bool))) (hs220 z) am_r220 am_k220 (by rw [am_l220]; decide) (fun pc al st M => (match Nat.beq pc 12 with
      | true => (match al, st with
        | [some (.inr (.inr (11, 205))), some (.inl x1), some (.inl x2), some (.inl x3), none, none], [] => f220_12 z n x1 x2 x3 M
        | _, _ => none)
      | false => (match Nat.beq pc 53 with
      | true => (match al, st with
        | [some (.inr (.inr (11, 205))), none, none, none, some (.inl x4), none], [] => f220_53 z z x4 M
        | _, _ => none)
      | false => none))) 24 h (fun pc al st M hk => by
      try dsimp only at hk
      split at hk
      · rename_i he
        rw [am_beq he]
        split at hk
        · exact ih _ _ _ _ _ hk
        · cases hk
      · skip
        split at hk
        · rename_i he
          rw [am_beq he]
          split at hk
          · exact e220_53 z _ _ _ _ hk
          · cases hk
        · cases hk)
/-- ArgumentMenderModel.quarrelNow(II)V -/
def f220 (z : Nat) (x1 : Int32) (x2 : Int32) (M : aM) : Option aR :=
  let I1 := am_u M.1 205 24 (0 : Int32)
  let I2 := am_u I1 205 25 (0 : Int32)
  f220_12 z z x1 x2 (1 : Int32) (I2, M.2)
set_option maxRecDepth 100000 in
set_option maxHeartbeats 4000000 in
theorem e220 (z : Nat) : ∀ (x1 : Int32) (x2 : Int32) (M : aM) (r : aR), f220 z x1 x2 M = some r → am_Ev 7 220 0 [some (.inr (.inr (11, 205))), some (.inl x1), some (.inl x2), none, none, none] [] M r := by
  intro x1 x2 M r h
  exact am_Ev_seg (sem := am_s220_ z) (cut := ([(12, [true, true, true, true, false, false])] : List (Nat × List Bool))) (hs220 z) am_r220 am_k220 (by rw [am_l220]; decide) (fun pc al st M => (match Nat.beq pc 12 with
      | true => (match al, st with
        | [some (.inr (.inr (11, 205))), some (.inl x1), some (.inl x2), some (.inl x3), none, none], [] => f220_12 z z x1 x2 x3 M
        | _, _ => none)
      | false => none)) 10 h (fun pc al st M hk => by
      try dsimp only at hk
      split at hk
      · rename_i he
        rw [am_beq he]
        split at hk
        · exact e220_12 z _ _ _ _ _ _ hk
        · cases hk
      · cases hk)
def F220 (z : Nat) (as : List aV) (M : aM) : Option aR := match as with
  | [.inr (.inr (11, 205)), .inl x1, .inl x2] => f220 z x1 x2 M
  | _ => none
theorem S220 (z : Nat) : am_Snd 7 220 (F220 z) := am_meth (by decide +kernel) (fun as M r has h => by
    rw [am_l220]
    unfold F220 at h
    split at h
    · exact ⟨Nat.le_of_ble_eq_true rfl, e220 z _ _ _ _ h⟩
    · cases h)
