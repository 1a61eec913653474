def cd69_0 : List am_E := [(0, .aload_n 0, 1, 0, 0, 0, 0), (1, .getfield 15, 3, 8, 1, 0, 0), (4, .iconst (-1), 1, 0, 0, (-1), 0), (5, .invokestatic 41, 3, 343, 29, 0, 0), (8, .iconst 1, 1, 0, 0, 1, 0), (9, .iload_n 3, 1, 3, 0, 0, 0), (10, .ishl, 1, 0, 0, 0, 0), (11, .istore 5, 2, 5, 0, 0, 0), (13, .iconst 0, 1, 0, 0, 0, 0), (14, .istore 6, 2, 6, 0, 0, 0), (16, .iload 6, 2, 6, 0, 0, 0), (18, .bipush 8, 2, 0, 0, 8, 0), (20, .if_icmp .gt 137, 3, 157, 0, 0, 0), (23, .iconst 0, 1, 0, 0, 0, 0), (24, .istore 7, 2, 7, 0, 0, 0), (26, .iload 7, 2, 7, 0, 0, 0), (28, .aload_n 1, 1, 1, 0, 0, 0), (29, .getfield 47, 3, 1, 5, 0, 0), (32, .if_icmp .ge 119, 3, 151, 0, 0, 0), (35, .aload_n 2, 1, 2, 0, 0, 0), (36, .iload 7, 2, 7, 0, 0, 0), (38, .iaload, 1, 0, 0, 0, 0), (39, .ifCond .le 106, 3, 145, 0, 0, 0), (42, .iload 4, 2, 4, 0, 0, 0), (44, .iload 7, 2, 7, 0, 0, 0), (46, .ishr, 1, 0, 0, 0, 0), (47, .iconst 1, 1, 0, 0, 1, 0), (48, .iand, 1, 0, 0, 0, 0), (49, .iconst 1, 1, 0, 0, 1, 0), (50, .if_icmp .ne 7, 3, 57, 0, 0, 0), (53, .iconst 1, 1, 0, 0, 1, 0), (54, .goto 4, 3, 58, 0, 0, 0), (57, .iconst 0, 1, 0, 0, 0, 0), (58, .istore 8, 2, 8, 0, 0, 0), (60, .iload 8, 2, 8, 0, 0, 0), (62, .ifCond .eq 12, 3, 74, 0, 0, 0), (65, .aload_n 1, 1, 1, 0, 0, 0), (66, .iload 7, 2, 7, 0, 0, 0), (68, .invokestatic 50, 3, 71, 25, 0, 0), (71, .goto 10, 3, 81, 0, 0, 0)]
def cd69_1 : List am_E := [(74, .aload_n 1, 1, 1, 0, 0, 0), (75, .getfield 54, 3, 1, 7, 0, 0), (78, .iload 7, 2, 7, 0, 0, 0), (80, .iaload, 1, 0, 0, 0, 0), (81, .istore 9, 2, 9, 0, 0, 0), (83, .iload 8, 2, 8, 0, 0, 0), (85, .ifCond .eq 13, 3, 98, 0, 0, 0), (88, .aload_n 1, 1, 1, 0, 0, 0), (89, .getfield 54, 3, 1, 7, 0, 0), (92, .iload 7, 2, 7, 0, 0, 0), (94, .iaload, 1, 0, 0, 0, 0), (95, .goto 9, 3, 104, 0, 0, 0), (98, .aload_n 1, 1, 1, 0, 0, 0), (99, .iload 7, 2, 7, 0, 0, 0), (101, .invokestatic 50, 3, 71, 25, 0, 0), (104, .istore 10, 2, 10, 0, 0, 0), (106, .iload 5, 2, 5, 0, 0, 0), (108, .iload 9, 2, 9, 0, 0, 0), (110, .ishr, 1, 0, 0, 0, 0), (111, .iconst 1, 1, 0, 0, 1, 0), (112, .iand, 1, 0, 0, 0, 0), (113, .iconst 1, 1, 0, 0, 1, 0), (114, .if_icmp .ne 31, 3, 145, 0, 0, 0), (117, .iload 5, 2, 5, 0, 0, 0), (119, .iload 10, 2, 10, 0, 0, 0), (121, .ishr, 1, 0, 0, 0, 0), (122, .iconst 1, 1, 0, 0, 1, 0), (123, .iand, 1, 0, 0, 0, 0), (124, .ifCond .ne 21, 3, 145, 0, 0, 0), (127, .iload 5, 2, 5, 0, 0, 0), (129, .iconst 1, 1, 0, 0, 1, 0), (130, .iload 10, 2, 10, 0, 0, 0), (132, .ishl, 1, 0, 0, 0, 0), (133, .ior, 1, 0, 0, 0, 0), (134, .istore 5, 2, 5, 0, 0, 0), (136, .aload_n 0, 1, 0, 0, 0, 0), (137, .getfield 15, 3, 8, 1, 0, 0), (140, .iload 10, 2, 10, 0, 0, 0), (142, .iload 7, 2, 7, 0, 0, 0), (144, .iastore, 1, 0, 0, 0, 0)]
def cd69_2 : List am_E := [(145, .iinc 7 1, 3, 7, 0, 1, 0), (148, .goto (-122), 3, 26, 0, 0, 0), (151, .iinc 6 1, 3, 6, 0, 1, 0), (154, .goto (-138), 3, 16, 0, 0, 0), (157, .iload 5, 2, 5, 0, 0, 0), (159, .bipush 8, 2, 0, 0, 8, 0), (161, .ishr, 1, 0, 0, 0, 0), (162, .iconst 1, 1, 0, 0, 1, 0), (163, .iand, 1, 0, 0, 0, 0), (164, .iconst 1, 1, 0, 0, 1, 0), (165, .if_icmp .ne 7, 3, 172, 0, 0, 0), (168, .iconst 1, 1, 0, 0, 1, 0), (169, .goto 4, 3, 173, 0, 0, 0), (172, .iconst 0, 1, 0, 0, 0, 0), (173, .ireturn, 1, 0, 0, 0, 0)]
def cd69 : List am_E := cd69_0 ++ (cd69_1 ++ (cd69_2))
def am_w69 : List (List (Int32 × Nat) × Nat) := []
set_option maxRecDepth 100000 in
theorem kcd69_0 : cd69_0.all (am_chk am_w69 69) = true := by decide +kernel
set_option maxRecDepth 100000 in
theorem kcd69_1 : cd69_1.all (am_chk am_w69 69) = true := by decide +kernel
set_option maxRecDepth 100000 in
theorem kcd69_2 : cd69_2.all (am_chk am_w69 69) = true := by decide +kernel
theorem am_k69 : cd69.all (am_chk am_w69 69) = true := by
  simp only [cd69, List.all_append, kcd69_0, kcd69_1, kcd69_2, Bool.and_self]
theorem am_r69 : am_rtc 69 = 1 := by decide +kernel
theorem am_l69 : am_ml 69 = 11 := by decide +kernel
def am_s69_ (z : Nat) : Nat → List aV → aM → Option aR := fun j => (match Nat.beq j 71 with
  | true => F71 z
  | false => (match Nat.beq j 343 with
  | true => F343 z
  | false => (fun _ _ => none)))
theorem hs69 (z : Nat) : ∀ j2 : Nat, ∃ d2 : Nat, d2 + 1 ≤ 2 ∧ am_Snd d2 j2 (am_s69_ z j2) := by
  intro j2
  unfold am_s69_
  split
  · rename_i he
    rw [am_beq he]
    exact ⟨_, by decide, S71 z⟩
  · skip
    split
    · rename_i he
      rw [am_beq he]
      exact ⟨_, by decide, S343 z⟩
    · skip
      exact ⟨0, by decide, am_Snd_no j2⟩
def f69_58 (z : Nat) (k16 : Nat → Nat → Nat → Int32 → Int32 → Int32 → aM → Option aR) (k26 : Nat → Nat → Nat → Int32 → Int32 → Int32 → Int32 → aM → Option aR)  (c0 : Nat) (c1 : Nat) (c2 : Nat) (x4 : Int32) (x5 : Int32) (x6 : Int32) (x7 : Int32) (xs0 : Int32) (M : aM) : Option aR :=
  if xs0 = 0 then
    if am_inB x7 16 then
      if xs0 = 0 then
        am_bi (f71 z c1 x7 M) fun v2 M1 =>
          if ¬ ((x5 >>> ((M.1 (c1 + 1) x7.toNatClampNeg) &&& 31)) &&& (1 : Int32)) = (1 : Int32) then
            k26 c0 c1 c2 x4 x5 x6 (x7 + (1 : Int32)) M1
          else
            if ¬ ((x5 >>> (v2 &&& 31)) &&& (1 : Int32)) = 0 then
              k26 c0 c1 c2 x4 x5 x6 (x7 + (1 : Int32)) M1
            else
              if am_inB v2 9 then
                let I3 := am_u M1.1 (c0 + 2) v2.toNatClampNeg x7
                k26 c0 c1 c2 x4 (x5 ||| ((1 : Int32) <<< (v2 &&& 31))) x6 (x7 + (1 : Int32)) (I3, M1.2)
              else
                none
      else
        if am_inB x7 16 then
          if ¬ ((x5 >>> ((M.1 (c1 + 1) x7.toNatClampNeg) &&& 31)) &&& (1 : Int32)) = (1 : Int32) then
            k26 c0 c1 c2 x4 x5 x6 (x7 + (1 : Int32)) M
          else
            if ¬ ((x5 >>> ((M.1 (c1 + 1) x7.toNatClampNeg) &&& 31)) &&& (1 : Int32)) = 0 then
              k26 c0 c1 c2 x4 x5 x6 (x7 + (1 : Int32)) M
            else
              if am_inB (M.1 (c1 + 1) x7.toNatClampNeg) 9 then
                let I4 := am_u M.1 (c0 + 2) (M.1 (c1 + 1) x7.toNatClampNeg).toNatClampNeg x7
                k26 c0 c1 c2 x4 (x5 ||| ((1 : Int32) <<< ((M.1 (c1 + 1) x7.toNatClampNeg) &&& 31))) x6 (x7 + (1 : Int32)) (I4, M.2)
              else
                none
        else
          none
    else
      none
  else
    am_bi (f71 z c1 x7 M) fun v6 M5 =>
      if xs0 = 0 then
        am_bi (f71 z c1 x7 M5) fun v8 M7 =>
          if ¬ ((x5 >>> (v6 &&& 31)) &&& (1 : Int32)) = (1 : Int32) then
            k26 c0 c1 c2 x4 x5 x6 (x7 + (1 : Int32)) M7
          else
            if ¬ ((x5 >>> (v8 &&& 31)) &&& (1 : Int32)) = 0 then
              k26 c0 c1 c2 x4 x5 x6 (x7 + (1 : Int32)) M7
            else
              if am_inB v8 9 then
                let I9 := am_u M7.1 (c0 + 2) v8.toNatClampNeg x7
                k26 c0 c1 c2 x4 (x5 ||| ((1 : Int32) <<< (v8 &&& 31))) x6 (x7 + (1 : Int32)) (I9, M7.2)
              else
                none
      else
        if am_inB x7 16 then
          if ¬ ((x5 >>> (v6 &&& 31)) &&& (1 : Int32)) = (1 : Int32) then
            k26 c0 c1 c2 x4 x5 x6 (x7 + (1 : Int32)) M5
          else
            if ¬ ((x5 >>> ((M5.1 (c1 + 1) x7.toNatClampNeg) &&& 31)) &&& (1 : Int32)) = 0 then
              k26 c0 c1 c2 x4 x5 x6 (x7 + (1 : Int32)) M5
            else
              if am_inB (M5.1 (c1 + 1) x7.toNatClampNeg) 9 then
                let I10 := am_u M5.1 (c0 + 2) (M5.1 (c1 + 1) x7.toNatClampNeg).toNatClampNeg x7
                k26 c0 c1 c2 x4 (x5 ||| ((1 : Int32) <<< ((M5.1 (c1 + 1) x7.toNatClampNeg) &&& 31))) x6 (x7 + (1 : Int32)) (I10, M5.2)
              else
                none
        else
          none
set_option maxRecDepth 100000 in
set_option maxHeartbeats 4000000 in
theorem e69_58 (z : Nat) (k16 : Nat → Nat → Nat → Int32 → Int32 → Int32 → aM → Option aR) (hk16 : ∀ (c0 : Nat) (c1 : Nat) (c2 : Nat) (x4 : Int32) (x5 : Int32) (x6 : Int32) (M : aM) (r : aR), k16 c0 c1 c2 x4 x5 x6 M = some r → am_Ev 2 69 16 [some (.inr (.inr (8, c0))), some (.inr (.inr (1, c1))), some (.inr (.inr (21, c2))), none, some (.inl x4), some (.inl x5), some (.inl x6), none, none, none, none] [] M r) (k26 : Nat → Nat → Nat → Int32 → Int32 → Int32 → Int32 → aM → Option aR) (hk26 : ∀ (c0 : Nat) (c1 : Nat) (c2 : Nat) (x4 : Int32) (x5 : Int32) (x6 : Int32) (x7 : Int32) (M : aM) (r : aR), k26 c0 c1 c2 x4 x5 x6 x7 M = some r → am_Ev 2 69 26 [some (.inr (.inr (8, c0))), some (.inr (.inr (1, c1))), some (.inr (.inr (21, c2))), none, some (.inl x4), some (.inl x5), some (.inl x6), some (.inl x7), none, none, none] [] M r) : ∀ (c0 : Nat) (c1 : Nat) (c2 : Nat) (x4 : Int32) (x5 : Int32) (x6 : Int32) (x7 : Int32) (xs0 : Int32) (M : aM) (r : aR), f69_58 z k16 k26 c0 c1 c2 x4 x5 x6 x7 xs0 M = some r → am_Ev 2 69 58 [some (.inr (.inr (8, c0))), some (.inr (.inr (1, c1))), some (.inr (.inr (21, c2))), none, some (.inl x4), some (.inl x5), some (.inl x6), some (.inl x7), none, none, none] [.inl xs0] M r := by
  intro c0 c1 c2 x4 x5 x6 x7 xs0 M r h
  exact am_Ev_seg (sem := am_s69_ z) (cut := ([(26, [true, true, true, false, true, true, true, true, false, false, false])] : List (Nat × List Bool))) (hs69 z) am_r69 am_k69 (by rw [am_l69]; decide) (fun pc al st M => (match Nat.beq pc 26 with
      | true => (match al, st with
        | [some (.inr (.inr (8, c0))), some (.inr (.inr (1, c1))), some (.inr (.inr (21, c2))), none, some (.inl x4), some (.inl x5), some (.inl x6), some (.inl x7), none, none, none], [] => k26 c0 c1 c2 x4 x5 x6 x7 M
        | _, _ => none)
      | false => none)) 44 h (fun pc al st M hk => by
      try dsimp only at hk
      split at hk
      · rename_i he
        rw [am_beq he]
        split at hk
        · exact hk26 _ _ _ _ _ _ _ _ _ hk
        · cases hk
      · cases hk)
def f69_26 (z : Nat) (k16 : Nat → Nat → Nat → Int32 → Int32 → Int32 → aM → Option aR) : Nat → Nat → Nat → Nat → Int32 → Int32 → Int32 → Int32 → aM → Option aR
  | 0, _, _, _, _, _, _, _, _ => none
  | n + 1, c0, c1, c2, x4, x5, x6, x7, M =>
    if (M.1 c1 5) ≤ x7 then
      k16 c0 c1 c2 x4 x5 (x6 + (1 : Int32)) M
    else
      if am_inB x7 16 then
        if (M.1 c2 x7.toNatClampNeg) ≤ 0 then
          f69_26 z k16 n c0 c1 c2 x4 x5 x6 (x7 + (1 : Int32)) M
        else
          if ¬ ((x4 >>> (x7 &&& 31)) &&& (1 : Int32)) = (1 : Int32) then
            f69_58 z k16 (f69_26 z k16 n) c0 c1 c2 x4 x5 x6 x7 (0 : Int32) M
          else
            f69_58 z k16 (f69_26 z k16 n) c0 c1 c2 x4 x5 x6 x7 (1 : Int32) M
      else
        none
set_option maxRecDepth 100000 in
set_option maxHeartbeats 4000000 in
theorem e69_26 (z : Nat) (k16 : Nat → Nat → Nat → Int32 → Int32 → Int32 → aM → Option aR) (hk16 : ∀ (c0 : Nat) (c1 : Nat) (c2 : Nat) (x4 : Int32) (x5 : Int32) (x6 : Int32) (M : aM) (r : aR), k16 c0 c1 c2 x4 x5 x6 M = some r → am_Ev 2 69 16 [some (.inr (.inr (8, c0))), some (.inr (.inr (1, c1))), some (.inr (.inr (21, c2))), none, some (.inl x4), some (.inl x5), some (.inl x6), none, none, none, none] [] M r) : ∀ (n : Nat) (c0 : Nat) (c1 : Nat) (c2 : Nat) (x4 : Int32) (x5 : Int32) (x6 : Int32) (x7 : Int32) (M : aM) (r : aR), f69_26 z k16 n c0 c1 c2 x4 x5 x6 x7 M = some r → am_Ev 2 69 26 [some (.inr (.inr (8, c0))), some (.inr (.inr (1, c1))), some (.inr (.inr (21, c2))), none, some (.inl x4), some (.inl x5), some (.inl x6), some (.inl x7), none, none, none] [] M r := by
  intro n
  induction n with
  | zero =>
    intro c0 c1 c2 x4 x5 x6 x7 M r h
    cases h
  | succ n ih =>
    intro c0 c1 c2 x4 x5 x6 x7 M r h
    exact am_Ev_seg (sem := am_s69_ z) (cut := ([(16, [true, true, true, false, true, true, true, false, false, false, false]), (26, [true, true, true, false, true, true, true, true, false, false, false]), (58, [true, true, true, false, true, true, true, true, false, false, false])] : List (Nat × List Bool))) (hs69 z) am_r69 am_k69 (by rw [am_l69]; decide) (fun pc al st M => (match Nat.beq pc 16 with
      | true => (match al, st with
        | [some (.inr (.inr (8, c0))), some (.inr (.inr (1, c1))), some (.inr (.inr (21, c2))), none, some (.inl x4), some (.inl x5), some (.inl x6), none, none, none, none], [] => k16 c0 c1 c2 x4 x5 x6 M
        | _, _ => none)
      | false => (match Nat.beq pc 26 with
      | true => (match al, st with
        | [some (.inr (.inr (8, c0))), some (.inr (.inr (1, c1))), some (.inr (.inr (21, c2))), none, some (.inl x4), some (.inl x5), some (.inl x6), some (.inl x7), none, none, none], [] => f69_26 z k16 n c0 c1 c2 x4 x5 x6 x7 M
        | _, _ => none)
      | false => (match Nat.beq pc 58 with
      | true => (match al, st with
        | [some (.inr (.inr (8, c0))), some (.inr (.inr (1, c1))), some (.inr (.inr (21, c2))), none, some (.inl x4), some (.inl x5), some (.inl x6), some (.inl x7), none, none, none], [.inl xs0] => f69_58 z k16 (f69_26 z k16 n) c0 c1 c2 x4 x5 x6 x7 xs0 M
        | _, _ => none)
      | false => none)))) 19 h (fun pc al st M hk => by
      try dsimp only at hk
      split at hk
      · rename_i he
        rw [am_beq he]
        split at hk
        · exact hk16 _ _ _ _ _ _ _ _ hk
        · cases hk
      · skip
        split at hk
        · rename_i he
          rw [am_beq he]
          split at hk
          · exact ih _ _ _ _ _ _ _ _ _ hk
          · cases hk
        · skip
          split at hk
          · rename_i he
            rw [am_beq he]
            split at hk
            · exact e69_58 z _ hk16 _ ih _ _ _ _ _ _ _ _ _ _ hk
            · cases hk
          · cases hk)
def f69_16 (z : Nat) : Nat → Nat → Nat → Nat → Int32 → Int32 → Int32 → aM → Option aR
  | 0, _, _, _, _, _, _, _ => none
  | n + 1, c0, c1, c2, x4, x5, x6, M =>
    if (8 : Int32) < x6 then
      if ¬ ((x5 >>> ((8 : Int32) &&& 31)) &&& (1 : Int32)) = (1 : Int32) then
        some (some (.inl ((0 : Int32) &&& 1)), M)
      else
        some (some (.inl ((1 : Int32) &&& 1)), M)
    else
      f69_26 z (f69_16 z n) z c0 c1 c2 x4 x5 x6 (0 : Int32) M
set_option maxRecDepth 100000 in
set_option maxHeartbeats 4000000 in
theorem e69_16 (z : Nat) : ∀ (n : Nat) (c0 : Nat) (c1 : Nat) (c2 : Nat) (x4 : Int32) (x5 : Int32) (x6 : Int32) (M : aM) (r : aR), f69_16 z n c0 c1 c2 x4 x5 x6 M = some r → am_Ev 2 69 16 [some (.inr (.inr (8, c0))), some (.inr (.inr (1, c1))), some (.inr (.inr (21, c2))), none, some (.inl x4), some (.inl x5), some (.inl x6), none, none, none, none] [] M r := by
  intro n
  induction n with
  | zero =>
    intro c0 c1 c2 x4 x5 x6 M r h
    cases h
  | succ n ih =>
    intro c0 c1 c2 x4 x5 x6 M r h
    exact am_Ev_seg (sem := am_s69_ z) (cut := ([(26, [true, true, true, false, true, true, true, true, false, false, false])] : List (Nat × List Bool))) (hs69 z) am_r69 am_k69 (by rw [am_l69]; decide) (fun pc al st M => (match Nat.beq pc 26 with
      | true => (match al, st with
        | [some (.inr (.inr (8, c0))), some (.inr (.inr (1, c1))), some (.inr (.inr (21, c2))), none, some (.inl x4), some (.inl x5), some (.inl x6), some (.inl x7), none, none, none], [] => f69_26 z (f69_16 z n) z c0 c1 c2 x4 x5 x6 x7 M
        | _, _ => none)
      | false => none)) 14 h (fun pc al st M hk => by
      try dsimp only at hk
      split at hk
      · rename_i he
        rw [am_beq he]
        split at hk
        · exact e69_26 z _ ih _ _ _ _ _ _ _ _ _ _ hk
        · cases hk
      · cases hk)
/-- ArgumentMender$Web.reaches(LArgumentMender$Cloth;[III)Z -/
def f69 (z : Nat) (c0 : Nat) (c1 : Nat) (c2 : Nat) (x3 : Int32) (x4 : Int32) (M : aM) : Option aR :=
  am_bv (f343_k23 z (c0 + 2) (-1 : Int32) M) fun M1 =>
    f69_16 z z c0 c1 c2 x4 ((1 : Int32) <<< (x3 &&& 31)) (0 : Int32) M1
set_option maxRecDepth 100000 in
set_option maxHeartbeats 4000000 in
theorem e69 (z : Nat) : ∀ (c0 : Nat) (c1 : Nat) (c2 : Nat) (x3 : Int32) (x4 : Int32) (M : aM) (r : aR), f69 z c0 c1 c2 x3 x4 M = some r → am_Ev 2 69 0 [some (.inr (.inr (8, c0))), some (.inr (.inr (1, c1))), some (.inr (.inr (21, c2))), some (.inl x3), some (.inl x4), none, none, none, none, none, none] [] M r := by
  intro c0 c1 c2 x3 x4 M r h
  exact am_Ev_seg (sem := am_s69_ z) (cut := ([(16, [true, true, true, false, true, true, true, false, false, false, false])] : List (Nat × List Bool))) (hs69 z) am_r69 am_k69 (by rw [am_l69]; decide) (fun pc al st M => (match Nat.beq pc 16 with
      | true => (match al, st with
        | [some (.inr (.inr (8, c0))), some (.inr (.inr (1, c1))), some (.inr (.inr (21, c2))), none, some (.inl x4), some (.inl x5), some (.inl x6), none, none, none, none], [] => f69_16 z z c0 c1 c2 x4 x5 x6 M
        | _, _ => none)
      | false => none)) 12 h (fun pc al st M hk => by
      try dsimp only at hk
      split at hk
      · rename_i he
        rw [am_beq he]
        split at hk
        · exact e69_16 z _ _ _ _ _ _ _ _ _ hk
        · cases hk
      · cases hk)
def F69 (z : Nat) (as : List aV) (M : aM) : Option aR := match as with
  | [.inr (.inr (8, c0)), .inr (.inr (1, c1)), .inr (.inr (21, c2)), .inl x3, .inl x4] => f69 z c0 c1 c2 x3 x4 M
  | _ => none
theorem S69 (z : Nat) : am_Snd 2 69 (F69 z) := am_meth (by decide +kernel) (fun as M r has h => by
    rw [am_l69]
    unfold F69 at h
    split at h
    · exact ⟨Nat.le_of_ble_eq_true rfl, e69 z _ _ _ _ _ _ _ h⟩
    · cases h)
def cd70_0 : List am_E := [(0, .iload_n 3, 1, 3, 0, 0, 0), (1, .istore 4, 2, 4, 0, 0, 0), (3, .bipush 8, 2, 0, 0, 8, 0), (5, .istore 5, 2, 5, 0, 0, 0), (7, .iconst 0, 1, 0, 0, 0, 0), (8, .istore 6, 2, 6, 0, 0, 0), (10, .iload 6, 2, 6, 0, 0, 0), (12, .bipush 8, 2, 0, 0, 8, 0), (14, .if_icmp .gt 81, 3, 95, 0, 0, 0), (17, .iload 5, 2, 5, 0, 0, 0), (19, .iload_n 2, 1, 2, 0, 0, 0), (20, .if_icmp .eq 75, 3, 95, 0, 0, 0), (23, .aload_n 0, 1, 0, 0, 0, 0), (24, .getfield 15, 3, 8, 1, 0, 0), (27, .iload 5, 2, 5, 0, 0, 0), (29, .iaload, 1, 0, 0, 0, 0), (30, .istore 7, 2, 7, 0, 0, 0), (32, .iload 7, 2, 7, 0, 0, 0), (34, .ifCond .ge 6, 3, 40, 0, 0, 0), (37, .iload 4, 2, 4, 0, 0, 0), (39, .ireturn, 1, 0, 0, 0, 0), (40, .iload_n 3, 1, 3, 0, 0, 0), (41, .iload 7, 2, 7, 0, 0, 0), (43, .ishr, 1, 0, 0, 0, 0), (44, .iconst 1, 1, 0, 0, 1, 0), (45, .iand, 1, 0, 0, 0, 0), (46, .iconst 1, 1, 0, 0, 1, 0), (47, .if_icmp .ne 7, 3, 54, 0, 0, 0), (50, .iconst 1, 1, 0, 0, 1, 0), (51, .goto 4, 3, 55, 0, 0, 0), (54, .iconst 0, 1, 0, 0, 0, 0), (55, .istore 8, 2, 8, 0, 0, 0), (57, .iload 8, 2, 8, 0, 0, 0), (59, .ifCond .eq 12, 3, 71, 0, 0, 0), (62, .aload_n 1, 1, 1, 0, 0, 0), (63, .iload 7, 2, 7, 0, 0, 0), (65, .invokestatic 50, 3, 71, 25, 0, 0), (68, .goto 10, 3, 78, 0, 0, 0), (71, .aload_n 1, 1, 1, 0, 0, 0), (72, .getfield 54, 3, 1, 7, 0, 0)]
def cd70_1 : List am_E := [(75, .iload 7, 2, 7, 0, 0, 0), (77, .iaload, 1, 0, 0, 0, 0), (78, .istore 5, 2, 5, 0, 0, 0), (80, .iload 4, 2, 4, 0, 0, 0), (82, .iconst 1, 1, 0, 0, 1, 0), (83, .iload 7, 2, 7, 0, 0, 0), (85, .ishl, 1, 0, 0, 0, 0), (86, .ixor, 1, 0, 0, 0, 0), (87, .istore 4, 2, 4, 0, 0, 0), (89, .iinc 6 1, 3, 6, 0, 1, 0), (92, .goto (-82), 3, 10, 0, 0, 0), (95, .iload 4, 2, 4, 0, 0, 0), (97, .ireturn, 1, 0, 0, 0, 0)]
def cd70 : List am_E := cd70_0 ++ (cd70_1)
def am_w70 : List (List (Int32 × Nat) × Nat) := []
set_option maxRecDepth 100000 in
theorem kcd70_0 : cd70_0.all (am_chk am_w70 70) = true := by decide +kernel
set_option maxRecDepth 100000 in
theorem kcd70_1 : cd70_1.all (am_chk am_w70 70) = true := by decide +kernel
theorem am_k70 : cd70.all (am_chk am_w70 70) = true := by
  simp only [cd70, List.all_append, kcd70_0, kcd70_1, Bool.and_self]
theorem am_r70 : am_rtc 70 = 0 := by decide +kernel
theorem am_l70 : am_ml 70 = 9 := by decide +kernel
def am_s70_ (z : Nat) : Nat → List aV → aM → Option aR := fun j => (match Nat.beq j 71 with
  | true => F71 z
  | false => (fun _ _ => none))
theorem hs70 (z : Nat) : ∀ j2 : Nat, ∃ d2 : Nat, d2 + 1 ≤ 2 ∧ am_Snd d2 j2 (am_s70_ z j2) := by
  intro j2
  unfold am_s70_
  split
  · rename_i he
    rw [am_beq he]
    exact ⟨_, by decide, S71 z⟩
  · skip
    exact ⟨0, by decide, am_Snd_no j2⟩
def f70_10 (z : Nat) : Nat → Nat → Nat → Int32 → Int32 → Int32 → Int32 → Int32 → aM → Option aR
  | 0, _, _, _, _, _, _, _, _ => none
  | n + 1, c0, c1, x2, x3, x4, x5, x6, M =>
    if (8 : Int32) < x6 then
      some (some (.inl x4), M)
    else
      if x5 = x2 then
        some (some (.inl x4), M)
      else
        if am_inB x5 9 then
          if 0 ≤ (M.1 (c0 + 2) x5.toNatClampNeg) then
            if ¬ ((x3 >>> ((M.1 (c0 + 2) x5.toNatClampNeg) &&& 31)) &&& (1 : Int32)) = (1 : Int32) then
              if (0 : Int32) = 0 then
                if am_inB (M.1 (c0 + 2) x5.toNatClampNeg) 16 then
                  f70_10 z n c0 c1 x2 x3 (x4 ^^^ ((1 : Int32) <<< ((M.1 (c0 + 2) x5.toNatClampNeg) &&& 31))) (M.1 (c1 + 1) (M.1 (c0 + 2) x5.toNatClampNeg).toNatClampNeg) (x6 + (1 : Int32)) M
                else
                  none
              else
                am_bi (f71 z c1 (M.1 (c0 + 2) x5.toNatClampNeg) M) fun v2 M1 =>
                  f70_10 z n c0 c1 x2 x3 (x4 ^^^ ((1 : Int32) <<< ((M.1 (c0 + 2) x5.toNatClampNeg) &&& 31))) v2 (x6 + (1 : Int32)) M1
            else
              if (1 : Int32) = 0 then
                if am_inB (M.1 (c0 + 2) x5.toNatClampNeg) 16 then
                  f70_10 z n c0 c1 x2 x3 (x4 ^^^ ((1 : Int32) <<< ((M.1 (c0 + 2) x5.toNatClampNeg) &&& 31))) (M.1 (c1 + 1) (M.1 (c0 + 2) x5.toNatClampNeg).toNatClampNeg) (x6 + (1 : Int32)) M
                else
                  none
              else
                am_bi (f71 z c1 (M.1 (c0 + 2) x5.toNatClampNeg) M) fun v4 M3 =>
                  f70_10 z n c0 c1 x2 x3 (x4 ^^^ ((1 : Int32) <<< ((M.1 (c0 + 2) x5.toNatClampNeg) &&& 31))) v4 (x6 + (1 : Int32)) M3
          else
            some (some (.inl x4), M)
        else
          none
set_option maxRecDepth 100000 in
set_option maxHeartbeats 4000000 in
theorem e70_10 (z : Nat) : ∀ (n : Nat) (c0 : Nat) (c1 : Nat) (x2 : Int32) (x3 : Int32) (x4 : Int32) (x5 : Int32) (x6 : Int32) (M : aM) (r : aR), f70_10 z n c0 c1 x2 x3 x4 x5 x6 M = some r → am_Ev 2 70 10 [some (.inr (.inr (8, c0))), some (.inr (.inr (1, c1))), some (.inl x2), some (.inl x3), some (.inl x4), some (.inl x5), some (.inl x6), none, none] [] M r := by
  intro n
  induction n with
  | zero =>
    intro c0 c1 x2 x3 x4 x5 x6 M r h
    cases h
  | succ n ih =>
    intro c0 c1 x2 x3 x4 x5 x6 M r h
    exact am_Ev_seg (sem := am_s70_ z) (cut := ([(10, [true, true, true, true, true, true, true, false, false])] : List (Nat × List Bool))) (hs70 z) am_r70 am_k70 (by rw [am_l70]; decide) (fun pc al st M => (match Nat.beq pc 10 with
      | true => (match al, st with
        | [some (.inr (.inr (8, c0))), some (.inr (.inr (1, c1))), some (.inl x2), some (.inl x3), some (.inl x4), some (.inl x5), some (.inl x6), none, none], [] => f70_10 z n c0 c1 x2 x3 x4 x5 x6 M
        | _, _ => none)
      | false => none)) 40 h (fun pc al st M hk => by
      try dsimp only at hk
      split at hk
      · rename_i he
        rw [am_beq he]
        split at hk
        · exact ih _ _ _ _ _ _ _ _ _ hk
        · cases hk
      · cases hk)
/-- ArgumentMender$Web.turned(LArgumentMender$Cloth;II)I -/
def f70 (z : Nat) (c0 : Nat) (c1 : Nat) (x2 : Int32) (x3 : Int32) (M : aM) : Option aR :=
  f70_10 z z c0 c1 x2 x3 x3 (8 : Int32) (0 : Int32) M
set_option maxRecDepth 100000 in
set_option maxHeartbeats 4000000 in
theorem e70 (z : Nat) : ∀ (c0 : Nat) (c1 : Nat) (x2 : Int32) (x3 : Int32) (M : aM) (r : aR), f70 z c0 c1 x2 x3 M = some r → am_Ev 2 70 0 [some (.inr (.inr (8, c0))), some (.inr (.inr (1, c1))), some (.inl x2), some (.inl x3), none, none, none, none, none] [] M r := by
  intro c0 c1 x2 x3 M r h
  exact am_Ev_seg (sem := am_s70_ z) (cut := ([(10, [true, true, true, true, true, true, true, false, false])] : List (Nat × List Bool))) (hs70 z) am_r70 am_k70 (by rw [am_l70]; decide) (fun pc al st M => (match Nat.beq pc 10 with
      | true => (match al, st with
        | [some (.inr (.inr (8, c0))), some (.inr (.inr (1, c1))), some (.inl x2), some (.inl x3), some (.inl x4), some (.inl x5), some (.inl x6), none, none], [] => f70_10 z z c0 c1 x2 x3 x4 x5 x6 M
        | _, _ => none)
      | false => none)) 8 h (fun pc al st M hk => by
      try dsimp only at hk
      split at hk
      · rename_i he
        rw [am_beq he]
        split at hk
        · exact e70_10 z _ _ _ _ _ _ _ _ _ _ hk
        · cases hk
      · cases hk)
def F70 (z : Nat) (as : List aV) (M : aM) : Option aR := match as with
  | [.inr (.inr (8, c0)), .inr (.inr (1, c1)), .inl x2, .inl x3] => f70 z c0 c1 x2 x3 M
  | _ => none
theorem S70 (z : Nat) : am_Snd 2 70 (F70 z) := am_meth (by decide +kernel) (fun as M r has h => by
    rw [am_l70]
    unfold F70 at h
    split at h
    · exact ⟨Nat.le_of_ble_eq_true rfl, e70 z _ _ _ _ _ _ h⟩
    · cases h)
def cd68_0 : List am_E := [(0, .iconst 0, 1, 0, 0, 0, 0), (1, .istore 4, 2, 4, 0, 0, 0), (3, .iconst 0, 1, 0, 0, 0, 0), (4, .istore 5, 2, 5, 0, 0, 0), (6, .iconst 0, 1, 0, 0, 0, 0), (7, .istore 6, 2, 6, 0, 0, 0), (9, .iload 6, 2, 6, 0, 0, 0), (11, .bipush 16, 2, 0, 0, 16, 0), (13, .if_icmp .ge 34, 3, 47, 0, 0, 0), (16, .aload_n 0, 1, 0, 0, 0, 0), (17, .aload_n 1, 1, 1, 0, 0, 0), (18, .aload_n 2, 1, 2, 0, 0, 0), (19, .iload_n 3, 1, 3, 0, 0, 0), (20, .iload 4, 2, 4, 0, 0, 0), (22, .invokevirtual 33, 3, 69, 8040, 0, 0), (25, .ifCond .eq 22, 3, 47, 0, 0, 0), (28, .aload_n 0, 1, 0, 0, 0, 0), (29, .aload_n 1, 1, 1, 0, 0, 0), (30, .iload_n 3, 1, 3, 0, 0, 0), (31, .iload 4, 2, 4, 0, 0, 0), (33, .invokevirtual 37, 3, 70, 8030, 0, 0), (36, .istore 4, 2, 4, 0, 0, 0), (38, .iinc 5 1, 3, 5, 0, 1, 0), (41, .iinc 6 1, 3, 6, 0, 1, 0), (44, .goto (-35), 3, 9, 0, 0, 0), (47, .iload 5, 2, 5, 0, 0, 0), (49, .ireturn, 1, 0, 0, 0, 0)]
def cd68 : List am_E := cd68_0
def am_w68 : List (List (Int32 × Nat) × Nat) := []
set_option maxRecDepth 100000 in
theorem kcd68_0 : cd68_0.all (am_chk am_w68 68) = true := by decide +kernel
theorem am_k68 : cd68.all (am_chk am_w68 68) = true := by
  simp only [cd68, List.all_append, kcd68_0, Bool.and_self]
theorem am_r68 : am_rtc 68 = 0 := by decide +kernel
theorem am_l68 : am_ml 68 = 7 := by decide +kernel
def am_s68_ (z : Nat) : Nat → List aV → aM → Option aR := fun j => (match Nat.beq j 69 with
  | true => F69 z
  | false => (match Nat.beq j 70 with
  | true => F70 z
  | false => (fun _ _ => none)))
theorem hs68 (z : Nat) : ∀ j2 : Nat, ∃ d2 : Nat, d2 + 1 ≤ 3 ∧ am_Snd d2 j2 (am_s68_ z j2) := by
  intro j2
  unfold am_s68_
  split
  · rename_i he
    rw [am_beq he]
    exact ⟨_, by decide, S69 z⟩
  · skip
    split
    · rename_i he
      rw [am_beq he]
      exact ⟨_, by decide, S70 z⟩
    · skip
      exact ⟨0, by decide, am_Snd_no j2⟩
def f68_9 (z : Nat) : Nat → Nat → Nat → Nat → Int32 → Int32 → Int32 → Int32 → aM → Option aR
  | 0, _, _, _, _, _, _, _, _ => none
  | n + 1, c0, c1, c2, x3, x4, x5, x6, M =>
    if (16 : Int32) ≤ x6 then
      some (some (.inl x5), M)
    else
      am_bi (f69 z c0 c1 c2 x3 x4 M) fun v2 M1 =>
        if v2 = 0 then
          some (some (.inl x5), M1)
        else
          am_bi (f70 z c0 c1 x3 x4 M1) fun v4 M3 =>
            f68_9 z n c0 c1 c2 x3 v4 (x5 + (1 : Int32)) (x6 + (1 : Int32)) M3
set_option maxRecDepth 100000 in
set_option maxHeartbeats 4000000 in
theorem e68_9 (z : Nat) : ∀ (n : Nat) (c0 : Nat) (c1 : Nat) (c2 : Nat) (x3 : Int32) (x4 : Int32) (x5 : Int32) (x6 : Int32) (M : aM) (r : aR), f68_9 z n c0 c1 c2 x3 x4 x5 x6 M = some r → am_Ev 3 68 9 [some (.inr (.inr (8, c0))), some (.inr (.inr (1, c1))), some (.inr (.inr (21, c2))), some (.inl x3), some (.inl x4), some (.inl x5), some (.inl x6)] [] M r := by
  intro n
  induction n with
  | zero =>
    intro c0 c1 c2 x3 x4 x5 x6 M r h
    cases h
  | succ n ih =>
    intro c0 c1 c2 x3 x4 x5 x6 M r h
    exact am_Ev_seg (sem := am_s68_ z) (cut := ([(9, [true, true, true, true, true, true, true])] : List (Nat × List Bool))) (hs68 z) am_r68 am_k68 (by rw [am_l68]; decide) (fun pc al st M => (match Nat.beq pc 9 with
      | true => (match al, st with
        | [some (.inr (.inr (8, c0))), some (.inr (.inr (1, c1))), some (.inr (.inr (21, c2))), some (.inl x3), some (.inl x4), some (.inl x5), some (.inl x6)], [] => f68_9 z n c0 c1 c2 x3 x4 x5 x6 M
        | _, _ => none)
      | false => none)) 21 h (fun pc al st M hk => by
      try dsimp only at hk
      split at hk
      · rename_i he
        rw [am_beq he]
        split at hk
        · exact ih _ _ _ _ _ _ _ _ _ hk
        · cases hk
      · cases hk)
/-- ArgumentMender$Web.fewest(LArgumentMender$Cloth;[II)I -/
def f68 (z : Nat) (c0 : Nat) (c1 : Nat) (c2 : Nat) (x3 : Int32) (M : aM) : Option aR :=
  f68_9 z z c0 c1 c2 x3 (0 : Int32) (0 : Int32) (0 : Int32) M
set_option maxRecDepth 100000 in
set_option maxHeartbeats 4000000 in
theorem e68 (z : Nat) : ∀ (c0 : Nat) (c1 : Nat) (c2 : Nat) (x3 : Int32) (M : aM) (r : aR), f68 z c0 c1 c2 x3 M = some r → am_Ev 3 68 0 [some (.inr (.inr (8, c0))), some (.inr (.inr (1, c1))), some (.inr (.inr (21, c2))), some (.inl x3), none, none, none] [] M r := by
  intro c0 c1 c2 x3 M r h
  exact am_Ev_seg (sem := am_s68_ z) (cut := ([(9, [true, true, true, true, true, true, true])] : List (Nat × List Bool))) (hs68 z) am_r68 am_k68 (by rw [am_l68]; decide) (fun pc al st M => (match Nat.beq pc 9 with
      | true => (match al, st with
        | [some (.inr (.inr (8, c0))), some (.inr (.inr (1, c1))), some (.inr (.inr (21, c2))), some (.inl x3), some (.inl x4), some (.inl x5), some (.inl x6)], [] => f68_9 z z c0 c1 c2 x3 x4 x5 x6 M
        | _, _ => none)
      | false => none)) 8 h (fun pc al st M hk => by
      try dsimp only at hk
      split at hk
      · rename_i he
        rw [am_beq he]
        split at hk
        · exact e68_9 z _ _ _ _ _ _ _ _ _ _ hk
        · cases hk
      · cases hk)
def F68 (z : Nat) (as : List aV) (M : aM) : Option aR := match as with
  | [.inr (.inr (8, c0)), .inr (.inr (1, c1)), .inr (.inr (21, c2)), .inl x3] => f68 z c0 c1 c2 x3 M
  | _ => none
theorem S68 (z : Nat) : am_Snd 3 68 (F68 z) := am_meth (by decide +kernel) (fun as M r has h => by
    rw [am_l68]
    unfold F68 at h
    split at h
    · exact ⟨Nat.le_of_ble_eq_true rfl, e68 z _ _ _ _ _ _ h⟩
    · cases h)
def cd80_0 : List am_E := [(0, .aload_n 0, 1, 0, 0, 0, 0), (1, .getfield 10, 3, 10, 0, 0, 0), (4, .getfield 66, 3, 2, 0, 0, 0), (7, .astore 6, 2, 6, 0, 0, 0), (9, .aload 6, 2, 6, 0, 0, 0), (11, .getfield 70, 3, 5, 1, 0, 0), (14, .bipush 20, 2, 0, 0, 20, 0), (16, .iadd, 1, 0, 0, 0, 0), (17, .sipush 800, 3, 0, 0, 800, 0), (20, .if_icmp .le 5, 3, 25, 0, 0, 0), (23, .iconst (-1), 1, 0, 0, (-1), 0), (24, .ireturn, 1, 0, 0, 0, 0), (25, .aload 6, 2, 6, 0, 0, 0), (27, .iload_n 1, 1, 1, 0, 0, 0), (28, .invokevirtual 76, 3, 39, 5014, 0, 0), (31, .aload 6, 2, 6, 0, 0, 0), (33, .iload_n 2, 1, 2, 0, 0, 0), (34, .invokevirtual 76, 3, 39, 5014, 0, 0), (37, .aload 6, 2, 6, 0, 0, 0), (39, .iload_n 3, 1, 3, 0, 0, 0), (40, .invokevirtual 76, 3, 39, 5014, 0, 0), (43, .aload 6, 2, 6, 0, 0, 0), (45, .iload 4, 2, 4, 0, 0, 0), (47, .invokevirtual 76, 3, 39, 5014, 0, 0), (50, .aload 6, 2, 6, 0, 0, 0), (52, .iload 5, 2, 5, 0, 0, 0), (54, .invokevirtual 76, 3, 39, 5014, 0, 0), (57, .aload 6, 2, 6, 0, 0, 0), (59, .getfield 70, 3, 5, 1, 0, 0), (62, .ireturn, 1, 0, 0, 0, 0)]
def cd80 : List am_E := cd80_0
def am_w80 : List (List (Int32 × Nat) × Nat) := []
set_option maxRecDepth 100000 in
theorem kcd80_0 : cd80_0.all (am_chk am_w80 80) = true := by decide +kernel
theorem am_k80 : cd80.all (am_chk am_w80 80) = true := by
  simp only [cd80, List.all_append, kcd80_0, Bool.and_self]
theorem am_r80 : am_rtc 80 = 0 := by decide +kernel
theorem am_l80 : am_ml 80 = 7 := by decide +kernel
def am_s80_ (z : Nat) : Nat → List aV → aM → Option aR := fun j => (match Nat.beq j 39 with
  | true => F39 z
  | false => (fun _ _ => none))
theorem hs80 (z : Nat) : ∀ j2 : Nat, ∃ d2 : Nat, d2 + 1 ≤ 2 ∧ am_Snd d2 j2 (am_s80_ z j2) := by
  intro j2
  unfold am_s80_
  split
  · rename_i he
    rw [am_beq he]
    exact ⟨_, by decide, S39 z⟩
  · skip
    exact ⟨0, by decide, am_Snd_no j2⟩
/-- ArgumentMender.feed(IIIII)I -/
def f80 (z : Nat) (x1 : Int32) (x2 : Int32) (x3 : Int32) (x4 : Int32) (x5 : Int32) (M : aM) : Option aR :=
  if ((M.1 2 1) + (20 : Int32)) ≤ (800 : Int32) then
    am_bv (f39 z x1 M) fun M1 =>
      am_bv (f39 z x2 M1) fun M2 =>
        am_bv (f39 z x3 M2) fun M3 =>
          am_bv (f39 z x4 M3) fun M4 =>
            am_bv (f39 z x5 M4) fun M5 =>
              some (some (.inl (M5.1 2 1)), M5)
  else
    some (some (.inl (-1 : Int32)), M)
set_option maxRecDepth 100000 in
set_option maxHeartbeats 4000000 in
theorem e80 (z : Nat) : ∀ (x1 : Int32) (x2 : Int32) (x3 : Int32) (x4 : Int32) (x5 : Int32) (M : aM) (r : aR), f80 z x1 x2 x3 x4 x5 M = some r → am_Ev 2 80 0 [some (.inr (.inr (10, 0))), some (.inl x1), some (.inl x2), some (.inl x3), some (.inl x4), some (.inl x5), none] [] M r := by
  intro x1 x2 x3 x4 x5 M r h
  exact am_Ev_seg (sem := am_s80_ z) (cut := ([] : List (Nat × List Bool))) (hs80 z) am_r80 am_k80 (by rw [am_l80]; decide) (fun _ _ _ _ => none) 29 h (fun _ _ _ _ hk => by cases hk)
def F80 (z : Nat) (as : List aV) (M : aM) : Option aR := match as with
  | [.inr (.inr (10, 0)), .inl x1, .inl x2, .inl x3, .inl x4, .inl x5] => f80 z x1 x2 x3 x4 x5 M
  | _ => none
theorem S80 (z : Nat) : am_Snd 2 80 (F80 z) := am_meth (by decide +kernel) (fun as M r has h => by
    rw [am_l80]
    unfold F80 at h
    split at h
    · exact ⟨Nat.le_of_ble_eq_true rfl, e80 z _ _ _ _ _ _ _ h⟩
    · cases h)
def cd81_0 : List am_E := [(0, .iload_n 1, 1, 1, 0, 0, 0), (1, .ifCond .lt 17, 3, 18, 0, 0, 0), (4, .iload_n 1, 1, 1, 0, 0, 0), (5, .aload_n 0, 1, 0, 0, 0, 0), (6, .getfield 10, 3, 10, 0, 0, 0), (9, .getfield 66, 3, 2, 0, 0, 0), (12, .getfield 70, 3, 5, 1, 0, 0), (15, .if_icmp .le 5, 3, 20, 0, 0, 0), (18, .iconst (-1), 1, 0, 0, (-1), 0), (19, .ireturn, 1, 0, 0, 0, 0), (20, .aload_n 0, 1, 0, 0, 0, 0), (21, .getfield 10, 3, 10, 0, 0, 0), (24, .getfield 66, 3, 2, 0, 0, 0), (27, .iload_n 1, 1, 1, 0, 0, 0), (28, .putfield 70, 3, 5, 1, 0, 0), (31, .iload_n 1, 1, 1, 0, 0, 0), (32, .ireturn, 1, 0, 0, 0, 0)]
def cd81 : List am_E := cd81_0
def am_w81 : List (List (Int32 × Nat) × Nat) := []
set_option maxRecDepth 100000 in
theorem kcd81_0 : cd81_0.all (am_chk am_w81 81) = true := by decide +kernel
theorem am_k81 : cd81.all (am_chk am_w81 81) = true := by
  simp only [cd81, List.all_append, kcd81_0, Bool.and_self]
theorem am_r81 : am_rtc 81 = 0 := by decide +kernel
theorem am_l81 : am_ml 81 = 2 := by decide +kernel
def am_s81_ (z : Nat) : Nat → List aV → aM → Option aR := fun j => (fun _ _ => none)
theorem hs81 (z : Nat) : ∀ j2 : Nat, ∃ d2 : Nat, d2 + 1 ≤ 1 ∧ am_Snd d2 j2 (am_s81_ z j2) := by
  intro j2
  unfold am_s81_
  exact ⟨0, by decide, am_Snd_no j2⟩
/-- ArgumentMender.end(I)I -/
def f81 (z : Nat) (x1 : Int32) (M : aM) : Option aR :=
  if x1 < 0 then
    some (some (.inl (-1 : Int32)), M)
  else
    if x1 ≤ (M.1 2 1) then
      let I1 := am_u M.1 2 1 x1
      some (some (.inl x1), (I1, M.2))
    else
      some (some (.inl (-1 : Int32)), M)
set_option maxRecDepth 100000 in
set_option maxHeartbeats 4000000 in
theorem e81 (z : Nat) : ∀ (x1 : Int32) (M : aM) (r : aR), f81 z x1 M = some r → am_Ev 1 81 0 [some (.inr (.inr (10, 0))), some (.inl x1)] [] M r := by
  intro x1 M r h
  exact am_Ev_seg (sem := am_s81_ z) (cut := ([] : List (Nat × List Bool))) (hs81 z) am_r81 am_k81 (by rw [am_l81]; decide) (fun _ _ _ _ => none) 16 h (fun _ _ _ _ hk => by cases hk)
def F81 (z : Nat) (as : List aV) (M : aM) : Option aR := match as with
  | [.inr (.inr (10, 0)), .inl x1] => f81 z x1 M
  | _ => none
theorem S81 (z : Nat) : am_Snd 1 81 (F81 z) := am_meth (by decide +kernel) (fun as M r has h => by
    rw [am_l81]
    unfold F81 at h
    split at h
    · exact ⟨Nat.le_of_ble_eq_true rfl, e81 z _ _ _ h⟩
    · cases h)
def cd84_0 : List am_E := [(0, .aload_n 0, 1, 0, 0, 0, 0), (1, .getfield 26, 3, 10, 2, 0, 0), (4, .aload_n 0, 1, 0, 0, 0, 0), (5, .getfield 19, 3, 10, 1, 0, 0), (8, .invokevirtual 103, 3, 73, 9014, 0, 0), (11, .aload_n 0, 1, 0, 0, 0, 0), (12, .getfield 26, 3, 10, 2, 0, 0), (15, .aload_n 0, 1, 0, 0, 0, 0), (16, .getfield 19, 3, 10, 1, 0, 0), (19, .invokevirtual 106, 3, 74, 9014, 0, 0), (22, .aload_n 0, 1, 0, 0, 0, 0), (23, .getfield 40, 3, 10, 4, 0, 0), (26, .invokevirtual 109, 3, 45, 6004, 0, 0), (29, .return_, 1, 0, 0, 0, 0)]
def cd84 : List am_E := cd84_0
def am_w84 : List (List (Int32 × Nat) × Nat) := []
set_option maxRecDepth 100000 in
theorem kcd84_0 : cd84_0.all (am_chk am_w84 84) = true := by decide +kernel
theorem am_k84 : cd84.all (am_chk am_w84 84) = true := by
  simp only [cd84, List.all_append, kcd84_0, Bool.and_self]
theorem am_r84 : am_rtc 84 = 4 := by decide +kernel
theorem am_l84 : am_ml 84 = 1 := by decide +kernel
def am_s84_ (z : Nat) : Nat → List aV → aM → Option aR := fun j => (match Nat.beq j 45 with
  | true => F45 z
  | false => (match Nat.beq j 73 with
  | true => F73 z
  | false => (match Nat.beq j 74 with
  | true => F74 z
  | false => (fun _ _ => none))))
theorem hs84 (z : Nat) : ∀ j2 : Nat, ∃ d2 : Nat, d2 + 1 ≤ 5 ∧ am_Snd d2 j2 (am_s84_ z j2) := by
  intro j2
  unfold am_s84_
  split
  · rename_i he
    rw [am_beq he]
    exact ⟨_, by decide, S45 z⟩
  · skip
    split
    · rename_i he
      rw [am_beq he]
      exact ⟨_, by decide, S73 z⟩
    · skip
      split
      · rename_i he
        rw [am_beq he]
        exact ⟨_, by decide, S74 z⟩
      · skip
        exact ⟨0, by decide, am_Snd_no j2⟩
/-- ArgumentMender.refresh()V -/
def f84 (z : Nat) (M : aM) : Option aR :=
  am_bv (f73 z 32 18 M) fun M1 =>
    am_bv (f74 z 32 18 M1) fun M2 =>
      am_bv (f45 z M2) fun M3 =>
        some (none, M3)
set_option maxRecDepth 100000 in
set_option maxHeartbeats 4000000 in
theorem e84 (z : Nat) : ∀ (M : aM) (r : aR), f84 z  M = some r → am_Ev 5 84 0 [some (.inr (.inr (10, 0)))] [] M r := by
  intro  M r h
  exact am_Ev_seg (sem := am_s84_ z) (cut := ([] : List (Nat × List Bool))) (hs84 z) am_r84 am_k84 (by rw [am_l84]; decide) (fun _ _ _ _ => none) 15 h (fun _ _ _ _ hk => by cases hk)
def F84 (z : Nat) (as : List aV) (M : aM) : Option aR := match as with
  | [.inr (.inr (10, 0))] => f84 z  M
  | _ => none
theorem S84 (z : Nat) : am_Snd 5 84 (F84 z) := am_meth (by decide +kernel) (fun as M r has h => by
    rw [am_l84]
    unfold F84 at h
    split at h
    · exact ⟨Nat.le_of_ble_eq_true rfl, e84 z _ _ h⟩
    · cases h)
def cd83_0 : List am_E := [(0, .iload_n 1, 1, 1, 0, 0, 0), (1, .ifCond .ne 11, 3, 12, 0, 0, 0), (4, .aload_n 0, 1, 0, 0, 0, 0), (5, .getfield 10, 3, 10, 0, 0, 0), (8, .getfield 97, 3, 2, 2, 0, 0), (11, .ireturn, 1, 0, 0, 0, 0), (12, .iload_n 1, 1, 1, 0, 0, 0), (13, .iconst 1, 1, 0, 0, 1, 0), (14, .if_icmp .ne 13, 3, 27, 0, 0, 0), (17, .aload_n 0, 1, 0, 0, 0, 0), (18, .getfield 10, 3, 10, 0, 0, 0), (21, .getfield 100, 3, 2, 3, 0, 0), (24, .goto 4, 3, 28, 0, 0, 0), (27, .iconst (-1), 1, 0, 0, (-1), 0), (28, .ireturn, 1, 0, 0, 0, 0)]
def cd83 : List am_E := cd83_0
def am_w83 : List (List (Int32 × Nat) × Nat) := []
set_option maxRecDepth 100000 in
theorem kcd83_0 : cd83_0.all (am_chk am_w83 83) = true := by decide +kernel
theorem am_k83 : cd83.all (am_chk am_w83 83) = true := by
  simp only [cd83, List.all_append, kcd83_0, Bool.and_self]
theorem am_r83 : am_rtc 83 = 0 := by decide +kernel
theorem am_l83 : am_ml 83 = 2 := by decide +kernel
def am_s83_ (z : Nat) : Nat → List aV → aM → Option aR := fun j => (fun _ _ => none)
theorem hs83 (z : Nat) : ∀ j2 : Nat, ∃ d2 : Nat, d2 + 1 ≤ 1 ∧ am_Snd d2 j2 (am_s83_ z j2) := by
  intro j2
  unfold am_s83_
  exact ⟨0, by decide, am_Snd_no j2⟩
/-- ArgumentMender.fault(I)I -/
def f83 (z : Nat) (x1 : Int32) (M : aM) : Option aR :=
  if ¬ x1 = 0 then
    if ¬ x1 = (1 : Int32) then
      some (some (.inl (-1 : Int32)), M)
    else
      some (some (.inl (M.1 1 3)), M)
  else
    some (some (.inl (M.1 1 2)), M)
set_option maxRecDepth 100000 in
set_option maxHeartbeats 4000000 in
theorem e83 (z : Nat) : ∀ (x1 : Int32) (M : aM) (r : aR), f83 z x1 M = some r → am_Ev 1 83 0 [some (.inr (.inr (10, 0))), some (.inl x1)] [] M r := by
  intro x1 M r h
  exact am_Ev_seg (sem := am_s83_ z) (cut := ([] : List (Nat × List Bool))) (hs83 z) am_r83 am_k83 (by rw [am_l83]; decide) (fun _ _ _ _ => none) 11 h (fun _ _ _ _ hk => by cases hk)
def F83 (z : Nat) (as : List aV) (M : aM) : Option aR := match as with
  | [.inr (.inr (10, 0)), .inl x1] => f83 z x1 M
  | _ => none
theorem S83 (z : Nat) : am_Snd 1 83 (F83 z) := am_meth (by decide +kernel) (fun as M r has h => by
    rw [am_l83]
    unfold F83 at h
    split at h
    · exact ⟨Nat.le_of_ble_eq_true rfl, e83 z _ _ _ h⟩
    · cases h)
def cd85_0 : List am_E := [(0, .aload_n 0, 1, 0, 0, 0, 0), (1, .getfield 19, 3, 10, 1, 0, 0), (4, .iload_n 1, 1, 1, 0, 0, 0), (5, .invokevirtual 112, 3, 9, 1010, 0, 0), (8, .ifCond .ne 6, 3, 14, 0, 0, 0), (11, .bipush (-2), 2, 0, 0, (-2), 0), (13, .ireturn, 1, 0, 0, 0, 0), (14, .iload_n 2, 1, 2, 0, 0, 0), (15, .tableswitch 72 0 2 #[25, 35, 62], 25, 0, 0, 0, 0), (40, .aload_n 0, 1, 0, 0, 0, 0), (41, .getfield 19, 3, 10, 1, 0, 0), (44, .getfield 116, 3, 1, 7, 0, 0), (47, .iload_n 1, 1, 1, 0, 0, 0), (48, .iaload, 1, 0, 0, 0, 0), (49, .ireturn, 1, 0, 0, 0, 0), (50, .aload_n 0, 1, 0, 0, 0, 0), (51, .getfield 19, 3, 10, 1, 0, 0), (54, .getfield 120, 3, 1, 8, 0, 0), (57, .iload_n 1, 1, 1, 0, 0, 0), (58, .iaload, 1, 0, 0, 0, 0), (59, .iconst (-1), 1, 0, 0, (-1), 0), (60, .if_icmp .ne 7, 3, 67, 0, 0, 0), (63, .iconst (-1), 1, 0, 0, (-1), 0), (64, .goto 12, 3, 76, 0, 0, 0), (67, .aload_n 0, 1, 0, 0, 0, 0), (68, .getfield 19, 3, 10, 1, 0, 0), (71, .getfield 120, 3, 1, 8, 0, 0), (74, .iload_n 1, 1, 1, 0, 0, 0), (75, .iaload, 1, 0, 0, 0, 0), (76, .ireturn, 1, 0, 0, 0, 0), (77, .aload_n 0, 1, 0, 0, 0, 0), (78, .getfield 19, 3, 10, 1, 0, 0), (81, .getfield 123, 3, 1, 9, 0, 0), (84, .iload_n 1, 1, 1, 0, 0, 0), (85, .iaload, 1, 0, 0, 0, 0), (86, .ireturn, 1, 0, 0, 0, 0), (87, .bipush (-2), 2, 0, 0, (-2), 0), (89, .ireturn, 1, 0, 0, 0, 0)]
def cd85 : List am_E := cd85_0
def am_w85 : List (List (Int32 × Nat) × Nat) := [([(0, 40), (1, 50), (2, 77)], 87)]
set_option maxRecDepth 100000 in
theorem kcd85_0 : cd85_0.all (am_chk am_w85 85) = true := by decide +kernel
theorem am_k85 : cd85.all (am_chk am_w85 85) = true := by
  simp only [cd85, List.all_append, kcd85_0, Bool.and_self]
theorem am_r85 : am_rtc 85 = 0 := by decide +kernel
theorem am_l85 : am_ml 85 = 3 := by decide +kernel
def am_s85_ (z : Nat) : Nat → List aV → aM → Option aR := fun j => (match Nat.beq j 9 with
  | true => F9 z
  | false => (fun _ _ => none))
theorem hs85 (z : Nat) : ∀ j2 : Nat, ∃ d2 : Nat, d2 + 1 ≤ 2 ∧ am_Snd d2 j2 (am_s85_ z j2) := by
  intro j2
  unfold am_s85_
  split
  · rename_i he
    rw [am_beq he]
    exact ⟨_, by decide, S9 z⟩
  · skip
    exact ⟨0, by decide, am_Snd_no j2⟩
/-- ArgumentMender.thread(II)I -/
def f85 (z : Nat) (x1 : Int32) (x2 : Int32) (M : aM) : Option aR :=
  am_bi (f9 z 18 x1 M) fun v2 M1 =>
    if ¬ v2 = 0 then
      if x2 = (0 : Int32) then
        if am_inB x1 16 then
          some (some (.inl (M1.1 19 x1.toNatClampNeg)), M1)
        else
          none
      else
        if x2 = (1 : Int32) then
          if am_inB x1 16 then
            if ¬ (M1.1 20 x1.toNatClampNeg) = (-1 : Int32) then
              if am_inB x1 16 then
                some (some (.inl (M1.1 20 x1.toNatClampNeg)), M1)
              else
                none
            else
              some (some (.inl (-1 : Int32)), M1)
          else
            none
        else
          if x2 = (2 : Int32) then
            if am_inB x1 16 then
              some (some (.inl (M1.1 21 x1.toNatClampNeg)), M1)
            else
              none
          else
            some (some (.inl (-2 : Int32)), M1)
    else
      some (some (.inl (-2 : Int32)), M1)
set_option maxRecDepth 100000 in
set_option maxHeartbeats 4000000 in
theorem e85 (z : Nat) : ∀ (x1 : Int32) (x2 : Int32) (M : aM) (r : aR), f85 z x1 x2 M = some r → am_Ev 2 85 0 [some (.inr (.inr (10, 0))), some (.inl x1), some (.inl x2)] [] M r := by
  intro x1 x2 M r h
  exact am_Ev_seg (sem := am_s85_ z) (cut := ([] : List (Nat × List Bool))) (hs85 z) am_r85 am_k85 (by rw [am_l85]; decide) (fun _ _ _ _ => none) 21 h (fun _ _ _ _ hk => by cases hk)
def F85 (z : Nat) (as : List aV) (M : aM) : Option aR := match as with
  | [.inr (.inr (10, 0)), .inl x1, .inl x2] => f85 z x1 x2 M
  | _ => none
theorem S85 (z : Nat) : am_Snd 2 85 (F85 z) := am_meth (by decide +kernel) (fun as M r has h => by
    rw [am_l85]
    unfold F85 at h
    split at h
    · exact ⟨Nat.le_of_ble_eq_true rfl, e85 z _ _ _ _ h⟩
    · cases h)
def cd86_0 : List am_E := [(0, .aload_n 0, 1, 0, 0, 0, 0), (1, .getfield 19, 3, 10, 1, 0, 0), (4, .iload_n 1, 1, 1, 0, 0, 0), (5, .invokevirtual 126, 3, 10, 1010, 0, 0), (8, .ifCond .ne 6, 3, 14, 0, 0, 0), (11, .bipush (-2), 2, 0, 0, (-2), 0), (13, .ireturn, 1, 0, 0, 0, 0), (14, .iload_n 2, 1, 2, 0, 0, 0), (15, .tableswitch 55 0 2 #[25, 35, 45], 25, 0, 0, 0, 0), (40, .aload_n 0, 1, 0, 0, 0, 0), (41, .getfield 19, 3, 10, 1, 0, 0), (44, .getfield 129, 3, 1, 10, 0, 0), (47, .iload_n 1, 1, 1, 0, 0, 0), (48, .iaload, 1, 0, 0, 0, 0), (49, .ireturn, 1, 0, 0, 0, 0), (50, .aload_n 0, 1, 0, 0, 0, 0), (51, .getfield 19, 3, 10, 1, 0, 0), (54, .getfield 132, 3, 1, 11, 0, 0), (57, .iload_n 1, 1, 1, 0, 0, 0), (58, .iaload, 1, 0, 0, 0, 0), (59, .ireturn, 1, 0, 0, 0, 0), (60, .aload_n 0, 1, 0, 0, 0, 0), (61, .getfield 19, 3, 10, 1, 0, 0), (64, .getfield 135, 3, 1, 12, 0, 0), (67, .iload_n 1, 1, 1, 0, 0, 0), (68, .iaload, 1, 0, 0, 0, 0), (69, .ireturn, 1, 0, 0, 0, 0), (70, .bipush (-2), 2, 0, 0, (-2), 0), (72, .ireturn, 1, 0, 0, 0, 0)]
def cd86 : List am_E := cd86_0
def am_w86 : List (List (Int32 × Nat) × Nat) := [([(0, 40), (1, 50), (2, 60)], 70)]
set_option maxRecDepth 100000 in
theorem kcd86_0 : cd86_0.all (am_chk am_w86 86) = true := by decide +kernel
theorem am_k86 : cd86.all (am_chk am_w86 86) = true := by
  simp only [cd86, List.all_append, kcd86_0, Bool.and_self]
theorem am_r86 : am_rtc 86 = 0 := by decide +kernel
theorem am_l86 : am_ml 86 = 3 := by decide +kernel
def am_s86_ (z : Nat) : Nat → List aV → aM → Option aR := fun j => (match Nat.beq j 10 with
  | true => F10 z
  | false => (fun _ _ => none))
theorem hs86 (z : Nat) : ∀ j2 : Nat, ∃ d2 : Nat, d2 + 1 ≤ 2 ∧ am_Snd d2 j2 (am_s86_ z j2) := by
  intro j2
  unfold am_s86_
  split
  · rename_i he
    rw [am_beq he]
    exact ⟨_, by decide, S10 z⟩
  · skip
    exact ⟨0, by decide, am_Snd_no j2⟩
/-- ArgumentMender.quarrel(II)I -/
def f86 (z : Nat) (x1 : Int32) (x2 : Int32) (M : aM) : Option aR :=
  am_bi (f10 z 18 x1 M) fun v2 M1 =>
    if ¬ v2 = 0 then
      if x2 = (0 : Int32) then
        if am_inB x1 10 then
          some (some (.inl (M1.1 22 x1.toNatClampNeg)), M1)
        else
          none
      else
        if x2 = (1 : Int32) then
          if am_inB x1 10 then
            some (some (.inl (M1.1 23 x1.toNatClampNeg)), M1)
          else
            none
        else
          if x2 = (2 : Int32) then
            if am_inB x1 10 then
              some (some (.inl (M1.1 24 x1.toNatClampNeg)), M1)
            else
              none
          else
            some (some (.inl (-2 : Int32)), M1)
    else
      some (some (.inl (-2 : Int32)), M1)
set_option maxRecDepth 100000 in
set_option maxHeartbeats 4000000 in
theorem e86 (z : Nat) : ∀ (x1 : Int32) (x2 : Int32) (M : aM) (r : aR), f86 z x1 x2 M = some r → am_Ev 2 86 0 [some (.inr (.inr (10, 0))), some (.inl x1), some (.inl x2)] [] M r := by
  intro x1 x2 M r h
  exact am_Ev_seg (sem := am_s86_ z) (cut := ([] : List (Nat × List Bool))) (hs86 z) am_r86 am_k86 (by rw [am_l86]; decide) (fun _ _ _ _ => none) 14 h (fun _ _ _ _ hk => by cases hk)
def F86 (z : Nat) (as : List aV) (M : aM) : Option aR := match as with
  | [.inr (.inr (10, 0)), .inl x1, .inl x2] => f86 z x1 x2 M
  | _ => none
theorem S86 (z : Nat) : am_Snd 2 86 (F86 z) := am_meth (by decide +kernel) (fun as M r has h => by
    rw [am_l86]
    unfold F86 at h
    split at h
    · exact ⟨Nat.le_of_ble_eq_true rfl, e86 z _ _ _ _ h⟩
    · cases h)
def cd87_0 : List am_E := [(0, .aload_n 0, 1, 0, 0, 0, 0), (1, .getfield 19, 3, 10, 1, 0, 0), (4, .iload_n 1, 1, 1, 0, 0, 0), (5, .invokevirtual 138, 3, 8, 1010, 0, 0), (8, .ifCond .ne 6, 3, 14, 0, 0, 0), (11, .bipush (-2), 2, 0, 0, (-2), 0), (13, .ireturn, 1, 0, 0, 0, 0), (14, .iconst 0, 1, 0, 0, 0, 0), (15, .istore_n 2, 1, 2, 0, 0, 0), (16, .iconst 0, 1, 0, 0, 0, 0), (17, .istore_n 3, 1, 3, 0, 0, 0), (18, .iload_n 3, 1, 3, 0, 0, 0), (19, .aload_n 0, 1, 0, 0, 0, 0), (20, .getfield 19, 3, 10, 1, 0, 0), (23, .getfield 141, 3, 1, 5, 0, 0), (26, .if_icmp .ge 28, 3, 54, 0, 0, 0), (29, .aload_n 0, 1, 0, 0, 0, 0), (30, .getfield 19, 3, 10, 1, 0, 0), (33, .getfield 116, 3, 1, 7, 0, 0), (36, .iload_n 3, 1, 3, 0, 0, 0), (37, .iaload, 1, 0, 0, 0, 0), (38, .iload_n 1, 1, 1, 0, 0, 0), (39, .if_icmp .ne 9, 3, 48, 0, 0, 0), (42, .iload_n 2, 1, 2, 0, 0, 0), (43, .iconst 1, 1, 0, 0, 1, 0), (44, .iload_n 3, 1, 3, 0, 0, 0), (45, .ishl, 1, 0, 0, 0, 0), (46, .ior, 1, 0, 0, 0, 0), (47, .istore_n 2, 1, 2, 0, 0, 0), (48, .iinc 3 1, 3, 3, 0, 1, 0), (51, .goto (-33), 3, 18, 0, 0, 0), (54, .iload_n 2, 1, 2, 0, 0, 0), (55, .ireturn, 1, 0, 0, 0, 0)]
def cd87 : List am_E := cd87_0
def am_w87 : List (List (Int32 × Nat) × Nat) := []
set_option maxRecDepth 100000 in
theorem kcd87_0 : cd87_0.all (am_chk am_w87 87) = true := by decide +kernel
theorem am_k87 : cd87.all (am_chk am_w87 87) = true := by
  simp only [cd87, List.all_append, kcd87_0, Bool.and_self]
theorem am_r87 : am_rtc 87 = 0 := by decide +kernel
theorem am_l87 : am_ml 87 = 4 := by decide +kernel
def am_s87_ (z : Nat) : Nat → List aV → aM → Option aR := fun j => (match Nat.beq j 8 with
  | true => F8 z
  | false => (fun _ _ => none))
theorem hs87 (z : Nat) : ∀ j2 : Nat, ∃ d2 : Nat, d2 + 1 ≤ 2 ∧ am_Snd d2 j2 (am_s87_ z j2) := by
  intro j2
  unfold am_s87_
  split
  · rename_i he
    rw [am_beq he]
    exact ⟨_, by decide, S8 z⟩
  · skip
    exact ⟨0, by decide, am_Snd_no j2⟩
def f87_18 (z : Nat) : Nat → Int32 → Int32 → Int32 → aM → Option aR
  | 0, _, _, _, _ => none
  | n + 1, x1, x2, x3, M =>
    if (M.1 18 5) ≤ x3 then
      some (some (.inl x2), M)
    else
      if am_inB x3 16 then
        if ¬ (M.1 19 x3.toNatClampNeg) = x1 then
          f87_18 z n x1 x2 (x3 + (1 : Int32)) M
        else
          f87_18 z n x1 (x2 ||| ((1 : Int32) <<< (x3 &&& 31))) (x3 + (1 : Int32)) M
      else
        none
set_option maxRecDepth 100000 in
set_option maxHeartbeats 4000000 in
theorem e87_18 (z : Nat) : ∀ (n : Nat) (x1 : Int32) (x2 : Int32) (x3 : Int32) (M : aM) (r : aR), f87_18 z n x1 x2 x3 M = some r → am_Ev 2 87 18 [some (.inr (.inr (10, 0))), some (.inl x1), some (.inl x2), some (.inl x3)] [] M r := by
  intro n
  induction n with
  | zero =>
    intro x1 x2 x3 M r h
    cases h
  | succ n ih =>
    intro x1 x2 x3 M r h
    exact am_Ev_seg (sem := am_s87_ z) (cut := ([(18, [true, true, true, true])] : List (Nat × List Bool))) (hs87 z) am_r87 am_k87 (by rw [am_l87]; decide) (fun pc al st M => (match Nat.beq pc 18 with
      | true => (match al, st with
        | [some (.inr (.inr (10, 0))), some (.inl x1), some (.inl x2), some (.inl x3)], [] => f87_18 z n x1 x2 x3 M
        | _, _ => none)
      | false => none)) 22 h (fun pc al st M hk => by
      try dsimp only at hk
      split at hk
      · rename_i he
        rw [am_beq he]
        split at hk
        · exact ih _ _ _ _ _ hk
        · cases hk
      · cases hk)
/-- ArgumentMender.threads(I)I -/
def f87 (z : Nat) (x1 : Int32) (M : aM) : Option aR :=
  am_bi (f8 z 18 x1 M) fun v2 M1 =>
    if ¬ v2 = 0 then
      f87_18 z z x1 (0 : Int32) (0 : Int32) M1
    else
      some (some (.inl (-2 : Int32)), M1)
set_option maxRecDepth 100000 in
set_option maxHeartbeats 4000000 in
theorem e87 (z : Nat) : ∀ (x1 : Int32) (M : aM) (r : aR), f87 z x1 M = some r → am_Ev 2 87 0 [some (.inr (.inr (10, 0))), some (.inl x1), none, none] [] M r := by
  intro x1 M r h
  exact am_Ev_seg (sem := am_s87_ z) (cut := ([(18, [true, true, true, true])] : List (Nat × List Bool))) (hs87 z) am_r87 am_k87 (by rw [am_l87]; decide) (fun pc al st M => (match Nat.beq pc 18 with
      | true => (match al, st with
        | [some (.inr (.inr (10, 0))), some (.inl x1), some (.inl x2), some (.inl x3)], [] => f87_18 z z x1 x2 x3 M
        | _, _ => none)
      | false => none)) 11 h (fun pc al st M hk => by
      try dsimp only at hk
      split at hk
      · rename_i he
        rw [am_beq he]
        split at hk
        · exact e87_18 z _ _ _ _ _ _ hk
        · cases hk
      · cases hk)
def F87 (z : Nat) (as : List aV) (M : aM) : Option aR := match as with
  | [.inr (.inr (10, 0)), .inl x1] => f87 z x1 M
  | _ => none
theorem S87 (z : Nat) : am_Snd 2 87 (F87 z) := am_meth (by decide +kernel) (fun as M r has h => by
    rw [am_l87]
    unfold F87 at h
    split at h
    · exact ⟨Nat.le_of_ble_eq_true rfl, e87 z _ _ _ h⟩
    · cases h)
def cd88_0 : List am_E := [(0, .aload_n 0, 1, 0, 0, 0, 0), (1, .getfield 19, 3, 10, 1, 0, 0), (4, .iload_n 1, 1, 1, 0, 0, 0), (5, .invokevirtual 112, 3, 9, 1010, 0, 0), (8, .ifCond .eq 14, 3, 22, 0, 0, 0), (11, .aload_n 0, 1, 0, 0, 0, 0), (12, .getfield 19, 3, 10, 1, 0, 0), (15, .iload_n 2, 1, 2, 0, 0, 0), (16, .invokevirtual 144, 3, 11, 1010, 0, 0), (19, .ifCond .ne 6, 3, 25, 0, 0, 0), (22, .bipush (-2), 2, 0, 0, (-2), 0), (24, .ireturn, 1, 0, 0, 0, 0), (25, .aload_n 0, 1, 0, 0, 0, 0), (26, .getfield 26, 3, 10, 2, 0, 0), (29, .getfield 147, 3, 9, 3, 0, 0), (32, .iload_n 2, 1, 2, 0, 0, 0), (33, .aaload, 1, 0, 0, 0, 0), (34, .iload_n 1, 1, 1, 0, 0, 0), (35, .iaload, 1, 0, 0, 0, 0), (36, .ireturn, 1, 0, 0, 0, 0)]
def cd88 : List am_E := cd88_0
def am_w88 : List (List (Int32 × Nat) × Nat) := []
set_option maxRecDepth 100000 in
theorem kcd88_0 : cd88_0.all (am_chk am_w88 88) = true := by decide +kernel
theorem am_k88 : cd88.all (am_chk am_w88 88) = true := by
  simp only [cd88, List.all_append, kcd88_0, Bool.and_self]
theorem am_r88 : am_rtc 88 = 0 := by decide +kernel
theorem am_l88 : am_ml 88 = 3 := by decide +kernel
def am_s88_ (z : Nat) : Nat → List aV → aM → Option aR := fun j => (match Nat.beq j 9 with
  | true => F9 z
  | false => (match Nat.beq j 11 with
  | true => F11 z
  | false => (fun _ _ => none)))
theorem hs88 (z : Nat) : ∀ j2 : Nat, ∃ d2 : Nat, d2 + 1 ≤ 3 ∧ am_Snd d2 j2 (am_s88_ z j2) := by
  intro j2
  unfold am_s88_
  split
  · rename_i he
    rw [am_beq he]
    exact ⟨_, by decide, S9 z⟩
  · skip
    split
    · rename_i he
      rw [am_beq he]
      exact ⟨_, by decide, S11 z⟩
    · skip
      exact ⟨0, by decide, am_Snd_no j2⟩
/-- ArgumentMender.strength(II)I -/
def f88 (z : Nat) (x1 : Int32) (x2 : Int32) (M : aM) : Option aR :=
  am_bi (f9 z 18 x1 M) fun v2 M1 =>
    if v2 = 0 then
      some (some (.inl (-2 : Int32)), M1)
    else
      am_bi (f11 z 18 x2 M1) fun v4 M3 =>
        if ¬ v4 = 0 then
          if am_inB x2 13 then
            if am_inB x1 16 then
              some (some (.inl (M3.1 (33 + (1 + 1 * x2.toNatClampNeg)) x1.toNatClampNeg)), M3)
            else
              none
          else
            none
        else
          some (some (.inl (-2 : Int32)), M3)
set_option maxRecDepth 100000 in
set_option maxHeartbeats 4000000 in
theorem e88 (z : Nat) : ∀ (x1 : Int32) (x2 : Int32) (M : aM) (r : aR), f88 z x1 x2 M = some r → am_Ev 3 88 0 [some (.inr (.inr (10, 0))), some (.inl x1), some (.inl x2)] [] M r := by
  intro x1 x2 M r h
  exact am_Ev_seg (sem := am_s88_ z) (cut := ([] : List (Nat × List Bool))) (hs88 z) am_r88 am_k88 (by rw [am_l88]; decide) (fun _ _ _ _ => none) 19 h (fun _ _ _ _ hk => by cases hk)
def F88 (z : Nat) (as : List aV) (M : aM) : Option aR := match as with
  | [.inr (.inr (10, 0)), .inl x1, .inl x2] => f88 z x1 x2 M
  | _ => none
theorem S88 (z : Nat) : am_Snd 3 88 (F88 z) := am_meth (by decide +kernel) (fun as M r has h => by
    rw [am_l88]
    unfold F88 at h
    split at h
    · exact ⟨Nat.le_of_ble_eq_true rfl, e88 z _ _ _ _ h⟩
    · cases h)
def cd89_0 : List am_E := [(0, .aload_n 0, 1, 0, 0, 0, 0), (1, .getfield 19, 3, 10, 1, 0, 0), (4, .iload_n 1, 1, 1, 0, 0, 0), (5, .invokevirtual 144, 3, 11, 1010, 0, 0), (8, .ifCond .ne 6, 3, 14, 0, 0, 0), (11, .bipush (-2), 2, 0, 0, (-2), 0), (13, .ireturn, 1, 0, 0, 0, 0), (14, .iconst 0, 1, 0, 0, 0, 0), (15, .istore_n 2, 1, 2, 0, 0, 0), (16, .iconst 0, 1, 0, 0, 0, 0), (17, .istore_n 3, 1, 3, 0, 0, 0), (18, .iload_n 3, 1, 3, 0, 0, 0), (19, .aload_n 0, 1, 0, 0, 0, 0), (20, .getfield 19, 3, 10, 1, 0, 0), (23, .getfield 141, 3, 1, 5, 0, 0), (26, .if_icmp .ge 29, 3, 55, 0, 0, 0), (29, .aload_n 0, 1, 0, 0, 0, 0), (30, .getfield 26, 3, 10, 2, 0, 0), (33, .getfield 147, 3, 9, 3, 0, 0), (36, .iload_n 1, 1, 1, 0, 0, 0), (37, .aaload, 1, 0, 0, 0, 0), (38, .iload_n 3, 1, 3, 0, 0, 0), (39, .iaload, 1, 0, 0, 0, 0), (40, .ifCond .ne 9, 3, 49, 0, 0, 0), (43, .iload_n 2, 1, 2, 0, 0, 0), (44, .iconst 1, 1, 0, 0, 1, 0), (45, .iload_n 3, 1, 3, 0, 0, 0), (46, .ishl, 1, 0, 0, 0, 0), (47, .ior, 1, 0, 0, 0, 0), (48, .istore_n 2, 1, 2, 0, 0, 0), (49, .iinc 3 1, 3, 3, 0, 1, 0), (52, .goto (-34), 3, 18, 0, 0, 0), (55, .iload_n 2, 1, 2, 0, 0, 0), (56, .ireturn, 1, 0, 0, 0, 0)]
def cd89 : List am_E := cd89_0
def am_w89 : List (List (Int32 × Nat) × Nat) := []
set_option maxRecDepth 100000 in
theorem kcd89_0 : cd89_0.all (am_chk am_w89 89) = true := by decide +kernel
theorem am_k89 : cd89.all (am_chk am_w89 89) = true := by
  simp only [cd89, List.all_append, kcd89_0, Bool.and_self]
theorem am_r89 : am_rtc 89 = 0 := by decide +kernel
theorem am_l89 : am_ml 89 = 4 := by decide +kernel
def am_s89_ (z : Nat) : Nat → List aV → aM → Option aR := fun j => (match Nat.beq j 11 with
  | true => F11 z
  | false => (fun _ _ => none))
theorem hs89 (z : Nat) : ∀ j2 : Nat, ∃ d2 : Nat, d2 + 1 ≤ 3 ∧ am_Snd d2 j2 (am_s89_ z j2) := by
  intro j2
  unfold am_s89_
  split
  · rename_i he
    rw [am_beq he]
    exact ⟨_, by decide, S11 z⟩
  · skip
    exact ⟨0, by decide, am_Snd_no j2⟩
def f89_18 (z : Nat) : Nat → Int32 → Int32 → Int32 → aM → Option aR
  | 0, _, _, _, _ => none
  | n + 1, x1, x2, x3, M =>
    if (M.1 18 5) ≤ x3 then
      some (some (.inl x2), M)
    else
      if am_inB x1 13 then
        if am_inB x3 16 then
          if ¬ (M.1 (33 + (1 + 1 * x1.toNatClampNeg)) x3.toNatClampNeg) = 0 then
            f89_18 z n x1 x2 (x3 + (1 : Int32)) M
          else
            f89_18 z n x1 (x2 ||| ((1 : Int32) <<< (x3 &&& 31))) (x3 + (1 : Int32)) M
        else
          none
      else
        none
set_option maxRecDepth 100000 in
set_option maxHeartbeats 4000000 in
theorem e89_18 (z : Nat) : ∀ (n : Nat) (x1 : Int32) (x2 : Int32) (x3 : Int32) (M : aM) (r : aR), f89_18 z n x1 x2 x3 M = some r → am_Ev 3 89 18 [some (.inr (.inr (10, 0))), some (.inl x1), some (.inl x2), some (.inl x3)] [] M r := by
  intro n
  induction n with
  | zero =>
    intro x1 x2 x3 M r h
    cases h
  | succ n ih =>
    intro x1 x2 x3 M r h
    exact am_Ev_seg (sem := am_s89_ z) (cut := ([(18, [true, true, true, true])] : List (Nat × List Bool))) (hs89 z) am_r89 am_k89 (by rw [am_l89]; decide) (fun pc al st M => (match Nat.beq pc 18 with
      | true => (match al, st with
        | [some (.inr (.inr (10, 0))), some (.inl x1), some (.inl x2), some (.inl x3)], [] => f89_18 z n x1 x2 x3 M
        | _, _ => none)
      | false => none)) 23 h (fun pc al st M hk => by
      try dsimp only at hk
      split at hk
      · rename_i he
        rw [am_beq he]
        split at hk
        · exact ih _ _ _ _ _ hk
        · cases hk
      · cases hk)
/-- ArgumentMender.torn(I)I -/
def f89 (z : Nat) (x1 : Int32) (M : aM) : Option aR :=
  am_bi (f11 z 18 x1 M) fun v2 M1 =>
    if ¬ v2 = 0 then
      f89_18 z z x1 (0 : Int32) (0 : Int32) M1
    else
      some (some (.inl (-2 : Int32)), M1)
set_option maxRecDepth 100000 in
set_option maxHeartbeats 4000000 in
theorem e89 (z : Nat) : ∀ (x1 : Int32) (M : aM) (r : aR), f89 z x1 M = some r → am_Ev 3 89 0 [some (.inr (.inr (10, 0))), some (.inl x1), none, none] [] M r := by
  intro x1 M r h
  exact am_Ev_seg (sem := am_s89_ z) (cut := ([(18, [true, true, true, true])] : List (Nat × List Bool))) (hs89 z) am_r89 am_k89 (by rw [am_l89]; decide) (fun pc al st M => (match Nat.beq pc 18 with
      | true => (match al, st with
        | [some (.inr (.inr (10, 0))), some (.inl x1), some (.inl x2), some (.inl x3)], [] => f89_18 z z x1 x2 x3 M
        | _, _ => none)
      | false => none)) 11 h (fun pc al st M hk => by
      try dsimp only at hk
      split at hk
      · rename_i he
        rw [am_beq he]
        split at hk
        · exact e89_18 z _ _ _ _ _ _ hk
        · cases hk
      · cases hk)
def F89 (z : Nat) (as : List aV) (M : aM) : Option aR := match as with
  | [.inr (.inr (10, 0)), .inl x1] => f89 z x1 M
  | _ => none
theorem S89 (z : Nat) : am_Snd 3 89 (F89 z) := am_meth (by decide +kernel) (fun as M r has h => by
    rw [am_l89]
    unfold F89 at h
    split at h
    · exact ⟨Nat.le_of_ble_eq_true rfl, e89 z _ _ _ h⟩
    · cases h)
def cd90_0 : List am_E := [(0, .aload_n 0, 1, 0, 0, 0, 0), (1, .getfield 19, 3, 10, 1, 0, 0), (4, .iload_n 1, 1, 1, 0, 0, 0), (5, .invokevirtual 112, 3, 9, 1010, 0, 0), (8, .ifCond .ne 6, 3, 14, 0, 0, 0), (11, .bipush (-2), 2, 0, 0, (-2), 0), (13, .ireturn, 1, 0, 0, 0, 0), (14, .iconst 0, 1, 0, 0, 0, 0), (15, .istore_n 2, 1, 2, 0, 0, 0), (16, .iload_n 2, 1, 2, 0, 0, 0), (17, .aload_n 0, 1, 0, 0, 0, 0), (18, .getfield 19, 3, 10, 1, 0, 0), (21, .getfield 151, 3, 1, 1, 0, 0), (24, .if_icmp .gt 25, 3, 49, 0, 0, 0), (27, .aload_n 0, 1, 0, 0, 0, 0), (28, .getfield 26, 3, 10, 2, 0, 0), (31, .getfield 147, 3, 9, 3, 0, 0), (34, .iload_n 2, 1, 2, 0, 0, 0), (35, .aaload, 1, 0, 0, 0, 0), (36, .iload_n 1, 1, 1, 0, 0, 0), (37, .iaload, 1, 0, 0, 0, 0), (38, .ifCond .ne 5, 3, 43, 0, 0, 0), (41, .iload_n 2, 1, 2, 0, 0, 0), (42, .ireturn, 1, 0, 0, 0, 0), (43, .iinc 2 1, 3, 2, 0, 1, 0), (46, .goto (-30), 3, 16, 0, 0, 0), (49, .iconst (-1), 1, 0, 0, (-1), 0), (50, .ireturn, 1, 0, 0, 0, 0)]
def cd90 : List am_E := cd90_0
def am_w90 : List (List (Int32 × Nat) × Nat) := []
set_option maxRecDepth 100000 in
theorem kcd90_0 : cd90_0.all (am_chk am_w90 90) = true := by decide +kernel
theorem am_k90 : cd90.all (am_chk am_w90 90) = true := by
  simp only [cd90, List.all_append, kcd90_0, Bool.and_self]
theorem am_r90 : am_rtc 90 = 0 := by decide +kernel
theorem am_l90 : am_ml 90 = 3 := by decide +kernel
def am_s90_ (z : Nat) : Nat → List aV → aM → Option aR := fun j => (match Nat.beq j 9 with
  | true => F9 z
  | false => (fun _ _ => none))
theorem hs90 (z : Nat) : ∀ j2 : Nat, ∃ d2 : Nat, d2 + 1 ≤ 2 ∧ am_Snd d2 j2 (am_s90_ z j2) := by
  intro j2
  unfold am_s90_
  split
  · rename_i he
    rw [am_beq he]
    exact ⟨_, by decide, S9 z⟩
  · skip
    exact ⟨0, by decide, am_Snd_no j2⟩
def f90_16 (z : Nat) : Nat → Int32 → Int32 → aM → Option aR
  | 0, _, _, _ => none
  | n + 1, x1, x2, M =>
    if (M.1 18 1) < x2 then
      some (some (.inl (-1 : Int32)), M)
    else
      if am_inB x2 13 then
        if am_inB x1 16 then
          if ¬ (M.1 (33 + (1 + 1 * x2.toNatClampNeg)) x1.toNatClampNeg) = 0 then
            f90_16 z n x1 (x2 + (1 : Int32)) M
          else
            some (some (.inl x2), M)
        else
          none
      else
        none
set_option maxRecDepth 100000 in
set_option maxHeartbeats 4000000 in
theorem e90_16 (z : Nat) : ∀ (n : Nat) (x1 : Int32) (x2 : Int32) (M : aM) (r : aR), f90_16 z n x1 x2 M = some r → am_Ev 2 90 16 [some (.inr (.inr (10, 0))), some (.inl x1), some (.inl x2)] [] M r := by
  intro n
  induction n with
  | zero =>
    intro x1 x2 M r h
    cases h
  | succ n ih =>
    intro x1 x2 M r h
    exact am_Ev_seg (sem := am_s90_ z) (cut := ([(16, [true, true, true])] : List (Nat × List Bool))) (hs90 z) am_r90 am_k90 (by rw [am_l90]; decide) (fun pc al st M => (match Nat.beq pc 16 with
      | true => (match al, st with
        | [some (.inr (.inr (10, 0))), some (.inl x1), some (.inl x2)], [] => f90_16 z n x1 x2 M
        | _, _ => none)
      | false => none)) 17 h (fun pc al st M hk => by
      try dsimp only at hk
      split at hk
      · rename_i he
        rw [am_beq he]
        split at hk
        · exact ih _ _ _ _ hk
        · cases hk
      · cases hk)
/-- ArgumentMender.tears(I)I -/
def f90 (z : Nat) (x1 : Int32) (M : aM) : Option aR :=
  am_bi (f9 z 18 x1 M) fun v2 M1 =>
    if ¬ v2 = 0 then
      f90_16 z z x1 (0 : Int32) M1
    else
      some (some (.inl (-2 : Int32)), M1)
set_option maxRecDepth 100000 in
set_option maxHeartbeats 4000000 in
theorem e90 (z : Nat) : ∀ (x1 : Int32) (M : aM) (r : aR), f90 z x1 M = some r → am_Ev 2 90 0 [some (.inr (.inr (10, 0))), some (.inl x1), none] [] M r := by
  intro x1 M r h
  exact am_Ev_seg (sem := am_s90_ z) (cut := ([(16, [true, true, true])] : List (Nat × List Bool))) (hs90 z) am_r90 am_k90 (by rw [am_l90]; decide) (fun pc al st M => (match Nat.beq pc 16 with
      | true => (match al, st with
        | [some (.inr (.inr (10, 0))), some (.inl x1), some (.inl x2)], [] => f90_16 z z x1 x2 M
        | _, _ => none)
      | false => none)) 9 h (fun pc al st M hk => by
      try dsimp only at hk
      split at hk
      · rename_i he
        rw [am_beq he]
        split at hk
        · exact e90_16 z _ _ _ _ _ hk
        · cases hk
      · cases hk)
def F90 (z : Nat) (as : List aV) (M : aM) : Option aR := match as with
  | [.inr (.inr (10, 0)), .inl x1] => f90 z x1 M
  | _ => none
theorem S90 (z : Nat) : am_Snd 2 90 (F90 z) := am_meth (by decide +kernel) (fun as M r has h => by
    rw [am_l90]
    unfold F90 at h
    split at h
    · exact ⟨Nat.le_of_ble_eq_true rfl, e90 z _ _ _ h⟩
    · cases h)
def cd91_0 : List am_E := [(0, .aload_n 0, 1, 0, 0, 0, 0), (1, .getfield 19, 3, 10, 1, 0, 0), (4, .iload_n 1, 1, 1, 0, 0, 0), (5, .invokevirtual 144, 3, 11, 1010, 0, 0), (8, .ifCond .ne 6, 3, 14, 0, 0, 0), (11, .bipush (-2), 2, 0, 0, (-2), 0), (13, .ireturn, 1, 0, 0, 0, 0), (14, .iconst 0, 1, 0, 0, 0, 0), (15, .istore_n 2, 1, 2, 0, 0, 0), (16, .iconst 0, 1, 0, 0, 0, 0), (17, .istore_n 3, 1, 3, 0, 0, 0), (18, .iload_n 3, 1, 3, 0, 0, 0), (19, .aload_n 0, 1, 0, 0, 0, 0), (20, .getfield 19, 3, 10, 1, 0, 0), (23, .getfield 154, 3, 1, 4, 0, 0), (26, .if_icmp .ge 39, 3, 65, 0, 0, 0), (29, .aload_n 0, 1, 0, 0, 0, 0), (30, .getfield 33, 3, 10, 3, 0, 0), (33, .aload_n 0, 1, 0, 0, 0, 0), (34, .getfield 19, 3, 10, 1, 0, 0), (37, .aload_n 0, 1, 0, 0, 0, 0), (38, .getfield 26, 3, 10, 2, 0, 0), (41, .getfield 147, 3, 9, 3, 0, 0), (44, .iload_n 1, 1, 1, 0, 0, 0), (45, .aaload, 1, 0, 0, 0, 0), (46, .iload_n 3, 1, 3, 0, 0, 0), (47, .invokevirtual 157, 3, 65, 8030, 0, 0), (50, .ifCond .ne 9, 3, 59, 0, 0, 0), (53, .iload_n 2, 1, 2, 0, 0, 0), (54, .iconst 1, 1, 0, 0, 1, 0), (55, .iload_n 3, 1, 3, 0, 0, 0), (56, .ishl, 1, 0, 0, 0, 0), (57, .ior, 1, 0, 0, 0, 0), (58, .istore_n 2, 1, 2, 0, 0, 0), (59, .iinc 3 1, 3, 3, 0, 1, 0), (62, .goto (-44), 3, 18, 0, 0, 0), (65, .iload_n 2, 1, 2, 0, 0, 0), (66, .ireturn, 1, 0, 0, 0, 0)]
def cd91 : List am_E := cd91_0
def am_w91 : List (List (Int32 × Nat) × Nat) := []
set_option maxRecDepth 100000 in
theorem kcd91_0 : cd91_0.all (am_chk am_w91 91) = true := by decide +kernel
theorem am_k91 : cd91.all (am_chk am_w91 91) = true := by
  simp only [cd91, List.all_append, kcd91_0, Bool.and_self]
theorem am_r91 : am_rtc 91 = 0 := by decide +kernel
theorem am_l91 : am_ml 91 = 4 := by decide +kernel
def am_s91_ (z : Nat) : Nat → List aV → aM → Option aR := fun j => (match Nat.beq j 11 with
  | true => F11 z
  | false => (match Nat.beq j 65 with
  | true => F65 z
  | false => (fun _ _ => none)))
theorem hs91 (z : Nat) : ∀ j2 : Nat, ∃ d2 : Nat, d2 + 1 ≤ 3 ∧ am_Snd d2 j2 (am_s91_ z j2) := by
  intro j2
  unfold am_s91_
  split
  · rename_i he
    rw [am_beq he]
    exact ⟨_, by decide, S11 z⟩
  · skip
    split
    · rename_i he
      rw [am_beq he]
      exact ⟨_, by decide, S65 z⟩
    · skip
      exact ⟨0, by decide, am_Snd_no j2⟩
def f91_18 (z : Nat) : Nat → Int32 → Int32 → Int32 → aM → Option aR
  | 0, _, _, _, _ => none
  | n + 1, x1, x2, x3, M =>
    if (M.1 18 4) ≤ x3 then
      some (some (.inl x2), M)
    else
      if am_inB x1 13 then
        am_bi (f65 z 67 18 (33 + (1 + 1 * x1.toNatClampNeg)) x3 M) fun v2 M1 =>
          if ¬ v2 = 0 then
            f91_18 z n x1 x2 (x3 + (1 : Int32)) M1
          else
            f91_18 z n x1 (x2 ||| ((1 : Int32) <<< (x3 &&& 31))) (x3 + (1 : Int32)) M1
      else
        none
set_option maxRecDepth 100000 in
set_option maxHeartbeats 4000000 in
theorem e91_18 (z : Nat) : ∀ (n : Nat) (x1 : Int32) (x2 : Int32) (x3 : Int32) (M : aM) (r : aR), f91_18 z n x1 x2 x3 M = some r → am_Ev 3 91 18 [some (.inr (.inr (10, 0))), some (.inl x1), some (.inl x2), some (.inl x3)] [] M r := by
  intro n
  induction n with
  | zero =>
    intro x1 x2 x3 M r h
    cases h
  | succ n ih =>
    intro x1 x2 x3 M r h
    exact am_Ev_seg (sem := am_s91_ z) (cut := ([(18, [true, true, true, true])] : List (Nat × List Bool))) (hs91 z) am_r91 am_k91 (by rw [am_l91]; decide) (fun pc al st M => (match Nat.beq pc 18 with
      | true => (match al, st with
        | [some (.inr (.inr (10, 0))), some (.inl x1), some (.inl x2), some (.inl x3)], [] => f91_18 z n x1 x2 x3 M
        | _, _ => none)
      | false => none)) 27 h (fun pc al st M hk => by
      try dsimp only at hk
      split at hk
      · rename_i he
        rw [am_beq he]
        split at hk
        · exact ih _ _ _ _ _ hk
        · cases hk
      · cases hk)
/-- ArgumentMender.holes(I)I -/
def f91 (z : Nat) (x1 : Int32) (M : aM) : Option aR :=
  am_bi (f11 z 18 x1 M) fun v2 M1 =>
    if ¬ v2 = 0 then
      f91_18 z z x1 (0 : Int32) (0 : Int32) M1
    else
      some (some (.inl (-2 : Int32)), M1)
set_option maxRecDepth 100000 in
set_option maxHeartbeats 4000000 in
theorem e91 (z : Nat) : ∀ (x1 : Int32) (M : aM) (r : aR), f91 z x1 M = some r → am_Ev 3 91 0 [some (.inr (.inr (10, 0))), some (.inl x1), none, none] [] M r := by
  intro x1 M r h
  exact am_Ev_seg (sem := am_s91_ z) (cut := ([(18, [true, true, true, true])] : List (Nat × List Bool))) (hs91 z) am_r91 am_k91 (by rw [am_l91]; decide) (fun pc al st M => (match Nat.beq pc 18 with
      | true => (match al, st with
        | [some (.inr (.inr (10, 0))), some (.inl x1), some (.inl x2), some (.inl x3)], [] => f91_18 z z x1 x2 x3 M
        | _, _ => none)
      | false => none)) 11 h (fun pc al st M hk => by
      try dsimp only at hk
      split at hk
      · rename_i he
        rw [am_beq he]
        split at hk
        · exact e91_18 z _ _ _ _ _ _ hk
        · cases hk
      · cases hk)
def F91 (z : Nat) (as : List aV) (M : aM) : Option aR := match as with
  | [.inr (.inr (10, 0)), .inl x1] => f91 z x1 M
  | _ => none
theorem S91 (z : Nat) : am_Snd 3 91 (F91 z) := am_meth (by decide +kernel) (fun as M r has h => by
    rw [am_l91]
    unfold F91 at h
    split at h
    · exact ⟨Nat.le_of_ble_eq_true rfl, e91 z _ _ _ h⟩
    · cases h)
def cd92_0 : List am_E := [(0, .aload_n 0, 1, 0, 0, 0, 0), (1, .getfield 19, 3, 10, 1, 0, 0), (4, .iload_n 1, 1, 1, 0, 0, 0), (5, .invokevirtual 138, 3, 8, 1010, 0, 0), (8, .ifCond .ne 6, 3, 14, 0, 0, 0), (11, .bipush (-2), 2, 0, 0, (-2), 0), (13, .ireturn, 1, 0, 0, 0, 0), (14, .iconst 0, 1, 0, 0, 0, 0), (15, .istore_n 2, 1, 2, 0, 0, 0), (16, .iload_n 2, 1, 2, 0, 0, 0), (17, .aload_n 0, 1, 0, 0, 0, 0), (18, .getfield 19, 3, 10, 1, 0, 0), (21, .getfield 151, 3, 1, 1, 0, 0), (24, .if_icmp .gt 35, 3, 59, 0, 0, 0), (27, .aload_n 0, 1, 0, 0, 0, 0), (28, .getfield 33, 3, 10, 3, 0, 0), (31, .aload_n 0, 1, 0, 0, 0, 0), (32, .getfield 19, 3, 10, 1, 0, 0), (35, .aload_n 0, 1, 0, 0, 0, 0), (36, .getfield 26, 3, 10, 2, 0, 0), (39, .getfield 147, 3, 9, 3, 0, 0), (42, .iload_n 2, 1, 2, 0, 0, 0), (43, .aaload, 1, 0, 0, 0, 0), (44, .iload_n 1, 1, 1, 0, 0, 0), (45, .invokevirtual 157, 3, 65, 8030, 0, 0), (48, .ifCond .ne 5, 3, 53, 0, 0, 0), (51, .iload_n 2, 1, 2, 0, 0, 0), (52, .ireturn, 1, 0, 0, 0, 0), (53, .iinc 2 1, 3, 2, 0, 1, 0), (56, .goto (-40), 3, 16, 0, 0, 0), (59, .iconst (-1), 1, 0, 0, (-1), 0), (60, .ireturn, 1, 0, 0, 0, 0)]
def cd92 : List am_E := cd92_0
def am_w92 : List (List (Int32 × Nat) × Nat) := []
set_option maxRecDepth 100000 in
theorem kcd92_0 : cd92_0.all (am_chk am_w92 92) = true := by decide +kernel
theorem am_k92 : cd92.all (am_chk am_w92 92) = true := by
  simp only [cd92, List.all_append, kcd92_0, Bool.and_self]
theorem am_r92 : am_rtc 92 = 0 := by decide +kernel
theorem am_l92 : am_ml 92 = 3 := by decide +kernel
def am_s92_ (z : Nat) : Nat → List aV → aM → Option aR := fun j => (match Nat.beq j 8 with
  | true => F8 z
  | false => (match Nat.beq j 65 with
  | true => F65 z
  | false => (fun _ _ => none)))
theorem hs92 (z : Nat) : ∀ j2 : Nat, ∃ d2 : Nat, d2 + 1 ≤ 2 ∧ am_Snd d2 j2 (am_s92_ z j2) := by
  intro j2
  unfold am_s92_
  split
  · rename_i he
    rw [am_beq he]
    exact ⟨_, by decide, S8 z⟩
  · skip
    split
    · rename_i he
      rw [am_beq he]
      exact ⟨_, by decide, S65 z⟩
    · skip
      exact ⟨0, by decide, am_Snd_no j2⟩
def f92_16 (z : Nat) : Nat → Int32 → Int32 → aM → Option aR
  | 0, _, _, _ => none
  | n + 1, x1, x2, M =>
    if (M.1 18 1) < x2 then
      some (some (.inl (-1 : Int32)), M)
    else
      if am_inB x2 13 then
        am_bi (f65 z 67 18 (33 + (1 + 1 * x2.toNatClampNeg)) x1 M) fun v2 M1 =>
          if ¬ v2 = 0 then
            f92_16 z n x1 (x2 + (1 : Int32)) M1
          else
            some (some (.inl x2), M1)
      else
        none
set_option maxRecDepth 100000 in
set_option maxHeartbeats 4000000 in
theorem e92_16 (z : Nat) : ∀ (n : Nat) (x1 : Int32) (x2 : Int32) (M : aM) (r : aR), f92_16 z n x1 x2 M = some r → am_Ev 2 92 16 [some (.inr (.inr (10, 0))), some (.inl x1), some (.inl x2)] [] M r := by
  intro n
  induction n with
  | zero =>
    intro x1 x2 M r h
    cases h
  | succ n ih =>
    intro x1 x2 M r h
    exact am_Ev_seg (sem := am_s92_ z) (cut := ([(16, [true, true, true])] : List (Nat × List Bool))) (hs92 z) am_r92 am_k92 (by rw [am_l92]; decide) (fun pc al st M => (match Nat.beq pc 16 with
      | true => (match al, st with
        | [some (.inr (.inr (10, 0))), some (.inl x1), some (.inl x2)], [] => f92_16 z n x1 x2 M
        | _, _ => none)
      | false => none)) 21 h (fun pc al st M hk => by
      try dsimp only at hk
      split at hk
      · rename_i he
        rw [am_beq he]
        split at hk
        · exact ih _ _ _ _ hk
        · cases hk
      · cases hk)
/-- ArgumentMender.hole(I)I -/
def f92 (z : Nat) (x1 : Int32) (M : aM) : Option aR :=
  am_bi (f8 z 18 x1 M) fun v2 M1 =>
    if ¬ v2 = 0 then
      f92_16 z z x1 (0 : Int32) M1
    else
      some (some (.inl (-2 : Int32)), M1)
set_option maxRecDepth 100000 in
set_option maxHeartbeats 4000000 in
theorem e92 (z : Nat) : ∀ (x1 : Int32) (M : aM) (r : aR), f92 z x1 M = some r → am_Ev 2 92 0 [some (.inr (.inr (10, 0))), some (.inl x1), none] [] M r := by
  intro x1 M r h
  exact am_Ev_seg (sem := am_s92_ z) (cut := ([(16, [true, true, true])] : List (Nat × List Bool))) (hs92 z) am_r92 am_k92 (by rw [am_l92]; decide) (fun pc al st M => (match Nat.beq pc 16 with
      | true => (match al, st with
        | [some (.inr (.inr (10, 0))), some (.inl x1), some (.inl x2)], [] => f92_16 z z x1 x2 M
        | _, _ => none)
      | false => none)) 9 h (fun pc al st M hk => by
      try dsimp only at hk
      split at hk
      · rename_i he
        rw [am_beq he]
        split at hk
        · exact e92_16 z _ _ _ _ _ hk
        · cases hk
      · cases hk)
def F92 (z : Nat) (as : List aV) (M : aM) : Option aR := match as with
  | [.inr (.inr (10, 0)), .inl x1] => f92 z x1 M
  | _ => none
theorem S92 (z : Nat) : am_Snd 2 92 (F92 z) := am_meth (by decide +kernel) (fun as M r has h => by
    rw [am_l92]
    unfold F92 at h
    split at h
    · exact ⟨Nat.le_of_ble_eq_true rfl, e92 z _ _ _ h⟩
    · cases h)
def cd93_0 : List am_E := [(0, .aload_n 0, 1, 0, 0, 0, 0), (1, .getfield 19, 3, 10, 1, 0, 0), (4, .iload_n 1, 1, 1, 0, 0, 0), (5, .invokevirtual 144, 3, 11, 1010, 0, 0), (8, .ifCond .eq 26, 3, 34, 0, 0, 0), (11, .aload_n 0, 1, 0, 0, 0, 0), (12, .getfield 33, 3, 10, 3, 0, 0), (15, .aload_n 0, 1, 0, 0, 0, 0), (16, .getfield 19, 3, 10, 1, 0, 0), (19, .aload_n 0, 1, 0, 0, 0, 0), (20, .getfield 26, 3, 10, 2, 0, 0), (23, .getfield 147, 3, 9, 3, 0, 0), (26, .iload_n 1, 1, 1, 0, 0, 0), (27, .aaload, 1, 0, 0, 0, 0), (28, .invokevirtual 161, 3, 66, 8020, 0, 0), (31, .goto 5, 3, 36, 0, 0, 0), (34, .bipush (-2), 2, 0, 0, (-2), 0), (36, .ireturn, 1, 0, 0, 0, 0)]
def cd93 : List am_E := cd93_0
def am_w93 : List (List (Int32 × Nat) × Nat) := []
set_option maxRecDepth 100000 in
theorem kcd93_0 : cd93_0.all (am_chk am_w93 93) = true := by decide +kernel
theorem am_k93 : cd93.all (am_chk am_w93 93) = true := by
  simp only [cd93, List.all_append, kcd93_0, Bool.and_self]
theorem am_r93 : am_rtc 93 = 0 := by decide +kernel
theorem am_l93 : am_ml 93 = 2 := by decide +kernel
def am_s93_ (z : Nat) : Nat → List aV → aM → Option aR := fun j => (match Nat.beq j 11 with
  | true => F11 z
  | false => (match Nat.beq j 66 with
  | true => F66 z
  | false => (fun _ _ => none)))
theorem hs93 (z : Nat) : ∀ j2 : Nat, ∃ d2 : Nat, d2 + 1 ≤ 3 ∧ am_Snd d2 j2 (am_s93_ z j2) := by
  intro j2
  unfold am_s93_
  split
  · rename_i he
    rw [am_beq he]
    exact ⟨_, by decide, S11 z⟩
  · skip
    split
    · rename_i he
      rw [am_beq he]
      exact ⟨_, by decide, S66 z⟩
    · skip
      exact ⟨0, by decide, am_Snd_no j2⟩
/-- ArgumentMender.hung(I)I -/
def f93 (z : Nat) (x1 : Int32) (M : aM) : Option aR :=
  am_bi (f11 z 18 x1 M) fun v2 M1 =>
    if v2 = 0 then
      some (some (.inl (-2 : Int32)), M1)
    else
      if am_inB x1 13 then
        am_bi (f66 z 67 18 (33 + (1 + 1 * x1.toNatClampNeg)) M1) fun v4 M3 =>
          some (some (.inl v4), M3)
      else
        none
set_option maxRecDepth 100000 in
set_option maxHeartbeats 4000000 in
theorem e93 (z : Nat) : ∀ (x1 : Int32) (M : aM) (r : aR), f93 z x1 M = some r → am_Ev 3 93 0 [some (.inr (.inr (10, 0))), some (.inl x1)] [] M r := by
  intro x1 M r h
  exact am_Ev_seg (sem := am_s93_ z) (cut := ([] : List (Nat × List Bool))) (hs93 z) am_r93 am_k93 (by rw [am_l93]; decide) (fun _ _ _ _ => none) 18 h (fun _ _ _ _ hk => by cases hk)
def F93 (z : Nat) (as : List aV) (M : aM) : Option aR := match as with
  | [.inr (.inr (10, 0)), .inl x1] => f93 z x1 M
  | _ => none
theorem S93 (z : Nat) : am_Snd 3 93 (F93 z) := am_meth (by decide +kernel) (fun as M r has h => by
    rw [am_l93]
    unfold F93 at h
    split at h
    · exact ⟨Nat.le_of_ble_eq_true rfl, e93 z _ _ _ h⟩
    · cases h)
def cd95_0 : List am_E := [(0, .iconst 0, 1, 0, 0, 0, 0), (1, .istore_n 2, 1, 2, 0, 0, 0), (2, .iload_n 2, 1, 2, 0, 0, 0), (3, .aload_n 0, 1, 0, 0, 0, 0), (4, .getfield 19, 3, 10, 1, 0, 0), (7, .getfield 151, 3, 1, 1, 0, 0), (10, .if_icmp .gt 37, 3, 47, 0, 0, 0), (13, .aload_n 0, 1, 0, 0, 0, 0), (14, .getfield 33, 3, 10, 3, 0, 0), (17, .aload_n 0, 1, 0, 0, 0, 0), (18, .getfield 19, 3, 10, 1, 0, 0), (21, .aload_n 0, 1, 0, 0, 0, 0), (22, .getfield 26, 3, 10, 2, 0, 0), (25, .getfield 147, 3, 9, 3, 0, 0), (28, .iload_n 2, 1, 2, 0, 0, 0), (29, .aaload, 1, 0, 0, 0, 0), (30, .invokevirtual 161, 3, 66, 8020, 0, 0), (33, .iload_n 1, 1, 1, 0, 0, 0), (34, .iand, 1, 0, 0, 0, 0), (35, .iload_n 1, 1, 1, 0, 0, 0), (36, .if_icmp .eq 5, 3, 41, 0, 0, 0), (39, .iload_n 2, 1, 2, 0, 0, 0), (40, .ireturn, 1, 0, 0, 0, 0), (41, .iinc 2 1, 3, 2, 0, 1, 0), (44, .goto (-42), 3, 2, 0, 0, 0), (47, .iconst (-1), 1, 0, 0, (-1), 0), (48, .ireturn, 1, 0, 0, 0, 0)]
def cd95 : List am_E := cd95_0
def am_w95 : List (List (Int32 × Nat) × Nat) := []
set_option maxRecDepth 100000 in
theorem kcd95_0 : cd95_0.all (am_chk am_w95 95) = true := by decide +kernel
theorem am_k95 : cd95.all (am_chk am_w95 95) = true := by
  simp only [cd95, List.all_append, kcd95_0, Bool.and_self]
theorem am_r95 : am_rtc 95 = 0 := by decide +kernel
theorem am_l95 : am_ml 95 = 3 := by decide +kernel
def am_s95_ (z : Nat) : Nat → List aV → aM → Option aR := fun j => (match Nat.beq j 66 with
  | true => F66 z
  | false => (fun _ _ => none))
theorem hs95 (z : Nat) : ∀ j2 : Nat, ∃ d2 : Nat, d2 + 1 ≤ 2 ∧ am_Snd d2 j2 (am_s95_ z j2) := by
  intro j2
  unfold am_s95_
  split
  · rename_i he
    rw [am_beq he]
    exact ⟨_, by decide, S66 z⟩
  · skip
    exact ⟨0, by decide, am_Snd_no j2⟩
def f95_2 (z : Nat) : Nat → Int32 → Int32 → aM → Option aR
  | 0, _, _, _ => none
  | n + 1, x1, x2, M =>
    if (M.1 18 1) < x2 then
      some (some (.inl (-1 : Int32)), M)
    else
      if am_inB x2 13 then
        am_bi (f66 z 67 18 (33 + (1 + 1 * x2.toNatClampNeg)) M) fun v2 M1 =>
          if (v2 &&& x1) = x1 then
            f95_2 z n x1 (x2 + (1 : Int32)) M1
          else
            some (some (.inl x2), M1)
      else
        none
set_option maxRecDepth 100000 in
set_option maxHeartbeats 4000000 in
theorem e95_2 (z : Nat) : ∀ (n : Nat) (x1 : Int32) (x2 : Int32) (M : aM) (r : aR), f95_2 z n x1 x2 M = some r → am_Ev 2 95 2 [some (.inr (.inr (10, 0))), some (.inl x1), some (.inl x2)] [] M r := by
  intro n
  induction n with
  | zero =>
    intro x1 x2 M r h
    cases h
  | succ n ih =>
    intro x1 x2 M r h
    exact am_Ev_seg (sem := am_s95_ z) (cut := ([(2, [true, true, true])] : List (Nat × List Bool))) (hs95 z) am_r95 am_k95 (by rw [am_l95]; decide) (fun pc al st M => (match Nat.beq pc 2 with
      | true => (match al, st with
        | [some (.inr (.inr (10, 0))), some (.inl x1), some (.inl x2)], [] => f95_2 z n x1 x2 M
        | _, _ => none)
      | false => none)) 23 h (fun pc al st M hk => by
      try dsimp only at hk
      split at hk
      · rename_i he
        rw [am_beq he]
        split at hk
        · exact ih _ _ _ _ hk
        · cases hk
      · cases hk)
/-- ArgumentMender.firstWithout(I)I -/
def f95 (z : Nat) (x1 : Int32) (M : aM) : Option aR :=
  f95_2 z z x1 (0 : Int32) M
set_option maxRecDepth 100000 in
set_option maxHeartbeats 4000000 in
theorem e95 (z : Nat) : ∀ (x1 : Int32) (M : aM) (r : aR), f95 z x1 M = some r → am_Ev 2 95 0 [some (.inr (.inr (10, 0))), some (.inl x1), none] [] M r := by
  intro x1 M r h
  exact am_Ev_seg (sem := am_s95_ z) (cut := ([(2, [true, true, true])] : List (Nat × List Bool))) (hs95 z) am_r95 am_k95 (by rw [am_l95]; decide) (fun pc al st M => (match Nat.beq pc 2 with
      | true => (match al, st with
        | [some (.inr (.inr (10, 0))), some (.inl x1), some (.inl x2)], [] => f95_2 z z x1 x2 M
        | _, _ => none)
      | false => none)) 4 h (fun pc al st M hk => by
      try dsimp only at hk
      split at hk
      · rename_i he
        rw [am_beq he]
        split at hk
        · exact e95_2 z _ _ _ _ _ hk
        · cases hk
      · cases hk)
def F95 (z : Nat) (as : List aV) (M : aM) : Option aR := match as with
  | [.inr (.inr (10, 0)), .inl x1] => f95 z x1 M
  | _ => none
theorem S95 (z : Nat) : am_Snd 2 95 (F95 z) := am_meth (by decide +kernel) (fun as M r has h => by
    rw [am_l95]
    unfold F95 at h
    split at h
    · exact ⟨Nat.le_of_ble_eq_true rfl, e95 z _ _ _ h⟩
    · cases h)
def cd94_0 : List am_E := [(0, .aload_n 0, 1, 0, 0, 0, 0), (1, .getfield 19, 3, 10, 1, 0, 0), (4, .iload_n 1, 1, 1, 0, 0, 0), (5, .invokevirtual 138, 3, 8, 1010, 0, 0), (8, .ifCond .eq 13, 3, 21, 0, 0, 0), (11, .aload_n 0, 1, 0, 0, 0, 0), (12, .iconst 1, 1, 0, 0, 1, 0), (13, .iload_n 1, 1, 1, 0, 0, 0), (14, .ishl, 1, 0, 0, 0, 0), (15, .invokevirtual 165, 3, 95, 10010, 0, 0), (18, .goto 5, 3, 23, 0, 0, 0), (21, .bipush (-2), 2, 0, 0, (-2), 0), (23, .ireturn, 1, 0, 0, 0, 0)]
def cd94 : List am_E := cd94_0
def am_w94 : List (List (Int32 × Nat) × Nat) := []
set_option maxRecDepth 100000 in
theorem kcd94_0 : cd94_0.all (am_chk am_w94 94) = true := by decide +kernel
theorem am_k94 : cd94.all (am_chk am_w94 94) = true := by
  simp only [cd94, List.all_append, kcd94_0, Bool.and_self]
theorem am_r94 : am_rtc 94 = 0 := by decide +kernel
theorem am_l94 : am_ml 94 = 2 := by decide +kernel
def am_s94_ (z : Nat) : Nat → List aV → aM → Option aR := fun j => (match Nat.beq j 8 with
  | true => F8 z
  | false => (match Nat.beq j 95 with
  | true => F95 z
  | false => (fun _ _ => none)))
theorem hs94 (z : Nat) : ∀ j2 : Nat, ∃ d2 : Nat, d2 + 1 ≤ 3 ∧ am_Snd d2 j2 (am_s94_ z j2) := by
  intro j2
  unfold am_s94_
  split
  · rename_i he
    rw [am_beq he]
    exact ⟨_, by decide, S8 z⟩
  · skip
    split
    · rename_i he
      rw [am_beq he]
      exact ⟨_, by decide, S95 z⟩
    · skip
      exact ⟨0, by decide, am_Snd_no j2⟩
/-- ArgumentMender.falls(I)I -/
def f94 (z : Nat) (x1 : Int32) (M : aM) : Option aR :=
  am_bi (f8 z 18 x1 M) fun v2 M1 =>
    if v2 = 0 then
      some (some (.inl (-2 : Int32)), M1)
    else
      am_bi (f95 z ((1 : Int32) <<< (x1 &&& 31)) M1) fun v4 M3 =>
        some (some (.inl v4), M3)
set_option maxRecDepth 100000 in
set_option maxHeartbeats 4000000 in
theorem e94 (z : Nat) : ∀ (x1 : Int32) (M : aM) (r : aR), f94 z x1 M = some r → am_Ev 3 94 0 [some (.inr (.inr (10, 0))), some (.inl x1)] [] M r := by
  intro x1 M r h
  exact am_Ev_seg (sem := am_s94_ z) (cut := ([] : List (Nat × List Bool))) (hs94 z) am_r94 am_k94 (by rw [am_l94]; decide) (fun _ _ _ _ => none) 13 h (fun _ _ _ _ hk => by cases hk)
def F94 (z : Nat) (as : List aV) (M : aM) : Option aR := match as with
  | [.inr (.inr (10, 0)), .inl x1] => f94 z x1 M
  | _ => none
theorem S94 (z : Nat) : am_Snd 3 94 (F94 z) := am_meth (by decide +kernel) (fun as M r has h => by
    rw [am_l94]
    unfold F94 at h
    split at h
    · exact ⟨Nat.le_of_ble_eq_true rfl, e94 z _ _ _ h⟩
    · cases h)
def cd97_0 : List am_E := [(0, .iconst 0, 1, 0, 0, 0, 0), (1, .istore_n 2, 1, 2, 0, 0, 0), (2, .iconst 0, 1, 0, 0, 0, 0), (3, .istore_n 3, 1, 3, 0, 0, 0), (4, .iload_n 3, 1, 3, 0, 0, 0), (5, .aload_n 0, 1, 0, 0, 0, 0), (6, .getfield 19, 3, 10, 1, 0, 0), (9, .getfield 141, 3, 1, 5, 0, 0), (12, .if_icmp .ge 23, 3, 35, 0, 0, 0), (15, .iload_n 2, 1, 2, 0, 0, 0), (16, .aload_n 0, 1, 0, 0, 0, 0), (17, .getfield 26, 3, 10, 2, 0, 0), (20, .getfield 147, 3, 9, 3, 0, 0), (23, .iload_n 1, 1, 1, 0, 0, 0), (24, .aaload, 1, 0, 0, 0, 0), (25, .iload_n 3, 1, 3, 0, 0, 0), (26, .iaload, 1, 0, 0, 0, 0), (27, .iadd, 1, 0, 0, 0, 0), (28, .istore_n 2, 1, 2, 0, 0, 0), (29, .iinc 3 1, 3, 3, 0, 1, 0), (32, .goto (-28), 3, 4, 0, 0, 0), (35, .iload_n 2, 1, 2, 0, 0, 0), (36, .ireturn, 1, 0, 0, 0, 0)]
def cd97 : List am_E := cd97_0
def am_w97 : List (List (Int32 × Nat) × Nat) := []
set_option maxRecDepth 100000 in
theorem kcd97_0 : cd97_0.all (am_chk am_w97 97) = true := by decide +kernel
theorem am_k97 : cd97.all (am_chk am_w97 97) = true := by
  simp only [cd97, List.all_append, kcd97_0, Bool.and_self]
theorem am_r97 : am_rtc 97 = 0 := by decide +kernel
theorem am_l97 : am_ml 97 = 4 := by decide +kernel
def am_s97_ (z : Nat) : Nat → List aV → aM → Option aR := fun j => (fun _ _ => none)
theorem hs97 (z : Nat) : ∀ j2 : Nat, ∃ d2 : Nat, d2 + 1 ≤ 1 ∧ am_Snd d2 j2 (am_s97_ z j2) := by
  intro j2
  unfold am_s97_
  exact ⟨0, by decide, am_Snd_no j2⟩
def f97_4 (z : Nat) : Nat → Int32 → Int32 → Int32 → aM → Option aR
  | 0, _, _, _, _ => none
  | n + 1, x1, x2, x3, M =>
    if (M.1 18 5) ≤ x3 then
      some (some (.inl x2), M)
    else
      if am_inB x1 13 then
        if am_inB x3 16 then
          f97_4 z n x1 (x2 + (M.1 (33 + (1 + 1 * x1.toNatClampNeg)) x3.toNatClampNeg)) (x3 + (1 : Int32)) M
        else
          none
      else
        none
set_option maxRecDepth 100000 in
set_option maxHeartbeats 4000000 in
theorem e97_4 (z : Nat) : ∀ (n : Nat) (x1 : Int32) (x2 : Int32) (x3 : Int32) (M : aM) (r : aR), f97_4 z n x1 x2 x3 M = some r → am_Ev 1 97 4 [some (.inr (.inr (10, 0))), some (.inl x1), some (.inl x2), some (.inl x3)] [] M r := by
  intro n
  induction n with
  | zero =>
    intro x1 x2 x3 M r h
    cases h
  | succ n ih =>
    intro x1 x2 x3 M r h
    exact am_Ev_seg (sem := am_s97_ z) (cut := ([(4, [true, true, true, true])] : List (Nat × List Bool))) (hs97 z) am_r97 am_k97 (by rw [am_l97]; decide) (fun pc al st M => (match Nat.beq pc 4 with
      | true => (match al, st with
        | [some (.inr (.inr (10, 0))), some (.inl x1), some (.inl x2), some (.inl x3)], [] => f97_4 z n x1 x2 x3 M
        | _, _ => none)
      | false => none)) 19 h (fun pc al st M hk => by
      try dsimp only at hk
      split at hk
      · rename_i he
        rw [am_beq he]
        split at hk
        · exact ih _ _ _ _ _ hk
        · cases hk
      · cases hk)
/-- ArgumentMender.together(I)I -/
def f97 (z : Nat) (x1 : Int32) (M : aM) : Option aR :=
  f97_4 z z x1 (0 : Int32) (0 : Int32) M
set_option maxRecDepth 100000 in
set_option maxHeartbeats 4000000 in
theorem e97 (z : Nat) : ∀ (x1 : Int32) (M : aM) (r : aR), f97 z x1 M = some r → am_Ev 1 97 0 [some (.inr (.inr (10, 0))), some (.inl x1), none, none] [] M r := by
  intro x1 M r h
  exact am_Ev_seg (sem := am_s97_ z) (cut := ([(4, [true, true, true, true])] : List (Nat × List Bool))) (hs97 z) am_r97 am_k97 (by rw [am_l97]; decide) (fun pc al st M => (match Nat.beq pc 4 with
      | true => (match al, st with
        | [some (.inr (.inr (10, 0))), some (.inl x1), some (.inl x2), some (.inl x3)], [] => f97_4 z z x1 x2 x3 M
        | _, _ => none)
      | false => none)) 6 h (fun pc al st M hk => by
      try dsimp only at hk
      split at hk
      · rename_i he
        rw [am_beq he]
        split at hk
        · exact e97_4 z _ _ _ _ _ _ hk
        · cases hk
      · cases hk)
def F97 (z : Nat) (as : List aV) (M : aM) : Option aR := match as with
  | [.inr (.inr (10, 0)), .inl x1] => f97 z x1 M
  | _ => none
theorem S97 (z : Nat) : am_Snd 1 97 (F97 z) := am_meth (by decide +kernel) (fun as M r has h => by
    rw [am_l97]
    unfold F97 at h
    split at h
    · exact ⟨Nat.le_of_ble_eq_true rfl, e97 z _ _ _ h⟩
    · cases h)
def cd96_0 : List am_E := [(0, .aload_n 0, 1, 0, 0, 0, 0), (1, .getfield 19, 3, 10, 1, 0, 0), (4, .iload_n 1, 1, 1, 0, 0, 0), (5, .invokevirtual 144, 3, 11, 1010, 0, 0), (8, .ifCond .eq 11, 3, 19, 0, 0, 0), (11, .aload_n 0, 1, 0, 0, 0, 0), (12, .iload_n 1, 1, 1, 0, 0, 0), (13, .invokevirtual 169, 3, 97, 10010, 0, 0), (16, .goto 5, 3, 21, 0, 0, 0), (19, .bipush (-2), 2, 0, 0, (-2), 0), (21, .ireturn, 1, 0, 0, 0, 0)]
def cd96 : List am_E := cd96_0
def am_w96 : List (List (Int32 × Nat) × Nat) := []
set_option maxRecDepth 100000 in
theorem kcd96_0 : cd96_0.all (am_chk am_w96 96) = true := by decide +kernel
theorem am_k96 : cd96.all (am_chk am_w96 96) = true := by
  simp only [cd96, List.all_append, kcd96_0, Bool.and_self]
theorem am_r96 : am_rtc 96 = 0 := by decide +kernel
theorem am_l96 : am_ml 96 = 2 := by decide +kernel
def am_s96_ (z : Nat) : Nat → List aV → aM → Option aR := fun j => (match Nat.beq j 11 with
  | true => F11 z
  | false => (match Nat.beq j 97 with
  | true => F97 z
  | false => (fun _ _ => none)))
theorem hs96 (z : Nat) : ∀ j2 : Nat, ∃ d2 : Nat, d2 + 1 ≤ 3 ∧ am_Snd d2 j2 (am_s96_ z j2) := by
  intro j2
  unfold am_s96_
  split
  · rename_i he
    rw [am_beq he]
    exact ⟨_, by decide, S11 z⟩
  · skip
    split
    · rename_i he
      rw [am_beq he]
      exact ⟨_, by decide, S97 z⟩
    · skip
      exact ⟨0, by decide, am_Snd_no j2⟩
/-- ArgumentMender.sum(I)I -/
def f96 (z : Nat) (x1 : Int32) (M : aM) : Option aR :=
  am_bi (f11 z 18 x1 M) fun v2 M1 =>
    if v2 = 0 then
      some (some (.inl (-2 : Int32)), M1)
    else
      am_bi (f97 z x1 M1) fun v4 M3 =>
        some (some (.inl v4), M3)
set_option maxRecDepth 100000 in
set_option maxHeartbeats 4000000 in
theorem e96 (z : Nat) : ∀ (x1 : Int32) (M : aM) (r : aR), f96 z x1 M = some r → am_Ev 3 96 0 [some (.inr (.inr (10, 0))), some (.inl x1)] [] M r := by
  intro x1 M r h
  exact am_Ev_seg (sem := am_s96_ z) (cut := ([] : List (Nat × List Bool))) (hs96 z) am_r96 am_k96 (by rw [am_l96]; decide) (fun _ _ _ _ => none) 11 h (fun _ _ _ _ hk => by cases hk)
def F96 (z : Nat) (as : List aV) (M : aM) : Option aR := match as with
  | [.inr (.inr (10, 0)), .inl x1] => f96 z x1 M
  | _ => none
theorem S96 (z : Nat) : am_Snd 3 96 (F96 z) := am_meth (by decide +kernel) (fun as M r has h => by
    rw [am_l96]
    unfold F96 at h
    split at h
    · exact ⟨Nat.le_of_ble_eq_true rfl, e96 z _ _ _ h⟩
    · cases h)
def cd98_0 : List am_E := [(0, .aload_n 0, 1, 0, 0, 0, 0), (1, .getfield 19, 3, 10, 1, 0, 0), (4, .iload_n 1, 1, 1, 0, 0, 0), (5, .invokevirtual 144, 3, 11, 1010, 0, 0), (8, .ifCond .ne 6, 3, 14, 0, 0, 0), (11, .bipush (-2), 2, 0, 0, (-2), 0), (13, .ireturn, 1, 0, 0, 0, 0), (14, .aload_n 0, 1, 0, 0, 0, 0), (15, .getfield 26, 3, 10, 2, 0, 0), (18, .getfield 147, 3, 9, 3, 0, 0), (21, .iload_n 1, 1, 1, 0, 0, 0), (22, .aaload, 1, 0, 0, 0, 0), (23, .astore_n 2, 1, 2, 0, 0, 0), (24, .iconst (-1), 1, 0, 0, (-1), 0), (25, .istore_n 3, 1, 3, 0, 0, 0), (26, .iconst 0, 1, 0, 0, 0, 0), (27, .istore 4, 2, 4, 0, 0, 0), (29, .iload 4, 2, 4, 0, 0, 0), (31, .aload_n 0, 1, 0, 0, 0, 0), (32, .getfield 19, 3, 10, 1, 0, 0), (35, .getfield 141, 3, 1, 5, 0, 0), (38, .if_icmp .ge 26, 3, 64, 0, 0, 0), (41, .iload_n 3, 1, 3, 0, 0, 0), (42, .ifCond .lt 13, 3, 55, 0, 0, 0), (45, .aload_n 2, 1, 2, 0, 0, 0), (46, .iload 4, 2, 4, 0, 0, 0), (48, .iaload, 1, 0, 0, 0, 0), (49, .aload_n 2, 1, 2, 0, 0, 0), (50, .iload_n 3, 1, 3, 0, 0, 0), (51, .iaload, 1, 0, 0, 0, 0), (52, .if_icmp .le 6, 3, 58, 0, 0, 0), (55, .iload 4, 2, 4, 0, 0, 0), (57, .istore_n 3, 1, 3, 0, 0, 0), (58, .iinc 4 1, 3, 4, 0, 1, 0), (61, .goto (-32), 3, 29, 0, 0, 0), (64, .iload_n 3, 1, 3, 0, 0, 0), (65, .ireturn, 1, 0, 0, 0, 0)]
def cd98 : List am_E := cd98_0
def am_w98 : List (List (Int32 × Nat) × Nat) := []
set_option maxRecDepth 100000 in
theorem kcd98_0 : cd98_0.all (am_chk am_w98 98) = true := by decide +kernel
theorem am_k98 : cd98.all (am_chk am_w98 98) = true := by
  simp only [cd98, List.all_append, kcd98_0, Bool.and_self]
theorem am_r98 : am_rtc 98 = 0 := by decide +kernel
theorem am_l98 : am_ml 98 = 5 := by decide +kernel
def am_s98_ (z : Nat) : Nat → List aV → aM → Option aR := fun j => (match Nat.beq j 11 with
  | true => F11 z
  | false => (fun _ _ => none))
theorem hs98 (z : Nat) : ∀ j2 : Nat, ∃ d2 : Nat, d2 + 1 ≤ 3 ∧ am_Snd d2 j2 (am_s98_ z j2) := by
  intro j2
  unfold am_s98_
  split
  · rename_i he
    rw [am_beq he]
    exact ⟨_, by decide, S11 z⟩
  · skip
    exact ⟨0, by decide, am_Snd_no j2⟩
def f98_29 (z : Nat) : Nat → Nat → Int32 → Int32 → aM → Option aR
  | 0, _, _, _, _ => none
  | n + 1, c2, x3, x4, M =>
    if (M.1 18 5) ≤ x4 then
      some (some (.inl x3), M)
    else
      if x3 < 0 then
        f98_29 z n c2 x4 (x4 + (1 : Int32)) M
      else
        if am_inB x4 16 then
          if am_inB x3 16 then
            if (M.1 c2 x4.toNatClampNeg) ≤ (M.1 c2 x3.toNatClampNeg) then
              f98_29 z n c2 x3 (x4 + (1 : Int32)) M
            else
              f98_29 z n c2 x4 (x4 + (1 : Int32)) M
          else
            none
        else
          none
set_option maxRecDepth 100000 in
set_option maxHeartbeats 4000000 in
theorem e98_29 (z : Nat) : ∀ (n : Nat) (c2 : Nat) (x3 : Int32) (x4 : Int32) (M : aM) (r : aR), f98_29 z n c2 x3 x4 M = some r → am_Ev 3 98 29 [some (.inr (.inr (10, 0))), none, some (.inr (.inr (21, c2))), some (.inl x3), some (.inl x4)] [] M r := by
  intro n
  induction n with
  | zero =>
    intro c2 x3 x4 M r h
    cases h
  | succ n ih =>
    intro c2 x3 x4 M r h
    exact am_Ev_seg (sem := am_s98_ z) (cut := ([(29, [true, false, true, true, true])] : List (Nat × List Bool))) (hs98 z) am_r98 am_k98 (by rw [am_l98]; decide) (fun pc al st M => (match Nat.beq pc 29 with
      | true => (match al, st with
        | [some (.inr (.inr (10, 0))), none, some (.inr (.inr (21, c2))), some (.inl x3), some (.inl x4)], [] => f98_29 z n c2 x3 x4 M
        | _, _ => none)
      | false => none)) 20 h (fun pc al st M hk => by
      try dsimp only at hk
      split at hk
      · rename_i he
        rw [am_beq he]
        split at hk
        · exact ih _ _ _ _ _ hk
        · cases hk
      · cases hk)
/-- ArgumentMender.strongest(I)I -/
def f98 (z : Nat) (x1 : Int32) (M : aM) : Option aR :=
  am_bi (f11 z 18 x1 M) fun v2 M1 =>
    if ¬ v2 = 0 then
      if am_inB x1 13 then
        f98_29 z z (33 + (1 + 1 * x1.toNatClampNeg)) (-1 : Int32) (0 : Int32) M1
      else
        none
    else
      some (some (.inl (-2 : Int32)), M1)
set_option maxRecDepth 100000 in
set_option maxHeartbeats 4000000 in
theorem e98 (z : Nat) : ∀ (x1 : Int32) (M : aM) (r : aR), f98 z x1 M = some r → am_Ev 3 98 0 [some (.inr (.inr (10, 0))), some (.inl x1), none, none, none] [] M r := by
  intro x1 M r h
  exact am_Ev_seg (sem := am_s98_ z) (cut := ([(29, [true, false, true, true, true])] : List (Nat × List Bool))) (hs98 z) am_r98 am_k98 (by rw [am_l98]; decide) (fun pc al st M => (match Nat.beq pc 29 with
      | true => (match al, st with
        | [some (.inr (.inr (10, 0))), none, some (.inr (.inr (21, c2))), some (.inl x3), some (.inl x4)], [] => f98_29 z z c2 x3 x4 M
        | _, _ => none)
      | false => none)) 17 h (fun pc al st M hk => by
      try dsimp only at hk
      split at hk
      · rename_i he
        rw [am_beq he]
        split at hk
        · exact e98_29 z _ _ _ _ _ _ hk
        · cases hk
      · cases hk)
def F98 (z : Nat) (as : List aV) (M : aM) : Option aR := match as with
  | [.inr (.inr (10, 0)), .inl x1] => f98 z x1 M
  | _ => none
theorem S98 (z : Nat) : am_Snd 3 98 (F98 z) := am_meth (by decide +kernel) (fun as M r has h => by
    rw [am_l98]
    unfold F98 at h
    split at h
    · exact ⟨Nat.le_of_ble_eq_true rfl, e98 z _ _ _ h⟩
    · cases h)
def cd99_0 : List am_E := [(0, .aload_n 0, 1, 0, 0, 0, 0), (1, .getfield 19, 3, 10, 1, 0, 0), (4, .iload_n 1, 1, 1, 0, 0, 0), (5, .invokevirtual 144, 3, 11, 1010, 0, 0), (8, .ifCond .ne 6, 3, 14, 0, 0, 0), (11, .bipush (-2), 2, 0, 0, (-2), 0), (13, .ireturn, 1, 0, 0, 0, 0), (14, .aload_n 0, 1, 0, 0, 0, 0), (15, .getfield 26, 3, 10, 2, 0, 0), (18, .getfield 147, 3, 9, 3, 0, 0), (21, .iload_n 1, 1, 1, 0, 0, 0), (22, .aaload, 1, 0, 0, 0, 0), (23, .astore_n 2, 1, 2, 0, 0, 0), (24, .iconst (-1), 1, 0, 0, (-1), 0), (25, .istore_n 3, 1, 3, 0, 0, 0), (26, .iconst 0, 1, 0, 0, 0, 0), (27, .istore 4, 2, 4, 0, 0, 0), (29, .iload 4, 2, 4, 0, 0, 0), (31, .aload_n 0, 1, 0, 0, 0, 0), (32, .getfield 19, 3, 10, 1, 0, 0), (35, .getfield 141, 3, 1, 5, 0, 0), (38, .if_icmp .ge 33, 3, 71, 0, 0, 0), (41, .aload_n 2, 1, 2, 0, 0, 0), (42, .iload 4, 2, 4, 0, 0, 0), (44, .iaload, 1, 0, 0, 0, 0), (45, .ifCond .le 20, 3, 65, 0, 0, 0), (48, .iload_n 3, 1, 3, 0, 0, 0), (49, .ifCond .lt 13, 3, 62, 0, 0, 0), (52, .aload_n 2, 1, 2, 0, 0, 0), (53, .iload 4, 2, 4, 0, 0, 0), (55, .iaload, 1, 0, 0, 0, 0), (56, .aload_n 2, 1, 2, 0, 0, 0), (57, .iload_n 3, 1, 3, 0, 0, 0), (58, .iaload, 1, 0, 0, 0, 0), (59, .if_icmp .ge 6, 3, 65, 0, 0, 0), (62, .iload 4, 2, 4, 0, 0, 0), (64, .istore_n 3, 1, 3, 0, 0, 0), (65, .iinc 4 1, 3, 4, 0, 1, 0), (68, .goto (-39), 3, 29, 0, 0, 0), (71, .iload_n 3, 1, 3, 0, 0, 0)]
def cd99_1 : List am_E := [(72, .ireturn, 1, 0, 0, 0, 0)]
def cd99 : List am_E := cd99_0 ++ (cd99_1)
def am_w99 : List (List (Int32 × Nat) × Nat) := []
set_option maxRecDepth 100000 in
theorem kcd99_0 : cd99_0.all (am_chk am_w99 99) = true := by decide +kernel
set_option maxRecDepth 100000 in
theorem kcd99_1 : cd99_1.all (am_chk am_w99 99) = true := by decide +kernel
theorem am_k99 : cd99.all (am_chk am_w99 99) = true := by
  simp only [cd99, List.all_append, kcd99_0, kcd99_1, Bool.and_self]
theorem am_r99 : am_rtc 99 = 0 := by decide +kernel
theorem am_l99 : am_ml 99 = 5 := by decide +kernel
def am_s99_ (z : Nat) : Nat → List aV → aM → Option aR := fun j => (match Nat.beq j 11 with
  | true => F11 z
  | false => (fun _ _ => none))
theorem hs99 (z : Nat) : ∀ j2 : Nat, ∃ d2 : Nat, d2 + 1 ≤ 3 ∧ am_Snd d2 j2 (am_s99_ z j2) := by
  intro j2
  unfold am_s99_
  split
  · rename_i he
    rw [am_beq he]
    exact ⟨_, by decide, S11 z⟩
  · skip
    exact ⟨0, by decide, am_Snd_no j2⟩
def f99_29 (z : Nat) : Nat → Nat → Int32 → Int32 → aM → Option aR
  | 0, _, _, _, _ => none
  | n + 1, c2, x3, x4, M =>
    if (M.1 18 5) ≤ x4 then
      some (some (.inl x3), M)
    else
      if am_inB x4 16 then
        if (M.1 c2 x4.toNatClampNeg) ≤ 0 then
          f99_29 z n c2 x3 (x4 + (1 : Int32)) M
        else
          if x3 < 0 then
            f99_29 z n c2 x4 (x4 + (1 : Int32)) M
          else
            if am_inB x4 16 then
              if am_inB x3 16 then
                if (M.1 c2 x3.toNatClampNeg) ≤ (M.1 c2 x4.toNatClampNeg) then
                  f99_29 z n c2 x3 (x4 + (1 : Int32)) M
                else
                  f99_29 z n c2 x4 (x4 + (1 : Int32)) M
              else
                none
            else
              none
      else
        none
set_option maxRecDepth 100000 in
set_option maxHeartbeats 4000000 in
theorem e99_29 (z : Nat) : ∀ (n : Nat) (c2 : Nat) (x3 : Int32) (x4 : Int32) (M : aM) (r : aR), f99_29 z n c2 x3 x4 M = some r → am_Ev 3 99 29 [some (.inr (.inr (10, 0))), none, some (.inr (.inr (21, c2))), some (.inl x3), some (.inl x4)] [] M r := by
  intro n
  induction n with
  | zero =>
    intro c2 x3 x4 M r h
    cases h
  | succ n ih =>
    intro c2 x3 x4 M r h
    exact am_Ev_seg (sem := am_s99_ z) (cut := ([(29, [true, false, true, true, true])] : List (Nat × List Bool))) (hs99 z) am_r99 am_k99 (by rw [am_l99]; decide) (fun pc al st M => (match Nat.beq pc 29 with
      | true => (match al, st with
        | [some (.inr (.inr (10, 0))), none, some (.inr (.inr (21, c2))), some (.inl x3), some (.inl x4)], [] => f99_29 z n c2 x3 x4 M
        | _, _ => none)
      | false => none)) 24 h (fun pc al st M hk => by
      try dsimp only at hk
      split at hk
      · rename_i he
        rw [am_beq he]
        split at hk
        · exact ih _ _ _ _ _ hk
        · cases hk
      · cases hk)
/-- ArgumentMender.weakest(I)I -/
def f99 (z : Nat) (x1 : Int32) (M : aM) : Option aR :=
  am_bi (f11 z 18 x1 M) fun v2 M1 =>
    if ¬ v2 = 0 then
      if am_inB x1 13 then
        f99_29 z z (33 + (1 + 1 * x1.toNatClampNeg)) (-1 : Int32) (0 : Int32) M1
      else
        none
    else
      some (some (.inl (-2 : Int32)), M1)
set_option maxRecDepth 100000 in
set_option maxHeartbeats 4000000 in
theorem e99 (z : Nat) : ∀ (x1 : Int32) (M : aM) (r : aR), f99 z x1 M = some r → am_Ev 3 99 0 [some (.inr (.inr (10, 0))), some (.inl x1), none, none, none] [] M r := by
  intro x1 M r h
  exact am_Ev_seg (sem := am_s99_ z) (cut := ([(29, [true, false, true, true, true])] : List (Nat × List Bool))) (hs99 z) am_r99 am_k99 (by rw [am_l99]; decide) (fun pc al st M => (match Nat.beq pc 29 with
      | true => (match al, st with
        | [some (.inr (.inr (10, 0))), none, some (.inr (.inr (21, c2))), some (.inl x3), some (.inl x4)], [] => f99_29 z z c2 x3 x4 M
        | _, _ => none)
      | false => none)) 17 h (fun pc al st M hk => by
      try dsimp only at hk
      split at hk
      · rename_i he
        rw [am_beq he]
        split at hk
        · exact e99_29 z _ _ _ _ _ _ hk
        · cases hk
      · cases hk)
def F99 (z : Nat) (as : List aV) (M : aM) : Option aR := match as with
  | [.inr (.inr (10, 0)), .inl x1] => f99 z x1 M
  | _ => none
theorem S99 (z : Nat) : am_Snd 3 99 (F99 z) := am_meth (by decide +kernel) (fun as M r has h => by
    rw [am_l99]
    unfold F99 at h
    split at h
    · exact ⟨Nat.le_of_ble_eq_true rfl, e99 z _ _ _ h⟩
    · cases h)
def cd100_0 : List am_E := [(0, .aload_n 0, 1, 0, 0, 0, 0), (1, .getfield 19, 3, 10, 1, 0, 0), (4, .iload_n 1, 1, 1, 0, 0, 0), (5, .invokevirtual 172, 3, 12, 1010, 0, 0), (8, .ifCond .ne 6, 3, 14, 0, 0, 0), (11, .ldc 175, 2, 0, 0, (-100000), 0), (13, .ireturn, 1, 0, 0, 0, 0), (14, .aload_n 0, 1, 0, 0, 0, 0), (15, .iload_n 1, 1, 1, 0, 0, 0), (16, .invokevirtual 169, 3, 97, 10010, 0, 0), (19, .aload_n 0, 1, 0, 0, 0, 0), (20, .iload_n 1, 1, 1, 0, 0, 0), (21, .iconst 1, 1, 0, 0, 1, 0), (22, .iadd, 1, 0, 0, 0, 0), (23, .invokevirtual 169, 3, 97, 10010, 0, 0), (26, .isub, 1, 0, 0, 0, 0), (27, .ireturn, 1, 0, 0, 0, 0)]
def cd100 : List am_E := cd100_0
def am_w100 : List (List (Int32 × Nat) × Nat) := []
set_option maxRecDepth 100000 in
theorem kcd100_0 : cd100_0.all (am_chk am_w100 100) = true := by decide +kernel
theorem am_k100 : cd100.all (am_chk am_w100 100) = true := by
  simp only [cd100, List.all_append, kcd100_0, Bool.and_self]
theorem am_r100 : am_rtc 100 = 0 := by decide +kernel
theorem am_l100 : am_ml 100 = 2 := by decide +kernel
def am_s100_ (z : Nat) : Nat → List aV → aM → Option aR := fun j => (match Nat.beq j 12 with
  | true => F12 z
  | false => (match Nat.beq j 97 with
  | true => F97 z
  | false => (fun _ _ => none)))
theorem hs100 (z : Nat) : ∀ j2 : Nat, ∃ d2 : Nat, d2 + 1 ≤ 3 ∧ am_Snd d2 j2 (am_s100_ z j2) := by
  intro j2
  unfold am_s100_
  split
  · rename_i he
    rw [am_beq he]
    exact ⟨_, by decide, S12 z⟩
  · skip
    split
    · rename_i he
      rw [am_beq he]
      exact ⟨_, by decide, S97 z⟩
    · skip
      exact ⟨0, by decide, am_Snd_no j2⟩
/-- ArgumentMender.loses(I)I -/
def f100 (z : Nat) (x1 : Int32) (M : aM) : Option aR :=
  am_bi (f12 z 18 x1 M) fun v2 M1 =>
    if ¬ v2 = 0 then
      am_bi (f97 z x1 M1) fun v4 M3 =>
        am_bi (f97 z (x1 + (1 : Int32)) M3) fun v6 M5 =>
          some (some (.inl (v4 - v6)), M5)
    else
      some (some (.inl (-100000 : Int32)), M1)
set_option maxRecDepth 100000 in
set_option maxHeartbeats 4000000 in
theorem e100 (z : Nat) : ∀ (x1 : Int32) (M : aM) (r : aR), f100 z x1 M = some r → am_Ev 3 100 0 [some (.inr (.inr (10, 0))), some (.inl x1)] [] M r := by
  intro x1 M r h
  exact am_Ev_seg (sem := am_s100_ z) (cut := ([] : List (Nat × List Bool))) (hs100 z) am_r100 am_k100 (by rw [am_l100]; decide) (fun _ _ _ _ => none) 16 h (fun _ _ _ _ hk => by cases hk)
def F100 (z : Nat) (as : List aV) (M : aM) : Option aR := match as with
  | [.inr (.inr (10, 0)), .inl x1] => f100 z x1 M
  | _ => none
theorem S100 (z : Nat) : am_Snd 3 100 (F100 z) := am_meth (by decide +kernel) (fun as M r has h => by
    rw [am_l100]
    unfold F100 at h
    split at h
    · exact ⟨Nat.le_of_ble_eq_true rfl, e100 z _ _ _ h⟩
    · cases h)
def cd101_0 : List am_E := [(0, .aload_n 0, 1, 0, 0, 0, 0), (1, .getfield 19, 3, 10, 1, 0, 0), (4, .iload_n 1, 1, 1, 0, 0, 0), (5, .invokevirtual 144, 3, 11, 1010, 0, 0), (8, .ifCond .ne 6, 3, 14, 0, 0, 0), (11, .bipush (-2), 2, 0, 0, (-2), 0), (13, .ireturn, 1, 0, 0, 0, 0), (14, .iconst 0, 1, 0, 0, 0, 0), (15, .istore_n 2, 1, 2, 0, 0, 0), (16, .iconst 0, 1, 0, 0, 0, 0), (17, .istore_n 3, 1, 3, 0, 0, 0), (18, .iload_n 3, 1, 3, 0, 0, 0), (19, .aload_n 0, 1, 0, 0, 0, 0), (20, .getfield 19, 3, 10, 1, 0, 0), (23, .getfield 154, 3, 1, 4, 0, 0), (26, .if_icmp .ge 40, 3, 66, 0, 0, 0), (29, .aload_n 0, 1, 0, 0, 0, 0), (30, .getfield 33, 3, 10, 3, 0, 0), (33, .aload_n 0, 1, 0, 0, 0, 0), (34, .getfield 19, 3, 10, 1, 0, 0), (37, .aload_n 0, 1, 0, 0, 0, 0), (38, .getfield 26, 3, 10, 2, 0, 0), (41, .getfield 147, 3, 9, 3, 0, 0), (44, .iload_n 1, 1, 1, 0, 0, 0), (45, .aaload, 1, 0, 0, 0, 0), (46, .iload_n 3, 1, 3, 0, 0, 0), (47, .invokevirtual 157, 3, 65, 8030, 0, 0), (50, .iconst 1, 1, 0, 0, 1, 0), (51, .if_icmp .ne 9, 3, 60, 0, 0, 0), (54, .iload_n 2, 1, 2, 0, 0, 0), (55, .iconst 1, 1, 0, 0, 1, 0), (56, .iload_n 3, 1, 3, 0, 0, 0), (57, .ishl, 1, 0, 0, 0, 0), (58, .ior, 1, 0, 0, 0, 0), (59, .istore_n 2, 1, 2, 0, 0, 0), (60, .iinc 3 1, 3, 3, 0, 1, 0), (63, .goto (-45), 3, 18, 0, 0, 0), (66, .iload_n 2, 1, 2, 0, 0, 0), (67, .ireturn, 1, 0, 0, 0, 0)]
def cd101 : List am_E := cd101_0
def am_w101 : List (List (Int32 × Nat) × Nat) := []
set_option maxRecDepth 100000 in
theorem kcd101_0 : cd101_0.all (am_chk am_w101 101) = true := by decide +kernel
theorem am_k101 : cd101.all (am_chk am_w101 101) = true := by
  simp only [cd101, List.all_append, kcd101_0, Bool.and_self]
theorem am_r101 : am_rtc 101 = 0 := by decide +kernel
theorem am_l101 : am_ml 101 = 4 := by decide +kernel
def am_s101_ (z : Nat) : Nat → List aV → aM → Option aR := fun j => (match Nat.beq j 11 with
  | true => F11 z
  | false => (match Nat.beq j 65 with
  | true => F65 z
  | false => (fun _ _ => none)))
theorem hs101 (z : Nat) : ∀ j2 : Nat, ∃ d2 : Nat, d2 + 1 ≤ 3 ∧ am_Snd d2 j2 (am_s101_ z j2) := by
  intro j2
  unfold am_s101_
  split
  · rename_i he
    rw [am_beq he]
    exact ⟨_, by decide, S11 z⟩
  · skip
    split
    · rename_i he
      rw [am_beq he]
      exact ⟨_, by decide, S65 z⟩
    · skip
      exact ⟨0, by decide, am_Snd_no j2⟩
def f101_18 (z : Nat) : Nat → Int32 → Int32 → Int32 → aM → Option aR
  | 0, _, _, _, _ => none
  | n + 1, x1, x2, x3, M =>
    if (M.1 18 4) ≤ x3 then
      some (some (.inl x2), M)
    else
      if am_inB x1 13 then
        am_bi (f65 z 67 18 (33 + (1 + 1 * x1.toNatClampNeg)) x3 M) fun v2 M1 =>
          if ¬ v2 = (1 : Int32) then
            f101_18 z n x1 x2 (x3 + (1 : Int32)) M1
          else
            f101_18 z n x1 (x2 ||| ((1 : Int32) <<< (x3 &&& 31))) (x3 + (1 : Int32)) M1
      else
        none
set_option maxRecDepth 100000 in
set_option maxHeartbeats 4000000 in
theorem e101_18 (z : Nat) : ∀ (n : Nat) (x1 : Int32) (x2 : Int32) (x3 : Int32) (M : aM) (r : aR), f101_18 z n x1 x2 x3 M = some r → am_Ev 3 101 18 [some (.inr (.inr (10, 0))), some (.inl x1), some (.inl x2), some (.inl x3)] [] M r := by
  intro n
  induction n with
  | zero =>
    intro x1 x2 x3 M r h
    cases h
  | succ n ih =>
    intro x1 x2 x3 M r h
    exact am_Ev_seg (sem := am_s101_ z) (cut := ([(18, [true, true, true, true])] : List (Nat × List Bool))) (hs101 z) am_r101 am_k101 (by rw [am_l101]; decide) (fun pc al st M => (match Nat.beq pc 18 with
      | true => (match al, st with
        | [some (.inr (.inr (10, 0))), some (.inl x1), some (.inl x2), some (.inl x3)], [] => f101_18 z n x1 x2 x3 M
        | _, _ => none)
      | false => none)) 28 h (fun pc al st M hk => by
      try dsimp only at hk
      split at hk
      · rename_i he
        rw [am_beq he]
        split at hk
        · exact ih _ _ _ _ _ hk
        · cases hk
      · cases hk)
/-- ArgumentMender.bare(I)I -/
def f101 (z : Nat) (x1 : Int32) (M : aM) : Option aR :=
  am_bi (f11 z 18 x1 M) fun v2 M1 =>
    if ¬ v2 = 0 then
      f101_18 z z x1 (0 : Int32) (0 : Int32) M1
    else
      some (some (.inl (-2 : Int32)), M1)
set_option maxRecDepth 100000 in
set_option maxHeartbeats 4000000 in
theorem e101 (z : Nat) : ∀ (x1 : Int32) (M : aM) (r : aR), f101 z x1 M = some r → am_Ev 3 101 0 [some (.inr (.inr (10, 0))), some (.inl x1), none, none] [] M r := by
  intro x1 M r h
  exact am_Ev_seg (sem := am_s101_ z) (cut := ([(18, [true, true, true, true])] : List (Nat × List Bool))) (hs101 z) am_r101 am_k101 (by rw [am_l101]; decide) (fun pc al st M => (match Nat.beq pc 18 with
      | true => (match al, st with
        | [some (.inr (.inr (10, 0))), some (.inl x1), some (.inl x2), some (.inl x3)], [] => f101_18 z z x1 x2 x3 M
        | _, _ => none)
      | false => none)) 11 h (fun pc al st M hk => by
      try dsimp only at hk
      split at hk
      · rename_i he
        rw [am_beq he]
        split at hk
        · exact e101_18 z _ _ _ _ _ _ hk
        · cases hk
      · cases hk)
def F101 (z : Nat) (as : List aV) (M : aM) : Option aR := match as with
  | [.inr (.inr (10, 0)), .inl x1] => f101 z x1 M
  | _ => none
theorem S101 (z : Nat) : am_Snd 3 101 (F101 z) := am_meth (by decide +kernel) (fun as M r has h => by
    rw [am_l101]
    unfold F101 at h
    split at h
    · exact ⟨Nat.le_of_ble_eq_true rfl, e101 z _ _ _ h⟩
    · cases h)
