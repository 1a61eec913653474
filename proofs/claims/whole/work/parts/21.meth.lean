def cd303_0 : List am_E := [(0, .iload 4, 2, 4, 0, 0, 0), (2, .ifCond .ne 7, 3, 9, 0, 0, 0), (5, .lload_n 0, 1, 0, 0, 0, 0), (6, .goto 4, 3, 10, 0, 0, 0), (9, .lload_n 2, 1, 2, 0, 0, 0), (10, .lload_n 0, 1, 0, 0, 0, 0), (11, .lload_n 2, 1, 2, 0, 0, 0), (12, .invokestatic 457, 3, 302, 27, 0, 0), (15, .ldiv, 1, 0, 0, 0, 0), (16, .lreturn, 1, 0, 0, 0, 0)]
def cd303 : List am_E := cd303_0
def am_w303 : List (List (Int32 × Nat) × Nat) := []
set_option maxRecDepth 100000 in
theorem kcd303_0 : cd303_0.all (am_chk am_w303 303) = true := by decide +kernel
theorem am_k303 : cd303.all (am_chk am_w303 303) = true := by
  simp only [cd303, List.all_append, kcd303_0, Bool.and_self]
theorem am_r303 : am_rtc 303 = 2 := by decide +kernel
theorem am_l303 : am_ml 303 = 5 := by decide +kernel
def am_s303_ (z : Nat) : Nat → List aV → aM → Option aR := fun j => (match Nat.beq j 302 with
  | true => F302 z
  | false => (fun _ _ => none))
theorem hs303 (z : Nat) : ∀ j2 : Nat, ∃ d2 : Nat, d2 + 1 ≤ 2 ∧ am_Snd d2 j2 (am_s303_ z j2) := by
  intro j2
  unfold am_s303_
  split
  · rename_i he
    rw [am_beq he]
    exact ⟨_, by decide, S302 z⟩
  · skip
    exact ⟨0, by decide, am_Snd_no j2⟩
/-- ArgumentMenderModel.part(JJI)J -/
def f303 (z : Nat) (y0 : Int64) (y2 : Int64) (x4 : Int32) (M : aM) : Option aR :=
  if ¬ x4 = 0 then
    am_bl (f302 z y0 y2 M) fun v2 M1 =>
      if v2 = 0 then
        none
      else
        some (some (.inr (.inl (y2 / v2))), M1)
  else
    am_bl (f302 z y0 y2 M) fun v4 M3 =>
      if v4 = 0 then
        none
      else
        some (some (.inr (.inl (y0 / v4))), M3)
set_option maxRecDepth 100000 in
set_option maxHeartbeats 4000000 in
theorem e303 (z : Nat) : ∀ (y0 : Int64) (y2 : Int64) (x4 : Int32) (M : aM) (r : aR), f303 z y0 y2 x4 M = some r → am_Ev 2 303 0 [some (.inr (.inl y0)), none, some (.inr (.inl y2)), none, some (.inl x4)] [] M r := by
  intro y0 y2 x4 M r h
  exact am_Ev_seg (sem := am_s303_ z) (cut := ([] : List (Nat × List Bool))) (hs303 z) am_r303 am_k303 (by rw [am_l303]; decide) (fun _ _ _ _ => none) 10 h (fun _ _ _ _ hk => by cases hk)
def F303 (z : Nat) (as : List aV) (M : aM) : Option aR := match as with
  | [.inr (.inl y0), .inr (.inl y2), .inl x4] => f303 z y0 y2 x4 M
  | _ => none
theorem S303 (z : Nat) : am_Snd 2 303 (F303 z) := am_meth (by decide +kernel) (fun as M r has h => by
    rw [am_l303]
    unfold F303 at h
    split at h
    · exact ⟨Nat.le_of_ble_eq_true rfl, e303 z _ _ _ _ _ h⟩
    · cases h)
def cd304_0 : List am_E := [(0, .aload_n 0, 1, 0, 0, 0, 0), (1, .invokevirtual 329, 3, 211, 11004, 0, 0), (4, .aload_n 0, 1, 0, 0, 0, 0), (5, .iload_n 1, 1, 1, 0, 0, 0), (6, .i2l, 1, 0, 0, 0, 0), (7, .invokevirtual 241, 3, 183, 11010, 0, 0), (10, .ifCond .eq 19, 3, 29, 0, 0, 0), (13, .iload_n 1, 1, 1, 0, 0, 0), (14, .bipush 8, 2, 0, 0, 8, 0), (16, .if_icmp .ge 13, 3, 29, 0, 0, 0), (19, .iload_n 2, 1, 2, 0, 0, 0), (20, .i2l, 1, 0, 0, 0, 0), (21, .lconst 0, 1, 0, 0, 0, 0), (22, .lconst 1, 1, 0, 0, 0, 1), (23, .invokestatic 103, 3, 170, 35, 0, 0), (26, .ifCond .ne 7, 3, 33, 0, 0, 0), (29, .sipush (-1000), 3, 0, 0, (-1000), 0), (32, .ireturn, 1, 0, 0, 0, 0), (33, .bipush 8, 2, 0, 0, 8, 0), (35, .aload_n 0, 1, 0, 0, 0, 0), (36, .invokevirtual 118, 3, 178, 11000, 0, 0), (39, .invokestatic 155, 3, 0, 2, 0, 0), (42, .istore_n 3, 1, 3, 0, 0, 0), (43, .ldc_w 461, 3, 0, 0, 65536, 0), (46, .iconst 1, 1, 0, 0, 1, 0), (47, .iload_n 3, 1, 3, 0, 0, 0), (48, .ishl, 1, 0, 0, 0, 0), (49, .isub, 1, 0, 0, 0, 0), (50, .istore 4, 2, 4, 0, 0, 0), (52, .iconst 0, 1, 0, 0, 0, 0), (53, .istore 5, 2, 5, 0, 0, 0), (55, .iload 5, 2, 5, 0, 0, 0), (57, .iconst 1, 1, 0, 0, 1, 0), (58, .iload_n 3, 1, 3, 0, 0, 0), (59, .ishl, 1, 0, 0, 0, 0), (60, .if_icmp .ge 25, 3, 85, 0, 0, 0), (63, .aload_n 0, 1, 0, 0, 0, 0), (64, .getfield 82, 3, 11, 41, 0, 0), (67, .iload 5, 2, 5, 0, 0, 0), (69, .aload_n 0, 1, 0, 0, 0, 0)]
def cd304_1 : List am_E := [(70, .iload 5, 2, 5, 0, 0, 0), (72, .iload 4, 2, 4, 0, 0, 0), (74, .ior, 1, 0, 0, 0, 0), (75, .invokevirtual 450, 3, 299, 11010, 0, 0), (78, .iastore, 1, 0, 0, 0, 0), (79, .iinc 5 1, 3, 5, 0, 1, 0), (82, .goto (-27), 3, 55, 0, 0, 0), (85, .lconst 0, 1, 0, 0, 0, 0), (86, .lstore 5, 2, 5, 0, 0, 0), (88, .iconst 0, 1, 0, 0, 0, 0), (89, .istore 7, 2, 7, 0, 0, 0), (91, .iload 7, 2, 7, 0, 0, 0), (93, .iconst 1, 1, 0, 0, 1, 0), (94, .iload_n 3, 1, 3, 0, 0, 0), (95, .ishl, 1, 0, 0, 0, 0), (96, .if_icmp .ge 67, 3, 163, 0, 0, 0), (99, .iload 7, 2, 7, 0, 0, 0), (101, .iload_n 1, 1, 1, 0, 0, 0), (102, .invokestatic 300, 3, 172, 25, 0, 0), (105, .ifCond .ne 52, 3, 157, 0, 0, 0), (108, .lload 5, 2, 5, 0, 0, 0), (110, .iload 7, 2, 7, 0, 0, 0), (112, .invokestatic 372, 3, 171, 15, 0, 0), (115, .invokestatic 462, 3, 301, 15, 0, 0), (118, .i2l, 1, 0, 0, 0, 0), (119, .iload_n 3, 1, 3, 0, 0, 0), (120, .iconst 1, 1, 0, 0, 1, 0), (121, .isub, 1, 0, 0, 0, 0), (122, .iload 7, 2, 7, 0, 0, 0), (124, .invokestatic 372, 3, 171, 15, 0, 0), (127, .isub, 1, 0, 0, 0, 0), (128, .invokestatic 462, 3, 301, 15, 0, 0), (131, .i2l, 1, 0, 0, 0, 0), (132, .lmul, 1, 0, 0, 0, 0), (133, .aload_n 0, 1, 0, 0, 0, 0), (134, .getfield 82, 3, 11, 41, 0, 0), (137, .iload 7, 2, 7, 0, 0, 0), (139, .iconst 1, 1, 0, 0, 1, 0), (140, .iload_n 1, 1, 1, 0, 0, 0), (141, .ishl, 1, 0, 0, 0, 0)]
def cd304_2 : List am_E := [(142, .ior, 1, 0, 0, 0, 0), (143, .iaload, 1, 0, 0, 0, 0), (144, .aload_n 0, 1, 0, 0, 0, 0), (145, .getfield 82, 3, 11, 41, 0, 0), (148, .iload 7, 2, 7, 0, 0, 0), (150, .iaload, 1, 0, 0, 0, 0), (151, .isub, 1, 0, 0, 0, 0), (152, .i2l, 1, 0, 0, 0, 0), (153, .lmul, 1, 0, 0, 0, 0), (154, .ladd, 1, 0, 0, 0, 0), (155, .lstore 5, 2, 5, 0, 0, 0), (157, .iinc 7 1, 3, 7, 0, 1, 0), (160, .goto (-69), 3, 91, 0, 0, 0), (163, .lload 5, 2, 5, 0, 0, 0), (165, .iload_n 3, 1, 3, 0, 0, 0), (166, .invokestatic 462, 3, 301, 15, 0, 0), (169, .i2l, 1, 0, 0, 0, 0), (170, .iload_n 2, 1, 2, 0, 0, 0), (171, .invokestatic 465, 3, 303, 37, 0, 0), (174, .l2i, 1, 0, 0, 0, 0), (175, .ireturn, 1, 0, 0, 0, 0)]
def cd304 : List am_E := cd304_0 ++ (cd304_1 ++ (cd304_2))
def am_w304 : List (List (Int32 × Nat) × Nat) := []
set_option maxRecDepth 100000 in
theorem kcd304_0 : cd304_0.all (am_chk am_w304 304) = true := by decide +kernel
set_option maxRecDepth 100000 in
theorem kcd304_1 : cd304_1.all (am_chk am_w304 304) = true := by decide +kernel
set_option maxRecDepth 100000 in
theorem kcd304_2 : cd304_2.all (am_chk am_w304 304) = true := by decide +kernel
theorem am_k304 : cd304.all (am_chk am_w304 304) = true := by
  simp only [cd304, List.all_append, kcd304_0, kcd304_1, kcd304_2, Bool.and_self]
theorem am_r304 : am_rtc 304 = 0 := by decide +kernel
theorem am_l304 : am_ml 304 = 8 := by decide +kernel
def am_s304_ (z : Nat) : Nat → List aV → aM → Option aR := fun j => (match Nat.beq j 170 with
  | true => F170 z
  | false => (match Nat.beq j 171 with
  | true => F171 z
  | false => (match Nat.beq j 172 with
  | true => F172 z
  | false => (match Nat.beq j 178 with
  | true => F178 z
  | false => (match Nat.beq j 183 with
  | true => F183 z
  | false => (match Nat.beq j 211 with
  | true => F211 z
  | false => (match Nat.beq j 299 with
  | true => F299 z
  | false => (match Nat.beq j 301 with
  | true => F301 z
  | false => (match Nat.beq j 303 with
  | true => F303 z
  | false => (fun _ _ => none))))))))))
theorem hs304 (z : Nat) : ∀ j2 : Nat, ∃ d2 : Nat, d2 + 1 ≤ 11 ∧ am_Snd d2 j2 (am_s304_ z j2) := by
  intro j2
  unfold am_s304_
  split
  · rename_i he
    rw [am_beq he]
    exact ⟨_, by decide, S170 z⟩
  · skip
    split
    · rename_i he
      rw [am_beq he]
      exact ⟨_, by decide, S171 z⟩
    · skip
      split
      · rename_i he
        rw [am_beq he]
        exact ⟨_, by decide, S172 z⟩
      · skip
        split
        · rename_i he
          rw [am_beq he]
          exact ⟨_, by decide, S178 z⟩
        · skip
          split
          · rename_i he
            rw [am_beq he]
            exact ⟨_, by decide, S183 z⟩
          · skip
            split
            · rename_i he
              rw [am_beq he]
              exact ⟨_, by decide, S211 z⟩
            · skip
              split
              · rename_i he
                rw [am_beq he]
                exact ⟨_, by decide, S299 z⟩
              · skip
                split
                · rename_i he
                  rw [am_beq he]
                  exact ⟨_, by decide, S301 z⟩
                · skip
                  split
                  · rename_i he
                    rw [am_beq he]
                    exact ⟨_, by decide, S303 z⟩
                  · skip
                    exact ⟨0, by decide, am_Snd_no j2⟩
def f304_91 (z : Nat) : Nat → Int32 → Int32 → Int32 → Int64 → Int32 → aM → Option aR
  | 0, _, _, _, _, _, _ => none
  | n + 1, x1, x2, x3, y5, x7, M =>
    if ((1 : Int32) <<< (x3 &&& 31)) ≤ x7 then
      am_bi (f301 z x3 M) fun v2 M1 =>
        am_bl (f303 z y5 (Int32.toInt64 v2) x2 M1) fun v4 M3 =>
          some (some (.inl (Int64.toInt32 v4)), M3)
    else
      am_bi (f172 z x7 x1 M) fun v6 M5 =>
        if ¬ v6 = 0 then
          f304_91 z n x1 x2 x3 y5 (x7 + (1 : Int32)) M5
        else
          am_bi (f171 z x7 M5) fun v8 M7 =>
            am_bi (f301 z v8 M7) fun v10 M9 =>
              am_bi (f171 z x7 M9) fun v12 M11 =>
                am_bi (f301 z ((x3 - (1 : Int32)) - v12) M11) fun v14 M13 =>
                  if am_inB (x7 ||| ((1 : Int32) <<< (x1 &&& 31))) 256 then
                    if am_inB x7 256 then
                      f304_91 z n x1 x2 x3 (y5 + (((Int32.toInt64 v10) * (Int32.toInt64 v14)) * (Int32.toInt64 ((M13.1 228 (x7 ||| ((1 : Int32) <<< (x1 &&& 31))).toNatClampNeg) - (M13.1 228 x7.toNatClampNeg))))) (x7 + (1 : Int32)) M13
                    else
                      none
                  else
                    none
set_option maxRecDepth 100000 in
set_option maxHeartbeats 4000000 in
theorem e304_91 (z : Nat) : ∀ (n : Nat) (x1 : Int32) (x2 : Int32) (x3 : Int32) (y5 : Int64) (x7 : Int32) (M : aM) (r : aR), f304_91 z n x1 x2 x3 y5 x7 M = some r → am_Ev 11 304 91 [some (.inr (.inr (11, 205))), some (.inl x1), some (.inl x2), some (.inl x3), none, some (.inr (.inl y5)), none, some (.inl x7)] [] M r := by
  intro n
  induction n with
  | zero =>
    intro x1 x2 x3 y5 x7 M r h
    cases h
  | succ n ih =>
    intro x1 x2 x3 y5 x7 M r h
    exact am_Ev_seg (sem := am_s304_ z) (cut := ([(91, [true, true, true, true, false, true, false, true])] : List (Nat × List Bool))) (hs304 z) am_r304 am_k304 (by rw [am_l304]; decide) (fun pc al st M => (match Nat.beq pc 91 with
      | true => (match al, st with
        | [some (.inr (.inr (11, 205))), some (.inl x1), some (.inl x2), some (.inl x3), none, some (.inr (.inl y5)), none, some (.inl x7)], [] => f304_91 z n x1 x2 x3 y5 x7 M
        | _, _ => none)
      | false => none)) 44 h (fun pc al st M hk => by
      try dsimp only at hk
      split at hk
      · rename_i he
        rw [am_beq he]
        split at hk
        · exact ih _ _ _ _ _ _ _ hk
        · cases hk
      · cases hk)
def f304_55 (z : Nat) : Nat → Int32 → Int32 → Int32 → Int32 → Int32 → aM → Option aR
  | 0, _, _, _, _, _, _ => none
  | n + 1, x1, x2, x3, x4, x5, M =>
    if ((1 : Int32) <<< (x3 &&& 31)) ≤ x5 then
      f304_91 z z x1 x2 x3 (0 : Int64) (0 : Int32) M
    else
      am_bi (f299 z (x5 ||| x4) M) fun v2 M1 =>
        if am_inB x5 256 then
          let I3 := am_u M1.1 228 x5.toNatClampNeg v2
          f304_55 z n x1 x2 x3 x4 (x5 + (1 : Int32)) (I3, M1.2)
        else
          none
set_option maxRecDepth 100000 in
set_option maxHeartbeats 4000000 in
theorem e304_55 (z : Nat) : ∀ (n : Nat) (x1 : Int32) (x2 : Int32) (x3 : Int32) (x4 : Int32) (x5 : Int32) (M : aM) (r : aR), f304_55 z n x1 x2 x3 x4 x5 M = some r → am_Ev 11 304 55 [some (.inr (.inr (11, 205))), some (.inl x1), some (.inl x2), some (.inl x3), some (.inl x4), some (.inl x5), none, none] [] M r := by
  intro n
  induction n with
  | zero =>
    intro x1 x2 x3 x4 x5 M r h
    cases h
  | succ n ih =>
    intro x1 x2 x3 x4 x5 M r h
    exact am_Ev_seg (sem := am_s304_ z) (cut := ([(55, [true, true, true, true, true, true, false, false]), (91, [true, true, true, true, false, true, false, true])] : List (Nat × List Bool))) (hs304 z) am_r304 am_k304 (by rw [am_l304]; decide) (fun pc al st M => (match Nat.beq pc 55 with
      | true => (match al, st with
        | [some (.inr (.inr (11, 205))), some (.inl x1), some (.inl x2), some (.inl x3), some (.inl x4), some (.inl x5), none, none], [] => f304_55 z n x1 x2 x3 x4 x5 M
        | _, _ => none)
      | false => (match Nat.beq pc 91 with
      | true => (match al, st with
        | [some (.inr (.inr (11, 205))), some (.inl x1), some (.inl x2), some (.inl x3), none, some (.inr (.inl y5)), none, some (.inl x7)], [] => f304_91 z z x1 x2 x3 y5 x7 M
        | _, _ => none)
      | false => none))) 18 h (fun pc al st M hk => by
      try dsimp only at hk
      split at hk
      · rename_i he
        rw [am_beq he]
        split at hk
        · exact ih _ _ _ _ _ _ _ hk
        · cases hk
      · skip
        split at hk
        · rename_i he
          rw [am_beq he]
          split at hk
          · exact e304_91 z _ _ _ _ _ _ _ _ hk
          · cases hk
        · cases hk)
/-- ArgumentMenderModel.share(II)I -/
def f304 (z : Nat) (x1 : Int32) (x2 : Int32) (M : aM) : Option aR :=
  am_bv (f211 z M) fun M1 =>
    am_bi (f183 z (Int32.toInt64 x1) M1) fun v3 M2 =>
      if v3 = 0 then
        some (some (.inl (-1000 : Int32)), M2)
      else
        if (8 : Int32) ≤ x1 then
          some (some (.inl (-1000 : Int32)), M2)
        else
          am_bi (f170 z (Int32.toInt64 x2) (0 : Int64) (1 : Int64) M2) fun v5 M4 =>
            if ¬ v5 = 0 then
              am_bi (f178 z M4) fun v7 M6 =>
                f304_55 z z x1 x2 (if v7 < (8 : Int32) then v7 else (8 : Int32)) ((65536 : Int32) - ((1 : Int32) <<< ((if v7 < (8 : Int32) then v7 else (8 : Int32)) &&& 31))) (0 : Int32) M6
            else
              some (some (.inl (-1000 : Int32)), M4)
set_option maxRecDepth 100000 in
set_option maxHeartbeats 4000000 in
theorem e304 (z : Nat) : ∀ (x1 : Int32) (x2 : Int32) (M : aM) (r : aR), f304 z x1 x2 M = some r → am_Ev 11 304 0 [some (.inr (.inr (11, 205))), some (.inl x1), some (.inl x2), none, none, none, none, none] [] M r := by
  intro x1 x2 M r h
  exact am_Ev_seg (sem := am_s304_ z) (cut := ([(55, [true, true, true, true, true, true, false, false])] : List (Nat × List Bool))) (hs304 z) am_r304 am_k304 (by rw [am_l304]; decide) (fun pc al st M => (match Nat.beq pc 55 with
      | true => (match al, st with
        | [some (.inr (.inr (11, 205))), some (.inl x1), some (.inl x2), some (.inl x3), some (.inl x4), some (.inl x5), none, none], [] => f304_55 z z x1 x2 x3 x4 x5 M
        | _, _ => none)
      | false => none)) 31 h (fun pc al st M hk => by
      try dsimp only at hk
      split at hk
      · rename_i he
        rw [am_beq he]
        split at hk
        · exact e304_55 z _ _ _ _ _ _ _ _ hk
        · cases hk
      · cases hk)
def F304 (z : Nat) (as : List aV) (M : aM) : Option aR := match as with
  | [.inr (.inr (11, 205)), .inl x1, .inl x2] => f304 z x1 x2 M
  | _ => none
theorem S304 (z : Nat) : am_Snd 11 304 (F304 z) := am_meth (by decide +kernel) (fun as M r has h => by
    rw [am_l304]
    unfold F304 at h
    split at h
    · exact ⟨Nat.le_of_ble_eq_true rfl, e304 z _ _ _ _ h⟩
    · cases h)
def cd305_0 : List am_E := [(0, .aload_n 0, 1, 0, 0, 0, 0), (1, .invokevirtual 329, 3, 211, 11004, 0, 0), (4, .aload_n 0, 1, 0, 0, 0, 0), (5, .dup, 1, 0, 0, 0, 0), (6, .getfield 268, 3, 11, 18, 0, 0), (9, .iload_n 3, 1, 3, 0, 0, 0), (10, .iload_n 1, 1, 1, 0, 0, 0), (11, .ishl, 1, 0, 0, 0, 0), (12, .iload 4, 2, 4, 0, 0, 0), (14, .iload_n 2, 1, 2, 0, 0, 0), (15, .ishl, 1, 0, 0, 0, 0), (16, .ior, 1, 0, 0, 0, 0), (17, .iconst (-1), 1, 0, 0, (-1), 0), (18, .ixor, 1, 0, 0, 0, 0), (19, .iand, 1, 0, 0, 0, 0), (20, .putfield 268, 3, 11, 18, 0, 0), (23, .aload_n 0, 1, 0, 0, 0, 0), (24, .invokevirtual 332, 3, 224, 11004, 0, 0), (27, .iload 5, 2, 5, 0, 0, 0), (29, .ifCond .ne 7, 3, 36, 0, 0, 0), (32, .iload_n 1, 1, 1, 0, 0, 0), (33, .goto 4, 3, 37, 0, 0, 0), (36, .iload_n 2, 1, 2, 0, 0, 0), (37, .istore 6, 2, 6, 0, 0, 0), (39, .aload_n 0, 1, 0, 0, 0, 0), (40, .iload 6, 2, 6, 0, 0, 0), (42, .invokevirtual 378, 3, 252, 11010, 0, 0), (45, .ifCond .ne 5, 3, 50, 0, 0, 0), (48, .iconst 0, 1, 0, 0, 0, 0), (49, .ireturn, 1, 0, 0, 0, 0), (50, .aload_n 0, 1, 0, 0, 0, 0), (51, .getfield 64, 3, 11, 32, 0, 0), (54, .iload 6, 2, 6, 0, 0, 0), (56, .iaload, 1, 0, 0, 0, 0), (57, .ifCond .le 7, 3, 64, 0, 0, 0), (60, .iconst 0, 1, 0, 0, 0, 0), (61, .goto 10, 3, 71, 0, 0, 0), (64, .aload_n 0, 1, 0, 0, 0, 0), (65, .iload 6, 2, 6, 0, 0, 0), (67, .iconst 1, 1, 0, 0, 1, 0)]
def cd305_1 : List am_E := [(68, .invokevirtual 249, 3, 187, 11020, 0, 0), (71, .bipush 20, 2, 0, 0, 20, 0), (73, .aload_n 0, 1, 0, 0, 0, 0), (74, .getfield 61, 3, 11, 31, 0, 0), (77, .iload 6, 2, 6, 0, 0, 0), (79, .iaload, 1, 0, 0, 0, 0), (80, .invokestatic 372, 3, 171, 15, 0, 0), (83, .imul, 1, 0, 0, 0, 0), (84, .isub, 1, 0, 0, 0, 0), (85, .ireturn, 1, 0, 0, 0, 0)]
def cd305 : List am_E := cd305_0 ++ (cd305_1)
def am_w305 : List (List (Int32 × Nat) × Nat) := []
set_option maxRecDepth 100000 in
theorem kcd305_0 : cd305_0.all (am_chk am_w305 305) = true := by decide +kernel
set_option maxRecDepth 100000 in
theorem kcd305_1 : cd305_1.all (am_chk am_w305 305) = true := by decide +kernel
theorem am_k305 : cd305.all (am_chk am_w305 305) = true := by
  simp only [cd305, List.all_append, kcd305_0, kcd305_1, Bool.and_self]
theorem am_r305 : am_rtc 305 = 0 := by decide +kernel
theorem am_l305 : am_ml 305 = 7 := by decide +kernel
def am_s305_ (z : Nat) : Nat → List aV → aM → Option aR := fun j => (match Nat.beq j 171 with
  | true => F171 z
  | false => (match Nat.beq j 187 with
  | true => F187 z
  | false => (match Nat.beq j 211 with
  | true => F211 z
  | false => (match Nat.beq j 224 with
  | true => F224 z
  | false => (match Nat.beq j 252 with
  | true => F252 z
  | false => (fun _ _ => none))))))
theorem hs305 (z : Nat) : ∀ j2 : Nat, ∃ d2 : Nat, d2 + 1 ≤ 10 ∧ am_Snd d2 j2 (am_s305_ z j2) := by
  intro j2
  unfold am_s305_
  split
  · rename_i he
    rw [am_beq he]
    exact ⟨_, by decide, S171 z⟩
  · skip
    split
    · rename_i he
      rw [am_beq he]
      exact ⟨_, by decide, S187 z⟩
    · skip
      split
      · rename_i he
        rw [am_beq he]
        exact ⟨_, by decide, S211 z⟩
      · skip
        split
        · rename_i he
          rw [am_beq he]
          exact ⟨_, by decide, S224 z⟩
        · skip
          split
          · rename_i he
            rw [am_beq he]
            exact ⟨_, by decide, S252 z⟩
          · skip
            exact ⟨0, by decide, am_Snd_no j2⟩
/-- ArgumentMenderModel.getsBy(IIIII)I -/
def f305 (z : Nat) (x1 : Int32) (x2 : Int32) (x3 : Int32) (x4 : Int32) (x5 : Int32) (M : aM) : Option aR :=
  am_bv (f211 z M) fun M1 =>
    let I2 := am_u M1.1 205 18 ((M1.1 205 18) &&& (((x3 <<< (x1 &&& 31)) ||| (x4 <<< (x2 &&& 31))) ^^^ (-1 : Int32)))
    am_bv (f224 z (I2, M1.2)) fun M3 =>
      if ¬ x5 = 0 then
        am_bi (f252 z x2 M3) fun v5 M4 =>
          if ¬ v5 = 0 then
            if am_inB x2 10 then
              if (M4.1 222 x2.toNatClampNeg) ≤ 0 then
                am_bi (f187 z x2 (1 : Int32) M4) fun v7 M6 =>
                  if am_inB x2 10 then
                    am_bi (f171 z (M6.1 221 x2.toNatClampNeg) M6) fun v9 M8 =>
                      some (some (.inl (v7 - ((20 : Int32) * v9))), M8)
                  else
                    none
              else
                if am_inB x2 10 then
                  am_bi (f171 z (M4.1 221 x2.toNatClampNeg) M4) fun v11 M10 =>
                    some (some (.inl ((0 : Int32) - ((20 : Int32) * v11))), M10)
                else
                  none
            else
              none
          else
            some (some (.inl (0 : Int32)), M4)
      else
        am_bi (f252 z x1 M3) fun v13 M12 =>
          if ¬ v13 = 0 then
            if am_inB x1 10 then
              if (M12.1 222 x1.toNatClampNeg) ≤ 0 then
                am_bi (f187 z x1 (1 : Int32) M12) fun v15 M14 =>
                  if am_inB x1 10 then
                    am_bi (f171 z (M14.1 221 x1.toNatClampNeg) M14) fun v17 M16 =>
                      some (some (.inl (v15 - ((20 : Int32) * v17))), M16)
                  else
                    none
              else
                if am_inB x1 10 then
                  am_bi (f171 z (M12.1 221 x1.toNatClampNeg) M12) fun v19 M18 =>
                    some (some (.inl ((0 : Int32) - ((20 : Int32) * v19))), M18)
                else
                  none
            else
              none
          else
            some (some (.inl (0 : Int32)), M12)
set_option maxRecDepth 100000 in
set_option maxHeartbeats 4000000 in
theorem e305 (z : Nat) : ∀ (x1 : Int32) (x2 : Int32) (x3 : Int32) (x4 : Int32) (x5 : Int32) (M : aM) (r : aR), f305 z x1 x2 x3 x4 x5 M = some r → am_Ev 10 305 0 [some (.inr (.inr (11, 205))), some (.inl x1), some (.inl x2), some (.inl x3), some (.inl x4), some (.inl x5), none] [] M r := by
  intro x1 x2 x3 x4 x5 M r h
  exact am_Ev_seg (sem := am_s305_ z) (cut := ([] : List (Nat × List Bool))) (hs305 z) am_r305 am_k305 (by rw [am_l305]; decide) (fun _ _ _ _ => none) 46 h (fun _ _ _ _ hk => by cases hk)
def F305 (z : Nat) (as : List aV) (M : aM) : Option aR := match as with
  | [.inr (.inr (11, 205)), .inl x1, .inl x2, .inl x3, .inl x4, .inl x5] => f305 z x1 x2 x3 x4 x5 M
  | _ => none
theorem S305 (z : Nat) : am_Snd 10 305 (F305 z) := am_meth (by decide +kernel) (fun as M r has h => by
    rw [am_l305]
    unfold F305 at h
    split at h
    · exact ⟨Nat.le_of_ble_eq_true rfl, e305 z _ _ _ _ _ _ _ h⟩
    · cases h)
def cd306_0 : List am_E := [(0, .aload_n 0, 1, 0, 0, 0, 0), (1, .iload_n 1, 1, 1, 0, 0, 0), (2, .invokevirtual 245, 3, 184, 11010, 0, 0), (5, .ifCond .eq 20, 3, 25, 0, 0, 0), (8, .aload_n 0, 1, 0, 0, 0, 0), (9, .iload_n 2, 1, 2, 0, 0, 0), (10, .invokevirtual 245, 3, 184, 11010, 0, 0), (13, .ifCond .eq 12, 3, 25, 0, 0, 0), (16, .iload_n 1, 1, 1, 0, 0, 0), (17, .iload_n 2, 1, 2, 0, 0, 0), (18, .if_icmp .eq 7, 3, 25, 0, 0, 0), (21, .iconst 1, 1, 0, 0, 1, 0), (22, .goto 4, 3, 26, 0, 0, 0), (25, .iconst 0, 1, 0, 0, 0, 0), (26, .ireturn, 1, 0, 0, 0, 0)]
def cd306 : List am_E := cd306_0
def am_w306 : List (List (Int32 × Nat) × Nat) := []
set_option maxRecDepth 100000 in
theorem kcd306_0 : cd306_0.all (am_chk am_w306 306) = true := by decide +kernel
theorem am_k306 : cd306.all (am_chk am_w306 306) = true := by
  simp only [cd306, List.all_append, kcd306_0, Bool.and_self]
theorem am_r306 : am_rtc 306 = 1 := by decide +kernel
theorem am_l306 : am_ml 306 = 3 := by decide +kernel
def am_s306_ (z : Nat) : Nat → List aV → aM → Option aR := fun j => (match Nat.beq j 184 with
  | true => F184 z
  | false => (fun _ _ => none))
theorem hs306 (z : Nat) : ∀ j2 : Nat, ∃ d2 : Nat, d2 + 1 ≤ 3 ∧ am_Snd d2 j2 (am_s306_ z j2) := by
  intro j2
  unfold am_s306_
  split
  · rename_i he
    rw [am_beq he]
    exact ⟨_, by decide, S184 z⟩
  · skip
    exact ⟨0, by decide, am_Snd_no j2⟩
/-- ArgumentMenderModel.areTwo(II)Z -/
def f306 (z : Nat) (x1 : Int32) (x2 : Int32) (M : aM) : Option aR :=
  am_bi (f184 z x1 M) fun v2 M1 =>
    if v2 = 0 then
      some (some (.inl ((0 : Int32) &&& 1)), M1)
    else
      am_bi (f184 z x2 M1) fun v4 M3 =>
        if v4 = 0 then
          some (some (.inl ((0 : Int32) &&& 1)), M3)
        else
          if x1 = x2 then
            some (some (.inl ((0 : Int32) &&& 1)), M3)
          else
            some (some (.inl ((1 : Int32) &&& 1)), M3)
set_option maxRecDepth 100000 in
set_option maxHeartbeats 4000000 in
theorem e306 (z : Nat) : ∀ (x1 : Int32) (x2 : Int32) (M : aM) (r : aR), f306 z x1 x2 M = some r → am_Ev 3 306 0 [some (.inr (.inr (11, 205))), some (.inl x1), some (.inl x2)] [] M r := by
  intro x1 x2 M r h
  exact am_Ev_seg (sem := am_s306_ z) (cut := ([] : List (Nat × List Bool))) (hs306 z) am_r306 am_k306 (by rw [am_l306]; decide) (fun _ _ _ _ => none) 15 h (fun _ _ _ _ hk => by cases hk)
def F306 (z : Nat) (as : List aV) (M : aM) : Option aR := match as with
  | [.inr (.inr (11, 205)), .inl x1, .inl x2] => f306 z x1 x2 M
  | _ => none
theorem S306 (z : Nat) : am_Snd 3 306 (F306 z) := am_meth (by decide +kernel) (fun as M r has h => by
    rw [am_l306]
    unfold F306 at h
    split at h
    · exact ⟨Nat.le_of_ble_eq_true rfl, e306 z _ _ _ _ h⟩
    · cases h)
def cd307_0 : List am_E := [(0, .aload_n 0, 1, 0, 0, 0, 0), (1, .iload_n 1, 1, 1, 0, 0, 0), (2, .iload_n 2, 1, 2, 0, 0, 0), (3, .invokevirtual 469, 3, 306, 11020, 0, 0), (6, .ifCond .ne 6, 3, 12, 0, 0, 0), (9, .bipush (-2), 2, 0, 0, (-2), 0), (11, .ireturn, 1, 0, 0, 0, 0), (12, .iconst 0, 1, 0, 0, 0, 0), (13, .istore_n 3, 1, 3, 0, 0, 0), (14, .iconst 0, 1, 0, 0, 0, 0), (15, .istore 4, 2, 4, 0, 0, 0), (17, .iload 4, 2, 4, 0, 0, 0), (19, .iconst 4, 1, 0, 0, 4, 0), (20, .if_icmp .ge 98, 3, 118, 0, 0, 0), (23, .iload 4, 2, 4, 0, 0, 0), (25, .iconst 1, 1, 0, 0, 1, 0), (26, .iand, 1, 0, 0, 0, 0), (27, .istore 5, 2, 5, 0, 0, 0), (29, .iload 4, 2, 4, 0, 0, 0), (31, .iconst 1, 1, 0, 0, 1, 0), (32, .ishr, 1, 0, 0, 0, 0), (33, .istore 6, 2, 6, 0, 0, 0), (35, .aload_n 0, 1, 0, 0, 0, 0), (36, .iload_n 1, 1, 1, 0, 0, 0), (37, .iload_n 2, 1, 2, 0, 0, 0), (38, .iload 5, 2, 5, 0, 0, 0), (40, .iload 6, 2, 6, 0, 0, 0), (42, .iconst 0, 1, 0, 0, 0, 0), (43, .invokevirtual 472, 3, 305, 11050, 0, 0), (46, .aload_n 0, 1, 0, 0, 0, 0), (47, .iload_n 1, 1, 1, 0, 0, 0), (48, .iload_n 2, 1, 2, 0, 0, 0), (49, .iconst 1, 1, 0, 0, 1, 0), (50, .iload 5, 2, 5, 0, 0, 0), (52, .isub, 1, 0, 0, 0, 0), (53, .iload 6, 2, 6, 0, 0, 0), (55, .iconst 0, 1, 0, 0, 0, 0), (56, .invokevirtual 472, 3, 305, 11050, 0, 0), (59, .if_icmp .lt 34, 3, 93, 0, 0, 0), (62, .aload_n 0, 1, 0, 0, 0, 0)]
def cd307_1 : List am_E := [(63, .iload_n 1, 1, 1, 0, 0, 0), (64, .iload_n 2, 1, 2, 0, 0, 0), (65, .iload 5, 2, 5, 0, 0, 0), (67, .iload 6, 2, 6, 0, 0, 0), (69, .iconst 1, 1, 0, 0, 1, 0), (70, .invokevirtual 472, 3, 305, 11050, 0, 0), (73, .aload_n 0, 1, 0, 0, 0, 0), (74, .iload_n 1, 1, 1, 0, 0, 0), (75, .iload_n 2, 1, 2, 0, 0, 0), (76, .iload 5, 2, 5, 0, 0, 0), (78, .iconst 1, 1, 0, 0, 1, 0), (79, .iload 6, 2, 6, 0, 0, 0), (81, .isub, 1, 0, 0, 0, 0), (82, .iconst 1, 1, 0, 0, 1, 0), (83, .invokevirtual 472, 3, 305, 11050, 0, 0), (86, .if_icmp .lt 7, 3, 93, 0, 0, 0), (89, .iconst 1, 1, 0, 0, 1, 0), (90, .goto 4, 3, 94, 0, 0, 0), (93, .iconst 0, 1, 0, 0, 0, 0), (94, .istore 7, 2, 7, 0, 0, 0), (96, .iload_n 3, 1, 3, 0, 0, 0), (97, .iload 7, 2, 7, 0, 0, 0), (99, .ifCond .eq 10, 3, 109, 0, 0, 0), (102, .iconst 1, 1, 0, 0, 1, 0), (103, .iload 4, 2, 4, 0, 0, 0), (105, .ishl, 1, 0, 0, 0, 0), (106, .goto 4, 3, 110, 0, 0, 0), (109, .iconst 0, 1, 0, 0, 0, 0), (110, .ior, 1, 0, 0, 0, 0), (111, .istore_n 3, 1, 3, 0, 0, 0), (112, .iinc 4 1, 3, 4, 0, 1, 0), (115, .goto (-98), 3, 17, 0, 0, 0), (118, .iload_n 3, 1, 3, 0, 0, 0), (119, .ireturn, 1, 0, 0, 0, 0)]
def cd307 : List am_E := cd307_0 ++ (cd307_1)
def am_w307 : List (List (Int32 × Nat) × Nat) := []
set_option maxRecDepth 100000 in
theorem kcd307_0 : cd307_0.all (am_chk am_w307 307) = true := by decide +kernel
set_option maxRecDepth 100000 in
theorem kcd307_1 : cd307_1.all (am_chk am_w307 307) = true := by decide +kernel
theorem am_k307 : cd307.all (am_chk am_w307 307) = true := by
  simp only [cd307, List.all_append, kcd307_0, kcd307_1, Bool.and_self]
theorem am_r307 : am_rtc 307 = 0 := by decide +kernel
theorem am_l307 : am_ml 307 = 8 := by decide +kernel
def am_s307_ (z : Nat) : Nat → List aV → aM → Option aR := fun j => (match Nat.beq j 305 with
  | true => F305 z
  | false => (match Nat.beq j 306 with
  | true => F306 z
  | false => (fun _ _ => none)))
theorem hs307 (z : Nat) : ∀ j2 : Nat, ∃ d2 : Nat, d2 + 1 ≤ 11 ∧ am_Snd d2 j2 (am_s307_ z j2) := by
  intro j2
  unfold am_s307_
  split
  · rename_i he
    rw [am_beq he]
    exact ⟨_, by decide, S305 z⟩
  · skip
    split
    · rename_i he
      rw [am_beq he]
      exact ⟨_, by decide, S306 z⟩
    · skip
      exact ⟨0, by decide, am_Snd_no j2⟩
def f307_17 (z : Nat) : Nat → Int32 → Int32 → Int32 → Int32 → aM → Option aR
  | 0, _, _, _, _, _ => none
  | n + 1, x1, x2, x3, x4, M =>
    if (4 : Int32) ≤ x4 then
      some (some (.inl x3), M)
    else
      am_bi (f305 z x1 x2 (x4 &&& (1 : Int32)) (x4 >>> ((1 : Int32) &&& 31)) (0 : Int32) M) fun v2 M1 =>
        am_bi (f305 z x1 x2 ((1 : Int32) - (x4 &&& (1 : Int32))) (x4 >>> ((1 : Int32) &&& 31)) (0 : Int32) M1) fun v4 M3 =>
          if v2 < v4 then
            if (0 : Int32) = 0 then
              f307_17 z n x1 x2 (x3 ||| (0 : Int32)) (x4 + (1 : Int32)) M3
            else
              f307_17 z n x1 x2 (x3 ||| ((1 : Int32) <<< (x4 &&& 31))) (x4 + (1 : Int32)) M3
          else
            am_bi (f305 z x1 x2 (x4 &&& (1 : Int32)) (x4 >>> ((1 : Int32) &&& 31)) (1 : Int32) M3) fun v6 M5 =>
              am_bi (f305 z x1 x2 (x4 &&& (1 : Int32)) ((1 : Int32) - (x4 >>> ((1 : Int32) &&& 31))) (1 : Int32) M5) fun v8 M7 =>
                if v6 < v8 then
                  if (0 : Int32) = 0 then
                    f307_17 z n x1 x2 (x3 ||| (0 : Int32)) (x4 + (1 : Int32)) M7
                  else
                    f307_17 z n x1 x2 (x3 ||| ((1 : Int32) <<< (x4 &&& 31))) (x4 + (1 : Int32)) M7
                else
                  if (1 : Int32) = 0 then
                    f307_17 z n x1 x2 (x3 ||| (0 : Int32)) (x4 + (1 : Int32)) M7
                  else
                    f307_17 z n x1 x2 (x3 ||| ((1 : Int32) <<< (x4 &&& 31))) (x4 + (1 : Int32)) M7
set_option maxRecDepth 100000 in
set_option maxHeartbeats 4000000 in
theorem e307_17 (z : Nat) : ∀ (n : Nat) (x1 : Int32) (x2 : Int32) (x3 : Int32) (x4 : Int32) (M : aM) (r : aR), f307_17 z n x1 x2 x3 x4 M = some r → am_Ev 11 307 17 [some (.inr (.inr (11, 205))), some (.inl x1), some (.inl x2), some (.inl x3), some (.inl x4), none, none, none] [] M r := by
  intro n
  induction n with
  | zero =>
    intro x1 x2 x3 x4 M r h
    cases h
  | succ n ih =>
    intro x1 x2 x3 x4 M r h
    exact am_Ev_seg (sem := am_s307_ z) (cut := ([(17, [true, true, true, true, true, false, false, false])] : List (Nat × List Bool))) (hs307 z) am_r307 am_k307 (by rw [am_l307]; decide) (fun pc al st M => (match Nat.beq pc 17 with
      | true => (match al, st with
        | [some (.inr (.inr (11, 205))), some (.inl x1), some (.inl x2), some (.inl x3), some (.inl x4), none, none, none], [] => f307_17 z n x1 x2 x3 x4 M
        | _, _ => none)
      | false => none)) 61 h (fun pc al st M hk => by
      try dsimp only at hk
      split at hk
      · rename_i he
        rw [am_beq he]
        split at hk
        · exact ih _ _ _ _ _ _ hk
        · cases hk
      · cases hk)
/-- ArgumentMenderModel.rests(II)I -/
def f307 (z : Nat) (x1 : Int32) (x2 : Int32) (M : aM) : Option aR :=
  am_bi (f306 z x1 x2 M) fun v2 M1 =>
    if ¬ v2 = 0 then
      f307_17 z z x1 x2 (0 : Int32) (0 : Int32) M1
    else
      some (some (.inl (-2 : Int32)), M1)
set_option maxRecDepth 100000 in
set_option maxHeartbeats 4000000 in
theorem e307 (z : Nat) : ∀ (x1 : Int32) (x2 : Int32) (M : aM) (r : aR), f307 z x1 x2 M = some r → am_Ev 11 307 0 [some (.inr (.inr (11, 205))), some (.inl x1), some (.inl x2), none, none, none, none, none] [] M r := by
  intro x1 x2 M r h
  exact am_Ev_seg (sem := am_s307_ z) (cut := ([(17, [true, true, true, true, true, false, false, false])] : List (Nat × List Bool))) (hs307 z) am_r307 am_k307 (by rw [am_l307]; decide) (fun pc al st M => (match Nat.beq pc 17 with
      | true => (match al, st with
        | [some (.inr (.inr (11, 205))), some (.inl x1), some (.inl x2), some (.inl x3), some (.inl x4), none, none, none], [] => f307_17 z z x1 x2 x3 x4 M
        | _, _ => none)
      | false => none)) 11 h (fun pc al st M hk => by
      try dsimp only at hk
      split at hk
      · rename_i he
        rw [am_beq he]
        split at hk
        · exact e307_17 z _ _ _ _ _ _ _ hk
        · cases hk
      · cases hk)
def F307 (z : Nat) (as : List aV) (M : aM) : Option aR := match as with
  | [.inr (.inr (11, 205)), .inl x1, .inl x2] => f307 z x1 x2 M
  | _ => none
theorem S307 (z : Nat) : am_Snd 11 307 (F307 z) := am_meth (by decide +kernel) (fun as M r has h => by
    rw [am_l307]
    unfold F307 at h
    split at h
    · exact ⟨Nat.le_of_ble_eq_true rfl, e307 z _ _ _ _ h⟩
    · cases h)
def cd308_0 : List am_E := [(0, .aload_n 0, 1, 0, 0, 0, 0), (1, .iload_n 1, 1, 1, 0, 0, 0), (2, .iload_n 2, 1, 2, 0, 0, 0), (3, .invokevirtual 469, 3, 306, 11020, 0, 0), (6, .ifCond .eq 37, 3, 43, 0, 0, 0), (9, .iload_n 3, 1, 3, 0, 0, 0), (10, .i2l, 1, 0, 0, 0, 0), (11, .lconst 0, 1, 0, 0, 0, 0), (12, .lconst 1, 1, 0, 0, 0, 1), (13, .invokestatic 103, 3, 170, 35, 0, 0), (16, .ifCond .eq 27, 3, 43, 0, 0, 0), (19, .iload 4, 2, 4, 0, 0, 0), (21, .i2l, 1, 0, 0, 0, 0), (22, .lconst 0, 1, 0, 0, 0, 0), (23, .lconst 1, 1, 0, 0, 0, 1), (24, .invokestatic 103, 3, 170, 35, 0, 0), (27, .ifCond .eq 16, 3, 43, 0, 0, 0), (30, .aload_n 0, 1, 0, 0, 0, 0), (31, .iload_n 1, 1, 1, 0, 0, 0), (32, .iload_n 2, 1, 2, 0, 0, 0), (33, .iload_n 3, 1, 3, 0, 0, 0), (34, .iload 4, 2, 4, 0, 0, 0), (36, .iconst 0, 1, 0, 0, 0, 0), (37, .invokevirtual 472, 3, 305, 11050, 0, 0), (40, .goto 6, 3, 46, 0, 0, 0), (43, .sipush (-1000), 3, 0, 0, (-1000), 0), (46, .ireturn, 1, 0, 0, 0, 0)]
def cd308 : List am_E := cd308_0
def am_w308 : List (List (Int32 × Nat) × Nat) := []
set_option maxRecDepth 100000 in
theorem kcd308_0 : cd308_0.all (am_chk am_w308 308) = true := by decide +kernel
theorem am_k308 : cd308.all (am_chk am_w308 308) = true := by
  simp only [cd308, List.all_append, kcd308_0, Bool.and_self]
theorem am_r308 : am_rtc 308 = 0 := by decide +kernel
theorem am_l308 : am_ml 308 = 5 := by decide +kernel
def am_s308_ (z : Nat) : Nat → List aV → aM → Option aR := fun j => (match Nat.beq j 170 with
  | true => F170 z
  | false => (match Nat.beq j 305 with
  | true => F305 z
  | false => (match Nat.beq j 306 with
  | true => F306 z
  | false => (fun _ _ => none))))
theorem hs308 (z : Nat) : ∀ j2 : Nat, ∃ d2 : Nat, d2 + 1 ≤ 11 ∧ am_Snd d2 j2 (am_s308_ z j2) := by
  intro j2
  unfold am_s308_
  split
  · rename_i he
    rw [am_beq he]
    exact ⟨_, by decide, S170 z⟩
  · skip
    split
    · rename_i he
      rw [am_beq he]
      exact ⟨_, by decide, S305 z⟩
    · skip
      split
      · rename_i he
        rw [am_beq he]
        exact ⟨_, by decide, S306 z⟩
      · skip
        exact ⟨0, by decide, am_Snd_no j2⟩
/-- ArgumentMenderModel.gets(IIII)I -/
def f308 (z : Nat) (x1 : Int32) (x2 : Int32) (x3 : Int32) (x4 : Int32) (M : aM) : Option aR :=
  am_bi (f306 z x1 x2 M) fun v2 M1 =>
    if v2 = 0 then
      some (some (.inl (-1000 : Int32)), M1)
    else
      am_bi (f170 z (Int32.toInt64 x3) (0 : Int64) (1 : Int64) M1) fun v4 M3 =>
        if v4 = 0 then
          some (some (.inl (-1000 : Int32)), M3)
        else
          am_bi (f170 z (Int32.toInt64 x4) (0 : Int64) (1 : Int64) M3) fun v6 M5 =>
            if v6 = 0 then
              some (some (.inl (-1000 : Int32)), M5)
            else
              am_bi (f305 z x1 x2 x3 x4 (0 : Int32) M5) fun v8 M7 =>
                some (some (.inl v8), M7)
set_option maxRecDepth 100000 in
set_option maxHeartbeats 4000000 in
theorem e308 (z : Nat) : ∀ (x1 : Int32) (x2 : Int32) (x3 : Int32) (x4 : Int32) (M : aM) (r : aR), f308 z x1 x2 x3 x4 M = some r → am_Ev 11 308 0 [some (.inr (.inr (11, 205))), some (.inl x1), some (.inl x2), some (.inl x3), some (.inl x4)] [] M r := by
  intro x1 x2 x3 x4 M r h
  exact am_Ev_seg (sem := am_s308_ z) (cut := ([] : List (Nat × List Bool))) (hs308 z) am_r308 am_k308 (by rw [am_l308]; decide) (fun _ _ _ _ => none) 27 h (fun _ _ _ _ hk => by cases hk)
def F308 (z : Nat) (as : List aV) (M : aM) : Option aR := match as with
  | [.inr (.inr (11, 205)), .inl x1, .inl x2, .inl x3, .inl x4] => f308 z x1 x2 x3 x4 M
  | _ => none
theorem S308 (z : Nat) : am_Snd 11 308 (F308 z) := am_meth (by decide +kernel) (fun as M r has h => by
    rw [am_l308]
    unfold F308 at h
    split at h
    · exact ⟨Nat.le_of_ble_eq_true rfl, e308 z _ _ _ _ _ _ h⟩
    · cases h)
def cd309_0 : List am_E := [(0, .aload_n 0, 1, 0, 0, 0, 0), (1, .lconst 0, 1, 0, 0, 0, 0), (2, .putfield 476, 3, 11, 42, 0, 0), (5, .aload_n 0, 1, 0, 0, 0, 0), (6, .lconst 0, 1, 0, 0, 0, 0), (7, .putfield 480, 3, 11, 43, 0, 0), (10, .aload_n 0, 1, 0, 0, 0, 0), (11, .lconst 0, 1, 0, 0, 0, 0), (12, .putfield 483, 3, 11, 44, 0, 0), (15, .aload_n 0, 1, 0, 0, 0, 0), (16, .invokevirtual 329, 3, 211, 11004, 0, 0), (19, .aload_n 0, 1, 0, 0, 0, 0), (20, .invokevirtual 121, 3, 179, 11000, 0, 0), (23, .istore_n 2, 1, 2, 0, 0, 0), (24, .iconst 0, 1, 0, 0, 0, 0), (25, .istore_n 3, 1, 3, 0, 0, 0), (26, .iload_n 3, 1, 3, 0, 0, 0), (27, .iconst 1, 1, 0, 0, 1, 0), (28, .iload_n 2, 1, 2, 0, 0, 0), (29, .ishl, 1, 0, 0, 0, 0), (30, .if_icmp .ge 139, 3, 169, 0, 0, 0), (33, .lconst 1, 1, 0, 0, 0, 1), (34, .lstore 4, 2, 4, 0, 0, 0), (36, .iconst 0, 1, 0, 0, 0, 0), (37, .istore 6, 2, 6, 0, 0, 0), (39, .iload 6, 2, 6, 0, 0, 0), (41, .iload_n 2, 1, 2, 0, 0, 0), (42, .if_icmp .ge 44, 3, 86, 0, 0, 0), (45, .lload 4, 2, 4, 0, 0, 0), (47, .iload_n 3, 1, 3, 0, 0, 0), (48, .iload 6, 2, 6, 0, 0, 0), (50, .invokestatic 300, 3, 172, 25, 0, 0), (53, .iconst 1, 1, 0, 0, 1, 0), (54, .if_icmp .ne 13, 3, 67, 0, 0, 0), (57, .aload_n 0, 1, 0, 0, 0, 0), (58, .getfield 9, 3, 11, 1, 0, 0), (61, .iconst 2, 1, 0, 0, 2, 0), (62, .iaload, 1, 0, 0, 0, 0), (63, .i2l, 1, 0, 0, 0, 0), (64, .goto 13, 3, 77, 0, 0, 0)]
def cd309_1 : List am_E := [(67, .bipush 10, 2, 0, 0, 10, 0), (69, .aload_n 0, 1, 0, 0, 0, 0), (70, .getfield 9, 3, 11, 1, 0, 0), (73, .iconst 2, 1, 0, 0, 2, 0), (74, .iaload, 1, 0, 0, 0, 0), (75, .isub, 1, 0, 0, 0, 0), (76, .i2l, 1, 0, 0, 0, 0), (77, .lmul, 1, 0, 0, 0, 0), (78, .lstore 4, 2, 4, 0, 0, 0), (80, .iinc 6 1, 3, 6, 0, 1, 0), (83, .goto (-44), 3, 39, 0, 0, 0), (86, .lload 4, 2, 4, 0, 0, 0), (88, .lconst 0, 1, 0, 0, 0, 0), (89, .lcmp, 1, 0, 0, 0, 0), (90, .ifCond .ne 6, 3, 96, 0, 0, 0), (93, .goto 70, 3, 163, 0, 0, 0), (96, .aload_n 0, 1, 0, 0, 0, 0), (97, .iload_n 3, 1, 3, 0, 0, 0), (98, .putfield 268, 3, 11, 18, 0, 0), (101, .aload_n 0, 1, 0, 0, 0, 0), (102, .invokevirtual 332, 3, 224, 11004, 0, 0), (105, .aload_n 0, 1, 0, 0, 0, 0), (106, .dup, 1, 0, 0, 0, 0), (107, .getfield 476, 3, 11, 42, 0, 0), (110, .lload 4, 2, 4, 0, 0, 0), (112, .ladd, 1, 0, 0, 0, 0), (113, .putfield 476, 3, 11, 42, 0, 0), (116, .aload_n 0, 1, 0, 0, 0, 0), (117, .dup, 1, 0, 0, 0, 0), (118, .getfield 480, 3, 11, 43, 0, 0), (121, .aload_n 0, 1, 0, 0, 0, 0), (122, .invokevirtual 397, 3, 232, 11000, 0, 0), (125, .iload_n 1, 1, 1, 0, 0, 0), (126, .invokestatic 300, 3, 172, 25, 0, 0), (129, .iconst 1, 1, 0, 0, 1, 0), (130, .if_icmp .ne 8, 3, 138, 0, 0, 0), (133, .lload 4, 2, 4, 0, 0, 0), (135, .goto 4, 3, 139, 0, 0, 0), (138, .lconst 0, 1, 0, 0, 0, 0), (139, .ladd, 1, 0, 0, 0, 0)]
def cd309_2 : List am_E := [(140, .putfield 480, 3, 11, 43, 0, 0), (143, .aload_n 0, 1, 0, 0, 0, 0), (144, .dup, 1, 0, 0, 0, 0), (145, .getfield 483, 3, 11, 44, 0, 0), (148, .lload 4, 2, 4, 0, 0, 0), (150, .aload_n 0, 1, 0, 0, 0, 0), (151, .invokevirtual 397, 3, 232, 11000, 0, 0), (154, .invokestatic 372, 3, 171, 15, 0, 0), (157, .i2l, 1, 0, 0, 0, 0), (158, .lmul, 1, 0, 0, 0, 0), (159, .ladd, 1, 0, 0, 0, 0), (160, .putfield 483, 3, 11, 44, 0, 0), (163, .iinc 3 1, 3, 3, 0, 1, 0), (166, .goto (-140), 3, 26, 0, 0, 0), (169, .return_, 1, 0, 0, 0, 0)]
def cd309 : List am_E := cd309_0 ++ (cd309_1 ++ (cd309_2))
def am_w309 : List (List (Int32 × Nat) × Nat) := []
set_option maxRecDepth 100000 in
theorem kcd309_0 : cd309_0.all (am_chk am_w309 309) = true := by decide +kernel
set_option maxRecDepth 100000 in
theorem kcd309_1 : cd309_1.all (am_chk am_w309 309) = true := by decide +kernel
set_option maxRecDepth 100000 in
theorem kcd309_2 : cd309_2.all (am_chk am_w309 309) = true := by decide +kernel
theorem am_k309 : cd309.all (am_chk am_w309 309) = true := by
  simp only [cd309, List.all_append, kcd309_0, kcd309_1, kcd309_2, Bool.and_self]
theorem am_r309 : am_rtc 309 = 4 := by decide +kernel
theorem am_l309 : am_ml 309 = 7 := by decide +kernel
def am_s309_ (z : Nat) : Nat → List aV → aM → Option aR := fun j => (match Nat.beq j 171 with
  | true => F171 z
  | false => (match Nat.beq j 172 with
  | true => F172 z
  | false => (match Nat.beq j 179 with
  | true => F179 z
  | false => (match Nat.beq j 211 with
  | true => F211 z
  | false => (match Nat.beq j 224 with
  | true => F224 z
  | false => (match Nat.beq j 232 with
  | true => F232 z
  | false => (fun _ _ => none)))))))
theorem hs309 (z : Nat) : ∀ j2 : Nat, ∃ d2 : Nat, d2 + 1 ≤ 10 ∧ am_Snd d2 j2 (am_s309_ z j2) := by
  intro j2
  unfold am_s309_
  split
  · rename_i he
    rw [am_beq he]
    exact ⟨_, by decide, S171 z⟩
  · skip
    split
    · rename_i he
      rw [am_beq he]
      exact ⟨_, by decide, S172 z⟩
    · skip
      split
      · rename_i he
        rw [am_beq he]
        exact ⟨_, by decide, S179 z⟩
      · skip
        split
        · rename_i he
          rw [am_beq he]
          exact ⟨_, by decide, S211 z⟩
        · skip
          split
          · rename_i he
            rw [am_beq he]
            exact ⟨_, by decide, S224 z⟩
          · skip
            split
            · rename_i he
              rw [am_beq he]
              exact ⟨_, by decide, S232 z⟩
            · skip
              exact ⟨0, by decide, am_Snd_no j2⟩
def f309_39 (z : Nat) (k26 : Int32 → Int32 → Int32 → aM → Option aR) : Nat → Int32 → Int32 → Int32 → Int64 → Int32 → aM → Option aR
  | 0, _, _, _, _, _, _ => none
  | n + 1, x1, x2, x3, y4, x6, M =>
    if x2 ≤ x6 then
      if ¬ (lg_cmp y4 (0 : Int64)) = 0 then
        let I1 := am_u M.1 205 18 x3
        am_bv (f224 z (I1, M.2)) fun M2 =>
          let J3 := am_ul M2.2 205 42 ((M2.2 205 42) + y4)
          am_bi (f232 z (M2.1, J3)) fun v5 M4 =>
            am_bi (f172 z v5 x1 M4) fun v7 M6 =>
              if ¬ v7 = (1 : Int32) then
                let J8 := am_ul M6.2 205 43 ((J3 205 43) + (0 : Int64))
                am_bi (f232 z (M6.1, J8)) fun v10 M9 =>
                  am_bi (f171 z v10 M9) fun v12 M11 =>
                    let J13 := am_ul M11.2 205 44 ((J8 205 44) + (y4 * (Int32.toInt64 v12)))
                    k26 x1 x2 (x3 + (1 : Int32)) (M11.1, J13)
              else
                let J14 := am_ul M6.2 205 43 ((J3 205 43) + y4)
                am_bi (f232 z (M6.1, J14)) fun v16 M15 =>
                  am_bi (f171 z v16 M15) fun v18 M17 =>
                    let J19 := am_ul M17.2 205 44 ((J14 205 44) + (y4 * (Int32.toInt64 v18)))
                    k26 x1 x2 (x3 + (1 : Int32)) (M17.1, J19)
      else
        k26 x1 x2 (x3 + (1 : Int32)) M
    else
      am_bi (f172 z x3 x6 M) fun v21 M20 =>
        if ¬ v21 = (1 : Int32) then
          if am_inB (2 : Int32) 116 then
            f309_39 z k26 n x1 x2 x3 (y4 * (Int32.toInt64 ((10 : Int32) - (M20.1 206 (2 : Int32).toNatClampNeg)))) (x6 + (1 : Int32)) M20
          else
            none
        else
          if am_inB (2 : Int32) 116 then
            f309_39 z k26 n x1 x2 x3 (y4 * (Int32.toInt64 (M20.1 206 (2 : Int32).toNatClampNeg))) (x6 + (1 : Int32)) M20
          else
            none
set_option maxRecDepth 100000 in
set_option maxHeartbeats 4000000 in
theorem e309_39 (z : Nat) (k26 : Int32 → Int32 → Int32 → aM → Option aR) (hk26 : ∀ (x1 : Int32) (x2 : Int32) (x3 : Int32) (M : aM) (r : aR), k26 x1 x2 x3 M = some r → am_Ev 10 309 26 [some (.inr (.inr (11, 205))), some (.inl x1), some (.inl x2), some (.inl x3), none, none, none] [] M r) : ∀ (n : Nat) (x1 : Int32) (x2 : Int32) (x3 : Int32) (y4 : Int64) (x6 : Int32) (M : aM) (r : aR), f309_39 z k26 n x1 x2 x3 y4 x6 M = some r → am_Ev 10 309 39 [some (.inr (.inr (11, 205))), some (.inl x1), some (.inl x2), some (.inl x3), some (.inr (.inl y4)), none, some (.inl x6)] [] M r := by
  intro n
  induction n with
  | zero =>
    intro x1 x2 x3 y4 x6 M r h
    cases h
  | succ n ih =>
    intro x1 x2 x3 y4 x6 M r h
    exact am_Ev_seg (sem := am_s309_ z) (cut := ([(26, [true, true, true, true, false, false, false]), (39, [true, true, true, true, true, false, true])] : List (Nat × List Bool))) (hs309 z) am_r309 am_k309 (by rw [am_l309]; decide) (fun pc al st M => (match Nat.beq pc 26 with
      | true => (match al, st with
        | [some (.inr (.inr (11, 205))), some (.inl x1), some (.inl x2), some (.inl x3), none, none, none], [] => k26 x1 x2 x3 M
        | _, _ => none)
      | false => (match Nat.beq pc 39 with
      | true => (match al, st with
        | [some (.inr (.inr (11, 205))), some (.inl x1), some (.inl x2), some (.inl x3), some (.inr (.inl y4)), none, some (.inl x6)], [] => f309_39 z k26 n x1 x2 x3 y4 x6 M
        | _, _ => none)
      | false => none))) 46 h (fun pc al st M hk => by
      try dsimp only at hk
      split at hk
      · rename_i he
        rw [am_beq he]
        split at hk
        · exact hk26 _ _ _ _ _ hk
        · cases hk
      · skip
        split at hk
        · rename_i he
          rw [am_beq he]
          split at hk
          · exact ih _ _ _ _ _ _ _ hk
          · cases hk
        · cases hk)
def f309_26 (z : Nat) : Nat → Int32 → Int32 → Int32 → aM → Option aR
  | 0, _, _, _, _ => none
  | n + 1, x1, x2, x3, M =>
    if ((1 : Int32) <<< (x2 &&& 31)) ≤ x3 then
      some (none, M)
    else
      f309_39 z (f309_26 z n) z x1 x2 x3 (1 : Int64) (0 : Int32) M
set_option maxRecDepth 100000 in
set_option maxHeartbeats 4000000 in
theorem e309_26 (z : Nat) : ∀ (n : Nat) (x1 : Int32) (x2 : Int32) (x3 : Int32) (M : aM) (r : aR), f309_26 z n x1 x2 x3 M = some r → am_Ev 10 309 26 [some (.inr (.inr (11, 205))), some (.inl x1), some (.inl x2), some (.inl x3), none, none, none] [] M r := by
  intro n
  induction n with
  | zero =>
    intro x1 x2 x3 M r h
    cases h
  | succ n ih =>
    intro x1 x2 x3 M r h
    exact am_Ev_seg (sem := am_s309_ z) (cut := ([(39, [true, true, true, true, true, false, true])] : List (Nat × List Bool))) (hs309 z) am_r309 am_k309 (by rw [am_l309]; decide) (fun pc al st M => (match Nat.beq pc 39 with
      | true => (match al, st with
        | [some (.inr (.inr (11, 205))), some (.inl x1), some (.inl x2), some (.inl x3), some (.inr (.inl y4)), none, some (.inl x6)], [] => f309_39 z (f309_26 z n) z x1 x2 x3 y4 x6 M
        | _, _ => none)
      | false => none)) 11 h (fun pc al st M hk => by
      try dsimp only at hk
      split at hk
      · rename_i he
        rw [am_beq he]
        split at hk
        · exact e309_39 z _ ih _ _ _ _ _ _ _ _ hk
        · cases hk
      · cases hk)
/-- ArgumentMenderModel.layChance(I)V -/
def f309 (z : Nat) (x1 : Int32) (M : aM) : Option aR :=
  let J1 := am_ul M.2 205 42 (0 : Int64)
  let J2 := am_ul J1 205 43 (0 : Int64)
  let J3 := am_ul J2 205 44 (0 : Int64)
  am_bv (f211 z (M.1, J3)) fun M4 =>
    am_bi (f179 z M4) fun v6 M5 =>
      f309_26 z z x1 v6 (0 : Int32) M5
set_option maxRecDepth 100000 in
set_option maxHeartbeats 4000000 in
theorem e309 (z : Nat) : ∀ (x1 : Int32) (M : aM) (r : aR), f309 z x1 M = some r → am_Ev 10 309 0 [some (.inr (.inr (11, 205))), some (.inl x1), none, none, none, none, none] [] M r := by
  intro x1 M r h
  exact am_Ev_seg (sem := am_s309_ z) (cut := ([(26, [true, true, true, true, false, false, false])] : List (Nat × List Bool))) (hs309 z) am_r309 am_k309 (by rw [am_l309]; decide) (fun pc al st M => (match Nat.beq pc 26 with
      | true => (match al, st with
        | [some (.inr (.inr (11, 205))), some (.inl x1), some (.inl x2), some (.inl x3), none, none, none], [] => f309_26 z z x1 x2 x3 M
        | _, _ => none)
      | false => none)) 18 h (fun pc al st M hk => by
      try dsimp only at hk
      split at hk
      · rename_i he
        rw [am_beq he]
        split at hk
        · exact e309_26 z _ _ _ _ _ _ hk
        · cases hk
      · cases hk)
def F309 (z : Nat) (as : List aV) (M : aM) : Option aR := match as with
  | [.inr (.inr (11, 205)), .inl x1] => f309 z x1 M
  | _ => none
theorem S309 (z : Nat) : am_Snd 10 309 (F309 z) := am_meth (by decide +kernel) (fun as M r has h => by
    rw [am_l309]
    unfold F309 at h
    split at h
    · exact ⟨Nat.le_of_ble_eq_true rfl, e309 z _ _ _ h⟩
    · cases h)
def cd310_0 : List am_E := [(0, .aload_n 0, 1, 0, 0, 0, 0), (1, .iload_n 1, 1, 1, 0, 0, 0), (2, .invokevirtual 255, 3, 182, 11010, 0, 0), (5, .ifCond .eq 13, 3, 18, 0, 0, 0), (8, .iload_n 2, 1, 2, 0, 0, 0), (9, .i2l, 1, 0, 0, 0, 0), (10, .lconst 0, 1, 0, 0, 0, 0), (11, .lconst 1, 1, 0, 0, 0, 1), (12, .invokestatic 103, 3, 170, 35, 0, 0), (15, .ifCond .ne 7, 3, 22, 0, 0, 0), (18, .ldc2_w 486, 3, 0, 0, 0, (-2)), (21, .lreturn, 1, 0, 0, 0, 0), (22, .aload_n 0, 1, 0, 0, 0, 0), (23, .invokevirtual 121, 3, 179, 11000, 0, 0), (26, .bipush 8, 2, 0, 0, 8, 0), (28, .if_icmp .le 7, 3, 35, 0, 0, 0), (31, .ldc2_w 488, 3, 0, 0, 0, (-3)), (34, .lreturn, 1, 0, 0, 0, 0), (35, .aload_n 0, 1, 0, 0, 0, 0), (36, .iload_n 1, 1, 1, 0, 0, 0), (37, .invokevirtual 490, 3, 309, 11014, 0, 0), (40, .aload_n 0, 1, 0, 0, 0, 0), (41, .getfield 480, 3, 11, 43, 0, 0), (44, .aload_n 0, 1, 0, 0, 0, 0), (45, .getfield 476, 3, 11, 42, 0, 0), (48, .iload_n 2, 1, 2, 0, 0, 0), (49, .invokestatic 465, 3, 303, 37, 0, 0), (52, .lreturn, 1, 0, 0, 0, 0)]
def cd310 : List am_E := cd310_0
def am_w310 : List (List (Int32 × Nat) × Nat) := []
set_option maxRecDepth 100000 in
theorem kcd310_0 : cd310_0.all (am_chk am_w310 310) = true := by decide +kernel
theorem am_k310 : cd310.all (am_chk am_w310 310) = true := by
  simp only [cd310, List.all_append, kcd310_0, Bool.and_self]
theorem am_r310 : am_rtc 310 = 2 := by decide +kernel
theorem am_l310 : am_ml 310 = 3 := by decide +kernel
def am_s310_ (z : Nat) : Nat → List aV → aM → Option aR := fun j => (match Nat.beq j 170 with
  | true => F170 z
  | false => (match Nat.beq j 179 with
  | true => F179 z
  | false => (match Nat.beq j 182 with
  | true => F182 z
  | false => (match Nat.beq j 303 with
  | true => F303 z
  | false => (match Nat.beq j 309 with
  | true => F309 z
  | false => (fun _ _ => none))))))
theorem hs310 (z : Nat) : ∀ j2 : Nat, ∃ d2 : Nat, d2 + 1 ≤ 11 ∧ am_Snd d2 j2 (am_s310_ z j2) := by
  intro j2
  unfold am_s310_
  split
  · rename_i he
    rw [am_beq he]
    exact ⟨_, by decide, S170 z⟩
  · skip
    split
    · rename_i he
      rw [am_beq he]
      exact ⟨_, by decide, S179 z⟩
    · skip
      split
      · rename_i he
        rw [am_beq he]
        exact ⟨_, by decide, S182 z⟩
      · skip
        split
        · rename_i he
          rw [am_beq he]
          exact ⟨_, by decide, S303 z⟩
        · skip
          split
          · rename_i he
            rw [am_beq he]
            exact ⟨_, by decide, S309 z⟩
          · skip
            exact ⟨0, by decide, am_Snd_no j2⟩
/-- ArgumentMenderModel.chance(II)J -/
def f310 (z : Nat) (x1 : Int32) (x2 : Int32) (M : aM) : Option aR :=
  am_bi (f182 z x1 M) fun v2 M1 =>
    if v2 = 0 then
      some (some (.inr (.inl (-2 : Int64))), M1)
    else
      am_bi (f170 z (Int32.toInt64 x2) (0 : Int64) (1 : Int64) M1) fun v4 M3 =>
        if ¬ v4 = 0 then
          am_bi (f179 z M3) fun v6 M5 =>
            if v6 ≤ (8 : Int32) then
              am_bv (f309 z x1 M5) fun M7 =>
                am_bl (f303 z (M7.2 205 43) (M7.2 205 42) x2 M7) fun v9 M8 =>
                  some (some (.inr (.inl v9)), M8)
            else
              some (some (.inr (.inl (-3 : Int64))), M5)
        else
          some (some (.inr (.inl (-2 : Int64))), M3)
set_option maxRecDepth 100000 in
set_option maxHeartbeats 4000000 in
theorem e310 (z : Nat) : ∀ (x1 : Int32) (x2 : Int32) (M : aM) (r : aR), f310 z x1 x2 M = some r → am_Ev 11 310 0 [some (.inr (.inr (11, 205))), some (.inl x1), some (.inl x2)] [] M r := by
  intro x1 x2 M r h
  exact am_Ev_seg (sem := am_s310_ z) (cut := ([] : List (Nat × List Bool))) (hs310 z) am_r310 am_k310 (by rw [am_l310]; decide) (fun _ _ _ _ => none) 25 h (fun _ _ _ _ hk => by cases hk)
def F310 (z : Nat) (as : List aV) (M : aM) : Option aR := match as with
  | [.inr (.inr (11, 205)), .inl x1, .inl x2] => f310 z x1 x2 M
  | _ => none
theorem S310 (z : Nat) : am_Snd 11 310 (F310 z) := am_meth (by decide +kernel) (fun as M r has h => by
    rw [am_l310]
    unfold F310 at h
    split at h
    · exact ⟨Nat.le_of_ble_eq_true rfl, e310 z _ _ _ _ h⟩
    · cases h)
def cd311_0 : List am_E := [(0, .aload_n 0, 1, 0, 0, 0, 0), (1, .invokevirtual 107, 3, 175, 11000, 0, 0), (4, .ifCond .eq 13, 3, 17, 0, 0, 0), (7, .iload_n 1, 1, 1, 0, 0, 0), (8, .i2l, 1, 0, 0, 0, 0), (9, .lconst 0, 1, 0, 0, 0, 0), (10, .lconst 1, 1, 0, 0, 0, 1), (11, .invokestatic 103, 3, 170, 35, 0, 0), (14, .ifCond .ne 7, 3, 21, 0, 0, 0), (17, .ldc2_w 486, 3, 0, 0, 0, (-2)), (20, .lreturn, 1, 0, 0, 0, 0), (21, .aload_n 0, 1, 0, 0, 0, 0), (22, .invokevirtual 121, 3, 179, 11000, 0, 0), (25, .bipush 8, 2, 0, 0, 8, 0), (27, .if_icmp .le 7, 3, 34, 0, 0, 0), (30, .ldc2_w 488, 3, 0, 0, 0, (-3)), (33, .lreturn, 1, 0, 0, 0, 0), (34, .aload_n 0, 1, 0, 0, 0, 0), (35, .iconst 0, 1, 0, 0, 0, 0), (36, .invokevirtual 490, 3, 309, 11014, 0, 0), (39, .aload_n 0, 1, 0, 0, 0, 0), (40, .getfield 483, 3, 11, 44, 0, 0), (43, .aload_n 0, 1, 0, 0, 0, 0), (44, .getfield 476, 3, 11, 42, 0, 0), (47, .iload_n 1, 1, 1, 0, 0, 0), (48, .invokestatic 465, 3, 303, 37, 0, 0), (51, .lreturn, 1, 0, 0, 0, 0)]
def cd311 : List am_E := cd311_0
def am_w311 : List (List (Int32 × Nat) × Nat) := []
set_option maxRecDepth 100000 in
theorem kcd311_0 : cd311_0.all (am_chk am_w311 311) = true := by decide +kernel
theorem am_k311 : cd311.all (am_chk am_w311 311) = true := by
  simp only [cd311, List.all_append, kcd311_0, Bool.and_self]
theorem am_r311 : am_rtc 311 = 2 := by decide +kernel
theorem am_l311 : am_ml 311 = 2 := by decide +kernel
def am_s311_ (z : Nat) : Nat → List aV → aM → Option aR := fun j => (match Nat.beq j 170 with
  | true => F170 z
  | false => (match Nat.beq j 175 with
  | true => F175 z
  | false => (match Nat.beq j 179 with
  | true => F179 z
  | false => (match Nat.beq j 303 with
  | true => F303 z
  | false => (match Nat.beq j 309 with
  | true => F309 z
  | false => (fun _ _ => none))))))
theorem hs311 (z : Nat) : ∀ j2 : Nat, ∃ d2 : Nat, d2 + 1 ≤ 11 ∧ am_Snd d2 j2 (am_s311_ z j2) := by
  intro j2
  unfold am_s311_
  split
  · rename_i he
    rw [am_beq he]
    exact ⟨_, by decide, S170 z⟩
  · skip
    split
    · rename_i he
      rw [am_beq he]
      exact ⟨_, by decide, S175 z⟩
    · skip
      split
      · rename_i he
        rw [am_beq he]
        exact ⟨_, by decide, S179 z⟩
      · skip
        split
        · rename_i he
          rw [am_beq he]
          exact ⟨_, by decide, S303 z⟩
        · skip
          split
          · rename_i he
            rw [am_beq he]
            exact ⟨_, by decide, S309 z⟩
          · skip
            exact ⟨0, by decide, am_Snd_no j2⟩
/-- ArgumentMenderModel.mean(I)J -/
def f311 (z : Nat) (x1 : Int32) (M : aM) : Option aR :=
  am_bi (f175 z M) fun v2 M1 =>
    if v2 = 0 then
      some (some (.inr (.inl (-2 : Int64))), M1)
    else
      am_bi (f170 z (Int32.toInt64 x1) (0 : Int64) (1 : Int64) M1) fun v4 M3 =>
        if ¬ v4 = 0 then
          am_bi (f179 z M3) fun v6 M5 =>
            if v6 ≤ (8 : Int32) then
              am_bv (f309 z (0 : Int32) M5) fun M7 =>
                am_bl (f303 z (M7.2 205 44) (M7.2 205 42) x1 M7) fun v9 M8 =>
                  some (some (.inr (.inl v9)), M8)
            else
              some (some (.inr (.inl (-3 : Int64))), M5)
        else
          some (some (.inr (.inl (-2 : Int64))), M3)
set_option maxRecDepth 100000 in
set_option maxHeartbeats 4000000 in
theorem e311 (z : Nat) : ∀ (x1 : Int32) (M : aM) (r : aR), f311 z x1 M = some r → am_Ev 11 311 0 [some (.inr (.inr (11, 205))), some (.inl x1)] [] M r := by
  intro x1 M r h
  exact am_Ev_seg (sem := am_s311_ z) (cut := ([] : List (Nat × List Bool))) (hs311 z) am_r311 am_k311 (by rw [am_l311]; decide) (fun _ _ _ _ => none) 24 h (fun _ _ _ _ hk => by cases hk)
def F311 (z : Nat) (as : List aV) (M : aM) : Option aR := match as with
  | [.inr (.inr (11, 205)), .inl x1] => f311 z x1 M
  | _ => none
theorem S311 (z : Nat) : am_Snd 11 311 (F311 z) := am_meth (by decide +kernel) (fun as M r has h => by
    rw [am_l311]
    unfold F311 at h
    split at h
    · exact ⟨Nat.le_of_ble_eq_true rfl, e311 z _ _ _ h⟩
    · cases h)
def cd312_0 : List am_E := [(0, .aload_n 0, 1, 0, 0, 0, 0), (1, .getfield 9, 3, 11, 1, 0, 0), (4, .bipush 6, 2, 0, 0, 6, 0), (6, .iaload, 1, 0, 0, 0, 0), (7, .bipush 30, 2, 0, 0, 30, 0), (9, .if_icmp .ne 6, 3, 15, 0, 0, 0), (12, .bipush (-5), 2, 0, 0, (-5), 0), (14, .ireturn, 1, 0, 0, 0, 0), (15, .aload_n 0, 1, 0, 0, 0, 0), (16, .getfield 9, 3, 11, 1, 0, 0), (19, .bipush 86, 2, 0, 0, 86, 0), (21, .aload_n 0, 1, 0, 0, 0, 0), (22, .getfield 9, 3, 11, 1, 0, 0), (25, .bipush 6, 2, 0, 0, 6, 0), (27, .iaload, 1, 0, 0, 0, 0), (28, .iadd, 1, 0, 0, 0, 0), (29, .iload_n 1, 1, 1, 0, 0, 0), (30, .iastore, 1, 0, 0, 0, 0), (31, .aload_n 0, 1, 0, 0, 0, 0), (32, .getfield 9, 3, 11, 1, 0, 0), (35, .bipush 6, 2, 0, 0, 6, 0), (37, .dup2, 1, 0, 0, 0, 0), (38, .iaload, 1, 0, 0, 0, 0), (39, .iconst 1, 1, 0, 0, 1, 0), (40, .iadd, 1, 0, 0, 0, 0), (41, .iastore, 1, 0, 0, 0, 0), (42, .aload_n 0, 1, 0, 0, 0, 0), (43, .invokevirtual 335, 3, 225, 11000, 0, 0), (46, .pop, 1, 0, 0, 0, 0), (47, .aload_n 0, 1, 0, 0, 0, 0), (48, .invokevirtual 397, 3, 232, 11000, 0, 0), (51, .ireturn, 1, 0, 0, 0, 0)]
def cd312 : List am_E := cd312_0
def am_w312 : List (List (Int32 × Nat) × Nat) := []
set_option maxRecDepth 100000 in
theorem kcd312_0 : cd312_0.all (am_chk am_w312 312) = true := by decide +kernel
theorem am_k312 : cd312.all (am_chk am_w312 312) = true := by
  simp only [cd312, List.all_append, kcd312_0, Bool.and_self]
theorem am_r312 : am_rtc 312 = 0 := by decide +kernel
theorem am_l312 : am_ml 312 = 2 := by decide +kernel
def am_s312_ (z : Nat) : Nat → List aV → aM → Option aR := fun j => (match Nat.beq j 225 with
  | true => F225 z
  | false => (match Nat.beq j 232 with
  | true => F232 z
  | false => (fun _ _ => none)))
theorem hs312 (z : Nat) : ∀ j2 : Nat, ∃ d2 : Nat, d2 + 1 ≤ 11 ∧ am_Snd d2 j2 (am_s312_ z j2) := by
  intro j2
  unfold am_s312_
  split
  · rename_i he
    rw [am_beq he]
    exact ⟨_, by decide, S225 z⟩
  · skip
    split
    · rename_i he
      rw [am_beq he]
      exact ⟨_, by decide, S232 z⟩
    · skip
      exact ⟨0, by decide, am_Snd_no j2⟩
/-- ArgumentMenderModel.keepAct(I)I -/
def f312 (z : Nat) (x1 : Int32) (M : aM) : Option aR :=
  if am_inB (6 : Int32) 116 then
    if ¬ (M.1 206 (6 : Int32).toNatClampNeg) = (30 : Int32) then
      if am_inB (6 : Int32) 116 then
        if am_inB ((86 : Int32) + (M.1 206 (6 : Int32).toNatClampNeg)) 116 then
          let I1 := am_u M.1 206 ((86 : Int32) + (M.1 206 (6 : Int32).toNatClampNeg)).toNatClampNeg x1
          if am_inB (6 : Int32) 116 then
            if am_inB (6 : Int32) 116 then
              let I2 := am_u I1 206 (6 : Int32).toNatClampNeg ((I1 206 (6 : Int32).toNatClampNeg) + (1 : Int32))
              am_bi (f225 z (I2, M.2)) fun v4 M3 =>
                am_bi (f232 z M3) fun v6 M5 =>
                  some (some (.inl v6), M5)
            else
              none
          else
            none
        else
          none
      else
        none
    else
      some (some (.inl (-5 : Int32)), M)
  else
    none
set_option maxRecDepth 100000 in
set_option maxHeartbeats 4000000 in
theorem e312 (z : Nat) : ∀ (x1 : Int32) (M : aM) (r : aR), f312 z x1 M = some r → am_Ev 11 312 0 [some (.inr (.inr (11, 205))), some (.inl x1)] [] M r := by
  intro x1 M r h
  exact am_Ev_seg (sem := am_s312_ z) (cut := ([] : List (Nat × List Bool))) (hs312 z) am_r312 am_k312 (by rw [am_l312]; decide) (fun _ _ _ _ => none) 31 h (fun _ _ _ _ hk => by cases hk)
def F312 (z : Nat) (as : List aV) (M : aM) : Option aR := match as with
  | [.inr (.inr (11, 205)), .inl x1] => f312 z x1 M
  | _ => none
theorem S312 (z : Nat) : am_Snd 11 312 (F312 z) := am_meth (by decide +kernel) (fun as M r has h => by
    rw [am_l312]
    unfold F312 at h
    split at h
    · exact ⟨Nat.le_of_ble_eq_true rfl, e312 z _ _ _ h⟩
    · cases h)
def cd313_0 : List am_E := [(0, .aload_n 0, 1, 0, 0, 0, 0), (1, .iload_n 1, 1, 1, 0, 0, 0), (2, .i2l, 1, 0, 0, 0, 0), (3, .invokevirtual 241, 3, 183, 11010, 0, 0), (6, .ifCond .eq 47, 3, 53, 0, 0, 0), (9, .iload_n 2, 1, 2, 0, 0, 0), (10, .i2l, 1, 0, 0, 0, 0), (11, .lconst 1, 1, 0, 0, 0, 1), (12, .ldc2_w 493, 3, 0, 0, 0, 60), (15, .invokestatic 103, 3, 170, 35, 0, 0), (18, .ifCond .eq 35, 3, 53, 0, 0, 0), (21, .aload_n 0, 1, 0, 0, 0, 0), (22, .iload_n 3, 1, 3, 0, 0, 0), (23, .i2l, 1, 0, 0, 0, 0), (24, .invokevirtual 368, 3, 181, 11010, 0, 0), (27, .ifCond .eq 26, 3, 53, 0, 0, 0), (30, .aload_n 0, 1, 0, 0, 0, 0), (31, .ldc_w 316, 3, 0, 0, 1000000, 0), (34, .sipush 10000, 3, 0, 0, 10000, 0), (37, .iload_n 1, 1, 1, 0, 0, 0), (38, .imul, 1, 0, 0, 0, 0), (39, .iadd, 1, 0, 0, 0, 0), (40, .bipush 100, 2, 0, 0, 100, 0), (42, .iload_n 2, 1, 2, 0, 0, 0), (43, .imul, 1, 0, 0, 0, 0), (44, .iadd, 1, 0, 0, 0, 0), (45, .iload_n 3, 1, 3, 0, 0, 0), (46, .iadd, 1, 0, 0, 0, 0), (47, .invokevirtual 495, 3, 312, 11010, 0, 0), (50, .goto 5, 3, 55, 0, 0, 0), (53, .bipush (-2), 2, 0, 0, (-2), 0), (55, .ireturn, 1, 0, 0, 0, 0)]
def cd313 : List am_E := cd313_0
def am_w313 : List (List (Int32 × Nat) × Nat) := []
set_option maxRecDepth 100000 in
theorem kcd313_0 : cd313_0.all (am_chk am_w313 313) = true := by decide +kernel
theorem am_k313 : cd313.all (am_chk am_w313 313) = true := by
  simp only [cd313, List.all_append, kcd313_0, Bool.and_self]
theorem am_r313 : am_rtc 313 = 0 := by decide +kernel
theorem am_l313 : am_ml 313 = 4 := by decide +kernel
def am_s313_ (z : Nat) : Nat → List aV → aM → Option aR := fun j => (match Nat.beq j 170 with
  | true => F170 z
  | false => (match Nat.beq j 181 with
  | true => F181 z
  | false => (match Nat.beq j 183 with
  | true => F183 z
  | false => (match Nat.beq j 312 with
  | true => F312 z
  | false => (fun _ _ => none)))))
theorem hs313 (z : Nat) : ∀ j2 : Nat, ∃ d2 : Nat, d2 + 1 ≤ 12 ∧ am_Snd d2 j2 (am_s313_ z j2) := by
  intro j2
  unfold am_s313_
  split
  · rename_i he
    rw [am_beq he]
    exact ⟨_, by decide, S170 z⟩
  · skip
    split
    · rename_i he
      rw [am_beq he]
      exact ⟨_, by decide, S181 z⟩
    · skip
      split
      · rename_i he
        rw [am_beq he]
        exact ⟨_, by decide, S183 z⟩
      · skip
        split
        · rename_i he
          rw [am_beq he]
          exact ⟨_, by decide, S312 z⟩
        · skip
          exact ⟨0, by decide, am_Snd_no j2⟩
/-- ArgumentMenderModel.sews(III)I -/
def f313 (z : Nat) (x1 : Int32) (x2 : Int32) (x3 : Int32) (M : aM) : Option aR :=
  am_bi (f183 z (Int32.toInt64 x1) M) fun v2 M1 =>
    if v2 = 0 then
      some (some (.inl (-2 : Int32)), M1)
    else
      am_bi (f170 z (Int32.toInt64 x2) (1 : Int64) (60 : Int64) M1) fun v4 M3 =>
        if v4 = 0 then
          some (some (.inl (-2 : Int32)), M3)
        else
          am_bi (f181 z (Int32.toInt64 x3) M3) fun v6 M5 =>
            if v6 = 0 then
              some (some (.inl (-2 : Int32)), M5)
            else
              am_bi (f312 z ((((1000000 : Int32) + ((10000 : Int32) * x1)) + ((100 : Int32) * x2)) + x3) M5) fun v8 M7 =>
                some (some (.inl v8), M7)
set_option maxRecDepth 100000 in
set_option maxHeartbeats 4000000 in
theorem e313 (z : Nat) : ∀ (x1 : Int32) (x2 : Int32) (x3 : Int32) (M : aM) (r : aR), f313 z x1 x2 x3 M = some r → am_Ev 12 313 0 [some (.inr (.inr (11, 205))), some (.inl x1), some (.inl x2), some (.inl x3)] [] M r := by
  intro x1 x2 x3 M r h
  exact am_Ev_seg (sem := am_s313_ z) (cut := ([] : List (Nat × List Bool))) (hs313 z) am_r313 am_k313 (by rw [am_l313]; decide) (fun _ _ _ _ => none) 32 h (fun _ _ _ _ hk => by cases hk)
def F313 (z : Nat) (as : List aV) (M : aM) : Option aR := match as with
  | [.inr (.inr (11, 205)), .inl x1, .inl x2, .inl x3] => f313 z x1 x2 x3 M
  | _ => none
theorem S313 (z : Nat) : am_Snd 12 313 (F313 z) := am_meth (by decide +kernel) (fun as M r has h => by
    rw [am_l313]
    unfold F313 at h
    split at h
    · exact ⟨Nat.le_of_ble_eq_true rfl, e313 z _ _ _ _ _ h⟩
    · cases h)
def cd314_0 : List am_E := [(0, .aload_n 0, 1, 0, 0, 0, 0), (1, .iload_n 1, 1, 1, 0, 0, 0), (2, .invokevirtual 255, 3, 182, 11010, 0, 0), (5, .ifCond .eq 43, 3, 48, 0, 0, 0), (8, .iload_n 2, 1, 2, 0, 0, 0), (9, .i2l, 1, 0, 0, 0, 0), (10, .lconst 1, 1, 0, 0, 0, 1), (11, .ldc2_w 498, 3, 0, 0, 0, 90), (14, .invokestatic 103, 3, 170, 35, 0, 0), (17, .ifCond .eq 31, 3, 48, 0, 0, 0), (20, .aload_n 0, 1, 0, 0, 0, 0), (21, .iload_n 3, 1, 3, 0, 0, 0), (22, .i2l, 1, 0, 0, 0, 0), (23, .invokevirtual 368, 3, 181, 11010, 0, 0), (26, .ifCond .eq 22, 3, 48, 0, 0, 0), (29, .aload_n 0, 1, 0, 0, 0, 0), (30, .sipush 10000, 3, 0, 0, 10000, 0), (33, .iload_n 1, 1, 1, 0, 0, 0), (34, .imul, 1, 0, 0, 0, 0), (35, .bipush 100, 2, 0, 0, 100, 0), (37, .iload_n 2, 1, 2, 0, 0, 0), (38, .imul, 1, 0, 0, 0, 0), (39, .iadd, 1, 0, 0, 0, 0), (40, .iload_n 3, 1, 3, 0, 0, 0), (41, .iadd, 1, 0, 0, 0, 0), (42, .invokevirtual 495, 3, 312, 11010, 0, 0), (45, .goto 5, 3, 50, 0, 0, 0), (48, .bipush (-2), 2, 0, 0, (-2), 0), (50, .ireturn, 1, 0, 0, 0, 0)]
def cd314 : List am_E := cd314_0
def am_w314 : List (List (Int32 × Nat) × Nat) := []
set_option maxRecDepth 100000 in
theorem kcd314_0 : cd314_0.all (am_chk am_w314 314) = true := by decide +kernel
theorem am_k314 : cd314.all (am_chk am_w314 314) = true := by
  simp only [cd314, List.all_append, kcd314_0, Bool.and_self]
theorem am_r314 : am_rtc 314 = 0 := by decide +kernel
theorem am_l314 : am_ml 314 = 4 := by decide +kernel
def am_s314_ (z : Nat) : Nat → List aV → aM → Option aR := fun j => (match Nat.beq j 170 with
  | true => F170 z
  | false => (match Nat.beq j 181 with
  | true => F181 z
  | false => (match Nat.beq j 182 with
  | true => F182 z
  | false => (match Nat.beq j 312 with
  | true => F312 z
  | false => (fun _ _ => none)))))
theorem hs314 (z : Nat) : ∀ j2 : Nat, ∃ d2 : Nat, d2 + 1 ≤ 12 ∧ am_Snd d2 j2 (am_s314_ z j2) := by
  intro j2
  unfold am_s314_
  split
  · rename_i he
    rw [am_beq he]
    exact ⟨_, by decide, S170 z⟩
  · skip
    split
    · rename_i he
      rw [am_beq he]
      exact ⟨_, by decide, S181 z⟩
    · skip
      split
      · rename_i he
        rw [am_beq he]
        exact ⟨_, by decide, S182 z⟩
      · skip
        split
        · rename_i he
          rw [am_beq he]
          exact ⟨_, by decide, S312 z⟩
        · skip
          exact ⟨0, by decide, am_Snd_no j2⟩
/-- ArgumentMenderModel.quarrels(III)I -/
def f314 (z : Nat) (x1 : Int32) (x2 : Int32) (x3 : Int32) (M : aM) : Option aR :=
  am_bi (f182 z x1 M) fun v2 M1 =>
    if v2 = 0 then
      some (some (.inl (-2 : Int32)), M1)
    else
      am_bi (f170 z (Int32.toInt64 x2) (1 : Int64) (90 : Int64) M1) fun v4 M3 =>
        if v4 = 0 then
          some (some (.inl (-2 : Int32)), M3)
        else
          am_bi (f181 z (Int32.toInt64 x3) M3) fun v6 M5 =>
            if v6 = 0 then
              some (some (.inl (-2 : Int32)), M5)
            else
              am_bi (f312 z ((((10000 : Int32) * x1) + ((100 : Int32) * x2)) + x3) M5) fun v8 M7 =>
                some (some (.inl v8), M7)
set_option maxRecDepth 100000 in
set_option maxHeartbeats 4000000 in
theorem e314 (z : Nat) : ∀ (x1 : Int32) (x2 : Int32) (x3 : Int32) (M : aM) (r : aR), f314 z x1 x2 x3 M = some r → am_Ev 12 314 0 [some (.inr (.inr (11, 205))), some (.inl x1), some (.inl x2), some (.inl x3)] [] M r := by
  intro x1 x2 x3 M r h
  exact am_Ev_seg (sem := am_s314_ z) (cut := ([] : List (Nat × List Bool))) (hs314 z) am_r314 am_k314 (by rw [am_l314]; decide) (fun _ _ _ _ => none) 29 h (fun _ _ _ _ hk => by cases hk)
def F314 (z : Nat) (as : List aV) (M : aM) : Option aR := match as with
  | [.inr (.inr (11, 205)), .inl x1, .inl x2, .inl x3] => f314 z x1 x2 x3 M
  | _ => none
theorem S314 (z : Nat) : am_Snd 12 314 (F314 z) := am_meth (by decide +kernel) (fun as M r has h => by
    rw [am_l314]
    unfold F314 at h
    split at h
    · exact ⟨Nat.le_of_ble_eq_true rfl, e314 z _ _ _ _ _ h⟩
    · cases h)
def cd315_0 : List am_E := [(0, .aload_n 0, 1, 0, 0, 0, 0), (1, .invokevirtual 107, 3, 175, 11000, 0, 0), (4, .ifCond .ne 6, 3, 10, 0, 0, 0), (7, .bipush (-2), 2, 0, 0, (-2), 0), (9, .ireturn, 1, 0, 0, 0, 0), (10, .aload_n 0, 1, 0, 0, 0, 0), (11, .getfield 9, 3, 11, 1, 0, 0), (14, .bipush 6, 2, 0, 0, 6, 0), (16, .iaload, 1, 0, 0, 0, 0), (17, .ifCond .ne 6, 3, 23, 0, 0, 0), (20, .bipush (-5), 2, 0, 0, (-5), 0), (22, .ireturn, 1, 0, 0, 0, 0), (23, .aload_n 0, 1, 0, 0, 0, 0), (24, .getfield 9, 3, 11, 1, 0, 0), (27, .bipush 6, 2, 0, 0, 6, 0), (29, .dup2, 1, 0, 0, 0, 0), (30, .iaload, 1, 0, 0, 0, 0), (31, .iconst 1, 1, 0, 0, 1, 0), (32, .isub, 1, 0, 0, 0, 0), (33, .iastore, 1, 0, 0, 0, 0), (34, .aload_n 0, 1, 0, 0, 0, 0), (35, .getfield 9, 3, 11, 1, 0, 0), (38, .bipush 6, 2, 0, 0, 6, 0), (40, .iaload, 1, 0, 0, 0, 0), (41, .ireturn, 1, 0, 0, 0, 0)]
def cd315 : List am_E := cd315_0
def am_w315 : List (List (Int32 × Nat) × Nat) := []
set_option maxRecDepth 100000 in
theorem kcd315_0 : cd315_0.all (am_chk am_w315 315) = true := by decide +kernel
theorem am_k315 : cd315.all (am_chk am_w315 315) = true := by
  simp only [cd315, List.all_append, kcd315_0, Bool.and_self]
theorem am_r315 : am_rtc 315 = 0 := by decide +kernel
theorem am_l315 : am_ml 315 = 1 := by decide +kernel
def am_s315_ (z : Nat) : Nat → List aV → aM → Option aR := fun j => (match Nat.beq j 175 with
  | true => F175 z
  | false => (fun _ _ => none))
theorem hs315 (z : Nat) : ∀ j2 : Nat, ∃ d2 : Nat, d2 + 1 ≤ 2 ∧ am_Snd d2 j2 (am_s315_ z j2) := by
  intro j2
  unfold am_s315_
  split
  · rename_i he
    rw [am_beq he]
    exact ⟨_, by decide, S175 z⟩
  · skip
    exact ⟨0, by decide, am_Snd_no j2⟩
/-- ArgumentMenderModel.undo()I -/
def f315 (z : Nat) (M : aM) : Option aR :=
  am_bi (f175 z M) fun v2 M1 =>
    if ¬ v2 = 0 then
      if am_inB (6 : Int32) 116 then
        if ¬ (M1.1 206 (6 : Int32).toNatClampNeg) = 0 then
          if am_inB (6 : Int32) 116 then
            if am_inB (6 : Int32) 116 then
              let I3 := am_u M1.1 206 (6 : Int32).toNatClampNeg ((M1.1 206 (6 : Int32).toNatClampNeg) - (1 : Int32))
              if am_inB (6 : Int32) 116 then
                some (some (.inl (I3 206 (6 : Int32).toNatClampNeg)), (I3, M1.2))
              else
                none
            else
              none
          else
            none
        else
          some (some (.inl (-5 : Int32)), M1)
      else
        none
    else
      some (some (.inl (-2 : Int32)), M1)
set_option maxRecDepth 100000 in
set_option maxHeartbeats 4000000 in
theorem e315 (z : Nat) : ∀ (M : aM) (r : aR), f315 z  M = some r → am_Ev 2 315 0 [some (.inr (.inr (11, 205)))] [] M r := by
  intro  M r h
  exact am_Ev_seg (sem := am_s315_ z) (cut := ([] : List (Nat × List Bool))) (hs315 z) am_r315 am_k315 (by rw [am_l315]; decide) (fun _ _ _ _ => none) 22 h (fun _ _ _ _ hk => by cases hk)
def F315 (z : Nat) (as : List aV) (M : aM) : Option aR := match as with
  | [.inr (.inr (11, 205))] => f315 z  M
  | _ => none
theorem S315 (z : Nat) : am_Snd 2 315 (F315 z) := am_meth (by decide +kernel) (fun as M r has h => by
    rw [am_l315]
    unfold F315 at h
    split at h
    · exact ⟨Nat.le_of_ble_eq_true rfl, e315 z _ _ h⟩
    · cases h)
def cd316_0 : List am_E := [(0, .aload_n 0, 1, 0, 0, 0, 0), (1, .invokevirtual 107, 3, 175, 11000, 0, 0), (4, .ifCond .ne 6, 3, 10, 0, 0, 0), (7, .bipush (-2), 2, 0, 0, (-2), 0), (9, .ireturn, 1, 0, 0, 0, 0), (10, .aload_n 0, 1, 0, 0, 0, 0), (11, .getfield 9, 3, 11, 1, 0, 0), (14, .bipush 6, 2, 0, 0, 6, 0), (16, .iaload, 1, 0, 0, 0, 0), (17, .istore_n 1, 1, 1, 0, 0, 0), (18, .aload_n 0, 1, 0, 0, 0, 0), (19, .getfield 9, 3, 11, 1, 0, 0), (22, .bipush 6, 2, 0, 0, 6, 0), (24, .iconst 0, 1, 0, 0, 0, 0), (25, .iastore, 1, 0, 0, 0, 0), (26, .iload_n 1, 1, 1, 0, 0, 0), (27, .ireturn, 1, 0, 0, 0, 0)]
def cd316 : List am_E := cd316_0
def am_w316 : List (List (Int32 × Nat) × Nat) := []
set_option maxRecDepth 100000 in
theorem kcd316_0 : cd316_0.all (am_chk am_w316 316) = true := by decide +kernel
theorem am_k316 : cd316.all (am_chk am_w316 316) = true := by
  simp only [cd316, List.all_append, kcd316_0, Bool.and_self]
theorem am_r316 : am_rtc 316 = 0 := by decide +kernel
theorem am_l316 : am_ml 316 = 2 := by decide +kernel
def am_s316_ (z : Nat) : Nat → List aV → aM → Option aR := fun j => (match Nat.beq j 175 with
  | true => F175 z
  | false => (fun _ _ => none))
theorem hs316 (z : Nat) : ∀ j2 : Nat, ∃ d2 : Nat, d2 + 1 ≤ 2 ∧ am_Snd d2 j2 (am_s316_ z j2) := by
  intro j2
  unfold am_s316_
  split
  · rename_i he
    rw [am_beq he]
    exact ⟨_, by decide, S175 z⟩
  · skip
    exact ⟨0, by decide, am_Snd_no j2⟩
/-- ArgumentMenderModel.anew()I -/
def f316 (z : Nat) (M : aM) : Option aR :=
  am_bi (f175 z M) fun v2 M1 =>
    if ¬ v2 = 0 then
      if am_inB (6 : Int32) 116 then
        if am_inB (6 : Int32) 116 then
          let I3 := am_u M1.1 206 (6 : Int32).toNatClampNeg (0 : Int32)
          some (some (.inl (M1.1 206 (6 : Int32).toNatClampNeg)), (I3, M1.2))
        else
          none
      else
        none
    else
      some (some (.inl (-2 : Int32)), M1)
set_option maxRecDepth 100000 in
set_option maxHeartbeats 4000000 in
theorem e316 (z : Nat) : ∀ (M : aM) (r : aR), f316 z  M = some r → am_Ev 2 316 0 [some (.inr (.inr (11, 205))), none] [] M r := by
  intro  M r h
  exact am_Ev_seg (sem := am_s316_ z) (cut := ([] : List (Nat × List Bool))) (hs316 z) am_r316 am_k316 (by rw [am_l316]; decide) (fun _ _ _ _ => none) 16 h (fun _ _ _ _ hk => by cases hk)
def F316 (z : Nat) (as : List aV) (M : aM) : Option aR := match as with
  | [.inr (.inr (11, 205))] => f316 z  M
  | _ => none
theorem S316 (z : Nat) : am_Snd 2 316 (F316 z) := am_meth (by decide +kernel) (fun as M r has h => by
    rw [am_l316]
    unfold F316 at h
    split at h
    · exact ⟨Nat.le_of_ble_eq_true rfl, e316 z _ _ h⟩
    · cases h)
def cd318_0 : List am_E := [(0, .iload_n 0, 1, 0, 0, 0, 0), (1, .i2l, 1, 0, 0, 0, 0), (2, .lconst 0, 1, 0, 0, 0, 0), (3, .ldc2_w 510, 3, 0, 0, 0, 2000000000), (6, .invokestatic 103, 3, 170, 35, 0, 0), (9, .ireturn, 1, 0, 0, 0, 0)]
def cd318 : List am_E := cd318_0
def am_w318 : List (List (Int32 × Nat) × Nat) := []
set_option maxRecDepth 100000 in
theorem kcd318_0 : cd318_0.all (am_chk am_w318 318) = true := by decide +kernel
theorem am_k318 : cd318.all (am_chk am_w318 318) = true := by
  simp only [cd318, List.all_append, kcd318_0, Bool.and_self]
theorem am_r318 : am_rtc 318 = 1 := by decide +kernel
theorem am_l318 : am_ml 318 = 1 := by decide +kernel
def am_s318_ (z : Nat) : Nat → List aV → aM → Option aR := fun j => (match Nat.beq j 170 with
  | true => F170 z
  | false => (fun _ _ => none))
theorem hs318 (z : Nat) : ∀ j2 : Nat, ∃ d2 : Nat, d2 + 1 ≤ 2 ∧ am_Snd d2 j2 (am_s318_ z j2) := by
  intro j2
  unfold am_s318_
  split
  · rename_i he
    rw [am_beq he]
    exact ⟨_, by decide, S170 z⟩
  · skip
    exact ⟨0, by decide, am_Snd_no j2⟩
/-- ArgumentMenderModel.isSeed(I)Z -/
def f318 (z : Nat) (x0 : Int32) (M : aM) : Option aR :=
  am_bi (f170 z (Int32.toInt64 x0) (0 : Int64) (2000000000 : Int64) M) fun v2 M1 =>
    some (some (.inl (v2 &&& 1)), M1)
set_option maxRecDepth 100000 in
set_option maxHeartbeats 4000000 in
theorem e318 (z : Nat) : ∀ (x0 : Int32) (M : aM) (r : aR), f318 z x0 M = some r → am_Ev 2 318 0 [some (.inl x0)] [] M r := by
  intro x0 M r h
  exact am_Ev_seg (sem := am_s318_ z) (cut := ([] : List (Nat × List Bool))) (hs318 z) am_r318 am_k318 (by rw [am_l318]; decide) (fun _ _ _ _ => none) 7 h (fun _ _ _ _ hk => by cases hk)
def F318 (z : Nat) (as : List aV) (M : aM) : Option aR := match as with
  | [.inl x0] => f318 z x0 M
  | _ => none
theorem S318 (z : Nat) : am_Snd 2 318 (F318 z) := am_meth (by decide +kernel) (fun as M r has h => by
    rw [am_l318]
    unfold F318 at h
    split at h
    · exact ⟨Nat.le_of_ble_eq_true rfl, e318 z _ _ _ h⟩
    · cases h)
def cd321_0 : List am_E := [(0, .aload_n 0, 1, 0, 0, 0, 0), (1, .iload_n 1, 1, 1, 0, 0, 0), (2, .i2l, 1, 0, 0, 0, 0), (3, .invokevirtual 241, 3, 183, 11010, 0, 0), (6, .ifCond .eq 15, 3, 21, 0, 0, 0), (9, .iload_n 2, 1, 2, 0, 0, 0), (10, .i2l, 1, 0, 0, 0, 0), (11, .lconst 1, 1, 0, 0, 0, 1), (12, .ldc2_w 493, 3, 0, 0, 0, 60), (15, .invokestatic 103, 3, 170, 35, 0, 0), (18, .ifCond .ne 6, 3, 24, 0, 0, 0), (21, .bipush (-2), 2, 0, 0, (-2), 0), (23, .ireturn, 1, 0, 0, 0, 0), (24, .aload_n 0, 1, 0, 0, 0, 0), (25, .getfield 9, 3, 11, 1, 0, 0), (28, .bipush 6, 2, 0, 0, 6, 0), (30, .iaload, 1, 0, 0, 0, 0), (31, .ifCond .le 6, 3, 37, 0, 0, 0), (34, .bipush (-5), 2, 0, 0, (-5), 0), (36, .ireturn, 1, 0, 0, 0, 0), (37, .aload_n 0, 1, 0, 0, 0, 0), (38, .getfield 9, 3, 11, 1, 0, 0), (41, .bipush 8, 2, 0, 0, 8, 0), (43, .iconst 3, 1, 0, 0, 3, 0), (44, .iload_n 1, 1, 1, 0, 0, 0), (45, .imul, 1, 0, 0, 0, 0), (46, .iadd, 1, 0, 0, 0, 0), (47, .iconst 2, 1, 0, 0, 2, 0), (48, .iadd, 1, 0, 0, 0, 0), (49, .iaload, 1, 0, 0, 0, 0), (50, .istore_n 3, 1, 3, 0, 0, 0), (51, .aload_n 0, 1, 0, 0, 0, 0), (52, .getfield 9, 3, 11, 1, 0, 0), (55, .bipush 8, 2, 0, 0, 8, 0), (57, .iconst 3, 1, 0, 0, 3, 0), (58, .iload_n 1, 1, 1, 0, 0, 0), (59, .imul, 1, 0, 0, 0, 0), (60, .iadd, 1, 0, 0, 0, 0), (61, .iconst 2, 1, 0, 0, 2, 0), (62, .iadd, 1, 0, 0, 0, 0)]
def cd321_1 : List am_E := [(63, .iload_n 2, 1, 2, 0, 0, 0), (64, .iastore, 1, 0, 0, 0, 0), (65, .iload_n 3, 1, 3, 0, 0, 0), (66, .ireturn, 1, 0, 0, 0, 0)]
def cd321 : List am_E := cd321_0 ++ (cd321_1)
def am_w321 : List (List (Int32 × Nat) × Nat) := []
set_option maxRecDepth 100000 in
theorem kcd321_0 : cd321_0.all (am_chk am_w321 321) = true := by decide +kernel
set_option maxRecDepth 100000 in
theorem kcd321_1 : cd321_1.all (am_chk am_w321 321) = true := by decide +kernel
theorem am_k321 : cd321.all (am_chk am_w321 321) = true := by
  simp only [cd321, List.all_append, kcd321_0, kcd321_1, Bool.and_self]
theorem am_r321 : am_rtc 321 = 0 := by decide +kernel
theorem am_l321 : am_ml 321 = 4 := by decide +kernel
def am_s321_ (z : Nat) : Nat → List aV → aM → Option aR := fun j => (match Nat.beq j 170 with
  | true => F170 z
  | false => (match Nat.beq j 183 with
  | true => F183 z
  | false => (fun _ _ => none)))
theorem hs321 (z : Nat) : ∀ j2 : Nat, ∃ d2 : Nat, d2 + 1 ≤ 3 ∧ am_Snd d2 j2 (am_s321_ z j2) := by
  intro j2
  unfold am_s321_
  split
  · rename_i he
    rw [am_beq he]
    exact ⟨_, by decide, S170 z⟩
  · skip
    split
    · rename_i he
      rw [am_beq he]
      exact ⟨_, by decide, S183 z⟩
    · skip
      exact ⟨0, by decide, am_Snd_no j2⟩
/-- ArgumentMenderModel.rate(II)I -/
def f321 (z : Nat) (x1 : Int32) (x2 : Int32) (M : aM) : Option aR :=
  am_bi (f183 z (Int32.toInt64 x1) M) fun v2 M1 =>
    if v2 = 0 then
      some (some (.inl (-2 : Int32)), M1)
    else
      am_bi (f170 z (Int32.toInt64 x2) (1 : Int64) (60 : Int64) M1) fun v4 M3 =>
        if ¬ v4 = 0 then
          if am_inB (6 : Int32) 116 then
            if (M3.1 206 (6 : Int32).toNatClampNeg) ≤ 0 then
              if am_inB (((8 : Int32) + ((3 : Int32) * x1)) + (2 : Int32)) 116 then
                if am_inB (((8 : Int32) + ((3 : Int32) * x1)) + (2 : Int32)) 116 then
                  let I5 := am_u M3.1 206 (((8 : Int32) + ((3 : Int32) * x1)) + (2 : Int32)).toNatClampNeg x2
                  some (some (.inl (M3.1 206 (((8 : Int32) + ((3 : Int32) * x1)) + (2 : Int32)).toNatClampNeg)), (I5, M3.2))
                else
                  none
              else
                none
            else
              some (some (.inl (-5 : Int32)), M3)
          else
            none
        else
          some (some (.inl (-2 : Int32)), M3)
set_option maxRecDepth 100000 in
set_option maxHeartbeats 4000000 in
theorem e321 (z : Nat) : ∀ (x1 : Int32) (x2 : Int32) (M : aM) (r : aR), f321 z x1 x2 M = some r → am_Ev 3 321 0 [some (.inr (.inr (11, 205))), some (.inl x1), some (.inl x2), none] [] M r := by
  intro x1 x2 M r h
  exact am_Ev_seg (sem := am_s321_ z) (cut := ([] : List (Nat × List Bool))) (hs321 z) am_r321 am_k321 (by rw [am_l321]; decide) (fun _ _ _ _ => none) 41 h (fun _ _ _ _ hk => by cases hk)
def F321 (z : Nat) (as : List aV) (M : aM) : Option aR := match as with
  | [.inr (.inr (11, 205)), .inl x1, .inl x2] => f321 z x1 x2 M
  | _ => none
theorem S321 (z : Nat) : am_Snd 3 321 (F321 z) := am_meth (by decide +kernel) (fun as M r has h => by
    rw [am_l321]
    unfold F321 at h
    split at h
    · exact ⟨Nat.le_of_ble_eq_true rfl, e321 z _ _ _ _ h⟩
    · cases h)
def cd322_0 : List am_E := [(0, .iload_n 1, 1, 1, 0, 0, 0), (1, .i2l, 1, 0, 0, 0, 0), (2, .lconst 0, 1, 0, 0, 0, 0), (3, .ldc2_w 521, 3, 0, 0, 0, 7), (6, .invokestatic 103, 3, 170, 35, 0, 0), (9, .ifCond .eq 10, 3, 19, 0, 0, 0), (12, .aload_n 0, 1, 0, 0, 0, 0), (13, .getfield 9, 3, 11, 1, 0, 0), (16, .iload_n 1, 1, 1, 0, 0, 0), (17, .iaload, 1, 0, 0, 0, 0), (18, .ireturn, 1, 0, 0, 0, 0), (19, .iload_n 1, 1, 1, 0, 0, 0), (20, .bipush 8, 2, 0, 0, 8, 0), (22, .if_icmp .ne 8, 3, 30, 0, 0, 0), (25, .aload_n 0, 1, 0, 0, 0, 0), (26, .getfield 124, 3, 11, 5, 0, 0), (29, .ireturn, 1, 0, 0, 0, 0), (30, .iload_n 1, 1, 1, 0, 0, 0), (31, .bipush 9, 2, 0, 0, 9, 0), (33, .if_icmp .eq 5, 3, 38, 0, 0, 0), (36, .iconst (-1), 1, 0, 0, (-1), 0), (37, .ireturn, 1, 0, 0, 0, 0), (38, .iconst 0, 1, 0, 0, 0, 0), (39, .istore_n 2, 1, 2, 0, 0, 0), (40, .iconst 0, 1, 0, 0, 0, 0), (41, .istore_n 3, 1, 3, 0, 0, 0), (42, .iload_n 3, 1, 3, 0, 0, 0), (43, .iconst 4, 1, 0, 0, 4, 0), (44, .if_icmp .ge 27, 3, 71, 0, 0, 0), (47, .iload_n 2, 1, 2, 0, 0, 0), (48, .aload_n 0, 1, 0, 0, 0, 0), (49, .getfield 85, 3, 11, 45, 0, 0), (52, .iload_n 3, 1, 3, 0, 0, 0), (53, .iaload, 1, 0, 0, 0, 0), (54, .iconst (-1), 1, 0, 0, (-1), 0), (55, .if_icmp .ne 7, 3, 62, 0, 0, 0), (58, .iconst 0, 1, 0, 0, 0, 0), (59, .goto 4, 3, 63, 0, 0, 0), (62, .iconst 1, 1, 0, 0, 1, 0), (63, .iadd, 1, 0, 0, 0, 0)]
def cd322_1 : List am_E := [(64, .istore_n 2, 1, 2, 0, 0, 0), (65, .iinc 3 1, 3, 3, 0, 1, 0), (68, .goto (-26), 3, 42, 0, 0, 0), (71, .iload_n 2, 1, 2, 0, 0, 0), (72, .ireturn, 1, 0, 0, 0, 0)]
def cd322 : List am_E := cd322_0 ++ (cd322_1)
def am_w322 : List (List (Int32 × Nat) × Nat) := []
set_option maxRecDepth 100000 in
theorem kcd322_0 : cd322_0.all (am_chk am_w322 322) = true := by decide +kernel
set_option maxRecDepth 100000 in
theorem kcd322_1 : cd322_1.all (am_chk am_w322 322) = true := by decide +kernel
theorem am_k322 : cd322.all (am_chk am_w322 322) = true := by
  simp only [cd322, List.all_append, kcd322_0, kcd322_1, Bool.and_self]
theorem am_r322 : am_rtc 322 = 0 := by decide +kernel
theorem am_l322 : am_ml 322 = 4 := by decide +kernel
def am_s322_ (z : Nat) : Nat → List aV → aM → Option aR := fun j => (match Nat.beq j 170 with
  | true => F170 z
  | false => (fun _ _ => none))
theorem hs322 (z : Nat) : ∀ j2 : Nat, ∃ d2 : Nat, d2 + 1 ≤ 2 ∧ am_Snd d2 j2 (am_s322_ z j2) := by
  intro j2
  unfold am_s322_
  split
  · rename_i he
    rw [am_beq he]
    exact ⟨_, by decide, S170 z⟩
  · skip
    exact ⟨0, by decide, am_Snd_no j2⟩
def f322_42 (z : Nat) : Nat → Int32 → Int32 → aM → Option aR
  | 0, _, _, _ => none
  | n + 1, x2, x3, M =>
    if (4 : Int32) ≤ x3 then
      some (some (.inl x2), M)
    else
      if am_inB x3 4 then
        if ¬ (M.1 229 x3.toNatClampNeg) = (-1 : Int32) then
          f322_42 z n (x2 + (1 : Int32)) (x3 + (1 : Int32)) M
        else
          f322_42 z n (x2 + (0 : Int32)) (x3 + (1 : Int32)) M
      else
        none
set_option maxRecDepth 100000 in
set_option maxHeartbeats 4000000 in
theorem e322_42 (z : Nat) : ∀ (n : Nat) (x2 : Int32) (x3 : Int32) (M : aM) (r : aR), f322_42 z n x2 x3 M = some r → am_Ev 2 322 42 [some (.inr (.inr (11, 205))), none, some (.inl x2), some (.inl x3)] [] M r := by
  intro n
  induction n with
  | zero =>
    intro x2 x3 M r h
    cases h
  | succ n ih =>
    intro x2 x3 M r h
    exact am_Ev_seg (sem := am_s322_ z) (cut := ([(42, [true, false, true, true])] : List (Nat × List Bool))) (hs322 z) am_r322 am_k322 (by rw [am_l322]; decide) (fun pc al st M => (match Nat.beq pc 42 with
      | true => (match al, st with
        | [some (.inr (.inr (11, 205))), none, some (.inl x2), some (.inl x3)], [] => f322_42 z n x2 x3 M
        | _, _ => none)
      | false => none)) 18 h (fun pc al st M hk => by
      try dsimp only at hk
      split at hk
      · rename_i he
        rw [am_beq he]
        split at hk
        · exact ih _ _ _ _ hk
        · cases hk
      · cases hk)
/-- ArgumentMenderModel.count(I)I -/
def f322 (z : Nat) (x1 : Int32) (M : aM) : Option aR :=
  am_bi (f170 z (Int32.toInt64 x1) (0 : Int64) (7 : Int64) M) fun v2 M1 =>
    if v2 = 0 then
      if ¬ x1 = (8 : Int32) then
        if x1 = (9 : Int32) then
          f322_42 z z (0 : Int32) (0 : Int32) M1
        else
          some (some (.inl (-1 : Int32)), M1)
      else
        some (some (.inl (M1.1 205 5)), M1)
    else
      if am_inB x1 116 then
        some (some (.inl (M1.1 206 x1.toNatClampNeg)), M1)
      else
        none
set_option maxRecDepth 100000 in
set_option maxHeartbeats 4000000 in
theorem e322 (z : Nat) : ∀ (x1 : Int32) (M : aM) (r : aR), f322 z x1 M = some r → am_Ev 2 322 0 [some (.inr (.inr (11, 205))), some (.inl x1), none, none] [] M r := by
  intro x1 M r h
  exact am_Ev_seg (sem := am_s322_ z) (cut := ([(42, [true, false, true, true])] : List (Nat × List Bool))) (hs322 z) am_r322 am_k322 (by rw [am_l322]; decide) (fun pc al st M => (match Nat.beq pc 42 with
      | true => (match al, st with
        | [some (.inr (.inr (11, 205))), none, some (.inl x2), some (.inl x3)], [] => f322_42 z z x2 x3 M
        | _, _ => none)
      | false => none)) 18 h (fun pc al st M hk => by
      try dsimp only at hk
      split at hk
      · rename_i he
        rw [am_beq he]
        split at hk
        · exact e322_42 z _ _ _ _ _ hk
        · cases hk
      · cases hk)
def F322 (z : Nat) (as : List aV) (M : aM) : Option aR := match as with
  | [.inr (.inr (11, 205)), .inl x1] => f322 z x1 M
  | _ => none
theorem S322 (z : Nat) : am_Snd 2 322 (F322 z) := am_meth (by decide +kernel) (fun as M r has h => by
    rw [am_l322]
    unfold F322 at h
    split at h
    · exact ⟨Nat.le_of_ble_eq_true rfl, e322 z _ _ _ h⟩
    · cases h)
def cd324_0 : List am_E := [(0, .bipush 64, 2, 0, 0, 64, 0), (2, .bipush 8, 2, 0, 0, 8, 0), (4, .iload_n 2, 1, 2, 0, 0, 0), (5, .ishl, 1, 0, 0, 0, 0), (6, .isub, 1, 0, 0, 0, 0), (7, .istore_n 3, 1, 3, 0, 0, 0), (8, .lload_n 0, 1, 0, 0, 0, 0), (9, .iload_n 3, 1, 3, 0, 0, 0), (10, .lshl, 1, 0, 0, 0, 0), (11, .iload_n 3, 1, 3, 0, 0, 0), (12, .lshr, 1, 0, 0, 0, 0), (13, .lreturn, 1, 0, 0, 0, 0)]
def cd324 : List am_E := cd324_0
def am_w324 : List (List (Int32 × Nat) × Nat) := []
set_option maxRecDepth 100000 in
theorem kcd324_0 : cd324_0.all (am_chk am_w324 324) = true := by decide +kernel
theorem am_k324 : cd324.all (am_chk am_w324 324) = true := by
  simp only [cd324, List.all_append, kcd324_0, Bool.and_self]
theorem am_r324 : am_rtc 324 = 2 := by decide +kernel
theorem am_l324 : am_ml 324 = 4 := by decide +kernel
def am_s324_ (z : Nat) : Nat → List aV → aM → Option aR := fun j => (fun _ _ => none)
theorem hs324 (z : Nat) : ∀ j2 : Nat, ∃ d2 : Nat, d2 + 1 ≤ 1 ∧ am_Snd d2 j2 (am_s324_ z j2) := by
  intro j2
  unfold am_s324_
  exact ⟨0, by decide, am_Snd_no j2⟩
/-- ArgumentMenderModel.clipped(JI)J -/
def f324 (z : Nat) (y0 : Int64) (x2 : Int32) (M : aM) : Option aR :=
  some (some (.inr (.inl ((y0 <<< (((64 : Int32) - ((8 : Int32) <<< (x2 &&& 31))).toInt64 &&& 63)) >>> (((64 : Int32) - ((8 : Int32) <<< (x2 &&& 31))).toInt64 &&& 63)))), M)
set_option maxRecDepth 100000 in
set_option maxHeartbeats 4000000 in
theorem e324 (z : Nat) : ∀ (y0 : Int64) (x2 : Int32) (M : aM) (r : aR), f324 z y0 x2 M = some r → am_Ev 1 324 0 [some (.inr (.inl y0)), none, some (.inl x2), none] [] M r := by
  intro y0 x2 M r h
  exact am_Ev_seg (sem := am_s324_ z) (cut := ([] : List (Nat × List Bool))) (hs324 z) am_r324 am_k324 (by rw [am_l324]; decide) (fun _ _ _ _ => none) 13 h (fun _ _ _ _ hk => by cases hk)
def F324 (z : Nat) (as : List aV) (M : aM) : Option aR := match as with
  | [.inr (.inl y0), .inl x2] => f324 z y0 x2 M
  | _ => none
theorem S324 (z : Nat) : am_Snd 1 324 (F324 z) := am_meth (by decide +kernel) (fun as M r has h => by
    rw [am_l324]
    unfold F324 at h
    split at h
    · exact ⟨Nat.le_of_ble_eq_true rfl, e324 z _ _ _ _ h⟩
    · cases h)
def cd325_0 : List am_E := [(0, .iload_n 1, 1, 1, 0, 0, 0), (1, .invokestatic 412, 3, 323, 15, 0, 0), (4, .ifCond .eq 21, 3, 25, 0, 0, 0), (7, .iload_n 2, 1, 2, 0, 0, 0), (8, .i2l, 1, 0, 0, 0, 0), (9, .lconst 0, 1, 0, 0, 0, 0), (10, .ldc2_w 445, 3, 0, 0, 0, 3), (13, .invokestatic 103, 3, 170, 35, 0, 0), (16, .ifCond .eq 9, 3, 25, 0, 0, 0), (19, .iload_n 3, 1, 3, 0, 0, 0), (20, .bipush 60, 2, 0, 0, 60, 0), (22, .if_icmp .le 6, 3, 28, 0, 0, 0), (25, .bipush (-2), 2, 0, 0, (-2), 0), (27, .ireturn, 1, 0, 0, 0, 0), (28, .iload_n 3, 1, 3, 0, 0, 0), (29, .ifCond .ge 6, 3, 35, 0, 0, 0), (32, .bipush (-3), 2, 0, 0, (-3), 0), (34, .ireturn, 1, 0, 0, 0, 0), (35, .aload_n 0, 1, 0, 0, 0, 0), (36, .getfield 85, 3, 11, 45, 0, 0), (39, .iload_n 1, 1, 1, 0, 0, 0), (40, .iload_n 3, 1, 3, 0, 0, 0), (41, .iastore, 1, 0, 0, 0, 0), (42, .aload_n 0, 1, 0, 0, 0, 0), (43, .getfield 88, 3, 11, 46, 0, 0), (46, .iload_n 1, 1, 1, 0, 0, 0), (47, .iload_n 2, 1, 2, 0, 0, 0), (48, .iastore, 1, 0, 0, 0, 0), (49, .iconst 0, 1, 0, 0, 0, 0), (50, .istore 4, 2, 4, 0, 0, 0), (52, .iload 4, 2, 4, 0, 0, 0), (54, .bipush 60, 2, 0, 0, 60, 0), (56, .if_icmp .ge 22, 3, 78, 0, 0, 0), (59, .aload_n 0, 1, 0, 0, 0, 0), (60, .getfield 91, 3, 11, 47, 0, 0), (63, .bipush 60, 2, 0, 0, 60, 0), (65, .iload_n 1, 1, 1, 0, 0, 0), (66, .imul, 1, 0, 0, 0, 0), (67, .iload 4, 2, 4, 0, 0, 0), (69, .iadd, 1, 0, 0, 0, 0)]
def cd325_1 : List am_E := [(70, .lconst 0, 1, 0, 0, 0, 0), (71, .lastore, 1, 0, 0, 0, 0), (72, .iinc 4 1, 3, 4, 0, 1, 0), (75, .goto (-23), 3, 52, 0, 0, 0), (78, .iconst 0, 1, 0, 0, 0, 0), (79, .ireturn, 1, 0, 0, 0, 0)]
def cd325 : List am_E := cd325_0 ++ (cd325_1)
def am_w325 : List (List (Int32 × Nat) × Nat) := []
set_option maxRecDepth 100000 in
theorem kcd325_0 : cd325_0.all (am_chk am_w325 325) = true := by decide +kernel
set_option maxRecDepth 100000 in
theorem kcd325_1 : cd325_1.all (am_chk am_w325 325) = true := by decide +kernel
theorem am_k325 : cd325.all (am_chk am_w325 325) = true := by
  simp only [cd325, List.all_append, kcd325_0, kcd325_1, Bool.and_self]
theorem am_r325 : am_rtc 325 = 0 := by decide +kernel
theorem am_l325 : am_ml 325 = 5 := by decide +kernel
def am_s325_ (z : Nat) : Nat → List aV → aM → Option aR := fun j => (match Nat.beq j 170 with
  | true => F170 z
  | false => (match Nat.beq j 323 with
  | true => F323 z
  | false => (fun _ _ => none)))
theorem hs325 (z : Nat) : ∀ j2 : Nat, ∃ d2 : Nat, d2 + 1 ≤ 3 ∧ am_Snd d2 j2 (am_s325_ z j2) := by
  intro j2
  unfold am_s325_
  split
  · rename_i he
    rw [am_beq he]
    exact ⟨_, by decide, S170 z⟩
  · skip
    split
    · rename_i he
      rw [am_beq he]
      exact ⟨_, by decide, S323 z⟩
    · skip
      exact ⟨0, by decide, am_Snd_no j2⟩
def f325_52 (z : Nat) : Nat → Int32 → Int32 → aM → Option aR
  | 0, _, _, _ => none
  | n + 1, x1, x4, M =>
    if (60 : Int32) ≤ x4 then
      some (some (.inl (0 : Int32)), M)
    else
      if am_inB (((60 : Int32) * x1) + x4) 240 then
        let J1 := am_ul M.2 231 (((60 : Int32) * x1) + x4).toNatClampNeg (0 : Int64)
        f325_52 z n x1 (x4 + (1 : Int32)) (M.1, J1)
      else
        none
set_option maxRecDepth 100000 in
set_option maxHeartbeats 4000000 in
theorem e325_52 (z : Nat) : ∀ (n : Nat) (x1 : Int32) (x4 : Int32) (M : aM) (r : aR), f325_52 z n x1 x4 M = some r → am_Ev 3 325 52 [some (.inr (.inr (11, 205))), some (.inl x1), none, none, some (.inl x4)] [] M r := by
  intro n
  induction n with
  | zero =>
    intro x1 x4 M r h
    cases h
  | succ n ih =>
    intro x1 x4 M r h
    exact am_Ev_seg (sem := am_s325_ z) (cut := ([(52, [true, true, false, false, true])] : List (Nat × List Bool))) (hs325 z) am_r325 am_k325 (by rw [am_l325]; decide) (fun pc al st M => (match Nat.beq pc 52 with
      | true => (match al, st with
        | [some (.inr (.inr (11, 205))), some (.inl x1), none, none, some (.inl x4)], [] => f325_52 z n x1 x4 M
        | _, _ => none)
      | false => none)) 16 h (fun pc al st M hk => by
      try dsimp only at hk
      split at hk
      · rename_i he
        rw [am_beq he]
        split at hk
        · exact ih _ _ _ _ hk
        · cases hk
      · cases hk)
/-- ArgumentMenderModel.row(III)I -/
def f325 (z : Nat) (x1 : Int32) (x2 : Int32) (x3 : Int32) (M : aM) : Option aR :=
  am_bi (f323 z x1 M) fun v2 M1 =>
    if v2 = 0 then
      some (some (.inl (-2 : Int32)), M1)
    else
      am_bi (f170 z (Int32.toInt64 x2) (0 : Int64) (3 : Int64) M1) fun v4 M3 =>
        if v4 = 0 then
          some (some (.inl (-2 : Int32)), M3)
        else
          if x3 ≤ (60 : Int32) then
            if 0 ≤ x3 then
              if am_inB x1 4 then
                let I5 := am_u M3.1 229 x1.toNatClampNeg x3
                if am_inB x1 4 then
                  let I6 := am_u I5 230 x1.toNatClampNeg x2
                  f325_52 z z x1 (0 : Int32) (I6, M3.2)
                else
                  none
              else
                none
            else
              some (some (.inl (-3 : Int32)), M3)
          else
            some (some (.inl (-2 : Int32)), M3)
set_option maxRecDepth 100000 in
set_option maxHeartbeats 4000000 in
theorem e325 (z : Nat) : ∀ (x1 : Int32) (x2 : Int32) (x3 : Int32) (M : aM) (r : aR), f325 z x1 x2 x3 M = some r → am_Ev 3 325 0 [some (.inr (.inr (11, 205))), some (.inl x1), some (.inl x2), some (.inl x3), none] [] M r := by
  intro x1 x2 x3 M r h
  exact am_Ev_seg (sem := am_s325_ z) (cut := ([(52, [true, true, false, false, true])] : List (Nat × List Bool))) (hs325 z) am_r325 am_k325 (by rw [am_l325]; decide) (fun pc al st M => (match Nat.beq pc 52 with
      | true => (match al, st with
        | [some (.inr (.inr (11, 205))), some (.inl x1), none, none, some (.inl x4)], [] => f325_52 z z x1 x4 M
        | _, _ => none)
      | false => none)) 28 h (fun pc al st M hk => by
      try dsimp only at hk
      split at hk
      · rename_i he
        rw [am_beq he]
        split at hk
        · exact e325_52 z _ _ _ _ _ hk
        · cases hk
      · cases hk)
def F325 (z : Nat) (as : List aV) (M : aM) : Option aR := match as with
  | [.inr (.inr (11, 205)), .inl x1, .inl x2, .inl x3] => f325 z x1 x2 x3 M
  | _ => none
theorem S325 (z : Nat) : am_Snd 3 325 (F325 z) := am_meth (by decide +kernel) (fun as M r has h => by
    rw [am_l325]
    unfold F325 at h
    split at h
    · exact ⟨Nat.le_of_ble_eq_true rfl, e325 z _ _ _ _ _ h⟩
    · cases h)
