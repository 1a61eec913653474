def cd249_0 : List am_E := [(0, .aload_n 0, 1, 0, 0, 0, 0), (1, .iload_n 1, 1, 1, 0, 0, 0), (2, .invokevirtual 356, 3, 226, 11010, 0, 0), (5, .ifCond .ne 6, 3, 11, 0, 0, 0), (8, .bipush (-2), 2, 0, 0, (-2), 0), (10, .ireturn, 1, 0, 0, 0, 0), (11, .iconst (-1), 1, 0, 0, (-1), 0), (12, .istore_n 2, 1, 2, 0, 0, 0), (13, .iconst 0, 1, 0, 0, 0, 0), (14, .istore_n 3, 1, 3, 0, 0, 0), (15, .iload_n 3, 1, 3, 0, 0, 0), (16, .aload_n 0, 1, 0, 0, 0, 0), (17, .invokevirtual 118, 3, 178, 11000, 0, 0), (20, .if_icmp .ge 40, 3, 60, 0, 0, 0), (23, .aload_n 0, 1, 0, 0, 0, 0), (24, .iload_n 3, 1, 3, 0, 0, 0), (25, .iload_n 1, 1, 1, 0, 0, 0), (26, .invokevirtual 341, 3, 227, 11020, 0, 0), (29, .ifCond .le 25, 3, 54, 0, 0, 0), (32, .iload_n 2, 1, 2, 0, 0, 0), (33, .iconst (-1), 1, 0, 0, (-1), 0), (34, .if_icmp .eq 18, 3, 52, 0, 0, 0), (37, .aload_n 0, 1, 0, 0, 0, 0), (38, .iload_n 3, 1, 3, 0, 0, 0), (39, .iload_n 1, 1, 1, 0, 0, 0), (40, .invokevirtual 341, 3, 227, 11020, 0, 0), (43, .aload_n 0, 1, 0, 0, 0, 0), (44, .iload_n 2, 1, 2, 0, 0, 0), (45, .iload_n 1, 1, 1, 0, 0, 0), (46, .invokevirtual 341, 3, 227, 11020, 0, 0), (49, .if_icmp .ge 5, 3, 54, 0, 0, 0), (52, .iload_n 3, 1, 3, 0, 0, 0), (53, .istore_n 2, 1, 2, 0, 0, 0), (54, .iinc 3 1, 3, 3, 0, 1, 0), (57, .goto (-42), 3, 15, 0, 0, 0), (60, .iload_n 2, 1, 2, 0, 0, 0), (61, .ireturn, 1, 0, 0, 0, 0)]
def cd249 : List am_E := cd249_0
def am_w249 : List (List (Int32 × Nat) × Nat) := []
set_option maxRecDepth 100000 in
theorem kcd249_0 : cd249_0.all (am_chk am_w249 249) = true := by decide +kernel
theorem am_k249 : cd249.all (am_chk am_w249 249) = true := by
  simp only [cd249, List.all_append, kcd249_0, Bool.and_self]
theorem am_r249 : am_rtc 249 = 0 := by decide +kernel
theorem am_l249 : am_ml 249 = 4 := by decide +kernel
def am_s249_ (z : Nat) : Nat → List aV → aM → Option aR := fun j => (match Nat.beq j 178 with
  | true => F178 z
  | false => (match Nat.beq j 226 with
  | true => F226 z
  | false => (match Nat.beq j 227 with
  | true => F227 z
  | false => (fun _ _ => none))))
theorem hs249 (z : Nat) : ∀ j2 : Nat, ∃ d2 : Nat, d2 + 1 ≤ 12 ∧ am_Snd d2 j2 (am_s249_ z j2) := by
  intro j2
  unfold am_s249_
  split
  · rename_i he
    rw [am_beq he]
    exact ⟨_, by decide, S178 z⟩
  · skip
    split
    · rename_i he
      rw [am_beq he]
      exact ⟨_, by decide, S226 z⟩
    · skip
      split
      · rename_i he
        rw [am_beq he]
        exact ⟨_, by decide, S227 z⟩
      · skip
        exact ⟨0, by decide, am_Snd_no j2⟩
def f249_15 (z : Nat) : Nat → Int32 → Int32 → Int32 → aM → Option aR
  | 0, _, _, _, _ => none
  | n + 1, x1, x2, x3, M =>
    am_bi (f178 z M) fun v2 M1 =>
      if v2 ≤ x3 then
        some (some (.inl x2), M1)
      else
        am_bi (f227 z x3 x1 M1) fun v4 M3 =>
          if v4 ≤ 0 then
            f249_15 z n x1 x2 (x3 + (1 : Int32)) M3
          else
            if x2 = (-1 : Int32) then
              f249_15 z n x1 x3 (x3 + (1 : Int32)) M3
            else
              am_bi (f227 z x3 x1 M3) fun v6 M5 =>
                am_bi (f227 z x2 x1 M5) fun v8 M7 =>
                  if v8 ≤ v6 then
                    f249_15 z n x1 x2 (x3 + (1 : Int32)) M7
                  else
                    f249_15 z n x1 x3 (x3 + (1 : Int32)) M7
set_option maxRecDepth 100000 in
set_option maxHeartbeats 4000000 in
theorem e249_15 (z : Nat) : ∀ (n : Nat) (x1 : Int32) (x2 : Int32) (x3 : Int32) (M : aM) (r : aR), f249_15 z n x1 x2 x3 M = some r → am_Ev 12 249 15 [some (.inr (.inr (11, 205))), some (.inl x1), some (.inl x2), some (.inl x3)] [] M r := by
  intro n
  induction n with
  | zero =>
    intro x1 x2 x3 M r h
    cases h
  | succ n ih =>
    intro x1 x2 x3 M r h
    exact am_Ev_seg (sem := am_s249_ z) (cut := ([(15, [true, true, true, true])] : List (Nat × List Bool))) (hs249 z) am_r249 am_k249 (by rw [am_l249]; decide) (fun pc al st M => (match Nat.beq pc 15 with
      | true => (match al, st with
        | [some (.inr (.inr (11, 205))), some (.inl x1), some (.inl x2), some (.inl x3)], [] => f249_15 z n x1 x2 x3 M
        | _, _ => none)
      | false => none)) 27 h (fun pc al st M hk => by
      try dsimp only at hk
      split at hk
      · rename_i he
        rw [am_beq he]
        split at hk
        · exact ih _ _ _ _ _ hk
        · cases hk
      · cases hk)
/-- ArgumentMenderModel.weakest(I)I -/
def f249 (z : Nat) (x1 : Int32) (M : aM) : Option aR :=
  am_bi (f226 z x1 M) fun v2 M1 =>
    if ¬ v2 = 0 then
      f249_15 z z x1 (-1 : Int32) (0 : Int32) M1
    else
      some (some (.inl (-2 : Int32)), M1)
set_option maxRecDepth 100000 in
set_option maxHeartbeats 4000000 in
theorem e249 (z : Nat) : ∀ (x1 : Int32) (M : aM) (r : aR), f249 z x1 M = some r → am_Ev 12 249 0 [some (.inr (.inr (11, 205))), some (.inl x1), none, none] [] M r := by
  intro x1 M r h
  exact am_Ev_seg (sem := am_s249_ z) (cut := ([(15, [true, true, true, true])] : List (Nat × List Bool))) (hs249 z) am_r249 am_k249 (by rw [am_l249]; decide) (fun pc al st M => (match Nat.beq pc 15 with
      | true => (match al, st with
        | [some (.inr (.inr (11, 205))), some (.inl x1), some (.inl x2), some (.inl x3)], [] => f249_15 z z x1 x2 x3 M
        | _, _ => none)
      | false => none)) 10 h (fun pc al st M hk => by
      try dsimp only at hk
      split at hk
      · rename_i he
        rw [am_beq he]
        split at hk
        · exact e249_15 z _ _ _ _ _ _ hk
        · cases hk
      · cases hk)
def F249 (z : Nat) (as : List aV) (M : aM) : Option aR := match as with
  | [.inr (.inr (11, 205)), .inl x1] => f249 z x1 M
  | _ => none
theorem S249 (z : Nat) : am_Snd 12 249 (F249 z) := am_meth (by decide +kernel) (fun as M r has h => by
    rw [am_l249]
    unfold F249 at h
    split at h
    · exact ⟨Nat.le_of_ble_eq_true rfl, e249 z _ _ _ h⟩
    · cases h)
def cd250_0 : List am_E := [(0, .aload_n 0, 1, 0, 0, 0, 0), (1, .iload_n 2, 1, 2, 0, 0, 0), (2, .invokevirtual 356, 3, 226, 11010, 0, 0), (5, .ifCond .eq 11, 3, 16, 0, 0, 0), (8, .aload_n 0, 1, 0, 0, 0, 0), (9, .iload_n 1, 1, 1, 0, 0, 0), (10, .invokevirtual 255, 3, 182, 11010, 0, 0), (13, .ifCond .ne 6, 3, 19, 0, 0, 0), (16, .bipush (-2), 2, 0, 0, (-2), 0), (18, .ireturn, 1, 0, 0, 0, 0), (19, .iconst 0, 1, 0, 0, 0, 0), (20, .istore_n 3, 1, 3, 0, 0, 0), (21, .iload_n 3, 1, 3, 0, 0, 0), (22, .iload_n 1, 1, 1, 0, 0, 0), (23, .if_icmp .gt 140, 3, 163, 0, 0, 0), (26, .aload_n 0, 1, 0, 0, 0, 0), (27, .getfield 70, 3, 11, 34, 0, 0), (30, .iload_n 3, 1, 3, 0, 0, 0), (31, .iconst (-1), 1, 0, 0, (-1), 0), (32, .iastore, 1, 0, 0, 0, 0), (33, .iconst 0, 1, 0, 0, 0, 0), (34, .istore 4, 2, 4, 0, 0, 0), (36, .iload 4, 2, 4, 0, 0, 0), (38, .aload_n 0, 1, 0, 0, 0, 0), (39, .invokevirtual 118, 3, 178, 11000, 0, 0), (42, .if_icmp .ge 115, 3, 157, 0, 0, 0), (45, .aload_n 0, 1, 0, 0, 0, 0), (46, .iload 4, 2, 4, 0, 0, 0), (48, .invokevirtual 252, 3, 185, 11010, 0, 0), (51, .iload_n 3, 1, 3, 0, 0, 0), (52, .if_icmp .ne 99, 3, 151, 0, 0, 0), (55, .aload_n 0, 1, 0, 0, 0, 0), (56, .iload 4, 2, 4, 0, 0, 0), (58, .iload_n 2, 1, 2, 0, 0, 0), (59, .invokevirtual 341, 3, 227, 11020, 0, 0), (62, .ifCond .ne 6, 3, 68, 0, 0, 0), (65, .goto 86, 3, 151, 0, 0, 0), (68, .aload_n 0, 1, 0, 0, 0, 0), (69, .iload 4, 2, 4, 0, 0, 0), (71, .invokevirtual 291, 3, 186, 11010, 0, 0)]
def cd250_1 : List am_E := [(74, .iconst (-1), 1, 0, 0, (-1), 0), (75, .if_icmp .ne 7, 3, 82, 0, 0, 0), (78, .iconst 1, 1, 0, 0, 1, 0), (79, .goto 35, 3, 114, 0, 0, 0), (82, .aload_n 0, 1, 0, 0, 0, 0), (83, .getfield 70, 3, 11, 34, 0, 0), (86, .aload_n 0, 1, 0, 0, 0, 0), (87, .iload 4, 2, 4, 0, 0, 0), (89, .invokevirtual 291, 3, 186, 11010, 0, 0), (92, .iaload, 1, 0, 0, 0, 0), (93, .iconst (-1), 1, 0, 0, (-1), 0), (94, .if_icmp .ne 7, 3, 101, 0, 0, 0), (97, .iconst (-1), 1, 0, 0, (-1), 0), (98, .goto 16, 3, 114, 0, 0, 0), (101, .aload_n 0, 1, 0, 0, 0, 0), (102, .getfield 70, 3, 11, 34, 0, 0), (105, .aload_n 0, 1, 0, 0, 0, 0), (106, .iload 4, 2, 4, 0, 0, 0), (108, .invokevirtual 291, 3, 186, 11010, 0, 0), (111, .iaload, 1, 0, 0, 0, 0), (112, .iconst 1, 1, 0, 0, 1, 0), (113, .iadd, 1, 0, 0, 0, 0), (114, .istore 5, 2, 5, 0, 0, 0), (116, .iload 5, 2, 5, 0, 0, 0), (118, .iconst (-1), 1, 0, 0, (-1), 0), (119, .if_icmp .eq 32, 3, 151, 0, 0, 0), (122, .aload_n 0, 1, 0, 0, 0, 0), (123, .getfield 70, 3, 11, 34, 0, 0), (126, .iload_n 3, 1, 3, 0, 0, 0), (127, .iaload, 1, 0, 0, 0, 0), (128, .iconst (-1), 1, 0, 0, (-1), 0), (129, .if_icmp .eq 14, 3, 143, 0, 0, 0), (132, .iload 5, 2, 5, 0, 0, 0), (134, .aload_n 0, 1, 0, 0, 0, 0), (135, .getfield 70, 3, 11, 34, 0, 0), (138, .iload_n 3, 1, 3, 0, 0, 0), (139, .iaload, 1, 0, 0, 0, 0), (140, .if_icmp .ge 11, 3, 151, 0, 0, 0), (143, .aload_n 0, 1, 0, 0, 0, 0), (144, .getfield 70, 3, 11, 34, 0, 0)]
def cd250_2 : List am_E := [(147, .iload_n 3, 1, 3, 0, 0, 0), (148, .iload 5, 2, 5, 0, 0, 0), (150, .iastore, 1, 0, 0, 0, 0), (151, .iinc 4 1, 3, 4, 0, 1, 0), (154, .goto (-118), 3, 36, 0, 0, 0), (157, .iinc 3 1, 3, 3, 0, 1, 0), (160, .goto (-139), 3, 21, 0, 0, 0), (163, .aload_n 0, 1, 0, 0, 0, 0), (164, .getfield 70, 3, 11, 34, 0, 0), (167, .iload_n 1, 1, 1, 0, 0, 0), (168, .iaload, 1, 0, 0, 0, 0), (169, .ireturn, 1, 0, 0, 0, 0)]
def cd250 : List am_E := cd250_0 ++ (cd250_1 ++ (cd250_2))
def am_w250 : List (List (Int32 × Nat) × Nat) := []
set_option maxRecDepth 100000 in
theorem kcd250_0 : cd250_0.all (am_chk am_w250 250) = true := by decide +kernel
set_option maxRecDepth 100000 in
theorem kcd250_1 : cd250_1.all (am_chk am_w250 250) = true := by decide +kernel
set_option maxRecDepth 100000 in
theorem kcd250_2 : cd250_2.all (am_chk am_w250 250) = true := by decide +kernel
theorem am_k250 : cd250.all (am_chk am_w250 250) = true := by
  simp only [cd250, List.all_append, kcd250_0, kcd250_1, kcd250_2, Bool.and_self]
theorem am_r250 : am_rtc 250 = 0 := by decide +kernel
theorem am_l250 : am_ml 250 = 6 := by decide +kernel
def am_s250_ (z : Nat) : Nat → List aV → aM → Option aR := fun j => (match Nat.beq j 178 with
  | true => F178 z
  | false => (match Nat.beq j 182 with
  | true => F182 z
  | false => (match Nat.beq j 185 with
  | true => F185 z
  | false => (match Nat.beq j 186 with
  | true => F186 z
  | false => (match Nat.beq j 226 with
  | true => F226 z
  | false => (match Nat.beq j 227 with
  | true => F227 z
  | false => (fun _ _ => none)))))))
theorem hs250 (z : Nat) : ∀ j2 : Nat, ∃ d2 : Nat, d2 + 1 ≤ 12 ∧ am_Snd d2 j2 (am_s250_ z j2) := by
  intro j2
  unfold am_s250_
  split
  · rename_i he
    rw [am_beq he]
    exact ⟨_, by decide, S178 z⟩
  · skip
    split
    · rename_i he
      rw [am_beq he]
      exact ⟨_, by decide, S182 z⟩
    · skip
      split
      · rename_i he
        rw [am_beq he]
        exact ⟨_, by decide, S185 z⟩
      · skip
        split
        · rename_i he
          rw [am_beq he]
          exact ⟨_, by decide, S186 z⟩
        · skip
          split
          · rename_i he
            rw [am_beq he]
            exact ⟨_, by decide, S226 z⟩
          · skip
            split
            · rename_i he
              rw [am_beq he]
              exact ⟨_, by decide, S227 z⟩
            · skip
              exact ⟨0, by decide, am_Snd_no j2⟩
def f250_36 (z : Nat) (k21 : Int32 → Int32 → Int32 → aM → Option aR) : Nat → Int32 → Int32 → Int32 → Int32 → aM → Option aR
  | 0, _, _, _, _, _ => none
  | n + 1, x1, x2, x3, x4, M =>
    am_bi (f178 z M) fun v2 M1 =>
      if v2 ≤ x4 then
        k21 x1 x2 (x3 + (1 : Int32)) M1
      else
        am_bi (f185 z x4 M1) fun v4 M3 =>
          if ¬ v4 = x3 then
            f250_36 z k21 n x1 x2 x3 (x4 + (1 : Int32)) M3
          else
            am_bi (f227 z x4 x2 M3) fun v6 M5 =>
              if ¬ v6 = 0 then
                am_bi (f186 z x4 M5) fun v8 M7 =>
                  if ¬ v8 = (-1 : Int32) then
                    am_bi (f186 z x4 M7) fun v10 M9 =>
                      if am_inB v10 8 then
                        if ¬ (M9.1 224 v10.toNatClampNeg) = (-1 : Int32) then
                          am_bi (f186 z x4 M9) fun v12 M11 =>
                            if am_inB v12 8 then
                              if ((M11.1 224 v12.toNatClampNeg) + (1 : Int32)) = (-1 : Int32) then
                                f250_36 z k21 n x1 x2 x3 (x4 + (1 : Int32)) M11
                              else
                                if am_inB x3 8 then
                                  if (M11.1 224 x3.toNatClampNeg) = (-1 : Int32) then
                                    if am_inB x3 8 then
                                      let I13 := am_u M11.1 224 x3.toNatClampNeg ((M11.1 224 v12.toNatClampNeg) + (1 : Int32))
                                      f250_36 z k21 n x1 x2 x3 (x4 + (1 : Int32)) (I13, M11.2)
                                    else
                                      none
                                  else
                                    if am_inB x3 8 then
                                      if (M11.1 224 x3.toNatClampNeg) ≤ ((M11.1 224 v12.toNatClampNeg) + (1 : Int32)) then
                                        f250_36 z k21 n x1 x2 x3 (x4 + (1 : Int32)) M11
                                      else
                                        if am_inB x3 8 then
                                          let I14 := am_u M11.1 224 x3.toNatClampNeg ((M11.1 224 v12.toNatClampNeg) + (1 : Int32))
                                          f250_36 z k21 n x1 x2 x3 (x4 + (1 : Int32)) (I14, M11.2)
                                        else
                                          none
                                    else
                                      none
                                else
                                  none
                            else
                              none
                        else
                          if (-1 : Int32) = (-1 : Int32) then
                            f250_36 z k21 n x1 x2 x3 (x4 + (1 : Int32)) M9
                          else
                            if am_inB x3 8 then
                              if (M9.1 224 x3.toNatClampNeg) = (-1 : Int32) then
                                if am_inB x3 8 then
                                  let I15 := am_u M9.1 224 x3.toNatClampNeg (-1 : Int32)
                                  f250_36 z k21 n x1 x2 x3 (x4 + (1 : Int32)) (I15, M9.2)
                                else
                                  none
                              else
                                if am_inB x3 8 then
                                  if (M9.1 224 x3.toNatClampNeg) ≤ (-1 : Int32) then
                                    f250_36 z k21 n x1 x2 x3 (x4 + (1 : Int32)) M9
                                  else
                                    if am_inB x3 8 then
                                      let I16 := am_u M9.1 224 x3.toNatClampNeg (-1 : Int32)
                                      f250_36 z k21 n x1 x2 x3 (x4 + (1 : Int32)) (I16, M9.2)
                                    else
                                      none
                                else
                                  none
                            else
                              none
                      else
                        none
                  else
                    if (1 : Int32) = (-1 : Int32) then
                      f250_36 z k21 n x1 x2 x3 (x4 + (1 : Int32)) M7
                    else
                      if am_inB x3 8 then
                        if (M7.1 224 x3.toNatClampNeg) = (-1 : Int32) then
                          if am_inB x3 8 then
                            let I17 := am_u M7.1 224 x3.toNatClampNeg (1 : Int32)
                            f250_36 z k21 n x1 x2 x3 (x4 + (1 : Int32)) (I17, M7.2)
                          else
                            none
                        else
                          if am_inB x3 8 then
                            if (M7.1 224 x3.toNatClampNeg) ≤ (1 : Int32) then
                              f250_36 z k21 n x1 x2 x3 (x4 + (1 : Int32)) M7
                            else
                              if am_inB x3 8 then
                                let I18 := am_u M7.1 224 x3.toNatClampNeg (1 : Int32)
                                f250_36 z k21 n x1 x2 x3 (x4 + (1 : Int32)) (I18, M7.2)
                              else
                                none
                          else
                            none
                      else
                        none
              else
                f250_36 z k21 n x1 x2 x3 (x4 + (1 : Int32)) M5
set_option maxRecDepth 100000 in
set_option maxHeartbeats 4000000 in
theorem e250_36 (z : Nat) (k21 : Int32 → Int32 → Int32 → aM → Option aR) (hk21 : ∀ (x1 : Int32) (x2 : Int32) (x3 : Int32) (M : aM) (r : aR), k21 x1 x2 x3 M = some r → am_Ev 12 250 21 [some (.inr (.inr (11, 205))), some (.inl x1), some (.inl x2), some (.inl x3), none, none] [] M r) : ∀ (n : Nat) (x1 : Int32) (x2 : Int32) (x3 : Int32) (x4 : Int32) (M : aM) (r : aR), f250_36 z k21 n x1 x2 x3 x4 M = some r → am_Ev 12 250 36 [some (.inr (.inr (11, 205))), some (.inl x1), some (.inl x2), some (.inl x3), some (.inl x4), none] [] M r := by
  intro n
  induction n with
  | zero =>
    intro x1 x2 x3 x4 M r h
    cases h
  | succ n ih =>
    intro x1 x2 x3 x4 M r h
    exact am_Ev_seg (sem := am_s250_ z) (cut := ([(21, [true, true, true, true, false, false]), (36, [true, true, true, true, true, false])] : List (Nat × List Bool))) (hs250 z) am_r250 am_k250 (by rw [am_l250]; decide) (fun pc al st M => (match Nat.beq pc 21 with
      | true => (match al, st with
        | [some (.inr (.inr (11, 205))), some (.inl x1), some (.inl x2), some (.inl x3), none, none], [] => k21 x1 x2 x3 M
        | _, _ => none)
      | false => (match Nat.beq pc 36 with
      | true => (match al, st with
        | [some (.inr (.inr (11, 205))), some (.inl x1), some (.inl x2), some (.inl x3), some (.inl x4), none], [] => f250_36 z k21 n x1 x2 x3 x4 M
        | _, _ => none)
      | false => none))) 60 h (fun pc al st M hk => by
      try dsimp only at hk
      split at hk
      · rename_i he
        rw [am_beq he]
        split at hk
        · exact hk21 _ _ _ _ _ hk
        · cases hk
      · skip
        split at hk
        · rename_i he
          rw [am_beq he]
          split at hk
          · exact ih _ _ _ _ _ _ hk
          · cases hk
        · cases hk)
def f250_21 (z : Nat) : Nat → Int32 → Int32 → Int32 → aM → Option aR
  | 0, _, _, _, _ => none
  | n + 1, x1, x2, x3, M =>
    if x1 < x3 then
      if am_inB x1 8 then
        some (some (.inl (M.1 224 x1.toNatClampNeg)), M)
      else
        none
    else
      if am_inB x3 8 then
        let I1 := am_u M.1 224 x3.toNatClampNeg (-1 : Int32)
        f250_36 z (f250_21 z n) z x1 x2 x3 (0 : Int32) (I1, M.2)
      else
        none
set_option maxRecDepth 100000 in
set_option maxHeartbeats 4000000 in
theorem e250_21 (z : Nat) : ∀ (n : Nat) (x1 : Int32) (x2 : Int32) (x3 : Int32) (M : aM) (r : aR), f250_21 z n x1 x2 x3 M = some r → am_Ev 12 250 21 [some (.inr (.inr (11, 205))), some (.inl x1), some (.inl x2), some (.inl x3), none, none] [] M r := by
  intro n
  induction n with
  | zero =>
    intro x1 x2 x3 M r h
    cases h
  | succ n ih =>
    intro x1 x2 x3 M r h
    exact am_Ev_seg (sem := am_s250_ z) (cut := ([(36, [true, true, true, true, true, false])] : List (Nat × List Bool))) (hs250 z) am_r250 am_k250 (by rw [am_l250]; decide) (fun pc al st M => (match Nat.beq pc 36 with
      | true => (match al, st with
        | [some (.inr (.inr (11, 205))), some (.inl x1), some (.inl x2), some (.inl x3), some (.inl x4), none], [] => f250_36 z (f250_21 z n) z x1 x2 x3 x4 M
        | _, _ => none)
      | false => none)) 12 h (fun pc al st M hk => by
      try dsimp only at hk
      split at hk
      · rename_i he
        rw [am_beq he]
        split at hk
        · exact e250_36 z _ ih _ _ _ _ _ _ _ hk
        · cases hk
      · cases hk)
/-- ArgumentMenderModel.steps(II)I -/
def f250 (z : Nat) (x1 : Int32) (x2 : Int32) (M : aM) : Option aR :=
  am_bi (f226 z x2 M) fun v2 M1 =>
    if v2 = 0 then
      some (some (.inl (-2 : Int32)), M1)
    else
      am_bi (f182 z x1 M1) fun v4 M3 =>
        if ¬ v4 = 0 then
          f250_21 z z x1 x2 (0 : Int32) M3
        else
          some (some (.inl (-2 : Int32)), M3)
set_option maxRecDepth 100000 in
set_option maxHeartbeats 4000000 in
theorem e250 (z : Nat) : ∀ (x1 : Int32) (x2 : Int32) (M : aM) (r : aR), f250 z x1 x2 M = some r → am_Ev 12 250 0 [some (.inr (.inr (11, 205))), some (.inl x1), some (.inl x2), none, none, none] [] M r := by
  intro x1 x2 M r h
  exact am_Ev_seg (sem := am_s250_ z) (cut := ([(21, [true, true, true, true, false, false])] : List (Nat × List Bool))) (hs250 z) am_r250 am_k250 (by rw [am_l250]; decide) (fun pc al st M => (match Nat.beq pc 21 with
      | true => (match al, st with
        | [some (.inr (.inr (11, 205))), some (.inl x1), some (.inl x2), some (.inl x3), none, none], [] => f250_21 z z x1 x2 x3 M
        | _, _ => none)
      | false => none)) 12 h (fun pc al st M hk => by
      try dsimp only at hk
      split at hk
      · rename_i he
        rw [am_beq he]
        split at hk
        · exact e250_21 z _ _ _ _ _ _ hk
        · cases hk
      · cases hk)
def F250 (z : Nat) (as : List aV) (M : aM) : Option aR := match as with
  | [.inr (.inr (11, 205)), .inl x1, .inl x2] => f250 z x1 x2 M
  | _ => none
theorem S250 (z : Nat) : am_Snd 12 250 (F250 z) := am_meth (by decide +kernel) (fun as M r has h => by
    rw [am_l250]
    unfold F250 at h
    split at h
    · exact ⟨Nat.le_of_ble_eq_true rfl, e250 z _ _ _ _ h⟩
    · cases h)
def cd251_0 : List am_E := [(0, .aload_n 0, 1, 0, 0, 0, 0), (1, .invokevirtual 335, 3, 225, 11000, 0, 0), (4, .pop, 1, 0, 0, 0, 0), (5, .aload_n 0, 1, 0, 0, 0, 0), (6, .iload_n 1, 1, 1, 0, 0, 0), (7, .invokevirtual 245, 3, 184, 11010, 0, 0), (10, .ireturn, 1, 0, 0, 0, 0)]
def cd251 : List am_E := cd251_0
def am_w251 : List (List (Int32 × Nat) × Nat) := []
set_option maxRecDepth 100000 in
theorem kcd251_0 : cd251_0.all (am_chk am_w251 251) = true := by decide +kernel
theorem am_k251 : cd251.all (am_chk am_w251 251) = true := by
  simp only [cd251, List.all_append, kcd251_0, Bool.and_self]
theorem am_r251 : am_rtc 251 = 1 := by decide +kernel
theorem am_l251 : am_ml 251 = 2 := by decide +kernel
def am_s251_ (z : Nat) : Nat → List aV → aM → Option aR := fun j => (match Nat.beq j 184 with
  | true => F184 z
  | false => (match Nat.beq j 225 with
  | true => F225 z
  | false => (fun _ _ => none)))
theorem hs251 (z : Nat) : ∀ j2 : Nat, ∃ d2 : Nat, d2 + 1 ≤ 11 ∧ am_Snd d2 j2 (am_s251_ z j2) := by
  intro j2
  unfold am_s251_
  split
  · rename_i he
    rw [am_beq he]
    exact ⟨_, by decide, S184 z⟩
  · skip
    split
    · rename_i he
      rw [am_beq he]
      exact ⟨_, by decide, S225 z⟩
    · skip
      exact ⟨0, by decide, am_Snd_no j2⟩
/-- ArgumentMenderModel.asksQuarrel(I)Z -/
def f251 (z : Nat) (x1 : Int32) (M : aM) : Option aR :=
  am_bi (f225 z M) fun v2 M1 =>
    am_bi (f184 z x1 M1) fun v4 M3 =>
      some (some (.inl (v4 &&& 1)), M3)
set_option maxRecDepth 100000 in
set_option maxHeartbeats 4000000 in
theorem e251 (z : Nat) : ∀ (x1 : Int32) (M : aM) (r : aR), f251 z x1 M = some r → am_Ev 11 251 0 [some (.inr (.inr (11, 205))), some (.inl x1)] [] M r := by
  intro x1 M r h
  exact am_Ev_seg (sem := am_s251_ z) (cut := ([] : List (Nat × List Bool))) (hs251 z) am_r251 am_k251 (by rw [am_l251]; decide) (fun _ _ _ _ => none) 8 h (fun _ _ _ _ hk => by cases hk)
def F251 (z : Nat) (as : List aV) (M : aM) : Option aR := match as with
  | [.inr (.inr (11, 205)), .inl x1] => f251 z x1 M
  | _ => none
theorem S251 (z : Nat) : am_Snd 11 251 (F251 z) := am_meth (by decide +kernel) (fun as M r has h => by
    rw [am_l251]
    unfold F251 at h
    split at h
    · exact ⟨Nat.le_of_ble_eq_true rfl, e251 z _ _ _ h⟩
    · cases h)
def cd252_0 : List am_E := [(0, .aload_n 0, 1, 0, 0, 0, 0), (1, .getfield 58, 3, 11, 30, 0, 0), (4, .iload_n 1, 1, 1, 0, 0, 0), (5, .iaload, 1, 0, 0, 0, 0), (6, .ifCond .le 7, 3, 13, 0, 0, 0), (9, .iconst 1, 1, 0, 0, 1, 0), (10, .goto 4, 3, 14, 0, 0, 0), (13, .iconst 0, 1, 0, 0, 0, 0), (14, .ireturn, 1, 0, 0, 0, 0)]
def cd252 : List am_E := cd252_0
def am_w252 : List (List (Int32 × Nat) × Nat) := []
set_option maxRecDepth 100000 in
theorem kcd252_0 : cd252_0.all (am_chk am_w252 252) = true := by decide +kernel
theorem am_k252 : cd252.all (am_chk am_w252 252) = true := by
  simp only [cd252, List.all_append, kcd252_0, Bool.and_self]
theorem am_r252 : am_rtc 252 = 1 := by decide +kernel
theorem am_l252 : am_ml 252 = 2 := by decide +kernel
def am_s252_ (z : Nat) : Nat → List aV → aM → Option aR := fun j => (fun _ _ => none)
theorem hs252 (z : Nat) : ∀ j2 : Nat, ∃ d2 : Nat, d2 + 1 ≤ 1 ∧ am_Snd d2 j2 (am_s252_ z j2) := by
  intro j2
  unfold am_s252_
  exact ⟨0, by decide, am_Snd_no j2⟩
/-- ArgumentMenderModel.comes(I)Z -/
def f252 (z : Nat) (x1 : Int32) (M : aM) : Option aR :=
  if am_inB x1 10 then
    if (M.1 220 x1.toNatClampNeg) ≤ 0 then
      some (some (.inl ((0 : Int32) &&& 1)), M)
    else
      some (some (.inl ((1 : Int32) &&& 1)), M)
  else
    none
set_option maxRecDepth 100000 in
set_option maxHeartbeats 4000000 in
theorem e252 (z : Nat) : ∀ (x1 : Int32) (M : aM) (r : aR), f252 z x1 M = some r → am_Ev 1 252 0 [some (.inr (.inr (11, 205))), some (.inl x1)] [] M r := by
  intro x1 M r h
  exact am_Ev_seg (sem := am_s252_ z) (cut := ([] : List (Nat × List Bool))) (hs252 z) am_r252 am_k252 (by rw [am_l252]; decide) (fun _ _ _ _ => none) 9 h (fun _ _ _ _ hk => by cases hk)
def F252 (z : Nat) (as : List aV) (M : aM) : Option aR := match as with
  | [.inr (.inr (11, 205)), .inl x1] => f252 z x1 M
  | _ => none
theorem S252 (z : Nat) : am_Snd 1 252 (F252 z) := am_meth (by decide +kernel) (fun as M r has h => by
    rw [am_l252]
    unfold F252 at h
    split at h
    · exact ⟨Nat.le_of_ble_eq_true rfl, e252 z _ _ _ h⟩
    · cases h)
def cd253_0 : List am_E := [(0, .aload_n 0, 1, 0, 0, 0, 0), (1, .iload_n 1, 1, 1, 0, 0, 0), (2, .invokevirtual 375, 3, 251, 11010, 0, 0), (5, .ifCond .eq 12, 3, 17, 0, 0, 0), (8, .aload_n 0, 1, 0, 0, 0, 0), (9, .iload_n 2, 1, 2, 0, 0, 0), (10, .i2l, 1, 0, 0, 0, 0), (11, .invokevirtual 241, 3, 183, 11010, 0, 0), (14, .ifCond .ne 6, 3, 20, 0, 0, 0), (17, .bipush (-2), 2, 0, 0, (-2), 0), (19, .ireturn, 1, 0, 0, 0, 0), (20, .aload_n 0, 1, 0, 0, 0, 0), (21, .iload_n 1, 1, 1, 0, 0, 0), (22, .invokevirtual 378, 3, 252, 11010, 0, 0), (25, .ifCond .eq 17, 3, 42, 0, 0, 0), (28, .aload_n 0, 1, 0, 0, 0, 0), (29, .getfield 55, 3, 11, 29, 0, 0), (32, .bipush 16, 2, 0, 0, 16, 0), (34, .iload_n 1, 1, 1, 0, 0, 0), (35, .imul, 1, 0, 0, 0, 0), (36, .iload_n 2, 1, 2, 0, 0, 0), (37, .iadd, 1, 0, 0, 0, 0), (38, .iaload, 1, 0, 0, 0, 0), (39, .goto 4, 3, 43, 0, 0, 0), (42, .iconst (-1), 1, 0, 0, (-1), 0), (43, .ireturn, 1, 0, 0, 0, 0)]
def cd253 : List am_E := cd253_0
def am_w253 : List (List (Int32 × Nat) × Nat) := []
set_option maxRecDepth 100000 in
theorem kcd253_0 : cd253_0.all (am_chk am_w253 253) = true := by decide +kernel
theorem am_k253 : cd253.all (am_chk am_w253 253) = true := by
  simp only [cd253, List.all_append, kcd253_0, Bool.and_self]
theorem am_r253 : am_rtc 253 = 0 := by decide +kernel
theorem am_l253 : am_ml 253 = 3 := by decide +kernel
def am_s253_ (z : Nat) : Nat → List aV → aM → Option aR := fun j => (match Nat.beq j 183 with
  | true => F183 z
  | false => (match Nat.beq j 251 with
  | true => F251 z
  | false => (match Nat.beq j 252 with
  | true => F252 z
  | false => (fun _ _ => none))))
theorem hs253 (z : Nat) : ∀ j2 : Nat, ∃ d2 : Nat, d2 + 1 ≤ 12 ∧ am_Snd d2 j2 (am_s253_ z j2) := by
  intro j2
  unfold am_s253_
  split
  · rename_i he
    rw [am_beq he]
    exact ⟨_, by decide, S183 z⟩
  · skip
    split
    · rename_i he
      rw [am_beq he]
      exact ⟨_, by decide, S251 z⟩
    · skip
      split
      · rename_i he
        rw [am_beq he]
        exact ⟨_, by decide, S252 z⟩
      · skip
        exact ⟨0, by decide, am_Snd_no j2⟩
/-- ArgumentMenderModel.has(II)I -/
def f253 (z : Nat) (x1 : Int32) (x2 : Int32) (M : aM) : Option aR :=
  am_bi (f251 z x1 M) fun v2 M1 =>
    if v2 = 0 then
      some (some (.inl (-2 : Int32)), M1)
    else
      am_bi (f183 z (Int32.toInt64 x2) M1) fun v4 M3 =>
        if ¬ v4 = 0 then
          am_bi (f252 z x1 M3) fun v6 M5 =>
            if v6 = 0 then
              some (some (.inl (-1 : Int32)), M5)
            else
              if am_inB (((16 : Int32) * x1) + x2) 160 then
                some (some (.inl (M5.1 219 (((16 : Int32) * x1) + x2).toNatClampNeg)), M5)
              else
                none
        else
          some (some (.inl (-2 : Int32)), M3)
set_option maxRecDepth 100000 in
set_option maxHeartbeats 4000000 in
theorem e253 (z : Nat) : ∀ (x1 : Int32) (x2 : Int32) (M : aM) (r : aR), f253 z x1 x2 M = some r → am_Ev 12 253 0 [some (.inr (.inr (11, 205))), some (.inl x1), some (.inl x2)] [] M r := by
  intro x1 x2 M r h
  exact am_Ev_seg (sem := am_s253_ z) (cut := ([] : List (Nat × List Bool))) (hs253 z) am_r253 am_k253 (by rw [am_l253]; decide) (fun _ _ _ _ => none) 24 h (fun _ _ _ _ hk => by cases hk)
def F253 (z : Nat) (as : List aV) (M : aM) : Option aR := match as with
  | [.inr (.inr (11, 205)), .inl x1, .inl x2] => f253 z x1 x2 M
  | _ => none
theorem S253 (z : Nat) : am_Snd 12 253 (F253 z) := am_meth (by decide +kernel) (fun as M r has h => by
    rw [am_l253]
    unfold F253 at h
    split at h
    · exact ⟨Nat.le_of_ble_eq_true rfl, e253 z _ _ _ _ h⟩
    · cases h)
def cd254_0 : List am_E := [(0, .aload_n 0, 1, 0, 0, 0, 0), (1, .iload_n 1, 1, 1, 0, 0, 0), (2, .invokevirtual 375, 3, 251, 11010, 0, 0), (5, .ifCond .eq 12, 3, 17, 0, 0, 0), (8, .aload_n 0, 1, 0, 0, 0, 0), (9, .getfield 58, 3, 11, 30, 0, 0), (12, .iload_n 1, 1, 1, 0, 0, 0), (13, .iaload, 1, 0, 0, 0, 0), (14, .goto 5, 3, 19, 0, 0, 0), (17, .bipush (-2), 2, 0, 0, (-2), 0), (19, .ireturn, 1, 0, 0, 0, 0)]
def cd254 : List am_E := cd254_0
def am_w254 : List (List (Int32 × Nat) × Nat) := []
set_option maxRecDepth 100000 in
theorem kcd254_0 : cd254_0.all (am_chk am_w254 254) = true := by decide +kernel
theorem am_k254 : cd254.all (am_chk am_w254 254) = true := by
  simp only [cd254, List.all_append, kcd254_0, Bool.and_self]
theorem am_r254 : am_rtc 254 = 0 := by decide +kernel
theorem am_l254 : am_ml 254 = 2 := by decide +kernel
def am_s254_ (z : Nat) : Nat → List aV → aM → Option aR := fun j => (match Nat.beq j 251 with
  | true => F251 z
  | false => (fun _ _ => none))
theorem hs254 (z : Nat) : ∀ j2 : Nat, ∃ d2 : Nat, d2 + 1 ≤ 12 ∧ am_Snd d2 j2 (am_s254_ z j2) := by
  intro j2
  unfold am_s254_
  split
  · rename_i he
    rw [am_beq he]
    exact ⟨_, by decide, S251 z⟩
  · skip
    exact ⟨0, by decide, am_Snd_no j2⟩
/-- ArgumentMenderModel.pulls(I)I -/
def f254 (z : Nat) (x1 : Int32) (M : aM) : Option aR :=
  am_bi (f251 z x1 M) fun v2 M1 =>
    if v2 = 0 then
      some (some (.inl (-2 : Int32)), M1)
    else
      if am_inB x1 10 then
        some (some (.inl (M1.1 220 x1.toNatClampNeg)), M1)
      else
        none
set_option maxRecDepth 100000 in
set_option maxHeartbeats 4000000 in
theorem e254 (z : Nat) : ∀ (x1 : Int32) (M : aM) (r : aR), f254 z x1 M = some r → am_Ev 12 254 0 [some (.inr (.inr (11, 205))), some (.inl x1)] [] M r := by
  intro x1 M r h
  exact am_Ev_seg (sem := am_s254_ z) (cut := ([] : List (Nat × List Bool))) (hs254 z) am_r254 am_k254 (by rw [am_l254]; decide) (fun _ _ _ _ => none) 11 h (fun _ _ _ _ hk => by cases hk)
def F254 (z : Nat) (as : List aV) (M : aM) : Option aR := match as with
  | [.inr (.inr (11, 205)), .inl x1] => f254 z x1 M
  | _ => none
theorem S254 (z : Nat) : am_Snd 12 254 (F254 z) := am_meth (by decide +kernel) (fun as M r has h => by
    rw [am_l254]
    unfold F254 at h
    split at h
    · exact ⟨Nat.le_of_ble_eq_true rfl, e254 z _ _ _ h⟩
    · cases h)
def cd255_0 : List am_E := [(0, .aload_n 0, 1, 0, 0, 0, 0), (1, .iload_n 1, 1, 1, 0, 0, 0), (2, .invokevirtual 375, 3, 251, 11010, 0, 0), (5, .ifCond .eq 12, 3, 17, 0, 0, 0), (8, .aload_n 0, 1, 0, 0, 0, 0), (9, .getfield 61, 3, 11, 31, 0, 0), (12, .iload_n 1, 1, 1, 0, 0, 0), (13, .iaload, 1, 0, 0, 0, 0), (14, .goto 5, 3, 19, 0, 0, 0), (17, .bipush (-2), 2, 0, 0, (-2), 0), (19, .ireturn, 1, 0, 0, 0, 0)]
def cd255 : List am_E := cd255_0
def am_w255 : List (List (Int32 × Nat) × Nat) := []
set_option maxRecDepth 100000 in
theorem kcd255_0 : cd255_0.all (am_chk am_w255 255) = true := by decide +kernel
theorem am_k255 : cd255.all (am_chk am_w255 255) = true := by
  simp only [cd255, List.all_append, kcd255_0, Bool.and_self]
theorem am_r255 : am_rtc 255 = 0 := by decide +kernel
theorem am_l255 : am_ml 255 = 2 := by decide +kernel
def am_s255_ (z : Nat) : Nat → List aV → aM → Option aR := fun j => (match Nat.beq j 251 with
  | true => F251 z
  | false => (fun _ _ => none))
theorem hs255 (z : Nat) : ∀ j2 : Nat, ∃ d2 : Nat, d2 + 1 ≤ 12 ∧ am_Snd d2 j2 (am_s255_ z j2) := by
  intro j2
  unfold am_s255_
  split
  · rename_i he
    rw [am_beq he]
    exact ⟨_, by decide, S251 z⟩
  · skip
    exact ⟨0, by decide, am_Snd_no j2⟩
/-- ArgumentMenderModel.rips(I)I -/
def f255 (z : Nat) (x1 : Int32) (M : aM) : Option aR :=
  am_bi (f251 z x1 M) fun v2 M1 =>
    if v2 = 0 then
      some (some (.inl (-2 : Int32)), M1)
    else
      if am_inB x1 10 then
        some (some (.inl (M1.1 221 x1.toNatClampNeg)), M1)
      else
        none
set_option maxRecDepth 100000 in
set_option maxHeartbeats 4000000 in
theorem e255 (z : Nat) : ∀ (x1 : Int32) (M : aM) (r : aR), f255 z x1 M = some r → am_Ev 12 255 0 [some (.inr (.inr (11, 205))), some (.inl x1)] [] M r := by
  intro x1 M r h
  exact am_Ev_seg (sem := am_s255_ z) (cut := ([] : List (Nat × List Bool))) (hs255 z) am_r255 am_k255 (by rw [am_l255]; decide) (fun _ _ _ _ => none) 11 h (fun _ _ _ _ hk => by cases hk)
def F255 (z : Nat) (as : List aV) (M : aM) : Option aR := match as with
  | [.inr (.inr (11, 205)), .inl x1] => f255 z x1 M
  | _ => none
theorem S255 (z : Nat) : am_Snd 12 255 (F255 z) := am_meth (by decide +kernel) (fun as M r has h => by
    rw [am_l255]
    unfold F255 at h
    split at h
    · exact ⟨Nat.le_of_ble_eq_true rfl, e255 z _ _ _ h⟩
    · cases h)
def cd256_0 : List am_E := [(0, .aload_n 0, 1, 0, 0, 0, 0), (1, .iload_n 1, 1, 1, 0, 0, 0), (2, .invokevirtual 375, 3, 251, 11010, 0, 0), (5, .ifCond .ne 6, 3, 11, 0, 0, 0), (8, .bipush (-2), 2, 0, 0, (-2), 0), (10, .ireturn, 1, 0, 0, 0, 0), (11, .aload_n 0, 1, 0, 0, 0, 0), (12, .iload_n 1, 1, 1, 0, 0, 0), (13, .invokevirtual 378, 3, 252, 11010, 0, 0), (16, .ifCond .eq 12, 3, 28, 0, 0, 0), (19, .aload_n 0, 1, 0, 0, 0, 0), (20, .getfield 64, 3, 11, 32, 0, 0), (23, .iload_n 1, 1, 1, 0, 0, 0), (24, .iaload, 1, 0, 0, 0, 0), (25, .goto 4, 3, 29, 0, 0, 0), (28, .iconst (-1), 1, 0, 0, (-1), 0), (29, .ireturn, 1, 0, 0, 0, 0)]
def cd256 : List am_E := cd256_0
def am_w256 : List (List (Int32 × Nat) × Nat) := []
set_option maxRecDepth 100000 in
theorem kcd256_0 : cd256_0.all (am_chk am_w256 256) = true := by decide +kernel
theorem am_k256 : cd256.all (am_chk am_w256 256) = true := by
  simp only [cd256, List.all_append, kcd256_0, Bool.and_self]
theorem am_r256 : am_rtc 256 = 0 := by decide +kernel
theorem am_l256 : am_ml 256 = 2 := by decide +kernel
def am_s256_ (z : Nat) : Nat → List aV → aM → Option aR := fun j => (match Nat.beq j 251 with
  | true => F251 z
  | false => (match Nat.beq j 252 with
  | true => F252 z
  | false => (fun _ _ => none)))
theorem hs256 (z : Nat) : ∀ j2 : Nat, ∃ d2 : Nat, d2 + 1 ≤ 12 ∧ am_Snd d2 j2 (am_s256_ z j2) := by
  intro j2
  unfold am_s256_
  split
  · rename_i he
    rw [am_beq he]
    exact ⟨_, by decide, S251 z⟩
  · skip
    split
    · rename_i he
      rw [am_beq he]
      exact ⟨_, by decide, S252 z⟩
    · skip
      exact ⟨0, by decide, am_Snd_no j2⟩
/-- ArgumentMenderModel.through(I)I -/
def f256 (z : Nat) (x1 : Int32) (M : aM) : Option aR :=
  am_bi (f251 z x1 M) fun v2 M1 =>
    if ¬ v2 = 0 then
      am_bi (f252 z x1 M1) fun v4 M3 =>
        if v4 = 0 then
          some (some (.inl (-1 : Int32)), M3)
        else
          if am_inB x1 10 then
            some (some (.inl (M3.1 222 x1.toNatClampNeg)), M3)
          else
            none
    else
      some (some (.inl (-2 : Int32)), M1)
set_option maxRecDepth 100000 in
set_option maxHeartbeats 4000000 in
theorem e256 (z : Nat) : ∀ (x1 : Int32) (M : aM) (r : aR), f256 z x1 M = some r → am_Ev 12 256 0 [some (.inr (.inr (11, 205))), some (.inl x1)] [] M r := by
  intro x1 M r h
  exact am_Ev_seg (sem := am_s256_ z) (cut := ([] : List (Nat × List Bool))) (hs256 z) am_r256 am_k256 (by rw [am_l256]; decide) (fun _ _ _ _ => none) 15 h (fun _ _ _ _ hk => by cases hk)
def F256 (z : Nat) (as : List aV) (M : aM) : Option aR := match as with
  | [.inr (.inr (11, 205)), .inl x1] => f256 z x1 M
  | _ => none
theorem S256 (z : Nat) : am_Snd 12 256 (F256 z) := am_meth (by decide +kernel) (fun as M r has h => by
    rw [am_l256]
    unfold F256 at h
    split at h
    · exact ⟨Nat.le_of_ble_eq_true rfl, e256 z _ _ _ h⟩
    · cases h)
def cd257_0 : List am_E := [(0, .aload_n 0, 1, 0, 0, 0, 0), (1, .iload_n 1, 1, 1, 0, 0, 0), (2, .invokevirtual 375, 3, 251, 11010, 0, 0), (5, .ifCond .ne 6, 3, 11, 0, 0, 0), (8, .bipush (-2), 2, 0, 0, (-2), 0), (10, .ireturn, 1, 0, 0, 0, 0), (11, .aload_n 0, 1, 0, 0, 0, 0), (12, .iload_n 1, 1, 1, 0, 0, 0), (13, .invokevirtual 378, 3, 252, 11010, 0, 0), (16, .ifCond .eq 12, 3, 28, 0, 0, 0), (19, .aload_n 0, 1, 0, 0, 0, 0), (20, .getfield 67, 3, 11, 33, 0, 0), (23, .iload_n 1, 1, 1, 0, 0, 0), (24, .iaload, 1, 0, 0, 0, 0), (25, .goto 4, 3, 29, 0, 0, 0), (28, .iconst (-1), 1, 0, 0, (-1), 0), (29, .ireturn, 1, 0, 0, 0, 0)]
def cd257 : List am_E := cd257_0
def am_w257 : List (List (Int32 × Nat) × Nat) := []
set_option maxRecDepth 100000 in
theorem kcd257_0 : cd257_0.all (am_chk am_w257 257) = true := by decide +kernel
theorem am_k257 : cd257.all (am_chk am_w257 257) = true := by
  simp only [cd257, List.all_append, kcd257_0, Bool.and_self]
theorem am_r257 : am_rtc 257 = 0 := by decide +kernel
theorem am_l257 : am_ml 257 = 2 := by decide +kernel
def am_s257_ (z : Nat) : Nat → List aV → aM → Option aR := fun j => (match Nat.beq j 251 with
  | true => F251 z
  | false => (match Nat.beq j 252 with
  | true => F252 z
  | false => (fun _ _ => none)))
theorem hs257 (z : Nat) : ∀ j2 : Nat, ∃ d2 : Nat, d2 + 1 ≤ 12 ∧ am_Snd d2 j2 (am_s257_ z j2) := by
  intro j2
  unfold am_s257_
  split
  · rename_i he
    rw [am_beq he]
    exact ⟨_, by decide, S251 z⟩
  · skip
    split
    · rename_i he
      rw [am_beq he]
      exact ⟨_, by decide, S252 z⟩
    · skip
      exact ⟨0, by decide, am_Snd_no j2⟩
/-- ArgumentMenderModel.hem(I)I -/
def f257 (z : Nat) (x1 : Int32) (M : aM) : Option aR :=
  am_bi (f251 z x1 M) fun v2 M1 =>
    if ¬ v2 = 0 then
      am_bi (f252 z x1 M1) fun v4 M3 =>
        if v4 = 0 then
          some (some (.inl (-1 : Int32)), M3)
        else
          if am_inB x1 10 then
            some (some (.inl (M3.1 223 x1.toNatClampNeg)), M3)
          else
            none
    else
      some (some (.inl (-2 : Int32)), M1)
set_option maxRecDepth 100000 in
set_option maxHeartbeats 4000000 in
theorem e257 (z : Nat) : ∀ (x1 : Int32) (M : aM) (r : aR), f257 z x1 M = some r → am_Ev 12 257 0 [some (.inr (.inr (11, 205))), some (.inl x1)] [] M r := by
  intro x1 M r h
  exact am_Ev_seg (sem := am_s257_ z) (cut := ([] : List (Nat × List Bool))) (hs257 z) am_r257 am_k257 (by rw [am_l257]; decide) (fun _ _ _ _ => none) 15 h (fun _ _ _ _ hk => by cases hk)
def F257 (z : Nat) (as : List aV) (M : aM) : Option aR := match as with
  | [.inr (.inr (11, 205)), .inl x1] => f257 z x1 M
  | _ => none
theorem S257 (z : Nat) : am_Snd 12 257 (F257 z) := am_meth (by decide +kernel) (fun as M r has h => by
    rw [am_l257]
    unfold F257 at h
    split at h
    · exact ⟨Nat.le_of_ble_eq_true rfl, e257 z _ _ _ h⟩
    · cases h)
def cd258_0 : List am_E := [(0, .aload_n 0, 1, 0, 0, 0, 0), (1, .invokevirtual 335, 3, 225, 11000, 0, 0), (4, .ifCond .ne 6, 3, 10, 0, 0, 0), (7, .bipush (-2), 2, 0, 0, (-2), 0), (9, .ireturn, 1, 0, 0, 0, 0), (10, .iconst 0, 1, 0, 0, 0, 0), (11, .istore_n 1, 1, 1, 0, 0, 0), (12, .iconst 0, 1, 0, 0, 0, 0), (13, .istore_n 2, 1, 2, 0, 0, 0), (14, .iload_n 2, 1, 2, 0, 0, 0), (15, .aload_n 0, 1, 0, 0, 0, 0), (16, .invokevirtual 121, 3, 179, 11000, 0, 0), (19, .if_icmp .ge 36, 3, 55, 0, 0, 0), (22, .iload_n 1, 1, 1, 0, 0, 0), (23, .aload_n 0, 1, 0, 0, 0, 0), (24, .iload_n 2, 1, 2, 0, 0, 0), (25, .invokevirtual 378, 3, 252, 11010, 0, 0), (28, .ifCond .eq 18, 3, 46, 0, 0, 0), (31, .aload_n 0, 1, 0, 0, 0, 0), (32, .getfield 64, 3, 11, 32, 0, 0), (35, .iload_n 2, 1, 2, 0, 0, 0), (36, .iaload, 1, 0, 0, 0, 0), (37, .ifCond .le 9, 3, 46, 0, 0, 0), (40, .iconst 1, 1, 0, 0, 1, 0), (41, .iload_n 2, 1, 2, 0, 0, 0), (42, .ishl, 1, 0, 0, 0, 0), (43, .goto 4, 3, 47, 0, 0, 0), (46, .iconst 0, 1, 0, 0, 0, 0), (47, .ior, 1, 0, 0, 0, 0), (48, .istore_n 1, 1, 1, 0, 0, 0), (49, .iinc 2 1, 3, 2, 0, 1, 0), (52, .goto (-38), 3, 14, 0, 0, 0), (55, .iload_n 1, 1, 1, 0, 0, 0), (56, .ireturn, 1, 0, 0, 0, 0)]
def cd258 : List am_E := cd258_0
def am_w258 : List (List (Int32 × Nat) × Nat) := []
set_option maxRecDepth 100000 in
theorem kcd258_0 : cd258_0.all (am_chk am_w258 258) = true := by decide +kernel
theorem am_k258 : cd258.all (am_chk am_w258 258) = true := by
  simp only [cd258, List.all_append, kcd258_0, Bool.and_self]
theorem am_r258 : am_rtc 258 = 0 := by decide +kernel
theorem am_l258 : am_ml 258 = 3 := by decide +kernel
def am_s258_ (z : Nat) : Nat → List aV → aM → Option aR := fun j => (match Nat.beq j 179 with
  | true => F179 z
  | false => (match Nat.beq j 225 with
  | true => F225 z
  | false => (match Nat.beq j 252 with
  | true => F252 z
  | false => (fun _ _ => none))))
theorem hs258 (z : Nat) : ∀ j2 : Nat, ∃ d2 : Nat, d2 + 1 ≤ 11 ∧ am_Snd d2 j2 (am_s258_ z j2) := by
  intro j2
  unfold am_s258_
  split
  · rename_i he
    rw [am_beq he]
    exact ⟨_, by decide, S179 z⟩
  · skip
    split
    · rename_i he
      rw [am_beq he]
      exact ⟨_, by decide, S225 z⟩
    · skip
      split
      · rename_i he
        rw [am_beq he]
        exact ⟨_, by decide, S252 z⟩
      · skip
        exact ⟨0, by decide, am_Snd_no j2⟩
def f258_14 (z : Nat) : Nat → Int32 → Int32 → aM → Option aR
  | 0, _, _, _ => none
  | n + 1, x1, x2, M =>
    am_bi (f179 z M) fun v2 M1 =>
      if v2 ≤ x2 then
        some (some (.inl x1), M1)
      else
        am_bi (f252 z x2 M1) fun v4 M3 =>
          if v4 = 0 then
            f258_14 z n (x1 ||| (0 : Int32)) (x2 + (1 : Int32)) M3
          else
            if am_inB x2 10 then
              if (M3.1 222 x2.toNatClampNeg) ≤ 0 then
                f258_14 z n (x1 ||| (0 : Int32)) (x2 + (1 : Int32)) M3
              else
                f258_14 z n (x1 ||| ((1 : Int32) <<< (x2 &&& 31))) (x2 + (1 : Int32)) M3
            else
              none
set_option maxRecDepth 100000 in
set_option maxHeartbeats 4000000 in
theorem e258_14 (z : Nat) : ∀ (n : Nat) (x1 : Int32) (x2 : Int32) (M : aM) (r : aR), f258_14 z n x1 x2 M = some r → am_Ev 11 258 14 [some (.inr (.inr (11, 205))), some (.inl x1), some (.inl x2)] [] M r := by
  intro n
  induction n with
  | zero =>
    intro x1 x2 M r h
    cases h
  | succ n ih =>
    intro x1 x2 M r h
    exact am_Ev_seg (sem := am_s258_ z) (cut := ([(14, [true, true, true])] : List (Nat × List Bool))) (hs258 z) am_r258 am_k258 (by rw [am_l258]; decide) (fun pc al st M => (match Nat.beq pc 14 with
      | true => (match al, st with
        | [some (.inr (.inr (11, 205))), some (.inl x1), some (.inl x2)], [] => f258_14 z n x1 x2 M
        | _, _ => none)
      | false => none)) 24 h (fun pc al st M hk => by
      try dsimp only at hk
      split at hk
      · rename_i he
        rw [am_beq he]
        split at hk
        · exact ih _ _ _ _ hk
        · cases hk
      · cases hk)
/-- ArgumentMenderModel.loud()I -/
def f258 (z : Nat) (M : aM) : Option aR :=
  am_bi (f225 z M) fun v2 M1 =>
    if ¬ v2 = 0 then
      f258_14 z z (0 : Int32) (0 : Int32) M1
    else
      some (some (.inl (-2 : Int32)), M1)
set_option maxRecDepth 100000 in
set_option maxHeartbeats 4000000 in
theorem e258 (z : Nat) : ∀ (M : aM) (r : aR), f258 z  M = some r → am_Ev 11 258 0 [some (.inr (.inr (11, 205))), none, none] [] M r := by
  intro  M r h
  exact am_Ev_seg (sem := am_s258_ z) (cut := ([(14, [true, true, true])] : List (Nat × List Bool))) (hs258 z) am_r258 am_k258 (by rw [am_l258]; decide) (fun pc al st M => (match Nat.beq pc 14 with
      | true => (match al, st with
        | [some (.inr (.inr (11, 205))), some (.inl x1), some (.inl x2)], [] => f258_14 z z x1 x2 M
        | _, _ => none)
      | false => none)) 9 h (fun pc al st M hk => by
      try dsimp only at hk
      split at hk
      · rename_i he
        rw [am_beq he]
        split at hk
        · exact e258_14 z _ _ _ _ _ hk
        · cases hk
      · cases hk)
def F258 (z : Nat) (as : List aV) (M : aM) : Option aR := match as with
  | [.inr (.inr (11, 205))] => f258 z  M
  | _ => none
theorem S258 (z : Nat) : am_Snd 11 258 (F258 z) := am_meth (by decide +kernel) (fun as M r has h => by
    rw [am_l258]
    unfold F258 at h
    split at h
    · exact ⟨Nat.le_of_ble_eq_true rfl, e258 z _ _ h⟩
    · cases h)
def cd259_0 : List am_E := [(0, .aload_n 0, 1, 0, 0, 0, 0), (1, .invokevirtual 335, 3, 225, 11000, 0, 0), (4, .ifCond .ne 6, 3, 10, 0, 0, 0), (7, .bipush (-2), 2, 0, 0, (-2), 0), (9, .ireturn, 1, 0, 0, 0, 0), (10, .iconst (-1), 1, 0, 0, (-1), 0), (11, .istore_n 1, 1, 1, 0, 0, 0), (12, .iconst 0, 1, 0, 0, 0, 0), (13, .istore_n 2, 1, 2, 0, 0, 0), (14, .iload_n 2, 1, 2, 0, 0, 0), (15, .aload_n 0, 1, 0, 0, 0, 0), (16, .invokevirtual 121, 3, 179, 11000, 0, 0), (19, .if_icmp .ge 41, 3, 60, 0, 0, 0), (22, .aload_n 0, 1, 0, 0, 0, 0), (23, .getfield 61, 3, 11, 31, 0, 0), (26, .iload_n 2, 1, 2, 0, 0, 0), (27, .iaload, 1, 0, 0, 0, 0), (28, .invokestatic 372, 3, 171, 15, 0, 0), (31, .iload_n 1, 1, 1, 0, 0, 0), (32, .iconst (-1), 1, 0, 0, (-1), 0), (33, .if_icmp .ne 7, 3, 40, 0, 0, 0), (36, .iconst 0, 1, 0, 0, 0, 0), (37, .goto 12, 3, 49, 0, 0, 0), (40, .aload_n 0, 1, 0, 0, 0, 0), (41, .getfield 61, 3, 11, 31, 0, 0), (44, .iload_n 1, 1, 1, 0, 0, 0), (45, .iaload, 1, 0, 0, 0, 0), (46, .invokestatic 372, 3, 171, 15, 0, 0), (49, .if_icmp .le 5, 3, 54, 0, 0, 0), (52, .iload_n 2, 1, 2, 0, 0, 0), (53, .istore_n 1, 1, 1, 0, 0, 0), (54, .iinc 2 1, 3, 2, 0, 1, 0), (57, .goto (-43), 3, 14, 0, 0, 0), (60, .iload_n 1, 1, 1, 0, 0, 0), (61, .ireturn, 1, 0, 0, 0, 0)]
def cd259 : List am_E := cd259_0
def am_w259 : List (List (Int32 × Nat) × Nat) := []
set_option maxRecDepth 100000 in
theorem kcd259_0 : cd259_0.all (am_chk am_w259 259) = true := by decide +kernel
theorem am_k259 : cd259.all (am_chk am_w259 259) = true := by
  simp only [cd259, List.all_append, kcd259_0, Bool.and_self]
theorem am_r259 : am_rtc 259 = 0 := by decide +kernel
theorem am_l259 : am_ml 259 = 3 := by decide +kernel
def am_s259_ (z : Nat) : Nat → List aV → aM → Option aR := fun j => (match Nat.beq j 171 with
  | true => F171 z
  | false => (match Nat.beq j 179 with
  | true => F179 z
  | false => (match Nat.beq j 225 with
  | true => F225 z
  | false => (fun _ _ => none))))
theorem hs259 (z : Nat) : ∀ j2 : Nat, ∃ d2 : Nat, d2 + 1 ≤ 11 ∧ am_Snd d2 j2 (am_s259_ z j2) := by
  intro j2
  unfold am_s259_
  split
  · rename_i he
    rw [am_beq he]
    exact ⟨_, by decide, S171 z⟩
  · skip
    split
    · rename_i he
      rw [am_beq he]
      exact ⟨_, by decide, S179 z⟩
    · skip
      split
      · rename_i he
        rw [am_beq he]
        exact ⟨_, by decide, S225 z⟩
      · skip
        exact ⟨0, by decide, am_Snd_no j2⟩
def f259_14 (z : Nat) : Nat → Int32 → Int32 → aM → Option aR
  | 0, _, _, _ => none
  | n + 1, x1, x2, M =>
    am_bi (f179 z M) fun v2 M1 =>
      if v2 ≤ x2 then
        some (some (.inl x1), M1)
      else
        if am_inB x2 10 then
          am_bi (f171 z (M1.1 221 x2.toNatClampNeg) M1) fun v4 M3 =>
            if ¬ x1 = (-1 : Int32) then
              if am_inB x1 10 then
                am_bi (f171 z (M3.1 221 x1.toNatClampNeg) M3) fun v6 M5 =>
                  if v4 ≤ v6 then
                    f259_14 z n x1 (x2 + (1 : Int32)) M5
                  else
                    f259_14 z n x2 (x2 + (1 : Int32)) M5
              else
                none
            else
              if v4 ≤ (0 : Int32) then
                f259_14 z n x1 (x2 + (1 : Int32)) M3
              else
                f259_14 z n x2 (x2 + (1 : Int32)) M3
        else
          none
set_option maxRecDepth 100000 in
set_option maxHeartbeats 4000000 in
theorem e259_14 (z : Nat) : ∀ (n : Nat) (x1 : Int32) (x2 : Int32) (M : aM) (r : aR), f259_14 z n x1 x2 M = some r → am_Ev 11 259 14 [some (.inr (.inr (11, 205))), some (.inl x1), some (.inl x2)] [] M r := by
  intro n
  induction n with
  | zero =>
    intro x1 x2 M r h
    cases h
  | succ n ih =>
    intro x1 x2 M r h
    exact am_Ev_seg (sem := am_s259_ z) (cut := ([(14, [true, true, true])] : List (Nat × List Bool))) (hs259 z) am_r259 am_k259 (by rw [am_l259]; decide) (fun pc al st M => (match Nat.beq pc 14 with
      | true => (match al, st with
        | [some (.inr (.inr (11, 205))), some (.inl x1), some (.inl x2)], [] => f259_14 z n x1 x2 M
        | _, _ => none)
      | false => none)) 24 h (fun pc al st M hk => by
      try dsimp only at hk
      split at hk
      · rename_i he
        rw [am_beq he]
        split at hk
        · exact ih _ _ _ _ hk
        · cases hk
      · cases hk)
/-- ArgumentMenderModel.worst()I -/
def f259 (z : Nat) (M : aM) : Option aR :=
  am_bi (f225 z M) fun v2 M1 =>
    if ¬ v2 = 0 then
      f259_14 z z (-1 : Int32) (0 : Int32) M1
    else
      some (some (.inl (-2 : Int32)), M1)
set_option maxRecDepth 100000 in
set_option maxHeartbeats 4000000 in
theorem e259 (z : Nat) : ∀ (M : aM) (r : aR), f259 z  M = some r → am_Ev 11 259 0 [some (.inr (.inr (11, 205))), none, none] [] M r := by
  intro  M r h
  exact am_Ev_seg (sem := am_s259_ z) (cut := ([(14, [true, true, true])] : List (Nat × List Bool))) (hs259 z) am_r259 am_k259 (by rw [am_l259]; decide) (fun pc al st M => (match Nat.beq pc 14 with
      | true => (match al, st with
        | [some (.inr (.inr (11, 205))), some (.inl x1), some (.inl x2)], [] => f259_14 z z x1 x2 M
        | _, _ => none)
      | false => none)) 9 h (fun pc al st M hk => by
      try dsimp only at hk
      split at hk
      · rename_i he
        rw [am_beq he]
        split at hk
        · exact e259_14 z _ _ _ _ _ hk
        · cases hk
      · cases hk)
def F259 (z : Nat) (as : List aV) (M : aM) : Option aR := match as with
  | [.inr (.inr (11, 205))] => f259 z  M
  | _ => none
theorem S259 (z : Nat) : am_Snd 11 259 (F259 z) := am_meth (by decide +kernel) (fun as M r has h => by
    rw [am_l259]
    unfold F259 at h
    split at h
    · exact ⟨Nat.le_of_ble_eq_true rfl, e259 z _ _ h⟩
    · cases h)
def cd260_0 : List am_E := [(0, .aload_n 0, 1, 0, 0, 0, 0), (1, .invokevirtual 335, 3, 225, 11000, 0, 0), (4, .pop, 1, 0, 0, 0, 0), (5, .aload_n 0, 1, 0, 0, 0, 0), (6, .iload_n 1, 1, 1, 0, 0, 0), (7, .i2l, 1, 0, 0, 0, 0), (8, .invokevirtual 241, 3, 183, 11010, 0, 0), (11, .ifCond .eq 12, 3, 23, 0, 0, 0), (14, .aload_n 0, 1, 0, 0, 0, 0), (15, .getfield 49, 3, 11, 27, 0, 0), (18, .iload_n 1, 1, 1, 0, 0, 0), (19, .iaload, 1, 0, 0, 0, 0), (20, .goto 5, 3, 25, 0, 0, 0), (23, .bipush (-2), 2, 0, 0, (-2), 0), (25, .ireturn, 1, 0, 0, 0, 0)]
def cd260 : List am_E := cd260_0
def am_w260 : List (List (Int32 × Nat) × Nat) := []
set_option maxRecDepth 100000 in
theorem kcd260_0 : cd260_0.all (am_chk am_w260 260) = true := by decide +kernel
theorem am_k260 : cd260.all (am_chk am_w260 260) = true := by
  simp only [cd260, List.all_append, kcd260_0, Bool.and_self]
theorem am_r260 : am_rtc 260 = 0 := by decide +kernel
theorem am_l260 : am_ml 260 = 2 := by decide +kernel
def am_s260_ (z : Nat) : Nat → List aV → aM → Option aR := fun j => (match Nat.beq j 183 with
  | true => F183 z
  | false => (match Nat.beq j 225 with
  | true => F225 z
  | false => (fun _ _ => none)))
theorem hs260 (z : Nat) : ∀ j2 : Nat, ∃ d2 : Nat, d2 + 1 ≤ 11 ∧ am_Snd d2 j2 (am_s260_ z j2) := by
  intro j2
  unfold am_s260_
  split
  · rename_i he
    rw [am_beq he]
    exact ⟨_, by decide, S183 z⟩
  · skip
    split
    · rename_i he
      rw [am_beq he]
      exact ⟨_, by decide, S225 z⟩
    · skip
      exact ⟨0, by decide, am_Snd_no j2⟩
/-- ArgumentMenderModel.bears(I)I -/
def f260 (z : Nat) (x1 : Int32) (M : aM) : Option aR :=
  am_bi (f225 z M) fun v2 M1 =>
    am_bi (f183 z (Int32.toInt64 x1) M1) fun v4 M3 =>
      if v4 = 0 then
        some (some (.inl (-2 : Int32)), M3)
      else
        if am_inB x1 16 then
          some (some (.inl (M3.1 217 x1.toNatClampNeg)), M3)
        else
          none
set_option maxRecDepth 100000 in
set_option maxHeartbeats 4000000 in
theorem e260 (z : Nat) : ∀ (x1 : Int32) (M : aM) (r : aR), f260 z x1 M = some r → am_Ev 11 260 0 [some (.inr (.inr (11, 205))), some (.inl x1)] [] M r := by
  intro x1 M r h
  exact am_Ev_seg (sem := am_s260_ z) (cut := ([] : List (Nat × List Bool))) (hs260 z) am_r260 am_k260 (by rw [am_l260]; decide) (fun _ _ _ _ => none) 15 h (fun _ _ _ _ hk => by cases hk)
def F260 (z : Nat) (as : List aV) (M : aM) : Option aR := match as with
  | [.inr (.inr (11, 205)), .inl x1] => f260 z x1 M
  | _ => none
theorem S260 (z : Nat) : am_Snd 11 260 (F260 z) := am_meth (by decide +kernel) (fun as M r has h => by
    rw [am_l260]
    unfold F260 at h
    split at h
    · exact ⟨Nat.le_of_ble_eq_true rfl, e260 z _ _ _ h⟩
    · cases h)
def cd261_0 : List am_E := [(0, .aload_n 0, 1, 0, 0, 0, 0), (1, .invokevirtual 335, 3, 225, 11000, 0, 0), (4, .pop, 1, 0, 0, 0, 0), (5, .aload_n 0, 1, 0, 0, 0, 0), (6, .iload_n 1, 1, 1, 0, 0, 0), (7, .i2l, 1, 0, 0, 0, 0), (8, .invokevirtual 241, 3, 183, 11010, 0, 0), (11, .ifCond .eq 12, 3, 23, 0, 0, 0), (14, .aload_n 0, 1, 0, 0, 0, 0), (15, .getfield 46, 3, 11, 26, 0, 0), (18, .iload_n 1, 1, 1, 0, 0, 0), (19, .iaload, 1, 0, 0, 0, 0), (20, .goto 5, 3, 25, 0, 0, 0), (23, .bipush (-2), 2, 0, 0, (-2), 0), (25, .ireturn, 1, 0, 0, 0, 0)]
def cd261 : List am_E := cd261_0
def am_w261 : List (List (Int32 × Nat) × Nat) := []
set_option maxRecDepth 100000 in
theorem kcd261_0 : cd261_0.all (am_chk am_w261 261) = true := by decide +kernel
theorem am_k261 : cd261.all (am_chk am_w261 261) = true := by
  simp only [cd261, List.all_append, kcd261_0, Bool.and_self]
theorem am_r261 : am_rtc 261 = 0 := by decide +kernel
theorem am_l261 : am_ml 261 = 2 := by decide +kernel
def am_s261_ (z : Nat) : Nat → List aV → aM → Option aR := fun j => (match Nat.beq j 183 with
  | true => F183 z
  | false => (match Nat.beq j 225 with
  | true => F225 z
  | false => (fun _ _ => none)))
theorem hs261 (z : Nat) : ∀ j2 : Nat, ∃ d2 : Nat, d2 + 1 ≤ 11 ∧ am_Snd d2 j2 (am_s261_ z j2) := by
  intro j2
  unfold am_s261_
  split
  · rename_i he
    rw [am_beq he]
    exact ⟨_, by decide, S183 z⟩
  · skip
    split
    · rename_i he
      rw [am_beq he]
      exact ⟨_, by decide, S225 z⟩
    · skip
      exact ⟨0, by decide, am_Snd_no j2⟩
/-- ArgumentMenderModel.worn(I)I -/
def f261 (z : Nat) (x1 : Int32) (M : aM) : Option aR :=
  am_bi (f225 z M) fun v2 M1 =>
    am_bi (f183 z (Int32.toInt64 x1) M1) fun v4 M3 =>
      if v4 = 0 then
        some (some (.inl (-2 : Int32)), M3)
      else
        if am_inB x1 16 then
          some (some (.inl (M3.1 216 x1.toNatClampNeg)), M3)
        else
          none
set_option maxRecDepth 100000 in
set_option maxHeartbeats 4000000 in
theorem e261 (z : Nat) : ∀ (x1 : Int32) (M : aM) (r : aR), f261 z x1 M = some r → am_Ev 11 261 0 [some (.inr (.inr (11, 205))), some (.inl x1)] [] M r := by
  intro x1 M r h
  exact am_Ev_seg (sem := am_s261_ z) (cut := ([] : List (Nat × List Bool))) (hs261 z) am_r261 am_k261 (by rw [am_l261]; decide) (fun _ _ _ _ => none) 15 h (fun _ _ _ _ hk => by cases hk)
def F261 (z : Nat) (as : List aV) (M : aM) : Option aR := match as with
  | [.inr (.inr (11, 205)), .inl x1] => f261 z x1 M
  | _ => none
theorem S261 (z : Nat) : am_Snd 11 261 (F261 z) := am_meth (by decide +kernel) (fun as M r has h => by
    rw [am_l261]
    unfold F261 at h
    split at h
    · exact ⟨Nat.le_of_ble_eq_true rfl, e261 z _ _ _ h⟩
    · cases h)
def cd262_0 : List am_E := [(0, .aload_n 0, 1, 0, 0, 0, 0), (1, .invokevirtual 335, 3, 225, 11000, 0, 0), (4, .ifCond .ne 6, 3, 10, 0, 0, 0), (7, .bipush (-2), 2, 0, 0, (-2), 0), (9, .ireturn, 1, 0, 0, 0, 0), (10, .iconst 0, 1, 0, 0, 0, 0), (11, .istore_n 1, 1, 1, 0, 0, 0), (12, .iconst 0, 1, 0, 0, 0, 0), (13, .istore_n 2, 1, 2, 0, 0, 0), (14, .iload_n 2, 1, 2, 0, 0, 0), (15, .aload_n 0, 1, 0, 0, 0, 0), (16, .invokevirtual 118, 3, 178, 11000, 0, 0), (19, .if_icmp .ge 28, 3, 47, 0, 0, 0), (22, .iload_n 1, 1, 1, 0, 0, 0), (23, .aload_n 0, 1, 0, 0, 0, 0), (24, .getfield 49, 3, 11, 27, 0, 0), (27, .iload_n 2, 1, 2, 0, 0, 0), (28, .iaload, 1, 0, 0, 0, 0), (29, .ifCond .ne 9, 3, 38, 0, 0, 0), (32, .iconst 1, 1, 0, 0, 1, 0), (33, .iload_n 2, 1, 2, 0, 0, 0), (34, .ishl, 1, 0, 0, 0, 0), (35, .goto 4, 3, 39, 0, 0, 0), (38, .iconst 0, 1, 0, 0, 0, 0), (39, .ior, 1, 0, 0, 0, 0), (40, .istore_n 1, 1, 1, 0, 0, 0), (41, .iinc 2 1, 3, 2, 0, 1, 0), (44, .goto (-30), 3, 14, 0, 0, 0), (47, .iload_n 1, 1, 1, 0, 0, 0), (48, .ireturn, 1, 0, 0, 0, 0)]
def cd262 : List am_E := cd262_0
def am_w262 : List (List (Int32 × Nat) × Nat) := []
set_option maxRecDepth 100000 in
theorem kcd262_0 : cd262_0.all (am_chk am_w262 262) = true := by decide +kernel
theorem am_k262 : cd262.all (am_chk am_w262 262) = true := by
  simp only [cd262, List.all_append, kcd262_0, Bool.and_self]
theorem am_r262 : am_rtc 262 = 0 := by decide +kernel
theorem am_l262 : am_ml 262 = 3 := by decide +kernel
def am_s262_ (z : Nat) : Nat → List aV → aM → Option aR := fun j => (match Nat.beq j 178 with
  | true => F178 z
  | false => (match Nat.beq j 225 with
  | true => F225 z
  | false => (fun _ _ => none)))
theorem hs262 (z : Nat) : ∀ j2 : Nat, ∃ d2 : Nat, d2 + 1 ≤ 11 ∧ am_Snd d2 j2 (am_s262_ z j2) := by
  intro j2
  unfold am_s262_
  split
  · rename_i he
    rw [am_beq he]
    exact ⟨_, by decide, S178 z⟩
  · skip
    split
    · rename_i he
      rw [am_beq he]
      exact ⟨_, by decide, S225 z⟩
    · skip
      exact ⟨0, by decide, am_Snd_no j2⟩
def f262_14 (z : Nat) : Nat → Int32 → Int32 → aM → Option aR
  | 0, _, _, _ => none
  | n + 1, x1, x2, M =>
    am_bi (f178 z M) fun v2 M1 =>
      if v2 ≤ x2 then
        some (some (.inl x1), M1)
      else
        if am_inB x2 16 then
          if ¬ (M1.1 217 x2.toNatClampNeg) = 0 then
            f262_14 z n (x1 ||| (0 : Int32)) (x2 + (1 : Int32)) M1
          else
            f262_14 z n (x1 ||| ((1 : Int32) <<< (x2 &&& 31))) (x2 + (1 : Int32)) M1
        else
          none
set_option maxRecDepth 100000 in
set_option maxHeartbeats 4000000 in
theorem e262_14 (z : Nat) : ∀ (n : Nat) (x1 : Int32) (x2 : Int32) (M : aM) (r : aR), f262_14 z n x1 x2 M = some r → am_Ev 11 262 14 [some (.inr (.inr (11, 205))), some (.inl x1), some (.inl x2)] [] M r := by
  intro n
  induction n with
  | zero =>
    intro x1 x2 M r h
    cases h
  | succ n ih =>
    intro x1 x2 M r h
    exact am_Ev_seg (sem := am_s262_ z) (cut := ([(14, [true, true, true])] : List (Nat × List Bool))) (hs262 z) am_r262 am_k262 (by rw [am_l262]; decide) (fun pc al st M => (match Nat.beq pc 14 with
      | true => (match al, st with
        | [some (.inr (.inr (11, 205))), some (.inl x1), some (.inl x2)], [] => f262_14 z n x1 x2 M
        | _, _ => none)
      | false => none)) 20 h (fun pc al st M hk => by
      try dsimp only at hk
      split at hk
      · rename_i he
        rw [am_beq he]
        split at hk
        · exact ih _ _ _ _ hk
        · cases hk
      · cases hk)
/-- ArgumentMenderModel.idle()I -/
def f262 (z : Nat) (M : aM) : Option aR :=
  am_bi (f225 z M) fun v2 M1 =>
    if ¬ v2 = 0 then
      f262_14 z z (0 : Int32) (0 : Int32) M1
    else
      some (some (.inl (-2 : Int32)), M1)
set_option maxRecDepth 100000 in
set_option maxHeartbeats 4000000 in
theorem e262 (z : Nat) : ∀ (M : aM) (r : aR), f262 z  M = some r → am_Ev 11 262 0 [some (.inr (.inr (11, 205))), none, none] [] M r := by
  intro  M r h
  exact am_Ev_seg (sem := am_s262_ z) (cut := ([(14, [true, true, true])] : List (Nat × List Bool))) (hs262 z) am_r262 am_k262 (by rw [am_l262]; decide) (fun pc al st M => (match Nat.beq pc 14 with
      | true => (match al, st with
        | [some (.inr (.inr (11, 205))), some (.inl x1), some (.inl x2)], [] => f262_14 z z x1 x2 M
        | _, _ => none)
      | false => none)) 9 h (fun pc al st M hk => by
      try dsimp only at hk
      split at hk
      · rename_i he
        rw [am_beq he]
        split at hk
        · exact e262_14 z _ _ _ _ _ hk
        · cases hk
      · cases hk)
def F262 (z : Nat) (as : List aV) (M : aM) : Option aR := match as with
  | [.inr (.inr (11, 205))] => f262 z  M
  | _ => none
theorem S262 (z : Nat) : am_Snd 11 262 (F262 z) := am_meth (by decide +kernel) (fun as M r has h => by
    rw [am_l262]
    unfold F262 at h
    split at h
    · exact ⟨Nat.le_of_ble_eq_true rfl, e262 z _ _ h⟩
    · cases h)
def cd263_0 : List am_E := [(0, .iconst 0, 1, 0, 0, 0, 0), (1, .istore 4, 2, 4, 0, 0, 0), (3, .iload 4, 2, 4, 0, 0, 0), (5, .bipush 16, 2, 0, 0, 16, 0), (7, .if_icmp .ge 23, 3, 30, 0, 0, 0), (10, .aload_n 0, 1, 0, 0, 0, 0), (11, .getfield 37, 3, 11, 19, 0, 0), (14, .iload 4, 2, 4, 0, 0, 0), (16, .aload_n 0, 1, 0, 0, 0, 0), (17, .iload 4, 2, 4, 0, 0, 0), (19, .iload_n 3, 1, 3, 0, 0, 0), (20, .invokevirtual 341, 3, 227, 11020, 0, 0), (23, .iastore, 1, 0, 0, 0, 0), (24, .iinc 4 1, 3, 4, 0, 1, 0), (27, .goto (-24), 3, 3, 0, 0, 0), (30, .aload_n 0, 1, 0, 0, 0, 0), (31, .iload_n 1, 1, 1, 0, 0, 0), (32, .iload_n 2, 1, 2, 0, 0, 0), (33, .invokevirtual 320, 3, 220, 11024, 0, 0), (36, .return_, 1, 0, 0, 0, 0)]
def cd263 : List am_E := cd263_0
def am_w263 : List (List (Int32 × Nat) × Nat) := []
set_option maxRecDepth 100000 in
theorem kcd263_0 : cd263_0.all (am_chk am_w263 263) = true := by decide +kernel
theorem am_k263 : cd263.all (am_chk am_w263 263) = true := by
  simp only [cd263, List.all_append, kcd263_0, Bool.and_self]
theorem am_r263 : am_rtc 263 = 4 := by decide +kernel
theorem am_l263 : am_ml 263 = 5 := by decide +kernel
def am_s263_ (z : Nat) : Nat → List aV → aM → Option aR := fun j => (match Nat.beq j 220 with
  | true => F220 z
  | false => (match Nat.beq j 227 with
  | true => F227 z
  | false => (fun _ _ => none)))
theorem hs263 (z : Nat) : ∀ j2 : Nat, ∃ d2 : Nat, d2 + 1 ≤ 8 ∧ am_Snd d2 j2 (am_s263_ z j2) := by
  intro j2
  unfold am_s263_
  split
  · rename_i he
    rw [am_beq he]
    exact ⟨_, by decide, S220 z⟩
  · skip
    split
    · rename_i he
      rw [am_beq he]
      exact ⟨_, by decide, S227 z⟩
    · skip
      exact ⟨0, by decide, am_Snd_no j2⟩
def f263_3 (z : Nat) : Nat → Int32 → Int32 → Int32 → Int32 → aM → Option aR
  | 0, _, _, _, _, _ => none
  | n + 1, x1, x2, x3, x4, M =>
    if (16 : Int32) ≤ x4 then
      am_bv (f220 z x1 x2 M) fun M1 =>
        some (none, M1)
    else
      am_bi (f227 z x4 x3 M) fun v3 M2 =>
        if am_inB x4 16 then
          let I4 := am_u M2.1 213 x4.toNatClampNeg v3
          f263_3 z n x1 x2 x3 (x4 + (1 : Int32)) (I4, M2.2)
        else
          none
set_option maxRecDepth 100000 in
set_option maxHeartbeats 4000000 in
theorem e263_3 (z : Nat) : ∀ (n : Nat) (x1 : Int32) (x2 : Int32) (x3 : Int32) (x4 : Int32) (M : aM) (r : aR), f263_3 z n x1 x2 x3 x4 M = some r → am_Ev 8 263 3 [some (.inr (.inr (11, 205))), some (.inl x1), some (.inl x2), some (.inl x3), some (.inl x4)] [] M r := by
  intro n
  induction n with
  | zero =>
    intro x1 x2 x3 x4 M r h
    cases h
  | succ n ih =>
    intro x1 x2 x3 x4 M r h
    exact am_Ev_seg (sem := am_s263_ z) (cut := ([(3, [true, true, true, true, true])] : List (Nat × List Bool))) (hs263 z) am_r263 am_k263 (by rw [am_l263]; decide) (fun pc al st M => (match Nat.beq pc 3 with
      | true => (match al, st with
        | [some (.inr (.inr (11, 205))), some (.inl x1), some (.inl x2), some (.inl x3), some (.inl x4)], [] => f263_3 z n x1 x2 x3 x4 M
        | _, _ => none)
      | false => none)) 15 h (fun pc al st M hk => by
      try dsimp only at hk
      split at hk
      · rename_i he
        rw [am_beq he]
        split at hk
        · exact ih _ _ _ _ _ _ hk
        · cases hk
      · cases hk)
/-- ArgumentMenderModel.tryOn(III)V -/
def f263 (z : Nat) (x1 : Int32) (x2 : Int32) (x3 : Int32) (M : aM) : Option aR :=
  f263_3 z z x1 x2 x3 (0 : Int32) M
set_option maxRecDepth 100000 in
set_option maxHeartbeats 4000000 in
theorem e263 (z : Nat) : ∀ (x1 : Int32) (x2 : Int32) (x3 : Int32) (M : aM) (r : aR), f263 z x1 x2 x3 M = some r → am_Ev 8 263 0 [some (.inr (.inr (11, 205))), some (.inl x1), some (.inl x2), some (.inl x3), none] [] M r := by
  intro x1 x2 x3 M r h
  exact am_Ev_seg (sem := am_s263_ z) (cut := ([(3, [true, true, true, true, true])] : List (Nat × List Bool))) (hs263 z) am_r263 am_k263 (by rw [am_l263]; decide) (fun pc al st M => (match Nat.beq pc 3 with
      | true => (match al, st with
        | [some (.inr (.inr (11, 205))), some (.inl x1), some (.inl x2), some (.inl x3), some (.inl x4)], [] => f263_3 z z x1 x2 x3 x4 M
        | _, _ => none)
      | false => none)) 4 h (fun pc al st M hk => by
      try dsimp only at hk
      split at hk
      · rename_i he
        rw [am_beq he]
        split at hk
        · exact e263_3 z _ _ _ _ _ _ _ hk
        · cases hk
      · cases hk)
def F263 (z : Nat) (as : List aV) (M : aM) : Option aR := match as with
  | [.inr (.inr (11, 205)), .inl x1, .inl x2, .inl x3] => f263 z x1 x2 x3 M
  | _ => none
theorem S263 (z : Nat) : am_Snd 8 263 (F263 z) := am_meth (by decide +kernel) (fun as M r has h => by
    rw [am_l263]
    unfold F263 at h
    split at h
    · exact ⟨Nat.le_of_ble_eq_true rfl, e263 z _ _ _ _ _ h⟩
    · cases h)
def cd264_0 : List am_E := [(0, .aload_n 0, 1, 0, 0, 0, 0), (1, .iload_n 3, 1, 3, 0, 0, 0), (2, .invokevirtual 356, 3, 226, 11010, 0, 0), (5, .ifCond .eq 23, 3, 28, 0, 0, 0), (8, .aload_n 0, 1, 0, 0, 0, 0), (9, .iload_n 1, 1, 1, 0, 0, 0), (10, .invokevirtual 255, 3, 182, 11010, 0, 0), (13, .ifCond .eq 15, 3, 28, 0, 0, 0), (16, .iload_n 2, 1, 2, 0, 0, 0), (17, .i2l, 1, 0, 0, 0, 0), (18, .lconst 1, 1, 0, 0, 0, 1), (19, .ldc2_w 381, 3, 0, 0, 0, 200), (22, .invokestatic 103, 3, 170, 35, 0, 0), (25, .ifCond .ne 5, 3, 30, 0, 0, 0), (28, .iconst 0, 1, 0, 0, 0, 0), (29, .ireturn, 1, 0, 0, 0, 0), (30, .aload_n 0, 1, 0, 0, 0, 0), (31, .iload_n 1, 1, 1, 0, 0, 0), (32, .iload_n 2, 1, 2, 0, 0, 0), (33, .iload_n 3, 1, 3, 0, 0, 0), (34, .invokevirtual 383, 3, 263, 11034, 0, 0), (37, .iconst 1, 1, 0, 0, 1, 0), (38, .ireturn, 1, 0, 0, 0, 0)]
def cd264 : List am_E := cd264_0
def am_w264 : List (List (Int32 × Nat) × Nat) := []
set_option maxRecDepth 100000 in
theorem kcd264_0 : cd264_0.all (am_chk am_w264 264) = true := by decide +kernel
theorem am_k264 : cd264.all (am_chk am_w264 264) = true := by
  simp only [cd264, List.all_append, kcd264_0, Bool.and_self]
theorem am_r264 : am_rtc 264 = 1 := by decide +kernel
theorem am_l264 : am_ml 264 = 4 := by decide +kernel
def am_s264_ (z : Nat) : Nat → List aV → aM → Option aR := fun j => (match Nat.beq j 170 with
  | true => F170 z
  | false => (match Nat.beq j 182 with
  | true => F182 z
  | false => (match Nat.beq j 226 with
  | true => F226 z
  | false => (match Nat.beq j 263 with
  | true => F263 z
  | false => (fun _ _ => none)))))
theorem hs264 (z : Nat) : ∀ j2 : Nat, ∃ d2 : Nat, d2 + 1 ≤ 12 ∧ am_Snd d2 j2 (am_s264_ z j2) := by
  intro j2
  unfold am_s264_
  split
  · rename_i he
    rw [am_beq he]
    exact ⟨_, by decide, S170 z⟩
  · skip
    split
    · rename_i he
      rw [am_beq he]
      exact ⟨_, by decide, S182 z⟩
    · skip
      split
      · rename_i he
        rw [am_beq he]
        exact ⟨_, by decide, S226 z⟩
      · skip
        split
        · rename_i he
          rw [am_beq he]
          exact ⟨_, by decide, S263 z⟩
        · skip
          exact ⟨0, by decide, am_Snd_no j2⟩
/-- ArgumentMenderModel.asksTry(III)Z -/
def f264 (z : Nat) (x1 : Int32) (x2 : Int32) (x3 : Int32) (M : aM) : Option aR :=
  am_bi (f226 z x3 M) fun v2 M1 =>
    if v2 = 0 then
      some (some (.inl ((0 : Int32) &&& 1)), M1)
    else
      am_bi (f182 z x1 M1) fun v4 M3 =>
        if v4 = 0 then
          some (some (.inl ((0 : Int32) &&& 1)), M3)
        else
          am_bi (f170 z (Int32.toInt64 x2) (1 : Int64) (200 : Int64) M3) fun v6 M5 =>
            if ¬ v6 = 0 then
              am_bv (f263 z x1 x2 x3 M5) fun M7 =>
                some (some (.inl ((1 : Int32) &&& 1)), M7)
            else
              some (some (.inl ((0 : Int32) &&& 1)), M5)
set_option maxRecDepth 100000 in
set_option maxHeartbeats 4000000 in
theorem e264 (z : Nat) : ∀ (x1 : Int32) (x2 : Int32) (x3 : Int32) (M : aM) (r : aR), f264 z x1 x2 x3 M = some r → am_Ev 12 264 0 [some (.inr (.inr (11, 205))), some (.inl x1), some (.inl x2), some (.inl x3)] [] M r := by
  intro x1 x2 x3 M r h
  exact am_Ev_seg (sem := am_s264_ z) (cut := ([] : List (Nat × List Bool))) (hs264 z) am_r264 am_k264 (by rw [am_l264]; decide) (fun _ _ _ _ => none) 22 h (fun _ _ _ _ hk => by cases hk)
def F264 (z : Nat) (as : List aV) (M : aM) : Option aR := match as with
  | [.inr (.inr (11, 205)), .inl x1, .inl x2, .inl x3] => f264 z x1 x2 x3 M
  | _ => none
theorem S264 (z : Nat) : am_Snd 12 264 (F264 z) := am_meth (by decide +kernel) (fun as M r has h => by
    rw [am_l264]
    unfold F264 at h
    split at h
    · exact ⟨Nat.le_of_ble_eq_true rfl, e264 z _ _ _ _ _ h⟩
    · cases h)
def cd265_0 : List am_E := [(0, .aload_n 0, 1, 0, 0, 0, 0), (1, .iload_n 1, 1, 1, 0, 0, 0), (2, .iload_n 2, 1, 2, 0, 0, 0), (3, .iload_n 3, 1, 3, 0, 0, 0), (4, .invokevirtual 386, 3, 264, 11030, 0, 0), (7, .ifCond .eq 13, 3, 20, 0, 0, 0), (10, .aload_n 0, 1, 0, 0, 0, 0), (11, .getfield 306, 3, 11, 25, 0, 0), (14, .invokestatic 372, 3, 171, 15, 0, 0), (17, .goto 5, 3, 22, 0, 0, 0), (20, .bipush (-2), 2, 0, 0, (-2), 0), (22, .ireturn, 1, 0, 0, 0, 0)]
def cd265 : List am_E := cd265_0
def am_w265 : List (List (Int32 × Nat) × Nat) := []
set_option maxRecDepth 100000 in
theorem kcd265_0 : cd265_0.all (am_chk am_w265 265) = true := by decide +kernel
theorem am_k265 : cd265.all (am_chk am_w265 265) = true := by
  simp only [cd265, List.all_append, kcd265_0, Bool.and_self]
theorem am_r265 : am_rtc 265 = 0 := by decide +kernel
theorem am_l265 : am_ml 265 = 4 := by decide +kernel
def am_s265_ (z : Nat) : Nat → List aV → aM → Option aR := fun j => (match Nat.beq j 171 with
  | true => F171 z
  | false => (match Nat.beq j 264 with
  | true => F264 z
  | false => (fun _ _ => none)))
theorem hs265 (z : Nat) : ∀ j2 : Nat, ∃ d2 : Nat, d2 + 1 ≤ 13 ∧ am_Snd d2 j2 (am_s265_ z j2) := by
  intro j2
  unfold am_s265_
  split
  · rename_i he
    rw [am_beq he]
    exact ⟨_, by decide, S171 z⟩
  · skip
    split
    · rename_i he
      rw [am_beq he]
      exact ⟨_, by decide, S264 z⟩
    · skip
      exact ⟨0, by decide, am_Snd_no j2⟩
/-- ArgumentMenderModel.tries(III)I -/
def f265 (z : Nat) (x1 : Int32) (x2 : Int32) (x3 : Int32) (M : aM) : Option aR :=
  am_bi (f264 z x1 x2 x3 M) fun v2 M1 =>
    if v2 = 0 then
      some (some (.inl (-2 : Int32)), M1)
    else
      am_bi (f171 z (M1.1 205 25) M1) fun v4 M3 =>
        some (some (.inl v4), M3)
set_option maxRecDepth 100000 in
set_option maxHeartbeats 4000000 in
theorem e265 (z : Nat) : ∀ (x1 : Int32) (x2 : Int32) (x3 : Int32) (M : aM) (r : aR), f265 z x1 x2 x3 M = some r → am_Ev 13 265 0 [some (.inr (.inr (11, 205))), some (.inl x1), some (.inl x2), some (.inl x3)] [] M r := by
  intro x1 x2 x3 M r h
  exact am_Ev_seg (sem := am_s265_ z) (cut := ([] : List (Nat × List Bool))) (hs265 z) am_r265 am_k265 (by rw [am_l265]; decide) (fun _ _ _ _ => none) 12 h (fun _ _ _ _ hk => by cases hk)
def F265 (z : Nat) (as : List aV) (M : aM) : Option aR := match as with
  | [.inr (.inr (11, 205)), .inl x1, .inl x2, .inl x3] => f265 z x1 x2 x3 M
  | _ => none
theorem S265 (z : Nat) : am_Snd 13 265 (F265 z) := am_meth (by decide +kernel) (fun as M r has h => by
    rw [am_l265]
    unfold F265 at h
    split at h
    · exact ⟨Nat.le_of_ble_eq_true rfl, e265 z _ _ _ _ _ h⟩
    · cases h)
def cd266_0 : List am_E := [(0, .aload_n 0, 1, 0, 0, 0, 0), (1, .iload_n 1, 1, 1, 0, 0, 0), (2, .iload_n 2, 1, 2, 0, 0, 0), (3, .iload_n 3, 1, 3, 0, 0, 0), (4, .invokevirtual 386, 3, 264, 11030, 0, 0), (7, .ifCond .eq 23, 3, 30, 0, 0, 0), (10, .aload_n 0, 1, 0, 0, 0, 0), (11, .iload 4, 2, 4, 0, 0, 0), (13, .i2l, 1, 0, 0, 0, 0), (14, .invokevirtual 241, 3, 183, 11010, 0, 0), (17, .ifCond .eq 13, 3, 30, 0, 0, 0), (20, .aload_n 0, 1, 0, 0, 0, 0), (21, .getfield 40, 3, 11, 20, 0, 0), (24, .iload 4, 2, 4, 0, 0, 0), (26, .iaload, 1, 0, 0, 0, 0), (27, .goto 5, 3, 32, 0, 0, 0), (30, .bipush (-2), 2, 0, 0, (-2), 0), (32, .ireturn, 1, 0, 0, 0, 0)]
def cd266 : List am_E := cd266_0
def am_w266 : List (List (Int32 × Nat) × Nat) := []
set_option maxRecDepth 100000 in
theorem kcd266_0 : cd266_0.all (am_chk am_w266 266) = true := by decide +kernel
theorem am_k266 : cd266.all (am_chk am_w266 266) = true := by
  simp only [cd266, List.all_append, kcd266_0, Bool.and_self]
theorem am_r266 : am_rtc 266 = 0 := by decide +kernel
theorem am_l266 : am_ml 266 = 5 := by decide +kernel
def am_s266_ (z : Nat) : Nat → List aV → aM → Option aR := fun j => (match Nat.beq j 183 with
  | true => F183 z
  | false => (match Nat.beq j 264 with
  | true => F264 z
  | false => (fun _ _ => none)))
theorem hs266 (z : Nat) : ∀ j2 : Nat, ∃ d2 : Nat, d2 + 1 ≤ 13 ∧ am_Snd d2 j2 (am_s266_ z j2) := by
  intro j2
  unfold am_s266_
  split
  · rename_i he
    rw [am_beq he]
    exact ⟨_, by decide, S183 z⟩
  · skip
    split
    · rename_i he
      rw [am_beq he]
      exact ⟨_, by decide, S264 z⟩
    · skip
      exact ⟨0, by decide, am_Snd_no j2⟩
/-- ArgumentMenderModel.would(IIII)I -/
def f266 (z : Nat) (x1 : Int32) (x2 : Int32) (x3 : Int32) (x4 : Int32) (M : aM) : Option aR :=
  am_bi (f264 z x1 x2 x3 M) fun v2 M1 =>
    if v2 = 0 then
      some (some (.inl (-2 : Int32)), M1)
    else
      am_bi (f183 z (Int32.toInt64 x4) M1) fun v4 M3 =>
        if v4 = 0 then
          some (some (.inl (-2 : Int32)), M3)
        else
          if am_inB x4 16 then
            some (some (.inl (M3.1 214 x4.toNatClampNeg)), M3)
          else
            none
set_option maxRecDepth 100000 in
set_option maxHeartbeats 4000000 in
theorem e266 (z : Nat) : ∀ (x1 : Int32) (x2 : Int32) (x3 : Int32) (x4 : Int32) (M : aM) (r : aR), f266 z x1 x2 x3 x4 M = some r → am_Ev 13 266 0 [some (.inr (.inr (11, 205))), some (.inl x1), some (.inl x2), some (.inl x3), some (.inl x4)] [] M r := by
  intro x1 x2 x3 x4 M r h
  exact am_Ev_seg (sem := am_s266_ z) (cut := ([] : List (Nat × List Bool))) (hs266 z) am_r266 am_k266 (by rw [am_l266]; decide) (fun _ _ _ _ => none) 18 h (fun _ _ _ _ hk => by cases hk)
def F266 (z : Nat) (as : List aV) (M : aM) : Option aR := match as with
  | [.inr (.inr (11, 205)), .inl x1, .inl x2, .inl x3, .inl x4] => f266 z x1 x2 x3 x4 M
  | _ => none
theorem S266 (z : Nat) : am_Snd 13 266 (F266 z) := am_meth (by decide +kernel) (fun as M r has h => by
    rw [am_l266]
    unfold F266 at h
    split at h
    · exact ⟨Nat.le_of_ble_eq_true rfl, e266 z _ _ _ _ _ _ h⟩
    · cases h)
def cd267_0 : List am_E := [(0, .aload_n 0, 1, 0, 0, 0, 0), (1, .iload_n 1, 1, 1, 0, 0, 0), (2, .iload_n 2, 1, 2, 0, 0, 0), (3, .iload_n 3, 1, 3, 0, 0, 0), (4, .invokevirtual 386, 3, 264, 11030, 0, 0), (7, .ifCond .eq 10, 3, 17, 0, 0, 0), (10, .aload_n 0, 1, 0, 0, 0, 0), (11, .getfield 278, 3, 11, 22, 0, 0), (14, .goto 5, 3, 19, 0, 0, 0), (17, .bipush (-2), 2, 0, 0, (-2), 0), (19, .ireturn, 1, 0, 0, 0, 0)]
def cd267 : List am_E := cd267_0
def am_w267 : List (List (Int32 × Nat) × Nat) := []
set_option maxRecDepth 100000 in
theorem kcd267_0 : cd267_0.all (am_chk am_w267 267) = true := by decide +kernel
theorem am_k267 : cd267.all (am_chk am_w267 267) = true := by
  simp only [cd267, List.all_append, kcd267_0, Bool.and_self]
theorem am_r267 : am_rtc 267 = 0 := by decide +kernel
theorem am_l267 : am_ml 267 = 4 := by decide +kernel
def am_s267_ (z : Nat) : Nat → List aV → aM → Option aR := fun j => (match Nat.beq j 264 with
  | true => F264 z
  | false => (fun _ _ => none))
theorem hs267 (z : Nat) : ∀ j2 : Nat, ∃ d2 : Nat, d2 + 1 ≤ 13 ∧ am_Snd d2 j2 (am_s267_ z j2) := by
  intro j2
  unfold am_s267_
  split
  · rename_i he
    rw [am_beq he]
    exact ⟨_, by decide, S264 z⟩
  · skip
    exact ⟨0, by decide, am_Snd_no j2⟩
/-- ArgumentMenderModel.lets(III)I -/
def f267 (z : Nat) (x1 : Int32) (x2 : Int32) (x3 : Int32) (M : aM) : Option aR :=
  am_bi (f264 z x1 x2 x3 M) fun v2 M1 =>
    if v2 = 0 then
      some (some (.inl (-2 : Int32)), M1)
    else
      some (some (.inl (M1.1 205 22)), M1)
set_option maxRecDepth 100000 in
set_option maxHeartbeats 4000000 in
theorem e267 (z : Nat) : ∀ (x1 : Int32) (x2 : Int32) (x3 : Int32) (M : aM) (r : aR), f267 z x1 x2 x3 M = some r → am_Ev 13 267 0 [some (.inr (.inr (11, 205))), some (.inl x1), some (.inl x2), some (.inl x3)] [] M r := by
  intro x1 x2 x3 M r h
  exact am_Ev_seg (sem := am_s267_ z) (cut := ([] : List (Nat × List Bool))) (hs267 z) am_r267 am_k267 (by rw [am_l267]; decide) (fun _ _ _ _ => none) 11 h (fun _ _ _ _ hk => by cases hk)
def F267 (z : Nat) (as : List aV) (M : aM) : Option aR := match as with
  | [.inr (.inr (11, 205)), .inl x1, .inl x2, .inl x3] => f267 z x1 x2 x3 M
  | _ => none
theorem S267 (z : Nat) : am_Snd 13 267 (F267 z) := am_meth (by decide +kernel) (fun as M r has h => by
    rw [am_l267]
    unfold F267 at h
    split at h
    · exact ⟨Nat.le_of_ble_eq_true rfl, e267 z _ _ _ _ _ h⟩
    · cases h)
def cd268_0 : List am_E := [(0, .iconst 1, 1, 0, 0, 1, 0), (1, .istore 4, 2, 4, 0, 0, 0), (3, .iload 4, 2, 4, 0, 0, 0), (5, .sipush 200, 3, 0, 0, 200, 0), (8, .if_icmp .gt 38, 3, 46, 0, 0, 0), (11, .aload_n 0, 1, 0, 0, 0, 0), (12, .iload_n 1, 1, 1, 0, 0, 0), (13, .iload 4, 2, 4, 0, 0, 0), (15, .iload_n 2, 1, 2, 0, 0, 0), (16, .invokevirtual 383, 3, 263, 11034, 0, 0), (19, .aload_n 0, 1, 0, 0, 0, 0), (20, .getfield 278, 3, 11, 22, 0, 0), (23, .ifCond .gt 14, 3, 37, 0, 0, 0), (26, .iload_n 3, 1, 3, 0, 0, 0), (27, .ifCond .ne 13, 3, 40, 0, 0, 0), (30, .aload_n 0, 1, 0, 0, 0, 0), (31, .getfield 306, 3, 11, 25, 0, 0), (34, .ifCond .eq 6, 3, 40, 0, 0, 0), (37, .iload 4, 2, 4, 0, 0, 0), (39, .ireturn, 1, 0, 0, 0, 0), (40, .iinc 4 1, 3, 4, 0, 1, 0), (43, .goto (-40), 3, 3, 0, 0, 0), (46, .sipush 201, 3, 0, 0, 201, 0), (49, .ireturn, 1, 0, 0, 0, 0)]
def cd268 : List am_E := cd268_0
def am_w268 : List (List (Int32 × Nat) × Nat) := []
set_option maxRecDepth 100000 in
theorem kcd268_0 : cd268_0.all (am_chk am_w268 268) = true := by decide +kernel
theorem am_k268 : cd268.all (am_chk am_w268 268) = true := by
  simp only [cd268, List.all_append, kcd268_0, Bool.and_self]
theorem am_r268 : am_rtc 268 = 0 := by decide +kernel
theorem am_l268 : am_ml 268 = 5 := by decide +kernel
def am_s268_ (z : Nat) : Nat → List aV → aM → Option aR := fun j => (match Nat.beq j 263 with
  | true => F263 z
  | false => (fun _ _ => none))
theorem hs268 (z : Nat) : ∀ j2 : Nat, ∃ d2 : Nat, d2 + 1 ≤ 9 ∧ am_Snd d2 j2 (am_s268_ z j2) := by
  intro j2
  unfold am_s268_
  split
  · rename_i he
    rw [am_beq he]
    exact ⟨_, by decide, S263 z⟩
  · skip
    exact ⟨0, by decide, am_Snd_no j2⟩
def f268_3 (z : Nat) : Nat → Int32 → Int32 → Int32 → Int32 → aM → Option aR
  | 0, _, _, _, _, _ => none
  | n + 1, x1, x2, x3, x4, M =>
    if (200 : Int32) < x4 then
      some (some (.inl (201 : Int32)), M)
    else
      am_bv (f263 z x1 x4 x2 M) fun M1 =>
        if 0 < (M1.1 205 22) then
          some (some (.inl x4), M1)
        else
          if ¬ x3 = 0 then
            f268_3 z n x1 x2 x3 (x4 + (1 : Int32)) M1
          else
            if (M1.1 205 25) = 0 then
              f268_3 z n x1 x2 x3 (x4 + (1 : Int32)) M1
            else
              some (some (.inl x4), M1)
set_option maxRecDepth 100000 in
set_option maxHeartbeats 4000000 in
theorem e268_3 (z : Nat) : ∀ (n : Nat) (x1 : Int32) (x2 : Int32) (x3 : Int32) (x4 : Int32) (M : aM) (r : aR), f268_3 z n x1 x2 x3 x4 M = some r → am_Ev 9 268 3 [some (.inr (.inr (11, 205))), some (.inl x1), some (.inl x2), some (.inl x3), some (.inl x4)] [] M r := by
  intro n
  induction n with
  | zero =>
    intro x1 x2 x3 x4 M r h
    cases h
  | succ n ih =>
    intro x1 x2 x3 x4 M r h
    exact am_Ev_seg (sem := am_s268_ z) (cut := ([(3, [true, true, true, true, true])] : List (Nat × List Bool))) (hs268 z) am_r268 am_k268 (by rw [am_l268]; decide) (fun pc al st M => (match Nat.beq pc 3 with
      | true => (match al, st with
        | [some (.inr (.inr (11, 205))), some (.inl x1), some (.inl x2), some (.inl x3), some (.inl x4)], [] => f268_3 z n x1 x2 x3 x4 M
        | _, _ => none)
      | false => none)) 20 h (fun pc al st M hk => by
      try dsimp only at hk
      split at hk
      · rename_i he
        rw [am_beq he]
        split at hk
        · exact ih _ _ _ _ _ _ hk
        · cases hk
      · cases hk)
/-- ArgumentMenderModel.gateOf(IIZ)I -/
def f268 (z : Nat) (x1 : Int32) (x2 : Int32) (x3 : Int32) (M : aM) : Option aR :=
  f268_3 z z x1 x2 x3 (1 : Int32) M
set_option maxRecDepth 100000 in
set_option maxHeartbeats 4000000 in
theorem e268 (z : Nat) : ∀ (x1 : Int32) (x2 : Int32) (x3 : Int32) (M : aM) (r : aR), f268 z x1 x2 x3 M = some r → am_Ev 9 268 0 [some (.inr (.inr (11, 205))), some (.inl x1), some (.inl x2), some (.inl x3), none] [] M r := by
  intro x1 x2 x3 M r h
  exact am_Ev_seg (sem := am_s268_ z) (cut := ([(3, [true, true, true, true, true])] : List (Nat × List Bool))) (hs268 z) am_r268 am_k268 (by rw [am_l268]; decide) (fun pc al st M => (match Nat.beq pc 3 with
      | true => (match al, st with
        | [some (.inr (.inr (11, 205))), some (.inl x1), some (.inl x2), some (.inl x3), some (.inl x4)], [] => f268_3 z z x1 x2 x3 x4 M
        | _, _ => none)
      | false => none)) 4 h (fun pc al st M hk => by
      try dsimp only at hk
      split at hk
      · rename_i he
        rw [am_beq he]
        split at hk
        · exact e268_3 z _ _ _ _ _ _ _ hk
        · cases hk
      · cases hk)
def F268 (z : Nat) (as : List aV) (M : aM) : Option aR := match as with
  | [.inr (.inr (11, 205)), .inl x1, .inl x2, .inl x3] => f268 z x1 x2 x3 M
  | _ => none
theorem S268 (z : Nat) : am_Snd 9 268 (F268 z) := am_meth (by decide +kernel) (fun as M r has h => by
    rw [am_l268]
    unfold F268 at h
    split at h
    · exact ⟨Nat.le_of_ble_eq_true rfl, e268 z _ _ _ _ _ h⟩
    · cases h)
def cd269_0 : List am_E := [(0, .iload_n 0, 1, 0, 0, 0, 0), (1, .iload_n 1, 1, 1, 0, 0, 0), (2, .if_icmp .le 7, 3, 9, 0, 0, 0), (5, .iconst (-1), 1, 0, 0, (-1), 0), (6, .goto 4, 3, 10, 0, 0, 0), (9, .iload_n 0, 1, 0, 0, 0, 0), (10, .ireturn, 1, 0, 0, 0, 0)]
def cd269 : List am_E := cd269_0
def am_w269 : List (List (Int32 × Nat) × Nat) := []
set_option maxRecDepth 100000 in
theorem kcd269_0 : cd269_0.all (am_chk am_w269 269) = true := by decide +kernel
theorem am_k269 : cd269.all (am_chk am_w269 269) = true := by
  simp only [cd269, List.all_append, kcd269_0, Bool.and_self]
theorem am_r269 : am_rtc 269 = 0 := by decide +kernel
theorem am_l269 : am_ml 269 = 2 := by decide +kernel
def am_s269_ (z : Nat) : Nat → List aV → aM → Option aR := fun j => (fun _ _ => none)
theorem hs269 (z : Nat) : ∀ j2 : Nat, ∃ d2 : Nat, d2 + 1 ≤ 1 ∧ am_Snd d2 j2 (am_s269_ z j2) := by
  intro j2
  unfold am_s269_
  exact ⟨0, by decide, am_Snd_no j2⟩
/-- ArgumentMenderModel.orNone(II)I -/
def f269 (z : Nat) (x0 : Int32) (x1 : Int32) (M : aM) : Option aR :=
  if x0 ≤ x1 then
    some (some (.inl x0), M)
  else
    some (some (.inl (-1 : Int32)), M)
set_option maxRecDepth 100000 in
set_option maxHeartbeats 4000000 in
theorem e269 (z : Nat) : ∀ (x0 : Int32) (x1 : Int32) (M : aM) (r : aR), f269 z x0 x1 M = some r → am_Ev 1 269 0 [some (.inl x0), some (.inl x1)] [] M r := by
  intro x0 x1 M r h
  exact am_Ev_seg (sem := am_s269_ z) (cut := ([] : List (Nat × List Bool))) (hs269 z) am_r269 am_k269 (by rw [am_l269]; decide) (fun _ _ _ _ => none) 7 h (fun _ _ _ _ hk => by cases hk)
def F269 (z : Nat) (as : List aV) (M : aM) : Option aR := match as with
  | [.inl x0, .inl x1] => f269 z x0 x1 M
  | _ => none
theorem S269 (z : Nat) : am_Snd 1 269 (F269 z) := am_meth (by decide +kernel) (fun as M r has h => by
    rw [am_l269]
    unfold F269 at h
    split at h
    · exact ⟨Nat.le_of_ble_eq_true rfl, e269 z _ _ _ _ h⟩
    · cases h)
def cd270_0 : List am_E := [(0, .aload_n 0, 1, 0, 0, 0, 0), (1, .iload_n 2, 1, 2, 0, 0, 0), (2, .invokevirtual 356, 3, 226, 11010, 0, 0), (5, .ifCond .eq 27, 3, 32, 0, 0, 0), (8, .aload_n 0, 1, 0, 0, 0, 0), (9, .iload_n 1, 1, 1, 0, 0, 0), (10, .invokevirtual 255, 3, 182, 11010, 0, 0), (13, .ifCond .eq 19, 3, 32, 0, 0, 0), (16, .aload_n 0, 1, 0, 0, 0, 0), (17, .iload_n 1, 1, 1, 0, 0, 0), (18, .iload_n 2, 1, 2, 0, 0, 0), (19, .iconst 0, 1, 0, 0, 0, 0), (20, .invokevirtual 390, 3, 268, 11030, 0, 0), (23, .sipush 200, 3, 0, 0, 200, 0), (26, .invokestatic 394, 3, 269, 25, 0, 0), (29, .goto 5, 3, 34, 0, 0, 0), (32, .bipush (-2), 2, 0, 0, (-2), 0), (34, .ireturn, 1, 0, 0, 0, 0)]
def cd270 : List am_E := cd270_0
def am_w270 : List (List (Int32 × Nat) × Nat) := []
set_option maxRecDepth 100000 in
theorem kcd270_0 : cd270_0.all (am_chk am_w270 270) = true := by decide +kernel
theorem am_k270 : cd270.all (am_chk am_w270 270) = true := by
  simp only [cd270, List.all_append, kcd270_0, Bool.and_self]
theorem am_r270 : am_rtc 270 = 0 := by decide +kernel
theorem am_l270 : am_ml 270 = 3 := by decide +kernel
def am_s270_ (z : Nat) : Nat → List aV → aM → Option aR := fun j => (match Nat.beq j 182 with
  | true => F182 z
  | false => (match Nat.beq j 226 with
  | true => F226 z
  | false => (match Nat.beq j 268 with
  | true => F268 z
  | false => (match Nat.beq j 269 with
  | true => F269 z
  | false => (fun _ _ => none)))))
theorem hs270 (z : Nat) : ∀ j2 : Nat, ∃ d2 : Nat, d2 + 1 ≤ 12 ∧ am_Snd d2 j2 (am_s270_ z j2) := by
  intro j2
  unfold am_s270_
  split
  · rename_i he
    rw [am_beq he]
    exact ⟨_, by decide, S182 z⟩
  · skip
    split
    · rename_i he
      rw [am_beq he]
      exact ⟨_, by decide, S226 z⟩
    · skip
      split
      · rename_i he
        rw [am_beq he]
        exact ⟨_, by decide, S268 z⟩
      · skip
        split
        · rename_i he
          rw [am_beq he]
          exact ⟨_, by decide, S269 z⟩
        · skip
          exact ⟨0, by decide, am_Snd_no j2⟩
/-- ArgumentMenderModel.gate(II)I -/
def f270 (z : Nat) (x1 : Int32) (x2 : Int32) (M : aM) : Option aR :=
  am_bi (f226 z x2 M) fun v2 M1 =>
    if v2 = 0 then
      some (some (.inl (-2 : Int32)), M1)
    else
      am_bi (f182 z x1 M1) fun v4 M3 =>
        if v4 = 0 then
          some (some (.inl (-2 : Int32)), M3)
        else
          am_bi (f268 z x1 x2 (0 : Int32) M3) fun v6 M5 =>
            am_bi (f269 z v6 (200 : Int32) M5) fun v8 M7 =>
              some (some (.inl v8), M7)
set_option maxRecDepth 100000 in
set_option maxHeartbeats 4000000 in
theorem e270 (z : Nat) : ∀ (x1 : Int32) (x2 : Int32) (M : aM) (r : aR), f270 z x1 x2 M = some r → am_Ev 12 270 0 [some (.inr (.inr (11, 205))), some (.inl x1), some (.inl x2)] [] M r := by
  intro x1 x2 M r h
  exact am_Ev_seg (sem := am_s270_ z) (cut := ([] : List (Nat × List Bool))) (hs270 z) am_r270 am_k270 (by rw [am_l270]; decide) (fun _ _ _ _ => none) 18 h (fun _ _ _ _ hk => by cases hk)
def F270 (z : Nat) (as : List aV) (M : aM) : Option aR := match as with
  | [.inr (.inr (11, 205)), .inl x1, .inl x2] => f270 z x1 x2 M
  | _ => none
theorem S270 (z : Nat) : am_Snd 12 270 (F270 z) := am_meth (by decide +kernel) (fun as M r has h => by
    rw [am_l270]
    unfold F270 at h
    split at h
    · exact ⟨Nat.le_of_ble_eq_true rfl, e270 z _ _ _ _ h⟩
    · cases h)
def cd271_0 : List am_E := [(0, .aload_n 0, 1, 0, 0, 0, 0), (1, .iload_n 2, 1, 2, 0, 0, 0), (2, .invokevirtual 356, 3, 226, 11010, 0, 0), (5, .ifCond .eq 27, 3, 32, 0, 0, 0), (8, .aload_n 0, 1, 0, 0, 0, 0), (9, .iload_n 1, 1, 1, 0, 0, 0), (10, .invokevirtual 255, 3, 182, 11010, 0, 0), (13, .ifCond .eq 19, 3, 32, 0, 0, 0), (16, .aload_n 0, 1, 0, 0, 0, 0), (17, .iload_n 1, 1, 1, 0, 0, 0), (18, .iload_n 2, 1, 2, 0, 0, 0), (19, .iconst 1, 1, 0, 0, 1, 0), (20, .invokevirtual 390, 3, 268, 11030, 0, 0), (23, .sipush 200, 3, 0, 0, 200, 0), (26, .invokestatic 394, 3, 269, 25, 0, 0), (29, .goto 5, 3, 34, 0, 0, 0), (32, .bipush (-2), 2, 0, 0, (-2), 0), (34, .ireturn, 1, 0, 0, 0, 0)]
def cd271 : List am_E := cd271_0
def am_w271 : List (List (Int32 × Nat) × Nat) := []
set_option maxRecDepth 100000 in
theorem kcd271_0 : cd271_0.all (am_chk am_w271 271) = true := by decide +kernel
theorem am_k271 : cd271.all (am_chk am_w271 271) = true := by
  simp only [cd271, List.all_append, kcd271_0, Bool.and_self]
theorem am_r271 : am_rtc 271 = 0 := by decide +kernel
theorem am_l271 : am_ml 271 = 3 := by decide +kernel
def am_s271_ (z : Nat) : Nat → List aV → aM → Option aR := fun j => (match Nat.beq j 182 with
  | true => F182 z
  | false => (match Nat.beq j 226 with
  | true => F226 z
  | false => (match Nat.beq j 268 with
  | true => F268 z
  | false => (match Nat.beq j 269 with
  | true => F269 z
  | false => (fun _ _ => none)))))
theorem hs271 (z : Nat) : ∀ j2 : Nat, ∃ d2 : Nat, d2 + 1 ≤ 12 ∧ am_Snd d2 j2 (am_s271_ z j2) := by
  intro j2
  unfold am_s271_
  split
  · rename_i he
    rw [am_beq he]
    exact ⟨_, by decide, S182 z⟩
  · skip
    split
    · rename_i he
      rw [am_beq he]
      exact ⟨_, by decide, S226 z⟩
    · skip
      split
      · rename_i he
        rw [am_beq he]
        exact ⟨_, by decide, S268 z⟩
      · skip
        split
        · rename_i he
          rw [am_beq he]
          exact ⟨_, by decide, S269 z⟩
        · skip
          exact ⟨0, by decide, am_Snd_no j2⟩
/-- ArgumentMenderModel.bursts(II)I -/
def f271 (z : Nat) (x1 : Int32) (x2 : Int32) (M : aM) : Option aR :=
  am_bi (f226 z x2 M) fun v2 M1 =>
    if v2 = 0 then
      some (some (.inl (-2 : Int32)), M1)
    else
      am_bi (f182 z x1 M1) fun v4 M3 =>
        if v4 = 0 then
          some (some (.inl (-2 : Int32)), M3)
        else
          am_bi (f268 z x1 x2 (1 : Int32) M3) fun v6 M5 =>
            am_bi (f269 z v6 (200 : Int32) M5) fun v8 M7 =>
              some (some (.inl v8), M7)
set_option maxRecDepth 100000 in
set_option maxHeartbeats 4000000 in
theorem e271 (z : Nat) : ∀ (x1 : Int32) (x2 : Int32) (M : aM) (r : aR), f271 z x1 x2 M = some r → am_Ev 12 271 0 [some (.inr (.inr (11, 205))), some (.inl x1), some (.inl x2)] [] M r := by
  intro x1 x2 M r h
  exact am_Ev_seg (sem := am_s271_ z) (cut := ([] : List (Nat × List Bool))) (hs271 z) am_r271 am_k271 (by rw [am_l271]; decide) (fun _ _ _ _ => none) 18 h (fun _ _ _ _ hk => by cases hk)
def F271 (z : Nat) (as : List aV) (M : aM) : Option aR := match as with
  | [.inr (.inr (11, 205)), .inl x1, .inl x2] => f271 z x1 x2 M
  | _ => none
theorem S271 (z : Nat) : am_Snd 12 271 (F271 z) := am_meth (by decide +kernel) (fun as M r has h => by
    rw [am_l271]
    unfold F271 at h
    split at h
    · exact ⟨Nat.le_of_ble_eq_true rfl, e271 z _ _ _ _ h⟩
    · cases h)
def cd272_0 : List am_E := [(0, .aload_n 0, 1, 0, 0, 0, 0), (1, .iload_n 1, 1, 1, 0, 0, 0), (2, .invokevirtual 356, 3, 226, 11010, 0, 0), (5, .ifCond .ne 6, 3, 11, 0, 0, 0), (8, .bipush (-2), 2, 0, 0, (-2), 0), (10, .ireturn, 1, 0, 0, 0, 0), (11, .iconst (-1), 1, 0, 0, (-1), 0), (12, .istore_n 2, 1, 2, 0, 0, 0), (13, .sipush 201, 3, 0, 0, 201, 0), (16, .istore_n 3, 1, 3, 0, 0, 0), (17, .iconst 0, 1, 0, 0, 0, 0), (18, .istore 4, 2, 4, 0, 0, 0), (20, .iload 4, 2, 4, 0, 0, 0), (22, .aload_n 0, 1, 0, 0, 0, 0), (23, .invokevirtual 115, 3, 177, 11000, 0, 0), (26, .if_icmp .ge 34, 3, 60, 0, 0, 0), (29, .aload_n 0, 1, 0, 0, 0, 0), (30, .iload 4, 2, 4, 0, 0, 0), (32, .iload_n 1, 1, 1, 0, 0, 0), (33, .iconst 0, 1, 0, 0, 0, 0), (34, .invokevirtual 390, 3, 268, 11030, 0, 0), (37, .istore 5, 2, 5, 0, 0, 0), (39, .iload 5, 2, 5, 0, 0, 0), (41, .iload_n 3, 1, 3, 0, 0, 0), (42, .if_icmp .lt 6, 3, 48, 0, 0, 0), (45, .goto 9, 3, 54, 0, 0, 0), (48, .iload 5, 2, 5, 0, 0, 0), (50, .istore_n 3, 1, 3, 0, 0, 0), (51, .iload 4, 2, 4, 0, 0, 0), (53, .istore_n 2, 1, 2, 0, 0, 0), (54, .iinc 4 1, 3, 4, 0, 1, 0), (57, .goto (-37), 3, 20, 0, 0, 0), (60, .iload_n 2, 1, 2, 0, 0, 0), (61, .ireturn, 1, 0, 0, 0, 0)]
def cd272 : List am_E := cd272_0
def am_w272 : List (List (Int32 × Nat) × Nat) := []
set_option maxRecDepth 100000 in
theorem kcd272_0 : cd272_0.all (am_chk am_w272 272) = true := by decide +kernel
theorem am_k272 : cd272.all (am_chk am_w272 272) = true := by
  simp only [cd272, List.all_append, kcd272_0, Bool.and_self]
theorem am_r272 : am_rtc 272 = 0 := by decide +kernel
theorem am_l272 : am_ml 272 = 6 := by decide +kernel
def am_s272_ (z : Nat) : Nat → List aV → aM → Option aR := fun j => (match Nat.beq j 177 with
  | true => F177 z
  | false => (match Nat.beq j 226 with
  | true => F226 z
  | false => (match Nat.beq j 268 with
  | true => F268 z
  | false => (fun _ _ => none))))
theorem hs272 (z : Nat) : ∀ j2 : Nat, ∃ d2 : Nat, d2 + 1 ≤ 12 ∧ am_Snd d2 j2 (am_s272_ z j2) := by
  intro j2
  unfold am_s272_
  split
  · rename_i he
    rw [am_beq he]
    exact ⟨_, by decide, S177 z⟩
  · skip
    split
    · rename_i he
      rw [am_beq he]
      exact ⟨_, by decide, S226 z⟩
    · skip
      split
      · rename_i he
        rw [am_beq he]
        exact ⟨_, by decide, S268 z⟩
      · skip
        exact ⟨0, by decide, am_Snd_no j2⟩
def f272_20 (z : Nat) : Nat → Int32 → Int32 → Int32 → Int32 → aM → Option aR
  | 0, _, _, _, _, _ => none
  | n + 1, x1, x2, x3, x4, M =>
    am_bi (f177 z M) fun v2 M1 =>
      if v2 ≤ x4 then
        some (some (.inl x2), M1)
      else
        am_bi (f268 z x4 x1 (0 : Int32) M1) fun v4 M3 =>
          if v4 < x3 then
            f272_20 z n x1 x4 v4 (x4 + (1 : Int32)) M3
          else
            f272_20 z n x1 x2 x3 (x4 + (1 : Int32)) M3
set_option maxRecDepth 100000 in
set_option maxHeartbeats 4000000 in
theorem e272_20 (z : Nat) : ∀ (n : Nat) (x1 : Int32) (x2 : Int32) (x3 : Int32) (x4 : Int32) (M : aM) (r : aR), f272_20 z n x1 x2 x3 x4 M = some r → am_Ev 12 272 20 [some (.inr (.inr (11, 205))), some (.inl x1), some (.inl x2), some (.inl x3), some (.inl x4), none] [] M r := by
  intro n
  induction n with
  | zero =>
    intro x1 x2 x3 x4 M r h
    cases h
  | succ n ih =>
    intro x1 x2 x3 x4 M r h
    exact am_Ev_seg (sem := am_s272_ z) (cut := ([(20, [true, true, true, true, true, false])] : List (Nat × List Bool))) (hs272 z) am_r272 am_k272 (by rw [am_l272]; decide) (fun pc al st M => (match Nat.beq pc 20 with
      | true => (match al, st with
        | [some (.inr (.inr (11, 205))), some (.inl x1), some (.inl x2), some (.inl x3), some (.inl x4), none], [] => f272_20 z n x1 x2 x3 x4 M
        | _, _ => none)
      | false => none)) 21 h (fun pc al st M hk => by
      try dsimp only at hk
      split at hk
      · rename_i he
        rw [am_beq he]
        split at hk
        · exact ih _ _ _ _ _ _ hk
        · cases hk
      · cases hk)
/-- ArgumentMenderModel.soft(I)I -/
def f272 (z : Nat) (x1 : Int32) (M : aM) : Option aR :=
  am_bi (f226 z x1 M) fun v2 M1 =>
    if ¬ v2 = 0 then
      f272_20 z z x1 (-1 : Int32) (201 : Int32) (0 : Int32) M1
    else
      some (some (.inl (-2 : Int32)), M1)
set_option maxRecDepth 100000 in
set_option maxHeartbeats 4000000 in
theorem e272 (z : Nat) : ∀ (x1 : Int32) (M : aM) (r : aR), f272 z x1 M = some r → am_Ev 12 272 0 [some (.inr (.inr (11, 205))), some (.inl x1), none, none, none, none] [] M r := by
  intro x1 M r h
  exact am_Ev_seg (sem := am_s272_ z) (cut := ([(20, [true, true, true, true, true, false])] : List (Nat × List Bool))) (hs272 z) am_r272 am_k272 (by rw [am_l272]; decide) (fun pc al st M => (match Nat.beq pc 20 with
      | true => (match al, st with
        | [some (.inr (.inr (11, 205))), some (.inl x1), some (.inl x2), some (.inl x3), some (.inl x4), none], [] => f272_20 z z x1 x2 x3 x4 M
        | _, _ => none)
      | false => none)) 12 h (fun pc al st M hk => by
      try dsimp only at hk
      split at hk
      · rename_i he
        rw [am_beq he]
        split at hk
        · exact e272_20 z _ _ _ _ _ _ _ hk
        · cases hk
      · cases hk)
def F272 (z : Nat) (as : List aV) (M : aM) : Option aR := match as with
  | [.inr (.inr (11, 205)), .inl x1] => f272 z x1 M
  | _ => none
theorem S272 (z : Nat) : am_Snd 12 272 (F272 z) := am_meth (by decide +kernel) (fun as M r has h => by
    rw [am_l272]
    unfold F272 at h
    split at h
    · exact ⟨Nat.le_of_ble_eq_true rfl, e272 z _ _ _ h⟩
    · cases h)
def cd273_0 : List am_E := [(0, .iconst 0, 1, 0, 0, 0, 0), (1, .istore_n 3, 1, 3, 0, 0, 0), (2, .iload_n 3, 1, 3, 0, 0, 0), (3, .bipush 60, 2, 0, 0, 60, 0), (5, .if_icmp .gt 46, 3, 51, 0, 0, 0), (8, .aload_n 0, 1, 0, 0, 0, 0), (9, .getfield 34, 3, 11, 15, 0, 0), (12, .iload_n 1, 1, 1, 0, 0, 0), (13, .aload_n 0, 1, 0, 0, 0, 0), (14, .getfield 9, 3, 11, 1, 0, 0), (17, .bipush 8, 2, 0, 0, 8, 0), (19, .iconst 3, 1, 0, 0, 3, 0), (20, .iload_n 1, 1, 1, 0, 0, 0), (21, .imul, 1, 0, 0, 0, 0), (22, .iadd, 1, 0, 0, 0, 0), (23, .iconst 2, 1, 0, 0, 2, 0), (24, .iadd, 1, 0, 0, 0, 0), (25, .iaload, 1, 0, 0, 0, 0), (26, .iload_n 3, 1, 3, 0, 0, 0), (27, .iadd, 1, 0, 0, 0, 0), (28, .iastore, 1, 0, 0, 0, 0), (29, .aload_n 0, 1, 0, 0, 0, 0), (30, .invokevirtual 332, 3, 224, 11004, 0, 0), (33, .aload_n 0, 1, 0, 0, 0, 0), (34, .invokevirtual 397, 3, 232, 11000, 0, 0), (37, .iload_n 2, 1, 2, 0, 0, 0), (38, .iand, 1, 0, 0, 0, 0), (39, .iload_n 2, 1, 2, 0, 0, 0), (40, .if_icmp .ne 5, 3, 45, 0, 0, 0), (43, .iload_n 3, 1, 3, 0, 0, 0), (44, .ireturn, 1, 0, 0, 0, 0), (45, .iinc 3 1, 3, 3, 0, 1, 0), (48, .goto (-46), 3, 2, 0, 0, 0), (51, .bipush 61, 2, 0, 0, 61, 0), (53, .ireturn, 1, 0, 0, 0, 0)]
def cd273 : List am_E := cd273_0
def am_w273 : List (List (Int32 × Nat) × Nat) := []
set_option maxRecDepth 100000 in
theorem kcd273_0 : cd273_0.all (am_chk am_w273 273) = true := by decide +kernel
theorem am_k273 : cd273.all (am_chk am_w273 273) = true := by
  simp only [cd273, List.all_append, kcd273_0, Bool.and_self]
theorem am_r273 : am_rtc 273 = 0 := by decide +kernel
theorem am_l273 : am_ml 273 = 4 := by decide +kernel
def am_s273_ (z : Nat) : Nat → List aV → aM → Option aR := fun j => (match Nat.beq j 224 with
  | true => F224 z
  | false => (match Nat.beq j 232 with
  | true => F232 z
  | false => (fun _ _ => none)))
theorem hs273 (z : Nat) : ∀ j2 : Nat, ∃ d2 : Nat, d2 + 1 ≤ 10 ∧ am_Snd d2 j2 (am_s273_ z j2) := by
  intro j2
  unfold am_s273_
  split
  · rename_i he
    rw [am_beq he]
    exact ⟨_, by decide, S224 z⟩
  · skip
    split
    · rename_i he
      rw [am_beq he]
      exact ⟨_, by decide, S232 z⟩
    · skip
      exact ⟨0, by decide, am_Snd_no j2⟩
def f273_2 (z : Nat) : Nat → Int32 → Int32 → Int32 → aM → Option aR
  | 0, _, _, _, _ => none
  | n + 1, x1, x2, x3, M =>
    if (60 : Int32) < x3 then
      some (some (.inl (61 : Int32)), M)
    else
      if am_inB (((8 : Int32) + ((3 : Int32) * x1)) + (2 : Int32)) 116 then
        if am_inB x1 16 then
          let I1 := am_u M.1 212 x1.toNatClampNeg ((M.1 206 (((8 : Int32) + ((3 : Int32) * x1)) + (2 : Int32)).toNatClampNeg) + x3)
          am_bv (f224 z (I1, M.2)) fun M2 =>
            am_bi (f232 z M2) fun v4 M3 =>
              if ¬ (v4 &&& x2) = x2 then
                f273_2 z n x1 x2 (x3 + (1 : Int32)) M3
              else
                some (some (.inl x3), M3)
        else
          none
      else
        none
set_option maxRecDepth 100000 in
set_option maxHeartbeats 4000000 in
theorem e273_2 (z : Nat) : ∀ (n : Nat) (x1 : Int32) (x2 : Int32) (x3 : Int32) (M : aM) (r : aR), f273_2 z n x1 x2 x3 M = some r → am_Ev 10 273 2 [some (.inr (.inr (11, 205))), some (.inl x1), some (.inl x2), some (.inl x3)] [] M r := by
  intro n
  induction n with
  | zero =>
    intro x1 x2 x3 M r h
    cases h
  | succ n ih =>
    intro x1 x2 x3 M r h
    exact am_Ev_seg (sem := am_s273_ z) (cut := ([(2, [true, true, true, true])] : List (Nat × List Bool))) (hs273 z) am_r273 am_k273 (by rw [am_l273]; decide) (fun pc al st M => (match Nat.beq pc 2 with
      | true => (match al, st with
        | [some (.inr (.inr (11, 205))), some (.inl x1), some (.inl x2), some (.inl x3)], [] => f273_2 z n x1 x2 x3 M
        | _, _ => none)
      | false => none)) 31 h (fun pc al st M hk => by
      try dsimp only at hk
      split at hk
      · rename_i he
        rw [am_beq he]
        split at hk
        · exact ih _ _ _ _ _ hk
        · cases hk
      · cases hk)
/-- ArgumentMenderModel.wordOf(II)I -/
def f273 (z : Nat) (x1 : Int32) (x2 : Int32) (M : aM) : Option aR :=
  f273_2 z z x1 x2 (0 : Int32) M
set_option maxRecDepth 100000 in
set_option maxHeartbeats 4000000 in
theorem e273 (z : Nat) : ∀ (x1 : Int32) (x2 : Int32) (M : aM) (r : aR), f273 z x1 x2 M = some r → am_Ev 10 273 0 [some (.inr (.inr (11, 205))), some (.inl x1), some (.inl x2), none] [] M r := by
  intro x1 x2 M r h
  exact am_Ev_seg (sem := am_s273_ z) (cut := ([(2, [true, true, true, true])] : List (Nat × List Bool))) (hs273 z) am_r273 am_k273 (by rw [am_l273]; decide) (fun pc al st M => (match Nat.beq pc 2 with
      | true => (match al, st with
        | [some (.inr (.inr (11, 205))), some (.inl x1), some (.inl x2), some (.inl x3)], [] => f273_2 z z x1 x2 x3 M
        | _, _ => none)
      | false => none)) 4 h (fun pc al st M hk => by
      try dsimp only at hk
      split at hk
      · rename_i he
        rw [am_beq he]
        split at hk
        · exact e273_2 z _ _ _ _ _ _ hk
        · cases hk
      · cases hk)
def F273 (z : Nat) (as : List aV) (M : aM) : Option aR := match as with
  | [.inr (.inr (11, 205)), .inl x1, .inl x2] => f273 z x1 x2 M
  | _ => none
theorem S273 (z : Nat) : am_Snd 10 273 (F273 z) := am_meth (by decide +kernel) (fun as M r has h => by
    rw [am_l273]
    unfold F273 at h
    split at h
    · exact ⟨Nat.le_of_ble_eq_true rfl, e273 z _ _ _ _ h⟩
    · cases h)
def cd274_0 : List am_E := [(0, .aload_n 0, 1, 0, 0, 0, 0), (1, .invokevirtual 329, 3, 211, 11004, 0, 0), (4, .aload_n 0, 1, 0, 0, 0, 0), (5, .iload_n 1, 1, 1, 0, 0, 0), (6, .i2l, 1, 0, 0, 0, 0), (7, .invokevirtual 241, 3, 183, 11010, 0, 0), (10, .ifCond .eq 27, 3, 37, 0, 0, 0), (13, .aload_n 0, 1, 0, 0, 0, 0), (14, .iload_n 2, 1, 2, 0, 0, 0), (15, .invokevirtual 255, 3, 182, 11010, 0, 0), (18, .ifCond .eq 19, 3, 37, 0, 0, 0), (21, .aload_n 0, 1, 0, 0, 0, 0), (22, .iload_n 1, 1, 1, 0, 0, 0), (23, .iconst 1, 1, 0, 0, 1, 0), (24, .iload_n 2, 1, 2, 0, 0, 0), (25, .ishl, 1, 0, 0, 0, 0), (26, .invokevirtual 400, 3, 273, 11020, 0, 0), (29, .bipush 60, 2, 0, 0, 60, 0), (31, .invokestatic 394, 3, 269, 25, 0, 0), (34, .goto 5, 3, 39, 0, 0, 0), (37, .bipush (-2), 2, 0, 0, (-2), 0), (39, .ireturn, 1, 0, 0, 0, 0)]
def cd274 : List am_E := cd274_0
def am_w274 : List (List (Int32 × Nat) × Nat) := []
set_option maxRecDepth 100000 in
theorem kcd274_0 : cd274_0.all (am_chk am_w274 274) = true := by decide +kernel
theorem am_k274 : cd274.all (am_chk am_w274 274) = true := by
  simp only [cd274, List.all_append, kcd274_0, Bool.and_self]
theorem am_r274 : am_rtc 274 = 0 := by decide +kernel
theorem am_l274 : am_ml 274 = 3 := by decide +kernel
def am_s274_ (z : Nat) : Nat → List aV → aM → Option aR := fun j => (match Nat.beq j 182 with
  | true => F182 z
  | false => (match Nat.beq j 183 with
  | true => F183 z
  | false => (match Nat.beq j 211 with
  | true => F211 z
  | false => (match Nat.beq j 269 with
  | true => F269 z
  | false => (match Nat.beq j 273 with
  | true => F273 z
  | false => (fun _ _ => none))))))
theorem hs274 (z : Nat) : ∀ j2 : Nat, ∃ d2 : Nat, d2 + 1 ≤ 11 ∧ am_Snd d2 j2 (am_s274_ z j2) := by
  intro j2
  unfold am_s274_
  split
  · rename_i he
    rw [am_beq he]
    exact ⟨_, by decide, S182 z⟩
  · skip
    split
    · rename_i he
      rw [am_beq he]
      exact ⟨_, by decide, S183 z⟩
    · skip
      split
      · rename_i he
        rw [am_beq he]
        exact ⟨_, by decide, S211 z⟩
      · skip
        split
        · rename_i he
          rw [am_beq he]
          exact ⟨_, by decide, S269 z⟩
        · skip
          split
          · rename_i he
            rw [am_beq he]
            exact ⟨_, by decide, S273 z⟩
          · skip
            exact ⟨0, by decide, am_Snd_no j2⟩
/-- ArgumentMenderModel.word(II)I -/
def f274 (z : Nat) (x1 : Int32) (x2 : Int32) (M : aM) : Option aR :=
  am_bv (f211 z M) fun M1 =>
    am_bi (f183 z (Int32.toInt64 x1) M1) fun v3 M2 =>
      if v3 = 0 then
        some (some (.inl (-2 : Int32)), M2)
      else
        am_bi (f182 z x2 M2) fun v5 M4 =>
          if v5 = 0 then
            some (some (.inl (-2 : Int32)), M4)
          else
            am_bi (f273 z x1 ((1 : Int32) <<< (x2 &&& 31)) M4) fun v7 M6 =>
              am_bi (f269 z v7 (60 : Int32) M6) fun v9 M8 =>
                some (some (.inl v9), M8)
set_option maxRecDepth 100000 in
set_option maxHeartbeats 4000000 in
theorem e274 (z : Nat) : ∀ (x1 : Int32) (x2 : Int32) (M : aM) (r : aR), f274 z x1 x2 M = some r → am_Ev 11 274 0 [some (.inr (.inr (11, 205))), some (.inl x1), some (.inl x2)] [] M r := by
  intro x1 x2 M r h
  exact am_Ev_seg (sem := am_s274_ z) (cut := ([] : List (Nat × List Bool))) (hs274 z) am_r274 am_k274 (by rw [am_l274]; decide) (fun _ _ _ _ => none) 22 h (fun _ _ _ _ hk => by cases hk)
def F274 (z : Nat) (as : List aV) (M : aM) : Option aR := match as with
  | [.inr (.inr (11, 205)), .inl x1, .inl x2] => f274 z x1 x2 M
  | _ => none
theorem S274 (z : Nat) : am_Snd 11 274 (F274 z) := am_meth (by decide +kernel) (fun as M r has h => by
    rw [am_l274]
    unfold F274 at h
    split at h
    · exact ⟨Nat.le_of_ble_eq_true rfl, e274 z _ _ _ _ h⟩
    · cases h)
def cd275_0 : List am_E := [(0, .aload_n 0, 1, 0, 0, 0, 0), (1, .iload_n 1, 1, 1, 0, 0, 0), (2, .invokevirtual 255, 3, 182, 11010, 0, 0), (5, .ifCond .ne 6, 3, 11, 0, 0, 0), (8, .bipush (-2), 2, 0, 0, (-2), 0), (10, .ireturn, 1, 0, 0, 0, 0), (11, .iconst (-1), 1, 0, 0, (-1), 0), (12, .istore_n 2, 1, 2, 0, 0, 0), (13, .bipush 61, 2, 0, 0, 61, 0), (15, .istore_n 3, 1, 3, 0, 0, 0), (16, .iconst 0, 1, 0, 0, 0, 0), (17, .istore 4, 2, 4, 0, 0, 0), (19, .iload 4, 2, 4, 0, 0, 0), (21, .aload_n 0, 1, 0, 0, 0, 0), (22, .invokevirtual 118, 3, 178, 11000, 0, 0), (25, .if_icmp .ge 39, 3, 64, 0, 0, 0), (28, .aload_n 0, 1, 0, 0, 0, 0), (29, .invokevirtual 329, 3, 211, 11004, 0, 0), (32, .aload_n 0, 1, 0, 0, 0, 0), (33, .iload 4, 2, 4, 0, 0, 0), (35, .iconst 1, 1, 0, 0, 1, 0), (36, .iload_n 1, 1, 1, 0, 0, 0), (37, .ishl, 1, 0, 0, 0, 0), (38, .invokevirtual 400, 3, 273, 11020, 0, 0), (41, .istore 5, 2, 5, 0, 0, 0), (43, .iload 5, 2, 5, 0, 0, 0), (45, .iload_n 3, 1, 3, 0, 0, 0), (46, .if_icmp .lt 6, 3, 52, 0, 0, 0), (49, .goto 9, 3, 58, 0, 0, 0), (52, .iload 5, 2, 5, 0, 0, 0), (54, .istore_n 3, 1, 3, 0, 0, 0), (55, .iload 4, 2, 4, 0, 0, 0), (57, .istore_n 2, 1, 2, 0, 0, 0), (58, .iinc 4 1, 3, 4, 0, 1, 0), (61, .goto (-42), 3, 19, 0, 0, 0), (64, .iload_n 2, 1, 2, 0, 0, 0), (65, .ireturn, 1, 0, 0, 0, 0)]
def cd275 : List am_E := cd275_0
def am_w275 : List (List (Int32 × Nat) × Nat) := []
set_option maxRecDepth 100000 in
theorem kcd275_0 : cd275_0.all (am_chk am_w275 275) = true := by decide +kernel
theorem am_k275 : cd275.all (am_chk am_w275 275) = true := by
  simp only [cd275, List.all_append, kcd275_0, Bool.and_self]
theorem am_r275 : am_rtc 275 = 0 := by decide +kernel
theorem am_l275 : am_ml 275 = 6 := by decide +kernel
def am_s275_ (z : Nat) : Nat → List aV → aM → Option aR := fun j => (match Nat.beq j 178 with
  | true => F178 z
  | false => (match Nat.beq j 182 with
  | true => F182 z
  | false => (match Nat.beq j 211 with
  | true => F211 z
  | false => (match Nat.beq j 273 with
  | true => F273 z
  | false => (fun _ _ => none)))))
theorem hs275 (z : Nat) : ∀ j2 : Nat, ∃ d2 : Nat, d2 + 1 ≤ 11 ∧ am_Snd d2 j2 (am_s275_ z j2) := by
  intro j2
  unfold am_s275_
  split
  · rename_i he
    rw [am_beq he]
    exact ⟨_, by decide, S178 z⟩
  · skip
    split
    · rename_i he
      rw [am_beq he]
      exact ⟨_, by decide, S182 z⟩
    · skip
      split
      · rename_i he
        rw [am_beq he]
        exact ⟨_, by decide, S211 z⟩
      · skip
        split
        · rename_i he
          rw [am_beq he]
          exact ⟨_, by decide, S273 z⟩
        · skip
          exact ⟨0, by decide, am_Snd_no j2⟩
def f275_19 (z : Nat) : Nat → Int32 → Int32 → Int32 → Int32 → aM → Option aR
  | 0, _, _, _, _, _ => none
  | n + 1, x1, x2, x3, x4, M =>
    am_bi (f178 z M) fun v2 M1 =>
      if v2 ≤ x4 then
        some (some (.inl x2), M1)
      else
        am_bv (f211 z M1) fun M3 =>
          am_bi (f273 z x4 ((1 : Int32) <<< (x1 &&& 31)) M3) fun v5 M4 =>
            if v5 < x3 then
              f275_19 z n x1 x4 v5 (x4 + (1 : Int32)) M4
            else
              f275_19 z n x1 x2 x3 (x4 + (1 : Int32)) M4
set_option maxRecDepth 100000 in
set_option maxHeartbeats 4000000 in
theorem e275_19 (z : Nat) : ∀ (n : Nat) (x1 : Int32) (x2 : Int32) (x3 : Int32) (x4 : Int32) (M : aM) (r : aR), f275_19 z n x1 x2 x3 x4 M = some r → am_Ev 11 275 19 [some (.inr (.inr (11, 205))), some (.inl x1), some (.inl x2), some (.inl x3), some (.inl x4), none] [] M r := by
  intro n
  induction n with
  | zero =>
    intro x1 x2 x3 x4 M r h
    cases h
  | succ n ih =>
    intro x1 x2 x3 x4 M r h
    exact am_Ev_seg (sem := am_s275_ z) (cut := ([(19, [true, true, true, true, true, false])] : List (Nat × List Bool))) (hs275 z) am_r275 am_k275 (by rw [am_l275]; decide) (fun pc al st M => (match Nat.beq pc 19 with
      | true => (match al, st with
        | [some (.inr (.inr (11, 205))), some (.inl x1), some (.inl x2), some (.inl x3), some (.inl x4), none], [] => f275_19 z n x1 x2 x3 x4 M
        | _, _ => none)
      | false => none)) 24 h (fun pc al st M hk => by
      try dsimp only at hk
      split at hk
      · rename_i he
        rw [am_beq he]
        split at hk
        · exact ih _ _ _ _ _ _ hk
        · cases hk
      · cases hk)
/-- ArgumentMenderModel.darn(I)I -/
def f275 (z : Nat) (x1 : Int32) (M : aM) : Option aR :=
  am_bi (f182 z x1 M) fun v2 M1 =>
    if ¬ v2 = 0 then
      f275_19 z z x1 (-1 : Int32) (61 : Int32) (0 : Int32) M1
    else
      some (some (.inl (-2 : Int32)), M1)
set_option maxRecDepth 100000 in
set_option maxHeartbeats 4000000 in
theorem e275 (z : Nat) : ∀ (x1 : Int32) (M : aM) (r : aR), f275 z x1 M = some r → am_Ev 11 275 0 [some (.inr (.inr (11, 205))), some (.inl x1), none, none, none, none] [] M r := by
  intro x1 M r h
  exact am_Ev_seg (sem := am_s275_ z) (cut := ([(19, [true, true, true, true, true, false])] : List (Nat × List Bool))) (hs275 z) am_r275 am_k275 (by rw [am_l275]; decide) (fun pc al st M => (match Nat.beq pc 19 with
      | true => (match al, st with
        | [some (.inr (.inr (11, 205))), some (.inl x1), some (.inl x2), some (.inl x3), some (.inl x4), none], [] => f275_19 z z x1 x2 x3 x4 M
        | _, _ => none)
      | false => none)) 12 h (fun pc al st M hk => by
      try dsimp only at hk
      split at hk
      · rename_i he
        rw [am_beq he]
        split at hk
        · exact e275_19 z _ _ _ _ _ _ _ hk
        · cases hk
      · cases hk)
def F275 (z : Nat) (as : List aV) (M : aM) : Option aR := match as with
  | [.inr (.inr (11, 205)), .inl x1] => f275 z x1 M
  | _ => none
theorem S275 (z : Nat) : am_Snd 11 275 (F275 z) := am_meth (by decide +kernel) (fun as M r has h => by
    rw [am_l275]
    unfold F275 at h
    split at h
    · exact ⟨Nat.le_of_ble_eq_true rfl, e275 z _ _ _ h⟩
    · cases h)
def cd276_0 : List am_E := [(0, .aload_n 0, 1, 0, 0, 0, 0), (1, .invokevirtual 329, 3, 211, 11004, 0, 0), (4, .aload_n 0, 1, 0, 0, 0, 0), (5, .iload_n 1, 1, 1, 0, 0, 0), (6, .i2l, 1, 0, 0, 0, 0), (7, .invokevirtual 241, 3, 183, 11010, 0, 0), (10, .ifCond .eq 20, 3, 30, 0, 0, 0), (13, .aload_n 0, 1, 0, 0, 0, 0), (14, .iload_n 1, 1, 1, 0, 0, 0), (15, .aload_n 0, 1, 0, 0, 0, 0), (16, .invokevirtual 362, 3, 233, 11000, 0, 0), (19, .invokevirtual 400, 3, 273, 11020, 0, 0), (22, .bipush 60, 2, 0, 0, 60, 0), (24, .invokestatic 394, 3, 269, 25, 0, 0), (27, .goto 5, 3, 32, 0, 0, 0), (30, .bipush (-2), 2, 0, 0, (-2), 0), (32, .ireturn, 1, 0, 0, 0, 0)]
def cd276 : List am_E := cd276_0
def am_w276 : List (List (Int32 × Nat) × Nat) := []
set_option maxRecDepth 100000 in
theorem kcd276_0 : cd276_0.all (am_chk am_w276 276) = true := by decide +kernel
theorem am_k276 : cd276.all (am_chk am_w276 276) = true := by
  simp only [cd276, List.all_append, kcd276_0, Bool.and_self]
theorem am_r276 : am_rtc 276 = 0 := by decide +kernel
theorem am_l276 : am_ml 276 = 2 := by decide +kernel
def am_s276_ (z : Nat) : Nat → List aV → aM → Option aR := fun j => (match Nat.beq j 183 with
  | true => F183 z
  | false => (match Nat.beq j 211 with
  | true => F211 z
  | false => (match Nat.beq j 233 with
  | true => F233 z
  | false => (match Nat.beq j 269 with
  | true => F269 z
  | false => (match Nat.beq j 273 with
  | true => F273 z
  | false => (fun _ _ => none))))))
theorem hs276 (z : Nat) : ∀ j2 : Nat, ∃ d2 : Nat, d2 + 1 ≤ 11 ∧ am_Snd d2 j2 (am_s276_ z j2) := by
  intro j2
  unfold am_s276_
  split
  · rename_i he
    rw [am_beq he]
    exact ⟨_, by decide, S183 z⟩
  · skip
    split
    · rename_i he
      rw [am_beq he]
      exact ⟨_, by decide, S211 z⟩
    · skip
      split
      · rename_i he
        rw [am_beq he]
        exact ⟨_, by decide, S233 z⟩
      · skip
        split
        · rename_i he
          rw [am_beq he]
          exact ⟨_, by decide, S269 z⟩
        · skip
          split
          · rename_i he
            rw [am_beq he]
            exact ⟨_, by decide, S273 z⟩
          · skip
            exact ⟨0, by decide, am_Snd_no j2⟩
/-- ArgumentMenderModel.mend(I)I -/
def f276 (z : Nat) (x1 : Int32) (M : aM) : Option aR :=
  am_bv (f211 z M) fun M1 =>
    am_bi (f183 z (Int32.toInt64 x1) M1) fun v3 M2 =>
      if v3 = 0 then
        some (some (.inl (-2 : Int32)), M2)
      else
        am_bi (f233 z M2) fun v5 M4 =>
          am_bi (f273 z x1 v5 M4) fun v7 M6 =>
            am_bi (f269 z v7 (60 : Int32) M6) fun v9 M8 =>
              some (some (.inl v9), M8)
set_option maxRecDepth 100000 in
set_option maxHeartbeats 4000000 in
theorem e276 (z : Nat) : ∀ (x1 : Int32) (M : aM) (r : aR), f276 z x1 M = some r → am_Ev 11 276 0 [some (.inr (.inr (11, 205))), some (.inl x1)] [] M r := by
  intro x1 M r h
  exact am_Ev_seg (sem := am_s276_ z) (cut := ([] : List (Nat × List Bool))) (hs276 z) am_r276 am_k276 (by rw [am_l276]; decide) (fun _ _ _ _ => none) 17 h (fun _ _ _ _ hk => by cases hk)
def F276 (z : Nat) (as : List aV) (M : aM) : Option aR := match as with
  | [.inr (.inr (11, 205)), .inl x1] => f276 z x1 M
  | _ => none
theorem S276 (z : Nat) : am_Snd 11 276 (F276 z) := am_meth (by decide +kernel) (fun as M r has h => by
    rw [am_l276]
    unfold F276 at h
    split at h
    · exact ⟨Nat.le_of_ble_eq_true rfl, e276 z _ _ _ h⟩
    · cases h)
def cd277_0 : List am_E := [(0, .iconst 0, 1, 0, 0, 0, 0), (1, .istore_n 3, 1, 3, 0, 0, 0), (2, .iload_n 3, 1, 3, 0, 0, 0), (3, .bipush 8, 2, 0, 0, 8, 0), (5, .if_icmp .gt 16, 3, 21, 0, 0, 0), (8, .aload_n 0, 1, 0, 0, 0, 0), (9, .getfield 73, 3, 11, 35, 0, 0), (12, .iload_n 3, 1, 3, 0, 0, 0), (13, .iconst (-1), 1, 0, 0, (-1), 0), (14, .iastore, 1, 0, 0, 0, 0), (15, .iinc 3 1, 3, 3, 0, 1, 0), (18, .goto (-16), 3, 2, 0, 0, 0), (21, .aload_n 0, 1, 0, 0, 0, 0), (22, .getfield 73, 3, 11, 35, 0, 0), (25, .iload_n 1, 1, 1, 0, 0, 0), (26, .bipush 16, 2, 0, 0, 16, 0), (28, .iastore, 1, 0, 0, 0, 0), (29, .iconst 1, 1, 0, 0, 1, 0), (30, .istore_n 3, 1, 3, 0, 0, 0), (31, .iload_n 3, 1, 3, 0, 0, 0), (32, .ifCond .eq 171, 3, 203, 0, 0, 0), (35, .aload_n 0, 1, 0, 0, 0, 0), (36, .getfield 73, 3, 11, 35, 0, 0), (39, .bipush 8, 2, 0, 0, 8, 0), (41, .iaload, 1, 0, 0, 0, 0), (42, .iconst (-1), 1, 0, 0, (-1), 0), (43, .if_icmp .ne 160, 3, 203, 0, 0, 0), (46, .iconst 0, 1, 0, 0, 0, 0), (47, .istore_n 3, 1, 3, 0, 0, 0), (48, .iconst 0, 1, 0, 0, 0, 0), (49, .istore 4, 2, 4, 0, 0, 0), (51, .iload 4, 2, 4, 0, 0, 0), (53, .aload_n 0, 1, 0, 0, 0, 0), (54, .invokevirtual 118, 3, 178, 11000, 0, 0), (57, .if_icmp .ge 143, 3, 200, 0, 0, 0), (60, .iload_n 2, 1, 2, 0, 0, 0), (61, .iload 4, 2, 4, 0, 0, 0), (63, .invokestatic 300, 3, 172, 25, 0, 0), (66, .ifCond .ne 6, 3, 72, 0, 0, 0), (69, .goto 125, 3, 194, 0, 0, 0)]
def cd277_1 : List am_E := [(72, .aload_n 0, 1, 0, 0, 0, 0), (73, .iload 4, 2, 4, 0, 0, 0), (75, .invokevirtual 291, 3, 186, 11010, 0, 0), (78, .iconst (-1), 1, 0, 0, (-1), 0), (79, .if_icmp .ne 8, 3, 87, 0, 0, 0), (82, .bipush 8, 2, 0, 0, 8, 0), (84, .goto 9, 3, 93, 0, 0, 0), (87, .aload_n 0, 1, 0, 0, 0, 0), (88, .iload 4, 2, 4, 0, 0, 0), (90, .invokevirtual 291, 3, 186, 11010, 0, 0), (93, .istore 5, 2, 5, 0, 0, 0), (95, .aload_n 0, 1, 0, 0, 0, 0), (96, .getfield 403, 3, 11, 36, 0, 0), (99, .iload 4, 2, 4, 0, 0, 0), (101, .invokestatic 300, 3, 172, 25, 0, 0), (104, .iconst 1, 1, 0, 0, 1, 0), (105, .if_icmp .ne 7, 3, 112, 0, 0, 0), (108, .iconst 1, 1, 0, 0, 1, 0), (109, .goto 4, 3, 113, 0, 0, 0), (112, .iconst 0, 1, 0, 0, 0, 0), (113, .istore 6, 2, 6, 0, 0, 0), (115, .iload 6, 2, 6, 0, 0, 0), (117, .ifCond .eq 8, 3, 125, 0, 0, 0), (120, .iload 5, 2, 5, 0, 0, 0), (122, .goto 9, 3, 131, 0, 0, 0), (125, .aload_n 0, 1, 0, 0, 0, 0), (126, .iload 4, 2, 4, 0, 0, 0), (128, .invokevirtual 252, 3, 185, 11010, 0, 0), (131, .istore 7, 2, 7, 0, 0, 0), (133, .iload 6, 2, 6, 0, 0, 0), (135, .ifCond .eq 12, 3, 147, 0, 0, 0), (138, .aload_n 0, 1, 0, 0, 0, 0), (139, .iload 4, 2, 4, 0, 0, 0), (141, .invokevirtual 252, 3, 185, 11010, 0, 0), (144, .goto 5, 3, 149, 0, 0, 0), (147, .iload 5, 2, 5, 0, 0, 0), (149, .istore 8, 2, 8, 0, 0, 0), (151, .aload_n 0, 1, 0, 0, 0, 0), (152, .getfield 73, 3, 11, 35, 0, 0), (155, .iload 7, 2, 7, 0, 0, 0)]
def cd277_2 : List am_E := [(157, .iaload, 1, 0, 0, 0, 0), (158, .iconst (-1), 1, 0, 0, (-1), 0), (159, .if_icmp .eq 35, 3, 194, 0, 0, 0), (162, .aload_n 0, 1, 0, 0, 0, 0), (163, .getfield 73, 3, 11, 35, 0, 0), (166, .iload 8, 2, 8, 0, 0, 0), (168, .iaload, 1, 0, 0, 0, 0), (169, .iconst (-1), 1, 0, 0, (-1), 0), (170, .if_icmp .ne 24, 3, 194, 0, 0, 0), (173, .iload 7, 2, 7, 0, 0, 0), (175, .bipush 8, 2, 0, 0, 8, 0), (177, .if_icmp .ne 6, 3, 183, 0, 0, 0), (180, .goto 14, 3, 194, 0, 0, 0), (183, .aload_n 0, 1, 0, 0, 0, 0), (184, .getfield 73, 3, 11, 35, 0, 0), (187, .iload 8, 2, 8, 0, 0, 0), (189, .iload 4, 2, 4, 0, 0, 0), (191, .iastore, 1, 0, 0, 0, 0), (192, .iconst 1, 1, 0, 0, 1, 0), (193, .istore_n 3, 1, 3, 0, 0, 0), (194, .iinc 4 1, 3, 4, 0, 1, 0), (197, .goto (-146), 3, 51, 0, 0, 0), (200, .goto (-169), 3, 31, 0, 0, 0), (203, .aload_n 0, 1, 0, 0, 0, 0), (204, .getfield 73, 3, 11, 35, 0, 0), (207, .bipush 8, 2, 0, 0, 8, 0), (209, .iaload, 1, 0, 0, 0, 0), (210, .iconst (-1), 1, 0, 0, (-1), 0), (211, .if_icmp .ne 5, 3, 216, 0, 0, 0), (214, .iconst 0, 1, 0, 0, 0, 0), (215, .ireturn, 1, 0, 0, 0, 0), (216, .bipush 8, 2, 0, 0, 8, 0), (218, .istore 4, 2, 4, 0, 0, 0), (220, .iload 4, 2, 4, 0, 0, 0), (222, .iload_n 1, 1, 1, 0, 0, 0), (223, .if_icmp .eq 71, 3, 294, 0, 0, 0), (226, .aload_n 0, 1, 0, 0, 0, 0), (227, .getfield 73, 3, 11, 35, 0, 0), (230, .iload 4, 2, 4, 0, 0, 0), (232, .iaload, 1, 0, 0, 0, 0)]
def cd277_3 : List am_E := [(233, .istore 5, 2, 5, 0, 0, 0), (235, .aload_n 0, 1, 0, 0, 0, 0), (236, .iload 5, 2, 5, 0, 0, 0), (238, .invokevirtual 291, 3, 186, 11010, 0, 0), (241, .iconst (-1), 1, 0, 0, (-1), 0), (242, .if_icmp .ne 8, 3, 250, 0, 0, 0), (245, .bipush 8, 2, 0, 0, 8, 0), (247, .goto 9, 3, 256, 0, 0, 0), (250, .aload_n 0, 1, 0, 0, 0, 0), (251, .iload 5, 2, 5, 0, 0, 0), (253, .invokevirtual 291, 3, 186, 11010, 0, 0), (256, .istore 6, 2, 6, 0, 0, 0), (258, .aload_n 0, 1, 0, 0, 0, 0), (259, .dup, 1, 0, 0, 0, 0), (260, .getfield 403, 3, 11, 36, 0, 0), (263, .iconst 1, 1, 0, 0, 1, 0), (264, .iload 5, 2, 5, 0, 0, 0), (266, .ishl, 1, 0, 0, 0, 0), (267, .ixor, 1, 0, 0, 0, 0), (268, .putfield 403, 3, 11, 36, 0, 0), (271, .iload 4, 2, 4, 0, 0, 0), (273, .iload 6, 2, 6, 0, 0, 0), (275, .if_icmp .ne 12, 3, 287, 0, 0, 0), (278, .aload_n 0, 1, 0, 0, 0, 0), (279, .iload 5, 2, 5, 0, 0, 0), (281, .invokevirtual 252, 3, 185, 11010, 0, 0), (284, .goto 5, 3, 289, 0, 0, 0), (287, .iload 6, 2, 6, 0, 0, 0), (289, .istore 4, 2, 4, 0, 0, 0), (291, .goto (-71), 3, 220, 0, 0, 0), (294, .iconst 1, 1, 0, 0, 1, 0), (295, .ireturn, 1, 0, 0, 0, 0)]
def cd277 : List am_E := cd277_0 ++ (cd277_1 ++ (cd277_2 ++ (cd277_3)))
def am_w277 : List (List (Int32 × Nat) × Nat) := []
set_option maxRecDepth 100000 in
theorem kcd277_0 : cd277_0.all (am_chk am_w277 277) = true := by decide +kernel
set_option maxRecDepth 100000 in
theorem kcd277_1 : cd277_1.all (am_chk am_w277 277) = true := by decide +kernel
set_option maxRecDepth 100000 in
theorem kcd277_2 : cd277_2.all (am_chk am_w277 277) = true := by decide +kernel
set_option maxRecDepth 100000 in
theorem kcd277_3 : cd277_3.all (am_chk am_w277 277) = true := by decide +kernel
theorem am_k277 : cd277.all (am_chk am_w277 277) = true := by
  simp only [cd277, List.all_append, kcd277_0, kcd277_1, kcd277_2, kcd277_3, Bool.and_self]
theorem am_r277 : am_rtc 277 = 1 := by decide +kernel
theorem am_l277 : am_ml 277 = 9 := by decide +kernel
def am_s277_ (z : Nat) : Nat → List aV → aM → Option aR := fun j => (match Nat.beq j 172 with
  | true => F172 z
  | false => (match Nat.beq j 178 with
  | true => F178 z
  | false => (match Nat.beq j 185 with
  | true => F185 z
  | false => (match Nat.beq j 186 with
  | true => F186 z
  | false => (fun _ _ => none)))))
theorem hs277 (z : Nat) : ∀ j2 : Nat, ∃ d2 : Nat, d2 + 1 ≤ 2 ∧ am_Snd d2 j2 (am_s277_ z j2) := by
  intro j2
  unfold am_s277_
  split
  · rename_i he
    rw [am_beq he]
    exact ⟨_, by decide, S172 z⟩
  · skip
    split
    · rename_i he
      rw [am_beq he]
      exact ⟨_, by decide, S178 z⟩
    · skip
      split
      · rename_i he
        rw [am_beq he]
        exact ⟨_, by decide, S185 z⟩
      · skip
        split
        · rename_i he
          rw [am_beq he]
          exact ⟨_, by decide, S186 z⟩
        · skip
          exact ⟨0, by decide, am_Snd_no j2⟩
def f277_131 (z : Nat) (k31 : Int32 → Int32 → Int32 → aM → Option aR) (k51 : Int32 → Int32 → Int32 → Int32 → aM → Option aR)  (x1 : Int32) (x2 : Int32) (x3 : Int32) (x4 : Int32) (x5 : Int32) (x6 : Int32) (xs0 : Int32) (M : aM) : Option aR :=
  if x6 = 0 then
    if am_inB xs0 9 then
      if (M.1 225 xs0.toNatClampNeg) = (-1 : Int32) then
        k51 x1 x2 x3 (x4 + (1 : Int32)) M
      else
        if am_inB x5 9 then
          if ¬ (M.1 225 x5.toNatClampNeg) = (-1 : Int32) then
            k51 x1 x2 x3 (x4 + (1 : Int32)) M
          else
            if ¬ xs0 = (8 : Int32) then
              if am_inB x5 9 then
                let I1 := am_u M.1 225 x5.toNatClampNeg x4
                k51 x1 x2 (1 : Int32) (x4 + (1 : Int32)) (I1, M.2)
              else
                none
            else
              k51 x1 x2 x3 (x4 + (1 : Int32)) M
        else
          none
    else
      none
  else
    am_bi (f185 z x4 M) fun v3 M2 =>
      if am_inB xs0 9 then
        if (M2.1 225 xs0.toNatClampNeg) = (-1 : Int32) then
          k51 x1 x2 x3 (x4 + (1 : Int32)) M2
        else
          if am_inB v3 9 then
            if ¬ (M2.1 225 v3.toNatClampNeg) = (-1 : Int32) then
              k51 x1 x2 x3 (x4 + (1 : Int32)) M2
            else
              if ¬ xs0 = (8 : Int32) then
                if am_inB v3 9 then
                  let I4 := am_u M2.1 225 v3.toNatClampNeg x4
                  k51 x1 x2 (1 : Int32) (x4 + (1 : Int32)) (I4, M2.2)
                else
                  none
              else
                k51 x1 x2 x3 (x4 + (1 : Int32)) M2
          else
            none
      else
        none
set_option maxRecDepth 100000 in
set_option maxHeartbeats 4000000 in
theorem e277_131 (z : Nat) (k31 : Int32 → Int32 → Int32 → aM → Option aR) (hk31 : ∀ (x1 : Int32) (x2 : Int32) (x3 : Int32) (M : aM) (r : aR), k31 x1 x2 x3 M = some r → am_Ev 2 277 31 [some (.inr (.inr (11, 205))), some (.inl x1), some (.inl x2), some (.inl x3), none, none, none, none, none] [] M r) (k51 : Int32 → Int32 → Int32 → Int32 → aM → Option aR) (hk51 : ∀ (x1 : Int32) (x2 : Int32) (x3 : Int32) (x4 : Int32) (M : aM) (r : aR), k51 x1 x2 x3 x4 M = some r → am_Ev 2 277 51 [some (.inr (.inr (11, 205))), some (.inl x1), some (.inl x2), some (.inl x3), some (.inl x4), none, none, none, none] [] M r) : ∀ (x1 : Int32) (x2 : Int32) (x3 : Int32) (x4 : Int32) (x5 : Int32) (x6 : Int32) (xs0 : Int32) (M : aM) (r : aR), f277_131 z k31 k51 x1 x2 x3 x4 x5 x6 xs0 M = some r → am_Ev 2 277 131 [some (.inr (.inr (11, 205))), some (.inl x1), some (.inl x2), some (.inl x3), some (.inl x4), some (.inl x5), some (.inl x6), none, none] [.inl xs0] M r := by
  intro x1 x2 x3 x4 x5 x6 xs0 M r h
  exact am_Ev_seg (sem := am_s277_ z) (cut := ([(51, [true, true, true, true, true, false, false, false, false])] : List (Nat × List Bool))) (hs277 z) am_r277 am_k277 (by rw [am_l277]; decide) (fun pc al st M => (match Nat.beq pc 51 with
      | true => (match al, st with
        | [some (.inr (.inr (11, 205))), some (.inl x1), some (.inl x2), some (.inl x3), some (.inl x4), none, none, none, none], [] => k51 x1 x2 x3 x4 M
        | _, _ => none)
      | false => none)) 34 h (fun pc al st M hk => by
      try dsimp only at hk
      split at hk
      · rename_i he
        rw [am_beq he]
        split at hk
        · exact hk51 _ _ _ _ _ _ hk
        · cases hk
      · cases hk)
def f277_51 (z : Nat) (k31 : Int32 → Int32 → Int32 → aM → Option aR) : Nat → Int32 → Int32 → Int32 → Int32 → aM → Option aR
  | 0, _, _, _, _, _ => none
  | n + 1, x1, x2, x3, x4, M =>
    am_bi (f178 z M) fun v2 M1 =>
      if v2 ≤ x4 then
        k31 x1 x2 x3 M1
      else
        am_bi (f172 z x2 x4 M1) fun v4 M3 =>
          if ¬ v4 = 0 then
            am_bi (f186 z x4 M3) fun v6 M5 =>
              if ¬ v6 = (-1 : Int32) then
                am_bi (f186 z x4 M5) fun v8 M7 =>
                  am_bi (f172 z (M7.1 205 36) x4 M7) fun v10 M9 =>
                    if ¬ v10 = (1 : Int32) then
                      if (0 : Int32) = 0 then
                        am_bi (f185 z x4 M9) fun v12 M11 =>
                          f277_131 z k31 (f277_51 z k31 n) x1 x2 x3 x4 v8 (0 : Int32) v12 M11
                      else
                        f277_131 z k31 (f277_51 z k31 n) x1 x2 x3 x4 v8 (0 : Int32) v8 M9
                    else
                      if (1 : Int32) = 0 then
                        am_bi (f185 z x4 M9) fun v14 M13 =>
                          f277_131 z k31 (f277_51 z k31 n) x1 x2 x3 x4 v8 (1 : Int32) v14 M13
                      else
                        f277_131 z k31 (f277_51 z k31 n) x1 x2 x3 x4 v8 (1 : Int32) v8 M9
              else
                am_bi (f172 z (M5.1 205 36) x4 M5) fun v16 M15 =>
                  if ¬ v16 = (1 : Int32) then
                    if (0 : Int32) = 0 then
                      am_bi (f185 z x4 M15) fun v18 M17 =>
                        f277_131 z k31 (f277_51 z k31 n) x1 x2 x3 x4 (8 : Int32) (0 : Int32) v18 M17
                    else
                      f277_131 z k31 (f277_51 z k31 n) x1 x2 x3 x4 (8 : Int32) (0 : Int32) (8 : Int32) M15
                  else
                    if (1 : Int32) = 0 then
                      am_bi (f185 z x4 M15) fun v20 M19 =>
                        f277_131 z k31 (f277_51 z k31 n) x1 x2 x3 x4 (8 : Int32) (1 : Int32) v20 M19
                    else
                      f277_131 z k31 (f277_51 z k31 n) x1 x2 x3 x4 (8 : Int32) (1 : Int32) (8 : Int32) M15
          else
            f277_51 z k31 n x1 x2 x3 (x4 + (1 : Int32)) M3
set_option maxRecDepth 100000 in
set_option maxHeartbeats 4000000 in
theorem e277_51 (z : Nat) (k31 : Int32 → Int32 → Int32 → aM → Option aR) (hk31 : ∀ (x1 : Int32) (x2 : Int32) (x3 : Int32) (M : aM) (r : aR), k31 x1 x2 x3 M = some r → am_Ev 2 277 31 [some (.inr (.inr (11, 205))), some (.inl x1), some (.inl x2), some (.inl x3), none, none, none, none, none] [] M r) : ∀ (n : Nat) (x1 : Int32) (x2 : Int32) (x3 : Int32) (x4 : Int32) (M : aM) (r : aR), f277_51 z k31 n x1 x2 x3 x4 M = some r → am_Ev 2 277 51 [some (.inr (.inr (11, 205))), some (.inl x1), some (.inl x2), some (.inl x3), some (.inl x4), none, none, none, none] [] M r := by
  intro n
  induction n with
  | zero =>
    intro x1 x2 x3 x4 M r h
    cases h
  | succ n ih =>
    intro x1 x2 x3 x4 M r h
    exact am_Ev_seg (sem := am_s277_ z) (cut := ([(31, [true, true, true, true, false, false, false, false, false]), (51, [true, true, true, true, true, false, false, false, false]), (131, [true, true, true, true, true, true, true, false, false])] : List (Nat × List Bool))) (hs277 z) am_r277 am_k277 (by rw [am_l277]; decide) (fun pc al st M => (match Nat.beq pc 31 with
      | true => (match al, st with
        | [some (.inr (.inr (11, 205))), some (.inl x1), some (.inl x2), some (.inl x3), none, none, none, none, none], [] => k31 x1 x2 x3 M
        | _, _ => none)
      | false => (match Nat.beq pc 51 with
      | true => (match al, st with
        | [some (.inr (.inr (11, 205))), some (.inl x1), some (.inl x2), some (.inl x3), some (.inl x4), none, none, none, none], [] => f277_51 z k31 n x1 x2 x3 x4 M
        | _, _ => none)
      | false => (match Nat.beq pc 131 with
      | true => (match al, st with
        | [some (.inr (.inr (11, 205))), some (.inl x1), some (.inl x2), some (.inl x3), some (.inl x4), some (.inl x5), some (.inl x6), none, none], [.inl xs0] => f277_131 z k31 (f277_51 z k31 n) x1 x2 x3 x4 x5 x6 xs0 M
        | _, _ => none)
      | false => none)))) 33 h (fun pc al st M hk => by
      try dsimp only at hk
      split at hk
      · rename_i he
        rw [am_beq he]
        split at hk
        · exact hk31 _ _ _ _ _ hk
        · cases hk
      · skip
        split at hk
        · rename_i he
          rw [am_beq he]
          split at hk
          · exact ih _ _ _ _ _ _ hk
          · cases hk
        · skip
          split at hk
          · rename_i he
            rw [am_beq he]
            split at hk
            · exact e277_131 z _ hk31 _ ih _ _ _ _ _ _ _ _ _ hk
            · cases hk
          · cases hk)
def f277_220 (z : Nat) : Nat → Int32 → Int32 → aM → Option aR
  | 0, _, _, _ => none
  | n + 1, x1, x4, M =>
    if x4 = x1 then
      some (some (.inl ((1 : Int32) &&& 1)), M)
    else
      if am_inB x4 9 then
        am_bi (f186 z (M.1 225 x4.toNatClampNeg) M) fun v2 M1 =>
          if ¬ v2 = (-1 : Int32) then
            am_bi (f186 z (M.1 225 x4.toNatClampNeg) M1) fun v4 M3 =>
              let I5 := am_u M3.1 205 36 ((M3.1 205 36) ^^^ ((1 : Int32) <<< ((M.1 225 x4.toNatClampNeg) &&& 31)))
              if ¬ x4 = v4 then
                f277_220 z n x1 v4 (I5, M3.2)
              else
                am_bi (f185 z (M.1 225 x4.toNatClampNeg) (I5, M3.2)) fun v7 M6 =>
                  f277_220 z n x1 v7 M6
          else
            let I8 := am_u M1.1 205 36 ((M1.1 205 36) ^^^ ((1 : Int32) <<< ((M.1 225 x4.toNatClampNeg) &&& 31)))
            if ¬ x4 = (8 : Int32) then
              f277_220 z n x1 (8 : Int32) (I8, M1.2)
            else
              am_bi (f185 z (M.1 225 x4.toNatClampNeg) (I8, M1.2)) fun v10 M9 =>
                f277_220 z n x1 v10 M9
      else
        none
set_option maxRecDepth 100000 in
set_option maxHeartbeats 4000000 in
theorem e277_220 (z : Nat) : ∀ (n : Nat) (x1 : Int32) (x4 : Int32) (M : aM) (r : aR), f277_220 z n x1 x4 M = some r → am_Ev 2 277 220 [some (.inr (.inr (11, 205))), some (.inl x1), none, none, some (.inl x4), none, none, none, none] [] M r := by
  intro n
  induction n with
  | zero =>
    intro x1 x4 M r h
    cases h
  | succ n ih =>
    intro x1 x4 M r h
    exact am_Ev_seg (sem := am_s277_ z) (cut := ([(220, [true, true, false, false, true, false, false, false, false])] : List (Nat × List Bool))) (hs277 z) am_r277 am_k277 (by rw [am_l277]; decide) (fun pc al st M => (match Nat.beq pc 220 with
      | true => (match al, st with
        | [some (.inr (.inr (11, 205))), some (.inl x1), none, none, some (.inl x4), none, none, none, none], [] => f277_220 z n x1 x4 M
        | _, _ => none)
      | false => none)) 36 h (fun pc al st M hk => by
      try dsimp only at hk
      split at hk
      · rename_i he
        rw [am_beq he]
        split at hk
        · exact ih _ _ _ _ hk
        · cases hk
      · cases hk)
def f277_31 (z : Nat) : Nat → Int32 → Int32 → Int32 → aM → Option aR
  | 0, _, _, _, _ => none
  | n + 1, x1, x2, x3, M =>
    if x3 = 0 then
      if am_inB (8 : Int32) 9 then
        if ¬ (M.1 225 (8 : Int32).toNatClampNeg) = (-1 : Int32) then
          f277_220 z z x1 (8 : Int32) M
        else
          some (some (.inl ((0 : Int32) &&& 1)), M)
      else
        none
    else
      if am_inB (8 : Int32) 9 then
        if ¬ (M.1 225 (8 : Int32).toNatClampNeg) = (-1 : Int32) then
          if am_inB (8 : Int32) 9 then
            if ¬ (M.1 225 (8 : Int32).toNatClampNeg) = (-1 : Int32) then
              f277_220 z z x1 (8 : Int32) M
            else
              some (some (.inl ((0 : Int32) &&& 1)), M)
          else
            none
        else
          f277_51 z (f277_31 z n) z x1 x2 (0 : Int32) (0 : Int32) M
      else
        none
set_option maxRecDepth 100000 in
set_option maxHeartbeats 4000000 in
theorem e277_31 (z : Nat) : ∀ (n : Nat) (x1 : Int32) (x2 : Int32) (x3 : Int32) (M : aM) (r : aR), f277_31 z n x1 x2 x3 M = some r → am_Ev 2 277 31 [some (.inr (.inr (11, 205))), some (.inl x1), some (.inl x2), some (.inl x3), none, none, none, none, none] [] M r := by
  intro n
  induction n with
  | zero =>
    intro x1 x2 x3 M r h
    cases h
  | succ n ih =>
    intro x1 x2 x3 M r h
    exact am_Ev_seg (sem := am_s277_ z) (cut := ([(51, [true, true, true, true, true, false, false, false, false]), (220, [true, true, false, false, true, false, false, false, false])] : List (Nat × List Bool))) (hs277 z) am_r277 am_k277 (by rw [am_l277]; decide) (fun pc al st M => (match Nat.beq pc 51 with
      | true => (match al, st with
        | [some (.inr (.inr (11, 205))), some (.inl x1), some (.inl x2), some (.inl x3), some (.inl x4), none, none, none, none], [] => f277_51 z (f277_31 z n) z x1 x2 x3 x4 M
        | _, _ => none)
      | false => (match Nat.beq pc 220 with
      | true => (match al, st with
        | [some (.inr (.inr (11, 205))), some (.inl x1), none, none, some (.inl x4), none, none, none, none], [] => f277_220 z z x1 x4 M
        | _, _ => none)
      | false => none))) 18 h (fun pc al st M hk => by
      try dsimp only at hk
      split at hk
      · rename_i he
        rw [am_beq he]
        split at hk
        · exact e277_51 z _ ih _ _ _ _ _ _ _ hk
        · cases hk
      · skip
        split at hk
        · rename_i he
          rw [am_beq he]
          split at hk
          · exact e277_220 z _ _ _ _ _ hk
          · cases hk
        · cases hk)
def f277_2 (z : Nat) : Nat → Int32 → Int32 → Int32 → aM → Option aR
  | 0, _, _, _, _ => none
  | n + 1, x1, x2, x3, M =>
    if (8 : Int32) < x3 then
      if am_inB x1 9 then
        let I1 := am_u M.1 225 x1.toNatClampNeg (16 : Int32)
        f277_31 z z x1 x2 (1 : Int32) (I1, M.2)
      else
        none
    else
      if am_inB x3 9 then
        let I2 := am_u M.1 225 x3.toNatClampNeg (-1 : Int32)
        f277_2 z n x1 x2 (x3 + (1 : Int32)) (I2, M.2)
      else
        none
set_option maxRecDepth 100000 in
set_option maxHeartbeats 4000000 in
theorem e277_2 (z : Nat) : ∀ (n : Nat) (x1 : Int32) (x2 : Int32) (x3 : Int32) (M : aM) (r : aR), f277_2 z n x1 x2 x3 M = some r → am_Ev 2 277 2 [some (.inr (.inr (11, 205))), some (.inl x1), some (.inl x2), some (.inl x3), none, none, none, none, none] [] M r := by
  intro n
  induction n with
  | zero =>
    intro x1 x2 x3 M r h
    cases h
  | succ n ih =>
    intro x1 x2 x3 M r h
    exact am_Ev_seg (sem := am_s277_ z) (cut := ([(2, [true, true, true, true, false, false, false, false, false]), (31, [true, true, true, true, false, false, false, false, false])] : List (Nat × List Bool))) (hs277 z) am_r277 am_k277 (by rw [am_l277]; decide) (fun pc al st M => (match Nat.beq pc 2 with
      | true => (match al, st with
        | [some (.inr (.inr (11, 205))), some (.inl x1), some (.inl x2), some (.inl x3), none, none, none, none, none], [] => f277_2 z n x1 x2 x3 M
        | _, _ => none)
      | false => (match Nat.beq pc 31 with
      | true => (match al, st with
        | [some (.inr (.inr (11, 205))), some (.inl x1), some (.inl x2), some (.inl x3), none, none, none, none, none], [] => f277_31 z z x1 x2 x3 M
        | _, _ => none)
      | false => none))) 12 h (fun pc al st M hk => by
      try dsimp only at hk
      split at hk
      · rename_i he
        rw [am_beq he]
        split at hk
        · exact ih _ _ _ _ _ hk
        · cases hk
      · skip
        split at hk
        · rename_i he
          rw [am_beq he]
          split at hk
          · exact e277_31 z _ _ _ _ _ _ hk
          · cases hk
        · cases hk)
/-- ArgumentMenderModel.findWay(II)Z -/
def f277 (z : Nat) (x1 : Int32) (x2 : Int32) (M : aM) : Option aR :=
  f277_2 z z x1 x2 (0 : Int32) M
set_option maxRecDepth 100000 in
set_option maxHeartbeats 4000000 in
theorem e277 (z : Nat) : ∀ (x1 : Int32) (x2 : Int32) (M : aM) (r : aR), f277 z x1 x2 M = some r → am_Ev 2 277 0 [some (.inr (.inr (11, 205))), some (.inl x1), some (.inl x2), none, none, none, none, none, none] [] M r := by
  intro x1 x2 M r h
  exact am_Ev_seg (sem := am_s277_ z) (cut := ([(2, [true, true, true, true, false, false, false, false, false])] : List (Nat × List Bool))) (hs277 z) am_r277 am_k277 (by rw [am_l277]; decide) (fun pc al st M => (match Nat.beq pc 2 with
      | true => (match al, st with
        | [some (.inr (.inr (11, 205))), some (.inl x1), some (.inl x2), some (.inl x3), none, none, none, none, none], [] => f277_2 z z x1 x2 x3 M
        | _, _ => none)
      | false => none)) 4 h (fun pc al st M hk => by
      try dsimp only at hk
      split at hk
      · rename_i he
        rw [am_beq he]
        split at hk
        · exact e277_2 z _ _ _ _ _ _ hk
        · cases hk
      · cases hk)
def F277 (z : Nat) (as : List aV) (M : aM) : Option aR := match as with
  | [.inr (.inr (11, 205)), .inl x1, .inl x2] => f277 z x1 x2 M
  | _ => none
theorem S277 (z : Nat) : am_Snd 2 277 (F277 z) := am_meth (by decide +kernel) (fun as M r has h => by
    rw [am_l277]
    unfold F277 at h
    split at h
    · exact ⟨Nat.le_of_ble_eq_true rfl, e277 z _ _ _ _ h⟩
    · cases h)
