def cd278_0 : List am_E := [(0, .aload_n 0, 1, 0, 0, 0, 0), (1, .iload_n 2, 1, 2, 0, 0, 0), (2, .invokevirtual 356, 3, 226, 11010, 0, 0), (5, .ifCond .eq 11, 3, 16, 0, 0, 0), (8, .aload_n 0, 1, 0, 0, 0, 0), (9, .iload_n 1, 1, 1, 0, 0, 0), (10, .invokevirtual 255, 3, 182, 11010, 0, 0), (13, .ifCond .ne 6, 3, 19, 0, 0, 0), (16, .bipush (-2), 2, 0, 0, (-2), 0), (18, .ireturn, 1, 0, 0, 0, 0), (19, .aload_n 0, 1, 0, 0, 0, 0), (20, .iconst 0, 1, 0, 0, 0, 0), (21, .putfield 403, 3, 11, 36, 0, 0), (24, .iconst 0, 1, 0, 0, 0, 0), (25, .istore_n 3, 1, 3, 0, 0, 0), (26, .aload_n 0, 1, 0, 0, 0, 0), (27, .iload_n 1, 1, 1, 0, 0, 0), (28, .aload_n 0, 1, 0, 0, 0, 0), (29, .iload_n 2, 1, 2, 0, 0, 0), (30, .invokevirtual 347, 3, 229, 11010, 0, 0), (33, .invokevirtual 406, 3, 277, 11020, 0, 0), (36, .ifCond .eq 9, 3, 45, 0, 0, 0), (39, .iinc 3 1, 3, 3, 0, 1, 0), (42, .goto (-16), 3, 26, 0, 0, 0), (45, .iload_n 3, 1, 3, 0, 0, 0), (46, .ireturn, 1, 0, 0, 0, 0)]
def cd278 : List am_E := cd278_0
def am_w278 : List (List (Int32 × Nat) × Nat) := []
set_option maxRecDepth 100000 in
theorem kcd278_0 : cd278_0.all (am_chk am_w278 278) = true := by decide +kernel
theorem am_k278 : cd278.all (am_chk am_w278 278) = true := by
  simp only [cd278, List.all_append, kcd278_0, Bool.and_self]
theorem am_r278 : am_rtc 278 = 0 := by decide +kernel
theorem am_l278 : am_ml 278 = 4 := by decide +kernel
def am_s278_ (z : Nat) : Nat → List aV → aM → Option aR := fun j => (match Nat.beq j 182 with
  | true => F182 z
  | false => (match Nat.beq j 226 with
  | true => F226 z
  | false => (match Nat.beq j 229 with
  | true => F229 z
  | false => (match Nat.beq j 277 with
  | true => F277 z
  | false => (fun _ _ => none)))))
theorem hs278 (z : Nat) : ∀ j2 : Nat, ∃ d2 : Nat, d2 + 1 ≤ 12 ∧ am_Snd d2 j2 (am_s278_ z j2) := by
  intro j2
  unfold am_s278_
  split
  · rename_i he
    rw [am_beq he]
    exact ⟨_, by decide, S182 z⟩
  · skip
    split
    · rename_i he
      rw [am_beq he]
      exact ⟨_, by decide, S226 z⟩
    · skip
      split
      · rename_i he
        rw [am_beq he]
        exact ⟨_, by decide, S229 z⟩
      · skip
        split
        · rename_i he
          rw [am_beq he]
          exact ⟨_, by decide, S277 z⟩
        · skip
          exact ⟨0, by decide, am_Snd_no j2⟩
def f278_26 (z : Nat) : Nat → Int32 → Int32 → Int32 → aM → Option aR
  | 0, _, _, _, _ => none
  | n + 1, x1, x2, x3, M =>
    am_bi (f229 z x2 M) fun v2 M1 =>
      am_bi (f277 z x1 v2 M1) fun v4 M3 =>
        if v4 = 0 then
          some (some (.inl x3), M3)
        else
          f278_26 z n x1 x2 (x3 + (1 : Int32)) M3
set_option maxRecDepth 100000 in
set_option maxHeartbeats 4000000 in
theorem e278_26 (z : Nat) : ∀ (n : Nat) (x1 : Int32) (x2 : Int32) (x3 : Int32) (M : aM) (r : aR), f278_26 z n x1 x2 x3 M = some r → am_Ev 12 278 26 [some (.inr (.inr (11, 205))), some (.inl x1), some (.inl x2), some (.inl x3)] [] M r := by
  intro n
  induction n with
  | zero =>
    intro x1 x2 x3 M r h
    cases h
  | succ n ih =>
    intro x1 x2 x3 M r h
    exact am_Ev_seg (sem := am_s278_ z) (cut := ([(26, [true, true, true, true])] : List (Nat × List Bool))) (hs278 z) am_r278 am_k278 (by rw [am_l278]; decide) (fun pc al st M => (match Nat.beq pc 26 with
      | true => (match al, st with
        | [some (.inr (.inr (11, 205))), some (.inl x1), some (.inl x2), some (.inl x3)], [] => f278_26 z n x1 x2 x3 M
        | _, _ => none)
      | false => none)) 11 h (fun pc al st M hk => by
      try dsimp only at hk
      split at hk
      · rename_i he
        rw [am_beq he]
        split at hk
        · exact ih _ _ _ _ _ hk
        · cases hk
      · cases hk)
/-- ArgumentMenderModel.cut(II)I -/
def f278 (z : Nat) (x1 : Int32) (x2 : Int32) (M : aM) : Option aR :=
  am_bi (f226 z x2 M) fun v2 M1 =>
    if v2 = 0 then
      some (some (.inl (-2 : Int32)), M1)
    else
      am_bi (f182 z x1 M1) fun v4 M3 =>
        if ¬ v4 = 0 then
          let I5 := am_u M3.1 205 36 (0 : Int32)
          f278_26 z z x1 x2 (0 : Int32) (I5, M3.2)
        else
          some (some (.inl (-2 : Int32)), M3)
set_option maxRecDepth 100000 in
set_option maxHeartbeats 4000000 in
theorem e278 (z : Nat) : ∀ (x1 : Int32) (x2 : Int32) (M : aM) (r : aR), f278 z x1 x2 M = some r → am_Ev 12 278 0 [some (.inr (.inr (11, 205))), some (.inl x1), some (.inl x2), none] [] M r := by
  intro x1 x2 M r h
  exact am_Ev_seg (sem := am_s278_ z) (cut := ([(26, [true, true, true, true])] : List (Nat × List Bool))) (hs278 z) am_r278 am_k278 (by rw [am_l278]; decide) (fun pc al st M => (match Nat.beq pc 26 with
      | true => (match al, st with
        | [some (.inr (.inr (11, 205))), some (.inl x1), some (.inl x2), some (.inl x3)], [] => f278_26 z z x1 x2 x3 M
        | _, _ => none)
      | false => none)) 15 h (fun pc al st M hk => by
      try dsimp only at hk
      split at hk
      · rename_i he
        rw [am_beq he]
        split at hk
        · exact e278_26 z _ _ _ _ _ _ hk
        · cases hk
      · cases hk)
def F278 (z : Nat) (as : List aV) (M : aM) : Option aR := match as with
  | [.inr (.inr (11, 205)), .inl x1, .inl x2] => f278 z x1 x2 M
  | _ => none
theorem S278 (z : Nat) : am_Snd 12 278 (F278 z) := am_meth (by decide +kernel) (fun as M r has h => by
    rw [am_l278]
    unfold F278 at h
    split at h
    · exact ⟨Nat.le_of_ble_eq_true rfl, e278 z _ _ _ _ h⟩
    · cases h)
def cd279_0 : List am_E := [(0, .aload_n 0, 1, 0, 0, 0, 0), (1, .iload_n 2, 1, 2, 0, 0, 0), (2, .invokevirtual 356, 3, 226, 11010, 0, 0), (5, .ifCond .eq 11, 3, 16, 0, 0, 0), (8, .aload_n 0, 1, 0, 0, 0, 0), (9, .iload_n 1, 1, 1, 0, 0, 0), (10, .invokevirtual 255, 3, 182, 11010, 0, 0), (13, .ifCond .ne 6, 3, 19, 0, 0, 0), (16, .bipush (-2), 2, 0, 0, (-2), 0), (18, .ireturn, 1, 0, 0, 0, 0), (19, .iconst 0, 1, 0, 0, 0, 0), (20, .istore_n 3, 1, 3, 0, 0, 0), (21, .aload_n 0, 1, 0, 0, 0, 0), (22, .iload_n 2, 1, 2, 0, 0, 0), (23, .invokevirtual 353, 3, 231, 11010, 0, 0), (26, .iload_n 1, 1, 1, 0, 0, 0), (27, .invokestatic 300, 3, 172, 25, 0, 0), (30, .ifCond .ne 5, 3, 35, 0, 0, 0), (33, .iconst 0, 1, 0, 0, 0, 0), (34, .ireturn, 1, 0, 0, 0, 0), (35, .iconst 0, 1, 0, 0, 0, 0), (36, .istore 4, 2, 4, 0, 0, 0), (38, .iload 4, 2, 4, 0, 0, 0), (40, .aload_n 0, 1, 0, 0, 0, 0), (41, .invokevirtual 118, 3, 178, 11000, 0, 0), (44, .if_icmp .ge 57, 3, 101, 0, 0, 0), (47, .iload_n 3, 1, 3, 0, 0, 0), (48, .aload_n 0, 1, 0, 0, 0, 0), (49, .iload_n 2, 1, 2, 0, 0, 0), (50, .invokevirtual 347, 3, 229, 11010, 0, 0), (53, .iload 4, 2, 4, 0, 0, 0), (55, .invokestatic 300, 3, 172, 25, 0, 0), (58, .iconst 1, 1, 0, 0, 1, 0), (59, .if_icmp .ne 33, 3, 92, 0, 0, 0), (62, .aload_n 0, 1, 0, 0, 0, 0), (63, .aload_n 0, 1, 0, 0, 0, 0), (64, .iload_n 2, 1, 2, 0, 0, 0), (65, .invokevirtual 347, 3, 229, 11010, 0, 0), (68, .iconst 1, 1, 0, 0, 1, 0), (69, .iload 4, 2, 4, 0, 0, 0)]
def cd279_1 : List am_E := [(71, .ishl, 1, 0, 0, 0, 0), (72, .iconst (-1), 1, 0, 0, (-1), 0), (73, .ixor, 1, 0, 0, 0, 0), (74, .iand, 1, 0, 0, 0, 0), (75, .invokevirtual 350, 3, 230, 11010, 0, 0), (78, .iload_n 1, 1, 1, 0, 0, 0), (79, .invokestatic 300, 3, 172, 25, 0, 0), (82, .ifCond .ne 10, 3, 92, 0, 0, 0), (85, .iconst 1, 1, 0, 0, 1, 0), (86, .iload 4, 2, 4, 0, 0, 0), (88, .ishl, 1, 0, 0, 0, 0), (89, .goto 4, 3, 93, 0, 0, 0), (92, .iconst 0, 1, 0, 0, 0, 0), (93, .ior, 1, 0, 0, 0, 0), (94, .istore_n 3, 1, 3, 0, 0, 0), (95, .iinc 4 1, 3, 4, 0, 1, 0), (98, .goto (-60), 3, 38, 0, 0, 0), (101, .iload_n 3, 1, 3, 0, 0, 0), (102, .ireturn, 1, 0, 0, 0, 0)]
def cd279 : List am_E := cd279_0 ++ (cd279_1)
def am_w279 : List (List (Int32 × Nat) × Nat) := []
set_option maxRecDepth 100000 in
theorem kcd279_0 : cd279_0.all (am_chk am_w279 279) = true := by decide +kernel
set_option maxRecDepth 100000 in
theorem kcd279_1 : cd279_1.all (am_chk am_w279 279) = true := by decide +kernel
theorem am_k279 : cd279.all (am_chk am_w279 279) = true := by
  simp only [cd279, List.all_append, kcd279_0, kcd279_1, Bool.and_self]
theorem am_r279 : am_rtc 279 = 0 := by decide +kernel
theorem am_l279 : am_ml 279 = 5 := by decide +kernel
def am_s279_ (z : Nat) : Nat → List aV → aM → Option aR := fun j => (match Nat.beq j 172 with
  | true => F172 z
  | false => (match Nat.beq j 178 with
  | true => F178 z
  | false => (match Nat.beq j 182 with
  | true => F182 z
  | false => (match Nat.beq j 226 with
  | true => F226 z
  | false => (match Nat.beq j 229 with
  | true => F229 z
  | false => (match Nat.beq j 230 with
  | true => F230 z
  | false => (match Nat.beq j 231 with
  | true => F231 z
  | false => (fun _ _ => none))))))))
theorem hs279 (z : Nat) : ∀ j2 : Nat, ∃ d2 : Nat, d2 + 1 ≤ 12 ∧ am_Snd d2 j2 (am_s279_ z j2) := by
  intro j2
  unfold am_s279_
  split
  · rename_i he
    rw [am_beq he]
    exact ⟨_, by decide, S172 z⟩
  · skip
    split
    · rename_i he
      rw [am_beq he]
      exact ⟨_, by decide, S178 z⟩
    · skip
      split
      · rename_i he
        rw [am_beq he]
        exact ⟨_, by decide, S182 z⟩
      · skip
        split
        · rename_i he
          rw [am_beq he]
          exact ⟨_, by decide, S226 z⟩
        · skip
          split
          · rename_i he
            rw [am_beq he]
            exact ⟨_, by decide, S229 z⟩
          · skip
            split
            · rename_i he
              rw [am_beq he]
              exact ⟨_, by decide, S230 z⟩
            · skip
              split
              · rename_i he
                rw [am_beq he]
                exact ⟨_, by decide, S231 z⟩
              · skip
                exact ⟨0, by decide, am_Snd_no j2⟩
def f279_38 (z : Nat) : Nat → Int32 → Int32 → Int32 → Int32 → aM → Option aR
  | 0, _, _, _, _, _ => none
  | n + 1, x1, x2, x3, x4, M =>
    am_bi (f178 z M) fun v2 M1 =>
      if v2 ≤ x4 then
        some (some (.inl x3), M1)
      else
        am_bi (f229 z x2 M1) fun v4 M3 =>
          am_bi (f172 z v4 x4 M3) fun v6 M5 =>
            if ¬ v6 = (1 : Int32) then
              f279_38 z n x1 x2 (x3 ||| (0 : Int32)) (x4 + (1 : Int32)) M5
            else
              am_bi (f229 z x2 M5) fun v8 M7 =>
                am_bi (f230 z (v8 &&& (((1 : Int32) <<< (x4 &&& 31)) ^^^ (-1 : Int32))) M7) fun v10 M9 =>
                  am_bi (f172 z v10 x1 M9) fun v12 M11 =>
                    if ¬ v12 = 0 then
                      f279_38 z n x1 x2 (x3 ||| (0 : Int32)) (x4 + (1 : Int32)) M11
                    else
                      f279_38 z n x1 x2 (x3 ||| ((1 : Int32) <<< (x4 &&& 31))) (x4 + (1 : Int32)) M11
set_option maxRecDepth 100000 in
set_option maxHeartbeats 4000000 in
theorem e279_38 (z : Nat) : ∀ (n : Nat) (x1 : Int32) (x2 : Int32) (x3 : Int32) (x4 : Int32) (M : aM) (r : aR), f279_38 z n x1 x2 x3 x4 M = some r → am_Ev 12 279 38 [some (.inr (.inr (11, 205))), some (.inl x1), some (.inl x2), some (.inl x3), some (.inl x4)] [] M r := by
  intro n
  induction n with
  | zero =>
    intro x1 x2 x3 x4 M r h
    cases h
  | succ n ih =>
    intro x1 x2 x3 x4 M r h
    exact am_Ev_seg (sem := am_s279_ z) (cut := ([(38, [true, true, true, true, true])] : List (Nat × List Bool))) (hs279 z) am_r279 am_k279 (by rw [am_l279]; decide) (fun pc al st M => (match Nat.beq pc 38 with
      | true => (match al, st with
        | [some (.inr (.inr (11, 205))), some (.inl x1), some (.inl x2), some (.inl x3), some (.inl x4)], [] => f279_38 z n x1 x2 x3 x4 M
        | _, _ => none)
      | false => none)) 36 h (fun pc al st M hk => by
      try dsimp only at hk
      split at hk
      · rename_i he
        rw [am_beq he]
        split at hk
        · exact ih _ _ _ _ _ _ hk
        · cases hk
      · cases hk)
/-- ArgumentMenderModel.keys(II)I -/
def f279 (z : Nat) (x1 : Int32) (x2 : Int32) (M : aM) : Option aR :=
  am_bi (f226 z x2 M) fun v2 M1 =>
    if v2 = 0 then
      some (some (.inl (-2 : Int32)), M1)
    else
      am_bi (f182 z x1 M1) fun v4 M3 =>
        if ¬ v4 = 0 then
          am_bi (f231 z x2 M3) fun v6 M5 =>
            am_bi (f172 z v6 x1 M5) fun v8 M7 =>
              if ¬ v8 = 0 then
                f279_38 z z x1 x2 (0 : Int32) (0 : Int32) M7
              else
                some (some (.inl (0 : Int32)), M7)
        else
          some (some (.inl (-2 : Int32)), M3)
set_option maxRecDepth 100000 in
set_option maxHeartbeats 4000000 in
theorem e279 (z : Nat) : ∀ (x1 : Int32) (x2 : Int32) (M : aM) (r : aR), f279 z x1 x2 M = some r → am_Ev 12 279 0 [some (.inr (.inr (11, 205))), some (.inl x1), some (.inl x2), none, none] [] M r := by
  intro x1 x2 M r h
  exact am_Ev_seg (sem := am_s279_ z) (cut := ([(38, [true, true, true, true, true])] : List (Nat × List Bool))) (hs279 z) am_r279 am_k279 (by rw [am_l279]; decide) (fun pc al st M => (match Nat.beq pc 38 with
      | true => (match al, st with
        | [some (.inr (.inr (11, 205))), some (.inl x1), some (.inl x2), some (.inl x3), some (.inl x4)], [] => f279_38 z z x1 x2 x3 x4 M
        | _, _ => none)
      | false => none)) 20 h (fun pc al st M hk => by
      try dsimp only at hk
      split at hk
      · rename_i he
        rw [am_beq he]
        split at hk
        · exact e279_38 z _ _ _ _ _ _ _ hk
        · cases hk
      · cases hk)
def F279 (z : Nat) (as : List aV) (M : aM) : Option aR := match as with
  | [.inr (.inr (11, 205)), .inl x1, .inl x2] => f279 z x1 x2 M
  | _ => none
theorem S279 (z : Nat) : am_Snd 12 279 (F279 z) := am_meth (by decide +kernel) (fun as M r has h => by
    rw [am_l279]
    unfold F279 at h
    split at h
    · exact ⟨Nat.le_of_ble_eq_true rfl, e279 z _ _ _ _ h⟩
    · cases h)
def cd280_0 : List am_E := [(0, .aload_n 0, 1, 0, 0, 0, 0), (1, .invokevirtual 335, 3, 225, 11000, 0, 0), (4, .ifCond .ne 6, 3, 10, 0, 0, 0), (7, .bipush (-2), 2, 0, 0, (-2), 0), (9, .ireturn, 1, 0, 0, 0, 0), (10, .aload_n 0, 1, 0, 0, 0, 0), (11, .invokevirtual 397, 3, 232, 11000, 0, 0), (14, .invokestatic 372, 3, 171, 15, 0, 0), (17, .istore_n 1, 1, 1, 0, 0, 0), (18, .iconst (-1), 1, 0, 0, (-1), 0), (19, .istore_n 2, 1, 2, 0, 0, 0), (20, .iconst 0, 1, 0, 0, 0, 0), (21, .istore_n 3, 1, 3, 0, 0, 0), (22, .iload_n 3, 1, 3, 0, 0, 0), (23, .aload_n 0, 1, 0, 0, 0, 0), (24, .invokevirtual 121, 3, 179, 11000, 0, 0), (27, .if_icmp .ge 50, 3, 77, 0, 0, 0), (30, .aload_n 0, 1, 0, 0, 0, 0), (31, .sipush 1023, 3, 0, 0, 1023, 0), (34, .iconst 1, 1, 0, 0, 1, 0), (35, .iload_n 3, 1, 3, 0, 0, 0), (36, .ishl, 1, 0, 0, 0, 0), (37, .iconst (-1), 1, 0, 0, (-1), 0), (38, .ixor, 1, 0, 0, 0, 0), (39, .iand, 1, 0, 0, 0, 0), (40, .putfield 268, 3, 11, 18, 0, 0), (43, .aload_n 0, 1, 0, 0, 0, 0), (44, .invokevirtual 332, 3, 224, 11004, 0, 0), (47, .aload_n 0, 1, 0, 0, 0, 0), (48, .invokevirtual 397, 3, 232, 11000, 0, 0), (51, .invokestatic 372, 3, 171, 15, 0, 0), (54, .iload_n 1, 1, 1, 0, 0, 0), (55, .if_icmp .gt 6, 3, 61, 0, 0, 0), (58, .goto 13, 3, 71, 0, 0, 0), (61, .aload_n 0, 1, 0, 0, 0, 0), (62, .invokevirtual 397, 3, 232, 11000, 0, 0), (65, .invokestatic 372, 3, 171, 15, 0, 0), (68, .istore_n 1, 1, 1, 0, 0, 0), (69, .iload_n 3, 1, 3, 0, 0, 0), (70, .istore_n 2, 1, 2, 0, 0, 0)]
def cd280_1 : List am_E := [(71, .iinc 3 1, 3, 3, 0, 1, 0), (74, .goto (-52), 3, 22, 0, 0, 0), (77, .iload_n 2, 1, 2, 0, 0, 0), (78, .ireturn, 1, 0, 0, 0, 0)]
def cd280 : List am_E := cd280_0 ++ (cd280_1)
def am_w280 : List (List (Int32 × Nat) × Nat) := []
set_option maxRecDepth 100000 in
theorem kcd280_0 : cd280_0.all (am_chk am_w280 280) = true := by decide +kernel
set_option maxRecDepth 100000 in
theorem kcd280_1 : cd280_1.all (am_chk am_w280 280) = true := by decide +kernel
theorem am_k280 : cd280.all (am_chk am_w280 280) = true := by
  simp only [cd280, List.all_append, kcd280_0, kcd280_1, Bool.and_self]
theorem am_r280 : am_rtc 280 = 0 := by decide +kernel
theorem am_l280 : am_ml 280 = 4 := by decide +kernel
def am_s280_ (z : Nat) : Nat → List aV → aM → Option aR := fun j => (match Nat.beq j 171 with
  | true => F171 z
  | false => (match Nat.beq j 179 with
  | true => F179 z
  | false => (match Nat.beq j 224 with
  | true => F224 z
  | false => (match Nat.beq j 225 with
  | true => F225 z
  | false => (match Nat.beq j 232 with
  | true => F232 z
  | false => (fun _ _ => none))))))
theorem hs280 (z : Nat) : ∀ j2 : Nat, ∃ d2 : Nat, d2 + 1 ≤ 11 ∧ am_Snd d2 j2 (am_s280_ z j2) := by
  intro j2
  unfold am_s280_
  split
  · rename_i he
    rw [am_beq he]
    exact ⟨_, by decide, S171 z⟩
  · skip
    split
    · rename_i he
      rw [am_beq he]
      exact ⟨_, by decide, S179 z⟩
    · skip
      split
      · rename_i he
        rw [am_beq he]
        exact ⟨_, by decide, S224 z⟩
      · skip
        split
        · rename_i he
          rw [am_beq he]
          exact ⟨_, by decide, S225 z⟩
        · skip
          split
          · rename_i he
            rw [am_beq he]
            exact ⟨_, by decide, S232 z⟩
          · skip
            exact ⟨0, by decide, am_Snd_no j2⟩
def f280_22 (z : Nat) : Nat → Int32 → Int32 → Int32 → aM → Option aR
  | 0, _, _, _, _ => none
  | n + 1, x1, x2, x3, M =>
    am_bi (f179 z M) fun v2 M1 =>
      if v2 ≤ x3 then
        some (some (.inl x2), M1)
      else
        let I3 := am_u M1.1 205 18 ((1023 : Int32) &&& (((1 : Int32) <<< (x3 &&& 31)) ^^^ (-1 : Int32)))
        am_bv (f224 z (I3, M1.2)) fun M4 =>
          am_bi (f232 z M4) fun v6 M5 =>
            am_bi (f171 z v6 M5) fun v8 M7 =>
              if x1 < v8 then
                am_bi (f232 z M7) fun v10 M9 =>
                  am_bi (f171 z v10 M9) fun v12 M11 =>
                    f280_22 z n v12 x3 (x3 + (1 : Int32)) M11
              else
                f280_22 z n x1 x2 (x3 + (1 : Int32)) M7
set_option maxRecDepth 100000 in
set_option maxHeartbeats 4000000 in
theorem e280_22 (z : Nat) : ∀ (n : Nat) (x1 : Int32) (x2 : Int32) (x3 : Int32) (M : aM) (r : aR), f280_22 z n x1 x2 x3 M = some r → am_Ev 11 280 22 [some (.inr (.inr (11, 205))), some (.inl x1), some (.inl x2), some (.inl x3)] [] M r := by
  intro n
  induction n with
  | zero =>
    intro x1 x2 x3 M r h
    cases h
  | succ n ih =>
    intro x1 x2 x3 M r h
    exact am_Ev_seg (sem := am_s280_ z) (cut := ([(22, [true, true, true, true])] : List (Nat × List Bool))) (hs280 z) am_r280 am_k280 (by rw [am_l280]; decide) (fun pc al st M => (match Nat.beq pc 22 with
      | true => (match al, st with
        | [some (.inr (.inr (11, 205))), some (.inl x1), some (.inl x2), some (.inl x3)], [] => f280_22 z n x1 x2 x3 M
        | _, _ => none)
      | false => none)) 30 h (fun pc al st M hk => by
      try dsimp only at hk
      split at hk
      · rename_i he
        rw [am_beq he]
        split at hk
        · exact ih _ _ _ _ _ hk
        · cases hk
      · cases hk)
/-- ArgumentMenderModel.blame()I -/
def f280 (z : Nat) (M : aM) : Option aR :=
  am_bi (f225 z M) fun v2 M1 =>
    if ¬ v2 = 0 then
      am_bi (f232 z M1) fun v4 M3 =>
        am_bi (f171 z v4 M3) fun v6 M5 =>
          f280_22 z z v6 (-1 : Int32) (0 : Int32) M5
    else
      some (some (.inl (-2 : Int32)), M1)
set_option maxRecDepth 100000 in
set_option maxHeartbeats 4000000 in
theorem e280 (z : Nat) : ∀ (M : aM) (r : aR), f280 z  M = some r → am_Ev 11 280 0 [some (.inr (.inr (11, 205))), none, none, none] [] M r := by
  intro  M r h
  exact am_Ev_seg (sem := am_s280_ z) (cut := ([(22, [true, true, true, true])] : List (Nat × List Bool))) (hs280 z) am_r280 am_k280 (by rw [am_l280]; decide) (fun pc al st M => (match Nat.beq pc 22 with
      | true => (match al, st with
        | [some (.inr (.inr (11, 205))), some (.inl x1), some (.inl x2), some (.inl x3)], [] => f280_22 z z x1 x2 x3 M
        | _, _ => none)
      | false => none)) 13 h (fun pc al st M hk => by
      try dsimp only at hk
      split at hk
      · rename_i he
        rw [am_beq he]
        split at hk
        · exact e280_22 z _ _ _ _ _ _ hk
        · cases hk
      · cases hk)
def F280 (z : Nat) (as : List aV) (M : aM) : Option aR := match as with
  | [.inr (.inr (11, 205))] => f280 z  M
  | _ => none
theorem S280 (z : Nat) : am_Snd 11 280 (F280 z) := am_meth (by decide +kernel) (fun as M r has h => by
    rw [am_l280]
    unfold F280 at h
    split at h
    · exact ⟨Nat.le_of_ble_eq_true rfl, e280 z _ _ h⟩
    · cases h)
def cd281_0 : List am_E := [(0, .aload_n 0, 1, 0, 0, 0, 0), (1, .ldc_w 264, 3, 0, 0, 65535, 0), (4, .iconst 1, 1, 0, 0, 1, 0), (5, .iload_n 1, 1, 1, 0, 0, 0), (6, .ishl, 1, 0, 0, 0, 0), (7, .iconst (-1), 1, 0, 0, (-1), 0), (8, .ixor, 1, 0, 0, 0, 0), (9, .iand, 1, 0, 0, 0, 0), (10, .putfield 265, 3, 11, 17, 0, 0), (13, .aload_n 0, 1, 0, 0, 0, 0), (14, .invokevirtual 332, 3, 224, 11004, 0, 0), (17, .aload_n 0, 1, 0, 0, 0, 0), (18, .invokevirtual 397, 3, 232, 11000, 0, 0), (21, .invokestatic 372, 3, 171, 15, 0, 0), (24, .ireturn, 1, 0, 0, 0, 0)]
def cd281 : List am_E := cd281_0
def am_w281 : List (List (Int32 × Nat) × Nat) := []
set_option maxRecDepth 100000 in
theorem kcd281_0 : cd281_0.all (am_chk am_w281 281) = true := by decide +kernel
theorem am_k281 : cd281.all (am_chk am_w281 281) = true := by
  simp only [cd281, List.all_append, kcd281_0, Bool.and_self]
theorem am_r281 : am_rtc 281 = 0 := by decide +kernel
theorem am_l281 : am_ml 281 = 2 := by decide +kernel
def am_s281_ (z : Nat) : Nat → List aV → aM → Option aR := fun j => (match Nat.beq j 171 with
  | true => F171 z
  | false => (match Nat.beq j 224 with
  | true => F224 z
  | false => (match Nat.beq j 232 with
  | true => F232 z
  | false => (fun _ _ => none))))
theorem hs281 (z : Nat) : ∀ j2 : Nat, ∃ d2 : Nat, d2 + 1 ≤ 10 ∧ am_Snd d2 j2 (am_s281_ z j2) := by
  intro j2
  unfold am_s281_
  split
  · rename_i he
    rw [am_beq he]
    exact ⟨_, by decide, S171 z⟩
  · skip
    split
    · rename_i he
      rw [am_beq he]
      exact ⟨_, by decide, S224 z⟩
    · skip
      split
      · rename_i he
        rw [am_beq he]
        exact ⟨_, by decide, S232 z⟩
      · skip
        exact ⟨0, by decide, am_Snd_no j2⟩
/-- ArgumentMenderModel.hungWithout(I)I -/
def f281 (z : Nat) (x1 : Int32) (M : aM) : Option aR :=
  let I1 := am_u M.1 205 17 ((65535 : Int32) &&& (((1 : Int32) <<< (x1 &&& 31)) ^^^ (-1 : Int32)))
  am_bv (f224 z (I1, M.2)) fun M2 =>
    am_bi (f232 z M2) fun v4 M3 =>
      am_bi (f171 z v4 M3) fun v6 M5 =>
        some (some (.inl v6), M5)
set_option maxRecDepth 100000 in
set_option maxHeartbeats 4000000 in
theorem e281 (z : Nat) : ∀ (x1 : Int32) (M : aM) (r : aR), f281 z x1 M = some r → am_Ev 10 281 0 [some (.inr (.inr (11, 205))), some (.inl x1)] [] M r := by
  intro x1 M r h
  exact am_Ev_seg (sem := am_s281_ z) (cut := ([] : List (Nat × List Bool))) (hs281 z) am_r281 am_k281 (by rw [am_l281]; decide) (fun _ _ _ _ => none) 16 h (fun _ _ _ _ hk => by cases hk)
def F281 (z : Nat) (as : List aV) (M : aM) : Option aR := match as with
  | [.inr (.inr (11, 205)), .inl x1] => f281 z x1 M
  | _ => none
theorem S281 (z : Nat) : am_Snd 10 281 (F281 z) := am_meth (by decide +kernel) (fun as M r has h => by
    rw [am_l281]
    unfold F281 at h
    split at h
    · exact ⟨Nat.le_of_ble_eq_true rfl, e281 z _ _ _ h⟩
    · cases h)
def cd282_0 : List am_E := [(0, .aload_n 0, 1, 0, 0, 0, 0), (1, .invokevirtual 335, 3, 225, 11000, 0, 0), (4, .ifCond .ne 6, 3, 10, 0, 0, 0), (7, .bipush (-2), 2, 0, 0, (-2), 0), (9, .ireturn, 1, 0, 0, 0, 0), (10, .aload_n 0, 1, 0, 0, 0, 0), (11, .invokevirtual 397, 3, 232, 11000, 0, 0), (14, .invokestatic 372, 3, 171, 15, 0, 0), (17, .istore_n 1, 1, 1, 0, 0, 0), (18, .iconst (-1), 1, 0, 0, (-1), 0), (19, .istore_n 2, 1, 2, 0, 0, 0), (20, .iconst 0, 1, 0, 0, 0, 0), (21, .istore_n 3, 1, 3, 0, 0, 0), (22, .iload_n 3, 1, 3, 0, 0, 0), (23, .aload_n 0, 1, 0, 0, 0, 0), (24, .invokevirtual 118, 3, 178, 11000, 0, 0), (27, .if_icmp .ge 30, 3, 57, 0, 0, 0), (30, .aload_n 0, 1, 0, 0, 0, 0), (31, .iload_n 3, 1, 3, 0, 0, 0), (32, .invokevirtual 409, 3, 281, 11010, 0, 0), (35, .istore 4, 2, 4, 0, 0, 0), (37, .iload 4, 2, 4, 0, 0, 0), (39, .iload_n 1, 1, 1, 0, 0, 0), (40, .if_icmp .lt 6, 3, 46, 0, 0, 0), (43, .goto 8, 3, 51, 0, 0, 0), (46, .iload 4, 2, 4, 0, 0, 0), (48, .istore_n 1, 1, 1, 0, 0, 0), (49, .iload_n 3, 1, 3, 0, 0, 0), (50, .istore_n 2, 1, 2, 0, 0, 0), (51, .iinc 3 1, 3, 3, 0, 1, 0), (54, .goto (-32), 3, 22, 0, 0, 0), (57, .iload_n 2, 1, 2, 0, 0, 0), (58, .ireturn, 1, 0, 0, 0, 0)]
def cd282 : List am_E := cd282_0
def am_w282 : List (List (Int32 × Nat) × Nat) := []
set_option maxRecDepth 100000 in
theorem kcd282_0 : cd282_0.all (am_chk am_w282 282) = true := by decide +kernel
theorem am_k282 : cd282.all (am_chk am_w282 282) = true := by
  simp only [cd282, List.all_append, kcd282_0, Bool.and_self]
theorem am_r282 : am_rtc 282 = 0 := by decide +kernel
theorem am_l282 : am_ml 282 = 5 := by decide +kernel
def am_s282_ (z : Nat) : Nat → List aV → aM → Option aR := fun j => (match Nat.beq j 171 with
  | true => F171 z
  | false => (match Nat.beq j 178 with
  | true => F178 z
  | false => (match Nat.beq j 225 with
  | true => F225 z
  | false => (match Nat.beq j 232 with
  | true => F232 z
  | false => (match Nat.beq j 281 with
  | true => F281 z
  | false => (fun _ _ => none))))))
theorem hs282 (z : Nat) : ∀ j2 : Nat, ∃ d2 : Nat, d2 + 1 ≤ 11 ∧ am_Snd d2 j2 (am_s282_ z j2) := by
  intro j2
  unfold am_s282_
  split
  · rename_i he
    rw [am_beq he]
    exact ⟨_, by decide, S171 z⟩
  · skip
    split
    · rename_i he
      rw [am_beq he]
      exact ⟨_, by decide, S178 z⟩
    · skip
      split
      · rename_i he
        rw [am_beq he]
        exact ⟨_, by decide, S225 z⟩
      · skip
        split
        · rename_i he
          rw [am_beq he]
          exact ⟨_, by decide, S232 z⟩
        · skip
          split
          · rename_i he
            rw [am_beq he]
            exact ⟨_, by decide, S281 z⟩
          · skip
            exact ⟨0, by decide, am_Snd_no j2⟩
def f282_22 (z : Nat) : Nat → Int32 → Int32 → Int32 → aM → Option aR
  | 0, _, _, _, _ => none
  | n + 1, x1, x2, x3, M =>
    am_bi (f178 z M) fun v2 M1 =>
      if v2 ≤ x3 then
        some (some (.inl x2), M1)
      else
        am_bi (f281 z x3 M1) fun v4 M3 =>
          if v4 < x1 then
            f282_22 z n v4 x3 (x3 + (1 : Int32)) M3
          else
            f282_22 z n x1 x2 (x3 + (1 : Int32)) M3
set_option maxRecDepth 100000 in
set_option maxHeartbeats 4000000 in
theorem e282_22 (z : Nat) : ∀ (n : Nat) (x1 : Int32) (x2 : Int32) (x3 : Int32) (M : aM) (r : aR), f282_22 z n x1 x2 x3 M = some r → am_Ev 11 282 22 [some (.inr (.inr (11, 205))), some (.inl x1), some (.inl x2), some (.inl x3), none] [] M r := by
  intro n
  induction n with
  | zero =>
    intro x1 x2 x3 M r h
    cases h
  | succ n ih =>
    intro x1 x2 x3 M r h
    exact am_Ev_seg (sem := am_s282_ z) (cut := ([(22, [true, true, true, true, false])] : List (Nat × List Bool))) (hs282 z) am_r282 am_k282 (by rw [am_l282]; decide) (fun pc al st M => (match Nat.beq pc 22 with
      | true => (match al, st with
        | [some (.inr (.inr (11, 205))), some (.inl x1), some (.inl x2), some (.inl x3), none], [] => f282_22 z n x1 x2 x3 M
        | _, _ => none)
      | false => none)) 19 h (fun pc al st M hk => by
      try dsimp only at hk
      split at hk
      · rename_i he
        rw [am_beq he]
        split at hk
        · exact ih _ _ _ _ _ hk
        · cases hk
      · cases hk)
/-- ArgumentMenderModel.dear()I -/
def f282 (z : Nat) (M : aM) : Option aR :=
  am_bi (f225 z M) fun v2 M1 =>
    if ¬ v2 = 0 then
      am_bi (f232 z M1) fun v4 M3 =>
        am_bi (f171 z v4 M3) fun v6 M5 =>
          f282_22 z z v6 (-1 : Int32) (0 : Int32) M5
    else
      some (some (.inl (-2 : Int32)), M1)
set_option maxRecDepth 100000 in
set_option maxHeartbeats 4000000 in
theorem e282 (z : Nat) : ∀ (M : aM) (r : aR), f282 z  M = some r → am_Ev 11 282 0 [some (.inr (.inr (11, 205))), none, none, none, none] [] M r := by
  intro  M r h
  exact am_Ev_seg (sem := am_s282_ z) (cut := ([(22, [true, true, true, true, false])] : List (Nat × List Bool))) (hs282 z) am_r282 am_k282 (by rw [am_l282]; decide) (fun pc al st M => (match Nat.beq pc 22 with
      | true => (match al, st with
        | [some (.inr (.inr (11, 205))), some (.inl x1), some (.inl x2), some (.inl x3), none], [] => f282_22 z z x1 x2 x3 M
        | _, _ => none)
      | false => none)) 13 h (fun pc al st M hk => by
      try dsimp only at hk
      split at hk
      · rename_i he
        rw [am_beq he]
        split at hk
        · exact e282_22 z _ _ _ _ _ _ hk
        · cases hk
      · cases hk)
def F282 (z : Nat) (as : List aV) (M : aM) : Option aR := match as with
  | [.inr (.inr (11, 205))] => f282 z  M
  | _ => none
theorem S282 (z : Nat) : am_Snd 11 282 (F282 z) := am_meth (by decide +kernel) (fun as M r has h => by
    rw [am_l282]
    unfold F282 at h
    split at h
    · exact ⟨Nat.le_of_ble_eq_true rfl, e282 z _ _ h⟩
    · cases h)
def cd283_0 : List am_E := [(0, .aload_n 0, 1, 0, 0, 0, 0), (1, .invokevirtual 335, 3, 225, 11000, 0, 0), (4, .ifCond .ne 6, 3, 10, 0, 0, 0), (7, .bipush (-2), 2, 0, 0, (-2), 0), (9, .ireturn, 1, 0, 0, 0, 0), (10, .aload_n 0, 1, 0, 0, 0, 0), (11, .invokevirtual 397, 3, 232, 11000, 0, 0), (14, .invokestatic 372, 3, 171, 15, 0, 0), (17, .istore_n 1, 1, 1, 0, 0, 0), (18, .iconst (-1), 1, 0, 0, (-1), 0), (19, .istore_n 2, 1, 2, 0, 0, 0), (20, .iconst 0, 1, 0, 0, 0, 0), (21, .istore_n 3, 1, 3, 0, 0, 0), (22, .iload_n 3, 1, 3, 0, 0, 0), (23, .aload_n 0, 1, 0, 0, 0, 0), (24, .invokevirtual 118, 3, 178, 11000, 0, 0), (27, .if_icmp .ge 30, 3, 57, 0, 0, 0), (30, .aload_n 0, 1, 0, 0, 0, 0), (31, .iload_n 3, 1, 3, 0, 0, 0), (32, .invokevirtual 409, 3, 281, 11010, 0, 0), (35, .istore 4, 2, 4, 0, 0, 0), (37, .iload 4, 2, 4, 0, 0, 0), (39, .iload_n 1, 1, 1, 0, 0, 0), (40, .if_icmp .gt 6, 3, 46, 0, 0, 0), (43, .goto 8, 3, 51, 0, 0, 0), (46, .iload 4, 2, 4, 0, 0, 0), (48, .istore_n 1, 1, 1, 0, 0, 0), (49, .iload_n 3, 1, 3, 0, 0, 0), (50, .istore_n 2, 1, 2, 0, 0, 0), (51, .iinc 3 1, 3, 3, 0, 1, 0), (54, .goto (-32), 3, 22, 0, 0, 0), (57, .iload_n 2, 1, 2, 0, 0, 0), (58, .ireturn, 1, 0, 0, 0, 0)]
def cd283 : List am_E := cd283_0
def am_w283 : List (List (Int32 × Nat) × Nat) := []
set_option maxRecDepth 100000 in
theorem kcd283_0 : cd283_0.all (am_chk am_w283 283) = true := by decide +kernel
theorem am_k283 : cd283.all (am_chk am_w283 283) = true := by
  simp only [cd283, List.all_append, kcd283_0, Bool.and_self]
theorem am_r283 : am_rtc 283 = 0 := by decide +kernel
theorem am_l283 : am_ml 283 = 5 := by decide +kernel
def am_s283_ (z : Nat) : Nat → List aV → aM → Option aR := fun j => (match Nat.beq j 171 with
  | true => F171 z
  | false => (match Nat.beq j 178 with
  | true => F178 z
  | false => (match Nat.beq j 225 with
  | true => F225 z
  | false => (match Nat.beq j 232 with
  | true => F232 z
  | false => (match Nat.beq j 281 with
  | true => F281 z
  | false => (fun _ _ => none))))))
theorem hs283 (z : Nat) : ∀ j2 : Nat, ∃ d2 : Nat, d2 + 1 ≤ 11 ∧ am_Snd d2 j2 (am_s283_ z j2) := by
  intro j2
  unfold am_s283_
  split
  · rename_i he
    rw [am_beq he]
    exact ⟨_, by decide, S171 z⟩
  · skip
    split
    · rename_i he
      rw [am_beq he]
      exact ⟨_, by decide, S178 z⟩
    · skip
      split
      · rename_i he
        rw [am_beq he]
        exact ⟨_, by decide, S225 z⟩
      · skip
        split
        · rename_i he
          rw [am_beq he]
          exact ⟨_, by decide, S232 z⟩
        · skip
          split
          · rename_i he
            rw [am_beq he]
            exact ⟨_, by decide, S281 z⟩
          · skip
            exact ⟨0, by decide, am_Snd_no j2⟩
def f283_22 (z : Nat) : Nat → Int32 → Int32 → Int32 → aM → Option aR
  | 0, _, _, _, _ => none
  | n + 1, x1, x2, x3, M =>
    am_bi (f178 z M) fun v2 M1 =>
      if v2 ≤ x3 then
        some (some (.inl x2), M1)
      else
        am_bi (f281 z x3 M1) fun v4 M3 =>
          if x1 < v4 then
            f283_22 z n v4 x3 (x3 + (1 : Int32)) M3
          else
            f283_22 z n x1 x2 (x3 + (1 : Int32)) M3
set_option maxRecDepth 100000 in
set_option maxHeartbeats 4000000 in
theorem e283_22 (z : Nat) : ∀ (n : Nat) (x1 : Int32) (x2 : Int32) (x3 : Int32) (M : aM) (r : aR), f283_22 z n x1 x2 x3 M = some r → am_Ev 11 283 22 [some (.inr (.inr (11, 205))), some (.inl x1), some (.inl x2), some (.inl x3), none] [] M r := by
  intro n
  induction n with
  | zero =>
    intro x1 x2 x3 M r h
    cases h
  | succ n ih =>
    intro x1 x2 x3 M r h
    exact am_Ev_seg (sem := am_s283_ z) (cut := ([(22, [true, true, true, true, false])] : List (Nat × List Bool))) (hs283 z) am_r283 am_k283 (by rw [am_l283]; decide) (fun pc al st M => (match Nat.beq pc 22 with
      | true => (match al, st with
        | [some (.inr (.inr (11, 205))), some (.inl x1), some (.inl x2), some (.inl x3), none], [] => f283_22 z n x1 x2 x3 M
        | _, _ => none)
      | false => none)) 19 h (fun pc al st M hk => by
      try dsimp only at hk
      split at hk
      · rename_i he
        rw [am_beq he]
        split at hk
        · exact ih _ _ _ _ _ hk
        · cases hk
      · cases hk)
/-- ArgumentMenderModel.worse()I -/
def f283 (z : Nat) (M : aM) : Option aR :=
  am_bi (f225 z M) fun v2 M1 =>
    if ¬ v2 = 0 then
      am_bi (f232 z M1) fun v4 M3 =>
        am_bi (f171 z v4 M3) fun v6 M5 =>
          f283_22 z z v6 (-1 : Int32) (0 : Int32) M5
    else
      some (some (.inl (-2 : Int32)), M1)
set_option maxRecDepth 100000 in
set_option maxHeartbeats 4000000 in
theorem e283 (z : Nat) : ∀ (M : aM) (r : aR), f283 z  M = some r → am_Ev 11 283 0 [some (.inr (.inr (11, 205))), none, none, none, none] [] M r := by
  intro  M r h
  exact am_Ev_seg (sem := am_s283_ z) (cut := ([(22, [true, true, true, true, false])] : List (Nat × List Bool))) (hs283 z) am_r283 am_k283 (by rw [am_l283]; decide) (fun pc al st M => (match Nat.beq pc 22 with
      | true => (match al, st with
        | [some (.inr (.inr (11, 205))), some (.inl x1), some (.inl x2), some (.inl x3), none], [] => f283_22 z z x1 x2 x3 M
        | _, _ => none)
      | false => none)) 13 h (fun pc al st M hk => by
      try dsimp only at hk
      split at hk
      · rename_i he
        rw [am_beq he]
        split at hk
        · exact e283_22 z _ _ _ _ _ _ hk
        · cases hk
      · cases hk)
def F283 (z : Nat) (as : List aV) (M : aM) : Option aR := match as with
  | [.inr (.inr (11, 205))] => f283 z  M
  | _ => none
theorem S283 (z : Nat) : am_Snd 11 283 (F283 z) := am_meth (by decide +kernel) (fun as M r has h => by
    rw [am_l283]
    unfold F283 at h
    split at h
    · exact ⟨Nat.le_of_ble_eq_true rfl, e283 z _ _ h⟩
    · cases h)
def cd284_0 : List am_E := [(0, .aload_n 0, 1, 0, 0, 0, 0), (1, .getfield 91, 3, 11, 47, 0, 0), (4, .bipush 60, 2, 0, 0, 60, 0), (6, .iload_n 1, 1, 1, 0, 0, 0), (7, .imul, 1, 0, 0, 0, 0), (8, .iload_n 2, 1, 2, 0, 0, 0), (9, .iadd, 1, 0, 0, 0, 0), (10, .laload, 1, 0, 0, 0, 0), (11, .lreturn, 1, 0, 0, 0, 0)]
def cd284 : List am_E := cd284_0
def am_w284 : List (List (Int32 × Nat) × Nat) := []
set_option maxRecDepth 100000 in
theorem kcd284_0 : cd284_0.all (am_chk am_w284 284) = true := by decide +kernel
theorem am_k284 : cd284.all (am_chk am_w284 284) = true := by
  simp only [cd284, List.all_append, kcd284_0, Bool.and_self]
theorem am_r284 : am_rtc 284 = 2 := by decide +kernel
theorem am_l284 : am_ml 284 = 3 := by decide +kernel
def am_s284_ (z : Nat) : Nat → List aV → aM → Option aR := fun j => (fun _ _ => none)
theorem hs284 (z : Nat) : ∀ j2 : Nat, ∃ d2 : Nat, d2 + 1 ≤ 1 ∧ am_Snd d2 j2 (am_s284_ z j2) := by
  intro j2
  unfold am_s284_
  exact ⟨0, by decide, am_Snd_no j2⟩
/-- ArgumentMenderModel.numberAt(II)J -/
def f284 (z : Nat) (x1 : Int32) (x2 : Int32) (M : aM) : Option aR :=
  if am_inB (((60 : Int32) * x1) + x2) 240 then
    some (some (.inr (.inl (M.2 231 (((60 : Int32) * x1) + x2).toNatClampNeg))), M)
  else
    none
set_option maxRecDepth 100000 in
set_option maxHeartbeats 4000000 in
theorem e284 (z : Nat) : ∀ (x1 : Int32) (x2 : Int32) (M : aM) (r : aR), f284 z x1 x2 M = some r → am_Ev 1 284 0 [some (.inr (.inr (11, 205))), some (.inl x1), some (.inl x2)] [] M r := by
  intro x1 x2 M r h
  exact am_Ev_seg (sem := am_s284_ z) (cut := ([] : List (Nat × List Bool))) (hs284 z) am_r284 am_k284 (by rw [am_l284]; decide) (fun _ _ _ _ => none) 10 h (fun _ _ _ _ hk => by cases hk)
def F284 (z : Nat) (as : List aV) (M : aM) : Option aR := match as with
  | [.inr (.inr (11, 205)), .inl x1, .inl x2] => f284 z x1 x2 M
  | _ => none
theorem S284 (z : Nat) : am_Snd 1 284 (F284 z) := am_meth (by decide +kernel) (fun as M r has h => by
    rw [am_l284]
    unfold F284 at h
    split at h
    · exact ⟨Nat.le_of_ble_eq_true rfl, e284 z _ _ _ _ h⟩
    · cases h)
def cd323_0 : List am_E := [(0, .iload_n 0, 1, 0, 0, 0, 0), (1, .i2l, 1, 0, 0, 0, 0), (2, .lconst 0, 1, 0, 0, 0, 0), (3, .ldc2_w 445, 3, 0, 0, 0, 3), (6, .invokestatic 103, 3, 170, 35, 0, 0), (9, .ireturn, 1, 0, 0, 0, 0)]
def cd323 : List am_E := cd323_0
def am_w323 : List (List (Int32 × Nat) × Nat) := []
set_option maxRecDepth 100000 in
theorem kcd323_0 : cd323_0.all (am_chk am_w323 323) = true := by decide +kernel
theorem am_k323 : cd323.all (am_chk am_w323 323) = true := by
  simp only [cd323, List.all_append, kcd323_0, Bool.and_self]
theorem am_r323 : am_rtc 323 = 1 := by decide +kernel
theorem am_l323 : am_ml 323 = 1 := by decide +kernel
def am_s323_ (z : Nat) : Nat → List aV → aM → Option aR := fun j => (match Nat.beq j 170 with
  | true => F170 z
  | false => (fun _ _ => none))
theorem hs323 (z : Nat) : ∀ j2 : Nat, ∃ d2 : Nat, d2 + 1 ≤ 2 ∧ am_Snd d2 j2 (am_s323_ z j2) := by
  intro j2
  unfold am_s323_
  split
  · rename_i he
    rw [am_beq he]
    exact ⟨_, by decide, S170 z⟩
  · skip
    exact ⟨0, by decide, am_Snd_no j2⟩
/-- ArgumentMenderModel.isSlot(I)Z -/
def f323 (z : Nat) (x0 : Int32) (M : aM) : Option aR :=
  am_bi (f170 z (Int32.toInt64 x0) (0 : Int64) (3 : Int64) M) fun v2 M1 =>
    some (some (.inl (v2 &&& 1)), M1)
set_option maxRecDepth 100000 in
set_option maxHeartbeats 4000000 in
theorem e323 (z : Nat) : ∀ (x0 : Int32) (M : aM) (r : aR), f323 z x0 M = some r → am_Ev 2 323 0 [some (.inl x0)] [] M r := by
  intro x0 M r h
  exact am_Ev_seg (sem := am_s323_ z) (cut := ([] : List (Nat × List Bool))) (hs323 z) am_r323 am_k323 (by rw [am_l323]; decide) (fun _ _ _ _ => none) 7 h (fun _ _ _ _ hk => by cases hk)
def F323 (z : Nat) (as : List aV) (M : aM) : Option aR := match as with
  | [.inl x0] => f323 z x0 M
  | _ => none
theorem S323 (z : Nat) : am_Snd 2 323 (F323 z) := am_meth (by decide +kernel) (fun as M r has h => by
    rw [am_l323]
    unfold F323 at h
    split at h
    · exact ⟨Nat.le_of_ble_eq_true rfl, e323 z _ _ _ h⟩
    · cases h)
def cd285_0 : List am_E := [(0, .iload_n 1, 1, 1, 0, 0, 0), (1, .invokestatic 412, 3, 323, 15, 0, 0), (4, .ifCond .eq 10, 3, 14, 0, 0, 0), (7, .aload_n 0, 1, 0, 0, 0, 0), (8, .invokevirtual 107, 3, 175, 11000, 0, 0), (11, .ifCond .ne 6, 3, 17, 0, 0, 0), (14, .bipush (-2), 2, 0, 0, (-2), 0), (16, .ireturn, 1, 0, 0, 0, 0), (17, .aload_n 0, 1, 0, 0, 0, 0), (18, .getfield 85, 3, 11, 45, 0, 0), (21, .iload_n 1, 1, 1, 0, 0, 0), (22, .iaload, 1, 0, 0, 0, 0), (23, .iconst (-1), 1, 0, 0, (-1), 0), (24, .if_icmp .ne 6, 3, 30, 0, 0, 0), (27, .bipush (-6), 2, 0, 0, (-6), 0), (29, .ireturn, 1, 0, 0, 0, 0), (30, .aload_n 0, 1, 0, 0, 0, 0), (31, .getfield 85, 3, 11, 45, 0, 0), (34, .iload_n 1, 1, 1, 0, 0, 0), (35, .iaload, 1, 0, 0, 0, 0), (36, .iconst 3, 1, 0, 0, 3, 0), (37, .irem, 1, 0, 0, 0, 0), (38, .ifCond .eq 6, 3, 44, 0, 0, 0), (41, .bipush (-2), 2, 0, 0, (-2), 0), (43, .ireturn, 1, 0, 0, 0, 0), (44, .iconst 0, 1, 0, 0, 0, 0), (45, .istore_n 2, 1, 2, 0, 0, 0), (46, .iload_n 2, 1, 2, 0, 0, 0), (47, .aload_n 0, 1, 0, 0, 0, 0), (48, .getfield 85, 3, 11, 45, 0, 0), (51, .iload_n 1, 1, 1, 0, 0, 0), (52, .iaload, 1, 0, 0, 0, 0), (53, .if_icmp .ge 58, 3, 111, 0, 0, 0), (56, .aload_n 0, 1, 0, 0, 0, 0), (57, .aload_n 0, 1, 0, 0, 0, 0), (58, .iload_n 1, 1, 1, 0, 0, 0), (59, .iload_n 2, 1, 2, 0, 0, 0), (60, .invokevirtual 415, 3, 284, 11022, 0, 0), (63, .invokevirtual 241, 3, 183, 11010, 0, 0), (66, .ifCond .eq 36, 3, 102, 0, 0, 0)]
def cd285_1 : List am_E := [(69, .aload_n 0, 1, 0, 0, 0, 0), (70, .aload_n 0, 1, 0, 0, 0, 0), (71, .iload_n 1, 1, 1, 0, 0, 0), (72, .iload_n 2, 1, 2, 0, 0, 0), (73, .iconst 1, 1, 0, 0, 1, 0), (74, .iadd, 1, 0, 0, 0, 0), (75, .invokevirtual 415, 3, 284, 11022, 0, 0), (78, .invokevirtual 338, 3, 180, 11010, 0, 0), (81, .ifCond .eq 21, 3, 102, 0, 0, 0), (84, .aload_n 0, 1, 0, 0, 0, 0), (85, .iload_n 1, 1, 1, 0, 0, 0), (86, .iload_n 2, 1, 2, 0, 0, 0), (87, .iconst 2, 1, 0, 0, 2, 0), (88, .iadd, 1, 0, 0, 0, 0), (89, .invokevirtual 415, 3, 284, 11022, 0, 0), (92, .lconst 0, 1, 0, 0, 0, 0), (93, .ldc2_w 419, 3, 0, 0, 0, 99), (96, .invokestatic 103, 3, 170, 35, 0, 0), (99, .ifCond .ne 6, 3, 105, 0, 0, 0), (102, .bipush (-2), 2, 0, 0, (-2), 0), (104, .ireturn, 1, 0, 0, 0, 0), (105, .iinc 2 3, 3, 2, 0, 3, 0), (108, .goto (-62), 3, 46, 0, 0, 0), (111, .aload_n 0, 1, 0, 0, 0, 0), (112, .invokevirtual 329, 3, 211, 11004, 0, 0), (115, .iconst 0, 1, 0, 0, 0, 0), (116, .ireturn, 1, 0, 0, 0, 0)]
def cd285 : List am_E := cd285_0 ++ (cd285_1)
def am_w285 : List (List (Int32 × Nat) × Nat) := []
set_option maxRecDepth 100000 in
theorem kcd285_0 : cd285_0.all (am_chk am_w285 285) = true := by decide +kernel
set_option maxRecDepth 100000 in
theorem kcd285_1 : cd285_1.all (am_chk am_w285 285) = true := by decide +kernel
theorem am_k285 : cd285.all (am_chk am_w285 285) = true := by
  simp only [cd285, List.all_append, kcd285_0, kcd285_1, Bool.and_self]
theorem am_r285 : am_rtc 285 = 0 := by decide +kernel
theorem am_l285 : am_ml 285 = 3 := by decide +kernel
def am_s285_ (z : Nat) : Nat → List aV → aM → Option aR := fun j => (match Nat.beq j 170 with
  | true => F170 z
  | false => (match Nat.beq j 175 with
  | true => F175 z
  | false => (match Nat.beq j 180 with
  | true => F180 z
  | false => (match Nat.beq j 183 with
  | true => F183 z
  | false => (match Nat.beq j 211 with
  | true => F211 z
  | false => (match Nat.beq j 284 with
  | true => F284 z
  | false => (match Nat.beq j 323 with
  | true => F323 z
  | false => (fun _ _ => none))))))))
theorem hs285 (z : Nat) : ∀ j2 : Nat, ∃ d2 : Nat, d2 + 1 ≤ 3 ∧ am_Snd d2 j2 (am_s285_ z j2) := by
  intro j2
  unfold am_s285_
  split
  · rename_i he
    rw [am_beq he]
    exact ⟨_, by decide, S170 z⟩
  · skip
    split
    · rename_i he
      rw [am_beq he]
      exact ⟨_, by decide, S175 z⟩
    · skip
      split
      · rename_i he
        rw [am_beq he]
        exact ⟨_, by decide, S180 z⟩
      · skip
        split
        · rename_i he
          rw [am_beq he]
          exact ⟨_, by decide, S183 z⟩
        · skip
          split
          · rename_i he
            rw [am_beq he]
            exact ⟨_, by decide, S211 z⟩
          · skip
            split
            · rename_i he
              rw [am_beq he]
              exact ⟨_, by decide, S284 z⟩
            · skip
              split
              · rename_i he
                rw [am_beq he]
                exact ⟨_, by decide, S323 z⟩
              · skip
                exact ⟨0, by decide, am_Snd_no j2⟩
def f285_46 (z : Nat) : Nat → Int32 → Int32 → aM → Option aR
  | 0, _, _, _ => none
  | n + 1, x1, x2, M =>
    if am_inB x1 4 then
      if (M.1 229 x1.toNatClampNeg) ≤ x2 then
        am_bv (f211 z M) fun M1 =>
          some (some (.inl (0 : Int32)), M1)
      else
        am_bl (f284 z x1 x2 M) fun v3 M2 =>
          am_bi (f183 z v3 M2) fun v5 M4 =>
            if v5 = 0 then
              some (some (.inl (-2 : Int32)), M4)
            else
              am_bl (f284 z x1 (x2 + (1 : Int32)) M4) fun v7 M6 =>
                am_bi (f180 z v7 M6) fun v9 M8 =>
                  if v9 = 0 then
                    some (some (.inl (-2 : Int32)), M8)
                  else
                    am_bl (f284 z x1 (x2 + (2 : Int32)) M8) fun v11 M10 =>
                      am_bi (f170 z v11 (0 : Int64) (99 : Int64) M10) fun v13 M12 =>
                        if ¬ v13 = 0 then
                          f285_46 z n x1 (x2 + (3 : Int32)) M12
                        else
                          some (some (.inl (-2 : Int32)), M12)
    else
      none
set_option maxRecDepth 100000 in
set_option maxHeartbeats 4000000 in
theorem e285_46 (z : Nat) : ∀ (n : Nat) (x1 : Int32) (x2 : Int32) (M : aM) (r : aR), f285_46 z n x1 x2 M = some r → am_Ev 3 285 46 [some (.inr (.inr (11, 205))), some (.inl x1), some (.inl x2)] [] M r := by
  intro n
  induction n with
  | zero =>
    intro x1 x2 M r h
    cases h
  | succ n ih =>
    intro x1 x2 M r h
    exact am_Ev_seg (sem := am_s285_ z) (cut := ([(46, [true, true, true])] : List (Nat × List Bool))) (hs285 z) am_r285 am_k285 (by rw [am_l285]; decide) (fun pc al st M => (match Nat.beq pc 46 with
      | true => (match al, st with
        | [some (.inr (.inr (11, 205))), some (.inl x1), some (.inl x2)], [] => f285_46 z n x1 x2 M
        | _, _ => none)
      | false => none)) 36 h (fun pc al st M hk => by
      try dsimp only at hk
      split at hk
      · rename_i he
        rw [am_beq he]
        split at hk
        · exact ih _ _ _ _ hk
        · cases hk
      · cases hk)
/-- ArgumentMenderModel.askSeen(I)I -/
def f285 (z : Nat) (x1 : Int32) (M : aM) : Option aR :=
  am_bi (f323 z x1 M) fun v2 M1 =>
    if v2 = 0 then
      some (some (.inl (-2 : Int32)), M1)
    else
      am_bi (f175 z M1) fun v4 M3 =>
        if ¬ v4 = 0 then
          if am_inB x1 4 then
            if ¬ (M3.1 229 x1.toNatClampNeg) = (-1 : Int32) then
              if am_inB x1 4 then
                if (3 : Int32) = 0 then
                  none
                else
                  if ((M3.1 229 x1.toNatClampNeg) - (M3.1 229 x1.toNatClampNeg) / (3 : Int32) * (3 : Int32)) = 0 then
                    f285_46 z z x1 (0 : Int32) M3
                  else
                    some (some (.inl (-2 : Int32)), M3)
              else
                none
            else
              some (some (.inl (-6 : Int32)), M3)
          else
            none
        else
          some (some (.inl (-2 : Int32)), M3)
set_option maxRecDepth 100000 in
set_option maxHeartbeats 4000000 in
theorem e285 (z : Nat) : ∀ (x1 : Int32) (M : aM) (r : aR), f285 z x1 M = some r → am_Ev 3 285 0 [some (.inr (.inr (11, 205))), some (.inl x1), none] [] M r := by
  intro x1 M r h
  exact am_Ev_seg (sem := am_s285_ z) (cut := ([(46, [true, true, true])] : List (Nat × List Bool))) (hs285 z) am_r285 am_k285 (by rw [am_l285]; decide) (fun pc al st M => (match Nat.beq pc 46 with
      | true => (match al, st with
        | [some (.inr (.inr (11, 205))), some (.inl x1), some (.inl x2)], [] => f285_46 z z x1 x2 M
        | _, _ => none)
      | false => none)) 23 h (fun pc al st M hk => by
      try dsimp only at hk
      split at hk
      · rename_i he
        rw [am_beq he]
        split at hk
        · exact e285_46 z _ _ _ _ _ hk
        · cases hk
      · cases hk)
def F285 (z : Nat) (as : List aV) (M : aM) : Option aR := match as with
  | [.inr (.inr (11, 205)), .inl x1] => f285 z x1 M
  | _ => none
theorem S285 (z : Nat) : am_Snd 3 285 (F285 z) := am_meth (by decide +kernel) (fun as M r has h => by
    rw [am_l285]
    unfold F285 at h
    split at h
    · exact ⟨Nat.le_of_ble_eq_true rfl, e285 z _ _ _ h⟩
    · cases h)
def cd286_0 : List am_E := [(0, .aload_n 0, 1, 0, 0, 0, 0), (1, .invokevirtual 332, 3, 224, 11004, 0, 0), (4, .iconst 0, 1, 0, 0, 0, 0), (5, .istore_n 2, 1, 2, 0, 0, 0), (6, .iload_n 2, 1, 2, 0, 0, 0), (7, .aload_n 0, 1, 0, 0, 0, 0), (8, .getfield 85, 3, 11, 45, 0, 0), (11, .iload_n 1, 1, 1, 0, 0, 0), (12, .iaload, 1, 0, 0, 0, 0), (13, .if_icmp .ge 44, 3, 57, 0, 0, 0), (16, .aload_n 0, 1, 0, 0, 0, 0), (17, .aload_n 0, 1, 0, 0, 0, 0), (18, .iload_n 1, 1, 1, 0, 0, 0), (19, .iload_n 2, 1, 2, 0, 0, 0), (20, .invokevirtual 415, 3, 284, 11022, 0, 0), (23, .l2i, 1, 0, 0, 0, 0), (24, .aload_n 0, 1, 0, 0, 0, 0), (25, .iload_n 1, 1, 1, 0, 0, 0), (26, .iload_n 2, 1, 2, 0, 0, 0), (27, .iconst 1, 1, 0, 0, 1, 0), (28, .iadd, 1, 0, 0, 0, 0), (29, .invokevirtual 415, 3, 284, 11022, 0, 0), (32, .l2i, 1, 0, 0, 0, 0), (33, .invokevirtual 341, 3, 227, 11020, 0, 0), (36, .i2l, 1, 0, 0, 0, 0), (37, .aload_n 0, 1, 0, 0, 0, 0), (38, .iload_n 1, 1, 1, 0, 0, 0), (39, .iload_n 2, 1, 2, 0, 0, 0), (40, .iconst 2, 1, 0, 0, 2, 0), (41, .iadd, 1, 0, 0, 0, 0), (42, .invokevirtual 415, 3, 284, 11022, 0, 0), (45, .lcmp, 1, 0, 0, 0, 0), (46, .ifCond .eq 5, 3, 51, 0, 0, 0), (49, .iconst 0, 1, 0, 0, 0, 0), (50, .ireturn, 1, 0, 0, 0, 0), (51, .iinc 2 3, 3, 2, 0, 3, 0), (54, .goto (-48), 3, 6, 0, 0, 0), (57, .iconst 1, 1, 0, 0, 1, 0), (58, .ireturn, 1, 0, 0, 0, 0)]
def cd286 : List am_E := cd286_0
def am_w286 : List (List (Int32 × Nat) × Nat) := []
set_option maxRecDepth 100000 in
theorem kcd286_0 : cd286_0.all (am_chk am_w286 286) = true := by decide +kernel
theorem am_k286 : cd286.all (am_chk am_w286 286) = true := by
  simp only [cd286, List.all_append, kcd286_0, Bool.and_self]
theorem am_r286 : am_rtc 286 = 1 := by decide +kernel
theorem am_l286 : am_ml 286 = 3 := by decide +kernel
def am_s286_ (z : Nat) : Nat → List aV → aM → Option aR := fun j => (match Nat.beq j 224 with
  | true => F224 z
  | false => (match Nat.beq j 227 with
  | true => F227 z
  | false => (match Nat.beq j 284 with
  | true => F284 z
  | false => (fun _ _ => none))))
theorem hs286 (z : Nat) : ∀ j2 : Nat, ∃ d2 : Nat, d2 + 1 ≤ 10 ∧ am_Snd d2 j2 (am_s286_ z j2) := by
  intro j2
  unfold am_s286_
  split
  · rename_i he
    rw [am_beq he]
    exact ⟨_, by decide, S224 z⟩
  · skip
    split
    · rename_i he
      rw [am_beq he]
      exact ⟨_, by decide, S227 z⟩
    · skip
      split
      · rename_i he
        rw [am_beq he]
        exact ⟨_, by decide, S284 z⟩
      · skip
        exact ⟨0, by decide, am_Snd_no j2⟩
def f286_6 (z : Nat) : Nat → Int32 → Int32 → aM → Option aR
  | 0, _, _, _ => none
  | n + 1, x1, x2, M =>
    if am_inB x1 4 then
      if (M.1 229 x1.toNatClampNeg) ≤ x2 then
        some (some (.inl ((1 : Int32) &&& 1)), M)
      else
        am_bl (f284 z x1 x2 M) fun v2 M1 =>
          am_bl (f284 z x1 (x2 + (1 : Int32)) M1) fun v4 M3 =>
            am_bi (f227 z (Int64.toInt32 v2) (Int64.toInt32 v4) M3) fun v6 M5 =>
              am_bl (f284 z x1 (x2 + (2 : Int32)) M5) fun v8 M7 =>
                if (lg_cmp (Int32.toInt64 v6) v8) = 0 then
                  f286_6 z n x1 (x2 + (3 : Int32)) M7
                else
                  some (some (.inl ((0 : Int32) &&& 1)), M7)
    else
      none
set_option maxRecDepth 100000 in
set_option maxHeartbeats 4000000 in
theorem e286_6 (z : Nat) : ∀ (n : Nat) (x1 : Int32) (x2 : Int32) (M : aM) (r : aR), f286_6 z n x1 x2 M = some r → am_Ev 10 286 6 [some (.inr (.inr (11, 205))), some (.inl x1), some (.inl x2)] [] M r := by
  intro n
  induction n with
  | zero =>
    intro x1 x2 M r h
    cases h
  | succ n ih =>
    intro x1 x2 M r h
    exact am_Ev_seg (sem := am_s286_ z) (cut := ([(6, [true, true, true])] : List (Nat × List Bool))) (hs286 z) am_r286 am_k286 (by rw [am_l286]; decide) (fun pc al st M => (match Nat.beq pc 6 with
      | true => (match al, st with
        | [some (.inr (.inr (11, 205))), some (.inl x1), some (.inl x2)], [] => f286_6 z n x1 x2 M
        | _, _ => none)
      | false => none)) 33 h (fun pc al st M hk => by
      try dsimp only at hk
      split at hk
      · rename_i he
        rw [am_beq he]
        split at hk
        · exact ih _ _ _ _ hk
        · cases hk
      · cases hk)
/-- ArgumentMenderModel.isSeen(I)Z -/
def f286 (z : Nat) (x1 : Int32) (M : aM) : Option aR :=
  am_bv (f224 z M) fun M1 =>
    f286_6 z z x1 (0 : Int32) M1
set_option maxRecDepth 100000 in
set_option maxHeartbeats 4000000 in
theorem e286 (z : Nat) : ∀ (x1 : Int32) (M : aM) (r : aR), f286 z x1 M = some r → am_Ev 10 286 0 [some (.inr (.inr (11, 205))), some (.inl x1), none] [] M r := by
  intro x1 M r h
  exact am_Ev_seg (sem := am_s286_ z) (cut := ([(6, [true, true, true])] : List (Nat × List Bool))) (hs286 z) am_r286 am_k286 (by rw [am_l286]; decide) (fun pc al st M => (match Nat.beq pc 6 with
      | true => (match al, st with
        | [some (.inr (.inr (11, 205))), some (.inl x1), some (.inl x2)], [] => f286_6 z z x1 x2 M
        | _, _ => none)
      | false => none)) 6 h (fun pc al st M hk => by
      try dsimp only at hk
      split at hk
      · rename_i he
        rw [am_beq he]
        split at hk
        · exact e286_6 z _ _ _ _ _ hk
        · cases hk
      · cases hk)
def F286 (z : Nat) (as : List aV) (M : aM) : Option aR := match as with
  | [.inr (.inr (11, 205)), .inl x1] => f286 z x1 M
  | _ => none
theorem S286 (z : Nat) : am_Snd 10 286 (F286 z) := am_meth (by decide +kernel) (fun as M r has h => by
    rw [am_l286]
    unfold F286 at h
    split at h
    · exact ⟨Nat.le_of_ble_eq_true rfl, e286 z _ _ _ h⟩
    · cases h)
def cd287_0 : List am_E := [(0, .aload_n 0, 1, 0, 0, 0, 0), (1, .iload_n 2, 1, 2, 0, 0, 0), (2, .i2l, 1, 0, 0, 0, 0), (3, .invokevirtual 241, 3, 183, 11010, 0, 0), (6, .ifCond .ne 6, 3, 12, 0, 0, 0), (9, .bipush (-2), 2, 0, 0, (-2), 0), (11, .ireturn, 1, 0, 0, 0, 0), (12, .aload_n 0, 1, 0, 0, 0, 0), (13, .iload_n 1, 1, 1, 0, 0, 0), (14, .invokevirtual 421, 3, 285, 11010, 0, 0), (17, .istore_n 3, 1, 3, 0, 0, 0), (18, .iload_n 3, 1, 3, 0, 0, 0), (19, .ifCond .ge 5, 3, 24, 0, 0, 0), (22, .iload_n 3, 1, 3, 0, 0, 0), (23, .ireturn, 1, 0, 0, 0, 0), (24, .aload_n 0, 1, 0, 0, 0, 0), (25, .iconst 0, 1, 0, 0, 0, 0), (26, .putfield 424, 3, 11, 39, 0, 0), (29, .iconst 1, 1, 0, 0, 1, 0), (30, .istore 4, 2, 4, 0, 0, 0), (32, .iload 4, 2, 4, 0, 0, 0), (34, .bipush 60, 2, 0, 0, 60, 0), (36, .if_icmp .gt 89, 3, 125, 0, 0, 0), (39, .aload_n 0, 1, 0, 0, 0, 0), (40, .getfield 34, 3, 11, 15, 0, 0), (43, .iload_n 2, 1, 2, 0, 0, 0), (44, .iload 4, 2, 4, 0, 0, 0), (46, .iastore, 1, 0, 0, 0, 0), (47, .aload_n 0, 1, 0, 0, 0, 0), (48, .iload_n 1, 1, 1, 0, 0, 0), (49, .invokevirtual 427, 3, 286, 11010, 0, 0), (52, .ifCond .ne 6, 3, 58, 0, 0, 0), (55, .goto 64, 3, 119, 0, 0, 0), (58, .aload_n 0, 1, 0, 0, 0, 0), (59, .getfield 76, 3, 11, 37, 0, 0), (62, .aload_n 0, 1, 0, 0, 0, 0), (63, .getfield 424, 3, 11, 39, 0, 0), (66, .iload 4, 2, 4, 0, 0, 0), (68, .iastore, 1, 0, 0, 0, 0), (69, .iconst 0, 1, 0, 0, 0, 0)]
def cd287_1 : List am_E := [(70, .istore 5, 2, 5, 0, 0, 0), (72, .iload 5, 2, 5, 0, 0, 0), (74, .aload_n 0, 1, 0, 0, 0, 0), (75, .invokevirtual 111, 3, 176, 11000, 0, 0), (78, .if_icmp .gt 31, 3, 109, 0, 0, 0), (81, .aload_n 0, 1, 0, 0, 0, 0), (82, .getfield 79, 3, 11, 38, 0, 0), (85, .bipush 13, 2, 0, 0, 13, 0), (87, .aload_n 0, 1, 0, 0, 0, 0), (88, .getfield 424, 3, 11, 39, 0, 0), (91, .imul, 1, 0, 0, 0, 0), (92, .iload 5, 2, 5, 0, 0, 0), (94, .iadd, 1, 0, 0, 0, 0), (95, .aload_n 0, 1, 0, 0, 0, 0), (96, .iload_n 2, 1, 2, 0, 0, 0), (97, .iload 5, 2, 5, 0, 0, 0), (99, .invokevirtual 341, 3, 227, 11020, 0, 0), (102, .iastore, 1, 0, 0, 0, 0), (103, .iinc 5 1, 3, 5, 0, 1, 0), (106, .goto (-34), 3, 72, 0, 0, 0), (109, .aload_n 0, 1, 0, 0, 0, 0), (110, .dup, 1, 0, 0, 0, 0), (111, .getfield 424, 3, 11, 39, 0, 0), (114, .iconst 1, 1, 0, 0, 1, 0), (115, .iadd, 1, 0, 0, 0, 0), (116, .putfield 424, 3, 11, 39, 0, 0), (119, .iinc 4 1, 3, 4, 0, 1, 0), (122, .goto (-90), 3, 32, 0, 0, 0), (125, .iconst 0, 1, 0, 0, 0, 0), (126, .ireturn, 1, 0, 0, 0, 0)]
def cd287 : List am_E := cd287_0 ++ (cd287_1)
def am_w287 : List (List (Int32 × Nat) × Nat) := []
set_option maxRecDepth 100000 in
theorem kcd287_0 : cd287_0.all (am_chk am_w287 287) = true := by decide +kernel
set_option maxRecDepth 100000 in
theorem kcd287_1 : cd287_1.all (am_chk am_w287 287) = true := by decide +kernel
theorem am_k287 : cd287.all (am_chk am_w287 287) = true := by
  simp only [cd287, List.all_append, kcd287_0, kcd287_1, Bool.and_self]
theorem am_r287 : am_rtc 287 = 0 := by decide +kernel
theorem am_l287 : am_ml 287 = 6 := by decide +kernel
def am_s287_ (z : Nat) : Nat → List aV → aM → Option aR := fun j => (match Nat.beq j 176 with
  | true => F176 z
  | false => (match Nat.beq j 183 with
  | true => F183 z
  | false => (match Nat.beq j 227 with
  | true => F227 z
  | false => (match Nat.beq j 285 with
  | true => F285 z
  | false => (match Nat.beq j 286 with
  | true => F286 z
  | false => (fun _ _ => none))))))
theorem hs287 (z : Nat) : ∀ j2 : Nat, ∃ d2 : Nat, d2 + 1 ≤ 11 ∧ am_Snd d2 j2 (am_s287_ z j2) := by
  intro j2
  unfold am_s287_
  split
  · rename_i he
    rw [am_beq he]
    exact ⟨_, by decide, S176 z⟩
  · skip
    split
    · rename_i he
      rw [am_beq he]
      exact ⟨_, by decide, S183 z⟩
    · skip
      split
      · rename_i he
        rw [am_beq he]
        exact ⟨_, by decide, S227 z⟩
      · skip
        split
        · rename_i he
          rw [am_beq he]
          exact ⟨_, by decide, S285 z⟩
        · skip
          split
          · rename_i he
            rw [am_beq he]
            exact ⟨_, by decide, S286 z⟩
          · skip
            exact ⟨0, by decide, am_Snd_no j2⟩
def f287_72 (z : Nat) (k32 : Int32 → Int32 → Int32 → aM → Option aR) : Nat → Int32 → Int32 → Int32 → Int32 → aM → Option aR
  | 0, _, _, _, _, _ => none
  | n + 1, x1, x2, x4, x5, M =>
    am_bi (f176 z M) fun v2 M1 =>
      if v2 < x5 then
        let I3 := am_u M1.1 205 39 ((M1.1 205 39) + (1 : Int32))
        k32 x1 x2 (x4 + (1 : Int32)) (I3, M1.2)
      else
        am_bi (f227 z x2 x5 M1) fun v5 M4 =>
          if am_inB (((13 : Int32) * (M1.1 205 39)) + x5) 780 then
            let I6 := am_u M4.1 227 (((13 : Int32) * (M1.1 205 39)) + x5).toNatClampNeg v5
            f287_72 z k32 n x1 x2 x4 (x5 + (1 : Int32)) (I6, M4.2)
          else
            none
set_option maxRecDepth 100000 in
set_option maxHeartbeats 4000000 in
theorem e287_72 (z : Nat) (k32 : Int32 → Int32 → Int32 → aM → Option aR) (hk32 : ∀ (x1 : Int32) (x2 : Int32) (x4 : Int32) (M : aM) (r : aR), k32 x1 x2 x4 M = some r → am_Ev 11 287 32 [some (.inr (.inr (11, 205))), some (.inl x1), some (.inl x2), none, some (.inl x4), none] [] M r) : ∀ (n : Nat) (x1 : Int32) (x2 : Int32) (x4 : Int32) (x5 : Int32) (M : aM) (r : aR), f287_72 z k32 n x1 x2 x4 x5 M = some r → am_Ev 11 287 72 [some (.inr (.inr (11, 205))), some (.inl x1), some (.inl x2), none, some (.inl x4), some (.inl x5)] [] M r := by
  intro n
  induction n with
  | zero =>
    intro x1 x2 x4 x5 M r h
    cases h
  | succ n ih =>
    intro x1 x2 x4 x5 M r h
    exact am_Ev_seg (sem := am_s287_ z) (cut := ([(32, [true, true, true, false, true, false]), (72, [true, true, true, false, true, true])] : List (Nat × List Bool))) (hs287 z) am_r287 am_k287 (by rw [am_l287]; decide) (fun pc al st M => (match Nat.beq pc 32 with
      | true => (match al, st with
        | [some (.inr (.inr (11, 205))), some (.inl x1), some (.inl x2), none, some (.inl x4), none], [] => k32 x1 x2 x4 M
        | _, _ => none)
      | false => (match Nat.beq pc 72 with
      | true => (match al, st with
        | [some (.inr (.inr (11, 205))), some (.inl x1), some (.inl x2), none, some (.inl x4), some (.inl x5)], [] => f287_72 z k32 n x1 x2 x4 x5 M
        | _, _ => none)
      | false => none))) 21 h (fun pc al st M hk => by
      try dsimp only at hk
      split at hk
      · rename_i he
        rw [am_beq he]
        split at hk
        · exact hk32 _ _ _ _ _ hk
        · cases hk
      · skip
        split at hk
        · rename_i he
          rw [am_beq he]
          split at hk
          · exact ih _ _ _ _ _ _ hk
          · cases hk
        · cases hk)
def f287_32 (z : Nat) : Nat → Int32 → Int32 → Int32 → aM → Option aR
  | 0, _, _, _, _ => none
  | n + 1, x1, x2, x4, M =>
    if (60 : Int32) < x4 then
      some (some (.inl (0 : Int32)), M)
    else
      if am_inB x2 16 then
        let I1 := am_u M.1 212 x2.toNatClampNeg x4
        am_bi (f286 z x1 (I1, M.2)) fun v3 M2 =>
          if ¬ v3 = 0 then
            if am_inB (M2.1 205 39) 60 then
              let I4 := am_u M2.1 226 (M2.1 205 39).toNatClampNeg x4
              f287_72 z (f287_32 z n) z x1 x2 x4 (0 : Int32) (I4, M2.2)
            else
              none
          else
            f287_32 z n x1 x2 (x4 + (1 : Int32)) M2
      else
        none
set_option maxRecDepth 100000 in
set_option maxHeartbeats 4000000 in
theorem e287_32 (z : Nat) : ∀ (n : Nat) (x1 : Int32) (x2 : Int32) (x4 : Int32) (M : aM) (r : aR), f287_32 z n x1 x2 x4 M = some r → am_Ev 11 287 32 [some (.inr (.inr (11, 205))), some (.inl x1), some (.inl x2), none, some (.inl x4), none] [] M r := by
  intro n
  induction n with
  | zero =>
    intro x1 x2 x4 M r h
    cases h
  | succ n ih =>
    intro x1 x2 x4 M r h
    exact am_Ev_seg (sem := am_s287_ z) (cut := ([(32, [true, true, true, false, true, false]), (72, [true, true, true, false, true, true])] : List (Nat × List Bool))) (hs287 z) am_r287 am_k287 (by rw [am_l287]; decide) (fun pc al st M => (match Nat.beq pc 32 with
      | true => (match al, st with
        | [some (.inr (.inr (11, 205))), some (.inl x1), some (.inl x2), none, some (.inl x4), none], [] => f287_32 z n x1 x2 x4 M
        | _, _ => none)
      | false => (match Nat.beq pc 72 with
      | true => (match al, st with
        | [some (.inr (.inr (11, 205))), some (.inl x1), some (.inl x2), none, some (.inl x4), some (.inl x5)], [] => f287_72 z (f287_32 z n) z x1 x2 x4 x5 M
        | _, _ => none)
      | false => none))) 22 h (fun pc al st M hk => by
      try dsimp only at hk
      split at hk
      · rename_i he
        rw [am_beq he]
        split at hk
        · exact ih _ _ _ _ _ hk
        · cases hk
      · skip
        split at hk
        · rename_i he
          rw [am_beq he]
          split at hk
          · exact e287_72 z _ ih _ _ _ _ _ _ _ hk
          · cases hk
        · cases hk)
/-- ArgumentMenderModel.layFits(II)I -/
def f287 (z : Nat) (x1 : Int32) (x2 : Int32) (M : aM) : Option aR :=
  am_bi (f183 z (Int32.toInt64 x2) M) fun v2 M1 =>
    if ¬ v2 = 0 then
      am_bi (f285 z x1 M1) fun v4 M3 =>
        if 0 ≤ v4 then
          let I5 := am_u M3.1 205 39 (0 : Int32)
          f287_32 z z x1 x2 (1 : Int32) (I5, M3.2)
        else
          some (some (.inl v4), M3)
    else
      some (some (.inl (-2 : Int32)), M1)
set_option maxRecDepth 100000 in
set_option maxHeartbeats 4000000 in
theorem e287 (z : Nat) : ∀ (x1 : Int32) (x2 : Int32) (M : aM) (r : aR), f287 z x1 x2 M = some r → am_Ev 11 287 0 [some (.inr (.inr (11, 205))), some (.inl x1), some (.inl x2), none, none, none] [] M r := by
  intro x1 x2 M r h
  exact am_Ev_seg (sem := am_s287_ z) (cut := ([(32, [true, true, true, false, true, false])] : List (Nat × List Bool))) (hs287 z) am_r287 am_k287 (by rw [am_l287]; decide) (fun pc al st M => (match Nat.beq pc 32 with
      | true => (match al, st with
        | [some (.inr (.inr (11, 205))), some (.inl x1), some (.inl x2), none, some (.inl x4), none], [] => f287_32 z z x1 x2 x4 M
        | _, _ => none)
      | false => none)) 18 h (fun pc al st M hk => by
      try dsimp only at hk
      split at hk
      · rename_i he
        rw [am_beq he]
        split at hk
        · exact e287_32 z _ _ _ _ _ _ hk
        · cases hk
      · cases hk)
def F287 (z : Nat) (as : List aV) (M : aM) : Option aR := match as with
  | [.inr (.inr (11, 205)), .inl x1, .inl x2] => f287 z x1 x2 M
  | _ => none
theorem S287 (z : Nat) : am_Snd 11 287 (F287 z) := am_meth (by decide +kernel) (fun as M r has h => by
    rw [am_l287]
    unfold F287 at h
    split at h
    · exact ⟨Nat.le_of_ble_eq_true rfl, e287 z _ _ _ _ h⟩
    · cases h)
def cd288_0 : List am_E := [(0, .aload_n 0, 1, 0, 0, 0, 0), (1, .iload_n 1, 1, 1, 0, 0, 0), (2, .iload_n 2, 1, 2, 0, 0, 0), (3, .invokevirtual 430, 3, 287, 11020, 0, 0), (6, .istore_n 3, 1, 3, 0, 0, 0), (7, .iload_n 3, 1, 3, 0, 0, 0), (8, .ifCond .ge 7, 3, 15, 0, 0, 0), (11, .iload_n 3, 1, 3, 0, 0, 0), (12, .goto 7, 3, 19, 0, 0, 0), (15, .aload_n 0, 1, 0, 0, 0, 0), (16, .getfield 424, 3, 11, 39, 0, 0), (19, .ireturn, 1, 0, 0, 0, 0)]
def cd288 : List am_E := cd288_0
def am_w288 : List (List (Int32 × Nat) × Nat) := []
set_option maxRecDepth 100000 in
theorem kcd288_0 : cd288_0.all (am_chk am_w288 288) = true := by decide +kernel
theorem am_k288 : cd288.all (am_chk am_w288 288) = true := by
  simp only [cd288, List.all_append, kcd288_0, Bool.and_self]
theorem am_r288 : am_rtc 288 = 0 := by decide +kernel
theorem am_l288 : am_ml 288 = 4 := by decide +kernel
def am_s288_ (z : Nat) : Nat → List aV → aM → Option aR := fun j => (match Nat.beq j 287 with
  | true => F287 z
  | false => (fun _ _ => none))
theorem hs288 (z : Nat) : ∀ j2 : Nat, ∃ d2 : Nat, d2 + 1 ≤ 12 ∧ am_Snd d2 j2 (am_s288_ z j2) := by
  intro j2
  unfold am_s288_
  split
  · rename_i he
    rw [am_beq he]
    exact ⟨_, by decide, S287 z⟩
  · skip
    exact ⟨0, by decide, am_Snd_no j2⟩
/-- ArgumentMenderModel.fits(II)I -/
def f288 (z : Nat) (x1 : Int32) (x2 : Int32) (M : aM) : Option aR :=
  am_bi (f287 z x1 x2 M) fun v2 M1 =>
    if 0 ≤ v2 then
      some (some (.inl (M1.1 205 39)), M1)
    else
      some (some (.inl v2), M1)
set_option maxRecDepth 100000 in
set_option maxHeartbeats 4000000 in
theorem e288 (z : Nat) : ∀ (x1 : Int32) (x2 : Int32) (M : aM) (r : aR), f288 z x1 x2 M = some r → am_Ev 12 288 0 [some (.inr (.inr (11, 205))), some (.inl x1), some (.inl x2), none] [] M r := by
  intro x1 x2 M r h
  exact am_Ev_seg (sem := am_s288_ z) (cut := ([] : List (Nat × List Bool))) (hs288 z) am_r288 am_k288 (by rw [am_l288]; decide) (fun _ _ _ _ => none) 11 h (fun _ _ _ _ hk => by cases hk)
def F288 (z : Nat) (as : List aV) (M : aM) : Option aR := match as with
  | [.inr (.inr (11, 205)), .inl x1, .inl x2] => f288 z x1 x2 M
  | _ => none
theorem S288 (z : Nat) : am_Snd 12 288 (F288 z) := am_meth (by decide +kernel) (fun as M r has h => by
    rw [am_l288]
    unfold F288 at h
    split at h
    · exact ⟨Nat.le_of_ble_eq_true rfl, e288 z _ _ _ _ h⟩
    · cases h)
def cd289_0 : List am_E := [(0, .aload_n 0, 1, 0, 0, 0, 0), (1, .iload_n 1, 1, 1, 0, 0, 0), (2, .iload_n 2, 1, 2, 0, 0, 0), (3, .invokevirtual 430, 3, 287, 11020, 0, 0), (6, .istore_n 3, 1, 3, 0, 0, 0), (7, .iload_n 3, 1, 3, 0, 0, 0), (8, .ifCond .ge 7, 3, 15, 0, 0, 0), (11, .iload_n 3, 1, 3, 0, 0, 0), (12, .goto 20, 3, 32, 0, 0, 0), (15, .aload_n 0, 1, 0, 0, 0, 0), (16, .getfield 424, 3, 11, 39, 0, 0), (19, .ifCond .ne 7, 3, 26, 0, 0, 0), (22, .iconst (-1), 1, 0, 0, (-1), 0), (23, .goto 9, 3, 32, 0, 0, 0), (26, .aload_n 0, 1, 0, 0, 0, 0), (27, .getfield 76, 3, 11, 37, 0, 0), (30, .iconst 0, 1, 0, 0, 0, 0), (31, .iaload, 1, 0, 0, 0, 0), (32, .ireturn, 1, 0, 0, 0, 0)]
def cd289 : List am_E := cd289_0
def am_w289 : List (List (Int32 × Nat) × Nat) := []
set_option maxRecDepth 100000 in
theorem kcd289_0 : cd289_0.all (am_chk am_w289 289) = true := by decide +kernel
theorem am_k289 : cd289.all (am_chk am_w289 289) = true := by
  simp only [cd289, List.all_append, kcd289_0, Bool.and_self]
theorem am_r289 : am_rtc 289 = 0 := by decide +kernel
theorem am_l289 : am_ml 289 = 4 := by decide +kernel
def am_s289_ (z : Nat) : Nat → List aV → aM → Option aR := fun j => (match Nat.beq j 287 with
  | true => F287 z
  | false => (fun _ _ => none))
theorem hs289 (z : Nat) : ∀ j2 : Nat, ∃ d2 : Nat, d2 + 1 ≤ 12 ∧ am_Snd d2 j2 (am_s289_ z j2) := by
  intro j2
  unfold am_s289_
  split
  · rename_i he
    rw [am_beq he]
    exact ⟨_, by decide, S287 z⟩
  · skip
    exact ⟨0, by decide, am_Snd_no j2⟩
/-- ArgumentMenderModel.least(II)I -/
def f289 (z : Nat) (x1 : Int32) (x2 : Int32) (M : aM) : Option aR :=
  am_bi (f287 z x1 x2 M) fun v2 M1 =>
    if 0 ≤ v2 then
      if ¬ (M1.1 205 39) = 0 then
        if am_inB (0 : Int32) 60 then
          some (some (.inl (M1.1 226 (0 : Int32).toNatClampNeg)), M1)
        else
          none
      else
        some (some (.inl (-1 : Int32)), M1)
    else
      some (some (.inl v2), M1)
set_option maxRecDepth 100000 in
set_option maxHeartbeats 4000000 in
theorem e289 (z : Nat) : ∀ (x1 : Int32) (x2 : Int32) (M : aM) (r : aR), f289 z x1 x2 M = some r → am_Ev 12 289 0 [some (.inr (.inr (11, 205))), some (.inl x1), some (.inl x2), none] [] M r := by
  intro x1 x2 M r h
  exact am_Ev_seg (sem := am_s289_ z) (cut := ([] : List (Nat × List Bool))) (hs289 z) am_r289 am_k289 (by rw [am_l289]; decide) (fun _ _ _ _ => none) 16 h (fun _ _ _ _ hk => by cases hk)
def F289 (z : Nat) (as : List aV) (M : aM) : Option aR := match as with
  | [.inr (.inr (11, 205)), .inl x1, .inl x2] => f289 z x1 x2 M
  | _ => none
theorem S289 (z : Nat) : am_Snd 12 289 (F289 z) := am_meth (by decide +kernel) (fun as M r has h => by
    rw [am_l289]
    unfold F289 at h
    split at h
    · exact ⟨Nat.le_of_ble_eq_true rfl, e289 z _ _ _ _ h⟩
    · cases h)
def cd290_0 : List am_E := [(0, .aload_n 0, 1, 0, 0, 0, 0), (1, .iload_n 1, 1, 1, 0, 0, 0), (2, .iload_n 2, 1, 2, 0, 0, 0), (3, .invokevirtual 430, 3, 287, 11020, 0, 0), (6, .istore_n 3, 1, 3, 0, 0, 0), (7, .iload_n 3, 1, 3, 0, 0, 0), (8, .ifCond .ge 7, 3, 15, 0, 0, 0), (11, .iload_n 3, 1, 3, 0, 0, 0), (12, .goto 25, 3, 37, 0, 0, 0), (15, .aload_n 0, 1, 0, 0, 0, 0), (16, .getfield 424, 3, 11, 39, 0, 0), (19, .ifCond .ne 7, 3, 26, 0, 0, 0), (22, .iconst (-1), 1, 0, 0, (-1), 0), (23, .goto 14, 3, 37, 0, 0, 0), (26, .aload_n 0, 1, 0, 0, 0, 0), (27, .getfield 76, 3, 11, 37, 0, 0), (30, .aload_n 0, 1, 0, 0, 0, 0), (31, .getfield 424, 3, 11, 39, 0, 0), (34, .iconst 1, 1, 0, 0, 1, 0), (35, .isub, 1, 0, 0, 0, 0), (36, .iaload, 1, 0, 0, 0, 0), (37, .ireturn, 1, 0, 0, 0, 0)]
def cd290 : List am_E := cd290_0
def am_w290 : List (List (Int32 × Nat) × Nat) := []
set_option maxRecDepth 100000 in
theorem kcd290_0 : cd290_0.all (am_chk am_w290 290) = true := by decide +kernel
theorem am_k290 : cd290.all (am_chk am_w290 290) = true := by
  simp only [cd290, List.all_append, kcd290_0, Bool.and_self]
theorem am_r290 : am_rtc 290 = 0 := by decide +kernel
theorem am_l290 : am_ml 290 = 4 := by decide +kernel
def am_s290_ (z : Nat) : Nat → List aV → aM → Option aR := fun j => (match Nat.beq j 287 with
  | true => F287 z
  | false => (fun _ _ => none))
theorem hs290 (z : Nat) : ∀ j2 : Nat, ∃ d2 : Nat, d2 + 1 ≤ 12 ∧ am_Snd d2 j2 (am_s290_ z j2) := by
  intro j2
  unfold am_s290_
  split
  · rename_i he
    rw [am_beq he]
    exact ⟨_, by decide, S287 z⟩
  · skip
    exact ⟨0, by decide, am_Snd_no j2⟩
/-- ArgumentMenderModel.greatest(II)I -/
def f290 (z : Nat) (x1 : Int32) (x2 : Int32) (M : aM) : Option aR :=
  am_bi (f287 z x1 x2 M) fun v2 M1 =>
    if 0 ≤ v2 then
      if ¬ (M1.1 205 39) = 0 then
        if am_inB ((M1.1 205 39) - (1 : Int32)) 60 then
          some (some (.inl (M1.1 226 ((M1.1 205 39) - (1 : Int32)).toNatClampNeg)), M1)
        else
          none
      else
        some (some (.inl (-1 : Int32)), M1)
    else
      some (some (.inl v2), M1)
set_option maxRecDepth 100000 in
set_option maxHeartbeats 4000000 in
theorem e290 (z : Nat) : ∀ (x1 : Int32) (x2 : Int32) (M : aM) (r : aR), f290 z x1 x2 M = some r → am_Ev 12 290 0 [some (.inr (.inr (11, 205))), some (.inl x1), some (.inl x2), none] [] M r := by
  intro x1 x2 M r h
  exact am_Ev_seg (sem := am_s290_ z) (cut := ([] : List (Nat × List Bool))) (hs290 z) am_r290 am_k290 (by rw [am_l290]; decide) (fun _ _ _ _ => none) 19 h (fun _ _ _ _ hk => by cases hk)
def F290 (z : Nat) (as : List aV) (M : aM) : Option aR := match as with
  | [.inr (.inr (11, 205)), .inl x1, .inl x2] => f290 z x1 x2 M
  | _ => none
theorem S290 (z : Nat) : am_Snd 12 290 (F290 z) := am_meth (by decide +kernel) (fun as M r has h => by
    rw [am_l290]
    unfold F290 at h
    split at h
    · exact ⟨Nat.le_of_ble_eq_true rfl, e290 z _ _ _ _ h⟩
    · cases h)
def cd291_0 : List am_E := [(0, .iconst 0, 1, 0, 0, 0, 0), (1, .istore_n 2, 1, 2, 0, 0, 0), (2, .iconst 0, 1, 0, 0, 0, 0), (3, .istore_n 3, 1, 3, 0, 0, 0), (4, .iload_n 3, 1, 3, 0, 0, 0), (5, .aload_n 0, 1, 0, 0, 0, 0), (6, .getfield 424, 3, 11, 39, 0, 0), (9, .if_icmp .ge 73, 3, 82, 0, 0, 0), (12, .iconst 0, 1, 0, 0, 0, 0), (13, .istore 4, 2, 4, 0, 0, 0), (15, .iconst 0, 1, 0, 0, 0, 0), (16, .istore 5, 2, 5, 0, 0, 0), (18, .iload 5, 2, 5, 0, 0, 0), (20, .aload_n 0, 1, 0, 0, 0, 0), (21, .getfield 424, 3, 11, 39, 0, 0), (24, .if_icmp .ge 45, 3, 69, 0, 0, 0), (27, .iload 4, 2, 4, 0, 0, 0), (29, .aload_n 0, 1, 0, 0, 0, 0), (30, .getfield 79, 3, 11, 38, 0, 0), (33, .bipush 13, 2, 0, 0, 13, 0), (35, .iload_n 3, 1, 3, 0, 0, 0), (36, .imul, 1, 0, 0, 0, 0), (37, .iload_n 1, 1, 1, 0, 0, 0), (38, .iadd, 1, 0, 0, 0, 0), (39, .iaload, 1, 0, 0, 0, 0), (40, .aload_n 0, 1, 0, 0, 0, 0), (41, .getfield 79, 3, 11, 38, 0, 0), (44, .bipush 13, 2, 0, 0, 13, 0), (46, .iload 5, 2, 5, 0, 0, 0), (48, .imul, 1, 0, 0, 0, 0), (49, .iload_n 1, 1, 1, 0, 0, 0), (50, .iadd, 1, 0, 0, 0, 0), (51, .iaload, 1, 0, 0, 0, 0), (52, .if_icmp .ne 7, 3, 59, 0, 0, 0), (55, .iconst 1, 1, 0, 0, 1, 0), (56, .goto 4, 3, 60, 0, 0, 0), (59, .iconst 0, 1, 0, 0, 0, 0), (60, .iadd, 1, 0, 0, 0, 0), (61, .istore 4, 2, 4, 0, 0, 0), (63, .iinc 5 1, 3, 5, 0, 1, 0)]
def cd291_1 : List am_E := [(66, .goto (-48), 3, 18, 0, 0, 0), (69, .iload_n 2, 1, 2, 0, 0, 0), (70, .iload 4, 2, 4, 0, 0, 0), (72, .invokestatic 433, 3, 0, 3, 0, 0), (75, .istore_n 2, 1, 2, 0, 0, 0), (76, .iinc 3 1, 3, 3, 0, 1, 0), (79, .goto (-75), 3, 4, 0, 0, 0), (82, .iload_n 2, 1, 2, 0, 0, 0), (83, .ireturn, 1, 0, 0, 0, 0)]
def cd291 : List am_E := cd291_0 ++ (cd291_1)
def am_w291 : List (List (Int32 × Nat) × Nat) := []
set_option maxRecDepth 100000 in
theorem kcd291_0 : cd291_0.all (am_chk am_w291 291) = true := by decide +kernel
set_option maxRecDepth 100000 in
theorem kcd291_1 : cd291_1.all (am_chk am_w291 291) = true := by decide +kernel
theorem am_k291 : cd291.all (am_chk am_w291 291) = true := by
  simp only [cd291, List.all_append, kcd291_0, kcd291_1, Bool.and_self]
theorem am_r291 : am_rtc 291 = 0 := by decide +kernel
theorem am_l291 : am_ml 291 = 6 := by decide +kernel
def am_s291_ (z : Nat) : Nat → List aV → aM → Option aR := fun j => (fun _ _ => none)
theorem hs291 (z : Nat) : ∀ j2 : Nat, ∃ d2 : Nat, d2 + 1 ≤ 1 ∧ am_Snd d2 j2 (am_s291_ z j2) := by
  intro j2
  unfold am_s291_
  exact ⟨0, by decide, am_Snd_no j2⟩
def f291_18 (z : Nat) (k4 : Int32 → Int32 → Int32 → aM → Option aR) : Nat → Int32 → Int32 → Int32 → Int32 → Int32 → aM → Option aR
  | 0, _, _, _, _, _, _ => none
  | n + 1, x1, x2, x3, x4, x5, M =>
    if (M.1 205 39) ≤ x5 then
      k4 x1 (if x2 < x4 then x4 else x2) (x3 + (1 : Int32)) M
    else
      if am_inB (((13 : Int32) * x3) + x1) 780 then
        if am_inB (((13 : Int32) * x5) + x1) 780 then
          if ¬ (M.1 227 (((13 : Int32) * x3) + x1).toNatClampNeg) = (M.1 227 (((13 : Int32) * x5) + x1).toNatClampNeg) then
            f291_18 z k4 n x1 x2 x3 (x4 + (0 : Int32)) (x5 + (1 : Int32)) M
          else
            f291_18 z k4 n x1 x2 x3 (x4 + (1 : Int32)) (x5 + (1 : Int32)) M
        else
          none
      else
        none
set_option maxRecDepth 100000 in
set_option maxHeartbeats 4000000 in
theorem e291_18 (z : Nat) (k4 : Int32 → Int32 → Int32 → aM → Option aR) (hk4 : ∀ (x1 : Int32) (x2 : Int32) (x3 : Int32) (M : aM) (r : aR), k4 x1 x2 x3 M = some r → am_Ev 1 291 4 [some (.inr (.inr (11, 205))), some (.inl x1), some (.inl x2), some (.inl x3), none, none] [] M r) : ∀ (n : Nat) (x1 : Int32) (x2 : Int32) (x3 : Int32) (x4 : Int32) (x5 : Int32) (M : aM) (r : aR), f291_18 z k4 n x1 x2 x3 x4 x5 M = some r → am_Ev 1 291 18 [some (.inr (.inr (11, 205))), some (.inl x1), some (.inl x2), some (.inl x3), some (.inl x4), some (.inl x5)] [] M r := by
  intro n
  induction n with
  | zero =>
    intro x1 x2 x3 x4 x5 M r h
    cases h
  | succ n ih =>
    intro x1 x2 x3 x4 x5 M r h
    exact am_Ev_seg (sem := am_s291_ z) (cut := ([(4, [true, true, true, true, false, false]), (18, [true, true, true, true, true, true])] : List (Nat × List Bool))) (hs291 z) am_r291 am_k291 (by rw [am_l291]; decide) (fun pc al st M => (match Nat.beq pc 4 with
      | true => (match al, st with
        | [some (.inr (.inr (11, 205))), some (.inl x1), some (.inl x2), some (.inl x3), none, none], [] => k4 x1 x2 x3 M
        | _, _ => none)
      | false => (match Nat.beq pc 18 with
      | true => (match al, st with
        | [some (.inr (.inr (11, 205))), some (.inl x1), some (.inl x2), some (.inl x3), some (.inl x4), some (.inl x5)], [] => f291_18 z k4 n x1 x2 x3 x4 x5 M
        | _, _ => none)
      | false => none))) 30 h (fun pc al st M hk => by
      try dsimp only at hk
      split at hk
      · rename_i he
        rw [am_beq he]
        split at hk
        · exact hk4 _ _ _ _ _ hk
        · cases hk
      · skip
        split at hk
        · rename_i he
          rw [am_beq he]
          split at hk
          · exact ih _ _ _ _ _ _ _ hk
          · cases hk
        · cases hk)
def f291_4 (z : Nat) : Nat → Int32 → Int32 → Int32 → aM → Option aR
  | 0, _, _, _, _ => none
  | n + 1, x1, x2, x3, M =>
    if (M.1 205 39) ≤ x3 then
      some (some (.inl x2), M)
    else
      f291_18 z (f291_4 z n) z x1 x2 x3 (0 : Int32) (0 : Int32) M
set_option maxRecDepth 100000 in
set_option maxHeartbeats 4000000 in
theorem e291_4 (z : Nat) : ∀ (n : Nat) (x1 : Int32) (x2 : Int32) (x3 : Int32) (M : aM) (r : aR), f291_4 z n x1 x2 x3 M = some r → am_Ev 1 291 4 [some (.inr (.inr (11, 205))), some (.inl x1), some (.inl x2), some (.inl x3), none, none] [] M r := by
  intro n
  induction n with
  | zero =>
    intro x1 x2 x3 M r h
    cases h
  | succ n ih =>
    intro x1 x2 x3 M r h
    exact am_Ev_seg (sem := am_s291_ z) (cut := ([(18, [true, true, true, true, true, true])] : List (Nat × List Bool))) (hs291 z) am_r291 am_k291 (by rw [am_l291]; decide) (fun pc al st M => (match Nat.beq pc 18 with
      | true => (match al, st with
        | [some (.inr (.inr (11, 205))), some (.inl x1), some (.inl x2), some (.inl x3), some (.inl x4), some (.inl x5)], [] => f291_18 z (f291_4 z n) z x1 x2 x3 x4 x5 M
        | _, _ => none)
      | false => none)) 10 h (fun pc al st M hk => by
      try dsimp only at hk
      split at hk
      · rename_i he
        rw [am_beq he]
        split at hk
        · exact e291_18 z _ ih _ _ _ _ _ _ _ _ hk
        · cases hk
      · cases hk)
/-- ArgumentMenderModel.worstIn(I)I -/
def f291 (z : Nat) (x1 : Int32) (M : aM) : Option aR :=
  f291_4 z z x1 (0 : Int32) (0 : Int32) M
set_option maxRecDepth 100000 in
set_option maxHeartbeats 4000000 in
theorem e291 (z : Nat) : ∀ (x1 : Int32) (M : aM) (r : aR), f291 z x1 M = some r → am_Ev 1 291 0 [some (.inr (.inr (11, 205))), some (.inl x1), none, none, none, none] [] M r := by
  intro x1 M r h
  exact am_Ev_seg (sem := am_s291_ z) (cut := ([(4, [true, true, true, true, false, false])] : List (Nat × List Bool))) (hs291 z) am_r291 am_k291 (by rw [am_l291]; decide) (fun pc al st M => (match Nat.beq pc 4 with
      | true => (match al, st with
        | [some (.inr (.inr (11, 205))), some (.inl x1), some (.inl x2), some (.inl x3), none, none], [] => f291_4 z z x1 x2 x3 M
        | _, _ => none)
      | false => none)) 6 h (fun pc al st M hk => by
      try dsimp only at hk
      split at hk
      · rename_i he
        rw [am_beq he]
        split at hk
        · exact e291_4 z _ _ _ _ _ _ hk
        · cases hk
      · cases hk)
def F291 (z : Nat) (as : List aV) (M : aM) : Option aR := match as with
  | [.inr (.inr (11, 205)), .inl x1] => f291 z x1 M
  | _ => none
theorem S291 (z : Nat) : am_Snd 1 291 (F291 z) := am_meth (by decide +kernel) (fun as M r has h => by
    rw [am_l291]
    unfold F291 at h
    split at h
    · exact ⟨Nat.le_of_ble_eq_true rfl, e291 z _ _ _ h⟩
    · cases h)
def cd292_0 : List am_E := [(0, .aload_n 0, 1, 0, 0, 0, 0), (1, .aload_n 0, 1, 0, 0, 0, 0), (2, .getfield 424, 3, 11, 39, 0, 0), (5, .putfield 436, 3, 11, 40, 0, 0), (8, .iconst (-1), 1, 0, 0, (-1), 0), (9, .istore_n 1, 1, 1, 0, 0, 0), (10, .iconst 0, 1, 0, 0, 0, 0), (11, .istore_n 2, 1, 2, 0, 0, 0), (12, .iload_n 2, 1, 2, 0, 0, 0), (13, .aload_n 0, 1, 0, 0, 0, 0), (14, .invokevirtual 111, 3, 176, 11000, 0, 0), (17, .if_icmp .gt 33, 3, 50, 0, 0, 0), (20, .aload_n 0, 1, 0, 0, 0, 0), (21, .iload_n 2, 1, 2, 0, 0, 0), (22, .invokevirtual 439, 3, 291, 11010, 0, 0), (25, .istore_n 3, 1, 3, 0, 0, 0), (26, .iload_n 3, 1, 3, 0, 0, 0), (27, .aload_n 0, 1, 0, 0, 0, 0), (28, .getfield 436, 3, 11, 40, 0, 0), (31, .if_icmp .lt 6, 3, 37, 0, 0, 0), (34, .goto 10, 3, 44, 0, 0, 0), (37, .aload_n 0, 1, 0, 0, 0, 0), (38, .iload_n 3, 1, 3, 0, 0, 0), (39, .putfield 436, 3, 11, 40, 0, 0), (42, .iload_n 2, 1, 2, 0, 0, 0), (43, .istore_n 1, 1, 1, 0, 0, 0), (44, .iinc 2 1, 3, 2, 0, 1, 0), (47, .goto (-35), 3, 12, 0, 0, 0), (50, .iload_n 1, 1, 1, 0, 0, 0), (51, .ireturn, 1, 0, 0, 0, 0)]
def cd292 : List am_E := cd292_0
def am_w292 : List (List (Int32 × Nat) × Nat) := []
set_option maxRecDepth 100000 in
theorem kcd292_0 : cd292_0.all (am_chk am_w292 292) = true := by decide +kernel
theorem am_k292 : cd292.all (am_chk am_w292 292) = true := by
  simp only [cd292, List.all_append, kcd292_0, Bool.and_self]
theorem am_r292 : am_rtc 292 = 0 := by decide +kernel
theorem am_l292 : am_ml 292 = 4 := by decide +kernel
def am_s292_ (z : Nat) : Nat → List aV → aM → Option aR := fun j => (match Nat.beq j 176 with
  | true => F176 z
  | false => (match Nat.beq j 291 with
  | true => F291 z
  | false => (fun _ _ => none)))
theorem hs292 (z : Nat) : ∀ j2 : Nat, ∃ d2 : Nat, d2 + 1 ≤ 2 ∧ am_Snd d2 j2 (am_s292_ z j2) := by
  intro j2
  unfold am_s292_
  split
  · rename_i he
    rw [am_beq he]
    exact ⟨_, by decide, S176 z⟩
  · skip
    split
    · rename_i he
      rw [am_beq he]
      exact ⟨_, by decide, S291 z⟩
    · skip
      exact ⟨0, by decide, am_Snd_no j2⟩
def f292_12 (z : Nat) : Nat → Int32 → Int32 → aM → Option aR
  | 0, _, _, _ => none
  | n + 1, x1, x2, M =>
    am_bi (f176 z M) fun v2 M1 =>
      if v2 < x2 then
        some (some (.inl x1), M1)
      else
        am_bi (f291 z x2 M1) fun v4 M3 =>
          if v4 < (M3.1 205 40) then
            let I5 := am_u M3.1 205 40 v4
            f292_12 z n x2 (x2 + (1 : Int32)) (I5, M3.2)
          else
            f292_12 z n x1 (x2 + (1 : Int32)) M3
set_option maxRecDepth 100000 in
set_option maxHeartbeats 4000000 in
theorem e292_12 (z : Nat) : ∀ (n : Nat) (x1 : Int32) (x2 : Int32) (M : aM) (r : aR), f292_12 z n x1 x2 M = some r → am_Ev 2 292 12 [some (.inr (.inr (11, 205))), some (.inl x1), some (.inl x2), none] [] M r := by
  intro n
  induction n with
  | zero =>
    intro x1 x2 M r h
    cases h
  | succ n ih =>
    intro x1 x2 M r h
    exact am_Ev_seg (sem := am_s292_ z) (cut := ([(12, [true, true, true, false])] : List (Nat × List Bool))) (hs292 z) am_r292 am_k292 (by rw [am_l292]; decide) (fun pc al st M => (match Nat.beq pc 12 with
      | true => (match al, st with
        | [some (.inr (.inr (11, 205))), some (.inl x1), some (.inl x2), none], [] => f292_12 z n x1 x2 M
        | _, _ => none)
      | false => none)) 21 h (fun pc al st M hk => by
      try dsimp only at hk
      split at hk
      · rename_i he
        rw [am_beq he]
        split at hk
        · exact ih _ _ _ _ hk
        · cases hk
      · cases hk)
/-- ArgumentMenderModel.askOf()I -/
def f292 (z : Nat) (M : aM) : Option aR :=
  let I1 := am_u M.1 205 40 (M.1 205 39)
  f292_12 z z (-1 : Int32) (0 : Int32) (I1, M.2)
set_option maxRecDepth 100000 in
set_option maxHeartbeats 4000000 in
theorem e292 (z : Nat) : ∀ (M : aM) (r : aR), f292 z  M = some r → am_Ev 2 292 0 [some (.inr (.inr (11, 205))), none, none, none] [] M r := by
  intro  M r h
  exact am_Ev_seg (sem := am_s292_ z) (cut := ([(12, [true, true, true, false])] : List (Nat × List Bool))) (hs292 z) am_r292 am_k292 (by rw [am_l292]; decide) (fun pc al st M => (match Nat.beq pc 12 with
      | true => (match al, st with
        | [some (.inr (.inr (11, 205))), some (.inl x1), some (.inl x2), none], [] => f292_12 z z x1 x2 M
        | _, _ => none)
      | false => none)) 10 h (fun pc al st M hk => by
      try dsimp only at hk
      split at hk
      · rename_i he
        rw [am_beq he]
        split at hk
        · exact e292_12 z _ _ _ _ _ hk
        · cases hk
      · cases hk)
def F292 (z : Nat) (as : List aV) (M : aM) : Option aR := match as with
  | [.inr (.inr (11, 205))] => f292 z  M
  | _ => none
theorem S292 (z : Nat) : am_Snd 2 292 (F292 z) := am_meth (by decide +kernel) (fun as M r has h => by
    rw [am_l292]
    unfold F292 at h
    split at h
    · exact ⟨Nat.le_of_ble_eq_true rfl, e292 z _ _ h⟩
    · cases h)
def cd293_0 : List am_E := [(0, .aload_n 0, 1, 0, 0, 0, 0), (1, .iload_n 1, 1, 1, 0, 0, 0), (2, .iload_n 2, 1, 2, 0, 0, 0), (3, .invokevirtual 430, 3, 287, 11020, 0, 0), (6, .istore_n 3, 1, 3, 0, 0, 0), (7, .iload_n 3, 1, 3, 0, 0, 0), (8, .ifCond .ge 7, 3, 15, 0, 0, 0), (11, .iload_n 3, 1, 3, 0, 0, 0), (12, .goto 7, 3, 19, 0, 0, 0), (15, .aload_n 0, 1, 0, 0, 0, 0), (16, .invokevirtual 442, 3, 292, 11000, 0, 0), (19, .ireturn, 1, 0, 0, 0, 0)]
def cd293 : List am_E := cd293_0
def am_w293 : List (List (Int32 × Nat) × Nat) := []
set_option maxRecDepth 100000 in
theorem kcd293_0 : cd293_0.all (am_chk am_w293 293) = true := by decide +kernel
theorem am_k293 : cd293.all (am_chk am_w293 293) = true := by
  simp only [cd293, List.all_append, kcd293_0, Bool.and_self]
theorem am_r293 : am_rtc 293 = 0 := by decide +kernel
theorem am_l293 : am_ml 293 = 4 := by decide +kernel
def am_s293_ (z : Nat) : Nat → List aV → aM → Option aR := fun j => (match Nat.beq j 287 with
  | true => F287 z
  | false => (match Nat.beq j 292 with
  | true => F292 z
  | false => (fun _ _ => none)))
theorem hs293 (z : Nat) : ∀ j2 : Nat, ∃ d2 : Nat, d2 + 1 ≤ 12 ∧ am_Snd d2 j2 (am_s293_ z j2) := by
  intro j2
  unfold am_s293_
  split
  · rename_i he
    rw [am_beq he]
    exact ⟨_, by decide, S287 z⟩
  · skip
    split
    · rename_i he
      rw [am_beq he]
      exact ⟨_, by decide, S292 z⟩
    · skip
      exact ⟨0, by decide, am_Snd_no j2⟩
/-- ArgumentMenderModel.ask(II)I -/
def f293 (z : Nat) (x1 : Int32) (x2 : Int32) (M : aM) : Option aR :=
  am_bi (f287 z x1 x2 M) fun v2 M1 =>
    if 0 ≤ v2 then
      am_bi (f292 z M1) fun v4 M3 =>
        some (some (.inl v4), M3)
    else
      some (some (.inl v2), M1)
set_option maxRecDepth 100000 in
set_option maxHeartbeats 4000000 in
theorem e293 (z : Nat) : ∀ (x1 : Int32) (x2 : Int32) (M : aM) (r : aR), f293 z x1 x2 M = some r → am_Ev 12 293 0 [some (.inr (.inr (11, 205))), some (.inl x1), some (.inl x2), none] [] M r := by
  intro x1 x2 M r h
  exact am_Ev_seg (sem := am_s293_ z) (cut := ([] : List (Nat × List Bool))) (hs293 z) am_r293 am_k293 (by rw [am_l293]; decide) (fun _ _ _ _ => none) 11 h (fun _ _ _ _ hk => by cases hk)
def F293 (z : Nat) (as : List aV) (M : aM) : Option aR := match as with
  | [.inr (.inr (11, 205)), .inl x1, .inl x2] => f293 z x1 x2 M
  | _ => none
theorem S293 (z : Nat) : am_Snd 12 293 (F293 z) := am_meth (by decide +kernel) (fun as M r has h => by
    rw [am_l293]
    unfold F293 at h
    split at h
    · exact ⟨Nat.le_of_ble_eq_true rfl, e293 z _ _ _ _ h⟩
    · cases h)
def cd294_0 : List am_E := [(0, .aload_n 0, 1, 0, 0, 0, 0), (1, .iload_n 1, 1, 1, 0, 0, 0), (2, .iload_n 2, 1, 2, 0, 0, 0), (3, .invokevirtual 430, 3, 287, 11020, 0, 0), (6, .istore_n 3, 1, 3, 0, 0, 0), (7, .iload_n 3, 1, 3, 0, 0, 0), (8, .ifCond .ge 5, 3, 13, 0, 0, 0), (11, .iload_n 3, 1, 3, 0, 0, 0), (12, .ireturn, 1, 0, 0, 0, 0), (13, .aload_n 0, 1, 0, 0, 0, 0), (14, .invokevirtual 442, 3, 292, 11000, 0, 0), (17, .pop, 1, 0, 0, 0, 0), (18, .aload_n 0, 1, 0, 0, 0, 0), (19, .getfield 436, 3, 11, 40, 0, 0), (22, .ireturn, 1, 0, 0, 0, 0)]
def cd294 : List am_E := cd294_0
def am_w294 : List (List (Int32 × Nat) × Nat) := []
set_option maxRecDepth 100000 in
theorem kcd294_0 : cd294_0.all (am_chk am_w294 294) = true := by decide +kernel
theorem am_k294 : cd294.all (am_chk am_w294 294) = true := by
  simp only [cd294, List.all_append, kcd294_0, Bool.and_self]
theorem am_r294 : am_rtc 294 = 0 := by decide +kernel
theorem am_l294 : am_ml 294 = 4 := by decide +kernel
def am_s294_ (z : Nat) : Nat → List aV → aM → Option aR := fun j => (match Nat.beq j 287 with
  | true => F287 z
  | false => (match Nat.beq j 292 with
  | true => F292 z
  | false => (fun _ _ => none)))
theorem hs294 (z : Nat) : ∀ j2 : Nat, ∃ d2 : Nat, d2 + 1 ≤ 12 ∧ am_Snd d2 j2 (am_s294_ z j2) := by
  intro j2
  unfold am_s294_
  split
  · rename_i he
    rw [am_beq he]
    exact ⟨_, by decide, S287 z⟩
  · skip
    split
    · rename_i he
      rw [am_beq he]
      exact ⟨_, by decide, S292 z⟩
    · skip
      exact ⟨0, by decide, am_Snd_no j2⟩
/-- ArgumentMenderModel.leaves(II)I -/
def f294 (z : Nat) (x1 : Int32) (x2 : Int32) (M : aM) : Option aR :=
  am_bi (f287 z x1 x2 M) fun v2 M1 =>
    if 0 ≤ v2 then
      am_bi (f292 z M1) fun v4 M3 =>
        some (some (.inl (M3.1 205 40)), M3)
    else
      some (some (.inl v2), M1)
set_option maxRecDepth 100000 in
set_option maxHeartbeats 4000000 in
theorem e294 (z : Nat) : ∀ (x1 : Int32) (x2 : Int32) (M : aM) (r : aR), f294 z x1 x2 M = some r → am_Ev 12 294 0 [some (.inr (.inr (11, 205))), some (.inl x1), some (.inl x2), none] [] M r := by
  intro x1 x2 M r h
  exact am_Ev_seg (sem := am_s294_ z) (cut := ([] : List (Nat × List Bool))) (hs294 z) am_r294 am_k294 (by rw [am_l294]; decide) (fun _ _ _ _ => none) 14 h (fun _ _ _ _ hk => by cases hk)
def F294 (z : Nat) (as : List aV) (M : aM) : Option aR := match as with
  | [.inr (.inr (11, 205)), .inl x1, .inl x2] => f294 z x1 x2 M
  | _ => none
theorem S294 (z : Nat) : am_Snd 12 294 (F294 z) := am_meth (by decide +kernel) (fun as M r has h => by
    rw [am_l294]
    unfold F294 at h
    split at h
    · exact ⟨Nat.le_of_ble_eq_true rfl, e294 z _ _ _ _ h⟩
    · cases h)
def cd295_0 : List am_E := [(0, .aload_n 0, 1, 0, 0, 0, 0), (1, .iload_n 1, 1, 1, 0, 0, 0), (2, .invokevirtual 421, 3, 285, 11010, 0, 0), (5, .istore_n 2, 1, 2, 0, 0, 0), (6, .iload_n 2, 1, 2, 0, 0, 0), (7, .ifCond .ge 5, 3, 12, 0, 0, 0), (10, .iload_n 2, 1, 2, 0, 0, 0), (11, .ireturn, 1, 0, 0, 0, 0), (12, .iconst 0, 1, 0, 0, 0, 0), (13, .istore_n 3, 1, 3, 0, 0, 0), (14, .aload_n 0, 1, 0, 0, 0, 0), (15, .iconst 0, 1, 0, 0, 0, 0), (16, .putfield 261, 3, 11, 16, 0, 0), (19, .aload_n 0, 1, 0, 0, 0, 0), (20, .getfield 261, 3, 11, 16, 0, 0), (23, .iconst 4, 1, 0, 0, 4, 0), (24, .if_icmp .ge 37, 3, 61, 0, 0, 0), (27, .iload_n 3, 1, 3, 0, 0, 0), (28, .aload_n 0, 1, 0, 0, 0, 0), (29, .iload_n 1, 1, 1, 0, 0, 0), (30, .invokevirtual 427, 3, 286, 11010, 0, 0), (33, .ifCond .eq 12, 3, 45, 0, 0, 0), (36, .iconst 1, 1, 0, 0, 1, 0), (37, .aload_n 0, 1, 0, 0, 0, 0), (38, .getfield 261, 3, 11, 16, 0, 0), (41, .ishl, 1, 0, 0, 0, 0), (42, .goto 4, 3, 46, 0, 0, 0), (45, .iconst 0, 1, 0, 0, 0, 0), (46, .ior, 1, 0, 0, 0, 0), (47, .istore_n 3, 1, 3, 0, 0, 0), (48, .aload_n 0, 1, 0, 0, 0, 0), (49, .dup, 1, 0, 0, 0, 0), (50, .getfield 261, 3, 11, 16, 0, 0), (53, .iconst 1, 1, 0, 0, 1, 0), (54, .iadd, 1, 0, 0, 0, 0), (55, .putfield 261, 3, 11, 16, 0, 0), (58, .goto (-39), 3, 19, 0, 0, 0), (61, .iload_n 3, 1, 3, 0, 0, 0), (62, .ireturn, 1, 0, 0, 0, 0)]
def cd295 : List am_E := cd295_0
def am_w295 : List (List (Int32 × Nat) × Nat) := []
set_option maxRecDepth 100000 in
theorem kcd295_0 : cd295_0.all (am_chk am_w295 295) = true := by decide +kernel
theorem am_k295 : cd295.all (am_chk am_w295 295) = true := by
  simp only [cd295, List.all_append, kcd295_0, Bool.and_self]
theorem am_r295 : am_rtc 295 = 0 := by decide +kernel
theorem am_l295 : am_ml 295 = 4 := by decide +kernel
def am_s295_ (z : Nat) : Nat → List aV → aM → Option aR := fun j => (match Nat.beq j 285 with
  | true => F285 z
  | false => (match Nat.beq j 286 with
  | true => F286 z
  | false => (fun _ _ => none)))
theorem hs295 (z : Nat) : ∀ j2 : Nat, ∃ d2 : Nat, d2 + 1 ≤ 11 ∧ am_Snd d2 j2 (am_s295_ z j2) := by
  intro j2
  unfold am_s295_
  split
  · rename_i he
    rw [am_beq he]
    exact ⟨_, by decide, S285 z⟩
  · skip
    split
    · rename_i he
      rw [am_beq he]
      exact ⟨_, by decide, S286 z⟩
    · skip
      exact ⟨0, by decide, am_Snd_no j2⟩
def f295_19 (z : Nat) : Nat → Int32 → Int32 → aM → Option aR
  | 0, _, _, _ => none
  | n + 1, x1, x3, M =>
    if (4 : Int32) ≤ (M.1 205 16) then
      some (some (.inl x3), M)
    else
      am_bi (f286 z x1 M) fun v2 M1 =>
        if v2 = 0 then
          let I3 := am_u M1.1 205 16 ((M1.1 205 16) + (1 : Int32))
          f295_19 z n x1 (x3 ||| (0 : Int32)) (I3, M1.2)
        else
          let I4 := am_u M1.1 205 16 ((M1.1 205 16) + (1 : Int32))
          f295_19 z n x1 (x3 ||| ((1 : Int32) <<< ((M1.1 205 16) &&& 31))) (I4, M1.2)
set_option maxRecDepth 100000 in
set_option maxHeartbeats 4000000 in
theorem e295_19 (z : Nat) : ∀ (n : Nat) (x1 : Int32) (x3 : Int32) (M : aM) (r : aR), f295_19 z n x1 x3 M = some r → am_Ev 11 295 19 [some (.inr (.inr (11, 205))), some (.inl x1), none, some (.inl x3)] [] M r := by
  intro n
  induction n with
  | zero =>
    intro x1 x3 M r h
    cases h
  | succ n ih =>
    intro x1 x3 M r h
    exact am_Ev_seg (sem := am_s295_ z) (cut := ([(19, [true, true, false, true])] : List (Nat × List Bool))) (hs295 z) am_r295 am_k295 (by rw [am_l295]; decide) (fun pc al st M => (match Nat.beq pc 19 with
      | true => (match al, st with
        | [some (.inr (.inr (11, 205))), some (.inl x1), none, some (.inl x3)], [] => f295_19 z n x1 x3 M
        | _, _ => none)
      | false => none)) 25 h (fun pc al st M hk => by
      try dsimp only at hk
      split at hk
      · rename_i he
        rw [am_beq he]
        split at hk
        · exact ih _ _ _ _ hk
        · cases hk
      · cases hk)
/-- ArgumentMenderModel.laws(I)I -/
def f295 (z : Nat) (x1 : Int32) (M : aM) : Option aR :=
  am_bi (f285 z x1 M) fun v2 M1 =>
    if 0 ≤ v2 then
      let I3 := am_u M1.1 205 16 (0 : Int32)
      f295_19 z z x1 (0 : Int32) (I3, M1.2)
    else
      some (some (.inl v2), M1)
set_option maxRecDepth 100000 in
set_option maxHeartbeats 4000000 in
theorem e295 (z : Nat) : ∀ (x1 : Int32) (M : aM) (r : aR), f295 z x1 M = some r → am_Ev 11 295 0 [some (.inr (.inr (11, 205))), some (.inl x1), none, none] [] M r := by
  intro x1 M r h
  exact am_Ev_seg (sem := am_s295_ z) (cut := ([(19, [true, true, false, true])] : List (Nat × List Bool))) (hs295 z) am_r295 am_k295 (by rw [am_l295]; decide) (fun pc al st M => (match Nat.beq pc 19 with
      | true => (match al, st with
        | [some (.inr (.inr (11, 205))), some (.inl x1), none, some (.inl x3)], [] => f295_19 z z x1 x3 M
        | _, _ => none)
      | false => none)) 13 h (fun pc al st M hk => by
      try dsimp only at hk
      split at hk
      · rename_i he
        rw [am_beq he]
        split at hk
        · exact e295_19 z _ _ _ _ _ hk
        · cases hk
      · cases hk)
def F295 (z : Nat) (as : List aV) (M : aM) : Option aR := match as with
  | [.inr (.inr (11, 205)), .inl x1] => f295 z x1 M
  | _ => none
theorem S295 (z : Nat) : am_Snd 11 295 (F295 z) := am_meth (by decide +kernel) (fun as M r has h => by
    rw [am_l295]
    unfold F295 at h
    split at h
    · exact ⟨Nat.le_of_ble_eq_true rfl, e295 z _ _ _ h⟩
    · cases h)
def cd296_0 : List am_E := [(0, .aload_n 0, 1, 0, 0, 0, 0), (1, .iload_n 1, 1, 1, 0, 0, 0), (2, .putfield 261, 3, 11, 16, 0, 0), (5, .aload_n 0, 1, 0, 0, 0, 0), (6, .invokevirtual 332, 3, 224, 11004, 0, 0), (9, .aload_n 0, 1, 0, 0, 0, 0), (10, .invokevirtual 397, 3, 232, 11000, 0, 0), (13, .ireturn, 1, 0, 0, 0, 0)]
def cd296 : List am_E := cd296_0
def am_w296 : List (List (Int32 × Nat) × Nat) := []
set_option maxRecDepth 100000 in
theorem kcd296_0 : cd296_0.all (am_chk am_w296 296) = true := by decide +kernel
theorem am_k296 : cd296.all (am_chk am_w296 296) = true := by
  simp only [cd296, List.all_append, kcd296_0, Bool.and_self]
theorem am_r296 : am_rtc 296 = 0 := by decide +kernel
theorem am_l296 : am_ml 296 = 2 := by decide +kernel
def am_s296_ (z : Nat) : Nat → List aV → aM → Option aR := fun j => (match Nat.beq j 224 with
  | true => F224 z
  | false => (match Nat.beq j 232 with
  | true => F232 z
  | false => (fun _ _ => none)))
theorem hs296 (z : Nat) : ∀ j2 : Nat, ∃ d2 : Nat, d2 + 1 ≤ 10 ∧ am_Snd d2 j2 (am_s296_ z j2) := by
  intro j2
  unfold am_s296_
  split
  · rename_i he
    rw [am_beq he]
    exact ⟨_, by decide, S224 z⟩
  · skip
    split
    · rename_i he
      rw [am_beq he]
      exact ⟨_, by decide, S232 z⟩
    · skip
      exact ⟨0, by decide, am_Snd_no j2⟩
/-- ArgumentMenderModel.hungByLaw(I)I -/
def f296 (z : Nat) (x1 : Int32) (M : aM) : Option aR :=
  let I1 := am_u M.1 205 16 x1
  am_bv (f224 z (I1, M.2)) fun M2 =>
    am_bi (f232 z M2) fun v4 M3 =>
      some (some (.inl v4), M3)
set_option maxRecDepth 100000 in
set_option maxHeartbeats 4000000 in
theorem e296 (z : Nat) : ∀ (x1 : Int32) (M : aM) (r : aR), f296 z x1 M = some r → am_Ev 10 296 0 [some (.inr (.inr (11, 205))), some (.inl x1)] [] M r := by
  intro x1 M r h
  exact am_Ev_seg (sem := am_s296_ z) (cut := ([] : List (Nat × List Bool))) (hs296 z) am_r296 am_k296 (by rw [am_l296]; decide) (fun _ _ _ _ => none) 9 h (fun _ _ _ _ hk => by cases hk)
def F296 (z : Nat) (as : List aV) (M : aM) : Option aR := match as with
  | [.inr (.inr (11, 205)), .inl x1] => f296 z x1 M
  | _ => none
theorem S296 (z : Nat) : am_Snd 10 296 (F296 z) := am_meth (by decide +kernel) (fun as M r has h => by
    rw [am_l296]
    unfold F296 at h
    split at h
    · exact ⟨Nat.le_of_ble_eq_true rfl, e296 z _ _ _ h⟩
    · cases h)
def cd297_0 : List am_E := [(0, .aload_n 0, 1, 0, 0, 0, 0), (1, .invokevirtual 335, 3, 225, 11000, 0, 0), (4, .ifCond .eq 23, 3, 27, 0, 0, 0), (7, .iload_n 1, 1, 1, 0, 0, 0), (8, .i2l, 1, 0, 0, 0, 0), (9, .lconst 0, 1, 0, 0, 0, 0), (10, .ldc2_w 445, 3, 0, 0, 0, 3), (13, .invokestatic 103, 3, 170, 35, 0, 0), (16, .ifCond .eq 11, 3, 27, 0, 0, 0), (19, .aload_n 0, 1, 0, 0, 0, 0), (20, .iload_n 1, 1, 1, 0, 0, 0), (21, .invokevirtual 447, 3, 296, 11010, 0, 0), (24, .goto 5, 3, 29, 0, 0, 0), (27, .bipush (-2), 2, 0, 0, (-2), 0), (29, .ireturn, 1, 0, 0, 0, 0)]
def cd297 : List am_E := cd297_0
def am_w297 : List (List (Int32 × Nat) × Nat) := []
set_option maxRecDepth 100000 in
theorem kcd297_0 : cd297_0.all (am_chk am_w297 297) = true := by decide +kernel
theorem am_k297 : cd297.all (am_chk am_w297 297) = true := by
  simp only [cd297, List.all_append, kcd297_0, Bool.and_self]
theorem am_r297 : am_rtc 297 = 0 := by decide +kernel
theorem am_l297 : am_ml 297 = 2 := by decide +kernel
def am_s297_ (z : Nat) : Nat → List aV → aM → Option aR := fun j => (match Nat.beq j 170 with
  | true => F170 z
  | false => (match Nat.beq j 225 with
  | true => F225 z
  | false => (match Nat.beq j 296 with
  | true => F296 z
  | false => (fun _ _ => none))))
theorem hs297 (z : Nat) : ∀ j2 : Nat, ∃ d2 : Nat, d2 + 1 ≤ 11 ∧ am_Snd d2 j2 (am_s297_ z j2) := by
  intro j2
  unfold am_s297_
  split
  · rename_i he
    rw [am_beq he]
    exact ⟨_, by decide, S170 z⟩
  · skip
    split
    · rename_i he
      rw [am_beq he]
      exact ⟨_, by decide, S225 z⟩
    · skip
      split
      · rename_i he
        rw [am_beq he]
        exact ⟨_, by decide, S296 z⟩
      · skip
        exact ⟨0, by decide, am_Snd_no j2⟩
/-- ArgumentMenderModel.by(I)I -/
def f297 (z : Nat) (x1 : Int32) (M : aM) : Option aR :=
  am_bi (f225 z M) fun v2 M1 =>
    if v2 = 0 then
      some (some (.inl (-2 : Int32)), M1)
    else
      am_bi (f170 z (Int32.toInt64 x1) (0 : Int64) (3 : Int64) M1) fun v4 M3 =>
        if v4 = 0 then
          some (some (.inl (-2 : Int32)), M3)
        else
          am_bi (f296 z x1 M3) fun v6 M5 =>
            some (some (.inl v6), M5)
set_option maxRecDepth 100000 in
set_option maxHeartbeats 4000000 in
theorem e297 (z : Nat) : ∀ (x1 : Int32) (M : aM) (r : aR), f297 z x1 M = some r → am_Ev 11 297 0 [some (.inr (.inr (11, 205))), some (.inl x1)] [] M r := by
  intro x1 M r h
  exact am_Ev_seg (sem := am_s297_ z) (cut := ([] : List (Nat × List Bool))) (hs297 z) am_r297 am_k297 (by rw [am_l297]; decide) (fun _ _ _ _ => none) 15 h (fun _ _ _ _ hk => by cases hk)
def F297 (z : Nat) (as : List aV) (M : aM) : Option aR := match as with
  | [.inr (.inr (11, 205)), .inl x1] => f297 z x1 M
  | _ => none
theorem S297 (z : Nat) : am_Snd 11 297 (F297 z) := am_meth (by decide +kernel) (fun as M r has h => by
    rw [am_l297]
    unfold F297 at h
    split at h
    · exact ⟨Nat.le_of_ble_eq_true rfl, e297 z _ _ _ h⟩
    · cases h)
def cd298_0 : List am_E := [(0, .aload_n 0, 1, 0, 0, 0, 0), (1, .invokevirtual 335, 3, 225, 11000, 0, 0), (4, .ifCond .ne 6, 3, 10, 0, 0, 0), (7, .bipush (-2), 2, 0, 0, (-2), 0), (9, .ireturn, 1, 0, 0, 0, 0), (10, .iconst 0, 1, 0, 0, 0, 0), (11, .istore_n 1, 1, 1, 0, 0, 0), (12, .iconst 1, 1, 0, 0, 1, 0), (13, .istore_n 2, 1, 2, 0, 0, 0), (14, .iload_n 2, 1, 2, 0, 0, 0), (15, .iconst 4, 1, 0, 0, 4, 0), (16, .if_icmp .ge 34, 3, 50, 0, 0, 0), (19, .aload_n 0, 1, 0, 0, 0, 0), (20, .iload_n 2, 1, 2, 0, 0, 0), (21, .invokevirtual 447, 3, 296, 11010, 0, 0), (24, .invokestatic 372, 3, 171, 15, 0, 0), (27, .aload_n 0, 1, 0, 0, 0, 0), (28, .iload_n 1, 1, 1, 0, 0, 0), (29, .invokevirtual 447, 3, 296, 11010, 0, 0), (32, .invokestatic 372, 3, 171, 15, 0, 0), (35, .if_icmp .le 7, 3, 42, 0, 0, 0), (38, .iload_n 2, 1, 2, 0, 0, 0), (39, .goto 4, 3, 43, 0, 0, 0), (42, .iload_n 1, 1, 1, 0, 0, 0), (43, .istore_n 1, 1, 1, 0, 0, 0), (44, .iinc 2 1, 3, 2, 0, 1, 0), (47, .goto (-33), 3, 14, 0, 0, 0), (50, .iload_n 1, 1, 1, 0, 0, 0), (51, .ireturn, 1, 0, 0, 0, 0)]
def cd298 : List am_E := cd298_0
def am_w298 : List (List (Int32 × Nat) × Nat) := []
set_option maxRecDepth 100000 in
theorem kcd298_0 : cd298_0.all (am_chk am_w298 298) = true := by decide +kernel
theorem am_k298 : cd298.all (am_chk am_w298 298) = true := by
  simp only [cd298, List.all_append, kcd298_0, Bool.and_self]
theorem am_r298 : am_rtc 298 = 0 := by decide +kernel
theorem am_l298 : am_ml 298 = 3 := by decide +kernel
def am_s298_ (z : Nat) : Nat → List aV → aM → Option aR := fun j => (match Nat.beq j 171 with
  | true => F171 z
  | false => (match Nat.beq j 225 with
  | true => F225 z
  | false => (match Nat.beq j 296 with
  | true => F296 z
  | false => (fun _ _ => none))))
theorem hs298 (z : Nat) : ∀ j2 : Nat, ∃ d2 : Nat, d2 + 1 ≤ 11 ∧ am_Snd d2 j2 (am_s298_ z j2) := by
  intro j2
  unfold am_s298_
  split
  · rename_i he
    rw [am_beq he]
    exact ⟨_, by decide, S171 z⟩
  · skip
    split
    · rename_i he
      rw [am_beq he]
      exact ⟨_, by decide, S225 z⟩
    · skip
      split
      · rename_i he
        rw [am_beq he]
        exact ⟨_, by decide, S296 z⟩
      · skip
        exact ⟨0, by decide, am_Snd_no j2⟩
def f298_14 (z : Nat) : Nat → Int32 → Int32 → aM → Option aR
  | 0, _, _, _ => none
  | n + 1, x1, x2, M =>
    if (4 : Int32) ≤ x2 then
      some (some (.inl x1), M)
    else
      am_bi (f296 z x2 M) fun v2 M1 =>
        am_bi (f171 z v2 M1) fun v4 M3 =>
          am_bi (f296 z x1 M3) fun v6 M5 =>
            am_bi (f171 z v6 M5) fun v8 M7 =>
              if v4 ≤ v8 then
                f298_14 z n x1 (x2 + (1 : Int32)) M7
              else
                f298_14 z n x2 (x2 + (1 : Int32)) M7
set_option maxRecDepth 100000 in
set_option maxHeartbeats 4000000 in
theorem e298_14 (z : Nat) : ∀ (n : Nat) (x1 : Int32) (x2 : Int32) (M : aM) (r : aR), f298_14 z n x1 x2 M = some r → am_Ev 11 298 14 [some (.inr (.inr (11, 205))), some (.inl x1), some (.inl x2)] [] M r := by
  intro n
  induction n with
  | zero =>
    intro x1 x2 M r h
    cases h
  | succ n ih =>
    intro x1 x2 M r h
    exact am_Ev_seg (sem := am_s298_ z) (cut := ([(14, [true, true, true])] : List (Nat × List Bool))) (hs298 z) am_r298 am_k298 (by rw [am_l298]; decide) (fun pc al st M => (match Nat.beq pc 14 with
      | true => (match al, st with
        | [some (.inr (.inr (11, 205))), some (.inl x1), some (.inl x2)], [] => f298_14 z n x1 x2 M
        | _, _ => none)
      | false => none)) 19 h (fun pc al st M hk => by
      try dsimp only at hk
      split at hk
      · rename_i he
        rw [am_beq he]
        split at hk
        · exact ih _ _ _ _ hk
        · cases hk
      · cases hk)
/-- ArgumentMenderModel.law()I -/
def f298 (z : Nat) (M : aM) : Option aR :=
  am_bi (f225 z M) fun v2 M1 =>
    if ¬ v2 = 0 then
      f298_14 z z (0 : Int32) (1 : Int32) M1
    else
      some (some (.inl (-2 : Int32)), M1)
set_option maxRecDepth 100000 in
set_option maxHeartbeats 4000000 in
theorem e298 (z : Nat) : ∀ (M : aM) (r : aR), f298 z  M = some r → am_Ev 11 298 0 [some (.inr (.inr (11, 205))), none, none] [] M r := by
  intro  M r h
  exact am_Ev_seg (sem := am_s298_ z) (cut := ([(14, [true, true, true])] : List (Nat × List Bool))) (hs298 z) am_r298 am_k298 (by rw [am_l298]; decide) (fun pc al st M => (match Nat.beq pc 14 with
      | true => (match al, st with
        | [some (.inr (.inr (11, 205))), some (.inl x1), some (.inl x2)], [] => f298_14 z z x1 x2 M
        | _, _ => none)
      | false => none)) 9 h (fun pc al st M hk => by
      try dsimp only at hk
      split at hk
      · rename_i he
        rw [am_beq he]
        split at hk
        · exact e298_14 z _ _ _ _ _ hk
        · cases hk
      · cases hk)
def F298 (z : Nat) (as : List aV) (M : aM) : Option aR := match as with
  | [.inr (.inr (11, 205))] => f298 z  M
  | _ => none
theorem S298 (z : Nat) : am_Snd 11 298 (F298 z) := am_meth (by decide +kernel) (fun as M r has h => by
    rw [am_l298]
    unfold F298 at h
    split at h
    · exact ⟨Nat.le_of_ble_eq_true rfl, e298 z _ _ h⟩
    · cases h)
def cd299_0 : List am_E := [(0, .aload_n 0, 1, 0, 0, 0, 0), (1, .iload_n 1, 1, 1, 0, 0, 0), (2, .putfield 265, 3, 11, 17, 0, 0), (5, .aload_n 0, 1, 0, 0, 0, 0), (6, .invokevirtual 332, 3, 224, 11004, 0, 0), (9, .aload_n 0, 1, 0, 0, 0, 0), (10, .invokevirtual 397, 3, 232, 11000, 0, 0), (13, .invokestatic 372, 3, 171, 15, 0, 0), (16, .ireturn, 1, 0, 0, 0, 0)]
def cd299 : List am_E := cd299_0
def am_w299 : List (List (Int32 × Nat) × Nat) := []
set_option maxRecDepth 100000 in
theorem kcd299_0 : cd299_0.all (am_chk am_w299 299) = true := by decide +kernel
theorem am_k299 : cd299.all (am_chk am_w299 299) = true := by
  simp only [cd299, List.all_append, kcd299_0, Bool.and_self]
theorem am_r299 : am_rtc 299 = 0 := by decide +kernel
theorem am_l299 : am_ml 299 = 2 := by decide +kernel
def am_s299_ (z : Nat) : Nat → List aV → aM → Option aR := fun j => (match Nat.beq j 171 with
  | true => F171 z
  | false => (match Nat.beq j 224 with
  | true => F224 z
  | false => (match Nat.beq j 232 with
  | true => F232 z
  | false => (fun _ _ => none))))
theorem hs299 (z : Nat) : ∀ j2 : Nat, ∃ d2 : Nat, d2 + 1 ≤ 10 ∧ am_Snd d2 j2 (am_s299_ z j2) := by
  intro j2
  unfold am_s299_
  split
  · rename_i he
    rw [am_beq he]
    exact ⟨_, by decide, S171 z⟩
  · skip
    split
    · rename_i he
      rw [am_beq he]
      exact ⟨_, by decide, S224 z⟩
    · skip
      split
      · rename_i he
        rw [am_beq he]
        exact ⟨_, by decide, S232 z⟩
      · skip
        exact ⟨0, by decide, am_Snd_no j2⟩
/-- ArgumentMenderModel.worthOf(I)I -/
def f299 (z : Nat) (x1 : Int32) (M : aM) : Option aR :=
  let I1 := am_u M.1 205 17 x1
  am_bv (f224 z (I1, M.2)) fun M2 =>
    am_bi (f232 z M2) fun v4 M3 =>
      am_bi (f171 z v4 M3) fun v6 M5 =>
        some (some (.inl v6), M5)
set_option maxRecDepth 100000 in
set_option maxHeartbeats 4000000 in
theorem e299 (z : Nat) : ∀ (x1 : Int32) (M : aM) (r : aR), f299 z x1 M = some r → am_Ev 10 299 0 [some (.inr (.inr (11, 205))), some (.inl x1)] [] M r := by
  intro x1 M r h
  exact am_Ev_seg (sem := am_s299_ z) (cut := ([] : List (Nat × List Bool))) (hs299 z) am_r299 am_k299 (by rw [am_l299]; decide) (fun _ _ _ _ => none) 10 h (fun _ _ _ _ hk => by cases hk)
def F299 (z : Nat) (as : List aV) (M : aM) : Option aR := match as with
  | [.inr (.inr (11, 205)), .inl x1] => f299 z x1 M
  | _ => none
theorem S299 (z : Nat) : am_Snd 10 299 (F299 z) := am_meth (by decide +kernel) (fun as M r has h => by
    rw [am_l299]
    unfold F299 at h
    split at h
    · exact ⟨Nat.le_of_ble_eq_true rfl, e299 z _ _ _ h⟩
    · cases h)
def cd300_0 : List am_E := [(0, .aload_n 0, 1, 0, 0, 0, 0), (1, .invokevirtual 329, 3, 211, 11004, 0, 0), (4, .aload_n 0, 1, 0, 0, 0, 0), (5, .invokevirtual 107, 3, 175, 11000, 0, 0), (8, .ifCond .eq 29, 3, 37, 0, 0, 0), (11, .iload_n 1, 1, 1, 0, 0, 0), (12, .i2l, 1, 0, 0, 0, 0), (13, .lconst 0, 1, 0, 0, 0, 0), (14, .iconst 1, 1, 0, 0, 1, 0), (15, .aload_n 0, 1, 0, 0, 0, 0), (16, .invokevirtual 118, 3, 178, 11000, 0, 0), (19, .ishl, 1, 0, 0, 0, 0), (20, .iconst 1, 1, 0, 0, 1, 0), (21, .isub, 1, 0, 0, 0, 0), (22, .i2l, 1, 0, 0, 0, 0), (23, .invokestatic 103, 3, 170, 35, 0, 0), (26, .ifCond .eq 11, 3, 37, 0, 0, 0), (29, .aload_n 0, 1, 0, 0, 0, 0), (30, .iload_n 1, 1, 1, 0, 0, 0), (31, .invokevirtual 450, 3, 299, 11010, 0, 0), (34, .goto 5, 3, 39, 0, 0, 0), (37, .bipush (-2), 2, 0, 0, (-2), 0), (39, .ireturn, 1, 0, 0, 0, 0)]
def cd300 : List am_E := cd300_0
def am_w300 : List (List (Int32 × Nat) × Nat) := []
set_option maxRecDepth 100000 in
theorem kcd300_0 : cd300_0.all (am_chk am_w300 300) = true := by decide +kernel
theorem am_k300 : cd300.all (am_chk am_w300 300) = true := by
  simp only [cd300, List.all_append, kcd300_0, Bool.and_self]
theorem am_r300 : am_rtc 300 = 0 := by decide +kernel
theorem am_l300 : am_ml 300 = 2 := by decide +kernel
def am_s300_ (z : Nat) : Nat → List aV → aM → Option aR := fun j => (match Nat.beq j 170 with
  | true => F170 z
  | false => (match Nat.beq j 175 with
  | true => F175 z
  | false => (match Nat.beq j 178 with
  | true => F178 z
  | false => (match Nat.beq j 211 with
  | true => F211 z
  | false => (match Nat.beq j 299 with
  | true => F299 z
  | false => (fun _ _ => none))))))
theorem hs300 (z : Nat) : ∀ j2 : Nat, ∃ d2 : Nat, d2 + 1 ≤ 11 ∧ am_Snd d2 j2 (am_s300_ z j2) := by
  intro j2
  unfold am_s300_
  split
  · rename_i he
    rw [am_beq he]
    exact ⟨_, by decide, S170 z⟩
  · skip
    split
    · rename_i he
      rw [am_beq he]
      exact ⟨_, by decide, S175 z⟩
    · skip
      split
      · rename_i he
        rw [am_beq he]
        exact ⟨_, by decide, S178 z⟩
      · skip
        split
        · rename_i he
          rw [am_beq he]
          exact ⟨_, by decide, S211 z⟩
        · skip
          split
          · rename_i he
            rw [am_beq he]
            exact ⟨_, by decide, S299 z⟩
          · skip
            exact ⟨0, by decide, am_Snd_no j2⟩
/-- ArgumentMenderModel.worth(I)I -/
def f300 (z : Nat) (x1 : Int32) (M : aM) : Option aR :=
  am_bv (f211 z M) fun M1 =>
    am_bi (f175 z M1) fun v3 M2 =>
      if v3 = 0 then
        some (some (.inl (-2 : Int32)), M2)
      else
        am_bi (f178 z M2) fun v5 M4 =>
          am_bi (f170 z (Int32.toInt64 x1) (0 : Int64) (Int32.toInt64 (((1 : Int32) <<< (v5 &&& 31)) - (1 : Int32))) M4) fun v7 M6 =>
            if v7 = 0 then
              some (some (.inl (-2 : Int32)), M6)
            else
              am_bi (f299 z x1 M6) fun v9 M8 =>
                some (some (.inl v9), M8)
set_option maxRecDepth 100000 in
set_option maxHeartbeats 4000000 in
theorem e300 (z : Nat) : ∀ (x1 : Int32) (M : aM) (r : aR), f300 z x1 M = some r → am_Ev 11 300 0 [some (.inr (.inr (11, 205))), some (.inl x1)] [] M r := by
  intro x1 M r h
  exact am_Ev_seg (sem := am_s300_ z) (cut := ([] : List (Nat × List Bool))) (hs300 z) am_r300 am_k300 (by rw [am_l300]; decide) (fun _ _ _ _ => none) 23 h (fun _ _ _ _ hk => by cases hk)
def F300 (z : Nat) (as : List aV) (M : aM) : Option aR := match as with
  | [.inr (.inr (11, 205)), .inl x1] => f300 z x1 M
  | _ => none
theorem S300 (z : Nat) : am_Snd 11 300 (F300 z) := am_meth (by decide +kernel) (fun as M r has h => by
    rw [am_l300]
    unfold F300 at h
    split at h
    · exact ⟨Nat.le_of_ble_eq_true rfl, e300 z _ _ _ h⟩
    · cases h)
def cd301_0 : List am_E := [(0, .iconst 1, 1, 0, 0, 1, 0), (1, .istore_n 1, 1, 1, 0, 0, 0), (2, .iconst 2, 1, 0, 0, 2, 0), (3, .istore_n 2, 1, 2, 0, 0, 0), (4, .iload_n 2, 1, 2, 0, 0, 0), (5, .iload_n 0, 1, 0, 0, 0, 0), (6, .if_icmp .gt 13, 3, 19, 0, 0, 0), (9, .iload_n 1, 1, 1, 0, 0, 0), (10, .iload_n 2, 1, 2, 0, 0, 0), (11, .imul, 1, 0, 0, 0, 0), (12, .istore_n 1, 1, 1, 0, 0, 0), (13, .iinc 2 1, 3, 2, 0, 1, 0), (16, .goto (-12), 3, 4, 0, 0, 0), (19, .iload_n 1, 1, 1, 0, 0, 0), (20, .ireturn, 1, 0, 0, 0, 0)]
def cd301 : List am_E := cd301_0
def am_w301 : List (List (Int32 × Nat) × Nat) := []
set_option maxRecDepth 100000 in
theorem kcd301_0 : cd301_0.all (am_chk am_w301 301) = true := by decide +kernel
theorem am_k301 : cd301.all (am_chk am_w301 301) = true := by
  simp only [cd301, List.all_append, kcd301_0, Bool.and_self]
theorem am_r301 : am_rtc 301 = 0 := by decide +kernel
theorem am_l301 : am_ml 301 = 3 := by decide +kernel
def am_s301_ (z : Nat) : Nat → List aV → aM → Option aR := fun j => (fun _ _ => none)
theorem hs301 (z : Nat) : ∀ j2 : Nat, ∃ d2 : Nat, d2 + 1 ≤ 1 ∧ am_Snd d2 j2 (am_s301_ z j2) := by
  intro j2
  unfold am_s301_
  exact ⟨0, by decide, am_Snd_no j2⟩
def f301_4 (z : Nat) : Nat → Int32 → Int32 → Int32 → aM → Option aR
  | 0, _, _, _, _ => none
  | n + 1, x0, x1, x2, M =>
    if x0 < x2 then
      some (some (.inl x1), M)
    else
      f301_4 z n x0 (x1 * x2) (x2 + (1 : Int32)) M
set_option maxRecDepth 100000 in
set_option maxHeartbeats 4000000 in
theorem e301_4 (z : Nat) : ∀ (n : Nat) (x0 : Int32) (x1 : Int32) (x2 : Int32) (M : aM) (r : aR), f301_4 z n x0 x1 x2 M = some r → am_Ev 1 301 4 [some (.inl x0), some (.inl x1), some (.inl x2)] [] M r := by
  intro n
  induction n with
  | zero =>
    intro x0 x1 x2 M r h
    cases h
  | succ n ih =>
    intro x0 x1 x2 M r h
    exact am_Ev_seg (sem := am_s301_ z) (cut := ([(4, [true, true, true])] : List (Nat × List Bool))) (hs301 z) am_r301 am_k301 (by rw [am_l301]; decide) (fun pc al st M => (match Nat.beq pc 4 with
      | true => (match al, st with
        | [some (.inl x0), some (.inl x1), some (.inl x2)], [] => f301_4 z n x0 x1 x2 M
        | _, _ => none)
      | false => none)) 11 h (fun pc al st M hk => by
      try dsimp only at hk
      split at hk
      · rename_i he
        rw [am_beq he]
        split at hk
        · exact ih _ _ _ _ _ hk
        · cases hk
      · cases hk)
/-- ArgumentMenderModel.factorial(I)I -/
def f301 (z : Nat) (x0 : Int32) (M : aM) : Option aR :=
  f301_4 z z x0 (1 : Int32) (2 : Int32) M
set_option maxRecDepth 100000 in
set_option maxHeartbeats 4000000 in
theorem e301 (z : Nat) : ∀ (x0 : Int32) (M : aM) (r : aR), f301 z x0 M = some r → am_Ev 1 301 0 [some (.inl x0), none, none] [] M r := by
  intro x0 M r h
  exact am_Ev_seg (sem := am_s301_ z) (cut := ([(4, [true, true, true])] : List (Nat × List Bool))) (hs301 z) am_r301 am_k301 (by rw [am_l301]; decide) (fun pc al st M => (match Nat.beq pc 4 with
      | true => (match al, st with
        | [some (.inl x0), some (.inl x1), some (.inl x2)], [] => f301_4 z z x0 x1 x2 M
        | _, _ => none)
      | false => none)) 6 h (fun pc al st M hk => by
      try dsimp only at hk
      split at hk
      · rename_i he
        rw [am_beq he]
        split at hk
        · exact e301_4 z _ _ _ _ _ _ hk
        · cases hk
      · cases hk)
def F301 (z : Nat) (as : List aV) (M : aM) : Option aR := match as with
  | [.inl x0] => f301 z x0 M
  | _ => none
theorem S301 (z : Nat) : am_Snd 1 301 (F301 z) := am_meth (by decide +kernel) (fun as M r has h => by
    rw [am_l301]
    unfold F301 at h
    split at h
    · exact ⟨Nat.le_of_ble_eq_true rfl, e301 z _ _ _ h⟩
    · cases h)
def cd302_0 : List am_E := [(0, .lload_n 0, 1, 0, 0, 0, 0), (1, .invokestatic 453, 3, 0, 4, 0, 0), (4, .lstore 4, 2, 4, 0, 0, 0), (6, .lload_n 2, 1, 2, 0, 0, 0), (7, .lstore 6, 2, 6, 0, 0, 0), (9, .lload 6, 2, 6, 0, 0, 0), (11, .lconst 0, 1, 0, 0, 0, 0), (12, .lcmp, 1, 0, 0, 0, 0), (13, .ifCond .eq 21, 3, 34, 0, 0, 0), (16, .lload 4, 2, 4, 0, 0, 0), (18, .lload 6, 2, 6, 0, 0, 0), (20, .lrem, 1, 0, 0, 0, 0), (21, .lstore 8, 2, 8, 0, 0, 0), (23, .lload 6, 2, 6, 0, 0, 0), (25, .lstore 4, 2, 4, 0, 0, 0), (27, .lload 8, 2, 8, 0, 0, 0), (29, .lstore 6, 2, 6, 0, 0, 0), (31, .goto (-22), 3, 9, 0, 0, 0), (34, .lload 4, 2, 4, 0, 0, 0), (36, .lreturn, 1, 0, 0, 0, 0)]
def cd302 : List am_E := cd302_0
def am_w302 : List (List (Int32 × Nat) × Nat) := []
set_option maxRecDepth 100000 in
theorem kcd302_0 : cd302_0.all (am_chk am_w302 302) = true := by decide +kernel
theorem am_k302 : cd302.all (am_chk am_w302 302) = true := by
  simp only [cd302, List.all_append, kcd302_0, Bool.and_self]
theorem am_r302 : am_rtc 302 = 2 := by decide +kernel
theorem am_l302 : am_ml 302 = 10 := by decide +kernel
def am_s302_ (z : Nat) : Nat → List aV → aM → Option aR := fun j => (fun _ _ => none)
theorem hs302 (z : Nat) : ∀ j2 : Nat, ∃ d2 : Nat, d2 + 1 ≤ 1 ∧ am_Snd d2 j2 (am_s302_ z j2) := by
  intro j2
  unfold am_s302_
  exact ⟨0, by decide, am_Snd_no j2⟩
def f302_9 (z : Nat) : Nat → Int64 → Int64 → aM → Option aR
  | 0, _, _, _ => none
  | n + 1, y4, y6, M =>
    if (lg_cmp y6 (0 : Int64)) = 0 then
      some (some (.inr (.inl y4)), M)
    else
      if y6 = 0 then
        none
      else
        f302_9 z n y6 (y4 - y4 / y6 * y6) M
set_option maxRecDepth 100000 in
set_option maxHeartbeats 4000000 in
theorem e302_9 (z : Nat) : ∀ (n : Nat) (y4 : Int64) (y6 : Int64) (M : aM) (r : aR), f302_9 z n y4 y6 M = some r → am_Ev 1 302 9 [none, none, none, none, some (.inr (.inl y4)), none, some (.inr (.inl y6)), none, none, none] [] M r := by
  intro n
  induction n with
  | zero =>
    intro y4 y6 M r h
    cases h
  | succ n ih =>
    intro y4 y6 M r h
    exact am_Ev_seg (sem := am_s302_ z) (cut := ([(9, [false, false, false, false, true, false, true, false, false, false])] : List (Nat × List Bool))) (hs302 z) am_r302 am_k302 (by rw [am_l302]; decide) (fun pc al st M => (match Nat.beq pc 9 with
      | true => (match al, st with
        | [none, none, none, none, some (.inr (.inl y4)), none, some (.inr (.inl y6)), none, none, none], [] => f302_9 z n y4 y6 M
        | _, _ => none)
      | false => none)) 15 h (fun pc al st M hk => by
      try dsimp only at hk
      split at hk
      · rename_i he
        rw [am_beq he]
        split at hk
        · exact ih _ _ _ _ hk
        · cases hk
      · cases hk)
/-- ArgumentMenderModel.divisor(JJ)J -/
def f302 (z : Nat) (y0 : Int64) (y2 : Int64) (M : aM) : Option aR :=
  f302_9 z z (if 0 < y0 then y0 else -y0) y2 M
set_option maxRecDepth 100000 in
set_option maxHeartbeats 4000000 in
theorem e302 (z : Nat) : ∀ (y0 : Int64) (y2 : Int64) (M : aM) (r : aR), f302 z y0 y2 M = some r → am_Ev 1 302 0 [some (.inr (.inl y0)), none, some (.inr (.inl y2)), none, none, none, none, none, none, none] [] M r := by
  intro y0 y2 M r h
  exact am_Ev_seg (sem := am_s302_ z) (cut := ([(9, [false, false, false, false, true, false, true, false, false, false])] : List (Nat × List Bool))) (hs302 z) am_r302 am_k302 (by rw [am_l302]; decide) (fun pc al st M => (match Nat.beq pc 9 with
      | true => (match al, st with
        | [none, none, none, none, some (.inr (.inl y4)), none, some (.inr (.inl y6)), none, none, none], [] => f302_9 z z y4 y6 M
        | _, _ => none)
      | false => none)) 7 h (fun pc al st M hk => by
      try dsimp only at hk
      split at hk
      · rename_i he
        rw [am_beq he]
        split at hk
        · exact e302_9 z _ _ _ _ _ hk
        · cases hk
      · cases hk)
def F302 (z : Nat) (as : List aV) (M : aM) : Option aR := match as with
  | [.inr (.inl y0), .inr (.inl y2)] => f302 z y0 y2 M
  | _ => none
theorem S302 (z : Nat) : am_Snd 1 302 (F302 z) := am_meth (by decide +kernel) (fun as M r has h => by
    rw [am_l302]
    unfold F302 at h
    split at h
    · exact ⟨Nat.le_of_ble_eq_true rfl, e302 z _ _ _ _ h⟩
    · cases h)
