def cd130_0 : List am_E := [(0, .aload_n 0, 1, 0, 0, 0, 0), (1, .getfield 19, 3, 10, 1, 0, 0), (4, .invokevirtual 176, 3, 7, 1000, 0, 0), (7, .ifCond .ne 6, 3, 13, 0, 0, 0), (10, .bipush (-2), 2, 0, 0, (-2), 0), (12, .ireturn, 1, 0, 0, 0, 0), (13, .iconst (-1), 1, 0, 0, (-1), 0), (14, .istore_n 1, 1, 1, 0, 0, 0), (15, .aload_n 0, 1, 0, 0, 0, 0), (16, .invokevirtual 253, 3, 128, 10000, 0, 0), (19, .istore_n 2, 1, 2, 0, 0, 0), (20, .iconst 0, 1, 0, 0, 0, 0), (21, .istore_n 3, 1, 3, 0, 0, 0), (22, .iload_n 3, 1, 3, 0, 0, 0), (23, .aload_n 0, 1, 0, 0, 0, 0), (24, .getfield 19, 3, 10, 1, 0, 0), (27, .getfield 141, 3, 1, 5, 0, 0), (30, .if_icmp .ge 36, 3, 66, 0, 0, 0), (33, .aload_n 0, 1, 0, 0, 0, 0), (34, .getfield 40, 3, 10, 4, 0, 0), (37, .aload_n 0, 1, 0, 0, 0, 0), (38, .getfield 19, 3, 10, 1, 0, 0), (41, .iconst 1, 1, 0, 0, 1, 0), (42, .iload_n 3, 1, 3, 0, 0, 0), (43, .ishl, 1, 0, 0, 0, 0), (44, .invokevirtual 263, 3, 49, 6020, 0, 0), (47, .istore 4, 2, 4, 0, 0, 0), (49, .iload 4, 2, 4, 0, 0, 0), (51, .iload_n 2, 1, 2, 0, 0, 0), (52, .if_icmp .ge 8, 3, 60, 0, 0, 0), (55, .iload 4, 2, 4, 0, 0, 0), (57, .istore_n 2, 1, 2, 0, 0, 0), (58, .iload_n 3, 1, 3, 0, 0, 0), (59, .istore_n 1, 1, 1, 0, 0, 0), (60, .iinc 3 1, 3, 3, 0, 1, 0), (63, .goto (-41), 3, 22, 0, 0, 0), (66, .iload_n 1, 1, 1, 0, 0, 0), (67, .ireturn, 1, 0, 0, 0, 0)]
def cd130 : List am_E := cd130_0
def am_w130 : List (List (Int32 × Nat) × Nat) := []
set_option maxRecDepth 100000 in
theorem kcd130_0 : cd130_0.all (am_chk am_w130 130) = true := by decide +kernel
theorem am_k130 : cd130.all (am_chk am_w130 130) = true := by
  simp only [cd130, List.all_append, kcd130_0, Bool.and_self]
theorem am_r130 : am_rtc 130 = 0 := by decide +kernel
theorem am_l130 : am_ml 130 = 5 := by decide +kernel
def am_s130_ (z : Nat) : Nat → List aV → aM → Option aR := fun j => (match Nat.beq j 7 with
  | true => F7 z
  | false => (match Nat.beq j 49 with
  | true => F49 z
  | false => (match Nat.beq j 128 with
  | true => F128 z
  | false => (fun _ _ => none))))
theorem hs130 (z : Nat) : ∀ j2 : Nat, ∃ d2 : Nat, d2 + 1 ≤ 6 ∧ am_Snd d2 j2 (am_s130_ z j2) := by
  intro j2
  unfold am_s130_
  split
  · rename_i he
    rw [am_beq he]
    exact ⟨_, by decide, S7 z⟩
  · skip
    split
    · rename_i he
      rw [am_beq he]
      exact ⟨_, by decide, S49 z⟩
    · skip
      split
      · rename_i he
        rw [am_beq he]
        exact ⟨_, by decide, S128 z⟩
      · skip
        exact ⟨0, by decide, am_Snd_no j2⟩
def f130_22 (z : Nat) : Nat → Int32 → Int32 → Int32 → aM → Option aR
  | 0, _, _, _, _ => none
  | n + 1, x1, x2, x3, M =>
    if (M.1 18 5) ≤ x3 then
      some (some (.inl x1), M)
    else
      am_bi (f49 z 18 ((1 : Int32) <<< (x3 &&& 31)) M) fun v2 M1 =>
        if x2 ≤ v2 then
          f130_22 z n x1 x2 (x3 + (1 : Int32)) M1
        else
          f130_22 z n x3 v2 (x3 + (1 : Int32)) M1
set_option maxRecDepth 100000 in
set_option maxHeartbeats 4000000 in
theorem e130_22 (z : Nat) : ∀ (n : Nat) (x1 : Int32) (x2 : Int32) (x3 : Int32) (M : aM) (r : aR), f130_22 z n x1 x2 x3 M = some r → am_Ev 6 130 22 [some (.inr (.inr (10, 0))), some (.inl x1), some (.inl x2), some (.inl x3), none] [] M r := by
  intro n
  induction n with
  | zero =>
    intro x1 x2 x3 M r h
    cases h
  | succ n ih =>
    intro x1 x2 x3 M r h
    exact am_Ev_seg (sem := am_s130_ z) (cut := ([(22, [true, true, true, true, false])] : List (Nat × List Bool))) (hs130 z) am_r130 am_k130 (by rw [am_l130]; decide) (fun pc al st M => (match Nat.beq pc 22 with
      | true => (match al, st with
        | [some (.inr (.inr (10, 0))), some (.inl x1), some (.inl x2), some (.inl x3), none], [] => f130_22 z n x1 x2 x3 M
        | _, _ => none)
      | false => none)) 25 h (fun pc al st M hk => by
      try dsimp only at hk
      split at hk
      · rename_i he
        rw [am_beq he]
        split at hk
        · exact ih _ _ _ _ _ hk
        · cases hk
      · cases hk)
/-- ArgumentMender.dear()I -/
def f130 (z : Nat) (M : aM) : Option aR :=
  am_bi (f7 z 18 M) fun v2 M1 =>
    if ¬ v2 = 0 then
      am_bi (f128 z M1) fun v4 M3 =>
        f130_22 z z (-1 : Int32) v4 (0 : Int32) M3
    else
      some (some (.inl (-2 : Int32)), M1)
set_option maxRecDepth 100000 in
set_option maxHeartbeats 4000000 in
theorem e130 (z : Nat) : ∀ (M : aM) (r : aR), f130 z  M = some r → am_Ev 6 130 0 [some (.inr (.inr (10, 0))), none, none, none, none] [] M r := by
  intro  M r h
  exact am_Ev_seg (sem := am_s130_ z) (cut := ([(22, [true, true, true, true, false])] : List (Nat × List Bool))) (hs130 z) am_r130 am_k130 (by rw [am_l130]; decide) (fun pc al st M => (match Nat.beq pc 22 with
      | true => (match al, st with
        | [some (.inr (.inr (10, 0))), some (.inl x1), some (.inl x2), some (.inl x3), none], [] => f130_22 z z x1 x2 x3 M
        | _, _ => none)
      | false => none)) 13 h (fun pc al st M hk => by
      try dsimp only at hk
      split at hk
      · rename_i he
        rw [am_beq he]
        split at hk
        · exact e130_22 z _ _ _ _ _ _ hk
        · cases hk
      · cases hk)
def F130 (z : Nat) (as : List aV) (M : aM) : Option aR := match as with
  | [.inr (.inr (10, 0))] => f130 z  M
  | _ => none
theorem S130 (z : Nat) : am_Snd 6 130 (F130 z) := am_meth (by decide +kernel) (fun as M r has h => by
    rw [am_l130]
    unfold F130 at h
    split at h
    · exact ⟨Nat.le_of_ble_eq_true rfl, e130 z _ _ h⟩
    · cases h)
def cd131_0 : List am_E := [(0, .aload_n 0, 1, 0, 0, 0, 0), (1, .getfield 19, 3, 10, 1, 0, 0), (4, .invokevirtual 176, 3, 7, 1000, 0, 0), (7, .ifCond .ne 6, 3, 13, 0, 0, 0), (10, .bipush (-2), 2, 0, 0, (-2), 0), (12, .ireturn, 1, 0, 0, 0, 0), (13, .iconst (-1), 1, 0, 0, (-1), 0), (14, .istore_n 1, 1, 1, 0, 0, 0), (15, .aload_n 0, 1, 0, 0, 0, 0), (16, .invokevirtual 253, 3, 128, 10000, 0, 0), (19, .istore_n 2, 1, 2, 0, 0, 0), (20, .iconst 0, 1, 0, 0, 0, 0), (21, .istore_n 3, 1, 3, 0, 0, 0), (22, .iload_n 3, 1, 3, 0, 0, 0), (23, .aload_n 0, 1, 0, 0, 0, 0), (24, .getfield 19, 3, 10, 1, 0, 0), (27, .getfield 141, 3, 1, 5, 0, 0), (30, .if_icmp .ge 36, 3, 66, 0, 0, 0), (33, .aload_n 0, 1, 0, 0, 0, 0), (34, .getfield 40, 3, 10, 4, 0, 0), (37, .aload_n 0, 1, 0, 0, 0, 0), (38, .getfield 19, 3, 10, 1, 0, 0), (41, .iconst 1, 1, 0, 0, 1, 0), (42, .iload_n 3, 1, 3, 0, 0, 0), (43, .ishl, 1, 0, 0, 0, 0), (44, .invokevirtual 263, 3, 49, 6020, 0, 0), (47, .istore 4, 2, 4, 0, 0, 0), (49, .iload 4, 2, 4, 0, 0, 0), (51, .iload_n 2, 1, 2, 0, 0, 0), (52, .if_icmp .le 8, 3, 60, 0, 0, 0), (55, .iload 4, 2, 4, 0, 0, 0), (57, .istore_n 2, 1, 2, 0, 0, 0), (58, .iload_n 3, 1, 3, 0, 0, 0), (59, .istore_n 1, 1, 1, 0, 0, 0), (60, .iinc 3 1, 3, 3, 0, 1, 0), (63, .goto (-41), 3, 22, 0, 0, 0), (66, .iload_n 1, 1, 1, 0, 0, 0), (67, .ireturn, 1, 0, 0, 0, 0)]
def cd131 : List am_E := cd131_0
def am_w131 : List (List (Int32 × Nat) × Nat) := []
set_option maxRecDepth 100000 in
theorem kcd131_0 : cd131_0.all (am_chk am_w131 131) = true := by decide +kernel
theorem am_k131 : cd131.all (am_chk am_w131 131) = true := by
  simp only [cd131, List.all_append, kcd131_0, Bool.and_self]
theorem am_r131 : am_rtc 131 = 0 := by decide +kernel
theorem am_l131 : am_ml 131 = 5 := by decide +kernel
def am_s131_ (z : Nat) : Nat → List aV → aM → Option aR := fun j => (match Nat.beq j 7 with
  | true => F7 z
  | false => (match Nat.beq j 49 with
  | true => F49 z
  | false => (match Nat.beq j 128 with
  | true => F128 z
  | false => (fun _ _ => none))))
theorem hs131 (z : Nat) : ∀ j2 : Nat, ∃ d2 : Nat, d2 + 1 ≤ 6 ∧ am_Snd d2 j2 (am_s131_ z j2) := by
  intro j2
  unfold am_s131_
  split
  · rename_i he
    rw [am_beq he]
    exact ⟨_, by decide, S7 z⟩
  · skip
    split
    · rename_i he
      rw [am_beq he]
      exact ⟨_, by decide, S49 z⟩
    · skip
      split
      · rename_i he
        rw [am_beq he]
        exact ⟨_, by decide, S128 z⟩
      · skip
        exact ⟨0, by decide, am_Snd_no j2⟩
def f131_22 (z : Nat) : Nat → Int32 → Int32 → Int32 → aM → Option aR
  | 0, _, _, _, _ => none
  | n + 1, x1, x2, x3, M =>
    if (M.1 18 5) ≤ x3 then
      some (some (.inl x1), M)
    else
      am_bi (f49 z 18 ((1 : Int32) <<< (x3 &&& 31)) M) fun v2 M1 =>
        if v2 ≤ x2 then
          f131_22 z n x1 x2 (x3 + (1 : Int32)) M1
        else
          f131_22 z n x3 v2 (x3 + (1 : Int32)) M1
set_option maxRecDepth 100000 in
set_option maxHeartbeats 4000000 in
theorem e131_22 (z : Nat) : ∀ (n : Nat) (x1 : Int32) (x2 : Int32) (x3 : Int32) (M : aM) (r : aR), f131_22 z n x1 x2 x3 M = some r → am_Ev 6 131 22 [some (.inr (.inr (10, 0))), some (.inl x1), some (.inl x2), some (.inl x3), none] [] M r := by
  intro n
  induction n with
  | zero =>
    intro x1 x2 x3 M r h
    cases h
  | succ n ih =>
    intro x1 x2 x3 M r h
    exact am_Ev_seg (sem := am_s131_ z) (cut := ([(22, [true, true, true, true, false])] : List (Nat × List Bool))) (hs131 z) am_r131 am_k131 (by rw [am_l131]; decide) (fun pc al st M => (match Nat.beq pc 22 with
      | true => (match al, st with
        | [some (.inr (.inr (10, 0))), some (.inl x1), some (.inl x2), some (.inl x3), none], [] => f131_22 z n x1 x2 x3 M
        | _, _ => none)
      | false => none)) 25 h (fun pc al st M hk => by
      try dsimp only at hk
      split at hk
      · rename_i he
        rw [am_beq he]
        split at hk
        · exact ih _ _ _ _ _ hk
        · cases hk
      · cases hk)
/-- ArgumentMender.worse()I -/
def f131 (z : Nat) (M : aM) : Option aR :=
  am_bi (f7 z 18 M) fun v2 M1 =>
    if ¬ v2 = 0 then
      am_bi (f128 z M1) fun v4 M3 =>
        f131_22 z z (-1 : Int32) v4 (0 : Int32) M3
    else
      some (some (.inl (-2 : Int32)), M1)
set_option maxRecDepth 100000 in
set_option maxHeartbeats 4000000 in
theorem e131 (z : Nat) : ∀ (M : aM) (r : aR), f131 z  M = some r → am_Ev 6 131 0 [some (.inr (.inr (10, 0))), none, none, none, none] [] M r := by
  intro  M r h
  exact am_Ev_seg (sem := am_s131_ z) (cut := ([(22, [true, true, true, true, false])] : List (Nat × List Bool))) (hs131 z) am_r131 am_k131 (by rw [am_l131]; decide) (fun pc al st M => (match Nat.beq pc 22 with
      | true => (match al, st with
        | [some (.inr (.inr (10, 0))), some (.inl x1), some (.inl x2), some (.inl x3), none], [] => f131_22 z z x1 x2 x3 M
        | _, _ => none)
      | false => none)) 13 h (fun pc al st M hk => by
      try dsimp only at hk
      split at hk
      · rename_i he
        rw [am_beq he]
        split at hk
        · exact e131_22 z _ _ _ _ _ _ hk
        · cases hk
      · cases hk)
def F131 (z : Nat) (as : List aV) (M : aM) : Option aR := match as with
  | [.inr (.inr (10, 0))] => f131 z  M
  | _ => none
theorem S131 (z : Nat) : am_Snd 6 131 (F131 z) := am_meth (by decide +kernel) (fun as M r has h => by
    rw [am_l131]
    unfold F131 at h
    split at h
    · exact ⟨Nat.le_of_ble_eq_true rfl, e131 z _ _ h⟩
    · cases h)
def cd164_0 : List am_E := [(0, .iload_n 0, 1, 0, 0, 0, 0), (1, .iconst 0, 1, 0, 0, 0, 0), (2, .iconst 3, 1, 0, 0, 3, 0), (3, .invokestatic 215, 3, 165, 35, 0, 0), (6, .ireturn, 1, 0, 0, 0, 0)]
def cd164 : List am_E := cd164_0
def am_w164 : List (List (Int32 × Nat) × Nat) := []
set_option maxRecDepth 100000 in
theorem kcd164_0 : cd164_0.all (am_chk am_w164 164) = true := by decide +kernel
theorem am_k164 : cd164.all (am_chk am_w164 164) = true := by
  simp only [cd164, List.all_append, kcd164_0, Bool.and_self]
theorem am_r164 : am_rtc 164 = 1 := by decide +kernel
theorem am_l164 : am_ml 164 = 1 := by decide +kernel
def am_s164_ (z : Nat) : Nat → List aV → aM → Option aR := fun j => (match Nat.beq j 165 with
  | true => F165 z
  | false => (fun _ _ => none))
theorem hs164 (z : Nat) : ∀ j2 : Nat, ∃ d2 : Nat, d2 + 1 ≤ 2 ∧ am_Snd d2 j2 (am_s164_ z j2) := by
  intro j2
  unfold am_s164_
  split
  · rename_i he
    rw [am_beq he]
    exact ⟨_, by decide, S165 z⟩
  · skip
    exact ⟨0, by decide, am_Snd_no j2⟩
/-- ArgumentMender.hasSlot(I)Z -/
def f164 (z : Nat) (x0 : Int32) (M : aM) : Option aR :=
  am_bi (f165 z x0 (0 : Int32) (3 : Int32) M) fun v2 M1 =>
    some (some (.inl (v2 &&& 1)), M1)
set_option maxRecDepth 100000 in
set_option maxHeartbeats 4000000 in
theorem e164 (z : Nat) : ∀ (x0 : Int32) (M : aM) (r : aR), f164 z x0 M = some r → am_Ev 2 164 0 [some (.inl x0)] [] M r := by
  intro x0 M r h
  exact am_Ev_seg (sem := am_s164_ z) (cut := ([] : List (Nat × List Bool))) (hs164 z) am_r164 am_k164 (by rw [am_l164]; decide) (fun _ _ _ _ => none) 6 h (fun _ _ _ _ hk => by cases hk)
def F164 (z : Nat) (as : List aV) (M : aM) : Option aR := match as with
  | [.inl x0] => f164 z x0 M
  | _ => none
theorem S164 (z : Nat) : am_Snd 2 164 (F164 z) := am_meth (by decide +kernel) (fun as M r has h => by
    rw [am_l164]
    unfold F164 at h
    split at h
    · exact ⟨Nat.le_of_ble_eq_true rfl, e164 z _ _ _ h⟩
    · cases h)
def cd132_0 : List am_E := [(0, .iload_n 1, 1, 1, 0, 0, 0), (1, .invokestatic 266, 3, 164, 15, 0, 0), (4, .ifCond .eq 14, 3, 18, 0, 0, 0), (7, .aload_n 0, 1, 0, 0, 0, 0), (8, .getfield 19, 3, 10, 1, 0, 0), (11, .iload_n 2, 1, 2, 0, 0, 0), (12, .invokevirtual 112, 3, 9, 1010, 0, 0), (15, .ifCond .ne 6, 3, 21, 0, 0, 0), (18, .bipush (-2), 2, 0, 0, (-2), 0), (20, .ireturn, 1, 0, 0, 0, 0), (21, .aload_n 0, 1, 0, 0, 0, 0), (22, .getfield 53, 3, 10, 6, 0, 0), (25, .iload_n 1, 1, 1, 0, 0, 0), (26, .aaload, 1, 0, 0, 0, 0), (27, .invokevirtual 269, 3, 34, 4000, 0, 0), (30, .ifCond .ne 6, 3, 36, 0, 0, 0), (33, .bipush (-6), 2, 0, 0, (-6), 0), (35, .ireturn, 1, 0, 0, 0, 0), (36, .aload_n 0, 1, 0, 0, 0, 0), (37, .getfield 47, 3, 10, 5, 0, 0), (40, .aload_n 0, 1, 0, 0, 0, 0), (41, .getfield 19, 3, 10, 1, 0, 0), (44, .aload_n 0, 1, 0, 0, 0, 0), (45, .getfield 53, 3, 10, 6, 0, 0), (48, .iload_n 1, 1, 1, 0, 0, 0), (49, .aaload, 1, 0, 0, 0, 0), (50, .invokevirtual 270, 3, 28, 3020, 0, 0), (53, .ifCond .ne 6, 3, 59, 0, 0, 0), (56, .bipush (-2), 2, 0, 0, (-2), 0), (58, .ireturn, 1, 0, 0, 0, 0), (59, .aload_n 0, 1, 0, 0, 0, 0), (60, .getfield 47, 3, 10, 5, 0, 0), (63, .aload_n 0, 1, 0, 0, 0, 0), (64, .getfield 19, 3, 10, 1, 0, 0), (67, .aload_n 0, 1, 0, 0, 0, 0), (68, .getfield 53, 3, 10, 6, 0, 0), (71, .iload_n 1, 1, 1, 0, 0, 0), (72, .aaload, 1, 0, 0, 0, 0), (73, .iload_n 2, 1, 2, 0, 0, 0), (74, .invokevirtual 274, 3, 30, 3034, 0, 0)]
def cd132_1 : List am_E := [(77, .iconst 0, 1, 0, 0, 0, 0), (78, .ireturn, 1, 0, 0, 0, 0)]
def cd132 : List am_E := cd132_0 ++ (cd132_1)
def am_w132 : List (List (Int32 × Nat) × Nat) := []
set_option maxRecDepth 100000 in
theorem kcd132_0 : cd132_0.all (am_chk am_w132 132) = true := by decide +kernel
set_option maxRecDepth 100000 in
theorem kcd132_1 : cd132_1.all (am_chk am_w132 132) = true := by decide +kernel
theorem am_k132 : cd132.all (am_chk am_w132 132) = true := by
  simp only [cd132, List.all_append, kcd132_0, kcd132_1, Bool.and_self]
theorem am_r132 : am_rtc 132 = 0 := by decide +kernel
theorem am_l132 : am_ml 132 = 3 := by decide +kernel
def am_s132_ (z : Nat) : Nat → List aV → aM → Option aR := fun j => (match Nat.beq j 9 with
  | true => F9 z
  | false => (match Nat.beq j 28 with
  | true => F28 z
  | false => (match Nat.beq j 30 with
  | true => F30 z
  | false => (match Nat.beq j 34 with
  | true => F34 z
  | false => (match Nat.beq j 164 with
  | true => F164 z
  | false => (fun _ _ => none))))))
theorem hs132 (z : Nat) : ∀ j2 : Nat, ∃ d2 : Nat, d2 + 1 ≤ 6 ∧ am_Snd d2 j2 (am_s132_ z j2) := by
  intro j2
  unfold am_s132_
  split
  · rename_i he
    rw [am_beq he]
    exact ⟨_, by decide, S9 z⟩
  · skip
    split
    · rename_i he
      rw [am_beq he]
      exact ⟨_, by decide, S28 z⟩
    · skip
      split
      · rename_i he
        rw [am_beq he]
        exact ⟨_, by decide, S30 z⟩
      · skip
        split
        · rename_i he
          rw [am_beq he]
          exact ⟨_, by decide, S34 z⟩
        · skip
          split
          · rename_i he
            rw [am_beq he]
            exact ⟨_, by decide, S164 z⟩
          · skip
            exact ⟨0, by decide, am_Snd_no j2⟩
/-- ArgumentMender.look(II)I -/
def f132 (z : Nat) (x1 : Int32) (x2 : Int32) (M : aM) : Option aR :=
  am_bi (f164 z x1 M) fun v2 M1 =>
    if v2 = 0 then
      some (some (.inl (-2 : Int32)), M1)
    else
      am_bi (f9 z 18 x2 M1) fun v4 M3 =>
        if ¬ v4 = 0 then
          if am_inB x1 4 then
            am_bi (f34 z (152 + (3 + 2 * x1.toNatClampNeg)) M3) fun v6 M5 =>
              if ¬ v6 = 0 then
                if am_inB x1 4 then
                  am_bi (f28 z 18 (152 + (3 + 2 * x1.toNatClampNeg)) M5) fun v8 M7 =>
                    if ¬ v8 = 0 then
                      if am_inB x1 4 then
                        am_bv (f30 z 18 (152 + (3 + 2 * x1.toNatClampNeg)) x2 M7) fun M9 =>
                          some (some (.inl (0 : Int32)), M9)
                      else
                        none
                    else
                      some (some (.inl (-2 : Int32)), M7)
                else
                  none
              else
                some (some (.inl (-6 : Int32)), M5)
          else
            none
        else
          some (some (.inl (-2 : Int32)), M3)
set_option maxRecDepth 100000 in
set_option maxHeartbeats 4000000 in
theorem e132 (z : Nat) : ∀ (x1 : Int32) (x2 : Int32) (M : aM) (r : aR), f132 z x1 x2 M = some r → am_Ev 6 132 0 [some (.inr (.inr (10, 0))), some (.inl x1), some (.inl x2)] [] M r := by
  intro x1 x2 M r h
  exact am_Ev_seg (sem := am_s132_ z) (cut := ([] : List (Nat × List Bool))) (hs132 z) am_r132 am_k132 (by rw [am_l132]; decide) (fun _ _ _ _ => none) 37 h (fun _ _ _ _ hk => by cases hk)
def F132 (z : Nat) (as : List aV) (M : aM) : Option aR := match as with
  | [.inr (.inr (10, 0)), .inl x1, .inl x2] => f132 z x1 x2 M
  | _ => none
theorem S132 (z : Nat) : am_Snd 6 132 (F132 z) := am_meth (by decide +kernel) (fun as M r has h => by
    rw [am_l132]
    unfold F132 at h
    split at h
    · exact ⟨Nat.le_of_ble_eq_true rfl, e132 z _ _ _ _ h⟩
    · cases h)
def cd133_0 : List am_E := [(0, .aload_n 0, 1, 0, 0, 0, 0), (1, .iload_n 1, 1, 1, 0, 0, 0), (2, .iload_n 2, 1, 2, 0, 0, 0), (3, .invokevirtual 278, 3, 132, 10020, 0, 0), (6, .istore_n 3, 1, 3, 0, 0, 0), (7, .iload_n 3, 1, 3, 0, 0, 0), (8, .ifCond .eq 7, 3, 15, 0, 0, 0), (11, .iload_n 3, 1, 3, 0, 0, 0), (12, .goto 10, 3, 22, 0, 0, 0), (15, .aload_n 0, 1, 0, 0, 0, 0), (16, .getfield 47, 3, 10, 5, 0, 0), (19, .getfield 281, 3, 3, 1, 0, 0), (22, .ireturn, 1, 0, 0, 0, 0)]
def cd133 : List am_E := cd133_0
def am_w133 : List (List (Int32 × Nat) × Nat) := []
set_option maxRecDepth 100000 in
theorem kcd133_0 : cd133_0.all (am_chk am_w133 133) = true := by decide +kernel
theorem am_k133 : cd133.all (am_chk am_w133 133) = true := by
  simp only [cd133, List.all_append, kcd133_0, Bool.and_self]
theorem am_r133 : am_rtc 133 = 0 := by decide +kernel
theorem am_l133 : am_ml 133 = 4 := by decide +kernel
def am_s133_ (z : Nat) : Nat → List aV → aM → Option aR := fun j => (match Nat.beq j 132 with
  | true => F132 z
  | false => (fun _ _ => none))
theorem hs133 (z : Nat) : ∀ j2 : Nat, ∃ d2 : Nat, d2 + 1 ≤ 7 ∧ am_Snd d2 j2 (am_s133_ z j2) := by
  intro j2
  unfold am_s133_
  split
  · rename_i he
    rw [am_beq he]
    exact ⟨_, by decide, S132 z⟩
  · skip
    exact ⟨0, by decide, am_Snd_no j2⟩
/-- ArgumentMender.fits(II)I -/
def f133 (z : Nat) (x1 : Int32) (x2 : Int32) (M : aM) : Option aR :=
  am_bi (f132 z x1 x2 M) fun v2 M1 =>
    if v2 = 0 then
      some (some (.inl (M1.1 116 1)), M1)
    else
      some (some (.inl v2), M1)
set_option maxRecDepth 100000 in
set_option maxHeartbeats 4000000 in
theorem e133 (z : Nat) : ∀ (x1 : Int32) (x2 : Int32) (M : aM) (r : aR), f133 z x1 x2 M = some r → am_Ev 7 133 0 [some (.inr (.inr (10, 0))), some (.inl x1), some (.inl x2), none] [] M r := by
  intro x1 x2 M r h
  exact am_Ev_seg (sem := am_s133_ z) (cut := ([] : List (Nat × List Bool))) (hs133 z) am_r133 am_k133 (by rw [am_l133]; decide) (fun _ _ _ _ => none) 12 h (fun _ _ _ _ hk => by cases hk)
def F133 (z : Nat) (as : List aV) (M : aM) : Option aR := match as with
  | [.inr (.inr (10, 0)), .inl x1, .inl x2] => f133 z x1 x2 M
  | _ => none
theorem S133 (z : Nat) : am_Snd 7 133 (F133 z) := am_meth (by decide +kernel) (fun as M r has h => by
    rw [am_l133]
    unfold F133 at h
    split at h
    · exact ⟨Nat.le_of_ble_eq_true rfl, e133 z _ _ _ _ h⟩
    · cases h)
def cd134_0 : List am_E := [(0, .aload_n 0, 1, 0, 0, 0, 0), (1, .iload_n 1, 1, 1, 0, 0, 0), (2, .iload_n 2, 1, 2, 0, 0, 0), (3, .invokevirtual 278, 3, 132, 10020, 0, 0), (6, .istore_n 3, 1, 3, 0, 0, 0), (7, .iload_n 3, 1, 3, 0, 0, 0), (8, .ifCond .eq 7, 3, 15, 0, 0, 0), (11, .iload_n 3, 1, 3, 0, 0, 0), (12, .goto 10, 3, 22, 0, 0, 0), (15, .aload_n 0, 1, 0, 0, 0, 0), (16, .getfield 47, 3, 10, 5, 0, 0), (19, .getfield 284, 3, 3, 2, 0, 0), (22, .ireturn, 1, 0, 0, 0, 0)]
def cd134 : List am_E := cd134_0
def am_w134 : List (List (Int32 × Nat) × Nat) := []
set_option maxRecDepth 100000 in
theorem kcd134_0 : cd134_0.all (am_chk am_w134 134) = true := by decide +kernel
theorem am_k134 : cd134.all (am_chk am_w134 134) = true := by
  simp only [cd134, List.all_append, kcd134_0, Bool.and_self]
theorem am_r134 : am_rtc 134 = 0 := by decide +kernel
theorem am_l134 : am_ml 134 = 4 := by decide +kernel
def am_s134_ (z : Nat) : Nat → List aV → aM → Option aR := fun j => (match Nat.beq j 132 with
  | true => F132 z
  | false => (fun _ _ => none))
theorem hs134 (z : Nat) : ∀ j2 : Nat, ∃ d2 : Nat, d2 + 1 ≤ 7 ∧ am_Snd d2 j2 (am_s134_ z j2) := by
  intro j2
  unfold am_s134_
  split
  · rename_i he
    rw [am_beq he]
    exact ⟨_, by decide, S132 z⟩
  · skip
    exact ⟨0, by decide, am_Snd_no j2⟩
/-- ArgumentMender.least(II)I -/
def f134 (z : Nat) (x1 : Int32) (x2 : Int32) (M : aM) : Option aR :=
  am_bi (f132 z x1 x2 M) fun v2 M1 =>
    if v2 = 0 then
      some (some (.inl (M1.1 116 2)), M1)
    else
      some (some (.inl v2), M1)
set_option maxRecDepth 100000 in
set_option maxHeartbeats 4000000 in
theorem e134 (z : Nat) : ∀ (x1 : Int32) (x2 : Int32) (M : aM) (r : aR), f134 z x1 x2 M = some r → am_Ev 7 134 0 [some (.inr (.inr (10, 0))), some (.inl x1), some (.inl x2), none] [] M r := by
  intro x1 x2 M r h
  exact am_Ev_seg (sem := am_s134_ z) (cut := ([] : List (Nat × List Bool))) (hs134 z) am_r134 am_k134 (by rw [am_l134]; decide) (fun _ _ _ _ => none) 12 h (fun _ _ _ _ hk => by cases hk)
def F134 (z : Nat) (as : List aV) (M : aM) : Option aR := match as with
  | [.inr (.inr (10, 0)), .inl x1, .inl x2] => f134 z x1 x2 M
  | _ => none
theorem S134 (z : Nat) : am_Snd 7 134 (F134 z) := am_meth (by decide +kernel) (fun as M r has h => by
    rw [am_l134]
    unfold F134 at h
    split at h
    · exact ⟨Nat.le_of_ble_eq_true rfl, e134 z _ _ _ _ h⟩
    · cases h)
def cd135_0 : List am_E := [(0, .aload_n 0, 1, 0, 0, 0, 0), (1, .iload_n 1, 1, 1, 0, 0, 0), (2, .iload_n 2, 1, 2, 0, 0, 0), (3, .invokevirtual 278, 3, 132, 10020, 0, 0), (6, .istore_n 3, 1, 3, 0, 0, 0), (7, .iload_n 3, 1, 3, 0, 0, 0), (8, .ifCond .eq 7, 3, 15, 0, 0, 0), (11, .iload_n 3, 1, 3, 0, 0, 0), (12, .goto 10, 3, 22, 0, 0, 0), (15, .aload_n 0, 1, 0, 0, 0, 0), (16, .getfield 47, 3, 10, 5, 0, 0), (19, .getfield 287, 3, 3, 3, 0, 0), (22, .ireturn, 1, 0, 0, 0, 0)]
def cd135 : List am_E := cd135_0
def am_w135 : List (List (Int32 × Nat) × Nat) := []
set_option maxRecDepth 100000 in
theorem kcd135_0 : cd135_0.all (am_chk am_w135 135) = true := by decide +kernel
theorem am_k135 : cd135.all (am_chk am_w135 135) = true := by
  simp only [cd135, List.all_append, kcd135_0, Bool.and_self]
theorem am_r135 : am_rtc 135 = 0 := by decide +kernel
theorem am_l135 : am_ml 135 = 4 := by decide +kernel
def am_s135_ (z : Nat) : Nat → List aV → aM → Option aR := fun j => (match Nat.beq j 132 with
  | true => F132 z
  | false => (fun _ _ => none))
theorem hs135 (z : Nat) : ∀ j2 : Nat, ∃ d2 : Nat, d2 + 1 ≤ 7 ∧ am_Snd d2 j2 (am_s135_ z j2) := by
  intro j2
  unfold am_s135_
  split
  · rename_i he
    rw [am_beq he]
    exact ⟨_, by decide, S132 z⟩
  · skip
    exact ⟨0, by decide, am_Snd_no j2⟩
/-- ArgumentMender.greatest(II)I -/
def f135 (z : Nat) (x1 : Int32) (x2 : Int32) (M : aM) : Option aR :=
  am_bi (f132 z x1 x2 M) fun v2 M1 =>
    if v2 = 0 then
      some (some (.inl (M1.1 116 3)), M1)
    else
      some (some (.inl v2), M1)
set_option maxRecDepth 100000 in
set_option maxHeartbeats 4000000 in
theorem e135 (z : Nat) : ∀ (x1 : Int32) (x2 : Int32) (M : aM) (r : aR), f135 z x1 x2 M = some r → am_Ev 7 135 0 [some (.inr (.inr (10, 0))), some (.inl x1), some (.inl x2), none] [] M r := by
  intro x1 x2 M r h
  exact am_Ev_seg (sem := am_s135_ z) (cut := ([] : List (Nat × List Bool))) (hs135 z) am_r135 am_k135 (by rw [am_l135]; decide) (fun _ _ _ _ => none) 12 h (fun _ _ _ _ hk => by cases hk)
def F135 (z : Nat) (as : List aV) (M : aM) : Option aR := match as with
  | [.inr (.inr (10, 0)), .inl x1, .inl x2] => f135 z x1 x2 M
  | _ => none
theorem S135 (z : Nat) : am_Snd 7 135 (F135 z) := am_meth (by decide +kernel) (fun as M r has h => by
    rw [am_l135]
    unfold F135 at h
    split at h
    · exact ⟨Nat.le_of_ble_eq_true rfl, e135 z _ _ _ _ h⟩
    · cases h)
def cd136_0 : List am_E := [(0, .aload_n 0, 1, 0, 0, 0, 0), (1, .iload_n 1, 1, 1, 0, 0, 0), (2, .iload_n 2, 1, 2, 0, 0, 0), (3, .invokevirtual 278, 3, 132, 10020, 0, 0), (6, .istore_n 3, 1, 3, 0, 0, 0), (7, .iload_n 3, 1, 3, 0, 0, 0), (8, .ifCond .eq 5, 3, 13, 0, 0, 0), (11, .iload_n 3, 1, 3, 0, 0, 0), (12, .ireturn, 1, 0, 0, 0, 0), (13, .aload_n 0, 1, 0, 0, 0, 0), (14, .getfield 47, 3, 10, 5, 0, 0), (17, .getfield 281, 3, 3, 1, 0, 0), (20, .iconst 1, 1, 0, 0, 1, 0), (21, .if_icmp .le 7, 3, 28, 0, 0, 0), (24, .iconst 0, 1, 0, 0, 0, 0), (25, .goto 4, 3, 29, 0, 0, 0), (28, .iconst (-1), 1, 0, 0, (-1), 0), (29, .ireturn, 1, 0, 0, 0, 0)]
def cd136 : List am_E := cd136_0
def am_w136 : List (List (Int32 × Nat) × Nat) := []
set_option maxRecDepth 100000 in
theorem kcd136_0 : cd136_0.all (am_chk am_w136 136) = true := by decide +kernel
theorem am_k136 : cd136.all (am_chk am_w136 136) = true := by
  simp only [cd136, List.all_append, kcd136_0, Bool.and_self]
theorem am_r136 : am_rtc 136 = 0 := by decide +kernel
theorem am_l136 : am_ml 136 = 4 := by decide +kernel
def am_s136_ (z : Nat) : Nat → List aV → aM → Option aR := fun j => (match Nat.beq j 132 with
  | true => F132 z
  | false => (fun _ _ => none))
theorem hs136 (z : Nat) : ∀ j2 : Nat, ∃ d2 : Nat, d2 + 1 ≤ 7 ∧ am_Snd d2 j2 (am_s136_ z j2) := by
  intro j2
  unfold am_s136_
  split
  · rename_i he
    rw [am_beq he]
    exact ⟨_, by decide, S132 z⟩
  · skip
    exact ⟨0, by decide, am_Snd_no j2⟩
/-- ArgumentMender.ask(II)I -/
def f136 (z : Nat) (x1 : Int32) (x2 : Int32) (M : aM) : Option aR :=
  am_bi (f132 z x1 x2 M) fun v2 M1 =>
    if v2 = 0 then
      if (M1.1 116 1) ≤ (1 : Int32) then
        some (some (.inl (-1 : Int32)), M1)
      else
        some (some (.inl (0 : Int32)), M1)
    else
      some (some (.inl v2), M1)
set_option maxRecDepth 100000 in
set_option maxHeartbeats 4000000 in
theorem e136 (z : Nat) : ∀ (x1 : Int32) (x2 : Int32) (M : aM) (r : aR), f136 z x1 x2 M = some r → am_Ev 7 136 0 [some (.inr (.inr (10, 0))), some (.inl x1), some (.inl x2), none] [] M r := by
  intro x1 x2 M r h
  exact am_Ev_seg (sem := am_s136_ z) (cut := ([] : List (Nat × List Bool))) (hs136 z) am_r136 am_k136 (by rw [am_l136]; decide) (fun _ _ _ _ => none) 16 h (fun _ _ _ _ hk => by cases hk)
def F136 (z : Nat) (as : List aV) (M : aM) : Option aR := match as with
  | [.inr (.inr (10, 0)), .inl x1, .inl x2] => f136 z x1 x2 M
  | _ => none
theorem S136 (z : Nat) : am_Snd 7 136 (F136 z) := am_meth (by decide +kernel) (fun as M r has h => by
    rw [am_l136]
    unfold F136 at h
    split at h
    · exact ⟨Nat.le_of_ble_eq_true rfl, e136 z _ _ _ _ h⟩
    · cases h)
def cd137_0 : List am_E := [(0, .aload_n 0, 1, 0, 0, 0, 0), (1, .iload_n 1, 1, 1, 0, 0, 0), (2, .iload_n 2, 1, 2, 0, 0, 0), (3, .invokevirtual 278, 3, 132, 10020, 0, 0), (6, .istore_n 3, 1, 3, 0, 0, 0), (7, .iload_n 3, 1, 3, 0, 0, 0), (8, .ifCond .eq 7, 3, 15, 0, 0, 0), (11, .iload_n 3, 1, 3, 0, 0, 0), (12, .goto 14, 3, 26, 0, 0, 0), (15, .aload_n 0, 1, 0, 0, 0, 0), (16, .getfield 47, 3, 10, 5, 0, 0), (19, .getfield 281, 3, 3, 1, 0, 0), (22, .iconst 1, 1, 0, 0, 1, 0), (23, .invokestatic 290, 3, 0, 2, 0, 0), (26, .ireturn, 1, 0, 0, 0, 0)]
def cd137 : List am_E := cd137_0
def am_w137 : List (List (Int32 × Nat) × Nat) := []
set_option maxRecDepth 100000 in
theorem kcd137_0 : cd137_0.all (am_chk am_w137 137) = true := by decide +kernel
theorem am_k137 : cd137.all (am_chk am_w137 137) = true := by
  simp only [cd137, List.all_append, kcd137_0, Bool.and_self]
theorem am_r137 : am_rtc 137 = 0 := by decide +kernel
theorem am_l137 : am_ml 137 = 4 := by decide +kernel
def am_s137_ (z : Nat) : Nat → List aV → aM → Option aR := fun j => (match Nat.beq j 132 with
  | true => F132 z
  | false => (fun _ _ => none))
theorem hs137 (z : Nat) : ∀ j2 : Nat, ∃ d2 : Nat, d2 + 1 ≤ 7 ∧ am_Snd d2 j2 (am_s137_ z j2) := by
  intro j2
  unfold am_s137_
  split
  · rename_i he
    rw [am_beq he]
    exact ⟨_, by decide, S132 z⟩
  · skip
    exact ⟨0, by decide, am_Snd_no j2⟩
/-- ArgumentMender.leaves(II)I -/
def f137 (z : Nat) (x1 : Int32) (x2 : Int32) (M : aM) : Option aR :=
  am_bi (f132 z x1 x2 M) fun v2 M1 =>
    if v2 = 0 then
      some (some (.inl (if (1 : Int32) < (M1.1 116 1) then (1 : Int32) else (M1.1 116 1))), M1)
    else
      some (some (.inl v2), M1)
set_option maxRecDepth 100000 in
set_option maxHeartbeats 4000000 in
theorem e137 (z : Nat) : ∀ (x1 : Int32) (x2 : Int32) (M : aM) (r : aR), f137 z x1 x2 M = some r → am_Ev 7 137 0 [some (.inr (.inr (10, 0))), some (.inl x1), some (.inl x2), none] [] M r := by
  intro x1 x2 M r h
  exact am_Ev_seg (sem := am_s137_ z) (cut := ([] : List (Nat × List Bool))) (hs137 z) am_r137 am_k137 (by rw [am_l137]; decide) (fun _ _ _ _ => none) 14 h (fun _ _ _ _ hk => by cases hk)
def F137 (z : Nat) (as : List aV) (M : aM) : Option aR := match as with
  | [.inr (.inr (10, 0)), .inl x1, .inl x2] => f137 z x1 x2 M
  | _ => none
theorem S137 (z : Nat) : am_Snd 7 137 (F137 z) := am_meth (by decide +kernel) (fun as M r has h => by
    rw [am_l137]
    unfold F137 at h
    split at h
    · exact ⟨Nat.le_of_ble_eq_true rfl, e137 z _ _ _ _ h⟩
    · cases h)
def cd138_0 : List am_E := [(0, .iload_n 1, 1, 1, 0, 0, 0), (1, .invokestatic 266, 3, 164, 15, 0, 0), (4, .ifCond .eq 13, 3, 17, 0, 0, 0), (7, .aload_n 0, 1, 0, 0, 0, 0), (8, .getfield 19, 3, 10, 1, 0, 0), (11, .invokevirtual 176, 3, 7, 1000, 0, 0), (14, .ifCond .ne 6, 3, 20, 0, 0, 0), (17, .bipush (-2), 2, 0, 0, (-2), 0), (19, .ireturn, 1, 0, 0, 0, 0), (20, .aload_n 0, 1, 0, 0, 0, 0), (21, .getfield 53, 3, 10, 6, 0, 0), (24, .iload_n 1, 1, 1, 0, 0, 0), (25, .aaload, 1, 0, 0, 0, 0), (26, .invokevirtual 269, 3, 34, 4000, 0, 0), (29, .ifCond .ne 6, 3, 35, 0, 0, 0), (32, .bipush (-6), 2, 0, 0, (-6), 0), (34, .ireturn, 1, 0, 0, 0, 0), (35, .aload_n 0, 1, 0, 0, 0, 0), (36, .getfield 47, 3, 10, 5, 0, 0), (39, .aload_n 0, 1, 0, 0, 0, 0), (40, .getfield 19, 3, 10, 1, 0, 0), (43, .aload_n 0, 1, 0, 0, 0, 0), (44, .getfield 53, 3, 10, 6, 0, 0), (47, .iload_n 1, 1, 1, 0, 0, 0), (48, .aaload, 1, 0, 0, 0, 0), (49, .invokevirtual 270, 3, 28, 3020, 0, 0), (52, .ifCond .ne 6, 3, 58, 0, 0, 0), (55, .bipush (-2), 2, 0, 0, (-2), 0), (57, .ireturn, 1, 0, 0, 0, 0), (58, .iconst 0, 1, 0, 0, 0, 0), (59, .istore_n 2, 1, 2, 0, 0, 0), (60, .iconst 0, 1, 0, 0, 0, 0), (61, .istore_n 3, 1, 3, 0, 0, 0), (62, .iload_n 3, 1, 3, 0, 0, 0), (63, .iconst 4, 1, 0, 0, 4, 0), (64, .if_icmp .ge 36, 3, 100, 0, 0, 0), (67, .aload_n 0, 1, 0, 0, 0, 0), (68, .getfield 47, 3, 10, 5, 0, 0), (71, .aload_n 0, 1, 0, 0, 0, 0), (72, .getfield 19, 3, 10, 1, 0, 0)]
def cd138_1 : List am_E := [(75, .aload_n 0, 1, 0, 0, 0, 0), (76, .getfield 53, 3, 10, 6, 0, 0), (79, .iload_n 1, 1, 1, 0, 0, 0), (80, .aaload, 1, 0, 0, 0, 0), (81, .iload_n 3, 1, 3, 0, 0, 0), (82, .invokevirtual 295, 3, 31, 3030, 0, 0), (85, .ifCond .eq 9, 3, 94, 0, 0, 0), (88, .iload_n 2, 1, 2, 0, 0, 0), (89, .iconst 1, 1, 0, 0, 1, 0), (90, .iload_n 3, 1, 3, 0, 0, 0), (91, .ishl, 1, 0, 0, 0, 0), (92, .ior, 1, 0, 0, 0, 0), (93, .istore_n 2, 1, 2, 0, 0, 0), (94, .iinc 3 1, 3, 3, 0, 1, 0), (97, .goto (-35), 3, 62, 0, 0, 0), (100, .iload_n 2, 1, 2, 0, 0, 0), (101, .ireturn, 1, 0, 0, 0, 0)]
def cd138 : List am_E := cd138_0 ++ (cd138_1)
def am_w138 : List (List (Int32 × Nat) × Nat) := []
set_option maxRecDepth 100000 in
theorem kcd138_0 : cd138_0.all (am_chk am_w138 138) = true := by decide +kernel
set_option maxRecDepth 100000 in
theorem kcd138_1 : cd138_1.all (am_chk am_w138 138) = true := by decide +kernel
theorem am_k138 : cd138.all (am_chk am_w138 138) = true := by
  simp only [cd138, List.all_append, kcd138_0, kcd138_1, Bool.and_self]
theorem am_r138 : am_rtc 138 = 0 := by decide +kernel
theorem am_l138 : am_ml 138 = 4 := by decide +kernel
def am_s138_ (z : Nat) : Nat → List aV → aM → Option aR := fun j => (match Nat.beq j 7 with
  | true => F7 z
  | false => (match Nat.beq j 28 with
  | true => F28 z
  | false => (match Nat.beq j 31 with
  | true => F31 z
  | false => (match Nat.beq j 34 with
  | true => F34 z
  | false => (match Nat.beq j 164 with
  | true => F164 z
  | false => (fun _ _ => none))))))
theorem hs138 (z : Nat) : ∀ j2 : Nat, ∃ d2 : Nat, d2 + 1 ≤ 6 ∧ am_Snd d2 j2 (am_s138_ z j2) := by
  intro j2
  unfold am_s138_
  split
  · rename_i he
    rw [am_beq he]
    exact ⟨_, by decide, S7 z⟩
  · skip
    split
    · rename_i he
      rw [am_beq he]
      exact ⟨_, by decide, S28 z⟩
    · skip
      split
      · rename_i he
        rw [am_beq he]
        exact ⟨_, by decide, S31 z⟩
      · skip
        split
        · rename_i he
          rw [am_beq he]
          exact ⟨_, by decide, S34 z⟩
        · skip
          split
          · rename_i he
            rw [am_beq he]
            exact ⟨_, by decide, S164 z⟩
          · skip
            exact ⟨0, by decide, am_Snd_no j2⟩
def f138_62 (z : Nat) : Nat → Int32 → Int32 → Int32 → aM → Option aR
  | 0, _, _, _, _ => none
  | n + 1, x1, x2, x3, M =>
    if (4 : Int32) ≤ x3 then
      some (some (.inl x2), M)
    else
      if am_inB x1 4 then
        am_bi (f31 z 18 (152 + (3 + 2 * x1.toNatClampNeg)) x3 M) fun v2 M1 =>
          if v2 = 0 then
            f138_62 z n x1 x2 (x3 + (1 : Int32)) M1
          else
            f138_62 z n x1 (x2 ||| ((1 : Int32) <<< (x3 &&& 31))) (x3 + (1 : Int32)) M1
      else
        none
set_option maxRecDepth 100000 in
set_option maxHeartbeats 4000000 in
theorem e138_62 (z : Nat) : ∀ (n : Nat) (x1 : Int32) (x2 : Int32) (x3 : Int32) (M : aM) (r : aR), f138_62 z n x1 x2 x3 M = some r → am_Ev 6 138 62 [some (.inr (.inr (10, 0))), some (.inl x1), some (.inl x2), some (.inl x3)] [] M r := by
  intro n
  induction n with
  | zero =>
    intro x1 x2 x3 M r h
    cases h
  | succ n ih =>
    intro x1 x2 x3 M r h
    exact am_Ev_seg (sem := am_s138_ z) (cut := ([(62, [true, true, true, true])] : List (Nat × List Bool))) (hs138 z) am_r138 am_k138 (by rw [am_l138]; decide) (fun pc al st M => (match Nat.beq pc 62 with
      | true => (match al, st with
        | [some (.inr (.inr (10, 0))), some (.inl x1), some (.inl x2), some (.inl x3)], [] => f138_62 z n x1 x2 x3 M
        | _, _ => none)
      | false => none)) 24 h (fun pc al st M hk => by
      try dsimp only at hk
      split at hk
      · rename_i he
        rw [am_beq he]
        split at hk
        · exact ih _ _ _ _ _ hk
        · cases hk
      · cases hk)
/-- ArgumentMender.laws(I)I -/
def f138 (z : Nat) (x1 : Int32) (M : aM) : Option aR :=
  am_bi (f164 z x1 M) fun v2 M1 =>
    if v2 = 0 then
      some (some (.inl (-2 : Int32)), M1)
    else
      am_bi (f7 z 18 M1) fun v4 M3 =>
        if ¬ v4 = 0 then
          if am_inB x1 4 then
            am_bi (f34 z (152 + (3 + 2 * x1.toNatClampNeg)) M3) fun v6 M5 =>
              if ¬ v6 = 0 then
                if am_inB x1 4 then
                  am_bi (f28 z 18 (152 + (3 + 2 * x1.toNatClampNeg)) M5) fun v8 M7 =>
                    if ¬ v8 = 0 then
                      f138_62 z z x1 (0 : Int32) (0 : Int32) M7
                    else
                      some (some (.inl (-2 : Int32)), M7)
                else
                  none
              else
                some (some (.inl (-6 : Int32)), M5)
          else
            none
        else
          some (some (.inl (-2 : Int32)), M3)
set_option maxRecDepth 100000 in
set_option maxHeartbeats 4000000 in
theorem e138 (z : Nat) : ∀ (x1 : Int32) (M : aM) (r : aR), f138 z x1 M = some r → am_Ev 6 138 0 [some (.inr (.inr (10, 0))), some (.inl x1), none, none] [] M r := by
  intro x1 M r h
  exact am_Ev_seg (sem := am_s138_ z) (cut := ([(62, [true, true, true, true])] : List (Nat × List Bool))) (hs138 z) am_r138 am_k138 (by rw [am_l138]; decide) (fun pc al st M => (match Nat.beq pc 62 with
      | true => (match al, st with
        | [some (.inr (.inr (10, 0))), some (.inl x1), some (.inl x2), some (.inl x3)], [] => f138_62 z z x1 x2 x3 M
        | _, _ => none)
      | false => none)) 29 h (fun pc al st M hk => by
      try dsimp only at hk
      split at hk
      · rename_i he
        rw [am_beq he]
        split at hk
        · exact e138_62 z _ _ _ _ _ _ hk
        · cases hk
      · cases hk)
def F138 (z : Nat) (as : List aV) (M : aM) : Option aR := match as with
  | [.inr (.inr (10, 0)), .inl x1] => f138 z x1 M
  | _ => none
theorem S138 (z : Nat) : am_Snd 6 138 (F138 z) := am_meth (by decide +kernel) (fun as M r has h => by
    rw [am_l138]
    unfold F138 at h
    split at h
    · exact ⟨Nat.le_of_ble_eq_true rfl, e138 z _ _ _ h⟩
    · cases h)
def cd139_0 : List am_E := [(0, .aload_n 0, 1, 0, 0, 0, 0), (1, .getfield 19, 3, 10, 1, 0, 0), (4, .invokevirtual 176, 3, 7, 1000, 0, 0), (7, .ifCond .eq 12, 3, 19, 0, 0, 0), (10, .iload_n 1, 1, 1, 0, 0, 0), (11, .iconst 0, 1, 0, 0, 0, 0), (12, .iconst 3, 1, 0, 0, 3, 0), (13, .invokestatic 215, 3, 165, 35, 0, 0), (16, .ifCond .ne 6, 3, 22, 0, 0, 0), (19, .bipush (-2), 2, 0, 0, (-2), 0), (21, .ireturn, 1, 0, 0, 0, 0), (22, .aload_n 0, 1, 0, 0, 0, 0), (23, .getfield 40, 3, 10, 4, 0, 0), (26, .aload_n 0, 1, 0, 0, 0, 0), (27, .getfield 19, 3, 10, 1, 0, 0), (30, .iload_n 1, 1, 1, 0, 0, 0), (31, .invokevirtual 299, 3, 48, 6020, 0, 0), (34, .ireturn, 1, 0, 0, 0, 0)]
def cd139 : List am_E := cd139_0
def am_w139 : List (List (Int32 × Nat) × Nat) := []
set_option maxRecDepth 100000 in
theorem kcd139_0 : cd139_0.all (am_chk am_w139 139) = true := by decide +kernel
theorem am_k139 : cd139.all (am_chk am_w139 139) = true := by
  simp only [cd139, List.all_append, kcd139_0, Bool.and_self]
theorem am_r139 : am_rtc 139 = 0 := by decide +kernel
theorem am_l139 : am_ml 139 = 2 := by decide +kernel
def am_s139_ (z : Nat) : Nat → List aV → aM → Option aR := fun j => (match Nat.beq j 7 with
  | true => F7 z
  | false => (match Nat.beq j 48 with
  | true => F48 z
  | false => (match Nat.beq j 165 with
  | true => F165 z
  | false => (fun _ _ => none))))
theorem hs139 (z : Nat) : ∀ j2 : Nat, ∃ d2 : Nat, d2 + 1 ≤ 6 ∧ am_Snd d2 j2 (am_s139_ z j2) := by
  intro j2
  unfold am_s139_
  split
  · rename_i he
    rw [am_beq he]
    exact ⟨_, by decide, S7 z⟩
  · skip
    split
    · rename_i he
      rw [am_beq he]
      exact ⟨_, by decide, S48 z⟩
    · skip
      split
      · rename_i he
        rw [am_beq he]
        exact ⟨_, by decide, S165 z⟩
      · skip
        exact ⟨0, by decide, am_Snd_no j2⟩
/-- ArgumentMender.by(I)I -/
def f139 (z : Nat) (x1 : Int32) (M : aM) : Option aR :=
  am_bi (f7 z 18 M) fun v2 M1 =>
    if v2 = 0 then
      some (some (.inl (-2 : Int32)), M1)
    else
      am_bi (f165 z x1 (0 : Int32) (3 : Int32) M1) fun v4 M3 =>
        if ¬ v4 = 0 then
          am_bi (f48 z 18 x1 M3) fun v6 M5 =>
            some (some (.inl v6), M5)
        else
          some (some (.inl (-2 : Int32)), M3)
set_option maxRecDepth 100000 in
set_option maxHeartbeats 4000000 in
theorem e139 (z : Nat) : ∀ (x1 : Int32) (M : aM) (r : aR), f139 z x1 M = some r → am_Ev 6 139 0 [some (.inr (.inr (10, 0))), some (.inl x1)] [] M r := by
  intro x1 M r h
  exact am_Ev_seg (sem := am_s139_ z) (cut := ([] : List (Nat × List Bool))) (hs139 z) am_r139 am_k139 (by rw [am_l139]; decide) (fun _ _ _ _ => none) 17 h (fun _ _ _ _ hk => by cases hk)
def F139 (z : Nat) (as : List aV) (M : aM) : Option aR := match as with
  | [.inr (.inr (10, 0)), .inl x1] => f139 z x1 M
  | _ => none
theorem S139 (z : Nat) : am_Snd 6 139 (F139 z) := am_meth (by decide +kernel) (fun as M r has h => by
    rw [am_l139]
    unfold F139 at h
    split at h
    · exact ⟨Nat.le_of_ble_eq_true rfl, e139 z _ _ _ h⟩
    · cases h)
def cd140_0 : List am_E := [(0, .aload_n 0, 1, 0, 0, 0, 0), (1, .getfield 19, 3, 10, 1, 0, 0), (4, .invokevirtual 176, 3, 7, 1000, 0, 0), (7, .ifCond .ne 6, 3, 13, 0, 0, 0), (10, .bipush (-2), 2, 0, 0, (-2), 0), (12, .ireturn, 1, 0, 0, 0, 0), (13, .iconst 0, 1, 0, 0, 0, 0), (14, .istore_n 1, 1, 1, 0, 0, 0), (15, .iconst (-1), 1, 0, 0, (-1), 0), (16, .istore_n 2, 1, 2, 0, 0, 0), (17, .iconst 0, 1, 0, 0, 0, 0), (18, .istore_n 3, 1, 3, 0, 0, 0), (19, .iload_n 3, 1, 3, 0, 0, 0), (20, .iconst 4, 1, 0, 0, 4, 0), (21, .if_icmp .ge 37, 3, 58, 0, 0, 0), (24, .aload_n 0, 1, 0, 0, 0, 0), (25, .getfield 40, 3, 10, 4, 0, 0), (28, .aload_n 0, 1, 0, 0, 0, 0), (29, .getfield 19, 3, 10, 1, 0, 0), (32, .iload_n 3, 1, 3, 0, 0, 0), (33, .invokevirtual 299, 3, 48, 6020, 0, 0), (36, .invokestatic 204, 3, 328, 15, 0, 0), (39, .istore 4, 2, 4, 0, 0, 0), (41, .iload 4, 2, 4, 0, 0, 0), (43, .iload_n 2, 1, 2, 0, 0, 0), (44, .if_icmp .le 8, 3, 52, 0, 0, 0), (47, .iload 4, 2, 4, 0, 0, 0), (49, .istore_n 2, 1, 2, 0, 0, 0), (50, .iload_n 3, 1, 3, 0, 0, 0), (51, .istore_n 1, 1, 1, 0, 0, 0), (52, .iinc 3 1, 3, 3, 0, 1, 0), (55, .goto (-36), 3, 19, 0, 0, 0), (58, .iload_n 1, 1, 1, 0, 0, 0), (59, .ireturn, 1, 0, 0, 0, 0)]
def cd140 : List am_E := cd140_0
def am_w140 : List (List (Int32 × Nat) × Nat) := []
set_option maxRecDepth 100000 in
theorem kcd140_0 : cd140_0.all (am_chk am_w140 140) = true := by decide +kernel
theorem am_k140 : cd140.all (am_chk am_w140 140) = true := by
  simp only [cd140, List.all_append, kcd140_0, Bool.and_self]
theorem am_r140 : am_rtc 140 = 0 := by decide +kernel
theorem am_l140 : am_ml 140 = 5 := by decide +kernel
def am_s140_ (z : Nat) : Nat → List aV → aM → Option aR := fun j => (match Nat.beq j 7 with
  | true => F7 z
  | false => (match Nat.beq j 48 with
  | true => F48 z
  | false => (match Nat.beq j 328 with
  | true => F328 z
  | false => (fun _ _ => none))))
theorem hs140 (z : Nat) : ∀ j2 : Nat, ∃ d2 : Nat, d2 + 1 ≤ 6 ∧ am_Snd d2 j2 (am_s140_ z j2) := by
  intro j2
  unfold am_s140_
  split
  · rename_i he
    rw [am_beq he]
    exact ⟨_, by decide, S7 z⟩
  · skip
    split
    · rename_i he
      rw [am_beq he]
      exact ⟨_, by decide, S48 z⟩
    · skip
      split
      · rename_i he
        rw [am_beq he]
        exact ⟨_, by decide, S328 z⟩
      · skip
        exact ⟨0, by decide, am_Snd_no j2⟩
def f140_19 (z : Nat) : Nat → Int32 → Int32 → Int32 → aM → Option aR
  | 0, _, _, _, _ => none
  | n + 1, x1, x2, x3, M =>
    if (4 : Int32) ≤ x3 then
      some (some (.inl x1), M)
    else
      am_bi (f48 z 18 x3 M) fun v2 M1 =>
        am_bi (f328 z v2 M1) fun v4 M3 =>
          if v4 ≤ x2 then
            f140_19 z n x1 x2 (x3 + (1 : Int32)) M3
          else
            f140_19 z n x3 v4 (x3 + (1 : Int32)) M3
set_option maxRecDepth 100000 in
set_option maxHeartbeats 4000000 in
theorem e140_19 (z : Nat) : ∀ (n : Nat) (x1 : Int32) (x2 : Int32) (x3 : Int32) (M : aM) (r : aR), f140_19 z n x1 x2 x3 M = some r → am_Ev 6 140 19 [some (.inr (.inr (10, 0))), some (.inl x1), some (.inl x2), some (.inl x3), none] [] M r := by
  intro n
  induction n with
  | zero =>
    intro x1 x2 x3 M r h
    cases h
  | succ n ih =>
    intro x1 x2 x3 M r h
    exact am_Ev_seg (sem := am_s140_ z) (cut := ([(19, [true, true, true, true, false])] : List (Nat × List Bool))) (hs140 z) am_r140 am_k140 (by rw [am_l140]; decide) (fun pc al st M => (match Nat.beq pc 19 with
      | true => (match al, st with
        | [some (.inr (.inr (10, 0))), some (.inl x1), some (.inl x2), some (.inl x3), none], [] => f140_19 z n x1 x2 x3 M
        | _, _ => none)
      | false => none)) 22 h (fun pc al st M hk => by
      try dsimp only at hk
      split at hk
      · rename_i he
        rw [am_beq he]
        split at hk
        · exact ih _ _ _ _ _ hk
        · cases hk
      · cases hk)
/-- ArgumentMender.law()I -/
def f140 (z : Nat) (M : aM) : Option aR :=
  am_bi (f7 z 18 M) fun v2 M1 =>
    if ¬ v2 = 0 then
      f140_19 z z (0 : Int32) (-1 : Int32) (0 : Int32) M1
    else
      some (some (.inl (-2 : Int32)), M1)
set_option maxRecDepth 100000 in
set_option maxHeartbeats 4000000 in
theorem e140 (z : Nat) : ∀ (M : aM) (r : aR), f140 z  M = some r → am_Ev 6 140 0 [some (.inr (.inr (10, 0))), none, none, none, none] [] M r := by
  intro  M r h
  exact am_Ev_seg (sem := am_s140_ z) (cut := ([(19, [true, true, true, true, false])] : List (Nat × List Bool))) (hs140 z) am_r140 am_k140 (by rw [am_l140]; decide) (fun pc al st M => (match Nat.beq pc 19 with
      | true => (match al, st with
        | [some (.inr (.inr (10, 0))), some (.inl x1), some (.inl x2), some (.inl x3), none], [] => f140_19 z z x1 x2 x3 M
        | _, _ => none)
      | false => none)) 12 h (fun pc al st M hk => by
      try dsimp only at hk
      split at hk
      · rename_i he
        rw [am_beq he]
        split at hk
        · exact e140_19 z _ _ _ _ _ _ hk
        · cases hk
      · cases hk)
def F140 (z : Nat) (as : List aV) (M : aM) : Option aR := match as with
  | [.inr (.inr (10, 0))] => f140 z  M
  | _ => none
theorem S140 (z : Nat) : am_Snd 6 140 (F140 z) := am_meth (by decide +kernel) (fun as M r has h => by
    rw [am_l140]
    unfold F140 at h
    split at h
    · exact ⟨Nat.le_of_ble_eq_true rfl, e140 z _ _ h⟩
    · cases h)
def cd141_0 : List am_E := [(0, .aload_n 0, 1, 0, 0, 0, 0), (1, .getfield 19, 3, 10, 1, 0, 0), (4, .invokevirtual 176, 3, 7, 1000, 0, 0), (7, .ifCond .eq 18, 3, 25, 0, 0, 0), (10, .iload_n 1, 1, 1, 0, 0, 0), (11, .ifCond .lt 14, 3, 25, 0, 0, 0), (14, .iload_n 1, 1, 1, 0, 0, 0), (15, .aload_n 0, 1, 0, 0, 0, 0), (16, .getfield 19, 3, 10, 1, 0, 0), (19, .invokevirtual 302, 3, 14, 1000, 0, 0), (22, .if_icmp .le 6, 3, 28, 0, 0, 0), (25, .bipush (-2), 2, 0, 0, (-2), 0), (27, .ireturn, 1, 0, 0, 0, 0), (28, .aload_n 0, 1, 0, 0, 0, 0), (29, .getfield 40, 3, 10, 4, 0, 0), (32, .aload_n 0, 1, 0, 0, 0, 0), (33, .getfield 19, 3, 10, 1, 0, 0), (36, .aload_n 0, 1, 0, 0, 0, 0), (37, .getfield 19, 3, 10, 1, 0, 0), (40, .invokevirtual 302, 3, 14, 1000, 0, 0), (43, .iload_n 1, 1, 1, 0, 0, 0), (44, .iconst (-1), 1, 0, 0, (-1), 0), (45, .ixor, 1, 0, 0, 0, 0), (46, .iand, 1, 0, 0, 0, 0), (47, .invokevirtual 263, 3, 49, 6020, 0, 0), (50, .ireturn, 1, 0, 0, 0, 0)]
def cd141 : List am_E := cd141_0
def am_w141 : List (List (Int32 × Nat) × Nat) := []
set_option maxRecDepth 100000 in
theorem kcd141_0 : cd141_0.all (am_chk am_w141 141) = true := by decide +kernel
theorem am_k141 : cd141.all (am_chk am_w141 141) = true := by
  simp only [cd141, List.all_append, kcd141_0, Bool.and_self]
theorem am_r141 : am_rtc 141 = 0 := by decide +kernel
theorem am_l141 : am_ml 141 = 2 := by decide +kernel
def am_s141_ (z : Nat) : Nat → List aV → aM → Option aR := fun j => (match Nat.beq j 7 with
  | true => F7 z
  | false => (match Nat.beq j 14 with
  | true => F14 z
  | false => (match Nat.beq j 49 with
  | true => F49 z
  | false => (fun _ _ => none))))
theorem hs141 (z : Nat) : ∀ j2 : Nat, ∃ d2 : Nat, d2 + 1 ≤ 6 ∧ am_Snd d2 j2 (am_s141_ z j2) := by
  intro j2
  unfold am_s141_
  split
  · rename_i he
    rw [am_beq he]
    exact ⟨_, by decide, S7 z⟩
  · skip
    split
    · rename_i he
      rw [am_beq he]
      exact ⟨_, by decide, S14 z⟩
    · skip
      split
      · rename_i he
        rw [am_beq he]
        exact ⟨_, by decide, S49 z⟩
      · skip
        exact ⟨0, by decide, am_Snd_no j2⟩
/-- ArgumentMender.worth(I)I -/
def f141 (z : Nat) (x1 : Int32) (M : aM) : Option aR :=
  am_bi (f7 z 18 M) fun v2 M1 =>
    if v2 = 0 then
      some (some (.inl (-2 : Int32)), M1)
    else
      if x1 < 0 then
        some (some (.inl (-2 : Int32)), M1)
      else
        am_bi (f14 z 18 M1) fun v4 M3 =>
          if x1 ≤ v4 then
            am_bi (f14 z 18 M3) fun v6 M5 =>
              am_bi (f49 z 18 (v6 &&& (x1 ^^^ (-1 : Int32))) M5) fun v8 M7 =>
                some (some (.inl v8), M7)
          else
            some (some (.inl (-2 : Int32)), M3)
set_option maxRecDepth 100000 in
set_option maxHeartbeats 4000000 in
theorem e141 (z : Nat) : ∀ (x1 : Int32) (M : aM) (r : aR), f141 z x1 M = some r → am_Ev 6 141 0 [some (.inr (.inr (10, 0))), some (.inl x1)] [] M r := by
  intro x1 M r h
  exact am_Ev_seg (sem := am_s141_ z) (cut := ([] : List (Nat × List Bool))) (hs141 z) am_r141 am_k141 (by rw [am_l141]; decide) (fun _ _ _ _ => none) 25 h (fun _ _ _ _ hk => by cases hk)
def F141 (z : Nat) (as : List aV) (M : aM) : Option aR := match as with
  | [.inr (.inr (10, 0)), .inl x1] => f141 z x1 M
  | _ => none
theorem S141 (z : Nat) : am_Snd 6 141 (F141 z) := am_meth (by decide +kernel) (fun as M r has h => by
    rw [am_l141]
    unfold F141 at h
    split at h
    · exact ⟨Nat.le_of_ble_eq_true rfl, e141 z _ _ _ h⟩
    · cases h)
def cd150_0 : List am_E := [(0, .lload_n 0, 1, 0, 0, 0, 0), (1, .invokestatic 340, 3, 0, 4, 0, 0), (4, .lstore 5, 2, 5, 0, 0, 0), (6, .lload_n 2, 1, 2, 0, 0, 0), (7, .lstore 7, 2, 7, 0, 0, 0), (9, .iconst 0, 1, 0, 0, 0, 0), (10, .istore 9, 2, 9, 0, 0, 0), (12, .iload 9, 2, 9, 0, 0, 0), (14, .bipush 100, 2, 0, 0, 100, 0), (16, .if_icmp .ge 31, 3, 47, 0, 0, 0), (19, .lload 7, 2, 7, 0, 0, 0), (21, .lconst 0, 1, 0, 0, 0, 0), (22, .lcmp, 1, 0, 0, 0, 0), (23, .ifCond .eq 24, 3, 47, 0, 0, 0), (26, .lload 5, 2, 5, 0, 0, 0), (28, .lload 7, 2, 7, 0, 0, 0), (30, .lrem, 1, 0, 0, 0, 0), (31, .lstore 10, 2, 10, 0, 0, 0), (33, .lload 7, 2, 7, 0, 0, 0), (35, .lstore 5, 2, 5, 0, 0, 0), (37, .lload 10, 2, 10, 0, 0, 0), (39, .lstore 7, 2, 7, 0, 0, 0), (41, .iinc 9 1, 3, 9, 0, 1, 0), (44, .goto (-32), 3, 12, 0, 0, 0), (47, .lload 5, 2, 5, 0, 0, 0), (49, .lconst 0, 1, 0, 0, 0, 0), (50, .lcmp, 1, 0, 0, 0, 0), (51, .ifCond .ne 5, 3, 56, 0, 0, 0), (54, .lconst 0, 1, 0, 0, 0, 0), (55, .lreturn, 1, 0, 0, 0, 0), (56, .iload 4, 2, 4, 0, 0, 0), (58, .ifCond .ne 10, 3, 68, 0, 0, 0), (61, .lload_n 0, 1, 0, 0, 0, 0), (62, .lload 5, 2, 5, 0, 0, 0), (64, .ldiv, 1, 0, 0, 0, 0), (65, .goto 7, 3, 72, 0, 0, 0), (68, .lload_n 2, 1, 2, 0, 0, 0), (69, .lload 5, 2, 5, 0, 0, 0), (71, .ldiv, 1, 0, 0, 0, 0), (72, .lreturn, 1, 0, 0, 0, 0)]
def cd150 : List am_E := cd150_0
def am_w150 : List (List (Int32 × Nat) × Nat) := []
set_option maxRecDepth 100000 in
theorem kcd150_0 : cd150_0.all (am_chk am_w150 150) = true := by decide +kernel
theorem am_k150 : cd150.all (am_chk am_w150 150) = true := by
  simp only [cd150, List.all_append, kcd150_0, Bool.and_self]
theorem am_r150 : am_rtc 150 = 2 := by decide +kernel
theorem am_l150 : am_ml 150 = 12 := by decide +kernel
def am_s150_ (z : Nat) : Nat → List aV → aM → Option aR := fun j => (fun _ _ => none)
theorem hs150 (z : Nat) : ∀ j2 : Nat, ∃ d2 : Nat, d2 + 1 ≤ 1 ∧ am_Snd d2 j2 (am_s150_ z j2) := by
  intro j2
  unfold am_s150_
  exact ⟨0, by decide, am_Snd_no j2⟩
def f150_12 (z : Nat) : Nat → Int64 → Int64 → Int32 → Int64 → Int64 → Int32 → aM → Option aR
  | 0, _, _, _, _, _, _, _ => none
  | n + 1, y0, y2, x4, y5, y7, x9, M =>
    if (100 : Int32) ≤ x9 then
      if ¬ (lg_cmp y5 (0 : Int64)) = 0 then
        if ¬ x4 = 0 then
          if y5 = 0 then
            none
          else
            some (some (.inr (.inl (y2 / y5))), M)
        else
          if y5 = 0 then
            none
          else
            some (some (.inr (.inl (y0 / y5))), M)
      else
        some (some (.inr (.inl (0 : Int64))), M)
    else
      if (lg_cmp y7 (0 : Int64)) = 0 then
        if ¬ (lg_cmp y5 (0 : Int64)) = 0 then
          if ¬ x4 = 0 then
            if y5 = 0 then
              none
            else
              some (some (.inr (.inl (y2 / y5))), M)
          else
            if y5 = 0 then
              none
            else
              some (some (.inr (.inl (y0 / y5))), M)
        else
          some (some (.inr (.inl (0 : Int64))), M)
      else
        if y7 = 0 then
          none
        else
          f150_12 z n y0 y2 x4 y7 (y5 - y5 / y7 * y7) (x9 + (1 : Int32)) M
set_option maxRecDepth 100000 in
set_option maxHeartbeats 4000000 in
theorem e150_12 (z : Nat) : ∀ (n : Nat) (y0 : Int64) (y2 : Int64) (x4 : Int32) (y5 : Int64) (y7 : Int64) (x9 : Int32) (M : aM) (r : aR), f150_12 z n y0 y2 x4 y5 y7 x9 M = some r → am_Ev 1 150 12 [some (.inr (.inl y0)), none, some (.inr (.inl y2)), none, some (.inl x4), some (.inr (.inl y5)), none, some (.inr (.inl y7)), none, some (.inl x9), none, none] [] M r := by
  intro n
  induction n with
  | zero =>
    intro y0 y2 x4 y5 y7 x9 M r h
    cases h
  | succ n ih =>
    intro y0 y2 x4 y5 y7 x9 M r h
    exact am_Ev_seg (sem := am_s150_ z) (cut := ([(12, [true, false, true, false, true, true, false, true, false, true, false, false])] : List (Nat × List Bool))) (hs150 z) am_r150 am_k150 (by rw [am_l150]; decide) (fun pc al st M => (match Nat.beq pc 12 with
      | true => (match al, st with
        | [some (.inr (.inl y0)), none, some (.inr (.inl y2)), none, some (.inl x4), some (.inr (.inl y5)), none, some (.inr (.inl y7)), none, some (.inl x9), none, none], [] => f150_12 z n y0 y2 x4 y5 y7 x9 M
        | _, _ => none)
      | false => none)) 19 h (fun pc al st M hk => by
      try dsimp only at hk
      split at hk
      · rename_i he
        rw [am_beq he]
        split at hk
        · exact ih _ _ _ _ _ _ _ _ hk
        · cases hk
      · cases hk)
/-- ArgumentMender.inLowest(JJI)J -/
def f150 (z : Nat) (y0 : Int64) (y2 : Int64) (x4 : Int32) (M : aM) : Option aR :=
  f150_12 z z y0 y2 x4 (if 0 < y0 then y0 else -y0) y2 (0 : Int32) M
set_option maxRecDepth 100000 in
set_option maxHeartbeats 4000000 in
theorem e150 (z : Nat) : ∀ (y0 : Int64) (y2 : Int64) (x4 : Int32) (M : aM) (r : aR), f150 z y0 y2 x4 M = some r → am_Ev 1 150 0 [some (.inr (.inl y0)), none, some (.inr (.inl y2)), none, some (.inl x4), none, none, none, none, none, none, none] [] M r := by
  intro y0 y2 x4 M r h
  exact am_Ev_seg (sem := am_s150_ z) (cut := ([(12, [true, false, true, false, true, true, false, true, false, true, false, false])] : List (Nat × List Bool))) (hs150 z) am_r150 am_k150 (by rw [am_l150]; decide) (fun pc al st M => (match Nat.beq pc 12 with
      | true => (match al, st with
        | [some (.inr (.inl y0)), none, some (.inr (.inl y2)), none, some (.inl x4), some (.inr (.inl y5)), none, some (.inr (.inl y7)), none, some (.inl x9), none, none], [] => f150_12 z z y0 y2 x4 y5 y7 x9 M
        | _, _ => none)
      | false => none)) 9 h (fun pc al st M hk => by
      try dsimp only at hk
      split at hk
      · rename_i he
        rw [am_beq he]
        split at hk
        · exact e150_12 z _ _ _ _ _ _ _ _ _ hk
        · cases hk
      · cases hk)
def F150 (z : Nat) (as : List aV) (M : aM) : Option aR := match as with
  | [.inr (.inl y0), .inr (.inl y2), .inl x4] => f150 z y0 y2 x4 M
  | _ => none
theorem S150 (z : Nat) : am_Snd 1 150 (F150 z) := am_meth (by decide +kernel) (fun as M r has h => by
    rw [am_l150]
    unfold F150 at h
    split at h
    · exact ⟨Nat.le_of_ble_eq_true rfl, e150 z _ _ _ _ _ h⟩
    · cases h)
def cd142_0 : List am_E := [(0, .aload_n 0, 1, 0, 0, 0, 0), (1, .getfield 19, 3, 10, 1, 0, 0), (4, .getfield 141, 3, 1, 5, 0, 0), (7, .bipush 8, 2, 0, 0, 8, 0), (9, .invokestatic 290, 3, 0, 2, 0, 0), (12, .istore_n 3, 1, 3, 0, 0, 0), (13, .iload_n 1, 1, 1, 0, 0, 0), (14, .iconst 0, 1, 0, 0, 0, 0), (15, .iload_n 3, 1, 3, 0, 0, 0), (16, .iconst 1, 1, 0, 0, 1, 0), (17, .isub, 1, 0, 0, 0, 0), (18, .invokestatic 215, 3, 165, 35, 0, 0), (21, .ifCond .eq 12, 3, 33, 0, 0, 0), (24, .iload_n 2, 1, 2, 0, 0, 0), (25, .iconst 0, 1, 0, 0, 0, 0), (26, .iconst 1, 1, 0, 0, 1, 0), (27, .invokestatic 215, 3, 165, 35, 0, 0), (30, .ifCond .ne 7, 3, 37, 0, 0, 0), (33, .sipush (-1000), 3, 0, 0, (-1000), 0), (36, .ireturn, 1, 0, 0, 0, 0), (37, .iconst 0, 1, 0, 0, 0, 0), (38, .istore 4, 2, 4, 0, 0, 0), (40, .iconst 0, 1, 0, 0, 0, 0), (41, .istore 5, 2, 5, 0, 0, 0), (43, .iload 5, 2, 5, 0, 0, 0), (45, .iconst 1, 1, 0, 0, 1, 0), (46, .iload_n 3, 1, 3, 0, 0, 0), (47, .ishl, 1, 0, 0, 0, 0), (48, .if_icmp .ge 83, 3, 131, 0, 0, 0), (51, .iload 5, 2, 5, 0, 0, 0), (53, .iload_n 1, 1, 1, 0, 0, 0), (54, .ishr, 1, 0, 0, 0, 0), (55, .iconst 1, 1, 0, 0, 1, 0), (56, .iand, 1, 0, 0, 0, 0), (57, .ifCond .ne 68, 3, 125, 0, 0, 0), (60, .iload 5, 2, 5, 0, 0, 0), (62, .invokestatic 204, 3, 328, 15, 0, 0), (65, .istore 6, 2, 6, 0, 0, 0), (67, .getstatic 305, 3, 0, 0, 0, 0), (70, .iload 6, 2, 6, 0, 0, 0)]
def cd142_1 : List am_E := [(72, .iaload, 1, 0, 0, 0, 0), (73, .getstatic 305, 3, 0, 0, 0, 0), (76, .iload_n 3, 1, 3, 0, 0, 0), (77, .iconst 1, 1, 0, 0, 1, 0), (78, .isub, 1, 0, 0, 0, 0), (79, .iload 6, 2, 6, 0, 0, 0), (81, .isub, 1, 0, 0, 0, 0), (82, .iaload, 1, 0, 0, 0, 0), (83, .imul, 1, 0, 0, 0, 0), (84, .istore 7, 2, 7, 0, 0, 0), (86, .iload 4, 2, 4, 0, 0, 0), (88, .iload 7, 2, 7, 0, 0, 0), (90, .aload_n 0, 1, 0, 0, 0, 0), (91, .getfield 40, 3, 10, 4, 0, 0), (94, .aload_n 0, 1, 0, 0, 0, 0), (95, .getfield 19, 3, 10, 1, 0, 0), (98, .iload 5, 2, 5, 0, 0, 0), (100, .iconst 1, 1, 0, 0, 1, 0), (101, .iload_n 1, 1, 1, 0, 0, 0), (102, .ishl, 1, 0, 0, 0, 0), (103, .ior, 1, 0, 0, 0, 0), (104, .invokevirtual 308, 3, 50, 6020, 0, 0), (107, .aload_n 0, 1, 0, 0, 0, 0), (108, .getfield 40, 3, 10, 4, 0, 0), (111, .aload_n 0, 1, 0, 0, 0, 0), (112, .getfield 19, 3, 10, 1, 0, 0), (115, .iload 5, 2, 5, 0, 0, 0), (117, .invokevirtual 308, 3, 50, 6020, 0, 0), (120, .isub, 1, 0, 0, 0, 0), (121, .imul, 1, 0, 0, 0, 0), (122, .iadd, 1, 0, 0, 0, 0), (123, .istore 4, 2, 4, 0, 0, 0), (125, .iinc 5 1, 3, 5, 0, 1, 0), (128, .goto (-85), 3, 43, 0, 0, 0), (131, .iload 4, 2, 4, 0, 0, 0), (133, .i2l, 1, 0, 0, 0, 0), (134, .getstatic 305, 3, 0, 0, 0, 0), (137, .iload_n 3, 1, 3, 0, 0, 0), (138, .iaload, 1, 0, 0, 0, 0), (139, .i2l, 1, 0, 0, 0, 0)]
def cd142_2 : List am_E := [(140, .iload_n 2, 1, 2, 0, 0, 0), (141, .invokestatic 311, 3, 150, 37, 0, 0), (144, .l2i, 1, 0, 0, 0, 0), (145, .ireturn, 1, 0, 0, 0, 0)]
def cd142 : List am_E := cd142_0 ++ (cd142_1 ++ (cd142_2))
def am_w142 : List (List (Int32 × Nat) × Nat) := []
set_option maxRecDepth 100000 in
theorem kcd142_0 : cd142_0.all (am_chk am_w142 142) = true := by decide +kernel
set_option maxRecDepth 100000 in
theorem kcd142_1 : cd142_1.all (am_chk am_w142 142) = true := by decide +kernel
set_option maxRecDepth 100000 in
theorem kcd142_2 : cd142_2.all (am_chk am_w142 142) = true := by decide +kernel
theorem am_k142 : cd142.all (am_chk am_w142 142) = true := by
  simp only [cd142, List.all_append, kcd142_0, kcd142_1, kcd142_2, Bool.and_self]
theorem am_r142 : am_rtc 142 = 0 := by decide +kernel
theorem am_l142 : am_ml 142 = 8 := by decide +kernel
def am_s142_ (z : Nat) : Nat → List aV → aM → Option aR := fun j => (match Nat.beq j 50 with
  | true => F50 z
  | false => (match Nat.beq j 150 with
  | true => F150 z
  | false => (match Nat.beq j 165 with
  | true => F165 z
  | false => (match Nat.beq j 328 with
  | true => F328 z
  | false => (fun _ _ => none)))))
theorem hs142 (z : Nat) : ∀ j2 : Nat, ∃ d2 : Nat, d2 + 1 ≤ 7 ∧ am_Snd d2 j2 (am_s142_ z j2) := by
  intro j2
  unfold am_s142_
  split
  · rename_i he
    rw [am_beq he]
    exact ⟨_, by decide, S50 z⟩
  · skip
    split
    · rename_i he
      rw [am_beq he]
      exact ⟨_, by decide, S150 z⟩
    · skip
      split
      · rename_i he
        rw [am_beq he]
        exact ⟨_, by decide, S165 z⟩
      · skip
        split
        · rename_i he
          rw [am_beq he]
          exact ⟨_, by decide, S328 z⟩
        · skip
          exact ⟨0, by decide, am_Snd_no j2⟩
def f142_43 (z : Nat) : Nat → Int32 → Int32 → Int32 → Int32 → Int32 → aM → Option aR
  | 0, _, _, _, _, _, _ => none
  | n + 1, x1, x2, x3, x4, x5, M =>
    if ((1 : Int32) <<< (x3 &&& 31)) ≤ x5 then
      if am_inB x3 9 then
        am_bl (f150 z (Int32.toInt64 x4) (Int32.toInt64 (am_fact x3.toNatClampNeg)) x2 M) fun v2 M1 =>
          some (some (.inl (Int64.toInt32 v2)), M1)
      else
        none
    else
      if ¬ ((x5 >>> (x1 &&& 31)) &&& (1 : Int32)) = 0 then
        f142_43 z n x1 x2 x3 x4 (x5 + (1 : Int32)) M
      else
        am_bi (f328 z x5 M) fun v4 M3 =>
          if am_inB v4 9 then
            if am_inB ((x3 - (1 : Int32)) - v4) 9 then
              am_bi (f50 z 18 (x5 ||| ((1 : Int32) <<< (x1 &&& 31))) M3) fun v6 M5 =>
                am_bi (f50 z 18 x5 M5) fun v8 M7 =>
                  f142_43 z n x1 x2 x3 (x4 + (((am_fact v4.toNatClampNeg) * (am_fact ((x3 - (1 : Int32)) - v4).toNatClampNeg)) * (v6 - v8))) (x5 + (1 : Int32)) M7
            else
              none
          else
            none
set_option maxRecDepth 100000 in
set_option maxHeartbeats 4000000 in
theorem e142_43 (z : Nat) : ∀ (n : Nat) (x1 : Int32) (x2 : Int32) (x3 : Int32) (x4 : Int32) (x5 : Int32) (M : aM) (r : aR), f142_43 z n x1 x2 x3 x4 x5 M = some r → am_Ev 7 142 43 [some (.inr (.inr (10, 0))), some (.inl x1), some (.inl x2), some (.inl x3), some (.inl x4), some (.inl x5), none, none] [] M r := by
  intro n
  induction n with
  | zero =>
    intro x1 x2 x3 x4 x5 M r h
    cases h
  | succ n ih =>
    intro x1 x2 x3 x4 x5 M r h
    exact am_Ev_seg (sem := am_s142_ z) (cut := ([(43, [true, true, true, true, true, true, false, false])] : List (Nat × List Bool))) (hs142 z) am_r142 am_k142 (by rw [am_l142]; decide) (fun pc al st M => (match Nat.beq pc 43 with
      | true => (match al, st with
        | [some (.inr (.inr (10, 0))), some (.inl x1), some (.inl x2), some (.inl x3), some (.inl x4), some (.inl x5), none, none], [] => f142_43 z n x1 x2 x3 x4 x5 M
        | _, _ => none)
      | false => none)) 52 h (fun pc al st M hk => by
      try dsimp only at hk
      split at hk
      · rename_i he
        rw [am_beq he]
        split at hk
        · exact ih _ _ _ _ _ _ _ hk
        · cases hk
      · cases hk)
/-- ArgumentMender.share(II)I -/
def f142 (z : Nat) (x1 : Int32) (x2 : Int32) (M : aM) : Option aR :=
  am_bi (f165 z x1 (0 : Int32) ((if (8 : Int32) < (M.1 18 5) then (8 : Int32) else (M.1 18 5)) - (1 : Int32)) M) fun v2 M1 =>
    if v2 = 0 then
      some (some (.inl (-1000 : Int32)), M1)
    else
      am_bi (f165 z x2 (0 : Int32) (1 : Int32) M1) fun v4 M3 =>
        if ¬ v4 = 0 then
          f142_43 z z x1 x2 (if (8 : Int32) < (M.1 18 5) then (8 : Int32) else (M.1 18 5)) (0 : Int32) (0 : Int32) M3
        else
          some (some (.inl (-1000 : Int32)), M3)
set_option maxRecDepth 100000 in
set_option maxHeartbeats 4000000 in
theorem e142 (z : Nat) : ∀ (x1 : Int32) (x2 : Int32) (M : aM) (r : aR), f142 z x1 x2 M = some r → am_Ev 7 142 0 [some (.inr (.inr (10, 0))), some (.inl x1), some (.inl x2), none, none, none, none, none] [] M r := by
  intro x1 x2 M r h
  exact am_Ev_seg (sem := am_s142_ z) (cut := ([(43, [true, true, true, true, true, true, false, false])] : List (Nat × List Bool))) (hs142 z) am_r142 am_k142 (by rw [am_l142]; decide) (fun pc al st M => (match Nat.beq pc 43 with
      | true => (match al, st with
        | [some (.inr (.inr (10, 0))), some (.inl x1), some (.inl x2), some (.inl x3), some (.inl x4), some (.inl x5), none, none], [] => f142_43 z z x1 x2 x3 x4 x5 M
        | _, _ => none)
      | false => none)) 24 h (fun pc al st M hk => by
      try dsimp only at hk
      split at hk
      · rename_i he
        rw [am_beq he]
        split at hk
        · exact e142_43 z _ _ _ _ _ _ _ _ hk
        · cases hk
      · cases hk)
def F142 (z : Nat) (as : List aV) (M : aM) : Option aR := match as with
  | [.inr (.inr (10, 0)), .inl x1, .inl x2] => f142 z x1 x2 M
  | _ => none
theorem S142 (z : Nat) : am_Snd 7 142 (F142 z) := am_meth (by decide +kernel) (fun as M r has h => by
    rw [am_l142]
    unfold F142 at h
    split at h
    · exact ⟨Nat.le_of_ble_eq_true rfl, e142 z _ _ _ _ h⟩
    · cases h)
def cd143_0 : List am_E := [(0, .aload_n 0, 1, 0, 0, 0, 0), (1, .getfield 19, 3, 10, 1, 0, 0), (4, .iload_n 1, 1, 1, 0, 0, 0), (5, .invokevirtual 126, 3, 10, 1010, 0, 0), (8, .ifCond .eq 23, 3, 31, 0, 0, 0), (11, .aload_n 0, 1, 0, 0, 0, 0), (12, .getfield 19, 3, 10, 1, 0, 0), (15, .iload_n 2, 1, 2, 0, 0, 0), (16, .invokevirtual 126, 3, 10, 1010, 0, 0), (19, .ifCond .eq 12, 3, 31, 0, 0, 0), (22, .iload_n 1, 1, 1, 0, 0, 0), (23, .iload_n 2, 1, 2, 0, 0, 0), (24, .if_icmp .eq 7, 3, 31, 0, 0, 0), (27, .iconst 1, 1, 0, 0, 1, 0), (28, .goto 4, 3, 32, 0, 0, 0), (31, .iconst 0, 1, 0, 0, 0, 0), (32, .ireturn, 1, 0, 0, 0, 0)]
def cd143 : List am_E := cd143_0
def am_w143 : List (List (Int32 × Nat) × Nat) := []
set_option maxRecDepth 100000 in
theorem kcd143_0 : cd143_0.all (am_chk am_w143 143) = true := by decide +kernel
theorem am_k143 : cd143.all (am_chk am_w143 143) = true := by
  simp only [cd143, List.all_append, kcd143_0, Bool.and_self]
theorem am_r143 : am_rtc 143 = 1 := by decide +kernel
theorem am_l143 : am_ml 143 = 3 := by decide +kernel
def am_s143_ (z : Nat) : Nat → List aV → aM → Option aR := fun j => (match Nat.beq j 10 with
  | true => F10 z
  | false => (fun _ _ => none))
theorem hs143 (z : Nat) : ∀ j2 : Nat, ∃ d2 : Nat, d2 + 1 ≤ 2 ∧ am_Snd d2 j2 (am_s143_ z j2) := by
  intro j2
  unfold am_s143_
  split
  · rename_i he
    rw [am_beq he]
    exact ⟨_, by decide, S10 z⟩
  · skip
    exact ⟨0, by decide, am_Snd_no j2⟩
/-- ArgumentMender.areTwo(II)Z -/
def f143 (z : Nat) (x1 : Int32) (x2 : Int32) (M : aM) : Option aR :=
  am_bi (f10 z 18 x1 M) fun v2 M1 =>
    if v2 = 0 then
      some (some (.inl ((0 : Int32) &&& 1)), M1)
    else
      am_bi (f10 z 18 x2 M1) fun v4 M3 =>
        if v4 = 0 then
          some (some (.inl ((0 : Int32) &&& 1)), M3)
        else
          if x1 = x2 then
            some (some (.inl ((0 : Int32) &&& 1)), M3)
          else
            some (some (.inl ((1 : Int32) &&& 1)), M3)
set_option maxRecDepth 100000 in
set_option maxHeartbeats 4000000 in
theorem e143 (z : Nat) : ∀ (x1 : Int32) (x2 : Int32) (M : aM) (r : aR), f143 z x1 x2 M = some r → am_Ev 2 143 0 [some (.inr (.inr (10, 0))), some (.inl x1), some (.inl x2)] [] M r := by
  intro x1 x2 M r h
  exact am_Ev_seg (sem := am_s143_ z) (cut := ([] : List (Nat × List Bool))) (hs143 z) am_r143 am_k143 (by rw [am_l143]; decide) (fun _ _ _ _ => none) 17 h (fun _ _ _ _ hk => by cases hk)
def F143 (z : Nat) (as : List aV) (M : aM) : Option aR := match as with
  | [.inr (.inr (10, 0)), .inl x1, .inl x2] => f143 z x1 x2 M
  | _ => none
theorem S143 (z : Nat) : am_Snd 2 143 (F143 z) := am_meth (by decide +kernel) (fun as M r has h => by
    rw [am_l143]
    unfold F143 at h
    split at h
    · exact ⟨Nat.le_of_ble_eq_true rfl, e143 z _ _ _ _ h⟩
    · cases h)
def cd144_0 : List am_E := [(0, .aload_n 0, 1, 0, 0, 0, 0), (1, .iload_n 1, 1, 1, 0, 0, 0), (2, .iload_n 2, 1, 2, 0, 0, 0), (3, .invokevirtual 315, 3, 143, 10020, 0, 0), (6, .ifCond .ne 6, 3, 12, 0, 0, 0), (9, .bipush (-2), 2, 0, 0, (-2), 0), (11, .ireturn, 1, 0, 0, 0, 0), (12, .iconst 0, 1, 0, 0, 0, 0), (13, .istore_n 3, 1, 3, 0, 0, 0), (14, .iconst 0, 1, 0, 0, 0, 0), (15, .istore 4, 2, 4, 0, 0, 0), (17, .iload 4, 2, 4, 0, 0, 0), (19, .iconst 4, 1, 0, 0, 4, 0), (20, .if_icmp .ge 130, 3, 150, 0, 0, 0), (23, .iload 4, 2, 4, 0, 0, 0), (25, .iconst 1, 1, 0, 0, 1, 0), (26, .iand, 1, 0, 0, 0, 0), (27, .istore 5, 2, 5, 0, 0, 0), (29, .iload 4, 2, 4, 0, 0, 0), (31, .iconst 1, 1, 0, 0, 1, 0), (32, .ishr, 1, 0, 0, 0, 0), (33, .istore 6, 2, 6, 0, 0, 0), (35, .aload_n 0, 1, 0, 0, 0, 0), (36, .getfield 40, 3, 10, 4, 0, 0), (39, .aload_n 0, 1, 0, 0, 0, 0), (40, .getfield 19, 3, 10, 1, 0, 0), (43, .iload_n 1, 1, 1, 0, 0, 0), (44, .iload_n 2, 1, 2, 0, 0, 0), (45, .iload 5, 2, 5, 0, 0, 0), (47, .iload 6, 2, 6, 0, 0, 0), (49, .invokevirtual 319, 3, 51, 6050, 0, 0), (52, .aload_n 0, 1, 0, 0, 0, 0), (53, .getfield 40, 3, 10, 4, 0, 0), (56, .aload_n 0, 1, 0, 0, 0, 0), (57, .getfield 19, 3, 10, 1, 0, 0), (60, .iload_n 1, 1, 1, 0, 0, 0), (61, .iload_n 2, 1, 2, 0, 0, 0), (62, .iconst 1, 1, 0, 0, 1, 0), (63, .iload 5, 2, 5, 0, 0, 0), (65, .isub, 1, 0, 0, 0, 0)]
def cd144_1 : List am_E := [(66, .iload 6, 2, 6, 0, 0, 0), (68, .invokevirtual 319, 3, 51, 6050, 0, 0), (71, .if_icmp .lt 7, 3, 78, 0, 0, 0), (74, .iconst 1, 1, 0, 0, 1, 0), (75, .goto 4, 3, 79, 0, 0, 0), (78, .iconst 0, 1, 0, 0, 0, 0), (79, .istore 7, 2, 7, 0, 0, 0), (81, .aload_n 0, 1, 0, 0, 0, 0), (82, .getfield 40, 3, 10, 4, 0, 0), (85, .aload_n 0, 1, 0, 0, 0, 0), (86, .getfield 19, 3, 10, 1, 0, 0), (89, .iload_n 2, 1, 2, 0, 0, 0), (90, .iload_n 1, 1, 1, 0, 0, 0), (91, .iload 6, 2, 6, 0, 0, 0), (93, .iload 5, 2, 5, 0, 0, 0), (95, .invokevirtual 319, 3, 51, 6050, 0, 0), (98, .aload_n 0, 1, 0, 0, 0, 0), (99, .getfield 40, 3, 10, 4, 0, 0), (102, .aload_n 0, 1, 0, 0, 0, 0), (103, .getfield 19, 3, 10, 1, 0, 0), (106, .iload_n 2, 1, 2, 0, 0, 0), (107, .iload_n 1, 1, 1, 0, 0, 0), (108, .iconst 1, 1, 0, 0, 1, 0), (109, .iload 6, 2, 6, 0, 0, 0), (111, .isub, 1, 0, 0, 0, 0), (112, .iload 5, 2, 5, 0, 0, 0), (114, .invokevirtual 319, 3, 51, 6050, 0, 0), (117, .if_icmp .lt 7, 3, 124, 0, 0, 0), (120, .iconst 1, 1, 0, 0, 1, 0), (121, .goto 4, 3, 125, 0, 0, 0), (124, .iconst 0, 1, 0, 0, 0, 0), (125, .istore 8, 2, 8, 0, 0, 0), (127, .iload 7, 2, 7, 0, 0, 0), (129, .ifCond .eq 15, 3, 144, 0, 0, 0), (132, .iload 8, 2, 8, 0, 0, 0), (134, .ifCond .eq 10, 3, 144, 0, 0, 0), (137, .iload_n 3, 1, 3, 0, 0, 0), (138, .iconst 1, 1, 0, 0, 1, 0), (139, .iload 4, 2, 4, 0, 0, 0), (141, .ishl, 1, 0, 0, 0, 0)]
def cd144_2 : List am_E := [(142, .ior, 1, 0, 0, 0, 0), (143, .istore_n 3, 1, 3, 0, 0, 0), (144, .iinc 4 1, 3, 4, 0, 1, 0), (147, .goto (-130), 3, 17, 0, 0, 0), (150, .iload_n 3, 1, 3, 0, 0, 0), (151, .ireturn, 1, 0, 0, 0, 0)]
def cd144 : List am_E := cd144_0 ++ (cd144_1 ++ (cd144_2))
def am_w144 : List (List (Int32 × Nat) × Nat) := []
set_option maxRecDepth 100000 in
theorem kcd144_0 : cd144_0.all (am_chk am_w144 144) = true := by decide +kernel
set_option maxRecDepth 100000 in
theorem kcd144_1 : cd144_1.all (am_chk am_w144 144) = true := by decide +kernel
set_option maxRecDepth 100000 in
theorem kcd144_2 : cd144_2.all (am_chk am_w144 144) = true := by decide +kernel
theorem am_k144 : cd144.all (am_chk am_w144 144) = true := by
  simp only [cd144, List.all_append, kcd144_0, kcd144_1, kcd144_2, Bool.and_self]
theorem am_r144 : am_rtc 144 = 0 := by decide +kernel
theorem am_l144 : am_ml 144 = 9 := by decide +kernel
def am_s144_ (z : Nat) : Nat → List aV → aM → Option aR := fun j => (match Nat.beq j 51 with
  | true => F51 z
  | false => (match Nat.beq j 143 with
  | true => F143 z
  | false => (fun _ _ => none)))
theorem hs144 (z : Nat) : ∀ j2 : Nat, ∃ d2 : Nat, d2 + 1 ≤ 6 ∧ am_Snd d2 j2 (am_s144_ z j2) := by
  intro j2
  unfold am_s144_
  split
  · rename_i he
    rw [am_beq he]
    exact ⟨_, by decide, S51 z⟩
  · skip
    split
    · rename_i he
      rw [am_beq he]
      exact ⟨_, by decide, S143 z⟩
    · skip
      exact ⟨0, by decide, am_Snd_no j2⟩
def f144_17 (z : Nat) : Nat → Int32 → Int32 → Int32 → Int32 → aM → Option aR
  | 0, _, _, _, _, _ => none
  | n + 1, x1, x2, x3, x4, M =>
    if (4 : Int32) ≤ x4 then
      some (some (.inl x3), M)
    else
      am_bi (f51 z 18 x1 x2 (x4 &&& (1 : Int32)) (x4 >>> ((1 : Int32) &&& 31)) M) fun v2 M1 =>
        am_bi (f51 z 18 x1 x2 ((1 : Int32) - (x4 &&& (1 : Int32))) (x4 >>> ((1 : Int32) &&& 31)) M1) fun v4 M3 =>
          if v2 < v4 then
            am_bi (f51 z 18 x2 x1 (x4 >>> ((1 : Int32) &&& 31)) (x4 &&& (1 : Int32)) M3) fun v6 M5 =>
              am_bi (f51 z 18 x2 x1 ((1 : Int32) - (x4 >>> ((1 : Int32) &&& 31))) (x4 &&& (1 : Int32)) M5) fun v8 M7 =>
                if v6 < v8 then
                  if (0 : Int32) = 0 then
                    f144_17 z n x1 x2 x3 (x4 + (1 : Int32)) M7
                  else
                    if (0 : Int32) = 0 then
                      f144_17 z n x1 x2 x3 (x4 + (1 : Int32)) M7
                    else
                      f144_17 z n x1 x2 (x3 ||| ((1 : Int32) <<< (x4 &&& 31))) (x4 + (1 : Int32)) M7
                else
                  if (0 : Int32) = 0 then
                    f144_17 z n x1 x2 x3 (x4 + (1 : Int32)) M7
                  else
                    if (1 : Int32) = 0 then
                      f144_17 z n x1 x2 x3 (x4 + (1 : Int32)) M7
                    else
                      f144_17 z n x1 x2 (x3 ||| ((1 : Int32) <<< (x4 &&& 31))) (x4 + (1 : Int32)) M7
          else
            am_bi (f51 z 18 x2 x1 (x4 >>> ((1 : Int32) &&& 31)) (x4 &&& (1 : Int32)) M3) fun v10 M9 =>
              am_bi (f51 z 18 x2 x1 ((1 : Int32) - (x4 >>> ((1 : Int32) &&& 31))) (x4 &&& (1 : Int32)) M9) fun v12 M11 =>
                if v10 < v12 then
                  if (1 : Int32) = 0 then
                    f144_17 z n x1 x2 x3 (x4 + (1 : Int32)) M11
                  else
                    if (0 : Int32) = 0 then
                      f144_17 z n x1 x2 x3 (x4 + (1 : Int32)) M11
                    else
                      f144_17 z n x1 x2 (x3 ||| ((1 : Int32) <<< (x4 &&& 31))) (x4 + (1 : Int32)) M11
                else
                  if (1 : Int32) = 0 then
                    f144_17 z n x1 x2 x3 (x4 + (1 : Int32)) M11
                  else
                    if (1 : Int32) = 0 then
                      f144_17 z n x1 x2 x3 (x4 + (1 : Int32)) M11
                    else
                      f144_17 z n x1 x2 (x3 ||| ((1 : Int32) <<< (x4 &&& 31))) (x4 + (1 : Int32)) M11
set_option maxRecDepth 100000 in
set_option maxHeartbeats 4000000 in
theorem e144_17 (z : Nat) : ∀ (n : Nat) (x1 : Int32) (x2 : Int32) (x3 : Int32) (x4 : Int32) (M : aM) (r : aR), f144_17 z n x1 x2 x3 x4 M = some r → am_Ev 6 144 17 [some (.inr (.inr (10, 0))), some (.inl x1), some (.inl x2), some (.inl x3), some (.inl x4), none, none, none, none] [] M r := by
  intro n
  induction n with
  | zero =>
    intro x1 x2 x3 x4 M r h
    cases h
  | succ n ih =>
    intro x1 x2 x3 x4 M r h
    exact am_Ev_seg (sem := am_s144_ z) (cut := ([(17, [true, true, true, true, true, false, false, false, false])] : List (Nat × List Bool))) (hs144 z) am_r144 am_k144 (by rw [am_l144]; decide) (fun pc al st M => (match Nat.beq pc 17 with
      | true => (match al, st with
        | [some (.inr (.inr (10, 0))), some (.inl x1), some (.inl x2), some (.inl x3), some (.inl x4), none, none, none, none], [] => f144_17 z n x1 x2 x3 x4 M
        | _, _ => none)
      | false => none)) 73 h (fun pc al st M hk => by
      try dsimp only at hk
      split at hk
      · rename_i he
        rw [am_beq he]
        split at hk
        · exact ih _ _ _ _ _ _ hk
        · cases hk
      · cases hk)
/-- ArgumentMender.rests(II)I -/
def f144 (z : Nat) (x1 : Int32) (x2 : Int32) (M : aM) : Option aR :=
  am_bi (f143 z x1 x2 M) fun v2 M1 =>
    if ¬ v2 = 0 then
      f144_17 z z x1 x2 (0 : Int32) (0 : Int32) M1
    else
      some (some (.inl (-2 : Int32)), M1)
set_option maxRecDepth 100000 in
set_option maxHeartbeats 4000000 in
theorem e144 (z : Nat) : ∀ (x1 : Int32) (x2 : Int32) (M : aM) (r : aR), f144 z x1 x2 M = some r → am_Ev 6 144 0 [some (.inr (.inr (10, 0))), some (.inl x1), some (.inl x2), none, none, none, none, none, none] [] M r := by
  intro x1 x2 M r h
  exact am_Ev_seg (sem := am_s144_ z) (cut := ([(17, [true, true, true, true, true, false, false, false, false])] : List (Nat × List Bool))) (hs144 z) am_r144 am_k144 (by rw [am_l144]; decide) (fun pc al st M => (match Nat.beq pc 17 with
      | true => (match al, st with
        | [some (.inr (.inr (10, 0))), some (.inl x1), some (.inl x2), some (.inl x3), some (.inl x4), none, none, none, none], [] => f144_17 z z x1 x2 x3 x4 M
        | _, _ => none)
      | false => none)) 11 h (fun pc al st M hk => by
      try dsimp only at hk
      split at hk
      · rename_i he
        rw [am_beq he]
        split at hk
        · exact e144_17 z _ _ _ _ _ _ _ hk
        · cases hk
      · cases hk)
def F144 (z : Nat) (as : List aV) (M : aM) : Option aR := match as with
  | [.inr (.inr (10, 0)), .inl x1, .inl x2] => f144 z x1 x2 M
  | _ => none
theorem S144 (z : Nat) : am_Snd 6 144 (F144 z) := am_meth (by decide +kernel) (fun as M r has h => by
    rw [am_l144]
    unfold F144 at h
    split at h
    · exact ⟨Nat.le_of_ble_eq_true rfl, e144 z _ _ _ _ h⟩
    · cases h)
def cd145_0 : List am_E := [(0, .aload_n 0, 1, 0, 0, 0, 0), (1, .iload_n 1, 1, 1, 0, 0, 0), (2, .iload_n 2, 1, 2, 0, 0, 0), (3, .invokevirtual 315, 3, 143, 10020, 0, 0), (6, .ifCond .eq 22, 3, 28, 0, 0, 0), (9, .iload_n 3, 1, 3, 0, 0, 0), (10, .iconst 0, 1, 0, 0, 0, 0), (11, .iconst 1, 1, 0, 0, 1, 0), (12, .invokestatic 215, 3, 165, 35, 0, 0), (15, .ifCond .eq 13, 3, 28, 0, 0, 0), (18, .iload 4, 2, 4, 0, 0, 0), (20, .iconst 0, 1, 0, 0, 0, 0), (21, .iconst 1, 1, 0, 0, 1, 0), (22, .invokestatic 215, 3, 165, 35, 0, 0), (25, .ifCond .ne 7, 3, 32, 0, 0, 0), (28, .sipush (-1000), 3, 0, 0, (-1000), 0), (31, .ireturn, 1, 0, 0, 0, 0), (32, .aload_n 0, 1, 0, 0, 0, 0), (33, .getfield 40, 3, 10, 4, 0, 0), (36, .aload_n 0, 1, 0, 0, 0, 0), (37, .getfield 19, 3, 10, 1, 0, 0), (40, .iload_n 1, 1, 1, 0, 0, 0), (41, .iload_n 2, 1, 2, 0, 0, 0), (42, .iload_n 3, 1, 3, 0, 0, 0), (43, .iload 4, 2, 4, 0, 0, 0), (45, .invokevirtual 319, 3, 51, 6050, 0, 0), (48, .ireturn, 1, 0, 0, 0, 0)]
def cd145 : List am_E := cd145_0
def am_w145 : List (List (Int32 × Nat) × Nat) := []
set_option maxRecDepth 100000 in
theorem kcd145_0 : cd145_0.all (am_chk am_w145 145) = true := by decide +kernel
theorem am_k145 : cd145.all (am_chk am_w145 145) = true := by
  simp only [cd145, List.all_append, kcd145_0, Bool.and_self]
theorem am_r145 : am_rtc 145 = 0 := by decide +kernel
theorem am_l145 : am_ml 145 = 5 := by decide +kernel
def am_s145_ (z : Nat) : Nat → List aV → aM → Option aR := fun j => (match Nat.beq j 51 with
  | true => F51 z
  | false => (match Nat.beq j 143 with
  | true => F143 z
  | false => (match Nat.beq j 165 with
  | true => F165 z
  | false => (fun _ _ => none))))
theorem hs145 (z : Nat) : ∀ j2 : Nat, ∃ d2 : Nat, d2 + 1 ≤ 6 ∧ am_Snd d2 j2 (am_s145_ z j2) := by
  intro j2
  unfold am_s145_
  split
  · rename_i he
    rw [am_beq he]
    exact ⟨_, by decide, S51 z⟩
  · skip
    split
    · rename_i he
      rw [am_beq he]
      exact ⟨_, by decide, S143 z⟩
    · skip
      split
      · rename_i he
        rw [am_beq he]
        exact ⟨_, by decide, S165 z⟩
      · skip
        exact ⟨0, by decide, am_Snd_no j2⟩
/-- ArgumentMender.gets(IIII)I -/
def f145 (z : Nat) (x1 : Int32) (x2 : Int32) (x3 : Int32) (x4 : Int32) (M : aM) : Option aR :=
  am_bi (f143 z x1 x2 M) fun v2 M1 =>
    if v2 = 0 then
      some (some (.inl (-1000 : Int32)), M1)
    else
      am_bi (f165 z x3 (0 : Int32) (1 : Int32) M1) fun v4 M3 =>
        if v4 = 0 then
          some (some (.inl (-1000 : Int32)), M3)
        else
          am_bi (f165 z x4 (0 : Int32) (1 : Int32) M3) fun v6 M5 =>
            if ¬ v6 = 0 then
              am_bi (f51 z 18 x1 x2 x3 x4 M5) fun v8 M7 =>
                some (some (.inl v8), M7)
            else
              some (some (.inl (-1000 : Int32)), M5)
set_option maxRecDepth 100000 in
set_option maxHeartbeats 4000000 in
theorem e145 (z : Nat) : ∀ (x1 : Int32) (x2 : Int32) (x3 : Int32) (x4 : Int32) (M : aM) (r : aR), f145 z x1 x2 x3 x4 M = some r → am_Ev 6 145 0 [some (.inr (.inr (10, 0))), some (.inl x1), some (.inl x2), some (.inl x3), some (.inl x4)] [] M r := by
  intro x1 x2 x3 x4 M r h
  exact am_Ev_seg (sem := am_s145_ z) (cut := ([] : List (Nat × List Bool))) (hs145 z) am_r145 am_k145 (by rw [am_l145]; decide) (fun _ _ _ _ => none) 26 h (fun _ _ _ _ hk => by cases hk)
def F145 (z : Nat) (as : List aV) (M : aM) : Option aR := match as with
  | [.inr (.inr (10, 0)), .inl x1, .inl x2, .inl x3, .inl x4] => f145 z x1 x2 x3 x4 M
  | _ => none
theorem S145 (z : Nat) : am_Snd 6 145 (F145 z) := am_meth (by decide +kernel) (fun as M r has h => by
    rw [am_l145]
    unfold F145 at h
    split at h
    · exact ⟨Nat.le_of_ble_eq_true rfl, e145 z _ _ _ _ _ _ h⟩
    · cases h)
def cd149_0 : List am_E := [(0, .lconst 1, 1, 0, 0, 0, 1), (1, .lstore_n 3, 1, 3, 0, 0, 0), (2, .iconst 0, 1, 0, 0, 0, 0), (3, .istore 5, 2, 5, 0, 0, 0), (5, .iload 5, 2, 5, 0, 0, 0), (7, .iload_n 2, 1, 2, 0, 0, 0), (8, .if_icmp .ge 20, 3, 28, 0, 0, 0), (11, .iload 5, 2, 5, 0, 0, 0), (13, .bipush 8, 2, 0, 0, 8, 0), (15, .if_icmp .ge 13, 3, 28, 0, 0, 0), (18, .lload_n 3, 1, 3, 0, 0, 0), (19, .lload_n 0, 1, 0, 0, 0, 0), (20, .lmul, 1, 0, 0, 0, 0), (21, .lstore_n 3, 1, 3, 0, 0, 0), (22, .iinc 5 1, 3, 5, 0, 1, 0), (25, .goto (-20), 3, 5, 0, 0, 0), (28, .lload_n 3, 1, 3, 0, 0, 0), (29, .lreturn, 1, 0, 0, 0, 0)]
def cd149 : List am_E := cd149_0
def am_w149 : List (List (Int32 × Nat) × Nat) := []
set_option maxRecDepth 100000 in
theorem kcd149_0 : cd149_0.all (am_chk am_w149 149) = true := by decide +kernel
theorem am_k149 : cd149.all (am_chk am_w149 149) = true := by
  simp only [cd149, List.all_append, kcd149_0, Bool.and_self]
theorem am_r149 : am_rtc 149 = 2 := by decide +kernel
theorem am_l149 : am_ml 149 = 6 := by decide +kernel
def am_s149_ (z : Nat) : Nat → List aV → aM → Option aR := fun j => (fun _ _ => none)
theorem hs149 (z : Nat) : ∀ j2 : Nat, ∃ d2 : Nat, d2 + 1 ≤ 1 ∧ am_Snd d2 j2 (am_s149_ z j2) := by
  intro j2
  unfold am_s149_
  exact ⟨0, by decide, am_Snd_no j2⟩
def f149_5 (z : Nat) : Nat → Int64 → Int32 → Int64 → Int32 → aM → Option aR
  | 0, _, _, _, _, _ => none
  | n + 1, y0, x2, y3, x5, M =>
    if x2 ≤ x5 then
      some (some (.inr (.inl y3)), M)
    else
      if (8 : Int32) ≤ x5 then
        some (some (.inr (.inl y3)), M)
      else
        f149_5 z n y0 x2 (y3 * y0) (x5 + (1 : Int32)) M
set_option maxRecDepth 100000 in
set_option maxHeartbeats 4000000 in
theorem e149_5 (z : Nat) : ∀ (n : Nat) (y0 : Int64) (x2 : Int32) (y3 : Int64) (x5 : Int32) (M : aM) (r : aR), f149_5 z n y0 x2 y3 x5 M = some r → am_Ev 1 149 5 [some (.inr (.inl y0)), none, some (.inl x2), some (.inr (.inl y3)), none, some (.inl x5)] [] M r := by
  intro n
  induction n with
  | zero =>
    intro y0 x2 y3 x5 M r h
    cases h
  | succ n ih =>
    intro y0 x2 y3 x5 M r h
    exact am_Ev_seg (sem := am_s149_ z) (cut := ([(5, [true, false, true, true, false, true])] : List (Nat × List Bool))) (hs149 z) am_r149 am_k149 (by rw [am_l149]; decide) (fun pc al st M => (match Nat.beq pc 5 with
      | true => (match al, st with
        | [some (.inr (.inl y0)), none, some (.inl x2), some (.inr (.inl y3)), none, some (.inl x5)], [] => f149_5 z n y0 x2 y3 x5 M
        | _, _ => none)
      | false => none)) 14 h (fun pc al st M hk => by
      try dsimp only at hk
      split at hk
      · rename_i he
        rw [am_beq he]
        split at hk
        · exact ih _ _ _ _ _ _ hk
        · cases hk
      · cases hk)
/-- ArgumentMender.power(JI)J -/
def f149 (z : Nat) (y0 : Int64) (x2 : Int32) (M : aM) : Option aR :=
  f149_5 z z y0 x2 (1 : Int64) (0 : Int32) M
set_option maxRecDepth 100000 in
set_option maxHeartbeats 4000000 in
theorem e149 (z : Nat) : ∀ (y0 : Int64) (x2 : Int32) (M : aM) (r : aR), f149 z y0 x2 M = some r → am_Ev 1 149 0 [some (.inr (.inl y0)), none, some (.inl x2), none, none, none] [] M r := by
  intro y0 x2 M r h
  exact am_Ev_seg (sem := am_s149_ z) (cut := ([(5, [true, false, true, true, false, true])] : List (Nat × List Bool))) (hs149 z) am_r149 am_k149 (by rw [am_l149]; decide) (fun pc al st M => (match Nat.beq pc 5 with
      | true => (match al, st with
        | [some (.inr (.inl y0)), none, some (.inl x2), some (.inr (.inl y3)), none, some (.inl x5)], [] => f149_5 z z y0 x2 y3 x5 M
        | _, _ => none)
      | false => none)) 6 h (fun pc al st M hk => by
      try dsimp only at hk
      split at hk
      · rename_i he
        rw [am_beq he]
        split at hk
        · exact e149_5 z _ _ _ _ _ _ _ hk
        · cases hk
      · cases hk)
def F149 (z : Nat) (as : List aV) (M : aM) : Option aR := match as with
  | [.inr (.inl y0), .inl x2] => f149 z y0 x2 M
  | _ => none
theorem S149 (z : Nat) : am_Snd 1 149 (F149 z) := am_meth (by decide +kernel) (fun as M r has h => by
    rw [am_l149]
    unfold F149 at h
    split at h
    · exact ⟨Nat.le_of_ble_eq_true rfl, e149 z _ _ _ _ h⟩
    · cases h)
def cd148_0 : List am_E := [(0, .aload_n 0, 1, 0, 0, 0, 0), (1, .getfield 19, 3, 10, 1, 0, 0), (4, .getfield 201, 3, 1, 6, 0, 0), (7, .bipush 8, 2, 0, 0, 8, 0), (9, .if_icmp .le 7, 3, 16, 0, 0, 0), (12, .ldc2_w 329, 3, 0, 0, 0, (-3)), (15, .lreturn, 1, 0, 0, 0, 0), (16, .lconst 0, 1, 0, 0, 0, 0), (17, .lstore_n 3, 1, 3, 0, 0, 0), (18, .iconst 0, 1, 0, 0, 0, 0), (19, .istore 5, 2, 5, 0, 0, 0), (21, .iload 5, 2, 5, 0, 0, 0), (23, .aload_n 0, 1, 0, 0, 0, 0), (24, .getfield 19, 3, 10, 1, 0, 0), (27, .invokevirtual 256, 3, 15, 1000, 0, 0), (30, .if_icmp .gt 88, 3, 118, 0, 0, 0), (33, .iload 5, 2, 5, 0, 0, 0), (35, .invokestatic 204, 3, 328, 15, 0, 0), (38, .istore 6, 2, 6, 0, 0, 0), (40, .aload_n 0, 1, 0, 0, 0, 0), (41, .getfield 19, 3, 10, 1, 0, 0), (44, .getfield 331, 3, 1, 3, 0, 0), (47, .i2l, 1, 0, 0, 0, 0), (48, .iload 6, 2, 6, 0, 0, 0), (50, .invokestatic 334, 3, 149, 27, 0, 0), (53, .bipush 10, 2, 0, 0, 10, 0), (55, .aload_n 0, 1, 0, 0, 0, 0), (56, .getfield 19, 3, 10, 1, 0, 0), (59, .getfield 331, 3, 1, 3, 0, 0), (62, .isub, 1, 0, 0, 0, 0), (63, .i2l, 1, 0, 0, 0, 0), (64, .aload_n 0, 1, 0, 0, 0, 0), (65, .getfield 19, 3, 10, 1, 0, 0), (68, .getfield 201, 3, 1, 6, 0, 0), (71, .iload 6, 2, 6, 0, 0, 0), (73, .isub, 1, 0, 0, 0, 0), (74, .invokestatic 334, 3, 149, 27, 0, 0), (77, .lmul, 1, 0, 0, 0, 0), (78, .lstore 7, 2, 7, 0, 0, 0), (80, .lload 7, 2, 7, 0, 0, 0)]
def cd148_1 : List am_E := [(82, .lconst 0, 1, 0, 0, 0, 0), (83, .lcmp, 1, 0, 0, 0, 0), (84, .ifCond .le 28, 3, 112, 0, 0, 0), (87, .lload_n 3, 1, 3, 0, 0, 0), (88, .lload 7, 2, 7, 0, 0, 0), (90, .aload_n 0, 1, 0, 0, 0, 0), (91, .getfield 40, 3, 10, 4, 0, 0), (94, .aload_n 0, 1, 0, 0, 0, 0), (95, .getfield 19, 3, 10, 1, 0, 0), (98, .iload 5, 2, 5, 0, 0, 0), (100, .invokevirtual 259, 3, 47, 6020, 0, 0), (103, .iload_n 1, 1, 1, 0, 0, 0), (104, .iand, 1, 0, 0, 0, 0), (105, .invokestatic 204, 3, 328, 15, 0, 0), (108, .i2l, 1, 0, 0, 0, 0), (109, .lmul, 1, 0, 0, 0, 0), (110, .ladd, 1, 0, 0, 0, 0), (111, .lstore_n 3, 1, 3, 0, 0, 0), (112, .iinc 5 1, 3, 5, 0, 1, 0), (115, .goto (-94), 3, 21, 0, 0, 0), (118, .lload_n 3, 1, 3, 0, 0, 0), (119, .ldc2_w 338, 3, 0, 0, 0, 10), (122, .aload_n 0, 1, 0, 0, 0, 0), (123, .getfield 19, 3, 10, 1, 0, 0), (126, .getfield 201, 3, 1, 6, 0, 0), (129, .invokestatic 334, 3, 149, 27, 0, 0), (132, .iload_n 2, 1, 2, 0, 0, 0), (133, .invokestatic 311, 3, 150, 37, 0, 0), (136, .lreturn, 1, 0, 0, 0, 0)]
def cd148 : List am_E := cd148_0 ++ (cd148_1)
def am_w148 : List (List (Int32 × Nat) × Nat) := []
set_option maxRecDepth 100000 in
theorem kcd148_0 : cd148_0.all (am_chk am_w148 148) = true := by decide +kernel
set_option maxRecDepth 100000 in
theorem kcd148_1 : cd148_1.all (am_chk am_w148 148) = true := by decide +kernel
theorem am_k148 : cd148.all (am_chk am_w148 148) = true := by
  simp only [cd148, List.all_append, kcd148_0, kcd148_1, Bool.and_self]
theorem am_r148 : am_rtc 148 = 2 := by decide +kernel
theorem am_l148 : am_ml 148 = 9 := by decide +kernel
def am_s148_ (z : Nat) : Nat → List aV → aM → Option aR := fun j => (match Nat.beq j 15 with
  | true => F15 z
  | false => (match Nat.beq j 47 with
  | true => F47 z
  | false => (match Nat.beq j 149 with
  | true => F149 z
  | false => (match Nat.beq j 150 with
  | true => F150 z
  | false => (match Nat.beq j 328 with
  | true => F328 z
  | false => (fun _ _ => none))))))
theorem hs148 (z : Nat) : ∀ j2 : Nat, ∃ d2 : Nat, d2 + 1 ≤ 6 ∧ am_Snd d2 j2 (am_s148_ z j2) := by
  intro j2
  unfold am_s148_
  split
  · rename_i he
    rw [am_beq he]
    exact ⟨_, by decide, S15 z⟩
  · skip
    split
    · rename_i he
      rw [am_beq he]
      exact ⟨_, by decide, S47 z⟩
    · skip
      split
      · rename_i he
        rw [am_beq he]
        exact ⟨_, by decide, S149 z⟩
      · skip
        split
        · rename_i he
          rw [am_beq he]
          exact ⟨_, by decide, S150 z⟩
        · skip
          split
          · rename_i he
            rw [am_beq he]
            exact ⟨_, by decide, S328 z⟩
          · skip
            exact ⟨0, by decide, am_Snd_no j2⟩
def f148_21 (z : Nat) : Nat → Int32 → Int32 → Int64 → Int32 → aM → Option aR
  | 0, _, _, _, _, _ => none
  | n + 1, x1, x2, y3, x5, M =>
    am_bi (f15 z 18 M) fun v2 M1 =>
      if v2 < x5 then
        am_bl (f149 z (10 : Int64) (M1.1 18 6) M1) fun v4 M3 =>
          am_bl (f150 z y3 v4 x2 M3) fun v6 M5 =>
            some (some (.inr (.inl v6)), M5)
      else
        am_bi (f328 z x5 M1) fun v8 M7 =>
          am_bl (f149 z (Int32.toInt64 (M7.1 18 3)) v8 M7) fun v10 M9 =>
            am_bl (f149 z (Int32.toInt64 ((10 : Int32) - (M9.1 18 3))) ((M9.1 18 6) - v8) M9) fun v12 M11 =>
              if (lg_cmp (v10 * v12) (0 : Int64)) ≤ 0 then
                f148_21 z n x1 x2 y3 (x5 + (1 : Int32)) M11
              else
                am_bi (f47 z 18 x5 M11) fun v14 M13 =>
                  am_bi (f328 z (v14 &&& x1) M13) fun v16 M15 =>
                    f148_21 z n x1 x2 (y3 + ((v10 * v12) * (Int32.toInt64 v16))) (x5 + (1 : Int32)) M15
set_option maxRecDepth 100000 in
set_option maxHeartbeats 4000000 in
theorem e148_21 (z : Nat) : ∀ (n : Nat) (x1 : Int32) (x2 : Int32) (y3 : Int64) (x5 : Int32) (M : aM) (r : aR), f148_21 z n x1 x2 y3 x5 M = some r → am_Ev 6 148 21 [some (.inr (.inr (10, 0))), some (.inl x1), some (.inl x2), some (.inr (.inl y3)), none, some (.inl x5), none, none, none] [] M r := by
  intro n
  induction n with
  | zero =>
    intro x1 x2 y3 x5 M r h
    cases h
  | succ n ih =>
    intro x1 x2 y3 x5 M r h
    exact am_Ev_seg (sem := am_s148_ z) (cut := ([(21, [true, true, true, true, false, true, false, false, false])] : List (Nat × List Bool))) (hs148 z) am_r148 am_k148 (by rw [am_l148]; decide) (fun pc al st M => (match Nat.beq pc 21 with
      | true => (match al, st with
        | [some (.inr (.inr (10, 0))), some (.inl x1), some (.inl x2), some (.inr (.inl y3)), none, some (.inl x5), none, none, none], [] => f148_21 z n x1 x2 y3 x5 M
        | _, _ => none)
      | false => none)) 51 h (fun pc al st M hk => by
      try dsimp only at hk
      split at hk
      · rename_i he
        rw [am_beq he]
        split at hk
        · exact ih _ _ _ _ _ _ hk
        · cases hk
      · cases hk)
/-- ArgumentMender.expected(II)J -/
def f148 (z : Nat) (x1 : Int32) (x2 : Int32) (M : aM) : Option aR :=
  if (M.1 18 6) ≤ (8 : Int32) then
    f148_21 z z x1 x2 (0 : Int64) (0 : Int32) M
  else
    some (some (.inr (.inl (-3 : Int64))), M)
set_option maxRecDepth 100000 in
set_option maxHeartbeats 4000000 in
theorem e148 (z : Nat) : ∀ (x1 : Int32) (x2 : Int32) (M : aM) (r : aR), f148 z x1 x2 M = some r → am_Ev 6 148 0 [some (.inr (.inr (10, 0))), some (.inl x1), some (.inl x2), none, none, none, none, none, none] [] M r := by
  intro x1 x2 M r h
  exact am_Ev_seg (sem := am_s148_ z) (cut := ([(21, [true, true, true, true, false, true, false, false, false])] : List (Nat × List Bool))) (hs148 z) am_r148 am_k148 (by rw [am_l148]; decide) (fun pc al st M => (match Nat.beq pc 21 with
      | true => (match al, st with
        | [some (.inr (.inr (10, 0))), some (.inl x1), some (.inl x2), some (.inr (.inl y3)), none, some (.inl x5), none, none, none], [] => f148_21 z z x1 x2 y3 x5 M
        | _, _ => none)
      | false => none)) 11 h (fun pc al st M hk => by
      try dsimp only at hk
      split at hk
      · rename_i he
        rw [am_beq he]
        split at hk
        · exact e148_21 z _ _ _ _ _ _ _ hk
        · cases hk
      · cases hk)
def F148 (z : Nat) (as : List aV) (M : aM) : Option aR := match as with
  | [.inr (.inr (10, 0)), .inl x1, .inl x2] => f148 z x1 x2 M
  | _ => none
theorem S148 (z : Nat) : am_Snd 6 148 (F148 z) := am_meth (by decide +kernel) (fun as M r has h => by
    rw [am_l148]
    unfold F148 at h
    split at h
    · exact ⟨Nat.le_of_ble_eq_true rfl, e148 z _ _ _ _ h⟩
    · cases h)
def cd146_0 : List am_E := [(0, .aload_n 0, 1, 0, 0, 0, 0), (1, .getfield 19, 3, 10, 1, 0, 0), (4, .iload_n 1, 1, 1, 0, 0, 0), (5, .invokevirtual 138, 3, 8, 1010, 0, 0), (8, .ifCond .eq 12, 3, 20, 0, 0, 0), (11, .iload_n 2, 1, 2, 0, 0, 0), (12, .iconst 0, 1, 0, 0, 0, 0), (13, .iconst 1, 1, 0, 0, 1, 0), (14, .invokestatic 215, 3, 165, 35, 0, 0), (17, .ifCond .ne 7, 3, 24, 0, 0, 0), (20, .ldc2_w 323, 3, 0, 0, 0, (-2)), (23, .lreturn, 1, 0, 0, 0, 0), (24, .aload_n 0, 1, 0, 0, 0, 0), (25, .iconst 1, 1, 0, 0, 1, 0), (26, .iload_n 1, 1, 1, 0, 0, 0), (27, .ishl, 1, 0, 0, 0, 0), (28, .iload_n 2, 1, 2, 0, 0, 0), (29, .invokevirtual 325, 3, 148, 10022, 0, 0), (32, .lreturn, 1, 0, 0, 0, 0)]
def cd146 : List am_E := cd146_0
def am_w146 : List (List (Int32 × Nat) × Nat) := []
set_option maxRecDepth 100000 in
theorem kcd146_0 : cd146_0.all (am_chk am_w146 146) = true := by decide +kernel
theorem am_k146 : cd146.all (am_chk am_w146 146) = true := by
  simp only [cd146, List.all_append, kcd146_0, Bool.and_self]
theorem am_r146 : am_rtc 146 = 2 := by decide +kernel
theorem am_l146 : am_ml 146 = 3 := by decide +kernel
def am_s146_ (z : Nat) : Nat → List aV → aM → Option aR := fun j => (match Nat.beq j 8 with
  | true => F8 z
  | false => (match Nat.beq j 148 with
  | true => F148 z
  | false => (match Nat.beq j 165 with
  | true => F165 z
  | false => (fun _ _ => none))))
theorem hs146 (z : Nat) : ∀ j2 : Nat, ∃ d2 : Nat, d2 + 1 ≤ 7 ∧ am_Snd d2 j2 (am_s146_ z j2) := by
  intro j2
  unfold am_s146_
  split
  · rename_i he
    rw [am_beq he]
    exact ⟨_, by decide, S8 z⟩
  · skip
    split
    · rename_i he
      rw [am_beq he]
      exact ⟨_, by decide, S148 z⟩
    · skip
      split
      · rename_i he
        rw [am_beq he]
        exact ⟨_, by decide, S165 z⟩
      · skip
        exact ⟨0, by decide, am_Snd_no j2⟩
/-- ArgumentMender.chance(II)J -/
def f146 (z : Nat) (x1 : Int32) (x2 : Int32) (M : aM) : Option aR :=
  am_bi (f8 z 18 x1 M) fun v2 M1 =>
    if v2 = 0 then
      some (some (.inr (.inl (-2 : Int64))), M1)
    else
      am_bi (f165 z x2 (0 : Int32) (1 : Int32) M1) fun v4 M3 =>
        if ¬ v4 = 0 then
          am_bl (f148 z ((1 : Int32) <<< (x1 &&& 31)) x2 M3) fun v6 M5 =>
            some (some (.inr (.inl v6)), M5)
        else
          some (some (.inr (.inl (-2 : Int64))), M3)
set_option maxRecDepth 100000 in
set_option maxHeartbeats 4000000 in
theorem e146 (z : Nat) : ∀ (x1 : Int32) (x2 : Int32) (M : aM) (r : aR), f146 z x1 x2 M = some r → am_Ev 7 146 0 [some (.inr (.inr (10, 0))), some (.inl x1), some (.inl x2)] [] M r := by
  intro x1 x2 M r h
  exact am_Ev_seg (sem := am_s146_ z) (cut := ([] : List (Nat × List Bool))) (hs146 z) am_r146 am_k146 (by rw [am_l146]; decide) (fun _ _ _ _ => none) 18 h (fun _ _ _ _ hk => by cases hk)
def F146 (z : Nat) (as : List aV) (M : aM) : Option aR := match as with
  | [.inr (.inr (10, 0)), .inl x1, .inl x2] => f146 z x1 x2 M
  | _ => none
theorem S146 (z : Nat) : am_Snd 7 146 (F146 z) := am_meth (by decide +kernel) (fun as M r has h => by
    rw [am_l146]
    unfold F146 at h
    split at h
    · exact ⟨Nat.le_of_ble_eq_true rfl, e146 z _ _ _ _ h⟩
    · cases h)
def cd147_0 : List am_E := [(0, .aload_n 0, 1, 0, 0, 0, 0), (1, .getfield 19, 3, 10, 1, 0, 0), (4, .invokevirtual 176, 3, 7, 1000, 0, 0), (7, .ifCond .eq 12, 3, 19, 0, 0, 0), (10, .iload_n 1, 1, 1, 0, 0, 0), (11, .iconst 0, 1, 0, 0, 0, 0), (12, .iconst 1, 1, 0, 0, 1, 0), (13, .invokestatic 215, 3, 165, 35, 0, 0), (16, .ifCond .ne 7, 3, 23, 0, 0, 0), (19, .ldc2_w 323, 3, 0, 0, 0, (-2)), (22, .lreturn, 1, 0, 0, 0, 0), (23, .aload_n 0, 1, 0, 0, 0, 0), (24, .aload_n 0, 1, 0, 0, 0, 0), (25, .getfield 19, 3, 10, 1, 0, 0), (28, .invokevirtual 179, 3, 13, 1000, 0, 0), (31, .iload_n 1, 1, 1, 0, 0, 0), (32, .invokevirtual 325, 3, 148, 10022, 0, 0), (35, .lreturn, 1, 0, 0, 0, 0)]
def cd147 : List am_E := cd147_0
def am_w147 : List (List (Int32 × Nat) × Nat) := []
set_option maxRecDepth 100000 in
theorem kcd147_0 : cd147_0.all (am_chk am_w147 147) = true := by decide +kernel
theorem am_k147 : cd147.all (am_chk am_w147 147) = true := by
  simp only [cd147, List.all_append, kcd147_0, Bool.and_self]
theorem am_r147 : am_rtc 147 = 2 := by decide +kernel
theorem am_l147 : am_ml 147 = 2 := by decide +kernel
def am_s147_ (z : Nat) : Nat → List aV → aM → Option aR := fun j => (match Nat.beq j 7 with
  | true => F7 z
  | false => (match Nat.beq j 13 with
  | true => F13 z
  | false => (match Nat.beq j 148 with
  | true => F148 z
  | false => (match Nat.beq j 165 with
  | true => F165 z
  | false => (fun _ _ => none)))))
theorem hs147 (z : Nat) : ∀ j2 : Nat, ∃ d2 : Nat, d2 + 1 ≤ 7 ∧ am_Snd d2 j2 (am_s147_ z j2) := by
  intro j2
  unfold am_s147_
  split
  · rename_i he
    rw [am_beq he]
    exact ⟨_, by decide, S7 z⟩
  · skip
    split
    · rename_i he
      rw [am_beq he]
      exact ⟨_, by decide, S13 z⟩
    · skip
      split
      · rename_i he
        rw [am_beq he]
        exact ⟨_, by decide, S148 z⟩
      · skip
        split
        · rename_i he
          rw [am_beq he]
          exact ⟨_, by decide, S165 z⟩
        · skip
          exact ⟨0, by decide, am_Snd_no j2⟩
/-- ArgumentMender.mean(I)J -/
def f147 (z : Nat) (x1 : Int32) (M : aM) : Option aR :=
  am_bi (f7 z 18 M) fun v2 M1 =>
    if v2 = 0 then
      some (some (.inr (.inl (-2 : Int64))), M1)
    else
      am_bi (f165 z x1 (0 : Int32) (1 : Int32) M1) fun v4 M3 =>
        if ¬ v4 = 0 then
          am_bi (f13 z 18 M3) fun v6 M5 =>
            am_bl (f148 z v6 x1 M5) fun v8 M7 =>
              some (some (.inr (.inl v8)), M7)
        else
          some (some (.inr (.inl (-2 : Int64))), M3)
set_option maxRecDepth 100000 in
set_option maxHeartbeats 4000000 in
theorem e147 (z : Nat) : ∀ (x1 : Int32) (M : aM) (r : aR), f147 z x1 M = some r → am_Ev 7 147 0 [some (.inr (.inr (10, 0))), some (.inl x1)] [] M r := by
  intro x1 M r h
  exact am_Ev_seg (sem := am_s147_ z) (cut := ([] : List (Nat × List Bool))) (hs147 z) am_r147 am_k147 (by rw [am_l147]; decide) (fun _ _ _ _ => none) 17 h (fun _ _ _ _ hk => by cases hk)
def F147 (z : Nat) (as : List aV) (M : aM) : Option aR := match as with
  | [.inr (.inr (10, 0)), .inl x1] => f147 z x1 M
  | _ => none
theorem S147 (z : Nat) : am_Snd 7 147 (F147 z) := am_meth (by decide +kernel) (fun as M r has h => by
    rw [am_l147]
    unfold F147 at h
    split at h
    · exact ⟨Nat.le_of_ble_eq_true rfl, e147 z _ _ _ h⟩
    · cases h)
