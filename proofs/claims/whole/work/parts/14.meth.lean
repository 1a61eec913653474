def cd102_0 : List am_E := [(0, .aload_n 0, 1, 0, 0, 0, 0), (1, .getfield 19, 3, 10, 1, 0, 0), (4, .invokevirtual 176, 3, 7, 1000, 0, 0), (7, .ifCond .eq 17, 3, 24, 0, 0, 0), (10, .aload_n 0, 1, 0, 0, 0, 0), (11, .aload_n 0, 1, 0, 0, 0, 0), (12, .getfield 19, 3, 10, 1, 0, 0), (15, .invokevirtual 179, 3, 13, 1000, 0, 0), (18, .invokevirtual 165, 3, 95, 10010, 0, 0), (21, .goto 5, 3, 26, 0, 0, 0), (24, .bipush (-2), 2, 0, 0, (-2), 0), (26, .ireturn, 1, 0, 0, 0, 0)]
def cd102 : List am_E := cd102_0
def am_w102 : List (List (Int32 × Nat) × Nat) := []
set_option maxRecDepth 100000 in
theorem kcd102_0 : cd102_0.all (am_chk am_w102 102) = true := by decide +kernel
theorem am_k102 : cd102.all (am_chk am_w102 102) = true := by
  simp only [cd102, List.all_append, kcd102_0, Bool.and_self]
theorem am_r102 : am_rtc 102 = 0 := by decide +kernel
theorem am_l102 : am_ml 102 = 1 := by decide +kernel
def am_s102_ (z : Nat) : Nat → List aV → aM → Option aR := fun j => (match Nat.beq j 7 with
  | true => F7 z
  | false => (match Nat.beq j 13 with
  | true => F13 z
  | false => (match Nat.beq j 95 with
  | true => F95 z
  | false => (fun _ _ => none))))
theorem hs102 (z : Nat) : ∀ j2 : Nat, ∃ d2 : Nat, d2 + 1 ≤ 3 ∧ am_Snd d2 j2 (am_s102_ z j2) := by
  intro j2
  unfold am_s102_
  split
  · rename_i he
    rw [am_beq he]
    exact ⟨_, by decide, S7 z⟩
  · skip
    split
    · rename_i he
      rw [am_beq he]
      exact ⟨_, by decide, S13 z⟩
    · skip
      split
      · rename_i he
        rw [am_beq he]
        exact ⟨_, by decide, S95 z⟩
      · skip
        exact ⟨0, by decide, am_Snd_no j2⟩
/-- ArgumentMender.frail()I -/
def f102 (z : Nat) (M : aM) : Option aR :=
  am_bi (f7 z 18 M) fun v2 M1 =>
    if v2 = 0 then
      some (some (.inl (-2 : Int32)), M1)
    else
      am_bi (f13 z 18 M1) fun v4 M3 =>
        am_bi (f95 z v4 M3) fun v6 M5 =>
          some (some (.inl v6), M5)
set_option maxRecDepth 100000 in
set_option maxHeartbeats 4000000 in
theorem e102 (z : Nat) : ∀ (M : aM) (r : aR), f102 z  M = some r → am_Ev 3 102 0 [some (.inr (.inr (10, 0)))] [] M r := by
  intro  M r h
  exact am_Ev_seg (sem := am_s102_ z) (cut := ([] : List (Nat × List Bool))) (hs102 z) am_r102 am_k102 (by rw [am_l102]; decide) (fun _ _ _ _ => none) 12 h (fun _ _ _ _ hk => by cases hk)
def F102 (z : Nat) (as : List aV) (M : aM) : Option aR := match as with
  | [.inr (.inr (10, 0))] => f102 z  M
  | _ => none
theorem S102 (z : Nat) : am_Snd 3 102 (F102 z) := am_meth (by decide +kernel) (fun as M r has h => by
    rw [am_l102]
    unfold F102 at h
    split at h
    · exact ⟨Nat.le_of_ble_eq_true rfl, e102 z _ _ h⟩
    · cases h)
def cd103_0 : List am_E := [(0, .aload_n 0, 1, 0, 0, 0, 0), (1, .getfield 19, 3, 10, 1, 0, 0), (4, .iload_n 1, 1, 1, 0, 0, 0), (5, .invokevirtual 138, 3, 8, 1010, 0, 0), (8, .ifCond .eq 14, 3, 22, 0, 0, 0), (11, .aload_n 0, 1, 0, 0, 0, 0), (12, .getfield 19, 3, 10, 1, 0, 0), (15, .iload_n 2, 1, 2, 0, 0, 0), (16, .invokevirtual 144, 3, 11, 1010, 0, 0), (19, .ifCond .ne 6, 3, 25, 0, 0, 0), (22, .bipush (-2), 2, 0, 0, (-2), 0), (24, .ireturn, 1, 0, 0, 0, 0), (25, .iconst 0, 1, 0, 0, 0, 0), (26, .istore_n 3, 1, 3, 0, 0, 0), (27, .iconst 0, 1, 0, 0, 0, 0), (28, .istore 4, 2, 4, 0, 0, 0), (30, .iload 4, 2, 4, 0, 0, 0), (32, .aload_n 0, 1, 0, 0, 0, 0), (33, .getfield 19, 3, 10, 1, 0, 0), (36, .getfield 141, 3, 1, 5, 0, 0), (39, .if_icmp .ge 38, 3, 77, 0, 0, 0), (42, .aload_n 0, 1, 0, 0, 0, 0), (43, .getfield 19, 3, 10, 1, 0, 0), (46, .getfield 116, 3, 1, 7, 0, 0), (49, .iload 4, 2, 4, 0, 0, 0), (51, .iaload, 1, 0, 0, 0, 0), (52, .iload_n 1, 1, 1, 0, 0, 0), (53, .if_icmp .ne 18, 3, 71, 0, 0, 0), (56, .iload_n 3, 1, 3, 0, 0, 0), (57, .aload_n 0, 1, 0, 0, 0, 0), (58, .getfield 26, 3, 10, 2, 0, 0), (61, .getfield 147, 3, 9, 3, 0, 0), (64, .iload_n 2, 1, 2, 0, 0, 0), (65, .aaload, 1, 0, 0, 0, 0), (66, .iload 4, 2, 4, 0, 0, 0), (68, .iaload, 1, 0, 0, 0, 0), (69, .iadd, 1, 0, 0, 0, 0), (70, .istore_n 3, 1, 3, 0, 0, 0), (71, .iinc 4 1, 3, 4, 0, 1, 0), (74, .goto (-44), 3, 30, 0, 0, 0)]
def cd103_1 : List am_E := [(77, .iload_n 3, 1, 3, 0, 0, 0), (78, .ireturn, 1, 0, 0, 0, 0)]
def cd103 : List am_E := cd103_0 ++ (cd103_1)
def am_w103 : List (List (Int32 × Nat) × Nat) := []
set_option maxRecDepth 100000 in
theorem kcd103_0 : cd103_0.all (am_chk am_w103 103) = true := by decide +kernel
set_option maxRecDepth 100000 in
theorem kcd103_1 : cd103_1.all (am_chk am_w103 103) = true := by decide +kernel
theorem am_k103 : cd103.all (am_chk am_w103 103) = true := by
  simp only [cd103, List.all_append, kcd103_0, kcd103_1, Bool.and_self]
theorem am_r103 : am_rtc 103 = 0 := by decide +kernel
theorem am_l103 : am_ml 103 = 5 := by decide +kernel
def am_s103_ (z : Nat) : Nat → List aV → aM → Option aR := fun j => (match Nat.beq j 8 with
  | true => F8 z
  | false => (match Nat.beq j 11 with
  | true => F11 z
  | false => (fun _ _ => none)))
theorem hs103 (z : Nat) : ∀ j2 : Nat, ∃ d2 : Nat, d2 + 1 ≤ 3 ∧ am_Snd d2 j2 (am_s103_ z j2) := by
  intro j2
  unfold am_s103_
  split
  · rename_i he
    rw [am_beq he]
    exact ⟨_, by decide, S8 z⟩
  · skip
    split
    · rename_i he
      rw [am_beq he]
      exact ⟨_, by decide, S11 z⟩
    · skip
      exact ⟨0, by decide, am_Snd_no j2⟩
def f103_30 (z : Nat) : Nat → Int32 → Int32 → Int32 → Int32 → aM → Option aR
  | 0, _, _, _, _, _ => none
  | n + 1, x1, x2, x3, x4, M =>
    if (M.1 18 5) ≤ x4 then
      some (some (.inl x3), M)
    else
      if am_inB x4 16 then
        if ¬ (M.1 19 x4.toNatClampNeg) = x1 then
          f103_30 z n x1 x2 x3 (x4 + (1 : Int32)) M
        else
          if am_inB x2 13 then
            if am_inB x4 16 then
              f103_30 z n x1 x2 (x3 + (M.1 (33 + (1 + 1 * x2.toNatClampNeg)) x4.toNatClampNeg)) (x4 + (1 : Int32)) M
            else
              none
          else
            none
      else
        none
set_option maxRecDepth 100000 in
set_option maxHeartbeats 4000000 in
theorem e103_30 (z : Nat) : ∀ (n : Nat) (x1 : Int32) (x2 : Int32) (x3 : Int32) (x4 : Int32) (M : aM) (r : aR), f103_30 z n x1 x2 x3 x4 M = some r → am_Ev 3 103 30 [some (.inr (.inr (10, 0))), some (.inl x1), some (.inl x2), some (.inl x3), some (.inl x4)] [] M r := by
  intro n
  induction n with
  | zero =>
    intro x1 x2 x3 x4 M r h
    cases h
  | succ n ih =>
    intro x1 x2 x3 x4 M r h
    exact am_Ev_seg (sem := am_s103_ z) (cut := ([(30, [true, true, true, true, true])] : List (Nat × List Bool))) (hs103 z) am_r103 am_k103 (by rw [am_l103]; decide) (fun pc al st M => (match Nat.beq pc 30 with
      | true => (match al, st with
        | [some (.inr (.inr (10, 0))), some (.inl x1), some (.inl x2), some (.inl x3), some (.inl x4)], [] => f103_30 z n x1 x2 x3 x4 M
        | _, _ => none)
      | false => none)) 26 h (fun pc al st M hk => by
      try dsimp only at hk
      split at hk
      · rename_i he
        rw [am_beq he]
        split at hk
        · exact ih _ _ _ _ _ _ hk
        · cases hk
      · cases hk)
/-- ArgumentMender.stuff(II)I -/
def f103 (z : Nat) (x1 : Int32) (x2 : Int32) (M : aM) : Option aR :=
  am_bi (f8 z 18 x1 M) fun v2 M1 =>
    if v2 = 0 then
      some (some (.inl (-2 : Int32)), M1)
    else
      am_bi (f11 z 18 x2 M1) fun v4 M3 =>
        if ¬ v4 = 0 then
          f103_30 z z x1 x2 (0 : Int32) (0 : Int32) M3
        else
          some (some (.inl (-2 : Int32)), M3)
set_option maxRecDepth 100000 in
set_option maxHeartbeats 4000000 in
theorem e103 (z : Nat) : ∀ (x1 : Int32) (x2 : Int32) (M : aM) (r : aR), f103 z x1 x2 M = some r → am_Ev 3 103 0 [some (.inr (.inr (10, 0))), some (.inl x1), some (.inl x2), none, none] [] M r := by
  intro x1 x2 M r h
  exact am_Ev_seg (sem := am_s103_ z) (cut := ([(30, [true, true, true, true, true])] : List (Nat × List Bool))) (hs103 z) am_r103 am_k103 (by rw [am_l103]; decide) (fun pc al st M => (match Nat.beq pc 30 with
      | true => (match al, st with
        | [some (.inr (.inr (10, 0))), some (.inl x1), some (.inl x2), some (.inl x3), some (.inl x4)], [] => f103_30 z z x1 x2 x3 x4 M
        | _, _ => none)
      | false => none)) 16 h (fun pc al st M hk => by
      try dsimp only at hk
      split at hk
      · rename_i he
        rw [am_beq he]
        split at hk
        · exact e103_30 z _ _ _ _ _ _ _ hk
        · cases hk
      · cases hk)
def F103 (z : Nat) (as : List aV) (M : aM) : Option aR := match as with
  | [.inr (.inr (10, 0)), .inl x1, .inl x2] => f103 z x1 x2 M
  | _ => none
theorem S103 (z : Nat) : am_Snd 3 103 (F103 z) := am_meth (by decide +kernel) (fun as M r has h => by
    rw [am_l103]
    unfold F103 at h
    split at h
    · exact ⟨Nat.le_of_ble_eq_true rfl, e103 z _ _ _ _ h⟩
    · cases h)
def cd104_0 : List am_E := [(0, .aload_n 0, 1, 0, 0, 0, 0), (1, .getfield 19, 3, 10, 1, 0, 0), (4, .iload_n 1, 1, 1, 0, 0, 0), (5, .invokevirtual 138, 3, 8, 1010, 0, 0), (8, .ifCond .eq 14, 3, 22, 0, 0, 0), (11, .aload_n 0, 1, 0, 0, 0, 0), (12, .getfield 19, 3, 10, 1, 0, 0), (15, .iload_n 2, 1, 2, 0, 0, 0), (16, .invokevirtual 144, 3, 11, 1010, 0, 0), (19, .ifCond .ne 6, 3, 25, 0, 0, 0), (22, .bipush (-2), 2, 0, 0, (-2), 0), (24, .ireturn, 1, 0, 0, 0, 0), (25, .aload_n 0, 1, 0, 0, 0, 0), (26, .getfield 33, 3, 10, 3, 0, 0), (29, .aload_n 0, 1, 0, 0, 0, 0), (30, .getfield 19, 3, 10, 1, 0, 0), (33, .aload_n 0, 1, 0, 0, 0, 0), (34, .getfield 26, 3, 10, 2, 0, 0), (37, .getfield 147, 3, 9, 3, 0, 0), (40, .iload_n 2, 1, 2, 0, 0, 0), (41, .aaload, 1, 0, 0, 0, 0), (42, .iload_n 1, 1, 1, 0, 0, 0), (43, .invokevirtual 183, 3, 67, 8030, 0, 0), (46, .ireturn, 1, 0, 0, 0, 0)]
def cd104 : List am_E := cd104_0
def am_w104 : List (List (Int32 × Nat) × Nat) := []
set_option maxRecDepth 100000 in
theorem kcd104_0 : cd104_0.all (am_chk am_w104 104) = true := by decide +kernel
theorem am_k104 : cd104.all (am_chk am_w104 104) = true := by
  simp only [cd104, List.all_append, kcd104_0, Bool.and_self]
theorem am_r104 : am_rtc 104 = 0 := by decide +kernel
theorem am_l104 : am_ml 104 = 3 := by decide +kernel
def am_s104_ (z : Nat) : Nat → List aV → aM → Option aR := fun j => (match Nat.beq j 8 with
  | true => F8 z
  | false => (match Nat.beq j 11 with
  | true => F11 z
  | false => (match Nat.beq j 67 with
  | true => F67 z
  | false => (fun _ _ => none))))
theorem hs104 (z : Nat) : ∀ j2 : Nat, ∃ d2 : Nat, d2 + 1 ≤ 3 ∧ am_Snd d2 j2 (am_s104_ z j2) := by
  intro j2
  unfold am_s104_
  split
  · rename_i he
    rw [am_beq he]
    exact ⟨_, by decide, S8 z⟩
  · skip
    split
    · rename_i he
      rw [am_beq he]
      exact ⟨_, by decide, S11 z⟩
    · skip
      split
      · rename_i he
        rw [am_beq he]
        exact ⟨_, by decide, S67 z⟩
      · skip
        exact ⟨0, by decide, am_Snd_no j2⟩
/-- ArgumentMender.steps(II)I -/
def f104 (z : Nat) (x1 : Int32) (x2 : Int32) (M : aM) : Option aR :=
  am_bi (f8 z 18 x1 M) fun v2 M1 =>
    if v2 = 0 then
      some (some (.inl (-2 : Int32)), M1)
    else
      am_bi (f11 z 18 x2 M1) fun v4 M3 =>
        if ¬ v4 = 0 then
          if am_inB x2 13 then
            am_bi (f67 z 67 18 (33 + (1 + 1 * x2.toNatClampNeg)) x1 M3) fun v6 M5 =>
              some (some (.inl v6), M5)
          else
            none
        else
          some (some (.inl (-2 : Int32)), M3)
set_option maxRecDepth 100000 in
set_option maxHeartbeats 4000000 in
theorem e104 (z : Nat) : ∀ (x1 : Int32) (x2 : Int32) (M : aM) (r : aR), f104 z x1 x2 M = some r → am_Ev 3 104 0 [some (.inr (.inr (10, 0))), some (.inl x1), some (.inl x2)] [] M r := by
  intro x1 x2 M r h
  exact am_Ev_seg (sem := am_s104_ z) (cut := ([] : List (Nat × List Bool))) (hs104 z) am_r104 am_k104 (by rw [am_l104]; decide) (fun _ _ _ _ => none) 23 h (fun _ _ _ _ hk => by cases hk)
def F104 (z : Nat) (as : List aV) (M : aM) : Option aR := match as with
  | [.inr (.inr (10, 0)), .inl x1, .inl x2] => f104 z x1 x2 M
  | _ => none
theorem S104 (z : Nat) : am_Snd 3 104 (F104 z) := am_meth (by decide +kernel) (fun as M r has h => by
    rw [am_l104]
    unfold F104 at h
    split at h
    · exact ⟨Nat.le_of_ble_eq_true rfl, e104 z _ _ _ _ h⟩
    · cases h)
def cd105_0 : List am_E := [(0, .aload_n 0, 1, 0, 0, 0, 0), (1, .getfield 19, 3, 10, 1, 0, 0), (4, .iload_n 1, 1, 1, 0, 0, 0), (5, .invokevirtual 126, 3, 10, 1010, 0, 0), (8, .ifCond .eq 14, 3, 22, 0, 0, 0), (11, .aload_n 0, 1, 0, 0, 0, 0), (12, .getfield 19, 3, 10, 1, 0, 0), (15, .iload_n 2, 1, 2, 0, 0, 0), (16, .invokevirtual 112, 3, 9, 1010, 0, 0), (19, .ifCond .ne 6, 3, 25, 0, 0, 0), (22, .bipush (-2), 2, 0, 0, (-2), 0), (24, .ireturn, 1, 0, 0, 0, 0), (25, .aload_n 0, 1, 0, 0, 0, 0), (26, .getfield 26, 3, 10, 2, 0, 0), (29, .getfield 186, 3, 9, 5, 0, 0), (32, .iload_n 1, 1, 1, 0, 0, 0), (33, .iaload, 1, 0, 0, 0, 0), (34, .ifCond .ne 7, 3, 41, 0, 0, 0), (37, .iconst (-1), 1, 0, 0, (-1), 0), (38, .goto 14, 3, 52, 0, 0, 0), (41, .aload_n 0, 1, 0, 0, 0, 0), (42, .getfield 26, 3, 10, 2, 0, 0), (45, .getfield 189, 3, 9, 4, 0, 0), (48, .iload_n 1, 1, 1, 0, 0, 0), (49, .aaload, 1, 0, 0, 0, 0), (50, .iload_n 2, 1, 2, 0, 0, 0), (51, .iaload, 1, 0, 0, 0, 0), (52, .ireturn, 1, 0, 0, 0, 0)]
def cd105 : List am_E := cd105_0
def am_w105 : List (List (Int32 × Nat) × Nat) := []
set_option maxRecDepth 100000 in
theorem kcd105_0 : cd105_0.all (am_chk am_w105 105) = true := by decide +kernel
theorem am_k105 : cd105.all (am_chk am_w105 105) = true := by
  simp only [cd105, List.all_append, kcd105_0, Bool.and_self]
theorem am_r105 : am_rtc 105 = 0 := by decide +kernel
theorem am_l105 : am_ml 105 = 3 := by decide +kernel
def am_s105_ (z : Nat) : Nat → List aV → aM → Option aR := fun j => (match Nat.beq j 9 with
  | true => F9 z
  | false => (match Nat.beq j 10 with
  | true => F10 z
  | false => (fun _ _ => none)))
theorem hs105 (z : Nat) : ∀ j2 : Nat, ∃ d2 : Nat, d2 + 1 ≤ 2 ∧ am_Snd d2 j2 (am_s105_ z j2) := by
  intro j2
  unfold am_s105_
  split
  · rename_i he
    rw [am_beq he]
    exact ⟨_, by decide, S9 z⟩
  · skip
    split
    · rename_i he
      rw [am_beq he]
      exact ⟨_, by decide, S10 z⟩
    · skip
      exact ⟨0, by decide, am_Snd_no j2⟩
/-- ArgumentMender.has(II)I -/
def f105 (z : Nat) (x1 : Int32) (x2 : Int32) (M : aM) : Option aR :=
  am_bi (f10 z 18 x1 M) fun v2 M1 =>
    if v2 = 0 then
      some (some (.inl (-2 : Int32)), M1)
    else
      am_bi (f9 z 18 x2 M1) fun v4 M3 =>
        if ¬ v4 = 0 then
          if am_inB x1 10 then
            if ¬ (M3.1 58 x1.toNatClampNeg) = 0 then
              if am_inB x1 10 then
                if am_inB x2 16 then
                  some (some (.inl (M3.1 (47 + (1 + 1 * x1.toNatClampNeg)) x2.toNatClampNeg)), M3)
                else
                  none
              else
                none
            else
              some (some (.inl (-1 : Int32)), M3)
          else
            none
        else
          some (some (.inl (-2 : Int32)), M3)
set_option maxRecDepth 100000 in
set_option maxHeartbeats 4000000 in
theorem e105 (z : Nat) : ∀ (x1 : Int32) (x2 : Int32) (M : aM) (r : aR), f105 z x1 x2 M = some r → am_Ev 2 105 0 [some (.inr (.inr (10, 0))), some (.inl x1), some (.inl x2)] [] M r := by
  intro x1 x2 M r h
  exact am_Ev_seg (sem := am_s105_ z) (cut := ([] : List (Nat × List Bool))) (hs105 z) am_r105 am_k105 (by rw [am_l105]; decide) (fun _ _ _ _ => none) 25 h (fun _ _ _ _ hk => by cases hk)
def F105 (z : Nat) (as : List aV) (M : aM) : Option aR := match as with
  | [.inr (.inr (10, 0)), .inl x1, .inl x2] => f105 z x1 x2 M
  | _ => none
theorem S105 (z : Nat) : am_Snd 2 105 (F105 z) := am_meth (by decide +kernel) (fun as M r has h => by
    rw [am_l105]
    unfold F105 at h
    split at h
    · exact ⟨Nat.le_of_ble_eq_true rfl, e105 z _ _ _ _ h⟩
    · cases h)
def cd106_0 : List am_E := [(0, .aload_n 0, 1, 0, 0, 0, 0), (1, .getfield 19, 3, 10, 1, 0, 0), (4, .iload_n 1, 1, 1, 0, 0, 0), (5, .invokevirtual 126, 3, 10, 1010, 0, 0), (8, .ifCond .eq 15, 3, 23, 0, 0, 0), (11, .aload_n 0, 1, 0, 0, 0, 0), (12, .getfield 26, 3, 10, 2, 0, 0), (15, .getfield 186, 3, 9, 5, 0, 0), (18, .iload_n 1, 1, 1, 0, 0, 0), (19, .iaload, 1, 0, 0, 0, 0), (20, .goto 5, 3, 25, 0, 0, 0), (23, .bipush (-2), 2, 0, 0, (-2), 0), (25, .ireturn, 1, 0, 0, 0, 0)]
def cd106 : List am_E := cd106_0
def am_w106 : List (List (Int32 × Nat) × Nat) := []
set_option maxRecDepth 100000 in
theorem kcd106_0 : cd106_0.all (am_chk am_w106 106) = true := by decide +kernel
theorem am_k106 : cd106.all (am_chk am_w106 106) = true := by
  simp only [cd106, List.all_append, kcd106_0, Bool.and_self]
theorem am_r106 : am_rtc 106 = 0 := by decide +kernel
theorem am_l106 : am_ml 106 = 2 := by decide +kernel
def am_s106_ (z : Nat) : Nat → List aV → aM → Option aR := fun j => (match Nat.beq j 10 with
  | true => F10 z
  | false => (fun _ _ => none))
theorem hs106 (z : Nat) : ∀ j2 : Nat, ∃ d2 : Nat, d2 + 1 ≤ 2 ∧ am_Snd d2 j2 (am_s106_ z j2) := by
  intro j2
  unfold am_s106_
  split
  · rename_i he
    rw [am_beq he]
    exact ⟨_, by decide, S10 z⟩
  · skip
    exact ⟨0, by decide, am_Snd_no j2⟩
/-- ArgumentMender.pulls(I)I -/
def f106 (z : Nat) (x1 : Int32) (M : aM) : Option aR :=
  am_bi (f10 z 18 x1 M) fun v2 M1 =>
    if v2 = 0 then
      some (some (.inl (-2 : Int32)), M1)
    else
      if am_inB x1 10 then
        some (some (.inl (M1.1 58 x1.toNatClampNeg)), M1)
      else
        none
set_option maxRecDepth 100000 in
set_option maxHeartbeats 4000000 in
theorem e106 (z : Nat) : ∀ (x1 : Int32) (M : aM) (r : aR), f106 z x1 M = some r → am_Ev 2 106 0 [some (.inr (.inr (10, 0))), some (.inl x1)] [] M r := by
  intro x1 M r h
  exact am_Ev_seg (sem := am_s106_ z) (cut := ([] : List (Nat × List Bool))) (hs106 z) am_r106 am_k106 (by rw [am_l106]; decide) (fun _ _ _ _ => none) 13 h (fun _ _ _ _ hk => by cases hk)
def F106 (z : Nat) (as : List aV) (M : aM) : Option aR := match as with
  | [.inr (.inr (10, 0)), .inl x1] => f106 z x1 M
  | _ => none
theorem S106 (z : Nat) : am_Snd 2 106 (F106 z) := am_meth (by decide +kernel) (fun as M r has h => by
    rw [am_l106]
    unfold F106 at h
    split at h
    · exact ⟨Nat.le_of_ble_eq_true rfl, e106 z _ _ _ h⟩
    · cases h)
def cd107_0 : List am_E := [(0, .aload_n 0, 1, 0, 0, 0, 0), (1, .getfield 19, 3, 10, 1, 0, 0), (4, .iload_n 1, 1, 1, 0, 0, 0), (5, .invokevirtual 126, 3, 10, 1010, 0, 0), (8, .ifCond .eq 15, 3, 23, 0, 0, 0), (11, .aload_n 0, 1, 0, 0, 0, 0), (12, .getfield 26, 3, 10, 2, 0, 0), (15, .getfield 192, 3, 9, 6, 0, 0), (18, .iload_n 1, 1, 1, 0, 0, 0), (19, .iaload, 1, 0, 0, 0, 0), (20, .goto 5, 3, 25, 0, 0, 0), (23, .bipush (-2), 2, 0, 0, (-2), 0), (25, .ireturn, 1, 0, 0, 0, 0)]
def cd107 : List am_E := cd107_0
def am_w107 : List (List (Int32 × Nat) × Nat) := []
set_option maxRecDepth 100000 in
theorem kcd107_0 : cd107_0.all (am_chk am_w107 107) = true := by decide +kernel
theorem am_k107 : cd107.all (am_chk am_w107 107) = true := by
  simp only [cd107, List.all_append, kcd107_0, Bool.and_self]
theorem am_r107 : am_rtc 107 = 0 := by decide +kernel
theorem am_l107 : am_ml 107 = 2 := by decide +kernel
def am_s107_ (z : Nat) : Nat → List aV → aM → Option aR := fun j => (match Nat.beq j 10 with
  | true => F10 z
  | false => (fun _ _ => none))
theorem hs107 (z : Nat) : ∀ j2 : Nat, ∃ d2 : Nat, d2 + 1 ≤ 2 ∧ am_Snd d2 j2 (am_s107_ z j2) := by
  intro j2
  unfold am_s107_
  split
  · rename_i he
    rw [am_beq he]
    exact ⟨_, by decide, S10 z⟩
  · skip
    exact ⟨0, by decide, am_Snd_no j2⟩
/-- ArgumentMender.rips(I)I -/
def f107 (z : Nat) (x1 : Int32) (M : aM) : Option aR :=
  am_bi (f10 z 18 x1 M) fun v2 M1 =>
    if v2 = 0 then
      some (some (.inl (-2 : Int32)), M1)
    else
      if am_inB x1 10 then
        some (some (.inl (M1.1 59 x1.toNatClampNeg)), M1)
      else
        none
set_option maxRecDepth 100000 in
set_option maxHeartbeats 4000000 in
theorem e107 (z : Nat) : ∀ (x1 : Int32) (M : aM) (r : aR), f107 z x1 M = some r → am_Ev 2 107 0 [some (.inr (.inr (10, 0))), some (.inl x1)] [] M r := by
  intro x1 M r h
  exact am_Ev_seg (sem := am_s107_ z) (cut := ([] : List (Nat × List Bool))) (hs107 z) am_r107 am_k107 (by rw [am_l107]; decide) (fun _ _ _ _ => none) 13 h (fun _ _ _ _ hk => by cases hk)
def F107 (z : Nat) (as : List aV) (M : aM) : Option aR := match as with
  | [.inr (.inr (10, 0)), .inl x1] => f107 z x1 M
  | _ => none
theorem S107 (z : Nat) : am_Snd 2 107 (F107 z) := am_meth (by decide +kernel) (fun as M r has h => by
    rw [am_l107]
    unfold F107 at h
    split at h
    · exact ⟨Nat.le_of_ble_eq_true rfl, e107 z _ _ _ h⟩
    · cases h)
def cd108_0 : List am_E := [(0, .aload_n 0, 1, 0, 0, 0, 0), (1, .getfield 19, 3, 10, 1, 0, 0), (4, .iload_n 1, 1, 1, 0, 0, 0), (5, .invokevirtual 126, 3, 10, 1010, 0, 0), (8, .ifCond .ne 6, 3, 14, 0, 0, 0), (11, .bipush (-2), 2, 0, 0, (-2), 0), (13, .ireturn, 1, 0, 0, 0, 0), (14, .aload_n 0, 1, 0, 0, 0, 0), (15, .getfield 26, 3, 10, 2, 0, 0), (18, .getfield 186, 3, 9, 5, 0, 0), (21, .iload_n 1, 1, 1, 0, 0, 0), (22, .iaload, 1, 0, 0, 0, 0), (23, .ifCond .ne 7, 3, 30, 0, 0, 0), (26, .iconst (-1), 1, 0, 0, (-1), 0), (27, .goto 12, 3, 39, 0, 0, 0), (30, .aload_n 0, 1, 0, 0, 0, 0), (31, .getfield 26, 3, 10, 2, 0, 0), (34, .getfield 195, 3, 9, 7, 0, 0), (37, .iload_n 1, 1, 1, 0, 0, 0), (38, .iaload, 1, 0, 0, 0, 0), (39, .ireturn, 1, 0, 0, 0, 0)]
def cd108 : List am_E := cd108_0
def am_w108 : List (List (Int32 × Nat) × Nat) := []
set_option maxRecDepth 100000 in
theorem kcd108_0 : cd108_0.all (am_chk am_w108 108) = true := by decide +kernel
theorem am_k108 : cd108.all (am_chk am_w108 108) = true := by
  simp only [cd108, List.all_append, kcd108_0, Bool.and_self]
theorem am_r108 : am_rtc 108 = 0 := by decide +kernel
theorem am_l108 : am_ml 108 = 2 := by decide +kernel
def am_s108_ (z : Nat) : Nat → List aV → aM → Option aR := fun j => (match Nat.beq j 10 with
  | true => F10 z
  | false => (fun _ _ => none))
theorem hs108 (z : Nat) : ∀ j2 : Nat, ∃ d2 : Nat, d2 + 1 ≤ 2 ∧ am_Snd d2 j2 (am_s108_ z j2) := by
  intro j2
  unfold am_s108_
  split
  · rename_i he
    rw [am_beq he]
    exact ⟨_, by decide, S10 z⟩
  · skip
    exact ⟨0, by decide, am_Snd_no j2⟩
/-- ArgumentMender.through(I)I -/
def f108 (z : Nat) (x1 : Int32) (M : aM) : Option aR :=
  am_bi (f10 z 18 x1 M) fun v2 M1 =>
    if ¬ v2 = 0 then
      if am_inB x1 10 then
        if ¬ (M1.1 58 x1.toNatClampNeg) = 0 then
          if am_inB x1 10 then
            some (some (.inl (M1.1 60 x1.toNatClampNeg)), M1)
          else
            none
        else
          some (some (.inl (-1 : Int32)), M1)
      else
        none
    else
      some (some (.inl (-2 : Int32)), M1)
set_option maxRecDepth 100000 in
set_option maxHeartbeats 4000000 in
theorem e108 (z : Nat) : ∀ (x1 : Int32) (M : aM) (r : aR), f108 z x1 M = some r → am_Ev 2 108 0 [some (.inr (.inr (10, 0))), some (.inl x1)] [] M r := by
  intro x1 M r h
  exact am_Ev_seg (sem := am_s108_ z) (cut := ([] : List (Nat × List Bool))) (hs108 z) am_r108 am_k108 (by rw [am_l108]; decide) (fun _ _ _ _ => none) 18 h (fun _ _ _ _ hk => by cases hk)
def F108 (z : Nat) (as : List aV) (M : aM) : Option aR := match as with
  | [.inr (.inr (10, 0)), .inl x1] => f108 z x1 M
  | _ => none
theorem S108 (z : Nat) : am_Snd 2 108 (F108 z) := am_meth (by decide +kernel) (fun as M r has h => by
    rw [am_l108]
    unfold F108 at h
    split at h
    · exact ⟨Nat.le_of_ble_eq_true rfl, e108 z _ _ _ h⟩
    · cases h)
def cd109_0 : List am_E := [(0, .aload_n 0, 1, 0, 0, 0, 0), (1, .getfield 19, 3, 10, 1, 0, 0), (4, .iload_n 1, 1, 1, 0, 0, 0), (5, .invokevirtual 126, 3, 10, 1010, 0, 0), (8, .ifCond .ne 6, 3, 14, 0, 0, 0), (11, .bipush (-2), 2, 0, 0, (-2), 0), (13, .ireturn, 1, 0, 0, 0, 0), (14, .aload_n 0, 1, 0, 0, 0, 0), (15, .getfield 26, 3, 10, 2, 0, 0), (18, .getfield 186, 3, 9, 5, 0, 0), (21, .iload_n 1, 1, 1, 0, 0, 0), (22, .iaload, 1, 0, 0, 0, 0), (23, .ifCond .ne 7, 3, 30, 0, 0, 0), (26, .iconst (-1), 1, 0, 0, (-1), 0), (27, .goto 12, 3, 39, 0, 0, 0), (30, .aload_n 0, 1, 0, 0, 0, 0), (31, .getfield 26, 3, 10, 2, 0, 0), (34, .getfield 198, 3, 9, 8, 0, 0), (37, .iload_n 1, 1, 1, 0, 0, 0), (38, .iaload, 1, 0, 0, 0, 0), (39, .ireturn, 1, 0, 0, 0, 0)]
def cd109 : List am_E := cd109_0
def am_w109 : List (List (Int32 × Nat) × Nat) := []
set_option maxRecDepth 100000 in
theorem kcd109_0 : cd109_0.all (am_chk am_w109 109) = true := by decide +kernel
theorem am_k109 : cd109.all (am_chk am_w109 109) = true := by
  simp only [cd109, List.all_append, kcd109_0, Bool.and_self]
theorem am_r109 : am_rtc 109 = 0 := by decide +kernel
theorem am_l109 : am_ml 109 = 2 := by decide +kernel
def am_s109_ (z : Nat) : Nat → List aV → aM → Option aR := fun j => (match Nat.beq j 10 with
  | true => F10 z
  | false => (fun _ _ => none))
theorem hs109 (z : Nat) : ∀ j2 : Nat, ∃ d2 : Nat, d2 + 1 ≤ 2 ∧ am_Snd d2 j2 (am_s109_ z j2) := by
  intro j2
  unfold am_s109_
  split
  · rename_i he
    rw [am_beq he]
    exact ⟨_, by decide, S10 z⟩
  · skip
    exact ⟨0, by decide, am_Snd_no j2⟩
/-- ArgumentMender.hem(I)I -/
def f109 (z : Nat) (x1 : Int32) (M : aM) : Option aR :=
  am_bi (f10 z 18 x1 M) fun v2 M1 =>
    if ¬ v2 = 0 then
      if am_inB x1 10 then
        if ¬ (M1.1 58 x1.toNatClampNeg) = 0 then
          if am_inB x1 10 then
            some (some (.inl (M1.1 61 x1.toNatClampNeg)), M1)
          else
            none
        else
          some (some (.inl (-1 : Int32)), M1)
      else
        none
    else
      some (some (.inl (-2 : Int32)), M1)
set_option maxRecDepth 100000 in
set_option maxHeartbeats 4000000 in
theorem e109 (z : Nat) : ∀ (x1 : Int32) (M : aM) (r : aR), f109 z x1 M = some r → am_Ev 2 109 0 [some (.inr (.inr (10, 0))), some (.inl x1)] [] M r := by
  intro x1 M r h
  exact am_Ev_seg (sem := am_s109_ z) (cut := ([] : List (Nat × List Bool))) (hs109 z) am_r109 am_k109 (by rw [am_l109]; decide) (fun _ _ _ _ => none) 18 h (fun _ _ _ _ hk => by cases hk)
def F109 (z : Nat) (as : List aV) (M : aM) : Option aR := match as with
  | [.inr (.inr (10, 0)), .inl x1] => f109 z x1 M
  | _ => none
theorem S109 (z : Nat) : am_Snd 2 109 (F109 z) := am_meth (by decide +kernel) (fun as M r has h => by
    rw [am_l109]
    unfold F109 at h
    split at h
    · exact ⟨Nat.le_of_ble_eq_true rfl, e109 z _ _ _ h⟩
    · cases h)
def cd110_0 : List am_E := [(0, .aload_n 0, 1, 0, 0, 0, 0), (1, .getfield 19, 3, 10, 1, 0, 0), (4, .invokevirtual 176, 3, 7, 1000, 0, 0), (7, .ifCond .ne 6, 3, 13, 0, 0, 0), (10, .bipush (-2), 2, 0, 0, (-2), 0), (12, .ireturn, 1, 0, 0, 0, 0), (13, .iconst 0, 1, 0, 0, 0, 0), (14, .istore_n 1, 1, 1, 0, 0, 0), (15, .iconst 0, 1, 0, 0, 0, 0), (16, .istore_n 2, 1, 2, 0, 0, 0), (17, .iload_n 2, 1, 2, 0, 0, 0), (18, .aload_n 0, 1, 0, 0, 0, 0), (19, .getfield 19, 3, 10, 1, 0, 0), (22, .getfield 201, 3, 1, 6, 0, 0), (25, .if_icmp .ge 27, 3, 52, 0, 0, 0), (28, .aload_n 0, 1, 0, 0, 0, 0), (29, .getfield 26, 3, 10, 2, 0, 0), (32, .getfield 195, 3, 9, 7, 0, 0), (35, .iload_n 2, 1, 2, 0, 0, 0), (36, .iaload, 1, 0, 0, 0, 0), (37, .ifCond .le 9, 3, 46, 0, 0, 0), (40, .iload_n 1, 1, 1, 0, 0, 0), (41, .iconst 1, 1, 0, 0, 1, 0), (42, .iload_n 2, 1, 2, 0, 0, 0), (43, .ishl, 1, 0, 0, 0, 0), (44, .ior, 1, 0, 0, 0, 0), (45, .istore_n 1, 1, 1, 0, 0, 0), (46, .iinc 2 1, 3, 2, 0, 1, 0), (49, .goto (-32), 3, 17, 0, 0, 0), (52, .iload_n 1, 1, 1, 0, 0, 0), (53, .ireturn, 1, 0, 0, 0, 0)]
def cd110 : List am_E := cd110_0
def am_w110 : List (List (Int32 × Nat) × Nat) := []
set_option maxRecDepth 100000 in
theorem kcd110_0 : cd110_0.all (am_chk am_w110 110) = true := by decide +kernel
theorem am_k110 : cd110.all (am_chk am_w110 110) = true := by
  simp only [cd110, List.all_append, kcd110_0, Bool.and_self]
theorem am_r110 : am_rtc 110 = 0 := by decide +kernel
theorem am_l110 : am_ml 110 = 3 := by decide +kernel
def am_s110_ (z : Nat) : Nat → List aV → aM → Option aR := fun j => (match Nat.beq j 7 with
  | true => F7 z
  | false => (fun _ _ => none))
theorem hs110 (z : Nat) : ∀ j2 : Nat, ∃ d2 : Nat, d2 + 1 ≤ 2 ∧ am_Snd d2 j2 (am_s110_ z j2) := by
  intro j2
  unfold am_s110_
  split
  · rename_i he
    rw [am_beq he]
    exact ⟨_, by decide, S7 z⟩
  · skip
    exact ⟨0, by decide, am_Snd_no j2⟩
def f110_17 (z : Nat) : Nat → Int32 → Int32 → aM → Option aR
  | 0, _, _, _ => none
  | n + 1, x1, x2, M =>
    if (M.1 18 6) ≤ x2 then
      some (some (.inl x1), M)
    else
      if am_inB x2 10 then
        if (M.1 60 x2.toNatClampNeg) ≤ 0 then
          f110_17 z n x1 (x2 + (1 : Int32)) M
        else
          f110_17 z n (x1 ||| ((1 : Int32) <<< (x2 &&& 31))) (x2 + (1 : Int32)) M
      else
        none
set_option maxRecDepth 100000 in
set_option maxHeartbeats 4000000 in
theorem e110_17 (z : Nat) : ∀ (n : Nat) (x1 : Int32) (x2 : Int32) (M : aM) (r : aR), f110_17 z n x1 x2 M = some r → am_Ev 2 110 17 [some (.inr (.inr (10, 0))), some (.inl x1), some (.inl x2)] [] M r := by
  intro n
  induction n with
  | zero =>
    intro x1 x2 M r h
    cases h
  | succ n ih =>
    intro x1 x2 M r h
    exact am_Ev_seg (sem := am_s110_ z) (cut := ([(17, [true, true, true])] : List (Nat × List Bool))) (hs110 z) am_r110 am_k110 (by rw [am_l110]; decide) (fun pc al st M => (match Nat.beq pc 17 with
      | true => (match al, st with
        | [some (.inr (.inr (10, 0))), some (.inl x1), some (.inl x2)], [] => f110_17 z n x1 x2 M
        | _, _ => none)
      | false => none)) 21 h (fun pc al st M hk => by
      try dsimp only at hk
      split at hk
      · rename_i he
        rw [am_beq he]
        split at hk
        · exact ih _ _ _ _ hk
        · cases hk
      · cases hk)
/-- ArgumentMender.loud()I -/
def f110 (z : Nat) (M : aM) : Option aR :=
  am_bi (f7 z 18 M) fun v2 M1 =>
    if ¬ v2 = 0 then
      f110_17 z z (0 : Int32) (0 : Int32) M1
    else
      some (some (.inl (-2 : Int32)), M1)
set_option maxRecDepth 100000 in
set_option maxHeartbeats 4000000 in
theorem e110 (z : Nat) : ∀ (M : aM) (r : aR), f110 z  M = some r → am_Ev 2 110 0 [some (.inr (.inr (10, 0))), none, none] [] M r := by
  intro  M r h
  exact am_Ev_seg (sem := am_s110_ z) (cut := ([(17, [true, true, true])] : List (Nat × List Bool))) (hs110 z) am_r110 am_k110 (by rw [am_l110]; decide) (fun pc al st M => (match Nat.beq pc 17 with
      | true => (match al, st with
        | [some (.inr (.inr (10, 0))), some (.inl x1), some (.inl x2)], [] => f110_17 z z x1 x2 M
        | _, _ => none)
      | false => none)) 10 h (fun pc al st M hk => by
      try dsimp only at hk
      split at hk
      · rename_i he
        rw [am_beq he]
        split at hk
        · exact e110_17 z _ _ _ _ _ hk
        · cases hk
      · cases hk)
def F110 (z : Nat) (as : List aV) (M : aM) : Option aR := match as with
  | [.inr (.inr (10, 0))] => f110 z  M
  | _ => none
theorem S110 (z : Nat) : am_Snd 2 110 (F110 z) := am_meth (by decide +kernel) (fun as M r has h => by
    rw [am_l110]
    unfold F110 at h
    split at h
    · exact ⟨Nat.le_of_ble_eq_true rfl, e110 z _ _ h⟩
    · cases h)
def cd111_0 : List am_E := [(0, .aload_n 0, 1, 0, 0, 0, 0), (1, .getfield 19, 3, 10, 1, 0, 0), (4, .invokevirtual 176, 3, 7, 1000, 0, 0), (7, .ifCond .ne 6, 3, 13, 0, 0, 0), (10, .bipush (-2), 2, 0, 0, (-2), 0), (12, .ireturn, 1, 0, 0, 0, 0), (13, .iconst (-1), 1, 0, 0, (-1), 0), (14, .istore_n 1, 1, 1, 0, 0, 0), (15, .iconst 0, 1, 0, 0, 0, 0), (16, .istore_n 2, 1, 2, 0, 0, 0), (17, .iconst 0, 1, 0, 0, 0, 0), (18, .istore_n 3, 1, 3, 0, 0, 0), (19, .iload_n 3, 1, 3, 0, 0, 0), (20, .aload_n 0, 1, 0, 0, 0, 0), (21, .getfield 19, 3, 10, 1, 0, 0), (24, .getfield 201, 3, 1, 6, 0, 0), (27, .if_icmp .ge 34, 3, 61, 0, 0, 0), (30, .aload_n 0, 1, 0, 0, 0, 0), (31, .getfield 26, 3, 10, 2, 0, 0), (34, .getfield 192, 3, 9, 6, 0, 0), (37, .iload_n 3, 1, 3, 0, 0, 0), (38, .iaload, 1, 0, 0, 0, 0), (39, .invokestatic 204, 3, 328, 15, 0, 0), (42, .istore 4, 2, 4, 0, 0, 0), (44, .iload 4, 2, 4, 0, 0, 0), (46, .iload_n 2, 1, 2, 0, 0, 0), (47, .if_icmp .le 8, 3, 55, 0, 0, 0), (50, .iload 4, 2, 4, 0, 0, 0), (52, .istore_n 2, 1, 2, 0, 0, 0), (53, .iload_n 3, 1, 3, 0, 0, 0), (54, .istore_n 1, 1, 1, 0, 0, 0), (55, .iinc 3 1, 3, 3, 0, 1, 0), (58, .goto (-39), 3, 19, 0, 0, 0), (61, .iload_n 1, 1, 1, 0, 0, 0), (62, .ireturn, 1, 0, 0, 0, 0)]
def cd111 : List am_E := cd111_0
def am_w111 : List (List (Int32 × Nat) × Nat) := []
set_option maxRecDepth 100000 in
theorem kcd111_0 : cd111_0.all (am_chk am_w111 111) = true := by decide +kernel
theorem am_k111 : cd111.all (am_chk am_w111 111) = true := by
  simp only [cd111, List.all_append, kcd111_0, Bool.and_self]
theorem am_r111 : am_rtc 111 = 0 := by decide +kernel
theorem am_l111 : am_ml 111 = 5 := by decide +kernel
def am_s111_ (z : Nat) : Nat → List aV → aM → Option aR := fun j => (match Nat.beq j 7 with
  | true => F7 z
  | false => (match Nat.beq j 328 with
  | true => F328 z
  | false => (fun _ _ => none)))
theorem hs111 (z : Nat) : ∀ j2 : Nat, ∃ d2 : Nat, d2 + 1 ≤ 2 ∧ am_Snd d2 j2 (am_s111_ z j2) := by
  intro j2
  unfold am_s111_
  split
  · rename_i he
    rw [am_beq he]
    exact ⟨_, by decide, S7 z⟩
  · skip
    split
    · rename_i he
      rw [am_beq he]
      exact ⟨_, by decide, S328 z⟩
    · skip
      exact ⟨0, by decide, am_Snd_no j2⟩
def f111_19 (z : Nat) : Nat → Int32 → Int32 → Int32 → aM → Option aR
  | 0, _, _, _, _ => none
  | n + 1, x1, x2, x3, M =>
    if (M.1 18 6) ≤ x3 then
      some (some (.inl x1), M)
    else
      if am_inB x3 10 then
        am_bi (f328 z (M.1 59 x3.toNatClampNeg) M) fun v2 M1 =>
          if v2 ≤ x2 then
            f111_19 z n x1 x2 (x3 + (1 : Int32)) M1
          else
            f111_19 z n x3 v2 (x3 + (1 : Int32)) M1
      else
        none
set_option maxRecDepth 100000 in
set_option maxHeartbeats 4000000 in
theorem e111_19 (z : Nat) : ∀ (n : Nat) (x1 : Int32) (x2 : Int32) (x3 : Int32) (M : aM) (r : aR), f111_19 z n x1 x2 x3 M = some r → am_Ev 2 111 19 [some (.inr (.inr (10, 0))), some (.inl x1), some (.inl x2), some (.inl x3), none] [] M r := by
  intro n
  induction n with
  | zero =>
    intro x1 x2 x3 M r h
    cases h
  | succ n ih =>
    intro x1 x2 x3 M r h
    exact am_Ev_seg (sem := am_s111_ z) (cut := ([(19, [true, true, true, true, false])] : List (Nat × List Bool))) (hs111 z) am_r111 am_k111 (by rw [am_l111]; decide) (fun pc al st M => (match Nat.beq pc 19 with
      | true => (match al, st with
        | [some (.inr (.inr (10, 0))), some (.inl x1), some (.inl x2), some (.inl x3), none], [] => f111_19 z n x1 x2 x3 M
        | _, _ => none)
      | false => none)) 23 h (fun pc al st M hk => by
      try dsimp only at hk
      split at hk
      · rename_i he
        rw [am_beq he]
        split at hk
        · exact ih _ _ _ _ _ hk
        · cases hk
      · cases hk)
/-- ArgumentMender.worst()I -/
def f111 (z : Nat) (M : aM) : Option aR :=
  am_bi (f7 z 18 M) fun v2 M1 =>
    if ¬ v2 = 0 then
      f111_19 z z (-1 : Int32) (0 : Int32) (0 : Int32) M1
    else
      some (some (.inl (-2 : Int32)), M1)
set_option maxRecDepth 100000 in
set_option maxHeartbeats 4000000 in
theorem e111 (z : Nat) : ∀ (M : aM) (r : aR), f111 z  M = some r → am_Ev 2 111 0 [some (.inr (.inr (10, 0))), none, none, none, none] [] M r := by
  intro  M r h
  exact am_Ev_seg (sem := am_s111_ z) (cut := ([(19, [true, true, true, true, false])] : List (Nat × List Bool))) (hs111 z) am_r111 am_k111 (by rw [am_l111]; decide) (fun pc al st M => (match Nat.beq pc 19 with
      | true => (match al, st with
        | [some (.inr (.inr (10, 0))), some (.inl x1), some (.inl x2), some (.inl x3), none], [] => f111_19 z z x1 x2 x3 M
        | _, _ => none)
      | false => none)) 12 h (fun pc al st M hk => by
      try dsimp only at hk
      split at hk
      · rename_i he
        rw [am_beq he]
        split at hk
        · exact e111_19 z _ _ _ _ _ _ hk
        · cases hk
      · cases hk)
def F111 (z : Nat) (as : List aV) (M : aM) : Option aR := match as with
  | [.inr (.inr (10, 0))] => f111 z  M
  | _ => none
theorem S111 (z : Nat) : am_Snd 2 111 (F111 z) := am_meth (by decide +kernel) (fun as M r has h => by
    rw [am_l111]
    unfold F111 at h
    split at h
    · exact ⟨Nat.le_of_ble_eq_true rfl, e111 z _ _ h⟩
    · cases h)
def cd112_0 : List am_E := [(0, .aload_n 0, 1, 0, 0, 0, 0), (1, .getfield 19, 3, 10, 1, 0, 0), (4, .iload_n 1, 1, 1, 0, 0, 0), (5, .invokevirtual 112, 3, 9, 1010, 0, 0), (8, .ifCond .eq 15, 3, 23, 0, 0, 0), (11, .aload_n 0, 1, 0, 0, 0, 0), (12, .getfield 26, 3, 10, 2, 0, 0), (15, .getfield 209, 3, 9, 9, 0, 0), (18, .iload_n 1, 1, 1, 0, 0, 0), (19, .iaload, 1, 0, 0, 0, 0), (20, .goto 5, 3, 25, 0, 0, 0), (23, .bipush (-2), 2, 0, 0, (-2), 0), (25, .ireturn, 1, 0, 0, 0, 0)]
def cd112 : List am_E := cd112_0
def am_w112 : List (List (Int32 × Nat) × Nat) := []
set_option maxRecDepth 100000 in
theorem kcd112_0 : cd112_0.all (am_chk am_w112 112) = true := by decide +kernel
theorem am_k112 : cd112.all (am_chk am_w112 112) = true := by
  simp only [cd112, List.all_append, kcd112_0, Bool.and_self]
theorem am_r112 : am_rtc 112 = 0 := by decide +kernel
theorem am_l112 : am_ml 112 = 2 := by decide +kernel
def am_s112_ (z : Nat) : Nat → List aV → aM → Option aR := fun j => (match Nat.beq j 9 with
  | true => F9 z
  | false => (fun _ _ => none))
theorem hs112 (z : Nat) : ∀ j2 : Nat, ∃ d2 : Nat, d2 + 1 ≤ 2 ∧ am_Snd d2 j2 (am_s112_ z j2) := by
  intro j2
  unfold am_s112_
  split
  · rename_i he
    rw [am_beq he]
    exact ⟨_, by decide, S9 z⟩
  · skip
    exact ⟨0, by decide, am_Snd_no j2⟩
/-- ArgumentMender.bears(I)I -/
def f112 (z : Nat) (x1 : Int32) (M : aM) : Option aR :=
  am_bi (f9 z 18 x1 M) fun v2 M1 =>
    if v2 = 0 then
      some (some (.inl (-2 : Int32)), M1)
    else
      if am_inB x1 16 then
        some (some (.inl (M1.1 62 x1.toNatClampNeg)), M1)
      else
        none
set_option maxRecDepth 100000 in
set_option maxHeartbeats 4000000 in
theorem e112 (z : Nat) : ∀ (x1 : Int32) (M : aM) (r : aR), f112 z x1 M = some r → am_Ev 2 112 0 [some (.inr (.inr (10, 0))), some (.inl x1)] [] M r := by
  intro x1 M r h
  exact am_Ev_seg (sem := am_s112_ z) (cut := ([] : List (Nat × List Bool))) (hs112 z) am_r112 am_k112 (by rw [am_l112]; decide) (fun _ _ _ _ => none) 13 h (fun _ _ _ _ hk => by cases hk)
def F112 (z : Nat) (as : List aV) (M : aM) : Option aR := match as with
  | [.inr (.inr (10, 0)), .inl x1] => f112 z x1 M
  | _ => none
theorem S112 (z : Nat) : am_Snd 2 112 (F112 z) := am_meth (by decide +kernel) (fun as M r has h => by
    rw [am_l112]
    unfold F112 at h
    split at h
    · exact ⟨Nat.le_of_ble_eq_true rfl, e112 z _ _ _ h⟩
    · cases h)
def cd113_0 : List am_E := [(0, .aload_n 0, 1, 0, 0, 0, 0), (1, .getfield 19, 3, 10, 1, 0, 0), (4, .iload_n 1, 1, 1, 0, 0, 0), (5, .invokevirtual 112, 3, 9, 1010, 0, 0), (8, .ifCond .eq 15, 3, 23, 0, 0, 0), (11, .aload_n 0, 1, 0, 0, 0, 0), (12, .getfield 26, 3, 10, 2, 0, 0), (15, .getfield 212, 3, 9, 10, 0, 0), (18, .iload_n 1, 1, 1, 0, 0, 0), (19, .iaload, 1, 0, 0, 0, 0), (20, .goto 5, 3, 25, 0, 0, 0), (23, .bipush (-2), 2, 0, 0, (-2), 0), (25, .ireturn, 1, 0, 0, 0, 0)]
def cd113 : List am_E := cd113_0
def am_w113 : List (List (Int32 × Nat) × Nat) := []
set_option maxRecDepth 100000 in
theorem kcd113_0 : cd113_0.all (am_chk am_w113 113) = true := by decide +kernel
theorem am_k113 : cd113.all (am_chk am_w113 113) = true := by
  simp only [cd113, List.all_append, kcd113_0, Bool.and_self]
theorem am_r113 : am_rtc 113 = 0 := by decide +kernel
theorem am_l113 : am_ml 113 = 2 := by decide +kernel
def am_s113_ (z : Nat) : Nat → List aV → aM → Option aR := fun j => (match Nat.beq j 9 with
  | true => F9 z
  | false => (fun _ _ => none))
theorem hs113 (z : Nat) : ∀ j2 : Nat, ∃ d2 : Nat, d2 + 1 ≤ 2 ∧ am_Snd d2 j2 (am_s113_ z j2) := by
  intro j2
  unfold am_s113_
  split
  · rename_i he
    rw [am_beq he]
    exact ⟨_, by decide, S9 z⟩
  · skip
    exact ⟨0, by decide, am_Snd_no j2⟩
/-- ArgumentMender.worn(I)I -/
def f113 (z : Nat) (x1 : Int32) (M : aM) : Option aR :=
  am_bi (f9 z 18 x1 M) fun v2 M1 =>
    if v2 = 0 then
      some (some (.inl (-2 : Int32)), M1)
    else
      if am_inB x1 16 then
        some (some (.inl (M1.1 63 x1.toNatClampNeg)), M1)
      else
        none
set_option maxRecDepth 100000 in
set_option maxHeartbeats 4000000 in
theorem e113 (z : Nat) : ∀ (x1 : Int32) (M : aM) (r : aR), f113 z x1 M = some r → am_Ev 2 113 0 [some (.inr (.inr (10, 0))), some (.inl x1)] [] M r := by
  intro x1 M r h
  exact am_Ev_seg (sem := am_s113_ z) (cut := ([] : List (Nat × List Bool))) (hs113 z) am_r113 am_k113 (by rw [am_l113]; decide) (fun _ _ _ _ => none) 13 h (fun _ _ _ _ hk => by cases hk)
def F113 (z : Nat) (as : List aV) (M : aM) : Option aR := match as with
  | [.inr (.inr (10, 0)), .inl x1] => f113 z x1 M
  | _ => none
theorem S113 (z : Nat) : am_Snd 2 113 (F113 z) := am_meth (by decide +kernel) (fun as M r has h => by
    rw [am_l113]
    unfold F113 at h
    split at h
    · exact ⟨Nat.le_of_ble_eq_true rfl, e113 z _ _ _ h⟩
    · cases h)
def cd114_0 : List am_E := [(0, .aload_n 0, 1, 0, 0, 0, 0), (1, .getfield 19, 3, 10, 1, 0, 0), (4, .invokevirtual 176, 3, 7, 1000, 0, 0), (7, .ifCond .ne 6, 3, 13, 0, 0, 0), (10, .bipush (-2), 2, 0, 0, (-2), 0), (12, .ireturn, 1, 0, 0, 0, 0), (13, .iconst 0, 1, 0, 0, 0, 0), (14, .istore_n 1, 1, 1, 0, 0, 0), (15, .iconst 0, 1, 0, 0, 0, 0), (16, .istore_n 2, 1, 2, 0, 0, 0), (17, .iload_n 2, 1, 2, 0, 0, 0), (18, .aload_n 0, 1, 0, 0, 0, 0), (19, .getfield 19, 3, 10, 1, 0, 0), (22, .getfield 141, 3, 1, 5, 0, 0), (25, .if_icmp .ge 27, 3, 52, 0, 0, 0), (28, .aload_n 0, 1, 0, 0, 0, 0), (29, .getfield 26, 3, 10, 2, 0, 0), (32, .getfield 209, 3, 9, 9, 0, 0), (35, .iload_n 2, 1, 2, 0, 0, 0), (36, .iaload, 1, 0, 0, 0, 0), (37, .ifCond .ne 9, 3, 46, 0, 0, 0), (40, .iload_n 1, 1, 1, 0, 0, 0), (41, .iconst 1, 1, 0, 0, 1, 0), (42, .iload_n 2, 1, 2, 0, 0, 0), (43, .ishl, 1, 0, 0, 0, 0), (44, .ior, 1, 0, 0, 0, 0), (45, .istore_n 1, 1, 1, 0, 0, 0), (46, .iinc 2 1, 3, 2, 0, 1, 0), (49, .goto (-32), 3, 17, 0, 0, 0), (52, .iload_n 1, 1, 1, 0, 0, 0), (53, .ireturn, 1, 0, 0, 0, 0)]
def cd114 : List am_E := cd114_0
def am_w114 : List (List (Int32 × Nat) × Nat) := []
set_option maxRecDepth 100000 in
theorem kcd114_0 : cd114_0.all (am_chk am_w114 114) = true := by decide +kernel
theorem am_k114 : cd114.all (am_chk am_w114 114) = true := by
  simp only [cd114, List.all_append, kcd114_0, Bool.and_self]
theorem am_r114 : am_rtc 114 = 0 := by decide +kernel
theorem am_l114 : am_ml 114 = 3 := by decide +kernel
def am_s114_ (z : Nat) : Nat → List aV → aM → Option aR := fun j => (match Nat.beq j 7 with
  | true => F7 z
  | false => (fun _ _ => none))
theorem hs114 (z : Nat) : ∀ j2 : Nat, ∃ d2 : Nat, d2 + 1 ≤ 2 ∧ am_Snd d2 j2 (am_s114_ z j2) := by
  intro j2
  unfold am_s114_
  split
  · rename_i he
    rw [am_beq he]
    exact ⟨_, by decide, S7 z⟩
  · skip
    exact ⟨0, by decide, am_Snd_no j2⟩
def f114_17 (z : Nat) : Nat → Int32 → Int32 → aM → Option aR
  | 0, _, _, _ => none
  | n + 1, x1, x2, M =>
    if (M.1 18 5) ≤ x2 then
      some (some (.inl x1), M)
    else
      if am_inB x2 16 then
        if ¬ (M.1 62 x2.toNatClampNeg) = 0 then
          f114_17 z n x1 (x2 + (1 : Int32)) M
        else
          f114_17 z n (x1 ||| ((1 : Int32) <<< (x2 &&& 31))) (x2 + (1 : Int32)) M
      else
        none
set_option maxRecDepth 100000 in
set_option maxHeartbeats 4000000 in
theorem e114_17 (z : Nat) : ∀ (n : Nat) (x1 : Int32) (x2 : Int32) (M : aM) (r : aR), f114_17 z n x1 x2 M = some r → am_Ev 2 114 17 [some (.inr (.inr (10, 0))), some (.inl x1), some (.inl x2)] [] M r := by
  intro n
  induction n with
  | zero =>
    intro x1 x2 M r h
    cases h
  | succ n ih =>
    intro x1 x2 M r h
    exact am_Ev_seg (sem := am_s114_ z) (cut := ([(17, [true, true, true])] : List (Nat × List Bool))) (hs114 z) am_r114 am_k114 (by rw [am_l114]; decide) (fun pc al st M => (match Nat.beq pc 17 with
      | true => (match al, st with
        | [some (.inr (.inr (10, 0))), some (.inl x1), some (.inl x2)], [] => f114_17 z n x1 x2 M
        | _, _ => none)
      | false => none)) 21 h (fun pc al st M hk => by
      try dsimp only at hk
      split at hk
      · rename_i he
        rw [am_beq he]
        split at hk
        · exact ih _ _ _ _ hk
        · cases hk
      · cases hk)
/-- ArgumentMender.idle()I -/
def f114 (z : Nat) (M : aM) : Option aR :=
  am_bi (f7 z 18 M) fun v2 M1 =>
    if ¬ v2 = 0 then
      f114_17 z z (0 : Int32) (0 : Int32) M1
    else
      some (some (.inl (-2 : Int32)), M1)
set_option maxRecDepth 100000 in
set_option maxHeartbeats 4000000 in
theorem e114 (z : Nat) : ∀ (M : aM) (r : aR), f114 z  M = some r → am_Ev 2 114 0 [some (.inr (.inr (10, 0))), none, none] [] M r := by
  intro  M r h
  exact am_Ev_seg (sem := am_s114_ z) (cut := ([(17, [true, true, true])] : List (Nat × List Bool))) (hs114 z) am_r114 am_k114 (by rw [am_l114]; decide) (fun pc al st M => (match Nat.beq pc 17 with
      | true => (match al, st with
        | [some (.inr (.inr (10, 0))), some (.inl x1), some (.inl x2)], [] => f114_17 z z x1 x2 M
        | _, _ => none)
      | false => none)) 10 h (fun pc al st M hk => by
      try dsimp only at hk
      split at hk
      · rename_i he
        rw [am_beq he]
        split at hk
        · exact e114_17 z _ _ _ _ _ hk
        · cases hk
      · cases hk)
def F114 (z : Nat) (as : List aV) (M : aM) : Option aR := match as with
  | [.inr (.inr (10, 0))] => f114 z  M
  | _ => none
theorem S114 (z : Nat) : am_Snd 2 114 (F114 z) := am_meth (by decide +kernel) (fun as M r has h => by
    rw [am_l114]
    unfold F114 at h
    split at h
    · exact ⟨Nat.le_of_ble_eq_true rfl, e114 z _ _ h⟩
    · cases h)
def cd165_0 : List am_E := [(0, .iload_n 0, 1, 0, 0, 0, 0), (1, .iload_n 1, 1, 1, 0, 0, 0), (2, .if_icmp .lt 12, 3, 14, 0, 0, 0), (5, .iload_n 0, 1, 0, 0, 0, 0), (6, .iload_n 2, 1, 2, 0, 0, 0), (7, .if_icmp .gt 7, 3, 14, 0, 0, 0), (10, .iconst 1, 1, 0, 0, 1, 0), (11, .goto 4, 3, 15, 0, 0, 0), (14, .iconst 0, 1, 0, 0, 0, 0), (15, .ireturn, 1, 0, 0, 0, 0)]
def cd165 : List am_E := cd165_0
def am_w165 : List (List (Int32 × Nat) × Nat) := []
set_option maxRecDepth 100000 in
theorem kcd165_0 : cd165_0.all (am_chk am_w165 165) = true := by decide +kernel
theorem am_k165 : cd165.all (am_chk am_w165 165) = true := by
  simp only [cd165, List.all_append, kcd165_0, Bool.and_self]
theorem am_r165 : am_rtc 165 = 1 := by decide +kernel
theorem am_l165 : am_ml 165 = 3 := by decide +kernel
def am_s165_ (z : Nat) : Nat → List aV → aM → Option aR := fun j => (fun _ _ => none)
theorem hs165 (z : Nat) : ∀ j2 : Nat, ∃ d2 : Nat, d2 + 1 ≤ 1 ∧ am_Snd d2 j2 (am_s165_ z j2) := by
  intro j2
  unfold am_s165_
  exact ⟨0, by decide, am_Snd_no j2⟩
/-- ArgumentMender.within(III)Z -/
def f165 (z : Nat) (x0 : Int32) (x1 : Int32) (x2 : Int32) (M : aM) : Option aR :=
  if x0 < x1 then
    some (some (.inl ((0 : Int32) &&& 1)), M)
  else
    if x2 < x0 then
      some (some (.inl ((0 : Int32) &&& 1)), M)
    else
      some (some (.inl ((1 : Int32) &&& 1)), M)
set_option maxRecDepth 100000 in
set_option maxHeartbeats 4000000 in
theorem e165 (z : Nat) : ∀ (x0 : Int32) (x1 : Int32) (x2 : Int32) (M : aM) (r : aR), f165 z x0 x1 x2 M = some r → am_Ev 1 165 0 [some (.inl x0), some (.inl x1), some (.inl x2)] [] M r := by
  intro x0 x1 x2 M r h
  exact am_Ev_seg (sem := am_s165_ z) (cut := ([] : List (Nat × List Bool))) (hs165 z) am_r165 am_k165 (by rw [am_l165]; decide) (fun _ _ _ _ => none) 10 h (fun _ _ _ _ hk => by cases hk)
def F165 (z : Nat) (as : List aV) (M : aM) : Option aR := match as with
  | [.inl x0, .inl x1, .inl x2] => f165 z x0 x1 x2 M
  | _ => none
theorem S165 (z : Nat) : am_Snd 1 165 (F165 z) := am_meth (by decide +kernel) (fun as M r has h => by
    rw [am_l165]
    unfold F165 at h
    split at h
    · exact ⟨Nat.le_of_ble_eq_true rfl, e165 z _ _ _ _ _ h⟩
    · cases h)
def cd115_0 : List am_E := [(0, .aload_n 0, 1, 0, 0, 0, 0), (1, .getfield 19, 3, 10, 1, 0, 0), (4, .iload_n 1, 1, 1, 0, 0, 0), (5, .invokevirtual 138, 3, 8, 1010, 0, 0), (8, .ifCond .eq 29, 3, 37, 0, 0, 0), (11, .iload_n 2, 1, 2, 0, 0, 0), (12, .iconst 1, 1, 0, 0, 1, 0), (13, .sipush 200, 3, 0, 0, 200, 0), (16, .invokestatic 215, 3, 165, 35, 0, 0), (19, .ifCond .eq 18, 3, 37, 0, 0, 0), (22, .aload_n 0, 1, 0, 0, 0, 0), (23, .getfield 19, 3, 10, 1, 0, 0), (26, .iload_n 3, 1, 3, 0, 0, 0), (27, .invokevirtual 144, 3, 11, 1010, 0, 0), (30, .ifCond .eq 7, 3, 37, 0, 0, 0), (33, .iconst 1, 1, 0, 0, 1, 0), (34, .goto 4, 3, 38, 0, 0, 0), (37, .iconst 0, 1, 0, 0, 0, 0), (38, .ireturn, 1, 0, 0, 0, 0)]
def cd115 : List am_E := cd115_0
def am_w115 : List (List (Int32 × Nat) × Nat) := []
set_option maxRecDepth 100000 in
theorem kcd115_0 : cd115_0.all (am_chk am_w115 115) = true := by decide +kernel
theorem am_k115 : cd115.all (am_chk am_w115 115) = true := by
  simp only [cd115, List.all_append, kcd115_0, Bool.and_self]
theorem am_r115 : am_rtc 115 = 1 := by decide +kernel
theorem am_l115 : am_ml 115 = 4 := by decide +kernel
def am_s115_ (z : Nat) : Nat → List aV → aM → Option aR := fun j => (match Nat.beq j 8 with
  | true => F8 z
  | false => (match Nat.beq j 11 with
  | true => F11 z
  | false => (match Nat.beq j 165 with
  | true => F165 z
  | false => (fun _ _ => none))))
theorem hs115 (z : Nat) : ∀ j2 : Nat, ∃ d2 : Nat, d2 + 1 ≤ 3 ∧ am_Snd d2 j2 (am_s115_ z j2) := by
  intro j2
  unfold am_s115_
  split
  · rename_i he
    rw [am_beq he]
    exact ⟨_, by decide, S8 z⟩
  · skip
    split
    · rename_i he
      rw [am_beq he]
      exact ⟨_, by decide, S11 z⟩
    · skip
      split
      · rename_i he
        rw [am_beq he]
        exact ⟨_, by decide, S165 z⟩
      · skip
        exact ⟨0, by decide, am_Snd_no j2⟩
/-- ArgumentMender.canTry(III)Z -/
def f115 (z : Nat) (x1 : Int32) (x2 : Int32) (x3 : Int32) (M : aM) : Option aR :=
  am_bi (f8 z 18 x1 M) fun v2 M1 =>
    if v2 = 0 then
      some (some (.inl ((0 : Int32) &&& 1)), M1)
    else
      am_bi (f165 z x2 (1 : Int32) (200 : Int32) M1) fun v4 M3 =>
        if v4 = 0 then
          some (some (.inl ((0 : Int32) &&& 1)), M3)
        else
          am_bi (f11 z 18 x3 M3) fun v6 M5 =>
            if v6 = 0 then
              some (some (.inl ((0 : Int32) &&& 1)), M5)
            else
              some (some (.inl ((1 : Int32) &&& 1)), M5)
set_option maxRecDepth 100000 in
set_option maxHeartbeats 4000000 in
theorem e115 (z : Nat) : ∀ (x1 : Int32) (x2 : Int32) (x3 : Int32) (M : aM) (r : aR), f115 z x1 x2 x3 M = some r → am_Ev 3 115 0 [some (.inr (.inr (10, 0))), some (.inl x1), some (.inl x2), some (.inl x3)] [] M r := by
  intro x1 x2 x3 M r h
  exact am_Ev_seg (sem := am_s115_ z) (cut := ([] : List (Nat × List Bool))) (hs115 z) am_r115 am_k115 (by rw [am_l115]; decide) (fun _ _ _ _ => none) 19 h (fun _ _ _ _ hk => by cases hk)
def F115 (z : Nat) (as : List aV) (M : aM) : Option aR := match as with
  | [.inr (.inr (10, 0)), .inl x1, .inl x2, .inl x3] => f115 z x1 x2 x3 M
  | _ => none
theorem S115 (z : Nat) : am_Snd 3 115 (F115 z) := am_meth (by decide +kernel) (fun as M r has h => by
    rw [am_l115]
    unfold F115 at h
    split at h
    · exact ⟨Nat.le_of_ble_eq_true rfl, e115 z _ _ _ _ _ h⟩
    · cases h)
def cd116_0 : List am_E := [(0, .aload_n 0, 1, 0, 0, 0, 0), (1, .iload_n 1, 1, 1, 0, 0, 0), (2, .iload_n 2, 1, 2, 0, 0, 0), (3, .iload_n 3, 1, 3, 0, 0, 0), (4, .invokevirtual 219, 3, 115, 10030, 0, 0), (7, .ifCond .ne 6, 3, 13, 0, 0, 0), (10, .bipush (-2), 2, 0, 0, (-2), 0), (12, .ireturn, 1, 0, 0, 0, 0), (13, .aload_n 0, 1, 0, 0, 0, 0), (14, .getfield 40, 3, 10, 4, 0, 0), (17, .aload_n 0, 1, 0, 0, 0, 0), (18, .getfield 19, 3, 10, 1, 0, 0), (21, .aload_n 0, 1, 0, 0, 0, 0), (22, .getfield 26, 3, 10, 2, 0, 0), (25, .getfield 147, 3, 9, 3, 0, 0), (28, .iload_n 3, 1, 3, 0, 0, 0), (29, .aaload, 1, 0, 0, 0, 0), (30, .iload_n 1, 1, 1, 0, 0, 0), (31, .iload_n 2, 1, 2, 0, 0, 0), (32, .invokevirtual 222, 3, 52, 6043, 0, 0), (35, .getfield 226, 3, 7, 2, 0, 0), (38, .invokestatic 204, 3, 328, 15, 0, 0), (41, .ireturn, 1, 0, 0, 0, 0)]
def cd116 : List am_E := cd116_0
def am_w116 : List (List (Int32 × Nat) × Nat) := []
set_option maxRecDepth 100000 in
theorem kcd116_0 : cd116_0.all (am_chk am_w116 116) = true := by decide +kernel
theorem am_k116 : cd116.all (am_chk am_w116 116) = true := by
  simp only [cd116, List.all_append, kcd116_0, Bool.and_self]
theorem am_r116 : am_rtc 116 = 0 := by decide +kernel
theorem am_l116 : am_ml 116 = 4 := by decide +kernel
def am_s116_ (z : Nat) : Nat → List aV → aM → Option aR := fun j => (match Nat.beq j 52 with
  | true => F52 z
  | false => (match Nat.beq j 115 with
  | true => F115 z
  | false => (match Nat.beq j 328 with
  | true => F328 z
  | false => (fun _ _ => none))))
theorem hs116 (z : Nat) : ∀ j2 : Nat, ∃ d2 : Nat, d2 + 1 ≤ 5 ∧ am_Snd d2 j2 (am_s116_ z j2) := by
  intro j2
  unfold am_s116_
  split
  · rename_i he
    rw [am_beq he]
    exact ⟨_, by decide, S52 z⟩
  · skip
    split
    · rename_i he
      rw [am_beq he]
      exact ⟨_, by decide, S115 z⟩
    · skip
      split
      · rename_i he
        rw [am_beq he]
        exact ⟨_, by decide, S328 z⟩
      · skip
        exact ⟨0, by decide, am_Snd_no j2⟩
/-- ArgumentMender.tries(III)I -/
def f116 (z : Nat) (x1 : Int32) (x2 : Int32) (x3 : Int32) (M : aM) : Option aR :=
  am_bi (f115 z x1 x2 x3 M) fun v2 M1 =>
    if ¬ v2 = 0 then
      if am_inB x3 13 then
        am_br (f52 z 18 (33 + (1 + 1 * x3.toNatClampNeg)) x1 x2 M1) fun M3 =>
          am_bi (f328 z (M3.1 109 2) M3) fun v5 M4 =>
            some (some (.inl v5), M4)
      else
        none
    else
      some (some (.inl (-2 : Int32)), M1)
set_option maxRecDepth 100000 in
set_option maxHeartbeats 4000000 in
theorem e116 (z : Nat) : ∀ (x1 : Int32) (x2 : Int32) (x3 : Int32) (M : aM) (r : aR), f116 z x1 x2 x3 M = some r → am_Ev 5 116 0 [some (.inr (.inr (10, 0))), some (.inl x1), some (.inl x2), some (.inl x3)] [] M r := by
  intro x1 x2 x3 M r h
  exact am_Ev_seg (sem := am_s116_ z) (cut := ([] : List (Nat × List Bool))) (hs116 z) am_r116 am_k116 (by rw [am_l116]; decide) (fun _ _ _ _ => none) 22 h (fun _ _ _ _ hk => by cases hk)
def F116 (z : Nat) (as : List aV) (M : aM) : Option aR := match as with
  | [.inr (.inr (10, 0)), .inl x1, .inl x2, .inl x3] => f116 z x1 x2 x3 M
  | _ => none
theorem S116 (z : Nat) : am_Snd 5 116 (F116 z) := am_meth (by decide +kernel) (fun as M r has h => by
    rw [am_l116]
    unfold F116 at h
    split at h
    · exact ⟨Nat.le_of_ble_eq_true rfl, e116 z _ _ _ _ _ h⟩
    · cases h)
def cd117_0 : List am_E := [(0, .aload_n 0, 1, 0, 0, 0, 0), (1, .iload_n 1, 1, 1, 0, 0, 0), (2, .iload_n 2, 1, 2, 0, 0, 0), (3, .iload_n 3, 1, 3, 0, 0, 0), (4, .invokevirtual 219, 3, 115, 10030, 0, 0), (7, .ifCond .eq 15, 3, 22, 0, 0, 0), (10, .aload_n 0, 1, 0, 0, 0, 0), (11, .getfield 19, 3, 10, 1, 0, 0), (14, .iload 4, 2, 4, 0, 0, 0), (16, .invokevirtual 112, 3, 9, 1010, 0, 0), (19, .ifCond .ne 6, 3, 25, 0, 0, 0), (22, .bipush (-2), 2, 0, 0, (-2), 0), (24, .ireturn, 1, 0, 0, 0, 0), (25, .aload_n 0, 1, 0, 0, 0, 0), (26, .getfield 40, 3, 10, 4, 0, 0), (29, .aload_n 0, 1, 0, 0, 0, 0), (30, .getfield 19, 3, 10, 1, 0, 0), (33, .aload_n 0, 1, 0, 0, 0, 0), (34, .getfield 26, 3, 10, 2, 0, 0), (37, .getfield 147, 3, 9, 3, 0, 0), (40, .iload_n 3, 1, 3, 0, 0, 0), (41, .aaload, 1, 0, 0, 0, 0), (42, .iload_n 1, 1, 1, 0, 0, 0), (43, .iload_n 2, 1, 2, 0, 0, 0), (44, .invokevirtual 222, 3, 52, 6043, 0, 0), (47, .getfield 230, 3, 7, 0, 0, 0), (50, .iload 4, 2, 4, 0, 0, 0), (52, .iaload, 1, 0, 0, 0, 0), (53, .ireturn, 1, 0, 0, 0, 0)]
def cd117 : List am_E := cd117_0
def am_w117 : List (List (Int32 × Nat) × Nat) := []
set_option maxRecDepth 100000 in
theorem kcd117_0 : cd117_0.all (am_chk am_w117 117) = true := by decide +kernel
theorem am_k117 : cd117.all (am_chk am_w117 117) = true := by
  simp only [cd117, List.all_append, kcd117_0, Bool.and_self]
theorem am_r117 : am_rtc 117 = 0 := by decide +kernel
theorem am_l117 : am_ml 117 = 5 := by decide +kernel
def am_s117_ (z : Nat) : Nat → List aV → aM → Option aR := fun j => (match Nat.beq j 9 with
  | true => F9 z
  | false => (match Nat.beq j 52 with
  | true => F52 z
  | false => (match Nat.beq j 115 with
  | true => F115 z
  | false => (fun _ _ => none))))
theorem hs117 (z : Nat) : ∀ j2 : Nat, ∃ d2 : Nat, d2 + 1 ≤ 5 ∧ am_Snd d2 j2 (am_s117_ z j2) := by
  intro j2
  unfold am_s117_
  split
  · rename_i he
    rw [am_beq he]
    exact ⟨_, by decide, S9 z⟩
  · skip
    split
    · rename_i he
      rw [am_beq he]
      exact ⟨_, by decide, S52 z⟩
    · skip
      split
      · rename_i he
        rw [am_beq he]
        exact ⟨_, by decide, S115 z⟩
      · skip
        exact ⟨0, by decide, am_Snd_no j2⟩
/-- ArgumentMender.would(IIII)I -/
def f117 (z : Nat) (x1 : Int32) (x2 : Int32) (x3 : Int32) (x4 : Int32) (M : aM) : Option aR :=
  am_bi (f115 z x1 x2 x3 M) fun v2 M1 =>
    if v2 = 0 then
      some (some (.inl (-2 : Int32)), M1)
    else
      am_bi (f9 z 18 x4 M1) fun v4 M3 =>
        if ¬ v4 = 0 then
          if am_inB x3 13 then
            am_br (f52 z 18 (33 + (1 + 1 * x3.toNatClampNeg)) x1 x2 M3) fun M5 =>
              if am_inB x4 16 then
                some (some (.inl (M5.1 110 x4.toNatClampNeg)), M5)
              else
                none
          else
            none
        else
          some (some (.inl (-2 : Int32)), M3)
set_option maxRecDepth 100000 in
set_option maxHeartbeats 4000000 in
theorem e117 (z : Nat) : ∀ (x1 : Int32) (x2 : Int32) (x3 : Int32) (x4 : Int32) (M : aM) (r : aR), f117 z x1 x2 x3 x4 M = some r → am_Ev 5 117 0 [some (.inr (.inr (10, 0))), some (.inl x1), some (.inl x2), some (.inl x3), some (.inl x4)] [] M r := by
  intro x1 x2 x3 x4 M r h
  exact am_Ev_seg (sem := am_s117_ z) (cut := ([] : List (Nat × List Bool))) (hs117 z) am_r117 am_k117 (by rw [am_l117]; decide) (fun _ _ _ _ => none) 28 h (fun _ _ _ _ hk => by cases hk)
def F117 (z : Nat) (as : List aV) (M : aM) : Option aR := match as with
  | [.inr (.inr (10, 0)), .inl x1, .inl x2, .inl x3, .inl x4] => f117 z x1 x2 x3 x4 M
  | _ => none
theorem S117 (z : Nat) : am_Snd 5 117 (F117 z) := am_meth (by decide +kernel) (fun as M r has h => by
    rw [am_l117]
    unfold F117 at h
    split at h
    · exact ⟨Nat.le_of_ble_eq_true rfl, e117 z _ _ _ _ _ _ h⟩
    · cases h)
def cd118_0 : List am_E := [(0, .aload_n 0, 1, 0, 0, 0, 0), (1, .iload_n 1, 1, 1, 0, 0, 0), (2, .iload_n 2, 1, 2, 0, 0, 0), (3, .iload_n 3, 1, 3, 0, 0, 0), (4, .invokevirtual 219, 3, 115, 10030, 0, 0), (7, .ifCond .ne 6, 3, 13, 0, 0, 0), (10, .bipush (-2), 2, 0, 0, (-2), 0), (12, .ireturn, 1, 0, 0, 0, 0), (13, .aload_n 0, 1, 0, 0, 0, 0), (14, .getfield 40, 3, 10, 4, 0, 0), (17, .aload_n 0, 1, 0, 0, 0, 0), (18, .getfield 19, 3, 10, 1, 0, 0), (21, .aload_n 0, 1, 0, 0, 0, 0), (22, .getfield 26, 3, 10, 2, 0, 0), (25, .getfield 147, 3, 9, 3, 0, 0), (28, .iload_n 3, 1, 3, 0, 0, 0), (29, .aaload, 1, 0, 0, 0, 0), (30, .iload_n 1, 1, 1, 0, 0, 0), (31, .iload_n 2, 1, 2, 0, 0, 0), (32, .invokevirtual 222, 3, 52, 6043, 0, 0), (35, .getfield 233, 3, 7, 3, 0, 0), (38, .ireturn, 1, 0, 0, 0, 0)]
def cd118 : List am_E := cd118_0
def am_w118 : List (List (Int32 × Nat) × Nat) := []
set_option maxRecDepth 100000 in
theorem kcd118_0 : cd118_0.all (am_chk am_w118 118) = true := by decide +kernel
theorem am_k118 : cd118.all (am_chk am_w118 118) = true := by
  simp only [cd118, List.all_append, kcd118_0, Bool.and_self]
theorem am_r118 : am_rtc 118 = 0 := by decide +kernel
theorem am_l118 : am_ml 118 = 4 := by decide +kernel
def am_s118_ (z : Nat) : Nat → List aV → aM → Option aR := fun j => (match Nat.beq j 52 with
  | true => F52 z
  | false => (match Nat.beq j 115 with
  | true => F115 z
  | false => (fun _ _ => none)))
theorem hs118 (z : Nat) : ∀ j2 : Nat, ∃ d2 : Nat, d2 + 1 ≤ 5 ∧ am_Snd d2 j2 (am_s118_ z j2) := by
  intro j2
  unfold am_s118_
  split
  · rename_i he
    rw [am_beq he]
    exact ⟨_, by decide, S52 z⟩
  · skip
    split
    · rename_i he
      rw [am_beq he]
      exact ⟨_, by decide, S115 z⟩
    · skip
      exact ⟨0, by decide, am_Snd_no j2⟩
/-- ArgumentMender.lets(III)I -/
def f118 (z : Nat) (x1 : Int32) (x2 : Int32) (x3 : Int32) (M : aM) : Option aR :=
  am_bi (f115 z x1 x2 x3 M) fun v2 M1 =>
    if ¬ v2 = 0 then
      if am_inB x3 13 then
        am_br (f52 z 18 (33 + (1 + 1 * x3.toNatClampNeg)) x1 x2 M1) fun M3 =>
          some (some (.inl (M3.1 109 3)), M3)
      else
        none
    else
      some (some (.inl (-2 : Int32)), M1)
set_option maxRecDepth 100000 in
set_option maxHeartbeats 4000000 in
theorem e118 (z : Nat) : ∀ (x1 : Int32) (x2 : Int32) (x3 : Int32) (M : aM) (r : aR), f118 z x1 x2 x3 M = some r → am_Ev 5 118 0 [some (.inr (.inr (10, 0))), some (.inl x1), some (.inl x2), some (.inl x3)] [] M r := by
  intro x1 x2 x3 M r h
  exact am_Ev_seg (sem := am_s118_ z) (cut := ([] : List (Nat × List Bool))) (hs118 z) am_r118 am_k118 (by rw [am_l118]; decide) (fun _ _ _ _ => none) 21 h (fun _ _ _ _ hk => by cases hk)
def F118 (z : Nat) (as : List aV) (M : aM) : Option aR := match as with
  | [.inr (.inr (10, 0)), .inl x1, .inl x2, .inl x3] => f118 z x1 x2 x3 M
  | _ => none
theorem S118 (z : Nat) : am_Snd 5 118 (F118 z) := am_meth (by decide +kernel) (fun as M r has h => by
    rw [am_l118]
    unfold F118 at h
    split at h
    · exact ⟨Nat.le_of_ble_eq_true rfl, e118 z _ _ _ _ _ h⟩
    · cases h)
def cd119_0 : List am_E := [(0, .aload_n 0, 1, 0, 0, 0, 0), (1, .getfield 19, 3, 10, 1, 0, 0), (4, .iload_n 1, 1, 1, 0, 0, 0), (5, .invokevirtual 138, 3, 8, 1010, 0, 0), (8, .ifCond .eq 14, 3, 22, 0, 0, 0), (11, .aload_n 0, 1, 0, 0, 0, 0), (12, .getfield 19, 3, 10, 1, 0, 0), (15, .iload_n 2, 1, 2, 0, 0, 0), (16, .invokevirtual 144, 3, 11, 1010, 0, 0), (19, .ifCond .ne 6, 3, 25, 0, 0, 0), (22, .bipush (-2), 2, 0, 0, (-2), 0), (24, .ireturn, 1, 0, 0, 0, 0), (25, .aload_n 0, 1, 0, 0, 0, 0), (26, .getfield 40, 3, 10, 4, 0, 0), (29, .aload_n 0, 1, 0, 0, 0, 0), (30, .getfield 19, 3, 10, 1, 0, 0), (33, .aload_n 0, 1, 0, 0, 0, 0), (34, .getfield 26, 3, 10, 2, 0, 0), (37, .getfield 147, 3, 9, 3, 0, 0), (40, .iload_n 2, 1, 2, 0, 0, 0), (41, .aaload, 1, 0, 0, 0, 0), (42, .iload_n 1, 1, 1, 0, 0, 0), (43, .sipush 200, 3, 0, 0, 200, 0), (46, .invokevirtual 235, 3, 53, 6040, 0, 0), (49, .ireturn, 1, 0, 0, 0, 0)]
def cd119 : List am_E := cd119_0
def am_w119 : List (List (Int32 × Nat) × Nat) := []
set_option maxRecDepth 100000 in
theorem kcd119_0 : cd119_0.all (am_chk am_w119 119) = true := by decide +kernel
theorem am_k119 : cd119.all (am_chk am_w119 119) = true := by
  simp only [cd119, List.all_append, kcd119_0, Bool.and_self]
theorem am_r119 : am_rtc 119 = 0 := by decide +kernel
theorem am_l119 : am_ml 119 = 3 := by decide +kernel
def am_s119_ (z : Nat) : Nat → List aV → aM → Option aR := fun j => (match Nat.beq j 8 with
  | true => F8 z
  | false => (match Nat.beq j 11 with
  | true => F11 z
  | false => (match Nat.beq j 53 with
  | true => F53 z
  | false => (fun _ _ => none))))
theorem hs119 (z : Nat) : ∀ j2 : Nat, ∃ d2 : Nat, d2 + 1 ≤ 6 ∧ am_Snd d2 j2 (am_s119_ z j2) := by
  intro j2
  unfold am_s119_
  split
  · rename_i he
    rw [am_beq he]
    exact ⟨_, by decide, S8 z⟩
  · skip
    split
    · rename_i he
      rw [am_beq he]
      exact ⟨_, by decide, S11 z⟩
    · skip
      split
      · rename_i he
        rw [am_beq he]
        exact ⟨_, by decide, S53 z⟩
      · skip
        exact ⟨0, by decide, am_Snd_no j2⟩
/-- ArgumentMender.gate(II)I -/
def f119 (z : Nat) (x1 : Int32) (x2 : Int32) (M : aM) : Option aR :=
  am_bi (f8 z 18 x1 M) fun v2 M1 =>
    if v2 = 0 then
      some (some (.inl (-2 : Int32)), M1)
    else
      am_bi (f11 z 18 x2 M1) fun v4 M3 =>
        if ¬ v4 = 0 then
          if am_inB x2 13 then
            am_bi (f53 z 18 (33 + (1 + 1 * x2.toNatClampNeg)) x1 (200 : Int32) M3) fun v6 M5 =>
              some (some (.inl v6), M5)
          else
            none
        else
          some (some (.inl (-2 : Int32)), M3)
set_option maxRecDepth 100000 in
set_option maxHeartbeats 4000000 in
theorem e119 (z : Nat) : ∀ (x1 : Int32) (x2 : Int32) (M : aM) (r : aR), f119 z x1 x2 M = some r → am_Ev 6 119 0 [some (.inr (.inr (10, 0))), some (.inl x1), some (.inl x2)] [] M r := by
  intro x1 x2 M r h
  exact am_Ev_seg (sem := am_s119_ z) (cut := ([] : List (Nat × List Bool))) (hs119 z) am_r119 am_k119 (by rw [am_l119]; decide) (fun _ _ _ _ => none) 24 h (fun _ _ _ _ hk => by cases hk)
def F119 (z : Nat) (as : List aV) (M : aM) : Option aR := match as with
  | [.inr (.inr (10, 0)), .inl x1, .inl x2] => f119 z x1 x2 M
  | _ => none
theorem S119 (z : Nat) : am_Snd 6 119 (F119 z) := am_meth (by decide +kernel) (fun as M r has h => by
    rw [am_l119]
    unfold F119 at h
    split at h
    · exact ⟨Nat.le_of_ble_eq_true rfl, e119 z _ _ _ _ h⟩
    · cases h)
def cd120_0 : List am_E := [(0, .aload_n 0, 1, 0, 0, 0, 0), (1, .getfield 19, 3, 10, 1, 0, 0), (4, .iload_n 1, 1, 1, 0, 0, 0), (5, .invokevirtual 144, 3, 11, 1010, 0, 0), (8, .ifCond .ne 6, 3, 14, 0, 0, 0), (11, .bipush (-2), 2, 0, 0, (-2), 0), (13, .ireturn, 1, 0, 0, 0, 0), (14, .iconst (-1), 1, 0, 0, (-1), 0), (15, .istore_n 2, 1, 2, 0, 0, 0), (16, .sipush 201, 3, 0, 0, 201, 0), (19, .istore_n 3, 1, 3, 0, 0, 0), (20, .iconst 0, 1, 0, 0, 0, 0), (21, .istore 4, 2, 4, 0, 0, 0), (23, .iload 4, 2, 4, 0, 0, 0), (25, .aload_n 0, 1, 0, 0, 0, 0), (26, .getfield 19, 3, 10, 1, 0, 0), (29, .getfield 154, 3, 1, 4, 0, 0), (32, .if_icmp .ge 48, 3, 80, 0, 0, 0), (35, .aload_n 0, 1, 0, 0, 0, 0), (36, .getfield 40, 3, 10, 4, 0, 0), (39, .aload_n 0, 1, 0, 0, 0, 0), (40, .getfield 19, 3, 10, 1, 0, 0), (43, .aload_n 0, 1, 0, 0, 0, 0), (44, .getfield 26, 3, 10, 2, 0, 0), (47, .getfield 147, 3, 9, 3, 0, 0), (50, .iload_n 1, 1, 1, 0, 0, 0), (51, .aaload, 1, 0, 0, 0, 0), (52, .iload 4, 2, 4, 0, 0, 0), (54, .iload_n 3, 1, 3, 0, 0, 0), (55, .iconst 1, 1, 0, 0, 1, 0), (56, .isub, 1, 0, 0, 0, 0), (57, .invokevirtual 235, 3, 53, 6040, 0, 0), (60, .istore 5, 2, 5, 0, 0, 0), (62, .iload 5, 2, 5, 0, 0, 0), (64, .iconst (-1), 1, 0, 0, (-1), 0), (65, .if_icmp .eq 9, 3, 74, 0, 0, 0), (68, .iload 5, 2, 5, 0, 0, 0), (70, .istore_n 3, 1, 3, 0, 0, 0), (71, .iload 4, 2, 4, 0, 0, 0), (73, .istore_n 2, 1, 2, 0, 0, 0)]
def cd120_1 : List am_E := [(74, .iinc 4 1, 3, 4, 0, 1, 0), (77, .goto (-54), 3, 23, 0, 0, 0), (80, .iload_n 2, 1, 2, 0, 0, 0), (81, .ireturn, 1, 0, 0, 0, 0)]
def cd120 : List am_E := cd120_0 ++ (cd120_1)
def am_w120 : List (List (Int32 × Nat) × Nat) := []
set_option maxRecDepth 100000 in
theorem kcd120_0 : cd120_0.all (am_chk am_w120 120) = true := by decide +kernel
set_option maxRecDepth 100000 in
theorem kcd120_1 : cd120_1.all (am_chk am_w120 120) = true := by decide +kernel
theorem am_k120 : cd120.all (am_chk am_w120 120) = true := by
  simp only [cd120, List.all_append, kcd120_0, kcd120_1, Bool.and_self]
theorem am_r120 : am_rtc 120 = 0 := by decide +kernel
theorem am_l120 : am_ml 120 = 6 := by decide +kernel
def am_s120_ (z : Nat) : Nat → List aV → aM → Option aR := fun j => (match Nat.beq j 11 with
  | true => F11 z
  | false => (match Nat.beq j 53 with
  | true => F53 z
  | false => (fun _ _ => none)))
theorem hs120 (z : Nat) : ∀ j2 : Nat, ∃ d2 : Nat, d2 + 1 ≤ 6 ∧ am_Snd d2 j2 (am_s120_ z j2) := by
  intro j2
  unfold am_s120_
  split
  · rename_i he
    rw [am_beq he]
    exact ⟨_, by decide, S11 z⟩
  · skip
    split
    · rename_i he
      rw [am_beq he]
      exact ⟨_, by decide, S53 z⟩
    · skip
      exact ⟨0, by decide, am_Snd_no j2⟩
def f120_23 (z : Nat) : Nat → Int32 → Int32 → Int32 → Int32 → aM → Option aR
  | 0, _, _, _, _, _ => none
  | n + 1, x1, x2, x3, x4, M =>
    if (M.1 18 4) ≤ x4 then
      some (some (.inl x2), M)
    else
      if am_inB x1 13 then
        am_bi (f53 z 18 (33 + (1 + 1 * x1.toNatClampNeg)) x4 (x3 - (1 : Int32)) M) fun v2 M1 =>
          if v2 = (-1 : Int32) then
            f120_23 z n x1 x2 x3 (x4 + (1 : Int32)) M1
          else
            f120_23 z n x1 x4 v2 (x4 + (1 : Int32)) M1
      else
        none
set_option maxRecDepth 100000 in
set_option maxHeartbeats 4000000 in
theorem e120_23 (z : Nat) : ∀ (n : Nat) (x1 : Int32) (x2 : Int32) (x3 : Int32) (x4 : Int32) (M : aM) (r : aR), f120_23 z n x1 x2 x3 x4 M = some r → am_Ev 6 120 23 [some (.inr (.inr (10, 0))), some (.inl x1), some (.inl x2), some (.inl x3), some (.inl x4), none] [] M r := by
  intro n
  induction n with
  | zero =>
    intro x1 x2 x3 x4 M r h
    cases h
  | succ n ih =>
    intro x1 x2 x3 x4 M r h
    exact am_Ev_seg (sem := am_s120_ z) (cut := ([(23, [true, true, true, true, true, false])] : List (Nat × List Bool))) (hs120 z) am_r120 am_k120 (by rw [am_l120]; decide) (fun pc al st M => (match Nat.beq pc 23 with
      | true => (match al, st with
        | [some (.inr (.inr (10, 0))), some (.inl x1), some (.inl x2), some (.inl x3), some (.inl x4), none], [] => f120_23 z n x1 x2 x3 x4 M
        | _, _ => none)
      | false => none)) 31 h (fun pc al st M hk => by
      try dsimp only at hk
      split at hk
      · rename_i he
        rw [am_beq he]
        split at hk
        · exact ih _ _ _ _ _ _ hk
        · cases hk
      · cases hk)
/-- ArgumentMender.soft(I)I -/
def f120 (z : Nat) (x1 : Int32) (M : aM) : Option aR :=
  am_bi (f11 z 18 x1 M) fun v2 M1 =>
    if ¬ v2 = 0 then
      f120_23 z z x1 (-1 : Int32) (201 : Int32) (0 : Int32) M1
    else
      some (some (.inl (-2 : Int32)), M1)
set_option maxRecDepth 100000 in
set_option maxHeartbeats 4000000 in
theorem e120 (z : Nat) : ∀ (x1 : Int32) (M : aM) (r : aR), f120 z x1 M = some r → am_Ev 6 120 0 [some (.inr (.inr (10, 0))), some (.inl x1), none, none, none, none] [] M r := by
  intro x1 M r h
  exact am_Ev_seg (sem := am_s120_ z) (cut := ([(23, [true, true, true, true, true, false])] : List (Nat × List Bool))) (hs120 z) am_r120 am_k120 (by rw [am_l120]; decide) (fun pc al st M => (match Nat.beq pc 23 with
      | true => (match al, st with
        | [some (.inr (.inr (10, 0))), some (.inl x1), some (.inl x2), some (.inl x3), some (.inl x4), none], [] => f120_23 z z x1 x2 x3 x4 M
        | _, _ => none)
      | false => none)) 13 h (fun pc al st M hk => by
      try dsimp only at hk
      split at hk
      · rename_i he
        rw [am_beq he]
        split at hk
        · exact e120_23 z _ _ _ _ _ _ _ hk
        · cases hk
      · cases hk)
def F120 (z : Nat) (as : List aV) (M : aM) : Option aR := match as with
  | [.inr (.inr (10, 0)), .inl x1] => f120 z x1 M
  | _ => none
theorem S120 (z : Nat) : am_Snd 6 120 (F120 z) := am_meth (by decide +kernel) (fun as M r has h => by
    rw [am_l120]
    unfold F120 at h
    split at h
    · exact ⟨Nat.le_of_ble_eq_true rfl, e120 z _ _ _ h⟩
    · cases h)
def cd121_0 : List am_E := [(0, .aload_n 0, 1, 0, 0, 0, 0), (1, .getfield 19, 3, 10, 1, 0, 0), (4, .iload_n 1, 1, 1, 0, 0, 0), (5, .invokevirtual 138, 3, 8, 1010, 0, 0), (8, .ifCond .eq 14, 3, 22, 0, 0, 0), (11, .aload_n 0, 1, 0, 0, 0, 0), (12, .getfield 19, 3, 10, 1, 0, 0), (15, .iload_n 2, 1, 2, 0, 0, 0), (16, .invokevirtual 144, 3, 11, 1010, 0, 0), (19, .ifCond .ne 6, 3, 25, 0, 0, 0), (22, .bipush (-2), 2, 0, 0, (-2), 0), (24, .ireturn, 1, 0, 0, 0, 0), (25, .iconst 1, 1, 0, 0, 1, 0), (26, .istore_n 3, 1, 3, 0, 0, 0), (27, .iload_n 3, 1, 3, 0, 0, 0), (28, .sipush 200, 3, 0, 0, 200, 0), (31, .if_icmp .gt 39, 3, 70, 0, 0, 0), (34, .aload_n 0, 1, 0, 0, 0, 0), (35, .getfield 40, 3, 10, 4, 0, 0), (38, .aload_n 0, 1, 0, 0, 0, 0), (39, .getfield 19, 3, 10, 1, 0, 0), (42, .aload_n 0, 1, 0, 0, 0, 0), (43, .getfield 26, 3, 10, 2, 0, 0), (46, .getfield 147, 3, 9, 3, 0, 0), (49, .iload_n 2, 1, 2, 0, 0, 0), (50, .aaload, 1, 0, 0, 0, 0), (51, .iload_n 1, 1, 1, 0, 0, 0), (52, .iload_n 3, 1, 3, 0, 0, 0), (53, .invokevirtual 222, 3, 52, 6043, 0, 0), (56, .getfield 233, 3, 7, 3, 0, 0), (59, .ifCond .le 5, 3, 64, 0, 0, 0), (62, .iload_n 3, 1, 3, 0, 0, 0), (63, .ireturn, 1, 0, 0, 0, 0), (64, .iinc 3 1, 3, 3, 0, 1, 0), (67, .goto (-40), 3, 27, 0, 0, 0), (70, .iconst (-1), 1, 0, 0, (-1), 0), (71, .ireturn, 1, 0, 0, 0, 0)]
def cd121 : List am_E := cd121_0
def am_w121 : List (List (Int32 × Nat) × Nat) := []
set_option maxRecDepth 100000 in
theorem kcd121_0 : cd121_0.all (am_chk am_w121 121) = true := by decide +kernel
theorem am_k121 : cd121.all (am_chk am_w121 121) = true := by
  simp only [cd121, List.all_append, kcd121_0, Bool.and_self]
theorem am_r121 : am_rtc 121 = 0 := by decide +kernel
theorem am_l121 : am_ml 121 = 4 := by decide +kernel
def am_s121_ (z : Nat) : Nat → List aV → aM → Option aR := fun j => (match Nat.beq j 8 with
  | true => F8 z
  | false => (match Nat.beq j 11 with
  | true => F11 z
  | false => (match Nat.beq j 52 with
  | true => F52 z
  | false => (fun _ _ => none))))
theorem hs121 (z : Nat) : ∀ j2 : Nat, ∃ d2 : Nat, d2 + 1 ≤ 5 ∧ am_Snd d2 j2 (am_s121_ z j2) := by
  intro j2
  unfold am_s121_
  split
  · rename_i he
    rw [am_beq he]
    exact ⟨_, by decide, S8 z⟩
  · skip
    split
    · rename_i he
      rw [am_beq he]
      exact ⟨_, by decide, S11 z⟩
    · skip
      split
      · rename_i he
        rw [am_beq he]
        exact ⟨_, by decide, S52 z⟩
      · skip
        exact ⟨0, by decide, am_Snd_no j2⟩
def f121_27 (z : Nat) : Nat → Int32 → Int32 → Int32 → aM → Option aR
  | 0, _, _, _, _ => none
  | n + 1, x1, x2, x3, M =>
    if (200 : Int32) < x3 then
      some (some (.inl (-1 : Int32)), M)
    else
      if am_inB x2 13 then
        am_br (f52 z 18 (33 + (1 + 1 * x2.toNatClampNeg)) x1 x3 M) fun M1 =>
          if (M1.1 109 3) ≤ 0 then
            f121_27 z n x1 x2 (x3 + (1 : Int32)) M1
          else
            some (some (.inl x3), M1)
      else
        none
set_option maxRecDepth 100000 in
set_option maxHeartbeats 4000000 in
theorem e121_27 (z : Nat) : ∀ (n : Nat) (x1 : Int32) (x2 : Int32) (x3 : Int32) (M : aM) (r : aR), f121_27 z n x1 x2 x3 M = some r → am_Ev 5 121 27 [some (.inr (.inr (10, 0))), some (.inl x1), some (.inl x2), some (.inl x3)] [] M r := by
  intro n
  induction n with
  | zero =>
    intro x1 x2 x3 M r h
    cases h
  | succ n ih =>
    intro x1 x2 x3 M r h
    exact am_Ev_seg (sem := am_s121_ z) (cut := ([(27, [true, true, true, true])] : List (Nat × List Bool))) (hs121 z) am_r121 am_k121 (by rw [am_l121]; decide) (fun pc al st M => (match Nat.beq pc 27 with
      | true => (match al, st with
        | [some (.inr (.inr (10, 0))), some (.inl x1), some (.inl x2), some (.inl x3)], [] => f121_27 z n x1 x2 x3 M
        | _, _ => none)
      | false => none)) 21 h (fun pc al st M hk => by
      try dsimp only at hk
      split at hk
      · rename_i he
        rw [am_beq he]
        split at hk
        · exact ih _ _ _ _ _ hk
        · cases hk
      · cases hk)
/-- ArgumentMender.bursts(II)I -/
def f121 (z : Nat) (x1 : Int32) (x2 : Int32) (M : aM) : Option aR :=
  am_bi (f8 z 18 x1 M) fun v2 M1 =>
    if v2 = 0 then
      some (some (.inl (-2 : Int32)), M1)
    else
      am_bi (f11 z 18 x2 M1) fun v4 M3 =>
        if ¬ v4 = 0 then
          f121_27 z z x1 x2 (1 : Int32) M3
        else
          some (some (.inl (-2 : Int32)), M3)
set_option maxRecDepth 100000 in
set_option maxHeartbeats 4000000 in
theorem e121 (z : Nat) : ∀ (x1 : Int32) (x2 : Int32) (M : aM) (r : aR), f121 z x1 x2 M = some r → am_Ev 5 121 0 [some (.inr (.inr (10, 0))), some (.inl x1), some (.inl x2), none] [] M r := by
  intro x1 x2 M r h
  exact am_Ev_seg (sem := am_s121_ z) (cut := ([(27, [true, true, true, true])] : List (Nat × List Bool))) (hs121 z) am_r121 am_k121 (by rw [am_l121]; decide) (fun pc al st M => (match Nat.beq pc 27 with
      | true => (match al, st with
        | [some (.inr (.inr (10, 0))), some (.inl x1), some (.inl x2), some (.inl x3)], [] => f121_27 z z x1 x2 x3 M
        | _, _ => none)
      | false => none)) 14 h (fun pc al st M hk => by
      try dsimp only at hk
      split at hk
      · rename_i he
        rw [am_beq he]
        split at hk
        · exact e121_27 z _ _ _ _ _ _ hk
        · cases hk
      · cases hk)
def F121 (z : Nat) (as : List aV) (M : aM) : Option aR := match as with
  | [.inr (.inr (10, 0)), .inl x1, .inl x2] => f121 z x1 x2 M
  | _ => none
theorem S121 (z : Nat) : am_Snd 5 121 (F121 z) := am_meth (by decide +kernel) (fun as M r has h => by
    rw [am_l121]
    unfold F121 at h
    split at h
    · exact ⟨Nat.le_of_ble_eq_true rfl, e121 z _ _ _ _ h⟩
    · cases h)
def cd123_0 : List am_E := [(0, .iconst 0, 1, 0, 0, 0, 0), (1, .istore_n 3, 1, 3, 0, 0, 0), (2, .iload_n 3, 1, 3, 0, 0, 0), (3, .bipush 60, 2, 0, 0, 60, 0), (5, .if_icmp .gt 30, 3, 35, 0, 0, 0), (8, .aload_n 0, 1, 0, 0, 0, 0), (9, .getfield 40, 3, 10, 4, 0, 0), (12, .aload_n 0, 1, 0, 0, 0, 0), (13, .getfield 19, 3, 10, 1, 0, 0), (16, .iload_n 1, 1, 1, 0, 0, 0), (17, .iload_n 3, 1, 3, 0, 0, 0), (18, .invokevirtual 243, 3, 46, 6030, 0, 0), (21, .iload_n 2, 1, 2, 0, 0, 0), (22, .iand, 1, 0, 0, 0, 0), (23, .iload_n 2, 1, 2, 0, 0, 0), (24, .if_icmp .ne 5, 3, 29, 0, 0, 0), (27, .iload_n 3, 1, 3, 0, 0, 0), (28, .ireturn, 1, 0, 0, 0, 0), (29, .iinc 3 1, 3, 3, 0, 1, 0), (32, .goto (-30), 3, 2, 0, 0, 0), (35, .iconst (-1), 1, 0, 0, (-1), 0), (36, .ireturn, 1, 0, 0, 0, 0)]
def cd123 : List am_E := cd123_0
def am_w123 : List (List (Int32 × Nat) × Nat) := []
set_option maxRecDepth 100000 in
theorem kcd123_0 : cd123_0.all (am_chk am_w123 123) = true := by decide +kernel
theorem am_k123 : cd123.all (am_chk am_w123 123) = true := by
  simp only [cd123, List.all_append, kcd123_0, Bool.and_self]
theorem am_r123 : am_rtc 123 = 0 := by decide +kernel
theorem am_l123 : am_ml 123 = 4 := by decide +kernel
def am_s123_ (z : Nat) : Nat → List aV → aM → Option aR := fun j => (match Nat.beq j 46 with
  | true => F46 z
  | false => (fun _ _ => none))
theorem hs123 (z : Nat) : ∀ j2 : Nat, ∃ d2 : Nat, d2 + 1 ≤ 6 ∧ am_Snd d2 j2 (am_s123_ z j2) := by
  intro j2
  unfold am_s123_
  split
  · rename_i he
    rw [am_beq he]
    exact ⟨_, by decide, S46 z⟩
  · skip
    exact ⟨0, by decide, am_Snd_no j2⟩
def f123_2 (z : Nat) : Nat → Int32 → Int32 → Int32 → aM → Option aR
  | 0, _, _, _, _ => none
  | n + 1, x1, x2, x3, M =>
    if (60 : Int32) < x3 then
      some (some (.inl (-1 : Int32)), M)
    else
      am_bi (f46 z 18 x1 x3 M) fun v2 M1 =>
        if ¬ (v2 &&& x2) = x2 then
          f123_2 z n x1 x2 (x3 + (1 : Int32)) M1
        else
          some (some (.inl x3), M1)
set_option maxRecDepth 100000 in
set_option maxHeartbeats 4000000 in
theorem e123_2 (z : Nat) : ∀ (n : Nat) (x1 : Int32) (x2 : Int32) (x3 : Int32) (M : aM) (r : aR), f123_2 z n x1 x2 x3 M = some r → am_Ev 6 123 2 [some (.inr (.inr (10, 0))), some (.inl x1), some (.inl x2), some (.inl x3)] [] M r := by
  intro n
  induction n with
  | zero =>
    intro x1 x2 x3 M r h
    cases h
  | succ n ih =>
    intro x1 x2 x3 M r h
    exact am_Ev_seg (sem := am_s123_ z) (cut := ([(2, [true, true, true, true])] : List (Nat × List Bool))) (hs123 z) am_r123 am_k123 (by rw [am_l123]; decide) (fun pc al st M => (match Nat.beq pc 2 with
      | true => (match al, st with
        | [some (.inr (.inr (10, 0))), some (.inl x1), some (.inl x2), some (.inl x3)], [] => f123_2 z n x1 x2 x3 M
        | _, _ => none)
      | false => none)) 18 h (fun pc al st M hk => by
      try dsimp only at hk
      split at hk
      · rename_i he
        rw [am_beq he]
        split at hk
        · exact ih _ _ _ _ _ hk
        · cases hk
      · cases hk)
/-- ArgumentMender.leastWord(II)I -/
def f123 (z : Nat) (x1 : Int32) (x2 : Int32) (M : aM) : Option aR :=
  f123_2 z z x1 x2 (0 : Int32) M
set_option maxRecDepth 100000 in
set_option maxHeartbeats 4000000 in
theorem e123 (z : Nat) : ∀ (x1 : Int32) (x2 : Int32) (M : aM) (r : aR), f123 z x1 x2 M = some r → am_Ev 6 123 0 [some (.inr (.inr (10, 0))), some (.inl x1), some (.inl x2), none] [] M r := by
  intro x1 x2 M r h
  exact am_Ev_seg (sem := am_s123_ z) (cut := ([(2, [true, true, true, true])] : List (Nat × List Bool))) (hs123 z) am_r123 am_k123 (by rw [am_l123]; decide) (fun pc al st M => (match Nat.beq pc 2 with
      | true => (match al, st with
        | [some (.inr (.inr (10, 0))), some (.inl x1), some (.inl x2), some (.inl x3)], [] => f123_2 z z x1 x2 x3 M
        | _, _ => none)
      | false => none)) 4 h (fun pc al st M hk => by
      try dsimp only at hk
      split at hk
      · rename_i he
        rw [am_beq he]
        split at hk
        · exact e123_2 z _ _ _ _ _ _ hk
        · cases hk
      · cases hk)
def F123 (z : Nat) (as : List aV) (M : aM) : Option aR := match as with
  | [.inr (.inr (10, 0)), .inl x1, .inl x2] => f123 z x1 x2 M
  | _ => none
theorem S123 (z : Nat) : am_Snd 6 123 (F123 z) := am_meth (by decide +kernel) (fun as M r has h => by
    rw [am_l123]
    unfold F123 at h
    split at h
    · exact ⟨Nat.le_of_ble_eq_true rfl, e123 z _ _ _ _ h⟩
    · cases h)
def cd122_0 : List am_E := [(0, .aload_n 0, 1, 0, 0, 0, 0), (1, .getfield 19, 3, 10, 1, 0, 0), (4, .iload_n 1, 1, 1, 0, 0, 0), (5, .invokevirtual 112, 3, 9, 1010, 0, 0), (8, .ifCond .eq 14, 3, 22, 0, 0, 0), (11, .aload_n 0, 1, 0, 0, 0, 0), (12, .getfield 19, 3, 10, 1, 0, 0), (15, .iload_n 2, 1, 2, 0, 0, 0), (16, .invokevirtual 138, 3, 8, 1010, 0, 0), (19, .ifCond .ne 6, 3, 25, 0, 0, 0), (22, .bipush (-2), 2, 0, 0, (-2), 0), (24, .ireturn, 1, 0, 0, 0, 0), (25, .aload_n 0, 1, 0, 0, 0, 0), (26, .iload_n 1, 1, 1, 0, 0, 0), (27, .iconst 1, 1, 0, 0, 1, 0), (28, .iload_n 2, 1, 2, 0, 0, 0), (29, .ishl, 1, 0, 0, 0, 0), (30, .invokevirtual 239, 3, 123, 10020, 0, 0), (33, .ireturn, 1, 0, 0, 0, 0)]
def cd122 : List am_E := cd122_0
def am_w122 : List (List (Int32 × Nat) × Nat) := []
set_option maxRecDepth 100000 in
theorem kcd122_0 : cd122_0.all (am_chk am_w122 122) = true := by decide +kernel
theorem am_k122 : cd122.all (am_chk am_w122 122) = true := by
  simp only [cd122, List.all_append, kcd122_0, Bool.and_self]
theorem am_r122 : am_rtc 122 = 0 := by decide +kernel
theorem am_l122 : am_ml 122 = 3 := by decide +kernel
def am_s122_ (z : Nat) : Nat → List aV → aM → Option aR := fun j => (match Nat.beq j 8 with
  | true => F8 z
  | false => (match Nat.beq j 9 with
  | true => F9 z
  | false => (match Nat.beq j 123 with
  | true => F123 z
  | false => (fun _ _ => none))))
theorem hs122 (z : Nat) : ∀ j2 : Nat, ∃ d2 : Nat, d2 + 1 ≤ 7 ∧ am_Snd d2 j2 (am_s122_ z j2) := by
  intro j2
  unfold am_s122_
  split
  · rename_i he
    rw [am_beq he]
    exact ⟨_, by decide, S8 z⟩
  · skip
    split
    · rename_i he
      rw [am_beq he]
      exact ⟨_, by decide, S9 z⟩
    · skip
      split
      · rename_i he
        rw [am_beq he]
        exact ⟨_, by decide, S123 z⟩
      · skip
        exact ⟨0, by decide, am_Snd_no j2⟩
/-- ArgumentMender.word(II)I -/
def f122 (z : Nat) (x1 : Int32) (x2 : Int32) (M : aM) : Option aR :=
  am_bi (f9 z 18 x1 M) fun v2 M1 =>
    if v2 = 0 then
      some (some (.inl (-2 : Int32)), M1)
    else
      am_bi (f8 z 18 x2 M1) fun v4 M3 =>
        if ¬ v4 = 0 then
          am_bi (f123 z x1 ((1 : Int32) <<< (x2 &&& 31)) M3) fun v6 M5 =>
            some (some (.inl v6), M5)
        else
          some (some (.inl (-2 : Int32)), M3)
set_option maxRecDepth 100000 in
set_option maxHeartbeats 4000000 in
theorem e122 (z : Nat) : ∀ (x1 : Int32) (x2 : Int32) (M : aM) (r : aR), f122 z x1 x2 M = some r → am_Ev 7 122 0 [some (.inr (.inr (10, 0))), some (.inl x1), some (.inl x2)] [] M r := by
  intro x1 x2 M r h
  exact am_Ev_seg (sem := am_s122_ z) (cut := ([] : List (Nat × List Bool))) (hs122 z) am_r122 am_k122 (by rw [am_l122]; decide) (fun _ _ _ _ => none) 18 h (fun _ _ _ _ hk => by cases hk)
def F122 (z : Nat) (as : List aV) (M : aM) : Option aR := match as with
  | [.inr (.inr (10, 0)), .inl x1, .inl x2] => f122 z x1 x2 M
  | _ => none
theorem S122 (z : Nat) : am_Snd 7 122 (F122 z) := am_meth (by decide +kernel) (fun as M r has h => by
    rw [am_l122]
    unfold F122 at h
    split at h
    · exact ⟨Nat.le_of_ble_eq_true rfl, e122 z _ _ _ _ h⟩
    · cases h)
def cd124_0 : List am_E := [(0, .aload_n 0, 1, 0, 0, 0, 0), (1, .getfield 19, 3, 10, 1, 0, 0), (4, .iload_n 1, 1, 1, 0, 0, 0), (5, .invokevirtual 138, 3, 8, 1010, 0, 0), (8, .ifCond .ne 6, 3, 14, 0, 0, 0), (11, .bipush (-2), 2, 0, 0, (-2), 0), (13, .ireturn, 1, 0, 0, 0, 0), (14, .iconst 0, 1, 0, 0, 0, 0), (15, .istore_n 2, 1, 2, 0, 0, 0), (16, .iload_n 2, 1, 2, 0, 0, 0), (17, .bipush 60, 2, 0, 0, 60, 0), (19, .if_icmp .gt 51, 3, 70, 0, 0, 0), (22, .iconst 0, 1, 0, 0, 0, 0), (23, .istore_n 3, 1, 3, 0, 0, 0), (24, .iload_n 3, 1, 3, 0, 0, 0), (25, .aload_n 0, 1, 0, 0, 0, 0), (26, .getfield 19, 3, 10, 1, 0, 0), (29, .getfield 141, 3, 1, 5, 0, 0), (32, .if_icmp .ge 32, 3, 64, 0, 0, 0), (35, .aload_n 0, 1, 0, 0, 0, 0), (36, .getfield 40, 3, 10, 4, 0, 0), (39, .aload_n 0, 1, 0, 0, 0, 0), (40, .getfield 19, 3, 10, 1, 0, 0), (43, .iload_n 3, 1, 3, 0, 0, 0), (44, .iload_n 2, 1, 2, 0, 0, 0), (45, .invokevirtual 243, 3, 46, 6030, 0, 0), (48, .iload_n 1, 1, 1, 0, 0, 0), (49, .ishr, 1, 0, 0, 0, 0), (50, .iconst 1, 1, 0, 0, 1, 0), (51, .iand, 1, 0, 0, 0, 0), (52, .iconst 1, 1, 0, 0, 1, 0), (53, .if_icmp .ne 5, 3, 58, 0, 0, 0), (56, .iload_n 3, 1, 3, 0, 0, 0), (57, .ireturn, 1, 0, 0, 0, 0), (58, .iinc 3 1, 3, 3, 0, 1, 0), (61, .goto (-37), 3, 24, 0, 0, 0), (64, .iinc 2 1, 3, 2, 0, 1, 0), (67, .goto (-51), 3, 16, 0, 0, 0), (70, .iconst (-1), 1, 0, 0, (-1), 0), (71, .ireturn, 1, 0, 0, 0, 0)]
def cd124 : List am_E := cd124_0
def am_w124 : List (List (Int32 × Nat) × Nat) := []
set_option maxRecDepth 100000 in
theorem kcd124_0 : cd124_0.all (am_chk am_w124 124) = true := by decide +kernel
theorem am_k124 : cd124.all (am_chk am_w124 124) = true := by
  simp only [cd124, List.all_append, kcd124_0, Bool.and_self]
theorem am_r124 : am_rtc 124 = 0 := by decide +kernel
theorem am_l124 : am_ml 124 = 4 := by decide +kernel
def am_s124_ (z : Nat) : Nat → List aV → aM → Option aR := fun j => (match Nat.beq j 8 with
  | true => F8 z
  | false => (match Nat.beq j 46 with
  | true => F46 z
  | false => (fun _ _ => none)))
theorem hs124 (z : Nat) : ∀ j2 : Nat, ∃ d2 : Nat, d2 + 1 ≤ 6 ∧ am_Snd d2 j2 (am_s124_ z j2) := by
  intro j2
  unfold am_s124_
  split
  · rename_i he
    rw [am_beq he]
    exact ⟨_, by decide, S8 z⟩
  · skip
    split
    · rename_i he
      rw [am_beq he]
      exact ⟨_, by decide, S46 z⟩
    · skip
      exact ⟨0, by decide, am_Snd_no j2⟩
def f124_24 (z : Nat) (k16 : Int32 → Int32 → aM → Option aR) : Nat → Int32 → Int32 → Int32 → aM → Option aR
  | 0, _, _, _, _ => none
  | n + 1, x1, x2, x3, M =>
    if (M.1 18 5) ≤ x3 then
      k16 x1 (x2 + (1 : Int32)) M
    else
      am_bi (f46 z 18 x3 x2 M) fun v2 M1 =>
        if ¬ ((v2 >>> (x1 &&& 31)) &&& (1 : Int32)) = (1 : Int32) then
          f124_24 z k16 n x1 x2 (x3 + (1 : Int32)) M1
        else
          some (some (.inl x3), M1)
set_option maxRecDepth 100000 in
set_option maxHeartbeats 4000000 in
theorem e124_24 (z : Nat) (k16 : Int32 → Int32 → aM → Option aR) (hk16 : ∀ (x1 : Int32) (x2 : Int32) (M : aM) (r : aR), k16 x1 x2 M = some r → am_Ev 6 124 16 [some (.inr (.inr (10, 0))), some (.inl x1), some (.inl x2), none] [] M r) : ∀ (n : Nat) (x1 : Int32) (x2 : Int32) (x3 : Int32) (M : aM) (r : aR), f124_24 z k16 n x1 x2 x3 M = some r → am_Ev 6 124 24 [some (.inr (.inr (10, 0))), some (.inl x1), some (.inl x2), some (.inl x3)] [] M r := by
  intro n
  induction n with
  | zero =>
    intro x1 x2 x3 M r h
    cases h
  | succ n ih =>
    intro x1 x2 x3 M r h
    exact am_Ev_seg (sem := am_s124_ z) (cut := ([(16, [true, true, true, false]), (24, [true, true, true, true])] : List (Nat × List Bool))) (hs124 z) am_r124 am_k124 (by rw [am_l124]; decide) (fun pc al st M => (match Nat.beq pc 16 with
      | true => (match al, st with
        | [some (.inr (.inr (10, 0))), some (.inl x1), some (.inl x2), none], [] => k16 x1 x2 M
        | _, _ => none)
      | false => (match Nat.beq pc 24 with
      | true => (match al, st with
        | [some (.inr (.inr (10, 0))), some (.inl x1), some (.inl x2), some (.inl x3)], [] => f124_24 z k16 n x1 x2 x3 M
        | _, _ => none)
      | false => none))) 22 h (fun pc al st M hk => by
      try dsimp only at hk
      split at hk
      · rename_i he
        rw [am_beq he]
        split at hk
        · exact hk16 _ _ _ _ hk
        · cases hk
      · skip
        split at hk
        · rename_i he
          rw [am_beq he]
          split at hk
          · exact ih _ _ _ _ _ hk
          · cases hk
        · cases hk)
def f124_16 (z : Nat) : Nat → Int32 → Int32 → aM → Option aR
  | 0, _, _, _ => none
  | n + 1, x1, x2, M =>
    if (60 : Int32) < x2 then
      some (some (.inl (-1 : Int32)), M)
    else
      f124_24 z (f124_16 z n) z x1 x2 (0 : Int32) M
set_option maxRecDepth 100000 in
set_option maxHeartbeats 4000000 in
theorem e124_16 (z : Nat) : ∀ (n : Nat) (x1 : Int32) (x2 : Int32) (M : aM) (r : aR), f124_16 z n x1 x2 M = some r → am_Ev 6 124 16 [some (.inr (.inr (10, 0))), some (.inl x1), some (.inl x2), none] [] M r := by
  intro n
  induction n with
  | zero =>
    intro x1 x2 M r h
    cases h
  | succ n ih =>
    intro x1 x2 M r h
    exact am_Ev_seg (sem := am_s124_ z) (cut := ([(24, [true, true, true, true])] : List (Nat × List Bool))) (hs124 z) am_r124 am_k124 (by rw [am_l124]; decide) (fun pc al st M => (match Nat.beq pc 24 with
      | true => (match al, st with
        | [some (.inr (.inr (10, 0))), some (.inl x1), some (.inl x2), some (.inl x3)], [] => f124_24 z (f124_16 z n) z x1 x2 x3 M
        | _, _ => none)
      | false => none)) 7 h (fun pc al st M hk => by
      try dsimp only at hk
      split at hk
      · rename_i he
        rw [am_beq he]
        split at hk
        · exact e124_24 z _ ih _ _ _ _ _ _ hk
        · cases hk
      · cases hk)
/-- ArgumentMender.darn(I)I -/
def f124 (z : Nat) (x1 : Int32) (M : aM) : Option aR :=
  am_bi (f8 z 18 x1 M) fun v2 M1 =>
    if ¬ v2 = 0 then
      f124_16 z z x1 (0 : Int32) M1
    else
      some (some (.inl (-2 : Int32)), M1)
set_option maxRecDepth 100000 in
set_option maxHeartbeats 4000000 in
theorem e124 (z : Nat) : ∀ (x1 : Int32) (M : aM) (r : aR), f124 z x1 M = some r → am_Ev 6 124 0 [some (.inr (.inr (10, 0))), some (.inl x1), none, none] [] M r := by
  intro x1 M r h
  exact am_Ev_seg (sem := am_s124_ z) (cut := ([(16, [true, true, true, false])] : List (Nat × List Bool))) (hs124 z) am_r124 am_k124 (by rw [am_l124]; decide) (fun pc al st M => (match Nat.beq pc 16 with
      | true => (match al, st with
        | [some (.inr (.inr (10, 0))), some (.inl x1), some (.inl x2), none], [] => f124_16 z z x1 x2 M
        | _, _ => none)
      | false => none)) 9 h (fun pc al st M hk => by
      try dsimp only at hk
      split at hk
      · rename_i he
        rw [am_beq he]
        split at hk
        · exact e124_16 z _ _ _ _ _ hk
        · cases hk
      · cases hk)
def F124 (z : Nat) (as : List aV) (M : aM) : Option aR := match as with
  | [.inr (.inr (10, 0)), .inl x1] => f124 z x1 M
  | _ => none
theorem S124 (z : Nat) : am_Snd 6 124 (F124 z) := am_meth (by decide +kernel) (fun as M r has h => by
    rw [am_l124]
    unfold F124 at h
    split at h
    · exact ⟨Nat.le_of_ble_eq_true rfl, e124 z _ _ _ h⟩
    · cases h)
def cd125_0 : List am_E := [(0, .aload_n 0, 1, 0, 0, 0, 0), (1, .getfield 19, 3, 10, 1, 0, 0), (4, .iload_n 1, 1, 1, 0, 0, 0), (5, .invokevirtual 112, 3, 9, 1010, 0, 0), (8, .ifCond .eq 18, 3, 26, 0, 0, 0), (11, .aload_n 0, 1, 0, 0, 0, 0), (12, .iload_n 1, 1, 1, 0, 0, 0), (13, .aload_n 0, 1, 0, 0, 0, 0), (14, .getfield 19, 3, 10, 1, 0, 0), (17, .invokevirtual 179, 3, 13, 1000, 0, 0), (20, .invokevirtual 239, 3, 123, 10020, 0, 0), (23, .goto 5, 3, 28, 0, 0, 0), (26, .bipush (-2), 2, 0, 0, (-2), 0), (28, .ireturn, 1, 0, 0, 0, 0)]
def cd125 : List am_E := cd125_0
def am_w125 : List (List (Int32 × Nat) × Nat) := []
set_option maxRecDepth 100000 in
theorem kcd125_0 : cd125_0.all (am_chk am_w125 125) = true := by decide +kernel
theorem am_k125 : cd125.all (am_chk am_w125 125) = true := by
  simp only [cd125, List.all_append, kcd125_0, Bool.and_self]
theorem am_r125 : am_rtc 125 = 0 := by decide +kernel
theorem am_l125 : am_ml 125 = 2 := by decide +kernel
def am_s125_ (z : Nat) : Nat → List aV → aM → Option aR := fun j => (match Nat.beq j 9 with
  | true => F9 z
  | false => (match Nat.beq j 13 with
  | true => F13 z
  | false => (match Nat.beq j 123 with
  | true => F123 z
  | false => (fun _ _ => none))))
theorem hs125 (z : Nat) : ∀ j2 : Nat, ∃ d2 : Nat, d2 + 1 ≤ 7 ∧ am_Snd d2 j2 (am_s125_ z j2) := by
  intro j2
  unfold am_s125_
  split
  · rename_i he
    rw [am_beq he]
    exact ⟨_, by decide, S9 z⟩
  · skip
    split
    · rename_i he
      rw [am_beq he]
      exact ⟨_, by decide, S13 z⟩
    · skip
      split
      · rename_i he
        rw [am_beq he]
        exact ⟨_, by decide, S123 z⟩
      · skip
        exact ⟨0, by decide, am_Snd_no j2⟩
/-- ArgumentMender.mend(I)I -/
def f125 (z : Nat) (x1 : Int32) (M : aM) : Option aR :=
  am_bi (f9 z 18 x1 M) fun v2 M1 =>
    if v2 = 0 then
      some (some (.inl (-2 : Int32)), M1)
    else
      am_bi (f13 z 18 M1) fun v4 M3 =>
        am_bi (f123 z x1 v4 M3) fun v6 M5 =>
          some (some (.inl v6), M5)
set_option maxRecDepth 100000 in
set_option maxHeartbeats 4000000 in
theorem e125 (z : Nat) : ∀ (x1 : Int32) (M : aM) (r : aR), f125 z x1 M = some r → am_Ev 7 125 0 [some (.inr (.inr (10, 0))), some (.inl x1)] [] M r := by
  intro x1 M r h
  exact am_Ev_seg (sem := am_s125_ z) (cut := ([] : List (Nat × List Bool))) (hs125 z) am_r125 am_k125 (by rw [am_l125]; decide) (fun _ _ _ _ => none) 14 h (fun _ _ _ _ hk => by cases hk)
def F125 (z : Nat) (as : List aV) (M : aM) : Option aR := match as with
  | [.inr (.inr (10, 0)), .inl x1] => f125 z x1 M
  | _ => none
theorem S125 (z : Nat) : am_Snd 7 125 (F125 z) := am_meth (by decide +kernel) (fun as M r has h => by
    rw [am_l125]
    unfold F125 at h
    split at h
    · exact ⟨Nat.le_of_ble_eq_true rfl, e125 z _ _ _ h⟩
    · cases h)
def cd126_0 : List am_E := [(0, .aload_n 0, 1, 0, 0, 0, 0), (1, .getfield 19, 3, 10, 1, 0, 0), (4, .iload_n 1, 1, 1, 0, 0, 0), (5, .invokevirtual 138, 3, 8, 1010, 0, 0), (8, .ifCond .eq 14, 3, 22, 0, 0, 0), (11, .aload_n 0, 1, 0, 0, 0, 0), (12, .getfield 19, 3, 10, 1, 0, 0), (15, .iload_n 2, 1, 2, 0, 0, 0), (16, .invokevirtual 144, 3, 11, 1010, 0, 0), (19, .ifCond .ne 6, 3, 25, 0, 0, 0), (22, .bipush (-2), 2, 0, 0, (-2), 0), (24, .ireturn, 1, 0, 0, 0, 0), (25, .aload_n 0, 1, 0, 0, 0, 0), (26, .getfield 33, 3, 10, 3, 0, 0), (29, .aload_n 0, 1, 0, 0, 0, 0), (30, .getfield 19, 3, 10, 1, 0, 0), (33, .aload_n 0, 1, 0, 0, 0, 0), (34, .getfield 26, 3, 10, 2, 0, 0), (37, .getfield 147, 3, 9, 3, 0, 0), (40, .iload_n 2, 1, 2, 0, 0, 0), (41, .aaload, 1, 0, 0, 0, 0), (42, .iload_n 1, 1, 1, 0, 0, 0), (43, .invokevirtual 247, 3, 68, 8030, 0, 0), (46, .ireturn, 1, 0, 0, 0, 0)]
def cd126 : List am_E := cd126_0
def am_w126 : List (List (Int32 × Nat) × Nat) := []
set_option maxRecDepth 100000 in
theorem kcd126_0 : cd126_0.all (am_chk am_w126 126) = true := by decide +kernel
theorem am_k126 : cd126.all (am_chk am_w126 126) = true := by
  simp only [cd126, List.all_append, kcd126_0, Bool.and_self]
theorem am_r126 : am_rtc 126 = 0 := by decide +kernel
theorem am_l126 : am_ml 126 = 3 := by decide +kernel
def am_s126_ (z : Nat) : Nat → List aV → aM → Option aR := fun j => (match Nat.beq j 8 with
  | true => F8 z
  | false => (match Nat.beq j 11 with
  | true => F11 z
  | false => (match Nat.beq j 68 with
  | true => F68 z
  | false => (fun _ _ => none))))
theorem hs126 (z : Nat) : ∀ j2 : Nat, ∃ d2 : Nat, d2 + 1 ≤ 4 ∧ am_Snd d2 j2 (am_s126_ z j2) := by
  intro j2
  unfold am_s126_
  split
  · rename_i he
    rw [am_beq he]
    exact ⟨_, by decide, S8 z⟩
  · skip
    split
    · rename_i he
      rw [am_beq he]
      exact ⟨_, by decide, S11 z⟩
    · skip
      split
      · rename_i he
        rw [am_beq he]
        exact ⟨_, by decide, S68 z⟩
      · skip
        exact ⟨0, by decide, am_Snd_no j2⟩
/-- ArgumentMender.cut(II)I -/
def f126 (z : Nat) (x1 : Int32) (x2 : Int32) (M : aM) : Option aR :=
  am_bi (f8 z 18 x1 M) fun v2 M1 =>
    if v2 = 0 then
      some (some (.inl (-2 : Int32)), M1)
    else
      am_bi (f11 z 18 x2 M1) fun v4 M3 =>
        if ¬ v4 = 0 then
          if am_inB x2 13 then
            am_bi (f68 z 67 18 (33 + (1 + 1 * x2.toNatClampNeg)) x1 M3) fun v6 M5 =>
              some (some (.inl v6), M5)
          else
            none
        else
          some (some (.inl (-2 : Int32)), M3)
set_option maxRecDepth 100000 in
set_option maxHeartbeats 4000000 in
theorem e126 (z : Nat) : ∀ (x1 : Int32) (x2 : Int32) (M : aM) (r : aR), f126 z x1 x2 M = some r → am_Ev 4 126 0 [some (.inr (.inr (10, 0))), some (.inl x1), some (.inl x2)] [] M r := by
  intro x1 x2 M r h
  exact am_Ev_seg (sem := am_s126_ z) (cut := ([] : List (Nat × List Bool))) (hs126 z) am_r126 am_k126 (by rw [am_l126]; decide) (fun _ _ _ _ => none) 23 h (fun _ _ _ _ hk => by cases hk)
def F126 (z : Nat) (as : List aV) (M : aM) : Option aR := match as with
  | [.inr (.inr (10, 0)), .inl x1, .inl x2] => f126 z x1 x2 M
  | _ => none
theorem S126 (z : Nat) : am_Snd 4 126 (F126 z) := am_meth (by decide +kernel) (fun as M r has h => by
    rw [am_l126]
    unfold F126 at h
    split at h
    · exact ⟨Nat.le_of_ble_eq_true rfl, e126 z _ _ _ _ h⟩
    · cases h)
def cd127_0 : List am_E := [(0, .aload_n 0, 1, 0, 0, 0, 0), (1, .getfield 19, 3, 10, 1, 0, 0), (4, .iload_n 1, 1, 1, 0, 0, 0), (5, .invokevirtual 138, 3, 8, 1010, 0, 0), (8, .ifCond .eq 14, 3, 22, 0, 0, 0), (11, .aload_n 0, 1, 0, 0, 0, 0), (12, .getfield 19, 3, 10, 1, 0, 0), (15, .iload_n 2, 1, 2, 0, 0, 0), (16, .invokevirtual 144, 3, 11, 1010, 0, 0), (19, .ifCond .ne 6, 3, 25, 0, 0, 0), (22, .bipush (-2), 2, 0, 0, (-2), 0), (24, .ireturn, 1, 0, 0, 0, 0), (25, .aload_n 0, 1, 0, 0, 0, 0), (26, .getfield 40, 3, 10, 4, 0, 0), (29, .aload_n 0, 1, 0, 0, 0, 0), (30, .getfield 19, 3, 10, 1, 0, 0), (33, .aload_n 0, 1, 0, 0, 0, 0), (34, .getfield 26, 3, 10, 2, 0, 0), (37, .getfield 147, 3, 9, 3, 0, 0), (40, .iload_n 2, 1, 2, 0, 0, 0), (41, .aaload, 1, 0, 0, 0, 0), (42, .iload_n 1, 1, 1, 0, 0, 0), (43, .invokevirtual 250, 3, 54, 6030, 0, 0), (46, .ireturn, 1, 0, 0, 0, 0)]
def cd127 : List am_E := cd127_0
def am_w127 : List (List (Int32 × Nat) × Nat) := []
set_option maxRecDepth 100000 in
theorem kcd127_0 : cd127_0.all (am_chk am_w127 127) = true := by decide +kernel
theorem am_k127 : cd127.all (am_chk am_w127 127) = true := by
  simp only [cd127, List.all_append, kcd127_0, Bool.and_self]
theorem am_r127 : am_rtc 127 = 0 := by decide +kernel
theorem am_l127 : am_ml 127 = 3 := by decide +kernel
def am_s127_ (z : Nat) : Nat → List aV → aM → Option aR := fun j => (match Nat.beq j 8 with
  | true => F8 z
  | false => (match Nat.beq j 11 with
  | true => F11 z
  | false => (match Nat.beq j 54 with
  | true => F54 z
  | false => (fun _ _ => none))))
theorem hs127 (z : Nat) : ∀ j2 : Nat, ∃ d2 : Nat, d2 + 1 ≤ 3 ∧ am_Snd d2 j2 (am_s127_ z j2) := by
  intro j2
  unfold am_s127_
  split
  · rename_i he
    rw [am_beq he]
    exact ⟨_, by decide, S8 z⟩
  · skip
    split
    · rename_i he
      rw [am_beq he]
      exact ⟨_, by decide, S11 z⟩
    · skip
      split
      · rename_i he
        rw [am_beq he]
        exact ⟨_, by decide, S54 z⟩
      · skip
        exact ⟨0, by decide, am_Snd_no j2⟩
/-- ArgumentMender.keys(II)I -/
def f127 (z : Nat) (x1 : Int32) (x2 : Int32) (M : aM) : Option aR :=
  am_bi (f8 z 18 x1 M) fun v2 M1 =>
    if v2 = 0 then
      some (some (.inl (-2 : Int32)), M1)
    else
      am_bi (f11 z 18 x2 M1) fun v4 M3 =>
        if ¬ v4 = 0 then
          if am_inB x2 13 then
            am_bi (f54 z 18 (33 + (1 + 1 * x2.toNatClampNeg)) x1 M3) fun v6 M5 =>
              some (some (.inl v6), M5)
          else
            none
        else
          some (some (.inl (-2 : Int32)), M3)
set_option maxRecDepth 100000 in
set_option maxHeartbeats 4000000 in
theorem e127 (z : Nat) : ∀ (x1 : Int32) (x2 : Int32) (M : aM) (r : aR), f127 z x1 x2 M = some r → am_Ev 3 127 0 [some (.inr (.inr (10, 0))), some (.inl x1), some (.inl x2)] [] M r := by
  intro x1 x2 M r h
  exact am_Ev_seg (sem := am_s127_ z) (cut := ([] : List (Nat × List Bool))) (hs127 z) am_r127 am_k127 (by rw [am_l127]; decide) (fun _ _ _ _ => none) 23 h (fun _ _ _ _ hk => by cases hk)
def F127 (z : Nat) (as : List aV) (M : aM) : Option aR := match as with
  | [.inr (.inr (10, 0)), .inl x1, .inl x2] => f127 z x1 x2 M
  | _ => none
theorem S127 (z : Nat) : am_Snd 3 127 (F127 z) := am_meth (by decide +kernel) (fun as M r has h => by
    rw [am_l127]
    unfold F127 at h
    split at h
    · exact ⟨Nat.le_of_ble_eq_true rfl, e127 z _ _ _ _ h⟩
    · cases h)
def cd128_0 : List am_E := [(0, .aload_n 0, 1, 0, 0, 0, 0), (1, .getfield 33, 3, 10, 3, 0, 0), (4, .aload_n 0, 1, 0, 0, 0, 0), (5, .getfield 19, 3, 10, 1, 0, 0), (8, .aload_n 0, 1, 0, 0, 0, 0), (9, .getfield 26, 3, 10, 2, 0, 0), (12, .getfield 147, 3, 9, 3, 0, 0), (15, .aload_n 0, 1, 0, 0, 0, 0), (16, .getfield 19, 3, 10, 1, 0, 0), (19, .getfield 151, 3, 1, 1, 0, 0), (22, .aaload, 1, 0, 0, 0, 0), (23, .invokevirtual 161, 3, 66, 8020, 0, 0), (26, .invokestatic 204, 3, 328, 15, 0, 0), (29, .ireturn, 1, 0, 0, 0, 0)]
def cd128 : List am_E := cd128_0
def am_w128 : List (List (Int32 × Nat) × Nat) := []
set_option maxRecDepth 100000 in
theorem kcd128_0 : cd128_0.all (am_chk am_w128 128) = true := by decide +kernel
theorem am_k128 : cd128.all (am_chk am_w128 128) = true := by
  simp only [cd128, List.all_append, kcd128_0, Bool.and_self]
theorem am_r128 : am_rtc 128 = 0 := by decide +kernel
theorem am_l128 : am_ml 128 = 1 := by decide +kernel
def am_s128_ (z : Nat) : Nat → List aV → aM → Option aR := fun j => (match Nat.beq j 66 with
  | true => F66 z
  | false => (match Nat.beq j 328 with
  | true => F328 z
  | false => (fun _ _ => none)))
theorem hs128 (z : Nat) : ∀ j2 : Nat, ∃ d2 : Nat, d2 + 1 ≤ 2 ∧ am_Snd d2 j2 (am_s128_ z j2) := by
  intro j2
  unfold am_s128_
  split
  · rename_i he
    rw [am_beq he]
    exact ⟨_, by decide, S66 z⟩
  · skip
    split
    · rename_i he
      rw [am_beq he]
      exact ⟨_, by decide, S328 z⟩
    · skip
      exact ⟨0, by decide, am_Snd_no j2⟩
/-- ArgumentMender.hangingAtLast()I -/
def f128 (z : Nat) (M : aM) : Option aR :=
  if am_inB (M.1 18 1) 13 then
    am_bi (f66 z 67 18 (33 + (1 + 1 * (M.1 18 1).toNatClampNeg)) M) fun v2 M1 =>
      am_bi (f328 z v2 M1) fun v4 M3 =>
        some (some (.inl v4), M3)
  else
    none
set_option maxRecDepth 100000 in
set_option maxHeartbeats 4000000 in
theorem e128 (z : Nat) : ∀ (M : aM) (r : aR), f128 z  M = some r → am_Ev 2 128 0 [some (.inr (.inr (10, 0)))] [] M r := by
  intro  M r h
  exact am_Ev_seg (sem := am_s128_ z) (cut := ([] : List (Nat × List Bool))) (hs128 z) am_r128 am_k128 (by rw [am_l128]; decide) (fun _ _ _ _ => none) 15 h (fun _ _ _ _ hk => by cases hk)
def F128 (z : Nat) (as : List aV) (M : aM) : Option aR := match as with
  | [.inr (.inr (10, 0))] => f128 z  M
  | _ => none
theorem S128 (z : Nat) : am_Snd 2 128 (F128 z) := am_meth (by decide +kernel) (fun as M r has h => by
    rw [am_l128]
    unfold F128 at h
    split at h
    · exact ⟨Nat.le_of_ble_eq_true rfl, e128 z _ _ h⟩
    · cases h)
def cd129_0 : List am_E := [(0, .aload_n 0, 1, 0, 0, 0, 0), (1, .getfield 19, 3, 10, 1, 0, 0), (4, .invokevirtual 176, 3, 7, 1000, 0, 0), (7, .ifCond .ne 6, 3, 13, 0, 0, 0), (10, .bipush (-2), 2, 0, 0, (-2), 0), (12, .ireturn, 1, 0, 0, 0, 0), (13, .iconst (-1), 1, 0, 0, (-1), 0), (14, .istore_n 1, 1, 1, 0, 0, 0), (15, .aload_n 0, 1, 0, 0, 0, 0), (16, .invokevirtual 253, 3, 128, 10000, 0, 0), (19, .istore_n 2, 1, 2, 0, 0, 0), (20, .iconst 0, 1, 0, 0, 0, 0), (21, .istore_n 3, 1, 3, 0, 0, 0), (22, .iload_n 3, 1, 3, 0, 0, 0), (23, .aload_n 0, 1, 0, 0, 0, 0), (24, .getfield 19, 3, 10, 1, 0, 0), (27, .getfield 201, 3, 1, 6, 0, 0), (30, .if_icmp .ge 49, 3, 79, 0, 0, 0), (33, .aload_n 0, 1, 0, 0, 0, 0), (34, .getfield 40, 3, 10, 4, 0, 0), (37, .aload_n 0, 1, 0, 0, 0, 0), (38, .getfield 19, 3, 10, 1, 0, 0), (41, .aload_n 0, 1, 0, 0, 0, 0), (42, .getfield 19, 3, 10, 1, 0, 0), (45, .invokevirtual 256, 3, 15, 1000, 0, 0), (48, .iconst 1, 1, 0, 0, 1, 0), (49, .iload_n 3, 1, 3, 0, 0, 0), (50, .ishl, 1, 0, 0, 0, 0), (51, .iconst (-1), 1, 0, 0, (-1), 0), (52, .ixor, 1, 0, 0, 0, 0), (53, .iand, 1, 0, 0, 0, 0), (54, .invokevirtual 259, 3, 47, 6020, 0, 0), (57, .invokestatic 204, 3, 328, 15, 0, 0), (60, .istore 4, 2, 4, 0, 0, 0), (62, .iload 4, 2, 4, 0, 0, 0), (64, .iload_n 2, 1, 2, 0, 0, 0), (65, .if_icmp .le 8, 3, 73, 0, 0, 0), (68, .iload 4, 2, 4, 0, 0, 0), (70, .istore_n 2, 1, 2, 0, 0, 0), (71, .iload_n 3, 1, 3, 0, 0, 0)]
def cd129_1 : List am_E := [(72, .istore_n 1, 1, 1, 0, 0, 0), (73, .iinc 3 1, 3, 3, 0, 1, 0), (76, .goto (-54), 3, 22, 0, 0, 0), (79, .iload_n 1, 1, 1, 0, 0, 0), (80, .ireturn, 1, 0, 0, 0, 0)]
def cd129 : List am_E := cd129_0 ++ (cd129_1)
def am_w129 : List (List (Int32 × Nat) × Nat) := []
set_option maxRecDepth 100000 in
theorem kcd129_0 : cd129_0.all (am_chk am_w129 129) = true := by decide +kernel
set_option maxRecDepth 100000 in
theorem kcd129_1 : cd129_1.all (am_chk am_w129 129) = true := by decide +kernel
theorem am_k129 : cd129.all (am_chk am_w129 129) = true := by
  simp only [cd129, List.all_append, kcd129_0, kcd129_1, Bool.and_self]
theorem am_r129 : am_rtc 129 = 0 := by decide +kernel
theorem am_l129 : am_ml 129 = 5 := by decide +kernel
def am_s129_ (z : Nat) : Nat → List aV → aM → Option aR := fun j => (match Nat.beq j 7 with
  | true => F7 z
  | false => (match Nat.beq j 15 with
  | true => F15 z
  | false => (match Nat.beq j 47 with
  | true => F47 z
  | false => (match Nat.beq j 128 with
  | true => F128 z
  | false => (match Nat.beq j 328 with
  | true => F328 z
  | false => (fun _ _ => none))))))
theorem hs129 (z : Nat) : ∀ j2 : Nat, ∃ d2 : Nat, d2 + 1 ≤ 6 ∧ am_Snd d2 j2 (am_s129_ z j2) := by
  intro j2
  unfold am_s129_
  split
  · rename_i he
    rw [am_beq he]
    exact ⟨_, by decide, S7 z⟩
  · skip
    split
    · rename_i he
      rw [am_beq he]
      exact ⟨_, by decide, S15 z⟩
    · skip
      split
      · rename_i he
        rw [am_beq he]
        exact ⟨_, by decide, S47 z⟩
      · skip
        split
        · rename_i he
          rw [am_beq he]
          exact ⟨_, by decide, S128 z⟩
        · skip
          split
          · rename_i he
            rw [am_beq he]
            exact ⟨_, by decide, S328 z⟩
          · skip
            exact ⟨0, by decide, am_Snd_no j2⟩
def f129_22 (z : Nat) : Nat → Int32 → Int32 → Int32 → aM → Option aR
  | 0, _, _, _, _ => none
  | n + 1, x1, x2, x3, M =>
    if (M.1 18 6) ≤ x3 then
      some (some (.inl x1), M)
    else
      am_bi (f15 z 18 M) fun v2 M1 =>
        am_bi (f47 z 18 (v2 &&& (((1 : Int32) <<< (x3 &&& 31)) ^^^ (-1 : Int32))) M1) fun v4 M3 =>
          am_bi (f328 z v4 M3) fun v6 M5 =>
            if v6 ≤ x2 then
              f129_22 z n x1 x2 (x3 + (1 : Int32)) M5
            else
              f129_22 z n x3 v6 (x3 + (1 : Int32)) M5
set_option maxRecDepth 100000 in
set_option maxHeartbeats 4000000 in
theorem e129_22 (z : Nat) : ∀ (n : Nat) (x1 : Int32) (x2 : Int32) (x3 : Int32) (M : aM) (r : aR), f129_22 z n x1 x2 x3 M = some r → am_Ev 6 129 22 [some (.inr (.inr (10, 0))), some (.inl x1), some (.inl x2), some (.inl x3), none] [] M r := by
  intro n
  induction n with
  | zero =>
    intro x1 x2 x3 M r h
    cases h
  | succ n ih =>
    intro x1 x2 x3 M r h
    exact am_Ev_seg (sem := am_s129_ z) (cut := ([(22, [true, true, true, true, false])] : List (Nat × List Bool))) (hs129 z) am_r129 am_k129 (by rw [am_l129]; decide) (fun pc al st M => (match Nat.beq pc 22 with
      | true => (match al, st with
        | [some (.inr (.inr (10, 0))), some (.inl x1), some (.inl x2), some (.inl x3), none], [] => f129_22 z n x1 x2 x3 M
        | _, _ => none)
      | false => none)) 32 h (fun pc al st M hk => by
      try dsimp only at hk
      split at hk
      · rename_i he
        rw [am_beq he]
        split at hk
        · exact ih _ _ _ _ _ hk
        · cases hk
      · cases hk)
/-- ArgumentMender.blame()I -/
def f129 (z : Nat) (M : aM) : Option aR :=
  am_bi (f7 z 18 M) fun v2 M1 =>
    if ¬ v2 = 0 then
      am_bi (f128 z M1) fun v4 M3 =>
        f129_22 z z (-1 : Int32) v4 (0 : Int32) M3
    else
      some (some (.inl (-2 : Int32)), M1)
set_option maxRecDepth 100000 in
set_option maxHeartbeats 4000000 in
theorem e129 (z : Nat) : ∀ (M : aM) (r : aR), f129 z  M = some r → am_Ev 6 129 0 [some (.inr (.inr (10, 0))), none, none, none, none] [] M r := by
  intro  M r h
  exact am_Ev_seg (sem := am_s129_ z) (cut := ([(22, [true, true, true, true, false])] : List (Nat × List Bool))) (hs129 z) am_r129 am_k129 (by rw [am_l129]; decide) (fun pc al st M => (match Nat.beq pc 22 with
      | true => (match al, st with
        | [some (.inr (.inr (10, 0))), some (.inl x1), some (.inl x2), some (.inl x3), none], [] => f129_22 z z x1 x2 x3 M
        | _, _ => none)
      | false => none)) 13 h (fun pc al st M hk => by
      try dsimp only at hk
      split at hk
      · rename_i he
        rw [am_beq he]
        split at hk
        · exact e129_22 z _ _ _ _ _ _ hk
        · cases hk
      · cases hk)
def F129 (z : Nat) (as : List aV) (M : aM) : Option aR := match as with
  | [.inr (.inr (10, 0))] => f129 z  M
  | _ => none
theorem S129 (z : Nat) : am_Snd 6 129 (F129 z) := am_meth (by decide +kernel) (fun as M r has h => by
    rw [am_l129]
    unfold F129 at h
    split at h
    · exact ⟨Nat.le_of_ble_eq_true rfl, e129 z _ _ h⟩
    · cases h)
