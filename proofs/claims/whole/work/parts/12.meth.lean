def cd30_0 : List am_E := [(0, .aload_n 0, 1, 0, 0, 0, 0), (1, .iconst 0, 1, 0, 0, 0, 0), (2, .putfield 41, 3, 3, 1, 0, 0), (5, .aload_n 0, 1, 0, 0, 0, 0), (6, .iconst (-1), 1, 0, 0, (-1), 0), (7, .putfield 44, 3, 3, 2, 0, 0), (10, .aload_n 0, 1, 0, 0, 0, 0), (11, .iconst (-1), 1, 0, 0, (-1), 0), (12, .putfield 47, 3, 3, 3, 0, 0), (15, .iconst 1, 1, 0, 0, 1, 0), (16, .istore 4, 2, 4, 0, 0, 0), (18, .iload 4, 2, 4, 0, 0, 0), (20, .bipush 60, 2, 0, 0, 60, 0), (22, .if_icmp .gt 83, 3, 105, 0, 0, 0), (25, .aload_n 0, 1, 0, 0, 0, 0), (26, .getfield 12, 3, 3, 0, 0, 0), (29, .aload_n 1, 1, 1, 0, 0, 0), (30, .invokevirtual 50, 3, 73, 9014, 0, 0), (33, .aload_n 0, 1, 0, 0, 0, 0), (34, .getfield 12, 3, 3, 0, 0, 0), (37, .getfield 54, 3, 9, 3, 0, 0), (40, .iconst 0, 1, 0, 0, 0, 0), (41, .aaload, 1, 0, 0, 0, 0), (42, .iload_n 3, 1, 3, 0, 0, 0), (43, .iload 4, 2, 4, 0, 0, 0), (45, .iastore, 1, 0, 0, 0, 0), (46, .aload_n 0, 1, 0, 0, 0, 0), (47, .getfield 12, 3, 3, 0, 0, 0), (50, .aload_n 1, 1, 1, 0, 0, 0), (51, .invokevirtual 58, 3, 74, 9014, 0, 0), (54, .aload_n 0, 1, 0, 0, 0, 0), (55, .aload_n 2, 1, 2, 0, 0, 0), (56, .invokevirtual 61, 3, 32, 3010, 0, 0), (59, .ifCond .eq 40, 3, 99, 0, 0, 0), (62, .aload_n 0, 1, 0, 0, 0, 0), (63, .dup, 1, 0, 0, 0, 0), (64, .getfield 41, 3, 3, 1, 0, 0), (67, .iconst 1, 1, 0, 0, 1, 0), (68, .iadd, 1, 0, 0, 0, 0), (69, .putfield 41, 3, 3, 1, 0, 0)]
def cd30_1 : List am_E := [(72, .aload_n 0, 1, 0, 0, 0, 0), (73, .aload_n 0, 1, 0, 0, 0, 0), (74, .getfield 44, 3, 3, 2, 0, 0), (77, .iconst (-1), 1, 0, 0, (-1), 0), (78, .if_icmp .ne 8, 3, 86, 0, 0, 0), (81, .iload 4, 2, 4, 0, 0, 0), (83, .goto 7, 3, 90, 0, 0, 0), (86, .aload_n 0, 1, 0, 0, 0, 0), (87, .getfield 44, 3, 3, 2, 0, 0), (90, .putfield 44, 3, 3, 2, 0, 0), (93, .aload_n 0, 1, 0, 0, 0, 0), (94, .iload 4, 2, 4, 0, 0, 0), (96, .putfield 47, 3, 3, 3, 0, 0), (99, .iinc 4 1, 3, 4, 0, 1, 0), (102, .goto (-84), 3, 18, 0, 0, 0), (105, .return_, 1, 0, 0, 0, 0)]
def cd30 : List am_E := cd30_0 ++ (cd30_1)
def am_w30 : List (List (Int32 × Nat) × Nat) := []
set_option maxRecDepth 100000 in
theorem kcd30_0 : cd30_0.all (am_chk am_w30 30) = true := by decide +kernel
set_option maxRecDepth 100000 in
theorem kcd30_1 : cd30_1.all (am_chk am_w30 30) = true := by decide +kernel
theorem am_k30 : cd30.all (am_chk am_w30 30) = true := by
  simp only [cd30, List.all_append, kcd30_0, kcd30_1, Bool.and_self]
theorem am_r30 : am_rtc 30 = 4 := by decide +kernel
theorem am_l30 : am_ml 30 = 5 := by decide +kernel
def am_s30_ (z : Nat) : Nat → List aV → aM → Option aR := fun j => (match Nat.beq j 32 with
  | true => F32 z
  | false => (match Nat.beq j 73 with
  | true => F73 z
  | false => (match Nat.beq j 74 with
  | true => F74 z
  | false => (fun _ _ => none))))
theorem hs30 (z : Nat) : ∀ j2 : Nat, ∃ d2 : Nat, d2 + 1 ≤ 5 ∧ am_Snd d2 j2 (am_s30_ z j2) := by
  intro j2
  unfold am_s30_
  split
  · rename_i he
    rw [am_beq he]
    exact ⟨_, by decide, S32 z⟩
  · skip
    split
    · rename_i he
      rw [am_beq he]
      exact ⟨_, by decide, S73 z⟩
    · skip
      split
      · rename_i he
        rw [am_beq he]
        exact ⟨_, by decide, S74 z⟩
      · skip
        exact ⟨0, by decide, am_Snd_no j2⟩
def f30_18 (z : Nat) : Nat → Nat → Nat → Int32 → Int32 → aM → Option aR
  | 0, _, _, _, _, _ => none
  | n + 1, c1, c2, x3, x4, M =>
    if (60 : Int32) < x4 then
      some (none, M)
    else
      am_bv (f73 z 117 c1 M) fun M1 =>
        if am_inB (0 : Int32) 13 then
          if am_inB x3 16 then
            let I2 := am_u M1.1 (118 + (1 + 1 * (0 : Int32).toNatClampNeg)) x3.toNatClampNeg x4
            am_bv (f74 z 117 c1 (I2, M1.2)) fun M3 =>
              am_bi (f32 z c2 M3) fun v5 M4 =>
                if v5 = 0 then
                  f30_18 z n c1 c2 x3 (x4 + (1 : Int32)) M4
                else
                  let I6 := am_u M4.1 116 1 ((M4.1 116 1) + (1 : Int32))
                  if ¬ (I6 116 2) = (-1 : Int32) then
                    let I7 := am_u I6 116 2 (I6 116 2)
                    let I8 := am_u I7 116 3 x4
                    f30_18 z n c1 c2 x3 (x4 + (1 : Int32)) (I8, M4.2)
                  else
                    let I9 := am_u I6 116 2 x4
                    let I10 := am_u I9 116 3 x4
                    f30_18 z n c1 c2 x3 (x4 + (1 : Int32)) (I10, M4.2)
          else
            none
        else
          none
set_option maxRecDepth 100000 in
set_option maxHeartbeats 4000000 in
theorem e30_18 (z : Nat) : ∀ (n : Nat) (c1 : Nat) (c2 : Nat) (x3 : Int32) (x4 : Int32) (M : aM) (r : aR), f30_18 z n c1 c2 x3 x4 M = some r → am_Ev 5 30 18 [some (.inr (.inr (3, 116))), some (.inr (.inr (1, c1))), some (.inr (.inr (4, c2))), some (.inl x3), some (.inl x4)] [] M r := by
  intro n
  induction n with
  | zero =>
    intro c1 c2 x3 x4 M r h
    cases h
  | succ n ih =>
    intro c1 c2 x3 x4 M r h
    exact am_Ev_seg (sem := am_s30_ z) (cut := ([(18, [true, true, true, true, true])] : List (Nat × List Bool))) (hs30 z) am_r30 am_k30 (by rw [am_l30]; decide) (fun pc al st M => (match Nat.beq pc 18 with
      | true => (match al, st with
        | [some (.inr (.inr (3, 116))), some (.inr (.inr (1, c1))), some (.inr (.inr (4, c2))), some (.inl x3), some (.inl x4)], [] => f30_18 z n c1 c2 x3 x4 M
        | _, _ => none)
      | false => none)) 44 h (fun pc al st M hk => by
      try dsimp only at hk
      split at hk
      · rename_i he
        rw [am_beq he]
        split at hk
        · exact ih _ _ _ _ _ _ hk
        · cases hk
      · cases hk)
/-- ArgumentMender$Sight.countFits(LArgumentMender$Cloth;LArgumentMender$Slot;I)V -/
def f30 (z : Nat) (c1 : Nat) (c2 : Nat) (x3 : Int32) (M : aM) : Option aR :=
  let I1 := am_u M.1 116 1 (0 : Int32)
  let I2 := am_u I1 116 2 (-1 : Int32)
  let I3 := am_u I2 116 3 (-1 : Int32)
  f30_18 z z c1 c2 x3 (1 : Int32) (I3, M.2)
set_option maxRecDepth 100000 in
set_option maxHeartbeats 4000000 in
theorem e30 (z : Nat) : ∀ (c1 : Nat) (c2 : Nat) (x3 : Int32) (M : aM) (r : aR), f30 z c1 c2 x3 M = some r → am_Ev 5 30 0 [some (.inr (.inr (3, 116))), some (.inr (.inr (1, c1))), some (.inr (.inr (4, c2))), some (.inl x3), none] [] M r := by
  intro c1 c2 x3 M r h
  exact am_Ev_seg (sem := am_s30_ z) (cut := ([(18, [true, true, true, true, true])] : List (Nat × List Bool))) (hs30 z) am_r30 am_k30 (by rw [am_l30]; decide) (fun pc al st M => (match Nat.beq pc 18 with
      | true => (match al, st with
        | [some (.inr (.inr (3, 116))), some (.inr (.inr (1, c1))), some (.inr (.inr (4, c2))), some (.inl x3), some (.inl x4)], [] => f30_18 z z c1 c2 x3 x4 M
        | _, _ => none)
      | false => none)) 13 h (fun pc al st M hk => by
      try dsimp only at hk
      split at hk
      · rename_i he
        rw [am_beq he]
        split at hk
        · exact e30_18 z _ _ _ _ _ _ _ hk
        · cases hk
      · cases hk)
def F30 (z : Nat) (as : List aV) (M : aM) : Option aR := match as with
  | [.inr (.inr (3, 116)), .inr (.inr (1, c1)), .inr (.inr (4, c2)), .inl x3] => f30 z c1 c2 x3 M
  | _ => none
theorem S30 (z : Nat) : am_Snd 5 30 (F30 z) := am_meth (by decide +kernel) (fun as M r has h => by
    rw [am_l30]
    unfold F30 at h
    split at h
    · exact ⟨Nat.le_of_ble_eq_true rfl, e30 z _ _ _ _ _ h⟩
    · cases h)
def cd31_0 : List am_E := [(0, .aload_n 0, 1, 0, 0, 0, 0), (1, .getfield 12, 3, 3, 0, 0, 0), (4, .aload_n 1, 1, 1, 0, 0, 0), (5, .invokevirtual 50, 3, 73, 9014, 0, 0), (8, .aload_n 0, 1, 0, 0, 0, 0), (9, .getfield 12, 3, 3, 0, 0, 0), (12, .iload_n 3, 1, 3, 0, 0, 0), (13, .putfield 65, 3, 9, 0, 0, 0), (16, .aload_n 0, 1, 0, 0, 0, 0), (17, .getfield 12, 3, 3, 0, 0, 0), (20, .aload_n 1, 1, 1, 0, 0, 0), (21, .invokevirtual 58, 3, 74, 9014, 0, 0), (24, .aload_n 0, 1, 0, 0, 0, 0), (25, .aload_n 2, 1, 2, 0, 0, 0), (26, .invokevirtual 61, 3, 32, 3010, 0, 0), (29, .ireturn, 1, 0, 0, 0, 0)]
def cd31 : List am_E := cd31_0
def am_w31 : List (List (Int32 × Nat) × Nat) := []
set_option maxRecDepth 100000 in
theorem kcd31_0 : cd31_0.all (am_chk am_w31 31) = true := by decide +kernel
theorem am_k31 : cd31.all (am_chk am_w31 31) = true := by
  simp only [cd31, List.all_append, kcd31_0, Bool.and_self]
theorem am_r31 : am_rtc 31 = 1 := by decide +kernel
theorem am_l31 : am_ml 31 = 4 := by decide +kernel
def am_s31_ (z : Nat) : Nat → List aV → aM → Option aR := fun j => (match Nat.beq j 32 with
  | true => F32 z
  | false => (match Nat.beq j 73 with
  | true => F73 z
  | false => (match Nat.beq j 74 with
  | true => F74 z
  | false => (fun _ _ => none))))
theorem hs31 (z : Nat) : ∀ j2 : Nat, ∃ d2 : Nat, d2 + 1 ≤ 5 ∧ am_Snd d2 j2 (am_s31_ z j2) := by
  intro j2
  unfold am_s31_
  split
  · rename_i he
    rw [am_beq he]
    exact ⟨_, by decide, S32 z⟩
  · skip
    split
    · rename_i he
      rw [am_beq he]
      exact ⟨_, by decide, S73 z⟩
    · skip
      split
      · rename_i he
        rw [am_beq he]
        exact ⟨_, by decide, S74 z⟩
      · skip
        exact ⟨0, by decide, am_Snd_no j2⟩
/-- ArgumentMender$Sight.agreesByLaw(LArgumentMender$Cloth;LArgumentMender$Slot;I)Z -/
def f31 (z : Nat) (c1 : Nat) (c2 : Nat) (x3 : Int32) (M : aM) : Option aR :=
  am_bv (f73 z 117 c1 M) fun M1 =>
    let I2 := am_u M1.1 117 0 x3
    am_bv (f74 z 117 c1 (I2, M1.2)) fun M3 =>
      am_bi (f32 z c2 M3) fun v5 M4 =>
        some (some (.inl (v5 &&& 1)), M4)
set_option maxRecDepth 100000 in
set_option maxHeartbeats 4000000 in
theorem e31 (z : Nat) : ∀ (c1 : Nat) (c2 : Nat) (x3 : Int32) (M : aM) (r : aR), f31 z c1 c2 x3 M = some r → am_Ev 5 31 0 [some (.inr (.inr (3, 116))), some (.inr (.inr (1, c1))), some (.inr (.inr (4, c2))), some (.inl x3)] [] M r := by
  intro c1 c2 x3 M r h
  exact am_Ev_seg (sem := am_s31_ z) (cut := ([] : List (Nat × List Bool))) (hs31 z) am_r31 am_k31 (by rw [am_l31]; decide) (fun _ _ _ _ => none) 17 h (fun _ _ _ _ hk => by cases hk)
def F31 (z : Nat) (as : List aV) (M : aM) : Option aR := match as with
  | [.inr (.inr (3, 116)), .inr (.inr (1, c1)), .inr (.inr (4, c2)), .inl x3] => f31 z c1 c2 x3 M
  | _ => none
theorem S31 (z : Nat) : am_Snd 5 31 (F31 z) := am_meth (by decide +kernel) (fun as M r has h => by
    rw [am_l31]
    unfold F31 at h
    split at h
    · exact ⟨Nat.le_of_ble_eq_true rfl, e31 z _ _ _ _ _ h⟩
    · cases h)
def cd34_0 : List am_E := [(0, .aload_n 0, 1, 0, 0, 0, 0), (1, .getfield 9, 3, 4, 0, 0, 0), (4, .iconst (-1), 1, 0, 0, (-1), 0), (5, .if_icmp .eq 7, 3, 12, 0, 0, 0), (8, .iconst 1, 1, 0, 0, 1, 0), (9, .goto 4, 3, 13, 0, 0, 0), (12, .iconst 0, 1, 0, 0, 0, 0), (13, .ireturn, 1, 0, 0, 0, 0)]
def cd34 : List am_E := cd34_0
def am_w34 : List (List (Int32 × Nat) × Nat) := []
set_option maxRecDepth 100000 in
theorem kcd34_0 : cd34_0.all (am_chk am_w34 34) = true := by decide +kernel
theorem am_k34 : cd34.all (am_chk am_w34 34) = true := by
  simp only [cd34, List.all_append, kcd34_0, Bool.and_self]
theorem am_r34 : am_rtc 34 = 1 := by decide +kernel
theorem am_l34 : am_ml 34 = 1 := by decide +kernel
def am_s34_ (z : Nat) : Nat → List aV → aM → Option aR := fun j => (fun _ _ => none)
theorem hs34 (z : Nat) : ∀ j2 : Nat, ∃ d2 : Nat, d2 + 1 ≤ 1 ∧ am_Snd d2 j2 (am_s34_ z j2) := by
  intro j2
  unfold am_s34_
  exact ⟨0, by decide, am_Snd_no j2⟩
/-- ArgumentMender$Slot.isThere()Z -/
def f34 (z : Nat) (c0 : Nat) (M : aM) : Option aR :=
  if (M.1 c0 0) = (-1 : Int32) then
    some (some (.inl ((0 : Int32) &&& 1)), M)
  else
    some (some (.inl ((1 : Int32) &&& 1)), M)
set_option maxRecDepth 100000 in
set_option maxHeartbeats 4000000 in
theorem e34 (z : Nat) : ∀ (c0 : Nat) (M : aM) (r : aR), f34 z c0 M = some r → am_Ev 1 34 0 [some (.inr (.inr (4, c0)))] [] M r := by
  intro c0 M r h
  exact am_Ev_seg (sem := am_s34_ z) (cut := ([] : List (Nat × List Bool))) (hs34 z) am_r34 am_k34 (by rw [am_l34]; decide) (fun _ _ _ _ => none) 8 h (fun _ _ _ _ hk => by cases hk)
def F34 (z : Nat) (as : List aV) (M : aM) : Option aR := match as with
  | [.inr (.inr (4, c0))] => f34 z c0 M
  | _ => none
theorem S34 (z : Nat) : am_Snd 1 34 (F34 z) := am_meth (by decide +kernel) (fun as M r has h => by
    rw [am_l34]
    unfold F34 at h
    split at h
    · exact ⟨Nat.le_of_ble_eq_true rfl, e34 z _ _ _ h⟩
    · cases h)
def cd342_0 : List am_E := [(0, .iconst 0, 1, 0, 0, 0, 0), (1, .istore_n 3, 1, 3, 0, 0, 0), (2, .aload_n 0, 1, 0, 0, 0, 0), (3, .arraylength, 1, 0, 0, 0, 0), (4, .istore 4, 2, 4, 0, 0, 0), (6, .iload_n 3, 1, 3, 0, 0, 0), (7, .iload 4, 2, 4, 0, 0, 0), (9, .if_icmp .ge 13, 3, 22, 0, 0, 0), (12, .aload_n 0, 1, 0, 0, 0, 0), (13, .iload_n 3, 1, 3, 0, 0, 0), (14, .lload_n 1, 1, 1, 0, 0, 0), (15, .lastore, 1, 0, 0, 0, 0), (16, .iinc 3 1, 3, 3, 0, 1, 0), (19, .goto (-13), 3, 6, 0, 0, 0), (22, .return_, 1, 0, 0, 0, 0)]
def cd342 : List am_E := cd342_0
def am_w342 : List (List (Int32 × Nat) × Nat) := []
set_option maxRecDepth 100000 in
theorem kcd342_0 : cd342_0.all (am_chk am_w342 342) = true := by decide +kernel
theorem am_k342 : cd342.all (am_chk am_w342 342) = true := by
  simp only [cd342, List.all_append, kcd342_0, Bool.and_self]
theorem am_r342 : am_rtc 342 = 4 := by decide +kernel
theorem am_l342 : am_ml 342 = 5 := by decide +kernel
def am_s342_ (z : Nat) : Nat → List aV → aM → Option aR := fun j => (fun _ _ => none)
theorem hs342 (z : Nat) : ∀ j2 : Nat, ∃ d2 : Nat, d2 + 1 ≤ 1 ∧ am_Snd d2 j2 (am_s342_ z j2) := by
  intro j2
  unfold am_s342_
  exact ⟨0, by decide, am_Snd_no j2⟩
def f342_6 (z : Nat) : Nat → Nat → Int64 → Int32 → Int32 → aM → Option aR
  | 0, _, _, _, _, _ => none
  | n + 1, c0, y1, x3, x4, M =>
    if x4 ≤ x3 then
      some (none, M)
    else
      if am_inB x3 60 then
        let J1 := am_ul M.2 c0 x3.toNatClampNeg y1
        f342_6 z n c0 y1 (x3 + (1 : Int32)) x4 (M.1, J1)
      else
        none
set_option maxRecDepth 100000 in
set_option maxHeartbeats 4000000 in
theorem e342_6 (z : Nat) : ∀ (n : Nat) (c0 : Nat) (y1 : Int64) (x3 : Int32) (x4 : Int32) (M : aM) (r : aR), f342_6 z n c0 y1 x3 x4 M = some r → am_Ev 1 342 6 [some (.inr (.inr (34, c0))), some (.inr (.inl y1)), none, some (.inl x3), some (.inl x4)] [] M r := by
  intro n
  induction n with
  | zero =>
    intro c0 y1 x3 x4 M r h
    cases h
  | succ n ih =>
    intro c0 y1 x3 x4 M r h
    exact am_Ev_seg (sem := am_s342_ z) (cut := ([(6, [true, true, false, true, true])] : List (Nat × List Bool))) (hs342 z) am_r342 am_k342 (by rw [am_l342]; decide) (fun pc al st M => (match Nat.beq pc 6 with
      | true => (match al, st with
        | [some (.inr (.inr (34, c0))), some (.inr (.inl y1)), none, some (.inl x3), some (.inl x4)], [] => f342_6 z n c0 y1 x3 x4 M
        | _, _ => none)
      | false => none)) 11 h (fun pc al st M hk => by
      try dsimp only at hk
      split at hk
      · rename_i he
        rw [am_beq he]
        split at hk
        · exact ih _ _ _ _ _ _ hk
        · cases hk
      · cases hk)
/-- java/util/Arrays.fill([JJ)V -/
def f342 (z : Nat) (c0 : Nat) (y1 : Int64) (M : aM) : Option aR :=
  f342_6 z z c0 y1 (0 : Int32) (nI 60) M
set_option maxRecDepth 100000 in
set_option maxHeartbeats 4000000 in
theorem e342 (z : Nat) : ∀ (c0 : Nat) (y1 : Int64) (M : aM) (r : aR), f342 z c0 y1 M = some r → am_Ev 1 342 0 [some (.inr (.inr (34, c0))), some (.inr (.inl y1)), none, none, none] [] M r := by
  intro c0 y1 M r h
  exact am_Ev_seg (sem := am_s342_ z) (cut := ([(6, [true, true, false, true, true])] : List (Nat × List Bool))) (hs342 z) am_r342 am_k342 (by rw [am_l342]; decide) (fun pc al st M => (match Nat.beq pc 6 with
      | true => (match al, st with
        | [some (.inr (.inr (34, c0))), some (.inr (.inl y1)), none, some (.inl x3), some (.inl x4)], [] => f342_6 z z c0 y1 x3 x4 M
        | _, _ => none)
      | false => none)) 7 h (fun pc al st M hk => by
      try dsimp only at hk
      split at hk
      · rename_i he
        rw [am_beq he]
        split at hk
        · exact e342_6 z _ _ _ _ _ _ _ hk
        · cases hk
      · cases hk)
def F342 (z : Nat) (as : List aV) (M : aM) : Option aR := match as with
  | [.inr (.inr (34, c0)), .inr (.inl y1)] => f342 z c0 y1 M
  | _ => none
theorem S342 (z : Nat) : am_Snd 1 342 (F342 z) := am_meth (by decide +kernel) (fun as M r has h => by
    rw [am_l342]
    unfold F342 at h
    split at h
    · exact ⟨Nat.le_of_ble_eq_true rfl, e342 z _ _ _ _ h⟩
    · cases h)
def cd35_0 : List am_E := [(0, .aload_n 0, 1, 0, 0, 0, 0), (1, .iload_n 1, 1, 1, 0, 0, 0), (2, .putfield 9, 3, 4, 0, 0, 0), (5, .aload_n 0, 1, 0, 0, 0, 0), (6, .iload_n 2, 1, 2, 0, 0, 0), (7, .putfield 19, 3, 4, 1, 0, 0), (10, .aload_n 0, 1, 0, 0, 0, 0), (11, .getfield 15, 3, 4, 2, 0, 0), (14, .lconst 0, 1, 0, 0, 0, 0), (15, .invokestatic 22, 3, 342, 29, 0, 0), (18, .return_, 1, 0, 0, 0, 0)]
def cd35 : List am_E := cd35_0
def am_w35 : List (List (Int32 × Nat) × Nat) := []
set_option maxRecDepth 100000 in
theorem kcd35_0 : cd35_0.all (am_chk am_w35 35) = true := by decide +kernel
theorem am_k35 : cd35.all (am_chk am_w35 35) = true := by
  simp only [cd35, List.all_append, kcd35_0, Bool.and_self]
theorem am_r35 : am_rtc 35 = 4 := by decide +kernel
theorem am_l35 : am_ml 35 = 3 := by decide +kernel
def am_s35_ (z : Nat) : Nat → List aV → aM → Option aR := fun j => (match Nat.beq j 342 with
  | true => F342 z
  | false => (fun _ _ => none))
theorem hs35 (z : Nat) : ∀ j2 : Nat, ∃ d2 : Nat, d2 + 1 ≤ 2 ∧ am_Snd d2 j2 (am_s35_ z j2) := by
  intro j2
  unfold am_s35_
  split
  · rename_i he
    rw [am_beq he]
    exact ⟨_, by decide, S342 z⟩
  · skip
    exact ⟨0, by decide, am_Snd_no j2⟩
/-- ArgumentMender$Slot.renew(II)V -/
def f35 (z : Nat) (c0 : Nat) (x1 : Int32) (x2 : Int32) (M : aM) : Option aR :=
  let I1 := am_u M.1 c0 0 x1
  let I2 := am_u I1 c0 1 x2
  am_bv (f342 z (c0 + 1) (0 : Int64) (I2, M.2)) fun M3 =>
    some (none, M3)
set_option maxRecDepth 100000 in
set_option maxHeartbeats 4000000 in
theorem e35 (z : Nat) : ∀ (c0 : Nat) (x1 : Int32) (x2 : Int32) (M : aM) (r : aR), f35 z c0 x1 x2 M = some r → am_Ev 2 35 0 [some (.inr (.inr (4, c0))), some (.inl x1), some (.inl x2)] [] M r := by
  intro c0 x1 x2 M r h
  exact am_Ev_seg (sem := am_s35_ z) (cut := ([] : List (Nat × List Bool))) (hs35 z) am_r35 am_k35 (by rw [am_l35]; decide) (fun _ _ _ _ => none) 12 h (fun _ _ _ _ hk => by cases hk)
def F35 (z : Nat) (as : List aV) (M : aM) : Option aR := match as with
  | [.inr (.inr (4, c0)), .inl x1, .inl x2] => f35 z c0 x1 x2 M
  | _ => none
theorem S35 (z : Nat) : am_Snd 2 35 (F35 z) := am_meth (by decide +kernel) (fun as M r has h => by
    rw [am_l35]
    unfold F35 at h
    split at h
    · exact ⟨Nat.le_of_ble_eq_true rfl, e35 z _ _ _ _ _ h⟩
    · cases h)
def cd36_0 : List am_E := [(0, .aload_n 0, 1, 0, 0, 0, 0), (1, .getfield 9, 3, 4, 0, 0, 0), (4, .tableswitch 42 0 2 #[28, 33, 38], 28, 0, 0, 0, 0), (32, .lload_n 1, 1, 1, 0, 0, 0), (33, .l2i, 1, 0, 0, 0, 0), (34, .i2b, 1, 0, 0, 0, 0), (35, .i2l, 1, 0, 0, 0, 0), (36, .lreturn, 1, 0, 0, 0, 0), (37, .lload_n 1, 1, 1, 0, 0, 0), (38, .l2i, 1, 0, 0, 0, 0), (39, .i2s, 1, 0, 0, 0, 0), (40, .i2l, 1, 0, 0, 0, 0), (41, .lreturn, 1, 0, 0, 0, 0), (42, .lload_n 1, 1, 1, 0, 0, 0), (43, .l2i, 1, 0, 0, 0, 0), (44, .i2l, 1, 0, 0, 0, 0), (45, .lreturn, 1, 0, 0, 0, 0), (46, .lload_n 1, 1, 1, 0, 0, 0), (47, .lreturn, 1, 0, 0, 0, 0)]
def cd36 : List am_E := cd36_0
def am_w36 : List (List (Int32 × Nat) × Nat) := [([(0, 32), (1, 37), (2, 42)], 46)]
set_option maxRecDepth 100000 in
theorem kcd36_0 : cd36_0.all (am_chk am_w36 36) = true := by decide +kernel
theorem am_k36 : cd36.all (am_chk am_w36 36) = true := by
  simp only [cd36, List.all_append, kcd36_0, Bool.and_self]
theorem am_r36 : am_rtc 36 = 2 := by decide +kernel
theorem am_l36 : am_ml 36 = 3 := by decide +kernel
def am_s36_ (z : Nat) : Nat → List aV → aM → Option aR := fun j => (fun _ _ => none)
theorem hs36 (z : Nat) : ∀ j2 : Nat, ∃ d2 : Nat, d2 + 1 ≤ 1 ∧ am_Snd d2 j2 (am_s36_ z j2) := by
  intro j2
  unfold am_s36_
  exact ⟨0, by decide, am_Snd_no j2⟩
/-- ArgumentMender$Slot.narrowed(J)J -/
def f36 (z : Nat) (c0 : Nat) (y1 : Int64) (M : aM) : Option aR :=
  if (M.1 c0 0) = (0 : Int32) then
    some (some (.inr (.inl (Int32.toInt64 ((Int64.toInt32 y1).toInt8.toInt32)))), M)
  else
    if (M.1 c0 0) = (1 : Int32) then
      some (some (.inr (.inl (Int32.toInt64 ((Int64.toInt32 y1).toInt16.toInt32)))), M)
    else
      if (M.1 c0 0) = (2 : Int32) then
        some (some (.inr (.inl (Int32.toInt64 (Int64.toInt32 y1)))), M)
      else
        some (some (.inr (.inl y1)), M)
set_option maxRecDepth 100000 in
set_option maxHeartbeats 4000000 in
theorem e36 (z : Nat) : ∀ (c0 : Nat) (y1 : Int64) (M : aM) (r : aR), f36 z c0 y1 M = some r → am_Ev 1 36 0 [some (.inr (.inr (4, c0))), some (.inr (.inl y1)), none] [] M r := by
  intro c0 y1 M r h
  exact am_Ev_seg (sem := am_s36_ z) (cut := ([] : List (Nat × List Bool))) (hs36 z) am_r36 am_k36 (by rw [am_l36]; decide) (fun _ _ _ _ => none) 9 h (fun _ _ _ _ hk => by cases hk)
def F36 (z : Nat) (as : List aV) (M : aM) : Option aR := match as with
  | [.inr (.inr (4, c0)), .inr (.inl y1)] => f36 z c0 y1 M
  | _ => none
theorem S36 (z : Nat) : am_Snd 1 36 (F36 z) := am_meth (by decide +kernel) (fun as M r has h => by
    rw [am_l36]
    unfold F36 at h
    split at h
    · exact ⟨Nat.le_of_ble_eq_true rfl, e36 z _ _ _ _ h⟩
    · cases h)
def cd37_0 : List am_E := [(0, .iload_n 1, 1, 1, 0, 0, 0), (1, .ifCond .lt 21, 3, 22, 0, 0, 0), (4, .iload_n 2, 1, 2, 0, 0, 0), (5, .ifCond .lt 17, 3, 22, 0, 0, 0), (8, .iload_n 2, 1, 2, 0, 0, 0), (9, .aload_n 0, 1, 0, 0, 0, 0), (10, .getfield 19, 3, 4, 1, 0, 0), (13, .iload_n 1, 1, 1, 0, 0, 0), (14, .isub, 1, 0, 0, 0, 0), (15, .if_icmp .gt 7, 3, 22, 0, 0, 0), (18, .iconst 1, 1, 0, 0, 1, 0), (19, .goto 4, 3, 23, 0, 0, 0), (22, .iconst 0, 1, 0, 0, 0, 0), (23, .ireturn, 1, 0, 0, 0, 0)]
def cd37 : List am_E := cd37_0
def am_w37 : List (List (Int32 × Nat) × Nat) := []
set_option maxRecDepth 100000 in
theorem kcd37_0 : cd37_0.all (am_chk am_w37 37) = true := by decide +kernel
theorem am_k37 : cd37.all (am_chk am_w37 37) = true := by
  simp only [cd37, List.all_append, kcd37_0, Bool.and_self]
theorem am_r37 : am_rtc 37 = 1 := by decide +kernel
theorem am_l37 : am_ml 37 = 3 := by decide +kernel
def am_s37_ (z : Nat) : Nat → List aV → aM → Option aR := fun j => (fun _ _ => none)
theorem hs37 (z : Nat) : ∀ j2 : Nat, ∃ d2 : Nat, d2 + 1 ≤ 1 ∧ am_Snd d2 j2 (am_s37_ z j2) := by
  intro j2
  unfold am_s37_
  exact ⟨0, by decide, am_Snd_no j2⟩
/-- ArgumentMender$Slot.covers(II)Z -/
def f37 (z : Nat) (c0 : Nat) (x1 : Int32) (x2 : Int32) (M : aM) : Option aR :=
  if x1 < 0 then
    some (some (.inl ((0 : Int32) &&& 1)), M)
  else
    if x2 < 0 then
      some (some (.inl ((0 : Int32) &&& 1)), M)
    else
      if ((M.1 c0 1) - x1) < x2 then
        some (some (.inl ((0 : Int32) &&& 1)), M)
      else
        some (some (.inl ((1 : Int32) &&& 1)), M)
set_option maxRecDepth 100000 in
set_option maxHeartbeats 4000000 in
theorem e37 (z : Nat) : ∀ (c0 : Nat) (x1 : Int32) (x2 : Int32) (M : aM) (r : aR), f37 z c0 x1 x2 M = some r → am_Ev 1 37 0 [some (.inr (.inr (4, c0))), some (.inl x1), some (.inl x2)] [] M r := by
  intro c0 x1 x2 M r h
  exact am_Ev_seg (sem := am_s37_ z) (cut := ([] : List (Nat × List Bool))) (hs37 z) am_r37 am_k37 (by rw [am_l37]; decide) (fun _ _ _ _ => none) 14 h (fun _ _ _ _ hk => by cases hk)
def F37 (z : Nat) (as : List aV) (M : aM) : Option aR := match as with
  | [.inr (.inr (4, c0)), .inl x1, .inl x2] => f37 z c0 x1 x2 M
  | _ => none
theorem S37 (z : Nat) : am_Snd 1 37 (F37 z) := am_meth (by decide +kernel) (fun as M r has h => by
    rw [am_l37]
    unfold F37 at h
    split at h
    · exact ⟨Nat.le_of_ble_eq_true rfl, e37 z _ _ _ _ _ h⟩
    · cases h)
def cd39_0 : List am_E := [(0, .bipush 24, 2, 0, 0, 24, 0), (2, .istore_n 2, 1, 2, 0, 0, 0), (3, .iload_n 2, 1, 2, 0, 0, 0), (4, .ifCond .lt 42, 3, 46, 0, 0, 0), (7, .aload_n 0, 1, 0, 0, 0, 0), (8, .getfield 15, 3, 5, 1, 0, 0), (11, .sipush 800, 3, 0, 0, 800, 0), (14, .if_icmp .ge 32, 3, 46, 0, 0, 0), (17, .aload_n 0, 1, 0, 0, 0, 0), (18, .getfield 9, 3, 5, 0, 0, 0), (21, .aload_n 0, 1, 0, 0, 0, 0), (22, .getfield 15, 3, 5, 1, 0, 0), (25, .iload_n 1, 1, 1, 0, 0, 0), (26, .iload_n 2, 1, 2, 0, 0, 0), (27, .ishr, 1, 0, 0, 0, 0), (28, .i2b, 1, 0, 0, 0, 0), (29, .bastore, 1, 0, 0, 0, 0), (30, .aload_n 0, 1, 0, 0, 0, 0), (31, .dup, 1, 0, 0, 0, 0), (32, .getfield 15, 3, 5, 1, 0, 0), (35, .iconst 1, 1, 0, 0, 1, 0), (36, .iadd, 1, 0, 0, 0, 0), (37, .putfield 15, 3, 5, 1, 0, 0), (40, .iinc 2 (-8), 3, 2, 0, (-8), 0), (43, .goto (-40), 3, 3, 0, 0, 0), (46, .return_, 1, 0, 0, 0, 0)]
def cd39 : List am_E := cd39_0
def am_w39 : List (List (Int32 × Nat) × Nat) := []
set_option maxRecDepth 100000 in
theorem kcd39_0 : cd39_0.all (am_chk am_w39 39) = true := by decide +kernel
theorem am_k39 : cd39.all (am_chk am_w39 39) = true := by
  simp only [cd39, List.all_append, kcd39_0, Bool.and_self]
theorem am_r39 : am_rtc 39 = 4 := by decide +kernel
theorem am_l39 : am_ml 39 = 3 := by decide +kernel
def am_s39_ (z : Nat) : Nat → List aV → aM → Option aR := fun j => (fun _ _ => none)
theorem hs39 (z : Nat) : ∀ j2 : Nat, ∃ d2 : Nat, d2 + 1 ≤ 1 ∧ am_Snd d2 j2 (am_s39_ z j2) := by
  intro j2
  unfold am_s39_
  exact ⟨0, by decide, am_Snd_no j2⟩
def f39_3 (z : Nat) : Nat → Int32 → Int32 → aM → Option aR
  | 0, _, _, _ => none
  | n + 1, x1, x2, M =>
    if x2 < 0 then
      some (none, M)
    else
      if (800 : Int32) ≤ (M.1 2 1) then
        some (none, M)
      else
        if am_inB (M.1 2 1) 800 then
          let I1 := am_u M.1 3 (M.1 2 1).toNatClampNeg (((x1 >>> (x2 &&& 31)).toInt8.toInt32).toInt8.toInt32)
          let I2 := am_u I1 2 1 ((I1 2 1) + (1 : Int32))
          f39_3 z n x1 (x2 + (-8 : Int32)) (I2, M.2)
        else
          none
set_option maxRecDepth 100000 in
set_option maxHeartbeats 4000000 in
theorem e39_3 (z : Nat) : ∀ (n : Nat) (x1 : Int32) (x2 : Int32) (M : aM) (r : aR), f39_3 z n x1 x2 M = some r → am_Ev 1 39 3 [some (.inr (.inr (5, 2))), some (.inl x1), some (.inl x2)] [] M r := by
  intro n
  induction n with
  | zero =>
    intro x1 x2 M r h
    cases h
  | succ n ih =>
    intro x1 x2 M r h
    exact am_Ev_seg (sem := am_s39_ z) (cut := ([(3, [true, true, true])] : List (Nat × List Bool))) (hs39 z) am_r39 am_k39 (by rw [am_l39]; decide) (fun pc al st M => (match Nat.beq pc 3 with
      | true => (match al, st with
        | [some (.inr (.inr (5, 2))), some (.inl x1), some (.inl x2)], [] => f39_3 z n x1 x2 M
        | _, _ => none)
      | false => none)) 25 h (fun pc al st M hk => by
      try dsimp only at hk
      split at hk
      · rename_i he
        rw [am_beq he]
        split at hk
        · exact ih _ _ _ _ hk
        · cases hk
      · cases hk)
/-- ArgumentMender$Tape.append(I)V -/
def f39 (z : Nat) (x1 : Int32) (M : aM) : Option aR :=
  f39_3 z z x1 (24 : Int32) M
set_option maxRecDepth 100000 in
set_option maxHeartbeats 4000000 in
theorem e39 (z : Nat) : ∀ (x1 : Int32) (M : aM) (r : aR), f39 z x1 M = some r → am_Ev 1 39 0 [some (.inr (.inr (5, 2))), some (.inl x1), none] [] M r := by
  intro x1 M r h
  exact am_Ev_seg (sem := am_s39_ z) (cut := ([(3, [true, true, true])] : List (Nat × List Bool))) (hs39 z) am_r39 am_k39 (by rw [am_l39]; decide) (fun pc al st M => (match Nat.beq pc 3 with
      | true => (match al, st with
        | [some (.inr (.inr (5, 2))), some (.inl x1), some (.inl x2)], [] => f39_3 z z x1 x2 M
        | _, _ => none)
      | false => none)) 4 h (fun pc al st M hk => by
      try dsimp only at hk
      split at hk
      · rename_i he
        rw [am_beq he]
        split at hk
        · exact e39_3 z _ _ _ _ _ hk
        · cases hk
      · cases hk)
def F39 (z : Nat) (as : List aV) (M : aM) : Option aR := match as with
  | [.inr (.inr (5, 2)), .inl x1] => f39 z x1 M
  | _ => none
theorem S39 (z : Nat) : am_Snd 1 39 (F39 z) := am_meth (by decide +kernel) (fun as M r has h => by
    rw [am_l39]
    unfold F39 at h
    split at h
    · exact ⟨Nat.le_of_ble_eq_true rfl, e39 z _ _ _ h⟩
    · cases h)
def cd45_0 : List am_E := [(0, .aload_n 0, 1, 0, 0, 0, 0), (1, .getfield 36, 3, 6, 4, 0, 0), (4, .iconst (-1), 1, 0, 0, (-1), 0), (5, .invokestatic 45, 3, 343, 29, 0, 0), (8, .aload_n 0, 1, 0, 0, 0, 0), (9, .getfield 39, 3, 6, 5, 0, 0), (12, .iconst (-1), 1, 0, 0, (-1), 0), (13, .invokestatic 45, 3, 343, 29, 0, 0), (16, .aload_n 0, 1, 0, 0, 0, 0), (17, .getfield 42, 3, 6, 6, 0, 0), (20, .iconst (-1), 1, 0, 0, (-1), 0), (21, .invokestatic 45, 3, 343, 29, 0, 0), (24, .return_, 1, 0, 0, 0, 0)]
def cd45 : List am_E := cd45_0
def am_w45 : List (List (Int32 × Nat) × Nat) := []
set_option maxRecDepth 100000 in
theorem kcd45_0 : cd45_0.all (am_chk am_w45 45) = true := by decide +kernel
theorem am_k45 : cd45.all (am_chk am_w45 45) = true := by
  simp only [cd45, List.all_append, kcd45_0, Bool.and_self]
theorem am_r45 : am_rtc 45 = 4 := by decide +kernel
theorem am_l45 : am_ml 45 = 1 := by decide +kernel
def am_s45_ (z : Nat) : Nat → List aV → aM → Option aR := fun j => (match Nat.beq j 343 with
  | true => F343 z
  | false => (fun _ _ => none))
theorem hs45 (z : Nat) : ∀ j2 : Nat, ∃ d2 : Nat, d2 + 1 ≤ 2 ∧ am_Snd d2 j2 (am_s45_ z j2) := by
  intro j2
  unfold am_s45_
  split
  · rename_i he
    rw [am_beq he]
    exact ⟨_, by decide, S343 z⟩
  · skip
    exact ⟨0, by decide, am_Snd_no j2⟩
/-- ArgumentMender$Trials.forget()V -/
def f45 (z : Nat) (M : aM) : Option aR :=
  am_bv (f343_k28 z 113 (-1 : Int32) M) fun M1 =>
    am_bv (f343_k29 z 114 (-1 : Int32) M1) fun M2 =>
      am_bv (f343_k30 z 115 (-1 : Int32) M2) fun M3 =>
        some (none, M3)
set_option maxRecDepth 100000 in
set_option maxHeartbeats 4000000 in
theorem e45 (z : Nat) : ∀ (M : aM) (r : aR), f45 z  M = some r → am_Ev 2 45 0 [some (.inr (.inr (6, 70)))] [] M r := by
  intro  M r h
  exact am_Ev_seg (sem := am_s45_ z) (cut := ([] : List (Nat × List Bool))) (hs45 z) am_r45 am_k45 (by rw [am_l45]; decide) (fun _ _ _ _ => none) 14 h (fun _ _ _ _ hk => by cases hk)
def F45 (z : Nat) (as : List aV) (M : aM) : Option aR := match as with
  | [.inr (.inr (6, 70))] => f45 z  M
  | _ => none
theorem S45 (z : Nat) : am_Snd 2 45 (F45 z) := am_meth (by decide +kernel) (fun as M r has h => by
    rw [am_l45]
    unfold F45 at h
    split at h
    · exact ⟨Nat.le_of_ble_eq_true rfl, e45 z _ _ h⟩
    · cases h)
def cd66_0 : List am_E := [(0, .iconst 0, 1, 0, 0, 0, 0), (1, .istore_n 3, 1, 3, 0, 0, 0), (2, .iconst 0, 1, 0, 0, 0, 0), (3, .istore 4, 2, 4, 0, 0, 0), (5, .iload 4, 2, 4, 0, 0, 0), (7, .aload_n 1, 1, 1, 0, 0, 0), (8, .getfield 26, 3, 1, 4, 0, 0), (11, .if_icmp .ge 87, 3, 98, 0, 0, 0), (14, .aload_n 1, 1, 1, 0, 0, 0), (15, .getfield 18, 3, 1, 14, 0, 0), (18, .iload 4, 2, 4, 0, 0, 0), (20, .iaload, 1, 0, 0, 0, 0), (21, .istore 5, 2, 5, 0, 0, 0), (23, .iload 5, 2, 5, 0, 0, 0), (25, .aload_n 1, 1, 1, 0, 0, 0), (26, .getfield 18, 3, 1, 14, 0, 0), (29, .iload 4, 2, 4, 0, 0, 0), (31, .iconst 1, 1, 0, 0, 1, 0), (32, .iadd, 1, 0, 0, 0, 0), (33, .iaload, 1, 0, 0, 0, 0), (34, .if_icmp .ge 58, 3, 92, 0, 0, 0), (37, .aload_n 1, 1, 1, 0, 0, 0), (38, .getfield 23, 3, 1, 13, 0, 0), (41, .iload 5, 2, 5, 0, 0, 0), (43, .iaload, 1, 0, 0, 0, 0), (44, .istore 6, 2, 6, 0, 0, 0), (46, .aload_n 2, 1, 2, 0, 0, 0), (47, .iload 6, 2, 6, 0, 0, 0), (49, .iaload, 1, 0, 0, 0, 0), (50, .ifCond .le 36, 3, 86, 0, 0, 0), (53, .aload_n 1, 1, 1, 0, 0, 0), (54, .getfield 30, 3, 1, 8, 0, 0), (57, .iload 6, 2, 6, 0, 0, 0), (59, .iaload, 1, 0, 0, 0, 0), (60, .iconst (-1), 1, 0, 0, (-1), 0), (61, .if_icmp .eq 18, 3, 79, 0, 0, 0), (64, .iload_n 3, 1, 3, 0, 0, 0), (65, .aload_n 1, 1, 1, 0, 0, 0), (66, .getfield 30, 3, 1, 8, 0, 0), (69, .iload 6, 2, 6, 0, 0, 0)]
def cd66_1 : List am_E := [(71, .iaload, 1, 0, 0, 0, 0), (72, .ishr, 1, 0, 0, 0, 0), (73, .iconst 1, 1, 0, 0, 1, 0), (74, .iand, 1, 0, 0, 0, 0), (75, .iconst 1, 1, 0, 0, 1, 0), (76, .if_icmp .ne 10, 3, 86, 0, 0, 0), (79, .iload_n 3, 1, 3, 0, 0, 0), (80, .iconst 1, 1, 0, 0, 1, 0), (81, .iload 4, 2, 4, 0, 0, 0), (83, .ishl, 1, 0, 0, 0, 0), (84, .ior, 1, 0, 0, 0, 0), (85, .istore_n 3, 1, 3, 0, 0, 0), (86, .iinc 5 1, 3, 5, 0, 1, 0), (89, .goto (-66), 3, 23, 0, 0, 0), (92, .iinc 4 1, 3, 4, 0, 1, 0), (95, .goto (-90), 3, 5, 0, 0, 0), (98, .iload_n 3, 1, 3, 0, 0, 0), (99, .ireturn, 1, 0, 0, 0, 0)]
def cd66 : List am_E := cd66_0 ++ (cd66_1)
def am_w66 : List (List (Int32 × Nat) × Nat) := []
set_option maxRecDepth 100000 in
theorem kcd66_0 : cd66_0.all (am_chk am_w66 66) = true := by decide +kernel
set_option maxRecDepth 100000 in
theorem kcd66_1 : cd66_1.all (am_chk am_w66 66) = true := by decide +kernel
theorem am_k66 : cd66.all (am_chk am_w66 66) = true := by
  simp only [cd66, List.all_append, kcd66_0, kcd66_1, Bool.and_self]
theorem am_r66 : am_rtc 66 = 0 := by decide +kernel
theorem am_l66 : am_ml 66 = 7 := by decide +kernel
def am_s66_ (z : Nat) : Nat → List aV → aM → Option aR := fun j => (fun _ _ => none)
theorem hs66 (z : Nat) : ∀ j2 : Nat, ∃ d2 : Nat, d2 + 1 ≤ 1 ∧ am_Snd d2 j2 (am_s66_ z j2) := by
  intro j2
  unfold am_s66_
  exact ⟨0, by decide, am_Snd_no j2⟩
def f66_23 (z : Nat) (k5 : Nat → Nat → Int32 → Int32 → aM → Option aR) : Nat → Nat → Nat → Int32 → Int32 → Int32 → aM → Option aR
  | 0, _, _, _, _, _, _ => none
  | n + 1, c1, c2, x3, x4, x5, M =>
    if am_inB (x4 + (1 : Int32)) 9 then
      if (M.1 (c1 + 8) (x4 + (1 : Int32)).toNatClampNeg) ≤ x5 then
        k5 c1 c2 x3 (x4 + (1 : Int32)) M
      else
        if am_inB x5 16 then
          if am_inB (M.1 (c1 + 7) x5.toNatClampNeg) 16 then
            if (M.1 c2 (M.1 (c1 + 7) x5.toNatClampNeg).toNatClampNeg) ≤ 0 then
              f66_23 z k5 n c1 c2 x3 x4 (x5 + (1 : Int32)) M
            else
              if am_inB (M.1 (c1 + 7) x5.toNatClampNeg) 16 then
                if (M.1 (c1 + 2) (M.1 (c1 + 7) x5.toNatClampNeg).toNatClampNeg) = (-1 : Int32) then
                  f66_23 z k5 n c1 c2 (x3 ||| ((1 : Int32) <<< (x4 &&& 31))) x4 (x5 + (1 : Int32)) M
                else
                  if am_inB (M.1 (c1 + 7) x5.toNatClampNeg) 16 then
                    if ¬ ((x3 >>> ((M.1 (c1 + 2) (M.1 (c1 + 7) x5.toNatClampNeg).toNatClampNeg) &&& 31)) &&& (1 : Int32)) = (1 : Int32) then
                      f66_23 z k5 n c1 c2 x3 x4 (x5 + (1 : Int32)) M
                    else
                      f66_23 z k5 n c1 c2 (x3 ||| ((1 : Int32) <<< (x4 &&& 31))) x4 (x5 + (1 : Int32)) M
                  else
                    none
              else
                none
          else
            none
        else
          none
    else
      none
set_option maxRecDepth 100000 in
set_option maxHeartbeats 4000000 in
theorem e66_23 (z : Nat) (k5 : Nat → Nat → Int32 → Int32 → aM → Option aR) (hk5 : ∀ (c1 : Nat) (c2 : Nat) (x3 : Int32) (x4 : Int32) (M : aM) (r : aR), k5 c1 c2 x3 x4 M = some r → am_Ev 1 66 5 [none, some (.inr (.inr (1, c1))), some (.inr (.inr (21, c2))), some (.inl x3), some (.inl x4), none, none] [] M r) : ∀ (n : Nat) (c1 : Nat) (c2 : Nat) (x3 : Int32) (x4 : Int32) (x5 : Int32) (M : aM) (r : aR), f66_23 z k5 n c1 c2 x3 x4 x5 M = some r → am_Ev 1 66 23 [none, some (.inr (.inr (1, c1))), some (.inr (.inr (21, c2))), some (.inl x3), some (.inl x4), some (.inl x5), none] [] M r := by
  intro n
  induction n with
  | zero =>
    intro c1 c2 x3 x4 x5 M r h
    cases h
  | succ n ih =>
    intro c1 c2 x3 x4 x5 M r h
    exact am_Ev_seg (sem := am_s66_ z) (cut := ([(5, [false, true, true, true, true, false, false]), (23, [false, true, true, true, true, true, false])] : List (Nat × List Bool))) (hs66 z) am_r66 am_k66 (by rw [am_l66]; decide) (fun pc al st M => (match Nat.beq pc 5 with
      | true => (match al, st with
        | [none, some (.inr (.inr (1, c1))), some (.inr (.inr (21, c2))), some (.inl x3), some (.inl x4), none, none], [] => k5 c1 c2 x3 x4 M
        | _, _ => none)
      | false => (match Nat.beq pc 23 with
      | true => (match al, st with
        | [none, some (.inr (.inr (1, c1))), some (.inr (.inr (21, c2))), some (.inl x3), some (.inl x4), some (.inl x5), none], [] => f66_23 z k5 n c1 c2 x3 x4 x5 M
        | _, _ => none)
      | false => none))) 43 h (fun pc al st M hk => by
      try dsimp only at hk
      split at hk
      · rename_i he
        rw [am_beq he]
        split at hk
        · exact hk5 _ _ _ _ _ _ hk
        · cases hk
      · skip
        split at hk
        · rename_i he
          rw [am_beq he]
          split at hk
          · exact ih _ _ _ _ _ _ _ hk
          · cases hk
        · cases hk)
def f66_5 (z : Nat) : Nat → Nat → Nat → Int32 → Int32 → aM → Option aR
  | 0, _, _, _, _, _ => none
  | n + 1, c1, c2, x3, x4, M =>
    if (M.1 c1 4) ≤ x4 then
      some (some (.inl x3), M)
    else
      if am_inB x4 9 then
        f66_23 z (f66_5 z n) z c1 c2 x3 x4 (M.1 (c1 + 8) x4.toNatClampNeg) M
      else
        none
set_option maxRecDepth 100000 in
set_option maxHeartbeats 4000000 in
theorem e66_5 (z : Nat) : ∀ (n : Nat) (c1 : Nat) (c2 : Nat) (x3 : Int32) (x4 : Int32) (M : aM) (r : aR), f66_5 z n c1 c2 x3 x4 M = some r → am_Ev 1 66 5 [none, some (.inr (.inr (1, c1))), some (.inr (.inr (21, c2))), some (.inl x3), some (.inl x4), none, none] [] M r := by
  intro n
  induction n with
  | zero =>
    intro c1 c2 x3 x4 M r h
    cases h
  | succ n ih =>
    intro c1 c2 x3 x4 M r h
    exact am_Ev_seg (sem := am_s66_ z) (cut := ([(23, [false, true, true, true, true, true, false])] : List (Nat × List Bool))) (hs66 z) am_r66 am_k66 (by rw [am_l66]; decide) (fun pc al st M => (match Nat.beq pc 23 with
      | true => (match al, st with
        | [none, some (.inr (.inr (1, c1))), some (.inr (.inr (21, c2))), some (.inl x3), some (.inl x4), some (.inl x5), none], [] => f66_23 z (f66_5 z n) z c1 c2 x3 x4 x5 M
        | _, _ => none)
      | false => none)) 11 h (fun pc al st M hk => by
      try dsimp only at hk
      split at hk
      · rename_i he
        rw [am_beq he]
        split at hk
        · exact e66_23 z _ ih _ _ _ _ _ _ _ _ hk
        · cases hk
      · cases hk)
/-- ArgumentMender$Web.hanging(LArgumentMender$Cloth;[I)I -/
def f66 (z : Nat) (c0 : Nat) (c1 : Nat) (c2 : Nat) (M : aM) : Option aR :=
  f66_5 z z c1 c2 (0 : Int32) (0 : Int32) M
set_option maxRecDepth 100000 in
set_option maxHeartbeats 4000000 in
theorem e66 (z : Nat) : ∀ (c0 : Nat) (c1 : Nat) (c2 : Nat) (M : aM) (r : aR), f66 z c0 c1 c2 M = some r → am_Ev 1 66 0 [some (.inr (.inr (8, c0))), some (.inr (.inr (1, c1))), some (.inr (.inr (21, c2))), none, none, none, none] [] M r := by
  intro c0 c1 c2 M r h
  exact am_Ev_seg (sem := am_s66_ z) (cut := ([(5, [false, true, true, true, true, false, false])] : List (Nat × List Bool))) (hs66 z) am_r66 am_k66 (by rw [am_l66]; decide) (fun pc al st M => (match Nat.beq pc 5 with
      | true => (match al, st with
        | [none, some (.inr (.inr (1, c1))), some (.inr (.inr (21, c2))), some (.inl x3), some (.inl x4), none, none], [] => f66_5 z z c1 c2 x3 x4 M
        | _, _ => none)
      | false => none)) 6 h (fun pc al st M hk => by
      try dsimp only at hk
      split at hk
      · rename_i he
        rw [am_beq he]
        split at hk
        · exact e66_5 z _ _ _ _ _ _ _ hk
        · cases hk
      · cases hk)
def F66 (z : Nat) (as : List aV) (M : aM) : Option aR := match as with
  | [.inr (.inr (8, c0)), .inr (.inr (1, c1)), .inr (.inr (21, c2))] => f66 z c0 c1 c2 M
  | _ => none
theorem S66 (z : Nat) : am_Snd 1 66 (F66 z) := am_meth (by decide +kernel) (fun as M r has h => by
    rw [am_l66]
    unfold F66 at h
    split at h
    · exact ⟨Nat.le_of_ble_eq_true rfl, e66 z _ _ _ _ _ h⟩
    · cases h)
def cd46_0 : List am_E := [(0, .iload_n 2, 1, 2, 0, 0, 0), (1, .bipush 61, 2, 0, 0, 61, 0), (3, .imul, 1, 0, 0, 0, 0), (4, .iload_n 3, 1, 3, 0, 0, 0), (5, .iadd, 1, 0, 0, 0, 0), (6, .istore 4, 2, 4, 0, 0, 0), (8, .aload_n 0, 1, 0, 0, 0, 0), (9, .getfield 36, 3, 6, 4, 0, 0), (12, .iload 4, 2, 4, 0, 0, 0), (14, .iaload, 1, 0, 0, 0, 0), (15, .iconst (-1), 1, 0, 0, (-1), 0), (16, .if_icmp .ne 61, 3, 77, 0, 0, 0), (19, .aload_n 0, 1, 0, 0, 0, 0), (20, .getfield 21, 3, 6, 1, 0, 0), (23, .aload_n 1, 1, 1, 0, 0, 0), (24, .invokevirtual 51, 3, 73, 9014, 0, 0), (27, .aload_n 0, 1, 0, 0, 0, 0), (28, .getfield 21, 3, 6, 1, 0, 0), (31, .getfield 55, 3, 9, 3, 0, 0), (34, .iconst 0, 1, 0, 0, 0, 0), (35, .aaload, 1, 0, 0, 0, 0), (36, .iload_n 2, 1, 2, 0, 0, 0), (37, .dup2, 1, 0, 0, 0, 0), (38, .iaload, 1, 0, 0, 0, 0), (39, .iload_n 3, 1, 3, 0, 0, 0), (40, .iadd, 1, 0, 0, 0, 0), (41, .iastore, 1, 0, 0, 0, 0), (42, .aload_n 0, 1, 0, 0, 0, 0), (43, .getfield 21, 3, 6, 1, 0, 0), (46, .aload_n 1, 1, 1, 0, 0, 0), (47, .invokevirtual 59, 3, 74, 9014, 0, 0), (50, .aload_n 0, 1, 0, 0, 0, 0), (51, .getfield 36, 3, 6, 4, 0, 0), (54, .iload 4, 2, 4, 0, 0, 0), (56, .aload_n 0, 1, 0, 0, 0, 0), (57, .getfield 12, 3, 6, 0, 0, 0), (60, .aload_n 1, 1, 1, 0, 0, 0), (61, .aload_n 0, 1, 0, 0, 0, 0), (62, .getfield 21, 3, 6, 1, 0, 0), (65, .getfield 55, 3, 9, 3, 0, 0)]
def cd46_1 : List am_E := [(68, .aload_n 1, 1, 1, 0, 0, 0), (69, .getfield 62, 3, 1, 1, 0, 0), (72, .aaload, 1, 0, 0, 0, 0), (73, .invokevirtual 67, 3, 66, 8020, 0, 0), (76, .iastore, 1, 0, 0, 0, 0), (77, .aload_n 0, 1, 0, 0, 0, 0), (78, .getfield 36, 3, 6, 4, 0, 0), (81, .iload 4, 2, 4, 0, 0, 0), (83, .iaload, 1, 0, 0, 0, 0), (84, .ireturn, 1, 0, 0, 0, 0)]
def cd46 : List am_E := cd46_0 ++ (cd46_1)
def am_w46 : List (List (Int32 × Nat) × Nat) := []
set_option maxRecDepth 100000 in
theorem kcd46_0 : cd46_0.all (am_chk am_w46 46) = true := by decide +kernel
set_option maxRecDepth 100000 in
theorem kcd46_1 : cd46_1.all (am_chk am_w46 46) = true := by decide +kernel
theorem am_k46 : cd46.all (am_chk am_w46 46) = true := by
  simp only [cd46, List.all_append, kcd46_0, kcd46_1, Bool.and_self]
theorem am_r46 : am_rtc 46 = 0 := by decide +kernel
theorem am_l46 : am_ml 46 = 5 := by decide +kernel
def am_s46_ (z : Nat) : Nat → List aV → aM → Option aR := fun j => (match Nat.beq j 66 with
  | true => F66 z
  | false => (match Nat.beq j 73 with
  | true => F73 z
  | false => (match Nat.beq j 74 with
  | true => F74 z
  | false => (fun _ _ => none))))
theorem hs46 (z : Nat) : ∀ j2 : Nat, ∃ d2 : Nat, d2 + 1 ≤ 5 ∧ am_Snd d2 j2 (am_s46_ z j2) := by
  intro j2
  unfold am_s46_
  split
  · rename_i he
    rw [am_beq he]
    exact ⟨_, by decide, S66 z⟩
  · skip
    split
    · rename_i he
      rw [am_beq he]
      exact ⟨_, by decide, S73 z⟩
    · skip
      split
      · rename_i he
        rw [am_beq he]
        exact ⟨_, by decide, S74 z⟩
      · skip
        exact ⟨0, by decide, am_Snd_no j2⟩
/-- ArgumentMender$Trials.hungByWord(LArgumentMender$Cloth;II)I -/
def f46 (z : Nat) (c1 : Nat) (x2 : Int32) (x3 : Int32) (M : aM) : Option aR :=
  if am_inB ((x2 * (61 : Int32)) + x3) 976 then
    if ¬ (M.1 113 ((x2 * (61 : Int32)) + x3).toNatClampNeg) = (-1 : Int32) then
      if am_inB ((x2 * (61 : Int32)) + x3) 976 then
        some (some (.inl (M.1 113 ((x2 * (61 : Int32)) + x3).toNatClampNeg)), M)
      else
        none
    else
      am_bv (f73 z 74 c1 M) fun M1 =>
        if am_inB (0 : Int32) 13 then
          if am_inB x2 16 then
            if am_inB x2 16 then
              let I2 := am_u M1.1 (75 + (1 + 1 * (0 : Int32).toNatClampNeg)) x2.toNatClampNeg ((M1.1 (75 + (1 + 1 * (0 : Int32).toNatClampNeg)) x2.toNatClampNeg) + x3)
              am_bv (f74 z 74 c1 (I2, M1.2)) fun M3 =>
                if am_inB (M3.1 c1 1) 13 then
                  am_bi (f66 z 71 c1 (75 + (1 + 1 * (M3.1 c1 1).toNatClampNeg)) M3) fun v5 M4 =>
                    if am_inB ((x2 * (61 : Int32)) + x3) 976 then
                      let I6 := am_u M4.1 113 ((x2 * (61 : Int32)) + x3).toNatClampNeg v5
                      if am_inB ((x2 * (61 : Int32)) + x3) 976 then
                        some (some (.inl (I6 113 ((x2 * (61 : Int32)) + x3).toNatClampNeg)), (I6, M4.2))
                      else
                        none
                    else
                      none
                else
                  none
            else
              none
          else
            none
        else
          none
  else
    none
set_option maxRecDepth 100000 in
set_option maxHeartbeats 4000000 in
theorem e46 (z : Nat) : ∀ (c1 : Nat) (x2 : Int32) (x3 : Int32) (M : aM) (r : aR), f46 z c1 x2 x3 M = some r → am_Ev 5 46 0 [some (.inr (.inr (6, 70))), some (.inr (.inr (1, c1))), some (.inl x2), some (.inl x3), none] [] M r := by
  intro c1 x2 x3 M r h
  exact am_Ev_seg (sem := am_s46_ z) (cut := ([] : List (Nat × List Bool))) (hs46 z) am_r46 am_k46 (by rw [am_l46]; decide) (fun _ _ _ _ => none) 51 h (fun _ _ _ _ hk => by cases hk)
def F46 (z : Nat) (as : List aV) (M : aM) : Option aR := match as with
  | [.inr (.inr (6, 70)), .inr (.inr (1, c1)), .inl x2, .inl x3] => f46 z c1 x2 x3 M
  | _ => none
theorem S46 (z : Nat) : am_Snd 5 46 (F46 z) := am_meth (by decide +kernel) (fun as M r has h => by
    rw [am_l46]
    unfold F46 at h
    split at h
    · exact ⟨Nat.le_of_ble_eq_true rfl, e46 z _ _ _ _ _ h⟩
    · cases h)
def cd47_0 : List am_E := [(0, .aload_n 0, 1, 0, 0, 0, 0), (1, .getfield 39, 3, 6, 5, 0, 0), (4, .iload_n 2, 1, 2, 0, 0, 0), (5, .iaload, 1, 0, 0, 0, 0), (6, .iconst (-1), 1, 0, 0, (-1), 0), (7, .if_icmp .ne 55, 3, 62, 0, 0, 0), (10, .aload_n 0, 1, 0, 0, 0, 0), (11, .getfield 21, 3, 6, 1, 0, 0), (14, .aload_n 1, 1, 1, 0, 0, 0), (15, .invokevirtual 51, 3, 73, 9014, 0, 0), (18, .aload_n 0, 1, 0, 0, 0, 0), (19, .getfield 21, 3, 6, 1, 0, 0), (22, .iload_n 2, 1, 2, 0, 0, 0), (23, .iconst (-1), 1, 0, 0, (-1), 0), (24, .ixor, 1, 0, 0, 0, 0), (25, .putfield 71, 3, 9, 2, 0, 0), (28, .aload_n 0, 1, 0, 0, 0, 0), (29, .getfield 21, 3, 6, 1, 0, 0), (32, .aload_n 1, 1, 1, 0, 0, 0), (33, .invokevirtual 59, 3, 74, 9014, 0, 0), (36, .aload_n 0, 1, 0, 0, 0, 0), (37, .getfield 39, 3, 6, 5, 0, 0), (40, .iload_n 2, 1, 2, 0, 0, 0), (41, .aload_n 0, 1, 0, 0, 0, 0), (42, .getfield 12, 3, 6, 0, 0, 0), (45, .aload_n 1, 1, 1, 0, 0, 0), (46, .aload_n 0, 1, 0, 0, 0, 0), (47, .getfield 21, 3, 6, 1, 0, 0), (50, .getfield 55, 3, 9, 3, 0, 0), (53, .aload_n 1, 1, 1, 0, 0, 0), (54, .getfield 62, 3, 1, 1, 0, 0), (57, .aaload, 1, 0, 0, 0, 0), (58, .invokevirtual 67, 3, 66, 8020, 0, 0), (61, .iastore, 1, 0, 0, 0, 0), (62, .aload_n 0, 1, 0, 0, 0, 0), (63, .getfield 39, 3, 6, 5, 0, 0), (66, .iload_n 2, 1, 2, 0, 0, 0), (67, .iaload, 1, 0, 0, 0, 0), (68, .ireturn, 1, 0, 0, 0, 0)]
def cd47 : List am_E := cd47_0
def am_w47 : List (List (Int32 × Nat) × Nat) := []
set_option maxRecDepth 100000 in
theorem kcd47_0 : cd47_0.all (am_chk am_w47 47) = true := by decide +kernel
theorem am_k47 : cd47.all (am_chk am_w47 47) = true := by
  simp only [cd47, List.all_append, kcd47_0, Bool.and_self]
theorem am_r47 : am_rtc 47 = 0 := by decide +kernel
theorem am_l47 : am_ml 47 = 3 := by decide +kernel
def am_s47_ (z : Nat) : Nat → List aV → aM → Option aR := fun j => (match Nat.beq j 66 with
  | true => F66 z
  | false => (match Nat.beq j 73 with
  | true => F73 z
  | false => (match Nat.beq j 74 with
  | true => F74 z
  | false => (fun _ _ => none))))
theorem hs47 (z : Nat) : ∀ j2 : Nat, ∃ d2 : Nat, d2 + 1 ≤ 5 ∧ am_Snd d2 j2 (am_s47_ z j2) := by
  intro j2
  unfold am_s47_
  split
  · rename_i he
    rw [am_beq he]
    exact ⟨_, by decide, S66 z⟩
  · skip
    split
    · rename_i he
      rw [am_beq he]
      exact ⟨_, by decide, S73 z⟩
    · skip
      split
      · rename_i he
        rw [am_beq he]
        exact ⟨_, by decide, S74 z⟩
      · skip
        exact ⟨0, by decide, am_Snd_no j2⟩
/-- ArgumentMender$Trials.hungByEvening(LArgumentMender$Cloth;I)I -/
def f47 (z : Nat) (c1 : Nat) (x2 : Int32) (M : aM) : Option aR :=
  if am_inB x2 1024 then
    if ¬ (M.1 114 x2.toNatClampNeg) = (-1 : Int32) then
      if am_inB x2 1024 then
        some (some (.inl (M.1 114 x2.toNatClampNeg)), M)
      else
        none
    else
      am_bv (f73 z 74 c1 M) fun M1 =>
        let I2 := am_u M1.1 74 2 (x2 ^^^ (-1 : Int32))
        am_bv (f74 z 74 c1 (I2, M1.2)) fun M3 =>
          if am_inB (M3.1 c1 1) 13 then
            am_bi (f66 z 71 c1 (75 + (1 + 1 * (M3.1 c1 1).toNatClampNeg)) M3) fun v5 M4 =>
              if am_inB x2 1024 then
                let I6 := am_u M4.1 114 x2.toNatClampNeg v5
                if am_inB x2 1024 then
                  some (some (.inl (I6 114 x2.toNatClampNeg)), (I6, M4.2))
                else
                  none
              else
                none
          else
            none
  else
    none
set_option maxRecDepth 100000 in
set_option maxHeartbeats 4000000 in
theorem e47 (z : Nat) : ∀ (c1 : Nat) (x2 : Int32) (M : aM) (r : aR), f47 z c1 x2 M = some r → am_Ev 5 47 0 [some (.inr (.inr (6, 70))), some (.inr (.inr (1, c1))), some (.inl x2)] [] M r := by
  intro c1 x2 M r h
  exact am_Ev_seg (sem := am_s47_ z) (cut := ([] : List (Nat × List Bool))) (hs47 z) am_r47 am_k47 (by rw [am_l47]; decide) (fun _ _ _ _ => none) 40 h (fun _ _ _ _ hk => by cases hk)
def F47 (z : Nat) (as : List aV) (M : aM) : Option aR := match as with
  | [.inr (.inr (6, 70)), .inr (.inr (1, c1)), .inl x2] => f47 z c1 x2 M
  | _ => none
theorem S47 (z : Nat) : am_Snd 5 47 (F47 z) := am_meth (by decide +kernel) (fun as M r has h => by
    rw [am_l47]
    unfold F47 at h
    split at h
    · exact ⟨Nat.le_of_ble_eq_true rfl, e47 z _ _ _ _ h⟩
    · cases h)
def cd48_0 : List am_E := [(0, .aload_n 0, 1, 0, 0, 0, 0), (1, .getfield 21, 3, 6, 1, 0, 0), (4, .aload_n 1, 1, 1, 0, 0, 0), (5, .invokevirtual 51, 3, 73, 9014, 0, 0), (8, .aload_n 0, 1, 0, 0, 0, 0), (9, .getfield 21, 3, 6, 1, 0, 0), (12, .iload_n 2, 1, 2, 0, 0, 0), (13, .putfield 74, 3, 9, 0, 0, 0), (16, .aload_n 0, 1, 0, 0, 0, 0), (17, .getfield 21, 3, 6, 1, 0, 0), (20, .aload_n 1, 1, 1, 0, 0, 0), (21, .invokevirtual 59, 3, 74, 9014, 0, 0), (24, .aload_n 0, 1, 0, 0, 0, 0), (25, .getfield 12, 3, 6, 0, 0, 0), (28, .aload_n 1, 1, 1, 0, 0, 0), (29, .aload_n 0, 1, 0, 0, 0, 0), (30, .getfield 21, 3, 6, 1, 0, 0), (33, .getfield 55, 3, 9, 3, 0, 0), (36, .aload_n 1, 1, 1, 0, 0, 0), (37, .getfield 62, 3, 1, 1, 0, 0), (40, .aaload, 1, 0, 0, 0, 0), (41, .invokevirtual 67, 3, 66, 8020, 0, 0), (44, .ireturn, 1, 0, 0, 0, 0)]
def cd48 : List am_E := cd48_0
def am_w48 : List (List (Int32 × Nat) × Nat) := []
set_option maxRecDepth 100000 in
theorem kcd48_0 : cd48_0.all (am_chk am_w48 48) = true := by decide +kernel
theorem am_k48 : cd48.all (am_chk am_w48 48) = true := by
  simp only [cd48, List.all_append, kcd48_0, Bool.and_self]
theorem am_r48 : am_rtc 48 = 0 := by decide +kernel
theorem am_l48 : am_ml 48 = 3 := by decide +kernel
def am_s48_ (z : Nat) : Nat → List aV → aM → Option aR := fun j => (match Nat.beq j 66 with
  | true => F66 z
  | false => (match Nat.beq j 73 with
  | true => F73 z
  | false => (match Nat.beq j 74 with
  | true => F74 z
  | false => (fun _ _ => none))))
theorem hs48 (z : Nat) : ∀ j2 : Nat, ∃ d2 : Nat, d2 + 1 ≤ 5 ∧ am_Snd d2 j2 (am_s48_ z j2) := by
  intro j2
  unfold am_s48_
  split
  · rename_i he
    rw [am_beq he]
    exact ⟨_, by decide, S66 z⟩
  · skip
    split
    · rename_i he
      rw [am_beq he]
      exact ⟨_, by decide, S73 z⟩
    · skip
      split
      · rename_i he
        rw [am_beq he]
        exact ⟨_, by decide, S74 z⟩
      · skip
        exact ⟨0, by decide, am_Snd_no j2⟩
/-- ArgumentMender$Trials.hungByLaw(LArgumentMender$Cloth;I)I -/
def f48 (z : Nat) (c1 : Nat) (x2 : Int32) (M : aM) : Option aR :=
  am_bv (f73 z 74 c1 M) fun M1 =>
    let I2 := am_u M1.1 74 0 x2
    am_bv (f74 z 74 c1 (I2, M1.2)) fun M3 =>
      if am_inB (M3.1 c1 1) 13 then
        am_bi (f66 z 71 c1 (75 + (1 + 1 * (M3.1 c1 1).toNatClampNeg)) M3) fun v5 M4 =>
          some (some (.inl v5), M4)
      else
        none
set_option maxRecDepth 100000 in
set_option maxHeartbeats 4000000 in
theorem e48 (z : Nat) : ∀ (c1 : Nat) (x2 : Int32) (M : aM) (r : aR), f48 z c1 x2 M = some r → am_Ev 5 48 0 [some (.inr (.inr (6, 70))), some (.inr (.inr (1, c1))), some (.inl x2)] [] M r := by
  intro c1 x2 M r h
  exact am_Ev_seg (sem := am_s48_ z) (cut := ([] : List (Nat × List Bool))) (hs48 z) am_r48 am_k48 (by rw [am_l48]; decide) (fun _ _ _ _ => none) 24 h (fun _ _ _ _ hk => by cases hk)
def F48 (z : Nat) (as : List aV) (M : aM) : Option aR := match as with
  | [.inr (.inr (6, 70)), .inr (.inr (1, c1)), .inl x2] => f48 z c1 x2 M
  | _ => none
theorem S48 (z : Nat) : am_Snd 5 48 (F48 z) := am_meth (by decide +kernel) (fun as M r has h => by
    rw [am_l48]
    unfold F48 at h
    split at h
    · exact ⟨Nat.le_of_ble_eq_true rfl, e48 z _ _ _ _ h⟩
    · cases h)
def cd328_0 : List am_E := [(0, .iload_n 0, 1, 0, 0, 0, 0), (1, .iload_n 0, 1, 0, 0, 0, 0), (2, .iconst 1, 1, 0, 0, 1, 0), (3, .iushr, 1, 0, 0, 0, 0), (4, .ldc_w 265, 3, 0, 0, 1431655765, 0), (7, .iand, 1, 0, 0, 0, 0), (8, .isub, 1, 0, 0, 0, 0), (9, .istore_n 0, 1, 0, 0, 0, 0), (10, .iload_n 0, 1, 0, 0, 0, 0), (11, .ldc_w 266, 3, 0, 0, 858993459, 0), (14, .iand, 1, 0, 0, 0, 0), (15, .iload_n 0, 1, 0, 0, 0, 0), (16, .iconst 2, 1, 0, 0, 2, 0), (17, .iushr, 1, 0, 0, 0, 0), (18, .ldc_w 266, 3, 0, 0, 858993459, 0), (21, .iand, 1, 0, 0, 0, 0), (22, .iadd, 1, 0, 0, 0, 0), (23, .istore_n 0, 1, 0, 0, 0, 0), (24, .iload_n 0, 1, 0, 0, 0, 0), (25, .iload_n 0, 1, 0, 0, 0, 0), (26, .iconst 4, 1, 0, 0, 4, 0), (27, .iushr, 1, 0, 0, 0, 0), (28, .iadd, 1, 0, 0, 0, 0), (29, .ldc_w 267, 3, 0, 0, 252645135, 0), (32, .iand, 1, 0, 0, 0, 0), (33, .istore_n 0, 1, 0, 0, 0, 0), (34, .iload_n 0, 1, 0, 0, 0, 0), (35, .iload_n 0, 1, 0, 0, 0, 0), (36, .bipush 8, 2, 0, 0, 8, 0), (38, .iushr, 1, 0, 0, 0, 0), (39, .iadd, 1, 0, 0, 0, 0), (40, .istore_n 0, 1, 0, 0, 0, 0), (41, .iload_n 0, 1, 0, 0, 0, 0), (42, .iload_n 0, 1, 0, 0, 0, 0), (43, .bipush 16, 2, 0, 0, 16, 0), (45, .iushr, 1, 0, 0, 0, 0), (46, .iadd, 1, 0, 0, 0, 0), (47, .istore_n 0, 1, 0, 0, 0, 0), (48, .iload_n 0, 1, 0, 0, 0, 0), (49, .bipush 63, 2, 0, 0, 63, 0)]
def cd328_1 : List am_E := [(51, .iand, 1, 0, 0, 0, 0), (52, .ireturn, 1, 0, 0, 0, 0)]
def cd328 : List am_E := cd328_0 ++ (cd328_1)
def am_w328 : List (List (Int32 × Nat) × Nat) := []
set_option maxRecDepth 100000 in
theorem kcd328_0 : cd328_0.all (am_chk am_w328 328) = true := by decide +kernel
set_option maxRecDepth 100000 in
theorem kcd328_1 : cd328_1.all (am_chk am_w328 328) = true := by decide +kernel
theorem am_k328 : cd328.all (am_chk am_w328 328) = true := by
  simp only [cd328, List.all_append, kcd328_0, kcd328_1, Bool.and_self]
theorem am_r328 : am_rtc 328 = 0 := by decide +kernel
theorem am_l328 : am_ml 328 = 1 := by decide +kernel
def am_s328_ (z : Nat) : Nat → List aV → aM → Option aR := fun j => (fun _ _ => none)
theorem hs328 (z : Nat) : ∀ j2 : Nat, ∃ d2 : Nat, d2 + 1 ≤ 1 ∧ am_Snd d2 j2 (am_s328_ z j2) := by
  intro j2
  unfold am_s328_
  exact ⟨0, by decide, am_Snd_no j2⟩
/-- java/lang/Integer.bitCount(I)I -/
def f328 (z : Nat) (x0 : Int32) (M : aM) : Option aR :=
  some (some (.inl ((((((((x0 - (((x0.toUInt32 >>> ((1 : Int32).toUInt32 &&& Int32.toUInt32 31)).toInt32) &&& (1431655765 : Int32))) &&& (858993459 : Int32)) + ((((x0 - (((x0.toUInt32 >>> ((1 : Int32).toUInt32 &&& Int32.toUInt32 31)).toInt32) &&& (1431655765 : Int32))).toUInt32 >>> ((2 : Int32).toUInt32 &&& Int32.toUInt32 31)).toInt32) &&& (858993459 : Int32))) + (((((x0 - (((x0.toUInt32 >>> ((1 : Int32).toUInt32 &&& Int32.toUInt32 31)).toInt32) &&& (1431655765 : Int32))) &&& (858993459 : Int32)) + ((((x0 - (((x0.toUInt32 >>> ((1 : Int32).toUInt32 &&& Int32.toUInt32 31)).toInt32) &&& (1431655765 : Int32))).toUInt32 >>> ((2 : Int32).toUInt32 &&& Int32.toUInt32 31)).toInt32) &&& (858993459 : Int32))).toUInt32 >>> ((4 : Int32).toUInt32 &&& Int32.toUInt32 31)).toInt32)) &&& (252645135 : Int32)) + (((((((x0 - (((x0.toUInt32 >>> ((1 : Int32).toUInt32 &&& Int32.toUInt32 31)).toInt32) &&& (1431655765 : Int32))) &&& (858993459 : Int32)) + ((((x0 - (((x0.toUInt32 >>> ((1 : Int32).toUInt32 &&& Int32.toUInt32 31)).toInt32) &&& (1431655765 : Int32))).toUInt32 >>> ((2 : Int32).toUInt32 &&& Int32.toUInt32 31)).toInt32) &&& (858993459 : Int32))) + (((((x0 - (((x0.toUInt32 >>> ((1 : Int32).toUInt32 &&& Int32.toUInt32 31)).toInt32) &&& (1431655765 : Int32))) &&& (858993459 : Int32)) + ((((x0 - (((x0.toUInt32 >>> ((1 : Int32).toUInt32 &&& Int32.toUInt32 31)).toInt32) &&& (1431655765 : Int32))).toUInt32 >>> ((2 : Int32).toUInt32 &&& Int32.toUInt32 31)).toInt32) &&& (858993459 : Int32))).toUInt32 >>> ((4 : Int32).toUInt32 &&& Int32.toUInt32 31)).toInt32)) &&& (252645135 : Int32)).toUInt32 >>> ((8 : Int32).toUInt32 &&& Int32.toUInt32 31)).toInt32)) + ((((((((x0 - (((x0.toUInt32 >>> ((1 : Int32).toUInt32 &&& Int32.toUInt32 31)).toInt32) &&& (1431655765 : Int32))) &&& (858993459 : Int32)) + ((((x0 - (((x0.toUInt32 >>> ((1 : Int32).toUInt32 &&& Int32.toUInt32 31)).toInt32) &&& (1431655765 : Int32))).toUInt32 >>> ((2 : Int32).toUInt32 &&& Int32.toUInt32 31)).toInt32) &&& (858993459 : Int32))) + (((((x0 - (((x0.toUInt32 >>> ((1 : Int32).toUInt32 &&& Int32.toUInt32 31)).toInt32) &&& (1431655765 : Int32))) &&& (858993459 : Int32)) + ((((x0 - (((x0.toUInt32 >>> ((1 : Int32).toUInt32 &&& Int32.toUInt32 31)).toInt32) &&& (1431655765 : Int32))).toUInt32 >>> ((2 : Int32).toUInt32 &&& Int32.toUInt32 31)).toInt32) &&& (858993459 : Int32))).toUInt32 >>> ((4 : Int32).toUInt32 &&& Int32.toUInt32 31)).toInt32)) &&& (252645135 : Int32)) + (((((((x0 - (((x0.toUInt32 >>> ((1 : Int32).toUInt32 &&& Int32.toUInt32 31)).toInt32) &&& (1431655765 : Int32))) &&& (858993459 : Int32)) + ((((x0 - (((x0.toUInt32 >>> ((1 : Int32).toUInt32 &&& Int32.toUInt32 31)).toInt32) &&& (1431655765 : Int32))).toUInt32 >>> ((2 : Int32).toUInt32 &&& Int32.toUInt32 31)).toInt32) &&& (858993459 : Int32))) + (((((x0 - (((x0.toUInt32 >>> ((1 : Int32).toUInt32 &&& Int32.toUInt32 31)).toInt32) &&& (1431655765 : Int32))) &&& (858993459 : Int32)) + ((((x0 - (((x0.toUInt32 >>> ((1 : Int32).toUInt32 &&& Int32.toUInt32 31)).toInt32) &&& (1431655765 : Int32))).toUInt32 >>> ((2 : Int32).toUInt32 &&& Int32.toUInt32 31)).toInt32) &&& (858993459 : Int32))).toUInt32 >>> ((4 : Int32).toUInt32 &&& Int32.toUInt32 31)).toInt32)) &&& (252645135 : Int32)).toUInt32 >>> ((8 : Int32).toUInt32 &&& Int32.toUInt32 31)).toInt32)).toUInt32 >>> ((16 : Int32).toUInt32 &&& Int32.toUInt32 31)).toInt32)) &&& (63 : Int32))), M)
set_option maxRecDepth 100000 in
set_option maxHeartbeats 4000000 in
theorem e328 (z : Nat) : ∀ (x0 : Int32) (M : aM) (r : aR), f328 z x0 M = some r → am_Ev 1 328 0 [some (.inl x0)] [] M r := by
  intro x0 M r h
  exact am_Ev_seg (sem := am_s328_ z) (cut := ([] : List (Nat × List Bool))) (hs328 z) am_r328 am_k328 (by rw [am_l328]; decide) (fun _ _ _ _ => none) 43 h (fun _ _ _ _ hk => by cases hk)
def F328 (z : Nat) (as : List aV) (M : aM) : Option aR := match as with
  | [.inl x0] => f328 z x0 M
  | _ => none
theorem S328 (z : Nat) : am_Snd 1 328 (F328 z) := am_meth (by decide +kernel) (fun as M r has h => by
    rw [am_l328]
    unfold F328 at h
    split at h
    · exact ⟨Nat.le_of_ble_eq_true rfl, e328 z _ _ _ h⟩
    · cases h)
def cd49_0 : List am_E := [(0, .aload_n 0, 1, 0, 0, 0, 0), (1, .getfield 21, 3, 6, 1, 0, 0), (4, .aload_n 1, 1, 1, 0, 0, 0), (5, .invokevirtual 51, 3, 73, 9014, 0, 0), (8, .aload_n 0, 1, 0, 0, 0, 0), (9, .getfield 21, 3, 6, 1, 0, 0), (12, .iload_n 2, 1, 2, 0, 0, 0), (13, .putfield 77, 3, 9, 1, 0, 0), (16, .aload_n 0, 1, 0, 0, 0, 0), (17, .getfield 21, 3, 6, 1, 0, 0), (20, .aload_n 1, 1, 1, 0, 0, 0), (21, .invokevirtual 59, 3, 74, 9014, 0, 0), (24, .aload_n 0, 1, 0, 0, 0, 0), (25, .getfield 12, 3, 6, 0, 0, 0), (28, .aload_n 1, 1, 1, 0, 0, 0), (29, .aload_n 0, 1, 0, 0, 0, 0), (30, .getfield 21, 3, 6, 1, 0, 0), (33, .getfield 55, 3, 9, 3, 0, 0), (36, .aload_n 1, 1, 1, 0, 0, 0), (37, .getfield 62, 3, 1, 1, 0, 0), (40, .aaload, 1, 0, 0, 0, 0), (41, .invokevirtual 67, 3, 66, 8020, 0, 0), (44, .invokestatic 80, 3, 328, 15, 0, 0), (47, .ireturn, 1, 0, 0, 0, 0)]
def cd49 : List am_E := cd49_0
def am_w49 : List (List (Int32 × Nat) × Nat) := []
set_option maxRecDepth 100000 in
theorem kcd49_0 : cd49_0.all (am_chk am_w49 49) = true := by decide +kernel
theorem am_k49 : cd49.all (am_chk am_w49 49) = true := by
  simp only [cd49, List.all_append, kcd49_0, Bool.and_self]
theorem am_r49 : am_rtc 49 = 0 := by decide +kernel
theorem am_l49 : am_ml 49 = 3 := by decide +kernel
def am_s49_ (z : Nat) : Nat → List aV → aM → Option aR := fun j => (match Nat.beq j 66 with
  | true => F66 z
  | false => (match Nat.beq j 73 with
  | true => F73 z
  | false => (match Nat.beq j 74 with
  | true => F74 z
  | false => (match Nat.beq j 328 with
  | true => F328 z
  | false => (fun _ _ => none)))))
theorem hs49 (z : Nat) : ∀ j2 : Nat, ∃ d2 : Nat, d2 + 1 ≤ 5 ∧ am_Snd d2 j2 (am_s49_ z j2) := by
  intro j2
  unfold am_s49_
  split
  · rename_i he
    rw [am_beq he]
    exact ⟨_, by decide, S66 z⟩
  · skip
    split
    · rename_i he
      rw [am_beq he]
      exact ⟨_, by decide, S73 z⟩
    · skip
      split
      · rename_i he
        rw [am_beq he]
        exact ⟨_, by decide, S74 z⟩
      · skip
        split
        · rename_i he
          rw [am_beq he]
          exact ⟨_, by decide, S328 z⟩
        · skip
          exact ⟨0, by decide, am_Snd_no j2⟩
/-- ArgumentMender$Trials.hungWithout(LArgumentMender$Cloth;I)I -/
def f49 (z : Nat) (c1 : Nat) (x2 : Int32) (M : aM) : Option aR :=
  am_bv (f73 z 74 c1 M) fun M1 =>
    let I2 := am_u M1.1 74 1 x2
    am_bv (f74 z 74 c1 (I2, M1.2)) fun M3 =>
      if am_inB (M3.1 c1 1) 13 then
        am_bi (f66 z 71 c1 (75 + (1 + 1 * (M3.1 c1 1).toNatClampNeg)) M3) fun v5 M4 =>
          am_bi (f328 z v5 M4) fun v7 M6 =>
            some (some (.inl v7), M6)
      else
        none
set_option maxRecDepth 100000 in
set_option maxHeartbeats 4000000 in
theorem e49 (z : Nat) : ∀ (c1 : Nat) (x2 : Int32) (M : aM) (r : aR), f49 z c1 x2 M = some r → am_Ev 5 49 0 [some (.inr (.inr (6, 70))), some (.inr (.inr (1, c1))), some (.inl x2)] [] M r := by
  intro c1 x2 M r h
  exact am_Ev_seg (sem := am_s49_ z) (cut := ([] : List (Nat × List Bool))) (hs49 z) am_r49 am_k49 (by rw [am_l49]; decide) (fun _ _ _ _ => none) 25 h (fun _ _ _ _ hk => by cases hk)
def F49 (z : Nat) (as : List aV) (M : aM) : Option aR := match as with
  | [.inr (.inr (6, 70)), .inr (.inr (1, c1)), .inl x2] => f49 z c1 x2 M
  | _ => none
theorem S49 (z : Nat) : am_Snd 5 49 (F49 z) := am_meth (by decide +kernel) (fun as M r has h => by
    rw [am_l49]
    unfold F49 at h
    split at h
    · exact ⟨Nat.le_of_ble_eq_true rfl, e49 z _ _ _ _ h⟩
    · cases h)
def cd50_0 : List am_E := [(0, .aload_n 0, 1, 0, 0, 0, 0), (1, .getfield 42, 3, 6, 6, 0, 0), (4, .iload_n 2, 1, 2, 0, 0, 0), (5, .iaload, 1, 0, 0, 0, 0), (6, .iconst (-1), 1, 0, 0, (-1), 0), (7, .if_icmp .ne 21, 3, 28, 0, 0, 0), (10, .aload_n 0, 1, 0, 0, 0, 0), (11, .getfield 42, 3, 6, 6, 0, 0), (14, .iload_n 2, 1, 2, 0, 0, 0), (15, .aload_n 0, 1, 0, 0, 0, 0), (16, .aload_n 1, 1, 1, 0, 0, 0), (17, .sipush 255, 3, 0, 0, 255, 0), (20, .iload_n 2, 1, 2, 0, 0, 0), (21, .iconst (-1), 1, 0, 0, (-1), 0), (22, .ixor, 1, 0, 0, 0, 0), (23, .iand, 1, 0, 0, 0, 0), (24, .invokevirtual 86, 3, 49, 6020, 0, 0), (27, .iastore, 1, 0, 0, 0, 0), (28, .aload_n 0, 1, 0, 0, 0, 0), (29, .getfield 42, 3, 6, 6, 0, 0), (32, .iload_n 2, 1, 2, 0, 0, 0), (33, .iaload, 1, 0, 0, 0, 0), (34, .ireturn, 1, 0, 0, 0, 0)]
def cd50 : List am_E := cd50_0
def am_w50 : List (List (Int32 × Nat) × Nat) := []
set_option maxRecDepth 100000 in
theorem kcd50_0 : cd50_0.all (am_chk am_w50 50) = true := by decide +kernel
theorem am_k50 : cd50.all (am_chk am_w50 50) = true := by
  simp only [cd50, List.all_append, kcd50_0, Bool.and_self]
theorem am_r50 : am_rtc 50 = 0 := by decide +kernel
theorem am_l50 : am_ml 50 = 3 := by decide +kernel
def am_s50_ (z : Nat) : Nat → List aV → aM → Option aR := fun j => (match Nat.beq j 49 with
  | true => F49 z
  | false => (fun _ _ => none))
theorem hs50 (z : Nat) : ∀ j2 : Nat, ∃ d2 : Nat, d2 + 1 ≤ 6 ∧ am_Snd d2 j2 (am_s50_ z j2) := by
  intro j2
  unfold am_s50_
  split
  · rename_i he
    rw [am_beq he]
    exact ⟨_, by decide, S49 z⟩
  · skip
    exact ⟨0, by decide, am_Snd_no j2⟩
/-- ArgumentMender$Trials.worthOfFirst(LArgumentMender$Cloth;I)I -/
def f50 (z : Nat) (c1 : Nat) (x2 : Int32) (M : aM) : Option aR :=
  if am_inB x2 256 then
    if ¬ (M.1 115 x2.toNatClampNeg) = (-1 : Int32) then
      if am_inB x2 256 then
        some (some (.inl (M.1 115 x2.toNatClampNeg)), M)
      else
        none
    else
      am_bi (f49 z c1 ((255 : Int32) &&& (x2 ^^^ (-1 : Int32))) M) fun v2 M1 =>
        if am_inB x2 256 then
          let I3 := am_u M1.1 115 x2.toNatClampNeg v2
          if am_inB x2 256 then
            some (some (.inl (I3 115 x2.toNatClampNeg)), (I3, M1.2))
          else
            none
        else
          none
  else
    none
set_option maxRecDepth 100000 in
set_option maxHeartbeats 4000000 in
theorem e50 (z : Nat) : ∀ (c1 : Nat) (x2 : Int32) (M : aM) (r : aR), f50 z c1 x2 M = some r → am_Ev 6 50 0 [some (.inr (.inr (6, 70))), some (.inr (.inr (1, c1))), some (.inl x2)] [] M r := by
  intro c1 x2 M r h
  exact am_Ev_seg (sem := am_s50_ z) (cut := ([] : List (Nat × List Bool))) (hs50 z) am_r50 am_k50 (by rw [am_l50]; decide) (fun _ _ _ _ => none) 24 h (fun _ _ _ _ hk => by cases hk)
def F50 (z : Nat) (as : List aV) (M : aM) : Option aR := match as with
  | [.inr (.inr (6, 70)), .inr (.inr (1, c1)), .inl x2] => f50 z c1 x2 M
  | _ => none
theorem S50 (z : Nat) : am_Snd 6 50 (F50 z) := am_meth (by decide +kernel) (fun as M r has h => by
    rw [am_l50]
    unfold F50 at h
    split at h
    · exact ⟨Nat.le_of_ble_eq_true rfl, e50 z _ _ _ _ h⟩
    · cases h)
def cd51_0 : List am_E := [(0, .aload_n 0, 1, 0, 0, 0, 0), (1, .getfield 21, 3, 6, 1, 0, 0), (4, .aload_n 1, 1, 1, 0, 0, 0), (5, .invokevirtual 51, 3, 73, 9014, 0, 0), (8, .aload_n 0, 1, 0, 0, 0, 0), (9, .getfield 21, 3, 6, 1, 0, 0), (12, .iload 4, 2, 4, 0, 0, 0), (14, .iload_n 2, 1, 2, 0, 0, 0), (15, .ishl, 1, 0, 0, 0, 0), (16, .iload 5, 2, 5, 0, 0, 0), (18, .iload_n 3, 1, 3, 0, 0, 0), (19, .ishl, 1, 0, 0, 0, 0), (20, .ior, 1, 0, 0, 0, 0), (21, .putfield 71, 3, 9, 2, 0, 0), (24, .aload_n 0, 1, 0, 0, 0, 0), (25, .getfield 21, 3, 6, 1, 0, 0), (28, .aload_n 1, 1, 1, 0, 0, 0), (29, .invokevirtual 59, 3, 74, 9014, 0, 0), (32, .aload_n 0, 1, 0, 0, 0, 0), (33, .getfield 21, 3, 6, 1, 0, 0), (36, .getfield 90, 3, 9, 5, 0, 0), (39, .iload_n 2, 1, 2, 0, 0, 0), (40, .iaload, 1, 0, 0, 0, 0), (41, .ifCond .ne 5, 3, 46, 0, 0, 0), (44, .iconst 0, 1, 0, 0, 0, 0), (45, .ireturn, 1, 0, 0, 0, 0), (46, .aload_n 0, 1, 0, 0, 0, 0), (47, .getfield 21, 3, 6, 1, 0, 0), (50, .getfield 93, 3, 9, 7, 0, 0), (53, .iload_n 2, 1, 2, 0, 0, 0), (54, .iaload, 1, 0, 0, 0, 0), (55, .ifCond .le 7, 3, 62, 0, 0, 0), (58, .iconst 0, 1, 0, 0, 0, 0), (59, .goto 9, 3, 68, 0, 0, 0), (62, .aload_n 1, 1, 1, 0, 0, 0), (63, .getfield 96, 3, 1, 11, 0, 0), (66, .iload_n 2, 1, 2, 0, 0, 0), (67, .iaload, 1, 0, 0, 0, 0), (68, .istore 6, 2, 6, 0, 0, 0), (70, .iload 6, 2, 6, 0, 0, 0)]
def cd51_1 : List am_E := [(72, .bipush 20, 2, 0, 0, 20, 0), (74, .aload_n 0, 1, 0, 0, 0, 0), (75, .getfield 21, 3, 6, 1, 0, 0), (78, .getfield 99, 3, 9, 6, 0, 0), (81, .iload_n 2, 1, 2, 0, 0, 0), (82, .iaload, 1, 0, 0, 0, 0), (83, .invokestatic 80, 3, 328, 15, 0, 0), (86, .imul, 1, 0, 0, 0, 0), (87, .isub, 1, 0, 0, 0, 0), (88, .ireturn, 1, 0, 0, 0, 0)]
def cd51 : List am_E := cd51_0 ++ (cd51_1)
def am_w51 : List (List (Int32 × Nat) × Nat) := []
set_option maxRecDepth 100000 in
theorem kcd51_0 : cd51_0.all (am_chk am_w51 51) = true := by decide +kernel
set_option maxRecDepth 100000 in
theorem kcd51_1 : cd51_1.all (am_chk am_w51 51) = true := by decide +kernel
theorem am_k51 : cd51.all (am_chk am_w51 51) = true := by
  simp only [cd51, List.all_append, kcd51_0, kcd51_1, Bool.and_self]
theorem am_r51 : am_rtc 51 = 0 := by decide +kernel
theorem am_l51 : am_ml 51 = 7 := by decide +kernel
def am_s51_ (z : Nat) : Nat → List aV → aM → Option aR := fun j => (match Nat.beq j 73 with
  | true => F73 z
  | false => (match Nat.beq j 74 with
  | true => F74 z
  | false => (match Nat.beq j 328 with
  | true => F328 z
  | false => (fun _ _ => none))))
theorem hs51 (z : Nat) : ∀ j2 : Nat, ∃ d2 : Nat, d2 + 1 ≤ 5 ∧ am_Snd d2 j2 (am_s51_ z j2) := by
  intro j2
  unfold am_s51_
  split
  · rename_i he
    rw [am_beq he]
    exact ⟨_, by decide, S73 z⟩
  · skip
    split
    · rename_i he
      rw [am_beq he]
      exact ⟨_, by decide, S74 z⟩
    · skip
      split
      · rename_i he
        rw [am_beq he]
        exact ⟨_, by decide, S328 z⟩
      · skip
        exact ⟨0, by decide, am_Snd_no j2⟩
/-- ArgumentMender$Trials.gain(LArgumentMender$Cloth;IIII)I -/
def f51 (z : Nat) (c1 : Nat) (x2 : Int32) (x3 : Int32) (x4 : Int32) (x5 : Int32) (M : aM) : Option aR :=
  am_bv (f73 z 74 c1 M) fun M1 =>
    let I2 := am_u M1.1 74 2 ((x4 <<< (x2 &&& 31)) ||| (x5 <<< (x3 &&& 31)))
    am_bv (f74 z 74 c1 (I2, M1.2)) fun M3 =>
      if am_inB x2 10 then
        if ¬ (M3.1 100 x2.toNatClampNeg) = 0 then
          if am_inB x2 10 then
            if (M3.1 102 x2.toNatClampNeg) ≤ 0 then
              if am_inB x2 10 then
                if am_inB x2 10 then
                  am_bi (f328 z (M3.1 101 x2.toNatClampNeg) M3) fun v5 M4 =>
                    some (some (.inl ((M3.1 (c1 + 5) x2.toNatClampNeg) - ((20 : Int32) * v5))), M4)
                else
                  none
              else
                none
            else
              if am_inB x2 10 then
                am_bi (f328 z (M3.1 101 x2.toNatClampNeg) M3) fun v7 M6 =>
                  some (some (.inl ((0 : Int32) - ((20 : Int32) * v7))), M6)
              else
                none
          else
            none
        else
          some (some (.inl (0 : Int32)), M3)
      else
        none
set_option maxRecDepth 100000 in
set_option maxHeartbeats 4000000 in
theorem e51 (z : Nat) : ∀ (c1 : Nat) (x2 : Int32) (x3 : Int32) (x4 : Int32) (x5 : Int32) (M : aM) (r : aR), f51 z c1 x2 x3 x4 x5 M = some r → am_Ev 5 51 0 [some (.inr (.inr (6, 70))), some (.inr (.inr (1, c1))), some (.inl x2), some (.inl x3), some (.inl x4), some (.inl x5), none] [] M r := by
  intro c1 x2 x3 x4 x5 M r h
  exact am_Ev_seg (sem := am_s51_ z) (cut := ([] : List (Nat × List Bool))) (hs51 z) am_r51 am_k51 (by rw [am_l51]; decide) (fun _ _ _ _ => none) 47 h (fun _ _ _ _ hk => by cases hk)
def F51 (z : Nat) (as : List aV) (M : aM) : Option aR := match as with
  | [.inr (.inr (6, 70)), .inr (.inr (1, c1)), .inl x2, .inl x3, .inl x4, .inl x5] => f51 z c1 x2 x3 x4 x5 M
  | _ => none
theorem S51 (z : Nat) : am_Snd 5 51 (F51 z) := am_meth (by decide +kernel) (fun as M r has h => by
    rw [am_l51]
    unfold F51 at h
    split at h
    · exact ⟨Nat.le_of_ble_eq_true rfl, e51 z _ _ _ _ _ _ _ h⟩
    · cases h)
def cd52_0 : List am_E := [(0, .aload_n 2, 1, 2, 0, 0, 0), (1, .iconst 0, 1, 0, 0, 0, 0), (2, .aload_n 0, 1, 0, 0, 0, 0), (3, .getfield 32, 3, 6, 3, 0, 0), (6, .iconst 0, 1, 0, 0, 0, 0), (7, .bipush 16, 2, 0, 0, 16, 0), (9, .invokestatic 102, 3, 0, 1, 0, 0), (12, .aload_n 0, 1, 0, 0, 0, 0), (13, .getfield 28, 3, 6, 2, 0, 0), (16, .aload_n 1, 1, 1, 0, 0, 0), (17, .aload_n 1, 1, 1, 0, 0, 0), (18, .getfield 108, 3, 1, 2, 0, 0), (21, .aload_n 0, 1, 0, 0, 0, 0), (22, .getfield 32, 3, 6, 3, 0, 0), (25, .iload_n 3, 1, 3, 0, 0, 0), (26, .iload 4, 2, 4, 0, 0, 0), (28, .invokevirtual 109, 3, 56, 7054, 0, 0), (31, .aload_n 0, 1, 0, 0, 0, 0), (32, .getfield 28, 3, 6, 2, 0, 0), (35, .areturn, 1, 0, 0, 0, 0)]
def cd52 : List am_E := cd52_0
def am_w52 : List (List (Int32 × Nat) × Nat) := []
set_option maxRecDepth 100000 in
theorem kcd52_0 : cd52_0.all (am_chk am_w52 52) = true := by decide +kernel
theorem am_k52 : cd52.all (am_chk am_w52 52) = true := by
  simp only [cd52, List.all_append, kcd52_0, Bool.and_self]
theorem am_r52 : am_rtc 52 = 3 := by decide +kernel
theorem am_l52 : am_ml 52 = 5 := by decide +kernel
def am_s52_ (z : Nat) : Nat → List aV → aM → Option aR := fun j => (match Nat.beq j 56 with
  | true => F56 z
  | false => (fun _ _ => none))
theorem hs52 (z : Nat) : ∀ j2 : Nat, ∃ d2 : Nat, d2 + 1 ≤ 4 ∧ am_Snd d2 j2 (am_s52_ z j2) := by
  intro j2
  unfold am_s52_
  split
  · rename_i he
    rw [am_beq he]
    exact ⟨_, by decide, S56 z⟩
  · skip
    exact ⟨0, by decide, am_Snd_no j2⟩
/-- ArgumentMender$Trials.tryPull(LArgumentMender$Cloth;[III)LArgumentMender$Tug; -/
def f52 (z : Nat) (c1 : Nat) (c2 : Nat) (x3 : Int32) (x4 : Int32) (M : aM) : Option aR :=
  if am_cpOk (0 : Int32) (0 : Int32) (16 : Int32) 16 16 then
    let I1 := am_ua M.1 112 (va_cpy (M.1 c2) (M.1 112) (0 : Int32).toNatClampNeg (0 : Int32).toNatClampNeg (16 : Int32).toNatClampNeg)
    am_bv (f56 z 109 c1 (I1 c1 2) 112 x3 x4 (I1, M.2)) fun M2 =>
      some (some (.inr (.inr (7, 109))), M2)
  else
    none
set_option maxRecDepth 100000 in
set_option maxHeartbeats 4000000 in
theorem e52 (z : Nat) : ∀ (c1 : Nat) (c2 : Nat) (x3 : Int32) (x4 : Int32) (M : aM) (r : aR), f52 z c1 c2 x3 x4 M = some r → am_Ev 4 52 0 [some (.inr (.inr (6, 70))), some (.inr (.inr (1, c1))), some (.inr (.inr (21, c2))), some (.inl x3), some (.inl x4)] [] M r := by
  intro c1 c2 x3 x4 M r h
  exact am_Ev_seg (sem := am_s52_ z) (cut := ([] : List (Nat × List Bool))) (hs52 z) am_r52 am_k52 (by rw [am_l52]; decide) (fun _ _ _ _ => none) 21 h (fun _ _ _ _ hk => by cases hk)
def F52 (z : Nat) (as : List aV) (M : aM) : Option aR := match as with
  | [.inr (.inr (6, 70)), .inr (.inr (1, c1)), .inr (.inr (21, c2)), .inl x3, .inl x4] => f52 z c1 c2 x3 x4 M
  | _ => none
theorem S52 (z : Nat) : am_Snd 4 52 (F52 z) := am_meth (by decide +kernel) (fun as M r has h => by
    rw [am_l52]
    unfold F52 at h
    split at h
    · exact ⟨Nat.le_of_ble_eq_true rfl, e52 z _ _ _ _ _ _ h⟩
    · cases h)
def cd53_0 : List am_E := [(0, .iconst 1, 1, 0, 0, 1, 0), (1, .istore 5, 2, 5, 0, 0, 0), (3, .iload 5, 2, 5, 0, 0, 0), (5, .iload 4, 2, 4, 0, 0, 0), (7, .if_icmp .gt 42, 3, 49, 0, 0, 0), (10, .aload_n 0, 1, 0, 0, 0, 0), (11, .aload_n 1, 1, 1, 0, 0, 0), (12, .aload_n 2, 1, 2, 0, 0, 0), (13, .iload_n 3, 1, 3, 0, 0, 0), (14, .iload 5, 2, 5, 0, 0, 0), (16, .invokevirtual 113, 3, 52, 6043, 0, 0), (19, .pop, 1, 0, 0, 0, 0), (20, .aload_n 0, 1, 0, 0, 0, 0), (21, .getfield 28, 3, 6, 2, 0, 0), (24, .getfield 117, 3, 7, 2, 0, 0), (27, .ifCond .ne 13, 3, 40, 0, 0, 0), (30, .aload_n 0, 1, 0, 0, 0, 0), (31, .getfield 28, 3, 6, 2, 0, 0), (34, .getfield 119, 3, 7, 3, 0, 0), (37, .ifCond .le 6, 3, 43, 0, 0, 0), (40, .iload 5, 2, 5, 0, 0, 0), (42, .ireturn, 1, 0, 0, 0, 0), (43, .iinc 5 1, 3, 5, 0, 1, 0), (46, .goto (-43), 3, 3, 0, 0, 0), (49, .iconst (-1), 1, 0, 0, (-1), 0), (50, .ireturn, 1, 0, 0, 0, 0)]
def cd53 : List am_E := cd53_0
def am_w53 : List (List (Int32 × Nat) × Nat) := []
set_option maxRecDepth 100000 in
theorem kcd53_0 : cd53_0.all (am_chk am_w53 53) = true := by decide +kernel
theorem am_k53 : cd53.all (am_chk am_w53 53) = true := by
  simp only [cd53, List.all_append, kcd53_0, Bool.and_self]
theorem am_r53 : am_rtc 53 = 0 := by decide +kernel
theorem am_l53 : am_ml 53 = 6 := by decide +kernel
def am_s53_ (z : Nat) : Nat → List aV → aM → Option aR := fun j => (match Nat.beq j 52 with
  | true => F52 z
  | false => (fun _ _ => none))
theorem hs53 (z : Nat) : ∀ j2 : Nat, ∃ d2 : Nat, d2 + 1 ≤ 5 ∧ am_Snd d2 j2 (am_s53_ z j2) := by
  intro j2
  unfold am_s53_
  split
  · rename_i he
    rw [am_beq he]
    exact ⟨_, by decide, S52 z⟩
  · skip
    exact ⟨0, by decide, am_Snd_no j2⟩
def f53_3 (z : Nat) : Nat → Nat → Nat → Int32 → Int32 → Int32 → aM → Option aR
  | 0, _, _, _, _, _, _ => none
  | n + 1, c1, c2, x3, x4, x5, M =>
    if x4 < x5 then
      some (some (.inl (-1 : Int32)), M)
    else
      am_br (f52 z c1 c2 x3 x5 M) fun M1 =>
        if ¬ (M1.1 109 2) = 0 then
          some (some (.inl x5), M1)
        else
          if (M1.1 109 3) ≤ 0 then
            f53_3 z n c1 c2 x3 x4 (x5 + (1 : Int32)) M1
          else
            some (some (.inl x5), M1)
set_option maxRecDepth 100000 in
set_option maxHeartbeats 4000000 in
theorem e53_3 (z : Nat) : ∀ (n : Nat) (c1 : Nat) (c2 : Nat) (x3 : Int32) (x4 : Int32) (x5 : Int32) (M : aM) (r : aR), f53_3 z n c1 c2 x3 x4 x5 M = some r → am_Ev 5 53 3 [some (.inr (.inr (6, 70))), some (.inr (.inr (1, c1))), some (.inr (.inr (21, c2))), some (.inl x3), some (.inl x4), some (.inl x5)] [] M r := by
  intro n
  induction n with
  | zero =>
    intro c1 c2 x3 x4 x5 M r h
    cases h
  | succ n ih =>
    intro c1 c2 x3 x4 x5 M r h
    exact am_Ev_seg (sem := am_s53_ z) (cut := ([(3, [true, true, true, true, true, true])] : List (Nat × List Bool))) (hs53 z) am_r53 am_k53 (by rw [am_l53]; decide) (fun pc al st M => (match Nat.beq pc 3 with
      | true => (match al, st with
        | [some (.inr (.inr (6, 70))), some (.inr (.inr (1, c1))), some (.inr (.inr (21, c2))), some (.inl x3), some (.inl x4), some (.inl x5)], [] => f53_3 z n c1 c2 x3 x4 x5 M
        | _, _ => none)
      | false => none)) 22 h (fun pc al st M hk => by
      try dsimp only at hk
      split at hk
      · rename_i he
        rw [am_beq he]
        split at hk
        · exact ih _ _ _ _ _ _ _ hk
        · cases hk
      · cases hk)
/-- ArgumentMender$Trials.leastHarm(LArgumentMender$Cloth;[III)I -/
def f53 (z : Nat) (c1 : Nat) (c2 : Nat) (x3 : Int32) (x4 : Int32) (M : aM) : Option aR :=
  f53_3 z z c1 c2 x3 x4 (1 : Int32) M
set_option maxRecDepth 100000 in
set_option maxHeartbeats 4000000 in
theorem e53 (z : Nat) : ∀ (c1 : Nat) (c2 : Nat) (x3 : Int32) (x4 : Int32) (M : aM) (r : aR), f53 z c1 c2 x3 x4 M = some r → am_Ev 5 53 0 [some (.inr (.inr (6, 70))), some (.inr (.inr (1, c1))), some (.inr (.inr (21, c2))), some (.inl x3), some (.inl x4), none] [] M r := by
  intro c1 c2 x3 x4 M r h
  exact am_Ev_seg (sem := am_s53_ z) (cut := ([(3, [true, true, true, true, true, true])] : List (Nat × List Bool))) (hs53 z) am_r53 am_k53 (by rw [am_l53]; decide) (fun pc al st M => (match Nat.beq pc 3 with
      | true => (match al, st with
        | [some (.inr (.inr (6, 70))), some (.inr (.inr (1, c1))), some (.inr (.inr (21, c2))), some (.inl x3), some (.inl x4), some (.inl x5)], [] => f53_3 z z c1 c2 x3 x4 x5 M
        | _, _ => none)
      | false => none)) 4 h (fun pc al st M hk => by
      try dsimp only at hk
      split at hk
      · rename_i he
        rw [am_beq he]
        split at hk
        · exact e53_3 z _ _ _ _ _ _ _ _ hk
        · cases hk
      · cases hk)
def F53 (z : Nat) (as : List aV) (M : aM) : Option aR := match as with
  | [.inr (.inr (6, 70)), .inr (.inr (1, c1)), .inr (.inr (21, c2)), .inl x3, .inl x4] => f53 z c1 c2 x3 x4 M
  | _ => none
theorem S53 (z : Nat) : am_Snd 5 53 (F53 z) := am_meth (by decide +kernel) (fun as M r has h => by
    rw [am_l53]
    unfold F53 at h
    split at h
    · exact ⟨Nat.le_of_ble_eq_true rfl, e53 z _ _ _ _ _ _ h⟩
    · cases h)
def cd54_0 : List am_E := [(0, .iconst 0, 1, 0, 0, 0, 0), (1, .istore 4, 2, 4, 0, 0, 0), (3, .aload_n 0, 1, 0, 0, 0, 0), (4, .getfield 12, 3, 6, 0, 0, 0), (7, .aload_n 1, 1, 1, 0, 0, 0), (8, .aload_n 2, 1, 2, 0, 0, 0), (9, .invokevirtual 67, 3, 66, 8020, 0, 0), (12, .iload_n 3, 1, 3, 0, 0, 0), (13, .ishr, 1, 0, 0, 0, 0), (14, .iconst 1, 1, 0, 0, 1, 0), (15, .iand, 1, 0, 0, 0, 0), (16, .ifCond .ne 6, 3, 22, 0, 0, 0), (19, .iload 4, 2, 4, 0, 0, 0), (21, .ireturn, 1, 0, 0, 0, 0), (22, .aload_n 2, 1, 2, 0, 0, 0), (23, .iconst 0, 1, 0, 0, 0, 0), (24, .aload_n 0, 1, 0, 0, 0, 0), (25, .getfield 32, 3, 6, 3, 0, 0), (28, .iconst 0, 1, 0, 0, 0, 0), (29, .bipush 16, 2, 0, 0, 16, 0), (31, .invokestatic 102, 3, 0, 1, 0, 0), (34, .iconst 0, 1, 0, 0, 0, 0), (35, .istore 5, 2, 5, 0, 0, 0), (37, .iload 5, 2, 5, 0, 0, 0), (39, .aload_n 1, 1, 1, 0, 0, 0), (40, .getfield 121, 3, 1, 5, 0, 0), (43, .if_icmp .ge 56, 3, 99, 0, 0, 0), (46, .aload_n 0, 1, 0, 0, 0, 0), (47, .getfield 32, 3, 6, 3, 0, 0), (50, .iload 5, 2, 5, 0, 0, 0), (52, .iconst 0, 1, 0, 0, 0, 0), (53, .iastore, 1, 0, 0, 0, 0), (54, .aload_n 0, 1, 0, 0, 0, 0), (55, .getfield 12, 3, 6, 0, 0, 0), (58, .aload_n 1, 1, 1, 0, 0, 0), (59, .aload_n 0, 1, 0, 0, 0, 0), (60, .getfield 32, 3, 6, 3, 0, 0), (63, .invokevirtual 67, 3, 66, 8020, 0, 0), (66, .iload_n 3, 1, 3, 0, 0, 0), (67, .ishr, 1, 0, 0, 0, 0)]
def cd54_1 : List am_E := [(68, .iconst 1, 1, 0, 0, 1, 0), (69, .iand, 1, 0, 0, 0, 0), (70, .ifCond .ne 12, 3, 82, 0, 0, 0), (73, .iload 4, 2, 4, 0, 0, 0), (75, .iconst 1, 1, 0, 0, 1, 0), (76, .iload 5, 2, 5, 0, 0, 0), (78, .ishl, 1, 0, 0, 0, 0), (79, .ior, 1, 0, 0, 0, 0), (80, .istore 4, 2, 4, 0, 0, 0), (82, .aload_n 0, 1, 0, 0, 0, 0), (83, .getfield 32, 3, 6, 3, 0, 0), (86, .iload 5, 2, 5, 0, 0, 0), (88, .aload_n 2, 1, 2, 0, 0, 0), (89, .iload 5, 2, 5, 0, 0, 0), (91, .iaload, 1, 0, 0, 0, 0), (92, .iastore, 1, 0, 0, 0, 0), (93, .iinc 5 1, 3, 5, 0, 1, 0), (96, .goto (-59), 3, 37, 0, 0, 0), (99, .iload 4, 2, 4, 0, 0, 0), (101, .ireturn, 1, 0, 0, 0, 0)]
def cd54 : List am_E := cd54_0 ++ (cd54_1)
def am_w54 : List (List (Int32 × Nat) × Nat) := []
set_option maxRecDepth 100000 in
theorem kcd54_0 : cd54_0.all (am_chk am_w54 54) = true := by decide +kernel
set_option maxRecDepth 100000 in
theorem kcd54_1 : cd54_1.all (am_chk am_w54 54) = true := by decide +kernel
theorem am_k54 : cd54.all (am_chk am_w54 54) = true := by
  simp only [cd54, List.all_append, kcd54_0, kcd54_1, Bool.and_self]
theorem am_r54 : am_rtc 54 = 0 := by decide +kernel
theorem am_l54 : am_ml 54 = 6 := by decide +kernel
def am_s54_ (z : Nat) : Nat → List aV → aM → Option aR := fun j => (match Nat.beq j 66 with
  | true => F66 z
  | false => (fun _ _ => none))
theorem hs54 (z : Nat) : ∀ j2 : Nat, ∃ d2 : Nat, d2 + 1 ≤ 2 ∧ am_Snd d2 j2 (am_s54_ z j2) := by
  intro j2
  unfold am_s54_
  split
  · rename_i he
    rw [am_beq he]
    exact ⟨_, by decide, S66 z⟩
  · skip
    exact ⟨0, by decide, am_Snd_no j2⟩
def f54_37 (z : Nat) : Nat → Nat → Nat → Int32 → Int32 → Int32 → aM → Option aR
  | 0, _, _, _, _, _, _ => none
  | n + 1, c1, c2, x3, x4, x5, M =>
    if (M.1 c1 5) ≤ x5 then
      some (some (.inl x4), M)
    else
      if am_inB x5 16 then
        let I1 := am_u M.1 112 x5.toNatClampNeg (0 : Int32)
        am_bi (f66 z 71 c1 112 (I1, M.2)) fun v3 M2 =>
          if ¬ ((v3 >>> (x3 &&& 31)) &&& (1 : Int32)) = 0 then
            if am_inB x5 16 then
              if am_inB x5 16 then
                let I4 := am_u M2.1 112 x5.toNatClampNeg (M2.1 c2 x5.toNatClampNeg)
                f54_37 z n c1 c2 x3 x4 (x5 + (1 : Int32)) (I4, M2.2)
              else
                none
            else
              none
          else
            if am_inB x5 16 then
              if am_inB x5 16 then
                let I5 := am_u M2.1 112 x5.toNatClampNeg (M2.1 c2 x5.toNatClampNeg)
                f54_37 z n c1 c2 x3 (x4 ||| ((1 : Int32) <<< (x5 &&& 31))) (x5 + (1 : Int32)) (I5, M2.2)
              else
                none
            else
              none
      else
        none
set_option maxRecDepth 100000 in
set_option maxHeartbeats 4000000 in
theorem e54_37 (z : Nat) : ∀ (n : Nat) (c1 : Nat) (c2 : Nat) (x3 : Int32) (x4 : Int32) (x5 : Int32) (M : aM) (r : aR), f54_37 z n c1 c2 x3 x4 x5 M = some r → am_Ev 2 54 37 [some (.inr (.inr (6, 70))), some (.inr (.inr (1, c1))), some (.inr (.inr (21, c2))), some (.inl x3), some (.inl x4), some (.inl x5)] [] M r := by
  intro n
  induction n with
  | zero =>
    intro c1 c2 x3 x4 x5 M r h
    cases h
  | succ n ih =>
    intro c1 c2 x3 x4 x5 M r h
    exact am_Ev_seg (sem := am_s54_ z) (cut := ([(37, [true, true, true, true, true, true])] : List (Nat × List Bool))) (hs54 z) am_r54 am_k54 (by rw [am_l54]; decide) (fun pc al st M => (match Nat.beq pc 37 with
      | true => (match al, st with
        | [some (.inr (.inr (6, 70))), some (.inr (.inr (1, c1))), some (.inr (.inr (21, c2))), some (.inl x3), some (.inl x4), some (.inl x5)], [] => f54_37 z n c1 c2 x3 x4 x5 M
        | _, _ => none)
      | false => none)) 37 h (fun pc al st M hk => by
      try dsimp only at hk
      split at hk
      · rename_i he
        rw [am_beq he]
        split at hk
        · exact ih _ _ _ _ _ _ _ hk
        · cases hk
      · cases hk)
/-- ArgumentMender$Trials.alone(LArgumentMender$Cloth;[II)I -/
def f54 (z : Nat) (c1 : Nat) (c2 : Nat) (x3 : Int32) (M : aM) : Option aR :=
  am_bi (f66 z 71 c1 c2 M) fun v2 M1 =>
    if ¬ ((v2 >>> (x3 &&& 31)) &&& (1 : Int32)) = 0 then
      if am_cpOk (0 : Int32) (0 : Int32) (16 : Int32) 16 16 then
        let I3 := am_ua M1.1 112 (va_cpy (M1.1 c2) (M1.1 112) (0 : Int32).toNatClampNeg (0 : Int32).toNatClampNeg (16 : Int32).toNatClampNeg)
        f54_37 z z c1 c2 x3 (0 : Int32) (0 : Int32) (I3, M1.2)
      else
        none
    else
      some (some (.inl (0 : Int32)), M1)
set_option maxRecDepth 100000 in
set_option maxHeartbeats 4000000 in
theorem e54 (z : Nat) : ∀ (c1 : Nat) (c2 : Nat) (x3 : Int32) (M : aM) (r : aR), f54 z c1 c2 x3 M = some r → am_Ev 2 54 0 [some (.inr (.inr (6, 70))), some (.inr (.inr (1, c1))), some (.inr (.inr (21, c2))), some (.inl x3), none, none] [] M r := by
  intro c1 c2 x3 M r h
  exact am_Ev_seg (sem := am_s54_ z) (cut := ([(37, [true, true, true, true, true, true])] : List (Nat × List Bool))) (hs54 z) am_r54 am_k54 (by rw [am_l54]; decide) (fun pc al st M => (match Nat.beq pc 37 with
      | true => (match al, st with
        | [some (.inr (.inr (6, 70))), some (.inr (.inr (1, c1))), some (.inr (.inr (21, c2))), some (.inl x3), some (.inl x4), some (.inl x5)], [] => f54_37 z z c1 c2 x3 x4 x5 M
        | _, _ => none)
      | false => none)) 23 h (fun pc al st M hk => by
      try dsimp only at hk
      split at hk
      · rename_i he
        rw [am_beq he]
        split at hk
        · exact e54_37 z _ _ _ _ _ _ _ _ hk
        · cases hk
      · cases hk)
def F54 (z : Nat) (as : List aV) (M : aM) : Option aR := match as with
  | [.inr (.inr (6, 70)), .inr (.inr (1, c1)), .inr (.inr (21, c2)), .inl x3] => f54 z c1 c2 x3 M
  | _ => none
theorem S54 (z : Nat) : am_Snd 2 54 (F54 z) := am_meth (by decide +kernel) (fun as M r has h => by
    rw [am_l54]
    unfold F54 at h
    split at h
    · exact ⟨Nat.le_of_ble_eq_true rfl, e54 z _ _ _ _ _ h⟩
    · cases h)
def cd65_0 : List am_E := [(0, .iconst 0, 1, 0, 0, 0, 0), (1, .istore 4, 2, 4, 0, 0, 0), (3, .aload_n 1, 1, 1, 0, 0, 0), (4, .getfield 18, 3, 1, 14, 0, 0), (7, .iload_n 3, 1, 3, 0, 0, 0), (8, .iaload, 1, 0, 0, 0, 0), (9, .istore 5, 2, 5, 0, 0, 0), (11, .iload 5, 2, 5, 0, 0, 0), (13, .aload_n 1, 1, 1, 0, 0, 0), (14, .getfield 18, 3, 1, 14, 0, 0), (17, .iload_n 3, 1, 3, 0, 0, 0), (18, .iconst 1, 1, 0, 0, 1, 0), (19, .iadd, 1, 0, 0, 0, 0), (20, .iaload, 1, 0, 0, 0, 0), (21, .if_icmp .ge 24, 3, 45, 0, 0, 0), (24, .aload_n 2, 1, 2, 0, 0, 0), (25, .aload_n 1, 1, 1, 0, 0, 0), (26, .getfield 23, 3, 1, 13, 0, 0), (29, .iload 5, 2, 5, 0, 0, 0), (31, .iaload, 1, 0, 0, 0, 0), (32, .iaload, 1, 0, 0, 0, 0), (33, .ifCond .le 6, 3, 39, 0, 0, 0), (36, .iinc 4 1, 3, 4, 0, 1, 0), (39, .iinc 5 1, 3, 5, 0, 1, 0), (42, .goto (-31), 3, 11, 0, 0, 0), (45, .iload 4, 2, 4, 0, 0, 0), (47, .ireturn, 1, 0, 0, 0, 0)]
def cd65 : List am_E := cd65_0
def am_w65 : List (List (Int32 × Nat) × Nat) := []
set_option maxRecDepth 100000 in
theorem kcd65_0 : cd65_0.all (am_chk am_w65 65) = true := by decide +kernel
theorem am_k65 : cd65.all (am_chk am_w65 65) = true := by
  simp only [cd65, List.all_append, kcd65_0, Bool.and_self]
theorem am_r65 : am_rtc 65 = 0 := by decide +kernel
theorem am_l65 : am_ml 65 = 6 := by decide +kernel
def am_s65_ (z : Nat) : Nat → List aV → aM → Option aR := fun j => (fun _ _ => none)
theorem hs65 (z : Nat) : ∀ j2 : Nat, ∃ d2 : Nat, d2 + 1 ≤ 1 ∧ am_Snd d2 j2 (am_s65_ z j2) := by
  intro j2
  unfold am_s65_
  exact ⟨0, by decide, am_Snd_no j2⟩
def f65_11 (z : Nat) : Nat → Nat → Nat → Int32 → Int32 → Int32 → aM → Option aR
  | 0, _, _, _, _, _, _ => none
  | n + 1, c1, c2, x3, x4, x5, M =>
    if am_inB (x3 + (1 : Int32)) 9 then
      if (M.1 (c1 + 8) (x3 + (1 : Int32)).toNatClampNeg) ≤ x5 then
        some (some (.inl x4), M)
      else
        if am_inB x5 16 then
          if am_inB (M.1 (c1 + 7) x5.toNatClampNeg) 16 then
            if (M.1 c2 (M.1 (c1 + 7) x5.toNatClampNeg).toNatClampNeg) ≤ 0 then
              f65_11 z n c1 c2 x3 x4 (x5 + (1 : Int32)) M
            else
              f65_11 z n c1 c2 x3 (x4 + (1 : Int32)) (x5 + (1 : Int32)) M
          else
            none
        else
          none
    else
      none
set_option maxRecDepth 100000 in
set_option maxHeartbeats 4000000 in
theorem e65_11 (z : Nat) : ∀ (n : Nat) (c1 : Nat) (c2 : Nat) (x3 : Int32) (x4 : Int32) (x5 : Int32) (M : aM) (r : aR), f65_11 z n c1 c2 x3 x4 x5 M = some r → am_Ev 1 65 11 [none, some (.inr (.inr (1, c1))), some (.inr (.inr (21, c2))), some (.inl x3), some (.inl x4), some (.inl x5)] [] M r := by
  intro n
  induction n with
  | zero =>
    intro c1 c2 x3 x4 x5 M r h
    cases h
  | succ n ih =>
    intro c1 c2 x3 x4 x5 M r h
    exact am_Ev_seg (sem := am_s65_ z) (cut := ([(11, [false, true, true, true, true, true])] : List (Nat × List Bool))) (hs65 z) am_r65 am_k65 (by rw [am_l65]; decide) (fun pc al st M => (match Nat.beq pc 11 with
      | true => (match al, st with
        | [none, some (.inr (.inr (1, c1))), some (.inr (.inr (21, c2))), some (.inl x3), some (.inl x4), some (.inl x5)], [] => f65_11 z n c1 c2 x3 x4 x5 M
        | _, _ => none)
      | false => none)) 20 h (fun pc al st M hk => by
      try dsimp only at hk
      split at hk
      · rename_i he
        rw [am_beq he]
        split at hk
        · exact ih _ _ _ _ _ _ _ hk
        · cases hk
      · cases hk)
/-- ArgumentMender$Web.wholeOf(LArgumentMender$Cloth;[II)I -/
def f65 (z : Nat) (c0 : Nat) (c1 : Nat) (c2 : Nat) (x3 : Int32) (M : aM) : Option aR :=
  if am_inB x3 9 then
    f65_11 z z c1 c2 x3 (0 : Int32) (M.1 (c1 + 8) x3.toNatClampNeg) M
  else
    none
set_option maxRecDepth 100000 in
set_option maxHeartbeats 4000000 in
theorem e65 (z : Nat) : ∀ (c0 : Nat) (c1 : Nat) (c2 : Nat) (x3 : Int32) (M : aM) (r : aR), f65 z c0 c1 c2 x3 M = some r → am_Ev 1 65 0 [some (.inr (.inr (8, c0))), some (.inr (.inr (1, c1))), some (.inr (.inr (21, c2))), some (.inl x3), none, none] [] M r := by
  intro c0 c1 c2 x3 M r h
  exact am_Ev_seg (sem := am_s65_ z) (cut := ([(11, [false, true, true, true, true, true])] : List (Nat × List Bool))) (hs65 z) am_r65 am_k65 (by rw [am_l65]; decide) (fun pc al st M => (match Nat.beq pc 11 with
      | true => (match al, st with
        | [none, some (.inr (.inr (1, c1))), some (.inr (.inr (21, c2))), some (.inl x3), some (.inl x4), some (.inl x5)], [] => f65_11 z z c1 c2 x3 x4 x5 M
        | _, _ => none)
      | false => none)) 9 h (fun pc al st M hk => by
      try dsimp only at hk
      split at hk
      · rename_i he
        rw [am_beq he]
        split at hk
        · exact e65_11 z _ _ _ _ _ _ _ _ hk
        · cases hk
      · cases hk)
def F65 (z : Nat) (as : List aV) (M : aM) : Option aR := match as with
  | [.inr (.inr (8, c0)), .inr (.inr (1, c1)), .inr (.inr (21, c2)), .inl x3] => f65 z c0 c1 c2 x3 M
  | _ => none
theorem S65 (z : Nat) : am_Snd 1 65 (F65 z) := am_meth (by decide +kernel) (fun as M r has h => by
    rw [am_l65]
    unfold F65 at h
    split at h
    · exact ⟨Nat.le_of_ble_eq_true rfl, e65 z _ _ _ _ _ _ h⟩
    · cases h)
def cd67_0 : List am_E := [(0, .iconst 0, 1, 0, 0, 0, 0), (1, .istore 4, 2, 4, 0, 0, 0), (3, .iload 4, 2, 4, 0, 0, 0), (5, .iload_n 3, 1, 3, 0, 0, 0), (6, .if_icmp .gt 131, 3, 137, 0, 0, 0), (9, .aload_n 0, 1, 0, 0, 0, 0), (10, .getfield 9, 3, 8, 0, 0, 0), (13, .iload 4, 2, 4, 0, 0, 0), (15, .iconst (-1), 1, 0, 0, (-1), 0), (16, .iastore, 1, 0, 0, 0, 0), (17, .aload_n 1, 1, 1, 0, 0, 0), (18, .getfield 18, 3, 1, 14, 0, 0), (21, .iload 4, 2, 4, 0, 0, 0), (23, .iaload, 1, 0, 0, 0, 0), (24, .istore 5, 2, 5, 0, 0, 0), (26, .iload 5, 2, 5, 0, 0, 0), (28, .aload_n 1, 1, 1, 0, 0, 0), (29, .getfield 18, 3, 1, 14, 0, 0), (32, .iload 4, 2, 4, 0, 0, 0), (34, .iconst 1, 1, 0, 0, 1, 0), (35, .iadd, 1, 0, 0, 0, 0), (36, .iaload, 1, 0, 0, 0, 0), (37, .if_icmp .ge 94, 3, 131, 0, 0, 0), (40, .aload_n 1, 1, 1, 0, 0, 0), (41, .getfield 23, 3, 1, 13, 0, 0), (44, .iload 5, 2, 5, 0, 0, 0), (46, .iaload, 1, 0, 0, 0, 0), (47, .istore 6, 2, 6, 0, 0, 0), (49, .aload_n 1, 1, 1, 0, 0, 0), (50, .getfield 30, 3, 1, 8, 0, 0), (53, .iload 6, 2, 6, 0, 0, 0), (55, .iaload, 1, 0, 0, 0, 0), (56, .iconst (-1), 1, 0, 0, (-1), 0), (57, .if_icmp .ne 7, 3, 64, 0, 0, 0), (60, .iconst 0, 1, 0, 0, 0, 0), (61, .goto 15, 3, 76, 0, 0, 0), (64, .aload_n 0, 1, 0, 0, 0, 0), (65, .getfield 9, 3, 8, 0, 0, 0), (68, .aload_n 1, 1, 1, 0, 0, 0), (69, .getfield 30, 3, 1, 8, 0, 0)]
def cd67_1 : List am_E := [(72, .iload 6, 2, 6, 0, 0, 0), (74, .iaload, 1, 0, 0, 0, 0), (75, .iaload, 1, 0, 0, 0, 0), (76, .istore 7, 2, 7, 0, 0, 0), (78, .aload_n 2, 1, 2, 0, 0, 0), (79, .iload 6, 2, 6, 0, 0, 0), (81, .iaload, 1, 0, 0, 0, 0), (82, .ifCond .le 43, 3, 125, 0, 0, 0), (85, .iload 7, 2, 7, 0, 0, 0), (87, .ifCond .lt 38, 3, 125, 0, 0, 0), (90, .aload_n 0, 1, 0, 0, 0, 0), (91, .getfield 9, 3, 8, 0, 0, 0), (94, .iload 4, 2, 4, 0, 0, 0), (96, .iaload, 1, 0, 0, 0, 0), (97, .ifCond .lt 17, 3, 114, 0, 0, 0), (100, .iload 7, 2, 7, 0, 0, 0), (102, .iconst 1, 1, 0, 0, 1, 0), (103, .iadd, 1, 0, 0, 0, 0), (104, .aload_n 0, 1, 0, 0, 0, 0), (105, .getfield 9, 3, 8, 0, 0, 0), (108, .iload 4, 2, 4, 0, 0, 0), (110, .iaload, 1, 0, 0, 0, 0), (111, .if_icmp .ge 14, 3, 125, 0, 0, 0), (114, .aload_n 0, 1, 0, 0, 0, 0), (115, .getfield 9, 3, 8, 0, 0, 0), (118, .iload 4, 2, 4, 0, 0, 0), (120, .iload 7, 2, 7, 0, 0, 0), (122, .iconst 1, 1, 0, 0, 1, 0), (123, .iadd, 1, 0, 0, 0, 0), (124, .iastore, 1, 0, 0, 0, 0), (125, .iinc 5 1, 3, 5, 0, 1, 0), (128, .goto (-102), 3, 26, 0, 0, 0), (131, .iinc 4 1, 3, 4, 0, 1, 0), (134, .goto (-131), 3, 3, 0, 0, 0), (137, .aload_n 0, 1, 0, 0, 0, 0), (138, .getfield 9, 3, 8, 0, 0, 0), (141, .iload_n 3, 1, 3, 0, 0, 0), (142, .iaload, 1, 0, 0, 0, 0), (143, .ireturn, 1, 0, 0, 0, 0)]
def cd67 : List am_E := cd67_0 ++ (cd67_1)
def am_w67 : List (List (Int32 × Nat) × Nat) := []
set_option maxRecDepth 100000 in
theorem kcd67_0 : cd67_0.all (am_chk am_w67 67) = true := by decide +kernel
set_option maxRecDepth 100000 in
theorem kcd67_1 : cd67_1.all (am_chk am_w67 67) = true := by decide +kernel
theorem am_k67 : cd67.all (am_chk am_w67 67) = true := by
  simp only [cd67, List.all_append, kcd67_0, kcd67_1, Bool.and_self]
theorem am_r67 : am_rtc 67 = 0 := by decide +kernel
theorem am_l67 : am_ml 67 = 8 := by decide +kernel
def am_s67_ (z : Nat) : Nat → List aV → aM → Option aR := fun j => (fun _ _ => none)
theorem hs67 (z : Nat) : ∀ j2 : Nat, ∃ d2 : Nat, d2 + 1 ≤ 1 ∧ am_Snd d2 j2 (am_s67_ z j2) := by
  intro j2
  unfold am_s67_
  exact ⟨0, by decide, am_Snd_no j2⟩
def f67_26 (z : Nat) (k3 : Nat → Nat → Nat → Int32 → Int32 → aM → Option aR) : Nat → Nat → Nat → Nat → Int32 → Int32 → Int32 → aM → Option aR
  | 0, _, _, _, _, _, _, _ => none
  | n + 1, c0, c1, c2, x3, x4, x5, M =>
    if am_inB (x4 + (1 : Int32)) 9 then
      if (M.1 (c1 + 8) (x4 + (1 : Int32)).toNatClampNeg) ≤ x5 then
        k3 c0 c1 c2 x3 (x4 + (1 : Int32)) M
      else
        if am_inB x5 16 then
          if am_inB (M.1 (c1 + 7) x5.toNatClampNeg) 16 then
            if ¬ (M.1 (c1 + 2) (M.1 (c1 + 7) x5.toNatClampNeg).toNatClampNeg) = (-1 : Int32) then
              if am_inB (M.1 (c1 + 7) x5.toNatClampNeg) 16 then
                if am_inB (M.1 (c1 + 2) (M.1 (c1 + 7) x5.toNatClampNeg).toNatClampNeg) 8 then
                  if am_inB (M.1 (c1 + 7) x5.toNatClampNeg) 16 then
                    if (M.1 c2 (M.1 (c1 + 7) x5.toNatClampNeg).toNatClampNeg) ≤ 0 then
                      f67_26 z k3 n c0 c1 c2 x3 x4 (x5 + (1 : Int32)) M
                    else
                      if (M.1 (c0 + 1) (M.1 (c1 + 2) (M.1 (c1 + 7) x5.toNatClampNeg).toNatClampNeg).toNatClampNeg) < 0 then
                        f67_26 z k3 n c0 c1 c2 x3 x4 (x5 + (1 : Int32)) M
                      else
                        if am_inB x4 8 then
                          if (M.1 (c0 + 1) x4.toNatClampNeg) < 0 then
                            if am_inB x4 8 then
                              let I1 := am_u M.1 (c0 + 1) x4.toNatClampNeg ((M.1 (c0 + 1) (M.1 (c1 + 2) (M.1 (c1 + 7) x5.toNatClampNeg).toNatClampNeg).toNatClampNeg) + (1 : Int32))
                              f67_26 z k3 n c0 c1 c2 x3 x4 (x5 + (1 : Int32)) (I1, M.2)
                            else
                              none
                          else
                            if am_inB x4 8 then
                              if (M.1 (c0 + 1) x4.toNatClampNeg) ≤ ((M.1 (c0 + 1) (M.1 (c1 + 2) (M.1 (c1 + 7) x5.toNatClampNeg).toNatClampNeg).toNatClampNeg) + (1 : Int32)) then
                                f67_26 z k3 n c0 c1 c2 x3 x4 (x5 + (1 : Int32)) M
                              else
                                if am_inB x4 8 then
                                  let I2 := am_u M.1 (c0 + 1) x4.toNatClampNeg ((M.1 (c0 + 1) (M.1 (c1 + 2) (M.1 (c1 + 7) x5.toNatClampNeg).toNatClampNeg).toNatClampNeg) + (1 : Int32))
                                  f67_26 z k3 n c0 c1 c2 x3 x4 (x5 + (1 : Int32)) (I2, M.2)
                                else
                                  none
                            else
                              none
                        else
                          none
                  else
                    none
                else
                  none
              else
                none
            else
              if am_inB (M.1 (c1 + 7) x5.toNatClampNeg) 16 then
                if (M.1 c2 (M.1 (c1 + 7) x5.toNatClampNeg).toNatClampNeg) ≤ 0 then
                  f67_26 z k3 n c0 c1 c2 x3 x4 (x5 + (1 : Int32)) M
                else
                  if (0 : Int32) < 0 then
                    f67_26 z k3 n c0 c1 c2 x3 x4 (x5 + (1 : Int32)) M
                  else
                    if am_inB x4 8 then
                      if (M.1 (c0 + 1) x4.toNatClampNeg) < 0 then
                        if am_inB x4 8 then
                          let I3 := am_u M.1 (c0 + 1) x4.toNatClampNeg ((0 : Int32) + (1 : Int32))
                          f67_26 z k3 n c0 c1 c2 x3 x4 (x5 + (1 : Int32)) (I3, M.2)
                        else
                          none
                      else
                        if am_inB x4 8 then
                          if (M.1 (c0 + 1) x4.toNatClampNeg) ≤ ((0 : Int32) + (1 : Int32)) then
                            f67_26 z k3 n c0 c1 c2 x3 x4 (x5 + (1 : Int32)) M
                          else
                            if am_inB x4 8 then
                              let I4 := am_u M.1 (c0 + 1) x4.toNatClampNeg ((0 : Int32) + (1 : Int32))
                              f67_26 z k3 n c0 c1 c2 x3 x4 (x5 + (1 : Int32)) (I4, M.2)
                            else
                              none
                        else
                          none
                    else
                      none
              else
                none
          else
            none
        else
          none
    else
      none
set_option maxRecDepth 100000 in
set_option maxHeartbeats 4000000 in
theorem e67_26 (z : Nat) (k3 : Nat → Nat → Nat → Int32 → Int32 → aM → Option aR) (hk3 : ∀ (c0 : Nat) (c1 : Nat) (c2 : Nat) (x3 : Int32) (x4 : Int32) (M : aM) (r : aR), k3 c0 c1 c2 x3 x4 M = some r → am_Ev 1 67 3 [some (.inr (.inr (8, c0))), some (.inr (.inr (1, c1))), some (.inr (.inr (21, c2))), some (.inl x3), some (.inl x4), none, none, none] [] M r) : ∀ (n : Nat) (c0 : Nat) (c1 : Nat) (c2 : Nat) (x3 : Int32) (x4 : Int32) (x5 : Int32) (M : aM) (r : aR), f67_26 z k3 n c0 c1 c2 x3 x4 x5 M = some r → am_Ev 1 67 26 [some (.inr (.inr (8, c0))), some (.inr (.inr (1, c1))), some (.inr (.inr (21, c2))), some (.inl x3), some (.inl x4), some (.inl x5), none, none] [] M r := by
  intro n
  induction n with
  | zero =>
    intro c0 c1 c2 x3 x4 x5 M r h
    cases h
  | succ n ih =>
    intro c0 c1 c2 x3 x4 x5 M r h
    exact am_Ev_seg (sem := am_s67_ z) (cut := ([(3, [true, true, true, true, true, false, false, false]), (26, [true, true, true, true, true, true, false, false])] : List (Nat × List Bool))) (hs67 z) am_r67 am_k67 (by rw [am_l67]; decide) (fun pc al st M => (match Nat.beq pc 3 with
      | true => (match al, st with
        | [some (.inr (.inr (8, c0))), some (.inr (.inr (1, c1))), some (.inr (.inr (21, c2))), some (.inl x3), some (.inl x4), none, none, none], [] => k3 c0 c1 c2 x3 x4 M
        | _, _ => none)
      | false => (match Nat.beq pc 26 with
      | true => (match al, st with
        | [some (.inr (.inr (8, c0))), some (.inr (.inr (1, c1))), some (.inr (.inr (21, c2))), some (.inl x3), some (.inl x4), some (.inl x5), none, none], [] => f67_26 z k3 n c0 c1 c2 x3 x4 x5 M
        | _, _ => none)
      | false => none))) 57 h (fun pc al st M hk => by
      try dsimp only at hk
      split at hk
      · rename_i he
        rw [am_beq he]
        split at hk
        · exact hk3 _ _ _ _ _ _ _ hk
        · cases hk
      · skip
        split at hk
        · rename_i he
          rw [am_beq he]
          split at hk
          · exact ih _ _ _ _ _ _ _ _ hk
          · cases hk
        · cases hk)
def f67_3 (z : Nat) : Nat → Nat → Nat → Nat → Int32 → Int32 → aM → Option aR
  | 0, _, _, _, _, _, _ => none
  | n + 1, c0, c1, c2, x3, x4, M =>
    if x3 < x4 then
      if am_inB x3 8 then
        some (some (.inl (M.1 (c0 + 1) x3.toNatClampNeg)), M)
      else
        none
    else
      if am_inB x4 8 then
        let I1 := am_u M.1 (c0 + 1) x4.toNatClampNeg (-1 : Int32)
        if am_inB x4 9 then
          f67_26 z (f67_3 z n) z c0 c1 c2 x3 x4 (I1 (c1 + 8) x4.toNatClampNeg) (I1, M.2)
        else
          none
      else
        none
set_option maxRecDepth 100000 in
set_option maxHeartbeats 4000000 in
theorem e67_3 (z : Nat) : ∀ (n : Nat) (c0 : Nat) (c1 : Nat) (c2 : Nat) (x3 : Int32) (x4 : Int32) (M : aM) (r : aR), f67_3 z n c0 c1 c2 x3 x4 M = some r → am_Ev 1 67 3 [some (.inr (.inr (8, c0))), some (.inr (.inr (1, c1))), some (.inr (.inr (21, c2))), some (.inl x3), some (.inl x4), none, none, none] [] M r := by
  intro n
  induction n with
  | zero =>
    intro c0 c1 c2 x3 x4 M r h
    cases h
  | succ n ih =>
    intro c0 c1 c2 x3 x4 M r h
    exact am_Ev_seg (sem := am_s67_ z) (cut := ([(26, [true, true, true, true, true, true, false, false])] : List (Nat × List Bool))) (hs67 z) am_r67 am_k67 (by rw [am_l67]; decide) (fun pc al st M => (match Nat.beq pc 26 with
      | true => (match al, st with
        | [some (.inr (.inr (8, c0))), some (.inr (.inr (1, c1))), some (.inr (.inr (21, c2))), some (.inl x3), some (.inl x4), some (.inl x5), none, none], [] => f67_26 z (f67_3 z n) z c0 c1 c2 x3 x4 x5 M
        | _, _ => none)
      | false => none)) 15 h (fun pc al st M hk => by
      try dsimp only at hk
      split at hk
      · rename_i he
        rw [am_beq he]
        split at hk
        · exact e67_26 z _ ih _ _ _ _ _ _ _ _ _ hk
        · cases hk
      · cases hk)
/-- ArgumentMender$Web.shortest(LArgumentMender$Cloth;[II)I -/
def f67 (z : Nat) (c0 : Nat) (c1 : Nat) (c2 : Nat) (x3 : Int32) (M : aM) : Option aR :=
  f67_3 z z c0 c1 c2 x3 (0 : Int32) M
set_option maxRecDepth 100000 in
set_option maxHeartbeats 4000000 in
theorem e67 (z : Nat) : ∀ (c0 : Nat) (c1 : Nat) (c2 : Nat) (x3 : Int32) (M : aM) (r : aR), f67 z c0 c1 c2 x3 M = some r → am_Ev 1 67 0 [some (.inr (.inr (8, c0))), some (.inr (.inr (1, c1))), some (.inr (.inr (21, c2))), some (.inl x3), none, none, none, none] [] M r := by
  intro c0 c1 c2 x3 M r h
  exact am_Ev_seg (sem := am_s67_ z) (cut := ([(3, [true, true, true, true, true, false, false, false])] : List (Nat × List Bool))) (hs67 z) am_r67 am_k67 (by rw [am_l67]; decide) (fun pc al st M => (match Nat.beq pc 3 with
      | true => (match al, st with
        | [some (.inr (.inr (8, c0))), some (.inr (.inr (1, c1))), some (.inr (.inr (21, c2))), some (.inl x3), some (.inl x4), none, none, none], [] => f67_3 z z c0 c1 c2 x3 x4 M
        | _, _ => none)
      | false => none)) 4 h (fun pc al st M hk => by
      try dsimp only at hk
      split at hk
      · rename_i he
        rw [am_beq he]
        split at hk
        · exact e67_3 z _ _ _ _ _ _ _ _ hk
        · cases hk
      · cases hk)
def F67 (z : Nat) (as : List aV) (M : aM) : Option aR := match as with
  | [.inr (.inr (8, c0)), .inr (.inr (1, c1)), .inr (.inr (21, c2)), .inl x3] => f67 z c0 c1 c2 x3 M
  | _ => none
theorem S67 (z : Nat) : am_Snd 1 67 (F67 z) := am_meth (by decide +kernel) (fun as M r has h => by
    rw [am_l67]
    unfold F67 at h
    split at h
    · exact ⟨Nat.le_of_ble_eq_true rfl, e67 z _ _ _ _ _ _ h⟩
    · cases h)
def cd71_0 : List am_E := [(0, .aload_n 0, 1, 0, 0, 0, 0), (1, .getfield 30, 3, 1, 8, 0, 0), (4, .iload_n 1, 1, 1, 0, 0, 0), (5, .iaload, 1, 0, 0, 0, 0), (6, .iconst (-1), 1, 0, 0, (-1), 0), (7, .if_icmp .ne 8, 3, 15, 0, 0, 0), (10, .bipush 8, 2, 0, 0, 8, 0), (12, .goto 9, 3, 21, 0, 0, 0), (15, .aload_n 0, 1, 0, 0, 0, 0), (16, .getfield 30, 3, 1, 8, 0, 0), (19, .iload_n 1, 1, 1, 0, 0, 0), (20, .iaload, 1, 0, 0, 0, 0), (21, .ireturn, 1, 0, 0, 0, 0)]
def cd71 : List am_E := cd71_0
def am_w71 : List (List (Int32 × Nat) × Nat) := []
set_option maxRecDepth 100000 in
theorem kcd71_0 : cd71_0.all (am_chk am_w71 71) = true := by decide +kernel
theorem am_k71 : cd71.all (am_chk am_w71 71) = true := by
  simp only [cd71, List.all_append, kcd71_0, Bool.and_self]
theorem am_r71 : am_rtc 71 = 0 := by decide +kernel
theorem am_l71 : am_ml 71 = 2 := by decide +kernel
def am_s71_ (z : Nat) : Nat → List aV → aM → Option aR := fun j => (fun _ _ => none)
theorem hs71 (z : Nat) : ∀ j2 : Nat, ∃ d2 : Nat, d2 + 1 ≤ 1 ∧ am_Snd d2 j2 (am_s71_ z j2) := by
  intro j2
  unfold am_s71_
  exact ⟨0, by decide, am_Snd_no j2⟩
/-- ArgumentMender$Web.knot(LArgumentMender$Cloth;I)I -/
def f71 (z : Nat) (c0 : Nat) (x1 : Int32) (M : aM) : Option aR :=
  if am_inB x1 16 then
    if ¬ (M.1 (c0 + 2) x1.toNatClampNeg) = (-1 : Int32) then
      if am_inB x1 16 then
        some (some (.inl (M.1 (c0 + 2) x1.toNatClampNeg)), M)
      else
        none
    else
      some (some (.inl (8 : Int32)), M)
  else
    none
set_option maxRecDepth 100000 in
set_option maxHeartbeats 4000000 in
theorem e71 (z : Nat) : ∀ (c0 : Nat) (x1 : Int32) (M : aM) (r : aR), f71 z c0 x1 M = some r → am_Ev 1 71 0 [some (.inr (.inr (1, c0))), some (.inl x1)] [] M r := by
  intro c0 x1 M r h
  exact am_Ev_seg (sem := am_s71_ z) (cut := ([] : List (Nat × List Bool))) (hs71 z) am_r71 am_k71 (by rw [am_l71]; decide) (fun _ _ _ _ => none) 12 h (fun _ _ _ _ hk => by cases hk)
def F71 (z : Nat) (as : List aV) (M : aM) : Option aR := match as with
  | [.inr (.inr (1, c0)), .inl x1] => f71 z c0 x1 M
  | _ => none
theorem S71 (z : Nat) : am_Snd 1 71 (F71 z) := am_meth (by decide +kernel) (fun as M r has h => by
    rw [am_l71]
    unfold F71 at h
    split at h
    · exact ⟨Nat.le_of_ble_eq_true rfl, e71 z _ _ _ _ h⟩
    · cases h)
