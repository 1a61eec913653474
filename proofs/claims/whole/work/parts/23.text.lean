def cd43_0 : List am_E := [(0, .aload_n 0, 1, 0, 0, 0, 0), (1, .getfield 28, 3, 5, 4, 0, 0), (4, .iconst 1, 1, 0, 0, 1, 0), (5, .if_icmp .ne 19, 3, 24, 0, 0, 0), (8, .aload_n 0, 1, 0, 0, 0, 0), (9, .getfield 19, 3, 5, 2, 0, 0), (12, .aload_n 0, 1, 0, 0, 0, 0), (13, .getfield 22, 3, 5, 3, 0, 0), (16, .isub, 1, 0, 0, 0, 0), (17, .aload_n 1, 1, 1, 0, 0, 0), (18, .invokevirtual 45, 3, 332, 60000, 0, 0), (21, .if_icmp .eq 5, 3, 26, 0, 0, 0), (24, .iconst 0, 1, 0, 0, 0, 0), (25, .ireturn, 1, 0, 0, 0, 0), (26, .iconst 0, 1, 0, 0, 0, 0), (27, .istore_n 2, 1, 2, 0, 0, 0), (28, .iload_n 2, 1, 2, 0, 0, 0), (29, .aload_n 1, 1, 1, 0, 0, 0), (30, .invokevirtual 45, 3, 332, 60000, 0, 0), (33, .if_icmp .ge 30, 3, 63, 0, 0, 0), (36, .aload_n 0, 1, 0, 0, 0, 0), (37, .getfield 9, 3, 5, 0, 0, 0), (40, .aload_n 0, 1, 0, 0, 0, 0), (41, .getfield 22, 3, 5, 3, 0, 0), (44, .iload_n 2, 1, 2, 0, 0, 0), (45, .iadd, 1, 0, 0, 0, 0), (46, .baload, 1, 0, 0, 0, 0), (47, .aload_n 1, 1, 1, 0, 0, 0), (48, .iload_n 2, 1, 2, 0, 0, 0), (49, .invokevirtual 50, 3, 333, 60010, 0, 0), (52, .if_icmp .eq 5, 3, 57, 0, 0, 0), (55, .iconst 0, 1, 0, 0, 0, 0), (56, .ireturn, 1, 0, 0, 0, 0), (57, .iinc 2 1, 3, 2, 0, 1, 0), (60, .goto (-32), 3, 28, 0, 0, 0), (63, .iconst 1, 1, 0, 0, 1, 0), (64, .ireturn, 1, 0, 0, 0, 0)]
def cd43 : List am_E := cd43_0
def am_w43 : List (List (Int32 × Nat) × Nat) := []
set_option maxRecDepth 100000 in
theorem kcd43_0 : cd43_0.all (am_chk am_w43 43) = true := by decide +kernel
theorem am_k43 : cd43.all (am_chk am_w43 43) = true := by
  simp only [cd43, List.all_append, kcd43_0, Bool.and_self]
theorem am_r43 : am_rtc 43 = 1 := by decide +kernel
theorem am_l43 : am_ml 43 = 3 := by decide +kernel
def am_s43_ (z : Nat) : Nat → List aV → aM → Option aR := fun j => (match Nat.beq j 332 with
  | true => F332 z
  | false => (match Nat.beq j 333 with
  | true => F333 z
  | false => (fun _ _ => none)))
theorem hs43 (z : Nat) : ∀ j2 : Nat, ∃ d2 : Nat, d2 + 1 ≤ 5 ∧ am_Snd d2 j2 (am_s43_ z j2) := by
  intro j2
  unfold am_s43_
  split
  · rename_i he
    rw [am_beq he]
    exact ⟨_, by decide, S332 z⟩
  · skip
    split
    · rename_i he
      rw [am_beq he]
      exact ⟨_, by decide, S333 z⟩
    · skip
      exact ⟨0, by decide, am_Snd_no j2⟩
def f43_28 (z : Nat) : Nat → Nat → Int32 → aM → Option aR
  | 0, _, _, _ => none
  | n + 1, c1, x2, M =>
    am_bi (f332 z c1 M) fun v2 M1 =>
      if v2 ≤ x2 then
        some (some (.inl ((1 : Int32) &&& 1)), M1)
      else
        if am_inB ((M1.1 2 3) + x2) 800 then
          am_bi (f333 z c1 x2 M1) fun v4 M3 =>
            if (M1.1 3 ((M1.1 2 3) + x2).toNatClampNeg) = v4 then
              f43_28 z n c1 (x2 + (1 : Int32)) M3
            else
              some (some (.inl ((0 : Int32) &&& 1)), M3)
        else
          none
set_option maxRecDepth 100000 in
set_option maxHeartbeats 4000000 in
theorem e43_28 (z : Nat) : ∀ (n : Nat) (c1 : Nat) (x2 : Int32) (M : aM) (r : aR), f43_28 z n c1 x2 M = some r → am_Ev 5 43 28 [some (.inr (.inr (5, 2))), some (.inr (.inr (60, c1))), some (.inl x2)] [] M r := by
  intro n
  induction n with
  | zero =>
    intro c1 x2 M r h
    cases h
  | succ n ih =>
    intro c1 x2 M r h
    exact am_Ev_seg (sem := am_s43_ z) (cut := ([(28, [true, true, true])] : List (Nat × List Bool))) (hs43 z) am_r43 am_k43 (by rw [am_l43]; decide) (fun pc al st M => (match Nat.beq pc 28 with
      | true => (match al, st with
        | [some (.inr (.inr (5, 2))), some (.inr (.inr (60, c1))), some (.inl x2)], [] => f43_28 z n c1 x2 M
        | _, _ => none)
      | false => none)) 19 h (fun pc al st M hk => by
      try dsimp only at hk
      split at hk
      · rename_i he
        rw [am_beq he]
        split at hk
        · exact ih _ _ _ _ hk
        · cases hk
      · cases hk)
/-- ArgumentMender$Tape.isAt(Ljava/lang/String;)Z -/
def f43 (z : Nat) (c1 : Nat) (M : aM) : Option aR :=
  if ¬ (M.1 2 4) = (1 : Int32) then
    some (some (.inl ((0 : Int32) &&& 1)), M)
  else
    am_bi (f332 z c1 M) fun v2 M1 =>
      if ((M.1 2 2) - (M.1 2 3)) = v2 then
        f43_28 z z c1 (0 : Int32) M1
      else
        some (some (.inl ((0 : Int32) &&& 1)), M1)
set_option maxRecDepth 100000 in
set_option maxHeartbeats 4000000 in
theorem e43 (z : Nat) : ∀ (c1 : Nat) (M : aM) (r : aR), f43 z c1 M = some r → am_Ev 5 43 0 [some (.inr (.inr (5, 2))), some (.inr (.inr (60, c1))), none] [] M r := by
  intro c1 M r h
  exact am_Ev_seg (sem := am_s43_ z) (cut := ([(28, [true, true, true])] : List (Nat × List Bool))) (hs43 z) am_r43 am_k43 (by rw [am_l43]; decide) (fun pc al st M => (match Nat.beq pc 28 with
      | true => (match al, st with
        | [some (.inr (.inr (5, 2))), some (.inr (.inr (60, c1))), some (.inl x2)], [] => f43_28 z z c1 x2 M
        | _, _ => none)
      | false => none)) 16 h (fun pc al st M hk => by
      try dsimp only at hk
      split at hk
      · rename_i he
        rw [am_beq he]
        split at hk
        · exact e43_28 z _ _ _ _ _ hk
        · cases hk
      · cases hk)
def F43 (z : Nat) (as : List aV) (M : aM) : Option aR := match as with
  | [.inr (.inr (5, 2)), .inr (.inr (60, c1))] => f43 z c1 M
  | _ => none
theorem S43 (z : Nat) : am_Snd 5 43 (F43 z) := am_meth (by decide +kernel) (fun as M r has h => by
    rw [am_l43]
    unfold F43 at h
    split at h
    · exact ⟨Nat.le_of_ble_eq_true rfl, e43 z _ _ _ h⟩
    · cases h)
def cd23_0 : List am_E := [(0, .aload_n 0, 1, 0, 0, 0, 0), (1, .getfield 12, 3, 2, 0, 0, 0), (4, .aload_n 1, 1, 1, 0, 0, 0), (5, .invokevirtual 59, 3, 43, 5010, 0, 0), (8, .ifCond .ne 9, 3, 17, 0, 0, 0), (11, .aload_n 0, 1, 0, 0, 0, 0), (12, .iconst 1, 1, 0, 0, 1, 0), (13, .invokevirtual 81, 3, 26, 2010, 0, 0), (16, .ireturn, 1, 0, 0, 0, 0), (17, .aload_n 0, 1, 0, 0, 0, 0), (18, .getfield 12, 3, 2, 0, 0, 0), (21, .invokevirtual 38, 3, 40, 5004, 0, 0), (24, .iconst 1, 1, 0, 0, 1, 0), (25, .ireturn, 1, 0, 0, 0, 0)]
def cd23 : List am_E := cd23_0
def am_w23 : List (List (Int32 × Nat) × Nat) := []
set_option maxRecDepth 100000 in
theorem kcd23_0 : cd23_0.all (am_chk am_w23 23) = true := by decide +kernel
theorem am_k23 : cd23.all (am_chk am_w23 23) = true := by
  simp only [cd23, List.all_append, kcd23_0, Bool.and_self]
theorem am_r23 : am_rtc 23 = 1 := by decide +kernel
theorem am_l23 : am_ml 23 = 2 := by decide +kernel
def am_s23_ (z : Nat) : Nat → List aV → aM → Option aR := fun j => (match Nat.beq j 26 with
  | true => F26 z
  | false => (match Nat.beq j 40 with
  | true => F40 z
  | false => (match Nat.beq j 43 with
  | true => F43 z
  | false => (fun _ _ => none))))
theorem hs23 (z : Nat) : ∀ j2 : Nat, ∃ d2 : Nat, d2 + 1 ≤ 6 ∧ am_Snd d2 j2 (am_s23_ z j2) := by
  intro j2
  unfold am_s23_
  split
  · rename_i he
    rw [am_beq he]
    exact ⟨_, by decide, S26 z⟩
  · skip
    split
    · rename_i he
      rw [am_beq he]
      exact ⟨_, by decide, S40 z⟩
    · skip
      split
      · rename_i he
        rw [am_beq he]
        exact ⟨_, by decide, S43 z⟩
      · skip
        exact ⟨0, by decide, am_Snd_no j2⟩
/-- ArgumentMender$Reader.takeWord(Ljava/lang/String;)Z -/
def f23 (z : Nat) (c1 : Nat) (M : aM) : Option aR :=
  am_bi (f43 z c1 M) fun v2 M1 =>
    if ¬ v2 = 0 then
      am_bv (f40 z M1) fun M3 =>
        some (some (.inl ((1 : Int32) &&& 1)), M3)
    else
      am_bi (f26 z (1 : Int32) M1) fun v5 M4 =>
        some (some (.inl (v5 &&& 1)), M4)
set_option maxRecDepth 100000 in
set_option maxHeartbeats 4000000 in
theorem e23 (z : Nat) : ∀ (c1 : Nat) (M : aM) (r : aR), f23 z c1 M = some r → am_Ev 6 23 0 [some (.inr (.inr (2, 1))), some (.inr (.inr (60, c1)))] [] M r := by
  intro c1 M r h
  exact am_Ev_seg (sem := am_s23_ z) (cut := ([] : List (Nat × List Bool))) (hs23 z) am_r23 am_k23 (by rw [am_l23]; decide) (fun _ _ _ _ => none) 11 h (fun _ _ _ _ hk => by cases hk)
def F23 (z : Nat) (as : List aV) (M : aM) : Option aR := match as with
  | [.inr (.inr (2, 1)), .inr (.inr (60, c1))] => f23 z c1 M
  | _ => none
theorem S23 (z : Nat) : am_Snd 6 23 (F23 z) := am_meth (by decide +kernel) (fun as M r has h => by
    rw [am_l23]
    unfold F23 at h
    split at h
    · exact ⟨Nat.le_of_ble_eq_true rfl, e23 z _ _ _ h⟩
    · cases h)
def cd19_0 : List am_E := [(0, .aload_n 0, 1, 0, 0, 0, 0), (1, .getfield 12, 3, 2, 0, 0, 0), (4, .invokevirtual 38, 3, 40, 5004, 0, 0), (7, .aload_n 0, 1, 0, 0, 0, 0), (8, .ldc 85, 2, 1, 1, 0, 0), (10, .invokevirtual 87, 3, 23, 2010, 0, 0), (13, .ifCond .eq 13, 3, 26, 0, 0, 0), (16, .aload_n 0, 1, 0, 0, 0, 0), (17, .iconst 1, 1, 0, 0, 1, 0), (18, .bipush 12, 2, 0, 0, 12, 0), (20, .invokevirtual 90, 3, 24, 2020, 0, 0), (23, .ifCond .ne 5, 3, 28, 0, 0, 0), (26, .iconst 0, 1, 0, 0, 0, 0), (27, .ireturn, 1, 0, 0, 0, 0), (28, .aload_n 0, 1, 0, 0, 0, 0), (29, .getfield 21, 3, 2, 1, 0, 0), (32, .aload_n 0, 1, 0, 0, 0, 0), (33, .getfield 94, 3, 2, 4, 0, 0), (36, .putfield 97, 3, 1, 1, 0, 0), (39, .aload_n 0, 1, 0, 0, 0, 0), (40, .ldc 99, 2, 2, 1, 0, 0), (42, .invokevirtual 87, 3, 23, 2010, 0, 0), (45, .ifCond .eq 12, 3, 57, 0, 0, 0), (48, .aload_n 0, 1, 0, 0, 0, 0), (49, .iconst 0, 1, 0, 0, 0, 0), (50, .iconst 3, 1, 0, 0, 3, 0), (51, .invokevirtual 90, 3, 24, 2020, 0, 0), (54, .ifCond .ne 5, 3, 59, 0, 0, 0), (57, .iconst 0, 1, 0, 0, 0, 0), (58, .ireturn, 1, 0, 0, 0, 0), (59, .aload_n 0, 1, 0, 0, 0, 0), (60, .getfield 21, 3, 2, 1, 0, 0), (63, .aload_n 0, 1, 0, 0, 0, 0), (64, .getfield 94, 3, 2, 4, 0, 0), (67, .putfield 101, 3, 1, 2, 0, 0), (70, .aload_n 0, 1, 0, 0, 0, 0), (71, .ldc 103, 2, 3, 1, 0, 0), (73, .invokevirtual 87, 3, 23, 2010, 0, 0), (76, .ifCond .eq 13, 3, 89, 0, 0, 0), (79, .aload_n 0, 1, 0, 0, 0, 0)]
def cd19_1 : List am_E := [(80, .iconst 0, 1, 0, 0, 0, 0), (81, .bipush 10, 2, 0, 0, 10, 0), (83, .invokevirtual 90, 3, 24, 2020, 0, 0), (86, .ifCond .ne 5, 3, 91, 0, 0, 0), (89, .iconst 0, 1, 0, 0, 0, 0), (90, .ireturn, 1, 0, 0, 0, 0), (91, .aload_n 0, 1, 0, 0, 0, 0), (92, .getfield 21, 3, 2, 1, 0, 0), (95, .aload_n 0, 1, 0, 0, 0, 0), (96, .getfield 94, 3, 2, 4, 0, 0), (99, .putfield 105, 3, 1, 3, 0, 0), (102, .iconst 1, 1, 0, 0, 1, 0), (103, .ireturn, 1, 0, 0, 0, 0)]
def cd19 : List am_E := cd19_0 ++ (cd19_1)
def am_w19 : List (List (Int32 × Nat) × Nat) := []
set_option maxRecDepth 100000 in
theorem kcd19_0 : cd19_0.all (am_chk am_w19 19) = true := by decide +kernel
set_option maxRecDepth 100000 in
theorem kcd19_1 : cd19_1.all (am_chk am_w19 19) = true := by decide +kernel
theorem am_k19 : cd19.all (am_chk am_w19 19) = true := by
  simp only [cd19, List.all_append, kcd19_0, kcd19_1, Bool.and_self]
theorem am_r19 : am_rtc 19 = 1 := by decide +kernel
theorem am_l19 : am_ml 19 = 1 := by decide +kernel
def am_s19_ (z : Nat) : Nat → List aV → aM → Option aR := fun j => (match Nat.beq j 23 with
  | true => F23 z
  | false => (match Nat.beq j 24 with
  | true => F24 z
  | false => (match Nat.beq j 40 with
  | true => F40 z
  | false => (fun _ _ => none))))
theorem hs19 (z : Nat) : ∀ j2 : Nat, ∃ d2 : Nat, d2 + 1 ≤ 7 ∧ am_Snd d2 j2 (am_s19_ z j2) := by
  intro j2
  unfold am_s19_
  split
  · rename_i he
    rw [am_beq he]
    exact ⟨_, by decide, S23 z⟩
  · skip
    split
    · rename_i he
      rw [am_beq he]
      exact ⟨_, by decide, S24 z⟩
    · skip
      split
      · rename_i he
        rw [am_beq he]
        exact ⟨_, by decide, S40 z⟩
      · skip
        exact ⟨0, by decide, am_Snd_no j2⟩
/-- ArgumentMender$Reader.readHead()Z -/
def f19 (z : Nat) (M : aM) : Option aR :=
  am_bv (f40 z M) fun M1 =>
    am_bi (f23 z 5001 M1) fun v3 M2 =>
      if v3 = 0 then
        some (some (.inl ((0 : Int32) &&& 1)), M2)
      else
        am_bi (f24 z (1 : Int32) (12 : Int32) M2) fun v5 M4 =>
          if ¬ v5 = 0 then
            let I6 := am_u M4.1 4 1 (M4.1 1 4)
            am_bi (f23 z 5002 (I6, M4.2)) fun v8 M7 =>
              if v8 = 0 then
                some (some (.inl ((0 : Int32) &&& 1)), M7)
              else
                am_bi (f24 z (0 : Int32) (3 : Int32) M7) fun v10 M9 =>
                  if ¬ v10 = 0 then
                    let I11 := am_u M9.1 4 2 (M9.1 1 4)
                    am_bi (f23 z 5003 (I11, M9.2)) fun v13 M12 =>
                      if v13 = 0 then
                        some (some (.inl ((0 : Int32) &&& 1)), M12)
                      else
                        am_bi (f24 z (0 : Int32) (10 : Int32) M12) fun v15 M14 =>
                          if ¬ v15 = 0 then
                            let I16 := am_u M14.1 4 3 (M14.1 1 4)
                            some (some (.inl ((1 : Int32) &&& 1)), (I16, M14.2))
                          else
                            some (some (.inl ((0 : Int32) &&& 1)), M14)
                  else
                    some (some (.inl ((0 : Int32) &&& 1)), M9)
          else
            some (some (.inl ((0 : Int32) &&& 1)), M4)
set_option maxRecDepth 100000 in
set_option maxHeartbeats 4000000 in
theorem e19 (z : Nat) : ∀ (M : aM) (r : aR), f19 z  M = some r → am_Ev 7 19 0 [some (.inr (.inr (2, 1)))] [] M r := by
  intro  M r h
  exact am_Ev_seg (sem := am_s19_ z) (cut := ([] : List (Nat × List Bool))) (hs19 z) am_r19 am_k19 (by rw [am_l19]; decide) (fun _ _ _ _ => none) 48 h (fun _ _ _ _ hk => by cases hk)
def F19 (z : Nat) (as : List aV) (M : aM) : Option aR := match as with
  | [.inr (.inr (2, 1))] => f19 z  M
  | _ => none
theorem S19 (z : Nat) : am_Snd 7 19 (F19 z) := am_meth (by decide +kernel) (fun as M r has h => by
    rw [am_l19]
    unfold F19 at h
    split at h
    · exact ⟨Nat.le_of_ble_eq_true rfl, e19 z _ _ h⟩
    · cases h)
def cd21_0 : List am_E := [(0, .aload_n 0, 1, 0, 0, 0, 0), (1, .getfield 21, 3, 2, 1, 0, 0), (4, .getfield 110, 3, 1, 5, 0, 0), (7, .istore_n 1, 1, 1, 0, 0, 0), (8, .iload_n 1, 1, 1, 0, 0, 0), (9, .bipush 16, 2, 0, 0, 16, 0), (11, .if_icmp .lt 9, 3, 20, 0, 0, 0), (14, .aload_n 0, 1, 0, 0, 0, 0), (15, .iconst 3, 1, 0, 0, 3, 0), (16, .invokevirtual 81, 3, 26, 2010, 0, 0), (19, .ireturn, 1, 0, 0, 0, 0), (20, .aload_n 0, 1, 0, 0, 0, 0), (21, .getfield 12, 3, 2, 0, 0, 0), (24, .invokevirtual 38, 3, 40, 5004, 0, 0), (27, .aload_n 0, 1, 0, 0, 0, 0), (28, .iconst 0, 1, 0, 0, 0, 0), (29, .aload_n 0, 1, 0, 0, 0, 0), (30, .getfield 21, 3, 2, 1, 0, 0), (33, .getfield 107, 3, 1, 4, 0, 0), (36, .iconst 1, 1, 0, 0, 1, 0), (37, .isub, 1, 0, 0, 0, 0), (38, .invokevirtual 90, 3, 24, 2020, 0, 0), (41, .ifCond .ne 5, 3, 46, 0, 0, 0), (44, .iconst 0, 1, 0, 0, 0, 0), (45, .ireturn, 1, 0, 0, 0, 0), (46, .aload_n 0, 1, 0, 0, 0, 0), (47, .getfield 21, 3, 2, 1, 0, 0), (50, .getfield 113, 3, 1, 7, 0, 0), (53, .iload_n 1, 1, 1, 0, 0, 0), (54, .aload_n 0, 1, 0, 0, 0, 0), (55, .getfield 94, 3, 2, 4, 0, 0), (58, .iastore, 1, 0, 0, 0, 0), (59, .aload_n 0, 1, 0, 0, 0, 0), (60, .ldc 117, 2, 6, 1, 0, 0), (62, .invokevirtual 87, 3, 23, 2010, 0, 0), (65, .ifCond .ne 5, 3, 70, 0, 0, 0), (68, .iconst 0, 1, 0, 0, 0, 0), (69, .ireturn, 1, 0, 0, 0, 0), (70, .aload_n 0, 1, 0, 0, 0, 0), (71, .getfield 12, 3, 2, 0, 0, 0)]
def cd21_1 : List am_E := [(74, .ldc 119, 2, 7, 1, 0, 0), (76, .invokevirtual 59, 3, 43, 5010, 0, 0), (79, .ifCond .eq 18, 3, 97, 0, 0, 0), (82, .aload_n 0, 1, 0, 0, 0, 0), (83, .getfield 12, 3, 2, 0, 0, 0), (86, .invokevirtual 38, 3, 40, 5004, 0, 0), (89, .aload_n 0, 1, 0, 0, 0, 0), (90, .iconst (-1), 1, 0, 0, (-1), 0), (91, .putfield 94, 3, 2, 4, 0, 0), (94, .goto 24, 3, 118, 0, 0, 0), (97, .aload_n 0, 1, 0, 0, 0, 0), (98, .iconst 0, 1, 0, 0, 0, 0), (99, .aload_n 0, 1, 0, 0, 0, 0), (100, .getfield 21, 3, 2, 1, 0, 0), (103, .getfield 113, 3, 1, 7, 0, 0), (106, .iload_n 1, 1, 1, 0, 0, 0), (107, .iaload, 1, 0, 0, 0, 0), (108, .iconst 1, 1, 0, 0, 1, 0), (109, .isub, 1, 0, 0, 0, 0), (110, .invokevirtual 90, 3, 24, 2020, 0, 0), (113, .ifCond .ne 5, 3, 118, 0, 0, 0), (116, .iconst 0, 1, 0, 0, 0, 0), (117, .ireturn, 1, 0, 0, 0, 0), (118, .aload_n 0, 1, 0, 0, 0, 0), (119, .getfield 21, 3, 2, 1, 0, 0), (122, .getfield 121, 3, 1, 8, 0, 0), (125, .iload_n 1, 1, 1, 0, 0, 0), (126, .aload_n 0, 1, 0, 0, 0, 0), (127, .getfield 94, 3, 2, 4, 0, 0), (130, .iastore, 1, 0, 0, 0, 0), (131, .aload_n 0, 1, 0, 0, 0, 0), (132, .ldc 123, 2, 8, 1, 0, 0), (134, .invokevirtual 87, 3, 23, 2010, 0, 0), (137, .ifCond .eq 13, 3, 150, 0, 0, 0), (140, .aload_n 0, 1, 0, 0, 0, 0), (141, .iconst 1, 1, 0, 0, 1, 0), (142, .bipush 60, 2, 0, 0, 60, 0), (144, .invokevirtual 90, 3, 24, 2020, 0, 0), (147, .ifCond .ne 5, 3, 152, 0, 0, 0), (150, .iconst 0, 1, 0, 0, 0, 0)]
def cd21_2 : List am_E := [(151, .ireturn, 1, 0, 0, 0, 0), (152, .aload_n 0, 1, 0, 0, 0, 0), (153, .getfield 21, 3, 2, 1, 0, 0), (156, .getfield 125, 3, 1, 9, 0, 0), (159, .iload_n 1, 1, 1, 0, 0, 0), (160, .aload_n 0, 1, 0, 0, 0, 0), (161, .getfield 94, 3, 2, 4, 0, 0), (164, .iastore, 1, 0, 0, 0, 0), (165, .aload_n 0, 1, 0, 0, 0, 0), (166, .getfield 21, 3, 2, 1, 0, 0), (169, .dup, 1, 0, 0, 0, 0), (170, .getfield 110, 3, 1, 5, 0, 0), (173, .iconst 1, 1, 0, 0, 1, 0), (174, .iadd, 1, 0, 0, 0, 0), (175, .putfield 110, 3, 1, 5, 0, 0), (178, .iconst 1, 1, 0, 0, 1, 0), (179, .ireturn, 1, 0, 0, 0, 0)]
def cd21 : List am_E := cd21_0 ++ (cd21_1 ++ (cd21_2))
def am_w21 : List (List (Int32 × Nat) × Nat) := []
set_option maxRecDepth 100000 in
theorem kcd21_0 : cd21_0.all (am_chk am_w21 21) = true := by decide +kernel
set_option maxRecDepth 100000 in
theorem kcd21_1 : cd21_1.all (am_chk am_w21 21) = true := by decide +kernel
set_option maxRecDepth 100000 in
theorem kcd21_2 : cd21_2.all (am_chk am_w21 21) = true := by decide +kernel
theorem am_k21 : cd21.all (am_chk am_w21 21) = true := by
  simp only [cd21, List.all_append, kcd21_0, kcd21_1, kcd21_2, Bool.and_self]
theorem am_r21 : am_rtc 21 = 1 := by decide +kernel
theorem am_l21 : am_ml 21 = 2 := by decide +kernel
def am_s21_ (z : Nat) : Nat → List aV → aM → Option aR := fun j => (match Nat.beq j 23 with
  | true => F23 z
  | false => (match Nat.beq j 24 with
  | true => F24 z
  | false => (match Nat.beq j 26 with
  | true => F26 z
  | false => (match Nat.beq j 40 with
  | true => F40 z
  | false => (match Nat.beq j 43 with
  | true => F43 z
  | false => (fun _ _ => none))))))
theorem hs21 (z : Nat) : ∀ j2 : Nat, ∃ d2 : Nat, d2 + 1 ≤ 7 ∧ am_Snd d2 j2 (am_s21_ z j2) := by
  intro j2
  unfold am_s21_
  split
  · rename_i he
    rw [am_beq he]
    exact ⟨_, by decide, S23 z⟩
  · skip
    split
    · rename_i he
      rw [am_beq he]
      exact ⟨_, by decide, S24 z⟩
    · skip
      split
      · rename_i he
        rw [am_beq he]
        exact ⟨_, by decide, S26 z⟩
      · skip
        split
        · rename_i he
          rw [am_beq he]
          exact ⟨_, by decide, S40 z⟩
        · skip
          split
          · rename_i he
            rw [am_beq he]
            exact ⟨_, by decide, S43 z⟩
          · skip
            exact ⟨0, by decide, am_Snd_no j2⟩
/-- ArgumentMender$Reader.readThread()Z -/
def f21 (z : Nat) (M : aM) : Option aR :=
  if (M.1 4 5) < (16 : Int32) then
    am_bv (f40 z M) fun M1 =>
      am_bi (f24 z (0 : Int32) ((M1.1 4 4) - (1 : Int32)) M1) fun v3 M2 =>
        if ¬ v3 = 0 then
          if am_inB (M.1 4 5) 16 then
            let I4 := am_u M2.1 5 (M.1 4 5).toNatClampNeg (M2.1 1 4)
            am_bi (f23 z 5006 (I4, M2.2)) fun v6 M5 =>
              if ¬ v6 = 0 then
                am_bi (f43 z 5007 M5) fun v8 M7 =>
                  if v8 = 0 then
                    if am_inB (M.1 4 5) 16 then
                      am_bi (f24 z (0 : Int32) ((M7.1 5 (M.1 4 5).toNatClampNeg) - (1 : Int32)) M7) fun v10 M9 =>
                        if ¬ v10 = 0 then
                          if am_inB (M.1 4 5) 16 then
                            let I11 := am_u M9.1 6 (M.1 4 5).toNatClampNeg (M9.1 1 4)
                            am_bi (f23 z 5008 (I11, M9.2)) fun v13 M12 =>
                              if v13 = 0 then
                                some (some (.inl ((0 : Int32) &&& 1)), M12)
                              else
                                am_bi (f24 z (1 : Int32) (60 : Int32) M12) fun v15 M14 =>
                                  if ¬ v15 = 0 then
                                    if am_inB (M.1 4 5) 16 then
                                      let I16 := am_u M14.1 7 (M.1 4 5).toNatClampNeg (M14.1 1 4)
                                      let I17 := am_u I16 4 5 ((I16 4 5) + (1 : Int32))
                                      some (some (.inl ((1 : Int32) &&& 1)), (I17, M14.2))
                                    else
                                      none
                                  else
                                    some (some (.inl ((0 : Int32) &&& 1)), M14)
                          else
                            none
                        else
                          some (some (.inl ((0 : Int32) &&& 1)), M9)
                    else
                      none
                  else
                    am_bv (f40 z M7) fun M18 =>
                      let I19 := am_u M18.1 1 4 (-1 : Int32)
                      if am_inB (M.1 4 5) 16 then
                        let I20 := am_u I19 6 (M.1 4 5).toNatClampNeg (I19 1 4)
                        am_bi (f23 z 5008 (I20, M18.2)) fun v22 M21 =>
                          if v22 = 0 then
                            some (some (.inl ((0 : Int32) &&& 1)), M21)
                          else
                            am_bi (f24 z (1 : Int32) (60 : Int32) M21) fun v24 M23 =>
                              if ¬ v24 = 0 then
                                if am_inB (M.1 4 5) 16 then
                                  let I25 := am_u M23.1 7 (M.1 4 5).toNatClampNeg (M23.1 1 4)
                                  let I26 := am_u I25 4 5 ((I25 4 5) + (1 : Int32))
                                  some (some (.inl ((1 : Int32) &&& 1)), (I26, M23.2))
                                else
                                  none
                              else
                                some (some (.inl ((0 : Int32) &&& 1)), M23)
                      else
                        none
              else
                some (some (.inl ((0 : Int32) &&& 1)), M5)
          else
            none
        else
          some (some (.inl ((0 : Int32) &&& 1)), M2)
  else
    am_bi (f26 z (3 : Int32) M) fun v28 M27 =>
      some (some (.inl (v28 &&& 1)), M27)
set_option maxRecDepth 100000 in
set_option maxHeartbeats 4000000 in
theorem e21 (z : Nat) : ∀ (M : aM) (r : aR), f21 z  M = some r → am_Ev 7 21 0 [some (.inr (.inr (2, 1))), none] [] M r := by
  intro  M r h
  exact am_Ev_seg (sem := am_s21_ z) (cut := ([] : List (Nat × List Bool))) (hs21 z) am_r21 am_k21 (by rw [am_l21]; decide) (fun _ _ _ _ => none) 79 h (fun _ _ _ _ hk => by cases hk)
def F21 (z : Nat) (as : List aV) (M : aM) : Option aR := match as with
  | [.inr (.inr (2, 1))] => f21 z  M
  | _ => none
theorem S21 (z : Nat) : am_Snd 7 21 (F21 z) := am_meth (by decide +kernel) (fun as M r has h => by
    rw [am_l21]
    unfold F21 at h
    split at h
    · exact ⟨Nat.le_of_ble_eq_true rfl, e21 z _ _ h⟩
    · cases h)
def cd22_0 : List am_E := [(0, .aload_n 0, 1, 0, 0, 0, 0), (1, .getfield 21, 3, 2, 1, 0, 0), (4, .getfield 127, 3, 1, 6, 0, 0), (7, .istore_n 1, 1, 1, 0, 0, 0), (8, .iload_n 1, 1, 1, 0, 0, 0), (9, .bipush 10, 2, 0, 0, 10, 0), (11, .if_icmp .lt 9, 3, 20, 0, 0, 0), (14, .aload_n 0, 1, 0, 0, 0, 0), (15, .iconst 3, 1, 0, 0, 3, 0), (16, .invokevirtual 81, 3, 26, 2010, 0, 0), (19, .ireturn, 1, 0, 0, 0, 0), (20, .aload_n 0, 1, 0, 0, 0, 0), (21, .getfield 12, 3, 2, 0, 0, 0), (24, .invokevirtual 38, 3, 40, 5004, 0, 0), (27, .aload_n 0, 1, 0, 0, 0, 0), (28, .iconst 0, 1, 0, 0, 0, 0), (29, .aload_n 0, 1, 0, 0, 0, 0), (30, .getfield 21, 3, 2, 1, 0, 0), (33, .getfield 107, 3, 1, 4, 0, 0), (36, .iconst 1, 1, 0, 0, 1, 0), (37, .isub, 1, 0, 0, 0, 0), (38, .invokevirtual 90, 3, 24, 2020, 0, 0), (41, .ifCond .ne 5, 3, 46, 0, 0, 0), (44, .iconst 0, 1, 0, 0, 0, 0), (45, .ireturn, 1, 0, 0, 0, 0), (46, .aload_n 0, 1, 0, 0, 0, 0), (47, .getfield 21, 3, 2, 1, 0, 0), (50, .getfield 130, 3, 1, 10, 0, 0), (53, .iload_n 1, 1, 1, 0, 0, 0), (54, .aload_n 0, 1, 0, 0, 0, 0), (55, .getfield 94, 3, 2, 4, 0, 0), (58, .iastore, 1, 0, 0, 0, 0), (59, .aload_n 0, 1, 0, 0, 0, 0), (60, .ldc 133, 2, 10, 1, 0, 0), (62, .invokevirtual 87, 3, 23, 2010, 0, 0), (65, .ifCond .eq 13, 3, 78, 0, 0, 0), (68, .aload_n 0, 1, 0, 0, 0, 0), (69, .iconst 1, 1, 0, 0, 1, 0), (70, .bipush 90, 2, 0, 0, 90, 0), (72, .invokevirtual 90, 3, 24, 2020, 0, 0)]
def cd22_1 : List am_E := [(75, .ifCond .ne 5, 3, 80, 0, 0, 0), (78, .iconst 0, 1, 0, 0, 0, 0), (79, .ireturn, 1, 0, 0, 0, 0), (80, .aload_n 0, 1, 0, 0, 0, 0), (81, .getfield 21, 3, 2, 1, 0, 0), (84, .getfield 135, 3, 1, 11, 0, 0), (87, .iload_n 1, 1, 1, 0, 0, 0), (88, .aload_n 0, 1, 0, 0, 0, 0), (89, .getfield 94, 3, 2, 4, 0, 0), (92, .iastore, 1, 0, 0, 0, 0), (93, .aload_n 0, 1, 0, 0, 0, 0), (94, .ldc 138, 2, 11, 1, 0, 0), (96, .invokevirtual 87, 3, 23, 2010, 0, 0), (99, .ifCond .eq 13, 3, 112, 0, 0, 0), (102, .aload_n 0, 1, 0, 0, 0, 0), (103, .iconst 0, 1, 0, 0, 0, 0), (104, .bipush 11, 2, 0, 0, 11, 0), (106, .invokevirtual 90, 3, 24, 2020, 0, 0), (109, .ifCond .ne 5, 3, 114, 0, 0, 0), (112, .iconst 0, 1, 0, 0, 0, 0), (113, .ireturn, 1, 0, 0, 0, 0), (114, .aload_n 0, 1, 0, 0, 0, 0), (115, .getfield 21, 3, 2, 1, 0, 0), (118, .getfield 139, 3, 1, 12, 0, 0), (121, .iload_n 1, 1, 1, 0, 0, 0), (122, .aload_n 0, 1, 0, 0, 0, 0), (123, .getfield 94, 3, 2, 4, 0, 0), (126, .iastore, 1, 0, 0, 0, 0), (127, .aload_n 0, 1, 0, 0, 0, 0), (128, .getfield 21, 3, 2, 1, 0, 0), (131, .dup, 1, 0, 0, 0, 0), (132, .getfield 127, 3, 1, 6, 0, 0), (135, .iconst 1, 1, 0, 0, 1, 0), (136, .iadd, 1, 0, 0, 0, 0), (137, .putfield 127, 3, 1, 6, 0, 0), (140, .iconst 1, 1, 0, 0, 1, 0), (141, .ireturn, 1, 0, 0, 0, 0)]
def cd22 : List am_E := cd22_0 ++ (cd22_1)
def am_w22 : List (List (Int32 × Nat) × Nat) := []
set_option maxRecDepth 100000 in
theorem kcd22_0 : cd22_0.all (am_chk am_w22 22) = true := by decide +kernel
set_option maxRecDepth 100000 in
theorem kcd22_1 : cd22_1.all (am_chk am_w22 22) = true := by decide +kernel
theorem am_k22 : cd22.all (am_chk am_w22 22) = true := by
  simp only [cd22, List.all_append, kcd22_0, kcd22_1, Bool.and_self]
theorem am_r22 : am_rtc 22 = 1 := by decide +kernel
theorem am_l22 : am_ml 22 = 2 := by decide +kernel
def am_s22_ (z : Nat) : Nat → List aV → aM → Option aR := fun j => (match Nat.beq j 23 with
  | true => F23 z
  | false => (match Nat.beq j 24 with
  | true => F24 z
  | false => (match Nat.beq j 26 with
  | true => F26 z
  | false => (match Nat.beq j 40 with
  | true => F40 z
  | false => (fun _ _ => none)))))
theorem hs22 (z : Nat) : ∀ j2 : Nat, ∃ d2 : Nat, d2 + 1 ≤ 7 ∧ am_Snd d2 j2 (am_s22_ z j2) := by
  intro j2
  unfold am_s22_
  split
  · rename_i he
    rw [am_beq he]
    exact ⟨_, by decide, S23 z⟩
  · skip
    split
    · rename_i he
      rw [am_beq he]
      exact ⟨_, by decide, S24 z⟩
    · skip
      split
      · rename_i he
        rw [am_beq he]
        exact ⟨_, by decide, S26 z⟩
      · skip
        split
        · rename_i he
          rw [am_beq he]
          exact ⟨_, by decide, S40 z⟩
        · skip
          exact ⟨0, by decide, am_Snd_no j2⟩
/-- ArgumentMender$Reader.readQuarrel()Z -/
def f22 (z : Nat) (M : aM) : Option aR :=
  if (M.1 4 6) < (10 : Int32) then
    am_bv (f40 z M) fun M1 =>
      am_bi (f24 z (0 : Int32) ((M1.1 4 4) - (1 : Int32)) M1) fun v3 M2 =>
        if ¬ v3 = 0 then
          if am_inB (M.1 4 6) 10 then
            let I4 := am_u M2.1 8 (M.1 4 6).toNatClampNeg (M2.1 1 4)
            am_bi (f23 z 5010 (I4, M2.2)) fun v6 M5 =>
              if v6 = 0 then
                some (some (.inl ((0 : Int32) &&& 1)), M5)
              else
                am_bi (f24 z (1 : Int32) (90 : Int32) M5) fun v8 M7 =>
                  if ¬ v8 = 0 then
                    if am_inB (M.1 4 6) 10 then
                      let I9 := am_u M7.1 9 (M.1 4 6).toNatClampNeg (M7.1 1 4)
                      am_bi (f23 z 5011 (I9, M7.2)) fun v11 M10 =>
                        if v11 = 0 then
                          some (some (.inl ((0 : Int32) &&& 1)), M10)
                        else
                          am_bi (f24 z (0 : Int32) (11 : Int32) M10) fun v13 M12 =>
                            if ¬ v13 = 0 then
                              if am_inB (M.1 4 6) 10 then
                                let I14 := am_u M12.1 10 (M.1 4 6).toNatClampNeg (M12.1 1 4)
                                let I15 := am_u I14 4 6 ((I14 4 6) + (1 : Int32))
                                some (some (.inl ((1 : Int32) &&& 1)), (I15, M12.2))
                              else
                                none
                            else
                              some (some (.inl ((0 : Int32) &&& 1)), M12)
                    else
                      none
                  else
                    some (some (.inl ((0 : Int32) &&& 1)), M7)
          else
            none
        else
          some (some (.inl ((0 : Int32) &&& 1)), M2)
  else
    am_bi (f26 z (3 : Int32) M) fun v17 M16 =>
      some (some (.inl (v17 &&& 1)), M16)
set_option maxRecDepth 100000 in
set_option maxHeartbeats 4000000 in
theorem e22 (z : Nat) : ∀ (M : aM) (r : aR), f22 z  M = some r → am_Ev 7 22 0 [some (.inr (.inr (2, 1))), none] [] M r := by
  intro  M r h
  exact am_Ev_seg (sem := am_s22_ z) (cut := ([] : List (Nat × List Bool))) (hs22 z) am_r22 am_k22 (by rw [am_l22]; decide) (fun _ _ _ _ => none) 68 h (fun _ _ _ _ hk => by cases hk)
def F22 (z : Nat) (as : List aV) (M : aM) : Option aR := match as with
  | [.inr (.inr (2, 1))] => f22 z  M
  | _ => none
theorem S22 (z : Nat) : am_Snd 7 22 (F22 z) := am_meth (by decide +kernel) (fun as M r has h => by
    rw [am_l22]
    unfold F22 at h
    split at h
    · exact ⟨Nat.le_of_ble_eq_true rfl, e22 z _ _ h⟩
    · cases h)
def cd18_0 : List am_E := [(0, .aload_n 0, 1, 0, 0, 0, 0), (1, .getfield 21, 3, 2, 1, 0, 0), (4, .getfield 51, 3, 1, 0, 0, 0), (7, .ifCond .ne 7, 3, 14, 0, 0, 0), (10, .iconst 1, 1, 0, 0, 1, 0), (11, .goto 4, 3, 15, 0, 0, 0), (14, .iconst 0, 1, 0, 0, 0, 0), (15, .istore_n 1, 1, 1, 0, 0, 0), (16, .aload_n 0, 1, 0, 0, 0, 0), (17, .getfield 12, 3, 2, 0, 0, 0), (20, .ldc 57, 2, 0, 1, 0, 0), (22, .invokevirtual 59, 3, 43, 5010, 0, 0), (25, .ifCond .eq 12, 3, 37, 0, 0, 0), (28, .iload_n 1, 1, 1, 0, 0, 0), (29, .ifCond .eq 8, 3, 37, 0, 0, 0), (32, .aload_n 0, 1, 0, 0, 0, 0), (33, .invokevirtual 63, 3, 19, 2000, 0, 0), (36, .ireturn, 1, 0, 0, 0, 0), (37, .aload_n 0, 1, 0, 0, 0, 0), (38, .getfield 12, 3, 2, 0, 0, 0), (41, .ldc 66, 2, 4, 1, 0, 0), (43, .invokevirtual 59, 3, 43, 5010, 0, 0), (46, .ifCond .eq 12, 3, 58, 0, 0, 0), (49, .iload_n 1, 1, 1, 0, 0, 0), (50, .ifCond .ne 8, 3, 58, 0, 0, 0), (53, .aload_n 0, 1, 0, 0, 0, 0), (54, .invokevirtual 68, 3, 20, 2000, 0, 0), (57, .ireturn, 1, 0, 0, 0, 0), (58, .aload_n 0, 1, 0, 0, 0, 0), (59, .getfield 12, 3, 2, 0, 0, 0), (62, .ldc 71, 2, 5, 1, 0, 0), (64, .invokevirtual 59, 3, 43, 5010, 0, 0), (67, .ifCond .eq 12, 3, 79, 0, 0, 0), (70, .iload_n 1, 1, 1, 0, 0, 0), (71, .ifCond .ne 8, 3, 79, 0, 0, 0), (74, .aload_n 0, 1, 0, 0, 0, 0), (75, .invokevirtual 73, 3, 21, 2000, 0, 0), (78, .ireturn, 1, 0, 0, 0, 0), (79, .aload_n 0, 1, 0, 0, 0, 0), (80, .getfield 12, 3, 2, 0, 0, 0)]
def cd18_1 : List am_E := [(83, .ldc 76, 2, 9, 1, 0, 0), (85, .invokevirtual 59, 3, 43, 5010, 0, 0), (88, .ifCond .eq 12, 3, 100, 0, 0, 0), (91, .iload_n 1, 1, 1, 0, 0, 0), (92, .ifCond .ne 8, 3, 100, 0, 0, 0), (95, .aload_n 0, 1, 0, 0, 0, 0), (96, .invokevirtual 78, 3, 22, 2000, 0, 0), (99, .ireturn, 1, 0, 0, 0, 0), (100, .aload_n 0, 1, 0, 0, 0, 0), (101, .iconst 1, 1, 0, 0, 1, 0), (102, .invokevirtual 81, 3, 26, 2010, 0, 0), (105, .ireturn, 1, 0, 0, 0, 0)]
def cd18 : List am_E := cd18_0 ++ (cd18_1)
def am_w18 : List (List (Int32 × Nat) × Nat) := []
set_option maxRecDepth 100000 in
theorem kcd18_0 : cd18_0.all (am_chk am_w18 18) = true := by decide +kernel
set_option maxRecDepth 100000 in
theorem kcd18_1 : cd18_1.all (am_chk am_w18 18) = true := by decide +kernel
theorem am_k18 : cd18.all (am_chk am_w18 18) = true := by
  simp only [cd18, List.all_append, kcd18_0, kcd18_1, Bool.and_self]
theorem am_r18 : am_rtc 18 = 1 := by decide +kernel
theorem am_l18 : am_ml 18 = 2 := by decide +kernel
def am_s18_ (z : Nat) : Nat → List aV → aM → Option aR := fun j => (match Nat.beq j 19 with
  | true => F19 z
  | false => (match Nat.beq j 20 with
  | true => F20 z
  | false => (match Nat.beq j 21 with
  | true => F21 z
  | false => (match Nat.beq j 22 with
  | true => F22 z
  | false => (match Nat.beq j 26 with
  | true => F26 z
  | false => (match Nat.beq j 43 with
  | true => F43 z
  | false => (fun _ _ => none)))))))
theorem hs18 (z : Nat) : ∀ j2 : Nat, ∃ d2 : Nat, d2 + 1 ≤ 8 ∧ am_Snd d2 j2 (am_s18_ z j2) := by
  intro j2
  unfold am_s18_
  split
  · rename_i he
    rw [am_beq he]
    exact ⟨_, by decide, S19 z⟩
  · skip
    split
    · rename_i he
      rw [am_beq he]
      exact ⟨_, by decide, S20 z⟩
    · skip
      split
      · rename_i he
        rw [am_beq he]
        exact ⟨_, by decide, S21 z⟩
      · skip
        split
        · rename_i he
          rw [am_beq he]
          exact ⟨_, by decide, S22 z⟩
        · skip
          split
          · rename_i he
            rw [am_beq he]
            exact ⟨_, by decide, S26 z⟩
          · skip
            split
            · rename_i he
              rw [am_beq he]
              exact ⟨_, by decide, S43 z⟩
            · skip
              exact ⟨0, by decide, am_Snd_no j2⟩
def f18_58 (z : Nat)  (x1 : Int32) (M : aM) : Option aR :=
  am_bi (f43 z 5005 M) fun v2 M1 =>
    if v2 = 0 then
      am_bi (f43 z 5009 M1) fun v4 M3 =>
        if v4 = 0 then
          am_bi (f26 z (1 : Int32) M3) fun v6 M5 =>
            some (some (.inl (v6 &&& 1)), M5)
        else
          if ¬ x1 = 0 then
            am_bi (f26 z (1 : Int32) M3) fun v8 M7 =>
              some (some (.inl (v8 &&& 1)), M7)
          else
            am_bi (f22 z M3) fun v10 M9 =>
              some (some (.inl (v10 &&& 1)), M9)
    else
      if ¬ x1 = 0 then
        am_bi (f43 z 5009 M1) fun v12 M11 =>
          if v12 = 0 then
            am_bi (f26 z (1 : Int32) M11) fun v14 M13 =>
              some (some (.inl (v14 &&& 1)), M13)
          else
            if ¬ x1 = 0 then
              am_bi (f26 z (1 : Int32) M11) fun v16 M15 =>
                some (some (.inl (v16 &&& 1)), M15)
            else
              am_bi (f22 z M11) fun v18 M17 =>
                some (some (.inl (v18 &&& 1)), M17)
      else
        am_bi (f21 z M1) fun v20 M19 =>
          some (some (.inl (v20 &&& 1)), M19)
set_option maxRecDepth 100000 in
set_option maxHeartbeats 4000000 in
theorem e18_58 (z : Nat) : ∀ (x1 : Int32) (M : aM) (r : aR), f18_58 z x1 M = some r → am_Ev 8 18 58 [some (.inr (.inr (2, 1))), some (.inl x1)] [] M r := by
  intro x1 M r h
  exact am_Ev_seg (sem := am_s18_ z) (cut := ([] : List (Nat × List Bool))) (hs18 z) am_r18 am_k18 (by rw [am_l18]; decide) (fun _ _ _ _ => none) 19 h (fun _ _ _ _ hk => by cases hk)
def f18_15 (z : Nat)  (xs0 : Int32) (M : aM) : Option aR :=
  am_bi (f43 z 5000 M) fun v2 M1 =>
    if v2 = 0 then
      am_bi (f43 z 5004 M1) fun v4 M3 =>
        if v4 = 0 then
          f18_58 z xs0 M3
        else
          if ¬ xs0 = 0 then
            f18_58 z xs0 M3
          else
            am_bi (f20 z M3) fun v6 M5 =>
              some (some (.inl (v6 &&& 1)), M5)
    else
      if xs0 = 0 then
        am_bi (f43 z 5004 M1) fun v8 M7 =>
          if v8 = 0 then
            f18_58 z xs0 M7
          else
            if ¬ xs0 = 0 then
              f18_58 z xs0 M7
            else
              am_bi (f20 z M7) fun v10 M9 =>
                some (some (.inl (v10 &&& 1)), M9)
      else
        am_bi (f19 z M1) fun v12 M11 =>
          some (some (.inl (v12 &&& 1)), M11)
set_option maxRecDepth 100000 in
set_option maxHeartbeats 4000000 in
theorem e18_15 (z : Nat) : ∀ (xs0 : Int32) (M : aM) (r : aR), f18_15 z xs0 M = some r → am_Ev 8 18 15 [some (.inr (.inr (2, 1))), none] [.inl xs0] M r := by
  intro xs0 M r h
  exact am_Ev_seg (sem := am_s18_ z) (cut := ([(58, [true, true])] : List (Nat × List Bool))) (hs18 z) am_r18 am_k18 (by rw [am_l18]; decide) (fun pc al st M => (match Nat.beq pc 58 with
      | true => (match al, st with
        | [some (.inr (.inr (2, 1))), some (.inl x1)], [] => f18_58 z x1 M
        | _, _ => none)
      | false => none)) 19 h (fun pc al st M hk => by
      try dsimp only at hk
      split at hk
      · rename_i he
        rw [am_beq he]
        split at hk
        · exact e18_58 z _ _ _ hk
        · cases hk
      · cases hk)
/-- ArgumentMender$Reader.readLine()Z -/
def f18 (z : Nat) (M : aM) : Option aR :=
  if ¬ (M.1 4 0) = 0 then
    f18_15 z (0 : Int32) M
  else
    f18_15 z (1 : Int32) M
set_option maxRecDepth 100000 in
set_option maxHeartbeats 4000000 in
theorem e18 (z : Nat) : ∀ (M : aM) (r : aR), f18 z  M = some r → am_Ev 8 18 0 [some (.inr (.inr (2, 1))), none] [] M r := by
  intro  M r h
  exact am_Ev_seg (sem := am_s18_ z) (cut := ([(15, [true, false])] : List (Nat × List Bool))) (hs18 z) am_r18 am_k18 (by rw [am_l18]; decide) (fun pc al st M => (match Nat.beq pc 15 with
      | true => (match al, st with
        | [some (.inr (.inr (2, 1))), none], [.inl xs0] => f18_15 z xs0 M
        | _, _ => none)
      | false => none)) 8 h (fun pc al st M hk => by
      try dsimp only at hk
      split at hk
      · rename_i he
        rw [am_beq he]
        split at hk
        · exact e18_15 z _ _ _ hk
        · cases hk
      · cases hk)
def F18 (z : Nat) (as : List aV) (M : aM) : Option aR := match as with
  | [.inr (.inr (2, 1))] => f18 z  M
  | _ => none
theorem S18 (z : Nat) : am_Snd 8 18 (F18 z) := am_meth (by decide +kernel) (fun as M r has h => by
    rw [am_l18]
    unfold F18 at h
    split at h
    · exact ⟨Nat.le_of_ble_eq_true rfl, e18 z _ _ h⟩
    · cases h)
def cd17_0 : List am_E := [(0, .aload_n 0, 1, 0, 0, 0, 0), (1, .getfield 21, 3, 2, 1, 0, 0), (4, .invokevirtual 29, 3, 4, 1004, 0, 0), (7, .aload_n 0, 1, 0, 0, 0, 0), (8, .iconst 0, 1, 0, 0, 0, 0), (9, .putfield 32, 3, 2, 2, 0, 0), (12, .aload_n 0, 1, 0, 0, 0, 0), (13, .iconst (-1), 1, 0, 0, (-1), 0), (14, .putfield 25, 3, 2, 3, 0, 0), (17, .aload_n 0, 1, 0, 0, 0, 0), (18, .getfield 12, 3, 2, 0, 0, 0), (21, .iconst 0, 1, 0, 0, 0, 0), (22, .putfield 35, 3, 5, 2, 0, 0), (25, .aload_n 0, 1, 0, 0, 0, 0), (26, .getfield 12, 3, 2, 0, 0, 0), (29, .invokevirtual 38, 3, 40, 5004, 0, 0), (32, .iconst 0, 1, 0, 0, 0, 0), (33, .istore_n 1, 1, 1, 0, 0, 0), (34, .iload_n 1, 1, 1, 0, 0, 0), (35, .sipush 800, 3, 0, 0, 800, 0), (38, .if_icmp .ge 48, 3, 86, 0, 0, 0), (41, .aload_n 0, 1, 0, 0, 0, 0), (42, .getfield 12, 3, 2, 0, 0, 0), (45, .getfield 41, 3, 5, 4, 0, 0), (48, .ifCond .eq 38, 3, 86, 0, 0, 0), (51, .aload_n 0, 1, 0, 0, 0, 0), (52, .invokevirtual 44, 3, 18, 2000, 0, 0), (55, .ifCond .eq 10, 3, 65, 0, 0, 0), (58, .aload_n 0, 1, 0, 0, 0, 0), (59, .invokevirtual 48, 3, 25, 2000, 0, 0), (62, .ifCond .ne 5, 3, 67, 0, 0, 0), (65, .iconst 0, 1, 0, 0, 0, 0), (66, .ireturn, 1, 0, 0, 0, 0), (67, .aload_n 0, 1, 0, 0, 0, 0), (68, .getfield 21, 3, 2, 1, 0, 0), (71, .dup, 1, 0, 0, 0, 0), (72, .getfield 51, 3, 1, 0, 0, 0), (75, .iconst 1, 1, 0, 0, 1, 0), (76, .iadd, 1, 0, 0, 0, 0), (77, .putfield 51, 3, 1, 0, 0, 0)]
def cd17_1 : List am_E := [(80, .iinc 1 1, 3, 1, 0, 1, 0), (83, .goto (-49), 3, 34, 0, 0, 0), (86, .aload_n 0, 1, 0, 0, 0, 0), (87, .getfield 21, 3, 2, 1, 0, 0), (90, .invokevirtual 54, 3, 5, 1004, 0, 0), (93, .iconst 1, 1, 0, 0, 1, 0), (94, .ireturn, 1, 0, 0, 0, 0)]
def cd17 : List am_E := cd17_0 ++ (cd17_1)
def am_w17 : List (List (Int32 × Nat) × Nat) := []
set_option maxRecDepth 100000 in
theorem kcd17_0 : cd17_0.all (am_chk am_w17 17) = true := by decide +kernel
set_option maxRecDepth 100000 in
theorem kcd17_1 : cd17_1.all (am_chk am_w17 17) = true := by decide +kernel
theorem am_k17 : cd17.all (am_chk am_w17 17) = true := by
  simp only [cd17, List.all_append, kcd17_0, kcd17_1, Bool.and_self]
theorem am_r17 : am_rtc 17 = 1 := by decide +kernel
theorem am_l17 : am_ml 17 = 2 := by decide +kernel
def am_s17_ (z : Nat) : Nat → List aV → aM → Option aR := fun j => (match Nat.beq j 4 with
  | true => F4 z
  | false => (match Nat.beq j 5 with
  | true => F5 z
  | false => (match Nat.beq j 18 with
  | true => F18 z
  | false => (match Nat.beq j 25 with
  | true => F25 z
  | false => (match Nat.beq j 40 with
  | true => F40 z
  | false => (fun _ _ => none))))))
theorem hs17 (z : Nat) : ∀ j2 : Nat, ∃ d2 : Nat, d2 + 1 ≤ 9 ∧ am_Snd d2 j2 (am_s17_ z j2) := by
  intro j2
  unfold am_s17_
  split
  · rename_i he
    rw [am_beq he]
    exact ⟨_, by decide, S4 z⟩
  · skip
    split
    · rename_i he
      rw [am_beq he]
      exact ⟨_, by decide, S5 z⟩
    · skip
      split
      · rename_i he
        rw [am_beq he]
        exact ⟨_, by decide, S18 z⟩
      · skip
        split
        · rename_i he
          rw [am_beq he]
          exact ⟨_, by decide, S25 z⟩
        · skip
          split
          · rename_i he
            rw [am_beq he]
            exact ⟨_, by decide, S40 z⟩
          · skip
            exact ⟨0, by decide, am_Snd_no j2⟩
def f17_34 (z : Nat) : Nat → Int32 → aM → Option aR
  | 0, _, _ => none
  | n + 1, x1, M =>
    if (800 : Int32) ≤ x1 then
      am_bv (f5 z 4 M) fun M1 =>
        some (some (.inl ((1 : Int32) &&& 1)), M1)
    else
      if (M.1 2 4) = 0 then
        am_bv (f5 z 4 M) fun M2 =>
          some (some (.inl ((1 : Int32) &&& 1)), M2)
      else
        am_bi (f18 z M) fun v4 M3 =>
          if v4 = 0 then
            some (some (.inl ((0 : Int32) &&& 1)), M3)
          else
            am_bi (f25 z M3) fun v6 M5 =>
              if ¬ v6 = 0 then
                let I7 := am_u M5.1 4 0 ((M5.1 4 0) + (1 : Int32))
                f17_34 z n (x1 + (1 : Int32)) (I7, M5.2)
              else
                some (some (.inl ((0 : Int32) &&& 1)), M5)
set_option maxRecDepth 100000 in
set_option maxHeartbeats 4000000 in
theorem e17_34 (z : Nat) : ∀ (n : Nat) (x1 : Int32) (M : aM) (r : aR), f17_34 z n x1 M = some r → am_Ev 9 17 34 [some (.inr (.inr (2, 1))), some (.inl x1)] [] M r := by
  intro n
  induction n with
  | zero =>
    intro x1 M r h
    cases h
  | succ n ih =>
    intro x1 M r h
    exact am_Ev_seg (sem := am_s17_ z) (cut := ([(34, [true, true])] : List (Nat × List Bool))) (hs17 z) am_r17 am_k17 (by rw [am_l17]; decide) (fun pc al st M => (match Nat.beq pc 34 with
      | true => (match al, st with
        | [some (.inr (.inr (2, 1))), some (.inl x1)], [] => f17_34 z n x1 M
        | _, _ => none)
      | false => none)) 24 h (fun pc al st M hk => by
      try dsimp only at hk
      split at hk
      · rename_i he
        rw [am_beq he]
        split at hk
        · exact ih _ _ _ hk
        · cases hk
      · cases hk)
/-- ArgumentMender$Reader.readAll()Z -/
def f17 (z : Nat) (M : aM) : Option aR :=
  am_bv (f4 z 4 M) fun M1 =>
    let I2 := am_u M1.1 1 2 (0 : Int32)
    let I3 := am_u I2 1 3 (-1 : Int32)
    let I4 := am_u I3 2 2 (0 : Int32)
    am_bv (f40 z (I4, M1.2)) fun M5 =>
      f17_34 z z (0 : Int32) M5
set_option maxRecDepth 100000 in
set_option maxHeartbeats 4000000 in
theorem e17 (z : Nat) : ∀ (M : aM) (r : aR), f17 z  M = some r → am_Ev 9 17 0 [some (.inr (.inr (2, 1))), none] [] M r := by
  intro  M r h
  exact am_Ev_seg (sem := am_s17_ z) (cut := ([(34, [true, true])] : List (Nat × List Bool))) (hs17 z) am_r17 am_k17 (by rw [am_l17]; decide) (fun pc al st M => (match Nat.beq pc 34 with
      | true => (match al, st with
        | [some (.inr (.inr (2, 1))), some (.inl x1)], [] => f17_34 z z x1 M
        | _, _ => none)
      | false => none)) 20 h (fun pc al st M hk => by
      try dsimp only at hk
      split at hk
      · rename_i he
        rw [am_beq he]
        split at hk
        · exact e17_34 z _ _ _ _ hk
        · cases hk
      · cases hk)
def F17 (z : Nat) (as : List aV) (M : aM) : Option aR := match as with
  | [.inr (.inr (2, 1))] => f17 z  M
  | _ => none
theorem S17 (z : Nat) : am_Snd 9 17 (F17 z) := am_meth (by decide +kernel) (fun as M r has h => by
    rw [am_l17]
    unfold F17 at h
    split at h
    · exact ⟨Nat.le_of_ble_eq_true rfl, e17 z _ _ h⟩
    · cases h)
def cd82_0 : List am_E := [(0, .aload_n 0, 1, 0, 0, 0, 0), (1, .getfield 10, 3, 10, 0, 0, 0), (4, .invokevirtual 80, 3, 17, 2000, 0, 0), (7, .istore_n 1, 1, 1, 0, 0, 0), (8, .aload_n 0, 1, 0, 0, 0, 0), (9, .getfield 10, 3, 10, 0, 0, 0), (12, .getfield 66, 3, 2, 0, 0, 0), (15, .iconst 0, 1, 0, 0, 0, 0), (16, .putfield 70, 3, 5, 1, 0, 0), (19, .iload_n 1, 1, 1, 0, 0, 0), (20, .ifCond .ne 6, 3, 26, 0, 0, 0), (23, .bipush (-4), 2, 0, 0, (-4), 0), (25, .ireturn, 1, 0, 0, 0, 0), (26, .aload_n 0, 1, 0, 0, 0, 0), (27, .getfield 19, 3, 10, 1, 0, 0), (30, .aload_n 0, 1, 0, 0, 0, 0), (31, .getfield 10, 3, 10, 0, 0, 0), (34, .getfield 84, 3, 2, 1, 0, 0), (37, .invokevirtual 87, 3, 6, 1014, 0, 0), (40, .aload_n 0, 1, 0, 0, 0, 0), (41, .invokevirtual 91, 3, 84, 10004, 0, 0), (44, .aload_n 0, 1, 0, 0, 0, 0), (45, .getfield 19, 3, 10, 1, 0, 0), (48, .getfield 94, 3, 1, 0, 0, 0), (51, .ireturn, 1, 0, 0, 0, 0)]
def cd82 : List am_E := cd82_0
def am_w82 : List (List (Int32 × Nat) × Nat) := []
set_option maxRecDepth 100000 in
theorem kcd82_0 : cd82_0.all (am_chk am_w82 82) = true := by decide +kernel
theorem am_k82 : cd82.all (am_chk am_w82 82) = true := by
  simp only [cd82, List.all_append, kcd82_0, Bool.and_self]
theorem am_r82 : am_rtc 82 = 0 := by decide +kernel
theorem am_l82 : am_ml 82 = 2 := by decide +kernel
def am_s82_ (z : Nat) : Nat → List aV → aM → Option aR := fun j => (match Nat.beq j 6 with
  | true => F6 z
  | false => (match Nat.beq j 17 with
  | true => F17 z
  | false => (match Nat.beq j 84 with
  | true => F84 z
  | false => (fun _ _ => none))))
theorem hs82 (z : Nat) : ∀ j2 : Nat, ∃ d2 : Nat, d2 + 1 ≤ 10 ∧ am_Snd d2 j2 (am_s82_ z j2) := by
  intro j2
  unfold am_s82_
  split
  · rename_i he
    rw [am_beq he]
    exact ⟨_, by decide, S6 z⟩
  · skip
    split
    · rename_i he
      rw [am_beq he]
      exact ⟨_, by decide, S17 z⟩
    · skip
      split
      · rename_i he
        rw [am_beq he]
        exact ⟨_, by decide, S84 z⟩
      · skip
        exact ⟨0, by decide, am_Snd_no j2⟩
/-- ArgumentMender.cloth()I -/
def f82 (z : Nat) (M : aM) : Option aR :=
  am_bi (f17 z M) fun v2 M1 =>
    let I3 := am_u M1.1 2 1 (0 : Int32)
    if ¬ v2 = 0 then
      am_bv (f6 z 18 4 (I3, M1.2)) fun M4 =>
        am_bv (f84 z M4) fun M5 =>
          some (some (.inl (M5.1 18 0)), M5)
    else
      some (some (.inl (-4 : Int32)), (I3, M1.2))
set_option maxRecDepth 100000 in
set_option maxHeartbeats 4000000 in
theorem e82 (z : Nat) : ∀ (M : aM) (r : aR), f82 z  M = some r → am_Ev 10 82 0 [some (.inr (.inr (10, 0))), none] [] M r := by
  intro  M r h
  exact am_Ev_seg (sem := am_s82_ z) (cut := ([] : List (Nat × List Bool))) (hs82 z) am_r82 am_k82 (by rw [am_l82]; decide) (fun _ _ _ _ => none) 24 h (fun _ _ _ _ hk => by cases hk)
def F82 (z : Nat) (as : List aV) (M : aM) : Option aR := match as with
  | [.inr (.inr (10, 0))] => f82 z  M
  | _ => none
theorem S82 (z : Nat) : am_Snd 10 82 (F82 z) := am_meth (by decide +kernel) (fun as M r has h => by
    rw [am_l82]
    unfold F82 at h
    split at h
    · exact ⟨Nat.le_of_ble_eq_true rfl, e82 z _ _ h⟩
    · cases h)
def cd194_0 : List am_E := [(0, .aload_n 0, 1, 0, 0, 0, 0), (1, .invokevirtual 164, 3, 192, 11000, 0, 0), (4, .ifCond .eq 31, 3, 35, 0, 0, 0), (7, .aload_n 0, 1, 0, 0, 0, 0), (8, .getfield 140, 3, 11, 10, 0, 0), (11, .iconst 1, 1, 0, 0, 1, 0), (12, .if_icmp .ne 23, 3, 35, 0, 0, 0), (15, .aload_n 0, 1, 0, 0, 0, 0), (16, .getfield 130, 3, 11, 8, 0, 0), (19, .aload_n 0, 1, 0, 0, 0, 0), (20, .getfield 137, 3, 11, 9, 0, 0), (23, .isub, 1, 0, 0, 0, 0), (24, .aload_n 1, 1, 1, 0, 0, 0), (25, .invokevirtual 167, 3, 332, 60000, 0, 0), (28, .if_icmp .ne 7, 3, 35, 0, 0, 0), (31, .iconst 1, 1, 0, 0, 1, 0), (32, .goto 4, 3, 36, 0, 0, 0), (35, .iconst 0, 1, 0, 0, 0, 0), (36, .istore_n 2, 1, 2, 0, 0, 0), (37, .iconst 0, 1, 0, 0, 0, 0), (38, .istore_n 3, 1, 3, 0, 0, 0), (39, .iload_n 3, 1, 3, 0, 0, 0), (40, .aload_n 1, 1, 1, 0, 0, 0), (41, .invokevirtual 167, 3, 332, 60000, 0, 0), (44, .if_icmp .ge 38, 3, 82, 0, 0, 0), (47, .iload_n 2, 1, 2, 0, 0, 0), (48, .ifCond .eq 34, 3, 82, 0, 0, 0), (51, .aload_n 0, 1, 0, 0, 0, 0), (52, .getfield 20, 3, 11, 4, 0, 0), (55, .aload_n 0, 1, 0, 0, 0, 0), (56, .getfield 137, 3, 11, 9, 0, 0), (59, .iload_n 3, 1, 3, 0, 0, 0), (60, .iadd, 1, 0, 0, 0, 0), (61, .baload, 1, 0, 0, 0, 0), (62, .aload_n 1, 1, 1, 0, 0, 0), (63, .iload_n 3, 1, 3, 0, 0, 0), (64, .invokevirtual 172, 3, 333, 60010, 0, 0), (67, .if_icmp .ne 7, 3, 74, 0, 0, 0), (70, .iconst 1, 1, 0, 0, 1, 0), (71, .goto 4, 3, 75, 0, 0, 0)]
def cd194_1 : List am_E := [(74, .iconst 0, 1, 0, 0, 0, 0), (75, .istore_n 2, 1, 2, 0, 0, 0), (76, .iinc 3 1, 3, 3, 0, 1, 0), (79, .goto (-40), 3, 39, 0, 0, 0), (82, .iload_n 2, 1, 2, 0, 0, 0), (83, .ireturn, 1, 0, 0, 0, 0)]
def cd194 : List am_E := cd194_0 ++ (cd194_1)
def am_w194 : List (List (Int32 × Nat) × Nat) := []
set_option maxRecDepth 100000 in
theorem kcd194_0 : cd194_0.all (am_chk am_w194 194) = true := by decide +kernel
set_option maxRecDepth 100000 in
theorem kcd194_1 : cd194_1.all (am_chk am_w194 194) = true := by decide +kernel
theorem am_k194 : cd194.all (am_chk am_w194 194) = true := by
  simp only [cd194, List.all_append, kcd194_0, kcd194_1, Bool.and_self]
theorem am_r194 : am_rtc 194 = 1 := by decide +kernel
theorem am_l194 : am_ml 194 = 4 := by decide +kernel
def am_s194_ (z : Nat) : Nat → List aV → aM → Option aR := fun j => (match Nat.beq j 192 with
  | true => F192 z
  | false => (match Nat.beq j 332 with
  | true => F332 z
  | false => (match Nat.beq j 333 with
  | true => F333 z
  | false => (fun _ _ => none))))
theorem hs194 (z : Nat) : ∀ j2 : Nat, ∃ d2 : Nat, d2 + 1 ≤ 5 ∧ am_Snd d2 j2 (am_s194_ z j2) := by
  intro j2
  unfold am_s194_
  split
  · rename_i he
    rw [am_beq he]
    exact ⟨_, by decide, S192 z⟩
  · skip
    split
    · rename_i he
      rw [am_beq he]
      exact ⟨_, by decide, S332 z⟩
    · skip
      split
      · rename_i he
        rw [am_beq he]
        exact ⟨_, by decide, S333 z⟩
      · skip
        exact ⟨0, by decide, am_Snd_no j2⟩
def f194_39 (z : Nat) : Nat → Nat → Int32 → Int32 → aM → Option aR
  | 0, _, _, _, _ => none
  | n + 1, c1, x2, x3, M =>
    am_bi (f332 z c1 M) fun v2 M1 =>
      if v2 ≤ x3 then
        some (some (.inl (x2 &&& 1)), M1)
      else
        if x2 = 0 then
          some (some (.inl (x2 &&& 1)), M1)
        else
          if am_inB ((M1.1 205 9) + x3) 800 then
            am_bi (f333 z c1 x3 M1) fun v4 M3 =>
              if ¬ (M1.1 209 ((M1.1 205 9) + x3).toNatClampNeg) = v4 then
                f194_39 z n c1 (0 : Int32) (x3 + (1 : Int32)) M3
              else
                f194_39 z n c1 (1 : Int32) (x3 + (1 : Int32)) M3
          else
            none
set_option maxRecDepth 100000 in
set_option maxHeartbeats 4000000 in
theorem e194_39 (z : Nat) : ∀ (n : Nat) (c1 : Nat) (x2 : Int32) (x3 : Int32) (M : aM) (r : aR), f194_39 z n c1 x2 x3 M = some r → am_Ev 5 194 39 [some (.inr (.inr (11, 205))), some (.inr (.inr (60, c1))), some (.inl x2), some (.inl x3)] [] M r := by
  intro n
  induction n with
  | zero =>
    intro c1 x2 x3 M r h
    cases h
  | succ n ih =>
    intro c1 x2 x3 M r h
    exact am_Ev_seg (sem := am_s194_ z) (cut := ([(39, [true, true, true, true])] : List (Nat × List Bool))) (hs194 z) am_r194 am_k194 (by rw [am_l194]; decide) (fun pc al st M => (match Nat.beq pc 39 with
      | true => (match al, st with
        | [some (.inr (.inr (11, 205))), some (.inr (.inr (60, c1))), some (.inl x2), some (.inl x3)], [] => f194_39 z n c1 x2 x3 M
        | _, _ => none)
      | false => none)) 24 h (fun pc al st M hk => by
      try dsimp only at hk
      split at hk
      · rename_i he
        rw [am_beq he]
        split at hk
        · exact ih _ _ _ _ _ hk
        · cases hk
      · cases hk)
/-- ArgumentMenderModel.is(Ljava/lang/String;)Z -/
def f194 (z : Nat) (c1 : Nat) (M : aM) : Option aR :=
  am_bi (f192 z M) fun v2 M1 =>
    if v2 = 0 then
      f194_39 z z c1 (0 : Int32) (0 : Int32) M1
    else
      if ¬ (M1.1 205 10) = (1 : Int32) then
        f194_39 z z c1 (0 : Int32) (0 : Int32) M1
      else
        am_bi (f332 z c1 M1) fun v4 M3 =>
          if ¬ ((M1.1 205 8) - (M1.1 205 9)) = v4 then
            f194_39 z z c1 (0 : Int32) (0 : Int32) M3
          else
            f194_39 z z c1 (1 : Int32) (0 : Int32) M3
set_option maxRecDepth 100000 in
set_option maxHeartbeats 4000000 in
theorem e194 (z : Nat) : ∀ (c1 : Nat) (M : aM) (r : aR), f194 z c1 M = some r → am_Ev 5 194 0 [some (.inr (.inr (11, 205))), some (.inr (.inr (60, c1))), none, none] [] M r := by
  intro c1 M r h
  exact am_Ev_seg (sem := am_s194_ z) (cut := ([(39, [true, true, true, true])] : List (Nat × List Bool))) (hs194 z) am_r194 am_k194 (by rw [am_l194]; decide) (fun pc al st M => (match Nat.beq pc 39 with
      | true => (match al, st with
        | [some (.inr (.inr (11, 205))), some (.inr (.inr (60, c1))), some (.inl x2), some (.inl x3)], [] => f194_39 z z c1 x2 x3 M
        | _, _ => none)
      | false => none)) 22 h (fun pc al st M hk => by
      try dsimp only at hk
      split at hk
      · rename_i he
        rw [am_beq he]
        split at hk
        · exact e194_39 z _ _ _ _ _ _ hk
        · cases hk
      · cases hk)
def F194 (z : Nat) (as : List aV) (M : aM) : Option aR := match as with
  | [.inr (.inr (11, 205)), .inr (.inr (60, c1))] => f194 z c1 M
  | _ => none
theorem S194 (z : Nat) : am_Snd 5 194 (F194 z) := am_meth (by decide +kernel) (fun as M r has h => by
    rw [am_l194]
    unfold F194 at h
    split at h
    · exact ⟨Nat.le_of_ble_eq_true rfl, e194 z _ _ _ h⟩
    · cases h)
def cd195_0 : List am_E := [(0, .aload_n 0, 1, 0, 0, 0, 0), (1, .aload_n 1, 1, 1, 0, 0, 0), (2, .invokevirtual 176, 3, 194, 11010, 0, 0), (5, .istore_n 2, 1, 2, 0, 0, 0), (6, .iload_n 2, 1, 2, 0, 0, 0), (7, .ifCond .eq 7, 3, 14, 0, 0, 0), (10, .aload_n 0, 1, 0, 0, 0, 0), (11, .invokevirtual 180, 3, 191, 11004, 0, 0), (14, .iload_n 2, 1, 2, 0, 0, 0), (15, .ireturn, 1, 0, 0, 0, 0)]
def cd195 : List am_E := cd195_0
def am_w195 : List (List (Int32 × Nat) × Nat) := []
set_option maxRecDepth 100000 in
theorem kcd195_0 : cd195_0.all (am_chk am_w195 195) = true := by decide +kernel
theorem am_k195 : cd195.all (am_chk am_w195 195) = true := by
  simp only [cd195, List.all_append, kcd195_0, Bool.and_self]
theorem am_r195 : am_rtc 195 = 1 := by decide +kernel
theorem am_l195 : am_ml 195 = 3 := by decide +kernel
def am_s195_ (z : Nat) : Nat → List aV → aM → Option aR := fun j => (match Nat.beq j 191 with
  | true => F191 z
  | false => (match Nat.beq j 194 with
  | true => F194 z
  | false => (fun _ _ => none)))
theorem hs195 (z : Nat) : ∀ j2 : Nat, ∃ d2 : Nat, d2 + 1 ≤ 6 ∧ am_Snd d2 j2 (am_s195_ z j2) := by
  intro j2
  unfold am_s195_
  split
  · rename_i he
    rw [am_beq he]
    exact ⟨_, by decide, S191 z⟩
  · skip
    split
    · rename_i he
      rw [am_beq he]
      exact ⟨_, by decide, S194 z⟩
    · skip
      exact ⟨0, by decide, am_Snd_no j2⟩
/-- ArgumentMenderModel.takes(Ljava/lang/String;)Z -/
def f195 (z : Nat) (c1 : Nat) (M : aM) : Option aR :=
  am_bi (f194 z c1 M) fun v2 M1 =>
    if v2 = 0 then
      some (some (.inl (v2 &&& 1)), M1)
    else
      am_bv (f191 z M1) fun M3 =>
        some (some (.inl (v2 &&& 1)), M3)
set_option maxRecDepth 100000 in
set_option maxHeartbeats 4000000 in
theorem e195 (z : Nat) : ∀ (c1 : Nat) (M : aM) (r : aR), f195 z c1 M = some r → am_Ev 6 195 0 [some (.inr (.inr (11, 205))), some (.inr (.inr (60, c1))), none] [] M r := by
  intro c1 M r h
  exact am_Ev_seg (sem := am_s195_ z) (cut := ([] : List (Nat × List Bool))) (hs195 z) am_r195 am_k195 (by rw [am_l195]; decide) (fun _ _ _ _ => none) 11 h (fun _ _ _ _ hk => by cases hk)
def F195 (z : Nat) (as : List aV) (M : aM) : Option aR := match as with
  | [.inr (.inr (11, 205)), .inr (.inr (60, c1))] => f195 z c1 M
  | _ => none
theorem S195 (z : Nat) : am_Snd 6 195 (F195 z) := am_meth (by decide +kernel) (fun as M r has h => by
    rw [am_l195]
    unfold F195 at h
    split at h
    · exact ⟨Nat.le_of_ble_eq_true rfl, e195 z _ _ _ h⟩
    · cases h)
def cd196_0 : List am_E := [(0, .aload_n 0, 1, 0, 0, 0, 0), (1, .aload_n 1, 1, 1, 0, 0, 0), (2, .invokevirtual 183, 3, 195, 11010, 0, 0), (5, .ifCond .ne 8, 3, 13, 0, 0, 0), (8, .aload_n 0, 1, 0, 0, 0, 0), (9, .iconst 1, 1, 0, 0, 1, 0), (10, .invokevirtual 186, 3, 193, 11014, 0, 0), (13, .return_, 1, 0, 0, 0, 0)]
def cd196 : List am_E := cd196_0
def am_w196 : List (List (Int32 × Nat) × Nat) := []
set_option maxRecDepth 100000 in
theorem kcd196_0 : cd196_0.all (am_chk am_w196 196) = true := by decide +kernel
theorem am_k196 : cd196.all (am_chk am_w196 196) = true := by
  simp only [cd196, List.all_append, kcd196_0, Bool.and_self]
theorem am_r196 : am_rtc 196 = 4 := by decide +kernel
theorem am_l196 : am_ml 196 = 2 := by decide +kernel
def am_s196_ (z : Nat) : Nat → List aV → aM → Option aR := fun j => (match Nat.beq j 193 with
  | true => F193 z
  | false => (match Nat.beq j 195 with
  | true => F195 z
  | false => (fun _ _ => none)))
theorem hs196 (z : Nat) : ∀ j2 : Nat, ∃ d2 : Nat, d2 + 1 ≤ 7 ∧ am_Snd d2 j2 (am_s196_ z j2) := by
  intro j2
  unfold am_s196_
  split
  · rename_i he
    rw [am_beq he]
    exact ⟨_, by decide, S193 z⟩
  · skip
    split
    · rename_i he
      rw [am_beq he]
      exact ⟨_, by decide, S195 z⟩
    · skip
      exact ⟨0, by decide, am_Snd_no j2⟩
/-- ArgumentMenderModel.expects(Ljava/lang/String;)V -/
def f196 (z : Nat) (c1 : Nat) (M : aM) : Option aR :=
  am_bi (f195 z c1 M) fun v2 M1 =>
    if ¬ v2 = 0 then
      some (none, M1)
    else
      am_bv (f193 z (1 : Int32) M1) fun M3 =>
        some (none, M3)
set_option maxRecDepth 100000 in
set_option maxHeartbeats 4000000 in
theorem e196 (z : Nat) : ∀ (c1 : Nat) (M : aM) (r : aR), f196 z c1 M = some r → am_Ev 7 196 0 [some (.inr (.inr (11, 205))), some (.inr (.inr (60, c1)))] [] M r := by
  intro c1 M r h
  exact am_Ev_seg (sem := am_s196_ z) (cut := ([] : List (Nat × List Bool))) (hs196 z) am_r196 am_k196 (by rw [am_l196]; decide) (fun _ _ _ _ => none) 9 h (fun _ _ _ _ hk => by cases hk)
def F196 (z : Nat) (as : List aV) (M : aM) : Option aR := match as with
  | [.inr (.inr (11, 205)), .inr (.inr (60, c1))] => f196 z c1 M
  | _ => none
theorem S196 (z : Nat) : am_Snd 7 196 (F196 z) := am_meth (by decide +kernel) (fun as M r has h => by
    rw [am_l196]
    unfold F196 at h
    split at h
    · exact ⟨Nat.le_of_ble_eq_true rfl, e196 z _ _ _ h⟩
    · cases h)
def cd198_0 : List am_E := [(0, .aload_n 0, 1, 0, 0, 0, 0), (1, .aload_n 1, 1, 1, 0, 0, 0), (2, .invokevirtual 190, 3, 196, 11014, 0, 0), (5, .aload_n 0, 1, 0, 0, 0, 0), (6, .iload_n 2, 1, 2, 0, 0, 0), (7, .iload_n 3, 1, 3, 0, 0, 0), (8, .invokevirtual 194, 3, 197, 11020, 0, 0), (11, .ireturn, 1, 0, 0, 0, 0)]
def cd198 : List am_E := cd198_0
def am_w198 : List (List (Int32 × Nat) × Nat) := []
set_option maxRecDepth 100000 in
theorem kcd198_0 : cd198_0.all (am_chk am_w198 198) = true := by decide +kernel
theorem am_k198 : cd198.all (am_chk am_w198 198) = true := by
  simp only [cd198, List.all_append, kcd198_0, Bool.and_self]
theorem am_r198 : am_rtc 198 = 0 := by decide +kernel
theorem am_l198 : am_ml 198 = 4 := by decide +kernel
def am_s198_ (z : Nat) : Nat → List aV → aM → Option aR := fun j => (match Nat.beq j 196 with
  | true => F196 z
  | false => (match Nat.beq j 197 with
  | true => F197 z
  | false => (fun _ _ => none)))
theorem hs198 (z : Nat) : ∀ j2 : Nat, ∃ d2 : Nat, d2 + 1 ≤ 8 ∧ am_Snd d2 j2 (am_s198_ z j2) := by
  intro j2
  unfold am_s198_
  split
  · rename_i he
    rw [am_beq he]
    exact ⟨_, by decide, S196 z⟩
  · skip
    split
    · rename_i he
      rw [am_beq he]
      exact ⟨_, by decide, S197 z⟩
    · skip
      exact ⟨0, by decide, am_Snd_no j2⟩
/-- ArgumentMenderModel.toldBy(Ljava/lang/String;II)I -/
def f198 (z : Nat) (c1 : Nat) (x2 : Int32) (x3 : Int32) (M : aM) : Option aR :=
  am_bv (f196 z c1 M) fun M1 =>
    am_bi (f197 z x2 x3 M1) fun v3 M2 =>
      some (some (.inl v3), M2)
set_option maxRecDepth 100000 in
set_option maxHeartbeats 4000000 in
theorem e198 (z : Nat) : ∀ (c1 : Nat) (x2 : Int32) (x3 : Int32) (M : aM) (r : aR), f198 z c1 x2 x3 M = some r → am_Ev 8 198 0 [some (.inr (.inr (11, 205))), some (.inr (.inr (60, c1))), some (.inl x2), some (.inl x3)] [] M r := by
  intro c1 x2 x3 M r h
  exact am_Ev_seg (sem := am_s198_ z) (cut := ([] : List (Nat × List Bool))) (hs198 z) am_r198 am_k198 (by rw [am_l198]; decide) (fun _ _ _ _ => none) 9 h (fun _ _ _ _ hk => by cases hk)
def F198 (z : Nat) (as : List aV) (M : aM) : Option aR := match as with
  | [.inr (.inr (11, 205)), .inr (.inr (60, c1)), .inl x2, .inl x3] => f198 z c1 x2 x3 M
  | _ => none
theorem S198 (z : Nat) : am_Snd 8 198 (F198 z) := am_meth (by decide +kernel) (fun as M r has h => by
    rw [am_l198]
    unfold F198 at h
    split at h
    · exact ⟨Nat.le_of_ble_eq_true rfl, e198 z _ _ _ _ _ h⟩
    · cases h)
def cd200_0 : List am_E := [(0, .aload_n 0, 1, 0, 0, 0, 0), (1, .ldc 197, 2, 0, 1, 0, 0), (3, .invokevirtual 190, 3, 196, 11014, 0, 0), (6, .aload_n 0, 1, 0, 0, 0, 0), (7, .getfield 31, 3, 11, 14, 0, 0), (10, .iconst 0, 1, 0, 0, 0, 0), (11, .aload_n 0, 1, 0, 0, 0, 0), (12, .ldc 199, 2, 1, 1, 0, 0), (14, .iconst 1, 1, 0, 0, 1, 0), (15, .bipush 12, 2, 0, 0, 12, 0), (17, .invokevirtual 200, 3, 198, 11030, 0, 0), (20, .iastore, 1, 0, 0, 0, 0), (21, .aload_n 0, 1, 0, 0, 0, 0), (22, .getfield 31, 3, 11, 14, 0, 0), (25, .iconst 1, 1, 0, 0, 1, 0), (26, .aload_n 0, 1, 0, 0, 0, 0), (27, .ldc 204, 2, 2, 1, 0, 0), (29, .iconst 0, 1, 0, 0, 0, 0), (30, .iconst 3, 1, 0, 0, 3, 0), (31, .invokevirtual 200, 3, 198, 11030, 0, 0), (34, .iastore, 1, 0, 0, 0, 0), (35, .aload_n 0, 1, 0, 0, 0, 0), (36, .getfield 31, 3, 11, 14, 0, 0), (39, .iconst 2, 1, 0, 0, 2, 0), (40, .aload_n 0, 1, 0, 0, 0, 0), (41, .ldc 206, 2, 3, 1, 0, 0), (43, .iconst 0, 1, 0, 0, 0, 0), (44, .bipush 10, 2, 0, 0, 10, 0), (46, .invokevirtual 200, 3, 198, 11030, 0, 0), (49, .iastore, 1, 0, 0, 0, 0), (50, .return_, 1, 0, 0, 0, 0)]
def cd200 : List am_E := cd200_0
def am_w200 : List (List (Int32 × Nat) × Nat) := []
set_option maxRecDepth 100000 in
theorem kcd200_0 : cd200_0.all (am_chk am_w200 200) = true := by decide +kernel
theorem am_k200 : cd200.all (am_chk am_w200 200) = true := by
  simp only [cd200, List.all_append, kcd200_0, Bool.and_self]
theorem am_r200 : am_rtc 200 = 4 := by decide +kernel
theorem am_l200 : am_ml 200 = 1 := by decide +kernel
def am_s200_ (z : Nat) : Nat → List aV → aM → Option aR := fun j => (match Nat.beq j 196 with
  | true => F196 z
  | false => (match Nat.beq j 198 with
  | true => F198 z
  | false => (fun _ _ => none)))
theorem hs200 (z : Nat) : ∀ j2 : Nat, ∃ d2 : Nat, d2 + 1 ≤ 9 ∧ am_Snd d2 j2 (am_s200_ z j2) := by
  intro j2
  unfold am_s200_
  split
  · rename_i he
    rw [am_beq he]
    exact ⟨_, by decide, S196 z⟩
  · skip
    split
    · rename_i he
      rw [am_beq he]
      exact ⟨_, by decide, S198 z⟩
    · skip
      exact ⟨0, by decide, am_Snd_no j2⟩
/-- ArgumentMenderModel.readFirst()V -/
def f200 (z : Nat) (M : aM) : Option aR :=
  am_bv (f196 z 5000 M) fun M1 =>
    am_bi (f198 z 5001 (1 : Int32) (12 : Int32) M1) fun v3 M2 =>
      if am_inB (0 : Int32) 116 then
        let I4 := am_u M2.1 211 (0 : Int32).toNatClampNeg v3
        am_bi (f198 z 5002 (0 : Int32) (3 : Int32) (I4, M2.2)) fun v6 M5 =>
          if am_inB (1 : Int32) 116 then
            let I7 := am_u M5.1 211 (1 : Int32).toNatClampNeg v6
            am_bi (f198 z 5003 (0 : Int32) (10 : Int32) (I7, M5.2)) fun v9 M8 =>
              if am_inB (2 : Int32) 116 then
                let I10 := am_u M8.1 211 (2 : Int32).toNatClampNeg v9
                some (none, (I10, M8.2))
              else
                none
          else
            none
      else
        none
set_option maxRecDepth 100000 in
set_option maxHeartbeats 4000000 in
theorem e200 (z : Nat) : ∀ (M : aM) (r : aR), f200 z  M = some r → am_Ev 9 200 0 [some (.inr (.inr (11, 205)))] [] M r := by
  intro  M r h
  exact am_Ev_seg (sem := am_s200_ z) (cut := ([] : List (Nat × List Bool))) (hs200 z) am_r200 am_k200 (by rw [am_l200]; decide) (fun _ _ _ _ => none) 32 h (fun _ _ _ _ hk => by cases hk)
def F200 (z : Nat) (as : List aV) (M : aM) : Option aR := match as with
  | [.inr (.inr (11, 205))] => f200 z  M
  | _ => none
theorem S200 (z : Nat) : am_Snd 9 200 (F200 z) := am_meth (by decide +kernel) (fun as M r has h => by
    rw [am_l200]
    unfold F200 at h
    split at h
    · exact ⟨Nat.le_of_ble_eq_true rfl, e200 z _ _ h⟩
    · cases h)
def cd201_0 : List am_E := [(0, .bipush 8, 2, 0, 0, 8, 0), (2, .iconst 3, 1, 0, 0, 3, 0), (3, .aload_n 0, 1, 0, 0, 0, 0), (4, .getfield 31, 3, 11, 14, 0, 0), (7, .iconst 4, 1, 0, 0, 4, 0), (8, .iaload, 1, 0, 0, 0, 0), (9, .imul, 1, 0, 0, 0, 0), (10, .iadd, 1, 0, 0, 0, 0), (11, .istore_n 1, 1, 1, 0, 0, 0), (12, .aload_n 0, 1, 0, 0, 0, 0), (13, .getfield 31, 3, 11, 14, 0, 0), (16, .iload_n 1, 1, 1, 0, 0, 0), (17, .aload_n 0, 1, 0, 0, 0, 0), (18, .iconst 0, 1, 0, 0, 0, 0), (19, .aload_n 0, 1, 0, 0, 0, 0), (20, .getfield 31, 3, 11, 14, 0, 0), (23, .iconst 3, 1, 0, 0, 3, 0), (24, .iaload, 1, 0, 0, 0, 0), (25, .iconst 1, 1, 0, 0, 1, 0), (26, .isub, 1, 0, 0, 0, 0), (27, .invokevirtual 194, 3, 197, 11020, 0, 0), (30, .iastore, 1, 0, 0, 0, 0), (31, .aload_n 0, 1, 0, 0, 0, 0), (32, .ldc 208, 2, 6, 1, 0, 0), (34, .invokevirtual 190, 3, 196, 11014, 0, 0), (37, .aload_n 0, 1, 0, 0, 0, 0), (38, .ldc 210, 2, 7, 1, 0, 0), (40, .invokevirtual 183, 3, 195, 11010, 0, 0), (43, .ifCond .eq 15, 3, 58, 0, 0, 0), (46, .aload_n 0, 1, 0, 0, 0, 0), (47, .getfield 31, 3, 11, 14, 0, 0), (50, .iload_n 1, 1, 1, 0, 0, 0), (51, .iconst 1, 1, 0, 0, 1, 0), (52, .iadd, 1, 0, 0, 0, 0), (53, .iconst (-1), 1, 0, 0, (-1), 0), (54, .iastore, 1, 0, 0, 0, 0), (55, .goto 24, 3, 79, 0, 0, 0), (58, .aload_n 0, 1, 0, 0, 0, 0), (59, .getfield 31, 3, 11, 14, 0, 0), (62, .iload_n 1, 1, 1, 0, 0, 0)]
def cd201_1 : List am_E := [(63, .iconst 1, 1, 0, 0, 1, 0), (64, .iadd, 1, 0, 0, 0, 0), (65, .aload_n 0, 1, 0, 0, 0, 0), (66, .iconst 0, 1, 0, 0, 0, 0), (67, .aload_n 0, 1, 0, 0, 0, 0), (68, .getfield 31, 3, 11, 14, 0, 0), (71, .iload_n 1, 1, 1, 0, 0, 0), (72, .iaload, 1, 0, 0, 0, 0), (73, .iconst 1, 1, 0, 0, 1, 0), (74, .isub, 1, 0, 0, 0, 0), (75, .invokevirtual 194, 3, 197, 11020, 0, 0), (78, .iastore, 1, 0, 0, 0, 0), (79, .aload_n 0, 1, 0, 0, 0, 0), (80, .getfield 31, 3, 11, 14, 0, 0), (83, .iload_n 1, 1, 1, 0, 0, 0), (84, .iconst 2, 1, 0, 0, 2, 0), (85, .iadd, 1, 0, 0, 0, 0), (86, .aload_n 0, 1, 0, 0, 0, 0), (87, .ldc 212, 2, 8, 1, 0, 0), (89, .iconst 1, 1, 0, 0, 1, 0), (90, .bipush 60, 2, 0, 0, 60, 0), (92, .invokevirtual 200, 3, 198, 11030, 0, 0), (95, .iastore, 1, 0, 0, 0, 0), (96, .aload_n 0, 1, 0, 0, 0, 0), (97, .getfield 31, 3, 11, 14, 0, 0), (100, .iconst 4, 1, 0, 0, 4, 0), (101, .dup2, 1, 0, 0, 0, 0), (102, .iaload, 1, 0, 0, 0, 0), (103, .iconst 1, 1, 0, 0, 1, 0), (104, .iadd, 1, 0, 0, 0, 0), (105, .iastore, 1, 0, 0, 0, 0), (106, .return_, 1, 0, 0, 0, 0)]
def cd201 : List am_E := cd201_0 ++ (cd201_1)
def am_w201 : List (List (Int32 × Nat) × Nat) := []
set_option maxRecDepth 100000 in
theorem kcd201_0 : cd201_0.all (am_chk am_w201 201) = true := by decide +kernel
set_option maxRecDepth 100000 in
theorem kcd201_1 : cd201_1.all (am_chk am_w201 201) = true := by decide +kernel
theorem am_k201 : cd201.all (am_chk am_w201 201) = true := by
  simp only [cd201, List.all_append, kcd201_0, kcd201_1, Bool.and_self]
theorem am_r201 : am_rtc 201 = 4 := by decide +kernel
theorem am_l201 : am_ml 201 = 2 := by decide +kernel
def am_s201_ (z : Nat) : Nat → List aV → aM → Option aR := fun j => (match Nat.beq j 195 with
  | true => F195 z
  | false => (match Nat.beq j 196 with
  | true => F196 z
  | false => (match Nat.beq j 197 with
  | true => F197 z
  | false => (match Nat.beq j 198 with
  | true => F198 z
  | false => (fun _ _ => none)))))
theorem hs201 (z : Nat) : ∀ j2 : Nat, ∃ d2 : Nat, d2 + 1 ≤ 9 ∧ am_Snd d2 j2 (am_s201_ z j2) := by
  intro j2
  unfold am_s201_
  split
  · rename_i he
    rw [am_beq he]
    exact ⟨_, by decide, S195 z⟩
  · skip
    split
    · rename_i he
      rw [am_beq he]
      exact ⟨_, by decide, S196 z⟩
    · skip
      split
      · rename_i he
        rw [am_beq he]
        exact ⟨_, by decide, S197 z⟩
      · skip
        split
        · rename_i he
          rw [am_beq he]
          exact ⟨_, by decide, S198 z⟩
        · skip
          exact ⟨0, by decide, am_Snd_no j2⟩
/-- ArgumentMenderModel.readThread()V -/
def f201 (z : Nat) (M : aM) : Option aR :=
  if am_inB (4 : Int32) 116 then
    if am_inB (3 : Int32) 116 then
      am_bi (f197 z (0 : Int32) ((M.1 211 (3 : Int32).toNatClampNeg) - (1 : Int32)) M) fun v2 M1 =>
        if am_inB ((8 : Int32) + ((3 : Int32) * (M.1 211 (4 : Int32).toNatClampNeg))) 116 then
          let I3 := am_u M1.1 211 ((8 : Int32) + ((3 : Int32) * (M.1 211 (4 : Int32).toNatClampNeg))).toNatClampNeg v2
          am_bv (f196 z 5006 (I3, M1.2)) fun M4 =>
            am_bi (f195 z 5007 M4) fun v6 M5 =>
              if v6 = 0 then
                if am_inB ((8 : Int32) + ((3 : Int32) * (M.1 211 (4 : Int32).toNatClampNeg))) 116 then
                  am_bi (f197 z (0 : Int32) ((M5.1 211 ((8 : Int32) + ((3 : Int32) * (M.1 211 (4 : Int32).toNatClampNeg))).toNatClampNeg) - (1 : Int32)) M5) fun v8 M7 =>
                    if am_inB (((8 : Int32) + ((3 : Int32) * (M.1 211 (4 : Int32).toNatClampNeg))) + (1 : Int32)) 116 then
                      let I9 := am_u M7.1 211 (((8 : Int32) + ((3 : Int32) * (M.1 211 (4 : Int32).toNatClampNeg))) + (1 : Int32)).toNatClampNeg v8
                      am_bi (f198 z 5008 (1 : Int32) (60 : Int32) (I9, M7.2)) fun v11 M10 =>
                        if am_inB (((8 : Int32) + ((3 : Int32) * (M.1 211 (4 : Int32).toNatClampNeg))) + (2 : Int32)) 116 then
                          let I12 := am_u M10.1 211 (((8 : Int32) + ((3 : Int32) * (M.1 211 (4 : Int32).toNatClampNeg))) + (2 : Int32)).toNatClampNeg v11
                          if am_inB (4 : Int32) 116 then
                            if am_inB (4 : Int32) 116 then
                              let I13 := am_u I12 211 (4 : Int32).toNatClampNeg ((I12 211 (4 : Int32).toNatClampNeg) + (1 : Int32))
                              some (none, (I13, M10.2))
                            else
                              none
                          else
                            none
                        else
                          none
                    else
                      none
                else
                  none
              else
                if am_inB (((8 : Int32) + ((3 : Int32) * (M.1 211 (4 : Int32).toNatClampNeg))) + (1 : Int32)) 116 then
                  let I14 := am_u M5.1 211 (((8 : Int32) + ((3 : Int32) * (M.1 211 (4 : Int32).toNatClampNeg))) + (1 : Int32)).toNatClampNeg (-1 : Int32)
                  am_bi (f198 z 5008 (1 : Int32) (60 : Int32) (I14, M5.2)) fun v16 M15 =>
                    if am_inB (((8 : Int32) + ((3 : Int32) * (M.1 211 (4 : Int32).toNatClampNeg))) + (2 : Int32)) 116 then
                      let I17 := am_u M15.1 211 (((8 : Int32) + ((3 : Int32) * (M.1 211 (4 : Int32).toNatClampNeg))) + (2 : Int32)).toNatClampNeg v16
                      if am_inB (4 : Int32) 116 then
                        if am_inB (4 : Int32) 116 then
                          let I18 := am_u I17 211 (4 : Int32).toNatClampNeg ((I17 211 (4 : Int32).toNatClampNeg) + (1 : Int32))
                          some (none, (I18, M15.2))
                        else
                          none
                      else
                        none
                    else
                      none
                else
                  none
        else
          none
    else
      none
  else
    none
set_option maxRecDepth 100000 in
set_option maxHeartbeats 4000000 in
theorem e201 (z : Nat) : ∀ (M : aM) (r : aR), f201 z  M = some r → am_Ev 9 201 0 [some (.inr (.inr (11, 205))), none] [] M r := by
  intro  M r h
  exact am_Ev_seg (sem := am_s201_ z) (cut := ([] : List (Nat × List Bool))) (hs201 z) am_r201 am_k201 (by rw [am_l201]; decide) (fun _ _ _ _ => none) 65 h (fun _ _ _ _ hk => by cases hk)
def F201 (z : Nat) (as : List aV) (M : aM) : Option aR := match as with
  | [.inr (.inr (11, 205))] => f201 z  M
  | _ => none
theorem S201 (z : Nat) : am_Snd 9 201 (F201 z) := am_meth (by decide +kernel) (fun as M r has h => by
    rw [am_l201]
    unfold F201 at h
    split at h
    · exact ⟨Nat.le_of_ble_eq_true rfl, e201 z _ _ h⟩
    · cases h)
def cd202_0 : List am_E := [(0, .bipush 56, 2, 0, 0, 56, 0), (2, .iconst 3, 1, 0, 0, 3, 0), (3, .aload_n 0, 1, 0, 0, 0, 0), (4, .getfield 31, 3, 11, 14, 0, 0), (7, .iconst 5, 1, 0, 0, 5, 0), (8, .iaload, 1, 0, 0, 0, 0), (9, .imul, 1, 0, 0, 0, 0), (10, .iadd, 1, 0, 0, 0, 0), (11, .istore_n 1, 1, 1, 0, 0, 0), (12, .aload_n 0, 1, 0, 0, 0, 0), (13, .getfield 31, 3, 11, 14, 0, 0), (16, .iload_n 1, 1, 1, 0, 0, 0), (17, .aload_n 0, 1, 0, 0, 0, 0), (18, .iconst 0, 1, 0, 0, 0, 0), (19, .aload_n 0, 1, 0, 0, 0, 0), (20, .getfield 31, 3, 11, 14, 0, 0), (23, .iconst 3, 1, 0, 0, 3, 0), (24, .iaload, 1, 0, 0, 0, 0), (25, .iconst 1, 1, 0, 0, 1, 0), (26, .isub, 1, 0, 0, 0, 0), (27, .invokevirtual 194, 3, 197, 11020, 0, 0), (30, .iastore, 1, 0, 0, 0, 0), (31, .aload_n 0, 1, 0, 0, 0, 0), (32, .getfield 31, 3, 11, 14, 0, 0), (35, .iload_n 1, 1, 1, 0, 0, 0), (36, .iconst 1, 1, 0, 0, 1, 0), (37, .iadd, 1, 0, 0, 0, 0), (38, .aload_n 0, 1, 0, 0, 0, 0), (39, .ldc 214, 2, 10, 1, 0, 0), (41, .iconst 1, 1, 0, 0, 1, 0), (42, .bipush 90, 2, 0, 0, 90, 0), (44, .invokevirtual 200, 3, 198, 11030, 0, 0), (47, .iastore, 1, 0, 0, 0, 0), (48, .aload_n 0, 1, 0, 0, 0, 0), (49, .getfield 31, 3, 11, 14, 0, 0), (52, .iload_n 1, 1, 1, 0, 0, 0), (53, .iconst 2, 1, 0, 0, 2, 0), (54, .iadd, 1, 0, 0, 0, 0), (55, .aload_n 0, 1, 0, 0, 0, 0), (56, .ldc 216, 2, 11, 1, 0, 0)]
def cd202_1 : List am_E := [(58, .iconst 0, 1, 0, 0, 0, 0), (59, .bipush 11, 2, 0, 0, 11, 0), (61, .invokevirtual 200, 3, 198, 11030, 0, 0), (64, .iastore, 1, 0, 0, 0, 0), (65, .aload_n 0, 1, 0, 0, 0, 0), (66, .getfield 31, 3, 11, 14, 0, 0), (69, .iconst 5, 1, 0, 0, 5, 0), (70, .dup2, 1, 0, 0, 0, 0), (71, .iaload, 1, 0, 0, 0, 0), (72, .iconst 1, 1, 0, 0, 1, 0), (73, .iadd, 1, 0, 0, 0, 0), (74, .iastore, 1, 0, 0, 0, 0), (75, .return_, 1, 0, 0, 0, 0)]
def cd202 : List am_E := cd202_0 ++ (cd202_1)
def am_w202 : List (List (Int32 × Nat) × Nat) := []
set_option maxRecDepth 100000 in
theorem kcd202_0 : cd202_0.all (am_chk am_w202 202) = true := by decide +kernel
set_option maxRecDepth 100000 in
theorem kcd202_1 : cd202_1.all (am_chk am_w202 202) = true := by decide +kernel
theorem am_k202 : cd202.all (am_chk am_w202 202) = true := by
  simp only [cd202, List.all_append, kcd202_0, kcd202_1, Bool.and_self]
theorem am_r202 : am_rtc 202 = 4 := by decide +kernel
theorem am_l202 : am_ml 202 = 2 := by decide +kernel
def am_s202_ (z : Nat) : Nat → List aV → aM → Option aR := fun j => (match Nat.beq j 197 with
  | true => F197 z
  | false => (match Nat.beq j 198 with
  | true => F198 z
  | false => (fun _ _ => none)))
theorem hs202 (z : Nat) : ∀ j2 : Nat, ∃ d2 : Nat, d2 + 1 ≤ 9 ∧ am_Snd d2 j2 (am_s202_ z j2) := by
  intro j2
  unfold am_s202_
  split
  · rename_i he
    rw [am_beq he]
    exact ⟨_, by decide, S197 z⟩
  · skip
    split
    · rename_i he
      rw [am_beq he]
      exact ⟨_, by decide, S198 z⟩
    · skip
      exact ⟨0, by decide, am_Snd_no j2⟩
/-- ArgumentMenderModel.readQuarrel()V -/
def f202 (z : Nat) (M : aM) : Option aR :=
  if am_inB (5 : Int32) 116 then
    if am_inB (3 : Int32) 116 then
      am_bi (f197 z (0 : Int32) ((M.1 211 (3 : Int32).toNatClampNeg) - (1 : Int32)) M) fun v2 M1 =>
        if am_inB ((56 : Int32) + ((3 : Int32) * (M.1 211 (5 : Int32).toNatClampNeg))) 116 then
          let I3 := am_u M1.1 211 ((56 : Int32) + ((3 : Int32) * (M.1 211 (5 : Int32).toNatClampNeg))).toNatClampNeg v2
          am_bi (f198 z 5010 (1 : Int32) (90 : Int32) (I3, M1.2)) fun v5 M4 =>
            if am_inB (((56 : Int32) + ((3 : Int32) * (M.1 211 (5 : Int32).toNatClampNeg))) + (1 : Int32)) 116 then
              let I6 := am_u M4.1 211 (((56 : Int32) + ((3 : Int32) * (M.1 211 (5 : Int32).toNatClampNeg))) + (1 : Int32)).toNatClampNeg v5
              am_bi (f198 z 5011 (0 : Int32) (11 : Int32) (I6, M4.2)) fun v8 M7 =>
                if am_inB (((56 : Int32) + ((3 : Int32) * (M.1 211 (5 : Int32).toNatClampNeg))) + (2 : Int32)) 116 then
                  let I9 := am_u M7.1 211 (((56 : Int32) + ((3 : Int32) * (M.1 211 (5 : Int32).toNatClampNeg))) + (2 : Int32)).toNatClampNeg v8
                  if am_inB (5 : Int32) 116 then
                    if am_inB (5 : Int32) 116 then
                      let I10 := am_u I9 211 (5 : Int32).toNatClampNeg ((I9 211 (5 : Int32).toNatClampNeg) + (1 : Int32))
                      some (none, (I10, M7.2))
                    else
                      none
                  else
                    none
                else
                  none
            else
              none
        else
          none
    else
      none
  else
    none
set_option maxRecDepth 100000 in
set_option maxHeartbeats 4000000 in
theorem e202 (z : Nat) : ∀ (M : aM) (r : aR), f202 z  M = some r → am_Ev 9 202 0 [some (.inr (.inr (11, 205))), none] [] M r := by
  intro  M r h
  exact am_Ev_seg (sem := am_s202_ z) (cut := ([] : List (Nat × List Bool))) (hs202 z) am_r202 am_k202 (by rw [am_l202]; decide) (fun _ _ _ _ => none) 54 h (fun _ _ _ _ hk => by cases hk)
def F202 (z : Nat) (as : List aV) (M : aM) : Option aR := match as with
  | [.inr (.inr (11, 205))] => f202 z  M
  | _ => none
theorem S202 (z : Nat) : am_Snd 9 202 (F202 z) := am_meth (by decide +kernel) (fun as M r has h => by
    rw [am_l202]
    unfold F202 at h
    split at h
    · exact ⟨Nat.le_of_ble_eq_true rfl, e202 z _ _ h⟩
    · cases h)
def cd203_0 : List am_E := [(0, .aload_n 0, 1, 0, 0, 0, 0), (1, .ldc 217, 2, 4, 1, 0, 0), (3, .invokevirtual 176, 3, 194, 11010, 0, 0), (6, .ifCond .eq 14, 3, 20, 0, 0, 0), (9, .aload_n 0, 1, 0, 0, 0, 0), (10, .getfield 31, 3, 11, 14, 0, 0), (13, .iconst 3, 1, 0, 0, 3, 0), (14, .iaload, 1, 0, 0, 0, 0), (15, .bipush 8, 2, 0, 0, 8, 0), (17, .if_icmp .eq 23, 3, 40, 0, 0, 0), (20, .aload_n 0, 1, 0, 0, 0, 0), (21, .ldc 219, 2, 5, 1, 0, 0), (23, .invokevirtual 176, 3, 194, 11010, 0, 0), (26, .ifCond .eq 16, 3, 42, 0, 0, 0), (29, .aload_n 0, 1, 0, 0, 0, 0), (30, .getfield 31, 3, 11, 14, 0, 0), (33, .iconst 4, 1, 0, 0, 4, 0), (34, .iaload, 1, 0, 0, 0, 0), (35, .bipush 16, 2, 0, 0, 16, 0), (37, .if_icmp .ne 5, 3, 42, 0, 0, 0), (40, .iconst 1, 1, 0, 0, 1, 0), (41, .ireturn, 1, 0, 0, 0, 0), (42, .aload_n 0, 1, 0, 0, 0, 0), (43, .ldc 221, 2, 9, 1, 0, 0), (45, .invokevirtual 176, 3, 194, 11010, 0, 0), (48, .ifCond .eq 18, 3, 66, 0, 0, 0), (51, .aload_n 0, 1, 0, 0, 0, 0), (52, .getfield 31, 3, 11, 14, 0, 0), (55, .iconst 5, 1, 0, 0, 5, 0), (56, .iaload, 1, 0, 0, 0, 0), (57, .bipush 10, 2, 0, 0, 10, 0), (59, .if_icmp .ne 7, 3, 66, 0, 0, 0), (62, .iconst 1, 1, 0, 0, 1, 0), (63, .goto 4, 3, 67, 0, 0, 0), (66, .iconst 0, 1, 0, 0, 0, 0), (67, .ireturn, 1, 0, 0, 0, 0)]
def cd203 : List am_E := cd203_0
def am_w203 : List (List (Int32 × Nat) × Nat) := []
set_option maxRecDepth 100000 in
theorem kcd203_0 : cd203_0.all (am_chk am_w203 203) = true := by decide +kernel
theorem am_k203 : cd203.all (am_chk am_w203 203) = true := by
  simp only [cd203, List.all_append, kcd203_0, Bool.and_self]
theorem am_r203 : am_rtc 203 = 1 := by decide +kernel
theorem am_l203 : am_ml 203 = 1 := by decide +kernel
def am_s203_ (z : Nat) : Nat → List aV → aM → Option aR := fun j => (match Nat.beq j 194 with
  | true => F194 z
  | false => (fun _ _ => none))
theorem hs203 (z : Nat) : ∀ j2 : Nat, ∃ d2 : Nat, d2 + 1 ≤ 6 ∧ am_Snd d2 j2 (am_s203_ z j2) := by
  intro j2
  unfold am_s203_
  split
  · rename_i he
    rw [am_beq he]
    exact ⟨_, by decide, S194 z⟩
  · skip
    exact ⟨0, by decide, am_Snd_no j2⟩
def f203_20 (z : Nat)  (M : aM) : Option aR :=
  am_bi (f194 z 5005 M) fun v2 M1 =>
    if v2 = 0 then
      am_bi (f194 z 5009 M1) fun v4 M3 =>
        if v4 = 0 then
          some (some (.inl ((0 : Int32) &&& 1)), M3)
        else
          if am_inB (5 : Int32) 116 then
            if ¬ (M3.1 211 (5 : Int32).toNatClampNeg) = (10 : Int32) then
              some (some (.inl ((0 : Int32) &&& 1)), M3)
            else
              some (some (.inl ((1 : Int32) &&& 1)), M3)
          else
            none
    else
      if am_inB (4 : Int32) 116 then
        if ¬ (M1.1 211 (4 : Int32).toNatClampNeg) = (16 : Int32) then
          am_bi (f194 z 5009 M1) fun v6 M5 =>
            if v6 = 0 then
              some (some (.inl ((0 : Int32) &&& 1)), M5)
            else
              if am_inB (5 : Int32) 116 then
                if ¬ (M5.1 211 (5 : Int32).toNatClampNeg) = (10 : Int32) then
                  some (some (.inl ((0 : Int32) &&& 1)), M5)
                else
                  some (some (.inl ((1 : Int32) &&& 1)), M5)
              else
                none
        else
          some (some (.inl ((1 : Int32) &&& 1)), M1)
      else
        none
set_option maxRecDepth 100000 in
set_option maxHeartbeats 4000000 in
theorem e203_20 (z : Nat) : ∀ (M : aM) (r : aR), f203_20 z  M = some r → am_Ev 6 203 20 [some (.inr (.inr (11, 205)))] [] M r := by
  intro  M r h
  exact am_Ev_seg (sem := am_s203_ z) (cut := ([] : List (Nat × List Bool))) (hs203 z) am_r203 am_k203 (by rw [am_l203]; decide) (fun _ _ _ _ => none) 24 h (fun _ _ _ _ hk => by cases hk)
/-- ArgumentMenderModel.isFull()Z -/
def f203 (z : Nat) (M : aM) : Option aR :=
  am_bi (f194 z 5004 M) fun v2 M1 =>
    if v2 = 0 then
      f203_20 z M1
    else
      if am_inB (3 : Int32) 116 then
        if (M1.1 211 (3 : Int32).toNatClampNeg) = (8 : Int32) then
          some (some (.inl ((1 : Int32) &&& 1)), M1)
        else
          f203_20 z M1
      else
        none
set_option maxRecDepth 100000 in
set_option maxHeartbeats 4000000 in
theorem e203 (z : Nat) : ∀ (M : aM) (r : aR), f203 z  M = some r → am_Ev 6 203 0 [some (.inr (.inr (11, 205)))] [] M r := by
  intro  M r h
  exact am_Ev_seg (sem := am_s203_ z) (cut := ([(20, [true])] : List (Nat × List Bool))) (hs203 z) am_r203 am_k203 (by rw [am_l203]; decide) (fun pc al st M => (match Nat.beq pc 20 with
      | true => (match al, st with
        | [some (.inr (.inr (11, 205)))], [] => f203_20 z  M
        | _, _ => none)
      | false => none)) 13 h (fun pc al st M hk => by
      try dsimp only at hk
      split at hk
      · rename_i he
        rw [am_beq he]
        split at hk
        · exact e203_20 z _ _ hk
        · cases hk
      · cases hk)
def F203 (z : Nat) (as : List aV) (M : aM) : Option aR := match as with
  | [.inr (.inr (11, 205))] => f203 z  M
  | _ => none
theorem S203 (z : Nat) : am_Snd 6 203 (F203 z) := am_meth (by decide +kernel) (fun as M r has h => by
    rw [am_l203]
    unfold F203 at h
    split at h
    · exact ⟨Nat.le_of_ble_eq_true rfl, e203 z _ _ h⟩
    · cases h)
def cd204_0 : List am_E := [(0, .aload_n 0, 1, 0, 0, 0, 0), (1, .ldc 217, 2, 4, 1, 0, 0), (3, .invokevirtual 176, 3, 194, 11010, 0, 0), (6, .ifCond .ne 21, 3, 27, 0, 0, 0), (9, .aload_n 0, 1, 0, 0, 0, 0), (10, .ldc 219, 2, 5, 1, 0, 0), (12, .invokevirtual 176, 3, 194, 11010, 0, 0), (15, .ifCond .ne 12, 3, 27, 0, 0, 0), (18, .aload_n 0, 1, 0, 0, 0, 0), (19, .ldc 221, 2, 9, 1, 0, 0), (21, .invokevirtual 176, 3, 194, 11010, 0, 0), (24, .ifCond .eq 7, 3, 31, 0, 0, 0), (27, .iconst 1, 1, 0, 0, 1, 0), (28, .goto 4, 3, 32, 0, 0, 0), (31, .iconst 0, 1, 0, 0, 0, 0), (32, .istore_n 1, 1, 1, 0, 0, 0), (33, .iload_n 1, 1, 1, 0, 0, 0), (34, .ifCond .ne 8, 3, 42, 0, 0, 0), (37, .aload_n 0, 1, 0, 0, 0, 0), (38, .iconst 1, 1, 0, 0, 1, 0), (39, .invokevirtual 186, 3, 193, 11014, 0, 0), (42, .aload_n 0, 1, 0, 0, 0, 0), (43, .invokevirtual 223, 3, 203, 11000, 0, 0), (46, .ifCond .eq 8, 3, 54, 0, 0, 0), (49, .aload_n 0, 1, 0, 0, 0, 0), (50, .iconst 3, 1, 0, 0, 3, 0), (51, .invokevirtual 186, 3, 193, 11014, 0, 0), (54, .aload_n 0, 1, 0, 0, 0, 0), (55, .invokevirtual 164, 3, 192, 11000, 0, 0), (58, .ifCond .ne 4, 3, 62, 0, 0, 0), (61, .return_, 1, 0, 0, 0, 0), (62, .aload_n 0, 1, 0, 0, 0, 0), (63, .ldc 217, 2, 4, 1, 0, 0), (65, .invokevirtual 183, 3, 195, 11010, 0, 0), (68, .ifCond .eq 16, 3, 84, 0, 0, 0), (71, .aload_n 0, 1, 0, 0, 0, 0), (72, .getfield 31, 3, 11, 14, 0, 0), (75, .iconst 3, 1, 0, 0, 3, 0), (76, .dup2, 1, 0, 0, 0, 0), (77, .iaload, 1, 0, 0, 0, 0)]
def cd204_1 : List am_E := [(78, .iconst 1, 1, 0, 0, 1, 0), (79, .iadd, 1, 0, 0, 0, 0), (80, .iastore, 1, 0, 0, 0, 0), (81, .goto 27, 3, 108, 0, 0, 0), (84, .aload_n 0, 1, 0, 0, 0, 0), (85, .ldc 219, 2, 5, 1, 0, 0), (87, .invokevirtual 183, 3, 195, 11010, 0, 0), (90, .ifCond .eq 10, 3, 100, 0, 0, 0), (93, .aload_n 0, 1, 0, 0, 0, 0), (94, .invokevirtual 226, 3, 201, 11004, 0, 0), (97, .goto 11, 3, 108, 0, 0, 0), (100, .aload_n 0, 1, 0, 0, 0, 0), (101, .invokevirtual 180, 3, 191, 11004, 0, 0), (104, .aload_n 0, 1, 0, 0, 0, 0), (105, .invokevirtual 229, 3, 202, 11004, 0, 0), (108, .return_, 1, 0, 0, 0, 0)]
def cd204 : List am_E := cd204_0 ++ (cd204_1)
def am_w204 : List (List (Int32 × Nat) × Nat) := []
set_option maxRecDepth 100000 in
theorem kcd204_0 : cd204_0.all (am_chk am_w204 204) = true := by decide +kernel
set_option maxRecDepth 100000 in
theorem kcd204_1 : cd204_1.all (am_chk am_w204 204) = true := by decide +kernel
theorem am_k204 : cd204.all (am_chk am_w204 204) = true := by
  simp only [cd204, List.all_append, kcd204_0, kcd204_1, Bool.and_self]
theorem am_r204 : am_rtc 204 = 4 := by decide +kernel
theorem am_l204 : am_ml 204 = 2 := by decide +kernel
def am_s204_ (z : Nat) : Nat → List aV → aM → Option aR := fun j => (match Nat.beq j 191 with
  | true => F191 z
  | false => (match Nat.beq j 192 with
  | true => F192 z
  | false => (match Nat.beq j 193 with
  | true => F193 z
  | false => (match Nat.beq j 194 with
  | true => F194 z
  | false => (match Nat.beq j 195 with
  | true => F195 z
  | false => (match Nat.beq j 201 with
  | true => F201 z
  | false => (match Nat.beq j 202 with
  | true => F202 z
  | false => (match Nat.beq j 203 with
  | true => F203 z
  | false => (fun _ _ => none)))))))))
theorem hs204 (z : Nat) : ∀ j2 : Nat, ∃ d2 : Nat, d2 + 1 ≤ 10 ∧ am_Snd d2 j2 (am_s204_ z j2) := by
  intro j2
  unfold am_s204_
  split
  · rename_i he
    rw [am_beq he]
    exact ⟨_, by decide, S191 z⟩
  · skip
    split
    · rename_i he
      rw [am_beq he]
      exact ⟨_, by decide, S192 z⟩
    · skip
      split
      · rename_i he
        rw [am_beq he]
        exact ⟨_, by decide, S193 z⟩
      · skip
        split
        · rename_i he
          rw [am_beq he]
          exact ⟨_, by decide, S194 z⟩
        · skip
          split
          · rename_i he
            rw [am_beq he]
            exact ⟨_, by decide, S195 z⟩
          · skip
            split
            · rename_i he
              rw [am_beq he]
              exact ⟨_, by decide, S201 z⟩
            · skip
              split
              · rename_i he
                rw [am_beq he]
                exact ⟨_, by decide, S202 z⟩
              · skip
                split
                · rename_i he
                  rw [am_beq he]
                  exact ⟨_, by decide, S203 z⟩
                · skip
                  exact ⟨0, by decide, am_Snd_no j2⟩
def f204_42 (z : Nat)  (M : aM) : Option aR :=
  am_bi (f203 z M) fun v2 M1 =>
    if v2 = 0 then
      am_bi (f192 z M1) fun v4 M3 =>
        if ¬ v4 = 0 then
          am_bi (f195 z 5004 M3) fun v6 M5 =>
            if v6 = 0 then
              am_bi (f195 z 5005 M5) fun v8 M7 =>
                if v8 = 0 then
                  am_bv (f191 z M7) fun M9 =>
                    am_bv (f202 z M9) fun M10 =>
                      some (none, M10)
                else
                  am_bv (f201 z M7) fun M11 =>
                    some (none, M11)
            else
              if am_inB (3 : Int32) 116 then
                if am_inB (3 : Int32) 116 then
                  let I12 := am_u M5.1 211 (3 : Int32).toNatClampNeg ((M5.1 211 (3 : Int32).toNatClampNeg) + (1 : Int32))
                  some (none, (I12, M5.2))
                else
                  none
              else
                none
        else
          some (none, M3)
    else
      am_bv (f193 z (3 : Int32) M1) fun M13 =>
        am_bi (f192 z M13) fun v15 M14 =>
          if ¬ v15 = 0 then
            am_bi (f195 z 5004 M14) fun v17 M16 =>
              if v17 = 0 then
                am_bi (f195 z 5005 M16) fun v19 M18 =>
                  if v19 = 0 then
                    am_bv (f191 z M18) fun M20 =>
                      am_bv (f202 z M20) fun M21 =>
                        some (none, M21)
                  else
                    am_bv (f201 z M18) fun M22 =>
                      some (none, M22)
              else
                if am_inB (3 : Int32) 116 then
                  if am_inB (3 : Int32) 116 then
                    let I23 := am_u M16.1 211 (3 : Int32).toNatClampNeg ((M16.1 211 (3 : Int32).toNatClampNeg) + (1 : Int32))
                    some (none, (I23, M16.2))
                  else
                    none
                else
                  none
          else
            some (none, M14)
set_option maxRecDepth 100000 in
set_option maxHeartbeats 4000000 in
theorem e204_42 (z : Nat) : ∀ (M : aM) (r : aR), f204_42 z  M = some r → am_Ev 10 204 42 [some (.inr (.inr (11, 205))), none] [] M r := by
  intro  M r h
  exact am_Ev_seg (sem := am_s204_ z) (cut := ([] : List (Nat × List Bool))) (hs204 z) am_r204 am_k204 (by rw [am_l204]; decide) (fun _ _ _ _ => none) 24 h (fun _ _ _ _ hk => by cases hk)
/-- ArgumentMenderModel.readNext()V -/
def f204 (z : Nat) (M : aM) : Option aR :=
  am_bi (f194 z 5004 M) fun v2 M1 =>
    if ¬ v2 = 0 then
      if ¬ (1 : Int32) = 0 then
        f204_42 z M1
      else
        am_bv (f193 z (1 : Int32) M1) fun M3 =>
          f204_42 z M3
    else
      am_bi (f194 z 5005 M1) fun v5 M4 =>
        if ¬ v5 = 0 then
          if ¬ (1 : Int32) = 0 then
            f204_42 z M4
          else
            am_bv (f193 z (1 : Int32) M4) fun M6 =>
              f204_42 z M6
        else
          am_bi (f194 z 5009 M4) fun v8 M7 =>
            if v8 = 0 then
              if ¬ (0 : Int32) = 0 then
                f204_42 z M7
              else
                am_bv (f193 z (1 : Int32) M7) fun M9 =>
                  f204_42 z M9
            else
              if ¬ (1 : Int32) = 0 then
                f204_42 z M7
              else
                am_bv (f193 z (1 : Int32) M7) fun M10 =>
                  f204_42 z M10
set_option maxRecDepth 100000 in
set_option maxHeartbeats 4000000 in
theorem e204 (z : Nat) : ∀ (M : aM) (r : aR), f204 z  M = some r → am_Ev 10 204 0 [some (.inr (.inr (11, 205))), none] [] M r := by
  intro  M r h
  exact am_Ev_seg (sem := am_s204_ z) (cut := ([(42, [true, false])] : List (Nat × List Bool))) (hs204 z) am_r204 am_k204 (by rw [am_l204]; decide) (fun pc al st M => (match Nat.beq pc 42 with
      | true => (match al, st with
        | [some (.inr (.inr (11, 205))), none], [] => f204_42 z  M
        | _, _ => none)
      | false => none)) 22 h (fun pc al st M hk => by
      try dsimp only at hk
      split at hk
      · rename_i he
        rw [am_beq he]
        split at hk
        · exact e204_42 z _ _ hk
        · cases hk
      · cases hk)
def F204 (z : Nat) (as : List aV) (M : aM) : Option aR := match as with
  | [.inr (.inr (11, 205))] => f204 z  M
  | _ => none
theorem S204 (z : Nat) : am_Snd 10 204 (F204 z) := am_meth (by decide +kernel) (fun as M r has h => by
    rw [am_l204]
    unfold F204 at h
    split at h
    · exact ⟨Nat.le_of_ble_eq_true rfl, e204 z _ _ h⟩
    · cases h)
