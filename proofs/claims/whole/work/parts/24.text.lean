def cd205_0 : List am_E := [(0, .aload_n 0, 1, 0, 0, 0, 0), (1, .getfield 31, 3, 11, 14, 0, 0), (4, .bipush 7, 2, 0, 0, 7, 0), (6, .iaload, 1, 0, 0, 0, 0), (7, .ifCond .ne 10, 3, 17, 0, 0, 0), (10, .aload_n 0, 1, 0, 0, 0, 0), (11, .invokevirtual 232, 3, 200, 11004, 0, 0), (14, .goto 7, 3, 21, 0, 0, 0), (17, .aload_n 0, 1, 0, 0, 0, 0), (18, .invokevirtual 235, 3, 204, 11004, 0, 0), (21, .aload_n 0, 1, 0, 0, 0, 0), (22, .invokevirtual 164, 3, 192, 11000, 0, 0), (25, .ifCond .eq 16, 3, 41, 0, 0, 0), (28, .aload_n 0, 1, 0, 0, 0, 0), (29, .getfield 140, 3, 11, 10, 0, 0), (32, .iconst 3, 1, 0, 0, 3, 0), (33, .if_icmp .eq 8, 3, 41, 0, 0, 0), (36, .aload_n 0, 1, 0, 0, 0, 0), (37, .iconst 1, 1, 0, 0, 1, 0), (38, .invokevirtual 186, 3, 193, 11014, 0, 0), (41, .aload_n 0, 1, 0, 0, 0, 0), (42, .invokevirtual 164, 3, 192, 11000, 0, 0), (45, .ifCond .eq 7, 3, 52, 0, 0, 0), (48, .aload_n 0, 1, 0, 0, 0, 0), (49, .invokevirtual 180, 3, 191, 11004, 0, 0), (52, .aload_n 0, 1, 0, 0, 0, 0), (53, .getfield 31, 3, 11, 14, 0, 0), (56, .bipush 7, 2, 0, 0, 7, 0), (58, .dup2, 1, 0, 0, 0, 0), (59, .iaload, 1, 0, 0, 0, 0), (60, .iconst 1, 1, 0, 0, 1, 0), (61, .iadd, 1, 0, 0, 0, 0), (62, .iastore, 1, 0, 0, 0, 0), (63, .return_, 1, 0, 0, 0, 0)]
def cd205 : List am_E := cd205_0
def am_w205 : List (List (Int32 × Nat) × Nat) := []
set_option maxRecDepth 100000 in
theorem kcd205_0 : cd205_0.all (am_chk am_w205 205) = true := by decide +kernel
theorem am_k205 : cd205.all (am_chk am_w205 205) = true := by
  simp only [cd205, List.all_append, kcd205_0, Bool.and_self]
theorem am_r205 : am_rtc 205 = 4 := by decide +kernel
theorem am_l205 : am_ml 205 = 1 := by decide +kernel
def am_s205_ (z : Nat) : Nat → List aV → aM → Option aR := fun j => (match Nat.beq j 191 with
  | true => F191 z
  | false => (match Nat.beq j 192 with
  | true => F192 z
  | false => (match Nat.beq j 193 with
  | true => F193 z
  | false => (match Nat.beq j 200 with
  | true => F200 z
  | false => (match Nat.beq j 204 with
  | true => F204 z
  | false => (fun _ _ => none))))))
theorem hs205 (z : Nat) : ∀ j2 : Nat, ∃ d2 : Nat, d2 + 1 ≤ 11 ∧ am_Snd d2 j2 (am_s205_ z j2) := by
  intro j2
  unfold am_s205_
  split
  · rename_i he
    rw [am_beq he]
    exact ⟨_, by decide, S191 z⟩
  · skip
    split
    · rename_i he
      rw [am_beq he]
      exact ⟨_, by decide, S192 z⟩
    · skip
      split
      · rename_i he
        rw [am_beq he]
        exact ⟨_, by decide, S193 z⟩
      · skip
        split
        · rename_i he
          rw [am_beq he]
          exact ⟨_, by decide, S200 z⟩
        · skip
          split
          · rename_i he
            rw [am_beq he]
            exact ⟨_, by decide, S204 z⟩
          · skip
            exact ⟨0, by decide, am_Snd_no j2⟩
/-- ArgumentMenderModel.readLine()V -/
def f205 (z : Nat) (M : aM) : Option aR :=
  if am_inB (7 : Int32) 116 then
    if ¬ (M.1 211 (7 : Int32).toNatClampNeg) = 0 then
      am_bv (f204 z M) fun M1 =>
        am_bi (f192 z M1) fun v3 M2 =>
          if v3 = 0 then
            am_bi (f192 z M2) fun v5 M4 =>
              if v5 = 0 then
                if am_inB (7 : Int32) 116 then
                  if am_inB (7 : Int32) 116 then
                    let I6 := am_u M4.1 211 (7 : Int32).toNatClampNeg ((M4.1 211 (7 : Int32).toNatClampNeg) + (1 : Int32))
                    some (none, (I6, M4.2))
                  else
                    none
                else
                  none
              else
                am_bv (f191 z M4) fun M7 =>
                  if am_inB (7 : Int32) 116 then
                    if am_inB (7 : Int32) 116 then
                      let I8 := am_u M7.1 211 (7 : Int32).toNatClampNeg ((M7.1 211 (7 : Int32).toNatClampNeg) + (1 : Int32))
                      some (none, (I8, M7.2))
                    else
                      none
                  else
                    none
          else
            if (M2.1 205 10) = (3 : Int32) then
              am_bi (f192 z M2) fun v10 M9 =>
                if v10 = 0 then
                  if am_inB (7 : Int32) 116 then
                    if am_inB (7 : Int32) 116 then
                      let I11 := am_u M9.1 211 (7 : Int32).toNatClampNeg ((M9.1 211 (7 : Int32).toNatClampNeg) + (1 : Int32))
                      some (none, (I11, M9.2))
                    else
                      none
                  else
                    none
                else
                  am_bv (f191 z M9) fun M12 =>
                    if am_inB (7 : Int32) 116 then
                      if am_inB (7 : Int32) 116 then
                        let I13 := am_u M12.1 211 (7 : Int32).toNatClampNeg ((M12.1 211 (7 : Int32).toNatClampNeg) + (1 : Int32))
                        some (none, (I13, M12.2))
                      else
                        none
                    else
                      none
            else
              am_bv (f193 z (1 : Int32) M2) fun M14 =>
                am_bi (f192 z M14) fun v16 M15 =>
                  if v16 = 0 then
                    if am_inB (7 : Int32) 116 then
                      if am_inB (7 : Int32) 116 then
                        let I17 := am_u M15.1 211 (7 : Int32).toNatClampNeg ((M15.1 211 (7 : Int32).toNatClampNeg) + (1 : Int32))
                        some (none, (I17, M15.2))
                      else
                        none
                    else
                      none
                  else
                    am_bv (f191 z M15) fun M18 =>
                      if am_inB (7 : Int32) 116 then
                        if am_inB (7 : Int32) 116 then
                          let I19 := am_u M18.1 211 (7 : Int32).toNatClampNeg ((M18.1 211 (7 : Int32).toNatClampNeg) + (1 : Int32))
                          some (none, (I19, M18.2))
                        else
                          none
                      else
                        none
    else
      am_bv (f200 z M) fun M20 =>
        am_bi (f192 z M20) fun v22 M21 =>
          if v22 = 0 then
            am_bi (f192 z M21) fun v24 M23 =>
              if v24 = 0 then
                if am_inB (7 : Int32) 116 then
                  if am_inB (7 : Int32) 116 then
                    let I25 := am_u M23.1 211 (7 : Int32).toNatClampNeg ((M23.1 211 (7 : Int32).toNatClampNeg) + (1 : Int32))
                    some (none, (I25, M23.2))
                  else
                    none
                else
                  none
              else
                am_bv (f191 z M23) fun M26 =>
                  if am_inB (7 : Int32) 116 then
                    if am_inB (7 : Int32) 116 then
                      let I27 := am_u M26.1 211 (7 : Int32).toNatClampNeg ((M26.1 211 (7 : Int32).toNatClampNeg) + (1 : Int32))
                      some (none, (I27, M26.2))
                    else
                      none
                  else
                    none
          else
            if (M21.1 205 10) = (3 : Int32) then
              am_bi (f192 z M21) fun v29 M28 =>
                if v29 = 0 then
                  if am_inB (7 : Int32) 116 then
                    if am_inB (7 : Int32) 116 then
                      let I30 := am_u M28.1 211 (7 : Int32).toNatClampNeg ((M28.1 211 (7 : Int32).toNatClampNeg) + (1 : Int32))
                      some (none, (I30, M28.2))
                    else
                      none
                  else
                    none
                else
                  am_bv (f191 z M28) fun M31 =>
                    if am_inB (7 : Int32) 116 then
                      if am_inB (7 : Int32) 116 then
                        let I32 := am_u M31.1 211 (7 : Int32).toNatClampNeg ((M31.1 211 (7 : Int32).toNatClampNeg) + (1 : Int32))
                        some (none, (I32, M31.2))
                      else
                        none
                    else
                      none
            else
              am_bv (f193 z (1 : Int32) M21) fun M33 =>
                am_bi (f192 z M33) fun v35 M34 =>
                  if v35 = 0 then
                    if am_inB (7 : Int32) 116 then
                      if am_inB (7 : Int32) 116 then
                        let I36 := am_u M34.1 211 (7 : Int32).toNatClampNeg ((M34.1 211 (7 : Int32).toNatClampNeg) + (1 : Int32))
                        some (none, (I36, M34.2))
                      else
                        none
                    else
                      none
                  else
                    am_bv (f191 z M34) fun M37 =>
                      if am_inB (7 : Int32) 116 then
                        if am_inB (7 : Int32) 116 then
                          let I38 := am_u M37.1 211 (7 : Int32).toNatClampNeg ((M37.1 211 (7 : Int32).toNatClampNeg) + (1 : Int32))
                          some (none, (I38, M37.2))
                        else
                          none
                      else
                        none
  else
    none
set_option maxRecDepth 100000 in
set_option maxHeartbeats 4000000 in
theorem e205 (z : Nat) : ∀ (M : aM) (r : aR), f205 z  M = some r → am_Ev 11 205 0 [some (.inr (.inr (11, 205)))] [] M r := by
  intro  M r h
  exact am_Ev_seg (sem := am_s205_ z) (cut := ([] : List (Nat × List Bool))) (hs205 z) am_r205 am_k205 (by rw [am_l205]; decide) (fun _ _ _ _ => none) 33 h (fun _ _ _ _ hk => by cases hk)
def F205 (z : Nat) (as : List aV) (M : aM) : Option aR := match as with
  | [.inr (.inr (11, 205))] => f205 z  M
  | _ => none
theorem S205 (z : Nat) : am_Snd 11 205 (F205 z) := am_meth (by decide +kernel) (fun as M r has h => by
    rw [am_l205]
    unfold F205 at h
    split at h
    · exact ⟨Nat.le_of_ble_eq_true rfl, e205 z _ _ h⟩
    · cases h)
def cd206_0 : List am_E := [(0, .aload_n 0, 1, 0, 0, 0, 0), (1, .aload_n 0, 1, 0, 0, 0, 0), (2, .getfield 124, 3, 11, 5, 0, 0), (5, .putfield 127, 3, 11, 7, 0, 0), (8, .aload_n 0, 1, 0, 0, 0, 0), (9, .iconst 0, 1, 0, 0, 0, 0), (10, .putfield 124, 3, 11, 5, 0, 0), (13, .aload_n 0, 1, 0, 0, 0, 0), (14, .iconst 0, 1, 0, 0, 0, 0), (15, .putfield 130, 3, 11, 8, 0, 0), (18, .aload_n 0, 1, 0, 0, 0, 0), (19, .iconst 0, 1, 0, 0, 0, 0), (20, .putfield 161, 3, 11, 12, 0, 0), (23, .aload_n 0, 1, 0, 0, 0, 0), (24, .iconst (-1), 1, 0, 0, (-1), 0), (25, .putfield 27, 3, 11, 13, 0, 0), (28, .iconst 0, 1, 0, 0, 0, 0), (29, .istore_n 1, 1, 1, 0, 0, 0), (30, .iload_n 1, 1, 1, 0, 0, 0), (31, .bipush 116, 2, 0, 0, 116, 0), (33, .if_icmp .ge 16, 3, 49, 0, 0, 0), (36, .aload_n 0, 1, 0, 0, 0, 0), (37, .getfield 31, 3, 11, 14, 0, 0), (40, .iload_n 1, 1, 1, 0, 0, 0), (41, .iconst 0, 1, 0, 0, 0, 0), (42, .iastore, 1, 0, 0, 0, 0), (43, .iinc 1 1, 3, 1, 0, 1, 0), (46, .goto (-16), 3, 30, 0, 0, 0), (49, .aload_n 0, 1, 0, 0, 0, 0), (50, .invokevirtual 180, 3, 191, 11004, 0, 0), (53, .aload_n 0, 1, 0, 0, 0, 0), (54, .invokevirtual 164, 3, 192, 11000, 0, 0), (57, .ifCond .eq 17, 3, 74, 0, 0, 0), (60, .aload_n 0, 1, 0, 0, 0, 0), (61, .getfield 140, 3, 11, 10, 0, 0), (64, .ifCond .eq 10, 3, 74, 0, 0, 0), (67, .aload_n 0, 1, 0, 0, 0, 0), (68, .invokevirtual 238, 3, 205, 11004, 0, 0), (71, .goto (-18), 3, 53, 0, 0, 0), (74, .aload_n 0, 1, 0, 0, 0, 0)]
def cd206_1 : List am_E := [(75, .invokevirtual 164, 3, 192, 11000, 0, 0), (78, .ifCond .ne 6, 3, 84, 0, 0, 0), (81, .bipush (-4), 2, 0, 0, (-4), 0), (83, .ireturn, 1, 0, 0, 0, 0), (84, .iconst 0, 1, 0, 0, 0, 0), (85, .istore_n 1, 1, 1, 0, 0, 0), (86, .iload_n 1, 1, 1, 0, 0, 0), (87, .bipush 116, 2, 0, 0, 116, 0), (89, .if_icmp .ge 21, 3, 110, 0, 0, 0), (92, .aload_n 0, 1, 0, 0, 0, 0), (93, .getfield 9, 3, 11, 1, 0, 0), (96, .iload_n 1, 1, 1, 0, 0, 0), (97, .aload_n 0, 1, 0, 0, 0, 0), (98, .getfield 31, 3, 11, 14, 0, 0), (101, .iload_n 1, 1, 1, 0, 0, 0), (102, .iaload, 1, 0, 0, 0, 0), (103, .iastore, 1, 0, 0, 0, 0), (104, .iinc 1 1, 3, 1, 0, 1, 0), (107, .goto (-21), 3, 86, 0, 0, 0), (110, .aload_n 0, 1, 0, 0, 0, 0), (111, .getfield 9, 3, 11, 1, 0, 0), (114, .bipush 7, 2, 0, 0, 7, 0), (116, .iaload, 1, 0, 0, 0, 0), (117, .ireturn, 1, 0, 0, 0, 0)]
def cd206 : List am_E := cd206_0 ++ (cd206_1)
def am_w206 : List (List (Int32 × Nat) × Nat) := []
set_option maxRecDepth 100000 in
theorem kcd206_0 : cd206_0.all (am_chk am_w206 206) = true := by decide +kernel
set_option maxRecDepth 100000 in
theorem kcd206_1 : cd206_1.all (am_chk am_w206 206) = true := by decide +kernel
theorem am_k206 : cd206.all (am_chk am_w206 206) = true := by
  simp only [cd206, List.all_append, kcd206_0, kcd206_1, Bool.and_self]
theorem am_r206 : am_rtc 206 = 0 := by decide +kernel
theorem am_l206 : am_ml 206 = 2 := by decide +kernel
def am_s206_ (z : Nat) : Nat → List aV → aM → Option aR := fun j => (match Nat.beq j 191 with
  | true => F191 z
  | false => (match Nat.beq j 192 with
  | true => F192 z
  | false => (match Nat.beq j 205 with
  | true => F205 z
  | false => (fun _ _ => none))))
theorem hs206 (z : Nat) : ∀ j2 : Nat, ∃ d2 : Nat, d2 + 1 ≤ 12 ∧ am_Snd d2 j2 (am_s206_ z j2) := by
  intro j2
  unfold am_s206_
  split
  · rename_i he
    rw [am_beq he]
    exact ⟨_, by decide, S191 z⟩
  · skip
    split
    · rename_i he
      rw [am_beq he]
      exact ⟨_, by decide, S192 z⟩
    · skip
      split
      · rename_i he
        rw [am_beq he]
        exact ⟨_, by decide, S205 z⟩
      · skip
        exact ⟨0, by decide, am_Snd_no j2⟩
def f206_86 (z : Nat) : Nat → Int32 → aM → Option aR
  | 0, _, _ => none
  | n + 1, x1, M =>
    if (116 : Int32) ≤ x1 then
      if am_inB (7 : Int32) 116 then
        some (some (.inl (M.1 206 (7 : Int32).toNatClampNeg)), M)
      else
        none
    else
      if am_inB x1 116 then
        if am_inB x1 116 then
          let I1 := am_u M.1 206 x1.toNatClampNeg (M.1 211 x1.toNatClampNeg)
          f206_86 z n (x1 + (1 : Int32)) (I1, M.2)
        else
          none
      else
        none
set_option maxRecDepth 100000 in
set_option maxHeartbeats 4000000 in
theorem e206_86 (z : Nat) : ∀ (n : Nat) (x1 : Int32) (M : aM) (r : aR), f206_86 z n x1 M = some r → am_Ev 12 206 86 [some (.inr (.inr (11, 205))), some (.inl x1)] [] M r := by
  intro n
  induction n with
  | zero =>
    intro x1 M r h
    cases h
  | succ n ih =>
    intro x1 M r h
    exact am_Ev_seg (sem := am_s206_ z) (cut := ([(86, [true, true])] : List (Nat × List Bool))) (hs206 z) am_r206 am_k206 (by rw [am_l206]; decide) (fun pc al st M => (match Nat.beq pc 86 with
      | true => (match al, st with
        | [some (.inr (.inr (11, 205))), some (.inl x1)], [] => f206_86 z n x1 M
        | _, _ => none)
      | false => none)) 15 h (fun pc al st M hk => by
      try dsimp only at hk
      split at hk
      · rename_i he
        rw [am_beq he]
        split at hk
        · exact ih _ _ _ hk
        · cases hk
      · cases hk)
def f206_53 (z : Nat) : Nat → aM → Option aR
  | 0, _ => none
  | n + 1, M =>
    am_bi (f192 z M) fun v2 M1 =>
      if v2 = 0 then
        am_bi (f192 z M1) fun v4 M3 =>
          if ¬ v4 = 0 then
            f206_86 z z (0 : Int32) M3
          else
            some (some (.inl (-4 : Int32)), M3)
      else
        if (M1.1 205 10) = 0 then
          am_bi (f192 z M1) fun v6 M5 =>
            if ¬ v6 = 0 then
              f206_86 z z (0 : Int32) M5
            else
              some (some (.inl (-4 : Int32)), M5)
        else
          am_bv (f205 z M1) fun M7 =>
            f206_53 z n M7
set_option maxRecDepth 100000 in
set_option maxHeartbeats 4000000 in
theorem e206_53 (z : Nat) : ∀ (n : Nat) (M : aM) (r : aR), f206_53 z n  M = some r → am_Ev 12 206 53 [some (.inr (.inr (11, 205))), none] [] M r := by
  intro n
  induction n with
  | zero =>
    intro  M r h
    cases h
  | succ n ih =>
    intro  M r h
    exact am_Ev_seg (sem := am_s206_ z) (cut := ([(53, [true, false]), (86, [true, true])] : List (Nat × List Bool))) (hs206 z) am_r206 am_k206 (by rw [am_l206]; decide) (fun pc al st M => (match Nat.beq pc 53 with
      | true => (match al, st with
        | [some (.inr (.inr (11, 205))), none], [] => f206_53 z n  M
        | _, _ => none)
      | false => (match Nat.beq pc 86 with
      | true => (match al, st with
        | [some (.inr (.inr (11, 205))), some (.inl x1)], [] => f206_86 z z x1 M
        | _, _ => none)
      | false => none))) 13 h (fun pc al st M hk => by
      try dsimp only at hk
      split at hk
      · rename_i he
        rw [am_beq he]
        split at hk
        · exact ih _ _ hk
        · cases hk
      · skip
        split at hk
        · rename_i he
          rw [am_beq he]
          split at hk
          · exact e206_86 z _ _ _ _ hk
          · cases hk
        · cases hk)
def f206_30 (z : Nat) : Nat → Int32 → aM → Option aR
  | 0, _, _ => none
  | n + 1, x1, M =>
    if (116 : Int32) ≤ x1 then
      am_bv (f191 z M) fun M1 =>
        f206_53 z z M1
    else
      if am_inB x1 116 then
        let I2 := am_u M.1 211 x1.toNatClampNeg (0 : Int32)
        f206_30 z n (x1 + (1 : Int32)) (I2, M.2)
      else
        none
set_option maxRecDepth 100000 in
set_option maxHeartbeats 4000000 in
theorem e206_30 (z : Nat) : ∀ (n : Nat) (x1 : Int32) (M : aM) (r : aR), f206_30 z n x1 M = some r → am_Ev 12 206 30 [some (.inr (.inr (11, 205))), some (.inl x1)] [] M r := by
  intro n
  induction n with
  | zero =>
    intro x1 M r h
    cases h
  | succ n ih =>
    intro x1 M r h
    exact am_Ev_seg (sem := am_s206_ z) (cut := ([(30, [true, true]), (53, [true, false])] : List (Nat × List Bool))) (hs206 z) am_r206 am_k206 (by rw [am_l206]; decide) (fun pc al st M => (match Nat.beq pc 30 with
      | true => (match al, st with
        | [some (.inr (.inr (11, 205))), some (.inl x1)], [] => f206_30 z n x1 M
        | _, _ => none)
      | false => (match Nat.beq pc 53 with
      | true => (match al, st with
        | [some (.inr (.inr (11, 205))), none], [] => f206_53 z z  M
        | _, _ => none)
      | false => none))) 12 h (fun pc al st M hk => by
      try dsimp only at hk
      split at hk
      · rename_i he
        rw [am_beq he]
        split at hk
        · exact ih _ _ _ hk
        · cases hk
      · skip
        split at hk
        · rename_i he
          rw [am_beq he]
          split at hk
          · exact e206_53 z _ _ _ hk
          · cases hk
        · cases hk)
def f206_23 (z : Nat)  (M : aM) : Option aR :=
  let I1 := am_u M.1 205 13 (-1 : Int32)
  f206_30 z z (0 : Int32) (I1, M.2)
set_option maxRecDepth 100000 in
set_option maxHeartbeats 4000000 in
theorem e206_23 (z : Nat) : ∀ (M : aM) (r : aR), f206_23 z  M = some r → am_Ev 12 206 23 [some (.inr (.inr (11, 205))), none] [] M r := by
  intro  M r h
  exact am_Ev_seg (sem := am_s206_ z) (cut := ([(30, [true, true])] : List (Nat × List Bool))) (hs206 z) am_r206 am_k206 (by rw [am_l206]; decide) (fun pc al st M => (match Nat.beq pc 30 with
      | true => (match al, st with
        | [some (.inr (.inr (11, 205))), some (.inl x1)], [] => f206_30 z z x1 M
        | _, _ => none)
      | false => none)) 7 h (fun pc al st M hk => by
      try dsimp only at hk
      split at hk
      · rename_i he
        rw [am_beq he]
        split at hk
        · exact e206_30 z _ _ _ _ hk
        · cases hk
      · cases hk)
/-- ArgumentMenderModel.cloth()I -/
def f206 (z : Nat) (M : aM) : Option aR :=
  let I1 := am_u M.1 205 7 (M.1 205 5)
  let I2 := am_u I1 205 5 (0 : Int32)
  let I3 := am_u I2 205 8 (0 : Int32)
  let I4 := am_u I3 205 12 (0 : Int32)
  f206_23 z (I4, M.2)
set_option maxRecDepth 100000 in
set_option maxHeartbeats 4000000 in
theorem e206 (z : Nat) : ∀ (M : aM) (r : aR), f206 z  M = some r → am_Ev 12 206 0 [some (.inr (.inr (11, 205))), none] [] M r := by
  intro  M r h
  exact am_Ev_seg (sem := am_s206_ z) (cut := ([(23, [true, false])] : List (Nat × List Bool))) (hs206 z) am_r206 am_k206 (by rw [am_l206]; decide) (fun pc al st M => (match Nat.beq pc 23 with
      | true => (match al, st with
        | [some (.inr (.inr (11, 205))), none], [] => f206_23 z  M
        | _, _ => none)
      | false => none)) 15 h (fun pc al st M hk => by
      try dsimp only at hk
      split at hk
      · rename_i he
        rw [am_beq he]
        split at hk
        · exact e206_23 z _ _ hk
        · cases hk
      · cases hk)
def F206 (z : Nat) (as : List aV) (M : aM) : Option aR := match as with
  | [.inr (.inr (11, 205))] => f206 z  M
  | _ => none
theorem S206 (z : Nat) : am_Snd 12 206 (F206 z) := am_meth (by decide +kernel) (fun as M r has h => by
    rw [am_l206]
    unfold F206 at h
    split at h
    · exact ⟨Nat.le_of_ble_eq_true rfl, e206 z _ _ h⟩
    · cases h)
