def cd221_0 : List am_E := [(0, .aload_n 0, 1, 0, 0, 0, 0), (1, .getfield 58, 3, 11, 30, 0, 0), (4, .iload_n 1, 1, 1, 0, 0, 0), (5, .aload_n 0, 1, 0, 0, 0, 0), (6, .getfield 303, 3, 11, 24, 0, 0), (9, .iastore, 1, 0, 0, 0, 0), (10, .aload_n 0, 1, 0, 0, 0, 0), (11, .getfield 61, 3, 11, 31, 0, 0), (14, .iload_n 1, 1, 1, 0, 0, 0), (15, .aload_n 0, 1, 0, 0, 0, 0), (16, .getfield 306, 3, 11, 25, 0, 0), (19, .iastore, 1, 0, 0, 0, 0), (20, .aload_n 0, 1, 0, 0, 0, 0), (21, .getfield 64, 3, 11, 32, 0, 0), (24, .iload_n 1, 1, 1, 0, 0, 0), (25, .aload_n 0, 1, 0, 0, 0, 0), (26, .getfield 278, 3, 11, 22, 0, 0), (29, .iastore, 1, 0, 0, 0, 0), (30, .aload_n 0, 1, 0, 0, 0, 0), (31, .getfield 67, 3, 11, 33, 0, 0), (34, .iload_n 1, 1, 1, 0, 0, 0), (35, .aload_n 0, 1, 0, 0, 0, 0), (36, .getfield 294, 3, 11, 23, 0, 0), (39, .iastore, 1, 0, 0, 0, 0), (40, .iconst 0, 1, 0, 0, 0, 0), (41, .istore_n 2, 1, 2, 0, 0, 0), (42, .iload_n 2, 1, 2, 0, 0, 0), (43, .bipush 16, 2, 0, 0, 16, 0), (45, .if_icmp .ge 26, 3, 71, 0, 0, 0), (48, .aload_n 0, 1, 0, 0, 0, 0), (49, .getfield 55, 3, 11, 29, 0, 0), (52, .bipush 16, 2, 0, 0, 16, 0), (54, .iload_n 1, 1, 1, 0, 0, 0), (55, .imul, 1, 0, 0, 0, 0), (56, .iload_n 2, 1, 2, 0, 0, 0), (57, .iadd, 1, 0, 0, 0, 0), (58, .aload_n 0, 1, 0, 0, 0, 0), (59, .getfield 40, 3, 11, 20, 0, 0), (62, .iload_n 2, 1, 2, 0, 0, 0), (63, .iaload, 1, 0, 0, 0, 0)]
def cd221_1 : List am_E := [(64, .iastore, 1, 0, 0, 0, 0), (65, .iinc 2 1, 3, 2, 0, 1, 0), (68, .goto (-26), 3, 42, 0, 0, 0), (71, .return_, 1, 0, 0, 0, 0)]
def cd221 : List am_E := cd221_0 ++ (cd221_1)
def am_w221 : List (List (Int32 × Nat) × Nat) := []
set_option maxRecDepth 100000 in
theorem kcd221_0 : cd221_0.all (am_chk am_w221 221) = true := by decide +kernel
set_option maxRecDepth 100000 in
theorem kcd221_1 : cd221_1.all (am_chk am_w221 221) = true := by decide +kernel
theorem am_k221 : cd221.all (am_chk am_w221 221) = true := by
  simp only [cd221, List.all_append, kcd221_0, kcd221_1, Bool.and_self]
theorem am_r221 : am_rtc 221 = 4 := by decide +kernel
theorem am_l221 : am_ml 221 = 3 := by decide +kernel
def am_s221_ (z : Nat) : Nat → List aV → aM → Option aR := fun j => (fun _ _ => none)
theorem hs221 (z : Nat) : ∀ j2 : Nat, ∃ d2 : Nat, d2 + 1 ≤ 1 ∧ am_Snd d2 j2 (am_s221_ z j2) := by
  intro j2
  unfold am_s221_
  exact ⟨0, by decide, am_Snd_no j2⟩
def f221_42 (z : Nat) : Nat → Int32 → Int32 → aM → Option aR
  | 0, _, _, _ => none
  | n + 1, x1, x2, M =>
    if (16 : Int32) ≤ x2 then
      some (none, M)
    else
      if am_inB x2 16 then
        if am_inB (((16 : Int32) * x1) + x2) 160 then
          let I1 := am_u M.1 219 (((16 : Int32) * x1) + x2).toNatClampNeg (M.1 214 x2.toNatClampNeg)
          f221_42 z n x1 (x2 + (1 : Int32)) (I1, M.2)
        else
          none
      else
        none
set_option maxRecDepth 100000 in
set_option maxHeartbeats 4000000 in
theorem e221_42 (z : Nat) : ∀ (n : Nat) (x1 : Int32) (x2 : Int32) (M : aM) (r : aR), f221_42 z n x1 x2 M = some r → am_Ev 1 221 42 [some (.inr (.inr (11, 205))), some (.inl x1), some (.inl x2)] [] M r := by
  intro n
  induction n with
  | zero =>
    intro x1 x2 M r h
    cases h
  | succ n ih =>
    intro x1 x2 M r h
    exact am_Ev_seg (sem := am_s221_ z) (cut := ([(42, [true, true, true])] : List (Nat × List Bool))) (hs221 z) am_r221 am_k221 (by rw [am_l221]; decide) (fun pc al st M => (match Nat.beq pc 42 with
      | true => (match al, st with
        | [some (.inr (.inr (11, 205))), some (.inl x1), some (.inl x2)], [] => f221_42 z n x1 x2 M
        | _, _ => none)
      | false => none)) 19 h (fun pc al st M hk => by
      try dsimp only at hk
      split at hk
      · rename_i he
        rw [am_beq he]
        split at hk
        · exact ih _ _ _ _ hk
        · cases hk
      · cases hk)
def f221_40 (z : Nat)  (x1 : Int32) (M : aM) : Option aR :=
  f221_42 z z x1 (0 : Int32) M
set_option maxRecDepth 100000 in
set_option maxHeartbeats 4000000 in
theorem e221_40 (z : Nat) : ∀ (x1 : Int32) (M : aM) (r : aR), f221_40 z x1 M = some r → am_Ev 1 221 40 [some (.inr (.inr (11, 205))), some (.inl x1), none] [] M r := by
  intro x1 M r h
  exact am_Ev_seg (sem := am_s221_ z) (cut := ([(42, [true, true, true])] : List (Nat × List Bool))) (hs221 z) am_r221 am_k221 (by rw [am_l221]; decide) (fun pc al st M => (match Nat.beq pc 42 with
      | true => (match al, st with
        | [some (.inr (.inr (11, 205))), some (.inl x1), some (.inl x2)], [] => f221_42 z z x1 x2 M
        | _, _ => none)
      | false => none)) 4 h (fun pc al st M hk => by
      try dsimp only at hk
      split at hk
      · rename_i he
        rw [am_beq he]
        split at hk
        · exact e221_42 z _ _ _ _ _ hk
        · cases hk
      · cases hk)
/-- ArgumentMenderModel.keepQuarrel(I)V -/
def f221 (z : Nat) (x1 : Int32) (M : aM) : Option aR :=
  if am_inB x1 10 then
    let I1 := am_u M.1 220 x1.toNatClampNeg (M.1 205 24)
    if am_inB x1 10 then
      let I2 := am_u I1 221 x1.toNatClampNeg (I1 205 25)
      if am_inB x1 10 then
        let I3 := am_u I2 222 x1.toNatClampNeg (I2 205 22)
        if am_inB x1 10 then
          let I4 := am_u I3 223 x1.toNatClampNeg (I3 205 23)
          f221_40 z x1 (I4, M.2)
        else
          none
      else
        none
    else
      none
  else
    none
set_option maxRecDepth 100000 in
set_option maxHeartbeats 4000000 in
theorem e221 (z : Nat) : ∀ (x1 : Int32) (M : aM) (r : aR), f221 z x1 M = some r → am_Ev 1 221 0 [some (.inr (.inr (11, 205))), some (.inl x1), none] [] M r := by
  intro x1 M r h
  exact am_Ev_seg (sem := am_s221_ z) (cut := ([(40, [true, true, false])] : List (Nat × List Bool))) (hs221 z) am_r221 am_k221 (by rw [am_l221]; decide) (fun pc al st M => (match Nat.beq pc 40 with
      | true => (match al, st with
        | [some (.inr (.inr (11, 205))), some (.inl x1), none], [] => f221_40 z x1 M
        | _, _ => none)
      | false => none)) 26 h (fun pc al st M hk => by
      try dsimp only at hk
      split at hk
      · rename_i he
        rw [am_beq he]
        split at hk
        · exact e221_40 z _ _ _ hk
        · cases hk
      · cases hk)
def F221 (z : Nat) (as : List aV) (M : aM) : Option aR := match as with
  | [.inr (.inr (11, 205)), .inl x1] => f221 z x1 M
  | _ => none
theorem S221 (z : Nat) : am_Snd 1 221 (F221 z) := am_meth (by decide +kernel) (fun as M r has h => by
    rw [am_l221]
    unfold F221 at h
    split at h
    · exact ⟨Nat.le_of_ble_eq_true rfl, e221 z _ _ _ h⟩
    · cases h)
def cd222_0 : List am_E := [(0, .iconst 0, 1, 0, 0, 0, 0), (1, .istore_n 2, 1, 2, 0, 0, 0), (2, .iload_n 2, 1, 2, 0, 0, 0), (3, .aload_n 0, 1, 0, 0, 0, 0), (4, .getfield 9, 3, 11, 1, 0, 0), (7, .bipush 6, 2, 0, 0, 6, 0), (9, .iaload, 1, 0, 0, 0, 0), (10, .if_icmp .ge 85, 3, 95, 0, 0, 0), (13, .aload_n 0, 1, 0, 0, 0, 0), (14, .getfield 9, 3, 11, 1, 0, 0), (17, .bipush 86, 2, 0, 0, 86, 0), (19, .iload_n 2, 1, 2, 0, 0, 0), (20, .iadd, 1, 0, 0, 0, 0), (21, .iaload, 1, 0, 0, 0, 0), (22, .ldc_w 316, 3, 0, 0, 1000000, 0), (25, .isub, 1, 0, 0, 0, 0), (26, .istore_n 3, 1, 3, 0, 0, 0), (27, .iload_n 3, 1, 3, 0, 0, 0), (28, .ifCond .lt 61, 3, 89, 0, 0, 0), (31, .iload_n 3, 1, 3, 0, 0, 0), (32, .bipush 100, 2, 0, 0, 100, 0), (34, .irem, 1, 0, 0, 0, 0), (35, .iload_n 1, 1, 1, 0, 0, 0), (36, .if_icmp .eq 6, 3, 42, 0, 0, 0), (39, .goto 50, 3, 89, 0, 0, 0), (42, .iload_n 3, 1, 3, 0, 0, 0), (43, .sipush 10000, 3, 0, 0, 10000, 0), (46, .idiv, 1, 0, 0, 0, 0), (47, .istore 4, 2, 4, 0, 0, 0), (49, .aload_n 0, 1, 0, 0, 0, 0), (50, .getfield 265, 3, 11, 17, 0, 0), (53, .iload 4, 2, 4, 0, 0, 0), (55, .invokestatic 300, 3, 172, 25, 0, 0), (58, .iconst 1, 1, 0, 0, 1, 0), (59, .if_icmp .ne 30, 3, 89, 0, 0, 0), (62, .aload_n 0, 1, 0, 0, 0, 0), (63, .getfield 37, 3, 11, 19, 0, 0), (66, .iload 4, 2, 4, 0, 0, 0), (68, .bipush 99, 2, 0, 0, 99, 0), (70, .aload_n 0, 1, 0, 0, 0, 0)]
def cd222_1 : List am_E := [(71, .getfield 37, 3, 11, 19, 0, 0), (74, .iload 4, 2, 4, 0, 0, 0), (76, .iaload, 1, 0, 0, 0, 0), (77, .iload_n 3, 1, 3, 0, 0, 0), (78, .bipush 100, 2, 0, 0, 100, 0), (80, .idiv, 1, 0, 0, 0, 0), (81, .bipush 100, 2, 0, 0, 100, 0), (83, .irem, 1, 0, 0, 0, 0), (84, .iadd, 1, 0, 0, 0, 0), (85, .invokestatic 155, 3, 0, 2, 0, 0), (88, .iastore, 1, 0, 0, 0, 0), (89, .iinc 2 1, 3, 2, 0, 1, 0), (92, .goto (-90), 3, 2, 0, 0, 0), (95, .return_, 1, 0, 0, 0, 0)]
def cd222 : List am_E := cd222_0 ++ (cd222_1)
def am_w222 : List (List (Int32 × Nat) × Nat) := []
set_option maxRecDepth 100000 in
theorem kcd222_0 : cd222_0.all (am_chk am_w222 222) = true := by decide +kernel
set_option maxRecDepth 100000 in
theorem kcd222_1 : cd222_1.all (am_chk am_w222 222) = true := by decide +kernel
theorem am_k222 : cd222.all (am_chk am_w222 222) = true := by
  simp only [cd222, List.all_append, kcd222_0, kcd222_1, Bool.and_self]
theorem am_r222 : am_rtc 222 = 4 := by decide +kernel
theorem am_l222 : am_ml 222 = 5 := by decide +kernel
def am_s222_ (z : Nat) : Nat → List aV → aM → Option aR := fun j => (match Nat.beq j 172 with
  | true => F172 z
  | false => (fun _ _ => none))
theorem hs222 (z : Nat) : ∀ j2 : Nat, ∃ d2 : Nat, d2 + 1 ≤ 2 ∧ am_Snd d2 j2 (am_s222_ z j2) := by
  intro j2
  unfold am_s222_
  split
  · rename_i he
    rw [am_beq he]
    exact ⟨_, by decide, S172 z⟩
  · skip
    exact ⟨0, by decide, am_Snd_no j2⟩
def f222_2 (z : Nat) : Nat → Int32 → Int32 → aM → Option aR
  | 0, _, _, _ => none
  | n + 1, x1, x2, M =>
    if am_inB (6 : Int32) 116 then
      if (M.1 206 (6 : Int32).toNatClampNeg) ≤ x2 then
        some (none, M)
      else
        if am_inB ((86 : Int32) + x2) 116 then
          if ((M.1 206 ((86 : Int32) + x2).toNatClampNeg) - (1000000 : Int32)) < 0 then
            f222_2 z n x1 (x2 + (1 : Int32)) M
          else
            if (100 : Int32) = 0 then
              none
            else
              if (((M.1 206 ((86 : Int32) + x2).toNatClampNeg) - (1000000 : Int32)) - ((M.1 206 ((86 : Int32) + x2).toNatClampNeg) - (1000000 : Int32)) / (100 : Int32) * (100 : Int32)) = x1 then
                if (10000 : Int32) = 0 then
                  none
                else
                  am_bi (f172 z (M.1 205 17) (((M.1 206 ((86 : Int32) + x2).toNatClampNeg) - (1000000 : Int32)) / (10000 : Int32)) M) fun v2 M1 =>
                    if ¬ v2 = (1 : Int32) then
                      f222_2 z n x1 (x2 + (1 : Int32)) M1
                    else
                      if am_inB (((M.1 206 ((86 : Int32) + x2).toNatClampNeg) - (1000000 : Int32)) / (10000 : Int32)) 16 then
                        if (100 : Int32) = 0 then
                          none
                        else
                          if (100 : Int32) = 0 then
                            none
                          else
                            if am_inB (((M.1 206 ((86 : Int32) + x2).toNatClampNeg) - (1000000 : Int32)) / (10000 : Int32)) 16 then
                              let I3 := am_u M1.1 213 (((M.1 206 ((86 : Int32) + x2).toNatClampNeg) - (1000000 : Int32)) / (10000 : Int32)).toNatClampNeg (if ((M1.1 213 (((M.1 206 ((86 : Int32) + x2).toNatClampNeg) - (1000000 : Int32)) / (10000 : Int32)).toNatClampNeg) + ((((M.1 206 ((86 : Int32) + x2).toNatClampNeg) - (1000000 : Int32)) / (100 : Int32)) - (((M.1 206 ((86 : Int32) + x2).toNatClampNeg) - (1000000 : Int32)) / (100 : Int32)) / (100 : Int32) * (100 : Int32))) < (99 : Int32) then ((M1.1 213 (((M.1 206 ((86 : Int32) + x2).toNatClampNeg) - (1000000 : Int32)) / (10000 : Int32)).toNatClampNeg) + ((((M.1 206 ((86 : Int32) + x2).toNatClampNeg) - (1000000 : Int32)) / (100 : Int32)) - (((M.1 206 ((86 : Int32) + x2).toNatClampNeg) - (1000000 : Int32)) / (100 : Int32)) / (100 : Int32) * (100 : Int32))) else (99 : Int32))
                              f222_2 z n x1 (x2 + (1 : Int32)) (I3, M1.2)
                            else
                              none
                      else
                        none
              else
                f222_2 z n x1 (x2 + (1 : Int32)) M
        else
          none
    else
      none
set_option maxRecDepth 100000 in
set_option maxHeartbeats 4000000 in
theorem e222_2 (z : Nat) : ∀ (n : Nat) (x1 : Int32) (x2 : Int32) (M : aM) (r : aR), f222_2 z n x1 x2 M = some r → am_Ev 2 222 2 [some (.inr (.inr (11, 205))), some (.inl x1), some (.inl x2), none, none] [] M r := by
  intro n
  induction n with
  | zero =>
    intro x1 x2 M r h
    cases h
  | succ n ih =>
    intro x1 x2 M r h
    exact am_Ev_seg (sem := am_s222_ z) (cut := ([(2, [true, true, true, false, false])] : List (Nat × List Bool))) (hs222 z) am_r222 am_k222 (by rw [am_l222]; decide) (fun pc al st M => (match Nat.beq pc 2 with
      | true => (match al, st with
        | [some (.inr (.inr (11, 205))), some (.inl x1), some (.inl x2), none, none], [] => f222_2 z n x1 x2 M
        | _, _ => none)
      | false => none)) 52 h (fun pc al st M hk => by
      try dsimp only at hk
      split at hk
      · rename_i he
        rw [am_beq he]
        split at hk
        · exact ih _ _ _ _ hk
        · cases hk
      · cases hk)
/-- ArgumentMenderModel.sewAll(I)V -/
def f222 (z : Nat) (x1 : Int32) (M : aM) : Option aR :=
  f222_2 z z x1 (0 : Int32) M
set_option maxRecDepth 100000 in
set_option maxHeartbeats 4000000 in
theorem e222 (z : Nat) : ∀ (x1 : Int32) (M : aM) (r : aR), f222 z x1 M = some r → am_Ev 2 222 0 [some (.inr (.inr (11, 205))), some (.inl x1), none, none, none] [] M r := by
  intro x1 M r h
  exact am_Ev_seg (sem := am_s222_ z) (cut := ([(2, [true, true, true, false, false])] : List (Nat × List Bool))) (hs222 z) am_r222 am_k222 (by rw [am_l222]; decide) (fun pc al st M => (match Nat.beq pc 2 with
      | true => (match al, st with
        | [some (.inr (.inr (11, 205))), some (.inl x1), some (.inl x2), none, none], [] => f222_2 z z x1 x2 M
        | _, _ => none)
      | false => none)) 4 h (fun pc al st M hk => by
      try dsimp only at hk
      split at hk
      · rename_i he
        rw [am_beq he]
        split at hk
        · exact e222_2 z _ _ _ _ _ hk
        · cases hk
      · cases hk)
def F222 (z : Nat) (as : List aV) (M : aM) : Option aR := match as with
  | [.inr (.inr (11, 205)), .inl x1] => f222 z x1 M
  | _ => none
theorem S222 (z : Nat) : am_Snd 2 222 (F222 z) := am_meth (by decide +kernel) (fun as M r has h => by
    rw [am_l222]
    unfold F222 at h
    split at h
    · exact ⟨Nat.le_of_ble_eq_true rfl, e222 z _ _ _ h⟩
    · cases h)
def cd223_0 : List am_E := [(0, .aload_n 0, 1, 0, 0, 0, 0), (1, .iload_n 1, 1, 1, 0, 0, 0), (2, .invokevirtual 317, 3, 222, 11014, 0, 0), (5, .iconst 0, 1, 0, 0, 0, 0), (6, .istore_n 2, 1, 2, 0, 0, 0), (7, .iload_n 2, 1, 2, 0, 0, 0), (8, .aload_n 0, 1, 0, 0, 0, 0), (9, .invokevirtual 121, 3, 179, 11000, 0, 0), (12, .if_icmp .ge 54, 3, 66, 0, 0, 0), (15, .aload_n 0, 1, 0, 0, 0, 0), (16, .iload_n 2, 1, 2, 0, 0, 0), (17, .iconst 2, 1, 0, 0, 2, 0), (18, .invokevirtual 249, 3, 187, 11020, 0, 0), (21, .iload_n 1, 1, 1, 0, 0, 0), (22, .if_icmp .ne 38, 3, 60, 0, 0, 0), (25, .aload_n 0, 1, 0, 0, 0, 0), (26, .getfield 268, 3, 11, 18, 0, 0), (29, .iload_n 2, 1, 2, 0, 0, 0), (30, .invokestatic 300, 3, 172, 25, 0, 0), (33, .ifCond .ne 6, 3, 39, 0, 0, 0), (36, .goto 24, 3, 60, 0, 0, 0), (39, .aload_n 0, 1, 0, 0, 0, 0), (40, .aload_n 0, 1, 0, 0, 0, 0), (41, .iload_n 2, 1, 2, 0, 0, 0), (42, .iconst 0, 1, 0, 0, 0, 0), (43, .invokevirtual 249, 3, 187, 11020, 0, 0), (46, .aload_n 0, 1, 0, 0, 0, 0), (47, .iload_n 2, 1, 2, 0, 0, 0), (48, .iconst 1, 1, 0, 0, 1, 0), (49, .invokevirtual 249, 3, 187, 11020, 0, 0), (52, .invokevirtual 320, 3, 220, 11024, 0, 0), (55, .aload_n 0, 1, 0, 0, 0, 0), (56, .iload_n 2, 1, 2, 0, 0, 0), (57, .invokevirtual 323, 3, 221, 11014, 0, 0), (60, .iinc 2 1, 3, 2, 0, 1, 0), (63, .goto (-56), 3, 7, 0, 0, 0), (66, .iconst 0, 1, 0, 0, 0, 0), (67, .istore_n 2, 1, 2, 0, 0, 0), (68, .iload_n 2, 1, 2, 0, 0, 0), (69, .aload_n 0, 1, 0, 0, 0, 0)]
def cd223_1 : List am_E := [(70, .getfield 9, 3, 11, 1, 0, 0), (73, .bipush 6, 2, 0, 0, 6, 0), (75, .iaload, 1, 0, 0, 0, 0), (76, .if_icmp .ge 50, 3, 126, 0, 0, 0), (79, .aload_n 0, 1, 0, 0, 0, 0), (80, .getfield 9, 3, 11, 1, 0, 0), (83, .bipush 86, 2, 0, 0, 86, 0), (85, .iload_n 2, 1, 2, 0, 0, 0), (86, .iadd, 1, 0, 0, 0, 0), (87, .iaload, 1, 0, 0, 0, 0), (88, .istore_n 3, 1, 3, 0, 0, 0), (89, .iload_n 3, 1, 3, 0, 0, 0), (90, .ldc_w 316, 3, 0, 0, 1000000, 0), (93, .if_icmp .ge 27, 3, 120, 0, 0, 0), (96, .iload_n 3, 1, 3, 0, 0, 0), (97, .bipush 100, 2, 0, 0, 100, 0), (99, .irem, 1, 0, 0, 0, 0), (100, .iload_n 1, 1, 1, 0, 0, 0), (101, .if_icmp .ne 19, 3, 120, 0, 0, 0), (104, .aload_n 0, 1, 0, 0, 0, 0), (105, .iload_n 3, 1, 3, 0, 0, 0), (106, .sipush 10000, 3, 0, 0, 10000, 0), (109, .idiv, 1, 0, 0, 0, 0), (110, .iload_n 3, 1, 3, 0, 0, 0), (111, .bipush 100, 2, 0, 0, 100, 0), (113, .idiv, 1, 0, 0, 0, 0), (114, .bipush 100, 2, 0, 0, 100, 0), (116, .irem, 1, 0, 0, 0, 0), (117, .invokevirtual 320, 3, 220, 11024, 0, 0), (120, .iinc 2 1, 3, 2, 0, 1, 0), (123, .goto (-55), 3, 68, 0, 0, 0), (126, .return_, 1, 0, 0, 0, 0)]
def cd223 : List am_E := cd223_0 ++ (cd223_1)
def am_w223 : List (List (Int32 × Nat) × Nat) := []
set_option maxRecDepth 100000 in
theorem kcd223_0 : cd223_0.all (am_chk am_w223 223) = true := by decide +kernel
set_option maxRecDepth 100000 in
theorem kcd223_1 : cd223_1.all (am_chk am_w223 223) = true := by decide +kernel
theorem am_k223 : cd223.all (am_chk am_w223 223) = true := by
  simp only [cd223, List.all_append, kcd223_0, kcd223_1, Bool.and_self]
theorem am_r223 : am_rtc 223 = 4 := by decide +kernel
theorem am_l223 : am_ml 223 = 4 := by decide +kernel
def am_s223_ (z : Nat) : Nat → List aV → aM → Option aR := fun j => (match Nat.beq j 172 with
  | true => F172 z
  | false => (match Nat.beq j 179 with
  | true => F179 z
  | false => (match Nat.beq j 187 with
  | true => F187 z
  | false => (match Nat.beq j 220 with
  | true => F220 z
  | false => (match Nat.beq j 221 with
  | true => F221 z
  | false => (match Nat.beq j 222 with
  | true => F222 z
  | false => (fun _ _ => none)))))))
theorem hs223 (z : Nat) : ∀ j2 : Nat, ∃ d2 : Nat, d2 + 1 ≤ 8 ∧ am_Snd d2 j2 (am_s223_ z j2) := by
  intro j2
  unfold am_s223_
  split
  · rename_i he
    rw [am_beq he]
    exact ⟨_, by decide, S172 z⟩
  · skip
    split
    · rename_i he
      rw [am_beq he]
      exact ⟨_, by decide, S179 z⟩
    · skip
      split
      · rename_i he
        rw [am_beq he]
        exact ⟨_, by decide, S187 z⟩
      · skip
        split
        · rename_i he
          rw [am_beq he]
          exact ⟨_, by decide, S220 z⟩
        · skip
          split
          · rename_i he
            rw [am_beq he]
            exact ⟨_, by decide, S221 z⟩
          · skip
            split
            · rename_i he
              rw [am_beq he]
              exact ⟨_, by decide, S222 z⟩
            · skip
              exact ⟨0, by decide, am_Snd_no j2⟩
def f223_68 (z : Nat) : Nat → Int32 → Int32 → aM → Option aR
  | 0, _, _, _ => none
  | n + 1, x1, x2, M =>
    if am_inB (6 : Int32) 116 then
      if (M.1 206 (6 : Int32).toNatClampNeg) ≤ x2 then
        some (none, M)
      else
        if am_inB ((86 : Int32) + x2) 116 then
          if (1000000 : Int32) ≤ (M.1 206 ((86 : Int32) + x2).toNatClampNeg) then
            f223_68 z n x1 (x2 + (1 : Int32)) M
          else
            if (100 : Int32) = 0 then
              none
            else
              if ¬ ((M.1 206 ((86 : Int32) + x2).toNatClampNeg) - (M.1 206 ((86 : Int32) + x2).toNatClampNeg) / (100 : Int32) * (100 : Int32)) = x1 then
                f223_68 z n x1 (x2 + (1 : Int32)) M
              else
                if (10000 : Int32) = 0 then
                  none
                else
                  if (100 : Int32) = 0 then
                    none
                  else
                    if (100 : Int32) = 0 then
                      none
                    else
                      am_bv (f220 z ((M.1 206 ((86 : Int32) + x2).toNatClampNeg) / (10000 : Int32)) (((M.1 206 ((86 : Int32) + x2).toNatClampNeg) / (100 : Int32)) - ((M.1 206 ((86 : Int32) + x2).toNatClampNeg) / (100 : Int32)) / (100 : Int32) * (100 : Int32)) M) fun M1 =>
                        f223_68 z n x1 (x2 + (1 : Int32)) M1
        else
          none
    else
      none
set_option maxRecDepth 100000 in
set_option maxHeartbeats 4000000 in
theorem e223_68 (z : Nat) : ∀ (n : Nat) (x1 : Int32) (x2 : Int32) (M : aM) (r : aR), f223_68 z n x1 x2 M = some r → am_Ev 8 223 68 [some (.inr (.inr (11, 205))), some (.inl x1), some (.inl x2), none] [] M r := by
  intro n
  induction n with
  | zero =>
    intro x1 x2 M r h
    cases h
  | succ n ih =>
    intro x1 x2 M r h
    exact am_Ev_seg (sem := am_s223_ z) (cut := ([(68, [true, true, true, false])] : List (Nat × List Bool))) (hs223 z) am_r223 am_k223 (by rw [am_l223]; decide) (fun pc al st M => (match Nat.beq pc 68 with
      | true => (match al, st with
        | [some (.inr (.inr (11, 205))), some (.inl x1), some (.inl x2), none], [] => f223_68 z n x1 x2 M
        | _, _ => none)
      | false => none)) 35 h (fun pc al st M hk => by
      try dsimp only at hk
      split at hk
      · rename_i he
        rw [am_beq he]
        split at hk
        · exact ih _ _ _ _ hk
        · cases hk
      · cases hk)
def f223_7 (z : Nat) : Nat → Int32 → Int32 → aM → Option aR
  | 0, _, _, _ => none
  | n + 1, x1, x2, M =>
    am_bi (f179 z M) fun v2 M1 =>
      if v2 ≤ x2 then
        f223_68 z z x1 (0 : Int32) M1
      else
        am_bi (f187 z x2 (2 : Int32) M1) fun v4 M3 =>
          if ¬ v4 = x1 then
            f223_7 z n x1 (x2 + (1 : Int32)) M3
          else
            am_bi (f172 z (M3.1 205 18) x2 M3) fun v6 M5 =>
              if ¬ v6 = 0 then
                am_bi (f187 z x2 (0 : Int32) M5) fun v8 M7 =>
                  am_bi (f187 z x2 (1 : Int32) M7) fun v10 M9 =>
                    am_bv (f220 z v8 v10 M9) fun M11 =>
                      am_bv (f221 z x2 M11) fun M12 =>
                        f223_7 z n x1 (x2 + (1 : Int32)) M12
              else
                f223_7 z n x1 (x2 + (1 : Int32)) M5
set_option maxRecDepth 100000 in
set_option maxHeartbeats 4000000 in
theorem e223_7 (z : Nat) : ∀ (n : Nat) (x1 : Int32) (x2 : Int32) (M : aM) (r : aR), f223_7 z n x1 x2 M = some r → am_Ev 8 223 7 [some (.inr (.inr (11, 205))), some (.inl x1), some (.inl x2), none] [] M r := by
  intro n
  induction n with
  | zero =>
    intro x1 x2 M r h
    cases h
  | succ n ih =>
    intro x1 x2 M r h
    exact am_Ev_seg (sem := am_s223_ z) (cut := ([(7, [true, true, true, false]), (68, [true, true, true, false])] : List (Nat × List Bool))) (hs223 z) am_r223 am_k223 (by rw [am_l223]; decide) (fun pc al st M => (match Nat.beq pc 7 with
      | true => (match al, st with
        | [some (.inr (.inr (11, 205))), some (.inl x1), some (.inl x2), none], [] => f223_7 z n x1 x2 M
        | _, _ => none)
      | false => (match Nat.beq pc 68 with
      | true => (match al, st with
        | [some (.inr (.inr (11, 205))), some (.inl x1), some (.inl x2), none], [] => f223_68 z z x1 x2 M
        | _, _ => none)
      | false => none))) 32 h (fun pc al st M hk => by
      try dsimp only at hk
      split at hk
      · rename_i he
        rw [am_beq he]
        split at hk
        · exact ih _ _ _ _ hk
        · cases hk
      · skip
        split at hk
        · rename_i he
          rw [am_beq he]
          split at hk
          · exact e223_68 z _ _ _ _ _ hk
          · cases hk
        · cases hk)
/-- ArgumentMenderModel.goYear(I)V -/
def f223 (z : Nat) (x1 : Int32) (M : aM) : Option aR :=
  am_bv (f222 z x1 M) fun M1 =>
    f223_7 z z x1 (0 : Int32) M1
set_option maxRecDepth 100000 in
set_option maxHeartbeats 4000000 in
theorem e223 (z : Nat) : ∀ (x1 : Int32) (M : aM) (r : aR), f223 z x1 M = some r → am_Ev 8 223 0 [some (.inr (.inr (11, 205))), some (.inl x1), none, none] [] M r := by
  intro x1 M r h
  exact am_Ev_seg (sem := am_s223_ z) (cut := ([(7, [true, true, true, false])] : List (Nat × List Bool))) (hs223 z) am_r223 am_k223 (by rw [am_l223]; decide) (fun pc al st M => (match Nat.beq pc 7 with
      | true => (match al, st with
        | [some (.inr (.inr (11, 205))), some (.inl x1), some (.inl x2), none], [] => f223_7 z z x1 x2 M
        | _, _ => none)
      | false => none)) 7 h (fun pc al st M hk => by
      try dsimp only at hk
      split at hk
      · rename_i he
        rw [am_beq he]
        split at hk
        · exact e223_7 z _ _ _ _ _ hk
        · cases hk
      · cases hk)
def F223 (z : Nat) (as : List aV) (M : aM) : Option aR := match as with
  | [.inr (.inr (11, 205)), .inl x1] => f223 z x1 M
  | _ => none
theorem S223 (z : Nat) : am_Snd 8 223 (F223 z) := am_meth (by decide +kernel) (fun as M r has h => by
    rw [am_l223]
    unfold F223 at h
    split at h
    · exact ⟨Nat.le_of_ble_eq_true rfl, e223 z _ _ _ h⟩
    · cases h)
def cd224_0 : List am_E := [(0, .iconst 0, 1, 0, 0, 0, 0), (1, .istore_n 1, 1, 1, 0, 0, 0), (2, .iload_n 1, 1, 1, 0, 0, 0), (3, .bipush 16, 2, 0, 0, 16, 0), (5, .if_icmp .ge 59, 3, 64, 0, 0, 0), (8, .aload_n 0, 1, 0, 0, 0, 0), (9, .getfield 37, 3, 11, 19, 0, 0), (12, .iload_n 1, 1, 1, 0, 0, 0), (13, .aload_n 0, 1, 0, 0, 0, 0), (14, .getfield 265, 3, 11, 17, 0, 0), (17, .iload_n 1, 1, 1, 0, 0, 0), (18, .invokestatic 300, 3, 172, 25, 0, 0), (21, .iconst 1, 1, 0, 0, 1, 0), (22, .if_icmp .ne 20, 3, 42, 0, 0, 0), (25, .iload_n 1, 1, 1, 0, 0, 0), (26, .aload_n 0, 1, 0, 0, 0, 0), (27, .invokevirtual 118, 3, 178, 11000, 0, 0), (30, .if_icmp .ge 12, 3, 42, 0, 0, 0), (33, .aload_n 0, 1, 0, 0, 0, 0), (34, .getfield 34, 3, 11, 15, 0, 0), (37, .iload_n 1, 1, 1, 0, 0, 0), (38, .iaload, 1, 0, 0, 0, 0), (39, .goto 4, 3, 43, 0, 0, 0), (42, .iconst 0, 1, 0, 0, 0, 0), (43, .iastore, 1, 0, 0, 0, 0), (44, .aload_n 0, 1, 0, 0, 0, 0), (45, .getfield 46, 3, 11, 26, 0, 0), (48, .iload_n 1, 1, 1, 0, 0, 0), (49, .iconst 0, 1, 0, 0, 0, 0), (50, .iastore, 1, 0, 0, 0, 0), (51, .aload_n 0, 1, 0, 0, 0, 0), (52, .getfield 49, 3, 11, 27, 0, 0), (55, .iload_n 1, 1, 1, 0, 0, 0), (56, .iconst 0, 1, 0, 0, 0, 0), (57, .iastore, 1, 0, 0, 0, 0), (58, .iinc 1 1, 3, 1, 0, 1, 0), (61, .goto (-59), 3, 2, 0, 0, 0), (64, .iconst 0, 1, 0, 0, 0, 0), (65, .istore_n 1, 1, 1, 0, 0, 0), (66, .iload_n 1, 1, 1, 0, 0, 0)]
def cd224_1 : List am_E := [(67, .bipush 10, 2, 0, 0, 10, 0), (69, .if_icmp .ge 23, 3, 92, 0, 0, 0), (72, .aload_n 0, 1, 0, 0, 0, 0), (73, .getfield 58, 3, 11, 30, 0, 0), (76, .iload_n 1, 1, 1, 0, 0, 0), (77, .iconst 0, 1, 0, 0, 0, 0), (78, .iastore, 1, 0, 0, 0, 0), (79, .aload_n 0, 1, 0, 0, 0, 0), (80, .getfield 61, 3, 11, 31, 0, 0), (83, .iload_n 1, 1, 1, 0, 0, 0), (84, .iconst 0, 1, 0, 0, 0, 0), (85, .iastore, 1, 0, 0, 0, 0), (86, .iinc 1 1, 3, 1, 0, 1, 0), (89, .goto (-23), 3, 66, 0, 0, 0), (92, .iconst 0, 1, 0, 0, 0, 0), (93, .istore_n 1, 1, 1, 0, 0, 0), (94, .iload_n 1, 1, 1, 0, 0, 0), (95, .aload_n 0, 1, 0, 0, 0, 0), (96, .invokevirtual 111, 3, 176, 11000, 0, 0), (99, .if_icmp .gt 53, 3, 152, 0, 0, 0), (102, .iconst 0, 1, 0, 0, 0, 0), (103, .istore_n 2, 1, 2, 0, 0, 0), (104, .iload_n 2, 1, 2, 0, 0, 0), (105, .bipush 16, 2, 0, 0, 16, 0), (107, .if_icmp .ge 26, 3, 133, 0, 0, 0), (110, .aload_n 0, 1, 0, 0, 0, 0), (111, .getfield 52, 3, 11, 28, 0, 0), (114, .bipush 16, 2, 0, 0, 16, 0), (116, .iload_n 1, 1, 1, 0, 0, 0), (117, .imul, 1, 0, 0, 0, 0), (118, .iload_n 2, 1, 2, 0, 0, 0), (119, .iadd, 1, 0, 0, 0, 0), (120, .aload_n 0, 1, 0, 0, 0, 0), (121, .getfield 37, 3, 11, 19, 0, 0), (124, .iload_n 2, 1, 2, 0, 0, 0), (125, .iaload, 1, 0, 0, 0, 0), (126, .iastore, 1, 0, 0, 0, 0), (127, .iinc 2 1, 3, 2, 0, 1, 0), (130, .goto (-26), 3, 104, 0, 0, 0), (133, .iload_n 1, 1, 1, 0, 0, 0)]
def cd224_2 : List am_E := [(134, .aload_n 0, 1, 0, 0, 0, 0), (135, .invokevirtual 111, 3, 176, 11000, 0, 0), (138, .if_icmp .ge 8, 3, 146, 0, 0, 0), (141, .aload_n 0, 1, 0, 0, 0, 0), (142, .iload_n 1, 1, 1, 0, 0, 0), (143, .invokevirtual 326, 3, 223, 11014, 0, 0), (146, .iinc 1 1, 3, 1, 0, 1, 0), (149, .goto (-55), 3, 94, 0, 0, 0), (152, .return_, 1, 0, 0, 0, 0)]
def cd224 : List am_E := cd224_0 ++ (cd224_1 ++ (cd224_2))
def am_w224 : List (List (Int32 × Nat) × Nat) := []
set_option maxRecDepth 100000 in
theorem kcd224_0 : cd224_0.all (am_chk am_w224 224) = true := by decide +kernel
set_option maxRecDepth 100000 in
theorem kcd224_1 : cd224_1.all (am_chk am_w224 224) = true := by decide +kernel
set_option maxRecDepth 100000 in
theorem kcd224_2 : cd224_2.all (am_chk am_w224 224) = true := by decide +kernel
theorem am_k224 : cd224.all (am_chk am_w224 224) = true := by
  simp only [cd224, List.all_append, kcd224_0, kcd224_1, kcd224_2, Bool.and_self]
theorem am_r224 : am_rtc 224 = 4 := by decide +kernel
theorem am_l224 : am_ml 224 = 3 := by decide +kernel
def am_s224_ (z : Nat) : Nat → List aV → aM → Option aR := fun j => (match Nat.beq j 172 with
  | true => F172 z
  | false => (match Nat.beq j 176 with
  | true => F176 z
  | false => (match Nat.beq j 178 with
  | true => F178 z
  | false => (match Nat.beq j 223 with
  | true => F223 z
  | false => (fun _ _ => none)))))
theorem hs224 (z : Nat) : ∀ j2 : Nat, ∃ d2 : Nat, d2 + 1 ≤ 9 ∧ am_Snd d2 j2 (am_s224_ z j2) := by
  intro j2
  unfold am_s224_
  split
  · rename_i he
    rw [am_beq he]
    exact ⟨_, by decide, S172 z⟩
  · skip
    split
    · rename_i he
      rw [am_beq he]
      exact ⟨_, by decide, S176 z⟩
    · skip
      split
      · rename_i he
        rw [am_beq he]
        exact ⟨_, by decide, S178 z⟩
      · skip
        split
        · rename_i he
          rw [am_beq he]
          exact ⟨_, by decide, S223 z⟩
        · skip
          exact ⟨0, by decide, am_Snd_no j2⟩
def f224_104 (z : Nat) (k94 : Int32 → aM → Option aR) : Nat → Int32 → Int32 → aM → Option aR
  | 0, _, _, _ => none
  | n + 1, x1, x2, M =>
    if (16 : Int32) ≤ x2 then
      am_bi (f176 z M) fun v2 M1 =>
        if v2 ≤ x1 then
          k94 (x1 + (1 : Int32)) M1
        else
          am_bv (f223 z x1 M1) fun M3 =>
            k94 (x1 + (1 : Int32)) M3
    else
      if am_inB x2 16 then
        if am_inB (((16 : Int32) * x1) + x2) 208 then
          let I4 := am_u M.1 218 (((16 : Int32) * x1) + x2).toNatClampNeg (M.1 213 x2.toNatClampNeg)
          f224_104 z k94 n x1 (x2 + (1 : Int32)) (I4, M.2)
        else
          none
      else
        none
set_option maxRecDepth 100000 in
set_option maxHeartbeats 4000000 in
theorem e224_104 (z : Nat) (k94 : Int32 → aM → Option aR) (hk94 : ∀ (x1 : Int32) (M : aM) (r : aR), k94 x1 M = some r → am_Ev 9 224 94 [some (.inr (.inr (11, 205))), some (.inl x1), none] [] M r) : ∀ (n : Nat) (x1 : Int32) (x2 : Int32) (M : aM) (r : aR), f224_104 z k94 n x1 x2 M = some r → am_Ev 9 224 104 [some (.inr (.inr (11, 205))), some (.inl x1), some (.inl x2)] [] M r := by
  intro n
  induction n with
  | zero =>
    intro x1 x2 M r h
    cases h
  | succ n ih =>
    intro x1 x2 M r h
    exact am_Ev_seg (sem := am_s224_ z) (cut := ([(94, [true, true, false]), (104, [true, true, true])] : List (Nat × List Bool))) (hs224 z) am_r224 am_k224 (by rw [am_l224]; decide) (fun pc al st M => (match Nat.beq pc 94 with
      | true => (match al, st with
        | [some (.inr (.inr (11, 205))), some (.inl x1), none], [] => k94 x1 M
        | _, _ => none)
      | false => (match Nat.beq pc 104 with
      | true => (match al, st with
        | [some (.inr (.inr (11, 205))), some (.inl x1), some (.inl x2)], [] => f224_104 z k94 n x1 x2 M
        | _, _ => none)
      | false => none))) 19 h (fun pc al st M hk => by
      try dsimp only at hk
      split at hk
      · rename_i he
        rw [am_beq he]
        split at hk
        · exact hk94 _ _ _ hk
        · cases hk
      · skip
        split at hk
        · rename_i he
          rw [am_beq he]
          split at hk
          · exact ih _ _ _ _ hk
          · cases hk
        · cases hk)
def f224_94 (z : Nat) : Nat → Int32 → aM → Option aR
  | 0, _, _ => none
  | n + 1, x1, M =>
    am_bi (f176 z M) fun v2 M1 =>
      if v2 < x1 then
        some (none, M1)
      else
        f224_104 z (f224_94 z n) z x1 (0 : Int32) M1
set_option maxRecDepth 100000 in
set_option maxHeartbeats 4000000 in
theorem e224_94 (z : Nat) : ∀ (n : Nat) (x1 : Int32) (M : aM) (r : aR), f224_94 z n x1 M = some r → am_Ev 9 224 94 [some (.inr (.inr (11, 205))), some (.inl x1), none] [] M r := by
  intro n
  induction n with
  | zero =>
    intro x1 M r h
    cases h
  | succ n ih =>
    intro x1 M r h
    exact am_Ev_seg (sem := am_s224_ z) (cut := ([(104, [true, true, true])] : List (Nat × List Bool))) (hs224 z) am_r224 am_k224 (by rw [am_l224]; decide) (fun pc al st M => (match Nat.beq pc 104 with
      | true => (match al, st with
        | [some (.inr (.inr (11, 205))), some (.inl x1), some (.inl x2)], [] => f224_104 z (f224_94 z n) z x1 x2 M
        | _, _ => none)
      | false => none)) 8 h (fun pc al st M hk => by
      try dsimp only at hk
      split at hk
      · rename_i he
        rw [am_beq he]
        split at hk
        · exact e224_104 z _ ih _ _ _ _ _ hk
        · cases hk
      · cases hk)
def f224_66 (z : Nat) : Nat → Int32 → aM → Option aR
  | 0, _, _ => none
  | n + 1, x1, M =>
    if (10 : Int32) ≤ x1 then
      f224_94 z z (0 : Int32) M
    else
      if am_inB x1 10 then
        let I1 := am_u M.1 220 x1.toNatClampNeg (0 : Int32)
        if am_inB x1 10 then
          let I2 := am_u I1 221 x1.toNatClampNeg (0 : Int32)
          f224_66 z n (x1 + (1 : Int32)) (I2, M.2)
        else
          none
      else
        none
set_option maxRecDepth 100000 in
set_option maxHeartbeats 4000000 in
theorem e224_66 (z : Nat) : ∀ (n : Nat) (x1 : Int32) (M : aM) (r : aR), f224_66 z n x1 M = some r → am_Ev 9 224 66 [some (.inr (.inr (11, 205))), some (.inl x1), none] [] M r := by
  intro n
  induction n with
  | zero =>
    intro x1 M r h
    cases h
  | succ n ih =>
    intro x1 M r h
    exact am_Ev_seg (sem := am_s224_ z) (cut := ([(66, [true, true, false]), (94, [true, true, false])] : List (Nat × List Bool))) (hs224 z) am_r224 am_k224 (by rw [am_l224]; decide) (fun pc al st M => (match Nat.beq pc 66 with
      | true => (match al, st with
        | [some (.inr (.inr (11, 205))), some (.inl x1), none], [] => f224_66 z n x1 M
        | _, _ => none)
      | false => (match Nat.beq pc 94 with
      | true => (match al, st with
        | [some (.inr (.inr (11, 205))), some (.inl x1), none], [] => f224_94 z z x1 M
        | _, _ => none)
      | false => none))) 17 h (fun pc al st M hk => by
      try dsimp only at hk
      split at hk
      · rename_i he
        rw [am_beq he]
        split at hk
        · exact ih _ _ _ hk
        · cases hk
      · skip
        split at hk
        · rename_i he
          rw [am_beq he]
          split at hk
          · exact e224_94 z _ _ _ _ hk
          · cases hk
        · cases hk)
def f224_2 (z : Nat) : Nat → Int32 → aM → Option aR
  | 0, _, _ => none
  | n + 1, x1, M =>
    if (16 : Int32) ≤ x1 then
      f224_66 z z (0 : Int32) M
    else
      am_bi (f172 z (M.1 205 17) x1 M) fun v2 M1 =>
        if ¬ v2 = (1 : Int32) then
          if am_inB x1 16 then
            let I3 := am_u M1.1 213 x1.toNatClampNeg (0 : Int32)
            if am_inB x1 16 then
              let I4 := am_u I3 216 x1.toNatClampNeg (0 : Int32)
              if am_inB x1 16 then
                let I5 := am_u I4 217 x1.toNatClampNeg (0 : Int32)
                f224_2 z n (x1 + (1 : Int32)) (I5, M1.2)
              else
                none
            else
              none
          else
            none
        else
          am_bi (f178 z M1) fun v7 M6 =>
            if v7 ≤ x1 then
              if am_inB x1 16 then
                let I8 := am_u M6.1 213 x1.toNatClampNeg (0 : Int32)
                if am_inB x1 16 then
                  let I9 := am_u I8 216 x1.toNatClampNeg (0 : Int32)
                  if am_inB x1 16 then
                    let I10 := am_u I9 217 x1.toNatClampNeg (0 : Int32)
                    f224_2 z n (x1 + (1 : Int32)) (I10, M6.2)
                  else
                    none
                else
                  none
              else
                none
            else
              if am_inB x1 16 then
                if am_inB x1 16 then
                  let I11 := am_u M6.1 213 x1.toNatClampNeg (M6.1 212 x1.toNatClampNeg)
                  if am_inB x1 16 then
                    let I12 := am_u I11 216 x1.toNatClampNeg (0 : Int32)
                    if am_inB x1 16 then
                      let I13 := am_u I12 217 x1.toNatClampNeg (0 : Int32)
                      f224_2 z n (x1 + (1 : Int32)) (I13, M6.2)
                    else
                      none
                  else
                    none
                else
                  none
              else
                none
set_option maxRecDepth 100000 in
set_option maxHeartbeats 4000000 in
theorem e224_2 (z : Nat) : ∀ (n : Nat) (x1 : Int32) (M : aM) (r : aR), f224_2 z n x1 M = some r → am_Ev 9 224 2 [some (.inr (.inr (11, 205))), some (.inl x1), none] [] M r := by
  intro n
  induction n with
  | zero =>
    intro x1 M r h
    cases h
  | succ n ih =>
    intro x1 M r h
    exact am_Ev_seg (sem := am_s224_ z) (cut := ([(2, [true, true, false]), (66, [true, true, false])] : List (Nat × List Bool))) (hs224 z) am_r224 am_k224 (by rw [am_l224]; decide) (fun pc al st M => (match Nat.beq pc 2 with
      | true => (match al, st with
        | [some (.inr (.inr (11, 205))), some (.inl x1), none], [] => f224_2 z n x1 M
        | _, _ => none)
      | false => (match Nat.beq pc 66 with
      | true => (match al, st with
        | [some (.inr (.inr (11, 205))), some (.inl x1), none], [] => f224_66 z z x1 M
        | _, _ => none)
      | false => none))) 36 h (fun pc al st M hk => by
      try dsimp only at hk
      split at hk
      · rename_i he
        rw [am_beq he]
        split at hk
        · exact ih _ _ _ hk
        · cases hk
      · skip
        split at hk
        · rename_i he
          rw [am_beq he]
          split at hk
          · exact e224_66 z _ _ _ _ hk
          · cases hk
        · cases hk)
/-- ArgumentMenderModel.goAll()V -/
def f224 (z : Nat) (M : aM) : Option aR :=
  f224_2 z z (0 : Int32) M
set_option maxRecDepth 100000 in
set_option maxHeartbeats 4000000 in
theorem e224 (z : Nat) : ∀ (M : aM) (r : aR), f224 z  M = some r → am_Ev 9 224 0 [some (.inr (.inr (11, 205))), none, none] [] M r := by
  intro  M r h
  exact am_Ev_seg (sem := am_s224_ z) (cut := ([(2, [true, true, false])] : List (Nat × List Bool))) (hs224 z) am_r224 am_k224 (by rw [am_l224]; decide) (fun pc al st M => (match Nat.beq pc 2 with
      | true => (match al, st with
        | [some (.inr (.inr (11, 205))), some (.inl x1), none], [] => f224_2 z z x1 M
        | _, _ => none)
      | false => none)) 4 h (fun pc al st M hk => by
      try dsimp only at hk
      split at hk
      · rename_i he
        rw [am_beq he]
        split at hk
        · exact e224_2 z _ _ _ _ hk
        · cases hk
      · cases hk)
def F224 (z : Nat) (as : List aV) (M : aM) : Option aR := match as with
  | [.inr (.inr (11, 205))] => f224 z  M
  | _ => none
theorem S224 (z : Nat) : am_Snd 9 224 (F224 z) := am_meth (by decide +kernel) (fun as M r has h => by
    rw [am_l224]
    unfold F224 at h
    split at h
    · exact ⟨Nat.le_of_ble_eq_true rfl, e224 z _ _ h⟩
    · cases h)
def cd225_0 : List am_E := [(0, .aload_n 0, 1, 0, 0, 0, 0), (1, .invokevirtual 329, 3, 211, 11004, 0, 0), (4, .aload_n 0, 1, 0, 0, 0, 0), (5, .invokevirtual 332, 3, 224, 11004, 0, 0), (8, .aload_n 0, 1, 0, 0, 0, 0), (9, .invokevirtual 107, 3, 175, 11000, 0, 0), (12, .ireturn, 1, 0, 0, 0, 0)]
def cd225 : List am_E := cd225_0
def am_w225 : List (List (Int32 × Nat) × Nat) := []
set_option maxRecDepth 100000 in
theorem kcd225_0 : cd225_0.all (am_chk am_w225 225) = true := by decide +kernel
theorem am_k225 : cd225.all (am_chk am_w225 225) = true := by
  simp only [cd225, List.all_append, kcd225_0, Bool.and_self]
theorem am_r225 : am_rtc 225 = 1 := by decide +kernel
theorem am_l225 : am_ml 225 = 1 := by decide +kernel
def am_s225_ (z : Nat) : Nat → List aV → aM → Option aR := fun j => (match Nat.beq j 175 with
  | true => F175 z
  | false => (match Nat.beq j 211 with
  | true => F211 z
  | false => (match Nat.beq j 224 with
  | true => F224 z
  | false => (fun _ _ => none))))
theorem hs225 (z : Nat) : ∀ j2 : Nat, ∃ d2 : Nat, d2 + 1 ≤ 10 ∧ am_Snd d2 j2 (am_s225_ z j2) := by
  intro j2
  unfold am_s225_
  split
  · rename_i he
    rw [am_beq he]
    exact ⟨_, by decide, S175 z⟩
  · skip
    split
    · rename_i he
      rw [am_beq he]
      exact ⟨_, by decide, S211 z⟩
    · skip
      split
      · rename_i he
        rw [am_beq he]
        exact ⟨_, by decide, S224 z⟩
      · skip
        exact ⟨0, by decide, am_Snd_no j2⟩
/-- ArgumentMenderModel.asksCloth()Z -/
def f225 (z : Nat) (M : aM) : Option aR :=
  am_bv (f211 z M) fun M1 =>
    am_bv (f224 z M1) fun M2 =>
      am_bi (f175 z M2) fun v4 M3 =>
        some (some (.inl (v4 &&& 1)), M3)
set_option maxRecDepth 100000 in
set_option maxHeartbeats 4000000 in
theorem e225 (z : Nat) : ∀ (M : aM) (r : aR), f225 z  M = some r → am_Ev 10 225 0 [some (.inr (.inr (11, 205)))] [] M r := by
  intro  M r h
  exact am_Ev_seg (sem := am_s225_ z) (cut := ([] : List (Nat × List Bool))) (hs225 z) am_r225 am_k225 (by rw [am_l225]; decide) (fun _ _ _ _ => none) 8 h (fun _ _ _ _ hk => by cases hk)
def F225 (z : Nat) (as : List aV) (M : aM) : Option aR := match as with
  | [.inr (.inr (11, 205))] => f225 z  M
  | _ => none
theorem S225 (z : Nat) : am_Snd 10 225 (F225 z) := am_meth (by decide +kernel) (fun as M r has h => by
    rw [am_l225]
    unfold F225 at h
    split at h
    · exact ⟨Nat.le_of_ble_eq_true rfl, e225 z _ _ h⟩
    · cases h)
def cd226_0 : List am_E := [(0, .aload_n 0, 1, 0, 0, 0, 0), (1, .invokevirtual 335, 3, 225, 11000, 0, 0), (4, .pop, 1, 0, 0, 0, 0), (5, .aload_n 0, 1, 0, 0, 0, 0), (6, .iload_n 1, 1, 1, 0, 0, 0), (7, .i2l, 1, 0, 0, 0, 0), (8, .invokevirtual 338, 3, 180, 11010, 0, 0), (11, .ireturn, 1, 0, 0, 0, 0)]
def cd226 : List am_E := cd226_0
def am_w226 : List (List (Int32 × Nat) × Nat) := []
set_option maxRecDepth 100000 in
theorem kcd226_0 : cd226_0.all (am_chk am_w226 226) = true := by decide +kernel
theorem am_k226 : cd226.all (am_chk am_w226 226) = true := by
  simp only [cd226, List.all_append, kcd226_0, Bool.and_self]
theorem am_r226 : am_rtc 226 = 1 := by decide +kernel
theorem am_l226 : am_ml 226 = 2 := by decide +kernel
def am_s226_ (z : Nat) : Nat → List aV → aM → Option aR := fun j => (match Nat.beq j 180 with
  | true => F180 z
  | false => (match Nat.beq j 225 with
  | true => F225 z
  | false => (fun _ _ => none)))
theorem hs226 (z : Nat) : ∀ j2 : Nat, ∃ d2 : Nat, d2 + 1 ≤ 11 ∧ am_Snd d2 j2 (am_s226_ z j2) := by
  intro j2
  unfold am_s226_
  split
  · rename_i he
    rw [am_beq he]
    exact ⟨_, by decide, S180 z⟩
  · skip
    split
    · rename_i he
      rw [am_beq he]
      exact ⟨_, by decide, S225 z⟩
    · skip
      exact ⟨0, by decide, am_Snd_no j2⟩
/-- ArgumentMenderModel.asksYear(I)Z -/
def f226 (z : Nat) (x1 : Int32) (M : aM) : Option aR :=
  am_bi (f225 z M) fun v2 M1 =>
    am_bi (f180 z (Int32.toInt64 x1) M1) fun v4 M3 =>
      some (some (.inl (v4 &&& 1)), M3)
set_option maxRecDepth 100000 in
set_option maxHeartbeats 4000000 in
theorem e226 (z : Nat) : ∀ (x1 : Int32) (M : aM) (r : aR), f226 z x1 M = some r → am_Ev 11 226 0 [some (.inr (.inr (11, 205))), some (.inl x1)] [] M r := by
  intro x1 M r h
  exact am_Ev_seg (sem := am_s226_ z) (cut := ([] : List (Nat × List Bool))) (hs226 z) am_r226 am_k226 (by rw [am_l226]; decide) (fun _ _ _ _ => none) 9 h (fun _ _ _ _ hk => by cases hk)
def F226 (z : Nat) (as : List aV) (M : aM) : Option aR := match as with
  | [.inr (.inr (11, 205)), .inl x1] => f226 z x1 M
  | _ => none
theorem S226 (z : Nat) : am_Snd 11 226 (F226 z) := am_meth (by decide +kernel) (fun as M r has h => by
    rw [am_l226]
    unfold F226 at h
    split at h
    · exact ⟨Nat.le_of_ble_eq_true rfl, e226 z _ _ _ h⟩
    · cases h)
def cd227_0 : List am_E := [(0, .aload_n 0, 1, 0, 0, 0, 0), (1, .getfield 52, 3, 11, 28, 0, 0), (4, .bipush 16, 2, 0, 0, 16, 0), (6, .iload_n 2, 1, 2, 0, 0, 0), (7, .imul, 1, 0, 0, 0, 0), (8, .iload_n 1, 1, 1, 0, 0, 0), (9, .iadd, 1, 0, 0, 0, 0), (10, .iaload, 1, 0, 0, 0, 0), (11, .ireturn, 1, 0, 0, 0, 0)]
def cd227 : List am_E := cd227_0
def am_w227 : List (List (Int32 × Nat) × Nat) := []
set_option maxRecDepth 100000 in
theorem kcd227_0 : cd227_0.all (am_chk am_w227 227) = true := by decide +kernel
theorem am_k227 : cd227.all (am_chk am_w227 227) = true := by
  simp only [cd227, List.all_append, kcd227_0, Bool.and_self]
theorem am_r227 : am_rtc 227 = 0 := by decide +kernel
theorem am_l227 : am_ml 227 = 3 := by decide +kernel
def am_s227_ (z : Nat) : Nat → List aV → aM → Option aR := fun j => (fun _ _ => none)
theorem hs227 (z : Nat) : ∀ j2 : Nat, ∃ d2 : Nat, d2 + 1 ≤ 1 ∧ am_Snd d2 j2 (am_s227_ z j2) := by
  intro j2
  unfold am_s227_
  exact ⟨0, by decide, am_Snd_no j2⟩
/-- ArgumentMenderModel.strengthOf(II)I -/
def f227 (z : Nat) (x1 : Int32) (x2 : Int32) (M : aM) : Option aR :=
  if am_inB (((16 : Int32) * x2) + x1) 208 then
    some (some (.inl (M.1 218 (((16 : Int32) * x2) + x1).toNatClampNeg)), M)
  else
    none
set_option maxRecDepth 100000 in
set_option maxHeartbeats 4000000 in
theorem e227 (z : Nat) : ∀ (x1 : Int32) (x2 : Int32) (M : aM) (r : aR), f227 z x1 x2 M = some r → am_Ev 1 227 0 [some (.inr (.inr (11, 205))), some (.inl x1), some (.inl x2)] [] M r := by
  intro x1 x2 M r h
  exact am_Ev_seg (sem := am_s227_ z) (cut := ([] : List (Nat × List Bool))) (hs227 z) am_r227 am_k227 (by rw [am_l227]; decide) (fun _ _ _ _ => none) 10 h (fun _ _ _ _ hk => by cases hk)
def F227 (z : Nat) (as : List aV) (M : aM) : Option aR := match as with
  | [.inr (.inr (11, 205)), .inl x1, .inl x2] => f227 z x1 x2 M
  | _ => none
theorem S227 (z : Nat) : am_Snd 1 227 (F227 z) := am_meth (by decide +kernel) (fun as M r has h => by
    rw [am_l227]
    unfold F227 at h
    split at h
    · exact ⟨Nat.le_of_ble_eq_true rfl, e227 z _ _ _ _ h⟩
    · cases h)
def cd228_0 : List am_E := [(0, .iconst 0, 1, 0, 0, 0, 0), (1, .istore_n 2, 1, 2, 0, 0, 0), (2, .iconst 0, 1, 0, 0, 0, 0), (3, .istore_n 3, 1, 3, 0, 0, 0), (4, .iload_n 3, 1, 3, 0, 0, 0), (5, .aload_n 0, 1, 0, 0, 0, 0), (6, .invokevirtual 118, 3, 178, 11000, 0, 0), (9, .if_icmp .ge 28, 3, 37, 0, 0, 0), (12, .iload_n 2, 1, 2, 0, 0, 0), (13, .aload_n 0, 1, 0, 0, 0, 0), (14, .iload_n 3, 1, 3, 0, 0, 0), (15, .iload_n 1, 1, 1, 0, 0, 0), (16, .invokevirtual 341, 3, 227, 11020, 0, 0), (19, .ifCond .ne 9, 3, 28, 0, 0, 0), (22, .iconst 1, 1, 0, 0, 1, 0), (23, .iload_n 3, 1, 3, 0, 0, 0), (24, .ishl, 1, 0, 0, 0, 0), (25, .goto 4, 3, 29, 0, 0, 0), (28, .iconst 0, 1, 0, 0, 0, 0), (29, .ior, 1, 0, 0, 0, 0), (30, .istore_n 2, 1, 2, 0, 0, 0), (31, .iinc 3 1, 3, 3, 0, 1, 0), (34, .goto (-30), 3, 4, 0, 0, 0), (37, .iload_n 2, 1, 2, 0, 0, 0), (38, .ireturn, 1, 0, 0, 0, 0)]
def cd228 : List am_E := cd228_0
def am_w228 : List (List (Int32 × Nat) × Nat) := []
set_option maxRecDepth 100000 in
theorem kcd228_0 : cd228_0.all (am_chk am_w228 228) = true := by decide +kernel
theorem am_k228 : cd228.all (am_chk am_w228 228) = true := by
  simp only [cd228, List.all_append, kcd228_0, Bool.and_self]
theorem am_r228 : am_rtc 228 = 0 := by decide +kernel
theorem am_l228 : am_ml 228 = 4 := by decide +kernel
def am_s228_ (z : Nat) : Nat → List aV → aM → Option aR := fun j => (match Nat.beq j 178 with
  | true => F178 z
  | false => (match Nat.beq j 227 with
  | true => F227 z
  | false => (fun _ _ => none)))
theorem hs228 (z : Nat) : ∀ j2 : Nat, ∃ d2 : Nat, d2 + 1 ≤ 2 ∧ am_Snd d2 j2 (am_s228_ z j2) := by
  intro j2
  unfold am_s228_
  split
  · rename_i he
    rw [am_beq he]
    exact ⟨_, by decide, S178 z⟩
  · skip
    split
    · rename_i he
      rw [am_beq he]
      exact ⟨_, by decide, S227 z⟩
    · skip
      exact ⟨0, by decide, am_Snd_no j2⟩
def f228_4 (z : Nat) : Nat → Int32 → Int32 → Int32 → aM → Option aR
  | 0, _, _, _, _ => none
  | n + 1, x1, x2, x3, M =>
    am_bi (f178 z M) fun v2 M1 =>
      if v2 ≤ x3 then
        some (some (.inl x2), M1)
      else
        am_bi (f227 z x3 x1 M1) fun v4 M3 =>
          if ¬ v4 = 0 then
            f228_4 z n x1 (x2 ||| (0 : Int32)) (x3 + (1 : Int32)) M3
          else
            f228_4 z n x1 (x2 ||| ((1 : Int32) <<< (x3 &&& 31))) (x3 + (1 : Int32)) M3
set_option maxRecDepth 100000 in
set_option maxHeartbeats 4000000 in
theorem e228_4 (z : Nat) : ∀ (n : Nat) (x1 : Int32) (x2 : Int32) (x3 : Int32) (M : aM) (r : aR), f228_4 z n x1 x2 x3 M = some r → am_Ev 2 228 4 [some (.inr (.inr (11, 205))), some (.inl x1), some (.inl x2), some (.inl x3)] [] M r := by
  intro n
  induction n with
  | zero =>
    intro x1 x2 x3 M r h
    cases h
  | succ n ih =>
    intro x1 x2 x3 M r h
    exact am_Ev_seg (sem := am_s228_ z) (cut := ([(4, [true, true, true, true])] : List (Nat × List Bool))) (hs228 z) am_r228 am_k228 (by rw [am_l228]; decide) (fun pc al st M => (match Nat.beq pc 4 with
      | true => (match al, st with
        | [some (.inr (.inr (11, 205))), some (.inl x1), some (.inl x2), some (.inl x3)], [] => f228_4 z n x1 x2 x3 M
        | _, _ => none)
      | false => none)) 20 h (fun pc al st M hk => by
      try dsimp only at hk
      split at hk
      · rename_i he
        rw [am_beq he]
        split at hk
        · exact ih _ _ _ _ _ hk
        · cases hk
      · cases hk)
/-- ArgumentMenderModel.tornIn(I)I -/
def f228 (z : Nat) (x1 : Int32) (M : aM) : Option aR :=
  f228_4 z z x1 (0 : Int32) (0 : Int32) M
set_option maxRecDepth 100000 in
set_option maxHeartbeats 4000000 in
theorem e228 (z : Nat) : ∀ (x1 : Int32) (M : aM) (r : aR), f228 z x1 M = some r → am_Ev 2 228 0 [some (.inr (.inr (11, 205))), some (.inl x1), none, none] [] M r := by
  intro x1 M r h
  exact am_Ev_seg (sem := am_s228_ z) (cut := ([(4, [true, true, true, true])] : List (Nat × List Bool))) (hs228 z) am_r228 am_k228 (by rw [am_l228]; decide) (fun pc al st M => (match Nat.beq pc 4 with
      | true => (match al, st with
        | [some (.inr (.inr (11, 205))), some (.inl x1), some (.inl x2), some (.inl x3)], [] => f228_4 z z x1 x2 x3 M
        | _, _ => none)
      | false => none)) 6 h (fun pc al st M hk => by
      try dsimp only at hk
      split at hk
      · rename_i he
        rw [am_beq he]
        split at hk
        · exact e228_4 z _ _ _ _ _ _ hk
        · cases hk
      · cases hk)
def F228 (z : Nat) (as : List aV) (M : aM) : Option aR := match as with
  | [.inr (.inr (11, 205)), .inl x1] => f228 z x1 M
  | _ => none
theorem S228 (z : Nat) : am_Snd 2 228 (F228 z) := am_meth (by decide +kernel) (fun as M r has h => by
    rw [am_l228]
    unfold F228 at h
    split at h
    · exact ⟨Nat.le_of_ble_eq_true rfl, e228 z _ _ _ h⟩
    · cases h)
def cd229_0 : List am_E := [(0, .iconst 1, 1, 0, 0, 1, 0), (1, .aload_n 0, 1, 0, 0, 0, 0), (2, .invokevirtual 118, 3, 178, 11000, 0, 0), (5, .ishl, 1, 0, 0, 0, 0), (6, .iconst 1, 1, 0, 0, 1, 0), (7, .isub, 1, 0, 0, 0, 0), (8, .aload_n 0, 1, 0, 0, 0, 0), (9, .iload_n 1, 1, 1, 0, 0, 0), (10, .invokevirtual 344, 3, 228, 11010, 0, 0), (13, .iconst (-1), 1, 0, 0, (-1), 0), (14, .ixor, 1, 0, 0, 0, 0), (15, .iand, 1, 0, 0, 0, 0), (16, .ireturn, 1, 0, 0, 0, 0)]
def cd229 : List am_E := cd229_0
def am_w229 : List (List (Int32 × Nat) × Nat) := []
set_option maxRecDepth 100000 in
theorem kcd229_0 : cd229_0.all (am_chk am_w229 229) = true := by decide +kernel
theorem am_k229 : cd229.all (am_chk am_w229 229) = true := by
  simp only [cd229, List.all_append, kcd229_0, Bool.and_self]
theorem am_r229 : am_rtc 229 = 0 := by decide +kernel
theorem am_l229 : am_ml 229 = 2 := by decide +kernel
def am_s229_ (z : Nat) : Nat → List aV → aM → Option aR := fun j => (match Nat.beq j 178 with
  | true => F178 z
  | false => (match Nat.beq j 228 with
  | true => F228 z
  | false => (fun _ _ => none)))
theorem hs229 (z : Nat) : ∀ j2 : Nat, ∃ d2 : Nat, d2 + 1 ≤ 3 ∧ am_Snd d2 j2 (am_s229_ z j2) := by
  intro j2
  unfold am_s229_
  split
  · rename_i he
    rw [am_beq he]
    exact ⟨_, by decide, S178 z⟩
  · skip
    split
    · rename_i he
      rw [am_beq he]
      exact ⟨_, by decide, S228 z⟩
    · skip
      exact ⟨0, by decide, am_Snd_no j2⟩
/-- ArgumentMenderModel.wholeIn(I)I -/
def f229 (z : Nat) (x1 : Int32) (M : aM) : Option aR :=
  am_bi (f178 z M) fun v2 M1 =>
    am_bi (f228 z x1 M1) fun v4 M3 =>
      some (some (.inl ((((1 : Int32) <<< (v2 &&& 31)) - (1 : Int32)) &&& (v4 ^^^ (-1 : Int32)))), M3)
set_option maxRecDepth 100000 in
set_option maxHeartbeats 4000000 in
theorem e229 (z : Nat) : ∀ (x1 : Int32) (M : aM) (r : aR), f229 z x1 M = some r → am_Ev 3 229 0 [some (.inr (.inr (11, 205))), some (.inl x1)] [] M r := by
  intro x1 M r h
  exact am_Ev_seg (sem := am_s229_ z) (cut := ([] : List (Nat × List Bool))) (hs229 z) am_r229 am_k229 (by rw [am_l229]; decide) (fun _ _ _ _ => none) 14 h (fun _ _ _ _ hk => by cases hk)
def F229 (z : Nat) (as : List aV) (M : aM) : Option aR := match as with
  | [.inr (.inr (11, 205)), .inl x1] => f229 z x1 M
  | _ => none
theorem S229 (z : Nat) : am_Snd 3 229 (F229 z) := am_meth (by decide +kernel) (fun as M r has h => by
    rw [am_l229]
    unfold F229 at h
    split at h
    · exact ⟨Nat.le_of_ble_eq_true rfl, e229 z _ _ _ h⟩
    · cases h)
def cd230_0 : List am_E := [(0, .iconst 0, 1, 0, 0, 0, 0), (1, .istore_n 2, 1, 2, 0, 0, 0), (2, .iconst 0, 1, 0, 0, 0, 0), (3, .istore_n 3, 1, 3, 0, 0, 0), (4, .iload_n 3, 1, 3, 0, 0, 0), (5, .aload_n 0, 1, 0, 0, 0, 0), (6, .invokevirtual 115, 3, 177, 11000, 0, 0), (9, .if_icmp .ge 101, 3, 110, 0, 0, 0), (12, .iconst 0, 1, 0, 0, 0, 0), (13, .istore 4, 2, 4, 0, 0, 0), (15, .iconst 0, 1, 0, 0, 0, 0), (16, .istore 5, 2, 5, 0, 0, 0), (18, .iload 5, 2, 5, 0, 0, 0), (20, .aload_n 0, 1, 0, 0, 0, 0), (21, .invokevirtual 118, 3, 178, 11000, 0, 0), (24, .if_icmp .ge 65, 3, 89, 0, 0, 0), (27, .iload 4, 2, 4, 0, 0, 0), (29, .ifCond .ne 47, 3, 76, 0, 0, 0), (32, .iload_n 1, 1, 1, 0, 0, 0), (33, .iload 5, 2, 5, 0, 0, 0), (35, .invokestatic 300, 3, 172, 25, 0, 0), (38, .iconst 1, 1, 0, 0, 1, 0), (39, .if_icmp .ne 41, 3, 80, 0, 0, 0), (42, .aload_n 0, 1, 0, 0, 0, 0), (43, .iload 5, 2, 5, 0, 0, 0), (45, .invokevirtual 252, 3, 185, 11010, 0, 0), (48, .iload_n 3, 1, 3, 0, 0, 0), (49, .if_icmp .ne 31, 3, 80, 0, 0, 0), (52, .aload_n 0, 1, 0, 0, 0, 0), (53, .iload 5, 2, 5, 0, 0, 0), (55, .invokevirtual 291, 3, 186, 11010, 0, 0), (58, .iconst (-1), 1, 0, 0, (-1), 0), (59, .if_icmp .eq 17, 3, 76, 0, 0, 0), (62, .iload_n 2, 1, 2, 0, 0, 0), (63, .aload_n 0, 1, 0, 0, 0, 0), (64, .iload 5, 2, 5, 0, 0, 0), (66, .invokevirtual 291, 3, 186, 11010, 0, 0), (69, .invokestatic 300, 3, 172, 25, 0, 0), (72, .iconst 1, 1, 0, 0, 1, 0), (73, .if_icmp .ne 7, 3, 80, 0, 0, 0)]
def cd230_1 : List am_E := [(76, .iconst 1, 1, 0, 0, 1, 0), (77, .goto 4, 3, 81, 0, 0, 0), (80, .iconst 0, 1, 0, 0, 0, 0), (81, .istore 4, 2, 4, 0, 0, 0), (83, .iinc 5 1, 3, 5, 0, 1, 0), (86, .goto (-68), 3, 18, 0, 0, 0), (89, .iload_n 2, 1, 2, 0, 0, 0), (90, .iload 4, 2, 4, 0, 0, 0), (92, .ifCond .eq 9, 3, 101, 0, 0, 0), (95, .iconst 1, 1, 0, 0, 1, 0), (96, .iload_n 3, 1, 3, 0, 0, 0), (97, .ishl, 1, 0, 0, 0, 0), (98, .goto 4, 3, 102, 0, 0, 0), (101, .iconst 0, 1, 0, 0, 0, 0), (102, .ior, 1, 0, 0, 0, 0), (103, .istore_n 2, 1, 2, 0, 0, 0), (104, .iinc 3 1, 3, 3, 0, 1, 0), (107, .goto (-103), 3, 4, 0, 0, 0), (110, .iload_n 2, 1, 2, 0, 0, 0), (111, .ireturn, 1, 0, 0, 0, 0)]
def cd230 : List am_E := cd230_0 ++ (cd230_1)
def am_w230 : List (List (Int32 × Nat) × Nat) := []
set_option maxRecDepth 100000 in
theorem kcd230_0 : cd230_0.all (am_chk am_w230 230) = true := by decide +kernel
set_option maxRecDepth 100000 in
theorem kcd230_1 : cd230_1.all (am_chk am_w230 230) = true := by decide +kernel
theorem am_k230 : cd230.all (am_chk am_w230 230) = true := by
  simp only [cd230, List.all_append, kcd230_0, kcd230_1, Bool.and_self]
theorem am_r230 : am_rtc 230 = 0 := by decide +kernel
theorem am_l230 : am_ml 230 = 6 := by decide +kernel
def am_s230_ (z : Nat) : Nat → List aV → aM → Option aR := fun j => (match Nat.beq j 172 with
  | true => F172 z
  | false => (match Nat.beq j 177 with
  | true => F177 z
  | false => (match Nat.beq j 178 with
  | true => F178 z
  | false => (match Nat.beq j 185 with
  | true => F185 z
  | false => (match Nat.beq j 186 with
  | true => F186 z
  | false => (fun _ _ => none))))))
theorem hs230 (z : Nat) : ∀ j2 : Nat, ∃ d2 : Nat, d2 + 1 ≤ 2 ∧ am_Snd d2 j2 (am_s230_ z j2) := by
  intro j2
  unfold am_s230_
  split
  · rename_i he
    rw [am_beq he]
    exact ⟨_, by decide, S172 z⟩
  · skip
    split
    · rename_i he
      rw [am_beq he]
      exact ⟨_, by decide, S177 z⟩
    · skip
      split
      · rename_i he
        rw [am_beq he]
        exact ⟨_, by decide, S178 z⟩
      · skip
        split
        · rename_i he
          rw [am_beq he]
          exact ⟨_, by decide, S185 z⟩
        · skip
          split
          · rename_i he
            rw [am_beq he]
            exact ⟨_, by decide, S186 z⟩
          · skip
            exact ⟨0, by decide, am_Snd_no j2⟩
def f230_18 (z : Nat) (k4 : Int32 → Int32 → Int32 → aM → Option aR) : Nat → Int32 → Int32 → Int32 → Int32 → Int32 → aM → Option aR
  | 0, _, _, _, _, _, _ => none
  | n + 1, x1, x2, x3, x4, x5, M =>
    am_bi (f178 z M) fun v2 M1 =>
      if v2 ≤ x5 then
        if x4 = 0 then
          k4 x1 (x2 ||| (0 : Int32)) (x3 + (1 : Int32)) M1
        else
          k4 x1 (x2 ||| ((1 : Int32) <<< (x3 &&& 31))) (x3 + (1 : Int32)) M1
      else
        if ¬ x4 = 0 then
          f230_18 z k4 n x1 x2 x3 (1 : Int32) (x5 + (1 : Int32)) M1
        else
          am_bi (f172 z x1 x5 M1) fun v4 M3 =>
            if ¬ v4 = (1 : Int32) then
              f230_18 z k4 n x1 x2 x3 (0 : Int32) (x5 + (1 : Int32)) M3
            else
              am_bi (f185 z x5 M3) fun v6 M5 =>
                if ¬ v6 = x3 then
                  f230_18 z k4 n x1 x2 x3 (0 : Int32) (x5 + (1 : Int32)) M5
                else
                  am_bi (f186 z x5 M5) fun v8 M7 =>
                    if v8 = (-1 : Int32) then
                      f230_18 z k4 n x1 x2 x3 (1 : Int32) (x5 + (1 : Int32)) M7
                    else
                      am_bi (f186 z x5 M7) fun v10 M9 =>
                        am_bi (f172 z x2 v10 M9) fun v12 M11 =>
                          if ¬ v12 = (1 : Int32) then
                            f230_18 z k4 n x1 x2 x3 (0 : Int32) (x5 + (1 : Int32)) M11
                          else
                            f230_18 z k4 n x1 x2 x3 (1 : Int32) (x5 + (1 : Int32)) M11
set_option maxRecDepth 100000 in
set_option maxHeartbeats 4000000 in
theorem e230_18 (z : Nat) (k4 : Int32 → Int32 → Int32 → aM → Option aR) (hk4 : ∀ (x1 : Int32) (x2 : Int32) (x3 : Int32) (M : aM) (r : aR), k4 x1 x2 x3 M = some r → am_Ev 2 230 4 [some (.inr (.inr (11, 205))), some (.inl x1), some (.inl x2), some (.inl x3), none, none] [] M r) : ∀ (n : Nat) (x1 : Int32) (x2 : Int32) (x3 : Int32) (x4 : Int32) (x5 : Int32) (M : aM) (r : aR), f230_18 z k4 n x1 x2 x3 x4 x5 M = some r → am_Ev 2 230 18 [some (.inr (.inr (11, 205))), some (.inl x1), some (.inl x2), some (.inl x3), some (.inl x4), some (.inl x5)] [] M r := by
  intro n
  induction n with
  | zero =>
    intro x1 x2 x3 x4 x5 M r h
    cases h
  | succ n ih =>
    intro x1 x2 x3 x4 x5 M r h
    exact am_Ev_seg (sem := am_s230_ z) (cut := ([(4, [true, true, true, true, false, false]), (18, [true, true, true, true, true, true])] : List (Nat × List Bool))) (hs230 z) am_r230 am_k230 (by rw [am_l230]; decide) (fun pc al st M => (match Nat.beq pc 4 with
      | true => (match al, st with
        | [some (.inr (.inr (11, 205))), some (.inl x1), some (.inl x2), some (.inl x3), none, none], [] => k4 x1 x2 x3 M
        | _, _ => none)
      | false => (match Nat.beq pc 18 with
      | true => (match al, st with
        | [some (.inr (.inr (11, 205))), some (.inl x1), some (.inl x2), some (.inl x3), some (.inl x4), some (.inl x5)], [] => f230_18 z k4 n x1 x2 x3 x4 x5 M
        | _, _ => none)
      | false => none))) 35 h (fun pc al st M hk => by
      try dsimp only at hk
      split at hk
      · rename_i he
        rw [am_beq he]
        split at hk
        · exact hk4 _ _ _ _ _ hk
        · cases hk
      · skip
        split at hk
        · rename_i he
          rw [am_beq he]
          split at hk
          · exact ih _ _ _ _ _ _ _ hk
          · cases hk
        · cases hk)
def f230_4 (z : Nat) : Nat → Int32 → Int32 → Int32 → aM → Option aR
  | 0, _, _, _, _ => none
  | n + 1, x1, x2, x3, M =>
    am_bi (f177 z M) fun v2 M1 =>
      if v2 ≤ x3 then
        some (some (.inl x2), M1)
      else
        f230_18 z (f230_4 z n) z x1 x2 x3 (0 : Int32) (0 : Int32) M1
set_option maxRecDepth 100000 in
set_option maxHeartbeats 4000000 in
theorem e230_4 (z : Nat) : ∀ (n : Nat) (x1 : Int32) (x2 : Int32) (x3 : Int32) (M : aM) (r : aR), f230_4 z n x1 x2 x3 M = some r → am_Ev 2 230 4 [some (.inr (.inr (11, 205))), some (.inl x1), some (.inl x2), some (.inl x3), none, none] [] M r := by
  intro n
  induction n with
  | zero =>
    intro x1 x2 x3 M r h
    cases h
  | succ n ih =>
    intro x1 x2 x3 M r h
    exact am_Ev_seg (sem := am_s230_ z) (cut := ([(18, [true, true, true, true, true, true])] : List (Nat × List Bool))) (hs230 z) am_r230 am_k230 (by rw [am_l230]; decide) (fun pc al st M => (match Nat.beq pc 18 with
      | true => (match al, st with
        | [some (.inr (.inr (11, 205))), some (.inl x1), some (.inl x2), some (.inl x3), some (.inl x4), some (.inl x5)], [] => f230_18 z (f230_4 z n) z x1 x2 x3 x4 x5 M
        | _, _ => none)
      | false => none)) 10 h (fun pc al st M hk => by
      try dsimp only at hk
      split at hk
      · rename_i he
        rw [am_beq he]
        split at hk
        · exact e230_18 z _ ih _ _ _ _ _ _ _ _ hk
        · cases hk
      · cases hk)
/-- ArgumentMenderModel.hungBy(I)I -/
def f230 (z : Nat) (x1 : Int32) (M : aM) : Option aR :=
  f230_4 z z x1 (0 : Int32) (0 : Int32) M
set_option maxRecDepth 100000 in
set_option maxHeartbeats 4000000 in
theorem e230 (z : Nat) : ∀ (x1 : Int32) (M : aM) (r : aR), f230 z x1 M = some r → am_Ev 2 230 0 [some (.inr (.inr (11, 205))), some (.inl x1), none, none, none, none] [] M r := by
  intro x1 M r h
  exact am_Ev_seg (sem := am_s230_ z) (cut := ([(4, [true, true, true, true, false, false])] : List (Nat × List Bool))) (hs230 z) am_r230 am_k230 (by rw [am_l230]; decide) (fun pc al st M => (match Nat.beq pc 4 with
      | true => (match al, st with
        | [some (.inr (.inr (11, 205))), some (.inl x1), some (.inl x2), some (.inl x3), none, none], [] => f230_4 z z x1 x2 x3 M
        | _, _ => none)
      | false => none)) 6 h (fun pc al st M hk => by
      try dsimp only at hk
      split at hk
      · rename_i he
        rw [am_beq he]
        split at hk
        · exact e230_4 z _ _ _ _ _ _ hk
        · cases hk
      · cases hk)
def F230 (z : Nat) (as : List aV) (M : aM) : Option aR := match as with
  | [.inr (.inr (11, 205)), .inl x1] => f230 z x1 M
  | _ => none
theorem S230 (z : Nat) : am_Snd 2 230 (F230 z) := am_meth (by decide +kernel) (fun as M r has h => by
    rw [am_l230]
    unfold F230 at h
    split at h
    · exact ⟨Nat.le_of_ble_eq_true rfl, e230 z _ _ _ h⟩
    · cases h)
def cd231_0 : List am_E := [(0, .aload_n 0, 1, 0, 0, 0, 0), (1, .aload_n 0, 1, 0, 0, 0, 0), (2, .iload_n 1, 1, 1, 0, 0, 0), (3, .invokevirtual 347, 3, 229, 11010, 0, 0), (6, .invokevirtual 350, 3, 230, 11010, 0, 0), (9, .ireturn, 1, 0, 0, 0, 0)]
def cd231 : List am_E := cd231_0
def am_w231 : List (List (Int32 × Nat) × Nat) := []
set_option maxRecDepth 100000 in
theorem kcd231_0 : cd231_0.all (am_chk am_w231 231) = true := by decide +kernel
theorem am_k231 : cd231.all (am_chk am_w231 231) = true := by
  simp only [cd231, List.all_append, kcd231_0, Bool.and_self]
theorem am_r231 : am_rtc 231 = 0 := by decide +kernel
theorem am_l231 : am_ml 231 = 2 := by decide +kernel
def am_s231_ (z : Nat) : Nat → List aV → aM → Option aR := fun j => (match Nat.beq j 229 with
  | true => F229 z
  | false => (match Nat.beq j 230 with
  | true => F230 z
  | false => (fun _ _ => none)))
theorem hs231 (z : Nat) : ∀ j2 : Nat, ∃ d2 : Nat, d2 + 1 ≤ 4 ∧ am_Snd d2 j2 (am_s231_ z j2) := by
  intro j2
  unfold am_s231_
  split
  · rename_i he
    rw [am_beq he]
    exact ⟨_, by decide, S229 z⟩
  · skip
    split
    · rename_i he
      rw [am_beq he]
      exact ⟨_, by decide, S230 z⟩
    · skip
      exact ⟨0, by decide, am_Snd_no j2⟩
/-- ArgumentMenderModel.hungIn(I)I -/
def f231 (z : Nat) (x1 : Int32) (M : aM) : Option aR :=
  am_bi (f229 z x1 M) fun v2 M1 =>
    am_bi (f230 z v2 M1) fun v4 M3 =>
      some (some (.inl v4), M3)
set_option maxRecDepth 100000 in
set_option maxHeartbeats 4000000 in
theorem e231 (z : Nat) : ∀ (x1 : Int32) (M : aM) (r : aR), f231 z x1 M = some r → am_Ev 4 231 0 [some (.inr (.inr (11, 205))), some (.inl x1)] [] M r := by
  intro x1 M r h
  exact am_Ev_seg (sem := am_s231_ z) (cut := ([] : List (Nat × List Bool))) (hs231 z) am_r231 am_k231 (by rw [am_l231]; decide) (fun _ _ _ _ => none) 7 h (fun _ _ _ _ hk => by cases hk)
def F231 (z : Nat) (as : List aV) (M : aM) : Option aR := match as with
  | [.inr (.inr (11, 205)), .inl x1] => f231 z x1 M
  | _ => none
theorem S231 (z : Nat) : am_Snd 4 231 (F231 z) := am_meth (by decide +kernel) (fun as M r has h => by
    rw [am_l231]
    unfold F231 at h
    split at h
    · exact ⟨Nat.le_of_ble_eq_true rfl, e231 z _ _ _ h⟩
    · cases h)
def cd232_0 : List am_E := [(0, .aload_n 0, 1, 0, 0, 0, 0), (1, .aload_n 0, 1, 0, 0, 0, 0), (2, .invokevirtual 111, 3, 176, 11000, 0, 0), (5, .invokevirtual 353, 3, 231, 11010, 0, 0), (8, .ireturn, 1, 0, 0, 0, 0)]
def cd232 : List am_E := cd232_0
def am_w232 : List (List (Int32 × Nat) × Nat) := []
set_option maxRecDepth 100000 in
theorem kcd232_0 : cd232_0.all (am_chk am_w232 232) = true := by decide +kernel
theorem am_k232 : cd232.all (am_chk am_w232 232) = true := by
  simp only [cd232, List.all_append, kcd232_0, Bool.and_self]
theorem am_r232 : am_rtc 232 = 0 := by decide +kernel
theorem am_l232 : am_ml 232 = 1 := by decide +kernel
def am_s232_ (z : Nat) : Nat → List aV → aM → Option aR := fun j => (match Nat.beq j 176 with
  | true => F176 z
  | false => (match Nat.beq j 231 with
  | true => F231 z
  | false => (fun _ _ => none)))
theorem hs232 (z : Nat) : ∀ j2 : Nat, ∃ d2 : Nat, d2 + 1 ≤ 5 ∧ am_Snd d2 j2 (am_s232_ z j2) := by
  intro j2
  unfold am_s232_
  split
  · rename_i he
    rw [am_beq he]
    exact ⟨_, by decide, S176 z⟩
  · skip
    split
    · rename_i he
      rw [am_beq he]
      exact ⟨_, by decide, S231 z⟩
    · skip
      exact ⟨0, by decide, am_Snd_no j2⟩
/-- ArgumentMenderModel.hungLast()I -/
def f232 (z : Nat) (M : aM) : Option aR :=
  am_bi (f176 z M) fun v2 M1 =>
    am_bi (f231 z v2 M1) fun v4 M3 =>
      some (some (.inl v4), M3)
set_option maxRecDepth 100000 in
set_option maxHeartbeats 4000000 in
theorem e232 (z : Nat) : ∀ (M : aM) (r : aR), f232 z  M = some r → am_Ev 5 232 0 [some (.inr (.inr (11, 205)))] [] M r := by
  intro  M r h
  exact am_Ev_seg (sem := am_s232_ z) (cut := ([] : List (Nat × List Bool))) (hs232 z) am_r232 am_k232 (by rw [am_l232]; decide) (fun _ _ _ _ => none) 6 h (fun _ _ _ _ hk => by cases hk)
def F232 (z : Nat) (as : List aV) (M : aM) : Option aR := match as with
  | [.inr (.inr (11, 205))] => f232 z  M
  | _ => none
theorem S232 (z : Nat) : am_Snd 5 232 (F232 z) := am_meth (by decide +kernel) (fun as M r has h => by
    rw [am_l232]
    unfold F232 at h
    split at h
    · exact ⟨Nat.le_of_ble_eq_true rfl, e232 z _ _ h⟩
    · cases h)
def cd233_0 : List am_E := [(0, .iconst 1, 1, 0, 0, 1, 0), (1, .aload_n 0, 1, 0, 0, 0, 0), (2, .invokevirtual 115, 3, 177, 11000, 0, 0), (5, .ishl, 1, 0, 0, 0, 0), (6, .iconst 1, 1, 0, 0, 1, 0), (7, .isub, 1, 0, 0, 0, 0), (8, .ireturn, 1, 0, 0, 0, 0)]
def cd233 : List am_E := cd233_0
def am_w233 : List (List (Int32 × Nat) × Nat) := []
set_option maxRecDepth 100000 in
theorem kcd233_0 : cd233_0.all (am_chk am_w233 233) = true := by decide +kernel
theorem am_k233 : cd233.all (am_chk am_w233 233) = true := by
  simp only [cd233, List.all_append, kcd233_0, Bool.and_self]
theorem am_r233 : am_rtc 233 = 0 := by decide +kernel
theorem am_l233 : am_ml 233 = 1 := by decide +kernel
def am_s233_ (z : Nat) : Nat → List aV → aM → Option aR := fun j => (match Nat.beq j 177 with
  | true => F177 z
  | false => (fun _ _ => none))
theorem hs233 (z : Nat) : ∀ j2 : Nat, ∃ d2 : Nat, d2 + 1 ≤ 2 ∧ am_Snd d2 j2 (am_s233_ z j2) := by
  intro j2
  unfold am_s233_
  split
  · rename_i he
    rw [am_beq he]
    exact ⟨_, by decide, S177 z⟩
  · skip
    exact ⟨0, by decide, am_Snd_no j2⟩
/-- ArgumentMenderModel.allClaims()I -/
def f233 (z : Nat) (M : aM) : Option aR :=
  am_bi (f177 z M) fun v2 M1 =>
    some (some (.inl (((1 : Int32) <<< (v2 &&& 31)) - (1 : Int32))), M1)
set_option maxRecDepth 100000 in
set_option maxHeartbeats 4000000 in
theorem e233 (z : Nat) : ∀ (M : aM) (r : aR), f233 z  M = some r → am_Ev 2 233 0 [some (.inr (.inr (11, 205)))] [] M r := by
  intro  M r h
  exact am_Ev_seg (sem := am_s233_ z) (cut := ([] : List (Nat × List Bool))) (hs233 z) am_r233 am_k233 (by rw [am_l233]; decide) (fun _ _ _ _ => none) 8 h (fun _ _ _ _ hk => by cases hk)
def F233 (z : Nat) (as : List aV) (M : aM) : Option aR := match as with
  | [.inr (.inr (11, 205))] => f233 z  M
  | _ => none
theorem S233 (z : Nat) : am_Snd 2 233 (F233 z) := am_meth (by decide +kernel) (fun as M r has h => by
    rw [am_l233]
    unfold F233 at h
    split at h
    · exact ⟨Nat.le_of_ble_eq_true rfl, e233 z _ _ h⟩
    · cases h)
def cd234_0 : List am_E := [(0, .aload_n 0, 1, 0, 0, 0, 0), (1, .iload_n 2, 1, 2, 0, 0, 0), (2, .invokevirtual 356, 3, 226, 11010, 0, 0), (5, .ifCond .eq 21, 3, 26, 0, 0, 0), (8, .aload_n 0, 1, 0, 0, 0, 0), (9, .iload_n 1, 1, 1, 0, 0, 0), (10, .i2l, 1, 0, 0, 0, 0), (11, .invokevirtual 241, 3, 183, 11010, 0, 0), (14, .ifCond .eq 12, 3, 26, 0, 0, 0), (17, .aload_n 0, 1, 0, 0, 0, 0), (18, .iload_n 1, 1, 1, 0, 0, 0), (19, .iload_n 2, 1, 2, 0, 0, 0), (20, .invokevirtual 341, 3, 227, 11020, 0, 0), (23, .goto 5, 3, 28, 0, 0, 0), (26, .bipush (-2), 2, 0, 0, (-2), 0), (28, .ireturn, 1, 0, 0, 0, 0)]
def cd234 : List am_E := cd234_0
def am_w234 : List (List (Int32 × Nat) × Nat) := []
set_option maxRecDepth 100000 in
theorem kcd234_0 : cd234_0.all (am_chk am_w234 234) = true := by decide +kernel
theorem am_k234 : cd234.all (am_chk am_w234 234) = true := by
  simp only [cd234, List.all_append, kcd234_0, Bool.and_self]
theorem am_r234 : am_rtc 234 = 0 := by decide +kernel
theorem am_l234 : am_ml 234 = 3 := by decide +kernel
def am_s234_ (z : Nat) : Nat → List aV → aM → Option aR := fun j => (match Nat.beq j 183 with
  | true => F183 z
  | false => (match Nat.beq j 226 with
  | true => F226 z
  | false => (match Nat.beq j 227 with
  | true => F227 z
  | false => (fun _ _ => none))))
theorem hs234 (z : Nat) : ∀ j2 : Nat, ∃ d2 : Nat, d2 + 1 ≤ 12 ∧ am_Snd d2 j2 (am_s234_ z j2) := by
  intro j2
  unfold am_s234_
  split
  · rename_i he
    rw [am_beq he]
    exact ⟨_, by decide, S183 z⟩
  · skip
    split
    · rename_i he
      rw [am_beq he]
      exact ⟨_, by decide, S226 z⟩
    · skip
      split
      · rename_i he
        rw [am_beq he]
        exact ⟨_, by decide, S227 z⟩
      · skip
        exact ⟨0, by decide, am_Snd_no j2⟩
/-- ArgumentMenderModel.strength(II)I -/
def f234 (z : Nat) (x1 : Int32) (x2 : Int32) (M : aM) : Option aR :=
  am_bi (f226 z x2 M) fun v2 M1 =>
    if v2 = 0 then
      some (some (.inl (-2 : Int32)), M1)
    else
      am_bi (f183 z (Int32.toInt64 x1) M1) fun v4 M3 =>
        if v4 = 0 then
          some (some (.inl (-2 : Int32)), M3)
        else
          am_bi (f227 z x1 x2 M3) fun v6 M5 =>
            some (some (.inl v6), M5)
set_option maxRecDepth 100000 in
set_option maxHeartbeats 4000000 in
theorem e234 (z : Nat) : ∀ (x1 : Int32) (x2 : Int32) (M : aM) (r : aR), f234 z x1 x2 M = some r → am_Ev 12 234 0 [some (.inr (.inr (11, 205))), some (.inl x1), some (.inl x2)] [] M r := by
  intro x1 x2 M r h
  exact am_Ev_seg (sem := am_s234_ z) (cut := ([] : List (Nat × List Bool))) (hs234 z) am_r234 am_k234 (by rw [am_l234]; decide) (fun _ _ _ _ => none) 16 h (fun _ _ _ _ hk => by cases hk)
def F234 (z : Nat) (as : List aV) (M : aM) : Option aR := match as with
  | [.inr (.inr (11, 205)), .inl x1, .inl x2] => f234 z x1 x2 M
  | _ => none
theorem S234 (z : Nat) : am_Snd 12 234 (F234 z) := am_meth (by decide +kernel) (fun as M r has h => by
    rw [am_l234]
    unfold F234 at h
    split at h
    · exact ⟨Nat.le_of_ble_eq_true rfl, e234 z _ _ _ _ h⟩
    · cases h)
def cd235_0 : List am_E := [(0, .aload_n 0, 1, 0, 0, 0, 0), (1, .iload_n 1, 1, 1, 0, 0, 0), (2, .invokevirtual 356, 3, 226, 11010, 0, 0), (5, .ifCond .eq 11, 3, 16, 0, 0, 0), (8, .aload_n 0, 1, 0, 0, 0, 0), (9, .iload_n 1, 1, 1, 0, 0, 0), (10, .invokevirtual 344, 3, 228, 11010, 0, 0), (13, .goto 5, 3, 18, 0, 0, 0), (16, .bipush (-2), 2, 0, 0, (-2), 0), (18, .ireturn, 1, 0, 0, 0, 0)]
def cd235 : List am_E := cd235_0
def am_w235 : List (List (Int32 × Nat) × Nat) := []
set_option maxRecDepth 100000 in
theorem kcd235_0 : cd235_0.all (am_chk am_w235 235) = true := by decide +kernel
theorem am_k235 : cd235.all (am_chk am_w235 235) = true := by
  simp only [cd235, List.all_append, kcd235_0, Bool.and_self]
theorem am_r235 : am_rtc 235 = 0 := by decide +kernel
theorem am_l235 : am_ml 235 = 2 := by decide +kernel
def am_s235_ (z : Nat) : Nat → List aV → aM → Option aR := fun j => (match Nat.beq j 226 with
  | true => F226 z
  | false => (match Nat.beq j 228 with
  | true => F228 z
  | false => (fun _ _ => none)))
theorem hs235 (z : Nat) : ∀ j2 : Nat, ∃ d2 : Nat, d2 + 1 ≤ 12 ∧ am_Snd d2 j2 (am_s235_ z j2) := by
  intro j2
  unfold am_s235_
  split
  · rename_i he
    rw [am_beq he]
    exact ⟨_, by decide, S226 z⟩
  · skip
    split
    · rename_i he
      rw [am_beq he]
      exact ⟨_, by decide, S228 z⟩
    · skip
      exact ⟨0, by decide, am_Snd_no j2⟩
/-- ArgumentMenderModel.torn(I)I -/
def f235 (z : Nat) (x1 : Int32) (M : aM) : Option aR :=
  am_bi (f226 z x1 M) fun v2 M1 =>
    if v2 = 0 then
      some (some (.inl (-2 : Int32)), M1)
    else
      am_bi (f228 z x1 M1) fun v4 M3 =>
        some (some (.inl v4), M3)
set_option maxRecDepth 100000 in
set_option maxHeartbeats 4000000 in
theorem e235 (z : Nat) : ∀ (x1 : Int32) (M : aM) (r : aR), f235 z x1 M = some r → am_Ev 12 235 0 [some (.inr (.inr (11, 205))), some (.inl x1)] [] M r := by
  intro x1 M r h
  exact am_Ev_seg (sem := am_s235_ z) (cut := ([] : List (Nat × List Bool))) (hs235 z) am_r235 am_k235 (by rw [am_l235]; decide) (fun _ _ _ _ => none) 10 h (fun _ _ _ _ hk => by cases hk)
def F235 (z : Nat) (as : List aV) (M : aM) : Option aR := match as with
  | [.inr (.inr (11, 205)), .inl x1] => f235 z x1 M
  | _ => none
theorem S235 (z : Nat) : am_Snd 12 235 (F235 z) := am_meth (by decide +kernel) (fun as M r has h => by
    rw [am_l235]
    unfold F235 at h
    split at h
    · exact ⟨Nat.le_of_ble_eq_true rfl, e235 z _ _ _ h⟩
    · cases h)
def cd236_0 : List am_E := [(0, .aload_n 0, 1, 0, 0, 0, 0), (1, .invokevirtual 335, 3, 225, 11000, 0, 0), (4, .pop, 1, 0, 0, 0, 0), (5, .aload_n 0, 1, 0, 0, 0, 0), (6, .iload_n 1, 1, 1, 0, 0, 0), (7, .i2l, 1, 0, 0, 0, 0), (8, .invokevirtual 241, 3, 183, 11010, 0, 0), (11, .ifCond .ne 6, 3, 17, 0, 0, 0), (14, .bipush (-2), 2, 0, 0, (-2), 0), (16, .ireturn, 1, 0, 0, 0, 0), (17, .iconst 0, 1, 0, 0, 0, 0), (18, .istore_n 2, 1, 2, 0, 0, 0), (19, .iload_n 2, 1, 2, 0, 0, 0), (20, .aload_n 0, 1, 0, 0, 0, 0), (21, .invokevirtual 111, 3, 176, 11000, 0, 0), (24, .if_icmp .gt 20, 3, 44, 0, 0, 0), (27, .aload_n 0, 1, 0, 0, 0, 0), (28, .iload_n 1, 1, 1, 0, 0, 0), (29, .iload_n 2, 1, 2, 0, 0, 0), (30, .invokevirtual 341, 3, 227, 11020, 0, 0), (33, .ifCond .ne 5, 3, 38, 0, 0, 0), (36, .iload_n 2, 1, 2, 0, 0, 0), (37, .ireturn, 1, 0, 0, 0, 0), (38, .iinc 2 1, 3, 2, 0, 1, 0), (41, .goto (-22), 3, 19, 0, 0, 0), (44, .iconst (-1), 1, 0, 0, (-1), 0), (45, .ireturn, 1, 0, 0, 0, 0)]
def cd236 : List am_E := cd236_0
def am_w236 : List (List (Int32 × Nat) × Nat) := []
set_option maxRecDepth 100000 in
theorem kcd236_0 : cd236_0.all (am_chk am_w236 236) = true := by decide +kernel
theorem am_k236 : cd236.all (am_chk am_w236 236) = true := by
  simp only [cd236, List.all_append, kcd236_0, Bool.and_self]
theorem am_r236 : am_rtc 236 = 0 := by decide +kernel
theorem am_l236 : am_ml 236 = 3 := by decide +kernel
def am_s236_ (z : Nat) : Nat → List aV → aM → Option aR := fun j => (match Nat.beq j 176 with
  | true => F176 z
  | false => (match Nat.beq j 183 with
  | true => F183 z
  | false => (match Nat.beq j 225 with
  | true => F225 z
  | false => (match Nat.beq j 227 with
  | true => F227 z
  | false => (fun _ _ => none)))))
theorem hs236 (z : Nat) : ∀ j2 : Nat, ∃ d2 : Nat, d2 + 1 ≤ 11 ∧ am_Snd d2 j2 (am_s236_ z j2) := by
  intro j2
  unfold am_s236_
  split
  · rename_i he
    rw [am_beq he]
    exact ⟨_, by decide, S176 z⟩
  · skip
    split
    · rename_i he
      rw [am_beq he]
      exact ⟨_, by decide, S183 z⟩
    · skip
      split
      · rename_i he
        rw [am_beq he]
        exact ⟨_, by decide, S225 z⟩
      · skip
        split
        · rename_i he
          rw [am_beq he]
          exact ⟨_, by decide, S227 z⟩
        · skip
          exact ⟨0, by decide, am_Snd_no j2⟩
def f236_19 (z : Nat) : Nat → Int32 → Int32 → aM → Option aR
  | 0, _, _, _ => none
  | n + 1, x1, x2, M =>
    am_bi (f176 z M) fun v2 M1 =>
      if v2 < x2 then
        some (some (.inl (-1 : Int32)), M1)
      else
        am_bi (f227 z x1 x2 M1) fun v4 M3 =>
          if ¬ v4 = 0 then
            f236_19 z n x1 (x2 + (1 : Int32)) M3
          else
            some (some (.inl x2), M3)
set_option maxRecDepth 100000 in
set_option maxHeartbeats 4000000 in
theorem e236_19 (z : Nat) : ∀ (n : Nat) (x1 : Int32) (x2 : Int32) (M : aM) (r : aR), f236_19 z n x1 x2 M = some r → am_Ev 11 236 19 [some (.inr (.inr (11, 205))), some (.inl x1), some (.inl x2)] [] M r := by
  intro n
  induction n with
  | zero =>
    intro x1 x2 M r h
    cases h
  | succ n ih =>
    intro x1 x2 M r h
    exact am_Ev_seg (sem := am_s236_ z) (cut := ([(19, [true, true, true])] : List (Nat × List Bool))) (hs236 z) am_r236 am_k236 (by rw [am_l236]; decide) (fun pc al st M => (match Nat.beq pc 19 with
      | true => (match al, st with
        | [some (.inr (.inr (11, 205))), some (.inl x1), some (.inl x2)], [] => f236_19 z n x1 x2 M
        | _, _ => none)
      | false => none)) 13 h (fun pc al st M hk => by
      try dsimp only at hk
      split at hk
      · rename_i he
        rw [am_beq he]
        split at hk
        · exact ih _ _ _ _ hk
        · cases hk
      · cases hk)
/-- ArgumentMenderModel.tears(I)I -/
def f236 (z : Nat) (x1 : Int32) (M : aM) : Option aR :=
  am_bi (f225 z M) fun v2 M1 =>
    am_bi (f183 z (Int32.toInt64 x1) M1) fun v4 M3 =>
      if ¬ v4 = 0 then
        f236_19 z z x1 (0 : Int32) M3
      else
        some (some (.inl (-2 : Int32)), M3)
set_option maxRecDepth 100000 in
set_option maxHeartbeats 4000000 in
theorem e236 (z : Nat) : ∀ (x1 : Int32) (M : aM) (r : aR), f236 z x1 M = some r → am_Ev 11 236 0 [some (.inr (.inr (11, 205))), some (.inl x1), none] [] M r := by
  intro x1 M r h
  exact am_Ev_seg (sem := am_s236_ z) (cut := ([(19, [true, true, true])] : List (Nat × List Bool))) (hs236 z) am_r236 am_k236 (by rw [am_l236]; decide) (fun pc al st M => (match Nat.beq pc 19 with
      | true => (match al, st with
        | [some (.inr (.inr (11, 205))), some (.inl x1), some (.inl x2)], [] => f236_19 z z x1 x2 M
        | _, _ => none)
      | false => none)) 12 h (fun pc al st M hk => by
      try dsimp only at hk
      split at hk
      · rename_i he
        rw [am_beq he]
        split at hk
        · exact e236_19 z _ _ _ _ _ hk
        · cases hk
      · cases hk)
def F236 (z : Nat) (as : List aV) (M : aM) : Option aR := match as with
  | [.inr (.inr (11, 205)), .inl x1] => f236 z x1 M
  | _ => none
theorem S236 (z : Nat) : am_Snd 11 236 (F236 z) := am_meth (by decide +kernel) (fun as M r has h => by
    rw [am_l236]
    unfold F236 at h
    split at h
    · exact ⟨Nat.le_of_ble_eq_true rfl, e236 z _ _ _ h⟩
    · cases h)
def cd237_0 : List am_E := [(0, .iconst 0, 1, 0, 0, 0, 0), (1, .istore_n 2, 1, 2, 0, 0, 0), (2, .iconst 0, 1, 0, 0, 0, 0), (3, .istore_n 3, 1, 3, 0, 0, 0), (4, .iload_n 3, 1, 3, 0, 0, 0), (5, .aload_n 0, 1, 0, 0, 0, 0), (6, .invokevirtual 115, 3, 177, 11000, 0, 0), (9, .if_icmp .ge 33, 3, 42, 0, 0, 0), (12, .iload_n 2, 1, 2, 0, 0, 0), (13, .aload_n 0, 1, 0, 0, 0, 0), (14, .iload_n 3, 1, 3, 0, 0, 0), (15, .invokevirtual 258, 3, 209, 11010, 0, 0), (18, .aload_n 0, 1, 0, 0, 0, 0), (19, .iload_n 1, 1, 1, 0, 0, 0), (20, .invokevirtual 347, 3, 229, 11010, 0, 0), (23, .iand, 1, 0, 0, 0, 0), (24, .ifCond .ne 9, 3, 33, 0, 0, 0), (27, .iconst 1, 1, 0, 0, 1, 0), (28, .iload_n 3, 1, 3, 0, 0, 0), (29, .ishl, 1, 0, 0, 0, 0), (30, .goto 4, 3, 34, 0, 0, 0), (33, .iconst 0, 1, 0, 0, 0, 0), (34, .ior, 1, 0, 0, 0, 0), (35, .istore_n 2, 1, 2, 0, 0, 0), (36, .iinc 3 1, 3, 3, 0, 1, 0), (39, .goto (-35), 3, 4, 0, 0, 0), (42, .iload_n 2, 1, 2, 0, 0, 0), (43, .ireturn, 1, 0, 0, 0, 0)]
def cd237 : List am_E := cd237_0
def am_w237 : List (List (Int32 × Nat) × Nat) := []
set_option maxRecDepth 100000 in
theorem kcd237_0 : cd237_0.all (am_chk am_w237 237) = true := by decide +kernel
theorem am_k237 : cd237.all (am_chk am_w237 237) = true := by
  simp only [cd237, List.all_append, kcd237_0, Bool.and_self]
theorem am_r237 : am_rtc 237 = 0 := by decide +kernel
theorem am_l237 : am_ml 237 = 4 := by decide +kernel
def am_s237_ (z : Nat) : Nat → List aV → aM → Option aR := fun j => (match Nat.beq j 177 with
  | true => F177 z
  | false => (match Nat.beq j 209 with
  | true => F209 z
  | false => (match Nat.beq j 229 with
  | true => F229 z
  | false => (fun _ _ => none))))
theorem hs237 (z : Nat) : ∀ j2 : Nat, ∃ d2 : Nat, d2 + 1 ≤ 4 ∧ am_Snd d2 j2 (am_s237_ z j2) := by
  intro j2
  unfold am_s237_
  split
  · rename_i he
    rw [am_beq he]
    exact ⟨_, by decide, S177 z⟩
  · skip
    split
    · rename_i he
      rw [am_beq he]
      exact ⟨_, by decide, S209 z⟩
    · skip
      split
      · rename_i he
        rw [am_beq he]
        exact ⟨_, by decide, S229 z⟩
      · skip
        exact ⟨0, by decide, am_Snd_no j2⟩
def f237_4 (z : Nat) : Nat → Int32 → Int32 → Int32 → aM → Option aR
  | 0, _, _, _, _ => none
  | n + 1, x1, x2, x3, M =>
    am_bi (f177 z M) fun v2 M1 =>
      if v2 ≤ x3 then
        some (some (.inl x2), M1)
      else
        am_bi (f209 z x3 M1) fun v4 M3 =>
          am_bi (f229 z x1 M3) fun v6 M5 =>
            if ¬ (v4 &&& v6) = 0 then
              f237_4 z n x1 (x2 ||| (0 : Int32)) (x3 + (1 : Int32)) M5
            else
              f237_4 z n x1 (x2 ||| ((1 : Int32) <<< (x3 &&& 31))) (x3 + (1 : Int32)) M5
set_option maxRecDepth 100000 in
set_option maxHeartbeats 4000000 in
theorem e237_4 (z : Nat) : ∀ (n : Nat) (x1 : Int32) (x2 : Int32) (x3 : Int32) (M : aM) (r : aR), f237_4 z n x1 x2 x3 M = some r → am_Ev 4 237 4 [some (.inr (.inr (11, 205))), some (.inl x1), some (.inl x2), some (.inl x3)] [] M r := by
  intro n
  induction n with
  | zero =>
    intro x1 x2 x3 M r h
    cases h
  | succ n ih =>
    intro x1 x2 x3 M r h
    exact am_Ev_seg (sem := am_s237_ z) (cut := ([(4, [true, true, true, true])] : List (Nat × List Bool))) (hs237 z) am_r237 am_k237 (by rw [am_l237]; decide) (fun pc al st M => (match Nat.beq pc 4 with
      | true => (match al, st with
        | [some (.inr (.inr (11, 205))), some (.inl x1), some (.inl x2), some (.inl x3)], [] => f237_4 z n x1 x2 x3 M
        | _, _ => none)
      | false => none)) 23 h (fun pc al st M hk => by
      try dsimp only at hk
      split at hk
      · rename_i he
        rw [am_beq he]
        split at hk
        · exact ih _ _ _ _ _ hk
        · cases hk
      · cases hk)
/-- ArgumentMenderModel.holesIn(I)I -/
def f237 (z : Nat) (x1 : Int32) (M : aM) : Option aR :=
  f237_4 z z x1 (0 : Int32) (0 : Int32) M
set_option maxRecDepth 100000 in
set_option maxHeartbeats 4000000 in
theorem e237 (z : Nat) : ∀ (x1 : Int32) (M : aM) (r : aR), f237 z x1 M = some r → am_Ev 4 237 0 [some (.inr (.inr (11, 205))), some (.inl x1), none, none] [] M r := by
  intro x1 M r h
  exact am_Ev_seg (sem := am_s237_ z) (cut := ([(4, [true, true, true, true])] : List (Nat × List Bool))) (hs237 z) am_r237 am_k237 (by rw [am_l237]; decide) (fun pc al st M => (match Nat.beq pc 4 with
      | true => (match al, st with
        | [some (.inr (.inr (11, 205))), some (.inl x1), some (.inl x2), some (.inl x3)], [] => f237_4 z z x1 x2 x3 M
        | _, _ => none)
      | false => none)) 6 h (fun pc al st M hk => by
      try dsimp only at hk
      split at hk
      · rename_i he
        rw [am_beq he]
        split at hk
        · exact e237_4 z _ _ _ _ _ _ hk
        · cases hk
      · cases hk)
def F237 (z : Nat) (as : List aV) (M : aM) : Option aR := match as with
  | [.inr (.inr (11, 205)), .inl x1] => f237 z x1 M
  | _ => none
theorem S237 (z : Nat) : am_Snd 4 237 (F237 z) := am_meth (by decide +kernel) (fun as M r has h => by
    rw [am_l237]
    unfold F237 at h
    split at h
    · exact ⟨Nat.le_of_ble_eq_true rfl, e237 z _ _ _ h⟩
    · cases h)
def cd238_0 : List am_E := [(0, .aload_n 0, 1, 0, 0, 0, 0), (1, .iload_n 1, 1, 1, 0, 0, 0), (2, .invokevirtual 356, 3, 226, 11010, 0, 0), (5, .ifCond .eq 11, 3, 16, 0, 0, 0), (8, .aload_n 0, 1, 0, 0, 0, 0), (9, .iload_n 1, 1, 1, 0, 0, 0), (10, .invokevirtual 359, 3, 237, 11010, 0, 0), (13, .goto 5, 3, 18, 0, 0, 0), (16, .bipush (-2), 2, 0, 0, (-2), 0), (18, .ireturn, 1, 0, 0, 0, 0)]
def cd238 : List am_E := cd238_0
def am_w238 : List (List (Int32 × Nat) × Nat) := []
set_option maxRecDepth 100000 in
theorem kcd238_0 : cd238_0.all (am_chk am_w238 238) = true := by decide +kernel
theorem am_k238 : cd238.all (am_chk am_w238 238) = true := by
  simp only [cd238, List.all_append, kcd238_0, Bool.and_self]
theorem am_r238 : am_rtc 238 = 0 := by decide +kernel
theorem am_l238 : am_ml 238 = 2 := by decide +kernel
def am_s238_ (z : Nat) : Nat → List aV → aM → Option aR := fun j => (match Nat.beq j 226 with
  | true => F226 z
  | false => (match Nat.beq j 237 with
  | true => F237 z
  | false => (fun _ _ => none)))
theorem hs238 (z : Nat) : ∀ j2 : Nat, ∃ d2 : Nat, d2 + 1 ≤ 12 ∧ am_Snd d2 j2 (am_s238_ z j2) := by
  intro j2
  unfold am_s238_
  split
  · rename_i he
    rw [am_beq he]
    exact ⟨_, by decide, S226 z⟩
  · skip
    split
    · rename_i he
      rw [am_beq he]
      exact ⟨_, by decide, S237 z⟩
    · skip
      exact ⟨0, by decide, am_Snd_no j2⟩
/-- ArgumentMenderModel.holes(I)I -/
def f238 (z : Nat) (x1 : Int32) (M : aM) : Option aR :=
  am_bi (f226 z x1 M) fun v2 M1 =>
    if v2 = 0 then
      some (some (.inl (-2 : Int32)), M1)
    else
      am_bi (f237 z x1 M1) fun v4 M3 =>
        some (some (.inl v4), M3)
set_option maxRecDepth 100000 in
set_option maxHeartbeats 4000000 in
theorem e238 (z : Nat) : ∀ (x1 : Int32) (M : aM) (r : aR), f238 z x1 M = some r → am_Ev 12 238 0 [some (.inr (.inr (11, 205))), some (.inl x1)] [] M r := by
  intro x1 M r h
  exact am_Ev_seg (sem := am_s238_ z) (cut := ([] : List (Nat × List Bool))) (hs238 z) am_r238 am_k238 (by rw [am_l238]; decide) (fun _ _ _ _ => none) 10 h (fun _ _ _ _ hk => by cases hk)
def F238 (z : Nat) (as : List aV) (M : aM) : Option aR := match as with
  | [.inr (.inr (11, 205)), .inl x1] => f238 z x1 M
  | _ => none
theorem S238 (z : Nat) : am_Snd 12 238 (F238 z) := am_meth (by decide +kernel) (fun as M r has h => by
    rw [am_l238]
    unfold F238 at h
    split at h
    · exact ⟨Nat.le_of_ble_eq_true rfl, e238 z _ _ _ h⟩
    · cases h)
def cd239_0 : List am_E := [(0, .aload_n 0, 1, 0, 0, 0, 0), (1, .invokevirtual 335, 3, 225, 11000, 0, 0), (4, .pop, 1, 0, 0, 0, 0), (5, .aload_n 0, 1, 0, 0, 0, 0), (6, .iload_n 1, 1, 1, 0, 0, 0), (7, .invokevirtual 255, 3, 182, 11010, 0, 0), (10, .ifCond .ne 6, 3, 16, 0, 0, 0), (13, .bipush (-2), 2, 0, 0, (-2), 0), (15, .ireturn, 1, 0, 0, 0, 0), (16, .iconst 0, 1, 0, 0, 0, 0), (17, .istore_n 2, 1, 2, 0, 0, 0), (18, .iload_n 2, 1, 2, 0, 0, 0), (19, .aload_n 0, 1, 0, 0, 0, 0), (20, .invokevirtual 111, 3, 176, 11000, 0, 0), (23, .if_icmp .gt 24, 3, 47, 0, 0, 0), (26, .aload_n 0, 1, 0, 0, 0, 0), (27, .iload_n 2, 1, 2, 0, 0, 0), (28, .invokevirtual 359, 3, 237, 11010, 0, 0), (31, .iload_n 1, 1, 1, 0, 0, 0), (32, .invokestatic 300, 3, 172, 25, 0, 0), (35, .iconst 1, 1, 0, 0, 1, 0), (36, .if_icmp .ne 5, 3, 41, 0, 0, 0), (39, .iload_n 2, 1, 2, 0, 0, 0), (40, .ireturn, 1, 0, 0, 0, 0), (41, .iinc 2 1, 3, 2, 0, 1, 0), (44, .goto (-26), 3, 18, 0, 0, 0), (47, .iconst (-1), 1, 0, 0, (-1), 0), (48, .ireturn, 1, 0, 0, 0, 0)]
def cd239 : List am_E := cd239_0
def am_w239 : List (List (Int32 × Nat) × Nat) := []
set_option maxRecDepth 100000 in
theorem kcd239_0 : cd239_0.all (am_chk am_w239 239) = true := by decide +kernel
theorem am_k239 : cd239.all (am_chk am_w239 239) = true := by
  simp only [cd239, List.all_append, kcd239_0, Bool.and_self]
theorem am_r239 : am_rtc 239 = 0 := by decide +kernel
theorem am_l239 : am_ml 239 = 3 := by decide +kernel
def am_s239_ (z : Nat) : Nat → List aV → aM → Option aR := fun j => (match Nat.beq j 172 with
  | true => F172 z
  | false => (match Nat.beq j 176 with
  | true => F176 z
  | false => (match Nat.beq j 182 with
  | true => F182 z
  | false => (match Nat.beq j 225 with
  | true => F225 z
  | false => (match Nat.beq j 237 with
  | true => F237 z
  | false => (fun _ _ => none))))))
theorem hs239 (z : Nat) : ∀ j2 : Nat, ∃ d2 : Nat, d2 + 1 ≤ 11 ∧ am_Snd d2 j2 (am_s239_ z j2) := by
  intro j2
  unfold am_s239_
  split
  · rename_i he
    rw [am_beq he]
    exact ⟨_, by decide, S172 z⟩
  · skip
    split
    · rename_i he
      rw [am_beq he]
      exact ⟨_, by decide, S176 z⟩
    · skip
      split
      · rename_i he
        rw [am_beq he]
        exact ⟨_, by decide, S182 z⟩
      · skip
        split
        · rename_i he
          rw [am_beq he]
          exact ⟨_, by decide, S225 z⟩
        · skip
          split
          · rename_i he
            rw [am_beq he]
            exact ⟨_, by decide, S237 z⟩
          · skip
            exact ⟨0, by decide, am_Snd_no j2⟩
def f239_18 (z : Nat) : Nat → Int32 → Int32 → aM → Option aR
  | 0, _, _, _ => none
  | n + 1, x1, x2, M =>
    am_bi (f176 z M) fun v2 M1 =>
      if v2 < x2 then
        some (some (.inl (-1 : Int32)), M1)
      else
        am_bi (f237 z x2 M1) fun v4 M3 =>
          am_bi (f172 z v4 x1 M3) fun v6 M5 =>
            if ¬ v6 = (1 : Int32) then
              f239_18 z n x1 (x2 + (1 : Int32)) M5
            else
              some (some (.inl x2), M5)
set_option maxRecDepth 100000 in
set_option maxHeartbeats 4000000 in
theorem e239_18 (z : Nat) : ∀ (n : Nat) (x1 : Int32) (x2 : Int32) (M : aM) (r : aR), f239_18 z n x1 x2 M = some r → am_Ev 11 239 18 [some (.inr (.inr (11, 205))), some (.inl x1), some (.inl x2)] [] M r := by
  intro n
  induction n with
  | zero =>
    intro x1 x2 M r h
    cases h
  | succ n ih =>
    intro x1 x2 M r h
    exact am_Ev_seg (sem := am_s239_ z) (cut := ([(18, [true, true, true])] : List (Nat × List Bool))) (hs239 z) am_r239 am_k239 (by rw [am_l239]; decide) (fun pc al st M => (match Nat.beq pc 18 with
      | true => (match al, st with
        | [some (.inr (.inr (11, 205))), some (.inl x1), some (.inl x2)], [] => f239_18 z n x1 x2 M
        | _, _ => none)
      | false => none)) 15 h (fun pc al st M hk => by
      try dsimp only at hk
      split at hk
      · rename_i he
        rw [am_beq he]
        split at hk
        · exact ih _ _ _ _ hk
        · cases hk
      · cases hk)
/-- ArgumentMenderModel.hole(I)I -/
def f239 (z : Nat) (x1 : Int32) (M : aM) : Option aR :=
  am_bi (f225 z M) fun v2 M1 =>
    am_bi (f182 z x1 M1) fun v4 M3 =>
      if ¬ v4 = 0 then
        f239_18 z z x1 (0 : Int32) M3
      else
        some (some (.inl (-2 : Int32)), M3)
set_option maxRecDepth 100000 in
set_option maxHeartbeats 4000000 in
theorem e239 (z : Nat) : ∀ (x1 : Int32) (M : aM) (r : aR), f239 z x1 M = some r → am_Ev 11 239 0 [some (.inr (.inr (11, 205))), some (.inl x1), none] [] M r := by
  intro x1 M r h
  exact am_Ev_seg (sem := am_s239_ z) (cut := ([(18, [true, true, true])] : List (Nat × List Bool))) (hs239 z) am_r239 am_k239 (by rw [am_l239]; decide) (fun pc al st M => (match Nat.beq pc 18 with
      | true => (match al, st with
        | [some (.inr (.inr (11, 205))), some (.inl x1), some (.inl x2)], [] => f239_18 z z x1 x2 M
        | _, _ => none)
      | false => none)) 11 h (fun pc al st M hk => by
      try dsimp only at hk
      split at hk
      · rename_i he
        rw [am_beq he]
        split at hk
        · exact e239_18 z _ _ _ _ _ hk
        · cases hk
      · cases hk)
def F239 (z : Nat) (as : List aV) (M : aM) : Option aR := match as with
  | [.inr (.inr (11, 205)), .inl x1] => f239 z x1 M
  | _ => none
theorem S239 (z : Nat) : am_Snd 11 239 (F239 z) := am_meth (by decide +kernel) (fun as M r has h => by
    rw [am_l239]
    unfold F239 at h
    split at h
    · exact ⟨Nat.le_of_ble_eq_true rfl, e239 z _ _ _ h⟩
    · cases h)
def cd240_0 : List am_E := [(0, .aload_n 0, 1, 0, 0, 0, 0), (1, .iload_n 1, 1, 1, 0, 0, 0), (2, .invokevirtual 356, 3, 226, 11010, 0, 0), (5, .ifCond .eq 11, 3, 16, 0, 0, 0), (8, .aload_n 0, 1, 0, 0, 0, 0), (9, .iload_n 1, 1, 1, 0, 0, 0), (10, .invokevirtual 353, 3, 231, 11010, 0, 0), (13, .goto 5, 3, 18, 0, 0, 0), (16, .bipush (-2), 2, 0, 0, (-2), 0), (18, .ireturn, 1, 0, 0, 0, 0)]
def cd240 : List am_E := cd240_0
def am_w240 : List (List (Int32 × Nat) × Nat) := []
set_option maxRecDepth 100000 in
theorem kcd240_0 : cd240_0.all (am_chk am_w240 240) = true := by decide +kernel
theorem am_k240 : cd240.all (am_chk am_w240 240) = true := by
  simp only [cd240, List.all_append, kcd240_0, Bool.and_self]
theorem am_r240 : am_rtc 240 = 0 := by decide +kernel
theorem am_l240 : am_ml 240 = 2 := by decide +kernel
def am_s240_ (z : Nat) : Nat → List aV → aM → Option aR := fun j => (match Nat.beq j 226 with
  | true => F226 z
  | false => (match Nat.beq j 231 with
  | true => F231 z
  | false => (fun _ _ => none)))
theorem hs240 (z : Nat) : ∀ j2 : Nat, ∃ d2 : Nat, d2 + 1 ≤ 12 ∧ am_Snd d2 j2 (am_s240_ z j2) := by
  intro j2
  unfold am_s240_
  split
  · rename_i he
    rw [am_beq he]
    exact ⟨_, by decide, S226 z⟩
  · skip
    split
    · rename_i he
      rw [am_beq he]
      exact ⟨_, by decide, S231 z⟩
    · skip
      exact ⟨0, by decide, am_Snd_no j2⟩
/-- ArgumentMenderModel.hung(I)I -/
def f240 (z : Nat) (x1 : Int32) (M : aM) : Option aR :=
  am_bi (f226 z x1 M) fun v2 M1 =>
    if v2 = 0 then
      some (some (.inl (-2 : Int32)), M1)
    else
      am_bi (f231 z x1 M1) fun v4 M3 =>
        some (some (.inl v4), M3)
set_option maxRecDepth 100000 in
set_option maxHeartbeats 4000000 in
theorem e240 (z : Nat) : ∀ (x1 : Int32) (M : aM) (r : aR), f240 z x1 M = some r → am_Ev 12 240 0 [some (.inr (.inr (11, 205))), some (.inl x1)] [] M r := by
  intro x1 M r h
  exact am_Ev_seg (sem := am_s240_ z) (cut := ([] : List (Nat × List Bool))) (hs240 z) am_r240 am_k240 (by rw [am_l240]; decide) (fun _ _ _ _ => none) 10 h (fun _ _ _ _ hk => by cases hk)
def F240 (z : Nat) (as : List aV) (M : aM) : Option aR := match as with
  | [.inr (.inr (11, 205)), .inl x1] => f240 z x1 M
  | _ => none
theorem S240 (z : Nat) : am_Snd 12 240 (F240 z) := am_meth (by decide +kernel) (fun as M r has h => by
    rw [am_l240]
    unfold F240 at h
    split at h
    · exact ⟨Nat.le_of_ble_eq_true rfl, e240 z _ _ _ h⟩
    · cases h)
def cd241_0 : List am_E := [(0, .aload_n 0, 1, 0, 0, 0, 0), (1, .invokevirtual 335, 3, 225, 11000, 0, 0), (4, .pop, 1, 0, 0, 0, 0), (5, .aload_n 0, 1, 0, 0, 0, 0), (6, .iload_n 1, 1, 1, 0, 0, 0), (7, .invokevirtual 255, 3, 182, 11010, 0, 0), (10, .ifCond .ne 6, 3, 16, 0, 0, 0), (13, .bipush (-2), 2, 0, 0, (-2), 0), (15, .ireturn, 1, 0, 0, 0, 0), (16, .iconst 0, 1, 0, 0, 0, 0), (17, .istore_n 2, 1, 2, 0, 0, 0), (18, .iload_n 2, 1, 2, 0, 0, 0), (19, .aload_n 0, 1, 0, 0, 0, 0), (20, .invokevirtual 111, 3, 176, 11000, 0, 0), (23, .if_icmp .gt 23, 3, 46, 0, 0, 0), (26, .aload_n 0, 1, 0, 0, 0, 0), (27, .iload_n 2, 1, 2, 0, 0, 0), (28, .invokevirtual 353, 3, 231, 11010, 0, 0), (31, .iload_n 1, 1, 1, 0, 0, 0), (32, .invokestatic 300, 3, 172, 25, 0, 0), (35, .ifCond .ne 5, 3, 40, 0, 0, 0), (38, .iload_n 2, 1, 2, 0, 0, 0), (39, .ireturn, 1, 0, 0, 0, 0), (40, .iinc 2 1, 3, 2, 0, 1, 0), (43, .goto (-25), 3, 18, 0, 0, 0), (46, .iconst (-1), 1, 0, 0, (-1), 0), (47, .ireturn, 1, 0, 0, 0, 0)]
def cd241 : List am_E := cd241_0
def am_w241 : List (List (Int32 × Nat) × Nat) := []
set_option maxRecDepth 100000 in
theorem kcd241_0 : cd241_0.all (am_chk am_w241 241) = true := by decide +kernel
theorem am_k241 : cd241.all (am_chk am_w241 241) = true := by
  simp only [cd241, List.all_append, kcd241_0, Bool.and_self]
theorem am_r241 : am_rtc 241 = 0 := by decide +kernel
theorem am_l241 : am_ml 241 = 3 := by decide +kernel
def am_s241_ (z : Nat) : Nat → List aV → aM → Option aR := fun j => (match Nat.beq j 172 with
  | true => F172 z
  | false => (match Nat.beq j 176 with
  | true => F176 z
  | false => (match Nat.beq j 182 with
  | true => F182 z
  | false => (match Nat.beq j 225 with
  | true => F225 z
  | false => (match Nat.beq j 231 with
  | true => F231 z
  | false => (fun _ _ => none))))))
theorem hs241 (z : Nat) : ∀ j2 : Nat, ∃ d2 : Nat, d2 + 1 ≤ 11 ∧ am_Snd d2 j2 (am_s241_ z j2) := by
  intro j2
  unfold am_s241_
  split
  · rename_i he
    rw [am_beq he]
    exact ⟨_, by decide, S172 z⟩
  · skip
    split
    · rename_i he
      rw [am_beq he]
      exact ⟨_, by decide, S176 z⟩
    · skip
      split
      · rename_i he
        rw [am_beq he]
        exact ⟨_, by decide, S182 z⟩
      · skip
        split
        · rename_i he
          rw [am_beq he]
          exact ⟨_, by decide, S225 z⟩
        · skip
          split
          · rename_i he
            rw [am_beq he]
            exact ⟨_, by decide, S231 z⟩
          · skip
            exact ⟨0, by decide, am_Snd_no j2⟩
def f241_18 (z : Nat) : Nat → Int32 → Int32 → aM → Option aR
  | 0, _, _, _ => none
  | n + 1, x1, x2, M =>
    am_bi (f176 z M) fun v2 M1 =>
      if v2 < x2 then
        some (some (.inl (-1 : Int32)), M1)
      else
        am_bi (f231 z x2 M1) fun v4 M3 =>
          am_bi (f172 z v4 x1 M3) fun v6 M5 =>
            if ¬ v6 = 0 then
              f241_18 z n x1 (x2 + (1 : Int32)) M5
            else
              some (some (.inl x2), M5)
set_option maxRecDepth 100000 in
set_option maxHeartbeats 4000000 in
theorem e241_18 (z : Nat) : ∀ (n : Nat) (x1 : Int32) (x2 : Int32) (M : aM) (r : aR), f241_18 z n x1 x2 M = some r → am_Ev 11 241 18 [some (.inr (.inr (11, 205))), some (.inl x1), some (.inl x2)] [] M r := by
  intro n
  induction n with
  | zero =>
    intro x1 x2 M r h
    cases h
  | succ n ih =>
    intro x1 x2 M r h
    exact am_Ev_seg (sem := am_s241_ z) (cut := ([(18, [true, true, true])] : List (Nat × List Bool))) (hs241 z) am_r241 am_k241 (by rw [am_l241]; decide) (fun pc al st M => (match Nat.beq pc 18 with
      | true => (match al, st with
        | [some (.inr (.inr (11, 205))), some (.inl x1), some (.inl x2)], [] => f241_18 z n x1 x2 M
        | _, _ => none)
      | false => none)) 14 h (fun pc al st M hk => by
      try dsimp only at hk
      split at hk
      · rename_i he
        rw [am_beq he]
        split at hk
        · exact ih _ _ _ _ hk
        · cases hk
      · cases hk)
/-- ArgumentMenderModel.falls(I)I -/
def f241 (z : Nat) (x1 : Int32) (M : aM) : Option aR :=
  am_bi (f225 z M) fun v2 M1 =>
    am_bi (f182 z x1 M1) fun v4 M3 =>
      if ¬ v4 = 0 then
        f241_18 z z x1 (0 : Int32) M3
      else
        some (some (.inl (-2 : Int32)), M3)
set_option maxRecDepth 100000 in
set_option maxHeartbeats 4000000 in
theorem e241 (z : Nat) : ∀ (x1 : Int32) (M : aM) (r : aR), f241 z x1 M = some r → am_Ev 11 241 0 [some (.inr (.inr (11, 205))), some (.inl x1), none] [] M r := by
  intro x1 M r h
  exact am_Ev_seg (sem := am_s241_ z) (cut := ([(18, [true, true, true])] : List (Nat × List Bool))) (hs241 z) am_r241 am_k241 (by rw [am_l241]; decide) (fun pc al st M => (match Nat.beq pc 18 with
      | true => (match al, st with
        | [some (.inr (.inr (11, 205))), some (.inl x1), some (.inl x2)], [] => f241_18 z z x1 x2 M
        | _, _ => none)
      | false => none)) 11 h (fun pc al st M hk => by
      try dsimp only at hk
      split at hk
      · rename_i he
        rw [am_beq he]
        split at hk
        · exact e241_18 z _ _ _ _ _ hk
        · cases hk
      · cases hk)
def F241 (z : Nat) (as : List aV) (M : aM) : Option aR := match as with
  | [.inr (.inr (11, 205)), .inl x1] => f241 z x1 M
  | _ => none
theorem S241 (z : Nat) : am_Snd 11 241 (F241 z) := am_meth (by decide +kernel) (fun as M r has h => by
    rw [am_l241]
    unfold F241 at h
    split at h
    · exact ⟨Nat.le_of_ble_eq_true rfl, e241 z _ _ _ h⟩
    · cases h)
def cd242_0 : List am_E := [(0, .aload_n 0, 1, 0, 0, 0, 0), (1, .invokevirtual 335, 3, 225, 11000, 0, 0), (4, .ifCond .ne 6, 3, 10, 0, 0, 0), (7, .bipush (-2), 2, 0, 0, (-2), 0), (9, .ireturn, 1, 0, 0, 0, 0), (10, .iconst 0, 1, 0, 0, 0, 0), (11, .istore_n 1, 1, 1, 0, 0, 0), (12, .iload_n 1, 1, 1, 0, 0, 0), (13, .aload_n 0, 1, 0, 0, 0, 0), (14, .invokevirtual 111, 3, 176, 11000, 0, 0), (17, .if_icmp .gt 23, 3, 40, 0, 0, 0), (20, .aload_n 0, 1, 0, 0, 0, 0), (21, .iload_n 1, 1, 1, 0, 0, 0), (22, .invokevirtual 353, 3, 231, 11010, 0, 0), (25, .aload_n 0, 1, 0, 0, 0, 0), (26, .invokevirtual 362, 3, 233, 11000, 0, 0), (29, .if_icmp .eq 5, 3, 34, 0, 0, 0), (32, .iload_n 1, 1, 1, 0, 0, 0), (33, .ireturn, 1, 0, 0, 0, 0), (34, .iinc 1 1, 3, 1, 0, 1, 0), (37, .goto (-25), 3, 12, 0, 0, 0), (40, .iconst (-1), 1, 0, 0, (-1), 0), (41, .ireturn, 1, 0, 0, 0, 0)]
def cd242 : List am_E := cd242_0
def am_w242 : List (List (Int32 × Nat) × Nat) := []
set_option maxRecDepth 100000 in
theorem kcd242_0 : cd242_0.all (am_chk am_w242 242) = true := by decide +kernel
theorem am_k242 : cd242.all (am_chk am_w242 242) = true := by
  simp only [cd242, List.all_append, kcd242_0, Bool.and_self]
theorem am_r242 : am_rtc 242 = 0 := by decide +kernel
theorem am_l242 : am_ml 242 = 2 := by decide +kernel
def am_s242_ (z : Nat) : Nat → List aV → aM → Option aR := fun j => (match Nat.beq j 176 with
  | true => F176 z
  | false => (match Nat.beq j 225 with
  | true => F225 z
  | false => (match Nat.beq j 231 with
  | true => F231 z
  | false => (match Nat.beq j 233 with
  | true => F233 z
  | false => (fun _ _ => none)))))
theorem hs242 (z : Nat) : ∀ j2 : Nat, ∃ d2 : Nat, d2 + 1 ≤ 11 ∧ am_Snd d2 j2 (am_s242_ z j2) := by
  intro j2
  unfold am_s242_
  split
  · rename_i he
    rw [am_beq he]
    exact ⟨_, by decide, S176 z⟩
  · skip
    split
    · rename_i he
      rw [am_beq he]
      exact ⟨_, by decide, S225 z⟩
    · skip
      split
      · rename_i he
        rw [am_beq he]
        exact ⟨_, by decide, S231 z⟩
      · skip
        split
        · rename_i he
          rw [am_beq he]
          exact ⟨_, by decide, S233 z⟩
        · skip
          exact ⟨0, by decide, am_Snd_no j2⟩
def f242_12 (z : Nat) : Nat → Int32 → aM → Option aR
  | 0, _, _ => none
  | n + 1, x1, M =>
    am_bi (f176 z M) fun v2 M1 =>
      if v2 < x1 then
        some (some (.inl (-1 : Int32)), M1)
      else
        am_bi (f231 z x1 M1) fun v4 M3 =>
          am_bi (f233 z M3) fun v6 M5 =>
            if v4 = v6 then
              f242_12 z n (x1 + (1 : Int32)) M5
            else
              some (some (.inl x1), M5)
set_option maxRecDepth 100000 in
set_option maxHeartbeats 4000000 in
theorem e242_12 (z : Nat) : ∀ (n : Nat) (x1 : Int32) (M : aM) (r : aR), f242_12 z n x1 M = some r → am_Ev 11 242 12 [some (.inr (.inr (11, 205))), some (.inl x1)] [] M r := by
  intro n
  induction n with
  | zero =>
    intro x1 M r h
    cases h
  | succ n ih =>
    intro x1 M r h
    exact am_Ev_seg (sem := am_s242_ z) (cut := ([(12, [true, true])] : List (Nat × List Bool))) (hs242 z) am_r242 am_k242 (by rw [am_l242]; decide) (fun pc al st M => (match Nat.beq pc 12 with
      | true => (match al, st with
        | [some (.inr (.inr (11, 205))), some (.inl x1)], [] => f242_12 z n x1 M
        | _, _ => none)
      | false => none)) 14 h (fun pc al st M hk => by
      try dsimp only at hk
      split at hk
      · rename_i he
        rw [am_beq he]
        split at hk
        · exact ih _ _ _ hk
        · cases hk
      · cases hk)
/-- ArgumentMenderModel.frail()I -/
def f242 (z : Nat) (M : aM) : Option aR :=
  am_bi (f225 z M) fun v2 M1 =>
    if ¬ v2 = 0 then
      f242_12 z z (0 : Int32) M1
    else
      some (some (.inl (-2 : Int32)), M1)
set_option maxRecDepth 100000 in
set_option maxHeartbeats 4000000 in
theorem e242 (z : Nat) : ∀ (M : aM) (r : aR), f242 z  M = some r → am_Ev 11 242 0 [some (.inr (.inr (11, 205))), none] [] M r := by
  intro  M r h
  exact am_Ev_seg (sem := am_s242_ z) (cut := ([(12, [true, true])] : List (Nat × List Bool))) (hs242 z) am_r242 am_k242 (by rw [am_l242]; decide) (fun pc al st M => (match Nat.beq pc 12 with
      | true => (match al, st with
        | [some (.inr (.inr (11, 205))), some (.inl x1)], [] => f242_12 z z x1 M
        | _, _ => none)
      | false => none)) 7 h (fun pc al st M hk => by
      try dsimp only at hk
      split at hk
      · rename_i he
        rw [am_beq he]
        split at hk
        · exact e242_12 z _ _ _ _ hk
        · cases hk
      · cases hk)
def F242 (z : Nat) (as : List aV) (M : aM) : Option aR := match as with
  | [.inr (.inr (11, 205))] => f242 z  M
  | _ => none
theorem S242 (z : Nat) : am_Snd 11 242 (F242 z) := am_meth (by decide +kernel) (fun as M r has h => by
    rw [am_l242]
    unfold F242 at h
    split at h
    · exact ⟨Nat.le_of_ble_eq_true rfl, e242 z _ _ h⟩
    · cases h)
def cd243_0 : List am_E := [(0, .iconst 0, 1, 0, 0, 0, 0), (1, .istore_n 2, 1, 2, 0, 0, 0), (2, .iconst 0, 1, 0, 0, 0, 0), (3, .istore_n 3, 1, 3, 0, 0, 0), (4, .iload_n 3, 1, 3, 0, 0, 0), (5, .aload_n 0, 1, 0, 0, 0, 0), (6, .invokevirtual 118, 3, 178, 11000, 0, 0), (9, .if_icmp .ge 18, 3, 27, 0, 0, 0), (12, .iload_n 2, 1, 2, 0, 0, 0), (13, .aload_n 0, 1, 0, 0, 0, 0), (14, .iload_n 3, 1, 3, 0, 0, 0), (15, .iload_n 1, 1, 1, 0, 0, 0), (16, .invokevirtual 341, 3, 227, 11020, 0, 0), (19, .iadd, 1, 0, 0, 0, 0), (20, .istore_n 2, 1, 2, 0, 0, 0), (21, .iinc 3 1, 3, 3, 0, 1, 0), (24, .goto (-20), 3, 4, 0, 0, 0), (27, .iload_n 2, 1, 2, 0, 0, 0), (28, .ireturn, 1, 0, 0, 0, 0)]
def cd243 : List am_E := cd243_0
def am_w243 : List (List (Int32 × Nat) × Nat) := []
set_option maxRecDepth 100000 in
theorem kcd243_0 : cd243_0.all (am_chk am_w243 243) = true := by decide +kernel
theorem am_k243 : cd243.all (am_chk am_w243 243) = true := by
  simp only [cd243, List.all_append, kcd243_0, Bool.and_self]
theorem am_r243 : am_rtc 243 = 0 := by decide +kernel
theorem am_l243 : am_ml 243 = 4 := by decide +kernel
def am_s243_ (z : Nat) : Nat → List aV → aM → Option aR := fun j => (match Nat.beq j 178 with
  | true => F178 z
  | false => (match Nat.beq j 227 with
  | true => F227 z
  | false => (fun _ _ => none)))
theorem hs243 (z : Nat) : ∀ j2 : Nat, ∃ d2 : Nat, d2 + 1 ≤ 2 ∧ am_Snd d2 j2 (am_s243_ z j2) := by
  intro j2
  unfold am_s243_
  split
  · rename_i he
    rw [am_beq he]
    exact ⟨_, by decide, S178 z⟩
  · skip
    split
    · rename_i he
      rw [am_beq he]
      exact ⟨_, by decide, S227 z⟩
    · skip
      exact ⟨0, by decide, am_Snd_no j2⟩
def f243_4 (z : Nat) : Nat → Int32 → Int32 → Int32 → aM → Option aR
  | 0, _, _, _, _ => none
  | n + 1, x1, x2, x3, M =>
    am_bi (f178 z M) fun v2 M1 =>
      if v2 ≤ x3 then
        some (some (.inl x2), M1)
      else
        am_bi (f227 z x3 x1 M1) fun v4 M3 =>
          f243_4 z n x1 (x2 + v4) (x3 + (1 : Int32)) M3
set_option maxRecDepth 100000 in
set_option maxHeartbeats 4000000 in
theorem e243_4 (z : Nat) : ∀ (n : Nat) (x1 : Int32) (x2 : Int32) (x3 : Int32) (M : aM) (r : aR), f243_4 z n x1 x2 x3 M = some r → am_Ev 2 243 4 [some (.inr (.inr (11, 205))), some (.inl x1), some (.inl x2), some (.inl x3)] [] M r := by
  intro n
  induction n with
  | zero =>
    intro x1 x2 x3 M r h
    cases h
  | succ n ih =>
    intro x1 x2 x3 M r h
    exact am_Ev_seg (sem := am_s243_ z) (cut := ([(4, [true, true, true, true])] : List (Nat × List Bool))) (hs243 z) am_r243 am_k243 (by rw [am_l243]; decide) (fun pc al st M => (match Nat.beq pc 4 with
      | true => (match al, st with
        | [some (.inr (.inr (11, 205))), some (.inl x1), some (.inl x2), some (.inl x3)], [] => f243_4 z n x1 x2 x3 M
        | _, _ => none)
      | false => none)) 15 h (fun pc al st M hk => by
      try dsimp only at hk
      split at hk
      · rename_i he
        rw [am_beq he]
        split at hk
        · exact ih _ _ _ _ _ hk
        · cases hk
      · cases hk)
/-- ArgumentMenderModel.sumIn(I)I -/
def f243 (z : Nat) (x1 : Int32) (M : aM) : Option aR :=
  f243_4 z z x1 (0 : Int32) (0 : Int32) M
set_option maxRecDepth 100000 in
set_option maxHeartbeats 4000000 in
theorem e243 (z : Nat) : ∀ (x1 : Int32) (M : aM) (r : aR), f243 z x1 M = some r → am_Ev 2 243 0 [some (.inr (.inr (11, 205))), some (.inl x1), none, none] [] M r := by
  intro x1 M r h
  exact am_Ev_seg (sem := am_s243_ z) (cut := ([(4, [true, true, true, true])] : List (Nat × List Bool))) (hs243 z) am_r243 am_k243 (by rw [am_l243]; decide) (fun pc al st M => (match Nat.beq pc 4 with
      | true => (match al, st with
        | [some (.inr (.inr (11, 205))), some (.inl x1), some (.inl x2), some (.inl x3)], [] => f243_4 z z x1 x2 x3 M
        | _, _ => none)
      | false => none)) 6 h (fun pc al st M hk => by
      try dsimp only at hk
      split at hk
      · rename_i he
        rw [am_beq he]
        split at hk
        · exact e243_4 z _ _ _ _ _ _ hk
        · cases hk
      · cases hk)
def F243 (z : Nat) (as : List aV) (M : aM) : Option aR := match as with
  | [.inr (.inr (11, 205)), .inl x1] => f243 z x1 M
  | _ => none
theorem S243 (z : Nat) : am_Snd 2 243 (F243 z) := am_meth (by decide +kernel) (fun as M r has h => by
    rw [am_l243]
    unfold F243 at h
    split at h
    · exact ⟨Nat.le_of_ble_eq_true rfl, e243 z _ _ _ h⟩
    · cases h)
def cd244_0 : List am_E := [(0, .aload_n 0, 1, 0, 0, 0, 0), (1, .iload_n 1, 1, 1, 0, 0, 0), (2, .invokevirtual 356, 3, 226, 11010, 0, 0), (5, .ifCond .eq 11, 3, 16, 0, 0, 0), (8, .aload_n 0, 1, 0, 0, 0, 0), (9, .iload_n 1, 1, 1, 0, 0, 0), (10, .invokevirtual 365, 3, 243, 11010, 0, 0), (13, .goto 5, 3, 18, 0, 0, 0), (16, .bipush (-2), 2, 0, 0, (-2), 0), (18, .ireturn, 1, 0, 0, 0, 0)]
def cd244 : List am_E := cd244_0
def am_w244 : List (List (Int32 × Nat) × Nat) := []
set_option maxRecDepth 100000 in
theorem kcd244_0 : cd244_0.all (am_chk am_w244 244) = true := by decide +kernel
theorem am_k244 : cd244.all (am_chk am_w244 244) = true := by
  simp only [cd244, List.all_append, kcd244_0, Bool.and_self]
theorem am_r244 : am_rtc 244 = 0 := by decide +kernel
theorem am_l244 : am_ml 244 = 2 := by decide +kernel
def am_s244_ (z : Nat) : Nat → List aV → aM → Option aR := fun j => (match Nat.beq j 226 with
  | true => F226 z
  | false => (match Nat.beq j 243 with
  | true => F243 z
  | false => (fun _ _ => none)))
theorem hs244 (z : Nat) : ∀ j2 : Nat, ∃ d2 : Nat, d2 + 1 ≤ 12 ∧ am_Snd d2 j2 (am_s244_ z j2) := by
  intro j2
  unfold am_s244_
  split
  · rename_i he
    rw [am_beq he]
    exact ⟨_, by decide, S226 z⟩
  · skip
    split
    · rename_i he
      rw [am_beq he]
      exact ⟨_, by decide, S243 z⟩
    · skip
      exact ⟨0, by decide, am_Snd_no j2⟩
/-- ArgumentMenderModel.sum(I)I -/
def f244 (z : Nat) (x1 : Int32) (M : aM) : Option aR :=
  am_bi (f226 z x1 M) fun v2 M1 =>
    if v2 = 0 then
      some (some (.inl (-2 : Int32)), M1)
    else
      am_bi (f243 z x1 M1) fun v4 M3 =>
        some (some (.inl v4), M3)
set_option maxRecDepth 100000 in
set_option maxHeartbeats 4000000 in
theorem e244 (z : Nat) : ∀ (x1 : Int32) (M : aM) (r : aR), f244 z x1 M = some r → am_Ev 12 244 0 [some (.inr (.inr (11, 205))), some (.inl x1)] [] M r := by
  intro x1 M r h
  exact am_Ev_seg (sem := am_s244_ z) (cut := ([] : List (Nat × List Bool))) (hs244 z) am_r244 am_k244 (by rw [am_l244]; decide) (fun _ _ _ _ => none) 10 h (fun _ _ _ _ hk => by cases hk)
def F244 (z : Nat) (as : List aV) (M : aM) : Option aR := match as with
  | [.inr (.inr (11, 205)), .inl x1] => f244 z x1 M
  | _ => none
theorem S244 (z : Nat) : am_Snd 12 244 (F244 z) := am_meth (by decide +kernel) (fun as M r has h => by
    rw [am_l244]
    unfold F244 at h
    split at h
    · exact ⟨Nat.le_of_ble_eq_true rfl, e244 z _ _ _ h⟩
    · cases h)
def cd245_0 : List am_E := [(0, .aload_n 0, 1, 0, 0, 0, 0), (1, .invokevirtual 335, 3, 225, 11000, 0, 0), (4, .pop, 1, 0, 0, 0, 0), (5, .aload_n 0, 1, 0, 0, 0, 0), (6, .iload_n 1, 1, 1, 0, 0, 0), (7, .i2l, 1, 0, 0, 0, 0), (8, .invokevirtual 368, 3, 181, 11010, 0, 0), (11, .ifCond .eq 19, 3, 30, 0, 0, 0), (14, .aload_n 0, 1, 0, 0, 0, 0), (15, .iload_n 1, 1, 1, 0, 0, 0), (16, .invokevirtual 365, 3, 243, 11010, 0, 0), (19, .aload_n 0, 1, 0, 0, 0, 0), (20, .iload_n 1, 1, 1, 0, 0, 0), (21, .iconst 1, 1, 0, 0, 1, 0), (22, .iadd, 1, 0, 0, 0, 0), (23, .invokevirtual 365, 3, 243, 11010, 0, 0), (26, .isub, 1, 0, 0, 0, 0), (27, .goto 6, 3, 33, 0, 0, 0), (30, .ldc_w 371, 3, 0, 0, (-100000), 0), (33, .ireturn, 1, 0, 0, 0, 0)]
def cd245 : List am_E := cd245_0
def am_w245 : List (List (Int32 × Nat) × Nat) := []
set_option maxRecDepth 100000 in
theorem kcd245_0 : cd245_0.all (am_chk am_w245 245) = true := by decide +kernel
theorem am_k245 : cd245.all (am_chk am_w245 245) = true := by
  simp only [cd245, List.all_append, kcd245_0, Bool.and_self]
theorem am_r245 : am_rtc 245 = 0 := by decide +kernel
theorem am_l245 : am_ml 245 = 2 := by decide +kernel
def am_s245_ (z : Nat) : Nat → List aV → aM → Option aR := fun j => (match Nat.beq j 181 with
  | true => F181 z
  | false => (match Nat.beq j 225 with
  | true => F225 z
  | false => (match Nat.beq j 243 with
  | true => F243 z
  | false => (fun _ _ => none))))
theorem hs245 (z : Nat) : ∀ j2 : Nat, ∃ d2 : Nat, d2 + 1 ≤ 11 ∧ am_Snd d2 j2 (am_s245_ z j2) := by
  intro j2
  unfold am_s245_
  split
  · rename_i he
    rw [am_beq he]
    exact ⟨_, by decide, S181 z⟩
  · skip
    split
    · rename_i he
      rw [am_beq he]
      exact ⟨_, by decide, S225 z⟩
    · skip
      split
      · rename_i he
        rw [am_beq he]
        exact ⟨_, by decide, S243 z⟩
      · skip
        exact ⟨0, by decide, am_Snd_no j2⟩
/-- ArgumentMenderModel.loses(I)I -/
def f245 (z : Nat) (x1 : Int32) (M : aM) : Option aR :=
  am_bi (f225 z M) fun v2 M1 =>
    am_bi (f181 z (Int32.toInt64 x1) M1) fun v4 M3 =>
      if v4 = 0 then
        some (some (.inl (-100000 : Int32)), M3)
      else
        am_bi (f243 z x1 M3) fun v6 M5 =>
          am_bi (f243 z (x1 + (1 : Int32)) M5) fun v8 M7 =>
            some (some (.inl (v6 - v8)), M7)
set_option maxRecDepth 100000 in
set_option maxHeartbeats 4000000 in
theorem e245 (z : Nat) : ∀ (x1 : Int32) (M : aM) (r : aR), f245 z x1 M = some r → am_Ev 11 245 0 [some (.inr (.inr (11, 205))), some (.inl x1)] [] M r := by
  intro x1 M r h
  exact am_Ev_seg (sem := am_s245_ z) (cut := ([] : List (Nat × List Bool))) (hs245 z) am_r245 am_k245 (by rw [am_l245]; decide) (fun _ _ _ _ => none) 20 h (fun _ _ _ _ hk => by cases hk)
def F245 (z : Nat) (as : List aV) (M : aM) : Option aR := match as with
  | [.inr (.inr (11, 205)), .inl x1] => f245 z x1 M
  | _ => none
theorem S245 (z : Nat) : am_Snd 11 245 (F245 z) := am_meth (by decide +kernel) (fun as M r has h => by
    rw [am_l245]
    unfold F245 at h
    split at h
    · exact ⟨Nat.le_of_ble_eq_true rfl, e245 z _ _ _ h⟩
    · cases h)
def cd246_0 : List am_E := [(0, .aload_n 0, 1, 0, 0, 0, 0), (1, .iload_n 2, 1, 2, 0, 0, 0), (2, .invokevirtual 356, 3, 226, 11010, 0, 0), (5, .ifCond .eq 11, 3, 16, 0, 0, 0), (8, .aload_n 0, 1, 0, 0, 0, 0), (9, .iload_n 1, 1, 1, 0, 0, 0), (10, .invokevirtual 255, 3, 182, 11010, 0, 0), (13, .ifCond .ne 6, 3, 19, 0, 0, 0), (16, .bipush (-2), 2, 0, 0, (-2), 0), (18, .ireturn, 1, 0, 0, 0, 0), (19, .iconst 0, 1, 0, 0, 0, 0), (20, .istore_n 3, 1, 3, 0, 0, 0), (21, .iconst 0, 1, 0, 0, 0, 0), (22, .istore 4, 2, 4, 0, 0, 0), (24, .iload 4, 2, 4, 0, 0, 0), (26, .aload_n 0, 1, 0, 0, 0, 0), (27, .invokevirtual 118, 3, 178, 11000, 0, 0), (30, .if_icmp .ge 33, 3, 63, 0, 0, 0), (33, .iload_n 3, 1, 3, 0, 0, 0), (34, .aload_n 0, 1, 0, 0, 0, 0), (35, .iload 4, 2, 4, 0, 0, 0), (37, .invokevirtual 252, 3, 185, 11010, 0, 0), (40, .iload_n 1, 1, 1, 0, 0, 0), (41, .if_icmp .ne 13, 3, 54, 0, 0, 0), (44, .aload_n 0, 1, 0, 0, 0, 0), (45, .iload 4, 2, 4, 0, 0, 0), (47, .iload_n 2, 1, 2, 0, 0, 0), (48, .invokevirtual 341, 3, 227, 11020, 0, 0), (51, .goto 4, 3, 55, 0, 0, 0), (54, .iconst 0, 1, 0, 0, 0, 0), (55, .iadd, 1, 0, 0, 0, 0), (56, .istore_n 3, 1, 3, 0, 0, 0), (57, .iinc 4 1, 3, 4, 0, 1, 0), (60, .goto (-36), 3, 24, 0, 0, 0), (63, .iload_n 3, 1, 3, 0, 0, 0), (64, .ireturn, 1, 0, 0, 0, 0)]
def cd246 : List am_E := cd246_0
def am_w246 : List (List (Int32 × Nat) × Nat) := []
set_option maxRecDepth 100000 in
theorem kcd246_0 : cd246_0.all (am_chk am_w246 246) = true := by decide +kernel
theorem am_k246 : cd246.all (am_chk am_w246 246) = true := by
  simp only [cd246, List.all_append, kcd246_0, Bool.and_self]
theorem am_r246 : am_rtc 246 = 0 := by decide +kernel
theorem am_l246 : am_ml 246 = 5 := by decide +kernel
def am_s246_ (z : Nat) : Nat → List aV → aM → Option aR := fun j => (match Nat.beq j 178 with
  | true => F178 z
  | false => (match Nat.beq j 182 with
  | true => F182 z
  | false => (match Nat.beq j 185 with
  | true => F185 z
  | false => (match Nat.beq j 226 with
  | true => F226 z
  | false => (match Nat.beq j 227 with
  | true => F227 z
  | false => (fun _ _ => none))))))
theorem hs246 (z : Nat) : ∀ j2 : Nat, ∃ d2 : Nat, d2 + 1 ≤ 12 ∧ am_Snd d2 j2 (am_s246_ z j2) := by
  intro j2
  unfold am_s246_
  split
  · rename_i he
    rw [am_beq he]
    exact ⟨_, by decide, S178 z⟩
  · skip
    split
    · rename_i he
      rw [am_beq he]
      exact ⟨_, by decide, S182 z⟩
    · skip
      split
      · rename_i he
        rw [am_beq he]
        exact ⟨_, by decide, S185 z⟩
      · skip
        split
        · rename_i he
          rw [am_beq he]
          exact ⟨_, by decide, S226 z⟩
        · skip
          split
          · rename_i he
            rw [am_beq he]
            exact ⟨_, by decide, S227 z⟩
          · skip
            exact ⟨0, by decide, am_Snd_no j2⟩
def f246_24 (z : Nat) : Nat → Int32 → Int32 → Int32 → Int32 → aM → Option aR
  | 0, _, _, _, _, _ => none
  | n + 1, x1, x2, x3, x4, M =>
    am_bi (f178 z M) fun v2 M1 =>
      if v2 ≤ x4 then
        some (some (.inl x3), M1)
      else
        am_bi (f185 z x4 M1) fun v4 M3 =>
          if ¬ v4 = x1 then
            f246_24 z n x1 x2 (x3 + (0 : Int32)) (x4 + (1 : Int32)) M3
          else
            am_bi (f227 z x4 x2 M3) fun v6 M5 =>
              f246_24 z n x1 x2 (x3 + v6) (x4 + (1 : Int32)) M5
set_option maxRecDepth 100000 in
set_option maxHeartbeats 4000000 in
theorem e246_24 (z : Nat) : ∀ (n : Nat) (x1 : Int32) (x2 : Int32) (x3 : Int32) (x4 : Int32) (M : aM) (r : aR), f246_24 z n x1 x2 x3 x4 M = some r → am_Ev 12 246 24 [some (.inr (.inr (11, 205))), some (.inl x1), some (.inl x2), some (.inl x3), some (.inl x4)] [] M r := by
  intro n
  induction n with
  | zero =>
    intro x1 x2 x3 x4 M r h
    cases h
  | succ n ih =>
    intro x1 x2 x3 x4 M r h
    exact am_Ev_seg (sem := am_s246_ z) (cut := ([(24, [true, true, true, true, true])] : List (Nat × List Bool))) (hs246 z) am_r246 am_k246 (by rw [am_l246]; decide) (fun pc al st M => (match Nat.beq pc 24 with
      | true => (match al, st with
        | [some (.inr (.inr (11, 205))), some (.inl x1), some (.inl x2), some (.inl x3), some (.inl x4)], [] => f246_24 z n x1 x2 x3 x4 M
        | _, _ => none)
      | false => none)) 21 h (fun pc al st M hk => by
      try dsimp only at hk
      split at hk
      · rename_i he
        rw [am_beq he]
        split at hk
        · exact ih _ _ _ _ _ _ hk
        · cases hk
      · cases hk)
/-- ArgumentMenderModel.stuff(II)I -/
def f246 (z : Nat) (x1 : Int32) (x2 : Int32) (M : aM) : Option aR :=
  am_bi (f226 z x2 M) fun v2 M1 =>
    if v2 = 0 then
      some (some (.inl (-2 : Int32)), M1)
    else
      am_bi (f182 z x1 M1) fun v4 M3 =>
        if ¬ v4 = 0 then
          f246_24 z z x1 x2 (0 : Int32) (0 : Int32) M3
        else
          some (some (.inl (-2 : Int32)), M3)
set_option maxRecDepth 100000 in
set_option maxHeartbeats 4000000 in
theorem e246 (z : Nat) : ∀ (x1 : Int32) (x2 : Int32) (M : aM) (r : aR), f246 z x1 x2 M = some r → am_Ev 12 246 0 [some (.inr (.inr (11, 205))), some (.inl x1), some (.inl x2), none, none] [] M r := by
  intro x1 x2 M r h
  exact am_Ev_seg (sem := am_s246_ z) (cut := ([(24, [true, true, true, true, true])] : List (Nat × List Bool))) (hs246 z) am_r246 am_k246 (by rw [am_l246]; decide) (fun pc al st M => (match Nat.beq pc 24 with
      | true => (match al, st with
        | [some (.inr (.inr (11, 205))), some (.inl x1), some (.inl x2), some (.inl x3), some (.inl x4)], [] => f246_24 z z x1 x2 x3 x4 M
        | _, _ => none)
      | false => none)) 14 h (fun pc al st M hk => by
      try dsimp only at hk
      split at hk
      · rename_i he
        rw [am_beq he]
        split at hk
        · exact e246_24 z _ _ _ _ _ _ _ hk
        · cases hk
      · cases hk)
def F246 (z : Nat) (as : List aV) (M : aM) : Option aR := match as with
  | [.inr (.inr (11, 205)), .inl x1, .inl x2] => f246 z x1 x2 M
  | _ => none
theorem S246 (z : Nat) : am_Snd 12 246 (F246 z) := am_meth (by decide +kernel) (fun as M r has h => by
    rw [am_l246]
    unfold F246 at h
    split at h
    · exact ⟨Nat.le_of_ble_eq_true rfl, e246 z _ _ _ _ h⟩
    · cases h)
def cd247_0 : List am_E := [(0, .aload_n 0, 1, 0, 0, 0, 0), (1, .iload_n 1, 1, 1, 0, 0, 0), (2, .invokevirtual 356, 3, 226, 11010, 0, 0), (5, .ifCond .ne 6, 3, 11, 0, 0, 0), (8, .bipush (-2), 2, 0, 0, (-2), 0), (10, .ireturn, 1, 0, 0, 0, 0), (11, .iconst 0, 1, 0, 0, 0, 0), (12, .istore_n 2, 1, 2, 0, 0, 0), (13, .iconst 0, 1, 0, 0, 0, 0), (14, .istore_n 3, 1, 3, 0, 0, 0), (15, .iload_n 3, 1, 3, 0, 0, 0), (16, .aload_n 0, 1, 0, 0, 0, 0), (17, .invokevirtual 115, 3, 177, 11000, 0, 0), (20, .if_icmp .ge 37, 3, 57, 0, 0, 0), (23, .iload_n 2, 1, 2, 0, 0, 0), (24, .aload_n 0, 1, 0, 0, 0, 0), (25, .iload_n 3, 1, 3, 0, 0, 0), (26, .invokevirtual 258, 3, 209, 11010, 0, 0), (29, .aload_n 0, 1, 0, 0, 0, 0), (30, .iload_n 1, 1, 1, 0, 0, 0), (31, .invokevirtual 347, 3, 229, 11010, 0, 0), (34, .iand, 1, 0, 0, 0, 0), (35, .invokestatic 372, 3, 171, 15, 0, 0), (38, .iconst 1, 1, 0, 0, 1, 0), (39, .if_icmp .ne 9, 3, 48, 0, 0, 0), (42, .iconst 1, 1, 0, 0, 1, 0), (43, .iload_n 3, 1, 3, 0, 0, 0), (44, .ishl, 1, 0, 0, 0, 0), (45, .goto 4, 3, 49, 0, 0, 0), (48, .iconst 0, 1, 0, 0, 0, 0), (49, .ior, 1, 0, 0, 0, 0), (50, .istore_n 2, 1, 2, 0, 0, 0), (51, .iinc 3 1, 3, 3, 0, 1, 0), (54, .goto (-39), 3, 15, 0, 0, 0), (57, .iload_n 2, 1, 2, 0, 0, 0), (58, .ireturn, 1, 0, 0, 0, 0)]
def cd247 : List am_E := cd247_0
def am_w247 : List (List (Int32 × Nat) × Nat) := []
set_option maxRecDepth 100000 in
theorem kcd247_0 : cd247_0.all (am_chk am_w247 247) = true := by decide +kernel
theorem am_k247 : cd247.all (am_chk am_w247 247) = true := by
  simp only [cd247, List.all_append, kcd247_0, Bool.and_self]
theorem am_r247 : am_rtc 247 = 0 := by decide +kernel
theorem am_l247 : am_ml 247 = 4 := by decide +kernel
def am_s247_ (z : Nat) : Nat → List aV → aM → Option aR := fun j => (match Nat.beq j 171 with
  | true => F171 z
  | false => (match Nat.beq j 177 with
  | true => F177 z
  | false => (match Nat.beq j 209 with
  | true => F209 z
  | false => (match Nat.beq j 226 with
  | true => F226 z
  | false => (match Nat.beq j 229 with
  | true => F229 z
  | false => (fun _ _ => none))))))
theorem hs247 (z : Nat) : ∀ j2 : Nat, ∃ d2 : Nat, d2 + 1 ≤ 12 ∧ am_Snd d2 j2 (am_s247_ z j2) := by
  intro j2
  unfold am_s247_
  split
  · rename_i he
    rw [am_beq he]
    exact ⟨_, by decide, S171 z⟩
  · skip
    split
    · rename_i he
      rw [am_beq he]
      exact ⟨_, by decide, S177 z⟩
    · skip
      split
      · rename_i he
        rw [am_beq he]
        exact ⟨_, by decide, S209 z⟩
      · skip
        split
        · rename_i he
          rw [am_beq he]
          exact ⟨_, by decide, S226 z⟩
        · skip
          split
          · rename_i he
            rw [am_beq he]
            exact ⟨_, by decide, S229 z⟩
          · skip
            exact ⟨0, by decide, am_Snd_no j2⟩
def f247_15 (z : Nat) : Nat → Int32 → Int32 → Int32 → aM → Option aR
  | 0, _, _, _, _ => none
  | n + 1, x1, x2, x3, M =>
    am_bi (f177 z M) fun v2 M1 =>
      if v2 ≤ x3 then
        some (some (.inl x2), M1)
      else
        am_bi (f209 z x3 M1) fun v4 M3 =>
          am_bi (f229 z x1 M3) fun v6 M5 =>
            am_bi (f171 z (v4 &&& v6) M5) fun v8 M7 =>
              if ¬ v8 = (1 : Int32) then
                f247_15 z n x1 (x2 ||| (0 : Int32)) (x3 + (1 : Int32)) M7
              else
                f247_15 z n x1 (x2 ||| ((1 : Int32) <<< (x3 &&& 31))) (x3 + (1 : Int32)) M7
set_option maxRecDepth 100000 in
set_option maxHeartbeats 4000000 in
theorem e247_15 (z : Nat) : ∀ (n : Nat) (x1 : Int32) (x2 : Int32) (x3 : Int32) (M : aM) (r : aR), f247_15 z n x1 x2 x3 M = some r → am_Ev 12 247 15 [some (.inr (.inr (11, 205))), some (.inl x1), some (.inl x2), some (.inl x3)] [] M r := by
  intro n
  induction n with
  | zero =>
    intro x1 x2 x3 M r h
    cases h
  | succ n ih =>
    intro x1 x2 x3 M r h
    exact am_Ev_seg (sem := am_s247_ z) (cut := ([(15, [true, true, true, true])] : List (Nat × List Bool))) (hs247 z) am_r247 am_k247 (by rw [am_l247]; decide) (fun pc al st M => (match Nat.beq pc 15 with
      | true => (match al, st with
        | [some (.inr (.inr (11, 205))), some (.inl x1), some (.inl x2), some (.inl x3)], [] => f247_15 z n x1 x2 x3 M
        | _, _ => none)
      | false => none)) 25 h (fun pc al st M hk => by
      try dsimp only at hk
      split at hk
      · rename_i he
        rw [am_beq he]
        split at hk
        · exact ih _ _ _ _ _ hk
        · cases hk
      · cases hk)
/-- ArgumentMenderModel.bare(I)I -/
def f247 (z : Nat) (x1 : Int32) (M : aM) : Option aR :=
  am_bi (f226 z x1 M) fun v2 M1 =>
    if ¬ v2 = 0 then
      f247_15 z z x1 (0 : Int32) (0 : Int32) M1
    else
      some (some (.inl (-2 : Int32)), M1)
set_option maxRecDepth 100000 in
set_option maxHeartbeats 4000000 in
theorem e247 (z : Nat) : ∀ (x1 : Int32) (M : aM) (r : aR), f247 z x1 M = some r → am_Ev 12 247 0 [some (.inr (.inr (11, 205))), some (.inl x1), none, none] [] M r := by
  intro x1 M r h
  exact am_Ev_seg (sem := am_s247_ z) (cut := ([(15, [true, true, true, true])] : List (Nat × List Bool))) (hs247 z) am_r247 am_k247 (by rw [am_l247]; decide) (fun pc al st M => (match Nat.beq pc 15 with
      | true => (match al, st with
        | [some (.inr (.inr (11, 205))), some (.inl x1), some (.inl x2), some (.inl x3)], [] => f247_15 z z x1 x2 x3 M
        | _, _ => none)
      | false => none)) 10 h (fun pc al st M hk => by
      try dsimp only at hk
      split at hk
      · rename_i he
        rw [am_beq he]
        split at hk
        · exact e247_15 z _ _ _ _ _ _ hk
        · cases hk
      · cases hk)
def F247 (z : Nat) (as : List aV) (M : aM) : Option aR := match as with
  | [.inr (.inr (11, 205)), .inl x1] => f247 z x1 M
  | _ => none
theorem S247 (z : Nat) : am_Snd 12 247 (F247 z) := am_meth (by decide +kernel) (fun as M r has h => by
    rw [am_l247]
    unfold F247 at h
    split at h
    · exact ⟨Nat.le_of_ble_eq_true rfl, e247 z _ _ _ h⟩
    · cases h)
def cd248_0 : List am_E := [(0, .aload_n 0, 1, 0, 0, 0, 0), (1, .iload_n 1, 1, 1, 0, 0, 0), (2, .invokevirtual 356, 3, 226, 11010, 0, 0), (5, .ifCond .ne 6, 3, 11, 0, 0, 0), (8, .bipush (-2), 2, 0, 0, (-2), 0), (10, .ireturn, 1, 0, 0, 0, 0), (11, .iconst (-1), 1, 0, 0, (-1), 0), (12, .istore_n 2, 1, 2, 0, 0, 0), (13, .iconst 0, 1, 0, 0, 0, 0), (14, .istore_n 3, 1, 3, 0, 0, 0), (15, .iload_n 3, 1, 3, 0, 0, 0), (16, .aload_n 0, 1, 0, 0, 0, 0), (17, .invokevirtual 118, 3, 178, 11000, 0, 0), (20, .if_icmp .ge 31, 3, 51, 0, 0, 0), (23, .iload_n 2, 1, 2, 0, 0, 0), (24, .iconst (-1), 1, 0, 0, (-1), 0), (25, .if_icmp .eq 18, 3, 43, 0, 0, 0), (28, .aload_n 0, 1, 0, 0, 0, 0), (29, .iload_n 3, 1, 3, 0, 0, 0), (30, .iload_n 1, 1, 1, 0, 0, 0), (31, .invokevirtual 341, 3, 227, 11020, 0, 0), (34, .aload_n 0, 1, 0, 0, 0, 0), (35, .iload_n 2, 1, 2, 0, 0, 0), (36, .iload_n 1, 1, 1, 0, 0, 0), (37, .invokevirtual 341, 3, 227, 11020, 0, 0), (40, .if_icmp .le 5, 3, 45, 0, 0, 0), (43, .iload_n 3, 1, 3, 0, 0, 0), (44, .istore_n 2, 1, 2, 0, 0, 0), (45, .iinc 3 1, 3, 3, 0, 1, 0), (48, .goto (-33), 3, 15, 0, 0, 0), (51, .iload_n 2, 1, 2, 0, 0, 0), (52, .ireturn, 1, 0, 0, 0, 0)]
def cd248 : List am_E := cd248_0
def am_w248 : List (List (Int32 × Nat) × Nat) := []
set_option maxRecDepth 100000 in
theorem kcd248_0 : cd248_0.all (am_chk am_w248 248) = true := by decide +kernel
theorem am_k248 : cd248.all (am_chk am_w248 248) = true := by
  simp only [cd248, List.all_append, kcd248_0, Bool.and_self]
theorem am_r248 : am_rtc 248 = 0 := by decide +kernel
theorem am_l248 : am_ml 248 = 4 := by decide +kernel
def am_s248_ (z : Nat) : Nat → List aV → aM → Option aR := fun j => (match Nat.beq j 178 with
  | true => F178 z
  | false => (match Nat.beq j 226 with
  | true => F226 z
  | false => (match Nat.beq j 227 with
  | true => F227 z
  | false => (fun _ _ => none))))
theorem hs248 (z : Nat) : ∀ j2 : Nat, ∃ d2 : Nat, d2 + 1 ≤ 12 ∧ am_Snd d2 j2 (am_s248_ z j2) := by
  intro j2
  unfold am_s248_
  split
  · rename_i he
    rw [am_beq he]
    exact ⟨_, by decide, S178 z⟩
  · skip
    split
    · rename_i he
      rw [am_beq he]
      exact ⟨_, by decide, S226 z⟩
    · skip
      split
      · rename_i he
        rw [am_beq he]
        exact ⟨_, by decide, S227 z⟩
      · skip
        exact ⟨0, by decide, am_Snd_no j2⟩
def f248_15 (z : Nat) : Nat → Int32 → Int32 → Int32 → aM → Option aR
  | 0, _, _, _, _ => none
  | n + 1, x1, x2, x3, M =>
    am_bi (f178 z M) fun v2 M1 =>
      if v2 ≤ x3 then
        some (some (.inl x2), M1)
      else
        if x2 = (-1 : Int32) then
          f248_15 z n x1 x3 (x3 + (1 : Int32)) M1
        else
          am_bi (f227 z x3 x1 M1) fun v4 M3 =>
            am_bi (f227 z x2 x1 M3) fun v6 M5 =>
              if v4 ≤ v6 then
                f248_15 z n x1 x2 (x3 + (1 : Int32)) M5
              else
                f248_15 z n x1 x3 (x3 + (1 : Int32)) M5
set_option maxRecDepth 100000 in
set_option maxHeartbeats 4000000 in
theorem e248_15 (z : Nat) : ∀ (n : Nat) (x1 : Int32) (x2 : Int32) (x3 : Int32) (M : aM) (r : aR), f248_15 z n x1 x2 x3 M = some r → am_Ev 12 248 15 [some (.inr (.inr (11, 205))), some (.inl x1), some (.inl x2), some (.inl x3)] [] M r := by
  intro n
  induction n with
  | zero =>
    intro x1 x2 x3 M r h
    cases h
  | succ n ih =>
    intro x1 x2 x3 M r h
    exact am_Ev_seg (sem := am_s248_ z) (cut := ([(15, [true, true, true, true])] : List (Nat × List Bool))) (hs248 z) am_r248 am_k248 (by rw [am_l248]; decide) (fun pc al st M => (match Nat.beq pc 15 with
      | true => (match al, st with
        | [some (.inr (.inr (11, 205))), some (.inl x1), some (.inl x2), some (.inl x3)], [] => f248_15 z n x1 x2 x3 M
        | _, _ => none)
      | false => none)) 22 h (fun pc al st M hk => by
      try dsimp only at hk
      split at hk
      · rename_i he
        rw [am_beq he]
        split at hk
        · exact ih _ _ _ _ _ hk
        · cases hk
      · cases hk)
/-- ArgumentMenderModel.strongest(I)I -/
def f248 (z : Nat) (x1 : Int32) (M : aM) : Option aR :=
  am_bi (f226 z x1 M) fun v2 M1 =>
    if ¬ v2 = 0 then
      f248_15 z z x1 (-1 : Int32) (0 : Int32) M1
    else
      some (some (.inl (-2 : Int32)), M1)
set_option maxRecDepth 100000 in
set_option maxHeartbeats 4000000 in
theorem e248 (z : Nat) : ∀ (x1 : Int32) (M : aM) (r : aR), f248 z x1 M = some r → am_Ev 12 248 0 [some (.inr (.inr (11, 205))), some (.inl x1), none, none] [] M r := by
  intro x1 M r h
  exact am_Ev_seg (sem := am_s248_ z) (cut := ([(15, [true, true, true, true])] : List (Nat × List Bool))) (hs248 z) am_r248 am_k248 (by rw [am_l248]; decide) (fun pc al st M => (match Nat.beq pc 15 with
      | true => (match al, st with
        | [some (.inr (.inr (11, 205))), some (.inl x1), some (.inl x2), some (.inl x3)], [] => f248_15 z z x1 x2 x3 M
        | _, _ => none)
      | false => none)) 10 h (fun pc al st M hk => by
      try dsimp only at hk
      split at hk
      · rename_i he
        rw [am_beq he]
        split at hk
        · exact e248_15 z _ _ _ _ _ _ hk
        · cases hk
      · cases hk)
def F248 (z : Nat) (as : List aV) (M : aM) : Option aR := match as with
  | [.inr (.inr (11, 205)), .inl x1] => f248 z x1 M
  | _ => none
theorem S248 (z : Nat) : am_Snd 12 248 (F248 z) := am_meth (by decide +kernel) (fun as M r has h => by
    rw [am_l248]
    unfold F248 at h
    split at h
    · exact ⟨Nat.le_of_ble_eq_true rfl, e248 z _ _ _ h⟩
    · cases h)
