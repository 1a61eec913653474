def cd59_0 : List am_E := [(0, .aload_n 0, 1, 0, 0, 0, 0), (1, .iconst 0, 1, 0, 0, 0, 0), (2, .putfield 58, 3, 7, 6, 0, 0), (5, .aload_n 0, 1, 0, 0, 0, 0), (6, .iconst 0, 1, 0, 0, 0, 0), (7, .putfield 61, 3, 7, 7, 0, 0), (10, .aload_n 0, 1, 0, 0, 0, 0), (11, .iconst (-1), 1, 0, 0, (-1), 0), (12, .putfield 67, 3, 7, 8, 0, 0), (15, .aload_n 0, 1, 0, 0, 0, 0), (16, .iconst (-1), 1, 0, 0, (-1), 0), (17, .putfield 73, 3, 7, 9, 0, 0), (20, .aload_n 1, 1, 1, 0, 0, 0), (21, .getfield 80, 3, 1, 14, 0, 0), (24, .iload_n 3, 1, 3, 0, 0, 0), (25, .iaload, 1, 0, 0, 0, 0), (26, .istore 4, 2, 4, 0, 0, 0), (28, .iload 4, 2, 4, 0, 0, 0), (30, .aload_n 1, 1, 1, 0, 0, 0), (31, .getfield 80, 3, 1, 14, 0, 0), (34, .iload_n 3, 1, 3, 0, 0, 0), (35, .iconst 1, 1, 0, 0, 1, 0), (36, .iadd, 1, 0, 0, 0, 0), (37, .iaload, 1, 0, 0, 0, 0), (38, .if_icmp .ge 111, 3, 149, 0, 0, 0), (41, .aload_n 1, 1, 1, 0, 0, 0), (42, .getfield 83, 3, 1, 13, 0, 0), (45, .iload 4, 2, 4, 0, 0, 0), (47, .iaload, 1, 0, 0, 0, 0), (48, .istore 5, 2, 5, 0, 0, 0), (50, .aload_n 2, 1, 2, 0, 0, 0), (51, .iload 5, 2, 5, 0, 0, 0), (53, .iaload, 1, 0, 0, 0, 0), (54, .ifCond .le 89, 3, 143, 0, 0, 0), (57, .aload_n 0, 1, 0, 0, 0, 0), (58, .dup, 1, 0, 0, 0, 0), (59, .getfield 58, 3, 7, 6, 0, 0), (62, .iconst 1, 1, 0, 0, 1, 0), (63, .iadd, 1, 0, 0, 0, 0), (64, .putfield 58, 3, 7, 6, 0, 0)]
def cd59_1 : List am_E := [(67, .aload_n 0, 1, 0, 0, 0, 0), (68, .dup, 1, 0, 0, 0, 0), (69, .getfield 61, 3, 7, 7, 0, 0), (72, .aload_n 2, 1, 2, 0, 0, 0), (73, .iload 5, 2, 5, 0, 0, 0), (75, .iaload, 1, 0, 0, 0, 0), (76, .iadd, 1, 0, 0, 0, 0), (77, .putfield 61, 3, 7, 7, 0, 0), (80, .aload_n 0, 1, 0, 0, 0, 0), (81, .getfield 67, 3, 7, 8, 0, 0), (84, .ifCond .lt 16, 3, 100, 0, 0, 0), (87, .aload_n 2, 1, 2, 0, 0, 0), (88, .iload 5, 2, 5, 0, 0, 0), (90, .iaload, 1, 0, 0, 0, 0), (91, .aload_n 2, 1, 2, 0, 0, 0), (92, .aload_n 0, 1, 0, 0, 0, 0), (93, .getfield 67, 3, 7, 8, 0, 0), (96, .iaload, 1, 0, 0, 0, 0), (97, .if_icmp .le 20, 3, 117, 0, 0, 0), (100, .aload_n 0, 1, 0, 0, 0, 0), (101, .aload_n 0, 1, 0, 0, 0, 0), (102, .getfield 67, 3, 7, 8, 0, 0), (105, .putfield 73, 3, 7, 9, 0, 0), (108, .aload_n 0, 1, 0, 0, 0, 0), (109, .iload 5, 2, 5, 0, 0, 0), (111, .putfield 67, 3, 7, 8, 0, 0), (114, .goto 29, 3, 143, 0, 0, 0), (117, .aload_n 0, 1, 0, 0, 0, 0), (118, .getfield 73, 3, 7, 9, 0, 0), (121, .ifCond .lt 16, 3, 137, 0, 0, 0), (124, .aload_n 2, 1, 2, 0, 0, 0), (125, .iload 5, 2, 5, 0, 0, 0), (127, .iaload, 1, 0, 0, 0, 0), (128, .aload_n 2, 1, 2, 0, 0, 0), (129, .aload_n 0, 1, 0, 0, 0, 0), (130, .getfield 73, 3, 7, 9, 0, 0), (133, .iaload, 1, 0, 0, 0, 0), (134, .if_icmp .le 9, 3, 143, 0, 0, 0), (137, .aload_n 0, 1, 0, 0, 0, 0), (138, .iload 5, 2, 5, 0, 0, 0)]
def cd59_2 : List am_E := [(140, .putfield 73, 3, 7, 9, 0, 0), (143, .iinc 4 1, 3, 4, 0, 1, 0), (146, .goto (-118), 3, 28, 0, 0, 0), (149, .return_, 1, 0, 0, 0, 0)]
def cd59 : List am_E := cd59_0 ++ (cd59_1 ++ (cd59_2))
def am_w59 : List (List (Int32 × Nat) × Nat) := []
set_option maxRecDepth 100000 in
theorem kcd59_0 : cd59_0.all (am_chk am_w59 59) = true := by decide +kernel
set_option maxRecDepth 100000 in
theorem kcd59_1 : cd59_1.all (am_chk am_w59 59) = true := by decide +kernel
set_option maxRecDepth 100000 in
theorem kcd59_2 : cd59_2.all (am_chk am_w59 59) = true := by decide +kernel
theorem am_k59 : cd59.all (am_chk am_w59 59) = true := by
  simp only [cd59, List.all_append, kcd59_0, kcd59_1, kcd59_2, Bool.and_self]
theorem am_r59 : am_rtc 59 = 4 := by decide +kernel
theorem am_l59 : am_ml 59 = 6 := by decide +kernel
def am_s59_ (z : Nat) : Nat → List aV → aM → Option aR := fun j => (fun _ _ => none)
theorem hs59 (z : Nat) : ∀ j2 : Nat, ∃ d2 : Nat, d2 + 1 ≤ 1 ∧ am_Snd d2 j2 (am_s59_ z j2) := by
  intro j2
  unfold am_s59_
  exact ⟨0, by decide, am_Snd_no j2⟩
def f59_114 (z : Nat) (k28 : Nat → Nat → Nat → Int32 → Int32 → aM → Option aR)  (c0 : Nat) (c1 : Nat) (c2 : Nat) (x3 : Int32) (x4 : Int32) (M : aM) : Option aR :=
  k28 c0 c1 c2 x3 (x4 + (1 : Int32)) M
set_option maxRecDepth 100000 in
set_option maxHeartbeats 4000000 in
theorem e59_114 (z : Nat) (k28 : Nat → Nat → Nat → Int32 → Int32 → aM → Option aR) (hk28 : ∀ (c0 : Nat) (c1 : Nat) (c2 : Nat) (x3 : Int32) (x4 : Int32) (M : aM) (r : aR), k28 c0 c1 c2 x3 x4 M = some r → am_Ev 1 59 28 [some (.inr (.inr (7, c0))), some (.inr (.inr (1, c1))), some (.inr (.inr (21, c2))), some (.inl x3), some (.inl x4), none] [] M r) : ∀ (c0 : Nat) (c1 : Nat) (c2 : Nat) (x3 : Int32) (x4 : Int32) (M : aM) (r : aR), f59_114 z k28 c0 c1 c2 x3 x4 M = some r → am_Ev 1 59 114 [some (.inr (.inr (7, c0))), some (.inr (.inr (1, c1))), some (.inr (.inr (21, c2))), some (.inl x3), some (.inl x4), none] [] M r := by
  intro c0 c1 c2 x3 x4 M r h
  exact am_Ev_seg (sem := am_s59_ z) (cut := ([(28, [true, true, true, true, true, false])] : List (Nat × List Bool))) (hs59 z) am_r59 am_k59 (by rw [am_l59]; decide) (fun pc al st M => (match Nat.beq pc 28 with
      | true => (match al, st with
        | [some (.inr (.inr (7, c0))), some (.inr (.inr (1, c1))), some (.inr (.inr (21, c2))), some (.inl x3), some (.inl x4), none], [] => k28 c0 c1 c2 x3 x4 M
        | _, _ => none)
      | false => none)) 5 h (fun pc al st M hk => by
      try dsimp only at hk
      split at hk
      · rename_i he
        rw [am_beq he]
        split at hk
        · exact hk28 _ _ _ _ _ _ _ hk
        · cases hk
      · cases hk)
def f59_28 (z : Nat) : Nat → Nat → Nat → Nat → Int32 → Int32 → aM → Option aR
  | 0, _, _, _, _, _, _ => none
  | n + 1, c0, c1, c2, x3, x4, M =>
    if am_inB (x3 + (1 : Int32)) 9 then
      if (M.1 (c1 + 8) (x3 + (1 : Int32)).toNatClampNeg) ≤ x4 then
        some (none, M)
      else
        if am_inB x4 16 then
          if am_inB (M.1 (c1 + 7) x4.toNatClampNeg) 16 then
            if (M.1 c2 (M.1 (c1 + 7) x4.toNatClampNeg).toNatClampNeg) ≤ 0 then
              f59_28 z n c0 c1 c2 x3 (x4 + (1 : Int32)) M
            else
              let I1 := am_u M.1 c0 6 ((M.1 c0 6) + (1 : Int32))
              if am_inB (M.1 (c1 + 7) x4.toNatClampNeg) 16 then
                let I2 := am_u I1 c0 7 ((I1 c0 7) + (I1 c2 (M.1 (c1 + 7) x4.toNatClampNeg).toNatClampNeg))
                if (I2 c0 8) < 0 then
                  let I3 := am_u I2 c0 9 (I2 c0 8)
                  let I4 := am_u I3 c0 8 (M.1 (c1 + 7) x4.toNatClampNeg)
                  f59_114 z (f59_28 z n) c0 c1 c2 x3 x4 (I4, M.2)
                else
                  if am_inB (M.1 (c1 + 7) x4.toNatClampNeg) 16 then
                    if am_inB (I2 c0 8) 16 then
                      if (I2 c2 (M.1 (c1 + 7) x4.toNatClampNeg).toNatClampNeg) ≤ (I2 c2 (I2 c0 8).toNatClampNeg) then
                        if (I2 c0 9) < 0 then
                          let I5 := am_u I2 c0 9 (M.1 (c1 + 7) x4.toNatClampNeg)
                          f59_28 z n c0 c1 c2 x3 (x4 + (1 : Int32)) (I5, M.2)
                        else
                          if am_inB (M.1 (c1 + 7) x4.toNatClampNeg) 16 then
                            if am_inB (I2 c0 9) 16 then
                              if (I2 c2 (M.1 (c1 + 7) x4.toNatClampNeg).toNatClampNeg) ≤ (I2 c2 (I2 c0 9).toNatClampNeg) then
                                f59_28 z n c0 c1 c2 x3 (x4 + (1 : Int32)) (I2, M.2)
                              else
                                let I6 := am_u I2 c0 9 (M.1 (c1 + 7) x4.toNatClampNeg)
                                f59_28 z n c0 c1 c2 x3 (x4 + (1 : Int32)) (I6, M.2)
                            else
                              none
                          else
                            none
                      else
                        let I7 := am_u I2 c0 9 (I2 c0 8)
                        let I8 := am_u I7 c0 8 (M.1 (c1 + 7) x4.toNatClampNeg)
                        f59_114 z (f59_28 z n) c0 c1 c2 x3 x4 (I8, M.2)
                    else
                      none
                  else
                    none
              else
                none
          else
            none
        else
          none
    else
      none
set_option maxRecDepth 100000 in
set_option maxHeartbeats 4000000 in
theorem e59_28 (z : Nat) : ∀ (n : Nat) (c0 : Nat) (c1 : Nat) (c2 : Nat) (x3 : Int32) (x4 : Int32) (M : aM) (r : aR), f59_28 z n c0 c1 c2 x3 x4 M = some r → am_Ev 1 59 28 [some (.inr (.inr (7, c0))), some (.inr (.inr (1, c1))), some (.inr (.inr (21, c2))), some (.inl x3), some (.inl x4), none] [] M r := by
  intro n
  induction n with
  | zero =>
    intro c0 c1 c2 x3 x4 M r h
    cases h
  | succ n ih =>
    intro c0 c1 c2 x3 x4 M r h
    exact am_Ev_seg (sem := am_s59_ z) (cut := ([(28, [true, true, true, true, true, false]), (114, [true, true, true, true, true, false])] : List (Nat × List Bool))) (hs59 z) am_r59 am_k59 (by rw [am_l59]; decide) (fun pc al st M => (match Nat.beq pc 28 with
      | true => (match al, st with
        | [some (.inr (.inr (7, c0))), some (.inr (.inr (1, c1))), some (.inr (.inr (21, c2))), some (.inl x3), some (.inl x4), none], [] => f59_28 z n c0 c1 c2 x3 x4 M
        | _, _ => none)
      | false => (match Nat.beq pc 114 with
      | true => (match al, st with
        | [some (.inr (.inr (7, c0))), some (.inr (.inr (1, c1))), some (.inr (.inr (21, c2))), some (.inl x3), some (.inl x4), none], [] => f59_114 z (f59_28 z n) c0 c1 c2 x3 x4 M
        | _, _ => none)
      | false => none))) 60 h (fun pc al st M hk => by
      try dsimp only at hk
      split at hk
      · rename_i he
        rw [am_beq he]
        split at hk
        · exact ih _ _ _ _ _ _ _ hk
        · cases hk
      · skip
        split at hk
        · rename_i he
          rw [am_beq he]
          split at hk
          · exact e59_114 z _ ih _ _ _ _ _ _ _ hk
          · cases hk
        · cases hk)
def f59_20 (z : Nat)  (c0 : Nat) (c1 : Nat) (c2 : Nat) (x3 : Int32) (M : aM) : Option aR :=
  if am_inB x3 9 then
    f59_28 z z c0 c1 c2 x3 (M.1 (c1 + 8) x3.toNatClampNeg) M
  else
    none
set_option maxRecDepth 100000 in
set_option maxHeartbeats 4000000 in
theorem e59_20 (z : Nat) : ∀ (c0 : Nat) (c1 : Nat) (c2 : Nat) (x3 : Int32) (M : aM) (r : aR), f59_20 z c0 c1 c2 x3 M = some r → am_Ev 1 59 20 [some (.inr (.inr (7, c0))), some (.inr (.inr (1, c1))), some (.inr (.inr (21, c2))), some (.inl x3), none, none] [] M r := by
  intro c0 c1 c2 x3 M r h
  exact am_Ev_seg (sem := am_s59_ z) (cut := ([(28, [true, true, true, true, true, false])] : List (Nat × List Bool))) (hs59 z) am_r59 am_k59 (by rw [am_l59]; decide) (fun pc al st M => (match Nat.beq pc 28 with
      | true => (match al, st with
        | [some (.inr (.inr (7, c0))), some (.inr (.inr (1, c1))), some (.inr (.inr (21, c2))), some (.inl x3), some (.inl x4), none], [] => f59_28 z z c0 c1 c2 x3 x4 M
        | _, _ => none)
      | false => none)) 7 h (fun pc al st M hk => by
      try dsimp only at hk
      split at hk
      · rename_i he
        rw [am_beq he]
        split at hk
        · exact e59_28 z _ _ _ _ _ _ _ _ hk
        · cases hk
      · cases hk)
/-- ArgumentMender$Tug.survey(LArgumentMender$Cloth;[II)V -/
def f59 (z : Nat) (c0 : Nat) (c1 : Nat) (c2 : Nat) (x3 : Int32) (M : aM) : Option aR :=
  let I1 := am_u M.1 c0 6 (0 : Int32)
  let I2 := am_u I1 c0 7 (0 : Int32)
  let I3 := am_u I2 c0 8 (-1 : Int32)
  let I4 := am_u I3 c0 9 (-1 : Int32)
  f59_20 z c0 c1 c2 x3 (I4, M.2)
set_option maxRecDepth 100000 in
set_option maxHeartbeats 4000000 in
theorem e59 (z : Nat) : ∀ (c0 : Nat) (c1 : Nat) (c2 : Nat) (x3 : Int32) (M : aM) (r : aR), f59 z c0 c1 c2 x3 M = some r → am_Ev 1 59 0 [some (.inr (.inr (7, c0))), some (.inr (.inr (1, c1))), some (.inr (.inr (21, c2))), some (.inl x3), none, none] [] M r := by
  intro c0 c1 c2 x3 M r h
  exact am_Ev_seg (sem := am_s59_ z) (cut := ([(20, [true, true, true, true, false, false])] : List (Nat × List Bool))) (hs59 z) am_r59 am_k59 (by rw [am_l59]; decide) (fun pc al st M => (match Nat.beq pc 20 with
      | true => (match al, st with
        | [some (.inr (.inr (7, c0))), some (.inr (.inr (1, c1))), some (.inr (.inr (21, c2))), some (.inl x3), none, none], [] => f59_20 z c0 c1 c2 x3 M
        | _, _ => none)
      | false => none)) 14 h (fun pc al st M hk => by
      try dsimp only at hk
      split at hk
      · rename_i he
        rw [am_beq he]
        split at hk
        · exact e59_20 z _ _ _ _ _ _ hk
        · cases hk
      · cases hk)
def F59 (z : Nat) (as : List aV) (M : aM) : Option aR := match as with
  | [.inr (.inr (7, c0)), .inr (.inr (1, c1)), .inr (.inr (21, c2)), .inl x3] => f59 z c0 c1 c2 x3 M
  | _ => none
theorem S59 (z : Nat) : am_Snd 1 59 (F59 z) := am_meth (by decide +kernel) (fun as M r has h => by
    rw [am_l59]
    unfold F59 at h
    split at h
    · exact ⟨Nat.le_of_ble_eq_true rfl, e59 z _ _ _ _ _ _ h⟩
    · cases h)
def cd60_0 : List am_E := [(0, .aload_n 0, 1, 0, 0, 0, 0), (1, .getfield 15, 3, 7, 5, 0, 0), (4, .iload_n 3, 1, 3, 0, 0, 0), (5, .iaload, 1, 0, 0, 0, 0), (6, .aload_n 0, 1, 0, 0, 0, 0), (7, .getfield 58, 3, 7, 6, 0, 0), (10, .idiv, 1, 0, 0, 0, 0), (11, .istore 4, 2, 4, 0, 0, 0), (13, .aload_n 0, 1, 0, 0, 0, 0), (14, .getfield 15, 3, 7, 5, 0, 0), (17, .iload_n 3, 1, 3, 0, 0, 0), (18, .iaload, 1, 0, 0, 0, 0), (19, .aload_n 0, 1, 0, 0, 0, 0), (20, .getfield 58, 3, 7, 6, 0, 0), (23, .irem, 1, 0, 0, 0, 0), (24, .istore 5, 2, 5, 0, 0, 0), (26, .aload_n 1, 1, 1, 0, 0, 0), (27, .getfield 80, 3, 1, 14, 0, 0), (30, .iload_n 3, 1, 3, 0, 0, 0), (31, .iaload, 1, 0, 0, 0, 0), (32, .istore 6, 2, 6, 0, 0, 0), (34, .iload 6, 2, 6, 0, 0, 0), (36, .aload_n 1, 1, 1, 0, 0, 0), (37, .getfield 80, 3, 1, 14, 0, 0), (40, .iload_n 3, 1, 3, 0, 0, 0), (41, .iconst 1, 1, 0, 0, 1, 0), (42, .iadd, 1, 0, 0, 0, 0), (43, .iaload, 1, 0, 0, 0, 0), (44, .if_icmp .ge 49, 3, 93, 0, 0, 0), (47, .aload_n 1, 1, 1, 0, 0, 0), (48, .getfield 83, 3, 1, 13, 0, 0), (51, .iload 6, 2, 6, 0, 0, 0), (53, .iaload, 1, 0, 0, 0, 0), (54, .istore 7, 2, 7, 0, 0, 0), (56, .aload_n 2, 1, 2, 0, 0, 0), (57, .iload 7, 2, 7, 0, 0, 0), (59, .iaload, 1, 0, 0, 0, 0), (60, .ifCond .le 27, 3, 87, 0, 0, 0), (63, .aload_n 0, 1, 0, 0, 0, 0), (64, .getfield 9, 3, 7, 0, 0, 0)]
def cd60_1 : List am_E := [(67, .iload 7, 2, 7, 0, 0, 0), (69, .iload 5, 2, 5, 0, 0, 0), (71, .ifCond .le 10, 3, 81, 0, 0, 0), (74, .iload 4, 2, 4, 0, 0, 0), (76, .iconst 1, 1, 0, 0, 1, 0), (77, .iadd, 1, 0, 0, 0, 0), (78, .goto 5, 3, 83, 0, 0, 0), (81, .iload 4, 2, 4, 0, 0, 0), (83, .iastore, 1, 0, 0, 0, 0), (84, .iinc 5 (-1), 3, 5, 0, (-1), 0), (87, .iinc 6 1, 3, 6, 0, 1, 0), (90, .goto (-56), 3, 34, 0, 0, 0), (93, .return_, 1, 0, 0, 0, 0)]
def cd60 : List am_E := cd60_0 ++ (cd60_1)
def am_w60 : List (List (Int32 × Nat) × Nat) := []
set_option maxRecDepth 100000 in
theorem kcd60_0 : cd60_0.all (am_chk am_w60 60) = true := by decide +kernel
set_option maxRecDepth 100000 in
theorem kcd60_1 : cd60_1.all (am_chk am_w60 60) = true := by decide +kernel
theorem am_k60 : cd60.all (am_chk am_w60 60) = true := by
  simp only [cd60, List.all_append, kcd60_0, kcd60_1, Bool.and_self]
theorem am_r60 : am_rtc 60 = 4 := by decide +kernel
theorem am_l60 : am_ml 60 = 8 := by decide +kernel
def am_s60_ (z : Nat) : Nat → List aV → aM → Option aR := fun j => (fun _ _ => none)
theorem hs60 (z : Nat) : ∀ j2 : Nat, ∃ d2 : Nat, d2 + 1 ≤ 1 ∧ am_Snd d2 j2 (am_s60_ z j2) := by
  intro j2
  unfold am_s60_
  exact ⟨0, by decide, am_Snd_no j2⟩
def f60_34 (z : Nat) : Nat → Nat → Nat → Nat → Int32 → Int32 → Int32 → Int32 → aM → Option aR
  | 0, _, _, _, _, _, _, _, _ => none
  | n + 1, c0, c1, c2, x3, x4, x5, x6, M =>
    if am_inB (x3 + (1 : Int32)) 9 then
      if (M.1 (c1 + 8) (x3 + (1 : Int32)).toNatClampNeg) ≤ x6 then
        some (none, M)
      else
        if am_inB x6 16 then
          if am_inB (M.1 (c1 + 7) x6.toNatClampNeg) 16 then
            if (M.1 c2 (M.1 (c1 + 7) x6.toNatClampNeg).toNatClampNeg) ≤ 0 then
              f60_34 z n c0 c1 c2 x3 x4 x5 (x6 + (1 : Int32)) M
            else
              if x5 ≤ 0 then
                if am_inB (M.1 (c1 + 7) x6.toNatClampNeg) 16 then
                  let I1 := am_u M.1 (c0 + 1) (M.1 (c1 + 7) x6.toNatClampNeg).toNatClampNeg x4
                  f60_34 z n c0 c1 c2 x3 x4 (x5 + (-1 : Int32)) (x6 + (1 : Int32)) (I1, M.2)
                else
                  none
              else
                if am_inB (M.1 (c1 + 7) x6.toNatClampNeg) 16 then
                  let I2 := am_u M.1 (c0 + 1) (M.1 (c1 + 7) x6.toNatClampNeg).toNatClampNeg (x4 + (1 : Int32))
                  f60_34 z n c0 c1 c2 x3 x4 (x5 + (-1 : Int32)) (x6 + (1 : Int32)) (I2, M.2)
                else
                  none
          else
            none
        else
          none
    else
      none
set_option maxRecDepth 100000 in
set_option maxHeartbeats 4000000 in
theorem e60_34 (z : Nat) : ∀ (n : Nat) (c0 : Nat) (c1 : Nat) (c2 : Nat) (x3 : Int32) (x4 : Int32) (x5 : Int32) (x6 : Int32) (M : aM) (r : aR), f60_34 z n c0 c1 c2 x3 x4 x5 x6 M = some r → am_Ev 1 60 34 [some (.inr (.inr (7, c0))), some (.inr (.inr (1, c1))), some (.inr (.inr (21, c2))), some (.inl x3), some (.inl x4), some (.inl x5), some (.inl x6), none] [] M r := by
  intro n
  induction n with
  | zero =>
    intro c0 c1 c2 x3 x4 x5 x6 M r h
    cases h
  | succ n ih =>
    intro c0 c1 c2 x3 x4 x5 x6 M r h
    exact am_Ev_seg (sem := am_s60_ z) (cut := ([(34, [true, true, true, true, true, true, true, false])] : List (Nat × List Bool))) (hs60 z) am_r60 am_k60 (by rw [am_l60]; decide) (fun pc al st M => (match Nat.beq pc 34 with
      | true => (match al, st with
        | [some (.inr (.inr (7, c0))), some (.inr (.inr (1, c1))), some (.inr (.inr (21, c2))), some (.inl x3), some (.inl x4), some (.inl x5), some (.inl x6), none], [] => f60_34 z n c0 c1 c2 x3 x4 x5 x6 M
        | _, _ => none)
      | false => none)) 32 h (fun pc al st M hk => by
      try dsimp only at hk
      split at hk
      · rename_i he
        rw [am_beq he]
        split at hk
        · exact ih _ _ _ _ _ _ _ _ _ hk
        · cases hk
      · cases hk)
/-- ArgumentMender$Tug.evenly(LArgumentMender$Cloth;[II)V -/
def f60 (z : Nat) (c0 : Nat) (c1 : Nat) (c2 : Nat) (x3 : Int32) (M : aM) : Option aR :=
  if am_inB x3 8 then
    if (M.1 c0 6) = 0 then
      none
    else
      if am_inB x3 8 then
        if (M.1 c0 6) = 0 then
          none
        else
          if am_inB x3 9 then
            f60_34 z z c0 c1 c2 x3 ((M.1 (c0 + 2) x3.toNatClampNeg) / (M.1 c0 6)) ((M.1 (c0 + 2) x3.toNatClampNeg) - (M.1 (c0 + 2) x3.toNatClampNeg) / (M.1 c0 6) * (M.1 c0 6)) (M.1 (c1 + 8) x3.toNatClampNeg) M
          else
            none
      else
        none
  else
    none
set_option maxRecDepth 100000 in
set_option maxHeartbeats 4000000 in
theorem e60 (z : Nat) : ∀ (c0 : Nat) (c1 : Nat) (c2 : Nat) (x3 : Int32) (M : aM) (r : aR), f60 z c0 c1 c2 x3 M = some r → am_Ev 1 60 0 [some (.inr (.inr (7, c0))), some (.inr (.inr (1, c1))), some (.inr (.inr (21, c2))), some (.inl x3), none, none, none, none] [] M r := by
  intro c0 c1 c2 x3 M r h
  exact am_Ev_seg (sem := am_s60_ z) (cut := ([(34, [true, true, true, true, true, true, true, false])] : List (Nat × List Bool))) (hs60 z) am_r60 am_k60 (by rw [am_l60]; decide) (fun pc al st M => (match Nat.beq pc 34 with
      | true => (match al, st with
        | [some (.inr (.inr (7, c0))), some (.inr (.inr (1, c1))), some (.inr (.inr (21, c2))), some (.inl x3), some (.inl x4), some (.inl x5), some (.inl x6), none], [] => f60_34 z z c0 c1 c2 x3 x4 x5 x6 M
        | _, _ => none)
      | false => none)) 23 h (fun pc al st M hk => by
      try dsimp only at hk
      split at hk
      · rename_i he
        rw [am_beq he]
        split at hk
        · exact e60_34 z _ _ _ _ _ _ _ _ _ _ hk
        · cases hk
      · cases hk)
def F60 (z : Nat) (as : List aV) (M : aM) : Option aR := match as with
  | [.inr (.inr (7, c0)), .inr (.inr (1, c1)), .inr (.inr (21, c2)), .inl x3] => f60 z c0 c1 c2 x3 M
  | _ => none
theorem S60 (z : Nat) : am_Snd 1 60 (F60 z) := am_meth (by decide +kernel) (fun as M r has h => by
    rw [am_l60]
    unfold F60 at h
    split at h
    · exact ⟨Nat.le_of_ble_eq_true rfl, e60 z _ _ _ _ _ _ h⟩
    · cases h)
def cd61_0 : List am_E := [(0, .aload_n 0, 1, 0, 0, 0, 0), (1, .getfield 15, 3, 7, 5, 0, 0), (4, .iload_n 3, 1, 3, 0, 0, 0), (5, .iaload, 1, 0, 0, 0, 0), (6, .istore 4, 2, 4, 0, 0, 0), (8, .aload_n 1, 1, 1, 0, 0, 0), (9, .getfield 80, 3, 1, 14, 0, 0), (12, .iload_n 3, 1, 3, 0, 0, 0), (13, .iaload, 1, 0, 0, 0, 0), (14, .istore 5, 2, 5, 0, 0, 0), (16, .iload 5, 2, 5, 0, 0, 0), (18, .aload_n 1, 1, 1, 0, 0, 0), (19, .getfield 80, 3, 1, 14, 0, 0), (22, .iload_n 3, 1, 3, 0, 0, 0), (23, .iconst 1, 1, 0, 0, 1, 0), (24, .iadd, 1, 0, 0, 0, 0), (25, .iaload, 1, 0, 0, 0, 0), (26, .if_icmp .ge 53, 3, 79, 0, 0, 0), (29, .aload_n 1, 1, 1, 0, 0, 0), (30, .getfield 83, 3, 1, 13, 0, 0), (33, .iload 5, 2, 5, 0, 0, 0), (35, .iaload, 1, 0, 0, 0, 0), (36, .istore 6, 2, 6, 0, 0, 0), (38, .aload_n 0, 1, 0, 0, 0, 0), (39, .getfield 9, 3, 7, 0, 0, 0), (42, .iload 6, 2, 6, 0, 0, 0), (44, .aload_n 2, 1, 2, 0, 0, 0), (45, .iload 6, 2, 6, 0, 0, 0), (47, .iaload, 1, 0, 0, 0, 0), (48, .aload_n 0, 1, 0, 0, 0, 0), (49, .getfield 15, 3, 7, 5, 0, 0), (52, .iload_n 3, 1, 3, 0, 0, 0), (53, .iaload, 1, 0, 0, 0, 0), (54, .imul, 1, 0, 0, 0, 0), (55, .aload_n 0, 1, 0, 0, 0, 0), (56, .getfield 61, 3, 7, 7, 0, 0), (59, .idiv, 1, 0, 0, 0, 0), (60, .iastore, 1, 0, 0, 0, 0), (61, .iload 4, 2, 4, 0, 0, 0), (63, .aload_n 0, 1, 0, 0, 0, 0)]
def cd61_1 : List am_E := [(64, .getfield 9, 3, 7, 0, 0, 0), (67, .iload 6, 2, 6, 0, 0, 0), (69, .iaload, 1, 0, 0, 0, 0), (70, .isub, 1, 0, 0, 0, 0), (71, .istore 4, 2, 4, 0, 0, 0), (73, .iinc 5 1, 3, 5, 0, 1, 0), (76, .goto (-60), 3, 16, 0, 0, 0), (79, .aload_n 0, 1, 0, 0, 0, 0), (80, .getfield 9, 3, 7, 0, 0, 0), (83, .aload_n 0, 1, 0, 0, 0, 0), (84, .getfield 67, 3, 7, 8, 0, 0), (87, .dup2, 1, 0, 0, 0, 0), (88, .iaload, 1, 0, 0, 0, 0), (89, .iload 4, 2, 4, 0, 0, 0), (91, .iadd, 1, 0, 0, 0, 0), (92, .iastore, 1, 0, 0, 0, 0), (93, .return_, 1, 0, 0, 0, 0)]
def cd61 : List am_E := cd61_0 ++ (cd61_1)
def am_w61 : List (List (Int32 × Nat) × Nat) := []
set_option maxRecDepth 100000 in
theorem kcd61_0 : cd61_0.all (am_chk am_w61 61) = true := by decide +kernel
set_option maxRecDepth 100000 in
theorem kcd61_1 : cd61_1.all (am_chk am_w61 61) = true := by decide +kernel
theorem am_k61 : cd61.all (am_chk am_w61 61) = true := by
  simp only [cd61, List.all_append, kcd61_0, kcd61_1, Bool.and_self]
theorem am_r61 : am_rtc 61 = 4 := by decide +kernel
theorem am_l61 : am_ml 61 = 7 := by decide +kernel
def am_s61_ (z : Nat) : Nat → List aV → aM → Option aR := fun j => (fun _ _ => none)
theorem hs61 (z : Nat) : ∀ j2 : Nat, ∃ d2 : Nat, d2 + 1 ≤ 1 ∧ am_Snd d2 j2 (am_s61_ z j2) := by
  intro j2
  unfold am_s61_
  exact ⟨0, by decide, am_Snd_no j2⟩
def f61_16 (z : Nat) : Nat → Nat → Nat → Nat → Int32 → Int32 → Int32 → aM → Option aR
  | 0, _, _, _, _, _, _, _ => none
  | n + 1, c0, c1, c2, x3, x4, x5, M =>
    if am_inB (x3 + (1 : Int32)) 9 then
      if (M.1 (c1 + 8) (x3 + (1 : Int32)).toNatClampNeg) ≤ x5 then
        if am_inB (M.1 c0 8) 16 then
          if am_inB (M.1 c0 8) 16 then
            let I1 := am_u M.1 (c0 + 1) (M.1 c0 8).toNatClampNeg ((M.1 (c0 + 1) (M.1 c0 8).toNatClampNeg) + x4)
            some (none, (I1, M.2))
          else
            none
        else
          none
      else
        if am_inB x5 16 then
          if am_inB (M.1 (c1 + 7) x5.toNatClampNeg) 16 then
            if am_inB x3 8 then
              if (M.1 c0 7) = 0 then
                none
              else
                if am_inB (M.1 (c1 + 7) x5.toNatClampNeg) 16 then
                  let I2 := am_u M.1 (c0 + 1) (M.1 (c1 + 7) x5.toNatClampNeg).toNatClampNeg (((M.1 c2 (M.1 (c1 + 7) x5.toNatClampNeg).toNatClampNeg) * (M.1 (c0 + 2) x3.toNatClampNeg)) / (M.1 c0 7))
                  if am_inB (M.1 (c1 + 7) x5.toNatClampNeg) 16 then
                    f61_16 z n c0 c1 c2 x3 (x4 - (I2 (c0 + 1) (M.1 (c1 + 7) x5.toNatClampNeg).toNatClampNeg)) (x5 + (1 : Int32)) (I2, M.2)
                  else
                    none
                else
                  none
            else
              none
          else
            none
        else
          none
    else
      none
set_option maxRecDepth 100000 in
set_option maxHeartbeats 4000000 in
theorem e61_16 (z : Nat) : ∀ (n : Nat) (c0 : Nat) (c1 : Nat) (c2 : Nat) (x3 : Int32) (x4 : Int32) (x5 : Int32) (M : aM) (r : aR), f61_16 z n c0 c1 c2 x3 x4 x5 M = some r → am_Ev 1 61 16 [some (.inr (.inr (7, c0))), some (.inr (.inr (1, c1))), some (.inr (.inr (21, c2))), some (.inl x3), some (.inl x4), some (.inl x5), none] [] M r := by
  intro n
  induction n with
  | zero =>
    intro c0 c1 c2 x3 x4 x5 M r h
    cases h
  | succ n ih =>
    intro c0 c1 c2 x3 x4 x5 M r h
    exact am_Ev_seg (sem := am_s61_ z) (cut := ([(16, [true, true, true, true, true, true, false])] : List (Nat × List Bool))) (hs61 z) am_r61 am_k61 (by rw [am_l61]; decide) (fun pc al st M => (match Nat.beq pc 16 with
      | true => (match al, st with
        | [some (.inr (.inr (7, c0))), some (.inr (.inr (1, c1))), some (.inr (.inr (21, c2))), some (.inl x3), some (.inl x4), some (.inl x5), none], [] => f61_16 z n c0 c1 c2 x3 x4 x5 M
        | _, _ => none)
      | false => none)) 39 h (fun pc al st M hk => by
      try dsimp only at hk
      split at hk
      · rename_i he
        rw [am_beq he]
        split at hk
        · exact ih _ _ _ _ _ _ _ _ hk
        · cases hk
      · cases hk)
/-- ArgumentMender$Tug.byStrength(LArgumentMender$Cloth;[II)V -/
def f61 (z : Nat) (c0 : Nat) (c1 : Nat) (c2 : Nat) (x3 : Int32) (M : aM) : Option aR :=
  if am_inB x3 8 then
    if am_inB x3 9 then
      f61_16 z z c0 c1 c2 x3 (M.1 (c0 + 2) x3.toNatClampNeg) (M.1 (c1 + 8) x3.toNatClampNeg) M
    else
      none
  else
    none
set_option maxRecDepth 100000 in
set_option maxHeartbeats 4000000 in
theorem e61 (z : Nat) : ∀ (c0 : Nat) (c1 : Nat) (c2 : Nat) (x3 : Int32) (M : aM) (r : aR), f61 z c0 c1 c2 x3 M = some r → am_Ev 1 61 0 [some (.inr (.inr (7, c0))), some (.inr (.inr (1, c1))), some (.inr (.inr (21, c2))), some (.inl x3), none, none, none] [] M r := by
  intro c0 c1 c2 x3 M r h
  exact am_Ev_seg (sem := am_s61_ z) (cut := ([(16, [true, true, true, true, true, true, false])] : List (Nat × List Bool))) (hs61 z) am_r61 am_k61 (by rw [am_l61]; decide) (fun pc al st M => (match Nat.beq pc 16 with
      | true => (match al, st with
        | [some (.inr (.inr (7, c0))), some (.inr (.inr (1, c1))), some (.inr (.inr (21, c2))), some (.inl x3), some (.inl x4), some (.inl x5), none], [] => f61_16 z z c0 c1 c2 x3 x4 x5 M
        | _, _ => none)
      | false => none)) 12 h (fun pc al st M hk => by
      try dsimp only at hk
      split at hk
      · rename_i he
        rw [am_beq he]
        split at hk
        · exact e61_16 z _ _ _ _ _ _ _ _ _ hk
        · cases hk
      · cases hk)
def F61 (z : Nat) (as : List aV) (M : aM) : Option aR := match as with
  | [.inr (.inr (7, c0)), .inr (.inr (1, c1)), .inr (.inr (21, c2)), .inl x3] => f61 z c0 c1 c2 x3 M
  | _ => none
theorem S61 (z : Nat) : am_Snd 1 61 (F61 z) := am_meth (by decide +kernel) (fun as M r has h => by
    rw [am_l61]
    unfold F61 at h
    split at h
    · exact ⟨Nat.le_of_ble_eq_true rfl, e61 z _ _ _ _ _ _ h⟩
    · cases h)
def cd62_0 : List am_E := [(0, .aload_n 1, 1, 1, 0, 0, 0), (1, .getfield 80, 3, 1, 14, 0, 0), (4, .iload_n 2, 1, 2, 0, 0, 0), (5, .iaload, 1, 0, 0, 0, 0), (6, .istore_n 3, 1, 3, 0, 0, 0), (7, .iload_n 3, 1, 3, 0, 0, 0), (8, .aload_n 1, 1, 1, 0, 0, 0), (9, .getfield 80, 3, 1, 14, 0, 0), (12, .iload_n 2, 1, 2, 0, 0, 0), (13, .iconst 1, 1, 0, 0, 1, 0), (14, .iadd, 1, 0, 0, 0, 0), (15, .iaload, 1, 0, 0, 0, 0), (16, .if_icmp .ge 69, 3, 85, 0, 0, 0), (19, .aload_n 1, 1, 1, 0, 0, 0), (20, .getfield 83, 3, 1, 13, 0, 0), (23, .iload_n 3, 1, 3, 0, 0, 0), (24, .iaload, 1, 0, 0, 0, 0), (25, .istore 4, 2, 4, 0, 0, 0), (27, .aload_n 1, 1, 1, 0, 0, 0), (28, .getfield 86, 3, 1, 8, 0, 0), (31, .iload 4, 2, 4, 0, 0, 0), (33, .iaload, 1, 0, 0, 0, 0), (34, .iconst (-1), 1, 0, 0, (-1), 0), (35, .if_icmp .ne 22, 3, 57, 0, 0, 0), (38, .aload_n 0, 1, 0, 0, 0, 0), (39, .dup, 1, 0, 0, 0, 0), (40, .getfield 51, 3, 7, 4, 0, 0), (43, .aload_n 0, 1, 0, 0, 0, 0), (44, .getfield 9, 3, 7, 0, 0, 0), (47, .iload 4, 2, 4, 0, 0, 0), (49, .iaload, 1, 0, 0, 0, 0), (50, .iadd, 1, 0, 0, 0, 0), (51, .putfield 51, 3, 7, 4, 0, 0), (54, .goto 25, 3, 79, 0, 0, 0), (57, .aload_n 0, 1, 0, 0, 0, 0), (58, .getfield 15, 3, 7, 5, 0, 0), (61, .aload_n 1, 1, 1, 0, 0, 0), (62, .getfield 86, 3, 1, 8, 0, 0), (65, .iload 4, 2, 4, 0, 0, 0), (67, .iaload, 1, 0, 0, 0, 0)]
def cd62_1 : List am_E := [(68, .dup2, 1, 0, 0, 0, 0), (69, .iaload, 1, 0, 0, 0, 0), (70, .aload_n 0, 1, 0, 0, 0, 0), (71, .getfield 9, 3, 7, 0, 0, 0), (74, .iload 4, 2, 4, 0, 0, 0), (76, .iaload, 1, 0, 0, 0, 0), (77, .iadd, 1, 0, 0, 0, 0), (78, .iastore, 1, 0, 0, 0, 0), (79, .iinc 3 1, 3, 3, 0, 1, 0), (82, .goto (-75), 3, 7, 0, 0, 0), (85, .return_, 1, 0, 0, 0, 0)]
def cd62 : List am_E := cd62_0 ++ (cd62_1)
def am_w62 : List (List (Int32 × Nat) × Nat) := []
set_option maxRecDepth 100000 in
theorem kcd62_0 : cd62_0.all (am_chk am_w62 62) = true := by decide +kernel
set_option maxRecDepth 100000 in
theorem kcd62_1 : cd62_1.all (am_chk am_w62 62) = true := by decide +kernel
theorem am_k62 : cd62.all (am_chk am_w62 62) = true := by
  simp only [cd62, List.all_append, kcd62_0, kcd62_1, Bool.and_self]
theorem am_r62 : am_rtc 62 = 4 := by decide +kernel
theorem am_l62 : am_ml 62 = 5 := by decide +kernel
def am_s62_ (z : Nat) : Nat → List aV → aM → Option aR := fun j => (fun _ _ => none)
theorem hs62 (z : Nat) : ∀ j2 : Nat, ∃ d2 : Nat, d2 + 1 ≤ 1 ∧ am_Snd d2 j2 (am_s62_ z j2) := by
  intro j2
  unfold am_s62_
  exact ⟨0, by decide, am_Snd_no j2⟩
def f62_7 (z : Nat) : Nat → Nat → Nat → Int32 → Int32 → aM → Option aR
  | 0, _, _, _, _, _ => none
  | n + 1, c0, c1, x2, x3, M =>
    if am_inB (x2 + (1 : Int32)) 9 then
      if (M.1 (c1 + 8) (x2 + (1 : Int32)).toNatClampNeg) ≤ x3 then
        some (none, M)
      else
        if am_inB x3 16 then
          if am_inB (M.1 (c1 + 7) x3.toNatClampNeg) 16 then
            if ¬ (M.1 (c1 + 2) (M.1 (c1 + 7) x3.toNatClampNeg).toNatClampNeg) = (-1 : Int32) then
              if am_inB (M.1 (c1 + 7) x3.toNatClampNeg) 16 then
                if am_inB (M.1 (c1 + 2) (M.1 (c1 + 7) x3.toNatClampNeg).toNatClampNeg) 8 then
                  if am_inB (M.1 (c1 + 7) x3.toNatClampNeg) 16 then
                    if am_inB (M.1 (c1 + 2) (M.1 (c1 + 7) x3.toNatClampNeg).toNatClampNeg) 8 then
                      let I1 := am_u M.1 (c0 + 2) (M.1 (c1 + 2) (M.1 (c1 + 7) x3.toNatClampNeg).toNatClampNeg).toNatClampNeg ((M.1 (c0 + 2) (M.1 (c1 + 2) (M.1 (c1 + 7) x3.toNatClampNeg).toNatClampNeg).toNatClampNeg) + (M.1 (c0 + 1) (M.1 (c1 + 7) x3.toNatClampNeg).toNatClampNeg))
                      f62_7 z n c0 c1 x2 (x3 + (1 : Int32)) (I1, M.2)
                    else
                      none
                  else
                    none
                else
                  none
              else
                none
            else
              if am_inB (M.1 (c1 + 7) x3.toNatClampNeg) 16 then
                let I2 := am_u M.1 c0 4 ((M.1 c0 4) + (M.1 (c0 + 1) (M.1 (c1 + 7) x3.toNatClampNeg).toNatClampNeg))
                f62_7 z n c0 c1 x2 (x3 + (1 : Int32)) (I2, M.2)
              else
                none
          else
            none
        else
          none
    else
      none
set_option maxRecDepth 100000 in
set_option maxHeartbeats 4000000 in
theorem e62_7 (z : Nat) : ∀ (n : Nat) (c0 : Nat) (c1 : Nat) (x2 : Int32) (x3 : Int32) (M : aM) (r : aR), f62_7 z n c0 c1 x2 x3 M = some r → am_Ev 1 62 7 [some (.inr (.inr (7, c0))), some (.inr (.inr (1, c1))), some (.inl x2), some (.inl x3), none] [] M r := by
  intro n
  induction n with
  | zero =>
    intro c0 c1 x2 x3 M r h
    cases h
  | succ n ih =>
    intro c0 c1 x2 x3 M r h
    exact am_Ev_seg (sem := am_s62_ z) (cut := ([(7, [true, true, true, true, false])] : List (Nat × List Bool))) (hs62 z) am_r62 am_k62 (by rw [am_l62]; decide) (fun pc al st M => (match Nat.beq pc 7 with
      | true => (match al, st with
        | [some (.inr (.inr (7, c0))), some (.inr (.inr (1, c1))), some (.inl x2), some (.inl x3), none], [] => f62_7 z n c0 c1 x2 x3 M
        | _, _ => none)
      | false => none)) 37 h (fun pc al st M hk => by
      try dsimp only at hk
      split at hk
      · rename_i he
        rw [am_beq he]
        split at hk
        · exact ih _ _ _ _ _ _ hk
        · cases hk
      · cases hk)
/-- ArgumentMender$Tug.passOn(LArgumentMender$Cloth;I)V -/
def f62 (z : Nat) (c0 : Nat) (c1 : Nat) (x2 : Int32) (M : aM) : Option aR :=
  if am_inB x2 9 then
    f62_7 z z c0 c1 x2 (M.1 (c1 + 8) x2.toNatClampNeg) M
  else
    none
set_option maxRecDepth 100000 in
set_option maxHeartbeats 4000000 in
theorem e62 (z : Nat) : ∀ (c0 : Nat) (c1 : Nat) (x2 : Int32) (M : aM) (r : aR), f62 z c0 c1 x2 M = some r → am_Ev 1 62 0 [some (.inr (.inr (7, c0))), some (.inr (.inr (1, c1))), some (.inl x2), none, none] [] M r := by
  intro c0 c1 x2 M r h
  exact am_Ev_seg (sem := am_s62_ z) (cut := ([(7, [true, true, true, true, false])] : List (Nat × List Bool))) (hs62 z) am_r62 am_k62 (by rw [am_l62]; decide) (fun pc al st M => (match Nat.beq pc 7 with
      | true => (match al, st with
        | [some (.inr (.inr (7, c0))), some (.inr (.inr (1, c1))), some (.inl x2), some (.inl x3), none], [] => f62_7 z z c0 c1 x2 x3 M
        | _, _ => none)
      | false => none)) 7 h (fun pc al st M hk => by
      try dsimp only at hk
      split at hk
      · rename_i he
        rw [am_beq he]
        split at hk
        · exact e62_7 z _ _ _ _ _ _ _ hk
        · cases hk
      · cases hk)
def F62 (z : Nat) (as : List aV) (M : aM) : Option aR := match as with
  | [.inr (.inr (7, c0)), .inr (.inr (1, c1)), .inl x2] => f62 z c0 c1 x2 M
  | _ => none
theorem S62 (z : Nat) : am_Snd 1 62 (F62 z) := am_meth (by decide +kernel) (fun as M r has h => by
    rw [am_l62]
    unfold F62 at h
    split at h
    · exact ⟨Nat.le_of_ble_eq_true rfl, e62 z _ _ _ _ _ h⟩
    · cases h)
def cd58_0 : List am_E := [(0, .aload_n 0, 1, 0, 0, 0, 0), (1, .aload_n 1, 1, 1, 0, 0, 0), (2, .aload_n 3, 1, 3, 0, 0, 0), (3, .iload 4, 2, 4, 0, 0, 0), (5, .invokevirtual 54, 3, 59, 7034, 0, 0), (8, .aload_n 0, 1, 0, 0, 0, 0), (9, .getfield 58, 3, 7, 6, 0, 0), (12, .ifCond .eq 10, 3, 22, 0, 0, 0), (15, .aload_n 0, 1, 0, 0, 0, 0), (16, .getfield 61, 3, 7, 7, 0, 0), (19, .ifCond .ne 20, 3, 39, 0, 0, 0), (22, .aload_n 0, 1, 0, 0, 0, 0), (23, .dup, 1, 0, 0, 0, 0), (24, .getfield 48, 3, 7, 3, 0, 0), (27, .aload_n 0, 1, 0, 0, 0, 0), (28, .getfield 15, 3, 7, 5, 0, 0), (31, .iload 4, 2, 4, 0, 0, 0), (33, .iaload, 1, 0, 0, 0, 0), (34, .iadd, 1, 0, 0, 0, 0), (35, .putfield 48, 3, 7, 3, 0, 0), (38, .return_, 1, 0, 0, 0, 0), (39, .iload_n 2, 1, 2, 0, 0, 0), (40, .tableswitch 69 0 2 #[28, 39, 58], 28, 0, 0, 0, 0), (68, .aload_n 0, 1, 0, 0, 0, 0), (69, .aload_n 1, 1, 1, 0, 0, 0), (70, .aload_n 3, 1, 3, 0, 0, 0), (71, .iload 4, 2, 4, 0, 0, 0), (73, .invokevirtual 64, 3, 60, 7034, 0, 0), (76, .goto 95, 3, 171, 0, 0, 0), (79, .aload_n 0, 1, 0, 0, 0, 0), (80, .getfield 9, 3, 7, 0, 0, 0), (83, .aload_n 0, 1, 0, 0, 0, 0), (84, .getfield 67, 3, 7, 8, 0, 0), (87, .aload_n 0, 1, 0, 0, 0, 0), (88, .getfield 15, 3, 7, 5, 0, 0), (91, .iload 4, 2, 4, 0, 0, 0), (93, .iaload, 1, 0, 0, 0, 0), (94, .iastore, 1, 0, 0, 0, 0), (95, .goto 76, 3, 171, 0, 0, 0), (98, .aload_n 0, 1, 0, 0, 0, 0)]
def cd58_1 : List am_E := [(99, .aload_n 1, 1, 1, 0, 0, 0), (100, .aload_n 3, 1, 3, 0, 0, 0), (101, .iload 4, 2, 4, 0, 0, 0), (103, .invokevirtual 70, 3, 61, 7034, 0, 0), (106, .goto 65, 3, 171, 0, 0, 0), (109, .aload_n 0, 1, 0, 0, 0, 0), (110, .getfield 9, 3, 7, 0, 0, 0), (113, .aload_n 0, 1, 0, 0, 0, 0), (114, .getfield 67, 3, 7, 8, 0, 0), (117, .aload_n 0, 1, 0, 0, 0, 0), (118, .getfield 15, 3, 7, 5, 0, 0), (121, .iload 4, 2, 4, 0, 0, 0), (123, .iaload, 1, 0, 0, 0, 0), (124, .iastore, 1, 0, 0, 0, 0), (125, .aload_n 0, 1, 0, 0, 0, 0), (126, .getfield 73, 3, 7, 9, 0, 0), (129, .ifCond .lt 42, 3, 171, 0, 0, 0), (132, .aload_n 0, 1, 0, 0, 0, 0), (133, .getfield 9, 3, 7, 0, 0, 0), (136, .aload_n 0, 1, 0, 0, 0, 0), (137, .getfield 73, 3, 7, 9, 0, 0), (140, .aload_n 0, 1, 0, 0, 0, 0), (141, .getfield 15, 3, 7, 5, 0, 0), (144, .iload 4, 2, 4, 0, 0, 0), (146, .iaload, 1, 0, 0, 0, 0), (147, .iconst 2, 1, 0, 0, 2, 0), (148, .idiv, 1, 0, 0, 0, 0), (149, .iastore, 1, 0, 0, 0, 0), (150, .aload_n 0, 1, 0, 0, 0, 0), (151, .getfield 9, 3, 7, 0, 0, 0), (154, .aload_n 0, 1, 0, 0, 0, 0), (155, .getfield 67, 3, 7, 8, 0, 0), (158, .dup2, 1, 0, 0, 0, 0), (159, .iaload, 1, 0, 0, 0, 0), (160, .aload_n 0, 1, 0, 0, 0, 0), (161, .getfield 9, 3, 7, 0, 0, 0), (164, .aload_n 0, 1, 0, 0, 0, 0), (165, .getfield 73, 3, 7, 9, 0, 0), (168, .iaload, 1, 0, 0, 0, 0), (169, .isub, 1, 0, 0, 0, 0)]
def cd58_2 : List am_E := [(170, .iastore, 1, 0, 0, 0, 0), (171, .aload_n 0, 1, 0, 0, 0, 0), (172, .aload_n 1, 1, 1, 0, 0, 0), (173, .iload 4, 2, 4, 0, 0, 0), (175, .invokevirtual 76, 3, 62, 7024, 0, 0), (178, .return_, 1, 0, 0, 0, 0)]
def cd58 : List am_E := cd58_0 ++ (cd58_1 ++ (cd58_2))
def am_w58 : List (List (Int32 × Nat) × Nat) := [([(0, 68), (1, 79), (2, 98)], 109)]
set_option maxRecDepth 100000 in
theorem kcd58_0 : cd58_0.all (am_chk am_w58 58) = true := by decide +kernel
set_option maxRecDepth 100000 in
theorem kcd58_1 : cd58_1.all (am_chk am_w58 58) = true := by decide +kernel
set_option maxRecDepth 100000 in
theorem kcd58_2 : cd58_2.all (am_chk am_w58 58) = true := by decide +kernel
theorem am_k58 : cd58.all (am_chk am_w58 58) = true := by
  simp only [cd58, List.all_append, kcd58_0, kcd58_1, kcd58_2, Bool.and_self]
theorem am_r58 : am_rtc 58 = 4 := by decide +kernel
theorem am_l58 : am_ml 58 = 5 := by decide +kernel
def am_s58_ (z : Nat) : Nat → List aV → aM → Option aR := fun j => (match Nat.beq j 59 with
  | true => F59 z
  | false => (match Nat.beq j 60 with
  | true => F60 z
  | false => (match Nat.beq j 61 with
  | true => F61 z
  | false => (match Nat.beq j 62 with
  | true => F62 z
  | false => (fun _ _ => none)))))
theorem hs58 (z : Nat) : ∀ j2 : Nat, ∃ d2 : Nat, d2 + 1 ≤ 2 ∧ am_Snd d2 j2 (am_s58_ z j2) := by
  intro j2
  unfold am_s58_
  split
  · rename_i he
    rw [am_beq he]
    exact ⟨_, by decide, S59 z⟩
  · skip
    split
    · rename_i he
      rw [am_beq he]
      exact ⟨_, by decide, S60 z⟩
    · skip
      split
      · rename_i he
        rw [am_beq he]
        exact ⟨_, by decide, S61 z⟩
      · skip
        split
        · rename_i he
          rw [am_beq he]
          exact ⟨_, by decide, S62 z⟩
        · skip
          exact ⟨0, by decide, am_Snd_no j2⟩
/-- ArgumentMender$Tug.divide(LArgumentMender$Cloth;I[II)V -/
def f58 (z : Nat) (c0 : Nat) (c1 : Nat) (x2 : Int32) (c3 : Nat) (x4 : Int32) (M : aM) : Option aR :=
  am_bv (f59 z c0 c1 c3 x4 M) fun M1 =>
    if (M1.1 c0 6) = 0 then
      if am_inB x4 8 then
        let I2 := am_u M1.1 c0 3 ((M1.1 c0 3) + (M1.1 (c0 + 2) x4.toNatClampNeg))
        some (none, (I2, M1.2))
      else
        none
    else
      if ¬ (M1.1 c0 7) = 0 then
        if x2 = (0 : Int32) then
          am_bv (f60 z c0 c1 c3 x4 M1) fun M12 =>
            am_bv (f62 z c0 c1 x4 M12) fun M13 =>
              some (none, M13)
        else
          if x2 = (1 : Int32) then
            if am_inB x4 8 then
              if am_inB (M1.1 c0 8) 16 then
                let I10 := am_u M1.1 (c0 + 1) (M1.1 c0 8).toNatClampNeg (M1.1 (c0 + 2) x4.toNatClampNeg)
                am_bv (f62 z c0 c1 x4 (I10, M1.2)) fun M11 =>
                  some (none, M11)
              else
                none
            else
              none
          else
            if x2 = (2 : Int32) then
              am_bv (f61 z c0 c1 c3 x4 M1) fun M8 =>
                am_bv (f62 z c0 c1 x4 M8) fun M9 =>
                  some (none, M9)
            else
              if am_inB x4 8 then
                if am_inB (M1.1 c0 8) 16 then
                  let I3 := am_u M1.1 (c0 + 1) (M1.1 c0 8).toNatClampNeg (M1.1 (c0 + 2) x4.toNatClampNeg)
                  if (I3 c0 9) < 0 then
                    am_bv (f62 z c0 c1 x4 (I3, M1.2)) fun M4 =>
                      some (none, M4)
                  else
                    if am_inB x4 8 then
                      if (2 : Int32) = 0 then
                        none
                      else
                        if am_inB (I3 c0 9) 16 then
                          let I5 := am_u I3 (c0 + 1) (I3 c0 9).toNatClampNeg ((I3 (c0 + 2) x4.toNatClampNeg) / (2 : Int32))
                          if am_inB (I5 c0 8) 16 then
                            if am_inB (I5 c0 9) 16 then
                              if am_inB (I5 c0 8) 16 then
                                let I6 := am_u I5 (c0 + 1) (I5 c0 8).toNatClampNeg ((I5 (c0 + 1) (I5 c0 8).toNatClampNeg) - (I5 (c0 + 1) (I5 c0 9).toNatClampNeg))
                                am_bv (f62 z c0 c1 x4 (I6, M1.2)) fun M7 =>
                                  some (none, M7)
                              else
                                none
                            else
                              none
                          else
                            none
                        else
                          none
                    else
                      none
                else
                  none
              else
                none
      else
        if am_inB x4 8 then
          let I14 := am_u M1.1 c0 3 ((M1.1 c0 3) + (M1.1 (c0 + 2) x4.toNatClampNeg))
          some (none, (I14, M1.2))
        else
          none
set_option maxRecDepth 100000 in
set_option maxHeartbeats 4000000 in
theorem e58 (z : Nat) : ∀ (c0 : Nat) (c1 : Nat) (x2 : Int32) (c3 : Nat) (x4 : Int32) (M : aM) (r : aR), f58 z c0 c1 x2 c3 x4 M = some r → am_Ev 2 58 0 [some (.inr (.inr (7, c0))), some (.inr (.inr (1, c1))), some (.inl x2), some (.inr (.inr (21, c3))), some (.inl x4)] [] M r := by
  intro c0 c1 x2 c3 x4 M r h
  exact am_Ev_seg (sem := am_s58_ z) (cut := ([] : List (Nat × List Bool))) (hs58 z) am_r58 am_k58 (by rw [am_l58]; decide) (fun _ _ _ _ => none) 55 h (fun _ _ _ _ hk => by cases hk)
def F58 (z : Nat) (as : List aV) (M : aM) : Option aR := match as with
  | [.inr (.inr (7, c0)), .inr (.inr (1, c1)), .inl x2, .inr (.inr (21, c3)), .inl x4] => f58 z c0 c1 x2 c3 x4 M
  | _ => none
theorem S58 (z : Nat) : am_Snd 2 58 (F58 z) := am_meth (by decide +kernel) (fun as M r has h => by
    rw [am_l58]
    unfold F58 at h
    split at h
    · exact ⟨Nat.le_of_ble_eq_true rfl, e58 z _ _ _ _ _ _ _ h⟩
    · cases h)
def cd63_0 : List am_E := [(0, .iconst 0, 1, 0, 0, 0, 0), (1, .istore_n 3, 1, 3, 0, 0, 0), (2, .iconst 0, 1, 0, 0, 0, 0), (3, .istore 4, 2, 4, 0, 0, 0), (5, .iload 4, 2, 4, 0, 0, 0), (7, .aload_n 1, 1, 1, 0, 0, 0), (8, .getfield 37, 3, 1, 5, 0, 0), (11, .if_icmp .ge 43, 3, 54, 0, 0, 0), (14, .aload_n 0, 1, 0, 0, 0, 0), (15, .getfield 9, 3, 7, 0, 0, 0), (18, .iload 4, 2, 4, 0, 0, 0), (20, .iaload, 1, 0, 0, 0, 0), (21, .aload_n 2, 1, 2, 0, 0, 0), (22, .iload 4, 2, 4, 0, 0, 0), (24, .iaload, 1, 0, 0, 0, 0), (25, .if_icmp .le 23, 3, 48, 0, 0, 0), (28, .aload_n 2, 1, 2, 0, 0, 0), (29, .iload 4, 2, 4, 0, 0, 0), (31, .iconst 0, 1, 0, 0, 0, 0), (32, .iastore, 1, 0, 0, 0, 0), (33, .aload_n 0, 1, 0, 0, 0, 0), (34, .dup, 1, 0, 0, 0, 0), (35, .getfield 22, 3, 7, 2, 0, 0), (38, .iconst 1, 1, 0, 0, 1, 0), (39, .iload 4, 2, 4, 0, 0, 0), (41, .ishl, 1, 0, 0, 0, 0), (42, .ior, 1, 0, 0, 0, 0), (43, .putfield 22, 3, 7, 2, 0, 0), (46, .iconst 1, 1, 0, 0, 1, 0), (47, .istore_n 3, 1, 3, 0, 0, 0), (48, .iinc 4 1, 3, 4, 0, 1, 0), (51, .goto (-46), 3, 5, 0, 0, 0), (54, .iload_n 3, 1, 3, 0, 0, 0), (55, .ireturn, 1, 0, 0, 0, 0)]
def cd63 : List am_E := cd63_0
def am_w63 : List (List (Int32 × Nat) × Nat) := []
set_option maxRecDepth 100000 in
theorem kcd63_0 : cd63_0.all (am_chk am_w63 63) = true := by decide +kernel
theorem am_k63 : cd63.all (am_chk am_w63 63) = true := by
  simp only [cd63, List.all_append, kcd63_0, Bool.and_self]
theorem am_r63 : am_rtc 63 = 1 := by decide +kernel
theorem am_l63 : am_ml 63 = 5 := by decide +kernel
def am_s63_ (z : Nat) : Nat → List aV → aM → Option aR := fun j => (fun _ _ => none)
theorem hs63 (z : Nat) : ∀ j2 : Nat, ∃ d2 : Nat, d2 + 1 ≤ 1 ∧ am_Snd d2 j2 (am_s63_ z j2) := by
  intro j2
  unfold am_s63_
  exact ⟨0, by decide, am_Snd_no j2⟩
def f63_5 (z : Nat) : Nat → Nat → Nat → Nat → Int32 → Int32 → aM → Option aR
  | 0, _, _, _, _, _, _ => none
  | n + 1, c0, c1, c2, x3, x4, M =>
    if (M.1 c1 5) ≤ x4 then
      some (some (.inl (x3 &&& 1)), M)
    else
      if am_inB x4 16 then
        if am_inB x4 16 then
          if (M.1 (c0 + 1) x4.toNatClampNeg) ≤ (M.1 c2 x4.toNatClampNeg) then
            f63_5 z n c0 c1 c2 x3 (x4 + (1 : Int32)) M
          else
            if am_inB x4 16 then
              let I1 := am_u M.1 c2 x4.toNatClampNeg (0 : Int32)
              let I2 := am_u I1 c0 2 ((I1 c0 2) ||| ((1 : Int32) <<< (x4 &&& 31)))
              f63_5 z n c0 c1 c2 (1 : Int32) (x4 + (1 : Int32)) (I2, M.2)
            else
              none
        else
          none
      else
        none
set_option maxRecDepth 100000 in
set_option maxHeartbeats 4000000 in
theorem e63_5 (z : Nat) : ∀ (n : Nat) (c0 : Nat) (c1 : Nat) (c2 : Nat) (x3 : Int32) (x4 : Int32) (M : aM) (r : aR), f63_5 z n c0 c1 c2 x3 x4 M = some r → am_Ev 1 63 5 [some (.inr (.inr (7, c0))), some (.inr (.inr (1, c1))), some (.inr (.inr (21, c2))), some (.inl x3), some (.inl x4)] [] M r := by
  intro n
  induction n with
  | zero =>
    intro c0 c1 c2 x3 x4 M r h
    cases h
  | succ n ih =>
    intro c0 c1 c2 x3 x4 M r h
    exact am_Ev_seg (sem := am_s63_ z) (cut := ([(5, [true, true, true, true, true])] : List (Nat × List Bool))) (hs63 z) am_r63 am_k63 (by rw [am_l63]; decide) (fun pc al st M => (match Nat.beq pc 5 with
      | true => (match al, st with
        | [some (.inr (.inr (7, c0))), some (.inr (.inr (1, c1))), some (.inr (.inr (21, c2))), some (.inl x3), some (.inl x4)], [] => f63_5 z n c0 c1 c2 x3 x4 M
        | _, _ => none)
      | false => none)) 30 h (fun pc al st M hk => by
      try dsimp only at hk
      split at hk
      · rename_i he
        rw [am_beq he]
        split at hk
        · exact ih _ _ _ _ _ _ _ hk
        · cases hk
      · cases hk)
/-- ArgumentMender$Tug.tear(LArgumentMender$Cloth;[I)Z -/
def f63 (z : Nat) (c0 : Nat) (c1 : Nat) (c2 : Nat) (M : aM) : Option aR :=
  f63_5 z z c0 c1 c2 (0 : Int32) (0 : Int32) M
set_option maxRecDepth 100000 in
set_option maxHeartbeats 4000000 in
theorem e63 (z : Nat) : ∀ (c0 : Nat) (c1 : Nat) (c2 : Nat) (M : aM) (r : aR), f63 z c0 c1 c2 M = some r → am_Ev 1 63 0 [some (.inr (.inr (7, c0))), some (.inr (.inr (1, c1))), some (.inr (.inr (21, c2))), none, none] [] M r := by
  intro c0 c1 c2 M r h
  exact am_Ev_seg (sem := am_s63_ z) (cut := ([(5, [true, true, true, true, true])] : List (Nat × List Bool))) (hs63 z) am_r63 am_k63 (by rw [am_l63]; decide) (fun pc al st M => (match Nat.beq pc 5 with
      | true => (match al, st with
        | [some (.inr (.inr (7, c0))), some (.inr (.inr (1, c1))), some (.inr (.inr (21, c2))), some (.inl x3), some (.inl x4)], [] => f63_5 z z c0 c1 c2 x3 x4 M
        | _, _ => none)
      | false => none)) 6 h (fun pc al st M hk => by
      try dsimp only at hk
      split at hk
      · rename_i he
        rw [am_beq he]
        split at hk
        · exact e63_5 z _ _ _ _ _ _ _ _ hk
        · cases hk
      · cases hk)
def F63 (z : Nat) (as : List aV) (M : aM) : Option aR := match as with
  | [.inr (.inr (7, c0)), .inr (.inr (1, c1)), .inr (.inr (21, c2))] => f63 z c0 c1 c2 M
  | _ => none
theorem S63 (z : Nat) : am_Snd 1 63 (F63 z) := am_meth (by decide +kernel) (fun as M r has h => by
    rw [am_l63]
    unfold F63 at h
    split at h
    · exact ⟨Nat.le_of_ble_eq_true rfl, e63 z _ _ _ _ _ h⟩
    · cases h)
def cd56_0 : List am_E := [(0, .aload_n 0, 1, 0, 0, 0, 0), (1, .iconst 0, 1, 0, 0, 0, 0), (2, .putfield 18, 3, 7, 1, 0, 0), (5, .aload_n 0, 1, 0, 0, 0, 0), (6, .iconst 0, 1, 0, 0, 0, 0), (7, .putfield 22, 3, 7, 2, 0, 0), (10, .iconst 1, 1, 0, 0, 1, 0), (11, .istore 6, 2, 6, 0, 0, 0), (13, .iconst 0, 1, 0, 0, 0, 0), (14, .istore 7, 2, 7, 0, 0, 0), (16, .iload 6, 2, 6, 0, 0, 0), (18, .ifCond .eq 76, 3, 94, 0, 0, 0), (21, .iload 7, 2, 7, 0, 0, 0), (23, .bipush 16, 2, 0, 0, 16, 0), (25, .if_icmp .gt 69, 3, 94, 0, 0, 0), (28, .aload_n 0, 1, 0, 0, 0, 0), (29, .iload 4, 2, 4, 0, 0, 0), (31, .iload 5, 2, 5, 0, 0, 0), (33, .invokevirtual 25, 3, 57, 7024, 0, 0), (36, .iload 4, 2, 4, 0, 0, 0), (38, .istore 8, 2, 8, 0, 0, 0), (40, .iload 8, 2, 8, 0, 0, 0), (42, .ifCond .lt 28, 3, 70, 0, 0, 0), (45, .aload_n 0, 1, 0, 0, 0, 0), (46, .getfield 15, 3, 7, 5, 0, 0), (49, .iload 8, 2, 8, 0, 0, 0), (51, .iaload, 1, 0, 0, 0, 0), (52, .ifCond .le 12, 3, 64, 0, 0, 0), (55, .aload_n 0, 1, 0, 0, 0, 0), (56, .aload_n 1, 1, 1, 0, 0, 0), (57, .iload_n 2, 1, 2, 0, 0, 0), (58, .aload_n 3, 1, 3, 0, 0, 0), (59, .iload 8, 2, 8, 0, 0, 0), (61, .invokevirtual 29, 3, 58, 7044, 0, 0), (64, .iinc 8 (-1), 3, 8, 0, (-1), 0), (67, .goto (-27), 3, 40, 0, 0, 0), (70, .aload_n 0, 1, 0, 0, 0, 0), (71, .dup, 1, 0, 0, 0, 0), (72, .getfield 18, 3, 7, 1, 0, 0), (75, .iconst 1, 1, 0, 0, 1, 0)]
def cd56_1 : List am_E := [(76, .iadd, 1, 0, 0, 0, 0), (77, .putfield 18, 3, 7, 1, 0, 0), (80, .aload_n 0, 1, 0, 0, 0, 0), (81, .aload_n 1, 1, 1, 0, 0, 0), (82, .aload_n 3, 1, 3, 0, 0, 0), (83, .invokevirtual 33, 3, 63, 7020, 0, 0), (86, .istore 6, 2, 6, 0, 0, 0), (88, .iinc 7 1, 3, 7, 0, 1, 0), (91, .goto (-75), 3, 16, 0, 0, 0), (94, .iconst 0, 1, 0, 0, 0, 0), (95, .istore 7, 2, 7, 0, 0, 0), (97, .iload 7, 2, 7, 0, 0, 0), (99, .aload_n 1, 1, 1, 0, 0, 0), (100, .getfield 37, 3, 1, 5, 0, 0), (103, .if_icmp .ge 25, 3, 128, 0, 0, 0), (106, .aload_n 3, 1, 3, 0, 0, 0), (107, .iload 7, 2, 7, 0, 0, 0), (109, .dup2, 1, 0, 0, 0, 0), (110, .iaload, 1, 0, 0, 0, 0), (111, .aload_n 0, 1, 0, 0, 0, 0), (112, .getfield 9, 3, 7, 0, 0, 0), (115, .iload 7, 2, 7, 0, 0, 0), (117, .iaload, 1, 0, 0, 0, 0), (118, .iconst 5, 1, 0, 0, 5, 0), (119, .idiv, 1, 0, 0, 0, 0), (120, .isub, 1, 0, 0, 0, 0), (121, .iastore, 1, 0, 0, 0, 0), (122, .iinc 7 1, 3, 7, 0, 1, 0), (125, .goto (-28), 3, 97, 0, 0, 0), (128, .return_, 1, 0, 0, 0, 0)]
def cd56 : List am_E := cd56_0 ++ (cd56_1)
def am_w56 : List (List (Int32 × Nat) × Nat) := []
set_option maxRecDepth 100000 in
theorem kcd56_0 : cd56_0.all (am_chk am_w56 56) = true := by decide +kernel
set_option maxRecDepth 100000 in
theorem kcd56_1 : cd56_1.all (am_chk am_w56 56) = true := by decide +kernel
theorem am_k56 : cd56.all (am_chk am_w56 56) = true := by
  simp only [cd56, List.all_append, kcd56_0, kcd56_1, Bool.and_self]
theorem am_r56 : am_rtc 56 = 4 := by decide +kernel
theorem am_l56 : am_ml 56 = 9 := by decide +kernel
def am_s56_ (z : Nat) : Nat → List aV → aM → Option aR := fun j => (match Nat.beq j 57 with
  | true => F57 z
  | false => (match Nat.beq j 58 with
  | true => F58 z
  | false => (match Nat.beq j 63 with
  | true => F63 z
  | false => (fun _ _ => none))))
theorem hs56 (z : Nat) : ∀ j2 : Nat, ∃ d2 : Nat, d2 + 1 ≤ 3 ∧ am_Snd d2 j2 (am_s56_ z j2) := by
  intro j2
  unfold am_s56_
  split
  · rename_i he
    rw [am_beq he]
    exact ⟨_, by decide, S57 z⟩
  · skip
    split
    · rename_i he
      rw [am_beq he]
      exact ⟨_, by decide, S58 z⟩
    · skip
      split
      · rename_i he
        rw [am_beq he]
        exact ⟨_, by decide, S63 z⟩
      · skip
        exact ⟨0, by decide, am_Snd_no j2⟩
def f56_40 (z : Nat) (k16 : Nat → Nat → Int32 → Nat → Int32 → Int32 → Int32 → Int32 → aM → Option aR) : Nat → Nat → Nat → Int32 → Nat → Int32 → Int32 → Int32 → Int32 → aM → Option aR
  | 0, _, _, _, _, _, _, _, _, _ => none
  | n + 1, c0, c1, x2, c3, x4, x5, x7, x8, M =>
    if x8 < 0 then
      let I1 := am_u M.1 c0 1 ((M.1 c0 1) + (1 : Int32))
      am_bi (f63 z c0 c1 c3 (I1, M.2)) fun v3 M2 =>
        k16 c0 c1 x2 c3 x4 x5 v3 (x7 + (1 : Int32)) M2
    else
      if am_inB x8 8 then
        if (M.1 (c0 + 2) x8.toNatClampNeg) ≤ 0 then
          f56_40 z k16 n c0 c1 x2 c3 x4 x5 x7 (x8 + (-1 : Int32)) M
        else
          am_bv (f58 z c0 c1 x2 c3 x8 M) fun M4 =>
            f56_40 z k16 n c0 c1 x2 c3 x4 x5 x7 (x8 + (-1 : Int32)) M4
      else
        none
set_option maxRecDepth 100000 in
set_option maxHeartbeats 4000000 in
theorem e56_40 (z : Nat) (k16 : Nat → Nat → Int32 → Nat → Int32 → Int32 → Int32 → Int32 → aM → Option aR) (hk16 : ∀ (c0 : Nat) (c1 : Nat) (x2 : Int32) (c3 : Nat) (x4 : Int32) (x5 : Int32) (x6 : Int32) (x7 : Int32) (M : aM) (r : aR), k16 c0 c1 x2 c3 x4 x5 x6 x7 M = some r → am_Ev 3 56 16 [some (.inr (.inr (7, c0))), some (.inr (.inr (1, c1))), some (.inl x2), some (.inr (.inr (21, c3))), some (.inl x4), some (.inl x5), some (.inl x6), some (.inl x7), none] [] M r) : ∀ (n : Nat) (c0 : Nat) (c1 : Nat) (x2 : Int32) (c3 : Nat) (x4 : Int32) (x5 : Int32) (x7 : Int32) (x8 : Int32) (M : aM) (r : aR), f56_40 z k16 n c0 c1 x2 c3 x4 x5 x7 x8 M = some r → am_Ev 3 56 40 [some (.inr (.inr (7, c0))), some (.inr (.inr (1, c1))), some (.inl x2), some (.inr (.inr (21, c3))), some (.inl x4), some (.inl x5), none, some (.inl x7), some (.inl x8)] [] M r := by
  intro n
  induction n with
  | zero =>
    intro c0 c1 x2 c3 x4 x5 x7 x8 M r h
    cases h
  | succ n ih =>
    intro c0 c1 x2 c3 x4 x5 x7 x8 M r h
    exact am_Ev_seg (sem := am_s56_ z) (cut := ([(16, [true, true, true, true, true, true, true, true, false]), (40, [true, true, true, true, true, true, false, true, true])] : List (Nat × List Bool))) (hs56 z) am_r56 am_k56 (by rw [am_l56]; decide) (fun pc al st M => (match Nat.beq pc 16 with
      | true => (match al, st with
        | [some (.inr (.inr (7, c0))), some (.inr (.inr (1, c1))), some (.inl x2), some (.inr (.inr (21, c3))), some (.inl x4), some (.inl x5), some (.inl x6), some (.inl x7), none], [] => k16 c0 c1 x2 c3 x4 x5 x6 x7 M
        | _, _ => none)
      | false => (match Nat.beq pc 40 with
      | true => (match al, st with
        | [some (.inr (.inr (7, c0))), some (.inr (.inr (1, c1))), some (.inl x2), some (.inr (.inr (21, c3))), some (.inl x4), some (.inl x5), none, some (.inl x7), some (.inl x8)], [] => f56_40 z k16 n c0 c1 x2 c3 x4 x5 x7 x8 M
        | _, _ => none)
      | false => none))) 17 h (fun pc al st M hk => by
      try dsimp only at hk
      split at hk
      · rename_i he
        rw [am_beq he]
        split at hk
        · exact hk16 _ _ _ _ _ _ _ _ _ _ hk
        · cases hk
      · skip
        split at hk
        · rename_i he
          rw [am_beq he]
          split at hk
          · exact ih _ _ _ _ _ _ _ _ _ _ hk
          · cases hk
        · cases hk)
def f56_97 (z : Nat) : Nat → Nat → Nat → Nat → Int32 → aM → Option aR
  | 0, _, _, _, _, _ => none
  | n + 1, c0, c1, c3, x7, M =>
    if (M.1 c1 5) ≤ x7 then
      some (none, M)
    else
      if am_inB x7 16 then
        if am_inB x7 16 then
          if (5 : Int32) = 0 then
            none
          else
            if am_inB x7 16 then
              let I1 := am_u M.1 c3 x7.toNatClampNeg ((M.1 c3 x7.toNatClampNeg) - ((M.1 (c0 + 1) x7.toNatClampNeg) / (5 : Int32)))
              f56_97 z n c0 c1 c3 (x7 + (1 : Int32)) (I1, M.2)
            else
              none
        else
          none
      else
        none
set_option maxRecDepth 100000 in
set_option maxHeartbeats 4000000 in
theorem e56_97 (z : Nat) : ∀ (n : Nat) (c0 : Nat) (c1 : Nat) (c3 : Nat) (x7 : Int32) (M : aM) (r : aR), f56_97 z n c0 c1 c3 x7 M = some r → am_Ev 3 56 97 [some (.inr (.inr (7, c0))), some (.inr (.inr (1, c1))), none, some (.inr (.inr (21, c3))), none, none, none, some (.inl x7), none] [] M r := by
  intro n
  induction n with
  | zero =>
    intro c0 c1 c3 x7 M r h
    cases h
  | succ n ih =>
    intro c0 c1 c3 x7 M r h
    exact am_Ev_seg (sem := am_s56_ z) (cut := ([(97, [true, true, false, true, false, false, false, true, false])] : List (Nat × List Bool))) (hs56 z) am_r56 am_k56 (by rw [am_l56]; decide) (fun pc al st M => (match Nat.beq pc 97 with
      | true => (match al, st with
        | [some (.inr (.inr (7, c0))), some (.inr (.inr (1, c1))), none, some (.inr (.inr (21, c3))), none, none, none, some (.inl x7), none], [] => f56_97 z n c0 c1 c3 x7 M
        | _, _ => none)
      | false => none)) 20 h (fun pc al st M hk => by
      try dsimp only at hk
      split at hk
      · rename_i he
        rw [am_beq he]
        split at hk
        · exact ih _ _ _ _ _ _ hk
        · cases hk
      · cases hk)
def f56_16 (z : Nat) : Nat → Nat → Nat → Int32 → Nat → Int32 → Int32 → Int32 → Int32 → aM → Option aR
  | 0, _, _, _, _, _, _, _, _, _ => none
  | n + 1, c0, c1, x2, c3, x4, x5, x6, x7, M =>
    if x6 = 0 then
      f56_97 z z c0 c1 c3 (0 : Int32) M
    else
      if (16 : Int32) < x7 then
        f56_97 z z c0 c1 c3 (0 : Int32) M
      else
        am_bv (f57 z c0 x4 x5 M) fun M1 =>
          f56_40 z (f56_16 z n) z c0 c1 x2 c3 x4 x5 x7 x4 M1
set_option maxRecDepth 100000 in
set_option maxHeartbeats 4000000 in
theorem e56_16 (z : Nat) : ∀ (n : Nat) (c0 : Nat) (c1 : Nat) (x2 : Int32) (c3 : Nat) (x4 : Int32) (x5 : Int32) (x6 : Int32) (x7 : Int32) (M : aM) (r : aR), f56_16 z n c0 c1 x2 c3 x4 x5 x6 x7 M = some r → am_Ev 3 56 16 [some (.inr (.inr (7, c0))), some (.inr (.inr (1, c1))), some (.inl x2), some (.inr (.inr (21, c3))), some (.inl x4), some (.inl x5), some (.inl x6), some (.inl x7), none] [] M r := by
  intro n
  induction n with
  | zero =>
    intro c0 c1 x2 c3 x4 x5 x6 x7 M r h
    cases h
  | succ n ih =>
    intro c0 c1 x2 c3 x4 x5 x6 x7 M r h
    exact am_Ev_seg (sem := am_s56_ z) (cut := ([(40, [true, true, true, true, true, true, false, true, true]), (97, [true, true, false, true, false, false, false, true, false])] : List (Nat × List Bool))) (hs56 z) am_r56 am_k56 (by rw [am_l56]; decide) (fun pc al st M => (match Nat.beq pc 40 with
      | true => (match al, st with
        | [some (.inr (.inr (7, c0))), some (.inr (.inr (1, c1))), some (.inl x2), some (.inr (.inr (21, c3))), some (.inl x4), some (.inl x5), none, some (.inl x7), some (.inl x8)], [] => f56_40 z (f56_16 z n) z c0 c1 x2 c3 x4 x5 x7 x8 M
        | _, _ => none)
      | false => (match Nat.beq pc 97 with
      | true => (match al, st with
        | [some (.inr (.inr (7, c0))), some (.inr (.inr (1, c1))), none, some (.inr (.inr (21, c3))), none, none, none, some (.inl x7), none], [] => f56_97 z z c0 c1 c3 x7 M
        | _, _ => none)
      | false => none))) 13 h (fun pc al st M hk => by
      try dsimp only at hk
      split at hk
      · rename_i he
        rw [am_beq he]
        split at hk
        · exact e56_40 z _ ih _ _ _ _ _ _ _ _ _ _ _ hk
        · cases hk
      · skip
        split at hk
        · rename_i he
          rw [am_beq he]
          split at hk
          · exact e56_97 z _ _ _ _ _ _ _ hk
          · cases hk
        · cases hk)
/-- ArgumentMender$Tug.drag(LArgumentMender$Cloth;I[III)V -/
def f56 (z : Nat) (c0 : Nat) (c1 : Nat) (x2 : Int32) (c3 : Nat) (x4 : Int32) (x5 : Int32) (M : aM) : Option aR :=
  let I1 := am_u M.1 c0 1 (0 : Int32)
  let I2 := am_u I1 c0 2 (0 : Int32)
  f56_16 z z c0 c1 x2 c3 x4 x5 (1 : Int32) (0 : Int32) (I2, M.2)
set_option maxRecDepth 100000 in
set_option maxHeartbeats 4000000 in
theorem e56 (z : Nat) : ∀ (c0 : Nat) (c1 : Nat) (x2 : Int32) (c3 : Nat) (x4 : Int32) (x5 : Int32) (M : aM) (r : aR), f56 z c0 c1 x2 c3 x4 x5 M = some r → am_Ev 3 56 0 [some (.inr (.inr (7, c0))), some (.inr (.inr (1, c1))), some (.inl x2), some (.inr (.inr (21, c3))), some (.inl x4), some (.inl x5), none, none, none] [] M r := by
  intro c0 c1 x2 c3 x4 x5 M r h
  exact am_Ev_seg (sem := am_s56_ z) (cut := ([(16, [true, true, true, true, true, true, true, true, false])] : List (Nat × List Bool))) (hs56 z) am_r56 am_k56 (by rw [am_l56]; decide) (fun pc al st M => (match Nat.beq pc 16 with
      | true => (match al, st with
        | [some (.inr (.inr (7, c0))), some (.inr (.inr (1, c1))), some (.inl x2), some (.inr (.inr (21, c3))), some (.inl x4), some (.inl x5), some (.inl x6), some (.inl x7), none], [] => f56_16 z z c0 c1 x2 c3 x4 x5 x6 x7 M
        | _, _ => none)
      | false => none)) 12 h (fun pc al st M hk => by
      try dsimp only at hk
      split at hk
      · rename_i he
        rw [am_beq he]
        split at hk
        · exact e56_16 z _ _ _ _ _ _ _ _ _ _ _ hk
        · cases hk
      · cases hk)
def F56 (z : Nat) (as : List aV) (M : aM) : Option aR := match as with
  | [.inr (.inr (7, c0)), .inr (.inr (1, c1)), .inl x2, .inr (.inr (21, c3)), .inl x4, .inl x5] => f56 z c0 c1 x2 c3 x4 x5 M
  | _ => none
theorem S56 (z : Nat) : am_Snd 3 56 (F56 z) := am_meth (by decide +kernel) (fun as M r has h => by
    rw [am_l56]
    unfold F56 at h
    split at h
    · exact ⟨Nat.le_of_ble_eq_true rfl, e56 z _ _ _ _ _ _ _ _ h⟩
    · cases h)
def cd75_0 : List am_E := [(0, .iconst 0, 1, 0, 0, 0, 0), (1, .istore_n 2, 1, 2, 0, 0, 0), (2, .iload_n 2, 1, 2, 0, 0, 0), (3, .aload_n 1, 1, 1, 0, 0, 0), (4, .getfield 120, 3, 1, 5, 0, 0), (7, .if_icmp .ge 30, 3, 37, 0, 0, 0), (10, .aload_n 0, 1, 0, 0, 0, 0), (11, .getfield 52, 3, 9, 1, 0, 0), (14, .iload_n 2, 1, 2, 0, 0, 0), (15, .ishr, 1, 0, 0, 0, 0), (16, .iconst 1, 1, 0, 0, 1, 0), (17, .iand, 1, 0, 0, 0, 0), (18, .iconst 1, 1, 0, 0, 1, 0), (19, .if_icmp .ne 12, 3, 31, 0, 0, 0), (22, .aload_n 0, 1, 0, 0, 0, 0), (23, .getfield 11, 3, 9, 3, 0, 0), (26, .iconst 0, 1, 0, 0, 0, 0), (27, .aaload, 1, 0, 0, 0, 0), (28, .iload_n 2, 1, 2, 0, 0, 0), (29, .iconst 0, 1, 0, 0, 0, 0), (30, .iastore, 1, 0, 0, 0, 0), (31, .iinc 2 1, 3, 2, 0, 1, 0), (34, .goto (-32), 3, 2, 0, 0, 0), (37, .aload_n 0, 1, 0, 0, 0, 0), (38, .getfield 19, 3, 9, 5, 0, 0), (41, .iconst 0, 1, 0, 0, 0, 0), (42, .invokestatic 123, 3, 343, 29, 0, 0), (45, .aload_n 0, 1, 0, 0, 0, 0), (46, .getfield 23, 3, 9, 6, 0, 0), (49, .iconst 0, 1, 0, 0, 0, 0), (50, .invokestatic 123, 3, 343, 29, 0, 0), (53, .aload_n 0, 1, 0, 0, 0, 0), (54, .getfield 26, 3, 9, 7, 0, 0), (57, .iconst 0, 1, 0, 0, 0, 0), (58, .invokestatic 123, 3, 343, 29, 0, 0), (61, .aload_n 0, 1, 0, 0, 0, 0), (62, .getfield 29, 3, 9, 8, 0, 0), (65, .iconst 0, 1, 0, 0, 0, 0), (66, .invokestatic 123, 3, 343, 29, 0, 0), (69, .aload_n 0, 1, 0, 0, 0, 0)]
def cd75_1 : List am_E := [(70, .getfield 32, 3, 9, 9, 0, 0), (73, .iconst 0, 1, 0, 0, 0, 0), (74, .invokestatic 123, 3, 343, 29, 0, 0), (77, .aload_n 0, 1, 0, 0, 0, 0), (78, .getfield 35, 3, 9, 10, 0, 0), (81, .iconst 0, 1, 0, 0, 0, 0), (82, .invokestatic 123, 3, 343, 29, 0, 0), (85, .return_, 1, 0, 0, 0, 0)]
def cd75 : List am_E := cd75_0 ++ (cd75_1)
def am_w75 : List (List (Int32 × Nat) × Nat) := []
set_option maxRecDepth 100000 in
theorem kcd75_0 : cd75_0.all (am_chk am_w75 75) = true := by decide +kernel
set_option maxRecDepth 100000 in
theorem kcd75_1 : cd75_1.all (am_chk am_w75 75) = true := by decide +kernel
theorem am_k75 : cd75.all (am_chk am_w75 75) = true := by
  simp only [cd75, List.all_append, kcd75_0, kcd75_1, Bool.and_self]
theorem am_r75 : am_rtc 75 = 4 := by decide +kernel
theorem am_l75 : am_ml 75 = 3 := by decide +kernel
def am_s75_ (z : Nat) : Nat → List aV → aM → Option aR := fun j => (match Nat.beq j 343 with
  | true => F343 z
  | false => (fun _ _ => none))
theorem hs75 (z : Nat) : ∀ j2 : Nat, ∃ d2 : Nat, d2 + 1 ≤ 2 ∧ am_Snd d2 j2 (am_s75_ z j2) := by
  intro j2
  unfold am_s75_
  split
  · rename_i he
    rw [am_beq he]
    exact ⟨_, by decide, S343 z⟩
  · skip
    exact ⟨0, by decide, am_Snd_no j2⟩
def f75_2 (z : Nat) : Nat → Nat → Nat → Int32 → aM → Option aR
  | 0, _, _, _, _ => none
  | n + 1, c0, c1, x2, M =>
    if (M.1 c1 5) ≤ x2 then
      am_bv (f343_k22 z (c0 + 26) (0 : Int32) M) fun M1 =>
        am_bv (f343_k22 z (c0 + 27) (0 : Int32) M1) fun M2 =>
          am_bv (f343_k22 z (c0 + 28) (0 : Int32) M2) fun M3 =>
            am_bv (f343_k22 z (c0 + 29) (0 : Int32) M3) fun M4 =>
              am_bv (f343_k21 z (c0 + 30) (0 : Int32) M4) fun M5 =>
                am_bv (f343_k21 z (c0 + 31) (0 : Int32) M5) fun M6 =>
                  some (none, M6)
    else
      if ¬ (((M.1 c0 1) >>> (x2 &&& 31)) &&& (1 : Int32)) = (1 : Int32) then
        f75_2 z n c0 c1 (x2 + (1 : Int32)) M
      else
        if am_inB (0 : Int32) 13 then
          if am_inB x2 16 then
            let I7 := am_u M.1 ((c0 + 1) + (1 + 1 * (0 : Int32).toNatClampNeg)) x2.toNatClampNeg (0 : Int32)
            f75_2 z n c0 c1 (x2 + (1 : Int32)) (I7, M.2)
          else
            none
        else
          none
set_option maxRecDepth 100000 in
set_option maxHeartbeats 4000000 in
theorem e75_2 (z : Nat) : ∀ (n : Nat) (c0 : Nat) (c1 : Nat) (x2 : Int32) (M : aM) (r : aR), f75_2 z n c0 c1 x2 M = some r → am_Ev 2 75 2 [some (.inr (.inr (9, c0))), some (.inr (.inr (1, c1))), some (.inl x2)] [] M r := by
  intro n
  induction n with
  | zero =>
    intro c0 c1 x2 M r h
    cases h
  | succ n ih =>
    intro c0 c1 x2 M r h
    exact am_Ev_seg (sem := am_s75_ z) (cut := ([(2, [true, true, true])] : List (Nat × List Bool))) (hs75 z) am_r75 am_k75 (by rw [am_l75]; decide) (fun pc al st M => (match Nat.beq pc 2 with
      | true => (match al, st with
        | [some (.inr (.inr (9, c0))), some (.inr (.inr (1, c1))), some (.inl x2)], [] => f75_2 z n c0 c1 x2 M
        | _, _ => none)
      | false => none)) 30 h (fun pc al st M hk => by
      try dsimp only at hk
      split at hk
      · rename_i he
        rw [am_beq he]
        split at hk
        · exact ih _ _ _ _ _ hk
        · cases hk
      · cases hk)
/-- ArgumentMender$Years.begin(LArgumentMender$Cloth;)V -/
def f75 (z : Nat) (c0 : Nat) (c1 : Nat) (M : aM) : Option aR :=
  f75_2 z z c0 c1 (0 : Int32) M
set_option maxRecDepth 100000 in
set_option maxHeartbeats 4000000 in
theorem e75 (z : Nat) : ∀ (c0 : Nat) (c1 : Nat) (M : aM) (r : aR), f75 z c0 c1 M = some r → am_Ev 2 75 0 [some (.inr (.inr (9, c0))), some (.inr (.inr (1, c1))), none] [] M r := by
  intro c0 c1 M r h
  exact am_Ev_seg (sem := am_s75_ z) (cut := ([(2, [true, true, true])] : List (Nat × List Bool))) (hs75 z) am_r75 am_k75 (by rw [am_l75]; decide) (fun pc al st M => (match Nat.beq pc 2 with
      | true => (match al, st with
        | [some (.inr (.inr (9, c0))), some (.inr (.inr (1, c1))), some (.inl x2)], [] => f75_2 z z c0 c1 x2 M
        | _, _ => none)
      | false => none)) 4 h (fun pc al st M hk => by
      try dsimp only at hk
      split at hk
      · rename_i he
        rw [am_beq he]
        split at hk
        · exact e75_2 z _ _ _ _ _ _ hk
        · cases hk
      · cases hk)
def F75 (z : Nat) (as : List aV) (M : aM) : Option aR := match as with
  | [.inr (.inr (9, c0)), .inr (.inr (1, c1))] => f75 z c0 c1 M
  | _ => none
theorem S75 (z : Nat) : am_Snd 2 75 (F75 z) := am_meth (by decide +kernel) (fun as M r has h => by
    rw [am_l75]
    unfold F75 at h
    split at h
    · exact ⟨Nat.le_of_ble_eq_true rfl, e75 z _ _ _ _ h⟩
    · cases h)
def cd76_0 : List am_E := [(0, .iconst 0, 1, 0, 0, 0, 0), (1, .istore 4, 2, 4, 0, 0, 0), (3, .iload 4, 2, 4, 0, 0, 0), (5, .aload_n 1, 1, 1, 0, 0, 0), (6, .getfield 105, 3, 0, 0, 0, 0), (9, .if_icmp .ge 72, 3, 81, 0, 0, 0), (12, .aload_n 1, 1, 1, 0, 0, 0), (13, .getfield 110, 3, 0, 1, 0, 0), (16, .iload 4, 2, 4, 0, 0, 0), (18, .iaload, 1, 0, 0, 0, 0), (19, .ifCond .ne 56, 3, 75, 0, 0, 0), (22, .aload_n 1, 1, 1, 0, 0, 0), (23, .getfield 113, 3, 0, 4, 0, 0), (26, .iload 4, 2, 4, 0, 0, 0), (28, .iaload, 1, 0, 0, 0, 0), (29, .iload_n 2, 1, 2, 0, 0, 0), (30, .if_icmp .ne 45, 3, 75, 0, 0, 0), (33, .aload_n 1, 1, 1, 0, 0, 0), (34, .getfield 114, 3, 0, 2, 0, 0), (37, .iload 4, 2, 4, 0, 0, 0), (39, .iaload, 1, 0, 0, 0, 0), (40, .istore 5, 2, 5, 0, 0, 0), (42, .aload_n 0, 1, 0, 0, 0, 0), (43, .getfield 52, 3, 9, 1, 0, 0), (46, .iload 5, 2, 5, 0, 0, 0), (48, .ishr, 1, 0, 0, 0, 0), (49, .iconst 1, 1, 0, 0, 1, 0), (50, .iand, 1, 0, 0, 0, 0), (51, .ifCond .ne 24, 3, 75, 0, 0, 0), (54, .aload_n 3, 1, 3, 0, 0, 0), (55, .iload 5, 2, 5, 0, 0, 0), (57, .bipush 99, 2, 0, 0, 99, 0), (59, .aload_n 3, 1, 3, 0, 0, 0), (60, .iload 5, 2, 5, 0, 0, 0), (62, .iaload, 1, 0, 0, 0, 0), (63, .aload_n 1, 1, 1, 0, 0, 0), (64, .getfield 117, 3, 0, 3, 0, 0), (67, .iload 4, 2, 4, 0, 0, 0), (69, .iaload, 1, 0, 0, 0, 0), (70, .iadd, 1, 0, 0, 0, 0)]
def cd76_1 : List am_E := [(71, .invokestatic 129, 3, 0, 2, 0, 0), (74, .iastore, 1, 0, 0, 0, 0), (75, .iinc 4 1, 3, 4, 0, 1, 0), (78, .goto (-75), 3, 3, 0, 0, 0), (81, .return_, 1, 0, 0, 0, 0)]
def cd76 : List am_E := cd76_0 ++ (cd76_1)
def am_w76 : List (List (Int32 × Nat) × Nat) := []
set_option maxRecDepth 100000 in
theorem kcd76_0 : cd76_0.all (am_chk am_w76 76) = true := by decide +kernel
set_option maxRecDepth 100000 in
theorem kcd76_1 : cd76_1.all (am_chk am_w76 76) = true := by decide +kernel
theorem am_k76 : cd76.all (am_chk am_w76 76) = true := by
  simp only [cd76, List.all_append, kcd76_0, kcd76_1, Bool.and_self]
theorem am_r76 : am_rtc 76 = 4 := by decide +kernel
theorem am_l76 : am_ml 76 = 6 := by decide +kernel
def am_s76_ (z : Nat) : Nat → List aV → aM → Option aR := fun j => (fun _ _ => none)
theorem hs76 (z : Nat) : ∀ j2 : Nat, ∃ d2 : Nat, d2 + 1 ≤ 1 ∧ am_Snd d2 j2 (am_s76_ z j2) := by
  intro j2
  unfold am_s76_
  exact ⟨0, by decide, am_Snd_no j2⟩
def f76_3 (z : Nat) : Nat → Nat → Nat → Int32 → Nat → Int32 → aM → Option aR
  | 0, _, _, _, _, _, _ => none
  | n + 1, c0, c1, x2, c3, x4, M =>
    if (M.1 c1 0) ≤ x4 then
      some (none, M)
    else
      if am_inB x4 30 then
        if ¬ (M.1 (c1 + 1) x4.toNatClampNeg) = 0 then
          f76_3 z n c0 c1 x2 c3 (x4 + (1 : Int32)) M
        else
          if am_inB x4 30 then
            if ¬ (M.1 (c1 + 4) x4.toNatClampNeg) = x2 then
              f76_3 z n c0 c1 x2 c3 (x4 + (1 : Int32)) M
            else
              if am_inB x4 30 then
                if ¬ (((M.1 c0 1) >>> ((M.1 (c1 + 2) x4.toNatClampNeg) &&& 31)) &&& (1 : Int32)) = 0 then
                  f76_3 z n c0 c1 x2 c3 (x4 + (1 : Int32)) M
                else
                  if am_inB (M.1 (c1 + 2) x4.toNatClampNeg) 16 then
                    if am_inB x4 30 then
                      if am_inB (M.1 (c1 + 2) x4.toNatClampNeg) 16 then
                        let I1 := am_u M.1 c3 (M.1 (c1 + 2) x4.toNatClampNeg).toNatClampNeg (if ((M.1 c3 (M.1 (c1 + 2) x4.toNatClampNeg).toNatClampNeg) + (M.1 (c1 + 3) x4.toNatClampNeg)) < (99 : Int32) then ((M.1 c3 (M.1 (c1 + 2) x4.toNatClampNeg).toNatClampNeg) + (M.1 (c1 + 3) x4.toNatClampNeg)) else (99 : Int32))
                        f76_3 z n c0 c1 x2 c3 (x4 + (1 : Int32)) (I1, M.2)
                      else
                        none
                    else
                      none
                  else
                    none
              else
                none
          else
            none
      else
        none
set_option maxRecDepth 100000 in
set_option maxHeartbeats 4000000 in
theorem e76_3 (z : Nat) : ∀ (n : Nat) (c0 : Nat) (c1 : Nat) (x2 : Int32) (c3 : Nat) (x4 : Int32) (M : aM) (r : aR), f76_3 z n c0 c1 x2 c3 x4 M = some r → am_Ev 1 76 3 [some (.inr (.inr (9, c0))), some (.inr (.inr (0, c1))), some (.inl x2), some (.inr (.inr (21, c3))), some (.inl x4), none] [] M r := by
  intro n
  induction n with
  | zero =>
    intro c0 c1 x2 c3 x4 M r h
    cases h
  | succ n ih =>
    intro c0 c1 x2 c3 x4 M r h
    exact am_Ev_seg (sem := am_s76_ z) (cut := ([(3, [true, true, true, true, true, false])] : List (Nat × List Bool))) (hs76 z) am_r76 am_k76 (by rw [am_l76]; decide) (fun pc al st M => (match Nat.beq pc 3 with
      | true => (match al, st with
        | [some (.inr (.inr (9, c0))), some (.inr (.inr (0, c1))), some (.inl x2), some (.inr (.inr (21, c3))), some (.inl x4), none], [] => f76_3 z n c0 c1 x2 c3 x4 M
        | _, _ => none)
      | false => none)) 44 h (fun pc al st M hk => by
      try dsimp only at hk
      split at hk
      · rename_i he
        rw [am_beq he]
        split at hk
        · exact ih _ _ _ _ _ _ _ hk
        · cases hk
      · cases hk)
/-- ArgumentMender$Years.letIn(LArgumentMender$Acts;I[I)V -/
def f76 (z : Nat) (c0 : Nat) (c1 : Nat) (x2 : Int32) (c3 : Nat) (M : aM) : Option aR :=
  f76_3 z z c0 c1 x2 c3 (0 : Int32) M
set_option maxRecDepth 100000 in
set_option maxHeartbeats 4000000 in
theorem e76 (z : Nat) : ∀ (c0 : Nat) (c1 : Nat) (x2 : Int32) (c3 : Nat) (M : aM) (r : aR), f76 z c0 c1 x2 c3 M = some r → am_Ev 1 76 0 [some (.inr (.inr (9, c0))), some (.inr (.inr (0, c1))), some (.inl x2), some (.inr (.inr (21, c3))), none, none] [] M r := by
  intro c0 c1 x2 c3 M r h
  exact am_Ev_seg (sem := am_s76_ z) (cut := ([(3, [true, true, true, true, true, false])] : List (Nat × List Bool))) (hs76 z) am_r76 am_k76 (by rw [am_l76]; decide) (fun pc al st M => (match Nat.beq pc 3 with
      | true => (match al, st with
        | [some (.inr (.inr (9, c0))), some (.inr (.inr (0, c1))), some (.inl x2), some (.inr (.inr (21, c3))), some (.inl x4), none], [] => f76_3 z z c0 c1 x2 c3 x4 M
        | _, _ => none)
      | false => none)) 4 h (fun pc al st M hk => by
      try dsimp only at hk
      split at hk
      · rename_i he
        rw [am_beq he]
        split at hk
        · exact e76_3 z _ _ _ _ _ _ _ _ hk
        · cases hk
      · cases hk)
def F76 (z : Nat) (as : List aV) (M : aM) : Option aR := match as with
  | [.inr (.inr (9, c0)), .inr (.inr (0, c1)), .inl x2, .inr (.inr (21, c3))] => f76 z c0 c1 x2 c3 M
  | _ => none
theorem S76 (z : Nat) : am_Snd 1 76 (F76 z) := am_meth (by decide +kernel) (fun as M r has h => by
    rw [am_l76]
    unfold F76 at h
    split at h
    · exact ⟨Nat.le_of_ble_eq_true rfl, e76 z _ _ _ _ _ _ h⟩
    · cases h)
def cd77_0 : List am_E := [(0, .aload_n 0, 1, 0, 0, 0, 0), (1, .getfield 41, 3, 9, 11, 0, 0), (4, .getfield 135, 3, 7, 0, 0, 0), (7, .iconst 0, 1, 0, 0, 0, 0), (8, .aload_n 0, 1, 0, 0, 0, 0), (9, .getfield 16, 3, 9, 4, 0, 0), (12, .iload_n 1, 1, 1, 0, 0, 0), (13, .aaload, 1, 0, 0, 0, 0), (14, .iconst 0, 1, 0, 0, 0, 0), (15, .bipush 16, 2, 0, 0, 16, 0), (17, .invokestatic 61, 3, 0, 1, 0, 0), (20, .aload_n 0, 1, 0, 0, 0, 0), (21, .getfield 19, 3, 9, 5, 0, 0), (24, .iload_n 1, 1, 1, 0, 0, 0), (25, .aload_n 0, 1, 0, 0, 0, 0), (26, .getfield 41, 3, 9, 11, 0, 0), (29, .getfield 138, 3, 7, 1, 0, 0), (32, .iastore, 1, 0, 0, 0, 0), (33, .aload_n 0, 1, 0, 0, 0, 0), (34, .getfield 23, 3, 9, 6, 0, 0), (37, .iload_n 1, 1, 1, 0, 0, 0), (38, .aload_n 0, 1, 0, 0, 0, 0), (39, .getfield 41, 3, 9, 11, 0, 0), (42, .getfield 140, 3, 7, 2, 0, 0), (45, .iastore, 1, 0, 0, 0, 0), (46, .aload_n 0, 1, 0, 0, 0, 0), (47, .getfield 26, 3, 9, 7, 0, 0), (50, .iload_n 1, 1, 1, 0, 0, 0), (51, .aload_n 0, 1, 0, 0, 0, 0), (52, .getfield 41, 3, 9, 11, 0, 0), (55, .getfield 142, 3, 7, 3, 0, 0), (58, .iastore, 1, 0, 0, 0, 0), (59, .aload_n 0, 1, 0, 0, 0, 0), (60, .getfield 29, 3, 9, 8, 0, 0), (63, .iload_n 1, 1, 1, 0, 0, 0), (64, .aload_n 0, 1, 0, 0, 0, 0), (65, .getfield 41, 3, 9, 11, 0, 0), (68, .getfield 144, 3, 7, 4, 0, 0), (71, .iastore, 1, 0, 0, 0, 0), (72, .return_, 1, 0, 0, 0, 0)]
def cd77 : List am_E := cd77_0
def am_w77 : List (List (Int32 × Nat) × Nat) := []
set_option maxRecDepth 100000 in
theorem kcd77_0 : cd77_0.all (am_chk am_w77 77) = true := by decide +kernel
theorem am_k77 : cd77.all (am_chk am_w77 77) = true := by
  simp only [cd77, List.all_append, kcd77_0, Bool.and_self]
theorem am_r77 : am_rtc 77 = 4 := by decide +kernel
theorem am_l77 : am_ml 77 = 2 := by decide +kernel
def am_s77_ (z : Nat) : Nat → List aV → aM → Option aR := fun j => (fun _ _ => none)
theorem hs77 (z : Nat) : ∀ j2 : Nat, ∃ d2 : Nat, d2 + 1 ≤ 1 ∧ am_Snd d2 j2 (am_s77_ z j2) := by
  intro j2
  unfold am_s77_
  exact ⟨0, by decide, am_Snd_no j2⟩
def f77_46 (z : Nat)  (c0 : Nat) (x1 : Int32) (M : aM) : Option aR :=
  if am_inB x1 10 then
    let I1 := am_u M.1 (c0 + 28) x1.toNatClampNeg (M.1 (c0 + 32) 3)
    if am_inB x1 10 then
      let I2 := am_u I1 (c0 + 29) x1.toNatClampNeg (I1 (c0 + 32) 4)
      some (none, (I2, M.2))
    else
      none
  else
    none
set_option maxRecDepth 100000 in
set_option maxHeartbeats 4000000 in
theorem e77_46 (z : Nat) : ∀ (c0 : Nat) (x1 : Int32) (M : aM) (r : aR), f77_46 z c0 x1 M = some r → am_Ev 1 77 46 [some (.inr (.inr (9, c0))), some (.inl x1)] [] M r := by
  intro c0 x1 M r h
  exact am_Ev_seg (sem := am_s77_ z) (cut := ([] : List (Nat × List Bool))) (hs77 z) am_r77 am_k77 (by rw [am_l77]; decide) (fun _ _ _ _ => none) 16 h (fun _ _ _ _ hk => by cases hk)
/-- ArgumentMender$Years.note(I)V -/
def f77 (z : Nat) (c0 : Nat) (x1 : Int32) (M : aM) : Option aR :=
  if am_inB x1 10 then
    if am_cpOk (0 : Int32) (0 : Int32) (16 : Int32) 16 16 then
      let I1 := am_ua M.1 ((c0 + 15) + (1 + 1 * x1.toNatClampNeg)) (va_cpy (M.1 ((c0 + 32) + 1)) (M.1 ((c0 + 15) + (1 + 1 * x1.toNatClampNeg))) (0 : Int32).toNatClampNeg (0 : Int32).toNatClampNeg (16 : Int32).toNatClampNeg)
      if am_inB x1 10 then
        let I2 := am_u I1 (c0 + 26) x1.toNatClampNeg (I1 (c0 + 32) 1)
        if am_inB x1 10 then
          let I3 := am_u I2 (c0 + 27) x1.toNatClampNeg (I2 (c0 + 32) 2)
          f77_46 z c0 x1 (I3, M.2)
        else
          none
      else
        none
    else
      none
  else
    none
set_option maxRecDepth 100000 in
set_option maxHeartbeats 4000000 in
theorem e77 (z : Nat) : ∀ (c0 : Nat) (x1 : Int32) (M : aM) (r : aR), f77 z c0 x1 M = some r → am_Ev 1 77 0 [some (.inr (.inr (9, c0))), some (.inl x1)] [] M r := by
  intro c0 x1 M r h
  exact am_Ev_seg (sem := am_s77_ z) (cut := ([(46, [true, true])] : List (Nat × List Bool))) (hs77 z) am_r77 am_k77 (by rw [am_l77]; decide) (fun pc al st M => (match Nat.beq pc 46 with
      | true => (match al, st with
        | [some (.inr (.inr (9, c0))), some (.inl x1)], [] => f77_46 z c0 x1 M
        | _, _ => none)
      | false => none)) 27 h (fun pc al st M hk => by
      try dsimp only at hk
      split at hk
      · rename_i he
        rw [am_beq he]
        split at hk
        · exact e77_46 z _ _ _ _ hk
        · cases hk
      · cases hk)
def F77 (z : Nat) (as : List aV) (M : aM) : Option aR := match as with
  | [.inr (.inr (9, c0)), .inl x1] => f77 z c0 x1 M
  | _ => none
theorem S77 (z : Nat) : am_Snd 1 77 (F77 z) := am_meth (by decide +kernel) (fun as M r has h => by
    rw [am_l77]
    unfold F77 at h
    split at h
    · exact ⟨Nat.le_of_ble_eq_true rfl, e77 z _ _ _ _ h⟩
    · cases h)
def cd78_0 : List am_E := [(0, .iconst 0, 1, 0, 0, 0, 0), (1, .istore_n 2, 1, 2, 0, 0, 0), (2, .iload_n 2, 1, 2, 0, 0, 0), (3, .aload_n 1, 1, 1, 0, 0, 0), (4, .getfield 120, 3, 1, 5, 0, 0), (7, .if_icmp .ge 47, 3, 54, 0, 0, 0), (10, .aload_n 0, 1, 0, 0, 0, 0), (11, .getfield 32, 3, 9, 9, 0, 0), (14, .iload_n 2, 1, 2, 0, 0, 0), (15, .dup2, 1, 0, 0, 0, 0), (16, .iaload, 1, 0, 0, 0, 0), (17, .aload_n 0, 1, 0, 0, 0, 0), (18, .getfield 41, 3, 9, 11, 0, 0), (21, .getfield 135, 3, 7, 0, 0, 0), (24, .iload_n 2, 1, 2, 0, 0, 0), (25, .iaload, 1, 0, 0, 0, 0), (26, .iadd, 1, 0, 0, 0, 0), (27, .iastore, 1, 0, 0, 0, 0), (28, .aload_n 0, 1, 0, 0, 0, 0), (29, .getfield 35, 3, 9, 10, 0, 0), (32, .iload_n 2, 1, 2, 0, 0, 0), (33, .dup2, 1, 0, 0, 0, 0), (34, .iaload, 1, 0, 0, 0, 0), (35, .aload_n 0, 1, 0, 0, 0, 0), (36, .getfield 41, 3, 9, 11, 0, 0), (39, .getfield 135, 3, 7, 0, 0, 0), (42, .iload_n 2, 1, 2, 0, 0, 0), (43, .iaload, 1, 0, 0, 0, 0), (44, .iconst 5, 1, 0, 0, 5, 0), (45, .idiv, 1, 0, 0, 0, 0), (46, .iadd, 1, 0, 0, 0, 0), (47, .iastore, 1, 0, 0, 0, 0), (48, .iinc 2 1, 3, 2, 0, 1, 0), (51, .goto (-49), 3, 2, 0, 0, 0), (54, .return_, 1, 0, 0, 0, 0)]
def cd78 : List am_E := cd78_0
def am_w78 : List (List (Int32 × Nat) × Nat) := []
set_option maxRecDepth 100000 in
theorem kcd78_0 : cd78_0.all (am_chk am_w78 78) = true := by decide +kernel
theorem am_k78 : cd78.all (am_chk am_w78 78) = true := by
  simp only [cd78, List.all_append, kcd78_0, Bool.and_self]
theorem am_r78 : am_rtc 78 = 4 := by decide +kernel
theorem am_l78 : am_ml 78 = 3 := by decide +kernel
def am_s78_ (z : Nat) : Nat → List aV → aM → Option aR := fun j => (fun _ _ => none)
theorem hs78 (z : Nat) : ∀ j2 : Nat, ∃ d2 : Nat, d2 + 1 ≤ 1 ∧ am_Snd d2 j2 (am_s78_ z j2) := by
  intro j2
  unfold am_s78_
  exact ⟨0, by decide, am_Snd_no j2⟩
def f78_2 (z : Nat) : Nat → Nat → Nat → Int32 → aM → Option aR
  | 0, _, _, _, _ => none
  | n + 1, c0, c1, x2, M =>
    if (M.1 c1 5) ≤ x2 then
      some (none, M)
    else
      if am_inB x2 16 then
        if am_inB x2 16 then
          if am_inB x2 16 then
            let I1 := am_u M.1 (c0 + 30) x2.toNatClampNeg ((M.1 (c0 + 30) x2.toNatClampNeg) + (M.1 ((c0 + 32) + 1) x2.toNatClampNeg))
            if am_inB x2 16 then
              if am_inB x2 16 then
                if (5 : Int32) = 0 then
                  none
                else
                  if am_inB x2 16 then
                    let I2 := am_u I1 (c0 + 31) x2.toNatClampNeg ((I1 (c0 + 31) x2.toNatClampNeg) + ((I1 ((c0 + 32) + 1) x2.toNatClampNeg) / (5 : Int32)))
                    f78_2 z n c0 c1 (x2 + (1 : Int32)) (I2, M.2)
                  else
                    none
              else
                none
            else
              none
          else
            none
        else
          none
      else
        none
set_option maxRecDepth 100000 in
set_option maxHeartbeats 4000000 in
theorem e78_2 (z : Nat) : ∀ (n : Nat) (c0 : Nat) (c1 : Nat) (x2 : Int32) (M : aM) (r : aR), f78_2 z n c0 c1 x2 M = some r → am_Ev 1 78 2 [some (.inr (.inr (9, c0))), some (.inr (.inr (1, c1))), some (.inl x2)] [] M r := by
  intro n
  induction n with
  | zero =>
    intro c0 c1 x2 M r h
    cases h
  | succ n ih =>
    intro c0 c1 x2 M r h
    exact am_Ev_seg (sem := am_s78_ z) (cut := ([(2, [true, true, true])] : List (Nat × List Bool))) (hs78 z) am_r78 am_k78 (by rw [am_l78]; decide) (fun pc al st M => (match Nat.beq pc 2 with
      | true => (match al, st with
        | [some (.inr (.inr (9, c0))), some (.inr (.inr (1, c1))), some (.inl x2)], [] => f78_2 z n c0 c1 x2 M
        | _, _ => none)
      | false => none)) 34 h (fun pc al st M hk => by
      try dsimp only at hk
      split at hk
      · rename_i he
        rw [am_beq he]
        split at hk
        · exact ih _ _ _ _ _ hk
        · cases hk
      · cases hk)
/-- ArgumentMender$Years.addUp(LArgumentMender$Cloth;)V -/
def f78 (z : Nat) (c0 : Nat) (c1 : Nat) (M : aM) : Option aR :=
  f78_2 z z c0 c1 (0 : Int32) M
set_option maxRecDepth 100000 in
set_option maxHeartbeats 4000000 in
theorem e78 (z : Nat) : ∀ (c0 : Nat) (c1 : Nat) (M : aM) (r : aR), f78 z c0 c1 M = some r → am_Ev 1 78 0 [some (.inr (.inr (9, c0))), some (.inr (.inr (1, c1))), none] [] M r := by
  intro c0 c1 M r h
  exact am_Ev_seg (sem := am_s78_ z) (cut := ([(2, [true, true, true])] : List (Nat × List Bool))) (hs78 z) am_r78 am_k78 (by rw [am_l78]; decide) (fun pc al st M => (match Nat.beq pc 2 with
      | true => (match al, st with
        | [some (.inr (.inr (9, c0))), some (.inr (.inr (1, c1))), some (.inl x2)], [] => f78_2 z z c0 c1 x2 M
        | _, _ => none)
      | false => none)) 4 h (fun pc al st M hk => by
      try dsimp only at hk
      split at hk
      · rename_i he
        rw [am_beq he]
        split at hk
        · exact e78_2 z _ _ _ _ _ _ hk
        · cases hk
      · cases hk)
def F78 (z : Nat) (as : List aV) (M : aM) : Option aR := match as with
  | [.inr (.inr (9, c0)), .inr (.inr (1, c1))] => f78 z c0 c1 M
  | _ => none
theorem S78 (z : Nat) : am_Snd 1 78 (F78 z) := am_meth (by decide +kernel) (fun as M r has h => by
    rw [am_l78]
    unfold F78 at h
    split at h
    · exact ⟨Nat.le_of_ble_eq_true rfl, e78 z _ _ _ _ h⟩
    · cases h)
def cd74_0 : List am_E := [(0, .aload_n 0, 1, 0, 0, 0, 0), (1, .aload_n 1, 1, 1, 0, 0, 0), (2, .invokevirtual 67, 3, 75, 9014, 0, 0), (5, .aload_n 1, 1, 1, 0, 0, 0), (6, .getfield 71, 3, 1, 15, 0, 0), (9, .astore_n 2, 1, 2, 0, 0, 0), (10, .iconst 0, 1, 0, 0, 0, 0), (11, .istore_n 3, 1, 3, 0, 0, 0), (12, .iload_n 3, 1, 3, 0, 0, 0), (13, .aload_n 1, 1, 1, 0, 0, 0), (14, .getfield 75, 3, 1, 1, 0, 0), (17, .if_icmp .ge 201, 3, 218, 0, 0, 0), (20, .iload_n 3, 1, 3, 0, 0, 0), (21, .bipush 12, 2, 0, 0, 12, 0), (23, .if_icmp .ge 195, 3, 218, 0, 0, 0), (26, .aload_n 0, 1, 0, 0, 0, 0), (27, .getfield 11, 3, 9, 3, 0, 0), (30, .iload_n 3, 1, 3, 0, 0, 0), (31, .iconst 1, 1, 0, 0, 1, 0), (32, .iadd, 1, 0, 0, 0, 0), (33, .aaload, 1, 0, 0, 0, 0), (34, .astore 4, 2, 4, 0, 0, 0), (36, .aload_n 0, 1, 0, 0, 0, 0), (37, .getfield 11, 3, 9, 3, 0, 0), (40, .iload_n 3, 1, 3, 0, 0, 0), (41, .aaload, 1, 0, 0, 0, 0), (42, .iconst 0, 1, 0, 0, 0, 0), (43, .aload 4, 2, 4, 0, 0, 0), (45, .iconst 0, 1, 0, 0, 0, 0), (46, .bipush 16, 2, 0, 0, 16, 0), (48, .invokestatic 61, 3, 0, 1, 0, 0), (51, .aload_n 0, 1, 0, 0, 0, 0), (52, .aload_n 2, 1, 2, 0, 0, 0), (53, .iload_n 3, 1, 3, 0, 0, 0), (54, .aload 4, 2, 4, 0, 0, 0), (56, .invokevirtual 78, 3, 76, 9034, 0, 0), (59, .iconst 0, 1, 0, 0, 0, 0), (60, .istore 5, 2, 5, 0, 0, 0), (62, .iload 5, 2, 5, 0, 0, 0), (64, .aload_n 1, 1, 1, 0, 0, 0)]
def cd74_1 : List am_E := [(65, .getfield 82, 3, 1, 6, 0, 0), (68, .if_icmp .ge 71, 3, 139, 0, 0, 0), (71, .aload_n 1, 1, 1, 0, 0, 0), (72, .getfield 85, 3, 1, 12, 0, 0), (75, .iload 5, 2, 5, 0, 0, 0), (77, .iaload, 1, 0, 0, 0, 0), (78, .iload_n 3, 1, 3, 0, 0, 0), (79, .if_icmp .ne 54, 3, 133, 0, 0, 0), (82, .aload_n 0, 1, 0, 0, 0, 0), (83, .getfield 55, 3, 9, 2, 0, 0), (86, .iload 5, 2, 5, 0, 0, 0), (88, .ishr, 1, 0, 0, 0, 0), (89, .iconst 1, 1, 0, 0, 1, 0), (90, .iand, 1, 0, 0, 0, 0), (91, .ifCond .ne 42, 3, 133, 0, 0, 0), (94, .aload_n 0, 1, 0, 0, 0, 0), (95, .getfield 41, 3, 9, 11, 0, 0), (98, .aload_n 1, 1, 1, 0, 0, 0), (99, .aload_n 0, 1, 0, 0, 0, 0), (100, .getfield 51, 3, 9, 0, 0, 0), (103, .aload 4, 2, 4, 0, 0, 0), (105, .aload_n 1, 1, 1, 0, 0, 0), (106, .getfield 88, 3, 1, 10, 0, 0), (109, .iload 5, 2, 5, 0, 0, 0), (111, .iaload, 1, 0, 0, 0, 0), (112, .aload_n 1, 1, 1, 0, 0, 0), (113, .getfield 91, 3, 1, 11, 0, 0), (116, .iload 5, 2, 5, 0, 0, 0), (118, .iaload, 1, 0, 0, 0, 0), (119, .invokevirtual 94, 3, 56, 7054, 0, 0), (122, .aload_n 0, 1, 0, 0, 0, 0), (123, .aload_n 1, 1, 1, 0, 0, 0), (124, .invokevirtual 98, 3, 78, 9014, 0, 0), (127, .aload_n 0, 1, 0, 0, 0, 0), (128, .iload 5, 2, 5, 0, 0, 0), (130, .invokevirtual 101, 3, 77, 9014, 0, 0), (133, .iinc 5 1, 3, 5, 0, 1, 0), (136, .goto (-74), 3, 62, 0, 0, 0), (139, .iconst 0, 1, 0, 0, 0, 0), (140, .istore 5, 2, 5, 0, 0, 0)]
def cd74_2 : List am_E := [(142, .iload 5, 2, 5, 0, 0, 0), (144, .aload_n 2, 1, 2, 0, 0, 0), (145, .getfield 105, 3, 0, 0, 0, 0), (148, .if_icmp .ge 64, 3, 212, 0, 0, 0), (151, .aload_n 2, 1, 2, 0, 0, 0), (152, .getfield 110, 3, 0, 1, 0, 0), (155, .iload 5, 2, 5, 0, 0, 0), (157, .iaload, 1, 0, 0, 0, 0), (158, .iconst 1, 1, 0, 0, 1, 0), (159, .if_icmp .ne 47, 3, 206, 0, 0, 0), (162, .aload_n 2, 1, 2, 0, 0, 0), (163, .getfield 113, 3, 0, 4, 0, 0), (166, .iload 5, 2, 5, 0, 0, 0), (168, .iaload, 1, 0, 0, 0, 0), (169, .iload_n 3, 1, 3, 0, 0, 0), (170, .if_icmp .ne 36, 3, 206, 0, 0, 0), (173, .aload_n 0, 1, 0, 0, 0, 0), (174, .getfield 41, 3, 9, 11, 0, 0), (177, .aload_n 1, 1, 1, 0, 0, 0), (178, .aload_n 0, 1, 0, 0, 0, 0), (179, .getfield 51, 3, 9, 0, 0, 0), (182, .aload 4, 2, 4, 0, 0, 0), (184, .aload_n 2, 1, 2, 0, 0, 0), (185, .getfield 114, 3, 0, 2, 0, 0), (188, .iload 5, 2, 5, 0, 0, 0), (190, .iaload, 1, 0, 0, 0, 0), (191, .aload_n 2, 1, 2, 0, 0, 0), (192, .getfield 117, 3, 0, 3, 0, 0), (195, .iload 5, 2, 5, 0, 0, 0), (197, .iaload, 1, 0, 0, 0, 0), (198, .invokevirtual 94, 3, 56, 7054, 0, 0), (201, .aload_n 0, 1, 0, 0, 0, 0), (202, .aload_n 1, 1, 1, 0, 0, 0), (203, .invokevirtual 98, 3, 78, 9014, 0, 0), (206, .iinc 5 1, 3, 5, 0, 1, 0), (209, .goto (-67), 3, 142, 0, 0, 0), (212, .iinc 3 1, 3, 3, 0, 1, 0), (215, .goto (-203), 3, 12, 0, 0, 0), (218, .return_, 1, 0, 0, 0, 0)]
def cd74 : List am_E := cd74_0 ++ (cd74_1 ++ (cd74_2))
def am_w74 : List (List (Int32 × Nat) × Nat) := []
set_option maxRecDepth 100000 in
theorem kcd74_0 : cd74_0.all (am_chk am_w74 74) = true := by decide +kernel
set_option maxRecDepth 100000 in
theorem kcd74_1 : cd74_1.all (am_chk am_w74 74) = true := by decide +kernel
set_option maxRecDepth 100000 in
theorem kcd74_2 : cd74_2.all (am_chk am_w74 74) = true := by decide +kernel
theorem am_k74 : cd74.all (am_chk am_w74 74) = true := by
  simp only [cd74, List.all_append, kcd74_0, kcd74_1, kcd74_2, Bool.and_self]
theorem am_r74 : am_rtc 74 = 4 := by decide +kernel
theorem am_l74 : am_ml 74 = 6 := by decide +kernel
def am_s74_ (z : Nat) : Nat → List aV → aM → Option aR := fun j => (match Nat.beq j 56 with
  | true => F56 z
  | false => (match Nat.beq j 75 with
  | true => F75 z
  | false => (match Nat.beq j 76 with
  | true => F76 z
  | false => (match Nat.beq j 77 with
  | true => F77 z
  | false => (match Nat.beq j 78 with
  | true => F78 z
  | false => (fun _ _ => none))))))
theorem hs74 (z : Nat) : ∀ j2 : Nat, ∃ d2 : Nat, d2 + 1 ≤ 4 ∧ am_Snd d2 j2 (am_s74_ z j2) := by
  intro j2
  unfold am_s74_
  split
  · rename_i he
    rw [am_beq he]
    exact ⟨_, by decide, S56 z⟩
  · skip
    split
    · rename_i he
      rw [am_beq he]
      exact ⟨_, by decide, S75 z⟩
    · skip
      split
      · rename_i he
        rw [am_beq he]
        exact ⟨_, by decide, S76 z⟩
      · skip
        split
        · rename_i he
          rw [am_beq he]
          exact ⟨_, by decide, S77 z⟩
        · skip
          split
          · rename_i he
            rw [am_beq he]
            exact ⟨_, by decide, S78 z⟩
          · skip
            exact ⟨0, by decide, am_Snd_no j2⟩
def f74_142 (z : Nat) (k12 : Nat → Nat → Nat → Int32 → aM → Option aR) : Nat → Nat → Nat → Nat → Int32 → Nat → Int32 → aM → Option aR
  | 0, _, _, _, _, _, _, _ => none
  | n + 1, c0, c1, c2, x3, c4, x5, M =>
    if (M.1 c2 0) ≤ x5 then
      k12 c0 c1 c2 (x3 + (1 : Int32)) M
    else
      if am_inB x5 30 then
        if ¬ (M.1 (c2 + 1) x5.toNatClampNeg) = (1 : Int32) then
          f74_142 z k12 n c0 c1 c2 x3 c4 (x5 + (1 : Int32)) M
        else
          if am_inB x5 30 then
            if ¬ (M.1 (c2 + 4) x5.toNatClampNeg) = x3 then
              f74_142 z k12 n c0 c1 c2 x3 c4 (x5 + (1 : Int32)) M
            else
              if am_inB x5 30 then
                if am_inB x5 30 then
                  am_bv (f56 z (c0 + 32) c1 (M.1 c0 0) c4 (M.1 (c2 + 2) x5.toNatClampNeg) (M.1 (c2 + 3) x5.toNatClampNeg) M) fun M1 =>
                    am_bv (f78 z c0 c1 M1) fun M2 =>
                      f74_142 z k12 n c0 c1 c2 x3 c4 (x5 + (1 : Int32)) M2
                else
                  none
              else
                none
          else
            none
      else
        none
set_option maxRecDepth 100000 in
set_option maxHeartbeats 4000000 in
theorem e74_142 (z : Nat) (k12 : Nat → Nat → Nat → Int32 → aM → Option aR) (hk12 : ∀ (c0 : Nat) (c1 : Nat) (c2 : Nat) (x3 : Int32) (M : aM) (r : aR), k12 c0 c1 c2 x3 M = some r → am_Ev 4 74 12 [some (.inr (.inr (9, c0))), some (.inr (.inr (1, c1))), some (.inr (.inr (0, c2))), some (.inl x3), none, none] [] M r) : ∀ (n : Nat) (c0 : Nat) (c1 : Nat) (c2 : Nat) (x3 : Int32) (c4 : Nat) (x5 : Int32) (M : aM) (r : aR), f74_142 z k12 n c0 c1 c2 x3 c4 x5 M = some r → am_Ev 4 74 142 [some (.inr (.inr (9, c0))), some (.inr (.inr (1, c1))), some (.inr (.inr (0, c2))), some (.inl x3), some (.inr (.inr (21, c4))), some (.inl x5)] [] M r := by
  intro n
  induction n with
  | zero =>
    intro c0 c1 c2 x3 c4 x5 M r h
    cases h
  | succ n ih =>
    intro c0 c1 c2 x3 c4 x5 M r h
    exact am_Ev_seg (sem := am_s74_ z) (cut := ([(12, [true, true, true, true, false, false]), (142, [true, true, true, true, true, true])] : List (Nat × List Bool))) (hs74 z) am_r74 am_k74 (by rw [am_l74]; decide) (fun pc al st M => (match Nat.beq pc 12 with
      | true => (match al, st with
        | [some (.inr (.inr (9, c0))), some (.inr (.inr (1, c1))), some (.inr (.inr (0, c2))), some (.inl x3), none, none], [] => k12 c0 c1 c2 x3 M
        | _, _ => none)
      | false => (match Nat.beq pc 142 with
      | true => (match al, st with
        | [some (.inr (.inr (9, c0))), some (.inr (.inr (1, c1))), some (.inr (.inr (0, c2))), some (.inl x3), some (.inr (.inr (21, c4))), some (.inl x5)], [] => f74_142 z k12 n c0 c1 c2 x3 c4 x5 M
        | _, _ => none)
      | false => none))) 38 h (fun pc al st M hk => by
      try dsimp only at hk
      split at hk
      · rename_i he
        rw [am_beq he]
        split at hk
        · exact hk12 _ _ _ _ _ _ hk
        · cases hk
      · skip
        split at hk
        · rename_i he
          rw [am_beq he]
          split at hk
          · exact ih _ _ _ _ _ _ _ _ hk
          · cases hk
        · cases hk)
def f74_62 (z : Nat) (k12 : Nat → Nat → Nat → Int32 → aM → Option aR) : Nat → Nat → Nat → Nat → Int32 → Nat → Int32 → aM → Option aR
  | 0, _, _, _, _, _, _, _ => none
  | n + 1, c0, c1, c2, x3, c4, x5, M =>
    if (M.1 c1 6) ≤ x5 then
      f74_142 z k12 z c0 c1 c2 x3 c4 (0 : Int32) M
    else
      if am_inB x5 10 then
        if ¬ (M.1 (c1 + 6) x5.toNatClampNeg) = x3 then
          f74_62 z k12 n c0 c1 c2 x3 c4 (x5 + (1 : Int32)) M
        else
          if ¬ (((M.1 c0 2) >>> (x5 &&& 31)) &&& (1 : Int32)) = 0 then
            f74_62 z k12 n c0 c1 c2 x3 c4 (x5 + (1 : Int32)) M
          else
            if am_inB x5 10 then
              if am_inB x5 10 then
                am_bv (f56 z (c0 + 32) c1 (M.1 c0 0) c4 (M.1 (c1 + 4) x5.toNatClampNeg) (M.1 (c1 + 5) x5.toNatClampNeg) M) fun M1 =>
                  am_bv (f78 z c0 c1 M1) fun M2 =>
                    am_bv (f77 z c0 x5 M2) fun M3 =>
                      f74_62 z k12 n c0 c1 c2 x3 c4 (x5 + (1 : Int32)) M3
              else
                none
            else
              none
      else
        none
set_option maxRecDepth 100000 in
set_option maxHeartbeats 4000000 in
theorem e74_62 (z : Nat) (k12 : Nat → Nat → Nat → Int32 → aM → Option aR) (hk12 : ∀ (c0 : Nat) (c1 : Nat) (c2 : Nat) (x3 : Int32) (M : aM) (r : aR), k12 c0 c1 c2 x3 M = some r → am_Ev 4 74 12 [some (.inr (.inr (9, c0))), some (.inr (.inr (1, c1))), some (.inr (.inr (0, c2))), some (.inl x3), none, none] [] M r) : ∀ (n : Nat) (c0 : Nat) (c1 : Nat) (c2 : Nat) (x3 : Int32) (c4 : Nat) (x5 : Int32) (M : aM) (r : aR), f74_62 z k12 n c0 c1 c2 x3 c4 x5 M = some r → am_Ev 4 74 62 [some (.inr (.inr (9, c0))), some (.inr (.inr (1, c1))), some (.inr (.inr (0, c2))), some (.inl x3), some (.inr (.inr (21, c4))), some (.inl x5)] [] M r := by
  intro n
  induction n with
  | zero =>
    intro c0 c1 c2 x3 c4 x5 M r h
    cases h
  | succ n ih =>
    intro c0 c1 c2 x3 c4 x5 M r h
    exact am_Ev_seg (sem := am_s74_ z) (cut := ([(62, [true, true, true, true, true, true]), (142, [true, true, true, true, true, true])] : List (Nat × List Bool))) (hs74 z) am_r74 am_k74 (by rw [am_l74]; decide) (fun pc al st M => (match Nat.beq pc 62 with
      | true => (match al, st with
        | [some (.inr (.inr (9, c0))), some (.inr (.inr (1, c1))), some (.inr (.inr (0, c2))), some (.inl x3), some (.inr (.inr (21, c4))), some (.inl x5)], [] => f74_62 z k12 n c0 c1 c2 x3 c4 x5 M
        | _, _ => none)
      | false => (match Nat.beq pc 142 with
      | true => (match al, st with
        | [some (.inr (.inr (9, c0))), some (.inr (.inr (1, c1))), some (.inr (.inr (0, c2))), some (.inl x3), some (.inr (.inr (21, c4))), some (.inl x5)], [] => f74_142 z k12 z c0 c1 c2 x3 c4 x5 M
        | _, _ => none)
      | false => none))) 42 h (fun pc al st M hk => by
      try dsimp only at hk
      split at hk
      · rename_i he
        rw [am_beq he]
        split at hk
        · exact ih _ _ _ _ _ _ _ _ hk
        · cases hk
      · skip
        split at hk
        · rename_i he
          rw [am_beq he]
          split at hk
          · exact e74_142 z _ hk12 _ _ _ _ _ _ _ _ _ hk
          · cases hk
        · cases hk)
def f74_12 (z : Nat) : Nat → Nat → Nat → Nat → Int32 → aM → Option aR
  | 0, _, _, _, _, _ => none
  | n + 1, c0, c1, c2, x3, M =>
    if (M.1 c1 1) ≤ x3 then
      some (none, M)
    else
      if (12 : Int32) ≤ x3 then
        some (none, M)
      else
        if am_inB (x3 + (1 : Int32)) 13 then
          if am_inB x3 13 then
            if am_cpOk (0 : Int32) (0 : Int32) (16 : Int32) 16 16 then
              let I1 := am_ua M.1 ((c0 + 1) + (1 + 1 * (x3 + (1 : Int32)).toNatClampNeg)) (va_cpy (M.1 ((c0 + 1) + (1 + 1 * x3.toNatClampNeg))) (M.1 ((c0 + 1) + (1 + 1 * (x3 + (1 : Int32)).toNatClampNeg))) (0 : Int32).toNatClampNeg (0 : Int32).toNatClampNeg (16 : Int32).toNatClampNeg)
              am_bv (f76 z c0 c2 x3 ((c0 + 1) + (1 + 1 * (x3 + (1 : Int32)).toNatClampNeg)) (I1, M.2)) fun M2 =>
                f74_62 z (f74_12 z n) z c0 c1 c2 x3 ((c0 + 1) + (1 + 1 * (x3 + (1 : Int32)).toNatClampNeg)) (0 : Int32) M2
            else
              none
          else
            none
        else
          none
set_option maxRecDepth 100000 in
set_option maxHeartbeats 4000000 in
theorem e74_12 (z : Nat) : ∀ (n : Nat) (c0 : Nat) (c1 : Nat) (c2 : Nat) (x3 : Int32) (M : aM) (r : aR), f74_12 z n c0 c1 c2 x3 M = some r → am_Ev 4 74 12 [some (.inr (.inr (9, c0))), some (.inr (.inr (1, c1))), some (.inr (.inr (0, c2))), some (.inl x3), none, none] [] M r := by
  intro n
  induction n with
  | zero =>
    intro c0 c1 c2 x3 M r h
    cases h
  | succ n ih =>
    intro c0 c1 c2 x3 M r h
    exact am_Ev_seg (sem := am_s74_ z) (cut := ([(62, [true, true, true, true, true, true])] : List (Nat × List Bool))) (hs74 z) am_r74 am_k74 (by rw [am_l74]; decide) (fun pc al st M => (match Nat.beq pc 62 with
      | true => (match al, st with
        | [some (.inr (.inr (9, c0))), some (.inr (.inr (1, c1))), some (.inr (.inr (0, c2))), some (.inl x3), some (.inr (.inr (21, c4))), some (.inl x5)], [] => f74_62 z (f74_12 z n) z c0 c1 c2 x3 c4 x5 M
        | _, _ => none)
      | false => none)) 32 h (fun pc al st M hk => by
      try dsimp only at hk
      split at hk
      · rename_i he
        rw [am_beq he]
        split at hk
        · exact e74_62 z _ ih _ _ _ _ _ _ _ _ _ hk
        · cases hk
      · cases hk)
/-- ArgumentMender$Years.live(LArgumentMender$Cloth;)V -/
def f74 (z : Nat) (c0 : Nat) (c1 : Nat) (M : aM) : Option aR :=
  am_bv (f75 z c0 c1 M) fun M1 =>
    f74_12 z z c0 c1 (c1 + 9) (0 : Int32) M1
set_option maxRecDepth 100000 in
set_option maxHeartbeats 4000000 in
theorem e74 (z : Nat) : ∀ (c0 : Nat) (c1 : Nat) (M : aM) (r : aR), f74 z c0 c1 M = some r → am_Ev 4 74 0 [some (.inr (.inr (9, c0))), some (.inr (.inr (1, c1))), none, none, none, none] [] M r := by
  intro c0 c1 M r h
  exact am_Ev_seg (sem := am_s74_ z) (cut := ([(12, [true, true, true, true, false, false])] : List (Nat × List Bool))) (hs74 z) am_r74 am_k74 (by rw [am_l74]; decide) (fun pc al st M => (match Nat.beq pc 12 with
      | true => (match al, st with
        | [some (.inr (.inr (9, c0))), some (.inr (.inr (1, c1))), some (.inr (.inr (0, c2))), some (.inl x3), none, none], [] => f74_12 z z c0 c1 c2 x3 M
        | _, _ => none)
      | false => none)) 10 h (fun pc al st M hk => by
      try dsimp only at hk
      split at hk
      · rename_i he
        rw [am_beq he]
        split at hk
        · exact e74_12 z _ _ _ _ _ _ _ hk
        · cases hk
      · cases hk)
def F74 (z : Nat) (as : List aV) (M : aM) : Option aR := match as with
  | [.inr (.inr (9, c0)), .inr (.inr (1, c1))] => f74 z c0 c1 M
  | _ => none
theorem S74 (z : Nat) : am_Snd 4 74 (F74 z) := am_meth (by decide +kernel) (fun as M r has h => by
    rw [am_l74]
    unfold F74 at h
    split at h
    · exact ⟨Nat.le_of_ble_eq_true rfl, e74 z _ _ _ _ h⟩
    · cases h)
