def cd218_0 : List am_E := [(0, .iconst 0, 1, 0, 0, 0, 0), (1, .istore_n 3, 1, 3, 0, 0, 0), (2, .iload_n 3, 1, 3, 0, 0, 0), (3, .bipush 16, 2, 0, 0, 16, 0), (5, .if_icmp .ge 16, 3, 21, 0, 0, 0), (8, .aload_n 0, 1, 0, 0, 0, 0), (9, .getfield 40, 3, 11, 20, 0, 0), (12, .iload_n 3, 1, 3, 0, 0, 0), (13, .iconst 0, 1, 0, 0, 0, 0), (14, .iastore, 1, 0, 0, 0, 0), (15, .iinc 3 1, 3, 3, 0, 1, 0), (18, .goto (-16), 3, 2, 0, 0, 0), (21, .iconst 0, 1, 0, 0, 0, 0), (22, .istore_n 3, 1, 3, 0, 0, 0), (23, .iload_n 3, 1, 3, 0, 0, 0), (24, .bipush 8, 2, 0, 0, 8, 0), (26, .if_icmp .ge 16, 3, 42, 0, 0, 0), (29, .aload_n 0, 1, 0, 0, 0, 0), (30, .getfield 43, 3, 11, 21, 0, 0), (33, .iload_n 3, 1, 3, 0, 0, 0), (34, .iconst 0, 1, 0, 0, 0, 0), (35, .iastore, 1, 0, 0, 0, 0), (36, .iinc 3 1, 3, 3, 0, 1, 0), (39, .goto (-16), 3, 23, 0, 0, 0), (42, .aload_n 0, 1, 0, 0, 0, 0), (43, .iconst 0, 1, 0, 0, 0, 0), (44, .putfield 278, 3, 11, 22, 0, 0), (47, .aload_n 0, 1, 0, 0, 0, 0), (48, .iconst 0, 1, 0, 0, 0, 0), (49, .putfield 294, 3, 11, 23, 0, 0), (52, .aload_n 0, 1, 0, 0, 0, 0), (53, .getfield 43, 3, 11, 21, 0, 0), (56, .iload_n 1, 1, 1, 0, 0, 0), (57, .iload_n 2, 1, 2, 0, 0, 0), (58, .iastore, 1, 0, 0, 0, 0), (59, .aload_n 0, 1, 0, 0, 0, 0), (60, .invokevirtual 115, 3, 177, 11000, 0, 0), (63, .iconst 1, 1, 0, 0, 1, 0), (64, .isub, 1, 0, 0, 0, 0), (65, .istore_n 3, 1, 3, 0, 0, 0)]
def cd218_1 : List am_E := [(66, .iload_n 3, 1, 3, 0, 0, 0), (67, .ifCond .lt 14, 3, 81, 0, 0, 0), (70, .aload_n 0, 1, 0, 0, 0, 0), (71, .iload_n 3, 1, 3, 0, 0, 0), (72, .invokevirtual 297, 3, 217, 11014, 0, 0), (75, .iinc 3 (-1), 3, 3, 0, (-1), 0), (78, .goto (-12), 3, 66, 0, 0, 0), (81, .return_, 1, 0, 0, 0, 0)]
def cd218 : List am_E := cd218_0 ++ (cd218_1)
def am_w218 : List (List (Int32 × Nat) × Nat) := []
set_option maxRecDepth 100000 in
theorem kcd218_0 : cd218_0.all (am_chk am_w218 218) = true := by decide +kernel
set_option maxRecDepth 100000 in
theorem kcd218_1 : cd218_1.all (am_chk am_w218 218) = true := by decide +kernel
theorem am_k218 : cd218.all (am_chk am_w218 218) = true := by
  simp only [cd218, List.all_append, kcd218_0, kcd218_1, Bool.and_self]
theorem am_r218 : am_rtc 218 = 4 := by decide +kernel
theorem am_l218 : am_ml 218 = 4 := by decide +kernel
def am_s218_ (z : Nat) : Nat → List aV → aM → Option aR := (am_sm 177 (F177 z) (am_sm 217 (F217 z) am_s0))
theorem hs218 (z : Nat) : ∀ j2 : Nat, ∃ d2 : Nat, d2 + 1 ≤ 6 ∧ am_Snd d2 j2 (am_s218_ z j2) := (am_sm_ok (S177 z) (by decide) (am_sm_ok (S217 z) (by decide) (am_s0_ok (by decide))))
def f218_66 (z : Nat) : Nat → Int32 → aM → Option aR
  | 0, _, _ => none
  | n + 1, x3, M =>
    if x3 < 0 then
      some (none, M)
    else
      am_bv (f217 z x3 M) fun M1 =>
        f218_66 z n (x3 + (-1 : Int32)) M1
set_option maxRecDepth 100000 in
set_option maxHeartbeats 4000000 in
theorem e218_66 (z : Nat) : ∀ (n : Nat) (x3 : Int32) (M : aM) (r : aR), f218_66 z n x3 M = some r → am_Ev 6 218 66 [some (.inr (.inr (11, 205))), none, none, some (.inl x3)] [] M r := by
  intro n
  induction n with
  | zero =>
    intro x3 M r h
    cases h
  | succ n ih =>
    intro x3 M r h
    exact am_Ev_seg (sem := am_s218_ z) (cut := ([(66, [true, false, false, true])] : List (Nat × List Bool))) (hs218 z) am_r218 am_k218 (by rw [am_l218]; decide) (am_kc 66 (fun al st M => match al, st with
      | [some (.inr (.inr (11, 205))), none, none, some (.inl x3)], [] => f218_66 z n x3 M
      | _, _ => none) am_k0) 9 h (am_kc_ok (fun al st M hk => by
      split at hk
      · exact ih _ _ _ hk
      · cases hk) am_k0_ok)
def f218_23 (z : Nat) : Nat → Int32 → Int32 → Int32 → aM → Option aR
  | 0, _, _, _, _ => none
  | n + 1, x1, x2, x3, M =>
    if (8 : Int32) ≤ x3 then
      let I1 := am_u M.1 205 22 (0 : Int32)
      let I2 := am_u I1 205 23 (0 : Int32)
      if am_inB x1 8 then
        let I3 := am_u I2 215 x1.toNatClampNeg x2
        am_bi (f177 z (I3, M.2)) fun v5 M4 =>
          f218_66 z z (v5 - (1 : Int32)) M4
      else
        none
    else
      if am_inB x3 8 then
        let I6 := am_u M.1 215 x3.toNatClampNeg (0 : Int32)
        f218_23 z n x1 x2 (x3 + (1 : Int32)) (I6, M.2)
      else
        none
set_option maxRecDepth 100000 in
set_option maxHeartbeats 4000000 in
theorem e218_23 (z : Nat) : ∀ (n : Nat) (x1 : Int32) (x2 : Int32) (x3 : Int32) (M : aM) (r : aR), f218_23 z n x1 x2 x3 M = some r → am_Ev 6 218 23 [some (.inr (.inr (11, 205))), some (.inl x1), some (.inl x2), some (.inl x3)] [] M r := by
  intro n
  induction n with
  | zero =>
    intro x1 x2 x3 M r h
    cases h
  | succ n ih =>
    intro x1 x2 x3 M r h
    exact am_Ev_seg (sem := am_s218_ z) (cut := ([(23, [true, true, true, true]), (66, [true, false, false, true])] : List (Nat × List Bool))) (hs218 z) am_r218 am_k218 (by rw [am_l218]; decide) (am_kc 23 (fun al st M => match al, st with
      | [some (.inr (.inr (11, 205))), some (.inl x1), some (.inl x2), some (.inl x3)], [] => f218_23 z n x1 x2 x3 M
      | _, _ => none) (am_kc 66 (fun al st M => match al, st with
      | [some (.inr (.inr (11, 205))), none, none, some (.inl x3)], [] => f218_66 z z x3 M
      | _, _ => none) am_k0)) 21 h (am_kc_ok (fun al st M hk => by
      split at hk
      · exact ih _ _ _ _ _ hk
      · cases hk) (am_kc_ok (fun al st M hk => by
      split at hk
      · exact e218_66 z _ _ _ _ hk
      · cases hk) am_k0_ok))
def f218_2 (z : Nat) : Nat → Int32 → Int32 → Int32 → aM → Option aR
  | 0, _, _, _, _ => none
  | n + 1, x1, x2, x3, M =>
    if (16 : Int32) ≤ x3 then
      f218_23 z z x1 x2 (0 : Int32) M
    else
      if am_inB x3 16 then
        let I1 := am_u M.1 214 x3.toNatClampNeg (0 : Int32)
        f218_2 z n x1 x2 (x3 + (1 : Int32)) (I1, M.2)
      else
        none
set_option maxRecDepth 100000 in
set_option maxHeartbeats 4000000 in
theorem e218_2 (z : Nat) : ∀ (n : Nat) (x1 : Int32) (x2 : Int32) (x3 : Int32) (M : aM) (r : aR), f218_2 z n x1 x2 x3 M = some r → am_Ev 6 218 2 [some (.inr (.inr (11, 205))), some (.inl x1), some (.inl x2), some (.inl x3)] [] M r := by
  intro n
  induction n with
  | zero =>
    intro x1 x2 x3 M r h
    cases h
  | succ n ih =>
    intro x1 x2 x3 M r h
    exact am_Ev_seg (sem := am_s218_ z) (cut := ([(2, [true, true, true, true]), (23, [true, true, true, true])] : List (Nat × List Bool))) (hs218 z) am_r218 am_k218 (by rw [am_l218]; decide) (am_kc 2 (fun al st M => match al, st with
      | [some (.inr (.inr (11, 205))), some (.inl x1), some (.inl x2), some (.inl x3)], [] => f218_2 z n x1 x2 x3 M
      | _, _ => none) (am_kc 23 (fun al st M => match al, st with
      | [some (.inr (.inr (11, 205))), some (.inl x1), some (.inl x2), some (.inl x3)], [] => f218_23 z z x1 x2 x3 M
      | _, _ => none) am_k0)) 12 h (am_kc_ok (fun al st M hk => by
      split at hk
      · exact ih _ _ _ _ _ hk
      · cases hk) (am_kc_ok (fun al st M hk => by
      split at hk
      · exact e218_23 z _ _ _ _ _ _ hk
      · cases hk) am_k0_ok))
/-- ArgumentMenderModel.pullOnce(II)V -/
def f218 (z : Nat) (x1 : Int32) (x2 : Int32) (M : aM) : Option aR :=
  f218_2 z z x1 x2 (0 : Int32) M
set_option maxRecDepth 100000 in
set_option maxHeartbeats 4000000 in
theorem e218 (z : Nat) : ∀ (x1 : Int32) (x2 : Int32) (M : aM) (r : aR), f218 z x1 x2 M = some r → am_Ev 6 218 0 [some (.inr (.inr (11, 205))), some (.inl x1), some (.inl x2), none] [] M r := by
  intro x1 x2 M r h
  exact am_Ev_seg (sem := am_s218_ z) (cut := ([(2, [true, true, true, true])] : List (Nat × List Bool))) (hs218 z) am_r218 am_k218 (by rw [am_l218]; decide) (am_kc 2 (fun al st M => match al, st with
      | [some (.inr (.inr (11, 205))), some (.inl x1), some (.inl x2), some (.inl x3)], [] => f218_2 z z x1 x2 x3 M
      | _, _ => none) am_k0) 4 h (am_kc_ok (fun al st M hk => by
      split at hk
      · exact e218_2 z _ _ _ _ _ _ hk
      · cases hk) am_k0_ok)
def F218 (z : Nat) (as : List aV) (M : aM) : Option aR := match as with
  | [.inr (.inr (11, 205)), .inl x1, .inl x2] => f218 z x1 x2 M
  | _ => none
theorem S218 (z : Nat) : am_Snd 6 218 (F218 z) := am_meth (by decide +kernel) (fun as M r has h => by
    rw [am_l218]
    unfold F218 at h
    split at h
    · exact ⟨Nat.le_of_ble_eq_true rfl, e218 z _ _ _ _ h⟩
    · cases h)
def cd219_0 : List am_E := [(0, .iconst 0, 1, 0, 0, 0, 0), (1, .istore_n 1, 1, 1, 0, 0, 0), (2, .iconst 0, 1, 0, 0, 0, 0), (3, .istore_n 2, 1, 2, 0, 0, 0), (4, .iload_n 2, 1, 2, 0, 0, 0), (5, .aload_n 0, 1, 0, 0, 0, 0), (6, .invokevirtual 118, 3, 178, 11000, 0, 0), (9, .if_icmp .ge 30, 3, 39, 0, 0, 0), (12, .aload_n 0, 1, 0, 0, 0, 0), (13, .getfield 40, 3, 11, 20, 0, 0), (16, .iload_n 2, 1, 2, 0, 0, 0), (17, .iaload, 1, 0, 0, 0, 0), (18, .aload_n 0, 1, 0, 0, 0, 0), (19, .getfield 37, 3, 11, 19, 0, 0), (22, .iload_n 2, 1, 2, 0, 0, 0), (23, .iaload, 1, 0, 0, 0, 0), (24, .if_icmp .le 9, 3, 33, 0, 0, 0), (27, .iload_n 1, 1, 1, 0, 0, 0), (28, .iconst 1, 1, 0, 0, 1, 0), (29, .iload_n 2, 1, 2, 0, 0, 0), (30, .ishl, 1, 0, 0, 0, 0), (31, .ior, 1, 0, 0, 0, 0), (32, .istore_n 1, 1, 1, 0, 0, 0), (33, .iinc 2 1, 3, 2, 0, 1, 0), (36, .goto (-32), 3, 4, 0, 0, 0), (39, .iconst 0, 1, 0, 0, 0, 0), (40, .istore_n 2, 1, 2, 0, 0, 0), (41, .iload_n 2, 1, 2, 0, 0, 0), (42, .aload_n 0, 1, 0, 0, 0, 0), (43, .invokevirtual 118, 3, 178, 11000, 0, 0), (46, .if_icmp .ge 25, 3, 71, 0, 0, 0), (49, .iload_n 1, 1, 1, 0, 0, 0), (50, .iload_n 2, 1, 2, 0, 0, 0), (51, .invokestatic 300, 3, 172, 25, 0, 0), (54, .iconst 1, 1, 0, 0, 1, 0), (55, .if_icmp .ne 10, 3, 65, 0, 0, 0), (58, .aload_n 0, 1, 0, 0, 0, 0), (59, .getfield 37, 3, 11, 19, 0, 0), (62, .iload_n 2, 1, 2, 0, 0, 0), (63, .iconst 0, 1, 0, 0, 0, 0)]
def cd219_1 : List am_E := [(64, .iastore, 1, 0, 0, 0, 0), (65, .iinc 2 1, 3, 2, 0, 1, 0), (68, .goto (-27), 3, 41, 0, 0, 0), (71, .iload_n 1, 1, 1, 0, 0, 0), (72, .ireturn, 1, 0, 0, 0, 0)]
def cd219 : List am_E := cd219_0 ++ (cd219_1)
def am_w219 : List (List (Int32 × Nat) × Nat) := []
set_option maxRecDepth 100000 in
theorem kcd219_0 : cd219_0.all (am_chk am_w219 219) = true := by decide +kernel
set_option maxRecDepth 100000 in
theorem kcd219_1 : cd219_1.all (am_chk am_w219 219) = true := by decide +kernel
theorem am_k219 : cd219.all (am_chk am_w219 219) = true := by
  simp only [cd219, List.all_append, kcd219_0, kcd219_1, Bool.and_self]
theorem am_r219 : am_rtc 219 = 0 := by decide +kernel
theorem am_l219 : am_ml 219 = 3 := by decide +kernel
def am_s219_ (z : Nat) : Nat → List aV → aM → Option aR := (am_sm 172 (F172 z) (am_sm 178 (F178 z) am_s0))
theorem hs219 (z : Nat) : ∀ j2 : Nat, ∃ d2 : Nat, d2 + 1 ≤ 2 ∧ am_Snd d2 j2 (am_s219_ z j2) := (am_sm_ok (S172 z) (by decide) (am_sm_ok (S178 z) (by decide) (am_s0_ok (by decide))))
def f219_41 (z : Nat) : Nat → Int32 → Int32 → aM → Option aR
  | 0, _, _, _ => none
  | n + 1, x1, x2, M =>
    am_bi (f178 z M) fun v2 M1 =>
      if v2 ≤ x2 then
        some (some (.inl x1), M1)
      else
        am_bi (f172 z x1 x2 M1) fun v4 M3 =>
          if ¬ v4 = (1 : Int32) then
            f219_41 z n x1 (x2 + (1 : Int32)) M3
          else
            if am_inB x2 16 then
              let I5 := am_u M3.1 213 x2.toNatClampNeg (0 : Int32)
              f219_41 z n x1 (x2 + (1 : Int32)) (I5, M3.2)
            else
              none
set_option maxRecDepth 100000 in
set_option maxHeartbeats 4000000 in
theorem e219_41 (z : Nat) : ∀ (n : Nat) (x1 : Int32) (x2 : Int32) (M : aM) (r : aR), f219_41 z n x1 x2 M = some r → am_Ev 2 219 41 [some (.inr (.inr (11, 205))), some (.inl x1), some (.inl x2)] [] M r := by
  intro n
  induction n with
  | zero =>
    intro x1 x2 M r h
    cases h
  | succ n ih =>
    intro x1 x2 M r h
    exact am_Ev_seg (sem := am_s219_ z) (cut := ([(41, [true, true, true])] : List (Nat × List Bool))) (hs219 z) am_r219 am_k219 (by rw [am_l219]; decide) (am_kc 41 (fun al st M => match al, st with
      | [some (.inr (.inr (11, 205))), some (.inl x1), some (.inl x2)], [] => f219_41 z n x1 x2 M
      | _, _ => none) am_k0) 18 h (am_kc_ok (fun al st M hk => by
      split at hk
      · exact ih _ _ _ _ hk
      · cases hk) am_k0_ok)
def f219_4 (z : Nat) : Nat → Int32 → Int32 → aM → Option aR
  | 0, _, _, _ => none
  | n + 1, x1, x2, M =>
    am_bi (f178 z M) fun v2 M1 =>
      if v2 ≤ x2 then
        f219_41 z z x1 (0 : Int32) M1
      else
        if am_inB x2 16 then
          if am_inB x2 16 then
            if (M1.1 214 x2.toNatClampNeg) ≤ (M1.1 213 x2.toNatClampNeg) then
              f219_4 z n x1 (x2 + (1 : Int32)) M1
            else
              f219_4 z n (x1 ||| ((1 : Int32) <<< (x2 &&& 31))) (x2 + (1 : Int32)) M1
          else
            none
        else
          none
set_option maxRecDepth 100000 in
set_option maxHeartbeats 4000000 in
theorem e219_4 (z : Nat) : ∀ (n : Nat) (x1 : Int32) (x2 : Int32) (M : aM) (r : aR), f219_4 z n x1 x2 M = some r → am_Ev 2 219 4 [some (.inr (.inr (11, 205))), some (.inl x1), some (.inl x2)] [] M r := by
  intro n
  induction n with
  | zero =>
    intro x1 x2 M r h
    cases h
  | succ n ih =>
    intro x1 x2 M r h
    exact am_Ev_seg (sem := am_s219_ z) (cut := ([(4, [true, true, true]), (41, [true, true, true])] : List (Nat × List Bool))) (hs219 z) am_r219 am_k219 (by rw [am_l219]; decide) (am_kc 4 (fun al st M => match al, st with
      | [some (.inr (.inr (11, 205))), some (.inl x1), some (.inl x2)], [] => f219_4 z n x1 x2 M
      | _, _ => none) (am_kc 41 (fun al st M => match al, st with
      | [some (.inr (.inr (11, 205))), some (.inl x1), some (.inl x2)], [] => f219_41 z z x1 x2 M
      | _, _ => none) am_k0)) 23 h (am_kc_ok (fun al st M hk => by
      split at hk
      · exact ih _ _ _ _ hk
      · cases hk) (am_kc_ok (fun al st M hk => by
      split at hk
      · exact e219_41 z _ _ _ _ _ hk
      · cases hk) am_k0_ok))
/-- ArgumentMenderModel.tearNow()I -/
def f219 (z : Nat) (M : aM) : Option aR :=
  f219_4 z z (0 : Int32) (0 : Int32) M
set_option maxRecDepth 100000 in
set_option maxHeartbeats 4000000 in
theorem e219 (z : Nat) : ∀ (M : aM) (r : aR), f219 z  M = some r → am_Ev 2 219 0 [some (.inr (.inr (11, 205))), none, none] [] M r := by
  intro  M r h
  exact am_Ev_seg (sem := am_s219_ z) (cut := ([(4, [true, true, true])] : List (Nat × List Bool))) (hs219 z) am_r219 am_k219 (by rw [am_l219]; decide) (am_kc 4 (fun al st M => match al, st with
      | [some (.inr (.inr (11, 205))), some (.inl x1), some (.inl x2)], [] => f219_4 z z x1 x2 M
      | _, _ => none) am_k0) 6 h (am_kc_ok (fun al st M hk => by
      split at hk
      · exact e219_4 z _ _ _ _ _ hk
      · cases hk) am_k0_ok)
def F219 (z : Nat) (as : List aV) (M : aM) : Option aR := match as with
  | [.inr (.inr (11, 205))] => f219 z  M
  | _ => none
theorem S219 (z : Nat) : am_Snd 2 219 (F219 z) := am_meth (by decide +kernel) (fun as M r has h => by
    rw [am_l219]
    unfold F219 at h
    split at h
    · exact ⟨Nat.le_of_ble_eq_true rfl, e219 z _ _ h⟩
    · cases h)
def cd220_0 : List am_E := [(0, .aload_n 0, 1, 0, 0, 0, 0), (1, .iconst 0, 1, 0, 0, 0, 0), (2, .putfield 303, 3, 11, 24, 0, 0), (5, .aload_n 0, 1, 0, 0, 0, 0), (6, .iconst 0, 1, 0, 0, 0, 0), (7, .putfield 306, 3, 11, 25, 0, 0), (10, .iconst 1, 1, 0, 0, 1, 0), (11, .istore_n 3, 1, 3, 0, 0, 0), (12, .iload_n 3, 1, 3, 0, 0, 0), (13, .ifCond .eq 37, 3, 50, 0, 0, 0), (16, .aload_n 0, 1, 0, 0, 0, 0), (17, .iload_n 1, 1, 1, 0, 0, 0), (18, .iload_n 2, 1, 2, 0, 0, 0), (19, .invokevirtual 309, 3, 218, 11024, 0, 0), (22, .aload_n 0, 1, 0, 0, 0, 0), (23, .dup, 1, 0, 0, 0, 0), (24, .getfield 303, 3, 11, 24, 0, 0), (27, .iconst 1, 1, 0, 0, 1, 0), (28, .iadd, 1, 0, 0, 0, 0), (29, .putfield 303, 3, 11, 24, 0, 0), (32, .aload_n 0, 1, 0, 0, 0, 0), (33, .invokevirtual 313, 3, 219, 11000, 0, 0), (36, .istore_n 3, 1, 3, 0, 0, 0), (37, .aload_n 0, 1, 0, 0, 0, 0), (38, .dup, 1, 0, 0, 0, 0), (39, .getfield 306, 3, 11, 25, 0, 0), (42, .iload_n 3, 1, 3, 0, 0, 0), (43, .ior, 1, 0, 0, 0, 0), (44, .putfield 306, 3, 11, 25, 0, 0), (47, .goto (-35), 3, 12, 0, 0, 0), (50, .iconst 0, 1, 0, 0, 0, 0), (51, .istore 4, 2, 4, 0, 0, 0), (53, .iload 4, 2, 4, 0, 0, 0), (55, .aload_n 0, 1, 0, 0, 0, 0), (56, .invokevirtual 118, 3, 178, 11000, 0, 0), (59, .if_icmp .ge 91, 3, 150, 0, 0, 0), (62, .aload_n 0, 1, 0, 0, 0, 0), (63, .getfield 40, 3, 11, 20, 0, 0), (66, .iload 4, 2, 4, 0, 0, 0), (68, .iaload, 1, 0, 0, 0, 0)]
def cd220_1 : List am_E := [(69, .iconst 5, 1, 0, 0, 5, 0), (70, .idiv, 1, 0, 0, 0, 0), (71, .istore 5, 2, 5, 0, 0, 0), (73, .iload 5, 2, 5, 0, 0, 0), (75, .ifCond .le 28, 3, 103, 0, 0, 0), (78, .aload_n 0, 1, 0, 0, 0, 0), (79, .getfield 37, 3, 11, 19, 0, 0), (82, .iload 4, 2, 4, 0, 0, 0), (84, .iaload, 1, 0, 0, 0, 0), (85, .iload 5, 2, 5, 0, 0, 0), (87, .if_icmp .ne 16, 3, 103, 0, 0, 0), (90, .aload_n 0, 1, 0, 0, 0, 0), (91, .dup, 1, 0, 0, 0, 0), (92, .getfield 306, 3, 11, 25, 0, 0), (95, .iconst 1, 1, 0, 0, 1, 0), (96, .iload 4, 2, 4, 0, 0, 0), (98, .ishl, 1, 0, 0, 0, 0), (99, .ior, 1, 0, 0, 0, 0), (100, .putfield 306, 3, 11, 25, 0, 0), (103, .aload_n 0, 1, 0, 0, 0, 0), (104, .getfield 37, 3, 11, 19, 0, 0), (107, .iload 4, 2, 4, 0, 0, 0), (109, .dup2, 1, 0, 0, 0, 0), (110, .iaload, 1, 0, 0, 0, 0), (111, .iload 5, 2, 5, 0, 0, 0), (113, .isub, 1, 0, 0, 0, 0), (114, .iastore, 1, 0, 0, 0, 0), (115, .aload_n 0, 1, 0, 0, 0, 0), (116, .getfield 46, 3, 11, 26, 0, 0), (119, .iload 4, 2, 4, 0, 0, 0), (121, .dup2, 1, 0, 0, 0, 0), (122, .iaload, 1, 0, 0, 0, 0), (123, .iload 5, 2, 5, 0, 0, 0), (125, .iadd, 1, 0, 0, 0, 0), (126, .iastore, 1, 0, 0, 0, 0), (127, .aload_n 0, 1, 0, 0, 0, 0), (128, .getfield 49, 3, 11, 27, 0, 0), (131, .iload 4, 2, 4, 0, 0, 0), (133, .dup2, 1, 0, 0, 0, 0), (134, .iaload, 1, 0, 0, 0, 0)]
def cd220_2 : List am_E := [(135, .aload_n 0, 1, 0, 0, 0, 0), (136, .getfield 40, 3, 11, 20, 0, 0), (139, .iload 4, 2, 4, 0, 0, 0), (141, .iaload, 1, 0, 0, 0, 0), (142, .iadd, 1, 0, 0, 0, 0), (143, .iastore, 1, 0, 0, 0, 0), (144, .iinc 4 1, 3, 4, 0, 1, 0), (147, .goto (-94), 3, 53, 0, 0, 0), (150, .return_, 1, 0, 0, 0, 0)]
def cd220 : List am_E := cd220_0 ++ (cd220_1 ++ (cd220_2))
def am_w220 : List (List (Int32 × Nat) × Nat) := []
set_option maxRecDepth 100000 in
theorem kcd220_0 : cd220_0.all (am_chk am_w220 220) = true := by decide +kernel
set_option maxRecDepth 100000 in
theorem kcd220_1 : cd220_1.all (am_chk am_w220 220) = true := by decide +kernel
set_option maxRecDepth 100000 in
theorem kcd220_2 : cd220_2.all (am_chk am_w220 220) = true := by decide +kernel
theorem am_k220 : cd220.all (am_chk am_w220 220) = true := by
  simp only [cd220, List.all_append, kcd220_0, kcd220_1, kcd220_2, Bool.and_self]
theorem am_r220 : am_rtc 220 = 4 := by decide +kernel
theorem am_l220 : am_ml 220 = 6 := by decide +kernel
def am_s220_ (z : Nat) : Nat → List aV → aM → Option aR := (am_sm 178 (F178 z) (am_sm 218 (F218 z) (am_sm 219 (F219 z) am_s0)))
theorem hs220 (z : Nat) : ∀ j2 : Nat, ∃ d2 : Nat, d2 + 1 ≤ 7 ∧ am_Snd d2 j2 (am_s220_ z j2) := (am_sm_ok (S178 z) (by decide) (am_sm_ok (S218 z) (by decide) (am_sm_ok (S219 z) (by decide) (am_s0_ok (by decide)))))
def f220_144 (z : Nat) (k53 : Int32 → aM → Option aR)  (x4 : Int32) (M : aM) : Option aR :=
  k53 (x4 + (1 : Int32)) M
set_option maxRecDepth 100000 in
set_option maxHeartbeats 4000000 in
theorem e220_144 (z : Nat) (k53 : Int32 → aM → Option aR) (hk53 : ∀ (x4 : Int32) (M : aM) (r : aR), k53 x4 M = some r → am_Ev 7 220 53 [some (.inr (.inr (11, 205))), none, none, none, some (.inl x4), none] [] M r) : ∀ (x4 : Int32) (M : aM) (r : aR), f220_144 z k53 x4 M = some r → am_Ev 7 220 144 [some (.inr (.inr (11, 205))), none, none, none, some (.inl x4), none] [] M r := by
  intro x4 M r h
  exact am_Ev_seg (sem := am_s220_ z) (cut := ([(53, [true, false, false, false, true, false])] : List (Nat × List Bool))) (hs220 z) am_r220 am_k220 (by rw [am_l220]; decide) (am_kc 53 (fun al st M => match al, st with
      | [some (.inr (.inr (11, 205))), none, none, none, some (.inl x4), none], [] => k53 x4 M
      | _, _ => none) am_k0) 4 h (am_kc_ok (fun al st M hk => by
      split at hk
      · exact hk53 _ _ _ hk
      · cases hk) am_k0_ok)
def f220_53 (z : Nat) : Nat → Int32 → aM → Option aR
  | 0, _, _ => none
  | n + 1, x4, M =>
    am_bi (f178 z M) fun v2 M1 =>
      if v2 ≤ x4 then
        some (none, M1)
      else
        if am_inB x4 16 then
          if (5 : Int32) = 0 then
            none
          else
            if ((M1.1 214 x4.toNatClampNeg) / (5 : Int32)) ≤ 0 then
              if am_inB x4 16 then
                if am_inB x4 16 then
                  let I3 := am_u M1.1 213 x4.toNatClampNeg ((M1.1 213 x4.toNatClampNeg) - ((M1.1 214 x4.toNatClampNeg) / (5 : Int32)))
                  if am_inB x4 16 then
                    if am_inB x4 16 then
                      let I4 := am_u I3 216 x4.toNatClampNeg ((I3 216 x4.toNatClampNeg) + ((M1.1 214 x4.toNatClampNeg) / (5 : Int32)))
                      if am_inB x4 16 then
                        if am_inB x4 16 then
                          if am_inB x4 16 then
                            let I5 := am_u I4 217 x4.toNatClampNeg ((I4 217 x4.toNatClampNeg) + (I4 214 x4.toNatClampNeg))
                            f220_144 z (f220_53 z n) x4 (I5, M1.2)
                          else
                            none
                        else
                          none
                      else
                        none
                    else
                      none
                  else
                    none
                else
                  none
              else
                none
            else
              if am_inB x4 16 then
                if ¬ (M1.1 213 x4.toNatClampNeg) = ((M1.1 214 x4.toNatClampNeg) / (5 : Int32)) then
                  if am_inB x4 16 then
                    if am_inB x4 16 then
                      let I6 := am_u M1.1 213 x4.toNatClampNeg ((M1.1 213 x4.toNatClampNeg) - ((M1.1 214 x4.toNatClampNeg) / (5 : Int32)))
                      if am_inB x4 16 then
                        if am_inB x4 16 then
                          let I7 := am_u I6 216 x4.toNatClampNeg ((I6 216 x4.toNatClampNeg) + ((M1.1 214 x4.toNatClampNeg) / (5 : Int32)))
                          if am_inB x4 16 then
                            if am_inB x4 16 then
                              if am_inB x4 16 then
                                let I8 := am_u I7 217 x4.toNatClampNeg ((I7 217 x4.toNatClampNeg) + (I7 214 x4.toNatClampNeg))
                                f220_144 z (f220_53 z n) x4 (I8, M1.2)
                              else
                                none
                            else
                              none
                          else
                            none
                        else
                          none
                      else
                        none
                    else
                      none
                  else
                    none
                else
                  let I9 := am_u M1.1 205 25 ((M1.1 205 25) ||| ((1 : Int32) <<< (x4 &&& 31)))
                  if am_inB x4 16 then
                    if am_inB x4 16 then
                      let I10 := am_u I9 213 x4.toNatClampNeg ((I9 213 x4.toNatClampNeg) - ((M1.1 214 x4.toNatClampNeg) / (5 : Int32)))
                      if am_inB x4 16 then
                        if am_inB x4 16 then
                          let I11 := am_u I10 216 x4.toNatClampNeg ((I10 216 x4.toNatClampNeg) + ((M1.1 214 x4.toNatClampNeg) / (5 : Int32)))
                          if am_inB x4 16 then
                            if am_inB x4 16 then
                              if am_inB x4 16 then
                                let I12 := am_u I11 217 x4.toNatClampNeg ((I11 217 x4.toNatClampNeg) + (I11 214 x4.toNatClampNeg))
                                f220_144 z (f220_53 z n) x4 (I12, M1.2)
                              else
                                none
                            else
                              none
                          else
                            none
                        else
                          none
                      else
                        none
                    else
                      none
                  else
                    none
              else
                none
        else
          none
set_option maxRecDepth 100000 in
set_option maxHeartbeats 4000000 in
theorem e220_53 (z : Nat) : ∀ (n : Nat) (x4 : Int32) (M : aM) (r : aR), f220_53 z n x4 M = some r → am_Ev 7 220 53 [some (.inr (.inr (11, 205))), none, none, none, some (.inl x4), none] [] M r := by
  intro n
  induction n with
  | zero =>
    intro x4 M r h
    cases h
  | succ n ih =>
    intro x4 M r h
    exact am_Ev_seg (sem := am_s220_ z) (cut := ([(144, [true, false, false, false, true, false])] : List (Nat × List Bool))) (hs220 z) am_r220 am_k220 (by rw [am_l220]; decide) (am_kc 144 (fun al st M => match al, st with
      | [some (.inr (.inr (11, 205))), none, none, none, some (.inl x4), none], [] => f220_144 z (f220_53 z n) x4 M
      | _, _ => none) am_k0) 56 h (am_kc_ok (fun al st M hk => by
      split at hk
      · exact e220_144 z _ ih _ _ _ hk
      · cases hk) am_k0_ok)
def f220_12 (z : Nat) : Nat → Int32 → Int32 → Int32 → aM → Option aR
  | 0, _, _, _, _ => none
  | n + 1, x1, x2, x3, M =>
    if x3 = 0 then
      f220_53 z z (0 : Int32) M
    else
      am_bv (f218 z x1 x2 M) fun M1 =>
        let I2 := am_u M1.1 205 24 ((M1.1 205 24) + (1 : Int32))
        am_bi (f219 z (I2, M1.2)) fun v4 M3 =>
          let I5 := am_u M3.1 205 25 ((M3.1 205 25) ||| v4)
          f220_12 z n x1 x2 v4 (I5, M3.2)
set_option maxRecDepth 100000 in
set_option maxHeartbeats 4000000 in
theorem e220_12 (z : Nat) : ∀ (n : Nat) (x1 : Int32) (x2 : Int32) (x3 : Int32) (M : aM) (r : aR), f220_12 z n x1 x2 x3 M = some r → am_Ev 7 220 12 [some (.inr (.inr (11, 205))), some (.inl x1), some (.inl x2), some (.inl x3), none, none] [] M r := by
  intro n
  induction n with
  | zero =>
    intro x1 x2 x3 M r h
    cases h
  | succ n ih =>
    intro x1 x2 x3 M r h
    exact am_Ev_seg (sem := am_s220_ z) (cut := ([(12, [true, true, true, true, false, false]), (53, [true, false, false, false, true, false])] : List (Nat × List Bool))) (hs220 z) am_r220 am_k220 (by rw [am_l220]; decide) (am_kc 12 (fun al st M => match al, st with
      | [some (.inr (.inr (11, 205))), some (.inl x1), some (.inl x2), some (.inl x3), none, none], [] => f220_12 z n x1 x2 x3 M
      | _, _ => none) (am_kc 53 (fun al st M => match al, st with
      | [some (.inr (.inr (11, 205))), none, none, none, some (.inl x4), none], [] => f220_53 z z x4 M
      | _, _ => none) am_k0)) 24 h (am_kc_ok (fun al st M hk => by
      split at hk
      · exact ih _ _ _ _ _ hk
      · cases hk) (am_kc_ok (fun al st M hk => by
      split at hk
      · exact e220_53 z _ _ _ _ hk
      · cases hk) am_k0_ok))
/-- ArgumentMenderModel.quarrelNow(II)V -/
def f220 (z : Nat) (x1 : Int32) (x2 : Int32) (M : aM) : Option aR :=
  let I1 := am_u M.1 205 24 (0 : Int32)
  let I2 := am_u I1 205 25 (0 : Int32)
  f220_12 z z x1 x2 (1 : Int32) (I2, M.2)
set_option maxRecDepth 100000 in
set_option maxHeartbeats 4000000 in
theorem e220 (z : Nat) : ∀ (x1 : Int32) (x2 : Int32) (M : aM) (r : aR), f220 z x1 x2 M = some r → am_Ev 7 220 0 [some (.inr (.inr (11, 205))), some (.inl x1), some (.inl x2), none, none, none] [] M r := by
  intro x1 x2 M r h
  exact am_Ev_seg (sem := am_s220_ z) (cut := ([(12, [true, true, true, true, false, false])] : List (Nat × List Bool))) (hs220 z) am_r220 am_k220 (by rw [am_l220]; decide) (am_kc 12 (fun al st M => match al, st with
      | [some (.inr (.inr (11, 205))), some (.inl x1), some (.inl x2), some (.inl x3), none, none], [] => f220_12 z z x1 x2 x3 M
      | _, _ => none) am_k0) 10 h (am_kc_ok (fun al st M hk => by
      split at hk
      · exact e220_12 z _ _ _ _ _ _ hk
      · cases hk) am_k0_ok)
def F220 (z : Nat) (as : List aV) (M : aM) : Option aR := match as with
  | [.inr (.inr (11, 205)), .inl x1, .inl x2] => f220 z x1 x2 M
  | _ => none
theorem S220 (z : Nat) : am_Snd 7 220 (F220 z) := am_meth (by decide +kernel) (fun as M r has h => by
    rw [am_l220]
    unfold F220 at h
    split at h
    · exact ⟨Nat.le_of_ble_eq_true rfl, e220 z _ _ _ _ h⟩
    · cases h)
def cd221_0 : List am_E := [(0, .aload_n 0, 1, 0, 0, 0, 0), (1, .getfield 58, 3, 11, 30, 0, 0), (4, .iload_n 1, 1, 1, 0, 0, 0), (5, .aload_n 0, 1, 0, 0, 0, 0), (6, .getfield 303, 3, 11, 24, 0, 0), (9, .iastore, 1, 0, 0, 0, 0), (10, .aload_n 0, 1, 0, 0, 0, 0), (11, .getfield 61, 3, 11, 31, 0, 0), (14, .iload_n 1, 1, 1, 0, 0, 0), (15, .aload_n 0, 1, 0, 0, 0, 0), (16, .getfield 306, 3, 11, 25, 0, 0), (19, .iastore, 1, 0, 0, 0, 0), (20, .aload_n 0, 1, 0, 0, 0, 0), (21, .getfield 64, 3, 11, 32, 0, 0), (24, .iload_n 1, 1, 1, 0, 0, 0), (25, .aload_n 0, 1, 0, 0, 0, 0), (26, .getfield 278, 3, 11, 22, 0, 0), (29, .iastore, 1, 0, 0, 0, 0), (30, .aload_n 0, 1, 0, 0, 0, 0), (31, .getfield 67, 3, 11, 33, 0, 0), (34, .iload_n 1, 1, 1, 0, 0, 0), (35, .aload_n 0, 1, 0, 0, 0, 0), (36, .getfield 294, 3, 11, 23, 0, 0), (39, .iastore, 1, 0, 0, 0, 0), (40, .iconst 0, 1, 0, 0, 0, 0), (41, .istore_n 2, 1, 2, 0, 0, 0), (42, .iload_n 2, 1, 2, 0, 0, 0), (43, .bipush 16, 2, 0, 0, 16, 0), (45, .if_icmp .ge 26, 3, 71, 0, 0, 0), (48, .aload_n 0, 1, 0, 0, 0, 0), (49, .getfield 55, 3, 11, 29, 0, 0), (52, .bipush 16, 2, 0, 0, 16, 0), (54, .iload_n 1, 1, 1, 0, 0, 0), (55, .imul, 1, 0, 0, 0, 0), (56, .iload_n 2, 1, 2, 0, 0, 0), (57, .iadd, 1, 0, 0, 0, 0), (58, .aload_n 0, 1, 0, 0, 0, 0), (59, .getfield 40, 3, 11, 20, 0, 0), (62, .iload_n 2, 1, 2, 0, 0, 0), (63, .iaload, 1, 0, 0, 0, 0)]
def cd221_1 : List am_E := [(64, .iastore, 1, 0, 0, 0, 0), (65, .iinc 2 1, 3, 2, 0, 1, 0), (68, .goto (-26), 3, 42, 0, 0, 0), (71, .return_, 1, 0, 0, 0, 0)]
def cd221 : List am_E := cd221_0 ++ (cd221_1)
def am_w221 : List (List (Int32 × Nat) × Nat) := []
set_option maxRecDepth 100000 in
theorem kcd221_0 : cd221_0.all (am_chk am_w221 221) = true := by decide +kernel
set_option maxRecDepth 100000 in
theorem kcd221_1 : cd221_1.all (am_chk am_w221 221) = true := by decide +kernel
theorem am_k221 : cd221.all (am_chk am_w221 221) = true := by
  simp only [cd221, List.all_append, kcd221_0, kcd221_1, Bool.and_self]
theorem am_r221 : am_rtc 221 = 4 := by decide +kernel
theorem am_l221 : am_ml 221 = 3 := by decide +kernel
def am_s221_ (z : Nat) : Nat → List aV → aM → Option aR := am_s0
theorem hs221 (z : Nat) : ∀ j2 : Nat, ∃ d2 : Nat, d2 + 1 ≤ 1 ∧ am_Snd d2 j2 (am_s221_ z j2) := (am_s0_ok (by decide))
def f221_42 (z : Nat) : Nat → Int32 → Int32 → aM → Option aR
  | 0, _, _, _ => none
  | n + 1, x1, x2, M =>
    if (16 : Int32) ≤ x2 then
      some (none, M)
    else
      if am_inB x2 16 then
        if am_inB (((16 : Int32) * x1) + x2) 160 then
          let I1 := am_u M.1 219 (((16 : Int32) * x1) + x2).toNatClampNeg (M.1 214 x2.toNatClampNeg)
          f221_42 z n x1 (x2 + (1 : Int32)) (I1, M.2)
        else
          none
      else
        none
set_option maxRecDepth 100000 in
set_option maxHeartbeats 4000000 in
theorem e221_42 (z : Nat) : ∀ (n : Nat) (x1 : Int32) (x2 : Int32) (M : aM) (r : aR), f221_42 z n x1 x2 M = some r → am_Ev 1 221 42 [some (.inr (.inr (11, 205))), some (.inl x1), some (.inl x2)] [] M r := by
  intro n
  induction n with
  | zero =>
    intro x1 x2 M r h
    cases h
  | succ n ih =>
    intro x1 x2 M r h
    exact am_Ev_seg (sem := am_s221_ z) (cut := ([(42, [true, true, true])] : List (Nat × List Bool))) (hs221 z) am_r221 am_k221 (by rw [am_l221]; decide) (am_kc 42 (fun al st M => match al, st with
      | [some (.inr (.inr (11, 205))), some (.inl x1), some (.inl x2)], [] => f221_42 z n x1 x2 M
      | _, _ => none) am_k0) 19 h (am_kc_ok (fun al st M hk => by
      split at hk
      · exact ih _ _ _ _ hk
      · cases hk) am_k0_ok)
def f221_40 (z : Nat)  (x1 : Int32) (M : aM) : Option aR :=
  f221_42 z z x1 (0 : Int32) M
set_option maxRecDepth 100000 in
set_option maxHeartbeats 4000000 in
theorem e221_40 (z : Nat) : ∀ (x1 : Int32) (M : aM) (r : aR), f221_40 z x1 M = some r → am_Ev 1 221 40 [some (.inr (.inr (11, 205))), some (.inl x1), none] [] M r := by
  intro x1 M r h
  exact am_Ev_seg (sem := am_s221_ z) (cut := ([(42, [true, true, true])] : List (Nat × List Bool))) (hs221 z) am_r221 am_k221 (by rw [am_l221]; decide) (am_kc 42 (fun al st M => match al, st with
      | [some (.inr (.inr (11, 205))), some (.inl x1), some (.inl x2)], [] => f221_42 z z x1 x2 M
      | _, _ => none) am_k0) 4 h (am_kc_ok (fun al st M hk => by
      split at hk
      · exact e221_42 z _ _ _ _ _ hk
      · cases hk) am_k0_ok)
/-- ArgumentMenderModel.keepQuarrel(I)V -/
def f221 (z : Nat) (x1 : Int32) (M : aM) : Option aR :=
  if am_inB x1 10 then
    let I1 := am_u M.1 220 x1.toNatClampNeg (M.1 205 24)
    if am_inB x1 10 then
      let I2 := am_u I1 221 x1.toNatClampNeg (I1 205 25)
      if am_inB x1 10 then
        let I3 := am_u I2 222 x1.toNatClampNeg (I2 205 22)
        if am_inB x1 10 then
          let I4 := am_u I3 223 x1.toNatClampNeg (I3 205 23)
          f221_40 z x1 (I4, M.2)
        else
          none
      else
        none
    else
      none
  else
    none
set_option maxRecDepth 100000 in
set_option maxHeartbeats 4000000 in
theorem e221 (z : Nat) : ∀ (x1 : Int32) (M : aM) (r : aR), f221 z x1 M = some r → am_Ev 1 221 0 [some (.inr (.inr (11, 205))), some (.inl x1), none] [] M r := by
  intro x1 M r h
  exact am_Ev_seg (sem := am_s221_ z) (cut := ([(40, [true, true, false])] : List (Nat × List Bool))) (hs221 z) am_r221 am_k221 (by rw [am_l221]; decide) (am_kc 40 (fun al st M => match al, st with
      | [some (.inr (.inr (11, 205))), some (.inl x1), none], [] => f221_40 z x1 M
      | _, _ => none) am_k0) 26 h (am_kc_ok (fun al st M hk => by
      split at hk
      · exact e221_40 z _ _ _ hk
      · cases hk) am_k0_ok)
def F221 (z : Nat) (as : List aV) (M : aM) : Option aR := match as with
  | [.inr (.inr (11, 205)), .inl x1] => f221 z x1 M
  | _ => none
theorem S221 (z : Nat) : am_Snd 1 221 (F221 z) := am_meth (by decide +kernel) (fun as M r has h => by
    rw [am_l221]
    unfold F221 at h
    split at h
    · exact ⟨Nat.le_of_ble_eq_true rfl, e221 z _ _ _ h⟩
    · cases h)
def cd222_0 : List am_E := [(0, .iconst 0, 1, 0, 0, 0, 0), (1, .istore_n 2, 1, 2, 0, 0, 0), (2, .iload_n 2, 1, 2, 0, 0, 0), (3, .aload_n 0, 1, 0, 0, 0, 0), (4, .getfield 9, 3, 11, 1, 0, 0), (7, .bipush 6, 2, 0, 0, 6, 0), (9, .iaload, 1, 0, 0, 0, 0), (10, .if_icmp .ge 85, 3, 95, 0, 0, 0), (13, .aload_n 0, 1, 0, 0, 0, 0), (14, .getfield 9, 3, 11, 1, 0, 0), (17, .bipush 86, 2, 0, 0, 86, 0), (19, .iload_n 2, 1, 2, 0, 0, 0), (20, .iadd, 1, 0, 0, 0, 0), (21, .iaload, 1, 0, 0, 0, 0), (22, .ldc_w 316, 3, 0, 0, 1000000, 0), (25, .isub, 1, 0, 0, 0, 0), (26, .istore_n 3, 1, 3, 0, 0, 0), (27, .iload_n 3, 1, 3, 0, 0, 0), (28, .ifCond .lt 61, 3, 89, 0, 0, 0), (31, .iload_n 3, 1, 3, 0, 0, 0), (32, .bipush 100, 2, 0, 0, 100, 0), (34, .irem, 1, 0, 0, 0, 0), (35, .iload_n 1, 1, 1, 0, 0, 0), (36, .if_icmp .eq 6, 3, 42, 0, 0, 0), (39, .goto 50, 3, 89, 0, 0, 0), (42, .iload_n 3, 1, 3, 0, 0, 0), (43, .sipush 10000, 3, 0, 0, 10000, 0), (46, .idiv, 1, 0, 0, 0, 0), (47, .istore 4, 2, 4, 0, 0, 0), (49, .aload_n 0, 1, 0, 0, 0, 0), (50, .getfield 265, 3, 11, 17, 0, 0), (53, .iload 4, 2, 4, 0, 0, 0), (55, .invokestatic 300, 3, 172, 25, 0, 0), (58, .iconst 1, 1, 0, 0, 1, 0), (59, .if_icmp .ne 30, 3, 89, 0, 0, 0), (62, .aload_n 0, 1, 0, 0, 0, 0), (63, .getfield 37, 3, 11, 19, 0, 0), (66, .iload 4, 2, 4, 0, 0, 0), (68, .bipush 99, 2, 0, 0, 99, 0), (70, .aload_n 0, 1, 0, 0, 0, 0)]
def cd222_1 : List am_E := [(71, .getfield 37, 3, 11, 19, 0, 0), (74, .iload 4, 2, 4, 0, 0, 0), (76, .iaload, 1, 0, 0, 0, 0), (77, .iload_n 3, 1, 3, 0, 0, 0), (78, .bipush 100, 2, 0, 0, 100, 0), (80, .idiv, 1, 0, 0, 0, 0), (81, .bipush 100, 2, 0, 0, 100, 0), (83, .irem, 1, 0, 0, 0, 0), (84, .iadd, 1, 0, 0, 0, 0), (85, .invokestatic 155, 3, 0, 2, 0, 0), (88, .iastore, 1, 0, 0, 0, 0), (89, .iinc 2 1, 3, 2, 0, 1, 0), (92, .goto (-90), 3, 2, 0, 0, 0), (95, .return_, 1, 0, 0, 0, 0)]
def cd222 : List am_E := cd222_0 ++ (cd222_1)
def am_w222 : List (List (Int32 × Nat) × Nat) := []
set_option maxRecDepth 100000 in
theorem kcd222_0 : cd222_0.all (am_chk am_w222 222) = true := by decide +kernel
set_option maxRecDepth 100000 in
theorem kcd222_1 : cd222_1.all (am_chk am_w222 222) = true := by decide +kernel
theorem am_k222 : cd222.all (am_chk am_w222 222) = true := by
  simp only [cd222, List.all_append, kcd222_0, kcd222_1, Bool.and_self]
theorem am_r222 : am_rtc 222 = 4 := by decide +kernel
theorem am_l222 : am_ml 222 = 5 := by decide +kernel
def am_s222_ (z : Nat) : Nat → List aV → aM → Option aR := (am_sm 172 (F172 z) am_s0)
theorem hs222 (z : Nat) : ∀ j2 : Nat, ∃ d2 : Nat, d2 + 1 ≤ 2 ∧ am_Snd d2 j2 (am_s222_ z j2) := (am_sm_ok (S172 z) (by decide) (am_s0_ok (by decide)))
def f222_2 (z : Nat) : Nat → Int32 → Int32 → aM → Option aR
  | 0, _, _, _ => none
  | n + 1, x1, x2, M =>
    if am_inB (6 : Int32) 116 then
      if (M.1 206 (6 : Int32).toNatClampNeg) ≤ x2 then
        some (none, M)
      else
        if am_inB ((86 : Int32) + x2) 116 then
          if ((M.1 206 ((86 : Int32) + x2).toNatClampNeg) - (1000000 : Int32)) < 0 then
            f222_2 z n x1 (x2 + (1 : Int32)) M
          else
            if (100 : Int32) = 0 then
              none
            else
              if (((M.1 206 ((86 : Int32) + x2).toNatClampNeg) - (1000000 : Int32)) - ((M.1 206 ((86 : Int32) + x2).toNatClampNeg) - (1000000 : Int32)) / (100 : Int32) * (100 : Int32)) = x1 then
                if (10000 : Int32) = 0 then
                  none
                else
                  am_bi (f172 z (M.1 205 17) (((M.1 206 ((86 : Int32) + x2).toNatClampNeg) - (1000000 : Int32)) / (10000 : Int32)) M) fun v2 M1 =>
                    if ¬ v2 = (1 : Int32) then
                      f222_2 z n x1 (x2 + (1 : Int32)) M1
                    else
                      if am_inB (((M.1 206 ((86 : Int32) + x2).toNatClampNeg) - (1000000 : Int32)) / (10000 : Int32)) 16 then
                        if (100 : Int32) = 0 then
                          none
                        else
                          if (100 : Int32) = 0 then
                            none
                          else
                            if am_inB (((M.1 206 ((86 : Int32) + x2).toNatClampNeg) - (1000000 : Int32)) / (10000 : Int32)) 16 then
                              let I3 := am_u M1.1 213 (((M.1 206 ((86 : Int32) + x2).toNatClampNeg) - (1000000 : Int32)) / (10000 : Int32)).toNatClampNeg (if ((M1.1 213 (((M.1 206 ((86 : Int32) + x2).toNatClampNeg) - (1000000 : Int32)) / (10000 : Int32)).toNatClampNeg) + ((((M.1 206 ((86 : Int32) + x2).toNatClampNeg) - (1000000 : Int32)) / (100 : Int32)) - (((M.1 206 ((86 : Int32) + x2).toNatClampNeg) - (1000000 : Int32)) / (100 : Int32)) / (100 : Int32) * (100 : Int32))) < (99 : Int32) then ((M1.1 213 (((M.1 206 ((86 : Int32) + x2).toNatClampNeg) - (1000000 : Int32)) / (10000 : Int32)).toNatClampNeg) + ((((M.1 206 ((86 : Int32) + x2).toNatClampNeg) - (1000000 : Int32)) / (100 : Int32)) - (((M.1 206 ((86 : Int32) + x2).toNatClampNeg) - (1000000 : Int32)) / (100 : Int32)) / (100 : Int32) * (100 : Int32))) else (99 : Int32))
                              f222_2 z n x1 (x2 + (1 : Int32)) (I3, M1.2)
                            else
                              none
                      else
                        none
              else
                f222_2 z n x1 (x2 + (1 : Int32)) M
        else
          none
    else
      none
set_option maxRecDepth 100000 in
set_option maxHeartbeats 4000000 in
theorem e222_2 (z : Nat) : ∀ (n : Nat) (x1 : Int32) (x2 : Int32) (M : aM) (r : aR), f222_2 z n x1 x2 M = some r → am_Ev 2 222 2 [some (.inr (.inr (11, 205))), some (.inl x1), some (.inl x2), none, none] [] M r := by
  intro n
  induction n with
  | zero =>
    intro x1 x2 M r h
    cases h
  | succ n ih =>
    intro x1 x2 M r h
    exact am_Ev_seg (sem := am_s222_ z) (cut := ([(2, [true, true, true, false, false])] : List (Nat × List Bool))) (hs222 z) am_r222 am_k222 (by rw [am_l222]; decide) (am_kc 2 (fun al st M => match al, st with
      | [some (.inr (.inr (11, 205))), some (.inl x1), some (.inl x2), none, none], [] => f222_2 z n x1 x2 M
      | _, _ => none) am_k0) 52 h (am_kc_ok (fun al st M hk => by
      split at hk
      · exact ih _ _ _ _ hk
      · cases hk) am_k0_ok)
/-- ArgumentMenderModel.sewAll(I)V -/
def f222 (z : Nat) (x1 : Int32) (M : aM) : Option aR :=
  f222_2 z z x1 (0 : Int32) M
set_option maxRecDepth 100000 in
set_option maxHeartbeats 4000000 in
theorem e222 (z : Nat) : ∀ (x1 : Int32) (M : aM) (r : aR), f222 z x1 M = some r → am_Ev 2 222 0 [some (.inr (.inr (11, 205))), some (.inl x1), none, none, none] [] M r := by
  intro x1 M r h
  exact am_Ev_seg (sem := am_s222_ z) (cut := ([(2, [true, true, true, false, false])] : List (Nat × List Bool))) (hs222 z) am_r222 am_k222 (by rw [am_l222]; decide) (am_kc 2 (fun al st M => match al, st with
      | [some (.inr (.inr (11, 205))), some (.inl x1), some (.inl x2), none, none], [] => f222_2 z z x1 x2 M
      | _, _ => none) am_k0) 4 h (am_kc_ok (fun al st M hk => by
      split at hk
      · exact e222_2 z _ _ _ _ _ hk
      · cases hk) am_k0_ok)
def F222 (z : Nat) (as : List aV) (M : aM) : Option aR := match as with
  | [.inr (.inr (11, 205)), .inl x1] => f222 z x1 M
  | _ => none
theorem S222 (z : Nat) : am_Snd 2 222 (F222 z) := am_meth (by decide +kernel) (fun as M r has h => by
    rw [am_l222]
    unfold F222 at h
    split at h
    · exact ⟨Nat.le_of_ble_eq_true rfl, e222 z _ _ _ h⟩
    · cases h)
def cd223_0 : List am_E := [(0, .aload_n 0, 1, 0, 0, 0, 0), (1, .iload_n 1, 1, 1, 0, 0, 0), (2, .invokevirtual 317, 3, 222, 11014, 0, 0), (5, .iconst 0, 1, 0, 0, 0, 0), (6, .istore_n 2, 1, 2, 0, 0, 0), (7, .iload_n 2, 1, 2, 0, 0, 0), (8, .aload_n 0, 1, 0, 0, 0, 0), (9, .invokevirtual 121, 3, 179, 11000, 0, 0), (12, .if_icmp .ge 54, 3, 66, 0, 0, 0), (15, .aload_n 0, 1, 0, 0, 0, 0), (16, .iload_n 2, 1, 2, 0, 0, 0), (17, .iconst 2, 1, 0, 0, 2, 0), (18, .invokevirtual 249, 3, 187, 11020, 0, 0), (21, .iload_n 1, 1, 1, 0, 0, 0), (22, .if_icmp .ne 38, 3, 60, 0, 0, 0), (25, .aload_n 0, 1, 0, 0, 0, 0), (26, .getfield 268, 3, 11, 18, 0, 0), (29, .iload_n 2, 1, 2, 0, 0, 0), (30, .invokestatic 300, 3, 172, 25, 0, 0), (33, .ifCond .ne 6, 3, 39, 0, 0, 0), (36, .goto 24, 3, 60, 0, 0, 0), (39, .aload_n 0, 1, 0, 0, 0, 0), (40, .aload_n 0, 1, 0, 0, 0, 0), (41, .iload_n 2, 1, 2, 0, 0, 0), (42, .iconst 0, 1, 0, 0, 0, 0), (43, .invokevirtual 249, 3, 187, 11020, 0, 0), (46, .aload_n 0, 1, 0, 0, 0, 0), (47, .iload_n 2, 1, 2, 0, 0, 0), (48, .iconst 1, 1, 0, 0, 1, 0), (49, .invokevirtual 249, 3, 187, 11020, 0, 0), (52, .invokevirtual 320, 3, 220, 11024, 0, 0), (55, .aload_n 0, 1, 0, 0, 0, 0), (56, .iload_n 2, 1, 2, 0, 0, 0), (57, .invokevirtual 323, 3, 221, 11014, 0, 0), (60, .iinc 2 1, 3, 2, 0, 1, 0), (63, .goto (-56), 3, 7, 0, 0, 0), (66, .iconst 0, 1, 0, 0, 0, 0), (67, .istore_n 2, 1, 2, 0, 0, 0), (68, .iload_n 2, 1, 2, 0, 0, 0), (69, .aload_n 0, 1, 0, 0, 0, 0)]
def cd223_1 : List am_E := [(70, .getfield 9, 3, 11, 1, 0, 0), (73, .bipush 6, 2, 0, 0, 6, 0), (75, .iaload, 1, 0, 0, 0, 0), (76, .if_icmp .ge 50, 3, 126, 0, 0, 0), (79, .aload_n 0, 1, 0, 0, 0, 0), (80, .getfield 9, 3, 11, 1, 0, 0), (83, .bipush 86, 2, 0, 0, 86, 0), (85, .iload_n 2, 1, 2, 0, 0, 0), (86, .iadd, 1, 0, 0, 0, 0), (87, .iaload, 1, 0, 0, 0, 0), (88, .istore_n 3, 1, 3, 0, 0, 0), (89, .iload_n 3, 1, 3, 0, 0, 0), (90, .ldc_w 316, 3, 0, 0, 1000000, 0), (93, .if_icmp .ge 27, 3, 120, 0, 0, 0), (96, .iload_n 3, 1, 3, 0, 0, 0), (97, .bipush 100, 2, 0, 0, 100, 0), (99, .irem, 1, 0, 0, 0, 0), (100, .iload_n 1, 1, 1, 0, 0, 0), (101, .if_icmp .ne 19, 3, 120, 0, 0, 0), (104, .aload_n 0, 1, 0, 0, 0, 0), (105, .iload_n 3, 1, 3, 0, 0, 0), (106, .sipush 10000, 3, 0, 0, 10000, 0), (109, .idiv, 1, 0, 0, 0, 0), (110, .iload_n 3, 1, 3, 0, 0, 0), (111, .bipush 100, 2, 0, 0, 100, 0), (113, .idiv, 1, 0, 0, 0, 0), (114, .bipush 100, 2, 0, 0, 100, 0), (116, .irem, 1, 0, 0, 0, 0), (117, .invokevirtual 320, 3, 220, 11024, 0, 0), (120, .iinc 2 1, 3, 2, 0, 1, 0), (123, .goto (-55), 3, 68, 0, 0, 0), (126, .return_, 1, 0, 0, 0, 0)]
def cd223 : List am_E := cd223_0 ++ (cd223_1)
def am_w223 : List (List (Int32 × Nat) × Nat) := []
set_option maxRecDepth 100000 in
theorem kcd223_0 : cd223_0.all (am_chk am_w223 223) = true := by decide +kernel
set_option maxRecDepth 100000 in
theorem kcd223_1 : cd223_1.all (am_chk am_w223 223) = true := by decide +kernel
theorem am_k223 : cd223.all (am_chk am_w223 223) = true := by
  simp only [cd223, List.all_append, kcd223_0, kcd223_1, Bool.and_self]
theorem am_r223 : am_rtc 223 = 4 := by decide +kernel
theorem am_l223 : am_ml 223 = 4 := by decide +kernel
def am_s223_ (z : Nat) : Nat → List aV → aM → Option aR := (am_sm 172 (F172 z) (am_sm 179 (F179 z) (am_sm 187 (F187 z) (am_sm 220 (F220 z) (am_sm 221 (F221 z) (am_sm 222 (F222 z) am_s0))))))
theorem hs223 (z : Nat) : ∀ j2 : Nat, ∃ d2 : Nat, d2 + 1 ≤ 8 ∧ am_Snd d2 j2 (am_s223_ z j2) := (am_sm_ok (S172 z) (by decide) (am_sm_ok (S179 z) (by decide) (am_sm_ok (S187 z) (by decide) (am_sm_ok (S220 z) (by decide) (am_sm_ok (S221 z) (by decide) (am_sm_ok (S222 z) (by decide) (am_s0_ok (by decide))))))))
def f223_68 (z : Nat) : Nat → Int32 → Int32 → aM → Option aR
  | 0, _, _, _ => none
  | n + 1, x1, x2, M =>
    if am_inB (6 : Int32) 116 then
      if (M.1 206 (6 : Int32).toNatClampNeg) ≤ x2 then
        some (none, M)
      else
        if am_inB ((86 : Int32) + x2) 116 then
          if (1000000 : Int32) ≤ (M.1 206 ((86 : Int32) + x2).toNatClampNeg) then
            f223_68 z n x1 (x2 + (1 : Int32)) M
          else
            if (100 : Int32) = 0 then
              none
            else
              if ¬ ((M.1 206 ((86 : Int32) + x2).toNatClampNeg) - (M.1 206 ((86 : Int32) + x2).toNatClampNeg) / (100 : Int32) * (100 : Int32)) = x1 then
                f223_68 z n x1 (x2 + (1 : Int32)) M
              else
                if (10000 : Int32) = 0 then
                  none
                else
                  if (100 : Int32) = 0 then
                    none
                  else
                    if (100 : Int32) = 0 then
                      none
                    else
                      am_bv (f220 z ((M.1 206 ((86 : Int32) + x2).toNatClampNeg) / (10000 : Int32)) (((M.1 206 ((86 : Int32) + x2).toNatClampNeg) / (100 : Int32)) - ((M.1 206 ((86 : Int32) + x2).toNatClampNeg) / (100 : Int32)) / (100 : Int32) * (100 : Int32)) M) fun M1 =>
                        f223_68 z n x1 (x2 + (1 : Int32)) M1
        else
          none
    else
      none
set_option maxRecDepth 100000 in
set_option maxHeartbeats 4000000 in
theorem e223_68 (z : Nat) : ∀ (n : Nat) (x1 : Int32) (x2 : Int32) (M : aM) (r : aR), f223_68 z n x1 x2 M = some r → am_Ev 8 223 68 [some (.inr (.inr (11, 205))), some (.inl x1), some (.inl x2), none] [] M r := by
  intro n
  induction n with
  | zero =>
    intro x1 x2 M r h
    cases h
  | succ n ih =>
    intro x1 x2 M r h
    exact am_Ev_seg (sem := am_s223_ z) (cut := ([(68, [true, true, true, false])] : List (Nat × List Bool))) (hs223 z) am_r223 am_k223 (by rw [am_l223]; decide) (am_kc 68 (fun al st M => match al, st with
      | [some (.inr (.inr (11, 205))), some (.inl x1), some (.inl x2), none], [] => f223_68 z n x1 x2 M
      | _, _ => none) am_k0) 35 h (am_kc_ok (fun al st M hk => by
      split at hk
      · exact ih _ _ _ _ hk
      · cases hk) am_k0_ok)
def f223_7 (z : Nat) : Nat → Int32 → Int32 → aM → Option aR
  | 0, _, _, _ => none
  | n + 1, x1, x2, M =>
    am_bi (f179 z M) fun v2 M1 =>
      if v2 ≤ x2 then
        f223_68 z z x1 (0 : Int32) M1
      else
        am_bi (f187 z x2 (2 : Int32) M1) fun v4 M3 =>
          if ¬ v4 = x1 then
            f223_7 z n x1 (x2 + (1 : Int32)) M3
          else
            am_bi (f172 z (M3.1 205 18) x2 M3) fun v6 M5 =>
              if ¬ v6 = 0 then
                am_bi (f187 z x2 (0 : Int32) M5) fun v8 M7 =>
                  am_bi (f187 z x2 (1 : Int32) M7) fun v10 M9 =>
                    am_bv (f220 z v8 v10 M9) fun M11 =>
                      am_bv (f221 z x2 M11) fun M12 =>
                        f223_7 z n x1 (x2 + (1 : Int32)) M12
              else
                f223_7 z n x1 (x2 + (1 : Int32)) M5
set_option maxRecDepth 100000 in
set_option maxHeartbeats 4000000 in
theorem e223_7 (z : Nat) : ∀ (n : Nat) (x1 : Int32) (x2 : Int32) (M : aM) (r : aR), f223_7 z n x1 x2 M = some r → am_Ev 8 223 7 [some (.inr (.inr (11, 205))), some (.inl x1), some (.inl x2), none] [] M r := by
  intro n
  induction n with
  | zero =>
    intro x1 x2 M r h
    cases h
  | succ n ih =>
    intro x1 x2 M r h
    exact am_Ev_seg (sem := am_s223_ z) (cut := ([(7, [true, true, true, false]), (68, [true, true, true, false])] : List (Nat × List Bool))) (hs223 z) am_r223 am_k223 (by rw [am_l223]; decide) (am_kc 7 (fun al st M => match al, st with
      | [some (.inr (.inr (11, 205))), some (.inl x1), some (.inl x2), none], [] => f223_7 z n x1 x2 M
      | _, _ => none) (am_kc 68 (fun al st M => match al, st with
      | [some (.inr (.inr (11, 205))), some (.inl x1), some (.inl x2), none], [] => f223_68 z z x1 x2 M
      | _, _ => none) am_k0)) 32 h (am_kc_ok (fun al st M hk => by
      split at hk
      · exact ih _ _ _ _ hk
      · cases hk) (am_kc_ok (fun al st M hk => by
      split at hk
      · exact e223_68 z _ _ _ _ _ hk
      · cases hk) am_k0_ok))
/-- ArgumentMenderModel.goYear(I)V -/
def f223 (z : Nat) (x1 : Int32) (M : aM) : Option aR :=
  am_bv (f222 z x1 M) fun M1 =>
    f223_7 z z x1 (0 : Int32) M1
set_option maxRecDepth 100000 in
set_option maxHeartbeats 4000000 in
theorem e223 (z : Nat) : ∀ (x1 : Int32) (M : aM) (r : aR), f223 z x1 M = some r → am_Ev 8 223 0 [some (.inr (.inr (11, 205))), some (.inl x1), none, none] [] M r := by
  intro x1 M r h
  exact am_Ev_seg (sem := am_s223_ z) (cut := ([(7, [true, true, true, false])] : List (Nat × List Bool))) (hs223 z) am_r223 am_k223 (by rw [am_l223]; decide) (am_kc 7 (fun al st M => match al, st with
      | [some (.inr (.inr (11, 205))), some (.inl x1), some (.inl x2), none], [] => f223_7 z z x1 x2 M
      | _, _ => none) am_k0) 7 h (am_kc_ok (fun al st M hk => by
      split at hk
      · exact e223_7 z _ _ _ _ _ hk
      · cases hk) am_k0_ok)
def F223 (z : Nat) (as : List aV) (M : aM) : Option aR := match as with
  | [.inr (.inr (11, 205)), .inl x1] => f223 z x1 M
  | _ => none
theorem S223 (z : Nat) : am_Snd 8 223 (F223 z) := am_meth (by decide +kernel) (fun as M r has h => by
    rw [am_l223]
    unfold F223 at h
    split at h
    · exact ⟨Nat.le_of_ble_eq_true rfl, e223 z _ _ _ h⟩
    · cases h)
def cd224_0 : List am_E := [(0, .iconst 0, 1, 0, 0, 0, 0), (1, .istore_n 1, 1, 1, 0, 0, 0), (2, .iload_n 1, 1, 1, 0, 0, 0), (3, .bipush 16, 2, 0, 0, 16, 0), (5, .if_icmp .ge 59, 3, 64, 0, 0, 0), (8, .aload_n 0, 1, 0, 0, 0, 0), (9, .getfield 37, 3, 11, 19, 0, 0), (12, .iload_n 1, 1, 1, 0, 0, 0), (13, .aload_n 0, 1, 0, 0, 0, 0), (14, .getfield 265, 3, 11, 17, 0, 0), (17, .iload_n 1, 1, 1, 0, 0, 0), (18, .invokestatic 300, 3, 172, 25, 0, 0), (21, .iconst 1, 1, 0, 0, 1, 0), (22, .if_icmp .ne 20, 3, 42, 0, 0, 0), (25, .iload_n 1, 1, 1, 0, 0, 0), (26, .aload_n 0, 1, 0, 0, 0, 0), (27, .invokevirtual 118, 3, 178, 11000, 0, 0), (30, .if_icmp .ge 12, 3, 42, 0, 0, 0), (33, .aload_n 0, 1, 0, 0, 0, 0), (34, .getfield 34, 3, 11, 15, 0, 0), (37, .iload_n 1, 1, 1, 0, 0, 0), (38, .iaload, 1, 0, 0, 0, 0), (39, .goto 4, 3, 43, 0, 0, 0), (42, .iconst 0, 1, 0, 0, 0, 0), (43, .iastore, 1, 0, 0, 0, 0), (44, .aload_n 0, 1, 0, 0, 0, 0), (45, .getfield 46, 3, 11, 26, 0, 0), (48, .iload_n 1, 1, 1, 0, 0, 0), (49, .iconst 0, 1, 0, 0, 0, 0), (50, .iastore, 1, 0, 0, 0, 0), (51, .aload_n 0, 1, 0, 0, 0, 0), (52, .getfield 49, 3, 11, 27, 0, 0), (55, .iload_n 1, 1, 1, 0, 0, 0), (56, .iconst 0, 1, 0, 0, 0, 0), (57, .iastore, 1, 0, 0, 0, 0), (58, .iinc 1 1, 3, 1, 0, 1, 0), (61, .goto (-59), 3, 2, 0, 0, 0), (64, .iconst 0, 1, 0, 0, 0, 0), (65, .istore_n 1, 1, 1, 0, 0, 0), (66, .iload_n 1, 1, 1, 0, 0, 0)]
def cd224_1 : List am_E := [(67, .bipush 10, 2, 0, 0, 10, 0), (69, .if_icmp .ge 23, 3, 92, 0, 0, 0), (72, .aload_n 0, 1, 0, 0, 0, 0), (73, .getfield 58, 3, 11, 30, 0, 0), (76, .iload_n 1, 1, 1, 0, 0, 0), (77, .iconst 0, 1, 0, 0, 0, 0), (78, .iastore, 1, 0, 0, 0, 0), (79, .aload_n 0, 1, 0, 0, 0, 0), (80, .getfield 61, 3, 11, 31, 0, 0), (83, .iload_n 1, 1, 1, 0, 0, 0), (84, .iconst 0, 1, 0, 0, 0, 0), (85, .iastore, 1, 0, 0, 0, 0), (86, .iinc 1 1, 3, 1, 0, 1, 0), (89, .goto (-23), 3, 66, 0, 0, 0), (92, .iconst 0, 1, 0, 0, 0, 0), (93, .istore_n 1, 1, 1, 0, 0, 0), (94, .iload_n 1, 1, 1, 0, 0, 0), (95, .aload_n 0, 1, 0, 0, 0, 0), (96, .invokevirtual 111, 3, 176, 11000, 0, 0), (99, .if_icmp .gt 53, 3, 152, 0, 0, 0), (102, .iconst 0, 1, 0, 0, 0, 0), (103, .istore_n 2, 1, 2, 0, 0, 0), (104, .iload_n 2, 1, 2, 0, 0, 0), (105, .bipush 16, 2, 0, 0, 16, 0), (107, .if_icmp .ge 26, 3, 133, 0, 0, 0), (110, .aload_n 0, 1, 0, 0, 0, 0), (111, .getfield 52, 3, 11, 28, 0, 0), (114, .bipush 16, 2, 0, 0, 16, 0), (116, .iload_n 1, 1, 1, 0, 0, 0), (117, .imul, 1, 0, 0, 0, 0), (118, .iload_n 2, 1, 2, 0, 0, 0), (119, .iadd, 1, 0, 0, 0, 0), (120, .aload_n 0, 1, 0, 0, 0, 0), (121, .getfield 37, 3, 11, 19, 0, 0), (124, .iload_n 2, 1, 2, 0, 0, 0), (125, .iaload, 1, 0, 0, 0, 0), (126, .iastore, 1, 0, 0, 0, 0), (127, .iinc 2 1, 3, 2, 0, 1, 0), (130, .goto (-26), 3, 104, 0, 0, 0), (133, .iload_n 1, 1, 1, 0, 0, 0)]
def cd224_2 : List am_E := [(134, .aload_n 0, 1, 0, 0, 0, 0), (135, .invokevirtual 111, 3, 176, 11000, 0, 0), (138, .if_icmp .ge 8, 3, 146, 0, 0, 0), (141, .aload_n 0, 1, 0, 0, 0, 0), (142, .iload_n 1, 1, 1, 0, 0, 0), (143, .invokevirtual 326, 3, 223, 11014, 0, 0), (146, .iinc 1 1, 3, 1, 0, 1, 0), (149, .goto (-55), 3, 94, 0, 0, 0), (152, .return_, 1, 0, 0, 0, 0)]
def cd224 : List am_E := cd224_0 ++ (cd224_1 ++ (cd224_2))
def am_w224 : List (List (Int32 × Nat) × Nat) := []
set_option maxRecDepth 100000 in
theorem kcd224_0 : cd224_0.all (am_chk am_w224 224) = true := by decide +kernel
set_option maxRecDepth 100000 in
theorem kcd224_1 : cd224_1.all (am_chk am_w224 224) = true := by decide +kernel
set_option maxRecDepth 100000 in
theorem kcd224_2 : cd224_2.all (am_chk am_w224 224) = true := by decide +kernel
theorem am_k224 : cd224.all (am_chk am_w224 224) = true := by
  simp only [cd224, List.all_append, kcd224_0, kcd224_1, kcd224_2, Bool.and_self]
theorem am_r224 : am_rtc 224 = 4 := by decide +kernel
theorem am_l224 : am_ml 224 = 3 := by decide +kernel
def am_s224_ (z : Nat) : Nat → List aV → aM → Option aR := (am_sm 172 (F172 z) (am_sm 176 (F176 z) (am_sm 178 (F178 z) (am_sm 223 (F223 z) am_s0))))
theorem hs224 (z : Nat) : ∀ j2 : Nat, ∃ d2 : Nat, d2 + 1 ≤ 9 ∧ am_Snd d2 j2 (am_s224_ z j2) := (am_sm_ok (S172 z) (by decide) (am_sm_ok (S176 z) (by decide) (am_sm_ok (S178 z) (by decide) (am_sm_ok (S223 z) (by decide) (am_s0_ok (by decide))))))
def f224_104 (z : Nat) (k94 : Int32 → aM → Option aR) : Nat → Int32 → Int32 → aM → Option aR
  | 0, _, _, _ => none
  | n + 1, x1, x2, M =>
    if (16 : Int32) ≤ x2 then
      am_bi (f176 z M) fun v2 M1 =>
        if v2 ≤ x1 then
          k94 (x1 + (1 : Int32)) M1
        else
          am_bv (f223 z x1 M1) fun M3 =>
            k94 (x1 + (1 : Int32)) M3
    else
      if am_inB x2 16 then
        if am_inB (((16 : Int32) * x1) + x2) 208 then
          let I4 := am_u M.1 218 (((16 : Int32) * x1) + x2).toNatClampNeg (M.1 213 x2.toNatClampNeg)
          f224_104 z k94 n x1 (x2 + (1 : Int32)) (I4, M.2)
        else
          none
      else
        none
set_option maxRecDepth 100000 in
set_option maxHeartbeats 4000000 in
theorem e224_104 (z : Nat) (k94 : Int32 → aM → Option aR) (hk94 : ∀ (x1 : Int32) (M : aM) (r : aR), k94 x1 M = some r → am_Ev 9 224 94 [some (.inr (.inr (11, 205))), some (.inl x1), none] [] M r) : ∀ (n : Nat) (x1 : Int32) (x2 : Int32) (M : aM) (r : aR), f224_104 z k94 n x1 x2 M = some r → am_Ev 9 224 104 [some (.inr (.inr (11, 205))), some (.inl x1), some (.inl x2)] [] M r := by
  intro n
  induction n with
  | zero =>
    intro x1 x2 M r h
    cases h
  | succ n ih =>
    intro x1 x2 M r h
    exact am_Ev_seg (sem := am_s224_ z) (cut := ([(94, [true, true, false]), (104, [true, true, true])] : List (Nat × List Bool))) (hs224 z) am_r224 am_k224 (by rw [am_l224]; decide) (am_kc 94 (fun al st M => match al, st with
      | [some (.inr (.inr (11, 205))), some (.inl x1), none], [] => k94 x1 M
      | _, _ => none) (am_kc 104 (fun al st M => match al, st with
      | [some (.inr (.inr (11, 205))), some (.inl x1), some (.inl x2)], [] => f224_104 z k94 n x1 x2 M
      | _, _ => none) am_k0)) 19 h (am_kc_ok (fun al st M hk => by
      split at hk
      · exact hk94 _ _ _ hk
      · cases hk) (am_kc_ok (fun al st M hk => by
      split at hk
      · exact ih _ _ _ _ hk
      · cases hk) am_k0_ok))
def f224_94 (z : Nat) : Nat → Int32 → aM → Option aR
  | 0, _, _ => none
  | n + 1, x1, M =>
    am_bi (f176 z M) fun v2 M1 =>
      if v2 < x1 then
        some (none, M1)
      else
        f224_104 z (f224_94 z n) z x1 (0 : Int32) M1
set_option maxRecDepth 100000 in
set_option maxHeartbeats 4000000 in
theorem e224_94 (z : Nat) : ∀ (n : Nat) (x1 : Int32) (M : aM) (r : aR), f224_94 z n x1 M = some r → am_Ev 9 224 94 [some (.inr (.inr (11, 205))), some (.inl x1), none] [] M r := by
  intro n
  induction n with
  | zero =>
    intro x1 M r h
    cases h
  | succ n ih =>
    intro x1 M r h
    exact am_Ev_seg (sem := am_s224_ z) (cut := ([(104, [true, true, true])] : List (Nat × List Bool))) (hs224 z) am_r224 am_k224 (by rw [am_l224]; decide) (am_kc 104 (fun al st M => match al, st with
      | [some (.inr (.inr (11, 205))), some (.inl x1), some (.inl x2)], [] => f224_104 z (f224_94 z n) z x1 x2 M
      | _, _ => none) am_k0) 8 h (am_kc_ok (fun al st M hk => by
      split at hk
      · exact e224_104 z _ ih _ _ _ _ _ hk
      · cases hk) am_k0_ok)
def f224_66 (z : Nat) : Nat → Int32 → aM → Option aR
  | 0, _, _ => none
  | n + 1, x1, M =>
    if (10 : Int32) ≤ x1 then
      f224_94 z z (0 : Int32) M
    else
      if am_inB x1 10 then
        let I1 := am_u M.1 220 x1.toNatClampNeg (0 : Int32)
        if am_inB x1 10 then
          let I2 := am_u I1 221 x1.toNatClampNeg (0 : Int32)
          f224_66 z n (x1 + (1 : Int32)) (I2, M.2)
        else
          none
      else
        none
set_option maxRecDepth 100000 in
set_option maxHeartbeats 4000000 in
theorem e224_66 (z : Nat) : ∀ (n : Nat) (x1 : Int32) (M : aM) (r : aR), f224_66 z n x1 M = some r → am_Ev 9 224 66 [some (.inr (.inr (11, 205))), some (.inl x1), none] [] M r := by
  intro n
  induction n with
  | zero =>
    intro x1 M r h
    cases h
  | succ n ih =>
    intro x1 M r h
    exact am_Ev_seg (sem := am_s224_ z) (cut := ([(66, [true, true, false]), (94, [true, true, false])] : List (Nat × List Bool))) (hs224 z) am_r224 am_k224 (by rw [am_l224]; decide) (am_kc 66 (fun al st M => match al, st with
      | [some (.inr (.inr (11, 205))), some (.inl x1), none], [] => f224_66 z n x1 M
      | _, _ => none) (am_kc 94 (fun al st M => match al, st with
      | [some (.inr (.inr (11, 205))), some (.inl x1), none], [] => f224_94 z z x1 M
      | _, _ => none) am_k0)) 17 h (am_kc_ok (fun al st M hk => by
      split at hk
      · exact ih _ _ _ hk
      · cases hk) (am_kc_ok (fun al st M hk => by
      split at hk
      · exact e224_94 z _ _ _ _ hk
      · cases hk) am_k0_ok))
def f224_2 (z : Nat) : Nat → Int32 → aM → Option aR
  | 0, _, _ => none
  | n + 1, x1, M =>
    if (16 : Int32) ≤ x1 then
      f224_66 z z (0 : Int32) M
    else
      am_bi (f172 z (M.1 205 17) x1 M) fun v2 M1 =>
        if ¬ v2 = (1 : Int32) then
          if am_inB x1 16 then
            let I3 := am_u M1.1 213 x1.toNatClampNeg (0 : Int32)
            if am_inB x1 16 then
              let I4 := am_u I3 216 x1.toNatClampNeg (0 : Int32)
              if am_inB x1 16 then
                let I5 := am_u I4 217 x1.toNatClampNeg (0 : Int32)
                f224_2 z n (x1 + (1 : Int32)) (I5, M1.2)
              else
                none
            else
              none
          else
            none
        else
          am_bi (f178 z M1) fun v7 M6 =>
            if v7 ≤ x1 then
              if am_inB x1 16 then
                let I8 := am_u M6.1 213 x1.toNatClampNeg (0 : Int32)
                if am_inB x1 16 then
                  let I9 := am_u I8 216 x1.toNatClampNeg (0 : Int32)
                  if am_inB x1 16 then
                    let I10 := am_u I9 217 x1.toNatClampNeg (0 : Int32)
                    f224_2 z n (x1 + (1 : Int32)) (I10, M6.2)
                  else
                    none
                else
                  none
              else
                none
            else
              if am_inB x1 16 then
                if am_inB x1 16 then
                  let I11 := am_u M6.1 213 x1.toNatClampNeg (M6.1 212 x1.toNatClampNeg)
                  if am_inB x1 16 then
                    let I12 := am_u I11 216 x1.toNatClampNeg (0 : Int32)
                    if am_inB x1 16 then
                      let I13 := am_u I12 217 x1.toNatClampNeg (0 : Int32)
                      f224_2 z n (x1 + (1 : Int32)) (I13, M6.2)
                    else
                      none
                  else
                    none
                else
                  none
              else
                none
set_option maxRecDepth 100000 in
set_option maxHeartbeats 4000000 in
theorem e224_2 (z : Nat) : ∀ (n : Nat) (x1 : Int32) (M : aM) (r : aR), f224_2 z n x1 M = some r → am_Ev 9 224 2 [some (.inr (.inr (11, 205))), some (.inl x1), none] [] M r := by
  intro n
  induction n with
  | zero =>
    intro x1 M r h
    cases h
  | succ n ih =>
    intro x1 M r h
    exact am_Ev_seg (sem := am_s224_ z) (cut := ([(2, [true, true, false]), (66, [true, true, false])] : List (Nat × List Bool))) (hs224 z) am_r224 am_k224 (by rw [am_l224]; decide) (am_kc 2 (fun al st M => match al, st with
      | [some (.inr (.inr (11, 205))), some (.inl x1), none], [] => f224_2 z n x1 M
      | _, _ => none) (am_kc 66 (fun al st M => match al, st with
      | [some (.inr (.inr (11, 205))), some (.inl x1), none], [] => f224_66 z z x1 M
      | _, _ => none) am_k0)) 36 h (am_kc_ok (fun al st M hk => by
      split at hk
      · exact ih _ _ _ hk
      · cases hk) (am_kc_ok (fun al st M hk => by
      split at hk
      · exact e224_66 z _ _ _ _ hk
      · cases hk) am_k0_ok))
/-- ArgumentMenderModel.goAll()V -/
def f224 (z : Nat) (M : aM) : Option aR :=
  f224_2 z z (0 : Int32) M
set_option maxRecDepth 100000 in
set_option maxHeartbeats 4000000 in
theorem e224 (z : Nat) : ∀ (M : aM) (r : aR), f224 z  M = some r → am_Ev 9 224 0 [some (.inr (.inr (11, 205))), none, none] [] M r := by
  intro  M r h
  exact am_Ev_seg (sem := am_s224_ z) (cut := ([(2, [true, true, false])] : List (Nat × List Bool))) (hs224 z) am_r224 am_k224 (by rw [am_l224]; decide) (am_kc 2 (fun al st M => match al, st with
      | [some (.inr (.inr (11, 205))), some (.inl x1), none], [] => f224_2 z z x1 M
      | _, _ => none) am_k0) 4 h (am_kc_ok (fun al st M hk => by
      split at hk
      · exact e224_2 z _ _ _ _ hk
      · cases hk) am_k0_ok)
def F224 (z : Nat) (as : List aV) (M : aM) : Option aR := match as with
  | [.inr (.inr (11, 205))] => f224 z  M
  | _ => none
theorem S224 (z : Nat) : am_Snd 9 224 (F224 z) := am_meth (by decide +kernel) (fun as M r has h => by
    rw [am_l224]
    unfold F224 at h
    split at h
    · exact ⟨Nat.le_of_ble_eq_true rfl, e224 z _ _ h⟩
    · cases h)
def cd225_0 : List am_E := [(0, .aload_n 0, 1, 0, 0, 0, 0), (1, .invokevirtual 329, 3, 211, 11004, 0, 0), (4, .aload_n 0, 1, 0, 0, 0, 0), (5, .invokevirtual 332, 3, 224, 11004, 0, 0), (8, .aload_n 0, 1, 0, 0, 0, 0), (9, .invokevirtual 107, 3, 175, 11000, 0, 0), (12, .ireturn, 1, 0, 0, 0, 0)]
def cd225 : List am_E := cd225_0
def am_w225 : List (List (Int32 × Nat) × Nat) := []
set_option maxRecDepth 100000 in
theorem kcd225_0 : cd225_0.all (am_chk am_w225 225) = true := by decide +kernel
theorem am_k225 : cd225.all (am_chk am_w225 225) = true := by
  simp only [cd225, List.all_append, kcd225_0, Bool.and_self]
theorem am_r225 : am_rtc 225 = 1 := by decide +kernel
theorem am_l225 : am_ml 225 = 1 := by decide +kernel
def am_s225_ (z : Nat) : Nat → List aV → aM → Option aR := (am_sm 175 (F175 z) (am_sm 211 (F211 z) (am_sm 224 (F224 z) am_s0)))
theorem hs225 (z : Nat) : ∀ j2 : Nat, ∃ d2 : Nat, d2 + 1 ≤ 10 ∧ am_Snd d2 j2 (am_s225_ z j2) := (am_sm_ok (S175 z) (by decide) (am_sm_ok (S211 z) (by decide) (am_sm_ok (S224 z) (by decide) (am_s0_ok (by decide)))))
/-- ArgumentMenderModel.asksCloth()Z -/
def f225 (z : Nat) (M : aM) : Option aR :=
  am_bv (f211 z M) fun M1 =>
    am_bv (f224 z M1) fun M2 =>
      am_bi (f175 z M2) fun v4 M3 =>
        some (some (.inl (v4 &&& 1)), M3)
set_option maxRecDepth 100000 in
set_option maxHeartbeats 4000000 in
theorem e225 (z : Nat) : ∀ (M : aM) (r : aR), f225 z  M = some r → am_Ev 10 225 0 [some (.inr (.inr (11, 205)))] [] M r := by
  intro  M r h
  exact am_Ev_seg (sem := am_s225_ z) (cut := ([] : List (Nat × List Bool))) (hs225 z) am_r225 am_k225 (by rw [am_l225]; decide) am_k0 8 h am_k0_ok
def F225 (z : Nat) (as : List aV) (M : aM) : Option aR := match as with
  | [.inr (.inr (11, 205))] => f225 z  M
  | _ => none
theorem S225 (z : Nat) : am_Snd 10 225 (F225 z) := am_meth (by decide +kernel) (fun as M r has h => by
    rw [am_l225]
    unfold F225 at h
    split at h
    · exact ⟨Nat.le_of_ble_eq_true rfl, e225 z _ _ h⟩
    · cases h)
def cd226_0 : List am_E := [(0, .aload_n 0, 1, 0, 0, 0, 0), (1, .invokevirtual 335, 3, 225, 11000, 0, 0), (4, .pop, 1, 0, 0, 0, 0), (5, .aload_n 0, 1, 0, 0, 0, 0), (6, .iload_n 1, 1, 1, 0, 0, 0), (7, .i2l, 1, 0, 0, 0, 0), (8, .invokevirtual 338, 3, 180, 11010, 0, 0), (11, .ireturn, 1, 0, 0, 0, 0)]
def cd226 : List am_E := cd226_0
def am_w226 : List (List (Int32 × Nat) × Nat) := []
set_option maxRecDepth 100000 in
theorem kcd226_0 : cd226_0.all (am_chk am_w226 226) = true := by decide +kernel
theorem am_k226 : cd226.all (am_chk am_w226 226) = true := by
  simp only [cd226, List.all_append, kcd226_0, Bool.and_self]
theorem am_r226 : am_rtc 226 = 1 := by decide +kernel
theorem am_l226 : am_ml 226 = 2 := by decide +kernel
def am_s226_ (z : Nat) : Nat → List aV → aM → Option aR := (am_sm 180 (F180 z) (am_sm 225 (F225 z) am_s0))
theorem hs226 (z : Nat) : ∀ j2 : Nat, ∃ d2 : Nat, d2 + 1 ≤ 11 ∧ am_Snd d2 j2 (am_s226_ z j2) := (am_sm_ok (S180 z) (by decide) (am_sm_ok (S225 z) (by decide) (am_s0_ok (by decide))))
/-- ArgumentMenderModel.asksYear(I)Z -/
def f226 (z : Nat) (x1 : Int32) (M : aM) : Option aR :=
  am_bi (f225 z M) fun v2 M1 =>
    am_bi (f180 z (Int32.toInt64 x1) M1) fun v4 M3 =>
      some (some (.inl (v4 &&& 1)), M3)
set_option maxRecDepth 100000 in
set_option maxHeartbeats 4000000 in
theorem e226 (z : Nat) : ∀ (x1 : Int32) (M : aM) (r : aR), f226 z x1 M = some r → am_Ev 11 226 0 [some (.inr (.inr (11, 205))), some (.inl x1)] [] M r := by
  intro x1 M r h
  exact am_Ev_seg (sem := am_s226_ z) (cut := ([] : List (Nat × List Bool))) (hs226 z) am_r226 am_k226 (by rw [am_l226]; decide) am_k0 9 h am_k0_ok
def F226 (z : Nat) (as : List aV) (M : aM) : Option aR := match as with
  | [.inr (.inr (11, 205)), .inl x1] => f226 z x1 M
  | _ => none
theorem S226 (z : Nat) : am_Snd 11 226 (F226 z) := am_meth (by decide +kernel) (fun as M r has h => by
    rw [am_l226]
    unfold F226 at h
    split at h
    · exact ⟨Nat.le_of_ble_eq_true rfl, e226 z _ _ _ h⟩
    · cases h)
def cd227_0 : List am_E := [(0, .aload_n 0, 1, 0, 0, 0, 0), (1, .getfield 52, 3, 11, 28, 0, 0), (4, .bipush 16, 2, 0, 0, 16, 0), (6, .iload_n 2, 1, 2, 0, 0, 0), (7, .imul, 1, 0, 0, 0, 0), (8, .iload_n 1, 1, 1, 0, 0, 0), (9, .iadd, 1, 0, 0, 0, 0), (10, .iaload, 1, 0, 0, 0, 0), (11, .ireturn, 1, 0, 0, 0, 0)]
def cd227 : List am_E := cd227_0
def am_w227 : List (List (Int32 × Nat) × Nat) := []
set_option maxRecDepth 100000 in
theorem kcd227_0 : cd227_0.all (am_chk am_w227 227) = true := by decide +kernel
theorem am_k227 : cd227.all (am_chk am_w227 227) = true := by
  simp only [cd227, List.all_append, kcd227_0, Bool.and_self]
theorem am_r227 : am_rtc 227 = 0 := by decide +kernel
theorem am_l227 : am_ml 227 = 3 := by decide +kernel
def am_s227_ (z : Nat) : Nat → List aV → aM → Option aR := am_s0
theorem hs227 (z : Nat) : ∀ j2 : Nat, ∃ d2 : Nat, d2 + 1 ≤ 1 ∧ am_Snd d2 j2 (am_s227_ z j2) := (am_s0_ok (by decide))
/-- ArgumentMenderModel.strengthOf(II)I -/
def f227 (z : Nat) (x1 : Int32) (x2 : Int32) (M : aM) : Option aR :=
  if am_inB (((16 : Int32) * x2) + x1) 208 then
    some (some (.inl (M.1 218 (((16 : Int32) * x2) + x1).toNatClampNeg)), M)
  else
    none
set_option maxRecDepth 100000 in
set_option maxHeartbeats 4000000 in
theorem e227 (z : Nat) : ∀ (x1 : Int32) (x2 : Int32) (M : aM) (r : aR), f227 z x1 x2 M = some r → am_Ev 1 227 0 [some (.inr (.inr (11, 205))), some (.inl x1), some (.inl x2)] [] M r := by
  intro x1 x2 M r h
  exact am_Ev_seg (sem := am_s227_ z) (cut := ([] : List (Nat × List Bool))) (hs227 z) am_r227 am_k227 (by rw [am_l227]; decide) am_k0 10 h am_k0_ok
def F227 (z : Nat) (as : List aV) (M : aM) : Option aR := match as with
  | [.inr (.inr (11, 205)), .inl x1, .inl x2] => f227 z x1 x2 M
  | _ => none
theorem S227 (z : Nat) : am_Snd 1 227 (F227 z) := am_meth (by decide +kernel) (fun as M r has h => by
    rw [am_l227]
    unfold F227 at h
    split at h
    · exact ⟨Nat.le_of_ble_eq_true rfl, e227 z _ _ _ _ h⟩
    · cases h)
def cd228_0 : List am_E := [(0, .iconst 0, 1, 0, 0, 0, 0), (1, .istore_n 2, 1, 2, 0, 0, 0), (2, .iconst 0, 1, 0, 0, 0, 0), (3, .istore_n 3, 1, 3, 0, 0, 0), (4, .iload_n 3, 1, 3, 0, 0, 0), (5, .aload_n 0, 1, 0, 0, 0, 0), (6, .invokevirtual 118, 3, 178, 11000, 0, 0), (9, .if_icmp .ge 28, 3, 37, 0, 0, 0), (12, .iload_n 2, 1, 2, 0, 0, 0), (13, .aload_n 0, 1, 0, 0, 0, 0), (14, .iload_n 3, 1, 3, 0, 0, 0), (15, .iload_n 1, 1, 1, 0, 0, 0), (16, .invokevirtual 341, 3, 227, 11020, 0, 0), (19, .ifCond .ne 9, 3, 28, 0, 0, 0), (22, .iconst 1, 1, 0, 0, 1, 0), (23, .iload_n 3, 1, 3, 0, 0, 0), (24, .ishl, 1, 0, 0, 0, 0), (25, .goto 4, 3, 29, 0, 0, 0), (28, .iconst 0, 1, 0, 0, 0, 0), (29, .ior, 1, 0, 0, 0, 0), (30, .istore_n 2, 1, 2, 0, 0, 0), (31, .iinc 3 1, 3, 3, 0, 1, 0), (34, .goto (-30), 3, 4, 0, 0, 0), (37, .iload_n 2, 1, 2, 0, 0, 0), (38, .ireturn, 1, 0, 0, 0, 0)]
def cd228 : List am_E := cd228_0
def am_w228 : List (List (Int32 × Nat) × Nat) := []
set_option maxRecDepth 100000 in
theorem kcd228_0 : cd228_0.all (am_chk am_w228 228) = true := by decide +kernel
theorem am_k228 : cd228.all (am_chk am_w228 228) = true := by
  simp only [cd228, List.all_append, kcd228_0, Bool.and_self]
theorem am_r228 : am_rtc 228 = 0 := by decide +kernel
theorem am_l228 : am_ml 228 = 4 := by decide +kernel
def am_s228_ (z : Nat) : Nat → List aV → aM → Option aR := (am_sm 178 (F178 z) (am_sm 227 (F227 z) am_s0))
theorem hs228 (z : Nat) : ∀ j2 : Nat, ∃ d2 : Nat, d2 + 1 ≤ 2 ∧ am_Snd d2 j2 (am_s228_ z j2) := (am_sm_ok (S178 z) (by decide) (am_sm_ok (S227 z) (by decide) (am_s0_ok (by decide))))
def f228_4 (z : Nat) : Nat → Int32 → Int32 → Int32 → aM → Option aR
  | 0, _, _, _, _ => none
  | n + 1, x1, x2, x3, M =>
    am_bi (f178 z M) fun v2 M1 =>
      if v2 ≤ x3 then
        some (some (.inl x2), M1)
      else
        am_bi (f227 z x3 x1 M1) fun v4 M3 =>
          if ¬ v4 = 0 then
            f228_4 z n x1 (x2 ||| (0 : Int32)) (x3 + (1 : Int32)) M3
          else
            f228_4 z n x1 (x2 ||| ((1 : Int32) <<< (x3 &&& 31))) (x3 + (1 : Int32)) M3
set_option maxRecDepth 100000 in
set_option maxHeartbeats 4000000 in
theorem e228_4 (z : Nat) : ∀ (n : Nat) (x1 : Int32) (x2 : Int32) (x3 : Int32) (M : aM) (r : aR), f228_4 z n x1 x2 x3 M = some r → am_Ev 2 228 4 [some (.inr (.inr (11, 205))), some (.inl x1), some (.inl x2), some (.inl x3)] [] M r := by
  intro n
  induction n with
  | zero =>
    intro x1 x2 x3 M r h
    cases h
  | succ n ih =>
    intro x1 x2 x3 M r h
    exact am_Ev_seg (sem := am_s228_ z) (cut := ([(4, [true, true, true, true])] : List (Nat × List Bool))) (hs228 z) am_r228 am_k228 (by rw [am_l228]; decide) (am_kc 4 (fun al st M => match al, st with
      | [some (.inr (.inr (11, 205))), some (.inl x1), some (.inl x2), some (.inl x3)], [] => f228_4 z n x1 x2 x3 M
      | _, _ => none) am_k0) 20 h (am_kc_ok (fun al st M hk => by
      split at hk
      · exact ih _ _ _ _ _ hk
      · cases hk) am_k0_ok)
/-- ArgumentMenderModel.tornIn(I)I -/
def f228 (z : Nat) (x1 : Int32) (M : aM) : Option aR :=
  f228_4 z z x1 (0 : Int32) (0 : Int32) M
set_option maxRecDepth 100000 in
set_option maxHeartbeats 4000000 in
theorem e228 (z : Nat) : ∀ (x1 : Int32) (M : aM) (r : aR), f228 z x1 M = some r → am_Ev 2 228 0 [some (.inr (.inr (11, 205))), some (.inl x1), none, none] [] M r := by
  intro x1 M r h
  exact am_Ev_seg (sem := am_s228_ z) (cut := ([(4, [true, true, true, true])] : List (Nat × List Bool))) (hs228 z) am_r228 am_k228 (by rw [am_l228]; decide) (am_kc 4 (fun al st M => match al, st with
      | [some (.inr (.inr (11, 205))), some (.inl x1), some (.inl x2), some (.inl x3)], [] => f228_4 z z x1 x2 x3 M
      | _, _ => none) am_k0) 6 h (am_kc_ok (fun al st M hk => by
      split at hk
      · exact e228_4 z _ _ _ _ _ _ hk
      · cases hk) am_k0_ok)
def F228 (z : Nat) (as : List aV) (M : aM) : Option aR := match as with
  | [.inr (.inr (11, 205)), .inl x1] => f228 z x1 M
  | _ => none
theorem S228 (z : Nat) : am_Snd 2 228 (F228 z) := am_meth (by decide +kernel) (fun as M r has h => by
    rw [am_l228]
    unfold F228 at h
    split at h
    · exact ⟨Nat.le_of_ble_eq_true rfl, e228 z _ _ _ h⟩
    · cases h)
def cd229_0 : List am_E := [(0, .iconst 1, 1, 0, 0, 1, 0), (1, .aload_n 0, 1, 0, 0, 0, 0), (2, .invokevirtual 118, 3, 178, 11000, 0, 0), (5, .ishl, 1, 0, 0, 0, 0), (6, .iconst 1, 1, 0, 0, 1, 0), (7, .isub, 1, 0, 0, 0, 0), (8, .aload_n 0, 1, 0, 0, 0, 0), (9, .iload_n 1, 1, 1, 0, 0, 0), (10, .invokevirtual 344, 3, 228, 11010, 0, 0), (13, .iconst (-1), 1, 0, 0, (-1), 0), (14, .ixor, 1, 0, 0, 0, 0), (15, .iand, 1, 0, 0, 0, 0), (16, .ireturn, 1, 0, 0, 0, 0)]
def cd229 : List am_E := cd229_0
def am_w229 : List (List (Int32 × Nat) × Nat) := []
set_option maxRecDepth 100000 in
theorem kcd229_0 : cd229_0.all (am_chk am_w229 229) = true := by decide +kernel
theorem am_k229 : cd229.all (am_chk am_w229 229) = true := by
  simp only [cd229, List.all_append, kcd229_0, Bool.and_self]
theorem am_r229 : am_rtc 229 = 0 := by decide +kernel
theorem am_l229 : am_ml 229 = 2 := by decide +kernel
def am_s229_ (z : Nat) : Nat → List aV → aM → Option aR := (am_sm 178 (F178 z) (am_sm 228 (F228 z) am_s0))
theorem hs229 (z : Nat) : ∀ j2 : Nat, ∃ d2 : Nat, d2 + 1 ≤ 3 ∧ am_Snd d2 j2 (am_s229_ z j2) := (am_sm_ok (S178 z) (by decide) (am_sm_ok (S228 z) (by decide) (am_s0_ok (by decide))))
/-- ArgumentMenderModel.wholeIn(I)I -/
def f229 (z : Nat) (x1 : Int32) (M : aM) : Option aR :=
  am_bi (f178 z M) fun v2 M1 =>
    am_bi (f228 z x1 M1) fun v4 M3 =>
      some (some (.inl ((((1 : Int32) <<< (v2 &&& 31)) - (1 : Int32)) &&& (v4 ^^^ (-1 : Int32)))), M3)
set_option maxRecDepth 100000 in
set_option maxHeartbeats 4000000 in
theorem e229 (z : Nat) : ∀ (x1 : Int32) (M : aM) (r : aR), f229 z x1 M = some r → am_Ev 3 229 0 [some (.inr (.inr (11, 205))), some (.inl x1)] [] M r := by
  intro x1 M r h
  exact am_Ev_seg (sem := am_s229_ z) (cut := ([] : List (Nat × List Bool))) (hs229 z) am_r229 am_k229 (by rw [am_l229]; decide) am_k0 14 h am_k0_ok
def F229 (z : Nat) (as : List aV) (M : aM) : Option aR := match as with
  | [.inr (.inr (11, 205)), .inl x1] => f229 z x1 M
  | _ => none
theorem S229 (z : Nat) : am_Snd 3 229 (F229 z) := am_meth (by decide +kernel) (fun as M r has h => by
    rw [am_l229]
    unfold F229 at h
    split at h
    · exact ⟨Nat.le_of_ble_eq_true rfl, e229 z _ _ _ h⟩
    · cases h)
def cd230_0 : List am_E := [(0, .iconst 0, 1, 0, 0, 0, 0), (1, .istore_n 2, 1, 2, 0, 0, 0), (2, .iconst 0, 1, 0, 0, 0, 0), (3, .istore_n 3, 1, 3, 0, 0, 0), (4, .iload_n 3, 1, 3, 0, 0, 0), (5, .aload_n 0, 1, 0, 0, 0, 0), (6, .invokevirtual 115, 3, 177, 11000, 0, 0), (9, .if_icmp .ge 101, 3, 110, 0, 0, 0), (12, .iconst 0, 1, 0, 0, 0, 0), (13, .istore 4, 2, 4, 0, 0, 0), (15, .iconst 0, 1, 0, 0, 0, 0), (16, .istore 5, 2, 5, 0, 0, 0), (18, .iload 5, 2, 5, 0, 0, 0), (20, .aload_n 0, 1, 0, 0, 0, 0), (21, .invokevirtual 118, 3, 178, 11000, 0, 0), (24, .if_icmp .ge 65, 3, 89, 0, 0, 0), (27, .iload 4, 2, 4, 0, 0, 0), (29, .ifCond .ne 47, 3, 76, 0, 0, 0), (32, .iload_n 1, 1, 1, 0, 0, 0), (33, .iload 5, 2, 5, 0, 0, 0), (35, .invokestatic 300, 3, 172, 25, 0, 0), (38, .iconst 1, 1, 0, 0, 1, 0), (39, .if_icmp .ne 41, 3, 80, 0, 0, 0), (42, .aload_n 0, 1, 0, 0, 0, 0), (43, .iload 5, 2, 5, 0, 0, 0), (45, .invokevirtual 252, 3, 185, 11010, 0, 0), (48, .iload_n 3, 1, 3, 0, 0, 0), (49, .if_icmp .ne 31, 3, 80, 0, 0, 0), (52, .aload_n 0, 1, 0, 0, 0, 0), (53, .iload 5, 2, 5, 0, 0, 0), (55, .invokevirtual 291, 3, 186, 11010, 0, 0), (58, .iconst (-1), 1, 0, 0, (-1), 0), (59, .if_icmp .eq 17, 3, 76, 0, 0, 0), (62, .iload_n 2, 1, 2, 0, 0, 0), (63, .aload_n 0, 1, 0, 0, 0, 0), (64, .iload 5, 2, 5, 0, 0, 0), (66, .invokevirtual 291, 3, 186, 11010, 0, 0), (69, .invokestatic 300, 3, 172, 25, 0, 0), (72, .iconst 1, 1, 0, 0, 1, 0), (73, .if_icmp .ne 7, 3, 80, 0, 0, 0)]
def cd230_1 : List am_E := [(76, .iconst 1, 1, 0, 0, 1, 0), (77, .goto 4, 3, 81, 0, 0, 0), (80, .iconst 0, 1, 0, 0, 0, 0), (81, .istore 4, 2, 4, 0, 0, 0), (83, .iinc 5 1, 3, 5, 0, 1, 0), (86, .goto (-68), 3, 18, 0, 0, 0), (89, .iload_n 2, 1, 2, 0, 0, 0), (90, .iload 4, 2, 4, 0, 0, 0), (92, .ifCond .eq 9, 3, 101, 0, 0, 0), (95, .iconst 1, 1, 0, 0, 1, 0), (96, .iload_n 3, 1, 3, 0, 0, 0), (97, .ishl, 1, 0, 0, 0, 0), (98, .goto 4, 3, 102, 0, 0, 0), (101, .iconst 0, 1, 0, 0, 0, 0), (102, .ior, 1, 0, 0, 0, 0), (103, .istore_n 2, 1, 2, 0, 0, 0), (104, .iinc 3 1, 3, 3, 0, 1, 0), (107, .goto (-103), 3, 4, 0, 0, 0), (110, .iload_n 2, 1, 2, 0, 0, 0), (111, .ireturn, 1, 0, 0, 0, 0)]
def cd230 : List am_E := cd230_0 ++ (cd230_1)
def am_w230 : List (List (Int32 × Nat) × Nat) := []
set_option maxRecDepth 100000 in
theorem kcd230_0 : cd230_0.all (am_chk am_w230 230) = true := by decide +kernel
set_option maxRecDepth 100000 in
theorem kcd230_1 : cd230_1.all (am_chk am_w230 230) = true := by decide +kernel
theorem am_k230 : cd230.all (am_chk am_w230 230) = true := by
  simp only [cd230, List.all_append, kcd230_0, kcd230_1, Bool.and_self]
theorem am_r230 : am_rtc 230 = 0 := by decide +kernel
theorem am_l230 : am_ml 230 = 6 := by decide +kernel
def am_s230_ (z : Nat) : Nat → List aV → aM → Option aR := (am_sm 172 (F172 z) (am_sm 177 (F177 z) (am_sm 178 (F178 z) (am_sm 185 (F185 z) (am_sm 186 (F186 z) am_s0)))))
theorem hs230 (z : Nat) : ∀ j2 : Nat, ∃ d2 : Nat, d2 + 1 ≤ 2 ∧ am_Snd d2 j2 (am_s230_ z j2) := (am_sm_ok (S172 z) (by decide) (am_sm_ok (S177 z) (by decide) (am_sm_ok (S178 z) (by decide) (am_sm_ok (S185 z) (by decide) (am_sm_ok (S186 z) (by decide) (am_s0_ok (by decide)))))))
def f230_18 (z : Nat) (k4 : Int32 → Int32 → Int32 → aM → Option aR) : Nat → Int32 → Int32 → Int32 → Int32 → Int32 → aM → Option aR
  | 0, _, _, _, _, _, _ => none
  | n + 1, x1, x2, x3, x4, x5, M =>
    am_bi (f178 z M) fun v2 M1 =>
      if v2 ≤ x5 then
        if x4 = 0 then
          k4 x1 (x2 ||| (0 : Int32)) (x3 + (1 : Int32)) M1
        else
          k4 x1 (x2 ||| ((1 : Int32) <<< (x3 &&& 31))) (x3 + (1 : Int32)) M1
      else
        if ¬ x4 = 0 then
          f230_18 z k4 n x1 x2 x3 (1 : Int32) (x5 + (1 : Int32)) M1
        else
          am_bi (f172 z x1 x5 M1) fun v4 M3 =>
            if ¬ v4 = (1 : Int32) then
              f230_18 z k4 n x1 x2 x3 (0 : Int32) (x5 + (1 : Int32)) M3
            else
              am_bi (f185 z x5 M3) fun v6 M5 =>
                if ¬ v6 = x3 then
                  f230_18 z k4 n x1 x2 x3 (0 : Int32) (x5 + (1 : Int32)) M5
                else
                  am_bi (f186 z x5 M5) fun v8 M7 =>
                    if v8 = (-1 : Int32) then
                      f230_18 z k4 n x1 x2 x3 (1 : Int32) (x5 + (1 : Int32)) M7
                    else
                      am_bi (f186 z x5 M7) fun v10 M9 =>
                        am_bi (f172 z x2 v10 M9) fun v12 M11 =>
                          if ¬ v12 = (1 : Int32) then
                            f230_18 z k4 n x1 x2 x3 (0 : Int32) (x5 + (1 : Int32)) M11
                          else
                            f230_18 z k4 n x1 x2 x3 (1 : Int32) (x5 + (1 : Int32)) M11
set_option maxRecDepth 100000 in
set_option maxHeartbeats 4000000 in
theorem e230_18 (z : Nat) (k4 : Int32 → Int32 → Int32 → aM → Option aR) (hk4 : ∀ (x1 : Int32) (x2 : Int32) (x3 : Int32) (M : aM) (r : aR), k4 x1 x2 x3 M = some r → am_Ev 2 230 4 [some (.inr (.inr (11, 205))), some (.inl x1), some (.inl x2), some (.inl x3), none, none] [] M r) : ∀ (n : Nat) (x1 : Int32) (x2 : Int32) (x3 : Int32) (x4 : Int32) (x5 : Int32) (M : aM) (r : aR), f230_18 z k4 n x1 x2 x3 x4 x5 M = some r → am_Ev 2 230 18 [some (.inr (.inr (11, 205))), some (.inl x1), some (.inl x2), some (.inl x3), some (.inl x4), some (.inl x5)] [] M r := by
  intro n
  induction n with
  | zero =>
    intro x1 x2 x3 x4 x5 M r h
    cases h
  | succ n ih =>
    intro x1 x2 x3 x4 x5 M r h
    exact am_Ev_seg (sem := am_s230_ z) (cut := ([(4, [true, true, true, true, false, false]), (18, [true, true, true, true, true, true])] : List (Nat × List Bool))) (hs230 z) am_r230 am_k230 (by rw [am_l230]; decide) (am_kc 4 (fun al st M => match al, st with
      | [some (.inr (.inr (11, 205))), some (.inl x1), some (.inl x2), some (.inl x3), none, none], [] => k4 x1 x2 x3 M
      | _, _ => none) (am_kc 18 (fun al st M => match al, st with
      | [some (.inr (.inr (11, 205))), some (.inl x1), some (.inl x2), some (.inl x3), some (.inl x4), some (.inl x5)], [] => f230_18 z k4 n x1 x2 x3 x4 x5 M
      | _, _ => none) am_k0)) 35 h (am_kc_ok (fun al st M hk => by
      split at hk
      · exact hk4 _ _ _ _ _ hk
      · cases hk) (am_kc_ok (fun al st M hk => by
      split at hk
      · exact ih _ _ _ _ _ _ _ hk
      · cases hk) am_k0_ok))
def f230_4 (z : Nat) : Nat → Int32 → Int32 → Int32 → aM → Option aR
  | 0, _, _, _, _ => none
  | n + 1, x1, x2, x3, M =>
    am_bi (f177 z M) fun v2 M1 =>
      if v2 ≤ x3 then
        some (some (.inl x2), M1)
      else
        f230_18 z (f230_4 z n) z x1 x2 x3 (0 : Int32) (0 : Int32) M1
set_option maxRecDepth 100000 in
set_option maxHeartbeats 4000000 in
theorem e230_4 (z : Nat) : ∀ (n : Nat) (x1 : Int32) (x2 : Int32) (x3 : Int32) (M : aM) (r : aR), f230_4 z n x1 x2 x3 M = some r → am_Ev 2 230 4 [some (.inr (.inr (11, 205))), some (.inl x1), some (.inl x2), some (.inl x3), none, none] [] M r := by
  intro n
  induction n with
  | zero =>
    intro x1 x2 x3 M r h
    cases h
  | succ n ih =>
    intro x1 x2 x3 M r h
    exact am_Ev_seg (sem := am_s230_ z) (cut := ([(18, [true, true, true, true, true, true])] : List (Nat × List Bool))) (hs230 z) am_r230 am_k230 (by rw [am_l230]; decide) (am_kc 18 (fun al st M => match al, st with
      | [some (.inr (.inr (11, 205))), some (.inl x1), some (.inl x2), some (.inl x3), some (.inl x4), some (.inl x5)], [] => f230_18 z (f230_4 z n) z x1 x2 x3 x4 x5 M
      | _, _ => none) am_k0) 10 h (am_kc_ok (fun al st M hk => by
      split at hk
      · exact e230_18 z _ ih _ _ _ _ _ _ _ _ hk
      · cases hk) am_k0_ok)
/-- ArgumentMenderModel.hungBy(I)I -/
def f230 (z : Nat) (x1 : Int32) (M : aM) : Option aR :=
  f230_4 z z x1 (0 : Int32) (0 : Int32) M
set_option maxRecDepth 100000 in
set_option maxHeartbeats 4000000 in
theorem e230 (z : Nat) : ∀ (x1 : Int32) (M : aM) (r : aR), f230 z x1 M = some r → am_Ev 2 230 0 [some (.inr (.inr (11, 205))), some (.inl x1), none, none, none, none] [] M r := by
  intro x1 M r h
  exact am_Ev_seg (sem := am_s230_ z) (cut := ([(4, [true, true, true, true, false, false])] : List (Nat × List Bool))) (hs230 z) am_r230 am_k230 (by rw [am_l230]; decide) (am_kc 4 (fun al st M => match al, st with
      | [some (.inr (.inr (11, 205))), some (.inl x1), some (.inl x2), some (.inl x3), none, none], [] => f230_4 z z x1 x2 x3 M
      | _, _ => none) am_k0) 6 h (am_kc_ok (fun al st M hk => by
      split at hk
      · exact e230_4 z _ _ _ _ _ _ hk
      · cases hk) am_k0_ok)
def F230 (z : Nat) (as : List aV) (M : aM) : Option aR := match as with
  | [.inr (.inr (11, 205)), .inl x1] => f230 z x1 M
  | _ => none
theorem S230 (z : Nat) : am_Snd 2 230 (F230 z) := am_meth (by decide +kernel) (fun as M r has h => by
    rw [am_l230]
    unfold F230 at h
    split at h
    · exact ⟨Nat.le_of_ble_eq_true rfl, e230 z _ _ _ h⟩
    · cases h)
def cd231_0 : List am_E := [(0, .aload_n 0, 1, 0, 0, 0, 0), (1, .aload_n 0, 1, 0, 0, 0, 0), (2, .iload_n 1, 1, 1, 0, 0, 0), (3, .invokevirtual 347, 3, 229, 11010, 0, 0), (6, .invokevirtual 350, 3, 230, 11010, 0, 0), (9, .ireturn, 1, 0, 0, 0, 0)]
def cd231 : List am_E := cd231_0
def am_w231 : List (List (Int32 × Nat) × Nat) := []
set_option maxRecDepth 100000 in
theorem kcd231_0 : cd231_0.all (am_chk am_w231 231) = true := by decide +kernel
theorem am_k231 : cd231.all (am_chk am_w231 231) = true := by
  simp only [cd231, List.all_append, kcd231_0, Bool.and_self]
theorem am_r231 : am_rtc 231 = 0 := by decide +kernel
theorem am_l231 : am_ml 231 = 2 := by decide +kernel
def am_s231_ (z : Nat) : Nat → List aV → aM → Option aR := (am_sm 229 (F229 z) (am_sm 230 (F230 z) am_s0))
theorem hs231 (z : Nat) : ∀ j2 : Nat, ∃ d2 : Nat, d2 + 1 ≤ 4 ∧ am_Snd d2 j2 (am_s231_ z j2) := (am_sm_ok (S229 z) (by decide) (am_sm_ok (S230 z) (by decide) (am_s0_ok (by decide))))
/-- ArgumentMenderModel.hungIn(I)I -/
def f231 (z : Nat) (x1 : Int32) (M : aM) : Option aR :=
  am_bi (f229 z x1 M) fun v2 M1 =>
    am_bi (f230 z v2 M1) fun v4 M3 =>
      some (some (.inl v4), M3)
set_option maxRecDepth 100000 in
set_option maxHeartbeats 4000000 in
theorem e231 (z : Nat) : ∀ (x1 : Int32) (M : aM) (r : aR), f231 z x1 M = some r → am_Ev 4 231 0 [some (.inr (.inr (11, 205))), some (.inl x1)] [] M r := by
  intro x1 M r h
  exact am_Ev_seg (sem := am_s231_ z) (cut := ([] : List (Nat × List Bool))) (hs231 z) am_r231 am_k231 (by rw [am_l231]; decide) am_k0 7 h am_k0_ok
def F231 (z : Nat) (as : List aV) (M : aM) : Option aR := match as with
  | [.inr (.inr (11, 205)), .inl x1] => f231 z x1 M
  | _ => none
theorem S231 (z : Nat) : am_Snd 4 231 (F231 z) := am_meth (by decide +kernel) (fun as M r has h => by
    rw [am_l231]
    unfold F231 at h
    split at h
    · exact ⟨Nat.le_of_ble_eq_true rfl, e231 z _ _ _ h⟩
    · cases h)
def cd232_0 : List am_E := [(0, .aload_n 0, 1, 0, 0, 0, 0), (1, .aload_n 0, 1, 0, 0, 0, 0), (2, .invokevirtual 111, 3, 176, 11000, 0, 0), (5, .invokevirtual 353, 3, 231, 11010, 0, 0), (8, .ireturn, 1, 0, 0, 0, 0)]
def cd232 : List am_E := cd232_0
def am_w232 : List (List (Int32 × Nat) × Nat) := []
set_option maxRecDepth 100000 in
theorem kcd232_0 : cd232_0.all (am_chk am_w232 232) = true := by decide +kernel
theorem am_k232 : cd232.all (am_chk am_w232 232) = true := by
  simp only [cd232, List.all_append, kcd232_0, Bool.and_self]
theorem am_r232 : am_rtc 232 = 0 := by decide +kernel
theorem am_l232 : am_ml 232 = 1 := by decide +kernel
def am_s232_ (z : Nat) : Nat → List aV → aM → Option aR := (am_sm 176 (F176 z) (am_sm 231 (F231 z) am_s0))
theorem hs232 (z : Nat) : ∀ j2 : Nat, ∃ d2 : Nat, d2 + 1 ≤ 5 ∧ am_Snd d2 j2 (am_s232_ z j2) := (am_sm_ok (S176 z) (by decide) (am_sm_ok (S231 z) (by decide) (am_s0_ok (by decide))))
/-- ArgumentMenderModel.hungLast()I -/
def f232 (z : Nat) (M : aM) : Option aR :=
  am_bi (f176 z M) fun v2 M1 =>
    am_bi (f231 z v2 M1) fun v4 M3 =>
      some (some (.inl v4), M3)
set_option maxRecDepth 100000 in
set_option maxHeartbeats 4000000 in
theorem e232 (z : Nat) : ∀ (M : aM) (r : aR), f232 z  M = some r → am_Ev 5 232 0 [some (.inr (.inr (11, 205)))] [] M r := by
  intro  M r h
  exact am_Ev_seg (sem := am_s232_ z) (cut := ([] : List (Nat × List Bool))) (hs232 z) am_r232 am_k232 (by rw [am_l232]; decide) am_k0 6 h am_k0_ok
def F232 (z : Nat) (as : List aV) (M : aM) : Option aR := match as with
  | [.inr (.inr (11, 205))] => f232 z  M
  | _ => none
theorem S232 (z : Nat) : am_Snd 5 232 (F232 z) := am_meth (by decide +kernel) (fun as M r has h => by
    rw [am_l232]
    unfold F232 at h
    split at h
    · exact ⟨Nat.le_of_ble_eq_true rfl, e232 z _ _ h⟩
    · cases h)
def cd233_0 : List am_E := [(0, .iconst 1, 1, 0, 0, 1, 0), (1, .aload_n 0, 1, 0, 0, 0, 0), (2, .invokevirtual 115, 3, 177, 11000, 0, 0), (5, .ishl, 1, 0, 0, 0, 0), (6, .iconst 1, 1, 0, 0, 1, 0), (7, .isub, 1, 0, 0, 0, 0), (8, .ireturn, 1, 0, 0, 0, 0)]
def cd233 : List am_E := cd233_0
def am_w233 : List (List (Int32 × Nat) × Nat) := []
set_option maxRecDepth 100000 in
theorem kcd233_0 : cd233_0.all (am_chk am_w233 233) = true := by decide +kernel
theorem am_k233 : cd233.all (am_chk am_w233 233) = true := by
  simp only [cd233, List.all_append, kcd233_0, Bool.and_self]
theorem am_r233 : am_rtc 233 = 0 := by decide +kernel
theorem am_l233 : am_ml 233 = 1 := by decide +kernel
def am_s233_ (z : Nat) : Nat → List aV → aM → Option aR := (am_sm 177 (F177 z) am_s0)
theorem hs233 (z : Nat) : ∀ j2 : Nat, ∃ d2 : Nat, d2 + 1 ≤ 2 ∧ am_Snd d2 j2 (am_s233_ z j2) := (am_sm_ok (S177 z) (by decide) (am_s0_ok (by decide)))
/-- ArgumentMenderModel.allClaims()I -/
def f233 (z : Nat) (M : aM) : Option aR :=
  am_bi (f177 z M) fun v2 M1 =>
    some (some (.inl (((1 : Int32) <<< (v2 &&& 31)) - (1 : Int32))), M1)
set_option maxRecDepth 100000 in
set_option maxHeartbeats 4000000 in
theorem e233 (z : Nat) : ∀ (M : aM) (r : aR), f233 z  M = some r → am_Ev 2 233 0 [some (.inr (.inr (11, 205)))] [] M r := by
  intro  M r h
  exact am_Ev_seg (sem := am_s233_ z) (cut := ([] : List (Nat × List Bool))) (hs233 z) am_r233 am_k233 (by rw [am_l233]; decide) am_k0 8 h am_k0_ok
def F233 (z : Nat) (as : List aV) (M : aM) : Option aR := match as with
  | [.inr (.inr (11, 205))] => f233 z  M
  | _ => none
theorem S233 (z : Nat) : am_Snd 2 233 (F233 z) := am_meth (by decide +kernel) (fun as M r has h => by
    rw [am_l233]
    unfold F233 at h
    split at h
    · exact ⟨Nat.le_of_ble_eq_true rfl, e233 z _ _ h⟩
    · cases h)
def cd234_0 : List am_E := [(0, .aload_n 0, 1, 0, 0, 0, 0), (1, .iload_n 2, 1, 2, 0, 0, 0), (2, .invokevirtual 356, 3, 226, 11010, 0, 0), (5, .ifCond .eq 21, 3, 26, 0, 0, 0), (8, .aload_n 0, 1, 0, 0, 0, 0), (9, .iload_n 1, 1, 1, 0, 0, 0), (10, .i2l, 1, 0, 0, 0, 0), (11, .invokevirtual 241, 3, 183, 11010, 0, 0), (14, .ifCond .eq 12, 3, 26, 0, 0, 0), (17, .aload_n 0, 1, 0, 0, 0, 0), (18, .iload_n 1, 1, 1, 0, 0, 0), (19, .iload_n 2, 1, 2, 0, 0, 0), (20, .invokevirtual 341, 3, 227, 11020, 0, 0), (23, .goto 5, 3, 28, 0, 0, 0), (26, .bipush (-2), 2, 0, 0, (-2), 0), (28, .ireturn, 1, 0, 0, 0, 0)]
def cd234 : List am_E := cd234_0
def am_w234 : List (List (Int32 × Nat) × Nat) := []
set_option maxRecDepth 100000 in
theorem kcd234_0 : cd234_0.all (am_chk am_w234 234) = true := by decide +kernel
theorem am_k234 : cd234.all (am_chk am_w234 234) = true := by
  simp only [cd234, List.all_append, kcd234_0, Bool.and_self]
theorem am_r234 : am_rtc 234 = 0 := by decide +kernel
theorem am_l234 : am_ml 234 = 3 := by decide +kernel
def am_s234_ (z : Nat) : Nat → List aV → aM → Option aR := (am_sm 183 (F183 z) (am_sm 226 (F226 z) (am_sm 227 (F227 z) am_s0)))
theorem hs234 (z : Nat) : ∀ j2 : Nat, ∃ d2 : Nat, d2 + 1 ≤ 12 ∧ am_Snd d2 j2 (am_s234_ z j2) := (am_sm_ok (S183 z) (by decide) (am_sm_ok (S226 z) (by decide) (am_sm_ok (S227 z) (by decide) (am_s0_ok (by decide)))))
/-- ArgumentMenderModel.strength(II)I -/
def f234 (z : Nat) (x1 : Int32) (x2 : Int32) (M : aM) : Option aR :=
  am_bi (f226 z x2 M) fun v2 M1 =>
    if v2 = 0 then
      some (some (.inl (-2 : Int32)), M1)
    else
      am_bi (f183 z (Int32.toInt64 x1) M1) fun v4 M3 =>
        if v4 = 0 then
          some (some (.inl (-2 : Int32)), M3)
        else
          am_bi (f227 z x1 x2 M3) fun v6 M5 =>
            some (some (.inl v6), M5)
set_option maxRecDepth 100000 in
set_option maxHeartbeats 4000000 in
theorem e234 (z : Nat) : ∀ (x1 : Int32) (x2 : Int32) (M : aM) (r : aR), f234 z x1 x2 M = some r → am_Ev 12 234 0 [some (.inr (.inr (11, 205))), some (.inl x1), some (.inl x2)] [] M r := by
  intro x1 x2 M r h
  exact am_Ev_seg (sem := am_s234_ z) (cut := ([] : List (Nat × List Bool))) (hs234 z) am_r234 am_k234 (by rw [am_l234]; decide) am_k0 16 h am_k0_ok
def F234 (z : Nat) (as : List aV) (M : aM) : Option aR := match as with
  | [.inr (.inr (11, 205)), .inl x1, .inl x2] => f234 z x1 x2 M
  | _ => none
theorem S234 (z : Nat) : am_Snd 12 234 (F234 z) := am_meth (by decide +kernel) (fun as M r has h => by
    rw [am_l234]
    unfold F234 at h
    split at h
    · exact ⟨Nat.le_of_ble_eq_true rfl, e234 z _ _ _ _ h⟩
    · cases h)
def cd235_0 : List am_E := [(0, .aload_n 0, 1, 0, 0, 0, 0), (1, .iload_n 1, 1, 1, 0, 0, 0), (2, .invokevirtual 356, 3, 226, 11010, 0, 0), (5, .ifCond .eq 11, 3, 16, 0, 0, 0), (8, .aload_n 0, 1, 0, 0, 0, 0), (9, .iload_n 1, 1, 1, 0, 0, 0), (10, .invokevirtual 344, 3, 228, 11010, 0, 0), (13, .goto 5, 3, 18, 0, 0, 0), (16, .bipush (-2), 2, 0, 0, (-2), 0), (18, .ireturn, 1, 0, 0, 0, 0)]
def cd235 : List am_E := cd235_0
def am_w235 : List (List (Int32 × Nat) × Nat) := []
set_option maxRecDepth 100000 in
theorem kcd235_0 : cd235_0.all (am_chk am_w235 235) = true := by decide +kernel
theorem am_k235 : cd235.all (am_chk am_w235 235) = true := by
  simp only [cd235, List.all_append, kcd235_0, Bool.and_self]
theorem am_r235 : am_rtc 235 = 0 := by decide +kernel
theorem am_l235 : am_ml 235 = 2 := by decide +kernel
def am_s235_ (z : Nat) : Nat → List aV → aM → Option aR := (am_sm 226 (F226 z) (am_sm 228 (F228 z) am_s0))
theorem hs235 (z : Nat) : ∀ j2 : Nat, ∃ d2 : Nat, d2 + 1 ≤ 12 ∧ am_Snd d2 j2 (am_s235_ z j2) := (am_sm_ok (S226 z) (by decide) (am_sm_ok (S228 z) (by decide) (am_s0_ok (by decide))))
/-- ArgumentMenderModel.torn(I)I -/
def f235 (z : Nat) (x1 : Int32) (M : aM) : Option aR :=
  am_bi (f226 z x1 M) fun v2 M1 =>
    if v2 = 0 then
      some (some (.inl (-2 : Int32)), M1)
    else
      am_bi (f228 z x1 M1) fun v4 M3 =>
        some (some (.inl v4), M3)
set_option maxRecDepth 100000 in
set_option maxHeartbeats 4000000 in
theorem e235 (z : Nat) : ∀ (x1 : Int32) (M : aM) (r : aR), f235 z x1 M = some r → am_Ev 12 235 0 [some (.inr (.inr (11, 205))), some (.inl x1)] [] M r := by
  intro x1 M r h
  exact am_Ev_seg (sem := am_s235_ z) (cut := ([] : List (Nat × List Bool))) (hs235 z) am_r235 am_k235 (by rw [am_l235]; decide) am_k0 10 h am_k0_ok
def F235 (z : Nat) (as : List aV) (M : aM) : Option aR := match as with
  | [.inr (.inr (11, 205)), .inl x1] => f235 z x1 M
  | _ => none
theorem S235 (z : Nat) : am_Snd 12 235 (F235 z) := am_meth (by decide +kernel) (fun as M r has h => by
    rw [am_l235]
    unfold F235 at h
    split at h
    · exact ⟨Nat.le_of_ble_eq_true rfl, e235 z _ _ _ h⟩
    · cases h)
def cd236_0 : List am_E := [(0, .aload_n 0, 1, 0, 0, 0, 0), (1, .invokevirtual 335, 3, 225, 11000, 0, 0), (4, .pop, 1, 0, 0, 0, 0), (5, .aload_n 0, 1, 0, 0, 0, 0), (6, .iload_n 1, 1, 1, 0, 0, 0), (7, .i2l, 1, 0, 0, 0, 0), (8, .invokevirtual 241, 3, 183, 11010, 0, 0), (11, .ifCond .ne 6, 3, 17, 0, 0, 0), (14, .bipush (-2), 2, 0, 0, (-2), 0), (16, .ireturn, 1, 0, 0, 0, 0), (17, .iconst 0, 1, 0, 0, 0, 0), (18, .istore_n 2, 1, 2, 0, 0, 0), (19, .iload_n 2, 1, 2, 0, 0, 0), (20, .aload_n 0, 1, 0, 0, 0, 0), (21, .invokevirtual 111, 3, 176, 11000, 0, 0), (24, .if_icmp .gt 20, 3, 44, 0, 0, 0), (27, .aload_n 0, 1, 0, 0, 0, 0), (28, .iload_n 1, 1, 1, 0, 0, 0), (29, .iload_n 2, 1, 2, 0, 0, 0), (30, .invokevirtual 341, 3, 227, 11020, 0, 0), (33, .ifCond .ne 5, 3, 38, 0, 0, 0), (36, .iload_n 2, 1, 2, 0, 0, 0), (37, .ireturn, 1, 0, 0, 0, 0), (38, .iinc 2 1, 3, 2, 0, 1, 0), (41, .goto (-22), 3, 19, 0, 0, 0), (44, .iconst (-1), 1, 0, 0, (-1), 0), (45, .ireturn, 1, 0, 0, 0, 0)]
def cd236 : List am_E := cd236_0
def am_w236 : List (List (Int32 × Nat) × Nat) := []
set_option maxRecDepth 100000 in
theorem kcd236_0 : cd236_0.all (am_chk am_w236 236) = true := by decide +kernel
theorem am_k236 : cd236.all (am_chk am_w236 236) = true := by
  simp only [cd236, List.all_append, kcd236_0, Bool.and_self]
theorem am_r236 : am_rtc 236 = 0 := by decide +kernel
theorem am_l236 : am_ml 236 = 3 := by decide +kernel
def am_s236_ (z : Nat) : Nat → List aV → aM → Option aR := (am_sm 176 (F176 z) (am_sm 183 (F183 z) (am_sm 225 (F225 z) (am_sm 227 (F227 z) am_s0))))
theorem hs236 (z : Nat) : ∀ j2 : Nat, ∃ d2 : Nat, d2 + 1 ≤ 11 ∧ am_Snd d2 j2 (am_s236_ z j2) := (am_sm_ok (S176 z) (by decide) (am_sm_ok (S183 z) (by decide) (am_sm_ok (S225 z) (by decide) (am_sm_ok (S227 z) (by decide) (am_s0_ok (by decide))))))
def f236_19 (z : Nat) : Nat → Int32 → Int32 → aM → Option aR
  | 0, _, _, _ => none
  | n + 1, x1, x2, M =>
    am_bi (f176 z M) fun v2 M1 =>
      if v2 < x2 then
        some (some (.inl (-1 : Int32)), M1)
      else
        am_bi (f227 z x1 x2 M1) fun v4 M3 =>
          if ¬ v4 = 0 then
            f236_19 z n x1 (x2 + (1 : Int32)) M3
          else
            some (some (.inl x2), M3)
set_option maxRecDepth 100000 in
set_option maxHeartbeats 4000000 in
theorem e236_19 (z : Nat) : ∀ (n : Nat) (x1 : Int32) (x2 : Int32) (M : aM) (r : aR), f236_19 z n x1 x2 M = some r → am_Ev 11 236 19 [some (.inr (.inr (11, 205))), some (.inl x1), some (.inl x2)] [] M r := by
  intro n
  induction n with
  | zero =>
    intro x1 x2 M r h
    cases h
  | succ n ih =>
    intro x1 x2 M r h
    exact am_Ev_seg (sem := am_s236_ z) (cut := ([(19, [true, true, true])] : List (Nat × List Bool))) (hs236 z) am_r236 am_k236 (by rw [am_l236]; decide) (am_kc 19 (fun al st M => match al, st with
      | [some (.inr (.inr (11, 205))), some (.inl x1), some (.inl x2)], [] => f236_19 z n x1 x2 M
      | _, _ => none) am_k0) 13 h (am_kc_ok (fun al st M hk => by
      split at hk
      · exact ih _ _ _ _ hk
      · cases hk) am_k0_ok)
/-- ArgumentMenderModel.tears(I)I -/
def f236 (z : Nat) (x1 : Int32) (M : aM) : Option aR :=
  am_bi (f225 z M) fun v2 M1 =>
    am_bi (f183 z (Int32.toInt64 x1) M1) fun v4 M3 =>
      if ¬ v4 = 0 then
        f236_19 z z x1 (0 : Int32) M3
      else
        some (some (.inl (-2 : Int32)), M3)
set_option maxRecDepth 100000 in
set_option maxHeartbeats 4000000 in
theorem e236 (z : Nat) : ∀ (x1 : Int32) (M : aM) (r : aR), f236 z x1 M = some r → am_Ev 11 236 0 [some (.inr (.inr (11, 205))), some (.inl x1), none] [] M r := by
  intro x1 M r h
  exact am_Ev_seg (sem := am_s236_ z) (cut := ([(19, [true, true, true])] : List (Nat × List Bool))) (hs236 z) am_r236 am_k236 (by rw [am_l236]; decide) (am_kc 19 (fun al st M => match al, st with
      | [some (.inr (.inr (11, 205))), some (.inl x1), some (.inl x2)], [] => f236_19 z z x1 x2 M
      | _, _ => none) am_k0) 12 h (am_kc_ok (fun al st M hk => by
      split at hk
      · exact e236_19 z _ _ _ _ _ hk
      · cases hk) am_k0_ok)
def F236 (z : Nat) (as : List aV) (M : aM) : Option aR := match as with
  | [.inr (.inr (11, 205)), .inl x1] => f236 z x1 M
  | _ => none
theorem S236 (z : Nat) : am_Snd 11 236 (F236 z) := am_meth (by decide +kernel) (fun as M r has h => by
    rw [am_l236]
    unfold F236 at h
    split at h
    · exact ⟨Nat.le_of_ble_eq_true rfl, e236 z _ _ _ h⟩
    · cases h)
def cd237_0 : List am_E := [(0, .iconst 0, 1, 0, 0, 0, 0), (1, .istore_n 2, 1, 2, 0, 0, 0), (2, .iconst 0, 1, 0, 0, 0, 0), (3, .istore_n 3, 1, 3, 0, 0, 0), (4, .iload_n 3, 1, 3, 0, 0, 0), (5, .aload_n 0, 1, 0, 0, 0, 0), (6, .invokevirtual 115, 3, 177, 11000, 0, 0), (9, .if_icmp .ge 33, 3, 42, 0, 0, 0), (12, .iload_n 2, 1, 2, 0, 0, 0), (13, .aload_n 0, 1, 0, 0, 0, 0), (14, .iload_n 3, 1, 3, 0, 0, 0), (15, .invokevirtual 258, 3, 209, 11010, 0, 0), (18, .aload_n 0, 1, 0, 0, 0, 0), (19, .iload_n 1, 1, 1, 0, 0, 0), (20, .invokevirtual 347, 3, 229, 11010, 0, 0), (23, .iand, 1, 0, 0, 0, 0), (24, .ifCond .ne 9, 3, 33, 0, 0, 0), (27, .iconst 1, 1, 0, 0, 1, 0), (28, .iload_n 3, 1, 3, 0, 0, 0), (29, .ishl, 1, 0, 0, 0, 0), (30, .goto 4, 3, 34, 0, 0, 0), (33, .iconst 0, 1, 0, 0, 0, 0), (34, .ior, 1, 0, 0, 0, 0), (35, .istore_n 2, 1, 2, 0, 0, 0), (36, .iinc 3 1, 3, 3, 0, 1, 0), (39, .goto (-35), 3, 4, 0, 0, 0), (42, .iload_n 2, 1, 2, 0, 0, 0), (43, .ireturn, 1, 0, 0, 0, 0)]
def cd237 : List am_E := cd237_0
def am_w237 : List (List (Int32 × Nat) × Nat) := []
set_option maxRecDepth 100000 in
theorem kcd237_0 : cd237_0.all (am_chk am_w237 237) = true := by decide +kernel
theorem am_k237 : cd237.all (am_chk am_w237 237) = true := by
  simp only [cd237, List.all_append, kcd237_0, Bool.and_self]
theorem am_r237 : am_rtc 237 = 0 := by decide +kernel
theorem am_l237 : am_ml 237 = 4 := by decide +kernel
def am_s237_ (z : Nat) : Nat → List aV → aM → Option aR := (am_sm 177 (F177 z) (am_sm 209 (F209 z) (am_sm 229 (F229 z) am_s0)))
theorem hs237 (z : Nat) : ∀ j2 : Nat, ∃ d2 : Nat, d2 + 1 ≤ 4 ∧ am_Snd d2 j2 (am_s237_ z j2) := (am_sm_ok (S177 z) (by decide) (am_sm_ok (S209 z) (by decide) (am_sm_ok (S229 z) (by decide) (am_s0_ok (by decide)))))
def f237_4 (z : Nat) : Nat → Int32 → Int32 → Int32 → aM → Option aR
  | 0, _, _, _, _ => none
  | n + 1, x1, x2, x3, M =>
    am_bi (f177 z M) fun v2 M1 =>
      if v2 ≤ x3 then
        some (some (.inl x2), M1)
      else
        am_bi (f209 z x3 M1) fun v4 M3 =>
          am_bi (f229 z x1 M3) fun v6 M5 =>
            if ¬ (v4 &&& v6) = 0 then
              f237_4 z n x1 (x2 ||| (0 : Int32)) (x3 + (1 : Int32)) M5
            else
              f237_4 z n x1 (x2 ||| ((1 : Int32) <<< (x3 &&& 31))) (x3 + (1 : Int32)) M5
set_option maxRecDepth 100000 in
set_option maxHeartbeats 4000000 in
theorem e237_4 (z : Nat) : ∀ (n : Nat) (x1 : Int32) (x2 : Int32) (x3 : Int32) (M : aM) (r : aR), f237_4 z n x1 x2 x3 M = some r → am_Ev 4 237 4 [some (.inr (.inr (11, 205))), some (.inl x1), some (.inl x2), some (.inl x3)] [] M r := by
  intro n
  induction n with
  | zero =>
    intro x1 x2 x3 M r h
    cases h
  | succ n ih =>
    intro x1 x2 x3 M r h
    exact am_Ev_seg (sem := am_s237_ z) (cut := ([(4, [true, true, true, true])] : List (Nat × List Bool))) (hs237 z) am_r237 am_k237 (by rw [am_l237]; decide) (am_kc 4 (fun al st M => match al, st with
      | [some (.inr (.inr (11, 205))), some (.inl x1), some (.inl x2), some (.inl x3)], [] => f237_4 z n x1 x2 x3 M
      | _, _ => none) am_k0) 23 h (am_kc_ok (fun al st M hk => by
      split at hk
      · exact ih _ _ _ _ _ hk
      · cases hk) am_k0_ok)
/-- ArgumentMenderModel.holesIn(I)I -/
def f237 (z : Nat) (x1 : Int32) (M : aM) : Option aR :=
  f237_4 z z x1 (0 : Int32) (0 : Int32) M
set_option maxRecDepth 100000 in
set_option maxHeartbeats 4000000 in
theorem e237 (z : Nat) : ∀ (x1 : Int32) (M : aM) (r : aR), f237 z x1 M = some r → am_Ev 4 237 0 [some (.inr (.inr (11, 205))), some (.inl x1), none, none] [] M r := by
  intro x1 M r h
  exact am_Ev_seg (sem := am_s237_ z) (cut := ([(4, [true, true, true, true])] : List (Nat × List Bool))) (hs237 z) am_r237 am_k237 (by rw [am_l237]; decide) (am_kc 4 (fun al st M => match al, st with
      | [some (.inr (.inr (11, 205))), some (.inl x1), some (.inl x2), some (.inl x3)], [] => f237_4 z z x1 x2 x3 M
      | _, _ => none) am_k0) 6 h (am_kc_ok (fun al st M hk => by
      split at hk
      · exact e237_4 z _ _ _ _ _ _ hk
      · cases hk) am_k0_ok)
def F237 (z : Nat) (as : List aV) (M : aM) : Option aR := match as with
  | [.inr (.inr (11, 205)), .inl x1] => f237 z x1 M
  | _ => none
theorem S237 (z : Nat) : am_Snd 4 237 (F237 z) := am_meth (by decide +kernel) (fun as M r has h => by
    rw [am_l237]
    unfold F237 at h
    split at h
    · exact ⟨Nat.le_of_ble_eq_true rfl, e237 z _ _ _ h⟩
    · cases h)
def cd238_0 : List am_E := [(0, .aload_n 0, 1, 0, 0, 0, 0), (1, .iload_n 1, 1, 1, 0, 0, 0), (2, .invokevirtual 356, 3, 226, 11010, 0, 0), (5, .ifCond .eq 11, 3, 16, 0, 0, 0), (8, .aload_n 0, 1, 0, 0, 0, 0), (9, .iload_n 1, 1, 1, 0, 0, 0), (10, .invokevirtual 359, 3, 237, 11010, 0, 0), (13, .goto 5, 3, 18, 0, 0, 0), (16, .bipush (-2), 2, 0, 0, (-2), 0), (18, .ireturn, 1, 0, 0, 0, 0)]
def cd238 : List am_E := cd238_0
def am_w238 : List (List (Int32 × Nat) × Nat) := []
set_option maxRecDepth 100000 in
theorem kcd238_0 : cd238_0.all (am_chk am_w238 238) = true := by decide +kernel
theorem am_k238 : cd238.all (am_chk am_w238 238) = true := by
  simp only [cd238, List.all_append, kcd238_0, Bool.and_self]
theorem am_r238 : am_rtc 238 = 0 := by decide +kernel
theorem am_l238 : am_ml 238 = 2 := by decide +kernel
def am_s238_ (z : Nat) : Nat → List aV → aM → Option aR := (am_sm 226 (F226 z) (am_sm 237 (F237 z) am_s0))
theorem hs238 (z : Nat) : ∀ j2 : Nat, ∃ d2 : Nat, d2 + 1 ≤ 12 ∧ am_Snd d2 j2 (am_s238_ z j2) := (am_sm_ok (S226 z) (by decide) (am_sm_ok (S237 z) (by decide) (am_s0_ok (by decide))))
/-- ArgumentMenderModel.holes(I)I -/
def f238 (z : Nat) (x1 : Int32) (M : aM) : Option aR :=
  am_bi (f226 z x1 M) fun v2 M1 =>
    if v2 = 0 then
      some (some (.inl (-2 : Int32)), M1)
    else
      am_bi (f237 z x1 M1) fun v4 M3 =>
        some (some (.inl v4), M3)
set_option maxRecDepth 100000 in
set_option maxHeartbeats 4000000 in
theorem e238 (z : Nat) : ∀ (x1 : Int32) (M : aM) (r : aR), f238 z x1 M = some r → am_Ev 12 238 0 [some (.inr (.inr (11, 205))), some (.inl x1)] [] M r := by
  intro x1 M r h
  exact am_Ev_seg (sem := am_s238_ z) (cut := ([] : List (Nat × List Bool))) (hs238 z) am_r238 am_k238 (by rw [am_l238]; decide) am_k0 10 h am_k0_ok
def F238 (z : Nat) (as : List aV) (M : aM) : Option aR := match as with
  | [.inr (.inr (11, 205)), .inl x1] => f238 z x1 M
  | _ => none
theorem S238 (z : Nat) : am_Snd 12 238 (F238 z) := am_meth (by decide +kernel) (fun as M r has h => by
    rw [am_l238]
    unfold F238 at h
    split at h
    · exact ⟨Nat.le_of_ble_eq_true rfl, e238 z _ _ _ h⟩
    · cases h)
def cd239_0 : List am_E := [(0, .aload_n 0, 1, 0, 0, 0, 0), (1, .invokevirtual 335, 3, 225, 11000, 0, 0), (4, .pop, 1, 0, 0, 0, 0), (5, .aload_n 0, 1, 0, 0, 0, 0), (6, .iload_n 1, 1, 1, 0, 0, 0), (7, .invokevirtual 255, 3, 182, 11010, 0, 0), (10, .ifCond .ne 6, 3, 16, 0, 0, 0), (13, .bipush (-2), 2, 0, 0, (-2), 0), (15, .ireturn, 1, 0, 0, 0, 0), (16, .iconst 0, 1, 0, 0, 0, 0), (17, .istore_n 2, 1, 2, 0, 0, 0), (18, .iload_n 2, 1, 2, 0, 0, 0), (19, .aload_n 0, 1, 0, 0, 0, 0), (20, .invokevirtual 111, 3, 176, 11000, 0, 0), (23, .if_icmp .gt 24, 3, 47, 0, 0, 0), (26, .aload_n 0, 1, 0, 0, 0, 0), (27, .iload_n 2, 1, 2, 0, 0, 0), (28, .invokevirtual 359, 3, 237, 11010, 0, 0), (31, .iload_n 1, 1, 1, 0, 0, 0), (32, .invokestatic 300, 3, 172, 25, 0, 0), (35, .iconst 1, 1, 0, 0, 1, 0), (36, .if_icmp .ne 5, 3, 41, 0, 0, 0), (39, .iload_n 2, 1, 2, 0, 0, 0), (40, .ireturn, 1, 0, 0, 0, 0), (41, .iinc 2 1, 3, 2, 0, 1, 0), (44, .goto (-26), 3, 18, 0, 0, 0), (47, .iconst (-1), 1, 0, 0, (-1), 0), (48, .ireturn, 1, 0, 0, 0, 0)]
def cd239 : List am_E := cd239_0
def am_w239 : List (List (Int32 × Nat) × Nat) := []
set_option maxRecDepth 100000 in
theorem kcd239_0 : cd239_0.all (am_chk am_w239 239) = true := by decide +kernel
theorem am_k239 : cd239.all (am_chk am_w239 239) = true := by
  simp only [cd239, List.all_append, kcd239_0, Bool.and_self]
theorem am_r239 : am_rtc 239 = 0 := by decide +kernel
theorem am_l239 : am_ml 239 = 3 := by decide +kernel
def am_s239_ (z : Nat) : Nat → List aV → aM → Option aR := (am_sm 172 (F172 z) (am_sm 176 (F176 z) (am_sm 182 (F182 z) (am_sm 225 (F225 z) (am_sm 237 (F237 z) am_s0)))))
theorem hs239 (z : Nat) : ∀ j2 : Nat, ∃ d2 : Nat, d2 + 1 ≤ 11 ∧ am_Snd d2 j2 (am_s239_ z j2) := (am_sm_ok (S172 z) (by decide) (am_sm_ok (S176 z) (by decide) (am_sm_ok (S182 z) (by decide) (am_sm_ok (S225 z) (by decide) (am_sm_ok (S237 z) (by decide) (am_s0_ok (by decide)))))))
def f239_18 (z : Nat) : Nat → Int32 → Int32 → aM → Option aR
  | 0, _, _, _ => none
  | n + 1, x1, x2, M =>
    am_bi (f176 z M) fun v2 M1 =>
      if v2 < x2 then
        some (some (.inl (-1 : Int32)), M1)
      else
        am_bi (f237 z x2 M1) fun v4 M3 =>
          am_bi (f172 z v4 x1 M3) fun v6 M5 =>
            if ¬ v6 = (1 : Int32) then
              f239_18 z n x1 (x2 + (1 : Int32)) M5
            else
              some (some (.inl x2), M5)
set_option maxRecDepth 100000 in
set_option maxHeartbeats 4000000 in
theorem e239_18 (z : Nat) : ∀ (n : Nat) (x1 : Int32) (x2 : Int32) (M : aM) (r : aR), f239_18 z n x1 x2 M = some r → am_Ev 11 239 18 [some (.inr (.inr (11, 205))), some (.inl x1), some (.inl x2)] [] M r := by
  intro n
  induction n with
  | zero =>
    intro x1 x2 M r h
    cases h
  | succ n ih =>
    intro x1 x2 M r h
    exact am_Ev_seg (sem := am_s239_ z) (cut := ([(18, [true, true, true])] : List (Nat × List Bool))) (hs239 z) am_r239 am_k239 (by rw [am_l239]; decide) (am_kc 18 (fun al st M => match al, st with
      | [some (.inr (.inr (11, 205))), some (.inl x1), some (.inl x2)], [] => f239_18 z n x1 x2 M
      | _, _ => none) am_k0) 15 h (am_kc_ok (fun al st M hk => by
      split at hk
      · exact ih _ _ _ _ hk
      · cases hk) am_k0_ok)
/-- ArgumentMenderModel.hole(I)I -/
def f239 (z : Nat) (x1 : Int32) (M : aM) : Option aR :=
  am_bi (f225 z M) fun v2 M1 =>
    am_bi (f182 z x1 M1) fun v4 M3 =>
      if ¬ v4 = 0 then
        f239_18 z z x1 (0 : Int32) M3
      else
        some (some (.inl (-2 : Int32)), M3)
set_option maxRecDepth 100000 in
set_option maxHeartbeats 4000000 in
theorem e239 (z : Nat) : ∀ (x1 : Int32) (M : aM) (r : aR), f239 z x1 M = some r → am_Ev 11 239 0 [some (.inr (.inr (11, 205))), some (.inl x1), none] [] M r := by
  intro x1 M r h
  exact am_Ev_seg (sem := am_s239_ z) (cut := ([(18, [true, true, true])] : List (Nat × List Bool))) (hs239 z) am_r239 am_k239 (by rw [am_l239]; decide) (am_kc 18 (fun al st M => match al, st with
      | [some (.inr (.inr (11, 205))), some (.inl x1), some (.inl x2)], [] => f239_18 z z x1 x2 M
      | _, _ => none) am_k0) 11 h (am_kc_ok (fun al st M hk => by
      split at hk
      · exact e239_18 z _ _ _ _ _ hk
      · cases hk) am_k0_ok)
def F239 (z : Nat) (as : List aV) (M : aM) : Option aR := match as with
  | [.inr (.inr (11, 205)), .inl x1] => f239 z x1 M
  | _ => none
theorem S239 (z : Nat) : am_Snd 11 239 (F239 z) := am_meth (by decide +kernel) (fun as M r has h => by
    rw [am_l239]
    unfold F239 at h
    split at h
    · exact ⟨Nat.le_of_ble_eq_true rfl, e239 z _ _ _ h⟩
    · cases h)
def cd240_0 : List am_E := [(0, .aload_n 0, 1, 0, 0, 0, 0), (1, .iload_n 1, 1, 1, 0, 0, 0), (2, .invokevirtual 356, 3, 226, 11010, 0, 0), (5, .ifCond .eq 11, 3, 16, 0, 0, 0), (8, .aload_n 0, 1, 0, 0, 0, 0), (9, .iload_n 1, 1, 1, 0, 0, 0), (10, .invokevirtual 353, 3, 231, 11010, 0, 0), (13, .goto 5, 3, 18, 0, 0, 0), (16, .bipush (-2), 2, 0, 0, (-2), 0), (18, .ireturn, 1, 0, 0, 0, 0)]
def cd240 : List am_E := cd240_0
def am_w240 : List (List (Int32 × Nat) × Nat) := []
set_option maxRecDepth 100000 in
theorem kcd240_0 : cd240_0.all (am_chk am_w240 240) = true := by decide +kernel
theorem am_k240 : cd240.all (am_chk am_w240 240) = true := by
  simp only [cd240, List.all_append, kcd240_0, Bool.and_self]
theorem am_r240 : am_rtc 240 = 0 := by decide +kernel
theorem am_l240 : am_ml 240 = 2 := by decide +kernel
def am_s240_ (z : Nat) : Nat → List aV → aM → Option aR := (am_sm 226 (F226 z) (am_sm 231 (F231 z) am_s0))
theorem hs240 (z : Nat) : ∀ j2 : Nat, ∃ d2 : Nat, d2 + 1 ≤ 12 ∧ am_Snd d2 j2 (am_s240_ z j2) := (am_sm_ok (S226 z) (by decide) (am_sm_ok (S231 z) (by decide) (am_s0_ok (by decide))))
/-- ArgumentMenderModel.hung(I)I -/
def f240 (z : Nat) (x1 : Int32) (M : aM) : Option aR :=
  am_bi (f226 z x1 M) fun v2 M1 =>
    if v2 = 0 then
      some (some (.inl (-2 : Int32)), M1)
    else
      am_bi (f231 z x1 M1) fun v4 M3 =>
        some (some (.inl v4), M3)
set_option maxRecDepth 100000 in
set_option maxHeartbeats 4000000 in
theorem e240 (z : Nat) : ∀ (x1 : Int32) (M : aM) (r : aR), f240 z x1 M = some r → am_Ev 12 240 0 [some (.inr (.inr (11, 205))), some (.inl x1)] [] M r := by
  intro x1 M r h
  exact am_Ev_seg (sem := am_s240_ z) (cut := ([] : List (Nat × List Bool))) (hs240 z) am_r240 am_k240 (by rw [am_l240]; decide) am_k0 10 h am_k0_ok
def F240 (z : Nat) (as : List aV) (M : aM) : Option aR := match as with
  | [.inr (.inr (11, 205)), .inl x1] => f240 z x1 M
  | _ => none
theorem S240 (z : Nat) : am_Snd 12 240 (F240 z) := am_meth (by decide +kernel) (fun as M r has h => by
    rw [am_l240]
    unfold F240 at h
    split at h
    · exact ⟨Nat.le_of_ble_eq_true rfl, e240 z _ _ _ h⟩
    · cases h)
