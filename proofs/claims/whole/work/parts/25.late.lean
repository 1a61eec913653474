def cd157_0 : List am_E := [(0, .iload_n 1, 1, 1, 0, 0, 0), (1, .i2l, 1, 0, 0, 0, 0), (2, .lstore_n 2, 1, 2, 0, 0, 0), (3, .iconst 0, 1, 0, 0, 0, 0), (4, .istore 4, 2, 4, 0, 0, 0), (6, .iconst 0, 1, 0, 0, 0, 0), (7, .istore 5, 2, 5, 0, 0, 0), (9, .iload 5, 2, 5, 0, 0, 0), (11, .aload_n 0, 1, 0, 0, 0, 0), (12, .getfield 19, 3, 10, 1, 0, 0), (15, .getfield 201, 3, 1, 6, 0, 0), (18, .if_icmp .ge 53, 3, 71, 0, 0, 0), (21, .ldc2_w 364, 3, 0, 0, 0, 1103515245), (24, .lload_n 2, 1, 2, 0, 0, 0), (25, .lmul, 1, 0, 0, 0, 0), (26, .ldc2_w 366, 3, 0, 0, 0, 12345), (29, .ladd, 1, 0, 0, 0, 0), (30, .ldc2_w 368, 3, 0, 0, 0, 2147483648), (33, .lrem, 1, 0, 0, 0, 0), (34, .lstore_n 2, 1, 2, 0, 0, 0), (35, .lload_n 2, 1, 2, 0, 0, 0), (36, .ldc2_w 370, 3, 0, 0, 0, 65536), (39, .ldiv, 1, 0, 0, 0, 0), (40, .ldc2_w 338, 3, 0, 0, 0, 10), (43, .lrem, 1, 0, 0, 0, 0), (44, .aload_n 0, 1, 0, 0, 0, 0), (45, .getfield 19, 3, 10, 1, 0, 0), (48, .getfield 331, 3, 1, 3, 0, 0), (51, .i2l, 1, 0, 0, 0, 0), (52, .lcmp, 1, 0, 0, 0, 0), (53, .ifCond .ge 12, 3, 65, 0, 0, 0), (56, .iload 4, 2, 4, 0, 0, 0), (58, .iconst 1, 1, 0, 0, 1, 0), (59, .iload 5, 2, 5, 0, 0, 0), (61, .ishl, 1, 0, 0, 0, 0), (62, .ior, 1, 0, 0, 0, 0), (63, .istore 4, 2, 4, 0, 0, 0), (65, .iinc 5 1, 3, 5, 0, 1, 0), (68, .goto (-59), 3, 9, 0, 0, 0), (71, .iload 4, 2, 4, 0, 0, 0)]
def cd157_1 : List am_E := [(73, .ireturn, 1, 0, 0, 0, 0)]
def cd157 : List am_E := cd157_0 ++ (cd157_1)
def am_w157 : List (List (Int32 × Nat) × Nat) := []
set_option maxRecDepth 100000 in
theorem kcd157_0 : cd157_0.all (am_chk am_w157 157) = true := by decide +kernel
set_option maxRecDepth 100000 in
theorem kcd157_1 : cd157_1.all (am_chk am_w157 157) = true := by decide +kernel
theorem am_k157 : cd157.all (am_chk am_w157 157) = true := by
  simp only [cd157, List.all_append, kcd157_0, kcd157_1, Bool.and_self]
theorem am_r157 : am_rtc 157 = 0 := by decide +kernel
theorem am_l157 : am_ml 157 = 6 := by decide +kernel
def am_s157_ (z : Nat) : Nat → List aV → aM → Option aR := fun j => (fun _ _ => none)
theorem hs157 (z : Nat) : ∀ j2 : Nat, ∃ d2 : Nat, d2 + 1 ≤ 1 ∧ am_Snd d2 j2 (am_s157_ z j2) := by
  intro j2
  unfold am_s157_
  exact ⟨0, by decide, am_Snd_no j2⟩
def f157_35 (z : Nat) (k9 : Int64 → Int32 → Int32 → aM → Option aR) : Nat → Int64 → Int32 → Int32 → aM → Option aR
  | 0, _, _, _, _ => none
  | n + 1, y2, x4, x5, M =>
    if (65536 : Int64) = 0 then
      none
    else
      if (10 : Int64) = 0 then
        none
      else
        if 0 ≤ (lg_cmp ((y2 / (65536 : Int64)) - (y2 / (65536 : Int64)) / (10 : Int64) * (10 : Int64)) (Int32.toInt64 (M.1 18 3))) then
          k9 y2 x4 (x5 + (1 : Int32)) M
        else
          k9 y2 (x4 ||| ((1 : Int32) <<< (x5 &&& 31))) (x5 + (1 : Int32)) M
set_option maxRecDepth 100000 in
set_option maxHeartbeats 4000000 in
theorem e157_35 (z : Nat) (k9 : Int64 → Int32 → Int32 → aM → Option aR) (hk9 : ∀ (y2 : Int64) (x4 : Int32) (x5 : Int32) (M : aM) (r : aR), k9 y2 x4 x5 M = some r → am_Ev 1 157 9 [some (.inr (.inr (10, 0))), none, some (.inr (.inl y2)), none, some (.inl x4), some (.inl x5)] [] M r) : ∀ (n : Nat) (y2 : Int64) (x4 : Int32) (x5 : Int32) (M : aM) (r : aR), f157_35 z k9 n y2 x4 x5 M = some r → am_Ev 1 157 35 [some (.inr (.inr (10, 0))), none, some (.inr (.inl y2)), none, some (.inl x4), some (.inl x5)] [] M r := by
  intro n
  induction n with
  | zero =>
    intro y2 x4 x5 M r h
    cases h
  | succ n ih =>
    intro y2 x4 x5 M r h
    exact am_Ev_seg (sem := am_s157_ z) (cut := ([(9, [true, false, true, false, true, true])] : List (Nat × List Bool))) (hs157 z) am_r157 am_k157 (by rw [am_l157]; decide) (fun pc al st M => (match Nat.beq pc 9 with
      | true => (match al, st with
        | [some (.inr (.inr (10, 0))), none, some (.inr (.inl y2)), none, some (.inl x4), some (.inl x5)], [] => k9 y2 x4 x5 M
        | _, _ => none)
      | false => none)) 21 h (fun pc al st M hk => by
      try dsimp only at hk
      split at hk
      · rename_i he
        rw [am_beq he]
        split at hk
        · exact hk9 _ _ _ _ _ hk
        · cases hk
      · cases hk)
def f157_33 (z : Nat) (k9 : Int64 → Int32 → Int32 → aM → Option aR) : Nat → Int32 → Int32 → Int64 → Int64 → aM → Option aR
  | 0, _, _, _, _, _ => none
  | n + 1, x4, x5, ys0, ys1, M =>
    if ys0 = 0 then
      none
    else
      f157_35 z k9 z (ys1 - ys1 / ys0 * ys0) x4 x5 M
set_option maxRecDepth 100000 in
set_option maxHeartbeats 4000000 in
theorem e157_33 (z : Nat) (k9 : Int64 → Int32 → Int32 → aM → Option aR) (hk9 : ∀ (y2 : Int64) (x4 : Int32) (x5 : Int32) (M : aM) (r : aR), k9 y2 x4 x5 M = some r → am_Ev 1 157 9 [some (.inr (.inr (10, 0))), none, some (.inr (.inl y2)), none, some (.inl x4), some (.inl x5)] [] M r) : ∀ (n : Nat) (x4 : Int32) (x5 : Int32) (ys0 : Int64) (ys1 : Int64) (M : aM) (r : aR), f157_33 z k9 n x4 x5 ys0 ys1 M = some r → am_Ev 1 157 33 [some (.inr (.inr (10, 0))), none, none, none, some (.inl x4), some (.inl x5)] [.inr (.inl ys0), .inr (.inl ys1)] M r := by
  intro n
  induction n with
  | zero =>
    intro x4 x5 ys0 ys1 M r h
    cases h
  | succ n ih =>
    intro x4 x5 ys0 ys1 M r h
    exact am_Ev_seg (sem := am_s157_ z) (cut := ([(35, [true, false, true, false, true, true])] : List (Nat × List Bool))) (hs157 z) am_r157 am_k157 (by rw [am_l157]; decide) (fun pc al st M => (match Nat.beq pc 35 with
      | true => (match al, st with
        | [some (.inr (.inr (10, 0))), none, some (.inr (.inl y2)), none, some (.inl x4), some (.inl x5)], [] => f157_35 z k9 z y2 x4 x5 M
        | _, _ => none)
      | false => none)) 4 h (fun pc al st M hk => by
      try dsimp only at hk
      split at hk
      · rename_i he
        rw [am_beq he]
        split at hk
        · exact e157_35 z _ hk9 _ _ _ _ _ _ hk
        · cases hk
      · cases hk)
def f157_9 (z : Nat) : Nat → Int64 → Int32 → Int32 → aM → Option aR
  | 0, _, _, _, _ => none
  | n + 1, y2, x4, x5, M =>
    if (M.1 18 6) ≤ x5 then
      some (some (.inl x4), M)
    else
      f157_33 z (f157_9 z n) z x4 x5 (2147483648 : Int64) (((1103515245 : Int64) * y2) + (12345 : Int64)) M
set_option maxRecDepth 100000 in
set_option maxHeartbeats 4000000 in
theorem e157_9 (z : Nat) : ∀ (n : Nat) (y2 : Int64) (x4 : Int32) (x5 : Int32) (M : aM) (r : aR), f157_9 z n y2 x4 x5 M = some r → am_Ev 1 157 9 [some (.inr (.inr (10, 0))), none, some (.inr (.inl y2)), none, some (.inl x4), some (.inl x5)] [] M r := by
  intro n
  induction n with
  | zero =>
    intro y2 x4 x5 M r h
    cases h
  | succ n ih =>
    intro y2 x4 x5 M r h
    exact am_Ev_seg (sem := am_s157_ z) (cut := ([(33, [true, false, false, false, true, true])] : List (Nat × List Bool))) (hs157 z) am_r157 am_k157 (by rw [am_l157]; decide) (fun pc al st M => (match Nat.beq pc 33 with
      | true => (match al, st with
        | [some (.inr (.inr (10, 0))), none, none, none, some (.inl x4), some (.inl x5)], [.inr (.inl ys0), .inr (.inl ys1)] => f157_33 z (f157_9 z n) z x4 x5 ys0 ys1 M
        | _, _ => none)
      | false => none)) 13 h (fun pc al st M hk => by
      try dsimp only at hk
      split at hk
      · rename_i he
        rw [am_beq he]
        split at hk
        · exact e157_33 z _ ih _ _ _ _ _ _ _ hk
        · cases hk
      · cases hk)
/-- ArgumentMender.drawEvening(I)I -/
def f157 (z : Nat) (x1 : Int32) (M : aM) : Option aR :=
  f157_9 z z (Int32.toInt64 x1) (0 : Int32) (0 : Int32) M
set_option maxRecDepth 100000 in
set_option maxHeartbeats 4000000 in
theorem e157 (z : Nat) : ∀ (x1 : Int32) (M : aM) (r : aR), f157 z x1 M = some r → am_Ev 1 157 0 [some (.inr (.inr (10, 0))), some (.inl x1), none, none, none, none] [] M r := by
  intro x1 M r h
  exact am_Ev_seg (sem := am_s157_ z) (cut := ([(9, [true, false, true, false, true, true])] : List (Nat × List Bool))) (hs157 z) am_r157 am_k157 (by rw [am_l157]; decide) (fun pc al st M => (match Nat.beq pc 9 with
      | true => (match al, st with
        | [some (.inr (.inr (10, 0))), none, some (.inr (.inl y2)), none, some (.inl x4), some (.inl x5)], [] => f157_9 z z y2 x4 x5 M
        | _, _ => none)
      | false => none)) 9 h (fun pc al st M hk => by
      try dsimp only at hk
      split at hk
      · rename_i he
        rw [am_beq he]
        split at hk
        · exact e157_9 z _ _ _ _ _ _ hk
        · cases hk
      · cases hk)
def F157 (z : Nat) (as : List aV) (M : aM) : Option aR := match as with
  | [.inr (.inr (10, 0)), .inl x1] => f157 z x1 M
  | _ => none
theorem S157 (z : Nat) : am_Snd 1 157 (F157 z) := am_meth (by decide +kernel) (fun as M r has h => by
    rw [am_l157]
    unfold F157 at h
    split at h
    · exact ⟨Nat.le_of_ble_eq_true rfl, e157 z _ _ _ h⟩
    · cases h)
def cd156_0 : List am_E := [(0, .aload_n 0, 1, 0, 0, 0, 0), (1, .getfield 19, 3, 10, 1, 0, 0), (4, .invokevirtual 176, 3, 7, 1000, 0, 0), (7, .ifCond .eq 23, 3, 30, 0, 0, 0), (10, .iload_n 1, 1, 1, 0, 0, 0), (11, .iconst 0, 1, 0, 0, 0, 0), (12, .ldc_w 360, 3, 0, 0, 2000000000, 0), (15, .invokestatic 215, 3, 165, 35, 0, 0), (18, .ifCond .eq 12, 3, 30, 0, 0, 0), (21, .iload_n 2, 1, 2, 0, 0, 0), (22, .iconst 0, 1, 0, 0, 0, 0), (23, .iconst 1, 1, 0, 0, 1, 0), (24, .invokestatic 215, 3, 165, 35, 0, 0), (27, .ifCond .ne 6, 3, 33, 0, 0, 0), (30, .bipush (-2), 2, 0, 0, (-2), 0), (32, .ireturn, 1, 0, 0, 0, 0), (33, .aload_n 0, 1, 0, 0, 0, 0), (34, .iload_n 1, 1, 1, 0, 0, 0), (35, .invokevirtual 361, 3, 157, 10010, 0, 0), (38, .istore_n 3, 1, 3, 0, 0, 0), (39, .iload_n 2, 1, 2, 0, 0, 0), (40, .ifCond .ne 7, 3, 47, 0, 0, 0), (43, .iload_n 3, 1, 3, 0, 0, 0), (44, .goto 15, 3, 59, 0, 0, 0), (47, .aload_n 0, 1, 0, 0, 0, 0), (48, .getfield 40, 3, 10, 4, 0, 0), (51, .aload_n 0, 1, 0, 0, 0, 0), (52, .getfield 19, 3, 10, 1, 0, 0), (55, .iload_n 3, 1, 3, 0, 0, 0), (56, .invokevirtual 259, 3, 47, 6020, 0, 0), (59, .ireturn, 1, 0, 0, 0, 0)]
def cd156 : List am_E := cd156_0
def am_w156 : List (List (Int32 × Nat) × Nat) := []
set_option maxRecDepth 100000 in
theorem kcd156_0 : cd156_0.all (am_chk am_w156 156) = true := by decide +kernel
theorem am_k156 : cd156.all (am_chk am_w156 156) = true := by
  simp only [cd156, List.all_append, kcd156_0, Bool.and_self]
theorem am_r156 : am_rtc 156 = 0 := by decide +kernel
theorem am_l156 : am_ml 156 = 4 := by decide +kernel
def am_s156_ (z : Nat) : Nat → List aV → aM → Option aR := fun j => (match Nat.beq j 7 with
  | true => F7 z
  | false => (match Nat.beq j 47 with
  | true => F47 z
  | false => (match Nat.beq j 157 with
  | true => F157 z
  | false => (match Nat.beq j 165 with
  | true => F165 z
  | false => (fun _ _ => none)))))
theorem hs156 (z : Nat) : ∀ j2 : Nat, ∃ d2 : Nat, d2 + 1 ≤ 6 ∧ am_Snd d2 j2 (am_s156_ z j2) := by
  intro j2
  unfold am_s156_
  split
  · rename_i he
    rw [am_beq he]
    exact ⟨_, by decide, S7 z⟩
  · skip
    split
    · rename_i he
      rw [am_beq he]
      exact ⟨_, by decide, S47 z⟩
    · skip
      split
      · rename_i he
        rw [am_beq he]
        exact ⟨_, by decide, S157 z⟩
      · skip
        split
        · rename_i he
          rw [am_beq he]
          exact ⟨_, by decide, S165 z⟩
        · skip
          exact ⟨0, by decide, am_Snd_no j2⟩
/-- ArgumentMender.drawn(II)I -/
def f156 (z : Nat) (x1 : Int32) (x2 : Int32) (M : aM) : Option aR :=
  am_bi (f7 z 18 M) fun v2 M1 =>
    if v2 = 0 then
      some (some (.inl (-2 : Int32)), M1)
    else
      am_bi (f165 z x1 (0 : Int32) (2000000000 : Int32) M1) fun v4 M3 =>
        if v4 = 0 then
          some (some (.inl (-2 : Int32)), M3)
        else
          am_bi (f165 z x2 (0 : Int32) (1 : Int32) M3) fun v6 M5 =>
            if ¬ v6 = 0 then
              am_bi (f157 z x1 M5) fun v8 M7 =>
                if ¬ x2 = 0 then
                  am_bi (f47 z 18 v8 M7) fun v10 M9 =>
                    some (some (.inl v10), M9)
                else
                  some (some (.inl v8), M7)
            else
              some (some (.inl (-2 : Int32)), M5)
set_option maxRecDepth 100000 in
set_option maxHeartbeats 4000000 in
theorem e156 (z : Nat) : ∀ (x1 : Int32) (x2 : Int32) (M : aM) (r : aR), f156 z x1 x2 M = some r → am_Ev 6 156 0 [some (.inr (.inr (10, 0))), some (.inl x1), some (.inl x2), none] [] M r := by
  intro x1 x2 M r h
  exact am_Ev_seg (sem := am_s156_ z) (cut := ([] : List (Nat × List Bool))) (hs156 z) am_r156 am_k156 (by rw [am_l156]; decide) (fun _ _ _ _ => none) 28 h (fun _ _ _ _ hk => by cases hk)
def F156 (z : Nat) (as : List aV) (M : aM) : Option aR := match as with
  | [.inr (.inr (10, 0)), .inl x1, .inl x2] => f156 z x1 x2 M
  | _ => none
theorem S156 (z : Nat) : am_Snd 6 156 (F156 z) := am_meth (by decide +kernel) (fun as M r has h => by
    rw [am_l156]
    unfold F156 at h
    split at h
    · exact ⟨Nat.le_of_ble_eq_true rfl, e156 z _ _ _ _ h⟩
    · cases h)
def cd158_0 : List am_E := [(0, .aload_n 0, 1, 0, 0, 0, 0), (1, .getfield 19, 3, 10, 1, 0, 0), (4, .iload_n 3, 1, 3, 0, 0, 0), (5, .invokevirtual 138, 3, 8, 1010, 0, 0), (8, .ifCond .eq 24, 3, 32, 0, 0, 0), (11, .iload_n 1, 1, 1, 0, 0, 0), (12, .iconst 0, 1, 0, 0, 0, 0), (13, .ldc_w 360, 3, 0, 0, 2000000000, 0), (16, .invokestatic 215, 3, 165, 35, 0, 0), (19, .ifCond .eq 13, 3, 32, 0, 0, 0), (22, .iload_n 2, 1, 2, 0, 0, 0), (23, .iconst 1, 1, 0, 0, 1, 0), (24, .bipush 20, 2, 0, 0, 20, 0), (26, .invokestatic 215, 3, 165, 35, 0, 0), (29, .ifCond .ne 6, 3, 35, 0, 0, 0), (32, .bipush (-2), 2, 0, 0, (-2), 0), (34, .ireturn, 1, 0, 0, 0, 0), (35, .iconst 0, 1, 0, 0, 0, 0), (36, .istore 4, 2, 4, 0, 0, 0), (38, .iconst 0, 1, 0, 0, 0, 0), (39, .istore 5, 2, 5, 0, 0, 0), (41, .iload 5, 2, 5, 0, 0, 0), (43, .iload_n 2, 1, 2, 0, 0, 0), (44, .if_icmp .ge 37, 3, 81, 0, 0, 0), (47, .iload 4, 2, 4, 0, 0, 0), (49, .aload_n 0, 1, 0, 0, 0, 0), (50, .getfield 40, 3, 10, 4, 0, 0), (53, .aload_n 0, 1, 0, 0, 0, 0), (54, .getfield 19, 3, 10, 1, 0, 0), (57, .aload_n 0, 1, 0, 0, 0, 0), (58, .iload_n 1, 1, 1, 0, 0, 0), (59, .iload 5, 2, 5, 0, 0, 0), (61, .iadd, 1, 0, 0, 0, 0), (62, .invokevirtual 361, 3, 157, 10010, 0, 0), (65, .invokevirtual 259, 3, 47, 6020, 0, 0), (68, .iload_n 3, 1, 3, 0, 0, 0), (69, .ishr, 1, 0, 0, 0, 0), (70, .iconst 1, 1, 0, 0, 1, 0), (71, .iand, 1, 0, 0, 0, 0), (72, .iadd, 1, 0, 0, 0, 0)]
def cd158_1 : List am_E := [(73, .istore 4, 2, 4, 0, 0, 0), (75, .iinc 5 1, 3, 5, 0, 1, 0), (78, .goto (-37), 3, 41, 0, 0, 0), (81, .iload 4, 2, 4, 0, 0, 0), (83, .ireturn, 1, 0, 0, 0, 0)]
def cd158 : List am_E := cd158_0 ++ (cd158_1)
def am_w158 : List (List (Int32 × Nat) × Nat) := []
set_option maxRecDepth 100000 in
theorem kcd158_0 : cd158_0.all (am_chk am_w158 158) = true := by decide +kernel
set_option maxRecDepth 100000 in
theorem kcd158_1 : cd158_1.all (am_chk am_w158 158) = true := by decide +kernel
theorem am_k158 : cd158.all (am_chk am_w158 158) = true := by
  simp only [cd158, List.all_append, kcd158_0, kcd158_1, Bool.and_self]
theorem am_r158 : am_rtc 158 = 0 := by decide +kernel
theorem am_l158 : am_ml 158 = 6 := by decide +kernel
def am_s158_ (z : Nat) : Nat → List aV → aM → Option aR := fun j => (match Nat.beq j 8 with
  | true => F8 z
  | false => (match Nat.beq j 47 with
  | true => F47 z
  | false => (match Nat.beq j 157 with
  | true => F157 z
  | false => (match Nat.beq j 165 with
  | true => F165 z
  | false => (fun _ _ => none)))))
theorem hs158 (z : Nat) : ∀ j2 : Nat, ∃ d2 : Nat, d2 + 1 ≤ 6 ∧ am_Snd d2 j2 (am_s158_ z j2) := by
  intro j2
  unfold am_s158_
  split
  · rename_i he
    rw [am_beq he]
    exact ⟨_, by decide, S8 z⟩
  · skip
    split
    · rename_i he
      rw [am_beq he]
      exact ⟨_, by decide, S47 z⟩
    · skip
      split
      · rename_i he
        rw [am_beq he]
        exact ⟨_, by decide, S157 z⟩
      · skip
        split
        · rename_i he
          rw [am_beq he]
          exact ⟨_, by decide, S165 z⟩
        · skip
          exact ⟨0, by decide, am_Snd_no j2⟩
def f158_41 (z : Nat) : Nat → Int32 → Int32 → Int32 → Int32 → Int32 → aM → Option aR
  | 0, _, _, _, _, _, _ => none
  | n + 1, x1, x2, x3, x4, x5, M =>
    if x2 ≤ x5 then
      some (some (.inl x4), M)
    else
      am_bi (f157 z (x1 + x5) M) fun v2 M1 =>
        am_bi (f47 z 18 v2 M1) fun v4 M3 =>
          f158_41 z n x1 x2 x3 (x4 + ((v4 >>> (x3 &&& 31)) &&& (1 : Int32))) (x5 + (1 : Int32)) M3
set_option maxRecDepth 100000 in
set_option maxHeartbeats 4000000 in
theorem e158_41 (z : Nat) : ∀ (n : Nat) (x1 : Int32) (x2 : Int32) (x3 : Int32) (x4 : Int32) (x5 : Int32) (M : aM) (r : aR), f158_41 z n x1 x2 x3 x4 x5 M = some r → am_Ev 6 158 41 [some (.inr (.inr (10, 0))), some (.inl x1), some (.inl x2), some (.inl x3), some (.inl x4), some (.inl x5)] [] M r := by
  intro n
  induction n with
  | zero =>
    intro x1 x2 x3 x4 x5 M r h
    cases h
  | succ n ih =>
    intro x1 x2 x3 x4 x5 M r h
    exact am_Ev_seg (sem := am_s158_ z) (cut := ([(41, [true, true, true, true, true, true])] : List (Nat × List Bool))) (hs158 z) am_r158 am_k158 (by rw [am_l158]; decide) (fun pc al st M => (match Nat.beq pc 41 with
      | true => (match al, st with
        | [some (.inr (.inr (10, 0))), some (.inl x1), some (.inl x2), some (.inl x3), some (.inl x4), some (.inl x5)], [] => f158_41 z n x1 x2 x3 x4 x5 M
        | _, _ => none)
      | false => none)) 24 h (fun pc al st M hk => by
      try dsimp only at hk
      split at hk
      · rename_i he
        rw [am_beq he]
        split at hk
        · exact ih _ _ _ _ _ _ _ hk
        · cases hk
      · cases hk)
/-- ArgumentMender.luck(III)I -/
def f158 (z : Nat) (x1 : Int32) (x2 : Int32) (x3 : Int32) (M : aM) : Option aR :=
  am_bi (f8 z 18 x3 M) fun v2 M1 =>
    if v2 = 0 then
      some (some (.inl (-2 : Int32)), M1)
    else
      am_bi (f165 z x1 (0 : Int32) (2000000000 : Int32) M1) fun v4 M3 =>
        if v4 = 0 then
          some (some (.inl (-2 : Int32)), M3)
        else
          am_bi (f165 z x2 (1 : Int32) (20 : Int32) M3) fun v6 M5 =>
            if ¬ v6 = 0 then
              f158_41 z z x1 x2 x3 (0 : Int32) (0 : Int32) M5
            else
              some (some (.inl (-2 : Int32)), M5)
set_option maxRecDepth 100000 in
set_option maxHeartbeats 4000000 in
theorem e158 (z : Nat) : ∀ (x1 : Int32) (x2 : Int32) (x3 : Int32) (M : aM) (r : aR), f158 z x1 x2 x3 M = some r → am_Ev 6 158 0 [some (.inr (.inr (10, 0))), some (.inl x1), some (.inl x2), some (.inl x3), none, none] [] M r := by
  intro x1 x2 x3 M r h
  exact am_Ev_seg (sem := am_s158_ z) (cut := ([(41, [true, true, true, true, true, true])] : List (Nat × List Bool))) (hs158 z) am_r158 am_k158 (by rw [am_l158]; decide) (fun pc al st M => (match Nat.beq pc 41 with
      | true => (match al, st with
        | [some (.inr (.inr (10, 0))), some (.inl x1), some (.inl x2), some (.inl x3), some (.inl x4), some (.inl x5)], [] => f158_41 z z x1 x2 x3 x4 x5 M
        | _, _ => none)
      | false => none)) 21 h (fun pc al st M hk => by
      try dsimp only at hk
      split at hk
      · rename_i he
        rw [am_beq he]
        split at hk
        · exact e158_41 z _ _ _ _ _ _ _ _ hk
        · cases hk
      · cases hk)
def F158 (z : Nat) (as : List aV) (M : aM) : Option aR := match as with
  | [.inr (.inr (10, 0)), .inl x1, .inl x2, .inl x3] => f158 z x1 x2 x3 M
  | _ => none
theorem S158 (z : Nat) : am_Snd 6 158 (F158 z) := am_meth (by decide +kernel) (fun as M r has h => by
    rw [am_l158]
    unfold F158 at h
    split at h
    · exact ⟨Nat.le_of_ble_eq_true rfl, e158 z _ _ _ _ _ h⟩
    · cases h)
def cd317_0 : List am_E := [(0, .aload_n 0, 1, 0, 0, 0, 0), (1, .invokevirtual 329, 3, 211, 11004, 0, 0), (4, .lload_n 1, 1, 1, 0, 0, 0), (5, .lstore_n 3, 1, 3, 0, 0, 0), (6, .aload_n 0, 1, 0, 0, 0, 0), (7, .iconst 0, 1, 0, 0, 0, 0), (8, .putfield 268, 3, 11, 18, 0, 0), (11, .iconst 0, 1, 0, 0, 0, 0), (12, .istore 5, 2, 5, 0, 0, 0), (14, .iload 5, 2, 5, 0, 0, 0), (16, .aload_n 0, 1, 0, 0, 0, 0), (17, .invokevirtual 121, 3, 179, 11000, 0, 0), (20, .if_icmp .ge 60, 3, 80, 0, 0, 0), (23, .ldc2_w 500, 3, 0, 0, 0, 1103515245), (26, .lload_n 3, 1, 3, 0, 0, 0), (27, .lmul, 1, 0, 0, 0, 0), (28, .ldc2_w 502, 3, 0, 0, 0, 12345), (31, .ladd, 1, 0, 0, 0, 0), (32, .ldc2_w 504, 3, 0, 0, 0, 2147483648), (35, .lrem, 1, 0, 0, 0, 0), (36, .lstore_n 3, 1, 3, 0, 0, 0), (37, .aload_n 0, 1, 0, 0, 0, 0), (38, .dup, 1, 0, 0, 0, 0), (39, .getfield 268, 3, 11, 18, 0, 0), (42, .lload_n 3, 1, 3, 0, 0, 0), (43, .ldc2_w 506, 3, 0, 0, 0, 65536), (46, .ldiv, 1, 0, 0, 0, 0), (47, .ldc2_w 508, 3, 0, 0, 0, 10), (50, .lrem, 1, 0, 0, 0, 0), (51, .aload_n 0, 1, 0, 0, 0, 0), (52, .getfield 9, 3, 11, 1, 0, 0), (55, .iconst 2, 1, 0, 0, 2, 0), (56, .iaload, 1, 0, 0, 0, 0), (57, .i2l, 1, 0, 0, 0, 0), (58, .lcmp, 1, 0, 0, 0, 0), (59, .ifCond .ge 10, 3, 69, 0, 0, 0), (62, .iconst 1, 1, 0, 0, 1, 0), (63, .iload 5, 2, 5, 0, 0, 0), (65, .ishl, 1, 0, 0, 0, 0), (66, .goto 4, 3, 70, 0, 0, 0)]
def cd317_1 : List am_E := [(69, .iconst 0, 1, 0, 0, 0, 0), (70, .ior, 1, 0, 0, 0, 0), (71, .putfield 268, 3, 11, 18, 0, 0), (74, .iinc 5 1, 3, 5, 0, 1, 0), (77, .goto (-63), 3, 14, 0, 0, 0), (80, .aload_n 0, 1, 0, 0, 0, 0), (81, .invokevirtual 332, 3, 224, 11004, 0, 0), (84, .return_, 1, 0, 0, 0, 0)]
def cd317 : List am_E := cd317_0 ++ (cd317_1)
def am_w317 : List (List (Int32 × Nat) × Nat) := []
set_option maxRecDepth 100000 in
theorem kcd317_0 : cd317_0.all (am_chk am_w317 317) = true := by decide +kernel
set_option maxRecDepth 100000 in
theorem kcd317_1 : cd317_1.all (am_chk am_w317 317) = true := by decide +kernel
theorem am_k317 : cd317.all (am_chk am_w317 317) = true := by
  simp only [cd317, List.all_append, kcd317_0, kcd317_1, Bool.and_self]
theorem am_r317 : am_rtc 317 = 4 := by decide +kernel
theorem am_l317 : am_ml 317 = 6 := by decide +kernel
def am_s317_ (z : Nat) : Nat → List aV → aM → Option aR := fun j => (match Nat.beq j 179 with
  | true => F179 z
  | false => (match Nat.beq j 211 with
  | true => F211 z
  | false => (match Nat.beq j 224 with
  | true => F224 z
  | false => (fun _ _ => none))))
theorem hs317 (z : Nat) : ∀ j2 : Nat, ∃ d2 : Nat, d2 + 1 ≤ 10 ∧ am_Snd d2 j2 (am_s317_ z j2) := by
  intro j2
  unfold am_s317_
  split
  · rename_i he
    rw [am_beq he]
    exact ⟨_, by decide, S179 z⟩
  · skip
    split
    · rename_i he
      rw [am_beq he]
      exact ⟨_, by decide, S211 z⟩
    · skip
      split
      · rename_i he
        rw [am_beq he]
        exact ⟨_, by decide, S224 z⟩
      · skip
        exact ⟨0, by decide, am_Snd_no j2⟩
def f317_37 (z : Nat) (k14 : Int64 → Int32 → aM → Option aR) : Nat → Int64 → Int32 → aM → Option aR
  | 0, _, _, _ => none
  | n + 1, y3, x5, M =>
    if (65536 : Int64) = 0 then
      none
    else
      if (10 : Int64) = 0 then
        none
      else
        if am_inB (2 : Int32) 116 then
          if 0 ≤ (lg_cmp ((y3 / (65536 : Int64)) - (y3 / (65536 : Int64)) / (10 : Int64) * (10 : Int64)) (Int32.toInt64 (M.1 206 (2 : Int32).toNatClampNeg))) then
            let I1 := am_u M.1 205 18 ((M.1 205 18) ||| (0 : Int32))
            k14 y3 (x5 + (1 : Int32)) (I1, M.2)
          else
            let I2 := am_u M.1 205 18 ((M.1 205 18) ||| ((1 : Int32) <<< (x5 &&& 31)))
            k14 y3 (x5 + (1 : Int32)) (I2, M.2)
        else
          none
set_option maxRecDepth 100000 in
set_option maxHeartbeats 4000000 in
theorem e317_37 (z : Nat) (k14 : Int64 → Int32 → aM → Option aR) (hk14 : ∀ (y3 : Int64) (x5 : Int32) (M : aM) (r : aR), k14 y3 x5 M = some r → am_Ev 10 317 14 [some (.inr (.inr (11, 205))), none, none, some (.inr (.inl y3)), none, some (.inl x5)] [] M r) : ∀ (n : Nat) (y3 : Int64) (x5 : Int32) (M : aM) (r : aR), f317_37 z k14 n y3 x5 M = some r → am_Ev 10 317 37 [some (.inr (.inr (11, 205))), none, none, some (.inr (.inl y3)), none, some (.inl x5)] [] M r := by
  intro n
  induction n with
  | zero =>
    intro y3 x5 M r h
    cases h
  | succ n ih =>
    intro y3 x5 M r h
    exact am_Ev_seg (sem := am_s317_ z) (cut := ([(14, [true, false, false, true, false, true])] : List (Nat × List Bool))) (hs317 z) am_r317 am_k317 (by rw [am_l317]; decide) (fun pc al st M => (match Nat.beq pc 14 with
      | true => (match al, st with
        | [some (.inr (.inr (11, 205))), none, none, some (.inr (.inl y3)), none, some (.inl x5)], [] => k14 y3 x5 M
        | _, _ => none)
      | false => none)) 25 h (fun pc al st M hk => by
      try dsimp only at hk
      split at hk
      · rename_i he
        rw [am_beq he]
        split at hk
        · exact hk14 _ _ _ _ hk
        · cases hk
      · cases hk)
def f317_35 (z : Nat) (k14 : Int64 → Int32 → aM → Option aR) : Nat → Int32 → Int64 → Int64 → aM → Option aR
  | 0, _, _, _, _ => none
  | n + 1, x5, ys0, ys1, M =>
    if ys0 = 0 then
      none
    else
      f317_37 z k14 z (ys1 - ys1 / ys0 * ys0) x5 M
set_option maxRecDepth 100000 in
set_option maxHeartbeats 4000000 in
theorem e317_35 (z : Nat) (k14 : Int64 → Int32 → aM → Option aR) (hk14 : ∀ (y3 : Int64) (x5 : Int32) (M : aM) (r : aR), k14 y3 x5 M = some r → am_Ev 10 317 14 [some (.inr (.inr (11, 205))), none, none, some (.inr (.inl y3)), none, some (.inl x5)] [] M r) : ∀ (n : Nat) (x5 : Int32) (ys0 : Int64) (ys1 : Int64) (M : aM) (r : aR), f317_35 z k14 n x5 ys0 ys1 M = some r → am_Ev 10 317 35 [some (.inr (.inr (11, 205))), none, none, none, none, some (.inl x5)] [.inr (.inl ys0), .inr (.inl ys1)] M r := by
  intro n
  induction n with
  | zero =>
    intro x5 ys0 ys1 M r h
    cases h
  | succ n ih =>
    intro x5 ys0 ys1 M r h
    exact am_Ev_seg (sem := am_s317_ z) (cut := ([(37, [true, false, false, true, false, true])] : List (Nat × List Bool))) (hs317 z) am_r317 am_k317 (by rw [am_l317]; decide) (fun pc al st M => (match Nat.beq pc 37 with
      | true => (match al, st with
        | [some (.inr (.inr (11, 205))), none, none, some (.inr (.inl y3)), none, some (.inl x5)], [] => f317_37 z k14 z y3 x5 M
        | _, _ => none)
      | false => none)) 4 h (fun pc al st M hk => by
      try dsimp only at hk
      split at hk
      · rename_i he
        rw [am_beq he]
        split at hk
        · exact e317_37 z _ hk14 _ _ _ _ _ hk
        · cases hk
      · cases hk)
def f317_14 (z : Nat) : Nat → Int64 → Int32 → aM → Option aR
  | 0, _, _, _ => none
  | n + 1, y3, x5, M =>
    am_bi (f179 z M) fun v2 M1 =>
      if v2 ≤ x5 then
        am_bv (f224 z M1) fun M3 =>
          some (none, M3)
      else
        f317_35 z (f317_14 z n) z x5 (2147483648 : Int64) (((1103515245 : Int64) * y3) + (12345 : Int64)) M1
set_option maxRecDepth 100000 in
set_option maxHeartbeats 4000000 in
theorem e317_14 (z : Nat) : ∀ (n : Nat) (y3 : Int64) (x5 : Int32) (M : aM) (r : aR), f317_14 z n y3 x5 M = some r → am_Ev 10 317 14 [some (.inr (.inr (11, 205))), none, none, some (.inr (.inl y3)), none, some (.inl x5)] [] M r := by
  intro n
  induction n with
  | zero =>
    intro y3 x5 M r h
    cases h
  | succ n ih =>
    intro y3 x5 M r h
    exact am_Ev_seg (sem := am_s317_ z) (cut := ([(35, [true, false, false, false, false, true])] : List (Nat × List Bool))) (hs317 z) am_r317 am_k317 (by rw [am_l317]; decide) (fun pc al st M => (match Nat.beq pc 35 with
      | true => (match al, st with
        | [some (.inr (.inr (11, 205))), none, none, none, none, some (.inl x5)], [.inr (.inl ys0), .inr (.inl ys1)] => f317_35 z (f317_14 z n) z x5 ys0 ys1 M
        | _, _ => none)
      | false => none)) 12 h (fun pc al st M hk => by
      try dsimp only at hk
      split at hk
      · rename_i he
        rw [am_beq he]
        split at hk
        · exact e317_35 z _ ih _ _ _ _ _ _ hk
        · cases hk
      · cases hk)
/-- ArgumentMenderModel.goDrawn(J)V -/
def f317 (z : Nat) (y1 : Int64) (M : aM) : Option aR :=
  am_bv (f211 z M) fun M1 =>
    let I2 := am_u M1.1 205 18 (0 : Int32)
    f317_14 z z y1 (0 : Int32) (I2, M1.2)
set_option maxRecDepth 100000 in
set_option maxHeartbeats 4000000 in
theorem e317 (z : Nat) : ∀ (y1 : Int64) (M : aM) (r : aR), f317 z y1 M = some r → am_Ev 10 317 0 [some (.inr (.inr (11, 205))), some (.inr (.inl y1)), none, none, none, none] [] M r := by
  intro y1 M r h
  exact am_Ev_seg (sem := am_s317_ z) (cut := ([(14, [true, false, false, true, false, true])] : List (Nat × List Bool))) (hs317 z) am_r317 am_k317 (by rw [am_l317]; decide) (fun pc al st M => (match Nat.beq pc 14 with
      | true => (match al, st with
        | [some (.inr (.inr (11, 205))), none, none, some (.inr (.inl y3)), none, some (.inl x5)], [] => f317_14 z z y3 x5 M
        | _, _ => none)
      | false => none)) 11 h (fun pc al st M hk => by
      try dsimp only at hk
      split at hk
      · rename_i he
        rw [am_beq he]
        split at hk
        · exact e317_14 z _ _ _ _ _ hk
        · cases hk
      · cases hk)
def F317 (z : Nat) (as : List aV) (M : aM) : Option aR := match as with
  | [.inr (.inr (11, 205)), .inr (.inl y1)] => f317 z y1 M
  | _ => none
theorem S317 (z : Nat) : am_Snd 10 317 (F317 z) := am_meth (by decide +kernel) (fun as M r has h => by
    rw [am_l317]
    unfold F317 at h
    split at h
    · exact ⟨Nat.le_of_ble_eq_true rfl, e317 z _ _ _ h⟩
    · cases h)
def cd319_0 : List am_E := [(0, .aload_n 0, 1, 0, 0, 0, 0), (1, .invokevirtual 107, 3, 175, 11000, 0, 0), (4, .ifCond .eq 20, 3, 24, 0, 0, 0), (7, .iload_n 1, 1, 1, 0, 0, 0), (8, .invokestatic 512, 3, 318, 15, 0, 0), (11, .ifCond .eq 13, 3, 24, 0, 0, 0), (14, .iload_n 2, 1, 2, 0, 0, 0), (15, .i2l, 1, 0, 0, 0, 0), (16, .lconst 0, 1, 0, 0, 0, 0), (17, .lconst 1, 1, 0, 0, 0, 1), (18, .invokestatic 103, 3, 170, 35, 0, 0), (21, .ifCond .ne 6, 3, 27, 0, 0, 0), (24, .bipush (-2), 2, 0, 0, (-2), 0), (26, .ireturn, 1, 0, 0, 0, 0), (27, .aload_n 0, 1, 0, 0, 0, 0), (28, .iload_n 1, 1, 1, 0, 0, 0), (29, .i2l, 1, 0, 0, 0, 0), (30, .invokevirtual 515, 3, 317, 11014, 0, 0), (33, .iload_n 2, 1, 2, 0, 0, 0), (34, .ifCond .ne 10, 3, 44, 0, 0, 0), (37, .aload_n 0, 1, 0, 0, 0, 0), (38, .getfield 268, 3, 11, 18, 0, 0), (41, .goto 7, 3, 48, 0, 0, 0), (44, .aload_n 0, 1, 0, 0, 0, 0), (45, .invokevirtual 397, 3, 232, 11000, 0, 0), (48, .ireturn, 1, 0, 0, 0, 0)]
def cd319 : List am_E := cd319_0
def am_w319 : List (List (Int32 × Nat) × Nat) := []
set_option maxRecDepth 100000 in
theorem kcd319_0 : cd319_0.all (am_chk am_w319 319) = true := by decide +kernel
theorem am_k319 : cd319.all (am_chk am_w319 319) = true := by
  simp only [cd319, List.all_append, kcd319_0, Bool.and_self]
theorem am_r319 : am_rtc 319 = 0 := by decide +kernel
theorem am_l319 : am_ml 319 = 3 := by decide +kernel
def am_s319_ (z : Nat) : Nat → List aV → aM → Option aR := fun j => (match Nat.beq j 170 with
  | true => F170 z
  | false => (match Nat.beq j 175 with
  | true => F175 z
  | false => (match Nat.beq j 232 with
  | true => F232 z
  | false => (match Nat.beq j 317 with
  | true => F317 z
  | false => (match Nat.beq j 318 with
  | true => F318 z
  | false => (fun _ _ => none))))))
theorem hs319 (z : Nat) : ∀ j2 : Nat, ∃ d2 : Nat, d2 + 1 ≤ 11 ∧ am_Snd d2 j2 (am_s319_ z j2) := by
  intro j2
  unfold am_s319_
  split
  · rename_i he
    rw [am_beq he]
    exact ⟨_, by decide, S170 z⟩
  · skip
    split
    · rename_i he
      rw [am_beq he]
      exact ⟨_, by decide, S175 z⟩
    · skip
      split
      · rename_i he
        rw [am_beq he]
        exact ⟨_, by decide, S232 z⟩
      · skip
        split
        · rename_i he
          rw [am_beq he]
          exact ⟨_, by decide, S317 z⟩
        · skip
          split
          · rename_i he
            rw [am_beq he]
            exact ⟨_, by decide, S318 z⟩
          · skip
            exact ⟨0, by decide, am_Snd_no j2⟩
/-- ArgumentMenderModel.drawn(II)I -/
def f319 (z : Nat) (x1 : Int32) (x2 : Int32) (M : aM) : Option aR :=
  am_bi (f175 z M) fun v2 M1 =>
    if v2 = 0 then
      some (some (.inl (-2 : Int32)), M1)
    else
      am_bi (f318 z x1 M1) fun v4 M3 =>
        if v4 = 0 then
          some (some (.inl (-2 : Int32)), M3)
        else
          am_bi (f170 z (Int32.toInt64 x2) (0 : Int64) (1 : Int64) M3) fun v6 M5 =>
            if ¬ v6 = 0 then
              am_bv (f317 z (Int32.toInt64 x1) M5) fun M7 =>
                if ¬ x2 = 0 then
                  am_bi (f232 z M7) fun v9 M8 =>
                    some (some (.inl v9), M8)
                else
                  some (some (.inl (M7.1 205 18)), M7)
            else
              some (some (.inl (-2 : Int32)), M5)
set_option maxRecDepth 100000 in
set_option maxHeartbeats 4000000 in
theorem e319 (z : Nat) : ∀ (x1 : Int32) (x2 : Int32) (M : aM) (r : aR), f319 z x1 x2 M = some r → am_Ev 11 319 0 [some (.inr (.inr (11, 205))), some (.inl x1), some (.inl x2)] [] M r := by
  intro x1 x2 M r h
  exact am_Ev_seg (sem := am_s319_ z) (cut := ([] : List (Nat × List Bool))) (hs319 z) am_r319 am_k319 (by rw [am_l319]; decide) (fun _ _ _ _ => none) 23 h (fun _ _ _ _ hk => by cases hk)
def F319 (z : Nat) (as : List aV) (M : aM) : Option aR := match as with
  | [.inr (.inr (11, 205)), .inl x1, .inl x2] => f319 z x1 x2 M
  | _ => none
theorem S319 (z : Nat) : am_Snd 11 319 (F319 z) := am_meth (by decide +kernel) (fun as M r has h => by
    rw [am_l319]
    unfold F319 at h
    split at h
    · exact ⟨Nat.le_of_ble_eq_true rfl, e319 z _ _ _ _ h⟩
    · cases h)
def cd320_0 : List am_E := [(0, .iload_n 1, 1, 1, 0, 0, 0), (1, .invokestatic 512, 3, 318, 15, 0, 0), (4, .ifCond .eq 23, 3, 27, 0, 0, 0), (7, .iload_n 2, 1, 2, 0, 0, 0), (8, .i2l, 1, 0, 0, 0, 0), (9, .lconst 1, 1, 0, 0, 0, 1), (10, .ldc2_w 519, 3, 0, 0, 0, 20), (13, .invokestatic 103, 3, 170, 35, 0, 0), (16, .ifCond .eq 11, 3, 27, 0, 0, 0), (19, .aload_n 0, 1, 0, 0, 0, 0), (20, .iload_n 3, 1, 3, 0, 0, 0), (21, .invokevirtual 255, 3, 182, 11010, 0, 0), (24, .ifCond .ne 6, 3, 30, 0, 0, 0), (27, .bipush (-2), 2, 0, 0, (-2), 0), (29, .ireturn, 1, 0, 0, 0, 0), (30, .iconst 0, 1, 0, 0, 0, 0), (31, .istore 4, 2, 4, 0, 0, 0), (33, .iconst 0, 1, 0, 0, 0, 0), (34, .istore 5, 2, 5, 0, 0, 0), (36, .iload 5, 2, 5, 0, 0, 0), (38, .iload_n 2, 1, 2, 0, 0, 0), (39, .if_icmp .ge 32, 3, 71, 0, 0, 0), (42, .aload_n 0, 1, 0, 0, 0, 0), (43, .iload_n 1, 1, 1, 0, 0, 0), (44, .i2l, 1, 0, 0, 0, 0), (45, .iload 5, 2, 5, 0, 0, 0), (47, .i2l, 1, 0, 0, 0, 0), (48, .ladd, 1, 0, 0, 0, 0), (49, .invokevirtual 515, 3, 317, 11014, 0, 0), (52, .iload 4, 2, 4, 0, 0, 0), (54, .aload_n 0, 1, 0, 0, 0, 0), (55, .invokevirtual 397, 3, 232, 11000, 0, 0), (58, .iload_n 3, 1, 3, 0, 0, 0), (59, .invokestatic 300, 3, 172, 25, 0, 0), (62, .iadd, 1, 0, 0, 0, 0), (63, .istore 4, 2, 4, 0, 0, 0), (65, .iinc 5 1, 3, 5, 0, 1, 0), (68, .goto (-32), 3, 36, 0, 0, 0), (71, .iload 4, 2, 4, 0, 0, 0), (73, .ireturn, 1, 0, 0, 0, 0)]
def cd320 : List am_E := cd320_0
def am_w320 : List (List (Int32 × Nat) × Nat) := []
set_option maxRecDepth 100000 in
theorem kcd320_0 : cd320_0.all (am_chk am_w320 320) = true := by decide +kernel
theorem am_k320 : cd320.all (am_chk am_w320 320) = true := by
  simp only [cd320, List.all_append, kcd320_0, Bool.and_self]
theorem am_r320 : am_rtc 320 = 0 := by decide +kernel
theorem am_l320 : am_ml 320 = 6 := by decide +kernel
def am_s320_ (z : Nat) : Nat → List aV → aM → Option aR := fun j => (match Nat.beq j 170 with
  | true => F170 z
  | false => (match Nat.beq j 172 with
  | true => F172 z
  | false => (match Nat.beq j 182 with
  | true => F182 z
  | false => (match Nat.beq j 232 with
  | true => F232 z
  | false => (match Nat.beq j 317 with
  | true => F317 z
  | false => (match Nat.beq j 318 with
  | true => F318 z
  | false => (fun _ _ => none)))))))
theorem hs320 (z : Nat) : ∀ j2 : Nat, ∃ d2 : Nat, d2 + 1 ≤ 11 ∧ am_Snd d2 j2 (am_s320_ z j2) := by
  intro j2
  unfold am_s320_
  split
  · rename_i he
    rw [am_beq he]
    exact ⟨_, by decide, S170 z⟩
  · skip
    split
    · rename_i he
      rw [am_beq he]
      exact ⟨_, by decide, S172 z⟩
    · skip
      split
      · rename_i he
        rw [am_beq he]
        exact ⟨_, by decide, S182 z⟩
      · skip
        split
        · rename_i he
          rw [am_beq he]
          exact ⟨_, by decide, S232 z⟩
        · skip
          split
          · rename_i he
            rw [am_beq he]
            exact ⟨_, by decide, S317 z⟩
          · skip
            split
            · rename_i he
              rw [am_beq he]
              exact ⟨_, by decide, S318 z⟩
            · skip
              exact ⟨0, by decide, am_Snd_no j2⟩
def f320_36 (z : Nat) : Nat → Int32 → Int32 → Int32 → Int32 → Int32 → aM → Option aR
  | 0, _, _, _, _, _, _ => none
  | n + 1, x1, x2, x3, x4, x5, M =>
    if x2 ≤ x5 then
      some (some (.inl x4), M)
    else
      am_bv (f317 z ((Int32.toInt64 x1) + (Int32.toInt64 x5)) M) fun M1 =>
        am_bi (f232 z M1) fun v3 M2 =>
          am_bi (f172 z v3 x3 M2) fun v5 M4 =>
            f320_36 z n x1 x2 x3 (x4 + v5) (x5 + (1 : Int32)) M4
set_option maxRecDepth 100000 in
set_option maxHeartbeats 4000000 in
theorem e320_36 (z : Nat) : ∀ (n : Nat) (x1 : Int32) (x2 : Int32) (x3 : Int32) (x4 : Int32) (x5 : Int32) (M : aM) (r : aR), f320_36 z n x1 x2 x3 x4 x5 M = some r → am_Ev 11 320 36 [some (.inr (.inr (11, 205))), some (.inl x1), some (.inl x2), some (.inl x3), some (.inl x4), some (.inl x5)] [] M r := by
  intro n
  induction n with
  | zero =>
    intro x1 x2 x3 x4 x5 M r h
    cases h
  | succ n ih =>
    intro x1 x2 x3 x4 x5 M r h
    exact am_Ev_seg (sem := am_s320_ z) (cut := ([(36, [true, true, true, true, true, true])] : List (Nat × List Bool))) (hs320 z) am_r320 am_k320 (by rw [am_l320]; decide) (fun pc al st M => (match Nat.beq pc 36 with
      | true => (match al, st with
        | [some (.inr (.inr (11, 205))), some (.inl x1), some (.inl x2), some (.inl x3), some (.inl x4), some (.inl x5)], [] => f320_36 z n x1 x2 x3 x4 x5 M
        | _, _ => none)
      | false => none)) 21 h (fun pc al st M hk => by
      try dsimp only at hk
      split at hk
      · rename_i he
        rw [am_beq he]
        split at hk
        · exact ih _ _ _ _ _ _ _ hk
        · cases hk
      · cases hk)
/-- ArgumentMenderModel.luck(III)I -/
def f320 (z : Nat) (x1 : Int32) (x2 : Int32) (x3 : Int32) (M : aM) : Option aR :=
  am_bi (f318 z x1 M) fun v2 M1 =>
    if v2 = 0 then
      some (some (.inl (-2 : Int32)), M1)
    else
      am_bi (f170 z (Int32.toInt64 x2) (1 : Int64) (20 : Int64) M1) fun v4 M3 =>
        if v4 = 0 then
          some (some (.inl (-2 : Int32)), M3)
        else
          am_bi (f182 z x3 M3) fun v6 M5 =>
            if ¬ v6 = 0 then
              f320_36 z z x1 x2 x3 (0 : Int32) (0 : Int32) M5
            else
              some (some (.inl (-2 : Int32)), M5)
set_option maxRecDepth 100000 in
set_option maxHeartbeats 4000000 in
theorem e320 (z : Nat) : ∀ (x1 : Int32) (x2 : Int32) (x3 : Int32) (M : aM) (r : aR), f320 z x1 x2 x3 M = some r → am_Ev 11 320 0 [some (.inr (.inr (11, 205))), some (.inl x1), some (.inl x2), some (.inl x3), none, none] [] M r := by
  intro x1 x2 x3 M r h
  exact am_Ev_seg (sem := am_s320_ z) (cut := ([(36, [true, true, true, true, true, true])] : List (Nat × List Bool))) (hs320 z) am_r320 am_k320 (by rw [am_l320]; decide) (fun pc al st M => (match Nat.beq pc 36 with
      | true => (match al, st with
        | [some (.inr (.inr (11, 205))), some (.inl x1), some (.inl x2), some (.inl x3), some (.inl x4), some (.inl x5)], [] => f320_36 z z x1 x2 x3 x4 x5 M
        | _, _ => none)
      | false => none)) 19 h (fun pc al st M hk => by
      try dsimp only at hk
      split at hk
      · rename_i he
        rw [am_beq he]
        split at hk
        · exact e320_36 z _ _ _ _ _ _ _ _ hk
        · cases hk
      · cases hk)
def F320 (z : Nat) (as : List aV) (M : aM) : Option aR := match as with
  | [.inr (.inr (11, 205)), .inl x1, .inl x2, .inl x3] => f320 z x1 x2 x3 M
  | _ => none
theorem S320 (z : Nat) : am_Snd 11 320 (F320 z) := am_meth (by decide +kernel) (fun as M r has h => by
    rw [am_l320]
    unfold F320 at h
    split at h
    · exact ⟨Nat.le_of_ble_eq_true rfl, e320 z _ _ _ _ _ h⟩
    · cases h)
