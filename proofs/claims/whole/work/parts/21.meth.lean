def cd289_0 : List am_E := [(0, .aload_n 0, 1, 0, 0, 0, 0), (1, .iload_n 1, 1, 1, 0, 0, 0), (2, .iload_n 2, 1, 2, 0, 0, 0), (3, .invokevirtual 430, 3, 287, 11020, 0, 0), (6, .istore_n 3, 1, 3, 0, 0, 0), (7, .iload_n 3, 1, 3, 0, 0, 0), (8, .ifCond .ge 7, 3, 15, 0, 0, 0), (11, .iload_n 3, 1, 3, 0, 0, 0), (12, .goto 20, 3, 32, 0, 0, 0), (15, .aload_n 0, 1, 0, 0, 0, 0), (16, .getfield 424, 3, 11, 39, 0, 0), (19, .ifCond .ne 7, 3, 26, 0, 0, 0), (22, .iconst (-1), 1, 0, 0, (-1), 0), (23, .goto 9, 3, 32, 0, 0, 0), (26, .aload_n 0, 1, 0, 0, 0, 0), (27, .getfield 76, 3, 11, 37, 0, 0), (30, .iconst 0, 1, 0, 0, 0, 0), (31, .iaload, 1, 0, 0, 0, 0), (32, .ireturn, 1, 0, 0, 0, 0)]
def cd289 : List am_E := cd289_0
def am_w289 : List (List (Int32 × Nat) × Nat) := []
set_option maxRecDepth 100000 in
theorem kcd289_0 : cd289_0.all (am_chk am_w289 289) = true := by decide +kernel
theorem am_k289 : cd289.all (am_chk am_w289 289) = true := by
  simp only [cd289, List.all_append, kcd289_0, Bool.and_self]
theorem am_r289 : am_rtc 289 = 0 := by decide +kernel
theorem am_l289 : am_ml 289 = 4 := by decide +kernel
def am_s289_ (z : Nat) : Nat → List aV → aM → Option aR := (am_sm 287 (F287 z) am_s0)
theorem hs289 (z : Nat) : ∀ j2 : Nat, ∃ d2 : Nat, d2 + 1 ≤ 12 ∧ am_Snd d2 j2 (am_s289_ z j2) := (am_sm_ok (S287 z) (by decide) (am_s0_ok (by decide)))
/-- ArgumentMenderModel.least(II)I -/
def f289 (z : Nat) (x1 : Int32) (x2 : Int32) (M : aM) : Option aR :=
  am_bi (f287 z x1 x2 M) fun v2 M1 =>
    if 0 ≤ v2 then
      if ¬ (M1.1 205 39) = 0 then
        if am_inB (0 : Int32) 60 then
          some (some (.inl (M1.1 226 (0 : Int32).toNatClampNeg)), M1)
        else
          none
      else
        some (some (.inl (-1 : Int32)), M1)
    else
      some (some (.inl v2), M1)
set_option maxRecDepth 100000 in
set_option maxHeartbeats 4000000 in
theorem e289 (z : Nat) : ∀ (x1 : Int32) (x2 : Int32) (M : aM) (r : aR), f289 z x1 x2 M = some r → am_Ev 12 289 0 [some (.inr (.inr (11, 205))), some (.inl x1), some (.inl x2), none] [] M r := by
  intro x1 x2 M r h
  exact am_Ev_seg (sem := am_s289_ z) (cut := ([] : List (Nat × List Bool))) (hs289 z) am_r289 am_k289 (by rw [am_l289]; decide) am_k0 16 h am_k0_ok
def F289 (z : Nat) (as : List aV) (M : aM) : Option aR := match as with
  | [.inr (.inr (11, 205)), .inl x1, .inl x2] => f289 z x1 x2 M
  | _ => none
theorem S289 (z : Nat) : am_Snd 12 289 (F289 z) := am_meth (by decide +kernel) (fun as M r has h => by
    rw [am_l289]
    unfold F289 at h
    split at h
    · exact ⟨Nat.le_of_ble_eq_true rfl, e289 z _ _ _ _ h⟩
    · cases h)
def cd290_0 : List am_E := [(0, .aload_n 0, 1, 0, 0, 0, 0), (1, .iload_n 1, 1, 1, 0, 0, 0), (2, .iload_n 2, 1, 2, 0, 0, 0), (3, .invokevirtual 430, 3, 287, 11020, 0, 0), (6, .istore_n 3, 1, 3, 0, 0, 0), (7, .iload_n 3, 1, 3, 0, 0, 0), (8, .ifCond .ge 7, 3, 15, 0, 0, 0), (11, .iload_n 3, 1, 3, 0, 0, 0), (12, .goto 25, 3, 37, 0, 0, 0), (15, .aload_n 0, 1, 0, 0, 0, 0), (16, .getfield 424, 3, 11, 39, 0, 0), (19, .ifCond .ne 7, 3, 26, 0, 0, 0), (22, .iconst (-1), 1, 0, 0, (-1), 0), (23, .goto 14, 3, 37, 0, 0, 0), (26, .aload_n 0, 1, 0, 0, 0, 0), (27, .getfield 76, 3, 11, 37, 0, 0), (30, .aload_n 0, 1, 0, 0, 0, 0), (31, .getfield 424, 3, 11, 39, 0, 0), (34, .iconst 1, 1, 0, 0, 1, 0), (35, .isub, 1, 0, 0, 0, 0), (36, .iaload, 1, 0, 0, 0, 0), (37, .ireturn, 1, 0, 0, 0, 0)]
def cd290 : List am_E := cd290_0
def am_w290 : List (List (Int32 × Nat) × Nat) := []
set_option maxRecDepth 100000 in
theorem kcd290_0 : cd290_0.all (am_chk am_w290 290) = true := by decide +kernel
theorem am_k290 : cd290.all (am_chk am_w290 290) = true := by
  simp only [cd290, List.all_append, kcd290_0, Bool.and_self]
theorem am_r290 : am_rtc 290 = 0 := by decide +kernel
theorem am_l290 : am_ml 290 = 4 := by decide +kernel
def am_s290_ (z : Nat) : Nat → List aV → aM → Option aR := (am_sm 287 (F287 z) am_s0)
theorem hs290 (z : Nat) : ∀ j2 : Nat, ∃ d2 : Nat, d2 + 1 ≤ 12 ∧ am_Snd d2 j2 (am_s290_ z j2) := (am_sm_ok (S287 z) (by decide) (am_s0_ok (by decide)))
/-- ArgumentMenderModel.greatest(II)I -/
def f290 (z : Nat) (x1 : Int32) (x2 : Int32) (M : aM) : Option aR :=
  am_bi (f287 z x1 x2 M) fun v2 M1 =>
    if 0 ≤ v2 then
      if ¬ (M1.1 205 39) = 0 then
        if am_inB ((M1.1 205 39) - (1 : Int32)) 60 then
          some (some (.inl (M1.1 226 ((M1.1 205 39) - (1 : Int32)).toNatClampNeg)), M1)
        else
          none
      else
        some (some (.inl (-1 : Int32)), M1)
    else
      some (some (.inl v2), M1)
set_option maxRecDepth 100000 in
set_option maxHeartbeats 4000000 in
theorem e290 (z : Nat) : ∀ (x1 : Int32) (x2 : Int32) (M : aM) (r : aR), f290 z x1 x2 M = some r → am_Ev 12 290 0 [some (.inr (.inr (11, 205))), some (.inl x1), some (.inl x2), none] [] M r := by
  intro x1 x2 M r h
  exact am_Ev_seg (sem := am_s290_ z) (cut := ([] : List (Nat × List Bool))) (hs290 z) am_r290 am_k290 (by rw [am_l290]; decide) am_k0 19 h am_k0_ok
def F290 (z : Nat) (as : List aV) (M : aM) : Option aR := match as with
  | [.inr (.inr (11, 205)), .inl x1, .inl x2] => f290 z x1 x2 M
  | _ => none
theorem S290 (z : Nat) : am_Snd 12 290 (F290 z) := am_meth (by decide +kernel) (fun as M r has h => by
    rw [am_l290]
    unfold F290 at h
    split at h
    · exact ⟨Nat.le_of_ble_eq_true rfl, e290 z _ _ _ _ h⟩
    · cases h)
def cd291_0 : List am_E := [(0, .iconst 0, 1, 0, 0, 0, 0), (1, .istore_n 2, 1, 2, 0, 0, 0), (2, .iconst 0, 1, 0, 0, 0, 0), (3, .istore_n 3, 1, 3, 0, 0, 0), (4, .iload_n 3, 1, 3, 0, 0, 0), (5, .aload_n 0, 1, 0, 0, 0, 0), (6, .getfield 424, 3, 11, 39, 0, 0), (9, .if_icmp .ge 73, 3, 82, 0, 0, 0), (12, .iconst 0, 1, 0, 0, 0, 0), (13, .istore 4, 2, 4, 0, 0, 0), (15, .iconst 0, 1, 0, 0, 0, 0), (16, .istore 5, 2, 5, 0, 0, 0), (18, .iload 5, 2, 5, 0, 0, 0), (20, .aload_n 0, 1, 0, 0, 0, 0), (21, .getfield 424, 3, 11, 39, 0, 0), (24, .if_icmp .ge 45, 3, 69, 0, 0, 0), (27, .iload 4, 2, 4, 0, 0, 0), (29, .aload_n 0, 1, 0, 0, 0, 0), (30, .getfield 79, 3, 11, 38, 0, 0), (33, .bipush 13, 2, 0, 0, 13, 0), (35, .iload_n 3, 1, 3, 0, 0, 0), (36, .imul, 1, 0, 0, 0, 0), (37, .iload_n 1, 1, 1, 0, 0, 0), (38, .iadd, 1, 0, 0, 0, 0), (39, .iaload, 1, 0, 0, 0, 0), (40, .aload_n 0, 1, 0, 0, 0, 0), (41, .getfield 79, 3, 11, 38, 0, 0), (44, .bipush 13, 2, 0, 0, 13, 0), (46, .iload 5, 2, 5, 0, 0, 0), (48, .imul, 1, 0, 0, 0, 0), (49, .iload_n 1, 1, 1, 0, 0, 0), (50, .iadd, 1, 0, 0, 0, 0), (51, .iaload, 1, 0, 0, 0, 0), (52, .if_icmp .ne 7, 3, 59, 0, 0, 0), (55, .iconst 1, 1, 0, 0, 1, 0), (56, .goto 4, 3, 60, 0, 0, 0), (59, .iconst 0, 1, 0, 0, 0, 0), (60, .iadd, 1, 0, 0, 0, 0), (61, .istore 4, 2, 4, 0, 0, 0), (63, .iinc 5 1, 3, 5, 0, 1, 0)]
def cd291_1 : List am_E := [(66, .goto (-48), 3, 18, 0, 0, 0), (69, .iload_n 2, 1, 2, 0, 0, 0), (70, .iload 4, 2, 4, 0, 0, 0), (72, .invokestatic 433, 3, 0, 3, 0, 0), (75, .istore_n 2, 1, 2, 0, 0, 0), (76, .iinc 3 1, 3, 3, 0, 1, 0), (79, .goto (-75), 3, 4, 0, 0, 0), (82, .iload_n 2, 1, 2, 0, 0, 0), (83, .ireturn, 1, 0, 0, 0, 0)]
def cd291 : List am_E := cd291_0 ++ (cd291_1)
def am_w291 : List (List (Int32 × Nat) × Nat) := []
set_option maxRecDepth 100000 in
theorem kcd291_0 : cd291_0.all (am_chk am_w291 291) = true := by decide +kernel
set_option maxRecDepth 100000 in
theorem kcd291_1 : cd291_1.all (am_chk am_w291 291) = true := by decide +kernel
theorem am_k291 : cd291.all (am_chk am_w291 291) = true := by
  simp only [cd291, List.all_append, kcd291_0, kcd291_1, Bool.and_self]
theorem am_r291 : am_rtc 291 = 0 := by decide +kernel
theorem am_l291 : am_ml 291 = 6 := by decide +kernel
def am_s291_ (z : Nat) : Nat → List aV → aM → Option aR := am_s0
theorem hs291 (z : Nat) : ∀ j2 : Nat, ∃ d2 : Nat, d2 + 1 ≤ 1 ∧ am_Snd d2 j2 (am_s291_ z j2) := (am_s0_ok (by decide))
def f291_18 (z : Nat) (k4 : Int32 → Int32 → Int32 → aM → Option aR) : Nat → Int32 → Int32 → Int32 → Int32 → Int32 → aM → Option aR
  | 0, _, _, _, _, _, _ => none
  | n + 1, x1, x2, x3, x4, x5, M =>
    if (M.1 205 39) ≤ x5 then
      k4 x1 (if x2 < x4 then x4 else x2) (x3 + (1 : Int32)) M
    else
      if am_inB (((13 : Int32) * x3) + x1) 780 then
        if am_inB (((13 : Int32) * x5) + x1) 780 then
          if ¬ (M.1 227 (((13 : Int32) * x3) + x1).toNatClampNeg) = (M.1 227 (((13 : Int32) * x5) + x1).toNatClampNeg) then
            f291_18 z k4 n x1 x2 x3 (x4 + (0 : Int32)) (x5 + (1 : Int32)) M
          else
            f291_18 z k4 n x1 x2 x3 (x4 + (1 : Int32)) (x5 + (1 : Int32)) M
        else
          none
      else
        none
set_option maxRecDepth 100000 in
set_option maxHeartbeats 4000000 in
theorem e291_18 (z : Nat) (k4 : Int32 → Int32 → Int32 → aM → Option aR) (hk4 : ∀ (x1 : Int32) (x2 : Int32) (x3 : Int32) (M : aM) (r : aR), k4 x1 x2 x3 M = some r → am_Ev 1 291 4 [some (.inr (.inr (11, 205))), some (.inl x1), some (.inl x2), some (.inl x3), none, none] [] M r) : ∀ (n : Nat) (x1 : Int32) (x2 : Int32) (x3 : Int32) (x4 : Int32) (x5 : Int32) (M : aM) (r : aR), f291_18 z k4 n x1 x2 x3 x4 x5 M = some r → am_Ev 1 291 18 [some (.inr (.inr (11, 205))), some (.inl x1), some (.inl x2), some (.inl x3), some (.inl x4), some (.inl x5)] [] M r := by
  intro n
  induction n with
  | zero =>
    intro x1 x2 x3 x4 x5 M r h
    cases h
  | succ n ih =>
    intro x1 x2 x3 x4 x5 M r h
    exact am_Ev_seg (sem := am_s291_ z) (cut := ([(4, [true, true, true, true, false, false]), (18, [true, true, true, true, true, true])] : List (Nat × List Bool))) (hs291 z) am_r291 am_k291 (by rw [am_l291]; decide) (am_kc 4 (fun al st M => match al, st with
      | [some (.inr (.inr (11, 205))), some (.inl x1), some (.inl x2), some (.inl x3), none, none], [] => k4 x1 x2 x3 M
      | _, _ => none) (am_kc 18 (fun al st M => match al, st with
      | [some (.inr (.inr (11, 205))), some (.inl x1), some (.inl x2), some (.inl x3), some (.inl x4), some (.inl x5)], [] => f291_18 z k4 n x1 x2 x3 x4 x5 M
      | _, _ => none) am_k0)) 30 h (am_kc_ok (fun al st M hk => by
      split at hk
      · exact hk4 _ _ _ _ _ hk
      · cases hk) (am_kc_ok (fun al st M hk => by
      split at hk
      · exact ih _ _ _ _ _ _ _ hk
      · cases hk) am_k0_ok))
def f291_4 (z : Nat) : Nat → Int32 → Int32 → Int32 → aM → Option aR
  | 0, _, _, _, _ => none
  | n + 1, x1, x2, x3, M =>
    if (M.1 205 39) ≤ x3 then
      some (some (.inl x2), M)
    else
      f291_18 z (f291_4 z n) z x1 x2 x3 (0 : Int32) (0 : Int32) M
set_option maxRecDepth 100000 in
set_option maxHeartbeats 4000000 in
theorem e291_4 (z : Nat) : ∀ (n : Nat) (x1 : Int32) (x2 : Int32) (x3 : Int32) (M : aM) (r : aR), f291_4 z n x1 x2 x3 M = some r → am_Ev 1 291 4 [some (.inr (.inr (11, 205))), some (.inl x1), some (.inl x2), some (.inl x3), none, none] [] M r := by
  intro n
  induction n with
  | zero =>
    intro x1 x2 x3 M r h
    cases h
  | succ n ih =>
    intro x1 x2 x3 M r h
    exact am_Ev_seg (sem := am_s291_ z) (cut := ([(18, [true, true, true, true, true, true])] : List (Nat × List Bool))) (hs291 z) am_r291 am_k291 (by rw [am_l291]; decide) (am_kc 18 (fun al st M => match al, st with
      | [some (.inr (.inr (11, 205))), some (.inl x1), some (.inl x2), some (.inl x3), some (.inl x4), some (.inl x5)], [] => f291_18 z (f291_4 z n) z x1 x2 x3 x4 x5 M
      | _, _ => none) am_k0) 10 h (am_kc_ok (fun al st M hk => by
      split at hk
      · exact e291_18 z _ ih _ _ _ _ _ _ _ _ hk
      · cases hk) am_k0_ok)
/-- ArgumentMenderModel.worstIn(I)I -/
def f291 (z : Nat) (x1 : Int32) (M : aM) : Option aR :=
  f291_4 z z x1 (0 : Int32) (0 : Int32) M
set_option maxRecDepth 100000 in
set_option maxHeartbeats 4000000 in
theorem e291 (z : Nat) : ∀ (x1 : Int32) (M : aM) (r : aR), f291 z x1 M = some r → am_Ev 1 291 0 [some (.inr (.inr (11, 205))), some (.inl x1), none, none, none, none] [] M r := by
  intro x1 M r h
  exact am_Ev_seg (sem := am_s291_ z) (cut := ([(4, [true, true, true, true, false, false])] : List (Nat × List Bool))) (hs291 z) am_r291 am_k291 (by rw [am_l291]; decide) (am_kc 4 (fun al st M => match al, st with
      | [some (.inr (.inr (11, 205))), some (.inl x1), some (.inl x2), some (.inl x3), none, none], [] => f291_4 z z x1 x2 x3 M
      | _, _ => none) am_k0) 6 h (am_kc_ok (fun al st M hk => by
      split at hk
      · exact e291_4 z _ _ _ _ _ _ hk
      · cases hk) am_k0_ok)
def F291 (z : Nat) (as : List aV) (M : aM) : Option aR := match as with
  | [.inr (.inr (11, 205)), .inl x1] => f291 z x1 M
  | _ => none
theorem S291 (z : Nat) : am_Snd 1 291 (F291 z) := am_meth (by decide +kernel) (fun as M r has h => by
    rw [am_l291]
    unfold F291 at h
    split at h
    · exact ⟨Nat.le_of_ble_eq_true rfl, e291 z _ _ _ h⟩
    · cases h)
def cd292_0 : List am_E := [(0, .aload_n 0, 1, 0, 0, 0, 0), (1, .aload_n 0, 1, 0, 0, 0, 0), (2, .getfield 424, 3, 11, 39, 0, 0), (5, .putfield 436, 3, 11, 40, 0, 0), (8, .iconst (-1), 1, 0, 0, (-1), 0), (9, .istore_n 1, 1, 1, 0, 0, 0), (10, .iconst 0, 1, 0, 0, 0, 0), (11, .istore_n 2, 1, 2, 0, 0, 0), (12, .iload_n 2, 1, 2, 0, 0, 0), (13, .aload_n 0, 1, 0, 0, 0, 0), (14, .invokevirtual 111, 3, 176, 11000, 0, 0), (17, .if_icmp .gt 33, 3, 50, 0, 0, 0), (20, .aload_n 0, 1, 0, 0, 0, 0), (21, .iload_n 2, 1, 2, 0, 0, 0), (22, .invokevirtual 439, 3, 291, 11010, 0, 0), (25, .istore_n 3, 1, 3, 0, 0, 0), (26, .iload_n 3, 1, 3, 0, 0, 0), (27, .aload_n 0, 1, 0, 0, 0, 0), (28, .getfield 436, 3, 11, 40, 0, 0), (31, .if_icmp .lt 6, 3, 37, 0, 0, 0), (34, .goto 10, 3, 44, 0, 0, 0), (37, .aload_n 0, 1, 0, 0, 0, 0), (38, .iload_n 3, 1, 3, 0, 0, 0), (39, .putfield 436, 3, 11, 40, 0, 0), (42, .iload_n 2, 1, 2, 0, 0, 0), (43, .istore_n 1, 1, 1, 0, 0, 0), (44, .iinc 2 1, 3, 2, 0, 1, 0), (47, .goto (-35), 3, 12, 0, 0, 0), (50, .iload_n 1, 1, 1, 0, 0, 0), (51, .ireturn, 1, 0, 0, 0, 0)]
def cd292 : List am_E := cd292_0
def am_w292 : List (List (Int32 × Nat) × Nat) := []
set_option maxRecDepth 100000 in
theorem kcd292_0 : cd292_0.all (am_chk am_w292 292) = true := by decide +kernel
theorem am_k292 : cd292.all (am_chk am_w292 292) = true := by
  simp only [cd292, List.all_append, kcd292_0, Bool.and_self]
theorem am_r292 : am_rtc 292 = 0 := by decide +kernel
theorem am_l292 : am_ml 292 = 4 := by decide +kernel
def am_s292_ (z : Nat) : Nat → List aV → aM → Option aR := (am_sm 176 (F176 z) (am_sm 291 (F291 z) am_s0))
theorem hs292 (z : Nat) : ∀ j2 : Nat, ∃ d2 : Nat, d2 + 1 ≤ 2 ∧ am_Snd d2 j2 (am_s292_ z j2) := (am_sm_ok (S176 z) (by decide) (am_sm_ok (S291 z) (by decide) (am_s0_ok (by decide))))
def f292_12 (z : Nat) : Nat → Int32 → Int32 → aM → Option aR
  | 0, _, _, _ => none
  | n + 1, x1, x2, M =>
    am_bi (f176 z M) fun v2 M1 =>
      if v2 < x2 then
        some (some (.inl x1), M1)
      else
        am_bi (f291 z x2 M1) fun v4 M3 =>
          if v4 < (M3.1 205 40) then
            let I5 := am_u M3.1 205 40 v4
            f292_12 z n x2 (x2 + (1 : Int32)) (I5, M3.2)
          else
            f292_12 z n x1 (x2 + (1 : Int32)) M3
set_option maxRecDepth 100000 in
set_option maxHeartbeats 4000000 in
theorem e292_12 (z : Nat) : ∀ (n : Nat) (x1 : Int32) (x2 : Int32) (M : aM) (r : aR), f292_12 z n x1 x2 M = some r → am_Ev 2 292 12 [some (.inr (.inr (11, 205))), some (.inl x1), some (.inl x2), none] [] M r := by
  intro n
  induction n with
  | zero =>
    intro x1 x2 M r h
    cases h
  | succ n ih =>
    intro x1 x2 M r h
    exact am_Ev_seg (sem := am_s292_ z) (cut := ([(12, [true, true, true, false])] : List (Nat × List Bool))) (hs292 z) am_r292 am_k292 (by rw [am_l292]; decide) (am_kc 12 (fun al st M => match al, st with
      | [some (.inr (.inr (11, 205))), some (.inl x1), some (.inl x2), none], [] => f292_12 z n x1 x2 M
      | _, _ => none) am_k0) 21 h (am_kc_ok (fun al st M hk => by
      split at hk
      · exact ih _ _ _ _ hk
      · cases hk) am_k0_ok)
/-- ArgumentMenderModel.askOf()I -/
def f292 (z : Nat) (M : aM) : Option aR :=
  let I1 := am_u M.1 205 40 (M.1 205 39)
  f292_12 z z (-1 : Int32) (0 : Int32) (I1, M.2)
set_option maxRecDepth 100000 in
set_option maxHeartbeats 4000000 in
theorem e292 (z : Nat) : ∀ (M : aM) (r : aR), f292 z  M = some r → am_Ev 2 292 0 [some (.inr (.inr (11, 205))), none, none, none] [] M r := by
  intro  M r h
  exact am_Ev_seg (sem := am_s292_ z) (cut := ([(12, [true, true, true, false])] : List (Nat × List Bool))) (hs292 z) am_r292 am_k292 (by rw [am_l292]; decide) (am_kc 12 (fun al st M => match al, st with
      | [some (.inr (.inr (11, 205))), some (.inl x1), some (.inl x2), none], [] => f292_12 z z x1 x2 M
      | _, _ => none) am_k0) 10 h (am_kc_ok (fun al st M hk => by
      split at hk
      · exact e292_12 z _ _ _ _ _ hk
      · cases hk) am_k0_ok)
def F292 (z : Nat) (as : List aV) (M : aM) : Option aR := match as with
  | [.inr (.inr (11, 205))] => f292 z  M
  | _ => none
theorem S292 (z : Nat) : am_Snd 2 292 (F292 z) := am_meth (by decide +kernel) (fun as M r has h => by
    rw [am_l292]
    unfold F292 at h
    split at h
    · exact ⟨Nat.le_of_ble_eq_true rfl, e292 z _ _ h⟩
    · cases h)
def cd293_0 : List am_E := [(0, .aload_n 0, 1, 0, 0, 0, 0), (1, .iload_n 1, 1, 1, 0, 0, 0), (2, .iload_n 2, 1, 2, 0, 0, 0), (3, .invokevirtual 430, 3, 287, 11020, 0, 0), (6, .istore_n 3, 1, 3, 0, 0, 0), (7, .iload_n 3, 1, 3, 0, 0, 0), (8, .ifCond .ge 7, 3, 15, 0, 0, 0), (11, .iload_n 3, 1, 3, 0, 0, 0), (12, .goto 7, 3, 19, 0, 0, 0), (15, .aload_n 0, 1, 0, 0, 0, 0), (16, .invokevirtual 442, 3, 292, 11000, 0, 0), (19, .ireturn, 1, 0, 0, 0, 0)]
def cd293 : List am_E := cd293_0
def am_w293 : List (List (Int32 × Nat) × Nat) := []
set_option maxRecDepth 100000 in
theorem kcd293_0 : cd293_0.all (am_chk am_w293 293) = true := by decide +kernel
theorem am_k293 : cd293.all (am_chk am_w293 293) = true := by
  simp only [cd293, List.all_append, kcd293_0, Bool.and_self]
theorem am_r293 : am_rtc 293 = 0 := by decide +kernel
theorem am_l293 : am_ml 293 = 4 := by decide +kernel
def am_s293_ (z : Nat) : Nat → List aV → aM → Option aR := (am_sm 287 (F287 z) (am_sm 292 (F292 z) am_s0))
theorem hs293 (z : Nat) : ∀ j2 : Nat, ∃ d2 : Nat, d2 + 1 ≤ 12 ∧ am_Snd d2 j2 (am_s293_ z j2) := (am_sm_ok (S287 z) (by decide) (am_sm_ok (S292 z) (by decide) (am_s0_ok (by decide))))
/-- ArgumentMenderModel.ask(II)I -/
def f293 (z : Nat) (x1 : Int32) (x2 : Int32) (M : aM) : Option aR :=
  am_bi (f287 z x1 x2 M) fun v2 M1 =>
    if 0 ≤ v2 then
      am_bi (f292 z M1) fun v4 M3 =>
        some (some (.inl v4), M3)
    else
      some (some (.inl v2), M1)
set_option maxRecDepth 100000 in
set_option maxHeartbeats 4000000 in
theorem e293 (z : Nat) : ∀ (x1 : Int32) (x2 : Int32) (M : aM) (r : aR), f293 z x1 x2 M = some r → am_Ev 12 293 0 [some (.inr (.inr (11, 205))), some (.inl x1), some (.inl x2), none] [] M r := by
  intro x1 x2 M r h
  exact am_Ev_seg (sem := am_s293_ z) (cut := ([] : List (Nat × List Bool))) (hs293 z) am_r293 am_k293 (by rw [am_l293]; decide) am_k0 11 h am_k0_ok
def F293 (z : Nat) (as : List aV) (M : aM) : Option aR := match as with
  | [.inr (.inr (11, 205)), .inl x1, .inl x2] => f293 z x1 x2 M
  | _ => none
theorem S293 (z : Nat) : am_Snd 12 293 (F293 z) := am_meth (by decide +kernel) (fun as M r has h => by
    rw [am_l293]
    unfold F293 at h
    split at h
    · exact ⟨Nat.le_of_ble_eq_true rfl, e293 z _ _ _ _ h⟩
    · cases h)
def cd294_0 : List am_E := [(0, .aload_n 0, 1, 0, 0, 0, 0), (1, .iload_n 1, 1, 1, 0, 0, 0), (2, .iload_n 2, 1, 2, 0, 0, 0), (3, .invokevirtual 430, 3, 287, 11020, 0, 0), (6, .istore_n 3, 1, 3, 0, 0, 0), (7, .iload_n 3, 1, 3, 0, 0, 0), (8, .ifCond .ge 5, 3, 13, 0, 0, 0), (11, .iload_n 3, 1, 3, 0, 0, 0), (12, .ireturn, 1, 0, 0, 0, 0), (13, .aload_n 0, 1, 0, 0, 0, 0), (14, .invokevirtual 442, 3, 292, 11000, 0, 0), (17, .pop, 1, 0, 0, 0, 0), (18, .aload_n 0, 1, 0, 0, 0, 0), (19, .getfield 436, 3, 11, 40, 0, 0), (22, .ireturn, 1, 0, 0, 0, 0)]
def cd294 : List am_E := cd294_0
def am_w294 : List (List (Int32 × Nat) × Nat) := []
set_option maxRecDepth 100000 in
theorem kcd294_0 : cd294_0.all (am_chk am_w294 294) = true := by decide +kernel
theorem am_k294 : cd294.all (am_chk am_w294 294) = true := by
  simp only [cd294, List.all_append, kcd294_0, Bool.and_self]
theorem am_r294 : am_rtc 294 = 0 := by decide +kernel
theorem am_l294 : am_ml 294 = 4 := by decide +kernel
def am_s294_ (z : Nat) : Nat → List aV → aM → Option aR := (am_sm 287 (F287 z) (am_sm 292 (F292 z) am_s0))
theorem hs294 (z : Nat) : ∀ j2 : Nat, ∃ d2 : Nat, d2 + 1 ≤ 12 ∧ am_Snd d2 j2 (am_s294_ z j2) := (am_sm_ok (S287 z) (by decide) (am_sm_ok (S292 z) (by decide) (am_s0_ok (by decide))))
/-- ArgumentMenderModel.leaves(II)I -/
def f294 (z : Nat) (x1 : Int32) (x2 : Int32) (M : aM) : Option aR :=
  am_bi (f287 z x1 x2 M) fun v2 M1 =>
    if 0 ≤ v2 then
      am_bi (f292 z M1) fun v4 M3 =>
        some (some (.inl (M3.1 205 40)), M3)
    else
      some (some (.inl v2), M1)
set_option maxRecDepth 100000 in
set_option maxHeartbeats 4000000 in
theorem e294 (z : Nat) : ∀ (x1 : Int32) (x2 : Int32) (M : aM) (r : aR), f294 z x1 x2 M = some r → am_Ev 12 294 0 [some (.inr (.inr (11, 205))), some (.inl x1), some (.inl x2), none] [] M r := by
  intro x1 x2 M r h
  exact am_Ev_seg (sem := am_s294_ z) (cut := ([] : List (Nat × List Bool))) (hs294 z) am_r294 am_k294 (by rw [am_l294]; decide) am_k0 14 h am_k0_ok
def F294 (z : Nat) (as : List aV) (M : aM) : Option aR := match as with
  | [.inr (.inr (11, 205)), .inl x1, .inl x2] => f294 z x1 x2 M
  | _ => none
theorem S294 (z : Nat) : am_Snd 12 294 (F294 z) := am_meth (by decide +kernel) (fun as M r has h => by
    rw [am_l294]
    unfold F294 at h
    split at h
    · exact ⟨Nat.le_of_ble_eq_true rfl, e294 z _ _ _ _ h⟩
    · cases h)
def cd295_0 : List am_E := [(0, .aload_n 0, 1, 0, 0, 0, 0), (1, .iload_n 1, 1, 1, 0, 0, 0), (2, .invokevirtual 421, 3, 285, 11010, 0, 0), (5, .istore_n 2, 1, 2, 0, 0, 0), (6, .iload_n 2, 1, 2, 0, 0, 0), (7, .ifCond .ge 5, 3, 12, 0, 0, 0), (10, .iload_n 2, 1, 2, 0, 0, 0), (11, .ireturn, 1, 0, 0, 0, 0), (12, .iconst 0, 1, 0, 0, 0, 0), (13, .istore_n 3, 1, 3, 0, 0, 0), (14, .aload_n 0, 1, 0, 0, 0, 0), (15, .iconst 0, 1, 0, 0, 0, 0), (16, .putfield 261, 3, 11, 16, 0, 0), (19, .aload_n 0, 1, 0, 0, 0, 0), (20, .getfield 261, 3, 11, 16, 0, 0), (23, .iconst 4, 1, 0, 0, 4, 0), (24, .if_icmp .ge 37, 3, 61, 0, 0, 0), (27, .iload_n 3, 1, 3, 0, 0, 0), (28, .aload_n 0, 1, 0, 0, 0, 0), (29, .iload_n 1, 1, 1, 0, 0, 0), (30, .invokevirtual 427, 3, 286, 11010, 0, 0), (33, .ifCond .eq 12, 3, 45, 0, 0, 0), (36, .iconst 1, 1, 0, 0, 1, 0), (37, .aload_n 0, 1, 0, 0, 0, 0), (38, .getfield 261, 3, 11, 16, 0, 0), (41, .ishl, 1, 0, 0, 0, 0), (42, .goto 4, 3, 46, 0, 0, 0), (45, .iconst 0, 1, 0, 0, 0, 0), (46, .ior, 1, 0, 0, 0, 0), (47, .istore_n 3, 1, 3, 0, 0, 0), (48, .aload_n 0, 1, 0, 0, 0, 0), (49, .dup, 1, 0, 0, 0, 0), (50, .getfield 261, 3, 11, 16, 0, 0), (53, .iconst 1, 1, 0, 0, 1, 0), (54, .iadd, 1, 0, 0, 0, 0), (55, .putfield 261, 3, 11, 16, 0, 0), (58, .goto (-39), 3, 19, 0, 0, 0), (61, .iload_n 3, 1, 3, 0, 0, 0), (62, .ireturn, 1, 0, 0, 0, 0)]
def cd295 : List am_E := cd295_0
def am_w295 : List (List (Int32 × Nat) × Nat) := []
set_option maxRecDepth 100000 in
theorem kcd295_0 : cd295_0.all (am_chk am_w295 295) = true := by decide +kernel
theorem am_k295 : cd295.all (am_chk am_w295 295) = true := by
  simp only [cd295, List.all_append, kcd295_0, Bool.and_self]
theorem am_r295 : am_rtc 295 = 0 := by decide +kernel
theorem am_l295 : am_ml 295 = 4 := by decide +kernel
def am_s295_ (z : Nat) : Nat → List aV → aM → Option aR := (am_sm 285 (F285 z) (am_sm 286 (F286 z) am_s0))
theorem hs295 (z : Nat) : ∀ j2 : Nat, ∃ d2 : Nat, d2 + 1 ≤ 11 ∧ am_Snd d2 j2 (am_s295_ z j2) := (am_sm_ok (S285 z) (by decide) (am_sm_ok (S286 z) (by decide) (am_s0_ok (by decide))))
def f295_19 (z : Nat) : Nat → Int32 → Int32 → aM → Option aR
  | 0, _, _, _ => none
  | n + 1, x1, x3, M =>
    if (4 : Int32) ≤ (M.1 205 16) then
      some (some (.inl x3), M)
    else
      am_bi (f286 z x1 M) fun v2 M1 =>
        if v2 = 0 then
          let I3 := am_u M1.1 205 16 ((M1.1 205 16) + (1 : Int32))
          f295_19 z n x1 (x3 ||| (0 : Int32)) (I3, M1.2)
        else
          let I4 := am_u M1.1 205 16 ((M1.1 205 16) + (1 : Int32))
          f295_19 z n x1 (x3 ||| ((1 : Int32) <<< ((M1.1 205 16) &&& 31))) (I4, M1.2)
set_option maxRecDepth 100000 in
set_option maxHeartbeats 4000000 in
theorem e295_19 (z : Nat) : ∀ (n : Nat) (x1 : Int32) (x3 : Int32) (M : aM) (r : aR), f295_19 z n x1 x3 M = some r → am_Ev 11 295 19 [some (.inr (.inr (11, 205))), some (.inl x1), none, some (.inl x3)] [] M r := by
  intro n
  induction n with
  | zero =>
    intro x1 x3 M r h
    cases h
  | succ n ih =>
    intro x1 x3 M r h
    exact am_Ev_seg (sem := am_s295_ z) (cut := ([(19, [true, true, false, true])] : List (Nat × List Bool))) (hs295 z) am_r295 am_k295 (by rw [am_l295]; decide) (am_kc 19 (fun al st M => match al, st with
      | [some (.inr (.inr (11, 205))), some (.inl x1), none, some (.inl x3)], [] => f295_19 z n x1 x3 M
      | _, _ => none) am_k0) 25 h (am_kc_ok (fun al st M hk => by
      split at hk
      · exact ih _ _ _ _ hk
      · cases hk) am_k0_ok)
/-- ArgumentMenderModel.laws(I)I -/
def f295 (z : Nat) (x1 : Int32) (M : aM) : Option aR :=
  am_bi (f285 z x1 M) fun v2 M1 =>
    if 0 ≤ v2 then
      let I3 := am_u M1.1 205 16 (0 : Int32)
      f295_19 z z x1 (0 : Int32) (I3, M1.2)
    else
      some (some (.inl v2), M1)
set_option maxRecDepth 100000 in
set_option maxHeartbeats 4000000 in
theorem e295 (z : Nat) : ∀ (x1 : Int32) (M : aM) (r : aR), f295 z x1 M = some r → am_Ev 11 295 0 [some (.inr (.inr (11, 205))), some (.inl x1), none, none] [] M r := by
  intro x1 M r h
  exact am_Ev_seg (sem := am_s295_ z) (cut := ([(19, [true, true, false, true])] : List (Nat × List Bool))) (hs295 z) am_r295 am_k295 (by rw [am_l295]; decide) (am_kc 19 (fun al st M => match al, st with
      | [some (.inr (.inr (11, 205))), some (.inl x1), none, some (.inl x3)], [] => f295_19 z z x1 x3 M
      | _, _ => none) am_k0) 13 h (am_kc_ok (fun al st M hk => by
      split at hk
      · exact e295_19 z _ _ _ _ _ hk
      · cases hk) am_k0_ok)
def F295 (z : Nat) (as : List aV) (M : aM) : Option aR := match as with
  | [.inr (.inr (11, 205)), .inl x1] => f295 z x1 M
  | _ => none
theorem S295 (z : Nat) : am_Snd 11 295 (F295 z) := am_meth (by decide +kernel) (fun as M r has h => by
    rw [am_l295]
    unfold F295 at h
    split at h
    · exact ⟨Nat.le_of_ble_eq_true rfl, e295 z _ _ _ h⟩
    · cases h)
def cd296_0 : List am_E := [(0, .aload_n 0, 1, 0, 0, 0, 0), (1, .iload_n 1, 1, 1, 0, 0, 0), (2, .putfield 261, 3, 11, 16, 0, 0), (5, .aload_n 0, 1, 0, 0, 0, 0), (6, .invokevirtual 332, 3, 224, 11004, 0, 0), (9, .aload_n 0, 1, 0, 0, 0, 0), (10, .invokevirtual 397, 3, 232, 11000, 0, 0), (13, .ireturn, 1, 0, 0, 0, 0)]
def cd296 : List am_E := cd296_0
def am_w296 : List (List (Int32 × Nat) × Nat) := []
set_option maxRecDepth 100000 in
theorem kcd296_0 : cd296_0.all (am_chk am_w296 296) = true := by decide +kernel
theorem am_k296 : cd296.all (am_chk am_w296 296) = true := by
  simp only [cd296, List.all_append, kcd296_0, Bool.and_self]
theorem am_r296 : am_rtc 296 = 0 := by decide +kernel
theorem am_l296 : am_ml 296 = 2 := by decide +kernel
def am_s296_ (z : Nat) : Nat → List aV → aM → Option aR := (am_sm 224 (F224 z) (am_sm 232 (F232 z) am_s0))
theorem hs296 (z : Nat) : ∀ j2 : Nat, ∃ d2 : Nat, d2 + 1 ≤ 10 ∧ am_Snd d2 j2 (am_s296_ z j2) := (am_sm_ok (S224 z) (by decide) (am_sm_ok (S232 z) (by decide) (am_s0_ok (by decide))))
/-- ArgumentMenderModel.hungByLaw(I)I -/
def f296 (z : Nat) (x1 : Int32) (M : aM) : Option aR :=
  let I1 := am_u M.1 205 16 x1
  am_bv (f224 z (I1, M.2)) fun M2 =>
    am_bi (f232 z M2) fun v4 M3 =>
      some (some (.inl v4), M3)
set_option maxRecDepth 100000 in
set_option maxHeartbeats 4000000 in
theorem e296 (z : Nat) : ∀ (x1 : Int32) (M : aM) (r : aR), f296 z x1 M = some r → am_Ev 10 296 0 [some (.inr (.inr (11, 205))), some (.inl x1)] [] M r := by
  intro x1 M r h
  exact am_Ev_seg (sem := am_s296_ z) (cut := ([] : List (Nat × List Bool))) (hs296 z) am_r296 am_k296 (by rw [am_l296]; decide) am_k0 9 h am_k0_ok
def F296 (z : Nat) (as : List aV) (M : aM) : Option aR := match as with
  | [.inr (.inr (11, 205)), .inl x1] => f296 z x1 M
  | _ => none
theorem S296 (z : Nat) : am_Snd 10 296 (F296 z) := am_meth (by decide +kernel) (fun as M r has h => by
    rw [am_l296]
    unfold F296 at h
    split at h
    · exact ⟨Nat.le_of_ble_eq_true rfl, e296 z _ _ _ h⟩
    · cases h)
def cd297_0 : List am_E := [(0, .aload_n 0, 1, 0, 0, 0, 0), (1, .invokevirtual 335, 3, 225, 11000, 0, 0), (4, .ifCond .eq 23, 3, 27, 0, 0, 0), (7, .iload_n 1, 1, 1, 0, 0, 0), (8, .i2l, 1, 0, 0, 0, 0), (9, .lconst 0, 1, 0, 0, 0, 0), (10, .ldc2_w 445, 3, 0, 0, 0, 3), (13, .invokestatic 103, 3, 170, 35, 0, 0), (16, .ifCond .eq 11, 3, 27, 0, 0, 0), (19, .aload_n 0, 1, 0, 0, 0, 0), (20, .iload_n 1, 1, 1, 0, 0, 0), (21, .invokevirtual 447, 3, 296, 11010, 0, 0), (24, .goto 5, 3, 29, 0, 0, 0), (27, .bipush (-2), 2, 0, 0, (-2), 0), (29, .ireturn, 1, 0, 0, 0, 0)]
def cd297 : List am_E := cd297_0
def am_w297 : List (List (Int32 × Nat) × Nat) := []
set_option maxRecDepth 100000 in
theorem kcd297_0 : cd297_0.all (am_chk am_w297 297) = true := by decide +kernel
theorem am_k297 : cd297.all (am_chk am_w297 297) = true := by
  simp only [cd297, List.all_append, kcd297_0, Bool.and_self]
theorem am_r297 : am_rtc 297 = 0 := by decide +kernel
theorem am_l297 : am_ml 297 = 2 := by decide +kernel
def am_s297_ (z : Nat) : Nat → List aV → aM → Option aR := (am_sm 170 (F170 z) (am_sm 225 (F225 z) (am_sm 296 (F296 z) am_s0)))
theorem hs297 (z : Nat) : ∀ j2 : Nat, ∃ d2 : Nat, d2 + 1 ≤ 11 ∧ am_Snd d2 j2 (am_s297_ z j2) := (am_sm_ok (S170 z) (by decide) (am_sm_ok (S225 z) (by decide) (am_sm_ok (S296 z) (by decide) (am_s0_ok (by decide)))))
/-- ArgumentMenderModel.by(I)I -/
def f297 (z : Nat) (x1 : Int32) (M : aM) : Option aR :=
  am_bi (f225 z M) fun v2 M1 =>
    if v2 = 0 then
      some (some (.inl (-2 : Int32)), M1)
    else
      am_bi (f170 z (Int32.toInt64 x1) (0 : Int64) (3 : Int64) M1) fun v4 M3 =>
        if v4 = 0 then
          some (some (.inl (-2 : Int32)), M3)
        else
          am_bi (f296 z x1 M3) fun v6 M5 =>
            some (some (.inl v6), M5)
set_option maxRecDepth 100000 in
set_option maxHeartbeats 4000000 in
theorem e297 (z : Nat) : ∀ (x1 : Int32) (M : aM) (r : aR), f297 z x1 M = some r → am_Ev 11 297 0 [some (.inr (.inr (11, 205))), some (.inl x1)] [] M r := by
  intro x1 M r h
  exact am_Ev_seg (sem := am_s297_ z) (cut := ([] : List (Nat × List Bool))) (hs297 z) am_r297 am_k297 (by rw [am_l297]; decide) am_k0 15 h am_k0_ok
def F297 (z : Nat) (as : List aV) (M : aM) : Option aR := match as with
  | [.inr (.inr (11, 205)), .inl x1] => f297 z x1 M
  | _ => none
theorem S297 (z : Nat) : am_Snd 11 297 (F297 z) := am_meth (by decide +kernel) (fun as M r has h => by
    rw [am_l297]
    unfold F297 at h
    split at h
    · exact ⟨Nat.le_of_ble_eq_true rfl, e297 z _ _ _ h⟩
    · cases h)
def cd298_0 : List am_E := [(0, .aload_n 0, 1, 0, 0, 0, 0), (1, .invokevirtual 335, 3, 225, 11000, 0, 0), (4, .ifCond .ne 6, 3, 10, 0, 0, 0), (7, .bipush (-2), 2, 0, 0, (-2), 0), (9, .ireturn, 1, 0, 0, 0, 0), (10, .iconst 0, 1, 0, 0, 0, 0), (11, .istore_n 1, 1, 1, 0, 0, 0), (12, .iconst 1, 1, 0, 0, 1, 0), (13, .istore_n 2, 1, 2, 0, 0, 0), (14, .iload_n 2, 1, 2, 0, 0, 0), (15, .iconst 4, 1, 0, 0, 4, 0), (16, .if_icmp .ge 34, 3, 50, 0, 0, 0), (19, .aload_n 0, 1, 0, 0, 0, 0), (20, .iload_n 2, 1, 2, 0, 0, 0), (21, .invokevirtual 447, 3, 296, 11010, 0, 0), (24, .invokestatic 372, 3, 171, 15, 0, 0), (27, .aload_n 0, 1, 0, 0, 0, 0), (28, .iload_n 1, 1, 1, 0, 0, 0), (29, .invokevirtual 447, 3, 296, 11010, 0, 0), (32, .invokestatic 372, 3, 171, 15, 0, 0), (35, .if_icmp .le 7, 3, 42, 0, 0, 0), (38, .iload_n 2, 1, 2, 0, 0, 0), (39, .goto 4, 3, 43, 0, 0, 0), (42, .iload_n 1, 1, 1, 0, 0, 0), (43, .istore_n 1, 1, 1, 0, 0, 0), (44, .iinc 2 1, 3, 2, 0, 1, 0), (47, .goto (-33), 3, 14, 0, 0, 0), (50, .iload_n 1, 1, 1, 0, 0, 0), (51, .ireturn, 1, 0, 0, 0, 0)]
def cd298 : List am_E := cd298_0
def am_w298 : List (List (Int32 × Nat) × Nat) := []
set_option maxRecDepth 100000 in
theorem kcd298_0 : cd298_0.all (am_chk am_w298 298) = true := by decide +kernel
theorem am_k298 : cd298.all (am_chk am_w298 298) = true := by
  simp only [cd298, List.all_append, kcd298_0, Bool.and_self]
theorem am_r298 : am_rtc 298 = 0 := by decide +kernel
theorem am_l298 : am_ml 298 = 3 := by decide +kernel
def am_s298_ (z : Nat) : Nat → List aV → aM → Option aR := (am_sm 171 (F171 z) (am_sm 225 (F225 z) (am_sm 296 (F296 z) am_s0)))
theorem hs298 (z : Nat) : ∀ j2 : Nat, ∃ d2 : Nat, d2 + 1 ≤ 11 ∧ am_Snd d2 j2 (am_s298_ z j2) := (am_sm_ok (S171 z) (by decide) (am_sm_ok (S225 z) (by decide) (am_sm_ok (S296 z) (by decide) (am_s0_ok (by decide)))))
def f298_14 (z : Nat) : Nat → Int32 → Int32 → aM → Option aR
  | 0, _, _, _ => none
  | n + 1, x1, x2, M =>
    if (4 : Int32) ≤ x2 then
      some (some (.inl x1), M)
    else
      am_bi (f296 z x2 M) fun v2 M1 =>
        am_bi (f171 z v2 M1) fun v4 M3 =>
          am_bi (f296 z x1 M3) fun v6 M5 =>
            am_bi (f171 z v6 M5) fun v8 M7 =>
              if v4 ≤ v8 then
                f298_14 z n x1 (x2 + (1 : Int32)) M7
              else
                f298_14 z n x2 (x2 + (1 : Int32)) M7
set_option maxRecDepth 100000 in
set_option maxHeartbeats 4000000 in
theorem e298_14 (z : Nat) : ∀ (n : Nat) (x1 : Int32) (x2 : Int32) (M : aM) (r : aR), f298_14 z n x1 x2 M = some r → am_Ev 11 298 14 [some (.inr (.inr (11, 205))), some (.inl x1), some (.inl x2)] [] M r := by
  intro n
  induction n with
  | zero =>
    intro x1 x2 M r h
    cases h
  | succ n ih =>
    intro x1 x2 M r h
    exact am_Ev_seg (sem := am_s298_ z) (cut := ([(14, [true, true, true])] : List (Nat × List Bool))) (hs298 z) am_r298 am_k298 (by rw [am_l298]; decide) (am_kc 14 (fun al st M => match al, st with
      | [some (.inr (.inr (11, 205))), some (.inl x1), some (.inl x2)], [] => f298_14 z n x1 x2 M
      | _, _ => none) am_k0) 19 h (am_kc_ok (fun al st M hk => by
      split at hk
      · exact ih _ _ _ _ hk
      · cases hk) am_k0_ok)
/-- ArgumentMenderModel.law()I -/
def f298 (z : Nat) (M : aM) : Option aR :=
  am_bi (f225 z M) fun v2 M1 =>
    if ¬ v2 = 0 then
      f298_14 z z (0 : Int32) (1 : Int32) M1
    else
      some (some (.inl (-2 : Int32)), M1)
set_option maxRecDepth 100000 in
set_option maxHeartbeats 4000000 in
theorem e298 (z : Nat) : ∀ (M : aM) (r : aR), f298 z  M = some r → am_Ev 11 298 0 [some (.inr (.inr (11, 205))), none, none] [] M r := by
  intro  M r h
  exact am_Ev_seg (sem := am_s298_ z) (cut := ([(14, [true, true, true])] : List (Nat × List Bool))) (hs298 z) am_r298 am_k298 (by rw [am_l298]; decide) (am_kc 14 (fun al st M => match al, st with
      | [some (.inr (.inr (11, 205))), some (.inl x1), some (.inl x2)], [] => f298_14 z z x1 x2 M
      | _, _ => none) am_k0) 9 h (am_kc_ok (fun al st M hk => by
      split at hk
      · exact e298_14 z _ _ _ _ _ hk
      · cases hk) am_k0_ok)
def F298 (z : Nat) (as : List aV) (M : aM) : Option aR := match as with
  | [.inr (.inr (11, 205))] => f298 z  M
  | _ => none
theorem S298 (z : Nat) : am_Snd 11 298 (F298 z) := am_meth (by decide +kernel) (fun as M r has h => by
    rw [am_l298]
    unfold F298 at h
    split at h
    · exact ⟨Nat.le_of_ble_eq_true rfl, e298 z _ _ h⟩
    · cases h)
def cd299_0 : List am_E := [(0, .aload_n 0, 1, 0, 0, 0, 0), (1, .iload_n 1, 1, 1, 0, 0, 0), (2, .putfield 265, 3, 11, 17, 0, 0), (5, .aload_n 0, 1, 0, 0, 0, 0), (6, .invokevirtual 332, 3, 224, 11004, 0, 0), (9, .aload_n 0, 1, 0, 0, 0, 0), (10, .invokevirtual 397, 3, 232, 11000, 0, 0), (13, .invokestatic 372, 3, 171, 15, 0, 0), (16, .ireturn, 1, 0, 0, 0, 0)]
def cd299 : List am_E := cd299_0
def am_w299 : List (List (Int32 × Nat) × Nat) := []
set_option maxRecDepth 100000 in
theorem kcd299_0 : cd299_0.all (am_chk am_w299 299) = true := by decide +kernel
theorem am_k299 : cd299.all (am_chk am_w299 299) = true := by
  simp only [cd299, List.all_append, kcd299_0, Bool.and_self]
theorem am_r299 : am_rtc 299 = 0 := by decide +kernel
theorem am_l299 : am_ml 299 = 2 := by decide +kernel
def am_s299_ (z : Nat) : Nat → List aV → aM → Option aR := (am_sm 171 (F171 z) (am_sm 224 (F224 z) (am_sm 232 (F232 z) am_s0)))
theorem hs299 (z : Nat) : ∀ j2 : Nat, ∃ d2 : Nat, d2 + 1 ≤ 10 ∧ am_Snd d2 j2 (am_s299_ z j2) := (am_sm_ok (S171 z) (by decide) (am_sm_ok (S224 z) (by decide) (am_sm_ok (S232 z) (by decide) (am_s0_ok (by decide)))))
/-- ArgumentMenderModel.worthOf(I)I -/
def f299 (z : Nat) (x1 : Int32) (M : aM) : Option aR :=
  let I1 := am_u M.1 205 17 x1
  am_bv (f224 z (I1, M.2)) fun M2 =>
    am_bi (f232 z M2) fun v4 M3 =>
      am_bi (f171 z v4 M3) fun v6 M5 =>
        some (some (.inl v6), M5)
set_option maxRecDepth 100000 in
set_option maxHeartbeats 4000000 in
theorem e299 (z : Nat) : ∀ (x1 : Int32) (M : aM) (r : aR), f299 z x1 M = some r → am_Ev 10 299 0 [some (.inr (.inr (11, 205))), some (.inl x1)] [] M r := by
  intro x1 M r h
  exact am_Ev_seg (sem := am_s299_ z) (cut := ([] : List (Nat × List Bool))) (hs299 z) am_r299 am_k299 (by rw [am_l299]; decide) am_k0 10 h am_k0_ok
def F299 (z : Nat) (as : List aV) (M : aM) : Option aR := match as with
  | [.inr (.inr (11, 205)), .inl x1] => f299 z x1 M
  | _ => none
theorem S299 (z : Nat) : am_Snd 10 299 (F299 z) := am_meth (by decide +kernel) (fun as M r has h => by
    rw [am_l299]
    unfold F299 at h
    split at h
    · exact ⟨Nat.le_of_ble_eq_true rfl, e299 z _ _ _ h⟩
    · cases h)
def cd300_0 : List am_E := [(0, .aload_n 0, 1, 0, 0, 0, 0), (1, .invokevirtual 329, 3, 211, 11004, 0, 0), (4, .aload_n 0, 1, 0, 0, 0, 0), (5, .invokevirtual 107, 3, 175, 11000, 0, 0), (8, .ifCond .eq 29, 3, 37, 0, 0, 0), (11, .iload_n 1, 1, 1, 0, 0, 0), (12, .i2l, 1, 0, 0, 0, 0), (13, .lconst 0, 1, 0, 0, 0, 0), (14, .iconst 1, 1, 0, 0, 1, 0), (15, .aload_n 0, 1, 0, 0, 0, 0), (16, .invokevirtual 118, 3, 178, 11000, 0, 0), (19, .ishl, 1, 0, 0, 0, 0), (20, .iconst 1, 1, 0, 0, 1, 0), (21, .isub, 1, 0, 0, 0, 0), (22, .i2l, 1, 0, 0, 0, 0), (23, .invokestatic 103, 3, 170, 35, 0, 0), (26, .ifCond .eq 11, 3, 37, 0, 0, 0), (29, .aload_n 0, 1, 0, 0, 0, 0), (30, .iload_n 1, 1, 1, 0, 0, 0), (31, .invokevirtual 450, 3, 299, 11010, 0, 0), (34, .goto 5, 3, 39, 0, 0, 0), (37, .bipush (-2), 2, 0, 0, (-2), 0), (39, .ireturn, 1, 0, 0, 0, 0)]
def cd300 : List am_E := cd300_0
def am_w300 : List (List (Int32 × Nat) × Nat) := []
set_option maxRecDepth 100000 in
theorem kcd300_0 : cd300_0.all (am_chk am_w300 300) = true := by decide +kernel
theorem am_k300 : cd300.all (am_chk am_w300 300) = true := by
  simp only [cd300, List.all_append, kcd300_0, Bool.and_self]
theorem am_r300 : am_rtc 300 = 0 := by decide +kernel
theorem am_l300 : am_ml 300 = 2 := by decide +kernel
def am_s300_ (z : Nat) : Nat → List aV → aM → Option aR := (am_sm 170 (F170 z) (am_sm 175 (F175 z) (am_sm 178 (F178 z) (am_sm 211 (F211 z) (am_sm 299 (F299 z) am_s0)))))
theorem hs300 (z : Nat) : ∀ j2 : Nat, ∃ d2 : Nat, d2 + 1 ≤ 11 ∧ am_Snd d2 j2 (am_s300_ z j2) := (am_sm_ok (S170 z) (by decide) (am_sm_ok (S175 z) (by decide) (am_sm_ok (S178 z) (by decide) (am_sm_ok (S211 z) (by decide) (am_sm_ok (S299 z) (by decide) (am_s0_ok (by decide)))))))
/-- ArgumentMenderModel.worth(I)I -/
def f300 (z : Nat) (x1 : Int32) (M : aM) : Option aR :=
  am_bv (f211 z M) fun M1 =>
    am_bi (f175 z M1) fun v3 M2 =>
      if v3 = 0 then
        some (some (.inl (-2 : Int32)), M2)
      else
        am_bi (f178 z M2) fun v5 M4 =>
          am_bi (f170 z (Int32.toInt64 x1) (0 : Int64) (Int32.toInt64 (((1 : Int32) <<< (v5 &&& 31)) - (1 : Int32))) M4) fun v7 M6 =>
            if v7 = 0 then
              some (some (.inl (-2 : Int32)), M6)
            else
              am_bi (f299 z x1 M6) fun v9 M8 =>
                some (some (.inl v9), M8)
set_option maxRecDepth 100000 in
set_option maxHeartbeats 4000000 in
theorem e300 (z : Nat) : ∀ (x1 : Int32) (M : aM) (r : aR), f300 z x1 M = some r → am_Ev 11 300 0 [some (.inr (.inr (11, 205))), some (.inl x1)] [] M r := by
  intro x1 M r h
  exact am_Ev_seg (sem := am_s300_ z) (cut := ([] : List (Nat × List Bool))) (hs300 z) am_r300 am_k300 (by rw [am_l300]; decide) am_k0 23 h am_k0_ok
def F300 (z : Nat) (as : List aV) (M : aM) : Option aR := match as with
  | [.inr (.inr (11, 205)), .inl x1] => f300 z x1 M
  | _ => none
theorem S300 (z : Nat) : am_Snd 11 300 (F300 z) := am_meth (by decide +kernel) (fun as M r has h => by
    rw [am_l300]
    unfold F300 at h
    split at h
    · exact ⟨Nat.le_of_ble_eq_true rfl, e300 z _ _ _ h⟩
    · cases h)
def cd301_0 : List am_E := [(0, .iconst 1, 1, 0, 0, 1, 0), (1, .istore_n 1, 1, 1, 0, 0, 0), (2, .iconst 2, 1, 0, 0, 2, 0), (3, .istore_n 2, 1, 2, 0, 0, 0), (4, .iload_n 2, 1, 2, 0, 0, 0), (5, .iload_n 0, 1, 0, 0, 0, 0), (6, .if_icmp .gt 13, 3, 19, 0, 0, 0), (9, .iload_n 1, 1, 1, 0, 0, 0), (10, .iload_n 2, 1, 2, 0, 0, 0), (11, .imul, 1, 0, 0, 0, 0), (12, .istore_n 1, 1, 1, 0, 0, 0), (13, .iinc 2 1, 3, 2, 0, 1, 0), (16, .goto (-12), 3, 4, 0, 0, 0), (19, .iload_n 1, 1, 1, 0, 0, 0), (20, .ireturn, 1, 0, 0, 0, 0)]
def cd301 : List am_E := cd301_0
def am_w301 : List (List (Int32 × Nat) × Nat) := []
set_option maxRecDepth 100000 in
theorem kcd301_0 : cd301_0.all (am_chk am_w301 301) = true := by decide +kernel
theorem am_k301 : cd301.all (am_chk am_w301 301) = true := by
  simp only [cd301, List.all_append, kcd301_0, Bool.and_self]
theorem am_r301 : am_rtc 301 = 0 := by decide +kernel
theorem am_l301 : am_ml 301 = 3 := by decide +kernel
def am_s301_ (z : Nat) : Nat → List aV → aM → Option aR := am_s0
theorem hs301 (z : Nat) : ∀ j2 : Nat, ∃ d2 : Nat, d2 + 1 ≤ 1 ∧ am_Snd d2 j2 (am_s301_ z j2) := (am_s0_ok (by decide))
def f301_4 (z : Nat) : Nat → Int32 → Int32 → Int32 → aM → Option aR
  | 0, _, _, _, _ => none
  | n + 1, x0, x1, x2, M =>
    if x0 < x2 then
      some (some (.inl x1), M)
    else
      f301_4 z n x0 (x1 * x2) (x2 + (1 : Int32)) M
set_option maxRecDepth 100000 in
set_option maxHeartbeats 4000000 in
theorem e301_4 (z : Nat) : ∀ (n : Nat) (x0 : Int32) (x1 : Int32) (x2 : Int32) (M : aM) (r : aR), f301_4 z n x0 x1 x2 M = some r → am_Ev 1 301 4 [some (.inl x0), some (.inl x1), some (.inl x2)] [] M r := by
  intro n
  induction n with
  | zero =>
    intro x0 x1 x2 M r h
    cases h
  | succ n ih =>
    intro x0 x1 x2 M r h
    exact am_Ev_seg (sem := am_s301_ z) (cut := ([(4, [true, true, true])] : List (Nat × List Bool))) (hs301 z) am_r301 am_k301 (by rw [am_l301]; decide) (am_kc 4 (fun al st M => match al, st with
      | [some (.inl x0), some (.inl x1), some (.inl x2)], [] => f301_4 z n x0 x1 x2 M
      | _, _ => none) am_k0) 11 h (am_kc_ok (fun al st M hk => by
      split at hk
      · exact ih _ _ _ _ _ hk
      · cases hk) am_k0_ok)
/-- ArgumentMenderModel.factorial(I)I -/
def f301 (z : Nat) (x0 : Int32) (M : aM) : Option aR :=
  f301_4 z z x0 (1 : Int32) (2 : Int32) M
set_option maxRecDepth 100000 in
set_option maxHeartbeats 4000000 in
theorem e301 (z : Nat) : ∀ (x0 : Int32) (M : aM) (r : aR), f301 z x0 M = some r → am_Ev 1 301 0 [some (.inl x0), none, none] [] M r := by
  intro x0 M r h
  exact am_Ev_seg (sem := am_s301_ z) (cut := ([(4, [true, true, true])] : List (Nat × List Bool))) (hs301 z) am_r301 am_k301 (by rw [am_l301]; decide) (am_kc 4 (fun al st M => match al, st with
      | [some (.inl x0), some (.inl x1), some (.inl x2)], [] => f301_4 z z x0 x1 x2 M
      | _, _ => none) am_k0) 6 h (am_kc_ok (fun al st M hk => by
      split at hk
      · exact e301_4 z _ _ _ _ _ _ hk
      · cases hk) am_k0_ok)
def F301 (z : Nat) (as : List aV) (M : aM) : Option aR := match as with
  | [.inl x0] => f301 z x0 M
  | _ => none
theorem S301 (z : Nat) : am_Snd 1 301 (F301 z) := am_meth (by decide +kernel) (fun as M r has h => by
    rw [am_l301]
    unfold F301 at h
    split at h
    · exact ⟨Nat.le_of_ble_eq_true rfl, e301 z _ _ _ h⟩
    · cases h)
def cd302_0 : List am_E := [(0, .lload_n 0, 1, 0, 0, 0, 0), (1, .invokestatic 453, 3, 0, 4, 0, 0), (4, .lstore 4, 2, 4, 0, 0, 0), (6, .lload_n 2, 1, 2, 0, 0, 0), (7, .lstore 6, 2, 6, 0, 0, 0), (9, .lload 6, 2, 6, 0, 0, 0), (11, .lconst 0, 1, 0, 0, 0, 0), (12, .lcmp, 1, 0, 0, 0, 0), (13, .ifCond .eq 21, 3, 34, 0, 0, 0), (16, .lload 4, 2, 4, 0, 0, 0), (18, .lload 6, 2, 6, 0, 0, 0), (20, .lrem, 1, 0, 0, 0, 0), (21, .lstore 8, 2, 8, 0, 0, 0), (23, .lload 6, 2, 6, 0, 0, 0), (25, .lstore 4, 2, 4, 0, 0, 0), (27, .lload 8, 2, 8, 0, 0, 0), (29, .lstore 6, 2, 6, 0, 0, 0), (31, .goto (-22), 3, 9, 0, 0, 0), (34, .lload 4, 2, 4, 0, 0, 0), (36, .lreturn, 1, 0, 0, 0, 0)]
def cd302 : List am_E := cd302_0
def am_w302 : List (List (Int32 × Nat) × Nat) := []
set_option maxRecDepth 100000 in
theorem kcd302_0 : cd302_0.all (am_chk am_w302 302) = true := by decide +kernel
theorem am_k302 : cd302.all (am_chk am_w302 302) = true := by
  simp only [cd302, List.all_append, kcd302_0, Bool.and_self]
theorem am_r302 : am_rtc 302 = 2 := by decide +kernel
theorem am_l302 : am_ml 302 = 10 := by decide +kernel
def am_s302_ (z : Nat) : Nat → List aV → aM → Option aR := am_s0
theorem hs302 (z : Nat) : ∀ j2 : Nat, ∃ d2 : Nat, d2 + 1 ≤ 1 ∧ am_Snd d2 j2 (am_s302_ z j2) := (am_s0_ok (by decide))
def f302_9 (z : Nat) : Nat → Int64 → Int64 → aM → Option aR
  | 0, _, _, _ => none
  | n + 1, y4, y6, M =>
    if (lg_cmp y6 (0 : Int64)) = 0 then
      some (some (.inr (.inl y4)), M)
    else
      if y6 = 0 then
        none
      else
        f302_9 z n y6 (y4 - y4 / y6 * y6) M
set_option maxRecDepth 100000 in
set_option maxHeartbeats 4000000 in
theorem e302_9 (z : Nat) : ∀ (n : Nat) (y4 : Int64) (y6 : Int64) (M : aM) (r : aR), f302_9 z n y4 y6 M = some r → am_Ev 1 302 9 [none, none, none, none, some (.inr (.inl y4)), none, some (.inr (.inl y6)), none, none, none] [] M r := by
  intro n
  induction n with
  | zero =>
    intro y4 y6 M r h
    cases h
  | succ n ih =>
    intro y4 y6 M r h
    exact am_Ev_seg (sem := am_s302_ z) (cut := ([(9, [false, false, false, false, true, false, true, false, false, false])] : List (Nat × List Bool))) (hs302 z) am_r302 am_k302 (by rw [am_l302]; decide) (am_kc 9 (fun al st M => match al, st with
      | [none, none, none, none, some (.inr (.inl y4)), none, some (.inr (.inl y6)), none, none, none], [] => f302_9 z n y4 y6 M
      | _, _ => none) am_k0) 15 h (am_kc_ok (fun al st M hk => by
      split at hk
      · exact ih _ _ _ _ hk
      · cases hk) am_k0_ok)
/-- ArgumentMenderModel.divisor(JJ)J -/
def f302 (z : Nat) (y0 : Int64) (y2 : Int64) (M : aM) : Option aR :=
  f302_9 z z (if 0 < y0 then y0 else -y0) y2 M
set_option maxRecDepth 100000 in
set_option maxHeartbeats 4000000 in
theorem e302 (z : Nat) : ∀ (y0 : Int64) (y2 : Int64) (M : aM) (r : aR), f302 z y0 y2 M = some r → am_Ev 1 302 0 [some (.inr (.inl y0)), none, some (.inr (.inl y2)), none, none, none, none, none, none, none] [] M r := by
  intro y0 y2 M r h
  exact am_Ev_seg (sem := am_s302_ z) (cut := ([(9, [false, false, false, false, true, false, true, false, false, false])] : List (Nat × List Bool))) (hs302 z) am_r302 am_k302 (by rw [am_l302]; decide) (am_kc 9 (fun al st M => match al, st with
      | [none, none, none, none, some (.inr (.inl y4)), none, some (.inr (.inl y6)), none, none, none], [] => f302_9 z z y4 y6 M
      | _, _ => none) am_k0) 7 h (am_kc_ok (fun al st M hk => by
      split at hk
      · exact e302_9 z _ _ _ _ _ hk
      · cases hk) am_k0_ok)
def F302 (z : Nat) (as : List aV) (M : aM) : Option aR := match as with
  | [.inr (.inl y0), .inr (.inl y2)] => f302 z y0 y2 M
  | _ => none
theorem S302 (z : Nat) : am_Snd 1 302 (F302 z) := am_meth (by decide +kernel) (fun as M r has h => by
    rw [am_l302]
    unfold F302 at h
    split at h
    · exact ⟨Nat.le_of_ble_eq_true rfl, e302 z _ _ _ _ h⟩
    · cases h)
def cd303_0 : List am_E := [(0, .iload 4, 2, 4, 0, 0, 0), (2, .ifCond .ne 7, 3, 9, 0, 0, 0), (5, .lload_n 0, 1, 0, 0, 0, 0), (6, .goto 4, 3, 10, 0, 0, 0), (9, .lload_n 2, 1, 2, 0, 0, 0), (10, .lload_n 0, 1, 0, 0, 0, 0), (11, .lload_n 2, 1, 2, 0, 0, 0), (12, .invokestatic 457, 3, 302, 27, 0, 0), (15, .ldiv, 1, 0, 0, 0, 0), (16, .lreturn, 1, 0, 0, 0, 0)]
def cd303 : List am_E := cd303_0
def am_w303 : List (List (Int32 × Nat) × Nat) := []
set_option maxRecDepth 100000 in
theorem kcd303_0 : cd303_0.all (am_chk am_w303 303) = true := by decide +kernel
theorem am_k303 : cd303.all (am_chk am_w303 303) = true := by
  simp only [cd303, List.all_append, kcd303_0, Bool.and_self]
theorem am_r303 : am_rtc 303 = 2 := by decide +kernel
theorem am_l303 : am_ml 303 = 5 := by decide +kernel
def am_s303_ (z : Nat) : Nat → List aV → aM → Option aR := (am_sm 302 (F302 z) am_s0)
theorem hs303 (z : Nat) : ∀ j2 : Nat, ∃ d2 : Nat, d2 + 1 ≤ 2 ∧ am_Snd d2 j2 (am_s303_ z j2) := (am_sm_ok (S302 z) (by decide) (am_s0_ok (by decide)))
/-- ArgumentMenderModel.part(JJI)J -/
def f303 (z : Nat) (y0 : Int64) (y2 : Int64) (x4 : Int32) (M : aM) : Option aR :=
  if ¬ x4 = 0 then
    am_bl (f302 z y0 y2 M) fun v2 M1 =>
      if v2 = 0 then
        none
      else
        some (some (.inr (.inl (y2 / v2))), M1)
  else
    am_bl (f302 z y0 y2 M) fun v4 M3 =>
      if v4 = 0 then
        none
      else
        some (some (.inr (.inl (y0 / v4))), M3)
set_option maxRecDepth 100000 in
set_option maxHeartbeats 4000000 in
theorem e303 (z : Nat) : ∀ (y0 : Int64) (y2 : Int64) (x4 : Int32) (M : aM) (r : aR), f303 z y0 y2 x4 M = some r → am_Ev 2 303 0 [some (.inr (.inl y0)), none, some (.inr (.inl y2)), none, some (.inl x4)] [] M r := by
  intro y0 y2 x4 M r h
  exact am_Ev_seg (sem := am_s303_ z) (cut := ([] : List (Nat × List Bool))) (hs303 z) am_r303 am_k303 (by rw [am_l303]; decide) am_k0 10 h am_k0_ok
def F303 (z : Nat) (as : List aV) (M : aM) : Option aR := match as with
  | [.inr (.inl y0), .inr (.inl y2), .inl x4] => f303 z y0 y2 x4 M
  | _ => none
theorem S303 (z : Nat) : am_Snd 2 303 (F303 z) := am_meth (by decide +kernel) (fun as M r has h => by
    rw [am_l303]
    unfold F303 at h
    split at h
    · exact ⟨Nat.le_of_ble_eq_true rfl, e303 z _ _ _ _ _ h⟩
    · cases h)
def cd304_0 : List am_E := [(0, .aload_n 0, 1, 0, 0, 0, 0), (1, .invokevirtual 329, 3, 211, 11004, 0, 0), (4, .aload_n 0, 1, 0, 0, 0, 0), (5, .iload_n 1, 1, 1, 0, 0, 0), (6, .i2l, 1, 0, 0, 0, 0), (7, .invokevirtual 241, 3, 183, 11010, 0, 0), (10, .ifCond .eq 19, 3, 29, 0, 0, 0), (13, .iload_n 1, 1, 1, 0, 0, 0), (14, .bipush 8, 2, 0, 0, 8, 0), (16, .if_icmp .ge 13, 3, 29, 0, 0, 0), (19, .iload_n 2, 1, 2, 0, 0, 0), (20, .i2l, 1, 0, 0, 0, 0), (21, .lconst 0, 1, 0, 0, 0, 0), (22, .lconst 1, 1, 0, 0, 0, 1), (23, .invokestatic 103, 3, 170, 35, 0, 0), (26, .ifCond .ne 7, 3, 33, 0, 0, 0), (29, .sipush (-1000), 3, 0, 0, (-1000), 0), (32, .ireturn, 1, 0, 0, 0, 0), (33, .bipush 8, 2, 0, 0, 8, 0), (35, .aload_n 0, 1, 0, 0, 0, 0), (36, .invokevirtual 118, 3, 178, 11000, 0, 0), (39, .invokestatic 155, 3, 0, 2, 0, 0), (42, .istore_n 3, 1, 3, 0, 0, 0), (43, .ldc_w 461, 3, 0, 0, 65536, 0), (46, .iconst 1, 1, 0, 0, 1, 0), (47, .iload_n 3, 1, 3, 0, 0, 0), (48, .ishl, 1, 0, 0, 0, 0), (49, .isub, 1, 0, 0, 0, 0), (50, .istore 4, 2, 4, 0, 0, 0), (52, .iconst 0, 1, 0, 0, 0, 0), (53, .istore 5, 2, 5, 0, 0, 0), (55, .iload 5, 2, 5, 0, 0, 0), (57, .iconst 1, 1, 0, 0, 1, 0), (58, .iload_n 3, 1, 3, 0, 0, 0), (59, .ishl, 1, 0, 0, 0, 0), (60, .if_icmp .ge 25, 3, 85, 0, 0, 0), (63, .aload_n 0, 1, 0, 0, 0, 0), (64, .getfield 82, 3, 11, 41, 0, 0), (67, .iload 5, 2, 5, 0, 0, 0), (69, .aload_n 0, 1, 0, 0, 0, 0)]
def cd304_1 : List am_E := [(70, .iload 5, 2, 5, 0, 0, 0), (72, .iload 4, 2, 4, 0, 0, 0), (74, .ior, 1, 0, 0, 0, 0), (75, .invokevirtual 450, 3, 299, 11010, 0, 0), (78, .iastore, 1, 0, 0, 0, 0), (79, .iinc 5 1, 3, 5, 0, 1, 0), (82, .goto (-27), 3, 55, 0, 0, 0), (85, .lconst 0, 1, 0, 0, 0, 0), (86, .lstore 5, 2, 5, 0, 0, 0), (88, .iconst 0, 1, 0, 0, 0, 0), (89, .istore 7, 2, 7, 0, 0, 0), (91, .iload 7, 2, 7, 0, 0, 0), (93, .iconst 1, 1, 0, 0, 1, 0), (94, .iload_n 3, 1, 3, 0, 0, 0), (95, .ishl, 1, 0, 0, 0, 0), (96, .if_icmp .ge 67, 3, 163, 0, 0, 0), (99, .iload 7, 2, 7, 0, 0, 0), (101, .iload_n 1, 1, 1, 0, 0, 0), (102, .invokestatic 300, 3, 172, 25, 0, 0), (105, .ifCond .ne 52, 3, 157, 0, 0, 0), (108, .lload 5, 2, 5, 0, 0, 0), (110, .iload 7, 2, 7, 0, 0, 0), (112, .invokestatic 372, 3, 171, 15, 0, 0), (115, .invokestatic 462, 3, 301, 15, 0, 0), (118, .i2l, 1, 0, 0, 0, 0), (119, .iload_n 3, 1, 3, 0, 0, 0), (120, .iconst 1, 1, 0, 0, 1, 0), (121, .isub, 1, 0, 0, 0, 0), (122, .iload 7, 2, 7, 0, 0, 0), (124, .invokestatic 372, 3, 171, 15, 0, 0), (127, .isub, 1, 0, 0, 0, 0), (128, .invokestatic 462, 3, 301, 15, 0, 0), (131, .i2l, 1, 0, 0, 0, 0), (132, .lmul, 1, 0, 0, 0, 0), (133, .aload_n 0, 1, 0, 0, 0, 0), (134, .getfield 82, 3, 11, 41, 0, 0), (137, .iload 7, 2, 7, 0, 0, 0), (139, .iconst 1, 1, 0, 0, 1, 0), (140, .iload_n 1, 1, 1, 0, 0, 0), (141, .ishl, 1, 0, 0, 0, 0)]
def cd304_2 : List am_E := [(142, .ior, 1, 0, 0, 0, 0), (143, .iaload, 1, 0, 0, 0, 0), (144, .aload_n 0, 1, 0, 0, 0, 0), (145, .getfield 82, 3, 11, 41, 0, 0), (148, .iload 7, 2, 7, 0, 0, 0), (150, .iaload, 1, 0, 0, 0, 0), (151, .isub, 1, 0, 0, 0, 0), (152, .i2l, 1, 0, 0, 0, 0), (153, .lmul, 1, 0, 0, 0, 0), (154, .ladd, 1, 0, 0, 0, 0), (155, .lstore 5, 2, 5, 0, 0, 0), (157, .iinc 7 1, 3, 7, 0, 1, 0), (160, .goto (-69), 3, 91, 0, 0, 0), (163, .lload 5, 2, 5, 0, 0, 0), (165, .iload_n 3, 1, 3, 0, 0, 0), (166, .invokestatic 462, 3, 301, 15, 0, 0), (169, .i2l, 1, 0, 0, 0, 0), (170, .iload_n 2, 1, 2, 0, 0, 0), (171, .invokestatic 465, 3, 303, 37, 0, 0), (174, .l2i, 1, 0, 0, 0, 0), (175, .ireturn, 1, 0, 0, 0, 0)]
def cd304 : List am_E := cd304_0 ++ (cd304_1 ++ (cd304_2))
def am_w304 : List (List (Int32 × Nat) × Nat) := []
set_option maxRecDepth 100000 in
theorem kcd304_0 : cd304_0.all (am_chk am_w304 304) = true := by decide +kernel
set_option maxRecDepth 100000 in
theorem kcd304_1 : cd304_1.all (am_chk am_w304 304) = true := by decide +kernel
set_option maxRecDepth 100000 in
theorem kcd304_2 : cd304_2.all (am_chk am_w304 304) = true := by decide +kernel
theorem am_k304 : cd304.all (am_chk am_w304 304) = true := by
  simp only [cd304, List.all_append, kcd304_0, kcd304_1, kcd304_2, Bool.and_self]
theorem am_r304 : am_rtc 304 = 0 := by decide +kernel
theorem am_l304 : am_ml 304 = 8 := by decide +kernel
def am_s304_ (z : Nat) : Nat → List aV → aM → Option aR := (am_sm 170 (F170 z) (am_sm 171 (F171 z) (am_sm 172 (F172 z) (am_sm 178 (F178 z) (am_sm 183 (F183 z) (am_sm 211 (F211 z) (am_sm 299 (F299 z) (am_sm 301 (F301 z) (am_sm 303 (F303 z) am_s0)))))))))
theorem hs304 (z : Nat) : ∀ j2 : Nat, ∃ d2 : Nat, d2 + 1 ≤ 11 ∧ am_Snd d2 j2 (am_s304_ z j2) := (am_sm_ok (S170 z) (by decide) (am_sm_ok (S171 z) (by decide) (am_sm_ok (S172 z) (by decide) (am_sm_ok (S178 z) (by decide) (am_sm_ok (S183 z) (by decide) (am_sm_ok (S211 z) (by decide) (am_sm_ok (S299 z) (by decide) (am_sm_ok (S301 z) (by decide) (am_sm_ok (S303 z) (by decide) (am_s0_ok (by decide)))))))))))
def f304_91 (z : Nat) : Nat → Int32 → Int32 → Int32 → Int64 → Int32 → aM → Option aR
  | 0, _, _, _, _, _, _ => none
  | n + 1, x1, x2, x3, y5, x7, M =>
    if ((1 : Int32) <<< (x3 &&& 31)) ≤ x7 then
      am_bi (f301 z x3 M) fun v2 M1 =>
        am_bl (f303 z y5 (Int32.toInt64 v2) x2 M1) fun v4 M3 =>
          some (some (.inl (Int64.toInt32 v4)), M3)
    else
      am_bi (f172 z x7 x1 M) fun v6 M5 =>
        if ¬ v6 = 0 then
          f304_91 z n x1 x2 x3 y5 (x7 + (1 : Int32)) M5
        else
          am_bi (f171 z x7 M5) fun v8 M7 =>
            am_bi (f301 z v8 M7) fun v10 M9 =>
              am_bi (f171 z x7 M9) fun v12 M11 =>
                am_bi (f301 z ((x3 - (1 : Int32)) - v12) M11) fun v14 M13 =>
                  if am_inB (x7 ||| ((1 : Int32) <<< (x1 &&& 31))) 256 then
                    if am_inB x7 256 then
                      f304_91 z n x1 x2 x3 (y5 + (((Int32.toInt64 v10) * (Int32.toInt64 v14)) * (Int32.toInt64 ((M13.1 228 (x7 ||| ((1 : Int32) <<< (x1 &&& 31))).toNatClampNeg) - (M13.1 228 x7.toNatClampNeg))))) (x7 + (1 : Int32)) M13
                    else
                      none
                  else
                    none
set_option maxRecDepth 100000 in
set_option maxHeartbeats 4000000 in
theorem e304_91 (z : Nat) : ∀ (n : Nat) (x1 : Int32) (x2 : Int32) (x3 : Int32) (y5 : Int64) (x7 : Int32) (M : aM) (r : aR), f304_91 z n x1 x2 x3 y5 x7 M = some r → am_Ev 11 304 91 [some (.inr (.inr (11, 205))), some (.inl x1), some (.inl x2), some (.inl x3), none, some (.inr (.inl y5)), none, some (.inl x7)] [] M r := by
  intro n
  induction n with
  | zero =>
    intro x1 x2 x3 y5 x7 M r h
    cases h
  | succ n ih =>
    intro x1 x2 x3 y5 x7 M r h
    exact am_Ev_seg (sem := am_s304_ z) (cut := ([(91, [true, true, true, true, false, true, false, true])] : List (Nat × List Bool))) (hs304 z) am_r304 am_k304 (by rw [am_l304]; decide) (am_kc 91 (fun al st M => match al, st with
      | [some (.inr (.inr (11, 205))), some (.inl x1), some (.inl x2), some (.inl x3), none, some (.inr (.inl y5)), none, some (.inl x7)], [] => f304_91 z n x1 x2 x3 y5 x7 M
      | _, _ => none) am_k0) 44 h (am_kc_ok (fun al st M hk => by
      split at hk
      · exact ih _ _ _ _ _ _ _ hk
      · cases hk) am_k0_ok)
def f304_55 (z : Nat) : Nat → Int32 → Int32 → Int32 → Int32 → Int32 → aM → Option aR
  | 0, _, _, _, _, _, _ => none
  | n + 1, x1, x2, x3, x4, x5, M =>
    if ((1 : Int32) <<< (x3 &&& 31)) ≤ x5 then
      f304_91 z z x1 x2 x3 (0 : Int64) (0 : Int32) M
    else
      am_bi (f299 z (x5 ||| x4) M) fun v2 M1 =>
        if am_inB x5 256 then
          let I3 := am_u M1.1 228 x5.toNatClampNeg v2
          f304_55 z n x1 x2 x3 x4 (x5 + (1 : Int32)) (I3, M1.2)
        else
          none
set_option maxRecDepth 100000 in
set_option maxHeartbeats 4000000 in
theorem e304_55 (z : Nat) : ∀ (n : Nat) (x1 : Int32) (x2 : Int32) (x3 : Int32) (x4 : Int32) (x5 : Int32) (M : aM) (r : aR), f304_55 z n x1 x2 x3 x4 x5 M = some r → am_Ev 11 304 55 [some (.inr (.inr (11, 205))), some (.inl x1), some (.inl x2), some (.inl x3), some (.inl x4), some (.inl x5), none, none] [] M r := by
  intro n
  induction n with
  | zero =>
    intro x1 x2 x3 x4 x5 M r h
    cases h
  | succ n ih =>
    intro x1 x2 x3 x4 x5 M r h
    exact am_Ev_seg (sem := am_s304_ z) (cut := ([(55, [true, true, true, true, true, true, false, false]), (91, [true, true, true, true, false, true, false, true])] : List (Nat × List Bool))) (hs304 z) am_r304 am_k304 (by rw [am_l304]; decide) (am_kc 55 (fun al st M => match al, st with
      | [some (.inr (.inr (11, 205))), some (.inl x1), some (.inl x2), some (.inl x3), some (.inl x4), some (.inl x5), none, none], [] => f304_55 z n x1 x2 x3 x4 x5 M
      | _, _ => none) (am_kc 91 (fun al st M => match al, st with
      | [some (.inr (.inr (11, 205))), some (.inl x1), some (.inl x2), some (.inl x3), none, some (.inr (.inl y5)), none, some (.inl x7)], [] => f304_91 z z x1 x2 x3 y5 x7 M
      | _, _ => none) am_k0)) 18 h (am_kc_ok (fun al st M hk => by
      split at hk
      · exact ih _ _ _ _ _ _ _ hk
      · cases hk) (am_kc_ok (fun al st M hk => by
      split at hk
      · exact e304_91 z _ _ _ _ _ _ _ _ hk
      · cases hk) am_k0_ok))
/-- ArgumentMenderModel.share(II)I -/
def f304 (z : Nat) (x1 : Int32) (x2 : Int32) (M : aM) : Option aR :=
  am_bv (f211 z M) fun M1 =>
    am_bi (f183 z (Int32.toInt64 x1) M1) fun v3 M2 =>
      if v3 = 0 then
        some (some (.inl (-1000 : Int32)), M2)
      else
        if (8 : Int32) ≤ x1 then
          some (some (.inl (-1000 : Int32)), M2)
        else
          am_bi (f170 z (Int32.toInt64 x2) (0 : Int64) (1 : Int64) M2) fun v5 M4 =>
            if ¬ v5 = 0 then
              am_bi (f178 z M4) fun v7 M6 =>
                f304_55 z z x1 x2 (if v7 < (8 : Int32) then v7 else (8 : Int32)) ((65536 : Int32) - ((1 : Int32) <<< ((if v7 < (8 : Int32) then v7 else (8 : Int32)) &&& 31))) (0 : Int32) M6
            else
              some (some (.inl (-1000 : Int32)), M4)
set_option maxRecDepth 100000 in
set_option maxHeartbeats 4000000 in
theorem e304 (z : Nat) : ∀ (x1 : Int32) (x2 : Int32) (M : aM) (r : aR), f304 z x1 x2 M = some r → am_Ev 11 304 0 [some (.inr (.inr (11, 205))), some (.inl x1), some (.inl x2), none, none, none, none, none] [] M r := by
  intro x1 x2 M r h
  exact am_Ev_seg (sem := am_s304_ z) (cut := ([(55, [true, true, true, true, true, true, false, false])] : List (Nat × List Bool))) (hs304 z) am_r304 am_k304 (by rw [am_l304]; decide) (am_kc 55 (fun al st M => match al, st with
      | [some (.inr (.inr (11, 205))), some (.inl x1), some (.inl x2), some (.inl x3), some (.inl x4), some (.inl x5), none, none], [] => f304_55 z z x1 x2 x3 x4 x5 M
      | _, _ => none) am_k0) 31 h (am_kc_ok (fun al st M hk => by
      split at hk
      · exact e304_55 z _ _ _ _ _ _ _ _ hk
      · cases hk) am_k0_ok)
def F304 (z : Nat) (as : List aV) (M : aM) : Option aR := match as with
  | [.inr (.inr (11, 205)), .inl x1, .inl x2] => f304 z x1 x2 M
  | _ => none
theorem S304 (z : Nat) : am_Snd 11 304 (F304 z) := am_meth (by decide +kernel) (fun as M r has h => by
    rw [am_l304]
    unfold F304 at h
    split at h
    · exact ⟨Nat.le_of_ble_eq_true rfl, e304 z _ _ _ _ h⟩
    · cases h)
def cd305_0 : List am_E := [(0, .aload_n 0, 1, 0, 0, 0, 0), (1, .invokevirtual 329, 3, 211, 11004, 0, 0), (4, .aload_n 0, 1, 0, 0, 0, 0), (5, .dup, 1, 0, 0, 0, 0), (6, .getfield 268, 3, 11, 18, 0, 0), (9, .iload_n 3, 1, 3, 0, 0, 0), (10, .iload_n 1, 1, 1, 0, 0, 0), (11, .ishl, 1, 0, 0, 0, 0), (12, .iload 4, 2, 4, 0, 0, 0), (14, .iload_n 2, 1, 2, 0, 0, 0), (15, .ishl, 1, 0, 0, 0, 0), (16, .ior, 1, 0, 0, 0, 0), (17, .iconst (-1), 1, 0, 0, (-1), 0), (18, .ixor, 1, 0, 0, 0, 0), (19, .iand, 1, 0, 0, 0, 0), (20, .putfield 268, 3, 11, 18, 0, 0), (23, .aload_n 0, 1, 0, 0, 0, 0), (24, .invokevirtual 332, 3, 224, 11004, 0, 0), (27, .iload 5, 2, 5, 0, 0, 0), (29, .ifCond .ne 7, 3, 36, 0, 0, 0), (32, .iload_n 1, 1, 1, 0, 0, 0), (33, .goto 4, 3, 37, 0, 0, 0), (36, .iload_n 2, 1, 2, 0, 0, 0), (37, .istore 6, 2, 6, 0, 0, 0), (39, .aload_n 0, 1, 0, 0, 0, 0), (40, .iload 6, 2, 6, 0, 0, 0), (42, .invokevirtual 378, 3, 252, 11010, 0, 0), (45, .ifCond .ne 5, 3, 50, 0, 0, 0), (48, .iconst 0, 1, 0, 0, 0, 0), (49, .ireturn, 1, 0, 0, 0, 0), (50, .aload_n 0, 1, 0, 0, 0, 0), (51, .getfield 64, 3, 11, 32, 0, 0), (54, .iload 6, 2, 6, 0, 0, 0), (56, .iaload, 1, 0, 0, 0, 0), (57, .ifCond .le 7, 3, 64, 0, 0, 0), (60, .iconst 0, 1, 0, 0, 0, 0), (61, .goto 10, 3, 71, 0, 0, 0), (64, .aload_n 0, 1, 0, 0, 0, 0), (65, .iload 6, 2, 6, 0, 0, 0), (67, .iconst 1, 1, 0, 0, 1, 0)]
def cd305_1 : List am_E := [(68, .invokevirtual 249, 3, 187, 11020, 0, 0), (71, .bipush 20, 2, 0, 0, 20, 0), (73, .aload_n 0, 1, 0, 0, 0, 0), (74, .getfield 61, 3, 11, 31, 0, 0), (77, .iload 6, 2, 6, 0, 0, 0), (79, .iaload, 1, 0, 0, 0, 0), (80, .invokestatic 372, 3, 171, 15, 0, 0), (83, .imul, 1, 0, 0, 0, 0), (84, .isub, 1, 0, 0, 0, 0), (85, .ireturn, 1, 0, 0, 0, 0)]
def cd305 : List am_E := cd305_0 ++ (cd305_1)
def am_w305 : List (List (Int32 × Nat) × Nat) := []
set_option maxRecDepth 100000 in
theorem kcd305_0 : cd305_0.all (am_chk am_w305 305) = true := by decide +kernel
set_option maxRecDepth 100000 in
theorem kcd305_1 : cd305_1.all (am_chk am_w305 305) = true := by decide +kernel
theorem am_k305 : cd305.all (am_chk am_w305 305) = true := by
  simp only [cd305, List.all_append, kcd305_0, kcd305_1, Bool.and_self]
theorem am_r305 : am_rtc 305 = 0 := by decide +kernel
theorem am_l305 : am_ml 305 = 7 := by decide +kernel
def am_s305_ (z : Nat) : Nat → List aV → aM → Option aR := (am_sm 171 (F171 z) (am_sm 187 (F187 z) (am_sm 211 (F211 z) (am_sm 224 (F224 z) (am_sm 252 (F252 z) am_s0)))))
theorem hs305 (z : Nat) : ∀ j2 : Nat, ∃ d2 : Nat, d2 + 1 ≤ 10 ∧ am_Snd d2 j2 (am_s305_ z j2) := (am_sm_ok (S171 z) (by decide) (am_sm_ok (S187 z) (by decide) (am_sm_ok (S211 z) (by decide) (am_sm_ok (S224 z) (by decide) (am_sm_ok (S252 z) (by decide) (am_s0_ok (by decide)))))))
/-- ArgumentMenderModel.getsBy(IIIII)I -/
def f305 (z : Nat) (x1 : Int32) (x2 : Int32) (x3 : Int32) (x4 : Int32) (x5 : Int32) (M : aM) : Option aR :=
  am_bv (f211 z M) fun M1 =>
    let I2 := am_u M1.1 205 18 ((M1.1 205 18) &&& (((x3 <<< (x1 &&& 31)) ||| (x4 <<< (x2 &&& 31))) ^^^ (-1 : Int32)))
    am_bv (f224 z (I2, M1.2)) fun M3 =>
      if ¬ x5 = 0 then
        am_bi (f252 z x2 M3) fun v5 M4 =>
          if ¬ v5 = 0 then
            if am_inB x2 10 then
              if (M4.1 222 x2.toNatClampNeg) ≤ 0 then
                am_bi (f187 z x2 (1 : Int32) M4) fun v7 M6 =>
                  if am_inB x2 10 then
                    am_bi (f171 z (M6.1 221 x2.toNatClampNeg) M6) fun v9 M8 =>
                      some (some (.inl (v7 - ((20 : Int32) * v9))), M8)
                  else
                    none
              else
                if am_inB x2 10 then
                  am_bi (f171 z (M4.1 221 x2.toNatClampNeg) M4) fun v11 M10 =>
                    some (some (.inl ((0 : Int32) - ((20 : Int32) * v11))), M10)
                else
                  none
            else
              none
          else
            some (some (.inl (0 : Int32)), M4)
      else
        am_bi (f252 z x1 M3) fun v13 M12 =>
          if ¬ v13 = 0 then
            if am_inB x1 10 then
              if (M12.1 222 x1.toNatClampNeg) ≤ 0 then
                am_bi (f187 z x1 (1 : Int32) M12) fun v15 M14 =>
                  if am_inB x1 10 then
                    am_bi (f171 z (M14.1 221 x1.toNatClampNeg) M14) fun v17 M16 =>
                      some (some (.inl (v15 - ((20 : Int32) * v17))), M16)
                  else
                    none
              else
                if am_inB x1 10 then
                  am_bi (f171 z (M12.1 221 x1.toNatClampNeg) M12) fun v19 M18 =>
                    some (some (.inl ((0 : Int32) - ((20 : Int32) * v19))), M18)
                else
                  none
            else
              none
          else
            some (some (.inl (0 : Int32)), M12)
set_option maxRecDepth 100000 in
set_option maxHeartbeats 4000000 in
theorem e305 (z : Nat) : ∀ (x1 : Int32) (x2 : Int32) (x3 : Int32) (x4 : Int32) (x5 : Int32) (M : aM) (r : aR), f305 z x1 x2 x3 x4 x5 M = some r → am_Ev 10 305 0 [some (.inr (.inr (11, 205))), some (.inl x1), some (.inl x2), some (.inl x3), some (.inl x4), some (.inl x5), none] [] M r := by
  intro x1 x2 x3 x4 x5 M r h
  exact am_Ev_seg (sem := am_s305_ z) (cut := ([] : List (Nat × List Bool))) (hs305 z) am_r305 am_k305 (by rw [am_l305]; decide) am_k0 46 h am_k0_ok
def F305 (z : Nat) (as : List aV) (M : aM) : Option aR := match as with
  | [.inr (.inr (11, 205)), .inl x1, .inl x2, .inl x3, .inl x4, .inl x5] => f305 z x1 x2 x3 x4 x5 M
  | _ => none
theorem S305 (z : Nat) : am_Snd 10 305 (F305 z) := am_meth (by decide +kernel) (fun as M r has h => by
    rw [am_l305]
    unfold F305 at h
    split at h
    · exact ⟨Nat.le_of_ble_eq_true rfl, e305 z _ _ _ _ _ _ _ h⟩
    · cases h)
def cd306_0 : List am_E := [(0, .aload_n 0, 1, 0, 0, 0, 0), (1, .iload_n 1, 1, 1, 0, 0, 0), (2, .invokevirtual 245, 3, 184, 11010, 0, 0), (5, .ifCond .eq 20, 3, 25, 0, 0, 0), (8, .aload_n 0, 1, 0, 0, 0, 0), (9, .iload_n 2, 1, 2, 0, 0, 0), (10, .invokevirtual 245, 3, 184, 11010, 0, 0), (13, .ifCond .eq 12, 3, 25, 0, 0, 0), (16, .iload_n 1, 1, 1, 0, 0, 0), (17, .iload_n 2, 1, 2, 0, 0, 0), (18, .if_icmp .eq 7, 3, 25, 0, 0, 0), (21, .iconst 1, 1, 0, 0, 1, 0), (22, .goto 4, 3, 26, 0, 0, 0), (25, .iconst 0, 1, 0, 0, 0, 0), (26, .ireturn, 1, 0, 0, 0, 0)]
def cd306 : List am_E := cd306_0
def am_w306 : List (List (Int32 × Nat) × Nat) := []
set_option maxRecDepth 100000 in
theorem kcd306_0 : cd306_0.all (am_chk am_w306 306) = true := by decide +kernel
theorem am_k306 : cd306.all (am_chk am_w306 306) = true := by
  simp only [cd306, List.all_append, kcd306_0, Bool.and_self]
theorem am_r306 : am_rtc 306 = 1 := by decide +kernel
theorem am_l306 : am_ml 306 = 3 := by decide +kernel
def am_s306_ (z : Nat) : Nat → List aV → aM → Option aR := (am_sm 184 (F184 z) am_s0)
theorem hs306 (z : Nat) : ∀ j2 : Nat, ∃ d2 : Nat, d2 + 1 ≤ 3 ∧ am_Snd d2 j2 (am_s306_ z j2) := (am_sm_ok (S184 z) (by decide) (am_s0_ok (by decide)))
/-- ArgumentMenderModel.areTwo(II)Z -/
def f306 (z : Nat) (x1 : Int32) (x2 : Int32) (M : aM) : Option aR :=
  am_bi (f184 z x1 M) fun v2 M1 =>
    if v2 = 0 then
      some (some (.inl ((0 : Int32) &&& 1)), M1)
    else
      am_bi (f184 z x2 M1) fun v4 M3 =>
        if v4 = 0 then
          some (some (.inl ((0 : Int32) &&& 1)), M3)
        else
          if x1 = x2 then
            some (some (.inl ((0 : Int32) &&& 1)), M3)
          else
            some (some (.inl ((1 : Int32) &&& 1)), M3)
set_option maxRecDepth 100000 in
set_option maxHeartbeats 4000000 in
theorem e306 (z : Nat) : ∀ (x1 : Int32) (x2 : Int32) (M : aM) (r : aR), f306 z x1 x2 M = some r → am_Ev 3 306 0 [some (.inr (.inr (11, 205))), some (.inl x1), some (.inl x2)] [] M r := by
  intro x1 x2 M r h
  exact am_Ev_seg (sem := am_s306_ z) (cut := ([] : List (Nat × List Bool))) (hs306 z) am_r306 am_k306 (by rw [am_l306]; decide) am_k0 15 h am_k0_ok
def F306 (z : Nat) (as : List aV) (M : aM) : Option aR := match as with
  | [.inr (.inr (11, 205)), .inl x1, .inl x2] => f306 z x1 x2 M
  | _ => none
theorem S306 (z : Nat) : am_Snd 3 306 (F306 z) := am_meth (by decide +kernel) (fun as M r has h => by
    rw [am_l306]
    unfold F306 at h
    split at h
    · exact ⟨Nat.le_of_ble_eq_true rfl, e306 z _ _ _ _ h⟩
    · cases h)
def cd307_0 : List am_E := [(0, .aload_n 0, 1, 0, 0, 0, 0), (1, .iload_n 1, 1, 1, 0, 0, 0), (2, .iload_n 2, 1, 2, 0, 0, 0), (3, .invokevirtual 469, 3, 306, 11020, 0, 0), (6, .ifCond .ne 6, 3, 12, 0, 0, 0), (9, .bipush (-2), 2, 0, 0, (-2), 0), (11, .ireturn, 1, 0, 0, 0, 0), (12, .iconst 0, 1, 0, 0, 0, 0), (13, .istore_n 3, 1, 3, 0, 0, 0), (14, .iconst 0, 1, 0, 0, 0, 0), (15, .istore 4, 2, 4, 0, 0, 0), (17, .iload 4, 2, 4, 0, 0, 0), (19, .iconst 4, 1, 0, 0, 4, 0), (20, .if_icmp .ge 98, 3, 118, 0, 0, 0), (23, .iload 4, 2, 4, 0, 0, 0), (25, .iconst 1, 1, 0, 0, 1, 0), (26, .iand, 1, 0, 0, 0, 0), (27, .istore 5, 2, 5, 0, 0, 0), (29, .iload 4, 2, 4, 0, 0, 0), (31, .iconst 1, 1, 0, 0, 1, 0), (32, .ishr, 1, 0, 0, 0, 0), (33, .istore 6, 2, 6, 0, 0, 0), (35, .aload_n 0, 1, 0, 0, 0, 0), (36, .iload_n 1, 1, 1, 0, 0, 0), (37, .iload_n 2, 1, 2, 0, 0, 0), (38, .iload 5, 2, 5, 0, 0, 0), (40, .iload 6, 2, 6, 0, 0, 0), (42, .iconst 0, 1, 0, 0, 0, 0), (43, .invokevirtual 472, 3, 305, 11050, 0, 0), (46, .aload_n 0, 1, 0, 0, 0, 0), (47, .iload_n 1, 1, 1, 0, 0, 0), (48, .iload_n 2, 1, 2, 0, 0, 0), (49, .iconst 1, 1, 0, 0, 1, 0), (50, .iload 5, 2, 5, 0, 0, 0), (52, .isub, 1, 0, 0, 0, 0), (53, .iload 6, 2, 6, 0, 0, 0), (55, .iconst 0, 1, 0, 0, 0, 0), (56, .invokevirtual 472, 3, 305, 11050, 0, 0), (59, .if_icmp .lt 34, 3, 93, 0, 0, 0), (62, .aload_n 0, 1, 0, 0, 0, 0)]
def cd307_1 : List am_E := [(63, .iload_n 1, 1, 1, 0, 0, 0), (64, .iload_n 2, 1, 2, 0, 0, 0), (65, .iload 5, 2, 5, 0, 0, 0), (67, .iload 6, 2, 6, 0, 0, 0), (69, .iconst 1, 1, 0, 0, 1, 0), (70, .invokevirtual 472, 3, 305, 11050, 0, 0), (73, .aload_n 0, 1, 0, 0, 0, 0), (74, .iload_n 1, 1, 1, 0, 0, 0), (75, .iload_n 2, 1, 2, 0, 0, 0), (76, .iload 5, 2, 5, 0, 0, 0), (78, .iconst 1, 1, 0, 0, 1, 0), (79, .iload 6, 2, 6, 0, 0, 0), (81, .isub, 1, 0, 0, 0, 0), (82, .iconst 1, 1, 0, 0, 1, 0), (83, .invokevirtual 472, 3, 305, 11050, 0, 0), (86, .if_icmp .lt 7, 3, 93, 0, 0, 0), (89, .iconst 1, 1, 0, 0, 1, 0), (90, .goto 4, 3, 94, 0, 0, 0), (93, .iconst 0, 1, 0, 0, 0, 0), (94, .istore 7, 2, 7, 0, 0, 0), (96, .iload_n 3, 1, 3, 0, 0, 0), (97, .iload 7, 2, 7, 0, 0, 0), (99, .ifCond .eq 10, 3, 109, 0, 0, 0), (102, .iconst 1, 1, 0, 0, 1, 0), (103, .iload 4, 2, 4, 0, 0, 0), (105, .ishl, 1, 0, 0, 0, 0), (106, .goto 4, 3, 110, 0, 0, 0), (109, .iconst 0, 1, 0, 0, 0, 0), (110, .ior, 1, 0, 0, 0, 0), (111, .istore_n 3, 1, 3, 0, 0, 0), (112, .iinc 4 1, 3, 4, 0, 1, 0), (115, .goto (-98), 3, 17, 0, 0, 0), (118, .iload_n 3, 1, 3, 0, 0, 0), (119, .ireturn, 1, 0, 0, 0, 0)]
def cd307 : List am_E := cd307_0 ++ (cd307_1)
def am_w307 : List (List (Int32 × Nat) × Nat) := []
set_option maxRecDepth 100000 in
theorem kcd307_0 : cd307_0.all (am_chk am_w307 307) = true := by decide +kernel
set_option maxRecDepth 100000 in
theorem kcd307_1 : cd307_1.all (am_chk am_w307 307) = true := by decide +kernel
theorem am_k307 : cd307.all (am_chk am_w307 307) = true := by
  simp only [cd307, List.all_append, kcd307_0, kcd307_1, Bool.and_self]
theorem am_r307 : am_rtc 307 = 0 := by decide +kernel
theorem am_l307 : am_ml 307 = 8 := by decide +kernel
def am_s307_ (z : Nat) : Nat → List aV → aM → Option aR := (am_sm 305 (F305 z) (am_sm 306 (F306 z) am_s0))
theorem hs307 (z : Nat) : ∀ j2 : Nat, ∃ d2 : Nat, d2 + 1 ≤ 11 ∧ am_Snd d2 j2 (am_s307_ z j2) := (am_sm_ok (S305 z) (by decide) (am_sm_ok (S306 z) (by decide) (am_s0_ok (by decide))))
def f307_17 (z : Nat) : Nat → Int32 → Int32 → Int32 → Int32 → aM → Option aR
  | 0, _, _, _, _, _ => none
  | n + 1, x1, x2, x3, x4, M =>
    if (4 : Int32) ≤ x4 then
      some (some (.inl x3), M)
    else
      am_bi (f305 z x1 x2 (x4 &&& (1 : Int32)) (x4 >>> ((1 : Int32) &&& 31)) (0 : Int32) M) fun v2 M1 =>
        am_bi (f305 z x1 x2 ((1 : Int32) - (x4 &&& (1 : Int32))) (x4 >>> ((1 : Int32) &&& 31)) (0 : Int32) M1) fun v4 M3 =>
          if v2 < v4 then
            if (0 : Int32) = 0 then
              f307_17 z n x1 x2 (x3 ||| (0 : Int32)) (x4 + (1 : Int32)) M3
            else
              f307_17 z n x1 x2 (x3 ||| ((1 : Int32) <<< (x4 &&& 31))) (x4 + (1 : Int32)) M3
          else
            am_bi (f305 z x1 x2 (x4 &&& (1 : Int32)) (x4 >>> ((1 : Int32) &&& 31)) (1 : Int32) M3) fun v6 M5 =>
              am_bi (f305 z x1 x2 (x4 &&& (1 : Int32)) ((1 : Int32) - (x4 >>> ((1 : Int32) &&& 31))) (1 : Int32) M5) fun v8 M7 =>
                if v6 < v8 then
                  if (0 : Int32) = 0 then
                    f307_17 z n x1 x2 (x3 ||| (0 : Int32)) (x4 + (1 : Int32)) M7
                  else
                    f307_17 z n x1 x2 (x3 ||| ((1 : Int32) <<< (x4 &&& 31))) (x4 + (1 : Int32)) M7
                else
                  if (1 : Int32) = 0 then
                    f307_17 z n x1 x2 (x3 ||| (0 : Int32)) (x4 + (1 : Int32)) M7
                  else
                    f307_17 z n x1 x2 (x3 ||| ((1 : Int32) <<< (x4 &&& 31))) (x4 + (1 : Int32)) M7
set_option maxRecDepth 100000 in
set_option maxHeartbeats 4000000 in
theorem e307_17 (z : Nat) : ∀ (n : Nat) (x1 : Int32) (x2 : Int32) (x3 : Int32) (x4 : Int32) (M : aM) (r : aR), f307_17 z n x1 x2 x3 x4 M = some r → am_Ev 11 307 17 [some (.inr (.inr (11, 205))), some (.inl x1), some (.inl x2), some (.inl x3), some (.inl x4), none, none, none] [] M r := by
  intro n
  induction n with
  | zero =>
    intro x1 x2 x3 x4 M r h
    cases h
  | succ n ih =>
    intro x1 x2 x3 x4 M r h
    exact am_Ev_seg (sem := am_s307_ z) (cut := ([(17, [true, true, true, true, true, false, false, false])] : List (Nat × List Bool))) (hs307 z) am_r307 am_k307 (by rw [am_l307]; decide) (am_kc 17 (fun al st M => match al, st with
      | [some (.inr (.inr (11, 205))), some (.inl x1), some (.inl x2), some (.inl x3), some (.inl x4), none, none, none], [] => f307_17 z n x1 x2 x3 x4 M
      | _, _ => none) am_k0) 61 h (am_kc_ok (fun al st M hk => by
      split at hk
      · exact ih _ _ _ _ _ _ hk
      · cases hk) am_k0_ok)
/-- ArgumentMenderModel.rests(II)I -/
def f307 (z : Nat) (x1 : Int32) (x2 : Int32) (M : aM) : Option aR :=
  am_bi (f306 z x1 x2 M) fun v2 M1 =>
    if ¬ v2 = 0 then
      f307_17 z z x1 x2 (0 : Int32) (0 : Int32) M1
    else
      some (some (.inl (-2 : Int32)), M1)
set_option maxRecDepth 100000 in
set_option maxHeartbeats 4000000 in
theorem e307 (z : Nat) : ∀ (x1 : Int32) (x2 : Int32) (M : aM) (r : aR), f307 z x1 x2 M = some r → am_Ev 11 307 0 [some (.inr (.inr (11, 205))), some (.inl x1), some (.inl x2), none, none, none, none, none] [] M r := by
  intro x1 x2 M r h
  exact am_Ev_seg (sem := am_s307_ z) (cut := ([(17, [true, true, true, true, true, false, false, false])] : List (Nat × List Bool))) (hs307 z) am_r307 am_k307 (by rw [am_l307]; decide) (am_kc 17 (fun al st M => match al, st with
      | [some (.inr (.inr (11, 205))), some (.inl x1), some (.inl x2), some (.inl x3), some (.inl x4), none, none, none], [] => f307_17 z z x1 x2 x3 x4 M
      | _, _ => none) am_k0) 11 h (am_kc_ok (fun al st M hk => by
      split at hk
      · exact e307_17 z _ _ _ _ _ _ _ hk
      · cases hk) am_k0_ok)
def F307 (z : Nat) (as : List aV) (M : aM) : Option aR := match as with
  | [.inr (.inr (11, 205)), .inl x1, .inl x2] => f307 z x1 x2 M
  | _ => none
theorem S307 (z : Nat) : am_Snd 11 307 (F307 z) := am_meth (by decide +kernel) (fun as M r has h => by
    rw [am_l307]
    unfold F307 at h
    split at h
    · exact ⟨Nat.le_of_ble_eq_true rfl, e307 z _ _ _ _ h⟩
    · cases h)
def cd308_0 : List am_E := [(0, .aload_n 0, 1, 0, 0, 0, 0), (1, .iload_n 1, 1, 1, 0, 0, 0), (2, .iload_n 2, 1, 2, 0, 0, 0), (3, .invokevirtual 469, 3, 306, 11020, 0, 0), (6, .ifCond .eq 37, 3, 43, 0, 0, 0), (9, .iload_n 3, 1, 3, 0, 0, 0), (10, .i2l, 1, 0, 0, 0, 0), (11, .lconst 0, 1, 0, 0, 0, 0), (12, .lconst 1, 1, 0, 0, 0, 1), (13, .invokestatic 103, 3, 170, 35, 0, 0), (16, .ifCond .eq 27, 3, 43, 0, 0, 0), (19, .iload 4, 2, 4, 0, 0, 0), (21, .i2l, 1, 0, 0, 0, 0), (22, .lconst 0, 1, 0, 0, 0, 0), (23, .lconst 1, 1, 0, 0, 0, 1), (24, .invokestatic 103, 3, 170, 35, 0, 0), (27, .ifCond .eq 16, 3, 43, 0, 0, 0), (30, .aload_n 0, 1, 0, 0, 0, 0), (31, .iload_n 1, 1, 1, 0, 0, 0), (32, .iload_n 2, 1, 2, 0, 0, 0), (33, .iload_n 3, 1, 3, 0, 0, 0), (34, .iload 4, 2, 4, 0, 0, 0), (36, .iconst 0, 1, 0, 0, 0, 0), (37, .invokevirtual 472, 3, 305, 11050, 0, 0), (40, .goto 6, 3, 46, 0, 0, 0), (43, .sipush (-1000), 3, 0, 0, (-1000), 0), (46, .ireturn, 1, 0, 0, 0, 0)]
def cd308 : List am_E := cd308_0
def am_w308 : List (List (Int32 × Nat) × Nat) := []
set_option maxRecDepth 100000 in
theorem kcd308_0 : cd308_0.all (am_chk am_w308 308) = true := by decide +kernel
theorem am_k308 : cd308.all (am_chk am_w308 308) = true := by
  simp only [cd308, List.all_append, kcd308_0, Bool.and_self]
theorem am_r308 : am_rtc 308 = 0 := by decide +kernel
theorem am_l308 : am_ml 308 = 5 := by decide +kernel
def am_s308_ (z : Nat) : Nat → List aV → aM → Option aR := (am_sm 170 (F170 z) (am_sm 305 (F305 z) (am_sm 306 (F306 z) am_s0)))
theorem hs308 (z : Nat) : ∀ j2 : Nat, ∃ d2 : Nat, d2 + 1 ≤ 11 ∧ am_Snd d2 j2 (am_s308_ z j2) := (am_sm_ok (S170 z) (by decide) (am_sm_ok (S305 z) (by decide) (am_sm_ok (S306 z) (by decide) (am_s0_ok (by decide)))))
/-- ArgumentMenderModel.gets(IIII)I -/
def f308 (z : Nat) (x1 : Int32) (x2 : Int32) (x3 : Int32) (x4 : Int32) (M : aM) : Option aR :=
  am_bi (f306 z x1 x2 M) fun v2 M1 =>
    if v2 = 0 then
      some (some (.inl (-1000 : Int32)), M1)
    else
      am_bi (f170 z (Int32.toInt64 x3) (0 : Int64) (1 : Int64) M1) fun v4 M3 =>
        if v4 = 0 then
          some (some (.inl (-1000 : Int32)), M3)
        else
          am_bi (f170 z (Int32.toInt64 x4) (0 : Int64) (1 : Int64) M3) fun v6 M5 =>
            if v6 = 0 then
              some (some (.inl (-1000 : Int32)), M5)
            else
              am_bi (f305 z x1 x2 x3 x4 (0 : Int32) M5) fun v8 M7 =>
                some (some (.inl v8), M7)
set_option maxRecDepth 100000 in
set_option maxHeartbeats 4000000 in
theorem e308 (z : Nat) : ∀ (x1 : Int32) (x2 : Int32) (x3 : Int32) (x4 : Int32) (M : aM) (r : aR), f308 z x1 x2 x3 x4 M = some r → am_Ev 11 308 0 [some (.inr (.inr (11, 205))), some (.inl x1), some (.inl x2), some (.inl x3), some (.inl x4)] [] M r := by
  intro x1 x2 x3 x4 M r h
  exact am_Ev_seg (sem := am_s308_ z) (cut := ([] : List (Nat × List Bool))) (hs308 z) am_r308 am_k308 (by rw [am_l308]; decide) am_k0 27 h am_k0_ok
def F308 (z : Nat) (as : List aV) (M : aM) : Option aR := match as with
  | [.inr (.inr (11, 205)), .inl x1, .inl x2, .inl x3, .inl x4] => f308 z x1 x2 x3 x4 M
  | _ => none
theorem S308 (z : Nat) : am_Snd 11 308 (F308 z) := am_meth (by decide +kernel) (fun as M r has h => by
    rw [am_l308]
    unfold F308 at h
    split at h
    · exact ⟨Nat.le_of_ble_eq_true rfl, e308 z _ _ _ _ _ _ h⟩
    · cases h)
def cd309_0 : List am_E := [(0, .aload_n 0, 1, 0, 0, 0, 0), (1, .lconst 0, 1, 0, 0, 0, 0), (2, .putfield 476, 3, 11, 42, 0, 0), (5, .aload_n 0, 1, 0, 0, 0, 0), (6, .lconst 0, 1, 0, 0, 0, 0), (7, .putfield 480, 3, 11, 43, 0, 0), (10, .aload_n 0, 1, 0, 0, 0, 0), (11, .lconst 0, 1, 0, 0, 0, 0), (12, .putfield 483, 3, 11, 44, 0, 0), (15, .aload_n 0, 1, 0, 0, 0, 0), (16, .invokevirtual 329, 3, 211, 11004, 0, 0), (19, .aload_n 0, 1, 0, 0, 0, 0), (20, .invokevirtual 121, 3, 179, 11000, 0, 0), (23, .istore_n 2, 1, 2, 0, 0, 0), (24, .iconst 0, 1, 0, 0, 0, 0), (25, .istore_n 3, 1, 3, 0, 0, 0), (26, .iload_n 3, 1, 3, 0, 0, 0), (27, .iconst 1, 1, 0, 0, 1, 0), (28, .iload_n 2, 1, 2, 0, 0, 0), (29, .ishl, 1, 0, 0, 0, 0), (30, .if_icmp .ge 139, 3, 169, 0, 0, 0), (33, .lconst 1, 1, 0, 0, 0, 1), (34, .lstore 4, 2, 4, 0, 0, 0), (36, .iconst 0, 1, 0, 0, 0, 0), (37, .istore 6, 2, 6, 0, 0, 0), (39, .iload 6, 2, 6, 0, 0, 0), (41, .iload_n 2, 1, 2, 0, 0, 0), (42, .if_icmp .ge 44, 3, 86, 0, 0, 0), (45, .lload 4, 2, 4, 0, 0, 0), (47, .iload_n 3, 1, 3, 0, 0, 0), (48, .iload 6, 2, 6, 0, 0, 0), (50, .invokestatic 300, 3, 172, 25, 0, 0), (53, .iconst 1, 1, 0, 0, 1, 0), (54, .if_icmp .ne 13, 3, 67, 0, 0, 0), (57, .aload_n 0, 1, 0, 0, 0, 0), (58, .getfield 9, 3, 11, 1, 0, 0), (61, .iconst 2, 1, 0, 0, 2, 0), (62, .iaload, 1, 0, 0, 0, 0), (63, .i2l, 1, 0, 0, 0, 0), (64, .goto 13, 3, 77, 0, 0, 0)]
def cd309_1 : List am_E := [(67, .bipush 10, 2, 0, 0, 10, 0), (69, .aload_n 0, 1, 0, 0, 0, 0), (70, .getfield 9, 3, 11, 1, 0, 0), (73, .iconst 2, 1, 0, 0, 2, 0), (74, .iaload, 1, 0, 0, 0, 0), (75, .isub, 1, 0, 0, 0, 0), (76, .i2l, 1, 0, 0, 0, 0), (77, .lmul, 1, 0, 0, 0, 0), (78, .lstore 4, 2, 4, 0, 0, 0), (80, .iinc 6 1, 3, 6, 0, 1, 0), (83, .goto (-44), 3, 39, 0, 0, 0), (86, .lload 4, 2, 4, 0, 0, 0), (88, .lconst 0, 1, 0, 0, 0, 0), (89, .lcmp, 1, 0, 0, 0, 0), (90, .ifCond .ne 6, 3, 96, 0, 0, 0), (93, .goto 70, 3, 163, 0, 0, 0), (96, .aload_n 0, 1, 0, 0, 0, 0), (97, .iload_n 3, 1, 3, 0, 0, 0), (98, .putfield 268, 3, 11, 18, 0, 0), (101, .aload_n 0, 1, 0, 0, 0, 0), (102, .invokevirtual 332, 3, 224, 11004, 0, 0), (105, .aload_n 0, 1, 0, 0, 0, 0), (106, .dup, 1, 0, 0, 0, 0), (107, .getfield 476, 3, 11, 42, 0, 0), (110, .lload 4, 2, 4, 0, 0, 0), (112, .ladd, 1, 0, 0, 0, 0), (113, .putfield 476, 3, 11, 42, 0, 0), (116, .aload_n 0, 1, 0, 0, 0, 0), (117, .dup, 1, 0, 0, 0, 0), (118, .getfield 480, 3, 11, 43, 0, 0), (121, .aload_n 0, 1, 0, 0, 0, 0), (122, .invokevirtual 397, 3, 232, 11000, 0, 0), (125, .iload_n 1, 1, 1, 0, 0, 0), (126, .invokestatic 300, 3, 172, 25, 0, 0), (129, .iconst 1, 1, 0, 0, 1, 0), (130, .if_icmp .ne 8, 3, 138, 0, 0, 0), (133, .lload 4, 2, 4, 0, 0, 0), (135, .goto 4, 3, 139, 0, 0, 0), (138, .lconst 0, 1, 0, 0, 0, 0), (139, .ladd, 1, 0, 0, 0, 0)]
def cd309_2 : List am_E := [(140, .putfield 480, 3, 11, 43, 0, 0), (143, .aload_n 0, 1, 0, 0, 0, 0), (144, .dup, 1, 0, 0, 0, 0), (145, .getfield 483, 3, 11, 44, 0, 0), (148, .lload 4, 2, 4, 0, 0, 0), (150, .aload_n 0, 1, 0, 0, 0, 0), (151, .invokevirtual 397, 3, 232, 11000, 0, 0), (154, .invokestatic 372, 3, 171, 15, 0, 0), (157, .i2l, 1, 0, 0, 0, 0), (158, .lmul, 1, 0, 0, 0, 0), (159, .ladd, 1, 0, 0, 0, 0), (160, .putfield 483, 3, 11, 44, 0, 0), (163, .iinc 3 1, 3, 3, 0, 1, 0), (166, .goto (-140), 3, 26, 0, 0, 0), (169, .return_, 1, 0, 0, 0, 0)]
def cd309 : List am_E := cd309_0 ++ (cd309_1 ++ (cd309_2))
def am_w309 : List (List (Int32 × Nat) × Nat) := []
set_option maxRecDepth 100000 in
theorem kcd309_0 : cd309_0.all (am_chk am_w309 309) = true := by decide +kernel
set_option maxRecDepth 100000 in
theorem kcd309_1 : cd309_1.all (am_chk am_w309 309) = true := by decide +kernel
set_option maxRecDepth 100000 in
theorem kcd309_2 : cd309_2.all (am_chk am_w309 309) = true := by decide +kernel
theorem am_k309 : cd309.all (am_chk am_w309 309) = true := by
  simp only [cd309, List.all_append, kcd309_0, kcd309_1, kcd309_2, Bool.and_self]
theorem am_r309 : am_rtc 309 = 4 := by decide +kernel
theorem am_l309 : am_ml 309 = 7 := by decide +kernel
def am_s309_ (z : Nat) : Nat → List aV → aM → Option aR := (am_sm 171 (F171 z) (am_sm 172 (F172 z) (am_sm 179 (F179 z) (am_sm 211 (F211 z) (am_sm 224 (F224 z) (am_sm 232 (F232 z) am_s0))))))
theorem hs309 (z : Nat) : ∀ j2 : Nat, ∃ d2 : Nat, d2 + 1 ≤ 10 ∧ am_Snd d2 j2 (am_s309_ z j2) := (am_sm_ok (S171 z) (by decide) (am_sm_ok (S172 z) (by decide) (am_sm_ok (S179 z) (by decide) (am_sm_ok (S211 z) (by decide) (am_sm_ok (S224 z) (by decide) (am_sm_ok (S232 z) (by decide) (am_s0_ok (by decide))))))))
def f309_39 (z : Nat) (k26 : Int32 → Int32 → Int32 → aM → Option aR) : Nat → Int32 → Int32 → Int32 → Int64 → Int32 → aM → Option aR
  | 0, _, _, _, _, _, _ => none
  | n + 1, x1, x2, x3, y4, x6, M =>
    if x2 ≤ x6 then
      if ¬ (lg_cmp y4 (0 : Int64)) = 0 then
        let I1 := am_u M.1 205 18 x3
        am_bv (f224 z (I1, M.2)) fun M2 =>
          let J3 := am_ul M2.2 205 42 ((M2.2 205 42) + y4)
          am_bi (f232 z (M2.1, J3)) fun v5 M4 =>
            am_bi (f172 z v5 x1 M4) fun v7 M6 =>
              if ¬ v7 = (1 : Int32) then
                let J8 := am_ul M6.2 205 43 ((J3 205 43) + (0 : Int64))
                am_bi (f232 z (M6.1, J8)) fun v10 M9 =>
                  am_bi (f171 z v10 M9) fun v12 M11 =>
                    let J13 := am_ul M11.2 205 44 ((J8 205 44) + (y4 * (Int32.toInt64 v12)))
                    k26 x1 x2 (x3 + (1 : Int32)) (M11.1, J13)
              else
                let J14 := am_ul M6.2 205 43 ((J3 205 43) + y4)
                am_bi (f232 z (M6.1, J14)) fun v16 M15 =>
                  am_bi (f171 z v16 M15) fun v18 M17 =>
                    let J19 := am_ul M17.2 205 44 ((J14 205 44) + (y4 * (Int32.toInt64 v18)))
                    k26 x1 x2 (x3 + (1 : Int32)) (M17.1, J19)
      else
        k26 x1 x2 (x3 + (1 : Int32)) M
    else
      am_bi (f172 z x3 x6 M) fun v21 M20 =>
        if ¬ v21 = (1 : Int32) then
          if am_inB (2 : Int32) 116 then
            f309_39 z k26 n x1 x2 x3 (y4 * (Int32.toInt64 ((10 : Int32) - (M20.1 206 (2 : Int32).toNatClampNeg)))) (x6 + (1 : Int32)) M20
          else
            none
        else
          if am_inB (2 : Int32) 116 then
            f309_39 z k26 n x1 x2 x3 (y4 * (Int32.toInt64 (M20.1 206 (2 : Int32).toNatClampNeg))) (x6 + (1 : Int32)) M20
          else
            none
set_option maxRecDepth 100000 in
set_option maxHeartbeats 4000000 in
theorem e309_39 (z : Nat) (k26 : Int32 → Int32 → Int32 → aM → Option aR) (hk26 : ∀ (x1 : Int32) (x2 : Int32) (x3 : Int32) (M : aM) (r : aR), k26 x1 x2 x3 M = some r → am_Ev 10 309 26 [some (.inr (.inr (11, 205))), some (.inl x1), some (.inl x2), some (.inl x3), none, none, none] [] M r) : ∀ (n : Nat) (x1 : Int32) (x2 : Int32) (x3 : Int32) (y4 : Int64) (x6 : Int32) (M : aM) (r : aR), f309_39 z k26 n x1 x2 x3 y4 x6 M = some r → am_Ev 10 309 39 [some (.inr (.inr (11, 205))), some (.inl x1), some (.inl x2), some (.inl x3), some (.inr (.inl y4)), none, some (.inl x6)] [] M r := by
  intro n
  induction n with
  | zero =>
    intro x1 x2 x3 y4 x6 M r h
    cases h
  | succ n ih =>
    intro x1 x2 x3 y4 x6 M r h
    exact am_Ev_seg (sem := am_s309_ z) (cut := ([(26, [true, true, true, true, false, false, false]), (39, [true, true, true, true, true, false, true])] : List (Nat × List Bool))) (hs309 z) am_r309 am_k309 (by rw [am_l309]; decide) (am_kc 26 (fun al st M => match al, st with
      | [some (.inr (.inr (11, 205))), some (.inl x1), some (.inl x2), some (.inl x3), none, none, none], [] => k26 x1 x2 x3 M
      | _, _ => none) (am_kc 39 (fun al st M => match al, st with
      | [some (.inr (.inr (11, 205))), some (.inl x1), some (.inl x2), some (.inl x3), some (.inr (.inl y4)), none, some (.inl x6)], [] => f309_39 z k26 n x1 x2 x3 y4 x6 M
      | _, _ => none) am_k0)) 46 h (am_kc_ok (fun al st M hk => by
      split at hk
      · exact hk26 _ _ _ _ _ hk
      · cases hk) (am_kc_ok (fun al st M hk => by
      split at hk
      · exact ih _ _ _ _ _ _ _ hk
      · cases hk) am_k0_ok))
def f309_26 (z : Nat) : Nat → Int32 → Int32 → Int32 → aM → Option aR
  | 0, _, _, _, _ => none
  | n + 1, x1, x2, x3, M =>
    if ((1 : Int32) <<< (x2 &&& 31)) ≤ x3 then
      some (none, M)
    else
      f309_39 z (f309_26 z n) z x1 x2 x3 (1 : Int64) (0 : Int32) M
set_option maxRecDepth 100000 in
set_option maxHeartbeats 4000000 in
theorem e309_26 (z : Nat) : ∀ (n : Nat) (x1 : Int32) (x2 : Int32) (x3 : Int32) (M : aM) (r : aR), f309_26 z n x1 x2 x3 M = some r → am_Ev 10 309 26 [some (.inr (.inr (11, 205))), some (.inl x1), some (.inl x2), some (.inl x3), none, none, none] [] M r := by
  intro n
  induction n with
  | zero =>
    intro x1 x2 x3 M r h
    cases h
  | succ n ih =>
    intro x1 x2 x3 M r h
    exact am_Ev_seg (sem := am_s309_ z) (cut := ([(39, [true, true, true, true, true, false, true])] : List (Nat × List Bool))) (hs309 z) am_r309 am_k309 (by rw [am_l309]; decide) (am_kc 39 (fun al st M => match al, st with
      | [some (.inr (.inr (11, 205))), some (.inl x1), some (.inl x2), some (.inl x3), some (.inr (.inl y4)), none, some (.inl x6)], [] => f309_39 z (f309_26 z n) z x1 x2 x3 y4 x6 M
      | _, _ => none) am_k0) 11 h (am_kc_ok (fun al st M hk => by
      split at hk
      · exact e309_39 z _ ih _ _ _ _ _ _ _ _ hk
      · cases hk) am_k0_ok)
/-- ArgumentMenderModel.layChance(I)V -/
def f309 (z : Nat) (x1 : Int32) (M : aM) : Option aR :=
  let J1 := am_ul M.2 205 42 (0 : Int64)
  let J2 := am_ul J1 205 43 (0 : Int64)
  let J3 := am_ul J2 205 44 (0 : Int64)
  am_bv (f211 z (M.1, J3)) fun M4 =>
    am_bi (f179 z M4) fun v6 M5 =>
      f309_26 z z x1 v6 (0 : Int32) M5
set_option maxRecDepth 100000 in
set_option maxHeartbeats 4000000 in
theorem e309 (z : Nat) : ∀ (x1 : Int32) (M : aM) (r : aR), f309 z x1 M = some r → am_Ev 10 309 0 [some (.inr (.inr (11, 205))), some (.inl x1), none, none, none, none, none] [] M r := by
  intro x1 M r h
  exact am_Ev_seg (sem := am_s309_ z) (cut := ([(26, [true, true, true, true, false, false, false])] : List (Nat × List Bool))) (hs309 z) am_r309 am_k309 (by rw [am_l309]; decide) (am_kc 26 (fun al st M => match al, st with
      | [some (.inr (.inr (11, 205))), some (.inl x1), some (.inl x2), some (.inl x3), none, none, none], [] => f309_26 z z x1 x2 x3 M
      | _, _ => none) am_k0) 18 h (am_kc_ok (fun al st M hk => by
      split at hk
      · exact e309_26 z _ _ _ _ _ _ hk
      · cases hk) am_k0_ok)
def F309 (z : Nat) (as : List aV) (M : aM) : Option aR := match as with
  | [.inr (.inr (11, 205)), .inl x1] => f309 z x1 M
  | _ => none
theorem S309 (z : Nat) : am_Snd 10 309 (F309 z) := am_meth (by decide +kernel) (fun as M r has h => by
    rw [am_l309]
    unfold F309 at h
    split at h
    · exact ⟨Nat.le_of_ble_eq_true rfl, e309 z _ _ _ h⟩
    · cases h)
def cd310_0 : List am_E := [(0, .aload_n 0, 1, 0, 0, 0, 0), (1, .iload_n 1, 1, 1, 0, 0, 0), (2, .invokevirtual 255, 3, 182, 11010, 0, 0), (5, .ifCond .eq 13, 3, 18, 0, 0, 0), (8, .iload_n 2, 1, 2, 0, 0, 0), (9, .i2l, 1, 0, 0, 0, 0), (10, .lconst 0, 1, 0, 0, 0, 0), (11, .lconst 1, 1, 0, 0, 0, 1), (12, .invokestatic 103, 3, 170, 35, 0, 0), (15, .ifCond .ne 7, 3, 22, 0, 0, 0), (18, .ldc2_w 486, 3, 0, 0, 0, (-2)), (21, .lreturn, 1, 0, 0, 0, 0), (22, .aload_n 0, 1, 0, 0, 0, 0), (23, .invokevirtual 121, 3, 179, 11000, 0, 0), (26, .bipush 8, 2, 0, 0, 8, 0), (28, .if_icmp .le 7, 3, 35, 0, 0, 0), (31, .ldc2_w 488, 3, 0, 0, 0, (-3)), (34, .lreturn, 1, 0, 0, 0, 0), (35, .aload_n 0, 1, 0, 0, 0, 0), (36, .iload_n 1, 1, 1, 0, 0, 0), (37, .invokevirtual 490, 3, 309, 11014, 0, 0), (40, .aload_n 0, 1, 0, 0, 0, 0), (41, .getfield 480, 3, 11, 43, 0, 0), (44, .aload_n 0, 1, 0, 0, 0, 0), (45, .getfield 476, 3, 11, 42, 0, 0), (48, .iload_n 2, 1, 2, 0, 0, 0), (49, .invokestatic 465, 3, 303, 37, 0, 0), (52, .lreturn, 1, 0, 0, 0, 0)]
def cd310 : List am_E := cd310_0
def am_w310 : List (List (Int32 × Nat) × Nat) := []
set_option maxRecDepth 100000 in
theorem kcd310_0 : cd310_0.all (am_chk am_w310 310) = true := by decide +kernel
theorem am_k310 : cd310.all (am_chk am_w310 310) = true := by
  simp only [cd310, List.all_append, kcd310_0, Bool.and_self]
theorem am_r310 : am_rtc 310 = 2 := by decide +kernel
theorem am_l310 : am_ml 310 = 3 := by decide +kernel
def am_s310_ (z : Nat) : Nat → List aV → aM → Option aR := (am_sm 170 (F170 z) (am_sm 179 (F179 z) (am_sm 182 (F182 z) (am_sm 303 (F303 z) (am_sm 309 (F309 z) am_s0)))))
theorem hs310 (z : Nat) : ∀ j2 : Nat, ∃ d2 : Nat, d2 + 1 ≤ 11 ∧ am_Snd d2 j2 (am_s310_ z j2) := (am_sm_ok (S170 z) (by decide) (am_sm_ok (S179 z) (by decide) (am_sm_ok (S182 z) (by decide) (am_sm_ok (S303 z) (by decide) (am_sm_ok (S309 z) (by decide) (am_s0_ok (by decide)))))))
/-- ArgumentMenderModel.chance(II)J -/
def f310 (z : Nat) (x1 : Int32) (x2 : Int32) (M : aM) : Option aR :=
  am_bi (f182 z x1 M) fun v2 M1 =>
    if v2 = 0 then
      some (some (.inr (.inl (-2 : Int64))), M1)
    else
      am_bi (f170 z (Int32.toInt64 x2) (0 : Int64) (1 : Int64) M1) fun v4 M3 =>
        if ¬ v4 = 0 then
          am_bi (f179 z M3) fun v6 M5 =>
            if v6 ≤ (8 : Int32) then
              am_bv (f309 z x1 M5) fun M7 =>
                am_bl (f303 z (M7.2 205 43) (M7.2 205 42) x2 M7) fun v9 M8 =>
                  some (some (.inr (.inl v9)), M8)
            else
              some (some (.inr (.inl (-3 : Int64))), M5)
        else
          some (some (.inr (.inl (-2 : Int64))), M3)
set_option maxRecDepth 100000 in
set_option maxHeartbeats 4000000 in
theorem e310 (z : Nat) : ∀ (x1 : Int32) (x2 : Int32) (M : aM) (r : aR), f310 z x1 x2 M = some r → am_Ev 11 310 0 [some (.inr (.inr (11, 205))), some (.inl x1), some (.inl x2)] [] M r := by
  intro x1 x2 M r h
  exact am_Ev_seg (sem := am_s310_ z) (cut := ([] : List (Nat × List Bool))) (hs310 z) am_r310 am_k310 (by rw [am_l310]; decide) am_k0 25 h am_k0_ok
def F310 (z : Nat) (as : List aV) (M : aM) : Option aR := match as with
  | [.inr (.inr (11, 205)), .inl x1, .inl x2] => f310 z x1 x2 M
  | _ => none
theorem S310 (z : Nat) : am_Snd 11 310 (F310 z) := am_meth (by decide +kernel) (fun as M r has h => by
    rw [am_l310]
    unfold F310 at h
    split at h
    · exact ⟨Nat.le_of_ble_eq_true rfl, e310 z _ _ _ _ h⟩
    · cases h)
