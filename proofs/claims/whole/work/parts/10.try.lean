def cd7_0 : List am_E := [(0, .aload_n 0, 1, 0, 0, 0, 0), (1, .getfield 43, 3, 1, 0, 0, 0), (4, .ifCond .le 7, 3, 11, 0, 0, 0), (7, .iconst 1, 1, 0, 0, 1, 0), (8, .goto 4, 3, 12, 0, 0, 0), (11, .iconst 0, 1, 0, 0, 0, 0), (12, .ireturn, 1, 0, 0, 0, 0)]
def cd7 : List am_E := cd7_0
def am_w7 : List (List (Int32 × Nat) × Nat) := []
set_option maxRecDepth 100000 in
theorem kcd7_0 : cd7_0.all (am_chk am_w7 7) = true := by decide +kernel
theorem am_k7 : cd7.all (am_chk am_w7 7) = true := by
  simp only [cd7, List.all_append, kcd7_0, Bool.and_self]
theorem am_r7 : am_rtc 7 = 1 := by decide +kernel
theorem am_l7 : am_ml 7 = 1 := by decide +kernel
def am_s7_ (z : Nat) : Nat → List aV → aM → Option aR := am_s0
theorem hs7 (z : Nat) : ∀ j2 : Nat, ∃ d2 : Nat, d2 + 1 ≤ 1 ∧ am_Snd d2 j2 (am_s7_ z j2) := (am_s0_ok (by decide))
/-- ArgumentMender$Cloth.isThere()Z -/
def f7 (z : Nat) (c0 : Nat) (M : aM) : Option aR :=
  if (M.1 c0 0) ≤ 0 then
    some (some (.inl (0 &&& 1)), M)
  else
    some (some (.inl (1 &&& 1)), M)
set_option maxRecDepth 100000 in
set_option maxHeartbeats 4000000 in
theorem e7 (z : Nat) : ∀ (c0 : Nat) (M : aM) (r : aR), f7 z c0 M = some r → am_Ev 1 7 0 [some (.inr (.inr (1, c0)))] [] M r := by
  intro c0 M r h
  exact am_Ev_seg (sem := am_s7_ z) (cut := ([] : List (Nat × List Bool))) (hs7 z) am_r7 am_k7 (by rw [am_l7]; decide) am_k0 7 h am_k0_ok
def F7 (z : Nat) (as : List aV) (M : aM) : Option aR := match as with
  | [.inr (.inr (1, c0))] => f7 z c0 M
  | _ => none
theorem S7 (z : Nat) : am_Snd 1 7 (F7 z) := am_meth (by decide +kernel) (fun as M r has h => by
    rw [am_l7]
    unfold F7 at h
    split at h
    · exact ⟨Nat.le_of_ble_eq_true rfl, e7 z _ _ _ h⟩
    · cases h)
def cd8_0 : List am_E := [(0, .iload_n 1, 1, 1, 0, 0, 0), (1, .ifCond .lt 15, 3, 16, 0, 0, 0), (4, .iload_n 1, 1, 1, 0, 0, 0), (5, .aload_n 0, 1, 0, 0, 0, 0), (6, .getfield 56, 3, 1, 4, 0, 0), (9, .if_icmp .ge 7, 3, 16, 0, 0, 0), (12, .iconst 1, 1, 0, 0, 1, 0), (13, .goto 4, 3, 17, 0, 0, 0), (16, .iconst 0, 1, 0, 0, 0, 0), (17, .ireturn, 1, 0, 0, 0, 0)]
def cd8 : List am_E := cd8_0
def am_w8 : List (List (Int32 × Nat) × Nat) := []
set_option maxRecDepth 100000 in
theorem kcd8_0 : cd8_0.all (am_chk am_w8 8) = true := by decide +kernel
theorem am_k8 : cd8.all (am_chk am_w8 8) = true := by
  simp only [cd8, List.all_append, kcd8_0, Bool.and_self]
theorem am_r8 : am_rtc 8 = 1 := by decide +kernel
theorem am_l8 : am_ml 8 = 2 := by decide +kernel
def am_s8_ (z : Nat) : Nat → List aV → aM → Option aR := am_s0
theorem hs8 (z : Nat) : ∀ j2 : Nat, ∃ d2 : Nat, d2 + 1 ≤ 1 ∧ am_Snd d2 j2 (am_s8_ z j2) := (am_s0_ok (by decide))
/-- ArgumentMender$Cloth.hasClaim(I)Z -/
def f8 (z : Nat) (c0 : Nat) (x1 : Int32) (M : aM) : Option aR :=
  if x1 < 0 then
    some (some (.inl (0 &&& 1)), M)
  else
    if (M.1 c0 4) ≤ x1 then
      some (some (.inl (0 &&& 1)), M)
    else
      some (some (.inl (1 &&& 1)), M)
set_option maxRecDepth 100000 in
set_option maxHeartbeats 4000000 in
theorem e8 (z : Nat) : ∀ (c0 : Nat) (x1 : Int32) (M : aM) (r : aR), f8 z c0 x1 M = some r → am_Ev 1 8 0 [some (.inr (.inr (1, c0))), some (.inl x1)] [] M r := by
  intro c0 x1 M r h
  exact am_Ev_seg (sem := am_s8_ z) (cut := ([] : List (Nat × List Bool))) (hs8 z) am_r8 am_k8 (by rw [am_l8]; decide) am_k0 10 h am_k0_ok
def F8 (z : Nat) (as : List aV) (M : aM) : Option aR := match as with
  | [.inr (.inr (1, c0)), .inl x1] => f8 z c0 x1 M
  | _ => none
theorem S8 (z : Nat) : am_Snd 1 8 (F8 z) := am_meth (by decide +kernel) (fun as M r has h => by
    rw [am_l8]
    unfold F8 at h
    split at h
    · exact ⟨Nat.le_of_ble_eq_true rfl, e8 z _ _ _ _ h⟩
    · cases h)
def cd11_0 : List am_E := [(0, .aload_n 0, 1, 0, 0, 0, 0), (1, .invokevirtual 78, 3, 7, 1000, 0, 0), (4, .ifCond .eq 19, 3, 23, 0, 0, 0), (7, .iload_n 1, 1, 1, 0, 0, 0), (8, .ifCond .lt 15, 3, 23, 0, 0, 0), (11, .iload_n 1, 1, 1, 0, 0, 0), (12, .aload_n 0, 1, 0, 0, 0, 0), (13, .getfield 47, 3, 1, 1, 0, 0), (16, .if_icmp .gt 7, 3, 23, 0, 0, 0), (19, .iconst 1, 1, 0, 0, 1, 0), (20, .goto 4, 3, 24, 0, 0, 0), (23, .iconst 0, 1, 0, 0, 0, 0), (24, .ireturn, 1, 0, 0, 0, 0)]
def cd11 : List am_E := cd11_0
def am_w11 : List (List (Int32 × Nat) × Nat) := []
set_option maxRecDepth 100000 in
theorem kcd11_0 : cd11_0.all (am_chk am_w11 11) = true := by decide +kernel
theorem am_k11 : cd11.all (am_chk am_w11 11) = true := by
  simp only [cd11, List.all_append, kcd11_0, Bool.and_self]
theorem am_r11 : am_rtc 11 = 1 := by decide +kernel
theorem am_l11 : am_ml 11 = 2 := by decide +kernel
def am_s11_ (z : Nat) : Nat → List aV → aM → Option aR := (am_sm 7 (F7 z) am_s0)
theorem hs11 (z : Nat) : ∀ j2 : Nat, ∃ d2 : Nat, d2 + 1 ≤ 2 ∧ am_Snd d2 j2 (am_s11_ z j2) := (am_sm_ok (S7 z) (by decide) (am_s0_ok (by decide)))
/-- ArgumentMender$Cloth.hasYear(I)Z -/
def f11 (z : Nat) (c0 : Nat) (x1 : Int32) (M : aM) : Option aR :=
  am_bi (f7 z c0 M) fun v2 M1 =>
    if v2 = 0 then
      some (some (.inl (0 &&& 1)), M1)
    else
      if x1 < 0 then
        some (some (.inl (0 &&& 1)), M1)
      else
        if (M1.1 c0 1) < x1 then
          some (some (.inl (0 &&& 1)), M1)
        else
          some (some (.inl (1 &&& 1)), M1)
set_option maxRecDepth 100000 in
set_option maxHeartbeats 4000000 in
theorem e11 (z : Nat) : ∀ (c0 : Nat) (x1 : Int32) (M : aM) (r : aR), f11 z c0 x1 M = some r → am_Ev 2 11 0 [some (.inr (.inr (1, c0))), some (.inl x1)] [] M r := by
  intro c0 x1 M r h
  exact am_Ev_seg (sem := am_s11_ z) (cut := ([] : List (Nat × List Bool))) (hs11 z) am_r11 am_k11 (by rw [am_l11]; decide) am_k0 13 h am_k0_ok
def F11 (z : Nat) (as : List aV) (M : aM) : Option aR := match as with
  | [.inr (.inr (1, c0)), .inl x1] => f11 z c0 x1 M
  | _ => none
theorem S11 (z : Nat) : am_Snd 2 11 (F11 z) := am_meth (by decide +kernel) (fun as M r has h => by
    rw [am_l11]
    unfold F11 at h
    split at h
    · exact ⟨Nat.le_of_ble_eq_true rfl, e11 z _ _ _ _ h⟩
    · cases h)
def cd66_0 : List am_E := [(0, .iconst 0, 1, 0, 0, 0, 0), (1, .istore_n 3, 1, 3, 0, 0, 0), (2, .iconst 0, 1, 0, 0, 0, 0), (3, .istore 4, 2, 4, 0, 0, 0), (5, .iload 4, 2, 4, 0, 0, 0), (7, .aload_n 1, 1, 1, 0, 0, 0), (8, .getfield 26, 3, 1, 4, 0, 0), (11, .if_icmp .ge 87, 3, 98, 0, 0, 0), (14, .aload_n 1, 1, 1, 0, 0, 0), (15, .getfield 18, 3, 1, 14, 0, 0), (18, .iload 4, 2, 4, 0, 0, 0), (20, .iaload, 1, 0, 0, 0, 0), (21, .istore 5, 2, 5, 0, 0, 0), (23, .iload 5, 2, 5, 0, 0, 0), (25, .aload_n 1, 1, 1, 0, 0, 0), (26, .getfield 18, 3, 1, 14, 0, 0), (29, .iload 4, 2, 4, 0, 0, 0), (31, .iconst 1, 1, 0, 0, 1, 0), (32, .iadd, 1, 0, 0, 0, 0), (33, .iaload, 1, 0, 0, 0, 0), (34, .if_icmp .ge 58, 3, 92, 0, 0, 0), (37, .aload_n 1, 1, 1, 0, 0, 0), (38, .getfield 23, 3, 1, 13, 0, 0), (41, .iload 5, 2, 5, 0, 0, 0), (43, .iaload, 1, 0, 0, 0, 0), (44, .istore 6, 2, 6, 0, 0, 0), (46, .aload_n 2, 1, 2, 0, 0, 0), (47, .iload 6, 2, 6, 0, 0, 0), (49, .iaload, 1, 0, 0, 0, 0), (50, .ifCond .le 36, 3, 86, 0, 0, 0), (53, .aload_n 1, 1, 1, 0, 0, 0), (54, .getfield 30, 3, 1, 8, 0, 0), (57, .iload 6, 2, 6, 0, 0, 0), (59, .iaload, 1, 0, 0, 0, 0), (60, .iconst (-1), 1, 0, 0, (-1), 0), (61, .if_icmp .eq 18, 3, 79, 0, 0, 0), (64, .iload_n 3, 1, 3, 0, 0, 0), (65, .aload_n 1, 1, 1, 0, 0, 0), (66, .getfield 30, 3, 1, 8, 0, 0), (69, .iload 6, 2, 6, 0, 0, 0)]
def cd66_1 : List am_E := [(71, .iaload, 1, 0, 0, 0, 0), (72, .ishr, 1, 0, 0, 0, 0), (73, .iconst 1, 1, 0, 0, 1, 0), (74, .iand, 1, 0, 0, 0, 0), (75, .iconst 1, 1, 0, 0, 1, 0), (76, .if_icmp .ne 10, 3, 86, 0, 0, 0), (79, .iload_n 3, 1, 3, 0, 0, 0), (80, .iconst 1, 1, 0, 0, 1, 0), (81, .iload 4, 2, 4, 0, 0, 0), (83, .ishl, 1, 0, 0, 0, 0), (84, .ior, 1, 0, 0, 0, 0), (85, .istore_n 3, 1, 3, 0, 0, 0), (86, .iinc 5 1, 3, 5, 0, 1, 0), (89, .goto (-66), 3, 23, 0, 0, 0), (92, .iinc 4 1, 3, 4, 0, 1, 0), (95, .goto (-90), 3, 5, 0, 0, 0), (98, .iload_n 3, 1, 3, 0, 0, 0), (99, .ireturn, 1, 0, 0, 0, 0)]
def cd66 : List am_E := cd66_0 ++ (cd66_1)
def am_w66 : List (List (Int32 × Nat) × Nat) := []
set_option maxRecDepth 100000 in
theorem kcd66_0 : cd66_0.all (am_chk am_w66 66) = true := by decide +kernel
set_option maxRecDepth 100000 in
theorem kcd66_1 : cd66_1.all (am_chk am_w66 66) = true := by decide +kernel
theorem am_k66 : cd66.all (am_chk am_w66 66) = true := by
  simp only [cd66, List.all_append, kcd66_0, kcd66_1, Bool.and_self]
theorem am_r66 : am_rtc 66 = 0 := by decide +kernel
theorem am_l66 : am_ml 66 = 7 := by decide +kernel
def am_s66_ (z : Nat) : Nat → List aV → aM → Option aR := am_s0
theorem hs66 (z : Nat) : ∀ j2 : Nat, ∃ d2 : Nat, d2 + 1 ≤ 1 ∧ am_Snd d2 j2 (am_s66_ z j2) := (am_s0_ok (by decide))
def f66_23 (z : Nat) (k5 : Nat → Nat → Int32 → Int32 → aM → Option aR) : Nat → Nat → Nat → Int32 → Int32 → Int32 → aM → Option aR
  | 0, _, _, _, _, _, _ => none
  | n + 1, c1, c2, x3, x4, x5, M =>
    if am_inB (x4 + 1) 9 then
      if (M.1 (c1 + 8) (x4 + 1).toNatClampNeg) ≤ x5 then
        k5 c1 c2 x3 (x4 + 1) M
      else
        if am_inB x5 16 then
          if am_inB (M.1 (c1 + 7) x5.toNatClampNeg) 16 then
            if (M.1 c2 (M.1 (c1 + 7) x5.toNatClampNeg).toNatClampNeg) ≤ 0 then
              f66_23 z k5 n c1 c2 x3 x4 (x5 + 1) M
            else
              if am_inB (M.1 (c1 + 7) x5.toNatClampNeg) 16 then
                if (M.1 (c1 + 2) (M.1 (c1 + 7) x5.toNatClampNeg).toNatClampNeg) = (-1) then
                  f66_23 z k5 n c1 c2 (x3 ||| (1 <<< (x4 &&& 31))) x4 (x5 + 1) M
                else
                  if am_inB (M.1 (c1 + 7) x5.toNatClampNeg) 16 then
                    if ¬ ((x3 >>> ((M.1 (c1 + 2) (M.1 (c1 + 7) x5.toNatClampNeg).toNatClampNeg) &&& 31)) &&& 1) = 1 then
                      f66_23 z k5 n c1 c2 x3 x4 (x5 + 1) M
                    else
                      f66_23 z k5 n c1 c2 (x3 ||| (1 <<< (x4 &&& 31))) x4 (x5 + 1) M
                  else
                    none
              else
                none
          else
            none
        else
          none
    else
      none
set_option maxRecDepth 100000 in
set_option maxHeartbeats 4000000 in
theorem e66_23 (z : Nat) (k5 : Nat → Nat → Int32 → Int32 → aM → Option aR) (hk5 : ∀ (c1 : Nat) (c2 : Nat) (x3 : Int32) (x4 : Int32) (M : aM) (r : aR), k5 c1 c2 x3 x4 M = some r → am_Ev 1 66 5 [none, some (.inr (.inr (1, c1))), some (.inr (.inr (21, c2))), some (.inl x3), some (.inl x4), none, none] [] M r) : ∀ (n : Nat) (c1 : Nat) (c2 : Nat) (x3 : Int32) (x4 : Int32) (x5 : Int32) (M : aM) (r : aR), f66_23 z k5 n c1 c2 x3 x4 x5 M = some r → am_Ev 1 66 23 [none, some (.inr (.inr (1, c1))), some (.inr (.inr (21, c2))), some (.inl x3), some (.inl x4), some (.inl x5), none] [] M r := by
  intro n
  induction n with
  | zero =>
    intro c1 c2 x3 x4 x5 M r h
    cases h
  | succ n ih =>
    intro c1 c2 x3 x4 x5 M r h
    exact am_Ev_seg (sem := am_s66_ z) (cut := ([(5, [false, true, true, true, true, false, false]), (23, [false, true, true, true, true, true, false])] : List (Nat × List Bool))) (hs66 z) am_r66 am_k66 (by rw [am_l66]; decide) (am_kc 5 (fun al st M => match al, st with
      | [none, some (.inr (.inr (1, c1))), some (.inr (.inr (21, c2))), some (.inl x3), some (.inl x4), none, none], [] => k5 c1 c2 x3 x4 M
      | _, _ => none) (am_kc 23 (fun al st M => match al, st with
      | [none, some (.inr (.inr (1, c1))), some (.inr (.inr (21, c2))), some (.inl x3), some (.inl x4), some (.inl x5), none], [] => f66_23 z k5 n c1 c2 x3 x4 x5 M
      | _, _ => none) am_k0)) 43 h (am_kc_ok (fun al st M hk => by
      split at hk
      · exact hk5 _ _ _ _ _ _ hk
      · cases hk) (am_kc_ok (fun al st M hk => by
      split at hk
      · exact ih _ _ _ _ _ _ _ hk
      · cases hk) am_k0_ok))
def f66_5 (z : Nat) : Nat → Nat → Nat → Int32 → Int32 → aM → Option aR
  | 0, _, _, _, _, _ => none
  | n + 1, c1, c2, x3, x4, M =>
    if (M.1 c1 4) ≤ x4 then
      some (some (.inl x3), M)
    else
      if am_inB x4 9 then
        f66_23 z (f66_5 z n) z c1 c2 x3 x4 (M.1 (c1 + 8) x4.toNatClampNeg) M
      else
        none
set_option maxRecDepth 100000 in
set_option maxHeartbeats 4000000 in
theorem e66_5 (z : Nat) : ∀ (n : Nat) (c1 : Nat) (c2 : Nat) (x3 : Int32) (x4 : Int32) (M : aM) (r : aR), f66_5 z n c1 c2 x3 x4 M = some r → am_Ev 1 66 5 [none, some (.inr (.inr (1, c1))), some (.inr (.inr (21, c2))), some (.inl x3), some (.inl x4), none, none] [] M r := by
  intro n
  induction n with
  | zero =>
    intro c1 c2 x3 x4 M r h
    cases h
  | succ n ih =>
    intro c1 c2 x3 x4 M r h
    exact am_Ev_seg (sem := am_s66_ z) (cut := ([(23, [false, true, true, true, true, true, false])] : List (Nat × List Bool))) (hs66 z) am_r66 am_k66 (by rw [am_l66]; decide) (am_kc 23 (fun al st M => match al, st with
      | [none, some (.inr (.inr (1, c1))), some (.inr (.inr (21, c2))), some (.inl x3), some (.inl x4), some (.inl x5), none], [] => f66_23 z (f66_5 z n) z c1 c2 x3 x4 x5 M
      | _, _ => none) am_k0) 11 h (am_kc_ok (fun al st M hk => by
      split at hk
      · exact e66_23 z _ ih _ _ _ _ _ _ _ _ hk
      · cases hk) am_k0_ok)
/-- ArgumentMender$Web.hanging(LArgumentMender$Cloth;[I)I -/
def f66 (z : Nat) (c0 : Nat) (c1 : Nat) (c2 : Nat) (M : aM) : Option aR :=
  f66_5 z z c1 c2 0 0 M
set_option maxRecDepth 100000 in
set_option maxHeartbeats 4000000 in
theorem e66 (z : Nat) : ∀ (c0 : Nat) (c1 : Nat) (c2 : Nat) (M : aM) (r : aR), f66 z c0 c1 c2 M = some r → am_Ev 1 66 0 [some (.inr (.inr (8, c0))), some (.inr (.inr (1, c1))), some (.inr (.inr (21, c2))), none, none, none, none] [] M r := by
  intro c0 c1 c2 M r h
  exact am_Ev_seg (sem := am_s66_ z) (cut := ([(5, [false, true, true, true, true, false, false])] : List (Nat × List Bool))) (hs66 z) am_r66 am_k66 (by rw [am_l66]; decide) (am_kc 5 (fun al st M => match al, st with
      | [none, some (.inr (.inr (1, c1))), some (.inr (.inr (21, c2))), some (.inl x3), some (.inl x4), none, none], [] => f66_5 z z c1 c2 x3 x4 M
      | _, _ => none) am_k0) 6 h (am_kc_ok (fun al st M hk => by
      split at hk
      · exact e66_5 z _ _ _ _ _ _ _ hk
      · cases hk) am_k0_ok)
def F66 (z : Nat) (as : List aV) (M : aM) : Option aR := match as with
  | [.inr (.inr (8, c0)), .inr (.inr (1, c1)), .inr (.inr (21, c2))] => f66 z c0 c1 c2 M
  | _ => none
theorem S66 (z : Nat) : am_Snd 1 66 (F66 z) := am_meth (by decide +kernel) (fun as M r has h => by
    rw [am_l66]
    unfold F66 at h
    split at h
    · exact ⟨Nat.le_of_ble_eq_true rfl, e66 z _ _ _ _ _ h⟩
    · cases h)
def cd171_0 : List am_E := [(0, .iconst 0, 1, 0, 0, 0, 0), (1, .istore_n 1, 1, 1, 0, 0, 0), (2, .iconst 0, 1, 0, 0, 0, 0), (3, .istore_n 2, 1, 2, 0, 0, 0), (4, .iload_n 2, 1, 2, 0, 0, 0), (5, .bipush 16, 2, 0, 0, 16, 0), (7, .if_icmp .ge 17, 3, 24, 0, 0, 0), (10, .iload_n 1, 1, 1, 0, 0, 0), (11, .iload_n 0, 1, 0, 0, 0, 0), (12, .iload_n 2, 1, 2, 0, 0, 0), (13, .ishr, 1, 0, 0, 0, 0), (14, .iconst 1, 1, 0, 0, 1, 0), (15, .iand, 1, 0, 0, 0, 0), (16, .iadd, 1, 0, 0, 0, 0), (17, .istore_n 1, 1, 1, 0, 0, 0), (18, .iinc 2 1, 3, 2, 0, 1, 0), (21, .goto (-17), 3, 4, 0, 0, 0), (24, .iload_n 1, 1, 1, 0, 0, 0), (25, .ireturn, 1, 0, 0, 0, 0)]
def cd171 : List am_E := cd171_0
def am_w171 : List (List (Int32 × Nat) × Nat) := []
set_option maxRecDepth 100000 in
theorem kcd171_0 : cd171_0.all (am_chk am_w171 171) = true := by decide +kernel
theorem am_k171 : cd171.all (am_chk am_w171 171) = true := by
  simp only [cd171, List.all_append, kcd171_0, Bool.and_self]
theorem am_r171 : am_rtc 171 = 0 := by decide +kernel
theorem am_l171 : am_ml 171 = 3 := by decide +kernel
def am_s171_ (z : Nat) : Nat → List aV → aM → Option aR := am_s0
theorem hs171 (z : Nat) : ∀ j2 : Nat, ∃ d2 : Nat, d2 + 1 ≤ 1 ∧ am_Snd d2 j2 (am_s171_ z j2) := (am_s0_ok (by decide))
def f171_4 (z : Nat) : Nat → Int32 → Int32 → Int32 → aM → Option aR
  | 0, _, _, _, _ => none
  | n + 1, x0, x1, x2, M =>
    if 16 ≤ x2 then
      some (some (.inl x1), M)
    else
      f171_4 z n x0 (x1 + ((x0 >>> (x2 &&& 31)) &&& 1)) (x2 + 1) M
set_option maxRecDepth 100000 in
set_option maxHeartbeats 4000000 in
theorem e171_4 (z : Nat) : ∀ (n : Nat) (x0 : Int32) (x1 : Int32) (x2 : Int32) (M : aM) (r : aR), f171_4 z n x0 x1 x2 M = some r → am_Ev 1 171 4 [some (.inl x0), some (.inl x1), some (.inl x2)] [] M r := by
  intro n
  induction n with
  | zero =>
    intro x0 x1 x2 M r h
    cases h
  | succ n ih =>
    intro x0 x1 x2 M r h
    exact am_Ev_seg (sem := am_s171_ z) (cut := ([(4, [true, true, true])] : List (Nat × List Bool))) (hs171 z) am_r171 am_k171 (by rw [am_l171]; decide) (am_kc 4 (fun al st M => match al, st with
      | [some (.inl x0), some (.inl x1), some (.inl x2)], [] => f171_4 z n x0 x1 x2 M
      | _, _ => none) am_k0) 15 h (am_kc_ok (fun al st M hk => by
      split at hk
      · exact ih _ _ _ _ _ hk
      · cases hk) am_k0_ok)
/-- ArgumentMenderModel.bits(I)I -/
def f171 (z : Nat) (x0 : Int32) (M : aM) : Option aR :=
  f171_4 z z x0 0 0 M
set_option maxRecDepth 100000 in
set_option maxHeartbeats 4000000 in
theorem e171 (z : Nat) : ∀ (x0 : Int32) (M : aM) (r : aR), f171 z x0 M = some r → am_Ev 1 171 0 [some (.inl x0), none, none] [] M r := by
  intro x0 M r h
  exact am_Ev_seg (sem := am_s171_ z) (cut := ([(4, [true, true, true])] : List (Nat × List Bool))) (hs171 z) am_r171 am_k171 (by rw [am_l171]; decide) (am_kc 4 (fun al st M => match al, st with
      | [some (.inl x0), some (.inl x1), some (.inl x2)], [] => f171_4 z z x0 x1 x2 M
      | _, _ => none) am_k0) 6 h (am_kc_ok (fun al st M hk => by
      split at hk
      · exact e171_4 z _ _ _ _ _ _ hk
      · cases hk) am_k0_ok)
def F171 (z : Nat) (as : List aV) (M : aM) : Option aR := match as with
  | [.inl x0] => f171 z x0 M
  | _ => none
theorem S171 (z : Nat) : am_Snd 1 171 (F171 z) := am_meth (by decide +kernel) (fun as M r has h => by
    rw [am_l171]
    unfold F171 at h
    split at h
    · exact ⟨Nat.le_of_ble_eq_true rfl, e171 z _ _ _ h⟩
    · cases h)
