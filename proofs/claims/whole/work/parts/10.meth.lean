def cd1_0 : List am_E := [(0, .aload_n 0, 1, 0, 0, 0, 0), (1, .getfield 24, 3, 0, 0, 0, 0), (4, .bipush 30, 2, 0, 0, 30, 0), (6, .if_icmp .lt 5, 3, 11, 0, 0, 0), (9, .iconst 0, 1, 0, 0, 0, 0), (10, .ireturn, 1, 0, 0, 0, 0), (11, .aload_n 0, 1, 0, 0, 0, 0), (12, .getfield 9, 3, 0, 1, 0, 0), (15, .aload_n 0, 1, 0, 0, 0, 0), (16, .getfield 24, 3, 0, 0, 0, 0), (19, .iload_n 1, 1, 1, 0, 0, 0), (20, .iastore, 1, 0, 0, 0, 0), (21, .aload_n 0, 1, 0, 0, 0, 0), (22, .getfield 15, 3, 0, 2, 0, 0), (25, .aload_n 0, 1, 0, 0, 0, 0), (26, .getfield 24, 3, 0, 0, 0, 0), (29, .iload_n 2, 1, 2, 0, 0, 0), (30, .iastore, 1, 0, 0, 0, 0), (31, .aload_n 0, 1, 0, 0, 0, 0), (32, .getfield 18, 3, 0, 3, 0, 0), (35, .aload_n 0, 1, 0, 0, 0, 0), (36, .getfield 24, 3, 0, 0, 0, 0), (39, .iload_n 3, 1, 3, 0, 0, 0), (40, .iastore, 1, 0, 0, 0, 0), (41, .aload_n 0, 1, 0, 0, 0, 0), (42, .getfield 21, 3, 0, 4, 0, 0), (45, .aload_n 0, 1, 0, 0, 0, 0), (46, .getfield 24, 3, 0, 0, 0, 0), (49, .iload 4, 2, 4, 0, 0, 0), (51, .iastore, 1, 0, 0, 0, 0), (52, .aload_n 0, 1, 0, 0, 0, 0), (53, .dup, 1, 0, 0, 0, 0), (54, .getfield 24, 3, 0, 0, 0, 0), (57, .iconst 1, 1, 0, 0, 1, 0), (58, .iadd, 1, 0, 0, 0, 0), (59, .putfield 24, 3, 0, 0, 0, 0), (62, .iconst 1, 1, 0, 0, 1, 0), (63, .ireturn, 1, 0, 0, 0, 0)]
def cd1 : List am_E := cd1_0
def am_w1 : List (List (Int32 × Nat) × Nat) := []
set_option maxRecDepth 100000 in
theorem kcd1_0 : cd1_0.all (am_chk am_w1 1) = true := by decide +kernel
theorem am_k1 : cd1.all (am_chk am_w1 1) = true := by
  simp only [cd1, List.all_append, kcd1_0, Bool.and_self]
theorem am_r1 : am_rtc 1 = 1 := by decide +kernel
theorem am_l1 : am_ml 1 = 5 := by decide +kernel
def am_s1_ (z : Nat) : Nat → List aV → aM → Option aR := fun j => (fun _ _ => none)
theorem hs1 (z : Nat) : ∀ j2 : Nat, ∃ d2 : Nat, d2 + 1 ≤ 1 ∧ am_Snd d2 j2 (am_s1_ z j2) := by
  intro j2
  unfold am_s1_
  exact ⟨0, by decide, am_Snd_no j2⟩
def f1_52 (z : Nat)  (c0 : Nat) (M : aM) : Option aR :=
  let I1 := am_u M.1 c0 0 ((M.1 c0 0) + (1 : Int32))
  some (some (.inl ((1 : Int32) &&& 1)), (I1, M.2))
set_option maxRecDepth 100000 in
set_option maxHeartbeats 4000000 in
theorem e1_52 (z : Nat) : ∀ (c0 : Nat) (M : aM) (r : aR), f1_52 z c0 M = some r → am_Ev 1 1 52 [some (.inr (.inr (0, c0))), none, none, none, none] [] M r := by
  intro c0 M r h
  exact am_Ev_seg (sem := am_s1_ z) (cut := ([] : List (Nat × List Bool))) (hs1 z) am_r1 am_k1 (by rw [am_l1]; decide) (fun _ _ _ _ => none) 9 h (fun _ _ _ _ hk => by cases hk)
/-- ArgumentMender$Acts.append(IIII)Z -/
def f1 (z : Nat) (c0 : Nat) (x1 : Int32) (x2 : Int32) (x3 : Int32) (x4 : Int32) (M : aM) : Option aR :=
  if (M.1 c0 0) < (30 : Int32) then
    if am_inB (M.1 c0 0) 30 then
      let I1 := am_u M.1 (c0 + 1) (M.1 c0 0).toNatClampNeg x1
      if am_inB (I1 c0 0) 30 then
        let I2 := am_u I1 (c0 + 2) (I1 c0 0).toNatClampNeg x2
        if am_inB (I2 c0 0) 30 then
          let I3 := am_u I2 (c0 + 3) (I2 c0 0).toNatClampNeg x3
          if am_inB (I3 c0 0) 30 then
            let I4 := am_u I3 (c0 + 4) (I3 c0 0).toNatClampNeg x4
            f1_52 z c0 (I4, M.2)
          else
            none
        else
          none
      else
        none
    else
      none
  else
    some (some (.inl ((0 : Int32) &&& 1)), M)
set_option maxRecDepth 100000 in
set_option maxHeartbeats 4000000 in
theorem e1 (z : Nat) : ∀ (c0 : Nat) (x1 : Int32) (x2 : Int32) (x3 : Int32) (x4 : Int32) (M : aM) (r : aR), f1 z c0 x1 x2 x3 x4 M = some r → am_Ev 1 1 0 [some (.inr (.inr (0, c0))), some (.inl x1), some (.inl x2), some (.inl x3), some (.inl x4)] [] M r := by
  intro c0 x1 x2 x3 x4 M r h
  exact am_Ev_seg (sem := am_s1_ z) (cut := ([(52, [true, false, false, false, false])] : List (Nat × List Bool))) (hs1 z) am_r1 am_k1 (by rw [am_l1]; decide) (fun pc al st M => (match Nat.beq pc 52 with
      | true => (match al, st with
        | [some (.inr (.inr (0, c0))), none, none, none, none], [] => f1_52 z c0 M
        | _, _ => none)
      | false => none)) 30 h (fun pc al st M hk => by
      try dsimp only at hk
      split at hk
      · rename_i he
        rw [am_beq he]
        split at hk
        · exact e1_52 z _ _ _ hk
        · cases hk
      · cases hk)
def F1 (z : Nat) (as : List aV) (M : aM) : Option aR := match as with
  | [.inr (.inr (0, c0)), .inl x1, .inl x2, .inl x3, .inl x4] => f1 z c0 x1 x2 x3 x4 M
  | _ => none
theorem S1 (z : Nat) : am_Snd 1 1 (F1 z) := am_meth (by decide +kernel) (fun as M r has h => by
    rw [am_l1]
    unfold F1 at h
    split at h
    · exact ⟨Nat.le_of_ble_eq_true rfl, e1 z _ _ _ _ _ _ _ h⟩
    · cases h)
def cd2_0 : List am_E := [(0, .aload_n 0, 1, 0, 0, 0, 0), (1, .aload_n 1, 1, 1, 0, 0, 0), (2, .getfield 24, 3, 0, 0, 0, 0), (5, .putfield 24, 3, 0, 0, 0, 0), (8, .aload_n 1, 1, 1, 0, 0, 0), (9, .getfield 9, 3, 0, 1, 0, 0), (12, .iconst 0, 1, 0, 0, 0, 0), (13, .aload_n 0, 1, 0, 0, 0, 0), (14, .getfield 9, 3, 0, 1, 0, 0), (17, .iconst 0, 1, 0, 0, 0, 0), (18, .bipush 30, 2, 0, 0, 30, 0), (20, .invokestatic 28, 3, 0, 1, 0, 0), (23, .aload_n 1, 1, 1, 0, 0, 0), (24, .getfield 15, 3, 0, 2, 0, 0), (27, .iconst 0, 1, 0, 0, 0, 0), (28, .aload_n 0, 1, 0, 0, 0, 0), (29, .getfield 15, 3, 0, 2, 0, 0), (32, .iconst 0, 1, 0, 0, 0, 0), (33, .bipush 30, 2, 0, 0, 30, 0), (35, .invokestatic 28, 3, 0, 1, 0, 0), (38, .aload_n 1, 1, 1, 0, 0, 0), (39, .getfield 18, 3, 0, 3, 0, 0), (42, .iconst 0, 1, 0, 0, 0, 0), (43, .aload_n 0, 1, 0, 0, 0, 0), (44, .getfield 18, 3, 0, 3, 0, 0), (47, .iconst 0, 1, 0, 0, 0, 0), (48, .bipush 30, 2, 0, 0, 30, 0), (50, .invokestatic 28, 3, 0, 1, 0, 0), (53, .aload_n 1, 1, 1, 0, 0, 0), (54, .getfield 21, 3, 0, 4, 0, 0), (57, .iconst 0, 1, 0, 0, 0, 0), (58, .aload_n 0, 1, 0, 0, 0, 0), (59, .getfield 21, 3, 0, 4, 0, 0), (62, .iconst 0, 1, 0, 0, 0, 0), (63, .bipush 30, 2, 0, 0, 30, 0), (65, .invokestatic 28, 3, 0, 1, 0, 0), (68, .return_, 1, 0, 0, 0, 0)]
def cd2 : List am_E := cd2_0
def am_w2 : List (List (Int32 × Nat) × Nat) := []
set_option maxRecDepth 100000 in
theorem kcd2_0 : cd2_0.all (am_chk am_w2 2) = true := by decide +kernel
theorem am_k2 : cd2.all (am_chk am_w2 2) = true := by
  simp only [cd2, List.all_append, kcd2_0, Bool.and_self]
theorem am_r2 : am_rtc 2 = 4 := by decide +kernel
theorem am_l2 : am_ml 2 = 2 := by decide +kernel
def am_s2_ (z : Nat) : Nat → List aV → aM → Option aR := fun j => (fun _ _ => none)
theorem hs2 (z : Nat) : ∀ j2 : Nat, ∃ d2 : Nat, d2 + 1 ≤ 1 ∧ am_Snd d2 j2 (am_s2_ z j2) := by
  intro j2
  unfold am_s2_
  exact ⟨0, by decide, am_Snd_no j2⟩
def f2_68 (z : Nat)  (M : aM) : Option aR :=
  some (none, M)
set_option maxRecDepth 100000 in
set_option maxHeartbeats 4000000 in
theorem e2_68 (z : Nat) : ∀ (M : aM) (r : aR), f2_68 z  M = some r → am_Ev 1 2 68 [none, none] [] M r := by
  intro  M r h
  exact am_Ev_seg (sem := am_s2_ z) (cut := ([] : List (Nat × List Bool))) (hs2 z) am_r2 am_k2 (by rw [am_l2]; decide) (fun _ _ _ _ => none) 2 h (fun _ _ _ _ hk => by cases hk)
def f2_38 (z : Nat)  (c0 : Nat) (c1 : Nat) (M : aM) : Option aR :=
  if am_cpOk (0 : Int32) (0 : Int32) (30 : Int32) 30 30 then
    let I1 := am_ua M.1 (c0 + 3) (va_cpy (M.1 (c1 + 3)) (M.1 (c0 + 3)) (0 : Int32).toNatClampNeg (0 : Int32).toNatClampNeg (30 : Int32).toNatClampNeg)
    if am_cpOk (0 : Int32) (0 : Int32) (30 : Int32) 30 30 then
      let I2 := am_ua I1 (c0 + 4) (va_cpy (I1 (c1 + 4)) (I1 (c0 + 4)) (0 : Int32).toNatClampNeg (0 : Int32).toNatClampNeg (30 : Int32).toNatClampNeg)
      f2_68 z (I2, M.2)
    else
      none
  else
    none
set_option maxRecDepth 100000 in
set_option maxHeartbeats 4000000 in
theorem e2_38 (z : Nat) : ∀ (c0 : Nat) (c1 : Nat) (M : aM) (r : aR), f2_38 z c0 c1 M = some r → am_Ev 1 2 38 [some (.inr (.inr (0, c0))), some (.inr (.inr (0, c1)))] [] M r := by
  intro c0 c1 M r h
  exact am_Ev_seg (sem := am_s2_ z) (cut := ([(68, [false, false])] : List (Nat × List Bool))) (hs2 z) am_r2 am_k2 (by rw [am_l2]; decide) (fun pc al st M => (match Nat.beq pc 68 with
      | true => (match al, st with
        | [none, none], [] => f2_68 z  M
        | _, _ => none)
      | false => none)) 18 h (fun pc al st M hk => by
      try dsimp only at hk
      split at hk
      · rename_i he
        rw [am_beq he]
        split at hk
        · exact e2_68 z _ _ hk
        · cases hk
      · cases hk)
/-- ArgumentMender$Acts.copyFrom(LArgumentMender$Acts;)V -/
def f2 (z : Nat) (c0 : Nat) (c1 : Nat) (M : aM) : Option aR :=
  let I1 := am_u M.1 c0 0 (M.1 c1 0)
  if am_cpOk (0 : Int32) (0 : Int32) (30 : Int32) 30 30 then
    let I2 := am_ua I1 (c0 + 1) (va_cpy (I1 (c1 + 1)) (I1 (c0 + 1)) (0 : Int32).toNatClampNeg (0 : Int32).toNatClampNeg (30 : Int32).toNatClampNeg)
    if am_cpOk (0 : Int32) (0 : Int32) (30 : Int32) 30 30 then
      let I3 := am_ua I2 (c0 + 2) (va_cpy (I2 (c1 + 2)) (I2 (c0 + 2)) (0 : Int32).toNatClampNeg (0 : Int32).toNatClampNeg (30 : Int32).toNatClampNeg)
      f2_38 z c0 c1 (I3, M.2)
    else
      none
  else
    none
set_option maxRecDepth 100000 in
set_option maxHeartbeats 4000000 in
theorem e2 (z : Nat) : ∀ (c0 : Nat) (c1 : Nat) (M : aM) (r : aR), f2 z c0 c1 M = some r → am_Ev 1 2 0 [some (.inr (.inr (0, c0))), some (.inr (.inr (0, c1)))] [] M r := by
  intro c0 c1 M r h
  exact am_Ev_seg (sem := am_s2_ z) (cut := ([(38, [true, true])] : List (Nat × List Bool))) (hs2 z) am_r2 am_k2 (by rw [am_l2]; decide) (fun pc al st M => (match Nat.beq pc 38 with
      | true => (match al, st with
        | [some (.inr (.inr (0, c0))), some (.inr (.inr (0, c1)))], [] => f2_38 z c0 c1 M
        | _, _ => none)
      | false => none)) 22 h (fun pc al st M hk => by
      try dsimp only at hk
      split at hk
      · rename_i he
        rw [am_beq he]
        split at hk
        · exact e2_38 z _ _ _ _ hk
        · cases hk
      · cases hk)
def F2 (z : Nat) (as : List aV) (M : aM) : Option aR := match as with
  | [.inr (.inr (0, c0)), .inr (.inr (0, c1))] => f2 z c0 c1 M
  | _ => none
theorem S2 (z : Nat) : am_Snd 1 2 (F2 z) := am_meth (by decide +kernel) (fun as M r has h => by
    rw [am_l2]
    unfold F2 at h
    split at h
    · exact ⟨Nat.le_of_ble_eq_true rfl, e2 z _ _ _ _ h⟩
    · cases h)
def cd4_0 : List am_E := [(0, .aload_n 0, 1, 0, 0, 0, 0), (1, .iconst 0, 1, 0, 0, 0, 0), (2, .putfield 43, 3, 1, 0, 0, 0), (5, .aload_n 0, 1, 0, 0, 0, 0), (6, .iconst 0, 1, 0, 0, 0, 0), (7, .putfield 47, 3, 1, 1, 0, 0), (10, .aload_n 0, 1, 0, 0, 0, 0), (11, .iconst 0, 1, 0, 0, 0, 0), (12, .putfield 50, 3, 1, 2, 0, 0), (15, .aload_n 0, 1, 0, 0, 0, 0), (16, .iconst 0, 1, 0, 0, 0, 0), (17, .putfield 53, 3, 1, 3, 0, 0), (20, .aload_n 0, 1, 0, 0, 0, 0), (21, .iconst 0, 1, 0, 0, 0, 0), (22, .putfield 56, 3, 1, 4, 0, 0), (25, .aload_n 0, 1, 0, 0, 0, 0), (26, .iconst 0, 1, 0, 0, 0, 0), (27, .putfield 59, 3, 1, 5, 0, 0), (30, .aload_n 0, 1, 0, 0, 0, 0), (31, .iconst 0, 1, 0, 0, 0, 0), (32, .putfield 62, 3, 1, 6, 0, 0), (35, .aload_n 0, 1, 0, 0, 0, 0), (36, .getfield 39, 3, 1, 15, 0, 0), (39, .iconst 0, 1, 0, 0, 0, 0), (40, .putfield 65, 3, 0, 0, 0, 0), (43, .return_, 1, 0, 0, 0, 0)]
def cd4 : List am_E := cd4_0
def am_w4 : List (List (Int32 × Nat) × Nat) := []
set_option maxRecDepth 100000 in
theorem kcd4_0 : cd4_0.all (am_chk am_w4 4) = true := by decide +kernel
theorem am_k4 : cd4.all (am_chk am_w4 4) = true := by
  simp only [cd4, List.all_append, kcd4_0, Bool.and_self]
theorem am_r4 : am_rtc 4 = 4 := by decide +kernel
theorem am_l4 : am_ml 4 = 1 := by decide +kernel
def am_s4_ (z : Nat) : Nat → List aV → aM → Option aR := fun j => (fun _ _ => none)
theorem hs4 (z : Nat) : ∀ j2 : Nat, ∃ d2 : Nat, d2 + 1 ≤ 1 ∧ am_Snd d2 j2 (am_s4_ z j2) := by
  intro j2
  unfold am_s4_
  exact ⟨0, by decide, am_Snd_no j2⟩
def f4_43 (z : Nat)  (M : aM) : Option aR :=
  some (none, M)
set_option maxRecDepth 100000 in
set_option maxHeartbeats 4000000 in
theorem e4_43 (z : Nat) : ∀ (M : aM) (r : aR), f4_43 z  M = some r → am_Ev 1 4 43 [none] [] M r := by
  intro  M r h
  exact am_Ev_seg (sem := am_s4_ z) (cut := ([] : List (Nat × List Bool))) (hs4 z) am_r4 am_k4 (by rw [am_l4]; decide) (fun _ _ _ _ => none) 2 h (fun _ _ _ _ hk => by cases hk)
def f4_20 (z : Nat)  (c0 : Nat) (M : aM) : Option aR :=
  let I1 := am_u M.1 c0 4 (0 : Int32)
  let I2 := am_u I1 c0 5 (0 : Int32)
  let I3 := am_u I2 c0 6 (0 : Int32)
  let I4 := am_u I3 (c0 + 9) 0 (0 : Int32)
  f4_43 z (I4, M.2)
set_option maxRecDepth 100000 in
set_option maxHeartbeats 4000000 in
theorem e4_20 (z : Nat) : ∀ (c0 : Nat) (M : aM) (r : aR), f4_20 z c0 M = some r → am_Ev 1 4 20 [some (.inr (.inr (1, c0)))] [] M r := by
  intro c0 M r h
  exact am_Ev_seg (sem := am_s4_ z) (cut := ([(43, [false])] : List (Nat × List Bool))) (hs4 z) am_r4 am_k4 (by rw [am_l4]; decide) (fun pc al st M => (match Nat.beq pc 43 with
      | true => (match al, st with
        | [none], [] => f4_43 z  M
        | _, _ => none)
      | false => none)) 15 h (fun pc al st M hk => by
      try dsimp only at hk
      split at hk
      · rename_i he
        rw [am_beq he]
        split at hk
        · exact e4_43 z _ _ hk
        · cases hk
      · cases hk)
/-- ArgumentMender$Cloth.clear()V -/
def f4 (z : Nat) (c0 : Nat) (M : aM) : Option aR :=
  let I1 := am_u M.1 c0 0 (0 : Int32)
  let I2 := am_u I1 c0 1 (0 : Int32)
  let I3 := am_u I2 c0 2 (0 : Int32)
  let I4 := am_u I3 c0 3 (0 : Int32)
  f4_20 z c0 (I4, M.2)
set_option maxRecDepth 100000 in
set_option maxHeartbeats 4000000 in
theorem e4 (z : Nat) : ∀ (c0 : Nat) (M : aM) (r : aR), f4 z c0 M = some r → am_Ev 1 4 0 [some (.inr (.inr (1, c0)))] [] M r := by
  intro c0 M r h
  exact am_Ev_seg (sem := am_s4_ z) (cut := ([(20, [true])] : List (Nat × List Bool))) (hs4 z) am_r4 am_k4 (by rw [am_l4]; decide) (fun pc al st M => (match Nat.beq pc 20 with
      | true => (match al, st with
        | [some (.inr (.inr (1, c0)))], [] => f4_20 z c0 M
        | _, _ => none)
      | false => none)) 14 h (fun pc al st M hk => by
      try dsimp only at hk
      split at hk
      · rename_i he
        rw [am_beq he]
        split at hk
        · exact e4_20 z _ _ _ hk
        · cases hk
      · cases hk)
def F4 (z : Nat) (as : List aV) (M : aM) : Option aR := match as with
  | [.inr (.inr (1, c0))] => f4 z c0 M
  | _ => none
theorem S4 (z : Nat) : am_Snd 1 4 (F4 z) := am_meth (by decide +kernel) (fun as M r has h => by
    rw [am_l4]
    unfold F4 at h
    split at h
    · exact ⟨Nat.le_of_ble_eq_true rfl, e4 z _ _ _ h⟩
    · cases h)
def cd5_0 : List am_E := [(0, .iconst 0, 1, 0, 0, 0, 0), (1, .istore_n 1, 1, 1, 0, 0, 0), (2, .iconst 0, 1, 0, 0, 0, 0), (3, .istore_n 2, 1, 2, 0, 0, 0), (4, .iload_n 2, 1, 2, 0, 0, 0), (5, .bipush 8, 2, 0, 0, 8, 0), (7, .if_icmp .ge 52, 3, 59, 0, 0, 0), (10, .aload_n 0, 1, 0, 0, 0, 0), (11, .getfield 33, 3, 1, 14, 0, 0), (14, .iload_n 2, 1, 2, 0, 0, 0), (15, .iload_n 1, 1, 1, 0, 0, 0), (16, .iastore, 1, 0, 0, 0, 0), (17, .iconst 0, 1, 0, 0, 0, 0), (18, .istore_n 3, 1, 3, 0, 0, 0), (19, .iload_n 3, 1, 3, 0, 0, 0), (20, .aload_n 0, 1, 0, 0, 0, 0), (21, .getfield 59, 3, 1, 5, 0, 0), (24, .if_icmp .ge 29, 3, 53, 0, 0, 0), (27, .aload_n 0, 1, 0, 0, 0, 0), (28, .getfield 9, 3, 1, 7, 0, 0), (31, .iload_n 3, 1, 3, 0, 0, 0), (32, .iaload, 1, 0, 0, 0, 0), (33, .iload_n 2, 1, 2, 0, 0, 0), (34, .if_icmp .ne 13, 3, 47, 0, 0, 0), (37, .aload_n 0, 1, 0, 0, 0, 0), (38, .getfield 30, 3, 1, 13, 0, 0), (41, .iload_n 1, 1, 1, 0, 0, 0), (42, .iload_n 3, 1, 3, 0, 0, 0), (43, .iastore, 1, 0, 0, 0, 0), (44, .iinc 1 1, 3, 1, 0, 1, 0), (47, .iinc 3 1, 3, 3, 0, 1, 0), (50, .goto (-31), 3, 19, 0, 0, 0), (53, .iinc 2 1, 3, 2, 0, 1, 0), (56, .goto (-52), 3, 4, 0, 0, 0), (59, .aload_n 0, 1, 0, 0, 0, 0), (60, .getfield 33, 3, 1, 14, 0, 0), (63, .bipush 8, 2, 0, 0, 8, 0), (65, .iload_n 1, 1, 1, 0, 0, 0), (66, .iastore, 1, 0, 0, 0, 0), (67, .return_, 1, 0, 0, 0, 0)]
def cd5 : List am_E := cd5_0
def am_w5 : List (List (Int32 × Nat) × Nat) := []
set_option maxRecDepth 100000 in
theorem kcd5_0 : cd5_0.all (am_chk am_w5 5) = true := by decide +kernel
theorem am_k5 : cd5.all (am_chk am_w5 5) = true := by
  simp only [cd5, List.all_append, kcd5_0, Bool.and_self]
theorem am_r5 : am_rtc 5 = 4 := by decide +kernel
theorem am_l5 : am_ml 5 = 4 := by decide +kernel
def am_s5_ (z : Nat) : Nat → List aV → aM → Option aR := fun j => (fun _ _ => none)
theorem hs5 (z : Nat) : ∀ j2 : Nat, ∃ d2 : Nat, d2 + 1 ≤ 1 ∧ am_Snd d2 j2 (am_s5_ z j2) := by
  intro j2
  unfold am_s5_
  exact ⟨0, by decide, am_Snd_no j2⟩
def f5_19 (z : Nat) (k4 : Nat → Int32 → Int32 → aM → Option aR) : Nat → Nat → Int32 → Int32 → Int32 → aM → Option aR
  | 0, _, _, _, _, _ => none
  | n + 1, c0, x1, x2, x3, M =>
    if (M.1 c0 5) ≤ x3 then
      k4 c0 x1 (x2 + (1 : Int32)) M
    else
      if am_inB x3 16 then
        if ¬ (M.1 (c0 + 1) x3.toNatClampNeg) = x2 then
          f5_19 z k4 n c0 x1 x2 (x3 + (1 : Int32)) M
        else
          if am_inB x1 16 then
            let I1 := am_u M.1 (c0 + 7) x1.toNatClampNeg x3
            f5_19 z k4 n c0 (x1 + (1 : Int32)) x2 (x3 + (1 : Int32)) (I1, M.2)
          else
            none
      else
        none
set_option maxRecDepth 100000 in
set_option maxHeartbeats 4000000 in
theorem e5_19 (z : Nat) (k4 : Nat → Int32 → Int32 → aM → Option aR) (hk4 : ∀ (c0 : Nat) (x1 : Int32) (x2 : Int32) (M : aM) (r : aR), k4 c0 x1 x2 M = some r → am_Ev 1 5 4 [some (.inr (.inr (1, c0))), some (.inl x1), some (.inl x2), none] [] M r) : ∀ (n : Nat) (c0 : Nat) (x1 : Int32) (x2 : Int32) (x3 : Int32) (M : aM) (r : aR), f5_19 z k4 n c0 x1 x2 x3 M = some r → am_Ev 1 5 19 [some (.inr (.inr (1, c0))), some (.inl x1), some (.inl x2), some (.inl x3)] [] M r := by
  intro n
  induction n with
  | zero =>
    intro c0 x1 x2 x3 M r h
    cases h
  | succ n ih =>
    intro c0 x1 x2 x3 M r h
    exact am_Ev_seg (sem := am_s5_ z) (cut := ([(4, [true, true, true, false]), (19, [true, true, true, true])] : List (Nat × List Bool))) (hs5 z) am_r5 am_k5 (by rw [am_l5]; decide) (fun pc al st M => (match Nat.beq pc 4 with
      | true => (match al, st with
        | [some (.inr (.inr (1, c0))), some (.inl x1), some (.inl x2), none], [] => k4 c0 x1 x2 M
        | _, _ => none)
      | false => (match Nat.beq pc 19 with
      | true => (match al, st with
        | [some (.inr (.inr (1, c0))), some (.inl x1), some (.inl x2), some (.inl x3)], [] => f5_19 z k4 n c0 x1 x2 x3 M
        | _, _ => none)
      | false => none))) 20 h (fun pc al st M hk => by
      try dsimp only at hk
      split at hk
      · rename_i he
        rw [am_beq he]
        split at hk
        · exact hk4 _ _ _ _ _ hk
        · cases hk
      · skip
        split at hk
        · rename_i he
          rw [am_beq he]
          split at hk
          · exact ih _ _ _ _ _ _ hk
          · cases hk
        · cases hk)
def f5_4 (z : Nat) : Nat → Nat → Int32 → Int32 → aM → Option aR
  | 0, _, _, _, _ => none
  | n + 1, c0, x1, x2, M =>
    if (8 : Int32) ≤ x2 then
      if am_inB (8 : Int32) 9 then
        let I1 := am_u M.1 (c0 + 8) (8 : Int32).toNatClampNeg x1
        some (none, (I1, M.2))
      else
        none
    else
      if am_inB x2 9 then
        let I2 := am_u M.1 (c0 + 8) x2.toNatClampNeg x1
        f5_19 z (f5_4 z n) z c0 x1 x2 (0 : Int32) (I2, M.2)
      else
        none
set_option maxRecDepth 100000 in
set_option maxHeartbeats 4000000 in
theorem e5_4 (z : Nat) : ∀ (n : Nat) (c0 : Nat) (x1 : Int32) (x2 : Int32) (M : aM) (r : aR), f5_4 z n c0 x1 x2 M = some r → am_Ev 1 5 4 [some (.inr (.inr (1, c0))), some (.inl x1), some (.inl x2), none] [] M r := by
  intro n
  induction n with
  | zero =>
    intro c0 x1 x2 M r h
    cases h
  | succ n ih =>
    intro c0 x1 x2 M r h
    exact am_Ev_seg (sem := am_s5_ z) (cut := ([(19, [true, true, true, true])] : List (Nat × List Bool))) (hs5 z) am_r5 am_k5 (by rw [am_l5]; decide) (fun pc al st M => (match Nat.beq pc 19 with
      | true => (match al, st with
        | [some (.inr (.inr (1, c0))), some (.inl x1), some (.inl x2), some (.inl x3)], [] => f5_19 z (f5_4 z n) z c0 x1 x2 x3 M
        | _, _ => none)
      | false => none)) 12 h (fun pc al st M hk => by
      try dsimp only at hk
      split at hk
      · rename_i he
        rw [am_beq he]
        split at hk
        · exact e5_19 z _ ih _ _ _ _ _ _ _ hk
        · cases hk
      · cases hk)
/-- ArgumentMender$Cloth.sortThreads()V -/
def f5 (z : Nat) (c0 : Nat) (M : aM) : Option aR :=
  f5_4 z z c0 (0 : Int32) (0 : Int32) M
set_option maxRecDepth 100000 in
set_option maxHeartbeats 4000000 in
theorem e5 (z : Nat) : ∀ (c0 : Nat) (M : aM) (r : aR), f5 z c0 M = some r → am_Ev 1 5 0 [some (.inr (.inr (1, c0))), none, none, none] [] M r := by
  intro c0 M r h
  exact am_Ev_seg (sem := am_s5_ z) (cut := ([(4, [true, true, true, false])] : List (Nat × List Bool))) (hs5 z) am_r5 am_k5 (by rw [am_l5]; decide) (fun pc al st M => (match Nat.beq pc 4 with
      | true => (match al, st with
        | [some (.inr (.inr (1, c0))), some (.inl x1), some (.inl x2), none], [] => f5_4 z z c0 x1 x2 M
        | _, _ => none)
      | false => none)) 6 h (fun pc al st M hk => by
      try dsimp only at hk
      split at hk
      · rename_i he
        rw [am_beq he]
        split at hk
        · exact e5_4 z _ _ _ _ _ _ hk
        · cases hk
      · cases hk)
def F5 (z : Nat) (as : List aV) (M : aM) : Option aR := match as with
  | [.inr (.inr (1, c0))] => f5 z c0 M
  | _ => none
theorem S5 (z : Nat) : am_Snd 1 5 (F5 z) := am_meth (by decide +kernel) (fun as M r has h => by
    rw [am_l5]
    unfold F5 at h
    split at h
    · exact ⟨Nat.le_of_ble_eq_true rfl, e5 z _ _ _ h⟩
    · cases h)
def cd6_0 : List am_E := [(0, .aload_n 0, 1, 0, 0, 0, 0), (1, .aload_n 1, 1, 1, 0, 0, 0), (2, .getfield 43, 3, 1, 0, 0, 0), (5, .putfield 43, 3, 1, 0, 0, 0), (8, .aload_n 0, 1, 0, 0, 0, 0), (9, .aload_n 1, 1, 1, 0, 0, 0), (10, .getfield 47, 3, 1, 1, 0, 0), (13, .putfield 47, 3, 1, 1, 0, 0), (16, .aload_n 0, 1, 0, 0, 0, 0), (17, .aload_n 1, 1, 1, 0, 0, 0), (18, .getfield 50, 3, 1, 2, 0, 0), (21, .putfield 50, 3, 1, 2, 0, 0), (24, .aload_n 0, 1, 0, 0, 0, 0), (25, .aload_n 1, 1, 1, 0, 0, 0), (26, .getfield 53, 3, 1, 3, 0, 0), (29, .putfield 53, 3, 1, 3, 0, 0), (32, .aload_n 0, 1, 0, 0, 0, 0), (33, .aload_n 1, 1, 1, 0, 0, 0), (34, .getfield 56, 3, 1, 4, 0, 0), (37, .putfield 56, 3, 1, 4, 0, 0), (40, .aload_n 0, 1, 0, 0, 0, 0), (41, .aload_n 1, 1, 1, 0, 0, 0), (42, .getfield 59, 3, 1, 5, 0, 0), (45, .putfield 59, 3, 1, 5, 0, 0), (48, .aload_n 0, 1, 0, 0, 0, 0), (49, .aload_n 1, 1, 1, 0, 0, 0), (50, .getfield 62, 3, 1, 6, 0, 0), (53, .putfield 62, 3, 1, 6, 0, 0), (56, .aload_n 1, 1, 1, 0, 0, 0), (57, .getfield 9, 3, 1, 7, 0, 0), (60, .iconst 0, 1, 0, 0, 0, 0), (61, .aload_n 0, 1, 0, 0, 0, 0), (62, .getfield 9, 3, 1, 7, 0, 0), (65, .iconst 0, 1, 0, 0, 0, 0), (66, .bipush 16, 2, 0, 0, 16, 0), (68, .invokestatic 68, 3, 0, 1, 0, 0), (71, .aload_n 1, 1, 1, 0, 0, 0), (72, .getfield 15, 3, 1, 8, 0, 0), (75, .iconst 0, 1, 0, 0, 0, 0), (76, .aload_n 0, 1, 0, 0, 0, 0)]
def cd6_1 : List am_E := [(77, .getfield 15, 3, 1, 8, 0, 0), (80, .iconst 0, 1, 0, 0, 0, 0), (81, .bipush 16, 2, 0, 0, 16, 0), (83, .invokestatic 68, 3, 0, 1, 0, 0), (86, .aload_n 1, 1, 1, 0, 0, 0), (87, .getfield 18, 3, 1, 9, 0, 0), (90, .iconst 0, 1, 0, 0, 0, 0), (91, .aload_n 0, 1, 0, 0, 0, 0), (92, .getfield 18, 3, 1, 9, 0, 0), (95, .iconst 0, 1, 0, 0, 0, 0), (96, .bipush 16, 2, 0, 0, 16, 0), (98, .invokestatic 68, 3, 0, 1, 0, 0), (101, .aload_n 1, 1, 1, 0, 0, 0), (102, .getfield 21, 3, 1, 10, 0, 0), (105, .iconst 0, 1, 0, 0, 0, 0), (106, .aload_n 0, 1, 0, 0, 0, 0), (107, .getfield 21, 3, 1, 10, 0, 0), (110, .iconst 0, 1, 0, 0, 0, 0), (111, .bipush 10, 2, 0, 0, 10, 0), (113, .invokestatic 68, 3, 0, 1, 0, 0), (116, .aload_n 1, 1, 1, 0, 0, 0), (117, .getfield 24, 3, 1, 11, 0, 0), (120, .iconst 0, 1, 0, 0, 0, 0), (121, .aload_n 0, 1, 0, 0, 0, 0), (122, .getfield 24, 3, 1, 11, 0, 0), (125, .iconst 0, 1, 0, 0, 0, 0), (126, .bipush 10, 2, 0, 0, 10, 0), (128, .invokestatic 68, 3, 0, 1, 0, 0), (131, .aload_n 1, 1, 1, 0, 0, 0), (132, .getfield 27, 3, 1, 12, 0, 0), (135, .iconst 0, 1, 0, 0, 0, 0), (136, .aload_n 0, 1, 0, 0, 0, 0), (137, .getfield 27, 3, 1, 12, 0, 0), (140, .iconst 0, 1, 0, 0, 0, 0), (141, .bipush 10, 2, 0, 0, 10, 0), (143, .invokestatic 68, 3, 0, 1, 0, 0), (146, .aload_n 1, 1, 1, 0, 0, 0), (147, .getfield 30, 3, 1, 13, 0, 0), (150, .iconst 0, 1, 0, 0, 0, 0), (151, .aload_n 0, 1, 0, 0, 0, 0)]
def cd6_2 : List am_E := [(152, .getfield 30, 3, 1, 13, 0, 0), (155, .iconst 0, 1, 0, 0, 0, 0), (156, .bipush 16, 2, 0, 0, 16, 0), (158, .invokestatic 68, 3, 0, 1, 0, 0), (161, .aload_n 1, 1, 1, 0, 0, 0), (162, .getfield 33, 3, 1, 14, 0, 0), (165, .iconst 0, 1, 0, 0, 0, 0), (166, .aload_n 0, 1, 0, 0, 0, 0), (167, .getfield 33, 3, 1, 14, 0, 0), (170, .iconst 0, 1, 0, 0, 0, 0), (171, .bipush 9, 2, 0, 0, 9, 0), (173, .invokestatic 68, 3, 0, 1, 0, 0), (176, .aload_n 0, 1, 0, 0, 0, 0), (177, .getfield 39, 3, 1, 15, 0, 0), (180, .aload_n 1, 1, 1, 0, 0, 0), (181, .getfield 39, 3, 1, 15, 0, 0), (184, .invokevirtual 74, 3, 2, 14, 0, 0), (187, .return_, 1, 0, 0, 0, 0)]
def cd6 : List am_E := cd6_0 ++ (cd6_1 ++ (cd6_2))
def am_w6 : List (List (Int32 × Nat) × Nat) := []
set_option maxRecDepth 100000 in
theorem kcd6_0 : cd6_0.all (am_chk am_w6 6) = true := by decide +kernel
set_option maxRecDepth 100000 in
theorem kcd6_1 : cd6_1.all (am_chk am_w6 6) = true := by decide +kernel
set_option maxRecDepth 100000 in
theorem kcd6_2 : cd6_2.all (am_chk am_w6 6) = true := by decide +kernel
theorem am_k6 : cd6.all (am_chk am_w6 6) = true := by
  simp only [cd6, List.all_append, kcd6_0, kcd6_1, kcd6_2, Bool.and_self]
theorem am_r6 : am_rtc 6 = 4 := by decide +kernel
theorem am_l6 : am_ml 6 = 2 := by decide +kernel
def am_s6_ (z : Nat) : Nat → List aV → aM → Option aR := fun j => (match Nat.beq j 2 with
  | true => F2 z
  | false => (fun _ _ => none))
theorem hs6 (z : Nat) : ∀ j2 : Nat, ∃ d2 : Nat, d2 + 1 ≤ 2 ∧ am_Snd d2 j2 (am_s6_ z j2) := by
  intro j2
  unfold am_s6_
  split
  · rename_i he
    rw [am_beq he]
    exact ⟨_, by decide, S2 z⟩
  · skip
    exact ⟨0, by decide, am_Snd_no j2⟩
def f6_161 (z : Nat)  (c0 : Nat) (c1 : Nat) (M : aM) : Option aR :=
  if am_cpOk (0 : Int32) (0 : Int32) (9 : Int32) 9 9 then
    let I1 := am_ua M.1 (c0 + 8) (va_cpy (M.1 (c1 + 8)) (M.1 (c0 + 8)) (0 : Int32).toNatClampNeg (0 : Int32).toNatClampNeg (9 : Int32).toNatClampNeg)
    am_bv (f2 z (c0 + 9) (c1 + 9) (I1, M.2)) fun M2 =>
      some (none, M2)
  else
    none
set_option maxRecDepth 100000 in
set_option maxHeartbeats 4000000 in
theorem e6_161 (z : Nat) : ∀ (c0 : Nat) (c1 : Nat) (M : aM) (r : aR), f6_161 z c0 c1 M = some r → am_Ev 2 6 161 [some (.inr (.inr (1, c0))), some (.inr (.inr (1, c1)))] [] M r := by
  intro c0 c1 M r h
  exact am_Ev_seg (sem := am_s6_ z) (cut := ([] : List (Nat × List Bool))) (hs6 z) am_r6 am_k6 (by rw [am_l6]; decide) (fun _ _ _ _ => none) 15 h (fun _ _ _ _ hk => by cases hk)
def f6_131 (z : Nat)  (c0 : Nat) (c1 : Nat) (M : aM) : Option aR :=
  if am_cpOk (0 : Int32) (0 : Int32) (10 : Int32) 10 10 then
    let I1 := am_ua M.1 (c0 + 6) (va_cpy (M.1 (c1 + 6)) (M.1 (c0 + 6)) (0 : Int32).toNatClampNeg (0 : Int32).toNatClampNeg (10 : Int32).toNatClampNeg)
    if am_cpOk (0 : Int32) (0 : Int32) (16 : Int32) 16 16 then
      let I2 := am_ua I1 (c0 + 7) (va_cpy (I1 (c1 + 7)) (I1 (c0 + 7)) (0 : Int32).toNatClampNeg (0 : Int32).toNatClampNeg (16 : Int32).toNatClampNeg)
      f6_161 z c0 c1 (I2, M.2)
    else
      none
  else
    none
set_option maxRecDepth 100000 in
set_option maxHeartbeats 4000000 in
theorem e6_131 (z : Nat) : ∀ (c0 : Nat) (c1 : Nat) (M : aM) (r : aR), f6_131 z c0 c1 M = some r → am_Ev 2 6 131 [some (.inr (.inr (1, c0))), some (.inr (.inr (1, c1)))] [] M r := by
  intro c0 c1 M r h
  exact am_Ev_seg (sem := am_s6_ z) (cut := ([(161, [true, true])] : List (Nat × List Bool))) (hs6 z) am_r6 am_k6 (by rw [am_l6]; decide) (fun pc al st M => (match Nat.beq pc 161 with
      | true => (match al, st with
        | [some (.inr (.inr (1, c0))), some (.inr (.inr (1, c1)))], [] => f6_161 z c0 c1 M
        | _, _ => none)
      | false => none)) 18 h (fun pc al st M hk => by
      try dsimp only at hk
      split at hk
      · rename_i he
        rw [am_beq he]
        split at hk
        · exact e6_161 z _ _ _ _ hk
        · cases hk
      · cases hk)
def f6_101 (z : Nat)  (c0 : Nat) (c1 : Nat) (M : aM) : Option aR :=
  if am_cpOk (0 : Int32) (0 : Int32) (10 : Int32) 10 10 then
    let I1 := am_ua M.1 (c0 + 4) (va_cpy (M.1 (c1 + 4)) (M.1 (c0 + 4)) (0 : Int32).toNatClampNeg (0 : Int32).toNatClampNeg (10 : Int32).toNatClampNeg)
    if am_cpOk (0 : Int32) (0 : Int32) (10 : Int32) 10 10 then
      let I2 := am_ua I1 (c0 + 5) (va_cpy (I1 (c1 + 5)) (I1 (c0 + 5)) (0 : Int32).toNatClampNeg (0 : Int32).toNatClampNeg (10 : Int32).toNatClampNeg)
      f6_131 z c0 c1 (I2, M.2)
    else
      none
  else
    none
set_option maxRecDepth 100000 in
set_option maxHeartbeats 4000000 in
theorem e6_101 (z : Nat) : ∀ (c0 : Nat) (c1 : Nat) (M : aM) (r : aR), f6_101 z c0 c1 M = some r → am_Ev 2 6 101 [some (.inr (.inr (1, c0))), some (.inr (.inr (1, c1)))] [] M r := by
  intro c0 c1 M r h
  exact am_Ev_seg (sem := am_s6_ z) (cut := ([(131, [true, true])] : List (Nat × List Bool))) (hs6 z) am_r6 am_k6 (by rw [am_l6]; decide) (fun pc al st M => (match Nat.beq pc 131 with
      | true => (match al, st with
        | [some (.inr (.inr (1, c0))), some (.inr (.inr (1, c1)))], [] => f6_131 z c0 c1 M
        | _, _ => none)
      | false => none)) 18 h (fun pc al st M hk => by
      try dsimp only at hk
      split at hk
      · rename_i he
        rw [am_beq he]
        split at hk
        · exact e6_131 z _ _ _ _ hk
        · cases hk
      · cases hk)
def f6_71 (z : Nat)  (c0 : Nat) (c1 : Nat) (M : aM) : Option aR :=
  if am_cpOk (0 : Int32) (0 : Int32) (16 : Int32) 16 16 then
    let I1 := am_ua M.1 (c0 + 2) (va_cpy (M.1 (c1 + 2)) (M.1 (c0 + 2)) (0 : Int32).toNatClampNeg (0 : Int32).toNatClampNeg (16 : Int32).toNatClampNeg)
    if am_cpOk (0 : Int32) (0 : Int32) (16 : Int32) 16 16 then
      let I2 := am_ua I1 (c0 + 3) (va_cpy (I1 (c1 + 3)) (I1 (c0 + 3)) (0 : Int32).toNatClampNeg (0 : Int32).toNatClampNeg (16 : Int32).toNatClampNeg)
      f6_101 z c0 c1 (I2, M.2)
    else
      none
  else
    none
set_option maxRecDepth 100000 in
set_option maxHeartbeats 4000000 in
theorem e6_71 (z : Nat) : ∀ (c0 : Nat) (c1 : Nat) (M : aM) (r : aR), f6_71 z c0 c1 M = some r → am_Ev 2 6 71 [some (.inr (.inr (1, c0))), some (.inr (.inr (1, c1)))] [] M r := by
  intro c0 c1 M r h
  exact am_Ev_seg (sem := am_s6_ z) (cut := ([(101, [true, true])] : List (Nat × List Bool))) (hs6 z) am_r6 am_k6 (by rw [am_l6]; decide) (fun pc al st M => (match Nat.beq pc 101 with
      | true => (match al, st with
        | [some (.inr (.inr (1, c0))), some (.inr (.inr (1, c1)))], [] => f6_101 z c0 c1 M
        | _, _ => none)
      | false => none)) 18 h (fun pc al st M hk => by
      try dsimp only at hk
      split at hk
      · rename_i he
        rw [am_beq he]
        split at hk
        · exact e6_101 z _ _ _ _ hk
        · cases hk
      · cases hk)
def f6_32 (z : Nat)  (c0 : Nat) (c1 : Nat) (M : aM) : Option aR :=
  let I1 := am_u M.1 c0 4 (M.1 c1 4)
  let I2 := am_u I1 c0 5 (I1 c1 5)
  let I3 := am_u I2 c0 6 (I2 c1 6)
  if am_cpOk (0 : Int32) (0 : Int32) (16 : Int32) 16 16 then
    let I4 := am_ua I3 (c0 + 1) (va_cpy (I3 (c1 + 1)) (I3 (c0 + 1)) (0 : Int32).toNatClampNeg (0 : Int32).toNatClampNeg (16 : Int32).toNatClampNeg)
    f6_71 z c0 c1 (I4, M.2)
  else
    none
set_option maxRecDepth 100000 in
set_option maxHeartbeats 4000000 in
theorem e6_32 (z : Nat) : ∀ (c0 : Nat) (c1 : Nat) (M : aM) (r : aR), f6_32 z c0 c1 M = some r → am_Ev 2 6 32 [some (.inr (.inr (1, c0))), some (.inr (.inr (1, c1)))] [] M r := by
  intro c0 c1 M r h
  exact am_Ev_seg (sem := am_s6_ z) (cut := ([(71, [true, true])] : List (Nat × List Bool))) (hs6 z) am_r6 am_k6 (by rw [am_l6]; decide) (fun pc al st M => (match Nat.beq pc 71 with
      | true => (match al, st with
        | [some (.inr (.inr (1, c0))), some (.inr (.inr (1, c1)))], [] => f6_71 z c0 c1 M
        | _, _ => none)
      | false => none)) 22 h (fun pc al st M hk => by
      try dsimp only at hk
      split at hk
      · rename_i he
        rw [am_beq he]
        split at hk
        · exact e6_71 z _ _ _ _ hk
        · cases hk
      · cases hk)
/-- ArgumentMender$Cloth.takeOver(LArgumentMender$Cloth;)V -/
def f6 (z : Nat) (c0 : Nat) (c1 : Nat) (M : aM) : Option aR :=
  let I1 := am_u M.1 c0 0 (M.1 c1 0)
  let I2 := am_u I1 c0 1 (I1 c1 1)
  let I3 := am_u I2 c0 2 (I2 c1 2)
  let I4 := am_u I3 c0 3 (I3 c1 3)
  f6_32 z c0 c1 (I4, M.2)
set_option maxRecDepth 100000 in
set_option maxHeartbeats 4000000 in
theorem e6 (z : Nat) : ∀ (c0 : Nat) (c1 : Nat) (M : aM) (r : aR), f6 z c0 c1 M = some r → am_Ev 2 6 0 [some (.inr (.inr (1, c0))), some (.inr (.inr (1, c1)))] [] M r := by
  intro c0 c1 M r h
  exact am_Ev_seg (sem := am_s6_ z) (cut := ([(32, [true, true])] : List (Nat × List Bool))) (hs6 z) am_r6 am_k6 (by rw [am_l6]; decide) (fun pc al st M => (match Nat.beq pc 32 with
      | true => (match al, st with
        | [some (.inr (.inr (1, c0))), some (.inr (.inr (1, c1)))], [] => f6_32 z c0 c1 M
        | _, _ => none)
      | false => none)) 18 h (fun pc al st M hk => by
      try dsimp only at hk
      split at hk
      · rename_i he
        rw [am_beq he]
        split at hk
        · exact e6_32 z _ _ _ _ hk
        · cases hk
      · cases hk)
def F6 (z : Nat) (as : List aV) (M : aM) : Option aR := match as with
  | [.inr (.inr (1, c0)), .inr (.inr (1, c1))] => f6 z c0 c1 M
  | _ => none
theorem S6 (z : Nat) : am_Snd 2 6 (F6 z) := am_meth (by decide +kernel) (fun as M r has h => by
    rw [am_l6]
    unfold F6 at h
    split at h
    · exact ⟨Nat.le_of_ble_eq_true rfl, e6 z _ _ _ _ h⟩
    · cases h)
def cd7_0 : List am_E := [(0, .aload_n 0, 1, 0, 0, 0, 0), (1, .getfield 43, 3, 1, 0, 0, 0), (4, .ifCond .le 7, 3, 11, 0, 0, 0), (7, .iconst 1, 1, 0, 0, 1, 0), (8, .goto 4, 3, 12, 0, 0, 0), (11, .iconst 0, 1, 0, 0, 0, 0), (12, .ireturn, 1, 0, 0, 0, 0)]
def cd7 : List am_E := cd7_0
def am_w7 : List (List (Int32 × Nat) × Nat) := []
set_option maxRecDepth 100000 in
theorem kcd7_0 : cd7_0.all (am_chk am_w7 7) = true := by decide +kernel
theorem am_k7 : cd7.all (am_chk am_w7 7) = true := by
  simp only [cd7, List.all_append, kcd7_0, Bool.and_self]
theorem am_r7 : am_rtc 7 = 1 := by decide +kernel
theorem am_l7 : am_ml 7 = 1 := by decide +kernel
def am_s7_ (z : Nat) : Nat → List aV → aM → Option aR := fun j => (fun _ _ => none)
theorem hs7 (z : Nat) : ∀ j2 : Nat, ∃ d2 : Nat, d2 + 1 ≤ 1 ∧ am_Snd d2 j2 (am_s7_ z j2) := by
  intro j2
  unfold am_s7_
  exact ⟨0, by decide, am_Snd_no j2⟩
/-- ArgumentMender$Cloth.isThere()Z -/
def f7 (z : Nat) (c0 : Nat) (M : aM) : Option aR :=
  if (M.1 c0 0) ≤ 0 then
    some (some (.inl ((0 : Int32) &&& 1)), M)
  else
    some (some (.inl ((1 : Int32) &&& 1)), M)
set_option maxRecDepth 100000 in
set_option maxHeartbeats 4000000 in
theorem e7 (z : Nat) : ∀ (c0 : Nat) (M : aM) (r : aR), f7 z c0 M = some r → am_Ev 1 7 0 [some (.inr (.inr (1, c0)))] [] M r := by
  intro c0 M r h
  exact am_Ev_seg (sem := am_s7_ z) (cut := ([] : List (Nat × List Bool))) (hs7 z) am_r7 am_k7 (by rw [am_l7]; decide) (fun _ _ _ _ => none) 7 h (fun _ _ _ _ hk => by cases hk)
def F7 (z : Nat) (as : List aV) (M : aM) : Option aR := match as with
  | [.inr (.inr (1, c0))] => f7 z c0 M
  | _ => none
theorem S7 (z : Nat) : am_Snd 1 7 (F7 z) := am_meth (by decide +kernel) (fun as M r has h => by
    rw [am_l7]
    unfold F7 at h
    split at h
    · exact ⟨Nat.le_of_ble_eq_true rfl, e7 z _ _ _ h⟩
    · cases h)
def cd8_0 : List am_E := [(0, .iload_n 1, 1, 1, 0, 0, 0), (1, .ifCond .lt 15, 3, 16, 0, 0, 0), (4, .iload_n 1, 1, 1, 0, 0, 0), (5, .aload_n 0, 1, 0, 0, 0, 0), (6, .getfield 56, 3, 1, 4, 0, 0), (9, .if_icmp .ge 7, 3, 16, 0, 0, 0), (12, .iconst 1, 1, 0, 0, 1, 0), (13, .goto 4, 3, 17, 0, 0, 0), (16, .iconst 0, 1, 0, 0, 0, 0), (17, .ireturn, 1, 0, 0, 0, 0)]
def cd8 : List am_E := cd8_0
def am_w8 : List (List (Int32 × Nat) × Nat) := []
set_option maxRecDepth 100000 in
theorem kcd8_0 : cd8_0.all (am_chk am_w8 8) = true := by decide +kernel
theorem am_k8 : cd8.all (am_chk am_w8 8) = true := by
  simp only [cd8, List.all_append, kcd8_0, Bool.and_self]
theorem am_r8 : am_rtc 8 = 1 := by decide +kernel
theorem am_l8 : am_ml 8 = 2 := by decide +kernel
def am_s8_ (z : Nat) : Nat → List aV → aM → Option aR := fun j => (fun _ _ => none)
theorem hs8 (z : Nat) : ∀ j2 : Nat, ∃ d2 : Nat, d2 + 1 ≤ 1 ∧ am_Snd d2 j2 (am_s8_ z j2) := by
  intro j2
  unfold am_s8_
  exact ⟨0, by decide, am_Snd_no j2⟩
/-- ArgumentMender$Cloth.hasClaim(I)Z -/
def f8 (z : Nat) (c0 : Nat) (x1 : Int32) (M : aM) : Option aR :=
  if x1 < 0 then
    some (some (.inl ((0 : Int32) &&& 1)), M)
  else
    if (M.1 c0 4) ≤ x1 then
      some (some (.inl ((0 : Int32) &&& 1)), M)
    else
      some (some (.inl ((1 : Int32) &&& 1)), M)
set_option maxRecDepth 100000 in
set_option maxHeartbeats 4000000 in
theorem e8 (z : Nat) : ∀ (c0 : Nat) (x1 : Int32) (M : aM) (r : aR), f8 z c0 x1 M = some r → am_Ev 1 8 0 [some (.inr (.inr (1, c0))), some (.inl x1)] [] M r := by
  intro c0 x1 M r h
  exact am_Ev_seg (sem := am_s8_ z) (cut := ([] : List (Nat × List Bool))) (hs8 z) am_r8 am_k8 (by rw [am_l8]; decide) (fun _ _ _ _ => none) 10 h (fun _ _ _ _ hk => by cases hk)
def F8 (z : Nat) (as : List aV) (M : aM) : Option aR := match as with
  | [.inr (.inr (1, c0)), .inl x1] => f8 z c0 x1 M
  | _ => none
theorem S8 (z : Nat) : am_Snd 1 8 (F8 z) := am_meth (by decide +kernel) (fun as M r has h => by
    rw [am_l8]
    unfold F8 at h
    split at h
    · exact ⟨Nat.le_of_ble_eq_true rfl, e8 z _ _ _ _ h⟩
    · cases h)
def cd9_0 : List am_E := [(0, .iload_n 1, 1, 1, 0, 0, 0), (1, .ifCond .lt 15, 3, 16, 0, 0, 0), (4, .iload_n 1, 1, 1, 0, 0, 0), (5, .aload_n 0, 1, 0, 0, 0, 0), (6, .getfield 59, 3, 1, 5, 0, 0), (9, .if_icmp .ge 7, 3, 16, 0, 0, 0), (12, .iconst 1, 1, 0, 0, 1, 0), (13, .goto 4, 3, 17, 0, 0, 0), (16, .iconst 0, 1, 0, 0, 0, 0), (17, .ireturn, 1, 0, 0, 0, 0)]
def cd9 : List am_E := cd9_0
def am_w9 : List (List (Int32 × Nat) × Nat) := []
set_option maxRecDepth 100000 in
theorem kcd9_0 : cd9_0.all (am_chk am_w9 9) = true := by decide +kernel
theorem am_k9 : cd9.all (am_chk am_w9 9) = true := by
  simp only [cd9, List.all_append, kcd9_0, Bool.and_self]
theorem am_r9 : am_rtc 9 = 1 := by decide +kernel
theorem am_l9 : am_ml 9 = 2 := by decide +kernel
def am_s9_ (z : Nat) : Nat → List aV → aM → Option aR := fun j => (fun _ _ => none)
theorem hs9 (z : Nat) : ∀ j2 : Nat, ∃ d2 : Nat, d2 + 1 ≤ 1 ∧ am_Snd d2 j2 (am_s9_ z j2) := by
  intro j2
  unfold am_s9_
  exact ⟨0, by decide, am_Snd_no j2⟩
/-- ArgumentMender$Cloth.hasThread(I)Z -/
def f9 (z : Nat) (c0 : Nat) (x1 : Int32) (M : aM) : Option aR :=
  if x1 < 0 then
    some (some (.inl ((0 : Int32) &&& 1)), M)
  else
    if (M.1 c0 5) ≤ x1 then
      some (some (.inl ((0 : Int32) &&& 1)), M)
    else
      some (some (.inl ((1 : Int32) &&& 1)), M)
set_option maxRecDepth 100000 in
set_option maxHeartbeats 4000000 in
theorem e9 (z : Nat) : ∀ (c0 : Nat) (x1 : Int32) (M : aM) (r : aR), f9 z c0 x1 M = some r → am_Ev 1 9 0 [some (.inr (.inr (1, c0))), some (.inl x1)] [] M r := by
  intro c0 x1 M r h
  exact am_Ev_seg (sem := am_s9_ z) (cut := ([] : List (Nat × List Bool))) (hs9 z) am_r9 am_k9 (by rw [am_l9]; decide) (fun _ _ _ _ => none) 10 h (fun _ _ _ _ hk => by cases hk)
def F9 (z : Nat) (as : List aV) (M : aM) : Option aR := match as with
  | [.inr (.inr (1, c0)), .inl x1] => f9 z c0 x1 M
  | _ => none
theorem S9 (z : Nat) : am_Snd 1 9 (F9 z) := am_meth (by decide +kernel) (fun as M r has h => by
    rw [am_l9]
    unfold F9 at h
    split at h
    · exact ⟨Nat.le_of_ble_eq_true rfl, e9 z _ _ _ _ h⟩
    · cases h)
def cd10_0 : List am_E := [(0, .iload_n 1, 1, 1, 0, 0, 0), (1, .ifCond .lt 15, 3, 16, 0, 0, 0), (4, .iload_n 1, 1, 1, 0, 0, 0), (5, .aload_n 0, 1, 0, 0, 0, 0), (6, .getfield 62, 3, 1, 6, 0, 0), (9, .if_icmp .ge 7, 3, 16, 0, 0, 0), (12, .iconst 1, 1, 0, 0, 1, 0), (13, .goto 4, 3, 17, 0, 0, 0), (16, .iconst 0, 1, 0, 0, 0, 0), (17, .ireturn, 1, 0, 0, 0, 0)]
def cd10 : List am_E := cd10_0
def am_w10 : List (List (Int32 × Nat) × Nat) := []
set_option maxRecDepth 100000 in
theorem kcd10_0 : cd10_0.all (am_chk am_w10 10) = true := by decide +kernel
theorem am_k10 : cd10.all (am_chk am_w10 10) = true := by
  simp only [cd10, List.all_append, kcd10_0, Bool.and_self]
theorem am_r10 : am_rtc 10 = 1 := by decide +kernel
theorem am_l10 : am_ml 10 = 2 := by decide +kernel
def am_s10_ (z : Nat) : Nat → List aV → aM → Option aR := fun j => (fun _ _ => none)
theorem hs10 (z : Nat) : ∀ j2 : Nat, ∃ d2 : Nat, d2 + 1 ≤ 1 ∧ am_Snd d2 j2 (am_s10_ z j2) := by
  intro j2
  unfold am_s10_
  exact ⟨0, by decide, am_Snd_no j2⟩
/-- ArgumentMender$Cloth.hasQuarrel(I)Z -/
def f10 (z : Nat) (c0 : Nat) (x1 : Int32) (M : aM) : Option aR :=
  if x1 < 0 then
    some (some (.inl ((0 : Int32) &&& 1)), M)
  else
    if (M.1 c0 6) ≤ x1 then
      some (some (.inl ((0 : Int32) &&& 1)), M)
    else
      some (some (.inl ((1 : Int32) &&& 1)), M)
set_option maxRecDepth 100000 in
set_option maxHeartbeats 4000000 in
theorem e10 (z : Nat) : ∀ (c0 : Nat) (x1 : Int32) (M : aM) (r : aR), f10 z c0 x1 M = some r → am_Ev 1 10 0 [some (.inr (.inr (1, c0))), some (.inl x1)] [] M r := by
  intro c0 x1 M r h
  exact am_Ev_seg (sem := am_s10_ z) (cut := ([] : List (Nat × List Bool))) (hs10 z) am_r10 am_k10 (by rw [am_l10]; decide) (fun _ _ _ _ => none) 10 h (fun _ _ _ _ hk => by cases hk)
def F10 (z : Nat) (as : List aV) (M : aM) : Option aR := match as with
  | [.inr (.inr (1, c0)), .inl x1] => f10 z c0 x1 M
  | _ => none
theorem S10 (z : Nat) : am_Snd 1 10 (F10 z) := am_meth (by decide +kernel) (fun as M r has h => by
    rw [am_l10]
    unfold F10 at h
    split at h
    · exact ⟨Nat.le_of_ble_eq_true rfl, e10 z _ _ _ _ h⟩
    · cases h)
def cd11_0 : List am_E := [(0, .aload_n 0, 1, 0, 0, 0, 0), (1, .invokevirtual 78, 3, 7, 1000, 0, 0), (4, .ifCond .eq 19, 3, 23, 0, 0, 0), (7, .iload_n 1, 1, 1, 0, 0, 0), (8, .ifCond .lt 15, 3, 23, 0, 0, 0), (11, .iload_n 1, 1, 1, 0, 0, 0), (12, .aload_n 0, 1, 0, 0, 0, 0), (13, .getfield 47, 3, 1, 1, 0, 0), (16, .if_icmp .gt 7, 3, 23, 0, 0, 0), (19, .iconst 1, 1, 0, 0, 1, 0), (20, .goto 4, 3, 24, 0, 0, 0), (23, .iconst 0, 1, 0, 0, 0, 0), (24, .ireturn, 1, 0, 0, 0, 0)]
def cd11 : List am_E := cd11_0
def am_w11 : List (List (Int32 × Nat) × Nat) := []
set_option maxRecDepth 100000 in
theorem kcd11_0 : cd11_0.all (am_chk am_w11 11) = true := by decide +kernel
theorem am_k11 : cd11.all (am_chk am_w11 11) = true := by
  simp only [cd11, List.all_append, kcd11_0, Bool.and_self]
theorem am_r11 : am_rtc 11 = 1 := by decide +kernel
theorem am_l11 : am_ml 11 = 2 := by decide +kernel
def am_s11_ (z : Nat) : Nat → List aV → aM → Option aR := fun j => (match Nat.beq j 7 with
  | true => F7 z
  | false => (fun _ _ => none))
theorem hs11 (z : Nat) : ∀ j2 : Nat, ∃ d2 : Nat, d2 + 1 ≤ 2 ∧ am_Snd d2 j2 (am_s11_ z j2) := by
  intro j2
  unfold am_s11_
  split
  · rename_i he
    rw [am_beq he]
    exact ⟨_, by decide, S7 z⟩
  · skip
    exact ⟨0, by decide, am_Snd_no j2⟩
/-- ArgumentMender$Cloth.hasYear(I)Z -/
def f11 (z : Nat) (c0 : Nat) (x1 : Int32) (M : aM) : Option aR :=
  am_bi (f7 z c0 M) fun v2 M1 =>
    if v2 = 0 then
      some (some (.inl ((0 : Int32) &&& 1)), M1)
    else
      if x1 < 0 then
        some (some (.inl ((0 : Int32) &&& 1)), M1)
      else
        if (M1.1 c0 1) < x1 then
          some (some (.inl ((0 : Int32) &&& 1)), M1)
        else
          some (some (.inl ((1 : Int32) &&& 1)), M1)
set_option maxRecDepth 100000 in
set_option maxHeartbeats 4000000 in
theorem e11 (z : Nat) : ∀ (c0 : Nat) (x1 : Int32) (M : aM) (r : aR), f11 z c0 x1 M = some r → am_Ev 2 11 0 [some (.inr (.inr (1, c0))), some (.inl x1)] [] M r := by
  intro c0 x1 M r h
  exact am_Ev_seg (sem := am_s11_ z) (cut := ([] : List (Nat × List Bool))) (hs11 z) am_r11 am_k11 (by rw [am_l11]; decide) (fun _ _ _ _ => none) 13 h (fun _ _ _ _ hk => by cases hk)
def F11 (z : Nat) (as : List aV) (M : aM) : Option aR := match as with
  | [.inr (.inr (1, c0)), .inl x1] => f11 z c0 x1 M
  | _ => none
theorem S11 (z : Nat) : am_Snd 2 11 (F11 z) := am_meth (by decide +kernel) (fun as M r has h => by
    rw [am_l11]
    unfold F11 at h
    split at h
    · exact ⟨Nat.le_of_ble_eq_true rfl, e11 z _ _ _ _ h⟩
    · cases h)
def cd12_0 : List am_E := [(0, .aload_n 0, 1, 0, 0, 0, 0), (1, .invokevirtual 78, 3, 7, 1000, 0, 0), (4, .ifCond .eq 19, 3, 23, 0, 0, 0), (7, .iload_n 1, 1, 1, 0, 0, 0), (8, .ifCond .lt 15, 3, 23, 0, 0, 0), (11, .iload_n 1, 1, 1, 0, 0, 0), (12, .aload_n 0, 1, 0, 0, 0, 0), (13, .getfield 47, 3, 1, 1, 0, 0), (16, .if_icmp .ge 7, 3, 23, 0, 0, 0), (19, .iconst 1, 1, 0, 0, 1, 0), (20, .goto 4, 3, 24, 0, 0, 0), (23, .iconst 0, 1, 0, 0, 0, 0), (24, .ireturn, 1, 0, 0, 0, 0)]
def cd12 : List am_E := cd12_0
def am_w12 : List (List (Int32 × Nat) × Nat) := []
set_option maxRecDepth 100000 in
theorem kcd12_0 : cd12_0.all (am_chk am_w12 12) = true := by decide +kernel
theorem am_k12 : cd12.all (am_chk am_w12 12) = true := by
  simp only [cd12, List.all_append, kcd12_0, Bool.and_self]
theorem am_r12 : am_rtc 12 = 1 := by decide +kernel
theorem am_l12 : am_ml 12 = 2 := by decide +kernel
def am_s12_ (z : Nat) : Nat → List aV → aM → Option aR := fun j => (match Nat.beq j 7 with
  | true => F7 z
  | false => (fun _ _ => none))
theorem hs12 (z : Nat) : ∀ j2 : Nat, ∃ d2 : Nat, d2 + 1 ≤ 2 ∧ am_Snd d2 j2 (am_s12_ z j2) := by
  intro j2
  unfold am_s12_
  split
  · rename_i he
    rw [am_beq he]
    exact ⟨_, by decide, S7 z⟩
  · skip
    exact ⟨0, by decide, am_Snd_no j2⟩
/-- ArgumentMender$Cloth.hasYearAhead(I)Z -/
def f12 (z : Nat) (c0 : Nat) (x1 : Int32) (M : aM) : Option aR :=
  am_bi (f7 z c0 M) fun v2 M1 =>
    if v2 = 0 then
      some (some (.inl ((0 : Int32) &&& 1)), M1)
    else
      if x1 < 0 then
        some (some (.inl ((0 : Int32) &&& 1)), M1)
      else
        if (M1.1 c0 1) ≤ x1 then
          some (some (.inl ((0 : Int32) &&& 1)), M1)
        else
          some (some (.inl ((1 : Int32) &&& 1)), M1)
set_option maxRecDepth 100000 in
set_option maxHeartbeats 4000000 in
theorem e12 (z : Nat) : ∀ (c0 : Nat) (x1 : Int32) (M : aM) (r : aR), f12 z c0 x1 M = some r → am_Ev 2 12 0 [some (.inr (.inr (1, c0))), some (.inl x1)] [] M r := by
  intro c0 x1 M r h
  exact am_Ev_seg (sem := am_s12_ z) (cut := ([] : List (Nat × List Bool))) (hs12 z) am_r12 am_k12 (by rw [am_l12]; decide) (fun _ _ _ _ => none) 13 h (fun _ _ _ _ hk => by cases hk)
def F12 (z : Nat) (as : List aV) (M : aM) : Option aR := match as with
  | [.inr (.inr (1, c0)), .inl x1] => f12 z c0 x1 M
  | _ => none
theorem S12 (z : Nat) : am_Snd 2 12 (F12 z) := am_meth (by decide +kernel) (fun as M r has h => by
    rw [am_l12]
    unfold F12 at h
    split at h
    · exact ⟨Nat.le_of_ble_eq_true rfl, e12 z _ _ _ _ h⟩
    · cases h)
def cd13_0 : List am_E := [(0, .iconst 1, 1, 0, 0, 1, 0), (1, .aload_n 0, 1, 0, 0, 0, 0), (2, .getfield 56, 3, 1, 4, 0, 0), (5, .ishl, 1, 0, 0, 0, 0), (6, .iconst 1, 1, 0, 0, 1, 0), (7, .isub, 1, 0, 0, 0, 0), (8, .ireturn, 1, 0, 0, 0, 0)]
def cd13 : List am_E := cd13_0
def am_w13 : List (List (Int32 × Nat) × Nat) := []
set_option maxRecDepth 100000 in
theorem kcd13_0 : cd13_0.all (am_chk am_w13 13) = true := by decide +kernel
theorem am_k13 : cd13.all (am_chk am_w13 13) = true := by
  simp only [cd13, List.all_append, kcd13_0, Bool.and_self]
theorem am_r13 : am_rtc 13 = 0 := by decide +kernel
theorem am_l13 : am_ml 13 = 1 := by decide +kernel
def am_s13_ (z : Nat) : Nat → List aV → aM → Option aR := fun j => (fun _ _ => none)
theorem hs13 (z : Nat) : ∀ j2 : Nat, ∃ d2 : Nat, d2 + 1 ≤ 1 ∧ am_Snd d2 j2 (am_s13_ z j2) := by
  intro j2
  unfold am_s13_
  exact ⟨0, by decide, am_Snd_no j2⟩
/-- ArgumentMender$Cloth.allClaims()I -/
def f13 (z : Nat) (c0 : Nat) (M : aM) : Option aR :=
  some (some (.inl (((1 : Int32) <<< ((M.1 c0 4) &&& 31)) - (1 : Int32))), M)
set_option maxRecDepth 100000 in
set_option maxHeartbeats 4000000 in
theorem e13 (z : Nat) : ∀ (c0 : Nat) (M : aM) (r : aR), f13 z c0 M = some r → am_Ev 1 13 0 [some (.inr (.inr (1, c0)))] [] M r := by
  intro c0 M r h
  exact am_Ev_seg (sem := am_s13_ z) (cut := ([] : List (Nat × List Bool))) (hs13 z) am_r13 am_k13 (by rw [am_l13]; decide) (fun _ _ _ _ => none) 8 h (fun _ _ _ _ hk => by cases hk)
def F13 (z : Nat) (as : List aV) (M : aM) : Option aR := match as with
  | [.inr (.inr (1, c0))] => f13 z c0 M
  | _ => none
theorem S13 (z : Nat) : am_Snd 1 13 (F13 z) := am_meth (by decide +kernel) (fun as M r has h => by
    rw [am_l13]
    unfold F13 at h
    split at h
    · exact ⟨Nat.le_of_ble_eq_true rfl, e13 z _ _ _ h⟩
    · cases h)
def cd14_0 : List am_E := [(0, .iconst 1, 1, 0, 0, 1, 0), (1, .aload_n 0, 1, 0, 0, 0, 0), (2, .getfield 59, 3, 1, 5, 0, 0), (5, .ishl, 1, 0, 0, 0, 0), (6, .iconst 1, 1, 0, 0, 1, 0), (7, .isub, 1, 0, 0, 0, 0), (8, .ireturn, 1, 0, 0, 0, 0)]
def cd14 : List am_E := cd14_0
def am_w14 : List (List (Int32 × Nat) × Nat) := []
set_option maxRecDepth 100000 in
theorem kcd14_0 : cd14_0.all (am_chk am_w14 14) = true := by decide +kernel
theorem am_k14 : cd14.all (am_chk am_w14 14) = true := by
  simp only [cd14, List.all_append, kcd14_0, Bool.and_self]
theorem am_r14 : am_rtc 14 = 0 := by decide +kernel
theorem am_l14 : am_ml 14 = 1 := by decide +kernel
def am_s14_ (z : Nat) : Nat → List aV → aM → Option aR := fun j => (fun _ _ => none)
theorem hs14 (z : Nat) : ∀ j2 : Nat, ∃ d2 : Nat, d2 + 1 ≤ 1 ∧ am_Snd d2 j2 (am_s14_ z j2) := by
  intro j2
  unfold am_s14_
  exact ⟨0, by decide, am_Snd_no j2⟩
/-- ArgumentMender$Cloth.allThreads()I -/
def f14 (z : Nat) (c0 : Nat) (M : aM) : Option aR :=
  some (some (.inl (((1 : Int32) <<< ((M.1 c0 5) &&& 31)) - (1 : Int32))), M)
set_option maxRecDepth 100000 in
set_option maxHeartbeats 4000000 in
theorem e14 (z : Nat) : ∀ (c0 : Nat) (M : aM) (r : aR), f14 z c0 M = some r → am_Ev 1 14 0 [some (.inr (.inr (1, c0)))] [] M r := by
  intro c0 M r h
  exact am_Ev_seg (sem := am_s14_ z) (cut := ([] : List (Nat × List Bool))) (hs14 z) am_r14 am_k14 (by rw [am_l14]; decide) (fun _ _ _ _ => none) 8 h (fun _ _ _ _ hk => by cases hk)
def F14 (z : Nat) (as : List aV) (M : aM) : Option aR := match as with
  | [.inr (.inr (1, c0))] => f14 z c0 M
  | _ => none
theorem S14 (z : Nat) : am_Snd 1 14 (F14 z) := am_meth (by decide +kernel) (fun as M r has h => by
    rw [am_l14]
    unfold F14 at h
    split at h
    · exact ⟨Nat.le_of_ble_eq_true rfl, e14 z _ _ _ h⟩
    · cases h)
def cd15_0 : List am_E := [(0, .iconst 1, 1, 0, 0, 1, 0), (1, .aload_n 0, 1, 0, 0, 0, 0), (2, .getfield 62, 3, 1, 6, 0, 0), (5, .ishl, 1, 0, 0, 0, 0), (6, .iconst 1, 1, 0, 0, 1, 0), (7, .isub, 1, 0, 0, 0, 0), (8, .ireturn, 1, 0, 0, 0, 0)]
def cd15 : List am_E := cd15_0
def am_w15 : List (List (Int32 × Nat) × Nat) := []
set_option maxRecDepth 100000 in
theorem kcd15_0 : cd15_0.all (am_chk am_w15 15) = true := by decide +kernel
theorem am_k15 : cd15.all (am_chk am_w15 15) = true := by
  simp only [cd15, List.all_append, kcd15_0, Bool.and_self]
theorem am_r15 : am_rtc 15 = 0 := by decide +kernel
theorem am_l15 : am_ml 15 = 1 := by decide +kernel
def am_s15_ (z : Nat) : Nat → List aV → aM → Option aR := fun j => (fun _ _ => none)
theorem hs15 (z : Nat) : ∀ j2 : Nat, ∃ d2 : Nat, d2 + 1 ≤ 1 ∧ am_Snd d2 j2 (am_s15_ z j2) := by
  intro j2
  unfold am_s15_
  exact ⟨0, by decide, am_Snd_no j2⟩
/-- ArgumentMender$Cloth.allQuarrels()I -/
def f15 (z : Nat) (c0 : Nat) (M : aM) : Option aR :=
  some (some (.inl (((1 : Int32) <<< ((M.1 c0 6) &&& 31)) - (1 : Int32))), M)
set_option maxRecDepth 100000 in
set_option maxHeartbeats 4000000 in
theorem e15 (z : Nat) : ∀ (c0 : Nat) (M : aM) (r : aR), f15 z c0 M = some r → am_Ev 1 15 0 [some (.inr (.inr (1, c0)))] [] M r := by
  intro c0 M r h
  exact am_Ev_seg (sem := am_s15_ z) (cut := ([] : List (Nat × List Bool))) (hs15 z) am_r15 am_k15 (by rw [am_l15]; decide) (fun _ _ _ _ => none) 8 h (fun _ _ _ _ hk => by cases hk)
def F15 (z : Nat) (as : List aV) (M : aM) : Option aR := match as with
  | [.inr (.inr (1, c0))] => f15 z c0 M
  | _ => none
theorem S15 (z : Nat) : am_Snd 1 15 (F15 z) := am_meth (by decide +kernel) (fun as M r has h => by
    rw [am_l15]
    unfold F15 at h
    split at h
    · exact ⟨Nat.le_of_ble_eq_true rfl, e15 z _ _ _ h⟩
    · cases h)
def cd26_0 : List am_E := [(0, .aload_n 0, 1, 0, 0, 0, 0), (1, .iload_n 1, 1, 1, 0, 0, 0), (2, .putfield 32, 3, 2, 2, 0, 0), (5, .aload_n 0, 1, 0, 0, 0, 0), (6, .aload_n 0, 1, 0, 0, 0, 0), (7, .getfield 12, 3, 2, 0, 0, 0), (10, .getfield 145, 3, 5, 3, 0, 0), (13, .putfield 25, 3, 2, 3, 0, 0), (16, .iconst 0, 1, 0, 0, 0, 0), (17, .ireturn, 1, 0, 0, 0, 0)]
def cd26 : List am_E := cd26_0
def am_w26 : List (List (Int32 × Nat) × Nat) := []
set_option maxRecDepth 100000 in
theorem kcd26_0 : cd26_0.all (am_chk am_w26 26) = true := by decide +kernel
theorem am_k26 : cd26.all (am_chk am_w26 26) = true := by
  simp only [cd26, List.all_append, kcd26_0, Bool.and_self]
theorem am_r26 : am_rtc 26 = 1 := by decide +kernel
theorem am_l26 : am_ml 26 = 2 := by decide +kernel
def am_s26_ (z : Nat) : Nat → List aV → aM → Option aR := fun j => (fun _ _ => none)
theorem hs26 (z : Nat) : ∀ j2 : Nat, ∃ d2 : Nat, d2 + 1 ≤ 1 ∧ am_Snd d2 j2 (am_s26_ z j2) := by
  intro j2
  unfold am_s26_
  exact ⟨0, by decide, am_Snd_no j2⟩
/-- ArgumentMender$Reader.fail(I)Z -/
def f26 (z : Nat) (x1 : Int32) (M : aM) : Option aR :=
  let I1 := am_u M.1 1 2 x1
  let I2 := am_u I1 1 3 (I1 2 3)
  some (some (.inl ((0 : Int32) &&& 1)), (I2, M.2))
set_option maxRecDepth 100000 in
set_option maxHeartbeats 4000000 in
theorem e26 (z : Nat) : ∀ (x1 : Int32) (M : aM) (r : aR), f26 z x1 M = some r → am_Ev 1 26 0 [some (.inr (.inr (2, 1))), some (.inl x1)] [] M r := by
  intro x1 M r h
  exact am_Ev_seg (sem := am_s26_ z) (cut := ([] : List (Nat × List Bool))) (hs26 z) am_r26 am_k26 (by rw [am_l26]; decide) (fun _ _ _ _ => none) 11 h (fun _ _ _ _ hk => by cases hk)
def F26 (z : Nat) (as : List aV) (M : aM) : Option aR := match as with
  | [.inr (.inr (2, 1)), .inl x1] => f26 z x1 M
  | _ => none
theorem S26 (z : Nat) : am_Snd 1 26 (F26 z) := am_meth (by decide +kernel) (fun as M r has h => by
    rw [am_l26]
    unfold F26 at h
    split at h
    · exact ⟨Nat.le_of_ble_eq_true rfl, e26 z _ _ _ h⟩
    · cases h)
def cd41_0 : List am_E := [(0, .aload_n 0, 1, 0, 0, 0, 0), (1, .getfield 9, 3, 5, 0, 0, 0), (4, .aload_n 0, 1, 0, 0, 0, 0), (5, .getfield 19, 3, 5, 2, 0, 0), (8, .baload, 1, 0, 0, 0, 0), (9, .bipush 97, 2, 0, 0, 97, 0), (11, .if_icmp .lt 21, 3, 32, 0, 0, 0), (14, .aload_n 0, 1, 0, 0, 0, 0), (15, .getfield 9, 3, 5, 0, 0, 0), (18, .aload_n 0, 1, 0, 0, 0, 0), (19, .getfield 19, 3, 5, 2, 0, 0), (22, .baload, 1, 0, 0, 0, 0), (23, .bipush 122, 2, 0, 0, 122, 0), (25, .if_icmp .gt 7, 3, 32, 0, 0, 0), (28, .iconst 1, 1, 0, 0, 1, 0), (29, .goto 4, 3, 33, 0, 0, 0), (32, .iconst 0, 1, 0, 0, 0, 0), (33, .ireturn, 1, 0, 0, 0, 0)]
def cd41 : List am_E := cd41_0
def am_w41 : List (List (Int32 × Nat) × Nat) := []
set_option maxRecDepth 100000 in
theorem kcd41_0 : cd41_0.all (am_chk am_w41 41) = true := by decide +kernel
theorem am_k41 : cd41.all (am_chk am_w41 41) = true := by
  simp only [cd41, List.all_append, kcd41_0, Bool.and_self]
theorem am_r41 : am_rtc 41 = 1 := by decide +kernel
theorem am_l41 : am_ml 41 = 1 := by decide +kernel
def am_s41_ (z : Nat) : Nat → List aV → aM → Option aR := fun j => (fun _ _ => none)
theorem hs41 (z : Nat) : ∀ j2 : Nat, ∃ d2 : Nat, d2 + 1 ≤ 1 ∧ am_Snd d2 j2 (am_s41_ z j2) := by
  intro j2
  unfold am_s41_
  exact ⟨0, by decide, am_Snd_no j2⟩
/-- ArgumentMender$Tape.isLetter()Z -/
def f41 (z : Nat) (M : aM) : Option aR :=
  if am_inB (M.1 2 2) 800 then
    if (M.1 3 (M.1 2 2).toNatClampNeg) < (97 : Int32) then
      some (some (.inl ((0 : Int32) &&& 1)), M)
    else
      if am_inB (M.1 2 2) 800 then
        if (122 : Int32) < (M.1 3 (M.1 2 2).toNatClampNeg) then
          some (some (.inl ((0 : Int32) &&& 1)), M)
        else
          some (some (.inl ((1 : Int32) &&& 1)), M)
      else
        none
  else
    none
set_option maxRecDepth 100000 in
set_option maxHeartbeats 4000000 in
theorem e41 (z : Nat) : ∀ (M : aM) (r : aR), f41 z  M = some r → am_Ev 1 41 0 [some (.inr (.inr (5, 2)))] [] M r := by
  intro  M r h
  exact am_Ev_seg (sem := am_s41_ z) (cut := ([] : List (Nat × List Bool))) (hs41 z) am_r41 am_k41 (by rw [am_l41]; decide) (fun _ _ _ _ => none) 18 h (fun _ _ _ _ hk => by cases hk)
def F41 (z : Nat) (as : List aV) (M : aM) : Option aR := match as with
  | [.inr (.inr (5, 2))] => f41 z  M
  | _ => none
theorem S41 (z : Nat) : am_Snd 1 41 (F41 z) := am_meth (by decide +kernel) (fun as M r has h => by
    rw [am_l41]
    unfold F41 at h
    split at h
    · exact ⟨Nat.le_of_ble_eq_true rfl, e41 z _ _ h⟩
    · cases h)
def cd42_0 : List am_E := [(0, .aload_n 0, 1, 0, 0, 0, 0), (1, .getfield 9, 3, 5, 0, 0, 0), (4, .aload_n 0, 1, 0, 0, 0, 0), (5, .getfield 19, 3, 5, 2, 0, 0), (8, .baload, 1, 0, 0, 0, 0), (9, .bipush 48, 2, 0, 0, 48, 0), (11, .if_icmp .lt 21, 3, 32, 0, 0, 0), (14, .aload_n 0, 1, 0, 0, 0, 0), (15, .getfield 9, 3, 5, 0, 0, 0), (18, .aload_n 0, 1, 0, 0, 0, 0), (19, .getfield 19, 3, 5, 2, 0, 0), (22, .baload, 1, 0, 0, 0, 0), (23, .bipush 57, 2, 0, 0, 57, 0), (25, .if_icmp .gt 7, 3, 32, 0, 0, 0), (28, .iconst 1, 1, 0, 0, 1, 0), (29, .goto 4, 3, 33, 0, 0, 0), (32, .iconst 0, 1, 0, 0, 0, 0), (33, .ireturn, 1, 0, 0, 0, 0)]
def cd42 : List am_E := cd42_0
def am_w42 : List (List (Int32 × Nat) × Nat) := []
set_option maxRecDepth 100000 in
theorem kcd42_0 : cd42_0.all (am_chk am_w42 42) = true := by decide +kernel
theorem am_k42 : cd42.all (am_chk am_w42 42) = true := by
  simp only [cd42, List.all_append, kcd42_0, Bool.and_self]
theorem am_r42 : am_rtc 42 = 1 := by decide +kernel
theorem am_l42 : am_ml 42 = 1 := by decide +kernel
def am_s42_ (z : Nat) : Nat → List aV → aM → Option aR := fun j => (fun _ _ => none)
theorem hs42 (z : Nat) : ∀ j2 : Nat, ∃ d2 : Nat, d2 + 1 ≤ 1 ∧ am_Snd d2 j2 (am_s42_ z j2) := by
  intro j2
  unfold am_s42_
  exact ⟨0, by decide, am_Snd_no j2⟩
/-- ArgumentMender$Tape.isDigit()Z -/
def f42 (z : Nat) (M : aM) : Option aR :=
  if am_inB (M.1 2 2) 800 then
    if (M.1 3 (M.1 2 2).toNatClampNeg) < (48 : Int32) then
      some (some (.inl ((0 : Int32) &&& 1)), M)
    else
      if am_inB (M.1 2 2) 800 then
        if (57 : Int32) < (M.1 3 (M.1 2 2).toNatClampNeg) then
          some (some (.inl ((0 : Int32) &&& 1)), M)
        else
          some (some (.inl ((1 : Int32) &&& 1)), M)
      else
        none
  else
    none
set_option maxRecDepth 100000 in
set_option maxHeartbeats 4000000 in
theorem e42 (z : Nat) : ∀ (M : aM) (r : aR), f42 z  M = some r → am_Ev 1 42 0 [some (.inr (.inr (5, 2)))] [] M r := by
  intro  M r h
  exact am_Ev_seg (sem := am_s42_ z) (cut := ([] : List (Nat × List Bool))) (hs42 z) am_r42 am_k42 (by rw [am_l42]; decide) (fun _ _ _ _ => none) 18 h (fun _ _ _ _ hk => by cases hk)
def F42 (z : Nat) (as : List aV) (M : aM) : Option aR := match as with
  | [.inr (.inr (5, 2))] => f42 z  M
  | _ => none
theorem S42 (z : Nat) : am_Snd 1 42 (F42 z) := am_meth (by decide +kernel) (fun as M r has h => by
    rw [am_l42]
    unfold F42 at h
    split at h
    · exact ⟨Nat.le_of_ble_eq_true rfl, e42 z _ _ h⟩
    · cases h)
def cd40_0 : List am_E := [(0, .aload_n 0, 1, 0, 0, 0, 0), (1, .getfield 19, 3, 5, 2, 0, 0), (4, .aload_n 0, 1, 0, 0, 0, 0), (5, .getfield 15, 3, 5, 1, 0, 0), (8, .if_icmp .ge 44, 3, 52, 0, 0, 0), (11, .aload_n 0, 1, 0, 0, 0, 0), (12, .getfield 9, 3, 5, 0, 0, 0), (15, .aload_n 0, 1, 0, 0, 0, 0), (16, .getfield 19, 3, 5, 2, 0, 0), (19, .baload, 1, 0, 0, 0, 0), (20, .bipush 32, 2, 0, 0, 32, 0), (22, .if_icmp .eq 17, 3, 39, 0, 0, 0), (25, .aload_n 0, 1, 0, 0, 0, 0), (26, .getfield 9, 3, 5, 0, 0, 0), (29, .aload_n 0, 1, 0, 0, 0, 0), (30, .getfield 19, 3, 5, 2, 0, 0), (33, .baload, 1, 0, 0, 0, 0), (34, .bipush 10, 2, 0, 0, 10, 0), (36, .if_icmp .ne 16, 3, 52, 0, 0, 0), (39, .aload_n 0, 1, 0, 0, 0, 0), (40, .dup, 1, 0, 0, 0, 0), (41, .getfield 19, 3, 5, 2, 0, 0), (44, .iconst 1, 1, 0, 0, 1, 0), (45, .iadd, 1, 0, 0, 0, 0), (46, .putfield 19, 3, 5, 2, 0, 0), (49, .goto (-49), 3, 0, 0, 0, 0), (52, .aload_n 0, 1, 0, 0, 0, 0), (53, .aload_n 0, 1, 0, 0, 0, 0), (54, .getfield 19, 3, 5, 2, 0, 0), (57, .putfield 22, 3, 5, 3, 0, 0), (60, .aload_n 0, 1, 0, 0, 0, 0), (61, .iconst 0, 1, 0, 0, 0, 0), (62, .putfield 25, 3, 5, 5, 0, 0), (65, .aload_n 0, 1, 0, 0, 0, 0), (66, .getfield 19, 3, 5, 2, 0, 0), (69, .aload_n 0, 1, 0, 0, 0, 0), (70, .getfield 15, 3, 5, 1, 0, 0), (73, .if_icmp .lt 11, 3, 84, 0, 0, 0), (76, .aload_n 0, 1, 0, 0, 0, 0), (77, .iconst 0, 1, 0, 0, 0, 0)]
def cd40_1 : List am_E := [(78, .putfield 28, 3, 5, 4, 0, 0), (81, .goto 151, 3, 232, 0, 0, 0), (84, .aload_n 0, 1, 0, 0, 0, 0), (85, .invokevirtual 31, 3, 41, 5000, 0, 0), (88, .ifCond .eq 39, 3, 127, 0, 0, 0), (91, .aload_n 0, 1, 0, 0, 0, 0), (92, .iconst 1, 1, 0, 0, 1, 0), (93, .putfield 28, 3, 5, 4, 0, 0), (96, .aload_n 0, 1, 0, 0, 0, 0), (97, .getfield 19, 3, 5, 2, 0, 0), (100, .aload_n 0, 1, 0, 0, 0, 0), (101, .getfield 15, 3, 5, 1, 0, 0), (104, .if_icmp .ge 128, 3, 232, 0, 0, 0), (107, .aload_n 0, 1, 0, 0, 0, 0), (108, .invokevirtual 31, 3, 41, 5000, 0, 0), (111, .ifCond .eq 121, 3, 232, 0, 0, 0), (114, .aload_n 0, 1, 0, 0, 0, 0), (115, .dup, 1, 0, 0, 0, 0), (116, .getfield 19, 3, 5, 2, 0, 0), (119, .iconst 1, 1, 0, 0, 1, 0), (120, .iadd, 1, 0, 0, 0, 0), (121, .putfield 19, 3, 5, 2, 0, 0), (124, .goto (-28), 3, 96, 0, 0, 0), (127, .aload_n 0, 1, 0, 0, 0, 0), (128, .invokevirtual 35, 3, 42, 5000, 0, 0), (131, .ifCond .eq 68, 3, 199, 0, 0, 0), (134, .aload_n 0, 1, 0, 0, 0, 0), (135, .iconst 2, 1, 0, 0, 2, 0), (136, .putfield 28, 3, 5, 4, 0, 0), (139, .aload_n 0, 1, 0, 0, 0, 0), (140, .getfield 19, 3, 5, 2, 0, 0), (143, .aload_n 0, 1, 0, 0, 0, 0), (144, .getfield 15, 3, 5, 1, 0, 0), (147, .if_icmp .ge 85, 3, 232, 0, 0, 0), (150, .aload_n 0, 1, 0, 0, 0, 0), (151, .invokevirtual 35, 3, 42, 5000, 0, 0), (154, .ifCond .eq 78, 3, 232, 0, 0, 0), (157, .aload_n 0, 1, 0, 0, 0, 0), (158, .ldc 38, 2, 0, 0, 1000000, 0), (160, .aload_n 0, 1, 0, 0, 0, 0)]
def cd40_2 : List am_E := [(161, .getfield 25, 3, 5, 5, 0, 0), (164, .bipush 10, 2, 0, 0, 10, 0), (166, .imul, 1, 0, 0, 0, 0), (167, .aload_n 0, 1, 0, 0, 0, 0), (168, .getfield 9, 3, 5, 0, 0, 0), (171, .aload_n 0, 1, 0, 0, 0, 0), (172, .getfield 19, 3, 5, 2, 0, 0), (175, .baload, 1, 0, 0, 0, 0), (176, .iadd, 1, 0, 0, 0, 0), (177, .bipush 48, 2, 0, 0, 48, 0), (179, .isub, 1, 0, 0, 0, 0), (180, .invokestatic 39, 3, 0, 2, 0, 0), (183, .putfield 25, 3, 5, 5, 0, 0), (186, .aload_n 0, 1, 0, 0, 0, 0), (187, .dup, 1, 0, 0, 0, 0), (188, .getfield 19, 3, 5, 2, 0, 0), (191, .iconst 1, 1, 0, 0, 1, 0), (192, .iadd, 1, 0, 0, 0, 0), (193, .putfield 19, 3, 5, 2, 0, 0), (196, .goto (-57), 3, 139, 0, 0, 0), (199, .aload_n 0, 1, 0, 0, 0, 0), (200, .aload_n 0, 1, 0, 0, 0, 0), (201, .getfield 9, 3, 5, 0, 0, 0), (204, .aload_n 0, 1, 0, 0, 0, 0), (205, .getfield 19, 3, 5, 2, 0, 0), (208, .baload, 1, 0, 0, 0, 0), (209, .bipush 59, 2, 0, 0, 59, 0), (211, .if_icmp .ne 7, 3, 218, 0, 0, 0), (214, .iconst 3, 1, 0, 0, 3, 0), (215, .goto 4, 3, 219, 0, 0, 0), (218, .iconst 4, 1, 0, 0, 4, 0), (219, .putfield 28, 3, 5, 4, 0, 0), (222, .aload_n 0, 1, 0, 0, 0, 0), (223, .dup, 1, 0, 0, 0, 0), (224, .getfield 19, 3, 5, 2, 0, 0), (227, .iconst 1, 1, 0, 0, 1, 0), (228, .iadd, 1, 0, 0, 0, 0), (229, .putfield 19, 3, 5, 2, 0, 0), (232, .return_, 1, 0, 0, 0, 0)]
def cd40 : List am_E := cd40_0 ++ (cd40_1 ++ (cd40_2))
def am_w40 : List (List (Int32 × Nat) × Nat) := []
set_option maxRecDepth 100000 in
theorem kcd40_0 : cd40_0.all (am_chk am_w40 40) = true := by decide +kernel
set_option maxRecDepth 100000 in
theorem kcd40_1 : cd40_1.all (am_chk am_w40 40) = true := by decide +kernel
set_option maxRecDepth 100000 in
theorem kcd40_2 : cd40_2.all (am_chk am_w40 40) = true := by decide +kernel
theorem am_k40 : cd40.all (am_chk am_w40 40) = true := by
  simp only [cd40, List.all_append, kcd40_0, kcd40_1, kcd40_2, Bool.and_self]
theorem am_r40 : am_rtc 40 = 4 := by decide +kernel
theorem am_l40 : am_ml 40 = 1 := by decide +kernel
def am_s40_ (z : Nat) : Nat → List aV → aM → Option aR := fun j => (match Nat.beq j 41 with
  | true => F41 z
  | false => (match Nat.beq j 42 with
  | true => F42 z
  | false => (fun _ _ => none)))
theorem hs40 (z : Nat) : ∀ j2 : Nat, ∃ d2 : Nat, d2 + 1 ≤ 2 ∧ am_Snd d2 j2 (am_s40_ z j2) := by
  intro j2
  unfold am_s40_
  split
  · rename_i he
    rw [am_beq he]
    exact ⟨_, by decide, S41 z⟩
  · skip
    split
    · rename_i he
      rw [am_beq he]
      exact ⟨_, by decide, S42 z⟩
    · skip
      exact ⟨0, by decide, am_Snd_no j2⟩
def f40_96 (z : Nat) : Nat → aM → Option aR
  | 0, _ => none
  | n + 1, M =>
    if (M.1 2 1) ≤ (M.1 2 2) then
      some (none, M)
    else
      am_bi (f41 z M) fun v2 M1 =>
        if v2 = 0 then
          some (none, M1)
        else
          let I3 := am_u M1.1 2 2 ((M1.1 2 2) + (1 : Int32))
          f40_96 z n (I3, M1.2)
set_option maxRecDepth 100000 in
set_option maxHeartbeats 4000000 in
theorem e40_96 (z : Nat) : ∀ (n : Nat) (M : aM) (r : aR), f40_96 z n  M = some r → am_Ev 2 40 96 [some (.inr (.inr (5, 2)))] [] M r := by
  intro n
  induction n with
  | zero =>
    intro  M r h
    cases h
  | succ n ih =>
    intro  M r h
    exact am_Ev_seg (sem := am_s40_ z) (cut := ([(96, [true])] : List (Nat × List Bool))) (hs40 z) am_r40 am_k40 (by rw [am_l40]; decide) (fun pc al st M => (match Nat.beq pc 96 with
      | true => (match al, st with
        | [some (.inr (.inr (5, 2)))], [] => f40_96 z n  M
        | _, _ => none)
      | false => none)) 17 h (fun pc al st M hk => by
      try dsimp only at hk
      split at hk
      · rename_i he
        rw [am_beq he]
        split at hk
        · exact ih _ _ hk
        · cases hk
      · cases hk)
def f40_139 (z : Nat) : Nat → aM → Option aR
  | 0, _ => none
  | n + 1, M =>
    if (M.1 2 1) ≤ (M.1 2 2) then
      some (none, M)
    else
      am_bi (f42 z M) fun v2 M1 =>
        if v2 = 0 then
          some (none, M1)
        else
          if am_inB (M1.1 2 2) 800 then
            let I3 := am_u M1.1 2 5 (if ((((M1.1 2 5) * (10 : Int32)) + (M1.1 3 (M1.1 2 2).toNatClampNeg)) - (48 : Int32)) < (1000000 : Int32) then ((((M1.1 2 5) * (10 : Int32)) + (M1.1 3 (M1.1 2 2).toNatClampNeg)) - (48 : Int32)) else (1000000 : Int32))
            let I4 := am_u I3 2 2 ((I3 2 2) + (1 : Int32))
            f40_139 z n (I4, M1.2)
          else
            none
set_option maxRecDepth 100000 in
set_option maxHeartbeats 4000000 in
theorem e40_139 (z : Nat) : ∀ (n : Nat) (M : aM) (r : aR), f40_139 z n  M = some r → am_Ev 2 40 139 [some (.inr (.inr (5, 2)))] [] M r := by
  intro n
  induction n with
  | zero =>
    intro  M r h
    cases h
  | succ n ih =>
    intro  M r h
    exact am_Ev_seg (sem := am_s40_ z) (cut := ([(139, [true])] : List (Nat × List Bool))) (hs40 z) am_r40 am_k40 (by rw [am_l40]; decide) (fun pc al st M => (match Nat.beq pc 139 with
      | true => (match al, st with
        | [some (.inr (.inr (5, 2)))], [] => f40_139 z n  M
        | _, _ => none)
      | false => none)) 33 h (fun pc al st M hk => by
      try dsimp only at hk
      split at hk
      · rename_i he
        rw [am_beq he]
        split at hk
        · exact ih _ _ hk
        · cases hk
      · cases hk)
def f40_0 (z : Nat) : Nat → aM → Option aR
  | 0, _ => none
  | n + 1, M =>
    if (M.1 2 1) ≤ (M.1 2 2) then
      let I1 := am_u M.1 2 3 (M.1 2 2)
      let I2 := am_u I1 2 5 (0 : Int32)
      if (I2 2 2) < (I2 2 1) then
        am_bi (f41 z (I2, M.2)) fun v4 M3 =>
          if v4 = 0 then
            am_bi (f42 z M3) fun v6 M5 =>
              if v6 = 0 then
                if am_inB (M5.1 2 2) 800 then
                  if ¬ (M5.1 3 (M5.1 2 2).toNatClampNeg) = (59 : Int32) then
                    let I7 := am_u M5.1 2 4 (4 : Int32)
                    let I8 := am_u I7 2 2 ((I7 2 2) + (1 : Int32))
                    some (none, (I8, M5.2))
                  else
                    let I9 := am_u M5.1 2 4 (3 : Int32)
                    let I10 := am_u I9 2 2 ((I9 2 2) + (1 : Int32))
                    some (none, (I10, M5.2))
                else
                  none
              else
                let I11 := am_u M5.1 2 4 (2 : Int32)
                f40_139 z z (I11, M5.2)
          else
            let I12 := am_u M3.1 2 4 (1 : Int32)
            f40_96 z z (I12, M3.2)
      else
        let I13 := am_u I2 2 4 (0 : Int32)
        some (none, (I13, M.2))
    else
      if am_inB (M.1 2 2) 800 then
        if (M.1 3 (M.1 2 2).toNatClampNeg) = (32 : Int32) then
          let I14 := am_u M.1 2 2 ((M.1 2 2) + (1 : Int32))
          f40_0 z n (I14, M.2)
        else
          if am_inB (M.1 2 2) 800 then
            if ¬ (M.1 3 (M.1 2 2).toNatClampNeg) = (10 : Int32) then
              let I15 := am_u M.1 2 3 (M.1 2 2)
              let I16 := am_u I15 2 5 (0 : Int32)
              if (I16 2 2) < (I16 2 1) then
                am_bi (f41 z (I16, M.2)) fun v18 M17 =>
                  if v18 = 0 then
                    am_bi (f42 z M17) fun v20 M19 =>
                      if v20 = 0 then
                        if am_inB (M19.1 2 2) 800 then
                          if ¬ (M19.1 3 (M19.1 2 2).toNatClampNeg) = (59 : Int32) then
                            let I21 := am_u M19.1 2 4 (4 : Int32)
                            let I22 := am_u I21 2 2 ((I21 2 2) + (1 : Int32))
                            some (none, (I22, M19.2))
                          else
                            let I23 := am_u M19.1 2 4 (3 : Int32)
                            let I24 := am_u I23 2 2 ((I23 2 2) + (1 : Int32))
                            some (none, (I24, M19.2))
                        else
                          none
                      else
                        let I25 := am_u M19.1 2 4 (2 : Int32)
                        f40_139 z z (I25, M19.2)
                  else
                    let I26 := am_u M17.1 2 4 (1 : Int32)
                    f40_96 z z (I26, M17.2)
              else
                let I27 := am_u I16 2 4 (0 : Int32)
                some (none, (I27, M.2))
            else
              let I28 := am_u M.1 2 2 ((M.1 2 2) + (1 : Int32))
              f40_0 z n (I28, M.2)
          else
            none
      else
        none
set_option maxRecDepth 100000 in
set_option maxHeartbeats 4000000 in
theorem e40_0 (z : Nat) : ∀ (n : Nat) (M : aM) (r : aR), f40_0 z n  M = some r → am_Ev 2 40 0 [some (.inr (.inr (5, 2)))] [] M r := by
  intro n
  induction n with
  | zero =>
    intro  M r h
    cases h
  | succ n ih =>
    intro  M r h
    exact am_Ev_seg (sem := am_s40_ z) (cut := ([(0, [true]), (96, [true]), (139, [true])] : List (Nat × List Bool))) (hs40 z) am_r40 am_k40 (by rw [am_l40]; decide) (fun pc al st M => (match Nat.beq pc 0 with
      | true => (match al, st with
        | [some (.inr (.inr (5, 2)))], [] => f40_0 z n  M
        | _, _ => none)
      | false => (match Nat.beq pc 96 with
      | true => (match al, st with
        | [some (.inr (.inr (5, 2)))], [] => f40_96 z z  M
        | _, _ => none)
      | false => (match Nat.beq pc 139 with
      | true => (match al, st with
        | [some (.inr (.inr (5, 2)))], [] => f40_139 z z  M
        | _, _ => none)
      | false => none)))) 56 h (fun pc al st M hk => by
      try dsimp only at hk
      split at hk
      · rename_i he
        rw [am_beq he]
        split at hk
        · exact ih _ _ hk
        · cases hk
      · skip
        split at hk
        · rename_i he
          rw [am_beq he]
          split at hk
          · exact e40_96 z _ _ _ hk
          · cases hk
        · skip
          split at hk
          · rename_i he
            rw [am_beq he]
            split at hk
            · exact e40_139 z _ _ _ hk
            · cases hk
          · cases hk)
/-- ArgumentMender$Tape.next()V -/
def f40 (z : Nat) (M : aM) : Option aR := f40_0 z z  M
theorem e40 (z : Nat) : ∀ (M : aM) (r : aR), f40 z  M = some r → am_Ev 2 40 0 [some (.inr (.inr (5, 2)))] [] M r := by
  intro  M r h
  exact e40_0 z _  _ _ h
def F40 (z : Nat) (as : List aV) (M : aM) : Option aR := match as with
  | [.inr (.inr (5, 2))] => f40 z  M
  | _ => none
theorem S40 (z : Nat) : am_Snd 2 40 (F40 z) := am_meth (by decide +kernel) (fun as M r has h => by
    rw [am_l40]
    unfold F40 at h
    split at h
    · exact ⟨Nat.le_of_ble_eq_true rfl, e40 z _ _ h⟩
    · cases h)
def cd24_0 : List am_E := [(0, .aload_n 0, 1, 0, 0, 0, 0), (1, .getfield 12, 3, 2, 0, 0, 0), (4, .getfield 41, 3, 5, 4, 0, 0), (7, .iconst 2, 1, 0, 0, 2, 0), (8, .if_icmp .eq 9, 3, 17, 0, 0, 0), (11, .aload_n 0, 1, 0, 0, 0, 0), (12, .iconst 1, 1, 0, 0, 1, 0), (13, .invokevirtual 81, 3, 26, 2010, 0, 0), (16, .ireturn, 1, 0, 0, 0, 0), (17, .aload_n 0, 1, 0, 0, 0, 0), (18, .getfield 12, 3, 2, 0, 0, 0), (21, .getfield 142, 3, 5, 5, 0, 0), (24, .iload_n 1, 1, 1, 0, 0, 0), (25, .if_icmp .lt 14, 3, 39, 0, 0, 0), (28, .aload_n 0, 1, 0, 0, 0, 0), (29, .getfield 12, 3, 2, 0, 0, 0), (32, .getfield 142, 3, 5, 5, 0, 0), (35, .iload_n 2, 1, 2, 0, 0, 0), (36, .if_icmp .le 9, 3, 45, 0, 0, 0), (39, .aload_n 0, 1, 0, 0, 0, 0), (40, .iconst 2, 1, 0, 0, 2, 0), (41, .invokevirtual 81, 3, 26, 2010, 0, 0), (44, .ireturn, 1, 0, 0, 0, 0), (45, .aload_n 0, 1, 0, 0, 0, 0), (46, .aload_n 0, 1, 0, 0, 0, 0), (47, .getfield 12, 3, 2, 0, 0, 0), (50, .getfield 142, 3, 5, 5, 0, 0), (53, .putfield 94, 3, 2, 4, 0, 0), (56, .aload_n 0, 1, 0, 0, 0, 0), (57, .getfield 12, 3, 2, 0, 0, 0), (60, .invokevirtual 38, 3, 40, 5004, 0, 0), (63, .iconst 1, 1, 0, 0, 1, 0), (64, .ireturn, 1, 0, 0, 0, 0)]
def cd24 : List am_E := cd24_0
def am_w24 : List (List (Int32 × Nat) × Nat) := []
set_option maxRecDepth 100000 in
theorem kcd24_0 : cd24_0.all (am_chk am_w24 24) = true := by decide +kernel
theorem am_k24 : cd24.all (am_chk am_w24 24) = true := by
  simp only [cd24, List.all_append, kcd24_0, Bool.and_self]
theorem am_r24 : am_rtc 24 = 1 := by decide +kernel
theorem am_l24 : am_ml 24 = 3 := by decide +kernel
def am_s24_ (z : Nat) : Nat → List aV → aM → Option aR := fun j => (match Nat.beq j 26 with
  | true => F26 z
  | false => (match Nat.beq j 40 with
  | true => F40 z
  | false => (fun _ _ => none)))
theorem hs24 (z : Nat) : ∀ j2 : Nat, ∃ d2 : Nat, d2 + 1 ≤ 3 ∧ am_Snd d2 j2 (am_s24_ z j2) := by
  intro j2
  unfold am_s24_
  split
  · rename_i he
    rw [am_beq he]
    exact ⟨_, by decide, S26 z⟩
  · skip
    split
    · rename_i he
      rw [am_beq he]
      exact ⟨_, by decide, S40 z⟩
    · skip
      exact ⟨0, by decide, am_Snd_no j2⟩
/-- ArgumentMender$Reader.takeNumber(II)Z -/
def f24 (z : Nat) (x1 : Int32) (x2 : Int32) (M : aM) : Option aR :=
  if (M.1 2 4) = (2 : Int32) then
    if (M.1 2 5) < x1 then
      am_bi (f26 z (2 : Int32) M) fun v2 M1 =>
        some (some (.inl (v2 &&& 1)), M1)
    else
      if (M.1 2 5) ≤ x2 then
        let I3 := am_u M.1 1 4 (M.1 2 5)
        am_bv (f40 z (I3, M.2)) fun M4 =>
          some (some (.inl ((1 : Int32) &&& 1)), M4)
      else
        am_bi (f26 z (2 : Int32) M) fun v6 M5 =>
          some (some (.inl (v6 &&& 1)), M5)
  else
    am_bi (f26 z (1 : Int32) M) fun v8 M7 =>
      some (some (.inl (v8 &&& 1)), M7)
set_option maxRecDepth 100000 in
set_option maxHeartbeats 4000000 in
theorem e24 (z : Nat) : ∀ (x1 : Int32) (x2 : Int32) (M : aM) (r : aR), f24 z x1 x2 M = some r → am_Ev 3 24 0 [some (.inr (.inr (2, 1))), some (.inl x1), some (.inl x2)] [] M r := by
  intro x1 x2 M r h
  exact am_Ev_seg (sem := am_s24_ z) (cut := ([] : List (Nat × List Bool))) (hs24 z) am_r24 am_k24 (by rw [am_l24]; decide) (fun _ _ _ _ => none) 26 h (fun _ _ _ _ hk => by cases hk)
def F24 (z : Nat) (as : List aV) (M : aM) : Option aR := match as with
  | [.inr (.inr (2, 1)), .inl x1, .inl x2] => f24 z x1 x2 M
  | _ => none
theorem S24 (z : Nat) : am_Snd 3 24 (F24 z) := am_meth (by decide +kernel) (fun as M r has h => by
    rw [am_l24]
    unfold F24 at h
    split at h
    · exact ⟨Nat.le_of_ble_eq_true rfl, e24 z _ _ _ _ h⟩
    · cases h)
def cd20_0 : List am_E := [(0, .aload_n 0, 1, 0, 0, 0, 0), (1, .getfield 21, 3, 2, 1, 0, 0), (4, .getfield 107, 3, 1, 4, 0, 0), (7, .bipush 8, 2, 0, 0, 8, 0), (9, .if_icmp .lt 9, 3, 18, 0, 0, 0), (12, .aload_n 0, 1, 0, 0, 0, 0), (13, .iconst 3, 1, 0, 0, 3, 0), (14, .invokevirtual 81, 3, 26, 2010, 0, 0), (17, .ireturn, 1, 0, 0, 0, 0), (18, .aload_n 0, 1, 0, 0, 0, 0), (19, .getfield 12, 3, 2, 0, 0, 0), (22, .invokevirtual 38, 3, 40, 5004, 0, 0), (25, .aload_n 0, 1, 0, 0, 0, 0), (26, .getfield 21, 3, 2, 1, 0, 0), (29, .dup, 1, 0, 0, 0, 0), (30, .getfield 107, 3, 1, 4, 0, 0), (33, .iconst 1, 1, 0, 0, 1, 0), (34, .iadd, 1, 0, 0, 0, 0), (35, .putfield 107, 3, 1, 4, 0, 0), (38, .iconst 1, 1, 0, 0, 1, 0), (39, .ireturn, 1, 0, 0, 0, 0)]
def cd20 : List am_E := cd20_0
def am_w20 : List (List (Int32 × Nat) × Nat) := []
set_option maxRecDepth 100000 in
theorem kcd20_0 : cd20_0.all (am_chk am_w20 20) = true := by decide +kernel
theorem am_k20 : cd20.all (am_chk am_w20 20) = true := by
  simp only [cd20, List.all_append, kcd20_0, Bool.and_self]
theorem am_r20 : am_rtc 20 = 1 := by decide +kernel
theorem am_l20 : am_ml 20 = 1 := by decide +kernel
def am_s20_ (z : Nat) : Nat → List aV → aM → Option aR := fun j => (match Nat.beq j 26 with
  | true => F26 z
  | false => (match Nat.beq j 40 with
  | true => F40 z
  | false => (fun _ _ => none)))
theorem hs20 (z : Nat) : ∀ j2 : Nat, ∃ d2 : Nat, d2 + 1 ≤ 3 ∧ am_Snd d2 j2 (am_s20_ z j2) := by
  intro j2
  unfold am_s20_
  split
  · rename_i he
    rw [am_beq he]
    exact ⟨_, by decide, S26 z⟩
  · skip
    split
    · rename_i he
      rw [am_beq he]
      exact ⟨_, by decide, S40 z⟩
    · skip
      exact ⟨0, by decide, am_Snd_no j2⟩
/-- ArgumentMender$Reader.readClaim()Z -/
def f20 (z : Nat) (M : aM) : Option aR :=
  if (M.1 4 4) < (8 : Int32) then
    am_bv (f40 z M) fun M1 =>
      let I2 := am_u M1.1 4 4 ((M1.1 4 4) + (1 : Int32))
      some (some (.inl ((1 : Int32) &&& 1)), (I2, M1.2))
  else
    am_bi (f26 z (3 : Int32) M) fun v4 M3 =>
      some (some (.inl (v4 &&& 1)), M3)
set_option maxRecDepth 100000 in
set_option maxHeartbeats 4000000 in
theorem e20 (z : Nat) : ∀ (M : aM) (r : aR), f20 z  M = some r → am_Ev 3 20 0 [some (.inr (.inr (2, 1)))] [] M r := by
  intro  M r h
  exact am_Ev_seg (sem := am_s20_ z) (cut := ([] : List (Nat × List Bool))) (hs20 z) am_r20 am_k20 (by rw [am_l20]; decide) (fun _ _ _ _ => none) 18 h (fun _ _ _ _ hk => by cases hk)
def F20 (z : Nat) (as : List aV) (M : aM) : Option aR := match as with
  | [.inr (.inr (2, 1))] => f20 z  M
  | _ => none
theorem S20 (z : Nat) : am_Snd 3 20 (F20 z) := am_meth (by decide +kernel) (fun as M r has h => by
    rw [am_l20]
    unfold F20 at h
    split at h
    · exact ⟨Nat.le_of_ble_eq_true rfl, e20 z _ _ h⟩
    · cases h)
def cd25_0 : List am_E := [(0, .aload_n 0, 1, 0, 0, 0, 0), (1, .getfield 12, 3, 2, 0, 0, 0), (4, .getfield 41, 3, 5, 4, 0, 0), (7, .iconst 3, 1, 0, 0, 3, 0), (8, .if_icmp .eq 9, 3, 17, 0, 0, 0), (11, .aload_n 0, 1, 0, 0, 0, 0), (12, .iconst 1, 1, 0, 0, 1, 0), (13, .invokevirtual 81, 3, 26, 2010, 0, 0), (16, .ireturn, 1, 0, 0, 0, 0), (17, .aload_n 0, 1, 0, 0, 0, 0), (18, .getfield 12, 3, 2, 0, 0, 0), (21, .invokevirtual 38, 3, 40, 5004, 0, 0), (24, .iconst 1, 1, 0, 0, 1, 0), (25, .ireturn, 1, 0, 0, 0, 0)]
def cd25 : List am_E := cd25_0
def am_w25 : List (List (Int32 × Nat) × Nat) := []
set_option maxRecDepth 100000 in
theorem kcd25_0 : cd25_0.all (am_chk am_w25 25) = true := by decide +kernel
theorem am_k25 : cd25.all (am_chk am_w25 25) = true := by
  simp only [cd25, List.all_append, kcd25_0, Bool.and_self]
theorem am_r25 : am_rtc 25 = 1 := by decide +kernel
theorem am_l25 : am_ml 25 = 1 := by decide +kernel
def am_s25_ (z : Nat) : Nat → List aV → aM → Option aR := fun j => (match Nat.beq j 26 with
  | true => F26 z
  | false => (match Nat.beq j 40 with
  | true => F40 z
  | false => (fun _ _ => none)))
theorem hs25 (z : Nat) : ∀ j2 : Nat, ∃ d2 : Nat, d2 + 1 ≤ 3 ∧ am_Snd d2 j2 (am_s25_ z j2) := by
  intro j2
  unfold am_s25_
  split
  · rename_i he
    rw [am_beq he]
    exact ⟨_, by decide, S26 z⟩
  · skip
    split
    · rename_i he
      rw [am_beq he]
      exact ⟨_, by decide, S40 z⟩
    · skip
      exact ⟨0, by decide, am_Snd_no j2⟩
/-- ArgumentMender$Reader.takeSign()Z -/
def f25 (z : Nat) (M : aM) : Option aR :=
  if (M.1 2 4) = (3 : Int32) then
    am_bv (f40 z M) fun M1 =>
      some (some (.inl ((1 : Int32) &&& 1)), M1)
  else
    am_bi (f26 z (1 : Int32) M) fun v3 M2 =>
      some (some (.inl (v3 &&& 1)), M2)
set_option maxRecDepth 100000 in
set_option maxHeartbeats 4000000 in
theorem e25 (z : Nat) : ∀ (M : aM) (r : aR), f25 z  M = some r → am_Ev 3 25 0 [some (.inr (.inr (2, 1)))] [] M r := by
  intro  M r h
  exact am_Ev_seg (sem := am_s25_ z) (cut := ([] : List (Nat × List Bool))) (hs25 z) am_r25 am_k25 (by rw [am_l25]; decide) (fun _ _ _ _ => none) 11 h (fun _ _ _ _ hk => by cases hk)
def F25 (z : Nat) (as : List aV) (M : aM) : Option aR := match as with
  | [.inr (.inr (2, 1))] => f25 z  M
  | _ => none
theorem S25 (z : Nat) : am_Snd 3 25 (F25 z) := am_meth (by decide +kernel) (fun as M r has h => by
    rw [am_l25]
    unfold F25 at h
    split at h
    · exact ⟨Nat.le_of_ble_eq_true rfl, e25 z _ _ h⟩
    · cases h)
def cd29_0 : List am_E := [(0, .lload_n 0, 1, 0, 0, 0, 0), (1, .lconst 0, 1, 0, 0, 0, 0), (2, .lcmp, 1, 0, 0, 0, 0), (3, .ifCond .lt 13, 3, 16, 0, 0, 0), (6, .lload_n 0, 1, 0, 0, 0, 0), (7, .lload_n 2, 1, 2, 0, 0, 0), (8, .lcmp, 1, 0, 0, 0, 0), (9, .ifCond .gt 7, 3, 16, 0, 0, 0), (12, .iconst 1, 1, 0, 0, 1, 0), (13, .goto 4, 3, 17, 0, 0, 0), (16, .iconst 0, 1, 0, 0, 0, 0), (17, .ireturn, 1, 0, 0, 0, 0)]
def cd29 : List am_E := cd29_0
def am_w29 : List (List (Int32 × Nat) × Nat) := []
set_option maxRecDepth 100000 in
theorem kcd29_0 : cd29_0.all (am_chk am_w29 29) = true := by decide +kernel
theorem am_k29 : cd29.all (am_chk am_w29 29) = true := by
  simp only [cd29, List.all_append, kcd29_0, Bool.and_self]
theorem am_r29 : am_rtc 29 = 1 := by decide +kernel
theorem am_l29 : am_ml 29 = 4 := by decide +kernel
def am_s29_ (z : Nat) : Nat → List aV → aM → Option aR := fun j => (fun _ _ => none)
theorem hs29 (z : Nat) : ∀ j2 : Nat, ∃ d2 : Nat, d2 + 1 ≤ 1 ∧ am_Snd d2 j2 (am_s29_ z j2) := by
  intro j2
  unfold am_s29_
  exact ⟨0, by decide, am_Snd_no j2⟩
/-- ArgumentMender$Sight.isUpTo(JJ)Z -/
def f29 (z : Nat) (y0 : Int64) (y2 : Int64) (M : aM) : Option aR :=
  if (lg_cmp y0 (0 : Int64)) < 0 then
    some (some (.inl ((0 : Int32) &&& 1)), M)
  else
    if 0 < (lg_cmp y0 y2) then
      some (some (.inl ((0 : Int32) &&& 1)), M)
    else
      some (some (.inl ((1 : Int32) &&& 1)), M)
set_option maxRecDepth 100000 in
set_option maxHeartbeats 4000000 in
theorem e29 (z : Nat) : ∀ (y0 : Int64) (y2 : Int64) (M : aM) (r : aR), f29 z y0 y2 M = some r → am_Ev 1 29 0 [some (.inr (.inl y0)), none, some (.inr (.inl y2)), none] [] M r := by
  intro y0 y2 M r h
  exact am_Ev_seg (sem := am_s29_ z) (cut := ([] : List (Nat × List Bool))) (hs29 z) am_r29 am_k29 (by rw [am_l29]; decide) (fun _ _ _ _ => none) 12 h (fun _ _ _ _ hk => by cases hk)
def F29 (z : Nat) (as : List aV) (M : aM) : Option aR := match as with
  | [.inr (.inl y0), .inr (.inl y2)] => f29 z y0 y2 M
  | _ => none
theorem S29 (z : Nat) : am_Snd 1 29 (F29 z) := am_meth (by decide +kernel) (fun as M r has h => by
    rw [am_l29]
    unfold F29 at h
    split at h
    · exact ⟨Nat.le_of_ble_eq_true rfl, e29 z _ _ _ _ h⟩
    · cases h)
def cd28_0 : List am_E := [(0, .aload_n 2, 1, 2, 0, 0, 0), (1, .getfield 18, 3, 4, 1, 0, 0), (4, .iconst 3, 1, 0, 0, 3, 0), (5, .irem, 1, 0, 0, 0, 0), (6, .ifCond .eq 5, 3, 11, 0, 0, 0), (9, .iconst 0, 1, 0, 0, 0, 0), (10, .ireturn, 1, 0, 0, 0, 0), (11, .iconst 0, 1, 0, 0, 0, 0), (12, .istore_n 3, 1, 3, 0, 0, 0), (13, .iload_n 3, 1, 3, 0, 0, 0), (14, .iconst 2, 1, 0, 0, 2, 0), (15, .iadd, 1, 0, 0, 0, 0), (16, .aload_n 2, 1, 2, 0, 0, 0), (17, .getfield 18, 3, 4, 1, 0, 0), (20, .if_icmp .ge 66, 3, 86, 0, 0, 0), (23, .aload_n 2, 1, 2, 0, 0, 0), (24, .getfield 24, 3, 4, 2, 0, 0), (27, .iload_n 3, 1, 3, 0, 0, 0), (28, .laload, 1, 0, 0, 0, 0), (29, .aload_n 1, 1, 1, 0, 0, 0), (30, .getfield 28, 3, 1, 5, 0, 0), (33, .iconst 1, 1, 0, 0, 1, 0), (34, .isub, 1, 0, 0, 0, 0), (35, .i2l, 1, 0, 0, 0, 0), (36, .invokestatic 33, 3, 29, 25, 0, 0), (39, .ifCond .eq 39, 3, 78, 0, 0, 0), (42, .aload_n 2, 1, 2, 0, 0, 0), (43, .getfield 24, 3, 4, 2, 0, 0), (46, .iload_n 3, 1, 3, 0, 0, 0), (47, .iconst 1, 1, 0, 0, 1, 0), (48, .iadd, 1, 0, 0, 0, 0), (49, .laload, 1, 0, 0, 0, 0), (50, .aload_n 1, 1, 1, 0, 0, 0), (51, .getfield 37, 3, 1, 1, 0, 0), (54, .i2l, 1, 0, 0, 0, 0), (55, .invokestatic 33, 3, 29, 25, 0, 0), (58, .ifCond .eq 20, 3, 78, 0, 0, 0), (61, .aload_n 2, 1, 2, 0, 0, 0), (62, .getfield 24, 3, 4, 2, 0, 0), (65, .iload_n 3, 1, 3, 0, 0, 0)]
def cd28_1 : List am_E := [(66, .iconst 2, 1, 0, 0, 2, 0), (67, .iadd, 1, 0, 0, 0, 0), (68, .laload, 1, 0, 0, 0, 0), (69, .ldc2_w 39, 3, 0, 0, 0, 99), (72, .invokestatic 33, 3, 29, 25, 0, 0), (75, .ifCond .ne 5, 3, 80, 0, 0, 0), (78, .iconst 0, 1, 0, 0, 0, 0), (79, .ireturn, 1, 0, 0, 0, 0), (80, .iinc 3 3, 3, 3, 0, 3, 0), (83, .goto (-70), 3, 13, 0, 0, 0), (86, .iconst 1, 1, 0, 0, 1, 0), (87, .ireturn, 1, 0, 0, 0, 0)]
def cd28 : List am_E := cd28_0 ++ (cd28_1)
def am_w28 : List (List (Int32 × Nat) × Nat) := []
set_option maxRecDepth 100000 in
theorem kcd28_0 : cd28_0.all (am_chk am_w28 28) = true := by decide +kernel
set_option maxRecDepth 100000 in
theorem kcd28_1 : cd28_1.all (am_chk am_w28 28) = true := by decide +kernel
theorem am_k28 : cd28.all (am_chk am_w28 28) = true := by
  simp only [cd28, List.all_append, kcd28_0, kcd28_1, Bool.and_self]
theorem am_r28 : am_rtc 28 = 1 := by decide +kernel
theorem am_l28 : am_ml 28 = 4 := by decide +kernel
def am_s28_ (z : Nat) : Nat → List aV → aM → Option aR := fun j => (match Nat.beq j 29 with
  | true => F29 z
  | false => (fun _ _ => none))
theorem hs28 (z : Nat) : ∀ j2 : Nat, ∃ d2 : Nat, d2 + 1 ≤ 2 ∧ am_Snd d2 j2 (am_s28_ z j2) := by
  intro j2
  unfold am_s28_
  split
  · rename_i he
    rw [am_beq he]
    exact ⟨_, by decide, S29 z⟩
  · skip
    exact ⟨0, by decide, am_Snd_no j2⟩
def f28_13 (z : Nat) : Nat → Nat → Nat → Int32 → aM → Option aR
  | 0, _, _, _, _ => none
  | n + 1, c1, c2, x3, M =>
    if (M.1 c2 1) ≤ (x3 + (2 : Int32)) then
      some (some (.inl ((1 : Int32) &&& 1)), M)
    else
      if am_inB x3 60 then
        am_bi (f29 z (M.2 (c2 + 1) x3.toNatClampNeg) (Int32.toInt64 ((M.1 c1 5) - (1 : Int32))) M) fun v2 M1 =>
          if v2 = 0 then
            some (some (.inl ((0 : Int32) &&& 1)), M1)
          else
            if am_inB (x3 + (1 : Int32)) 60 then
              am_bi (f29 z (M1.2 (c2 + 1) (x3 + (1 : Int32)).toNatClampNeg) (Int32.toInt64 (M1.1 c1 1)) M1) fun v4 M3 =>
                if v4 = 0 then
                  some (some (.inl ((0 : Int32) &&& 1)), M3)
                else
                  if am_inB (x3 + (2 : Int32)) 60 then
                    am_bi (f29 z (M3.2 (c2 + 1) (x3 + (2 : Int32)).toNatClampNeg) (99 : Int64) M3) fun v6 M5 =>
                      if ¬ v6 = 0 then
                        f28_13 z n c1 c2 (x3 + (3 : Int32)) M5
                      else
                        some (some (.inl ((0 : Int32) &&& 1)), M5)
                  else
                    none
            else
              none
      else
        none
set_option maxRecDepth 100000 in
set_option maxHeartbeats 4000000 in
theorem e28_13 (z : Nat) : ∀ (n : Nat) (c1 : Nat) (c2 : Nat) (x3 : Int32) (M : aM) (r : aR), f28_13 z n c1 c2 x3 M = some r → am_Ev 2 28 13 [none, some (.inr (.inr (1, c1))), some (.inr (.inr (4, c2))), some (.inl x3)] [] M r := by
  intro n
  induction n with
  | zero =>
    intro c1 c2 x3 M r h
    cases h
  | succ n ih =>
    intro c1 c2 x3 M r h
    exact am_Ev_seg (sem := am_s28_ z) (cut := ([(13, [false, true, true, true])] : List (Nat × List Bool))) (hs28 z) am_r28 am_k28 (by rw [am_l28]; decide) (fun pc al st M => (match Nat.beq pc 13 with
      | true => (match al, st with
        | [none, some (.inr (.inr (1, c1))), some (.inr (.inr (4, c2))), some (.inl x3)], [] => f28_13 z n c1 c2 x3 M
        | _, _ => none)
      | false => none)) 41 h (fun pc al st M hk => by
      try dsimp only at hk
      split at hk
      · rename_i he
        rw [am_beq he]
        split at hk
        · exact ih _ _ _ _ _ hk
        · cases hk
      · cases hk)
/-- ArgumentMender$Sight.isSeen(LArgumentMender$Cloth;LArgumentMender$Slot;)Z -/
def f28 (z : Nat) (c1 : Nat) (c2 : Nat) (M : aM) : Option aR :=
  if (3 : Int32) = 0 then
    none
  else
    if ((M.1 c2 1) - (M.1 c2 1) / (3 : Int32) * (3 : Int32)) = 0 then
      f28_13 z z c1 c2 (0 : Int32) M
    else
      some (some (.inl ((0 : Int32) &&& 1)), M)
set_option maxRecDepth 100000 in
set_option maxHeartbeats 4000000 in
theorem e28 (z : Nat) : ∀ (c1 : Nat) (c2 : Nat) (M : aM) (r : aR), f28 z c1 c2 M = some r → am_Ev 2 28 0 [some (.inr (.inr (3, 116))), some (.inr (.inr (1, c1))), some (.inr (.inr (4, c2))), none] [] M r := by
  intro c1 c2 M r h
  exact am_Ev_seg (sem := am_s28_ z) (cut := ([(13, [false, true, true, true])] : List (Nat × List Bool))) (hs28 z) am_r28 am_k28 (by rw [am_l28]; decide) (fun pc al st M => (match Nat.beq pc 13 with
      | true => (match al, st with
        | [none, some (.inr (.inr (1, c1))), some (.inr (.inr (4, c2))), some (.inl x3)], [] => f28_13 z z c1 c2 x3 M
        | _, _ => none)
      | false => none)) 9 h (fun pc al st M hk => by
      try dsimp only at hk
      split at hk
      · rename_i he
        rw [am_beq he]
        split at hk
        · exact e28_13 z _ _ _ _ _ _ hk
        · cases hk
      · cases hk)
def F28 (z : Nat) (as : List aV) (M : aM) : Option aR := match as with
  | [.inr (.inr (3, 116)), .inr (.inr (1, c1)), .inr (.inr (4, c2))] => f28 z c1 c2 M
  | _ => none
theorem S28 (z : Nat) : am_Snd 2 28 (F28 z) := am_meth (by decide +kernel) (fun as M r has h => by
    rw [am_l28]
    unfold F28 at h
    split at h
    · exact ⟨Nat.le_of_ble_eq_true rfl, e28 z _ _ _ _ h⟩
    · cases h)
def cd32_0 : List am_E := [(0, .iconst 0, 1, 0, 0, 0, 0), (1, .istore_n 2, 1, 2, 0, 0, 0), (2, .iload_n 2, 1, 2, 0, 0, 0), (3, .iconst 2, 1, 0, 0, 2, 0), (4, .iadd, 1, 0, 0, 0, 0), (5, .aload_n 1, 1, 1, 0, 0, 0), (6, .getfield 18, 3, 4, 1, 0, 0), (9, .if_icmp .ge 55, 3, 64, 0, 0, 0), (12, .aload_n 1, 1, 1, 0, 0, 0), (13, .getfield 24, 3, 4, 2, 0, 0), (16, .iload_n 2, 1, 2, 0, 0, 0), (17, .laload, 1, 0, 0, 0, 0), (18, .l2i, 1, 0, 0, 0, 0), (19, .istore_n 3, 1, 3, 0, 0, 0), (20, .aload_n 1, 1, 1, 0, 0, 0), (21, .getfield 24, 3, 4, 2, 0, 0), (24, .iload_n 2, 1, 2, 0, 0, 0), (25, .iconst 1, 1, 0, 0, 1, 0), (26, .iadd, 1, 0, 0, 0, 0), (27, .laload, 1, 0, 0, 0, 0), (28, .l2i, 1, 0, 0, 0, 0), (29, .istore 4, 2, 4, 0, 0, 0), (31, .aload_n 0, 1, 0, 0, 0, 0), (32, .getfield 12, 3, 3, 0, 0, 0), (35, .getfield 54, 3, 9, 3, 0, 0), (38, .iload 4, 2, 4, 0, 0, 0), (40, .aaload, 1, 0, 0, 0, 0), (41, .iload_n 3, 1, 3, 0, 0, 0), (42, .iaload, 1, 0, 0, 0, 0), (43, .i2l, 1, 0, 0, 0, 0), (44, .aload_n 1, 1, 1, 0, 0, 0), (45, .getfield 24, 3, 4, 2, 0, 0), (48, .iload_n 2, 1, 2, 0, 0, 0), (49, .iconst 2, 1, 0, 0, 2, 0), (50, .iadd, 1, 0, 0, 0, 0), (51, .laload, 1, 0, 0, 0, 0), (52, .lcmp, 1, 0, 0, 0, 0), (53, .ifCond .eq 5, 3, 58, 0, 0, 0), (56, .iconst 0, 1, 0, 0, 0, 0), (57, .ireturn, 1, 0, 0, 0, 0)]
def cd32_1 : List am_E := [(58, .iinc 2 3, 3, 2, 0, 3, 0), (61, .goto (-59), 3, 2, 0, 0, 0), (64, .iconst 1, 1, 0, 0, 1, 0), (65, .ireturn, 1, 0, 0, 0, 0)]
def cd32 : List am_E := cd32_0 ++ (cd32_1)
def am_w32 : List (List (Int32 × Nat) × Nat) := []
set_option maxRecDepth 100000 in
theorem kcd32_0 : cd32_0.all (am_chk am_w32 32) = true := by decide +kernel
set_option maxRecDepth 100000 in
theorem kcd32_1 : cd32_1.all (am_chk am_w32 32) = true := by decide +kernel
theorem am_k32 : cd32.all (am_chk am_w32 32) = true := by
  simp only [cd32, List.all_append, kcd32_0, kcd32_1, Bool.and_self]
theorem am_r32 : am_rtc 32 = 1 := by decide +kernel
theorem am_l32 : am_ml 32 = 5 := by decide +kernel
def am_s32_ (z : Nat) : Nat → List aV → aM → Option aR := fun j => (fun _ _ => none)
theorem hs32 (z : Nat) : ∀ j2 : Nat, ∃ d2 : Nat, d2 + 1 ≤ 1 ∧ am_Snd d2 j2 (am_s32_ z j2) := by
  intro j2
  unfold am_s32_
  exact ⟨0, by decide, am_Snd_no j2⟩
def f32_2 (z : Nat) : Nat → Nat → Int32 → aM → Option aR
  | 0, _, _, _ => none
  | n + 1, c1, x2, M =>
    if (M.1 c1 1) ≤ (x2 + (2 : Int32)) then
      some (some (.inl ((1 : Int32) &&& 1)), M)
    else
      if am_inB x2 60 then
        if am_inB (x2 + (1 : Int32)) 60 then
          if am_inB (Int64.toInt32 (M.2 (c1 + 1) (x2 + (1 : Int32)).toNatClampNeg)) 13 then
            if am_inB (Int64.toInt32 (M.2 (c1 + 1) x2.toNatClampNeg)) 16 then
              if am_inB (x2 + (2 : Int32)) 60 then
                if (lg_cmp (Int32.toInt64 (M.1 (118 + (1 + 1 * (Int64.toInt32 (M.2 (c1 + 1) (x2 + (1 : Int32)).toNatClampNeg)).toNatClampNeg)) (Int64.toInt32 (M.2 (c1 + 1) x2.toNatClampNeg)).toNatClampNeg)) (M.2 (c1 + 1) (x2 + (2 : Int32)).toNatClampNeg)) = 0 then
                  f32_2 z n c1 (x2 + (3 : Int32)) M
                else
                  some (some (.inl ((0 : Int32) &&& 1)), M)
              else
                none
            else
              none
          else
            none
        else
          none
      else
        none
set_option maxRecDepth 100000 in
set_option maxHeartbeats 4000000 in
theorem e32_2 (z : Nat) : ∀ (n : Nat) (c1 : Nat) (x2 : Int32) (M : aM) (r : aR), f32_2 z n c1 x2 M = some r → am_Ev 1 32 2 [some (.inr (.inr (3, 116))), some (.inr (.inr (4, c1))), some (.inl x2), none, none] [] M r := by
  intro n
  induction n with
  | zero =>
    intro c1 x2 M r h
    cases h
  | succ n ih =>
    intro c1 x2 M r h
    exact am_Ev_seg (sem := am_s32_ z) (cut := ([(2, [true, true, true, false, false])] : List (Nat × List Bool))) (hs32 z) am_r32 am_k32 (by rw [am_l32]; decide) (fun pc al st M => (match Nat.beq pc 2 with
      | true => (match al, st with
        | [some (.inr (.inr (3, 116))), some (.inr (.inr (4, c1))), some (.inl x2), none, none], [] => f32_2 z n c1 x2 M
        | _, _ => none)
      | false => none)) 40 h (fun pc al st M hk => by
      try dsimp only at hk
      split at hk
      · rename_i he
        rw [am_beq he]
        split at hk
        · exact ih _ _ _ _ hk
        · cases hk
      · cases hk)
/-- ArgumentMender$Sight.agrees(LArgumentMender$Slot;)Z -/
def f32 (z : Nat) (c1 : Nat) (M : aM) : Option aR :=
  f32_2 z z c1 (0 : Int32) M
set_option maxRecDepth 100000 in
set_option maxHeartbeats 4000000 in
theorem e32 (z : Nat) : ∀ (c1 : Nat) (M : aM) (r : aR), f32 z c1 M = some r → am_Ev 1 32 0 [some (.inr (.inr (3, 116))), some (.inr (.inr (4, c1))), none, none, none] [] M r := by
  intro c1 M r h
  exact am_Ev_seg (sem := am_s32_ z) (cut := ([(2, [true, true, true, false, false])] : List (Nat × List Bool))) (hs32 z) am_r32 am_k32 (by rw [am_l32]; decide) (fun pc al st M => (match Nat.beq pc 2 with
      | true => (match al, st with
        | [some (.inr (.inr (3, 116))), some (.inr (.inr (4, c1))), some (.inl x2), none, none], [] => f32_2 z z c1 x2 M
        | _, _ => none)
      | false => none)) 4 h (fun pc al st M hk => by
      try dsimp only at hk
      split at hk
      · rename_i he
        rw [am_beq he]
        split at hk
        · exact e32_2 z _ _ _ _ _ hk
        · cases hk
      · cases hk)
def F32 (z : Nat) (as : List aV) (M : aM) : Option aR := match as with
  | [.inr (.inr (3, 116)), .inr (.inr (4, c1))] => f32 z c1 M
  | _ => none
theorem S32 (z : Nat) : am_Snd 1 32 (F32 z) := am_meth (by decide +kernel) (fun as M r has h => by
    rw [am_l32]
    unfold F32 at h
    split at h
    · exact ⟨Nat.le_of_ble_eq_true rfl, e32 z _ _ _ h⟩
    · cases h)
def cd73_0 : List am_E := [(0, .aload_n 0, 1, 0, 0, 0, 0), (1, .aload_n 1, 1, 1, 0, 0, 0), (2, .getfield 45, 3, 1, 2, 0, 0), (5, .putfield 51, 3, 9, 0, 0, 0), (8, .aload_n 0, 1, 0, 0, 0, 0), (9, .iconst 0, 1, 0, 0, 0, 0), (10, .putfield 52, 3, 9, 1, 0, 0), (13, .aload_n 0, 1, 0, 0, 0, 0), (14, .iconst 0, 1, 0, 0, 0, 0), (15, .putfield 55, 3, 9, 2, 0, 0), (18, .aload_n 1, 1, 1, 0, 0, 0), (19, .getfield 58, 3, 1, 9, 0, 0), (22, .iconst 0, 1, 0, 0, 0, 0), (23, .aload_n 0, 1, 0, 0, 0, 0), (24, .getfield 11, 3, 9, 3, 0, 0), (27, .iconst 0, 1, 0, 0, 0, 0), (28, .aaload, 1, 0, 0, 0, 0), (29, .iconst 0, 1, 0, 0, 0, 0), (30, .bipush 16, 2, 0, 0, 16, 0), (32, .invokestatic 61, 3, 0, 1, 0, 0), (35, .return_, 1, 0, 0, 0, 0)]
def cd73 : List am_E := cd73_0
def am_w73 : List (List (Int32 × Nat) × Nat) := []
set_option maxRecDepth 100000 in
theorem kcd73_0 : cd73_0.all (am_chk am_w73 73) = true := by decide +kernel
theorem am_k73 : cd73.all (am_chk am_w73 73) = true := by
  simp only [cd73, List.all_append, kcd73_0, Bool.and_self]
theorem am_r73 : am_rtc 73 = 4 := by decide +kernel
theorem am_l73 : am_ml 73 = 2 := by decide +kernel
def am_s73_ (z : Nat) : Nat → List aV → aM → Option aR := fun j => (fun _ _ => none)
theorem hs73 (z : Nat) : ∀ j2 : Nat, ∃ d2 : Nat, d2 + 1 ≤ 1 ∧ am_Snd d2 j2 (am_s73_ z j2) := by
  intro j2
  unfold am_s73_
  exact ⟨0, by decide, am_Snd_no j2⟩
def f73_35 (z : Nat)  (M : aM) : Option aR :=
  some (none, M)
set_option maxRecDepth 100000 in
set_option maxHeartbeats 4000000 in
theorem e73_35 (z : Nat) : ∀ (M : aM) (r : aR), f73_35 z  M = some r → am_Ev 1 73 35 [none, none] [] M r := by
  intro  M r h
  exact am_Ev_seg (sem := am_s73_ z) (cut := ([] : List (Nat × List Bool))) (hs73 z) am_r73 am_k73 (by rw [am_l73]; decide) (fun _ _ _ _ => none) 2 h (fun _ _ _ _ hk => by cases hk)
/-- ArgumentMender$Years.asTold(LArgumentMender$Cloth;)V -/
def f73 (z : Nat) (c0 : Nat) (c1 : Nat) (M : aM) : Option aR :=
  let I1 := am_u M.1 c0 0 (M.1 c1 2)
  let I2 := am_u I1 c0 1 (0 : Int32)
  let I3 := am_u I2 c0 2 (0 : Int32)
  if am_inB (0 : Int32) 13 then
    if am_cpOk (0 : Int32) (0 : Int32) (16 : Int32) 16 16 then
      let I4 := am_ua I3 ((c0 + 1) + (1 + 1 * (0 : Int32).toNatClampNeg)) (va_cpy (I3 (c1 + 3)) (I3 ((c0 + 1) + (1 + 1 * (0 : Int32).toNatClampNeg))) (0 : Int32).toNatClampNeg (0 : Int32).toNatClampNeg (16 : Int32).toNatClampNeg)
      f73_35 z (I4, M.2)
    else
      none
  else
    none
set_option maxRecDepth 100000 in
set_option maxHeartbeats 4000000 in
theorem e73 (z : Nat) : ∀ (c0 : Nat) (c1 : Nat) (M : aM) (r : aR), f73 z c0 c1 M = some r → am_Ev 1 73 0 [some (.inr (.inr (9, c0))), some (.inr (.inr (1, c1)))] [] M r := by
  intro c0 c1 M r h
  exact am_Ev_seg (sem := am_s73_ z) (cut := ([(35, [false, false])] : List (Nat × List Bool))) (hs73 z) am_r73 am_k73 (by rw [am_l73]; decide) (fun pc al st M => (match Nat.beq pc 35 with
      | true => (match al, st with
        | [none, none], [] => f73_35 z  M
        | _, _ => none)
      | false => none)) 22 h (fun pc al st M hk => by
      try dsimp only at hk
      split at hk
      · rename_i he
        rw [am_beq he]
        split at hk
        · exact e73_35 z _ _ hk
        · cases hk
      · cases hk)
def F73 (z : Nat) (as : List aV) (M : aM) : Option aR := match as with
  | [.inr (.inr (9, c0)), .inr (.inr (1, c1))] => f73 z c0 c1 M
  | _ => none
theorem S73 (z : Nat) : am_Snd 1 73 (F73 z) := am_meth (by decide +kernel) (fun as M r has h => by
    rw [am_l73]
    unfold F73 at h
    split at h
    · exact ⟨Nat.le_of_ble_eq_true rfl, e73 z _ _ _ _ h⟩
    · cases h)
def cd343_0 : List am_E := [(0, .iconst 0, 1, 0, 0, 0, 0), (1, .istore_n 2, 1, 2, 0, 0, 0), (2, .aload_n 0, 1, 0, 0, 0, 0), (3, .arraylength, 1, 0, 0, 0, 0), (4, .istore_n 3, 1, 3, 0, 0, 0), (5, .iload_n 2, 1, 2, 0, 0, 0), (6, .iload_n 3, 1, 3, 0, 0, 0), (7, .if_icmp .ge 13, 3, 20, 0, 0, 0), (10, .aload_n 0, 1, 0, 0, 0, 0), (11, .iload_n 2, 1, 2, 0, 0, 0), (12, .iload_n 1, 1, 1, 0, 0, 0), (13, .iastore, 1, 0, 0, 0, 0), (14, .iinc 2 1, 3, 2, 0, 1, 0), (17, .goto (-12), 3, 5, 0, 0, 0), (20, .return_, 1, 0, 0, 0, 0)]
def cd343 : List am_E := cd343_0
def am_w343 : List (List (Int32 × Nat) × Nat) := []
set_option maxRecDepth 100000 in
theorem kcd343_0 : cd343_0.all (am_chk am_w343 343) = true := by decide +kernel
theorem am_k343 : cd343.all (am_chk am_w343 343) = true := by
  simp only [cd343, List.all_append, kcd343_0, Bool.and_self]
theorem am_r343 : am_rtc 343 = 4 := by decide +kernel
theorem am_l343 : am_ml 343 = 4 := by decide +kernel
def am_s343_ (z : Nat) : Nat → List aV → aM → Option aR := fun j => (fun _ _ => none)
theorem hs343 (z : Nat) : ∀ j2 : Nat, ∃ d2 : Nat, d2 + 1 ≤ 1 ∧ am_Snd d2 j2 (am_s343_ z j2) := by
  intro j2
  unfold am_s343_
  exact ⟨0, by decide, am_Snd_no j2⟩
def f343_k21_5 (z : Nat) : Nat → Nat → Int32 → Int32 → Int32 → aM → Option aR
  | 0, _, _, _, _, _ => none
  | n + 1, c0, x1, x2, x3, M =>
    if x3 ≤ x2 then
      some (none, M)
    else
      if am_inB x2 16 then
        let I1 := am_u M.1 c0 x2.toNatClampNeg x1
        f343_k21_5 z n c0 x1 (x2 + (1 : Int32)) x3 (I1, M.2)
      else
        none
set_option maxRecDepth 100000 in
set_option maxHeartbeats 4000000 in
theorem e343_k21_5 (z : Nat) : ∀ (n : Nat) (c0 : Nat) (x1 : Int32) (x2 : Int32) (x3 : Int32) (M : aM) (r : aR), f343_k21_5 z n c0 x1 x2 x3 M = some r → am_Ev 1 343 5 [some (.inr (.inr (21, c0))), some (.inl x1), some (.inl x2), some (.inl x3)] [] M r := by
  intro n
  induction n with
  | zero =>
    intro c0 x1 x2 x3 M r h
    cases h
  | succ n ih =>
    intro c0 x1 x2 x3 M r h
    exact am_Ev_seg (sem := am_s343_ z) (cut := ([(5, [true, true, true, true])] : List (Nat × List Bool))) (hs343 z) am_r343 am_k343 (by rw [am_l343]; decide) (fun pc al st M => (match Nat.beq pc 5 with
      | true => (match al, st with
        | [some (.inr (.inr (21, c0))), some (.inl x1), some (.inl x2), some (.inl x3)], [] => f343_k21_5 z n c0 x1 x2 x3 M
        | _, _ => none)
      | false => none)) 11 h (fun pc al st M hk => by
      try dsimp only at hk
      split at hk
      · rename_i he
        rw [am_beq he]
        split at hk
        · exact ih _ _ _ _ _ _ hk
        · cases hk
      · cases hk)
/-- java/util/Arrays.fill([II)V for rows of kind 21 -/
def f343_k21 (z : Nat) (c0 : Nat) (x1 : Int32) (M : aM) : Option aR :=
  f343_k21_5 z z c0 x1 (0 : Int32) (nI 16) M
set_option maxRecDepth 100000 in
set_option maxHeartbeats 4000000 in
theorem e343_k21 (z : Nat) : ∀ (c0 : Nat) (x1 : Int32) (M : aM) (r : aR), f343_k21 z c0 x1 M = some r → am_Ev 1 343 0 [some (.inr (.inr (21, c0))), some (.inl x1), none, none] [] M r := by
  intro c0 x1 M r h
  exact am_Ev_seg (sem := am_s343_ z) (cut := ([(5, [true, true, true, true])] : List (Nat × List Bool))) (hs343 z) am_r343 am_k343 (by rw [am_l343]; decide) (fun pc al st M => (match Nat.beq pc 5 with
      | true => (match al, st with
        | [some (.inr (.inr (21, c0))), some (.inl x1), some (.inl x2), some (.inl x3)], [] => f343_k21_5 z z c0 x1 x2 x3 M
        | _, _ => none)
      | false => none)) 7 h (fun pc al st M hk => by
      try dsimp only at hk
      split at hk
      · rename_i he
        rw [am_beq he]
        split at hk
        · exact e343_k21_5 z _ _ _ _ _ _ _ hk
        · cases hk
      · cases hk)
def f343_k22_5 (z : Nat) : Nat → Nat → Int32 → Int32 → Int32 → aM → Option aR
  | 0, _, _, _, _, _ => none
  | n + 1, c0, x1, x2, x3, M =>
    if x3 ≤ x2 then
      some (none, M)
    else
      if am_inB x2 10 then
        let I1 := am_u M.1 c0 x2.toNatClampNeg x1
        f343_k22_5 z n c0 x1 (x2 + (1 : Int32)) x3 (I1, M.2)
      else
        none
set_option maxRecDepth 100000 in
set_option maxHeartbeats 4000000 in
theorem e343_k22_5 (z : Nat) : ∀ (n : Nat) (c0 : Nat) (x1 : Int32) (x2 : Int32) (x3 : Int32) (M : aM) (r : aR), f343_k22_5 z n c0 x1 x2 x3 M = some r → am_Ev 1 343 5 [some (.inr (.inr (22, c0))), some (.inl x1), some (.inl x2), some (.inl x3)] [] M r := by
  intro n
  induction n with
  | zero =>
    intro c0 x1 x2 x3 M r h
    cases h
  | succ n ih =>
    intro c0 x1 x2 x3 M r h
    exact am_Ev_seg (sem := am_s343_ z) (cut := ([(5, [true, true, true, true])] : List (Nat × List Bool))) (hs343 z) am_r343 am_k343 (by rw [am_l343]; decide) (fun pc al st M => (match Nat.beq pc 5 with
      | true => (match al, st with
        | [some (.inr (.inr (22, c0))), some (.inl x1), some (.inl x2), some (.inl x3)], [] => f343_k22_5 z n c0 x1 x2 x3 M
        | _, _ => none)
      | false => none)) 11 h (fun pc al st M hk => by
      try dsimp only at hk
      split at hk
      · rename_i he
        rw [am_beq he]
        split at hk
        · exact ih _ _ _ _ _ _ hk
        · cases hk
      · cases hk)
/-- java/util/Arrays.fill([II)V for rows of kind 22 -/
def f343_k22 (z : Nat) (c0 : Nat) (x1 : Int32) (M : aM) : Option aR :=
  f343_k22_5 z z c0 x1 (0 : Int32) (nI 10) M
set_option maxRecDepth 100000 in
set_option maxHeartbeats 4000000 in
theorem e343_k22 (z : Nat) : ∀ (c0 : Nat) (x1 : Int32) (M : aM) (r : aR), f343_k22 z c0 x1 M = some r → am_Ev 1 343 0 [some (.inr (.inr (22, c0))), some (.inl x1), none, none] [] M r := by
  intro c0 x1 M r h
  exact am_Ev_seg (sem := am_s343_ z) (cut := ([(5, [true, true, true, true])] : List (Nat × List Bool))) (hs343 z) am_r343 am_k343 (by rw [am_l343]; decide) (fun pc al st M => (match Nat.beq pc 5 with
      | true => (match al, st with
        | [some (.inr (.inr (22, c0))), some (.inl x1), some (.inl x2), some (.inl x3)], [] => f343_k22_5 z z c0 x1 x2 x3 M
        | _, _ => none)
      | false => none)) 7 h (fun pc al st M hk => by
      try dsimp only at hk
      split at hk
      · rename_i he
        rw [am_beq he]
        split at hk
        · exact e343_k22_5 z _ _ _ _ _ _ _ hk
        · cases hk
      · cases hk)
def f343_k23_5 (z : Nat) : Nat → Nat → Int32 → Int32 → Int32 → aM → Option aR
  | 0, _, _, _, _, _ => none
  | n + 1, c0, x1, x2, x3, M =>
    if x3 ≤ x2 then
      some (none, M)
    else
      if am_inB x2 9 then
        let I1 := am_u M.1 c0 x2.toNatClampNeg x1
        f343_k23_5 z n c0 x1 (x2 + (1 : Int32)) x3 (I1, M.2)
      else
        none
set_option maxRecDepth 100000 in
set_option maxHeartbeats 4000000 in
theorem e343_k23_5 (z : Nat) : ∀ (n : Nat) (c0 : Nat) (x1 : Int32) (x2 : Int32) (x3 : Int32) (M : aM) (r : aR), f343_k23_5 z n c0 x1 x2 x3 M = some r → am_Ev 1 343 5 [some (.inr (.inr (23, c0))), some (.inl x1), some (.inl x2), some (.inl x3)] [] M r := by
  intro n
  induction n with
  | zero =>
    intro c0 x1 x2 x3 M r h
    cases h
  | succ n ih =>
    intro c0 x1 x2 x3 M r h
    exact am_Ev_seg (sem := am_s343_ z) (cut := ([(5, [true, true, true, true])] : List (Nat × List Bool))) (hs343 z) am_r343 am_k343 (by rw [am_l343]; decide) (fun pc al st M => (match Nat.beq pc 5 with
      | true => (match al, st with
        | [some (.inr (.inr (23, c0))), some (.inl x1), some (.inl x2), some (.inl x3)], [] => f343_k23_5 z n c0 x1 x2 x3 M
        | _, _ => none)
      | false => none)) 11 h (fun pc al st M hk => by
      try dsimp only at hk
      split at hk
      · rename_i he
        rw [am_beq he]
        split at hk
        · exact ih _ _ _ _ _ _ hk
        · cases hk
      · cases hk)
/-- java/util/Arrays.fill([II)V for rows of kind 23 -/
def f343_k23 (z : Nat) (c0 : Nat) (x1 : Int32) (M : aM) : Option aR :=
  f343_k23_5 z z c0 x1 (0 : Int32) (nI 9) M
set_option maxRecDepth 100000 in
set_option maxHeartbeats 4000000 in
theorem e343_k23 (z : Nat) : ∀ (c0 : Nat) (x1 : Int32) (M : aM) (r : aR), f343_k23 z c0 x1 M = some r → am_Ev 1 343 0 [some (.inr (.inr (23, c0))), some (.inl x1), none, none] [] M r := by
  intro c0 x1 M r h
  exact am_Ev_seg (sem := am_s343_ z) (cut := ([(5, [true, true, true, true])] : List (Nat × List Bool))) (hs343 z) am_r343 am_k343 (by rw [am_l343]; decide) (fun pc al st M => (match Nat.beq pc 5 with
      | true => (match al, st with
        | [some (.inr (.inr (23, c0))), some (.inl x1), some (.inl x2), some (.inl x3)], [] => f343_k23_5 z z c0 x1 x2 x3 M
        | _, _ => none)
      | false => none)) 7 h (fun pc al st M hk => by
      try dsimp only at hk
      split at hk
      · rename_i he
        rw [am_beq he]
        split at hk
        · exact e343_k23_5 z _ _ _ _ _ _ _ hk
        · cases hk
      · cases hk)
def f343_k27_5 (z : Nat) : Nat → Nat → Int32 → Int32 → Int32 → aM → Option aR
  | 0, _, _, _, _, _ => none
  | n + 1, c0, x1, x2, x3, M =>
    if x3 ≤ x2 then
      some (none, M)
    else
      if am_inB x2 8 then
        let I1 := am_u M.1 c0 x2.toNatClampNeg x1
        f343_k27_5 z n c0 x1 (x2 + (1 : Int32)) x3 (I1, M.2)
      else
        none
set_option maxRecDepth 100000 in
set_option maxHeartbeats 4000000 in
theorem e343_k27_5 (z : Nat) : ∀ (n : Nat) (c0 : Nat) (x1 : Int32) (x2 : Int32) (x3 : Int32) (M : aM) (r : aR), f343_k27_5 z n c0 x1 x2 x3 M = some r → am_Ev 1 343 5 [some (.inr (.inr (27, c0))), some (.inl x1), some (.inl x2), some (.inl x3)] [] M r := by
  intro n
  induction n with
  | zero =>
    intro c0 x1 x2 x3 M r h
    cases h
  | succ n ih =>
    intro c0 x1 x2 x3 M r h
    exact am_Ev_seg (sem := am_s343_ z) (cut := ([(5, [true, true, true, true])] : List (Nat × List Bool))) (hs343 z) am_r343 am_k343 (by rw [am_l343]; decide) (fun pc al st M => (match Nat.beq pc 5 with
      | true => (match al, st with
        | [some (.inr (.inr (27, c0))), some (.inl x1), some (.inl x2), some (.inl x3)], [] => f343_k27_5 z n c0 x1 x2 x3 M
        | _, _ => none)
      | false => none)) 11 h (fun pc al st M hk => by
      try dsimp only at hk
      split at hk
      · rename_i he
        rw [am_beq he]
        split at hk
        · exact ih _ _ _ _ _ _ hk
        · cases hk
      · cases hk)
/-- java/util/Arrays.fill([II)V for rows of kind 27 -/
def f343_k27 (z : Nat) (c0 : Nat) (x1 : Int32) (M : aM) : Option aR :=
  f343_k27_5 z z c0 x1 (0 : Int32) (nI 8) M
set_option maxRecDepth 100000 in
set_option maxHeartbeats 4000000 in
theorem e343_k27 (z : Nat) : ∀ (c0 : Nat) (x1 : Int32) (M : aM) (r : aR), f343_k27 z c0 x1 M = some r → am_Ev 1 343 0 [some (.inr (.inr (27, c0))), some (.inl x1), none, none] [] M r := by
  intro c0 x1 M r h
  exact am_Ev_seg (sem := am_s343_ z) (cut := ([(5, [true, true, true, true])] : List (Nat × List Bool))) (hs343 z) am_r343 am_k343 (by rw [am_l343]; decide) (fun pc al st M => (match Nat.beq pc 5 with
      | true => (match al, st with
        | [some (.inr (.inr (27, c0))), some (.inl x1), some (.inl x2), some (.inl x3)], [] => f343_k27_5 z z c0 x1 x2 x3 M
        | _, _ => none)
      | false => none)) 7 h (fun pc al st M hk => by
      try dsimp only at hk
      split at hk
      · rename_i he
        rw [am_beq he]
        split at hk
        · exact e343_k27_5 z _ _ _ _ _ _ _ hk
        · cases hk
      · cases hk)
def f343_k28_5 (z : Nat) : Nat → Nat → Int32 → Int32 → Int32 → aM → Option aR
  | 0, _, _, _, _, _ => none
  | n + 1, c0, x1, x2, x3, M =>
    if x3 ≤ x2 then
      some (none, M)
    else
      if am_inB x2 976 then
        let I1 := am_u M.1 c0 x2.toNatClampNeg x1
        f343_k28_5 z n c0 x1 (x2 + (1 : Int32)) x3 (I1, M.2)
      else
        none
set_option maxRecDepth 100000 in
set_option maxHeartbeats 4000000 in
theorem e343_k28_5 (z : Nat) : ∀ (n : Nat) (c0 : Nat) (x1 : Int32) (x2 : Int32) (x3 : Int32) (M : aM) (r : aR), f343_k28_5 z n c0 x1 x2 x3 M = some r → am_Ev 1 343 5 [some (.inr (.inr (28, c0))), some (.inl x1), some (.inl x2), some (.inl x3)] [] M r := by
  intro n
  induction n with
  | zero =>
    intro c0 x1 x2 x3 M r h
    cases h
  | succ n ih =>
    intro c0 x1 x2 x3 M r h
    exact am_Ev_seg (sem := am_s343_ z) (cut := ([(5, [true, true, true, true])] : List (Nat × List Bool))) (hs343 z) am_r343 am_k343 (by rw [am_l343]; decide) (fun pc al st M => (match Nat.beq pc 5 with
      | true => (match al, st with
        | [some (.inr (.inr (28, c0))), some (.inl x1), some (.inl x2), some (.inl x3)], [] => f343_k28_5 z n c0 x1 x2 x3 M
        | _, _ => none)
      | false => none)) 11 h (fun pc al st M hk => by
      try dsimp only at hk
      split at hk
      · rename_i he
        rw [am_beq he]
        split at hk
        · exact ih _ _ _ _ _ _ hk
        · cases hk
      · cases hk)
/-- java/util/Arrays.fill([II)V for rows of kind 28 -/
def f343_k28 (z : Nat) (c0 : Nat) (x1 : Int32) (M : aM) : Option aR :=
  f343_k28_5 z z c0 x1 (0 : Int32) (nI 976) M
set_option maxRecDepth 100000 in
set_option maxHeartbeats 4000000 in
theorem e343_k28 (z : Nat) : ∀ (c0 : Nat) (x1 : Int32) (M : aM) (r : aR), f343_k28 z c0 x1 M = some r → am_Ev 1 343 0 [some (.inr (.inr (28, c0))), some (.inl x1), none, none] [] M r := by
  intro c0 x1 M r h
  exact am_Ev_seg (sem := am_s343_ z) (cut := ([(5, [true, true, true, true])] : List (Nat × List Bool))) (hs343 z) am_r343 am_k343 (by rw [am_l343]; decide) (fun pc al st M => (match Nat.beq pc 5 with
      | true => (match al, st with
        | [some (.inr (.inr (28, c0))), some (.inl x1), some (.inl x2), some (.inl x3)], [] => f343_k28_5 z z c0 x1 x2 x3 M
        | _, _ => none)
      | false => none)) 7 h (fun pc al st M hk => by
      try dsimp only at hk
      split at hk
      · rename_i he
        rw [am_beq he]
        split at hk
        · exact e343_k28_5 z _ _ _ _ _ _ _ hk
        · cases hk
      · cases hk)
def f343_k29_5 (z : Nat) : Nat → Nat → Int32 → Int32 → Int32 → aM → Option aR
  | 0, _, _, _, _, _ => none
  | n + 1, c0, x1, x2, x3, M =>
    if x3 ≤ x2 then
      some (none, M)
    else
      if am_inB x2 1024 then
        let I1 := am_u M.1 c0 x2.toNatClampNeg x1
        f343_k29_5 z n c0 x1 (x2 + (1 : Int32)) x3 (I1, M.2)
      else
        none
set_option maxRecDepth 100000 in
set_option maxHeartbeats 4000000 in
theorem e343_k29_5 (z : Nat) : ∀ (n : Nat) (c0 : Nat) (x1 : Int32) (x2 : Int32) (x3 : Int32) (M : aM) (r : aR), f343_k29_5 z n c0 x1 x2 x3 M = some r → am_Ev 1 343 5 [some (.inr (.inr (29, c0))), some (.inl x1), some (.inl x2), some (.inl x3)] [] M r := by
  intro n
  induction n with
  | zero =>
    intro c0 x1 x2 x3 M r h
    cases h
  | succ n ih =>
    intro c0 x1 x2 x3 M r h
    exact am_Ev_seg (sem := am_s343_ z) (cut := ([(5, [true, true, true, true])] : List (Nat × List Bool))) (hs343 z) am_r343 am_k343 (by rw [am_l343]; decide) (fun pc al st M => (match Nat.beq pc 5 with
      | true => (match al, st with
        | [some (.inr (.inr (29, c0))), some (.inl x1), some (.inl x2), some (.inl x3)], [] => f343_k29_5 z n c0 x1 x2 x3 M
        | _, _ => none)
      | false => none)) 11 h (fun pc al st M hk => by
      try dsimp only at hk
      split at hk
      · rename_i he
        rw [am_beq he]
        split at hk
        · exact ih _ _ _ _ _ _ hk
        · cases hk
      · cases hk)
/-- java/util/Arrays.fill([II)V for rows of kind 29 -/
def f343_k29 (z : Nat) (c0 : Nat) (x1 : Int32) (M : aM) : Option aR :=
  f343_k29_5 z z c0 x1 (0 : Int32) (nI 1024) M
set_option maxRecDepth 100000 in
set_option maxHeartbeats 4000000 in
theorem e343_k29 (z : Nat) : ∀ (c0 : Nat) (x1 : Int32) (M : aM) (r : aR), f343_k29 z c0 x1 M = some r → am_Ev 1 343 0 [some (.inr (.inr (29, c0))), some (.inl x1), none, none] [] M r := by
  intro c0 x1 M r h
  exact am_Ev_seg (sem := am_s343_ z) (cut := ([(5, [true, true, true, true])] : List (Nat × List Bool))) (hs343 z) am_r343 am_k343 (by rw [am_l343]; decide) (fun pc al st M => (match Nat.beq pc 5 with
      | true => (match al, st with
        | [some (.inr (.inr (29, c0))), some (.inl x1), some (.inl x2), some (.inl x3)], [] => f343_k29_5 z z c0 x1 x2 x3 M
        | _, _ => none)
      | false => none)) 7 h (fun pc al st M hk => by
      try dsimp only at hk
      split at hk
      · rename_i he
        rw [am_beq he]
        split at hk
        · exact e343_k29_5 z _ _ _ _ _ _ _ hk
        · cases hk
      · cases hk)
def f343_k30_5 (z : Nat) : Nat → Nat → Int32 → Int32 → Int32 → aM → Option aR
  | 0, _, _, _, _, _ => none
  | n + 1, c0, x1, x2, x3, M =>
    if x3 ≤ x2 then
      some (none, M)
    else
      if am_inB x2 256 then
        let I1 := am_u M.1 c0 x2.toNatClampNeg x1
        f343_k30_5 z n c0 x1 (x2 + (1 : Int32)) x3 (I1, M.2)
      else
        none
set_option maxRecDepth 100000 in
set_option maxHeartbeats 4000000 in
theorem e343_k30_5 (z : Nat) : ∀ (n : Nat) (c0 : Nat) (x1 : Int32) (x2 : Int32) (x3 : Int32) (M : aM) (r : aR), f343_k30_5 z n c0 x1 x2 x3 M = some r → am_Ev 1 343 5 [some (.inr (.inr (30, c0))), some (.inl x1), some (.inl x2), some (.inl x3)] [] M r := by
  intro n
  induction n with
  | zero =>
    intro c0 x1 x2 x3 M r h
    cases h
  | succ n ih =>
    intro c0 x1 x2 x3 M r h
    exact am_Ev_seg (sem := am_s343_ z) (cut := ([(5, [true, true, true, true])] : List (Nat × List Bool))) (hs343 z) am_r343 am_k343 (by rw [am_l343]; decide) (fun pc al st M => (match Nat.beq pc 5 with
      | true => (match al, st with
        | [some (.inr (.inr (30, c0))), some (.inl x1), some (.inl x2), some (.inl x3)], [] => f343_k30_5 z n c0 x1 x2 x3 M
        | _, _ => none)
      | false => none)) 11 h (fun pc al st M hk => by
      try dsimp only at hk
      split at hk
      · rename_i he
        rw [am_beq he]
        split at hk
        · exact ih _ _ _ _ _ _ hk
        · cases hk
      · cases hk)
/-- java/util/Arrays.fill([II)V for rows of kind 30 -/
def f343_k30 (z : Nat) (c0 : Nat) (x1 : Int32) (M : aM) : Option aR :=
  f343_k30_5 z z c0 x1 (0 : Int32) (nI 256) M
set_option maxRecDepth 100000 in
set_option maxHeartbeats 4000000 in
theorem e343_k30 (z : Nat) : ∀ (c0 : Nat) (x1 : Int32) (M : aM) (r : aR), f343_k30 z c0 x1 M = some r → am_Ev 1 343 0 [some (.inr (.inr (30, c0))), some (.inl x1), none, none] [] M r := by
  intro c0 x1 M r h
  exact am_Ev_seg (sem := am_s343_ z) (cut := ([(5, [true, true, true, true])] : List (Nat × List Bool))) (hs343 z) am_r343 am_k343 (by rw [am_l343]; decide) (fun pc al st M => (match Nat.beq pc 5 with
      | true => (match al, st with
        | [some (.inr (.inr (30, c0))), some (.inl x1), some (.inl x2), some (.inl x3)], [] => f343_k30_5 z z c0 x1 x2 x3 M
        | _, _ => none)
      | false => none)) 7 h (fun pc al st M hk => by
      try dsimp only at hk
      split at hk
      · rename_i he
        rw [am_beq he]
        split at hk
        · exact e343_k30_5 z _ _ _ _ _ _ _ hk
        · cases hk
      · cases hk)
def F343 (z : Nat) (as : List aV) (M : aM) : Option aR := match as with
  | [.inr (.inr (21, c0)), .inl x1] => f343_k21 z c0 x1 M
  | [.inr (.inr (22, c0)), .inl x1] => f343_k22 z c0 x1 M
  | [.inr (.inr (23, c0)), .inl x1] => f343_k23 z c0 x1 M
  | [.inr (.inr (27, c0)), .inl x1] => f343_k27 z c0 x1 M
  | [.inr (.inr (28, c0)), .inl x1] => f343_k28 z c0 x1 M
  | [.inr (.inr (29, c0)), .inl x1] => f343_k29 z c0 x1 M
  | [.inr (.inr (30, c0)), .inl x1] => f343_k30 z c0 x1 M
  | _ => none
theorem S343 (z : Nat) : am_Snd 1 343 (F343 z) := am_meth (by decide +kernel) (fun as M r has h => by
    rw [am_l343]
    unfold F343 at h
    split at h
    · exact ⟨Nat.le_of_ble_eq_true rfl, e343_k21 z _ _ _ _ h⟩
    · exact ⟨Nat.le_of_ble_eq_true rfl, e343_k22 z _ _ _ _ h⟩
    · exact ⟨Nat.le_of_ble_eq_true rfl, e343_k23 z _ _ _ _ h⟩
    · exact ⟨Nat.le_of_ble_eq_true rfl, e343_k27 z _ _ _ _ h⟩
    · exact ⟨Nat.le_of_ble_eq_true rfl, e343_k28 z _ _ _ _ h⟩
    · exact ⟨Nat.le_of_ble_eq_true rfl, e343_k29 z _ _ _ _ h⟩
    · exact ⟨Nat.le_of_ble_eq_true rfl, e343_k30 z _ _ _ _ h⟩
    · cases h)
def cd57_0 : List am_E := [(0, .aload_n 0, 1, 0, 0, 0, 0), (1, .getfield 9, 3, 7, 0, 0, 0), (4, .iconst 0, 1, 0, 0, 0, 0), (5, .invokestatic 42, 3, 343, 29, 0, 0), (8, .aload_n 0, 1, 0, 0, 0, 0), (9, .getfield 15, 3, 7, 5, 0, 0), (12, .iconst 0, 1, 0, 0, 0, 0), (13, .invokestatic 42, 3, 343, 29, 0, 0), (16, .aload_n 0, 1, 0, 0, 0, 0), (17, .getfield 15, 3, 7, 5, 0, 0), (20, .iload_n 1, 1, 1, 0, 0, 0), (21, .iload_n 2, 1, 2, 0, 0, 0), (22, .iastore, 1, 0, 0, 0, 0), (23, .aload_n 0, 1, 0, 0, 0, 0), (24, .iconst 0, 1, 0, 0, 0, 0), (25, .putfield 48, 3, 7, 3, 0, 0), (28, .aload_n 0, 1, 0, 0, 0, 0), (29, .iconst 0, 1, 0, 0, 0, 0), (30, .putfield 51, 3, 7, 4, 0, 0), (33, .return_, 1, 0, 0, 0, 0)]
def cd57 : List am_E := cd57_0
def am_w57 : List (List (Int32 × Nat) × Nat) := []
set_option maxRecDepth 100000 in
theorem kcd57_0 : cd57_0.all (am_chk am_w57 57) = true := by decide +kernel
theorem am_k57 : cd57.all (am_chk am_w57 57) = true := by
  simp only [cd57, List.all_append, kcd57_0, Bool.and_self]
theorem am_r57 : am_rtc 57 = 4 := by decide +kernel
theorem am_l57 : am_ml 57 = 3 := by decide +kernel
def am_s57_ (z : Nat) : Nat → List aV → aM → Option aR := fun j => (match Nat.beq j 343 with
  | true => F343 z
  | false => (fun _ _ => none))
theorem hs57 (z : Nat) : ∀ j2 : Nat, ∃ d2 : Nat, d2 + 1 ≤ 2 ∧ am_Snd d2 j2 (am_s57_ z j2) := by
  intro j2
  unfold am_s57_
  split
  · rename_i he
    rw [am_beq he]
    exact ⟨_, by decide, S343 z⟩
  · skip
    exact ⟨0, by decide, am_Snd_no j2⟩
/-- ArgumentMender$Tug.begin(II)V -/
def f57 (z : Nat) (c0 : Nat) (x1 : Int32) (x2 : Int32) (M : aM) : Option aR :=
  am_bv (f343_k21 z (c0 + 1) (0 : Int32) M) fun M1 =>
    am_bv (f343_k27 z (c0 + 2) (0 : Int32) M1) fun M2 =>
      if am_inB x1 8 then
        let I3 := am_u M2.1 (c0 + 2) x1.toNatClampNeg x2
        let I4 := am_u I3 c0 3 (0 : Int32)
        let I5 := am_u I4 c0 4 (0 : Int32)
        some (none, (I5, M2.2))
      else
        none
set_option maxRecDepth 100000 in
set_option maxHeartbeats 4000000 in
theorem e57 (z : Nat) : ∀ (c0 : Nat) (x1 : Int32) (x2 : Int32) (M : aM) (r : aR), f57 z c0 x1 x2 M = some r → am_Ev 2 57 0 [some (.inr (.inr (7, c0))), some (.inl x1), some (.inl x2)] [] M r := by
  intro c0 x1 x2 M r h
  exact am_Ev_seg (sem := am_s57_ z) (cut := ([] : List (Nat × List Bool))) (hs57 z) am_r57 am_k57 (by rw [am_l57]; decide) (fun _ _ _ _ => none) 21 h (fun _ _ _ _ hk => by cases hk)
def F57 (z : Nat) (as : List aV) (M : aM) : Option aR := match as with
  | [.inr (.inr (7, c0)), .inl x1, .inl x2] => f57 z c0 x1 x2 M
  | _ => none
theorem S57 (z : Nat) : am_Snd 2 57 (F57 z) := am_meth (by decide +kernel) (fun as M r has h => by
    rw [am_l57]
    unfold F57 at h
    split at h
    · exact ⟨Nat.le_of_ble_eq_true rfl, e57 z _ _ _ _ _ h⟩
    · cases h)
