def cd153_0 : List am_E := [(0, .aload_n 0, 1, 0, 0, 0, 0), (1, .getfield 19, 3, 10, 1, 0, 0), (4, .getfield 350, 3, 1, 15, 0, 0), (7, .iload_n 1, 1, 1, 0, 0, 0), (8, .iload_n 2, 1, 2, 0, 0, 0), (9, .iload_n 3, 1, 3, 0, 0, 0), (10, .iload 4, 2, 4, 0, 0, 0), (12, .invokevirtual 354, 3, 1, 40, 0, 0), (15, .ifCond .ne 6, 3, 21, 0, 0, 0), (18, .bipush (-5), 2, 0, 0, (-5), 0), (20, .ireturn, 1, 0, 0, 0, 0), (21, .aload_n 0, 1, 0, 0, 0, 0), (22, .invokevirtual 91, 3, 84, 10004, 0, 0), (25, .aload_n 0, 1, 0, 0, 0, 0), (26, .getfield 33, 3, 10, 3, 0, 0), (29, .aload_n 0, 1, 0, 0, 0, 0), (30, .getfield 19, 3, 10, 1, 0, 0), (33, .aload_n 0, 1, 0, 0, 0, 0), (34, .getfield 26, 3, 10, 2, 0, 0), (37, .getfield 147, 3, 9, 3, 0, 0), (40, .aload_n 0, 1, 0, 0, 0, 0), (41, .getfield 19, 3, 10, 1, 0, 0), (44, .getfield 151, 3, 1, 1, 0, 0), (47, .aaload, 1, 0, 0, 0, 0), (48, .invokevirtual 161, 3, 66, 8020, 0, 0), (51, .ireturn, 1, 0, 0, 0, 0)]
def cd153 : List am_E := cd153_0
def am_w153 : List (List (Int32 × Nat) × Nat) := []
set_option maxRecDepth 100000 in
theorem kcd153_0 : cd153_0.all (am_chk am_w153 153) = true := by decide +kernel
theorem am_k153 : cd153.all (am_chk am_w153 153) = true := by
  simp only [cd153, List.all_append, kcd153_0, Bool.and_self]
theorem am_r153 : am_rtc 153 = 0 := by decide +kernel
theorem am_l153 : am_ml 153 = 5 := by decide +kernel
def am_s153_ (z : Nat) : Nat → List aV → aM → Option aR := fun j => (match Nat.beq j 1 with
  | true => F1 z
  | false => (match Nat.beq j 66 with
  | true => F66 z
  | false => (match Nat.beq j 84 with
  | true => F84 z
  | false => (fun _ _ => none))))
theorem hs153 (z : Nat) : ∀ j2 : Nat, ∃ d2 : Nat, d2 + 1 ≤ 6 ∧ am_Snd d2 j2 (am_s153_ z j2) := by
  intro j2
  unfold am_s153_
  split
  · rename_i he
    rw [am_beq he]
    exact ⟨_, by decide, S1 z⟩
  · skip
    split
    · rename_i he
      rw [am_beq he]
      exact ⟨_, by decide, S66 z⟩
    · skip
      split
      · rename_i he
        rw [am_beq he]
        exact ⟨_, by decide, S84 z⟩
      · skip
        exact ⟨0, by decide, am_Snd_no j2⟩
/-- ArgumentMender.act(IIII)I -/
def f153 (z : Nat) (x1 : Int32) (x2 : Int32) (x3 : Int32) (x4 : Int32) (M : aM) : Option aR :=
  am_bi (f1 z 27 x1 x2 x3 x4 M) fun v2 M1 =>
    if ¬ v2 = 0 then
      am_bv (f84 z M1) fun M3 =>
        if am_inB (M3.1 18 1) 13 then
          am_bi (f66 z 67 18 (33 + (1 + 1 * (M3.1 18 1).toNatClampNeg)) M3) fun v5 M4 =>
            some (some (.inl v5), M4)
        else
          none
    else
      some (some (.inl (-5 : Int32)), M1)
set_option maxRecDepth 100000 in
set_option maxHeartbeats 4000000 in
theorem e153 (z : Nat) : ∀ (x1 : Int32) (x2 : Int32) (x3 : Int32) (x4 : Int32) (M : aM) (r : aR), f153 z x1 x2 x3 x4 M = some r → am_Ev 6 153 0 [some (.inr (.inr (10, 0))), some (.inl x1), some (.inl x2), some (.inl x3), some (.inl x4)] [] M r := by
  intro x1 x2 x3 x4 M r h
  exact am_Ev_seg (sem := am_s153_ z) (cut := ([] : List (Nat × List Bool))) (hs153 z) am_r153 am_k153 (by rw [am_l153]; decide) (fun _ _ _ _ => none) 25 h (fun _ _ _ _ hk => by cases hk)
def F153 (z : Nat) (as : List aV) (M : aM) : Option aR := match as with
  | [.inr (.inr (10, 0)), .inl x1, .inl x2, .inl x3, .inl x4] => f153 z x1 x2 x3 x4 M
  | _ => none
theorem S153 (z : Nat) : am_Snd 6 153 (F153 z) := am_meth (by decide +kernel) (fun as M r has h => by
    rw [am_l153]
    unfold F153 at h
    split at h
    · exact ⟨Nat.le_of_ble_eq_true rfl, e153 z _ _ _ _ _ _ h⟩
    · cases h)
def cd151_0 : List am_E := [(0, .aload_n 0, 1, 0, 0, 0, 0), (1, .getfield 19, 3, 10, 1, 0, 0), (4, .iload_n 1, 1, 1, 0, 0, 0), (5, .invokevirtual 112, 3, 9, 1010, 0, 0), (8, .ifCond .eq 24, 3, 32, 0, 0, 0), (11, .iload_n 2, 1, 2, 0, 0, 0), (12, .iconst 1, 1, 0, 0, 1, 0), (13, .bipush 60, 2, 0, 0, 60, 0), (15, .invokestatic 215, 3, 165, 35, 0, 0), (18, .ifCond .eq 14, 3, 32, 0, 0, 0), (21, .aload_n 0, 1, 0, 0, 0, 0), (22, .getfield 19, 3, 10, 1, 0, 0), (25, .iload_n 3, 1, 3, 0, 0, 0), (26, .invokevirtual 172, 3, 12, 1010, 0, 0), (29, .ifCond .ne 6, 3, 35, 0, 0, 0), (32, .bipush (-2), 2, 0, 0, (-2), 0), (34, .ireturn, 1, 0, 0, 0, 0), (35, .aload_n 0, 1, 0, 0, 0, 0), (36, .iconst 0, 1, 0, 0, 0, 0), (37, .iload_n 1, 1, 1, 0, 0, 0), (38, .iload_n 2, 1, 2, 0, 0, 0), (39, .iload_n 3, 1, 3, 0, 0, 0), (40, .invokevirtual 346, 3, 153, 10040, 0, 0), (43, .ireturn, 1, 0, 0, 0, 0)]
def cd151 : List am_E := cd151_0
def am_w151 : List (List (Int32 × Nat) × Nat) := []
set_option maxRecDepth 100000 in
theorem kcd151_0 : cd151_0.all (am_chk am_w151 151) = true := by decide +kernel
theorem am_k151 : cd151.all (am_chk am_w151 151) = true := by
  simp only [cd151, List.all_append, kcd151_0, Bool.and_self]
theorem am_r151 : am_rtc 151 = 0 := by decide +kernel
theorem am_l151 : am_ml 151 = 4 := by decide +kernel
def am_s151_ (z : Nat) : Nat → List aV → aM → Option aR := fun j => (match Nat.beq j 9 with
  | true => F9 z
  | false => (match Nat.beq j 12 with
  | true => F12 z
  | false => (match Nat.beq j 153 with
  | true => F153 z
  | false => (match Nat.beq j 165 with
  | true => F165 z
  | false => (fun _ _ => none)))))
theorem hs151 (z : Nat) : ∀ j2 : Nat, ∃ d2 : Nat, d2 + 1 ≤ 7 ∧ am_Snd d2 j2 (am_s151_ z j2) := by
  intro j2
  unfold am_s151_
  split
  · rename_i he
    rw [am_beq he]
    exact ⟨_, by decide, S9 z⟩
  · skip
    split
    · rename_i he
      rw [am_beq he]
      exact ⟨_, by decide, S12 z⟩
    · skip
      split
      · rename_i he
        rw [am_beq he]
        exact ⟨_, by decide, S153 z⟩
      · skip
        split
        · rename_i he
          rw [am_beq he]
          exact ⟨_, by decide, S165 z⟩
        · skip
          exact ⟨0, by decide, am_Snd_no j2⟩
/-- ArgumentMender.sews(III)I -/
def f151 (z : Nat) (x1 : Int32) (x2 : Int32) (x3 : Int32) (M : aM) : Option aR :=
  am_bi (f9 z 18 x1 M) fun v2 M1 =>
    if v2 = 0 then
      some (some (.inl (-2 : Int32)), M1)
    else
      am_bi (f165 z x2 (1 : Int32) (60 : Int32) M1) fun v4 M3 =>
        if v4 = 0 then
          some (some (.inl (-2 : Int32)), M3)
        else
          am_bi (f12 z 18 x3 M3) fun v6 M5 =>
            if ¬ v6 = 0 then
              am_bi (f153 z (0 : Int32) x1 x2 x3 M5) fun v8 M7 =>
                some (some (.inl v8), M7)
            else
              some (some (.inl (-2 : Int32)), M5)
set_option maxRecDepth 100000 in
set_option maxHeartbeats 4000000 in
theorem e151 (z : Nat) : ∀ (x1 : Int32) (x2 : Int32) (x3 : Int32) (M : aM) (r : aR), f151 z x1 x2 x3 M = some r → am_Ev 7 151 0 [some (.inr (.inr (10, 0))), some (.inl x1), some (.inl x2), some (.inl x3)] [] M r := by
  intro x1 x2 x3 M r h
  exact am_Ev_seg (sem := am_s151_ z) (cut := ([] : List (Nat × List Bool))) (hs151 z) am_r151 am_k151 (by rw [am_l151]; decide) (fun _ _ _ _ => none) 23 h (fun _ _ _ _ hk => by cases hk)
def F151 (z : Nat) (as : List aV) (M : aM) : Option aR := match as with
  | [.inr (.inr (10, 0)), .inl x1, .inl x2, .inl x3] => f151 z x1 x2 x3 M
  | _ => none
theorem S151 (z : Nat) : am_Snd 7 151 (F151 z) := am_meth (by decide +kernel) (fun as M r has h => by
    rw [am_l151]
    unfold F151 at h
    split at h
    · exact ⟨Nat.le_of_ble_eq_true rfl, e151 z _ _ _ _ _ h⟩
    · cases h)
def cd152_0 : List am_E := [(0, .aload_n 0, 1, 0, 0, 0, 0), (1, .getfield 19, 3, 10, 1, 0, 0), (4, .iload_n 1, 1, 1, 0, 0, 0), (5, .invokevirtual 138, 3, 8, 1010, 0, 0), (8, .ifCond .eq 24, 3, 32, 0, 0, 0), (11, .iload_n 2, 1, 2, 0, 0, 0), (12, .iconst 1, 1, 0, 0, 1, 0), (13, .bipush 90, 2, 0, 0, 90, 0), (15, .invokestatic 215, 3, 165, 35, 0, 0), (18, .ifCond .eq 14, 3, 32, 0, 0, 0), (21, .aload_n 0, 1, 0, 0, 0, 0), (22, .getfield 19, 3, 10, 1, 0, 0), (25, .iload_n 3, 1, 3, 0, 0, 0), (26, .invokevirtual 172, 3, 12, 1010, 0, 0), (29, .ifCond .ne 6, 3, 35, 0, 0, 0), (32, .bipush (-2), 2, 0, 0, (-2), 0), (34, .ireturn, 1, 0, 0, 0, 0), (35, .aload_n 0, 1, 0, 0, 0, 0), (36, .iconst 1, 1, 0, 0, 1, 0), (37, .iload_n 1, 1, 1, 0, 0, 0), (38, .iload_n 2, 1, 2, 0, 0, 0), (39, .iload_n 3, 1, 3, 0, 0, 0), (40, .invokevirtual 346, 3, 153, 10040, 0, 0), (43, .ireturn, 1, 0, 0, 0, 0)]
def cd152 : List am_E := cd152_0
def am_w152 : List (List (Int32 × Nat) × Nat) := []
set_option maxRecDepth 100000 in
theorem kcd152_0 : cd152_0.all (am_chk am_w152 152) = true := by decide +kernel
theorem am_k152 : cd152.all (am_chk am_w152 152) = true := by
  simp only [cd152, List.all_append, kcd152_0, Bool.and_self]
theorem am_r152 : am_rtc 152 = 0 := by decide +kernel
theorem am_l152 : am_ml 152 = 4 := by decide +kernel
def am_s152_ (z : Nat) : Nat → List aV → aM → Option aR := fun j => (match Nat.beq j 8 with
  | true => F8 z
  | false => (match Nat.beq j 12 with
  | true => F12 z
  | false => (match Nat.beq j 153 with
  | true => F153 z
  | false => (match Nat.beq j 165 with
  | true => F165 z
  | false => (fun _ _ => none)))))
theorem hs152 (z : Nat) : ∀ j2 : Nat, ∃ d2 : Nat, d2 + 1 ≤ 7 ∧ am_Snd d2 j2 (am_s152_ z j2) := by
  intro j2
  unfold am_s152_
  split
  · rename_i he
    rw [am_beq he]
    exact ⟨_, by decide, S8 z⟩
  · skip
    split
    · rename_i he
      rw [am_beq he]
      exact ⟨_, by decide, S12 z⟩
    · skip
      split
      · rename_i he
        rw [am_beq he]
        exact ⟨_, by decide, S153 z⟩
      · skip
        split
        · rename_i he
          rw [am_beq he]
          exact ⟨_, by decide, S165 z⟩
        · skip
          exact ⟨0, by decide, am_Snd_no j2⟩
/-- ArgumentMender.quarrels(III)I -/
def f152 (z : Nat) (x1 : Int32) (x2 : Int32) (x3 : Int32) (M : aM) : Option aR :=
  am_bi (f8 z 18 x1 M) fun v2 M1 =>
    if v2 = 0 then
      some (some (.inl (-2 : Int32)), M1)
    else
      am_bi (f165 z x2 (1 : Int32) (90 : Int32) M1) fun v4 M3 =>
        if v4 = 0 then
          some (some (.inl (-2 : Int32)), M3)
        else
          am_bi (f12 z 18 x3 M3) fun v6 M5 =>
            if ¬ v6 = 0 then
              am_bi (f153 z (1 : Int32) x1 x2 x3 M5) fun v8 M7 =>
                some (some (.inl v8), M7)
            else
              some (some (.inl (-2 : Int32)), M5)
set_option maxRecDepth 100000 in
set_option maxHeartbeats 4000000 in
theorem e152 (z : Nat) : ∀ (x1 : Int32) (x2 : Int32) (x3 : Int32) (M : aM) (r : aR), f152 z x1 x2 x3 M = some r → am_Ev 7 152 0 [some (.inr (.inr (10, 0))), some (.inl x1), some (.inl x2), some (.inl x3)] [] M r := by
  intro x1 x2 x3 M r h
  exact am_Ev_seg (sem := am_s152_ z) (cut := ([] : List (Nat × List Bool))) (hs152 z) am_r152 am_k152 (by rw [am_l152]; decide) (fun _ _ _ _ => none) 23 h (fun _ _ _ _ hk => by cases hk)
def F152 (z : Nat) (as : List aV) (M : aM) : Option aR := match as with
  | [.inr (.inr (10, 0)), .inl x1, .inl x2, .inl x3] => f152 z x1 x2 x3 M
  | _ => none
theorem S152 (z : Nat) : am_Snd 7 152 (F152 z) := am_meth (by decide +kernel) (fun as M r has h => by
    rw [am_l152]
    unfold F152 at h
    split at h
    · exact ⟨Nat.le_of_ble_eq_true rfl, e152 z _ _ _ _ _ h⟩
    · cases h)
def cd154_0 : List am_E := [(0, .aload_n 0, 1, 0, 0, 0, 0), (1, .getfield 19, 3, 10, 1, 0, 0), (4, .invokevirtual 176, 3, 7, 1000, 0, 0), (7, .ifCond .ne 6, 3, 13, 0, 0, 0), (10, .bipush (-2), 2, 0, 0, (-2), 0), (12, .ireturn, 1, 0, 0, 0, 0), (13, .aload_n 0, 1, 0, 0, 0, 0), (14, .getfield 19, 3, 10, 1, 0, 0), (17, .getfield 350, 3, 1, 15, 0, 0), (20, .getfield 357, 3, 0, 0, 0, 0), (23, .ifCond .ne 6, 3, 29, 0, 0, 0), (26, .bipush (-5), 2, 0, 0, (-5), 0), (28, .ireturn, 1, 0, 0, 0, 0), (29, .aload_n 0, 1, 0, 0, 0, 0), (30, .getfield 19, 3, 10, 1, 0, 0), (33, .getfield 350, 3, 1, 15, 0, 0), (36, .dup, 1, 0, 0, 0, 0), (37, .getfield 357, 3, 0, 0, 0, 0), (40, .iconst 1, 1, 0, 0, 1, 0), (41, .isub, 1, 0, 0, 0, 0), (42, .putfield 357, 3, 0, 0, 0, 0), (45, .aload_n 0, 1, 0, 0, 0, 0), (46, .invokevirtual 91, 3, 84, 10004, 0, 0), (49, .aload_n 0, 1, 0, 0, 0, 0), (50, .getfield 19, 3, 10, 1, 0, 0), (53, .getfield 350, 3, 1, 15, 0, 0), (56, .getfield 357, 3, 0, 0, 0, 0), (59, .ireturn, 1, 0, 0, 0, 0)]
def cd154 : List am_E := cd154_0
def am_w154 : List (List (Int32 × Nat) × Nat) := []
set_option maxRecDepth 100000 in
theorem kcd154_0 : cd154_0.all (am_chk am_w154 154) = true := by decide +kernel
theorem am_k154 : cd154.all (am_chk am_w154 154) = true := by
  simp only [cd154, List.all_append, kcd154_0, Bool.and_self]
theorem am_r154 : am_rtc 154 = 0 := by decide +kernel
theorem am_l154 : am_ml 154 = 1 := by decide +kernel
def am_s154_ (z : Nat) : Nat → List aV → aM → Option aR := fun j => (match Nat.beq j 7 with
  | true => F7 z
  | false => (match Nat.beq j 84 with
  | true => F84 z
  | false => (fun _ _ => none)))
theorem hs154 (z : Nat) : ∀ j2 : Nat, ∃ d2 : Nat, d2 + 1 ≤ 6 ∧ am_Snd d2 j2 (am_s154_ z j2) := by
  intro j2
  unfold am_s154_
  split
  · rename_i he
    rw [am_beq he]
    exact ⟨_, by decide, S7 z⟩
  · skip
    split
    · rename_i he
      rw [am_beq he]
      exact ⟨_, by decide, S84 z⟩
    · skip
      exact ⟨0, by decide, am_Snd_no j2⟩
/-- ArgumentMender.undo()I -/
def f154 (z : Nat) (M : aM) : Option aR :=
  am_bi (f7 z 18 M) fun v2 M1 =>
    if ¬ v2 = 0 then
      if ¬ (M1.1 27 0) = 0 then
        let I3 := am_u M1.1 27 0 ((M1.1 27 0) - (1 : Int32))
        am_bv (f84 z (I3, M1.2)) fun M4 =>
          some (some (.inl (M4.1 27 0)), M4)
      else
        some (some (.inl (-5 : Int32)), M1)
    else
      some (some (.inl (-2 : Int32)), M1)
set_option maxRecDepth 100000 in
set_option maxHeartbeats 4000000 in
theorem e154 (z : Nat) : ∀ (M : aM) (r : aR), f154 z  M = some r → am_Ev 6 154 0 [some (.inr (.inr (10, 0)))] [] M r := by
  intro  M r h
  exact am_Ev_seg (sem := am_s154_ z) (cut := ([] : List (Nat × List Bool))) (hs154 z) am_r154 am_k154 (by rw [am_l154]; decide) (fun _ _ _ _ => none) 25 h (fun _ _ _ _ hk => by cases hk)
def F154 (z : Nat) (as : List aV) (M : aM) : Option aR := match as with
  | [.inr (.inr (10, 0))] => f154 z  M
  | _ => none
theorem S154 (z : Nat) : am_Snd 6 154 (F154 z) := am_meth (by decide +kernel) (fun as M r has h => by
    rw [am_l154]
    unfold F154 at h
    split at h
    · exact ⟨Nat.le_of_ble_eq_true rfl, e154 z _ _ h⟩
    · cases h)
def cd155_0 : List am_E := [(0, .aload_n 0, 1, 0, 0, 0, 0), (1, .getfield 19, 3, 10, 1, 0, 0), (4, .invokevirtual 176, 3, 7, 1000, 0, 0), (7, .ifCond .ne 6, 3, 13, 0, 0, 0), (10, .bipush (-2), 2, 0, 0, (-2), 0), (12, .ireturn, 1, 0, 0, 0, 0), (13, .aload_n 0, 1, 0, 0, 0, 0), (14, .getfield 19, 3, 10, 1, 0, 0), (17, .getfield 350, 3, 1, 15, 0, 0), (20, .getfield 357, 3, 0, 0, 0, 0), (23, .istore_n 1, 1, 1, 0, 0, 0), (24, .aload_n 0, 1, 0, 0, 0, 0), (25, .getfield 19, 3, 10, 1, 0, 0), (28, .getfield 350, 3, 1, 15, 0, 0), (31, .iconst 0, 1, 0, 0, 0, 0), (32, .putfield 357, 3, 0, 0, 0, 0), (35, .aload_n 0, 1, 0, 0, 0, 0), (36, .invokevirtual 91, 3, 84, 10004, 0, 0), (39, .iload_n 1, 1, 1, 0, 0, 0), (40, .ireturn, 1, 0, 0, 0, 0)]
def cd155 : List am_E := cd155_0
def am_w155 : List (List (Int32 × Nat) × Nat) := []
set_option maxRecDepth 100000 in
theorem kcd155_0 : cd155_0.all (am_chk am_w155 155) = true := by decide +kernel
theorem am_k155 : cd155.all (am_chk am_w155 155) = true := by
  simp only [cd155, List.all_append, kcd155_0, Bool.and_self]
theorem am_r155 : am_rtc 155 = 0 := by decide +kernel
theorem am_l155 : am_ml 155 = 2 := by decide +kernel
def am_s155_ (z : Nat) : Nat → List aV → aM → Option aR := fun j => (match Nat.beq j 7 with
  | true => F7 z
  | false => (match Nat.beq j 84 with
  | true => F84 z
  | false => (fun _ _ => none)))
theorem hs155 (z : Nat) : ∀ j2 : Nat, ∃ d2 : Nat, d2 + 1 ≤ 6 ∧ am_Snd d2 j2 (am_s155_ z j2) := by
  intro j2
  unfold am_s155_
  split
  · rename_i he
    rw [am_beq he]
    exact ⟨_, by decide, S7 z⟩
  · skip
    split
    · rename_i he
      rw [am_beq he]
      exact ⟨_, by decide, S84 z⟩
    · skip
      exact ⟨0, by decide, am_Snd_no j2⟩
/-- ArgumentMender.anew()I -/
def f155 (z : Nat) (M : aM) : Option aR :=
  am_bi (f7 z 18 M) fun v2 M1 =>
    if ¬ v2 = 0 then
      let I3 := am_u M1.1 27 0 (0 : Int32)
      am_bv (f84 z (I3, M1.2)) fun M4 =>
        some (some (.inl (M1.1 27 0)), M4)
    else
      some (some (.inl (-2 : Int32)), M1)
set_option maxRecDepth 100000 in
set_option maxHeartbeats 4000000 in
theorem e155 (z : Nat) : ∀ (M : aM) (r : aR), f155 z  M = some r → am_Ev 6 155 0 [some (.inr (.inr (10, 0))), none] [] M r := by
  intro  M r h
  exact am_Ev_seg (sem := am_s155_ z) (cut := ([] : List (Nat × List Bool))) (hs155 z) am_r155 am_k155 (by rw [am_l155]; decide) (fun _ _ _ _ => none) 19 h (fun _ _ _ _ hk => by cases hk)
def F155 (z : Nat) (as : List aV) (M : aM) : Option aR := match as with
  | [.inr (.inr (10, 0))] => f155 z  M
  | _ => none
theorem S155 (z : Nat) : am_Snd 6 155 (F155 z) := am_meth (by decide +kernel) (fun as M r has h => by
    rw [am_l155]
    unfold F155 at h
    split at h
    · exact ⟨Nat.le_of_ble_eq_true rfl, e155 z _ _ h⟩
    · cases h)
def cd159_0 : List am_E := [(0, .aload_n 0, 1, 0, 0, 0, 0), (1, .getfield 19, 3, 10, 1, 0, 0), (4, .iload_n 1, 1, 1, 0, 0, 0), (5, .invokevirtual 112, 3, 9, 1010, 0, 0), (8, .ifCond .eq 13, 3, 21, 0, 0, 0), (11, .iload_n 2, 1, 2, 0, 0, 0), (12, .iconst 1, 1, 0, 0, 1, 0), (13, .bipush 60, 2, 0, 0, 60, 0), (15, .invokestatic 215, 3, 165, 35, 0, 0), (18, .ifCond .ne 6, 3, 24, 0, 0, 0), (21, .bipush (-2), 2, 0, 0, (-2), 0), (23, .ireturn, 1, 0, 0, 0, 0), (24, .aload_n 0, 1, 0, 0, 0, 0), (25, .getfield 19, 3, 10, 1, 0, 0), (28, .getfield 350, 3, 1, 15, 0, 0), (31, .getfield 357, 3, 0, 0, 0, 0), (34, .ifCond .le 6, 3, 40, 0, 0, 0), (37, .bipush (-5), 2, 0, 0, (-5), 0), (39, .ireturn, 1, 0, 0, 0, 0), (40, .aload_n 0, 1, 0, 0, 0, 0), (41, .getfield 19, 3, 10, 1, 0, 0), (44, .getfield 123, 3, 1, 9, 0, 0), (47, .iload_n 1, 1, 1, 0, 0, 0), (48, .iaload, 1, 0, 0, 0, 0), (49, .istore_n 3, 1, 3, 0, 0, 0), (50, .aload_n 0, 1, 0, 0, 0, 0), (51, .getfield 19, 3, 10, 1, 0, 0), (54, .getfield 123, 3, 1, 9, 0, 0), (57, .iload_n 1, 1, 1, 0, 0, 0), (58, .iload_n 2, 1, 2, 0, 0, 0), (59, .iastore, 1, 0, 0, 0, 0), (60, .aload_n 0, 1, 0, 0, 0, 0), (61, .invokevirtual 91, 3, 84, 10004, 0, 0), (64, .iload_n 3, 1, 3, 0, 0, 0), (65, .ireturn, 1, 0, 0, 0, 0)]
def cd159 : List am_E := cd159_0
def am_w159 : List (List (Int32 × Nat) × Nat) := []
set_option maxRecDepth 100000 in
theorem kcd159_0 : cd159_0.all (am_chk am_w159 159) = true := by decide +kernel
theorem am_k159 : cd159.all (am_chk am_w159 159) = true := by
  simp only [cd159, List.all_append, kcd159_0, Bool.and_self]
theorem am_r159 : am_rtc 159 = 0 := by decide +kernel
theorem am_l159 : am_ml 159 = 4 := by decide +kernel
def am_s159_ (z : Nat) : Nat → List aV → aM → Option aR := fun j => (match Nat.beq j 9 with
  | true => F9 z
  | false => (match Nat.beq j 84 with
  | true => F84 z
  | false => (match Nat.beq j 165 with
  | true => F165 z
  | false => (fun _ _ => none))))
theorem hs159 (z : Nat) : ∀ j2 : Nat, ∃ d2 : Nat, d2 + 1 ≤ 6 ∧ am_Snd d2 j2 (am_s159_ z j2) := by
  intro j2
  unfold am_s159_
  split
  · rename_i he
    rw [am_beq he]
    exact ⟨_, by decide, S9 z⟩
  · skip
    split
    · rename_i he
      rw [am_beq he]
      exact ⟨_, by decide, S84 z⟩
    · skip
      split
      · rename_i he
        rw [am_beq he]
        exact ⟨_, by decide, S165 z⟩
      · skip
        exact ⟨0, by decide, am_Snd_no j2⟩
/-- ArgumentMender.rate(II)I -/
def f159 (z : Nat) (x1 : Int32) (x2 : Int32) (M : aM) : Option aR :=
  am_bi (f9 z 18 x1 M) fun v2 M1 =>
    if v2 = 0 then
      some (some (.inl (-2 : Int32)), M1)
    else
      am_bi (f165 z x2 (1 : Int32) (60 : Int32) M1) fun v4 M3 =>
        if ¬ v4 = 0 then
          if (M3.1 27 0) ≤ 0 then
            if am_inB x1 16 then
              if am_inB x1 16 then
                let I5 := am_u M3.1 21 x1.toNatClampNeg x2
                am_bv (f84 z (I5, M3.2)) fun M6 =>
                  some (some (.inl (M3.1 21 x1.toNatClampNeg)), M6)
              else
                none
            else
              none
          else
            some (some (.inl (-5 : Int32)), M3)
        else
          some (some (.inl (-2 : Int32)), M3)
set_option maxRecDepth 100000 in
set_option maxHeartbeats 4000000 in
theorem e159 (z : Nat) : ∀ (x1 : Int32) (x2 : Int32) (M : aM) (r : aR), f159 z x1 x2 M = some r → am_Ev 6 159 0 [some (.inr (.inr (10, 0))), some (.inl x1), some (.inl x2), none] [] M r := by
  intro x1 x2 M r h
  exact am_Ev_seg (sem := am_s159_ z) (cut := ([] : List (Nat × List Bool))) (hs159 z) am_r159 am_k159 (by rw [am_l159]; decide) (fun _ _ _ _ => none) 32 h (fun _ _ _ _ hk => by cases hk)
def F159 (z : Nat) (as : List aV) (M : aM) : Option aR := match as with
  | [.inr (.inr (10, 0)), .inl x1, .inl x2] => f159 z x1 x2 M
  | _ => none
theorem S159 (z : Nat) : am_Snd 6 159 (F159 z) := am_meth (by decide +kernel) (fun as M r has h => by
    rw [am_l159]
    unfold F159 at h
    split at h
    · exact ⟨Nat.le_of_ble_eq_true rfl, e159 z _ _ _ _ h⟩
    · cases h)
def cd161_0 : List am_E := [(0, .iconst 0, 1, 0, 0, 0, 0), (1, .istore_n 1, 1, 1, 0, 0, 0), (2, .iconst 0, 1, 0, 0, 0, 0), (3, .istore_n 2, 1, 2, 0, 0, 0), (4, .iload_n 2, 1, 2, 0, 0, 0), (5, .iconst 4, 1, 0, 0, 4, 0), (6, .if_icmp .ge 24, 3, 30, 0, 0, 0), (9, .aload_n 0, 1, 0, 0, 0, 0), (10, .getfield 53, 3, 10, 6, 0, 0), (13, .iload_n 2, 1, 2, 0, 0, 0), (14, .aaload, 1, 0, 0, 0, 0), (15, .invokevirtual 269, 3, 34, 4000, 0, 0), (18, .ifCond .eq 6, 3, 24, 0, 0, 0), (21, .iinc 1 1, 3, 1, 0, 1, 0), (24, .iinc 2 1, 3, 2, 0, 1, 0), (27, .goto (-23), 3, 4, 0, 0, 0), (30, .iload_n 1, 1, 1, 0, 0, 0), (31, .ireturn, 1, 0, 0, 0, 0)]
def cd161 : List am_E := cd161_0
def am_w161 : List (List (Int32 × Nat) × Nat) := []
set_option maxRecDepth 100000 in
theorem kcd161_0 : cd161_0.all (am_chk am_w161 161) = true := by decide +kernel
theorem am_k161 : cd161.all (am_chk am_w161 161) = true := by
  simp only [cd161, List.all_append, kcd161_0, Bool.and_self]
theorem am_r161 : am_rtc 161 = 0 := by decide +kernel
theorem am_l161 : am_ml 161 = 3 := by decide +kernel
def am_s161_ (z : Nat) : Nat → List aV → aM → Option aR := fun j => (match Nat.beq j 34 with
  | true => F34 z
  | false => (fun _ _ => none))
theorem hs161 (z : Nat) : ∀ j2 : Nat, ∃ d2 : Nat, d2 + 1 ≤ 2 ∧ am_Snd d2 j2 (am_s161_ z j2) := by
  intro j2
  unfold am_s161_
  split
  · rename_i he
    rw [am_beq he]
    exact ⟨_, by decide, S34 z⟩
  · skip
    exact ⟨0, by decide, am_Snd_no j2⟩
def f161_4 (z : Nat) : Nat → Int32 → Int32 → aM → Option aR
  | 0, _, _, _ => none
  | n + 1, x1, x2, M =>
    if (4 : Int32) ≤ x2 then
      some (some (.inl x1), M)
    else
      if am_inB x2 4 then
        am_bi (f34 z (152 + (3 + 2 * x2.toNatClampNeg)) M) fun v2 M1 =>
          if v2 = 0 then
            f161_4 z n x1 (x2 + (1 : Int32)) M1
          else
            f161_4 z n (x1 + (1 : Int32)) (x2 + (1 : Int32)) M1
      else
        none
set_option maxRecDepth 100000 in
set_option maxHeartbeats 4000000 in
theorem e161_4 (z : Nat) : ∀ (n : Nat) (x1 : Int32) (x2 : Int32) (M : aM) (r : aR), f161_4 z n x1 x2 M = some r → am_Ev 2 161 4 [some (.inr (.inr (10, 0))), some (.inl x1), some (.inl x2)] [] M r := by
  intro n
  induction n with
  | zero =>
    intro x1 x2 M r h
    cases h
  | succ n ih =>
    intro x1 x2 M r h
    exact am_Ev_seg (sem := am_s161_ z) (cut := ([(4, [true, true, true])] : List (Nat × List Bool))) (hs161 z) am_r161 am_k161 (by rw [am_l161]; decide) (fun pc al st M => (match Nat.beq pc 4 with
      | true => (match al, st with
        | [some (.inr (.inr (10, 0))), some (.inl x1), some (.inl x2)], [] => f161_4 z n x1 x2 M
        | _, _ => none)
      | false => none)) 14 h (fun pc al st M hk => by
      try dsimp only at hk
      split at hk
      · rename_i he
        rw [am_beq he]
        split at hk
        · exact ih _ _ _ _ hk
        · cases hk
      · cases hk)
/-- ArgumentMender.rowsThere()I -/
def f161 (z : Nat) (M : aM) : Option aR :=
  f161_4 z z (0 : Int32) (0 : Int32) M
set_option maxRecDepth 100000 in
set_option maxHeartbeats 4000000 in
theorem e161 (z : Nat) : ∀ (M : aM) (r : aR), f161 z  M = some r → am_Ev 2 161 0 [some (.inr (.inr (10, 0))), none, none] [] M r := by
  intro  M r h
  exact am_Ev_seg (sem := am_s161_ z) (cut := ([(4, [true, true, true])] : List (Nat × List Bool))) (hs161 z) am_r161 am_k161 (by rw [am_l161]; decide) (fun pc al st M => (match Nat.beq pc 4 with
      | true => (match al, st with
        | [some (.inr (.inr (10, 0))), some (.inl x1), some (.inl x2)], [] => f161_4 z z x1 x2 M
        | _, _ => none)
      | false => none)) 6 h (fun pc al st M hk => by
      try dsimp only at hk
      split at hk
      · rename_i he
        rw [am_beq he]
        split at hk
        · exact e161_4 z _ _ _ _ _ hk
        · cases hk
      · cases hk)
def F161 (z : Nat) (as : List aV) (M : aM) : Option aR := match as with
  | [.inr (.inr (10, 0))] => f161 z  M
  | _ => none
theorem S161 (z : Nat) : am_Snd 2 161 (F161 z) := am_meth (by decide +kernel) (fun as M r has h => by
    rw [am_l161]
    unfold F161 at h
    split at h
    · exact ⟨Nat.le_of_ble_eq_true rfl, e161 z _ _ h⟩
    · cases h)
def cd160_0 : List am_E := [(0, .iload_n 1, 1, 1, 0, 0, 0), (1, .tableswitch 138 0 9 #[55, 63, 71, 79, 87, 95, 103, 114, 122, 133], 55, 0, 0, 0, 0), (56, .aload_n 0, 1, 0, 0, 0, 0), (57, .getfield 19, 3, 10, 1, 0, 0), (60, .getfield 151, 3, 1, 1, 0, 0), (63, .ireturn, 1, 0, 0, 0, 0), (64, .aload_n 0, 1, 0, 0, 0, 0), (65, .getfield 19, 3, 10, 1, 0, 0), (68, .getfield 372, 3, 1, 2, 0, 0), (71, .ireturn, 1, 0, 0, 0, 0), (72, .aload_n 0, 1, 0, 0, 0, 0), (73, .getfield 19, 3, 10, 1, 0, 0), (76, .getfield 331, 3, 1, 3, 0, 0), (79, .ireturn, 1, 0, 0, 0, 0), (80, .aload_n 0, 1, 0, 0, 0, 0), (81, .getfield 19, 3, 10, 1, 0, 0), (84, .getfield 154, 3, 1, 4, 0, 0), (87, .ireturn, 1, 0, 0, 0, 0), (88, .aload_n 0, 1, 0, 0, 0, 0), (89, .getfield 19, 3, 10, 1, 0, 0), (92, .getfield 141, 3, 1, 5, 0, 0), (95, .ireturn, 1, 0, 0, 0, 0), (96, .aload_n 0, 1, 0, 0, 0, 0), (97, .getfield 19, 3, 10, 1, 0, 0), (100, .getfield 201, 3, 1, 6, 0, 0), (103, .ireturn, 1, 0, 0, 0, 0), (104, .aload_n 0, 1, 0, 0, 0, 0), (105, .getfield 19, 3, 10, 1, 0, 0), (108, .getfield 350, 3, 1, 15, 0, 0), (111, .getfield 357, 3, 0, 0, 0, 0), (114, .ireturn, 1, 0, 0, 0, 0), (115, .aload_n 0, 1, 0, 0, 0, 0), (116, .getfield 19, 3, 10, 1, 0, 0), (119, .getfield 94, 3, 1, 0, 0, 0), (122, .ireturn, 1, 0, 0, 0, 0), (123, .aload_n 0, 1, 0, 0, 0, 0), (124, .getfield 10, 3, 10, 0, 0, 0), (127, .getfield 66, 3, 2, 0, 0, 0), (130, .getfield 70, 3, 5, 1, 0, 0), (133, .ireturn, 1, 0, 0, 0, 0)]
def cd160_1 : List am_E := [(134, .aload_n 0, 1, 0, 0, 0, 0), (135, .invokevirtual 375, 3, 161, 10000, 0, 0), (138, .ireturn, 1, 0, 0, 0, 0), (139, .iconst (-1), 1, 0, 0, (-1), 0), (140, .ireturn, 1, 0, 0, 0, 0)]
def cd160 : List am_E := cd160_0 ++ (cd160_1)
def am_w160 : List (List (Int32 × Nat) × Nat) := [([(0, 56), (1, 64), (2, 72), (3, 80), (4, 88), (5, 96), (6, 104), (7, 115), (8, 123), (9, 134)], 139)]
set_option maxRecDepth 100000 in
theorem kcd160_0 : cd160_0.all (am_chk am_w160 160) = true := by decide +kernel
set_option maxRecDepth 100000 in
theorem kcd160_1 : cd160_1.all (am_chk am_w160 160) = true := by decide +kernel
theorem am_k160 : cd160.all (am_chk am_w160 160) = true := by
  simp only [cd160, List.all_append, kcd160_0, kcd160_1, Bool.and_self]
theorem am_r160 : am_rtc 160 = 0 := by decide +kernel
theorem am_l160 : am_ml 160 = 2 := by decide +kernel
def am_s160_ (z : Nat) : Nat → List aV → aM → Option aR := fun j => (match Nat.beq j 161 with
  | true => F161 z
  | false => (fun _ _ => none))
theorem hs160 (z : Nat) : ∀ j2 : Nat, ∃ d2 : Nat, d2 + 1 ≤ 3 ∧ am_Snd d2 j2 (am_s160_ z j2) := by
  intro j2
  unfold am_s160_
  split
  · rename_i he
    rw [am_beq he]
    exact ⟨_, by decide, S161 z⟩
  · skip
    exact ⟨0, by decide, am_Snd_no j2⟩
/-- ArgumentMender.count(I)I -/
def f160 (z : Nat) (x1 : Int32) (M : aM) : Option aR :=
  if x1 = (0 : Int32) then
    some (some (.inl (M.1 18 1)), M)
  else
    if x1 = (1 : Int32) then
      some (some (.inl (M.1 18 2)), M)
    else
      if x1 = (2 : Int32) then
        some (some (.inl (M.1 18 3)), M)
      else
        if x1 = (3 : Int32) then
          some (some (.inl (M.1 18 4)), M)
        else
          if x1 = (4 : Int32) then
            some (some (.inl (M.1 18 5)), M)
          else
            if x1 = (5 : Int32) then
              some (some (.inl (M.1 18 6)), M)
            else
              if x1 = (6 : Int32) then
                some (some (.inl (M.1 27 0)), M)
              else
                if x1 = (7 : Int32) then
                  some (some (.inl (M.1 18 0)), M)
                else
                  if x1 = (8 : Int32) then
                    some (some (.inl (M.1 2 1)), M)
                  else
                    if x1 = (9 : Int32) then
                      am_bi (f161 z M) fun v2 M1 =>
                        some (some (.inl v2), M1)
                    else
                      some (some (.inl (-1 : Int32)), M)
set_option maxRecDepth 100000 in
set_option maxHeartbeats 4000000 in
theorem e160 (z : Nat) : ∀ (x1 : Int32) (M : aM) (r : aR), f160 z x1 M = some r → am_Ev 3 160 0 [some (.inr (.inr (10, 0))), some (.inl x1)] [] M r := by
  intro x1 M r h
  exact am_Ev_seg (sem := am_s160_ z) (cut := ([] : List (Nat × List Bool))) (hs160 z) am_r160 am_k160 (by rw [am_l160]; decide) (fun _ _ _ _ => none) 8 h (fun _ _ _ _ hk => by cases hk)
def F160 (z : Nat) (as : List aV) (M : aM) : Option aR := match as with
  | [.inr (.inr (10, 0)), .inl x1] => f160 z x1 M
  | _ => none
theorem S160 (z : Nat) : am_Snd 3 160 (F160 z) := am_meth (by decide +kernel) (fun as M r has h => by
    rw [am_l160]
    unfold F160 at h
    split at h
    · exact ⟨Nat.le_of_ble_eq_true rfl, e160 z _ _ _ h⟩
    · cases h)
def cd162_0 : List am_E := [(0, .iload_n 1, 1, 1, 0, 0, 0), (1, .iconst 0, 1, 0, 0, 0, 0), (2, .iconst 2, 1, 0, 0, 2, 0), (3, .invokestatic 215, 3, 165, 35, 0, 0), (6, .ifCond .ne 6, 3, 12, 0, 0, 0), (9, .bipush (-2), 2, 0, 0, (-2), 0), (11, .ireturn, 1, 0, 0, 0, 0), (12, .aload_n 0, 1, 0, 0, 0, 0), (13, .getfield 57, 3, 10, 7, 0, 0), (16, .iload_n 1, 1, 1, 0, 0, 0), (17, .aaload, 1, 0, 0, 0, 0), (18, .aload_n 0, 1, 0, 0, 0, 0), (19, .getfield 19, 3, 10, 1, 0, 0), (22, .invokevirtual 87, 3, 6, 1014, 0, 0), (25, .aload_n 0, 1, 0, 0, 0, 0), (26, .getfield 61, 3, 10, 8, 0, 0), (29, .iload_n 1, 1, 1, 0, 0, 0), (30, .iconst 1, 1, 0, 0, 1, 0), (31, .bastore, 1, 0, 0, 0, 0), (32, .iconst 0, 1, 0, 0, 0, 0), (33, .ireturn, 1, 0, 0, 0, 0)]
def cd162 : List am_E := cd162_0
def am_w162 : List (List (Int32 × Nat) × Nat) := []
set_option maxRecDepth 100000 in
theorem kcd162_0 : cd162_0.all (am_chk am_w162 162) = true := by decide +kernel
theorem am_k162 : cd162.all (am_chk am_w162 162) = true := by
  simp only [cd162, List.all_append, kcd162_0, Bool.and_self]
theorem am_r162 : am_rtc 162 = 0 := by decide +kernel
theorem am_l162 : am_ml 162 = 2 := by decide +kernel
def am_s162_ (z : Nat) : Nat → List aV → aM → Option aR := fun j => (match Nat.beq j 6 with
  | true => F6 z
  | false => (match Nat.beq j 165 with
  | true => F165 z
  | false => (fun _ _ => none)))
theorem hs162 (z : Nat) : ∀ j2 : Nat, ∃ d2 : Nat, d2 + 1 ≤ 3 ∧ am_Snd d2 j2 (am_s162_ z j2) := by
  intro j2
  unfold am_s162_
  split
  · rename_i he
    rw [am_beq he]
    exact ⟨_, by decide, S6 z⟩
  · skip
    split
    · rename_i he
      rw [am_beq he]
      exact ⟨_, by decide, S165 z⟩
    · skip
      exact ⟨0, by decide, am_Snd_no j2⟩
/-- ArgumentMender.image(I)I -/
def f162 (z : Nat) (x1 : Int32) (M : aM) : Option aR :=
  am_bi (f165 z x1 (0 : Int32) (2 : Int32) M) fun v2 M1 =>
    if ¬ v2 = 0 then
      if am_inB x1 3 then
        am_bv (f6 z (153 + (10 + 14 * x1.toNatClampNeg)) 18 M1) fun M3 =>
          if am_inB x1 3 then
            let I4 := am_u M3.1 154 x1.toNatClampNeg ((1 : Int32) &&& 1)
            some (some (.inl (0 : Int32)), (I4, M3.2))
          else
            none
      else
        none
    else
      some (some (.inl (-2 : Int32)), M1)
set_option maxRecDepth 100000 in
set_option maxHeartbeats 4000000 in
theorem e162 (z : Nat) : ∀ (x1 : Int32) (M : aM) (r : aR), f162 z x1 M = some r → am_Ev 3 162 0 [some (.inr (.inr (10, 0))), some (.inl x1)] [] M r := by
  intro x1 M r h
  exact am_Ev_seg (sem := am_s162_ z) (cut := ([] : List (Nat × List Bool))) (hs162 z) am_r162 am_k162 (by rw [am_l162]; decide) (fun _ _ _ _ => none) 20 h (fun _ _ _ _ hk => by cases hk)
def F162 (z : Nat) (as : List aV) (M : aM) : Option aR := match as with
  | [.inr (.inr (10, 0)), .inl x1] => f162 z x1 M
  | _ => none
theorem S162 (z : Nat) : am_Snd 3 162 (F162 z) := am_meth (by decide +kernel) (fun as M r has h => by
    rw [am_l162]
    unfold F162 at h
    split at h
    · exact ⟨Nat.le_of_ble_eq_true rfl, e162 z _ _ _ h⟩
    · cases h)
def cd163_0 : List am_E := [(0, .iload_n 1, 1, 1, 0, 0, 0), (1, .iconst 0, 1, 0, 0, 0, 0), (2, .iconst 2, 1, 0, 0, 2, 0), (3, .invokestatic 215, 3, 165, 35, 0, 0), (6, .ifCond .ne 6, 3, 12, 0, 0, 0), (9, .bipush (-2), 2, 0, 0, (-2), 0), (11, .ireturn, 1, 0, 0, 0, 0), (12, .aload_n 0, 1, 0, 0, 0, 0), (13, .getfield 61, 3, 10, 8, 0, 0), (16, .iload_n 1, 1, 1, 0, 0, 0), (17, .baload, 1, 0, 0, 0, 0), (18, .ifCond .ne 6, 3, 24, 0, 0, 0), (21, .bipush (-6), 2, 0, 0, (-6), 0), (23, .ireturn, 1, 0, 0, 0, 0), (24, .aload_n 0, 1, 0, 0, 0, 0), (25, .getfield 19, 3, 10, 1, 0, 0), (28, .aload_n 0, 1, 0, 0, 0, 0), (29, .getfield 57, 3, 10, 7, 0, 0), (32, .iload_n 1, 1, 1, 0, 0, 0), (33, .aaload, 1, 0, 0, 0, 0), (34, .invokevirtual 87, 3, 6, 1014, 0, 0), (37, .aload_n 0, 1, 0, 0, 0, 0), (38, .invokevirtual 91, 3, 84, 10004, 0, 0), (41, .iconst 0, 1, 0, 0, 0, 0), (42, .ireturn, 1, 0, 0, 0, 0)]
def cd163 : List am_E := cd163_0
def am_w163 : List (List (Int32 × Nat) × Nat) := []
set_option maxRecDepth 100000 in
theorem kcd163_0 : cd163_0.all (am_chk am_w163 163) = true := by decide +kernel
theorem am_k163 : cd163.all (am_chk am_w163 163) = true := by
  simp only [cd163, List.all_append, kcd163_0, Bool.and_self]
theorem am_r163 : am_rtc 163 = 0 := by decide +kernel
theorem am_l163 : am_ml 163 = 2 := by decide +kernel
def am_s163_ (z : Nat) : Nat → List aV → aM → Option aR := fun j => (match Nat.beq j 6 with
  | true => F6 z
  | false => (match Nat.beq j 84 with
  | true => F84 z
  | false => (match Nat.beq j 165 with
  | true => F165 z
  | false => (fun _ _ => none))))
theorem hs163 (z : Nat) : ∀ j2 : Nat, ∃ d2 : Nat, d2 + 1 ≤ 6 ∧ am_Snd d2 j2 (am_s163_ z j2) := by
  intro j2
  unfold am_s163_
  split
  · rename_i he
    rw [am_beq he]
    exact ⟨_, by decide, S6 z⟩
  · skip
    split
    · rename_i he
      rw [am_beq he]
      exact ⟨_, by decide, S84 z⟩
    · skip
      split
      · rename_i he
        rw [am_beq he]
        exact ⟨_, by decide, S165 z⟩
      · skip
        exact ⟨0, by decide, am_Snd_no j2⟩
/-- ArgumentMender.back(I)I -/
def f163 (z : Nat) (x1 : Int32) (M : aM) : Option aR :=
  am_bi (f165 z x1 (0 : Int32) (2 : Int32) M) fun v2 M1 =>
    if ¬ v2 = 0 then
      if am_inB x1 3 then
        if ¬ (M1.1 154 x1.toNatClampNeg) = 0 then
          if am_inB x1 3 then
            am_bv (f6 z 18 (153 + (10 + 14 * x1.toNatClampNeg)) M1) fun M3 =>
              am_bv (f84 z M3) fun M4 =>
                some (some (.inl (0 : Int32)), M4)
          else
            none
        else
          some (some (.inl (-6 : Int32)), M1)
      else
        none
    else
      some (some (.inl (-2 : Int32)), M1)
set_option maxRecDepth 100000 in
set_option maxHeartbeats 4000000 in
theorem e163 (z : Nat) : ∀ (x1 : Int32) (M : aM) (r : aR), f163 z x1 M = some r → am_Ev 6 163 0 [some (.inr (.inr (10, 0))), some (.inl x1)] [] M r := by
  intro x1 M r h
  exact am_Ev_seg (sem := am_s163_ z) (cut := ([] : List (Nat × List Bool))) (hs163 z) am_r163 am_k163 (by rw [am_l163]; decide) (fun _ _ _ _ => none) 22 h (fun _ _ _ _ hk => by cases hk)
def F163 (z : Nat) (as : List aV) (M : aM) : Option aR := match as with
  | [.inr (.inr (10, 0)), .inl x1] => f163 z x1 M
  | _ => none
theorem S163 (z : Nat) : am_Snd 6 163 (F163 z) := am_meth (by decide +kernel) (fun as M r has h => by
    rw [am_l163]
    unfold F163 at h
    split at h
    · exact ⟨Nat.le_of_ble_eq_true rfl, e163 z _ _ _ h⟩
    · cases h)
def cd166_0 : List am_E := [(0, .iload_n 1, 1, 1, 0, 0, 0), (1, .invokestatic 266, 3, 164, 15, 0, 0), (4, .ifCond .eq 18, 3, 22, 0, 0, 0), (7, .iload_n 2, 1, 2, 0, 0, 0), (8, .iconst 0, 1, 0, 0, 0, 0), (9, .iconst 3, 1, 0, 0, 3, 0), (10, .invokestatic 215, 3, 165, 35, 0, 0), (13, .ifCond .eq 9, 3, 22, 0, 0, 0), (16, .iload_n 3, 1, 3, 0, 0, 0), (17, .bipush 60, 2, 0, 0, 60, 0), (19, .if_icmp .le 6, 3, 25, 0, 0, 0), (22, .bipush (-2), 2, 0, 0, (-2), 0), (24, .ireturn, 1, 0, 0, 0, 0), (25, .iload_n 3, 1, 3, 0, 0, 0), (26, .ifCond .ge 6, 3, 32, 0, 0, 0), (29, .bipush (-3), 2, 0, 0, (-3), 0), (31, .ireturn, 1, 0, 0, 0, 0), (32, .aload_n 0, 1, 0, 0, 0, 0), (33, .getfield 53, 3, 10, 6, 0, 0), (36, .iload_n 1, 1, 1, 0, 0, 0), (37, .aaload, 1, 0, 0, 0, 0), (38, .iload_n 2, 1, 2, 0, 0, 0), (39, .iload_n 3, 1, 3, 0, 0, 0), (40, .invokevirtual 378, 3, 35, 4024, 0, 0), (43, .iconst 0, 1, 0, 0, 0, 0), (44, .ireturn, 1, 0, 0, 0, 0)]
def cd166 : List am_E := cd166_0
def am_w166 : List (List (Int32 × Nat) × Nat) := []
set_option maxRecDepth 100000 in
theorem kcd166_0 : cd166_0.all (am_chk am_w166 166) = true := by decide +kernel
theorem am_k166 : cd166.all (am_chk am_w166 166) = true := by
  simp only [cd166, List.all_append, kcd166_0, Bool.and_self]
theorem am_r166 : am_rtc 166 = 0 := by decide +kernel
theorem am_l166 : am_ml 166 = 4 := by decide +kernel
def am_s166_ (z : Nat) : Nat → List aV → aM → Option aR := fun j => (match Nat.beq j 35 with
  | true => F35 z
  | false => (match Nat.beq j 164 with
  | true => F164 z
  | false => (match Nat.beq j 165 with
  | true => F165 z
  | false => (fun _ _ => none))))
theorem hs166 (z : Nat) : ∀ j2 : Nat, ∃ d2 : Nat, d2 + 1 ≤ 3 ∧ am_Snd d2 j2 (am_s166_ z j2) := by
  intro j2
  unfold am_s166_
  split
  · rename_i he
    rw [am_beq he]
    exact ⟨_, by decide, S35 z⟩
  · skip
    split
    · rename_i he
      rw [am_beq he]
      exact ⟨_, by decide, S164 z⟩
    · skip
      split
      · rename_i he
        rw [am_beq he]
        exact ⟨_, by decide, S165 z⟩
      · skip
        exact ⟨0, by decide, am_Snd_no j2⟩
/-- ArgumentMender.row(III)I -/
def f166 (z : Nat) (x1 : Int32) (x2 : Int32) (x3 : Int32) (M : aM) : Option aR :=
  am_bi (f164 z x1 M) fun v2 M1 =>
    if v2 = 0 then
      some (some (.inl (-2 : Int32)), M1)
    else
      am_bi (f165 z x2 (0 : Int32) (3 : Int32) M1) fun v4 M3 =>
        if v4 = 0 then
          some (some (.inl (-2 : Int32)), M3)
        else
          if x3 ≤ (60 : Int32) then
            if 0 ≤ x3 then
              if am_inB x1 4 then
                am_bv (f35 z (152 + (3 + 2 * x1.toNatClampNeg)) x2 x3 M3) fun M5 =>
                  some (some (.inl (0 : Int32)), M5)
              else
                none
            else
              some (some (.inl (-3 : Int32)), M3)
          else
            some (some (.inl (-2 : Int32)), M3)
set_option maxRecDepth 100000 in
set_option maxHeartbeats 4000000 in
theorem e166 (z : Nat) : ∀ (x1 : Int32) (x2 : Int32) (x3 : Int32) (M : aM) (r : aR), f166 z x1 x2 x3 M = some r → am_Ev 3 166 0 [some (.inr (.inr (10, 0))), some (.inl x1), some (.inl x2), some (.inl x3)] [] M r := by
  intro x1 x2 x3 M r h
  exact am_Ev_seg (sem := am_s166_ z) (cut := ([] : List (Nat × List Bool))) (hs166 z) am_r166 am_k166 (by rw [am_l166]; decide) (fun _ _ _ _ => none) 23 h (fun _ _ _ _ hk => by cases hk)
def F166 (z : Nat) (as : List aV) (M : aM) : Option aR := match as with
  | [.inr (.inr (10, 0)), .inl x1, .inl x2, .inl x3] => f166 z x1 x2 x3 M
  | _ => none
theorem S166 (z : Nat) : am_Snd 3 166 (F166 z) := am_meth (by decide +kernel) (fun as M r has h => by
    rw [am_l166]
    unfold F166 at h
    split at h
    · exact ⟨Nat.le_of_ble_eq_true rfl, e166 z _ _ _ _ _ h⟩
    · cases h)
def cd167_0 : List am_E := [(0, .iload_n 1, 1, 1, 0, 0, 0), (1, .invokestatic 266, 3, 164, 15, 0, 0), (4, .ifCond .ne 6, 3, 10, 0, 0, 0), (7, .bipush (-2), 2, 0, 0, (-2), 0), (9, .ireturn, 1, 0, 0, 0, 0), (10, .aload_n 0, 1, 0, 0, 0, 0), (11, .getfield 53, 3, 10, 6, 0, 0), (14, .iload_n 1, 1, 1, 0, 0, 0), (15, .aaload, 1, 0, 0, 0, 0), (16, .astore 5, 2, 5, 0, 0, 0), (18, .aload 5, 2, 5, 0, 0, 0), (20, .invokevirtual 269, 3, 34, 4000, 0, 0), (23, .ifCond .ne 6, 3, 29, 0, 0, 0), (26, .bipush (-6), 2, 0, 0, (-6), 0), (28, .ireturn, 1, 0, 0, 0, 0), (29, .iload_n 2, 1, 2, 0, 0, 0), (30, .ifCond .lt 12, 3, 42, 0, 0, 0), (33, .iload_n 2, 1, 2, 0, 0, 0), (34, .aload 5, 2, 5, 0, 0, 0), (36, .getfield 382, 3, 4, 1, 0, 0), (39, .if_icmp .lt 6, 3, 45, 0, 0, 0), (42, .bipush (-7), 2, 0, 0, (-7), 0), (44, .ireturn, 1, 0, 0, 0, 0), (45, .aload 5, 2, 5, 0, 0, 0), (47, .getfield 383, 3, 4, 2, 0, 0), (50, .iload_n 2, 1, 2, 0, 0, 0), (51, .aload 5, 2, 5, 0, 0, 0), (53, .lload_n 3, 1, 3, 0, 0, 0), (54, .invokevirtual 387, 3, 36, 4012, 0, 0), (57, .lastore, 1, 0, 0, 0, 0), (58, .iconst 0, 1, 0, 0, 0, 0), (59, .ireturn, 1, 0, 0, 0, 0)]
def cd167 : List am_E := cd167_0
def am_w167 : List (List (Int32 × Nat) × Nat) := []
set_option maxRecDepth 100000 in
theorem kcd167_0 : cd167_0.all (am_chk am_w167 167) = true := by decide +kernel
theorem am_k167 : cd167.all (am_chk am_w167 167) = true := by
  simp only [cd167, List.all_append, kcd167_0, Bool.and_self]
theorem am_r167 : am_rtc 167 = 0 := by decide +kernel
theorem am_l167 : am_ml 167 = 6 := by decide +kernel
def am_s167_ (z : Nat) : Nat → List aV → aM → Option aR := fun j => (match Nat.beq j 34 with
  | true => F34 z
  | false => (match Nat.beq j 36 with
  | true => F36 z
  | false => (match Nat.beq j 164 with
  | true => F164 z
  | false => (fun _ _ => none))))
theorem hs167 (z : Nat) : ∀ j2 : Nat, ∃ d2 : Nat, d2 + 1 ≤ 3 ∧ am_Snd d2 j2 (am_s167_ z j2) := by
  intro j2
  unfold am_s167_
  split
  · rename_i he
    rw [am_beq he]
    exact ⟨_, by decide, S34 z⟩
  · skip
    split
    · rename_i he
      rw [am_beq he]
      exact ⟨_, by decide, S36 z⟩
    · skip
      split
      · rename_i he
        rw [am_beq he]
        exact ⟨_, by decide, S164 z⟩
      · skip
        exact ⟨0, by decide, am_Snd_no j2⟩
/-- ArgumentMender.write(IIJ)I -/
def f167 (z : Nat) (x1 : Int32) (x2 : Int32) (y3 : Int64) (M : aM) : Option aR :=
  am_bi (f164 z x1 M) fun v2 M1 =>
    if ¬ v2 = 0 then
      if am_inB x1 4 then
        am_bi (f34 z (152 + (3 + 2 * x1.toNatClampNeg)) M1) fun v4 M3 =>
          if ¬ v4 = 0 then
            if x2 < 0 then
              some (some (.inl (-7 : Int32)), M3)
            else
              if x2 < (M3.1 (152 + (3 + 2 * x1.toNatClampNeg)) 1) then
                am_bl (f36 z (152 + (3 + 2 * x1.toNatClampNeg)) y3 M3) fun v6 M5 =>
                  if am_inB x2 60 then
                    let J7 := am_ul M5.2 ((152 + (3 + 2 * x1.toNatClampNeg)) + 1) x2.toNatClampNeg v6
                    some (some (.inl (0 : Int32)), (M5.1, J7))
                  else
                    none
              else
                some (some (.inl (-7 : Int32)), M3)
          else
            some (some (.inl (-6 : Int32)), M3)
      else
        none
    else
      some (some (.inl (-2 : Int32)), M1)
set_option maxRecDepth 100000 in
set_option maxHeartbeats 4000000 in
theorem e167 (z : Nat) : ∀ (x1 : Int32) (x2 : Int32) (y3 : Int64) (M : aM) (r : aR), f167 z x1 x2 y3 M = some r → am_Ev 3 167 0 [some (.inr (.inr (10, 0))), some (.inl x1), some (.inl x2), some (.inr (.inl y3)), none, none] [] M r := by
  intro x1 x2 y3 M r h
  exact am_Ev_seg (sem := am_s167_ z) (cut := ([] : List (Nat × List Bool))) (hs167 z) am_r167 am_k167 (by rw [am_l167]; decide) (fun _ _ _ _ => none) 27 h (fun _ _ _ _ hk => by cases hk)
def F167 (z : Nat) (as : List aV) (M : aM) : Option aR := match as with
  | [.inr (.inr (10, 0)), .inl x1, .inl x2, .inr (.inl y3)] => f167 z x1 x2 y3 M
  | _ => none
theorem S167 (z : Nat) : am_Snd 3 167 (F167 z) := am_meth (by decide +kernel) (fun as M r has h => by
    rw [am_l167]
    unfold F167 at h
    split at h
    · exact ⟨Nat.le_of_ble_eq_true rfl, e167 z _ _ _ _ _ h⟩
    · cases h)
def cd168_0 : List am_E := [(0, .iload_n 1, 1, 1, 0, 0, 0), (1, .invokestatic 266, 3, 164, 15, 0, 0), (4, .ifCond .eq 10, 3, 14, 0, 0, 0), (7, .iload_n 3, 1, 3, 0, 0, 0), (8, .invokestatic 266, 3, 164, 15, 0, 0), (11, .ifCond .ne 6, 3, 17, 0, 0, 0), (14, .bipush (-2), 2, 0, 0, (-2), 0), (16, .ireturn, 1, 0, 0, 0, 0), (17, .aload_n 0, 1, 0, 0, 0, 0), (18, .getfield 53, 3, 10, 6, 0, 0), (21, .iload_n 1, 1, 1, 0, 0, 0), (22, .aaload, 1, 0, 0, 0, 0), (23, .astore 6, 2, 6, 0, 0, 0), (25, .aload_n 0, 1, 0, 0, 0, 0), (26, .getfield 53, 3, 10, 6, 0, 0), (29, .iload_n 3, 1, 3, 0, 0, 0), (30, .aaload, 1, 0, 0, 0, 0), (31, .astore 7, 2, 7, 0, 0, 0), (33, .aload 6, 2, 6, 0, 0, 0), (35, .invokevirtual 269, 3, 34, 4000, 0, 0), (38, .ifCond .eq 11, 3, 49, 0, 0, 0), (41, .aload 7, 2, 7, 0, 0, 0), (43, .invokevirtual 269, 3, 34, 4000, 0, 0), (46, .ifCond .ne 6, 3, 52, 0, 0, 0), (49, .bipush (-6), 2, 0, 0, (-6), 0), (51, .ireturn, 1, 0, 0, 0, 0), (52, .aload 6, 2, 6, 0, 0, 0), (54, .getfield 390, 3, 4, 0, 0, 0), (57, .aload 7, 2, 7, 0, 0, 0), (59, .getfield 390, 3, 4, 0, 0, 0), (62, .if_icmp .eq 6, 3, 68, 0, 0, 0), (65, .bipush (-8), 2, 0, 0, (-8), 0), (67, .ireturn, 1, 0, 0, 0, 0), (68, .aload 6, 2, 6, 0, 0, 0), (70, .iload_n 2, 1, 2, 0, 0, 0), (71, .iload 5, 2, 5, 0, 0, 0), (73, .invokevirtual 393, 3, 37, 4020, 0, 0), (76, .ifCond .eq 15, 3, 91, 0, 0, 0), (79, .aload 7, 2, 7, 0, 0, 0), (81, .iload 4, 2, 4, 0, 0, 0)]
def cd168_1 : List am_E := [(83, .iload 5, 2, 5, 0, 0, 0), (85, .invokevirtual 393, 3, 37, 4020, 0, 0), (88, .ifCond .ne 6, 3, 94, 0, 0, 0), (91, .bipush (-7), 2, 0, 0, (-7), 0), (93, .ireturn, 1, 0, 0, 0, 0), (94, .aload 6, 2, 6, 0, 0, 0), (96, .getfield 383, 3, 4, 2, 0, 0), (99, .iload_n 2, 1, 2, 0, 0, 0), (100, .aload 7, 2, 7, 0, 0, 0), (102, .getfield 383, 3, 4, 2, 0, 0), (105, .iload 4, 2, 4, 0, 0, 0), (107, .iload 5, 2, 5, 0, 0, 0), (109, .invokestatic 396, 3, 0, 1, 0, 0), (112, .iconst 0, 1, 0, 0, 0, 0), (113, .ireturn, 1, 0, 0, 0, 0)]
def cd168 : List am_E := cd168_0 ++ (cd168_1)
def am_w168 : List (List (Int32 × Nat) × Nat) := []
set_option maxRecDepth 100000 in
theorem kcd168_0 : cd168_0.all (am_chk am_w168 168) = true := by decide +kernel
set_option maxRecDepth 100000 in
theorem kcd168_1 : cd168_1.all (am_chk am_w168 168) = true := by decide +kernel
theorem am_k168 : cd168.all (am_chk am_w168 168) = true := by
  simp only [cd168, List.all_append, kcd168_0, kcd168_1, Bool.and_self]
theorem am_r168 : am_rtc 168 = 0 := by decide +kernel
theorem am_l168 : am_ml 168 = 8 := by decide +kernel
def am_s168_ (z : Nat) : Nat → List aV → aM → Option aR := fun j => (match Nat.beq j 34 with
  | true => F34 z
  | false => (match Nat.beq j 37 with
  | true => F37 z
  | false => (match Nat.beq j 164 with
  | true => F164 z
  | false => (fun _ _ => none))))
theorem hs168 (z : Nat) : ∀ j2 : Nat, ∃ d2 : Nat, d2 + 1 ≤ 3 ∧ am_Snd d2 j2 (am_s168_ z j2) := by
  intro j2
  unfold am_s168_
  split
  · rename_i he
    rw [am_beq he]
    exact ⟨_, by decide, S34 z⟩
  · skip
    split
    · rename_i he
      rw [am_beq he]
      exact ⟨_, by decide, S37 z⟩
    · skip
      split
      · rename_i he
        rw [am_beq he]
        exact ⟨_, by decide, S164 z⟩
      · skip
        exact ⟨0, by decide, am_Snd_no j2⟩
/-- ArgumentMender.paste(IIIII)I -/
def f168 (z : Nat) (x1 : Int32) (x2 : Int32) (x3 : Int32) (x4 : Int32) (x5 : Int32) (M : aM) : Option aR :=
  am_bi (f164 z x1 M) fun v2 M1 =>
    if v2 = 0 then
      some (some (.inl (-2 : Int32)), M1)
    else
      am_bi (f164 z x3 M1) fun v4 M3 =>
        if ¬ v4 = 0 then
          if am_inB x1 4 then
            if am_inB x3 4 then
              am_bi (f34 z (152 + (3 + 2 * x1.toNatClampNeg)) M3) fun v6 M5 =>
                if v6 = 0 then
                  some (some (.inl (-6 : Int32)), M5)
                else
                  am_bi (f34 z (152 + (3 + 2 * x3.toNatClampNeg)) M5) fun v8 M7 =>
                    if ¬ v8 = 0 then
                      if (M7.1 (152 + (3 + 2 * x1.toNatClampNeg)) 0) = (M7.1 (152 + (3 + 2 * x3.toNatClampNeg)) 0) then
                        am_bi (f37 z (152 + (3 + 2 * x1.toNatClampNeg)) x2 x5 M7) fun v10 M9 =>
                          if v10 = 0 then
                            some (some (.inl (-7 : Int32)), M9)
                          else
                            am_bi (f37 z (152 + (3 + 2 * x3.toNatClampNeg)) x4 x5 M9) fun v12 M11 =>
                              if ¬ v12 = 0 then
                                if am_cpOk x2 x4 x5 60 60 then
                                  let J13 := am_ua M11.2 ((152 + (3 + 2 * x3.toNatClampNeg)) + 1) (va_cpy (M11.2 ((152 + (3 + 2 * x1.toNatClampNeg)) + 1)) (M11.2 ((152 + (3 + 2 * x3.toNatClampNeg)) + 1)) x2.toNatClampNeg x4.toNatClampNeg x5.toNatClampNeg)
                                  some (some (.inl (0 : Int32)), (M11.1, J13))
                                else
                                  none
                              else
                                some (some (.inl (-7 : Int32)), M11)
                      else
                        some (some (.inl (-8 : Int32)), M7)
                    else
                      some (some (.inl (-6 : Int32)), M7)
            else
              none
          else
            none
        else
          some (some (.inl (-2 : Int32)), M3)
set_option maxRecDepth 100000 in
set_option maxHeartbeats 4000000 in
theorem e168 (z : Nat) : ∀ (x1 : Int32) (x2 : Int32) (x3 : Int32) (x4 : Int32) (x5 : Int32) (M : aM) (r : aR), f168 z x1 x2 x3 x4 x5 M = some r → am_Ev 3 168 0 [some (.inr (.inr (10, 0))), some (.inl x1), some (.inl x2), some (.inl x3), some (.inl x4), some (.inl x5), none, none] [] M r := by
  intro x1 x2 x3 x4 x5 M r h
  exact am_Ev_seg (sem := am_s168_ z) (cut := ([] : List (Nat × List Bool))) (hs168 z) am_r168 am_k168 (by rw [am_l168]; decide) (fun _ _ _ _ => none) 48 h (fun _ _ _ _ hk => by cases hk)
def F168 (z : Nat) (as : List aV) (M : aM) : Option aR := match as with
  | [.inr (.inr (10, 0)), .inl x1, .inl x2, .inl x3, .inl x4, .inl x5] => f168 z x1 x2 x3 x4 x5 M
  | _ => none
theorem S168 (z : Nat) : am_Snd 3 168 (F168 z) := am_meth (by decide +kernel) (fun as M r has h => by
    rw [am_l168]
    unfold F168 at h
    split at h
    · exact ⟨Nat.le_of_ble_eq_true rfl, e168 z _ _ _ _ _ _ _ h⟩
    · cases h)
def cd170_0 : List am_E := [(0, .lload_n 0, 1, 0, 0, 0, 0), (1, .lload_n 2, 1, 2, 0, 0, 0), (2, .lcmp, 1, 0, 0, 0, 0), (3, .ifCond .lt 14, 3, 17, 0, 0, 0), (6, .lload_n 0, 1, 0, 0, 0, 0), (7, .lload 4, 2, 4, 0, 0, 0), (9, .lcmp, 1, 0, 0, 0, 0), (10, .ifCond .gt 7, 3, 17, 0, 0, 0), (13, .iconst 1, 1, 0, 0, 1, 0), (14, .goto 4, 3, 18, 0, 0, 0), (17, .iconst 0, 1, 0, 0, 0, 0), (18, .ireturn, 1, 0, 0, 0, 0)]
def cd170 : List am_E := cd170_0
def am_w170 : List (List (Int32 × Nat) × Nat) := []
set_option maxRecDepth 100000 in
theorem kcd170_0 : cd170_0.all (am_chk am_w170 170) = true := by decide +kernel
theorem am_k170 : cd170.all (am_chk am_w170 170) = true := by
  simp only [cd170, List.all_append, kcd170_0, Bool.and_self]
theorem am_r170 : am_rtc 170 = 1 := by decide +kernel
theorem am_l170 : am_ml 170 = 6 := by decide +kernel
def am_s170_ (z : Nat) : Nat → List aV → aM → Option aR := fun j => (fun _ _ => none)
theorem hs170 (z : Nat) : ∀ j2 : Nat, ∃ d2 : Nat, d2 + 1 ≤ 1 ∧ am_Snd d2 j2 (am_s170_ z j2) := by
  intro j2
  unfold am_s170_
  exact ⟨0, by decide, am_Snd_no j2⟩
/-- ArgumentMenderModel.in(JJJ)Z -/
def f170 (z : Nat) (y0 : Int64) (y2 : Int64) (y4 : Int64) (M : aM) : Option aR :=
  if (lg_cmp y0 y2) < 0 then
    some (some (.inl ((0 : Int32) &&& 1)), M)
  else
    if 0 < (lg_cmp y0 y4) then
      some (some (.inl ((0 : Int32) &&& 1)), M)
    else
      some (some (.inl ((1 : Int32) &&& 1)), M)
set_option maxRecDepth 100000 in
set_option maxHeartbeats 4000000 in
theorem e170 (z : Nat) : ∀ (y0 : Int64) (y2 : Int64) (y4 : Int64) (M : aM) (r : aR), f170 z y0 y2 y4 M = some r → am_Ev 1 170 0 [some (.inr (.inl y0)), none, some (.inr (.inl y2)), none, some (.inr (.inl y4)), none] [] M r := by
  intro y0 y2 y4 M r h
  exact am_Ev_seg (sem := am_s170_ z) (cut := ([] : List (Nat × List Bool))) (hs170 z) am_r170 am_k170 (by rw [am_l170]; decide) (fun _ _ _ _ => none) 12 h (fun _ _ _ _ hk => by cases hk)
def F170 (z : Nat) (as : List aV) (M : aM) : Option aR := match as with
  | [.inr (.inl y0), .inr (.inl y2), .inr (.inl y4)] => f170 z y0 y2 y4 M
  | _ => none
theorem S170 (z : Nat) : am_Snd 1 170 (F170 z) := am_meth (by decide +kernel) (fun as M r has h => by
    rw [am_l170]
    unfold F170 at h
    split at h
    · exact ⟨Nat.le_of_ble_eq_true rfl, e170 z _ _ _ _ _ h⟩
    · cases h)
def cd171_0 : List am_E := [(0, .iconst 0, 1, 0, 0, 0, 0), (1, .istore_n 1, 1, 1, 0, 0, 0), (2, .iconst 0, 1, 0, 0, 0, 0), (3, .istore_n 2, 1, 2, 0, 0, 0), (4, .iload_n 2, 1, 2, 0, 0, 0), (5, .bipush 16, 2, 0, 0, 16, 0), (7, .if_icmp .ge 17, 3, 24, 0, 0, 0), (10, .iload_n 1, 1, 1, 0, 0, 0), (11, .iload_n 0, 1, 0, 0, 0, 0), (12, .iload_n 2, 1, 2, 0, 0, 0), (13, .ishr, 1, 0, 0, 0, 0), (14, .iconst 1, 1, 0, 0, 1, 0), (15, .iand, 1, 0, 0, 0, 0), (16, .iadd, 1, 0, 0, 0, 0), (17, .istore_n 1, 1, 1, 0, 0, 0), (18, .iinc 2 1, 3, 2, 0, 1, 0), (21, .goto (-17), 3, 4, 0, 0, 0), (24, .iload_n 1, 1, 1, 0, 0, 0), (25, .ireturn, 1, 0, 0, 0, 0)]
def cd171 : List am_E := cd171_0
def am_w171 : List (List (Int32 × Nat) × Nat) := []
set_option maxRecDepth 100000 in
theorem kcd171_0 : cd171_0.all (am_chk am_w171 171) = true := by decide +kernel
theorem am_k171 : cd171.all (am_chk am_w171 171) = true := by
  simp only [cd171, List.all_append, kcd171_0, Bool.and_self]
theorem am_r171 : am_rtc 171 = 0 := by decide +kernel
theorem am_l171 : am_ml 171 = 3 := by decide +kernel
def am_s171_ (z : Nat) : Nat → List aV → aM → Option aR := fun j => (fun _ _ => none)
theorem hs171 (z : Nat) : ∀ j2 : Nat, ∃ d2 : Nat, d2 + 1 ≤ 1 ∧ am_Snd d2 j2 (am_s171_ z j2) := by
  intro j2
  unfold am_s171_
  exact ⟨0, by decide, am_Snd_no j2⟩
def f171_4 (z : Nat) : Nat → Int32 → Int32 → Int32 → aM → Option aR
  | 0, _, _, _, _ => none
  | n + 1, x0, x1, x2, M =>
    if (16 : Int32) ≤ x2 then
      some (some (.inl x1), M)
    else
      f171_4 z n x0 (x1 + ((x0 >>> (x2 &&& 31)) &&& (1 : Int32))) (x2 + (1 : Int32)) M
set_option maxRecDepth 100000 in
set_option maxHeartbeats 4000000 in
theorem e171_4 (z : Nat) : ∀ (n : Nat) (x0 : Int32) (x1 : Int32) (x2 : Int32) (M : aM) (r : aR), f171_4 z n x0 x1 x2 M = some r → am_Ev 1 171 4 [some (.inl x0), some (.inl x1), some (.inl x2)] [] M r := by
  intro n
  induction n with
  | zero =>
    intro x0 x1 x2 M r h
    cases h
  | succ n ih =>
    intro x0 x1 x2 M r h
    exact am_Ev_seg (sem := am_s171_ z) (cut := ([(4, [true, true, true])] : List (Nat × List Bool))) (hs171 z) am_r171 am_k171 (by rw [am_l171]; decide) (fun pc al st M => (match Nat.beq pc 4 with
      | true => (match al, st with
        | [some (.inl x0), some (.inl x1), some (.inl x2)], [] => f171_4 z n x0 x1 x2 M
        | _, _ => none)
      | false => none)) 15 h (fun pc al st M hk => by
      try dsimp only at hk
      split at hk
      · rename_i he
        rw [am_beq he]
        split at hk
        · exact ih _ _ _ _ _ hk
        · cases hk
      · cases hk)
/-- ArgumentMenderModel.bits(I)I -/
def f171 (z : Nat) (x0 : Int32) (M : aM) : Option aR :=
  f171_4 z z x0 (0 : Int32) (0 : Int32) M
set_option maxRecDepth 100000 in
set_option maxHeartbeats 4000000 in
theorem e171 (z : Nat) : ∀ (x0 : Int32) (M : aM) (r : aR), f171 z x0 M = some r → am_Ev 1 171 0 [some (.inl x0), none, none] [] M r := by
  intro x0 M r h
  exact am_Ev_seg (sem := am_s171_ z) (cut := ([(4, [true, true, true])] : List (Nat × List Bool))) (hs171 z) am_r171 am_k171 (by rw [am_l171]; decide) (fun pc al st M => (match Nat.beq pc 4 with
      | true => (match al, st with
        | [some (.inl x0), some (.inl x1), some (.inl x2)], [] => f171_4 z z x0 x1 x2 M
        | _, _ => none)
      | false => none)) 6 h (fun pc al st M hk => by
      try dsimp only at hk
      split at hk
      · rename_i he
        rw [am_beq he]
        split at hk
        · exact e171_4 z _ _ _ _ _ _ hk
        · cases hk
      · cases hk)
def F171 (z : Nat) (as : List aV) (M : aM) : Option aR := match as with
  | [.inl x0] => f171 z x0 M
  | _ => none
theorem S171 (z : Nat) : am_Snd 1 171 (F171 z) := am_meth (by decide +kernel) (fun as M r has h => by
    rw [am_l171]
    unfold F171 at h
    split at h
    · exact ⟨Nat.le_of_ble_eq_true rfl, e171 z _ _ _ h⟩
    · cases h)
def cd172_0 : List am_E := [(0, .iload_n 0, 1, 0, 0, 0, 0), (1, .iload_n 1, 1, 1, 0, 0, 0), (2, .ishr, 1, 0, 0, 0, 0), (3, .iconst 1, 1, 0, 0, 1, 0), (4, .iand, 1, 0, 0, 0, 0), (5, .ireturn, 1, 0, 0, 0, 0)]
def cd172 : List am_E := cd172_0
def am_w172 : List (List (Int32 × Nat) × Nat) := []
set_option maxRecDepth 100000 in
theorem kcd172_0 : cd172_0.all (am_chk am_w172 172) = true := by decide +kernel
theorem am_k172 : cd172.all (am_chk am_w172 172) = true := by
  simp only [cd172, List.all_append, kcd172_0, Bool.and_self]
theorem am_r172 : am_rtc 172 = 0 := by decide +kernel
theorem am_l172 : am_ml 172 = 2 := by decide +kernel
def am_s172_ (z : Nat) : Nat → List aV → aM → Option aR := fun j => (fun _ _ => none)
theorem hs172 (z : Nat) : ∀ j2 : Nat, ∃ d2 : Nat, d2 + 1 ≤ 1 ∧ am_Snd d2 j2 (am_s172_ z j2) := by
  intro j2
  unfold am_s172_
  exact ⟨0, by decide, am_Snd_no j2⟩
/-- ArgumentMenderModel.bit(II)I -/
def f172 (z : Nat) (x0 : Int32) (x1 : Int32) (M : aM) : Option aR :=
  some (some (.inl ((x0 >>> (x1 &&& 31)) &&& (1 : Int32))), M)
set_option maxRecDepth 100000 in
set_option maxHeartbeats 4000000 in
theorem e172 (z : Nat) : ∀ (x0 : Int32) (x1 : Int32) (M : aM) (r : aR), f172 z x0 x1 M = some r → am_Ev 1 172 0 [some (.inl x0), some (.inl x1)] [] M r := by
  intro x0 x1 M r h
  exact am_Ev_seg (sem := am_s172_ z) (cut := ([] : List (Nat × List Bool))) (hs172 z) am_r172 am_k172 (by rw [am_l172]; decide) (fun _ _ _ _ => none) 7 h (fun _ _ _ _ hk => by cases hk)
def F172 (z : Nat) (as : List aV) (M : aM) : Option aR := match as with
  | [.inl x0, .inl x1] => f172 z x0 x1 M
  | _ => none
theorem S172 (z : Nat) : am_Snd 1 172 (F172 z) := am_meth (by decide +kernel) (fun as M r has h => by
    rw [am_l172]
    unfold F172 at h
    split at h
    · exact ⟨Nat.le_of_ble_eq_true rfl, e172 z _ _ _ _ h⟩
    · cases h)
def cd173_0 : List am_E := [(0, .iload_n 1, 1, 1, 0, 0, 0), (1, .i2l, 1, 0, 0, 0, 0), (2, .lconst 0, 1, 0, 0, 0, 0), (3, .ldc2_w 101, 3, 0, 0, 0, 2), (6, .invokestatic 103, 3, 170, 35, 0, 0), (9, .ifCond .ne 6, 3, 15, 0, 0, 0), (12, .bipush (-2), 2, 0, 0, (-2), 0), (14, .ireturn, 1, 0, 0, 0, 0), (15, .iconst 0, 1, 0, 0, 0, 0), (16, .istore_n 2, 1, 2, 0, 0, 0), (17, .iload_n 2, 1, 2, 0, 0, 0), (18, .bipush 116, 2, 0, 0, 116, 0), (20, .if_icmp .ge 26, 3, 46, 0, 0, 0), (23, .aload_n 0, 1, 0, 0, 0, 0), (24, .getfield 13, 3, 11, 2, 0, 0), (27, .bipush 116, 2, 0, 0, 116, 0), (29, .iload_n 1, 1, 1, 0, 0, 0), (30, .imul, 1, 0, 0, 0, 0), (31, .iload_n 2, 1, 2, 0, 0, 0), (32, .iadd, 1, 0, 0, 0, 0), (33, .aload_n 0, 1, 0, 0, 0, 0), (34, .getfield 9, 3, 11, 1, 0, 0), (37, .iload_n 2, 1, 2, 0, 0, 0), (38, .iaload, 1, 0, 0, 0, 0), (39, .iastore, 1, 0, 0, 0, 0), (40, .iinc 2 1, 3, 2, 0, 1, 0), (43, .goto (-26), 3, 17, 0, 0, 0), (46, .aload_n 0, 1, 0, 0, 0, 0), (47, .getfield 16, 3, 11, 3, 0, 0), (50, .iload_n 1, 1, 1, 0, 0, 0), (51, .iconst 1, 1, 0, 0, 1, 0), (52, .bastore, 1, 0, 0, 0, 0), (53, .iconst 0, 1, 0, 0, 0, 0), (54, .ireturn, 1, 0, 0, 0, 0)]
def cd173 : List am_E := cd173_0
def am_w173 : List (List (Int32 × Nat) × Nat) := []
set_option maxRecDepth 100000 in
theorem kcd173_0 : cd173_0.all (am_chk am_w173 173) = true := by decide +kernel
theorem am_k173 : cd173.all (am_chk am_w173 173) = true := by
  simp only [cd173, List.all_append, kcd173_0, Bool.and_self]
theorem am_r173 : am_rtc 173 = 0 := by decide +kernel
theorem am_l173 : am_ml 173 = 3 := by decide +kernel
def am_s173_ (z : Nat) : Nat → List aV → aM → Option aR := fun j => (match Nat.beq j 170 with
  | true => F170 z
  | false => (fun _ _ => none))
theorem hs173 (z : Nat) : ∀ j2 : Nat, ∃ d2 : Nat, d2 + 1 ≤ 2 ∧ am_Snd d2 j2 (am_s173_ z j2) := by
  intro j2
  unfold am_s173_
  split
  · rename_i he
    rw [am_beq he]
    exact ⟨_, by decide, S170 z⟩
  · skip
    exact ⟨0, by decide, am_Snd_no j2⟩
def f173_17 (z : Nat) : Nat → Int32 → Int32 → aM → Option aR
  | 0, _, _, _ => none
  | n + 1, x1, x2, M =>
    if (116 : Int32) ≤ x2 then
      if am_inB x1 3 then
        let I1 := am_u M.1 208 x1.toNatClampNeg ((1 : Int32) &&& 1)
        some (some (.inl (0 : Int32)), (I1, M.2))
      else
        none
    else
      if am_inB x2 116 then
        if am_inB (((116 : Int32) * x1) + x2) 348 then
          let I2 := am_u M.1 207 (((116 : Int32) * x1) + x2).toNatClampNeg (M.1 206 x2.toNatClampNeg)
          f173_17 z n x1 (x2 + (1 : Int32)) (I2, M.2)
        else
          none
      else
        none
set_option maxRecDepth 100000 in
set_option maxHeartbeats 4000000 in
theorem e173_17 (z : Nat) : ∀ (n : Nat) (x1 : Int32) (x2 : Int32) (M : aM) (r : aR), f173_17 z n x1 x2 M = some r → am_Ev 2 173 17 [some (.inr (.inr (11, 205))), some (.inl x1), some (.inl x2)] [] M r := by
  intro n
  induction n with
  | zero =>
    intro x1 x2 M r h
    cases h
  | succ n ih =>
    intro x1 x2 M r h
    exact am_Ev_seg (sem := am_s173_ z) (cut := ([(17, [true, true, true])] : List (Nat × List Bool))) (hs173 z) am_r173 am_k173 (by rw [am_l173]; decide) (fun pc al st M => (match Nat.beq pc 17 with
      | true => (match al, st with
        | [some (.inr (.inr (11, 205))), some (.inl x1), some (.inl x2)], [] => f173_17 z n x1 x2 M
        | _, _ => none)
      | false => none)) 19 h (fun pc al st M hk => by
      try dsimp only at hk
      split at hk
      · rename_i he
        rw [am_beq he]
        split at hk
        · exact ih _ _ _ _ hk
        · cases hk
      · cases hk)
/-- ArgumentMenderModel.image(I)I -/
def f173 (z : Nat) (x1 : Int32) (M : aM) : Option aR :=
  am_bi (f170 z (Int32.toInt64 x1) (0 : Int64) (2 : Int64) M) fun v2 M1 =>
    if ¬ v2 = 0 then
      f173_17 z z x1 (0 : Int32) M1
    else
      some (some (.inl (-2 : Int32)), M1)
set_option maxRecDepth 100000 in
set_option maxHeartbeats 4000000 in
theorem e173 (z : Nat) : ∀ (x1 : Int32) (M : aM) (r : aR), f173 z x1 M = some r → am_Ev 2 173 0 [some (.inr (.inr (11, 205))), some (.inl x1), none] [] M r := by
  intro x1 M r h
  exact am_Ev_seg (sem := am_s173_ z) (cut := ([(17, [true, true, true])] : List (Nat × List Bool))) (hs173 z) am_r173 am_k173 (by rw [am_l173]; decide) (fun pc al st M => (match Nat.beq pc 17 with
      | true => (match al, st with
        | [some (.inr (.inr (11, 205))), some (.inl x1), some (.inl x2)], [] => f173_17 z z x1 x2 M
        | _, _ => none)
      | false => none)) 10 h (fun pc al st M hk => by
      try dsimp only at hk
      split at hk
      · rename_i he
        rw [am_beq he]
        split at hk
        · exact e173_17 z _ _ _ _ _ hk
        · cases hk
      · cases hk)
def F173 (z : Nat) (as : List aV) (M : aM) : Option aR := match as with
  | [.inr (.inr (11, 205)), .inl x1] => f173 z x1 M
  | _ => none
theorem S173 (z : Nat) : am_Snd 2 173 (F173 z) := am_meth (by decide +kernel) (fun as M r has h => by
    rw [am_l173]
    unfold F173 at h
    split at h
    · exact ⟨Nat.le_of_ble_eq_true rfl, e173 z _ _ _ h⟩
    · cases h)
def cd174_0 : List am_E := [(0, .iload_n 1, 1, 1, 0, 0, 0), (1, .i2l, 1, 0, 0, 0, 0), (2, .lconst 0, 1, 0, 0, 0, 0), (3, .ldc2_w 101, 3, 0, 0, 0, 2), (6, .invokestatic 103, 3, 170, 35, 0, 0), (9, .ifCond .ne 6, 3, 15, 0, 0, 0), (12, .bipush (-2), 2, 0, 0, (-2), 0), (14, .ireturn, 1, 0, 0, 0, 0), (15, .aload_n 0, 1, 0, 0, 0, 0), (16, .getfield 16, 3, 11, 3, 0, 0), (19, .iload_n 1, 1, 1, 0, 0, 0), (20, .baload, 1, 0, 0, 0, 0), (21, .ifCond .ne 6, 3, 27, 0, 0, 0), (24, .bipush (-6), 2, 0, 0, (-6), 0), (26, .ireturn, 1, 0, 0, 0, 0), (27, .iconst 0, 1, 0, 0, 0, 0), (28, .istore_n 2, 1, 2, 0, 0, 0), (29, .iload_n 2, 1, 2, 0, 0, 0), (30, .bipush 116, 2, 0, 0, 116, 0), (32, .if_icmp .ge 26, 3, 58, 0, 0, 0), (35, .aload_n 0, 1, 0, 0, 0, 0), (36, .getfield 9, 3, 11, 1, 0, 0), (39, .iload_n 2, 1, 2, 0, 0, 0), (40, .aload_n 0, 1, 0, 0, 0, 0), (41, .getfield 13, 3, 11, 2, 0, 0), (44, .bipush 116, 2, 0, 0, 116, 0), (46, .iload_n 1, 1, 1, 0, 0, 0), (47, .imul, 1, 0, 0, 0, 0), (48, .iload_n 2, 1, 2, 0, 0, 0), (49, .iadd, 1, 0, 0, 0, 0), (50, .iaload, 1, 0, 0, 0, 0), (51, .iastore, 1, 0, 0, 0, 0), (52, .iinc 2 1, 3, 2, 0, 1, 0), (55, .goto (-26), 3, 29, 0, 0, 0), (58, .iconst 0, 1, 0, 0, 0, 0), (59, .ireturn, 1, 0, 0, 0, 0)]
def cd174 : List am_E := cd174_0
def am_w174 : List (List (Int32 × Nat) × Nat) := []
set_option maxRecDepth 100000 in
theorem kcd174_0 : cd174_0.all (am_chk am_w174 174) = true := by decide +kernel
theorem am_k174 : cd174.all (am_chk am_w174 174) = true := by
  simp only [cd174, List.all_append, kcd174_0, Bool.and_self]
theorem am_r174 : am_rtc 174 = 0 := by decide +kernel
theorem am_l174 : am_ml 174 = 3 := by decide +kernel
def am_s174_ (z : Nat) : Nat → List aV → aM → Option aR := fun j => (match Nat.beq j 170 with
  | true => F170 z
  | false => (fun _ _ => none))
theorem hs174 (z : Nat) : ∀ j2 : Nat, ∃ d2 : Nat, d2 + 1 ≤ 2 ∧ am_Snd d2 j2 (am_s174_ z j2) := by
  intro j2
  unfold am_s174_
  split
  · rename_i he
    rw [am_beq he]
    exact ⟨_, by decide, S170 z⟩
  · skip
    exact ⟨0, by decide, am_Snd_no j2⟩
def f174_29 (z : Nat) : Nat → Int32 → Int32 → aM → Option aR
  | 0, _, _, _ => none
  | n + 1, x1, x2, M =>
    if (116 : Int32) ≤ x2 then
      some (some (.inl (0 : Int32)), M)
    else
      if am_inB (((116 : Int32) * x1) + x2) 348 then
        if am_inB x2 116 then
          let I1 := am_u M.1 206 x2.toNatClampNeg (M.1 207 (((116 : Int32) * x1) + x2).toNatClampNeg)
          f174_29 z n x1 (x2 + (1 : Int32)) (I1, M.2)
        else
          none
      else
        none
set_option maxRecDepth 100000 in
set_option maxHeartbeats 4000000 in
theorem e174_29 (z : Nat) : ∀ (n : Nat) (x1 : Int32) (x2 : Int32) (M : aM) (r : aR), f174_29 z n x1 x2 M = some r → am_Ev 2 174 29 [some (.inr (.inr (11, 205))), some (.inl x1), some (.inl x2)] [] M r := by
  intro n
  induction n with
  | zero =>
    intro x1 x2 M r h
    cases h
  | succ n ih =>
    intro x1 x2 M r h
    exact am_Ev_seg (sem := am_s174_ z) (cut := ([(29, [true, true, true])] : List (Nat × List Bool))) (hs174 z) am_r174 am_k174 (by rw [am_l174]; decide) (fun pc al st M => (match Nat.beq pc 29 with
      | true => (match al, st with
        | [some (.inr (.inr (11, 205))), some (.inl x1), some (.inl x2)], [] => f174_29 z n x1 x2 M
        | _, _ => none)
      | false => none)) 19 h (fun pc al st M hk => by
      try dsimp only at hk
      split at hk
      · rename_i he
        rw [am_beq he]
        split at hk
        · exact ih _ _ _ _ hk
        · cases hk
      · cases hk)
/-- ArgumentMenderModel.back(I)I -/
def f174 (z : Nat) (x1 : Int32) (M : aM) : Option aR :=
  am_bi (f170 z (Int32.toInt64 x1) (0 : Int64) (2 : Int64) M) fun v2 M1 =>
    if ¬ v2 = 0 then
      if am_inB x1 3 then
        if ¬ (M1.1 208 x1.toNatClampNeg) = 0 then
          f174_29 z z x1 (0 : Int32) M1
        else
          some (some (.inl (-6 : Int32)), M1)
      else
        none
    else
      some (some (.inl (-2 : Int32)), M1)
set_option maxRecDepth 100000 in
set_option maxHeartbeats 4000000 in
theorem e174 (z : Nat) : ∀ (x1 : Int32) (M : aM) (r : aR), f174 z x1 M = some r → am_Ev 2 174 0 [some (.inr (.inr (11, 205))), some (.inl x1), none] [] M r := by
  intro x1 M r h
  exact am_Ev_seg (sem := am_s174_ z) (cut := ([(29, [true, true, true])] : List (Nat × List Bool))) (hs174 z) am_r174 am_k174 (by rw [am_l174]; decide) (fun pc al st M => (match Nat.beq pc 29 with
      | true => (match al, st with
        | [some (.inr (.inr (11, 205))), some (.inl x1), some (.inl x2)], [] => f174_29 z z x1 x2 M
        | _, _ => none)
      | false => none)) 15 h (fun pc al st M hk => by
      try dsimp only at hk
      split at hk
      · rename_i he
        rw [am_beq he]
        split at hk
        · exact e174_29 z _ _ _ _ _ hk
        · cases hk
      · cases hk)
def F174 (z : Nat) (as : List aV) (M : aM) : Option aR := match as with
  | [.inr (.inr (11, 205)), .inl x1] => f174 z x1 M
  | _ => none
theorem S174 (z : Nat) : am_Snd 2 174 (F174 z) := am_meth (by decide +kernel) (fun as M r has h => by
    rw [am_l174]
    unfold F174 at h
    split at h
    · exact ⟨Nat.le_of_ble_eq_true rfl, e174 z _ _ _ h⟩
    · cases h)
def cd175_0 : List am_E := [(0, .aload_n 0, 1, 0, 0, 0, 0), (1, .getfield 9, 3, 11, 1, 0, 0), (4, .bipush 7, 2, 0, 0, 7, 0), (6, .iaload, 1, 0, 0, 0, 0), (7, .ifCond .le 7, 3, 14, 0, 0, 0), (10, .iconst 1, 1, 0, 0, 1, 0), (11, .goto 4, 3, 15, 0, 0, 0), (14, .iconst 0, 1, 0, 0, 0, 0), (15, .ireturn, 1, 0, 0, 0, 0)]
def cd175 : List am_E := cd175_0
def am_w175 : List (List (Int32 × Nat) × Nat) := []
set_option maxRecDepth 100000 in
theorem kcd175_0 : cd175_0.all (am_chk am_w175 175) = true := by decide +kernel
theorem am_k175 : cd175.all (am_chk am_w175 175) = true := by
  simp only [cd175, List.all_append, kcd175_0, Bool.and_self]
theorem am_r175 : am_rtc 175 = 1 := by decide +kernel
theorem am_l175 : am_ml 175 = 1 := by decide +kernel
def am_s175_ (z : Nat) : Nat → List aV → aM → Option aR := fun j => (fun _ _ => none)
theorem hs175 (z : Nat) : ∀ j2 : Nat, ∃ d2 : Nat, d2 + 1 ≤ 1 ∧ am_Snd d2 j2 (am_s175_ z j2) := by
  intro j2
  unfold am_s175_
  exact ⟨0, by decide, am_Snd_no j2⟩
/-- ArgumentMenderModel.isCloth()Z -/
def f175 (z : Nat) (M : aM) : Option aR :=
  if am_inB (7 : Int32) 116 then
    if (M.1 206 (7 : Int32).toNatClampNeg) ≤ 0 then
      some (some (.inl ((0 : Int32) &&& 1)), M)
    else
      some (some (.inl ((1 : Int32) &&& 1)), M)
  else
    none
set_option maxRecDepth 100000 in
set_option maxHeartbeats 4000000 in
theorem e175 (z : Nat) : ∀ (M : aM) (r : aR), f175 z  M = some r → am_Ev 1 175 0 [some (.inr (.inr (11, 205)))] [] M r := by
  intro  M r h
  exact am_Ev_seg (sem := am_s175_ z) (cut := ([] : List (Nat × List Bool))) (hs175 z) am_r175 am_k175 (by rw [am_l175]; decide) (fun _ _ _ _ => none) 9 h (fun _ _ _ _ hk => by cases hk)
def F175 (z : Nat) (as : List aV) (M : aM) : Option aR := match as with
  | [.inr (.inr (11, 205))] => f175 z  M
  | _ => none
theorem S175 (z : Nat) : am_Snd 1 175 (F175 z) := am_meth (by decide +kernel) (fun as M r has h => by
    rw [am_l175]
    unfold F175 at h
    split at h
    · exact ⟨Nat.le_of_ble_eq_true rfl, e175 z _ _ h⟩
    · cases h)
def cd176_0 : List am_E := [(0, .aload_n 0, 1, 0, 0, 0, 0), (1, .getfield 9, 3, 11, 1, 0, 0), (4, .iconst 0, 1, 0, 0, 0, 0), (5, .iaload, 1, 0, 0, 0, 0), (6, .ireturn, 1, 0, 0, 0, 0)]
def cd176 : List am_E := cd176_0
def am_w176 : List (List (Int32 × Nat) × Nat) := []
set_option maxRecDepth 100000 in
theorem kcd176_0 : cd176_0.all (am_chk am_w176 176) = true := by decide +kernel
theorem am_k176 : cd176.all (am_chk am_w176 176) = true := by
  simp only [cd176, List.all_append, kcd176_0, Bool.and_self]
theorem am_r176 : am_rtc 176 = 0 := by decide +kernel
theorem am_l176 : am_ml 176 = 1 := by decide +kernel
def am_s176_ (z : Nat) : Nat → List aV → aM → Option aR := fun j => (fun _ _ => none)
theorem hs176 (z : Nat) : ∀ j2 : Nat, ∃ d2 : Nat, d2 + 1 ≤ 1 ∧ am_Snd d2 j2 (am_s176_ z j2) := by
  intro j2
  unfold am_s176_
  exact ⟨0, by decide, am_Snd_no j2⟩
/-- ArgumentMenderModel.years()I -/
def f176 (z : Nat) (M : aM) : Option aR :=
  if am_inB (0 : Int32) 116 then
    some (some (.inl (M.1 206 (0 : Int32).toNatClampNeg)), M)
  else
    none
set_option maxRecDepth 100000 in
set_option maxHeartbeats 4000000 in
theorem e176 (z : Nat) : ∀ (M : aM) (r : aR), f176 z  M = some r → am_Ev 1 176 0 [some (.inr (.inr (11, 205)))] [] M r := by
  intro  M r h
  exact am_Ev_seg (sem := am_s176_ z) (cut := ([] : List (Nat × List Bool))) (hs176 z) am_r176 am_k176 (by rw [am_l176]; decide) (fun _ _ _ _ => none) 6 h (fun _ _ _ _ hk => by cases hk)
def F176 (z : Nat) (as : List aV) (M : aM) : Option aR := match as with
  | [.inr (.inr (11, 205))] => f176 z  M
  | _ => none
theorem S176 (z : Nat) : am_Snd 1 176 (F176 z) := am_meth (by decide +kernel) (fun as M r has h => by
    rw [am_l176]
    unfold F176 at h
    split at h
    · exact ⟨Nat.le_of_ble_eq_true rfl, e176 z _ _ h⟩
    · cases h)
def cd177_0 : List am_E := [(0, .aload_n 0, 1, 0, 0, 0, 0), (1, .getfield 9, 3, 11, 1, 0, 0), (4, .iconst 3, 1, 0, 0, 3, 0), (5, .iaload, 1, 0, 0, 0, 0), (6, .ireturn, 1, 0, 0, 0, 0)]
def cd177 : List am_E := cd177_0
def am_w177 : List (List (Int32 × Nat) × Nat) := []
set_option maxRecDepth 100000 in
theorem kcd177_0 : cd177_0.all (am_chk am_w177 177) = true := by decide +kernel
theorem am_k177 : cd177.all (am_chk am_w177 177) = true := by
  simp only [cd177, List.all_append, kcd177_0, Bool.and_self]
theorem am_r177 : am_rtc 177 = 0 := by decide +kernel
theorem am_l177 : am_ml 177 = 1 := by decide +kernel
def am_s177_ (z : Nat) : Nat → List aV → aM → Option aR := fun j => (fun _ _ => none)
theorem hs177 (z : Nat) : ∀ j2 : Nat, ∃ d2 : Nat, d2 + 1 ≤ 1 ∧ am_Snd d2 j2 (am_s177_ z j2) := by
  intro j2
  unfold am_s177_
  exact ⟨0, by decide, am_Snd_no j2⟩
/-- ArgumentMenderModel.claims()I -/
def f177 (z : Nat) (M : aM) : Option aR :=
  if am_inB (3 : Int32) 116 then
    some (some (.inl (M.1 206 (3 : Int32).toNatClampNeg)), M)
  else
    none
set_option maxRecDepth 100000 in
set_option maxHeartbeats 4000000 in
theorem e177 (z : Nat) : ∀ (M : aM) (r : aR), f177 z  M = some r → am_Ev 1 177 0 [some (.inr (.inr (11, 205)))] [] M r := by
  intro  M r h
  exact am_Ev_seg (sem := am_s177_ z) (cut := ([] : List (Nat × List Bool))) (hs177 z) am_r177 am_k177 (by rw [am_l177]; decide) (fun _ _ _ _ => none) 6 h (fun _ _ _ _ hk => by cases hk)
def F177 (z : Nat) (as : List aV) (M : aM) : Option aR := match as with
  | [.inr (.inr (11, 205))] => f177 z  M
  | _ => none
theorem S177 (z : Nat) : am_Snd 1 177 (F177 z) := am_meth (by decide +kernel) (fun as M r has h => by
    rw [am_l177]
    unfold F177 at h
    split at h
    · exact ⟨Nat.le_of_ble_eq_true rfl, e177 z _ _ h⟩
    · cases h)
def cd178_0 : List am_E := [(0, .aload_n 0, 1, 0, 0, 0, 0), (1, .getfield 9, 3, 11, 1, 0, 0), (4, .iconst 4, 1, 0, 0, 4, 0), (5, .iaload, 1, 0, 0, 0, 0), (6, .ireturn, 1, 0, 0, 0, 0)]
def cd178 : List am_E := cd178_0
def am_w178 : List (List (Int32 × Nat) × Nat) := []
set_option maxRecDepth 100000 in
theorem kcd178_0 : cd178_0.all (am_chk am_w178 178) = true := by decide +kernel
theorem am_k178 : cd178.all (am_chk am_w178 178) = true := by
  simp only [cd178, List.all_append, kcd178_0, Bool.and_self]
theorem am_r178 : am_rtc 178 = 0 := by decide +kernel
theorem am_l178 : am_ml 178 = 1 := by decide +kernel
def am_s178_ (z : Nat) : Nat → List aV → aM → Option aR := fun j => (fun _ _ => none)
theorem hs178 (z : Nat) : ∀ j2 : Nat, ∃ d2 : Nat, d2 + 1 ≤ 1 ∧ am_Snd d2 j2 (am_s178_ z j2) := by
  intro j2
  unfold am_s178_
  exact ⟨0, by decide, am_Snd_no j2⟩
/-- ArgumentMenderModel.threadMany()I -/
def f178 (z : Nat) (M : aM) : Option aR :=
  if am_inB (4 : Int32) 116 then
    some (some (.inl (M.1 206 (4 : Int32).toNatClampNeg)), M)
  else
    none
set_option maxRecDepth 100000 in
set_option maxHeartbeats 4000000 in
theorem e178 (z : Nat) : ∀ (M : aM) (r : aR), f178 z  M = some r → am_Ev 1 178 0 [some (.inr (.inr (11, 205)))] [] M r := by
  intro  M r h
  exact am_Ev_seg (sem := am_s178_ z) (cut := ([] : List (Nat × List Bool))) (hs178 z) am_r178 am_k178 (by rw [am_l178]; decide) (fun _ _ _ _ => none) 6 h (fun _ _ _ _ hk => by cases hk)
def F178 (z : Nat) (as : List aV) (M : aM) : Option aR := match as with
  | [.inr (.inr (11, 205))] => f178 z  M
  | _ => none
theorem S178 (z : Nat) : am_Snd 1 178 (F178 z) := am_meth (by decide +kernel) (fun as M r has h => by
    rw [am_l178]
    unfold F178 at h
    split at h
    · exact ⟨Nat.le_of_ble_eq_true rfl, e178 z _ _ h⟩
    · cases h)
def cd179_0 : List am_E := [(0, .aload_n 0, 1, 0, 0, 0, 0), (1, .getfield 9, 3, 11, 1, 0, 0), (4, .iconst 5, 1, 0, 0, 5, 0), (5, .iaload, 1, 0, 0, 0, 0), (6, .ireturn, 1, 0, 0, 0, 0)]
def cd179 : List am_E := cd179_0
def am_w179 : List (List (Int32 × Nat) × Nat) := []
set_option maxRecDepth 100000 in
theorem kcd179_0 : cd179_0.all (am_chk am_w179 179) = true := by decide +kernel
theorem am_k179 : cd179.all (am_chk am_w179 179) = true := by
  simp only [cd179, List.all_append, kcd179_0, Bool.and_self]
theorem am_r179 : am_rtc 179 = 0 := by decide +kernel
theorem am_l179 : am_ml 179 = 1 := by decide +kernel
def am_s179_ (z : Nat) : Nat → List aV → aM → Option aR := fun j => (fun _ _ => none)
theorem hs179 (z : Nat) : ∀ j2 : Nat, ∃ d2 : Nat, d2 + 1 ≤ 1 ∧ am_Snd d2 j2 (am_s179_ z j2) := by
  intro j2
  unfold am_s179_
  exact ⟨0, by decide, am_Snd_no j2⟩
/-- ArgumentMenderModel.quarrelMany()I -/
def f179 (z : Nat) (M : aM) : Option aR :=
  if am_inB (5 : Int32) 116 then
    some (some (.inl (M.1 206 (5 : Int32).toNatClampNeg)), M)
  else
    none
set_option maxRecDepth 100000 in
set_option maxHeartbeats 4000000 in
theorem e179 (z : Nat) : ∀ (M : aM) (r : aR), f179 z  M = some r → am_Ev 1 179 0 [some (.inr (.inr (11, 205)))] [] M r := by
  intro  M r h
  exact am_Ev_seg (sem := am_s179_ z) (cut := ([] : List (Nat × List Bool))) (hs179 z) am_r179 am_k179 (by rw [am_l179]; decide) (fun _ _ _ _ => none) 6 h (fun _ _ _ _ hk => by cases hk)
def F179 (z : Nat) (as : List aV) (M : aM) : Option aR := match as with
  | [.inr (.inr (11, 205))] => f179 z  M
  | _ => none
theorem S179 (z : Nat) : am_Snd 1 179 (F179 z) := am_meth (by decide +kernel) (fun as M r has h => by
    rw [am_l179]
    unfold F179 at h
    split at h
    · exact ⟨Nat.le_of_ble_eq_true rfl, e179 z _ _ h⟩
    · cases h)
def cd180_0 : List am_E := [(0, .aload_n 0, 1, 0, 0, 0, 0), (1, .invokevirtual 107, 3, 175, 11000, 0, 0), (4, .ifCond .eq 20, 3, 24, 0, 0, 0), (7, .lload_n 1, 1, 1, 0, 0, 0), (8, .lconst 0, 1, 0, 0, 0, 0), (9, .aload_n 0, 1, 0, 0, 0, 0), (10, .invokevirtual 111, 3, 176, 11000, 0, 0), (13, .i2l, 1, 0, 0, 0, 0), (14, .invokestatic 103, 3, 170, 35, 0, 0), (17, .ifCond .eq 7, 3, 24, 0, 0, 0), (20, .iconst 1, 1, 0, 0, 1, 0), (21, .goto 4, 3, 25, 0, 0, 0), (24, .iconst 0, 1, 0, 0, 0, 0), (25, .ireturn, 1, 0, 0, 0, 0)]
def cd180 : List am_E := cd180_0
def am_w180 : List (List (Int32 × Nat) × Nat) := []
set_option maxRecDepth 100000 in
theorem kcd180_0 : cd180_0.all (am_chk am_w180 180) = true := by decide +kernel
theorem am_k180 : cd180.all (am_chk am_w180 180) = true := by
  simp only [cd180, List.all_append, kcd180_0, Bool.and_self]
theorem am_r180 : am_rtc 180 = 1 := by decide +kernel
theorem am_l180 : am_ml 180 = 3 := by decide +kernel
def am_s180_ (z : Nat) : Nat → List aV → aM → Option aR := fun j => (match Nat.beq j 170 with
  | true => F170 z
  | false => (match Nat.beq j 175 with
  | true => F175 z
  | false => (match Nat.beq j 176 with
  | true => F176 z
  | false => (fun _ _ => none))))
theorem hs180 (z : Nat) : ∀ j2 : Nat, ∃ d2 : Nat, d2 + 1 ≤ 2 ∧ am_Snd d2 j2 (am_s180_ z j2) := by
  intro j2
  unfold am_s180_
  split
  · rename_i he
    rw [am_beq he]
    exact ⟨_, by decide, S170 z⟩
  · skip
    split
    · rename_i he
      rw [am_beq he]
      exact ⟨_, by decide, S175 z⟩
    · skip
      split
      · rename_i he
        rw [am_beq he]
        exact ⟨_, by decide, S176 z⟩
      · skip
        exact ⟨0, by decide, am_Snd_no j2⟩
/-- ArgumentMenderModel.isYear(J)Z -/
def f180 (z : Nat) (y1 : Int64) (M : aM) : Option aR :=
  am_bi (f175 z M) fun v2 M1 =>
    if v2 = 0 then
      some (some (.inl ((0 : Int32) &&& 1)), M1)
    else
      am_bi (f176 z M1) fun v4 M3 =>
        am_bi (f170 z y1 (0 : Int64) (Int32.toInt64 v4) M3) fun v6 M5 =>
          if v6 = 0 then
            some (some (.inl ((0 : Int32) &&& 1)), M5)
          else
            some (some (.inl ((1 : Int32) &&& 1)), M5)
set_option maxRecDepth 100000 in
set_option maxHeartbeats 4000000 in
theorem e180 (z : Nat) : ∀ (y1 : Int64) (M : aM) (r : aR), f180 z y1 M = some r → am_Ev 2 180 0 [some (.inr (.inr (11, 205))), some (.inr (.inl y1)), none] [] M r := by
  intro y1 M r h
  exact am_Ev_seg (sem := am_s180_ z) (cut := ([] : List (Nat × List Bool))) (hs180 z) am_r180 am_k180 (by rw [am_l180]; decide) (fun _ _ _ _ => none) 14 h (fun _ _ _ _ hk => by cases hk)
def F180 (z : Nat) (as : List aV) (M : aM) : Option aR := match as with
  | [.inr (.inr (11, 205)), .inr (.inl y1)] => f180 z y1 M
  | _ => none
theorem S180 (z : Nat) : am_Snd 2 180 (F180 z) := am_meth (by decide +kernel) (fun as M r has h => by
    rw [am_l180]
    unfold F180 at h
    split at h
    · exact ⟨Nat.le_of_ble_eq_true rfl, e180 z _ _ _ h⟩
    · cases h)
def cd181_0 : List am_E := [(0, .aload_n 0, 1, 0, 0, 0, 0), (1, .invokevirtual 107, 3, 175, 11000, 0, 0), (4, .ifCond .eq 22, 3, 26, 0, 0, 0), (7, .lload_n 1, 1, 1, 0, 0, 0), (8, .lconst 0, 1, 0, 0, 0, 0), (9, .aload_n 0, 1, 0, 0, 0, 0), (10, .invokevirtual 111, 3, 176, 11000, 0, 0), (13, .iconst 1, 1, 0, 0, 1, 0), (14, .isub, 1, 0, 0, 0, 0), (15, .i2l, 1, 0, 0, 0, 0), (16, .invokestatic 103, 3, 170, 35, 0, 0), (19, .ifCond .eq 7, 3, 26, 0, 0, 0), (22, .iconst 1, 1, 0, 0, 1, 0), (23, .goto 4, 3, 27, 0, 0, 0), (26, .iconst 0, 1, 0, 0, 0, 0), (27, .ireturn, 1, 0, 0, 0, 0)]
def cd181 : List am_E := cd181_0
def am_w181 : List (List (Int32 × Nat) × Nat) := []
set_option maxRecDepth 100000 in
theorem kcd181_0 : cd181_0.all (am_chk am_w181 181) = true := by decide +kernel
theorem am_k181 : cd181.all (am_chk am_w181 181) = true := by
  simp only [cd181, List.all_append, kcd181_0, Bool.and_self]
theorem am_r181 : am_rtc 181 = 1 := by decide +kernel
theorem am_l181 : am_ml 181 = 3 := by decide +kernel
def am_s181_ (z : Nat) : Nat → List aV → aM → Option aR := fun j => (match Nat.beq j 170 with
  | true => F170 z
  | false => (match Nat.beq j 175 with
  | true => F175 z
  | false => (match Nat.beq j 176 with
  | true => F176 z
  | false => (fun _ _ => none))))
theorem hs181 (z : Nat) : ∀ j2 : Nat, ∃ d2 : Nat, d2 + 1 ≤ 2 ∧ am_Snd d2 j2 (am_s181_ z j2) := by
  intro j2
  unfold am_s181_
  split
  · rename_i he
    rw [am_beq he]
    exact ⟨_, by decide, S170 z⟩
  · skip
    split
    · rename_i he
      rw [am_beq he]
      exact ⟨_, by decide, S175 z⟩
    · skip
      split
      · rename_i he
        rw [am_beq he]
        exact ⟨_, by decide, S176 z⟩
      · skip
        exact ⟨0, by decide, am_Snd_no j2⟩
/-- ArgumentMenderModel.isAhead(J)Z -/
def f181 (z : Nat) (y1 : Int64) (M : aM) : Option aR :=
  am_bi (f175 z M) fun v2 M1 =>
    if v2 = 0 then
      some (some (.inl ((0 : Int32) &&& 1)), M1)
    else
      am_bi (f176 z M1) fun v4 M3 =>
        am_bi (f170 z y1 (0 : Int64) (Int32.toInt64 (v4 - (1 : Int32))) M3) fun v6 M5 =>
          if v6 = 0 then
            some (some (.inl ((0 : Int32) &&& 1)), M5)
          else
            some (some (.inl ((1 : Int32) &&& 1)), M5)
set_option maxRecDepth 100000 in
set_option maxHeartbeats 4000000 in
theorem e181 (z : Nat) : ∀ (y1 : Int64) (M : aM) (r : aR), f181 z y1 M = some r → am_Ev 2 181 0 [some (.inr (.inr (11, 205))), some (.inr (.inl y1)), none] [] M r := by
  intro y1 M r h
  exact am_Ev_seg (sem := am_s181_ z) (cut := ([] : List (Nat × List Bool))) (hs181 z) am_r181 am_k181 (by rw [am_l181]; decide) (fun _ _ _ _ => none) 16 h (fun _ _ _ _ hk => by cases hk)
def F181 (z : Nat) (as : List aV) (M : aM) : Option aR := match as with
  | [.inr (.inr (11, 205)), .inr (.inl y1)] => f181 z y1 M
  | _ => none
theorem S181 (z : Nat) : am_Snd 2 181 (F181 z) := am_meth (by decide +kernel) (fun as M r has h => by
    rw [am_l181]
    unfold F181 at h
    split at h
    · exact ⟨Nat.le_of_ble_eq_true rfl, e181 z _ _ _ h⟩
    · cases h)
def cd182_0 : List am_E := [(0, .iload_n 1, 1, 1, 0, 0, 0), (1, .i2l, 1, 0, 0, 0, 0), (2, .lconst 0, 1, 0, 0, 0, 0), (3, .aload_n 0, 1, 0, 0, 0, 0), (4, .invokevirtual 115, 3, 177, 11000, 0, 0), (7, .iconst 1, 1, 0, 0, 1, 0), (8, .isub, 1, 0, 0, 0, 0), (9, .i2l, 1, 0, 0, 0, 0), (10, .invokestatic 103, 3, 170, 35, 0, 0), (13, .ireturn, 1, 0, 0, 0, 0)]
def cd182 : List am_E := cd182_0
def am_w182 : List (List (Int32 × Nat) × Nat) := []
set_option maxRecDepth 100000 in
theorem kcd182_0 : cd182_0.all (am_chk am_w182 182) = true := by decide +kernel
theorem am_k182 : cd182.all (am_chk am_w182 182) = true := by
  simp only [cd182, List.all_append, kcd182_0, Bool.and_self]
theorem am_r182 : am_rtc 182 = 1 := by decide +kernel
theorem am_l182 : am_ml 182 = 2 := by decide +kernel
def am_s182_ (z : Nat) : Nat → List aV → aM → Option aR := fun j => (match Nat.beq j 170 with
  | true => F170 z
  | false => (match Nat.beq j 177 with
  | true => F177 z
  | false => (fun _ _ => none)))
theorem hs182 (z : Nat) : ∀ j2 : Nat, ∃ d2 : Nat, d2 + 1 ≤ 2 ∧ am_Snd d2 j2 (am_s182_ z j2) := by
  intro j2
  unfold am_s182_
  split
  · rename_i he
    rw [am_beq he]
    exact ⟨_, by decide, S170 z⟩
  · skip
    split
    · rename_i he
      rw [am_beq he]
      exact ⟨_, by decide, S177 z⟩
    · skip
      exact ⟨0, by decide, am_Snd_no j2⟩
/-- ArgumentMenderModel.isClaim(I)Z -/
def f182 (z : Nat) (x1 : Int32) (M : aM) : Option aR :=
  am_bi (f177 z M) fun v2 M1 =>
    am_bi (f170 z (Int32.toInt64 x1) (0 : Int64) (Int32.toInt64 (v2 - (1 : Int32))) M1) fun v4 M3 =>
      some (some (.inl (v4 &&& 1)), M3)
set_option maxRecDepth 100000 in
set_option maxHeartbeats 4000000 in
theorem e182 (z : Nat) : ∀ (x1 : Int32) (M : aM) (r : aR), f182 z x1 M = some r → am_Ev 2 182 0 [some (.inr (.inr (11, 205))), some (.inl x1)] [] M r := by
  intro x1 M r h
  exact am_Ev_seg (sem := am_s182_ z) (cut := ([] : List (Nat × List Bool))) (hs182 z) am_r182 am_k182 (by rw [am_l182]; decide) (fun _ _ _ _ => none) 11 h (fun _ _ _ _ hk => by cases hk)
def F182 (z : Nat) (as : List aV) (M : aM) : Option aR := match as with
  | [.inr (.inr (11, 205)), .inl x1] => f182 z x1 M
  | _ => none
theorem S182 (z : Nat) : am_Snd 2 182 (F182 z) := am_meth (by decide +kernel) (fun as M r has h => by
    rw [am_l182]
    unfold F182 at h
    split at h
    · exact ⟨Nat.le_of_ble_eq_true rfl, e182 z _ _ _ h⟩
    · cases h)
def cd183_0 : List am_E := [(0, .lload_n 1, 1, 1, 0, 0, 0), (1, .lconst 0, 1, 0, 0, 0, 0), (2, .aload_n 0, 1, 0, 0, 0, 0), (3, .invokevirtual 118, 3, 178, 11000, 0, 0), (6, .iconst 1, 1, 0, 0, 1, 0), (7, .isub, 1, 0, 0, 0, 0), (8, .i2l, 1, 0, 0, 0, 0), (9, .invokestatic 103, 3, 170, 35, 0, 0), (12, .ireturn, 1, 0, 0, 0, 0)]
def cd183 : List am_E := cd183_0
def am_w183 : List (List (Int32 × Nat) × Nat) := []
set_option maxRecDepth 100000 in
theorem kcd183_0 : cd183_0.all (am_chk am_w183 183) = true := by decide +kernel
theorem am_k183 : cd183.all (am_chk am_w183 183) = true := by
  simp only [cd183, List.all_append, kcd183_0, Bool.and_self]
theorem am_r183 : am_rtc 183 = 1 := by decide +kernel
theorem am_l183 : am_ml 183 = 3 := by decide +kernel
def am_s183_ (z : Nat) : Nat → List aV → aM → Option aR := fun j => (match Nat.beq j 170 with
  | true => F170 z
  | false => (match Nat.beq j 178 with
  | true => F178 z
  | false => (fun _ _ => none)))
theorem hs183 (z : Nat) : ∀ j2 : Nat, ∃ d2 : Nat, d2 + 1 ≤ 2 ∧ am_Snd d2 j2 (am_s183_ z j2) := by
  intro j2
  unfold am_s183_
  split
  · rename_i he
    rw [am_beq he]
    exact ⟨_, by decide, S170 z⟩
  · skip
    split
    · rename_i he
      rw [am_beq he]
      exact ⟨_, by decide, S178 z⟩
    · skip
      exact ⟨0, by decide, am_Snd_no j2⟩
/-- ArgumentMenderModel.isThread(J)Z -/
def f183 (z : Nat) (y1 : Int64) (M : aM) : Option aR :=
  am_bi (f178 z M) fun v2 M1 =>
    am_bi (f170 z y1 (0 : Int64) (Int32.toInt64 (v2 - (1 : Int32))) M1) fun v4 M3 =>
      some (some (.inl (v4 &&& 1)), M3)
set_option maxRecDepth 100000 in
set_option maxHeartbeats 4000000 in
theorem e183 (z : Nat) : ∀ (y1 : Int64) (M : aM) (r : aR), f183 z y1 M = some r → am_Ev 2 183 0 [some (.inr (.inr (11, 205))), some (.inr (.inl y1)), none] [] M r := by
  intro y1 M r h
  exact am_Ev_seg (sem := am_s183_ z) (cut := ([] : List (Nat × List Bool))) (hs183 z) am_r183 am_k183 (by rw [am_l183]; decide) (fun _ _ _ _ => none) 10 h (fun _ _ _ _ hk => by cases hk)
def F183 (z : Nat) (as : List aV) (M : aM) : Option aR := match as with
  | [.inr (.inr (11, 205)), .inr (.inl y1)] => f183 z y1 M
  | _ => none
theorem S183 (z : Nat) : am_Snd 2 183 (F183 z) := am_meth (by decide +kernel) (fun as M r has h => by
    rw [am_l183]
    unfold F183 at h
    split at h
    · exact ⟨Nat.le_of_ble_eq_true rfl, e183 z _ _ _ h⟩
    · cases h)
def cd184_0 : List am_E := [(0, .iload_n 1, 1, 1, 0, 0, 0), (1, .i2l, 1, 0, 0, 0, 0), (2, .lconst 0, 1, 0, 0, 0, 0), (3, .aload_n 0, 1, 0, 0, 0, 0), (4, .invokevirtual 121, 3, 179, 11000, 0, 0), (7, .iconst 1, 1, 0, 0, 1, 0), (8, .isub, 1, 0, 0, 0, 0), (9, .i2l, 1, 0, 0, 0, 0), (10, .invokestatic 103, 3, 170, 35, 0, 0), (13, .ireturn, 1, 0, 0, 0, 0)]
def cd184 : List am_E := cd184_0
def am_w184 : List (List (Int32 × Nat) × Nat) := []
set_option maxRecDepth 100000 in
theorem kcd184_0 : cd184_0.all (am_chk am_w184 184) = true := by decide +kernel
theorem am_k184 : cd184.all (am_chk am_w184 184) = true := by
  simp only [cd184, List.all_append, kcd184_0, Bool.and_self]
theorem am_r184 : am_rtc 184 = 1 := by decide +kernel
theorem am_l184 : am_ml 184 = 2 := by decide +kernel
def am_s184_ (z : Nat) : Nat → List aV → aM → Option aR := fun j => (match Nat.beq j 170 with
  | true => F170 z
  | false => (match Nat.beq j 179 with
  | true => F179 z
  | false => (fun _ _ => none)))
theorem hs184 (z : Nat) : ∀ j2 : Nat, ∃ d2 : Nat, d2 + 1 ≤ 2 ∧ am_Snd d2 j2 (am_s184_ z j2) := by
  intro j2
  unfold am_s184_
  split
  · rename_i he
    rw [am_beq he]
    exact ⟨_, by decide, S170 z⟩
  · skip
    split
    · rename_i he
      rw [am_beq he]
      exact ⟨_, by decide, S179 z⟩
    · skip
      exact ⟨0, by decide, am_Snd_no j2⟩
/-- ArgumentMenderModel.isQuarrel(I)Z -/
def f184 (z : Nat) (x1 : Int32) (M : aM) : Option aR :=
  am_bi (f179 z M) fun v2 M1 =>
    am_bi (f170 z (Int32.toInt64 x1) (0 : Int64) (Int32.toInt64 (v2 - (1 : Int32))) M1) fun v4 M3 =>
      some (some (.inl (v4 &&& 1)), M3)
set_option maxRecDepth 100000 in
set_option maxHeartbeats 4000000 in
theorem e184 (z : Nat) : ∀ (x1 : Int32) (M : aM) (r : aR), f184 z x1 M = some r → am_Ev 2 184 0 [some (.inr (.inr (11, 205))), some (.inl x1)] [] M r := by
  intro x1 M r h
  exact am_Ev_seg (sem := am_s184_ z) (cut := ([] : List (Nat × List Bool))) (hs184 z) am_r184 am_k184 (by rw [am_l184]; decide) (fun _ _ _ _ => none) 11 h (fun _ _ _ _ hk => by cases hk)
def F184 (z : Nat) (as : List aV) (M : aM) : Option aR := match as with
  | [.inr (.inr (11, 205)), .inl x1] => f184 z x1 M
  | _ => none
theorem S184 (z : Nat) : am_Snd 2 184 (F184 z) := am_meth (by decide +kernel) (fun as M r has h => by
    rw [am_l184]
    unfold F184 at h
    split at h
    · exact ⟨Nat.le_of_ble_eq_true rfl, e184 z _ _ _ h⟩
    · cases h)
def cd185_0 : List am_E := [(0, .aload_n 0, 1, 0, 0, 0, 0), (1, .getfield 9, 3, 11, 1, 0, 0), (4, .bipush 8, 2, 0, 0, 8, 0), (6, .iconst 3, 1, 0, 0, 3, 0), (7, .iload_n 1, 1, 1, 0, 0, 0), (8, .imul, 1, 0, 0, 0, 0), (9, .iadd, 1, 0, 0, 0, 0), (10, .iaload, 1, 0, 0, 0, 0), (11, .ireturn, 1, 0, 0, 0, 0)]
def cd185 : List am_E := cd185_0
def am_w185 : List (List (Int32 × Nat) × Nat) := []
set_option maxRecDepth 100000 in
theorem kcd185_0 : cd185_0.all (am_chk am_w185 185) = true := by decide +kernel
theorem am_k185 : cd185.all (am_chk am_w185 185) = true := by
  simp only [cd185, List.all_append, kcd185_0, Bool.and_self]
theorem am_r185 : am_rtc 185 = 0 := by decide +kernel
theorem am_l185 : am_ml 185 = 2 := by decide +kernel
def am_s185_ (z : Nat) : Nat → List aV → aM → Option aR := fun j => (fun _ _ => none)
theorem hs185 (z : Nat) : ∀ j2 : Nat, ∃ d2 : Nat, d2 + 1 ≤ 1 ∧ am_Snd d2 j2 (am_s185_ z j2) := by
  intro j2
  unfold am_s185_
  exact ⟨0, by decide, am_Snd_no j2⟩
/-- ArgumentMenderModel.fromOf(I)I -/
def f185 (z : Nat) (x1 : Int32) (M : aM) : Option aR :=
  if am_inB ((8 : Int32) + ((3 : Int32) * x1)) 116 then
    some (some (.inl (M.1 206 ((8 : Int32) + ((3 : Int32) * x1)).toNatClampNeg)), M)
  else
    none
set_option maxRecDepth 100000 in
set_option maxHeartbeats 4000000 in
theorem e185 (z : Nat) : ∀ (x1 : Int32) (M : aM) (r : aR), f185 z x1 M = some r → am_Ev 1 185 0 [some (.inr (.inr (11, 205))), some (.inl x1)] [] M r := by
  intro x1 M r h
  exact am_Ev_seg (sem := am_s185_ z) (cut := ([] : List (Nat × List Bool))) (hs185 z) am_r185 am_k185 (by rw [am_l185]; decide) (fun _ _ _ _ => none) 10 h (fun _ _ _ _ hk => by cases hk)
def F185 (z : Nat) (as : List aV) (M : aM) : Option aR := match as with
  | [.inr (.inr (11, 205)), .inl x1] => f185 z x1 M
  | _ => none
theorem S185 (z : Nat) : am_Snd 1 185 (F185 z) := am_meth (by decide +kernel) (fun as M r has h => by
    rw [am_l185]
    unfold F185 at h
    split at h
    · exact ⟨Nat.le_of_ble_eq_true rfl, e185 z _ _ _ h⟩
    · cases h)
def cd186_0 : List am_E := [(0, .aload_n 0, 1, 0, 0, 0, 0), (1, .getfield 9, 3, 11, 1, 0, 0), (4, .bipush 8, 2, 0, 0, 8, 0), (6, .iconst 3, 1, 0, 0, 3, 0), (7, .iload_n 1, 1, 1, 0, 0, 0), (8, .imul, 1, 0, 0, 0, 0), (9, .iadd, 1, 0, 0, 0, 0), (10, .iconst 1, 1, 0, 0, 1, 0), (11, .iadd, 1, 0, 0, 0, 0), (12, .iaload, 1, 0, 0, 0, 0), (13, .ireturn, 1, 0, 0, 0, 0)]
def cd186 : List am_E := cd186_0
def am_w186 : List (List (Int32 × Nat) × Nat) := []
set_option maxRecDepth 100000 in
theorem kcd186_0 : cd186_0.all (am_chk am_w186 186) = true := by decide +kernel
theorem am_k186 : cd186.all (am_chk am_w186 186) = true := by
  simp only [cd186, List.all_append, kcd186_0, Bool.and_self]
theorem am_r186 : am_rtc 186 = 0 := by decide +kernel
theorem am_l186 : am_ml 186 = 2 := by decide +kernel
def am_s186_ (z : Nat) : Nat → List aV → aM → Option aR := fun j => (fun _ _ => none)
theorem hs186 (z : Nat) : ∀ j2 : Nat, ∃ d2 : Nat, d2 + 1 ≤ 1 ∧ am_Snd d2 j2 (am_s186_ z j2) := by
  intro j2
  unfold am_s186_
  exact ⟨0, by decide, am_Snd_no j2⟩
/-- ArgumentMenderModel.toOf(I)I -/
def f186 (z : Nat) (x1 : Int32) (M : aM) : Option aR :=
  if am_inB (((8 : Int32) + ((3 : Int32) * x1)) + (1 : Int32)) 116 then
    some (some (.inl (M.1 206 (((8 : Int32) + ((3 : Int32) * x1)) + (1 : Int32)).toNatClampNeg)), M)
  else
    none
set_option maxRecDepth 100000 in
set_option maxHeartbeats 4000000 in
theorem e186 (z : Nat) : ∀ (x1 : Int32) (M : aM) (r : aR), f186 z x1 M = some r → am_Ev 1 186 0 [some (.inr (.inr (11, 205))), some (.inl x1)] [] M r := by
  intro x1 M r h
  exact am_Ev_seg (sem := am_s186_ z) (cut := ([] : List (Nat × List Bool))) (hs186 z) am_r186 am_k186 (by rw [am_l186]; decide) (fun _ _ _ _ => none) 12 h (fun _ _ _ _ hk => by cases hk)
def F186 (z : Nat) (as : List aV) (M : aM) : Option aR := match as with
  | [.inr (.inr (11, 205)), .inl x1] => f186 z x1 M
  | _ => none
theorem S186 (z : Nat) : am_Snd 1 186 (F186 z) := am_meth (by decide +kernel) (fun as M r has h => by
    rw [am_l186]
    unfold F186 at h
    split at h
    · exact ⟨Nat.le_of_ble_eq_true rfl, e186 z _ _ _ h⟩
    · cases h)
def cd187_0 : List am_E := [(0, .aload_n 0, 1, 0, 0, 0, 0), (1, .getfield 9, 3, 11, 1, 0, 0), (4, .bipush 56, 2, 0, 0, 56, 0), (6, .iconst 3, 1, 0, 0, 3, 0), (7, .iload_n 1, 1, 1, 0, 0, 0), (8, .imul, 1, 0, 0, 0, 0), (9, .iadd, 1, 0, 0, 0, 0), (10, .iload_n 2, 1, 2, 0, 0, 0), (11, .iadd, 1, 0, 0, 0, 0), (12, .iaload, 1, 0, 0, 0, 0), (13, .ireturn, 1, 0, 0, 0, 0)]
def cd187 : List am_E := cd187_0
def am_w187 : List (List (Int32 × Nat) × Nat) := []
set_option maxRecDepth 100000 in
theorem kcd187_0 : cd187_0.all (am_chk am_w187 187) = true := by decide +kernel
theorem am_k187 : cd187.all (am_chk am_w187 187) = true := by
  simp only [cd187, List.all_append, kcd187_0, Bool.and_self]
theorem am_r187 : am_rtc 187 = 0 := by decide +kernel
theorem am_l187 : am_ml 187 = 3 := by decide +kernel
def am_s187_ (z : Nat) : Nat → List aV → aM → Option aR := fun j => (fun _ _ => none)
theorem hs187 (z : Nat) : ∀ j2 : Nat, ∃ d2 : Nat, d2 + 1 ≤ 1 ∧ am_Snd d2 j2 (am_s187_ z j2) := by
  intro j2
  unfold am_s187_
  exact ⟨0, by decide, am_Snd_no j2⟩
/-- ArgumentMenderModel.quarrelOf(II)I -/
def f187 (z : Nat) (x1 : Int32) (x2 : Int32) (M : aM) : Option aR :=
  if am_inB (((56 : Int32) + ((3 : Int32) * x1)) + x2) 116 then
    some (some (.inl (M.1 206 (((56 : Int32) + ((3 : Int32) * x1)) + x2).toNatClampNeg)), M)
  else
    none
set_option maxRecDepth 100000 in
set_option maxHeartbeats 4000000 in
theorem e187 (z : Nat) : ∀ (x1 : Int32) (x2 : Int32) (M : aM) (r : aR), f187 z x1 x2 M = some r → am_Ev 1 187 0 [some (.inr (.inr (11, 205))), some (.inl x1), some (.inl x2)] [] M r := by
  intro x1 x2 M r h
  exact am_Ev_seg (sem := am_s187_ z) (cut := ([] : List (Nat × List Bool))) (hs187 z) am_r187 am_k187 (by rw [am_l187]; decide) (fun _ _ _ _ => none) 12 h (fun _ _ _ _ hk => by cases hk)
def F187 (z : Nat) (as : List aV) (M : aM) : Option aR := match as with
  | [.inr (.inr (11, 205)), .inl x1, .inl x2] => f187 z x1 x2 M
  | _ => none
theorem S187 (z : Nat) : am_Snd 1 187 (F187 z) := am_meth (by decide +kernel) (fun as M r has h => by
    rw [am_l187]
    unfold F187 at h
    split at h
    · exact ⟨Nat.le_of_ble_eq_true rfl, e187 z _ _ _ _ h⟩
    · cases h)
def cd188_0 : List am_E := [(0, .aload_n 0, 1, 0, 0, 0, 0), (1, .getfield 124, 3, 11, 5, 0, 0), (4, .bipush 20, 2, 0, 0, 20, 0), (6, .iadd, 1, 0, 0, 0, 0), (7, .sipush 800, 3, 0, 0, 800, 0), (10, .if_icmp .le 5, 3, 15, 0, 0, 0), (13, .iconst (-1), 1, 0, 0, (-1), 0), (14, .ireturn, 1, 0, 0, 0, 0), (15, .aload_n 0, 1, 0, 0, 0, 0), (16, .getfield 24, 3, 11, 6, 0, 0), (19, .iconst 0, 1, 0, 0, 0, 0), (20, .iload_n 1, 1, 1, 0, 0, 0), (21, .iastore, 1, 0, 0, 0, 0), (22, .aload_n 0, 1, 0, 0, 0, 0), (23, .getfield 24, 3, 11, 6, 0, 0), (26, .iconst 1, 1, 0, 0, 1, 0), (27, .iload_n 2, 1, 2, 0, 0, 0), (28, .iastore, 1, 0, 0, 0, 0), (29, .aload_n 0, 1, 0, 0, 0, 0), (30, .getfield 24, 3, 11, 6, 0, 0), (33, .iconst 2, 1, 0, 0, 2, 0), (34, .iload_n 3, 1, 3, 0, 0, 0), (35, .iastore, 1, 0, 0, 0, 0), (36, .aload_n 0, 1, 0, 0, 0, 0), (37, .getfield 24, 3, 11, 6, 0, 0), (40, .iconst 3, 1, 0, 0, 3, 0), (41, .iload 4, 2, 4, 0, 0, 0), (43, .iastore, 1, 0, 0, 0, 0), (44, .aload_n 0, 1, 0, 0, 0, 0), (45, .getfield 24, 3, 11, 6, 0, 0), (48, .iconst 4, 1, 0, 0, 4, 0), (49, .iload 5, 2, 5, 0, 0, 0), (51, .iastore, 1, 0, 0, 0, 0), (52, .iconst 0, 1, 0, 0, 0, 0), (53, .istore 6, 2, 6, 0, 0, 0), (55, .iload 6, 2, 6, 0, 0, 0), (57, .bipush 20, 2, 0, 0, 20, 0), (59, .if_icmp .ge 42, 3, 101, 0, 0, 0), (62, .aload_n 0, 1, 0, 0, 0, 0), (63, .getfield 20, 3, 11, 4, 0, 0)]
def cd188_1 : List am_E := [(66, .aload_n 0, 1, 0, 0, 0, 0), (67, .getfield 124, 3, 11, 5, 0, 0), (70, .iload 6, 2, 6, 0, 0, 0), (72, .iadd, 1, 0, 0, 0, 0), (73, .aload_n 0, 1, 0, 0, 0, 0), (74, .getfield 24, 3, 11, 6, 0, 0), (77, .iload 6, 2, 6, 0, 0, 0), (79, .iconst 4, 1, 0, 0, 4, 0), (80, .idiv, 1, 0, 0, 0, 0), (81, .iaload, 1, 0, 0, 0, 0), (82, .bipush 24, 2, 0, 0, 24, 0), (84, .bipush 8, 2, 0, 0, 8, 0), (86, .iload 6, 2, 6, 0, 0, 0), (88, .iconst 4, 1, 0, 0, 4, 0), (89, .irem, 1, 0, 0, 0, 0), (90, .imul, 1, 0, 0, 0, 0), (91, .isub, 1, 0, 0, 0, 0), (92, .ishr, 1, 0, 0, 0, 0), (93, .i2b, 1, 0, 0, 0, 0), (94, .bastore, 1, 0, 0, 0, 0), (95, .iinc 6 1, 3, 6, 0, 1, 0), (98, .goto (-43), 3, 55, 0, 0, 0), (101, .aload_n 0, 1, 0, 0, 0, 0), (102, .dup, 1, 0, 0, 0, 0), (103, .getfield 124, 3, 11, 5, 0, 0), (106, .bipush 20, 2, 0, 0, 20, 0), (108, .iadd, 1, 0, 0, 0, 0), (109, .putfield 124, 3, 11, 5, 0, 0), (112, .aload_n 0, 1, 0, 0, 0, 0), (113, .getfield 124, 3, 11, 5, 0, 0), (116, .ireturn, 1, 0, 0, 0, 0)]
def cd188 : List am_E := cd188_0 ++ (cd188_1)
def am_w188 : List (List (Int32 × Nat) × Nat) := []
set_option maxRecDepth 100000 in
theorem kcd188_0 : cd188_0.all (am_chk am_w188 188) = true := by decide +kernel
set_option maxRecDepth 100000 in
theorem kcd188_1 : cd188_1.all (am_chk am_w188 188) = true := by decide +kernel
theorem am_k188 : cd188.all (am_chk am_w188 188) = true := by
  simp only [cd188, List.all_append, kcd188_0, kcd188_1, Bool.and_self]
theorem am_r188 : am_rtc 188 = 0 := by decide +kernel
theorem am_l188 : am_ml 188 = 7 := by decide +kernel
def am_s188_ (z : Nat) : Nat → List aV → aM → Option aR := fun j => (fun _ _ => none)
theorem hs188 (z : Nat) : ∀ j2 : Nat, ∃ d2 : Nat, d2 + 1 ≤ 1 ∧ am_Snd d2 j2 (am_s188_ z j2) := by
  intro j2
  unfold am_s188_
  exact ⟨0, by decide, am_Snd_no j2⟩
def f188_55 (z : Nat) : Nat → Int32 → aM → Option aR
  | 0, _, _ => none
  | n + 1, x6, M =>
    if (20 : Int32) ≤ x6 then
      let I1 := am_u M.1 205 5 ((M.1 205 5) + (20 : Int32))
      some (some (.inl (I1 205 5)), (I1, M.2))
    else
      if (4 : Int32) = 0 then
        none
      else
        if am_inB (x6 / (4 : Int32)) 5 then
          if (4 : Int32) = 0 then
            none
          else
            if am_inB ((M.1 205 5) + x6) 800 then
              let I2 := am_u M.1 209 ((M.1 205 5) + x6).toNatClampNeg ((((M.1 210 (x6 / (4 : Int32)).toNatClampNeg) >>> (((24 : Int32) - ((8 : Int32) * (x6 - x6 / (4 : Int32) * (4 : Int32)))) &&& 31)).toInt8.toInt32).toInt8.toInt32)
              f188_55 z n (x6 + (1 : Int32)) (I2, M.2)
            else
              none
        else
          none
set_option maxRecDepth 100000 in
set_option maxHeartbeats 4000000 in
theorem e188_55 (z : Nat) : ∀ (n : Nat) (x6 : Int32) (M : aM) (r : aR), f188_55 z n x6 M = some r → am_Ev 1 188 55 [some (.inr (.inr (11, 205))), none, none, none, none, none, some (.inl x6)] [] M r := by
  intro n
  induction n with
  | zero =>
    intro x6 M r h
    cases h
  | succ n ih =>
    intro x6 M r h
    exact am_Ev_seg (sem := am_s188_ z) (cut := ([(55, [true, false, false, false, false, false, true])] : List (Nat × List Bool))) (hs188 z) am_r188 am_k188 (by rw [am_l188]; decide) (fun pc al st M => (match Nat.beq pc 55 with
      | true => (match al, st with
        | [some (.inr (.inr (11, 205))), none, none, none, none, none, some (.inl x6)], [] => f188_55 z n x6 M
        | _, _ => none)
      | false => none)) 29 h (fun pc al st M hk => by
      try dsimp only at hk
      split at hk
      · rename_i he
        rw [am_beq he]
        split at hk
        · exact ih _ _ _ hk
        · cases hk
      · cases hk)
def f188_44 (z : Nat)  (x5 : Int32) (M : aM) : Option aR :=
  if am_inB (4 : Int32) 5 then
    let I1 := am_u M.1 210 (4 : Int32).toNatClampNeg x5
    f188_55 z z (0 : Int32) (I1, M.2)
  else
    none
set_option maxRecDepth 100000 in
set_option maxHeartbeats 4000000 in
theorem e188_44 (z : Nat) : ∀ (x5 : Int32) (M : aM) (r : aR), f188_44 z x5 M = some r → am_Ev 1 188 44 [some (.inr (.inr (11, 205))), none, none, none, none, some (.inl x5), none] [] M r := by
  intro x5 M r h
  exact am_Ev_seg (sem := am_s188_ z) (cut := ([(55, [true, false, false, false, false, false, true])] : List (Nat × List Bool))) (hs188 z) am_r188 am_k188 (by rw [am_l188]; decide) (fun pc al st M => (match Nat.beq pc 55 with
      | true => (match al, st with
        | [some (.inr (.inr (11, 205))), none, none, none, none, none, some (.inl x6)], [] => f188_55 z z x6 M
        | _, _ => none)
      | false => none)) 9 h (fun pc al st M hk => by
      try dsimp only at hk
      split at hk
      · rename_i he
        rw [am_beq he]
        split at hk
        · exact e188_55 z _ _ _ _ hk
        · cases hk
      · cases hk)
/-- ArgumentMenderModel.feed(IIIII)I -/
def f188 (z : Nat) (x1 : Int32) (x2 : Int32) (x3 : Int32) (x4 : Int32) (x5 : Int32) (M : aM) : Option aR :=
  if ((M.1 205 5) + (20 : Int32)) ≤ (800 : Int32) then
    if am_inB (0 : Int32) 5 then
      let I1 := am_u M.1 210 (0 : Int32).toNatClampNeg x1
      if am_inB (1 : Int32) 5 then
        let I2 := am_u I1 210 (1 : Int32).toNatClampNeg x2
        if am_inB (2 : Int32) 5 then
          let I3 := am_u I2 210 (2 : Int32).toNatClampNeg x3
          if am_inB (3 : Int32) 5 then
            let I4 := am_u I3 210 (3 : Int32).toNatClampNeg x4
            f188_44 z x5 (I4, M.2)
          else
            none
        else
          none
      else
        none
    else
      none
  else
    some (some (.inl (-1 : Int32)), M)
set_option maxRecDepth 100000 in
set_option maxHeartbeats 4000000 in
theorem e188 (z : Nat) : ∀ (x1 : Int32) (x2 : Int32) (x3 : Int32) (x4 : Int32) (x5 : Int32) (M : aM) (r : aR), f188 z x1 x2 x3 x4 x5 M = some r → am_Ev 1 188 0 [some (.inr (.inr (11, 205))), some (.inl x1), some (.inl x2), some (.inl x3), some (.inl x4), some (.inl x5), none] [] M r := by
  intro x1 x2 x3 x4 x5 M r h
  exact am_Ev_seg (sem := am_s188_ z) (cut := ([(44, [true, false, false, false, false, true, false])] : List (Nat × List Bool))) (hs188 z) am_r188 am_k188 (by rw [am_l188]; decide) (fun pc al st M => (match Nat.beq pc 44 with
      | true => (match al, st with
        | [some (.inr (.inr (11, 205))), none, none, none, none, some (.inl x5), none], [] => f188_44 z x5 M
        | _, _ => none)
      | false => none)) 28 h (fun pc al st M hk => by
      try dsimp only at hk
      split at hk
      · rename_i he
        rw [am_beq he]
        split at hk
        · exact e188_44 z _ _ _ hk
        · cases hk
      · cases hk)
def F188 (z : Nat) (as : List aV) (M : aM) : Option aR := match as with
  | [.inr (.inr (11, 205)), .inl x1, .inl x2, .inl x3, .inl x4, .inl x5] => f188 z x1 x2 x3 x4 x5 M
  | _ => none
theorem S188 (z : Nat) : am_Snd 1 188 (F188 z) := am_meth (by decide +kernel) (fun as M r has h => by
    rw [am_l188]
    unfold F188 at h
    split at h
    · exact ⟨Nat.le_of_ble_eq_true rfl, e188 z _ _ _ _ _ _ _ h⟩
    · cases h)
def cd189_0 : List am_E := [(0, .iload_n 1, 1, 1, 0, 0, 0), (1, .i2l, 1, 0, 0, 0, 0), (2, .lconst 0, 1, 0, 0, 0, 0), (3, .aload_n 0, 1, 0, 0, 0, 0), (4, .getfield 124, 3, 11, 5, 0, 0), (7, .i2l, 1, 0, 0, 0, 0), (8, .invokestatic 103, 3, 170, 35, 0, 0), (11, .ifCond .ne 5, 3, 16, 0, 0, 0), (14, .iconst (-1), 1, 0, 0, (-1), 0), (15, .ireturn, 1, 0, 0, 0, 0), (16, .aload_n 0, 1, 0, 0, 0, 0), (17, .iload_n 1, 1, 1, 0, 0, 0), (18, .putfield 124, 3, 11, 5, 0, 0), (21, .iload_n 1, 1, 1, 0, 0, 0), (22, .ireturn, 1, 0, 0, 0, 0)]
def cd189 : List am_E := cd189_0
def am_w189 : List (List (Int32 × Nat) × Nat) := []
set_option maxRecDepth 100000 in
theorem kcd189_0 : cd189_0.all (am_chk am_w189 189) = true := by decide +kernel
theorem am_k189 : cd189.all (am_chk am_w189 189) = true := by
  simp only [cd189, List.all_append, kcd189_0, Bool.and_self]
theorem am_r189 : am_rtc 189 = 0 := by decide +kernel
theorem am_l189 : am_ml 189 = 2 := by decide +kernel
def am_s189_ (z : Nat) : Nat → List aV → aM → Option aR := fun j => (match Nat.beq j 170 with
  | true => F170 z
  | false => (fun _ _ => none))
theorem hs189 (z : Nat) : ∀ j2 : Nat, ∃ d2 : Nat, d2 + 1 ≤ 2 ∧ am_Snd d2 j2 (am_s189_ z j2) := by
  intro j2
  unfold am_s189_
  split
  · rename_i he
    rw [am_beq he]
    exact ⟨_, by decide, S170 z⟩
  · skip
    exact ⟨0, by decide, am_Snd_no j2⟩
/-- ArgumentMenderModel.end(I)I -/
def f189 (z : Nat) (x1 : Int32) (M : aM) : Option aR :=
  am_bi (f170 z (Int32.toInt64 x1) (0 : Int64) (Int32.toInt64 (M.1 205 5)) M) fun v2 M1 =>
    if ¬ v2 = 0 then
      let I3 := am_u M1.1 205 5 x1
      some (some (.inl x1), (I3, M1.2))
    else
      some (some (.inl (-1 : Int32)), M1)
set_option maxRecDepth 100000 in
set_option maxHeartbeats 4000000 in
theorem e189 (z : Nat) : ∀ (x1 : Int32) (M : aM) (r : aR), f189 z x1 M = some r → am_Ev 2 189 0 [some (.inr (.inr (11, 205))), some (.inl x1)] [] M r := by
  intro x1 M r h
  exact am_Ev_seg (sem := am_s189_ z) (cut := ([] : List (Nat × List Bool))) (hs189 z) am_r189 am_k189 (by rw [am_l189]; decide) (fun _ _ _ _ => none) 14 h (fun _ _ _ _ hk => by cases hk)
def F189 (z : Nat) (as : List aV) (M : aM) : Option aR := match as with
  | [.inr (.inr (11, 205)), .inl x1] => f189 z x1 M
  | _ => none
theorem S189 (z : Nat) : am_Snd 2 189 (F189 z) := am_meth (by decide +kernel) (fun as M r has h => by
    rw [am_l189]
    unfold F189 at h
    split at h
    · exact ⟨Nat.le_of_ble_eq_true rfl, e189 z _ _ _ h⟩
    · cases h)
def cd190_0 : List am_E := [(0, .iload_n 1, 1, 1, 0, 0, 0), (1, .aload_n 0, 1, 0, 0, 0, 0), (2, .getfield 127, 3, 11, 7, 0, 0), (5, .if_icmp .ge 16, 3, 21, 0, 0, 0), (8, .aload_n 0, 1, 0, 0, 0, 0), (9, .getfield 20, 3, 11, 4, 0, 0), (12, .iload_n 1, 1, 1, 0, 0, 0), (13, .baload, 1, 0, 0, 0, 0), (14, .sipush 255, 3, 0, 0, 255, 0), (17, .iand, 1, 0, 0, 0, 0), (18, .goto 4, 3, 22, 0, 0, 0), (21, .iconst (-1), 1, 0, 0, (-1), 0), (22, .ireturn, 1, 0, 0, 0, 0)]
def cd190 : List am_E := cd190_0
def am_w190 : List (List (Int32 × Nat) × Nat) := []
set_option maxRecDepth 100000 in
theorem kcd190_0 : cd190_0.all (am_chk am_w190 190) = true := by decide +kernel
theorem am_k190 : cd190.all (am_chk am_w190 190) = true := by
  simp only [cd190, List.all_append, kcd190_0, Bool.and_self]
theorem am_r190 : am_rtc 190 = 0 := by decide +kernel
theorem am_l190 : am_ml 190 = 2 := by decide +kernel
def am_s190_ (z : Nat) : Nat → List aV → aM → Option aR := fun j => (fun _ _ => none)
theorem hs190 (z : Nat) : ∀ j2 : Nat, ∃ d2 : Nat, d2 + 1 ≤ 1 ∧ am_Snd d2 j2 (am_s190_ z j2) := by
  intro j2
  unfold am_s190_
  exact ⟨0, by decide, am_Snd_no j2⟩
/-- ArgumentMenderModel.see(I)I -/
def f190 (z : Nat) (x1 : Int32) (M : aM) : Option aR :=
  if (M.1 205 7) ≤ x1 then
    some (some (.inl (-1 : Int32)), M)
  else
    if am_inB x1 800 then
      some (some (.inl ((M.1 209 x1.toNatClampNeg) &&& (255 : Int32))), M)
    else
      none
set_option maxRecDepth 100000 in
set_option maxHeartbeats 4000000 in
theorem e190 (z : Nat) : ∀ (x1 : Int32) (M : aM) (r : aR), f190 z x1 M = some r → am_Ev 1 190 0 [some (.inr (.inr (11, 205))), some (.inl x1)] [] M r := by
  intro x1 M r h
  exact am_Ev_seg (sem := am_s190_ z) (cut := ([] : List (Nat × List Bool))) (hs190 z) am_r190 am_k190 (by rw [am_l190]; decide) (fun _ _ _ _ => none) 13 h (fun _ _ _ _ hk => by cases hk)
def F190 (z : Nat) (as : List aV) (M : aM) : Option aR := match as with
  | [.inr (.inr (11, 205)), .inl x1] => f190 z x1 M
  | _ => none
theorem S190 (z : Nat) : am_Snd 1 190 (F190 z) := am_meth (by decide +kernel) (fun as M r has h => by
    rw [am_l190]
    unfold F190 at h
    split at h
    · exact ⟨Nat.le_of_ble_eq_true rfl, e190 z _ _ _ h⟩
    · cases h)
