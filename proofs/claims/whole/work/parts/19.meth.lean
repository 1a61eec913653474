def cd241_0 : List am_E := [(0, .aload_n 0, 1, 0, 0, 0, 0), (1, .invokevirtual 335, 3, 225, 11000, 0, 0), (4, .pop, 1, 0, 0, 0, 0), (5, .aload_n 0, 1, 0, 0, 0, 0), (6, .iload_n 1, 1, 1, 0, 0, 0), (7, .invokevirtual 255, 3, 182, 11010, 0, 0), (10, .ifCond .ne 6, 3, 16, 0, 0, 0), (13, .bipush (-2), 2, 0, 0, (-2), 0), (15, .ireturn, 1, 0, 0, 0, 0), (16, .iconst 0, 1, 0, 0, 0, 0), (17, .istore_n 2, 1, 2, 0, 0, 0), (18, .iload_n 2, 1, 2, 0, 0, 0), (19, .aload_n 0, 1, 0, 0, 0, 0), (20, .invokevirtual 111, 3, 176, 11000, 0, 0), (23, .if_icmp .gt 23, 3, 46, 0, 0, 0), (26, .aload_n 0, 1, 0, 0, 0, 0), (27, .iload_n 2, 1, 2, 0, 0, 0), (28, .invokevirtual 353, 3, 231, 11010, 0, 0), (31, .iload_n 1, 1, 1, 0, 0, 0), (32, .invokestatic 300, 3, 172, 25, 0, 0), (35, .ifCond .ne 5, 3, 40, 0, 0, 0), (38, .iload_n 2, 1, 2, 0, 0, 0), (39, .ireturn, 1, 0, 0, 0, 0), (40, .iinc 2 1, 3, 2, 0, 1, 0), (43, .goto (-25), 3, 18, 0, 0, 0), (46, .iconst (-1), 1, 0, 0, (-1), 0), (47, .ireturn, 1, 0, 0, 0, 0)]
def cd241 : List am_E := cd241_0
def am_w241 : List (List (Int32 × Nat) × Nat) := []
set_option maxRecDepth 100000 in
theorem kcd241_0 : cd241_0.all (am_chk am_w241 241) = true := by decide +kernel
theorem am_k241 : cd241.all (am_chk am_w241 241) = true := by
  simp only [cd241, List.all_append, kcd241_0, Bool.and_self]
theorem am_r241 : am_rtc 241 = 0 := by decide +kernel
theorem am_l241 : am_ml 241 = 3 := by decide +kernel
def am_s241_ (z : Nat) : Nat → List aV → aM → Option aR := (am_sm 172 (F172 z) (am_sm 176 (F176 z) (am_sm 182 (F182 z) (am_sm 225 (F225 z) (am_sm 231 (F231 z) am_s0)))))
theorem hs241 (z : Nat) : ∀ j2 : Nat, ∃ d2 : Nat, d2 + 1 ≤ 11 ∧ am_Snd d2 j2 (am_s241_ z j2) := (am_sm_ok (S172 z) (by decide) (am_sm_ok (S176 z) (by decide) (am_sm_ok (S182 z) (by decide) (am_sm_ok (S225 z) (by decide) (am_sm_ok (S231 z) (by decide) (am_s0_ok (by decide)))))))
def f241_18 (z : Nat) : Nat → Int32 → Int32 → aM → Option aR
  | 0, _, _, _ => none
  | n + 1, x1, x2, M =>
    am_bi (f176 z M) fun v2 M1 =>
      if v2 < x2 then
        some (some (.inl (-1 : Int32)), M1)
      else
        am_bi (f231 z x2 M1) fun v4 M3 =>
          am_bi (f172 z v4 x1 M3) fun v6 M5 =>
            if ¬ v6 = 0 then
              f241_18 z n x1 (x2 + (1 : Int32)) M5
            else
              some (some (.inl x2), M5)
set_option maxRecDepth 100000 in
set_option maxHeartbeats 4000000 in
theorem e241_18 (z : Nat) : ∀ (n : Nat) (x1 : Int32) (x2 : Int32) (M : aM) (r : aR), f241_18 z n x1 x2 M = some r → am_Ev 11 241 18 [some (.inr (.inr (11, 205))), some (.inl x1), some (.inl x2)] [] M r := by
  intro n
  induction n with
  | zero =>
    intro x1 x2 M r h
    cases h
  | succ n ih =>
    intro x1 x2 M r h
    exact am_Ev_seg (sem := am_s241_ z) (cut := ([(18, [true, true, true])] : List (Nat × List Bool))) (hs241 z) am_r241 am_k241 (by rw [am_l241]; decide) (am_kc 18 (fun al st M => match al, st with
      | [some (.inr (.inr (11, 205))), some (.inl x1), some (.inl x2)], [] => f241_18 z n x1 x2 M
      | _, _ => none) am_k0) 14 h (am_kc_ok (fun al st M hk => by
      split at hk
      · exact ih _ _ _ _ hk
      · cases hk) am_k0_ok)
/-- ArgumentMenderModel.falls(I)I -/
def f241 (z : Nat) (x1 : Int32) (M : aM) : Option aR :=
  am_bi (f225 z M) fun v2 M1 =>
    am_bi (f182 z x1 M1) fun v4 M3 =>
      if ¬ v4 = 0 then
        f241_18 z z x1 (0 : Int32) M3
      else
        some (some (.inl (-2 : Int32)), M3)
set_option maxRecDepth 100000 in
set_option maxHeartbeats 4000000 in
theorem e241 (z : Nat) : ∀ (x1 : Int32) (M : aM) (r : aR), f241 z x1 M = some r → am_Ev 11 241 0 [some (.inr (.inr (11, 205))), some (.inl x1), none] [] M r := by
  intro x1 M r h
  exact am_Ev_seg (sem := am_s241_ z) (cut := ([(18, [true, true, true])] : List (Nat × List Bool))) (hs241 z) am_r241 am_k241 (by rw [am_l241]; decide) (am_kc 18 (fun al st M => match al, st with
      | [some (.inr (.inr (11, 205))), some (.inl x1), some (.inl x2)], [] => f241_18 z z x1 x2 M
      | _, _ => none) am_k0) 11 h (am_kc_ok (fun al st M hk => by
      split at hk
      · exact e241_18 z _ _ _ _ _ hk
      · cases hk) am_k0_ok)
def F241 (z : Nat) (as : List aV) (M : aM) : Option aR := match as with
  | [.inr (.inr (11, 205)), .inl x1] => f241 z x1 M
  | _ => none
theorem S241 (z : Nat) : am_Snd 11 241 (F241 z) := am_meth (by decide +kernel) (fun as M r has h => by
    rw [am_l241]
    unfold F241 at h
    split at h
    · exact ⟨Nat.le_of_ble_eq_true rfl, e241 z _ _ _ h⟩
    · cases h)
def cd242_0 : List am_E := [(0, .aload_n 0, 1, 0, 0, 0, 0), (1, .invokevirtual 335, 3, 225, 11000, 0, 0), (4, .ifCond .ne 6, 3, 10, 0, 0, 0), (7, .bipush (-2), 2, 0, 0, (-2), 0), (9, .ireturn, 1, 0, 0, 0, 0), (10, .iconst 0, 1, 0, 0, 0, 0), (11, .istore_n 1, 1, 1, 0, 0, 0), (12, .iload_n 1, 1, 1, 0, 0, 0), (13, .aload_n 0, 1, 0, 0, 0, 0), (14, .invokevirtual 111, 3, 176, 11000, 0, 0), (17, .if_icmp .gt 23, 3, 40, 0, 0, 0), (20, .aload_n 0, 1, 0, 0, 0, 0), (21, .iload_n 1, 1, 1, 0, 0, 0), (22, .invokevirtual 353, 3, 231, 11010, 0, 0), (25, .aload_n 0, 1, 0, 0, 0, 0), (26, .invokevirtual 362, 3, 233, 11000, 0, 0), (29, .if_icmp .eq 5, 3, 34, 0, 0, 0), (32, .iload_n 1, 1, 1, 0, 0, 0), (33, .ireturn, 1, 0, 0, 0, 0), (34, .iinc 1 1, 3, 1, 0, 1, 0), (37, .goto (-25), 3, 12, 0, 0, 0), (40, .iconst (-1), 1, 0, 0, (-1), 0), (41, .ireturn, 1, 0, 0, 0, 0)]
def cd242 : List am_E := cd242_0
def am_w242 : List (List (Int32 × Nat) × Nat) := []
set_option maxRecDepth 100000 in
theorem kcd242_0 : cd242_0.all (am_chk am_w242 242) = true := by decide +kernel
theorem am_k242 : cd242.all (am_chk am_w242 242) = true := by
  simp only [cd242, List.all_append, kcd242_0, Bool.and_self]
theorem am_r242 : am_rtc 242 = 0 := by decide +kernel
theorem am_l242 : am_ml 242 = 2 := by decide +kernel
def am_s242_ (z : Nat) : Nat → List aV → aM → Option aR := (am_sm 176 (F176 z) (am_sm 225 (F225 z) (am_sm 231 (F231 z) (am_sm 233 (F233 z) am_s0))))
theorem hs242 (z : Nat) : ∀ j2 : Nat, ∃ d2 : Nat, d2 + 1 ≤ 11 ∧ am_Snd d2 j2 (am_s242_ z j2) := (am_sm_ok (S176 z) (by decide) (am_sm_ok (S225 z) (by decide) (am_sm_ok (S231 z) (by decide) (am_sm_ok (S233 z) (by decide) (am_s0_ok (by decide))))))
def f242_12 (z : Nat) : Nat → Int32 → aM → Option aR
  | 0, _, _ => none
  | n + 1, x1, M =>
    am_bi (f176 z M) fun v2 M1 =>
      if v2 < x1 then
        some (some (.inl (-1 : Int32)), M1)
      else
        am_bi (f231 z x1 M1) fun v4 M3 =>
          am_bi (f233 z M3) fun v6 M5 =>
            if v4 = v6 then
              f242_12 z n (x1 + (1 : Int32)) M5
            else
              some (some (.inl x1), M5)
set_option maxRecDepth 100000 in
set_option maxHeartbeats 4000000 in
theorem e242_12 (z : Nat) : ∀ (n : Nat) (x1 : Int32) (M : aM) (r : aR), f242_12 z n x1 M = some r → am_Ev 11 242 12 [some (.inr (.inr (11, 205))), some (.inl x1)] [] M r := by
  intro n
  induction n with
  | zero =>
    intro x1 M r h
    cases h
  | succ n ih =>
    intro x1 M r h
    exact am_Ev_seg (sem := am_s242_ z) (cut := ([(12, [true, true])] : List (Nat × List Bool))) (hs242 z) am_r242 am_k242 (by rw [am_l242]; decide) (am_kc 12 (fun al st M => match al, st with
      | [some (.inr (.inr (11, 205))), some (.inl x1)], [] => f242_12 z n x1 M
      | _, _ => none) am_k0) 14 h (am_kc_ok (fun al st M hk => by
      split at hk
      · exact ih _ _ _ hk
      · cases hk) am_k0_ok)
/-- ArgumentMenderModel.frail()I -/
def f242 (z : Nat) (M : aM) : Option aR :=
  am_bi (f225 z M) fun v2 M1 =>
    if ¬ v2 = 0 then
      f242_12 z z (0 : Int32) M1
    else
      some (some (.inl (-2 : Int32)), M1)
set_option maxRecDepth 100000 in
set_option maxHeartbeats 4000000 in
theorem e242 (z : Nat) : ∀ (M : aM) (r : aR), f242 z  M = some r → am_Ev 11 242 0 [some (.inr (.inr (11, 205))), none] [] M r := by
  intro  M r h
  exact am_Ev_seg (sem := am_s242_ z) (cut := ([(12, [true, true])] : List (Nat × List Bool))) (hs242 z) am_r242 am_k242 (by rw [am_l242]; decide) (am_kc 12 (fun al st M => match al, st with
      | [some (.inr (.inr (11, 205))), some (.inl x1)], [] => f242_12 z z x1 M
      | _, _ => none) am_k0) 7 h (am_kc_ok (fun al st M hk => by
      split at hk
      · exact e242_12 z _ _ _ _ hk
      · cases hk) am_k0_ok)
def F242 (z : Nat) (as : List aV) (M : aM) : Option aR := match as with
  | [.inr (.inr (11, 205))] => f242 z  M
  | _ => none
theorem S242 (z : Nat) : am_Snd 11 242 (F242 z) := am_meth (by decide +kernel) (fun as M r has h => by
    rw [am_l242]
    unfold F242 at h
    split at h
    · exact ⟨Nat.le_of_ble_eq_true rfl, e242 z _ _ h⟩
    · cases h)
def cd243_0 : List am_E := [(0, .iconst 0, 1, 0, 0, 0, 0), (1, .istore_n 2, 1, 2, 0, 0, 0), (2, .iconst 0, 1, 0, 0, 0, 0), (3, .istore_n 3, 1, 3, 0, 0, 0), (4, .iload_n 3, 1, 3, 0, 0, 0), (5, .aload_n 0, 1, 0, 0, 0, 0), (6, .invokevirtual 118, 3, 178, 11000, 0, 0), (9, .if_icmp .ge 18, 3, 27, 0, 0, 0), (12, .iload_n 2, 1, 2, 0, 0, 0), (13, .aload_n 0, 1, 0, 0, 0, 0), (14, .iload_n 3, 1, 3, 0, 0, 0), (15, .iload_n 1, 1, 1, 0, 0, 0), (16, .invokevirtual 341, 3, 227, 11020, 0, 0), (19, .iadd, 1, 0, 0, 0, 0), (20, .istore_n 2, 1, 2, 0, 0, 0), (21, .iinc 3 1, 3, 3, 0, 1, 0), (24, .goto (-20), 3, 4, 0, 0, 0), (27, .iload_n 2, 1, 2, 0, 0, 0), (28, .ireturn, 1, 0, 0, 0, 0)]
def cd243 : List am_E := cd243_0
def am_w243 : List (List (Int32 × Nat) × Nat) := []
set_option maxRecDepth 100000 in
theorem kcd243_0 : cd243_0.all (am_chk am_w243 243) = true := by decide +kernel
theorem am_k243 : cd243.all (am_chk am_w243 243) = true := by
  simp only [cd243, List.all_append, kcd243_0, Bool.and_self]
theorem am_r243 : am_rtc 243 = 0 := by decide +kernel
theorem am_l243 : am_ml 243 = 4 := by decide +kernel
def am_s243_ (z : Nat) : Nat → List aV → aM → Option aR := (am_sm 178 (F178 z) (am_sm 227 (F227 z) am_s0))
theorem hs243 (z : Nat) : ∀ j2 : Nat, ∃ d2 : Nat, d2 + 1 ≤ 2 ∧ am_Snd d2 j2 (am_s243_ z j2) := (am_sm_ok (S178 z) (by decide) (am_sm_ok (S227 z) (by decide) (am_s0_ok (by decide))))
def f243_4 (z : Nat) : Nat → Int32 → Int32 → Int32 → aM → Option aR
  | 0, _, _, _, _ => none
  | n + 1, x1, x2, x3, M =>
    am_bi (f178 z M) fun v2 M1 =>
      if v2 ≤ x3 then
        some (some (.inl x2), M1)
      else
        am_bi (f227 z x3 x1 M1) fun v4 M3 =>
          f243_4 z n x1 (x2 + v4) (x3 + (1 : Int32)) M3
set_option maxRecDepth 100000 in
set_option maxHeartbeats 4000000 in
theorem e243_4 (z : Nat) : ∀ (n : Nat) (x1 : Int32) (x2 : Int32) (x3 : Int32) (M : aM) (r : aR), f243_4 z n x1 x2 x3 M = some r → am_Ev 2 243 4 [some (.inr (.inr (11, 205))), some (.inl x1), some (.inl x2), some (.inl x3)] [] M r := by
  intro n
  induction n with
  | zero =>
    intro x1 x2 x3 M r h
    cases h
  | succ n ih =>
    intro x1 x2 x3 M r h
    exact am_Ev_seg (sem := am_s243_ z) (cut := ([(4, [true, true, true, true])] : List (Nat × List Bool))) (hs243 z) am_r243 am_k243 (by rw [am_l243]; decide) (am_kc 4 (fun al st M => match al, st with
      | [some (.inr (.inr (11, 205))), some (.inl x1), some (.inl x2), some (.inl x3)], [] => f243_4 z n x1 x2 x3 M
      | _, _ => none) am_k0) 15 h (am_kc_ok (fun al st M hk => by
      split at hk
      · exact ih _ _ _ _ _ hk
      · cases hk) am_k0_ok)
/-- ArgumentMenderModel.sumIn(I)I -/
def f243 (z : Nat) (x1 : Int32) (M : aM) : Option aR :=
  f243_4 z z x1 (0 : Int32) (0 : Int32) M
set_option maxRecDepth 100000 in
set_option maxHeartbeats 4000000 in
theorem e243 (z : Nat) : ∀ (x1 : Int32) (M : aM) (r : aR), f243 z x1 M = some r → am_Ev 2 243 0 [some (.inr (.inr (11, 205))), some (.inl x1), none, none] [] M r := by
  intro x1 M r h
  exact am_Ev_seg (sem := am_s243_ z) (cut := ([(4, [true, true, true, true])] : List (Nat × List Bool))) (hs243 z) am_r243 am_k243 (by rw [am_l243]; decide) (am_kc 4 (fun al st M => match al, st with
      | [some (.inr (.inr (11, 205))), some (.inl x1), some (.inl x2), some (.inl x3)], [] => f243_4 z z x1 x2 x3 M
      | _, _ => none) am_k0) 6 h (am_kc_ok (fun al st M hk => by
      split at hk
      · exact e243_4 z _ _ _ _ _ _ hk
      · cases hk) am_k0_ok)
def F243 (z : Nat) (as : List aV) (M : aM) : Option aR := match as with
  | [.inr (.inr (11, 205)), .inl x1] => f243 z x1 M
  | _ => none
theorem S243 (z : Nat) : am_Snd 2 243 (F243 z) := am_meth (by decide +kernel) (fun as M r has h => by
    rw [am_l243]
    unfold F243 at h
    split at h
    · exact ⟨Nat.le_of_ble_eq_true rfl, e243 z _ _ _ h⟩
    · cases h)
def cd244_0 : List am_E := [(0, .aload_n 0, 1, 0, 0, 0, 0), (1, .iload_n 1, 1, 1, 0, 0, 0), (2, .invokevirtual 356, 3, 226, 11010, 0, 0), (5, .ifCond .eq 11, 3, 16, 0, 0, 0), (8, .aload_n 0, 1, 0, 0, 0, 0), (9, .iload_n 1, 1, 1, 0, 0, 0), (10, .invokevirtual 365, 3, 243, 11010, 0, 0), (13, .goto 5, 3, 18, 0, 0, 0), (16, .bipush (-2), 2, 0, 0, (-2), 0), (18, .ireturn, 1, 0, 0, 0, 0)]
def cd244 : List am_E := cd244_0
def am_w244 : List (List (Int32 × Nat) × Nat) := []
set_option maxRecDepth 100000 in
theorem kcd244_0 : cd244_0.all (am_chk am_w244 244) = true := by decide +kernel
theorem am_k244 : cd244.all (am_chk am_w244 244) = true := by
  simp only [cd244, List.all_append, kcd244_0, Bool.and_self]
theorem am_r244 : am_rtc 244 = 0 := by decide +kernel
theorem am_l244 : am_ml 244 = 2 := by decide +kernel
def am_s244_ (z : Nat) : Nat → List aV → aM → Option aR := (am_sm 226 (F226 z) (am_sm 243 (F243 z) am_s0))
theorem hs244 (z : Nat) : ∀ j2 : Nat, ∃ d2 : Nat, d2 + 1 ≤ 12 ∧ am_Snd d2 j2 (am_s244_ z j2) := (am_sm_ok (S226 z) (by decide) (am_sm_ok (S243 z) (by decide) (am_s0_ok (by decide))))
/-- ArgumentMenderModel.sum(I)I -/
def f244 (z : Nat) (x1 : Int32) (M : aM) : Option aR :=
  am_bi (f226 z x1 M) fun v2 M1 =>
    if v2 = 0 then
      some (some (.inl (-2 : Int32)), M1)
    else
      am_bi (f243 z x1 M1) fun v4 M3 =>
        some (some (.inl v4), M3)
set_option maxRecDepth 100000 in
set_option maxHeartbeats 4000000 in
theorem e244 (z : Nat) : ∀ (x1 : Int32) (M : aM) (r : aR), f244 z x1 M = some r → am_Ev 12 244 0 [some (.inr (.inr (11, 205))), some (.inl x1)] [] M r := by
  intro x1 M r h
  exact am_Ev_seg (sem := am_s244_ z) (cut := ([] : List (Nat × List Bool))) (hs244 z) am_r244 am_k244 (by rw [am_l244]; decide) am_k0 10 h am_k0_ok
def F244 (z : Nat) (as : List aV) (M : aM) : Option aR := match as with
  | [.inr (.inr (11, 205)), .inl x1] => f244 z x1 M
  | _ => none
theorem S244 (z : Nat) : am_Snd 12 244 (F244 z) := am_meth (by decide +kernel) (fun as M r has h => by
    rw [am_l244]
    unfold F244 at h
    split at h
    · exact ⟨Nat.le_of_ble_eq_true rfl, e244 z _ _ _ h⟩
    · cases h)
def cd245_0 : List am_E := [(0, .aload_n 0, 1, 0, 0, 0, 0), (1, .invokevirtual 335, 3, 225, 11000, 0, 0), (4, .pop, 1, 0, 0, 0, 0), (5, .aload_n 0, 1, 0, 0, 0, 0), (6, .iload_n 1, 1, 1, 0, 0, 0), (7, .i2l, 1, 0, 0, 0, 0), (8, .invokevirtual 368, 3, 181, 11010, 0, 0), (11, .ifCond .eq 19, 3, 30, 0, 0, 0), (14, .aload_n 0, 1, 0, 0, 0, 0), (15, .iload_n 1, 1, 1, 0, 0, 0), (16, .invokevirtual 365, 3, 243, 11010, 0, 0), (19, .aload_n 0, 1, 0, 0, 0, 0), (20, .iload_n 1, 1, 1, 0, 0, 0), (21, .iconst 1, 1, 0, 0, 1, 0), (22, .iadd, 1, 0, 0, 0, 0), (23, .invokevirtual 365, 3, 243, 11010, 0, 0), (26, .isub, 1, 0, 0, 0, 0), (27, .goto 6, 3, 33, 0, 0, 0), (30, .ldc_w 371, 3, 0, 0, (-100000), 0), (33, .ireturn, 1, 0, 0, 0, 0)]
def cd245 : List am_E := cd245_0
def am_w245 : List (List (Int32 × Nat) × Nat) := []
set_option maxRecDepth 100000 in
theorem kcd245_0 : cd245_0.all (am_chk am_w245 245) = true := by decide +kernel
theorem am_k245 : cd245.all (am_chk am_w245 245) = true := by
  simp only [cd245, List.all_append, kcd245_0, Bool.and_self]
theorem am_r245 : am_rtc 245 = 0 := by decide +kernel
theorem am_l245 : am_ml 245 = 2 := by decide +kernel
def am_s245_ (z : Nat) : Nat → List aV → aM → Option aR := (am_sm 181 (F181 z) (am_sm 225 (F225 z) (am_sm 243 (F243 z) am_s0)))
theorem hs245 (z : Nat) : ∀ j2 : Nat, ∃ d2 : Nat, d2 + 1 ≤ 11 ∧ am_Snd d2 j2 (am_s245_ z j2) := (am_sm_ok (S181 z) (by decide) (am_sm_ok (S225 z) (by decide) (am_sm_ok (S243 z) (by decide) (am_s0_ok (by decide)))))
/-- ArgumentMenderModel.loses(I)I -/
def f245 (z : Nat) (x1 : Int32) (M : aM) : Option aR :=
  am_bi (f225 z M) fun v2 M1 =>
    am_bi (f181 z (Int32.toInt64 x1) M1) fun v4 M3 =>
      if v4 = 0 then
        some (some (.inl (-100000 : Int32)), M3)
      else
        am_bi (f243 z x1 M3) fun v6 M5 =>
          am_bi (f243 z (x1 + (1 : Int32)) M5) fun v8 M7 =>
            some (some (.inl (v6 - v8)), M7)
set_option maxRecDepth 100000 in
set_option maxHeartbeats 4000000 in
theorem e245 (z : Nat) : ∀ (x1 : Int32) (M : aM) (r : aR), f245 z x1 M = some r → am_Ev 11 245 0 [some (.inr (.inr (11, 205))), some (.inl x1)] [] M r := by
  intro x1 M r h
  exact am_Ev_seg (sem := am_s245_ z) (cut := ([] : List (Nat × List Bool))) (hs245 z) am_r245 am_k245 (by rw [am_l245]; decide) am_k0 20 h am_k0_ok
def F245 (z : Nat) (as : List aV) (M : aM) : Option aR := match as with
  | [.inr (.inr (11, 205)), .inl x1] => f245 z x1 M
  | _ => none
theorem S245 (z : Nat) : am_Snd 11 245 (F245 z) := am_meth (by decide +kernel) (fun as M r has h => by
    rw [am_l245]
    unfold F245 at h
    split at h
    · exact ⟨Nat.le_of_ble_eq_true rfl, e245 z _ _ _ h⟩
    · cases h)
def cd246_0 : List am_E := [(0, .aload_n 0, 1, 0, 0, 0, 0), (1, .iload_n 2, 1, 2, 0, 0, 0), (2, .invokevirtual 356, 3, 226, 11010, 0, 0), (5, .ifCond .eq 11, 3, 16, 0, 0, 0), (8, .aload_n 0, 1, 0, 0, 0, 0), (9, .iload_n 1, 1, 1, 0, 0, 0), (10, .invokevirtual 255, 3, 182, 11010, 0, 0), (13, .ifCond .ne 6, 3, 19, 0, 0, 0), (16, .bipush (-2), 2, 0, 0, (-2), 0), (18, .ireturn, 1, 0, 0, 0, 0), (19, .iconst 0, 1, 0, 0, 0, 0), (20, .istore_n 3, 1, 3, 0, 0, 0), (21, .iconst 0, 1, 0, 0, 0, 0), (22, .istore 4, 2, 4, 0, 0, 0), (24, .iload 4, 2, 4, 0, 0, 0), (26, .aload_n 0, 1, 0, 0, 0, 0), (27, .invokevirtual 118, 3, 178, 11000, 0, 0), (30, .if_icmp .ge 33, 3, 63, 0, 0, 0), (33, .iload_n 3, 1, 3, 0, 0, 0), (34, .aload_n 0, 1, 0, 0, 0, 0), (35, .iload 4, 2, 4, 0, 0, 0), (37, .invokevirtual 252, 3, 185, 11010, 0, 0), (40, .iload_n 1, 1, 1, 0, 0, 0), (41, .if_icmp .ne 13, 3, 54, 0, 0, 0), (44, .aload_n 0, 1, 0, 0, 0, 0), (45, .iload 4, 2, 4, 0, 0, 0), (47, .iload_n 2, 1, 2, 0, 0, 0), (48, .invokevirtual 341, 3, 227, 11020, 0, 0), (51, .goto 4, 3, 55, 0, 0, 0), (54, .iconst 0, 1, 0, 0, 0, 0), (55, .iadd, 1, 0, 0, 0, 0), (56, .istore_n 3, 1, 3, 0, 0, 0), (57, .iinc 4 1, 3, 4, 0, 1, 0), (60, .goto (-36), 3, 24, 0, 0, 0), (63, .iload_n 3, 1, 3, 0, 0, 0), (64, .ireturn, 1, 0, 0, 0, 0)]
def cd246 : List am_E := cd246_0
def am_w246 : List (List (Int32 × Nat) × Nat) := []
set_option maxRecDepth 100000 in
theorem kcd246_0 : cd246_0.all (am_chk am_w246 246) = true := by decide +kernel
theorem am_k246 : cd246.all (am_chk am_w246 246) = true := by
  simp only [cd246, List.all_append, kcd246_0, Bool.and_self]
theorem am_r246 : am_rtc 246 = 0 := by decide +kernel
theorem am_l246 : am_ml 246 = 5 := by decide +kernel
def am_s246_ (z : Nat) : Nat → List aV → aM → Option aR := (am_sm 178 (F178 z) (am_sm 182 (F182 z) (am_sm 185 (F185 z) (am_sm 226 (F226 z) (am_sm 227 (F227 z) am_s0)))))
theorem hs246 (z : Nat) : ∀ j2 : Nat, ∃ d2 : Nat, d2 + 1 ≤ 12 ∧ am_Snd d2 j2 (am_s246_ z j2) := (am_sm_ok (S178 z) (by decide) (am_sm_ok (S182 z) (by decide) (am_sm_ok (S185 z) (by decide) (am_sm_ok (S226 z) (by decide) (am_sm_ok (S227 z) (by decide) (am_s0_ok (by decide)))))))
def f246_24 (z : Nat) : Nat → Int32 → Int32 → Int32 → Int32 → aM → Option aR
  | 0, _, _, _, _, _ => none
  | n + 1, x1, x2, x3, x4, M =>
    am_bi (f178 z M) fun v2 M1 =>
      if v2 ≤ x4 then
        some (some (.inl x3), M1)
      else
        am_bi (f185 z x4 M1) fun v4 M3 =>
          if ¬ v4 = x1 then
            f246_24 z n x1 x2 (x3 + (0 : Int32)) (x4 + (1 : Int32)) M3
          else
            am_bi (f227 z x4 x2 M3) fun v6 M5 =>
              f246_24 z n x1 x2 (x3 + v6) (x4 + (1 : Int32)) M5
set_option maxRecDepth 100000 in
set_option maxHeartbeats 4000000 in
theorem e246_24 (z : Nat) : ∀ (n : Nat) (x1 : Int32) (x2 : Int32) (x3 : Int32) (x4 : Int32) (M : aM) (r : aR), f246_24 z n x1 x2 x3 x4 M = some r → am_Ev 12 246 24 [some (.inr (.inr (11, 205))), some (.inl x1), some (.inl x2), some (.inl x3), some (.inl x4)] [] M r := by
  intro n
  induction n with
  | zero =>
    intro x1 x2 x3 x4 M r h
    cases h
  | succ n ih =>
    intro x1 x2 x3 x4 M r h
    exact am_Ev_seg (sem := am_s246_ z) (cut := ([(24, [true, true, true, true, true])] : List (Nat × List Bool))) (hs246 z) am_r246 am_k246 (by rw [am_l246]; decide) (am_kc 24 (fun al st M => match al, st with
      | [some (.inr (.inr (11, 205))), some (.inl x1), some (.inl x2), some (.inl x3), some (.inl x4)], [] => f246_24 z n x1 x2 x3 x4 M
      | _, _ => none) am_k0) 21 h (am_kc_ok (fun al st M hk => by
      split at hk
      · exact ih _ _ _ _ _ _ hk
      · cases hk) am_k0_ok)
/-- ArgumentMenderModel.stuff(II)I -/
def f246 (z : Nat) (x1 : Int32) (x2 : Int32) (M : aM) : Option aR :=
  am_bi (f226 z x2 M) fun v2 M1 =>
    if v2 = 0 then
      some (some (.inl (-2 : Int32)), M1)
    else
      am_bi (f182 z x1 M1) fun v4 M3 =>
        if ¬ v4 = 0 then
          f246_24 z z x1 x2 (0 : Int32) (0 : Int32) M3
        else
          some (some (.inl (-2 : Int32)), M3)
set_option maxRecDepth 100000 in
set_option maxHeartbeats 4000000 in
theorem e246 (z : Nat) : ∀ (x1 : Int32) (x2 : Int32) (M : aM) (r : aR), f246 z x1 x2 M = some r → am_Ev 12 246 0 [some (.inr (.inr (11, 205))), some (.inl x1), some (.inl x2), none, none] [] M r := by
  intro x1 x2 M r h
  exact am_Ev_seg (sem := am_s246_ z) (cut := ([(24, [true, true, true, true, true])] : List (Nat × List Bool))) (hs246 z) am_r246 am_k246 (by rw [am_l246]; decide) (am_kc 24 (fun al st M => match al, st with
      | [some (.inr (.inr (11, 205))), some (.inl x1), some (.inl x2), some (.inl x3), some (.inl x4)], [] => f246_24 z z x1 x2 x3 x4 M
      | _, _ => none) am_k0) 14 h (am_kc_ok (fun al st M hk => by
      split at hk
      · exact e246_24 z _ _ _ _ _ _ _ hk
      · cases hk) am_k0_ok)
def F246 (z : Nat) (as : List aV) (M : aM) : Option aR := match as with
  | [.inr (.inr (11, 205)), .inl x1, .inl x2] => f246 z x1 x2 M
  | _ => none
theorem S246 (z : Nat) : am_Snd 12 246 (F246 z) := am_meth (by decide +kernel) (fun as M r has h => by
    rw [am_l246]
    unfold F246 at h
    split at h
    · exact ⟨Nat.le_of_ble_eq_true rfl, e246 z _ _ _ _ h⟩
    · cases h)
def cd247_0 : List am_E := [(0, .aload_n 0, 1, 0, 0, 0, 0), (1, .iload_n 1, 1, 1, 0, 0, 0), (2, .invokevirtual 356, 3, 226, 11010, 0, 0), (5, .ifCond .ne 6, 3, 11, 0, 0, 0), (8, .bipush (-2), 2, 0, 0, (-2), 0), (10, .ireturn, 1, 0, 0, 0, 0), (11, .iconst 0, 1, 0, 0, 0, 0), (12, .istore_n 2, 1, 2, 0, 0, 0), (13, .iconst 0, 1, 0, 0, 0, 0), (14, .istore_n 3, 1, 3, 0, 0, 0), (15, .iload_n 3, 1, 3, 0, 0, 0), (16, .aload_n 0, 1, 0, 0, 0, 0), (17, .invokevirtual 115, 3, 177, 11000, 0, 0), (20, .if_icmp .ge 37, 3, 57, 0, 0, 0), (23, .iload_n 2, 1, 2, 0, 0, 0), (24, .aload_n 0, 1, 0, 0, 0, 0), (25, .iload_n 3, 1, 3, 0, 0, 0), (26, .invokevirtual 258, 3, 209, 11010, 0, 0), (29, .aload_n 0, 1, 0, 0, 0, 0), (30, .iload_n 1, 1, 1, 0, 0, 0), (31, .invokevirtual 347, 3, 229, 11010, 0, 0), (34, .iand, 1, 0, 0, 0, 0), (35, .invokestatic 372, 3, 171, 15, 0, 0), (38, .iconst 1, 1, 0, 0, 1, 0), (39, .if_icmp .ne 9, 3, 48, 0, 0, 0), (42, .iconst 1, 1, 0, 0, 1, 0), (43, .iload_n 3, 1, 3, 0, 0, 0), (44, .ishl, 1, 0, 0, 0, 0), (45, .goto 4, 3, 49, 0, 0, 0), (48, .iconst 0, 1, 0, 0, 0, 0), (49, .ior, 1, 0, 0, 0, 0), (50, .istore_n 2, 1, 2, 0, 0, 0), (51, .iinc 3 1, 3, 3, 0, 1, 0), (54, .goto (-39), 3, 15, 0, 0, 0), (57, .iload_n 2, 1, 2, 0, 0, 0), (58, .ireturn, 1, 0, 0, 0, 0)]
def cd247 : List am_E := cd247_0
def am_w247 : List (List (Int32 × Nat) × Nat) := []
set_option maxRecDepth 100000 in
theorem kcd247_0 : cd247_0.all (am_chk am_w247 247) = true := by decide +kernel
theorem am_k247 : cd247.all (am_chk am_w247 247) = true := by
  simp only [cd247, List.all_append, kcd247_0, Bool.and_self]
theorem am_r247 : am_rtc 247 = 0 := by decide +kernel
theorem am_l247 : am_ml 247 = 4 := by decide +kernel
def am_s247_ (z : Nat) : Nat → List aV → aM → Option aR := (am_sm 171 (F171 z) (am_sm 177 (F177 z) (am_sm 209 (F209 z) (am_sm 226 (F226 z) (am_sm 229 (F229 z) am_s0)))))
theorem hs247 (z : Nat) : ∀ j2 : Nat, ∃ d2 : Nat, d2 + 1 ≤ 12 ∧ am_Snd d2 j2 (am_s247_ z j2) := (am_sm_ok (S171 z) (by decide) (am_sm_ok (S177 z) (by decide) (am_sm_ok (S209 z) (by decide) (am_sm_ok (S226 z) (by decide) (am_sm_ok (S229 z) (by decide) (am_s0_ok (by decide)))))))
def f247_15 (z : Nat) : Nat → Int32 → Int32 → Int32 → aM → Option aR
  | 0, _, _, _, _ => none
  | n + 1, x1, x2, x3, M =>
    am_bi (f177 z M) fun v2 M1 =>
      if v2 ≤ x3 then
        some (some (.inl x2), M1)
      else
        am_bi (f209 z x3 M1) fun v4 M3 =>
          am_bi (f229 z x1 M3) fun v6 M5 =>
            am_bi (f171 z (v4 &&& v6) M5) fun v8 M7 =>
              if ¬ v8 = (1 : Int32) then
                f247_15 z n x1 (x2 ||| (0 : Int32)) (x3 + (1 : Int32)) M7
              else
                f247_15 z n x1 (x2 ||| ((1 : Int32) <<< (x3 &&& 31))) (x3 + (1 : Int32)) M7
set_option maxRecDepth 100000 in
set_option maxHeartbeats 4000000 in
theorem e247_15 (z : Nat) : ∀ (n : Nat) (x1 : Int32) (x2 : Int32) (x3 : Int32) (M : aM) (r : aR), f247_15 z n x1 x2 x3 M = some r → am_Ev 12 247 15 [some (.inr (.inr (11, 205))), some (.inl x1), some (.inl x2), some (.inl x3)] [] M r := by
  intro n
  induction n with
  | zero =>
    intro x1 x2 x3 M r h
    cases h
  | succ n ih =>
    intro x1 x2 x3 M r h
    exact am_Ev_seg (sem := am_s247_ z) (cut := ([(15, [true, true, true, true])] : List (Nat × List Bool))) (hs247 z) am_r247 am_k247 (by rw [am_l247]; decide) (am_kc 15 (fun al st M => match al, st with
      | [some (.inr (.inr (11, 205))), some (.inl x1), some (.inl x2), some (.inl x3)], [] => f247_15 z n x1 x2 x3 M
      | _, _ => none) am_k0) 25 h (am_kc_ok (fun al st M hk => by
      split at hk
      · exact ih _ _ _ _ _ hk
      · cases hk) am_k0_ok)
/-- ArgumentMenderModel.bare(I)I -/
def f247 (z : Nat) (x1 : Int32) (M : aM) : Option aR :=
  am_bi (f226 z x1 M) fun v2 M1 =>
    if ¬ v2 = 0 then
      f247_15 z z x1 (0 : Int32) (0 : Int32) M1
    else
      some (some (.inl (-2 : Int32)), M1)
set_option maxRecDepth 100000 in
set_option maxHeartbeats 4000000 in
theorem e247 (z : Nat) : ∀ (x1 : Int32) (M : aM) (r : aR), f247 z x1 M = some r → am_Ev 12 247 0 [some (.inr (.inr (11, 205))), some (.inl x1), none, none] [] M r := by
  intro x1 M r h
  exact am_Ev_seg (sem := am_s247_ z) (cut := ([(15, [true, true, true, true])] : List (Nat × List Bool))) (hs247 z) am_r247 am_k247 (by rw [am_l247]; decide) (am_kc 15 (fun al st M => match al, st with
      | [some (.inr (.inr (11, 205))), some (.inl x1), some (.inl x2), some (.inl x3)], [] => f247_15 z z x1 x2 x3 M
      | _, _ => none) am_k0) 10 h (am_kc_ok (fun al st M hk => by
      split at hk
      · exact e247_15 z _ _ _ _ _ _ hk
      · cases hk) am_k0_ok)
def F247 (z : Nat) (as : List aV) (M : aM) : Option aR := match as with
  | [.inr (.inr (11, 205)), .inl x1] => f247 z x1 M
  | _ => none
theorem S247 (z : Nat) : am_Snd 12 247 (F247 z) := am_meth (by decide +kernel) (fun as M r has h => by
    rw [am_l247]
    unfold F247 at h
    split at h
    · exact ⟨Nat.le_of_ble_eq_true rfl, e247 z _ _ _ h⟩
    · cases h)
def cd248_0 : List am_E := [(0, .aload_n 0, 1, 0, 0, 0, 0), (1, .iload_n 1, 1, 1, 0, 0, 0), (2, .invokevirtual 356, 3, 226, 11010, 0, 0), (5, .ifCond .ne 6, 3, 11, 0, 0, 0), (8, .bipush (-2), 2, 0, 0, (-2), 0), (10, .ireturn, 1, 0, 0, 0, 0), (11, .iconst (-1), 1, 0, 0, (-1), 0), (12, .istore_n 2, 1, 2, 0, 0, 0), (13, .iconst 0, 1, 0, 0, 0, 0), (14, .istore_n 3, 1, 3, 0, 0, 0), (15, .iload_n 3, 1, 3, 0, 0, 0), (16, .aload_n 0, 1, 0, 0, 0, 0), (17, .invokevirtual 118, 3, 178, 11000, 0, 0), (20, .if_icmp .ge 31, 3, 51, 0, 0, 0), (23, .iload_n 2, 1, 2, 0, 0, 0), (24, .iconst (-1), 1, 0, 0, (-1), 0), (25, .if_icmp .eq 18, 3, 43, 0, 0, 0), (28, .aload_n 0, 1, 0, 0, 0, 0), (29, .iload_n 3, 1, 3, 0, 0, 0), (30, .iload_n 1, 1, 1, 0, 0, 0), (31, .invokevirtual 341, 3, 227, 11020, 0, 0), (34, .aload_n 0, 1, 0, 0, 0, 0), (35, .iload_n 2, 1, 2, 0, 0, 0), (36, .iload_n 1, 1, 1, 0, 0, 0), (37, .invokevirtual 341, 3, 227, 11020, 0, 0), (40, .if_icmp .le 5, 3, 45, 0, 0, 0), (43, .iload_n 3, 1, 3, 0, 0, 0), (44, .istore_n 2, 1, 2, 0, 0, 0), (45, .iinc 3 1, 3, 3, 0, 1, 0), (48, .goto (-33), 3, 15, 0, 0, 0), (51, .iload_n 2, 1, 2, 0, 0, 0), (52, .ireturn, 1, 0, 0, 0, 0)]
def cd248 : List am_E := cd248_0
def am_w248 : List (List (Int32 × Nat) × Nat) := []
set_option maxRecDepth 100000 in
theorem kcd248_0 : cd248_0.all (am_chk am_w248 248) = true := by decide +kernel
theorem am_k248 : cd248.all (am_chk am_w248 248) = true := by
  simp only [cd248, List.all_append, kcd248_0, Bool.and_self]
theorem am_r248 : am_rtc 248 = 0 := by decide +kernel
theorem am_l248 : am_ml 248 = 4 := by decide +kernel
def am_s248_ (z : Nat) : Nat → List aV → aM → Option aR := (am_sm 178 (F178 z) (am_sm 226 (F226 z) (am_sm 227 (F227 z) am_s0)))
theorem hs248 (z : Nat) : ∀ j2 : Nat, ∃ d2 : Nat, d2 + 1 ≤ 12 ∧ am_Snd d2 j2 (am_s248_ z j2) := (am_sm_ok (S178 z) (by decide) (am_sm_ok (S226 z) (by decide) (am_sm_ok (S227 z) (by decide) (am_s0_ok (by decide)))))
def f248_15 (z : Nat) : Nat → Int32 → Int32 → Int32 → aM → Option aR
  | 0, _, _, _, _ => none
  | n + 1, x1, x2, x3, M =>
    am_bi (f178 z M) fun v2 M1 =>
      if v2 ≤ x3 then
        some (some (.inl x2), M1)
      else
        if x2 = (-1 : Int32) then
          f248_15 z n x1 x3 (x3 + (1 : Int32)) M1
        else
          am_bi (f227 z x3 x1 M1) fun v4 M3 =>
            am_bi (f227 z x2 x1 M3) fun v6 M5 =>
              if v4 ≤ v6 then
                f248_15 z n x1 x2 (x3 + (1 : Int32)) M5
              else
                f248_15 z n x1 x3 (x3 + (1 : Int32)) M5
set_option maxRecDepth 100000 in
set_option maxHeartbeats 4000000 in
theorem e248_15 (z : Nat) : ∀ (n : Nat) (x1 : Int32) (x2 : Int32) (x3 : Int32) (M : aM) (r : aR), f248_15 z n x1 x2 x3 M = some r → am_Ev 12 248 15 [some (.inr (.inr (11, 205))), some (.inl x1), some (.inl x2), some (.inl x3)] [] M r := by
  intro n
  induction n with
  | zero =>
    intro x1 x2 x3 M r h
    cases h
  | succ n ih =>
    intro x1 x2 x3 M r h
    exact am_Ev_seg (sem := am_s248_ z) (cut := ([(15, [true, true, true, true])] : List (Nat × List Bool))) (hs248 z) am_r248 am_k248 (by rw [am_l248]; decide) (am_kc 15 (fun al st M => match al, st with
      | [some (.inr (.inr (11, 205))), some (.inl x1), some (.inl x2), some (.inl x3)], [] => f248_15 z n x1 x2 x3 M
      | _, _ => none) am_k0) 22 h (am_kc_ok (fun al st M hk => by
      split at hk
      · exact ih _ _ _ _ _ hk
      · cases hk) am_k0_ok)
/-- ArgumentMenderModel.strongest(I)I -/
def f248 (z : Nat) (x1 : Int32) (M : aM) : Option aR :=
  am_bi (f226 z x1 M) fun v2 M1 =>
    if ¬ v2 = 0 then
      f248_15 z z x1 (-1 : Int32) (0 : Int32) M1
    else
      some (some (.inl (-2 : Int32)), M1)
set_option maxRecDepth 100000 in
set_option maxHeartbeats 4000000 in
theorem e248 (z : Nat) : ∀ (x1 : Int32) (M : aM) (r : aR), f248 z x1 M = some r → am_Ev 12 248 0 [some (.inr (.inr (11, 205))), some (.inl x1), none, none] [] M r := by
  intro x1 M r h
  exact am_Ev_seg (sem := am_s248_ z) (cut := ([(15, [true, true, true, true])] : List (Nat × List Bool))) (hs248 z) am_r248 am_k248 (by rw [am_l248]; decide) (am_kc 15 (fun al st M => match al, st with
      | [some (.inr (.inr (11, 205))), some (.inl x1), some (.inl x2), some (.inl x3)], [] => f248_15 z z x1 x2 x3 M
      | _, _ => none) am_k0) 10 h (am_kc_ok (fun al st M hk => by
      split at hk
      · exact e248_15 z _ _ _ _ _ _ hk
      · cases hk) am_k0_ok)
def F248 (z : Nat) (as : List aV) (M : aM) : Option aR := match as with
  | [.inr (.inr (11, 205)), .inl x1] => f248 z x1 M
  | _ => none
theorem S248 (z : Nat) : am_Snd 12 248 (F248 z) := am_meth (by decide +kernel) (fun as M r has h => by
    rw [am_l248]
    unfold F248 at h
    split at h
    · exact ⟨Nat.le_of_ble_eq_true rfl, e248 z _ _ _ h⟩
    · cases h)
def cd249_0 : List am_E := [(0, .aload_n 0, 1, 0, 0, 0, 0), (1, .iload_n 1, 1, 1, 0, 0, 0), (2, .invokevirtual 356, 3, 226, 11010, 0, 0), (5, .ifCond .ne 6, 3, 11, 0, 0, 0), (8, .bipush (-2), 2, 0, 0, (-2), 0), (10, .ireturn, 1, 0, 0, 0, 0), (11, .iconst (-1), 1, 0, 0, (-1), 0), (12, .istore_n 2, 1, 2, 0, 0, 0), (13, .iconst 0, 1, 0, 0, 0, 0), (14, .istore_n 3, 1, 3, 0, 0, 0), (15, .iload_n 3, 1, 3, 0, 0, 0), (16, .aload_n 0, 1, 0, 0, 0, 0), (17, .invokevirtual 118, 3, 178, 11000, 0, 0), (20, .if_icmp .ge 40, 3, 60, 0, 0, 0), (23, .aload_n 0, 1, 0, 0, 0, 0), (24, .iload_n 3, 1, 3, 0, 0, 0), (25, .iload_n 1, 1, 1, 0, 0, 0), (26, .invokevirtual 341, 3, 227, 11020, 0, 0), (29, .ifCond .le 25, 3, 54, 0, 0, 0), (32, .iload_n 2, 1, 2, 0, 0, 0), (33, .iconst (-1), 1, 0, 0, (-1), 0), (34, .if_icmp .eq 18, 3, 52, 0, 0, 0), (37, .aload_n 0, 1, 0, 0, 0, 0), (38, .iload_n 3, 1, 3, 0, 0, 0), (39, .iload_n 1, 1, 1, 0, 0, 0), (40, .invokevirtual 341, 3, 227, 11020, 0, 0), (43, .aload_n 0, 1, 0, 0, 0, 0), (44, .iload_n 2, 1, 2, 0, 0, 0), (45, .iload_n 1, 1, 1, 0, 0, 0), (46, .invokevirtual 341, 3, 227, 11020, 0, 0), (49, .if_icmp .ge 5, 3, 54, 0, 0, 0), (52, .iload_n 3, 1, 3, 0, 0, 0), (53, .istore_n 2, 1, 2, 0, 0, 0), (54, .iinc 3 1, 3, 3, 0, 1, 0), (57, .goto (-42), 3, 15, 0, 0, 0), (60, .iload_n 2, 1, 2, 0, 0, 0), (61, .ireturn, 1, 0, 0, 0, 0)]
def cd249 : List am_E := cd249_0
def am_w249 : List (List (Int32 × Nat) × Nat) := []
set_option maxRecDepth 100000 in
theorem kcd249_0 : cd249_0.all (am_chk am_w249 249) = true := by decide +kernel
theorem am_k249 : cd249.all (am_chk am_w249 249) = true := by
  simp only [cd249, List.all_append, kcd249_0, Bool.and_self]
theorem am_r249 : am_rtc 249 = 0 := by decide +kernel
theorem am_l249 : am_ml 249 = 4 := by decide +kernel
def am_s249_ (z : Nat) : Nat → List aV → aM → Option aR := (am_sm 178 (F178 z) (am_sm 226 (F226 z) (am_sm 227 (F227 z) am_s0)))
theorem hs249 (z : Nat) : ∀ j2 : Nat, ∃ d2 : Nat, d2 + 1 ≤ 12 ∧ am_Snd d2 j2 (am_s249_ z j2) := (am_sm_ok (S178 z) (by decide) (am_sm_ok (S226 z) (by decide) (am_sm_ok (S227 z) (by decide) (am_s0_ok (by decide)))))
def f249_15 (z : Nat) : Nat → Int32 → Int32 → Int32 → aM → Option aR
  | 0, _, _, _, _ => none
  | n + 1, x1, x2, x3, M =>
    am_bi (f178 z M) fun v2 M1 =>
      if v2 ≤ x3 then
        some (some (.inl x2), M1)
      else
        am_bi (f227 z x3 x1 M1) fun v4 M3 =>
          if v4 ≤ 0 then
            f249_15 z n x1 x2 (x3 + (1 : Int32)) M3
          else
            if x2 = (-1 : Int32) then
              f249_15 z n x1 x3 (x3 + (1 : Int32)) M3
            else
              am_bi (f227 z x3 x1 M3) fun v6 M5 =>
                am_bi (f227 z x2 x1 M5) fun v8 M7 =>
                  if v8 ≤ v6 then
                    f249_15 z n x1 x2 (x3 + (1 : Int32)) M7
                  else
                    f249_15 z n x1 x3 (x3 + (1 : Int32)) M7
set_option maxRecDepth 100000 in
set_option maxHeartbeats 4000000 in
theorem e249_15 (z : Nat) : ∀ (n : Nat) (x1 : Int32) (x2 : Int32) (x3 : Int32) (M : aM) (r : aR), f249_15 z n x1 x2 x3 M = some r → am_Ev 12 249 15 [some (.inr (.inr (11, 205))), some (.inl x1), some (.inl x2), some (.inl x3)] [] M r := by
  intro n
  induction n with
  | zero =>
    intro x1 x2 x3 M r h
    cases h
  | succ n ih =>
    intro x1 x2 x3 M r h
    exact am_Ev_seg (sem := am_s249_ z) (cut := ([(15, [true, true, true, true])] : List (Nat × List Bool))) (hs249 z) am_r249 am_k249 (by rw [am_l249]; decide) (am_kc 15 (fun al st M => match al, st with
      | [some (.inr (.inr (11, 205))), some (.inl x1), some (.inl x2), some (.inl x3)], [] => f249_15 z n x1 x2 x3 M
      | _, _ => none) am_k0) 27 h (am_kc_ok (fun al st M hk => by
      split at hk
      · exact ih _ _ _ _ _ hk
      · cases hk) am_k0_ok)
/-- ArgumentMenderModel.weakest(I)I -/
def f249 (z : Nat) (x1 : Int32) (M : aM) : Option aR :=
  am_bi (f226 z x1 M) fun v2 M1 =>
    if ¬ v2 = 0 then
      f249_15 z z x1 (-1 : Int32) (0 : Int32) M1
    else
      some (some (.inl (-2 : Int32)), M1)
set_option maxRecDepth 100000 in
set_option maxHeartbeats 4000000 in
theorem e249 (z : Nat) : ∀ (x1 : Int32) (M : aM) (r : aR), f249 z x1 M = some r → am_Ev 12 249 0 [some (.inr (.inr (11, 205))), some (.inl x1), none, none] [] M r := by
  intro x1 M r h
  exact am_Ev_seg (sem := am_s249_ z) (cut := ([(15, [true, true, true, true])] : List (Nat × List Bool))) (hs249 z) am_r249 am_k249 (by rw [am_l249]; decide) (am_kc 15 (fun al st M => match al, st with
      | [some (.inr (.inr (11, 205))), some (.inl x1), some (.inl x2), some (.inl x3)], [] => f249_15 z z x1 x2 x3 M
      | _, _ => none) am_k0) 10 h (am_kc_ok (fun al st M hk => by
      split at hk
      · exact e249_15 z _ _ _ _ _ _ hk
      · cases hk) am_k0_ok)
def F249 (z : Nat) (as : List aV) (M : aM) : Option aR := match as with
  | [.inr (.inr (11, 205)), .inl x1] => f249 z x1 M
  | _ => none
theorem S249 (z : Nat) : am_Snd 12 249 (F249 z) := am_meth (by decide +kernel) (fun as M r has h => by
    rw [am_l249]
    unfold F249 at h
    split at h
    · exact ⟨Nat.le_of_ble_eq_true rfl, e249 z _ _ _ h⟩
    · cases h)
def cd250_0 : List am_E := [(0, .aload_n 0, 1, 0, 0, 0, 0), (1, .iload_n 2, 1, 2, 0, 0, 0), (2, .invokevirtual 356, 3, 226, 11010, 0, 0), (5, .ifCond .eq 11, 3, 16, 0, 0, 0), (8, .aload_n 0, 1, 0, 0, 0, 0), (9, .iload_n 1, 1, 1, 0, 0, 0), (10, .invokevirtual 255, 3, 182, 11010, 0, 0), (13, .ifCond .ne 6, 3, 19, 0, 0, 0), (16, .bipush (-2), 2, 0, 0, (-2), 0), (18, .ireturn, 1, 0, 0, 0, 0), (19, .iconst 0, 1, 0, 0, 0, 0), (20, .istore_n 3, 1, 3, 0, 0, 0), (21, .iload_n 3, 1, 3, 0, 0, 0), (22, .iload_n 1, 1, 1, 0, 0, 0), (23, .if_icmp .gt 140, 3, 163, 0, 0, 0), (26, .aload_n 0, 1, 0, 0, 0, 0), (27, .getfield 70, 3, 11, 34, 0, 0), (30, .iload_n 3, 1, 3, 0, 0, 0), (31, .iconst (-1), 1, 0, 0, (-1), 0), (32, .iastore, 1, 0, 0, 0, 0), (33, .iconst 0, 1, 0, 0, 0, 0), (34, .istore 4, 2, 4, 0, 0, 0), (36, .iload 4, 2, 4, 0, 0, 0), (38, .aload_n 0, 1, 0, 0, 0, 0), (39, .invokevirtual 118, 3, 178, 11000, 0, 0), (42, .if_icmp .ge 115, 3, 157, 0, 0, 0), (45, .aload_n 0, 1, 0, 0, 0, 0), (46, .iload 4, 2, 4, 0, 0, 0), (48, .invokevirtual 252, 3, 185, 11010, 0, 0), (51, .iload_n 3, 1, 3, 0, 0, 0), (52, .if_icmp .ne 99, 3, 151, 0, 0, 0), (55, .aload_n 0, 1, 0, 0, 0, 0), (56, .iload 4, 2, 4, 0, 0, 0), (58, .iload_n 2, 1, 2, 0, 0, 0), (59, .invokevirtual 341, 3, 227, 11020, 0, 0), (62, .ifCond .ne 6, 3, 68, 0, 0, 0), (65, .goto 86, 3, 151, 0, 0, 0), (68, .aload_n 0, 1, 0, 0, 0, 0), (69, .iload 4, 2, 4, 0, 0, 0), (71, .invokevirtual 291, 3, 186, 11010, 0, 0)]
def cd250_1 : List am_E := [(74, .iconst (-1), 1, 0, 0, (-1), 0), (75, .if_icmp .ne 7, 3, 82, 0, 0, 0), (78, .iconst 1, 1, 0, 0, 1, 0), (79, .goto 35, 3, 114, 0, 0, 0), (82, .aload_n 0, 1, 0, 0, 0, 0), (83, .getfield 70, 3, 11, 34, 0, 0), (86, .aload_n 0, 1, 0, 0, 0, 0), (87, .iload 4, 2, 4, 0, 0, 0), (89, .invokevirtual 291, 3, 186, 11010, 0, 0), (92, .iaload, 1, 0, 0, 0, 0), (93, .iconst (-1), 1, 0, 0, (-1), 0), (94, .if_icmp .ne 7, 3, 101, 0, 0, 0), (97, .iconst (-1), 1, 0, 0, (-1), 0), (98, .goto 16, 3, 114, 0, 0, 0), (101, .aload_n 0, 1, 0, 0, 0, 0), (102, .getfield 70, 3, 11, 34, 0, 0), (105, .aload_n 0, 1, 0, 0, 0, 0), (106, .iload 4, 2, 4, 0, 0, 0), (108, .invokevirtual 291, 3, 186, 11010, 0, 0), (111, .iaload, 1, 0, 0, 0, 0), (112, .iconst 1, 1, 0, 0, 1, 0), (113, .iadd, 1, 0, 0, 0, 0), (114, .istore 5, 2, 5, 0, 0, 0), (116, .iload 5, 2, 5, 0, 0, 0), (118, .iconst (-1), 1, 0, 0, (-1), 0), (119, .if_icmp .eq 32, 3, 151, 0, 0, 0), (122, .aload_n 0, 1, 0, 0, 0, 0), (123, .getfield 70, 3, 11, 34, 0, 0), (126, .iload_n 3, 1, 3, 0, 0, 0), (127, .iaload, 1, 0, 0, 0, 0), (128, .iconst (-1), 1, 0, 0, (-1), 0), (129, .if_icmp .eq 14, 3, 143, 0, 0, 0), (132, .iload 5, 2, 5, 0, 0, 0), (134, .aload_n 0, 1, 0, 0, 0, 0), (135, .getfield 70, 3, 11, 34, 0, 0), (138, .iload_n 3, 1, 3, 0, 0, 0), (139, .iaload, 1, 0, 0, 0, 0), (140, .if_icmp .ge 11, 3, 151, 0, 0, 0), (143, .aload_n 0, 1, 0, 0, 0, 0), (144, .getfield 70, 3, 11, 34, 0, 0)]
def cd250_2 : List am_E := [(147, .iload_n 3, 1, 3, 0, 0, 0), (148, .iload 5, 2, 5, 0, 0, 0), (150, .iastore, 1, 0, 0, 0, 0), (151, .iinc 4 1, 3, 4, 0, 1, 0), (154, .goto (-118), 3, 36, 0, 0, 0), (157, .iinc 3 1, 3, 3, 0, 1, 0), (160, .goto (-139), 3, 21, 0, 0, 0), (163, .aload_n 0, 1, 0, 0, 0, 0), (164, .getfield 70, 3, 11, 34, 0, 0), (167, .iload_n 1, 1, 1, 0, 0, 0), (168, .iaload, 1, 0, 0, 0, 0), (169, .ireturn, 1, 0, 0, 0, 0)]
def cd250 : List am_E := cd250_0 ++ (cd250_1 ++ (cd250_2))
def am_w250 : List (List (Int32 × Nat) × Nat) := []
set_option maxRecDepth 100000 in
theorem kcd250_0 : cd250_0.all (am_chk am_w250 250) = true := by decide +kernel
set_option maxRecDepth 100000 in
theorem kcd250_1 : cd250_1.all (am_chk am_w250 250) = true := by decide +kernel
set_option maxRecDepth 100000 in
theorem kcd250_2 : cd250_2.all (am_chk am_w250 250) = true := by decide +kernel
theorem am_k250 : cd250.all (am_chk am_w250 250) = true := by
  simp only [cd250, List.all_append, kcd250_0, kcd250_1, kcd250_2, Bool.and_self]
theorem am_r250 : am_rtc 250 = 0 := by decide +kernel
theorem am_l250 : am_ml 250 = 6 := by decide +kernel
def am_s250_ (z : Nat) : Nat → List aV → aM → Option aR := (am_sm 178 (F178 z) (am_sm 182 (F182 z) (am_sm 185 (F185 z) (am_sm 186 (F186 z) (am_sm 226 (F226 z) (am_sm 227 (F227 z) am_s0))))))
theorem hs250 (z : Nat) : ∀ j2 : Nat, ∃ d2 : Nat, d2 + 1 ≤ 12 ∧ am_Snd d2 j2 (am_s250_ z j2) := (am_sm_ok (S178 z) (by decide) (am_sm_ok (S182 z) (by decide) (am_sm_ok (S185 z) (by decide) (am_sm_ok (S186 z) (by decide) (am_sm_ok (S226 z) (by decide) (am_sm_ok (S227 z) (by decide) (am_s0_ok (by decide))))))))
def f250_36 (z : Nat) (k21 : Int32 → Int32 → Int32 → aM → Option aR) : Nat → Int32 → Int32 → Int32 → Int32 → aM → Option aR
  | 0, _, _, _, _, _ => none
  | n + 1, x1, x2, x3, x4, M =>
    am_bi (f178 z M) fun v2 M1 =>
      if v2 ≤ x4 then
        k21 x1 x2 (x3 + (1 : Int32)) M1
      else
        am_bi (f185 z x4 M1) fun v4 M3 =>
          if ¬ v4 = x3 then
            f250_36 z k21 n x1 x2 x3 (x4 + (1 : Int32)) M3
          else
            am_bi (f227 z x4 x2 M3) fun v6 M5 =>
              if ¬ v6 = 0 then
                am_bi (f186 z x4 M5) fun v8 M7 =>
                  if ¬ v8 = (-1 : Int32) then
                    am_bi (f186 z x4 M7) fun v10 M9 =>
                      if am_inB v10 8 then
                        if ¬ (M9.1 224 v10.toNatClampNeg) = (-1 : Int32) then
                          am_bi (f186 z x4 M9) fun v12 M11 =>
                            if am_inB v12 8 then
                              if ((M11.1 224 v12.toNatClampNeg) + (1 : Int32)) = (-1 : Int32) then
                                f250_36 z k21 n x1 x2 x3 (x4 + (1 : Int32)) M11
                              else
                                if am_inB x3 8 then
                                  if (M11.1 224 x3.toNatClampNeg) = (-1 : Int32) then
                                    if am_inB x3 8 then
                                      let I13 := am_u M11.1 224 x3.toNatClampNeg ((M11.1 224 v12.toNatClampNeg) + (1 : Int32))
                                      f250_36 z k21 n x1 x2 x3 (x4 + (1 : Int32)) (I13, M11.2)
                                    else
                                      none
                                  else
                                    if am_inB x3 8 then
                                      if (M11.1 224 x3.toNatClampNeg) ≤ ((M11.1 224 v12.toNatClampNeg) + (1 : Int32)) then
                                        f250_36 z k21 n x1 x2 x3 (x4 + (1 : Int32)) M11
                                      else
                                        if am_inB x3 8 then
                                          let I14 := am_u M11.1 224 x3.toNatClampNeg ((M11.1 224 v12.toNatClampNeg) + (1 : Int32))
                                          f250_36 z k21 n x1 x2 x3 (x4 + (1 : Int32)) (I14, M11.2)
                                        else
                                          none
                                    else
                                      none
                                else
                                  none
                            else
                              none
                        else
                          if (-1 : Int32) = (-1 : Int32) then
                            f250_36 z k21 n x1 x2 x3 (x4 + (1 : Int32)) M9
                          else
                            if am_inB x3 8 then
                              if (M9.1 224 x3.toNatClampNeg) = (-1 : Int32) then
                                if am_inB x3 8 then
                                  let I15 := am_u M9.1 224 x3.toNatClampNeg (-1 : Int32)
                                  f250_36 z k21 n x1 x2 x3 (x4 + (1 : Int32)) (I15, M9.2)
                                else
                                  none
                              else
                                if am_inB x3 8 then
                                  if (M9.1 224 x3.toNatClampNeg) ≤ (-1 : Int32) then
                                    f250_36 z k21 n x1 x2 x3 (x4 + (1 : Int32)) M9
                                  else
                                    if am_inB x3 8 then
                                      let I16 := am_u M9.1 224 x3.toNatClampNeg (-1 : Int32)
                                      f250_36 z k21 n x1 x2 x3 (x4 + (1 : Int32)) (I16, M9.2)
                                    else
                                      none
                                else
                                  none
                            else
                              none
                      else
                        none
                  else
                    if (1 : Int32) = (-1 : Int32) then
                      f250_36 z k21 n x1 x2 x3 (x4 + (1 : Int32)) M7
                    else
                      if am_inB x3 8 then
                        if (M7.1 224 x3.toNatClampNeg) = (-1 : Int32) then
                          if am_inB x3 8 then
                            let I17 := am_u M7.1 224 x3.toNatClampNeg (1 : Int32)
                            f250_36 z k21 n x1 x2 x3 (x4 + (1 : Int32)) (I17, M7.2)
                          else
                            none
                        else
                          if am_inB x3 8 then
                            if (M7.1 224 x3.toNatClampNeg) ≤ (1 : Int32) then
                              f250_36 z k21 n x1 x2 x3 (x4 + (1 : Int32)) M7
                            else
                              if am_inB x3 8 then
                                let I18 := am_u M7.1 224 x3.toNatClampNeg (1 : Int32)
                                f250_36 z k21 n x1 x2 x3 (x4 + (1 : Int32)) (I18, M7.2)
                              else
                                none
                          else
                            none
                      else
                        none
              else
                f250_36 z k21 n x1 x2 x3 (x4 + (1 : Int32)) M5
set_option maxRecDepth 100000 in
set_option maxHeartbeats 4000000 in
theorem e250_36 (z : Nat) (k21 : Int32 → Int32 → Int32 → aM → Option aR) (hk21 : ∀ (x1 : Int32) (x2 : Int32) (x3 : Int32) (M : aM) (r : aR), k21 x1 x2 x3 M = some r → am_Ev 12 250 21 [some (.inr (.inr (11, 205))), some (.inl x1), some (.inl x2), some (.inl x3), none, none] [] M r) : ∀ (n : Nat) (x1 : Int32) (x2 : Int32) (x3 : Int32) (x4 : Int32) (M : aM) (r : aR), f250_36 z k21 n x1 x2 x3 x4 M = some r → am_Ev 12 250 36 [some (.inr (.inr (11, 205))), some (.inl x1), some (.inl x2), some (.inl x3), some (.inl x4), none] [] M r := by
  intro n
  induction n with
  | zero =>
    intro x1 x2 x3 x4 M r h
    cases h
  | succ n ih =>
    intro x1 x2 x3 x4 M r h
    exact am_Ev_seg (sem := am_s250_ z) (cut := ([(21, [true, true, true, true, false, false]), (36, [true, true, true, true, true, false])] : List (Nat × List Bool))) (hs250 z) am_r250 am_k250 (by rw [am_l250]; decide) (am_kc 21 (fun al st M => match al, st with
      | [some (.inr (.inr (11, 205))), some (.inl x1), some (.inl x2), some (.inl x3), none, none], [] => k21 x1 x2 x3 M
      | _, _ => none) (am_kc 36 (fun al st M => match al, st with
      | [some (.inr (.inr (11, 205))), some (.inl x1), some (.inl x2), some (.inl x3), some (.inl x4), none], [] => f250_36 z k21 n x1 x2 x3 x4 M
      | _, _ => none) am_k0)) 60 h (am_kc_ok (fun al st M hk => by
      split at hk
      · exact hk21 _ _ _ _ _ hk
      · cases hk) (am_kc_ok (fun al st M hk => by
      split at hk
      · exact ih _ _ _ _ _ _ hk
      · cases hk) am_k0_ok))
def f250_21 (z : Nat) : Nat → Int32 → Int32 → Int32 → aM → Option aR
  | 0, _, _, _, _ => none
  | n + 1, x1, x2, x3, M =>
    if x1 < x3 then
      if am_inB x1 8 then
        some (some (.inl (M.1 224 x1.toNatClampNeg)), M)
      else
        none
    else
      if am_inB x3 8 then
        let I1 := am_u M.1 224 x3.toNatClampNeg (-1 : Int32)
        f250_36 z (f250_21 z n) z x1 x2 x3 (0 : Int32) (I1, M.2)
      else
        none
set_option maxRecDepth 100000 in
set_option maxHeartbeats 4000000 in
theorem e250_21 (z : Nat) : ∀ (n : Nat) (x1 : Int32) (x2 : Int32) (x3 : Int32) (M : aM) (r : aR), f250_21 z n x1 x2 x3 M = some r → am_Ev 12 250 21 [some (.inr (.inr (11, 205))), some (.inl x1), some (.inl x2), some (.inl x3), none, none] [] M r := by
  intro n
  induction n with
  | zero =>
    intro x1 x2 x3 M r h
    cases h
  | succ n ih =>
    intro x1 x2 x3 M r h
    exact am_Ev_seg (sem := am_s250_ z) (cut := ([(36, [true, true, true, true, true, false])] : List (Nat × List Bool))) (hs250 z) am_r250 am_k250 (by rw [am_l250]; decide) (am_kc 36 (fun al st M => match al, st with
      | [some (.inr (.inr (11, 205))), some (.inl x1), some (.inl x2), some (.inl x3), some (.inl x4), none], [] => f250_36 z (f250_21 z n) z x1 x2 x3 x4 M
      | _, _ => none) am_k0) 12 h (am_kc_ok (fun al st M hk => by
      split at hk
      · exact e250_36 z _ ih _ _ _ _ _ _ _ hk
      · cases hk) am_k0_ok)
/-- ArgumentMenderModel.steps(II)I -/
def f250 (z : Nat) (x1 : Int32) (x2 : Int32) (M : aM) : Option aR :=
  am_bi (f226 z x2 M) fun v2 M1 =>
    if v2 = 0 then
      some (some (.inl (-2 : Int32)), M1)
    else
      am_bi (f182 z x1 M1) fun v4 M3 =>
        if ¬ v4 = 0 then
          f250_21 z z x1 x2 (0 : Int32) M3
        else
          some (some (.inl (-2 : Int32)), M3)
set_option maxRecDepth 100000 in
set_option maxHeartbeats 4000000 in
theorem e250 (z : Nat) : ∀ (x1 : Int32) (x2 : Int32) (M : aM) (r : aR), f250 z x1 x2 M = some r → am_Ev 12 250 0 [some (.inr (.inr (11, 205))), some (.inl x1), some (.inl x2), none, none, none] [] M r := by
  intro x1 x2 M r h
  exact am_Ev_seg (sem := am_s250_ z) (cut := ([(21, [true, true, true, true, false, false])] : List (Nat × List Bool))) (hs250 z) am_r250 am_k250 (by rw [am_l250]; decide) (am_kc 21 (fun al st M => match al, st with
      | [some (.inr (.inr (11, 205))), some (.inl x1), some (.inl x2), some (.inl x3), none, none], [] => f250_21 z z x1 x2 x3 M
      | _, _ => none) am_k0) 12 h (am_kc_ok (fun al st M hk => by
      split at hk
      · exact e250_21 z _ _ _ _ _ _ hk
      · cases hk) am_k0_ok)
def F250 (z : Nat) (as : List aV) (M : aM) : Option aR := match as with
  | [.inr (.inr (11, 205)), .inl x1, .inl x2] => f250 z x1 x2 M
  | _ => none
theorem S250 (z : Nat) : am_Snd 12 250 (F250 z) := am_meth (by decide +kernel) (fun as M r has h => by
    rw [am_l250]
    unfold F250 at h
    split at h
    · exact ⟨Nat.le_of_ble_eq_true rfl, e250 z _ _ _ _ h⟩
    · cases h)
def cd251_0 : List am_E := [(0, .aload_n 0, 1, 0, 0, 0, 0), (1, .invokevirtual 335, 3, 225, 11000, 0, 0), (4, .pop, 1, 0, 0, 0, 0), (5, .aload_n 0, 1, 0, 0, 0, 0), (6, .iload_n 1, 1, 1, 0, 0, 0), (7, .invokevirtual 245, 3, 184, 11010, 0, 0), (10, .ireturn, 1, 0, 0, 0, 0)]
def cd251 : List am_E := cd251_0
def am_w251 : List (List (Int32 × Nat) × Nat) := []
set_option maxRecDepth 100000 in
theorem kcd251_0 : cd251_0.all (am_chk am_w251 251) = true := by decide +kernel
theorem am_k251 : cd251.all (am_chk am_w251 251) = true := by
  simp only [cd251, List.all_append, kcd251_0, Bool.and_self]
theorem am_r251 : am_rtc 251 = 1 := by decide +kernel
theorem am_l251 : am_ml 251 = 2 := by decide +kernel
def am_s251_ (z : Nat) : Nat → List aV → aM → Option aR := (am_sm 184 (F184 z) (am_sm 225 (F225 z) am_s0))
theorem hs251 (z : Nat) : ∀ j2 : Nat, ∃ d2 : Nat, d2 + 1 ≤ 11 ∧ am_Snd d2 j2 (am_s251_ z j2) := (am_sm_ok (S184 z) (by decide) (am_sm_ok (S225 z) (by decide) (am_s0_ok (by decide))))
/-- ArgumentMenderModel.asksQuarrel(I)Z -/
def f251 (z : Nat) (x1 : Int32) (M : aM) : Option aR :=
  am_bi (f225 z M) fun v2 M1 =>
    am_bi (f184 z x1 M1) fun v4 M3 =>
      some (some (.inl (v4 &&& 1)), M3)
set_option maxRecDepth 100000 in
set_option maxHeartbeats 4000000 in
theorem e251 (z : Nat) : ∀ (x1 : Int32) (M : aM) (r : aR), f251 z x1 M = some r → am_Ev 11 251 0 [some (.inr (.inr (11, 205))), some (.inl x1)] [] M r := by
  intro x1 M r h
  exact am_Ev_seg (sem := am_s251_ z) (cut := ([] : List (Nat × List Bool))) (hs251 z) am_r251 am_k251 (by rw [am_l251]; decide) am_k0 8 h am_k0_ok
def F251 (z : Nat) (as : List aV) (M : aM) : Option aR := match as with
  | [.inr (.inr (11, 205)), .inl x1] => f251 z x1 M
  | _ => none
theorem S251 (z : Nat) : am_Snd 11 251 (F251 z) := am_meth (by decide +kernel) (fun as M r has h => by
    rw [am_l251]
    unfold F251 at h
    split at h
    · exact ⟨Nat.le_of_ble_eq_true rfl, e251 z _ _ _ h⟩
    · cases h)
def cd252_0 : List am_E := [(0, .aload_n 0, 1, 0, 0, 0, 0), (1, .getfield 58, 3, 11, 30, 0, 0), (4, .iload_n 1, 1, 1, 0, 0, 0), (5, .iaload, 1, 0, 0, 0, 0), (6, .ifCond .le 7, 3, 13, 0, 0, 0), (9, .iconst 1, 1, 0, 0, 1, 0), (10, .goto 4, 3, 14, 0, 0, 0), (13, .iconst 0, 1, 0, 0, 0, 0), (14, .ireturn, 1, 0, 0, 0, 0)]
def cd252 : List am_E := cd252_0
def am_w252 : List (List (Int32 × Nat) × Nat) := []
set_option maxRecDepth 100000 in
theorem kcd252_0 : cd252_0.all (am_chk am_w252 252) = true := by decide +kernel
theorem am_k252 : cd252.all (am_chk am_w252 252) = true := by
  simp only [cd252, List.all_append, kcd252_0, Bool.and_self]
theorem am_r252 : am_rtc 252 = 1 := by decide +kernel
theorem am_l252 : am_ml 252 = 2 := by decide +kernel
def am_s252_ (z : Nat) : Nat → List aV → aM → Option aR := am_s0
theorem hs252 (z : Nat) : ∀ j2 : Nat, ∃ d2 : Nat, d2 + 1 ≤ 1 ∧ am_Snd d2 j2 (am_s252_ z j2) := (am_s0_ok (by decide))
/-- ArgumentMenderModel.comes(I)Z -/
def f252 (z : Nat) (x1 : Int32) (M : aM) : Option aR :=
  if am_inB x1 10 then
    if (M.1 220 x1.toNatClampNeg) ≤ 0 then
      some (some (.inl ((0 : Int32) &&& 1)), M)
    else
      some (some (.inl ((1 : Int32) &&& 1)), M)
  else
    none
set_option maxRecDepth 100000 in
set_option maxHeartbeats 4000000 in
theorem e252 (z : Nat) : ∀ (x1 : Int32) (M : aM) (r : aR), f252 z x1 M = some r → am_Ev 1 252 0 [some (.inr (.inr (11, 205))), some (.inl x1)] [] M r := by
  intro x1 M r h
  exact am_Ev_seg (sem := am_s252_ z) (cut := ([] : List (Nat × List Bool))) (hs252 z) am_r252 am_k252 (by rw [am_l252]; decide) am_k0 9 h am_k0_ok
def F252 (z : Nat) (as : List aV) (M : aM) : Option aR := match as with
  | [.inr (.inr (11, 205)), .inl x1] => f252 z x1 M
  | _ => none
theorem S252 (z : Nat) : am_Snd 1 252 (F252 z) := am_meth (by decide +kernel) (fun as M r has h => by
    rw [am_l252]
    unfold F252 at h
    split at h
    · exact ⟨Nat.le_of_ble_eq_true rfl, e252 z _ _ _ h⟩
    · cases h)
def cd253_0 : List am_E := [(0, .aload_n 0, 1, 0, 0, 0, 0), (1, .iload_n 1, 1, 1, 0, 0, 0), (2, .invokevirtual 375, 3, 251, 11010, 0, 0), (5, .ifCond .eq 12, 3, 17, 0, 0, 0), (8, .aload_n 0, 1, 0, 0, 0, 0), (9, .iload_n 2, 1, 2, 0, 0, 0), (10, .i2l, 1, 0, 0, 0, 0), (11, .invokevirtual 241, 3, 183, 11010, 0, 0), (14, .ifCond .ne 6, 3, 20, 0, 0, 0), (17, .bipush (-2), 2, 0, 0, (-2), 0), (19, .ireturn, 1, 0, 0, 0, 0), (20, .aload_n 0, 1, 0, 0, 0, 0), (21, .iload_n 1, 1, 1, 0, 0, 0), (22, .invokevirtual 378, 3, 252, 11010, 0, 0), (25, .ifCond .eq 17, 3, 42, 0, 0, 0), (28, .aload_n 0, 1, 0, 0, 0, 0), (29, .getfield 55, 3, 11, 29, 0, 0), (32, .bipush 16, 2, 0, 0, 16, 0), (34, .iload_n 1, 1, 1, 0, 0, 0), (35, .imul, 1, 0, 0, 0, 0), (36, .iload_n 2, 1, 2, 0, 0, 0), (37, .iadd, 1, 0, 0, 0, 0), (38, .iaload, 1, 0, 0, 0, 0), (39, .goto 4, 3, 43, 0, 0, 0), (42, .iconst (-1), 1, 0, 0, (-1), 0), (43, .ireturn, 1, 0, 0, 0, 0)]
def cd253 : List am_E := cd253_0
def am_w253 : List (List (Int32 × Nat) × Nat) := []
set_option maxRecDepth 100000 in
theorem kcd253_0 : cd253_0.all (am_chk am_w253 253) = true := by decide +kernel
theorem am_k253 : cd253.all (am_chk am_w253 253) = true := by
  simp only [cd253, List.all_append, kcd253_0, Bool.and_self]
theorem am_r253 : am_rtc 253 = 0 := by decide +kernel
theorem am_l253 : am_ml 253 = 3 := by decide +kernel
def am_s253_ (z : Nat) : Nat → List aV → aM → Option aR := (am_sm 183 (F183 z) (am_sm 251 (F251 z) (am_sm 252 (F252 z) am_s0)))
theorem hs253 (z : Nat) : ∀ j2 : Nat, ∃ d2 : Nat, d2 + 1 ≤ 12 ∧ am_Snd d2 j2 (am_s253_ z j2) := (am_sm_ok (S183 z) (by decide) (am_sm_ok (S251 z) (by decide) (am_sm_ok (S252 z) (by decide) (am_s0_ok (by decide)))))
/-- ArgumentMenderModel.has(II)I -/
def f253 (z : Nat) (x1 : Int32) (x2 : Int32) (M : aM) : Option aR :=
  am_bi (f251 z x1 M) fun v2 M1 =>
    if v2 = 0 then
      some (some (.inl (-2 : Int32)), M1)
    else
      am_bi (f183 z (Int32.toInt64 x2) M1) fun v4 M3 =>
        if ¬ v4 = 0 then
          am_bi (f252 z x1 M3) fun v6 M5 =>
            if v6 = 0 then
              some (some (.inl (-1 : Int32)), M5)
            else
              if am_inB (((16 : Int32) * x1) + x2) 160 then
                some (some (.inl (M5.1 219 (((16 : Int32) * x1) + x2).toNatClampNeg)), M5)
              else
                none
        else
          some (some (.inl (-2 : Int32)), M3)
set_option maxRecDepth 100000 in
set_option maxHeartbeats 4000000 in
theorem e253 (z : Nat) : ∀ (x1 : Int32) (x2 : Int32) (M : aM) (r : aR), f253 z x1 x2 M = some r → am_Ev 12 253 0 [some (.inr (.inr (11, 205))), some (.inl x1), some (.inl x2)] [] M r := by
  intro x1 x2 M r h
  exact am_Ev_seg (sem := am_s253_ z) (cut := ([] : List (Nat × List Bool))) (hs253 z) am_r253 am_k253 (by rw [am_l253]; decide) am_k0 24 h am_k0_ok
def F253 (z : Nat) (as : List aV) (M : aM) : Option aR := match as with
  | [.inr (.inr (11, 205)), .inl x1, .inl x2] => f253 z x1 x2 M
  | _ => none
theorem S253 (z : Nat) : am_Snd 12 253 (F253 z) := am_meth (by decide +kernel) (fun as M r has h => by
    rw [am_l253]
    unfold F253 at h
    split at h
    · exact ⟨Nat.le_of_ble_eq_true rfl, e253 z _ _ _ _ h⟩
    · cases h)
def cd254_0 : List am_E := [(0, .aload_n 0, 1, 0, 0, 0, 0), (1, .iload_n 1, 1, 1, 0, 0, 0), (2, .invokevirtual 375, 3, 251, 11010, 0, 0), (5, .ifCond .eq 12, 3, 17, 0, 0, 0), (8, .aload_n 0, 1, 0, 0, 0, 0), (9, .getfield 58, 3, 11, 30, 0, 0), (12, .iload_n 1, 1, 1, 0, 0, 0), (13, .iaload, 1, 0, 0, 0, 0), (14, .goto 5, 3, 19, 0, 0, 0), (17, .bipush (-2), 2, 0, 0, (-2), 0), (19, .ireturn, 1, 0, 0, 0, 0)]
def cd254 : List am_E := cd254_0
def am_w254 : List (List (Int32 × Nat) × Nat) := []
set_option maxRecDepth 100000 in
theorem kcd254_0 : cd254_0.all (am_chk am_w254 254) = true := by decide +kernel
theorem am_k254 : cd254.all (am_chk am_w254 254) = true := by
  simp only [cd254, List.all_append, kcd254_0, Bool.and_self]
theorem am_r254 : am_rtc 254 = 0 := by decide +kernel
theorem am_l254 : am_ml 254 = 2 := by decide +kernel
def am_s254_ (z : Nat) : Nat → List aV → aM → Option aR := (am_sm 251 (F251 z) am_s0)
theorem hs254 (z : Nat) : ∀ j2 : Nat, ∃ d2 : Nat, d2 + 1 ≤ 12 ∧ am_Snd d2 j2 (am_s254_ z j2) := (am_sm_ok (S251 z) (by decide) (am_s0_ok (by decide)))
/-- ArgumentMenderModel.pulls(I)I -/
def f254 (z : Nat) (x1 : Int32) (M : aM) : Option aR :=
  am_bi (f251 z x1 M) fun v2 M1 =>
    if v2 = 0 then
      some (some (.inl (-2 : Int32)), M1)
    else
      if am_inB x1 10 then
        some (some (.inl (M1.1 220 x1.toNatClampNeg)), M1)
      else
        none
set_option maxRecDepth 100000 in
set_option maxHeartbeats 4000000 in
theorem e254 (z : Nat) : ∀ (x1 : Int32) (M : aM) (r : aR), f254 z x1 M = some r → am_Ev 12 254 0 [some (.inr (.inr (11, 205))), some (.inl x1)] [] M r := by
  intro x1 M r h
  exact am_Ev_seg (sem := am_s254_ z) (cut := ([] : List (Nat × List Bool))) (hs254 z) am_r254 am_k254 (by rw [am_l254]; decide) am_k0 11 h am_k0_ok
def F254 (z : Nat) (as : List aV) (M : aM) : Option aR := match as with
  | [.inr (.inr (11, 205)), .inl x1] => f254 z x1 M
  | _ => none
theorem S254 (z : Nat) : am_Snd 12 254 (F254 z) := am_meth (by decide +kernel) (fun as M r has h => by
    rw [am_l254]
    unfold F254 at h
    split at h
    · exact ⟨Nat.le_of_ble_eq_true rfl, e254 z _ _ _ h⟩
    · cases h)
def cd255_0 : List am_E := [(0, .aload_n 0, 1, 0, 0, 0, 0), (1, .iload_n 1, 1, 1, 0, 0, 0), (2, .invokevirtual 375, 3, 251, 11010, 0, 0), (5, .ifCond .eq 12, 3, 17, 0, 0, 0), (8, .aload_n 0, 1, 0, 0, 0, 0), (9, .getfield 61, 3, 11, 31, 0, 0), (12, .iload_n 1, 1, 1, 0, 0, 0), (13, .iaload, 1, 0, 0, 0, 0), (14, .goto 5, 3, 19, 0, 0, 0), (17, .bipush (-2), 2, 0, 0, (-2), 0), (19, .ireturn, 1, 0, 0, 0, 0)]
def cd255 : List am_E := cd255_0
def am_w255 : List (List (Int32 × Nat) × Nat) := []
set_option maxRecDepth 100000 in
theorem kcd255_0 : cd255_0.all (am_chk am_w255 255) = true := by decide +kernel
theorem am_k255 : cd255.all (am_chk am_w255 255) = true := by
  simp only [cd255, List.all_append, kcd255_0, Bool.and_self]
theorem am_r255 : am_rtc 255 = 0 := by decide +kernel
theorem am_l255 : am_ml 255 = 2 := by decide +kernel
def am_s255_ (z : Nat) : Nat → List aV → aM → Option aR := (am_sm 251 (F251 z) am_s0)
theorem hs255 (z : Nat) : ∀ j2 : Nat, ∃ d2 : Nat, d2 + 1 ≤ 12 ∧ am_Snd d2 j2 (am_s255_ z j2) := (am_sm_ok (S251 z) (by decide) (am_s0_ok (by decide)))
/-- ArgumentMenderModel.rips(I)I -/
def f255 (z : Nat) (x1 : Int32) (M : aM) : Option aR :=
  am_bi (f251 z x1 M) fun v2 M1 =>
    if v2 = 0 then
      some (some (.inl (-2 : Int32)), M1)
    else
      if am_inB x1 10 then
        some (some (.inl (M1.1 221 x1.toNatClampNeg)), M1)
      else
        none
set_option maxRecDepth 100000 in
set_option maxHeartbeats 4000000 in
theorem e255 (z : Nat) : ∀ (x1 : Int32) (M : aM) (r : aR), f255 z x1 M = some r → am_Ev 12 255 0 [some (.inr (.inr (11, 205))), some (.inl x1)] [] M r := by
  intro x1 M r h
  exact am_Ev_seg (sem := am_s255_ z) (cut := ([] : List (Nat × List Bool))) (hs255 z) am_r255 am_k255 (by rw [am_l255]; decide) am_k0 11 h am_k0_ok
def F255 (z : Nat) (as : List aV) (M : aM) : Option aR := match as with
  | [.inr (.inr (11, 205)), .inl x1] => f255 z x1 M
  | _ => none
theorem S255 (z : Nat) : am_Snd 12 255 (F255 z) := am_meth (by decide +kernel) (fun as M r has h => by
    rw [am_l255]
    unfold F255 at h
    split at h
    · exact ⟨Nat.le_of_ble_eq_true rfl, e255 z _ _ _ h⟩
    · cases h)
def cd256_0 : List am_E := [(0, .aload_n 0, 1, 0, 0, 0, 0), (1, .iload_n 1, 1, 1, 0, 0, 0), (2, .invokevirtual 375, 3, 251, 11010, 0, 0), (5, .ifCond .ne 6, 3, 11, 0, 0, 0), (8, .bipush (-2), 2, 0, 0, (-2), 0), (10, .ireturn, 1, 0, 0, 0, 0), (11, .aload_n 0, 1, 0, 0, 0, 0), (12, .iload_n 1, 1, 1, 0, 0, 0), (13, .invokevirtual 378, 3, 252, 11010, 0, 0), (16, .ifCond .eq 12, 3, 28, 0, 0, 0), (19, .aload_n 0, 1, 0, 0, 0, 0), (20, .getfield 64, 3, 11, 32, 0, 0), (23, .iload_n 1, 1, 1, 0, 0, 0), (24, .iaload, 1, 0, 0, 0, 0), (25, .goto 4, 3, 29, 0, 0, 0), (28, .iconst (-1), 1, 0, 0, (-1), 0), (29, .ireturn, 1, 0, 0, 0, 0)]
def cd256 : List am_E := cd256_0
def am_w256 : List (List (Int32 × Nat) × Nat) := []
set_option maxRecDepth 100000 in
theorem kcd256_0 : cd256_0.all (am_chk am_w256 256) = true := by decide +kernel
theorem am_k256 : cd256.all (am_chk am_w256 256) = true := by
  simp only [cd256, List.all_append, kcd256_0, Bool.and_self]
theorem am_r256 : am_rtc 256 = 0 := by decide +kernel
theorem am_l256 : am_ml 256 = 2 := by decide +kernel
def am_s256_ (z : Nat) : Nat → List aV → aM → Option aR := (am_sm 251 (F251 z) (am_sm 252 (F252 z) am_s0))
theorem hs256 (z : Nat) : ∀ j2 : Nat, ∃ d2 : Nat, d2 + 1 ≤ 12 ∧ am_Snd d2 j2 (am_s256_ z j2) := (am_sm_ok (S251 z) (by decide) (am_sm_ok (S252 z) (by decide) (am_s0_ok (by decide))))
/-- ArgumentMenderModel.through(I)I -/
def f256 (z : Nat) (x1 : Int32) (M : aM) : Option aR :=
  am_bi (f251 z x1 M) fun v2 M1 =>
    if ¬ v2 = 0 then
      am_bi (f252 z x1 M1) fun v4 M3 =>
        if v4 = 0 then
          some (some (.inl (-1 : Int32)), M3)
        else
          if am_inB x1 10 then
            some (some (.inl (M3.1 222 x1.toNatClampNeg)), M3)
          else
            none
    else
      some (some (.inl (-2 : Int32)), M1)
set_option maxRecDepth 100000 in
set_option maxHeartbeats 4000000 in
theorem e256 (z : Nat) : ∀ (x1 : Int32) (M : aM) (r : aR), f256 z x1 M = some r → am_Ev 12 256 0 [some (.inr (.inr (11, 205))), some (.inl x1)] [] M r := by
  intro x1 M r h
  exact am_Ev_seg (sem := am_s256_ z) (cut := ([] : List (Nat × List Bool))) (hs256 z) am_r256 am_k256 (by rw [am_l256]; decide) am_k0 15 h am_k0_ok
def F256 (z : Nat) (as : List aV) (M : aM) : Option aR := match as with
  | [.inr (.inr (11, 205)), .inl x1] => f256 z x1 M
  | _ => none
theorem S256 (z : Nat) : am_Snd 12 256 (F256 z) := am_meth (by decide +kernel) (fun as M r has h => by
    rw [am_l256]
    unfold F256 at h
    split at h
    · exact ⟨Nat.le_of_ble_eq_true rfl, e256 z _ _ _ h⟩
    · cases h)
def cd257_0 : List am_E := [(0, .aload_n 0, 1, 0, 0, 0, 0), (1, .iload_n 1, 1, 1, 0, 0, 0), (2, .invokevirtual 375, 3, 251, 11010, 0, 0), (5, .ifCond .ne 6, 3, 11, 0, 0, 0), (8, .bipush (-2), 2, 0, 0, (-2), 0), (10, .ireturn, 1, 0, 0, 0, 0), (11, .aload_n 0, 1, 0, 0, 0, 0), (12, .iload_n 1, 1, 1, 0, 0, 0), (13, .invokevirtual 378, 3, 252, 11010, 0, 0), (16, .ifCond .eq 12, 3, 28, 0, 0, 0), (19, .aload_n 0, 1, 0, 0, 0, 0), (20, .getfield 67, 3, 11, 33, 0, 0), (23, .iload_n 1, 1, 1, 0, 0, 0), (24, .iaload, 1, 0, 0, 0, 0), (25, .goto 4, 3, 29, 0, 0, 0), (28, .iconst (-1), 1, 0, 0, (-1), 0), (29, .ireturn, 1, 0, 0, 0, 0)]
def cd257 : List am_E := cd257_0
def am_w257 : List (List (Int32 × Nat) × Nat) := []
set_option maxRecDepth 100000 in
theorem kcd257_0 : cd257_0.all (am_chk am_w257 257) = true := by decide +kernel
theorem am_k257 : cd257.all (am_chk am_w257 257) = true := by
  simp only [cd257, List.all_append, kcd257_0, Bool.and_self]
theorem am_r257 : am_rtc 257 = 0 := by decide +kernel
theorem am_l257 : am_ml 257 = 2 := by decide +kernel
def am_s257_ (z : Nat) : Nat → List aV → aM → Option aR := (am_sm 251 (F251 z) (am_sm 252 (F252 z) am_s0))
theorem hs257 (z : Nat) : ∀ j2 : Nat, ∃ d2 : Nat, d2 + 1 ≤ 12 ∧ am_Snd d2 j2 (am_s257_ z j2) := (am_sm_ok (S251 z) (by decide) (am_sm_ok (S252 z) (by decide) (am_s0_ok (by decide))))
/-- ArgumentMenderModel.hem(I)I -/
def f257 (z : Nat) (x1 : Int32) (M : aM) : Option aR :=
  am_bi (f251 z x1 M) fun v2 M1 =>
    if ¬ v2 = 0 then
      am_bi (f252 z x1 M1) fun v4 M3 =>
        if v4 = 0 then
          some (some (.inl (-1 : Int32)), M3)
        else
          if am_inB x1 10 then
            some (some (.inl (M3.1 223 x1.toNatClampNeg)), M3)
          else
            none
    else
      some (some (.inl (-2 : Int32)), M1)
set_option maxRecDepth 100000 in
set_option maxHeartbeats 4000000 in
theorem e257 (z : Nat) : ∀ (x1 : Int32) (M : aM) (r : aR), f257 z x1 M = some r → am_Ev 12 257 0 [some (.inr (.inr (11, 205))), some (.inl x1)] [] M r := by
  intro x1 M r h
  exact am_Ev_seg (sem := am_s257_ z) (cut := ([] : List (Nat × List Bool))) (hs257 z) am_r257 am_k257 (by rw [am_l257]; decide) am_k0 15 h am_k0_ok
def F257 (z : Nat) (as : List aV) (M : aM) : Option aR := match as with
  | [.inr (.inr (11, 205)), .inl x1] => f257 z x1 M
  | _ => none
theorem S257 (z : Nat) : am_Snd 12 257 (F257 z) := am_meth (by decide +kernel) (fun as M r has h => by
    rw [am_l257]
    unfold F257 at h
    split at h
    · exact ⟨Nat.le_of_ble_eq_true rfl, e257 z _ _ _ h⟩
    · cases h)
def cd258_0 : List am_E := [(0, .aload_n 0, 1, 0, 0, 0, 0), (1, .invokevirtual 335, 3, 225, 11000, 0, 0), (4, .ifCond .ne 6, 3, 10, 0, 0, 0), (7, .bipush (-2), 2, 0, 0, (-2), 0), (9, .ireturn, 1, 0, 0, 0, 0), (10, .iconst 0, 1, 0, 0, 0, 0), (11, .istore_n 1, 1, 1, 0, 0, 0), (12, .iconst 0, 1, 0, 0, 0, 0), (13, .istore_n 2, 1, 2, 0, 0, 0), (14, .iload_n 2, 1, 2, 0, 0, 0), (15, .aload_n 0, 1, 0, 0, 0, 0), (16, .invokevirtual 121, 3, 179, 11000, 0, 0), (19, .if_icmp .ge 36, 3, 55, 0, 0, 0), (22, .iload_n 1, 1, 1, 0, 0, 0), (23, .aload_n 0, 1, 0, 0, 0, 0), (24, .iload_n 2, 1, 2, 0, 0, 0), (25, .invokevirtual 378, 3, 252, 11010, 0, 0), (28, .ifCond .eq 18, 3, 46, 0, 0, 0), (31, .aload_n 0, 1, 0, 0, 0, 0), (32, .getfield 64, 3, 11, 32, 0, 0), (35, .iload_n 2, 1, 2, 0, 0, 0), (36, .iaload, 1, 0, 0, 0, 0), (37, .ifCond .le 9, 3, 46, 0, 0, 0), (40, .iconst 1, 1, 0, 0, 1, 0), (41, .iload_n 2, 1, 2, 0, 0, 0), (42, .ishl, 1, 0, 0, 0, 0), (43, .goto 4, 3, 47, 0, 0, 0), (46, .iconst 0, 1, 0, 0, 0, 0), (47, .ior, 1, 0, 0, 0, 0), (48, .istore_n 1, 1, 1, 0, 0, 0), (49, .iinc 2 1, 3, 2, 0, 1, 0), (52, .goto (-38), 3, 14, 0, 0, 0), (55, .iload_n 1, 1, 1, 0, 0, 0), (56, .ireturn, 1, 0, 0, 0, 0)]
def cd258 : List am_E := cd258_0
def am_w258 : List (List (Int32 × Nat) × Nat) := []
set_option maxRecDepth 100000 in
theorem kcd258_0 : cd258_0.all (am_chk am_w258 258) = true := by decide +kernel
theorem am_k258 : cd258.all (am_chk am_w258 258) = true := by
  simp only [cd258, List.all_append, kcd258_0, Bool.and_self]
theorem am_r258 : am_rtc 258 = 0 := by decide +kernel
theorem am_l258 : am_ml 258 = 3 := by decide +kernel
def am_s258_ (z : Nat) : Nat → List aV → aM → Option aR := (am_sm 179 (F179 z) (am_sm 225 (F225 z) (am_sm 252 (F252 z) am_s0)))
theorem hs258 (z : Nat) : ∀ j2 : Nat, ∃ d2 : Nat, d2 + 1 ≤ 11 ∧ am_Snd d2 j2 (am_s258_ z j2) := (am_sm_ok (S179 z) (by decide) (am_sm_ok (S225 z) (by decide) (am_sm_ok (S252 z) (by decide) (am_s0_ok (by decide)))))
def f258_14 (z : Nat) : Nat → Int32 → Int32 → aM → Option aR
  | 0, _, _, _ => none
  | n + 1, x1, x2, M =>
    am_bi (f179 z M) fun v2 M1 =>
      if v2 ≤ x2 then
        some (some (.inl x1), M1)
      else
        am_bi (f252 z x2 M1) fun v4 M3 =>
          if v4 = 0 then
            f258_14 z n (x1 ||| (0 : Int32)) (x2 + (1 : Int32)) M3
          else
            if am_inB x2 10 then
              if (M3.1 222 x2.toNatClampNeg) ≤ 0 then
                f258_14 z n (x1 ||| (0 : Int32)) (x2 + (1 : Int32)) M3
              else
                f258_14 z n (x1 ||| ((1 : Int32) <<< (x2 &&& 31))) (x2 + (1 : Int32)) M3
            else
              none
set_option maxRecDepth 100000 in
set_option maxHeartbeats 4000000 in
theorem e258_14 (z : Nat) : ∀ (n : Nat) (x1 : Int32) (x2 : Int32) (M : aM) (r : aR), f258_14 z n x1 x2 M = some r → am_Ev 11 258 14 [some (.inr (.inr (11, 205))), some (.inl x1), some (.inl x2)] [] M r := by
  intro n
  induction n with
  | zero =>
    intro x1 x2 M r h
    cases h
  | succ n ih =>
    intro x1 x2 M r h
    exact am_Ev_seg (sem := am_s258_ z) (cut := ([(14, [true, true, true])] : List (Nat × List Bool))) (hs258 z) am_r258 am_k258 (by rw [am_l258]; decide) (am_kc 14 (fun al st M => match al, st with
      | [some (.inr (.inr (11, 205))), some (.inl x1), some (.inl x2)], [] => f258_14 z n x1 x2 M
      | _, _ => none) am_k0) 24 h (am_kc_ok (fun al st M hk => by
      split at hk
      · exact ih _ _ _ _ hk
      · cases hk) am_k0_ok)
/-- ArgumentMenderModel.loud()I -/
def f258 (z : Nat) (M : aM) : Option aR :=
  am_bi (f225 z M) fun v2 M1 =>
    if ¬ v2 = 0 then
      f258_14 z z (0 : Int32) (0 : Int32) M1
    else
      some (some (.inl (-2 : Int32)), M1)
set_option maxRecDepth 100000 in
set_option maxHeartbeats 4000000 in
theorem e258 (z : Nat) : ∀ (M : aM) (r : aR), f258 z  M = some r → am_Ev 11 258 0 [some (.inr (.inr (11, 205))), none, none] [] M r := by
  intro  M r h
  exact am_Ev_seg (sem := am_s258_ z) (cut := ([(14, [true, true, true])] : List (Nat × List Bool))) (hs258 z) am_r258 am_k258 (by rw [am_l258]; decide) (am_kc 14 (fun al st M => match al, st with
      | [some (.inr (.inr (11, 205))), some (.inl x1), some (.inl x2)], [] => f258_14 z z x1 x2 M
      | _, _ => none) am_k0) 9 h (am_kc_ok (fun al st M hk => by
      split at hk
      · exact e258_14 z _ _ _ _ _ hk
      · cases hk) am_k0_ok)
def F258 (z : Nat) (as : List aV) (M : aM) : Option aR := match as with
  | [.inr (.inr (11, 205))] => f258 z  M
  | _ => none
theorem S258 (z : Nat) : am_Snd 11 258 (F258 z) := am_meth (by decide +kernel) (fun as M r has h => by
    rw [am_l258]
    unfold F258 at h
    split at h
    · exact ⟨Nat.le_of_ble_eq_true rfl, e258 z _ _ h⟩
    · cases h)
def cd259_0 : List am_E := [(0, .aload_n 0, 1, 0, 0, 0, 0), (1, .invokevirtual 335, 3, 225, 11000, 0, 0), (4, .ifCond .ne 6, 3, 10, 0, 0, 0), (7, .bipush (-2), 2, 0, 0, (-2), 0), (9, .ireturn, 1, 0, 0, 0, 0), (10, .iconst (-1), 1, 0, 0, (-1), 0), (11, .istore_n 1, 1, 1, 0, 0, 0), (12, .iconst 0, 1, 0, 0, 0, 0), (13, .istore_n 2, 1, 2, 0, 0, 0), (14, .iload_n 2, 1, 2, 0, 0, 0), (15, .aload_n 0, 1, 0, 0, 0, 0), (16, .invokevirtual 121, 3, 179, 11000, 0, 0), (19, .if_icmp .ge 41, 3, 60, 0, 0, 0), (22, .aload_n 0, 1, 0, 0, 0, 0), (23, .getfield 61, 3, 11, 31, 0, 0), (26, .iload_n 2, 1, 2, 0, 0, 0), (27, .iaload, 1, 0, 0, 0, 0), (28, .invokestatic 372, 3, 171, 15, 0, 0), (31, .iload_n 1, 1, 1, 0, 0, 0), (32, .iconst (-1), 1, 0, 0, (-1), 0), (33, .if_icmp .ne 7, 3, 40, 0, 0, 0), (36, .iconst 0, 1, 0, 0, 0, 0), (37, .goto 12, 3, 49, 0, 0, 0), (40, .aload_n 0, 1, 0, 0, 0, 0), (41, .getfield 61, 3, 11, 31, 0, 0), (44, .iload_n 1, 1, 1, 0, 0, 0), (45, .iaload, 1, 0, 0, 0, 0), (46, .invokestatic 372, 3, 171, 15, 0, 0), (49, .if_icmp .le 5, 3, 54, 0, 0, 0), (52, .iload_n 2, 1, 2, 0, 0, 0), (53, .istore_n 1, 1, 1, 0, 0, 0), (54, .iinc 2 1, 3, 2, 0, 1, 0), (57, .goto (-43), 3, 14, 0, 0, 0), (60, .iload_n 1, 1, 1, 0, 0, 0), (61, .ireturn, 1, 0, 0, 0, 0)]
def cd259 : List am_E := cd259_0
def am_w259 : List (List (Int32 × Nat) × Nat) := []
set_option maxRecDepth 100000 in
theorem kcd259_0 : cd259_0.all (am_chk am_w259 259) = true := by decide +kernel
theorem am_k259 : cd259.all (am_chk am_w259 259) = true := by
  simp only [cd259, List.all_append, kcd259_0, Bool.and_self]
theorem am_r259 : am_rtc 259 = 0 := by decide +kernel
theorem am_l259 : am_ml 259 = 3 := by decide +kernel
def am_s259_ (z : Nat) : Nat → List aV → aM → Option aR := (am_sm 171 (F171 z) (am_sm 179 (F179 z) (am_sm 225 (F225 z) am_s0)))
theorem hs259 (z : Nat) : ∀ j2 : Nat, ∃ d2 : Nat, d2 + 1 ≤ 11 ∧ am_Snd d2 j2 (am_s259_ z j2) := (am_sm_ok (S171 z) (by decide) (am_sm_ok (S179 z) (by decide) (am_sm_ok (S225 z) (by decide) (am_s0_ok (by decide)))))
def f259_14 (z : Nat) : Nat → Int32 → Int32 → aM → Option aR
  | 0, _, _, _ => none
  | n + 1, x1, x2, M =>
    am_bi (f179 z M) fun v2 M1 =>
      if v2 ≤ x2 then
        some (some (.inl x1), M1)
      else
        if am_inB x2 10 then
          am_bi (f171 z (M1.1 221 x2.toNatClampNeg) M1) fun v4 M3 =>
            if ¬ x1 = (-1 : Int32) then
              if am_inB x1 10 then
                am_bi (f171 z (M3.1 221 x1.toNatClampNeg) M3) fun v6 M5 =>
                  if v4 ≤ v6 then
                    f259_14 z n x1 (x2 + (1 : Int32)) M5
                  else
                    f259_14 z n x2 (x2 + (1 : Int32)) M5
              else
                none
            else
              if v4 ≤ (0 : Int32) then
                f259_14 z n x1 (x2 + (1 : Int32)) M3
              else
                f259_14 z n x2 (x2 + (1 : Int32)) M3
        else
          none
set_option maxRecDepth 100000 in
set_option maxHeartbeats 4000000 in
theorem e259_14 (z : Nat) : ∀ (n : Nat) (x1 : Int32) (x2 : Int32) (M : aM) (r : aR), f259_14 z n x1 x2 M = some r → am_Ev 11 259 14 [some (.inr (.inr (11, 205))), some (.inl x1), some (.inl x2)] [] M r := by
  intro n
  induction n with
  | zero =>
    intro x1 x2 M r h
    cases h
  | succ n ih =>
    intro x1 x2 M r h
    exact am_Ev_seg (sem := am_s259_ z) (cut := ([(14, [true, true, true])] : List (Nat × List Bool))) (hs259 z) am_r259 am_k259 (by rw [am_l259]; decide) (am_kc 14 (fun al st M => match al, st with
      | [some (.inr (.inr (11, 205))), some (.inl x1), some (.inl x2)], [] => f259_14 z n x1 x2 M
      | _, _ => none) am_k0) 24 h (am_kc_ok (fun al st M hk => by
      split at hk
      · exact ih _ _ _ _ hk
      · cases hk) am_k0_ok)
/-- ArgumentMenderModel.worst()I -/
def f259 (z : Nat) (M : aM) : Option aR :=
  am_bi (f225 z M) fun v2 M1 =>
    if ¬ v2 = 0 then
      f259_14 z z (-1 : Int32) (0 : Int32) M1
    else
      some (some (.inl (-2 : Int32)), M1)
set_option maxRecDepth 100000 in
set_option maxHeartbeats 4000000 in
theorem e259 (z : Nat) : ∀ (M : aM) (r : aR), f259 z  M = some r → am_Ev 11 259 0 [some (.inr (.inr (11, 205))), none, none] [] M r := by
  intro  M r h
  exact am_Ev_seg (sem := am_s259_ z) (cut := ([(14, [true, true, true])] : List (Nat × List Bool))) (hs259 z) am_r259 am_k259 (by rw [am_l259]; decide) (am_kc 14 (fun al st M => match al, st with
      | [some (.inr (.inr (11, 205))), some (.inl x1), some (.inl x2)], [] => f259_14 z z x1 x2 M
      | _, _ => none) am_k0) 9 h (am_kc_ok (fun al st M hk => by
      split at hk
      · exact e259_14 z _ _ _ _ _ hk
      · cases hk) am_k0_ok)
def F259 (z : Nat) (as : List aV) (M : aM) : Option aR := match as with
  | [.inr (.inr (11, 205))] => f259 z  M
  | _ => none
theorem S259 (z : Nat) : am_Snd 11 259 (F259 z) := am_meth (by decide +kernel) (fun as M r has h => by
    rw [am_l259]
    unfold F259 at h
    split at h
    · exact ⟨Nat.le_of_ble_eq_true rfl, e259 z _ _ h⟩
    · cases h)
def cd260_0 : List am_E := [(0, .aload_n 0, 1, 0, 0, 0, 0), (1, .invokevirtual 335, 3, 225, 11000, 0, 0), (4, .pop, 1, 0, 0, 0, 0), (5, .aload_n 0, 1, 0, 0, 0, 0), (6, .iload_n 1, 1, 1, 0, 0, 0), (7, .i2l, 1, 0, 0, 0, 0), (8, .invokevirtual 241, 3, 183, 11010, 0, 0), (11, .ifCond .eq 12, 3, 23, 0, 0, 0), (14, .aload_n 0, 1, 0, 0, 0, 0), (15, .getfield 49, 3, 11, 27, 0, 0), (18, .iload_n 1, 1, 1, 0, 0, 0), (19, .iaload, 1, 0, 0, 0, 0), (20, .goto 5, 3, 25, 0, 0, 0), (23, .bipush (-2), 2, 0, 0, (-2), 0), (25, .ireturn, 1, 0, 0, 0, 0)]
def cd260 : List am_E := cd260_0
def am_w260 : List (List (Int32 × Nat) × Nat) := []
set_option maxRecDepth 100000 in
theorem kcd260_0 : cd260_0.all (am_chk am_w260 260) = true := by decide +kernel
theorem am_k260 : cd260.all (am_chk am_w260 260) = true := by
  simp only [cd260, List.all_append, kcd260_0, Bool.and_self]
theorem am_r260 : am_rtc 260 = 0 := by decide +kernel
theorem am_l260 : am_ml 260 = 2 := by decide +kernel
def am_s260_ (z : Nat) : Nat → List aV → aM → Option aR := (am_sm 183 (F183 z) (am_sm 225 (F225 z) am_s0))
theorem hs260 (z : Nat) : ∀ j2 : Nat, ∃ d2 : Nat, d2 + 1 ≤ 11 ∧ am_Snd d2 j2 (am_s260_ z j2) := (am_sm_ok (S183 z) (by decide) (am_sm_ok (S225 z) (by decide) (am_s0_ok (by decide))))
/-- ArgumentMenderModel.bears(I)I -/
def f260 (z : Nat) (x1 : Int32) (M : aM) : Option aR :=
  am_bi (f225 z M) fun v2 M1 =>
    am_bi (f183 z (Int32.toInt64 x1) M1) fun v4 M3 =>
      if v4 = 0 then
        some (some (.inl (-2 : Int32)), M3)
      else
        if am_inB x1 16 then
          some (some (.inl (M3.1 217 x1.toNatClampNeg)), M3)
        else
          none
set_option maxRecDepth 100000 in
set_option maxHeartbeats 4000000 in
theorem e260 (z : Nat) : ∀ (x1 : Int32) (M : aM) (r : aR), f260 z x1 M = some r → am_Ev 11 260 0 [some (.inr (.inr (11, 205))), some (.inl x1)] [] M r := by
  intro x1 M r h
  exact am_Ev_seg (sem := am_s260_ z) (cut := ([] : List (Nat × List Bool))) (hs260 z) am_r260 am_k260 (by rw [am_l260]; decide) am_k0 15 h am_k0_ok
def F260 (z : Nat) (as : List aV) (M : aM) : Option aR := match as with
  | [.inr (.inr (11, 205)), .inl x1] => f260 z x1 M
  | _ => none
theorem S260 (z : Nat) : am_Snd 11 260 (F260 z) := am_meth (by decide +kernel) (fun as M r has h => by
    rw [am_l260]
    unfold F260 at h
    split at h
    · exact ⟨Nat.le_of_ble_eq_true rfl, e260 z _ _ _ h⟩
    · cases h)
def cd261_0 : List am_E := [(0, .aload_n 0, 1, 0, 0, 0, 0), (1, .invokevirtual 335, 3, 225, 11000, 0, 0), (4, .pop, 1, 0, 0, 0, 0), (5, .aload_n 0, 1, 0, 0, 0, 0), (6, .iload_n 1, 1, 1, 0, 0, 0), (7, .i2l, 1, 0, 0, 0, 0), (8, .invokevirtual 241, 3, 183, 11010, 0, 0), (11, .ifCond .eq 12, 3, 23, 0, 0, 0), (14, .aload_n 0, 1, 0, 0, 0, 0), (15, .getfield 46, 3, 11, 26, 0, 0), (18, .iload_n 1, 1, 1, 0, 0, 0), (19, .iaload, 1, 0, 0, 0, 0), (20, .goto 5, 3, 25, 0, 0, 0), (23, .bipush (-2), 2, 0, 0, (-2), 0), (25, .ireturn, 1, 0, 0, 0, 0)]
def cd261 : List am_E := cd261_0
def am_w261 : List (List (Int32 × Nat) × Nat) := []
set_option maxRecDepth 100000 in
theorem kcd261_0 : cd261_0.all (am_chk am_w261 261) = true := by decide +kernel
theorem am_k261 : cd261.all (am_chk am_w261 261) = true := by
  simp only [cd261, List.all_append, kcd261_0, Bool.and_self]
theorem am_r261 : am_rtc 261 = 0 := by decide +kernel
theorem am_l261 : am_ml 261 = 2 := by decide +kernel
def am_s261_ (z : Nat) : Nat → List aV → aM → Option aR := (am_sm 183 (F183 z) (am_sm 225 (F225 z) am_s0))
theorem hs261 (z : Nat) : ∀ j2 : Nat, ∃ d2 : Nat, d2 + 1 ≤ 11 ∧ am_Snd d2 j2 (am_s261_ z j2) := (am_sm_ok (S183 z) (by decide) (am_sm_ok (S225 z) (by decide) (am_s0_ok (by decide))))
/-- ArgumentMenderModel.worn(I)I -/
def f261 (z : Nat) (x1 : Int32) (M : aM) : Option aR :=
  am_bi (f225 z M) fun v2 M1 =>
    am_bi (f183 z (Int32.toInt64 x1) M1) fun v4 M3 =>
      if v4 = 0 then
        some (some (.inl (-2 : Int32)), M3)
      else
        if am_inB x1 16 then
          some (some (.inl (M3.1 216 x1.toNatClampNeg)), M3)
        else
          none
set_option maxRecDepth 100000 in
set_option maxHeartbeats 4000000 in
theorem e261 (z : Nat) : ∀ (x1 : Int32) (M : aM) (r : aR), f261 z x1 M = some r → am_Ev 11 261 0 [some (.inr (.inr (11, 205))), some (.inl x1)] [] M r := by
  intro x1 M r h
  exact am_Ev_seg (sem := am_s261_ z) (cut := ([] : List (Nat × List Bool))) (hs261 z) am_r261 am_k261 (by rw [am_l261]; decide) am_k0 15 h am_k0_ok
def F261 (z : Nat) (as : List aV) (M : aM) : Option aR := match as with
  | [.inr (.inr (11, 205)), .inl x1] => f261 z x1 M
  | _ => none
theorem S261 (z : Nat) : am_Snd 11 261 (F261 z) := am_meth (by decide +kernel) (fun as M r has h => by
    rw [am_l261]
    unfold F261 at h
    split at h
    · exact ⟨Nat.le_of_ble_eq_true rfl, e261 z _ _ _ h⟩
    · cases h)
def cd262_0 : List am_E := [(0, .aload_n 0, 1, 0, 0, 0, 0), (1, .invokevirtual 335, 3, 225, 11000, 0, 0), (4, .ifCond .ne 6, 3, 10, 0, 0, 0), (7, .bipush (-2), 2, 0, 0, (-2), 0), (9, .ireturn, 1, 0, 0, 0, 0), (10, .iconst 0, 1, 0, 0, 0, 0), (11, .istore_n 1, 1, 1, 0, 0, 0), (12, .iconst 0, 1, 0, 0, 0, 0), (13, .istore_n 2, 1, 2, 0, 0, 0), (14, .iload_n 2, 1, 2, 0, 0, 0), (15, .aload_n 0, 1, 0, 0, 0, 0), (16, .invokevirtual 118, 3, 178, 11000, 0, 0), (19, .if_icmp .ge 28, 3, 47, 0, 0, 0), (22, .iload_n 1, 1, 1, 0, 0, 0), (23, .aload_n 0, 1, 0, 0, 0, 0), (24, .getfield 49, 3, 11, 27, 0, 0), (27, .iload_n 2, 1, 2, 0, 0, 0), (28, .iaload, 1, 0, 0, 0, 0), (29, .ifCond .ne 9, 3, 38, 0, 0, 0), (32, .iconst 1, 1, 0, 0, 1, 0), (33, .iload_n 2, 1, 2, 0, 0, 0), (34, .ishl, 1, 0, 0, 0, 0), (35, .goto 4, 3, 39, 0, 0, 0), (38, .iconst 0, 1, 0, 0, 0, 0), (39, .ior, 1, 0, 0, 0, 0), (40, .istore_n 1, 1, 1, 0, 0, 0), (41, .iinc 2 1, 3, 2, 0, 1, 0), (44, .goto (-30), 3, 14, 0, 0, 0), (47, .iload_n 1, 1, 1, 0, 0, 0), (48, .ireturn, 1, 0, 0, 0, 0)]
def cd262 : List am_E := cd262_0
def am_w262 : List (List (Int32 × Nat) × Nat) := []
set_option maxRecDepth 100000 in
theorem kcd262_0 : cd262_0.all (am_chk am_w262 262) = true := by decide +kernel
theorem am_k262 : cd262.all (am_chk am_w262 262) = true := by
  simp only [cd262, List.all_append, kcd262_0, Bool.and_self]
theorem am_r262 : am_rtc 262 = 0 := by decide +kernel
theorem am_l262 : am_ml 262 = 3 := by decide +kernel
def am_s262_ (z : Nat) : Nat → List aV → aM → Option aR := (am_sm 178 (F178 z) (am_sm 225 (F225 z) am_s0))
theorem hs262 (z : Nat) : ∀ j2 : Nat, ∃ d2 : Nat, d2 + 1 ≤ 11 ∧ am_Snd d2 j2 (am_s262_ z j2) := (am_sm_ok (S178 z) (by decide) (am_sm_ok (S225 z) (by decide) (am_s0_ok (by decide))))
def f262_14 (z : Nat) : Nat → Int32 → Int32 → aM → Option aR
  | 0, _, _, _ => none
  | n + 1, x1, x2, M =>
    am_bi (f178 z M) fun v2 M1 =>
      if v2 ≤ x2 then
        some (some (.inl x1), M1)
      else
        if am_inB x2 16 then
          if ¬ (M1.1 217 x2.toNatClampNeg) = 0 then
            f262_14 z n (x1 ||| (0 : Int32)) (x2 + (1 : Int32)) M1
          else
            f262_14 z n (x1 ||| ((1 : Int32) <<< (x2 &&& 31))) (x2 + (1 : Int32)) M1
        else
          none
set_option maxRecDepth 100000 in
set_option maxHeartbeats 4000000 in
theorem e262_14 (z : Nat) : ∀ (n : Nat) (x1 : Int32) (x2 : Int32) (M : aM) (r : aR), f262_14 z n x1 x2 M = some r → am_Ev 11 262 14 [some (.inr (.inr (11, 205))), some (.inl x1), some (.inl x2)] [] M r := by
  intro n
  induction n with
  | zero =>
    intro x1 x2 M r h
    cases h
  | succ n ih =>
    intro x1 x2 M r h
    exact am_Ev_seg (sem := am_s262_ z) (cut := ([(14, [true, true, true])] : List (Nat × List Bool))) (hs262 z) am_r262 am_k262 (by rw [am_l262]; decide) (am_kc 14 (fun al st M => match al, st with
      | [some (.inr (.inr (11, 205))), some (.inl x1), some (.inl x2)], [] => f262_14 z n x1 x2 M
      | _, _ => none) am_k0) 20 h (am_kc_ok (fun al st M hk => by
      split at hk
      · exact ih _ _ _ _ hk
      · cases hk) am_k0_ok)
/-- ArgumentMenderModel.idle()I -/
def f262 (z : Nat) (M : aM) : Option aR :=
  am_bi (f225 z M) fun v2 M1 =>
    if ¬ v2 = 0 then
      f262_14 z z (0 : Int32) (0 : Int32) M1
    else
      some (some (.inl (-2 : Int32)), M1)
set_option maxRecDepth 100000 in
set_option maxHeartbeats 4000000 in
theorem e262 (z : Nat) : ∀ (M : aM) (r : aR), f262 z  M = some r → am_Ev 11 262 0 [some (.inr (.inr (11, 205))), none, none] [] M r := by
  intro  M r h
  exact am_Ev_seg (sem := am_s262_ z) (cut := ([(14, [true, true, true])] : List (Nat × List Bool))) (hs262 z) am_r262 am_k262 (by rw [am_l262]; decide) (am_kc 14 (fun al st M => match al, st with
      | [some (.inr (.inr (11, 205))), some (.inl x1), some (.inl x2)], [] => f262_14 z z x1 x2 M
      | _, _ => none) am_k0) 9 h (am_kc_ok (fun al st M hk => by
      split at hk
      · exact e262_14 z _ _ _ _ _ hk
      · cases hk) am_k0_ok)
def F262 (z : Nat) (as : List aV) (M : aM) : Option aR := match as with
  | [.inr (.inr (11, 205))] => f262 z  M
  | _ => none
theorem S262 (z : Nat) : am_Snd 11 262 (F262 z) := am_meth (by decide +kernel) (fun as M r has h => by
    rw [am_l262]
    unfold F262 at h
    split at h
    · exact ⟨Nat.le_of_ble_eq_true rfl, e262 z _ _ h⟩
    · cases h)
def cd263_0 : List am_E := [(0, .iconst 0, 1, 0, 0, 0, 0), (1, .istore 4, 2, 4, 0, 0, 0), (3, .iload 4, 2, 4, 0, 0, 0), (5, .bipush 16, 2, 0, 0, 16, 0), (7, .if_icmp .ge 23, 3, 30, 0, 0, 0), (10, .aload_n 0, 1, 0, 0, 0, 0), (11, .getfield 37, 3, 11, 19, 0, 0), (14, .iload 4, 2, 4, 0, 0, 0), (16, .aload_n 0, 1, 0, 0, 0, 0), (17, .iload 4, 2, 4, 0, 0, 0), (19, .iload_n 3, 1, 3, 0, 0, 0), (20, .invokevirtual 341, 3, 227, 11020, 0, 0), (23, .iastore, 1, 0, 0, 0, 0), (24, .iinc 4 1, 3, 4, 0, 1, 0), (27, .goto (-24), 3, 3, 0, 0, 0), (30, .aload_n 0, 1, 0, 0, 0, 0), (31, .iload_n 1, 1, 1, 0, 0, 0), (32, .iload_n 2, 1, 2, 0, 0, 0), (33, .invokevirtual 320, 3, 220, 11024, 0, 0), (36, .return_, 1, 0, 0, 0, 0)]
def cd263 : List am_E := cd263_0
def am_w263 : List (List (Int32 × Nat) × Nat) := []
set_option maxRecDepth 100000 in
theorem kcd263_0 : cd263_0.all (am_chk am_w263 263) = true := by decide +kernel
theorem am_k263 : cd263.all (am_chk am_w263 263) = true := by
  simp only [cd263, List.all_append, kcd263_0, Bool.and_self]
theorem am_r263 : am_rtc 263 = 4 := by decide +kernel
theorem am_l263 : am_ml 263 = 5 := by decide +kernel
def am_s263_ (z : Nat) : Nat → List aV → aM → Option aR := (am_sm 220 (F220 z) (am_sm 227 (F227 z) am_s0))
theorem hs263 (z : Nat) : ∀ j2 : Nat, ∃ d2 : Nat, d2 + 1 ≤ 8 ∧ am_Snd d2 j2 (am_s263_ z j2) := (am_sm_ok (S220 z) (by decide) (am_sm_ok (S227 z) (by decide) (am_s0_ok (by decide))))
def f263_3 (z : Nat) : Nat → Int32 → Int32 → Int32 → Int32 → aM → Option aR
  | 0, _, _, _, _, _ => none
  | n + 1, x1, x2, x3, x4, M =>
    if (16 : Int32) ≤ x4 then
      am_bv (f220 z x1 x2 M) fun M1 =>
        some (none, M1)
    else
      am_bi (f227 z x4 x3 M) fun v3 M2 =>
        if am_inB x4 16 then
          let I4 := am_u M2.1 213 x4.toNatClampNeg v3
          f263_3 z n x1 x2 x3 (x4 + (1 : Int32)) (I4, M2.2)
        else
          none
set_option maxRecDepth 100000 in
set_option maxHeartbeats 4000000 in
theorem e263_3 (z : Nat) : ∀ (n : Nat) (x1 : Int32) (x2 : Int32) (x3 : Int32) (x4 : Int32) (M : aM) (r : aR), f263_3 z n x1 x2 x3 x4 M = some r → am_Ev 8 263 3 [some (.inr (.inr (11, 205))), some (.inl x1), some (.inl x2), some (.inl x3), some (.inl x4)] [] M r := by
  intro n
  induction n with
  | zero =>
    intro x1 x2 x3 x4 M r h
    cases h
  | succ n ih =>
    intro x1 x2 x3 x4 M r h
    exact am_Ev_seg (sem := am_s263_ z) (cut := ([(3, [true, true, true, true, true])] : List (Nat × List Bool))) (hs263 z) am_r263 am_k263 (by rw [am_l263]; decide) (am_kc 3 (fun al st M => match al, st with
      | [some (.inr (.inr (11, 205))), some (.inl x1), some (.inl x2), some (.inl x3), some (.inl x4)], [] => f263_3 z n x1 x2 x3 x4 M
      | _, _ => none) am_k0) 15 h (am_kc_ok (fun al st M hk => by
      split at hk
      · exact ih _ _ _ _ _ _ hk
      · cases hk) am_k0_ok)
/-- ArgumentMenderModel.tryOn(III)V -/
def f263 (z : Nat) (x1 : Int32) (x2 : Int32) (x3 : Int32) (M : aM) : Option aR :=
  f263_3 z z x1 x2 x3 (0 : Int32) M
set_option maxRecDepth 100000 in
set_option maxHeartbeats 4000000 in
theorem e263 (z : Nat) : ∀ (x1 : Int32) (x2 : Int32) (x3 : Int32) (M : aM) (r : aR), f263 z x1 x2 x3 M = some r → am_Ev 8 263 0 [some (.inr (.inr (11, 205))), some (.inl x1), some (.inl x2), some (.inl x3), none] [] M r := by
  intro x1 x2 x3 M r h
  exact am_Ev_seg (sem := am_s263_ z) (cut := ([(3, [true, true, true, true, true])] : List (Nat × List Bool))) (hs263 z) am_r263 am_k263 (by rw [am_l263]; decide) (am_kc 3 (fun al st M => match al, st with
      | [some (.inr (.inr (11, 205))), some (.inl x1), some (.inl x2), some (.inl x3), some (.inl x4)], [] => f263_3 z z x1 x2 x3 x4 M
      | _, _ => none) am_k0) 4 h (am_kc_ok (fun al st M hk => by
      split at hk
      · exact e263_3 z _ _ _ _ _ _ _ hk
      · cases hk) am_k0_ok)
def F263 (z : Nat) (as : List aV) (M : aM) : Option aR := match as with
  | [.inr (.inr (11, 205)), .inl x1, .inl x2, .inl x3] => f263 z x1 x2 x3 M
  | _ => none
theorem S263 (z : Nat) : am_Snd 8 263 (F263 z) := am_meth (by decide +kernel) (fun as M r has h => by
    rw [am_l263]
    unfold F263 at h
    split at h
    · exact ⟨Nat.le_of_ble_eq_true rfl, e263 z _ _ _ _ _ h⟩
    · cases h)
def cd264_0 : List am_E := [(0, .aload_n 0, 1, 0, 0, 0, 0), (1, .iload_n 3, 1, 3, 0, 0, 0), (2, .invokevirtual 356, 3, 226, 11010, 0, 0), (5, .ifCond .eq 23, 3, 28, 0, 0, 0), (8, .aload_n 0, 1, 0, 0, 0, 0), (9, .iload_n 1, 1, 1, 0, 0, 0), (10, .invokevirtual 255, 3, 182, 11010, 0, 0), (13, .ifCond .eq 15, 3, 28, 0, 0, 0), (16, .iload_n 2, 1, 2, 0, 0, 0), (17, .i2l, 1, 0, 0, 0, 0), (18, .lconst 1, 1, 0, 0, 0, 1), (19, .ldc2_w 381, 3, 0, 0, 0, 200), (22, .invokestatic 103, 3, 170, 35, 0, 0), (25, .ifCond .ne 5, 3, 30, 0, 0, 0), (28, .iconst 0, 1, 0, 0, 0, 0), (29, .ireturn, 1, 0, 0, 0, 0), (30, .aload_n 0, 1, 0, 0, 0, 0), (31, .iload_n 1, 1, 1, 0, 0, 0), (32, .iload_n 2, 1, 2, 0, 0, 0), (33, .iload_n 3, 1, 3, 0, 0, 0), (34, .invokevirtual 383, 3, 263, 11034, 0, 0), (37, .iconst 1, 1, 0, 0, 1, 0), (38, .ireturn, 1, 0, 0, 0, 0)]
def cd264 : List am_E := cd264_0
def am_w264 : List (List (Int32 × Nat) × Nat) := []
set_option maxRecDepth 100000 in
theorem kcd264_0 : cd264_0.all (am_chk am_w264 264) = true := by decide +kernel
theorem am_k264 : cd264.all (am_chk am_w264 264) = true := by
  simp only [cd264, List.all_append, kcd264_0, Bool.and_self]
theorem am_r264 : am_rtc 264 = 1 := by decide +kernel
theorem am_l264 : am_ml 264 = 4 := by decide +kernel
def am_s264_ (z : Nat) : Nat → List aV → aM → Option aR := (am_sm 170 (F170 z) (am_sm 182 (F182 z) (am_sm 226 (F226 z) (am_sm 263 (F263 z) am_s0))))
theorem hs264 (z : Nat) : ∀ j2 : Nat, ∃ d2 : Nat, d2 + 1 ≤ 12 ∧ am_Snd d2 j2 (am_s264_ z j2) := (am_sm_ok (S170 z) (by decide) (am_sm_ok (S182 z) (by decide) (am_sm_ok (S226 z) (by decide) (am_sm_ok (S263 z) (by decide) (am_s0_ok (by decide))))))
/-- ArgumentMenderModel.asksTry(III)Z -/
def f264 (z : Nat) (x1 : Int32) (x2 : Int32) (x3 : Int32) (M : aM) : Option aR :=
  am_bi (f226 z x3 M) fun v2 M1 =>
    if v2 = 0 then
      some (some (.inl ((0 : Int32) &&& 1)), M1)
    else
      am_bi (f182 z x1 M1) fun v4 M3 =>
        if v4 = 0 then
          some (some (.inl ((0 : Int32) &&& 1)), M3)
        else
          am_bi (f170 z (Int32.toInt64 x2) (1 : Int64) (200 : Int64) M3) fun v6 M5 =>
            if ¬ v6 = 0 then
              am_bv (f263 z x1 x2 x3 M5) fun M7 =>
                some (some (.inl ((1 : Int32) &&& 1)), M7)
            else
              some (some (.inl ((0 : Int32) &&& 1)), M5)
set_option maxRecDepth 100000 in
set_option maxHeartbeats 4000000 in
theorem e264 (z : Nat) : ∀ (x1 : Int32) (x2 : Int32) (x3 : Int32) (M : aM) (r : aR), f264 z x1 x2 x3 M = some r → am_Ev 12 264 0 [some (.inr (.inr (11, 205))), some (.inl x1), some (.inl x2), some (.inl x3)] [] M r := by
  intro x1 x2 x3 M r h
  exact am_Ev_seg (sem := am_s264_ z) (cut := ([] : List (Nat × List Bool))) (hs264 z) am_r264 am_k264 (by rw [am_l264]; decide) am_k0 22 h am_k0_ok
def F264 (z : Nat) (as : List aV) (M : aM) : Option aR := match as with
  | [.inr (.inr (11, 205)), .inl x1, .inl x2, .inl x3] => f264 z x1 x2 x3 M
  | _ => none
theorem S264 (z : Nat) : am_Snd 12 264 (F264 z) := am_meth (by decide +kernel) (fun as M r has h => by
    rw [am_l264]
    unfold F264 at h
    split at h
    · exact ⟨Nat.le_of_ble_eq_true rfl, e264 z _ _ _ _ _ h⟩
    · cases h)
def cd265_0 : List am_E := [(0, .aload_n 0, 1, 0, 0, 0, 0), (1, .iload_n 1, 1, 1, 0, 0, 0), (2, .iload_n 2, 1, 2, 0, 0, 0), (3, .iload_n 3, 1, 3, 0, 0, 0), (4, .invokevirtual 386, 3, 264, 11030, 0, 0), (7, .ifCond .eq 13, 3, 20, 0, 0, 0), (10, .aload_n 0, 1, 0, 0, 0, 0), (11, .getfield 306, 3, 11, 25, 0, 0), (14, .invokestatic 372, 3, 171, 15, 0, 0), (17, .goto 5, 3, 22, 0, 0, 0), (20, .bipush (-2), 2, 0, 0, (-2), 0), (22, .ireturn, 1, 0, 0, 0, 0)]
def cd265 : List am_E := cd265_0
def am_w265 : List (List (Int32 × Nat) × Nat) := []
set_option maxRecDepth 100000 in
theorem kcd265_0 : cd265_0.all (am_chk am_w265 265) = true := by decide +kernel
theorem am_k265 : cd265.all (am_chk am_w265 265) = true := by
  simp only [cd265, List.all_append, kcd265_0, Bool.and_self]
theorem am_r265 : am_rtc 265 = 0 := by decide +kernel
theorem am_l265 : am_ml 265 = 4 := by decide +kernel
def am_s265_ (z : Nat) : Nat → List aV → aM → Option aR := (am_sm 171 (F171 z) (am_sm 264 (F264 z) am_s0))
theorem hs265 (z : Nat) : ∀ j2 : Nat, ∃ d2 : Nat, d2 + 1 ≤ 13 ∧ am_Snd d2 j2 (am_s265_ z j2) := (am_sm_ok (S171 z) (by decide) (am_sm_ok (S264 z) (by decide) (am_s0_ok (by decide))))
/-- ArgumentMenderModel.tries(III)I -/
def f265 (z : Nat) (x1 : Int32) (x2 : Int32) (x3 : Int32) (M : aM) : Option aR :=
  am_bi (f264 z x1 x2 x3 M) fun v2 M1 =>
    if v2 = 0 then
      some (some (.inl (-2 : Int32)), M1)
    else
      am_bi (f171 z (M1.1 205 25) M1) fun v4 M3 =>
        some (some (.inl v4), M3)
set_option maxRecDepth 100000 in
set_option maxHeartbeats 4000000 in
theorem e265 (z : Nat) : ∀ (x1 : Int32) (x2 : Int32) (x3 : Int32) (M : aM) (r : aR), f265 z x1 x2 x3 M = some r → am_Ev 13 265 0 [some (.inr (.inr (11, 205))), some (.inl x1), some (.inl x2), some (.inl x3)] [] M r := by
  intro x1 x2 x3 M r h
  exact am_Ev_seg (sem := am_s265_ z) (cut := ([] : List (Nat × List Bool))) (hs265 z) am_r265 am_k265 (by rw [am_l265]; decide) am_k0 12 h am_k0_ok
def F265 (z : Nat) (as : List aV) (M : aM) : Option aR := match as with
  | [.inr (.inr (11, 205)), .inl x1, .inl x2, .inl x3] => f265 z x1 x2 x3 M
  | _ => none
theorem S265 (z : Nat) : am_Snd 13 265 (F265 z) := am_meth (by decide +kernel) (fun as M r has h => by
    rw [am_l265]
    unfold F265 at h
    split at h
    · exact ⟨Nat.le_of_ble_eq_true rfl, e265 z _ _ _ _ _ h⟩
    · cases h)
def cd266_0 : List am_E := [(0, .aload_n 0, 1, 0, 0, 0, 0), (1, .iload_n 1, 1, 1, 0, 0, 0), (2, .iload_n 2, 1, 2, 0, 0, 0), (3, .iload_n 3, 1, 3, 0, 0, 0), (4, .invokevirtual 386, 3, 264, 11030, 0, 0), (7, .ifCond .eq 23, 3, 30, 0, 0, 0), (10, .aload_n 0, 1, 0, 0, 0, 0), (11, .iload 4, 2, 4, 0, 0, 0), (13, .i2l, 1, 0, 0, 0, 0), (14, .invokevirtual 241, 3, 183, 11010, 0, 0), (17, .ifCond .eq 13, 3, 30, 0, 0, 0), (20, .aload_n 0, 1, 0, 0, 0, 0), (21, .getfield 40, 3, 11, 20, 0, 0), (24, .iload 4, 2, 4, 0, 0, 0), (26, .iaload, 1, 0, 0, 0, 0), (27, .goto 5, 3, 32, 0, 0, 0), (30, .bipush (-2), 2, 0, 0, (-2), 0), (32, .ireturn, 1, 0, 0, 0, 0)]
def cd266 : List am_E := cd266_0
def am_w266 : List (List (Int32 × Nat) × Nat) := []
set_option maxRecDepth 100000 in
theorem kcd266_0 : cd266_0.all (am_chk am_w266 266) = true := by decide +kernel
theorem am_k266 : cd266.all (am_chk am_w266 266) = true := by
  simp only [cd266, List.all_append, kcd266_0, Bool.and_self]
theorem am_r266 : am_rtc 266 = 0 := by decide +kernel
theorem am_l266 : am_ml 266 = 5 := by decide +kernel
def am_s266_ (z : Nat) : Nat → List aV → aM → Option aR := (am_sm 183 (F183 z) (am_sm 264 (F264 z) am_s0))
theorem hs266 (z : Nat) : ∀ j2 : Nat, ∃ d2 : Nat, d2 + 1 ≤ 13 ∧ am_Snd d2 j2 (am_s266_ z j2) := (am_sm_ok (S183 z) (by decide) (am_sm_ok (S264 z) (by decide) (am_s0_ok (by decide))))
/-- ArgumentMenderModel.would(IIII)I -/
def f266 (z : Nat) (x1 : Int32) (x2 : Int32) (x3 : Int32) (x4 : Int32) (M : aM) : Option aR :=
  am_bi (f264 z x1 x2 x3 M) fun v2 M1 =>
    if v2 = 0 then
      some (some (.inl (-2 : Int32)), M1)
    else
      am_bi (f183 z (Int32.toInt64 x4) M1) fun v4 M3 =>
        if v4 = 0 then
          some (some (.inl (-2 : Int32)), M3)
        else
          if am_inB x4 16 then
            some (some (.inl (M3.1 214 x4.toNatClampNeg)), M3)
          else
            none
set_option maxRecDepth 100000 in
set_option maxHeartbeats 4000000 in
theorem e266 (z : Nat) : ∀ (x1 : Int32) (x2 : Int32) (x3 : Int32) (x4 : Int32) (M : aM) (r : aR), f266 z x1 x2 x3 x4 M = some r → am_Ev 13 266 0 [some (.inr (.inr (11, 205))), some (.inl x1), some (.inl x2), some (.inl x3), some (.inl x4)] [] M r := by
  intro x1 x2 x3 x4 M r h
  exact am_Ev_seg (sem := am_s266_ z) (cut := ([] : List (Nat × List Bool))) (hs266 z) am_r266 am_k266 (by rw [am_l266]; decide) am_k0 18 h am_k0_ok
def F266 (z : Nat) (as : List aV) (M : aM) : Option aR := match as with
  | [.inr (.inr (11, 205)), .inl x1, .inl x2, .inl x3, .inl x4] => f266 z x1 x2 x3 x4 M
  | _ => none
theorem S266 (z : Nat) : am_Snd 13 266 (F266 z) := am_meth (by decide +kernel) (fun as M r has h => by
    rw [am_l266]
    unfold F266 at h
    split at h
    · exact ⟨Nat.le_of_ble_eq_true rfl, e266 z _ _ _ _ _ _ h⟩
    · cases h)
def cd267_0 : List am_E := [(0, .aload_n 0, 1, 0, 0, 0, 0), (1, .iload_n 1, 1, 1, 0, 0, 0), (2, .iload_n 2, 1, 2, 0, 0, 0), (3, .iload_n 3, 1, 3, 0, 0, 0), (4, .invokevirtual 386, 3, 264, 11030, 0, 0), (7, .ifCond .eq 10, 3, 17, 0, 0, 0), (10, .aload_n 0, 1, 0, 0, 0, 0), (11, .getfield 278, 3, 11, 22, 0, 0), (14, .goto 5, 3, 19, 0, 0, 0), (17, .bipush (-2), 2, 0, 0, (-2), 0), (19, .ireturn, 1, 0, 0, 0, 0)]
def cd267 : List am_E := cd267_0
def am_w267 : List (List (Int32 × Nat) × Nat) := []
set_option maxRecDepth 100000 in
theorem kcd267_0 : cd267_0.all (am_chk am_w267 267) = true := by decide +kernel
theorem am_k267 : cd267.all (am_chk am_w267 267) = true := by
  simp only [cd267, List.all_append, kcd267_0, Bool.and_self]
theorem am_r267 : am_rtc 267 = 0 := by decide +kernel
theorem am_l267 : am_ml 267 = 4 := by decide +kernel
def am_s267_ (z : Nat) : Nat → List aV → aM → Option aR := (am_sm 264 (F264 z) am_s0)
theorem hs267 (z : Nat) : ∀ j2 : Nat, ∃ d2 : Nat, d2 + 1 ≤ 13 ∧ am_Snd d2 j2 (am_s267_ z j2) := (am_sm_ok (S264 z) (by decide) (am_s0_ok (by decide)))
/-- ArgumentMenderModel.lets(III)I -/
def f267 (z : Nat) (x1 : Int32) (x2 : Int32) (x3 : Int32) (M : aM) : Option aR :=
  am_bi (f264 z x1 x2 x3 M) fun v2 M1 =>
    if v2 = 0 then
      some (some (.inl (-2 : Int32)), M1)
    else
      some (some (.inl (M1.1 205 22)), M1)
set_option maxRecDepth 100000 in
set_option maxHeartbeats 4000000 in
theorem e267 (z : Nat) : ∀ (x1 : Int32) (x2 : Int32) (x3 : Int32) (M : aM) (r : aR), f267 z x1 x2 x3 M = some r → am_Ev 13 267 0 [some (.inr (.inr (11, 205))), some (.inl x1), some (.inl x2), some (.inl x3)] [] M r := by
  intro x1 x2 x3 M r h
  exact am_Ev_seg (sem := am_s267_ z) (cut := ([] : List (Nat × List Bool))) (hs267 z) am_r267 am_k267 (by rw [am_l267]; decide) am_k0 11 h am_k0_ok
def F267 (z : Nat) (as : List aV) (M : aM) : Option aR := match as with
  | [.inr (.inr (11, 205)), .inl x1, .inl x2, .inl x3] => f267 z x1 x2 x3 M
  | _ => none
theorem S267 (z : Nat) : am_Snd 13 267 (F267 z) := am_meth (by decide +kernel) (fun as M r has h => by
    rw [am_l267]
    unfold F267 at h
    split at h
    · exact ⟨Nat.le_of_ble_eq_true rfl, e267 z _ _ _ _ _ h⟩
    · cases h)
def cd268_0 : List am_E := [(0, .iconst 1, 1, 0, 0, 1, 0), (1, .istore 4, 2, 4, 0, 0, 0), (3, .iload 4, 2, 4, 0, 0, 0), (5, .sipush 200, 3, 0, 0, 200, 0), (8, .if_icmp .gt 38, 3, 46, 0, 0, 0), (11, .aload_n 0, 1, 0, 0, 0, 0), (12, .iload_n 1, 1, 1, 0, 0, 0), (13, .iload 4, 2, 4, 0, 0, 0), (15, .iload_n 2, 1, 2, 0, 0, 0), (16, .invokevirtual 383, 3, 263, 11034, 0, 0), (19, .aload_n 0, 1, 0, 0, 0, 0), (20, .getfield 278, 3, 11, 22, 0, 0), (23, .ifCond .gt 14, 3, 37, 0, 0, 0), (26, .iload_n 3, 1, 3, 0, 0, 0), (27, .ifCond .ne 13, 3, 40, 0, 0, 0), (30, .aload_n 0, 1, 0, 0, 0, 0), (31, .getfield 306, 3, 11, 25, 0, 0), (34, .ifCond .eq 6, 3, 40, 0, 0, 0), (37, .iload 4, 2, 4, 0, 0, 0), (39, .ireturn, 1, 0, 0, 0, 0), (40, .iinc 4 1, 3, 4, 0, 1, 0), (43, .goto (-40), 3, 3, 0, 0, 0), (46, .sipush 201, 3, 0, 0, 201, 0), (49, .ireturn, 1, 0, 0, 0, 0)]
def cd268 : List am_E := cd268_0
def am_w268 : List (List (Int32 × Nat) × Nat) := []
set_option maxRecDepth 100000 in
theorem kcd268_0 : cd268_0.all (am_chk am_w268 268) = true := by decide +kernel
theorem am_k268 : cd268.all (am_chk am_w268 268) = true := by
  simp only [cd268, List.all_append, kcd268_0, Bool.and_self]
theorem am_r268 : am_rtc 268 = 0 := by decide +kernel
theorem am_l268 : am_ml 268 = 5 := by decide +kernel
def am_s268_ (z : Nat) : Nat → List aV → aM → Option aR := (am_sm 263 (F263 z) am_s0)
theorem hs268 (z : Nat) : ∀ j2 : Nat, ∃ d2 : Nat, d2 + 1 ≤ 9 ∧ am_Snd d2 j2 (am_s268_ z j2) := (am_sm_ok (S263 z) (by decide) (am_s0_ok (by decide)))
def f268_3 (z : Nat) : Nat → Int32 → Int32 → Int32 → Int32 → aM → Option aR
  | 0, _, _, _, _, _ => none
  | n + 1, x1, x2, x3, x4, M =>
    if (200 : Int32) < x4 then
      some (some (.inl (201 : Int32)), M)
    else
      am_bv (f263 z x1 x4 x2 M) fun M1 =>
        if 0 < (M1.1 205 22) then
          some (some (.inl x4), M1)
        else
          if ¬ x3 = 0 then
            f268_3 z n x1 x2 x3 (x4 + (1 : Int32)) M1
          else
            if (M1.1 205 25) = 0 then
              f268_3 z n x1 x2 x3 (x4 + (1 : Int32)) M1
            else
              some (some (.inl x4), M1)
set_option maxRecDepth 100000 in
set_option maxHeartbeats 4000000 in
theorem e268_3 (z : Nat) : ∀ (n : Nat) (x1 : Int32) (x2 : Int32) (x3 : Int32) (x4 : Int32) (M : aM) (r : aR), f268_3 z n x1 x2 x3 x4 M = some r → am_Ev 9 268 3 [some (.inr (.inr (11, 205))), some (.inl x1), some (.inl x2), some (.inl x3), some (.inl x4)] [] M r := by
  intro n
  induction n with
  | zero =>
    intro x1 x2 x3 x4 M r h
    cases h
  | succ n ih =>
    intro x1 x2 x3 x4 M r h
    exact am_Ev_seg (sem := am_s268_ z) (cut := ([(3, [true, true, true, true, true])] : List (Nat × List Bool))) (hs268 z) am_r268 am_k268 (by rw [am_l268]; decide) (am_kc 3 (fun al st M => match al, st with
      | [some (.inr (.inr (11, 205))), some (.inl x1), some (.inl x2), some (.inl x3), some (.inl x4)], [] => f268_3 z n x1 x2 x3 x4 M
      | _, _ => none) am_k0) 20 h (am_kc_ok (fun al st M hk => by
      split at hk
      · exact ih _ _ _ _ _ _ hk
      · cases hk) am_k0_ok)
/-- ArgumentMenderModel.gateOf(IIZ)I -/
def f268 (z : Nat) (x1 : Int32) (x2 : Int32) (x3 : Int32) (M : aM) : Option aR :=
  f268_3 z z x1 x2 x3 (1 : Int32) M
set_option maxRecDepth 100000 in
set_option maxHeartbeats 4000000 in
theorem e268 (z : Nat) : ∀ (x1 : Int32) (x2 : Int32) (x3 : Int32) (M : aM) (r : aR), f268 z x1 x2 x3 M = some r → am_Ev 9 268 0 [some (.inr (.inr (11, 205))), some (.inl x1), some (.inl x2), some (.inl x3), none] [] M r := by
  intro x1 x2 x3 M r h
  exact am_Ev_seg (sem := am_s268_ z) (cut := ([(3, [true, true, true, true, true])] : List (Nat × List Bool))) (hs268 z) am_r268 am_k268 (by rw [am_l268]; decide) (am_kc 3 (fun al st M => match al, st with
      | [some (.inr (.inr (11, 205))), some (.inl x1), some (.inl x2), some (.inl x3), some (.inl x4)], [] => f268_3 z z x1 x2 x3 x4 M
      | _, _ => none) am_k0) 4 h (am_kc_ok (fun al st M hk => by
      split at hk
      · exact e268_3 z _ _ _ _ _ _ _ hk
      · cases hk) am_k0_ok)
def F268 (z : Nat) (as : List aV) (M : aM) : Option aR := match as with
  | [.inr (.inr (11, 205)), .inl x1, .inl x2, .inl x3] => f268 z x1 x2 x3 M
  | _ => none
theorem S268 (z : Nat) : am_Snd 9 268 (F268 z) := am_meth (by decide +kernel) (fun as M r has h => by
    rw [am_l268]
    unfold F268 at h
    split at h
    · exact ⟨Nat.le_of_ble_eq_true rfl, e268 z _ _ _ _ _ h⟩
    · cases h)
def cd269_0 : List am_E := [(0, .iload_n 0, 1, 0, 0, 0, 0), (1, .iload_n 1, 1, 1, 0, 0, 0), (2, .if_icmp .le 7, 3, 9, 0, 0, 0), (5, .iconst (-1), 1, 0, 0, (-1), 0), (6, .goto 4, 3, 10, 0, 0, 0), (9, .iload_n 0, 1, 0, 0, 0, 0), (10, .ireturn, 1, 0, 0, 0, 0)]
def cd269 : List am_E := cd269_0
def am_w269 : List (List (Int32 × Nat) × Nat) := []
set_option maxRecDepth 100000 in
theorem kcd269_0 : cd269_0.all (am_chk am_w269 269) = true := by decide +kernel
theorem am_k269 : cd269.all (am_chk am_w269 269) = true := by
  simp only [cd269, List.all_append, kcd269_0, Bool.and_self]
theorem am_r269 : am_rtc 269 = 0 := by decide +kernel
theorem am_l269 : am_ml 269 = 2 := by decide +kernel
def am_s269_ (z : Nat) : Nat → List aV → aM → Option aR := am_s0
theorem hs269 (z : Nat) : ∀ j2 : Nat, ∃ d2 : Nat, d2 + 1 ≤ 1 ∧ am_Snd d2 j2 (am_s269_ z j2) := (am_s0_ok (by decide))
/-- ArgumentMenderModel.orNone(II)I -/
def f269 (z : Nat) (x0 : Int32) (x1 : Int32) (M : aM) : Option aR :=
  if x0 ≤ x1 then
    some (some (.inl x0), M)
  else
    some (some (.inl (-1 : Int32)), M)
set_option maxRecDepth 100000 in
set_option maxHeartbeats 4000000 in
theorem e269 (z : Nat) : ∀ (x0 : Int32) (x1 : Int32) (M : aM) (r : aR), f269 z x0 x1 M = some r → am_Ev 1 269 0 [some (.inl x0), some (.inl x1)] [] M r := by
  intro x0 x1 M r h
  exact am_Ev_seg (sem := am_s269_ z) (cut := ([] : List (Nat × List Bool))) (hs269 z) am_r269 am_k269 (by rw [am_l269]; decide) am_k0 7 h am_k0_ok
def F269 (z : Nat) (as : List aV) (M : aM) : Option aR := match as with
  | [.inl x0, .inl x1] => f269 z x0 x1 M
  | _ => none
theorem S269 (z : Nat) : am_Snd 1 269 (F269 z) := am_meth (by decide +kernel) (fun as M r has h => by
    rw [am_l269]
    unfold F269 at h
    split at h
    · exact ⟨Nat.le_of_ble_eq_true rfl, e269 z _ _ _ _ h⟩
    · cases h)
def cd270_0 : List am_E := [(0, .aload_n 0, 1, 0, 0, 0, 0), (1, .iload_n 2, 1, 2, 0, 0, 0), (2, .invokevirtual 356, 3, 226, 11010, 0, 0), (5, .ifCond .eq 27, 3, 32, 0, 0, 0), (8, .aload_n 0, 1, 0, 0, 0, 0), (9, .iload_n 1, 1, 1, 0, 0, 0), (10, .invokevirtual 255, 3, 182, 11010, 0, 0), (13, .ifCond .eq 19, 3, 32, 0, 0, 0), (16, .aload_n 0, 1, 0, 0, 0, 0), (17, .iload_n 1, 1, 1, 0, 0, 0), (18, .iload_n 2, 1, 2, 0, 0, 0), (19, .iconst 0, 1, 0, 0, 0, 0), (20, .invokevirtual 390, 3, 268, 11030, 0, 0), (23, .sipush 200, 3, 0, 0, 200, 0), (26, .invokestatic 394, 3, 269, 25, 0, 0), (29, .goto 5, 3, 34, 0, 0, 0), (32, .bipush (-2), 2, 0, 0, (-2), 0), (34, .ireturn, 1, 0, 0, 0, 0)]
def cd270 : List am_E := cd270_0
def am_w270 : List (List (Int32 × Nat) × Nat) := []
set_option maxRecDepth 100000 in
theorem kcd270_0 : cd270_0.all (am_chk am_w270 270) = true := by decide +kernel
theorem am_k270 : cd270.all (am_chk am_w270 270) = true := by
  simp only [cd270, List.all_append, kcd270_0, Bool.and_self]
theorem am_r270 : am_rtc 270 = 0 := by decide +kernel
theorem am_l270 : am_ml 270 = 3 := by decide +kernel
def am_s270_ (z : Nat) : Nat → List aV → aM → Option aR := (am_sm 182 (F182 z) (am_sm 226 (F226 z) (am_sm 268 (F268 z) (am_sm 269 (F269 z) am_s0))))
theorem hs270 (z : Nat) : ∀ j2 : Nat, ∃ d2 : Nat, d2 + 1 ≤ 12 ∧ am_Snd d2 j2 (am_s270_ z j2) := (am_sm_ok (S182 z) (by decide) (am_sm_ok (S226 z) (by decide) (am_sm_ok (S268 z) (by decide) (am_sm_ok (S269 z) (by decide) (am_s0_ok (by decide))))))
/-- ArgumentMenderModel.gate(II)I -/
def f270 (z : Nat) (x1 : Int32) (x2 : Int32) (M : aM) : Option aR :=
  am_bi (f226 z x2 M) fun v2 M1 =>
    if v2 = 0 then
      some (some (.inl (-2 : Int32)), M1)
    else
      am_bi (f182 z x1 M1) fun v4 M3 =>
        if v4 = 0 then
          some (some (.inl (-2 : Int32)), M3)
        else
          am_bi (f268 z x1 x2 (0 : Int32) M3) fun v6 M5 =>
            am_bi (f269 z v6 (200 : Int32) M5) fun v8 M7 =>
              some (some (.inl v8), M7)
set_option maxRecDepth 100000 in
set_option maxHeartbeats 4000000 in
theorem e270 (z : Nat) : ∀ (x1 : Int32) (x2 : Int32) (M : aM) (r : aR), f270 z x1 x2 M = some r → am_Ev 12 270 0 [some (.inr (.inr (11, 205))), some (.inl x1), some (.inl x2)] [] M r := by
  intro x1 x2 M r h
  exact am_Ev_seg (sem := am_s270_ z) (cut := ([] : List (Nat × List Bool))) (hs270 z) am_r270 am_k270 (by rw [am_l270]; decide) am_k0 18 h am_k0_ok
def F270 (z : Nat) (as : List aV) (M : aM) : Option aR := match as with
  | [.inr (.inr (11, 205)), .inl x1, .inl x2] => f270 z x1 x2 M
  | _ => none
theorem S270 (z : Nat) : am_Snd 12 270 (F270 z) := am_meth (by decide +kernel) (fun as M r has h => by
    rw [am_l270]
    unfold F270 at h
    split at h
    · exact ⟨Nat.le_of_ble_eq_true rfl, e270 z _ _ _ _ h⟩
    · cases h)
def cd271_0 : List am_E := [(0, .aload_n 0, 1, 0, 0, 0, 0), (1, .iload_n 2, 1, 2, 0, 0, 0), (2, .invokevirtual 356, 3, 226, 11010, 0, 0), (5, .ifCond .eq 27, 3, 32, 0, 0, 0), (8, .aload_n 0, 1, 0, 0, 0, 0), (9, .iload_n 1, 1, 1, 0, 0, 0), (10, .invokevirtual 255, 3, 182, 11010, 0, 0), (13, .ifCond .eq 19, 3, 32, 0, 0, 0), (16, .aload_n 0, 1, 0, 0, 0, 0), (17, .iload_n 1, 1, 1, 0, 0, 0), (18, .iload_n 2, 1, 2, 0, 0, 0), (19, .iconst 1, 1, 0, 0, 1, 0), (20, .invokevirtual 390, 3, 268, 11030, 0, 0), (23, .sipush 200, 3, 0, 0, 200, 0), (26, .invokestatic 394, 3, 269, 25, 0, 0), (29, .goto 5, 3, 34, 0, 0, 0), (32, .bipush (-2), 2, 0, 0, (-2), 0), (34, .ireturn, 1, 0, 0, 0, 0)]
def cd271 : List am_E := cd271_0
def am_w271 : List (List (Int32 × Nat) × Nat) := []
set_option maxRecDepth 100000 in
theorem kcd271_0 : cd271_0.all (am_chk am_w271 271) = true := by decide +kernel
theorem am_k271 : cd271.all (am_chk am_w271 271) = true := by
  simp only [cd271, List.all_append, kcd271_0, Bool.and_self]
theorem am_r271 : am_rtc 271 = 0 := by decide +kernel
theorem am_l271 : am_ml 271 = 3 := by decide +kernel
def am_s271_ (z : Nat) : Nat → List aV → aM → Option aR := (am_sm 182 (F182 z) (am_sm 226 (F226 z) (am_sm 268 (F268 z) (am_sm 269 (F269 z) am_s0))))
theorem hs271 (z : Nat) : ∀ j2 : Nat, ∃ d2 : Nat, d2 + 1 ≤ 12 ∧ am_Snd d2 j2 (am_s271_ z j2) := (am_sm_ok (S182 z) (by decide) (am_sm_ok (S226 z) (by decide) (am_sm_ok (S268 z) (by decide) (am_sm_ok (S269 z) (by decide) (am_s0_ok (by decide))))))
/-- ArgumentMenderModel.bursts(II)I -/
def f271 (z : Nat) (x1 : Int32) (x2 : Int32) (M : aM) : Option aR :=
  am_bi (f226 z x2 M) fun v2 M1 =>
    if v2 = 0 then
      some (some (.inl (-2 : Int32)), M1)
    else
      am_bi (f182 z x1 M1) fun v4 M3 =>
        if v4 = 0 then
          some (some (.inl (-2 : Int32)), M3)
        else
          am_bi (f268 z x1 x2 (1 : Int32) M3) fun v6 M5 =>
            am_bi (f269 z v6 (200 : Int32) M5) fun v8 M7 =>
              some (some (.inl v8), M7)
set_option maxRecDepth 100000 in
set_option maxHeartbeats 4000000 in
theorem e271 (z : Nat) : ∀ (x1 : Int32) (x2 : Int32) (M : aM) (r : aR), f271 z x1 x2 M = some r → am_Ev 12 271 0 [some (.inr (.inr (11, 205))), some (.inl x1), some (.inl x2)] [] M r := by
  intro x1 x2 M r h
  exact am_Ev_seg (sem := am_s271_ z) (cut := ([] : List (Nat × List Bool))) (hs271 z) am_r271 am_k271 (by rw [am_l271]; decide) am_k0 18 h am_k0_ok
def F271 (z : Nat) (as : List aV) (M : aM) : Option aR := match as with
  | [.inr (.inr (11, 205)), .inl x1, .inl x2] => f271 z x1 x2 M
  | _ => none
theorem S271 (z : Nat) : am_Snd 12 271 (F271 z) := am_meth (by decide +kernel) (fun as M r has h => by
    rw [am_l271]
    unfold F271 at h
    split at h
    · exact ⟨Nat.le_of_ble_eq_true rfl, e271 z _ _ _ _ h⟩
    · cases h)
