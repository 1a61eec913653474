def cdL_949 : List am_E := [(949, .aload_n 1, 1, 1, 0, 0, 0), (950, .aload_n 0, 1, 0, 0, 0, 0), (951, .iload_n 3, 1, 3, 0, 0, 0), (952, .iconst 1, 1, 0, 0, 1, 0), (953, .iadd, 1, 0, 0, 0, 0), (954, .iaload, 1, 0, 0, 0, 0), (955, .invokevirtual 109, 3, 106, 10010, 0, 0), (958, .aload_n 2, 1, 2, 0, 0, 0), (959, .aload_n 0, 1, 0, 0, 0, 0), (960, .iload_n 3, 1, 3, 0, 0, 0), (961, .iconst 1, 1, 0, 0, 1, 0), (962, .iadd, 1, 0, 0, 0, 0), (963, .iaload, 1, 0, 0, 0, 0), (964, .invokevirtual 112, 3, 254, 11010, 0, 0), (967, .if_icmp .eq 1464, 3, 2431, 0, 0, 0), (970, .iconst 0, 1, 0, 0, 0, 0), (971, .ireturn, 1, 0, 0, 0, 0)]
set_option maxRecDepth 100000 in
theorem kcdL_949 : cdL_949.all (am_chk am_w345 345) = true := by decide +kernel
theorem kcdL2_949 : (cdL_949 ++ cdL_h).all (am_chk am_w345 345) = true := by
  simp only [List.all_append, kcdL_949, kcdL_h, Bool.and_self]
def sL_949 (z : Nat) : Nat → List aV → aM → Option aR := fun j => (match Nat.beq j 106 with
  | true => F106 z
  | false => (match Nat.beq j 254 with
  | true => F254 z
  | false => (fun _ _ => none)))
theorem hsL_949 (z : Nat) : ∀ j2 : Nat, ∃ d2 : Nat, d2 + 1 ≤ 14 ∧ am_Snd d2 j2 (sL_949 z j2) := by
  intro j2
  unfold sL_949
  split
  · rename_i he
    rw [am_beq he]
    exact ⟨_, by decide, S106 z⟩
  · skip
    split
    · rename_i he
      rw [am_beq he]
      exact ⟨_, by decide, S254 z⟩
    · skip
      exact ⟨0, by decide, am_Snd_no j2⟩
/-- the law, case [23] -/
def f345_949 (z nL : Nat) (xs : Nat → Int32) (k18 : Int32 → aM → Option aR) : Nat → Int32 → aM → Option aR
  | 0, _, _ => none
  | n + 1, x3, M =>
    if am_inB (x3 + (1 : Int32)) nL then
      am_bi (f106 z (xs (x3 + (1 : Int32)).toNatClampNeg) M) fun v2 M1 =>
        if am_inB (x3 + (1 : Int32)) nL then
          am_bi (f254 z (xs (x3 + (1 : Int32)).toNatClampNeg) M1) fun v4 M3 =>
            if v2 = v4 then
              k18 (x3 + (6 : Int32)) M3
            else
              some (some (.inl ((0 : Int32) &&& 1)), M3)
        else
          none
    else
      none
set_option maxRecDepth 100000 in
set_option maxHeartbeats 4000000 in
theorem e345_949 (z nL : Nat) (xs : Nat → Int32) {p : Program} {l : Launch} {e : Env} {R : Room} {s : State} {m : MethodId} {args : Array Value} {below : List Frame} {meth : Method} {c : Code} {C : aC} {Q : State → Prop} {ce sl : Nat} (F : am_F (some (nL, xs)) p R s m args c C 345 14 ce sl) (r : aR) (hR : am_HR p l e R s m args below meth c C 345 (am_ml 345) ce sl 1 Q r) (k18 : Int32 → aM → Option aR) (hk18 : ∀ (x3 : Int32) (M : aM), k18 x3 M = some r → am_Wd p l e R s m args below meth c C (am_ml 345) ce sl Q 18 [some (.inr (.inr (62, 5200))), some (.inr (.inr (10, 0))), some (.inr (.inr (11, 205))), some (.inl x3)] [] M) : ∀ (n : Nat) (x3 : Int32) (M : aM), f345_949 z nL xs k18 n x3 M = some r → am_Wd p l e R s m args below meth c C (am_ml 345) ce sl Q 949 [some (.inr (.inr (62, 5200))), some (.inr (.inr (10, 0))), some (.inr (.inr (11, 205))), some (.inl x3)] [] M := by
  intro n x3 M h
  cases n with
  | zero => cases h
  | succ n =>
    exact am_seg_ok (sws := am_w345) (sem := sL_949 z) (cd := cdL_949 ++ cdL_h) (cut := ([(18, [true, true, true, true])] : List (Nat × List Bool))) (kap := (fun pc al st M => (match Nat.beq pc 18 with
      | true => (match al, st with
        | [some (.inr (.inr (62, 5200))), some (.inr (.inr (10, 0))), some (.inr (.inr (11, 205))), some (.inl x3)], [] => k18 x3 M
        | _, _ => none)
      | false => none))) (hsL_949 z) F hR kcdL2_949 (by rw [am_l345]; decide) (fun pc al st M hk => by
      try dsimp only at hk
      split at hk
      · rename_i he
        rw [am_beq he]
        split at hk
        · exact hk18 _ _ hk
        · cases hk
      · cases hk) 19 949 _ _ _ h
def cdL_972 : List am_E := [(972, .aload_n 1, 1, 1, 0, 0, 0), (973, .aload_n 0, 1, 0, 0, 0, 0), (974, .iload_n 3, 1, 3, 0, 0, 0), (975, .iconst 1, 1, 0, 0, 1, 0), (976, .iadd, 1, 0, 0, 0, 0), (977, .iaload, 1, 0, 0, 0, 0), (978, .invokevirtual 113, 3, 107, 10010, 0, 0), (981, .aload_n 2, 1, 2, 0, 0, 0), (982, .aload_n 0, 1, 0, 0, 0, 0), (983, .iload_n 3, 1, 3, 0, 0, 0), (984, .iconst 1, 1, 0, 0, 1, 0), (985, .iadd, 1, 0, 0, 0, 0), (986, .iaload, 1, 0, 0, 0, 0), (987, .invokevirtual 116, 3, 255, 11010, 0, 0), (990, .if_icmp .eq 1441, 3, 2431, 0, 0, 0), (993, .iconst 0, 1, 0, 0, 0, 0), (994, .ireturn, 1, 0, 0, 0, 0)]
set_option maxRecDepth 100000 in
theorem kcdL_972 : cdL_972.all (am_chk am_w345 345) = true := by decide +kernel
theorem kcdL2_972 : (cdL_972 ++ cdL_h).all (am_chk am_w345 345) = true := by
  simp only [List.all_append, kcdL_972, kcdL_h, Bool.and_self]
def sL_972 (z : Nat) : Nat → List aV → aM → Option aR := fun j => (match Nat.beq j 107 with
  | true => F107 z
  | false => (match Nat.beq j 255 with
  | true => F255 z
  | false => (fun _ _ => none)))
theorem hsL_972 (z : Nat) : ∀ j2 : Nat, ∃ d2 : Nat, d2 + 1 ≤ 14 ∧ am_Snd d2 j2 (sL_972 z j2) := by
  intro j2
  unfold sL_972
  split
  · rename_i he
    rw [am_beq he]
    exact ⟨_, by decide, S107 z⟩
  · skip
    split
    · rename_i he
      rw [am_beq he]
      exact ⟨_, by decide, S255 z⟩
    · skip
      exact ⟨0, by decide, am_Snd_no j2⟩
/-- the law, case [24] -/
def f345_972 (z nL : Nat) (xs : Nat → Int32) (k18 : Int32 → aM → Option aR) : Nat → Int32 → aM → Option aR
  | 0, _, _ => none
  | n + 1, x3, M =>
    if am_inB (x3 + (1 : Int32)) nL then
      am_bi (f107 z (xs (x3 + (1 : Int32)).toNatClampNeg) M) fun v2 M1 =>
        if am_inB (x3 + (1 : Int32)) nL then
          am_bi (f255 z (xs (x3 + (1 : Int32)).toNatClampNeg) M1) fun v4 M3 =>
            if v2 = v4 then
              k18 (x3 + (6 : Int32)) M3
            else
              some (some (.inl ((0 : Int32) &&& 1)), M3)
        else
          none
    else
      none
set_option maxRecDepth 100000 in
set_option maxHeartbeats 4000000 in
theorem e345_972 (z nL : Nat) (xs : Nat → Int32) {p : Program} {l : Launch} {e : Env} {R : Room} {s : State} {m : MethodId} {args : Array Value} {below : List Frame} {meth : Method} {c : Code} {C : aC} {Q : State → Prop} {ce sl : Nat} (F : am_F (some (nL, xs)) p R s m args c C 345 14 ce sl) (r : aR) (hR : am_HR p l e R s m args below meth c C 345 (am_ml 345) ce sl 1 Q r) (k18 : Int32 → aM → Option aR) (hk18 : ∀ (x3 : Int32) (M : aM), k18 x3 M = some r → am_Wd p l e R s m args below meth c C (am_ml 345) ce sl Q 18 [some (.inr (.inr (62, 5200))), some (.inr (.inr (10, 0))), some (.inr (.inr (11, 205))), some (.inl x3)] [] M) : ∀ (n : Nat) (x3 : Int32) (M : aM), f345_972 z nL xs k18 n x3 M = some r → am_Wd p l e R s m args below meth c C (am_ml 345) ce sl Q 972 [some (.inr (.inr (62, 5200))), some (.inr (.inr (10, 0))), some (.inr (.inr (11, 205))), some (.inl x3)] [] M := by
  intro n x3 M h
  cases n with
  | zero => cases h
  | succ n =>
    exact am_seg_ok (sws := am_w345) (sem := sL_972 z) (cd := cdL_972 ++ cdL_h) (cut := ([(18, [true, true, true, true])] : List (Nat × List Bool))) (kap := (fun pc al st M => (match Nat.beq pc 18 with
      | true => (match al, st with
        | [some (.inr (.inr (62, 5200))), some (.inr (.inr (10, 0))), some (.inr (.inr (11, 205))), some (.inl x3)], [] => k18 x3 M
        | _, _ => none)
      | false => none))) (hsL_972 z) F hR kcdL2_972 (by rw [am_l345]; decide) (fun pc al st M hk => by
      try dsimp only at hk
      split at hk
      · rename_i he
        rw [am_beq he]
        split at hk
        · exact hk18 _ _ hk
        · cases hk
      · cases hk) 19 972 _ _ _ h
def cdL_995 : List am_E := [(995, .aload_n 1, 1, 1, 0, 0, 0), (996, .aload_n 0, 1, 0, 0, 0, 0), (997, .iload_n 3, 1, 3, 0, 0, 0), (998, .iconst 1, 1, 0, 0, 1, 0), (999, .iadd, 1, 0, 0, 0, 0), (1000, .iaload, 1, 0, 0, 0, 0), (1001, .invokevirtual 117, 3, 108, 10010, 0, 0), (1004, .aload_n 2, 1, 2, 0, 0, 0), (1005, .aload_n 0, 1, 0, 0, 0, 0), (1006, .iload_n 3, 1, 3, 0, 0, 0), (1007, .iconst 1, 1, 0, 0, 1, 0), (1008, .iadd, 1, 0, 0, 0, 0), (1009, .iaload, 1, 0, 0, 0, 0), (1010, .invokevirtual 120, 3, 256, 11010, 0, 0), (1013, .if_icmp .eq 1418, 3, 2431, 0, 0, 0), (1016, .iconst 0, 1, 0, 0, 0, 0), (1017, .ireturn, 1, 0, 0, 0, 0)]
set_option maxRecDepth 100000 in
theorem kcdL_995 : cdL_995.all (am_chk am_w345 345) = true := by decide +kernel
theorem kcdL2_995 : (cdL_995 ++ cdL_h).all (am_chk am_w345 345) = true := by
  simp only [List.all_append, kcdL_995, kcdL_h, Bool.and_self]
def sL_995 (z : Nat) : Nat → List aV → aM → Option aR := fun j => (match Nat.beq j 108 with
  | true => F108 z
  | false => (match Nat.beq j 256 with
  | true => F256 z
  | false => (fun _ _ => none)))
theorem hsL_995 (z : Nat) : ∀ j2 : Nat, ∃ d2 : Nat, d2 + 1 ≤ 14 ∧ am_Snd d2 j2 (sL_995 z j2) := by
  intro j2
  unfold sL_995
  split
  · rename_i he
    rw [am_beq he]
    exact ⟨_, by decide, S108 z⟩
  · skip
    split
    · rename_i he
      rw [am_beq he]
      exact ⟨_, by decide, S256 z⟩
    · skip
      exact ⟨0, by decide, am_Snd_no j2⟩
/-- the law, case [25] -/
def f345_995 (z nL : Nat) (xs : Nat → Int32) (k18 : Int32 → aM → Option aR) : Nat → Int32 → aM → Option aR
  | 0, _, _ => none
  | n + 1, x3, M =>
    if am_inB (x3 + (1 : Int32)) nL then
      am_bi (f108 z (xs (x3 + (1 : Int32)).toNatClampNeg) M) fun v2 M1 =>
        if am_inB (x3 + (1 : Int32)) nL then
          am_bi (f256 z (xs (x3 + (1 : Int32)).toNatClampNeg) M1) fun v4 M3 =>
            if v2 = v4 then
              k18 (x3 + (6 : Int32)) M3
            else
              some (some (.inl ((0 : Int32) &&& 1)), M3)
        else
          none
    else
      none
set_option maxRecDepth 100000 in
set_option maxHeartbeats 4000000 in
theorem e345_995 (z nL : Nat) (xs : Nat → Int32) {p : Program} {l : Launch} {e : Env} {R : Room} {s : State} {m : MethodId} {args : Array Value} {below : List Frame} {meth : Method} {c : Code} {C : aC} {Q : State → Prop} {ce sl : Nat} (F : am_F (some (nL, xs)) p R s m args c C 345 14 ce sl) (r : aR) (hR : am_HR p l e R s m args below meth c C 345 (am_ml 345) ce sl 1 Q r) (k18 : Int32 → aM → Option aR) (hk18 : ∀ (x3 : Int32) (M : aM), k18 x3 M = some r → am_Wd p l e R s m args below meth c C (am_ml 345) ce sl Q 18 [some (.inr (.inr (62, 5200))), some (.inr (.inr (10, 0))), some (.inr (.inr (11, 205))), some (.inl x3)] [] M) : ∀ (n : Nat) (x3 : Int32) (M : aM), f345_995 z nL xs k18 n x3 M = some r → am_Wd p l e R s m args below meth c C (am_ml 345) ce sl Q 995 [some (.inr (.inr (62, 5200))), some (.inr (.inr (10, 0))), some (.inr (.inr (11, 205))), some (.inl x3)] [] M := by
  intro n x3 M h
  cases n with
  | zero => cases h
  | succ n =>
    exact am_seg_ok (sws := am_w345) (sem := sL_995 z) (cd := cdL_995 ++ cdL_h) (cut := ([(18, [true, true, true, true])] : List (Nat × List Bool))) (kap := (fun pc al st M => (match Nat.beq pc 18 with
      | true => (match al, st with
        | [some (.inr (.inr (62, 5200))), some (.inr (.inr (10, 0))), some (.inr (.inr (11, 205))), some (.inl x3)], [] => k18 x3 M
        | _, _ => none)
      | false => none))) (hsL_995 z) F hR kcdL2_995 (by rw [am_l345]; decide) (fun pc al st M hk => by
      try dsimp only at hk
      split at hk
      · rename_i he
        rw [am_beq he]
        split at hk
        · exact hk18 _ _ hk
        · cases hk
      · cases hk) 19 995 _ _ _ h
def cdL_1018 : List am_E := [(1018, .aload_n 1, 1, 1, 0, 0, 0), (1019, .aload_n 0, 1, 0, 0, 0, 0), (1020, .iload_n 3, 1, 3, 0, 0, 0), (1021, .iconst 1, 1, 0, 0, 1, 0), (1022, .iadd, 1, 0, 0, 0, 0), (1023, .iaload, 1, 0, 0, 0, 0), (1024, .invokevirtual 121, 3, 109, 10010, 0, 0), (1027, .aload_n 2, 1, 2, 0, 0, 0), (1028, .aload_n 0, 1, 0, 0, 0, 0), (1029, .iload_n 3, 1, 3, 0, 0, 0), (1030, .iconst 1, 1, 0, 0, 1, 0), (1031, .iadd, 1, 0, 0, 0, 0), (1032, .iaload, 1, 0, 0, 0, 0), (1033, .invokevirtual 124, 3, 257, 11010, 0, 0), (1036, .if_icmp .eq 1395, 3, 2431, 0, 0, 0), (1039, .iconst 0, 1, 0, 0, 0, 0), (1040, .ireturn, 1, 0, 0, 0, 0)]
set_option maxRecDepth 100000 in
theorem kcdL_1018 : cdL_1018.all (am_chk am_w345 345) = true := by decide +kernel
theorem kcdL2_1018 : (cdL_1018 ++ cdL_h).all (am_chk am_w345 345) = true := by
  simp only [List.all_append, kcdL_1018, kcdL_h, Bool.and_self]
def sL_1018 (z : Nat) : Nat → List aV → aM → Option aR := fun j => (match Nat.beq j 109 with
  | true => F109 z
  | false => (match Nat.beq j 257 with
  | true => F257 z
  | false => (fun _ _ => none)))
theorem hsL_1018 (z : Nat) : ∀ j2 : Nat, ∃ d2 : Nat, d2 + 1 ≤ 14 ∧ am_Snd d2 j2 (sL_1018 z j2) := by
  intro j2
  unfold sL_1018
  split
  · rename_i he
    rw [am_beq he]
    exact ⟨_, by decide, S109 z⟩
  · skip
    split
    · rename_i he
      rw [am_beq he]
      exact ⟨_, by decide, S257 z⟩
    · skip
      exact ⟨0, by decide, am_Snd_no j2⟩
/-- the law, case [26] -/
def f345_1018 (z nL : Nat) (xs : Nat → Int32) (k18 : Int32 → aM → Option aR) : Nat → Int32 → aM → Option aR
  | 0, _, _ => none
  | n + 1, x3, M =>
    if am_inB (x3 + (1 : Int32)) nL then
      am_bi (f109 z (xs (x3 + (1 : Int32)).toNatClampNeg) M) fun v2 M1 =>
        if am_inB (x3 + (1 : Int32)) nL then
          am_bi (f257 z (xs (x3 + (1 : Int32)).toNatClampNeg) M1) fun v4 M3 =>
            if v2 = v4 then
              k18 (x3 + (6 : Int32)) M3
            else
              some (some (.inl ((0 : Int32) &&& 1)), M3)
        else
          none
    else
      none
set_option maxRecDepth 100000 in
set_option maxHeartbeats 4000000 in
theorem e345_1018 (z nL : Nat) (xs : Nat → Int32) {p : Program} {l : Launch} {e : Env} {R : Room} {s : State} {m : MethodId} {args : Array Value} {below : List Frame} {meth : Method} {c : Code} {C : aC} {Q : State → Prop} {ce sl : Nat} (F : am_F (some (nL, xs)) p R s m args c C 345 14 ce sl) (r : aR) (hR : am_HR p l e R s m args below meth c C 345 (am_ml 345) ce sl 1 Q r) (k18 : Int32 → aM → Option aR) (hk18 : ∀ (x3 : Int32) (M : aM), k18 x3 M = some r → am_Wd p l e R s m args below meth c C (am_ml 345) ce sl Q 18 [some (.inr (.inr (62, 5200))), some (.inr (.inr (10, 0))), some (.inr (.inr (11, 205))), some (.inl x3)] [] M) : ∀ (n : Nat) (x3 : Int32) (M : aM), f345_1018 z nL xs k18 n x3 M = some r → am_Wd p l e R s m args below meth c C (am_ml 345) ce sl Q 1018 [some (.inr (.inr (62, 5200))), some (.inr (.inr (10, 0))), some (.inr (.inr (11, 205))), some (.inl x3)] [] M := by
  intro n x3 M h
  cases n with
  | zero => cases h
  | succ n =>
    exact am_seg_ok (sws := am_w345) (sem := sL_1018 z) (cd := cdL_1018 ++ cdL_h) (cut := ([(18, [true, true, true, true])] : List (Nat × List Bool))) (kap := (fun pc al st M => (match Nat.beq pc 18 with
      | true => (match al, st with
        | [some (.inr (.inr (62, 5200))), some (.inr (.inr (10, 0))), some (.inr (.inr (11, 205))), some (.inl x3)], [] => k18 x3 M
        | _, _ => none)
      | false => none))) (hsL_1018 z) F hR kcdL2_1018 (by rw [am_l345]; decide) (fun pc al st M hk => by
      try dsimp only at hk
      split at hk
      · rename_i he
        rw [am_beq he]
        split at hk
        · exact hk18 _ _ hk
        · cases hk
      · cases hk) 19 1018 _ _ _ h
def cdL_1041 : List am_E := [(1041, .aload_n 1, 1, 1, 0, 0, 0), (1042, .invokevirtual 125, 3, 110, 10000, 0, 0), (1045, .aload_n 2, 1, 2, 0, 0, 0), (1046, .invokevirtual 128, 3, 258, 11000, 0, 0), (1049, .if_icmp .eq 1382, 3, 2431, 0, 0, 0), (1052, .iconst 0, 1, 0, 0, 0, 0), (1053, .ireturn, 1, 0, 0, 0, 0)]
set_option maxRecDepth 100000 in
theorem kcdL_1041 : cdL_1041.all (am_chk am_w345 345) = true := by decide +kernel
theorem kcdL2_1041 : (cdL_1041 ++ cdL_h).all (am_chk am_w345 345) = true := by
  simp only [List.all_append, kcdL_1041, kcdL_h, Bool.and_self]
def sL_1041 (z : Nat) : Nat → List aV → aM → Option aR := fun j => (match Nat.beq j 110 with
  | true => F110 z
  | false => (match Nat.beq j 258 with
  | true => F258 z
  | false => (fun _ _ => none)))
theorem hsL_1041 (z : Nat) : ∀ j2 : Nat, ∃ d2 : Nat, d2 + 1 ≤ 14 ∧ am_Snd d2 j2 (sL_1041 z j2) := by
  intro j2
  unfold sL_1041
  split
  · rename_i he
    rw [am_beq he]
    exact ⟨_, by decide, S110 z⟩
  · skip
    split
    · rename_i he
      rw [am_beq he]
      exact ⟨_, by decide, S258 z⟩
    · skip
      exact ⟨0, by decide, am_Snd_no j2⟩
/-- the law, case [27] -/
def f345_1041 (z nL : Nat) (xs : Nat → Int32) (k18 : Int32 → aM → Option aR) : Nat → Int32 → aM → Option aR
  | 0, _, _ => none
  | n + 1, x3, M =>
    am_bi (f110 z M) fun v2 M1 =>
      am_bi (f258 z M1) fun v4 M3 =>
        if v2 = v4 then
          k18 (x3 + (6 : Int32)) M3
        else
          some (some (.inl ((0 : Int32) &&& 1)), M3)
set_option maxRecDepth 100000 in
set_option maxHeartbeats 4000000 in
theorem e345_1041 (z nL : Nat) (xs : Nat → Int32) {p : Program} {l : Launch} {e : Env} {R : Room} {s : State} {m : MethodId} {args : Array Value} {below : List Frame} {meth : Method} {c : Code} {C : aC} {Q : State → Prop} {ce sl : Nat} (F : am_F (some (nL, xs)) p R s m args c C 345 14 ce sl) (r : aR) (hR : am_HR p l e R s m args below meth c C 345 (am_ml 345) ce sl 1 Q r) (k18 : Int32 → aM → Option aR) (hk18 : ∀ (x3 : Int32) (M : aM), k18 x3 M = some r → am_Wd p l e R s m args below meth c C (am_ml 345) ce sl Q 18 [some (.inr (.inr (62, 5200))), some (.inr (.inr (10, 0))), some (.inr (.inr (11, 205))), some (.inl x3)] [] M) : ∀ (n : Nat) (x3 : Int32) (M : aM), f345_1041 z nL xs k18 n x3 M = some r → am_Wd p l e R s m args below meth c C (am_ml 345) ce sl Q 1041 [some (.inr (.inr (62, 5200))), some (.inr (.inr (10, 0))), some (.inr (.inr (11, 205))), some (.inl x3)] [] M := by
  intro n x3 M h
  cases n with
  | zero => cases h
  | succ n =>
    exact am_seg_ok (sws := am_w345) (sem := sL_1041 z) (cd := cdL_1041 ++ cdL_h) (cut := ([(18, [true, true, true, true])] : List (Nat × List Bool))) (kap := (fun pc al st M => (match Nat.beq pc 18 with
      | true => (match al, st with
        | [some (.inr (.inr (62, 5200))), some (.inr (.inr (10, 0))), some (.inr (.inr (11, 205))), some (.inl x3)], [] => k18 x3 M
        | _, _ => none)
      | false => none))) (hsL_1041 z) F hR kcdL2_1041 (by rw [am_l345]; decide) (fun pc al st M hk => by
      try dsimp only at hk
      split at hk
      · rename_i he
        rw [am_beq he]
        split at hk
        · exact hk18 _ _ hk
        · cases hk
      · cases hk) 9 1041 _ _ _ h
def cdL_1054 : List am_E := [(1054, .aload_n 1, 1, 1, 0, 0, 0), (1055, .invokevirtual 129, 3, 111, 10000, 0, 0), (1058, .aload_n 2, 1, 2, 0, 0, 0), (1059, .invokevirtual 132, 3, 259, 11000, 0, 0), (1062, .if_icmp .eq 1369, 3, 2431, 0, 0, 0), (1065, .iconst 0, 1, 0, 0, 0, 0), (1066, .ireturn, 1, 0, 0, 0, 0)]
set_option maxRecDepth 100000 in
theorem kcdL_1054 : cdL_1054.all (am_chk am_w345 345) = true := by decide +kernel
theorem kcdL2_1054 : (cdL_1054 ++ cdL_h).all (am_chk am_w345 345) = true := by
  simp only [List.all_append, kcdL_1054, kcdL_h, Bool.and_self]
def sL_1054 (z : Nat) : Nat → List aV → aM → Option aR := fun j => (match Nat.beq j 111 with
  | true => F111 z
  | false => (match Nat.beq j 259 with
  | true => F259 z
  | false => (fun _ _ => none)))
theorem hsL_1054 (z : Nat) : ∀ j2 : Nat, ∃ d2 : Nat, d2 + 1 ≤ 14 ∧ am_Snd d2 j2 (sL_1054 z j2) := by
  intro j2
  unfold sL_1054
  split
  · rename_i he
    rw [am_beq he]
    exact ⟨_, by decide, S111 z⟩
  · skip
    split
    · rename_i he
      rw [am_beq he]
      exact ⟨_, by decide, S259 z⟩
    · skip
      exact ⟨0, by decide, am_Snd_no j2⟩
/-- the law, case [28] -/
def f345_1054 (z nL : Nat) (xs : Nat → Int32) (k18 : Int32 → aM → Option aR) : Nat → Int32 → aM → Option aR
  | 0, _, _ => none
  | n + 1, x3, M =>
    am_bi (f111 z M) fun v2 M1 =>
      am_bi (f259 z M1) fun v4 M3 =>
        if v2 = v4 then
          k18 (x3 + (6 : Int32)) M3
        else
          some (some (.inl ((0 : Int32) &&& 1)), M3)
set_option maxRecDepth 100000 in
set_option maxHeartbeats 4000000 in
theorem e345_1054 (z nL : Nat) (xs : Nat → Int32) {p : Program} {l : Launch} {e : Env} {R : Room} {s : State} {m : MethodId} {args : Array Value} {below : List Frame} {meth : Method} {c : Code} {C : aC} {Q : State → Prop} {ce sl : Nat} (F : am_F (some (nL, xs)) p R s m args c C 345 14 ce sl) (r : aR) (hR : am_HR p l e R s m args below meth c C 345 (am_ml 345) ce sl 1 Q r) (k18 : Int32 → aM → Option aR) (hk18 : ∀ (x3 : Int32) (M : aM), k18 x3 M = some r → am_Wd p l e R s m args below meth c C (am_ml 345) ce sl Q 18 [some (.inr (.inr (62, 5200))), some (.inr (.inr (10, 0))), some (.inr (.inr (11, 205))), some (.inl x3)] [] M) : ∀ (n : Nat) (x3 : Int32) (M : aM), f345_1054 z nL xs k18 n x3 M = some r → am_Wd p l e R s m args below meth c C (am_ml 345) ce sl Q 1054 [some (.inr (.inr (62, 5200))), some (.inr (.inr (10, 0))), some (.inr (.inr (11, 205))), some (.inl x3)] [] M := by
  intro n x3 M h
  cases n with
  | zero => cases h
  | succ n =>
    exact am_seg_ok (sws := am_w345) (sem := sL_1054 z) (cd := cdL_1054 ++ cdL_h) (cut := ([(18, [true, true, true, true])] : List (Nat × List Bool))) (kap := (fun pc al st M => (match Nat.beq pc 18 with
      | true => (match al, st with
        | [some (.inr (.inr (62, 5200))), some (.inr (.inr (10, 0))), some (.inr (.inr (11, 205))), some (.inl x3)], [] => k18 x3 M
        | _, _ => none)
      | false => none))) (hsL_1054 z) F hR kcdL2_1054 (by rw [am_l345]; decide) (fun pc al st M hk => by
      try dsimp only at hk
      split at hk
      · rename_i he
        rw [am_beq he]
        split at hk
        · exact hk18 _ _ hk
        · cases hk
      · cases hk) 9 1054 _ _ _ h
def cdL_1067 : List am_E := [(1067, .aload_n 1, 1, 1, 0, 0, 0), (1068, .aload_n 0, 1, 0, 0, 0, 0), (1069, .iload_n 3, 1, 3, 0, 0, 0), (1070, .iconst 1, 1, 0, 0, 1, 0), (1071, .iadd, 1, 0, 0, 0, 0), (1072, .iaload, 1, 0, 0, 0, 0), (1073, .invokevirtual 133, 3, 112, 10010, 0, 0), (1076, .aload_n 2, 1, 2, 0, 0, 0), (1077, .aload_n 0, 1, 0, 0, 0, 0), (1078, .iload_n 3, 1, 3, 0, 0, 0), (1079, .iconst 1, 1, 0, 0, 1, 0), (1080, .iadd, 1, 0, 0, 0, 0), (1081, .iaload, 1, 0, 0, 0, 0), (1082, .invokevirtual 136, 3, 260, 11010, 0, 0), (1085, .if_icmp .eq 1346, 3, 2431, 0, 0, 0), (1088, .iconst 0, 1, 0, 0, 0, 0), (1089, .ireturn, 1, 0, 0, 0, 0)]
set_option maxRecDepth 100000 in
theorem kcdL_1067 : cdL_1067.all (am_chk am_w345 345) = true := by decide +kernel
theorem kcdL2_1067 : (cdL_1067 ++ cdL_h).all (am_chk am_w345 345) = true := by
  simp only [List.all_append, kcdL_1067, kcdL_h, Bool.and_self]
def sL_1067 (z : Nat) : Nat → List aV → aM → Option aR := fun j => (match Nat.beq j 112 with
  | true => F112 z
  | false => (match Nat.beq j 260 with
  | true => F260 z
  | false => (fun _ _ => none)))
theorem hsL_1067 (z : Nat) : ∀ j2 : Nat, ∃ d2 : Nat, d2 + 1 ≤ 14 ∧ am_Snd d2 j2 (sL_1067 z j2) := by
  intro j2
  unfold sL_1067
  split
  · rename_i he
    rw [am_beq he]
    exact ⟨_, by decide, S112 z⟩
  · skip
    split
    · rename_i he
      rw [am_beq he]
      exact ⟨_, by decide, S260 z⟩
    · skip
      exact ⟨0, by decide, am_Snd_no j2⟩
/-- the law, case [29] -/
def f345_1067 (z nL : Nat) (xs : Nat → Int32) (k18 : Int32 → aM → Option aR) : Nat → Int32 → aM → Option aR
  | 0, _, _ => none
  | n + 1, x3, M =>
    if am_inB (x3 + (1 : Int32)) nL then
      am_bi (f112 z (xs (x3 + (1 : Int32)).toNatClampNeg) M) fun v2 M1 =>
        if am_inB (x3 + (1 : Int32)) nL then
          am_bi (f260 z (xs (x3 + (1 : Int32)).toNatClampNeg) M1) fun v4 M3 =>
            if v2 = v4 then
              k18 (x3 + (6 : Int32)) M3
            else
              some (some (.inl ((0 : Int32) &&& 1)), M3)
        else
          none
    else
      none
set_option maxRecDepth 100000 in
set_option maxHeartbeats 4000000 in
theorem e345_1067 (z nL : Nat) (xs : Nat → Int32) {p : Program} {l : Launch} {e : Env} {R : Room} {s : State} {m : MethodId} {args : Array Value} {below : List Frame} {meth : Method} {c : Code} {C : aC} {Q : State → Prop} {ce sl : Nat} (F : am_F (some (nL, xs)) p R s m args c C 345 14 ce sl) (r : aR) (hR : am_HR p l e R s m args below meth c C 345 (am_ml 345) ce sl 1 Q r) (k18 : Int32 → aM → Option aR) (hk18 : ∀ (x3 : Int32) (M : aM), k18 x3 M = some r → am_Wd p l e R s m args below meth c C (am_ml 345) ce sl Q 18 [some (.inr (.inr (62, 5200))), some (.inr (.inr (10, 0))), some (.inr (.inr (11, 205))), some (.inl x3)] [] M) : ∀ (n : Nat) (x3 : Int32) (M : aM), f345_1067 z nL xs k18 n x3 M = some r → am_Wd p l e R s m args below meth c C (am_ml 345) ce sl Q 1067 [some (.inr (.inr (62, 5200))), some (.inr (.inr (10, 0))), some (.inr (.inr (11, 205))), some (.inl x3)] [] M := by
  intro n x3 M h
  cases n with
  | zero => cases h
  | succ n =>
    exact am_seg_ok (sws := am_w345) (sem := sL_1067 z) (cd := cdL_1067 ++ cdL_h) (cut := ([(18, [true, true, true, true])] : List (Nat × List Bool))) (kap := (fun pc al st M => (match Nat.beq pc 18 with
      | true => (match al, st with
        | [some (.inr (.inr (62, 5200))), some (.inr (.inr (10, 0))), some (.inr (.inr (11, 205))), some (.inl x3)], [] => k18 x3 M
        | _, _ => none)
      | false => none))) (hsL_1067 z) F hR kcdL2_1067 (by rw [am_l345]; decide) (fun pc al st M hk => by
      try dsimp only at hk
      split at hk
      · rename_i he
        rw [am_beq he]
        split at hk
        · exact hk18 _ _ hk
        · cases hk
      · cases hk) 19 1067 _ _ _ h
def cdL_1090 : List am_E := [(1090, .aload_n 1, 1, 1, 0, 0, 0), (1091, .aload_n 0, 1, 0, 0, 0, 0), (1092, .iload_n 3, 1, 3, 0, 0, 0), (1093, .iconst 1, 1, 0, 0, 1, 0), (1094, .iadd, 1, 0, 0, 0, 0), (1095, .iaload, 1, 0, 0, 0, 0), (1096, .invokevirtual 137, 3, 113, 10010, 0, 0), (1099, .aload_n 2, 1, 2, 0, 0, 0), (1100, .aload_n 0, 1, 0, 0, 0, 0), (1101, .iload_n 3, 1, 3, 0, 0, 0), (1102, .iconst 1, 1, 0, 0, 1, 0), (1103, .iadd, 1, 0, 0, 0, 0), (1104, .iaload, 1, 0, 0, 0, 0), (1105, .invokevirtual 140, 3, 261, 11010, 0, 0), (1108, .if_icmp .eq 1323, 3, 2431, 0, 0, 0), (1111, .iconst 0, 1, 0, 0, 0, 0), (1112, .ireturn, 1, 0, 0, 0, 0)]
set_option maxRecDepth 100000 in
theorem kcdL_1090 : cdL_1090.all (am_chk am_w345 345) = true := by decide +kernel
theorem kcdL2_1090 : (cdL_1090 ++ cdL_h).all (am_chk am_w345 345) = true := by
  simp only [List.all_append, kcdL_1090, kcdL_h, Bool.and_self]
def sL_1090 (z : Nat) : Nat → List aV → aM → Option aR := fun j => (match Nat.beq j 113 with
  | true => F113 z
  | false => (match Nat.beq j 261 with
  | true => F261 z
  | false => (fun _ _ => none)))
theorem hsL_1090 (z : Nat) : ∀ j2 : Nat, ∃ d2 : Nat, d2 + 1 ≤ 14 ∧ am_Snd d2 j2 (sL_1090 z j2) := by
  intro j2
  unfold sL_1090
  split
  · rename_i he
    rw [am_beq he]
    exact ⟨_, by decide, S113 z⟩
  · skip
    split
    · rename_i he
      rw [am_beq he]
      exact ⟨_, by decide, S261 z⟩
    · skip
      exact ⟨0, by decide, am_Snd_no j2⟩
/-- the law, case [30] -/
def f345_1090 (z nL : Nat) (xs : Nat → Int32) (k18 : Int32 → aM → Option aR) : Nat → Int32 → aM → Option aR
  | 0, _, _ => none
  | n + 1, x3, M =>
    if am_inB (x3 + (1 : Int32)) nL then
      am_bi (f113 z (xs (x3 + (1 : Int32)).toNatClampNeg) M) fun v2 M1 =>
        if am_inB (x3 + (1 : Int32)) nL then
          am_bi (f261 z (xs (x3 + (1 : Int32)).toNatClampNeg) M1) fun v4 M3 =>
            if v2 = v4 then
              k18 (x3 + (6 : Int32)) M3
            else
              some (some (.inl ((0 : Int32) &&& 1)), M3)
        else
          none
    else
      none
set_option maxRecDepth 100000 in
set_option maxHeartbeats 4000000 in
theorem e345_1090 (z nL : Nat) (xs : Nat → Int32) {p : Program} {l : Launch} {e : Env} {R : Room} {s : State} {m : MethodId} {args : Array Value} {below : List Frame} {meth : Method} {c : Code} {C : aC} {Q : State → Prop} {ce sl : Nat} (F : am_F (some (nL, xs)) p R s m args c C 345 14 ce sl) (r : aR) (hR : am_HR p l e R s m args below meth c C 345 (am_ml 345) ce sl 1 Q r) (k18 : Int32 → aM → Option aR) (hk18 : ∀ (x3 : Int32) (M : aM), k18 x3 M = some r → am_Wd p l e R s m args below meth c C (am_ml 345) ce sl Q 18 [some (.inr (.inr (62, 5200))), some (.inr (.inr (10, 0))), some (.inr (.inr (11, 205))), some (.inl x3)] [] M) : ∀ (n : Nat) (x3 : Int32) (M : aM), f345_1090 z nL xs k18 n x3 M = some r → am_Wd p l e R s m args below meth c C (am_ml 345) ce sl Q 1090 [some (.inr (.inr (62, 5200))), some (.inr (.inr (10, 0))), some (.inr (.inr (11, 205))), some (.inl x3)] [] M := by
  intro n x3 M h
  cases n with
  | zero => cases h
  | succ n =>
    exact am_seg_ok (sws := am_w345) (sem := sL_1090 z) (cd := cdL_1090 ++ cdL_h) (cut := ([(18, [true, true, true, true])] : List (Nat × List Bool))) (kap := (fun pc al st M => (match Nat.beq pc 18 with
      | true => (match al, st with
        | [some (.inr (.inr (62, 5200))), some (.inr (.inr (10, 0))), some (.inr (.inr (11, 205))), some (.inl x3)], [] => k18 x3 M
        | _, _ => none)
      | false => none))) (hsL_1090 z) F hR kcdL2_1090 (by rw [am_l345]; decide) (fun pc al st M hk => by
      try dsimp only at hk
      split at hk
      · rename_i he
        rw [am_beq he]
        split at hk
        · exact hk18 _ _ hk
        · cases hk
      · cases hk) 19 1090 _ _ _ h
def cdL_1113 : List am_E := [(1113, .aload_n 1, 1, 1, 0, 0, 0), (1114, .invokevirtual 141, 3, 114, 10000, 0, 0), (1117, .aload_n 2, 1, 2, 0, 0, 0), (1118, .invokevirtual 144, 3, 262, 11000, 0, 0), (1121, .if_icmp .eq 1310, 3, 2431, 0, 0, 0), (1124, .iconst 0, 1, 0, 0, 0, 0), (1125, .ireturn, 1, 0, 0, 0, 0)]
set_option maxRecDepth 100000 in
theorem kcdL_1113 : cdL_1113.all (am_chk am_w345 345) = true := by decide +kernel
theorem kcdL2_1113 : (cdL_1113 ++ cdL_h).all (am_chk am_w345 345) = true := by
  simp only [List.all_append, kcdL_1113, kcdL_h, Bool.and_self]
def sL_1113 (z : Nat) : Nat → List aV → aM → Option aR := fun j => (match Nat.beq j 114 with
  | true => F114 z
  | false => (match Nat.beq j 262 with
  | true => F262 z
  | false => (fun _ _ => none)))
theorem hsL_1113 (z : Nat) : ∀ j2 : Nat, ∃ d2 : Nat, d2 + 1 ≤ 14 ∧ am_Snd d2 j2 (sL_1113 z j2) := by
  intro j2
  unfold sL_1113
  split
  · rename_i he
    rw [am_beq he]
    exact ⟨_, by decide, S114 z⟩
  · skip
    split
    · rename_i he
      rw [am_beq he]
      exact ⟨_, by decide, S262 z⟩
    · skip
      exact ⟨0, by decide, am_Snd_no j2⟩
/-- the law, case [31] -/
def f345_1113 (z nL : Nat) (xs : Nat → Int32) (k18 : Int32 → aM → Option aR) : Nat → Int32 → aM → Option aR
  | 0, _, _ => none
  | n + 1, x3, M =>
    am_bi (f114 z M) fun v2 M1 =>
      am_bi (f262 z M1) fun v4 M3 =>
        if v2 = v4 then
          k18 (x3 + (6 : Int32)) M3
        else
          some (some (.inl ((0 : Int32) &&& 1)), M3)
set_option maxRecDepth 100000 in
set_option maxHeartbeats 4000000 in
theorem e345_1113 (z nL : Nat) (xs : Nat → Int32) {p : Program} {l : Launch} {e : Env} {R : Room} {s : State} {m : MethodId} {args : Array Value} {below : List Frame} {meth : Method} {c : Code} {C : aC} {Q : State → Prop} {ce sl : Nat} (F : am_F (some (nL, xs)) p R s m args c C 345 14 ce sl) (r : aR) (hR : am_HR p l e R s m args below meth c C 345 (am_ml 345) ce sl 1 Q r) (k18 : Int32 → aM → Option aR) (hk18 : ∀ (x3 : Int32) (M : aM), k18 x3 M = some r → am_Wd p l e R s m args below meth c C (am_ml 345) ce sl Q 18 [some (.inr (.inr (62, 5200))), some (.inr (.inr (10, 0))), some (.inr (.inr (11, 205))), some (.inl x3)] [] M) : ∀ (n : Nat) (x3 : Int32) (M : aM), f345_1113 z nL xs k18 n x3 M = some r → am_Wd p l e R s m args below meth c C (am_ml 345) ce sl Q 1113 [some (.inr (.inr (62, 5200))), some (.inr (.inr (10, 0))), some (.inr (.inr (11, 205))), some (.inl x3)] [] M := by
  intro n x3 M h
  cases n with
  | zero => cases h
  | succ n =>
    exact am_seg_ok (sws := am_w345) (sem := sL_1113 z) (cd := cdL_1113 ++ cdL_h) (cut := ([(18, [true, true, true, true])] : List (Nat × List Bool))) (kap := (fun pc al st M => (match Nat.beq pc 18 with
      | true => (match al, st with
        | [some (.inr (.inr (62, 5200))), some (.inr (.inr (10, 0))), some (.inr (.inr (11, 205))), some (.inl x3)], [] => k18 x3 M
        | _, _ => none)
      | false => none))) (hsL_1113 z) F hR kcdL2_1113 (by rw [am_l345]; decide) (fun pc al st M hk => by
      try dsimp only at hk
      split at hk
      · rename_i he
        rw [am_beq he]
        split at hk
        · exact hk18 _ _ hk
        · cases hk
      · cases hk) 9 1113 _ _ _ h
def cdL_1126 : List am_E := [(1126, .aload_n 1, 1, 1, 0, 0, 0), (1127, .aload_n 0, 1, 0, 0, 0, 0), (1128, .iload_n 3, 1, 3, 0, 0, 0), (1129, .iconst 1, 1, 0, 0, 1, 0), (1130, .iadd, 1, 0, 0, 0, 0), (1131, .iaload, 1, 0, 0, 0, 0), (1132, .aload_n 0, 1, 0, 0, 0, 0), (1133, .iload_n 3, 1, 3, 0, 0, 0), (1134, .iconst 2, 1, 0, 0, 2, 0), (1135, .iadd, 1, 0, 0, 0, 0), (1136, .iaload, 1, 0, 0, 0, 0), (1137, .aload_n 0, 1, 0, 0, 0, 0), (1138, .iload_n 3, 1, 3, 0, 0, 0), (1139, .iconst 3, 1, 0, 0, 3, 0), (1140, .iadd, 1, 0, 0, 0, 0), (1141, .iaload, 1, 0, 0, 0, 0), (1142, .invokevirtual 145, 3, 116, 10030, 0, 0), (1145, .aload_n 2, 1, 2, 0, 0, 0), (1146, .aload_n 0, 1, 0, 0, 0, 0), (1147, .iload_n 3, 1, 3, 0, 0, 0), (1148, .iconst 1, 1, 0, 0, 1, 0), (1149, .iadd, 1, 0, 0, 0, 0), (1150, .iaload, 1, 0, 0, 0, 0), (1151, .aload_n 0, 1, 0, 0, 0, 0), (1152, .iload_n 3, 1, 3, 0, 0, 0), (1153, .iconst 2, 1, 0, 0, 2, 0), (1154, .iadd, 1, 0, 0, 0, 0), (1155, .iaload, 1, 0, 0, 0, 0), (1156, .aload_n 0, 1, 0, 0, 0, 0), (1157, .iload_n 3, 1, 3, 0, 0, 0), (1158, .iconst 3, 1, 0, 0, 3, 0), (1159, .iadd, 1, 0, 0, 0, 0), (1160, .iaload, 1, 0, 0, 0, 0), (1161, .invokevirtual 149, 3, 265, 11030, 0, 0), (1164, .if_icmp .eq 1267, 3, 2431, 0, 0, 0), (1167, .iconst 0, 1, 0, 0, 0, 0), (1168, .ireturn, 1, 0, 0, 0, 0)]
set_option maxRecDepth 100000 in
theorem kcdL_1126 : cdL_1126.all (am_chk am_w345 345) = true := by decide +kernel
theorem kcdL2_1126 : (cdL_1126 ++ cdL_h).all (am_chk am_w345 345) = true := by
  simp only [List.all_append, kcdL_1126, kcdL_h, Bool.and_self]
def sL_1126 (z : Nat) : Nat → List aV → aM → Option aR := fun j => (match Nat.beq j 116 with
  | true => F116 z
  | false => (match Nat.beq j 265 with
  | true => F265 z
  | false => (fun _ _ => none)))
theorem hsL_1126 (z : Nat) : ∀ j2 : Nat, ∃ d2 : Nat, d2 + 1 ≤ 14 ∧ am_Snd d2 j2 (sL_1126 z j2) := by
  intro j2
  unfold sL_1126
  split
  · rename_i he
    rw [am_beq he]
    exact ⟨_, by decide, S116 z⟩
  · skip
    split
    · rename_i he
      rw [am_beq he]
      exact ⟨_, by decide, S265 z⟩
    · skip
      exact ⟨0, by decide, am_Snd_no j2⟩
/-- the law, case [32] -/
def f345_1126 (z nL : Nat) (xs : Nat → Int32) (k18 : Int32 → aM → Option aR) : Nat → Int32 → aM → Option aR
  | 0, _, _ => none
  | n + 1, x3, M =>
    if am_inB (x3 + (1 : Int32)) nL then
      if am_inB (x3 + (2 : Int32)) nL then
        if am_inB (x3 + (3 : Int32)) nL then
          am_bi (f116 z (xs (x3 + (1 : Int32)).toNatClampNeg) (xs (x3 + (2 : Int32)).toNatClampNeg) (xs (x3 + (3 : Int32)).toNatClampNeg) M) fun v2 M1 =>
            if am_inB (x3 + (1 : Int32)) nL then
              if am_inB (x3 + (2 : Int32)) nL then
                if am_inB (x3 + (3 : Int32)) nL then
                  am_bi (f265 z (xs (x3 + (1 : Int32)).toNatClampNeg) (xs (x3 + (2 : Int32)).toNatClampNeg) (xs (x3 + (3 : Int32)).toNatClampNeg) M1) fun v4 M3 =>
                    if v2 = v4 then
                      k18 (x3 + (6 : Int32)) M3
                    else
                      some (some (.inl ((0 : Int32) &&& 1)), M3)
                else
                  none
              else
                none
            else
              none
        else
          none
      else
        none
    else
      none
set_option maxRecDepth 100000 in
set_option maxHeartbeats 4000000 in
theorem e345_1126 (z nL : Nat) (xs : Nat → Int32) {p : Program} {l : Launch} {e : Env} {R : Room} {s : State} {m : MethodId} {args : Array Value} {below : List Frame} {meth : Method} {c : Code} {C : aC} {Q : State → Prop} {ce sl : Nat} (F : am_F (some (nL, xs)) p R s m args c C 345 14 ce sl) (r : aR) (hR : am_HR p l e R s m args below meth c C 345 (am_ml 345) ce sl 1 Q r) (k18 : Int32 → aM → Option aR) (hk18 : ∀ (x3 : Int32) (M : aM), k18 x3 M = some r → am_Wd p l e R s m args below meth c C (am_ml 345) ce sl Q 18 [some (.inr (.inr (62, 5200))), some (.inr (.inr (10, 0))), some (.inr (.inr (11, 205))), some (.inl x3)] [] M) : ∀ (n : Nat) (x3 : Int32) (M : aM), f345_1126 z nL xs k18 n x3 M = some r → am_Wd p l e R s m args below meth c C (am_ml 345) ce sl Q 1126 [some (.inr (.inr (62, 5200))), some (.inr (.inr (10, 0))), some (.inr (.inr (11, 205))), some (.inl x3)] [] M := by
  intro n x3 M h
  cases n with
  | zero => cases h
  | succ n =>
    exact am_seg_ok (sws := am_w345) (sem := sL_1126 z) (cd := cdL_1126 ++ cdL_h) (cut := ([(18, [true, true, true, true])] : List (Nat × List Bool))) (kap := (fun pc al st M => (match Nat.beq pc 18 with
      | true => (match al, st with
        | [some (.inr (.inr (62, 5200))), some (.inr (.inr (10, 0))), some (.inr (.inr (11, 205))), some (.inl x3)], [] => k18 x3 M
        | _, _ => none)
      | false => none))) (hsL_1126 z) F hR kcdL2_1126 (by rw [am_l345]; decide) (fun pc al st M hk => by
      try dsimp only at hk
      split at hk
      · rename_i he
        rw [am_beq he]
        split at hk
        · exact hk18 _ _ hk
        · cases hk
      · cases hk) 39 1126 _ _ _ h
def cdL_1169 : List am_E := [(1169, .aload_n 1, 1, 1, 0, 0, 0), (1170, .aload_n 0, 1, 0, 0, 0, 0), (1171, .iload_n 3, 1, 3, 0, 0, 0), (1172, .iconst 1, 1, 0, 0, 1, 0), (1173, .iadd, 1, 0, 0, 0, 0), (1174, .iaload, 1, 0, 0, 0, 0), (1175, .aload_n 0, 1, 0, 0, 0, 0), (1176, .iload_n 3, 1, 3, 0, 0, 0), (1177, .iconst 2, 1, 0, 0, 2, 0), (1178, .iadd, 1, 0, 0, 0, 0), (1179, .iaload, 1, 0, 0, 0, 0), (1180, .aload_n 0, 1, 0, 0, 0, 0), (1181, .iload_n 3, 1, 3, 0, 0, 0), (1182, .iconst 3, 1, 0, 0, 3, 0), (1183, .iadd, 1, 0, 0, 0, 0), (1184, .iaload, 1, 0, 0, 0, 0), (1185, .aload_n 0, 1, 0, 0, 0, 0), (1186, .iload_n 3, 1, 3, 0, 0, 0), (1187, .iconst 4, 1, 0, 0, 4, 0), (1188, .iadd, 1, 0, 0, 0, 0), (1189, .iaload, 1, 0, 0, 0, 0), (1190, .invokevirtual 150, 3, 117, 10040, 0, 0), (1193, .aload_n 2, 1, 2, 0, 0, 0), (1194, .aload_n 0, 1, 0, 0, 0, 0), (1195, .iload_n 3, 1, 3, 0, 0, 0), (1196, .iconst 1, 1, 0, 0, 1, 0), (1197, .iadd, 1, 0, 0, 0, 0), (1198, .iaload, 1, 0, 0, 0, 0), (1199, .aload_n 0, 1, 0, 0, 0, 0), (1200, .iload_n 3, 1, 3, 0, 0, 0), (1201, .iconst 2, 1, 0, 0, 2, 0), (1202, .iadd, 1, 0, 0, 0, 0), (1203, .iaload, 1, 0, 0, 0, 0), (1204, .aload_n 0, 1, 0, 0, 0, 0), (1205, .iload_n 3, 1, 3, 0, 0, 0), (1206, .iconst 3, 1, 0, 0, 3, 0), (1207, .iadd, 1, 0, 0, 0, 0), (1208, .iaload, 1, 0, 0, 0, 0), (1209, .aload_n 0, 1, 0, 0, 0, 0), (1210, .iload_n 3, 1, 3, 0, 0, 0), (1211, .iconst 4, 1, 0, 0, 4, 0), (1212, .iadd, 1, 0, 0, 0, 0), (1213, .iaload, 1, 0, 0, 0, 0), (1214, .invokevirtual 154, 3, 266, 11040, 0, 0), (1217, .if_icmp .eq 1214, 3, 2431, 0, 0, 0), (1220, .iconst 0, 1, 0, 0, 0, 0), (1221, .ireturn, 1, 0, 0, 0, 0)]
set_option maxRecDepth 100000 in
theorem kcdL_1169 : cdL_1169.all (am_chk am_w345 345) = true := by decide +kernel
theorem kcdL2_1169 : (cdL_1169 ++ cdL_h).all (am_chk am_w345 345) = true := by
  simp only [List.all_append, kcdL_1169, kcdL_h, Bool.and_self]
def sL_1169 (z : Nat) : Nat → List aV → aM → Option aR := fun j => (match Nat.beq j 117 with
  | true => F117 z
  | false => (match Nat.beq j 266 with
  | true => F266 z
  | false => (fun _ _ => none)))
theorem hsL_1169 (z : Nat) : ∀ j2 : Nat, ∃ d2 : Nat, d2 + 1 ≤ 14 ∧ am_Snd d2 j2 (sL_1169 z j2) := by
  intro j2
  unfold sL_1169
  split
  · rename_i he
    rw [am_beq he]
    exact ⟨_, by decide, S117 z⟩
  · skip
    split
    · rename_i he
      rw [am_beq he]
      exact ⟨_, by decide, S266 z⟩
    · skip
      exact ⟨0, by decide, am_Snd_no j2⟩
/-- the law, case [33] -/
def f345_1169 (z nL : Nat) (xs : Nat → Int32) (k18 : Int32 → aM → Option aR) : Nat → Int32 → aM → Option aR
  | 0, _, _ => none
  | n + 1, x3, M =>
    if am_inB (x3 + (1 : Int32)) nL then
      if am_inB (x3 + (2 : Int32)) nL then
        if am_inB (x3 + (3 : Int32)) nL then
          if am_inB (x3 + (4 : Int32)) nL then
            am_bi (f117 z (xs (x3 + (1 : Int32)).toNatClampNeg) (xs (x3 + (2 : Int32)).toNatClampNeg) (xs (x3 + (3 : Int32)).toNatClampNeg) (xs (x3 + (4 : Int32)).toNatClampNeg) M) fun v2 M1 =>
              if am_inB (x3 + (1 : Int32)) nL then
                if am_inB (x3 + (2 : Int32)) nL then
                  if am_inB (x3 + (3 : Int32)) nL then
                    if am_inB (x3 + (4 : Int32)) nL then
                      am_bi (f266 z (xs (x3 + (1 : Int32)).toNatClampNeg) (xs (x3 + (2 : Int32)).toNatClampNeg) (xs (x3 + (3 : Int32)).toNatClampNeg) (xs (x3 + (4 : Int32)).toNatClampNeg) M1) fun v4 M3 =>
                        if v2 = v4 then
                          k18 (x3 + (6 : Int32)) M3
                        else
                          some (some (.inl ((0 : Int32) &&& 1)), M3)
                    else
                      none
                  else
                    none
                else
                  none
              else
                none
          else
            none
        else
          none
      else
        none
    else
      none
set_option maxRecDepth 100000 in
set_option maxHeartbeats 4000000 in
theorem e345_1169 (z nL : Nat) (xs : Nat → Int32) {p : Program} {l : Launch} {e : Env} {R : Room} {s : State} {m : MethodId} {args : Array Value} {below : List Frame} {meth : Method} {c : Code} {C : aC} {Q : State → Prop} {ce sl : Nat} (F : am_F (some (nL, xs)) p R s m args c C 345 14 ce sl) (r : aR) (hR : am_HR p l e R s m args below meth c C 345 (am_ml 345) ce sl 1 Q r) (k18 : Int32 → aM → Option aR) (hk18 : ∀ (x3 : Int32) (M : aM), k18 x3 M = some r → am_Wd p l e R s m args below meth c C (am_ml 345) ce sl Q 18 [some (.inr (.inr (62, 5200))), some (.inr (.inr (10, 0))), some (.inr (.inr (11, 205))), some (.inl x3)] [] M) : ∀ (n : Nat) (x3 : Int32) (M : aM), f345_1169 z nL xs k18 n x3 M = some r → am_Wd p l e R s m args below meth c C (am_ml 345) ce sl Q 1169 [some (.inr (.inr (62, 5200))), some (.inr (.inr (10, 0))), some (.inr (.inr (11, 205))), some (.inl x3)] [] M := by
  intro n x3 M h
  cases n with
  | zero => cases h
  | succ n =>
    exact am_seg_ok (sws := am_w345) (sem := sL_1169 z) (cd := cdL_1169 ++ cdL_h) (cut := ([(18, [true, true, true, true])] : List (Nat × List Bool))) (kap := (fun pc al st M => (match Nat.beq pc 18 with
      | true => (match al, st with
        | [some (.inr (.inr (62, 5200))), some (.inr (.inr (10, 0))), some (.inr (.inr (11, 205))), some (.inl x3)], [] => k18 x3 M
        | _, _ => none)
      | false => none))) (hsL_1169 z) F hR kcdL2_1169 (by rw [am_l345]; decide) (fun pc al st M hk => by
      try dsimp only at hk
      split at hk
      · rename_i he
        rw [am_beq he]
        split at hk
        · exact hk18 _ _ hk
        · cases hk
      · cases hk) 49 1169 _ _ _ h
def cdL_1222 : List am_E := [(1222, .aload_n 1, 1, 1, 0, 0, 0), (1223, .aload_n 0, 1, 0, 0, 0, 0), (1224, .iload_n 3, 1, 3, 0, 0, 0), (1225, .iconst 1, 1, 0, 0, 1, 0), (1226, .iadd, 1, 0, 0, 0, 0), (1227, .iaload, 1, 0, 0, 0, 0), (1228, .aload_n 0, 1, 0, 0, 0, 0), (1229, .iload_n 3, 1, 3, 0, 0, 0), (1230, .iconst 2, 1, 0, 0, 2, 0), (1231, .iadd, 1, 0, 0, 0, 0), (1232, .iaload, 1, 0, 0, 0, 0), (1233, .aload_n 0, 1, 0, 0, 0, 0), (1234, .iload_n 3, 1, 3, 0, 0, 0), (1235, .iconst 3, 1, 0, 0, 3, 0), (1236, .iadd, 1, 0, 0, 0, 0), (1237, .iaload, 1, 0, 0, 0, 0), (1238, .invokevirtual 155, 3, 118, 10030, 0, 0), (1241, .aload_n 2, 1, 2, 0, 0, 0), (1242, .aload_n 0, 1, 0, 0, 0, 0), (1243, .iload_n 3, 1, 3, 0, 0, 0), (1244, .iconst 1, 1, 0, 0, 1, 0), (1245, .iadd, 1, 0, 0, 0, 0), (1246, .iaload, 1, 0, 0, 0, 0), (1247, .aload_n 0, 1, 0, 0, 0, 0), (1248, .iload_n 3, 1, 3, 0, 0, 0), (1249, .iconst 2, 1, 0, 0, 2, 0), (1250, .iadd, 1, 0, 0, 0, 0), (1251, .iaload, 1, 0, 0, 0, 0), (1252, .aload_n 0, 1, 0, 0, 0, 0), (1253, .iload_n 3, 1, 3, 0, 0, 0), (1254, .iconst 3, 1, 0, 0, 3, 0), (1255, .iadd, 1, 0, 0, 0, 0), (1256, .iaload, 1, 0, 0, 0, 0), (1257, .invokevirtual 158, 3, 267, 11030, 0, 0), (1260, .if_icmp .eq 1171, 3, 2431, 0, 0, 0), (1263, .iconst 0, 1, 0, 0, 0, 0), (1264, .ireturn, 1, 0, 0, 0, 0)]
set_option maxRecDepth 100000 in
theorem kcdL_1222 : cdL_1222.all (am_chk am_w345 345) = true := by decide +kernel
theorem kcdL2_1222 : (cdL_1222 ++ cdL_h).all (am_chk am_w345 345) = true := by
  simp only [List.all_append, kcdL_1222, kcdL_h, Bool.and_self]
def sL_1222 (z : Nat) : Nat → List aV → aM → Option aR := fun j => (match Nat.beq j 118 with
  | true => F118 z
  | false => (match Nat.beq j 267 with
  | true => F267 z
  | false => (fun _ _ => none)))
theorem hsL_1222 (z : Nat) : ∀ j2 : Nat, ∃ d2 : Nat, d2 + 1 ≤ 14 ∧ am_Snd d2 j2 (sL_1222 z j2) := by
  intro j2
  unfold sL_1222
  split
  · rename_i he
    rw [am_beq he]
    exact ⟨_, by decide, S118 z⟩
  · skip
    split
    · rename_i he
      rw [am_beq he]
      exact ⟨_, by decide, S267 z⟩
    · skip
      exact ⟨0, by decide, am_Snd_no j2⟩
/-- the law, case [34] -/
def f345_1222 (z nL : Nat) (xs : Nat → Int32) (k18 : Int32 → aM → Option aR) : Nat → Int32 → aM → Option aR
  | 0, _, _ => none
  | n + 1, x3, M =>
    if am_inB (x3 + (1 : Int32)) nL then
      if am_inB (x3 + (2 : Int32)) nL then
        if am_inB (x3 + (3 : Int32)) nL then
          am_bi (f118 z (xs (x3 + (1 : Int32)).toNatClampNeg) (xs (x3 + (2 : Int32)).toNatClampNeg) (xs (x3 + (3 : Int32)).toNatClampNeg) M) fun v2 M1 =>
            if am_inB (x3 + (1 : Int32)) nL then
              if am_inB (x3 + (2 : Int32)) nL then
                if am_inB (x3 + (3 : Int32)) nL then
                  am_bi (f267 z (xs (x3 + (1 : Int32)).toNatClampNeg) (xs (x3 + (2 : Int32)).toNatClampNeg) (xs (x3 + (3 : Int32)).toNatClampNeg) M1) fun v4 M3 =>
                    if v2 = v4 then
                      k18 (x3 + (6 : Int32)) M3
                    else
                      some (some (.inl ((0 : Int32) &&& 1)), M3)
                else
                  none
              else
                none
            else
              none
        else
          none
      else
        none
    else
      none
set_option maxRecDepth 100000 in
set_option maxHeartbeats 4000000 in
theorem e345_1222 (z nL : Nat) (xs : Nat → Int32) {p : Program} {l : Launch} {e : Env} {R : Room} {s : State} {m : MethodId} {args : Array Value} {below : List Frame} {meth : Method} {c : Code} {C : aC} {Q : State → Prop} {ce sl : Nat} (F : am_F (some (nL, xs)) p R s m args c C 345 14 ce sl) (r : aR) (hR : am_HR p l e R s m args below meth c C 345 (am_ml 345) ce sl 1 Q r) (k18 : Int32 → aM → Option aR) (hk18 : ∀ (x3 : Int32) (M : aM), k18 x3 M = some r → am_Wd p l e R s m args below meth c C (am_ml 345) ce sl Q 18 [some (.inr (.inr (62, 5200))), some (.inr (.inr (10, 0))), some (.inr (.inr (11, 205))), some (.inl x3)] [] M) : ∀ (n : Nat) (x3 : Int32) (M : aM), f345_1222 z nL xs k18 n x3 M = some r → am_Wd p l e R s m args below meth c C (am_ml 345) ce sl Q 1222 [some (.inr (.inr (62, 5200))), some (.inr (.inr (10, 0))), some (.inr (.inr (11, 205))), some (.inl x3)] [] M := by
  intro n x3 M h
  cases n with
  | zero => cases h
  | succ n =>
    exact am_seg_ok (sws := am_w345) (sem := sL_1222 z) (cd := cdL_1222 ++ cdL_h) (cut := ([(18, [true, true, true, true])] : List (Nat × List Bool))) (kap := (fun pc al st M => (match Nat.beq pc 18 with
      | true => (match al, st with
        | [some (.inr (.inr (62, 5200))), some (.inr (.inr (10, 0))), some (.inr (.inr (11, 205))), some (.inl x3)], [] => k18 x3 M
        | _, _ => none)
      | false => none))) (hsL_1222 z) F hR kcdL2_1222 (by rw [am_l345]; decide) (fun pc al st M hk => by
      try dsimp only at hk
      split at hk
      · rename_i he
        rw [am_beq he]
        split at hk
        · exact hk18 _ _ hk
        · cases hk
      · cases hk) 39 1222 _ _ _ h
def cdL_1265 : List am_E := [(1265, .aload_n 1, 1, 1, 0, 0, 0), (1266, .aload_n 0, 1, 0, 0, 0, 0), (1267, .iload_n 3, 1, 3, 0, 0, 0), (1268, .iconst 1, 1, 0, 0, 1, 0), (1269, .iadd, 1, 0, 0, 0, 0), (1270, .iaload, 1, 0, 0, 0, 0), (1271, .aload_n 0, 1, 0, 0, 0, 0), (1272, .iload_n 3, 1, 3, 0, 0, 0), (1273, .iconst 2, 1, 0, 0, 2, 0), (1274, .iadd, 1, 0, 0, 0, 0), (1275, .iaload, 1, 0, 0, 0, 0), (1276, .invokevirtual 159, 3, 119, 10020, 0, 0), (1279, .aload_n 2, 1, 2, 0, 0, 0), (1280, .aload_n 0, 1, 0, 0, 0, 0), (1281, .iload_n 3, 1, 3, 0, 0, 0), (1282, .iconst 1, 1, 0, 0, 1, 0), (1283, .iadd, 1, 0, 0, 0, 0), (1284, .iaload, 1, 0, 0, 0, 0), (1285, .aload_n 0, 1, 0, 0, 0, 0), (1286, .iload_n 3, 1, 3, 0, 0, 0), (1287, .iconst 2, 1, 0, 0, 2, 0), (1288, .iadd, 1, 0, 0, 0, 0), (1289, .iaload, 1, 0, 0, 0, 0), (1290, .invokevirtual 162, 3, 270, 11020, 0, 0), (1293, .if_icmp .eq 1138, 3, 2431, 0, 0, 0), (1296, .iconst 0, 1, 0, 0, 0, 0), (1297, .ireturn, 1, 0, 0, 0, 0)]
set_option maxRecDepth 100000 in
theorem kcdL_1265 : cdL_1265.all (am_chk am_w345 345) = true := by decide +kernel
theorem kcdL2_1265 : (cdL_1265 ++ cdL_h).all (am_chk am_w345 345) = true := by
  simp only [List.all_append, kcdL_1265, kcdL_h, Bool.and_self]
def sL_1265 (z : Nat) : Nat → List aV → aM → Option aR := fun j => (match Nat.beq j 119 with
  | true => F119 z
  | false => (match Nat.beq j 270 with
  | true => F270 z
  | false => (fun _ _ => none)))
theorem hsL_1265 (z : Nat) : ∀ j2 : Nat, ∃ d2 : Nat, d2 + 1 ≤ 14 ∧ am_Snd d2 j2 (sL_1265 z j2) := by
  intro j2
  unfold sL_1265
  split
  · rename_i he
    rw [am_beq he]
    exact ⟨_, by decide, S119 z⟩
  · skip
    split
    · rename_i he
      rw [am_beq he]
      exact ⟨_, by decide, S270 z⟩
    · skip
      exact ⟨0, by decide, am_Snd_no j2⟩
/-- the law, case [35] -/
def f345_1265 (z nL : Nat) (xs : Nat → Int32) (k18 : Int32 → aM → Option aR) : Nat → Int32 → aM → Option aR
  | 0, _, _ => none
  | n + 1, x3, M =>
    if am_inB (x3 + (1 : Int32)) nL then
      if am_inB (x3 + (2 : Int32)) nL then
        am_bi (f119 z (xs (x3 + (1 : Int32)).toNatClampNeg) (xs (x3 + (2 : Int32)).toNatClampNeg) M) fun v2 M1 =>
          if am_inB (x3 + (1 : Int32)) nL then
            if am_inB (x3 + (2 : Int32)) nL then
              am_bi (f270 z (xs (x3 + (1 : Int32)).toNatClampNeg) (xs (x3 + (2 : Int32)).toNatClampNeg) M1) fun v4 M3 =>
                if v2 = v4 then
                  k18 (x3 + (6 : Int32)) M3
                else
                  some (some (.inl ((0 : Int32) &&& 1)), M3)
            else
              none
          else
            none
      else
        none
    else
      none
set_option maxRecDepth 100000 in
set_option maxHeartbeats 4000000 in
theorem e345_1265 (z nL : Nat) (xs : Nat → Int32) {p : Program} {l : Launch} {e : Env} {R : Room} {s : State} {m : MethodId} {args : Array Value} {below : List Frame} {meth : Method} {c : Code} {C : aC} {Q : State → Prop} {ce sl : Nat} (F : am_F (some (nL, xs)) p R s m args c C 345 14 ce sl) (r : aR) (hR : am_HR p l e R s m args below meth c C 345 (am_ml 345) ce sl 1 Q r) (k18 : Int32 → aM → Option aR) (hk18 : ∀ (x3 : Int32) (M : aM), k18 x3 M = some r → am_Wd p l e R s m args below meth c C (am_ml 345) ce sl Q 18 [some (.inr (.inr (62, 5200))), some (.inr (.inr (10, 0))), some (.inr (.inr (11, 205))), some (.inl x3)] [] M) : ∀ (n : Nat) (x3 : Int32) (M : aM), f345_1265 z nL xs k18 n x3 M = some r → am_Wd p l e R s m args below meth c C (am_ml 345) ce sl Q 1265 [some (.inr (.inr (62, 5200))), some (.inr (.inr (10, 0))), some (.inr (.inr (11, 205))), some (.inl x3)] [] M := by
  intro n x3 M h
  cases n with
  | zero => cases h
  | succ n =>
    exact am_seg_ok (sws := am_w345) (sem := sL_1265 z) (cd := cdL_1265 ++ cdL_h) (cut := ([(18, [true, true, true, true])] : List (Nat × List Bool))) (kap := (fun pc al st M => (match Nat.beq pc 18 with
      | true => (match al, st with
        | [some (.inr (.inr (62, 5200))), some (.inr (.inr (10, 0))), some (.inr (.inr (11, 205))), some (.inl x3)], [] => k18 x3 M
        | _, _ => none)
      | false => none))) (hsL_1265 z) F hR kcdL2_1265 (by rw [am_l345]; decide) (fun pc al st M hk => by
      try dsimp only at hk
      split at hk
      · rename_i he
        rw [am_beq he]
        split at hk
        · exact hk18 _ _ hk
        · cases hk
      · cases hk) 29 1265 _ _ _ h
def cdL_1298 : List am_E := [(1298, .aload_n 1, 1, 1, 0, 0, 0), (1299, .aload_n 0, 1, 0, 0, 0, 0), (1300, .iload_n 3, 1, 3, 0, 0, 0), (1301, .iconst 1, 1, 0, 0, 1, 0), (1302, .iadd, 1, 0, 0, 0, 0), (1303, .iaload, 1, 0, 0, 0, 0), (1304, .invokevirtual 163, 3, 120, 10010, 0, 0), (1307, .aload_n 2, 1, 2, 0, 0, 0), (1308, .aload_n 0, 1, 0, 0, 0, 0), (1309, .iload_n 3, 1, 3, 0, 0, 0), (1310, .iconst 1, 1, 0, 0, 1, 0), (1311, .iadd, 1, 0, 0, 0, 0), (1312, .iaload, 1, 0, 0, 0, 0), (1313, .invokevirtual 166, 3, 272, 11010, 0, 0), (1316, .if_icmp .eq 1115, 3, 2431, 0, 0, 0), (1319, .iconst 0, 1, 0, 0, 0, 0), (1320, .ireturn, 1, 0, 0, 0, 0)]
set_option maxRecDepth 100000 in
theorem kcdL_1298 : cdL_1298.all (am_chk am_w345 345) = true := by decide +kernel
theorem kcdL2_1298 : (cdL_1298 ++ cdL_h).all (am_chk am_w345 345) = true := by
  simp only [List.all_append, kcdL_1298, kcdL_h, Bool.and_self]
def sL_1298 (z : Nat) : Nat → List aV → aM → Option aR := fun j => (match Nat.beq j 120 with
  | true => F120 z
  | false => (match Nat.beq j 272 with
  | true => F272 z
  | false => (fun _ _ => none)))
theorem hsL_1298 (z : Nat) : ∀ j2 : Nat, ∃ d2 : Nat, d2 + 1 ≤ 14 ∧ am_Snd d2 j2 (sL_1298 z j2) := by
  intro j2
  unfold sL_1298
  split
  · rename_i he
    rw [am_beq he]
    exact ⟨_, by decide, S120 z⟩
  · skip
    split
    · rename_i he
      rw [am_beq he]
      exact ⟨_, by decide, S272 z⟩
    · skip
      exact ⟨0, by decide, am_Snd_no j2⟩
/-- the law, case [36] -/
def f345_1298 (z nL : Nat) (xs : Nat → Int32) (k18 : Int32 → aM → Option aR) : Nat → Int32 → aM → Option aR
  | 0, _, _ => none
  | n + 1, x3, M =>
    if am_inB (x3 + (1 : Int32)) nL then
      am_bi (f120 z (xs (x3 + (1 : Int32)).toNatClampNeg) M) fun v2 M1 =>
        if am_inB (x3 + (1 : Int32)) nL then
          am_bi (f272 z (xs (x3 + (1 : Int32)).toNatClampNeg) M1) fun v4 M3 =>
            if v2 = v4 then
              k18 (x3 + (6 : Int32)) M3
            else
              some (some (.inl ((0 : Int32) &&& 1)), M3)
        else
          none
    else
      none
set_option maxRecDepth 100000 in
set_option maxHeartbeats 4000000 in
theorem e345_1298 (z nL : Nat) (xs : Nat → Int32) {p : Program} {l : Launch} {e : Env} {R : Room} {s : State} {m : MethodId} {args : Array Value} {below : List Frame} {meth : Method} {c : Code} {C : aC} {Q : State → Prop} {ce sl : Nat} (F : am_F (some (nL, xs)) p R s m args c C 345 14 ce sl) (r : aR) (hR : am_HR p l e R s m args below meth c C 345 (am_ml 345) ce sl 1 Q r) (k18 : Int32 → aM → Option aR) (hk18 : ∀ (x3 : Int32) (M : aM), k18 x3 M = some r → am_Wd p l e R s m args below meth c C (am_ml 345) ce sl Q 18 [some (.inr (.inr (62, 5200))), some (.inr (.inr (10, 0))), some (.inr (.inr (11, 205))), some (.inl x3)] [] M) : ∀ (n : Nat) (x3 : Int32) (M : aM), f345_1298 z nL xs k18 n x3 M = some r → am_Wd p l e R s m args below meth c C (am_ml 345) ce sl Q 1298 [some (.inr (.inr (62, 5200))), some (.inr (.inr (10, 0))), some (.inr (.inr (11, 205))), some (.inl x3)] [] M := by
  intro n x3 M h
  cases n with
  | zero => cases h
  | succ n =>
    exact am_seg_ok (sws := am_w345) (sem := sL_1298 z) (cd := cdL_1298 ++ cdL_h) (cut := ([(18, [true, true, true, true])] : List (Nat × List Bool))) (kap := (fun pc al st M => (match Nat.beq pc 18 with
      | true => (match al, st with
        | [some (.inr (.inr (62, 5200))), some (.inr (.inr (10, 0))), some (.inr (.inr (11, 205))), some (.inl x3)], [] => k18 x3 M
        | _, _ => none)
      | false => none))) (hsL_1298 z) F hR kcdL2_1298 (by rw [am_l345]; decide) (fun pc al st M hk => by
      try dsimp only at hk
      split at hk
      · rename_i he
        rw [am_beq he]
        split at hk
        · exact hk18 _ _ hk
        · cases hk
      · cases hk) 19 1298 _ _ _ h
def cdL_1321 : List am_E := [(1321, .aload_n 1, 1, 1, 0, 0, 0), (1322, .aload_n 0, 1, 0, 0, 0, 0), (1323, .iload_n 3, 1, 3, 0, 0, 0), (1324, .iconst 1, 1, 0, 0, 1, 0), (1325, .iadd, 1, 0, 0, 0, 0), (1326, .iaload, 1, 0, 0, 0, 0), (1327, .aload_n 0, 1, 0, 0, 0, 0), (1328, .iload_n 3, 1, 3, 0, 0, 0), (1329, .iconst 2, 1, 0, 0, 2, 0), (1330, .iadd, 1, 0, 0, 0, 0), (1331, .iaload, 1, 0, 0, 0, 0), (1332, .invokevirtual 167, 3, 121, 10020, 0, 0), (1335, .aload_n 2, 1, 2, 0, 0, 0), (1336, .aload_n 0, 1, 0, 0, 0, 0), (1337, .iload_n 3, 1, 3, 0, 0, 0), (1338, .iconst 1, 1, 0, 0, 1, 0), (1339, .iadd, 1, 0, 0, 0, 0), (1340, .iaload, 1, 0, 0, 0, 0), (1341, .aload_n 0, 1, 0, 0, 0, 0), (1342, .iload_n 3, 1, 3, 0, 0, 0), (1343, .iconst 2, 1, 0, 0, 2, 0), (1344, .iadd, 1, 0, 0, 0, 0), (1345, .iaload, 1, 0, 0, 0, 0), (1346, .invokevirtual 170, 3, 271, 11020, 0, 0), (1349, .if_icmp .eq 1082, 3, 2431, 0, 0, 0), (1352, .iconst 0, 1, 0, 0, 0, 0), (1353, .ireturn, 1, 0, 0, 0, 0)]
set_option maxRecDepth 100000 in
theorem kcdL_1321 : cdL_1321.all (am_chk am_w345 345) = true := by decide +kernel
theorem kcdL2_1321 : (cdL_1321 ++ cdL_h).all (am_chk am_w345 345) = true := by
  simp only [List.all_append, kcdL_1321, kcdL_h, Bool.and_self]
def sL_1321 (z : Nat) : Nat → List aV → aM → Option aR := fun j => (match Nat.beq j 121 with
  | true => F121 z
  | false => (match Nat.beq j 271 with
  | true => F271 z
  | false => (fun _ _ => none)))
theorem hsL_1321 (z : Nat) : ∀ j2 : Nat, ∃ d2 : Nat, d2 + 1 ≤ 14 ∧ am_Snd d2 j2 (sL_1321 z j2) := by
  intro j2
  unfold sL_1321
  split
  · rename_i he
    rw [am_beq he]
    exact ⟨_, by decide, S121 z⟩
  · skip
    split
    · rename_i he
      rw [am_beq he]
      exact ⟨_, by decide, S271 z⟩
    · skip
      exact ⟨0, by decide, am_Snd_no j2⟩
/-- the law, case [37] -/
def f345_1321 (z nL : Nat) (xs : Nat → Int32) (k18 : Int32 → aM → Option aR) : Nat → Int32 → aM → Option aR
  | 0, _, _ => none
  | n + 1, x3, M =>
    if am_inB (x3 + (1 : Int32)) nL then
      if am_inB (x3 + (2 : Int32)) nL then
        am_bi (f121 z (xs (x3 + (1 : Int32)).toNatClampNeg) (xs (x3 + (2 : Int32)).toNatClampNeg) M) fun v2 M1 =>
          if am_inB (x3 + (1 : Int32)) nL then
            if am_inB (x3 + (2 : Int32)) nL then
              am_bi (f271 z (xs (x3 + (1 : Int32)).toNatClampNeg) (xs (x3 + (2 : Int32)).toNatClampNeg) M1) fun v4 M3 =>
                if v2 = v4 then
                  k18 (x3 + (6 : Int32)) M3
                else
                  some (some (.inl ((0 : Int32) &&& 1)), M3)
            else
              none
          else
            none
      else
        none
    else
      none
set_option maxRecDepth 100000 in
set_option maxHeartbeats 4000000 in
theorem e345_1321 (z nL : Nat) (xs : Nat → Int32) {p : Program} {l : Launch} {e : Env} {R : Room} {s : State} {m : MethodId} {args : Array Value} {below : List Frame} {meth : Method} {c : Code} {C : aC} {Q : State → Prop} {ce sl : Nat} (F : am_F (some (nL, xs)) p R s m args c C 345 14 ce sl) (r : aR) (hR : am_HR p l e R s m args below meth c C 345 (am_ml 345) ce sl 1 Q r) (k18 : Int32 → aM → Option aR) (hk18 : ∀ (x3 : Int32) (M : aM), k18 x3 M = some r → am_Wd p l e R s m args below meth c C (am_ml 345) ce sl Q 18 [some (.inr (.inr (62, 5200))), some (.inr (.inr (10, 0))), some (.inr (.inr (11, 205))), some (.inl x3)] [] M) : ∀ (n : Nat) (x3 : Int32) (M : aM), f345_1321 z nL xs k18 n x3 M = some r → am_Wd p l e R s m args below meth c C (am_ml 345) ce sl Q 1321 [some (.inr (.inr (62, 5200))), some (.inr (.inr (10, 0))), some (.inr (.inr (11, 205))), some (.inl x3)] [] M := by
  intro n x3 M h
  cases n with
  | zero => cases h
  | succ n =>
    exact am_seg_ok (sws := am_w345) (sem := sL_1321 z) (cd := cdL_1321 ++ cdL_h) (cut := ([(18, [true, true, true, true])] : List (Nat × List Bool))) (kap := (fun pc al st M => (match Nat.beq pc 18 with
      | true => (match al, st with
        | [some (.inr (.inr (62, 5200))), some (.inr (.inr (10, 0))), some (.inr (.inr (11, 205))), some (.inl x3)], [] => k18 x3 M
        | _, _ => none)
      | false => none))) (hsL_1321 z) F hR kcdL2_1321 (by rw [am_l345]; decide) (fun pc al st M hk => by
      try dsimp only at hk
      split at hk
      · rename_i he
        rw [am_beq he]
        split at hk
        · exact hk18 _ _ hk
        · cases hk
      · cases hk) 29 1321 _ _ _ h
def cdL_1354 : List am_E := [(1354, .aload_n 1, 1, 1, 0, 0, 0), (1355, .aload_n 0, 1, 0, 0, 0, 0), (1356, .iload_n 3, 1, 3, 0, 0, 0), (1357, .iconst 1, 1, 0, 0, 1, 0), (1358, .iadd, 1, 0, 0, 0, 0), (1359, .iaload, 1, 0, 0, 0, 0), (1360, .aload_n 0, 1, 0, 0, 0, 0), (1361, .iload_n 3, 1, 3, 0, 0, 0), (1362, .iconst 2, 1, 0, 0, 2, 0), (1363, .iadd, 1, 0, 0, 0, 0), (1364, .iaload, 1, 0, 0, 0, 0), (1365, .invokevirtual 171, 3, 122, 10020, 0, 0), (1368, .aload_n 2, 1, 2, 0, 0, 0), (1369, .aload_n 0, 1, 0, 0, 0, 0), (1370, .iload_n 3, 1, 3, 0, 0, 0), (1371, .iconst 1, 1, 0, 0, 1, 0), (1372, .iadd, 1, 0, 0, 0, 0), (1373, .iaload, 1, 0, 0, 0, 0), (1374, .aload_n 0, 1, 0, 0, 0, 0), (1375, .iload_n 3, 1, 3, 0, 0, 0), (1376, .iconst 2, 1, 0, 0, 2, 0), (1377, .iadd, 1, 0, 0, 0, 0), (1378, .iaload, 1, 0, 0, 0, 0), (1379, .invokevirtual 174, 3, 274, 11020, 0, 0), (1382, .if_icmp .eq 1049, 3, 2431, 0, 0, 0), (1385, .iconst 0, 1, 0, 0, 0, 0), (1386, .ireturn, 1, 0, 0, 0, 0)]
set_option maxRecDepth 100000 in
theorem kcdL_1354 : cdL_1354.all (am_chk am_w345 345) = true := by decide +kernel
theorem kcdL2_1354 : (cdL_1354 ++ cdL_h).all (am_chk am_w345 345) = true := by
  simp only [List.all_append, kcdL_1354, kcdL_h, Bool.and_self]
def sL_1354 (z : Nat) : Nat → List aV → aM → Option aR := fun j => (match Nat.beq j 122 with
  | true => F122 z
  | false => (match Nat.beq j 274 with
  | true => F274 z
  | false => (fun _ _ => none)))
theorem hsL_1354 (z : Nat) : ∀ j2 : Nat, ∃ d2 : Nat, d2 + 1 ≤ 14 ∧ am_Snd d2 j2 (sL_1354 z j2) := by
  intro j2
  unfold sL_1354
  split
  · rename_i he
    rw [am_beq he]
    exact ⟨_, by decide, S122 z⟩
  · skip
    split
    · rename_i he
      rw [am_beq he]
      exact ⟨_, by decide, S274 z⟩
    · skip
      exact ⟨0, by decide, am_Snd_no j2⟩
/-- the law, case [38] -/
def f345_1354 (z nL : Nat) (xs : Nat → Int32) (k18 : Int32 → aM → Option aR) : Nat → Int32 → aM → Option aR
  | 0, _, _ => none
  | n + 1, x3, M =>
    if am_inB (x3 + (1 : Int32)) nL then
      if am_inB (x3 + (2 : Int32)) nL then
        am_bi (f122 z (xs (x3 + (1 : Int32)).toNatClampNeg) (xs (x3 + (2 : Int32)).toNatClampNeg) M) fun v2 M1 =>
          if am_inB (x3 + (1 : Int32)) nL then
            if am_inB (x3 + (2 : Int32)) nL then
              am_bi (f274 z (xs (x3 + (1 : Int32)).toNatClampNeg) (xs (x3 + (2 : Int32)).toNatClampNeg) M1) fun v4 M3 =>
                if v2 = v4 then
                  k18 (x3 + (6 : Int32)) M3
                else
                  some (some (.inl ((0 : Int32) &&& 1)), M3)
            else
              none
          else
            none
      else
        none
    else
      none
set_option maxRecDepth 100000 in
set_option maxHeartbeats 4000000 in
theorem e345_1354 (z nL : Nat) (xs : Nat → Int32) {p : Program} {l : Launch} {e : Env} {R : Room} {s : State} {m : MethodId} {args : Array Value} {below : List Frame} {meth : Method} {c : Code} {C : aC} {Q : State → Prop} {ce sl : Nat} (F : am_F (some (nL, xs)) p R s m args c C 345 14 ce sl) (r : aR) (hR : am_HR p l e R s m args below meth c C 345 (am_ml 345) ce sl 1 Q r) (k18 : Int32 → aM → Option aR) (hk18 : ∀ (x3 : Int32) (M : aM), k18 x3 M = some r → am_Wd p l e R s m args below meth c C (am_ml 345) ce sl Q 18 [some (.inr (.inr (62, 5200))), some (.inr (.inr (10, 0))), some (.inr (.inr (11, 205))), some (.inl x3)] [] M) : ∀ (n : Nat) (x3 : Int32) (M : aM), f345_1354 z nL xs k18 n x3 M = some r → am_Wd p l e R s m args below meth c C (am_ml 345) ce sl Q 1354 [some (.inr (.inr (62, 5200))), some (.inr (.inr (10, 0))), some (.inr (.inr (11, 205))), some (.inl x3)] [] M := by
  intro n x3 M h
  cases n with
  | zero => cases h
  | succ n =>
    exact am_seg_ok (sws := am_w345) (sem := sL_1354 z) (cd := cdL_1354 ++ cdL_h) (cut := ([(18, [true, true, true, true])] : List (Nat × List Bool))) (kap := (fun pc al st M => (match Nat.beq pc 18 with
      | true => (match al, st with
        | [some (.inr (.inr (62, 5200))), some (.inr (.inr (10, 0))), some (.inr (.inr (11, 205))), some (.inl x3)], [] => k18 x3 M
        | _, _ => none)
      | false => none))) (hsL_1354 z) F hR kcdL2_1354 (by rw [am_l345]; decide) (fun pc al st M hk => by
      try dsimp only at hk
      split at hk
      · rename_i he
        rw [am_beq he]
        split at hk
        · exact hk18 _ _ hk
        · cases hk
      · cases hk) 29 1354 _ _ _ h
def cdL_1387 : List am_E := [(1387, .aload_n 1, 1, 1, 0, 0, 0), (1388, .aload_n 0, 1, 0, 0, 0, 0), (1389, .iload_n 3, 1, 3, 0, 0, 0), (1390, .iconst 1, 1, 0, 0, 1, 0), (1391, .iadd, 1, 0, 0, 0, 0), (1392, .iaload, 1, 0, 0, 0, 0), (1393, .invokevirtual 175, 3, 124, 10010, 0, 0), (1396, .aload_n 2, 1, 2, 0, 0, 0), (1397, .aload_n 0, 1, 0, 0, 0, 0), (1398, .iload_n 3, 1, 3, 0, 0, 0), (1399, .iconst 1, 1, 0, 0, 1, 0), (1400, .iadd, 1, 0, 0, 0, 0), (1401, .iaload, 1, 0, 0, 0, 0), (1402, .invokevirtual 178, 3, 275, 11010, 0, 0), (1405, .if_icmp .eq 1026, 3, 2431, 0, 0, 0), (1408, .iconst 0, 1, 0, 0, 0, 0), (1409, .ireturn, 1, 0, 0, 0, 0)]
set_option maxRecDepth 100000 in
theorem kcdL_1387 : cdL_1387.all (am_chk am_w345 345) = true := by decide +kernel
theorem kcdL2_1387 : (cdL_1387 ++ cdL_h).all (am_chk am_w345 345) = true := by
  simp only [List.all_append, kcdL_1387, kcdL_h, Bool.and_self]
def sL_1387 (z : Nat) : Nat → List aV → aM → Option aR := fun j => (match Nat.beq j 124 with
  | true => F124 z
  | false => (match Nat.beq j 275 with
  | true => F275 z
  | false => (fun _ _ => none)))
theorem hsL_1387 (z : Nat) : ∀ j2 : Nat, ∃ d2 : Nat, d2 + 1 ≤ 14 ∧ am_Snd d2 j2 (sL_1387 z j2) := by
  intro j2
  unfold sL_1387
  split
  · rename_i he
    rw [am_beq he]
    exact ⟨_, by decide, S124 z⟩
  · skip
    split
    · rename_i he
      rw [am_beq he]
      exact ⟨_, by decide, S275 z⟩
    · skip
      exact ⟨0, by decide, am_Snd_no j2⟩
/-- the law, case [39] -/
def f345_1387 (z nL : Nat) (xs : Nat → Int32) (k18 : Int32 → aM → Option aR) : Nat → Int32 → aM → Option aR
  | 0, _, _ => none
  | n + 1, x3, M =>
    if am_inB (x3 + (1 : Int32)) nL then
      am_bi (f124 z (xs (x3 + (1 : Int32)).toNatClampNeg) M) fun v2 M1 =>
        if am_inB (x3 + (1 : Int32)) nL then
          am_bi (f275 z (xs (x3 + (1 : Int32)).toNatClampNeg) M1) fun v4 M3 =>
            if v2 = v4 then
              k18 (x3 + (6 : Int32)) M3
            else
              some (some (.inl ((0 : Int32) &&& 1)), M3)
        else
          none
    else
      none
set_option maxRecDepth 100000 in
set_option maxHeartbeats 4000000 in
theorem e345_1387 (z nL : Nat) (xs : Nat → Int32) {p : Program} {l : Launch} {e : Env} {R : Room} {s : State} {m : MethodId} {args : Array Value} {below : List Frame} {meth : Method} {c : Code} {C : aC} {Q : State → Prop} {ce sl : Nat} (F : am_F (some (nL, xs)) p R s m args c C 345 14 ce sl) (r : aR) (hR : am_HR p l e R s m args below meth c C 345 (am_ml 345) ce sl 1 Q r) (k18 : Int32 → aM → Option aR) (hk18 : ∀ (x3 : Int32) (M : aM), k18 x3 M = some r → am_Wd p l e R s m args below meth c C (am_ml 345) ce sl Q 18 [some (.inr (.inr (62, 5200))), some (.inr (.inr (10, 0))), some (.inr (.inr (11, 205))), some (.inl x3)] [] M) : ∀ (n : Nat) (x3 : Int32) (M : aM), f345_1387 z nL xs k18 n x3 M = some r → am_Wd p l e R s m args below meth c C (am_ml 345) ce sl Q 1387 [some (.inr (.inr (62, 5200))), some (.inr (.inr (10, 0))), some (.inr (.inr (11, 205))), some (.inl x3)] [] M := by
  intro n x3 M h
  cases n with
  | zero => cases h
  | succ n =>
    exact am_seg_ok (sws := am_w345) (sem := sL_1387 z) (cd := cdL_1387 ++ cdL_h) (cut := ([(18, [true, true, true, true])] : List (Nat × List Bool))) (kap := (fun pc al st M => (match Nat.beq pc 18 with
      | true => (match al, st with
        | [some (.inr (.inr (62, 5200))), some (.inr (.inr (10, 0))), some (.inr (.inr (11, 205))), some (.inl x3)], [] => k18 x3 M
        | _, _ => none)
      | false => none))) (hsL_1387 z) F hR kcdL2_1387 (by rw [am_l345]; decide) (fun pc al st M hk => by
      try dsimp only at hk
      split at hk
      · rename_i he
        rw [am_beq he]
        split at hk
        · exact hk18 _ _ hk
        · cases hk
      · cases hk) 19 1387 _ _ _ h
def cdL_1410 : List am_E := [(1410, .aload_n 1, 1, 1, 0, 0, 0), (1411, .aload_n 0, 1, 0, 0, 0, 0), (1412, .iload_n 3, 1, 3, 0, 0, 0), (1413, .iconst 1, 1, 0, 0, 1, 0), (1414, .iadd, 1, 0, 0, 0, 0), (1415, .iaload, 1, 0, 0, 0, 0), (1416, .invokevirtual 179, 3, 125, 10010, 0, 0), (1419, .aload_n 2, 1, 2, 0, 0, 0), (1420, .aload_n 0, 1, 0, 0, 0, 0), (1421, .iload_n 3, 1, 3, 0, 0, 0), (1422, .iconst 1, 1, 0, 0, 1, 0), (1423, .iadd, 1, 0, 0, 0, 0), (1424, .iaload, 1, 0, 0, 0, 0), (1425, .invokevirtual 182, 3, 276, 11010, 0, 0), (1428, .if_icmp .eq 1003, 3, 2431, 0, 0, 0), (1431, .iconst 0, 1, 0, 0, 0, 0), (1432, .ireturn, 1, 0, 0, 0, 0)]
set_option maxRecDepth 100000 in
theorem kcdL_1410 : cdL_1410.all (am_chk am_w345 345) = true := by decide +kernel
theorem kcdL2_1410 : (cdL_1410 ++ cdL_h).all (am_chk am_w345 345) = true := by
  simp only [List.all_append, kcdL_1410, kcdL_h, Bool.and_self]
def sL_1410 (z : Nat) : Nat → List aV → aM → Option aR := fun j => (match Nat.beq j 125 with
  | true => F125 z
  | false => (match Nat.beq j 276 with
  | true => F276 z
  | false => (fun _ _ => none)))
theorem hsL_1410 (z : Nat) : ∀ j2 : Nat, ∃ d2 : Nat, d2 + 1 ≤ 14 ∧ am_Snd d2 j2 (sL_1410 z j2) := by
  intro j2
  unfold sL_1410
  split
  · rename_i he
    rw [am_beq he]
    exact ⟨_, by decide, S125 z⟩
  · skip
    split
    · rename_i he
      rw [am_beq he]
      exact ⟨_, by decide, S276 z⟩
    · skip
      exact ⟨0, by decide, am_Snd_no j2⟩
/-- the law, case [40] -/
def f345_1410 (z nL : Nat) (xs : Nat → Int32) (k18 : Int32 → aM → Option aR) : Nat → Int32 → aM → Option aR
  | 0, _, _ => none
  | n + 1, x3, M =>
    if am_inB (x3 + (1 : Int32)) nL then
      am_bi (f125 z (xs (x3 + (1 : Int32)).toNatClampNeg) M) fun v2 M1 =>
        if am_inB (x3 + (1 : Int32)) nL then
          am_bi (f276 z (xs (x3 + (1 : Int32)).toNatClampNeg) M1) fun v4 M3 =>
            if v2 = v4 then
              k18 (x3 + (6 : Int32)) M3
            else
              some (some (.inl ((0 : Int32) &&& 1)), M3)
        else
          none
    else
      none
set_option maxRecDepth 100000 in
set_option maxHeartbeats 4000000 in
theorem e345_1410 (z nL : Nat) (xs : Nat → Int32) {p : Program} {l : Launch} {e : Env} {R : Room} {s : State} {m : MethodId} {args : Array Value} {below : List Frame} {meth : Method} {c : Code} {C : aC} {Q : State → Prop} {ce sl : Nat} (F : am_F (some (nL, xs)) p R s m args c C 345 14 ce sl) (r : aR) (hR : am_HR p l e R s m args below meth c C 345 (am_ml 345) ce sl 1 Q r) (k18 : Int32 → aM → Option aR) (hk18 : ∀ (x3 : Int32) (M : aM), k18 x3 M = some r → am_Wd p l e R s m args below meth c C (am_ml 345) ce sl Q 18 [some (.inr (.inr (62, 5200))), some (.inr (.inr (10, 0))), some (.inr (.inr (11, 205))), some (.inl x3)] [] M) : ∀ (n : Nat) (x3 : Int32) (M : aM), f345_1410 z nL xs k18 n x3 M = some r → am_Wd p l e R s m args below meth c C (am_ml 345) ce sl Q 1410 [some (.inr (.inr (62, 5200))), some (.inr (.inr (10, 0))), some (.inr (.inr (11, 205))), some (.inl x3)] [] M := by
  intro n x3 M h
  cases n with
  | zero => cases h
  | succ n =>
    exact am_seg_ok (sws := am_w345) (sem := sL_1410 z) (cd := cdL_1410 ++ cdL_h) (cut := ([(18, [true, true, true, true])] : List (Nat × List Bool))) (kap := (fun pc al st M => (match Nat.beq pc 18 with
      | true => (match al, st with
        | [some (.inr (.inr (62, 5200))), some (.inr (.inr (10, 0))), some (.inr (.inr (11, 205))), some (.inl x3)], [] => k18 x3 M
        | _, _ => none)
      | false => none))) (hsL_1410 z) F hR kcdL2_1410 (by rw [am_l345]; decide) (fun pc al st M hk => by
      try dsimp only at hk
      split at hk
      · rename_i he
        rw [am_beq he]
        split at hk
        · exact hk18 _ _ hk
        · cases hk
      · cases hk) 19 1410 _ _ _ h
def cdL_1433 : List am_E := [(1433, .aload_n 1, 1, 1, 0, 0, 0), (1434, .aload_n 0, 1, 0, 0, 0, 0), (1435, .iload_n 3, 1, 3, 0, 0, 0), (1436, .iconst 1, 1, 0, 0, 1, 0), (1437, .iadd, 1, 0, 0, 0, 0), (1438, .iaload, 1, 0, 0, 0, 0), (1439, .aload_n 0, 1, 0, 0, 0, 0), (1440, .iload_n 3, 1, 3, 0, 0, 0), (1441, .iconst 2, 1, 0, 0, 2, 0), (1442, .iadd, 1, 0, 0, 0, 0), (1443, .iaload, 1, 0, 0, 0, 0), (1444, .invokevirtual 183, 3, 126, 10020, 0, 0), (1447, .aload_n 2, 1, 2, 0, 0, 0), (1448, .aload_n 0, 1, 0, 0, 0, 0), (1449, .iload_n 3, 1, 3, 0, 0, 0), (1450, .iconst 1, 1, 0, 0, 1, 0), (1451, .iadd, 1, 0, 0, 0, 0), (1452, .iaload, 1, 0, 0, 0, 0), (1453, .aload_n 0, 1, 0, 0, 0, 0), (1454, .iload_n 3, 1, 3, 0, 0, 0), (1455, .iconst 2, 1, 0, 0, 2, 0), (1456, .iadd, 1, 0, 0, 0, 0), (1457, .iaload, 1, 0, 0, 0, 0), (1458, .invokevirtual 186, 3, 278, 11020, 0, 0), (1461, .if_icmp .eq 970, 3, 2431, 0, 0, 0), (1464, .iconst 0, 1, 0, 0, 0, 0), (1465, .ireturn, 1, 0, 0, 0, 0)]
set_option maxRecDepth 100000 in
theorem kcdL_1433 : cdL_1433.all (am_chk am_w345 345) = true := by decide +kernel
theorem kcdL2_1433 : (cdL_1433 ++ cdL_h).all (am_chk am_w345 345) = true := by
  simp only [List.all_append, kcdL_1433, kcdL_h, Bool.and_self]
def sL_1433 (z : Nat) : Nat → List aV → aM → Option aR := fun j => (match Nat.beq j 126 with
  | true => F126 z
  | false => (match Nat.beq j 278 with
  | true => F278 z
  | false => (fun _ _ => none)))
theorem hsL_1433 (z : Nat) : ∀ j2 : Nat, ∃ d2 : Nat, d2 + 1 ≤ 14 ∧ am_Snd d2 j2 (sL_1433 z j2) := by
  intro j2
  unfold sL_1433
  split
  · rename_i he
    rw [am_beq he]
    exact ⟨_, by decide, S126 z⟩
  · skip
    split
    · rename_i he
      rw [am_beq he]
      exact ⟨_, by decide, S278 z⟩
    · skip
      exact ⟨0, by decide, am_Snd_no j2⟩
/-- the law, case [41] -/
def f345_1433 (z nL : Nat) (xs : Nat → Int32) (k18 : Int32 → aM → Option aR) : Nat → Int32 → aM → Option aR
  | 0, _, _ => none
  | n + 1, x3, M =>
    if am_inB (x3 + (1 : Int32)) nL then
      if am_inB (x3 + (2 : Int32)) nL then
        am_bi (f126 z (xs (x3 + (1 : Int32)).toNatClampNeg) (xs (x3 + (2 : Int32)).toNatClampNeg) M) fun v2 M1 =>
          if am_inB (x3 + (1 : Int32)) nL then
            if am_inB (x3 + (2 : Int32)) nL then
              am_bi (f278 z (xs (x3 + (1 : Int32)).toNatClampNeg) (xs (x3 + (2 : Int32)).toNatClampNeg) M1) fun v4 M3 =>
                if v2 = v4 then
                  k18 (x3 + (6 : Int32)) M3
                else
                  some (some (.inl ((0 : Int32) &&& 1)), M3)
            else
              none
          else
            none
      else
        none
    else
      none
set_option maxRecDepth 100000 in
set_option maxHeartbeats 4000000 in
theorem e345_1433 (z nL : Nat) (xs : Nat → Int32) {p : Program} {l : Launch} {e : Env} {R : Room} {s : State} {m : MethodId} {args : Array Value} {below : List Frame} {meth : Method} {c : Code} {C : aC} {Q : State → Prop} {ce sl : Nat} (F : am_F (some (nL, xs)) p R s m args c C 345 14 ce sl) (r : aR) (hR : am_HR p l e R s m args below meth c C 345 (am_ml 345) ce sl 1 Q r) (k18 : Int32 → aM → Option aR) (hk18 : ∀ (x3 : Int32) (M : aM), k18 x3 M = some r → am_Wd p l e R s m args below meth c C (am_ml 345) ce sl Q 18 [some (.inr (.inr (62, 5200))), some (.inr (.inr (10, 0))), some (.inr (.inr (11, 205))), some (.inl x3)] [] M) : ∀ (n : Nat) (x3 : Int32) (M : aM), f345_1433 z nL xs k18 n x3 M = some r → am_Wd p l e R s m args below meth c C (am_ml 345) ce sl Q 1433 [some (.inr (.inr (62, 5200))), some (.inr (.inr (10, 0))), some (.inr (.inr (11, 205))), some (.inl x3)] [] M := by
  intro n x3 M h
  cases n with
  | zero => cases h
  | succ n =>
    exact am_seg_ok (sws := am_w345) (sem := sL_1433 z) (cd := cdL_1433 ++ cdL_h) (cut := ([(18, [true, true, true, true])] : List (Nat × List Bool))) (kap := (fun pc al st M => (match Nat.beq pc 18 with
      | true => (match al, st with
        | [some (.inr (.inr (62, 5200))), some (.inr (.inr (10, 0))), some (.inr (.inr (11, 205))), some (.inl x3)], [] => k18 x3 M
        | _, _ => none)
      | false => none))) (hsL_1433 z) F hR kcdL2_1433 (by rw [am_l345]; decide) (fun pc al st M hk => by
      try dsimp only at hk
      split at hk
      · rename_i he
        rw [am_beq he]
        split at hk
        · exact hk18 _ _ hk
        · cases hk
      · cases hk) 29 1433 _ _ _ h
def cdL_1466 : List am_E := [(1466, .aload_n 1, 1, 1, 0, 0, 0), (1467, .aload_n 0, 1, 0, 0, 0, 0), (1468, .iload_n 3, 1, 3, 0, 0, 0), (1469, .iconst 1, 1, 0, 0, 1, 0), (1470, .iadd, 1, 0, 0, 0, 0), (1471, .iaload, 1, 0, 0, 0, 0), (1472, .aload_n 0, 1, 0, 0, 0, 0), (1473, .iload_n 3, 1, 3, 0, 0, 0), (1474, .iconst 2, 1, 0, 0, 2, 0), (1475, .iadd, 1, 0, 0, 0, 0), (1476, .iaload, 1, 0, 0, 0, 0), (1477, .invokevirtual 187, 3, 127, 10020, 0, 0), (1480, .aload_n 2, 1, 2, 0, 0, 0), (1481, .aload_n 0, 1, 0, 0, 0, 0), (1482, .iload_n 3, 1, 3, 0, 0, 0), (1483, .iconst 1, 1, 0, 0, 1, 0), (1484, .iadd, 1, 0, 0, 0, 0), (1485, .iaload, 1, 0, 0, 0, 0), (1486, .aload_n 0, 1, 0, 0, 0, 0), (1487, .iload_n 3, 1, 3, 0, 0, 0), (1488, .iconst 2, 1, 0, 0, 2, 0), (1489, .iadd, 1, 0, 0, 0, 0), (1490, .iaload, 1, 0, 0, 0, 0), (1491, .invokevirtual 190, 3, 279, 11020, 0, 0), (1494, .if_icmp .eq 937, 3, 2431, 0, 0, 0), (1497, .iconst 0, 1, 0, 0, 0, 0), (1498, .ireturn, 1, 0, 0, 0, 0)]
set_option maxRecDepth 100000 in
theorem kcdL_1466 : cdL_1466.all (am_chk am_w345 345) = true := by decide +kernel
theorem kcdL2_1466 : (cdL_1466 ++ cdL_h).all (am_chk am_w345 345) = true := by
  simp only [List.all_append, kcdL_1466, kcdL_h, Bool.and_self]
def sL_1466 (z : Nat) : Nat → List aV → aM → Option aR := fun j => (match Nat.beq j 127 with
  | true => F127 z
  | false => (match Nat.beq j 279 with
  | true => F279 z
  | false => (fun _ _ => none)))
theorem hsL_1466 (z : Nat) : ∀ j2 : Nat, ∃ d2 : Nat, d2 + 1 ≤ 14 ∧ am_Snd d2 j2 (sL_1466 z j2) := by
  intro j2
  unfold sL_1466
  split
  · rename_i he
    rw [am_beq he]
    exact ⟨_, by decide, S127 z⟩
  · skip
    split
    · rename_i he
      rw [am_beq he]
      exact ⟨_, by decide, S279 z⟩
    · skip
      exact ⟨0, by decide, am_Snd_no j2⟩
/-- the law, case [42] -/
def f345_1466 (z nL : Nat) (xs : Nat → Int32) (k18 : Int32 → aM → Option aR) : Nat → Int32 → aM → Option aR
  | 0, _, _ => none
  | n + 1, x3, M =>
    if am_inB (x3 + (1 : Int32)) nL then
      if am_inB (x3 + (2 : Int32)) nL then
        am_bi (f127 z (xs (x3 + (1 : Int32)).toNatClampNeg) (xs (x3 + (2 : Int32)).toNatClampNeg) M) fun v2 M1 =>
          if am_inB (x3 + (1 : Int32)) nL then
            if am_inB (x3 + (2 : Int32)) nL then
              am_bi (f279 z (xs (x3 + (1 : Int32)).toNatClampNeg) (xs (x3 + (2 : Int32)).toNatClampNeg) M1) fun v4 M3 =>
                if v2 = v4 then
                  k18 (x3 + (6 : Int32)) M3
                else
                  some (some (.inl ((0 : Int32) &&& 1)), M3)
            else
              none
          else
            none
      else
        none
    else
      none
set_option maxRecDepth 100000 in
set_option maxHeartbeats 4000000 in
theorem e345_1466 (z nL : Nat) (xs : Nat → Int32) {p : Program} {l : Launch} {e : Env} {R : Room} {s : State} {m : MethodId} {args : Array Value} {below : List Frame} {meth : Method} {c : Code} {C : aC} {Q : State → Prop} {ce sl : Nat} (F : am_F (some (nL, xs)) p R s m args c C 345 14 ce sl) (r : aR) (hR : am_HR p l e R s m args below meth c C 345 (am_ml 345) ce sl 1 Q r) (k18 : Int32 → aM → Option aR) (hk18 : ∀ (x3 : Int32) (M : aM), k18 x3 M = some r → am_Wd p l e R s m args below meth c C (am_ml 345) ce sl Q 18 [some (.inr (.inr (62, 5200))), some (.inr (.inr (10, 0))), some (.inr (.inr (11, 205))), some (.inl x3)] [] M) : ∀ (n : Nat) (x3 : Int32) (M : aM), f345_1466 z nL xs k18 n x3 M = some r → am_Wd p l e R s m args below meth c C (am_ml 345) ce sl Q 1466 [some (.inr (.inr (62, 5200))), some (.inr (.inr (10, 0))), some (.inr (.inr (11, 205))), some (.inl x3)] [] M := by
  intro n x3 M h
  cases n with
  | zero => cases h
  | succ n =>
    exact am_seg_ok (sws := am_w345) (sem := sL_1466 z) (cd := cdL_1466 ++ cdL_h) (cut := ([(18, [true, true, true, true])] : List (Nat × List Bool))) (kap := (fun pc al st M => (match Nat.beq pc 18 with
      | true => (match al, st with
        | [some (.inr (.inr (62, 5200))), some (.inr (.inr (10, 0))), some (.inr (.inr (11, 205))), some (.inl x3)], [] => k18 x3 M
        | _, _ => none)
      | false => none))) (hsL_1466 z) F hR kcdL2_1466 (by rw [am_l345]; decide) (fun pc al st M hk => by
      try dsimp only at hk
      split at hk
      · rename_i he
        rw [am_beq he]
        split at hk
        · exact hk18 _ _ hk
        · cases hk
      · cases hk) 29 1466 _ _ _ h
def cdL_1499 : List am_E := [(1499, .aload_n 1, 1, 1, 0, 0, 0), (1500, .invokevirtual 191, 3, 129, 10000, 0, 0), (1503, .aload_n 2, 1, 2, 0, 0, 0), (1504, .invokevirtual 194, 3, 280, 11000, 0, 0), (1507, .if_icmp .eq 924, 3, 2431, 0, 0, 0), (1510, .iconst 0, 1, 0, 0, 0, 0), (1511, .ireturn, 1, 0, 0, 0, 0)]
set_option maxRecDepth 100000 in
theorem kcdL_1499 : cdL_1499.all (am_chk am_w345 345) = true := by decide +kernel
theorem kcdL2_1499 : (cdL_1499 ++ cdL_h).all (am_chk am_w345 345) = true := by
  simp only [List.all_append, kcdL_1499, kcdL_h, Bool.and_self]
def sL_1499 (z : Nat) : Nat → List aV → aM → Option aR := fun j => (match Nat.beq j 129 with
  | true => F129 z
  | false => (match Nat.beq j 280 with
  | true => F280 z
  | false => (fun _ _ => none)))
theorem hsL_1499 (z : Nat) : ∀ j2 : Nat, ∃ d2 : Nat, d2 + 1 ≤ 14 ∧ am_Snd d2 j2 (sL_1499 z j2) := by
  intro j2
  unfold sL_1499
  split
  · rename_i he
    rw [am_beq he]
    exact ⟨_, by decide, S129 z⟩
  · skip
    split
    · rename_i he
      rw [am_beq he]
      exact ⟨_, by decide, S280 z⟩
    · skip
      exact ⟨0, by decide, am_Snd_no j2⟩
/-- the law, case [43] -/
def f345_1499 (z nL : Nat) (xs : Nat → Int32) (k18 : Int32 → aM → Option aR) : Nat → Int32 → aM → Option aR
  | 0, _, _ => none
  | n + 1, x3, M =>
    am_bi (f129 z M) fun v2 M1 =>
      am_bi (f280 z M1) fun v4 M3 =>
        if v2 = v4 then
          k18 (x3 + (6 : Int32)) M3
        else
          some (some (.inl ((0 : Int32) &&& 1)), M3)
set_option maxRecDepth 100000 in
set_option maxHeartbeats 4000000 in
theorem e345_1499 (z nL : Nat) (xs : Nat → Int32) {p : Program} {l : Launch} {e : Env} {R : Room} {s : State} {m : MethodId} {args : Array Value} {below : List Frame} {meth : Method} {c : Code} {C : aC} {Q : State → Prop} {ce sl : Nat} (F : am_F (some (nL, xs)) p R s m args c C 345 14 ce sl) (r : aR) (hR : am_HR p l e R s m args below meth c C 345 (am_ml 345) ce sl 1 Q r) (k18 : Int32 → aM → Option aR) (hk18 : ∀ (x3 : Int32) (M : aM), k18 x3 M = some r → am_Wd p l e R s m args below meth c C (am_ml 345) ce sl Q 18 [some (.inr (.inr (62, 5200))), some (.inr (.inr (10, 0))), some (.inr (.inr (11, 205))), some (.inl x3)] [] M) : ∀ (n : Nat) (x3 : Int32) (M : aM), f345_1499 z nL xs k18 n x3 M = some r → am_Wd p l e R s m args below meth c C (am_ml 345) ce sl Q 1499 [some (.inr (.inr (62, 5200))), some (.inr (.inr (10, 0))), some (.inr (.inr (11, 205))), some (.inl x3)] [] M := by
  intro n x3 M h
  cases n with
  | zero => cases h
  | succ n =>
    exact am_seg_ok (sws := am_w345) (sem := sL_1499 z) (cd := cdL_1499 ++ cdL_h) (cut := ([(18, [true, true, true, true])] : List (Nat × List Bool))) (kap := (fun pc al st M => (match Nat.beq pc 18 with
      | true => (match al, st with
        | [some (.inr (.inr (62, 5200))), some (.inr (.inr (10, 0))), some (.inr (.inr (11, 205))), some (.inl x3)], [] => k18 x3 M
        | _, _ => none)
      | false => none))) (hsL_1499 z) F hR kcdL2_1499 (by rw [am_l345]; decide) (fun pc al st M hk => by
      try dsimp only at hk
      split at hk
      · rename_i he
        rw [am_beq he]
        split at hk
        · exact hk18 _ _ hk
        · cases hk
      · cases hk) 9 1499 _ _ _ h
def cdL_1512 : List am_E := [(1512, .aload_n 1, 1, 1, 0, 0, 0), (1513, .invokevirtual 195, 3, 130, 10000, 0, 0), (1516, .aload_n 2, 1, 2, 0, 0, 0), (1517, .invokevirtual 198, 3, 282, 11000, 0, 0), (1520, .if_icmp .eq 911, 3, 2431, 0, 0, 0), (1523, .iconst 0, 1, 0, 0, 0, 0), (1524, .ireturn, 1, 0, 0, 0, 0)]
set_option maxRecDepth 100000 in
theorem kcdL_1512 : cdL_1512.all (am_chk am_w345 345) = true := by decide +kernel
theorem kcdL2_1512 : (cdL_1512 ++ cdL_h).all (am_chk am_w345 345) = true := by
  simp only [List.all_append, kcdL_1512, kcdL_h, Bool.and_self]
def sL_1512 (z : Nat) : Nat → List aV → aM → Option aR := fun j => (match Nat.beq j 130 with
  | true => F130 z
  | false => (match Nat.beq j 282 with
  | true => F282 z
  | false => (fun _ _ => none)))
theorem hsL_1512 (z : Nat) : ∀ j2 : Nat, ∃ d2 : Nat, d2 + 1 ≤ 14 ∧ am_Snd d2 j2 (sL_1512 z j2) := by
  intro j2
  unfold sL_1512
  split
  · rename_i he
    rw [am_beq he]
    exact ⟨_, by decide, S130 z⟩
  · skip
    split
    · rename_i he
      rw [am_beq he]
      exact ⟨_, by decide, S282 z⟩
    · skip
      exact ⟨0, by decide, am_Snd_no j2⟩
/-- the law, case [44] -/
def f345_1512 (z nL : Nat) (xs : Nat → Int32) (k18 : Int32 → aM → Option aR) : Nat → Int32 → aM → Option aR
  | 0, _, _ => none
  | n + 1, x3, M =>
    am_bi (f130 z M) fun v2 M1 =>
      am_bi (f282 z M1) fun v4 M3 =>
        if v2 = v4 then
          k18 (x3 + (6 : Int32)) M3
        else
          some (some (.inl ((0 : Int32) &&& 1)), M3)
set_option maxRecDepth 100000 in
set_option maxHeartbeats 4000000 in
theorem e345_1512 (z nL : Nat) (xs : Nat → Int32) {p : Program} {l : Launch} {e : Env} {R : Room} {s : State} {m : MethodId} {args : Array Value} {below : List Frame} {meth : Method} {c : Code} {C : aC} {Q : State → Prop} {ce sl : Nat} (F : am_F (some (nL, xs)) p R s m args c C 345 14 ce sl) (r : aR) (hR : am_HR p l e R s m args below meth c C 345 (am_ml 345) ce sl 1 Q r) (k18 : Int32 → aM → Option aR) (hk18 : ∀ (x3 : Int32) (M : aM), k18 x3 M = some r → am_Wd p l e R s m args below meth c C (am_ml 345) ce sl Q 18 [some (.inr (.inr (62, 5200))), some (.inr (.inr (10, 0))), some (.inr (.inr (11, 205))), some (.inl x3)] [] M) : ∀ (n : Nat) (x3 : Int32) (M : aM), f345_1512 z nL xs k18 n x3 M = some r → am_Wd p l e R s m args below meth c C (am_ml 345) ce sl Q 1512 [some (.inr (.inr (62, 5200))), some (.inr (.inr (10, 0))), some (.inr (.inr (11, 205))), some (.inl x3)] [] M := by
  intro n x3 M h
  cases n with
  | zero => cases h
  | succ n =>
    exact am_seg_ok (sws := am_w345) (sem := sL_1512 z) (cd := cdL_1512 ++ cdL_h) (cut := ([(18, [true, true, true, true])] : List (Nat × List Bool))) (kap := (fun pc al st M => (match Nat.beq pc 18 with
      | true => (match al, st with
        | [some (.inr (.inr (62, 5200))), some (.inr (.inr (10, 0))), some (.inr (.inr (11, 205))), some (.inl x3)], [] => k18 x3 M
        | _, _ => none)
      | false => none))) (hsL_1512 z) F hR kcdL2_1512 (by rw [am_l345]; decide) (fun pc al st M hk => by
      try dsimp only at hk
      split at hk
      · rename_i he
        rw [am_beq he]
        split at hk
        · exact hk18 _ _ hk
        · cases hk
      · cases hk) 9 1512 _ _ _ h
def cdL_1525 : List am_E := [(1525, .aload_n 1, 1, 1, 0, 0, 0), (1526, .invokevirtual 199, 3, 131, 10000, 0, 0), (1529, .aload_n 2, 1, 2, 0, 0, 0), (1530, .invokevirtual 202, 3, 283, 11000, 0, 0), (1533, .if_icmp .eq 898, 3, 2431, 0, 0, 0), (1536, .iconst 0, 1, 0, 0, 0, 0), (1537, .ireturn, 1, 0, 0, 0, 0)]
set_option maxRecDepth 100000 in
theorem kcdL_1525 : cdL_1525.all (am_chk am_w345 345) = true := by decide +kernel
theorem kcdL2_1525 : (cdL_1525 ++ cdL_h).all (am_chk am_w345 345) = true := by
  simp only [List.all_append, kcdL_1525, kcdL_h, Bool.and_self]
def sL_1525 (z : Nat) : Nat → List aV → aM → Option aR := fun j => (match Nat.beq j 131 with
  | true => F131 z
  | false => (match Nat.beq j 283 with
  | true => F283 z
  | false => (fun _ _ => none)))
theorem hsL_1525 (z : Nat) : ∀ j2 : Nat, ∃ d2 : Nat, d2 + 1 ≤ 14 ∧ am_Snd d2 j2 (sL_1525 z j2) := by
  intro j2
  unfold sL_1525
  split
  · rename_i he
    rw [am_beq he]
    exact ⟨_, by decide, S131 z⟩
  · skip
    split
    · rename_i he
      rw [am_beq he]
      exact ⟨_, by decide, S283 z⟩
    · skip
      exact ⟨0, by decide, am_Snd_no j2⟩
/-- the law, case [45] -/
def f345_1525 (z nL : Nat) (xs : Nat → Int32) (k18 : Int32 → aM → Option aR) : Nat → Int32 → aM → Option aR
  | 0, _, _ => none
  | n + 1, x3, M =>
    am_bi (f131 z M) fun v2 M1 =>
      am_bi (f283 z M1) fun v4 M3 =>
        if v2 = v4 then
          k18 (x3 + (6 : Int32)) M3
        else
          some (some (.inl ((0 : Int32) &&& 1)), M3)
set_option maxRecDepth 100000 in
set_option maxHeartbeats 4000000 in
theorem e345_1525 (z nL : Nat) (xs : Nat → Int32) {p : Program} {l : Launch} {e : Env} {R : Room} {s : State} {m : MethodId} {args : Array Value} {below : List Frame} {meth : Method} {c : Code} {C : aC} {Q : State → Prop} {ce sl : Nat} (F : am_F (some (nL, xs)) p R s m args c C 345 14 ce sl) (r : aR) (hR : am_HR p l e R s m args below meth c C 345 (am_ml 345) ce sl 1 Q r) (k18 : Int32 → aM → Option aR) (hk18 : ∀ (x3 : Int32) (M : aM), k18 x3 M = some r → am_Wd p l e R s m args below meth c C (am_ml 345) ce sl Q 18 [some (.inr (.inr (62, 5200))), some (.inr (.inr (10, 0))), some (.inr (.inr (11, 205))), some (.inl x3)] [] M) : ∀ (n : Nat) (x3 : Int32) (M : aM), f345_1525 z nL xs k18 n x3 M = some r → am_Wd p l e R s m args below meth c C (am_ml 345) ce sl Q 1525 [some (.inr (.inr (62, 5200))), some (.inr (.inr (10, 0))), some (.inr (.inr (11, 205))), some (.inl x3)] [] M := by
  intro n x3 M h
  cases n with
  | zero => cases h
  | succ n =>
    exact am_seg_ok (sws := am_w345) (sem := sL_1525 z) (cd := cdL_1525 ++ cdL_h) (cut := ([(18, [true, true, true, true])] : List (Nat × List Bool))) (kap := (fun pc al st M => (match Nat.beq pc 18 with
      | true => (match al, st with
        | [some (.inr (.inr (62, 5200))), some (.inr (.inr (10, 0))), some (.inr (.inr (11, 205))), some (.inl x3)], [] => k18 x3 M
        | _, _ => none)
      | false => none))) (hsL_1525 z) F hR kcdL2_1525 (by rw [am_l345]; decide) (fun pc al st M hk => by
      try dsimp only at hk
      split at hk
      · rename_i he
        rw [am_beq he]
        split at hk
        · exact hk18 _ _ hk
        · cases hk
      · cases hk) 9 1525 _ _ _ h
