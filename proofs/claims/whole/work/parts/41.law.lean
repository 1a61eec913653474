def cdL_340 : List am_E := [(340, .aload_n 1, 1, 1, 0, 0, 0), (341, .aload_n 0, 1, 0, 0, 0, 0), (342, .iload_n 3, 1, 3, 0, 0, 0), (343, .iconst 1, 1, 0, 0, 1, 0), (344, .iadd, 1, 0, 0, 0, 0), (345, .iaload, 1, 0, 0, 0, 0), (346, .aload_n 0, 1, 0, 0, 0, 0), (347, .iload_n 3, 1, 3, 0, 0, 0), (348, .iconst 2, 1, 0, 0, 2, 0), (349, .iadd, 1, 0, 0, 0, 0), (350, .iaload, 1, 0, 0, 0, 0), (351, .aload_n 0, 1, 0, 0, 0, 0), (352, .iload_n 3, 1, 3, 0, 0, 0), (353, .iconst 3, 1, 0, 0, 3, 0), (354, .iadd, 1, 0, 0, 0, 0), (355, .iaload, 1, 0, 0, 0, 0), (356, .aload_n 0, 1, 0, 0, 0, 0), (357, .iload_n 3, 1, 3, 0, 0, 0), (358, .iconst 4, 1, 0, 0, 4, 0), (359, .iadd, 1, 0, 0, 0, 0), (360, .iaload, 1, 0, 0, 0, 0), (361, .aload_n 0, 1, 0, 0, 0, 0), (362, .iload_n 3, 1, 3, 0, 0, 0), (363, .iconst 5, 1, 0, 0, 5, 0), (364, .iadd, 1, 0, 0, 0, 0), (365, .iaload, 1, 0, 0, 0, 0), (366, .invokevirtual 13, 3, 80, 10050, 0, 0), (369, .aload_n 2, 1, 2, 0, 0, 0), (370, .aload_n 0, 1, 0, 0, 0, 0), (371, .iload_n 3, 1, 3, 0, 0, 0), (372, .iconst 1, 1, 0, 0, 1, 0), (373, .iadd, 1, 0, 0, 0, 0), (374, .iaload, 1, 0, 0, 0, 0), (375, .aload_n 0, 1, 0, 0, 0, 0), (376, .iload_n 3, 1, 3, 0, 0, 0), (377, .iconst 2, 1, 0, 0, 2, 0), (378, .iadd, 1, 0, 0, 0, 0), (379, .iaload, 1, 0, 0, 0, 0), (380, .aload_n 0, 1, 0, 0, 0, 0), (381, .iload_n 3, 1, 3, 0, 0, 0), (382, .iconst 3, 1, 0, 0, 3, 0), (383, .iadd, 1, 0, 0, 0, 0), (384, .iaload, 1, 0, 0, 0, 0), (385, .aload_n 0, 1, 0, 0, 0, 0), (386, .iload_n 3, 1, 3, 0, 0, 0), (387, .iconst 4, 1, 0, 0, 4, 0), (388, .iadd, 1, 0, 0, 0, 0), (389, .iaload, 1, 0, 0, 0, 0), (390, .aload_n 0, 1, 0, 0, 0, 0), (391, .iload_n 3, 1, 3, 0, 0, 0), (392, .iconst 5, 1, 0, 0, 5, 0), (393, .iadd, 1, 0, 0, 0, 0), (394, .iaload, 1, 0, 0, 0, 0), (395, .invokevirtual 17, 3, 188, 11050, 0, 0), (398, .if_icmp .eq 2033, 3, 2431, 0, 0, 0), (401, .iconst 0, 1, 0, 0, 0, 0), (402, .ireturn, 1, 0, 0, 0, 0)]
set_option maxRecDepth 100000 in
theorem kcdL_340 : cdL_340.all (am_chk am_w345 345) = true := by decide +kernel
theorem kcdL2_340 : (cdL_340 ++ cdL_h).all (am_chk am_w345 345) = true := by
  simp only [List.all_append, kcdL_340, kcdL_h, Bool.and_self]
def sL_340 (z : Nat) : Nat → List aV → aM → Option aR := fun j => (match Nat.beq j 80 with
  | true => F80 z
  | false => (match Nat.beq j 188 with
  | true => F188 z
  | false => (fun _ _ => none)))
theorem hsL_340 (z : Nat) : ∀ j2 : Nat, ∃ d2 : Nat, d2 + 1 ≤ 14 ∧ am_Snd d2 j2 (sL_340 z j2) := by
  intro j2
  unfold sL_340
  split
  · rename_i he
    rw [am_beq he]
    exact ⟨_, by decide, S80 z⟩
  · skip
    split
    · rename_i he
      rw [am_beq he]
      exact ⟨_, by decide, S188 z⟩
    · skip
      exact ⟨0, by decide, am_Snd_no j2⟩
/-- the law, case [0] -/
def f345_340 (z nL : Nat) (xs : Nat → Int32) (k18 : Int32 → aM → Option aR) : Nat → Int32 → aM → Option aR
  | 0, _, _ => none
  | n + 1, x3, M =>
    if am_inB (x3 + (1 : Int32)) nL then
      if am_inB (x3 + (2 : Int32)) nL then
        if am_inB (x3 + (3 : Int32)) nL then
          if am_inB (x3 + (4 : Int32)) nL then
            if am_inB (x3 + (5 : Int32)) nL then
              am_bi (f80 z (xs (x3 + (1 : Int32)).toNatClampNeg) (xs (x3 + (2 : Int32)).toNatClampNeg) (xs (x3 + (3 : Int32)).toNatClampNeg) (xs (x3 + (4 : Int32)).toNatClampNeg) (xs (x3 + (5 : Int32)).toNatClampNeg) M) fun v2 M1 =>
                if am_inB (x3 + (1 : Int32)) nL then
                  if am_inB (x3 + (2 : Int32)) nL then
                    if am_inB (x3 + (3 : Int32)) nL then
                      if am_inB (x3 + (4 : Int32)) nL then
                        if am_inB (x3 + (5 : Int32)) nL then
                          am_bi (f188 z (xs (x3 + (1 : Int32)).toNatClampNeg) (xs (x3 + (2 : Int32)).toNatClampNeg) (xs (x3 + (3 : Int32)).toNatClampNeg) (xs (x3 + (4 : Int32)).toNatClampNeg) (xs (x3 + (5 : Int32)).toNatClampNeg) M1) fun v4 M3 =>
                            if v2 = v4 then
                              k18 (x3 + (6 : Int32)) M3
                            else
                              some (some (.inl ((0 : Int32) &&& 1)), M3)
                        else
                          none
                      else
                        none
                    else
                      none
                  else
                    none
                else
                  none
            else
              none
          else
            none
        else
          none
      else
        none
    else
      none
set_option maxRecDepth 100000 in
set_option maxHeartbeats 4000000 in
theorem e345_340 (z nL : Nat) (xs : Nat → Int32) {p : Program} {l : Launch} {e : Env} {R : Room} {s : State} {m : MethodId} {args : Array Value} {below : List Frame} {meth : Method} {c : Code} {C : aC} {Q : State → Prop} {ce sl : Nat} (F : am_F (some (nL, xs)) p R s m args c C 345 14 ce sl) (r : aR) (hR : am_HR p l e R s m args below meth c C 345 (am_ml 345) ce sl 1 Q r) (k18 : Int32 → aM → Option aR) (hk18 : ∀ (x3 : Int32) (M : aM), k18 x3 M = some r → am_Wd p l e R s m args below meth c C (am_ml 345) ce sl Q 18 [some (.inr (.inr (62, 5200))), some (.inr (.inr (10, 0))), some (.inr (.inr (11, 205))), some (.inl x3)] [] M) : ∀ (n : Nat) (x3 : Int32) (M : aM), f345_340 z nL xs k18 n x3 M = some r → am_Wd p l e R s m args below meth c C (am_ml 345) ce sl Q 340 [some (.inr (.inr (62, 5200))), some (.inr (.inr (10, 0))), some (.inr (.inr (11, 205))), some (.inl x3)] [] M := by
  intro n x3 M h
  cases n with
  | zero => cases h
  | succ n =>
    exact am_seg_ok (sws := am_w345) (sem := sL_340 z) (cd := cdL_340 ++ cdL_h) (cut := ([(18, [true, true, true, true])] : List (Nat × List Bool))) (kap := (fun pc al st M => (match Nat.beq pc 18 with
      | true => (match al, st with
        | [some (.inr (.inr (62, 5200))), some (.inr (.inr (10, 0))), some (.inr (.inr (11, 205))), some (.inl x3)], [] => k18 x3 M
        | _, _ => none)
      | false => none))) (hsL_340 z) F hR kcdL2_340 (by rw [am_l345]; decide) (fun pc al st M hk => by
      try dsimp only at hk
      split at hk
      · rename_i he
        rw [am_beq he]
        split at hk
        · exact hk18 _ _ hk
        · cases hk
      · cases hk) 59 340 _ _ _ h
def cdL_403 : List am_E := [(403, .aload_n 1, 1, 1, 0, 0, 0), (404, .aload_n 0, 1, 0, 0, 0, 0), (405, .iload_n 3, 1, 3, 0, 0, 0), (406, .iconst 1, 1, 0, 0, 1, 0), (407, .iadd, 1, 0, 0, 0, 0), (408, .iaload, 1, 0, 0, 0, 0), (409, .invokevirtual 18, 3, 81, 10010, 0, 0), (412, .aload_n 2, 1, 2, 0, 0, 0), (413, .aload_n 0, 1, 0, 0, 0, 0), (414, .iload_n 3, 1, 3, 0, 0, 0), (415, .iconst 1, 1, 0, 0, 1, 0), (416, .iadd, 1, 0, 0, 0, 0), (417, .iaload, 1, 0, 0, 0, 0), (418, .invokevirtual 22, 3, 189, 11010, 0, 0), (421, .if_icmp .eq 2010, 3, 2431, 0, 0, 0), (424, .iconst 0, 1, 0, 0, 0, 0), (425, .ireturn, 1, 0, 0, 0, 0)]
set_option maxRecDepth 100000 in
theorem kcdL_403 : cdL_403.all (am_chk am_w345 345) = true := by decide +kernel
theorem kcdL2_403 : (cdL_403 ++ cdL_h).all (am_chk am_w345 345) = true := by
  simp only [List.all_append, kcdL_403, kcdL_h, Bool.and_self]
def sL_403 (z : Nat) : Nat → List aV → aM → Option aR := fun j => (match Nat.beq j 81 with
  | true => F81 z
  | false => (match Nat.beq j 189 with
  | true => F189 z
  | false => (fun _ _ => none)))
theorem hsL_403 (z : Nat) : ∀ j2 : Nat, ∃ d2 : Nat, d2 + 1 ≤ 14 ∧ am_Snd d2 j2 (sL_403 z j2) := by
  intro j2
  unfold sL_403
  split
  · rename_i he
    rw [am_beq he]
    exact ⟨_, by decide, S81 z⟩
  · skip
    split
    · rename_i he
      rw [am_beq he]
      exact ⟨_, by decide, S189 z⟩
    · skip
      exact ⟨0, by decide, am_Snd_no j2⟩
/-- the law, case [1] -/
def f345_403 (z nL : Nat) (xs : Nat → Int32) (k18 : Int32 → aM → Option aR) : Nat → Int32 → aM → Option aR
  | 0, _, _ => none
  | n + 1, x3, M =>
    if am_inB (x3 + (1 : Int32)) nL then
      am_bi (f81 z (xs (x3 + (1 : Int32)).toNatClampNeg) M) fun v2 M1 =>
        if am_inB (x3 + (1 : Int32)) nL then
          am_bi (f189 z (xs (x3 + (1 : Int32)).toNatClampNeg) M1) fun v4 M3 =>
            if v2 = v4 then
              k18 (x3 + (6 : Int32)) M3
            else
              some (some (.inl ((0 : Int32) &&& 1)), M3)
        else
          none
    else
      none
set_option maxRecDepth 100000 in
set_option maxHeartbeats 4000000 in
theorem e345_403 (z nL : Nat) (xs : Nat → Int32) {p : Program} {l : Launch} {e : Env} {R : Room} {s : State} {m : MethodId} {args : Array Value} {below : List Frame} {meth : Method} {c : Code} {C : aC} {Q : State → Prop} {ce sl : Nat} (F : am_F (some (nL, xs)) p R s m args c C 345 14 ce sl) (r : aR) (hR : am_HR p l e R s m args below meth c C 345 (am_ml 345) ce sl 1 Q r) (k18 : Int32 → aM → Option aR) (hk18 : ∀ (x3 : Int32) (M : aM), k18 x3 M = some r → am_Wd p l e R s m args below meth c C (am_ml 345) ce sl Q 18 [some (.inr (.inr (62, 5200))), some (.inr (.inr (10, 0))), some (.inr (.inr (11, 205))), some (.inl x3)] [] M) : ∀ (n : Nat) (x3 : Int32) (M : aM), f345_403 z nL xs k18 n x3 M = some r → am_Wd p l e R s m args below meth c C (am_ml 345) ce sl Q 403 [some (.inr (.inr (62, 5200))), some (.inr (.inr (10, 0))), some (.inr (.inr (11, 205))), some (.inl x3)] [] M := by
  intro n x3 M h
  cases n with
  | zero => cases h
  | succ n =>
    exact am_seg_ok (sws := am_w345) (sem := sL_403 z) (cd := cdL_403 ++ cdL_h) (cut := ([(18, [true, true, true, true])] : List (Nat × List Bool))) (kap := (fun pc al st M => (match Nat.beq pc 18 with
      | true => (match al, st with
        | [some (.inr (.inr (62, 5200))), some (.inr (.inr (10, 0))), some (.inr (.inr (11, 205))), some (.inl x3)], [] => k18 x3 M
        | _, _ => none)
      | false => none))) (hsL_403 z) F hR kcdL2_403 (by rw [am_l345]; decide) (fun pc al st M hk => by
      try dsimp only at hk
      split at hk
      · rename_i he
        rw [am_beq he]
        split at hk
        · exact hk18 _ _ hk
        · cases hk
      · cases hk) 19 403 _ _ _ h
def cdL_426 : List am_E := [(426, .aload_n 1, 1, 1, 0, 0, 0), (427, .invokevirtual 23, 3, 82, 10000, 0, 0), (430, .aload_n 2, 1, 2, 0, 0, 0), (431, .invokevirtual 27, 3, 206, 11000, 0, 0), (434, .if_icmp .eq 1997, 3, 2431, 0, 0, 0), (437, .iconst 0, 1, 0, 0, 0, 0), (438, .ireturn, 1, 0, 0, 0, 0)]
set_option maxRecDepth 100000 in
theorem kcdL_426 : cdL_426.all (am_chk am_w345 345) = true := by decide +kernel
theorem kcdL2_426 : (cdL_426 ++ cdL_h).all (am_chk am_w345 345) = true := by
  simp only [List.all_append, kcdL_426, kcdL_h, Bool.and_self]
def sL_426 (z : Nat) : Nat → List aV → aM → Option aR := fun j => (match Nat.beq j 82 with
  | true => F82 z
  | false => (match Nat.beq j 206 with
  | true => F206 z
  | false => (fun _ _ => none)))
theorem hsL_426 (z : Nat) : ∀ j2 : Nat, ∃ d2 : Nat, d2 + 1 ≤ 14 ∧ am_Snd d2 j2 (sL_426 z j2) := by
  intro j2
  unfold sL_426
  split
  · rename_i he
    rw [am_beq he]
    exact ⟨_, by decide, S82 z⟩
  · skip
    split
    · rename_i he
      rw [am_beq he]
      exact ⟨_, by decide, S206 z⟩
    · skip
      exact ⟨0, by decide, am_Snd_no j2⟩
/-- the law, case [2] -/
def f345_426 (z nL : Nat) (xs : Nat → Int32) (k18 : Int32 → aM → Option aR) : Nat → Int32 → aM → Option aR
  | 0, _, _ => none
  | n + 1, x3, M =>
    am_bi (f82 z M) fun v2 M1 =>
      am_bi (f206 z M1) fun v4 M3 =>
        if v2 = v4 then
          k18 (x3 + (6 : Int32)) M3
        else
          some (some (.inl ((0 : Int32) &&& 1)), M3)
set_option maxRecDepth 100000 in
set_option maxHeartbeats 4000000 in
theorem e345_426 (z nL : Nat) (xs : Nat → Int32) {p : Program} {l : Launch} {e : Env} {R : Room} {s : State} {m : MethodId} {args : Array Value} {below : List Frame} {meth : Method} {c : Code} {C : aC} {Q : State → Prop} {ce sl : Nat} (F : am_F (some (nL, xs)) p R s m args c C 345 14 ce sl) (r : aR) (hR : am_HR p l e R s m args below meth c C 345 (am_ml 345) ce sl 1 Q r) (k18 : Int32 → aM → Option aR) (hk18 : ∀ (x3 : Int32) (M : aM), k18 x3 M = some r → am_Wd p l e R s m args below meth c C (am_ml 345) ce sl Q 18 [some (.inr (.inr (62, 5200))), some (.inr (.inr (10, 0))), some (.inr (.inr (11, 205))), some (.inl x3)] [] M) : ∀ (n : Nat) (x3 : Int32) (M : aM), f345_426 z nL xs k18 n x3 M = some r → am_Wd p l e R s m args below meth c C (am_ml 345) ce sl Q 426 [some (.inr (.inr (62, 5200))), some (.inr (.inr (10, 0))), some (.inr (.inr (11, 205))), some (.inl x3)] [] M := by
  intro n x3 M h
  cases n with
  | zero => cases h
  | succ n =>
    exact am_seg_ok (sws := am_w345) (sem := sL_426 z) (cd := cdL_426 ++ cdL_h) (cut := ([(18, [true, true, true, true])] : List (Nat × List Bool))) (kap := (fun pc al st M => (match Nat.beq pc 18 with
      | true => (match al, st with
        | [some (.inr (.inr (62, 5200))), some (.inr (.inr (10, 0))), some (.inr (.inr (11, 205))), some (.inl x3)], [] => k18 x3 M
        | _, _ => none)
      | false => none))) (hsL_426 z) F hR kcdL2_426 (by rw [am_l345]; decide) (fun pc al st M hk => by
      try dsimp only at hk
      split at hk
      · rename_i he
        rw [am_beq he]
        split at hk
        · exact hk18 _ _ hk
        · cases hk
      · cases hk) 9 426 _ _ _ h
def cdL_439 : List am_E := [(439, .aload_n 1, 1, 1, 0, 0, 0), (440, .aload_n 0, 1, 0, 0, 0, 0), (441, .iload_n 3, 1, 3, 0, 0, 0), (442, .iconst 1, 1, 0, 0, 1, 0), (443, .iadd, 1, 0, 0, 0, 0), (444, .iaload, 1, 0, 0, 0, 0), (445, .invokevirtual 28, 3, 83, 10010, 0, 0), (448, .aload_n 2, 1, 2, 0, 0, 0), (449, .aload_n 0, 1, 0, 0, 0, 0), (450, .iload_n 3, 1, 3, 0, 0, 0), (451, .iconst 1, 1, 0, 0, 1, 0), (452, .iadd, 1, 0, 0, 0, 0), (453, .iaload, 1, 0, 0, 0, 0), (454, .invokevirtual 31, 3, 199, 11010, 0, 0), (457, .if_icmp .eq 1974, 3, 2431, 0, 0, 0), (460, .iconst 0, 1, 0, 0, 0, 0), (461, .ireturn, 1, 0, 0, 0, 0)]
set_option maxRecDepth 100000 in
theorem kcdL_439 : cdL_439.all (am_chk am_w345 345) = true := by decide +kernel
theorem kcdL2_439 : (cdL_439 ++ cdL_h).all (am_chk am_w345 345) = true := by
  simp only [List.all_append, kcdL_439, kcdL_h, Bool.and_self]
def sL_439 (z : Nat) : Nat → List aV → aM → Option aR := fun j => (match Nat.beq j 83 with
  | true => F83 z
  | false => (match Nat.beq j 199 with
  | true => F199 z
  | false => (fun _ _ => none)))
theorem hsL_439 (z : Nat) : ∀ j2 : Nat, ∃ d2 : Nat, d2 + 1 ≤ 14 ∧ am_Snd d2 j2 (sL_439 z j2) := by
  intro j2
  unfold sL_439
  split
  · rename_i he
    rw [am_beq he]
    exact ⟨_, by decide, S83 z⟩
  · skip
    split
    · rename_i he
      rw [am_beq he]
      exact ⟨_, by decide, S199 z⟩
    · skip
      exact ⟨0, by decide, am_Snd_no j2⟩
/-- the law, case [3] -/
def f345_439 (z nL : Nat) (xs : Nat → Int32) (k18 : Int32 → aM → Option aR) : Nat → Int32 → aM → Option aR
  | 0, _, _ => none
  | n + 1, x3, M =>
    if am_inB (x3 + (1 : Int32)) nL then
      am_bi (f83 z (xs (x3 + (1 : Int32)).toNatClampNeg) M) fun v2 M1 =>
        if am_inB (x3 + (1 : Int32)) nL then
          am_bi (f199 z (xs (x3 + (1 : Int32)).toNatClampNeg) M1) fun v4 M3 =>
            if v2 = v4 then
              k18 (x3 + (6 : Int32)) M3
            else
              some (some (.inl ((0 : Int32) &&& 1)), M3)
        else
          none
    else
      none
set_option maxRecDepth 100000 in
set_option maxHeartbeats 4000000 in
theorem e345_439 (z nL : Nat) (xs : Nat → Int32) {p : Program} {l : Launch} {e : Env} {R : Room} {s : State} {m : MethodId} {args : Array Value} {below : List Frame} {meth : Method} {c : Code} {C : aC} {Q : State → Prop} {ce sl : Nat} (F : am_F (some (nL, xs)) p R s m args c C 345 14 ce sl) (r : aR) (hR : am_HR p l e R s m args below meth c C 345 (am_ml 345) ce sl 1 Q r) (k18 : Int32 → aM → Option aR) (hk18 : ∀ (x3 : Int32) (M : aM), k18 x3 M = some r → am_Wd p l e R s m args below meth c C (am_ml 345) ce sl Q 18 [some (.inr (.inr (62, 5200))), some (.inr (.inr (10, 0))), some (.inr (.inr (11, 205))), some (.inl x3)] [] M) : ∀ (n : Nat) (x3 : Int32) (M : aM), f345_439 z nL xs k18 n x3 M = some r → am_Wd p l e R s m args below meth c C (am_ml 345) ce sl Q 439 [some (.inr (.inr (62, 5200))), some (.inr (.inr (10, 0))), some (.inr (.inr (11, 205))), some (.inl x3)] [] M := by
  intro n x3 M h
  cases n with
  | zero => cases h
  | succ n =>
    exact am_seg_ok (sws := am_w345) (sem := sL_439 z) (cd := cdL_439 ++ cdL_h) (cut := ([(18, [true, true, true, true])] : List (Nat × List Bool))) (kap := (fun pc al st M => (match Nat.beq pc 18 with
      | true => (match al, st with
        | [some (.inr (.inr (62, 5200))), some (.inr (.inr (10, 0))), some (.inr (.inr (11, 205))), some (.inl x3)], [] => k18 x3 M
        | _, _ => none)
      | false => none))) (hsL_439 z) F hR kcdL2_439 (by rw [am_l345]; decide) (fun pc al st M hk => by
      try dsimp only at hk
      split at hk
      · rename_i he
        rw [am_beq he]
        split at hk
        · exact hk18 _ _ hk
        · cases hk
      · cases hk) 19 439 _ _ _ h
def cdL_462 : List am_E := [(462, .aload_n 1, 1, 1, 0, 0, 0), (463, .aload_n 0, 1, 0, 0, 0, 0), (464, .iload_n 3, 1, 3, 0, 0, 0), (465, .iconst 1, 1, 0, 0, 1, 0), (466, .iadd, 1, 0, 0, 0, 0), (467, .iaload, 1, 0, 0, 0, 0), (468, .aload_n 0, 1, 0, 0, 0, 0), (469, .iload_n 3, 1, 3, 0, 0, 0), (470, .iconst 2, 1, 0, 0, 2, 0), (471, .iadd, 1, 0, 0, 0, 0), (472, .iaload, 1, 0, 0, 0, 0), (473, .invokevirtual 32, 3, 85, 10020, 0, 0), (476, .aload_n 2, 1, 2, 0, 0, 0), (477, .aload_n 0, 1, 0, 0, 0, 0), (478, .iload_n 3, 1, 3, 0, 0, 0), (479, .iconst 1, 1, 0, 0, 1, 0), (480, .iadd, 1, 0, 0, 0, 0), (481, .iaload, 1, 0, 0, 0, 0), (482, .aload_n 0, 1, 0, 0, 0, 0), (483, .iload_n 3, 1, 3, 0, 0, 0), (484, .iconst 2, 1, 0, 0, 2, 0), (485, .iadd, 1, 0, 0, 0, 0), (486, .iaload, 1, 0, 0, 0, 0), (487, .invokevirtual 36, 3, 207, 11020, 0, 0), (490, .if_icmp .eq 1941, 3, 2431, 0, 0, 0), (493, .iconst 0, 1, 0, 0, 0, 0), (494, .ireturn, 1, 0, 0, 0, 0)]
set_option maxRecDepth 100000 in
theorem kcdL_462 : cdL_462.all (am_chk am_w345 345) = true := by decide +kernel
theorem kcdL2_462 : (cdL_462 ++ cdL_h).all (am_chk am_w345 345) = true := by
  simp only [List.all_append, kcdL_462, kcdL_h, Bool.and_self]
def sL_462 (z : Nat) : Nat → List aV → aM → Option aR := fun j => (match Nat.beq j 85 with
  | true => F85 z
  | false => (match Nat.beq j 207 with
  | true => F207 z
  | false => (fun _ _ => none)))
theorem hsL_462 (z : Nat) : ∀ j2 : Nat, ∃ d2 : Nat, d2 + 1 ≤ 14 ∧ am_Snd d2 j2 (sL_462 z j2) := by
  intro j2
  unfold sL_462
  split
  · rename_i he
    rw [am_beq he]
    exact ⟨_, by decide, S85 z⟩
  · skip
    split
    · rename_i he
      rw [am_beq he]
      exact ⟨_, by decide, S207 z⟩
    · skip
      exact ⟨0, by decide, am_Snd_no j2⟩
/-- the law, case [4] -/
def f345_462 (z nL : Nat) (xs : Nat → Int32) (k18 : Int32 → aM → Option aR) : Nat → Int32 → aM → Option aR
  | 0, _, _ => none
  | n + 1, x3, M =>
    if am_inB (x3 + (1 : Int32)) nL then
      if am_inB (x3 + (2 : Int32)) nL then
        am_bi (f85 z (xs (x3 + (1 : Int32)).toNatClampNeg) (xs (x3 + (2 : Int32)).toNatClampNeg) M) fun v2 M1 =>
          if am_inB (x3 + (1 : Int32)) nL then
            if am_inB (x3 + (2 : Int32)) nL then
              am_bi (f207 z (xs (x3 + (1 : Int32)).toNatClampNeg) (xs (x3 + (2 : Int32)).toNatClampNeg) M1) fun v4 M3 =>
                if v2 = v4 then
                  k18 (x3 + (6 : Int32)) M3
                else
                  some (some (.inl ((0 : Int32) &&& 1)), M3)
            else
              none
          else
            none
      else
        none
    else
      none
set_option maxRecDepth 100000 in
set_option maxHeartbeats 4000000 in
theorem e345_462 (z nL : Nat) (xs : Nat → Int32) {p : Program} {l : Launch} {e : Env} {R : Room} {s : State} {m : MethodId} {args : Array Value} {below : List Frame} {meth : Method} {c : Code} {C : aC} {Q : State → Prop} {ce sl : Nat} (F : am_F (some (nL, xs)) p R s m args c C 345 14 ce sl) (r : aR) (hR : am_HR p l e R s m args below meth c C 345 (am_ml 345) ce sl 1 Q r) (k18 : Int32 → aM → Option aR) (hk18 : ∀ (x3 : Int32) (M : aM), k18 x3 M = some r → am_Wd p l e R s m args below meth c C (am_ml 345) ce sl Q 18 [some (.inr (.inr (62, 5200))), some (.inr (.inr (10, 0))), some (.inr (.inr (11, 205))), some (.inl x3)] [] M) : ∀ (n : Nat) (x3 : Int32) (M : aM), f345_462 z nL xs k18 n x3 M = some r → am_Wd p l e R s m args below meth c C (am_ml 345) ce sl Q 462 [some (.inr (.inr (62, 5200))), some (.inr (.inr (10, 0))), some (.inr (.inr (11, 205))), some (.inl x3)] [] M := by
  intro n x3 M h
  cases n with
  | zero => cases h
  | succ n =>
    exact am_seg_ok (sws := am_w345) (sem := sL_462 z) (cd := cdL_462 ++ cdL_h) (cut := ([(18, [true, true, true, true])] : List (Nat × List Bool))) (kap := (fun pc al st M => (match Nat.beq pc 18 with
      | true => (match al, st with
        | [some (.inr (.inr (62, 5200))), some (.inr (.inr (10, 0))), some (.inr (.inr (11, 205))), some (.inl x3)], [] => k18 x3 M
        | _, _ => none)
      | false => none))) (hsL_462 z) F hR kcdL2_462 (by rw [am_l345]; decide) (fun pc al st M hk => by
      try dsimp only at hk
      split at hk
      · rename_i he
        rw [am_beq he]
        split at hk
        · exact hk18 _ _ hk
        · cases hk
      · cases hk) 29 462 _ _ _ h
def cdL_495 : List am_E := [(495, .aload_n 1, 1, 1, 0, 0, 0), (496, .aload_n 0, 1, 0, 0, 0, 0), (497, .iload_n 3, 1, 3, 0, 0, 0), (498, .iconst 1, 1, 0, 0, 1, 0), (499, .iadd, 1, 0, 0, 0, 0), (500, .iaload, 1, 0, 0, 0, 0), (501, .aload_n 0, 1, 0, 0, 0, 0), (502, .iload_n 3, 1, 3, 0, 0, 0), (503, .iconst 2, 1, 0, 0, 2, 0), (504, .iadd, 1, 0, 0, 0, 0), (505, .iaload, 1, 0, 0, 0, 0), (506, .invokevirtual 37, 3, 86, 10020, 0, 0), (509, .aload_n 2, 1, 2, 0, 0, 0), (510, .aload_n 0, 1, 0, 0, 0, 0), (511, .iload_n 3, 1, 3, 0, 0, 0), (512, .iconst 1, 1, 0, 0, 1, 0), (513, .iadd, 1, 0, 0, 0, 0), (514, .iaload, 1, 0, 0, 0, 0), (515, .aload_n 0, 1, 0, 0, 0, 0), (516, .iload_n 3, 1, 3, 0, 0, 0), (517, .iconst 2, 1, 0, 0, 2, 0), (518, .iadd, 1, 0, 0, 0, 0), (519, .iaload, 1, 0, 0, 0, 0), (520, .invokevirtual 40, 3, 208, 11020, 0, 0), (523, .if_icmp .eq 1908, 3, 2431, 0, 0, 0), (526, .iconst 0, 1, 0, 0, 0, 0), (527, .ireturn, 1, 0, 0, 0, 0)]
set_option maxRecDepth 100000 in
theorem kcdL_495 : cdL_495.all (am_chk am_w345 345) = true := by decide +kernel
theorem kcdL2_495 : (cdL_495 ++ cdL_h).all (am_chk am_w345 345) = true := by
  simp only [List.all_append, kcdL_495, kcdL_h, Bool.and_self]
def sL_495 (z : Nat) : Nat → List aV → aM → Option aR := fun j => (match Nat.beq j 86 with
  | true => F86 z
  | false => (match Nat.beq j 208 with
  | true => F208 z
  | false => (fun _ _ => none)))
theorem hsL_495 (z : Nat) : ∀ j2 : Nat, ∃ d2 : Nat, d2 + 1 ≤ 14 ∧ am_Snd d2 j2 (sL_495 z j2) := by
  intro j2
  unfold sL_495
  split
  · rename_i he
    rw [am_beq he]
    exact ⟨_, by decide, S86 z⟩
  · skip
    split
    · rename_i he
      rw [am_beq he]
      exact ⟨_, by decide, S208 z⟩
    · skip
      exact ⟨0, by decide, am_Snd_no j2⟩
/-- the law, case [5] -/
def f345_495 (z nL : Nat) (xs : Nat → Int32) (k18 : Int32 → aM → Option aR) : Nat → Int32 → aM → Option aR
  | 0, _, _ => none
  | n + 1, x3, M =>
    if am_inB (x3 + (1 : Int32)) nL then
      if am_inB (x3 + (2 : Int32)) nL then
        am_bi (f86 z (xs (x3 + (1 : Int32)).toNatClampNeg) (xs (x3 + (2 : Int32)).toNatClampNeg) M) fun v2 M1 =>
          if am_inB (x3 + (1 : Int32)) nL then
            if am_inB (x3 + (2 : Int32)) nL then
              am_bi (f208 z (xs (x3 + (1 : Int32)).toNatClampNeg) (xs (x3 + (2 : Int32)).toNatClampNeg) M1) fun v4 M3 =>
                if v2 = v4 then
                  k18 (x3 + (6 : Int32)) M3
                else
                  some (some (.inl ((0 : Int32) &&& 1)), M3)
            else
              none
          else
            none
      else
        none
    else
      none
set_option maxRecDepth 100000 in
set_option maxHeartbeats 4000000 in
theorem e345_495 (z nL : Nat) (xs : Nat → Int32) {p : Program} {l : Launch} {e : Env} {R : Room} {s : State} {m : MethodId} {args : Array Value} {below : List Frame} {meth : Method} {c : Code} {C : aC} {Q : State → Prop} {ce sl : Nat} (F : am_F (some (nL, xs)) p R s m args c C 345 14 ce sl) (r : aR) (hR : am_HR p l e R s m args below meth c C 345 (am_ml 345) ce sl 1 Q r) (k18 : Int32 → aM → Option aR) (hk18 : ∀ (x3 : Int32) (M : aM), k18 x3 M = some r → am_Wd p l e R s m args below meth c C (am_ml 345) ce sl Q 18 [some (.inr (.inr (62, 5200))), some (.inr (.inr (10, 0))), some (.inr (.inr (11, 205))), some (.inl x3)] [] M) : ∀ (n : Nat) (x3 : Int32) (M : aM), f345_495 z nL xs k18 n x3 M = some r → am_Wd p l e R s m args below meth c C (am_ml 345) ce sl Q 495 [some (.inr (.inr (62, 5200))), some (.inr (.inr (10, 0))), some (.inr (.inr (11, 205))), some (.inl x3)] [] M := by
  intro n x3 M h
  cases n with
  | zero => cases h
  | succ n =>
    exact am_seg_ok (sws := am_w345) (sem := sL_495 z) (cd := cdL_495 ++ cdL_h) (cut := ([(18, [true, true, true, true])] : List (Nat × List Bool))) (kap := (fun pc al st M => (match Nat.beq pc 18 with
      | true => (match al, st with
        | [some (.inr (.inr (62, 5200))), some (.inr (.inr (10, 0))), some (.inr (.inr (11, 205))), some (.inl x3)], [] => k18 x3 M
        | _, _ => none)
      | false => none))) (hsL_495 z) F hR kcdL2_495 (by rw [am_l345]; decide) (fun pc al st M hk => by
      try dsimp only at hk
      split at hk
      · rename_i he
        rw [am_beq he]
        split at hk
        · exact hk18 _ _ hk
        · cases hk
      · cases hk) 29 495 _ _ _ h
def cdL_528 : List am_E := [(528, .aload_n 1, 1, 1, 0, 0, 0), (529, .aload_n 0, 1, 0, 0, 0, 0), (530, .iload_n 3, 1, 3, 0, 0, 0), (531, .iconst 1, 1, 0, 0, 1, 0), (532, .iadd, 1, 0, 0, 0, 0), (533, .iaload, 1, 0, 0, 0, 0), (534, .invokevirtual 41, 3, 87, 10010, 0, 0), (537, .aload_n 2, 1, 2, 0, 0, 0), (538, .aload_n 0, 1, 0, 0, 0, 0), (539, .iload_n 3, 1, 3, 0, 0, 0), (540, .iconst 1, 1, 0, 0, 1, 0), (541, .iadd, 1, 0, 0, 0, 0), (542, .iaload, 1, 0, 0, 0, 0), (543, .invokevirtual 44, 3, 210, 11010, 0, 0), (546, .if_icmp .eq 1885, 3, 2431, 0, 0, 0), (549, .iconst 0, 1, 0, 0, 0, 0), (550, .ireturn, 1, 0, 0, 0, 0)]
set_option maxRecDepth 100000 in
theorem kcdL_528 : cdL_528.all (am_chk am_w345 345) = true := by decide +kernel
theorem kcdL2_528 : (cdL_528 ++ cdL_h).all (am_chk am_w345 345) = true := by
  simp only [List.all_append, kcdL_528, kcdL_h, Bool.and_self]
def sL_528 (z : Nat) : Nat → List aV → aM → Option aR := fun j => (match Nat.beq j 87 with
  | true => F87 z
  | false => (match Nat.beq j 210 with
  | true => F210 z
  | false => (fun _ _ => none)))
theorem hsL_528 (z : Nat) : ∀ j2 : Nat, ∃ d2 : Nat, d2 + 1 ≤ 14 ∧ am_Snd d2 j2 (sL_528 z j2) := by
  intro j2
  unfold sL_528
  split
  · rename_i he
    rw [am_beq he]
    exact ⟨_, by decide, S87 z⟩
  · skip
    split
    · rename_i he
      rw [am_beq he]
      exact ⟨_, by decide, S210 z⟩
    · skip
      exact ⟨0, by decide, am_Snd_no j2⟩
/-- the law, case [6] -/
def f345_528 (z nL : Nat) (xs : Nat → Int32) (k18 : Int32 → aM → Option aR) : Nat → Int32 → aM → Option aR
  | 0, _, _ => none
  | n + 1, x3, M =>
    if am_inB (x3 + (1 : Int32)) nL then
      am_bi (f87 z (xs (x3 + (1 : Int32)).toNatClampNeg) M) fun v2 M1 =>
        if am_inB (x3 + (1 : Int32)) nL then
          am_bi (f210 z (xs (x3 + (1 : Int32)).toNatClampNeg) M1) fun v4 M3 =>
            if v2 = v4 then
              k18 (x3 + (6 : Int32)) M3
            else
              some (some (.inl ((0 : Int32) &&& 1)), M3)
        else
          none
    else
      none
set_option maxRecDepth 100000 in
set_option maxHeartbeats 4000000 in
theorem e345_528 (z nL : Nat) (xs : Nat → Int32) {p : Program} {l : Launch} {e : Env} {R : Room} {s : State} {m : MethodId} {args : Array Value} {below : List Frame} {meth : Method} {c : Code} {C : aC} {Q : State → Prop} {ce sl : Nat} (F : am_F (some (nL, xs)) p R s m args c C 345 14 ce sl) (r : aR) (hR : am_HR p l e R s m args below meth c C 345 (am_ml 345) ce sl 1 Q r) (k18 : Int32 → aM → Option aR) (hk18 : ∀ (x3 : Int32) (M : aM), k18 x3 M = some r → am_Wd p l e R s m args below meth c C (am_ml 345) ce sl Q 18 [some (.inr (.inr (62, 5200))), some (.inr (.inr (10, 0))), some (.inr (.inr (11, 205))), some (.inl x3)] [] M) : ∀ (n : Nat) (x3 : Int32) (M : aM), f345_528 z nL xs k18 n x3 M = some r → am_Wd p l e R s m args below meth c C (am_ml 345) ce sl Q 528 [some (.inr (.inr (62, 5200))), some (.inr (.inr (10, 0))), some (.inr (.inr (11, 205))), some (.inl x3)] [] M := by
  intro n x3 M h
  cases n with
  | zero => cases h
  | succ n =>
    exact am_seg_ok (sws := am_w345) (sem := sL_528 z) (cd := cdL_528 ++ cdL_h) (cut := ([(18, [true, true, true, true])] : List (Nat × List Bool))) (kap := (fun pc al st M => (match Nat.beq pc 18 with
      | true => (match al, st with
        | [some (.inr (.inr (62, 5200))), some (.inr (.inr (10, 0))), some (.inr (.inr (11, 205))), some (.inl x3)], [] => k18 x3 M
        | _, _ => none)
      | false => none))) (hsL_528 z) F hR kcdL2_528 (by rw [am_l345]; decide) (fun pc al st M hk => by
      try dsimp only at hk
      split at hk
      · rename_i he
        rw [am_beq he]
        split at hk
        · exact hk18 _ _ hk
        · cases hk
      · cases hk) 19 528 _ _ _ h
def cdL_551 : List am_E := [(551, .aload_n 1, 1, 1, 0, 0, 0), (552, .aload_n 0, 1, 0, 0, 0, 0), (553, .iload_n 3, 1, 3, 0, 0, 0), (554, .iconst 1, 1, 0, 0, 1, 0), (555, .iadd, 1, 0, 0, 0, 0), (556, .iaload, 1, 0, 0, 0, 0), (557, .aload_n 0, 1, 0, 0, 0, 0), (558, .iload_n 3, 1, 3, 0, 0, 0), (559, .iconst 2, 1, 0, 0, 2, 0), (560, .iadd, 1, 0, 0, 0, 0), (561, .iaload, 1, 0, 0, 0, 0), (562, .invokevirtual 45, 3, 88, 10020, 0, 0), (565, .aload_n 2, 1, 2, 0, 0, 0), (566, .aload_n 0, 1, 0, 0, 0, 0), (567, .iload_n 3, 1, 3, 0, 0, 0), (568, .iconst 1, 1, 0, 0, 1, 0), (569, .iadd, 1, 0, 0, 0, 0), (570, .iaload, 1, 0, 0, 0, 0), (571, .aload_n 0, 1, 0, 0, 0, 0), (572, .iload_n 3, 1, 3, 0, 0, 0), (573, .iconst 2, 1, 0, 0, 2, 0), (574, .iadd, 1, 0, 0, 0, 0), (575, .iaload, 1, 0, 0, 0, 0), (576, .invokevirtual 48, 3, 234, 11020, 0, 0), (579, .if_icmp .eq 1852, 3, 2431, 0, 0, 0), (582, .iconst 0, 1, 0, 0, 0, 0), (583, .ireturn, 1, 0, 0, 0, 0)]
set_option maxRecDepth 100000 in
theorem kcdL_551 : cdL_551.all (am_chk am_w345 345) = true := by decide +kernel
theorem kcdL2_551 : (cdL_551 ++ cdL_h).all (am_chk am_w345 345) = true := by
  simp only [List.all_append, kcdL_551, kcdL_h, Bool.and_self]
def sL_551 (z : Nat) : Nat → List aV → aM → Option aR := fun j => (match Nat.beq j 88 with
  | true => F88 z
  | false => (match Nat.beq j 234 with
  | true => F234 z
  | false => (fun _ _ => none)))
theorem hsL_551 (z : Nat) : ∀ j2 : Nat, ∃ d2 : Nat, d2 + 1 ≤ 14 ∧ am_Snd d2 j2 (sL_551 z j2) := by
  intro j2
  unfold sL_551
  split
  · rename_i he
    rw [am_beq he]
    exact ⟨_, by decide, S88 z⟩
  · skip
    split
    · rename_i he
      rw [am_beq he]
      exact ⟨_, by decide, S234 z⟩
    · skip
      exact ⟨0, by decide, am_Snd_no j2⟩
/-- the law, case [7] -/
def f345_551 (z nL : Nat) (xs : Nat → Int32) (k18 : Int32 → aM → Option aR) : Nat → Int32 → aM → Option aR
  | 0, _, _ => none
  | n + 1, x3, M =>
    if am_inB (x3 + (1 : Int32)) nL then
      if am_inB (x3 + (2 : Int32)) nL then
        am_bi (f88 z (xs (x3 + (1 : Int32)).toNatClampNeg) (xs (x3 + (2 : Int32)).toNatClampNeg) M) fun v2 M1 =>
          if am_inB (x3 + (1 : Int32)) nL then
            if am_inB (x3 + (2 : Int32)) nL then
              am_bi (f234 z (xs (x3 + (1 : Int32)).toNatClampNeg) (xs (x3 + (2 : Int32)).toNatClampNeg) M1) fun v4 M3 =>
                if v2 = v4 then
                  k18 (x3 + (6 : Int32)) M3
                else
                  some (some (.inl ((0 : Int32) &&& 1)), M3)
            else
              none
          else
            none
      else
        none
    else
      none
set_option maxRecDepth 100000 in
set_option maxHeartbeats 4000000 in
theorem e345_551 (z nL : Nat) (xs : Nat → Int32) {p : Program} {l : Launch} {e : Env} {R : Room} {s : State} {m : MethodId} {args : Array Value} {below : List Frame} {meth : Method} {c : Code} {C : aC} {Q : State → Prop} {ce sl : Nat} (F : am_F (some (nL, xs)) p R s m args c C 345 14 ce sl) (r : aR) (hR : am_HR p l e R s m args below meth c C 345 (am_ml 345) ce sl 1 Q r) (k18 : Int32 → aM → Option aR) (hk18 : ∀ (x3 : Int32) (M : aM), k18 x3 M = some r → am_Wd p l e R s m args below meth c C (am_ml 345) ce sl Q 18 [some (.inr (.inr (62, 5200))), some (.inr (.inr (10, 0))), some (.inr (.inr (11, 205))), some (.inl x3)] [] M) : ∀ (n : Nat) (x3 : Int32) (M : aM), f345_551 z nL xs k18 n x3 M = some r → am_Wd p l e R s m args below meth c C (am_ml 345) ce sl Q 551 [some (.inr (.inr (62, 5200))), some (.inr (.inr (10, 0))), some (.inr (.inr (11, 205))), some (.inl x3)] [] M := by
  intro n x3 M h
  cases n with
  | zero => cases h
  | succ n =>
    exact am_seg_ok (sws := am_w345) (sem := sL_551 z) (cd := cdL_551 ++ cdL_h) (cut := ([(18, [true, true, true, true])] : List (Nat × List Bool))) (kap := (fun pc al st M => (match Nat.beq pc 18 with
      | true => (match al, st with
        | [some (.inr (.inr (62, 5200))), some (.inr (.inr (10, 0))), some (.inr (.inr (11, 205))), some (.inl x3)], [] => k18 x3 M
        | _, _ => none)
      | false => none))) (hsL_551 z) F hR kcdL2_551 (by rw [am_l345]; decide) (fun pc al st M hk => by
      try dsimp only at hk
      split at hk
      · rename_i he
        rw [am_beq he]
        split at hk
        · exact hk18 _ _ hk
        · cases hk
      · cases hk) 29 551 _ _ _ h
def cdL_584 : List am_E := [(584, .aload_n 1, 1, 1, 0, 0, 0), (585, .aload_n 0, 1, 0, 0, 0, 0), (586, .iload_n 3, 1, 3, 0, 0, 0), (587, .iconst 1, 1, 0, 0, 1, 0), (588, .iadd, 1, 0, 0, 0, 0), (589, .iaload, 1, 0, 0, 0, 0), (590, .invokevirtual 49, 3, 89, 10010, 0, 0), (593, .aload_n 2, 1, 2, 0, 0, 0), (594, .aload_n 0, 1, 0, 0, 0, 0), (595, .iload_n 3, 1, 3, 0, 0, 0), (596, .iconst 1, 1, 0, 0, 1, 0), (597, .iadd, 1, 0, 0, 0, 0), (598, .iaload, 1, 0, 0, 0, 0), (599, .invokevirtual 52, 3, 235, 11010, 0, 0), (602, .if_icmp .eq 1829, 3, 2431, 0, 0, 0), (605, .iconst 0, 1, 0, 0, 0, 0), (606, .ireturn, 1, 0, 0, 0, 0)]
set_option maxRecDepth 100000 in
theorem kcdL_584 : cdL_584.all (am_chk am_w345 345) = true := by decide +kernel
theorem kcdL2_584 : (cdL_584 ++ cdL_h).all (am_chk am_w345 345) = true := by
  simp only [List.all_append, kcdL_584, kcdL_h, Bool.and_self]
def sL_584 (z : Nat) : Nat → List aV → aM → Option aR := fun j => (match Nat.beq j 89 with
  | true => F89 z
  | false => (match Nat.beq j 235 with
  | true => F235 z
  | false => (fun _ _ => none)))
theorem hsL_584 (z : Nat) : ∀ j2 : Nat, ∃ d2 : Nat, d2 + 1 ≤ 14 ∧ am_Snd d2 j2 (sL_584 z j2) := by
  intro j2
  unfold sL_584
  split
  · rename_i he
    rw [am_beq he]
    exact ⟨_, by decide, S89 z⟩
  · skip
    split
    · rename_i he
      rw [am_beq he]
      exact ⟨_, by decide, S235 z⟩
    · skip
      exact ⟨0, by decide, am_Snd_no j2⟩
/-- the law, case [8] -/
def f345_584 (z nL : Nat) (xs : Nat → Int32) (k18 : Int32 → aM → Option aR) : Nat → Int32 → aM → Option aR
  | 0, _, _ => none
  | n + 1, x3, M =>
    if am_inB (x3 + (1 : Int32)) nL then
      am_bi (f89 z (xs (x3 + (1 : Int32)).toNatClampNeg) M) fun v2 M1 =>
        if am_inB (x3 + (1 : Int32)) nL then
          am_bi (f235 z (xs (x3 + (1 : Int32)).toNatClampNeg) M1) fun v4 M3 =>
            if v2 = v4 then
              k18 (x3 + (6 : Int32)) M3
            else
              some (some (.inl ((0 : Int32) &&& 1)), M3)
        else
          none
    else
      none
set_option maxRecDepth 100000 in
set_option maxHeartbeats 4000000 in
theorem e345_584 (z nL : Nat) (xs : Nat → Int32) {p : Program} {l : Launch} {e : Env} {R : Room} {s : State} {m : MethodId} {args : Array Value} {below : List Frame} {meth : Method} {c : Code} {C : aC} {Q : State → Prop} {ce sl : Nat} (F : am_F (some (nL, xs)) p R s m args c C 345 14 ce sl) (r : aR) (hR : am_HR p l e R s m args below meth c C 345 (am_ml 345) ce sl 1 Q r) (k18 : Int32 → aM → Option aR) (hk18 : ∀ (x3 : Int32) (M : aM), k18 x3 M = some r → am_Wd p l e R s m args below meth c C (am_ml 345) ce sl Q 18 [some (.inr (.inr (62, 5200))), some (.inr (.inr (10, 0))), some (.inr (.inr (11, 205))), some (.inl x3)] [] M) : ∀ (n : Nat) (x3 : Int32) (M : aM), f345_584 z nL xs k18 n x3 M = some r → am_Wd p l e R s m args below meth c C (am_ml 345) ce sl Q 584 [some (.inr (.inr (62, 5200))), some (.inr (.inr (10, 0))), some (.inr (.inr (11, 205))), some (.inl x3)] [] M := by
  intro n x3 M h
  cases n with
  | zero => cases h
  | succ n =>
    exact am_seg_ok (sws := am_w345) (sem := sL_584 z) (cd := cdL_584 ++ cdL_h) (cut := ([(18, [true, true, true, true])] : List (Nat × List Bool))) (kap := (fun pc al st M => (match Nat.beq pc 18 with
      | true => (match al, st with
        | [some (.inr (.inr (62, 5200))), some (.inr (.inr (10, 0))), some (.inr (.inr (11, 205))), some (.inl x3)], [] => k18 x3 M
        | _, _ => none)
      | false => none))) (hsL_584 z) F hR kcdL2_584 (by rw [am_l345]; decide) (fun pc al st M hk => by
      try dsimp only at hk
      split at hk
      · rename_i he
        rw [am_beq he]
        split at hk
        · exact hk18 _ _ hk
        · cases hk
      · cases hk) 19 584 _ _ _ h
def cdL_607 : List am_E := [(607, .aload_n 1, 1, 1, 0, 0, 0), (608, .aload_n 0, 1, 0, 0, 0, 0), (609, .iload_n 3, 1, 3, 0, 0, 0), (610, .iconst 1, 1, 0, 0, 1, 0), (611, .iadd, 1, 0, 0, 0, 0), (612, .iaload, 1, 0, 0, 0, 0), (613, .invokevirtual 53, 3, 90, 10010, 0, 0), (616, .aload_n 2, 1, 2, 0, 0, 0), (617, .aload_n 0, 1, 0, 0, 0, 0), (618, .iload_n 3, 1, 3, 0, 0, 0), (619, .iconst 1, 1, 0, 0, 1, 0), (620, .iadd, 1, 0, 0, 0, 0), (621, .iaload, 1, 0, 0, 0, 0), (622, .invokevirtual 56, 3, 236, 11010, 0, 0), (625, .if_icmp .eq 1806, 3, 2431, 0, 0, 0), (628, .iconst 0, 1, 0, 0, 0, 0), (629, .ireturn, 1, 0, 0, 0, 0)]
set_option maxRecDepth 100000 in
theorem kcdL_607 : cdL_607.all (am_chk am_w345 345) = true := by decide +kernel
theorem kcdL2_607 : (cdL_607 ++ cdL_h).all (am_chk am_w345 345) = true := by
  simp only [List.all_append, kcdL_607, kcdL_h, Bool.and_self]
def sL_607 (z : Nat) : Nat → List aV → aM → Option aR := fun j => (match Nat.beq j 90 with
  | true => F90 z
  | false => (match Nat.beq j 236 with
  | true => F236 z
  | false => (fun _ _ => none)))
theorem hsL_607 (z : Nat) : ∀ j2 : Nat, ∃ d2 : Nat, d2 + 1 ≤ 14 ∧ am_Snd d2 j2 (sL_607 z j2) := by
  intro j2
  unfold sL_607
  split
  · rename_i he
    rw [am_beq he]
    exact ⟨_, by decide, S90 z⟩
  · skip
    split
    · rename_i he
      rw [am_beq he]
      exact ⟨_, by decide, S236 z⟩
    · skip
      exact ⟨0, by decide, am_Snd_no j2⟩
/-- the law, case [9] -/
def f345_607 (z nL : Nat) (xs : Nat → Int32) (k18 : Int32 → aM → Option aR) : Nat → Int32 → aM → Option aR
  | 0, _, _ => none
  | n + 1, x3, M =>
    if am_inB (x3 + (1 : Int32)) nL then
      am_bi (f90 z (xs (x3 + (1 : Int32)).toNatClampNeg) M) fun v2 M1 =>
        if am_inB (x3 + (1 : Int32)) nL then
          am_bi (f236 z (xs (x3 + (1 : Int32)).toNatClampNeg) M1) fun v4 M3 =>
            if v2 = v4 then
              k18 (x3 + (6 : Int32)) M3
            else
              some (some (.inl ((0 : Int32) &&& 1)), M3)
        else
          none
    else
      none
set_option maxRecDepth 100000 in
set_option maxHeartbeats 4000000 in
theorem e345_607 (z nL : Nat) (xs : Nat → Int32) {p : Program} {l : Launch} {e : Env} {R : Room} {s : State} {m : MethodId} {args : Array Value} {below : List Frame} {meth : Method} {c : Code} {C : aC} {Q : State → Prop} {ce sl : Nat} (F : am_F (some (nL, xs)) p R s m args c C 345 14 ce sl) (r : aR) (hR : am_HR p l e R s m args below meth c C 345 (am_ml 345) ce sl 1 Q r) (k18 : Int32 → aM → Option aR) (hk18 : ∀ (x3 : Int32) (M : aM), k18 x3 M = some r → am_Wd p l e R s m args below meth c C (am_ml 345) ce sl Q 18 [some (.inr (.inr (62, 5200))), some (.inr (.inr (10, 0))), some (.inr (.inr (11, 205))), some (.inl x3)] [] M) : ∀ (n : Nat) (x3 : Int32) (M : aM), f345_607 z nL xs k18 n x3 M = some r → am_Wd p l e R s m args below meth c C (am_ml 345) ce sl Q 607 [some (.inr (.inr (62, 5200))), some (.inr (.inr (10, 0))), some (.inr (.inr (11, 205))), some (.inl x3)] [] M := by
  intro n x3 M h
  cases n with
  | zero => cases h
  | succ n =>
    exact am_seg_ok (sws := am_w345) (sem := sL_607 z) (cd := cdL_607 ++ cdL_h) (cut := ([(18, [true, true, true, true])] : List (Nat × List Bool))) (kap := (fun pc al st M => (match Nat.beq pc 18 with
      | true => (match al, st with
        | [some (.inr (.inr (62, 5200))), some (.inr (.inr (10, 0))), some (.inr (.inr (11, 205))), some (.inl x3)], [] => k18 x3 M
        | _, _ => none)
      | false => none))) (hsL_607 z) F hR kcdL2_607 (by rw [am_l345]; decide) (fun pc al st M hk => by
      try dsimp only at hk
      split at hk
      · rename_i he
        rw [am_beq he]
        split at hk
        · exact hk18 _ _ hk
        · cases hk
      · cases hk) 19 607 _ _ _ h
def cdL_630 : List am_E := [(630, .aload_n 1, 1, 1, 0, 0, 0), (631, .aload_n 0, 1, 0, 0, 0, 0), (632, .iload_n 3, 1, 3, 0, 0, 0), (633, .iconst 1, 1, 0, 0, 1, 0), (634, .iadd, 1, 0, 0, 0, 0), (635, .iaload, 1, 0, 0, 0, 0), (636, .invokevirtual 57, 3, 91, 10010, 0, 0), (639, .aload_n 2, 1, 2, 0, 0, 0), (640, .aload_n 0, 1, 0, 0, 0, 0), (641, .iload_n 3, 1, 3, 0, 0, 0), (642, .iconst 1, 1, 0, 0, 1, 0), (643, .iadd, 1, 0, 0, 0, 0), (644, .iaload, 1, 0, 0, 0, 0), (645, .invokevirtual 60, 3, 238, 11010, 0, 0), (648, .if_icmp .eq 1783, 3, 2431, 0, 0, 0), (651, .iconst 0, 1, 0, 0, 0, 0), (652, .ireturn, 1, 0, 0, 0, 0)]
set_option maxRecDepth 100000 in
theorem kcdL_630 : cdL_630.all (am_chk am_w345 345) = true := by decide +kernel
theorem kcdL2_630 : (cdL_630 ++ cdL_h).all (am_chk am_w345 345) = true := by
  simp only [List.all_append, kcdL_630, kcdL_h, Bool.and_self]
def sL_630 (z : Nat) : Nat → List aV → aM → Option aR := fun j => (match Nat.beq j 91 with
  | true => F91 z
  | false => (match Nat.beq j 238 with
  | true => F238 z
  | false => (fun _ _ => none)))
theorem hsL_630 (z : Nat) : ∀ j2 : Nat, ∃ d2 : Nat, d2 + 1 ≤ 14 ∧ am_Snd d2 j2 (sL_630 z j2) := by
  intro j2
  unfold sL_630
  split
  · rename_i he
    rw [am_beq he]
    exact ⟨_, by decide, S91 z⟩
  · skip
    split
    · rename_i he
      rw [am_beq he]
      exact ⟨_, by decide, S238 z⟩
    · skip
      exact ⟨0, by decide, am_Snd_no j2⟩
/-- the law, case [10] -/
def f345_630 (z nL : Nat) (xs : Nat → Int32) (k18 : Int32 → aM → Option aR) : Nat → Int32 → aM → Option aR
  | 0, _, _ => none
  | n + 1, x3, M =>
    if am_inB (x3 + (1 : Int32)) nL then
      am_bi (f91 z (xs (x3 + (1 : Int32)).toNatClampNeg) M) fun v2 M1 =>
        if am_inB (x3 + (1 : Int32)) nL then
          am_bi (f238 z (xs (x3 + (1 : Int32)).toNatClampNeg) M1) fun v4 M3 =>
            if v2 = v4 then
              k18 (x3 + (6 : Int32)) M3
            else
              some (some (.inl ((0 : Int32) &&& 1)), M3)
        else
          none
    else
      none
set_option maxRecDepth 100000 in
set_option maxHeartbeats 4000000 in
theorem e345_630 (z nL : Nat) (xs : Nat → Int32) {p : Program} {l : Launch} {e : Env} {R : Room} {s : State} {m : MethodId} {args : Array Value} {below : List Frame} {meth : Method} {c : Code} {C : aC} {Q : State → Prop} {ce sl : Nat} (F : am_F (some (nL, xs)) p R s m args c C 345 14 ce sl) (r : aR) (hR : am_HR p l e R s m args below meth c C 345 (am_ml 345) ce sl 1 Q r) (k18 : Int32 → aM → Option aR) (hk18 : ∀ (x3 : Int32) (M : aM), k18 x3 M = some r → am_Wd p l e R s m args below meth c C (am_ml 345) ce sl Q 18 [some (.inr (.inr (62, 5200))), some (.inr (.inr (10, 0))), some (.inr (.inr (11, 205))), some (.inl x3)] [] M) : ∀ (n : Nat) (x3 : Int32) (M : aM), f345_630 z nL xs k18 n x3 M = some r → am_Wd p l e R s m args below meth c C (am_ml 345) ce sl Q 630 [some (.inr (.inr (62, 5200))), some (.inr (.inr (10, 0))), some (.inr (.inr (11, 205))), some (.inl x3)] [] M := by
  intro n x3 M h
  cases n with
  | zero => cases h
  | succ n =>
    exact am_seg_ok (sws := am_w345) (sem := sL_630 z) (cd := cdL_630 ++ cdL_h) (cut := ([(18, [true, true, true, true])] : List (Nat × List Bool))) (kap := (fun pc al st M => (match Nat.beq pc 18 with
      | true => (match al, st with
        | [some (.inr (.inr (62, 5200))), some (.inr (.inr (10, 0))), some (.inr (.inr (11, 205))), some (.inl x3)], [] => k18 x3 M
        | _, _ => none)
      | false => none))) (hsL_630 z) F hR kcdL2_630 (by rw [am_l345]; decide) (fun pc al st M hk => by
      try dsimp only at hk
      split at hk
      · rename_i he
        rw [am_beq he]
        split at hk
        · exact hk18 _ _ hk
        · cases hk
      · cases hk) 19 630 _ _ _ h
def cdL_653 : List am_E := [(653, .aload_n 1, 1, 1, 0, 0, 0), (654, .aload_n 0, 1, 0, 0, 0, 0), (655, .iload_n 3, 1, 3, 0, 0, 0), (656, .iconst 1, 1, 0, 0, 1, 0), (657, .iadd, 1, 0, 0, 0, 0), (658, .iaload, 1, 0, 0, 0, 0), (659, .invokevirtual 61, 3, 92, 10010, 0, 0), (662, .aload_n 2, 1, 2, 0, 0, 0), (663, .aload_n 0, 1, 0, 0, 0, 0), (664, .iload_n 3, 1, 3, 0, 0, 0), (665, .iconst 1, 1, 0, 0, 1, 0), (666, .iadd, 1, 0, 0, 0, 0), (667, .iaload, 1, 0, 0, 0, 0), (668, .invokevirtual 64, 3, 239, 11010, 0, 0), (671, .if_icmp .eq 1760, 3, 2431, 0, 0, 0), (674, .iconst 0, 1, 0, 0, 0, 0), (675, .ireturn, 1, 0, 0, 0, 0)]
set_option maxRecDepth 100000 in
theorem kcdL_653 : cdL_653.all (am_chk am_w345 345) = true := by decide +kernel
theorem kcdL2_653 : (cdL_653 ++ cdL_h).all (am_chk am_w345 345) = true := by
  simp only [List.all_append, kcdL_653, kcdL_h, Bool.and_self]
def sL_653 (z : Nat) : Nat → List aV → aM → Option aR := fun j => (match Nat.beq j 92 with
  | true => F92 z
  | false => (match Nat.beq j 239 with
  | true => F239 z
  | false => (fun _ _ => none)))
theorem hsL_653 (z : Nat) : ∀ j2 : Nat, ∃ d2 : Nat, d2 + 1 ≤ 14 ∧ am_Snd d2 j2 (sL_653 z j2) := by
  intro j2
  unfold sL_653
  split
  · rename_i he
    rw [am_beq he]
    exact ⟨_, by decide, S92 z⟩
  · skip
    split
    · rename_i he
      rw [am_beq he]
      exact ⟨_, by decide, S239 z⟩
    · skip
      exact ⟨0, by decide, am_Snd_no j2⟩
/-- the law, case [11] -/
def f345_653 (z nL : Nat) (xs : Nat → Int32) (k18 : Int32 → aM → Option aR) : Nat → Int32 → aM → Option aR
  | 0, _, _ => none
  | n + 1, x3, M =>
    if am_inB (x3 + (1 : Int32)) nL then
      am_bi (f92 z (xs (x3 + (1 : Int32)).toNatClampNeg) M) fun v2 M1 =>
        if am_inB (x3 + (1 : Int32)) nL then
          am_bi (f239 z (xs (x3 + (1 : Int32)).toNatClampNeg) M1) fun v4 M3 =>
            if v2 = v4 then
              k18 (x3 + (6 : Int32)) M3
            else
              some (some (.inl ((0 : Int32) &&& 1)), M3)
        else
          none
    else
      none
set_option maxRecDepth 100000 in
set_option maxHeartbeats 4000000 in
theorem e345_653 (z nL : Nat) (xs : Nat → Int32) {p : Program} {l : Launch} {e : Env} {R : Room} {s : State} {m : MethodId} {args : Array Value} {below : List Frame} {meth : Method} {c : Code} {C : aC} {Q : State → Prop} {ce sl : Nat} (F : am_F (some (nL, xs)) p R s m args c C 345 14 ce sl) (r : aR) (hR : am_HR p l e R s m args below meth c C 345 (am_ml 345) ce sl 1 Q r) (k18 : Int32 → aM → Option aR) (hk18 : ∀ (x3 : Int32) (M : aM), k18 x3 M = some r → am_Wd p l e R s m args below meth c C (am_ml 345) ce sl Q 18 [some (.inr (.inr (62, 5200))), some (.inr (.inr (10, 0))), some (.inr (.inr (11, 205))), some (.inl x3)] [] M) : ∀ (n : Nat) (x3 : Int32) (M : aM), f345_653 z nL xs k18 n x3 M = some r → am_Wd p l e R s m args below meth c C (am_ml 345) ce sl Q 653 [some (.inr (.inr (62, 5200))), some (.inr (.inr (10, 0))), some (.inr (.inr (11, 205))), some (.inl x3)] [] M := by
  intro n x3 M h
  cases n with
  | zero => cases h
  | succ n =>
    exact am_seg_ok (sws := am_w345) (sem := sL_653 z) (cd := cdL_653 ++ cdL_h) (cut := ([(18, [true, true, true, true])] : List (Nat × List Bool))) (kap := (fun pc al st M => (match Nat.beq pc 18 with
      | true => (match al, st with
        | [some (.inr (.inr (62, 5200))), some (.inr (.inr (10, 0))), some (.inr (.inr (11, 205))), some (.inl x3)], [] => k18 x3 M
        | _, _ => none)
      | false => none))) (hsL_653 z) F hR kcdL2_653 (by rw [am_l345]; decide) (fun pc al st M hk => by
      try dsimp only at hk
      split at hk
      · rename_i he
        rw [am_beq he]
        split at hk
        · exact hk18 _ _ hk
        · cases hk
      · cases hk) 19 653 _ _ _ h
def cdL_676 : List am_E := [(676, .aload_n 1, 1, 1, 0, 0, 0), (677, .aload_n 0, 1, 0, 0, 0, 0), (678, .iload_n 3, 1, 3, 0, 0, 0), (679, .iconst 1, 1, 0, 0, 1, 0), (680, .iadd, 1, 0, 0, 0, 0), (681, .iaload, 1, 0, 0, 0, 0), (682, .invokevirtual 65, 3, 93, 10010, 0, 0), (685, .aload_n 2, 1, 2, 0, 0, 0), (686, .aload_n 0, 1, 0, 0, 0, 0), (687, .iload_n 3, 1, 3, 0, 0, 0), (688, .iconst 1, 1, 0, 0, 1, 0), (689, .iadd, 1, 0, 0, 0, 0), (690, .iaload, 1, 0, 0, 0, 0), (691, .invokevirtual 68, 3, 240, 11010, 0, 0), (694, .if_icmp .eq 1737, 3, 2431, 0, 0, 0), (697, .iconst 0, 1, 0, 0, 0, 0), (698, .ireturn, 1, 0, 0, 0, 0)]
set_option maxRecDepth 100000 in
theorem kcdL_676 : cdL_676.all (am_chk am_w345 345) = true := by decide +kernel
theorem kcdL2_676 : (cdL_676 ++ cdL_h).all (am_chk am_w345 345) = true := by
  simp only [List.all_append, kcdL_676, kcdL_h, Bool.and_self]
def sL_676 (z : Nat) : Nat → List aV → aM → Option aR := fun j => (match Nat.beq j 93 with
  | true => F93 z
  | false => (match Nat.beq j 240 with
  | true => F240 z
  | false => (fun _ _ => none)))
theorem hsL_676 (z : Nat) : ∀ j2 : Nat, ∃ d2 : Nat, d2 + 1 ≤ 14 ∧ am_Snd d2 j2 (sL_676 z j2) := by
  intro j2
  unfold sL_676
  split
  · rename_i he
    rw [am_beq he]
    exact ⟨_, by decide, S93 z⟩
  · skip
    split
    · rename_i he
      rw [am_beq he]
      exact ⟨_, by decide, S240 z⟩
    · skip
      exact ⟨0, by decide, am_Snd_no j2⟩
/-- the law, case [12] -/
def f345_676 (z nL : Nat) (xs : Nat → Int32) (k18 : Int32 → aM → Option aR) : Nat → Int32 → aM → Option aR
  | 0, _, _ => none
  | n + 1, x3, M =>
    if am_inB (x3 + (1 : Int32)) nL then
      am_bi (f93 z (xs (x3 + (1 : Int32)).toNatClampNeg) M) fun v2 M1 =>
        if am_inB (x3 + (1 : Int32)) nL then
          am_bi (f240 z (xs (x3 + (1 : Int32)).toNatClampNeg) M1) fun v4 M3 =>
            if v2 = v4 then
              k18 (x3 + (6 : Int32)) M3
            else
              some (some (.inl ((0 : Int32) &&& 1)), M3)
        else
          none
    else
      none
set_option maxRecDepth 100000 in
set_option maxHeartbeats 4000000 in
theorem e345_676 (z nL : Nat) (xs : Nat → Int32) {p : Program} {l : Launch} {e : Env} {R : Room} {s : State} {m : MethodId} {args : Array Value} {below : List Frame} {meth : Method} {c : Code} {C : aC} {Q : State → Prop} {ce sl : Nat} (F : am_F (some (nL, xs)) p R s m args c C 345 14 ce sl) (r : aR) (hR : am_HR p l e R s m args below meth c C 345 (am_ml 345) ce sl 1 Q r) (k18 : Int32 → aM → Option aR) (hk18 : ∀ (x3 : Int32) (M : aM), k18 x3 M = some r → am_Wd p l e R s m args below meth c C (am_ml 345) ce sl Q 18 [some (.inr (.inr (62, 5200))), some (.inr (.inr (10, 0))), some (.inr (.inr (11, 205))), some (.inl x3)] [] M) : ∀ (n : Nat) (x3 : Int32) (M : aM), f345_676 z nL xs k18 n x3 M = some r → am_Wd p l e R s m args below meth c C (am_ml 345) ce sl Q 676 [some (.inr (.inr (62, 5200))), some (.inr (.inr (10, 0))), some (.inr (.inr (11, 205))), some (.inl x3)] [] M := by
  intro n x3 M h
  cases n with
  | zero => cases h
  | succ n =>
    exact am_seg_ok (sws := am_w345) (sem := sL_676 z) (cd := cdL_676 ++ cdL_h) (cut := ([(18, [true, true, true, true])] : List (Nat × List Bool))) (kap := (fun pc al st M => (match Nat.beq pc 18 with
      | true => (match al, st with
        | [some (.inr (.inr (62, 5200))), some (.inr (.inr (10, 0))), some (.inr (.inr (11, 205))), some (.inl x3)], [] => k18 x3 M
        | _, _ => none)
      | false => none))) (hsL_676 z) F hR kcdL2_676 (by rw [am_l345]; decide) (fun pc al st M hk => by
      try dsimp only at hk
      split at hk
      · rename_i he
        rw [am_beq he]
        split at hk
        · exact hk18 _ _ hk
        · cases hk
      · cases hk) 19 676 _ _ _ h
def cdL_699 : List am_E := [(699, .aload_n 1, 1, 1, 0, 0, 0), (700, .aload_n 0, 1, 0, 0, 0, 0), (701, .iload_n 3, 1, 3, 0, 0, 0), (702, .iconst 1, 1, 0, 0, 1, 0), (703, .iadd, 1, 0, 0, 0, 0), (704, .iaload, 1, 0, 0, 0, 0), (705, .invokevirtual 69, 3, 94, 10010, 0, 0), (708, .aload_n 2, 1, 2, 0, 0, 0), (709, .aload_n 0, 1, 0, 0, 0, 0), (710, .iload_n 3, 1, 3, 0, 0, 0), (711, .iconst 1, 1, 0, 0, 1, 0), (712, .iadd, 1, 0, 0, 0, 0), (713, .iaload, 1, 0, 0, 0, 0), (714, .invokevirtual 72, 3, 241, 11010, 0, 0), (717, .if_icmp .eq 1714, 3, 2431, 0, 0, 0), (720, .iconst 0, 1, 0, 0, 0, 0), (721, .ireturn, 1, 0, 0, 0, 0)]
set_option maxRecDepth 100000 in
theorem kcdL_699 : cdL_699.all (am_chk am_w345 345) = true := by decide +kernel
theorem kcdL2_699 : (cdL_699 ++ cdL_h).all (am_chk am_w345 345) = true := by
  simp only [List.all_append, kcdL_699, kcdL_h, Bool.and_self]
def sL_699 (z : Nat) : Nat → List aV → aM → Option aR := fun j => (match Nat.beq j 94 with
  | true => F94 z
  | false => (match Nat.beq j 241 with
  | true => F241 z
  | false => (fun _ _ => none)))
theorem hsL_699 (z : Nat) : ∀ j2 : Nat, ∃ d2 : Nat, d2 + 1 ≤ 14 ∧ am_Snd d2 j2 (sL_699 z j2) := by
  intro j2
  unfold sL_699
  split
  · rename_i he
    rw [am_beq he]
    exact ⟨_, by decide, S94 z⟩
  · skip
    split
    · rename_i he
      rw [am_beq he]
      exact ⟨_, by decide, S241 z⟩
    · skip
      exact ⟨0, by decide, am_Snd_no j2⟩
/-- the law, case [13] -/
def f345_699 (z nL : Nat) (xs : Nat → Int32) (k18 : Int32 → aM → Option aR) : Nat → Int32 → aM → Option aR
  | 0, _, _ => none
  | n + 1, x3, M =>
    if am_inB (x3 + (1 : Int32)) nL then
      am_bi (f94 z (xs (x3 + (1 : Int32)).toNatClampNeg) M) fun v2 M1 =>
        if am_inB (x3 + (1 : Int32)) nL then
          am_bi (f241 z (xs (x3 + (1 : Int32)).toNatClampNeg) M1) fun v4 M3 =>
            if v2 = v4 then
              k18 (x3 + (6 : Int32)) M3
            else
              some (some (.inl ((0 : Int32) &&& 1)), M3)
        else
          none
    else
      none
set_option maxRecDepth 100000 in
set_option maxHeartbeats 4000000 in
theorem e345_699 (z nL : Nat) (xs : Nat → Int32) {p : Program} {l : Launch} {e : Env} {R : Room} {s : State} {m : MethodId} {args : Array Value} {below : List Frame} {meth : Method} {c : Code} {C : aC} {Q : State → Prop} {ce sl : Nat} (F : am_F (some (nL, xs)) p R s m args c C 345 14 ce sl) (r : aR) (hR : am_HR p l e R s m args below meth c C 345 (am_ml 345) ce sl 1 Q r) (k18 : Int32 → aM → Option aR) (hk18 : ∀ (x3 : Int32) (M : aM), k18 x3 M = some r → am_Wd p l e R s m args below meth c C (am_ml 345) ce sl Q 18 [some (.inr (.inr (62, 5200))), some (.inr (.inr (10, 0))), some (.inr (.inr (11, 205))), some (.inl x3)] [] M) : ∀ (n : Nat) (x3 : Int32) (M : aM), f345_699 z nL xs k18 n x3 M = some r → am_Wd p l e R s m args below meth c C (am_ml 345) ce sl Q 699 [some (.inr (.inr (62, 5200))), some (.inr (.inr (10, 0))), some (.inr (.inr (11, 205))), some (.inl x3)] [] M := by
  intro n x3 M h
  cases n with
  | zero => cases h
  | succ n =>
    exact am_seg_ok (sws := am_w345) (sem := sL_699 z) (cd := cdL_699 ++ cdL_h) (cut := ([(18, [true, true, true, true])] : List (Nat × List Bool))) (kap := (fun pc al st M => (match Nat.beq pc 18 with
      | true => (match al, st with
        | [some (.inr (.inr (62, 5200))), some (.inr (.inr (10, 0))), some (.inr (.inr (11, 205))), some (.inl x3)], [] => k18 x3 M
        | _, _ => none)
      | false => none))) (hsL_699 z) F hR kcdL2_699 (by rw [am_l345]; decide) (fun pc al st M hk => by
      try dsimp only at hk
      split at hk
      · rename_i he
        rw [am_beq he]
        split at hk
        · exact hk18 _ _ hk
        · cases hk
      · cases hk) 19 699 _ _ _ h
def cdL_722 : List am_E := [(722, .aload_n 1, 1, 1, 0, 0, 0), (723, .aload_n 0, 1, 0, 0, 0, 0), (724, .iload_n 3, 1, 3, 0, 0, 0), (725, .iconst 1, 1, 0, 0, 1, 0), (726, .iadd, 1, 0, 0, 0, 0), (727, .iaload, 1, 0, 0, 0, 0), (728, .invokevirtual 73, 3, 96, 10010, 0, 0), (731, .aload_n 2, 1, 2, 0, 0, 0), (732, .aload_n 0, 1, 0, 0, 0, 0), (733, .iload_n 3, 1, 3, 0, 0, 0), (734, .iconst 1, 1, 0, 0, 1, 0), (735, .iadd, 1, 0, 0, 0, 0), (736, .iaload, 1, 0, 0, 0, 0), (737, .invokevirtual 76, 3, 244, 11010, 0, 0), (740, .if_icmp .eq 1691, 3, 2431, 0, 0, 0), (743, .iconst 0, 1, 0, 0, 0, 0), (744, .ireturn, 1, 0, 0, 0, 0)]
set_option maxRecDepth 100000 in
theorem kcdL_722 : cdL_722.all (am_chk am_w345 345) = true := by decide +kernel
theorem kcdL2_722 : (cdL_722 ++ cdL_h).all (am_chk am_w345 345) = true := by
  simp only [List.all_append, kcdL_722, kcdL_h, Bool.and_self]
def sL_722 (z : Nat) : Nat → List aV → aM → Option aR := fun j => (match Nat.beq j 96 with
  | true => F96 z
  | false => (match Nat.beq j 244 with
  | true => F244 z
  | false => (fun _ _ => none)))
theorem hsL_722 (z : Nat) : ∀ j2 : Nat, ∃ d2 : Nat, d2 + 1 ≤ 14 ∧ am_Snd d2 j2 (sL_722 z j2) := by
  intro j2
  unfold sL_722
  split
  · rename_i he
    rw [am_beq he]
    exact ⟨_, by decide, S96 z⟩
  · skip
    split
    · rename_i he
      rw [am_beq he]
      exact ⟨_, by decide, S244 z⟩
    · skip
      exact ⟨0, by decide, am_Snd_no j2⟩
/-- the law, case [14] -/
def f345_722 (z nL : Nat) (xs : Nat → Int32) (k18 : Int32 → aM → Option aR) : Nat → Int32 → aM → Option aR
  | 0, _, _ => none
  | n + 1, x3, M =>
    if am_inB (x3 + (1 : Int32)) nL then
      am_bi (f96 z (xs (x3 + (1 : Int32)).toNatClampNeg) M) fun v2 M1 =>
        if am_inB (x3 + (1 : Int32)) nL then
          am_bi (f244 z (xs (x3 + (1 : Int32)).toNatClampNeg) M1) fun v4 M3 =>
            if v2 = v4 then
              k18 (x3 + (6 : Int32)) M3
            else
              some (some (.inl ((0 : Int32) &&& 1)), M3)
        else
          none
    else
      none
set_option maxRecDepth 100000 in
set_option maxHeartbeats 4000000 in
theorem e345_722 (z nL : Nat) (xs : Nat → Int32) {p : Program} {l : Launch} {e : Env} {R : Room} {s : State} {m : MethodId} {args : Array Value} {below : List Frame} {meth : Method} {c : Code} {C : aC} {Q : State → Prop} {ce sl : Nat} (F : am_F (some (nL, xs)) p R s m args c C 345 14 ce sl) (r : aR) (hR : am_HR p l e R s m args below meth c C 345 (am_ml 345) ce sl 1 Q r) (k18 : Int32 → aM → Option aR) (hk18 : ∀ (x3 : Int32) (M : aM), k18 x3 M = some r → am_Wd p l e R s m args below meth c C (am_ml 345) ce sl Q 18 [some (.inr (.inr (62, 5200))), some (.inr (.inr (10, 0))), some (.inr (.inr (11, 205))), some (.inl x3)] [] M) : ∀ (n : Nat) (x3 : Int32) (M : aM), f345_722 z nL xs k18 n x3 M = some r → am_Wd p l e R s m args below meth c C (am_ml 345) ce sl Q 722 [some (.inr (.inr (62, 5200))), some (.inr (.inr (10, 0))), some (.inr (.inr (11, 205))), some (.inl x3)] [] M := by
  intro n x3 M h
  cases n with
  | zero => cases h
  | succ n =>
    exact am_seg_ok (sws := am_w345) (sem := sL_722 z) (cd := cdL_722 ++ cdL_h) (cut := ([(18, [true, true, true, true])] : List (Nat × List Bool))) (kap := (fun pc al st M => (match Nat.beq pc 18 with
      | true => (match al, st with
        | [some (.inr (.inr (62, 5200))), some (.inr (.inr (10, 0))), some (.inr (.inr (11, 205))), some (.inl x3)], [] => k18 x3 M
        | _, _ => none)
      | false => none))) (hsL_722 z) F hR kcdL2_722 (by rw [am_l345]; decide) (fun pc al st M hk => by
      try dsimp only at hk
      split at hk
      · rename_i he
        rw [am_beq he]
        split at hk
        · exact hk18 _ _ hk
        · cases hk
      · cases hk) 19 722 _ _ _ h
def cdL_745 : List am_E := [(745, .aload_n 1, 1, 1, 0, 0, 0), (746, .aload_n 0, 1, 0, 0, 0, 0), (747, .iload_n 3, 1, 3, 0, 0, 0), (748, .iconst 1, 1, 0, 0, 1, 0), (749, .iadd, 1, 0, 0, 0, 0), (750, .iaload, 1, 0, 0, 0, 0), (751, .invokevirtual 77, 3, 98, 10010, 0, 0), (754, .aload_n 2, 1, 2, 0, 0, 0), (755, .aload_n 0, 1, 0, 0, 0, 0), (756, .iload_n 3, 1, 3, 0, 0, 0), (757, .iconst 1, 1, 0, 0, 1, 0), (758, .iadd, 1, 0, 0, 0, 0), (759, .iaload, 1, 0, 0, 0, 0), (760, .invokevirtual 80, 3, 248, 11010, 0, 0), (763, .if_icmp .eq 1668, 3, 2431, 0, 0, 0), (766, .iconst 0, 1, 0, 0, 0, 0), (767, .ireturn, 1, 0, 0, 0, 0)]
set_option maxRecDepth 100000 in
theorem kcdL_745 : cdL_745.all (am_chk am_w345 345) = true := by decide +kernel
theorem kcdL2_745 : (cdL_745 ++ cdL_h).all (am_chk am_w345 345) = true := by
  simp only [List.all_append, kcdL_745, kcdL_h, Bool.and_self]
def sL_745 (z : Nat) : Nat → List aV → aM → Option aR := fun j => (match Nat.beq j 98 with
  | true => F98 z
  | false => (match Nat.beq j 248 with
  | true => F248 z
  | false => (fun _ _ => none)))
theorem hsL_745 (z : Nat) : ∀ j2 : Nat, ∃ d2 : Nat, d2 + 1 ≤ 14 ∧ am_Snd d2 j2 (sL_745 z j2) := by
  intro j2
  unfold sL_745
  split
  · rename_i he
    rw [am_beq he]
    exact ⟨_, by decide, S98 z⟩
  · skip
    split
    · rename_i he
      rw [am_beq he]
      exact ⟨_, by decide, S248 z⟩
    · skip
      exact ⟨0, by decide, am_Snd_no j2⟩
/-- the law, case [15] -/
def f345_745 (z nL : Nat) (xs : Nat → Int32) (k18 : Int32 → aM → Option aR) : Nat → Int32 → aM → Option aR
  | 0, _, _ => none
  | n + 1, x3, M =>
    if am_inB (x3 + (1 : Int32)) nL then
      am_bi (f98 z (xs (x3 + (1 : Int32)).toNatClampNeg) M) fun v2 M1 =>
        if am_inB (x3 + (1 : Int32)) nL then
          am_bi (f248 z (xs (x3 + (1 : Int32)).toNatClampNeg) M1) fun v4 M3 =>
            if v2 = v4 then
              k18 (x3 + (6 : Int32)) M3
            else
              some (some (.inl ((0 : Int32) &&& 1)), M3)
        else
          none
    else
      none
set_option maxRecDepth 100000 in
set_option maxHeartbeats 4000000 in
theorem e345_745 (z nL : Nat) (xs : Nat → Int32) {p : Program} {l : Launch} {e : Env} {R : Room} {s : State} {m : MethodId} {args : Array Value} {below : List Frame} {meth : Method} {c : Code} {C : aC} {Q : State → Prop} {ce sl : Nat} (F : am_F (some (nL, xs)) p R s m args c C 345 14 ce sl) (r : aR) (hR : am_HR p l e R s m args below meth c C 345 (am_ml 345) ce sl 1 Q r) (k18 : Int32 → aM → Option aR) (hk18 : ∀ (x3 : Int32) (M : aM), k18 x3 M = some r → am_Wd p l e R s m args below meth c C (am_ml 345) ce sl Q 18 [some (.inr (.inr (62, 5200))), some (.inr (.inr (10, 0))), some (.inr (.inr (11, 205))), some (.inl x3)] [] M) : ∀ (n : Nat) (x3 : Int32) (M : aM), f345_745 z nL xs k18 n x3 M = some r → am_Wd p l e R s m args below meth c C (am_ml 345) ce sl Q 745 [some (.inr (.inr (62, 5200))), some (.inr (.inr (10, 0))), some (.inr (.inr (11, 205))), some (.inl x3)] [] M := by
  intro n x3 M h
  cases n with
  | zero => cases h
  | succ n =>
    exact am_seg_ok (sws := am_w345) (sem := sL_745 z) (cd := cdL_745 ++ cdL_h) (cut := ([(18, [true, true, true, true])] : List (Nat × List Bool))) (kap := (fun pc al st M => (match Nat.beq pc 18 with
      | true => (match al, st with
        | [some (.inr (.inr (62, 5200))), some (.inr (.inr (10, 0))), some (.inr (.inr (11, 205))), some (.inl x3)], [] => k18 x3 M
        | _, _ => none)
      | false => none))) (hsL_745 z) F hR kcdL2_745 (by rw [am_l345]; decide) (fun pc al st M hk => by
      try dsimp only at hk
      split at hk
      · rename_i he
        rw [am_beq he]
        split at hk
        · exact hk18 _ _ hk
        · cases hk
      · cases hk) 19 745 _ _ _ h
def cdL_768 : List am_E := [(768, .aload_n 1, 1, 1, 0, 0, 0), (769, .aload_n 0, 1, 0, 0, 0, 0), (770, .iload_n 3, 1, 3, 0, 0, 0), (771, .iconst 1, 1, 0, 0, 1, 0), (772, .iadd, 1, 0, 0, 0, 0), (773, .iaload, 1, 0, 0, 0, 0), (774, .invokevirtual 81, 3, 99, 10010, 0, 0), (777, .aload_n 2, 1, 2, 0, 0, 0), (778, .aload_n 0, 1, 0, 0, 0, 0), (779, .iload_n 3, 1, 3, 0, 0, 0), (780, .iconst 1, 1, 0, 0, 1, 0), (781, .iadd, 1, 0, 0, 0, 0), (782, .iaload, 1, 0, 0, 0, 0), (783, .invokevirtual 84, 3, 249, 11010, 0, 0), (786, .if_icmp .eq 1645, 3, 2431, 0, 0, 0), (789, .iconst 0, 1, 0, 0, 0, 0), (790, .ireturn, 1, 0, 0, 0, 0)]
set_option maxRecDepth 100000 in
theorem kcdL_768 : cdL_768.all (am_chk am_w345 345) = true := by decide +kernel
theorem kcdL2_768 : (cdL_768 ++ cdL_h).all (am_chk am_w345 345) = true := by
  simp only [List.all_append, kcdL_768, kcdL_h, Bool.and_self]
def sL_768 (z : Nat) : Nat → List aV → aM → Option aR := fun j => (match Nat.beq j 99 with
  | true => F99 z
  | false => (match Nat.beq j 249 with
  | true => F249 z
  | false => (fun _ _ => none)))
theorem hsL_768 (z : Nat) : ∀ j2 : Nat, ∃ d2 : Nat, d2 + 1 ≤ 14 ∧ am_Snd d2 j2 (sL_768 z j2) := by
  intro j2
  unfold sL_768
  split
  · rename_i he
    rw [am_beq he]
    exact ⟨_, by decide, S99 z⟩
  · skip
    split
    · rename_i he
      rw [am_beq he]
      exact ⟨_, by decide, S249 z⟩
    · skip
      exact ⟨0, by decide, am_Snd_no j2⟩
/-- the law, case [16] -/
def f345_768 (z nL : Nat) (xs : Nat → Int32) (k18 : Int32 → aM → Option aR) : Nat → Int32 → aM → Option aR
  | 0, _, _ => none
  | n + 1, x3, M =>
    if am_inB (x3 + (1 : Int32)) nL then
      am_bi (f99 z (xs (x3 + (1 : Int32)).toNatClampNeg) M) fun v2 M1 =>
        if am_inB (x3 + (1 : Int32)) nL then
          am_bi (f249 z (xs (x3 + (1 : Int32)).toNatClampNeg) M1) fun v4 M3 =>
            if v2 = v4 then
              k18 (x3 + (6 : Int32)) M3
            else
              some (some (.inl ((0 : Int32) &&& 1)), M3)
        else
          none
    else
      none
set_option maxRecDepth 100000 in
set_option maxHeartbeats 4000000 in
theorem e345_768 (z nL : Nat) (xs : Nat → Int32) {p : Program} {l : Launch} {e : Env} {R : Room} {s : State} {m : MethodId} {args : Array Value} {below : List Frame} {meth : Method} {c : Code} {C : aC} {Q : State → Prop} {ce sl : Nat} (F : am_F (some (nL, xs)) p R s m args c C 345 14 ce sl) (r : aR) (hR : am_HR p l e R s m args below meth c C 345 (am_ml 345) ce sl 1 Q r) (k18 : Int32 → aM → Option aR) (hk18 : ∀ (x3 : Int32) (M : aM), k18 x3 M = some r → am_Wd p l e R s m args below meth c C (am_ml 345) ce sl Q 18 [some (.inr (.inr (62, 5200))), some (.inr (.inr (10, 0))), some (.inr (.inr (11, 205))), some (.inl x3)] [] M) : ∀ (n : Nat) (x3 : Int32) (M : aM), f345_768 z nL xs k18 n x3 M = some r → am_Wd p l e R s m args below meth c C (am_ml 345) ce sl Q 768 [some (.inr (.inr (62, 5200))), some (.inr (.inr (10, 0))), some (.inr (.inr (11, 205))), some (.inl x3)] [] M := by
  intro n x3 M h
  cases n with
  | zero => cases h
  | succ n =>
    exact am_seg_ok (sws := am_w345) (sem := sL_768 z) (cd := cdL_768 ++ cdL_h) (cut := ([(18, [true, true, true, true])] : List (Nat × List Bool))) (kap := (fun pc al st M => (match Nat.beq pc 18 with
      | true => (match al, st with
        | [some (.inr (.inr (62, 5200))), some (.inr (.inr (10, 0))), some (.inr (.inr (11, 205))), some (.inl x3)], [] => k18 x3 M
        | _, _ => none)
      | false => none))) (hsL_768 z) F hR kcdL2_768 (by rw [am_l345]; decide) (fun pc al st M hk => by
      try dsimp only at hk
      split at hk
      · rename_i he
        rw [am_beq he]
        split at hk
        · exact hk18 _ _ hk
        · cases hk
      · cases hk) 19 768 _ _ _ h
def cdL_791 : List am_E := [(791, .aload_n 1, 1, 1, 0, 0, 0), (792, .aload_n 0, 1, 0, 0, 0, 0), (793, .iload_n 3, 1, 3, 0, 0, 0), (794, .iconst 1, 1, 0, 0, 1, 0), (795, .iadd, 1, 0, 0, 0, 0), (796, .iaload, 1, 0, 0, 0, 0), (797, .invokevirtual 85, 3, 100, 10010, 0, 0), (800, .aload_n 2, 1, 2, 0, 0, 0), (801, .aload_n 0, 1, 0, 0, 0, 0), (802, .iload_n 3, 1, 3, 0, 0, 0), (803, .iconst 1, 1, 0, 0, 1, 0), (804, .iadd, 1, 0, 0, 0, 0), (805, .iaload, 1, 0, 0, 0, 0), (806, .invokevirtual 88, 3, 245, 11010, 0, 0), (809, .if_icmp .eq 1622, 3, 2431, 0, 0, 0), (812, .iconst 0, 1, 0, 0, 0, 0), (813, .ireturn, 1, 0, 0, 0, 0)]
set_option maxRecDepth 100000 in
theorem kcdL_791 : cdL_791.all (am_chk am_w345 345) = true := by decide +kernel
theorem kcdL2_791 : (cdL_791 ++ cdL_h).all (am_chk am_w345 345) = true := by
  simp only [List.all_append, kcdL_791, kcdL_h, Bool.and_self]
def sL_791 (z : Nat) : Nat → List aV → aM → Option aR := fun j => (match Nat.beq j 100 with
  | true => F100 z
  | false => (match Nat.beq j 245 with
  | true => F245 z
  | false => (fun _ _ => none)))
theorem hsL_791 (z : Nat) : ∀ j2 : Nat, ∃ d2 : Nat, d2 + 1 ≤ 14 ∧ am_Snd d2 j2 (sL_791 z j2) := by
  intro j2
  unfold sL_791
  split
  · rename_i he
    rw [am_beq he]
    exact ⟨_, by decide, S100 z⟩
  · skip
    split
    · rename_i he
      rw [am_beq he]
      exact ⟨_, by decide, S245 z⟩
    · skip
      exact ⟨0, by decide, am_Snd_no j2⟩
/-- the law, case [17] -/
def f345_791 (z nL : Nat) (xs : Nat → Int32) (k18 : Int32 → aM → Option aR) : Nat → Int32 → aM → Option aR
  | 0, _, _ => none
  | n + 1, x3, M =>
    if am_inB (x3 + (1 : Int32)) nL then
      am_bi (f100 z (xs (x3 + (1 : Int32)).toNatClampNeg) M) fun v2 M1 =>
        if am_inB (x3 + (1 : Int32)) nL then
          am_bi (f245 z (xs (x3 + (1 : Int32)).toNatClampNeg) M1) fun v4 M3 =>
            if v2 = v4 then
              k18 (x3 + (6 : Int32)) M3
            else
              some (some (.inl ((0 : Int32) &&& 1)), M3)
        else
          none
    else
      none
set_option maxRecDepth 100000 in
set_option maxHeartbeats 4000000 in
theorem e345_791 (z nL : Nat) (xs : Nat → Int32) {p : Program} {l : Launch} {e : Env} {R : Room} {s : State} {m : MethodId} {args : Array Value} {below : List Frame} {meth : Method} {c : Code} {C : aC} {Q : State → Prop} {ce sl : Nat} (F : am_F (some (nL, xs)) p R s m args c C 345 14 ce sl) (r : aR) (hR : am_HR p l e R s m args below meth c C 345 (am_ml 345) ce sl 1 Q r) (k18 : Int32 → aM → Option aR) (hk18 : ∀ (x3 : Int32) (M : aM), k18 x3 M = some r → am_Wd p l e R s m args below meth c C (am_ml 345) ce sl Q 18 [some (.inr (.inr (62, 5200))), some (.inr (.inr (10, 0))), some (.inr (.inr (11, 205))), some (.inl x3)] [] M) : ∀ (n : Nat) (x3 : Int32) (M : aM), f345_791 z nL xs k18 n x3 M = some r → am_Wd p l e R s m args below meth c C (am_ml 345) ce sl Q 791 [some (.inr (.inr (62, 5200))), some (.inr (.inr (10, 0))), some (.inr (.inr (11, 205))), some (.inl x3)] [] M := by
  intro n x3 M h
  cases n with
  | zero => cases h
  | succ n =>
    exact am_seg_ok (sws := am_w345) (sem := sL_791 z) (cd := cdL_791 ++ cdL_h) (cut := ([(18, [true, true, true, true])] : List (Nat × List Bool))) (kap := (fun pc al st M => (match Nat.beq pc 18 with
      | true => (match al, st with
        | [some (.inr (.inr (62, 5200))), some (.inr (.inr (10, 0))), some (.inr (.inr (11, 205))), some (.inl x3)], [] => k18 x3 M
        | _, _ => none)
      | false => none))) (hsL_791 z) F hR kcdL2_791 (by rw [am_l345]; decide) (fun pc al st M hk => by
      try dsimp only at hk
      split at hk
      · rename_i he
        rw [am_beq he]
        split at hk
        · exact hk18 _ _ hk
        · cases hk
      · cases hk) 19 791 _ _ _ h
def cdL_814 : List am_E := [(814, .aload_n 1, 1, 1, 0, 0, 0), (815, .aload_n 0, 1, 0, 0, 0, 0), (816, .iload_n 3, 1, 3, 0, 0, 0), (817, .iconst 1, 1, 0, 0, 1, 0), (818, .iadd, 1, 0, 0, 0, 0), (819, .iaload, 1, 0, 0, 0, 0), (820, .invokevirtual 89, 3, 101, 10010, 0, 0), (823, .aload_n 2, 1, 2, 0, 0, 0), (824, .aload_n 0, 1, 0, 0, 0, 0), (825, .iload_n 3, 1, 3, 0, 0, 0), (826, .iconst 1, 1, 0, 0, 1, 0), (827, .iadd, 1, 0, 0, 0, 0), (828, .iaload, 1, 0, 0, 0, 0), (829, .invokevirtual 92, 3, 247, 11010, 0, 0), (832, .if_icmp .eq 1599, 3, 2431, 0, 0, 0), (835, .iconst 0, 1, 0, 0, 0, 0), (836, .ireturn, 1, 0, 0, 0, 0)]
set_option maxRecDepth 100000 in
theorem kcdL_814 : cdL_814.all (am_chk am_w345 345) = true := by decide +kernel
theorem kcdL2_814 : (cdL_814 ++ cdL_h).all (am_chk am_w345 345) = true := by
  simp only [List.all_append, kcdL_814, kcdL_h, Bool.and_self]
def sL_814 (z : Nat) : Nat → List aV → aM → Option aR := fun j => (match Nat.beq j 101 with
  | true => F101 z
  | false => (match Nat.beq j 247 with
  | true => F247 z
  | false => (fun _ _ => none)))
theorem hsL_814 (z : Nat) : ∀ j2 : Nat, ∃ d2 : Nat, d2 + 1 ≤ 14 ∧ am_Snd d2 j2 (sL_814 z j2) := by
  intro j2
  unfold sL_814
  split
  · rename_i he
    rw [am_beq he]
    exact ⟨_, by decide, S101 z⟩
  · skip
    split
    · rename_i he
      rw [am_beq he]
      exact ⟨_, by decide, S247 z⟩
    · skip
      exact ⟨0, by decide, am_Snd_no j2⟩
/-- the law, case [18] -/
def f345_814 (z nL : Nat) (xs : Nat → Int32) (k18 : Int32 → aM → Option aR) : Nat → Int32 → aM → Option aR
  | 0, _, _ => none
  | n + 1, x3, M =>
    if am_inB (x3 + (1 : Int32)) nL then
      am_bi (f101 z (xs (x3 + (1 : Int32)).toNatClampNeg) M) fun v2 M1 =>
        if am_inB (x3 + (1 : Int32)) nL then
          am_bi (f247 z (xs (x3 + (1 : Int32)).toNatClampNeg) M1) fun v4 M3 =>
            if v2 = v4 then
              k18 (x3 + (6 : Int32)) M3
            else
              some (some (.inl ((0 : Int32) &&& 1)), M3)
        else
          none
    else
      none
set_option maxRecDepth 100000 in
set_option maxHeartbeats 4000000 in
theorem e345_814 (z nL : Nat) (xs : Nat → Int32) {p : Program} {l : Launch} {e : Env} {R : Room} {s : State} {m : MethodId} {args : Array Value} {below : List Frame} {meth : Method} {c : Code} {C : aC} {Q : State → Prop} {ce sl : Nat} (F : am_F (some (nL, xs)) p R s m args c C 345 14 ce sl) (r : aR) (hR : am_HR p l e R s m args below meth c C 345 (am_ml 345) ce sl 1 Q r) (k18 : Int32 → aM → Option aR) (hk18 : ∀ (x3 : Int32) (M : aM), k18 x3 M = some r → am_Wd p l e R s m args below meth c C (am_ml 345) ce sl Q 18 [some (.inr (.inr (62, 5200))), some (.inr (.inr (10, 0))), some (.inr (.inr (11, 205))), some (.inl x3)] [] M) : ∀ (n : Nat) (x3 : Int32) (M : aM), f345_814 z nL xs k18 n x3 M = some r → am_Wd p l e R s m args below meth c C (am_ml 345) ce sl Q 814 [some (.inr (.inr (62, 5200))), some (.inr (.inr (10, 0))), some (.inr (.inr (11, 205))), some (.inl x3)] [] M := by
  intro n x3 M h
  cases n with
  | zero => cases h
  | succ n =>
    exact am_seg_ok (sws := am_w345) (sem := sL_814 z) (cd := cdL_814 ++ cdL_h) (cut := ([(18, [true, true, true, true])] : List (Nat × List Bool))) (kap := (fun pc al st M => (match Nat.beq pc 18 with
      | true => (match al, st with
        | [some (.inr (.inr (62, 5200))), some (.inr (.inr (10, 0))), some (.inr (.inr (11, 205))), some (.inl x3)], [] => k18 x3 M
        | _, _ => none)
      | false => none))) (hsL_814 z) F hR kcdL2_814 (by rw [am_l345]; decide) (fun pc al st M hk => by
      try dsimp only at hk
      split at hk
      · rename_i he
        rw [am_beq he]
        split at hk
        · exact hk18 _ _ hk
        · cases hk
      · cases hk) 19 814 _ _ _ h
def cdL_837 : List am_E := [(837, .aload_n 1, 1, 1, 0, 0, 0), (838, .invokevirtual 93, 3, 102, 10000, 0, 0), (841, .aload_n 2, 1, 2, 0, 0, 0), (842, .invokevirtual 96, 3, 242, 11000, 0, 0), (845, .if_icmp .eq 1586, 3, 2431, 0, 0, 0), (848, .iconst 0, 1, 0, 0, 0, 0), (849, .ireturn, 1, 0, 0, 0, 0)]
set_option maxRecDepth 100000 in
theorem kcdL_837 : cdL_837.all (am_chk am_w345 345) = true := by decide +kernel
theorem kcdL2_837 : (cdL_837 ++ cdL_h).all (am_chk am_w345 345) = true := by
  simp only [List.all_append, kcdL_837, kcdL_h, Bool.and_self]
def sL_837 (z : Nat) : Nat → List aV → aM → Option aR := fun j => (match Nat.beq j 102 with
  | true => F102 z
  | false => (match Nat.beq j 242 with
  | true => F242 z
  | false => (fun _ _ => none)))
theorem hsL_837 (z : Nat) : ∀ j2 : Nat, ∃ d2 : Nat, d2 + 1 ≤ 14 ∧ am_Snd d2 j2 (sL_837 z j2) := by
  intro j2
  unfold sL_837
  split
  · rename_i he
    rw [am_beq he]
    exact ⟨_, by decide, S102 z⟩
  · skip
    split
    · rename_i he
      rw [am_beq he]
      exact ⟨_, by decide, S242 z⟩
    · skip
      exact ⟨0, by decide, am_Snd_no j2⟩
/-- the law, case [19] -/
def f345_837 (z nL : Nat) (xs : Nat → Int32) (k18 : Int32 → aM → Option aR) : Nat → Int32 → aM → Option aR
  | 0, _, _ => none
  | n + 1, x3, M =>
    am_bi (f102 z M) fun v2 M1 =>
      am_bi (f242 z M1) fun v4 M3 =>
        if v2 = v4 then
          k18 (x3 + (6 : Int32)) M3
        else
          some (some (.inl ((0 : Int32) &&& 1)), M3)
set_option maxRecDepth 100000 in
set_option maxHeartbeats 4000000 in
theorem e345_837 (z nL : Nat) (xs : Nat → Int32) {p : Program} {l : Launch} {e : Env} {R : Room} {s : State} {m : MethodId} {args : Array Value} {below : List Frame} {meth : Method} {c : Code} {C : aC} {Q : State → Prop} {ce sl : Nat} (F : am_F (some (nL, xs)) p R s m args c C 345 14 ce sl) (r : aR) (hR : am_HR p l e R s m args below meth c C 345 (am_ml 345) ce sl 1 Q r) (k18 : Int32 → aM → Option aR) (hk18 : ∀ (x3 : Int32) (M : aM), k18 x3 M = some r → am_Wd p l e R s m args below meth c C (am_ml 345) ce sl Q 18 [some (.inr (.inr (62, 5200))), some (.inr (.inr (10, 0))), some (.inr (.inr (11, 205))), some (.inl x3)] [] M) : ∀ (n : Nat) (x3 : Int32) (M : aM), f345_837 z nL xs k18 n x3 M = some r → am_Wd p l e R s m args below meth c C (am_ml 345) ce sl Q 837 [some (.inr (.inr (62, 5200))), some (.inr (.inr (10, 0))), some (.inr (.inr (11, 205))), some (.inl x3)] [] M := by
  intro n x3 M h
  cases n with
  | zero => cases h
  | succ n =>
    exact am_seg_ok (sws := am_w345) (sem := sL_837 z) (cd := cdL_837 ++ cdL_h) (cut := ([(18, [true, true, true, true])] : List (Nat × List Bool))) (kap := (fun pc al st M => (match Nat.beq pc 18 with
      | true => (match al, st with
        | [some (.inr (.inr (62, 5200))), some (.inr (.inr (10, 0))), some (.inr (.inr (11, 205))), some (.inl x3)], [] => k18 x3 M
        | _, _ => none)
      | false => none))) (hsL_837 z) F hR kcdL2_837 (by rw [am_l345]; decide) (fun pc al st M hk => by
      try dsimp only at hk
      split at hk
      · rename_i he
        rw [am_beq he]
        split at hk
        · exact hk18 _ _ hk
        · cases hk
      · cases hk) 9 837 _ _ _ h
def cdL_850 : List am_E := [(850, .aload_n 1, 1, 1, 0, 0, 0), (851, .aload_n 0, 1, 0, 0, 0, 0), (852, .iload_n 3, 1, 3, 0, 0, 0), (853, .iconst 1, 1, 0, 0, 1, 0), (854, .iadd, 1, 0, 0, 0, 0), (855, .iaload, 1, 0, 0, 0, 0), (856, .aload_n 0, 1, 0, 0, 0, 0), (857, .iload_n 3, 1, 3, 0, 0, 0), (858, .iconst 2, 1, 0, 0, 2, 0), (859, .iadd, 1, 0, 0, 0, 0), (860, .iaload, 1, 0, 0, 0, 0), (861, .invokevirtual 97, 3, 103, 10020, 0, 0), (864, .aload_n 2, 1, 2, 0, 0, 0), (865, .aload_n 0, 1, 0, 0, 0, 0), (866, .iload_n 3, 1, 3, 0, 0, 0), (867, .iconst 1, 1, 0, 0, 1, 0), (868, .iadd, 1, 0, 0, 0, 0), (869, .iaload, 1, 0, 0, 0, 0), (870, .aload_n 0, 1, 0, 0, 0, 0), (871, .iload_n 3, 1, 3, 0, 0, 0), (872, .iconst 2, 1, 0, 0, 2, 0), (873, .iadd, 1, 0, 0, 0, 0), (874, .iaload, 1, 0, 0, 0, 0), (875, .invokevirtual 100, 3, 246, 11020, 0, 0), (878, .if_icmp .eq 1553, 3, 2431, 0, 0, 0), (881, .iconst 0, 1, 0, 0, 0, 0), (882, .ireturn, 1, 0, 0, 0, 0)]
set_option maxRecDepth 100000 in
theorem kcdL_850 : cdL_850.all (am_chk am_w345 345) = true := by decide +kernel
theorem kcdL2_850 : (cdL_850 ++ cdL_h).all (am_chk am_w345 345) = true := by
  simp only [List.all_append, kcdL_850, kcdL_h, Bool.and_self]
def sL_850 (z : Nat) : Nat → List aV → aM → Option aR := fun j => (match Nat.beq j 103 with
  | true => F103 z
  | false => (match Nat.beq j 246 with
  | true => F246 z
  | false => (fun _ _ => none)))
theorem hsL_850 (z : Nat) : ∀ j2 : Nat, ∃ d2 : Nat, d2 + 1 ≤ 14 ∧ am_Snd d2 j2 (sL_850 z j2) := by
  intro j2
  unfold sL_850
  split
  · rename_i he
    rw [am_beq he]
    exact ⟨_, by decide, S103 z⟩
  · skip
    split
    · rename_i he
      rw [am_beq he]
      exact ⟨_, by decide, S246 z⟩
    · skip
      exact ⟨0, by decide, am_Snd_no j2⟩
/-- the law, case [20] -/
def f345_850 (z nL : Nat) (xs : Nat → Int32) (k18 : Int32 → aM → Option aR) : Nat → Int32 → aM → Option aR
  | 0, _, _ => none
  | n + 1, x3, M =>
    if am_inB (x3 + (1 : Int32)) nL then
      if am_inB (x3 + (2 : Int32)) nL then
        am_bi (f103 z (xs (x3 + (1 : Int32)).toNatClampNeg) (xs (x3 + (2 : Int32)).toNatClampNeg) M) fun v2 M1 =>
          if am_inB (x3 + (1 : Int32)) nL then
            if am_inB (x3 + (2 : Int32)) nL then
              am_bi (f246 z (xs (x3 + (1 : Int32)).toNatClampNeg) (xs (x3 + (2 : Int32)).toNatClampNeg) M1) fun v4 M3 =>
                if v2 = v4 then
                  k18 (x3 + (6 : Int32)) M3
                else
                  some (some (.inl ((0 : Int32) &&& 1)), M3)
            else
              none
          else
            none
      else
        none
    else
      none
set_option maxRecDepth 100000 in
set_option maxHeartbeats 4000000 in
theorem e345_850 (z nL : Nat) (xs : Nat → Int32) {p : Program} {l : Launch} {e : Env} {R : Room} {s : State} {m : MethodId} {args : Array Value} {below : List Frame} {meth : Method} {c : Code} {C : aC} {Q : State → Prop} {ce sl : Nat} (F : am_F (some (nL, xs)) p R s m args c C 345 14 ce sl) (r : aR) (hR : am_HR p l e R s m args below meth c C 345 (am_ml 345) ce sl 1 Q r) (k18 : Int32 → aM → Option aR) (hk18 : ∀ (x3 : Int32) (M : aM), k18 x3 M = some r → am_Wd p l e R s m args below meth c C (am_ml 345) ce sl Q 18 [some (.inr (.inr (62, 5200))), some (.inr (.inr (10, 0))), some (.inr (.inr (11, 205))), some (.inl x3)] [] M) : ∀ (n : Nat) (x3 : Int32) (M : aM), f345_850 z nL xs k18 n x3 M = some r → am_Wd p l e R s m args below meth c C (am_ml 345) ce sl Q 850 [some (.inr (.inr (62, 5200))), some (.inr (.inr (10, 0))), some (.inr (.inr (11, 205))), some (.inl x3)] [] M := by
  intro n x3 M h
  cases n with
  | zero => cases h
  | succ n =>
    exact am_seg_ok (sws := am_w345) (sem := sL_850 z) (cd := cdL_850 ++ cdL_h) (cut := ([(18, [true, true, true, true])] : List (Nat × List Bool))) (kap := (fun pc al st M => (match Nat.beq pc 18 with
      | true => (match al, st with
        | [some (.inr (.inr (62, 5200))), some (.inr (.inr (10, 0))), some (.inr (.inr (11, 205))), some (.inl x3)], [] => k18 x3 M
        | _, _ => none)
      | false => none))) (hsL_850 z) F hR kcdL2_850 (by rw [am_l345]; decide) (fun pc al st M hk => by
      try dsimp only at hk
      split at hk
      · rename_i he
        rw [am_beq he]
        split at hk
        · exact hk18 _ _ hk
        · cases hk
      · cases hk) 29 850 _ _ _ h
def cdL_883 : List am_E := [(883, .aload_n 1, 1, 1, 0, 0, 0), (884, .aload_n 0, 1, 0, 0, 0, 0), (885, .iload_n 3, 1, 3, 0, 0, 0), (886, .iconst 1, 1, 0, 0, 1, 0), (887, .iadd, 1, 0, 0, 0, 0), (888, .iaload, 1, 0, 0, 0, 0), (889, .aload_n 0, 1, 0, 0, 0, 0), (890, .iload_n 3, 1, 3, 0, 0, 0), (891, .iconst 2, 1, 0, 0, 2, 0), (892, .iadd, 1, 0, 0, 0, 0), (893, .iaload, 1, 0, 0, 0, 0), (894, .invokevirtual 101, 3, 104, 10020, 0, 0), (897, .aload_n 2, 1, 2, 0, 0, 0), (898, .aload_n 0, 1, 0, 0, 0, 0), (899, .iload_n 3, 1, 3, 0, 0, 0), (900, .iconst 1, 1, 0, 0, 1, 0), (901, .iadd, 1, 0, 0, 0, 0), (902, .iaload, 1, 0, 0, 0, 0), (903, .aload_n 0, 1, 0, 0, 0, 0), (904, .iload_n 3, 1, 3, 0, 0, 0), (905, .iconst 2, 1, 0, 0, 2, 0), (906, .iadd, 1, 0, 0, 0, 0), (907, .iaload, 1, 0, 0, 0, 0), (908, .invokevirtual 104, 3, 250, 11020, 0, 0), (911, .if_icmp .eq 1520, 3, 2431, 0, 0, 0), (914, .iconst 0, 1, 0, 0, 0, 0), (915, .ireturn, 1, 0, 0, 0, 0)]
set_option maxRecDepth 100000 in
theorem kcdL_883 : cdL_883.all (am_chk am_w345 345) = true := by decide +kernel
theorem kcdL2_883 : (cdL_883 ++ cdL_h).all (am_chk am_w345 345) = true := by
  simp only [List.all_append, kcdL_883, kcdL_h, Bool.and_self]
def sL_883 (z : Nat) : Nat → List aV → aM → Option aR := fun j => (match Nat.beq j 104 with
  | true => F104 z
  | false => (match Nat.beq j 250 with
  | true => F250 z
  | false => (fun _ _ => none)))
theorem hsL_883 (z : Nat) : ∀ j2 : Nat, ∃ d2 : Nat, d2 + 1 ≤ 14 ∧ am_Snd d2 j2 (sL_883 z j2) := by
  intro j2
  unfold sL_883
  split
  · rename_i he
    rw [am_beq he]
    exact ⟨_, by decide, S104 z⟩
  · skip
    split
    · rename_i he
      rw [am_beq he]
      exact ⟨_, by decide, S250 z⟩
    · skip
      exact ⟨0, by decide, am_Snd_no j2⟩
/-- the law, case [21] -/
def f345_883 (z nL : Nat) (xs : Nat → Int32) (k18 : Int32 → aM → Option aR) : Nat → Int32 → aM → Option aR
  | 0, _, _ => none
  | n + 1, x3, M =>
    if am_inB (x3 + (1 : Int32)) nL then
      if am_inB (x3 + (2 : Int32)) nL then
        am_bi (f104 z (xs (x3 + (1 : Int32)).toNatClampNeg) (xs (x3 + (2 : Int32)).toNatClampNeg) M) fun v2 M1 =>
          if am_inB (x3 + (1 : Int32)) nL then
            if am_inB (x3 + (2 : Int32)) nL then
              am_bi (f250 z (xs (x3 + (1 : Int32)).toNatClampNeg) (xs (x3 + (2 : Int32)).toNatClampNeg) M1) fun v4 M3 =>
                if v2 = v4 then
                  k18 (x3 + (6 : Int32)) M3
                else
                  some (some (.inl ((0 : Int32) &&& 1)), M3)
            else
              none
          else
            none
      else
        none
    else
      none
set_option maxRecDepth 100000 in
set_option maxHeartbeats 4000000 in
theorem e345_883 (z nL : Nat) (xs : Nat → Int32) {p : Program} {l : Launch} {e : Env} {R : Room} {s : State} {m : MethodId} {args : Array Value} {below : List Frame} {meth : Method} {c : Code} {C : aC} {Q : State → Prop} {ce sl : Nat} (F : am_F (some (nL, xs)) p R s m args c C 345 14 ce sl) (r : aR) (hR : am_HR p l e R s m args below meth c C 345 (am_ml 345) ce sl 1 Q r) (k18 : Int32 → aM → Option aR) (hk18 : ∀ (x3 : Int32) (M : aM), k18 x3 M = some r → am_Wd p l e R s m args below meth c C (am_ml 345) ce sl Q 18 [some (.inr (.inr (62, 5200))), some (.inr (.inr (10, 0))), some (.inr (.inr (11, 205))), some (.inl x3)] [] M) : ∀ (n : Nat) (x3 : Int32) (M : aM), f345_883 z nL xs k18 n x3 M = some r → am_Wd p l e R s m args below meth c C (am_ml 345) ce sl Q 883 [some (.inr (.inr (62, 5200))), some (.inr (.inr (10, 0))), some (.inr (.inr (11, 205))), some (.inl x3)] [] M := by
  intro n x3 M h
  cases n with
  | zero => cases h
  | succ n =>
    exact am_seg_ok (sws := am_w345) (sem := sL_883 z) (cd := cdL_883 ++ cdL_h) (cut := ([(18, [true, true, true, true])] : List (Nat × List Bool))) (kap := (fun pc al st M => (match Nat.beq pc 18 with
      | true => (match al, st with
        | [some (.inr (.inr (62, 5200))), some (.inr (.inr (10, 0))), some (.inr (.inr (11, 205))), some (.inl x3)], [] => k18 x3 M
        | _, _ => none)
      | false => none))) (hsL_883 z) F hR kcdL2_883 (by rw [am_l345]; decide) (fun pc al st M hk => by
      try dsimp only at hk
      split at hk
      · rename_i he
        rw [am_beq he]
        split at hk
        · exact hk18 _ _ hk
        · cases hk
      · cases hk) 29 883 _ _ _ h
def cdL_916 : List am_E := [(916, .aload_n 1, 1, 1, 0, 0, 0), (917, .aload_n 0, 1, 0, 0, 0, 0), (918, .iload_n 3, 1, 3, 0, 0, 0), (919, .iconst 1, 1, 0, 0, 1, 0), (920, .iadd, 1, 0, 0, 0, 0), (921, .iaload, 1, 0, 0, 0, 0), (922, .aload_n 0, 1, 0, 0, 0, 0), (923, .iload_n 3, 1, 3, 0, 0, 0), (924, .iconst 2, 1, 0, 0, 2, 0), (925, .iadd, 1, 0, 0, 0, 0), (926, .iaload, 1, 0, 0, 0, 0), (927, .invokevirtual 105, 3, 105, 10020, 0, 0), (930, .aload_n 2, 1, 2, 0, 0, 0), (931, .aload_n 0, 1, 0, 0, 0, 0), (932, .iload_n 3, 1, 3, 0, 0, 0), (933, .iconst 1, 1, 0, 0, 1, 0), (934, .iadd, 1, 0, 0, 0, 0), (935, .iaload, 1, 0, 0, 0, 0), (936, .aload_n 0, 1, 0, 0, 0, 0), (937, .iload_n 3, 1, 3, 0, 0, 0), (938, .iconst 2, 1, 0, 0, 2, 0), (939, .iadd, 1, 0, 0, 0, 0), (940, .iaload, 1, 0, 0, 0, 0), (941, .invokevirtual 108, 3, 253, 11020, 0, 0), (944, .if_icmp .eq 1487, 3, 2431, 0, 0, 0), (947, .iconst 0, 1, 0, 0, 0, 0), (948, .ireturn, 1, 0, 0, 0, 0)]
set_option maxRecDepth 100000 in
theorem kcdL_916 : cdL_916.all (am_chk am_w345 345) = true := by decide +kernel
theorem kcdL2_916 : (cdL_916 ++ cdL_h).all (am_chk am_w345 345) = true := by
  simp only [List.all_append, kcdL_916, kcdL_h, Bool.and_self]
def sL_916 (z : Nat) : Nat → List aV → aM → Option aR := fun j => (match Nat.beq j 105 with
  | true => F105 z
  | false => (match Nat.beq j 253 with
  | true => F253 z
  | false => (fun _ _ => none)))
theorem hsL_916 (z : Nat) : ∀ j2 : Nat, ∃ d2 : Nat, d2 + 1 ≤ 14 ∧ am_Snd d2 j2 (sL_916 z j2) := by
  intro j2
  unfold sL_916
  split
  · rename_i he
    rw [am_beq he]
    exact ⟨_, by decide, S105 z⟩
  · skip
    split
    · rename_i he
      rw [am_beq he]
      exact ⟨_, by decide, S253 z⟩
    · skip
      exact ⟨0, by decide, am_Snd_no j2⟩
/-- the law, case [22] -/
def f345_916 (z nL : Nat) (xs : Nat → Int32) (k18 : Int32 → aM → Option aR) : Nat → Int32 → aM → Option aR
  | 0, _, _ => none
  | n + 1, x3, M =>
    if am_inB (x3 + (1 : Int32)) nL then
      if am_inB (x3 + (2 : Int32)) nL then
        am_bi (f105 z (xs (x3 + (1 : Int32)).toNatClampNeg) (xs (x3 + (2 : Int32)).toNatClampNeg) M) fun v2 M1 =>
          if am_inB (x3 + (1 : Int32)) nL then
            if am_inB (x3 + (2 : Int32)) nL then
              am_bi (f253 z (xs (x3 + (1 : Int32)).toNatClampNeg) (xs (x3 + (2 : Int32)).toNatClampNeg) M1) fun v4 M3 =>
                if v2 = v4 then
                  k18 (x3 + (6 : Int32)) M3
                else
                  some (some (.inl ((0 : Int32) &&& 1)), M3)
            else
              none
          else
            none
      else
        none
    else
      none
set_option maxRecDepth 100000 in
set_option maxHeartbeats 4000000 in
theorem e345_916 (z nL : Nat) (xs : Nat → Int32) {p : Program} {l : Launch} {e : Env} {R : Room} {s : State} {m : MethodId} {args : Array Value} {below : List Frame} {meth : Method} {c : Code} {C : aC} {Q : State → Prop} {ce sl : Nat} (F : am_F (some (nL, xs)) p R s m args c C 345 14 ce sl) (r : aR) (hR : am_HR p l e R s m args below meth c C 345 (am_ml 345) ce sl 1 Q r) (k18 : Int32 → aM → Option aR) (hk18 : ∀ (x3 : Int32) (M : aM), k18 x3 M = some r → am_Wd p l e R s m args below meth c C (am_ml 345) ce sl Q 18 [some (.inr (.inr (62, 5200))), some (.inr (.inr (10, 0))), some (.inr (.inr (11, 205))), some (.inl x3)] [] M) : ∀ (n : Nat) (x3 : Int32) (M : aM), f345_916 z nL xs k18 n x3 M = some r → am_Wd p l e R s m args below meth c C (am_ml 345) ce sl Q 916 [some (.inr (.inr (62, 5200))), some (.inr (.inr (10, 0))), some (.inr (.inr (11, 205))), some (.inl x3)] [] M := by
  intro n x3 M h
  cases n with
  | zero => cases h
  | succ n =>
    exact am_seg_ok (sws := am_w345) (sem := sL_916 z) (cd := cdL_916 ++ cdL_h) (cut := ([(18, [true, true, true, true])] : List (Nat × List Bool))) (kap := (fun pc al st M => (match Nat.beq pc 18 with
      | true => (match al, st with
        | [some (.inr (.inr (62, 5200))), some (.inr (.inr (10, 0))), some (.inr (.inr (11, 205))), some (.inl x3)], [] => k18 x3 M
        | _, _ => none)
      | false => none))) (hsL_916 z) F hR kcdL2_916 (by rw [am_l345]; decide) (fun pc al st M hk => by
      try dsimp only at hk
      split at hk
      · rename_i he
        rw [am_beq he]
        split at hk
        · exact hk18 _ _ hk
        · cases hk
      · cases hk) 29 916 _ _ _ h
