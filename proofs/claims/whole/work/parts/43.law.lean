def cdL_1538 : List am_E := [(1538, .aload_n 1, 1, 1, 0, 0, 0), (1539, .aload_n 0, 1, 0, 0, 0, 0), (1540, .iload_n 3, 1, 3, 0, 0, 0), (1541, .iconst 1, 1, 0, 0, 1, 0), (1542, .iadd, 1, 0, 0, 0, 0), (1543, .iaload, 1, 0, 0, 0, 0), (1544, .aload_n 0, 1, 0, 0, 0, 0), (1545, .iload_n 3, 1, 3, 0, 0, 0), (1546, .iconst 2, 1, 0, 0, 2, 0), (1547, .iadd, 1, 0, 0, 0, 0), (1548, .iaload, 1, 0, 0, 0, 0), (1549, .invokevirtual 203, 3, 133, 10020, 0, 0), (1552, .aload_n 2, 1, 2, 0, 0, 0), (1553, .aload_n 0, 1, 0, 0, 0, 0), (1554, .iload_n 3, 1, 3, 0, 0, 0), (1555, .iconst 1, 1, 0, 0, 1, 0), (1556, .iadd, 1, 0, 0, 0, 0), (1557, .iaload, 1, 0, 0, 0, 0), (1558, .aload_n 0, 1, 0, 0, 0, 0), (1559, .iload_n 3, 1, 3, 0, 0, 0), (1560, .iconst 2, 1, 0, 0, 2, 0), (1561, .iadd, 1, 0, 0, 0, 0), (1562, .iaload, 1, 0, 0, 0, 0), (1563, .invokevirtual 206, 3, 288, 11020, 0, 0), (1566, .if_icmp .eq 865, 3, 2431, 0, 0, 0), (1569, .iconst 0, 1, 0, 0, 0, 0), (1570, .ireturn, 1, 0, 0, 0, 0)]
set_option maxRecDepth 100000 in
theorem kcdL_1538 : cdL_1538.all (am_chk am_w345 345) = true := by decide +kernel
theorem kcdL2_1538 : (cdL_1538 ++ cdL_h).all (am_chk am_w345 345) = true := by
  simp only [List.all_append, kcdL_1538, kcdL_h, Bool.and_self]
def sL_1538 (z : Nat) : Nat → List aV → aM → Option aR := fun j => (match Nat.beq j 133 with
  | true => F133 z
  | false => (match Nat.beq j 288 with
  | true => F288 z
  | false => (fun _ _ => none)))
theorem hsL_1538 (z : Nat) : ∀ j2 : Nat, ∃ d2 : Nat, d2 + 1 ≤ 14 ∧ am_Snd d2 j2 (sL_1538 z j2) := by
  intro j2
  unfold sL_1538
  split
  · rename_i he
    rw [am_beq he]
    exact ⟨_, by decide, S133 z⟩
  · skip
    split
    · rename_i he
      rw [am_beq he]
      exact ⟨_, by decide, S288 z⟩
    · skip
      exact ⟨0, by decide, am_Snd_no j2⟩
/-- the law, case [46] -/
def f345_1538 (z nL : Nat) (xs : Nat → Int32) (k18 : Int32 → aM → Option aR) : Nat → Int32 → aM → Option aR
  | 0, _, _ => none
  | n + 1, x3, M =>
    if am_inB (x3 + (1 : Int32)) nL then
      if am_inB (x3 + (2 : Int32)) nL then
        am_bi (f133 z (xs (x3 + (1 : Int32)).toNatClampNeg) (xs (x3 + (2 : Int32)).toNatClampNeg) M) fun v2 M1 =>
          if am_inB (x3 + (1 : Int32)) nL then
            if am_inB (x3 + (2 : Int32)) nL then
              am_bi (f288 z (xs (x3 + (1 : Int32)).toNatClampNeg) (xs (x3 + (2 : Int32)).toNatClampNeg) M1) fun v4 M3 =>
                if v2 = v4 then
                  k18 (x3 + (6 : Int32)) M3
                else
                  some (some (.inl ((0 : Int32) &&& 1)), M3)
            else
              none
          else
            none
      else
        none
    else
      none
set_option maxRecDepth 100000 in
set_option maxHeartbeats 4000000 in
theorem e345_1538 (z nL : Nat) (xs : Nat → Int32) {p : Program} {l : Launch} {e : Env} {R : Room} {s : State} {m : MethodId} {args : Array Value} {below : List Frame} {meth : Method} {c : Code} {C : aC} {Q : State → Prop} {ce sl : Nat} (F : am_F (some (nL, xs)) p R s m args c C 345 14 ce sl) (r : aR) (hR : am_HR p l e R s m args below meth c C 345 (am_ml 345) ce sl 1 Q r) (k18 : Int32 → aM → Option aR) (hk18 : ∀ (x3 : Int32) (M : aM), k18 x3 M = some r → am_Wd p l e R s m args below meth c C (am_ml 345) ce sl Q 18 [some (.inr (.inr (62, 5200))), some (.inr (.inr (10, 0))), some (.inr (.inr (11, 205))), some (.inl x3)] [] M) : ∀ (n : Nat) (x3 : Int32) (M : aM), f345_1538 z nL xs k18 n x3 M = some r → am_Wd p l e R s m args below meth c C (am_ml 345) ce sl Q 1538 [some (.inr (.inr (62, 5200))), some (.inr (.inr (10, 0))), some (.inr (.inr (11, 205))), some (.inl x3)] [] M := by
  intro n x3 M h
  cases n with
  | zero => cases h
  | succ n =>
    exact am_seg_ok (sws := am_w345) (sem := sL_1538 z) (cd := cdL_1538 ++ cdL_h) (cut := ([(18, [true, true, true, true])] : List (Nat × List Bool))) (kap := (fun pc al st M => (match Nat.beq pc 18 with
      | true => (match al, st with
        | [some (.inr (.inr (62, 5200))), some (.inr (.inr (10, 0))), some (.inr (.inr (11, 205))), some (.inl x3)], [] => k18 x3 M
        | _, _ => none)
      | false => none))) (hsL_1538 z) F hR kcdL2_1538 (by rw [am_l345]; decide) (fun pc al st M hk => by
      try dsimp only at hk
      split at hk
      · rename_i he
        rw [am_beq he]
        split at hk
        · exact hk18 _ _ hk
        · cases hk
      · cases hk) 29 1538 _ _ _ h
def cdL_1571 : List am_E := [(1571, .aload_n 1, 1, 1, 0, 0, 0), (1572, .aload_n 0, 1, 0, 0, 0, 0), (1573, .iload_n 3, 1, 3, 0, 0, 0), (1574, .iconst 1, 1, 0, 0, 1, 0), (1575, .iadd, 1, 0, 0, 0, 0), (1576, .iaload, 1, 0, 0, 0, 0), (1577, .aload_n 0, 1, 0, 0, 0, 0), (1578, .iload_n 3, 1, 3, 0, 0, 0), (1579, .iconst 2, 1, 0, 0, 2, 0), (1580, .iadd, 1, 0, 0, 0, 0), (1581, .iaload, 1, 0, 0, 0, 0), (1582, .invokevirtual 207, 3, 134, 10020, 0, 0), (1585, .aload_n 2, 1, 2, 0, 0, 0), (1586, .aload_n 0, 1, 0, 0, 0, 0), (1587, .iload_n 3, 1, 3, 0, 0, 0), (1588, .iconst 1, 1, 0, 0, 1, 0), (1589, .iadd, 1, 0, 0, 0, 0), (1590, .iaload, 1, 0, 0, 0, 0), (1591, .aload_n 0, 1, 0, 0, 0, 0), (1592, .iload_n 3, 1, 3, 0, 0, 0), (1593, .iconst 2, 1, 0, 0, 2, 0), (1594, .iadd, 1, 0, 0, 0, 0), (1595, .iaload, 1, 0, 0, 0, 0), (1596, .invokevirtual 210, 3, 289, 11020, 0, 0), (1599, .if_icmp .eq 832, 3, 2431, 0, 0, 0), (1602, .iconst 0, 1, 0, 0, 0, 0), (1603, .ireturn, 1, 0, 0, 0, 0)]
set_option maxRecDepth 100000 in
theorem kcdL_1571 : cdL_1571.all (am_chk am_w345 345) = true := by decide +kernel
theorem kcdL2_1571 : (cdL_1571 ++ cdL_h).all (am_chk am_w345 345) = true := by
  simp only [List.all_append, kcdL_1571, kcdL_h, Bool.and_self]
def sL_1571 (z : Nat) : Nat → List aV → aM → Option aR := fun j => (match Nat.beq j 134 with
  | true => F134 z
  | false => (match Nat.beq j 289 with
  | true => F289 z
  | false => (fun _ _ => none)))
theorem hsL_1571 (z : Nat) : ∀ j2 : Nat, ∃ d2 : Nat, d2 + 1 ≤ 14 ∧ am_Snd d2 j2 (sL_1571 z j2) := by
  intro j2
  unfold sL_1571
  split
  · rename_i he
    rw [am_beq he]
    exact ⟨_, by decide, S134 z⟩
  · skip
    split
    · rename_i he
      rw [am_beq he]
      exact ⟨_, by decide, S289 z⟩
    · skip
      exact ⟨0, by decide, am_Snd_no j2⟩
/-- the law, case [47] -/
def f345_1571 (z nL : Nat) (xs : Nat → Int32) (k18 : Int32 → aM → Option aR) : Nat → Int32 → aM → Option aR
  | 0, _, _ => none
  | n + 1, x3, M =>
    if am_inB (x3 + (1 : Int32)) nL then
      if am_inB (x3 + (2 : Int32)) nL then
        am_bi (f134 z (xs (x3 + (1 : Int32)).toNatClampNeg) (xs (x3 + (2 : Int32)).toNatClampNeg) M) fun v2 M1 =>
          if am_inB (x3 + (1 : Int32)) nL then
            if am_inB (x3 + (2 : Int32)) nL then
              am_bi (f289 z (xs (x3 + (1 : Int32)).toNatClampNeg) (xs (x3 + (2 : Int32)).toNatClampNeg) M1) fun v4 M3 =>
                if v2 = v4 then
                  k18 (x3 + (6 : Int32)) M3
                else
                  some (some (.inl ((0 : Int32) &&& 1)), M3)
            else
              none
          else
            none
      else
        none
    else
      none
set_option maxRecDepth 100000 in
set_option maxHeartbeats 4000000 in
theorem e345_1571 (z nL : Nat) (xs : Nat → Int32) {p : Program} {l : Launch} {e : Env} {R : Room} {s : State} {m : MethodId} {args : Array Value} {below : List Frame} {meth : Method} {c : Code} {C : aC} {Q : State → Prop} {ce sl : Nat} (F : am_F (some (nL, xs)) p R s m args c C 345 14 ce sl) (r : aR) (hR : am_HR p l e R s m args below meth c C 345 (am_ml 345) ce sl 1 Q r) (k18 : Int32 → aM → Option aR) (hk18 : ∀ (x3 : Int32) (M : aM), k18 x3 M = some r → am_Wd p l e R s m args below meth c C (am_ml 345) ce sl Q 18 [some (.inr (.inr (62, 5200))), some (.inr (.inr (10, 0))), some (.inr (.inr (11, 205))), some (.inl x3)] [] M) : ∀ (n : Nat) (x3 : Int32) (M : aM), f345_1571 z nL xs k18 n x3 M = some r → am_Wd p l e R s m args below meth c C (am_ml 345) ce sl Q 1571 [some (.inr (.inr (62, 5200))), some (.inr (.inr (10, 0))), some (.inr (.inr (11, 205))), some (.inl x3)] [] M := by
  intro n x3 M h
  cases n with
  | zero => cases h
  | succ n =>
    exact am_seg_ok (sws := am_w345) (sem := sL_1571 z) (cd := cdL_1571 ++ cdL_h) (cut := ([(18, [true, true, true, true])] : List (Nat × List Bool))) (kap := (fun pc al st M => (match Nat.beq pc 18 with
      | true => (match al, st with
        | [some (.inr (.inr (62, 5200))), some (.inr (.inr (10, 0))), some (.inr (.inr (11, 205))), some (.inl x3)], [] => k18 x3 M
        | _, _ => none)
      | false => none))) (hsL_1571 z) F hR kcdL2_1571 (by rw [am_l345]; decide) (fun pc al st M hk => by
      try dsimp only at hk
      split at hk
      · rename_i he
        rw [am_beq he]
        split at hk
        · exact hk18 _ _ hk
        · cases hk
      · cases hk) 29 1571 _ _ _ h
def cdL_1604 : List am_E := [(1604, .aload_n 1, 1, 1, 0, 0, 0), (1605, .aload_n 0, 1, 0, 0, 0, 0), (1606, .iload_n 3, 1, 3, 0, 0, 0), (1607, .iconst 1, 1, 0, 0, 1, 0), (1608, .iadd, 1, 0, 0, 0, 0), (1609, .iaload, 1, 0, 0, 0, 0), (1610, .aload_n 0, 1, 0, 0, 0, 0), (1611, .iload_n 3, 1, 3, 0, 0, 0), (1612, .iconst 2, 1, 0, 0, 2, 0), (1613, .iadd, 1, 0, 0, 0, 0), (1614, .iaload, 1, 0, 0, 0, 0), (1615, .invokevirtual 211, 3, 135, 10020, 0, 0), (1618, .aload_n 2, 1, 2, 0, 0, 0), (1619, .aload_n 0, 1, 0, 0, 0, 0), (1620, .iload_n 3, 1, 3, 0, 0, 0), (1621, .iconst 1, 1, 0, 0, 1, 0), (1622, .iadd, 1, 0, 0, 0, 0), (1623, .iaload, 1, 0, 0, 0, 0), (1624, .aload_n 0, 1, 0, 0, 0, 0), (1625, .iload_n 3, 1, 3, 0, 0, 0), (1626, .iconst 2, 1, 0, 0, 2, 0), (1627, .iadd, 1, 0, 0, 0, 0), (1628, .iaload, 1, 0, 0, 0, 0), (1629, .invokevirtual 214, 3, 290, 11020, 0, 0), (1632, .if_icmp .eq 799, 3, 2431, 0, 0, 0), (1635, .iconst 0, 1, 0, 0, 0, 0), (1636, .ireturn, 1, 0, 0, 0, 0)]
set_option maxRecDepth 100000 in
theorem kcdL_1604 : cdL_1604.all (am_chk am_w345 345) = true := by decide +kernel
theorem kcdL2_1604 : (cdL_1604 ++ cdL_h).all (am_chk am_w345 345) = true := by
  simp only [List.all_append, kcdL_1604, kcdL_h, Bool.and_self]
def sL_1604 (z : Nat) : Nat → List aV → aM → Option aR := fun j => (match Nat.beq j 135 with
  | true => F135 z
  | false => (match Nat.beq j 290 with
  | true => F290 z
  | false => (fun _ _ => none)))
theorem hsL_1604 (z : Nat) : ∀ j2 : Nat, ∃ d2 : Nat, d2 + 1 ≤ 14 ∧ am_Snd d2 j2 (sL_1604 z j2) := by
  intro j2
  unfold sL_1604
  split
  · rename_i he
    rw [am_beq he]
    exact ⟨_, by decide, S135 z⟩
  · skip
    split
    · rename_i he
      rw [am_beq he]
      exact ⟨_, by decide, S290 z⟩
    · skip
      exact ⟨0, by decide, am_Snd_no j2⟩
/-- the law, case [48] -/
def f345_1604 (z nL : Nat) (xs : Nat → Int32) (k18 : Int32 → aM → Option aR) : Nat → Int32 → aM → Option aR
  | 0, _, _ => none
  | n + 1, x3, M =>
    if am_inB (x3 + (1 : Int32)) nL then
      if am_inB (x3 + (2 : Int32)) nL then
        am_bi (f135 z (xs (x3 + (1 : Int32)).toNatClampNeg) (xs (x3 + (2 : Int32)).toNatClampNeg) M) fun v2 M1 =>
          if am_inB (x3 + (1 : Int32)) nL then
            if am_inB (x3 + (2 : Int32)) nL then
              am_bi (f290 z (xs (x3 + (1 : Int32)).toNatClampNeg) (xs (x3 + (2 : Int32)).toNatClampNeg) M1) fun v4 M3 =>
                if v2 = v4 then
                  k18 (x3 + (6 : Int32)) M3
                else
                  some (some (.inl ((0 : Int32) &&& 1)), M3)
            else
              none
          else
            none
      else
        none
    else
      none
set_option maxRecDepth 100000 in
set_option maxHeartbeats 4000000 in
theorem e345_1604 (z nL : Nat) (xs : Nat → Int32) {p : Program} {l : Launch} {e : Env} {R : Room} {s : State} {m : MethodId} {args : Array Value} {below : List Frame} {meth : Method} {c : Code} {C : aC} {Q : State → Prop} {ce sl : Nat} (F : am_F (some (nL, xs)) p R s m args c C 345 14 ce sl) (r : aR) (hR : am_HR p l e R s m args below meth c C 345 (am_ml 345) ce sl 1 Q r) (k18 : Int32 → aM → Option aR) (hk18 : ∀ (x3 : Int32) (M : aM), k18 x3 M = some r → am_Wd p l e R s m args below meth c C (am_ml 345) ce sl Q 18 [some (.inr (.inr (62, 5200))), some (.inr (.inr (10, 0))), some (.inr (.inr (11, 205))), some (.inl x3)] [] M) : ∀ (n : Nat) (x3 : Int32) (M : aM), f345_1604 z nL xs k18 n x3 M = some r → am_Wd p l e R s m args below meth c C (am_ml 345) ce sl Q 1604 [some (.inr (.inr (62, 5200))), some (.inr (.inr (10, 0))), some (.inr (.inr (11, 205))), some (.inl x3)] [] M := by
  intro n x3 M h
  cases n with
  | zero => cases h
  | succ n =>
    exact am_seg_ok (sws := am_w345) (sem := sL_1604 z) (cd := cdL_1604 ++ cdL_h) (cut := ([(18, [true, true, true, true])] : List (Nat × List Bool))) (kap := (fun pc al st M => (match Nat.beq pc 18 with
      | true => (match al, st with
        | [some (.inr (.inr (62, 5200))), some (.inr (.inr (10, 0))), some (.inr (.inr (11, 205))), some (.inl x3)], [] => k18 x3 M
        | _, _ => none)
      | false => none))) (hsL_1604 z) F hR kcdL2_1604 (by rw [am_l345]; decide) (fun pc al st M hk => by
      try dsimp only at hk
      split at hk
      · rename_i he
        rw [am_beq he]
        split at hk
        · exact hk18 _ _ hk
        · cases hk
      · cases hk) 29 1604 _ _ _ h
def cdL_1637 : List am_E := [(1637, .aload_n 1, 1, 1, 0, 0, 0), (1638, .aload_n 0, 1, 0, 0, 0, 0), (1639, .iload_n 3, 1, 3, 0, 0, 0), (1640, .iconst 1, 1, 0, 0, 1, 0), (1641, .iadd, 1, 0, 0, 0, 0), (1642, .iaload, 1, 0, 0, 0, 0), (1643, .aload_n 0, 1, 0, 0, 0, 0), (1644, .iload_n 3, 1, 3, 0, 0, 0), (1645, .iconst 2, 1, 0, 0, 2, 0), (1646, .iadd, 1, 0, 0, 0, 0), (1647, .iaload, 1, 0, 0, 0, 0), (1648, .invokevirtual 215, 3, 136, 10020, 0, 0), (1651, .aload_n 2, 1, 2, 0, 0, 0), (1652, .aload_n 0, 1, 0, 0, 0, 0), (1653, .iload_n 3, 1, 3, 0, 0, 0), (1654, .iconst 1, 1, 0, 0, 1, 0), (1655, .iadd, 1, 0, 0, 0, 0), (1656, .iaload, 1, 0, 0, 0, 0), (1657, .aload_n 0, 1, 0, 0, 0, 0), (1658, .iload_n 3, 1, 3, 0, 0, 0), (1659, .iconst 2, 1, 0, 0, 2, 0), (1660, .iadd, 1, 0, 0, 0, 0), (1661, .iaload, 1, 0, 0, 0, 0), (1662, .invokevirtual 218, 3, 293, 11020, 0, 0), (1665, .if_icmp .eq 766, 3, 2431, 0, 0, 0), (1668, .iconst 0, 1, 0, 0, 0, 0), (1669, .ireturn, 1, 0, 0, 0, 0)]
set_option maxRecDepth 100000 in
theorem kcdL_1637 : cdL_1637.all (am_chk am_w345 345) = true := by decide +kernel
theorem kcdL2_1637 : (cdL_1637 ++ cdL_h).all (am_chk am_w345 345) = true := by
  simp only [List.all_append, kcdL_1637, kcdL_h, Bool.and_self]
def sL_1637 (z : Nat) : Nat → List aV → aM → Option aR := fun j => (match Nat.beq j 136 with
  | true => F136 z
  | false => (match Nat.beq j 293 with
  | true => F293 z
  | false => (fun _ _ => none)))
theorem hsL_1637 (z : Nat) : ∀ j2 : Nat, ∃ d2 : Nat, d2 + 1 ≤ 14 ∧ am_Snd d2 j2 (sL_1637 z j2) := by
  intro j2
  unfold sL_1637
  split
  · rename_i he
    rw [am_beq he]
    exact ⟨_, by decide, S136 z⟩
  · skip
    split
    · rename_i he
      rw [am_beq he]
      exact ⟨_, by decide, S293 z⟩
    · skip
      exact ⟨0, by decide, am_Snd_no j2⟩
/-- the law, case [49] -/
def f345_1637 (z nL : Nat) (xs : Nat → Int32) (k18 : Int32 → aM → Option aR) : Nat → Int32 → aM → Option aR
  | 0, _, _ => none
  | n + 1, x3, M =>
    if am_inB (x3 + (1 : Int32)) nL then
      if am_inB (x3 + (2 : Int32)) nL then
        am_bi (f136 z (xs (x3 + (1 : Int32)).toNatClampNeg) (xs (x3 + (2 : Int32)).toNatClampNeg) M) fun v2 M1 =>
          if am_inB (x3 + (1 : Int32)) nL then
            if am_inB (x3 + (2 : Int32)) nL then
              am_bi (f293 z (xs (x3 + (1 : Int32)).toNatClampNeg) (xs (x3 + (2 : Int32)).toNatClampNeg) M1) fun v4 M3 =>
                if v2 = v4 then
                  k18 (x3 + (6 : Int32)) M3
                else
                  some (some (.inl ((0 : Int32) &&& 1)), M3)
            else
              none
          else
            none
      else
        none
    else
      none
set_option maxRecDepth 100000 in
set_option maxHeartbeats 4000000 in
theorem e345_1637 (z nL : Nat) (xs : Nat → Int32) {p : Program} {l : Launch} {e : Env} {R : Room} {s : State} {m : MethodId} {args : Array Value} {below : List Frame} {meth : Method} {c : Code} {C : aC} {Q : State → Prop} {ce sl : Nat} (F : am_F (some (nL, xs)) p R s m args c C 345 14 ce sl) (r : aR) (hR : am_HR p l e R s m args below meth c C 345 (am_ml 345) ce sl 1 Q r) (k18 : Int32 → aM → Option aR) (hk18 : ∀ (x3 : Int32) (M : aM), k18 x3 M = some r → am_Wd p l e R s m args below meth c C (am_ml 345) ce sl Q 18 [some (.inr (.inr (62, 5200))), some (.inr (.inr (10, 0))), some (.inr (.inr (11, 205))), some (.inl x3)] [] M) : ∀ (n : Nat) (x3 : Int32) (M : aM), f345_1637 z nL xs k18 n x3 M = some r → am_Wd p l e R s m args below meth c C (am_ml 345) ce sl Q 1637 [some (.inr (.inr (62, 5200))), some (.inr (.inr (10, 0))), some (.inr (.inr (11, 205))), some (.inl x3)] [] M := by
  intro n x3 M h
  cases n with
  | zero => cases h
  | succ n =>
    exact am_seg_ok (sws := am_w345) (sem := sL_1637 z) (cd := cdL_1637 ++ cdL_h) (cut := ([(18, [true, true, true, true])] : List (Nat × List Bool))) (kap := (fun pc al st M => (match Nat.beq pc 18 with
      | true => (match al, st with
        | [some (.inr (.inr (62, 5200))), some (.inr (.inr (10, 0))), some (.inr (.inr (11, 205))), some (.inl x3)], [] => k18 x3 M
        | _, _ => none)
      | false => none))) (hsL_1637 z) F hR kcdL2_1637 (by rw [am_l345]; decide) (fun pc al st M hk => by
      try dsimp only at hk
      split at hk
      · rename_i he
        rw [am_beq he]
        split at hk
        · exact hk18 _ _ hk
        · cases hk
      · cases hk) 29 1637 _ _ _ h
def cdL_1670 : List am_E := [(1670, .aload_n 1, 1, 1, 0, 0, 0), (1671, .aload_n 0, 1, 0, 0, 0, 0), (1672, .iload_n 3, 1, 3, 0, 0, 0), (1673, .iconst 1, 1, 0, 0, 1, 0), (1674, .iadd, 1, 0, 0, 0, 0), (1675, .iaload, 1, 0, 0, 0, 0), (1676, .aload_n 0, 1, 0, 0, 0, 0), (1677, .iload_n 3, 1, 3, 0, 0, 0), (1678, .iconst 2, 1, 0, 0, 2, 0), (1679, .iadd, 1, 0, 0, 0, 0), (1680, .iaload, 1, 0, 0, 0, 0), (1681, .invokevirtual 219, 3, 137, 10020, 0, 0), (1684, .aload_n 2, 1, 2, 0, 0, 0), (1685, .aload_n 0, 1, 0, 0, 0, 0), (1686, .iload_n 3, 1, 3, 0, 0, 0), (1687, .iconst 1, 1, 0, 0, 1, 0), (1688, .iadd, 1, 0, 0, 0, 0), (1689, .iaload, 1, 0, 0, 0, 0), (1690, .aload_n 0, 1, 0, 0, 0, 0), (1691, .iload_n 3, 1, 3, 0, 0, 0), (1692, .iconst 2, 1, 0, 0, 2, 0), (1693, .iadd, 1, 0, 0, 0, 0), (1694, .iaload, 1, 0, 0, 0, 0), (1695, .invokevirtual 222, 3, 294, 11020, 0, 0), (1698, .if_icmp .eq 733, 3, 2431, 0, 0, 0), (1701, .iconst 0, 1, 0, 0, 0, 0), (1702, .ireturn, 1, 0, 0, 0, 0)]
set_option maxRecDepth 100000 in
theorem kcdL_1670 : cdL_1670.all (am_chk am_w345 345) = true := by decide +kernel
theorem kcdL2_1670 : (cdL_1670 ++ cdL_h).all (am_chk am_w345 345) = true := by
  simp only [List.all_append, kcdL_1670, kcdL_h, Bool.and_self]
def sL_1670 (z : Nat) : Nat → List aV → aM → Option aR := fun j => (match Nat.beq j 137 with
  | true => F137 z
  | false => (match Nat.beq j 294 with
  | true => F294 z
  | false => (fun _ _ => none)))
theorem hsL_1670 (z : Nat) : ∀ j2 : Nat, ∃ d2 : Nat, d2 + 1 ≤ 14 ∧ am_Snd d2 j2 (sL_1670 z j2) := by
  intro j2
  unfold sL_1670
  split
  · rename_i he
    rw [am_beq he]
    exact ⟨_, by decide, S137 z⟩
  · skip
    split
    · rename_i he
      rw [am_beq he]
      exact ⟨_, by decide, S294 z⟩
    · skip
      exact ⟨0, by decide, am_Snd_no j2⟩
/-- the law, case [50] -/
def f345_1670 (z nL : Nat) (xs : Nat → Int32) (k18 : Int32 → aM → Option aR) : Nat → Int32 → aM → Option aR
  | 0, _, _ => none
  | n + 1, x3, M =>
    if am_inB (x3 + (1 : Int32)) nL then
      if am_inB (x3 + (2 : Int32)) nL then
        am_bi (f137 z (xs (x3 + (1 : Int32)).toNatClampNeg) (xs (x3 + (2 : Int32)).toNatClampNeg) M) fun v2 M1 =>
          if am_inB (x3 + (1 : Int32)) nL then
            if am_inB (x3 + (2 : Int32)) nL then
              am_bi (f294 z (xs (x3 + (1 : Int32)).toNatClampNeg) (xs (x3 + (2 : Int32)).toNatClampNeg) M1) fun v4 M3 =>
                if v2 = v4 then
                  k18 (x3 + (6 : Int32)) M3
                else
                  some (some (.inl ((0 : Int32) &&& 1)), M3)
            else
              none
          else
            none
      else
        none
    else
      none
set_option maxRecDepth 100000 in
set_option maxHeartbeats 4000000 in
theorem e345_1670 (z nL : Nat) (xs : Nat → Int32) {p : Program} {l : Launch} {e : Env} {R : Room} {s : State} {m : MethodId} {args : Array Value} {below : List Frame} {meth : Method} {c : Code} {C : aC} {Q : State → Prop} {ce sl : Nat} (F : am_F (some (nL, xs)) p R s m args c C 345 14 ce sl) (r : aR) (hR : am_HR p l e R s m args below meth c C 345 (am_ml 345) ce sl 1 Q r) (k18 : Int32 → aM → Option aR) (hk18 : ∀ (x3 : Int32) (M : aM), k18 x3 M = some r → am_Wd p l e R s m args below meth c C (am_ml 345) ce sl Q 18 [some (.inr (.inr (62, 5200))), some (.inr (.inr (10, 0))), some (.inr (.inr (11, 205))), some (.inl x3)] [] M) : ∀ (n : Nat) (x3 : Int32) (M : aM), f345_1670 z nL xs k18 n x3 M = some r → am_Wd p l e R s m args below meth c C (am_ml 345) ce sl Q 1670 [some (.inr (.inr (62, 5200))), some (.inr (.inr (10, 0))), some (.inr (.inr (11, 205))), some (.inl x3)] [] M := by
  intro n x3 M h
  cases n with
  | zero => cases h
  | succ n =>
    exact am_seg_ok (sws := am_w345) (sem := sL_1670 z) (cd := cdL_1670 ++ cdL_h) (cut := ([(18, [true, true, true, true])] : List (Nat × List Bool))) (kap := (fun pc al st M => (match Nat.beq pc 18 with
      | true => (match al, st with
        | [some (.inr (.inr (62, 5200))), some (.inr (.inr (10, 0))), some (.inr (.inr (11, 205))), some (.inl x3)], [] => k18 x3 M
        | _, _ => none)
      | false => none))) (hsL_1670 z) F hR kcdL2_1670 (by rw [am_l345]; decide) (fun pc al st M hk => by
      try dsimp only at hk
      split at hk
      · rename_i he
        rw [am_beq he]
        split at hk
        · exact hk18 _ _ hk
        · cases hk
      · cases hk) 29 1670 _ _ _ h
def cdL_1703 : List am_E := [(1703, .aload_n 1, 1, 1, 0, 0, 0), (1704, .aload_n 0, 1, 0, 0, 0, 0), (1705, .iload_n 3, 1, 3, 0, 0, 0), (1706, .iconst 1, 1, 0, 0, 1, 0), (1707, .iadd, 1, 0, 0, 0, 0), (1708, .iaload, 1, 0, 0, 0, 0), (1709, .invokevirtual 223, 3, 138, 10010, 0, 0), (1712, .aload_n 2, 1, 2, 0, 0, 0), (1713, .aload_n 0, 1, 0, 0, 0, 0), (1714, .iload_n 3, 1, 3, 0, 0, 0), (1715, .iconst 1, 1, 0, 0, 1, 0), (1716, .iadd, 1, 0, 0, 0, 0), (1717, .iaload, 1, 0, 0, 0, 0), (1718, .invokevirtual 226, 3, 295, 11010, 0, 0), (1721, .if_icmp .eq 710, 3, 2431, 0, 0, 0), (1724, .iconst 0, 1, 0, 0, 0, 0), (1725, .ireturn, 1, 0, 0, 0, 0)]
set_option maxRecDepth 100000 in
theorem kcdL_1703 : cdL_1703.all (am_chk am_w345 345) = true := by decide +kernel
theorem kcdL2_1703 : (cdL_1703 ++ cdL_h).all (am_chk am_w345 345) = true := by
  simp only [List.all_append, kcdL_1703, kcdL_h, Bool.and_self]
def sL_1703 (z : Nat) : Nat → List aV → aM → Option aR := fun j => (match Nat.beq j 138 with
  | true => F138 z
  | false => (match Nat.beq j 295 with
  | true => F295 z
  | false => (fun _ _ => none)))
theorem hsL_1703 (z : Nat) : ∀ j2 : Nat, ∃ d2 : Nat, d2 + 1 ≤ 14 ∧ am_Snd d2 j2 (sL_1703 z j2) := by
  intro j2
  unfold sL_1703
  split
  · rename_i he
    rw [am_beq he]
    exact ⟨_, by decide, S138 z⟩
  · skip
    split
    · rename_i he
      rw [am_beq he]
      exact ⟨_, by decide, S295 z⟩
    · skip
      exact ⟨0, by decide, am_Snd_no j2⟩
/-- the law, case [51] -/
def f345_1703 (z nL : Nat) (xs : Nat → Int32) (k18 : Int32 → aM → Option aR) : Nat → Int32 → aM → Option aR
  | 0, _, _ => none
  | n + 1, x3, M =>
    if am_inB (x3 + (1 : Int32)) nL then
      am_bi (f138 z (xs (x3 + (1 : Int32)).toNatClampNeg) M) fun v2 M1 =>
        if am_inB (x3 + (1 : Int32)) nL then
          am_bi (f295 z (xs (x3 + (1 : Int32)).toNatClampNeg) M1) fun v4 M3 =>
            if v2 = v4 then
              k18 (x3 + (6 : Int32)) M3
            else
              some (some (.inl ((0 : Int32) &&& 1)), M3)
        else
          none
    else
      none
set_option maxRecDepth 100000 in
set_option maxHeartbeats 4000000 in
theorem e345_1703 (z nL : Nat) (xs : Nat → Int32) {p : Program} {l : Launch} {e : Env} {R : Room} {s : State} {m : MethodId} {args : Array Value} {below : List Frame} {meth : Method} {c : Code} {C : aC} {Q : State → Prop} {ce sl : Nat} (F : am_F (some (nL, xs)) p R s m args c C 345 14 ce sl) (r : aR) (hR : am_HR p l e R s m args below meth c C 345 (am_ml 345) ce sl 1 Q r) (k18 : Int32 → aM → Option aR) (hk18 : ∀ (x3 : Int32) (M : aM), k18 x3 M = some r → am_Wd p l e R s m args below meth c C (am_ml 345) ce sl Q 18 [some (.inr (.inr (62, 5200))), some (.inr (.inr (10, 0))), some (.inr (.inr (11, 205))), some (.inl x3)] [] M) : ∀ (n : Nat) (x3 : Int32) (M : aM), f345_1703 z nL xs k18 n x3 M = some r → am_Wd p l e R s m args below meth c C (am_ml 345) ce sl Q 1703 [some (.inr (.inr (62, 5200))), some (.inr (.inr (10, 0))), some (.inr (.inr (11, 205))), some (.inl x3)] [] M := by
  intro n x3 M h
  cases n with
  | zero => cases h
  | succ n =>
    exact am_seg_ok (sws := am_w345) (sem := sL_1703 z) (cd := cdL_1703 ++ cdL_h) (cut := ([(18, [true, true, true, true])] : List (Nat × List Bool))) (kap := (fun pc al st M => (match Nat.beq pc 18 with
      | true => (match al, st with
        | [some (.inr (.inr (62, 5200))), some (.inr (.inr (10, 0))), some (.inr (.inr (11, 205))), some (.inl x3)], [] => k18 x3 M
        | _, _ => none)
      | false => none))) (hsL_1703 z) F hR kcdL2_1703 (by rw [am_l345]; decide) (fun pc al st M hk => by
      try dsimp only at hk
      split at hk
      · rename_i he
        rw [am_beq he]
        split at hk
        · exact hk18 _ _ hk
        · cases hk
      · cases hk) 19 1703 _ _ _ h
def cdL_1726 : List am_E := [(1726, .aload_n 1, 1, 1, 0, 0, 0), (1727, .aload_n 0, 1, 0, 0, 0, 0), (1728, .iload_n 3, 1, 3, 0, 0, 0), (1729, .iconst 1, 1, 0, 0, 1, 0), (1730, .iadd, 1, 0, 0, 0, 0), (1731, .iaload, 1, 0, 0, 0, 0), (1732, .invokevirtual 227, 3, 139, 10010, 0, 0), (1735, .aload_n 2, 1, 2, 0, 0, 0), (1736, .aload_n 0, 1, 0, 0, 0, 0), (1737, .iload_n 3, 1, 3, 0, 0, 0), (1738, .iconst 1, 1, 0, 0, 1, 0), (1739, .iadd, 1, 0, 0, 0, 0), (1740, .iaload, 1, 0, 0, 0, 0), (1741, .invokevirtual 230, 3, 297, 11010, 0, 0), (1744, .if_icmp .eq 687, 3, 2431, 0, 0, 0), (1747, .iconst 0, 1, 0, 0, 0, 0), (1748, .ireturn, 1, 0, 0, 0, 0)]
set_option maxRecDepth 100000 in
theorem kcdL_1726 : cdL_1726.all (am_chk am_w345 345) = true := by decide +kernel
theorem kcdL2_1726 : (cdL_1726 ++ cdL_h).all (am_chk am_w345 345) = true := by
  simp only [List.all_append, kcdL_1726, kcdL_h, Bool.and_self]
def sL_1726 (z : Nat) : Nat → List aV → aM → Option aR := fun j => (match Nat.beq j 139 with
  | true => F139 z
  | false => (match Nat.beq j 297 with
  | true => F297 z
  | false => (fun _ _ => none)))
theorem hsL_1726 (z : Nat) : ∀ j2 : Nat, ∃ d2 : Nat, d2 + 1 ≤ 14 ∧ am_Snd d2 j2 (sL_1726 z j2) := by
  intro j2
  unfold sL_1726
  split
  · rename_i he
    rw [am_beq he]
    exact ⟨_, by decide, S139 z⟩
  · skip
    split
    · rename_i he
      rw [am_beq he]
      exact ⟨_, by decide, S297 z⟩
    · skip
      exact ⟨0, by decide, am_Snd_no j2⟩
/-- the law, case [52] -/
def f345_1726 (z nL : Nat) (xs : Nat → Int32) (k18 : Int32 → aM → Option aR) : Nat → Int32 → aM → Option aR
  | 0, _, _ => none
  | n + 1, x3, M =>
    if am_inB (x3 + (1 : Int32)) nL then
      am_bi (f139 z (xs (x3 + (1 : Int32)).toNatClampNeg) M) fun v2 M1 =>
        if am_inB (x3 + (1 : Int32)) nL then
          am_bi (f297 z (xs (x3 + (1 : Int32)).toNatClampNeg) M1) fun v4 M3 =>
            if v2 = v4 then
              k18 (x3 + (6 : Int32)) M3
            else
              some (some (.inl ((0 : Int32) &&& 1)), M3)
        else
          none
    else
      none
set_option maxRecDepth 100000 in
set_option maxHeartbeats 4000000 in
theorem e345_1726 (z nL : Nat) (xs : Nat → Int32) {p : Program} {l : Launch} {e : Env} {R : Room} {s : State} {m : MethodId} {args : Array Value} {below : List Frame} {meth : Method} {c : Code} {C : aC} {Q : State → Prop} {ce sl : Nat} (F : am_F (some (nL, xs)) p R s m args c C 345 14 ce sl) (r : aR) (hR : am_HR p l e R s m args below meth c C 345 (am_ml 345) ce sl 1 Q r) (k18 : Int32 → aM → Option aR) (hk18 : ∀ (x3 : Int32) (M : aM), k18 x3 M = some r → am_Wd p l e R s m args below meth c C (am_ml 345) ce sl Q 18 [some (.inr (.inr (62, 5200))), some (.inr (.inr (10, 0))), some (.inr (.inr (11, 205))), some (.inl x3)] [] M) : ∀ (n : Nat) (x3 : Int32) (M : aM), f345_1726 z nL xs k18 n x3 M = some r → am_Wd p l e R s m args below meth c C (am_ml 345) ce sl Q 1726 [some (.inr (.inr (62, 5200))), some (.inr (.inr (10, 0))), some (.inr (.inr (11, 205))), some (.inl x3)] [] M := by
  intro n x3 M h
  cases n with
  | zero => cases h
  | succ n =>
    exact am_seg_ok (sws := am_w345) (sem := sL_1726 z) (cd := cdL_1726 ++ cdL_h) (cut := ([(18, [true, true, true, true])] : List (Nat × List Bool))) (kap := (fun pc al st M => (match Nat.beq pc 18 with
      | true => (match al, st with
        | [some (.inr (.inr (62, 5200))), some (.inr (.inr (10, 0))), some (.inr (.inr (11, 205))), some (.inl x3)], [] => k18 x3 M
        | _, _ => none)
      | false => none))) (hsL_1726 z) F hR kcdL2_1726 (by rw [am_l345]; decide) (fun pc al st M hk => by
      try dsimp only at hk
      split at hk
      · rename_i he
        rw [am_beq he]
        split at hk
        · exact hk18 _ _ hk
        · cases hk
      · cases hk) 19 1726 _ _ _ h
def cdL_1749 : List am_E := [(1749, .aload_n 1, 1, 1, 0, 0, 0), (1750, .invokevirtual 231, 3, 140, 10000, 0, 0), (1753, .aload_n 2, 1, 2, 0, 0, 0), (1754, .invokevirtual 234, 3, 298, 11000, 0, 0), (1757, .if_icmp .eq 674, 3, 2431, 0, 0, 0), (1760, .iconst 0, 1, 0, 0, 0, 0), (1761, .ireturn, 1, 0, 0, 0, 0)]
set_option maxRecDepth 100000 in
theorem kcdL_1749 : cdL_1749.all (am_chk am_w345 345) = true := by decide +kernel
theorem kcdL2_1749 : (cdL_1749 ++ cdL_h).all (am_chk am_w345 345) = true := by
  simp only [List.all_append, kcdL_1749, kcdL_h, Bool.and_self]
def sL_1749 (z : Nat) : Nat → List aV → aM → Option aR := fun j => (match Nat.beq j 140 with
  | true => F140 z
  | false => (match Nat.beq j 298 with
  | true => F298 z
  | false => (fun _ _ => none)))
theorem hsL_1749 (z : Nat) : ∀ j2 : Nat, ∃ d2 : Nat, d2 + 1 ≤ 14 ∧ am_Snd d2 j2 (sL_1749 z j2) := by
  intro j2
  unfold sL_1749
  split
  · rename_i he
    rw [am_beq he]
    exact ⟨_, by decide, S140 z⟩
  · skip
    split
    · rename_i he
      rw [am_beq he]
      exact ⟨_, by decide, S298 z⟩
    · skip
      exact ⟨0, by decide, am_Snd_no j2⟩
/-- the law, case [53] -/
def f345_1749 (z nL : Nat) (xs : Nat → Int32) (k18 : Int32 → aM → Option aR) : Nat → Int32 → aM → Option aR
  | 0, _, _ => none
  | n + 1, x3, M =>
    am_bi (f140 z M) fun v2 M1 =>
      am_bi (f298 z M1) fun v4 M3 =>
        if v2 = v4 then
          k18 (x3 + (6 : Int32)) M3
        else
          some (some (.inl ((0 : Int32) &&& 1)), M3)
set_option maxRecDepth 100000 in
set_option maxHeartbeats 4000000 in
theorem e345_1749 (z nL : Nat) (xs : Nat → Int32) {p : Program} {l : Launch} {e : Env} {R : Room} {s : State} {m : MethodId} {args : Array Value} {below : List Frame} {meth : Method} {c : Code} {C : aC} {Q : State → Prop} {ce sl : Nat} (F : am_F (some (nL, xs)) p R s m args c C 345 14 ce sl) (r : aR) (hR : am_HR p l e R s m args below meth c C 345 (am_ml 345) ce sl 1 Q r) (k18 : Int32 → aM → Option aR) (hk18 : ∀ (x3 : Int32) (M : aM), k18 x3 M = some r → am_Wd p l e R s m args below meth c C (am_ml 345) ce sl Q 18 [some (.inr (.inr (62, 5200))), some (.inr (.inr (10, 0))), some (.inr (.inr (11, 205))), some (.inl x3)] [] M) : ∀ (n : Nat) (x3 : Int32) (M : aM), f345_1749 z nL xs k18 n x3 M = some r → am_Wd p l e R s m args below meth c C (am_ml 345) ce sl Q 1749 [some (.inr (.inr (62, 5200))), some (.inr (.inr (10, 0))), some (.inr (.inr (11, 205))), some (.inl x3)] [] M := by
  intro n x3 M h
  cases n with
  | zero => cases h
  | succ n =>
    exact am_seg_ok (sws := am_w345) (sem := sL_1749 z) (cd := cdL_1749 ++ cdL_h) (cut := ([(18, [true, true, true, true])] : List (Nat × List Bool))) (kap := (fun pc al st M => (match Nat.beq pc 18 with
      | true => (match al, st with
        | [some (.inr (.inr (62, 5200))), some (.inr (.inr (10, 0))), some (.inr (.inr (11, 205))), some (.inl x3)], [] => k18 x3 M
        | _, _ => none)
      | false => none))) (hsL_1749 z) F hR kcdL2_1749 (by rw [am_l345]; decide) (fun pc al st M hk => by
      try dsimp only at hk
      split at hk
      · rename_i he
        rw [am_beq he]
        split at hk
        · exact hk18 _ _ hk
        · cases hk
      · cases hk) 9 1749 _ _ _ h
def cdL_1762 : List am_E := [(1762, .aload_n 1, 1, 1, 0, 0, 0), (1763, .aload_n 0, 1, 0, 0, 0, 0), (1764, .iload_n 3, 1, 3, 0, 0, 0), (1765, .iconst 1, 1, 0, 0, 1, 0), (1766, .iadd, 1, 0, 0, 0, 0), (1767, .iaload, 1, 0, 0, 0, 0), (1768, .invokevirtual 235, 3, 141, 10010, 0, 0), (1771, .aload_n 2, 1, 2, 0, 0, 0), (1772, .aload_n 0, 1, 0, 0, 0, 0), (1773, .iload_n 3, 1, 3, 0, 0, 0), (1774, .iconst 1, 1, 0, 0, 1, 0), (1775, .iadd, 1, 0, 0, 0, 0), (1776, .iaload, 1, 0, 0, 0, 0), (1777, .invokevirtual 238, 3, 300, 11010, 0, 0), (1780, .if_icmp .eq 651, 3, 2431, 0, 0, 0), (1783, .iconst 0, 1, 0, 0, 0, 0), (1784, .ireturn, 1, 0, 0, 0, 0)]
set_option maxRecDepth 100000 in
theorem kcdL_1762 : cdL_1762.all (am_chk am_w345 345) = true := by decide +kernel
theorem kcdL2_1762 : (cdL_1762 ++ cdL_h).all (am_chk am_w345 345) = true := by
  simp only [List.all_append, kcdL_1762, kcdL_h, Bool.and_self]
def sL_1762 (z : Nat) : Nat → List aV → aM → Option aR := fun j => (match Nat.beq j 141 with
  | true => F141 z
  | false => (match Nat.beq j 300 with
  | true => F300 z
  | false => (fun _ _ => none)))
theorem hsL_1762 (z : Nat) : ∀ j2 : Nat, ∃ d2 : Nat, d2 + 1 ≤ 14 ∧ am_Snd d2 j2 (sL_1762 z j2) := by
  intro j2
  unfold sL_1762
  split
  · rename_i he
    rw [am_beq he]
    exact ⟨_, by decide, S141 z⟩
  · skip
    split
    · rename_i he
      rw [am_beq he]
      exact ⟨_, by decide, S300 z⟩
    · skip
      exact ⟨0, by decide, am_Snd_no j2⟩
/-- the law, case [54] -/
def f345_1762 (z nL : Nat) (xs : Nat → Int32) (k18 : Int32 → aM → Option aR) : Nat → Int32 → aM → Option aR
  | 0, _, _ => none
  | n + 1, x3, M =>
    if am_inB (x3 + (1 : Int32)) nL then
      am_bi (f141 z (xs (x3 + (1 : Int32)).toNatClampNeg) M) fun v2 M1 =>
        if am_inB (x3 + (1 : Int32)) nL then
          am_bi (f300 z (xs (x3 + (1 : Int32)).toNatClampNeg) M1) fun v4 M3 =>
            if v2 = v4 then
              k18 (x3 + (6 : Int32)) M3
            else
              some (some (.inl ((0 : Int32) &&& 1)), M3)
        else
          none
    else
      none
set_option maxRecDepth 100000 in
set_option maxHeartbeats 4000000 in
theorem e345_1762 (z nL : Nat) (xs : Nat → Int32) {p : Program} {l : Launch} {e : Env} {R : Room} {s : State} {m : MethodId} {args : Array Value} {below : List Frame} {meth : Method} {c : Code} {C : aC} {Q : State → Prop} {ce sl : Nat} (F : am_F (some (nL, xs)) p R s m args c C 345 14 ce sl) (r : aR) (hR : am_HR p l e R s m args below meth c C 345 (am_ml 345) ce sl 1 Q r) (k18 : Int32 → aM → Option aR) (hk18 : ∀ (x3 : Int32) (M : aM), k18 x3 M = some r → am_Wd p l e R s m args below meth c C (am_ml 345) ce sl Q 18 [some (.inr (.inr (62, 5200))), some (.inr (.inr (10, 0))), some (.inr (.inr (11, 205))), some (.inl x3)] [] M) : ∀ (n : Nat) (x3 : Int32) (M : aM), f345_1762 z nL xs k18 n x3 M = some r → am_Wd p l e R s m args below meth c C (am_ml 345) ce sl Q 1762 [some (.inr (.inr (62, 5200))), some (.inr (.inr (10, 0))), some (.inr (.inr (11, 205))), some (.inl x3)] [] M := by
  intro n x3 M h
  cases n with
  | zero => cases h
  | succ n =>
    exact am_seg_ok (sws := am_w345) (sem := sL_1762 z) (cd := cdL_1762 ++ cdL_h) (cut := ([(18, [true, true, true, true])] : List (Nat × List Bool))) (kap := (fun pc al st M => (match Nat.beq pc 18 with
      | true => (match al, st with
        | [some (.inr (.inr (62, 5200))), some (.inr (.inr (10, 0))), some (.inr (.inr (11, 205))), some (.inl x3)], [] => k18 x3 M
        | _, _ => none)
      | false => none))) (hsL_1762 z) F hR kcdL2_1762 (by rw [am_l345]; decide) (fun pc al st M hk => by
      try dsimp only at hk
      split at hk
      · rename_i he
        rw [am_beq he]
        split at hk
        · exact hk18 _ _ hk
        · cases hk
      · cases hk) 19 1762 _ _ _ h
def cdL_1785 : List am_E := [(1785, .aload_n 1, 1, 1, 0, 0, 0), (1786, .aload_n 0, 1, 0, 0, 0, 0), (1787, .iload_n 3, 1, 3, 0, 0, 0), (1788, .iconst 1, 1, 0, 0, 1, 0), (1789, .iadd, 1, 0, 0, 0, 0), (1790, .iaload, 1, 0, 0, 0, 0), (1791, .aload_n 0, 1, 0, 0, 0, 0), (1792, .iload_n 3, 1, 3, 0, 0, 0), (1793, .iconst 2, 1, 0, 0, 2, 0), (1794, .iadd, 1, 0, 0, 0, 0), (1795, .iaload, 1, 0, 0, 0, 0), (1796, .invokevirtual 239, 3, 142, 10020, 0, 0), (1799, .aload_n 2, 1, 2, 0, 0, 0), (1800, .aload_n 0, 1, 0, 0, 0, 0), (1801, .iload_n 3, 1, 3, 0, 0, 0), (1802, .iconst 1, 1, 0, 0, 1, 0), (1803, .iadd, 1, 0, 0, 0, 0), (1804, .iaload, 1, 0, 0, 0, 0), (1805, .aload_n 0, 1, 0, 0, 0, 0), (1806, .iload_n 3, 1, 3, 0, 0, 0), (1807, .iconst 2, 1, 0, 0, 2, 0), (1808, .iadd, 1, 0, 0, 0, 0), (1809, .iaload, 1, 0, 0, 0, 0), (1810, .invokevirtual 242, 3, 304, 11020, 0, 0), (1813, .if_icmp .eq 618, 3, 2431, 0, 0, 0), (1816, .iconst 0, 1, 0, 0, 0, 0), (1817, .ireturn, 1, 0, 0, 0, 0)]
set_option maxRecDepth 100000 in
theorem kcdL_1785 : cdL_1785.all (am_chk am_w345 345) = true := by decide +kernel
theorem kcdL2_1785 : (cdL_1785 ++ cdL_h).all (am_chk am_w345 345) = true := by
  simp only [List.all_append, kcdL_1785, kcdL_h, Bool.and_self]
def sL_1785 (z : Nat) : Nat → List aV → aM → Option aR := fun j => (match Nat.beq j 142 with
  | true => F142 z
  | false => (match Nat.beq j 304 with
  | true => F304 z
  | false => (fun _ _ => none)))
theorem hsL_1785 (z : Nat) : ∀ j2 : Nat, ∃ d2 : Nat, d2 + 1 ≤ 14 ∧ am_Snd d2 j2 (sL_1785 z j2) := by
  intro j2
  unfold sL_1785
  split
  · rename_i he
    rw [am_beq he]
    exact ⟨_, by decide, S142 z⟩
  · skip
    split
    · rename_i he
      rw [am_beq he]
      exact ⟨_, by decide, S304 z⟩
    · skip
      exact ⟨0, by decide, am_Snd_no j2⟩
/-- the law, case [55] -/
def f345_1785 (z nL : Nat) (xs : Nat → Int32) (k18 : Int32 → aM → Option aR) : Nat → Int32 → aM → Option aR
  | 0, _, _ => none
  | n + 1, x3, M =>
    if am_inB (x3 + (1 : Int32)) nL then
      if am_inB (x3 + (2 : Int32)) nL then
        am_bi (f142 z (xs (x3 + (1 : Int32)).toNatClampNeg) (xs (x3 + (2 : Int32)).toNatClampNeg) M) fun v2 M1 =>
          if am_inB (x3 + (1 : Int32)) nL then
            if am_inB (x3 + (2 : Int32)) nL then
              am_bi (f304 z (xs (x3 + (1 : Int32)).toNatClampNeg) (xs (x3 + (2 : Int32)).toNatClampNeg) M1) fun v4 M3 =>
                if v2 = v4 then
                  k18 (x3 + (6 : Int32)) M3
                else
                  some (some (.inl ((0 : Int32) &&& 1)), M3)
            else
              none
          else
            none
      else
        none
    else
      none
set_option maxRecDepth 100000 in
set_option maxHeartbeats 4000000 in
theorem e345_1785 (z nL : Nat) (xs : Nat → Int32) {p : Program} {l : Launch} {e : Env} {R : Room} {s : State} {m : MethodId} {args : Array Value} {below : List Frame} {meth : Method} {c : Code} {C : aC} {Q : State → Prop} {ce sl : Nat} (F : am_F (some (nL, xs)) p R s m args c C 345 14 ce sl) (r : aR) (hR : am_HR p l e R s m args below meth c C 345 (am_ml 345) ce sl 1 Q r) (k18 : Int32 → aM → Option aR) (hk18 : ∀ (x3 : Int32) (M : aM), k18 x3 M = some r → am_Wd p l e R s m args below meth c C (am_ml 345) ce sl Q 18 [some (.inr (.inr (62, 5200))), some (.inr (.inr (10, 0))), some (.inr (.inr (11, 205))), some (.inl x3)] [] M) : ∀ (n : Nat) (x3 : Int32) (M : aM), f345_1785 z nL xs k18 n x3 M = some r → am_Wd p l e R s m args below meth c C (am_ml 345) ce sl Q 1785 [some (.inr (.inr (62, 5200))), some (.inr (.inr (10, 0))), some (.inr (.inr (11, 205))), some (.inl x3)] [] M := by
  intro n x3 M h
  cases n with
  | zero => cases h
  | succ n =>
    exact am_seg_ok (sws := am_w345) (sem := sL_1785 z) (cd := cdL_1785 ++ cdL_h) (cut := ([(18, [true, true, true, true])] : List (Nat × List Bool))) (kap := (fun pc al st M => (match Nat.beq pc 18 with
      | true => (match al, st with
        | [some (.inr (.inr (62, 5200))), some (.inr (.inr (10, 0))), some (.inr (.inr (11, 205))), some (.inl x3)], [] => k18 x3 M
        | _, _ => none)
      | false => none))) (hsL_1785 z) F hR kcdL2_1785 (by rw [am_l345]; decide) (fun pc al st M hk => by
      try dsimp only at hk
      split at hk
      · rename_i he
        rw [am_beq he]
        split at hk
        · exact hk18 _ _ hk
        · cases hk
      · cases hk) 29 1785 _ _ _ h
def cdL_1818 : List am_E := [(1818, .aload_n 1, 1, 1, 0, 0, 0), (1819, .aload_n 0, 1, 0, 0, 0, 0), (1820, .iload_n 3, 1, 3, 0, 0, 0), (1821, .iconst 1, 1, 0, 0, 1, 0), (1822, .iadd, 1, 0, 0, 0, 0), (1823, .iaload, 1, 0, 0, 0, 0), (1824, .aload_n 0, 1, 0, 0, 0, 0), (1825, .iload_n 3, 1, 3, 0, 0, 0), (1826, .iconst 2, 1, 0, 0, 2, 0), (1827, .iadd, 1, 0, 0, 0, 0), (1828, .iaload, 1, 0, 0, 0, 0), (1829, .invokevirtual 243, 3, 144, 10020, 0, 0), (1832, .aload_n 2, 1, 2, 0, 0, 0), (1833, .aload_n 0, 1, 0, 0, 0, 0), (1834, .iload_n 3, 1, 3, 0, 0, 0), (1835, .iconst 1, 1, 0, 0, 1, 0), (1836, .iadd, 1, 0, 0, 0, 0), (1837, .iaload, 1, 0, 0, 0, 0), (1838, .aload_n 0, 1, 0, 0, 0, 0), (1839, .iload_n 3, 1, 3, 0, 0, 0), (1840, .iconst 2, 1, 0, 0, 2, 0), (1841, .iadd, 1, 0, 0, 0, 0), (1842, .iaload, 1, 0, 0, 0, 0), (1843, .invokevirtual 246, 3, 307, 11020, 0, 0), (1846, .if_icmp .eq 585, 3, 2431, 0, 0, 0), (1849, .iconst 0, 1, 0, 0, 0, 0), (1850, .ireturn, 1, 0, 0, 0, 0)]
set_option maxRecDepth 100000 in
theorem kcdL_1818 : cdL_1818.all (am_chk am_w345 345) = true := by decide +kernel
theorem kcdL2_1818 : (cdL_1818 ++ cdL_h).all (am_chk am_w345 345) = true := by
  simp only [List.all_append, kcdL_1818, kcdL_h, Bool.and_self]
def sL_1818 (z : Nat) : Nat → List aV → aM → Option aR := fun j => (match Nat.beq j 144 with
  | true => F144 z
  | false => (match Nat.beq j 307 with
  | true => F307 z
  | false => (fun _ _ => none)))
theorem hsL_1818 (z : Nat) : ∀ j2 : Nat, ∃ d2 : Nat, d2 + 1 ≤ 14 ∧ am_Snd d2 j2 (sL_1818 z j2) := by
  intro j2
  unfold sL_1818
  split
  · rename_i he
    rw [am_beq he]
    exact ⟨_, by decide, S144 z⟩
  · skip
    split
    · rename_i he
      rw [am_beq he]
      exact ⟨_, by decide, S307 z⟩
    · skip
      exact ⟨0, by decide, am_Snd_no j2⟩
/-- the law, case [56] -/
def f345_1818 (z nL : Nat) (xs : Nat → Int32) (k18 : Int32 → aM → Option aR) : Nat → Int32 → aM → Option aR
  | 0, _, _ => none
  | n + 1, x3, M =>
    if am_inB (x3 + (1 : Int32)) nL then
      if am_inB (x3 + (2 : Int32)) nL then
        am_bi (f144 z (xs (x3 + (1 : Int32)).toNatClampNeg) (xs (x3 + (2 : Int32)).toNatClampNeg) M) fun v2 M1 =>
          if am_inB (x3 + (1 : Int32)) nL then
            if am_inB (x3 + (2 : Int32)) nL then
              am_bi (f307 z (xs (x3 + (1 : Int32)).toNatClampNeg) (xs (x3 + (2 : Int32)).toNatClampNeg) M1) fun v4 M3 =>
                if v2 = v4 then
                  k18 (x3 + (6 : Int32)) M3
                else
                  some (some (.inl ((0 : Int32) &&& 1)), M3)
            else
              none
          else
            none
      else
        none
    else
      none
set_option maxRecDepth 100000 in
set_option maxHeartbeats 4000000 in
theorem e345_1818 (z nL : Nat) (xs : Nat → Int32) {p : Program} {l : Launch} {e : Env} {R : Room} {s : State} {m : MethodId} {args : Array Value} {below : List Frame} {meth : Method} {c : Code} {C : aC} {Q : State → Prop} {ce sl : Nat} (F : am_F (some (nL, xs)) p R s m args c C 345 14 ce sl) (r : aR) (hR : am_HR p l e R s m args below meth c C 345 (am_ml 345) ce sl 1 Q r) (k18 : Int32 → aM → Option aR) (hk18 : ∀ (x3 : Int32) (M : aM), k18 x3 M = some r → am_Wd p l e R s m args below meth c C (am_ml 345) ce sl Q 18 [some (.inr (.inr (62, 5200))), some (.inr (.inr (10, 0))), some (.inr (.inr (11, 205))), some (.inl x3)] [] M) : ∀ (n : Nat) (x3 : Int32) (M : aM), f345_1818 z nL xs k18 n x3 M = some r → am_Wd p l e R s m args below meth c C (am_ml 345) ce sl Q 1818 [some (.inr (.inr (62, 5200))), some (.inr (.inr (10, 0))), some (.inr (.inr (11, 205))), some (.inl x3)] [] M := by
  intro n x3 M h
  cases n with
  | zero => cases h
  | succ n =>
    exact am_seg_ok (sws := am_w345) (sem := sL_1818 z) (cd := cdL_1818 ++ cdL_h) (cut := ([(18, [true, true, true, true])] : List (Nat × List Bool))) (kap := (fun pc al st M => (match Nat.beq pc 18 with
      | true => (match al, st with
        | [some (.inr (.inr (62, 5200))), some (.inr (.inr (10, 0))), some (.inr (.inr (11, 205))), some (.inl x3)], [] => k18 x3 M
        | _, _ => none)
      | false => none))) (hsL_1818 z) F hR kcdL2_1818 (by rw [am_l345]; decide) (fun pc al st M hk => by
      try dsimp only at hk
      split at hk
      · rename_i he
        rw [am_beq he]
        split at hk
        · exact hk18 _ _ hk
        · cases hk
      · cases hk) 29 1818 _ _ _ h
def cdL_1851 : List am_E := [(1851, .aload_n 1, 1, 1, 0, 0, 0), (1852, .aload_n 0, 1, 0, 0, 0, 0), (1853, .iload_n 3, 1, 3, 0, 0, 0), (1854, .iconst 1, 1, 0, 0, 1, 0), (1855, .iadd, 1, 0, 0, 0, 0), (1856, .iaload, 1, 0, 0, 0, 0), (1857, .aload_n 0, 1, 0, 0, 0, 0), (1858, .iload_n 3, 1, 3, 0, 0, 0), (1859, .iconst 2, 1, 0, 0, 2, 0), (1860, .iadd, 1, 0, 0, 0, 0), (1861, .iaload, 1, 0, 0, 0, 0), (1862, .aload_n 0, 1, 0, 0, 0, 0), (1863, .iload_n 3, 1, 3, 0, 0, 0), (1864, .iconst 3, 1, 0, 0, 3, 0), (1865, .iadd, 1, 0, 0, 0, 0), (1866, .iaload, 1, 0, 0, 0, 0), (1867, .aload_n 0, 1, 0, 0, 0, 0), (1868, .iload_n 3, 1, 3, 0, 0, 0), (1869, .iconst 4, 1, 0, 0, 4, 0), (1870, .iadd, 1, 0, 0, 0, 0), (1871, .iaload, 1, 0, 0, 0, 0), (1872, .invokevirtual 247, 3, 145, 10040, 0, 0), (1875, .aload_n 2, 1, 2, 0, 0, 0), (1876, .aload_n 0, 1, 0, 0, 0, 0), (1877, .iload_n 3, 1, 3, 0, 0, 0), (1878, .iconst 1, 1, 0, 0, 1, 0), (1879, .iadd, 1, 0, 0, 0, 0), (1880, .iaload, 1, 0, 0, 0, 0), (1881, .aload_n 0, 1, 0, 0, 0, 0), (1882, .iload_n 3, 1, 3, 0, 0, 0), (1883, .iconst 2, 1, 0, 0, 2, 0), (1884, .iadd, 1, 0, 0, 0, 0), (1885, .iaload, 1, 0, 0, 0, 0), (1886, .aload_n 0, 1, 0, 0, 0, 0), (1887, .iload_n 3, 1, 3, 0, 0, 0), (1888, .iconst 3, 1, 0, 0, 3, 0), (1889, .iadd, 1, 0, 0, 0, 0), (1890, .iaload, 1, 0, 0, 0, 0), (1891, .aload_n 0, 1, 0, 0, 0, 0), (1892, .iload_n 3, 1, 3, 0, 0, 0), (1893, .iconst 4, 1, 0, 0, 4, 0), (1894, .iadd, 1, 0, 0, 0, 0), (1895, .iaload, 1, 0, 0, 0, 0), (1896, .invokevirtual 250, 3, 308, 11040, 0, 0), (1899, .if_icmp .eq 532, 3, 2431, 0, 0, 0), (1902, .iconst 0, 1, 0, 0, 0, 0), (1903, .ireturn, 1, 0, 0, 0, 0)]
set_option maxRecDepth 100000 in
theorem kcdL_1851 : cdL_1851.all (am_chk am_w345 345) = true := by decide +kernel
theorem kcdL2_1851 : (cdL_1851 ++ cdL_h).all (am_chk am_w345 345) = true := by
  simp only [List.all_append, kcdL_1851, kcdL_h, Bool.and_self]
def sL_1851 (z : Nat) : Nat → List aV → aM → Option aR := fun j => (match Nat.beq j 145 with
  | true => F145 z
  | false => (match Nat.beq j 308 with
  | true => F308 z
  | false => (fun _ _ => none)))
theorem hsL_1851 (z : Nat) : ∀ j2 : Nat, ∃ d2 : Nat, d2 + 1 ≤ 14 ∧ am_Snd d2 j2 (sL_1851 z j2) := by
  intro j2
  unfold sL_1851
  split
  · rename_i he
    rw [am_beq he]
    exact ⟨_, by decide, S145 z⟩
  · skip
    split
    · rename_i he
      rw [am_beq he]
      exact ⟨_, by decide, S308 z⟩
    · skip
      exact ⟨0, by decide, am_Snd_no j2⟩
/-- the law, case [57] -/
def f345_1851 (z nL : Nat) (xs : Nat → Int32) (k18 : Int32 → aM → Option aR) : Nat → Int32 → aM → Option aR
  | 0, _, _ => none
  | n + 1, x3, M =>
    if am_inB (x3 + (1 : Int32)) nL then
      if am_inB (x3 + (2 : Int32)) nL then
        if am_inB (x3 + (3 : Int32)) nL then
          if am_inB (x3 + (4 : Int32)) nL then
            am_bi (f145 z (xs (x3 + (1 : Int32)).toNatClampNeg) (xs (x3 + (2 : Int32)).toNatClampNeg) (xs (x3 + (3 : Int32)).toNatClampNeg) (xs (x3 + (4 : Int32)).toNatClampNeg) M) fun v2 M1 =>
              if am_inB (x3 + (1 : Int32)) nL then
                if am_inB (x3 + (2 : Int32)) nL then
                  if am_inB (x3 + (3 : Int32)) nL then
                    if am_inB (x3 + (4 : Int32)) nL then
                      am_bi (f308 z (xs (x3 + (1 : Int32)).toNatClampNeg) (xs (x3 + (2 : Int32)).toNatClampNeg) (xs (x3 + (3 : Int32)).toNatClampNeg) (xs (x3 + (4 : Int32)).toNatClampNeg) M1) fun v4 M3 =>
                        if v2 = v4 then
                          k18 (x3 + (6 : Int32)) M3
                        else
                          some (some (.inl ((0 : Int32) &&& 1)), M3)
                    else
                      none
                  else
                    none
                else
                  none
              else
                none
          else
            none
        else
          none
      else
        none
    else
      none
set_option maxRecDepth 100000 in
set_option maxHeartbeats 4000000 in
theorem e345_1851 (z nL : Nat) (xs : Nat → Int32) {p : Program} {l : Launch} {e : Env} {R : Room} {s : State} {m : MethodId} {args : Array Value} {below : List Frame} {meth : Method} {c : Code} {C : aC} {Q : State → Prop} {ce sl : Nat} (F : am_F (some (nL, xs)) p R s m args c C 345 14 ce sl) (r : aR) (hR : am_HR p l e R s m args below meth c C 345 (am_ml 345) ce sl 1 Q r) (k18 : Int32 → aM → Option aR) (hk18 : ∀ (x3 : Int32) (M : aM), k18 x3 M = some r → am_Wd p l e R s m args below meth c C (am_ml 345) ce sl Q 18 [some (.inr (.inr (62, 5200))), some (.inr (.inr (10, 0))), some (.inr (.inr (11, 205))), some (.inl x3)] [] M) : ∀ (n : Nat) (x3 : Int32) (M : aM), f345_1851 z nL xs k18 n x3 M = some r → am_Wd p l e R s m args below meth c C (am_ml 345) ce sl Q 1851 [some (.inr (.inr (62, 5200))), some (.inr (.inr (10, 0))), some (.inr (.inr (11, 205))), some (.inl x3)] [] M := by
  intro n x3 M h
  cases n with
  | zero => cases h
  | succ n =>
    exact am_seg_ok (sws := am_w345) (sem := sL_1851 z) (cd := cdL_1851 ++ cdL_h) (cut := ([(18, [true, true, true, true])] : List (Nat × List Bool))) (kap := (fun pc al st M => (match Nat.beq pc 18 with
      | true => (match al, st with
        | [some (.inr (.inr (62, 5200))), some (.inr (.inr (10, 0))), some (.inr (.inr (11, 205))), some (.inl x3)], [] => k18 x3 M
        | _, _ => none)
      | false => none))) (hsL_1851 z) F hR kcdL2_1851 (by rw [am_l345]; decide) (fun pc al st M hk => by
      try dsimp only at hk
      split at hk
      · rename_i he
        rw [am_beq he]
        split at hk
        · exact hk18 _ _ hk
        · cases hk
      · cases hk) 49 1851 _ _ _ h
def cdL_1904 : List am_E := [(1904, .aload_n 1, 1, 1, 0, 0, 0), (1905, .aload_n 0, 1, 0, 0, 0, 0), (1906, .iload_n 3, 1, 3, 0, 0, 0), (1907, .iconst 1, 1, 0, 0, 1, 0), (1908, .iadd, 1, 0, 0, 0, 0), (1909, .iaload, 1, 0, 0, 0, 0), (1910, .aload_n 0, 1, 0, 0, 0, 0), (1911, .iload_n 3, 1, 3, 0, 0, 0), (1912, .iconst 2, 1, 0, 0, 2, 0), (1913, .iadd, 1, 0, 0, 0, 0), (1914, .iaload, 1, 0, 0, 0, 0), (1915, .invokevirtual 251, 3, 146, 10022, 0, 0), (1918, .aload_n 2, 1, 2, 0, 0, 0), (1919, .aload_n 0, 1, 0, 0, 0, 0), (1920, .iload_n 3, 1, 3, 0, 0, 0), (1921, .iconst 1, 1, 0, 0, 1, 0), (1922, .iadd, 1, 0, 0, 0, 0), (1923, .iaload, 1, 0, 0, 0, 0), (1924, .aload_n 0, 1, 0, 0, 0, 0), (1925, .iload_n 3, 1, 3, 0, 0, 0), (1926, .iconst 2, 1, 0, 0, 2, 0), (1927, .iadd, 1, 0, 0, 0, 0), (1928, .iaload, 1, 0, 0, 0, 0), (1929, .invokevirtual 255, 3, 310, 11022, 0, 0), (1932, .lcmp, 1, 0, 0, 0, 0), (1933, .ifCond .eq 498, 3, 2431, 0, 0, 0), (1936, .iconst 0, 1, 0, 0, 0, 0), (1937, .ireturn, 1, 0, 0, 0, 0)]
set_option maxRecDepth 100000 in
theorem kcdL_1904 : cdL_1904.all (am_chk am_w345 345) = true := by decide +kernel
theorem kcdL2_1904 : (cdL_1904 ++ cdL_h).all (am_chk am_w345 345) = true := by
  simp only [List.all_append, kcdL_1904, kcdL_h, Bool.and_self]
def sL_1904 (z : Nat) : Nat → List aV → aM → Option aR := fun j => (match Nat.beq j 146 with
  | true => F146 z
  | false => (match Nat.beq j 310 with
  | true => F310 z
  | false => (fun _ _ => none)))
theorem hsL_1904 (z : Nat) : ∀ j2 : Nat, ∃ d2 : Nat, d2 + 1 ≤ 14 ∧ am_Snd d2 j2 (sL_1904 z j2) := by
  intro j2
  unfold sL_1904
  split
  · rename_i he
    rw [am_beq he]
    exact ⟨_, by decide, S146 z⟩
  · skip
    split
    · rename_i he
      rw [am_beq he]
      exact ⟨_, by decide, S310 z⟩
    · skip
      exact ⟨0, by decide, am_Snd_no j2⟩
/-- the law, case [58] -/
def f345_1904 (z nL : Nat) (xs : Nat → Int32) (k18 : Int32 → aM → Option aR) : Nat → Int32 → aM → Option aR
  | 0, _, _ => none
  | n + 1, x3, M =>
    if am_inB (x3 + (1 : Int32)) nL then
      if am_inB (x3 + (2 : Int32)) nL then
        am_bl (f146 z (xs (x3 + (1 : Int32)).toNatClampNeg) (xs (x3 + (2 : Int32)).toNatClampNeg) M) fun v2 M1 =>
          if am_inB (x3 + (1 : Int32)) nL then
            if am_inB (x3 + (2 : Int32)) nL then
              am_bl (f310 z (xs (x3 + (1 : Int32)).toNatClampNeg) (xs (x3 + (2 : Int32)).toNatClampNeg) M1) fun v4 M3 =>
                if (lg_cmp v2 v4) = 0 then
                  k18 (x3 + (6 : Int32)) M3
                else
                  some (some (.inl ((0 : Int32) &&& 1)), M3)
            else
              none
          else
            none
      else
        none
    else
      none
set_option maxRecDepth 100000 in
set_option maxHeartbeats 4000000 in
theorem e345_1904 (z nL : Nat) (xs : Nat → Int32) {p : Program} {l : Launch} {e : Env} {R : Room} {s : State} {m : MethodId} {args : Array Value} {below : List Frame} {meth : Method} {c : Code} {C : aC} {Q : State → Prop} {ce sl : Nat} (F : am_F (some (nL, xs)) p R s m args c C 345 14 ce sl) (r : aR) (hR : am_HR p l e R s m args below meth c C 345 (am_ml 345) ce sl 1 Q r) (k18 : Int32 → aM → Option aR) (hk18 : ∀ (x3 : Int32) (M : aM), k18 x3 M = some r → am_Wd p l e R s m args below meth c C (am_ml 345) ce sl Q 18 [some (.inr (.inr (62, 5200))), some (.inr (.inr (10, 0))), some (.inr (.inr (11, 205))), some (.inl x3)] [] M) : ∀ (n : Nat) (x3 : Int32) (M : aM), f345_1904 z nL xs k18 n x3 M = some r → am_Wd p l e R s m args below meth c C (am_ml 345) ce sl Q 1904 [some (.inr (.inr (62, 5200))), some (.inr (.inr (10, 0))), some (.inr (.inr (11, 205))), some (.inl x3)] [] M := by
  intro n x3 M h
  cases n with
  | zero => cases h
  | succ n =>
    exact am_seg_ok (sws := am_w345) (sem := sL_1904 z) (cd := cdL_1904 ++ cdL_h) (cut := ([(18, [true, true, true, true])] : List (Nat × List Bool))) (kap := (fun pc al st M => (match Nat.beq pc 18 with
      | true => (match al, st with
        | [some (.inr (.inr (62, 5200))), some (.inr (.inr (10, 0))), some (.inr (.inr (11, 205))), some (.inl x3)], [] => k18 x3 M
        | _, _ => none)
      | false => none))) (hsL_1904 z) F hR kcdL2_1904 (by rw [am_l345]; decide) (fun pc al st M hk => by
      try dsimp only at hk
      split at hk
      · rename_i he
        rw [am_beq he]
        split at hk
        · exact hk18 _ _ hk
        · cases hk
      · cases hk) 30 1904 _ _ _ h
def cdL_1938 : List am_E := [(1938, .aload_n 1, 1, 1, 0, 0, 0), (1939, .aload_n 0, 1, 0, 0, 0, 0), (1940, .iload_n 3, 1, 3, 0, 0, 0), (1941, .iconst 1, 1, 0, 0, 1, 0), (1942, .iadd, 1, 0, 0, 0, 0), (1943, .iaload, 1, 0, 0, 0, 0), (1944, .invokevirtual 256, 3, 147, 10012, 0, 0), (1947, .aload_n 2, 1, 2, 0, 0, 0), (1948, .aload_n 0, 1, 0, 0, 0, 0), (1949, .iload_n 3, 1, 3, 0, 0, 0), (1950, .iconst 1, 1, 0, 0, 1, 0), (1951, .iadd, 1, 0, 0, 0, 0), (1952, .iaload, 1, 0, 0, 0, 0), (1953, .invokevirtual 260, 3, 311, 11012, 0, 0), (1956, .lcmp, 1, 0, 0, 0, 0), (1957, .ifCond .eq 474, 3, 2431, 0, 0, 0), (1960, .iconst 0, 1, 0, 0, 0, 0), (1961, .ireturn, 1, 0, 0, 0, 0)]
set_option maxRecDepth 100000 in
theorem kcdL_1938 : cdL_1938.all (am_chk am_w345 345) = true := by decide +kernel
theorem kcdL2_1938 : (cdL_1938 ++ cdL_h).all (am_chk am_w345 345) = true := by
  simp only [List.all_append, kcdL_1938, kcdL_h, Bool.and_self]
def sL_1938 (z : Nat) : Nat → List aV → aM → Option aR := fun j => (match Nat.beq j 147 with
  | true => F147 z
  | false => (match Nat.beq j 311 with
  | true => F311 z
  | false => (fun _ _ => none)))
theorem hsL_1938 (z : Nat) : ∀ j2 : Nat, ∃ d2 : Nat, d2 + 1 ≤ 14 ∧ am_Snd d2 j2 (sL_1938 z j2) := by
  intro j2
  unfold sL_1938
  split
  · rename_i he
    rw [am_beq he]
    exact ⟨_, by decide, S147 z⟩
  · skip
    split
    · rename_i he
      rw [am_beq he]
      exact ⟨_, by decide, S311 z⟩
    · skip
      exact ⟨0, by decide, am_Snd_no j2⟩
/-- the law, case [59] -/
def f345_1938 (z nL : Nat) (xs : Nat → Int32) (k18 : Int32 → aM → Option aR) : Nat → Int32 → aM → Option aR
  | 0, _, _ => none
  | n + 1, x3, M =>
    if am_inB (x3 + (1 : Int32)) nL then
      am_bl (f147 z (xs (x3 + (1 : Int32)).toNatClampNeg) M) fun v2 M1 =>
        if am_inB (x3 + (1 : Int32)) nL then
          am_bl (f311 z (xs (x3 + (1 : Int32)).toNatClampNeg) M1) fun v4 M3 =>
            if (lg_cmp v2 v4) = 0 then
              k18 (x3 + (6 : Int32)) M3
            else
              some (some (.inl ((0 : Int32) &&& 1)), M3)
        else
          none
    else
      none
set_option maxRecDepth 100000 in
set_option maxHeartbeats 4000000 in
theorem e345_1938 (z nL : Nat) (xs : Nat → Int32) {p : Program} {l : Launch} {e : Env} {R : Room} {s : State} {m : MethodId} {args : Array Value} {below : List Frame} {meth : Method} {c : Code} {C : aC} {Q : State → Prop} {ce sl : Nat} (F : am_F (some (nL, xs)) p R s m args c C 345 14 ce sl) (r : aR) (hR : am_HR p l e R s m args below meth c C 345 (am_ml 345) ce sl 1 Q r) (k18 : Int32 → aM → Option aR) (hk18 : ∀ (x3 : Int32) (M : aM), k18 x3 M = some r → am_Wd p l e R s m args below meth c C (am_ml 345) ce sl Q 18 [some (.inr (.inr (62, 5200))), some (.inr (.inr (10, 0))), some (.inr (.inr (11, 205))), some (.inl x3)] [] M) : ∀ (n : Nat) (x3 : Int32) (M : aM), f345_1938 z nL xs k18 n x3 M = some r → am_Wd p l e R s m args below meth c C (am_ml 345) ce sl Q 1938 [some (.inr (.inr (62, 5200))), some (.inr (.inr (10, 0))), some (.inr (.inr (11, 205))), some (.inl x3)] [] M := by
  intro n x3 M h
  cases n with
  | zero => cases h
  | succ n =>
    exact am_seg_ok (sws := am_w345) (sem := sL_1938 z) (cd := cdL_1938 ++ cdL_h) (cut := ([(18, [true, true, true, true])] : List (Nat × List Bool))) (kap := (fun pc al st M => (match Nat.beq pc 18 with
      | true => (match al, st with
        | [some (.inr (.inr (62, 5200))), some (.inr (.inr (10, 0))), some (.inr (.inr (11, 205))), some (.inl x3)], [] => k18 x3 M
        | _, _ => none)
      | false => none))) (hsL_1938 z) F hR kcdL2_1938 (by rw [am_l345]; decide) (fun pc al st M hk => by
      try dsimp only at hk
      split at hk
      · rename_i he
        rw [am_beq he]
        split at hk
        · exact hk18 _ _ hk
        · cases hk
      · cases hk) 20 1938 _ _ _ h
def cdL_1962 : List am_E := [(1962, .aload_n 1, 1, 1, 0, 0, 0), (1963, .aload_n 0, 1, 0, 0, 0, 0), (1964, .iload_n 3, 1, 3, 0, 0, 0), (1965, .iconst 1, 1, 0, 0, 1, 0), (1966, .iadd, 1, 0, 0, 0, 0), (1967, .iaload, 1, 0, 0, 0, 0), (1968, .aload_n 0, 1, 0, 0, 0, 0), (1969, .iload_n 3, 1, 3, 0, 0, 0), (1970, .iconst 2, 1, 0, 0, 2, 0), (1971, .iadd, 1, 0, 0, 0, 0), (1972, .iaload, 1, 0, 0, 0, 0), (1973, .aload_n 0, 1, 0, 0, 0, 0), (1974, .iload_n 3, 1, 3, 0, 0, 0), (1975, .iconst 3, 1, 0, 0, 3, 0), (1976, .iadd, 1, 0, 0, 0, 0), (1977, .iaload, 1, 0, 0, 0, 0), (1978, .invokevirtual 261, 3, 151, 10030, 0, 0), (1981, .aload_n 2, 1, 2, 0, 0, 0), (1982, .aload_n 0, 1, 0, 0, 0, 0), (1983, .iload_n 3, 1, 3, 0, 0, 0), (1984, .iconst 1, 1, 0, 0, 1, 0), (1985, .iadd, 1, 0, 0, 0, 0), (1986, .iaload, 1, 0, 0, 0, 0), (1987, .aload_n 0, 1, 0, 0, 0, 0), (1988, .iload_n 3, 1, 3, 0, 0, 0), (1989, .iconst 2, 1, 0, 0, 2, 0), (1990, .iadd, 1, 0, 0, 0, 0), (1991, .iaload, 1, 0, 0, 0, 0), (1992, .aload_n 0, 1, 0, 0, 0, 0), (1993, .iload_n 3, 1, 3, 0, 0, 0), (1994, .iconst 3, 1, 0, 0, 3, 0), (1995, .iadd, 1, 0, 0, 0, 0), (1996, .iaload, 1, 0, 0, 0, 0), (1997, .invokevirtual 264, 3, 313, 11030, 0, 0), (2000, .if_icmp .eq 431, 3, 2431, 0, 0, 0), (2003, .iconst 0, 1, 0, 0, 0, 0), (2004, .ireturn, 1, 0, 0, 0, 0)]
set_option maxRecDepth 100000 in
theorem kcdL_1962 : cdL_1962.all (am_chk am_w345 345) = true := by decide +kernel
theorem kcdL2_1962 : (cdL_1962 ++ cdL_h).all (am_chk am_w345 345) = true := by
  simp only [List.all_append, kcdL_1962, kcdL_h, Bool.and_self]
def sL_1962 (z : Nat) : Nat → List aV → aM → Option aR := fun j => (match Nat.beq j 151 with
  | true => F151 z
  | false => (match Nat.beq j 313 with
  | true => F313 z
  | false => (fun _ _ => none)))
theorem hsL_1962 (z : Nat) : ∀ j2 : Nat, ∃ d2 : Nat, d2 + 1 ≤ 14 ∧ am_Snd d2 j2 (sL_1962 z j2) := by
  intro j2
  unfold sL_1962
  split
  · rename_i he
    rw [am_beq he]
    exact ⟨_, by decide, S151 z⟩
  · skip
    split
    · rename_i he
      rw [am_beq he]
      exact ⟨_, by decide, S313 z⟩
    · skip
      exact ⟨0, by decide, am_Snd_no j2⟩
/-- the law, case [60] -/
def f345_1962 (z nL : Nat) (xs : Nat → Int32) (k18 : Int32 → aM → Option aR) : Nat → Int32 → aM → Option aR
  | 0, _, _ => none
  | n + 1, x3, M =>
    if am_inB (x3 + (1 : Int32)) nL then
      if am_inB (x3 + (2 : Int32)) nL then
        if am_inB (x3 + (3 : Int32)) nL then
          am_bi (f151 z (xs (x3 + (1 : Int32)).toNatClampNeg) (xs (x3 + (2 : Int32)).toNatClampNeg) (xs (x3 + (3 : Int32)).toNatClampNeg) M) fun v2 M1 =>
            if am_inB (x3 + (1 : Int32)) nL then
              if am_inB (x3 + (2 : Int32)) nL then
                if am_inB (x3 + (3 : Int32)) nL then
                  am_bi (f313 z (xs (x3 + (1 : Int32)).toNatClampNeg) (xs (x3 + (2 : Int32)).toNatClampNeg) (xs (x3 + (3 : Int32)).toNatClampNeg) M1) fun v4 M3 =>
                    if v2 = v4 then
                      k18 (x3 + (6 : Int32)) M3
                    else
                      some (some (.inl ((0 : Int32) &&& 1)), M3)
                else
                  none
              else
                none
            else
              none
        else
          none
      else
        none
    else
      none
set_option maxRecDepth 100000 in
set_option maxHeartbeats 4000000 in
theorem e345_1962 (z nL : Nat) (xs : Nat → Int32) {p : Program} {l : Launch} {e : Env} {R : Room} {s : State} {m : MethodId} {args : Array Value} {below : List Frame} {meth : Method} {c : Code} {C : aC} {Q : State → Prop} {ce sl : Nat} (F : am_F (some (nL, xs)) p R s m args c C 345 14 ce sl) (r : aR) (hR : am_HR p l e R s m args below meth c C 345 (am_ml 345) ce sl 1 Q r) (k18 : Int32 → aM → Option aR) (hk18 : ∀ (x3 : Int32) (M : aM), k18 x3 M = some r → am_Wd p l e R s m args below meth c C (am_ml 345) ce sl Q 18 [some (.inr (.inr (62, 5200))), some (.inr (.inr (10, 0))), some (.inr (.inr (11, 205))), some (.inl x3)] [] M) : ∀ (n : Nat) (x3 : Int32) (M : aM), f345_1962 z nL xs k18 n x3 M = some r → am_Wd p l e R s m args below meth c C (am_ml 345) ce sl Q 1962 [some (.inr (.inr (62, 5200))), some (.inr (.inr (10, 0))), some (.inr (.inr (11, 205))), some (.inl x3)] [] M := by
  intro n x3 M h
  cases n with
  | zero => cases h
  | succ n =>
    exact am_seg_ok (sws := am_w345) (sem := sL_1962 z) (cd := cdL_1962 ++ cdL_h) (cut := ([(18, [true, true, true, true])] : List (Nat × List Bool))) (kap := (fun pc al st M => (match Nat.beq pc 18 with
      | true => (match al, st with
        | [some (.inr (.inr (62, 5200))), some (.inr (.inr (10, 0))), some (.inr (.inr (11, 205))), some (.inl x3)], [] => k18 x3 M
        | _, _ => none)
      | false => none))) (hsL_1962 z) F hR kcdL2_1962 (by rw [am_l345]; decide) (fun pc al st M hk => by
      try dsimp only at hk
      split at hk
      · rename_i he
        rw [am_beq he]
        split at hk
        · exact hk18 _ _ hk
        · cases hk
      · cases hk) 39 1962 _ _ _ h
def cdL_2005 : List am_E := [(2005, .aload_n 1, 1, 1, 0, 0, 0), (2006, .aload_n 0, 1, 0, 0, 0, 0), (2007, .iload_n 3, 1, 3, 0, 0, 0), (2008, .iconst 1, 1, 0, 0, 1, 0), (2009, .iadd, 1, 0, 0, 0, 0), (2010, .iaload, 1, 0, 0, 0, 0), (2011, .aload_n 0, 1, 0, 0, 0, 0), (2012, .iload_n 3, 1, 3, 0, 0, 0), (2013, .iconst 2, 1, 0, 0, 2, 0), (2014, .iadd, 1, 0, 0, 0, 0), (2015, .iaload, 1, 0, 0, 0, 0), (2016, .aload_n 0, 1, 0, 0, 0, 0), (2017, .iload_n 3, 1, 3, 0, 0, 0), (2018, .iconst 3, 1, 0, 0, 3, 0), (2019, .iadd, 1, 0, 0, 0, 0), (2020, .iaload, 1, 0, 0, 0, 0), (2021, .invokevirtual 265, 3, 152, 10030, 0, 0), (2024, .aload_n 2, 1, 2, 0, 0, 0), (2025, .aload_n 0, 1, 0, 0, 0, 0), (2026, .iload_n 3, 1, 3, 0, 0, 0), (2027, .iconst 1, 1, 0, 0, 1, 0), (2028, .iadd, 1, 0, 0, 0, 0), (2029, .iaload, 1, 0, 0, 0, 0), (2030, .aload_n 0, 1, 0, 0, 0, 0), (2031, .iload_n 3, 1, 3, 0, 0, 0), (2032, .iconst 2, 1, 0, 0, 2, 0), (2033, .iadd, 1, 0, 0, 0, 0), (2034, .iaload, 1, 0, 0, 0, 0), (2035, .aload_n 0, 1, 0, 0, 0, 0), (2036, .iload_n 3, 1, 3, 0, 0, 0), (2037, .iconst 3, 1, 0, 0, 3, 0), (2038, .iadd, 1, 0, 0, 0, 0), (2039, .iaload, 1, 0, 0, 0, 0), (2040, .invokevirtual 268, 3, 314, 11030, 0, 0), (2043, .if_icmp .eq 388, 3, 2431, 0, 0, 0), (2046, .iconst 0, 1, 0, 0, 0, 0), (2047, .ireturn, 1, 0, 0, 0, 0)]
set_option maxRecDepth 100000 in
theorem kcdL_2005 : cdL_2005.all (am_chk am_w345 345) = true := by decide +kernel
theorem kcdL2_2005 : (cdL_2005 ++ cdL_h).all (am_chk am_w345 345) = true := by
  simp only [List.all_append, kcdL_2005, kcdL_h, Bool.and_self]
def sL_2005 (z : Nat) : Nat → List aV → aM → Option aR := fun j => (match Nat.beq j 152 with
  | true => F152 z
  | false => (match Nat.beq j 314 with
  | true => F314 z
  | false => (fun _ _ => none)))
theorem hsL_2005 (z : Nat) : ∀ j2 : Nat, ∃ d2 : Nat, d2 + 1 ≤ 14 ∧ am_Snd d2 j2 (sL_2005 z j2) := by
  intro j2
  unfold sL_2005
  split
  · rename_i he
    rw [am_beq he]
    exact ⟨_, by decide, S152 z⟩
  · skip
    split
    · rename_i he
      rw [am_beq he]
      exact ⟨_, by decide, S314 z⟩
    · skip
      exact ⟨0, by decide, am_Snd_no j2⟩
/-- the law, case [61] -/
def f345_2005 (z nL : Nat) (xs : Nat → Int32) (k18 : Int32 → aM → Option aR) : Nat → Int32 → aM → Option aR
  | 0, _, _ => none
  | n + 1, x3, M =>
    if am_inB (x3 + (1 : Int32)) nL then
      if am_inB (x3 + (2 : Int32)) nL then
        if am_inB (x3 + (3 : Int32)) nL then
          am_bi (f152 z (xs (x3 + (1 : Int32)).toNatClampNeg) (xs (x3 + (2 : Int32)).toNatClampNeg) (xs (x3 + (3 : Int32)).toNatClampNeg) M) fun v2 M1 =>
            if am_inB (x3 + (1 : Int32)) nL then
              if am_inB (x3 + (2 : Int32)) nL then
                if am_inB (x3 + (3 : Int32)) nL then
                  am_bi (f314 z (xs (x3 + (1 : Int32)).toNatClampNeg) (xs (x3 + (2 : Int32)).toNatClampNeg) (xs (x3 + (3 : Int32)).toNatClampNeg) M1) fun v4 M3 =>
                    if v2 = v4 then
                      k18 (x3 + (6 : Int32)) M3
                    else
                      some (some (.inl ((0 : Int32) &&& 1)), M3)
                else
                  none
              else
                none
            else
              none
        else
          none
      else
        none
    else
      none
set_option maxRecDepth 100000 in
set_option maxHeartbeats 4000000 in
theorem e345_2005 (z nL : Nat) (xs : Nat → Int32) {p : Program} {l : Launch} {e : Env} {R : Room} {s : State} {m : MethodId} {args : Array Value} {below : List Frame} {meth : Method} {c : Code} {C : aC} {Q : State → Prop} {ce sl : Nat} (F : am_F (some (nL, xs)) p R s m args c C 345 14 ce sl) (r : aR) (hR : am_HR p l e R s m args below meth c C 345 (am_ml 345) ce sl 1 Q r) (k18 : Int32 → aM → Option aR) (hk18 : ∀ (x3 : Int32) (M : aM), k18 x3 M = some r → am_Wd p l e R s m args below meth c C (am_ml 345) ce sl Q 18 [some (.inr (.inr (62, 5200))), some (.inr (.inr (10, 0))), some (.inr (.inr (11, 205))), some (.inl x3)] [] M) : ∀ (n : Nat) (x3 : Int32) (M : aM), f345_2005 z nL xs k18 n x3 M = some r → am_Wd p l e R s m args below meth c C (am_ml 345) ce sl Q 2005 [some (.inr (.inr (62, 5200))), some (.inr (.inr (10, 0))), some (.inr (.inr (11, 205))), some (.inl x3)] [] M := by
  intro n x3 M h
  cases n with
  | zero => cases h
  | succ n =>
    exact am_seg_ok (sws := am_w345) (sem := sL_2005 z) (cd := cdL_2005 ++ cdL_h) (cut := ([(18, [true, true, true, true])] : List (Nat × List Bool))) (kap := (fun pc al st M => (match Nat.beq pc 18 with
      | true => (match al, st with
        | [some (.inr (.inr (62, 5200))), some (.inr (.inr (10, 0))), some (.inr (.inr (11, 205))), some (.inl x3)], [] => k18 x3 M
        | _, _ => none)
      | false => none))) (hsL_2005 z) F hR kcdL2_2005 (by rw [am_l345]; decide) (fun pc al st M hk => by
      try dsimp only at hk
      split at hk
      · rename_i he
        rw [am_beq he]
        split at hk
        · exact hk18 _ _ hk
        · cases hk
      · cases hk) 39 2005 _ _ _ h
def cdL_2048 : List am_E := [(2048, .aload_n 1, 1, 1, 0, 0, 0), (2049, .invokevirtual 269, 3, 154, 10000, 0, 0), (2052, .aload_n 2, 1, 2, 0, 0, 0), (2053, .invokevirtual 272, 3, 315, 11000, 0, 0), (2056, .if_icmp .eq 375, 3, 2431, 0, 0, 0), (2059, .iconst 0, 1, 0, 0, 0, 0), (2060, .ireturn, 1, 0, 0, 0, 0)]
set_option maxRecDepth 100000 in
theorem kcdL_2048 : cdL_2048.all (am_chk am_w345 345) = true := by decide +kernel
theorem kcdL2_2048 : (cdL_2048 ++ cdL_h).all (am_chk am_w345 345) = true := by
  simp only [List.all_append, kcdL_2048, kcdL_h, Bool.and_self]
def sL_2048 (z : Nat) : Nat → List aV → aM → Option aR := fun j => (match Nat.beq j 154 with
  | true => F154 z
  | false => (match Nat.beq j 315 with
  | true => F315 z
  | false => (fun _ _ => none)))
theorem hsL_2048 (z : Nat) : ∀ j2 : Nat, ∃ d2 : Nat, d2 + 1 ≤ 14 ∧ am_Snd d2 j2 (sL_2048 z j2) := by
  intro j2
  unfold sL_2048
  split
  · rename_i he
    rw [am_beq he]
    exact ⟨_, by decide, S154 z⟩
  · skip
    split
    · rename_i he
      rw [am_beq he]
      exact ⟨_, by decide, S315 z⟩
    · skip
      exact ⟨0, by decide, am_Snd_no j2⟩
/-- the law, case [62] -/
def f345_2048 (z nL : Nat) (xs : Nat → Int32) (k18 : Int32 → aM → Option aR) : Nat → Int32 → aM → Option aR
  | 0, _, _ => none
  | n + 1, x3, M =>
    am_bi (f154 z M) fun v2 M1 =>
      am_bi (f315 z M1) fun v4 M3 =>
        if v2 = v4 then
          k18 (x3 + (6 : Int32)) M3
        else
          some (some (.inl ((0 : Int32) &&& 1)), M3)
set_option maxRecDepth 100000 in
set_option maxHeartbeats 4000000 in
theorem e345_2048 (z nL : Nat) (xs : Nat → Int32) {p : Program} {l : Launch} {e : Env} {R : Room} {s : State} {m : MethodId} {args : Array Value} {below : List Frame} {meth : Method} {c : Code} {C : aC} {Q : State → Prop} {ce sl : Nat} (F : am_F (some (nL, xs)) p R s m args c C 345 14 ce sl) (r : aR) (hR : am_HR p l e R s m args below meth c C 345 (am_ml 345) ce sl 1 Q r) (k18 : Int32 → aM → Option aR) (hk18 : ∀ (x3 : Int32) (M : aM), k18 x3 M = some r → am_Wd p l e R s m args below meth c C (am_ml 345) ce sl Q 18 [some (.inr (.inr (62, 5200))), some (.inr (.inr (10, 0))), some (.inr (.inr (11, 205))), some (.inl x3)] [] M) : ∀ (n : Nat) (x3 : Int32) (M : aM), f345_2048 z nL xs k18 n x3 M = some r → am_Wd p l e R s m args below meth c C (am_ml 345) ce sl Q 2048 [some (.inr (.inr (62, 5200))), some (.inr (.inr (10, 0))), some (.inr (.inr (11, 205))), some (.inl x3)] [] M := by
  intro n x3 M h
  cases n with
  | zero => cases h
  | succ n =>
    exact am_seg_ok (sws := am_w345) (sem := sL_2048 z) (cd := cdL_2048 ++ cdL_h) (cut := ([(18, [true, true, true, true])] : List (Nat × List Bool))) (kap := (fun pc al st M => (match Nat.beq pc 18 with
      | true => (match al, st with
        | [some (.inr (.inr (62, 5200))), some (.inr (.inr (10, 0))), some (.inr (.inr (11, 205))), some (.inl x3)], [] => k18 x3 M
        | _, _ => none)
      | false => none))) (hsL_2048 z) F hR kcdL2_2048 (by rw [am_l345]; decide) (fun pc al st M hk => by
      try dsimp only at hk
      split at hk
      · rename_i he
        rw [am_beq he]
        split at hk
        · exact hk18 _ _ hk
        · cases hk
      · cases hk) 9 2048 _ _ _ h
def cdL_2061 : List am_E := [(2061, .aload_n 1, 1, 1, 0, 0, 0), (2062, .invokevirtual 273, 3, 155, 10000, 0, 0), (2065, .aload_n 2, 1, 2, 0, 0, 0), (2066, .invokevirtual 276, 3, 316, 11000, 0, 0), (2069, .if_icmp .eq 362, 3, 2431, 0, 0, 0), (2072, .iconst 0, 1, 0, 0, 0, 0), (2073, .ireturn, 1, 0, 0, 0, 0)]
set_option maxRecDepth 100000 in
theorem kcdL_2061 : cdL_2061.all (am_chk am_w345 345) = true := by decide +kernel
theorem kcdL2_2061 : (cdL_2061 ++ cdL_h).all (am_chk am_w345 345) = true := by
  simp only [List.all_append, kcdL_2061, kcdL_h, Bool.and_self]
def sL_2061 (z : Nat) : Nat → List aV → aM → Option aR := fun j => (match Nat.beq j 155 with
  | true => F155 z
  | false => (match Nat.beq j 316 with
  | true => F316 z
  | false => (fun _ _ => none)))
theorem hsL_2061 (z : Nat) : ∀ j2 : Nat, ∃ d2 : Nat, d2 + 1 ≤ 14 ∧ am_Snd d2 j2 (sL_2061 z j2) := by
  intro j2
  unfold sL_2061
  split
  · rename_i he
    rw [am_beq he]
    exact ⟨_, by decide, S155 z⟩
  · skip
    split
    · rename_i he
      rw [am_beq he]
      exact ⟨_, by decide, S316 z⟩
    · skip
      exact ⟨0, by decide, am_Snd_no j2⟩
/-- the law, case [63] -/
def f345_2061 (z nL : Nat) (xs : Nat → Int32) (k18 : Int32 → aM → Option aR) : Nat → Int32 → aM → Option aR
  | 0, _, _ => none
  | n + 1, x3, M =>
    am_bi (f155 z M) fun v2 M1 =>
      am_bi (f316 z M1) fun v4 M3 =>
        if v2 = v4 then
          k18 (x3 + (6 : Int32)) M3
        else
          some (some (.inl ((0 : Int32) &&& 1)), M3)
set_option maxRecDepth 100000 in
set_option maxHeartbeats 4000000 in
theorem e345_2061 (z nL : Nat) (xs : Nat → Int32) {p : Program} {l : Launch} {e : Env} {R : Room} {s : State} {m : MethodId} {args : Array Value} {below : List Frame} {meth : Method} {c : Code} {C : aC} {Q : State → Prop} {ce sl : Nat} (F : am_F (some (nL, xs)) p R s m args c C 345 14 ce sl) (r : aR) (hR : am_HR p l e R s m args below meth c C 345 (am_ml 345) ce sl 1 Q r) (k18 : Int32 → aM → Option aR) (hk18 : ∀ (x3 : Int32) (M : aM), k18 x3 M = some r → am_Wd p l e R s m args below meth c C (am_ml 345) ce sl Q 18 [some (.inr (.inr (62, 5200))), some (.inr (.inr (10, 0))), some (.inr (.inr (11, 205))), some (.inl x3)] [] M) : ∀ (n : Nat) (x3 : Int32) (M : aM), f345_2061 z nL xs k18 n x3 M = some r → am_Wd p l e R s m args below meth c C (am_ml 345) ce sl Q 2061 [some (.inr (.inr (62, 5200))), some (.inr (.inr (10, 0))), some (.inr (.inr (11, 205))), some (.inl x3)] [] M := by
  intro n x3 M h
  cases n with
  | zero => cases h
  | succ n =>
    exact am_seg_ok (sws := am_w345) (sem := sL_2061 z) (cd := cdL_2061 ++ cdL_h) (cut := ([(18, [true, true, true, true])] : List (Nat × List Bool))) (kap := (fun pc al st M => (match Nat.beq pc 18 with
      | true => (match al, st with
        | [some (.inr (.inr (62, 5200))), some (.inr (.inr (10, 0))), some (.inr (.inr (11, 205))), some (.inl x3)], [] => k18 x3 M
        | _, _ => none)
      | false => none))) (hsL_2061 z) F hR kcdL2_2061 (by rw [am_l345]; decide) (fun pc al st M hk => by
      try dsimp only at hk
      split at hk
      · rename_i he
        rw [am_beq he]
        split at hk
        · exact hk18 _ _ hk
        · cases hk
      · cases hk) 9 2061 _ _ _ h
def cdL_2074 : List am_E := [(2074, .aload_n 1, 1, 1, 0, 0, 0), (2075, .aload_n 0, 1, 0, 0, 0, 0), (2076, .iload_n 3, 1, 3, 0, 0, 0), (2077, .iconst 1, 1, 0, 0, 1, 0), (2078, .iadd, 1, 0, 0, 0, 0), (2079, .iaload, 1, 0, 0, 0, 0), (2080, .aload_n 0, 1, 0, 0, 0, 0), (2081, .iload_n 3, 1, 3, 0, 0, 0), (2082, .iconst 2, 1, 0, 0, 2, 0), (2083, .iadd, 1, 0, 0, 0, 0), (2084, .iaload, 1, 0, 0, 0, 0), (2085, .invokevirtual 277, 3, 156, 10020, 0, 0), (2088, .aload_n 2, 1, 2, 0, 0, 0), (2089, .aload_n 0, 1, 0, 0, 0, 0), (2090, .iload_n 3, 1, 3, 0, 0, 0), (2091, .iconst 1, 1, 0, 0, 1, 0), (2092, .iadd, 1, 0, 0, 0, 0), (2093, .iaload, 1, 0, 0, 0, 0), (2094, .aload_n 0, 1, 0, 0, 0, 0), (2095, .iload_n 3, 1, 3, 0, 0, 0), (2096, .iconst 2, 1, 0, 0, 2, 0), (2097, .iadd, 1, 0, 0, 0, 0), (2098, .iaload, 1, 0, 0, 0, 0), (2099, .invokevirtual 280, 3, 319, 11020, 0, 0), (2102, .if_icmp .eq 329, 3, 2431, 0, 0, 0), (2105, .iconst 0, 1, 0, 0, 0, 0), (2106, .ireturn, 1, 0, 0, 0, 0)]
set_option maxRecDepth 100000 in
theorem kcdL_2074 : cdL_2074.all (am_chk am_w345 345) = true := by decide +kernel
theorem kcdL2_2074 : (cdL_2074 ++ cdL_h).all (am_chk am_w345 345) = true := by
  simp only [List.all_append, kcdL_2074, kcdL_h, Bool.and_self]
def sL_2074 (z : Nat) : Nat → List aV → aM → Option aR := fun j => (match Nat.beq j 156 with
  | true => F156 z
  | false => (match Nat.beq j 319 with
  | true => F319 z
  | false => (fun _ _ => none)))
theorem hsL_2074 (z : Nat) : ∀ j2 : Nat, ∃ d2 : Nat, d2 + 1 ≤ 14 ∧ am_Snd d2 j2 (sL_2074 z j2) := by
  intro j2
  unfold sL_2074
  split
  · rename_i he
    rw [am_beq he]
    exact ⟨_, by decide, S156 z⟩
  · skip
    split
    · rename_i he
      rw [am_beq he]
      exact ⟨_, by decide, S319 z⟩
    · skip
      exact ⟨0, by decide, am_Snd_no j2⟩
/-- the law, case [64] -/
def f345_2074 (z nL : Nat) (xs : Nat → Int32) (k18 : Int32 → aM → Option aR) : Nat → Int32 → aM → Option aR
  | 0, _, _ => none
  | n + 1, x3, M =>
    if am_inB (x3 + (1 : Int32)) nL then
      if am_inB (x3 + (2 : Int32)) nL then
        am_bi (f156 z (xs (x3 + (1 : Int32)).toNatClampNeg) (xs (x3 + (2 : Int32)).toNatClampNeg) M) fun v2 M1 =>
          if am_inB (x3 + (1 : Int32)) nL then
            if am_inB (x3 + (2 : Int32)) nL then
              am_bi (f319 z (xs (x3 + (1 : Int32)).toNatClampNeg) (xs (x3 + (2 : Int32)).toNatClampNeg) M1) fun v4 M3 =>
                if v2 = v4 then
                  k18 (x3 + (6 : Int32)) M3
                else
                  some (some (.inl ((0 : Int32) &&& 1)), M3)
            else
              none
          else
            none
      else
        none
    else
      none
set_option maxRecDepth 100000 in
set_option maxHeartbeats 4000000 in
theorem e345_2074 (z nL : Nat) (xs : Nat → Int32) {p : Program} {l : Launch} {e : Env} {R : Room} {s : State} {m : MethodId} {args : Array Value} {below : List Frame} {meth : Method} {c : Code} {C : aC} {Q : State → Prop} {ce sl : Nat} (F : am_F (some (nL, xs)) p R s m args c C 345 14 ce sl) (r : aR) (hR : am_HR p l e R s m args below meth c C 345 (am_ml 345) ce sl 1 Q r) (k18 : Int32 → aM → Option aR) (hk18 : ∀ (x3 : Int32) (M : aM), k18 x3 M = some r → am_Wd p l e R s m args below meth c C (am_ml 345) ce sl Q 18 [some (.inr (.inr (62, 5200))), some (.inr (.inr (10, 0))), some (.inr (.inr (11, 205))), some (.inl x3)] [] M) : ∀ (n : Nat) (x3 : Int32) (M : aM), f345_2074 z nL xs k18 n x3 M = some r → am_Wd p l e R s m args below meth c C (am_ml 345) ce sl Q 2074 [some (.inr (.inr (62, 5200))), some (.inr (.inr (10, 0))), some (.inr (.inr (11, 205))), some (.inl x3)] [] M := by
  intro n x3 M h
  cases n with
  | zero => cases h
  | succ n =>
    exact am_seg_ok (sws := am_w345) (sem := sL_2074 z) (cd := cdL_2074 ++ cdL_h) (cut := ([(18, [true, true, true, true])] : List (Nat × List Bool))) (kap := (fun pc al st M => (match Nat.beq pc 18 with
      | true => (match al, st with
        | [some (.inr (.inr (62, 5200))), some (.inr (.inr (10, 0))), some (.inr (.inr (11, 205))), some (.inl x3)], [] => k18 x3 M
        | _, _ => none)
      | false => none))) (hsL_2074 z) F hR kcdL2_2074 (by rw [am_l345]; decide) (fun pc al st M hk => by
      try dsimp only at hk
      split at hk
      · rename_i he
        rw [am_beq he]
        split at hk
        · exact hk18 _ _ hk
        · cases hk
      · cases hk) 29 2074 _ _ _ h
def cdL_2107 : List am_E := [(2107, .aload_n 1, 1, 1, 0, 0, 0), (2108, .aload_n 0, 1, 0, 0, 0, 0), (2109, .iload_n 3, 1, 3, 0, 0, 0), (2110, .iconst 1, 1, 0, 0, 1, 0), (2111, .iadd, 1, 0, 0, 0, 0), (2112, .iaload, 1, 0, 0, 0, 0), (2113, .aload_n 0, 1, 0, 0, 0, 0), (2114, .iload_n 3, 1, 3, 0, 0, 0), (2115, .iconst 2, 1, 0, 0, 2, 0), (2116, .iadd, 1, 0, 0, 0, 0), (2117, .iaload, 1, 0, 0, 0, 0), (2118, .aload_n 0, 1, 0, 0, 0, 0), (2119, .iload_n 3, 1, 3, 0, 0, 0), (2120, .iconst 3, 1, 0, 0, 3, 0), (2121, .iadd, 1, 0, 0, 0, 0), (2122, .iaload, 1, 0, 0, 0, 0), (2123, .invokevirtual 281, 3, 158, 10030, 0, 0), (2126, .aload_n 2, 1, 2, 0, 0, 0), (2127, .aload_n 0, 1, 0, 0, 0, 0), (2128, .iload_n 3, 1, 3, 0, 0, 0), (2129, .iconst 1, 1, 0, 0, 1, 0), (2130, .iadd, 1, 0, 0, 0, 0), (2131, .iaload, 1, 0, 0, 0, 0), (2132, .aload_n 0, 1, 0, 0, 0, 0), (2133, .iload_n 3, 1, 3, 0, 0, 0), (2134, .iconst 2, 1, 0, 0, 2, 0), (2135, .iadd, 1, 0, 0, 0, 0), (2136, .iaload, 1, 0, 0, 0, 0), (2137, .aload_n 0, 1, 0, 0, 0, 0), (2138, .iload_n 3, 1, 3, 0, 0, 0), (2139, .iconst 3, 1, 0, 0, 3, 0), (2140, .iadd, 1, 0, 0, 0, 0), (2141, .iaload, 1, 0, 0, 0, 0), (2142, .invokevirtual 284, 3, 320, 11030, 0, 0), (2145, .if_icmp .eq 286, 3, 2431, 0, 0, 0), (2148, .iconst 0, 1, 0, 0, 0, 0), (2149, .ireturn, 1, 0, 0, 0, 0)]
set_option maxRecDepth 100000 in
theorem kcdL_2107 : cdL_2107.all (am_chk am_w345 345) = true := by decide +kernel
theorem kcdL2_2107 : (cdL_2107 ++ cdL_h).all (am_chk am_w345 345) = true := by
  simp only [List.all_append, kcdL_2107, kcdL_h, Bool.and_self]
def sL_2107 (z : Nat) : Nat → List aV → aM → Option aR := fun j => (match Nat.beq j 158 with
  | true => F158 z
  | false => (match Nat.beq j 320 with
  | true => F320 z
  | false => (fun _ _ => none)))
theorem hsL_2107 (z : Nat) : ∀ j2 : Nat, ∃ d2 : Nat, d2 + 1 ≤ 14 ∧ am_Snd d2 j2 (sL_2107 z j2) := by
  intro j2
  unfold sL_2107
  split
  · rename_i he
    rw [am_beq he]
    exact ⟨_, by decide, S158 z⟩
  · skip
    split
    · rename_i he
      rw [am_beq he]
      exact ⟨_, by decide, S320 z⟩
    · skip
      exact ⟨0, by decide, am_Snd_no j2⟩
/-- the law, case [65] -/
def f345_2107 (z nL : Nat) (xs : Nat → Int32) (k18 : Int32 → aM → Option aR) : Nat → Int32 → aM → Option aR
  | 0, _, _ => none
  | n + 1, x3, M =>
    if am_inB (x3 + (1 : Int32)) nL then
      if am_inB (x3 + (2 : Int32)) nL then
        if am_inB (x3 + (3 : Int32)) nL then
          am_bi (f158 z (xs (x3 + (1 : Int32)).toNatClampNeg) (xs (x3 + (2 : Int32)).toNatClampNeg) (xs (x3 + (3 : Int32)).toNatClampNeg) M) fun v2 M1 =>
            if am_inB (x3 + (1 : Int32)) nL then
              if am_inB (x3 + (2 : Int32)) nL then
                if am_inB (x3 + (3 : Int32)) nL then
                  am_bi (f320 z (xs (x3 + (1 : Int32)).toNatClampNeg) (xs (x3 + (2 : Int32)).toNatClampNeg) (xs (x3 + (3 : Int32)).toNatClampNeg) M1) fun v4 M3 =>
                    if v2 = v4 then
                      k18 (x3 + (6 : Int32)) M3
                    else
                      some (some (.inl ((0 : Int32) &&& 1)), M3)
                else
                  none
              else
                none
            else
              none
        else
          none
      else
        none
    else
      none
set_option maxRecDepth 100000 in
set_option maxHeartbeats 4000000 in
theorem e345_2107 (z nL : Nat) (xs : Nat → Int32) {p : Program} {l : Launch} {e : Env} {R : Room} {s : State} {m : MethodId} {args : Array Value} {below : List Frame} {meth : Method} {c : Code} {C : aC} {Q : State → Prop} {ce sl : Nat} (F : am_F (some (nL, xs)) p R s m args c C 345 14 ce sl) (r : aR) (hR : am_HR p l e R s m args below meth c C 345 (am_ml 345) ce sl 1 Q r) (k18 : Int32 → aM → Option aR) (hk18 : ∀ (x3 : Int32) (M : aM), k18 x3 M = some r → am_Wd p l e R s m args below meth c C (am_ml 345) ce sl Q 18 [some (.inr (.inr (62, 5200))), some (.inr (.inr (10, 0))), some (.inr (.inr (11, 205))), some (.inl x3)] [] M) : ∀ (n : Nat) (x3 : Int32) (M : aM), f345_2107 z nL xs k18 n x3 M = some r → am_Wd p l e R s m args below meth c C (am_ml 345) ce sl Q 2107 [some (.inr (.inr (62, 5200))), some (.inr (.inr (10, 0))), some (.inr (.inr (11, 205))), some (.inl x3)] [] M := by
  intro n x3 M h
  cases n with
  | zero => cases h
  | succ n =>
    exact am_seg_ok (sws := am_w345) (sem := sL_2107 z) (cd := cdL_2107 ++ cdL_h) (cut := ([(18, [true, true, true, true])] : List (Nat × List Bool))) (kap := (fun pc al st M => (match Nat.beq pc 18 with
      | true => (match al, st with
        | [some (.inr (.inr (62, 5200))), some (.inr (.inr (10, 0))), some (.inr (.inr (11, 205))), some (.inl x3)], [] => k18 x3 M
        | _, _ => none)
      | false => none))) (hsL_2107 z) F hR kcdL2_2107 (by rw [am_l345]; decide) (fun pc al st M hk => by
      try dsimp only at hk
      split at hk
      · rename_i he
        rw [am_beq he]
        split at hk
        · exact hk18 _ _ hk
        · cases hk
      · cases hk) 39 2107 _ _ _ h
def cdL_2150 : List am_E := [(2150, .aload_n 1, 1, 1, 0, 0, 0), (2151, .aload_n 0, 1, 0, 0, 0, 0), (2152, .iload_n 3, 1, 3, 0, 0, 0), (2153, .iconst 1, 1, 0, 0, 1, 0), (2154, .iadd, 1, 0, 0, 0, 0), (2155, .iaload, 1, 0, 0, 0, 0), (2156, .aload_n 0, 1, 0, 0, 0, 0), (2157, .iload_n 3, 1, 3, 0, 0, 0), (2158, .iconst 2, 1, 0, 0, 2, 0), (2159, .iadd, 1, 0, 0, 0, 0), (2160, .iaload, 1, 0, 0, 0, 0), (2161, .invokevirtual 285, 3, 159, 10020, 0, 0), (2164, .aload_n 2, 1, 2, 0, 0, 0), (2165, .aload_n 0, 1, 0, 0, 0, 0), (2166, .iload_n 3, 1, 3, 0, 0, 0), (2167, .iconst 1, 1, 0, 0, 1, 0), (2168, .iadd, 1, 0, 0, 0, 0), (2169, .iaload, 1, 0, 0, 0, 0), (2170, .aload_n 0, 1, 0, 0, 0, 0), (2171, .iload_n 3, 1, 3, 0, 0, 0), (2172, .iconst 2, 1, 0, 0, 2, 0), (2173, .iadd, 1, 0, 0, 0, 0), (2174, .iaload, 1, 0, 0, 0, 0), (2175, .invokevirtual 288, 3, 321, 11020, 0, 0), (2178, .if_icmp .eq 253, 3, 2431, 0, 0, 0), (2181, .iconst 0, 1, 0, 0, 0, 0), (2182, .ireturn, 1, 0, 0, 0, 0)]
set_option maxRecDepth 100000 in
theorem kcdL_2150 : cdL_2150.all (am_chk am_w345 345) = true := by decide +kernel
theorem kcdL2_2150 : (cdL_2150 ++ cdL_h).all (am_chk am_w345 345) = true := by
  simp only [List.all_append, kcdL_2150, kcdL_h, Bool.and_self]
def sL_2150 (z : Nat) : Nat → List aV → aM → Option aR := fun j => (match Nat.beq j 159 with
  | true => F159 z
  | false => (match Nat.beq j 321 with
  | true => F321 z
  | false => (fun _ _ => none)))
theorem hsL_2150 (z : Nat) : ∀ j2 : Nat, ∃ d2 : Nat, d2 + 1 ≤ 14 ∧ am_Snd d2 j2 (sL_2150 z j2) := by
  intro j2
  unfold sL_2150
  split
  · rename_i he
    rw [am_beq he]
    exact ⟨_, by decide, S159 z⟩
  · skip
    split
    · rename_i he
      rw [am_beq he]
      exact ⟨_, by decide, S321 z⟩
    · skip
      exact ⟨0, by decide, am_Snd_no j2⟩
/-- the law, case [66] -/
def f345_2150 (z nL : Nat) (xs : Nat → Int32) (k18 : Int32 → aM → Option aR) : Nat → Int32 → aM → Option aR
  | 0, _, _ => none
  | n + 1, x3, M =>
    if am_inB (x3 + (1 : Int32)) nL then
      if am_inB (x3 + (2 : Int32)) nL then
        am_bi (f159 z (xs (x3 + (1 : Int32)).toNatClampNeg) (xs (x3 + (2 : Int32)).toNatClampNeg) M) fun v2 M1 =>
          if am_inB (x3 + (1 : Int32)) nL then
            if am_inB (x3 + (2 : Int32)) nL then
              am_bi (f321 z (xs (x3 + (1 : Int32)).toNatClampNeg) (xs (x3 + (2 : Int32)).toNatClampNeg) M1) fun v4 M3 =>
                if v2 = v4 then
                  k18 (x3 + (6 : Int32)) M3
                else
                  some (some (.inl ((0 : Int32) &&& 1)), M3)
            else
              none
          else
            none
      else
        none
    else
      none
set_option maxRecDepth 100000 in
set_option maxHeartbeats 4000000 in
theorem e345_2150 (z nL : Nat) (xs : Nat → Int32) {p : Program} {l : Launch} {e : Env} {R : Room} {s : State} {m : MethodId} {args : Array Value} {below : List Frame} {meth : Method} {c : Code} {C : aC} {Q : State → Prop} {ce sl : Nat} (F : am_F (some (nL, xs)) p R s m args c C 345 14 ce sl) (r : aR) (hR : am_HR p l e R s m args below meth c C 345 (am_ml 345) ce sl 1 Q r) (k18 : Int32 → aM → Option aR) (hk18 : ∀ (x3 : Int32) (M : aM), k18 x3 M = some r → am_Wd p l e R s m args below meth c C (am_ml 345) ce sl Q 18 [some (.inr (.inr (62, 5200))), some (.inr (.inr (10, 0))), some (.inr (.inr (11, 205))), some (.inl x3)] [] M) : ∀ (n : Nat) (x3 : Int32) (M : aM), f345_2150 z nL xs k18 n x3 M = some r → am_Wd p l e R s m args below meth c C (am_ml 345) ce sl Q 2150 [some (.inr (.inr (62, 5200))), some (.inr (.inr (10, 0))), some (.inr (.inr (11, 205))), some (.inl x3)] [] M := by
  intro n x3 M h
  cases n with
  | zero => cases h
  | succ n =>
    exact am_seg_ok (sws := am_w345) (sem := sL_2150 z) (cd := cdL_2150 ++ cdL_h) (cut := ([(18, [true, true, true, true])] : List (Nat × List Bool))) (kap := (fun pc al st M => (match Nat.beq pc 18 with
      | true => (match al, st with
        | [some (.inr (.inr (62, 5200))), some (.inr (.inr (10, 0))), some (.inr (.inr (11, 205))), some (.inl x3)], [] => k18 x3 M
        | _, _ => none)
      | false => none))) (hsL_2150 z) F hR kcdL2_2150 (by rw [am_l345]; decide) (fun pc al st M hk => by
      try dsimp only at hk
      split at hk
      · rename_i he
        rw [am_beq he]
        split at hk
        · exact hk18 _ _ hk
        · cases hk
      · cases hk) 29 2150 _ _ _ h
def cdL_2183 : List am_E := [(2183, .aload_n 1, 1, 1, 0, 0, 0), (2184, .aload_n 0, 1, 0, 0, 0, 0), (2185, .iload_n 3, 1, 3, 0, 0, 0), (2186, .iconst 1, 1, 0, 0, 1, 0), (2187, .iadd, 1, 0, 0, 0, 0), (2188, .iaload, 1, 0, 0, 0, 0), (2189, .invokevirtual 289, 3, 160, 10010, 0, 0), (2192, .aload_n 2, 1, 2, 0, 0, 0), (2193, .aload_n 0, 1, 0, 0, 0, 0), (2194, .iload_n 3, 1, 3, 0, 0, 0), (2195, .iconst 1, 1, 0, 0, 1, 0), (2196, .iadd, 1, 0, 0, 0, 0), (2197, .iaload, 1, 0, 0, 0, 0), (2198, .invokevirtual 292, 3, 322, 11010, 0, 0), (2201, .if_icmp .eq 230, 3, 2431, 0, 0, 0), (2204, .iconst 0, 1, 0, 0, 0, 0), (2205, .ireturn, 1, 0, 0, 0, 0)]
set_option maxRecDepth 100000 in
theorem kcdL_2183 : cdL_2183.all (am_chk am_w345 345) = true := by decide +kernel
theorem kcdL2_2183 : (cdL_2183 ++ cdL_h).all (am_chk am_w345 345) = true := by
  simp only [List.all_append, kcdL_2183, kcdL_h, Bool.and_self]
def sL_2183 (z : Nat) : Nat → List aV → aM → Option aR := fun j => (match Nat.beq j 160 with
  | true => F160 z
  | false => (match Nat.beq j 322 with
  | true => F322 z
  | false => (fun _ _ => none)))
theorem hsL_2183 (z : Nat) : ∀ j2 : Nat, ∃ d2 : Nat, d2 + 1 ≤ 14 ∧ am_Snd d2 j2 (sL_2183 z j2) := by
  intro j2
  unfold sL_2183
  split
  · rename_i he
    rw [am_beq he]
    exact ⟨_, by decide, S160 z⟩
  · skip
    split
    · rename_i he
      rw [am_beq he]
      exact ⟨_, by decide, S322 z⟩
    · skip
      exact ⟨0, by decide, am_Snd_no j2⟩
/-- the law, case [67] -/
def f345_2183 (z nL : Nat) (xs : Nat → Int32) (k18 : Int32 → aM → Option aR) : Nat → Int32 → aM → Option aR
  | 0, _, _ => none
  | n + 1, x3, M =>
    if am_inB (x3 + (1 : Int32)) nL then
      am_bi (f160 z (xs (x3 + (1 : Int32)).toNatClampNeg) M) fun v2 M1 =>
        if am_inB (x3 + (1 : Int32)) nL then
          am_bi (f322 z (xs (x3 + (1 : Int32)).toNatClampNeg) M1) fun v4 M3 =>
            if v2 = v4 then
              k18 (x3 + (6 : Int32)) M3
            else
              some (some (.inl ((0 : Int32) &&& 1)), M3)
        else
          none
    else
      none
set_option maxRecDepth 100000 in
set_option maxHeartbeats 4000000 in
theorem e345_2183 (z nL : Nat) (xs : Nat → Int32) {p : Program} {l : Launch} {e : Env} {R : Room} {s : State} {m : MethodId} {args : Array Value} {below : List Frame} {meth : Method} {c : Code} {C : aC} {Q : State → Prop} {ce sl : Nat} (F : am_F (some (nL, xs)) p R s m args c C 345 14 ce sl) (r : aR) (hR : am_HR p l e R s m args below meth c C 345 (am_ml 345) ce sl 1 Q r) (k18 : Int32 → aM → Option aR) (hk18 : ∀ (x3 : Int32) (M : aM), k18 x3 M = some r → am_Wd p l e R s m args below meth c C (am_ml 345) ce sl Q 18 [some (.inr (.inr (62, 5200))), some (.inr (.inr (10, 0))), some (.inr (.inr (11, 205))), some (.inl x3)] [] M) : ∀ (n : Nat) (x3 : Int32) (M : aM), f345_2183 z nL xs k18 n x3 M = some r → am_Wd p l e R s m args below meth c C (am_ml 345) ce sl Q 2183 [some (.inr (.inr (62, 5200))), some (.inr (.inr (10, 0))), some (.inr (.inr (11, 205))), some (.inl x3)] [] M := by
  intro n x3 M h
  cases n with
  | zero => cases h
  | succ n =>
    exact am_seg_ok (sws := am_w345) (sem := sL_2183 z) (cd := cdL_2183 ++ cdL_h) (cut := ([(18, [true, true, true, true])] : List (Nat × List Bool))) (kap := (fun pc al st M => (match Nat.beq pc 18 with
      | true => (match al, st with
        | [some (.inr (.inr (62, 5200))), some (.inr (.inr (10, 0))), some (.inr (.inr (11, 205))), some (.inl x3)], [] => k18 x3 M
        | _, _ => none)
      | false => none))) (hsL_2183 z) F hR kcdL2_2183 (by rw [am_l345]; decide) (fun pc al st M hk => by
      try dsimp only at hk
      split at hk
      · rename_i he
        rw [am_beq he]
        split at hk
        · exact hk18 _ _ hk
        · cases hk
      · cases hk) 19 2183 _ _ _ h
