def sL_18 (z : Nat) : Nat → List aV → aM → Option aR := fun j => (fun _ _ => none)
theorem hsL_18 (z : Nat) : ∀ j2 : Nat, ∃ d2 : Nat, d2 + 1 ≤ 14 ∧ am_Snd d2 j2 (sL_18 z j2) := by
  intro j2
  unfold sL_18
  exact ⟨0, by decide, am_Snd_no j2⟩
def f345_18 (z nL : Nat) (xs : Nat → Int32) : Nat → Int32 → aM → Option aR
  | 0, _, _ => none
  | n + 1, x3, M =>
    if ((nI nL) - (6 : Int32)) < x3 then
      some (some (.inl ((1 : Int32) &&& 1)), M)
    else
      if am_inB x3 nL then
        if ((xs x3.toNatClampNeg) &&& (127 : Int32)) = (0 : Int32) then
          f345_340 z nL xs (f345_18 z nL xs n) z x3 M
        else
          if ((xs x3.toNatClampNeg) &&& (127 : Int32)) = (1 : Int32) then
            f345_403 z nL xs (f345_18 z nL xs n) z x3 M
          else
            if ((xs x3.toNatClampNeg) &&& (127 : Int32)) = (2 : Int32) then
              f345_426 z nL xs (f345_18 z nL xs n) z x3 M
            else
              if ((xs x3.toNatClampNeg) &&& (127 : Int32)) = (3 : Int32) then
                f345_439 z nL xs (f345_18 z nL xs n) z x3 M
              else
                if ((xs x3.toNatClampNeg) &&& (127 : Int32)) = (4 : Int32) then
                  f345_462 z nL xs (f345_18 z nL xs n) z x3 M
                else
                  if ((xs x3.toNatClampNeg) &&& (127 : Int32)) = (5 : Int32) then
                    f345_495 z nL xs (f345_18 z nL xs n) z x3 M
                  else
                    if ((xs x3.toNatClampNeg) &&& (127 : Int32)) = (6 : Int32) then
                      f345_528 z nL xs (f345_18 z nL xs n) z x3 M
                    else
                      if ((xs x3.toNatClampNeg) &&& (127 : Int32)) = (7 : Int32) then
                        f345_551 z nL xs (f345_18 z nL xs n) z x3 M
                      else
                        if ((xs x3.toNatClampNeg) &&& (127 : Int32)) = (8 : Int32) then
                          f345_584 z nL xs (f345_18 z nL xs n) z x3 M
                        else
                          if ((xs x3.toNatClampNeg) &&& (127 : Int32)) = (9 : Int32) then
                            f345_607 z nL xs (f345_18 z nL xs n) z x3 M
                          else
                            if ((xs x3.toNatClampNeg) &&& (127 : Int32)) = (10 : Int32) then
                              f345_630 z nL xs (f345_18 z nL xs n) z x3 M
                            else
                              if ((xs x3.toNatClampNeg) &&& (127 : Int32)) = (11 : Int32) then
                                f345_653 z nL xs (f345_18 z nL xs n) z x3 M
                              else
                                if ((xs x3.toNatClampNeg) &&& (127 : Int32)) = (12 : Int32) then
                                  f345_676 z nL xs (f345_18 z nL xs n) z x3 M
                                else
                                  if ((xs x3.toNatClampNeg) &&& (127 : Int32)) = (13 : Int32) then
                                    f345_699 z nL xs (f345_18 z nL xs n) z x3 M
                                  else
                                    if ((xs x3.toNatClampNeg) &&& (127 : Int32)) = (14 : Int32) then
                                      f345_722 z nL xs (f345_18 z nL xs n) z x3 M
                                    else
                                      if ((xs x3.toNatClampNeg) &&& (127 : Int32)) = (15 : Int32) then
                                        f345_745 z nL xs (f345_18 z nL xs n) z x3 M
                                      else
                                        if ((xs x3.toNatClampNeg) &&& (127 : Int32)) = (16 : Int32) then
                                          f345_768 z nL xs (f345_18 z nL xs n) z x3 M
                                        else
                                          if ((xs x3.toNatClampNeg) &&& (127 : Int32)) = (17 : Int32) then
                                            f345_791 z nL xs (f345_18 z nL xs n) z x3 M
                                          else
                                            if ((xs x3.toNatClampNeg) &&& (127 : Int32)) = (18 : Int32) then
                                              f345_814 z nL xs (f345_18 z nL xs n) z x3 M
                                            else
                                              if ((xs x3.toNatClampNeg) &&& (127 : Int32)) = (19 : Int32) then
                                                f345_837 z nL xs (f345_18 z nL xs n) z x3 M
                                              else
                                                if ((xs x3.toNatClampNeg) &&& (127 : Int32)) = (20 : Int32) then
                                                  f345_850 z nL xs (f345_18 z nL xs n) z x3 M
                                                else
                                                  if ((xs x3.toNatClampNeg) &&& (127 : Int32)) = (21 : Int32) then
                                                    f345_883 z nL xs (f345_18 z nL xs n) z x3 M
                                                  else
                                                    if ((xs x3.toNatClampNeg) &&& (127 : Int32)) = (22 : Int32) then
                                                      f345_916 z nL xs (f345_18 z nL xs n) z x3 M
                                                    else
                                                      if ((xs x3.toNatClampNeg) &&& (127 : Int32)) = (23 : Int32) then
                                                        f345_949 z nL xs (f345_18 z nL xs n) z x3 M
                                                      else
                                                        if ((xs x3.toNatClampNeg) &&& (127 : Int32)) = (24 : Int32) then
                                                          f345_972 z nL xs (f345_18 z nL xs n) z x3 M
                                                        else
                                                          if ((xs x3.toNatClampNeg) &&& (127 : Int32)) = (25 : Int32) then
                                                            f345_995 z nL xs (f345_18 z nL xs n) z x3 M
                                                          else
                                                            if ((xs x3.toNatClampNeg) &&& (127 : Int32)) = (26 : Int32) then
                                                              f345_1018 z nL xs (f345_18 z nL xs n) z x3 M
                                                            else
                                                              if ((xs x3.toNatClampNeg) &&& (127 : Int32)) = (27 : Int32) then
                                                                f345_1041 z nL xs (f345_18 z nL xs n) z x3 M
                                                              else
                                                                if ((xs x3.toNatClampNeg) &&& (127 : Int32)) = (28 : Int32) then
                                                                  f345_1054 z nL xs (f345_18 z nL xs n) z x3 M
                                                                else
                                                                  if ((xs x3.toNatClampNeg) &&& (127 : Int32)) = (29 : Int32) then
                                                                    f345_1067 z nL xs (f345_18 z nL xs n) z x3 M
                                                                  else
                                                                    if ((xs x3.toNatClampNeg) &&& (127 : Int32)) = (30 : Int32) then
                                                                      f345_1090 z nL xs (f345_18 z nL xs n) z x3 M
                                                                    else
                                                                      if ((xs x3.toNatClampNeg) &&& (127 : Int32)) = (31 : Int32) then
                                                                        f345_1113 z nL xs (f345_18 z nL xs n) z x3 M
                                                                      else
                                                                        if ((xs x3.toNatClampNeg) &&& (127 : Int32)) = (32 : Int32) then
                                                                          f345_1126 z nL xs (f345_18 z nL xs n) z x3 M
                                                                        else
                                                                          if ((xs x3.toNatClampNeg) &&& (127 : Int32)) = (33 : Int32) then
                                                                            f345_1169 z nL xs (f345_18 z nL xs n) z x3 M
                                                                          else
                                                                            if ((xs x3.toNatClampNeg) &&& (127 : Int32)) = (34 : Int32) then
                                                                              f345_1222 z nL xs (f345_18 z nL xs n) z x3 M
                                                                            else
                                                                              if ((xs x3.toNatClampNeg) &&& (127 : Int32)) = (35 : Int32) then
                                                                                f345_1265 z nL xs (f345_18 z nL xs n) z x3 M
                                                                              else
                                                                                if ((xs x3.toNatClampNeg) &&& (127 : Int32)) = (36 : Int32) then
                                                                                  f345_1298 z nL xs (f345_18 z nL xs n) z x3 M
                                                                                else
                                                                                  if ((xs x3.toNatClampNeg) &&& (127 : Int32)) = (37 : Int32) then
                                                                                    f345_1321 z nL xs (f345_18 z nL xs n) z x3 M
                                                                                  else
                                                                                    if ((xs x3.toNatClampNeg) &&& (127 : Int32)) = (38 : Int32) then
                                                                                      f345_1354 z nL xs (f345_18 z nL xs n) z x3 M
                                                                                    else
                                                                                      if ((xs x3.toNatClampNeg) &&& (127 : Int32)) = (39 : Int32) then
                                                                                        f345_1387 z nL xs (f345_18 z nL xs n) z x3 M
                                                                                      else
                                                                                        if ((xs x3.toNatClampNeg) &&& (127 : Int32)) = (40 : Int32) then
                                                                                          f345_1410 z nL xs (f345_18 z nL xs n) z x3 M
                                                                                        else
                                                                                          if ((xs x3.toNatClampNeg) &&& (127 : Int32)) = (41 : Int32) then
                                                                                            f345_1433 z nL xs (f345_18 z nL xs n) z x3 M
                                                                                          else
                                                                                            if ((xs x3.toNatClampNeg) &&& (127 : Int32)) = (42 : Int32) then
                                                                                              f345_1466 z nL xs (f345_18 z nL xs n) z x3 M
                                                                                            else
                                                                                              if ((xs x3.toNatClampNeg) &&& (127 : Int32)) = (43 : Int32) then
                                                                                                f345_1499 z nL xs (f345_18 z nL xs n) z x3 M
                                                                                              else
                                                                                                if ((xs x3.toNatClampNeg) &&& (127 : Int32)) = (44 : Int32) then
                                                                                                  f345_1512 z nL xs (f345_18 z nL xs n) z x3 M
                                                                                                else
                                                                                                  if ((xs x3.toNatClampNeg) &&& (127 : Int32)) = (45 : Int32) then
                                                                                                    f345_1525 z nL xs (f345_18 z nL xs n) z x3 M
                                                                                                  else
                                                                                                    if ((xs x3.toNatClampNeg) &&& (127 : Int32)) = (46 : Int32) then
                                                                                                      f345_1538 z nL xs (f345_18 z nL xs n) z x3 M
                                                                                                    else
                                                                                                      if ((xs x3.toNatClampNeg) &&& (127 : Int32)) = (47 : Int32) then
                                                                                                        f345_1571 z nL xs (f345_18 z nL xs n) z x3 M
                                                                                                      else
                                                                                                        if ((xs x3.toNatClampNeg) &&& (127 : Int32)) = (48 : Int32) then
                                                                                                          f345_1604 z nL xs (f345_18 z nL xs n) z x3 M
                                                                                                        else
                                                                                                          if ((xs x3.toNatClampNeg) &&& (127 : Int32)) = (49 : Int32) then
                                                                                                            f345_1637 z nL xs (f345_18 z nL xs n) z x3 M
                                                                                                          else
                                                                                                            if ((xs x3.toNatClampNeg) &&& (127 : Int32)) = (50 : Int32) then
                                                                                                              f345_1670 z nL xs (f345_18 z nL xs n) z x3 M
                                                                                                            else
                                                                                                              if ((xs x3.toNatClampNeg) &&& (127 : Int32)) = (51 : Int32) then
                                                                                                                f345_1703 z nL xs (f345_18 z nL xs n) z x3 M
                                                                                                              else
                                                                                                                if ((xs x3.toNatClampNeg) &&& (127 : Int32)) = (52 : Int32) then
                                                                                                                  f345_1726 z nL xs (f345_18 z nL xs n) z x3 M
                                                                                                                else
                                                                                                                  if ((xs x3.toNatClampNeg) &&& (127 : Int32)) = (53 : Int32) then
                                                                                                                    f345_1749 z nL xs (f345_18 z nL xs n) z x3 M
                                                                                                                  else
                                                                                                                    if ((xs x3.toNatClampNeg) &&& (127 : Int32)) = (54 : Int32) then
                                                                                                                      f345_1762 z nL xs (f345_18 z nL xs n) z x3 M
                                                                                                                    else
                                                                                                                      if ((xs x3.toNatClampNeg) &&& (127 : Int32)) = (55 : Int32) then
                                                                                                                        f345_1785 z nL xs (f345_18 z nL xs n) z x3 M
                                                                                                                      else
                                                                                                                        if ((xs x3.toNatClampNeg) &&& (127 : Int32)) = (56 : Int32) then
                                                                                                                          f345_1818 z nL xs (f345_18 z nL xs n) z x3 M
                                                                                                                        else
                                                                                                                          if ((xs x3.toNatClampNeg) &&& (127 : Int32)) = (57 : Int32) then
                                                                                                                            f345_1851 z nL xs (f345_18 z nL xs n) z x3 M
                                                                                                                          else
                                                                                                                            if ((xs x3.toNatClampNeg) &&& (127 : Int32)) = (58 : Int32) then
                                                                                                                              f345_1904 z nL xs (f345_18 z nL xs n) z x3 M
                                                                                                                            else
                                                                                                                              if ((xs x3.toNatClampNeg) &&& (127 : Int32)) = (59 : Int32) then
                                                                                                                                f345_1938 z nL xs (f345_18 z nL xs n) z x3 M
                                                                                                                              else
                                                                                                                                if ((xs x3.toNatClampNeg) &&& (127 : Int32)) = (60 : Int32) then
                                                                                                                                  f345_1962 z nL xs (f345_18 z nL xs n) z x3 M
                                                                                                                                else
                                                                                                                                  if ((xs x3.toNatClampNeg) &&& (127 : Int32)) = (61 : Int32) then
                                                                                                                                    f345_2005 z nL xs (f345_18 z nL xs n) z x3 M
                                                                                                                                  else
                                                                                                                                    if ((xs x3.toNatClampNeg) &&& (127 : Int32)) = (62 : Int32) then
                                                                                                                                      f345_2048 z nL xs (f345_18 z nL xs n) z x3 M
                                                                                                                                    else
                                                                                                                                      if ((xs x3.toNatClampNeg) &&& (127 : Int32)) = (63 : Int32) then
                                                                                                                                        f345_2061 z nL xs (f345_18 z nL xs n) z x3 M
                                                                                                                                      else
                                                                                                                                        if ((xs x3.toNatClampNeg) &&& (127 : Int32)) = (64 : Int32) then
                                                                                                                                          f345_2074 z nL xs (f345_18 z nL xs n) z x3 M
                                                                                                                                        else
                                                                                                                                          if ((xs x3.toNatClampNeg) &&& (127 : Int32)) = (65 : Int32) then
                                                                                                                                            f345_2107 z nL xs (f345_18 z nL xs n) z x3 M
                                                                                                                                          else
                                                                                                                                            if ((xs x3.toNatClampNeg) &&& (127 : Int32)) = (66 : Int32) then
                                                                                                                                              f345_2150 z nL xs (f345_18 z nL xs n) z x3 M
                                                                                                                                            else
                                                                                                                                              if ((xs x3.toNatClampNeg) &&& (127 : Int32)) = (67 : Int32) then
                                                                                                                                                f345_2183 z nL xs (f345_18 z nL xs n) z x3 M
                                                                                                                                              else
                                                                                                                                                if ((xs x3.toNatClampNeg) &&& (127 : Int32)) = (68 : Int32) then
                                                                                                                                                  f345_2206 z nL xs (f345_18 z nL xs n) z x3 M
                                                                                                                                                else
                                                                                                                                                  if ((xs x3.toNatClampNeg) &&& (127 : Int32)) = (69 : Int32) then
                                                                                                                                                    f345_2229 z nL xs (f345_18 z nL xs n) z x3 M
                                                                                                                                                  else
                                                                                                                                                    if ((xs x3.toNatClampNeg) &&& (127 : Int32)) = (70 : Int32) then
                                                                                                                                                      f345_2252 z nL xs (f345_18 z nL xs n) z x3 M
                                                                                                                                                    else
                                                                                                                                                      if ((xs x3.toNatClampNeg) &&& (127 : Int32)) = (71 : Int32) then
                                                                                                                                                        f345_2295 z nL xs (f345_18 z nL xs n) z x3 M
                                                                                                                                                      else
                                                                                                                                                        if ((xs x3.toNatClampNeg) &&& (127 : Int32)) = (72 : Int32) then
                                                                                                                                                          f345_2368 z nL xs (f345_18 z nL xs n) z x3 M
                                                                                                                                                        else
                                                                                                                                                          f345_18 z nL xs n (x3 + (6 : Int32)) M
      else
        none
set_option maxRecDepth 100000 in
set_option maxHeartbeats 4000000 in
theorem e345_18 (z nL : Nat) (xs : Nat → Int32) {p : Program} {l : Launch} {e : Env} {R : Room} {s : State} {m : MethodId} {args : Array Value} {below : List Frame} {meth : Method} {c : Code} {C : aC} {Q : State → Prop} {ce sl : Nat} (F : am_F (some (nL, xs)) p R s m args c C 345 14 ce sl) (r : aR) (hR : am_HR p l e R s m args below meth c C 345 (am_ml 345) ce sl 1 Q r) : ∀ (n : Nat) (x3 : Int32) (M : aM), f345_18 z nL xs n x3 M = some r → am_Wd p l e R s m args below meth c C (am_ml 345) ce sl Q 18 [some (.inr (.inr (62, 5200))), some (.inr (.inr (10, 0))), some (.inr (.inr (11, 205))), some (.inl x3)] [] M := by
  intro n
  induction n with
  | zero =>
    intro x3 M h
    cases h
  | succ n ih =>
    intro x3 M h
    exact am_seg_ok (sws := am_w345) (sem := sL_18 z) (cd := cdL_h) (cut := ([(18, [true, true, true, true]), (340, [true, true, true, true]), (403, [true, true, true, true]), (426, [true, true, true, true]), (439, [true, true, true, true]), (462, [true, true, true, true]), (495, [true, true, true, true]), (528, [true, true, true, true]), (551, [true, true, true, true]), (584, [true, true, true, true]), (607, [true, true, true, true]), (630, [true, true, true, true]), (653, [true, true, true, true]), (676, [true, true, true, true]), (699, [true, true, true, true]), (722, [true, true, true, true]), (745, [true, true, true, true]), (768, [true, true, true, true]), (791, [true, true, true, true]), (814, [true, true, true, true]), (837, [true, true, true, true]), (850, [true, true, true, true]), (883, [true, true, true, true]), (916, [true, true, true, true]), (949, [true, true, true, true]), (972, [true, true, true, true]), (995, [true, true, true, true]), (1018, [true, true, true, true]), (1041, [true, true, true, true]), (1054, [true, true, true, true]), (1067, [true, true, true, true]), (1090, [true, true, true, true]), (1113, [true, true, true, true]), (1126, [true, true, true, true]), (1169, [true, true, true, true]), (1222, [true, true, true, true]), (1265, [true, true, true, true]), (1298, [true, true, true, true]), (1321, [true, true, true, true]), (1354, [true, true, true, true]), (1387, [true, true, true, true]), (1410, [true, true, true, true]), (1433, [true, true, true, true]), (1466, [true, true, true, true]), (1499, [true, true, true, true]), (1512, [true, true, true, true]), (1525, [true, true, true, true]), (1538, [true, true, true, true]), (1571, [true, true, true, true]), (1604, [true, true, true, true]), (1637, [true, true, true, true]), (1670, [true, true, true, true]), (1703, [true, true, true, true]), (1726, [true, true, true, true]), (1749, [true, true, true, true]), (1762, [true, true, true, true]), (1785, [true, true, true, true]), (1818, [true, true, true, true]), (1851, [true, true, true, true]), (1904, [true, true, true, true]), (1938, [true, true, true, true]), (1962, [true, true, true, true]), (2005, [true, true, true, true]), (2048, [true, true, true, true]), (2061, [true, true, true, true]), (2074, [true, true, true, true]), (2107, [true, true, true, true]), (2150, [true, true, true, true]), (2183, [true, true, true, true]), (2206, [true, true, true, true]), (2229, [true, true, true, true]), (2252, [true, true, true, true]), (2295, [true, true, true, true]), (2368, [true, true, true, true])] : List (Nat × List Bool))) (kap := (fun pc al st M => (match Nat.beq pc 18 with
      | true => (match al, st with
        | [some (.inr (.inr (62, 5200))), some (.inr (.inr (10, 0))), some (.inr (.inr (11, 205))), some (.inl x3)], [] => f345_18 z nL xs n x3 M
        | _, _ => none)
      | false => (match Nat.beq pc 340 with
      | true => (match al, st with
        | [some (.inr (.inr (62, 5200))), some (.inr (.inr (10, 0))), some (.inr (.inr (11, 205))), some (.inl x3)], [] => f345_340 z nL xs (f345_18 z nL xs n) z x3 M
        | _, _ => none)
      | false => (match Nat.beq pc 403 with
      | true => (match al, st with
        | [some (.inr (.inr (62, 5200))), some (.inr (.inr (10, 0))), some (.inr (.inr (11, 205))), some (.inl x3)], [] => f345_403 z nL xs (f345_18 z nL xs n) z x3 M
        | _, _ => none)
      | false => (match Nat.beq pc 426 with
      | true => (match al, st with
        | [some (.inr (.inr (62, 5200))), some (.inr (.inr (10, 0))), some (.inr (.inr (11, 205))), some (.inl x3)], [] => f345_426 z nL xs (f345_18 z nL xs n) z x3 M
        | _, _ => none)
      | false => (match Nat.beq pc 439 with
      | true => (match al, st with
        | [some (.inr (.inr (62, 5200))), some (.inr (.inr (10, 0))), some (.inr (.inr (11, 205))), some (.inl x3)], [] => f345_439 z nL xs (f345_18 z nL xs n) z x3 M
        | _, _ => none)
      | false => (match Nat.beq pc 462 with
      | true => (match al, st with
        | [some (.inr (.inr (62, 5200))), some (.inr (.inr (10, 0))), some (.inr (.inr (11, 205))), some (.inl x3)], [] => f345_462 z nL xs (f345_18 z nL xs n) z x3 M
        | _, _ => none)
      | false => (match Nat.beq pc 495 with
      | true => (match al, st with
        | [some (.inr (.inr (62, 5200))), some (.inr (.inr (10, 0))), some (.inr (.inr (11, 205))), some (.inl x3)], [] => f345_495 z nL xs (f345_18 z nL xs n) z x3 M
        | _, _ => none)
      | false => (match Nat.beq pc 528 with
      | true => (match al, st with
        | [some (.inr (.inr (62, 5200))), some (.inr (.inr (10, 0))), some (.inr (.inr (11, 205))), some (.inl x3)], [] => f345_528 z nL xs (f345_18 z nL xs n) z x3 M
        | _, _ => none)
      | false => (match Nat.beq pc 551 with
      | true => (match al, st with
        | [some (.inr (.inr (62, 5200))), some (.inr (.inr (10, 0))), some (.inr (.inr (11, 205))), some (.inl x3)], [] => f345_551 z nL xs (f345_18 z nL xs n) z x3 M
        | _, _ => none)
      | false => (match Nat.beq pc 584 with
      | true => (match al, st with
        | [some (.inr (.inr (62, 5200))), some (.inr (.inr (10, 0))), some (.inr (.inr (11, 205))), some (.inl x3)], [] => f345_584 z nL xs (f345_18 z nL xs n) z x3 M
        | _, _ => none)
      | false => (match Nat.beq pc 607 with
      | true => (match al, st with
        | [some (.inr (.inr (62, 5200))), some (.inr (.inr (10, 0))), some (.inr (.inr (11, 205))), some (.inl x3)], [] => f345_607 z nL xs (f345_18 z nL xs n) z x3 M
        | _, _ => none)
      | false => (match Nat.beq pc 630 with
      | true => (match al, st with
        | [some (.inr (.inr (62, 5200))), some (.inr (.inr (10, 0))), some (.inr (.inr (11, 205))), some (.inl x3)], [] => f345_630 z nL xs (f345_18 z nL xs n) z x3 M
        | _, _ => none)
      | false => (match Nat.beq pc 653 with
      | true => (match al, st with
        | [some (.inr (.inr (62, 5200))), some (.inr (.inr (10, 0))), some (.inr (.inr (11, 205))), some (.inl x3)], [] => f345_653 z nL xs (f345_18 z nL xs n) z x3 M
        | _, _ => none)
      | false => (match Nat.beq pc 676 with
      | true => (match al, st with
        | [some (.inr (.inr (62, 5200))), some (.inr (.inr (10, 0))), some (.inr (.inr (11, 205))), some (.inl x3)], [] => f345_676 z nL xs (f345_18 z nL xs n) z x3 M
        | _, _ => none)
      | false => (match Nat.beq pc 699 with
      | true => (match al, st with
        | [some (.inr (.inr (62, 5200))), some (.inr (.inr (10, 0))), some (.inr (.inr (11, 205))), some (.inl x3)], [] => f345_699 z nL xs (f345_18 z nL xs n) z x3 M
        | _, _ => none)
      | false => (match Nat.beq pc 722 with
      | true => (match al, st with
        | [some (.inr (.inr (62, 5200))), some (.inr (.inr (10, 0))), some (.inr (.inr (11, 205))), some (.inl x3)], [] => f345_722 z nL xs (f345_18 z nL xs n) z x3 M
        | _, _ => none)
      | false => (match Nat.beq pc 745 with
      | true => (match al, st with
        | [some (.inr (.inr (62, 5200))), some (.inr (.inr (10, 0))), some (.inr (.inr (11, 205))), some (.inl x3)], [] => f345_745 z nL xs (f345_18 z nL xs n) z x3 M
        | _, _ => none)
      | false => (match Nat.beq pc 768 with
      | true => (match al, st with
        | [some (.inr (.inr (62, 5200))), some (.inr (.inr (10, 0))), some (.inr (.inr (11, 205))), some (.inl x3)], [] => f345_768 z nL xs (f345_18 z nL xs n) z x3 M
        | _, _ => none)
      | false => (match Nat.beq pc 791 with
      | true => (match al, st with
        | [some (.inr (.inr (62, 5200))), some (.inr (.inr (10, 0))), some (.inr (.inr (11, 205))), some (.inl x3)], [] => f345_791 z nL xs (f345_18 z nL xs n) z x3 M
        | _, _ => none)
      | false => (match Nat.beq pc 814 with
      | true => (match al, st with
        | [some (.inr (.inr (62, 5200))), some (.inr (.inr (10, 0))), some (.inr (.inr (11, 205))), some (.inl x3)], [] => f345_814 z nL xs (f345_18 z nL xs n) z x3 M
        | _, _ => none)
      | false => (match Nat.beq pc 837 with
      | true => (match al, st with
        | [some (.inr (.inr (62, 5200))), some (.inr (.inr (10, 0))), some (.inr (.inr (11, 205))), some (.inl x3)], [] => f345_837 z nL xs (f345_18 z nL xs n) z x3 M
        | _, _ => none)
      | false => (match Nat.beq pc 850 with
      | true => (match al, st with
        | [some (.inr (.inr (62, 5200))), some (.inr (.inr (10, 0))), some (.inr (.inr (11, 205))), some (.inl x3)], [] => f345_850 z nL xs (f345_18 z nL xs n) z x3 M
        | _, _ => none)
      | false => (match Nat.beq pc 883 with
      | true => (match al, st with
        | [some (.inr (.inr (62, 5200))), some (.inr (.inr (10, 0))), some (.inr (.inr (11, 205))), some (.inl x3)], [] => f345_883 z nL xs (f345_18 z nL xs n) z x3 M
        | _, _ => none)
      | false => (match Nat.beq pc 916 with
      | true => (match al, st with
        | [some (.inr (.inr (62, 5200))), some (.inr (.inr (10, 0))), some (.inr (.inr (11, 205))), some (.inl x3)], [] => f345_916 z nL xs (f345_18 z nL xs n) z x3 M
        | _, _ => none)
      | false => (match Nat.beq pc 949 with
      | true => (match al, st with
        | [some (.inr (.inr (62, 5200))), some (.inr (.inr (10, 0))), some (.inr (.inr (11, 205))), some (.inl x3)], [] => f345_949 z nL xs (f345_18 z nL xs n) z x3 M
        | _, _ => none)
      | false => (match Nat.beq pc 972 with
      | true => (match al, st with
        | [some (.inr (.inr (62, 5200))), some (.inr (.inr (10, 0))), some (.inr (.inr (11, 205))), some (.inl x3)], [] => f345_972 z nL xs (f345_18 z nL xs n) z x3 M
        | _, _ => none)
      | false => (match Nat.beq pc 995 with
      | true => (match al, st with
        | [some (.inr (.inr (62, 5200))), some (.inr (.inr (10, 0))), some (.inr (.inr (11, 205))), some (.inl x3)], [] => f345_995 z nL xs (f345_18 z nL xs n) z x3 M
        | _, _ => none)
      | false => (match Nat.beq pc 1018 with
      | true => (match al, st with
        | [some (.inr (.inr (62, 5200))), some (.inr (.inr (10, 0))), some (.inr (.inr (11, 205))), some (.inl x3)], [] => f345_1018 z nL xs (f345_18 z nL xs n) z x3 M
        | _, _ => none)
      | false => (match Nat.beq pc 1041 with
      | true => (match al, st with
        | [some (.inr (.inr (62, 5200))), some (.inr (.inr (10, 0))), some (.inr (.inr (11, 205))), some (.inl x3)], [] => f345_1041 z nL xs (f345_18 z nL xs n) z x3 M
        | _, _ => none)
      | false => (match Nat.beq pc 1054 with
      | true => (match al, st with
        | [some (.inr (.inr (62, 5200))), some (.inr (.inr (10, 0))), some (.inr (.inr (11, 205))), some (.inl x3)], [] => f345_1054 z nL xs (f345_18 z nL xs n) z x3 M
        | _, _ => none)
      | false => (match Nat.beq pc 1067 with
      | true => (match al, st with
        | [some (.inr (.inr (62, 5200))), some (.inr (.inr (10, 0))), some (.inr (.inr (11, 205))), some (.inl x3)], [] => f345_1067 z nL xs (f345_18 z nL xs n) z x3 M
        | _, _ => none)
      | false => (match Nat.beq pc 1090 with
      | true => (match al, st with
        | [some (.inr (.inr (62, 5200))), some (.inr (.inr (10, 0))), some (.inr (.inr (11, 205))), some (.inl x3)], [] => f345_1090 z nL xs (f345_18 z nL xs n) z x3 M
        | _, _ => none)
      | false => (match Nat.beq pc 1113 with
      | true => (match al, st with
        | [some (.inr (.inr (62, 5200))), some (.inr (.inr (10, 0))), some (.inr (.inr (11, 205))), some (.inl x3)], [] => f345_1113 z nL xs (f345_18 z nL xs n) z x3 M
        | _, _ => none)
      | false => (match Nat.beq pc 1126 with
      | true => (match al, st with
        | [some (.inr (.inr (62, 5200))), some (.inr (.inr (10, 0))), some (.inr (.inr (11, 205))), some (.inl x3)], [] => f345_1126 z nL xs (f345_18 z nL xs n) z x3 M
        | _, _ => none)
      | false => (match Nat.beq pc 1169 with
      | true => (match al, st with
        | [some (.inr (.inr (62, 5200))), some (.inr (.inr (10, 0))), some (.inr (.inr (11, 205))), some (.inl x3)], [] => f345_1169 z nL xs (f345_18 z nL xs n) z x3 M
        | _, _ => none)
      | false => (match Nat.beq pc 1222 with
      | true => (match al, st with
        | [some (.inr (.inr (62, 5200))), some (.inr (.inr (10, 0))), some (.inr (.inr (11, 205))), some (.inl x3)], [] => f345_1222 z nL xs (f345_18 z nL xs n) z x3 M
        | _, _ => none)
      | false => (match Nat.beq pc 1265 with
      | true => (match al, st with
        | [some (.inr (.inr (62, 5200))), some (.inr (.inr (10, 0))), some (.inr (.inr (11, 205))), some (.inl x3)], [] => f345_1265 z nL xs (f345_18 z nL xs n) z x3 M
        | _, _ => none)
      | false => (match Nat.beq pc 1298 with
      | true => (match al, st with
        | [some (.inr (.inr (62, 5200))), some (.inr (.inr (10, 0))), some (.inr (.inr (11, 205))), some (.inl x3)], [] => f345_1298 z nL xs (f345_18 z nL xs n) z x3 M
        | _, _ => none)
      | false => (match Nat.beq pc 1321 with
      | true => (match al, st with
        | [some (.inr (.inr (62, 5200))), some (.inr (.inr (10, 0))), some (.inr (.inr (11, 205))), some (.inl x3)], [] => f345_1321 z nL xs (f345_18 z nL xs n) z x3 M
        | _, _ => none)
      | false => (match Nat.beq pc 1354 with
      | true => (match al, st with
        | [some (.inr (.inr (62, 5200))), some (.inr (.inr (10, 0))), some (.inr (.inr (11, 205))), some (.inl x3)], [] => f345_1354 z nL xs (f345_18 z nL xs n) z x3 M
        | _, _ => none)
      | false => (match Nat.beq pc 1387 with
      | true => (match al, st with
        | [some (.inr (.inr (62, 5200))), some (.inr (.inr (10, 0))), some (.inr (.inr (11, 205))), some (.inl x3)], [] => f345_1387 z nL xs (f345_18 z nL xs n) z x3 M
        | _, _ => none)
      | false => (match Nat.beq pc 1410 with
      | true => (match al, st with
        | [some (.inr (.inr (62, 5200))), some (.inr (.inr (10, 0))), some (.inr (.inr (11, 205))), some (.inl x3)], [] => f345_1410 z nL xs (f345_18 z nL xs n) z x3 M
        | _, _ => none)
      | false => (match Nat.beq pc 1433 with
      | true => (match al, st with
        | [some (.inr (.inr (62, 5200))), some (.inr (.inr (10, 0))), some (.inr (.inr (11, 205))), some (.inl x3)], [] => f345_1433 z nL xs (f345_18 z nL xs n) z x3 M
        | _, _ => none)
      | false => (match Nat.beq pc 1466 with
      | true => (match al, st with
        | [some (.inr (.inr (62, 5200))), some (.inr (.inr (10, 0))), some (.inr (.inr (11, 205))), some (.inl x3)], [] => f345_1466 z nL xs (f345_18 z nL xs n) z x3 M
        | _, _ => none)
      | false => (match Nat.beq pc 1499 with
      | true => (match al, st with
        | [some (.inr (.inr (62, 5200))), some (.inr (.inr (10, 0))), some (.inr (.inr (11, 205))), some (.inl x3)], [] => f345_1499 z nL xs (f345_18 z nL xs n) z x3 M
        | _, _ => none)
      | false => (match Nat.beq pc 1512 with
      | true => (match al, st with
        | [some (.inr (.inr (62, 5200))), some (.inr (.inr (10, 0))), some (.inr (.inr (11, 205))), some (.inl x3)], [] => f345_1512 z nL xs (f345_18 z nL xs n) z x3 M
        | _, _ => none)
      | false => (match Nat.beq pc 1525 with
      | true => (match al, st with
        | [some (.inr (.inr (62, 5200))), some (.inr (.inr (10, 0))), some (.inr (.inr (11, 205))), some (.inl x3)], [] => f345_1525 z nL xs (f345_18 z nL xs n) z x3 M
        | _, _ => none)
      | false => (match Nat.beq pc 1538 with
      | true => (match al, st with
        | [some (.inr (.inr (62, 5200))), some (.inr (.inr (10, 0))), some (.inr (.inr (11, 205))), some (.inl x3)], [] => f345_1538 z nL xs (f345_18 z nL xs n) z x3 M
        | _, _ => none)
      | false => (match Nat.beq pc 1571 with
      | true => (match al, st with
        | [some (.inr (.inr (62, 5200))), some (.inr (.inr (10, 0))), some (.inr (.inr (11, 205))), some (.inl x3)], [] => f345_1571 z nL xs (f345_18 z nL xs n) z x3 M
        | _, _ => none)
      | false => (match Nat.beq pc 1604 with
      | true => (match al, st with
        | [some (.inr (.inr (62, 5200))), some (.inr (.inr (10, 0))), some (.inr (.inr (11, 205))), some (.inl x3)], [] => f345_1604 z nL xs (f345_18 z nL xs n) z x3 M
        | _, _ => none)
      | false => (match Nat.beq pc 1637 with
      | true => (match al, st with
        | [some (.inr (.inr (62, 5200))), some (.inr (.inr (10, 0))), some (.inr (.inr (11, 205))), some (.inl x3)], [] => f345_1637 z nL xs (f345_18 z nL xs n) z x3 M
        | _, _ => none)
      | false => (match Nat.beq pc 1670 with
      | true => (match al, st with
        | [some (.inr (.inr (62, 5200))), some (.inr (.inr (10, 0))), some (.inr (.inr (11, 205))), some (.inl x3)], [] => f345_1670 z nL xs (f345_18 z nL xs n) z x3 M
        | _, _ => none)
      | false => (match Nat.beq pc 1703 with
      | true => (match al, st with
        | [some (.inr (.inr (62, 5200))), some (.inr (.inr (10, 0))), some (.inr (.inr (11, 205))), some (.inl x3)], [] => f345_1703 z nL xs (f345_18 z nL xs n) z x3 M
        | _, _ => none)
      | false => (match Nat.beq pc 1726 with
      | true => (match al, st with
        | [some (.inr (.inr (62, 5200))), some (.inr (.inr (10, 0))), some (.inr (.inr (11, 205))), some (.inl x3)], [] => f345_1726 z nL xs (f345_18 z nL xs n) z x3 M
        | _, _ => none)
      | false => (match Nat.beq pc 1749 with
      | true => (match al, st with
        | [some (.inr (.inr (62, 5200))), some (.inr (.inr (10, 0))), some (.inr (.inr (11, 205))), some (.inl x3)], [] => f345_1749 z nL xs (f345_18 z nL xs n) z x3 M
        | _, _ => none)
      | false => (match Nat.beq pc 1762 with
      | true => (match al, st with
        | [some (.inr (.inr (62, 5200))), some (.inr (.inr (10, 0))), some (.inr (.inr (11, 205))), some (.inl x3)], [] => f345_1762 z nL xs (f345_18 z nL xs n) z x3 M
        | _, _ => none)
      | false => (match Nat.beq pc 1785 with
      | true => (match al, st with
        | [some (.inr (.inr (62, 5200))), some (.inr (.inr (10, 0))), some (.inr (.inr (11, 205))), some (.inl x3)], [] => f345_1785 z nL xs (f345_18 z nL xs n) z x3 M
        | _, _ => none)
      | false => (match Nat.beq pc 1818 with
      | true => (match al, st with
        | [some (.inr (.inr (62, 5200))), some (.inr (.inr (10, 0))), some (.inr (.inr (11, 205))), some (.inl x3)], [] => f345_1818 z nL xs (f345_18 z nL xs n) z x3 M
        | _, _ => none)
      | false => (match Nat.beq pc 1851 with
      | true => (match al, st with
        | [some (.inr (.inr (62, 5200))), some (.inr (.inr (10, 0))), some (.inr (.inr (11, 205))), some (.inl x3)], [] => f345_1851 z nL xs (f345_18 z nL xs n) z x3 M
        | _, _ => none)
      | false => (match Nat.beq pc 1904 with
      | true => (match al, st with
        | [some (.inr (.inr (62, 5200))), some (.inr (.inr (10, 0))), some (.inr (.inr (11, 205))), some (.inl x3)], [] => f345_1904 z nL xs (f345_18 z nL xs n) z x3 M
        | _, _ => none)
      | false => (match Nat.beq pc 1938 with
      | true => (match al, st with
        | [some (.inr (.inr (62, 5200))), some (.inr (.inr (10, 0))), some (.inr (.inr (11, 205))), some (.inl x3)], [] => f345_1938 z nL xs (f345_18 z nL xs n) z x3 M
        | _, _ => none)
      | false => (match Nat.beq pc 1962 with
      | true => (match al, st with
        | [some (.inr (.inr (62, 5200))), some (.inr (.inr (10, 0))), some (.inr (.inr (11, 205))), some (.inl x3)], [] => f345_1962 z nL xs (f345_18 z nL xs n) z x3 M
        | _, _ => none)
      | false => (match Nat.beq pc 2005 with
      | true => (match al, st with
        | [some (.inr (.inr (62, 5200))), some (.inr (.inr (10, 0))), some (.inr (.inr (11, 205))), some (.inl x3)], [] => f345_2005 z nL xs (f345_18 z nL xs n) z x3 M
        | _, _ => none)
      | false => (match Nat.beq pc 2048 with
      | true => (match al, st with
        | [some (.inr (.inr (62, 5200))), some (.inr (.inr (10, 0))), some (.inr (.inr (11, 205))), some (.inl x3)], [] => f345_2048 z nL xs (f345_18 z nL xs n) z x3 M
        | _, _ => none)
      | false => (match Nat.beq pc 2061 with
      | true => (match al, st with
        | [some (.inr (.inr (62, 5200))), some (.inr (.inr (10, 0))), some (.inr (.inr (11, 205))), some (.inl x3)], [] => f345_2061 z nL xs (f345_18 z nL xs n) z x3 M
        | _, _ => none)
      | false => (match Nat.beq pc 2074 with
      | true => (match al, st with
        | [some (.inr (.inr (62, 5200))), some (.inr (.inr (10, 0))), some (.inr (.inr (11, 205))), some (.inl x3)], [] => f345_2074 z nL xs (f345_18 z nL xs n) z x3 M
        | _, _ => none)
      | false => (match Nat.beq pc 2107 with
      | true => (match al, st with
        | [some (.inr (.inr (62, 5200))), some (.inr (.inr (10, 0))), some (.inr (.inr (11, 205))), some (.inl x3)], [] => f345_2107 z nL xs (f345_18 z nL xs n) z x3 M
        | _, _ => none)
      | false => (match Nat.beq pc 2150 with
      | true => (match al, st with
        | [some (.inr (.inr (62, 5200))), some (.inr (.inr (10, 0))), some (.inr (.inr (11, 205))), some (.inl x3)], [] => f345_2150 z nL xs (f345_18 z nL xs n) z x3 M
        | _, _ => none)
      | false => (match Nat.beq pc 2183 with
      | true => (match al, st with
        | [some (.inr (.inr (62, 5200))), some (.inr (.inr (10, 0))), some (.inr (.inr (11, 205))), some (.inl x3)], [] => f345_2183 z nL xs (f345_18 z nL xs n) z x3 M
        | _, _ => none)
      | false => (match Nat.beq pc 2206 with
      | true => (match al, st with
        | [some (.inr (.inr (62, 5200))), some (.inr (.inr (10, 0))), some (.inr (.inr (11, 205))), some (.inl x3)], [] => f345_2206 z nL xs (f345_18 z nL xs n) z x3 M
        | _, _ => none)
      | false => (match Nat.beq pc 2229 with
      | true => (match al, st with
        | [some (.inr (.inr (62, 5200))), some (.inr (.inr (10, 0))), some (.inr (.inr (11, 205))), some (.inl x3)], [] => f345_2229 z nL xs (f345_18 z nL xs n) z x3 M
        | _, _ => none)
      | false => (match Nat.beq pc 2252 with
      | true => (match al, st with
        | [some (.inr (.inr (62, 5200))), some (.inr (.inr (10, 0))), some (.inr (.inr (11, 205))), some (.inl x3)], [] => f345_2252 z nL xs (f345_18 z nL xs n) z x3 M
        | _, _ => none)
      | false => (match Nat.beq pc 2295 with
      | true => (match al, st with
        | [some (.inr (.inr (62, 5200))), some (.inr (.inr (10, 0))), some (.inr (.inr (11, 205))), some (.inl x3)], [] => f345_2295 z nL xs (f345_18 z nL xs n) z x3 M
        | _, _ => none)
      | false => (match Nat.beq pc 2368 with
      | true => (match al, st with
        | [some (.inr (.inr (62, 5200))), some (.inr (.inr (10, 0))), some (.inr (.inr (11, 205))), some (.inl x3)], [] => f345_2368 z nL xs (f345_18 z nL xs n) z x3 M
        | _, _ => none)
      | false => none)))))))))))))))))))))))))))))))))))))))))))))))))))))))))))))))))))))))))))) (hsL_18 z) F hR kcdL_h (by rw [am_l345]; decide) (fun pc al st M hk => by
      try dsimp only at hk
      rcases hb0 : Nat.beq pc 18 with _ | _
      rotate_left
      · rw [hb0] at hk
        rw [am_beq hb0]
        dsimp only at hk
        split at hk
        · exact ih _ _ hk
        · cases hk
      rw [hb0] at hk
      dsimp only at hk
      rcases hb1 : Nat.beq pc 340 with _ | _
      rotate_left
      · rw [hb1] at hk
        rw [am_beq hb1]
        dsimp only at hk
        split at hk
        · exact e345_340 z nL xs F r hR _ ih _ _ _ hk
        · cases hk
      rw [hb1] at hk
      dsimp only at hk
      rcases hb2 : Nat.beq pc 403 with _ | _
      rotate_left
      · rw [hb2] at hk
        rw [am_beq hb2]
        dsimp only at hk
        split at hk
        · exact e345_403 z nL xs F r hR _ ih _ _ _ hk
        · cases hk
      rw [hb2] at hk
      dsimp only at hk
      rcases hb3 : Nat.beq pc 426 with _ | _
      rotate_left
      · rw [hb3] at hk
        rw [am_beq hb3]
        dsimp only at hk
        split at hk
        · exact e345_426 z nL xs F r hR _ ih _ _ _ hk
        · cases hk
      rw [hb3] at hk
      dsimp only at hk
      rcases hb4 : Nat.beq pc 439 with _ | _
      rotate_left
      · rw [hb4] at hk
        rw [am_beq hb4]
        dsimp only at hk
        split at hk
        · exact e345_439 z nL xs F r hR _ ih _ _ _ hk
        · cases hk
      rw [hb4] at hk
      dsimp only at hk
      rcases hb5 : Nat.beq pc 462 with _ | _
      rotate_left
      · rw [hb5] at hk
        rw [am_beq hb5]
        dsimp only at hk
        split at hk
        · exact e345_462 z nL xs F r hR _ ih _ _ _ hk
        · cases hk
      rw [hb5] at hk
      dsimp only at hk
      rcases hb6 : Nat.beq pc 495 with _ | _
      rotate_left
      · rw [hb6] at hk
        rw [am_beq hb6]
        dsimp only at hk
        split at hk
        · exact e345_495 z nL xs F r hR _ ih _ _ _ hk
        · cases hk
      rw [hb6] at hk
      dsimp only at hk
      rcases hb7 : Nat.beq pc 528 with _ | _
      rotate_left
      · rw [hb7] at hk
        rw [am_beq hb7]
        dsimp only at hk
        split at hk
        · exact e345_528 z nL xs F r hR _ ih _ _ _ hk
        · cases hk
      rw [hb7] at hk
      dsimp only at hk
      rcases hb8 : Nat.beq pc 551 with _ | _
      rotate_left
      · rw [hb8] at hk
        rw [am_beq hb8]
        dsimp only at hk
        split at hk
        · exact e345_551 z nL xs F r hR _ ih _ _ _ hk
        · cases hk
      rw [hb8] at hk
      dsimp only at hk
      rcases hb9 : Nat.beq pc 584 with _ | _
      rotate_left
      · rw [hb9] at hk
        rw [am_beq hb9]
        dsimp only at hk
        split at hk
        · exact e345_584 z nL xs F r hR _ ih _ _ _ hk
        · cases hk
      rw [hb9] at hk
      dsimp only at hk
      rcases hb10 : Nat.beq pc 607 with _ | _
      rotate_left
      · rw [hb10] at hk
        rw [am_beq hb10]
        dsimp only at hk
        split at hk
        · exact e345_607 z nL xs F r hR _ ih _ _ _ hk
        · cases hk
      rw [hb10] at hk
      dsimp only at hk
      rcases hb11 : Nat.beq pc 630 with _ | _
      rotate_left
      · rw [hb11] at hk
        rw [am_beq hb11]
        dsimp only at hk
        split at hk
        · exact e345_630 z nL xs F r hR _ ih _ _ _ hk
        · cases hk
      rw [hb11] at hk
      dsimp only at hk
      rcases hb12 : Nat.beq pc 653 with _ | _
      rotate_left
      · rw [hb12] at hk
        rw [am_beq hb12]
        dsimp only at hk
        split at hk
        · exact e345_653 z nL xs F r hR _ ih _ _ _ hk
        · cases hk
      rw [hb12] at hk
      dsimp only at hk
      rcases hb13 : Nat.beq pc 676 with _ | _
      rotate_left
      · rw [hb13] at hk
        rw [am_beq hb13]
        dsimp only at hk
        split at hk
        · exact e345_676 z nL xs F r hR _ ih _ _ _ hk
        · cases hk
      rw [hb13] at hk
      dsimp only at hk
      rcases hb14 : Nat.beq pc 699 with _ | _
      rotate_left
      · rw [hb14] at hk
        rw [am_beq hb14]
        dsimp only at hk
        split at hk
        · exact e345_699 z nL xs F r hR _ ih _ _ _ hk
        · cases hk
      rw [hb14] at hk
      dsimp only at hk
      rcases hb15 : Nat.beq pc 722 with _ | _
      rotate_left
      · rw [hb15] at hk
        rw [am_beq hb15]
        dsimp only at hk
        split at hk
        · exact e345_722 z nL xs F r hR _ ih _ _ _ hk
        · cases hk
      rw [hb15] at hk
      dsimp only at hk
      rcases hb16 : Nat.beq pc 745 with _ | _
      rotate_left
      · rw [hb16] at hk
        rw [am_beq hb16]
        dsimp only at hk
        split at hk
        · exact e345_745 z nL xs F r hR _ ih _ _ _ hk
        · cases hk
      rw [hb16] at hk
      dsimp only at hk
      rcases hb17 : Nat.beq pc 768 with _ | _
      rotate_left
      · rw [hb17] at hk
        rw [am_beq hb17]
        dsimp only at hk
        split at hk
        · exact e345_768 z nL xs F r hR _ ih _ _ _ hk
        · cases hk
      rw [hb17] at hk
      dsimp only at hk
      rcases hb18 : Nat.beq pc 791 with _ | _
      rotate_left
      · rw [hb18] at hk
        rw [am_beq hb18]
        dsimp only at hk
        split at hk
        · exact e345_791 z nL xs F r hR _ ih _ _ _ hk
        · cases hk
      rw [hb18] at hk
      dsimp only at hk
      rcases hb19 : Nat.beq pc 814 with _ | _
      rotate_left
      · rw [hb19] at hk
        rw [am_beq hb19]
        dsimp only at hk
        split at hk
        · exact e345_814 z nL xs F r hR _ ih _ _ _ hk
        · cases hk
      rw [hb19] at hk
      dsimp only at hk
      rcases hb20 : Nat.beq pc 837 with _ | _
      rotate_left
      · rw [hb20] at hk
        rw [am_beq hb20]
        dsimp only at hk
        split at hk
        · exact e345_837 z nL xs F r hR _ ih _ _ _ hk
        · cases hk
      rw [hb20] at hk
      dsimp only at hk
      rcases hb21 : Nat.beq pc 850 with _ | _
      rotate_left
      · rw [hb21] at hk
        rw [am_beq hb21]
        dsimp only at hk
        split at hk
        · exact e345_850 z nL xs F r hR _ ih _ _ _ hk
        · cases hk
      rw [hb21] at hk
      dsimp only at hk
      rcases hb22 : Nat.beq pc 883 with _ | _
      rotate_left
      · rw [hb22] at hk
        rw [am_beq hb22]
        dsimp only at hk
        split at hk
        · exact e345_883 z nL xs F r hR _ ih _ _ _ hk
        · cases hk
      rw [hb22] at hk
      dsimp only at hk
      rcases hb23 : Nat.beq pc 916 with _ | _
      rotate_left
      · rw [hb23] at hk
        rw [am_beq hb23]
        dsimp only at hk
        split at hk
        · exact e345_916 z nL xs F r hR _ ih _ _ _ hk
        · cases hk
      rw [hb23] at hk
      dsimp only at hk
      rcases hb24 : Nat.beq pc 949 with _ | _
      rotate_left
      · rw [hb24] at hk
        rw [am_beq hb24]
        dsimp only at hk
        split at hk
        · exact e345_949 z nL xs F r hR _ ih _ _ _ hk
        · cases hk
      rw [hb24] at hk
      dsimp only at hk
      rcases hb25 : Nat.beq pc 972 with _ | _
      rotate_left
      · rw [hb25] at hk
        rw [am_beq hb25]
        dsimp only at hk
        split at hk
        · exact e345_972 z nL xs F r hR _ ih _ _ _ hk
        · cases hk
      rw [hb25] at hk
      dsimp only at hk
      rcases hb26 : Nat.beq pc 995 with _ | _
      rotate_left
      · rw [hb26] at hk
        rw [am_beq hb26]
        dsimp only at hk
        split at hk
        · exact e345_995 z nL xs F r hR _ ih _ _ _ hk
        · cases hk
      rw [hb26] at hk
      dsimp only at hk
      rcases hb27 : Nat.beq pc 1018 with _ | _
      rotate_left
      · rw [hb27] at hk
        rw [am_beq hb27]
        dsimp only at hk
        split at hk
        · exact e345_1018 z nL xs F r hR _ ih _ _ _ hk
        · cases hk
      rw [hb27] at hk
      dsimp only at hk
      rcases hb28 : Nat.beq pc 1041 with _ | _
      rotate_left
      · rw [hb28] at hk
        rw [am_beq hb28]
        dsimp only at hk
        split at hk
        · exact e345_1041 z nL xs F r hR _ ih _ _ _ hk
        · cases hk
      rw [hb28] at hk
      dsimp only at hk
      rcases hb29 : Nat.beq pc 1054 with _ | _
      rotate_left
      · rw [hb29] at hk
        rw [am_beq hb29]
        dsimp only at hk
        split at hk
        · exact e345_1054 z nL xs F r hR _ ih _ _ _ hk
        · cases hk
      rw [hb29] at hk
      dsimp only at hk
      rcases hb30 : Nat.beq pc 1067 with _ | _
      rotate_left
      · rw [hb30] at hk
        rw [am_beq hb30]
        dsimp only at hk
        split at hk
        · exact e345_1067 z nL xs F r hR _ ih _ _ _ hk
        · cases hk
      rw [hb30] at hk
      dsimp only at hk
      rcases hb31 : Nat.beq pc 1090 with _ | _
      rotate_left
      · rw [hb31] at hk
        rw [am_beq hb31]
        dsimp only at hk
        split at hk
        · exact e345_1090 z nL xs F r hR _ ih _ _ _ hk
        · cases hk
      rw [hb31] at hk
      dsimp only at hk
      rcases hb32 : Nat.beq pc 1113 with _ | _
      rotate_left
      · rw [hb32] at hk
        rw [am_beq hb32]
        dsimp only at hk
        split at hk
        · exact e345_1113 z nL xs F r hR _ ih _ _ _ hk
        · cases hk
      rw [hb32] at hk
      dsimp only at hk
      rcases hb33 : Nat.beq pc 1126 with _ | _
      rotate_left
      · rw [hb33] at hk
        rw [am_beq hb33]
        dsimp only at hk
        split at hk
        · exact e345_1126 z nL xs F r hR _ ih _ _ _ hk
        · cases hk
      rw [hb33] at hk
      dsimp only at hk
      rcases hb34 : Nat.beq pc 1169 with _ | _
      rotate_left
      · rw [hb34] at hk
        rw [am_beq hb34]
        dsimp only at hk
        split at hk
        · exact e345_1169 z nL xs F r hR _ ih _ _ _ hk
        · cases hk
      rw [hb34] at hk
      dsimp only at hk
      rcases hb35 : Nat.beq pc 1222 with _ | _
      rotate_left
      · rw [hb35] at hk
        rw [am_beq hb35]
        dsimp only at hk
        split at hk
        · exact e345_1222 z nL xs F r hR _ ih _ _ _ hk
        · cases hk
      rw [hb35] at hk
      dsimp only at hk
      rcases hb36 : Nat.beq pc 1265 with _ | _
      rotate_left
      · rw [hb36] at hk
        rw [am_beq hb36]
        dsimp only at hk
        split at hk
        · exact e345_1265 z nL xs F r hR _ ih _ _ _ hk
        · cases hk
      rw [hb36] at hk
      dsimp only at hk
      rcases hb37 : Nat.beq pc 1298 with _ | _
      rotate_left
      · rw [hb37] at hk
        rw [am_beq hb37]
        dsimp only at hk
        split at hk
        · exact e345_1298 z nL xs F r hR _ ih _ _ _ hk
        · cases hk
      rw [hb37] at hk
      dsimp only at hk
      rcases hb38 : Nat.beq pc 1321 with _ | _
      rotate_left
      · rw [hb38] at hk
        rw [am_beq hb38]
        dsimp only at hk
        split at hk
        · exact e345_1321 z nL xs F r hR _ ih _ _ _ hk
        · cases hk
      rw [hb38] at hk
      dsimp only at hk
      rcases hb39 : Nat.beq pc 1354 with _ | _
      rotate_left
      · rw [hb39] at hk
        rw [am_beq hb39]
        dsimp only at hk
        split at hk
        · exact e345_1354 z nL xs F r hR _ ih _ _ _ hk
        · cases hk
      rw [hb39] at hk
      dsimp only at hk
      rcases hb40 : Nat.beq pc 1387 with _ | _
      rotate_left
      · rw [hb40] at hk
        rw [am_beq hb40]
        dsimp only at hk
        split at hk
        · exact e345_1387 z nL xs F r hR _ ih _ _ _ hk
        · cases hk
      rw [hb40] at hk
      dsimp only at hk
      rcases hb41 : Nat.beq pc 1410 with _ | _
      rotate_left
      · rw [hb41] at hk
        rw [am_beq hb41]
        dsimp only at hk
        split at hk
        · exact e345_1410 z nL xs F r hR _ ih _ _ _ hk
        · cases hk
      rw [hb41] at hk
      dsimp only at hk
      rcases hb42 : Nat.beq pc 1433 with _ | _
      rotate_left
      · rw [hb42] at hk
        rw [am_beq hb42]
        dsimp only at hk
        split at hk
        · exact e345_1433 z nL xs F r hR _ ih _ _ _ hk
        · cases hk
      rw [hb42] at hk
      dsimp only at hk
      rcases hb43 : Nat.beq pc 1466 with _ | _
      rotate_left
      · rw [hb43] at hk
        rw [am_beq hb43]
        dsimp only at hk
        split at hk
        · exact e345_1466 z nL xs F r hR _ ih _ _ _ hk
        · cases hk
      rw [hb43] at hk
      dsimp only at hk
      rcases hb44 : Nat.beq pc 1499 with _ | _
      rotate_left
      · rw [hb44] at hk
        rw [am_beq hb44]
        dsimp only at hk
        split at hk
        · exact e345_1499 z nL xs F r hR _ ih _ _ _ hk
        · cases hk
      rw [hb44] at hk
      dsimp only at hk
      rcases hb45 : Nat.beq pc 1512 with _ | _
      rotate_left
      · rw [hb45] at hk
        rw [am_beq hb45]
        dsimp only at hk
        split at hk
        · exact e345_1512 z nL xs F r hR _ ih _ _ _ hk
        · cases hk
      rw [hb45] at hk
      dsimp only at hk
      rcases hb46 : Nat.beq pc 1525 with _ | _
      rotate_left
      · rw [hb46] at hk
        rw [am_beq hb46]
        dsimp only at hk
        split at hk
        · exact e345_1525 z nL xs F r hR _ ih _ _ _ hk
        · cases hk
      rw [hb46] at hk
      dsimp only at hk
      rcases hb47 : Nat.beq pc 1538 with _ | _
      rotate_left
      · rw [hb47] at hk
        rw [am_beq hb47]
        dsimp only at hk
        split at hk
        · exact e345_1538 z nL xs F r hR _ ih _ _ _ hk
        · cases hk
      rw [hb47] at hk
      dsimp only at hk
      rcases hb48 : Nat.beq pc 1571 with _ | _
      rotate_left
      · rw [hb48] at hk
        rw [am_beq hb48]
        dsimp only at hk
        split at hk
        · exact e345_1571 z nL xs F r hR _ ih _ _ _ hk
        · cases hk
      rw [hb48] at hk
      dsimp only at hk
      rcases hb49 : Nat.beq pc 1604 with _ | _
      rotate_left
      · rw [hb49] at hk
        rw [am_beq hb49]
        dsimp only at hk
        split at hk
        · exact e345_1604 z nL xs F r hR _ ih _ _ _ hk
        · cases hk
      rw [hb49] at hk
      dsimp only at hk
      rcases hb50 : Nat.beq pc 1637 with _ | _
      rotate_left
      · rw [hb50] at hk
        rw [am_beq hb50]
        dsimp only at hk
        split at hk
        · exact e345_1637 z nL xs F r hR _ ih _ _ _ hk
        · cases hk
      rw [hb50] at hk
      dsimp only at hk
      rcases hb51 : Nat.beq pc 1670 with _ | _
      rotate_left
      · rw [hb51] at hk
        rw [am_beq hb51]
        dsimp only at hk
        split at hk
        · exact e345_1670 z nL xs F r hR _ ih _ _ _ hk
        · cases hk
      rw [hb51] at hk
      dsimp only at hk
      rcases hb52 : Nat.beq pc 1703 with _ | _
      rotate_left
      · rw [hb52] at hk
        rw [am_beq hb52]
        dsimp only at hk
        split at hk
        · exact e345_1703 z nL xs F r hR _ ih _ _ _ hk
        · cases hk
      rw [hb52] at hk
      dsimp only at hk
      rcases hb53 : Nat.beq pc 1726 with _ | _
      rotate_left
      · rw [hb53] at hk
        rw [am_beq hb53]
        dsimp only at hk
        split at hk
        · exact e345_1726 z nL xs F r hR _ ih _ _ _ hk
        · cases hk
      rw [hb53] at hk
      dsimp only at hk
      rcases hb54 : Nat.beq pc 1749 with _ | _
      rotate_left
      · rw [hb54] at hk
        rw [am_beq hb54]
        dsimp only at hk
        split at hk
        · exact e345_1749 z nL xs F r hR _ ih _ _ _ hk
        · cases hk
      rw [hb54] at hk
      dsimp only at hk
      rcases hb55 : Nat.beq pc 1762 with _ | _
      rotate_left
      · rw [hb55] at hk
        rw [am_beq hb55]
        dsimp only at hk
        split at hk
        · exact e345_1762 z nL xs F r hR _ ih _ _ _ hk
        · cases hk
      rw [hb55] at hk
      dsimp only at hk
      rcases hb56 : Nat.beq pc 1785 with _ | _
      rotate_left
      · rw [hb56] at hk
        rw [am_beq hb56]
        dsimp only at hk
        split at hk
        · exact e345_1785 z nL xs F r hR _ ih _ _ _ hk
        · cases hk
      rw [hb56] at hk
      dsimp only at hk
      rcases hb57 : Nat.beq pc 1818 with _ | _
      rotate_left
      · rw [hb57] at hk
        rw [am_beq hb57]
        dsimp only at hk
        split at hk
        · exact e345_1818 z nL xs F r hR _ ih _ _ _ hk
        · cases hk
      rw [hb57] at hk
      dsimp only at hk
      rcases hb58 : Nat.beq pc 1851 with _ | _
      rotate_left
      · rw [hb58] at hk
        rw [am_beq hb58]
        dsimp only at hk
        split at hk
        · exact e345_1851 z nL xs F r hR _ ih _ _ _ hk
        · cases hk
      rw [hb58] at hk
      dsimp only at hk
      rcases hb59 : Nat.beq pc 1904 with _ | _
      rotate_left
      · rw [hb59] at hk
        rw [am_beq hb59]
        dsimp only at hk
        split at hk
        · exact e345_1904 z nL xs F r hR _ ih _ _ _ hk
        · cases hk
      rw [hb59] at hk
      dsimp only at hk
      rcases hb60 : Nat.beq pc 1938 with _ | _
      rotate_left
      · rw [hb60] at hk
        rw [am_beq hb60]
        dsimp only at hk
        split at hk
        · exact e345_1938 z nL xs F r hR _ ih _ _ _ hk
        · cases hk
      rw [hb60] at hk
      dsimp only at hk
      rcases hb61 : Nat.beq pc 1962 with _ | _
      rotate_left
      · rw [hb61] at hk
        rw [am_beq hb61]
        dsimp only at hk
        split at hk
        · exact e345_1962 z nL xs F r hR _ ih _ _ _ hk
        · cases hk
      rw [hb61] at hk
      dsimp only at hk
      rcases hb62 : Nat.beq pc 2005 with _ | _
      rotate_left
      · rw [hb62] at hk
        rw [am_beq hb62]
        dsimp only at hk
        split at hk
        · exact e345_2005 z nL xs F r hR _ ih _ _ _ hk
        · cases hk
      rw [hb62] at hk
      dsimp only at hk
      rcases hb63 : Nat.beq pc 2048 with _ | _
      rotate_left
      · rw [hb63] at hk
        rw [am_beq hb63]
        dsimp only at hk
        split at hk
        · exact e345_2048 z nL xs F r hR _ ih _ _ _ hk
        · cases hk
      rw [hb63] at hk
      dsimp only at hk
      rcases hb64 : Nat.beq pc 2061 with _ | _
      rotate_left
      · rw [hb64] at hk
        rw [am_beq hb64]
        dsimp only at hk
        split at hk
        · exact e345_2061 z nL xs F r hR _ ih _ _ _ hk
        · cases hk
      rw [hb64] at hk
      dsimp only at hk
      rcases hb65 : Nat.beq pc 2074 with _ | _
      rotate_left
      · rw [hb65] at hk
        rw [am_beq hb65]
        dsimp only at hk
        split at hk
        · exact e345_2074 z nL xs F r hR _ ih _ _ _ hk
        · cases hk
      rw [hb65] at hk
      dsimp only at hk
      rcases hb66 : Nat.beq pc 2107 with _ | _
      rotate_left
      · rw [hb66] at hk
        rw [am_beq hb66]
        dsimp only at hk
        split at hk
        · exact e345_2107 z nL xs F r hR _ ih _ _ _ hk
        · cases hk
      rw [hb66] at hk
      dsimp only at hk
      rcases hb67 : Nat.beq pc 2150 with _ | _
      rotate_left
      · rw [hb67] at hk
        rw [am_beq hb67]
        dsimp only at hk
        split at hk
        · exact e345_2150 z nL xs F r hR _ ih _ _ _ hk
        · cases hk
      rw [hb67] at hk
      dsimp only at hk
      rcases hb68 : Nat.beq pc 2183 with _ | _
      rotate_left
      · rw [hb68] at hk
        rw [am_beq hb68]
        dsimp only at hk
        split at hk
        · exact e345_2183 z nL xs F r hR _ ih _ _ _ hk
        · cases hk
      rw [hb68] at hk
      dsimp only at hk
      rcases hb69 : Nat.beq pc 2206 with _ | _
      rotate_left
      · rw [hb69] at hk
        rw [am_beq hb69]
        dsimp only at hk
        split at hk
        · exact e345_2206 z nL xs F r hR _ ih _ _ _ hk
        · cases hk
      rw [hb69] at hk
      dsimp only at hk
      rcases hb70 : Nat.beq pc 2229 with _ | _
      rotate_left
      · rw [hb70] at hk
        rw [am_beq hb70]
        dsimp only at hk
        split at hk
        · exact e345_2229 z nL xs F r hR _ ih _ _ _ hk
        · cases hk
      rw [hb70] at hk
      dsimp only at hk
      rcases hb71 : Nat.beq pc 2252 with _ | _
      rotate_left
      · rw [hb71] at hk
        rw [am_beq hb71]
        dsimp only at hk
        split at hk
        · exact e345_2252 z nL xs F r hR _ ih _ _ _ hk
        · cases hk
      rw [hb71] at hk
      dsimp only at hk
      rcases hb72 : Nat.beq pc 2295 with _ | _
      rotate_left
      · rw [hb72] at hk
        rw [am_beq hb72]
        dsimp only at hk
        split at hk
        · exact e345_2295 z nL xs F r hR _ ih _ _ _ hk
        · cases hk
      rw [hb72] at hk
      dsimp only at hk
      rcases hb73 : Nat.beq pc 2368 with _ | _
      rotate_left
      · rw [hb73] at hk
        rw [am_beq hb73]
        dsimp only at hk
        split at hk
        · exact e345_2368 z nL xs F r hR _ ih _ _ _ hk
        · cases hk
      rw [hb73] at hk
      dsimp only at hk
      cases hk) 16 18 _ _ _ h
