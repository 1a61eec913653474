def cdL_2206 : List am_E := [(2206, .aload_n 1, 1, 1, 0, 0, 0), (2207, .aload_n 0, 1, 0, 0, 0, 0), (2208, .iload_n 3, 1, 3, 0, 0, 0), (2209, .iconst 1, 1, 0, 0, 1, 0), (2210, .iadd, 1, 0, 0, 0, 0), (2211, .iaload, 1, 0, 0, 0, 0), (2212, .invokevirtual 293, 3, 162, 10010, 0, 0), (2215, .aload_n 2, 1, 2, 0, 0, 0), (2216, .aload_n 0, 1, 0, 0, 0, 0), (2217, .iload_n 3, 1, 3, 0, 0, 0), (2218, .iconst 1, 1, 0, 0, 1, 0), (2219, .iadd, 1, 0, 0, 0, 0), (2220, .iaload, 1, 0, 0, 0, 0), (2221, .invokevirtual 296, 3, 173, 11010, 0, 0), (2224, .if_icmp .eq 207, 3, 2431, 0, 0, 0), (2227, .iconst 0, 1, 0, 0, 0, 0), (2228, .ireturn, 1, 0, 0, 0, 0)]
set_option maxRecDepth 100000 in
theorem kcdL_2206 : cdL_2206.all (am_chk am_w345 345) = true := by decide +kernel
theorem kcdL2_2206 : (cdL_2206 ++ cdL_h).all (am_chk am_w345 345) = true := by
  simp only [List.all_append, kcdL_2206, kcdL_h, Bool.and_self]
def sL_2206 (z : Nat) : Nat → List aV → aM → Option aR := fun j => (match Nat.beq j 162 with
  | true => F162 z
  | false => (match Nat.beq j 173 with
  | true => F173 z
  | false => (fun _ _ => none)))
theorem hsL_2206 (z : Nat) : ∀ j2 : Nat, ∃ d2 : Nat, d2 + 1 ≤ 14 ∧ am_Snd d2 j2 (sL_2206 z j2) := by
  intro j2
  unfold sL_2206
  split
  · rename_i he
    rw [am_beq he]
    exact ⟨_, by decide, S162 z⟩
  · skip
    split
    · rename_i he
      rw [am_beq he]
      exact ⟨_, by decide, S173 z⟩
    · skip
      exact ⟨0, by decide, am_Snd_no j2⟩
/-- the law, case [68] -/
def f345_2206 (z nL : Nat) (xs : Nat → Int32) (k18 : Int32 → aM → Option aR) : Nat → Int32 → aM → Option aR
  | 0, _, _ => none
  | n + 1, x3, M =>
    if am_inB (x3 + (1 : Int32)) nL then
      am_bi (f162 z (xs (x3 + (1 : Int32)).toNatClampNeg) M) fun v2 M1 =>
        if am_inB (x3 + (1 : Int32)) nL then
          am_bi (f173 z (xs (x3 + (1 : Int32)).toNatClampNeg) M1) fun v4 M3 =>
            if v2 = v4 then
              k18 (x3 + (6 : Int32)) M3
            else
              some (some (.inl ((0 : Int32) &&& 1)), M3)
        else
          none
    else
      none
set_option maxRecDepth 100000 in
set_option maxHeartbeats 4000000 in
theorem e345_2206 (z nL : Nat) (xs : Nat → Int32) {p : Program} {l : Launch} {e : Env} {R : Room} {s : State} {m : MethodId} {args : Array Value} {below : List Frame} {meth : Method} {c : Code} {C : aC} {Q : State → Prop} {ce sl : Nat} (F : am_F (some (nL, xs)) p R s m args c C 345 14 ce sl) (r : aR) (hR : am_HR p l e R s m args below meth c C 345 (am_ml 345) ce sl 1 Q r) (k18 : Int32 → aM → Option aR) (hk18 : ∀ (x3 : Int32) (M : aM), k18 x3 M = some r → am_Wd p l e R s m args below meth c C (am_ml 345) ce sl Q 18 [some (.inr (.inr (62, 5200))), some (.inr (.inr (10, 0))), some (.inr (.inr (11, 205))), some (.inl x3)] [] M) : ∀ (n : Nat) (x3 : Int32) (M : aM), f345_2206 z nL xs k18 n x3 M = some r → am_Wd p l e R s m args below meth c C (am_ml 345) ce sl Q 2206 [some (.inr (.inr (62, 5200))), some (.inr (.inr (10, 0))), some (.inr (.inr (11, 205))), some (.inl x3)] [] M := by
  intro n x3 M h
  cases n with
  | zero => cases h
  | succ n =>
    exact am_seg_ok (sws := am_w345) (sem := sL_2206 z) (cd := cdL_2206 ++ cdL_h) (cut := ([(18, [true, true, true, true])] : List (Nat × List Bool))) (kap := (fun pc al st M => (match Nat.beq pc 18 with
      | true => (match al, st with
        | [some (.inr (.inr (62, 5200))), some (.inr (.inr (10, 0))), some (.inr (.inr (11, 205))), some (.inl x3)], [] => k18 x3 M
        | _, _ => none)
      | false => none))) (hsL_2206 z) F hR kcdL2_2206 (by rw [am_l345]; decide) (fun pc al st M hk => by
      try dsimp only at hk
      split at hk
      · rename_i he
        rw [am_beq he]
        split at hk
        · exact hk18 _ _ hk
        · cases hk
      · cases hk) 19 2206 _ _ _ h
def cdL_2229 : List am_E := [(2229, .aload_n 1, 1, 1, 0, 0, 0), (2230, .aload_n 0, 1, 0, 0, 0, 0), (2231, .iload_n 3, 1, 3, 0, 0, 0), (2232, .iconst 1, 1, 0, 0, 1, 0), (2233, .iadd, 1, 0, 0, 0, 0), (2234, .iaload, 1, 0, 0, 0, 0), (2235, .invokevirtual 297, 3, 163, 10010, 0, 0), (2238, .aload_n 2, 1, 2, 0, 0, 0), (2239, .aload_n 0, 1, 0, 0, 0, 0), (2240, .iload_n 3, 1, 3, 0, 0, 0), (2241, .iconst 1, 1, 0, 0, 1, 0), (2242, .iadd, 1, 0, 0, 0, 0), (2243, .iaload, 1, 0, 0, 0, 0), (2244, .invokevirtual 300, 3, 174, 11010, 0, 0), (2247, .if_icmp .eq 184, 3, 2431, 0, 0, 0), (2250, .iconst 0, 1, 0, 0, 0, 0), (2251, .ireturn, 1, 0, 0, 0, 0)]
set_option maxRecDepth 100000 in
theorem kcdL_2229 : cdL_2229.all (am_chk am_w345 345) = true := by decide +kernel
theorem kcdL2_2229 : (cdL_2229 ++ cdL_h).all (am_chk am_w345 345) = true := by
  simp only [List.all_append, kcdL_2229, kcdL_h, Bool.and_self]
def sL_2229 (z : Nat) : Nat → List aV → aM → Option aR := fun j => (match Nat.beq j 163 with
  | true => F163 z
  | false => (match Nat.beq j 174 with
  | true => F174 z
  | false => (fun _ _ => none)))
theorem hsL_2229 (z : Nat) : ∀ j2 : Nat, ∃ d2 : Nat, d2 + 1 ≤ 14 ∧ am_Snd d2 j2 (sL_2229 z j2) := by
  intro j2
  unfold sL_2229
  split
  · rename_i he
    rw [am_beq he]
    exact ⟨_, by decide, S163 z⟩
  · skip
    split
    · rename_i he
      rw [am_beq he]
      exact ⟨_, by decide, S174 z⟩
    · skip
      exact ⟨0, by decide, am_Snd_no j2⟩
/-- the law, case [69] -/
def f345_2229 (z nL : Nat) (xs : Nat → Int32) (k18 : Int32 → aM → Option aR) : Nat → Int32 → aM → Option aR
  | 0, _, _ => none
  | n + 1, x3, M =>
    if am_inB (x3 + (1 : Int32)) nL then
      am_bi (f163 z (xs (x3 + (1 : Int32)).toNatClampNeg) M) fun v2 M1 =>
        if am_inB (x3 + (1 : Int32)) nL then
          am_bi (f174 z (xs (x3 + (1 : Int32)).toNatClampNeg) M1) fun v4 M3 =>
            if v2 = v4 then
              k18 (x3 + (6 : Int32)) M3
            else
              some (some (.inl ((0 : Int32) &&& 1)), M3)
        else
          none
    else
      none
set_option maxRecDepth 100000 in
set_option maxHeartbeats 4000000 in
theorem e345_2229 (z nL : Nat) (xs : Nat → Int32) {p : Program} {l : Launch} {e : Env} {R : Room} {s : State} {m : MethodId} {args : Array Value} {below : List Frame} {meth : Method} {c : Code} {C : aC} {Q : State → Prop} {ce sl : Nat} (F : am_F (some (nL, xs)) p R s m args c C 345 14 ce sl) (r : aR) (hR : am_HR p l e R s m args below meth c C 345 (am_ml 345) ce sl 1 Q r) (k18 : Int32 → aM → Option aR) (hk18 : ∀ (x3 : Int32) (M : aM), k18 x3 M = some r → am_Wd p l e R s m args below meth c C (am_ml 345) ce sl Q 18 [some (.inr (.inr (62, 5200))), some (.inr (.inr (10, 0))), some (.inr (.inr (11, 205))), some (.inl x3)] [] M) : ∀ (n : Nat) (x3 : Int32) (M : aM), f345_2229 z nL xs k18 n x3 M = some r → am_Wd p l e R s m args below meth c C (am_ml 345) ce sl Q 2229 [some (.inr (.inr (62, 5200))), some (.inr (.inr (10, 0))), some (.inr (.inr (11, 205))), some (.inl x3)] [] M := by
  intro n x3 M h
  cases n with
  | zero => cases h
  | succ n =>
    exact am_seg_ok (sws := am_w345) (sem := sL_2229 z) (cd := cdL_2229 ++ cdL_h) (cut := ([(18, [true, true, true, true])] : List (Nat × List Bool))) (kap := (fun pc al st M => (match Nat.beq pc 18 with
      | true => (match al, st with
        | [some (.inr (.inr (62, 5200))), some (.inr (.inr (10, 0))), some (.inr (.inr (11, 205))), some (.inl x3)], [] => k18 x3 M
        | _, _ => none)
      | false => none))) (hsL_2229 z) F hR kcdL2_2229 (by rw [am_l345]; decide) (fun pc al st M hk => by
      try dsimp only at hk
      split at hk
      · rename_i he
        rw [am_beq he]
        split at hk
        · exact hk18 _ _ hk
        · cases hk
      · cases hk) 19 2229 _ _ _ h
def cdL_2252 : List am_E := [(2252, .aload_n 1, 1, 1, 0, 0, 0), (2253, .aload_n 0, 1, 0, 0, 0, 0), (2254, .iload_n 3, 1, 3, 0, 0, 0), (2255, .iconst 1, 1, 0, 0, 1, 0), (2256, .iadd, 1, 0, 0, 0, 0), (2257, .iaload, 1, 0, 0, 0, 0), (2258, .aload_n 0, 1, 0, 0, 0, 0), (2259, .iload_n 3, 1, 3, 0, 0, 0), (2260, .iconst 2, 1, 0, 0, 2, 0), (2261, .iadd, 1, 0, 0, 0, 0), (2262, .iaload, 1, 0, 0, 0, 0), (2263, .aload_n 0, 1, 0, 0, 0, 0), (2264, .iload_n 3, 1, 3, 0, 0, 0), (2265, .iconst 3, 1, 0, 0, 3, 0), (2266, .iadd, 1, 0, 0, 0, 0), (2267, .iaload, 1, 0, 0, 0, 0), (2268, .invokevirtual 301, 3, 166, 10030, 0, 0), (2271, .aload_n 2, 1, 2, 0, 0, 0), (2272, .aload_n 0, 1, 0, 0, 0, 0), (2273, .iload_n 3, 1, 3, 0, 0, 0), (2274, .iconst 1, 1, 0, 0, 1, 0), (2275, .iadd, 1, 0, 0, 0, 0), (2276, .iaload, 1, 0, 0, 0, 0), (2277, .aload_n 0, 1, 0, 0, 0, 0), (2278, .iload_n 3, 1, 3, 0, 0, 0), (2279, .iconst 2, 1, 0, 0, 2, 0), (2280, .iadd, 1, 0, 0, 0, 0), (2281, .iaload, 1, 0, 0, 0, 0), (2282, .aload_n 0, 1, 0, 0, 0, 0), (2283, .iload_n 3, 1, 3, 0, 0, 0), (2284, .iconst 3, 1, 0, 0, 3, 0), (2285, .iadd, 1, 0, 0, 0, 0), (2286, .iaload, 1, 0, 0, 0, 0), (2287, .invokevirtual 304, 3, 325, 11030, 0, 0), (2290, .if_icmp .eq 141, 3, 2431, 0, 0, 0), (2293, .iconst 0, 1, 0, 0, 0, 0), (2294, .ireturn, 1, 0, 0, 0, 0)]
set_option maxRecDepth 100000 in
theorem kcdL_2252 : cdL_2252.all (am_chk am_w345 345) = true := by decide +kernel
theorem kcdL2_2252 : (cdL_2252 ++ cdL_h).all (am_chk am_w345 345) = true := by
  simp only [List.all_append, kcdL_2252, kcdL_h, Bool.and_self]
def sL_2252 (z : Nat) : Nat → List aV → aM → Option aR := fun j => (match Nat.beq j 166 with
  | true => F166 z
  | false => (match Nat.beq j 325 with
  | true => F325 z
  | false => (fun _ _ => none)))
theorem hsL_2252 (z : Nat) : ∀ j2 : Nat, ∃ d2 : Nat, d2 + 1 ≤ 14 ∧ am_Snd d2 j2 (sL_2252 z j2) := by
  intro j2
  unfold sL_2252
  split
  · rename_i he
    rw [am_beq he]
    exact ⟨_, by decide, S166 z⟩
  · skip
    split
    · rename_i he
      rw [am_beq he]
      exact ⟨_, by decide, S325 z⟩
    · skip
      exact ⟨0, by decide, am_Snd_no j2⟩
/-- the law, case [70] -/
def f345_2252 (z nL : Nat) (xs : Nat → Int32) (k18 : Int32 → aM → Option aR) : Nat → Int32 → aM → Option aR
  | 0, _, _ => none
  | n + 1, x3, M =>
    if am_inB (x3 + (1 : Int32)) nL then
      if am_inB (x3 + (2 : Int32)) nL then
        if am_inB (x3 + (3 : Int32)) nL then
          am_bi (f166 z (xs (x3 + (1 : Int32)).toNatClampNeg) (xs (x3 + (2 : Int32)).toNatClampNeg) (xs (x3 + (3 : Int32)).toNatClampNeg) M) fun v2 M1 =>
            if am_inB (x3 + (1 : Int32)) nL then
              if am_inB (x3 + (2 : Int32)) nL then
                if am_inB (x3 + (3 : Int32)) nL then
                  am_bi (f325 z (xs (x3 + (1 : Int32)).toNatClampNeg) (xs (x3 + (2 : Int32)).toNatClampNeg) (xs (x3 + (3 : Int32)).toNatClampNeg) M1) fun v4 M3 =>
                    if v2 = v4 then
                      k18 (x3 + (6 : Int32)) M3
                    else
                      some (some (.inl ((0 : Int32) &&& 1)), M3)
                else
                  none
              else
                none
            else
              none
        else
          none
      else
        none
    else
      none
set_option maxRecDepth 100000 in
set_option maxHeartbeats 4000000 in
theorem e345_2252 (z nL : Nat) (xs : Nat → Int32) {p : Program} {l : Launch} {e : Env} {R : Room} {s : State} {m : MethodId} {args : Array Value} {below : List Frame} {meth : Method} {c : Code} {C : aC} {Q : State → Prop} {ce sl : Nat} (F : am_F (some (nL, xs)) p R s m args c C 345 14 ce sl) (r : aR) (hR : am_HR p l e R s m args below meth c C 345 (am_ml 345) ce sl 1 Q r) (k18 : Int32 → aM → Option aR) (hk18 : ∀ (x3 : Int32) (M : aM), k18 x3 M = some r → am_Wd p l e R s m args below meth c C (am_ml 345) ce sl Q 18 [some (.inr (.inr (62, 5200))), some (.inr (.inr (10, 0))), some (.inr (.inr (11, 205))), some (.inl x3)] [] M) : ∀ (n : Nat) (x3 : Int32) (M : aM), f345_2252 z nL xs k18 n x3 M = some r → am_Wd p l e R s m args below meth c C (am_ml 345) ce sl Q 2252 [some (.inr (.inr (62, 5200))), some (.inr (.inr (10, 0))), some (.inr (.inr (11, 205))), some (.inl x3)] [] M := by
  intro n x3 M h
  cases n with
  | zero => cases h
  | succ n =>
    exact am_seg_ok (sws := am_w345) (sem := sL_2252 z) (cd := cdL_2252 ++ cdL_h) (cut := ([(18, [true, true, true, true])] : List (Nat × List Bool))) (kap := (fun pc al st M => (match Nat.beq pc 18 with
      | true => (match al, st with
        | [some (.inr (.inr (62, 5200))), some (.inr (.inr (10, 0))), some (.inr (.inr (11, 205))), some (.inl x3)], [] => k18 x3 M
        | _, _ => none)
      | false => none))) (hsL_2252 z) F hR kcdL2_2252 (by rw [am_l345]; decide) (fun pc al st M hk => by
      try dsimp only at hk
      split at hk
      · rename_i he
        rw [am_beq he]
        split at hk
        · exact hk18 _ _ hk
        · cases hk
      · cases hk) 39 2252 _ _ _ h
def cdL_2295 : List am_E := [(2295, .aload_n 1, 1, 1, 0, 0, 0), (2296, .aload_n 0, 1, 0, 0, 0, 0), (2297, .iload_n 3, 1, 3, 0, 0, 0), (2298, .iconst 1, 1, 0, 0, 1, 0), (2299, .iadd, 1, 0, 0, 0, 0), (2300, .iaload, 1, 0, 0, 0, 0), (2301, .aload_n 0, 1, 0, 0, 0, 0), (2302, .iload_n 3, 1, 3, 0, 0, 0), (2303, .iconst 2, 1, 0, 0, 2, 0), (2304, .iadd, 1, 0, 0, 0, 0), (2305, .iaload, 1, 0, 0, 0, 0), (2306, .aload_n 0, 1, 0, 0, 0, 0), (2307, .iload_n 3, 1, 3, 0, 0, 0), (2308, .iconst 3, 1, 0, 0, 3, 0), (2309, .iadd, 1, 0, 0, 0, 0), (2310, .iaload, 1, 0, 0, 0, 0), (2311, .i2l, 1, 0, 0, 0, 0), (2312, .bipush 32, 2, 0, 0, 32, 0), (2314, .lshl, 1, 0, 0, 0, 0), (2315, .aload_n 0, 1, 0, 0, 0, 0), (2316, .iload_n 3, 1, 3, 0, 0, 0), (2317, .iconst 4, 1, 0, 0, 4, 0), (2318, .iadd, 1, 0, 0, 0, 0), (2319, .iaload, 1, 0, 0, 0, 0), (2320, .i2l, 1, 0, 0, 0, 0), (2321, .ldc2_w 305, 3, 0, 0, 0, 4294967295), (2324, .land, 1, 0, 0, 0, 0), (2325, .lor, 1, 0, 0, 0, 0), (2326, .invokevirtual 307, 3, 167, 10030, 0, 0), (2329, .aload_n 2, 1, 2, 0, 0, 0), (2330, .aload_n 0, 1, 0, 0, 0, 0), (2331, .iload_n 3, 1, 3, 0, 0, 0), (2332, .iconst 1, 1, 0, 0, 1, 0), (2333, .iadd, 1, 0, 0, 0, 0), (2334, .iaload, 1, 0, 0, 0, 0), (2335, .aload_n 0, 1, 0, 0, 0, 0), (2336, .iload_n 3, 1, 3, 0, 0, 0), (2337, .iconst 2, 1, 0, 0, 2, 0), (2338, .iadd, 1, 0, 0, 0, 0), (2339, .iaload, 1, 0, 0, 0, 0), (2340, .aload_n 0, 1, 0, 0, 0, 0), (2341, .iload_n 3, 1, 3, 0, 0, 0), (2342, .iconst 3, 1, 0, 0, 3, 0), (2343, .iadd, 1, 0, 0, 0, 0), (2344, .iaload, 1, 0, 0, 0, 0), (2345, .i2l, 1, 0, 0, 0, 0), (2346, .bipush 32, 2, 0, 0, 32, 0), (2348, .lshl, 1, 0, 0, 0, 0), (2349, .aload_n 0, 1, 0, 0, 0, 0), (2350, .iload_n 3, 1, 3, 0, 0, 0), (2351, .iconst 4, 1, 0, 0, 4, 0), (2352, .iadd, 1, 0, 0, 0, 0), (2353, .iaload, 1, 0, 0, 0, 0), (2354, .i2l, 1, 0, 0, 0, 0), (2355, .ldc2_w 305, 3, 0, 0, 0, 4294967295), (2358, .land, 1, 0, 0, 0, 0), (2359, .lor, 1, 0, 0, 0, 0), (2360, .invokevirtual 311, 3, 326, 11030, 0, 0), (2363, .if_icmp .eq 68, 3, 2431, 0, 0, 0), (2366, .iconst 0, 1, 0, 0, 0, 0), (2367, .ireturn, 1, 0, 0, 0, 0)]
set_option maxRecDepth 100000 in
theorem kcdL_2295 : cdL_2295.all (am_chk am_w345 345) = true := by decide +kernel
theorem kcdL2_2295 : (cdL_2295 ++ cdL_h).all (am_chk am_w345 345) = true := by
  simp only [List.all_append, kcdL_2295, kcdL_h, Bool.and_self]
def sL_2295 (z : Nat) : Nat → List aV → aM → Option aR := fun j => (match Nat.beq j 167 with
  | true => F167 z
  | false => (match Nat.beq j 326 with
  | true => F326 z
  | false => (fun _ _ => none)))
theorem hsL_2295 (z : Nat) : ∀ j2 : Nat, ∃ d2 : Nat, d2 + 1 ≤ 14 ∧ am_Snd d2 j2 (sL_2295 z j2) := by
  intro j2
  unfold sL_2295
  split
  · rename_i he
    rw [am_beq he]
    exact ⟨_, by decide, S167 z⟩
  · skip
    split
    · rename_i he
      rw [am_beq he]
      exact ⟨_, by decide, S326 z⟩
    · skip
      exact ⟨0, by decide, am_Snd_no j2⟩
/-- the law, case [71] -/
def f345_2295 (z nL : Nat) (xs : Nat → Int32) (k18 : Int32 → aM → Option aR) : Nat → Int32 → aM → Option aR
  | 0, _, _ => none
  | n + 1, x3, M =>
    if am_inB (x3 + (1 : Int32)) nL then
      if am_inB (x3 + (2 : Int32)) nL then
        if am_inB (x3 + (3 : Int32)) nL then
          if am_inB (x3 + (4 : Int32)) nL then
            am_bi (f167 z (xs (x3 + (1 : Int32)).toNatClampNeg) (xs (x3 + (2 : Int32)).toNatClampNeg) (((Int32.toInt64 (xs (x3 + (3 : Int32)).toNatClampNeg)) <<< ((32 : Int32).toInt64 &&& 63)) ||| ((Int32.toInt64 (xs (x3 + (4 : Int32)).toNatClampNeg)) &&& (4294967295 : Int64))) M) fun v2 M1 =>
              if am_inB (x3 + (1 : Int32)) nL then
                if am_inB (x3 + (2 : Int32)) nL then
                  if am_inB (x3 + (3 : Int32)) nL then
                    if am_inB (x3 + (4 : Int32)) nL then
                      am_bi (f326 z (xs (x3 + (1 : Int32)).toNatClampNeg) (xs (x3 + (2 : Int32)).toNatClampNeg) (((Int32.toInt64 (xs (x3 + (3 : Int32)).toNatClampNeg)) <<< ((32 : Int32).toInt64 &&& 63)) ||| ((Int32.toInt64 (xs (x3 + (4 : Int32)).toNatClampNeg)) &&& (4294967295 : Int64))) M1) fun v4 M3 =>
                        if v2 = v4 then
                          k18 (x3 + (6 : Int32)) M3
                        else
                          some (some (.inl ((0 : Int32) &&& 1)), M3)
                    else
                      none
                  else
                    none
                else
                  none
              else
                none
          else
            none
        else
          none
      else
        none
    else
      none
set_option maxRecDepth 100000 in
set_option maxHeartbeats 4000000 in
theorem e345_2295 (z nL : Nat) (xs : Nat → Int32) {p : Program} {l : Launch} {e : Env} {R : Room} {s : State} {m : MethodId} {args : Array Value} {below : List Frame} {meth : Method} {c : Code} {C : aC} {Q : State → Prop} {ce sl : Nat} (F : am_F (some (nL, xs)) p R s m args c C 345 14 ce sl) (r : aR) (hR : am_HR p l e R s m args below meth c C 345 (am_ml 345) ce sl 1 Q r) (k18 : Int32 → aM → Option aR) (hk18 : ∀ (x3 : Int32) (M : aM), k18 x3 M = some r → am_Wd p l e R s m args below meth c C (am_ml 345) ce sl Q 18 [some (.inr (.inr (62, 5200))), some (.inr (.inr (10, 0))), some (.inr (.inr (11, 205))), some (.inl x3)] [] M) : ∀ (n : Nat) (x3 : Int32) (M : aM), f345_2295 z nL xs k18 n x3 M = some r → am_Wd p l e R s m args below meth c C (am_ml 345) ce sl Q 2295 [some (.inr (.inr (62, 5200))), some (.inr (.inr (10, 0))), some (.inr (.inr (11, 205))), some (.inl x3)] [] M := by
  intro n x3 M h
  cases n with
  | zero => cases h
  | succ n =>
    exact am_seg_ok (sws := am_w345) (sem := sL_2295 z) (cd := cdL_2295 ++ cdL_h) (cut := ([(18, [true, true, true, true])] : List (Nat × List Bool))) (kap := (fun pc al st M => (match Nat.beq pc 18 with
      | true => (match al, st with
        | [some (.inr (.inr (62, 5200))), some (.inr (.inr (10, 0))), some (.inr (.inr (11, 205))), some (.inl x3)], [] => k18 x3 M
        | _, _ => none)
      | false => none))) (hsL_2295 z) F hR kcdL2_2295 (by rw [am_l345]; decide) (fun pc al st M hk => by
      try dsimp only at hk
      split at hk
      · rename_i he
        rw [am_beq he]
        split at hk
        · exact hk18 _ _ hk
        · cases hk
      · cases hk) 63 2295 _ _ _ h
def cdL_2368 : List am_E := [(2368, .aload_n 1, 1, 1, 0, 0, 0), (2369, .aload_n 0, 1, 0, 0, 0, 0), (2370, .iload_n 3, 1, 3, 0, 0, 0), (2371, .iconst 1, 1, 0, 0, 1, 0), (2372, .iadd, 1, 0, 0, 0, 0), (2373, .iaload, 1, 0, 0, 0, 0), (2374, .aload_n 0, 1, 0, 0, 0, 0), (2375, .iload_n 3, 1, 3, 0, 0, 0), (2376, .iconst 2, 1, 0, 0, 2, 0), (2377, .iadd, 1, 0, 0, 0, 0), (2378, .iaload, 1, 0, 0, 0, 0), (2379, .aload_n 0, 1, 0, 0, 0, 0), (2380, .iload_n 3, 1, 3, 0, 0, 0), (2381, .iconst 3, 1, 0, 0, 3, 0), (2382, .iadd, 1, 0, 0, 0, 0), (2383, .iaload, 1, 0, 0, 0, 0), (2384, .aload_n 0, 1, 0, 0, 0, 0), (2385, .iload_n 3, 1, 3, 0, 0, 0), (2386, .iconst 4, 1, 0, 0, 4, 0), (2387, .iadd, 1, 0, 0, 0, 0), (2388, .iaload, 1, 0, 0, 0, 0), (2389, .aload_n 0, 1, 0, 0, 0, 0), (2390, .iload_n 3, 1, 3, 0, 0, 0), (2391, .iconst 5, 1, 0, 0, 5, 0), (2392, .iadd, 1, 0, 0, 0, 0), (2393, .iaload, 1, 0, 0, 0, 0), (2394, .invokevirtual 312, 3, 168, 10050, 0, 0), (2397, .aload_n 2, 1, 2, 0, 0, 0), (2398, .aload_n 0, 1, 0, 0, 0, 0), (2399, .iload_n 3, 1, 3, 0, 0, 0), (2400, .iconst 1, 1, 0, 0, 1, 0), (2401, .iadd, 1, 0, 0, 0, 0), (2402, .iaload, 1, 0, 0, 0, 0), (2403, .aload_n 0, 1, 0, 0, 0, 0), (2404, .iload_n 3, 1, 3, 0, 0, 0), (2405, .iconst 2, 1, 0, 0, 2, 0), (2406, .iadd, 1, 0, 0, 0, 0), (2407, .iaload, 1, 0, 0, 0, 0), (2408, .aload_n 0, 1, 0, 0, 0, 0), (2409, .iload_n 3, 1, 3, 0, 0, 0), (2410, .iconst 3, 1, 0, 0, 3, 0), (2411, .iadd, 1, 0, 0, 0, 0), (2412, .iaload, 1, 0, 0, 0, 0), (2413, .aload_n 0, 1, 0, 0, 0, 0), (2414, .iload_n 3, 1, 3, 0, 0, 0), (2415, .iconst 4, 1, 0, 0, 4, 0), (2416, .iadd, 1, 0, 0, 0, 0), (2417, .iaload, 1, 0, 0, 0, 0), (2418, .aload_n 0, 1, 0, 0, 0, 0), (2419, .iload_n 3, 1, 3, 0, 0, 0), (2420, .iconst 5, 1, 0, 0, 5, 0), (2421, .iadd, 1, 0, 0, 0, 0), (2422, .iaload, 1, 0, 0, 0, 0), (2423, .invokevirtual 315, 3, 327, 11050, 0, 0), (2426, .if_icmp .eq 5, 3, 2431, 0, 0, 0), (2429, .iconst 0, 1, 0, 0, 0, 0), (2430, .ireturn, 1, 0, 0, 0, 0)]
set_option maxRecDepth 100000 in
theorem kcdL_2368 : cdL_2368.all (am_chk am_w345 345) = true := by decide +kernel
theorem kcdL2_2368 : (cdL_2368 ++ cdL_h).all (am_chk am_w345 345) = true := by
  simp only [List.all_append, kcdL_2368, kcdL_h, Bool.and_self]
def sL_2368 (z : Nat) : Nat → List aV → aM → Option aR := fun j => (match Nat.beq j 168 with
  | true => F168 z
  | false => (match Nat.beq j 327 with
  | true => F327 z
  | false => (fun _ _ => none)))
theorem hsL_2368 (z : Nat) : ∀ j2 : Nat, ∃ d2 : Nat, d2 + 1 ≤ 14 ∧ am_Snd d2 j2 (sL_2368 z j2) := by
  intro j2
  unfold sL_2368
  split
  · rename_i he
    rw [am_beq he]
    exact ⟨_, by decide, S168 z⟩
  · skip
    split
    · rename_i he
      rw [am_beq he]
      exact ⟨_, by decide, S327 z⟩
    · skip
      exact ⟨0, by decide, am_Snd_no j2⟩
/-- the law, case [72] -/
def f345_2368 (z nL : Nat) (xs : Nat → Int32) (k18 : Int32 → aM → Option aR) : Nat → Int32 → aM → Option aR
  | 0, _, _ => none
  | n + 1, x3, M =>
    if am_inB (x3 + (1 : Int32)) nL then
      if am_inB (x3 + (2 : Int32)) nL then
        if am_inB (x3 + (3 : Int32)) nL then
          if am_inB (x3 + (4 : Int32)) nL then
            if am_inB (x3 + (5 : Int32)) nL then
              am_bi (f168 z (xs (x3 + (1 : Int32)).toNatClampNeg) (xs (x3 + (2 : Int32)).toNatClampNeg) (xs (x3 + (3 : Int32)).toNatClampNeg) (xs (x3 + (4 : Int32)).toNatClampNeg) (xs (x3 + (5 : Int32)).toNatClampNeg) M) fun v2 M1 =>
                if am_inB (x3 + (1 : Int32)) nL then
                  if am_inB (x3 + (2 : Int32)) nL then
                    if am_inB (x3 + (3 : Int32)) nL then
                      if am_inB (x3 + (4 : Int32)) nL then
                        if am_inB (x3 + (5 : Int32)) nL then
                          am_bi (f327 z (xs (x3 + (1 : Int32)).toNatClampNeg) (xs (x3 + (2 : Int32)).toNatClampNeg) (xs (x3 + (3 : Int32)).toNatClampNeg) (xs (x3 + (4 : Int32)).toNatClampNeg) (xs (x3 + (5 : Int32)).toNatClampNeg) M1) fun v4 M3 =>
                            if v2 = v4 then
                              k18 (x3 + (6 : Int32)) M3
                            else
                              some (some (.inl ((0 : Int32) &&& 1)), M3)
                        else
                          none
                      else
                        none
                    else
                      none
                  else
                    none
                else
                  none
            else
              none
          else
            none
        else
          none
      else
        none
    else
      none
set_option maxRecDepth 100000 in
set_option maxHeartbeats 4000000 in
theorem e345_2368 (z nL : Nat) (xs : Nat → Int32) {p : Program} {l : Launch} {e : Env} {R : Room} {s : State} {m : MethodId} {args : Array Value} {below : List Frame} {meth : Method} {c : Code} {C : aC} {Q : State → Prop} {ce sl : Nat} (F : am_F (some (nL, xs)) p R s m args c C 345 14 ce sl) (r : aR) (hR : am_HR p l e R s m args below meth c C 345 (am_ml 345) ce sl 1 Q r) (k18 : Int32 → aM → Option aR) (hk18 : ∀ (x3 : Int32) (M : aM), k18 x3 M = some r → am_Wd p l e R s m args below meth c C (am_ml 345) ce sl Q 18 [some (.inr (.inr (62, 5200))), some (.inr (.inr (10, 0))), some (.inr (.inr (11, 205))), some (.inl x3)] [] M) : ∀ (n : Nat) (x3 : Int32) (M : aM), f345_2368 z nL xs k18 n x3 M = some r → am_Wd p l e R s m args below meth c C (am_ml 345) ce sl Q 2368 [some (.inr (.inr (62, 5200))), some (.inr (.inr (10, 0))), some (.inr (.inr (11, 205))), some (.inl x3)] [] M := by
  intro n x3 M h
  cases n with
  | zero => cases h
  | succ n =>
    exact am_seg_ok (sws := am_w345) (sem := sL_2368 z) (cd := cdL_2368 ++ cdL_h) (cut := ([(18, [true, true, true, true])] : List (Nat × List Bool))) (kap := (fun pc al st M => (match Nat.beq pc 18 with
      | true => (match al, st with
        | [some (.inr (.inr (62, 5200))), some (.inr (.inr (10, 0))), some (.inr (.inr (11, 205))), some (.inl x3)], [] => k18 x3 M
        | _, _ => none)
      | false => none))) (hsL_2368 z) F hR kcdL2_2368 (by rw [am_l345]; decide) (fun pc al st M hk => by
      try dsimp only at hk
      split at hk
      · rename_i he
        rw [am_beq he]
        split at hk
        · exact hk18 _ _ hk
        · cases hk
      · cases hk) 59 2368 _ _ _ h
