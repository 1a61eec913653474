/-! ===== the model's line ===== -/
theorem m_203n {z : Nat} (hz : 2000 ≤ z) {M : aM} {b : Nat → Int32} {n : Nat} {p : cF} (h : mSt M b n p) (h4 : ¬ pI b n 4 p = true) (h5 : ¬ pI b n 5 p = true) (h9 : ¬ pI b n 9 p = true) : f203 z M = some (some (.inl (nI 0)), M) := by
  unfold f203 f203_20
  rw [m_is hz (x := 5004) (c := 4) (by omega) rfl h, cb_bi, if_neg h4, i0f, m_is hz (x := 5005) (c := 5) (by omega) rfl h, cb_bi, if_neg h5, i0f, m_is hz (x := 5009) (c := 9) (by omega) rfl h, cb_bi, if_neg h9, i0f]
  rfl
theorem m_42f {z : Nat} (hz : 2000 ≤ z) {M : aM} {b : Nat → Int32} {n : Nat} {p : cF} (h : mSt M b n p) (hf : f203 z M = some (some (.inl (nI 1)), M)) : ∃ M', f204_42 z M = some (none, M') ∧ mSt M' b n (pE 3 p) ∧ wY M M' := by
  obtain ⟨M1, a1, a2, a3⟩ := m_err (z := z) h (show 3 ≤ 3 by omega) (by omega)
  refine ⟨M1, ?_, a2, a3.y⟩
  unfold f204_42
  rw [hf, cb_bi, i1f, n_3, a1, cb_bv, k192 a2, cb_bi, o1_1 (pE_k (by omega)), i0n]
theorem m_nxt {z : Nat} (hz : 2000 ≤ z) {M : aM} {b : Nat → Int32} {n : Nat} {W : cW} {p : cF} (h : mSt M b n p) (hp : p.2.1 = 0) (hM : rM (M.1 211) W) (hW : wf W) (h6 : W 0 6 = 0) (z7 : ¬ W 0 7 = 0) : ∃ M', f204 z M = some (none, M') ∧ mSt M' b n (lQ b n W p) ∧ wY M M' ∧ ((lQ b n W p).2.1 = 0 → rM (M'.1 211) (lW b n W p)) := by
  have n3 : W 0 3 ≤ 8 := hW.2.2.2.1
  have n4 : W 0 4 ≤ 16 := hW.2.2.2.2.1
  have n5 : W 0 5 ≤ 10 := hW.2.2.2.2.2.1
  obtain ⟨⟨g0, g1, g2, g3, g4, g5, g6, g7⟩, gt, gq, ga⟩ := hM
  have e1 : ¬ (1 : Int32) = 0 := by decide
  unfold lQ lW
  rw [if_neg z7, if_neg z7]
  have i4 : f194 z 5004 M = some (some (.inl (nI (if wq b n 4 p.1 = true then 1 else 0))), M) := by rw [m_is hz (x := 5004) (c := 4) (by omega) rfl h, pI_0 hp]
  have i5 : f194 z 5005 M = some (some (.inl (nI (if wq b n 5 p.1 = true then 1 else 0))), M) := by rw [m_is hz (x := 5005) (c := 5) (by omega) rfl h, pI_0 hp]
  have i9 : f194 z 5009 M = some (some (.inl (nI (if wq b n 9 p.1 = true then 1 else 0))), M) := by rw [m_is hz (x := 5009) (c := 9) (by omega) rfl h, pI_0 hp]
  have kg : f192 z M = some (some (.inl (nI 1)), M) := by rw [k192 h, o1_0 hp]
  unfold f204
  rw [i4, cb_bi]
  by_cases w4 : wq b n 4 p.1 = true
  · rw [if_pos w4] at i4 ⊢
    have wn := wn4 w4
    rw [if_neg wn.1] at i5
    rw [if_neg wn.2] at i9
    rw [i1n, if_pos e1, if_pos w4, if_pos w4]
    by_cases c8 : W 0 3 < 8
    · rw [if_pos c8]
      have hf : f203 z M = some (some (.inl (nI 0)), M) := by
        unfold f203 f203_20
        rw [i4, cb_bi, i1f, if_pos ib_3, ic_3, g3, if_neg (show ¬ nI (W 0 3) = 8 by rw [n_8, q_eq (by omega) (by omega)]; omega), i5, cb_bi, i0f, i9, cb_bi, i0f]
        rfl
      obtain ⟨M1, a1, a2, a3⟩ := m_tk hz (x := 5004) (c := 4) (by omega) rfl h
      have eI : pI b n 4 p = true := by rw [pI_0 hp]; exact w4
      have eT : pT b n 4 p = pA b n p := by unfold pT; rw [if_pos eI]
      rw [if_pos eI] at a1
      rw [eT] at a2
      unfold f204_42
      rw [hf, cb_bi, i0f, kg, cb_bi, i1n, a1, cb_bi, i1f, if_pos ib_3, if_pos ib_3, ic_3, a3.g, g3, n_1, q_add]
      refine ⟨_, rfl, a2.u, a3.y.trans wY.u, fun _ => ?_⟩
      unfold rM
      simp (disch := omega) only [u_ne, u_self, wu_n, wu_s, a3.g]
      exact ⟨⟨g0, g1, g2, trivial, g4, g5, g6, g7⟩, gt, gq, fun i hi => by omega⟩
    · rw [if_neg c8]
      have hf : f203 z M = some (some (.inl (nI 1)), M) := by
        unfold f203
        rw [i4, cb_bi, i1f, if_pos ib_3, ic_3, g3, if_pos (show nI (W 0 3) = 8 by rw [n_8, q_eq (by omega) (by omega)]; omega)]
        rfl
      obtain ⟨M1, a1, a2, a3⟩ := m_42f hz h hf
      exact ⟨M1, a1, a2, a3, fun w => absurd w (pE_k (by omega))⟩
  · rw [if_neg w4] at i4 ⊢
    rw [i0n, i5, cb_bi, if_neg w4, if_neg w4]
    obtain ⟨M4, t1, t2, t3⟩ := m_tk hz (x := 5004) (c := 4) (by omega) rfl h
    have eI4 : ¬ pI b n 4 p = true := by rw [pI_0 hp]; exact w4
    rw [if_neg eI4] at t1
    rw [show pT b n 4 p = p by unfold pT; rw [if_neg eI4]] at t2
    by_cases w5 : wq b n 5 p.1 = true
    · rw [if_pos w5] at i5 ⊢
      have wn := wn5 w5
      rw [if_neg wn] at i9
      rw [i1n, if_pos e1, if_pos w5, if_pos w5]
      by_cases c8 : W 0 4 < 16
      · rw [if_pos c8]
        have hf : f203 z M = some (some (.inl (nI 0)), M) := by
          unfold f203 f203_20
          rw [i4, cb_bi, i0f, i5, cb_bi, i1f, if_pos ib_4, ic_4, g4, if_pos (show ¬ nI (W 0 4) = 16 by rw [n_16, q_eq (by omega) (by omega)]; omega), i9, cb_bi, i0f]
          rfl
        obtain ⟨M1, a1, a2, a3⟩ := m_tk hz (x := 5005) (c := 5) (by omega) rfl t2
        have eI : pI b n 5 p = true := by rw [pI_0 hp]; exact w5
        have eT : pT b n 5 p = pA b n p := by unfold pT; rw [if_pos eI]
        rw [if_pos eI] at a1
        rw [eT] at a2
        have r1 : M1.1 211 = M.1 211 := by rw [a3.g, t3.g]
        obtain ⟨M2, b1, b2, b3, b4, b5, b6⟩ := m_thread hz a2 n3 (by rw [r1]; exact g3) c8 (by rw [r1]; exact g4)
        unfold f204_42
        rw [hf, cb_bi, i0f, kg, cb_bi, i1n, t1, cb_bi, i0f, a1, cb_bi, i1f, b1, cb_bv]
        refine ⟨M2, rfl, b2, (t3.y.trans a3.y).trans b3, fun _ => ?_⟩
        unfold rM lWt
        rw [b5, b6 0 (by omega) (by omega) (by omega) (by omega), b6 1 (by omega) (by omega) (by omega) (by omega), b6 2 (by omega) (by omega) (by omega) (by omega), b6 3 (by omega) (by omega) (by omega) (by omega), b6 5 (by omega) (by omega) (by omega) (by omega), b6 6 (by omega) (by omega) (by omega) (by omega), b6 7 (by omega) (by omega) (by omega) (by omega), r1]
        simp (disch := omega) only [wu_n, wu_s]
        refine ⟨⟨g0, g1, g2, g3, trivial, g5, g6, g7⟩, fun t ht => ?_, fun q hq => ?_, fun i hi => by omega⟩
        · by_cases et : t = W 0 4
          · subst et
            simp (disch := omega) only [wu_n, wu_s]
            exact b4
          · simp (disch := omega) only [wu_n]
            rw [b6 _ (by omega) (by omega) (by omega) (by omega), b6 _ (by omega) (by omega) (by omega) (by omega), b6 _ (by omega) (by omega) (by omega) (by omega), r1]
            exact gt t (by omega)
        · rw [b6 _ (by omega) (by omega) (by omega) (by omega), b6 _ (by omega) (by omega) (by omega) (by omega), b6 _ (by omega) (by omega) (by omega) (by omega), r1]
          exact gq q hq
      · rw [if_neg c8]
        have hf : f203 z M = some (some (.inl (nI 1)), M) := by
          unfold f203 f203_20
          rw [i4, cb_bi, i0f, i5, cb_bi, i1f, if_pos ib_4, ic_4, g4, if_neg (show ¬ ¬ nI (W 0 4) = 16 by rw [n_16, q_eq (by omega) (by omega)]; omega)]
          rfl
        obtain ⟨M1, a1, a2, a3⟩ := m_42f hz h hf
        exact ⟨M1, a1, a2, a3, fun w => absurd w (pE_k (by omega))⟩
    · rw [if_neg w5] at i5 ⊢
      rw [i0n, i9, cb_bi, if_neg w5, if_neg w5]
      obtain ⟨M5, u1, u2, u3⟩ := m_tk hz (x := 5005) (c := 5) (by omega) rfl t2
      have eI5 : ¬ pI b n 5 p = true := by rw [pI_0 hp]; exact w5
      rw [if_neg eI5] at u1
      rw [show pT b n 5 p = p by unfold pT; rw [if_neg eI5]] at u2
      by_cases w9 : wq b n 9 p.1 = true
      · rw [if_pos w9] at i9 ⊢
        rw [i1f, if_pos e1, if_pos w9]
        by_cases c8 : W 0 5 < 10
        · rw [if_pos c8]
          have hf : f203 z M = some (some (.inl (nI 0)), M) := by
            unfold f203 f203_20
            rw [i4, cb_bi, i0f, i5, cb_bi, i0f, i9, cb_bi, i1f, if_pos ib_5, ic_5, g5, if_pos (show ¬ nI (W 0 5) = 10 by rw [n_10, q_eq (by omega) (by omega)]; omega)]
            rfl
          obtain ⟨M1, a1, a2, a3⟩ := m_adv hz u2
          have r1 : M1.1 211 = M.1 211 := by rw [a3.g, u3.g, t3.g]
          obtain ⟨M2, b1, b2, b3, b4, b5, b6⟩ := m_quar hz a2 n3 (by rw [r1]; exact g3) c8 (by rw [r1]; exact g5)
          unfold f204_42
          rw [hf, cb_bi, i0f, kg, cb_bi, i1n, t1, cb_bi, i0f, u1, cb_bi, i0f, a1, cb_bv, b1, cb_bv]
          refine ⟨M2, rfl, b2, ((t3.y.trans u3.y).trans a3.y).trans b3, fun _ => ?_⟩
          unfold rM lWq
          rw [b5, b6 0 (by omega) (by omega) (by omega) (by omega), b6 1 (by omega) (by omega) (by omega) (by omega), b6 2 (by omega) (by omega) (by omega) (by omega), b6 3 (by omega) (by omega) (by omega) (by omega), b6 4 (by omega) (by omega) (by omega) (by omega), b6 6 (by omega) (by omega) (by omega) (by omega), b6 7 (by omega) (by omega) (by omega) (by omega), r1]
          simp (disch := omega) only [wu_n, wu_s]
          refine ⟨⟨g0, g1, g2, g3, g4, trivial, g6, g7⟩, fun t ht => ?_, fun q hq => ?_, fun i hi => by omega⟩
          · rw [b6 _ (by omega) (by omega) (by omega) (by omega), b6 _ (by omega) (by omega) (by omega) (by omega), b6 _ (by omega) (by omega) (by omega) (by omega), r1]
            exact gt t ht
          · by_cases et : q = W 0 5
            · subst et
              simp (disch := omega) only [wu_n, wu_s]
              exact b4
            · simp (disch := omega) only [wu_n]
              rw [b6 _ (by omega) (by omega) (by omega) (by omega), b6 _ (by omega) (by omega) (by omega) (by omega), b6 _ (by omega) (by omega) (by omega) (by omega), r1]
              exact gq q (by omega)
        · rw [if_neg c8]
          have hf : f203 z M = some (some (.inl (nI 1)), M) := by
            unfold f203 f203_20
            rw [i4, cb_bi, i0f, i5, cb_bi, i0f, i9, cb_bi, i1f, if_pos ib_5, ic_5, g5, if_neg (show ¬ ¬ nI (W 0 5) = 10 by rw [n_10, q_eq (by omega) (by omega)]; omega)]
            rfl
          obtain ⟨M1, a1, a2, a3⟩ := m_42f hz h hf
          exact ⟨M1, a1, a2, a3, fun w => absurd w (pE_k (by omega))⟩
      · rw [if_neg w9, i0f, if_neg (fun w => w rfl), if_neg w9, n_1]
        obtain ⟨M1, a1, a2, a3⟩ := m_err (z := z) h (show 1 ≤ 3 by omega) (by omega)
        have hk : ¬ (pE 1 p).2.1 = 0 := pE_k (by omega)
        refine ⟨M1, ?_, a2, a3.y, fun w => absurd w hk⟩
        have hf := m_203n hz a2 (by rw [pI_1 hk]; decide) (by rw [pI_1 hk]; decide) (by rw [pI_1 hk]; decide)
        unfold f204_42
        rw [a1, cb_bv, hf, cb_bi, i0f, k192 a2, cb_bi, o1_1 hk, i0n]
theorem m_first {z : Nat} (hz : 2000 ≤ z) {M : aM} {b : Nat → Int32} {n : Nat} {W : cW} {p : cF} (h : mSt M b n p) (hM : rM (M.1 211) W) (hW : wf W) (h6 : W 0 6 = 0) (z7 : W 0 7 = 0) : ∃ M', f200 z M = some (none, M') ∧ mSt M' b n (lQ b n W p) ∧ wY M M' ∧ ((lQ b n W p).2.1 = 0 → rM (M'.1 211) (lW b n W p)) := by
  obtain ⟨⟨g0, g1, g2, g3, g4, g5, g6, g7⟩, gt, gq, ga⟩ := hM
  obtain ⟨q0, q3, q4, q5, q6⟩ := hW.2.2.2.2.2.2.2.2.2.2.2.1 z7
  obtain ⟨M1, a1, a2, a3, ⟨a4, a5, a6⟩, a7⟩ := m_head hz h
  unfold lQ lW
  rw [if_pos z7, if_pos z7]
  refine ⟨M1, a1, a2, a3, fun _ => ?_⟩
  unfold rM lWh
  rw [a4, a5, a6, a7 3 (by omega), a7 4 (by omega), a7 5 (by omega), a7 6 (by omega), a7 7 (by omega)]
  simp (disch := omega) only [wu_n, wu_s]
  exact ⟨⟨trivial, trivial, trivial, g3, g4, g5, g6, g7⟩, fun t ht => by omega, fun t ht => by omega, fun t ht => by omega⟩
/-- the line's end -/
theorem m_tail {z : Nat} (hz : 2000 ≤ z) {M : aM} {b : Nat → Int32} {n : Nat} {W : cW} {p : cF} (h : mSt M b n p) (hM : p.2.1 = 0 → rM (M.1 211) W) : ∃ M', (am_bi (f192 z M) fun v3 M2 =>
          if v3 = 0 then
            am_bi (f192 z M2) fun v5 M4 =>
              if v5 = 0 then
                if am_inB (7 : Int32) 116 then
                  if am_inB (7 : Int32) 116 then
                    let I6 := am_u M4.1 211 (7 : Int32).toNatClampNeg ((M4.1 211 (7 : Int32).toNatClampNeg) + (1 : Int32))
                    some (none, (I6, M4.2))
                  else
                    none
                else
                  none
              else
                am_bv (f191 z M4) fun M7 =>
                  if am_inB (7 : Int32) 116 then
                    if am_inB (7 : Int32) 116 then
                      let I8 := am_u M7.1 211 (7 : Int32).toNatClampNeg ((M7.1 211 (7 : Int32).toNatClampNeg) + (1 : Int32))
                      some (none, (I8, M7.2))
                    else
                      none
                  else
                    none
          else
            if (M2.1 205 10) = (3 : Int32) then
              am_bi (f192 z M2) fun v10 M9 =>
                if v10 = 0 then
                  if am_inB (7 : Int32) 116 then
                    if am_inB (7 : Int32) 116 then
                      let I11 := am_u M9.1 211 (7 : Int32).toNatClampNeg ((M9.1 211 (7 : Int32).toNatClampNeg) + (1 : Int32))
                      some (none, (I11, M9.2))
                    else
                      none
                  else
                    none
                else
                  am_bv (f191 z M9) fun M12 =>
                    if am_inB (7 : Int32) 116 then
                      if am_inB (7 : Int32) 116 then
                        let I13 := am_u M12.1 211 (7 : Int32).toNatClampNeg ((M12.1 211 (7 : Int32).toNatClampNeg) + (1 : Int32))
                        some (none, (I13, M12.2))
                      else
                        none
                    else
                      none
            else
              am_bv (f193 z (1 : Int32) M2) fun M14 =>
                am_bi (f192 z M14) fun v16 M15 =>
                  if v16 = 0 then
                    if am_inB (7 : Int32) 116 then
                      if am_inB (7 : Int32) 116 then
                        let I17 := am_u M15.1 211 (7 : Int32).toNatClampNeg ((M15.1 211 (7 : Int32).toNatClampNeg) + (1 : Int32))
                        some (none, (I17, M15.2))
                      else
                        none
                    else
                      none
                  else
                    am_bv (f191 z M15) fun M18 =>
                      if am_inB (7 : Int32) 116 then
                        if am_inB (7 : Int32) 116 then
                          let I19 := am_u M18.1 211 (7 : Int32).toNatClampNeg ((M18.1 211 (7 : Int32).toNatClampNeg) + (1 : Int32))
                          some (none, (I19, M18.2))
                        else
                          none
                      else
                        none) = some (none, M') ∧ mSt M' b n (pS b n p) ∧ wY M M' ∧ ((pS b n p).2.1 = 0 → rM (M'.1 211) (wu W 0 7 (W 0 7 + 1))) := by
  have hk4 := tK_le b n p.1
  simp only [if_pos ib_7, ic_7]
  rw [k192 h, cb_bi]
  by_cases hp : p.2.1 = 0
  · rw [o1_0 hp, i1f, h.1.2.2.2.1]
    by_cases e3 : tK b n p.1 = 3
    · rw [e3, if_pos (show nI 3 = 3 from rfl), k192 h, cb_bi, o1_0 hp, i1f]
      obtain ⟨M1, a1, a2, a3⟩ := m_adv hz h
      have eS : pS b n p = pA b n p := by unfold pS; rw [if_pos hp, if_pos e3]
      rw [a1, cb_bv, eS]
      refine ⟨_, rfl, a2.u, a3.y.trans wY.u, fun _ => ?_⟩
      obtain ⟨⟨g0, g1, g2, g3, g4, g5, g6, g7⟩, gt, gq, ga⟩ := hM hp
      have hs : ∀ j, j ≠ 7 → am_u M1.1 211 7 (M1.1 211 7 + 1) 211 j = M.1 211 j := fun j hj => by rw [u_ne hj, a3.g]
      show rM (am_u M1.1 211 7 (M1.1 211 7 + 1) 211) _
      refine ⟨⟨?_, ?_, ?_, ?_, ?_, ?_, ?_, ?_⟩, ?_, ?_, ?_⟩
      · rw [hs 0 (by omega), wu_n W (by omega)]; exact g0
      · rw [hs 1 (by omega), wu_n W (by omega)]; exact g1
      · rw [hs 2 (by omega), wu_n W (by omega)]; exact g2
      · rw [hs 3 (by omega), wu_n W (by omega)]; exact g3
      · rw [hs 4 (by omega), wu_n W (by omega)]; exact g4
      · rw [hs 5 (by omega), wu_n W (by omega)]; exact g5
      · rw [hs 6 (by omega), wu_n W (by omega)]; exact g6
      · rw [u_self, wu_s, a3.g, g7, n_1, q_add]
      · intro t ht
        rw [wu_n W (by omega)] at ht
        rw [hs _ (by omega), hs _ (by omega), hs _ (by omega), wu_n W (by omega), wu_n W (by omega), wu_n W (by omega)]
        exact gt t ht
      · intro q hq
        rw [wu_n W (by omega)] at hq
        rw [hs _ (by omega), hs _ (by omega), hs _ (by omega), wu_n W (by omega), wu_n W (by omega), wu_n W (by omega)]
        exact gq q hq
      · intro i hi
        rw [wu_n W (by omega)] at hi
        rw [hs _ (by omega)]
        unfold aE
        rw [wu_n W (by omega), wu_n W (by omega), wu_n W (by omega), wu_n W (by omega)]
        exact ga i hi
    · rw [if_neg (show ¬ nI (tK b n p.1) = 3 by rw [n_3, q_eq (by omega) (by omega)]; exact e3), n_1]
      obtain ⟨M1, a1, a2, a3⟩ := m_err (z := z) h (show 1 ≤ 3 by omega) (by omega)
      have eS : pS b n p = pE 1 p := by unfold pS; rw [if_pos hp, if_neg e3]
      rw [a1, cb_bv, k192 a2, cb_bi, o1_1 (pE_k (by omega)), i0f, eS]
      exact ⟨_, rfl, a2.u, a3.y.trans wY.u, fun w => absurd w (pE_k (by omega))⟩
  · rw [o1_1 hp, i0f, k192 h, cb_bi, o1_1 hp, i0f, pS_1 hp]
    exact ⟨_, rfl, h.u, wY.u, fun w => absurd w hp⟩
theorem m_line {z : Nat} (hz : 2000 ≤ z) {M : aM} {b : Nat → Int32} {n : Nat} {W : cW} {p : cF} (h : mSt M b n p) (hp : p.2.1 = 0) (hM : rM (M.1 211) W) (hW : wf W) (h6 : W 0 6 = 0) : ∃ M', f205 z M = some (none, M') ∧ mSt M' b n (pS b n (lQ b n W p)) ∧ wY M M' ∧ ((pS b n (lQ b n W p)).2.1 = 0 → rM (M'.1 211) (wu (lW b n W p) 0 7 (W 0 7 + 1))) := by
  have n7 : W 0 7 ≤ 800 := hW.2.2.2.2.2.2.2.1
  unfold f205
  rw [if_pos ib_7, ic_7, hM.1.2.2.2.2.2.2.2]
  by_cases z7 : W 0 7 = 0
  · obtain ⟨M1, a1, a2, a3, a4⟩ := m_first hz h hM hW h6 z7
    rw [show nI (W 0 7) = 0 by rw [z7]; rfl, if_neg (fun w => w rfl), a1, cb_bv]
    obtain ⟨M2, b1, b2, b3, b4⟩ := m_tail hz a2 a4
    rw [ic_7, lW_7] at *
    exact ⟨M2, b1, b2, a3.trans b3, b4⟩
  · obtain ⟨M1, a1, a2, a3, a4⟩ := m_nxt hz h hp hM hW h6 z7
    rw [if_pos (nI_ne0 (show 0 < W 0 7 by omega) (by omega)), a1, cb_bv]
    obtain ⟨M2, b1, b2, b3, b4⟩ := m_tail hz a2 a4
    rw [ic_7, lW_7] at *
    exact ⟨M2, b1, b2, a3.trans b3, b4⟩
