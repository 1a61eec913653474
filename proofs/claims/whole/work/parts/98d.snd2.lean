/-! ===== the constructors' machine is sound: arrays of references, fields, calls ===== -/
section C2
variable {ini : Bool} {sem : c1_Sm} {p : Program} {l : Launch} {e : Env} {R : Room} {s : State} {m : MethodId} {args : Array Value} {below : List Frame} {meth : Method} {c : Code} {C : aC} {Q : State → Prop} {j d nB n0 : Nat} {pc a1 a2 : Nat} {a3 : Int32} {al : aL} {st : List aV} {n : Nat} {Lm : c1_L} {t : c1_T}
theorem c1_o_anw {i : Nat} {cn : String} (hcl : Cond.classLink (am_on (am_ow j)) i cn ∈ am_g) (hao : va_AO cn s) (hty : (am_tys C)[a1]? = some (C.2.2.1 a1, .object cn)) (F : c1_F ini p R s m args meth c C j d nB n0) (hB : t.2.2.2.1 ≤ nB) (hk : c1_Wd p l e R s m args below meth c C (am_ml j) n0 Q t) (hdg : decode (am_b j) pc = .ok (.anewarray i, 3)) (h : c1_anw a1 pc al st n Lm = some t) : c1_Wd p l e R s m args below meth c C (am_ml j) n0 Q (pc, al, st, n, Lm) := by
  intro h0 H locs ls hl hP hS
  unfold c1_anw at h
  split at h
  · rename_i k r
    split at h
    · rename_i hb1 hb4 hb2 hb3
      cases h
      have har := am_beq hb1
      have hci := am_beq hb4
      have hN := am_blt hb2
      have h0 : n0 ≤ n := h0
      have hP : c1_P C n (c1_M Lm) H := hP
      have hB : n + 1 ≤ nB := hB
      obtain ⟨k1, k2, k3, k4⟩ := am_clo_k hN
      have hno : ¬ am_sh n < 20 := fun q => by have := k1.mp q; omega
      obtain ⟨hk0, hkN⟩ := c1_nI (of_decide_eq_true hb3) k4
      have hsz : c1_sz n = (am_ar (am_sh n)).2.1 := by unfold c1_sz; rw [if_neg hno]
      have hm1 := c1_S_le hB
      have hm2 := c1_S_le h0
      have hm3 := c1_S_s n
      have hR := F.2.2.2.2.2.2.2.1
      have hz := hP.2.2.1 n (Nat.le_refl n)
      refine W.anew F.1 F.2.1 F.2.2.2.1 (F.2.2.2.2.1 _ hcl) (va_AO.use hao) rfl hdg rfl hk0 (by rw [hkN]; omega) (by show n - n0 + 1 ≤ R.cells; omega) (by rw [hkN]; show c1_S n - c1_S n0 + (am_ar (am_sh n)).2.1 ≤ R.slots; omega) fun cA kA comp f1 f2 f3 f4 => ?_
      obtain ⟨kA', comp', -, -, -, f5⟩ := (F.2.2.2.2.2.1.1.2 a1 _ hty).2
      have hcA : cA = C.2.2.1 a1 := Option.some.inj (f1.symm.trans f5)
      have hHs : H.size = C.1 + n := hP.2.1
      have hat : va_at C.2.1 vwCl (am_ad C n, c1_ce C (c1_M Lm) n) (H.push { cls := cA, slots := Array.replicate k.toNatClampNeg .null, vm := .none }) := by
        unfold c1_ce
        rw [if_neg hno, hci, am_ad_in C hN]
        show (H.push _)[C.1 + n]? = some (vp_cell _ _)
        rw [← hHs, Array.getElem?_push_size, arrV_new, hkN, ← hcA]
        unfold c1_ac
        split
        · rename_i q; omega
        · rw [vp_cell_q]
          congr 2
          funext x
          rw [(hz x).1, if_pos rfl]
          rfl
        · rename_i q1 q2; exact absurd har q2
      have z1 : (H.push { cls := cA, slots := Array.replicate k.toNatClampNeg .null, vm := .none }).size = C.1 + n + 1 := by rw [Array.size_push, hHs]
      have o1 : ∀ q : Nat, q < C.1 + n → (H.push { cls := cA, slots := Array.replicate k.toNatClampNeg .null, vm := .none })[q]? = H[q]? := fun q hq => by
        rw [Array.getElem?_push, if_neg (by omega)]
      have w := hk (show n0 ≤ n + 1 by omega) _ locs ls hl (c1_push hP hN hat z1 o1) (c1_gr (k := 1) hS hP.2.1 z1 o1)
      have e1 : n - n0 + 1 = n + 1 - n0 := by omega
      have e2 : c1_S n - c1_S n0 + (am_ar (am_sh n)).2.1 = c1_S (n + 1) - c1_S n0 := by omega
      rw [hkN, e1, e2]
      rw [hHs, ← am_ad_in C hN, hkN] at *
      exact w
    · cases h
  · cases h
theorem c1_ac_4 (C : aC) (M : aM) (a len ci ek f0 dd : Nat) : c1_ac C M a (4, len, ci, ek, f0, dd) = .inr (.inr (.inr (.inr (fun i => if M.1 a i = 0 then none else some (am_ad C (a + (f0 + dd * i))))))) := rfl
theorem c1_ac_0 (C : aC) (M : aM) (a len ci ek f0 dd : Nat) : c1_ac C M a (0, len, ci, ek, f0, dd) = .inl (M.1 a) := rfl
theorem c1_fv_0 (C : aC) (M : aM) (a j k off : Nat) : c1_fv C M a j (0, k, off) = .int (M.1 a j) := rfl
theorem c1_fv_2 (C : aC) (M : aM) (a j k off : Nat) : c1_fv C M a j (2, k, off) = if M.1 a j = 0 then .null else .ref (am_ad C (a + off)) := rfl
theorem c1_rd_fl (n : Nat) (Lm : c1_L) : ∀ (k : Nat) (b j : Nat), c1_rd ((List.range k).map (fun i => (n, i, (1 : Int32))) ++ Lm) b j = if b = n ∧ j < k then 1 else c1_rd Lm b j
  | 0, b, j => by
    rw [if_neg (by omega)]
    rfl
  | k + 1, b, j => by
    have key : ∀ (X : c1_L), c1_rd (X ++ ((n, k, (1 : Int32)) :: Lm)) b j = if b = n ∧ j = k ∧ True then c1_rd (X ++ ((n, k, (1 : Int32)) :: Lm)) b j else c1_rd (X ++ ((n, k, (1 : Int32)) :: Lm)) b j := fun X => by split <;> rfl
    rw [List.range_succ, List.map_append, List.append_assoc]
    show c1_rd ((List.range k).map (fun i => (n, i, (1 : Int32))) ++ ((n, k, 1) :: Lm)) b j = _
    rw [c1_rd_fl n ((n, k, 1) :: Lm) k b j, c1_rd_u]
    unfold am_u
    by_cases e : b = n
    · by_cases w : j < k
      · rw [if_pos ⟨e, w⟩, if_pos ⟨e, by omega⟩]
      · rw [if_neg (fun q => w q.2)]
        by_cases x : j = k
        · rw [if_pos ⟨e, x⟩, if_pos ⟨e, by omega⟩]
        · rw [if_neg (fun q => x q.2), if_neg (fun q => by omega)]
    · rw [if_neg (fun q => e q.1), if_neg (fun q => e q.1), if_neg (fun q => e q.1)]
theorem c1_o_mna {i : Nat} (hcl : Cond.classLink (am_on (am_ow j)) i "[[I" ∈ am_g) (F : c1_F ini p R s m args meth c C j d nB n0) (hB : t.2.2.2.1 ≤ nB) (hk : c1_Wd p l e R s m args below meth c C (am_ml j) n0 Q t) (hdg : decode (am_b j) pc = .ok (.multianewarray i 2, 4)) (h : c1_mna pc al st n Lm = some t) : c1_Wd p l e R s m args below meth c C (am_ml j) n0 Q (pc, al, st, n, Lm) := by
  intro h0 H locs ls hl hP hS
  unfold c1_mna at h
  split at h
  · rename_i k2 k1 r
    generalize hlen : (am_ar (am_sh n)).2.1 = len at h
    generalize hek : (am_ar (am_sh n)).2.2.2.1 = ek at h
    generalize hlen2 : (am_ar ek).2.1 = len2 at h
    split at h
    · rename_i hb hb1 hb2
      cases h
      unfold c1_mnb at hb
      simp only [Bool.and_eq_true, decide_eq_true_eq] at hb
      obtain ⟨⟨⟨⟨⟨b1, b2⟩, b3⟩, b4⟩, b5⟩, b6⟩ := hb
      have hN := am_blt b3
      have b5 := Nat.le_of_ble_eq_true b5
      have b6 := Nat.le_of_ble_eq_true b6
      have hall : ∀ x, x < len → am_sh (n + 1 + x) = ek := fun x hx => am_beq (List.all_eq_true.mp b4 x (List.mem_range.mpr hx))
      have h0 : n0 ≤ n := h0
      have hP : c1_P C n (c1_M Lm) H := hP
      have hB : n + 1 + len ≤ nB := hB
      have hnN : n < am_N := by omega
      have hno : ¬ am_sh n < 20 := fun q => by have := (am_clo_k hnN).1.mp q; rw [b1] at this; cases this
      have hnoi : ∀ x, x < len → ¬ am_sh (n + 1 + x) < 20 := fun x hx q => by have := (am_clo_k (show n + 1 + x < am_N by omega)).1.mp q; rw [hall x hx, b2] at this; cases this
      have hS1 : ∀ k, k ≤ len → c1_S (n + 1 + k) = c1_S n + len + k * len2 := by
        intro k
        induction k with
        | zero =>
          intro _
          show c1_S n + c1_sz n = _
          unfold c1_sz
          rw [if_neg hno, hlen]
          omega
        | succ k ih =>
          intro hk'
          show c1_S (n + 1 + k) + c1_sz (n + 1 + k) = _
          rw [ih (by omega)]
          unfold c1_sz
          rw [if_neg (hnoi k (by omega)), hall k (by omega), hlen2, Nat.succ_mul]
          omega
      have hSS := hS1 len (Nat.le_refl _)
      have hm1 := c1_S_le hB
      have hm2 := c1_S_le h0
      have hR := F.2.2.2.2.2.2.2.1
      obtain ⟨u0, uN⟩ := c1_nI (of_decide_eq_true hb1) (show len ≤ 2000 by omega)
      obtain ⟨v0, vN⟩ := c1_nI (of_decide_eq_true hb2) (show len2 ≤ 2000 by omega)
      have hHs : H.size = C.1 + n := hP.2.1
      refine mn_W (h := C.1 + n) (N := len) (K := len2) F.1 F.2.1 F.2.2.2.1 (F.2.2.2.2.1 _ hcl) F.2.2.2.2.2.2.1.2.2 u0 v0 uN vN b5 b6 (by show n - n0 + (1 + len) ≤ R.cells; omega) (by show c1_S n - c1_S n0 + (len + len * len2) ≤ R.slots; omega) hdg hHs fun H1 cA cI f1 f2 z1 g1 g2 o1 => ?_
      have hcA : cA = C.2.2.1 4 := Option.some.inj (f1.symm.trans (F.2.2.2.2.2.1.1.2 4 _ rfl).2)
      have hcI : cI = C.2.2.1 0 := Option.some.inj (f2.symm.trans (F.2.2.2.2.2.1.1.2 0 _ rfl).2)
      have hrd : ∀ b x, (c1_M ((List.range len).map (fun i => (n, i, (1 : Int32))) ++ Lm)).1 b x = if b = n ∧ x < len then 1 else (c1_M Lm).1 b x := fun b x => c1_rd_fl n Lm len b x
      have hP' : c1_P C (n + 1 + len) (c1_M ((List.range len).map (fun i => (n, i, (1 : Int32))) ++ Lm)) H1 := by
        refine ⟨by omega, by omega, fun a ha x => ⟨?_, rfl⟩, fun k q hk' => ?_⟩
        · rw [hrd, if_neg (by omega)]
          exact (hP.2.2.1 a (by omega) x).1
        · have hkl : k < n + 1 + len := Classical.byContradiction (fun z => by rw [c1_ws_no C _ z] at hk'; cases hk')
          rw [c1_ws_get C _ hkl] at hk'
          cases hk'
          by_cases k1 : k < n
          · have hs := c1_ce_same (C := C) (M := c1_M Lm) (M' := c1_M ((List.range len).map (fun i => (n, i, (1 : Int32))) ++ Lm)) (b := k) (funext fun x => by rw [hrd, if_neg (by omega)]) rfl
            rw [hs]
            exact (hP.2.2.2 k _ (c1_ws_get C _ k1)).kept (o1 _ (by rw [am_ad_in C (by omega)]; omega))
          · by_cases k2 : k = n
            · subst k2
              rw [c1_ce_a hnN rfl b1 (by simp)]
              show H1[am_ad C k]? = some (vp_cell _ _)
              rw [am_ad_in C hnN, g1, hcA]
              unfold mn_o
              rw [c1_ac_4, vp_cell_q]
              congr 2
              funext x
              by_cases w : x < len
              · have hu := hrd k x
                rw [if_pos ⟨rfl, w⟩] at hu
                rw [if_pos w, if_neg (by rw [hu]; decide), am_ad_in C (show k + (1 + 1 * x) < am_N by omega)]
                congr 2
                omega
              · have hu := hrd k x
                rw [if_neg (fun z => w z.2), (hP.2.2.1 k (Nat.le_refl k) x).1] at hu
                rw [if_neg w, if_pos hu]
            · obtain ⟨x, rfl⟩ : ∃ x, k = n + 1 + x := ⟨k - n - 1, by omega⟩
              rw [c1_ce_a (by omega) (hall x (by omega)) b2 (by simp)]
              show H1[am_ad C (n + 1 + x)]? = some (vp_cell _ _)
              rw [am_ad_in C (by omega), show C.1 + (n + 1 + x) = C.1 + n + 1 + x by omega, g2 x (by omega), hcI]
              unfold mn_i
              rw [c1_ac_0, vp_cell_i]
              congr 2
              funext y
              rw [hrd, if_neg (by omega), (hP.2.2.1 (n + 1 + x) (by omega) y).1]
      have w := hk (show n0 ≤ n + 1 + len by omega) H1 locs ls hl hP' (c1_gr (k := 1 + len) hS hHs (by omega) o1)
      have e1 : n - n0 + 1 + len = n + 1 + len - n0 := by omega
      have e2 : c1_S n - c1_S n0 + len + len * len2 = c1_S (n + 1 + len) - c1_S n0 := by omega
      rw [e1, e2, ← am_ad_in C hnN]
      exact w
    · cases h
  · cases h
theorem c1_okr_use {n kd a : Nat} (h : c1_okr n kd a = true) : a < n ∧ am_sh a = kd := by
  unfold c1_okr at h
  simp only [Bool.and_eq_true] at h
  exact ⟨am_blt h.1, am_beq h.2⟩
theorem c1_o_gf {i : Nat} (hch : am_lkF.any (fun q => Nat.beq q.1 (am_ow j) && Nat.beq q.2.1 i && Nat.beq q.2.2.1 a1 && Nat.beq q.2.2.2.1 a2) = true) (F : c1_F ini p R s m args meth c C j d nB n0) (hB : t.2.2.2.1 ≤ nB) (hk : c1_Wd p l e R s m args below meth c C (am_ml j) n0 Q t) (hdg : decode (am_b j) pc = .ok (.getfield i, 3)) (h : c1_gf a1 a2 pc al st n Lm = some t) : c1_Wd p l e R s m args below meth c C (am_ml j) n0 Q (pc, al, st, n, Lm) := by
  intro h0 H locs ls hl hP hS
  obtain ⟨h12, hf, hlk⟩ := am_lkF_use hch
  unfold c1_gf at h
  split at h
  · rename_i kq a r
    split at h
    · rename_i k3 off hb hok hfd hfl
      cases h
      have hb := am_beq hb
      subst hb
      obtain ⟨han, hsh⟩ := c1_okr_use hok
      have hfl : ¬ c1_rd Lm a a2 = 0 := of_decide_eq_false hfl
      exact va_get (D := C.2.1) (ci := kq) (v := .ref (am_ad C (a + off))) (C := (am_cl kq).1) (T := (am_cl kq).2.1) (N := (am_cl kq).2.2) (fs := c1_fs C (c1_M Lm) a) F.1 F.2.1 F.2.2.2.2.1 (am_uws h12) F.2.2.2.1 F.2.2.2.2.2.1.1 hP.2.2.2 a (by rw [c1_ws_get C _ han, c1_ce_o hsh (by omega)]) (am_cl_at kq h12) a2 hf (F.2.2.2.2.1 _ hlk) (fun _ z => z) (by rw [c1_fs_at hsh hfd (by simp), c1_fv_2]; exact congrArg some (if_neg hfl)) hdg (hk h0 H locs ls hl hP hS)
    · cases h
  · cases h
theorem c1_o_pf {i : Nat} (hch : am_lkF.any (fun q => Nat.beq q.1 (am_ow j) && Nat.beq q.2.1 i && Nat.beq q.2.2.1 a1 && Nat.beq q.2.2.2.1 a2) = true) (hde : ((am_cl a1).2.1 a2).1 = am_on (am_ow j)) (F : c1_F ini p R s m args meth c C j d nB n0) (hB : t.2.2.2.1 ≤ nB) (hk : c1_Wd p l e R s m args below meth c C (am_ml j) n0 Q t) (hdg : decode (am_b j) pc = .ok (.putfield i, 3)) (h : c1_pf ini a1 a2 pc al st n Lm = some t) : c1_Wd p l e R s m args below meth c C (am_ml j) n0 Q (pc, al, st, n, Lm) := by
  intro h0 H locs ls hl hP hS
  obtain ⟨h12, hf, hlk⟩ := am_lkF_use hch
  have hP : c1_P C n (c1_M Lm) H := hP
  unfold c1_pf at h
  split at h
  · rename_i v kq a r
    split at h
    · rename_i k3 off hb hok hfd hfin
      cases h
      have hb := am_beq hb
      subst hb
      obtain ⟨han, hsh⟩ := c1_okr_use hok
      have hfd' := hfd
      rw [← hsh] at hfd'
      refine va_put (D := C.2.1) (ci := kq) (v := .int v) (ty := .int) (C := (am_cl kq).1) (T := (am_cl kq).2.1) (N := (am_cl kq).2.2) (fs := c1_fs C (c1_M Lm) a) F.1 F.2.1 F.2.2.2.2.1 (am_uws h12) (am_ty0 kq) (am_tyok h12) (am_nm h12) F.2.2.2.1 F.2.2.2.2.2.1.1 hP.2.2.2 (c1_wD C _ hP.1) hS a (by rw [c1_ws_get C _ han, c1_ce_o hsh (by omega)]) (am_cl_at kq h12) a2 hf (F.2.2.2.2.1 _ hlk) (fun _ z => z) hfin (am_tyI h12 hf (by rw [hfd])) rfl rfl (List.getElem?_eq_some_iff.mp (c1_fs_at (C := C) (M := c1_M Lm) hsh hfd (by simp))).1 hdg (fun H1 locs1 hP1 hD1 hS1 => ?_)
      have hP2 : va_P C.2.1 vwCl (c1_ws C n (am_u (c1_M Lm).1 a a2 v, (c1_M Lm).2)) H1 := by
        rw [← c1_ws_set C (M := c1_M Lm) (M' := (am_u (c1_M Lm).1 a a2 v, (c1_M Lm).2)) han (fun b hb hne => c1_ce_same (am_u_ne hne) rfl), c1_ce_o hsh (by omega), c1_fs_u hfd' (by simp)]
        rw [c1_fv_0]
        dsimp only
        rw [am_u_eq]
        unfold upd
        rw [if_pos rfl]
        exact hP1
      refine c1_fixW F.2.2.2.2.2.2.2.2.2.2 h0 hP.1 (show 0 < n by omega) hP2 (fun hz => hk h0 H1 locs1 ls hl ?_ hS1)
      show c1_P C n (c1_M ((a, a2, v) :: Lm)) H1
      rw [c1_M_u]
      exact ⟨hP.1, hz, c1_Z_u hP.2.2.1 han, hP2⟩
    · cases h
  · rename_i k2 b kq a r
    split at h
    · rename_i k3 off hb hok hfd hfin
      split at h
      · rename_i hini hbb
        cases h
        have hb := am_beq hb
        subst hb
        have hbb := am_beq hbb
        subst hbb
        obtain ⟨han, hsh⟩ := c1_okr_use hok
        have hfd' := hfd
        rw [← hsh] at hfd'
        obtain ⟨-, -, hT⟩ := c1_dv_use h12 hf
        obtain ⟨t1, t2⟩ := c1_refT (hT (by rw [hfd])) (am_ad C (a + off))
        refine va_putF (D := C.2.1) (ci := kq) (v := .ref (am_ad C (a + off))) (ty := am_ty0 kq a2) (C := (am_cl kq).1) (T := (am_cl kq).2.1) (N := (am_cl kq).2.2) (fs := c1_fs C (c1_M Lm) a) F.1 F.2.1 F.2.2.2.2.1 (am_uws h12) (am_ty0 kq) (am_tyok h12) (am_nm h12) F.2.2.2.1 F.2.2.2.2.2.1.1 hP.2.2.2 (c1_wD C _ hP.1) hS a (by rw [c1_ws_get C _ han, c1_ce_o hsh (by omega)]) (am_cl_at kq h12) a2 hf (F.2.2.2.2.1 _ hlk) (fun _ z => z) hfin (F.2.2.2.2.2.2.2.2.1 rfl) hde (am_tyok h12 a2 hf) t1 t2 (List.getElem?_eq_some_iff.mp (c1_fs_at (C := C) (M := c1_M Lm) hsh hfd (by simp))).1 hdg (fun H1 locs1 hP1 hD1 hS1 => ?_)
        have hP2 : va_P C.2.1 vwCl (c1_ws C n (am_u (c1_M Lm).1 a a2 1, (c1_M Lm).2)) H1 := by
          rw [← c1_ws_set C (M := c1_M Lm) (M' := (am_u (c1_M Lm).1 a a2 1, (c1_M Lm).2)) han (fun b hb hne => c1_ce_same (am_u_ne hne) rfl), c1_ce_o hsh (by omega), c1_fs_u hfd' (by simp)]
          have hu : am_u (c1_M Lm).1 a a2 1 a a2 = 1 := by
            rw [am_u_eq]
            unfold upd
            rw [if_pos rfl]
          rw [c1_fv_2]
          dsimp only
          rw [if_neg (by rw [hu]; decide)]
          exact hP1
        refine c1_fixW F.2.2.2.2.2.2.2.2.2.2 h0 hP.1 (show 0 < n by omega) hP2 (fun hz => hk h0 H1 locs1 ls hl ?_ hS1)
        show c1_P C n (c1_M ((a, a2, 1) :: Lm)) H1
        rw [c1_M_u]
        exact ⟨hP.1, hz, c1_Z_u hP.2.2.1 han, hP2⟩
      · cases h
    · cases h
  · cases h
theorem c1_o_iast (F : c1_F ini p R s m args meth c C j d nB n0) (hB : t.2.2.2.1 ≤ nB) (hk : c1_Wd p l e R s m args below meth c C (am_ml j) n0 Q t) (hdg : decode (am_b j) pc = .ok (.iastore, 1)) (h : c1_iast pc al st n Lm = some t) : c1_Wd p l e R s m args below meth c C (am_ml j) n0 Q (pc, al, st, n, Lm) := by
  intro h0 H locs ls hl hP hS
  have hP : c1_P C n (c1_M Lm) H := hP
  unfold c1_iast at h
  split at h
  · rename_i v jj kq a r
    split at h
    · rename_i hb1 hok hin
      cases h
      have har := am_beq hb1
      obtain ⟨han, hsh⟩ := c1_okr_use hok
      have haN : a < am_N := Nat.lt_of_lt_of_le han hP.1
      have hci : (am_ar kq).2.2.1 = 0 := by
        have := (am_clo_k haN).2.1
        rw [hsh, har] at this
        exact this (by omega)
      have hce : ∀ M : aM, c1_ce C M a = .inl (C.2.2.1 0, (am_ar kq).2.1, .inl (M.1 a)) := fun M => by
        rw [c1_ce_a haN hsh rfl (by rw [har]; simp), hci]
        congr 2
        unfold c1_ac
        split
        · rename_i q; rw [har] at q; cases q
        · rename_i q; rw [har] at q; cases q
        · rfl
      refine va_iast F.1 F.2.1 F.2.2.2.2.2.1.1 hP.2.2.2 (c1_wD C _ hP.1) hS a 0 (by rw [c1_ws_get C _ han, hce]) rfl (am_inB_in hin) hdg (fun H1 locs1 hP1 hD1 hS1 => ?_)
      have hP2 : va_P C.2.1 vwCl (c1_ws C n (am_u (c1_M Lm).1 a jj.toNatClampNeg v, (c1_M Lm).2)) H1 := by
        rw [← c1_ws_set C (M := c1_M Lm) (M' := (am_u (c1_M Lm).1 a jj.toNatClampNeg v, (c1_M Lm).2)) han (fun b hb hne => c1_ce_same (am_u_ne hne) rfl), hce]
        dsimp only
        rw [am_u_eq]
        exact hP1
      refine c1_fixW F.2.2.2.2.2.2.2.2.2.2 h0 hP.1 (show 0 < n by omega) hP2 (fun hz => hk h0 H1 locs1 ls hl ?_ hS1)
      show c1_P C n (c1_M ((a, jj.toNatClampNeg, v) :: Lm)) H1
      rw [c1_M_u]
      exact ⟨hP.1, hz, c1_Z_u hP.2.2.1 han, hP2⟩
    · cases h
  · cases h
theorem c1_o_aast (F : c1_F ini p R s m args meth c C j d nB n0) (hB : t.2.2.2.1 ≤ nB) (hk : c1_Wd p l e R s m args below meth c C (am_ml j) n0 Q t) (hdg : decode (am_b j) pc = .ok (.aastore, 1)) (h : c1_aast pc al st n Lm = some t) : c1_Wd p l e R s m args below meth c C (am_ml j) n0 Q (pc, al, st, n, Lm) := by
  intro h0 H locs ls hl hP hS
  have hP : c1_P C n (c1_M Lm) H := hP
  unfold c1_aast at h
  split at h
  · rename_i k2 b jj kq a r
    split at h
    · rename_i len ci ek f0 dd har hok hok2
      split at h
      · rename_i hin hbb hcc
        cases h
        have hbb := am_beq hbb
        obtain ⟨han, hsh⟩ := c1_okr_use hok
        obtain ⟨hbn, hsh2⟩ := c1_okr_use hok2
        have haN : a < am_N := Nat.lt_of_lt_of_le han hP.1
        have hk12 : k2 < 12 ∧ (am_tys C)[ci]? = some (C.2.2.1 ci, .object (am_cl k2).1) := by
          simp only [Bool.or_eq_true, Bool.and_eq_true] at hcc
          rcases hcc with q | q
          · have q1 := am_beq q.1
            have q2 := am_beq q.2
            subst q1; subst q2
            exact ⟨by omega, rfl⟩
          · have q1 := am_beq q.1
            have q2 := am_beq q.2
            subst q1; subst q2
            exact ⟨by omega, rfl⟩
        have hce : ∀ M : aM, c1_ce C M a = .inl (C.2.2.1 ci, len, .inr (.inr (.inr (.inr (fun i => if M.1 a i = 0 then none else some (am_ad C (a + (f0 + dd * i)))))))) := fun M => c1_ce_a haN hsh har (by simp)
        refine va_astq F.1 F.2.1 F.2.2.2.2.2.1.1 hP.2.2.2 (c1_wD C _ hP.1) hS a ci b k2 (r := am_cl k2) (by rw [c1_ws_get C _ han, hce]) hk12.2 (by rw [c1_ws_get C _ hbn, c1_ce_o hsh2 (by omega)]) (am_cl_at k2 hk12.1) (am_inB_in hin) hdg (fun H1 locs1 hP1 hD1 hS1 => ?_)
        have hP2 : va_P C.2.1 vwCl (c1_ws C n (am_u (c1_M Lm).1 a jj.toNatClampNeg 1, (c1_M Lm).2)) H1 := by
          rw [← c1_ws_set C (M := c1_M Lm) (M' := (am_u (c1_M Lm).1 a jj.toNatClampNeg 1, (c1_M Lm).2)) han (fun b hb hne => c1_ce_same (am_u_ne hne) rfl), hce]
          have ef : (fun i => if am_u (c1_M Lm).1 a jj.toNatClampNeg 1 a i = 0 then none else some (am_ad C (a + (f0 + dd * i)))) = va_up (fun i => if (c1_M Lm).1 a i = 0 then none else some (am_ad C (a + (f0 + dd * i)))) jj.toNatClampNeg (some (am_ad C b)) := by
            funext i
            unfold va_up
            by_cases w : i = jj.toNatClampNeg
            · have hu : am_u (c1_M Lm).1 a jj.toNatClampNeg 1 a i = 1 := by
                rw [am_u_eq]
                unfold upd
                rw [if_pos w]
              rw [if_neg (by rw [hu]; decide), if_pos w, hbb, w]
            · have hu : am_u (c1_M Lm).1 a jj.toNatClampNeg 1 a i = (c1_M Lm).1 a i := by
                rw [am_u_eq]
                unfold upd
                rw [if_neg w]
              rw [if_neg w]
              simp only [hu]
          dsimp only
          rw [ef]
          exact hP1
        refine c1_fixW F.2.2.2.2.2.2.2.2.2.2 h0 hP.1 (show 0 < n by omega) hP2 (fun hz => hk h0 H1 locs1 ls hl ?_ hS1)
        show c1_P C n (c1_M ((a, jj.toNatClampNeg, 1) :: Lm)) H1
        rw [c1_M_u]
        exact ⟨hP.1, hz, c1_Z_u hP.2.2.1 han, hP2⟩
      · cases h
    · cases h
  · cases h
/-- what callers know of the constructors that they call -/
def c1_SOk (d : Nat) (sem : c1_Sm) : Prop := ∀ j2 : Nat, sem j2 = (fun _ _ _ => none) ∨ ∃ d2 : Nat, d2 + 1 ≤ d ∧ c1_okm (am_me j2) = true ∧ c1_Ok d2 j2 (sem j2)
theorem c1_o_isp (hs : c1_SOk d sem) {i : Nat} (hch : (match a2 with
    | 0 => decide (am_at a1 = some (.methodLink (am_on (am_ow j)) i Lib.objectInit))
    | _ => am_lkM.any (fun q => Nat.beq q.1 (am_ow j) && Nat.beq q.2.1 i && Nat.beq q.2.2.1 a1) && Nat.blt a1 9000) = true) (F : c1_F ini p R s m args meth c C j d nB n0) (hB : t.2.2.2.1 ≤ nB) (hk : c1_Wd p l e R s m args below meth c C (am_ml j) n0 Q t) (hdg : decode (am_b j) pc = .ok (.invokespecial i, 3)) (h : c1_isp sem a1 a2 pc al st n Lm = some t) : n ≤ t.2.2.2.1 ∧ c1_Wd p l e R s m args below meth c C (am_ml j) n0 Q (pc, al, st, n, Lm) := by
  have hch2 : (a2 = 0 → False) → (am_lkM.any (fun q => Nat.beq q.1 (am_ow j) && Nat.beq q.2.1 i && Nat.beq q.2.2.1 a1) && Nat.blt a1 9000) = true := fun hz => by
    cases a2 with
    | zero => exact absurd rfl hz
    | succ x => exact hch
  unfold c1_isp at h
  split at h
  · rename_i kq a r
    split at h
    · rename_i hwd
      cases h
      refine ⟨Nat.le_refl _, ?_⟩
      intro h0 H locs ls hl hP hS
      have hwd := Nat.le_of_ble_eq_true hwd
      have hlk : am_at a1 = some (.methodLink (am_on (am_ow j)) i Lib.objectInit) := of_decide_eq_true hch
      have hR := F.2.2.2.2.2.2.2.1
      have h1 := F.2.2.2.2.2.2.2.2.2.1
      refine W.objInit (a := am_ad C a) (rest := r.map (am_cv C)) F.1 F.2.1 F.2.2.2.1 (F.2.2.2.2.1 _ (am_gat hlk rfl)) (F.2.2.2.2.1 _ (am_gat (i := 1027) (by decide +kernel) rfl)) (F.2.2.2.2.1 _ (am_gat (i := 1028) (w := .code Lib.objectInit ⟨#[0xb1]⟩ 1 none) rfl rfl)) rfl (hl.1.trans F.2.2.1.symm) rfl hdg (by omega) ?_ (hk h0 H locs ls hl hP hS)
      have := lv_room (m := m) (pc := pc) (ls := ls) (rest := []) (st := r.map (am_cv C)) (by rw [am_wd_cv]; exact hwd)
      show 2 * 0 + _ + 12 ≤ R.locals
      have e : 2 * (F0 m pc ls []).monitorRoom = 2 * 0 := rfl
      omega
    · rename_i hwd hz
      split at h
      · rename_i n2 L2 hok hkq hsem
        cases h
        have hwd := Nat.le_of_ble_eq_true hwd
        rcases hs a1 with q | ⟨d2, hd2, hokm, hOk⟩
        · rw [q] at hsem; cases hsem
        · obtain ⟨hle, hmet⟩ := hOk a n Lm n2 L2 hok hsem
          refine ⟨hle, ?_⟩
          intro h0 H locs ls hl hP hS
          have h0 : n0 ≤ n := h0
          have hB : n2 ≤ nB := hB
          have hP : c1_P C n (c1_M Lm) H := hP
          obtain ⟨g1, g2, g3, g4, g5, g6, g7, g8, g9, g10⟩ := c1_okm_use hokm
          have hch := hch2 hz
          simp only [Bool.and_eq_true] at hch
          have hlk := am_lkM_use hch.1
          rw [am_pn_lo (am_blt hch.2)] at hlk
          have hm1 := c1_S_le hB
          have hm2 := c1_S_le h0
          have hm3 := c1_S_le hle
          have hR := F.2.2.2.2.2.2.2.1
          have hcb : CallB R s args (am_on (am_ow j)) i (am_y a1) (am_b a1) (am_ml a1) none (am_wsU a1) (c1_rm d2 n n2) (n2 - n) (c1_S n2 - c1_S n) 0 :=
            callB_of 0 F.2.2.2.2.1 (c1_good g7) (by unfold am_wsU; rw [g10]) rfl rfl (F.2.2.2.2.1 _ g3) (F.2.2.2.2.1 _ hlk) ⟨g4.1, g4.2, g5⟩ ⟨show d2 + 1 ≤ R.frames by omega, show 8 + (am_ml a1 + 11) + 40 * d2 ≤ R.locals by omega⟩
          have hrun := va_runI (H := H) (locs := locs) (cells := n - n0) (slots := c1_S n - c1_S n0) (below := below) (e := e) (meth := meth) (g := F0 m pc ls (.ref (am_ad C a) :: r.map (am_cv C))) (As := []) (rest := r.map (am_cv C)) (b := am_ad C a) ⟨F.1, F.2.1, F.2.2.1, F.2.2.2.1, F.2.2.2.2.1⟩ (hmet l C) ⟨hcb, g9, F.2.2.2.2.1 _ g8⟩ ⟨c1_Pc_blind C a n Lm, fun U hU hW => ⟨rfl, F.2.2.2.2.2.1.warm hW (by rw [hU]; exact hS.2.1), F.2.2.2.2.2.2.1.moved hW.alike, by rw [hU]; exact hP⟩⟩ rfl rfl hl.1 rfl (lv_room (by rw [am_wd_cv]; exact hwd)) hdg ⟨by omega, by omega⟩
          intro T hT X0
          obtain ⟨v, st₀, t1, T', L, e0, X', hL, e1, e2, ⟨hv, hp, hz1, hk1⟩, stp⟩ := hrun T hT X0
          injection hv with hv
          subst hv
          rw [e0] at hz1 hk1
          have hS1 : va_S (am_A C) s.heap T'.heap (locs ++ L) := by
            refine ⟨Nat.le_trans hS.1 (by rw [e1]; exact hz1), fun q w1 w2 => ?_, fun q hq => ?_⟩
            · rw [e1, hk1 q (Nat.lt_of_lt_of_le w1 hS.1) w2]
              exact hS.2.1 q w1 w2
            · rcases List.mem_append.mp hq with hq | hq
              · exact hS.2.2 q hq
              · exact hL q hq
          have w := hk (show n0 ≤ n2 by omega) T'.heap (locs ++ L) ls hl (by rw [e1]; exact hp) hS1
          have x1 : n - n0 + (n2 - n) = n2 - n0 := by omega
          have x2 : c1_S n - c1_S n0 + (c1_S n2 - c1_S n) = c1_S n2 - c1_S n0 := by omega
          rw [x1, x2] at X'
          obtain ⟨t2, y1, y2⟩ := w T' rfl X'
          exact ⟨t2, stp t2 y1, y2⟩
      · cases h
    · cases h
  · cases h
end C2
