section AMH
variable {X : Option (Nat × (Nat → Int32))} {sws : List (List (Int32 × Nat) × Nat)} {sem : Nat → List aV → aM → Option aR} {p : Program} {l : Launch} {e : Env} {R : Room} {s : State} {m : MethodId} {args : Array Value} {below : List Frame} {meth : Method} {c : Code} {C : aC} {Q : State → Prop} {j d ce sl : Nat} {r : aR} {k : aK} {pc a1 a2 : Nat} {a3 : Int32} {a4 : Int64} {al : aL} {st : List aV} {M : aM}
theorem am_o_getfield {i : Nat} (hch : am_lkF.any (fun q => Nat.beq q.1 (am_ow j) && Nat.beq q.2.1 i && Nat.beq q.2.2.1 a1 && Nat.beq q.2.2.2.1 a2) = true) (F : am_F X p R s m args c C j d ce sl) (hk : am_HK p l e R s m args below meth c C (am_ml j) ce sl Q r k) (hdg : decode (am_b j) pc = .ok (.getfield i, 3)) (h : am_gf a1 a2 k pc al st M = some r) : am_Wd p l e R s m args below meth c C (am_ml j) ce sl Q pc al st M := by
  intro hal hst H locs ls hl hP hS
  obtain ⟨h12, hf, hlk⟩ := am_lkF_use hch
  unfold am_gf at h
  split at h
  · rename_i kq a rest
    have hok : am_wkb kq a = true := am_wk_h hst
    split at h
    · rename_i k2 dd hb hfd
      have hb := am_beq hb
      subst hb
      obtain ⟨haN, hsh⟩ := am_wk_lo hok (by omega)
      exact va_get (D := C.2.1) (ci := kq) (v := .int (M.1 a a2)) (C := (am_cl kq).1) (T := (am_cl kq).2.1) (N := (am_cl kq).2.2) (fs := am_fs C M a) F.1 F.2.1 F.2.2.2.2.1 (am_uws h12) F.2.2.2.1 F.2.2.2.2.2.1.1 hP a (by rw [am_ws_get C M haN, am_ce_o hsh (by omega)]) (am_cl_at kq h12) a2 hf (F.2.2.2.2.1 _ hlk) (fun _ z => z) (by rw [am_fs_at hsh hfd (by simp)]; rfl) hdg (hk _ _ _ _ h hal (am_wk_c trivial (am_wk_t hst)) H locs ls hl hP hS)
    · rename_i k2 dd hb hfd
      have hb := am_beq hb
      subst hb
      obtain ⟨haN, hsh⟩ := am_wk_lo hok (by omega)
      exact va_get (D := C.2.1) (ci := kq) (v := .long (M.2 a a2)) (C := (am_cl kq).1) (T := (am_cl kq).2.1) (N := (am_cl kq).2.2) (fs := am_fs C M a) F.1 F.2.1 F.2.2.2.2.1 (am_uws h12) F.2.2.2.1 F.2.2.2.2.2.1.1 hP a (by rw [am_ws_get C M haN, am_ce_o hsh (by omega)]) (am_cl_at kq h12) a2 hf (F.2.2.2.2.1 _ hlk) (fun _ z => z) (by rw [am_fs_at hsh hfd (by simp)]; rfl) hdg (hk _ _ _ _ h hal (am_wk_c trivial (am_wk_t hst)) H locs ls hl hP hS)
    · rename_i k2 dd hb hfd
      have hb := am_beq hb
      subst hb
      obtain ⟨haN, hsh⟩ := am_wk_lo hok (by omega)
      exact va_get (D := C.2.1) (ci := kq) (v := .ref (am_ad C (a + dd))) (C := (am_cl kq).1) (T := (am_cl kq).2.1) (N := (am_cl kq).2.2) (fs := am_fs C M a) F.1 F.2.1 F.2.2.2.2.1 (am_uws h12) F.2.2.2.1 F.2.2.2.2.2.1.1 hP a (by rw [am_ws_get C M haN, am_ce_o hsh (by omega)]) (am_cl_at kq h12) a2 hf (F.2.2.2.2.1 _ hlk) (fun _ z => z) (by rw [am_fs_at hsh hfd (by simp)]; rfl) hdg (hk _ _ _ _ h hal (am_wk_c (am_clo_f haN (by rw [hsh]; exact hfd)) (am_wk_t hst)) H locs ls hl hP hS)
    · cases h
  · cases h
theorem am_o_putfield {i : Nat} (hfi : (!((am_cl a1).2.1 a2).2.2.2) = true) (hch : am_lkF.any (fun q => Nat.beq q.1 (am_ow j) && Nat.beq q.2.1 i && Nat.beq q.2.2.1 a1 && Nat.beq q.2.2.2.1 a2) = true) (F : am_F X p R s m args c C j d ce sl) (hk : am_HK p l e R s m args below meth c C (am_ml j) ce sl Q r k) (hdg : decode (am_b j) pc = .ok (.putfield i, 3)) (h : am_pf a1 a2 k pc al st M = some r) : am_Wd p l e R s m args below meth c C (am_ml j) ce sl Q pc al st M := by
  intro hal hst H locs ls hl hP hS
  obtain ⟨h12, hf, hlk⟩ := am_lkF_use hch
  have hfin : ((am_cl a1).2.1 a2).2.2.2 = false := by simpa using hfi
  unfold am_pf at h
  split at h
  · rename_i v kq a rest
    split at h
    · rename_i k2 dd hb hfd
      have hb := am_beq hb
      subst hb
      have hok : am_wkb kq a = true := am_wk_h (am_wk_t hst)
      obtain ⟨haN, hsh⟩ := am_wk_lo hok (by omega)
      have hfd' := hfd
      rw [← hsh] at hfd'
      refine va_put (D := C.2.1) (ci := kq) (v := .int v) (ty := .int) (C := (am_cl kq).1) (T := (am_cl kq).2.1) (N := (am_cl kq).2.2) (fs := am_fs C M a) F.1 F.2.1 F.2.2.2.2.1 (am_uws h12) (am_ty0 kq) (am_tyok h12) (am_nm h12) F.2.2.2.1 F.2.2.2.2.2.1.1 hP (am_wD C M) hS a (by rw [am_ws_get C M haN, am_ce_o hsh (by omega)]) (am_cl_at kq h12) a2 hf (F.2.2.2.2.1 _ hlk) (fun _ z => z) hfin (am_tyI h12 hf (by rw [hfd])) rfl rfl (List.getElem?_eq_some_iff.mp (am_fs_at (C := C) (M := M) hsh hfd (by simp))).1 hdg (fun H1 locs1 hP1 hD1 hS1 => ?_)
      refine hk _ _ _ _ h hal (am_wk_t (am_wk_t hst)) H1 locs1 ls hl ?_ hS1
      rw [← am_ws_set C (M := M) (M' := (am_u M.1 a a2 v, M.2)) haN (fun b hb hne => am_ce_same (am_u_ne hne) rfl), am_ce_o hsh (by omega), am_fs_i hfd']
      exact hP1
    · cases h
  · rename_i v kq a rest
    split at h
    · rename_i k2 dd hb hfd
      have hb := am_beq hb
      subst hb
      have hok : am_wkb kq a = true := am_wk_h (am_wk_t hst)
      obtain ⟨haN, hsh⟩ := am_wk_lo hok (by omega)
      have hfd' := hfd
      rw [← hsh] at hfd'
      refine va_put (D := C.2.1) (ci := kq) (v := .long v) (ty := .long) (C := (am_cl kq).1) (T := (am_cl kq).2.1) (N := (am_cl kq).2.2) (fs := am_fs C M a) F.1 F.2.1 F.2.2.2.2.1 (am_uws h12) (am_ty0 kq) (am_tyok h12) (am_nm h12) F.2.2.2.1 F.2.2.2.2.2.1.1 hP (am_wD C M) hS a (by rw [am_ws_get C M haN, am_ce_o hsh (by omega)]) (am_cl_at kq h12) a2 hf (F.2.2.2.2.1 _ hlk) (fun _ z => z) hfin (am_tyL h12 hf (by rw [hfd])) rfl rfl (List.getElem?_eq_some_iff.mp (am_fs_at (C := C) (M := M) hsh hfd (by simp))).1 hdg (fun H1 locs1 hP1 hD1 hS1 => ?_)
      refine hk _ _ _ _ h hal (am_wk_t (am_wk_t hst)) H1 locs1 ls hl ?_ hS1
      rw [← am_ws_set C (M := M) (M' := (M.1, am_ul M.2 a a2 v)) haN (fun b hb hne => am_ce_same rfl (am_ul_ne hne)), am_ce_o hsh (by omega), am_fs_l hfd']
      exact hP1
    · cases h
  · cases h
theorem am_arr {C : aC} {M : aM} {kq a : Nat} {q : am_AT} (hok : am_wkb kq a = true) (hq : am_ar kq = q) (h5 : q.1 < 5) : a < am_N ∧ am_sh a = kq ∧ (am_ws C M)[a]? = some (am_ad C a, .inl (C.2.2.1 q.2.2.1, q.2.1, am_ac C M a q)) ∧ (q.1 < 4 → q.2.2.1 = q.1) ∧ (q.1 = 4 → 4 ≤ q.2.2.1 ∧ q.2.2.1 ≤ 6) := by
  obtain ⟨haN, hsh⟩ := am_wk_ar hok (by rw [hq]; exact h5)
  have hk := am_clo_k haN
  rw [hsh, hq] at hk
  exact ⟨haN, hsh, by rw [am_ws_get C M haN, am_ce_a haN hsh hq (by omega)], hk.2.1, hk.2.2.1⟩
set_option maxRecDepth 100000 in
theorem am_c70 : (List.range am_N).all (fun a => !(Nat.beq (am_ar (am_sh a)).1 7) && !(Nat.beq (am_ar (am_sh a)).1 8)) = true := by decide +kernel
theorem am_c7 (a : Nat) (h : a < am_N) : (am_ar (am_sh a)).1 ≠ 7 ∧ (am_ar (am_sh a)).1 ≠ 8 := by
  have h0 := List.all_eq_true.mp am_c70 a (List.mem_range.mpr h)
  simp only [Bool.and_eq_true, Bool.not_eq_true'] at h0
  exact ⟨fun q => by rw [q] at h0; exact absurd h0.1 (by decide), fun q => by rw [q] at h0; exact absurd h0.2 (by decide)⟩
theorem am_x61 {kq a : Nat} (hok : am_wkb kq a = true) (har : (am_ar kq).1 = 7) : a = 5100 := by
  unfold am_wkb at hok
  simp only [Bool.or_eq_true, Bool.and_eq_true] at hok
  rcases hok with ((q | q) | q) | q
  · exact absurd (by rw [am_beq q.2]; exact har) (am_c7 _ (am_blt q.1)).1
  · rw [am_beq q.1.1] at har; exact absurd har (by decide)
  · exact am_beq q.2
  · rw [am_beq q.1] at har; exact absurd har (by decide)
theorem am_x62 {kq a : Nat} (hok : am_wkb kq a = true) (har : (am_ar kq).1 = 8) : a = 5200 := by
  unfold am_wkb at hok
  simp only [Bool.or_eq_true, Bool.and_eq_true] at hok
  rcases hok with ((q | q) | q) | q
  · exact absurd (by rw [am_beq q.2]; exact har) (am_c7 _ (am_blt q.1)).2
  · rw [am_beq q.1.1] at har; exact absurd har (by decide)
  · rw [am_beq q.1] at har; exact absurd har (by decide)
  · exact am_beq q.2
theorem am_o_iaload  (F : am_F X p R s m args c C j d ce sl) (hk : am_HK p l e R s m args below meth c C (am_ml j) ce sl Q r k) (hdg : decode (am_b j) pc = .ok (.iaload, 1)) (h : am_iald X k pc al st M = some r) : am_Wd p l e R s m args below meth c C (am_ml j) ce sl Q pc al st M := by
  intro hal hst H locs ls hl hP hS
  unfold am_iald at h
  split at h
  · rename_i jj kq a rest
    have hok : am_wkb kq a = true := am_wk_h (am_wk_t hst)
    split at h
    · rename_i n ci ek f0 dd har
      split at h
      · rename_i hin
        obtain ⟨haN, hsh, hws, hci, -⟩ := am_arr (C := C) (M := M) hok har (by simp)
        have hci : ci = 0 := hci (by simp)
        subst hci
        exact va_iald F.1 F.2.1 F.2.2.2.2.2.1.1 hP a 0 hws rfl (am_inB_in hin) hdg (hk _ _ _ _ h hal (am_wk_c trivial (am_wk_t (am_wk_t hst))) H locs ls hl hP hS)
      · cases h
    · rename_i har
      split at h
      · rename_i hin
        have ha := am_x61 hok (by rw [har])
        subst ha
        exact va_ti F.1 F.2.1 F.2.2.2.2.2.1.2.2.2.1 hS (am_inB_in hin) rfl hdg (hk _ _ _ _ h hal (am_wk_c trivial (am_wk_t (am_wk_t hst))) H locs ls hl hP hS)
      · cases h
    · rename_i har
      have ha := am_x62 hok (by rw [har])
      subst ha
      split at h
      · rename_i n xs
        split at h
        · rename_i hin
          obtain ⟨x1, x2, x3⟩ := F.2.2.2.2.2.2.2 n xs rfl
          exact va_sld F.1 F.2.1 x1 x2 x3 hS (am_inB_in hin) hdg (hk _ _ _ _ h hal (am_wk_c trivial (am_wk_t (am_wk_t hst))) H locs ls hl hP hS)
        · cases h
      · cases h
    · cases h
  · cases h
theorem am_o_baload  (F : am_F X p R s m args c C j d ce sl) (hk : am_HK p l e R s m args below meth c C (am_ml j) ce sl Q r k) (hdg : decode (am_b j) pc = .ok (.baload, 1)) (h : am_bald k pc al st M = some r) : am_Wd p l e R s m args below meth c C (am_ml j) ce sl Q pc al st M := by
  intro hal hst H locs ls hl hP hS
  unfold am_bald at h
  split at h
  · rename_i jj kq a rest
    have hok : am_wkb kq a = true := am_wk_h (am_wk_t hst)
    split at h
    · rename_i n ci ek f0 dd har
      split at h
      · rename_i hin
        obtain ⟨haN, hsh, hws, hci, -⟩ := am_arr (C := C) (M := M) hok har (by simp)
        have hci : ci = 1 := hci (by simp)
        subst hci
        exact va_bald F.1 F.2.1 F.2.2.2.2.2.1.1 hP a 1 hws rfl (am_inB_in hin) hdg (hk _ _ _ _ h hal (am_wk_c trivial (am_wk_t (am_wk_t hst))) H locs ls hl hP hS)
      · cases h
    · rename_i n ci ek f0 dd har
      split at h
      · rename_i hin
        obtain ⟨haN, hsh, hws, hci, -⟩ := am_arr (C := C) (M := M) hok har (by simp)
        have hci : ci = 2 := hci (by simp)
        subst hci
        exact va_zald F.1 F.2.1 F.2.2.2.2.2.1.1 hP a 2 hws rfl (am_inB_in hin) hdg (hk _ _ _ _ h hal (am_wk_c trivial (am_wk_t (am_wk_t hst))) H locs ls hl hP hS)
      · cases h
    · cases h
  · cases h
theorem am_o_laload  (F : am_F X p R s m args c C j d ce sl) (hk : am_HK p l e R s m args below meth c C (am_ml j) ce sl Q r k) (hdg : decode (am_b j) pc = .ok (.laload, 1)) (h : am_lald k pc al st M = some r) : am_Wd p l e R s m args below meth c C (am_ml j) ce sl Q pc al st M := by
  intro hal hst H locs ls hl hP hS
  unfold am_lald at h
  split at h
  · rename_i jj kq a rest
    have hok : am_wkb kq a = true := am_wk_h (am_wk_t hst)
    split at h
    · rename_i n ci ek f0 dd har
      split at h
      · rename_i hin
        obtain ⟨haN, hsh, hws, hci, -⟩ := am_arr (C := C) (M := M) hok har (by simp)
        have hci : ci = 3 := hci (by simp)
        subst hci
        exact va_lald F.1 F.2.1 F.2.2.2.2.2.1.1 hP a 3 hws rfl (am_inB_in hin) hdg (hk _ _ _ _ h hal (am_wk_c trivial (am_wk_t (am_wk_t hst))) H locs ls hl hP hS)
      · cases h
    · cases h
  · cases h
theorem am_o_aaload  (F : am_F X p R s m args c C j d ce sl) (hk : am_HK p l e R s m args below meth c C (am_ml j) ce sl Q r k) (hdg : decode (am_b j) pc = .ok (.aaload, 1)) (h : am_aald k pc al st M = some r) : am_Wd p l e R s m args below meth c C (am_ml j) ce sl Q pc al st M := by
  intro hal hst H locs ls hl hP hS
  unfold am_aald at h
  split at h
  · rename_i jj kq a rest
    have hok : am_wkb kq a = true := am_wk_h (am_wk_t hst)
    split at h
    · rename_i n ci ek f0 dd har
      split at h
      · rename_i hin
        obtain ⟨haN, hsh, hws, -, hci⟩ := am_arr (C := C) (M := M) hok har (by simp)
        have hci := hci rfl
        dsimp only at hci
        have hin' := am_inB_in hin
        have hlt : jj.toNatClampNeg < n := Nat.not_le.mp fun q => hin' (Or.inr q)
        obtain ⟨ty, hty, href⟩ : ∃ ty, (am_tys C)[ci]? = some (C.2.2.1 ci, ty) ∧ ty.isReference = true := by
          rcases (show ci = 4 ∨ ci = 5 ∨ ci = 6 by omega) with q | q | q <;> subst q
          · exact ⟨_, rfl, rfl⟩
          · exact ⟨_, rfl, rfl⟩
          · exact ⟨_, rfl, rfl⟩
        exact W.aald (v := .ref (am_ad C (a + (f0 + dd * jj.toNatClampNeg)))) (ty := ty) F.1 F.2.1 (hP a _ hws) ((F.2.2.2.2.2.1.1.2 ci _ hty).1 n (fun i => va_rf (some (am_ad C (a + (f0 + dd * i)))))) href (fun q => by cases q) (by show ¬ (jj < 0 ∨ (arrV _ _ _).slots.size ≤ _); rw [arrV_size]; exact hin') (by show (arrV _ _ _).slots[_]? = _; rw [arrV_read _ _ hlt]; rfl) rfl rfl hdg (hk _ _ _ _ h hal (am_wk_c (am_clo_a haN (by rw [hsh]; exact har) hlt) (am_wk_t (am_wk_t hst))) H locs ls hl hP hS)
      · cases h
    · cases h
  · cases h
theorem am_o_iastore  (F : am_F X p R s m args c C j d ce sl) (hk : am_HK p l e R s m args below meth c C (am_ml j) ce sl Q r k) (hdg : decode (am_b j) pc = .ok (.iastore, 1)) (h : am_iast k pc al st M = some r) : am_Wd p l e R s m args below meth c C (am_ml j) ce sl Q pc al st M := by
  intro hal hst H locs ls hl hP hS
  unfold am_iast at h
  split at h
  · rename_i v jj kq a rest
    have hok : am_wkb kq a = true := am_wk_h (am_wk_t (am_wk_t hst))
    split at h
    · rename_i n ci ek f0 dd har
      split at h
      · rename_i hin
        obtain ⟨haN, hsh, hws, hci, -⟩ := am_arr (C := C) (M := M) hok har (by simp)
        have hci : ci = 0 := hci (by simp)
        subst hci
        refine va_iast F.1 F.2.1 F.2.2.2.2.2.1.1 hP (am_wD C M) hS a 0 hws rfl (am_inB_in hin) hdg (fun H1 locs1 hP1 hD1 hS1 => ?_)
        refine hk _ _ _ _ h hal (am_wk_t (am_wk_t (am_wk_t hst))) H1 locs1 ls hl ?_ hS1
        rw [← am_ws_set C (M := M) (M' := (am_u M.1 a jj.toNatClampNeg v, M.2)) haN (fun b hb hne => am_ce_same (am_u_ne hne) rfl), am_ce_a haN hsh har (by simp)]
        unfold am_ac
        dsimp only
        rw [am_u_eq]
        exact hP1
      · cases h
    · cases h
  · cases h
theorem am_o_bastore  (F : am_F X p R s m args c C j d ce sl) (hk : am_HK p l e R s m args below meth c C (am_ml j) ce sl Q r k) (hdg : decode (am_b j) pc = .ok (.bastore, 1)) (h : am_bast k pc al st M = some r) : am_Wd p l e R s m args below meth c C (am_ml j) ce sl Q pc al st M := by
  intro hal hst H locs ls hl hP hS
  unfold am_bast at h
  split at h
  · rename_i v jj kq a rest
    have hok : am_wkb kq a = true := am_wk_h (am_wk_t (am_wk_t hst))
    split at h
    · rename_i n ci ek f0 dd har
      split at h
      · rename_i hin
        obtain ⟨haN, hsh, hws, hci, -⟩ := am_arr (C := C) (M := M) hok har (by simp)
        have hci : ci = 1 := hci (by simp)
        subst hci
        refine va_bast F.1 F.2.1 F.2.2.2.2.2.1.1 hP (am_wD C M) hS a 1 hws rfl (am_inB_in hin) hdg (fun H1 locs1 hP1 hD1 hS1 => ?_)
        refine hk _ _ _ _ h hal (am_wk_t (am_wk_t (am_wk_t hst))) H1 locs1 ls hl ?_ hS1
        rw [← am_ws_set C (M := M) (M' := (am_u M.1 a jj.toNatClampNeg v.toInt8.toInt32, M.2)) haN (fun b hb hne => am_ce_same (am_u_ne hne) rfl), am_ce_a haN hsh har (by simp)]
        unfold am_ac
        dsimp only
        rw [am_u_eq, ← vp_nar_byte]
        exact hP1
      · cases h
    · rename_i n ci ek f0 dd har
      split at h
      · rename_i hin
        obtain ⟨haN, hsh, hws, hci, -⟩ := am_arr (C := C) (M := M) hok har (by simp)
        have hci : ci = 2 := hci (by simp)
        subst hci
        refine va_zast F.1 F.2.1 F.2.2.2.2.2.1.1 hP (am_wD C M) hS a 2 hws rfl (am_inB_in hin) hdg (fun H1 locs1 hP1 hD1 hS1 => ?_)
        refine hk _ _ _ _ h hal (am_wk_t (am_wk_t (am_wk_t hst))) H1 locs1 ls hl ?_ hS1
        rw [← am_ws_set C (M := M) (M' := (am_u M.1 a jj.toNatClampNeg (v &&& 1), M.2)) haN (fun b hb hne => am_ce_same (am_u_ne hne) rfl), am_ce_a haN hsh har (by simp)]
        unfold am_ac
        dsimp only
        rw [am_u_eq, show v &&& 1 = vp_nar .boolean v from rfl]
        exact hP1
      · cases h
    · cases h
  · cases h
theorem am_o_lastore  (F : am_F X p R s m args c C j d ce sl) (hk : am_HK p l e R s m args below meth c C (am_ml j) ce sl Q r k) (hdg : decode (am_b j) pc = .ok (.lastore, 1)) (h : am_last k pc al st M = some r) : am_Wd p l e R s m args below meth c C (am_ml j) ce sl Q pc al st M := by
  intro hal hst H locs ls hl hP hS
  unfold am_last at h
  split at h
  · rename_i v jj kq a rest
    have hok : am_wkb kq a = true := am_wk_h (am_wk_t (am_wk_t hst))
    split at h
    · rename_i n ci ek f0 dd har
      split at h
      · rename_i hin
        obtain ⟨haN, hsh, hws, hci, -⟩ := am_arr (C := C) (M := M) hok har (by simp)
        have hci : ci = 3 := hci (by simp)
        subst hci
        refine va_last F.1 F.2.1 F.2.2.2.2.2.1.1 hP (am_wD C M) hS a 3 hws rfl (am_inB_in hin) hdg (fun H1 locs1 hP1 hD1 hS1 => ?_)
        refine hk _ _ _ _ h hal (am_wk_t (am_wk_t (am_wk_t hst))) H1 locs1 ls hl ?_ hS1
        rw [← am_ws_set C (M := M) (M' := (M.1, am_ul M.2 a jj.toNatClampNeg v)) haN (fun b hb hne => am_ce_same rfl (am_ul_ne hne)), am_ce_a haN hsh har (by simp)]
        unfold am_ac
        dsimp only
        rw [am_ul_eq]
        exact hP1
      · cases h
    · cases h
  · cases h
theorem am_o_arraylength  (F : am_F X p R s m args c C j d ce sl) (hk : am_HK p l e R s m args below meth c C (am_ml j) ce sl Q r k) (hdg : decode (am_b j) pc = .ok (.arraylength, 1)) (h : am_alen X k pc al st M = some r) : am_Wd p l e R s m args below meth c C (am_ml j) ce sl Q pc al st M := by
  intro hal hst H locs ls hl hP hS
  unfold am_alen at h
  split at h
  · rename_i kq a rest
    have hok : am_wkb kq a = true := am_wk_h hst
    split at h
    · rename_i n ci ek f0 dd har
      obtain ⟨haN, hsh, hws, hci, -⟩ := am_arr (C := C) (M := M) hok har (by simp)
      have hci : ci = 0 := hci (by simp)
      subst hci
      exact va_alen F.1 F.2.1 F.2.2.2.2.2.1.1 hP a 0 hws rfl rfl hdg (hk _ _ _ _ h hal (am_wk_c trivial (am_wk_t hst)) H locs ls hl hP hS)
    · rename_i n ci ek f0 dd har
      obtain ⟨haN, hsh, hws, hci, -⟩ := am_arr (C := C) (M := M) hok har (by simp)
      have hci : ci = 3 := hci (by simp)
      subst hci
      exact va_alen F.1 F.2.1 F.2.2.2.2.2.1.1 hP a 3 hws rfl rfl hdg (hk _ _ _ _ h hal (am_wk_c trivial (am_wk_t hst)) H locs ls hl hP hS)
    · rename_i har
      have ha := am_x62 hok (by rw [har])
      subst ha
      split at h
      · rename_i n xs
        obtain ⟨x1, x2, x3⟩ := F.2.2.2.2.2.2.2 n xs rfl
        exact va_slen F.1 F.2.1 x1 x2 x3 hS hdg (hk _ _ _ _ h hal (am_wk_c trivial (am_wk_t hst)) H locs ls hl hP hS)
      · cases h
    · cases h
  · cases h
set_option maxRecDepth 100000 in
theorem am_lkG_ok : am_lkG.all (fun q => decide (am_at q.2.2 = some (.fieldLink (am_on q.1) q.2.1 "ArgumentMender" "FACTORIALS" "[I"))) = true := by decide +kernel
theorem am_o_getstatic {i : Nat} (hch : am_lkG.any (fun q => Nat.beq q.1 (am_ow j) && Nat.beq q.2.1 i) = true) (F : am_F X p R s m args c C j d ce sl) (hk : am_HK p l e R s m args below meth c C (am_ml j) ce sl Q r k) (hdg : decode (am_b j) pc = .ok (.getstatic i, 3)) (h : k (pc + 3) al (.inr (.inr (61, 5100)) :: st) M = some r) : am_Wd p l e R s m args below meth c C (am_ml j) ce sl Q pc al st M := by
  intro hal hst H locs ls hl hP hS
  obtain ⟨⟨q1, q2, q3⟩, hq, he⟩ := List.any_eq_true.mp hch
  have hok := of_decide_eq_true (List.all_eq_true.mp am_lkG_ok _ hq)
  simp only [Bool.and_eq_true] at he
  obtain ⟨e1, e2⟩ := he
  have e1 := am_beq e1
  have e2 := am_beq e2
  try dsimp only at e1 e2
  subst e2
  rw [e1] at hok
  exact va_gets F.1 F.2.1 F.2.2.2.2.2.1.2.2.2.2.1 hS F.2.2.2.1 (F.2.2.2.2.1 _ (am_gat hok rfl)) (fun _ z => z) hdg (hk _ _ _ _ h hal (am_wk_c (show am_wkb 61 5100 = true by decide) hst) H locs ls hl hP hS)
end AMH
