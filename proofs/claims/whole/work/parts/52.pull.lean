/-! ===== what a pull does, in numbers ===== -/
abbrev cW : Type := Nat → Nat → Nat
/-- threads of a claim, in order -/
def thr (W : cW) (c : Nat) : List Nat := (List.range (W 0 4)).filter (fun t => W 1 t == c)
def thT (W : cW) (c n : Nat) : List Nat := (List.range n).filter (fun t => W 1 t == c)
theorem thr_eq (W : cW) (c : Nat) : thr W c = thT W c (W 0 4) := rfl
theorem thT_succ (W : cW) (c n : Nat) : thT W c (n + 1) = thT W c n ++ (if W 1 n = c then [n] else []) := by
  unfold thT
  rw [List.range_succ, List.filter_append]
  congr 1
  by_cases h : W 1 n = c <;> simp [h]
theorem thr_mem {W : cW} {c t : Nat} : t ∈ thr W c ↔ t < W 0 4 ∧ W 1 t = c := by
  unfold thr
  rw [List.mem_filter, List.mem_range]
  simp
theorem thT_lt {W : cW} {c n t : Nat} (h : t ∈ thT W c n) : t < n ∧ W 1 t = c := by
  unfold thT at h
  rw [List.mem_filter, List.mem_range] at h
  simpa using h
theorem thT_nodup (W : cW) (c n : Nat) : (thT W c n).Nodup := List.Pairwise.filter _ List.nodup_range
theorem thr_nodup (W : cW) (c : Nat) : (thr W c).Nodup := thT_nodup W c _
/-- sums over those that are not torn -/
def ws (s g : Nat → Nat) : List Nat → Nat
  | [] => 0
  | t :: l => (if 0 < s t then g t else 0) + ws s g l
def nW (s : Nat → Nat) (l : List Nat) : Nat := ws s (fun _ => 1) l
theorem ws_app (s g : Nat → Nat) : ∀ l l', ws s g (l ++ l') = ws s g l + ws s g l'
  | [], l' => by simp [ws]
  | t :: l, l' => by
    show (if 0 < s t then g t else 0) + ws s g (l ++ l') = (if 0 < s t then g t else 0) + ws s g l + ws s g l'
    rw [ws_app s g l l']; omega
theorem ws_cong {s g h : Nat → Nat} : ∀ l : List Nat, (∀ t ∈ l, 0 < s t → g t = h t) → ws s g l = ws s h l
  | [], _ => rfl
  | t :: l, q => by
    show (if 0 < s t then g t else 0) + ws s g l = (if 0 < s t then h t else 0) + ws s h l
    rw [ws_cong l (fun t ht => q t (List.mem_cons_of_mem _ ht))]
    by_cases e : 0 < s t
    · rw [if_pos e, if_pos e, q t List.mem_cons_self e]
    · rw [if_neg e, if_neg e]
theorem ws_le {s g : Nat → Nat} : ∀ {l : List Nat} {t : Nat}, t ∈ l → 0 < s t → g t ≤ ws s g l
  | a :: l, t, h, hs => by
    show g t ≤ (if 0 < s a then g a else 0) + ws s g l
    rcases List.mem_cons.mp h with e | e
    · subst e; rw [if_pos hs]; omega
    · have := ws_le (g := g) e hs; omega
theorem ws_up {s g : Nat → Nat} {b v : Nat} : ∀ {l : List Nat}, l.Nodup → b ∈ l → 0 < s b → ws s (up g b v) l + g b = ws s g l + v
  | a :: l, hn, h, hs => by
    show (if 0 < s a then up g b v a else 0) + ws s (up g b v) l + g b = (if 0 < s a then g a else 0) + ws s g l + v
    have hn' := List.nodup_cons.mp hn
    rcases List.mem_cons.mp h with e | e
    · subst e
      rw [if_pos hs, if_pos hs, up_self, ws_cong (g := up g b v) (h := g) l (fun t ht _ => up_ne g (fun (q : t = b) => hn'.1 (q ▸ ht)))]
      omega
    · have ih := ws_up (v := v) (g := g) hn'.2 e hs
      have : a ≠ b := fun q => hn'.1 (q ▸ e)
      rw [up_ne g this]
      omega
theorem ws_zero {s g : Nat → Nat} : ∀ {l : List Nat}, (∀ t ∈ l, g t = 0) → ws s g l = 0
  | [], _ => rfl
  | t :: l, h => by
    show (if 0 < s t then g t else 0) + ws s g l = 0
    rw [ws_zero (fun t ht => h t (List.mem_cons_of_mem _ ht)), h t List.mem_cons_self]
    simp
theorem nW_app (s : Nat → Nat) (l l' : List Nat) : nW s (l ++ l') = nW s l + nW s l' := ws_app s _ l l'
theorem nW_pos {s : Nat → Nat} : ∀ {l : List Nat}, nW s l ≠ 0 → ∃ t ∈ l, 0 < s t
  | [], h => absurd rfl h
  | a :: l, h => by
    by_cases e : 0 < s a
    · exact ⟨a, List.mem_cons_self, e⟩
    · have h2 : nW s l ≠ 0 := by
        intro q
        apply h
        show (if 0 < s a then 1 else 0) + nW s l = 0
        rw [if_neg e, q]
      obtain ⟨t, ht, hs⟩ := nW_pos h2
      exact ⟨t, List.mem_cons_of_mem _ ht, hs⟩
theorem nW_of {s : Nat → Nat} {l : List Nat} {t : Nat} (h : t ∈ l) (hs : 0 < s t) : nW s l ≠ 0 := by
  have := ws_le (g := fun _ => 1) h hs
  unfold nW
  omega
/-- the strongest, but one -/
def stp (s : Nat → Nat) (b : Option Nat) (t : Nat) : Option Nat := if 0 < s t then (match b with
  | none => some t
  | some b => if s b < s t then some t else some b) else b
def stb (s : Nat → Nat) (but : Nat) (b : Option Nat) (t : Nat) : Option Nat := if t = but then b else stp s b t
def mx (s : Nat → Nat) (but : Nat) (l : List Nat) : Option Nat := l.foldl (stb s but) none
theorem mx_app (s : Nat → Nat) (but : Nat) (l : List Nat) (t : Nat) : mx s but (l ++ [t]) = stb s but (mx s but l) t := by
  simp [mx, List.foldl_append]
theorem mx_ni (s : Nat → Nat) {but : Nat} : ∀ (l : List Nat) (b : Option Nat), but ∉ l → l.foldl (stb s but) b = l.foldl (stp s) b
  | [], _, _ => rfl
  | t :: l, b, h => by
    show l.foldl (stb s but) (stb s but b t) = l.foldl (stp s) (stp s b t)
    have e : stb s but b t = stp s b t := if_neg (fun (q : t = but) => h (q ▸ List.mem_cons_self))
    rw [e]
    exact mx_ni s l _ (fun q => h (List.mem_cons_of_mem _ q))
theorem mx_nn (s : Nat → Nat) {b1 b2 : Nat} {l : List Nat} (h1 : b1 ∉ l) (h2 : b2 ∉ l) : mx s b1 l = mx s b2 l := by
  unfold mx
  rw [mx_ni s l none h1, mx_ni s l none h2]
theorem mx_P (s : Nat → Nat) (but : Nat) (P : Nat → Prop) : ∀ (l : List Nat) (a : Option Nat), (∀ b, a = some b → P b) → (∀ t ∈ l, 0 < s t → t ≠ but → P t) → ∀ b, l.foldl (stb s but) a = some b → P b
  | [], a, h, _, b, e => h b e
  | t :: l, a, h, h2, b, e => by
    refine mx_P s but P l (stb s but a t) ?_ (fun t ht => h2 t (List.mem_cons_of_mem _ ht)) b e
    intro b' e'
    unfold stb at e'
    split at e'
    · exact h b' e'
    · rename_i hb
      unfold stp at e'
      split at e'
      · rename_i hs
        split at e'
        · cases e'; exact h2 t List.mem_cons_self hs hb
        · split at e'
          · cases e'; exact h2 t List.mem_cons_self hs hb
          · exact h b' e'
      · exact h b' e'
theorem mx_mem {s : Nat → Nat} {but b : Nat} {l : List Nat} (h : mx s but l = some b) : b ∈ l ∧ 0 < s b ∧ b ≠ but :=
  mx_P s but (fun b => b ∈ l ∧ 0 < s b ∧ b ≠ but) l none (fun _ q => by cases q) (fun t ht hs hb => ⟨ht, hs, hb⟩) b h
theorem mx_some (s : Nat → Nat) (but : Nat) : ∀ (l : List Nat) (a : Option Nat), (a ≠ none ∨ ∃ t ∈ l, 0 < s t ∧ t ≠ but) → l.foldl (stb s but) a ≠ none
  | [], a, h => by
    rcases h with h | ⟨t, ht, _⟩
    · exact h
    · cases ht
  | t :: l, a, h => by
    refine mx_some s but l (stb s but a t) ?_
    have key : a ≠ none → stb s but a t ≠ none := by
      intro ha
      unfold stb stp
      split
      · exact ha
      · split
        · split
          · simp
          · split <;> simp
        · exact ha
    rcases h with h | ⟨u, hu, hs, hb⟩
    · exact .inl (key h)
    · rcases List.mem_cons.mp hu with e | e
      · subst e
        refine .inl ?_
        unfold stb stp
        rw [if_neg hb, if_pos hs]
        split
        · simp
        · split <;> simp
      · exact .inr ⟨u, e, hs, hb⟩
theorem mx_ex {s : Nat → Nat} {l : List Nat} (h : nW s l ≠ 0) (hl : ∀ t ∈ l, t ≠ 99) : ∃ b, mx s 99 l = some b := by
  obtain ⟨t, ht, hs⟩ := nW_pos h
  have := mx_some s 99 l none (.inr ⟨t, ht, hs, hl t ht⟩)
  cases e : mx s 99 l with
  | none => exact absurd e this
  | some b => exact ⟨b, rfl⟩
/-- the class's survey: strongest and second at once -/
def m2 (s : Nat → Nat) (l : List Nat) : Option Nat := match mx s 99 l with
  | none => none
  | some b => mx s b l
def sv (s : Nat → Nat) (p : Option Nat × Option Nat) (t : Nat) : Option Nat × Option Nat := if 0 < s t then (match p.1 with
  | none => (some t, none)
  | some b => if s b < s t then (some t, some b) else (some b, stp s p.2 t)) else p
theorem m2_step {s : Nat → Nat} {l : List Nat} {t : Nat} (ht : t ∉ l) (h9 : t ≠ 99) (hl : ∀ t ∈ l, t ≠ 99) : sv s (mx s 99 l, m2 s l) t = (mx s 99 (l ++ [t]), m2 s (l ++ [t])) := by
  have h99 : (99 : Nat) ∉ l := fun q => hl 99 q rfl
  have e1 : mx s 99 (l ++ [t]) = stp s (mx s 99 l) t := by rw [mx_app]; exact if_neg h9
  unfold m2
  rw [e1]
  unfold sv stp
  by_cases hs : 0 < s t
  · simp only [if_pos hs]
    cases hb : mx s 99 l with
    | none =>
      simp only
      rw [mx_app, stb, if_pos rfl, mx_nn s ht h99, hb]
    | some b =>
      simp only
      have hbm := mx_mem hb
      by_cases h2 : s b < s t
      · simp only [if_pos h2]
        rw [mx_app, stb, if_pos rfl, mx_nn s ht h99, hb]
      · simp only [if_neg h2]
        rw [mx_app, stb.eq_def, if_neg (fun (q : t = b) => ht (q ▸ hbm.1)), stp.eq_def, if_pos hs]
  · simp only [if_neg hs]
    cases hb : mx s 99 l with
    | none => rfl
    | some b =>
      simp only
      have hbm := mx_mem hb
      rw [mx_app, stb.eq_def, if_neg (fun (q : t = b) => ht (q ▸ hbm.1)), stp.eq_def, if_neg hs]
/-! shares by the laws -/
def st0 (s : Nat → Nat) (L m : Nat) (p : (Nat → Nat) × Nat) (t : Nat) : (Nat → Nat) × Nat := if 0 < s t then (up p.1 t (L / m + (if p.2 < L % m then 1 else 0)), p.2 + 1) else p
def st2 (s : Nat → Nat) (L tt : Nat) (p : (Nat → Nat) × Nat) (t : Nat) : (Nat → Nat) × Nat := if 0 < s t then (up p.1 t (s t * L / tt), p.2 - s t * L / tt) else p
theorem fo_ne {s : Nat → Nat} (st : (Nat → Nat) × Nat → Nat → (Nat → Nat) × Nat) (h : ∀ p t t', (t' ≠ t ∨ ¬ 0 < s t') → (st p t).1 t' = p.1 t') : ∀ (l : List Nat) (p : (Nat → Nat) × Nat) (t' : Nat), (t' ∉ l ∨ ¬ 0 < s t') → (l.foldl st p).1 t' = p.1 t'
  | [], _, _, _ => rfl
  | t :: l, p, t', q => by
    show (l.foldl st (st p t)).1 t' = p.1 t'
    rw [fo_ne st h l (st p t) t' (q.imp (fun q1 q2 => q1 (List.mem_cons_of_mem _ q2)) id)]
    exact h p t t' (q.imp (fun q1 q2 => q1 (q2 ▸ List.mem_cons_self)) id)
theorem st0_ne (s : Nat → Nat) (L m : Nat) (p : (Nat → Nat) × Nat) (t t' : Nat) (h : t' ≠ t ∨ ¬ 0 < s t') : (st0 s L m p t).1 t' = p.1 t' := by
  unfold st0
  split
  · rename_i hs
    refine up_ne _ (fun q => ?_)
    subst q
    rcases h with h | h
    · exact h rfl
    · exact h hs
  · rfl
theorem st2_ne (s : Nat → Nat) (L m : Nat) (p : (Nat → Nat) × Nat) (t t' : Nat) (h : t' ≠ t ∨ ¬ 0 < s t') : (st2 s L m p t).1 t' = p.1 t' := by
  unfold st2
  split
  · rename_i hs
    refine up_ne _ (fun q => ?_)
    subst q
    rcases h with h | h
    · exact h rfl
    · exact h hs
  · rfl
theorem st0_ws (s : Nat → Nat) (L m : Nat) : ∀ (l : List Nat) (p : (Nat → Nat) × Nat), l.Nodup → ws s (l.foldl (st0 s L m) p).1 l + min p.2 (L % m) = nW s l * (L / m) + min (p.2 + nW s l) (L % m)
  | [], p, _ => by simp [ws, nW]
  | t :: l, p, hn => by
    have hn' := List.nodup_cons.mp hn
    have ih := st0_ws s L m l (st0 s L m p t) hn'.2
    have e1 : (l.foldl (st0 s L m) (st0 s L m p t)).1 t = (st0 s L m p t).1 t := fo_ne _ (st0_ne s L m) l _ t (.inl hn'.1)
    show (if 0 < s t then (l.foldl (st0 s L m) (st0 s L m p t)).1 t else 0) + ws s (l.foldl (st0 s L m) (st0 s L m p t)).1 l + min p.2 (L % m) = ((if 0 < s t then 1 else 0) + nW s l) * (L / m) + min (p.2 + ((if 0 < s t then 1 else 0) + nW s l)) (L % m)
    rw [e1]
    by_cases hs : 0 < s t
    · have e2 : st0 s L m p t = (up p.1 t (L / m + (if p.2 < L % m then 1 else 0)), p.2 + 1) := if_pos hs
      rw [e2] at ih ⊢
      simp only [if_pos hs, up_self] at ih ⊢
      rw [Nat.add_mul, Nat.one_mul]
      generalize ws s (l.foldl (st0 s L m) (up p.1 t (L / m + (if p.2 < L % m then 1 else 0)), p.2 + 1)).1 l = A at ih ⊢
      generalize nW s l * (L / m) = B at ih ⊢
      generalize L / m = C at ih ⊢
      generalize L % m = r at ih ⊢
      simp only [Nat.min_def] at ih ⊢
      by_cases h1 : p.2 < r
      · rw [if_pos h1]
        split at ih <;> split at ih <;> split <;> split <;> omega
      · rw [if_neg h1]
        split at ih <;> split at ih <;> split <;> split <;> omega
    · have e2 : st0 s L m p t = p := if_neg hs
      rw [e2] at ih ⊢
      simp only [if_neg hs, Nat.zero_add]
      exact ih
theorem st2_ws (s : Nat → Nat) (L tt : Nat) : ∀ (l : List Nat) (p : (Nat → Nat) × Nat), l.Nodup → ws s (l.foldl (st2 s L tt) p).1 l = ws s (fun t => s t * L / tt) l ∧ (l.foldl (st2 s L tt) p).2 = p.2 - ws s (fun t => s t * L / tt) l
  | [], p, _ => by simp [ws]
  | t :: l, p, hn => by
    have hn' := List.nodup_cons.mp hn
    have ih := st2_ws s L tt l (st2 s L tt p t) hn'.2
    have e1 : (l.foldl (st2 s L tt) (st2 s L tt p t)).1 t = (st2 s L tt p t).1 t := fo_ne _ (st2_ne s L tt) l _ t (.inl hn'.1)
    show (if 0 < s t then (l.foldl (st2 s L tt) (st2 s L tt p t)).1 t else 0) + ws s (l.foldl (st2 s L tt) (st2 s L tt p t)).1 l = (if 0 < s t then s t * L / tt else 0) + ws s (fun t => s t * L / tt) l ∧ (l.foldl (st2 s L tt) (st2 s L tt p t)).2 = p.2 - ((if 0 < s t then s t * L / tt else 0) + ws s (fun t => s t * L / tt) l)
    rw [e1, ih.1, ih.2]
    by_cases hs : 0 < s t
    · have e2 : st2 s L tt p t = (up p.1 t (s t * L / tt), p.2 - s t * L / tt) := if_pos hs
      rw [e2]
      simp only [if_pos hs, up_self]
      exact ⟨trivial, by omega⟩
    · have e2 : st2 s L tt p t = p := if_neg hs
      rw [e2]
      simp only [if_neg hs, Nat.zero_add]
      exact ⟨trivial, trivial⟩
theorem ws_div (s : Nat → Nat) (L tt : Nat) : ∀ l : List Nat, ws s (fun t => s t * L / tt) l * tt ≤ ws s s l * L
  | [] => by simp [ws]
  | t :: l => by
    have ih := ws_div s L tt l
    show ((if 0 < s t then s t * L / tt else 0) + ws s (fun t => s t * L / tt) l) * tt ≤ ((if 0 < s t then s t else 0) + ws s s l) * L
    rw [Nat.add_mul, Nat.add_mul]
    by_cases hs : 0 < s t
    · rw [if_pos hs, if_pos hs]
      have := Nat.div_mul_le_self (s t * L) tt
      omega
    · rw [if_neg hs, if_neg hs]
      omega
def shr (law : Nat) (s : Nat → Nat) (l : List Nat) (L : Nat) (sh : Nat → Nat) : Nat → Nat :=
  if law = 0 then (l.foldl (st0 s L (nW s l)) (sh, 0)).1
  else if law = 1 then up sh ((mx s 99 l).getD 0) L
  else if law = 2 then up (l.foldl (st2 s L (ws s s l)) (sh, L)).1 ((mx s 99 l).getD 0) ((l.foldl (st2 s L (ws s s l)) (sh, L)).1 ((mx s 99 l).getD 0) + (l.foldl (st2 s L (ws s s l)) (sh, L)).2)
  else match m2 s l with
    | none => up sh ((mx s 99 l).getD 0) L
    | some d => up (up sh ((mx s 99 l).getD 0) (L - L / 2)) d (L / 2)
theorem m2_mem {s : Nat → Nat} {l : List Nat} {b d : Nat} (hb : mx s 99 l = some b) (h : m2 s l = some d) : d ∈ l ∧ 0 < s d ∧ d ≠ b := by
  unfold m2 at h
  rw [hb] at h
  exact mx_mem h
theorem shr_ne {law : Nat} {s : Nat → Nat} {l : List Nat} {L : Nat} {sh : Nat → Nat} {t : Nat} (hw : nW s l ≠ 0) (h9 : ∀ t ∈ l, t ≠ 99) (h : t ∉ l ∨ ¬ 0 < s t) : shr law s l L sh t = sh t := by
  obtain ⟨b, hb⟩ := mx_ex hw h9
  have hbm := mx_mem hb
  have hne : ∀ d, d ∈ l → 0 < s d → t ≠ d := by
    intro d h1 h2 q
    subst q
    rcases h with h | h
    · exact h h1
    · exact h h2
  unfold shr
  rw [hb, Option.getD_some]
  split
  · exact fo_ne _ (st0_ne s L _) l _ t h
  · split
    · exact up_ne _ (hne b hbm.1 hbm.2.1)
    · split
      · rw [up_ne _ (hne b hbm.1 hbm.2.1)]
        exact fo_ne _ (st2_ne s L _) l _ t h
      · cases hd : m2 s l with
        | none => exact up_ne _ (hne b hbm.1 hbm.2.1)
        | some d =>
          have hdm := m2_mem hb hd
          show up (up sh b (L - L / 2)) d (L / 2) t = sh t
          rw [up_ne _ (hne d hdm.1 hdm.2.1), up_ne _ (hne b hbm.1 hbm.2.1)]
theorem shr_ws {law : Nat} {s : Nat → Nat} {l : List Nat} {L : Nat} {sh : Nat → Nat} (hw : nW s l ≠ 0) (h9 : ∀ t ∈ l, t ≠ 99) (hn : l.Nodup) (h0 : ∀ t ∈ l, sh t = 0) : ws s (shr law s l L sh) l = L := by
  obtain ⟨b, hb⟩ := mx_ex hw h9
  have hbm := mx_mem hb
  have z0 : ws s sh l = 0 := ws_zero h0
  unfold shr
  rw [hb, Option.getD_some]
  split
  · have h1 := st0_ws s L (nW s l) l (sh, 0) hn
    have h2 := Nat.div_add_mod L (nW s l)
    have h3 := Nat.mod_lt L (Nat.pos_of_ne_zero hw)
    simp only [Nat.zero_add, Nat.zero_min] at h1
    rw [Nat.min_eq_right (Nat.le_of_lt h3)] at h1
    omega
  · split
    · have := ws_up (g := sh) (v := L) hn hbm.1 hbm.2.1
      have := h0 b hbm.1
      omega
    · split
      · obtain ⟨h1, h2⟩ := st2_ws s L (ws s s l) l (sh, L) hn
        have h3 := ws_up (g := (l.foldl (st2 s L (ws s s l)) (sh, L)).1) (v := (l.foldl (st2 s L (ws s s l)) (sh, L)).1 b + (l.foldl (st2 s L (ws s s l)) (sh, L)).2) hn hbm.1 hbm.2.1
        have h4 := ws_div s L (ws s s l) l
        have h5 : 0 < ws s s l := Nat.lt_of_lt_of_le hbm.2.1 (ws_le hbm.1 hbm.2.1)
        have h6 : ws s (fun t => s t * L / ws s s l) l ≤ L := by
          rw [Nat.mul_comm (ws s s l) L] at h4
          exact Nat.le_of_mul_le_mul_right h4 h5
        rw [h1, h2] at h3
        rw [h2]
        simp only at h3 ⊢
        omega
      · split
        · have := ws_up (g := sh) (v := L) hn hbm.1 hbm.2.1
          have := h0 b hbm.1
          omega
        · rename_i d hd
          have hdm := m2_mem hb hd
          have h1 := ws_up (g := sh) (v := L - L / 2) hn hbm.1 hbm.2.1
          have h2 := ws_up (g := up sh b (L - L / 2)) (v := L / 2) hn hdm.1 hdm.2.1
          rw [up_ne sh hdm.2.2] at h2
          have := h0 b hbm.1
          have := h0 d hdm.1
          omega
/-! the shares go on -/
def ps (W : cW) (s g : Nat → Nat) (p : (Nat → Nat) × Nat) (t : Nat) : (Nat → Nat) × Nat := if 0 < s t then (if W 2 t = 8 then (p.1, p.2 + g t) else (up p.1 (W 2 t) (p.1 (W 2 t) + g t), p.2)) else p
theorem ps_sum (W : cW) (s g : Nat → Nat) (c : Nat) : ∀ (l : List Nat) (p : (Nat → Nat) × Nat), (∀ t ∈ l, W 2 t = 8 ∨ W 2 t < c) → sm (l.foldl (ps W s g) p).1 c + (l.foldl (ps W s g) p).2 = sm p.1 c + p.2 + ws s g l
  | [], p, _ => by simp [ws]
  | t :: l, p, h => by
    show sm (l.foldl (ps W s g) (ps W s g p t)).1 c + (l.foldl (ps W s g) (ps W s g p t)).2 = sm p.1 c + p.2 + ((if 0 < s t then g t else 0) + ws s g l)
    rw [ps_sum W s g c l (ps W s g p t) (fun t ht => h t (List.mem_cons_of_mem _ ht))]
    unfold ps
    by_cases hs : 0 < s t
    · rw [if_pos hs, if_pos hs]
      by_cases h8 : W 2 t = 8
      · rw [if_pos h8]; simp only; omega
      · rw [if_neg h8]
        have hc : W 2 t < c := (h t List.mem_cons_self).resolve_left h8
        have := sm_up p.1 (W 2 t) (p.1 (W 2 t) + g t) c hc
        simp only
        omega
    · rw [if_neg hs, if_neg hs]; omega
theorem ps_ge (W : cW) (s g : Nat → Nat) {c k : Nat} (hk : c ≤ k) : ∀ (l : List Nat) (p : (Nat → Nat) × Nat), (∀ t ∈ l, W 2 t = 8 ∨ W 2 t < c) → (l.foldl (ps W s g) p).1 k = p.1 k
  | [], _, _ => rfl
  | t :: l, p, h => by
    show (l.foldl (ps W s g) (ps W s g p t)).1 k = p.1 k
    rw [ps_ge W s g hk l (ps W s g p t) (fun t ht => h t (List.mem_cons_of_mem _ ht))]
    unfold ps
    split
    · split
      · rfl
      · rename_i h8
        have hc : W 2 t < c := (h t List.mem_cons_self).resolve_left h8
        exact up_ne _ (by omega)
    · rfl
/-- a pull: shares, loads, lost, into the hem -/
abbrev cX : Type := (Nat → Nat) × (Nat → Nat) × Nat × Nat
def dv (W : cW) (law : Nat) (s : Nat → Nat) (c : Nat) (X : cX) : cX :=
  if X.2.1 c = 0 then X
  else if nW s (thr W c) = 0 then (X.1, X.2.1, X.2.2.1 + X.2.1 c, X.2.2.2)
  else (shr law s (thr W c) (X.2.1 c) X.1, ((thr W c).foldl (ps W s (shr law s (thr W c) (X.2.1 c) X.1)) (X.2.1, X.2.2.2)).1, X.2.2.1, ((thr W c).foldl (ps W s (shr law s (thr W c) (X.2.1 c) X.1)) (X.2.1, X.2.2.2)).2)
def pd (W : cW) (law : Nat) (s : Nat → Nat) : Nat → cX → cX
  | 0, X => X
  | c + 1, X => pd W law s c (dv W law s c X)
def cX0 (c n : Nat) : cX := (fun _ => 0, up (fun _ => 0) c n, 0, 0)
def pl (W : cW) (law : Nat) (s : Nat → Nat) (c n : Nat) : cX := pd W law s (c + 1) (cX0 c n)
/-- what the reader lets pass -/
def wf (W : cW) : Prop := W 0 0 ≤ 12 ∧ W 0 1 ≤ 3 ∧ W 0 2 ≤ 10 ∧ W 0 3 ≤ 8 ∧ W 0 4 ≤ 16 ∧ W 0 5 ≤ 10 ∧ W 0 6 ≤ 30 ∧ W 0 7 ≤ 800
  ∧ (∀ t, t < W 0 4 → W 1 t < W 0 3 ∧ (W 2 t = 8 ∨ W 2 t < W 1 t) ∧ 1 ≤ W 3 t ∧ W 3 t ≤ 60)
  ∧ (∀ q, q < W 0 5 → W 4 q < W 0 3 ∧ 1 ≤ W 5 q ∧ W 5 q ≤ 90 ∧ W 6 q ≤ 11)
  ∧ (∀ i, i < W 0 6 → (W 7 i = 0 ∧ W 8 i < W 0 4 ∧ 1 ≤ W 9 i ∧ W 9 i ≤ 60 ∧ W 10 i < 12) ∨ (W 7 i = 1 ∧ W 8 i < W 0 3 ∧ 1 ≤ W 9 i ∧ W 9 i ≤ 90 ∧ W 10 i < 12))
  ∧ (W 0 7 = 0 → W 0 0 = 0 ∧ W 0 3 = 0 ∧ W 0 4 = 0 ∧ W 0 5 = 0 ∧ W 0 6 = 0) ∧ (0 < W 0 7 → 1 ≤ W 0 0)
def ix (W : cW) (s : Nat → Nat) (n c : Nat) (X : cX) : Prop := sm X.2.1 c + X.2.2.1 + X.2.2.2 = n ∧ (∀ t, X.1 t ≤ n) ∧ (∀ t, t < W 0 4 → W 1 t < c → X.1 t = 0) ∧ (∀ t, ¬ 0 < s t → X.1 t = 0)
theorem thr_ne99 {W : cW} (hW : wf W) {c t : Nat} (h : t ∈ thr W c) : t ≠ 99 := by
  have h1 := (thr_mem.mp h).1
  have h2 : W 0 4 ≤ 16 := hW.2.2.2.2.1
  omega
theorem thr_to {W : cW} (hW : wf W) {c t : Nat} (h : t ∈ thr W c) : W 2 t = 8 ∨ W 2 t < c := by
  have h1 := thr_mem.mp h
  have h2 := (hW.2.2.2.2.2.2.2.2.1 t h1.1).2.1
  omega
theorem dv_ix {W : cW} (hW : wf W) {law : Nat} {s : Nat → Nat} {n c : Nat} {X : cX} (h : ix W s n (c + 1) X) : ix W s n c (dv W law s c X) := by
  obtain ⟨h1, h2, h3, h4⟩ := h
  have h1' : sm X.2.1 c + X.2.1 c + X.2.2.1 + X.2.2.2 = n := h1
  unfold dv
  split
  · rename_i h0
    exact ⟨by omega, h2, fun t ht hc => h3 t ht (by omega), h4⟩
  · split
    · exact ⟨by show sm X.2.1 c + (X.2.2.1 + X.2.1 c) + X.2.2.2 = n; omega, h2, fun t ht hc => h3 t ht (by omega), h4⟩
    · rename_i hw
      have h9 : ∀ t ∈ thr W c, t ≠ 99 := fun t ht => thr_ne99 hW ht
      have hz : ∀ t ∈ thr W c, X.1 t = 0 := fun t ht => h3 t (thr_mem.mp ht).1 (by have := (thr_mem.mp ht).2; omega)
      have hs := shr_ws (law := law) (L := X.2.1 c) hw h9 (thr_nodup W c) hz
      have hp := ps_sum W s (shr law s (thr W c) (X.2.1 c) X.1) c (thr W c) (X.2.1, X.2.2.2) (fun t ht => thr_to hW ht)
      refine ⟨?_, fun t => ?_, fun t ht hc => ?_, fun t ht => ?_⟩
      · rw [hs] at hp
        simp only at hp ⊢
        omega
      · show shr law s (thr W c) (X.2.1 c) X.1 t ≤ n
        by_cases hm : t ∈ thr W c ∧ 0 < s t
        · have := ws_le (g := shr law s (thr W c) (X.2.1 c) X.1) hm.1 hm.2
          omega
        · rw [shr_ne hw h9 (by by_cases q : t ∈ thr W c; exact .inr (fun q2 => hm ⟨q, q2⟩); exact .inl q)]
          exact h2 t
      · show shr law s (thr W c) (X.2.1 c) X.1 t = 0
        rw [shr_ne hw h9 (.inl (fun q => by have := (thr_mem.mp q).2; omega))]
        exact h3 t ht (by omega)
      · show shr law s (thr W c) (X.2.1 c) X.1 t = 0
        rw [shr_ne hw h9 (.inr ht)]
        exact h4 t ht
theorem pd_ix {W : cW} (hW : wf W) {law : Nat} {s : Nat → Nat} {n : Nat} : ∀ {c : Nat} {X : cX}, ix W s n c X → ix W s n 0 (pd W law s c X)
  | 0, _, h => h
  | c + 1, X, h => pd_ix (c := c) (X := dv W law s c X) hW (dv_ix hW h)
theorem cX0_ix (W : cW) (s : Nat → Nat) {c n k : Nat} (h : c < k) : ix W s n k (cX0 c n) := by
  refine ⟨?_, fun t => Nat.zero_le _, fun t _ _ => rfl, fun t _ => rfl⟩
  show sm (up (fun _ => 0) c n) k + 0 + 0 = n
  have := sm_up (fun _ => 0) c n k h
  rw [sm_zero] at this
  omega
/-- claims above the one that is pulled have no load -/
theorem pd_hi (W : cW) (law : Nat) (s : Nat → Nat) {c n : Nat} : ∀ k, c < k → pd W law s k (cX0 c n) = pl W law s c n
  | 0, h => by omega
  | k + 1, h => by
    by_cases e : c = k
    · subst e; rfl
    · show pd W law s k (dv W law s k (cX0 c n)) = _
      have hk0 : (cX0 c n).2.1 k = 0 := by
        show up (fun _ => 0) c n k = 0
        exact up_ne _ (Ne.symm e)
      have : dv W law s k (cX0 c n) = cX0 c n := if_pos hk0
      rw [this]
      exact pd_hi W law s k (by omega)
theorem pl_ix {W : cW} (hW : wf W) (law : Nat) (s : Nat → Nat) (c n : Nat) : ix W s n 0 (pl W law s c n) := pd_ix hW (cX0_ix W s (Nat.lt_succ_self c))
/-! a quarrel: pulls until none is torn -/
def tr (N : Nat) (s g : Nat → Nat) : Nat → Nat := fun t => if t < N ∧ s t < g t then 0 else s t
def tb (s g : Nat → Nat) : Nat → Bool := fun t => decide (s t < g t)
abbrev cQ : Type := (Nat → Nat) × cX × Nat × Nat
def qr (W : cW) (law c n : Nat) : Nat → (Nat → Nat) → Nat → Nat → cQ
  | 0, s, k, r => (s, cX0 c n, k, r)
  | f + 1, s, k, r =>
    if bN (tb s (pl W law s c n).1) (W 0 4) = 0 then (s, pl W law s c n, k + 1, r)
    else qr W law c n f (tr (W 0 4) s (pl W law s c n).1) (k + 1) (r ||| bN (tb s (pl W law s c n).1) (W 0 4))
def wr (N : Nat) (s g : Nat → Nat) : Nat → Nat := fun t => if t < N then s t - g t / 5 else s t
/-- strengths behind it, the last pull, how often, what was torn -/
def qd (W : cW) (law c n : Nat) (s : Nat → Nat) : cQ := (wr (W 0 4) (qr W law c n 17 s 0 0).1 (qr W law c n 17 s 0 0).2.1.1, (qr W law c n 17 s 0 0).2)
theorem nW_le (s : Nat → Nat) : ∀ l : List Nat, nW s l ≤ l.length
  | [] => Nat.le_refl _
  | t :: l => by
    show (if 0 < s t then 1 else 0) + nW s l ≤ l.length + 1
    have := nW_le s l
    split <;> omega
theorem nW_mono {s s' : Nat → Nat} : ∀ l : List Nat, (∀ t ∈ l, 0 < s' t → 0 < s t) → nW s' l ≤ nW s l
  | [], _ => Nat.le_refl _
  | t :: l, h => by
    show (if 0 < s' t then 1 else 0) + nW s' l ≤ (if 0 < s t then 1 else 0) + nW s l
    have ih := nW_mono l (fun t ht => h t (List.mem_cons_of_mem _ ht))
    by_cases e : 0 < s' t
    · rw [if_pos e, if_pos (h t List.mem_cons_self e)]; omega
    · rw [if_neg e]; omega
theorem nW_lt {s s' : Nat → Nat} : ∀ {l : List Nat} {u : Nat}, (∀ t ∈ l, 0 < s' t → 0 < s t) → u ∈ l → 0 < s u → ¬ 0 < s' u → nW s' l < nW s l
  | t :: l, u, h, hu, h1, h2 => by
    show (if 0 < s' t then 1 else 0) + nW s' l < (if 0 < s t then 1 else 0) + nW s l
    rcases List.mem_cons.mp hu with e | e
    · subst e
      have := nW_mono l (fun t ht => h t (List.mem_cons_of_mem _ ht))
      rw [if_neg h2, if_pos h1]; omega
    · have ih := nW_lt (fun t ht => h t (List.mem_cons_of_mem _ ht)) e h1 h2
      by_cases e : 0 < s' t
      · rw [if_pos e, if_pos (h t List.mem_cons_self e)]; omega
      · rw [if_neg e]; omega
theorem tr_lt {W : cW} (hW : wf W) {law c n : Nat} {s : Nat → Nat} (h : ¬ bN (tb s (pl W law s c n).1) (W 0 4) = 0) : nW (tr (W 0 4) s (pl W law s c n).1) (List.range (W 0 4)) < nW s (List.range (W 0 4)) := by
  rw [bN_zero] at h
  have h' : ∃ t, t < W 0 4 ∧ s t < (pl W law s c n).1 t := by
    apply Classical.byContradiction
    intro q
    exact h (fun k hk e => q ⟨k, hk, by simpa [tb] using e⟩)
  obtain ⟨u, hu, hl⟩ := h'
  refine nW_lt (u := u) (fun t ht q => ?_) (List.mem_range.mpr hu) ?_ ?_
  · unfold tr at q
    split at q
    · omega
    · exact q
  · apply Classical.byContradiction
    intro q
    have := (pl_ix hW law s c n).2.2.2 u q
    omega
  · unfold tr
    rw [if_pos ⟨hu, hl⟩]
    omega
/-- behind a quarrel nothing is pulled by more than it holds; strengths only fall -/
theorem qr_end {W : cW} (hW : wf W) {law c n : Nat} : ∀ (f : Nat) (s : Nat → Nat) (k r : Nat), nW s (List.range (W 0 4)) < f → (∀ t, t < W 0 4 → (qr W law c n f s k r).2.1.1 t ≤ (qr W law c n f s k r).1 t) ∧ (∀ t, (qr W law c n f s k r).1 t ≤ s t) ∧ (∃ s', (qr W law c n f s k r).2.1 = pl W law s' c n) ∧ k < (qr W law c n f s k r).2.2.1 ∧ (qr W law c n f s k r).2.2.1 ≤ k + f
  | 0, s, k, r, h => by omega
  | f + 1, s, k, r, h => by
    unfold qr
    split
    · rename_i hb
      rw [bN_zero] at hb
      refine ⟨fun t ht => ?_, fun t => Nat.le_refl _, ⟨s, rfl⟩, by simp only; omega, by simp only; omega⟩
      have := hb t ht
      simp [tb] at this
      exact this
    · rename_i hb
      have := tr_lt hW hb
      obtain ⟨a1, a2, a3, a4, a5⟩ := qr_end hW (law := law) (c := c) (n := n) f (tr (W 0 4) s (pl W law s c n).1) (k + 1) (r ||| bN (tb s (pl W law s c n).1) (W 0 4)) (by omega)
      refine ⟨a1, fun t => Nat.le_trans (a2 t) ?_, a3, by omega, by omega⟩
      unfold tr
      split <;> omega
