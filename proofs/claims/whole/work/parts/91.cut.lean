/-! ===== the cut: pure part ===== -/
def jS (W : cW) (T t : Nat) : Nat := if bt T t = 1 then W 2 t else W 1 t
def jG (W : cW) (T t : Nat) : Nat := if bt T t = 1 then W 1 t else W 2 t
/-- one thread looked at: b, whether nothing leads on from the hem -/
def jst (W : cW) (s : Nat → Nat) (T : Nat) (b : Bool) (w : Nat → Nat) (t : Nat) : Nat → Nat := if 0 < s t ∧ w (jS W T t) ≠ 17 ∧ w (jG W T t) = 17 ∧ (b = true → jS W T t ≠ 8) then up w (jG W T t) t else w
def jpa (W : cW) (s : Nat → Nat) (T : Nat) (b : Bool) (w : Nat → Nat) : Nat → Nat := fo (jst W s T b) w (W 0 4)
def jit (W : cW) (s : Nat → Nat) (T : Nat) (b : Bool) (w : Nat → Nat) : Nat → Nat → Nat
  | 0 => w
  | k + 1 => jpa W s T b (jit W s T b w k)
def jw0 (c : Nat) : Nat → Nat := fun j => if j = c then 16 else 17
/-- w' has all that w has -/
def jE (w w' : Nat → Nat) : Prop := ∀ j, w j ≠ 17 → w' j = w j
theorem jE.id0 (w : Nat → Nat) : jE w w := fun _ _ => rfl
theorem jE.trans {a b c : Nat → Nat} (h : jE a b) (h' : jE b c) : jE a c := fun j hj => by
  have e := h j hj
  rw [h' j (by rw [e]; exact hj), e]
theorem jst_E (W : cW) (s : Nat → Nat) (T : Nat) (b : Bool) (w : Nat → Nat) (t : Nat) : jE w (jst W s T b w t) := by
  intro j hj
  unfold jst
  split
  · rename_i h
    have : j ≠ jG W T t := fun e => hj (by rw [e]; exact h.2.2.1)
    rw [up_ne _ this]
  · rfl
theorem jfo_E (W : cW) (s : Nat → Nat) (T : Nat) (b : Bool) (w : Nat → Nat) (m : Nat) : ∀ n, jE (fo (jst W s T b) w m) (fo (jst W s T b) w (m + n))
  | 0 => jE.id0 _
  | n + 1 => (jfo_E W s T b w m n).trans (jst_E W s T b _ _)
theorem jit_E (W : cW) (s : Nat → Nat) (T : Nat) (b : Bool) (w : Nat → Nat) (m : Nat) : ∀ n, jE (jit W s T b w m) (jit W s T b w (m + n))
  | 0 => jE.id0 _
  | n + 1 => (jit_E W s T b w m n).trans (by
      have := jfo_E W s T b (jit W s T b w (m + n)) 0 (W 0 4)
      rw [Nat.zero_add] at this
      exact this)
/-- as long as the hem is not found both go alike -/
theorem jst_q {W : cW} {s : Nat → Nat} {T : Nat} {w : Nat → Nat} {t : Nat} (h : w 8 = 17) : jst W s T true w t = jst W s T false w t := by
  unfold jst
  by_cases q : jS W T t = 8
  · rw [q]
    simp [h]
  · simp [q]
theorem jE.h17 {w w' : Nat → Nat} (h : jE w w') {j : Nat} (hj : w' j = 17) : w j = 17 := Classical.byContradiction (fun q => q (by rw [← h j q]; exact hj))
theorem jfo_q {W : cW} {s : Nat → Nat} {T : Nat} {w : Nat → Nat} : ∀ n, fo (jst W s T true) w n 8 = 17 → fo (jst W s T true) w n = fo (jst W s T false) w n
  | 0, _ => rfl
  | n + 1, h => by
    have h' : fo (jst W s T true) w n 8 = 17 := (jst_E W s T true _ n).h17 h
    rw [fo_s, fo_s, jst_q h', jfo_q n h']
theorem jit_q {W : cW} {s : Nat → Nat} {T : Nat} {w : Nat → Nat} : ∀ n, jit W s T true w n 8 = 17 → jit W s T true w n = jit W s T false w n
  | 0, _ => rfl
  | n + 1, h => by
    have h' : jit W s T true w n 8 = 17 := (jit_E W s T true w n 1).h17 h
    have e := jit_q n h'
    show jpa W s T true (jit W s T true w n) = jpa W s T false (jit W s T false w n)
    rw [← e]
    exact jfo_q _ h
/-- what was found, in its order -/
def jO (W : cW) (T c : Nat) (w : Nat → Nat) : List Nat → Prop
  | [] => False
  | j :: l => (l = [] ∧ j = c ∧ j < 8 ∧ w j = 16) ∨ (jO W T c w l ∧ j ∉ l ∧ j < 9 ∧ w j < W 0 4 ∧ jG W T (w j) = j ∧ jS W T (w j) ∈ l)
theorem jO.b {W : cW} {T c : Nat} {w : Nat → Nat} : ∀ {l : List Nat}, jO W T c w l → ∀ j, j ∈ l → j < 9 ∧ (w j = 16 ∨ w j < W 0 4)
  | [], h, _, _ => h.elim
  | i :: l, h, j, hj => by
    rcases List.mem_cons.mp hj with e | e
    · rw [e]
      rcases h with ⟨_, h2, h3, h4⟩ | ⟨_, _, h3, h4, _⟩
      · exact ⟨by omega, .inl h4⟩
      · exact ⟨h3, .inr h4⟩
    · rcases h with ⟨h1, _⟩ | ⟨h1, _⟩
      · rw [h1] at e
        cases e
      · exact jO.b h1 j e
theorem jO.ext {W : cW} {T c : Nat} {w w' : Nat → Nat} : ∀ {l : List Nat}, jO W T c w l → (∀ j, j ∈ l → w' j = w j) → jO W T c w' l
  | [], h, _ => h
  | i :: l, h, he => by
    have ei := he i (List.mem_cons_self)
    unfold jO
    rw [ei]
    rcases h with h1 | ⟨h1, h2⟩
    · exact .inl h1
    · exact .inr ⟨jO.ext h1 (fun j hj => he j (List.mem_cons_of_mem _ hj)), h2⟩
def jI (W : cW) (T c : Nat) (w : Nat → Nat) (l : List Nat) : Prop := jO W T c w l ∧ ∀ j, j < 9 → (w j ≠ 17 ↔ j ∈ l)
theorem jnd (l : List Nat) : ∀ {W : cW} {T c : Nat} {w : Nat → Nat}, jO W T c w l → sm (fun j => if j ∈ l then 1 else 0) 9 = l.length := by
  induction l with
  | nil => intro W T c w h; exact h.elim
  | cons i l ih =>
    intro W T c w h
    have hb : i < 9 := (h.b i List.mem_cons_self).1
    have e : (fun j => if j ∈ i :: l then 1 else 0) = up (fun j => if j ∈ l then 1 else 0) i 1 := by
      funext j
      unfold up
      by_cases q : j = i
      · simp [q]
      · simp [q]
    have hi : i ∉ l := by
      rcases h with ⟨h1, _⟩ | ⟨_, h1, _⟩
      · rw [h1]; simp
      · exact h1
    have hs := sm_up (fun j => if j ∈ l then 1 else 0) i 1 9 hb
    rw [← e] at hs
    simp only [if_neg hi] at hs
    rcases h with ⟨h1, _⟩ | ⟨h1, _⟩
    · subst h1
      have : sm (fun j => if j ∈ ([] : List Nat) then 1 else 0) 9 = 0 := by
        rw [show (fun j => if j ∈ ([] : List Nat) then 1 else 0) = fun _ => 0 by funext j; simp, sm_zero]
      rw [this] at hs
      simpa using hs
    · rw [ih h1] at hs
      simpa using hs
theorem jO.len {W : cW} {T c : Nat} {w : Nat → Nat} {l : List Nat} (h : jO W T c w l) : l.length ≤ 9 := by
  rw [← jnd l h]
  have := sm_le2 (f := fun j => if j ∈ l then 1 else 0) (B := 1) (fun k => by show (if k ∈ l then 1 else 0) ≤ 1; split <;> omega) 9
  omega
theorem jI_0 {W : cW} {T c : Nat} (hc : c < 8) : jI W T c (jw0 c) [c] := by
  refine ⟨.inl ⟨rfl, rfl, hc, if_pos rfl⟩, fun j _ => ?_⟩
  unfold jw0
  by_cases q : j = c
  · simp [q]
  · simp [q]
theorem jG9 {W : cW} (hW : wf W) {T t : Nat} (ht : t < W 0 4) : jG W T t < 9 ∧ jS W T t < 9 ∧ jG W T t ≠ jS W T t := by
  have h := hW.2.2.2.2.2.2.2.2.1 t ht
  have h3 : W 0 3 ≤ 8 := hW.2.2.2.1
  unfold jG jS
  split <;> omega
theorem jst_I {W : cW} (hW : wf W) {s : Nat → Nat} {T c : Nat} {b : Bool} {w : Nat → Nat} {t : Nat} {l : List Nat} (ht : t < W 0 4) (h : jI W T c w l) : jst W s T b w t = w ∨ (jst W s T b w t ≠ w ∧ jI W T c (jst W s T b w t) (jG W T t :: l)) := by
  have h9 := jG9 hW (T := T) ht
  have hN : W 0 4 ≤ 16 := hW.2.2.2.2.1
  unfold jst
  split
  · rename_i q
    right
    obtain ⟨q1, q2, q3, q4⟩ := q
    have hg : jG W T t ∉ l := fun m => ((h.2 _ h9.1).mpr m) q3
    have e1 : up w (jG W T t) t (jG W T t) = t := up_self _ _ _
    refine ⟨fun e => ?_, ?_, fun j hj => ?_⟩
    · have := congrFun e (jG W T t)
      rw [e1, q3] at this
      omega
    · refine .inr ⟨h.1.ext (fun j hj => up_ne _ (fun e => hg (e ▸ hj))), hg, h9.1, by rw [e1]; exact ht, by rw [e1], by rw [e1]; exact (h.2 _ h9.2.1).mp q2⟩
    · by_cases e : j = jG W T t
      · rw [e, e1]
        simp
        omega
      · rw [up_ne _ e, h.2 j hj]
        simp [e]
  · exact .inl rfl
