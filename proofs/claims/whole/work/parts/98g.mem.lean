/-! ===== what the Statement gives of the start, by its place ===== -/
/-- the texts, by the reader's entries; and the model's, which are the same -/
def k9_t (i : Nat) : Nat := ([57, 85, 99, 103, 66, 71, 117, 119, 123, 76, 133, 138] : List Nat).getD i 0
def k9_u (i : Nat) : Nat := ([197, 199, 204, 206, 217, 219, 208, 210, 212, 221, 214, 216] : List Nat).getD i 0
def k9_tm (i : Nat) : Term := .string "ArgumentMender$Reader" (k9_t i)
def k9_F : List Cond := flatC (Jvm.Cond.and given_1 narrow_1)
def k9_is (p : Nat) (w : Cond) : Bool := match k9_F[p]? with
  | some v => decide (v = w)
  | none => false
theorem k9_is_use {p : Nat} {w : Cond} (h : k9_is p w = true) : w ∈ k9_F := by
  unfold k9_is at h
  split at h
  · rename_i v hv
    rw [← of_decide_eq_true h]
    exact List.mem_of_getElem? hv
  · cases h
def k9_q1 (i : Nat) : Nat × Nat × Nat × Nat × Nat := ([(45, 46, 47, 48, 217), (54, 55, 56, 57, 239), (64, 65, 66, 67, 260), (73, 74, 75, 76, 283), (84, 85, 86, 87, 308), (97, 98, 99, 100, 335), (112, 113, 114, 115, 388), (124, 125, 126, 127, 415), (138, 139, 140, 141, 445), (155, 156, 157, 158, 367), (175, 176, 177, 178, 474), (191, 192, 193, 194, 503)] : List (Nat × Nat × Nat × Nat × Nat)).getD i (0, 0, 0, 0, 0)
def k9_q2 (i j : Nat) : Nat := (([[49, 50, 51, 52, 53], [58, 59, 60, 61, 62], [68, 69, 70], [77, 78, 79, 80], [88, 89, 90, 91, 92], [101, 102, 103, 104, 105, 106], [116, 117], [128, 129, 130], [142, 143, 144, 145, 146], [159, 160, 161, 162, 163, 164, 165], [179, 180], [195, 196]] : List (List Nat)).getD i []).getD j 0
def k9_q3 (i j : Nat) : Nat := (([[0, 63, 71, 81, 93, 107, 118, 131, 147, 166, 181, 197], [0, 0, 72, 82, 94, 108, 119, 132, 148, 167, 182, 198], [0, 0, 0, 83, 95, 109, 120, 133, 149, 168, 183, 199], [0, 0, 0, 0, 96, 110, 121, 134, 150, 169, 184, 200], [0, 0, 0, 0, 0, 111, 122, 135, 151, 170, 185, 201], [0, 0, 0, 0, 0, 0, 123, 136, 152, 171, 186, 202], [0, 0, 0, 0, 0, 0, 0, 137, 153, 172, 187, 203], [0, 0, 0, 0, 0, 0, 0, 0, 154, 173, 188, 204], [0, 0, 0, 0, 0, 0, 0, 0, 0, 174, 189, 205], [0, 0, 0, 0, 0, 0, 0, 0, 0, 0, 190, 206], [0, 0, 0, 0, 0, 0, 0, 0, 0, 0, 0, 207], [0, 0, 0, 0, 0, 0, 0, 0, 0, 0, 0, 0]] : List (List Nat)).getD i []).getD j 0
set_option maxRecDepth 1000000 in
theorem k9_1 : (List.range 12).all (fun i => k9_is (k9_q1 i).1 (.exactly (k9_tm i) "java/lang/String") && k9_is (k9_q1 i).2.1 (.eq (.field (k9_tm i) "java/lang/String" "coder" "B") (.int 0)) && k9_is (k9_q1 i).2.2.1 (.arrayOf (.field (k9_tm i) "java/lang/String" "value" "[B") .byte) && k9_is (k9_q1 i).2.2.2.1 (.eq (.length (.field (k9_tm i) "java/lang/String" "value" "[B")) (.int (Int32.ofNat (am_slen.getD i 0)))) && k9_is (k9_q1 i).2.2.2.2 (.eq (k9_tm i) (.string "ArgumentMenderModel" (k9_u i)))) = true := by decide +kernel
set_option maxRecDepth 1000000 in
theorem k9_2 : (List.range 12).all (fun i => (List.range (am_slen.getD i 0)).all (fun j => k9_is (k9_q2 i j) (.eq (.elem (.field (k9_tm i) "java/lang/String" "value" "[B") (.int (Int32.ofNat j))) (.int ((am_sbyt.getD i []).getD j 0))))) = true := by decide +kernel
set_option maxRecDepth 1000000 in
theorem k9_3 : (List.range 12).all (fun i => (List.range 12).all (fun j => Nat.ble j i || k9_is (k9_q3 i j) (.not (.eq (k9_tm i) (k9_tm j))) || k9_is (k9_q3 i j) (.not (.eq (k9_tm j) (k9_tm i))))) = true := by decide +kernel
set_option maxRecDepth 1000000 in
theorem k9_4 : (k9_is 10 (.arrayOf (.static "ArgumentMender" "FACTORIALS" "[I") .int) && k9_is 11 (.eq (.length (.static "ArgumentMender" "FACTORIALS" "[I")) (.int (Int32.ofNat 9))) && (List.range 9).all (fun j => k9_is (12 + j) (.eq (.elem (.static "ArgumentMender" "FACTORIALS" "[I") (.int (Int32.ofNat j))) (.int (am_fact j)))) && k9_is 4 (.eq (.static "java/lang/String" "COMPACT_STRINGS" "Z") (.int 1)) && k9_is 5 (.isRef (.static "jdk/internal/util/Preconditions" "SIOOBE_FORMATTER" "Ljava/util/function/BiFunction;"))) = true := by decide +kernel
set_option maxRecDepth 1000000 in
theorem k9_5 : am_lkS.all (fun q => Nat.blt q.2.2.1 12 && decide (am_at q.2.2.2.1 = some (.stringRef (am_on q.1) q.2.1 q.2.2.2.2)) && (Nat.beq q.1 2 && Nat.beq q.2.1 (k9_t q.2.2.1) || Nat.beq q.1 11 && Nat.beq q.2.1 (k9_u q.2.2.1))) = true := by decide +kernel
set_option maxRecDepth 1000000 in
theorem k9_S : c1_S 233 ≤ 7302250 := by decide +kernel
theorem k9_lawdef : c1_law = c1_run false (c1_sm 169 c1_169 (c1_sm 79 c1_79 c1_s0)) cdI345 18 60 (0, [some (.inr (.inr (62, 5200))), none, none, none], [], 0, []) := by
  unfold c1_law
  rfl
