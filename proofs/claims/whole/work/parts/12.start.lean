/-! the law's entry: what the Statement gives of the start, and R for the law itself -/
theorem rLt1 {w : Cond} (i : Nat) (h : tables_1_1[i]? = some w) : w ∈ lw_tbl := List.mem_append_right _ (List.mem_append_left _ (List.mem_of_getElem? h))
theorem rLt2 {w : Cond} (i : Nat) (h : tables_1_2[i]? = some w) : w ∈ lw_tbl := List.mem_append_right _ (List.mem_append_right _ (List.mem_append_left _ (List.mem_of_getElem? h)))
theorem rLt3 {w : Cond} (i : Nat) (h : tables_1_3[i]? = some w) : w ∈ lw_tbl := List.mem_append_right _ (List.mem_append_right _ (List.mem_append_right _ (List.mem_append_left _ (List.mem_of_getElem? h))))
theorem rLt4 {w : Cond} (i : Nat) (h : tables_1_4[i]? = some w) : w ∈ lw_tbl := List.mem_append_right _ (List.mem_append_right _ (List.mem_append_right _ (List.mem_append_right _ (List.mem_append_left _ (List.mem_of_getElem? h)))))
theorem rLt5 {w : Cond} (i : Nat) (h : tables_1_5[i]? = some w) : w ∈ lw_tbl := List.mem_append_right _ (List.mem_append_right _ (List.mem_append_right _ (List.mem_append_right _ (List.mem_append_right _ (List.mem_append_left _ (List.mem_of_getElem? h))))))
theorem rLt6 {w : Cond} (i : Nat) (h : tables_1_6[i]? = some w) : w ∈ lw_tbl := List.mem_append_right _ (List.mem_append_right _ (List.mem_append_right _ (List.mem_append_right _ (List.mem_append_right _ (List.mem_append_right _ ((List.mem_of_getElem? h)))))))
set_option maxRecDepth 20000 in
theorem rStr_in : ∀ (i : Nat) (q : Nat × String), rStrs[i]? = some q → Cond.stringRef "SampleLayers$Text" q.1 q.2 ∈ lw_tbl := fun i q h => match i, h with
  | 0, h => by cases h; exact rLt2 3 rfl
  | 1, h => by cases h; exact rLt2 56 rfl
  | 2, h => by cases h; exact rLt2 57 rfl
  | 3, h => by cases h; exact rLt2 58 rfl
  | 4, h => by cases h; exact rLt2 59 rfl
  | 5, h => by cases h; exact rLt2 60 rfl
  | 6, h => by cases h; exact rLt2 69 rfl
  | 7, h => by cases h; exact rLt2 74 rfl
  | 8, h => by cases h; exact rLt2 75 rfl
  | 9, h => by cases h; exact rLt2 92 rfl
  | 10, h => by cases h; exact rLt2 93 rfl
  | 11, h => by cases h; exact rLt2 94 rfl
  | 12, h => by cases h; exact rLt2 95 rfl
  | 13, h => by cases h; exact rLt2 96 rfl
  | 14, h => by cases h; exact rLt2 97 rfl
  | n + 15, h => by cases h
set_option maxRecDepth 20000 in
theorem rStU : Cond.laysStatic "SampleLayers" "UNDER" "[I" ∈ lw_tbl ∧ Cond.initialized "SampleLayers" ∈ lw_tbl := ⟨rLt3 208 rfl, rLt1 1 rfl⟩
set_option maxRecDepth 20000 in
theorem rStO : Cond.laysStatic "SampleLayers$Acts" "OWN_BODIES" "[I" ∈ lw_tbl ∧ Cond.initialized "SampleLayers$Acts" ∈ lw_tbl := ⟨rLt3 234 rfl, rLt1 6 rfl⟩
set_option maxRecDepth 20000 in
theorem rStC : Cond.laysStatic "java/lang/String" "COMPACT_STRINGS" "Z" ∈ lw_tbl ∧ Cond.initialized "java/lang/String" ∈ lw_tbl := ⟨rLt2 17 rfl, rLt1 8 rfl⟩
set_option maxRecDepth 20000 in
theorem rStF : Cond.laysStatic "jdk/internal/util/Preconditions" "SIOOBE_FORMATTER" "Ljava/util/function/BiFunction;" ∈ lw_tbl ∧ Cond.initialized "jdk/internal/util/Preconditions" ∈ lw_tbl := ⟨rLt2 33 rfl, rLt1 10 rfl⟩
abbrev rGiven : List Cond := flatC (Jvm.Cond.and given_1 narrow_1)
abbrev rTu : Term := .static "SampleLayers" "UNDER" "[I"
abbrev rTo : Term := .static "SampleLayers$Acts" "OWN_BODIES" "[I"
abbrev rTs (i : Nat) : Term := .string "SampleLayers$Text" (rStrs.getD i (0, "")).1
abbrev rTv (i : Nat) : Term := .field (rTs i) "java/lang/String" "value" "[B"

section GIV
variable {args : Array Value} {s : State}
theorem gL {a b : Cond} (h : (Cond.and a b).before args s = true) : a.before args s = true := by
  rw [Cond.before_and, Bool.and_eq_true] at h
  exact h.1
theorem gR {a b : Cond} (h : (Cond.and a b).before args s = true) : b.before args s = true := by
  rw [Cond.before_and, Bool.and_eq_true] at h
  exact h.2
theorem rg1 (hn : narrow_1.before args s = true) : (Cond.arrayOf rTu .int).before args s = true ∧ (Cond.eq (.length rTu) (.int (Int32.ofNat 6))).before args s = true ∧ ∀ j, j < 6 → (Cond.eq (.elem rTu (.int (Int32.ofNat j))) (.int (rUnder.getD j 0))).before args s = true := ⟨gL (gL (gL (gR (gL (gL (gL (gL hn))))))), gR (gL (gL (gR (gL (gL (gL (gL hn))))))), fun j hj => match j, hj with
  | 0, _ => gL (gR (gL (gR (gL (gL (gL (gL hn)))))))
  | 1, _ => gR (gR (gL (gR (gL (gL (gL (gL hn)))))))
  | 2, _ => gL (gL (gR (gR (gL (gL (gL (gL hn)))))))
  | 3, _ => gR (gL (gR (gR (gL (gL (gL (gL hn)))))))
  | 4, _ => gL (gR (gR (gR (gL (gL (gL (gL hn)))))))
  | 5, _ => gL (gR (gR (gR (gR (gL (gL (gL (gL hn))))))))
  | n + 6, h => absurd h (by omega)⟩
theorem rg2 (hn : narrow_1.before args s = true) : (Cond.arrayOf rTo .int).before args s = true ∧ (Cond.eq (.length rTo) (.int (Int32.ofNat 24))).before args s = true ∧ ∀ j, j < 24 → (Cond.eq (.elem rTo (.int (Int32.ofNat j))) (.int (rOwn.getD j 0))).before args s = true := ⟨gL (gL (gL (gL (gR (gL (gL (gL hn))))))), gR (gL (gL (gL (gR (gL (gL (gL hn))))))), fun j hj => match j, hj with
  | 0, _ => gL (gR (gL (gL (gR (gL (gL (gL hn)))))))
  | 1, _ => gR (gR (gL (gL (gR (gL (gL (gL hn)))))))
  | 2, _ => gL (gL (gR (gL (gR (gL (gL (gL hn)))))))
  | 3, _ => gR (gL (gR (gL (gR (gL (gL (gL hn)))))))
  | 4, _ => gL (gR (gR (gL (gR (gL (gL (gL hn)))))))
  | 5, _ => gL (gR (gR (gR (gL (gR (gL (gL (gL hn))))))))
  | 6, _ => gR (gR (gR (gR (gL (gR (gL (gL (gL hn))))))))
  | 7, _ => gL (gL (gL (gR (gR (gL (gL (gL hn)))))))
  | 8, _ => gR (gL (gL (gR (gR (gL (gL (gL hn)))))))
  | 9, _ => gL (gR (gL (gR (gR (gL (gL (gL hn)))))))
  | 10, _ => gR (gR (gL (gR (gR (gL (gL (gL hn)))))))
  | 11, _ => gL (gL (gR (gR (gR (gL (gL (gL hn)))))))
  | 12, _ => gR (gL (gR (gR (gR (gL (gL (gL hn)))))))
  | 13, _ => gL (gR (gR (gR (gR (gL (gL (gL hn)))))))
  | 14, _ => gL (gR (gR (gR (gR (gR (gL (gL (gL hn))))))))
  | 15, _ => gR (gR (gR (gR (gR (gR (gL (gL (gL hn))))))))
  | 16, _ => gL (gL (gL (gL (gL (gR (gL (gL hn)))))))
  | 17, _ => gR (gL (gL (gL (gL (gR (gL (gL hn)))))))
  | 18, _ => gL (gR (gL (gL (gL (gR (gL (gL hn)))))))
  | 19, _ => gR (gR (gL (gL (gL (gR (gL (gL hn)))))))
  | 20, _ => gL (gL (gR (gL (gL (gR (gL (gL hn)))))))
  | 21, _ => gR (gL (gR (gL (gL (gR (gL (gL hn)))))))
  | 22, _ => gL (gR (gR (gL (gL (gR (gL (gL hn)))))))
  | 23, _ => gL (gR (gR (gR (gL (gL (gR (gL (gL hn))))))))
  | n + 24, h => absurd h (by omega)⟩
theorem rg3 (hn : narrow_1.before args s = true) : (Cond.eq (.static "java/lang/String" "COMPACT_STRINGS" "Z") (.int 1)).before args s = true ∧ (Cond.isRef (.static "jdk/internal/util/Preconditions" "SIOOBE_FORMATTER" "Ljava/util/function/BiFunction;")).before args s = true := ⟨gL (gR (gL (gL (gL (gL (gL (gL hn))))))), gR (gR (gL (gL (gL (gL (gL (gL hn)))))))⟩
theorem rg4 (hn : narrow_1.before args s = true) : ∀ i, i < 15 → (Cond.exactly (rTs i) "java/lang/String").before args s = true ∧ (Cond.eq (.field (rTs i) "java/lang/String" "coder" "B") (.int 0)).before args s = true ∧ (Cond.arrayOf (rTv i) .byte).before args s = true ∧ (Cond.eq (.length (rTv i)) (.int (Int32.ofNat (rLen.getD i 0)))).before args s = true := fun i hi => match i, hi with
  | 0, _ => ⟨gR (gR (gR (gR (gL (gL (gR (gL (gL hn)))))))), gL (gL (gL (gR (gL (gR (gL (gL hn))))))), gR (gL (gL (gR (gL (gR (gL (gL hn))))))), gL (gR (gL (gR (gL (gR (gL (gL hn)))))))⟩
  | 1, _ => ⟨gR (gR (gR (gR (gR (gL (gR (gL (gL hn)))))))), gL (gL (gL (gL (gR (gR (gL (gL hn))))))), gR (gL (gL (gL (gR (gR (gL (gL hn))))))), gL (gR (gL (gL (gR (gR (gL (gL hn)))))))⟩
  | 2, _ => ⟨gR (gL (gL (gR (gR (gR (gL (gL hn))))))), gL (gR (gL (gR (gR (gR (gL (gL hn))))))), gR (gR (gL (gR (gR (gR (gL (gL hn))))))), gL (gL (gR (gR (gR (gR (gL (gL hn)))))))⟩
  | 3, _ => ⟨gR (gL (gR (gL (gL (gL (gR (gL hn))))))), gL (gR (gR (gL (gL (gL (gR (gL hn))))))), gR (gR (gR (gL (gL (gL (gR (gL hn))))))), gL (gL (gL (gR (gL (gL (gR (gL hn)))))))⟩
  | 4, _ => ⟨gR (gL (gL (gL (gR (gL (gR (gL hn))))))), gL (gR (gL (gL (gR (gL (gR (gL hn))))))), gR (gR (gL (gL (gR (gL (gR (gL hn))))))), gL (gL (gR (gL (gR (gL (gR (gL hn)))))))⟩
  | 5, _ => ⟨gL (gL (gR (gR (gR (gL (gR (gL hn))))))), gR (gL (gR (gR (gR (gL (gR (gL hn))))))), gL (gR (gR (gR (gR (gL (gR (gL hn))))))), gL (gR (gR (gR (gR (gR (gL (gR (gL hn))))))))⟩
  | 6, _ => ⟨gR (gR (gR (gR (gL (gL (gR (gR (gL hn)))))))), gL (gL (gL (gR (gL (gR (gR (gL hn))))))), gR (gL (gL (gR (gL (gR (gR (gL hn))))))), gL (gR (gL (gR (gL (gR (gR (gL hn)))))))⟩
  | 7, _ => ⟨gL (gR (gL (gL (gR (gR (gR (gL hn))))))), gR (gR (gL (gL (gR (gR (gR (gL hn))))))), gL (gL (gR (gL (gR (gR (gR (gL hn))))))), gR (gL (gR (gL (gR (gR (gR (gL hn)))))))⟩
  | 8, _ => ⟨gL (gL (gL (gL (gL (gL (gL (gR hn))))))), gR (gL (gL (gL (gL (gL (gL (gR hn))))))), gL (gR (gL (gL (gL (gL (gL (gR hn))))))), gR (gR (gL (gL (gL (gL (gL (gR hn)))))))⟩
  | 9, _ => ⟨gL (gL (gL (gL (gR (gL (gL (gR hn))))))), gR (gL (gL (gL (gR (gL (gL (gR hn))))))), gL (gR (gL (gL (gR (gL (gL (gR hn))))))), gR (gR (gL (gL (gR (gL (gL (gR hn)))))))⟩
  | 10, _ => ⟨gR (gL (gL (gL (gL (gR (gL (gR hn))))))), gL (gR (gL (gL (gL (gR (gL (gR hn))))))), gR (gR (gL (gL (gL (gR (gL (gR hn))))))), gL (gL (gR (gL (gL (gR (gL (gR hn)))))))⟩
  | 11, _ => ⟨gL (gL (gR (gL (gR (gR (gL (gR hn))))))), gR (gL (gR (gL (gR (gR (gL (gR hn))))))), gL (gR (gR (gL (gR (gR (gL (gR hn))))))), gL (gR (gR (gR (gL (gR (gR (gL (gR hn))))))))⟩
  | 12, _ => ⟨gL (gL (gR (gL (gL (gL (gR (gR hn))))))), gR (gL (gR (gL (gL (gL (gR (gR hn))))))), gL (gR (gR (gL (gL (gL (gR (gR hn))))))), gR (gR (gR (gL (gL (gL (gR (gR hn)))))))⟩
  | 13, _ => ⟨gR (gR (gR (gR (gL (gR (gL (gR (gR hn)))))))), gL (gL (gL (gR (gR (gL (gR (gR hn))))))), gR (gL (gL (gR (gR (gL (gR (gR hn))))))), gL (gR (gL (gR (gR (gL (gR (gR hn)))))))⟩
  | 14, _ => ⟨gR (gR (gL (gR (gL (gR (gR (gR hn))))))), gL (gL (gR (gR (gL (gR (gR (gR hn))))))), gR (gL (gR (gR (gL (gR (gR (gR hn))))))), gL (gR (gR (gR (gL (gR (gR (gR hn)))))))⟩
  | n + 15, h => absurd h (by omega)
theorem rg5_0 (hn : narrow_1.before args s = true) : ∀ j, j < 5 → (Cond.eq (.elem (rTv 0) (.int (Int32.ofNat j))) (.int ((rByt.getD 0 []).getD j 0))).before args s = true := fun j hj => match j, hj with
  | 0, _ => gR (gR (gL (gR (gL (gR (gL (gL hn)))))))
  | 1, _ => gL (gL (gR (gR (gL (gR (gL (gL hn)))))))
  | 2, _ => gR (gL (gR (gR (gL (gR (gL (gL hn)))))))
  | 3, _ => gL (gR (gR (gR (gL (gR (gL (gL hn)))))))
  | 4, _ => gL (gR (gR (gR (gR (gL (gR (gL (gL hn))))))))
  | n + 5, h => absurd h (by omega)
theorem rg5_1 (hn : narrow_1.before args s = true) : ∀ j, j < 6 → (Cond.eq (.elem (rTv 1) (.int (Int32.ofNat j))) (.int ((rByt.getD 1 []).getD j 0))).before args s = true := fun j hj => match j, hj with
  | 0, _ => gR (gR (gL (gL (gR (gR (gL (gL hn)))))))
  | 1, _ => gL (gL (gR (gL (gR (gR (gL (gL hn)))))))
  | 2, _ => gR (gL (gR (gL (gR (gR (gL (gL hn)))))))
  | 3, _ => gL (gR (gR (gL (gR (gR (gL (gL hn)))))))
  | 4, _ => gL (gR (gR (gR (gL (gR (gR (gL (gL hn))))))))
  | 5, _ => gR (gR (gR (gR (gL (gR (gR (gL (gL hn))))))))
  | n + 6, h => absurd h (by omega)
theorem rg5_2 (hn : narrow_1.before args s = true) : ∀ j, j < 7 → (Cond.eq (.elem (rTv 2) (.int (Int32.ofNat j))) (.int ((rByt.getD 2 []).getD j 0))).before args s = true := fun j hj => match j, hj with
  | 0, _ => gR (gL (gR (gR (gR (gR (gL (gL hn)))))))
  | 1, _ => gL (gR (gR (gR (gR (gR (gL (gL hn)))))))
  | 2, _ => gL (gR (gR (gR (gR (gR (gR (gL (gL hn))))))))
  | 3, _ => gR (gR (gR (gR (gR (gR (gR (gL (gL hn))))))))
  | 4, _ => gL (gL (gL (gL (gL (gL (gR (gL hn)))))))
  | 5, _ => gR (gL (gL (gL (gL (gL (gR (gL hn)))))))
  | 6, _ => gL (gR (gL (gL (gL (gL (gR (gL hn)))))))
  | n + 7, h => absurd h (by omega)
theorem rg5_3 (hn : narrow_1.before args s = true) : ∀ j, j < 6 → (Cond.eq (.elem (rTv 3) (.int (Int32.ofNat j))) (.int ((rByt.getD 3 []).getD j 0))).before args s = true := fun j hj => match j, hj with
  | 0, _ => gR (gL (gL (gR (gL (gL (gR (gL hn)))))))
  | 1, _ => gL (gR (gL (gR (gL (gL (gR (gL hn)))))))
  | 2, _ => gR (gR (gL (gR (gL (gL (gR (gL hn)))))))
  | 3, _ => gL (gL (gR (gR (gL (gL (gR (gL hn)))))))
  | 4, _ => gR (gL (gR (gR (gL (gL (gR (gL hn)))))))
  | 5, _ => gL (gR (gR (gR (gL (gL (gR (gL hn)))))))
  | n + 6, h => absurd h (by omega)
theorem rg5_4 (hn : narrow_1.before args s = true) : ∀ j, j < 4 → (Cond.eq (.elem (rTv 4) (.int (Int32.ofNat j))) (.int ((rByt.getD 4 []).getD j 0))).before args s = true := fun j hj => match j, hj with
  | 0, _ => gR (gL (gR (gL (gR (gL (gR (gL hn)))))))
  | 1, _ => gL (gR (gR (gL (gR (gL (gR (gL hn)))))))
  | 2, _ => gL (gR (gR (gR (gL (gR (gL (gR (gL hn))))))))
  | 3, _ => gR (gR (gR (gR (gL (gR (gL (gR (gL hn))))))))
  | n + 4, h => absurd h (by omega)
theorem rg5_5 (hn : narrow_1.before args s = true) : ∀ j, j < 4 → (Cond.eq (.elem (rTv 5) (.int (Int32.ofNat j))) (.int ((rByt.getD 5 []).getD j 0))).before args s = true := fun j hj => match j, hj with
  | 0, _ => gR (gR (gR (gR (gR (gR (gL (gR (gL hn))))))))
  | 1, _ => gL (gL (gL (gL (gL (gR (gR (gL hn)))))))
  | 2, _ => gR (gL (gL (gL (gL (gR (gR (gL hn)))))))
  | 3, _ => gL (gR (gL (gL (gL (gR (gR (gL hn)))))))
  | n + 4, h => absurd h (by omega)
theorem rg5_6 (hn : narrow_1.before args s = true) : ∀ j, j < 2 → (Cond.eq (.elem (rTv 6) (.int (Int32.ofNat j))) (.int ((rByt.getD 6 []).getD j 0))).before args s = true := fun j hj => match j, hj with
  | 0, _ => gR (gR (gL (gR (gL (gR (gR (gL hn)))))))
  | 1, _ => gL (gL (gR (gR (gL (gR (gR (gL hn)))))))
  | n + 2, h => absurd h (by omega)
theorem rg5_7 (hn : narrow_1.before args s = true) : ∀ j, j < 5 → (Cond.eq (.elem (rTv 7) (.int (Int32.ofNat j))) (.int ((rByt.getD 7 []).getD j 0))).before args s = true := fun j hj => match j, hj with
  | 0, _ => gL (gR (gR (gL (gR (gR (gR (gL hn)))))))
  | 1, _ => gL (gR (gR (gR (gL (gR (gR (gR (gL hn))))))))
  | 2, _ => gR (gR (gR (gR (gL (gR (gR (gR (gL hn))))))))
  | 3, _ => gL (gL (gL (gR (gR (gR (gR (gL hn)))))))
  | 4, _ => gR (gL (gL (gR (gR (gR (gR (gL hn)))))))
  | n + 5, h => absurd h (by omega)
theorem rg5_8 (hn : narrow_1.before args s = true) : ∀ j, j < 5 → (Cond.eq (.elem (rTv 8) (.int (Int32.ofNat j))) (.int ((rByt.getD 8 []).getD j 0))).before args s = true := fun j hj => match j, hj with
  | 0, _ => gL (gL (gR (gL (gL (gL (gL (gR hn)))))))
  | 1, _ => gR (gL (gR (gL (gL (gL (gL (gR hn)))))))
  | 2, _ => gL (gR (gR (gL (gL (gL (gL (gR hn)))))))
  | 3, _ => gR (gR (gR (gL (gL (gL (gL (gR hn)))))))
  | 4, _ => gL (gL (gL (gR (gL (gL (gL (gR hn)))))))
  | n + 5, h => absurd h (by omega)
theorem rg5_9 (hn : narrow_1.before args s = true) : ∀ j, j < 6 → (Cond.eq (.elem (rTv 9) (.int (Int32.ofNat j))) (.int ((rByt.getD 9 []).getD j 0))).before args s = true := fun j hj => match j, hj with
  | 0, _ => gL (gL (gR (gL (gR (gL (gL (gR hn)))))))
  | 1, _ => gR (gL (gR (gL (gR (gL (gL (gR hn)))))))
  | 2, _ => gL (gR (gR (gL (gR (gL (gL (gR hn)))))))
  | 3, _ => gL (gR (gR (gR (gL (gR (gL (gL (gR hn))))))))
  | 4, _ => gR (gR (gR (gR (gL (gR (gL (gL (gR hn))))))))
  | 5, _ => gL (gL (gL (gR (gR (gL (gL (gR hn)))))))
  | n + 6, h => absurd h (by omega)
theorem rg5_10 (hn : narrow_1.before args s = true) : ∀ j, j < 7 → (Cond.eq (.elem (rTv 10) (.int (Int32.ofNat j))) (.int ((rByt.getD 10 []).getD j 0))).before args s = true := fun j hj => match j, hj with
  | 0, _ => gR (gL (gR (gL (gL (gR (gL (gR hn)))))))
  | 1, _ => gL (gR (gR (gL (gL (gR (gL (gR hn)))))))
  | 2, _ => gL (gR (gR (gR (gL (gL (gR (gL (gR hn))))))))
  | 3, _ => gR (gR (gR (gR (gL (gL (gR (gL (gR hn))))))))
  | 4, _ => gL (gL (gL (gR (gL (gR (gL (gR hn)))))))
  | 5, _ => gR (gL (gL (gR (gL (gR (gL (gR hn)))))))
  | 6, _ => gL (gR (gL (gR (gL (gR (gL (gR hn)))))))
  | n + 7, h => absurd h (by omega)
theorem rg5_11 (hn : narrow_1.before args s = true) : ∀ j, j < 3 → (Cond.eq (.elem (rTv 11) (.int (Int32.ofNat j))) (.int ((rByt.getD 11 []).getD j 0))).before args s = true := fun j hj => match j, hj with
  | 0, _ => gR (gR (gR (gR (gL (gR (gR (gL (gR hn))))))))
  | 1, _ => gL (gL (gL (gR (gR (gR (gL (gR hn)))))))
  | 2, _ => gR (gL (gL (gR (gR (gR (gL (gR hn)))))))
  | n + 3, h => absurd h (by omega)
theorem rg5_12 (hn : narrow_1.before args s = true) : ∀ j, j < 5 → (Cond.eq (.elem (rTv 12) (.int (Int32.ofNat j))) (.int ((rByt.getD 12 []).getD j 0))).before args s = true := fun j hj => match j, hj with
  | 0, _ => gL (gL (gL (gR (gL (gL (gR (gR hn)))))))
  | 1, _ => gR (gL (gL (gR (gL (gL (gR (gR hn)))))))
  | 2, _ => gL (gR (gL (gR (gL (gL (gR (gR hn)))))))
  | 3, _ => gR (gR (gL (gR (gL (gL (gR (gR hn)))))))
  | 4, _ => gL (gL (gR (gR (gL (gL (gR (gR hn)))))))
  | n + 5, h => absurd h (by omega)
theorem rg5_13 (hn : narrow_1.before args s = true) : ∀ j, j < 5 → (Cond.eq (.elem (rTv 13) (.int (Int32.ofNat j))) (.int ((rByt.getD 13 []).getD j 0))).before args s = true := fun j hj => match j, hj with
  | 0, _ => gR (gR (gL (gR (gR (gL (gR (gR hn)))))))
  | 1, _ => gL (gL (gR (gR (gR (gL (gR (gR hn)))))))
  | 2, _ => gR (gL (gR (gR (gR (gL (gR (gR hn)))))))
  | 3, _ => gL (gR (gR (gR (gR (gL (gR (gR hn)))))))
  | 4, _ => gL (gR (gR (gR (gR (gR (gL (gR (gR hn))))))))
  | n + 5, h => absurd h (by omega)
theorem rg5_14 (hn : narrow_1.before args s = true) : ∀ j, j < 4 → (Cond.eq (.elem (rTv 14) (.int (Int32.ofNat j))) (.int ((rByt.getD 14 []).getD j 0))).before args s = true := fun j hj => match j, hj with
  | 0, _ => gL (gR (gR (gR (gR (gL (gR (gR (gR hn))))))))
  | 1, _ => gR (gR (gR (gR (gR (gL (gR (gR (gR hn))))))))
  | 2, _ => gL (gL (gL (gL (gR (gR (gR (gR hn)))))))
  | 3, _ => gR (gL (gL (gL (gR (gR (gR (gR hn)))))))
  | n + 4, h => absurd h (by omega)
theorem rg5 (hn : narrow_1.before args s = true) : ∀ i, i < 15 → ∀ j, j < rLen.getD i 0 → (Cond.eq (.elem (rTv i) (.int (Int32.ofNat j))) (.int ((rByt.getD i []).getD j 0))).before args s = true := fun i hi => match i, hi with
  | 0, _ => rg5_0 hn
  | 1, _ => rg5_1 hn
  | 2, _ => rg5_2 hn
  | 3, _ => rg5_3 hn
  | 4, _ => rg5_4 hn
  | 5, _ => rg5_5 hn
  | 6, _ => rg5_6 hn
  | 7, _ => rg5_7 hn
  | 8, _ => rg5_8 hn
  | 9, _ => rg5_9 hn
  | 10, _ => rg5_10 hn
  | 11, _ => rg5_11 hn
  | 12, _ => rg5_12 hn
  | 13, _ => rg5_13 hn
  | 14, _ => rg5_14 hn
  | n + 15, h => absurd h (by omega)
theorem rg6_0 (hn : narrow_1.before args s = true) : ∀ j, j < 15 → 0 ≠ j → (Cond.not (Cond.eq (rTs 0) (rTs j))).before args s = true ∨ (Cond.not (Cond.eq (rTs j) (rTs 0))).before args s = true := fun j hj hne => match j, hj, hne with
  | 0, _, hne => absurd rfl hne
  | 1, _, _ => Or.inl (gL (gL (gL (gR (gR (gR (gL (gL hn))))))))
  | 2, _, _ => Or.inl (gR (gR (gL (gL (gL (gL (gR (gL hn))))))))
  | 3, _, _ => Or.inl (gL (gR (gR (gR (gR (gL (gL (gR (gL hn)))))))))
  | 4, _, _ => Or.inl (gL (gL (gL (gR (gR (gL (gR (gL hn))))))))
  | 5, _, _ => Or.inl (gR (gR (gL (gL (gL (gR (gR (gL hn))))))))
  | 6, _, _ => Or.inl (gR (gL (gR (gR (gL (gR (gR (gL hn))))))))
  | 7, _, _ => Or.inl (gL (gR (gL (gR (gR (gR (gR (gL hn))))))))
  | 8, _, _ => Or.inl (gR (gL (gL (gR (gL (gL (gL (gR hn))))))))
  | 9, _, _ => Or.inl (gR (gL (gL (gR (gR (gL (gL (gR hn))))))))
  | 10, _, _ => Or.inl (gR (gR (gL (gR (gL (gR (gL (gR hn))))))))
  | 11, _, _ => Or.inl (gL (gR (gL (gR (gR (gR (gL (gR hn))))))))
  | 12, _, _ => Or.inl (gR (gL (gR (gR (gL (gL (gR (gR hn))))))))
  | 13, _, _ => Or.inl (gR (gR (gR (gR (gR (gR (gL (gR (gR hn)))))))))
  | 14, _, _ => Or.inl (gL (gR (gL (gL (gR (gR (gR (gR hn))))))))
  | n + 15, h, _ => absurd h (by omega)
theorem rg6_1 (hn : narrow_1.before args s = true) : ∀ j, j < 15 → 1 ≠ j → (Cond.not (Cond.eq (rTs 1) (rTs j))).before args s = true ∨ (Cond.not (Cond.eq (rTs j) (rTs 1))).before args s = true := fun j hj hne => match j, hj, hne with
  | 0, _, _ => Or.inr (gL (gL (gL (gR (gR (gR (gL (gL hn))))))))
  | 1, _, hne => absurd rfl hne
  | 2, _, _ => Or.inl (gL (gL (gR (gL (gL (gL (gR (gL hn))))))))
  | 3, _, _ => Or.inl (gR (gR (gR (gR (gR (gL (gL (gR (gL hn)))))))))
  | 4, _, _ => Or.inl (gR (gL (gL (gR (gR (gL (gR (gL hn))))))))
  | 5, _, _ => Or.inl (gL (gL (gR (gL (gL (gR (gR (gL hn))))))))
  | 6, _, _ => Or.inl (gL (gR (gR (gR (gL (gR (gR (gL hn))))))))
  | 7, _, _ => Or.inl (gR (gR (gL (gR (gR (gR (gR (gL hn))))))))
  | 8, _, _ => Or.inl (gL (gR (gL (gR (gL (gL (gL (gR hn))))))))
  | 9, _, _ => Or.inl (gL (gR (gL (gR (gR (gL (gL (gR hn))))))))
  | 10, _, _ => Or.inl (gL (gL (gR (gR (gL (gR (gL (gR hn))))))))
  | 11, _, _ => Or.inl (gR (gR (gL (gR (gR (gR (gL (gR hn))))))))
  | 12, _, _ => Or.inl (gL (gR (gR (gR (gL (gL (gR (gR hn))))))))
  | 13, _, _ => Or.inl (gL (gL (gL (gL (gL (gR (gR (gR hn))))))))
  | 14, _, _ => Or.inl (gR (gR (gL (gL (gR (gR (gR (gR hn))))))))
  | n + 15, h, _ => absurd h (by omega)
theorem rg6_2 (hn : narrow_1.before args s = true) : ∀ j, j < 15 → 2 ≠ j → (Cond.not (Cond.eq (rTs 2) (rTs j))).before args s = true ∨ (Cond.not (Cond.eq (rTs j) (rTs 2))).before args s = true := fun j hj hne => match j, hj, hne with
  | 0, _, _ => Or.inr (gR (gR (gL (gL (gL (gL (gR (gL hn))))))))
  | 1, _, _ => Or.inr (gL (gL (gR (gL (gL (gL (gR (gL hn))))))))
  | 2, _, hne => absurd rfl hne
  | 3, _, _ => Or.inl (gL (gL (gL (gL (gR (gL (gR (gL hn))))))))
  | 4, _, _ => Or.inl (gL (gR (gL (gR (gR (gL (gR (gL hn))))))))
  | 5, _, _ => Or.inl (gR (gL (gR (gL (gL (gR (gR (gL hn))))))))
  | 6, _, _ => Or.inl (gL (gR (gR (gR (gR (gL (gR (gR (gL hn)))))))))
  | 7, _, _ => Or.inl (gL (gL (gR (gR (gR (gR (gR (gL hn))))))))
  | 8, _, _ => Or.inl (gR (gR (gL (gR (gL (gL (gL (gR hn))))))))
  | 9, _, _ => Or.inl (gR (gR (gL (gR (gR (gL (gL (gR hn))))))))
  | 10, _, _ => Or.inl (gR (gL (gR (gR (gL (gR (gL (gR hn))))))))
  | 11, _, _ => Or.inl (gL (gL (gR (gR (gR (gR (gL (gR hn))))))))
  | 12, _, _ => Or.inl (gL (gR (gR (gR (gR (gL (gL (gR (gR hn)))))))))
  | 13, _, _ => Or.inl (gR (gL (gL (gL (gL (gR (gR (gR hn))))))))
  | 14, _, _ => Or.inl (gL (gL (gR (gL (gR (gR (gR (gR hn))))))))
  | n + 15, h, _ => absurd h (by omega)
theorem rg6_3 (hn : narrow_1.before args s = true) : ∀ j, j < 15 → 3 ≠ j → (Cond.not (Cond.eq (rTs 3) (rTs j))).before args s = true ∨ (Cond.not (Cond.eq (rTs j) (rTs 3))).before args s = true := fun j hj hne => match j, hj, hne with
  | 0, _, _ => Or.inr (gL (gR (gR (gR (gR (gL (gL (gR (gL hn)))))))))
  | 1, _, _ => Or.inr (gR (gR (gR (gR (gR (gL (gL (gR (gL hn)))))))))
  | 2, _, _ => Or.inr (gL (gL (gL (gL (gR (gL (gR (gL hn))))))))
  | 3, _, hne => absurd rfl hne
  | 4, _, _ => Or.inl (gR (gR (gL (gR (gR (gL (gR (gL hn))))))))
  | 5, _, _ => Or.inl (gL (gR (gR (gL (gL (gR (gR (gL hn))))))))
  | 6, _, _ => Or.inl (gR (gR (gR (gR (gR (gL (gR (gR (gL hn)))))))))
  | 7, _, _ => Or.inl (gR (gL (gR (gR (gR (gR (gR (gL hn))))))))
  | 8, _, _ => Or.inl (gL (gL (gR (gR (gL (gL (gL (gR hn))))))))
  | 9, _, _ => Or.inl (gL (gL (gR (gR (gR (gL (gL (gR hn))))))))
  | 10, _, _ => Or.inl (gL (gR (gR (gR (gL (gR (gL (gR hn))))))))
  | 11, _, _ => Or.inl (gR (gL (gR (gR (gR (gR (gL (gR hn))))))))
  | 12, _, _ => Or.inl (gR (gR (gR (gR (gR (gL (gL (gR (gR hn)))))))))
  | 13, _, _ => Or.inl (gL (gR (gL (gL (gL (gR (gR (gR hn))))))))
  | 14, _, _ => Or.inl (gR (gL (gR (gL (gR (gR (gR (gR hn))))))))
  | n + 15, h, _ => absurd h (by omega)
theorem rg6_4 (hn : narrow_1.before args s = true) : ∀ j, j < 15 → 4 ≠ j → (Cond.not (Cond.eq (rTs 4) (rTs j))).before args s = true ∨ (Cond.not (Cond.eq (rTs j) (rTs 4))).before args s = true := fun j hj hne => match j, hj, hne with
  | 0, _, _ => Or.inr (gL (gL (gL (gR (gR (gL (gR (gL hn))))))))
  | 1, _, _ => Or.inr (gR (gL (gL (gR (gR (gL (gR (gL hn))))))))
  | 2, _, _ => Or.inr (gL (gR (gL (gR (gR (gL (gR (gL hn))))))))
  | 3, _, _ => Or.inr (gR (gR (gL (gR (gR (gL (gR (gL hn))))))))
  | 4, _, hne => absurd rfl hne
  | 5, _, _ => Or.inl (gL (gR (gR (gR (gL (gL (gR (gR (gL hn)))))))))
  | 6, _, _ => Or.inl (gL (gL (gL (gL (gR (gR (gR (gL hn))))))))
  | 7, _, _ => Or.inl (gL (gR (gR (gR (gR (gR (gR (gL hn))))))))
  | 8, _, _ => Or.inl (gR (gL (gR (gR (gL (gL (gL (gR hn))))))))
  | 9, _, _ => Or.inl (gR (gL (gR (gR (gR (gL (gL (gR hn))))))))
  | 10, _, _ => Or.inl (gL (gR (gR (gR (gR (gL (gR (gL (gR hn)))))))))
  | 11, _, _ => Or.inl (gL (gR (gR (gR (gR (gR (gL (gR hn))))))))
  | 12, _, _ => Or.inl (gL (gL (gL (gL (gR (gL (gR (gR hn))))))))
  | 13, _, _ => Or.inl (gR (gR (gL (gL (gL (gR (gR (gR hn))))))))
  | 14, _, _ => Or.inl (gL (gR (gR (gL (gR (gR (gR (gR hn))))))))
  | n + 15, h, _ => absurd h (by omega)
theorem rg6_5 (hn : narrow_1.before args s = true) : ∀ j, j < 15 → 5 ≠ j → (Cond.not (Cond.eq (rTs 5) (rTs j))).before args s = true ∨ (Cond.not (Cond.eq (rTs j) (rTs 5))).before args s = true := fun j hj hne => match j, hj, hne with
  | 0, _, _ => Or.inr (gR (gR (gL (gL (gL (gR (gR (gL hn))))))))
  | 1, _, _ => Or.inr (gL (gL (gR (gL (gL (gR (gR (gL hn))))))))
  | 2, _, _ => Or.inr (gR (gL (gR (gL (gL (gR (gR (gL hn))))))))
  | 3, _, _ => Or.inr (gL (gR (gR (gL (gL (gR (gR (gL hn))))))))
  | 4, _, _ => Or.inr (gL (gR (gR (gR (gL (gL (gR (gR (gL hn)))))))))
  | 5, _, hne => absurd rfl hne
  | 6, _, _ => Or.inl (gR (gL (gL (gL (gR (gR (gR (gL hn))))))))
  | 7, _, _ => Or.inl (gL (gR (gR (gR (gR (gR (gR (gR (gL hn)))))))))
  | 8, _, _ => Or.inl (gL (gR (gR (gR (gL (gL (gL (gR hn))))))))
  | 9, _, _ => Or.inl (gL (gR (gR (gR (gR (gL (gL (gR hn))))))))
  | 10, _, _ => Or.inl (gR (gR (gR (gR (gR (gL (gR (gL (gR hn)))))))))
  | 11, _, _ => Or.inl (gL (gR (gR (gR (gR (gR (gR (gL (gR hn)))))))))
  | 12, _, _ => Or.inl (gR (gL (gL (gL (gR (gL (gR (gR hn))))))))
  | 13, _, _ => Or.inl (gL (gL (gR (gL (gL (gR (gR (gR hn))))))))
  | 14, _, _ => Or.inl (gL (gR (gR (gR (gL (gR (gR (gR (gR hn)))))))))
  | n + 15, h, _ => absurd h (by omega)
theorem rg6_6 (hn : narrow_1.before args s = true) : ∀ j, j < 15 → 6 ≠ j → (Cond.not (Cond.eq (rTs 6) (rTs j))).before args s = true ∨ (Cond.not (Cond.eq (rTs j) (rTs 6))).before args s = true := fun j hj hne => match j, hj, hne with
  | 0, _, _ => Or.inr (gR (gL (gR (gR (gL (gR (gR (gL hn))))))))
  | 1, _, _ => Or.inr (gL (gR (gR (gR (gL (gR (gR (gL hn))))))))
  | 2, _, _ => Or.inr (gL (gR (gR (gR (gR (gL (gR (gR (gL hn)))))))))
  | 3, _, _ => Or.inr (gR (gR (gR (gR (gR (gL (gR (gR (gL hn)))))))))
  | 4, _, _ => Or.inr (gL (gL (gL (gL (gR (gR (gR (gL hn))))))))
  | 5, _, _ => Or.inr (gR (gL (gL (gL (gR (gR (gR (gL hn))))))))
  | 6, _, hne => absurd rfl hne
  | 7, _, _ => Or.inl (gR (gR (gR (gR (gR (gR (gR (gR (gL hn)))))))))
  | 8, _, _ => Or.inl (gL (gR (gR (gR (gR (gL (gL (gL (gR hn)))))))))
  | 9, _, _ => Or.inl (gL (gR (gR (gR (gR (gR (gL (gL (gR hn)))))))))
  | 10, _, _ => Or.inl (gL (gL (gL (gL (gR (gR (gL (gR hn))))))))
  | 11, _, _ => Or.inl (gR (gR (gR (gR (gR (gR (gR (gL (gR hn)))))))))
  | 12, _, _ => Or.inl (gL (gR (gL (gL (gR (gL (gR (gR hn))))))))
  | 13, _, _ => Or.inl (gR (gL (gR (gL (gL (gR (gR (gR hn))))))))
  | 14, _, _ => Or.inl (gR (gR (gR (gR (gL (gR (gR (gR (gR hn)))))))))
  | n + 15, h, _ => absurd h (by omega)
theorem rg6_7 (hn : narrow_1.before args s = true) : ∀ j, j < 15 → 7 ≠ j → (Cond.not (Cond.eq (rTs 7) (rTs j))).before args s = true ∨ (Cond.not (Cond.eq (rTs j) (rTs 7))).before args s = true := fun j hj hne => match j, hj, hne with
  | 0, _, _ => Or.inr (gL (gR (gL (gR (gR (gR (gR (gL hn))))))))
  | 1, _, _ => Or.inr (gR (gR (gL (gR (gR (gR (gR (gL hn))))))))
  | 2, _, _ => Or.inr (gL (gL (gR (gR (gR (gR (gR (gL hn))))))))
  | 3, _, _ => Or.inr (gR (gL (gR (gR (gR (gR (gR (gL hn))))))))
  | 4, _, _ => Or.inr (gL (gR (gR (gR (gR (gR (gR (gL hn))))))))
  | 5, _, _ => Or.inr (gL (gR (gR (gR (gR (gR (gR (gR (gL hn)))))))))
  | 6, _, _ => Or.inr (gR (gR (gR (gR (gR (gR (gR (gR (gL hn)))))))))
  | 7, _, hne => absurd rfl hne
  | 8, _, _ => Or.inl (gR (gR (gR (gR (gR (gL (gL (gL (gR hn)))))))))
  | 9, _, _ => Or.inl (gR (gR (gR (gR (gR (gR (gL (gL (gR hn)))))))))
  | 10, _, _ => Or.inl (gR (gL (gL (gL (gR (gR (gL (gR hn))))))))
  | 11, _, _ => Or.inl (gL (gL (gL (gL (gL (gL (gR (gR hn))))))))
  | 12, _, _ => Or.inl (gR (gR (gL (gL (gR (gL (gR (gR hn))))))))
  | 13, _, _ => Or.inl (gL (gR (gR (gL (gL (gR (gR (gR hn))))))))
  | 14, _, _ => Or.inl (gL (gL (gL (gR (gR (gR (gR (gR hn))))))))
  | n + 15, h, _ => absurd h (by omega)
theorem rg6_8 (hn : narrow_1.before args s = true) : ∀ j, j < 15 → 8 ≠ j → (Cond.not (Cond.eq (rTs 8) (rTs j))).before args s = true ∨ (Cond.not (Cond.eq (rTs j) (rTs 8))).before args s = true := fun j hj hne => match j, hj, hne with
  | 0, _, _ => Or.inr (gR (gL (gL (gR (gL (gL (gL (gR hn))))))))
  | 1, _, _ => Or.inr (gL (gR (gL (gR (gL (gL (gL (gR hn))))))))
  | 2, _, _ => Or.inr (gR (gR (gL (gR (gL (gL (gL (gR hn))))))))
  | 3, _, _ => Or.inr (gL (gL (gR (gR (gL (gL (gL (gR hn))))))))
  | 4, _, _ => Or.inr (gR (gL (gR (gR (gL (gL (gL (gR hn))))))))
  | 5, _, _ => Or.inr (gL (gR (gR (gR (gL (gL (gL (gR hn))))))))
  | 6, _, _ => Or.inr (gL (gR (gR (gR (gR (gL (gL (gL (gR hn)))))))))
  | 7, _, _ => Or.inr (gR (gR (gR (gR (gR (gL (gL (gL (gR hn)))))))))
  | 8, _, hne => absurd rfl hne
  | 9, _, _ => Or.inl (gL (gL (gL (gL (gL (gR (gL (gR hn))))))))
  | 10, _, _ => Or.inl (gL (gR (gL (gL (gR (gR (gL (gR hn))))))))
  | 11, _, _ => Or.inl (gR (gL (gL (gL (gL (gL (gR (gR hn))))))))
  | 12, _, _ => Or.inl (gL (gL (gR (gL (gR (gL (gR (gR hn))))))))
  | 13, _, _ => Or.inl (gL (gR (gR (gR (gL (gL (gR (gR (gR hn)))))))))
  | 14, _, _ => Or.inl (gR (gL (gL (gR (gR (gR (gR (gR hn))))))))
  | n + 15, h, _ => absurd h (by omega)
theorem rg6_9 (hn : narrow_1.before args s = true) : ∀ j, j < 15 → 9 ≠ j → (Cond.not (Cond.eq (rTs 9) (rTs j))).before args s = true ∨ (Cond.not (Cond.eq (rTs j) (rTs 9))).before args s = true := fun j hj hne => match j, hj, hne with
  | 0, _, _ => Or.inr (gR (gL (gL (gR (gR (gL (gL (gR hn))))))))
  | 1, _, _ => Or.inr (gL (gR (gL (gR (gR (gL (gL (gR hn))))))))
  | 2, _, _ => Or.inr (gR (gR (gL (gR (gR (gL (gL (gR hn))))))))
  | 3, _, _ => Or.inr (gL (gL (gR (gR (gR (gL (gL (gR hn))))))))
  | 4, _, _ => Or.inr (gR (gL (gR (gR (gR (gL (gL (gR hn))))))))
  | 5, _, _ => Or.inr (gL (gR (gR (gR (gR (gL (gL (gR hn))))))))
  | 6, _, _ => Or.inr (gL (gR (gR (gR (gR (gR (gL (gL (gR hn)))))))))
  | 7, _, _ => Or.inr (gR (gR (gR (gR (gR (gR (gL (gL (gR hn)))))))))
  | 8, _, _ => Or.inr (gL (gL (gL (gL (gL (gR (gL (gR hn))))))))
  | 9, _, hne => absurd rfl hne
  | 10, _, _ => Or.inl (gR (gR (gL (gL (gR (gR (gL (gR hn))))))))
  | 11, _, _ => Or.inl (gL (gR (gL (gL (gL (gL (gR (gR hn))))))))
  | 12, _, _ => Or.inl (gR (gL (gR (gL (gR (gL (gR (gR hn))))))))
  | 13, _, _ => Or.inl (gR (gR (gR (gR (gL (gL (gR (gR (gR hn)))))))))
  | 14, _, _ => Or.inl (gL (gR (gL (gR (gR (gR (gR (gR hn))))))))
  | n + 15, h, _ => absurd h (by omega)
theorem rg6_10 (hn : narrow_1.before args s = true) : ∀ j, j < 15 → 10 ≠ j → (Cond.not (Cond.eq (rTs 10) (rTs j))).before args s = true ∨ (Cond.not (Cond.eq (rTs j) (rTs 10))).before args s = true := fun j hj hne => match j, hj, hne with
  | 0, _, _ => Or.inr (gR (gR (gL (gR (gL (gR (gL (gR hn))))))))
  | 1, _, _ => Or.inr (gL (gL (gR (gR (gL (gR (gL (gR hn))))))))
  | 2, _, _ => Or.inr (gR (gL (gR (gR (gL (gR (gL (gR hn))))))))
  | 3, _, _ => Or.inr (gL (gR (gR (gR (gL (gR (gL (gR hn))))))))
  | 4, _, _ => Or.inr (gL (gR (gR (gR (gR (gL (gR (gL (gR hn)))))))))
  | 5, _, _ => Or.inr (gR (gR (gR (gR (gR (gL (gR (gL (gR hn)))))))))
  | 6, _, _ => Or.inr (gL (gL (gL (gL (gR (gR (gL (gR hn))))))))
  | 7, _, _ => Or.inr (gR (gL (gL (gL (gR (gR (gL (gR hn))))))))
  | 8, _, _ => Or.inr (gL (gR (gL (gL (gR (gR (gL (gR hn))))))))
  | 9, _, _ => Or.inr (gR (gR (gL (gL (gR (gR (gL (gR hn))))))))
  | 10, _, hne => absurd rfl hne
  | 11, _, _ => Or.inl (gR (gR (gL (gL (gL (gL (gR (gR hn))))))))
  | 12, _, _ => Or.inl (gL (gR (gR (gL (gR (gL (gR (gR hn))))))))
  | 13, _, _ => Or.inl (gL (gL (gL (gR (gL (gR (gR (gR hn))))))))
  | 14, _, _ => Or.inl (gR (gR (gL (gR (gR (gR (gR (gR hn))))))))
  | n + 15, h, _ => absurd h (by omega)
theorem rg6_11 (hn : narrow_1.before args s = true) : ∀ j, j < 15 → 11 ≠ j → (Cond.not (Cond.eq (rTs 11) (rTs j))).before args s = true ∨ (Cond.not (Cond.eq (rTs j) (rTs 11))).before args s = true := fun j hj hne => match j, hj, hne with
  | 0, _, _ => Or.inr (gL (gR (gL (gR (gR (gR (gL (gR hn))))))))
  | 1, _, _ => Or.inr (gR (gR (gL (gR (gR (gR (gL (gR hn))))))))
  | 2, _, _ => Or.inr (gL (gL (gR (gR (gR (gR (gL (gR hn))))))))
  | 3, _, _ => Or.inr (gR (gL (gR (gR (gR (gR (gL (gR hn))))))))
  | 4, _, _ => Or.inr (gL (gR (gR (gR (gR (gR (gL (gR hn))))))))
  | 5, _, _ => Or.inr (gL (gR (gR (gR (gR (gR (gR (gL (gR hn)))))))))
  | 6, _, _ => Or.inr (gR (gR (gR (gR (gR (gR (gR (gL (gR hn)))))))))
  | 7, _, _ => Or.inr (gL (gL (gL (gL (gL (gL (gR (gR hn))))))))
  | 8, _, _ => Or.inr (gR (gL (gL (gL (gL (gL (gR (gR hn))))))))
  | 9, _, _ => Or.inr (gL (gR (gL (gL (gL (gL (gR (gR hn))))))))
  | 10, _, _ => Or.inr (gR (gR (gL (gL (gL (gL (gR (gR hn))))))))
  | 11, _, hne => absurd rfl hne
  | 12, _, _ => Or.inl (gL (gR (gR (gR (gL (gR (gL (gR (gR hn)))))))))
  | 13, _, _ => Or.inl (gR (gL (gL (gR (gL (gR (gR (gR hn))))))))
  | 14, _, _ => Or.inl (gL (gL (gR (gR (gR (gR (gR (gR hn))))))))
  | n + 15, h, _ => absurd h (by omega)
theorem rg6_12 (hn : narrow_1.before args s = true) : ∀ j, j < 15 → 12 ≠ j → (Cond.not (Cond.eq (rTs 12) (rTs j))).before args s = true ∨ (Cond.not (Cond.eq (rTs j) (rTs 12))).before args s = true := fun j hj hne => match j, hj, hne with
  | 0, _, _ => Or.inr (gR (gL (gR (gR (gL (gL (gR (gR hn))))))))
  | 1, _, _ => Or.inr (gL (gR (gR (gR (gL (gL (gR (gR hn))))))))
  | 2, _, _ => Or.inr (gL (gR (gR (gR (gR (gL (gL (gR (gR hn)))))))))
  | 3, _, _ => Or.inr (gR (gR (gR (gR (gR (gL (gL (gR (gR hn)))))))))
  | 4, _, _ => Or.inr (gL (gL (gL (gL (gR (gL (gR (gR hn))))))))
  | 5, _, _ => Or.inr (gR (gL (gL (gL (gR (gL (gR (gR hn))))))))
  | 6, _, _ => Or.inr (gL (gR (gL (gL (gR (gL (gR (gR hn))))))))
  | 7, _, _ => Or.inr (gR (gR (gL (gL (gR (gL (gR (gR hn))))))))
  | 8, _, _ => Or.inr (gL (gL (gR (gL (gR (gL (gR (gR hn))))))))
  | 9, _, _ => Or.inr (gR (gL (gR (gL (gR (gL (gR (gR hn))))))))
  | 10, _, _ => Or.inr (gL (gR (gR (gL (gR (gL (gR (gR hn))))))))
  | 11, _, _ => Or.inr (gL (gR (gR (gR (gL (gR (gL (gR (gR hn)))))))))
  | 12, _, hne => absurd rfl hne
  | 13, _, _ => Or.inl (gL (gR (gL (gR (gL (gR (gR (gR hn))))))))
  | 14, _, _ => Or.inl (gR (gL (gR (gR (gR (gR (gR (gR hn))))))))
  | n + 15, h, _ => absurd h (by omega)
theorem rg6_13 (hn : narrow_1.before args s = true) : ∀ j, j < 15 → 13 ≠ j → (Cond.not (Cond.eq (rTs 13) (rTs j))).before args s = true ∨ (Cond.not (Cond.eq (rTs j) (rTs 13))).before args s = true := fun j hj hne => match j, hj, hne with
  | 0, _, _ => Or.inr (gR (gR (gR (gR (gR (gR (gL (gR (gR hn)))))))))
  | 1, _, _ => Or.inr (gL (gL (gL (gL (gL (gR (gR (gR hn))))))))
  | 2, _, _ => Or.inr (gR (gL (gL (gL (gL (gR (gR (gR hn))))))))
  | 3, _, _ => Or.inr (gL (gR (gL (gL (gL (gR (gR (gR hn))))))))
  | 4, _, _ => Or.inr (gR (gR (gL (gL (gL (gR (gR (gR hn))))))))
  | 5, _, _ => Or.inr (gL (gL (gR (gL (gL (gR (gR (gR hn))))))))
  | 6, _, _ => Or.inr (gR (gL (gR (gL (gL (gR (gR (gR hn))))))))
  | 7, _, _ => Or.inr (gL (gR (gR (gL (gL (gR (gR (gR hn))))))))
  | 8, _, _ => Or.inr (gL (gR (gR (gR (gL (gL (gR (gR (gR hn)))))))))
  | 9, _, _ => Or.inr (gR (gR (gR (gR (gL (gL (gR (gR (gR hn)))))))))
  | 10, _, _ => Or.inr (gL (gL (gL (gR (gL (gR (gR (gR hn))))))))
  | 11, _, _ => Or.inr (gR (gL (gL (gR (gL (gR (gR (gR hn))))))))
  | 12, _, _ => Or.inr (gL (gR (gL (gR (gL (gR (gR (gR hn))))))))
  | 13, _, hne => absurd rfl hne
  | 14, _, _ => Or.inl (gL (gR (gR (gR (gR (gR (gR (gR hn))))))))
  | n + 15, h, _ => absurd h (by omega)
theorem rg6_14 (hn : narrow_1.before args s = true) : ∀ j, j < 15 → 14 ≠ j → (Cond.not (Cond.eq (rTs 14) (rTs j))).before args s = true ∨ (Cond.not (Cond.eq (rTs j) (rTs 14))).before args s = true := fun j hj hne => match j, hj, hne with
  | 0, _, _ => Or.inr (gL (gR (gL (gL (gR (gR (gR (gR hn))))))))
  | 1, _, _ => Or.inr (gR (gR (gL (gL (gR (gR (gR (gR hn))))))))
  | 2, _, _ => Or.inr (gL (gL (gR (gL (gR (gR (gR (gR hn))))))))
  | 3, _, _ => Or.inr (gR (gL (gR (gL (gR (gR (gR (gR hn))))))))
  | 4, _, _ => Or.inr (gL (gR (gR (gL (gR (gR (gR (gR hn))))))))
  | 5, _, _ => Or.inr (gL (gR (gR (gR (gL (gR (gR (gR (gR hn)))))))))
  | 6, _, _ => Or.inr (gR (gR (gR (gR (gL (gR (gR (gR (gR hn)))))))))
  | 7, _, _ => Or.inr (gL (gL (gL (gR (gR (gR (gR (gR hn))))))))
  | 8, _, _ => Or.inr (gR (gL (gL (gR (gR (gR (gR (gR hn))))))))
  | 9, _, _ => Or.inr (gL (gR (gL (gR (gR (gR (gR (gR hn))))))))
  | 10, _, _ => Or.inr (gR (gR (gL (gR (gR (gR (gR (gR hn))))))))
  | 11, _, _ => Or.inr (gL (gL (gR (gR (gR (gR (gR (gR hn))))))))
  | 12, _, _ => Or.inr (gR (gL (gR (gR (gR (gR (gR (gR hn))))))))
  | 13, _, _ => Or.inr (gL (gR (gR (gR (gR (gR (gR (gR hn))))))))
  | 14, _, hne => absurd rfl hne
  | n + 15, h, _ => absurd h (by omega)
theorem rg6 (hn : narrow_1.before args s = true) : ∀ i, i < 15 → ∀ j, j < 15 → i ≠ j → (Cond.not (Cond.eq (rTs i) (rTs j))).before args s = true ∨ (Cond.not (Cond.eq (rTs j) (rTs i))).before args s = true := fun i hi => match i, hi with
  | 0, _ => rg6_0 hn
  | 1, _ => rg6_1 hn
  | 2, _ => rg6_2 hn
  | 3, _ => rg6_3 hn
  | 4, _ => rg6_4 hn
  | 5, _ => rg6_5 hn
  | 6, _ => rg6_6 hn
  | 7, _ => rg6_7 hn
  | 8, _ => rg6_8 hn
  | 9, _ => rg6_9 hn
  | 10, _ => rg6_10 hn
  | 11, _ => rg6_11 hn
  | 12, _ => rg6_12 hn
  | 13, _ => rg6_13 hn
  | 14, _ => rg6_14 hn
  | n + 15, h => absurd h (by omega)
end GIV
theorem rg7 : ∀ i, i < 15 → rLen.getD i 0 < 2 ^ 31 := by decide +kernel
def rCv (sb tU tO : Nat) (adK adV : Nat → Nat) (k : Nat) : Nat := if k = 0 then sb else if k = 1 then tU else if k = 2 then tO else if k < 40 then adK (k - 10) else adV (k - 40)
theorem rCv_K {sb tU tO : Nat} {adK adV : Nat → Nat} {i : Nat} (h : i < 15) : rCv sb tU tO adK adV (10 + i) = adK i := by
  unfold rCv
  rw [if_neg (by omega), if_neg (by omega), if_neg (by omega), if_pos (by omega), Nat.add_sub_cancel_left]
theorem rCv_V {sb tU tO : Nat} {adK adV : Nat → Nat} {i : Nat} : rCv sb tU tO adK adV (40 + i) = adV i := by
  unfold rCv
  rw [if_neg (by omega), if_neg (by omega), if_neg (by omega), if_neg (by omega), Nat.add_sub_cancel_left]
/-- the constants, at the law's start -/
theorem rCon_start {args : Array Value} {s : State} {sb L : Nat} {xs : Nat → Int32} (hts : ∀ w ∈ lw_tbl, w.before args s = true) (hX : va_X sb L xs s s.heap) (hbl : sb < s.heap.size) (hgv : (Jvm.Cond.and given_1 narrow_1).before args s = true) : ∃ (cv : Nat → Nat) (fm : Value), fm.category = 1 ∧ cv 0 = sb ∧ rCon s.heap.size cv fm (L, xs) s := by
  have hn : narrow_1.before args s = true := gR hgv
  have hA : ∀ a : Nat, a < s.heap.size → ¬ rA s.heap.size a := fun a h => by unfold rA; omega
  obtain ⟨tU, hU1, hU2⟩ := va_Tof (f := fun j => .int (rUnder.getD j 0)) (A := rA s.heap.size) (by decide) (rg1 hn).1 (va_eqt (rg1 hn).2.1) (fun j hj => va_eqt ((rg1 hn).2.2 j hj)) hA
  obtain ⟨tO, hO1, hO2⟩ := va_Tof (f := fun j => .int (rOwn.getD j 0)) (A := rA s.heap.size) (by decide) (rg2 hn).1 (va_eqt (rg2 hn).2.1) (fun j hj => va_eqt ((rg2 hn).2.2 j hj)) hA
  have hZU := va_Zof (hts _ rStU.1) (hts _ rStU.2) hU1 hA
  have hZO := va_Zof (hts _ rStO.1) (hts _ rStO.2) hO1 hA
  have hZC := va_Zof (hts _ rStC.1) (hts _ rStC.2) (va_eqi (rg3 hn).1) hA
  have hZF := va_Zqof (hts _ rStF.1) (hts _ rStF.2) (rg3 hn).2 hA
  obtain ⟨fm, hfm, hZF⟩ : ∃ fm : Value, fm.category = 1 ∧ va_Z "jdk/internal/util/Preconditions" "SIOOBE_FORMATTER" "Ljava/util/function/BiFunction;" fm (rA s.heap.size) s s.heap := by
    rcases hZF with h | ⟨t, h⟩
    · exact ⟨_, rfl, h⟩
    · exact ⟨_, rfl, h⟩
  obtain ⟨adK, adV, hS, hSe⟩ := vk_Sof (N := 15) (tm := rTs) (len := rLen) (byt := rByt) (A := rA s.heap.size) rg7 (fun i hi => (rg4 hn i hi).1) (fun i hi => (rg4 hn i hi).2.1) (fun i hi => (rg4 hn i hi).2.2.1) (fun i hi => (rg4 hn i hi).2.2.2) (fun i hi j hj => rg5 hn i hi j hj) (fun i j hi hj hij => rg6 hn i hi j hj hij) hA
  refine ⟨rCv sb tU tO adK adV, fm, hfm, rfl, ⟨hbl, hX⟩, ⟨hZU, hU2⟩, ⟨hZO, hO2⟩, hZC, hZF, ⟨fun i hi => ?_, fun i j hi hj e => ?_⟩, fun i q hq => ?_, va_Nw.of rfl (hts _ rN0_in), va_Nw.of rfl (hts _ rN1_in), va_Nw.of rfl (hts _ rN2_in), va_Nw.of rfl (hts _ rN3_in), va_Nw.of rfl (hts _ rN4_in)⟩
  · have h := hS.1 i hi
    show va_O "java/lang/String" (rCv sb tU tO adK adV (10 + i)) _ _ _ ∧ _
    dsimp only
    rw [rCv_K hi, rCv_V]
    exact h
  · dsimp only at e
    rw [rCv_K hi, rCv_K hj] at e
    exact hS.2 i j hi hj e
  · have hi : i < 15 := (List.getElem?_eq_some_iff.mp hq).1
    rw [rCv_K hi]
    have h2 := hSe i hi
    have e : rStrs.getD i (0, "") = q := by rw [List.getD_eq_getElem?_getD, hq]; rfl
    rw [show rTs i = Term.string "SampleLayers$Text" q.1 by rw [← e]] at h2
    exact vk_R.of (hts _ (rStr_in i q hq)) h2
/-- the classes and arrays, at the law's start -/
theorem rK_start {args : Array Value} {s : State} (hts : ∀ w ∈ rTT, w.before args s = true) : ∃ (D : va_G) (cI cB : ClassId), va_K D classes [(cI, .int), (cB, .byte)] s := by
  have h0 : ∀ k : Nat, ∃ q : ClassId × (Nat → Nat), k < 7 → ∀ r : vw_C, classes[k]? = some r → u_Kn s r.1 r.2.1 r.2.2 q.1 q.2 := by
    intro k
    by_cases hk : k < 7
    · obtain ⟨C, T, N, ty, hKc⟩ := rKcl k hk
      obtain ⟨cC, iS, h⟩ := u_known (C := C) (T := T) (N := N) (n := N) hts hKc.2.2.1 (hts _ hKc.2.2.2.2.2.2.1)
      refine ⟨(cC, iS), fun _ r hr => ?_⟩
      cases hKc.1.symm.trans hr
      exact h
    · exact ⟨(0, fun _ => 0), fun h => absurd h hk⟩
  obtain ⟨f, hf⟩ := Classical.axiomOfChoice h0
  obtain ⟨cI, kI, compI, i1, i2, i3⟩ := Cond.arrayClass_spec (hts _ rArrI)
  obtain ⟨cB, kB, compB, b1, b2, b3⟩ := Cond.arrayClass_spec (hts _ rArrB)
  refine ⟨(fun k => (f k).1, fun k => (f k).2), cI, cB, fun k r hr => hf k ((List.getElem?_eq_some_iff.mp hr).1) r hr, fun k q hq => ?_⟩
  match k, hq with
  | 0, hq =>
    cases hq
    exact ⟨fun n z => ⟨fun k h => (by cases h), kI, i2, compI, i3⟩, i1⟩
  | 1, hq =>
    cases hq
    exact ⟨fun n z => ⟨fun k h => (by cases h), kB, b2, compB, b3⟩, b1⟩
  | k + 2, hq => cases hq
/-! THE CLAIM OUT OF ONE WALK OF THE LAW'S BODY. Your part is whole_start (and what it stands on); all else here is the same for every law, but numbers. -/
def R_law : String := "SampleLayersLaw"
def lw_P (b : Addr) (xs : List Int32) (args : Array Value) (s : State) : Prop := args = #[.ref b] ∧ s.IntsAt b xs ∧ xs.length ≤ 2560 ∧ (Jvm.Cond.and given_1 narrow_1).before args s = true
def lw_Q (_ : Array Value) (s : State) (o : Outcome) (t : State) : Prop := o = .returned (some (.int 1)) ∧ Framed s o t [] 600000 7302250
def lw_Z (below : List Frame) (a : Array Value) (s : State) : State → Prop := fun t => ∃ o, t.status = .running ∧ Ended t below o ∧ lw_Q a s o t
/-- the law's own end, with 1 on the stack, nothing written that was there before, its room as the claim has it -/
theorem lw_ret {p : Program} {l : Launch} {e : Env} {s : State} {m : MethodId} {below : List Frame} {meth : Method} {c : Code} {b : Nat} (hx : p.tables.exec = Jvm.exec) (hb : c.code = code) (hr : meth.sig.returnType = ret) (hlocks : meth.locks = false) {pc : Nat} {H : Heap} {ls : Array Slot} (hdg : decode code pc = .ok (.ireturn, 1)) : W p l e room_1 s m #[Value.ref b] below meth c H [] 600000 7302250 (lw_Z below #[Value.ref b] s) (F0 m pc ls [.int 1]) := by
  intro T hT X
  obtain ⟨fs, hret, hrun, hended, hW, hframe⟩ := X.leave (v := some (.int 1)) (hlocks := hlocks) (fun h => by rw [hr] at h; cases h)
  have hmeth' : T.vm.method? m = some meth := X.method'
  refine ⟨T.setFrames fs, ?_, .returned (some (.int 1)), hrun, hended, rfl, ⟨_, rfl⟩, hW, hframe⟩
  jvm_step X.here [X.here.top, hx, hb, hdg, hmeth', hr, ret, narrow_b1]
  (try refine ⟨rfl, ?_⟩); (try refine ⟨rfl, ?_⟩)
  first | (intro acts; rw [hret _ acts rfl rfl rfl]) | rw [hret _ _ rfl rfl rfl]
  exact Steps.refl _
/-- what holds at the law's entry: the machine, the code, the tables' words (any of lw_tbl by 'hts w (by decide +kernel)'), the script of L ints xs at the cell b, what the Statement gives of the start (any of its parts by flat_of_before) -/
def lw_At (p : Program) (s : State) (m : MethodId) (meth : Method) (c : Code) (b L : Nat) (xs : Nat → Int32) : Prop :=
  p.tables.exec = Jvm.exec ∧ c.code = code ∧ meth.sig.returnType = ret ∧ c.maxLocals = 4 ∧ s.vm.findClass R_law = some m.cls ∧ (∀ w ∈ lw_tbl, w.before #[Value.ref b] s = true) ∧ va_X b L xs s s.heap ∧ b < s.heap.size ∧ meth.locks = false ∧ (Jvm.Cond.and given_1 narrow_1).before #[Value.ref b] s = true
set_option maxHeartbeats 1000000 in
theorem whole_of_R (hRR : ∀ (L : Nat) (xs : Nat → Int32), L ≤ 2560 → ∀ h : rHp, rR (L, xs) (rCall (L, xs) 40) mLw_law (fun v _ _ => v = some (pI 1)) 0 [some (pC 0), none, none, none] [] [] h 0 0) {p : Program} {e : Env} {s : State} {m : MethodId} {below : List Frame} {meth : Method} {c : Code} (l : Launch) {b L : Nat} {xs : Nat → Int32} (hL : L ≤ 2560) (C0 : lw_At p s m meth c b L xs) : W p l e room_1 s m #[Value.ref b] below meth c s.heap [] 0 0 (lw_Z below #[Value.ref b] s) (entryFrame m ([Value.ref b] : List Value).toArray 4) := by
  obtain ⟨hx, hb, hr, hml, hown, hts, hX, hbl, hlocks, hgv⟩ := C0
  have htt : ∀ w ∈ rTT, w.before #[Value.ref b] s = true := fun w hw => hts w (List.mem_filter.mp hw).1
  obtain ⟨cv, fm, hfm, hcv, hcon⟩ := rCon_start hts hX hbl hgv
  obtain ⟨D, cI, cB, hK⟩ := rK_start htt
  have hl := lv_entry ([.ref b]) (n := 4) (Nat.le_of_ble_eq_true rfl)
  rw [lg_entry_eq]
  generalize (lg_sl ([.ref b]) ++ List.replicate (4 - (lg_sl ([.ref b])).length) Slot.unset).toArray = la at hl ⊢
  have hLH : rLH s.heap.size cv fm la [some (pC 0), none, none, none] := by
    refine ⟨hl.1, hl.2.1, fun i v hv => ?_⟩
    match i, hv with
    | 0, hv =>
      cases hv
      have h := hl.2.2 (0, .ref b) List.mem_cons_self
      show la[0]? = some (.val (if (0 : Nat) = 3 then fm else .ref (cv 0)))
      rw [if_neg (by decide), hcv]
      exact h
    | 1, hv => cases hv
    | 2, hv => cases hv
    | 3, hv => cases hv
    | i + 4, hv => cases hv
  have C : rCx p room_1 s m #[Value.ref b] meth c code mLw_law (L, xs) D cI cB s.heap.size cv fm 40 := by
    refine ⟨hx, hb, hml, hown, htt, hK, Nat.le_refl _, hcon, hfm, (fun h => by cases h), ⟨Nat.le_of_ble_eq_true rfl, Nat.le_of_ble_eq_true rfl, Nat.le_of_ble_eq_true rfl, Nat.le_of_ble_eq_true rfl⟩, rcLaw⟩
  have hP : va_P D classes (rW s.heap.size cI cB [] (fun _ _ => 0)) s.heap := fun k q h => by simp [rW, rWf] at h
  refine rG_body (Post := fun v _ _ => v = some (pI 1)) C (rMet_ok hfm rCodes 40) ?_ ?_ ?_ (hRR L xs hL (fun _ _ => 0)) s.heap [] la hP rfl va_S.rf hLH rfl
  · intro x ty pc sh h n k H locs la hret hty hn hd hpost hn1 hk1 hP1 hS1
    cases hpost
    refine va_forget hS1.2.2 (W.widen (k := 600000) (n := 7302250) (Nat.le_trans hn1 (Nat.le_of_ble_eq_true rfl)) (Nat.le_trans hk1 (Nat.le_of_ble_eq_true rfl)) ?_)
    exact lw_ret hx hb hr hlocks hd
  · intro x pc sh h n k H locs la hret
    cases hret
  · intro pc sh h n k H locs la hret
    cases hret
