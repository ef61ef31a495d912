/-! the forms of stacks, locals, cells: what they say when they hold -/
theorem sI_ok {st : List rPV} {f : Int32 → List rPV → Prop} (H : sI st f) : ∃ x r, st = pI x :: r ∧ f x r := by
  unfold sI at H; split at H
  · exact ⟨_, _, rfl, H⟩
  · exact H.elim
theorem sL_ok {st : List rPV} {f : Int64 → List rPV → Prop} (H : sL st f) : ∃ x r, st = pL x :: r ∧ f x r := by
  unfold sL at H; split at H
  · exact ⟨_, _, rfl, H⟩
  · exact H.elim
theorem sR_ok {st : List rPV} {f : Nat → List rPV → Prop} (H : sR st f) : ∃ x r, st = pR x :: r ∧ f x r := by
  unfold sR at H; split at H
  · exact ⟨_, _, rfl, H⟩
  · exact H.elim
theorem sRC_ok {st : List rPV} {f g : Nat → List rPV → Prop} (H : sRC st f g) : (∃ x r, st = pR x :: r ∧ f x r) ∨ ∃ x r, st = pC x :: r ∧ g x r := by
  unfold sRC at H; split at H
  · exact Or.inl ⟨_, _, rfl, H⟩
  · exact Or.inr ⟨_, _, rfl, H⟩
  · exact H.elim
theorem sV_ok {st : List rPV} {f : rPV → List rPV → Prop} (H : sV st f) : ∃ v r, st = v :: r ∧ (∀ x, v ≠ pL x) ∧ f v r := by
  unfold sV at H; split at H
  · exact ⟨_, _, rfl, (fun x e => by cases e), H⟩
  · exact ⟨_, _, rfl, (fun x e => by cases e), H⟩
  · exact H.elim
theorem sN_ok {st : List rPV} {P : Prop} (H : sN st P) : st = [] ∧ P := by
  unfold sN at H; split at H
  · exact ⟨rfl, H⟩
  · exact H.elim
theorem lI_ok {ls : rLs} {j : Nat} {f : Int32 → Prop} (H : lI ls j f) : ∃ x, rNth ls j = some (some (pI x)) ∧ f x := by
  unfold lI at H; split at H
  · exact ⟨_, by assumption, H⟩
  · exact H.elim
theorem lL_ok {ls : rLs} {j : Nat} {f : Int64 → Prop} (H : lL ls j f) : ∃ x, rNth ls j = some (some (pL x)) ∧ f x := by
  unfold lL at H; split at H
  · exact ⟨_, by assumption, H⟩
  · exact H.elim
theorem lRC_ok {ls : rLs} {j : Nat} {f g : Nat → Prop} (H : lRC ls j f g) : (∃ x, rNth ls j = some (some (pR x)) ∧ f x) ∨ ∃ x, rNth ls j = some (some (pC x)) ∧ x ≠ 3 ∧ g x := by
  unfold lRC at H; split at H
  · exact Or.inl ⟨_, by assumption, H⟩
  · rename_i c hc
    cases hb : Nat.beq c 3 with
    | true => rw [hb] at H; exact H.elim
    | false =>
      rw [hb] at H
      exact Or.inr ⟨_, hc, (fun e => by subst e; cases hb), H⟩
  · exact H.elim
theorem oM_ok {α : Type} {o : Option α} {f : α → Prop} (H : oM o f) : ∃ v, o = some v ∧ f v := by
  unfold oM at H; split at H
  · exact ⟨_, rfl, H⟩
  · exact H.elim
theorem oE_ok {α : Type} {o : Option α} {f : α → Prop} {P : Prop} (H : oE o f P) : (∃ v, o = some v ∧ f v) ∨ (o = none ∧ P) := by
  unfold oE at H; split at H
  · exact Or.inl ⟨_, rfl, H⟩
  · exact Or.inr ⟨rfl, H⟩
theorem fO_ok {sh : rSh} {a ci : Nat} {f : List (Option (Option Nat)) → Prop} (H : fO sh a ci f) : ∃ sl, sh[a]? = some (.inl (ci, sl)) ∧ f sl := by
  unfold fO at H; split at H
  · rename_i cj sl hc
    rw [rNth_eq] at hc
    cases hb : Nat.beq ci cj with
    | false => rw [hb] at H; exact H.elim
    | true =>
      rw [hb] at H
      have e := Nat.eq_of_beq_eq_true hb
      subst e
      exact ⟨sl, hc, H⟩
  · exact H.elim
theorem fA_ok {sh : rSh} {a : Nat} {f g : Nat → Prop} (H : fA sh a f g) : (∃ m, sh[a]? = some (.inr (false, m)) ∧ f m) ∨ ∃ m, sh[a]? = some (.inr (true, m)) ∧ g m := by
  unfold fA at H; split at H
  · rename_i m hc
    rw [rNth_eq] at hc
    exact Or.inl ⟨m, hc, H⟩
  · rename_i m hc
    rw [rNth_eq] at hc
    exact Or.inr ⟨m, hc, H⟩
  · exact H.elim
theorem fS_ok {sl : List (Option (Option Nat))} {j : Nat} {P : Prop} {g : Option Nat → Prop} (H : fS sl j P g) : (sl[j]? = some none ∧ P) ∨ ∃ o, sl[j]? = some (some o) ∧ g o := by
  unfold fS at H; split at H
  · rename_i hc
    rw [rNth_eq] at hc
    exact Or.inl ⟨hc, H⟩
  · rename_i o hc
    rw [rNth_eq] at hc
    exact Or.inr ⟨o, hc, H⟩
  · exact H.elim
theorem bB_ok {b : Bool} {P : Prop} (H : bB b P) : b = true ∧ P := by
  cases b with
  | true => exact ⟨rfl, H⟩
  | false => exact H.elim
theorem rBk_ok {n k : Nat} {M : rM} {P : Prop} (H : rBk n k M P) : n ≤ M.2.2.2.2.2.1 ∧ k ≤ M.2.2.2.2.2.2.1 ∧ P := by
  unfold rBk at H
  cases hb : (Nat.ble n M.2.2.2.2.2.1 && Nat.ble k M.2.2.2.2.2.2.1) with
  | false => rw [hb] at H; exact H.elim
  | true =>
    rw [hb] at H
    rw [Bool.and_eq_true] at hb
    exact ⟨Nat.le_of_ble_eq_true hb.1, Nat.le_of_ble_eq_true hb.2, H⟩
theorem rSt_ok {c i : Nat} (h : rSt c = some i) : c = 10 + i ∧ i < 15 := by
  unfold rSt at h
  cases hb : (Nat.ble 10 c && Nat.blt c 25) with
  | false => rw [hb] at h; cases h
  | true =>
    rw [hb] at h
    cases h
    rw [Bool.and_eq_true] at hb
    have h1 := Nat.le_of_ble_eq_true hb.1
    have h2 : c < 25 := Nat.le_of_ble_eq_true hb.2
    omega
theorem rSb_ok {c i : Nat} (h : rSb c = some i) : c = 40 + i ∧ i < 15 := by
  unfold rSb at h
  cases hb : (Nat.ble 40 c && Nat.blt c 55) with
  | false => rw [hb] at h; cases h
  | true =>
    rw [hb] at h
    cases h
    rw [Bool.and_eq_true] at hb
    have h1 := Nat.le_of_ble_eq_true hb.1
    have h2 : c < 55 := Nat.le_of_ble_eq_true hb.2
    omega
theorem rPop_ok : ∀ (n : Nat) (st acc as r : List rPV), rPop n st acc = some (as, r) → ∃ pre, pre.length = n ∧ st = pre ++ r ∧ as = pre.reverse ++ acc
  | 0, st, acc, as, r, h => by
    simp only [rPop, Option.some.injEq, Prod.mk.injEq] at h
    exact ⟨[], rfl, by rw [h.2]; rfl, by rw [← h.1]; rfl⟩
  | n + 1, [], acc, as, r, h => by simp [rPop] at h
  | n + 1, v :: st, acc, as, r, h => by
    obtain ⟨pre, h1, h2, h3⟩ := rPop_ok n st (v :: acc) as r h
    exact ⟨v :: pre, by simp [h1], by rw [h2]; rfl, by rw [h3]; simp⟩
theorem rFet_ok : ∀ (l : List (Nat × Instr × Nat)) (pc : Nat) (q : Instr × Nat), rFet l pc = some q → (pc, q) ∈ l
  | [], pc, q, h => by simp [rFet] at h
  | (a, b) :: l, pc, q, h => by
    unfold rFet at h
    cases hb : Nat.beq a pc with
    | true =>
      rw [hb] at h
      have e := Nat.eq_of_beq_eq_true hb
      subst e
      cases h
      exact List.mem_cons_self
    | false =>
      rw [hb] at h
      exact List.mem_cons_of_mem _ (rFet_ok l pc q h)
theorem rLk_ok {α : Type} : ∀ (l : List (Nat × α)) (k : Nat) (v : α), rLk l k = some v → (k, v) ∈ l
  | [], k, v, h => by simp [rLk] at h
  | (a, b) :: l, k, v, h => by
    unfold rLk at h
    cases hb : Nat.beq a k with
    | true =>
      rw [hb] at h
      have e := Nat.eq_of_beq_eq_true hb
      subst e
      cases h
      exact List.mem_cons_self
    | false =>
      rw [hb] at h
      exact List.mem_cons_of_mem _ (rLk_ok l k v h)
theorem rLk2_ok {α : Type} {t : List (List (Nat × α))} {c k : Nat} {v : α} (h : rLk2 t c k = some v) : ∃ l, t[c]? = some l ∧ (k, v) ∈ l := by
  unfold rLk2 at h
  split at h
  · cases h
  · rename_i l hl
    rw [rNth_eq] at hl
    exact ⟨l, hl, rLk_ok l k v h⟩
/-- how long an instruction is -/
def rLenI : Instr → Nat
  | .bipush _ | .ldc _ | .iload _ | .lload _ | .istore _ | .lstore _ | .newarray _ => 2
  | .sipush _ | .ldc_w _ | .ldc2_w _ | .iinc _ _ | .ifCond _ _ | .if_icmp _ _ | .goto _ | .getfield _ | .putfield _ | .getstatic _ | .new _ | .invokevirtual _ | .invokestatic _ | .invokespecial _ => 3
  | .tableswitch .. | .lookupswitch .. => 0
  | _ => 1
/-! locals -/
def rLH (b : Nat) (cv : Nat → Nat) (fm : Value) (la : Array Slot) (ls : rLs) : Prop := la.size = ls.length ∧ lv_wf la ∧ ∀ (i : Nat) (v : rPV), rNth ls i = some (some v) → la[i]? = some (.val (rV b cv fm v))
def rLv (b : Nat) (cv : Nat → Nat) (fm : Value) : rLs → Nat → List (Nat × Value)
  | [], _ => []
  | none :: l, k => rLv b cv fm l (k + 1)
  | some v :: l, k => (k, rV b cv fm v) :: rLv b cv fm l (k + 1)
theorem rLv_mem {b : Nat} {cv : Nat → Nat} {fm : Value} : ∀ (ls : rLs) (k : Nat) (q : Nat × Value), q ∈ rLv b cv fm ls k → ∃ i v, ls[i]? = some (some v) ∧ q = (k + i, rV b cv fm v)
  | [], k, q, h => by cases h
  | none :: l, k, q, h => by
    obtain ⟨i, v, h1, h2⟩ := rLv_mem l (k + 1) q h
    exact ⟨i + 1, v, by simpa using h1, by rw [h2, show k + 1 + i = k + (i + 1) by omega]⟩
  | some w :: l, k, q, h => by
    rcases List.mem_cons.mp h with rfl | h
    · exact ⟨0, w, rfl, rfl⟩
    · obtain ⟨i, v, h1, h2⟩ := rLv_mem l (k + 1) q h
      exact ⟨i + 1, v, by simpa using h1, by rw [h2, show k + 1 + i = k + (i + 1) by omega]⟩
theorem rLv_of {b : Nat} {cv : Nat → Nat} {fm : Value} : ∀ (ls : rLs) (k i : Nat) (v : rPV), ls[i]? = some (some v) → (k + i, rV b cv fm v) ∈ rLv b cv fm ls k
  | [], k, i, v, h => by simp at h
  | none :: l, k, 0, v, h => by simp at h
  | some w :: l, k, 0, v, h => by
    simp only [List.getElem?_cons_zero, Option.some.injEq] at h
    subst h
    exact List.mem_cons_self
  | none :: l, k, i + 1, v, h => by
    have := rLv_of (b := b) (cv := cv) (fm := fm) l (k + 1) i v (by simpa using h)
    rw [show k + 1 + i = k + (i + 1) by omega] at this
    exact this
  | some w :: l, k, i + 1, v, h => by
    have := rLv_of (b := b) (cv := cv) (fm := fm) l (k + 1) i v (by simpa using h)
    rw [show k + 1 + i = k + (i + 1) by omega] at this
    exact List.mem_cons_of_mem _ this
theorem rLH_has {b : Nat} {cv : Nat → Nat} {fm : Value} {la : Array Slot} {ls : rLs} (h : rLH b cv fm la ls) : lv_has la ls.length (rLv b cv fm ls 0) := by
  refine ⟨h.1, h.2.1, fun q hq => ?_⟩
  obtain ⟨i, v, h1, rfl⟩ := rLv_mem ls 0 q hq
  rw [Nat.zero_add]
  exact h.2.2 i v (by rw [rNth_eq]; exact h1)
theorem rKill_len (ls : rLs) (i : Nat) : (rKill ls i).length = ls.length := by
  cases i with
  | zero => rfl
  | succ i =>
    show (match rNth ls i with | some (some (.inr (.inl _))) => ls.set i none | _ => ls).length = ls.length
    split <;> simp
theorem rKill_get {ls : rLs} {i j : Nat} {v : rPV} (h : (rKill ls i)[j]? = some (some v)) : ls[j]? = some (some v) ∧ ¬ (j + 1 = i ∧ ∃ x, v = pL x) := by
  cases i with
  | zero => exact ⟨h, fun z => by omega⟩
  | succ i =>
    change (match rNth ls i with | some (some (.inr (.inl _))) => ls.set i none | _ => ls)[j]? = some (some v) at h
    split at h
    · rename_i x hx
      rw [List.getElem?_set] at h
      by_cases hij : i = j
      · subst hij
        rw [if_pos rfl] at h
        split at h <;> cases h
      · rw [if_neg hij] at h
        exact ⟨h, fun z => hij (by omega)⟩
    · rename_i hx
      refine ⟨h, fun ⟨z, x, hv⟩ => ?_⟩
      have e : j = i := by omega
      subst e
      subst hv
      exact hx x (by rw [rNth_eq]; exact h)
theorem rV_cat {b : Nat} {cv : Nat → Nat} {fm : Value} (hfm : fm.category = 1) (v : rPV) (h : (rV b cv fm v).category = 2) : ∃ x, v = pL x := by
  rcases v with x | x | ⟨_ | i⟩ | c
  · cases h
  · exact ⟨x, rfl⟩
  · cases h
  · cases h
  · change (if c = 3 then fm else Value.ref (cv c)).category = 2 at h
    by_cases hc : c = 3
    · rw [if_pos hc] at h; omega
    · rw [if_neg hc] at h; cases h
theorem rLH_set1 {b : Nat} {cv : Nat → Nat} {fm : Value} (hfm : fm.category = 1) {la' : Array Slot} {ls : rLs} {i : Nat} {v : rPV} (hi : i < ls.length) (h : lv_has la' ls.length ((i, rV b cv fm v) :: (rLv b cv fm ls 0).filter (fun q => !(q.1 == i) && !(q.1 + 1 == i && q.2.category == 2)))) : rLH b cv fm la' (rSet1 ls i v) := by
  refine ⟨?_, h.2.1, fun j w hw => ?_⟩
  · rw [h.1]; simp [rSet1, rKill_len]
  · rw [rNth_eq, rSet1, List.getElem?_set] at hw
    by_cases hj : i = j
    · subst hj
      rw [if_pos rfl, if_pos (by rw [rKill_len]; exact hi)] at hw
      cases hw
      exact h.2.2 (i, rV b cv fm v) List.mem_cons_self
    · rw [if_neg hj] at hw
      obtain ⟨h1, h2⟩ := rKill_get hw
      have hm := rLv_of (b := b) (cv := cv) (fm := fm) ls 0 j w h1
      rw [Nat.zero_add] at hm
      refine h.2.2 (j, rV b cv fm w) (List.mem_cons_of_mem _ (List.mem_filter.mpr ⟨hm, ?_⟩))
      have a1 : (j == i) = false := by simpa using fun e => hj e.symm
      have a2 : (j + 1 == i && (rV b cv fm w).category == 2) = false := by
        rw [Bool.and_eq_false_iff]
        by_cases hz : j + 1 = i
        · right
          cases hc : ((rV b cv fm w).category == 2) with
          | false => rfl
          | true => exact absurd ⟨hz, rV_cat hfm w (by simpa using hc)⟩ h2
        · left; simpa using hz
      simp only [a1, a2]
      rfl
theorem rLH_set2 {b : Nat} {cv : Nat → Nat} {fm : Value} (hfm : fm.category = 1) {la' : Array Slot} {ls : rLs} {i : Nat} {x : Int64} (hi : i + 1 < ls.length) (h : lv_has la' ls.length ((i, Value.long x) :: (rLv b cv fm ls 0).filter (fun q => !(q.1 == i) && (!(q.1 == i + 1) && !(q.1 + 1 == i && q.2.category == 2))))) : rLH b cv fm la' (rSet2 ls i x) := by
  refine ⟨?_, h.2.1, fun j w hw => ?_⟩
  · rw [h.1]; simp [rSet2, rKill_len]
  · rw [rNth_eq, rSet2, List.getElem?_set] at hw
    by_cases hj : i + 1 = j
    · rw [if_pos hj] at hw
      split at hw <;> cases hw
    · rw [if_neg hj, List.getElem?_set] at hw
      by_cases hj2 : i = j
      · subst hj2
        rw [if_pos rfl, if_pos (by rw [rKill_len]; omega)] at hw
        cases hw
        exact h.2.2 (i, Value.long x) List.mem_cons_self
      · rw [if_neg hj2] at hw
        obtain ⟨h1, h2⟩ := rKill_get hw
        have hm := rLv_of (b := b) (cv := cv) (fm := fm) ls 0 j w h1
        rw [Nat.zero_add] at hm
        refine h.2.2 (j, rV b cv fm w) (List.mem_cons_of_mem _ (List.mem_filter.mpr ⟨hm, ?_⟩))
        have a1 : (j == i) = false := by simpa using fun e => hj2 e.symm
        have a3 : (j == i + 1) = false := by simpa using fun e => hj e.symm
        have a2 : (j + 1 == i && (rV b cv fm w).category == 2) = false := by
          rw [Bool.and_eq_false_iff]
          by_cases hz : j + 1 = i
          · right
            cases hc : ((rV b cv fm w).category == 2) with
            | false => rfl
            | true => exact absurd ⟨hz, rV_cat hfm w (by simpa using hc)⟩ h2
          · left; simpa using hz
        simp only [a1, a2, a3]
        rfl
theorem rSet1_len (ls : rLs) (i : Nat) (v : rPV) : (rSet1 ls i v).length = ls.length := by simp [rSet1, rKill_len]
theorem rSet2_len (ls : rLs) (i : Nat) (x : Int64) : (rSet2 ls i x).length = ls.length := by simp [rSet2, rKill_len]
theorem rEnt_ok {b : Nat} {cv : Nat → Nat} {fm : Value} (hfm : fm.category = 1) : ∀ (as : List rPV) (k i : Nat) (v : rPV), (rEnt as)[i]? = some (some v) → (k + i, rV b cv fm v) ∈ lv_args k (as.map (rV b cv fm))
  | [], k, i, v, h => by simp [rEnt] at h
  | .inl x :: l, k, 0, v, h => by
    simp only [rEnt, List.getElem?_cons_zero, Option.some.injEq] at h
    subst h
    exact List.mem_cons_self
  | .inl x :: l, k, i + 1, v, h => by
    have := rEnt_ok (b := b) (cv := cv) hfm l (k + 1) i v (by simpa [rEnt] using h)
    rw [show k + 1 + i = k + (i + 1) by omega] at this
    exact List.mem_cons_of_mem _ this
  | .inr (.inl x) :: l, k, 0, v, h => by
    simp only [rEnt, List.getElem?_cons_zero, Option.some.injEq] at h
    subst h
    exact List.mem_cons_self
  | .inr (.inl x) :: l, k, 1, v, h => by simp [rEnt] at h
  | .inr (.inl x) :: l, k, i + 2, v, h => by
    have := rEnt_ok (b := b) (cv := cv) hfm l (k + 2) i v (by simpa [rEnt] using h)
    rw [show k + 2 + i = k + (i + 2) by omega] at this
    exact List.mem_cons_of_mem _ this
  | .inr (.inr x) :: l, k, i + 1, v, h => by
    have := rEnt_ok (b := b) (cv := cv) hfm l (k + 1) i v (by simpa [rEnt] using h)
    rw [show k + 1 + i = k + (i + 1) by omega] at this
    have hc : (rV b cv fm (.inr (.inr x))).category = 1 := by
      rcases lv_cat (rV b cv fm (.inr (.inr x))) with e | e
      · exact e
      · obtain ⟨y, hy⟩ := rV_cat hfm _ e
        cases hy
    simp only [List.map_cons, lv_args, hc]
    exact List.mem_cons_of_mem _ this
  | .inr (.inr x) :: l, k, 0, v, h => by
    simp only [rEnt, List.getElem?_cons_zero, Option.some.injEq] at h
    subst h
    exact List.mem_cons_self
theorem rEnt_len {b : Nat} {cv : Nat → Nat} {fm : Value} (hfm : fm.category = 1) : ∀ (as : List rPV), (lg_sl (as.map (rV b cv fm))).length = (rEnt as).length
  | [] => rfl
  | .inl x :: l => by
    have := rEnt_len (b := b) (cv := cv) hfm l
    simp only [lg_sl, List.map_cons, List.flatMap_cons, List.length_append, rEnt, List.length_cons] at this ⊢
    rw [this]
    show 1 + _ = _
    omega
  | .inr (.inl x) :: l => by
    have := rEnt_len (b := b) (cv := cv) hfm l
    simp only [lg_sl, List.map_cons, List.flatMap_cons, List.length_append, rEnt, List.length_cons] at this ⊢
    rw [this]
    show 2 + _ = _
    omega
  | .inr (.inr x) :: l => by
    have := rEnt_len (b := b) (cv := cv) hfm l
    have hc : (rV b cv fm (.inr (.inr x))).category = 1 := by
      rcases lv_cat (rV b cv fm (.inr (.inr x))) with e | e
      · exact e
      · obtain ⟨y, hy⟩ := rV_cat hfm _ e
        cases hy
    simp only [lg_sl, List.map_cons, List.flatMap_cons, List.length_append, rEnt, List.length_cons, hc] at this ⊢
    rw [this]
    show 1 + _ = _
    omega
