/-! one step of R is a step of the machine -/
def rA (b : Nat) : Nat → Prop := fun q => b ≤ q
/-- the constants: what holds of the cells below b, and of the tables -/
def rCon (b : Nat) (cv : Nat → Nat) (fm : Value) (E : rE) (U : State) : Prop :=
  (cv 0 < b ∧ va_X (cv 0) E.1 E.2 U U.heap) ∧
  (va_Z "SampleLayers" "UNDER" "[I" (.ref (cv 1)) (rA b) U U.heap ∧ va_T .int (cv 1) 6 (fun j => .int (rUnder.getD j 0)) (rA b) U U.heap) ∧
  (va_Z "SampleLayers$Acts" "OWN_BODIES" "[I" (.ref (cv 2)) (rA b) U U.heap ∧ va_T .int (cv 2) 24 (fun j => .int (rOwn.getD j 0)) (rA b) U U.heap) ∧
  va_Z "java/lang/String" "COMPACT_STRINGS" "Z" (.int 1) (rA b) U U.heap ∧
  va_Z "jdk/internal/util/Preconditions" "SIOOBE_FORMATTER" "Ljava/util/function/BiFunction;" fm (rA b) U U.heap ∧
  vk_S 15 rLen rByt (fun i => cv (10 + i)) (fun i => cv (40 + i)) (rA b) U U.heap ∧
  (∀ (i : Nat) (q : Nat × String), rStrs[i]? = some q → vk_R "SampleLayers$Text" q.1 q.2 (cv (10 + i)) U) ∧
  (va_Nw rN0 U ∧ va_Nw rN1 U ∧ va_Nw rN2 U ∧ va_Nw rN3 U ∧ va_Nw rN4 U)
theorem rCon_call {b : Nat} {cv : Nat → Nat} {fm : Value} {E : rE} {s U : State} {H : Heap} {locs : List Loc} (hb : b ≤ s.heap.size) (h : rCon b cv fm E s) (hS : va_S (rA b) s.heap H locs) (hU : U.heap = H) (hW : s.WarmedH U.vm) : rCon b cv fm E U := by
  obtain ⟨⟨h0, h1⟩, ⟨h2, h3⟩, ⟨h4, h5⟩, h6, h7, h8, h9, n0, n1, n2, n3, n4⟩ := h
  have hq := hS.2.1
  subst hU
  refine ⟨⟨h0, (h1.kept (hq _ (by omega) (by unfold rA; omega))).moved hW.alike⟩, ⟨(h2.kept hq).moved hW.alike, (h3.kept hq).moved hW.alike⟩, ⟨(h4.kept hq).moved hW.alike, (h5.kept hq).moved hW.alike⟩, (h6.kept hq).moved hW.alike, (h7.kept hq).moved hW.alike, (h8.kept hq).moved hW.alike, fun i q hi => (h9 i q hi).warm hW, n0.warmM hW, n1.warmM hW, n2.warmM hW, n3.warmM hW, n4.warmF hW⟩
theorem rCon_blind {b : Nat} {cv : Nat → Nat} {fm : Value} {E : rE} {U : State} (g : JFrame) (mk : MethodId) (a : Array Value) (h : rCon b cv fm E U) : rCon b cv fm E (U.calling g mk a) := by
  obtain ⟨⟨h0, h1⟩, ⟨h2, h3⟩, ⟨h4, h5⟩, h6, h7, h8, h9, n0, n1, n2, n3, n4⟩ := h
  have hr : U.vm.Alike (U.calling g mk a).vm := Vm.Alike.refl U.vm
  exact ⟨⟨h0, h1.moved (U := U.calling g mk a) hr⟩, ⟨h2.moved (U := U.calling g mk a) hr, h3.moved (U := U.calling g mk a) hr⟩, ⟨h4.moved (U := U.calling g mk a) hr, h5.moved (U := U.calling g mk a) hr⟩, h6.moved (U := U.calling g mk a) hr, h7.moved (U := U.calling g mk a) hr, h8.moved (U := U.calling g mk a) hr, fun i q hi => (h9 i q hi).same (U := U.calling g mk a) rfl, n0.same (U := U.calling g mk a) rfl rfl, n1.same (U := U.calling g mk a) rfl rfl, n2.same (U := U.calling g mk a) rfl rfl, n3.same (U := U.calling g mk a) rfl rfl, n4.same (U := U.calling g mk a) rfl rfl⟩
/-- offsets and lengths of a method's instructions -/
def rOff (pc : Nat) : Instr → Bool
  | .ifCond _ o | .if_icmp _ o | .goto o => decide (0 ≤ (pc : Int) + o)
  | .tableswitch d lo hi os => decide (0 ≤ (pc : Int) + d) && (os.toList.all (fun o => decide (0 ≤ (pc : Int) + o)) && (decide (hi + 1 = lo + (os.toList.length : Int)) && (decide (-2147483648 ≤ lo) && decide (hi < 2147483647))))
  | .lookupswitch d ps => decide (0 ≤ (pc : Int) + d) && (ps.toList.all (fun o => decide (0 ≤ (pc : Int) + o.2) && (decide (-2147483648 ≤ o.1) && decide (o.1 < 2147483648))) && (ps.toList.zip (ps.toList.drop 1)).all (fun (a, next) => a.1 < next.1))
  | _ => true
def rChk (pc : Nat) (i : Instr) (len : Nat) : Bool := (Nat.beq (rLenI i) 0 || Nat.beq len (rLenI i)) && rOff pc i
def rCode (l : List (Nat × Instr × Nat)) (cc : ByteArray) : Prop := ∀ q ∈ l, decode cc q.1 = .ok q.2 ∧ rChk q.1 q.2.1 q.2.2 = true
theorem rChk_len {pc len : Nat} {i : Instr} (h : rChk pc i len = true) (h0 : rLenI i ≠ 0) : len = rLenI i := by
  unfold rChk at h
  rw [Bool.and_eq_true, Bool.or_eq_true] at h
  rcases h.1 with z | z
  · exact absurd (Nat.eq_of_beq_eq_true z) h0
  · exact Nat.eq_of_beq_eq_true z
theorem rChk_off {pc len : Nat} {i : Instr} (h : rChk pc i len = true) : rOff pc i = true := by
  unfold rChk at h
  rw [Bool.and_eq_true] at h
  exact h.2
theorem rT_eq {pc : Nat} {o : Int} (h : 0 ≤ (pc : Int) + o) : (pc : Int) + o = ((rT pc o : Nat) : Int) := by
  unfold rT; omega
theorem rI32 {x : Int32} {a : Int} (h1 : -2147483648 ≤ a) (h2 : a < 2147483648) : x = Int32.ofInt a ↔ x.toInt = a := by
  have e : (Int32.ofInt a).toInt = a := by
    rw [Int32.toInt_ofInt]
    exact Int.bmod_eq_of_le (by simp only [Int32.size]; omega) (by simp only [Int32.size]; omega)
  constructor
  · intro h; rw [h, e]
  · intro h; exact Int32.toInt_inj.mp (by rw [h, e])
theorem rTab_ok {G : Int → Prop} {x : Int32} {d : Int} : ∀ (l : List Int) (lo : Int), -2147483648 ≤ lo → lo + (l.length : Int) ≤ 2147483648 → rTab G x d lo l → ((x.toInt < lo ∨ lo + (l.length : Int) ≤ x.toInt) → G d) ∧ ∀ (j : Nat) (o : Int), l[j]? = some o → x.toInt = lo + (j : Int) → G o
  | [], lo, h1, h2, H => ⟨fun _ => H, fun j o hj => by simp at hj⟩
  | a :: l, lo, h1, h2, H => by
    unfold rTab at H
    have hl : ((a :: l).length : Int) = (l.length : Int) + 1 := by simp
    rw [hl] at h2 ⊢
    by_cases ha : a = d
    · rw [show decide (a = d) = true by simpa using ha] at H
      obtain ⟨g1, g2⟩ := rTab_ok l (lo + 1) (by omega) (by omega) H
      refine ⟨fun h => g1 (by omega), fun j o hj hx => ?_⟩
      cases j with
      | zero =>
        simp only [List.getElem?_cons_zero, Option.some.injEq] at hj
        subst hj; subst ha
        exact g1 (Or.inl (by simp at hx; omega))
      | succ j => exact g2 j o (by simpa using hj) (by rw [hx]; push_cast; omega)
    · rw [show decide (a = d) = false by simpa using ha] at H
      obtain ⟨k1, k2⟩ := H
      by_cases hx : x.toInt = lo
      · refine ⟨fun h => by omega, fun j o hj hj2 => ?_⟩
        have : j = 0 := by omega
        subst this
        simp only [List.getElem?_cons_zero, Option.some.injEq] at hj
        subst hj
        exact k1 ((rI32 h1 (by omega)).mpr hx)
      · obtain ⟨g1, g2⟩ := rTab_ok l (lo + 1) (by omega) (by omega) (k2 (fun e => hx ((rI32 h1 (by omega)).mp e)))
        refine ⟨fun h => g1 (by omega), fun j o hj hj2 => ?_⟩
        cases j with
        | zero => exact absurd (by simpa using hj2) hx
        | succ j => exact g2 j o (by simpa using hj) (by rw [hj2]; push_cast; omega)
theorem rSw_ok {G : Int → Prop} {x : Int32} {d : Int} : ∀ (l : List (Int × Int)), (∀ q ∈ l, -2147483648 ≤ q.1 ∧ q.1 < 2147483648) → rSw G x d l → G (Op.lookupswitch.offset l d x.toInt)
  | [], _, H => H
  | (a, o) :: l, h, H => by
    have ha := h (a, o) List.mem_cons_self
    rw [Op.lookupswitch.offset_cons]
    by_cases hx : a = x.toInt
    · rw [if_pos hx]
      exact H.1 ((rI32 ha.1 ha.2).mpr hx.symm)
    · rw [if_neg hx]
      exact rSw_ok l (fun q hq => h q (List.mem_cons_of_mem _ hq)) (H.2 (fun e => hx ((rI32 ha.1 ha.2).mp e).symm))
theorem rSw_mem {d x : Int} : ∀ (l : List (Int × Int)), Op.lookupswitch.offset l d x = d ∨ ∃ q ∈ l, Op.lookupswitch.offset l d x = q.2
  | [] => Or.inl rfl
  | (a, o) :: l => by
    rw [Op.lookupswitch.offset_cons]
    by_cases hx : a = x
    · rw [if_pos hx]; exact Or.inr ⟨_, List.mem_cons_self, rfl⟩
    · rw [if_neg hx]
      rcases rSw_mem (d := d) (x := x) l with h | ⟨q, h1, h2⟩
      · exact Or.inl h
      · exact Or.inr ⟨q, List.mem_cons_of_mem _ h1, h2⟩
theorem rFs_at {b : Nat} {f : Nat → Int32} {l : List (Option (Option Nat))} {j : Nat} {o : Option (Option Nat)} (h : l[j]? = some o) : (rFs b f l 0)[j]? = some (rSv b f j o) := by rw [rFs_get, h, Nat.zero_add]; rfl
theorem rVo (b : Nat) (cv : Nat → Nat) (fm : Value) (f : Nat → Int32) (j : Nat) (o : Option Nat) : rSv b f j (some o) = rV b cv fm (pO o) := by cases o <;> rfl
def rWs (M : rM) : List Cond := Cond.code (rYn M.1) (rBy M.1) M.2.2.2.2.2.2.2.1 M.2.2.2.2.1 :: rTT
def rRm (d : Nat) (M : rM) : Room := { frames := d, cells := M.2.2.2.2.2.1, slots := M.2.2.2.2.2.2.1, locals := 64 * d }
def rPre (D : va_G) (cI cB : ClassId) (b : Nat) (cv : Nat → Nat) (fm : Value) (E : rE) (sh : rSh) (h : rHp) : State → Prop := fun U => va_P D classes (rW b cI cB sh h) U.heap ∧ va_K D classes [(cI, .int), (cB, .byte)] U ∧ U.heap.size = b + sh.length ∧ rCon b cv fm E U
def rB (D : va_G) (cI cB : ClassId) (b : Nat) (u : rSh × rHp) (t : State) : Prop := va_P D classes (rW b cI cB u.1 u.2) t.heap
def rQ (D : va_G) (cI cB : ClassId) (b : Nat) (ret : Option FieldType) (Post : rPost) : Array Value → State → Outcome → State → Prop := match ret with
  | none => va_Qv (fun u : rSh × rHp => Post none u.1 u.2) (rB D cI cB b) (rA b)
  | some .long => va_Ql (fun (r : Int64) (u : rSh × rHp) => Post (some (pL r)) u.1 u.2) (rB D cI cB b) (rA b)
  | some _ => va_Qi (fun (r : Int32) (u : rSh × rHp) => Post (some (pI r)) u.1 u.2) (rB D cI cB b) (rA b)
def rMet (l : Launch) (D : va_G) (cI cB : ClassId) (b : Nat) (cv : Nat → Nat) (fm : Value) (E : rE) (d : Nat) (M : rM) (as : List rPV) (sh : rSh) (h : rHp) (Post : rPost) : Prop :=
  Met l (rYn M.1) (rWs M) (rRm d M) (va_Pc (as.map (rV b cv fm)) (rPre D cI cB b cv fm E sh h)) (rQ D cI cB b M.2.2.2.2.1 Post) M.2.2.2.2.2.1 M.2.2.2.2.2.2.1 (rA b)
theorem rBlind {D : va_G} {cI cB : ClassId} {b : Nat} {cv : Nat → Nat} {fm : Value} {E : rE} {as : List Value} {sh : rSh} {h : rHp} : FrameBlind (va_Pc as (rPre D cI cB b cv fm E sh h)) := fun a U g mk ⟨h0, h1, h2, h3, h4⟩ => ⟨h0, h1, va_K.moved (u := U) (U := U.calling g mk a) (Vm.Alike.refl U.vm) h2, h3, rCon_blind g mk a h4⟩
section SND
variable {p : Program} {l : Launch} {e : Env} {R : Room} {s : State} {m : MethodId} {args : Array Value} {below : List Frame} {meth : Method} {c : Code} {cc : ByteArray} {Q : State → Prop} {M : rM} {E : rE} {D : va_G} {cI cB : ClassId} {b : Nat} {cv : Nat → Nat} {fm : Value} {d : Nat} {K : rM → List rPV → rSh → rHp → rPost → Prop} {Post : rPost} {Z : Nat → rLs → List rPV → rSh → rHp → Nat → Nat → Prop}
/-- the frame at pc, with these locals, this stack, these cells, goes on to Q -/
def rG (p : Program) (l : Launch) (e : Env) (R : Room) (s : State) (m : MethodId) (args : Array Value) (below : List Frame) (meth : Method) (c : Code) (Q : State → Prop) (D : va_G) (cI cB : ClassId) (b : Nat) (cv : Nat → Nat) (fm : Value) (nL : Nat) (pc : Nat) (ls : rLs) (st : List rPV) (sh : rSh) (h : rHp) (n k : Nat) : Prop :=
  ∀ (H : Heap) (locs : List Loc) (la : Array Slot), va_P D classes (rW b cI cB sh h) H → s.heap.size + n = b + sh.length → va_S (rA b) s.heap H locs → rLH b cv fm la ls → ls.length = nL → W p l e R s m args below meth c H locs n k Q (F0 m pc la (st.map (rV b cv fm)))
def rCx (p : Program) (R : Room) (s : State) (m : MethodId) (args : Array Value) (meth : Method) (c : Code) (cc : ByteArray) (M : rM) (E : rE) (D : va_G) (cI cB : ClassId) (b : Nat) (cv : Nat → Nat) (fm : Value) (d : Nat) : Prop :=
  p.tables.exec = Jvm.exec ∧ c.code = cc ∧ c.maxLocals = M.2.2.2.2.2.2.2.1 ∧ s.vm.findClass (rCn M.2.2.1) = some m.cls ∧ (∀ w ∈ rTT, w.before args s = true) ∧ va_K D classes [(cI, .int), (cB, .byte)] s ∧ b ≤ s.heap.size ∧ rCon b cv fm E s ∧ fm.category = 1 ∧ (M.2.2.2.1 = true → meth.name = "<init>") ∧ (d + 1 ≤ R.frames ∧ 64 * (d + 1) ≤ R.locals ∧ M.2.2.2.2.2.1 ≤ R.cells ∧ M.2.2.2.2.2.2.1 ≤ R.slots) ∧ rCode M.2.1 cc
/-- how many cells there are: the room says it -/
theorem rSize {H : Heap} {locs : List Loc} {n k : Nat} {sh : rSh} {h : rHp} {g : JFrame} (hbs : b ≤ s.heap.size) (hP : va_P D classes (rW b cI cB sh h) H) (hz : s.heap.size + n = b + sh.length) (hS : va_S (rA b) s.heap H locs) (kk : H.size = b + sh.length → W p l e R s m args below meth c H locs n k Q g) : W p l e R s m args below meth c H locs n k Q g := by
  intro T hT X
  refine kk ?_ T hT X
  have h1 : T.heap.size ≤ s.heap.size + n := X.same.2.2.1
  rw [hT] at h1
  have h2 := hS.1
  rcases Nat.eq_zero_or_pos sh.length with h0 | h0
  · omega
  · have h3 : sh[sh.length - 1]? = some (sh[sh.length - 1]'(by omega)) := List.getElem?_eq_getElem (by omega)
    have h4 := (hP (sh.length - 1) _ (rW_at h3)).lt
    have h5 : b + (sh.length - 1) < H.size := h4
    omega
theorem rWord {w : Cond} (hts : ∀ w ∈ rTT, w.before args s = true) (h : w ∈ rTT) : w.before args s = true := hts w h
theorem rCls {ci : Nat} {C : String} {T : u_T} {N : Nat} {ty : Nat → FieldType} (h : rKc ci C T N ty) : classes[ci]? = some (C, T, N) := h.1

theorem rGoodC {M' : rM} {i : Nat} (hM : rOkM M' i) : GoodIn rTT (rWs M') := fun w hw => by
  have hw2 : w ∈ rTT := by
    rcases List.mem_cons.mp hw with e | h
    · rw [e, hM.1]; exact hM.2.1
    · exact h
  exact ⟨hw2, good_of_word (List.mem_filter.mp hw2).2⟩
theorem rGoodX {M' : rM} {i : Nat} {ws : List Cond} (hM : rOkM M' i) (h : ∀ w ∈ ws, w ∈ rTT) : GoodIn rTT (ws ++ rWs M') := fun w hw => by
  rcases List.mem_append.mp hw with h1 | h1
  · exact ⟨h w h1, good_of_word (List.mem_filter.mp (h w h1)).2⟩
  · exact rGoodC hM w h1
/-- what comes back from a call, for the caller -/
theorem rBack {M' : rM} {n k mc ms pc : Nat} {st0 rest : List Value} {a : Array Value} {la : Array Slot} {H : Heap} {locs : List Loc} {Pst : rPost} (hS : va_S (rA b) s.heap H locs) (hmc : M'.2.2.2.2.2.1 = mc) (hms : M'.2.2.2.2.2.2.1 = ms)
    (hr : va_Run p l e R s m args below meth c H locs n k mc ms (F0 m pc la st0) rest (rQ D cI cB b M'.2.2.2.2.1 Pst a) (rA b))
    (kk : ∀ (v : Option rPV) (u : rSh × rHp) (H1 : Heap) (locs1 : List Loc), (match M'.2.2.2.2.1 with | none => v = none | some .long => ∃ x, v = some (pL x) | some _ => ∃ x, v = some (pI x)) → Pst v u.1 u.2 → va_P D classes (rW b cI cB u.1 u.2) H1 → va_S (rA b) s.heap H1 locs1 → W p l e R s m args below meth c H1 locs1 (n + mc) (k + ms) Q (F0 m (pc + 3) la ((rPush v []).map (rV b cv fm) ++ rest))) : W p l e R s m args below meth c H locs n k Q (F0 m pc la st0) := by
  generalize M'.2.2.2.2.1 = ret at hr kk
  match ret, hr, kk with
  | none, hr, kk =>
    exact va_callv (a := a) hr hS (fun q _ h => h) (fun q h => h) (fun u t H1 locs1 ht _ hp hB _ _ hS1 => kk none u H1 locs1 rfl hp (by rw [← ht]; exact hB) hS1)
  | some .long, hr, kk =>
    exact va_calll (a := a) hr hS (fun q _ h => h) (fun q h => h) (fun x u t H1 locs1 ht _ hp hB _ _ hS1 => kk (some (pL x)) u H1 locs1 ⟨x, rfl⟩ hp (by rw [← ht]; exact hB) hS1)
  | some .int, hr, kk =>
    exact va_calli (a := a) hr hS (fun q _ h => h) (fun q h => h) (fun x u t H1 locs1 ht _ hp hB _ _ hS1 => kk (some (pI x)) u H1 locs1 ⟨x, rfl⟩ hp (by rw [← ht]; exact hB) hS1)
  | some .boolean, hr, kk =>
    exact va_calli (a := a) hr hS (fun q _ h => h) (fun q h => h) (fun x u t H1 locs1 ht _ hp hB _ _ hS1 => kk (some (pI x)) u H1 locs1 ⟨x, rfl⟩ hp (by rw [← ht]; exact hB) hS1)
  | some .byte, hr, kk =>
    exact va_calli (a := a) hr hS (fun q _ h => h) (fun q h => h) (fun x u t H1 locs1 ht _ hp hB _ _ hS1 => kk (some (pI x)) u H1 locs1 ⟨x, rfl⟩ hp (by rw [← ht]; exact hB) hS1)
  | some .char, hr, kk =>
    exact va_calli (a := a) hr hS (fun q _ h => h) (fun q h => h) (fun x u t H1 locs1 ht _ hp hB _ _ hS1 => kk (some (pI x)) u H1 locs1 ⟨x, rfl⟩ hp (by rw [← ht]; exact hB) hS1)
  | some .short, hr, kk =>
    exact va_calli (a := a) hr hS (fun q _ h => h) (fun q h => h) (fun x u t H1 locs1 ht _ hp hB _ _ hS1 => kk (some (pI x)) u H1 locs1 ⟨x, rfl⟩ hp (by rw [← ht]; exact hB) hS1)
  | some .float, hr, kk =>
    exact va_calli (a := a) hr hS (fun q _ h => h) (fun q h => h) (fun x u t H1 locs1 ht _ hp hB _ _ hS1 => kk (some (pI x)) u H1 locs1 ⟨x, rfl⟩ hp (by rw [← ht]; exact hB) hS1)
  | some .double, hr, kk =>
    exact va_calli (a := a) hr hS (fun q _ h => h) (fun q h => h) (fun x u t H1 locs1 ht _ hp hB _ _ hS1 => kk (some (pI x)) u H1 locs1 ⟨x, rfl⟩ hp (by rw [← ht]; exact hB) hS1)
  | some (.object _), hr, kk =>
    exact va_calli (a := a) hr hS (fun q _ h => h) (fun q h => h) (fun x u t H1 locs1 ht _ hp hB _ _ hS1 => kk (some (pI x)) u H1 locs1 ⟨x, rfl⟩ hp (by rw [← ht]; exact hB) hS1)
  | some (.array _), hr, kk =>
    exact va_calli (a := a) hr hS (fun q _ h => h) (fun q h => h) (fun x u t H1 locs1 ht _ hp hB _ _ hS1 => kk (some (pI x)) u H1 locs1 ⟨x, rfl⟩ hp (by rw [← ht]; exact hB) hS1)
theorem rCatSum {b : Nat} {cv : Nat → Nat} {fm : Value} (hfm : fm.category = 1) : ∀ (r : List rPV), (((r.map (rV b cv fm)).map fun v => v.category).sum) ≤ 2 * r.length
  | [] => by simp
  | v :: r => by
    have := rCatSum (b := b) (cv := cv) hfm r
    have h1 : (rV b cv fm v).category ≤ 2 := by rcases lv_cat (rV b cv fm v) with h | h <;> omega
    simp only [List.map_cons, List.sum_cons, List.length_cons]
    omega
theorem rAsk_ok {M' : rM} {cm : Nat} {as r : List rPV} {sh : rSh} {h : rHp} {X : List rPV → rSh → rHp → Nat → Nat → Prop} {n k : Nat} (hM : rOkM M' cm) (H : rAsk K M' as sh h X r n k) : ∃ Pst : rPost, K M' as sh h Pst ∧ ∀ (v : Option rPV) (sh' : rSh) (h' : rHp), (match M'.2.2.2.2.1 with | none => v = none | some .long => ∃ x, v = some (pL x) | some _ => ∃ x, v = some (pI x)) → Pst v sh' h' → sh'.length = sh.length + M'.2.2.2.2.2.1 ∧ X (rPush v r) sh' h' (n + M'.2.2.2.2.2.1) (k + M'.2.2.2.2.2.2.1) := by
  unfold rAsk at H
  cases hi : M'.2.2.2.1 with
  | true =>
    rw [hi] at H
    have hret := hM.2.2.2.2.2.2.2.2 hi
    refine ⟨_, H, fun v sh' h' hv hp => ?_⟩
    rw [hret] at hv
    subst hv
    exact hp
  | false =>
    rw [hi] at H
    cases h0 : Nat.beq M'.2.2.2.2.2.1 0 with
    | false => rw [h0] at H; exact H.elim
    | true =>
      rw [h0] at H
      have e0 : M'.2.2.2.2.2.1 = 0 := Nat.eq_of_beq_eq_true h0
      rw [e0]
      generalize M'.2.2.2.2.1 = ret at H ⊢
      match ret, H with
      | none, H =>
        refine ⟨_, H, fun v sh' h' hv hp => ?_⟩
        subst hv
        obtain ⟨rfl, hp⟩ := hp
        exact ⟨rfl, hp⟩
      | some .long, H =>
        refine ⟨_, H, fun v sh' h' hv hp => ?_⟩
        obtain ⟨x, rfl⟩ := hv
        obtain ⟨rfl, hp⟩ := hp
        exact ⟨rfl, hp⟩
      | some .int, H =>
        refine ⟨_, H, fun v sh' h' hv hp => ?_⟩
        obtain ⟨x, rfl⟩ := hv
        obtain ⟨rfl, hp⟩ := hp
        exact ⟨rfl, hp⟩
      | some .boolean, H =>
        refine ⟨_, H, fun v sh' h' hv hp => ?_⟩
        obtain ⟨x, rfl⟩ := hv
        obtain ⟨rfl, hp⟩ := hp
        exact ⟨rfl, hp⟩
      | some .byte, H =>
        refine ⟨_, H, fun v sh' h' hv hp => ?_⟩
        obtain ⟨x, rfl⟩ := hv
        obtain ⟨rfl, hp⟩ := hp
        exact ⟨rfl, hp⟩
      | some .char, H =>
        refine ⟨_, H, fun v sh' h' hv hp => ?_⟩
        obtain ⟨x, rfl⟩ := hv
        obtain ⟨rfl, hp⟩ := hp
        exact ⟨rfl, hp⟩
      | some .short, H => exact H.elim
      | some .float, H => exact H.elim
      | some .double, H => exact H.elim
      | some (.object _), H => exact H.elim
      | some (.array _), H => exact H.elim
theorem rInv_ok {n k pc kd cm : Nat} {M' : rM} {ls : rLs} {st : List rPV} {sh : rSh} {h : rHp} (C : rCx p R s m args meth c cc M E D cI cB b cv fm d) (hZ : ∀ pc ls st sh h n k, Z pc ls st sh h n k → rG p l e R s m args below meth c Q D cI cB b cv fm M.2.2.2.2.2.2.2.1 pc ls st sh h n k) (hKM : ∀ (M' : rM) (i : Nat), rOkM M' i → rNth rMs i = some M' → ∀ as sh h P, K M' as sh h P → rMet l D cI cB b cv fm E d M' as sh h P)
    (hM : rOkM M' cm) (hMs : rNth rMs cm = some M') (H : rInv K M (Z (pc + 3)) kd M' ls st sh h n k)
    (hrun : ∀ (H : Heap) (locs : List Loc) (la : Array Slot) (as pre r : List rPV) (Pst : rPost), pre.length = M'.2.2.2.2.2.2.2.2 → st = pre ++ r → as = pre.reverse → rRecv kd M' as sh = true → va_P D classes (rW b cI cB sh h) H → va_S (rA b) s.heap H locs → la.size = M.2.2.2.2.2.2.2.1 → (((r.map (rV b cv fm)).map fun v => v.category).sum ≤ 8) → n + M'.2.2.2.2.2.1 ≤ R.cells → k + M'.2.2.2.2.2.2.1 ≤ R.slots → rMet l D cI cB b cv fm E d M' as sh h Pst → (∀ U : State, U.heap = H → s.WarmedH U.vm → rPre D cI cB b cv fm E sh h U) → va_Run p l e R s m args below meth c H locs n k M'.2.2.2.2.2.1 M'.2.2.2.2.2.2.1 (F0 m pc la (st.map (rV b cv fm))) (r.map (rV b cv fm)) (rQ D cI cB b M'.2.2.2.2.1 Pst (as.map (rV b cv fm)).toArray) (rA b)) : rG p l e R s m args below meth c Q D cI cB b cv fm M.2.2.2.2.2.2.2.1 pc ls st sh h n k := by
  obtain ⟨hx, hb, hml, hown, hts, hK, hbs, hcon, hfm, hin, hR, hcode⟩ := C
  intro Hh locs la hP hz hS hL hn
  unfold rInv at H
  split at H
  · exact H.elim
  rename_i as r hpop
  obtain ⟨pre, hlen, rfl, has⟩ := rPop_ok _ _ _ _ _ hpop
  rw [List.append_nil] at has
  obtain ⟨hb1, H⟩ := bB_ok H
  rw [Bool.and_eq_true] at hb1
  have hr4 := Nat.le_of_ble_eq_true hb1.1
  obtain ⟨hn1, hk1, H⟩ := rBk_ok H
  obtain ⟨Pst, hK1, hback⟩ := rAsk_ok hM H
  have hsum := rCatSum (b := b) (cv := cv) hfm r
  refine rSize hbs hP hz hS (fun hsz => ?_)
  have hrun1 := hrun Hh locs la as pre r Pst hlen rfl has hb1.2 hP hS (by rw [hL.1, hn]) (by omega) (by omega) (by omega) (hKM M' cm hM hMs _ _ _ _ hK1) (fun U hU hW => ⟨by rw [hU]; exact hP, va_K.moved hW.alike hK, by rw [hU]; exact hsz, rCon_call hbs hcon hS hU hW⟩)
  refine rBack (Pst := Pst) (cv := cv) (fm := fm) hS rfl rfl hrun1 (fun v u H1 locs1 hv hp hP1 hS1 => ?_)
  obtain ⟨hl1, hX⟩ := hback v u.1 u.2 hv hp
  have hW := hZ _ _ _ _ _ _ _ hX H1 locs1 la hP1 (by omega) hS1 hL hn
  have e : (rPush v r).map (rV b cv fm) = (rPush v []).map (rV b cv fm) ++ r.map (rV b cv fm) := by cases v <;> rfl
  rw [e] at hW
  exact hW
end SND
