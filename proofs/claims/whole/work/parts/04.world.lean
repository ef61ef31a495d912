/-! the machine's world behind the plain one -/
def rTT : List Cond := lw_tbl.filter goodWord
theorem rIn {w : Cond} (i : Nat) (h : lw_tbl[i]? = some w) (g : goodWord w = true) : w ∈ rTT := List.mem_filter.mpr ⟨List.mem_of_getElem? h, g⟩
theorem rNth_eq {α : Type} : ∀ (l : List α) (i : Nat), rNth l i = l[i]?
  | [], i => by simp [rNth]
  | a :: l, 0 => by simp [rNth]
  | a :: l, i + 1 => by simp [rNth, rNth_eq l i]
def rV (b : Nat) (cv : Nat → Nat) (fm : Value) : rPV → Value
  | .inl x => .int x
  | .inr (.inl x) => .long x
  | .inr (.inr (.inl none)) => .null
  | .inr (.inr (.inl (some i))) => .ref (b + i)
  | .inr (.inr (.inr c)) => if c = 3 then fm else .ref (cv c)
def rFs (b : Nat) (f : Nat → Int32) : List (Option (Option Nat)) → Nat → List Value
  | [], _ => []
  | none :: l, k => .int (f k) :: rFs b f l (k + 1)
  | some r :: l, k => va_rf (r.map (b + ·)) :: rFs b f l (k + 1)
def rCe (b : Nat) (cI cB : ClassId) (f : Nat → Int32) : rCs → va_E
  | .inl (ci, sl) => .inr (ci, rFs b f sl 0)
  | .inr (y, n) => .inl (cond y cB cI, n, .inl f)
def rWf (b : Nat) (cI cB : ClassId) (h : rHp) : rSh → Nat → va_W
  | [], _ => []
  | c :: l, k => (b + k, rCe b cI cB (h k) c) :: rWf b cI cB h l (k + 1)
def rW (b : Nat) (cI cB : ClassId) (sh : rSh) (h : rHp) : va_W := rWf b cI cB h sh 0
def rSv (b : Nat) (f : Nat → Int32) (j : Nat) : Option (Option Nat) → Value
  | none => .int (f j)
  | some r => va_rf (r.map (b + ·))
theorem rFs_get (b : Nat) (f : Nat → Int32) : ∀ (l : List (Option (Option Nat))) (k j : Nat), (rFs b f l k)[j]? = (l[j]?).map (rSv b f (k + j))
  | [], k, j => by simp [rFs]
  | none :: l, k, 0 => by simp [rFs, rSv]
  | some r :: l, k, 0 => by simp [rFs, rSv]
  | none :: l, k, j + 1 => by
    have := rFs_get b f l (k + 1) j
    simp only [rFs, List.getElem?_cons_succ, this]
    rw [show k + 1 + j = k + (j + 1) by omega]
  | some r :: l, k, j + 1 => by
    have := rFs_get b f l (k + 1) j
    simp only [rFs, List.getElem?_cons_succ, this]
    rw [show k + 1 + j = k + (j + 1) by omega]
theorem rFs_len (b : Nat) (f : Nat → Int32) : ∀ (l : List (Option (Option Nat))) (k : Nat), (rFs b f l k).length = l.length
  | [], k => rfl
  | none :: l, k => by simp [rFs, rFs_len b f l (k + 1)]
  | some r :: l, k => by simp [rFs, rFs_len b f l (k + 1)]
theorem rWf_get (b : Nat) (cI cB : ClassId) (h : rHp) : ∀ (l : rSh) (k i : Nat), (rWf b cI cB h l k)[i]? = (l[i]?).map (fun c => (b + (k + i), rCe b cI cB (h (k + i)) c))
  | [], k, i => by simp [rWf]
  | c :: l, k, 0 => by simp [rWf]
  | c :: l, k, i + 1 => by
    have := rWf_get b cI cB h l (k + 1) i
    simp only [rWf, List.getElem?_cons_succ, this]
    rw [show k + 1 + i = k + (i + 1) by omega]
theorem rWf_len (b : Nat) (cI cB : ClassId) (h : rHp) : ∀ (l : rSh) (k : Nat), (rWf b cI cB h l k).length = l.length
  | [], k => rfl
  | c :: l, k => by simp [rWf, rWf_len b cI cB h l (k + 1)]
theorem rW_get (b : Nat) (cI cB : ClassId) (h : rHp) (sh : rSh) (i : Nat) : (rW b cI cB sh h)[i]? = (sh[i]?).map (fun c => (b + i, rCe b cI cB (h i) c)) := by
  have := rWf_get b cI cB h sh 0 i
  rw [Nat.zero_add] at this
  exact this
theorem rW_at {b : Nat} {cI cB : ClassId} {h : rHp} {sh : rSh} {i : Nat} {c : rCs} (hc : sh[i]? = some c) : (rW b cI cB sh h)[i]? = some (b + i, rCe b cI cB (h i) c) := by rw [rW_get, hc]; rfl
theorem rW_lt {sh : rSh} {i : Nat} {c : rCs} (hc : sh[i]? = some c) : i < sh.length := (List.getElem?_eq_some_iff.mp hc).1
theorem rW_D {A : Nat → Prop} {b : Nat} {cI cB : ClassId} {sh : rSh} {h : rHp} (hA : ∀ q, b ≤ q → A q) : va_D A (rW b cI cB sh h) := by
  have key : ∀ (i : Nat) (p : Nat × va_E), (rW b cI cB sh h)[i]? = some p → p.1 = b + i := by
    intro i p hp
    rw [rW_get] at hp
    cases hs : sh[i]? with
    | none => rw [hs] at hp; cases hp
    | some c => rw [hs] at hp; cases hp; rfl
  refine ⟨fun i j p q hi hj e => ?_, fun k q hk => ?_⟩
  · have h1 := key i p hi
    have h2 := key j q hj
    omega
  · exact hA _ (by rw [key k q hk]; omega)
theorem rW_ext {b : Nat} {cI cB : ClassId} {sh sh' : rSh} {h h' : rHp} {a : Nat} {c c' : rCs} {e : va_E} (hc : sh[a]? = some c) (hl : sh' = sh.set a c') (hh : ∀ i, i ≠ a → h' i = h i) (he : e = rCe b cI cB (h' a) c') : (rW b cI cB sh h).set a (b + a, e) = rW b cI cB sh' h' := by
  have hlt := rW_lt hc
  apply List.ext_getElem?
  intro i
  rw [List.getElem?_set, rW_get, rW_get, hl, List.getElem?_set]
  by_cases hi : a = i
  · subst hi
    have hl1 : a < (rW b cI cB sh h).length := by
      show a < (rWf b cI cB h sh 0).length
      rw [rWf_len]; exact hlt
    simp only [if_true, hl1, hlt, if_pos, Option.map_some, he]
  · simp only [if_neg hi]
    cases sh[i]? with
    | none => rfl
    | some c2 => simp only [Option.map_some, hh i (fun e => hi e.symm)]
theorem rW_put {b : Nat} {cI cB : ClassId} {sh : rSh} {h : rHp} {a ci j : Nat} {sl : List (Option (Option Nat))} {x : Int32} (hc : sh[a]? = some (.inl (ci, sl))) (hj : sl[j]? = some none) : (rW b cI cB sh h).set a (b + a, .inr (ci, (rFs b (h a) sl 0).set j (.int x))) = rW b cI cB sh (rUp h a j x) := by
  have hlt := rW_lt hc
  refine rW_ext (c' := .inl (ci, sl)) hc ?_ (fun i hi => ?_) ?_
  · have : sh[a] = .inl (ci, sl) := (List.getElem?_eq_some_iff.mp hc).2
    rw [← this, List.set_getElem_self]
  · funext k; simp [rUp, hi]
  · show (Sum.inr (ci, (rFs b (h a) sl 0).set j (.int x)) : va_E) = .inr (ci, rFs b (rUp h a j x a) sl 0)
    congr 2
    apply List.ext_getElem?
    intro i
    have hjl : j < (rFs b (h a) sl 0).length := by rw [rFs_len]; exact (List.getElem?_eq_some_iff.mp hj).1
    rw [List.getElem?_set, rFs_get, rFs_get]
    by_cases hi : j = i
    · subst hi
      rw [if_pos rfl, if_pos hjl, hj]
      simp [rSv, rUp]
    · rw [if_neg hi]
      cases hs : sl[i]? with
      | none => rfl
      | some o =>
        cases o with
        | none => simp [rSv, rUp]; intro e; exact absurd e.symm hi
        | some r => rfl
theorem rW_putR {b : Nat} {cI cB : ClassId} {sh : rSh} {h : rHp} {a ci j y : Nat} {sl : List (Option (Option Nat))} (hc : sh[a]? = some (.inl (ci, sl))) (hj : j < sl.length) : (rW b cI cB sh h).set a (b + a, .inr (ci, (rFs b (h a) sl 0).set j (.ref (b + y)))) = rW b cI cB (sh.set a (.inl (ci, sl.set j (some (some y))))) h := by
  refine rW_ext (c' := .inl (ci, sl.set j (some (some y)))) hc rfl (fun _ _ => rfl) ?_
  show (Sum.inr (ci, (rFs b (h a) sl 0).set j (.ref (b + y))) : va_E) = .inr (ci, rFs b (h a) (sl.set j (some (some y))) 0)
  congr 2
  apply List.ext_getElem?
  intro i
  have hjl : j < (rFs b (h a) sl 0).length := by rw [rFs_len]; exact hj
  rw [List.getElem?_set, rFs_get, rFs_get, List.getElem?_set]
  by_cases hi : j = i
  · subst hi
    rw [if_pos rfl, if_pos hjl, if_pos rfl, if_pos hj]
    simp [rSv, va_rf]
  · rw [if_neg hi, if_neg hi]
theorem rW_putA {b : Nat} {cI cB : ClassId} {sh : rSh} {h : rHp} {a n j : Nat} {y : Bool} {x : Int32} (hc : sh[a]? = some (.inr (y, n))) : (rW b cI cB sh h).set a (b + a, .inl (cond y cB cI, n, .inl (upd (h a) j x))) = rW b cI cB sh (rUp h a j x) := by
  refine rW_ext (c' := .inr (y, n)) hc ?_ (fun i hi => ?_) ?_
  · have : sh[a]'(rW_lt hc) = .inr (y, n) := (List.getElem?_eq_some_iff.mp hc).2
    rw [← this, List.set_getElem_self]
  · funext k; simp [rUp, hi]
  · show (Sum.inl (cond y cB cI, n, Sum.inl (upd (h a) j x)) : va_E) = .inl (cond y cB cI, n, .inl (rUp h a j x a))
    congr 4
    funext k; simp [rUp, upd]
theorem rW_cpy {b : Nat} {cI cB : ClassId} {sh : rSh} {h : rHp} {i o n sp dp m : Nat} {y : Bool} (hc : sh[o]? = some (.inr (y, n))) : (rW b cI cB sh h).set o (b + o, .inl (cond y cB cI, n, .inl (va_cpy (h i) (h o) sp dp m))) = rW b cI cB sh (rCp h i o sp dp m) := by
  refine rW_ext (c' := .inr (y, n)) hc ?_ (fun a ha => ?_) ?_
  · have : sh[o]'(rW_lt hc) = .inr (y, n) := (List.getElem?_eq_some_iff.mp hc).2
    rw [← this, List.set_getElem_self]
  · funext k; simp [rCp, ha]
  · show (Sum.inl (cond y cB cI, n, Sum.inl (va_cpy (h i) (h o) sp dp m)) : va_E) = .inl (cond y cB cI, n, .inl (rCp h i o sp dp m o))
    congr 4
    funext k; simp [rCp, va_cpy]
theorem rWf_app (b : Nat) (cI cB : ClassId) (h h' : rHp) (c : rCs) : ∀ (l : rSh) (k : Nat), (∀ i, i ≠ k + l.length → h' i = h i) → rWf b cI cB h' (l ++ [c]) k = rWf b cI cB h l k ++ [(b + (k + l.length), rCe b cI cB (h' (k + l.length)) c)]
  | [], k, _ => by simp [rWf]
  | d :: l, k, hh => by
    have := rWf_app b cI cB h h' c l (k + 1) (fun i hi => hh i (by simp only [List.length_cons]; omega))
    simp only [List.cons_append, rWf, this, List.length_cons]
    rw [hh k (by simp only [List.length_cons]; omega), show k + 1 + l.length = k + (l.length + 1) by omega]
theorem rW_push {b : Nat} {cI cB : ClassId} {sh : rSh} {h : rHp} {c : rCs} : rW b cI cB (sh ++ [c]) (rZ h sh.length) = rW b cI cB sh h ++ [(b + sh.length, rCe b cI cB (fun _ => 0) c)] := by
  have := rWf_app b cI cB h (rZ h sh.length) c sh 0 (fun i hi => by funext k; simp [rZ, show ¬ i = sh.length by omega])
  rw [Nat.zero_add] at this
  rw [rW, this]
  have e : rZ h sh.length sh.length = fun _ => 0 := by funext k; simp [rZ]
  rw [e]
  rfl
