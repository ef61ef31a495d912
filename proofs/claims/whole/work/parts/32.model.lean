/-! the model: the same on its row of numbers -/
def Mo (n : Nat) (σ : Nat → Int32) (h : rHp) : Prop := AG (10 + 5 * n) (h 36) σ
def F36 (h h' : rHp) : Prop := ∀ b, b ≠ 36 → h' b = h b
def F38 (h h' : rHp) : Prop := ∀ b, b ≠ 36 → b ≠ 38 → h' b = h b
def FrM (h h' : rHp) : Prop := ∀ b, b ≠ 36 → b ≠ 38 → b ≠ 39 → b ≠ 40 → h' b = h b
theorem F36_rf {h : rHp} : F36 h h := fun _ _ => rfl
theorem F36_tr {h h' h2 : rHp} (a : F36 h h') (b : F36 h' h2) : F36 h h2 := fun c hc => (b c hc).trans (a c hc)
theorem F36_up {h h' : rHp} {j : Nat} {x : Int32} (a : F36 h h') : F36 h (rUp h' 36 j x) := fun b hb => (rUp_o hb).trans (a b hb)
theorem F38_of {h h' : rHp} (a : F36 h h') : F38 h h' := fun c hc _ => a c hc
theorem F38_tr {h h' h2 : rHp} (a : F38 h h') (b : F38 h' h2) : F38 h h2 := fun c hc hd => (b c hc hd).trans (a c hc hd)
theorem FrM_of {h h' : rHp} (a : F38 h h') : FrM h h' := fun c hc hd _ _ => a c hc hd
theorem FrM_o6 {h h' : rHp} (a : F36 h h') : FrM h h' := fun c hc _ _ _ => a c hc
theorem FrM_tr {h h' h2 : rHp} (a : FrM h h') (b : FrM h' h2) : FrM h h2 := fun c h1 h2 h3 h4 => (b c h1 h2 h3 h4).trans (a c h1 h2 h3 h4)
theorem FrM_rf {h : rHp} : FrM h h := fun _ _ _ _ _ => rfl
theorem Mo_up {n k : Nat} {x : Int32} {σ : Nat → Int32} {h : rHp} (hM : Mo n σ h) : Mo n (sW σ k x) (rUp h 36 k x) := by
  show AG _ (rUp h 36 k x 36) _
  rw [rUp_a]
  exact AG_w hM
theorem ixN (o w : Nat) : (10:Int32) + (5:Int32) * nI o + nI w = nI (10 + 5 * o + w) := by
  rw [show (10:Int32) = nI 10 from rfl, show (5:Int32) = nI 5 from rfl, pk_mul, nI_add, nI_add]
theorem ix0 (o : Nat) : (10:Int32) + (5:Int32) * nI o = nI (10 + 5 * o) := by
  rw [show (10:Int32) = nI 10 from rfl, show (5:Int32) = nI 5 from rfl, pk_mul, nI_add]
theorem ix0' (o : Nat) : (10:Int32) + (5:Int32) * nI o + (0:Int32) = nI (10 + 5 * o) := ixN o 0
theorem ix1 (o : Nat) : (10:Int32) + (5:Int32) * nI o + (1:Int32) = nI (11 + 5 * o) := (ixN o 1).trans (congrArg nI (by omega))
theorem ix2 (o : Nat) : (10:Int32) + (5:Int32) * nI o + (2:Int32) = nI (12 + 5 * o) := (ixN o 2).trans (congrArg nI (by omega))
theorem ix3 (o : Nat) : (10:Int32) + (5:Int32) * nI o + (3:Int32) = nI (13 + 5 * o) := (ixN o 3).trans (congrArg nI (by omega))
theorem ix4 (o : Nat) : (10:Int32) + (5:Int32) * nI o + (4:Int32) = nI (14 + 5 * o) := (ixN o 4).trans (congrArg nI (by omega))
theorem Mo_n {B n : Nat} {σ : Nat → Int32} {h : rHp} (hW : Wf B n σ) (hM : Mo n σ h) : h 36 0 = nI n := (hM 0 (by omega)).trans hW.2.1
theorem lcN {a b : Nat} (ha : a < 2 ^ 31) (hb : b < 2 ^ 31) : (lg_cmp (nI a).toInt64 (lN b) < 0 ↔ a < b) ∧ (0 < lg_cmp (nI a).toInt64 (lN b) ↔ b < a) := by
  rw [nI_l ha, lg_cmp_lt, lg_cmp_gt, lN_lt ha hb, lN_lt hb ha]
  exact ⟨Iff.rfl, Iff.rfl⟩
section
variable {E : rE} {d B n : Nat} {σ : Nat → Int32} {h : rHp} {f : Int32 → rHp → Prop} {fn : rHp → Prop}
theorem m_in1 {o lo hi : Nat} (h1 : lo ≤ o) (h2 : o ≤ hi) (hh : hi < 2 ^ 31) (H : f 1 h) : rCall E (d + 1) mMo_isIn [pL (nI o).toInt64, pL (lN lo), pL (lN hi)] SH h (rPi SH f) := by
  refine vMo_isIn (br_f ?_ (br_f ?_ ⟨rfl, H⟩))
  · rw [(lcN (by omega) (by omega)).1]; omega
  · rw [(lcN (by omega) (by omega)).2]; omega
theorem m_in0 {a : Int32} {lo hi : Nat} (hb : Bd a lo hi) (hl : lo < 2 ^ 31) (hh : hi < 2 ^ 31) (H : f 0 h) : rCall E (d + 1) mMo_isIn [pL a.toInt64, pL (lN lo), pL (lN hi)] SH h (rPi SH f) := by
  refine vMo_isIn ⟨fun _ => ⟨rfl, H⟩, fun e => ⟨fun _ => ⟨rfl, H⟩, fun e2 => ?_⟩⟩
  exfalso
  rw [lg_cmp_lt, Int64.lt_iff_toInt_lt, Int32.toInt_toInt64, lN_toInt hl] at e
  rw [lg_cmp_gt, Int64.lt_iff_toInt_lt, Int32.toInt_toInt64, lN_toInt hh] at e2
  unfold Bd at hb
  omega
theorem m_pit1 {o : Nat} (h2 : o < 6) (H : f 1 h) : rCall E (d + 1) mMo_isPit [pI (nI o)] SH h (rPi SH f) :=
  vMo_isPit (br_f (nI_pos (by omega)) (br_f (nI_ge (b := 6) h2 (by omega)) ⟨rfl, H⟩))
theorem m_pit0 {a : Int32} (hb : Bd a 0 5) (H : f 0 h) : rCall E (d + 1) mMo_isPit [pI a] SH h (rPi SH f) := by
  refine vMo_isPit ⟨fun _ => ⟨rfl, H⟩, fun e => ⟨fun _ => ⟨rfl, H⟩, fun e2 => ?_⟩⟩
  exfalso
  rw [Int32.lt_iff_toInt_lt, i0] at e
  rw [Int32.le_iff_toInt_le, show (6:Int32).toInt = 6 by decide] at e2
  unfold Bd at hb
  omega
theorem m_one1 {o : Nat} (hW : Wf B n σ) (hM : Mo n σ h) (ho : o < n) (H : f 1 h) : rCall E (d + 1) mMo_isOne [pR 35, pI (nI o)] SH h (rPi SH f) := by
  have hn := hW.1.1
  refine vMo_isOne (br_f (nI_pos (by omega)) (br_f ?_ ⟨rfl, H⟩))
  rw [Mo_n hW hM]
  exact nI_ge ho (by omega)
theorem m_one0 {a : Int32} (hW : Wf B n σ) (hM : Mo n σ h) (ha : a < 0 ∨ (¬ a < 0 ∧ nI n ≤ a)) (H : f 0 h) : rCall E (d + 1) mMo_isOne [pR 35, pI a] SH h (rPi SH f) := by
  refine vMo_isOne ⟨fun _ => ⟨rfl, H⟩, fun e => ⟨fun _ => ⟨rfl, H⟩, fun e2 => absurd ?_ e2⟩⟩
  rw [Mo_n hW hM]
  rcases ha with ha | ha
  · exact absurd ha e
  · exact ha.2
theorem m_it0 {o : Nat} (hM : Mo n σ h) (hn : n ≤ 8) (ho : o < n) (H : f (σ (10 + 5 * o)) h) : rCall E (d + 1) mMo_its [pR 35, pI (nI o), pI (0:Int32)] SH h (rPi SH f) := by
  apply vMo_its
  rw [ix0', nI_clamp (by omega), hM _ (by omega)]
  exact ⟨vp_in_nI (by omega) (by omega), rfl, H⟩
theorem m_it1 {o : Nat} (hM : Mo n σ h) (hn : n ≤ 8) (ho : o < n) (H : f (σ (11 + 5 * o)) h) : rCall E (d + 1) mMo_its [pR 35, pI (nI o), pI (1:Int32)] SH h (rPi SH f) := by
  apply vMo_its
  rw [ix1, nI_clamp (by omega), hM _ (by omega)]
  exact ⟨vp_in_nI (by omega) (by omega), rfl, H⟩
theorem m_it2 {o : Nat} (hM : Mo n σ h) (hn : n ≤ 8) (ho : o < n) (H : f (σ (12 + 5 * o)) h) : rCall E (d + 1) mMo_its [pR 35, pI (nI o), pI (2:Int32)] SH h (rPi SH f) := by
  apply vMo_its
  rw [ix2, nI_clamp (by omega), hM _ (by omega)]
  exact ⟨vp_in_nI (by omega) (by omega), rfl, H⟩
theorem m_it3 {o : Nat} (hM : Mo n σ h) (hn : n ≤ 8) (ho : o < n) (H : f (σ (13 + 5 * o)) h) : rCall E (d + 1) mMo_its [pR 35, pI (nI o), pI (3:Int32)] SH h (rPi SH f) := by
  apply vMo_its
  rw [ix3, nI_clamp (by omega), hM _ (by omega)]
  exact ⟨vp_in_nI (by omega) (by omega), rfl, H⟩
theorem m_it4 {o : Nat} (hM : Mo n σ h) (hn : n ≤ 8) (ho : o < n) (H : f (σ (14 + 5 * o)) h) : rCall E (d + 1) mMo_its [pR 35, pI (nI o), pI (4:Int32)] SH h (rPi SH f) := by
  apply vMo_its
  rw [ix4, nI_clamp (by omega), hM _ (by omega)]
  exact ⟨vp_in_nI (by omega) (by omega), rfl, H⟩
theorem m_becomes {k : Nat} {x : Int32} (hM : Mo n σ h) (hn : n ≤ 8) (hk : k < 10 + 5 * n) (H : ∀ h', Mo n (sW σ k x) h' → F36 h h' → f (σ k) h') : rCall E (d + 1) mMo_becomes [pR 35, pI (nI k), pI x] SH h (rPi SH f) := by
  apply vMo_becomes
  rw [nI_clamp (by omega), hM _ hk]
  exact ⟨vp_in_nI (by omega) (by omega), vp_in_nI (by omega) (by omega), rfl, H _ (Mo_up hM) (F36_up F36_rf)⟩
theorem m_copyRow {u w : Nat} (hu : u < 5) (hw : w < 5) (huw : u ≠ w) (H : ∀ h', (∀ k, k < 50 → h' (w+36) k = h (u+36) k) → (∀ b, b ≠ w+36 → h' b = h b) → fn h') : rCall E (d + 1) mMo_copyRow [pR (u+36), pR (w+36)] SH h (rPn SH fn) := by
  apply vMo_copyRow hu hw
  refine loopUp (P := fun i => ∀ h', (∀ k, k < i → h' (w+36) k = h (u+36) k) → (∀ b, b ≠ w+36 → h' b = h b) → rR E (rCall E d) mMo_copyRow (rPn SH fn) 2 [some (pR (u+36)), some (pR (w+36)), some (pI (nI i))] [] SH h' 0 0) 50 ?_ ?_ h (fun k hk => absurd hk (by omega)) (fun _ _ => rfl)
  · intro i hi hP h' e1 e2
    refine vMo_copyRow_2 hu hw (br_f (nI_ge (b := 50) hi (by omega)) ⟨vp_in_nI hi (by omega), vp_in_nI hi (by omega), ?_⟩)
    rw [nI_clamp (by omega), ← nI_succ]
    refine hP _ (fun k hk => ?_) (fun b hb => (rUp_o hb).trans (e2 b hb))
    rw [rUp_a]
    by_cases e : k = i
    · subst e; rw [sW_eq, e2 (u+36) (by omega)]
    · rw [sW_ne e]; exact e1 k (by omega)
  · intro h' e1 e2
    exact vMo_copyRow_2 hu hw (br_t (nI_le (a := 50) (b := 50) (by omega) (by omega)) ⟨rfl, H h' e1 e2⟩)
theorem m_greatest {a b : Int32} (H : f (if a ≤ b then b else a) h) : rCall E (d + 1) mMo_greatest [pI a, pI b] SH h (rPi SH f) := by
  refine vMo_greatest ⟨fun e => ⟨rfl, ?_⟩, fun e => ⟨rfl, ?_⟩⟩
  · rwa [if_pos e] at H
  · rwa [if_neg e] at H
theorem m_within {v : Int32} (H : f (wit v) h) : rCall E (d + 1) mMo_within [pI v] SH h (rPi SH f) := by
  unfold wit at H
  refine vMo_within ⟨fun e => ⟨fun e2 => ⟨rfl, ?_⟩, fun e2 => ⟨rfl, ?_⟩⟩, fun e => ⟨rfl, ?_⟩⟩
  · have e1 : ¬ v < 0 := Int32.not_lt.2 e
    have e3 : ¬ 99 < v := Int32.not_lt.2 e2
    rwa [if_neg e1, if_neg e3] at H
  · have e1 : ¬ v < 0 := Int32.not_lt.2 e
    have e3 : 99 < v := Int32.not_le.1 e2
    rwa [if_neg e1, if_pos e3] at H
  · have e1 : v < 0 := Int32.not_le.1 e
    rwa [if_pos e1] at H
theorem m_size {v : Nat} (hv : v < 256) (H : f (nI (pc v)) h) : rCall E (d + 1) mMo_size [pI (nI v)] SH h (rPi SH f) := by
  apply vMo_size
  have go : ∀ (k v c : Nat) (v0 : Int32), v ≤ k → v < 256 → f (nI (c + pc v)) h → rR E (rCall E d) mMo_size (rPi SH f) 4 [some (pI v0), some (pI (nI c)), some (pI (nI v))] [] SH h 0 0 := by
    intro k
    induction k with
    | zero =>
      intro v c v0 hk hv H
      have : v = 0 := by omega
      subst this
      exact vMo_size_4 (br_t rfl ⟨rfl, H⟩)
    | succ k ih =>
      intro v c v0 hk hv H
      by_cases e : v = 0
      · subst e
        exact vMo_size_4 (br_t rfl ⟨rfl, H⟩)
      · obtain ⟨e1, e2, e3⟩ := nx_ok v hv e
        refine vMo_size_4 (br_f (nI_ne0 (by omega) (by omega)) ?_)
        rw [e1, ← nI_succ]
        refine ih (nx 8 v) (c + 1) v0 (by omega) (by omega) ?_
        rw [show c + 1 + pc (nx 8 v) = c + pc v by omega]
        exact H
  refine go v v 0 (nI v) (Nat.le_refl v) hv ?_
  rw [Nat.zero_add]
  exact H
theorem m_aboveOf {o : Nat} (hW : Wf B n σ) (hM : Mo n σ h) (ho : o < n) (H : f (nI (nAbv σ n o)) h) : rCall E (d + 2) mMo_aboveOf [pR 35, pI (nI o)] SH h (rPi SH f) := by
  have hn := hW.1.1
  have hN := Mo_n hW hM
  unfold nAbv at H
  apply vMo_aboveOf
  have e0 : nI (if σ (13 + 5 * o) = 6 then 0 else nAb σ o 0) = 0 := by
    split <;> rfl
  suffices L : rR E (rCall E (d + 1)) mMo_aboveOf (rPi SH f) 4 [some (pR 35), some (pI (nI o)), some (pI (nI (if σ (13 + 5 * o) = 6 then 0 else nAb σ o 0))), some (pI (nI 0))] [] SH h 0 0 by
    rw [e0] at L
    exact L
  refine loopUp (P := fun i => rR E (rCall E (d + 1)) mMo_aboveOf (rPi SH f) 4 [some (pR 35), some (pI (nI o)), some (pI (nI (if σ (13 + 5 * o) = 6 then 0 else nAb σ o i))), some (pI (nI i))] [] SH h 0 0) n ?_ ?_
  · intro i hi hP
    refine vMo_aboveOf_4 (br_f (by rw [hN]; exact nI_ge hi (by omega)) (m_it3 hM hn ho ⟨fun e => ?_, fun e => ?_⟩))
    · rw [if_pos e, nI_succ] at hP
      rw [if_pos e, Int32.or_zero]
      exact hP
    · rw [if_neg e, nI_succ] at hP
      rw [if_neg e]
      refine m_it3 hM hn hi (m_it3 hM hn ho ⟨fun e2 => m_it4 hM hn hi (m_it4 hM hn ho ⟨fun e3 => ?_, fun e3 => ?_⟩), fun e2 => ?_⟩)
      · have c : ¬ (σ (13 + 5 * i) = σ (13 + 5 * o) ∧ σ (14 + 5 * o) < σ (14 + 5 * i)) := fun q => Int32.not_lt.2 e3 q.2
        simp only [nAb, if_neg c] at hP
        rw [Int32.or_zero]
        exact hP
      · have c : σ (13 + 5 * i) = σ (13 + 5 * o) ∧ σ (14 + 5 * o) < σ (14 + 5 * i) := ⟨e2, Int32.not_le.1 e3⟩
        simp only [nAb, if_pos c] at hP
        rw [qbit i (by omega) _ (nAb_lt σ o i)]
        exact hP
      · have c : ¬ (σ (13 + 5 * i) = σ (13 + 5 * o) ∧ σ (14 + 5 * o) < σ (14 + 5 * i)) := fun q => e2 q.1
        simp only [nAb, if_neg c] at hP
        rw [Int32.or_zero]
        exact hP
  · exact vMo_aboveOf_4 (br_t (by rw [hN]; exact nI_le (Nat.le_refl n) (by omega)) ⟨rfl, H⟩)
theorem m_lying (hW : Wf B n σ) (hM : Mo n σ h) (H : f (nI (nLy σ n)) h) : rCall E (d + 2) mMo_lying [pR 35] SH h (rPi SH f) := by
  have hn := hW.1.1
  have hN := Mo_n hW hM
  apply vMo_lying
  refine loopUp (P := fun i => rR E (rCall E (d + 1)) mMo_lying (rPi SH f) 4 [some (pR 35), some (pI (nI (nLy σ i))), some (pI (nI i))] [] SH h 0 0) n ?_ ?_
  · intro i hi hP
    refine vMo_lying_4 (br_f (by rw [hN]; exact nI_ge hi (by omega)) (m_it3 hM hn hi ⟨fun e => ?_, fun e => ?_⟩))
    · simp only [nLy, if_pos e, nI_succ] at hP
      rw [Int32.or_zero]
      exact hP
    · simp only [nLy, if_neg e, nI_succ] at hP
      rw [qbit i (by omega) _ (nLy_lt σ i)]
      exact hP
  · exact vMo_lying_4 (br_t (by rw [hN]; exact nI_le (Nat.le_refl n) (by omega)) ⟨rfl, H⟩)
theorem m_lyingIn {p : Int32} (hW : Wf B n σ) (hM : Mo n σ h) (H : f (nI (nIn σ p n)) h) : rCall E (d + 2) mMo_lyingIn [pR 35, pI p] SH h (rPi SH f) := by
  have hn := hW.1.1
  have hN := Mo_n hW hM
  apply vMo_lyingIn
  refine loopUp (P := fun i => rR E (rCall E (d + 1)) mMo_lyingIn (rPi SH f) 4 [some (pR 35), some (pI p), some (pI (nI (nIn σ p i))), some (pI (nI i))] [] SH h 0 0) n ?_ ?_
  · intro i hi hP
    refine vMo_lyingIn_4 (br_f (by rw [hN]; exact nI_ge hi (by omega)) (m_it3 hM hn hi ⟨fun e => ?_, fun e => ?_⟩))
    · simp only [nIn, if_pos e, nI_succ] at hP
      rw [qbit i (by omega) _ (nIn_lt σ p i)]
      exact hP
    · simp only [nIn, if_neg e, nI_succ] at hP
      rw [Int32.or_zero]
      exact hP
  · exact vMo_lyingIn_4 (br_t (by rw [hN]; exact nI_le (Nat.le_refl n) (by omega)) ⟨rfl, H⟩)
theorem m_top {p : Int32} (hW : Wf B n σ) (hM : Mo n σ h) (H : f (nI (qTop σ p n)) h) : rCall E (d + 2) mMo_top [pR 35, pI p] SH h (rPi SH f) := by
  have hn := hW.1.1
  have hN := Mo_n hW hM
  apply vMo_top
  refine loopUp (P := fun i => rR E (rCall E (d + 1)) mMo_top (rPi SH f) 5 [some (pR 35), some (pI p), some (pI (nI (qTop σ p i))), some (pI (nI i))] [] SH h 0 0) n ?_ ?_
  · intro i hi hP
    have hq := qTop_lt σ p i
    refine vMo_top_5 (br_f (by rw [hN]; exact nI_ge hi (by omega)) (m_it3 hM hn hi ⟨fun e => ⟨fun e2 => ?_, fun e2 => ?_⟩, fun e => ?_⟩))
    · have q8 : qTop σ p i = 8 := (nI_eq (b := 8) (by omega) (by omega)).1 e2
      simp only [qTop, if_pos (show σ (13 + 5 * i) = p ∧ (qTop σ p i = 8 ∨ σ (14 + 5 * qTop σ p i) < σ (14 + 5 * i)) from ⟨e, Or.inl q8⟩), nI_succ] at hP
      exact hP
    · have q8 : ¬ qTop σ p i = 8 := fun q => e2 (by rw [q]; rfl)
      refine m_it4 hM hn hi (m_it4 hM hn (by omega) ⟨fun e3 => ?_, fun e3 => ?_⟩)
      · simp only [qTop, if_neg (show ¬ (σ (13 + 5 * i) = p ∧ (qTop σ p i = 8 ∨ σ (14 + 5 * qTop σ p i) < σ (14 + 5 * i))) from fun q => Int32.not_lt.2 e3 (q.2.resolve_left q8)), nI_succ] at hP
        exact hP
      · simp only [qTop, if_pos (show σ (13 + 5 * i) = p ∧ (qTop σ p i = 8 ∨ σ (14 + 5 * qTop σ p i) < σ (14 + 5 * i)) from ⟨e, Or.inr (Int32.not_le.1 e3)⟩), nI_succ] at hP
        exact hP
    · simp only [qTop, if_neg (show ¬ (σ (13 + 5 * i) = p ∧ (qTop σ p i = 8 ∨ σ (14 + 5 * qTop σ p i) < σ (14 + 5 * i))) from fun q => e q.1), nI_succ] at hP
      exact hP
  · exact vMo_top_5 (br_t (by rw [hN]; exact nI_le (Nat.le_refl n) (by omega)) ⟨rfl, H⟩)
theorem m_speaks {o : Nat} (hW : Wf B n σ) (hM : Mo n σ h) (ho : o < n) (H : f (spk σ o) h) : rCall E (d + 2) mMo_speaks [pR 35, pI (nI o)] SH h (rPi SH f) := by
  have hn := hW.1.1
  refine vMo_speaks (m_it1 hM hn ho (m_it0 hM hn ho ?_))
  rw [hM 6 (by omega), hM 7 (by omega), hM 1 (by omega)]
  unfold spk at H
  refine ⟨fun e => ⟨rfl, ?_⟩, fun e1 => ⟨fun e => ⟨rfl, ?_⟩, fun e2 => ⟨fun e => ⟨rfl, ?_⟩, fun e3 => ⟨fun e => m_it2 hM hn ho ⟨rfl, ?_⟩, fun e4 => ⟨fun e => ⟨fun y => ⟨rfl, ?_⟩, fun y => m_it2 hM hn ho ⟨rfl, ?_⟩⟩, fun e => ⟨rfl, ?_⟩⟩⟩⟩⟩⟩
  · rwa [if_pos e] at H
  · rwa [if_neg e1, if_pos e] at H
  · rw [if_neg e1, if_neg e2, if_pos e] at H
    rw [Int32.mul_comm]
    exact H
  · rwa [if_neg e1, if_neg e2, if_neg e3, if_pos e] at H
  · rwa [if_neg e1, if_neg e2, if_neg e3, if_neg e4, if_pos e, if_pos y] at H
  · rw [if_neg e1, if_neg e2, if_neg e3, if_neg e4, if_pos e, if_neg y] at H
    rw [Int32.zero_sub]
    exact H
  · rwa [if_neg e1, if_neg e2, if_neg e3, if_neg e4, if_neg e] at H
theorem m_hides {o : Nat} (hW : Wf B n σ) (hM : Mo n σ h) (ho : o < n) (H : f (hid σ n o) h) : rCall E (d + 3) mMo_hides [pR 35, pI (nI o)] SH h (rPi SH f) := by
  have hn := hW.1.1
  refine vMo_hides (m_it0 hM hn ho ?_)
  unfold hid at H
  refine ⟨fun e => ⟨rfl, ?_⟩, fun e1 => ⟨fun e => ⟨rfl, ?_⟩, fun e2 => ⟨fun e => m_it2 hM hn ho ⟨rfl, ?_⟩, fun e3 => ⟨fun e => ⟨rfl, ?_⟩, fun e4 => ⟨fun e => m_aboveOf hW hM ho (m_size (Nat.lt_of_lt_of_le (nAbv_lt σ n o) (q2 hn)) ⟨rfl, ?_⟩), fun e => ⟨rfl, ?_⟩⟩⟩⟩⟩⟩
  · rwa [if_pos e] at H
  · rwa [if_neg e1, if_pos e] at H
  · rwa [if_neg e1, if_neg e2, if_pos e] at H
  · rwa [if_neg e1, if_neg e2, if_neg e3, if_pos e] at H
  · rwa [if_neg e1, if_neg e2, if_neg e3, if_neg e4, if_pos e] at H
  · rwa [if_neg e1, if_neg e2, if_neg e3, if_neg e4, if_neg e] at H
end
