/-! the street of the class: what each of its methods asks, told on one row of numbers -/
def AG (m : Nat) (a b : Nat → Int32) : Prop := ∀ k, k < m → a k = b k
theorem AG_w {m k : Nat} {x : Int32} {a b : Nat → Int32} (h : AG m a b) : AG m (sW a k x) (sW b k x) := by
  intro j hj
  by_cases e : j = k
  · subst e; rw [sW_eq, sW_eq]
  · rw [sW_ne e, sW_ne e]; exact h j hj
/-- a row that can be: so many things, no kind, pit or height out of bounds -/
def Wf (B n : Nat) (σ : Nat → Int32) : Prop :=
  (n ≤ 8 ∧ B < 1000000) ∧ σ 0 = nI n ∧ (∃ p, p < 6 ∧ σ 3 = nI p) ∧
  (∃ L, L ≤ B ∧ σ 9 = nI L ∧ ∀ i, i < n → ∃ g, 1 ≤ g ∧ g ≤ L ∧ σ (14 + 5 * i) = nI g) ∧
  (∀ i, i < n → ∃ k, k < 6 ∧ σ (10 + 5 * i) = nI k) ∧ (∀ i, i < n → ∃ p, p ≤ 6 ∧ σ (13 + 5 * i) = nI p) ∧ ∃ s, s ≤ 99 ∧ σ 8 = nI s
def St (t n : Nat) (σ : Nat → Int32) (h : rHp) : Prop := AG (10 + 5 * n) (vS t h) σ
section
variable {B t n i : Nat} {σ : Nat → Int32} {h : rHp}
theorem St_n (hW : Wf B n σ) (H : St t n σ h) : h (7*t+1) 6 = nI n := (H 0 (by omega)).trans hW.2.1
theorem St_y (H : St t n σ h) : h (7*t+1) 8 = σ 1 := H 1 (by omega)
theorem St_z (H : St t n σ h) : h (7*t+1) 11 = σ 2 := H 2 (by omega)
theorem St_a (H : St t n σ h) : h (7*t+1) 9 = σ 3 := H 3 (by omega)
theorem St_o (H : St t n σ h) : h (7*t+1) 10 = σ 4 := H 4 (by omega)
theorem St_L (H : St t n σ h) : h (7*t+1) 7 = σ 9 := H 9 (by omega)
theorem St_l (H : St t n σ h) (hi : i < 4) : h (7*t+7) i = σ (5 + i) := (vS_l hi).symm.trans (H _ (by omega))
theorem St_k (H : St t n σ h) (hi : i < n) : h (7*t+2) i = σ (10 + 5 * i) := vS_k.symm.trans (H _ (by omega))
theorem St_w (H : St t n σ h) (hi : i < n) : h (7*t+3) i = σ (11 + 5 * i) := vS_w.symm.trans (H _ (by omega))
theorem St_u (H : St t n σ h) (hi : i < n) : h (7*t+4) i = σ (12 + 5 * i) := vS_u.symm.trans (H _ (by omega))
theorem St_p (H : St t n σ h) (hi : i < n) : h (7*t+5) i = σ (13 + 5 * i) := vS_p.symm.trans (H _ (by omega))
theorem St_t (H : St t n σ h) (hi : i < n) : h (7*t+6) i + 1 = σ (14 + 5 * i) := vS_t.symm.trans (H _ (by omega))
theorem St_g (hW : Wf B n σ) (H : St t n σ h) (hi : i < n) : ∃ g, g + 1 < 1000001 ∧ σ (14 + 5 * i) = nI (g + 1) ∧ h (7*t+6) i = nI g := by
  obtain ⟨⟨_, hB⟩, _, _, ⟨L, hL, _, hg⟩, _⟩ := hW
  obtain ⟨g, g1, g2, e⟩ := hg i hi
  refine ⟨g - 1, by omega, by rw [e, Nat.sub_add_cancel g1], ?_⟩
  have e2 := St_t H hi
  rw [e, ← Nat.sub_add_cancel g1, nI_succ] at e2
  have e3 := congrArg (fun x => x - 1) e2
  simpa only [Int32.add_sub_cancel] using e3
end
theorem qa (a : Int32) (n : Nat) (hn : n < 2 ^ 31) : (∃ o, o < n ∧ a = nI o) ∨ (a < 0 ∨ (¬ a < 0 ∧ nI n ≤ a)) := by
  by_cases h0 : a < 0
  · exact Or.inr (Or.inl h0)
  · obtain ⟨j, hj, rfl⟩ := nI_of h0
    by_cases hjn : j < n
    · exact Or.inl ⟨j, hjn, rfl⟩
    · exact Or.inr (Or.inr ⟨h0, nI_le (by omega) hj⟩)
/-! sets of things, as numbers below 256 -/
def nLy (σ : Nat → Int32) : Nat → Nat
  | 0 => 0
  | i + 1 => if σ (13 + 5 * i) = 6 then nLy σ i else nLy σ i + 2 ^ i
def nIn (σ : Nat → Int32) (p : Int32) : Nat → Nat
  | 0 => 0
  | i + 1 => if σ (13 + 5 * i) = p then nIn σ p i + 2 ^ i else nIn σ p i
def nAb (σ : Nat → Int32) (o : Nat) : Nat → Nat
  | 0 => 0
  | i + 1 => if σ (13 + 5 * i) = σ (13 + 5 * o) ∧ σ (14 + 5 * o) < σ (14 + 5 * i) then nAb σ o i + 2 ^ i else nAb σ o i
def nAbv (σ : Nat → Int32) (n o : Nat) : Nat := if σ (13 + 5 * o) = 6 then 0 else nAb σ o n
theorem nLy_lt (σ : Nat → Int32) : ∀ i, nLy σ i < 2 ^ i
  | 0 => Nat.zero_lt_one
  | i + 1 => by
    have := nLy_lt σ i
    unfold nLy
    rw [Nat.pow_succ]
    split <;> omega
theorem nIn_lt (σ : Nat → Int32) (p : Int32) : ∀ i, nIn σ p i < 2 ^ i
  | 0 => Nat.zero_lt_one
  | i + 1 => by
    have := nIn_lt σ p i
    unfold nIn
    rw [Nat.pow_succ]
    split <;> omega
theorem nAb_lt (σ : Nat → Int32) (o : Nat) : ∀ i, nAb σ o i < 2 ^ i
  | 0 => Nat.zero_lt_one
  | i + 1 => by
    have := nAb_lt σ o i
    unfold nAb
    rw [Nat.pow_succ]
    split <;> omega
theorem q2 {n : Nat} (h : n ≤ 8) : 2 ^ n ≤ 256 := Nat.pow_le_pow_right (by decide) h
theorem nAbv_lt (σ : Nat → Int32) (n o : Nat) : nAbv σ n o < 2 ^ n := by
  unfold nAbv
  split
  · exact Nat.pow_pos (by decide)
  · exact nAb_lt σ o n
theorem qbit : ∀ i, i < 8 → ∀ s, s < 2 ^ i → nI s ||| ((1:Int32) <<< (nI i &&& 31)) = nI (s + 2 ^ i) := by decide +kernel
def qWo (σ : Nat → Int32) : Nat → Int32
  | 0 => 0
  | i + 1 => if σ (13 + 5 * i) = 6 then qWo σ i else qWo σ i + σ (11 + 5 * i)
def qKd (σ : Nat → Int32) (S : Int32) : Nat → Int32
  | 0 => 0
  | i + 1 => if σ (13 + 5 * i) = 6 then qKd σ S i else if (S >>> (σ (13 + 5 * i) &&& 31)) &&& 1 = 1 then qKd σ S i ||| ((1:Int32) <<< (σ (10 + 5 * i) &&& 31)) else qKd σ S i
/-- the uppermost in a pit; 8: none -/
def qTop (σ : Nat → Int32) (p : Int32) : Nat → Nat
  | 0 => 8
  | i + 1 => if σ (13 + 5 * i) = p ∧ (qTop σ p i = 8 ∨ σ (14 + 5 * qTop σ p i) < σ (14 + 5 * i)) then i else qTop σ p i
theorem qTop_lt (σ : Nat → Int32) (p : Int32) : ∀ i, qTop σ p i = 8 ∨ qTop σ p i < i
  | 0 => Or.inl rfl
  | i + 1 => by
    have := qTop_lt σ p i
    unfold qTop
    split <;> omega
section
variable {E : rE} {d B t n : Nat} {σ : Nat → Int32} {h : rHp} {f : Int32 → rHp → Prop}
theorem c_has1 {o : Nat} (ht : t < 3) (hW : Wf B n σ) (hS : St t n σ h) (ho : o < n) (H : f 1 h) : rCall E (d + 1) mSt_has [pR (7*t+1), pI (nI o)] SH h (rPi SH f) := by
  have hn := hW.1.1
  refine vSt_has ht ⟨fun e => absurd e (nI_pos (by omega)), fun _ => ⟨fun e => absurd e ?_, fun _ => ⟨rfl, H⟩⟩⟩
  rw [St_n hW hS]
  exact nI_ge ho (by omega)
theorem c_has0 {a : Int32} (ht : t < 3) (hW : Wf B n σ) (hS : St t n σ h) (ha : a < 0 ∨ (¬ a < 0 ∧ nI n ≤ a)) (H : f 0 h) : rCall E (d + 1) mSt_has [pR (7*t+1), pI a] SH h (rPi SH f) := by
  refine vSt_has ht ⟨fun _ => ⟨rfl, H⟩, fun e => ⟨fun _ => ⟨rfl, H⟩, fun e2 => absurd ?_ e2⟩⟩
  rw [St_n hW hS]
  rcases ha with ha | ha
  · exact absurd ha e
  · exact ha.2
theorem c_lies {o : Nat} (ht : t < 3) (hW : Wf B n σ) (hS : St t n σ h) (ho : o < n) (H : f (if σ (13 + 5 * o) = 6 then 0 else 1) h) : rCall E (d + 1) mSt_lies [pR (7*t+1), pI (nI o)] SH h (rPi SH f) := by
  have hn := hW.1.1
  refine vSt_lies ht ⟨fun e => absurd e (nI_pos (by omega)), fun _ => ⟨fun e => absurd e ?_, fun _ => ⟨vp_in_nI (by omega) (by omega), fun e => ⟨rfl, ?_⟩, fun e => ⟨rfl, ?_⟩⟩⟩⟩
  · rw [St_n hW hS]
    exact nI_ge ho (by omega)
  · rw [nI_clamp (by omega), St_p hS ho] at e
    rwa [if_pos e] at H
  · rw [nI_clamp (by omega), St_p hS ho] at e
    rwa [if_neg e] at H
theorem c_setLying (ht : t < 3) (hW : Wf B n σ) (hS : St t n σ h) (H : f (nI (nLy σ n)) h) : rCall E (d + 1) mSt_setLying [pR (7*t+1)] SH h (rPi SH f) := by
  have hn := hW.1.1
  have hN := St_n hW hS
  apply vSt_setLying ht
  refine loopUp (P := fun i => rR E (rCall E d) mSt_setLying (rPi SH f) 4 [some (pR (7*t+1)), some (pI (nI (nLy σ i))), some (pI (nI i))] [] SH h 0 0) n ?_ ?_
  · intro i hi hP
    refine vSt_setLying_4 ht ⟨fun e => absurd e (by rw [hN]; exact nI_ge hi (by omega)), fun _ => ⟨vp_in_nI (by omega) (by omega), fun e => ?_, fun e => ?_⟩⟩
    · rw [nI_clamp (by omega), St_p hS hi] at e
      simp only [nLy, if_pos e, nI_succ] at hP
      exact hP
    · rw [nI_clamp (by omega), St_p hS hi] at e
      simp only [nLy, if_neg e, nI_succ] at hP
      rw [qbit i (by omega) _ (nLy_lt σ i)]
      exact hP
  · exact vSt_setLying_4 ht ⟨fun _ => ⟨rfl, H⟩, fun e => absurd (by rw [hN]; exact nI_le (Nat.le_refl n) (by omega)) e⟩
theorem c_setIn {p : Int32} (ht : t < 3) (hW : Wf B n σ) (hS : St t n σ h) (H : f (nI (nIn σ p n)) h) : rCall E (d + 1) mSt_setIn [pR (7*t+1), pI p] SH h (rPi SH f) := by
  have hn := hW.1.1
  have hN := St_n hW hS
  apply vSt_setIn ht
  refine loopUp (P := fun i => rR E (rCall E d) mSt_setIn (rPi SH f) 4 [some (pR (7*t+1)), some (pI p), some (pI (nI (nIn σ p i))), some (pI (nI i))] [] SH h 0 0) n ?_ ?_
  · intro i hi hP
    refine vSt_setIn_4 ht ⟨fun e => absurd e (by rw [hN]; exact nI_ge hi (by omega)), fun _ => ⟨vp_in_nI (by omega) (by omega), fun e => ?_, fun e => ?_⟩⟩
    · rw [nI_clamp (by omega), St_p hS hi] at e
      simp only [nIn, if_pos e, nI_succ] at hP
      rw [qbit i (by omega) _ (nIn_lt σ p i)]
      exact hP
    · rw [nI_clamp (by omega), St_p hS hi] at e
      simp only [nIn, if_neg e, nI_succ] at hP
      exact hP
  · exact vSt_setIn_4 ht ⟨fun _ => ⟨rfl, H⟩, fun e => absurd (by rw [hN]; exact nI_le (Nat.le_refl n) (by omega)) e⟩
theorem c_worthLying (ht : t < 3) (hW : Wf B n σ) (hS : St t n σ h) (H : f (qWo σ n) h) : rCall E (d + 1) mSt_worthLying [pR (7*t+1)] SH h (rPi SH f) := by
  have hn := hW.1.1
  have hN := St_n hW hS
  apply vSt_worthLying ht
  refine loopUp (P := fun i => rR E (rCall E d) mSt_worthLying (rPi SH f) 4 [some (pR (7*t+1)), some (pI (qWo σ i)), some (pI (nI i))] [] SH h 0 0) n ?_ ?_
  · intro i hi hP
    refine vSt_worthLying_4 ht ⟨fun e => absurd e (by rw [hN]; exact nI_ge hi (by omega)), fun _ => ⟨vp_in_nI (by omega) (by omega), fun e => ?_, fun e => ⟨vp_in_nI (by omega) (by omega), ?_⟩⟩⟩
    · rw [nI_clamp (by omega), St_p hS hi] at e
      simp only [qWo, if_pos e, nI_succ] at hP
      exact hP
    · rw [nI_clamp (by omega), St_p hS hi] at e
      simp only [qWo, if_neg e, nI_succ] at hP
      rw [nI_clamp (by omega), St_w hS hi]
      exact hP
  · exact vSt_worthLying_4 ht ⟨fun _ => ⟨rfl, H⟩, fun e => absurd (by rw [hN]; exact nI_le (Nat.le_refl n) (by omega)) e⟩
end
