/-! what the class and the model hold alike -/
theorem t0 : 0 < 3 := by decide
theorem t1 : 1 < 3 := by decide
theorem t2 : 2 < 3 := by decide
def FrC (h h' : rHp) : Prop := ∀ b, b = 0 ∨ 15 ≤ b → h' b = h b
theorem FrC_rf {h : rHp} : FrC h h := fun _ _ => rfl
theorem FrC_0 {h h' : rHp} (a : Fr 0 h h') : FrC h h' := fun b hb => a b (by omega)
theorem FrC_1 {h h' : rHp} (a : Fr 1 h h') : FrC h h' := fun b hb => a b (by omega)
theorem FrC_tr {h h' h2 : rHp} (a : FrC h h') (b : FrC h' h2) : FrC h h2 := fun c hc => (b c hc).trans (a c hc)
theorem St_far {t n : Nat} {σ : Nat → Int32} {h h' : rHp} (hS : St t n σ h) (H : ∀ a, 7*t+1 ≤ a → a ≤ 7*t+7 → h' a = h a) : St t n σ h' := by
  show AG _ (vS t h') _
  rw [vS_far H]
  exact hS
theorem S0_1 {n : Nat} {σ : Nat → Int32} {h h' : rHp} (hS : St 0 n σ h) (a : Fr 1 h h') : St 0 n σ h' := St_far hS (fun b h1 h2 => a b (by omega))
theorem Mo_far {n : Nat} {σ : Nat → Int32} {h h' : rHp} (hM : Mo n σ h) (a : h' 36 = h 36) : Mo n σ h' := by
  show AG _ (h' 36) _
  rw [a]
  exact hM
def RK (B : Nat) (h : rHp) : Prop := (h 0 9 = 0 ∧ h 35 5 = 0) ∨ (h 0 9 = 1 ∧ h 35 5 = 1 ∧ ∃ n κ, Wf B n κ ∧ St 2 n κ h ∧ AG (10 + 5 * n) (h 37) κ)
def RT (h : rHp) : Prop := ∃ s, s ≤ 200 ∧ h 22 1 = nI s ∧ h 35 7 = nI s ∧ ∀ i, i < s → ∃ c, c < 256 ∧ h 41 i = nI c ∧ h 23 i = (nI c).toInt8.toInt32
def RR (h : rHp) : Prop := ∃ r, r ≤ 10 ∧ h 0 8 = nI r ∧ h 35 14 = nI r ∧ ∀ j, j < 3 * r → h 34 j = h 42 j
def RS (h : rHp) : Prop := ∀ t, t < 4 → (h 25 t = -1 ∧ h 43 t = -1) ∨ ∃ q z, q < 4 ∧ z ≤ 40 ∧ h 25 t = nI q ∧ h 43 t = nI q ∧ h 26 t = nI z ∧ h 44 t = nI z ∧ ∀ i, i < z → h 27 (40 * t + i) = h 45 (40 * t + i)
def RV (h : rHp) : Prop := ∀ s, s < 4 → (h 29 s = -1 ∧ h 30 s = -1 ∧ h 46 s = 0) ∨ (∃ o, o < 8 ∧ h 29 s = nI o ∧ h 30 s = -1 ∧ h 46 s = 1 ∧ h 47 s = nI o) ∨ ∃ q z, q < 4 ∧ z ≤ 40 ∧ h 29 s = -1 ∧ h 30 s = nI q ∧ h 31 s = nI z ∧ h 46 s = 2 ∧ h 47 s = nI q ∧ h 48 s = nI z
def RA (h : rHp) : Prop := ∃ r, r ≤ 30 ∧ h 32 1 = nI r ∧ h 35 22 = nI r ∧ ∀ j, j < r → h 33 j = h 49 j
def Rest (B : Nat) (h : rHp) : Prop := RK B h ∧ RT h ∧ RR h ∧ RS h ∧ RV h ∧ RA h
def Rel (B : Nat) (h : rHp) : Prop := (∃ n σ, Wf B n σ ∧ St 0 n σ h ∧ Mo n σ h) ∧ Rest B h
theorem RK_le {B : Nat} {h : rHp} (hB : B + 1 < 1000000) (H : RK B h) : RK (B + 1) h := by
  rcases H with H | ⟨a, b, n, κ, c, e, g⟩
  · exact Or.inl H
  · exact Or.inr ⟨a, b, n, κ, Wf_le c (by omega) hB, e, g⟩
theorem RK_far {B : Nat} {h h' : rHp} (H : RK B h) (e0 : h' 0 9 = h 0 9) (e1 : h' 35 5 = h 35 5) (e2 : ∀ b, 15 ≤ b → b ≤ 21 → h' b = h b) (e3 : h' 37 = h 37) : RK B h' := by
  rcases H with ⟨a, b⟩ | ⟨a, b, n, κ, c, e, g⟩
  · exact Or.inl ⟨e0.trans a, e1.trans b⟩
  · exact Or.inr ⟨e0.trans a, e1.trans b, n, κ, c, St_far e (fun b h1 h2 => e2 b (by omega) (by omega)), by rw [e3]; exact g⟩
theorem RT_far {h h' : rHp} (H : RT h) (e0 : h' 22 1 = h 22 1) (e1 : h' 35 7 = h 35 7) (e2 : h' 23 = h 23) (e3 : h' 41 = h 41) : RT h' := by
  unfold RT at H ⊢
  rw [e0, e1, e2, e3]
  exact H
theorem RR_far {h h' : rHp} (H : RR h) (e0 : h' 0 8 = h 0 8) (e1 : h' 35 14 = h 35 14) (e2 : h' 34 = h 34) (e3 : h' 42 = h 42) : RR h' := by
  unfold RR at H ⊢
  rw [e0, e1, e2, e3]
  exact H
theorem RS_far {h h' : rHp} (H : RS h) (e0 : h' 25 = h 25) (e1 : h' 26 = h 26) (e2 : h' 27 = h 27) (e3 : h' 43 = h 43) (e4 : h' 44 = h 44) (e5 : h' 45 = h 45) : RS h' := by
  unfold RS at H ⊢
  rw [e0, e1, e2, e3, e4, e5]
  exact H
theorem RV_far {h h' : rHp} (H : RV h) (e0 : h' 29 = h 29) (e1 : h' 30 = h 30) (e2 : h' 31 = h 31) (e3 : h' 46 = h 46) (e4 : h' 47 = h 47) (e5 : h' 48 = h 48) : RV h' := by
  unfold RV at H ⊢
  rw [e0, e1, e2, e3, e4, e5]
  exact H
theorem RA_far {h h' : rHp} (H : RA h) (e0 : h' 32 1 = h 32 1) (e1 : h' 35 22 = h 35 22) (e2 : h' 33 = h 33) (e3 : h' 49 = h 49) : RA h' := by
  unfold RA at H ⊢
  rw [e0, e1, e2, e3]
  exact H
theorem Rest_far {B : Nat} {h h' : rHp} (hB : B + 1 < 1000000) (H : Rest B h) (e : ∀ b, b = 0 ∨ (15 ≤ b ∧ b ≤ 35) ∨ b = 37 ∨ 41 ≤ b → h' b = h b) : Rest (B + 1) h' := by
  obtain ⟨h1, h2, h3, h4, h5, h6⟩ := H
  refine ⟨RK_far (RK_le hB h1) ?_ ?_ (fun b c d => e b (by omega)) (e 37 (by omega)), RT_far h2 ?_ ?_ (e 23 (by omega)) (e 41 (by omega)), RR_far h3 ?_ ?_ (e 34 (by omega)) (e 42 (by omega)),
    RS_far h4 (e 25 (by omega)) (e 26 (by omega)) (e 27 (by omega)) (e 43 (by omega)) (e 44 (by omega)) (e 45 (by omega)),
    RV_far h5 (e 29 (by omega)) (e 30 (by omega)) (e 31 (by omega)) (e 46 (by omega)) (e 47 (by omega)) (e 48 (by omega)), RA_far h6 ?_ ?_ (e 33 (by omega)) (e 49 (by omega))⟩
  · rw [e 0 (by omega)]
  · rw [e 35 (by omega)]
  · rw [e 22 (by omega)]
  · rw [e 35 (by omega)]
  · rw [e 0 (by omega)]
  · rw [e 35 (by omega)]
  · rw [e 32 (by omega)]
  · rw [e 35 (by omega)]
/-- both sides answer alike, and hold alike behind it -/
def Two (E : rE) (B : Nat) (h : rHp) (Mc Mm : rM) (as : List rPV) : Prop := rCall E 40 Mc (pR 0 :: as) SH h (rPi SH (fun x h1 => rCall E 40 Mm (pR 35 :: as) SH h1 (rPi SH (fun y h2 => x = y ∧ Rel (B + 1) h2))))
/-- a call that asks and alters the street alone -/
def OneC (E : rE) (Mc : rM) (as : List rPV) (n : Nat) (σ : Nat → Int32) (a : Int32) (n' : Nat) (σ' : Nat → Int32) : Prop := ∀ (h : rHp) (f : Int32 → rHp → Prop), St 0 n σ h → (∀ h', St 0 n' σ' h' → FrC h h' → f a h') → rCall E 40 Mc (pR 0 :: as) SH h (rPi SH f)
def OneM (E : rE) (Mm : rM) (as : List rPV) (n : Nat) (σ : Nat → Int32) (a : Int32) (n' : Nat) (σ' : Nat → Int32) : Prop := ∀ (h : rHp) (f : Int32 → rHp → Prop), Mo n σ h → (∀ h', Mo n' σ' h' → FrM h h' → f a h') → rCall E 40 Mm (pR 35 :: as) SH h (rPi SH f)
def Op (E : rE) (B : Nat) (Mc Mm : rM) (as : List rPV) : Prop := ∀ n σ, Wf B n σ → ∃ (a : Int32) (n' : Nat) (σ' : Nat → Int32), Wf (B + 1) n' σ' ∧ OneC E Mc as n σ a n' σ' ∧ OneM E Mm as n σ a n' σ'
theorem op_st {E : rE} {B : Nat} {h : rHp} {Mc Mm : rM} {as : List rPV} (hB : B + 1 < 1000000) (hR : Rel B h) (H : Op E B Mc Mm as) : Two E B h Mc Mm as := by
  obtain ⟨⟨n, σ, hW, hS, hM⟩, hr⟩ := hR
  obtain ⟨a, n', σ', hW', hc, hm⟩ := H n σ hW
  refine hc h _ hS (fun h1 s1 f1 => hm h1 _ (Mo_far hM (f1 36 (by omega))) (fun h2 s2 f2 => ⟨rfl, ⟨n', σ', hW', St_far s1 (fun b c d => f2 b (by omega) (by omega) (by omega) (by omega)), s2⟩, ?_⟩))
  exact Rest_far hB hr (fun b hb => (f2 b (by omega) (by omega) (by omega) (by omega)).trans (f1 b (by omega)))
theorem op_no {E : rE} {B n : Nat} {σ : Nat → Int32} {Mc Mm : rM} {as : List rPV} (hB : B + 1 < 1000000) (hW : Wf B n σ) (a : Int32) (hc : ∀ (h : rHp) (f : Int32 → rHp → Prop), St 0 n σ h → (∀ h', Fr 1 h h' → f a h') → rCall E 40 Mc (pR 0 :: as) SH h (rPi SH f)) (hm : ∀ (h : rHp) (f : Int32 → rHp → Prop), Mo n σ h → (∀ h', (∀ k, k < 10 + 5 * n → h' 36 k = h 36 k) → FrM h h' → f a h') → rCall E 40 Mm (pR 35 :: as) SH h (rPi SH f)) : ∃ (a : Int32) (n' : Nat) (σ' : Nat → Int32), Wf (B + 1) n' σ' ∧ OneC E Mc as n σ a n' σ' ∧ OneM E Mm as n σ a n' σ' :=
  ⟨a, n, σ, Wf_le hW (by omega) hB, fun h f hS H => hc h f hS (fun h' e => H h' (S0_1 hS e) (FrC_1 e)), fun h f hM H => hm h f hM (fun h' e g => H h' (fun k hk => (e k hk).trans (hM k hk)) g)⟩
