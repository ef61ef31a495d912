/-! rows of numbers, and what both sides ask of them -/
theorem loopUp {P : Nat → Prop} (n : Nat) (step : ∀ i, i < n → P (i + 1) → P i) (last : P n) : P 0 := by
  have H : ∀ k, k ≤ n → P (n - k) := by
    intro k
    induction k with
    | zero => intro _; exact last
    | succ k ih =>
      intro hk
      have h1 := step (n - (k + 1)) (by omega)
      rw [show n - (k + 1) + 1 = n - k by omega] at h1
      exact h1 (ih (by omega))
  have := H n (Nat.le_refl n)
  rwa [Nat.sub_self] at this
def sW (σ : Nat → Int32) (k : Nat) (x : Int32) : Nat → Int32 := fun i => if i = k then x else σ i
theorem sW_eq {σ : Nat → Int32} {k : Nat} {x : Int32} : sW σ k x k = x := if_pos rfl
theorem sW_ne {σ : Nat → Int32} {k i : Nat} {x : Int32} (h : i ≠ k) : sW σ k x i = σ i := if_neg h
theorem rUp_o {h : rHp} {a b j : Nat} {x : Int32} (hb : b ≠ a) : rUp h a j x b = h b := by
  funext i
  exact if_neg hb
theorem rUp_a {h : rHp} {a j : Nat} {x : Int32} : rUp h a j x a = sW (h a) j x := by
  funext i
  exact if_pos rfl
theorem rCp_o {h : rHp} {a b c sp dp n : Nat} (hb : b ≠ a) : rCp h c a sp dp n b = h b := by
  funext i
  exact if_neg hb
theorem rCp_a {h : rHp} {a c i n : Nat} (hi : i < n) : rCp h c a 0 0 n a i = h c i := by
  show (if a = a then (if 0 ≤ i ∧ i < 0 + n then h c (0 + (i - 0)) else h a i) else h a i) = h c i
  rw [if_pos rfl, if_pos (by omega)]
  congr 1
  omega
/-- what stands in a street of the class, as one row -/
def vS (t : Nat) (h : rHp) (k : Nat) : Int32 :=
  if k < 10 then
    (match k with
    | 0 => h (7*t+1) 6 | 1 => h (7*t+1) 8 | 2 => h (7*t+1) 11 | 3 => h (7*t+1) 9 | 4 => h (7*t+1) 10
    | 5 => h (7*t+7) 0 | 6 => h (7*t+7) 1 | 7 => h (7*t+7) 2 | 8 => h (7*t+7) 3 | _ => h (7*t+1) 7)
  else (match (k - 10) % 5 with
    | 0 => h (7*t+2) ((k - 10) / 5) | 1 => h (7*t+3) ((k - 10) / 5) | 2 => h (7*t+4) ((k - 10) / 5)
    | 3 => h (7*t+5) ((k - 10) / 5) | _ => h (7*t+6) ((k - 10) / 5) + 1)
theorem vS_0 {t : Nat} {h : rHp} : vS t h 0 = h (7*t+1) 6 := rfl
theorem vS_1 {t : Nat} {h : rHp} : vS t h 1 = h (7*t+1) 8 := rfl
theorem vS_2 {t : Nat} {h : rHp} : vS t h 2 = h (7*t+1) 11 := rfl
theorem vS_3 {t : Nat} {h : rHp} : vS t h 3 = h (7*t+1) 9 := rfl
theorem vS_4 {t : Nat} {h : rHp} : vS t h 4 = h (7*t+1) 10 := rfl
theorem vS_9 {t : Nat} {h : rHp} : vS t h 9 = h (7*t+1) 7 := rfl
theorem vS_l {t : Nat} {h : rHp} {i : Nat} (hi : i < 4) : vS t h (5 + i) = h (7*t+7) i := by
  match i, hi with
  | 0, _ => rfl
  | 1, _ => rfl
  | 2, _ => rfl
  | 3, _ => rfl
theorem vS_k {t : Nat} {h : rHp} {i : Nat} : vS t h (10 + 5 * i) = h (7*t+2) i := by
  unfold vS
  rw [if_neg (by omega), show (10 + 5 * i - 10) % 5 = 0 by omega, show (10 + 5 * i - 10) / 5 = i by omega]
  rfl
theorem vS_w {t : Nat} {h : rHp} {i : Nat} : vS t h (11 + 5 * i) = h (7*t+3) i := by
  unfold vS
  rw [if_neg (by omega), show (11 + 5 * i - 10) % 5 = 1 by omega, show (11 + 5 * i - 10) / 5 = i by omega]
  rfl
theorem vS_u {t : Nat} {h : rHp} {i : Nat} : vS t h (12 + 5 * i) = h (7*t+4) i := by
  unfold vS
  rw [if_neg (by omega), show (12 + 5 * i - 10) % 5 = 2 by omega, show (12 + 5 * i - 10) / 5 = i by omega]
  rfl
theorem vS_p {t : Nat} {h : rHp} {i : Nat} : vS t h (13 + 5 * i) = h (7*t+5) i := by
  unfold vS
  rw [if_neg (by omega), show (13 + 5 * i - 10) % 5 = 3 by omega, show (13 + 5 * i - 10) / 5 = i by omega]
  rfl
theorem vS_t {t : Nat} {h : rHp} {i : Nat} : vS t h (14 + 5 * i) = h (7*t+6) i + 1 := by
  unfold vS
  rw [if_neg (by omega), show (14 + 5 * i - 10) % 5 = 4 by omega, show (14 + 5 * i - 10) / 5 = i by omega]
  rfl
theorem vS_ext {t : Nat} {h : rHp} {ρ : Nat → Int32} (h0 : h (7*t+1) 6 = ρ 0) (h1 : h (7*t+1) 8 = ρ 1) (h2 : h (7*t+1) 11 = ρ 2)
    (h3 : h (7*t+1) 9 = ρ 3) (h4 : h (7*t+1) 10 = ρ 4) (h9 : h (7*t+1) 7 = ρ 9) (hl : ∀ i, i < 4 → h (7*t+7) i = ρ (5 + i))
    (hk : ∀ i, h (7*t+2) i = ρ (10 + 5 * i)) (hw : ∀ i, h (7*t+3) i = ρ (11 + 5 * i)) (hu : ∀ i, h (7*t+4) i = ρ (12 + 5 * i))
    (hp : ∀ i, h (7*t+5) i = ρ (13 + 5 * i)) (ht : ∀ i, h (7*t+6) i + 1 = ρ (14 + 5 * i)) : vS t h = ρ := by
  funext k
  by_cases hk10 : k < 10
  · have : k = 0 ∨ k = 1 ∨ k = 2 ∨ k = 3 ∨ k = 4 ∨ k = 9 ∨ ∃ i, i < 4 ∧ k = 5 + i := by
      rcases (by omega : k < 5 ∨ k = 9 ∨ (5 ≤ k ∧ k < 9)) with h | h | h
      · omega
      · omega
      · exact Or.inr (Or.inr (Or.inr (Or.inr (Or.inr (Or.inr ⟨k - 5, by omega, by omega⟩)))))
    rcases this with rfl | rfl | rfl | rfl | rfl | rfl | ⟨i, hi, rfl⟩
    · exact h0
    · exact h1
    · exact h2
    · exact h3
    · exact h4
    · exact h9
    · rw [vS_l hi]; exact hl i hi
  · rcases (by omega : (k - 10) % 5 = 0 ∨ (k - 10) % 5 = 1 ∨ (k - 10) % 5 = 2 ∨ (k - 10) % 5 = 3 ∨ (k - 10) % 5 = 4) with e | e | e | e | e
    · rw [show k = 10 + 5 * ((k - 10) / 5) by omega, vS_k]; exact hk _
    · rw [show k = 11 + 5 * ((k - 10) / 5) by omega, vS_w]; exact hw _
    · rw [show k = 12 + 5 * ((k - 10) / 5) by omega, vS_u]; exact hu _
    · rw [show k = 13 + 5 * ((k - 10) / 5) by omega, vS_p]; exact hp _
    · rw [show k = 14 + 5 * ((k - 10) / 5) by omega, vS_t]; exact ht _
theorem vS_far {t : Nat} {h h' : rHp} (H : ∀ a, 7*t+1 ≤ a → a ≤ 7*t+7 → h' a = h a) : vS t h' = vS t h := by
  apply vS_ext
  · rw [H _ (by omega) (by omega)]; rfl
  · rw [H _ (by omega) (by omega)]; rfl
  · rw [H _ (by omega) (by omega)]; rfl
  · rw [H _ (by omega) (by omega)]; rfl
  · rw [H _ (by omega) (by omega)]; rfl
  · rw [H _ (by omega) (by omega)]; rfl
  · intro i hi; rw [H _ (by omega) (by omega), vS_l hi]
  · intro i; rw [H _ (by omega) (by omega), vS_k]
  · intro i; rw [H _ (by omega) (by omega), vS_w]
  · intro i; rw [H _ (by omega) (by omega), vS_u]
  · intro i; rw [H _ (by omega) (by omega), vS_p]
  · intro i; rw [H _ (by omega) (by omega), vS_t]
theorem vS_up_0 {t : Nat} {h : rHp} {x : Int32} : vS t (rUp h (7*t+1) 6 x) = sW (vS t h) (0) x := by
  apply vS_ext
  · rw [rUp_a, sW_eq, sW_eq]
  · rw [rUp_a, sW_ne (by decide), sW_ne (by decide)]; rfl
  · rw [rUp_a, sW_ne (by decide), sW_ne (by decide)]; rfl
  · rw [rUp_a, sW_ne (by decide), sW_ne (by decide)]; rfl
  · rw [rUp_a, sW_ne (by decide), sW_ne (by decide)]; rfl
  · rw [rUp_a, sW_ne (by decide), sW_ne (by decide)]; rfl
  · intro j hj; rw [rUp_o (by omega), sW_ne (by omega), vS_l hj]
  · intro j; rw [rUp_o (by omega), sW_ne (by omega), vS_k]
  · intro j; rw [rUp_o (by omega), sW_ne (by omega), vS_w]
  · intro j; rw [rUp_o (by omega), sW_ne (by omega), vS_u]
  · intro j; rw [rUp_o (by omega), sW_ne (by omega), vS_p]
  · intro j; rw [rUp_o (by omega), sW_ne (by omega), vS_t]
theorem vS_up_1 {t : Nat} {h : rHp} {x : Int32} : vS t (rUp h (7*t+1) 8 x) = sW (vS t h) (1) x := by
  apply vS_ext
  · rw [rUp_a, sW_ne (by decide), sW_ne (by decide)]; rfl
  · rw [rUp_a, sW_eq, sW_eq]
  · rw [rUp_a, sW_ne (by decide), sW_ne (by decide)]; rfl
  · rw [rUp_a, sW_ne (by decide), sW_ne (by decide)]; rfl
  · rw [rUp_a, sW_ne (by decide), sW_ne (by decide)]; rfl
  · rw [rUp_a, sW_ne (by decide), sW_ne (by decide)]; rfl
  · intro j hj; rw [rUp_o (by omega), sW_ne (by omega), vS_l hj]
  · intro j; rw [rUp_o (by omega), sW_ne (by omega), vS_k]
  · intro j; rw [rUp_o (by omega), sW_ne (by omega), vS_w]
  · intro j; rw [rUp_o (by omega), sW_ne (by omega), vS_u]
  · intro j; rw [rUp_o (by omega), sW_ne (by omega), vS_p]
  · intro j; rw [rUp_o (by omega), sW_ne (by omega), vS_t]
theorem vS_up_2 {t : Nat} {h : rHp} {x : Int32} : vS t (rUp h (7*t+1) 11 x) = sW (vS t h) (2) x := by
  apply vS_ext
  · rw [rUp_a, sW_ne (by decide), sW_ne (by decide)]; rfl
  · rw [rUp_a, sW_ne (by decide), sW_ne (by decide)]; rfl
  · rw [rUp_a, sW_eq, sW_eq]
  · rw [rUp_a, sW_ne (by decide), sW_ne (by decide)]; rfl
  · rw [rUp_a, sW_ne (by decide), sW_ne (by decide)]; rfl
  · rw [rUp_a, sW_ne (by decide), sW_ne (by decide)]; rfl
  · intro j hj; rw [rUp_o (by omega), sW_ne (by omega), vS_l hj]
  · intro j; rw [rUp_o (by omega), sW_ne (by omega), vS_k]
  · intro j; rw [rUp_o (by omega), sW_ne (by omega), vS_w]
  · intro j; rw [rUp_o (by omega), sW_ne (by omega), vS_u]
  · intro j; rw [rUp_o (by omega), sW_ne (by omega), vS_p]
  · intro j; rw [rUp_o (by omega), sW_ne (by omega), vS_t]
theorem vS_up_3 {t : Nat} {h : rHp} {x : Int32} : vS t (rUp h (7*t+1) 9 x) = sW (vS t h) (3) x := by
  apply vS_ext
  · rw [rUp_a, sW_ne (by decide), sW_ne (by decide)]; rfl
  · rw [rUp_a, sW_ne (by decide), sW_ne (by decide)]; rfl
  · rw [rUp_a, sW_ne (by decide), sW_ne (by decide)]; rfl
  · rw [rUp_a, sW_eq, sW_eq]
  · rw [rUp_a, sW_ne (by decide), sW_ne (by decide)]; rfl
  · rw [rUp_a, sW_ne (by decide), sW_ne (by decide)]; rfl
  · intro j hj; rw [rUp_o (by omega), sW_ne (by omega), vS_l hj]
  · intro j; rw [rUp_o (by omega), sW_ne (by omega), vS_k]
  · intro j; rw [rUp_o (by omega), sW_ne (by omega), vS_w]
  · intro j; rw [rUp_o (by omega), sW_ne (by omega), vS_u]
  · intro j; rw [rUp_o (by omega), sW_ne (by omega), vS_p]
  · intro j; rw [rUp_o (by omega), sW_ne (by omega), vS_t]
theorem vS_up_4 {t : Nat} {h : rHp} {x : Int32} : vS t (rUp h (7*t+1) 10 x) = sW (vS t h) (4) x := by
  apply vS_ext
  · rw [rUp_a, sW_ne (by decide), sW_ne (by decide)]; rfl
  · rw [rUp_a, sW_ne (by decide), sW_ne (by decide)]; rfl
  · rw [rUp_a, sW_ne (by decide), sW_ne (by decide)]; rfl
  · rw [rUp_a, sW_ne (by decide), sW_ne (by decide)]; rfl
  · rw [rUp_a, sW_eq, sW_eq]
  · rw [rUp_a, sW_ne (by decide), sW_ne (by decide)]; rfl
  · intro j hj; rw [rUp_o (by omega), sW_ne (by omega), vS_l hj]
  · intro j; rw [rUp_o (by omega), sW_ne (by omega), vS_k]
  · intro j; rw [rUp_o (by omega), sW_ne (by omega), vS_w]
  · intro j; rw [rUp_o (by omega), sW_ne (by omega), vS_u]
  · intro j; rw [rUp_o (by omega), sW_ne (by omega), vS_p]
  · intro j; rw [rUp_o (by omega), sW_ne (by omega), vS_t]
theorem vS_up_9 {t : Nat} {h : rHp} {x : Int32} : vS t (rUp h (7*t+1) 7 x) = sW (vS t h) (9) x := by
  apply vS_ext
  · rw [rUp_a, sW_ne (by decide), sW_ne (by decide)]; rfl
  · rw [rUp_a, sW_ne (by decide), sW_ne (by decide)]; rfl
  · rw [rUp_a, sW_ne (by decide), sW_ne (by decide)]; rfl
  · rw [rUp_a, sW_ne (by decide), sW_ne (by decide)]; rfl
  · rw [rUp_a, sW_ne (by decide), sW_ne (by decide)]; rfl
  · rw [rUp_a, sW_eq, sW_eq]
  · intro j hj; rw [rUp_o (by omega), sW_ne (by omega), vS_l hj]
  · intro j; rw [rUp_o (by omega), sW_ne (by omega), vS_k]
  · intro j; rw [rUp_o (by omega), sW_ne (by omega), vS_w]
  · intro j; rw [rUp_o (by omega), sW_ne (by omega), vS_u]
  · intro j; rw [rUp_o (by omega), sW_ne (by omega), vS_p]
  · intro j; rw [rUp_o (by omega), sW_ne (by omega), vS_t]
theorem vS_up_l {t : Nat} {h : rHp} {i : Nat} {x : Int32} (hi : i < 4) : vS t (rUp h (7*t+7) i x) = sW (vS t h) (5 + i) x := by
  apply vS_ext
  · rw [rUp_o (by omega), sW_ne (by omega)]; rfl
  · rw [rUp_o (by omega), sW_ne (by omega)]; rfl
  · rw [rUp_o (by omega), sW_ne (by omega)]; rfl
  · rw [rUp_o (by omega), sW_ne (by omega)]; rfl
  · rw [rUp_o (by omega), sW_ne (by omega)]; rfl
  · rw [rUp_o (by omega), sW_ne (by omega)]; rfl
  · intro j hj; rw [rUp_a]; by_cases e : j = i
    · subst e; rw [sW_eq, sW_eq]
    · rw [sW_ne e, sW_ne (by omega), vS_l hj]
  · intro j; rw [rUp_o (by omega), sW_ne (by omega), vS_k]
  · intro j; rw [rUp_o (by omega), sW_ne (by omega), vS_w]
  · intro j; rw [rUp_o (by omega), sW_ne (by omega), vS_u]
  · intro j; rw [rUp_o (by omega), sW_ne (by omega), vS_p]
  · intro j; rw [rUp_o (by omega), sW_ne (by omega), vS_t]
theorem vS_up_k {t : Nat} {h : rHp} {i : Nat} {x : Int32} : vS t (rUp h (7*t+2) i x) = sW (vS t h) (10 + 5 * i) x := by
  apply vS_ext
  · rw [rUp_o (by omega), sW_ne (by omega)]; rfl
  · rw [rUp_o (by omega), sW_ne (by omega)]; rfl
  · rw [rUp_o (by omega), sW_ne (by omega)]; rfl
  · rw [rUp_o (by omega), sW_ne (by omega)]; rfl
  · rw [rUp_o (by omega), sW_ne (by omega)]; rfl
  · rw [rUp_o (by omega), sW_ne (by omega)]; rfl
  · intro j hj; rw [rUp_o (by omega), sW_ne (by omega), vS_l hj]
  · intro j; rw [rUp_a]; by_cases e : j = i
    · subst e; rw [sW_eq, sW_eq]
    · rw [sW_ne e, sW_ne (by omega), vS_k]
  · intro j; rw [rUp_o (by omega), sW_ne (by omega), vS_w]
  · intro j; rw [rUp_o (by omega), sW_ne (by omega), vS_u]
  · intro j; rw [rUp_o (by omega), sW_ne (by omega), vS_p]
  · intro j; rw [rUp_o (by omega), sW_ne (by omega), vS_t]
theorem vS_up_w {t : Nat} {h : rHp} {i : Nat} {x : Int32} : vS t (rUp h (7*t+3) i x) = sW (vS t h) (11 + 5 * i) x := by
  apply vS_ext
  · rw [rUp_o (by omega), sW_ne (by omega)]; rfl
  · rw [rUp_o (by omega), sW_ne (by omega)]; rfl
  · rw [rUp_o (by omega), sW_ne (by omega)]; rfl
  · rw [rUp_o (by omega), sW_ne (by omega)]; rfl
  · rw [rUp_o (by omega), sW_ne (by omega)]; rfl
  · rw [rUp_o (by omega), sW_ne (by omega)]; rfl
  · intro j hj; rw [rUp_o (by omega), sW_ne (by omega), vS_l hj]
  · intro j; rw [rUp_o (by omega), sW_ne (by omega), vS_k]
  · intro j; rw [rUp_a]; by_cases e : j = i
    · subst e; rw [sW_eq, sW_eq]
    · rw [sW_ne e, sW_ne (by omega), vS_w]
  · intro j; rw [rUp_o (by omega), sW_ne (by omega), vS_u]
  · intro j; rw [rUp_o (by omega), sW_ne (by omega), vS_p]
  · intro j; rw [rUp_o (by omega), sW_ne (by omega), vS_t]
theorem vS_up_u {t : Nat} {h : rHp} {i : Nat} {x : Int32} : vS t (rUp h (7*t+4) i x) = sW (vS t h) (12 + 5 * i) x := by
  apply vS_ext
  · rw [rUp_o (by omega), sW_ne (by omega)]; rfl
  · rw [rUp_o (by omega), sW_ne (by omega)]; rfl
  · rw [rUp_o (by omega), sW_ne (by omega)]; rfl
  · rw [rUp_o (by omega), sW_ne (by omega)]; rfl
  · rw [rUp_o (by omega), sW_ne (by omega)]; rfl
  · rw [rUp_o (by omega), sW_ne (by omega)]; rfl
  · intro j hj; rw [rUp_o (by omega), sW_ne (by omega), vS_l hj]
  · intro j; rw [rUp_o (by omega), sW_ne (by omega), vS_k]
  · intro j; rw [rUp_o (by omega), sW_ne (by omega), vS_w]
  · intro j; rw [rUp_a]; by_cases e : j = i
    · subst e; rw [sW_eq, sW_eq]
    · rw [sW_ne e, sW_ne (by omega), vS_u]
  · intro j; rw [rUp_o (by omega), sW_ne (by omega), vS_p]
  · intro j; rw [rUp_o (by omega), sW_ne (by omega), vS_t]
theorem vS_up_p {t : Nat} {h : rHp} {i : Nat} {x : Int32} : vS t (rUp h (7*t+5) i x) = sW (vS t h) (13 + 5 * i) x := by
  apply vS_ext
  · rw [rUp_o (by omega), sW_ne (by omega)]; rfl
  · rw [rUp_o (by omega), sW_ne (by omega)]; rfl
  · rw [rUp_o (by omega), sW_ne (by omega)]; rfl
  · rw [rUp_o (by omega), sW_ne (by omega)]; rfl
  · rw [rUp_o (by omega), sW_ne (by omega)]; rfl
  · rw [rUp_o (by omega), sW_ne (by omega)]; rfl
  · intro j hj; rw [rUp_o (by omega), sW_ne (by omega), vS_l hj]
  · intro j; rw [rUp_o (by omega), sW_ne (by omega), vS_k]
  · intro j; rw [rUp_o (by omega), sW_ne (by omega), vS_w]
  · intro j; rw [rUp_o (by omega), sW_ne (by omega), vS_u]
  · intro j; rw [rUp_a]; by_cases e : j = i
    · subst e; rw [sW_eq, sW_eq]
    · rw [sW_ne e, sW_ne (by omega), vS_p]
  · intro j; rw [rUp_o (by omega), sW_ne (by omega), vS_t]
theorem vS_up_t {t : Nat} {h : rHp} {i : Nat} {x : Int32} : vS t (rUp h (7*t+6) i x) = sW (vS t h) (14 + 5 * i) (x + 1) := by
  apply vS_ext
  · rw [rUp_o (by omega), sW_ne (by omega)]; rfl
  · rw [rUp_o (by omega), sW_ne (by omega)]; rfl
  · rw [rUp_o (by omega), sW_ne (by omega)]; rfl
  · rw [rUp_o (by omega), sW_ne (by omega)]; rfl
  · rw [rUp_o (by omega), sW_ne (by omega)]; rfl
  · rw [rUp_o (by omega), sW_ne (by omega)]; rfl
  · intro j hj; rw [rUp_o (by omega), sW_ne (by omega), vS_l hj]
  · intro j; rw [rUp_o (by omega), sW_ne (by omega), vS_k]
  · intro j; rw [rUp_o (by omega), sW_ne (by omega), vS_w]
  · intro j; rw [rUp_o (by omega), sW_ne (by omega), vS_u]
  · intro j; rw [rUp_o (by omega), sW_ne (by omega), vS_p]
  · intro j; rw [rUp_a]; by_cases e : j = i
    · subst e; rw [sW_eq, sW_eq]
    · rw [sW_ne e, sW_ne (by omega), vS_t]
