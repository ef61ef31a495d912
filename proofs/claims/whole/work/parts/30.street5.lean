/-! small rows for the walks over plain trees; what is left of the street of the class -/
theorem o1 {A B : Prop} (b : B) : ((1:Int32) = 0 → A) ∧ (¬ (1:Int32) = 0 → B) := ⟨fun e => absurd e (by decide), fun _ => b⟩
theorem o0 {A B : Prop} (a : A) : ((0:Int32) = 0 → A) ∧ (¬ (0:Int32) = 0 → B) := ⟨fun _ => a, fun e => absurd rfl e⟩
/-- an argument that is no number from lo to hi -/
def Bd (a : Int32) (lo hi : Nat) : Prop := a.toInt < lo ∨ (hi : Int) < a.toInt
theorem i0 : (0:Int32).toInt = 0 := by decide
theorem qr (a : Int32) (lo hi : Nat) (hh : hi < 2 ^ 31) : (∃ o, lo ≤ o ∧ o ≤ hi ∧ a = nI o) ∨ Bd a lo hi := by
  by_cases h : Bd a lo hi
  · exact Or.inr h
  · refine Or.inl ?_
    unfold Bd at h
    have h0 : ¬ a < 0 := by
      rw [Int32.lt_iff_toInt_lt, i0]
      omega
    obtain ⟨j, hj, rfl⟩ := nI_of h0
    have e := nI_toInt hj
    exact ⟨j, by omega, by omega, rfl⟩
theorem bd_t {a : Int32} {lo hi : Nat} {A B : Prop} (hb : Bd a lo hi) (hl : lo < 2 ^ 31) (hh : hi < 2 ^ 31) (x : A) : (a < nI lo → A) ∧ (¬ a < nI lo → (a ≤ nI hi → B) ∧ (¬ a ≤ nI hi → A)) := by
  refine ⟨fun _ => x, fun e => ⟨fun e2 => ?_, fun _ => x⟩⟩
  rw [Int32.lt_iff_toInt_lt, nI_toInt hl] at e
  rw [Int32.le_iff_toInt_le, nI_toInt hh] at e2
  unfold Bd at hb
  omega
theorem bd_g {a : Int32} {lo hi : Nat} {A B : Prop} (hb : Bd a lo hi) (hl : lo < 2 ^ 31) (hh : hi < 2 ^ 31) (x : A) : (a < nI lo → A) ∧ (¬ a < nI lo → (nI hi < a → A) ∧ (¬ nI hi < a → B)) := by
  refine ⟨fun _ => x, fun e => ⟨fun _ => x, fun e2 => ?_⟩⟩
  rw [Int32.lt_iff_toInt_lt, nI_toInt hl] at e
  rw [Int32.lt_iff_toInt_lt, nI_toInt hh] at e2
  unfold Bd at hb
  omega
theorem sW_sW {σ : Nat → Int32} {k : Nat} {x y : Int32} : sW (sW σ k x) k y = sW σ k y := by
  funext j
  by_cases e : j = k
  · subst e; rw [sW_eq, sW_eq]
  · rw [sW_ne e, sW_ne e, sW_ne e]
theorem sW_id {σ : Nat → Int32} {k : Nat} : sW σ k (σ k) = σ := by
  funext j
  by_cases e : j = k
  · subst e; rw [sW_eq]
  · rw [sW_ne e]
section
variable {E : rE} {d : Nat} {h : rHp} {f : Int32 → rHp → Prop}
theorem c_wi1 {o m : Nat} (ho : o ≤ m) (hm : m < 2 ^ 31) (H : f 1 h) : rCall E (d + 1) mLa_within [pI (nI o), pI (nI m)] SH h (rPi SH f) :=
  vLa_within (br_f (nI_pos (by omega)) (br_f (nI_nlt ho hm) ⟨rfl, H⟩))
theorem c_wi0 {a : Int32} {m : Nat} (hb : Bd a 0 m) (hm : m < 2 ^ 31) (H : f 0 h) : rCall E (d + 1) mLa_within [pI a, pI (nI m)] SH h (rPi SH f) :=
  vLa_within (bd_g (lo := 0) hb (by decide) hm ⟨rfl, H⟩)
theorem c_near1 {o : Nat} (h1 : 1 ≤ o) (h2 : o ≤ 20) (H : f 1 h) : rCall E (d + 1) mLa_isNear [pI (nI o)] SH h (rPi SH f) :=
  vLa_isNear (br_f (nI_nlt (b := 1) h1 (by omega)) (br_f (nI_nlt (a := 20) h2 (by omega)) ⟨rfl, H⟩))
theorem c_near0 {a : Int32} (hb : Bd a 1 20) (H : f 0 h) : rCall E (d + 1) mLa_isNear [pI a] SH h (rPi SH f) :=
  vLa_isNear (bd_g (lo := 1) (hi := 20) hb (by decide) (by decide) ⟨rfl, H⟩)
theorem c_mol {l : Nat} (hl : l < 4) (H : f (nI (if l = 3 then 99 else 9)) h) : rCall E (d + 1) mLa_mostOfLaw [pI (nI l)] SH h (rPi SH f) := by
  by_cases e : l = 3
  · subst e
    exact vLa_mostOfLaw (br_t rfl ⟨rfl, H⟩)
  · rw [if_neg e] at H
    exact vLa_mostOfLaw (br_f (fun q => e ((nI_eq (b := 3) (by omega) (by omega)).1 q)) ⟨rfl, H⟩)
end
theorem St_0 {t n : Nat} {σ : Nat → Int32} {h : rHp} (H : St t n σ h) : h (7*t+1) 6 = σ 0 := H 0 (by omega)
theorem St_mk {t n : Nat} {σ : Nat → Int32} {h : rHp} (h0 : h (7*t+1) 6 = σ 0) (h1 : h (7*t+1) 8 = σ 1) (h2 : h (7*t+1) 11 = σ 2)
    (h3 : h (7*t+1) 9 = σ 3) (h4 : h (7*t+1) 10 = σ 4) (h9 : h (7*t+1) 7 = σ 9) (hl : ∀ i, i < 4 → h (7*t+7) i = σ (5 + i))
    (hk : ∀ i, i < n → h (7*t+2) i = σ (10 + 5 * i)) (hw : ∀ i, i < n → h (7*t+3) i = σ (11 + 5 * i)) (hu : ∀ i, i < n → h (7*t+4) i = σ (12 + 5 * i))
    (hp : ∀ i, i < n → h (7*t+5) i = σ (13 + 5 * i)) (ht : ∀ i, i < n → h (7*t+6) i + 1 = σ (14 + 5 * i)) : St t n σ h := by
  intro k hkn
  by_cases hk10 : k < 10
  · have : k = 0 ∨ k = 1 ∨ k = 2 ∨ k = 3 ∨ k = 4 ∨ k = 9 ∨ ∃ i, i < 4 ∧ k = 5 + i := by
      rcases (by omega : k < 5 ∨ k = 9 ∨ (5 ≤ k ∧ k < 9)) with h | h | h
      · omega
      · omega
      · exact Or.inr (Or.inr (Or.inr (Or.inr (Or.inr (Or.inr ⟨k - 5, by omega, by omega⟩)))))
    rcases this with rfl | rfl | rfl | rfl | rfl | rfl | ⟨i, hi, rfl⟩
    · exact h0
    · exact h1
    · exact h2
    · exact h3
    · exact h4
    · exact h9
    · rw [vS_l hi]; exact hl i hi
  · rcases (by omega : (k - 10) % 5 = 0 ∨ (k - 10) % 5 = 1 ∨ (k - 10) % 5 = 2 ∨ (k - 10) % 5 = 3 ∨ (k - 10) % 5 = 4) with e | e | e | e | e
    · rw [show k = 10 + 5 * ((k - 10) / 5) by omega, vS_k]; exact hk _ (by omega)
    · rw [show k = 11 + 5 * ((k - 10) / 5) by omega, vS_w]; exact hw _ (by omega)
    · rw [show k = 12 + 5 * ((k - 10) / 5) by omega, vS_u]; exact hu _ (by omega)
    · rw [show k = 13 + 5 * ((k - 10) / 5) by omega, vS_p]; exact hp _ (by omega)
    · rw [show k = 14 + 5 * ((k - 10) / 5) by omega, vS_t]; exact ht _ (by omega)
section
variable {E : rE} {d n : Nat} {σ : Nat → Int32} {h : rHp} {f : rHp → Prop}
theorem c_bec01 (hn : n ≤ 8) (hS : St 1 n σ h) (H : ∀ h', St 0 n σ h' → Fr 0 h h' → f h') : rCall E (d + 1) mSt_become [pR 1, pR 8] SH h (rPn SH f) := by
  refine vSt_become_01 ⟨rfl, H _ (St_mk ?_ ?_ ?_ ?_ ?_ ?_ (fun i hi => ?_) (fun i hi => ?_) (fun i hi => ?_) (fun i hi => ?_) (fun i hi => ?_) (fun i hi => ?_)) (fun b hb => ?_)⟩
  · rw [← St_0 hS]; simp [rUp]
  · rw [← St_y hS]; simp [rUp]
  · rw [← St_z hS]; simp [rUp]
  · rw [← St_a hS]; simp [rUp]
  · rw [← St_o hS]; simp [rUp]
  · rw [← St_L hS]; simp [rUp]
  · rw [← St_l hS hi]; simp [rUp, rCp, hi]
  · rw [← St_k hS hi]; simp [rUp, rCp, show i < 8 by omega]
  · rw [← St_w hS hi]; simp [rUp, rCp, show i < 8 by omega]
  · rw [← St_u hS hi]; simp [rUp, rCp, show i < 8 by omega]
  · rw [← St_p hS hi]; simp [rUp, rCp, show i < 8 by omega]
  · rw [← St_t hS hi]; simp [rUp, rCp, show i < 8 by omega]
  · rw [rUp_o (by omega), rUp_o (by omega), rUp_o (by omega), rUp_o (by omega), rUp_o (by omega), rUp_o (by omega), rCp_o (by omega), rCp_o (by omega), rCp_o (by omega), rCp_o (by omega), rCp_o (by omega), rCp_o (by omega)]
theorem c_bec10 (hn : n ≤ 8) (hS : St 0 n σ h) (H : ∀ h', St 1 n σ h' → Fr 1 h h' → f h') : rCall E (d + 1) mSt_become [pR 8, pR 1] SH h (rPn SH f) := by
  refine vSt_become_10 ⟨rfl, H _ (St_mk ?_ ?_ ?_ ?_ ?_ ?_ (fun i hi => ?_) (fun i hi => ?_) (fun i hi => ?_) (fun i hi => ?_) (fun i hi => ?_) (fun i hi => ?_)) (fun b hb => ?_)⟩
  · rw [← St_0 hS]; simp [rUp]
  · rw [← St_y hS]; simp [rUp]
  · rw [← St_z hS]; simp [rUp]
  · rw [← St_a hS]; simp [rUp]
  · rw [← St_o hS]; simp [rUp]
  · rw [← St_L hS]; simp [rUp]
  · rw [← St_l hS hi]; simp [rUp, rCp, hi]
  · rw [← St_k hS hi]; simp [rUp, rCp, show i < 8 by omega]
  · rw [← St_w hS hi]; simp [rUp, rCp, show i < 8 by omega]
  · rw [← St_u hS hi]; simp [rUp, rCp, show i < 8 by omega]
  · rw [← St_p hS hi]; simp [rUp, rCp, show i < 8 by omega]
  · rw [← St_t hS hi]; simp [rUp, rCp, show i < 8 by omega]
  · rw [rUp_o (by omega), rUp_o (by omega), rUp_o (by omega), rUp_o (by omega), rUp_o (by omega), rUp_o (by omega), rCp_o (by omega), rCp_o (by omega), rCp_o (by omega), rCp_o (by omega), rCp_o (by omega), rCp_o (by omega)]
theorem c_bec20 (hn : n ≤ 8) (hS : St 0 n σ h) (H : ∀ h', St 2 n σ h' → Fr 2 h h' → f h') : rCall E (d + 1) mSt_become [pR 15, pR 1] SH h (rPn SH f) := by
  refine vSt_become_20 ⟨rfl, H _ (St_mk ?_ ?_ ?_ ?_ ?_ ?_ (fun i hi => ?_) (fun i hi => ?_) (fun i hi => ?_) (fun i hi => ?_) (fun i hi => ?_) (fun i hi => ?_)) (fun b hb => ?_)⟩
  · rw [← St_0 hS]; simp [rUp]
  · rw [← St_y hS]; simp [rUp]
  · rw [← St_z hS]; simp [rUp]
  · rw [← St_a hS]; simp [rUp]
  · rw [← St_o hS]; simp [rUp]
  · rw [← St_L hS]; simp [rUp]
  · rw [← St_l hS hi]; simp [rUp, rCp, hi]
  · rw [← St_k hS hi]; simp [rUp, rCp, show i < 8 by omega]
  · rw [← St_w hS hi]; simp [rUp, rCp, show i < 8 by omega]
  · rw [← St_u hS hi]; simp [rUp, rCp, show i < 8 by omega]
  · rw [← St_p hS hi]; simp [rUp, rCp, show i < 8 by omega]
  · rw [← St_t hS hi]; simp [rUp, rCp, show i < 8 by omega]
  · rw [rUp_o (by omega), rUp_o (by omega), rUp_o (by omega), rUp_o (by omega), rUp_o (by omega), rUp_o (by omega), rCp_o (by omega), rCp_o (by omega), rCp_o (by omega), rCp_o (by omega), rCp_o (by omega), rCp_o (by omega)]
theorem c_bec02 (hn : n ≤ 8) (hS : St 2 n σ h) (H : ∀ h', St 0 n σ h' → Fr 0 h h' → f h') : rCall E (d + 1) mSt_become [pR 1, pR 15] SH h (rPn SH f) := by
  refine vSt_become_02 ⟨rfl, H _ (St_mk ?_ ?_ ?_ ?_ ?_ ?_ (fun i hi => ?_) (fun i hi => ?_) (fun i hi => ?_) (fun i hi => ?_) (fun i hi => ?_) (fun i hi => ?_)) (fun b hb => ?_)⟩
  · rw [← St_0 hS]; simp [rUp]
  · rw [← St_y hS]; simp [rUp]
  · rw [← St_z hS]; simp [rUp]
  · rw [← St_a hS]; simp [rUp]
  · rw [← St_o hS]; simp [rUp]
  · rw [← St_L hS]; simp [rUp]
  · rw [← St_l hS hi]; simp [rUp, rCp, hi]
  · rw [← St_k hS hi]; simp [rUp, rCp, show i < 8 by omega]
  · rw [← St_w hS hi]; simp [rUp, rCp, show i < 8 by omega]
  · rw [← St_u hS hi]; simp [rUp, rCp, show i < 8 by omega]
  · rw [← St_p hS hi]; simp [rUp, rCp, show i < 8 by omega]
  · rw [← St_t hS hi]; simp [rUp, rCp, show i < 8 by omega]
  · rw [rUp_o (by omega), rUp_o (by omega), rUp_o (by omega), rUp_o (by omega), rUp_o (by omega), rUp_o (by omega), rCp_o (by omega), rCp_o (by omega), rCp_o (by omega), rCp_o (by omega), rCp_o (by omega), rCp_o (by omega)]
end
