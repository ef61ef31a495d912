theorem sW_comm {σ : Nat → Int32} {i j : Nat} {x y : Int32} (h : i ≠ j) : sW (sW σ i x) j y = sW (sW σ j y) i x := by
  funext k
  by_cases e : k = j
  · subst e; rw [sW_eq, sW_ne (Ne.symm h), sW_eq]
  · rw [sW_ne e]
    by_cases e2 : k = i
    · subst e2; rw [sW_eq, sW_eq]
    · rw [sW_ne e2, sW_ne e2, sW_ne e]
/-- years one after another -/
def sGs (n : Nat) : Nat → (Nat → Int32) → (Nat → Int32)
  | 0, σ => σ
  | k + 1, σ => sGs n k (sGo n σ)
theorem Wf_sGs {B n : Nat} : ∀ (k : Nat) (σ : Nat → Int32), Wf B n σ → Wf B n (sGs n k σ)
  | 0, _, h => h
  | k + 1, σ, h => Wf_sGs k _ (Wf_sGo h)
def sLay (σ : Nat → Int32) (o : Nat) (p : Int32) : Nat → Int32 := sW (sW (sW σ 9 (σ 9 + 1)) (13 + 5 * o) p) (14 + 5 * o) (σ 9 + 1)
theorem Wf_le {B B' n : Nat} {σ : Nat → Int32} (hW : Wf B n σ) (h : B ≤ B') (hB : B' < 1000000) : Wf B' n σ := by
  obtain ⟨⟨h1, _⟩, h2, h3, ⟨L, hL, hL2, hg⟩, h5, h6, h7⟩ := hW
  exact ⟨⟨h1, hB⟩, h2, h3, ⟨L, by omega, hL2, hg⟩, h5, h6, h7⟩
theorem Wf_sLay {B n o p : Nat} {σ : Nat → Int32} (hW : Wf B n σ) (hB : B + 1 < 1000000) (hp : p ≤ 6) : Wf (B + 1) n (sLay σ o (nI p)) := by
  obtain ⟨⟨h1, _⟩, h2, h3, ⟨L, hL, hL2, hg⟩, h5, h6, h7⟩ := hW
  refine ⟨⟨h1, hB⟩, ?_, ?_, ⟨L + 1, by omega, ?_, ?_⟩, ?_, ?_, ?_⟩ <;> unfold sLay
  · rw [sW_ne (by omega), sW_ne (by omega), sW_ne (by omega)]; exact h2
  · rw [sW_ne (by omega), sW_ne (by omega), sW_ne (by omega)]; exact h3
  · rw [sW_ne (by omega), sW_ne (by omega), sW_eq, hL2, nI_succ]
  · intro i hi
    by_cases e : i = o
    · subst e; rw [sW_eq, hL2, ← nI_succ]; exact ⟨L + 1, by omega, by omega, rfl⟩
    · rw [sW_ne (by omega), sW_ne (by omega), sW_ne (by omega)]
      obtain ⟨g, g1, g2, g3⟩ := hg i hi
      exact ⟨g, g1, by omega, g3⟩
  · intro i hi; rw [sW_ne (by omega), sW_ne (by omega), sW_ne (by omega)]; exact h5 i hi
  · intro i hi
    by_cases e : i = o
    · subst e; rw [sW_ne (by omega), sW_eq]; exact ⟨p, hp, rfl⟩
    · rw [sW_ne (by omega), sW_ne (by omega), sW_ne (by omega)]; exact h6 i hi
  · rw [sW_ne (by omega), sW_ne (by omega), sW_ne (by omega)]; exact h7
/-- what is drawn by, and what is drawn -/
def dZ (z : Int32) : Int32 := z * 1103515245 + 12345
def dR (z : Int32) : Int32 := (z.toUInt32 >>> ((16:Int32).toUInt32 &&& Int32.toUInt32 31)).toInt32
section
variable {E : rE} {d B t n : Nat} {σ : Nat → Int32} {h : rHp} {f : rHp → Prop} {fi : Int32 → rHp → Prop}
theorem c_passYears {k : Nat} (hk : k < 1000) (ht : t < 3) (hW : Wf B n σ) (hS : St t n σ h) (H : ∀ h', St t n (sGs n k σ) h' → Fr t h h' → f h') : rCall E (d + 5) mSt_passYears [pR (7*t+1), pI (nI k)] SH h (rPn SH f) := by
  apply vSt_passYears ht
  have go : ∀ (m i : Nat) (_ : i + m = k) (σ : Nat → Int32) (h : rHp) (_ : Wf B n σ) (_ : St t n σ h) (_ : ∀ h', St t n (sGs n m σ) h' → Fr t h h' → f h'),
      rR E (rCall E (d + 4)) mSt_passYears (rPn SH f) 2 [some (pR (7*t+1)), some (pI (nI k)), some (pI (nI i))] [] SH h 0 0 := by
    intro m
    induction m with
    | zero =>
      intro i hi σ h hW hS H
      exact vSt_passYears_2 ht ⟨fun _ => ⟨rfl, H h hS Fr_refl⟩, fun e => absurd (nI_le (by omega) (by omega)) e⟩
    | succ m ih =>
      intro i hi σ h hW hS H
      refine vSt_passYears_2 ht ⟨fun e => absurd e (nI_ge (by omega) (by omega)), fun _ => c_passYear ht hW hS (fun h' a b => ?_)⟩
      rw [← nI_succ]
      exact ih (i + 1) (by omega) _ h' (Wf_sGo hW) a (fun h2 c e => H h2 c (Fr_tr b e))
  exact go k 0 (by omega) σ h hW hS H
theorem c_draw (ht : t < 3) (hS : St t n σ h) (H : ∀ h', St t n (sW σ 2 (dZ (σ 2))) h' → Fr t h h' → fi (dR (dZ (σ 2))) h') : rCall E (d + 1) mSt_draw [pR (7*t+1)] SH h (rPi SH fi) := by
  apply vSt_draw ht
  rw [rUp_a, sW_eq, St_z hS]
  refine ⟨rfl, H _ ?_ (Fr_up Fr_refl (by omega) (by omega))⟩
  show AG _ (vS t _) _
  rw [vS_up_2]
  exact AG_w hS
theorem c_layIn {o : Nat} {p : Int32} (ht : t < 3) (hn : n ≤ 8) (hS : St t n σ h) (ho : o < n) (H : ∀ h', St t n (sLay σ o p) h' → Fr t h h' → f h') : rCall E (d + 1) mSt_layIn [pR (7*t+1), pI (nI o), pI p] SH h (rPn SH f) := by
  have vo : vp_in (nI o) 8 := vp_in_nI (by omega) (by omega)
  apply vSt_layIn ht
  rw [nI_clamp (by omega), St_L hS]
  refine ⟨vo, vo, rfl, H _ ?_ (Fr_up (Fr_up (Fr_up Fr_refl (by omega) (by omega)) (by omega) (by omega)) (by omega) (by omega))⟩
  show AG _ (vS t _) _
  rw [vS_up_9, vS_up_t, vS_up_p]
  unfold sLay
  rw [sW_comm (i := 14 + 5 * o) (j := 9) (by omega), sW_comm (i := 13 + 5 * o) (j := 9) (by omega)]
  exact AG_w (AG_w (AG_w hS))
end
