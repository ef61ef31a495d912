/-! what both sides hold when they begin, and the law's whole walk -/
theorem rZ_a {h : rHp} {a j : Nat} : rZ h a a j = 0 := by
  unfold rZ
  rw [if_pos rfl]
theorem sBeg_n {x y : Int32} {k : Nat} (h : k ≠ 2) : sBeg x k = sBeg y k := by
  unfold sBeg
  rw [if_neg h, if_neg h]
theorem rZ_o {h : rHp} {a b : Nat} (hb : b ≠ a) : rZ h a b = h b := by
  funext j
  unfold rZ
  rw [if_neg hb]
section
variable {E : rE} {d : Nat} {h : rHp} {f : rHp → Prop}
theorem i_St0 (H : ∀ h', (∀ b, b < 1 → h' b = h b) → St 0 0 (sBeg 1) h' → f h') : rCall E (d + 2) mSt_init [pR 1] Sp1 h (rPn Sp2 f) := by
  refine vSt_init_1 (vSt_begin_Sp2 ⟨rfl, ⟨rfl, H _ (fun b hb => ?_) (fun k hk => ?_)⟩⟩)
  · iterate 10 rw [rUp_o (by omega)]
    iterate 6 rw [rZ_o (by omega)]
  · rcases (show k = 0 ∨ k = 1 ∨ k = 2 ∨ k = 3 ∨ k = 4 ∨ k = 5 ∨ k = 6 ∨ k = 7 ∨ k = 8 ∨ k = 9 by omega) with e | e | e | e | e | e | e | e | e | e <;> subst e <;> rfl
theorem i_St1 (H : ∀ h', (∀ b, b < 8 → h' b = h b) → f h') : rCall E (d + 2) mSt_init [pR 8] Sp3 h (rPn Sp4 f) := by
  refine vSt_init_8 (vSt_begin_Sp4 ⟨rfl, ⟨rfl, H _ (fun b hb => ?_)⟩⟩)
  iterate 10 rw [rUp_o (by omega)]
  iterate 6 rw [rZ_o (by omega)]
theorem i_St2 (H : ∀ h', (∀ b, b < 15 → h' b = h b) → f h') : rCall E (d + 2) mSt_init [pR 15] Sp5 h (rPn Sp6 f) := by
  refine vSt_init_15 (vSt_begin_Sp6 ⟨rfl, ⟨rfl, H _ (fun b hb => ?_)⟩⟩)
  iterate 10 rw [rUp_o (by omega)]
  iterate 6 rw [rZ_o (by omega)]
theorem i_Tx (H : ∀ h', (∀ b, b < 22 → h' b = h b) → h' 22 1 = 0 → f h') : rCall E (d + 1) mTx_init [pR 22] Sp7 h (rPn Sp8 f) := by
  refine vTx_init_22 ⟨rfl, H _ (fun b hb => ?_) ?_⟩
  · rw [rUp_o (by omega), rZ_o (by omega)]
  · rw [rUp_a, sW_eq]
theorem i_Se (H : ∀ h', (∀ b, b < 25 → h' b = h b) → (∀ t, t < 4 → h' 25 t = -1) → f h') : rCall E (d + 1) mSe_init [pR 24] Sp9 h (rPn Sp10 f) := by
  refine vSe_init_24 ⟨rfl, H _ (fun b hb => ?_) (fun t ht => ?_)⟩
  · iterate 4 rw [rUp_o (by omega)]
    iterate 3 rw [rZ_o (by omega)]
  · rcases (show t = 0 ∨ t = 1 ∨ t = 2 ∨ t = 3 by omega) with e | e | e | e <;> subst e <;> rfl
theorem i_clr {k : Nat} (hk : k < 4) (H : (∀ b, b < 29 → rUp (rUp (rUp h 29 k (-1)) 30 k (-1)) 31 k 0 b = h b) → f (rUp (rUp (rUp h 29 k (-1)) 30 k (-1)) 31 k 0)) : rCall E (d + 1) mSf_clear [pR 28, pI (nI k)] Sp12 h (rPn Sp12 f) := by
  refine vSf_clear_Sp12 ⟨nI_in hk (by omega), nI_in hk (by omega), nI_in hk (by omega), rfl, ?_⟩
  rw [nI_clamp (by omega)]
  exact H (fun b hb => by rw [rUp_o (by omega), rUp_o (by omega), rUp_o (by omega)])
theorem i_Sf (H : ∀ h', (∀ b, b < 29 → h' b = h b) → (∀ s, s < 4 → h' 29 s = -1 ∧ h' 30 s = -1) → f h') : rCall E (d + 2) mSf_init [pR 28] Sp11 h (rPn Sp12 f) := by
  refine vSf_init_28 (i_clr (k := 0) (by omega) (fun e0 => ?_))
  refine i_clr (k := 1) (by omega) (fun e1 => i_clr (k := 2) (by omega) (fun e2 => i_clr (k := 3) (by omega) (fun e3 => ⟨rfl, H _ (fun b hb => ?_) (fun s hs => ?_)⟩)))
  · rw [e3 b hb, e2 b hb, e1 b hb, e0 b hb]
    iterate 3 rw [rZ_o (by omega)]
  · rcases (show s = 0 ∨ s = 1 ∨ s = 2 ∨ s = 3 by omega) with e | e | e | e <;> subst e <;> exact ⟨rfl, rfl⟩
theorem i_Ac (H : ∀ h', (∀ b, b < 33 → h' b = h b) → f h') : rCall E (d + 1) mAc_init [pR 32] Sp13 h (rPn Sp14 f) :=
  vAc_init_32 ⟨rfl, H _ (fun b hb => rZ_o (by omega))⟩
theorem i_La (H : ∀ h', St 0 0 (sBeg 1) h' → h' 0 8 = 0 → h' 0 9 = 0 → h' 22 1 = 0 → (∀ t, t < 4 → h' 25 t = -1) → (∀ s, s < 4 → h' 29 s = -1 ∧ h' 30 s = -1) → h' 32 1 = 0 → f h') : rCall E (d + 3) mLa_init [pR 0] Sp0 h (rPn Sp15 f) := by
  refine vLa_init_0 (i_St0 (fun g0 _ s0 => i_St1 (fun g1 a1 => i_St2 (fun g2 a2 => i_Tx (fun g3 a3 z3 => i_Se (fun g4 a4 z4 => i_Sf (fun g5 a5 z5 => i_Ac (fun g6 a6 => ⟨rfl, ?_⟩))))))))
  have q3 : ∀ b, b < 22 → g3 b = g2 b := fun b hb => (a3 b hb).trans (rZ_o (by omega))
  have q4 : ∀ b, b < 24 → g4 b = g3 b := fun b hb => (a4 b (by omega)).trans (rZ_o (by omega))
  have q5 : ∀ b, b < 28 → g5 b = g4 b := fun b hb => (a5 b (by omega)).trans (rZ_o (by omega))
  have q6 : ∀ b, b < 32 → g6 b = g5 b := fun b hb => (a6 b (by omega)).trans (rZ_o (by omega))
  refine H _ (St_far s0 (fun b x1 x2 => ?_)) ?_ ?_ ?_ (fun t ht => ?_) (fun s hs => ?_) ?_
  · rw [rUp_o (by omega), rUp_o (by omega), rZ_o (by omega), q6 b (by omega), q5 b (by omega), q4 b (by omega), q3 b (by omega), a2 b (by omega), rZ_o (by omega), a1 b (by omega), rZ_o (by omega)]
  · rw [rUp_a, sW_ne (by omega), rUp_a, sW_eq]
  · rw [rUp_a, sW_eq]
  · rw [rUp_o (by omega), rUp_o (by omega), rZ_o (by omega), q6 22 (by omega), q5 22 (by omega), q4 22 (by omega)]
    exact z3
  · rw [rUp_o (by omega), rUp_o (by omega), rZ_o (by omega), q6 25 (by omega), q5 25 (by omega)]
    exact z4 t ht
  · rw [rUp_o (by omega), rUp_o (by omega), rZ_o (by omega), q6 29 (by omega), rUp_o (by omega), rUp_o (by omega), rZ_o (by omega), q6 30 (by omega)]
    exact z5 s hs
  · rw [rUp_o (by omega), rUp_o (by omega), rZ_o (by omega), a6 32 (by omega), rZ_a]
theorem i_Mo (H : ∀ h', (∀ b, b < 36 → h' b = h b) → Mo 0 (sBeg 1) h' → (∀ t, t < 4 → h' 43 t = -1) → (∀ s, s < 4 → h' 46 s = 0) → f h') : rCall E (d + 2) mMo_init [pR 35] Sp16 h (rPn SH f) := by
  refine vMo_init_35 (vMo_init_35_28 (vMo_init_35_61 (vMo_init_35_84 (vMo_init_35_107 (vMo_init_35_121 (m_begins (fun g0 a0 m0 _ => ⟨rfl, H _ (fun b hb => ?_) (fun k hk => ?_) (fun t ht => ?_) (fun s hs => ?_)⟩)))))))
  · rw [rUp_o (by omega), a0 b (by omega)]
    iterate 6 rw [rZ_o (by omega)]
    iterate 4 rw [rUp_o (by omega)]
    iterate 8 rw [rZ_o (by omega)]
  · have e := m0 k hk
    rw [rUp_a]
    rcases Nat.lt_trichotomy k 2 with c | c | c
    · rw [sW_ne (by omega), e]
      rcases (show k = 0 ∨ k = 1 by omega) with x | x <;> subst x <;> rfl
    · subst c
      rw [sW_eq]
      rfl
    · rw [sW_ne (by omega), e]
      exact sBeg_n (by omega)
  · rw [rUp_o (by omega), a0 43 (by omega)]
    rcases (show t = 0 ∨ t = 1 ∨ t = 2 ∨ t = 3 by omega) with e | e | e | e <;> subst e <;> rfl
  · rw [rUp_o (by omega), a0 46 (by omega)]
    rfl
end
/-- every script of at most 2560 ints: the law answers 1 -/
theorem law_R (L : Nat) (xs : Nat → Int32) (hL : L ≤ 2560) (h : rHp) : rR (L, xs) (rCall (L, xs) 40) mLw_law (fun v _ _ => v = some (pI 1)) 0 [some (pC 0), none, none, none] [] [] h 0 0 := by
  refine vLw_0 (i_La (fun g s0 c8 c9 c22 c25 c29 c32 => i_Mo (fun g2 a2 m2 d43 d46 => ?_)))
  have q : ∀ b, b < 35 → g2 b = g b := fun b hb => (a2 b (by omega)).trans (rZ_o (by omega))
  have z : ∀ j, g2 35 j = 0 := fun j => by rw [a2 35 (by omega), rZ_a]
  have hR : Rel (8 + 0) g2 := by
    refine ⟨⟨0, sBeg 1, Wf_sBeg (by omega), St_far s0 (fun b x1 x2 => q b (by omega)), m2⟩, Or.inl ⟨?_, z 5⟩, ⟨0, by omega, ?_, z 7, fun i hi => absurd hi (by omega)⟩, ⟨0, by omega, ?_, z 14, fun i hi => absurd hi (by omega)⟩, fun t ht => Or.inl ⟨?_, d43 t ht⟩, fun s hs => Or.inl ⟨?_, ?_, d46 s hs⟩, ⟨0, by omega, ?_, z 22, fun i hi => absurd hi (by omega)⟩⟩
    · rw [q 0 (by omega)]; exact c9
    · rw [q 22 (by omega)]; exact c22
    · rw [q 0 (by omega)]; exact c8
    · rw [q 25 (by omega)]; exact c25 t ht
    · rw [q 29 (by omega)]; exact (c29 s hs).1
    · rw [q 30 (by omega)]; exact (c29 s hs).2
    · rw [q 32 (by omega)]; exact c32
  have := law_loop (E := (L, xs)) (Post := fun v _ _ => v = some (pI 1)) hL (fun _ => rfl) 513 0 g2 rfl hR
  rw [show nI (5 * 0) = 0 from nI_0] at this
  exact this
