section
variable {E : rE} {d s p n : Nat} {τ : Nat → Nat} {σ : Nat → Int32} {h : rHp} {f : Int32 → rHp → Prop} {fn : rHp → Prop} {fo : Option Nat}
theorem c_setTail {j : Nat} {x4 : Int32} {r : rRes} (hj : j < 6) (hr : pSe s τ n σ j p r) (hT : TpC s τ h) (hK : TK s τ p h) (hp : p ≤ s) (hf : h 22 5 = -1) (hS : St 1 n σ h)
    (hA : ∀ (h1 : rHp) (v : Nat) (fn' : rHp → Prop), St 1 n σ h1 → (∀ h2, St 1 n (sW σ (3 + j) (nI v)) h2 → Fr 1 h1 h2 → fn' h2) → rCall E (d + 9) mTx_apply [pR 8, pI x4, pI (nI v)] SH h1 (rPn SH fn')) (H : OC s τ r h fn) :
    rCall E (d + 9) mTx_readNumber [pR 22, pI (nI (mst j))] SH h (rPi SH (fun x8 g7 => rCall E (d + 9) mTx_next [pR 22] SH g7 (rPn SH (fun g9 => rCall E (d + 9) mTx_needEndOfStatement [pR 22] SH g9 (rPn SH (fun g10 => (0 ≤ g10 22 5 → rPn SH fn none SH g10) ∧ (¬ 0 ≤ g10 22 5 → rCall E (d + 9) mTx_apply [pR 8, pI x4, pI x8] SH g10 (rPn SH (fun g11 => rPn SH fn none SH g11))))))))) := by
  have hs := hT.1
  have hE := tk_E (τ := τ) hp
  have hE2 := tk_E (τ := τ) hE.2.1
  have hA2 := tk_A (τ := τ) hE.2.1
  have hE3 := tk_E (τ := τ) hE2.2.1
  have hA3 := tk_A (τ := τ) hE2.2.1
  have hm : mst j < 1000 := by unfold mst; split <;> (try split) <;> (try split) <;> omega
  refine c_readNumber (fo := none) hm hT hK.2.2 hE.2.1 hf (fun q e => (by cases e)) (fun c h1 a b e g => ?_) (fun c h1 a b e g => ?_)
  · rcases hr with ⟨x, _⟩ | ⟨_, hr⟩
    · exact absurd c x
    · refine c_next b e.2.2 hE2.2.1 (fun h2 a2 b2 c2 e2 => c_needEnd (fo := none) b2 e2 hE2.2.1 (c2.trans g) (fun q e => (by cases e)) (fun c3 => ?_) (fun c3 h3 a3 b3 e3 g3 => ?_))
      · rcases hr with ⟨x, _⟩ | ⟨_, rfl⟩
        · exact absurd c3 x
        · have aa := Fq_tr a a2
          refine br_f (by rw [c2.trans g]; decide) (hA h2 _ _ (St_q hS aa) (fun h4 s4 f4 => ⟨rfl, H.2 _ _ _ rfl h4 (Gq_tr (Gq_q aa) (Gq_1 f4)) (TpC_g b2 f4) ?_ ?_ s4⟩))
          · rw [f4 22 (by omega)]; exact c2.trans g
          · rw [f4 22 (by omega)]; exact e2.2.2
      · rcases hr with ⟨_, rfl⟩ | ⟨x, _⟩
        · exact br_t (by rw [e3]; exact nI_pos' (by omega)) ⟨rfl, H.1 _ rfl h3 (Gq_q (Fq_tr a (Fq_tr a2 a3))) b3 e3 ⟨_, hE3.2.1, g3.2.2⟩⟩
        · exact absurd x c3
  · rcases hr with ⟨_, rfl⟩ | ⟨x, _⟩
    · refine c_next b e.2.2 hE2.2.1 (fun h2 a2 b2 c2 e2 => c_needEnd (fo := some _) b2 e2 hE2.2.1 (c2.trans g) (foB_s hA2.2) (fun c3 => ?_) (fun c3 h3 a3 b3 e3 g3 => ?_))
      · exact br_t (by rw [c2.trans g]; exact nI_pos' (by omega)) ⟨rfl, H.1 _ rfl h2 (Gq_q (Fq_tr a a2)) b2 (c2.trans g) ⟨_, hE3.2.1, e2.2.2⟩⟩
      · exact br_t (by rw [e3]; exact nI_pos' (by omega)) ⟨rfl, H.1 _ rfl h3 (Gq_q (Fq_tr a (Fq_tr a2 a3))) b3 e3 ⟨_, hE3.2.1, g3.2.2⟩⟩
    · exact absurd x c
theorem c_apl {l v : Nat} (hl : l ≤ 3) (hS : St 1 n σ h) (H : ∀ h2, St 1 n (sW σ (5 + l) (nI v)) h2 → Fr 1 h h2 → fn h2) : rCall E (d + 2) mTx_apply [pR 8, pI (nI l), pI (nI v)] SH h (rPn SH fn) := by
  refine vTx_apply (br_f ?_ (br_f ?_ (c_wi1 (m := 3) hl (by omega) (o1 ⟨vp_in_nI (by omega) (by omega), ?_⟩))))
  · exact fun q => absurd ((nI_eq (b := 4) (by omega) (by omega)).1 q) (by omega)
  · exact fun q => absurd ((nI_eq (b := 5) (by omega) (by omega)).1 q) (by omega)
  · rw [nI_clamp (by omega)]
    exact ⟨rfl, H _ (U1_l hS (by omega)) (FrU1 (by omega) (by omega))⟩
theorem c_readStatement {r : rRes} (hr : pS s τ n σ p r) (hW : Wf n n σ) (hT : TpC s τ h) (hK : TK s τ p h) (hp : p ≤ s) (hf : h 22 5 = -1) (hS : St 1 n σ h) (H : OC s τ r h fn) : rCall E (d + 12) mTx_readStatement [pR 22, pR 8] SH h (rPn SH fn) := by
  have hs := hT.1
  have hE := tk_E (τ := τ) hp
  have hA := tk_A (τ := τ) hp
  rcases hr with ⟨k, hk, hit, hr⟩ | ⟨no, ⟨j, hj, hit, hr⟩ | ⟨no2, rfl⟩⟩
  · rcases (by omega : k = 0 ∨ k = 1 ∨ k = 2 ∨ k = 3 ∨ k = 4 ∨ k = 5) with rfl | rfl | rfl | rfl | rfl | rfl
    · exact vTx_readStatement (c_kindN_0 hT hK hp hit (br_f (by decide) (c_readThing (k := 0) hr hW hT hK hp hf hS ⟨fun q e h' a b c g => ⟨rfl, H.1 q e h' a b c g⟩, fun n' σ' p' e h' a b c g i => ⟨rfl, H.2 n' σ' p' e h' a b c g i⟩⟩)))
    · exact vTx_readStatement (c_kindN_1 hT hK hp hit (br_f (by decide) (c_readThing (k := 1) hr hW hT hK hp hf hS ⟨fun q e h' a b c g => ⟨rfl, H.1 q e h' a b c g⟩, fun n' σ' p' e h' a b c g i => ⟨rfl, H.2 n' σ' p' e h' a b c g i⟩⟩)))
    · exact vTx_readStatement (c_kindN_2 hT hK hp hit (br_f (by decide) (c_readThing (k := 2) hr hW hT hK hp hf hS ⟨fun q e h' a b c g => ⟨rfl, H.1 q e h' a b c g⟩, fun n' σ' p' e h' a b c g i => ⟨rfl, H.2 n' σ' p' e h' a b c g i⟩⟩)))
    · exact vTx_readStatement (c_kindN_3 hT hK hp hit (br_f (by decide) (c_readThing (k := 3) hr hW hT hK hp hf hS ⟨fun q e h' a b c g => ⟨rfl, H.1 q e h' a b c g⟩, fun n' σ' p' e h' a b c g i => ⟨rfl, H.2 n' σ' p' e h' a b c g i⟩⟩)))
    · exact vTx_readStatement (c_kindN_4 hT hK hp hit (br_f (by decide) (c_readThing (k := 4) hr hW hT hK hp hf hS ⟨fun q e h' a b c g => ⟨rfl, H.1 q e h' a b c g⟩, fun n' σ' p' e h' a b c g i => ⟨rfl, H.2 n' σ' p' e h' a b c g i⟩⟩)))
    · exact vTx_readStatement (c_kindN_5 hT hK hp hit (br_f (by decide) (c_readThing (k := 5) hr hW hT hK hp hf hS ⟨fun q e h' a b c g => ⟨rfl, H.1 q e h' a b c g⟩, fun n' σ' p' e h' a b c g i => ⟨rfl, H.2 n' σ' p' e h' a b c g i⟩⟩)))
  · have HO : OC s τ r h (fun g11 => rPn SH fn none SH g11) := ⟨fun q e h' a b c g => ⟨rfl, H.1 q e h' a b c g⟩, fun n' σ' p' e h' a b c g i => ⟨rfl, H.2 n' σ' p' e h' a b c g i⟩⟩
    rcases (by omega : j = 0 ∨ j = 1 ∨ j = 2 ∨ j = 3 ∨ j = 4 ∨ j = 5) with rfl | rfl | rfl | rfl | rfl | rfl
    · refine vTx_readStatement (c_kindN_no hT hK hp no (br_t (by decide) (c_setN_0 hT hK hp hit (br_t (by decide) (vTx_mostOfSetting (br_t rfl ⟨rfl, ?_⟩))))))
      exact c_setTail (j := 0) (by omega) hr hT hK hp hf hS (fun h1 v fn' s1 H1 => vTx_apply (br_t rfl ⟨rfl, H1 _ (U1_a s1) (FrU1 (by omega) (by omega))⟩)) H
    · refine vTx_readStatement (c_kindN_no hT hK hp no (br_t (by decide) (c_setN_1 hT hK hp hit (br_t (by decide) (vTx_mostOfSetting (br_f (by decide) (br_t rfl ⟨rfl, ?_⟩)))))))
      exact c_setTail (j := 1) (by omega) hr hT hK hp hf hS (fun h1 v fn' s1 H1 => vTx_apply (br_f (by decide) (br_t rfl ⟨rfl, H1 _ (U1_o s1) (FrU1 (by omega) (by omega))⟩))) H
    · refine vTx_readStatement (c_kindN_no hT hK hp no (br_t (by decide) (c_setN_2 hT hK hp hit (br_t (by decide) (vTx_mostOfSetting (br_f (by decide) (br_f (by decide) (c_mol (l := 0) (by omega) ⟨rfl, ?_⟩))))))))
      exact c_setTail (j := 2) (by omega) hr hT hK hp hf hS (fun h1 v fn' s1 H1 => c_apl (l := 0) (by omega) s1 H1) H
    · refine vTx_readStatement (c_kindN_no hT hK hp no (br_t (by decide) (c_setN_3 hT hK hp hit (br_t (by decide) (vTx_mostOfSetting (br_f (by decide) (br_f (by decide) (c_mol (l := 1) (by omega) ⟨rfl, ?_⟩))))))))
      exact c_setTail (j := 3) (by omega) hr hT hK hp hf hS (fun h1 v fn' s1 H1 => c_apl (l := 1) (by omega) s1 H1) H
    · refine vTx_readStatement (c_kindN_no hT hK hp no (br_t (by decide) (c_setN_4 hT hK hp hit (br_t (by decide) (vTx_mostOfSetting (br_f (by decide) (br_f (by decide) (c_mol (l := 2) (by omega) ⟨rfl, ?_⟩))))))))
      exact c_setTail (j := 4) (by omega) hr hT hK hp hf hS (fun h1 v fn' s1 H1 => c_apl (l := 2) (by omega) s1 H1) H
    · refine vTx_readStatement (c_kindN_no hT hK hp no (br_t (by decide) (c_setN_5 hT hK hp hit (br_t (by decide) (vTx_mostOfSetting (br_f (by decide) (br_f (by decide) (c_mol (l := 3) (by omega) ⟨rfl, ?_⟩))))))))
      exact c_setTail (j := 5) (by omega) hr hT hK hp hf hS (fun h1 v fn' s1 H1 => c_apl (l := 3) (by omega) s1 H1) H
  · refine vTx_readStatement (c_kindN_no hT hK hp no (br_t (by decide) (c_setN_no hT hK hp no2 (br_f (by decide) (c_fail (fo := none) hT hK hp hf (fun q e => (by cases e)) (fun h2 a2 b2 c3 e2 => ⟨rfl, H.1 _ rfl h2 (Gq_q a2) b2 c3 ⟨_, hE.2.1, e2.2.2⟩⟩))))))
theorem c_readInto {r : rRes} (hr : pP s τ (s + 1) 0 0 (sBeg (h 8 11)) r) (hT : TpC s τ h) (H1 : ∀ q, r = .inl q → ∀ h', Gq h h' → TpC s τ h' → f (nI q) h') (H2 : ∀ n' σ' p', r = .inr (n', σ', p') → ∀ h', Gq h h' → TpC s τ h' → St 1 n' σ' h' → f (-1) h') : rCall E (d + 14) mTx_readInto [pR 22, pR 8] SH h (rPi SH f) := by
  have hs := hT.1
  refine vTx_readInto (c_begin (t := 1) t1 (fun h1 s1 f1 => ?_))
  have hT1 : TpC s τ (rUp (rUp h1 22 4 0) 22 5 (-1)) := TpC_up (TpC_up (TpC_g hT f1) (by omega)) (by omega)
  have go : ∀ (m i p n : Nat) (σ : Nat → Int32) (h2 : rHp), i ≤ p → p ≤ s → Wf n n σ → pP s τ m p n σ r → Gq h h2 → TpC s τ h2 → h2 22 5 = -1 → h2 22 4 = nI p → St 1 n σ h2 →
      rR E (rCall E (d + 13)) mTx_readInto (rPi SH f) 16 [some (pR 22), some (pR 8), some (pI (nI i))] [] SH h2 0 0 := by
    intro m
    induction m with
    | zero =>
      intro i p n σ h2 hi hp hW hr
      exact hr.elim
    | succ m ih =>
      intro i p n σ h2 hi hp hW hr g t f5 f4 st
      refine vTx_readInto_16 (br_f (nI_nlt (a := 200) (by omega) (by omega)) (br_f (by rw [f5]; decide) (c_next t f4 hp (fun h3 a b c e => ?_))))
      have hTT := tk_T (s := s) (τ := τ) p
      rw [e.1]
      rcases hr with ⟨t0, rfl⟩ | ⟨t0, r1, k1, hr⟩
      · refine br_t (by rw [t0]; rfl) ⟨rfl, ?_⟩
        rw [c.trans f5]
        exact H2 _ _ _ rfl h3 (Gq_tr g (Gq_q a)) b (St_q st a)
      · have ok := pS_ok hW hp k1
        refine br_f (fun q => ?_) (c_readStatement k1 hW b e hp (c.trans f5) (St_q st a) ⟨fun q eq h4 a4 b4 c4 g4 => ?_, fun n' σ' p' eq h4 a4 b4 c4 g4 s4 => ?_⟩)
        · have := (nI_eq (b := 3) (by omega) (by omega)).1 q
          omega
        · rcases hr with ⟨q', e1, e2⟩ | ⟨n', σ', p', e1, _⟩
          · rw [e1] at eq
            cases eq
            rw [← nI_succ]
            have qb := ok.1 q e1
            by_cases ci : i + 1 ≤ 200
            · refine vTx_readInto_16 (br_f (nI_nlt (a := 200) ci (by omega)) (br_t (by rw [c4]; exact nI_pos' (by omega)) ⟨rfl, ?_⟩))
              rw [c4]
              exact H1 q e2 h4 (Gq_tr g (Gq_tr (Gq_q a) a4)) b4
            · refine vTx_readInto_16 (br_t (nI_lt (a := 200) (by omega) (by omega)) ⟨rfl, ?_⟩)
              rw [c4]
              exact H1 q e2 h4 (Gq_tr g (Gq_tr (Gq_q a) a4)) b4
          · rw [e1] at eq
            cases eq
        · rcases hr with ⟨q', e1, e2⟩ | ⟨n2, σ2, p2, e1, k2⟩
          · rw [e1] at eq
            cases eq
          · rw [e1] at eq
            cases eq
            have o := ok.2 _ _ _ e1
            rw [← nI_succ]
            exact ih (i + 1) _ _ _ h4 (by omega) o.2.1 o.2.2 k2 (Gq_tr g (Gq_tr (Gq_q a) a4)) b4 c4 g4 s4
  refine go (s + 1) 0 0 0 _ _ (Nat.le_refl 0) (Nat.zero_le s) (Wf_sBeg (by omega)) hr (Gq_tr (Gq_1 f1) (Gq_q (Fq_up (Fq_up Fq_rf)))) hT1 ?_ ?_ (St_q s1 (Fq_up (Fq_up Fq_rf)))
  · rw [rUp_a, sW_eq]
  · rw [rUp_a, sW_ne (by omega), rUp_a, sW_eq]
    rfl
end
