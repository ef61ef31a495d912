/-! the model's years -/
def cLy (σ : Nat → Int32) : Nat → Nat
  | 0 => 0
  | i + 1 => if σ (13 + 5 * i) = 6 then cLy σ i else cLy σ i + 1
theorem cLy_le (σ : Nat → Int32) : ∀ i, cLy σ i ≤ i
  | 0 => Nat.le_refl 0
  | i + 1 => by
    have := cLy_le σ i
    unfold cLy
    split <;> omega
theorem cLy_eq {σ τ : Nat → Int32} : ∀ n, (∀ i, i < n → σ (13 + 5 * i) = τ (13 + 5 * i)) → cLy σ n = cLy τ n
  | 0, _ => rfl
  | n + 1, h => by
    have := cLy_eq n (fun i hi => h i (by omega))
    unfold cLy
    rw [h n (by omega), this]
theorem cLy_dug {σ : Nat → Int32} {o : Nat} (h6 : ¬ σ (13 + 5 * o) = 6) : ∀ n, o < n → cLy (sW σ (13 + 5 * o) 6) n + 1 = cLy σ n
  | 0, h => absurd h (by omega)
  | n + 1, h => by
    unfold cLy
    by_cases e : o = n
    · subst e
      rw [sW_eq, if_pos rfl, if_neg h6, cLy_eq (σ := sW σ (13 + 5 * o) 6) (τ := σ) o (fun i hi => sW_ne (by omega))]
    · have := cLy_dug h6 n (by omega)
      rw [sW_ne (by omega)]
      split <;> omega
theorem cLy_0 {σ : Nat → Int32} : ∀ n, cLy σ n = 0 → ∀ o, o < n → σ (13 + 5 * o) = 6
  | 0, _, o, ho => absurd ho (by omega)
  | n + 1, h, o, ho => by
    unfold cLy at h
    split at h
    · by_cases e : o = n
      · subst e; assumption
      · exact cLy_0 n h o (by omega)
    · omega
theorem qTop_p {σ : Nat → Int32} {p : Int32} : ∀ n, n ≤ 8 → qTop σ p n < n → σ (13 + 5 * qTop σ p n) = p
  | 0, _, h => absurd h (by omega)
  | n + 1, hn, h => by
    have ih := qTop_p (σ := σ) (p := p) n (by omega)
    have hl := qTop_lt σ p n
    unfold qTop at h ⊢
    by_cases c : σ (13 + 5 * n) = p ∧ (qTop σ p n = 8 ∨ σ (14 + 5 * qTop σ p n) < σ (14 + 5 * n))
    · rw [if_pos c]
      exact c.1
    · rw [if_neg c] at h ⊢
      exact ih (by omega)
section
variable {E : rE} {d B n : Nat} {σ : Nat → Int32} {h : rHp} {f : Int32 → rHp → Prop} {fn : rHp → Prop}
theorem m_goesOn (hW : Wf B n σ) (hM : Mo n σ h) (H : ∀ h', Mo n (sGo n σ) h' → F36 h h' → fn h') : rCall E (d + 4) mMo_goesOn [pR 35] SH h (rPn SH fn) := by
  have hn := hW.1.1
  obtain ⟨R, hR⟩ : ∃ R, R = sDg n 8 (σ 5) σ := ⟨_, rfl⟩
  have go : ∀ (m : Nat) (g : Int32) (τ : Nat → Int32) (h1 : rHp), Wf B n τ → Mo n τ h1 → F36 h h1 → cLy τ n ≤ m → sDg n m g τ = R →
      rR E (rCall E (d + 3)) mMo_goesOn (rPn SH fn) 18 [some (pR 35), some (pI g), some (pI (nI (qTop τ (τ 3) n)))] [] SH h1 0 0 := by
    intro m
    induction m with
    | zero =>
      intro g τ h1 hW1 hM1 hF hc hs
      have q8 : qTop τ (τ 3) n = 8 := by
        rcases qTop_lt τ (τ 3) n with q | q
        · exact q
        · have e1 := qTop_p n hn q
          have e2 := cLy_0 (σ := τ) n (by omega) _ q
          obtain ⟨p, hp, hp2⟩ := hW1.2.2.1
          rw [e2, hp2] at e1
          exact absurd ((nI_eq (a := 6) (by omega) (by omega)).1 e1) (by omega)
      refine vMo_goesOn_18 (br_t (by rw [q8]; exact nI_le (a := 8) (b := 8) (by omega) (by omega)) ⟨rfl, H _ ?_ (F36_up (F36_up hF))⟩)
      rw [hM1 3 (by omega), hM1 1 (by omega)]
      unfold sGo
      rw [← hR, ← hs]
      exact Mo_up (Mo_up hM1)
    | succ m ih =>
      intro g τ h1 hW1 hM1 hF hc hs
      rcases qTop_lt τ (τ 3) n with q8 | q
      · refine vMo_goesOn_18 (br_t (by rw [q8]; exact nI_le (a := 8) (b := 8) (by omega) (by omega)) ⟨rfl, H _ ?_ (F36_up (F36_up hF))⟩)
        unfold sDg at hs
        rw [if_pos q8] at hs
        rw [hM1 3 (by omega), hM1 1 (by omega)]
        unfold sGo
        rw [← hR, ← hs]
        exact Mo_up (Mo_up hM1)
      · have q8 : ¬ qTop τ (τ 3) n = 8 := by omega
        unfold sDg at hs
        rw [if_neg q8] at hs
        refine vMo_goesOn_18 (br_f (nI_ge (b := 8) (by omega) (by omega)) (m_hides hW1 hM1 q ⟨fun c => ⟨rfl, H _ ?_ (F36_up (F36_up hF))⟩, fun c => ?_⟩))
        · rw [if_neg (Int32.not_le.2 c)] at hs
          rw [hM1 3 (by omega), hM1 1 (by omega)]
          unfold sGo
          rw [← hR, ← hs]
          exact Mo_up (Mo_up hM1)
        · rw [if_pos (Int32.not_lt.1 c)] at hs
          refine m_hides hW1 hM1 q (m_speaks hW1 hM1 q (m_within ?_))
          rw [ix3, nI_clamp (by omega), hM1 4 (by omega)]
          have hM2 : Mo n (sW (sW τ 4 (wit (τ 4 + spk τ (qTop τ (τ 3) n)))) (13 + 5 * qTop τ (τ 3) n) 6) (rUp (rUp h1 36 4 (wit (τ 4 + spk τ (qTop τ (τ 3) n)))) 36 (13 + 5 * qTop τ (τ 3) n) 6) := Mo_up (Mo_up hM1)
          refine ⟨vp_in_nI (by omega) (by omega), m_top (Wf_dug hW1) hM2 ?_⟩
          rw [hM2 3 (by omega)]
          refine ih _ _ _ (Wf_dug hW1) hM2 (F36_up (F36_up hF)) ?_ hs
          have h6 : ¬ τ (13 + 5 * qTop τ (τ 3) n) = 6 := by
            rw [qTop_p n hn q]
            obtain ⟨p, hp, hp2⟩ := hW1.2.2.1
            rw [hp2]
            exact fun e => absurd ((nI_eq (b := 6) (by omega) (by omega)).1 e) (by omega)
          have h4 : ∀ i, i < n → sW τ 4 (wit (τ 4 + spk τ (qTop τ (τ 3) n))) (13 + 5 * i) = τ (13 + 5 * i) := fun i _ => sW_ne (by omega)
          have := cLy_dug (σ := sW τ 4 (wit (τ 4 + spk τ (qTop τ (τ 3) n)))) (o := qTop τ (τ 3) n) (by rw [sW_ne (by omega)]; exact h6) n q
          rw [cLy_eq n h4] at this
          omega
  apply vMo_goesOn
  rw [hM 3 (by omega), hM 5 (by omega)]
  refine m_top hW hM ?_
  exact go 8 (σ 5) σ h hW hM F36_rf (by have := cLy_le σ n; omega) hR.symm
theorem m_goes {k : Nat} (hk : k < 1000) (hW : Wf B n σ) (hM : Mo n σ h) (H : ∀ h', Mo n (sGs n k σ) h' → F36 h h' → fn h') : rCall E (d + 5) mMo_goes [pR 35, pI (nI k)] SH h (rPn SH fn) := by
  apply vMo_goes
  have go : ∀ (m i : Nat) (_ : i + m = k) (σ : Nat → Int32) (h : rHp) (_ : Wf B n σ) (_ : Mo n σ h) (_ : ∀ h', Mo n (sGs n m σ) h' → F36 h h' → fn h'),
      rR E (rCall E (d + 4)) mMo_goes (rPn SH fn) 2 [some (pR 35), some (pI (nI k)), some (pI (nI i))] [] SH h 0 0 := by
    intro m
    induction m with
    | zero =>
      intro i hi σ h hW hM H
      exact vMo_goes_2 ⟨fun _ => ⟨rfl, H h hM F36_rf⟩, fun e => absurd (nI_le (by omega) (by omega)) e⟩
    | succ m ih =>
      intro i hi σ h hW hM H
      refine vMo_goes_2 (br_f (nI_ge (by omega) (by omega)) (m_goesOn hW hM (fun h' a b => ?_)))
      rw [← nI_succ]
      exact ih (i + 1) (by omega) _ h' (Wf_sGo hW) a (fun h2 c e => H h2 c (F36_tr b e))
  exact go k 0 (by omega) σ h hW hM H
theorem m_drawn (hM : Mo n σ h) (H : ∀ h', Mo n (sW σ 2 (dZ (σ 2))) h' → F36 h h' → f (dR (dZ (σ 2))) h') : rCall E (d + 1) mMo_drawn [pR 35] SH h (rPi SH f) := by
  apply vMo_drawn
  rw [rUp_a, sW_eq, hM 2 (by omega)]
  exact ⟨rfl, H _ (Mo_up hM) (F36_up F36_rf)⟩
theorem m_lies {o : Nat} {p : Int32} (hn : n ≤ 8) (hM : Mo n σ h) (ho : o < n) (H : ∀ h', Mo n (sLay σ o p) h' → F36 h h' → fn h') : rCall E (d + 1) mMo_lies [pR 35, pI (nI o), pI p] SH h (rPn SH fn) := by
  apply vMo_lies
  rw [ix3, ix4, nI_clamp (by omega), nI_clamp (by omega), rUp_a, sW_ne (by omega), rUp_a, sW_eq, hM 9 (by omega)]
  exact ⟨vp_in_nI (by omega) (by omega), vp_in_nI (by omega) (by omega), rfl, H _ (Mo_up (Mo_up (Mo_up hM))) (F36_up (F36_up (F36_up F36_rf)))⟩
theorem m_year (hW : Wf B n σ) (hB : B + 1 < 1000000) (hM : Mo n σ h) (H : ∀ h', Mo n (sYr n σ) h' → F36 h h' → f (sYr n σ 4) h') : rCall E (d + 5) mMo_year [pR 35] SH h (rPi SH f) := by
  have hn := hW.1.1
  apply vMo_year
  rw [Mo_n hW hM]
  have H2 : ∀ τ, sYr n σ = sGo n τ → ∀ h', Mo n (sGo n τ) h' → F36 h h' → f (h' 36 4) h' := by
    intro τ e h' a b
    rw [a 4 (by omega), ← e]
    rw [← e] at a
    exact H h' a b
  unfold sYr at H2
  by_cases h0 : n = 0
  · rw [if_pos h0] at H2
    exact br_t (nI_le (b := 0) (by omega) (by omega)) (m_goesOn hW hM (fun h' a b => ⟨rfl, H2 _ rfl h' a b⟩))
  · rw [if_neg h0] at H2
    have hq : dN (dZ (σ 2)) % n < n := Nat.mod_lt _ (by omega)
    refine br_f (nI_nle (by omega) (by omega)) (m_drawn hM (fun h1 a1 b1 => ⟨?_, m_drawn a1 (fun h2 a2 b2 => ?_)⟩))
    · rw [Mo_n (Wf_z hW) a1]
      exact nI_ne0 (by omega) (by omega)
    · rw [Mo_n (Wf_z hW) a1]
      rw [sW_eq, sW_sW] at a2
      have e8 : h2 36 8 = σ 8 := (a2 8 (by omega)).trans (sW_ne (by omega))
      rw [e8, sW_eq, dR_m _ (by omega) (by omega), show dR (dZ (dZ (σ 2))) - dR (dZ (dZ (σ 2))) / 100 * 100 = nI (dN (dZ (dZ (σ 2))) % 100) from dR_m _ (k := 100) (by omega) (by omega)]
      refine ⟨fun c => ?_, fun c => ?_⟩
      · rw [if_pos c] at H2
        exact m_goesOn (Wf_z hW) a2 (fun h' a b => ⟨rfl, H2 _ rfl h' a (F36_tr b1 (F36_tr b2 b))⟩)
      · rw [if_neg c] at H2
        refine m_it3 a2 hn hq ?_
        rw [sW_ne (by omega)]
        refine ⟨fun c6 => ?_, fun c6 => ?_⟩
        · rw [if_pos c6] at H2
          exact m_goesOn (Wf_z hW) a2 (fun h' a b => ⟨rfl, H2 _ rfl h' a (F36_tr b1 (F36_tr b2 b))⟩)
        · rw [if_neg c6] at H2
          refine m_drawn a2 (fun h3 a3 b3 => ?_)
          rw [sW_eq, show dR (dZ (dZ (dZ (σ 2)))) - dR (dZ (dZ (dZ (σ 2)))) / 6 * 6 = nI (dN (dZ (dZ (dZ (σ 2)))) % 6) from dR_m _ (k := 6) (by omega) (by omega)]
          rw [sW_eq, sW_sW] at a3
          refine m_lies (by omega) a3 hq (fun h4 a4 b4 => ?_)
          exact m_goesOn (Wf_sLay (Wf_z hW) hB (by have := Nat.mod_lt (dN (dZ (dZ (dZ (σ 2))))) (show 6 > 0 by omega); omega)) a4 (fun h' a b => ⟨rfl, H2 _ rfl h' a (F36_tr b1 (F36_tr b2 (F36_tr b3 (F36_tr b4 b))))⟩)
theorem m_worthOfAll (hW : Wf B n σ) (hM : Mo n σ h) (H : f (qWo σ n) h) : rCall E (d + 2) mMo_worthOfAll [pR 35] SH h (rPi SH f) := by
  have hn := hW.1.1
  have hN := Mo_n hW hM
  apply vMo_worthOfAll
  refine loopUp (P := fun i => rR E (rCall E (d + 1)) mMo_worthOfAll (rPi SH f) 4 [some (pR 35), some (pI (qWo σ i)), some (pI (nI i))] [] SH h 0 0) n ?_ ?_
  · intro i hi hP
    refine vMo_worthOfAll_4 (br_f (by rw [hN]; exact nI_ge hi (by omega)) (m_it3 hM hn hi ⟨fun e => ?_, fun e => m_it1 hM hn hi ?_⟩))
    · simp only [qWo, if_pos e, nI_succ] at hP
      rw [Int32.add_zero]
      exact hP
    · simp only [qWo, if_neg e, nI_succ] at hP
      exact hP
  · exact vMo_worthOfAll_4 (br_t (by rw [hN]; exact nI_le (Nat.le_refl n) (by omega)) ⟨rfl, H⟩)
theorem m_kindsIn {S : Int32} (hW : Wf B n σ) (hM : Mo n σ h) (H : f (qKd σ S n) h) : rCall E (d + 2) mMo_kindsIn [pR 35, pI S] SH h (rPi SH f) := by
  have hn := hW.1.1
  have hN := Mo_n hW hM
  apply vMo_kindsIn
  refine loopUp (P := fun i => rR E (rCall E (d + 1)) mMo_kindsIn (rPi SH f) 4 [some (pR 35), some (pI S), some (pI (qKd σ S i)), some (pI (nI i))] [] SH h 0 0) n ?_ ?_
  · intro i hi hP
    refine vMo_kindsIn_4 (br_f (by rw [hN]; exact nI_ge hi (by omega)) (m_it3 hM hn hi ⟨fun e => ?_, fun e => m_it3 hM hn hi ⟨fun e2 => m_it0 hM hn hi ?_, fun e2 => ?_⟩⟩))
    · simp only [qKd, if_pos e, nI_succ] at hP
      rw [Int32.or_zero]
      exact hP
    · simp only [qKd, if_neg e, if_pos e2, nI_succ] at hP
      exact hP
    · simp only [qKd, if_neg e, if_neg e2, nI_succ] at hP
      rw [Int32.or_zero]
      exact hP
  · exact vMo_kindsIn_4 (br_t (by rw [hN]; exact nI_le (Nat.le_refl n) (by omega)) ⟨rfl, H⟩)
theorem cDn_b (K : Nat → Int32) (due : Int32) : ∀ m, cDn K due m < 64
  | 0 => by show 63 < 64; omega
  | m + 1 => by
    have := cDn_b K due m
    unfold cDn
    split <;> omega
theorem m_cover (hW : Wf B n σ) (hM : Mo n σ h) (H : f (nI (cUp (fun S => qKd σ (nI S) n) (qKd σ (nI 63) n) 64).1) h) : rCall E (d + 3) mMo_cover [pR 35] SH h (rPi SH f) := by
  rw [cov_eq (fun S => qKd σ (nI S) n) (qKd σ (nI 63) n) rfl] at H
  refine vMo_cover (m_kindsIn (S := nI 63) hW hM ?_)
  refine loopUp (P := fun m => rR E (rCall E (d + 2)) mMo_cover (rPi SH f) 13 [some (pR 35), some (pI (qKd σ (nI 63) n)), some (pI (nI (cDn (fun S => qKd σ (nI S) n) (qKd σ (nI 63) n) m))), some (pI (if m = 64 then -1 else nI (63 - m)))] [] SH h 0 0) 64 ?_ ?_
  · intro m hm hP
    have hb := cDn_b (fun S => qKd σ (nI S) n) (qKd σ (nI 63) n) m
    have en : nI (63 - m) + (-1) = (if m + 1 = 64 then (-1:Int32) else nI (63 - (m + 1))) := by
      by_cases e : m + 1 = 64
      · rw [if_pos e, show 63 - m = 0 by omega]
        rfl
      · rw [if_neg e, show 63 - m = 63 - (m + 1) + 1 by omega, pk_m1]
    rw [← en] at hP
    rw [if_neg (by omega)]
    refine vMo_cover_13 (br_f (nI_pos (by omega)) (m_kindsIn hW hM ⟨fun e => ?_, fun e => ?_⟩))
    · refine m_size (by omega) (m_size (by omega) ⟨fun e2 => ?_, fun e2 => ?_⟩)
      · rw [nI_ltI (by have := pc_le _ (show cDn (fun S => qKd σ (nI S) n) (qKd σ (nI 63) n) m < 256 by omega); omega) (by have := pc_le (63 - m) (by omega); omega)] at e2
        simp only [cDn] at hP
        rw [if_neg (by omega)] at hP
        exact hP
      · rw [nI_ltI (by have := pc_le _ (show cDn (fun S => qKd σ (nI S) n) (qKd σ (nI 63) n) m < 256 by omega); omega) (by have := pc_le (63 - m) (by omega); omega)] at e2
        simp only [cDn] at hP
        rw [if_pos ⟨e, by omega⟩] at hP
        exact hP
    · simp only [cDn] at hP
      rw [if_neg (fun q => e q.1)] at hP
      exact hP
  · exact vMo_cover_13 (br_t (by rw [if_pos rfl]; decide) ⟨rfl, H⟩)
theorem Mo_as {h h' : rHp} (hM : Mo n σ h) (hn : n ≤ 8) (e : ∀ k, k < 50 → h' 36 k = h 36 k) : Mo n σ h' := fun k hk => (e k (by omega)).trans (hM k hk)
theorem m_thought {k : Nat} (hk : k < 1000) (hW : Wf B n σ) (hM : Mo n σ h) (H : ∀ h', (∀ k, k < 50 → h' 36 k = h 36 k) → F38 h h' → f (sGs n k σ 4) h') : rCall E (d + 6) mMo_thoughtBehind [pR 35, pI (nI k)] SH h (rPi SH f) := by
  have hn := hW.1.1
  refine vMo_thoughtBehind (m_copyRow (u := 0) (w := 2) (by omega) (by omega) (by omega) (fun h1 a1 b1 => ?_))
  have hM1 : Mo n σ h1 := by
    intro j hj
    rw [b1 36 (by omega)]
    exact hM j hj
  refine m_goes hk hW hM1 (fun h2 a2 b2 => m_copyRow (u := 2) (w := 0) (by omega) (by omega) (by omega) (fun h3 a3 b3 => ?_))
  rw [a2 4 (by omega)]
  refine ⟨rfl, H h3 (fun j hj => ?_) (fun b c e => ?_)⟩
  · exact (a3 j hj).trans ((congrFun (b2 38 (by omega)) j).trans (a1 j hj))
  · exact (b3 b c).trans ((b2 b c).trans (b1 b e))
end
