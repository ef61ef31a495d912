def bI (b : Bool) : Int32 := match b with | true => 1 | false => 0
section
variable {E : rE} {d B n : Nat} {σ : Nat → Int32} {h : rHp} {f : Int32 → rHp → Prop} {fn : rHp → Prop}
theorem prR_0 (n o i : Nat) (σ : Nat → Int32) : prR n o σ (3 * i) = lyI o (sGs n (i + 1) σ) := by
  unfold prR lyI
  rw [if_pos (by omega), show 3 * i / 3 = i by omega]
theorem prR_1 (n o i : Nat) (σ : Nat → Int32) : prR n o σ (3 * i + 1) = sGs n (i + 1) σ 4 := by
  unfold prR
  rw [if_neg (by omega), if_pos (by omega), show (3 * i + 1) / 3 = i by omega]
theorem prR_2 (n o i : Nat) (σ : Nat → Int32) : prR n o σ (3 * i + 2) = sGs n (i + 1) σ 3 := by
  unfold prR
  rw [if_neg (by omega), if_neg (by omega), show (3 * i + 2) / 3 = i by omega]
/-- three more in a row -/
theorem row3 {T : Nat → Int32} {n o i : Nat} {σ : Nat → Int32} (e : ∀ j, j < 3 * i → T j = prR n o σ j) : ∀ j, j < 3 * (i + 1) → sW (sW (sW T (3 * i) (lyI o (sGs n (i + 1) σ))) (3 * i + 1) (sGs n (i + 1) σ 4)) (3 * i + 2) (sGs n (i + 1) σ 3) j = prR n o σ j := by
  intro j hj
  rcases (by omega : j < 3 * i ∨ j = 3 * i ∨ j = 3 * i + 1 ∨ j = 3 * i + 2) with c | c | c | c
  · rw [sW_ne (by omega), sW_ne (by omega), sW_ne (by omega)]
    exact e j c
  · subst c
    rw [sW_ne (by omega), sW_ne (by omega), sW_eq, prR_0]
  · subst c
    rw [sW_ne (by omega), sW_eq, prR_1]
  · subst c
    rw [sW_eq, prR_2]
theorem c_prove {o k : Nat} (hW : Wf B n σ) (hS : St 0 n σ h) (ho : o < n) (hk1 : 1 ≤ k) (hk : k ≤ 10) (H : ∀ h', (∀ b, (b < 8 ∨ 14 < b) ∧ b ≠ 34 ∧ b ≠ 0 → h' b = h b) → (∀ j, j ≠ 8 → h' 0 j = h 0 j) → h' 0 8 = nI k → (∀ j, j < 3 * k → h' 34 j = prR n o σ j) → f (nI k) h') : rCall E 40 mLa_prove [pR 0, pI (nI o), pI (nI k)] SH h (rPi SH f) := by
  have hn := hW.1.1
  refine vLa_prove (c_has1 (t := 0) t0 hW hS ho (o1 (br_f (nI_nlt (b := 1) hk1 (by omega)) (br_t (nI_le (b := 10) hk (by omega)) (c_bec10 hn hS (fun h1 a1 b1 => ?_))))))
  refine loopUp (P := fun i => ∀ h1 o4, St 1 n (sGs n i σ) h1 → (∀ b, (b < 8 ∨ 14 < b) ∧ b ≠ 34 → h1 b = h b) → (∀ j, j < 3 * i → h1 34 j = prR n o σ j) → rR E (rCall E 39) mLa_prove (rPi SH f) 37 [some (pR 0), some (pI (nI o)), some (pI (nI k)), some (pI (nI i)), oI o4] [] SH h1 0 0) k ?_ ?_ h1 none a1 (fun b hb => b1 b (by omega)) (fun j hj => absurd hj (by omega))
  · intro i hi hP h1 o4 a1 b1 e1
    have hW1 := Wf_sGs (B := B) i σ hW
    have hW2 : Wf B n (sGs n (i + 1) σ) := Wf_sGs (B := B) (i + 1) σ hW
    refine vLa_prove_37 (br_f (nI_ge hi (by omega)) (c_passYear (t := 1) t1 hW1 a1 (fun h2 a2 b2 => ?_)))
    rw [← sGs_s] at a2
    have far : ∀ (h3 : rHp) (j : Nat) (x : Int32), St 1 n (sGs n (i + 1) σ) h3 → St 1 n (sGs n (i + 1) σ) (rUp h3 34 j x) := fun h3 j x q => St_far q (fun b c1 c2 => rUp_o (by omega))
    refine vLa_prove_52 (br_f (by decide) (c_part (w := 0) hW2 a2 ho (by omega) ?_))
    rw [show nI i * (3:Int32) + (0:Int32) = nI (3 * i + 0) from jx3 i 0, nI_clamp (by omega)]
    refine ⟨vp_in_nI (by omega) (by omega), vLa_prove_52 (br_f (by decide) (c_part (w := 1) hW2 (far _ _ _ a2) ho (by omega) ?_))⟩
    rw [show nI i * (3:Int32) + ((0:Int32) + 1) = nI (3 * i + 1) from jx3 i 1, nI_clamp (by omega)]
    refine ⟨vp_in_nI (by omega) (by omega), vLa_prove_52 (br_f (by decide) (c_part (w := 2) hW2 (far _ _ _ (far _ _ _ a2)) ho (by omega) ?_))⟩
    rw [show nI i * (3:Int32) + ((0:Int32) + 1 + 1) = nI (3 * i + 2) from jx3 i 2, nI_clamp (by omega)]
    refine ⟨vp_in_nI (by omega) (by omega), vLa_prove_52 (br_t (by decide) ?_)⟩
    rw [← nI_succ]
    refine hP _ (some _) (far _ _ _ (far _ _ _ (far _ _ _ a2))) (fun b hb => ?_) ?_
    · rw [rUp_o hb.2, rUp_o hb.2, rUp_o hb.2, b2 b (by omega), b1 b hb]
    · rw [rUp_a, rUp_a, rUp_a, b2 34 (by omega)]
      exact row3 e1
  · intro h1 o4 a1 b1 e1
    refine vLa_prove_37 (br_t (nI_le (Nat.le_refl k) (by omega)) ⟨rfl, H _ (fun b hb => (rUp_o hb.2.2).trans (b1 b ⟨hb.1, hb.2.1⟩)) (fun j hj => ?_) ?_ (fun j hj => ?_)⟩)
    · rw [rUp_a, sW_ne hj, b1 0 (by omega)]
    · rw [rUp_a, sW_eq]
    · rw [rUp_o (by omega)]; exact e1 j hj
theorem m_prove {o k : Nat} (hW : Wf B n σ) (hM : Mo n σ h) (ho : o < n) (hk1 : 1 ≤ k) (hk : k ≤ 10) (H : ∀ h', (∀ b, b ≠ 36 ∧ b ≠ 38 ∧ b ≠ 42 ∧ b ≠ 35 → h' b = h b) → (∀ j, j < 50 → h' 36 j = h 36 j) → (∀ j, j ≠ 14 → h' 35 j = h 35 j) → h' 35 14 = nI k → (∀ j, j < 3 * k → h' 42 j = prR n o σ j) → f (nI k) h') : rCall E 40 mMo_prove [pR 35, pI (nI o), pI (nI k)] SH h (rPi SH f) := by
  have hn := hW.1.1
  refine vMo_prove (m_one1 hW hM ho (o1 (m_in1 (lo := 1) (hi := 10) hk1 hk (by omega) (o1 (m_save hn hM (fun h1 a1 b1 => ?_))))))
  refine loopUp (P := fun i => ∀ h1, Mo n (sGs n i σ) h1 → (∀ b, b ≠ 36 ∧ b ≠ 38 ∧ b ≠ 42 → h1 b = h b) → (∀ j, j < 50 → h1 38 j = h 36 j) → (∀ j, j < 3 * i → h1 42 j = prR n o σ j) → rR E (rCall E 39) mMo_prove (rPi SH f) 35 [some (pR 35), some (pI (nI o)), some (pI (nI k)), some (pI (nI i))] [] SH h1 0 0) k ?_ ?_ h1 a1 (fun b hb => b1.2 b hb.1 hb.2.1) b1.1 (fun j hj => absurd hj (by omega))
  · intro i hi hP h1 a1 b1 c1 e1
    have hW1 := Wf_sGs (B := B) i σ hW
    refine vMo_prove_35 (br_f (nI_ge hi (by omega)) (m_goesOn hW1 a1 (fun h2 a2 b2 => m_it3 a2 hn ho ?_)))
    rw [← sGs_s] at a2 ⊢
    rw [kx31, kx32, kx30, nI_clamp (by omega), nI_clamp (by omega), nI_clamp (by omega), a2 4 (by omega), a2 3 (by omega), ← nI_succ]
    have v0 : vp_in (nI (3 * i)) 30 := vp_in_nI (by omega) (by omega)
    have v1 : vp_in (nI (3 * i + 1)) 30 := vp_in_nI (by omega) (by omega)
    have v2 : vp_in (nI (3 * i + 2)) 30 := vp_in_nI (by omega) (by omega)
    have fin : ∀ x, x = lyI o (sGs n (i + 1) σ) → rR E (rCall E 39) mMo_prove (rPi SH f) 35 [some (pR 35), some (pI (nI o)), some (pI (nI k)), some (pI (nI (i + 1)))] [] SH (rUp (rUp (rUp h2 42 (3 * i) x) 42 (3 * i + 1) (sGs n (i + 1) σ 4)) 42 (3 * i + 2) (sGs n (i + 1) σ 3)) 0 0 := by
      intro x hx
      subst hx
      refine hP _ (Mo_far a2 ?_) (fun b hb => ?_) (fun j hj => ?_) ?_
      · rw [rUp_o (by omega), rUp_o (by omega), rUp_o (by omega)]
      · rw [rUp_o hb.2.2, rUp_o hb.2.2, rUp_o hb.2.2, b2 b hb.1, b1 b hb]
      · rw [rUp_o (by omega), rUp_o (by omega), rUp_o (by omega), b2 38 (by omega)]
        exact c1 j hj
      · rw [rUp_a, rUp_a, rUp_a, b2 42 (by omega)]
        exact row3 e1
    refine ⟨fun c => ⟨v0, v1, v2, fin _ ?_⟩, fun c => ⟨v0, v1, v2, fin _ ?_⟩⟩
    · unfold lyI
      rw [if_pos c]
    · unfold lyI
      rw [if_neg c]
  · intro h1 a1 b1 c1 e1
    refine vMo_prove_35 (br_t (nI_le (Nat.le_refl k) (by omega)) (m_copyRow (u := 2) (w := 0) (by omega) (by omega) (by omega) (fun h2 a2 b2 => ⟨rfl, H _ (fun b hb => ?_) (fun j hj => ?_) (fun j hj => ?_) ?_ (fun j hj => ?_)⟩)))
    · rw [rUp_o hb.2.2.2, b2 b hb.1, b1 b ⟨hb.1, hb.2.1, hb.2.2.1⟩]
    · rw [rUp_o (by omega)]
      exact (a2 j hj).trans (c1 j hj)
    · rw [rUp_a, sW_ne hj, b2 35 (by omega), b1 35 (by omega)]
    · rw [rUp_a, sW_eq]
    · rw [rUp_o (by omega), b2 42 (by omega)]
      exact e1 j hj
theorem two_prove (hB : B + 1 < 1000000) (hR : Rel B h) (a1 a2 : Int32) : Two E B h mLa_prove mMo_prove [pI a1, pI a2] := by
  have hR' := hR
  obtain ⟨⟨n, σ, hW, hS, hM⟩, h1, h2, h3, h4, h5, h6⟩ := hR'
  have hn := hW.1.1
  rcases qa a1 n (by omega) with ⟨o, ho, rfl⟩ | hb
  · rcases qr a2 1 10 (by omega) with ⟨k, hk1, hk, rfl⟩ | hb
    · refine c_prove hW hS ho hk1 hk (fun g1 p1 p2 p3 p4 => m_prove hW (Mo_far hM (p1 36 (by omega))) ho hk1 hk (fun g2 r1 r2 r3 r4 r5 => ⟨rfl, ?_⟩))
      have q : ∀ b, (b < 8 ∨ 14 < b) ∧ b ≠ 0 ∧ b ≠ 34 ∧ b ≠ 35 ∧ b ≠ 36 ∧ b ≠ 38 ∧ b ≠ 42 → g2 b = h b := fun b hb => (r1 b (by omega)).trans (p1 b (by omega))
      have q0 : ∀ j, j ≠ 8 → g2 0 j = h 0 j := fun j hj => (congrFun (r1 0 (by omega)) j).trans (p2 j hj)
      have q35 : ∀ j, j ≠ 14 → g2 35 j = h 35 j := fun j hj => (r3 j hj).trans (congrFun (p1 35 (by omega)) j)
      refine ⟨⟨n, σ, Wf_le hW (by omega) hB, St_far hS (fun b c1 c2 => q b (by omega)), Mo_as (Mo_far hM (p1 36 (by omega))) hn r2⟩, RK_far (RK_le hB h1) (q0 9 (by omega)) (q35 5 (by omega)) (fun b c1 c2 => q b (by omega)) (q 37 (by omega)), RT_far h2 (congrFun (q 22 (by omega)) 1) (q35 7 (by omega)) (q 23 (by omega)) (q 41 (by omega)), ⟨k, hk, (congrFun (r1 0 (by omega)) 8).trans p3, r4, fun j hj => ?_⟩, RS_far h4 (q 25 (by omega)) (q 26 (by omega)) (q 27 (by omega)) (q 43 (by omega)) (q 44 (by omega)) (q 45 (by omega)), RV_far h5 (q 29 (by omega)) (q 30 (by omega)) (q 31 (by omega)) (q 46 (by omega)) (q 47 (by omega)) (q 48 (by omega)), RA_far h6 (congrFun (q 32 (by omega)) 1) (q35 22 (by omega)) (q 33 (by omega)) (q 49 (by omega))⟩
      rw [r5 j hj, r1 34 (by omega), p4 j hj]
    · exact two_no hB hR (-1) (fun f H => vLa_prove (c_has1 (t := 0) t0 hW hS ho (o1 (bd_t (lo := 1) (hi := 10) hb (by omega) (by omega) ⟨rfl, hN0 H⟩)))) (fun h1 f e H => vMo_prove (m_one1 hW (Mo_far hM (e 36 (by omega))) ho (o1 (m_in0 (lo := 1) (hi := 10) hb (by omega) (by omega) (o0 ⟨rfl, mN0 H⟩)))))
  · exact two_no hB hR (-1) (fun f H => vLa_prove (c_has0 (t := 0) t0 hW hS hb (o0 ⟨rfl, hN0 H⟩))) (fun h1 f e H => vMo_prove (m_one0 hW (Mo_far hM (e 36 (by omega))) hb (o0 ⟨rfl, mN0 H⟩)))
theorem c_number {t i : Nat} (ht : t < 4) (hi : i < 40) (H : f (h 27 (40 * t + i)) h) : rCall E (d + 1) mSe_number [pR 24, pI (nI t), pI (nI i)] SH h (rPi SH f) := by
  apply vSe_number
  rw [jx40, nI_clamp (by omega)]
  exact ⟨vp_in_nI (by omega) (by omega), rfl, H⟩
theorem c_fitsWith {t o z w : Nat} (hW : Wf B n σ) (hS : St 0 n σ h) (ho : o < n) (ht : t < 4) (hz : z ≤ 40) (e26 : h 26 t = nI z) (H : ∀ h', Fr 1 h h' → f (bI (tld n (fun i => h 27 (40 * t + i)) z 0 (sW σ (11 + 5 * o) (nI w)))) h') : rCall E 39 mLa_fitsWith [pR 0, pI (nI t), pI (nI o), pI (nI w)] SH h (rPi SH f) := by
  have hn := hW.1.1
  have vt : vp_in (nI t) 4 := vp_in_nI ht (by omega)
  have ct : (nI t).toNatClampNeg = t := nI_clamp (by omega)
  refine vLa_fitsWith (c_bec10 hn hS (fun h1 a1 b1 => ⟨vp_in_nI (by omega) (by omega), ?_⟩))
  rw [nI_clamp (by omega)]
  have go : ∀ (m i : Nat) (τ : Nat → Int32) (h1 : rHp) (o5 : Option Int32), m + i = z → Wf B n τ → St 1 n τ h1 → Fr 1 h h1 → (∀ h', Fr 1 h h' → f (bI (tld n (fun i => h 27 (40 * t + i)) m i τ)) h') →
      rR E (rCall E 38) mLa_fitsWith (rPi SH f) 24 [some (pR 0), some (pI (nI t)), some (pI (nI o)), some (pI (nI w)), some (pI (nI i)), oI o5] [] SH h1 0 0 := by
    intro m
    induction m with
    | zero =>
      intro i τ h1 o5 hm hW hS hF H
      refine vLa_fitsWith_24 ⟨vt, br_t ?_ ⟨rfl, H h1 hF⟩⟩
      rw [ct, hF 26 (by omega), e26]
      exact nI_le (by omega) (by omega)
    | succ m ih =>
      intro i τ h1 o5 hm hW hS hF H
      refine vLa_fitsWith_24 ⟨vt, br_f ?_ (c_passYear (t := 1) t1 hW hS (fun h2 a2 b2 => c_number ht (by omega) ?_))⟩
      · rw [ct, hF 26 (by omega), e26]
        exact nI_ge (by omega) (by omega)
      · have hF2 := Fr_tr hF b2
        rw [hF2 27 (by omega), S1_o a2, ← nI_succ]
        simp only [tld] at H
        refine ⟨fun c => ?_, fun c => ⟨fun c2 => ?_, fun c2 => ⟨rfl, ?_⟩⟩⟩
        · rw [if_pos (Or.inl c)] at H
          exact ih (i + 1) _ h2 (some _) (by omega) (Wf_sGo hW) a2 hF2 H
        · rw [if_pos (Or.inr c2)] at H
          exact ih (i + 1) _ h2 (some _) (by omega) (Wf_sGo hW) a2 hF2 H
        · rw [if_neg (fun q => q.elim c c2)] at H
          exact H h2 hF2
  exact go z 0 _ _ none (by omega) (Wf_fr hW (by omega)) (U1_w a1) (Fr_tr b1 (FrU1 (by omega) (by omega))) H
theorem m_isTold {t z : Nat} (T : Nat → Int32) (hW : Wf B n σ) (hM : Mo n σ h) (ht : t < 4) (hz : z ≤ 40) (e44 : h 44 t = nI z) (eT : ∀ i, i < z → h 45 (40 * t + i) = T i) (H : ∀ h', (∀ k, k < 50 → h' 36 k = h 36 k) → F38 h h' → f (bI (tld n T z 0 σ)) h') : rCall E 39 mMo_isTold [pR 35, pI (nI t)] SH h (rPi SH f) := by
  have hn := hW.1.1
  have vt : vp_in (nI t) 4 := vp_in_nI ht (by omega)
  have ct : (nI t).toNatClampNeg = t := nI_clamp (by omega)
  refine vMo_isTold (m_save hn hM (fun h1 a1 b1 => ?_))
  have go : ∀ (m i : Nat) (τ : Nat → Int32) (h1 : rHp), m + i = z → Wf B n τ → Mo n τ h1 → Sv h h1 → (∀ h', (∀ k, k < 50 → h' 36 k = h 36 k) → F38 h h' → f (bI (tld n T m i τ)) h') →
      rR E (rCall E 38) mMo_isTold (rPi SH f) 15 [some (pR 35), some (pI (nI t)), some (pI 1), some (pI (nI i))] [] SH h1 0 0 := by
    intro m
    induction m with
    | zero =>
      intro i τ h1 hm hW hM hF H
      refine vMo_isTold_15 ⟨vt, br_t ?_ (m_back hF (fun h' a b => ⟨Or.inr rfl, rfl, H h' a b⟩))⟩
      rw [ct, hF.2 44 (by omega) (by omega), e44]
      exact nI_le (by omega) (by omega)
    | succ m ih =>
      intro i τ h1 hm hW hM hF H
      refine vMo_isTold_15 ⟨vt, br_f ?_ (o1 (m_goesOn hW hM (fun h2 a2 b2 => ?_)))⟩
      · rw [ct, hF.2 44 (by omega) (by omega), e44]
        exact nI_ge (by omega) (by omega)
      · have hF2 := Sv_36 hF b2
        have v45 : vp_in (nI (40 * t + i)) 160 := vp_in_nI (by omega) (by omega)
        rw [kx40, nI_clamp (by omega), hF2.2 45 (by omega) (by omega), eT i (by omega), a2 4 (by omega), ← nI_succ]
        simp only [tld] at H
        refine ⟨v45, fun c => ?_, fun c => ⟨v45, fun c2 => ?_, fun c2 => ?_⟩⟩
        · rw [if_pos (Or.inl c)] at H
          exact ih (i + 1) _ h2 (by omega) (Wf_sGo hW) a2 hF2 H
        · rw [if_pos (Or.inr c2)] at H
          exact ih (i + 1) _ h2 (by omega) (Wf_sGo hW) a2 hF2 H
        · rw [if_neg (fun q => q.elim c c2)] at H
          exact vMo_isTold_15 ⟨vt, fun _ => m_back hF2 (fun h' a b => ⟨Or.inl rfl, rfl, H h' a b⟩), fun _ => o0 (m_back hF2 (fun h' a b => ⟨Or.inl rfl, rfl, H h' a b⟩))⟩
  exact go z 0 σ h1 (by omega) hW a1 b1 H
theorem dn99 (i : Nat) (hi : i < 100) : nI (99 - i) + (-1) = (if i + 1 = 100 then (-1:Int32) else nI (99 - (i + 1))) := by
  by_cases e : i + 1 = 100
  · rw [if_pos e, show 99 - i = 0 by omega]
    rfl
  · rw [if_neg e, show 99 - i = 99 - (i + 1) + 1 by omega, pk_m1]
theorem two_fits (hB : B + 1 < 1000000) (hR : Rel B h) (a1 a2 a3 : Int32) : Two E B h mLa_fits mMo_fits [pI a1, pI a2, pI a3] := by
  have hR' := hR
  obtain ⟨⟨n, σ, hW, hS, hM⟩, _, _, _, h4, _⟩ := hR'
  have hn := hW.1.1
  rcases qr a1 0 3 (by omega) with ⟨t, _, ht, rfl⟩ | hb
  · have vt : vp_in (nI t) 4 := vp_in_nI (by omega) (by omega)
    have ct : (nI t).toNatClampNeg = t := nI_clamp (by omega)
    rcases qa a2 n (by omega) with ⟨o, ho, rfl⟩ | hb
    · have va : vp_in (nI (11 + 5 * o)) 50 := vp_in_nI (by omega) (by omega)
      have ca : (nI (11 + 5 * o)).toNatClampNeg = 11 + 5 * o := nI_clamp (by omega)
      rcases qr a3 0 1 (by omega) with ⟨w, _, hw, rfl⟩ | hb
      · rcases h4 t (by omega) with ⟨s1, s2⟩ | ⟨q, z, hq, hz, s1, s2, s3, s4, s5⟩
        · refine two_no hB hR (-11) (fun f H => vLa_fits (c_wi1 (m := 3) ht (by omega) (o1 (c_has1 (t := 0) t0 hW hS ho (o1 (c_wi1 (m := 1) hw (by omega) (o1 ⟨vt, br_t ?_ ⟨rfl, hN0 H⟩⟩))))))) (fun h0 f e H => vMo_fits (m_sheet1 ht (o1 (m_one1 hW (Mo_far hM (e 36 (by omega))) ho (o1 (m_in1 (lo := 0) (hi := 1) (by omega) hw (by omega) (o1 ⟨vt, br_f ?_ ⟨rfl, mN0 H⟩⟩)))))))
          · rw [ct, s1]
          · rw [ct, e 43 (by omega), s2]
            decide
        · obtain ⟨g, hg⟩ : ∃ g : Nat → Bool, g = fun w => tld n (fun i => h 27 (40 * t + i)) z 0 (sW σ (11 + 5 * o) (nI w)) := ⟨_, rfl⟩
          have q0 : ¬ nI q = -1 := by
            intro e
            have := nI_pos (n := q) (by omega)
            rw [e] at this
            exact this (by decide)
          refine two_no hB hR (if w = 0 then nI (ftM g 100).1 else (ftM g 100).2) (fun f H => vLa_fits (c_wi1 (m := 3) ht (by omega) (o1 (c_has1 (t := 0) t0 hW hS ho (o1 (c_wi1 (m := 1) hw (by omega) (o1 ⟨vt, br_f ?_ ?_⟩))))))) (fun h0 f e H => vMo_fits (m_sheet1 ht (o1 (m_one1 hW (Mo_far hM (e 36 (by omega))) ho (o1 (m_in1 (lo := 0) (hi := 1) (by omega) hw (by omega) (o1 ⟨vt, br_t ?_ ?_⟩)))))))
          · rw [ct, s1]
            exact q0
          · refine loopUp (P := fun i => ∀ h1, Fr 1 h h1 → rR E (rCall E 39) mLa_fits (rPi SH f) 56 [some (pR 0), some (pI (nI t)), some (pI (nI o)), some (pI (nI w)), some (pI (nI (ftM g i).1)), some (pI (ftM g i).2), some (pI (if i = 100 then -1 else nI (99 - i)))] [] SH h1 0 0) 100 ?_ ?_ h Fr_refl
            · intro i hi hP h1 b1
              rw [← dn99 i hi] at hP
              rw [if_neg (by omega)]
              refine vLa_fits_56 (br_f (nI_pos (by omega)) (c_fitsWith hW (S0_1 hS b1) ho (by omega) hz ((congrFun (b1 26 (by omega)) t).trans s3) (fun h2 b2 => ?_)))
              rw [b1 27 (by omega)]
              have hP := hP h2 (Fr_tr b1 b2)
              simp only [ftM] at hP
              have eg : tld n (fun i => h 27 (40 * t + i)) z 0 (sW σ (11 + 5 * o) (nI (99 - i))) = g (99 - i) := by rw [hg]
              rw [eg]
              cases c : g (99 - i) with
              | true =>
                rw [if_pos c, nI_succ] at hP
                exact o1 hP
              | false =>
                rw [if_neg (by rw [c]; decide)] at hP
                exact o0 hP
            · intro h1 b1
              by_cases w0 : w = 0
              · subst w0
                exact vLa_fits_56 (br_t (by decide) (br_t rfl ⟨rfl, H h1 b1⟩))
              · rw [if_neg w0] at H
                exact vLa_fits_56 (br_t (by decide) (br_f (nI_ne0 (by omega) (by omega)) ⟨rfl, H h1 b1⟩))
          · rw [ct, e 43 (by omega), s2]
            exact nI_pos' (by omega)
          · rw [ix1, ca]
            refine ⟨va, ?_⟩
            refine loopUp (P := fun i => ∀ h1 o9, Al (11 + 5 * o) h0 h1 → rR E (rCall E 39) mMo_fits (rPi SH f) 69 [some (pR 35), some (pI (nI t)), some (pI (nI o)), some (pI (nI w)), some (pI (nI (11 + 5 * o))), some (pI (h0 36 (11 + 5 * o))), some (pI (nI (ftM g i).1)), some (pI (ftM g i).2), some (pI (if i = 100 then -1 else nI (99 - i))), oI o9] [] SH h1 0 0) 100 ?_ ?_ h0 none Al_rf
            · intro i hi hP h1 o9 b1
              rw [← dn99 i hi] at hP
              rw [if_neg (by omega)]
              refine vMo_fits_69 (br_f (nI_pos (by omega)) ⟨va, ?_⟩)
              rw [ca]
              refine m_isTold (z := z) (fun i => h 27 (40 * t + i)) (Wf_fr hW (by omega)) (Al_Mo hn (Mo_far hM (e 36 (by omega))) b1) (by omega) hz ?_ (fun j hj => ?_) (fun h2 a2 b2 => ?_)
              · rw [rUp_o (by omega), b1.2 44 (by omega) (by omega), e 44 (by omega), s4]
              · rw [rUp_o (by omega), b1.2 45 (by omega) (by omega), e 45 (by omega), s5 j hj]
              · have hP := fun o9 => hP h2 o9 (Al_th (Al_up b1) a2 b2)
                simp only [ftM] at hP
                have eg : tld n (fun i => h 27 (40 * t + i)) z 0 (sW σ (11 + 5 * o) (nI (99 - i))) = g (99 - i) := by rw [hg]
                rw [eg]
                cases c : g (99 - i) with
                | true =>
                  rw [if_pos c, nI_succ] at hP
                  exact o1 (o1 (hP (some 1)))
                | false =>
                  rw [if_neg (by rw [c]; decide)] at hP
                  rw [Int32.add_zero]
                  exact o0 (o0 (hP (some 0)))
            · intro h1 o9 b1
              obtain ⟨e1, e2⟩ := Al_end b1
              by_cases w0 : w = 0
              · subst w0
                refine vMo_fits_69 (br_t (by decide) ⟨va, br_t rfl ⟨rfl, ?_⟩⟩)
                rw [ca]
                exact H _ e1 (FrM_of e2)
              · rw [if_neg w0] at H
                refine vMo_fits_69 (br_t (by decide) ⟨va, br_f (nI_ne0 (by omega) (by omega)) ⟨rfl, ?_⟩⟩)
                rw [ca]
                exact H _ e1 (FrM_of e2)
      · exact two_no hB hR (-1) (fun f H => vLa_fits (c_wi1 (m := 3) ht (by omega) (o1 (c_has1 (t := 0) t0 hW hS ho (o1 (c_wi0 (m := 1) hb (by omega) (o0 ⟨rfl, hN0 H⟩))))))) (fun h0 f e H => vMo_fits (m_sheet1 ht (o1 (m_one1 hW (Mo_far hM (e 36 (by omega))) ho (o1 (m_in0 (lo := 0) (hi := 1) hb (by omega) (by omega) (o0 ⟨rfl, mN0 H⟩)))))))
    · exact two_no hB hR (-1) (fun f H => vLa_fits (c_wi1 (m := 3) ht (by omega) (o1 (c_has0 (t := 0) t0 hW hS hb (o0 ⟨rfl, hN0 H⟩))))) (fun h0 f e H => vMo_fits (m_sheet1 ht (o1 (m_one0 hW (Mo_far hM (e 36 (by omega))) hb (o0 ⟨rfl, mN0 H⟩)))))
  · exact two_no hB hR (-1) (fun f H => vLa_fits (c_wi0 (m := 3) hb (by omega) (o0 ⟨rfl, hN0 H⟩))) (fun h0 f e H => vMo_fits (m_sheet0 hb (o0 ⟨rfl, mN0 H⟩)))
end
