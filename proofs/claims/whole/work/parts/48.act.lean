section
variable {E : rE} {d B n k D : Nat} {nn aa x s : Int32} {L : List Int32} {h h0 : rHp} {f : Int32 → rHp → Prop} {fn : rHp → Prop}
theorem m_sPlain (hA : AM k nn aa L s h0 h) (H : ∀ h', AM k nn aa (L ++ [10]) s h0 h' → f (x * 2 + nn) h') : rCall E (d + 2) mMo_sinksPlain [pR 35, pI x] SH h (rPi SH f) := by
  refine vMo_sinksPlain (m_runs hA (fun h1 a1 => ⟨rfl, ?_⟩))
  rw [a1.2.2.2.1]
  exact H h1 a1
theorem m_sRub (hA : AM k nn aa L s h0 h) (H : ∀ h', AM k nn aa (L ++ [30] ++ [10]) s h0 h' → f (0 - (x * 2 + nn)) h') : rCall E (d + 3) mMo_sinksOfRubbish [pR 35, pI x] SH h (rPi SH f) :=
  vMo_sinksOfRubbish (m_runs hA (fun h1 a1 => m_sPlain a1 (fun h2 a2 => ⟨rfl, H h2 a2⟩)))
theorem m_sinks (hA : AM k nn aa L s h0 h) (hk : k < 6) (H : ∀ h', AM k nn aa (kL k L) s h0 h' → f (kV k nn x) h') : rCall E (d + 4) mMo_sinks [pR 35, pI x] SH h (rPi SH f) := by
  apply vMo_sinks
  rw [hA.2.2.1]
  rcases (by omega : k = 0 ∨ k = 1 ∨ k = 2 ∨ k = 3 ∨ k = 4 ∨ k = 5) with rfl | rfl | rfl | rfl | rfl | rfl
  · exact br_f (by decide) (br_f (by decide) (br_f (by decide) (m_sPlain hA (fun h2 a2 => ⟨rfl, H h2 a2⟩))))
  · exact br_f (by decide) (br_f (by decide) (br_f (by decide) (m_sPlain hA (fun h2 a2 => ⟨rfl, H h2 a2⟩))))
  · exact br_t rfl (m_sRub hA (fun h2 a2 => ⟨rfl, H h2 a2⟩))
  · refine br_f (by decide) (br_t rfl (m_runs hA (fun h1 a1 => m_sPlain a1 (fun h2 a2 => ⟨rfl, ?_⟩))))
    rw [a2.2.2.2.1]
    exact H h2 a2
  · exact br_f (by decide) (br_f (by decide) (br_t rfl (m_runs hA (fun h1 a1 => m_sRub a1 (fun h2 a2 => ⟨rfl, H h2 a2⟩)))))
  · exact br_f (by decide) (br_f (by decide) (br_f (by decide) (m_sPlain hA (fun h2 a2 => ⟨rfl, H h2 a2⟩))))
theorem m_hPlain (hA : AM k nn aa L s h0 h) (hk : k < 6) (H : ∀ h', AM k nn aa (kL k (L ++ [11])) s h0 h' → f (kV k nn x * 3 - aa) h') : rCall E (d + 5) mMo_showsPlain [pR 35, pI x] SH h (rPi SH f) := by
  refine vMo_showsPlain (m_runs hA (fun h1 a1 => m_sinks a1 hk (fun h2 a2 => ⟨rfl, ?_⟩)))
  rw [a2.2.2.2.2.1]
  exact H h2 a2
theorem m_shows (hA : AM k nn aa L s h0 h) (hk : k < 6) (H : ∀ h', AM k nn aa (jL k L) s h0 h' → f (jV k nn aa x) h') : rCall E (d + 6) mMo_shows [pR 35, pI x] SH h (rPi SH f) := by
  apply vMo_shows
  rw [hA.2.2.1]
  rcases (by omega : k = 0 ∨ k = 1 ∨ k = 2 ∨ k = 3 ∨ k = 4 ∨ k = 5) with rfl | rfl | rfl | rfl | rfl | rfl
  · exact br_f (by decide) (br_f (by decide) (br_f (by decide) (m_hPlain hA (by omega) (fun h2 a2 => ⟨rfl, H h2 a2⟩))))
  · exact br_t rfl (m_runs hA (fun h1 a1 => m_hPlain a1 (by omega) (fun h2 a2 => ⟨rfl, H h2 a2⟩)))
  · exact br_f (by decide) (br_f (by decide) (br_f (by decide) (m_hPlain hA (by omega) (fun h2 a2 => ⟨rfl, H h2 a2⟩))))
  · exact br_f (by decide) (br_t rfl (m_runs hA (fun h1 a1 => m_hPlain a1 (by omega) (fun h2 a2 => ⟨rfl, H h2 a2⟩))))
  · refine br_f (by decide) (br_f (by decide) (br_t rfl (m_runs hA (fun h1 a1 => m_hPlain a1 (by omega) (fun h2 a2 => ?_)))))
    rw [a2.2.2.2.2.1]
    exact m_sinks a2 (by omega) (fun h3 a3 => ⟨rfl, H h3 a3⟩)
  · exact br_f (by decide) (br_f (by decide) (br_f (by decide) (m_hPlain hA (by omega) (fun h2 a2 => ⟨rfl, H h2 a2⟩))))
theorem m_pPlain (hA : AM k nn aa L 0 h0 h) (H : (nn = aa → ∀ h', AM k nn aa (L ++ [12]) 1 h0 h' → f 0 h') ∧ (¬ nn = aa → ∀ h', AM k nn aa (L ++ [12]) 0 h0 h' → f (x / (aa - nn)) h')) : rCall E (d + 2) mMo_partsPlain [pR 35, pI x] SH h (rPi SH f) := by
  refine vMo_partsPlain (m_runs hA (fun h1 a1 => ?_))
  have up : ∀ v, AM k nn aa (L ++ [12]) v h0 (rUp h1 35 26 v) := by
    intro v
    obtain ⟨h1, h1', h2, h3, h4, h5, h6, h7⟩ := a1
    refine ⟨fun b hb => (rUp_o hb.1).trans (h1 b hb), fun j hj => ?_, ?_, ?_, ?_, ?_, ?_, fun j hj => ?_⟩
    · rw [rUp_a, sW_ne (by omega)]; exact h1' j hj
    · rw [rUp_a, sW_ne (by omega)]; exact h2
    · rw [rUp_a, sW_ne (by omega)]; exact h3
    · rw [rUp_a, sW_ne (by omega)]; exact h4
    · rw [rUp_a, sW_eq]
    · rw [rUp_a, sW_ne (by omega)]; exact h6
    · rw [rUp_o (by omega)]; exact h7 j hj
  rw [a1.2.2.2.1, a1.2.2.2.2.1, a1.2.2.2.2.2.1, sub0]
  exact br_t rfl ⟨fun e => br_f (by decide) ⟨rfl, H.1 e _ (up 1)⟩, fun e => br_t rfl ⟨e, rfl, H.2 e _ (up 0)⟩⟩
theorem m_parts (hA : AM k nn aa L 0 h0 h) (hk : k < 6) (H : (nn = aa → ∀ v h', AM k nn aa (pLs k nn aa L) 1 h0 h' → f v h') ∧ (¬ nn = aa → ∀ h', AM k nn aa (pLs k nn aa L) 0 h0 h' → f (pVs k nn aa x) h')) : rCall E (d + 5) mMo_parts [pR 35, pI x] SH h (rPi SH f) := by
  apply vMo_parts
  rw [hA.2.2.1]
  rcases (by omega : k = 0 ∨ k = 1 ∨ k = 2 ∨ k = 3 ∨ k = 4 ∨ k = 5) with rfl | rfl | rfl | rfl | rfl | rfl
  · exact br_f (by decide) (br_f (by decide) (m_pPlain hA ⟨fun e h2 a2 => ⟨rfl, H.1 e _ h2 a2⟩, fun e h2 a2 => ⟨rfl, H.2 e h2 a2⟩⟩))
  · exact br_f (by decide) (br_f (by decide) (m_pPlain hA ⟨fun e h2 a2 => ⟨rfl, H.1 e _ h2 a2⟩, fun e h2 a2 => ⟨rfl, H.2 e h2 a2⟩⟩))
  · exact br_f (by decide) (br_f (by decide) (m_pPlain hA ⟨fun e h2 a2 => ⟨rfl, H.1 e _ h2 a2⟩, fun e h2 a2 => ⟨rfl, H.2 e h2 a2⟩⟩))
  · exact br_t rfl (m_runs hA (fun h1 a1 => m_pPlain a1 ⟨fun e h2 a2 => ⟨rfl, H.1 e _ h2 a2⟩, fun e h2 a2 => ⟨rfl, H.2 e h2 a2⟩⟩))
  · exact br_f (by decide) (br_f (by decide) (m_pPlain hA ⟨fun e h2 a2 => ⟨rfl, H.1 e _ h2 a2⟩, fun e h2 a2 => ⟨rfl, H.2 e h2 a2⟩⟩))
  · refine br_f (by decide) (br_t rfl (m_runs hA (fun h1 a1 => m_pPlain a1 ⟨fun e h2 a2 => ⟨?_, ?_⟩, fun e h2 a2 => ⟨?_, ?_⟩⟩)))
    · intro q
      rw [a2.2.2.2.2.2.1] at q
      exact absurd q (by decide)
    · intro _
      refine ⟨rfl, H.1 e _ h2 ?_⟩
      rw [pLs5.1 e]; exact a2
    · intro _
      rw [a2.2.2.2.1]
      refine m_sinks a2 (by omega) (fun h3 a3 => ⟨rfl, H.2 e h3 ?_⟩)
      rw [pLs5.2 e]; exact a3
    · intro q
      exact absurd a2.2.2.2.2.2.1 q
theorem m_aPlain (hA : AM k nn aa L s h0 h) (hk : k < 6) (H : ∀ h', AM k nn aa (jL k (L ++ [13])) s h0 h' → f (jV k nn aa x ^^^ 70) h') : rCall E (d + 7) mMo_asksPlain [pR 35, pI x] SH h (rPi SH f) :=
  vMo_asksPlain (m_runs hA (fun h1 a1 => m_shows a1 hk (fun h2 a2 => ⟨rfl, H h2 a2⟩)))
theorem m_asks (hA : AM k nn aa L 0 h0 h) (hk : k < 6) (H : (nn = aa ∧ (k = 2 ∨ k = 4) → ∀ v h', AM k nn aa (aLs k nn aa L) 1 h0 h' → f v h') ∧ (¬ (nn = aa ∧ (k = 2 ∨ k = 4)) → ∀ h', AM k nn aa (aLs k nn aa L) 0 h0 h' → f (aVs k nn aa x) h')) : rCall E (d + 8) mMo_asks [pR 35, pI x] SH h (rPi SH f) := by
  apply vMo_asks
  rw [hA.2.2.1]
  rcases (by omega : k = 0 ∨ k = 1 ∨ k = 2 ∨ k = 3 ∨ k = 4 ∨ k = 5) with rfl | rfl | rfl | rfl | rfl | rfl
  · exact br_f (by decide) (br_f (by decide) (br_f (by decide) (m_aPlain hA (by omega) (fun h2 a2 => ⟨rfl, H.2 (fun q => by omega) h2 a2⟩))))
  · exact br_f (by decide) (br_f (by decide) (br_f (by decide) (m_aPlain hA (by omega) (fun h2 a2 => ⟨rfl, H.2 (fun q => by omega) h2 a2⟩))))
  · refine br_t rfl (m_runs hA (fun h1 a1 => m_aPlain a1 (by omega) (fun h2 a2 => ?_)))
    rw [a2.2.2.2.1]
    exact m_parts a2 (by omega) ⟨fun e v h3 a3 => ⟨rfl, H.1 ⟨e, Or.inl rfl⟩ _ h3 a3⟩, fun e h3 a3 => ⟨rfl, H.2 (fun q => e q.1) h3 a3⟩⟩
  · exact br_f (by decide) (br_f (by decide) (br_f (by decide) (m_aPlain hA (by omega) (fun h2 a2 => ⟨rfl, H.2 (fun q => by omega) h2 a2⟩))))
  · refine br_f (by decide) (br_t rfl (m_runs hA (fun h1 a1 => m_aPlain a1 (by omega) (fun h2 a2 => ?_))))
    rw [a2.2.2.2.1]
    exact m_parts a2 (by omega) ⟨fun e v h3 a3 => ⟨rfl, H.1 ⟨e, Or.inr rfl⟩ _ h3 a3⟩, fun e h3 a3 => ⟨rfl, H.2 (fun q => e q.1) h3 a3⟩⟩
  · refine br_f (by decide) (br_f (by decide) (br_t rfl (m_runs hA (fun h1 a1 => m_aPlain a1 (by omega) (fun h2 a2 => ⟨rfl, ?_⟩)))))
    rw [a2.2.2.2.2.1]
    exact H.2 (fun q => by omega) h2 a2
theorem rel_act {h2 : rHp} (hB : B + 1 < 1000000) (hR : Rel B h) (q : ∀ b, b ≠ 32 ∧ b ≠ 33 ∧ b ≠ 35 ∧ b ≠ 49 → h2 b = h b) (q35 : ∀ j, j < 22 → h2 35 j = h 35 j) (hc : TC L h2) (hm : TM L h2) : Rel (B + 1) h2 := by
  obtain ⟨⟨n, σ, hW, hS, hM⟩, h1, h2', h3, h4, h5, h6⟩ := hR
  exact ⟨⟨n, σ, Wf_le hW (by omega) hB, St_far hS (fun b c1 c2 => q b (by omega)), Mo_far hM (q 36 (by omega))⟩, RK_far (RK_le hB h1) (congrFun (q 0 (by omega)) 9) (q35 5 (by omega)) (fun b c1 c2 => q b (by omega)) (q 37 (by omega)), RT_far h2' (congrFun (q 22 (by omega)) 1) (q35 7 (by omega)) (q 23 (by omega)) (q 41 (by omega)), RR_far h3 (congrFun (q 0 (by omega)) 8) (q35 14 (by omega)) (q 34 (by omega)) (q 42 (by omega)), RS_far h4 (q 25 (by omega)) (q 26 (by omega)) (q 27 (by omega)) (q 43 (by omega)) (q 44 (by omega)) (q 45 (by omega)), RV_far h5 (q 29 (by omega)) (q 30 (by omega)) (q 31 (by omega)) (q 46 (by omega)) (q 47 (by omega)) (q 48 (by omega)), ⟨min L.length 30, by omega, hc.1, hm.1, fun j hj => (hc.2 j hj).trans (hm.2 j hj).symm⟩⟩
/-- nothing is there to act -/
theorem rel_act0 (hB : B + 1 < 1000000) (hR : Rel B h) : Rel (B + 1) (rUp (rUp (rUp h 32 1 0) 32 5 0) 35 22 0) := by
  refine rel_act (L := []) hB hR (fun b hb => ?_) (fun j hj => ?_) ⟨?_, fun j hj => absurd hj (by simp)⟩ ⟨?_, fun j hj => absurd hj (by simp)⟩
  · rw [rUp_o hb.2.2.1, rUp_o hb.1, rUp_o hb.1]
  · rw [rUp_a, sW_ne (by omega), rUp_o (by omega), rUp_o (by omega)]
  · rw [rUp_o (by omega), rUp_a, sW_ne (by omega), rUp_a, sW_eq]
    rfl
  · rw [rUp_a, sW_eq]
    rfl
theorem two_act (hB : B + 1 < 1000000) (hR : Rel B h) (a1 a2 a3 : Int32) : Two E B h mLa_act mMo_act [pI a1, pI a2, pI a3] := by
  have hR' := hR
  obtain ⟨⟨n, σ, hW, hS, hM⟩, h1, h2, h3, h4, h5, h6⟩ := hR'
  have hn := hW.1.1
  have r0 := rel_act0 hB hR
  have S0 : St 0 n σ (rUp (rUp h 32 1 0) 32 5 0) := St_far hS (fun b c1 c2 => by rw [rUp_o (by omega), rUp_o (by omega)])
  have c29 : rUp (rUp h 32 1 0) 32 5 0 29 = h 29 := by rw [rUp_o (by omega), rUp_o (by omega)]
  have c30 : rUp (rUp h 32 1 0) 32 5 0 30 = h 30 := by rw [rUp_o (by omega), rUp_o (by omega)]
  have M0 : ∀ g : rHp, (∀ b, b ≠ 32 ∧ b ≠ 33 → g b = h b) → Mo n σ (rUp g 35 22 0) := fun g e => Mo_far hM (by rw [rUp_o (by omega), e 36 (by omega)])
  have fr0 : ∀ b, b ≠ 32 ∧ b ≠ 33 → rUp (rUp h 32 1 0) 32 5 0 b = h b := fun b hb => by rw [rUp_o hb.1, rUp_o hb.1]
  rcases qr a1 0 3 (by omega) with ⟨s, _, hs, rfl⟩ | hb
  · have vs : vp_in (nI s) 4 := vp_in_nI (by omega) (by omega)
    have cs : (nI s).toNatClampNeg = s := nI_clamp (by omega)
    rcases qr a2 0 3 (by omega) with ⟨t, _, ht, rfl⟩ | hb
    · have mhd : ∀ g : rHp, (∀ b, b ≠ 32 ∧ b ≠ 33 → g b = h b) → rUp g 35 22 0 46 = h 46 ∧ rUp g 35 22 0 47 = h 47 := fun g e => ⟨by rw [rUp_o (by omega), e 46 (by omega)], by rw [rUp_o (by omega), e 47 (by omega)]⟩
      rcases h5 s (by omega) with ⟨s1, s2, s3⟩ | ⟨o, ho8, s1, s2, s3, s4⟩ | ⟨q, z, hq, hz, s1, s2, s3, s4, s5, s6⟩
      · refine vLa_act (vAc_clear ⟨rfl, c_wi1 (m := 3) hs (by omega) (o1 (c_wi1 (m := 3) ht (by omega) (o1 (c_hrow0 (by omega) (by rw [c30, s2]) (o0 ⟨vs, ?_⟩)))))⟩)
        rw [cs, c29, s1]
        refine c_has0 (t := 0) t0 hW S0 (Or.inl (by decide)) (o0 ⟨rfl, vMo_act (m_shelf1 hs (o1 (m_in1 (lo := 0) (hi := 3) (by omega) ht (by omega) (o1 (m_held0 (by omega) (x := 0) ?_ (by decide) (br_f (by decide) ⟨rfl, rfl, r0⟩))))))⟩)
        rw [(mhd _ fr0).1, s3]
      · by_cases ho : o < n
        · obtain ⟨k, hk, hk2⟩ := hW.2.2.2.2.1 o ho
          have vo : vp_in (nI o) 8 := vp_in_nI (by omega) (by omega)
          refine vLa_act (vAc_clear ⟨rfl, c_wi1 (m := 3) hs (by omega) (o1 (c_wi1 (m := 3) ht (by omega) (o1 (c_hrow0 (by omega) (by rw [c30, s2]) (o0 ⟨vs, ?_⟩)))))⟩)
          rw [cs, c29, s1]
          refine c_has1 (t := 0) t0 hW S0 ho (o1 ⟨vo, vo, vAc_holdOne ⟨rfl, ?_⟩⟩)
          rw [nI_clamp (by omega), S0_k S0 ho, hk2, S0_u S0 ho]
          obtain ⟨aa, haa⟩ : ∃ aa, aa = σ (12 + 5 * o) := ⟨_, rfl⟩
          rw [← haa]
          have hAC : AC k (nI o) aa [] 0 h (rUp (rUp (rUp (rUp (rUp h 32 1 0) 32 5 0) 32 2 (nI o)) 32 3 (nI k)) 32 4 aa) := by
            refine ⟨fun b hb => by rw [rUp_o hb.1, rUp_o hb.1, rUp_o hb.1]; exact fr0 b hb, ?_, ?_, ?_, ?_, ?_, fun j hj => absurd hj (by simp)⟩
            · rw [rUp_a, sW_ne (by omega), rUp_a, sW_ne (by omega), rUp_a, sW_eq]
            · rw [rUp_a, sW_ne (by omega), rUp_a, sW_eq]
            · rw [rUp_a, sW_eq]
            · rw [rUp_a, sW_ne (by omega), rUp_a, sW_ne (by omega), rUp_a, sW_ne (by omega), rUp_a, sW_eq]
            · rw [rUp_a, sW_ne (by omega), rUp_a, sW_ne (by omega), rUp_a, sW_ne (by omega), rUp_a, sW_ne (by omega), rUp_a, sW_eq]
              rfl
          -- the model's own beginning
          have mod : ∀ (g : rHp) (f : Int32 → rHp → Prop), (∀ b, b ≠ 32 ∧ b ≠ 33 → g b = h b) → (∀ g1, AM k (nI o) aa [] 0 g g1 → (nI t = 0 → rCall E 39 mMo_sinks [pR 35, pI a3] SH g1 (rPi SH (fun x12 g11 => (g11 35 26 = 0 → rPi SH f (some (pI x12)) SH g11) ∧ (¬ g11 35 26 = 0 → rPi SH f (some (pI (-15))) SH g11)))) ∧ (¬ nI t = 0 → (nI t = 1 → rCall E 39 mMo_shows [pR 35, pI a3] SH g1 (rPi SH (fun x14 g13 => (g13 35 26 = 0 → rPi SH f (some (pI x14)) SH g13) ∧ (¬ g13 35 26 = 0 → rPi SH f (some (pI (-15))) SH g13)))) ∧ (¬ nI t = 1 → (nI t = 2 → rCall E 39 mMo_parts [pR 35, pI a3] SH g1 (rPi SH (fun x16 g15 => (g15 35 26 = 0 → rPi SH f (some (pI x16)) SH g15) ∧ (¬ g15 35 26 = 0 → rPi SH f (some (pI (-15))) SH g15)))) ∧ (¬ nI t = 2 → rCall E 39 mMo_asks [pR 35, pI a3] SH g1 (rPi SH (fun x18 g17 => (g17 35 26 = 0 → rPi SH f (some (pI x18)) SH g17) ∧ (¬ g17 35 26 = 0 → rPi SH f (some (pI (-15))) SH g17))))))) → rCall E 40 mMo_act (pR 35 :: [pI (nI s), pI (nI t), pI a3]) SH g (rPi SH f) := by
            intro g f e H
            refine vMo_act (m_shelf1 hs (o1 (m_in1 (lo := 0) (hi := 3) (by omega) ht (by omega) (o1 (m_held1 hW (M0 g e) (by omega) (by rw [(mhd g e).1, s3]) (by rw [(mhd g e).2, s4]) ho (br_t rfl ⟨vs, ?_⟩))))))
            rw [cs, (mhd g e).2, s4]
            refine m_it0 (Mo_far (M0 g e) (rUp_o (by omega))) hn ho ⟨vs, vs, ?_⟩
            rw [rUp_o (show (47:Nat) ≠ 35 by omega), (mhd g e).2, s4, hk2]
            refine m_it2 (Mo_far (M0 g e) (by rw [rUp_o (by omega), rUp_o (by omega), rUp_o (by omega)])) hn ho ?_
            rw [← haa]
            refine H _ ⟨fun b hb => by rw [rUp_o hb.1, rUp_o hb.1, rUp_o hb.1, rUp_o hb.1, rUp_o hb.1], fun j hj => ?_, ?_, ?_, ?_, ?_, ?_, fun j hj => absurd hj (by simp)⟩
            · rw [rUp_a, sW_ne (by omega), rUp_a, sW_ne (by omega), rUp_a, sW_ne (by omega), rUp_a, sW_ne (by omega), rUp_a, sW_ne (by omega)]
            · rw [rUp_a, sW_ne (by omega), rUp_a, sW_ne (by omega), rUp_a, sW_eq]
            · rw [rUp_a, sW_ne (by omega), rUp_a, sW_eq]
            · rw [rUp_a, sW_eq]
            · rw [rUp_a, sW_ne (by omega), rUp_a, sW_ne (by omega), rUp_a, sW_ne (by omega), rUp_a, sW_eq]
            · rw [rUp_a, sW_ne (by omega), rUp_a, sW_ne (by omega), rUp_a, sW_ne (by omega), rUp_a, sW_ne (by omega), rUp_a, sW_eq]
              rfl
          have fin : ∀ (L : List Int32) (s1 s2 : Int32) (g1 g2 : rHp), AC k (nI o) aa L s1 h g1 → AM k (nI o) aa L s2 g1 g2 → Rel (B + 1) g2 := by
            intro L s1 s2 g1 g2 ha hm
            refine rel_act (L := L) hB hR (fun b hb => (hm.1 b ⟨hb.2.2.1, hb.2.2.2⟩).trans (ha.1 b ⟨hb.1, hb.2.1⟩)) (fun j hj => (hm.2.1 j hj).trans (by rw [ha.1 35 (by omega)])) ?_ hm.2.2.2.2.2.2
            have h6 := ha.2.2.2.2.2
            refine ⟨by rw [hm.1 32 (by omega)]; exact h6.1, fun j hj => ?_⟩
            rw [hm.1 33 (by omega)]
            exact h6.2 j hj
          have ok1 : ∀ {g2 : rHp} {A C : Prop}, g2 35 26 = 0 → A → (g2 35 26 = 0 → A) ∧ (¬ g2 35 26 = 0 → C) := fun e a => ⟨fun _ => a, fun q => absurd e q⟩
          have ok2 : ∀ {g2 : rHp} {A C : Prop}, g2 35 26 = 1 → C → (g2 35 26 = 0 → A) ∧ (¬ g2 35 26 = 0 → C) := fun e c => ⟨fun q => absurd (e.symm.trans q) (by decide), fun _ => c⟩
          have ck1 : ∀ {g2 : rHp} {A C : Prop}, g2 32 5 = 0 → A → (g2 32 5 = 0 → A) ∧ (¬ g2 32 5 = 0 → C) := fun e a => ⟨fun _ => a, fun q => absurd e q⟩
          have ck2 : ∀ {g2 : rHp} {A C : Prop}, g2 32 5 = 1 → C → (g2 32 5 = 0 → A) ∧ (¬ g2 32 5 = 0 → C) := fun e c => ⟨fun q => absurd (e.symm.trans q) (by decide), fun _ => c⟩
          rcases (by omega : t = 0 ∨ t = 1 ∨ t = 2 ∨ t = 3) with rfl | rfl | rfl | rfl
          · exact vAc_answer (c_sinks (D := 0) hAC hk (by omega) (fun g1 b1 => ck1 b1.2.2.2.2.1 ⟨rfl, rfl, mod g1 _ b1.1 (fun g2 b2 => br_t rfl (m_sinks b2 hk (fun g3 b3 => ok1 b3.2.2.2.2.2.1 ⟨rfl, rfl, fin _ _ _ g1 g3 b1 b3⟩)))⟩))
          · exact vAc_answer (c_shows (D := 0) hAC hk (by omega) (fun g1 b1 => ck1 b1.2.2.2.2.1 ⟨rfl, rfl, mod g1 _ b1.1 (fun g2 b2 => br_f (by decide) (br_t rfl (m_shows b2 hk (fun g3 b3 => ok1 b3.2.2.2.2.2.1 ⟨rfl, rfl, fin _ _ _ g1 g3 b1 b3⟩))))⟩))
          · refine vAc_answer (c_parts (D := 0) hAC hk (by omega) ⟨fun e v g1 b1 => ck2 b1.2.2.2.2.1 ⟨rfl, rfl, mod g1 _ b1.1 (fun g2 b2 => br_f (by decide) (br_f (by decide) (br_t rfl (m_parts b2 hk ⟨fun e v g3 b3 => ok2 b3.2.2.2.2.2.1 ⟨rfl, rfl, fin _ _ _ g1 g3 b1 b3⟩, fun e2 => absurd e e2⟩))))⟩, fun e g1 b1 => ck1 b1.2.2.2.2.1 ⟨rfl, rfl, mod g1 _ b1.1 (fun g2 b2 => br_f (by decide) (br_f (by decide) (br_t rfl (m_parts b2 hk ⟨fun e2 => absurd e2 e, fun e g3 b3 => ok1 b3.2.2.2.2.2.1 ⟨rfl, rfl, fin _ _ _ g1 g3 b1 b3⟩⟩))))⟩⟩)
          · refine vAc_answer (c_asks (D := 0) hAC hk (by omega) ⟨fun e v g1 b1 => ck2 b1.2.2.2.2.1 ⟨rfl, rfl, mod g1 _ b1.1 (fun g2 b2 => br_f (by decide) (br_f (by decide) (br_f (by decide) (m_asks b2 hk ⟨fun e v g3 b3 => ok2 b3.2.2.2.2.2.1 ⟨rfl, rfl, fin _ _ _ g1 g3 b1 b3⟩, fun e2 => absurd e e2⟩))))⟩, fun e g1 b1 => ck1 b1.2.2.2.2.1 ⟨rfl, rfl, mod g1 _ b1.1 (fun g2 b2 => br_f (by decide) (br_f (by decide) (br_f (by decide) (m_asks b2 hk ⟨fun e2 => absurd e2 e, fun e g3 b3 => ok1 b3.2.2.2.2.2.1 ⟨rfl, rfl, fin _ _ _ g1 g3 b1 b3⟩⟩))))⟩⟩)
        · refine vLa_act (vAc_clear ⟨rfl, c_wi1 (m := 3) hs (by omega) (o1 (c_wi1 (m := 3) ht (by omega) (o1 (c_hrow0 (by omega) (by rw [c30, s2]) (o0 ⟨vs, ?_⟩)))))⟩)
          rw [cs, c29, s1]
          exact c_has0 (t := 0) t0 hW S0 (Or.inr ⟨nI_pos (by omega), nI_le (by omega) (by omega)⟩) (o0 ⟨rfl, vMo_act (m_shelf1 hs (o1 (m_in1 (lo := 0) (hi := 3) (by omega) ht (by omega) (o1 (m_held2 hW (M0 _ fr0) (by omega) (by rw [(mhd _ fr0).1, s3]) (by rw [(mhd _ fr0).2, s4]) ho8 ho (br_f (by decide) ⟨rfl, rfl, r0⟩))))))⟩)
      · refine vLa_act (vAc_clear ⟨rfl, c_wi1 (m := 3) hs (by omega) (o1 (c_wi1 (m := 3) ht (by omega) (o1 (c_hrow1 (by omega) hq (by rw [c30, s2]) (o1 ⟨rfl, vMo_act (m_shelf1 hs (o1 (m_in1 (lo := 0) (hi := 3) (by omega) ht (by omega) (o1 (m_held0 (by omega) (x := 2) ?_ (by decide) (br_f (by decide) ⟨rfl, rfl, r0⟩))))))⟩)))))⟩)
        rw [(mhd _ fr0).1, s4]
    · exact vLa_act (vAc_clear ⟨rfl, c_wi1 (m := 3) hs (by omega) (o1 (c_wi0 (m := 3) hb (by omega) (o0 ⟨rfl, vMo_act (m_shelf1 hs (o1 (m_in0 (lo := 0) (hi := 3) hb (by omega) (by omega) (o0 ⟨rfl, rfl, r0⟩))))⟩)))⟩)
  · exact vLa_act (vAc_clear ⟨rfl, c_wi0 (m := 3) hb (by omega) (o0 ⟨rfl, vMo_act (m_shelf0 hb (o0 ⟨rfl, rfl, r0⟩))⟩)⟩)
end
