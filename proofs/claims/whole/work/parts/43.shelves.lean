section
variable {E : rE} {d B n : Nat} {σ : Nat → Int32} {h : rHp} {f : Int32 → rHp → Prop} {fn : rHp → Prop}
theorem two_minds (hB : B + 1 < 1000000) (hR : Rel B h) (a1 a2 a3 a4 : Int32) : Two E B h mLa_minds mMo_minds [pI a1, pI a2, pI a3, pI a4] := by
  have hR' := hR
  obtain ⟨⟨n, σ, hW, hS, hM⟩, _, _, _, h4, _⟩ := hR'
  have hn := hW.1.1
  rcases qr a1 0 3 (by omega) with ⟨t, _, ht, rfl⟩ | hb
  · have vt : vp_in (nI t) 4 := vp_in_nI (by omega) (by omega)
    have ct : (nI t).toNatClampNeg = t := nI_clamp (by omega)
    rcases qa a3 n (by omega) with ⟨o, ho, rfl⟩ | hb
    · have e6 : h 1 6 - nI o = nI (n - o) := by rw [S0_n hW hS]; exact pk_sub (by omega)
      rcases qr a4 0 8 (by omega) with ⟨k, _, hk, rfl⟩ | hb
      · by_cases ck : k ≤ n - o
        · rcases h4 t (by omega) with ⟨s1, s2⟩ | ⟨q, z, hq, hz, s1, s2, s3, s4, s5⟩
          · refine two_no hB hR (-11) (fun f H => vLa_minds (c_wi1 (m := 3) ht (by omega) (o1 (c_has1 (t := 0) t0 hW hS ho (o1 ?_))))) (fun h0 f e H => vMo_minds (m_sheet1 ht (o1 (m_one1 hW (Mo_far hM (e 36 (by omega))) ho (o1 (m_in1 (lo := 0) (hi := 8) (by omega) hk (by omega) (o1 (br_t ?_ (m_lacks0 (by omega) (by rw [e 43 (by omega), s2]) (br_f (by decide) (m_lacks0 (by omega) (by rw [e 43 (by omega), s2]) ⟨rfl, mN0 H⟩)))))))))))
            · rw [e6]
              refine c_wi1 ck (by omega) (o1 ⟨vt, br_t ?_ ⟨rfl, hN0 H⟩⟩)
              rw [ct, s1]
            · rw [Mo_n hW (Mo_far hM (e 36 (by omega))), nI_add]
              exact nI_le (by omega) (by omega)
          · by_cases c0 : q = 0
            · rcases qr a2 0 z (by omega) with ⟨i, _, hi, rfl⟩ | hb
              · by_cases cz : k ≤ z - i
                · have step : ∀ j, wit (h 27 (40 * t + (i + j))) = wit ((fun j => h 27 (40 * t + (i + j))) j) := fun j => rfl
                  refine two_st hB hR (nI k) n (mdR σ (fun j => h 27 (40 * t + (i + j))) o k) (Wf_le (Wf_mdR hW k) (by omega) hB) (fun f H => vLa_minds (c_wi1 (m := 3) ht (by omega) (o1 (c_has1 (t := 0) t0 hW hS ho (o1 ?_))))) (fun h0 f e H => vMo_minds (m_sheet1 ht (o1 (m_one1 hW (Mo_far hM (e 36 (by omega))) ho (o1 (m_in1 (lo := 0) (hi := 8) (by omega) hk (by omega) (o1 (br_t ?_ (m_lacks1 (s := 0) (by omega) hq (by omega) (by rw [e 43 (by omega), s2]) ?_)))))))))
                  · rw [e6]
                    refine c_wi1 ck (by omega) (o1 ⟨vt, br_f ?_ ⟨vt, br_t ?_ ⟨vt, ?_⟩⟩⟩)
                    · rw [ct, s1]; exact nm1 (by omega)
                    · rw [ct, s1, c0]; rfl
                    · rw [ct, s3]
                      refine c_wi1 hi (by omega) (o1 (br_t ?_ ?_))
                      · rw [pk_sub hi]; exact nI_le cz (by omega)
                      · refine loopUp (P := fun j => ∀ h1, St 0 n (mdR σ (fun j => h 27 (40 * t + (i + j))) o j) h1 → FrC h h1 → rR E (rCall E 39) mLa_minds (rPi SH f) 104 [some (pR 0), some (pI (nI t)), some (pI (nI i)), some (pI (nI o)), some (pI (nI k)), some (pI (nI z)), some (pI (nI j))] [] SH h1 0 0) k ?_ ?_ h hS FrC_rf
                        · intro j hj hP h1 a1 b1
                          refine vLa_minds_104 (br_f (nI_ge hj (by omega)) ?_)
                          rw [nI_add, nI_add]
                          refine c_number (by omega) (by omega) (c_held ⟨vp_in_nI (by omega) (by omega), ?_⟩)
                          rw [nI_clamp (by omega), b1 27 (by omega), ← nI_succ]
                          exact hP _ (U0_w a1) (FrC_tr b1 (FrU0 (by omega) (by omega)))
                        · intro h1 a1 b1
                          exact vLa_minds_104 (br_t (nI_le (Nat.le_refl k) (by omega)) ⟨rfl, H h1 a1 b1⟩)
                  · rw [Mo_n hW (Mo_far hM (e 36 (by omega))), nI_add]
                    exact nI_le (by omega) (by omega)
                  · rw [if_pos c0, ct, e 44 (by omega), s4]
                    refine o0 ⟨vt, ?_⟩
                    rw [nI_l (n := z) (by omega)]
                    refine m_in1 (lo := 0) (by omega) hi (by omega) (o1 ⟨vt, br_t ?_ ?_⟩)
                    · rw [e 44 (by omega), s4, nI_l (n := z) (by omega), nI_l (n := i) (by omega), nI_l (n := k) (by omega), lN_add, lg_cmp_le, lN_le (by omega) (by omega)]
                      omega
                    · refine loopUp (P := fun j => ∀ h1, Mo n (mdR σ (fun j => h 27 (40 * t + (i + j))) o j) h1 → F36 h0 h1 → rR E (rCall E 39) mMo_minds (rPi SH f) 98 [some (pR 35), some (pI (nI t)), some (pI (nI i)), some (pI (nI o)), some (pI (nI k)), some (pI (nI j))] [] SH h1 0 0) k ?_ ?_ h0 (Mo_far hM (e 36 (by omega))) F36_rf
                      · intro j hj hP h1 a1 b1
                        refine vMo_minds_98 (br_f (nI_ge hj (by omega)) ?_)
                        rw [kx40, nI_add, nI_add, ix1, nI_clamp (n := 40 * t + i + j) (by omega), nI_clamp (n := 11 + 5 * (o + j)) (by omega), b1 45 (by omega), e 45 (by omega), show 40 * t + i + j = 40 * t + (i + j) by omega, ← s5 _ (by omega), ← nI_succ]
                        exact ⟨vp_in_nI (by omega) (by omega), m_within ⟨vp_in_nI (by omega) (by omega), hP _ (Mo_up a1) (F36_up b1)⟩⟩
                      · intro h1 a1 b1
                        exact vMo_minds_98 (br_t (nI_le (Nat.le_refl k) (by omega)) ⟨rfl, H h1 a1 (FrM_o6 b1)⟩)
                · refine two_no hB hR (-12) (fun f H => vLa_minds (c_wi1 (m := 3) ht (by omega) (o1 (c_has1 (t := 0) t0 hW hS ho (o1 ?_))))) (fun h0 f e H => vMo_minds (m_sheet1 ht (o1 (m_one1 hW (Mo_far hM (e 36 (by omega))) ho (o1 (m_in1 (lo := 0) (hi := 8) (by omega) hk (by omega) (o1 (br_t ?_ (m_lacks1 (s := 0) (by omega) hq (by omega) (by rw [e 43 (by omega), s2]) ?_)))))))))
                  · rw [e6]
                    refine c_wi1 ck (by omega) (o1 ⟨vt, br_f ?_ ⟨vt, br_t ?_ ⟨vt, ?_⟩⟩⟩)
                    · rw [ct, s1]; exact nm1 (by omega)
                    · rw [ct, s1, c0]; rfl
                    · rw [ct, s3]
                      refine c_wi1 hi (by omega) (o1 (br_f ?_ ⟨rfl, hN0 H⟩))
                      rw [pk_sub hi]; exact nI_ge (by omega) (by omega)
                  · rw [Mo_n hW (Mo_far hM (e 36 (by omega))), nI_add]
                    exact nI_le (by omega) (by omega)
                  · rw [if_pos c0, ct, e 44 (by omega), s4]
                    refine o0 ⟨vt, ?_⟩
                    rw [nI_l (n := z) (by omega)]
                    refine m_in1 (lo := 0) (by omega) hi (by omega) (o1 ⟨vt, br_f ?_ ⟨rfl, mN0 H⟩⟩)
                    rw [e 44 (by omega), s4, nI_l (n := z) (by omega), nI_l (n := i) (by omega), nI_l (n := k) (by omega), lN_add, lg_cmp_le, lN_le (by omega) (by omega)]
                    omega
              · refine two_no hB hR (-12) (fun f H => vLa_minds (c_wi1 (m := 3) ht (by omega) (o1 (c_has1 (t := 0) t0 hW hS ho (o1 ?_))))) (fun h0 f e H => vMo_minds (m_sheet1 ht (o1 (m_one1 hW (Mo_far hM (e 36 (by omega))) ho (o1 (m_in1 (lo := 0) (hi := 8) (by omega) hk (by omega) (o1 (br_t ?_ (m_lacks1 (s := 0) (by omega) hq (by omega) (by rw [e 43 (by omega), s2]) ?_)))))))))
                · rw [e6]
                  refine c_wi1 ck (by omega) (o1 ⟨vt, br_f ?_ ⟨vt, br_t ?_ ⟨vt, ?_⟩⟩⟩)
                  · rw [ct, s1]; exact nm1 (by omega)
                  · rw [ct, s1, c0]; rfl
                  · rw [ct, s3]
                    exact c_wi0 hb (by omega) (o0 ⟨rfl, hN0 H⟩)
                · rw [Mo_n hW (Mo_far hM (e 36 (by omega))), nI_add]
                  exact nI_le (by omega) (by omega)
                · rw [if_pos c0, ct, e 44 (by omega), s4]
                  refine o0 ⟨vt, ?_⟩
                  rw [nI_l (n := z) (by omega)]
                  exact m_in0 (lo := 0) hb (by omega) (by omega) (o0 ⟨rfl, mN0 H⟩)
            · refine two_no hB hR (-13) (fun f H => vLa_minds (c_wi1 (m := 3) ht (by omega) (o1 (c_has1 (t := 0) t0 hW hS ho (o1 ?_))))) (fun h0 f e H => vMo_minds (m_sheet1 ht (o1 (m_one1 hW (Mo_far hM (e 36 (by omega))) ho (o1 (m_in1 (lo := 0) (hi := 8) (by omega) hk (by omega) (o1 (br_t ?_ (m_lacks1 (s := 0) (by omega) hq (by omega) (by rw [e 43 (by omega), s2]) ?_)))))))))
              · rw [e6]
                refine c_wi1 ck (by omega) (o1 ⟨vt, br_f ?_ ⟨vt, br_f ?_ ⟨rfl, hN0 H⟩⟩⟩)
                · rw [ct, s1]; exact nm1 (by omega)
                · rw [ct, s1]; exact nI_ne0 (by omega) (by omega)
              · rw [Mo_n hW (Mo_far hM (e 36 (by omega))), nI_add]
                exact nI_le (by omega) (by omega)
              · rw [if_neg c0]
                refine br_f (by decide) (m_lacks1 (s := 0) (by omega) hq (by omega) (by rw [e 43 (by omega), s2]) ?_)
                rw [if_neg c0]
                exact ⟨rfl, mN0 H⟩
        · refine two_no hB hR (-1) (fun f H => vLa_minds (c_wi1 (m := 3) ht (by omega) (o1 (c_has1 (t := 0) t0 hW hS ho (o1 ?_))))) (fun h0 f e H => vMo_minds (m_sheet1 ht (o1 (m_one1 hW (Mo_far hM (e 36 (by omega))) ho (o1 (m_in1 (lo := 0) (hi := 8) (by omega) hk (by omega) (o1 (br_f ?_ ⟨rfl, mN0 H⟩))))))))
          · rw [e6]
            refine c_wi0 ?_ (by omega) (o0 ⟨rfl, hN0 H⟩)
            unfold Bd
            rw [nI_toInt (by omega)]
            omega
          · rw [Mo_n hW (Mo_far hM (e 36 (by omega))), nI_add]
            exact nI_ge (by omega) (by omega)
      · refine two_no hB hR (-1) (fun f H => vLa_minds (c_wi1 (m := 3) ht (by omega) (o1 (c_has1 (t := 0) t0 hW hS ho (o1 ?_))))) (fun h0 f e H => vMo_minds (m_sheet1 ht (o1 (m_one1 hW (Mo_far hM (e 36 (by omega))) ho (o1 (m_in0 (lo := 0) (hi := 8) hb (by omega) (by omega) (o0 ⟨rfl, mN0 H⟩)))))))
        rw [e6]
        refine c_wi0 ?_ (by omega) (o0 ⟨rfl, hN0 H⟩)
        unfold Bd at hb ⊢
        omega
    · exact two_no hB hR (-1) (fun f H => vLa_minds (c_wi1 (m := 3) ht (by omega) (o1 (c_has0 (t := 0) t0 hW hS hb (o0 ⟨rfl, hN0 H⟩))))) (fun h0 f e H => vMo_minds (m_sheet1 ht (o1 (m_one0 hW (Mo_far hM (e 36 (by omega))) hb (o0 ⟨rfl, mN0 H⟩)))))
  · exact two_no hB hR (-1) (fun f H => vLa_minds (c_wi0 (m := 3) hb (by omega) (o0 ⟨rfl, hN0 H⟩))) (fun h0 f e H => vMo_minds (m_sheet0 hb (o0 ⟨rfl, mN0 H⟩)))
theorem two_trace (hB : B + 1 < 1000000) (hR : Rel B h) (a1 : Int32) : Two E B h mLa_trace mMo_trace [pI a1] := by
  obtain ⟨r, hr, e1, e2, e3⟩ := hR.2.2.2.2.2.2
  rcases qa a1 r (by omega) with ⟨i, hi, rfl⟩ | hb
  · refine two_no hB hR (h 33 i) (fun f H => vLa_trace (br_f (nI_pos (by omega)) (br_f ?_ ⟨vp_in_nI (by omega) (by omega), rfl, ?_⟩))) (fun h0 f e H => vMo_trace ?_)
    · rw [e1]; exact nI_ge hi (by omega)
    · rw [nI_clamp (by omega)]; exact hN0 H
    · rw [e 35 (by omega), e2]
      refine m_inR1 hi (by omega) (o1 ⟨vp_in_nI (by omega) (by omega), rfl, ?_⟩)
      rw [nI_clamp (by omega), e 49 (by omega), ← e3 i hi]
      exact mN0 H
  · refine two_no hB hR (-3) (fun f H => vLa_trace ⟨fun _ => ⟨rfl, hN0 H⟩, fun c => br_t ?_ ⟨rfl, hN0 H⟩⟩) (fun h0 f e H => vMo_trace ?_)
    · rw [e1]
      rcases hb with q | q
      · exact absurd q c
      · exact q.2
    · rw [e 35 (by omega), e2]
      exact m_inR0 hb (by omega) (o0 ⟨rfl, mN0 H⟩)
theorem m_pits (hW : Wf B n σ) (hM : Mo n σ h) (v1 : Int32) (H : f (nI (nPu σ n 6)) h) : rR E (rCall E (d + 3)) mMo_many (rPi SH f) 76 [some (pR 35), some (pI v1), some (pI 0), some (pI 0)] [] SH h 0 0 := by
  have hn := hW.1.1
  refine loopUp (P := fun i => rR E (rCall E (d + 3)) mMo_many (rPi SH f) 76 [some (pR 35), some (pI v1), some (pI (nI (nPu σ n i))), some (pI (nI i))] [] SH h 0 0) 6 ?_ ?_
  · intro i hi hP
    refine vMo_many_76 (br_f (nI_ge (b := 6) hi (by omega)) (m_lyingIn hW hM ?_))
    have hl : nIn σ (nI i) n < 256 := Nat.lt_of_lt_of_le (nIn_lt σ (nI i) n) (q2 hn)
    by_cases e : nIn σ (nI i) n = 0
    · simp only [nPu, if_pos e, nI_succ] at hP
      rw [e, Int32.add_zero]
      exact o0 hP
    · simp only [nPu, if_neg e, nI_succ] at hP
      exact br_f (nI_ne0 (by omega) (by omega)) hP
  · exact vMo_many_76 (br_t (nI_le (a := 6) (b := 6) (by omega) (by omega)) ⟨rfl, H⟩)
theorem two_many (hB : B + 1 < 1000000) (hR : Rel B h) (a1 : Int32) : Two E B h mLa_many mMo_many [pI a1] := by
  have hR' := hR
  obtain ⟨⟨n, σ, hW, hS, hM⟩, h1, h2, h3, h4, h5, h6⟩ := hR'
  have hn := hW.1.1
  have hl : nLy σ n < 256 := Nat.lt_of_lt_of_le (nLy_lt σ n) (q2 hn)
  rcases qr a1 0 6 (by omega) with ⟨w, _, hw, rfl⟩ | hb
  · rcases (by omega : w = 0 ∨ w = 1 ∨ w = 2 ∨ w = 3 ∨ w = 4 ∨ w = 5 ∨ w = 6) with rfl | rfl | rfl | rfl | rfl | rfl | rfl
    · refine two_no hB hR (nI n) (fun f H => vLa_many (br_t rfl ⟨rfl, ?_⟩)) (fun h0 f e H => vMo_many (br_t rfl ⟨rfl, ?_⟩))
      · rw [S0_n hW hS]; exact hN0 H
      · rw [Mo_n hW (Mo_far hM (e 36 (by omega)))]; exact mN0 H
    · exact two_no hB hR (nI (pc (nLy σ n))) (fun f H => vLa_many (br_f (by decide) (br_t rfl (c_setLying (t := 0) t0 hW hS (c_bit hl ⟨rfl, hN0 H⟩))))) (fun h0 f e H => vMo_many (br_f (by decide) (br_t rfl (m_lying hW (Mo_far hM (e 36 (by omega))) (m_size hl ⟨rfl, mN0 H⟩)))))
    · refine two_no hB hR (nI n - nI (pc (nLy σ n))) (fun f H => vLa_many (br_f (by decide) (br_f (by decide) (br_t rfl (c_setLying (t := 0) t0 hW hS (c_bit hl ⟨rfl, ?_⟩)))))) (fun h0 f e H => vMo_many (br_f (by decide) (br_f (by decide) (br_t rfl (m_lying hW (Mo_far hM (e 36 (by omega))) (m_size hl ⟨rfl, ?_⟩))))))
      · rw [S0_n hW hS]; exact hN0 H
      · rw [Mo_n hW (Mo_far hM (e 36 (by omega)))]; exact mN0 H
    · exact two_no hB hR (nI (nPu σ n 6)) (fun f H => vLa_many (br_f (by decide) (br_f (by decide) (br_f (by decide) (br_t rfl (c_pitsInUse (t := 0) t0 hW hS ⟨rfl, hN0 H⟩)))))) (fun h0 f e H => vMo_many (br_f (by decide) (br_f (by decide) (br_f (by decide) (br_t rfl (m_pits hW (Mo_far hM (e 36 (by omega))) _ (mN0 H)))))))
    · obtain ⟨r, hr, e1, e2, e3⟩ := h3
      refine two_no hB hR (nI r) (fun f H => vLa_many (br_f (by decide) (br_f (by decide) (br_f (by decide) (br_f (by decide) (br_t rfl ⟨rfl, ?_⟩)))))) (fun h0 f e H => vMo_many (br_f (by decide) (br_f (by decide) (br_f (by decide) (br_f (by decide) (br_t rfl ⟨rfl, ?_⟩))))))
      · rw [e1]; exact hN0 H
      · rw [e 35 (by omega), e2]; exact mN0 H
    · obtain ⟨r, hr, e1, e2, e3⟩ := h2
      refine two_no hB hR (nI r) (fun f H => vLa_many (br_f (by decide) (br_f (by decide) (br_f (by decide) (br_f (by decide) (br_f (by decide) (br_t rfl ⟨rfl, ?_⟩))))))) (fun h0 f e H => vMo_many (br_f (by decide) (br_f (by decide) (br_f (by decide) (br_f (by decide) (br_f (by decide) (br_t rfl ⟨rfl, ?_⟩)))))))
      · rw [e1]; exact hN0 H
      · rw [e 35 (by omega), e2]; exact mN0 H
    · obtain ⟨r, hr, e1, e2, e3⟩ := h6
      refine two_no hB hR (nI r) (fun f H => vLa_many (br_f (by decide) (br_f (by decide) (br_f (by decide) (br_f (by decide) (br_f (by decide) (br_f (by decide) (br_t rfl ⟨rfl, ?_⟩)))))))) (fun h0 f e H => vMo_many (br_f (by decide) (br_f (by decide) (br_f (by decide) (br_f (by decide) (br_f (by decide) (br_f (by decide) (br_t rfl ⟨rfl, ?_⟩))))))))
      · rw [e1]; exact hN0 H
      · rw [e 35 (by omega), e2]; exact mN0 H
  · have nb : ∀ k, k ≤ 6 → ¬ a1 = nI k := fun k hk => bd_ne hb k (by omega) hk (by omega)
    exact two_no hB hR (-1) (fun f H => vLa_many (br_f (nb 0 (by omega)) (br_f (nb 1 (by omega)) (br_f (nb 2 (by omega)) (br_f (nb 3 (by omega)) (br_f (nb 4 (by omega)) (br_f (nb 5 (by omega)) (br_f (nb 6 (by omega)) ⟨rfl, hN0 H⟩)))))))) (fun h0 f e H => vMo_many (br_f (nb 0 (by omega)) (br_f (nb 1 (by omega)) (br_f (nb 2 (by omega)) (br_f (nb 3 (by omega)) (br_f (nb 4 (by omega)) (br_f (nb 5 (by omega)) (br_f (nb 6 (by omega)) ⟨rfl, mN0 H⟩))))))))
theorem two_keep (hB : B + 1 < 1000000) (hR : Rel B h) : Two E B h mLa_keep mMo_keep [] := by
  obtain ⟨⟨n, σ, hW, hS, hM⟩, h1, h2, h3, h4, h5, h6⟩ := hR
  have hn := hW.1.1
  refine vLa_keep (c_bec20 hn hS (fun g1 a1 b1 => ⟨rfl, vMo_keep ?_⟩))
  refine loopUp (P := fun i => ∀ g, (∀ b, b ≠ 37 → g b = rUp g1 0 9 1 b) → (∀ j, j < i → g 37 j = h 36 j) → rR E (rCall E 39) mMo_keep (rPi SH (fun y h2 => (1:Int32) = y ∧ Rel (B + 1) h2)) 2 [some (pR 35), some (pI (nI i))] [] SH g 0 0) 50 ?_ ?_ _ (fun _ _ => rfl) (fun j hj => absurd hj (by omega))
  · intro i hi hP g e1 e2
    refine vMo_keep_2 (br_f (nI_ge (b := 50) hi (by omega)) ⟨vp_in_nI hi (by omega), vp_in_nI hi (by omega), ?_⟩)
    rw [nI_clamp (by omega), ← nI_succ]
    refine hP _ (fun b hb => (rUp_o hb).trans (e1 b hb)) (fun j hj => ?_)
    rw [rUp_a]
    by_cases e : j = i
    · subst e
      rw [sW_eq, e1 36 (by omega), rUp_o (by omega), b1 36 (by omega)]
    · rw [sW_ne e]; exact e2 j (by omega)
  · intro g e1 e2
    refine vMo_keep_2 (br_t (nI_le (a := 50) (b := 50) (by omega) (by omega)) ⟨rfl, rfl, ?_⟩)
    have q : ∀ b, b ≠ 37 ∧ b ≠ 0 ∧ b ≠ 35 ∧ (b < 15 ∨ 21 < b) → rUp g 35 5 1 b = h b := fun b c => (rUp_o c.2.2.1).trans ((e1 b c.1).trans ((rUp_o c.2.1).trans (b1 b (by omega))))
    have q0 : ∀ j, j ≠ 9 → rUp g 35 5 1 0 j = h 0 j := fun j hj => by rw [rUp_o (by omega), e1 0 (by omega), rUp_a, sW_ne hj, b1 0 (by omega)]
    have q35 : ∀ j, j ≠ 5 → rUp g 35 5 1 35 j = h 35 j := fun j hj => by rw [rUp_a, sW_ne hj, e1 35 (by omega), rUp_o (by omega), b1 35 (by omega)]
    refine ⟨⟨n, σ, Wf_le hW (by omega) hB, St_far hS (fun b c1 c2 => q b (by omega)), Mo_far hM (q 36 (by omega))⟩, Or.inr ⟨?_, ?_, n, σ, Wf_le hW (by omega) hB, St_far a1 (fun b c1 c2 => ?_), fun j hj => ?_⟩, RT_far h2 (congrFun (q 22 (by omega)) 1) (q35 7 (by omega)) (q 23 (by omega)) (q 41 (by omega)), RR_far h3 (q0 8 (by omega)) (q35 14 (by omega)) (q 34 (by omega)) (q 42 (by omega)), RS_far h4 (q 25 (by omega)) (q 26 (by omega)) (q 27 (by omega)) (q 43 (by omega)) (q 44 (by omega)) (q 45 (by omega)), RV_far h5 (q 29 (by omega)) (q 30 (by omega)) (q 31 (by omega)) (q 46 (by omega)) (q 47 (by omega)) (q 48 (by omega)), RA_far h6 (congrFun (q 32 (by omega)) 1) (q35 22 (by omega)) (q 33 (by omega)) (q 49 (by omega))⟩
    · rw [rUp_o (by omega), e1 0 (by omega), rUp_a, sW_eq]
    · rw [rUp_a, sW_eq]
    · rw [rUp_o (by omega), e1 b (by omega), rUp_o (by omega)]
    · rw [rUp_o (by omega), e2 j (by omega)]
      exact hM j hj
theorem two_again (hB : B + 1 < 1000000) (hR : Rel B h) : Two E B h mLa_again mMo_again [] := by
  have hR' := hR
  obtain ⟨_, h1, h2, h3, h4, h5, h6⟩ := hR'
  rcases h1 with ⟨e1, e2⟩ | ⟨e1, e2, n, κ, hW, hS, hK⟩
  · refine two_no hB hR (-3) (fun f H => vLa_again (br_t e1 ⟨rfl, hN0 H⟩)) (fun h0 f e H => vMo_again (br_t ?_ ⟨rfl, mN0 H⟩))
    rw [e 35 (by omega), e2]
  · have hn := hW.1.1
    refine two_st hB hR (nI n) n κ (Wf_le hW (by omega) hB) (fun f H => vLa_again (br_f (by rw [e1]; decide) (c_bec02 hn hS (fun g1 a1 b1 => ⟨rfl, ?_⟩)))) (fun h0 f e H => vMo_again (br_f (by rw [e 35 (by omega), e2]; decide) ?_))
    · rw [S0_n hW a1]
      exact H g1 a1 (FrC_0 b1)
    · refine loopUp (P := fun i => ∀ g, F36 h0 g → (∀ j, j < i → g 36 j = h 37 j) → rR E (rCall E 39) mMo_again (rPi SH f) 12 [some (pR 35), some (pI (nI i))] [] SH g 0 0) 50 ?_ ?_ _ F36_rf (fun j hj => absurd hj (by omega))
      · intro i hi hP g e1 e2
        refine vMo_again_12 (br_f (nI_ge (b := 50) hi (by omega)) ⟨vp_in_nI hi (by omega), vp_in_nI hi (by omega), ?_⟩)
        rw [nI_clamp (by omega), ← nI_succ]
        refine hP _ (F36_up e1) (fun j hj => ?_)
        rw [rUp_a]
        by_cases c : j = i
        · subst c
          rw [sW_eq, e1 37 (by omega), e 37 (by omega)]
        · rw [sW_ne c]; exact e2 j (by omega)
      · intro g e1 e2
        have hM : Mo n κ g := fun j hj => (e2 j (by omega)).trans (hK j hj)
        refine vMo_again_12 (br_t (nI_le (a := 50) (b := 50) (by omega) (by omega)) ⟨rfl, ?_⟩)
        rw [Mo_n hW hM]
        exact H g hM (FrM_o6 e1)
end
