section
variable {E : rE} {d B n : Nat} {σ : Nat → Int32} {h : rHp} {f : Int32 → rHp → Prop} {fn : rHp → Prop}
theorem c_opB {k : Nat} (hk : k < 1000) (hW : Wf B n σ) (hS : St 0 n σ h) (H : ∀ h', Fr 1 h h' → f (sGs n k σ 4) h') : rCall E (d + 6) mLa_opinionBehind [pR 0, pI (nI k)] SH h (rPi SH f) := by
  refine vLa_opinionBehind (c_bec10 hW.1.1 hS (fun h1 a1 b1 => c_passYears (t := 1) hk t1 hW a1 (fun h2 a2 b2 => ⟨rfl, ?_⟩)))
  rw [S1_o a2]
  exact H _ (Fr_tr b1 b2)
theorem op_mind (hB : B + 1 < 1000000) (a1 a2 a3 : Int32) : Op E B mLa_mind mMo_mind [pI a1, pI a2, pI a3] := by
  intro n σ hW
  have hn := hW.1.1
  rcases qa a1 n (by omega) with ⟨o, ho, rfl⟩ | hb
  · have vo : vp_in (nI o) 8 := vp_in_nI (by omega) (by omega)
    have co : (nI o).toNatClampNeg = o := nI_clamp (by omega)
    rcases qr a2 0 5 (by omega) with ⟨k, _, hk, rfl⟩ | hb
    · rcases qr a3 0 9 (by omega) with ⟨u, _, hu, rfl⟩ | hb
      · refine ⟨σ (10 + 5 * o), n, sW (sW σ (10 + 5 * o) (nI k)) (12 + 5 * o) (nI u), Wf_fr (Wf_kd (Wf_le hW (by omega) hB) (by omega)) (by omega), fun h f hS H => vLa_mind (c_has1 (t := 0) t0 hW hS ho (o1 (c_wi1 (m := 5) hk (by omega) (o1 (c_wi1 (m := 9) hu (by omega) (o1 ⟨vo, vo, vo, rfl, ?_⟩)))))), fun h f hM H => vMo_mind (m_one1 hW hM ho (o1 (m_in1 (lo := 0) (hi := 5) (by omega) hk (by omega) (o1 (m_in1 (lo := 0) (hi := 9) (by omega) hu (by omega) (o1 ?_))))))⟩
        · rw [co, S0_k hS ho]
          exact H _ (U0_u (U0_k hS)) (FrC_tr (FrU0 (by omega) (by omega)) (FrU0 (by omega) (by omega)))
        · rw [ix2, ix0, nI_clamp (by omega)]
          refine ⟨vp_in_nI (by omega) (by omega), m_becomes (Mo_up hM) hn (by omega) (fun h' a b => ⟨rfl, ?_⟩)⟩
          rw [sW_ne (by omega)]
          rw [sW_comm (by omega)] at a
          exact H h' a (FrM_o6 (F36_tr (F36_up F36_rf) b))
      · exact op_no hB hW (-1) (fun h f hS H => vLa_mind (c_has1 (t := 0) t0 hW hS ho (o1 (c_wi1 (m := 5) hk (by omega) (o1 (c_wi0 (m := 9) hb (by omega) (o0 ⟨rfl, hN H⟩))))))) (fun h f hM H => vMo_mind (m_one1 hW hM ho (o1 (m_in1 (lo := 0) (hi := 5) (by omega) hk (by omega) (o1 (m_in0 (lo := 0) (hi := 9) hb (by omega) (by omega) (o0 ⟨rfl, mN H⟩)))))))
    · exact op_no hB hW (-1) (fun h f hS H => vLa_mind (c_has1 (t := 0) t0 hW hS ho (o1 (c_wi0 (m := 5) hb (by omega) (o0 ⟨rfl, hN H⟩))))) (fun h f hM H => vMo_mind (m_one1 hW hM ho (o1 (m_in0 (lo := 0) (hi := 5) hb (by omega) (by omega) (o0 ⟨rfl, mN H⟩)))))
  · exact op_no hB hW (-1) (fun h f hS H => vLa_mind (c_has0 (t := 0) t0 hW hS hb (o0 ⟨rfl, hN H⟩))) (fun h f hM H => vMo_mind (m_one0 hW hM hb (o0 ⟨rfl, mN H⟩)))
theorem op_value (hB : B + 1 < 1000000) (a1 a2 : Int32) : Op E B mLa_value mMo_value [pI a1, pI a2] := by
  intro n σ hW
  have hn := hW.1.1
  rcases qa a1 n (by omega) with ⟨o, ho, rfl⟩ | hb
  · have vo : vp_in (nI o) 8 := vp_in_nI (by omega) (by omega)
    have co : (nI o).toNatClampNeg = o := nI_clamp (by omega)
    rcases qr a2 0 99 (by omega) with ⟨k, _, hk, rfl⟩ | hb
    · refine ⟨σ (11 + 5 * o), n, sW σ (11 + 5 * o) (nI k), Wf_fr (Wf_le hW (by omega) hB) (by omega), fun h f hS H => vLa_value (c_has1 (t := 0) t0 hW hS ho (o1 (c_wi1 (m := 99) hk (by omega) (o1 ⟨vo, vo, rfl, ?_⟩)))), fun h f hM H => vMo_value (m_one1 hW hM ho (o1 (m_in1 (lo := 0) (hi := 99) (by omega) hk (by omega) (o1 ?_))))⟩
      · rw [co, S0_w hS ho]
        exact H _ (U0_w hS) (FrU0 (by omega) (by omega))
      · rw [ix1]
        exact m_becomes hM hn (by omega) (fun h' a b => ⟨rfl, H h' a (FrM_o6 b)⟩)
    · exact op_no hB hW (-1) (fun h f hS H => vLa_value (c_has1 (t := 0) t0 hW hS ho (o1 (c_wi0 (m := 99) hb (by omega) (o0 ⟨rfl, hN H⟩))))) (fun h f hM H => vMo_value (m_one1 hW hM ho (o1 (m_in0 (lo := 0) (hi := 99) hb (by omega) (by omega) (o0 ⟨rfl, mN H⟩)))))
  · exact op_no hB hW (-1) (fun h f hS H => vLa_value (c_has0 (t := 0) t0 hW hS hb (o0 ⟨rfl, hN H⟩))) (fun h f hM H => vMo_value (m_one0 hW hM hb (o0 ⟨rfl, mN H⟩)))
theorem op_lay (hB : B + 1 < 1000000) (a1 a2 : Int32) : Op E B mLa_lay mMo_lay [pI a1, pI a2] := by
  intro n σ hW
  have hn := hW.1.1
  rcases qa a1 n (by omega) with ⟨o, ho, rfl⟩ | hb
  · have vo : vp_in (nI o) 8 := vp_in_nI (by omega) (by omega)
    have co : (nI o).toNatClampNeg = o := nI_clamp (by omega)
    rcases qr a2 0 5 (by omega) with ⟨p, _, hp, rfl⟩ | hb
    · refine ⟨σ (13 + 5 * o), n, sLay σ o (nI p), Wf_sLay hW hB (by omega), fun h f hS H => vLa_lay (c_has1 (t := 0) t0 hW hS ho (o1 (c_wi1 (m := 5) hp (by omega) (o1 ⟨vo, c_layIn (t := 0) t0 hn hS ho (fun h' a b => ⟨rfl, ?_⟩)⟩)))), fun h f hM H => vMo_lay (m_one1 hW hM ho (o1 (m_pit1 (by omega) (o1 (m_it3 hM hn ho (m_lies hn hM ho (fun h' a b => ⟨rfl, H h' a (FrM_o6 b)⟩)))))))⟩
      rw [co, S0_p hS ho]
      exact H h' a (FrC_0 b)
    · exact op_no hB hW (-1) (fun h f hS H => vLa_lay (c_has1 (t := 0) t0 hW hS ho (o1 (c_wi0 (m := 5) hb (by omega) (o0 ⟨rfl, hN H⟩))))) (fun h f hM H => vMo_lay (m_one1 hW hM ho (o1 (m_pit0 hb (o0 ⟨rfl, mN H⟩)))))
  · exact op_no hB hW (-1) (fun h f hS H => vLa_lay (c_has0 (t := 0) t0 hW hS hb (o0 ⟨rfl, hN H⟩))) (fun h f hM H => vMo_lay (m_one0 hW hM hb (o0 ⟨rfl, mN H⟩)))
theorem op_take (hB : B + 1 < 1000000) (a1 : Int32) : Op E B mLa_take mMo_take [pI a1] := by
  intro n σ hW
  have hn := hW.1.1
  rcases qa a1 n (by omega) with ⟨o, ho, rfl⟩ | hb
  · have vo : vp_in (nI o) 8 := vp_in_nI (by omega) (by omega)
    have co : (nI o).toNatClampNeg = o := nI_clamp (by omega)
    by_cases h6 : σ (13 + 5 * o) = 6
    · refine op_no hB hW (-3) (fun h f hS H => vLa_take (c_has1 (t := 0) t0 hW hS ho (o1 (c_lies (t := 0) t0 hW hS ho ?_)))) (fun h f hM H => vMo_take (m_one1 hW hM ho (o1 (m_it3 hM hn ho (br_t h6 ⟨rfl, mN H⟩)))))
      rw [if_pos h6]
      exact o0 ⟨rfl, hN H⟩
    · have hW2 : Wf B n (sW σ (13 + 5 * o) 6) := Wf_pt (p := 6) hW (by omega)
      have hl : nLy (sW σ (13 + 5 * o) 6) n < 256 := Nat.lt_of_lt_of_le (nLy_lt _ n) (q2 hn)
      refine ⟨nI (pc (nLy (sW σ (13 + 5 * o) 6) n)), n, sW σ (13 + 5 * o) 6, Wf_le hW2 (by omega) hB, fun h f hS H => vLa_take (c_has1 (t := 0) t0 hW hS ho (o1 (c_lies (t := 0) t0 hW hS ho ?_))), fun h f hM H => vMo_take (m_one1 hW hM ho (o1 (m_it3 hM hn ho (br_f h6 ?_))))⟩
      · rw [if_neg h6]
        refine o1 ⟨vo, ?_⟩
        rw [co]
        exact c_setLying (t := 0) t0 hW2 (U0_p hS) (c_bit hl ⟨rfl, H _ (U0_p hS) (FrU0 (by omega) (by omega))⟩)
      · rw [ix3, nI_clamp (by omega)]
        exact ⟨vp_in_nI (by omega) (by omega), m_lying hW2 (Mo_up hM) (m_size hl ⟨rfl, H _ (Mo_up hM) (FrM_o6 (F36_up F36_rf))⟩)⟩
  · exact op_no hB hW (-1) (fun h f hS H => vLa_take (c_has0 (t := 0) t0 hW hS hb (o0 ⟨rfl, hN H⟩))) (fun h f hM H => vMo_take (m_one0 hW hM hb (o0 ⟨rfl, mN H⟩)))
theorem op_bring (hB : B + 1 < 1000000) (a1 : Int32) : Op E B mLa_bring mMo_bring [pI a1] := by
  intro n σ hW
  have hn := hW.1.1
  rcases qr a1 0 5 (by omega) with ⟨p, _, hp, rfl⟩ | hb
  · refine ⟨σ 3, n, sW σ 3 (nI p), Wf_at (Wf_le hW (by omega) hB) (by omega), fun h f hS H => vLa_bring (c_wi1 (m := 5) hp (by omega) (o1 ⟨rfl, ?_⟩)), fun h f hM H => vMo_bring (m_pit1 (by omega) (o1 (m_becomes (k := 3) hM hn (by omega) (fun h' a b => ⟨rfl, H h' a (FrM_o6 b)⟩))))⟩
    rw [S0_a hS]
    exact H _ (U0_a hS) (FrU0 (by omega) (by omega))
  · exact op_no hB hW (-1) (fun h f hS H => vLa_bring (c_wi0 (m := 5) hb (by omega) (o0 ⟨rfl, hN H⟩))) (fun h f hM H => vMo_bring (m_pit0 hb (o0 ⟨rfl, mN H⟩)))
theorem op_think (hB : B + 1 < 1000000) (a1 : Int32) : Op E B mLa_think mMo_think [pI a1] := by
  intro n σ hW
  have hn := hW.1.1
  rcases qr a1 0 99 (by omega) with ⟨p, _, hp, rfl⟩ | hb
  · refine ⟨σ 4, n, sW σ 4 (nI p), Wf_fr (Wf_le hW (by omega) hB) (by omega), fun h f hS H => vLa_think (c_wi1 (m := 99) hp (by omega) (o1 ⟨rfl, ?_⟩)), fun h f hM H => vMo_think (m_in1 (lo := 0) (hi := 99) (by omega) hp (by omega) (o1 (m_becomes (k := 4) hM hn (by omega) (fun h' a b => ⟨rfl, H h' a (FrM_o6 b)⟩))))⟩
    rw [S0_o hS]
    exact H _ (U0_o hS) (FrU0 (by omega) (by omega))
  · exact op_no hB hW (-1) (fun h f hS H => vLa_think (c_wi0 (m := 99) hb (by omega) (o0 ⟨rfl, hN H⟩))) (fun h f hM H => vMo_think (m_in0 (lo := 0) (hi := 99) hb (by omega) (by omega) (o0 ⟨rfl, mN H⟩)))
theorem op_pit (hB : B + 1 < 1000000) (a1 a2 : Int32) : Op E B mLa_pit mMo_pit [pI a1, pI a2] := by
  intro n σ hW
  have hn := hW.1.1
  rcases qr a1 0 5 (by omega) with ⟨p, _, hp, rfl⟩ | hb
  · rcases qr a2 0 1 (by omega) with ⟨w, _, hw, rfl⟩ | hb
    · by_cases w0 : w = 0
      · subst w0
        exact op_no hB hW (nI (nIn σ (nI p) n)) (fun h f hS H => vLa_pit (c_wi1 (m := 5) hp (by omega) (o1 (c_wi1 (m := 1) hw (by omega) (o1 (br_t rfl (c_setIn (t := 0) t0 hW hS ⟨rfl, hN H⟩))))))) (fun h f hM H => vMo_pit (m_pit1 (by omega) (o1 (m_in1 (lo := 0) (hi := 1) (by omega) hw (by omega) (o1 (br_t rfl (m_lyingIn hW hM ⟨rfl, mN H⟩)))))))
      · exact op_no hB hW (nI (qTop σ (nI p) n)) (fun h f hS H => vLa_pit (c_wi1 (m := 5) hp (by omega) (o1 (c_wi1 (m := 1) hw (by omega) (o1 (br_f (nI_ne0 (by omega) (by omega)) (c_uppermost (t := 0) t0 hW hS ⟨rfl, hN H⟩))))))) (fun h f hM H => vMo_pit (m_pit1 (by omega) (o1 (m_in1 (lo := 0) (hi := 1) (by omega) hw (by omega) (o1 (br_f (nI_ne0 (by omega) (by omega)) (m_top hW hM ⟨rfl, mN H⟩)))))))
    · exact op_no hB hW (-1) (fun h f hS H => vLa_pit (c_wi1 (m := 5) hp (by omega) (o1 (c_wi0 (m := 1) hb (by omega) (o0 ⟨rfl, hN H⟩))))) (fun h f hM H => vMo_pit (m_pit1 (by omega) (o1 (m_in0 (lo := 0) (hi := 1) hb (by omega) (by omega) (o0 ⟨rfl, mN H⟩)))))
  · exact op_no hB hW (-1) (fun h f hS H => vLa_pit (c_wi0 (m := 5) hb (by omega) (o0 ⟨rfl, hN H⟩))) (fun h f hM H => vMo_pit (m_pit0 hb (o0 ⟨rfl, mN H⟩)))
theorem op_years (hB : B + 1 < 1000000) (a1 : Int32) : Op E B mLa_years mMo_years [pI a1] := by
  intro n σ hW
  have hn := hW.1.1
  rcases qr a1 1 60 (by omega) with ⟨k, hk1, hk, rfl⟩ | hb
  · refine ⟨sGs n k σ 4, n, sGs n k σ, Wf_le (Wf_sGs k σ hW) (by omega) hB, fun h f hS H => vLa_years (br_f (nI_nlt (b := 1) hk1 (by omega)) (br_t (nI_le (b := 60) hk (by omega)) (c_passYears (t := 0) (by omega) t0 hW hS (fun h' a b => ⟨rfl, ?_⟩)))), fun h f hM H => vMo_years (m_in1 (lo := 1) (hi := 60) hk1 hk (by omega) (o1 (m_goes (by omega) hW hM (fun h' a b => ⟨rfl, ?_⟩))))⟩
    · rw [S0_o a]
      exact H h' a (FrC_0 b)
    · rw [a 4 (by omega)]
      exact H h' a (FrM_o6 b)
  · exact op_no hB hW (-1) (fun h f hS H => vLa_years (bd_t (lo := 1) (hi := 60) hb (by omega) (by omega) ⟨rfl, hN H⟩)) (fun h f hM H => vMo_years (m_in0 (lo := 1) (hi := 60) hb (by omega) (by omega) (o0 ⟨rfl, mN H⟩)))
theorem op_seed (hB : B + 1 < 1000000) (a1 : Int32) : Op E B mLa_seed mMo_seed [pI a1] := by
  intro n σ hW
  refine ⟨σ 2, n, sW σ 2 a1, Wf_z (Wf_le hW (by omega) hB), fun h f hS H => vLa_seed ⟨rfl, ?_⟩, fun h f hM H => vMo_seed (m_becomes (k := 2) hM hW.1.1 (by omega) (fun h' a b => ⟨rfl, H h' a (FrM_o6 b)⟩))⟩
  rw [S0_z hS]
  exact H _ (U0_z hS) (FrU0 (by omega) (by omega))
theorem op_year (hB : B + 1 < 1000000) : Op E B mLa_year mMo_year [] := by
  intro n σ hW
  refine ⟨sYr n σ 4, n, sYr n σ, Wf_sYr hW hB, fun h f hS H => vLa_year (c_passDrawnYear (t := 0) t0 hW hB hS (fun h' a b => ⟨rfl, ?_⟩)), fun h f hM H => m_year hW hB hM (fun h' a b => H h' a (FrM_o6 b))⟩
  rw [S0_o a]
  exact H h' a (FrC_0 b)
theorem op_state (hB : B + 1 < 1000000) (a1 : Int32) : Op E B mLa_state mMo_state [pI a1] := by
  intro n σ hW
  have hn := hW.1.1
  rcases qr a1 0 5 (by omega) with ⟨w, _, hw, rfl⟩ | hb
  · rcases (by omega : w = 0 ∨ w = 1 ∨ w = 2 ∨ w = 3 ∨ w = 4 ∨ w = 5) with rfl | rfl | rfl | rfl | rfl | rfl
    · refine op_no hB hW (σ 1) (fun h f hS H => vLa_state (br_t rfl ⟨rfl, ?_⟩)) (fun h f hM H => vMo_state (br_t rfl ⟨rfl, ?_⟩))
      · rw [S0_y hS]; exact hN H
      · rw [hM 1 (by omega)]; exact mN H
    · refine op_no hB hW (σ 4) (fun h f hS H => vLa_state (br_f (by decide) (br_t rfl ⟨rfl, ?_⟩))) (fun h f hM H => vMo_state (br_f (by decide) (br_t rfl ⟨rfl, ?_⟩)))
      · rw [S0_o hS]; exact hN H
      · rw [hM 4 (by omega)]; exact mN H
    · refine op_no hB hW (σ 3) (fun h f hS H => vLa_state (br_f (by decide) (br_f (by decide) (br_t rfl ⟨rfl, ?_⟩)))) (fun h f hM H => vMo_state (br_f (by decide) (br_f (by decide) (br_t rfl ⟨rfl, ?_⟩))))
      · rw [S0_a hS]; exact hN H
      · rw [hM 3 (by omega)]; exact mN H
    · exact op_no hB hW (nI (nLy σ n)) (fun h f hS H => vLa_state (br_f (by decide) (br_f (by decide) (br_f (by decide) (br_t rfl (c_setLying (t := 0) t0 hW hS ⟨rfl, hN H⟩)))))) (fun h f hM H => vMo_state (br_f (by decide) (br_f (by decide) (br_f (by decide) (br_t rfl (m_lying hW hM ⟨rfl, mN H⟩))))))
    · exact op_no hB hW (qWo σ n) (fun h f hS H => vLa_state (br_f (by decide) (br_f (by decide) (br_f (by decide) (br_f (by decide) (br_t rfl (c_worthLying (t := 0) t0 hW hS ⟨rfl, hN H⟩))))))) (fun h f hM H => vMo_state (br_f (by decide) (br_f (by decide) (br_f (by decide) (br_f (by decide) (br_t rfl (m_worthOfAll hW hM ⟨rfl, mN H⟩)))))))
    · exact op_no hB hW (nI (cUp (fun S => qKd σ (nI S) n) (qKd σ (nI 63) n) 64).1) (fun h f hS H => vLa_state (br_f (by decide) (br_f (by decide) (br_f (by decide) (br_f (by decide) (br_f (by decide) (br_t rfl (c_cover (t := 0) t0 hW hS ⟨rfl, hN H⟩)))))))) (fun h f hM H => vMo_state (br_f (by decide) (br_f (by decide) (br_f (by decide) (br_f (by decide) (br_f (by decide) (br_t rfl (m_cover hW hM ⟨rfl, mN H⟩))))))))
  · exact op_no hB hW (-1) (fun h f hS H => vLa_state (br_f (bd_ne hb 0 (by omega) (by omega) (by omega)) (br_f (bd_ne hb 1 (by omega) (by omega) (by omega)) (br_f (bd_ne hb 2 (by omega) (by omega) (by omega)) (br_f (bd_ne hb 3 (by omega) (by omega) (by omega)) (br_f (bd_ne hb 4 (by omega) (by omega) (by omega)) (br_f (bd_ne hb 5 (by omega) (by omega) (by omega)) ⟨rfl, hN H⟩))))))) (fun h f hM H => vMo_state (br_f (bd_ne hb 0 (by omega) (by omega) (by omega)) (br_f (bd_ne hb 1 (by omega) (by omega) (by omega)) (br_f (bd_ne hb 2 (by omega) (by omega) (by omega)) (br_f (bd_ne hb 3 (by omega) (by omega) (by omega)) (br_f (bd_ne hb 4 (by omega) (by omega) (by omega)) (br_f (bd_ne hb 5 (by omega) (by omega) (by omega)) ⟨rfl, mN H⟩)))))))
theorem op_thought (hB : B + 1 < 1000000) (a1 : Int32) : Op E B mLa_thought mMo_thought [pI a1] := by
  intro n σ hW
  have hn := hW.1.1
  rcases qr a1 0 60 (by omega) with ⟨k, _, hk, rfl⟩ | hb
  · exact op_no hB hW (sGs n k σ 4) (fun h f hS H => vLa_thought (c_wi1 (m := 60) hk (by omega) (o1 (c_opB (by omega) hW hS (fun h' a => ⟨rfl, H h' a⟩))))) (fun h f hM H => vMo_thought (m_in1 (lo := 0) (hi := 60) (by omega) hk (by omega) (o1 (m_thought (by omega) hW hM (fun h' a b => ⟨rfl, H h' (fun j hj => a j (by omega)) (FrM_of b)⟩)))))
  · exact op_no hB hW (-1) (fun h f hS H => vLa_thought (c_wi0 (m := 60) hb (by omega) (o0 ⟨rfl, hN H⟩))) (fun h f hM H => vMo_thought (m_in0 (lo := 0) (hi := 60) hb (by omega) (by omega) (o0 ⟨rfl, mN H⟩)))
theorem op_above (hB : B + 1 < 1000000) (a1 : Int32) : Op E B mLa_above mMo_above [pI a1] := by
  intro n σ hW
  have hn := hW.1.1
  rcases qa a1 n (by omega) with ⟨o, ho, rfl⟩ | hb
  · exact op_no hB hW (nI (nAbv σ n o)) (fun h f hS H => vLa_above (c_has1 (t := 0) t0 hW hS ho (o1 (c_setAbove (t := 0) t0 hW hS ho ⟨rfl, hN H⟩)))) (fun h f hM H => vMo_above (m_one1 hW hM ho (o1 (m_aboveOf hW hM ho ⟨rfl, mN H⟩))))
  · exact op_no hB hW (-1) (fun h f hS H => vLa_above (c_has0 (t := 0) t0 hW hS hb (o0 ⟨rfl, hN H⟩))) (fun h f hM H => vMo_above (m_one0 hW hM hb (o0 ⟨rfl, mN H⟩)))
end
