section
variable {E : rE} {d B t n : Nat} {σ : Nat → Int32} {h : rHp} {f : Int32 → rHp → Prop}
theorem q_gt {a b : Nat} (ha : a < 1000001) (hb : b < 1000001) : (nI (a + 1) < nI (b + 1)) ↔ ¬ nI b ≤ nI a := by
  rw [nI_ltI (by omega) (by omega), nI_leI (by omega) (by omega)]
  omega
theorem c_setAbove {o : Nat} (ht : t < 3) (hW : Wf B n σ) (hS : St t n σ h) (ho : o < n) (H : f (nI (nAbv σ n o)) h) : rCall E (d + 1) mSt_setAbove [pR (7*t+1), pI (nI o)] SH h (rPi SH f) := by
  have hn := hW.1.1
  have hN := St_n hW hS
  have vo : vp_in (nI o) 8 := vp_in_nI (by omega) (by omega)
  have co : (nI o).toNatClampNeg = o := nI_clamp (by omega)
  obtain ⟨go, go1, go2, go3⟩ := St_g hW hS ho
  refine vSt_setAbove ht ⟨fun e => absurd e (nI_pos (by omega)), fun _ => ⟨fun e => absurd e ?_, fun _ => ⟨vo, fun e => ⟨rfl, ?_⟩, fun e => ?_⟩⟩⟩
  · rw [hN]
    exact nI_ge ho (by omega)
  · rw [co, St_p hS ho] at e
    simp only [nAbv, if_pos e] at H
    exact H
  · rw [co, St_p hS ho] at e
    simp only [nAbv, if_neg e] at H
    refine loopUp (P := fun i => rR E (rCall E d) mSt_setAbove (rPi SH f) 29 [some (pR (7*t+1)), some (pI (nI o)), some (pI (nI (nAb σ o i))), some (pI (nI i))] [] SH h 0 0) n ?_ ?_
    · intro i hi hP
      obtain ⟨gi, gi1, gi2, gi3⟩ := St_g hW hS hi
      have vi : vp_in (nI i) 8 := vp_in_nI (by omega) (by omega)
      have ci : (nI i).toNatClampNeg = i := nI_clamp (by omega)
      refine vSt_setAbove_29 ht ⟨fun e => absurd e (by rw [hN]; exact nI_ge hi (by omega)), fun _ => ⟨vi, vo, fun e => ⟨vi, vo, fun e2 => ?_, fun e2 => ?_⟩, fun e => ?_⟩⟩
      · rw [ci, co, gi3, go3] at e2
        rw [ci, co, St_p hS hi, St_p hS ho] at e
        have c : ¬ (σ (13 + 5 * i) = σ (13 + 5 * o) ∧ σ (14 + 5 * o) < σ (14 + 5 * i)) := by
          rw [go2, gi2, q_gt (by omega) (by omega)]
          exact fun q => q.2 e2
        simp only [nAb, if_neg c, nI_succ] at hP
        exact hP
      · rw [ci, co, gi3, go3] at e2
        rw [ci, co, St_p hS hi, St_p hS ho] at e
        have c : σ (13 + 5 * i) = σ (13 + 5 * o) ∧ σ (14 + 5 * o) < σ (14 + 5 * i) := by
          rw [go2, gi2, q_gt (by omega) (by omega)]
          exact ⟨e, e2⟩
        simp only [nAb, if_pos c, nI_succ] at hP
        rw [qbit i (by omega) _ (nAb_lt σ o i)]
        exact hP
      · rw [ci, co, St_p hS hi, St_p hS ho] at e
        have c : ¬ (σ (13 + 5 * i) = σ (13 + 5 * o) ∧ σ (14 + 5 * o) < σ (14 + 5 * i)) := fun q => e q.1
        simp only [nAb, if_neg c, nI_succ] at hP
        exact hP
    · exact vSt_setAbove_29 ht ⟨fun _ => ⟨rfl, H⟩, fun e => absurd (by rw [hN]; exact nI_le (Nat.le_refl n) (by omega)) e⟩
theorem c_uppermost {p : Int32} (ht : t < 3) (hW : Wf B n σ) (hS : St t n σ h) (H : f (nI (qTop σ p n)) h) : rCall E (d + 1) mSt_uppermost [pR (7*t+1), pI p] SH h (rPi SH f) := by
  have hn := hW.1.1
  have hN := St_n hW hS
  apply vSt_uppermost ht
  refine loopUp (P := fun i => rR E (rCall E d) mSt_uppermost (rPi SH f) 8 [some (pR (7*t+1)), some (pI p), some (pI (nI (qTop σ p i))), some (pI (if qTop σ p i = 8 then -1 else h (7*t+6) (qTop σ p i))), some (pI (nI i))] [] SH h 0 0) n ?_ ?_
  · intro i hi hP
    obtain ⟨gi, gi1, gi2, gi3⟩ := St_g hW hS hi
    have vi : vp_in (nI i) 8 := vp_in_nI (by omega) (by omega)
    have ci : (nI i).toNatClampNeg = i := nI_clamp (by omega)
    have key : ¬ h (7*t+6) i ≤ (if qTop σ p i = 8 then -1 else h (7*t+6) (qTop σ p i)) ↔ (qTop σ p i = 8 ∨ σ (14 + 5 * qTop σ p i) < σ (14 + 5 * i)) := by
      by_cases h8 : qTop σ p i = 8
      · rw [if_pos h8, gi3]
        refine ⟨fun _ => Or.inl h8, fun _ => ?_⟩
        rw [Int32.le_iff_toInt_le, nI_toInt (by omega)]
        show ¬ (gi : Int) ≤ -1
        omega
      · have hq : qTop σ p i < i := by
          have := qTop_lt σ p i
          omega
        obtain ⟨gq, gq1, gq2, gq3⟩ := St_g hW hS (show qTop σ p i < n by omega)
        rw [if_neg h8, gi3, gq3, gi2, gq2, q_gt (by omega) (by omega)]
        exact ⟨fun q => Or.inr q, fun q => q.resolve_left h8⟩
    refine vSt_uppermost_8 ht ⟨fun e => absurd e (by rw [hN]; exact nI_ge hi (by omega)), fun _ => ⟨vi, fun e => ⟨vi, fun e2 => ?_, fun e2 => ⟨vi, ?_⟩⟩, fun e => ?_⟩⟩
    · rw [ci] at e2
      have c : ¬ (σ (13 + 5 * i) = p ∧ (qTop σ p i = 8 ∨ σ (14 + 5 * qTop σ p i) < σ (14 + 5 * i))) := by
        rw [← key]
        exact fun q => q.2 e2
      simp only [qTop, if_neg c, nI_succ] at hP
      exact hP
    · rw [ci] at e2
      rw [ci, St_p hS hi] at e
      have c : σ (13 + 5 * i) = p ∧ (qTop σ p i = 8 ∨ σ (14 + 5 * qTop σ p i) < σ (14 + 5 * i)) := by
        rw [← key]
        exact ⟨e, e2⟩
      simp only [qTop, if_pos c, nI_succ] at hP
      rw [if_neg (by omega)] at hP
      rw [ci]
      exact hP
    · rw [ci, St_p hS hi] at e
      have c : ¬ (σ (13 + 5 * i) = p ∧ (qTop σ p i = 8 ∨ σ (14 + 5 * qTop σ p i) < σ (14 + 5 * i))) := fun q => e q.1
      simp only [qTop, if_neg c, nI_succ] at hP
      exact hP
  · exact vSt_uppermost_8 ht ⟨fun _ => ⟨rfl, H⟩, fun e => absurd (by rw [hN]; exact nI_le (Nat.le_refl n) (by omega)) e⟩
theorem c_kindsIn {S : Int32} (ht : t < 3) (hW : Wf B n σ) (hS : St t n σ h) (H : f (qKd σ S n) h) : rCall E (d + 1) mSt_kindsIn [pR (7*t+1), pI S] SH h (rPi SH f) := by
  have hn := hW.1.1
  have hN := St_n hW hS
  apply vSt_kindsIn ht
  refine loopUp (P := fun i => rR E (rCall E d) mSt_kindsIn (rPi SH f) 4 [some (pR (7*t+1)), some (pI S), some (pI (qKd σ S i)), some (pI (nI i))] [] SH h 0 0) n ?_ ?_
  · intro i hi hP
    have vi : vp_in (nI i) 8 := vp_in_nI (by omega) (by omega)
    have ci : (nI i).toNatClampNeg = i := nI_clamp (by omega)
    refine vSt_kindsIn_4 ht ⟨fun e => absurd e (by rw [hN]; exact nI_ge hi (by omega)), fun _ => ⟨vi, fun e => ?_, fun e => ⟨vi, fun e2 => ⟨vi, ?_⟩, fun e2 => ?_⟩⟩⟩
    · rw [ci, St_p hS hi] at e
      simp only [qKd, if_pos e, nI_succ] at hP
      exact hP
    · rw [ci, St_p hS hi] at e e2
      simp only [qKd, if_neg e, if_pos e2, nI_succ] at hP
      rw [ci, St_k hS hi]
      exact hP
    · rw [ci, St_p hS hi] at e e2
      simp only [qKd, if_neg e, if_neg e2, nI_succ] at hP
      exact hP
  · exact vSt_kindsIn_4 ht ⟨fun _ => ⟨rfl, H⟩, fun e => absurd (by rw [hN]; exact nI_le (Nat.le_refl n) (by omega)) e⟩
end
