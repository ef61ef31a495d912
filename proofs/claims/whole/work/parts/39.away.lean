section
variable {E : rE} {d B n : Nat} {σ : Nat → Int32} {h : rHp} {f : Int32 → rHp → Prop} {fn : rHp → Prop}
theorem c_without {k S : Nat} (hk : k < 1000) (hW : Wf B n σ) (hS : St 0 n σ h) (H : ∀ h', Fr 1 h h' → f (sGs n k (qAw σ S n) 4) h') : rCall E (d + 6) mLa_opinionWithout [pR 0, pI (nI S), pI (nI k)] SH h (rPi SH f) := by
  have hn := hW.1.1
  refine vLa_opinionWithout (c_bec10 hn hS (fun h1 a1 b1 => ?_))
  refine loopUp (P := fun i => ∀ h1, St 1 n (qAw σ S i) h1 → Fr 1 h h1 → rR E (rCall E (d + 5)) mLa_opinionWithout (rPi SH f) 13 [some (pR 0), some (pI (nI S)), some (pI (nI k)), some (pI (nI i))] [] SH h1 0 0) n ?_ ?_ h1 a1 b1
  · intro i hi hP h1 a1 b1
    refine vLa_opinionWithout_13 (br_f (by rw [S1_n (Wf_qAw hW i) a1]; exact nI_ge hi (by omega)) ⟨fun c => ⟨vp_in_nI (by omega) (by omega), ?_⟩, fun c => ?_⟩)
    · rw [nI_clamp (by omega), ← nI_succ]
      refine hP _ ?_ (Fr_tr b1 (FrU1 (by omega) (by omega)))
      unfold qAw
      rw [if_pos c]
      exact U1_p a1
    · rw [← nI_succ]
      refine hP _ ?_ b1
      unfold qAw
      rw [if_neg c]
      exact a1
  · intro h1 a1 b1
    refine vLa_opinionWithout_13 (br_t (by rw [S1_n (Wf_qAw hW n) a1]; exact nI_le (Nat.le_refl n) (by omega)) (c_passYears (t := 1) hk t1 (Wf_qAw hW n) a1 (fun h2 a2 b2 => ⟨rfl, ?_⟩)))
    rw [S1_o a2]
    exact H _ (Fr_tr b1 b2)
theorem op_awayFor (hB : B + 1 < 1000000) (a1 a2 : Int32) : Op E B mLa_awayFor mMo_awayFor [pI a1, pI a2] := by
  intro n σ hW
  have hn := hW.1.1
  rcases qr a1 1 20 (by omega) with ⟨k, hk1, hk, rfl⟩ | hb
  · rcases qr a2 0 99 (by omega) with ⟨v, _, hv, rfl⟩ | hb
    · obtain ⟨L, hLe⟩ : ∃ L, L = nLy σ n := ⟨_, rfl⟩
      have hL2 : L < 2 ^ n := by rw [hLe]; exact nLy_lt σ n
      have h2n : 2 ^ n ≤ 256 := q2 hn
      obtain ⟨g, hg⟩ : ∃ g : Nat → Int32, g = fun S => sGs n k (qAw σ S n) 4 := ⟨_, rfl⟩
      refine op_no hB hW (ansO (aW L g (nI v) (L + 1))) (fun h f hS H => vLa_awayFor (c_near1 hk1 hk (o1 (c_wi1 (m := 99) hv (by omega) (o1 (c_setLying (t := 0) t0 hW hS ?_)))))) (fun h f hM H => vMo_awayFor (m_short1 hk1 hk (o1 (m_in1 (lo := 0) (hi := 99) (by omega) hv (by omega) (o1 (m_copyRow (u := 0) (w := 4) (by omega) (by omega) (by omega) (fun h1 a1 b1 => m_lying hW (Mo_far hM (b1 36 (by omega))) ?_)))))))
      · rw [← hLe]
        refine loopUp (P := fun S => ∀ h1 o7, Fr 1 h h1 → rR E (rCall E 39) mLa_awayFor (rPi SH f) 37 [some (pR 0), some (pI (nI k)), some (pI (nI v)), some (pI (nI L)), some (pI (ansO (aW L g (nI v) S))), some (pI (nI (fewO (aW L g (nI v) S)))), some (pI (nI S)), oI o7] [] SH h1 0 0) (L + 1) ?_ ?_ h none Fr_refl
        · intro S hSL hP h1 o7 b1
          have hp := pc_le S (by omega)
          have hf := (aW_b L g (nI v) S (by omega)).1
          have hP := fun h1 b1 => hP h1 (some (nI (pc S))) b1
          simp only [aW] at hP
          rw [nI_succ] at hP
          refine vLa_awayFor_37 (br_f (nI_nlt (by omega) (by omega)) (c_bit (by omega) ⟨fun c => ⟨fun c2 => ?_, fun c2 => ?_⟩, fun c => ?_⟩))
          · rw [nI_leI (by omega) (by omega)] at c2
            rw [if_neg (fun q => by omega)] at hP
            exact hP h1 b1
          · rw [nI_leI (by omega) (by omega)] at c2
            refine c_without (by omega) hW (S0_1 hS b1) (fun h2 b2 => ⟨fun c3 => ?_, fun c3 => ?_⟩)
            · rw [if_neg (fun q => q.2 (by rw [hg]; exact c3))] at hP
              exact hP h2 (Fr_tr b1 b2)
            · rw [if_pos ⟨⟨c, by omega⟩, by rw [hg]; exact c3⟩] at hP
              exact hP h2 (Fr_tr b1 b2)
          · rw [if_neg (fun q => c q.1.1)] at hP
            exact hP h1 b1
        · intro h1 o7 b1
          exact vLa_awayFor_37 (br_t (nI_lt (by omega) (by omega)) ⟨rfl, H h1 b1⟩)
      · rw [← hLe]
        refine loopUp (P := fun S => ∀ h1 o6, (∀ k, k < 50 → h1 36 k = h 36 k) → (∀ k, k < 50 → h1 40 k = h 36 k) → FrM h h1 → rR E (rCall E 39) mMo_awayFor (rPi SH f) 44 [some (pR 35), some (pI (nI k)), some (pI (nI v)), some (pI (nI L)), some (pI (ansO (aW L g (nI v) S))), some (pI (nI S)), oI o6] [] SH h1 0 0) (2 ^ n) ?_ ?_ h1 none (fun j hj => by rw [b1 36 (by omega)]) a1 (fun b _ _ _ e => b1 b e)
        · intro S hSL hP h1 o6 e1 e2 b1
          have hp := pc_le S (by omega)
          have hf := aW_b L g (nI v) S (by omega)
          have hM1 : Mo n σ h1 := Mo_as hM hn e1
          simp only [aW] at hP
          rw [nI_succ] at hP
          have inner : nI S &&& (nI L ^^^ (-1)) = 0 → pc S < fewO (aW L g (nI v) S) → rR E (rCall E 39) mMo_awayFor (rPi SH f) 87 [some (pR 35), some (pI (nI k)), some (pI (nI v)), some (pI (nI L)), some (pI (ansO (aW L g (nI v) S))), some (pI (nI S)), some (pI 0)] [] SH h1 0 0 := by
            intro c1 c2
            refine loopUp (P := fun i => ∀ h2, Mo n (qAw σ S i) h2 → (∀ k, k < 50 → h2 40 k = h 36 k) → FrM h h2 → rR E (rCall E 39) mMo_awayFor (rPi SH f) 87 [some (pR 35), some (pI (nI k)), some (pI (nI v)), some (pI (nI L)), some (pI (ansO (aW L g (nI v) S))), some (pI (nI S)), some (pI (nI i))] [] SH h2 0 0) n ?_ ?_ h1 hM1 e2 b1
            · intro i hi hP h2 a2 e3 b2
              refine vMo_awayFor_87 (br_f (by rw [Mo_n (Wf_qAw hW i) a2]; exact nI_ge hi (by omega)) ⟨fun c => ?_, fun c => m_it3 a2 hn hi ?_⟩)
              · rw [ix3, nI_clamp (by omega), ← nI_succ]
                refine ⟨vp_in_nI (by omega) (by omega), hP _ ?_ (fun j hj => (congrFun (rUp_o (show (40:Nat) ≠ 36 by omega)) j).trans (e3 j hj)) (FrM_tr b2 (FrM_o6 (F36_up F36_rf)))⟩
                unfold qAw
                rw [if_pos c]
                exact Mo_up a2
              · rw [ix3, nI_clamp (by omega), ← nI_succ]
                refine ⟨vp_in_nI (by omega) (by omega), hP _ ?_ (fun j hj => (congrFun (rUp_o (show (40:Nat) ≠ 36 by omega)) j).trans (e3 j hj)) (FrM_tr b2 (FrM_o6 (F36_up F36_rf)))⟩
                rw [show qAw σ S (i + 1) = qAw σ S i from if_neg c]
                have := Mo_up (k := 13 + 5 * i) (x := qAw σ S i (13 + 5 * i)) a2
                rw [sW_id] at this
                exact this
            · intro h2 a2 e3 b2
              refine vMo_awayFor_87 (br_t (by rw [Mo_n (Wf_qAw hW n) a2]; exact nI_le (Nat.le_refl n) (by omega)) (m_thought (by omega) (Wf_qAw hW n) a2 (fun h3 a3 b3 => ?_)))
              have e4 : ∀ j, j < 50 → h3 40 j = h 36 j := fun j hj => (congrFun (b3 40 (by omega) (by omega)) j).trans (e3 j hj)
              refine ⟨fun c3 => m_copyRow (u := 4) (w := 0) (by omega) (by omega) (by omega) (fun h4 a4 b4 => ?_), fun c3 => m_copyRow (u := 4) (w := 0) (by omega) (by omega) (by omega) (fun h4 a4 b4 => ?_)⟩
              · rw [if_neg (fun q => q.2 (by rw [hg]; exact c3))] at hP
                exact hP h4 (some (nI n)) (fun j hj => (a4 j hj).trans (e4 j hj)) (fun j hj => (congrFun (b4 40 (by omega)) j).trans (e4 j hj)) (FrM_tr b2 (FrM_tr (FrM_of b3) (FrM_o6 b4)))
              · rw [if_pos ⟨⟨c1, c2⟩, by rw [hg]; exact c3⟩] at hP
                exact hP h4 (some (nI n)) (fun j hj => (a4 j hj).trans (e4 j hj)) (fun j hj => (congrFun (b4 40 (by omega)) j).trans (e4 j hj)) (FrM_tr b2 (FrM_tr (FrM_of b3) (FrM_o6 b4)))
          refine vMo_awayFor_44 (br_f (by rw [Mo_n hW hM1, shl8 n hn]; exact nI_ge hSL (by omega)) ⟨fun c => ⟨fun c2 => inner c ?_, fun c2 => ?_⟩, fun c => ?_⟩)
          · cases hA : aW L g (nI v) S with
            | none => show pc S < 9; omega
            | some b =>
              rw [hA] at c2
              exact absurd c2 (nI_pos (by have := hf.2 b hA; omega))
          · cases hA : aW L g (nI v) S with
            | none =>
              rw [hA] at c2
              exact absurd (by decide) c2
            | some b =>
              have hb := hf.2 b hA
              have hpb := pc_le b hb
              rw [hA] at inner hP
              refine m_size (by omega) (m_size hb ⟨fun c3 => ?_, fun c3 => inner c ?_⟩)
              · rw [nI_leI (by omega) (by omega)] at c3
                rw [if_neg (fun q => by have := q.1.2; simp only [fewO] at this; omega)] at hP
                exact hP h1 o6 e1 e2 b1
              · rw [nI_leI (by omega) (by omega)] at c3
                show pc S < pc b
                omega
          · rw [if_neg (fun q => c q.1.1)] at hP
            exact hP h1 o6 e1 e2 b1
        · intro h1 o6 e1 e2 b1
          have hM1 : Mo n σ h1 := Mo_as hM hn e1
          refine vMo_awayFor_44 (br_t (by rw [Mo_n hW hM1, shl8 n hn]; exact nI_le (Nat.le_refl _) (by omega)) ⟨rfl, ?_⟩)
          have e := aW_far (L := L) (by omega) g (nI v) (2 ^ n - (L + 1)) (by omega)
          rw [show L + 1 + (2 ^ n - (L + 1)) = 2 ^ n by omega] at e
          rw [e]
          exact H h1 (fun j hj => e1 j (by omega)) b1
    · exact op_no hB hW (-1) (fun h f hS H => vLa_awayFor (c_near1 hk1 hk (o1 (c_wi0 (m := 99) hb (by omega) (o0 ⟨rfl, hN H⟩))))) (fun h f hM H => vMo_awayFor (m_short1 hk1 hk (o1 (m_in0 (lo := 0) (hi := 99) hb (by omega) (by omega) (o0 ⟨rfl, mN H⟩)))))
  · exact op_no hB hW (-1) (fun h f hS H => vLa_awayFor (c_near0 hb (o0 ⟨rfl, hN H⟩))) (fun h f hM H => vMo_awayFor (m_short0 hb (o0 ⟨rfl, mN H⟩)))
end
