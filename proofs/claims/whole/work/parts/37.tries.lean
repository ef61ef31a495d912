/-! what is tried: the first year that .. -/
def fY (n : Nat) (P : (Nat → Int32) → Bool) : Nat → Nat → (Nat → Int32) → Int32
  | 0, _, _ => -3
  | m + 1, i, σ => if P σ = true then nI i else fY n P m (i + 1) (sGo n σ)
def Sv (h h' : rHp) : Prop := (∀ k, k < 50 → h' 38 k = h 36 k) ∧ F38 h h'
theorem Sv_36 {h h' h2 : rHp} (a : Sv h h') (b : F36 h' h2) : Sv h h2 := ⟨fun k hk => (congrFun (b 38 (by omega)) k).trans (a.1 k hk), F38_tr a.2 (F38_of b)⟩
/-- of several the first best -/
def qB (g : Nat → Int32) : Nat → Nat × Int32
  | 0 => (0, -1)
  | i + 1 => if g i ≤ (qB g i).2 then qB g i else (i, g i)
theorem qB_b (g : Nat → Int32) : ∀ i, (qB g i).1 ≤ i
  | 0 => Nat.le_refl 0
  | i + 1 => by
    have := qB_b g i
    unfold qB
    split
    · omega
    · exact Nat.le_succ i
def fW (g : Nat → Int32) (v : Int32) : Nat → Nat → Int32
  | 0, _ => -3
  | m + 1, w => if g w < v then fW g v m (w + 1) else nI w
def lkz (n : Nat) (σ : Nat → Int32) : Nat → Int32
  | 0 => σ 2
  | i + 1 => sYr n (sW σ 2 (lkz n σ i)) 2
def lkm (n : Nat) (σ : Nat → Int32) (due : Int32) : Nat → Nat
  | 0 => 0
  | i + 1 => if sYr n (sW σ 2 (lkz n σ i)) 4 ≤ due then lkm n σ due i else lkm n σ due i + 1
section
variable {E : rE} {d B n : Nat} {σ : Nat → Int32} {h : rHp} {f : Int32 → rHp → Prop} {fn : rHp → Prop}
theorem m_save (hn : n ≤ 8) (hM : Mo n σ h) (H : ∀ h', Mo n σ h' → Sv h h' → fn h') : rCall E (d + 1) mMo_copyRow [pR 36, pR 38] SH h (rPn SH fn) :=
  m_copyRow (u := 0) (w := 2) (by omega) (by omega) (by omega) (fun h1 a1 b1 => H h1 (Mo_far hM (b1 36 (by omega))) ⟨a1, fun b _ e => b1 b e⟩)
theorem m_back {h1 : rHp} (hv : Sv h h1) (H : ∀ h', (∀ k, k < 50 → h' 36 k = h 36 k) → F38 h h' → fn h') : rCall E (d + 1) mMo_copyRow [pR 38, pR 36] SH h1 (rPn SH fn) :=
  m_copyRow (u := 2) (w := 0) (by omega) (by omega) (by omega) (fun h2 a2 b2 => H h2 (fun k hk => (a2 k hk).trans (hv.1 k hk)) (fun b e1 e2 => (b2 b e1).trans (hv.2 b e1 e2)))
theorem m_short1 {o : Nat} (h1 : 1 ≤ o) (h2 : o ≤ 20) (H : f 1 h) : rCall E (d + 2) mMo_isShort [pI (nI o)] SH h (rPi SH f) :=
  vMo_isShort (m_in1 (lo := 1) (hi := 20) h1 h2 (by omega) ⟨Or.inr rfl, rfl, H⟩)
theorem m_short0 {a : Int32} (hb : Bd a 1 20) (H : f 0 h) : rCall E (d + 2) mMo_isShort [pI a] SH h (rPi SH f) :=
  vMo_isShort (m_in0 (lo := 1) (hi := 20) hb (by omega) (by omega) ⟨Or.inl rfl, rfl, H⟩)
theorem op_dug (hB : B + 1 < 1000000) (a1 : Int32) : Op E B mLa_dug mMo_dug [pI a1] := by
  intro n σ hW
  have hn := hW.1.1
  rcases qa a1 n (by omega) with ⟨o, ho, rfl⟩ | hb
  · refine op_no hB hW (fY n (fun τ => decide (τ (13 + 5 * o) = 6)) 61 0 σ) (fun h f hS H => vLa_dug (c_has1 (t := 0) t0 hW hS ho (o1 (c_bec10 hn hS (fun h1 a1 b1 => ?_))))) (fun h f hM H => vMo_dug (m_one1 hW hM ho (o1 (m_save hn hM (fun h1 a1 b1 => ?_)))))
    · have go : ∀ (m i : Nat) (τ : Nat → Int32) (h1 : rHp), m + i = 61 → Wf B n τ → St 1 n τ h1 → Fr 1 h h1 → (∀ h', Fr 1 h h' → f (fY n (fun τ => decide (τ (13 + 5 * o) = 6)) m i τ) h') →
          rR E (rCall E 39) mLa_dug (rPi SH f) 26 [some (pR 0), some (pI (nI o)), some (pI (nI i))] [] SH h1 0 0 := by
        intro m
        induction m with
        | zero =>
          intro i τ h1 hm hW hS hF H
          exact vLa_dug_26 (br_t (nI_lt (a := 60) (by omega) (by omega)) ⟨rfl, H _ hF⟩)
        | succ m ih =>
          intro i τ h1 hm hW hS hF H
          refine vLa_dug_26 (br_f (nI_nlt (a := 60) (by omega) (by omega)) (c_lies (t := 1) t1 hW hS ho ?_))
          by_cases c : τ (13 + 5 * o) = 6
          · rw [if_pos c]
            simp only [fY, decide_eq_true c, if_true] at H
            exact o0 ⟨rfl, H _ hF⟩
          · rw [if_neg c]
            simp only [fY, decide_eq_false c, Bool.false_eq_true, if_false] at H
            refine o1 (c_passYear (t := 1) t1 hW hS (fun h2 a2 b2 => ?_))
            rw [← nI_succ]
            exact ih (i + 1) _ h2 (by omega) (Wf_sGo hW) a2 (Fr_tr hF b2) H
      exact go 61 0 σ h1 rfl hW a1 b1 H
    · have go : ∀ (m i : Nat) (τ : Nat → Int32) (h1 : rHp), m + i = 61 → Wf B n τ → Mo n τ h1 → Sv h h1 → (∀ h', (∀ k, k < 10 + 5 * n → h' 36 k = h 36 k) → FrM h h' → f (fY n (fun τ => decide (τ (13 + 5 * o) = 6)) m i τ) h') →
          rR E (rCall E 39) mMo_dug (rPi SH f) 23 [some (pR 35), some (pI (nI o)), some (pI (nI i))] [] SH h1 0 0 := by
        intro m
        induction m with
        | zero =>
          intro i τ h1 hm hW hM hF H
          exact vMo_dug_23 (br_t (nI_lt (a := 60) (by omega) (by omega)) (m_back hF (fun h' a b => br_t (nI_lt (a := 60) (by omega) (by omega)) ⟨rfl, H h' (fun k hk => a k (by omega)) (FrM_of b)⟩)))
        | succ m ih =>
          intro i τ h1 hm hW hM hF H
          refine vMo_dug_23 (br_f (nI_nlt (a := 60) (by omega) (by omega)) (m_it3 hM hn ho ⟨fun c => ?_, fun c => ?_⟩))
          · simp only [fY, decide_eq_true c, if_true] at H
            exact m_back hF (fun h' a b => br_f (nI_nlt (a := 60) (by omega) (by omega)) ⟨rfl, H h' (fun k hk => a k (by omega)) (FrM_of b)⟩)
          · simp only [fY, decide_eq_false c, Bool.false_eq_true, if_false] at H
            refine m_goesOn hW hM (fun h2 a2 b2 => ?_)
            rw [← nI_succ]
            exact ih (i + 1) _ h2 (by omega) (Wf_sGo hW) a2 (Sv_36 hF b2) H
      exact go 61 0 σ h1 rfl hW a1 b1 H
  · exact op_no hB hW (-1) (fun h f hS H => vLa_dug (c_has0 (t := 0) t0 hW hS hb (o0 ⟨rfl, hN H⟩))) (fun h f hM H => vMo_dug (m_one0 hW hM hb (o0 ⟨rfl, mN H⟩)))
theorem op_empty (hB : B + 1 < 1000000) : Op E B mLa_empty mMo_empty [] := by
  intro n σ hW
  have hn := hW.1.1
  refine op_no hB hW (fY n (fun τ => decide (nLy τ n = 0)) 61 0 σ) (fun h f hS H => vLa_empty (c_bec10 hn hS (fun h1 a1 b1 => ?_))) (fun h f hM H => vMo_empty (m_save hn hM (fun h1 a1 b1 => ?_)))
  · have go : ∀ (m i : Nat) (τ : Nat → Int32) (h1 : rHp), m + i = 61 → Wf B n τ → St 1 n τ h1 → Fr 1 h h1 → (∀ h', Fr 1 h h' → f (fY n (fun τ => decide (nLy τ n = 0)) m i τ) h') →
        rR E (rCall E 39) mLa_empty (rPi SH f) 13 [some (pR 0), some (pI (nI i))] [] SH h1 0 0 := by
      intro m
      induction m with
      | zero =>
        intro i τ h1 hm hW hS hF H
        exact vLa_empty_13 (br_t (nI_lt (a := 60) (by omega) (by omega)) ⟨rfl, H _ hF⟩)
      | succ m ih =>
        intro i τ h1 hm hW hS hF H
        have hl : nLy τ n < 256 := Nat.lt_of_lt_of_le (nLy_lt τ n) (q2 hn)
        refine vLa_empty_13 (br_f (nI_nlt (a := 60) (by omega) (by omega)) (c_setLying (t := 1) t1 hW hS ?_))
        by_cases c : nLy τ n = 0
        · simp only [fY, decide_eq_true c, if_true] at H
          rw [c]
          exact o0 ⟨rfl, H _ hF⟩
        · simp only [fY, decide_eq_false c, Bool.false_eq_true, if_false] at H
          refine br_f (nI_ne0 (by omega) (by omega)) (c_passYear (t := 1) t1 hW hS (fun h2 a2 b2 => ?_))
          rw [← nI_succ]
          exact ih (i + 1) _ h2 (by omega) (Wf_sGo hW) a2 (Fr_tr hF b2) H
    exact go 61 0 σ h1 rfl hW a1 b1 H
  · have go : ∀ (m i : Nat) (τ : Nat → Int32) (h1 : rHp), m + i = 61 → Wf B n τ → Mo n τ h1 → Sv h h1 → (∀ h', (∀ k, k < 10 + 5 * n → h' 36 k = h 36 k) → FrM h h' → f (fY n (fun τ => decide (nLy τ n = 0)) m i τ) h') →
        rR E (rCall E 39) mMo_empty (rPi SH f) 13 [some (pR 35), some (pI (nI i))] [] SH h1 0 0 := by
      intro m
      induction m with
      | zero =>
        intro i τ h1 hm hW hM hF H
        exact vMo_empty_13 (br_t (nI_lt (a := 60) (by omega) (by omega)) (m_back hF (fun h' a b => br_t (nI_lt (a := 60) (by omega) (by omega)) ⟨rfl, H h' (fun k hk => a k (by omega)) (FrM_of b)⟩)))
      | succ m ih =>
        intro i τ h1 hm hW hM hF H
        have hl : nLy τ n < 256 := Nat.lt_of_lt_of_le (nLy_lt τ n) (q2 hn)
        refine vMo_empty_13 (br_f (nI_nlt (a := 60) (by omega) (by omega)) (m_lying hW hM ?_))
        by_cases c : nLy τ n = 0
        · simp only [fY, decide_eq_true c, if_true] at H
          rw [c]
          exact o0 (m_back hF (fun h' a b => br_f (nI_nlt (a := 60) (by omega) (by omega)) ⟨rfl, H h' (fun k hk => a k (by omega)) (FrM_of b)⟩))
        · simp only [fY, decide_eq_false c, Bool.false_eq_true, if_false] at H
          refine br_f (nI_ne0 (by omega) (by omega)) (m_goesOn hW hM (fun h2 a2 b2 => ?_))
          rw [← nI_succ]
          exact ih (i + 1) _ h2 (by omega) (Wf_sGo hW) a2 (Sv_36 hF b2) H
    exact go 61 0 σ h1 rfl hW a1 b1 H
theorem op_praised (hB : B + 1 < 1000000) (a1 : Int32) : Op E B mLa_praised mMo_praised [pI a1] := by
  intro n σ hW
  have hn := hW.1.1
  rcases qr a1 0 99 (by omega) with ⟨v, _, hv, rfl⟩ | hb
  · refine op_no hB hW (fY n (fun τ => decide (nI v ≤ τ 4)) 61 0 σ) (fun h f hS H => vLa_praised (c_wi1 (m := 99) hv (by omega) (o1 (c_bec10 hn hS (fun h1 a1 b1 => ?_))))) (fun h f hM H => vMo_praised (m_in1 (lo := 0) (hi := 99) (by omega) hv (by omega) (o1 (m_save hn hM (fun h1 a1 b1 => ?_)))))
    · have go : ∀ (m i : Nat) (τ : Nat → Int32) (h1 : rHp), m + i = 61 → Wf B n τ → St 1 n τ h1 → Fr 1 h h1 → (∀ h', Fr 1 h h' → f (fY n (fun τ => decide (nI v ≤ τ 4)) m i τ) h') →
          rR E (rCall E 39) mLa_praised (rPi SH f) 24 [some (pR 0), some (pI (nI v)), some (pI (nI i))] [] SH h1 0 0 := by
        intro m
        induction m with
        | zero =>
          intro i τ h1 hm hW hS hF H
          exact vLa_praised_24 (br_t (nI_lt (a := 60) (by omega) (by omega)) ⟨rfl, H _ hF⟩)
        | succ m ih =>
          intro i τ h1 hm hW hS hF H
          refine vLa_praised_24 (br_f (nI_nlt (a := 60) (by omega) (by omega)) ?_)
          rw [S1_o hS]
          refine ⟨fun c => ?_, fun c => ?_⟩
          · simp only [fY, decide_eq_false (Int32.not_le.2 c), Bool.false_eq_true, if_false] at H
            refine c_passYear (t := 1) t1 hW hS (fun h2 a2 b2 => ?_)
            rw [← nI_succ]
            exact ih (i + 1) _ h2 (by omega) (Wf_sGo hW) a2 (Fr_tr hF b2) H
          · simp only [fY, decide_eq_true (Int32.not_lt.1 c), if_true] at H
            exact ⟨rfl, H _ hF⟩
      exact go 61 0 σ h1 rfl hW a1 b1 H
    · have go : ∀ (m i : Nat) (τ : Nat → Int32) (h1 : rHp), m + i = 61 → Wf B n τ → Mo n τ h1 → Sv h h1 → (∀ h', (∀ k, k < 10 + 5 * n → h' 36 k = h 36 k) → FrM h h' → f (fY n (fun τ => decide (nI v ≤ τ 4)) m i τ) h') →
          rR E (rCall E 39) mMo_praised (rPi SH f) 27 [some (pR 35), some (pI (nI v)), some (pI (nI i))] [] SH h1 0 0 := by
        intro m
        induction m with
        | zero =>
          intro i τ h1 hm hW hM hF H
          exact vMo_praised_27 (br_t (nI_lt (a := 60) (by omega) (by omega)) (m_back hF (fun h' a b => br_t (nI_lt (a := 60) (by omega) (by omega)) ⟨rfl, H h' (fun k hk => a k (by omega)) (FrM_of b)⟩)))
        | succ m ih =>
          intro i τ h1 hm hW hM hF H
          refine vMo_praised_27 (br_f (nI_nlt (a := 60) (by omega) (by omega)) ?_)
          rw [hM 4 (by omega)]
          refine ⟨fun c => ?_, fun c => ?_⟩
          · simp only [fY, decide_eq_true c, if_true] at H
            exact m_back hF (fun h' a b => br_f (nI_nlt (a := 60) (by omega) (by omega)) ⟨rfl, H h' (fun k hk => a k (by omega)) (FrM_of b)⟩)
          · simp only [fY, decide_eq_false c, Bool.false_eq_true, if_false] at H
            refine m_goesOn hW hM (fun h2 a2 b2 => ?_)
            rw [← nI_succ]
            exact ih (i + 1) _ h2 (by omega) (Wf_sGo hW) a2 (Sv_36 hF b2) H
      exact go 61 0 σ h1 rfl hW a1 b1 H
  · exact op_no hB hW (-1) (fun h f hS H => vLa_praised (c_wi0 (m := 99) hb (by omega) (o0 ⟨rfl, hN H⟩))) (fun h f hM H => vMo_praised (m_in0 (lo := 0) (hi := 99) hb (by omega) (by omega) (o0 ⟨rfl, mN H⟩)))
theorem op_luck (hB : B + 1 < 1000000) (a1 : Int32) : Op E B mLa_luck mMo_luck [pI a1] := by
  intro n σ hW
  have hn := hW.1.1
  rcases qr a1 1 30 (by omega) with ⟨k, hk1, hk, rfl⟩ | hb
  · refine op_no hB hW (nI (lkm n σ (sGs n 1 σ 4) k)) (fun h f hS H => vLa_luck (br_f (nI_nlt (b := 1) hk1 (by omega)) (br_t (nI_le (b := 30) hk (by omega)) (c_opB (k := 1) (by omega) hW hS (fun h1 b1 => ?_))))) (fun h f hM H => vMo_luck (m_in1 (lo := 1) (hi := 30) hk1 hk (by omega) (o1 (m_save hn hM (fun h1 a1 b1 => m_goesOn hW a1 (fun h2 a2 b2 => ?_))))))
    · rw [S0_z (S0_1 hS b1)]
      refine loopUp (P := fun i => ∀ h1, Fr 1 h h1 → rR E (rCall E 39) mLa_luck (rPi SH f) 33 [some (pR 0), some (pI (nI k)), some (pI (sGs n 1 σ 4)), some (pI (lkz n σ i)), some (pI (nI (lkm n σ (sGs n 1 σ 4) i))), some (pI (nI i))] [] SH h1 0 0) k ?_ ?_ h1 b1
      · intro i hi hP h1 b1
        refine vLa_luck_33 (br_f (nI_ge hi (by omega)) (c_bec10 hn (S0_1 hS b1) (fun h2 a2 b2 => c_passDrawnYear (t := 1) t1 (Wf_z hW) hB (U1_z a2) (fun h3 a3 b3 => ?_))))
        have hF := Fr_tr b1 (Fr_tr b2 (Fr_tr (FrU1 (by omega) (by omega)) b3))
        have hP := hP h3 hF
        rw [S1_o a3, S1_z a3]
        refine ⟨fun c => ?_, fun c => ?_⟩
        · simp only [lkz, lkm, if_pos c, nI_succ] at hP
          exact hP
        · simp only [lkz, lkm, if_neg c, nI_succ] at hP
          exact hP
      · intro h1 b1
        exact vLa_luck_33 (br_t (nI_le (Nat.le_refl k) (by omega)) ⟨rfl, H h1 b1⟩)
    · rw [a2 4 (by omega), show h2 38 2 = σ 2 from ((Sv_36 b1 b2).1 2 (by omega)).trans (hM 2 (by omega))]
      refine loopUp (P := fun i => ∀ h1, Sv h h1 → rR E (rCall E 39) mMo_luck (rPi SH f) 49 [some (pR 35), some (pI (nI k)), some (pI (sGs n 1 σ 4)), some (pI (lkz n σ i)), some (pI (nI (lkm n σ (sGs n 1 σ 4) i))), some (pI (nI i))] [] SH h1 0 0) k ?_ ?_ h2 (Sv_36 b1 b2)
      · intro i hi hP h1 b1
        refine vMo_luck_49 (br_f (nI_ge hi (by omega)) (m_copyRow (u := 2) (w := 0) (by omega) (by omega) (by omega) (fun h3 a3 b3 => ?_)))
        have hM3 : Mo n σ h3 := fun j hj => (a3 j (by omega)).trans ((b1.1 j (by omega)).trans (hM j hj))
        refine m_year (Wf_z hW) hB (Mo_up hM3) (fun h4 a4 b4 => ?_)
        have hv : Sv h h3 := ⟨fun j hj => (congrFun (b3 38 (by omega)) j).trans (b1.1 j hj), fun b e1 e2 => (b3 b e1).trans (b1.2 b e1 e2)⟩
        have hP := hP h4 (Sv_36 hv (F36_tr (F36_up F36_rf) b4))
        rw [a4 2 (by omega)]
        refine ⟨fun c => ?_, fun c => ?_⟩
        · simp only [lkz, lkm, if_pos c, nI_succ] at hP
          rw [Int32.add_zero]
          exact hP
        · simp only [lkz, lkm, if_neg c, nI_succ] at hP
          exact hP
      · intro h1 b1
        exact vMo_luck_49 (br_t (nI_le (Nat.le_refl k) (by omega)) (m_back b1 (fun h' a b => ⟨rfl, H h' (fun j hj => a j (by omega)) (FrM_of b)⟩)))
  · exact op_no hB hW (-1) (fun h f hS H => vLa_luck (bd_t (lo := 1) (hi := 30) hb (by omega) (by omega) ⟨rfl, hN H⟩)) (fun h f hM H => vMo_luck (m_in0 (lo := 1) (hi := 30) hb (by omega) (by omega) (o0 ⟨rfl, mN H⟩)))
end
