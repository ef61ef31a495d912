/-! what had best be done -/
theorem qB_g (g : Nat → Int32) (i : Nat) : (if (qB g i).2 ≤ g i then g i else (qB g i).2) = (qB g (i + 1)).2 := by
  by_cases c : g i ≤ (qB g i).2
  · simp only [qB, if_pos c]
    by_cases e : (qB g i).2 ≤ g i
    · rw [if_pos e]
      rw [Int32.le_iff_toInt_le] at c e
      exact Int32.toInt_inj.1 (by omega)
    · rw [if_neg e]
  · simp only [qB, if_neg c]
    have e : (qB g i).2 ≤ g i := Int32.not_lt.1 (fun q => c (Int32.not_lt.1 (fun r => by
      rw [Int32.lt_iff_toInt_lt] at q r
      omega)))
    rw [if_pos e]
/-- the row of a set taken away -/
def qAw (σ : Nat → Int32) (S : Nat) : Nat → (Nat → Int32)
  | 0 => σ
  | i + 1 => if (nI S >>> (nI i &&& 31)) &&& 1 = 1 then sW (qAw σ S i) (13 + 5 * i) 6 else qAw σ S i
theorem Wf_qAw {B n S : Nat} {σ : Nat → Int32} (hW : Wf B n σ) : ∀ i, Wf B n (qAw σ S i)
  | 0 => hW
  | i + 1 => by
    unfold qAw
    split
    · exact Wf_pt (p := 6) (Wf_qAw hW i) (by omega)
    · exact Wf_qAw hW i
def fewO : Option Nat → Nat
  | none => 9
  | some b => pc b
def ansO : Option Nat → Int32
  | none => -3
  | some b => nI b
def aW (L : Nat) (g : Nat → Int32) (v : Int32) : Nat → Option Nat
  | 0 => none
  | S + 1 => if (nI S &&& (nI L ^^^ (-1)) = 0 ∧ pc S < fewO (aW L g v S)) ∧ ¬ g S < v then some S else aW L g v S
theorem aW_b (L : Nat) (g : Nat → Int32) (v : Int32) : ∀ S, S ≤ 256 → fewO (aW L g v S) ≤ 9 ∧ ∀ b, aW L g v S = some b → b < 256
  | 0, _ => ⟨Nat.le_refl 9, fun b e => by cases e⟩
  | S + 1, hS => by
    have ih := aW_b L g v S (by omega)
    unfold aW
    split
    · have := pc_le S (by omega)
      exact ⟨by show pc S ≤ 9; omega, fun b e => by cases e; omega⟩
    · exact ih
theorem sub_le {S L : Nat} (hS : S < 256) (hL : L < 256) (h : nI S &&& (nI L ^^^ (-1)) = 0) : S ≤ L := by
  have h1 : (nI S &&& (nI L ^^^ (-1))).toBitVec = (0:Int32).toBitVec := congrArg Int32.toBitVec h
  have h2 : (nI S).toBitVec = (nI S).toBitVec &&& (nI L).toBitVec := by
    apply BitVec.eq_of_getLsbD_eq
    intro i hi
    have h3 := congrArg (fun x => x.getLsbD i) h1
    have e : (-1:Int32).toBitVec = BitVec.allOnes 32 := by decide
    simp only [Int32.toBitVec_and, Int32.toBitVec_xor, e, BitVec.getLsbD_and, BitVec.getLsbD_xor, BitVec.getLsbD_allOnes, hi, decide_true] at h3
    rw [show (0:Int32).toBitVec.getLsbD i = false from by simp] at h3
    rw [BitVec.getLsbD_and]
    revert h3
    cases (nI S).toBitVec.getLsbD i <;> cases (nI L).toBitVec.getLsbD i <;> decide
  have h4 := congrArg BitVec.toNat h2
  rw [BitVec.toNat_and, pk_tn (by omega), pk_tn (by omega)] at h4
  have := Nat.and_le_right (n := S) (m := L)
  omega
theorem aW_far {L : Nat} (hL : L < 256) (g : Nat → Int32) (v : Int32) : ∀ k, L + 1 + k ≤ 256 → aW L g v (L + 1 + k) = aW L g v (L + 1)
  | 0, _ => rfl
  | k + 1, hk => by
    rw [← aW_far hL g v k (by omega)]
    show (if (nI (L + 1 + k) &&& (nI L ^^^ (-1)) = 0 ∧ pc (L + 1 + k) < fewO (aW L g v (L + 1 + k))) ∧ ¬ g (L + 1 + k) < v then some (L + 1 + k) else aW L g v (L + 1 + k)) = aW L g v (L + 1 + k)
    rw [if_neg]
    intro q
    have := sub_le (S := L + 1 + k) (by omega) hL q.1.1
    omega
theorem shl8 : ∀ n, n ≤ 8 → (1:Int32) <<< (nI n &&& 31) = nI (2 ^ n) := by decide +kernel
section
variable {E : rE} {d B n : Nat} {σ : Nat → Int32} {h : rHp} {f : Int32 → rHp → Prop} {fn : rHp → Prop}
theorem c_best {B' k : Nat} {G : Nat → Nat → Int32} {ch th : Int32} (hk : k < 1000) (hn : n ≤ 8) (hS : St 0 n σ h) (hG : ∀ v, v < 6 → Wf B' n (G v)) (hC : ∀ v, v < 6 → ∀ (h1 : rHp) (fn : rHp → Prop), St 1 n σ h1 → (∀ h2, St 1 n (G v) h2 → Fr 1 h1 h2 → fn h2) → rCall E (d + 5) mLa_changeTried [pR 0, pI ch, pI th, pI (nI v)] SH h1 (rPn SH fn))
    (H : ∀ h', Fr 1 h h' → f (nI (qB (fun v => sGs n k (G v) 4) 6).1) h') : rCall E (d + 6) mLa_bestChange [pR 0, pI ch, pI th, pI (nI k)] SH h (rPi SH f) := by
  apply vLa_bestChange
  refine loopUp (P := fun i => ∀ h1, Fr 1 h h1 → rR E (rCall E (d + 5)) mLa_bestChange (rPi SH f) 9 [some (pR 0), some (pI ch), some (pI th), some (pI (nI k)), some (pI (nI (qB (fun v => sGs n k (G v) 4) i).1)), some (pI (qB (fun v => sGs n k (G v) 4) i).2), some (pI (nI i))] [] SH h1 0 0) 6 ?_ ?_ h Fr_refl
  · intro i hi hP h1 b1
    refine vLa_bestChange_9 (br_f (nI_ge (b := 6) hi (by omega)) (c_bec10 hn (S0_1 hS b1) (fun h2 a2 b2 => hC i hi h2 _ a2 (fun h3 a3 b3 => c_passYears (t := 1) hk t1 (hG i hi) a3 (fun h4 a4 b4 => ?_)))))
    have hP := hP h4 (Fr_tr b1 (Fr_tr b2 (Fr_tr b3 b4)))
    rw [S1_o a4]
    refine ⟨fun c => ?_, fun c => ?_⟩
    · simp only [qB, if_pos c, nI_succ] at hP
      exact hP
    · simp only [qB, if_neg c, nI_succ] at hP
      exact hP
  · intro h1 b1
    exact vLa_bestChange_9 (br_t (nI_le (a := 6) (b := 6) (by omega) (by omega)) ⟨rfl, H h1 b1⟩)
/-- the model's row, with one number altered for a while -/
def Al (a : Nat) (h h' : rHp) : Prop := (∃ x, ∀ k, k < 50 → h' 36 k = sW (h 36) a x k) ∧ F38 h h'
theorem Al_up {a : Nat} {x : Int32} {h h' : rHp} (q : Al a h h') : Al a h (rUp h' 36 a x) := by
  obtain ⟨⟨y, q1⟩, q2⟩ := q
  refine ⟨⟨x, fun k hk => ?_⟩, F38_tr q2 (F38_of (F36_up F36_rf))⟩
  rw [rUp_a]
  by_cases e : k = a
  · subst e; rw [sW_eq, sW_eq]
  · rw [sW_ne e, sW_ne e, q1 k hk, sW_ne e]
theorem Al_rf {a : Nat} {h : rHp} : Al a h h := ⟨⟨h 36 a, fun k _ => by rw [sW_id]⟩, fun _ _ _ => rfl⟩
theorem Al_Mo {a : Nat} {x : Int32} {h h' : rHp} (hn : n ≤ 8) (hM : Mo n σ h) (q : Al a h h') : Mo n (sW σ a x) (rUp h' 36 a x) := by
  obtain ⟨⟨y, q1⟩, q2⟩ := q
  intro k hk
  rw [rUp_a]
  by_cases e : k = a
  · subst e; rw [sW_eq, sW_eq]
  · rw [sW_ne e, sW_ne e, q1 k (by omega), sW_ne e]
    exact hM k hk
theorem Al_th {a : Nat} {h h' h2 : rHp} (q : Al a h h') (e : ∀ k, k < 50 → h2 36 k = h' 36 k) (g : F38 h' h2) : Al a h h2 := by
  obtain ⟨⟨y, q1⟩, q2⟩ := q
  exact ⟨⟨y, fun k hk => (e k hk).trans (q1 k hk)⟩, F38_tr q2 g⟩
theorem Al_end {a : Nat} {h h' : rHp} (q : Al a h h') : (∀ k, k < 50 → rUp h' 36 a (h 36 a) 36 k = h 36 k) ∧ F38 h (rUp h' 36 a (h 36 a)) := by
  obtain ⟨⟨y, q1⟩, q2⟩ := q
  refine ⟨fun k hk => ?_, F38_tr q2 (F38_of (F36_up F36_rf))⟩
  rw [rUp_a]
  by_cases e : k = a
  · subst e; rw [sW_eq]
  · rw [sW_ne e, q1 k hk, sW_ne e]
theorem m_mostBy {B' k a : Nat} (hk : k < 1000) (hn : n ≤ 8) (hM : Mo n σ h) (ha : a < 10 + 5 * n) (hG : ∀ v, v < 6 → Wf B' n (sW σ a (nI v)))
    (H : ∀ h', (∀ k, k < 50 → h' 36 k = h 36 k) → F38 h h' → f (nI (qB (fun v => sGs n k (sW σ a (nI v)) 4) 6).1) h') : rCall E (d + 7) mMo_mostBy [pR 35, pI (nI a), pI 5, pI (nI k)] SH h (rPi SH f) := by
  have va : vp_in (nI a) 50 := vp_in_nI (by omega) (by omega)
  have ca : (nI a).toNatClampNeg = a := nI_clamp (by omega)
  apply vMo_mostBy
  rw [ca]
  refine ⟨va, ?_⟩
  refine loopUp (P := fun i => ∀ h1 o8, Al a h h1 → rR E (rCall E (d + 6)) mMo_mostBy (rPi SH f) 17 [some (pR 35), some (pI (nI a)), some (pI 5), some (pI (nI k)), some (pI (h 36 a)), some (pI (nI (qB (fun v => sGs n k (sW σ a (nI v)) 4) i).1)), some (pI (qB (fun v => sGs n k (sW σ a (nI v)) 4) i).2), some (pI (nI i)), oI o8] [] SH h1 0 0) 6 ?_ ?_ h none Al_rf
  · intro i hi hP h1 o8 b1
    refine vMo_mostBy_17 (br_f (nI_nlt (a := 5) (by omega) (by omega)) ⟨va, ?_⟩)
    rw [ca]
    refine m_thought hk (hG i hi) (Al_Mo hn hM b1) (fun h2 a2 b2 => ?_)
    have hP := hP h2 (some (sGs n k (sW σ a (nI i)) 4)) (Al_th (Al_up b1) a2 b2)
    rw [← qB_g] at hP
    refine ⟨fun c => m_greatest ?_, fun c => m_greatest ?_⟩
    · simp only [qB, if_pos c, nI_succ] at hP
      exact hP
    · simp only [qB, if_neg c, nI_succ] at hP
      exact hP
  · intro h1 o8 b1
    refine vMo_mostBy_17 (br_t (nI_lt (a := 5) (b := 6) (by omega) (by omega)) ⟨va, ?_⟩)
    rw [ca]
    obtain ⟨e1, e2⟩ := Al_end b1
    exact ⟨rfl, H _ e1 e2⟩
theorem op_beginFor (hB : B + 1 < 1000000) (a1 : Int32) : Op E B mLa_beginFor mMo_beginFor [pI a1] := by
  intro n σ hW
  have hn := hW.1.1
  rcases qr a1 1 20 (by omega) with ⟨k, hk1, hk, rfl⟩ | hb
  · refine op_no hB hW (nI (qB (fun v => sGs n k (sW σ 3 (nI v)) 4) 6).1) (fun h f hS H => vLa_beginFor (c_near1 hk1 hk (o1 (c_best (B' := B) (G := fun v => sW σ 3 (nI v)) (by omega) hn hS (fun v hv => Wf_at hW hv) (fun v hv h1 fn a1 H1 => ?_) (fun h' a => ⟨rfl, H h' a⟩))))) (fun h f hM H => vMo_beginFor (m_short1 hk1 hk (o1 (m_mostBy (a := 3) (B' := B) (by omega) hn hM (by omega) (fun v hv => Wf_at hW hv) (fun h' a b => ⟨rfl, H h' (fun j hj => a j (by omega)) (FrM_of b)⟩)))))
    exact vLa_changeTried (br_f (by decide) (br_f (by decide) ⟨rfl, H1 _ (U1_a a1) (FrU1 (by omega) (by omega))⟩))
  · exact op_no hB hW (-1) (fun h f hS H => vLa_beginFor (c_near0 hb (o0 ⟨rfl, hN H⟩))) (fun h f hM H => vMo_beginFor (m_short0 hb (o0 ⟨rfl, mN H⟩)))
theorem op_kindFor (hB : B + 1 < 1000000) (a1 a2 : Int32) : Op E B mLa_kindFor mMo_kindFor [pI a1, pI a2] := by
  intro n σ hW
  have hn := hW.1.1
  rcases qa a1 n (by omega) with ⟨o, ho, rfl⟩ | hb
  · have vo : vp_in (nI o) 8 := vp_in_nI (by omega) (by omega)
    have co : (nI o).toNatClampNeg = o := nI_clamp (by omega)
    rcases qr a2 1 20 (by omega) with ⟨k, hk1, hk, rfl⟩ | hb
    · by_cases h6 : σ (13 + 5 * o) = 6
      · refine op_no hB hW (-3) (fun h f hS H => vLa_kindFor (c_has1 (t := 0) t0 hW hS ho (o1 (c_near1 hk1 hk (o1 (c_lies (t := 0) t0 hW hS ho ?_)))))) (fun h f hM H => vMo_kindFor (m_one1 hW hM ho (o1 (m_short1 hk1 hk (o1 (m_it3 hM hn ho (br_t h6 ⟨rfl, mN H⟩)))))))
        rw [if_pos h6]
        exact o0 ⟨rfl, hN H⟩
      · refine op_no hB hW (nI (qB (fun v => sGs n k (sW σ (10 + 5 * o) (nI v)) 4) 6).1) (fun h f hS H => vLa_kindFor (c_has1 (t := 0) t0 hW hS ho (o1 (c_near1 hk1 hk (o1 (c_lies (t := 0) t0 hW hS ho ?_)))))) (fun h f hM H => vMo_kindFor (m_one1 hW hM ho (o1 (m_short1 hk1 hk (o1 (m_it3 hM hn ho (br_f h6 ?_)))))))
        · rw [if_neg h6]
          refine o1 (c_best (B' := B) (G := fun v => sW σ (10 + 5 * o) (nI v)) (by omega) hn hS (fun v hv => Wf_kd hW hv) (fun v hv h1 fn a1 H1 => ?_) (fun h' a => ⟨rfl, H h' a⟩))
          refine vLa_changeTried (br_f (by decide) (br_t rfl ⟨vo, rfl, ?_⟩))
          rw [co]
          exact H1 _ (U1_k a1) (FrU1 (by omega) (by omega))
        · rw [ix0]
          exact m_mostBy (B' := B) (by omega) hn hM (by omega) (fun v hv => Wf_kd hW hv) (fun h' a b => ⟨rfl, H h' (fun j hj => a j (by omega)) (FrM_of b)⟩)
    · exact op_no hB hW (-1) (fun h f hS H => vLa_kindFor (c_has1 (t := 0) t0 hW hS ho (o1 (c_near0 hb (o0 ⟨rfl, hN H⟩))))) (fun h f hM H => vMo_kindFor (m_one1 hW hM ho (o1 (m_short0 hb (o0 ⟨rfl, mN H⟩)))))
  · exact op_no hB hW (-1) (fun h f hS H => vLa_kindFor (c_has0 (t := 0) t0 hW hS hb (o0 ⟨rfl, hN H⟩))) (fun h f hM H => vMo_kindFor (m_one0 hW hM hb (o0 ⟨rfl, mN H⟩)))
theorem op_pitFor (hB : B + 1 < 1000000) (a1 a2 : Int32) : Op E B mLa_pitFor mMo_pitFor [pI a1, pI a2] := by
  intro n σ hW
  have hn := hW.1.1
  rcases qa a1 n (by omega) with ⟨o, ho, rfl⟩ | hb
  · rcases qr a2 1 20 (by omega) with ⟨k, hk1, hk, rfl⟩ | hb
    · by_cases h6 : σ (13 + 5 * o) = 6
      · refine op_no hB hW (-3) (fun h f hS H => vLa_pitFor (c_has1 (t := 0) t0 hW hS ho (o1 (c_near1 hk1 hk (o1 (c_lies (t := 0) t0 hW hS ho ?_)))))) (fun h f hM H => vMo_pitFor (m_one1 hW hM ho (o1 (m_short1 hk1 hk (o1 (m_it3 hM hn ho (br_t h6 ⟨rfl, mN H⟩)))))))
        rw [if_pos h6]
        exact o0 ⟨rfl, hN H⟩
      · refine op_no hB hW (nI (qB (fun v => sGs n k (sLay σ o (nI v)) 4) 6).1) (fun h f hS H => vLa_pitFor (c_has1 (t := 0) t0 hW hS ho (o1 (c_near1 hk1 hk (o1 (c_lies (t := 0) t0 hW hS ho ?_)))))) (fun h f hM H => vMo_pitFor (m_one1 hW hM ho (o1 (m_short1 hk1 hk (o1 (m_it3 hM hn ho (br_f h6 (m_copyRow (u := 0) (w := 4) (by omega) (by omega) (by omega) (fun h1 a1 b1 => ?_)))))))))
        · rw [if_neg h6]
          refine o1 (c_best (B' := B + 1) (G := fun v => sLay σ o (nI v)) (by omega) hn hS (fun v hv => Wf_sLay hW hB (by omega)) (fun v hv h1 fn a1 H1 => ?_) (fun h' a => ⟨rfl, H h' a⟩))
          exact vLa_changeTried (br_t rfl (c_layIn (t := 1) t1 hn a1 ho (fun h2 a2 b2 => ⟨rfl, H1 h2 a2 b2⟩)))
        · refine loopUp (P := fun i => ∀ h1 o6, (∀ k, k < 50 → h1 36 k = h 36 k) → (∀ k, k < 50 → h1 40 k = h 36 k) → FrM h h1 → rR E (rCall E 39) mMo_pitFor (rPi SH f) 50 [some (pR 35), some (pI (nI o)), some (pI (nI k)), some (pI (nI (qB (fun v => sGs n k (sLay σ o (nI v)) 4) i).1)), some (pI (qB (fun v => sGs n k (sLay σ o (nI v)) 4) i).2), some (pI (nI i)), oI o6] [] SH h1 0 0) 6 ?_ ?_ h1 none (fun j hj => by rw [b1 36 (by omega)]) a1 (fun b _ _ _ e => b1 b e)
          · intro i hi hP h1 o6 e1 e2 b1
            refine vMo_pitFor_50 (br_f (nI_ge (b := 6) hi (by omega)) (m_lies hn (Mo_as hM hn e1) ho (fun h2 a2 b2 => m_thought (by omega) (Wf_sLay hW hB (by omega)) a2 (fun h3 a3 b3 => m_copyRow (u := 4) (w := 0) (by omega) (by omega) (by omega) (fun h4 a4 b4 => ?_)))))
            have e5 : ∀ j, j < 50 → h3 40 j = h 36 j := fun j hj => (congrFun (b3 40 (by omega) (by omega)) j).trans ((congrFun (b2 40 (by omega)) j).trans (e2 j hj))
            have hP := hP h4 (some (sGs n k (sLay σ o (nI i)) 4)) (fun j hj => (a4 j hj).trans (e5 j hj)) (fun j hj => (congrFun (b4 40 (by omega)) j).trans (e5 j hj)) (FrM_tr b1 (FrM_tr (FrM_o6 b2) (FrM_tr (FrM_of b3) (FrM_o6 b4))))
            rw [← qB_g] at hP
            refine ⟨fun c => m_greatest ?_, fun c => m_greatest ?_⟩
            · simp only [qB, if_pos c, nI_succ] at hP
              exact hP
            · simp only [qB, if_neg c, nI_succ] at hP
              exact hP
          · intro h1 o6 e1 e2 b1
            exact vMo_pitFor_50 (br_t (nI_le (a := 6) (b := 6) (by omega) (by omega)) ⟨rfl, H h1 (fun j hj => e1 j (by omega)) b1⟩)
    · exact op_no hB hW (-1) (fun h f hS H => vLa_pitFor (c_has1 (t := 0) t0 hW hS ho (o1 (c_near0 hb (o0 ⟨rfl, hN H⟩))))) (fun h f hM H => vMo_pitFor (m_one1 hW hM ho (o1 (m_short0 hb (o0 ⟨rfl, mN H⟩)))))
  · exact op_no hB hW (-1) (fun h f hS H => vLa_pitFor (c_has0 (t := 0) t0 hW hS hb (o0 ⟨rfl, hN H⟩))) (fun h f hM H => vMo_pitFor (m_one0 hW hM hb (o0 ⟨rfl, mN H⟩)))
theorem op_worthFor (hB : B + 1 < 1000000) (a1 a2 a3 : Int32) : Op E B mLa_worthFor mMo_worthFor [pI a1, pI a2, pI a3] := by
  intro n σ hW
  have hn := hW.1.1
  rcases qa a1 n (by omega) with ⟨o, ho, rfl⟩ | hb
  · have vo : vp_in (nI o) 8 := vp_in_nI (by omega) (by omega)
    have co : (nI o).toNatClampNeg = o := nI_clamp (by omega)
    rcases qr a2 1 20 (by omega) with ⟨k, hk1, hk, rfl⟩ | hb
    · rcases qr a3 0 99 (by omega) with ⟨v, _, hv, rfl⟩ | hb
      · have va : vp_in (nI (11 + 5 * o)) 50 := vp_in_nI (by omega) (by omega)
        have ca : (nI (11 + 5 * o)).toNatClampNeg = 11 + 5 * o := nI_clamp (by omega)
        by_cases h6 : σ (13 + 5 * o) = 6
        · refine op_no hB hW (-3) (fun h f hS H => vLa_worthFor (c_has1 (t := 0) t0 hW hS ho (o1 (c_near1 hk1 hk (o1 (c_wi1 (m := 99) hv (by omega) (o1 (c_lies (t := 0) t0 hW hS ho ?_)))))))) (fun h f hM H => vMo_worthFor (m_one1 hW hM ho (o1 (m_short1 hk1 hk (o1 (m_in1 (lo := 0) (hi := 99) (by omega) hv (by omega) (o1 ?_)))))))
          · rw [if_pos h6]
            exact o0 ⟨rfl, hN H⟩
          · rw [ix1, ca]
            refine ⟨va, vMo_worthFor_55 (br_f (by decide) (br_f (by decide) (m_it3 hM hn ho (br_t h6 ⟨va, rfl, ?_⟩))))⟩
            rw [ca]
            obtain ⟨e1, e2⟩ := Al_end (Al_rf (a := 11 + 5 * o) (h := h))
            exact H _ (fun j hj => e1 j (by omega)) (FrM_of e2)
        · refine op_no hB hW (fW (fun w => sGs n k (sW σ (11 + 5 * o) (nI w)) 4) (nI v) 100 0) (fun h f hS H => vLa_worthFor (c_has1 (t := 0) t0 hW hS ho (o1 (c_near1 hk1 hk (o1 (c_wi1 (m := 99) hv (by omega) (o1 (c_lies (t := 0) t0 hW hS ho ?_)))))))) (fun h f hM H => vMo_worthFor (m_one1 hW hM ho (o1 (m_short1 hk1 hk (o1 (m_in1 (lo := 0) (hi := 99) (by omega) hv (by omega) (o1 ?_)))))))
          · rw [if_neg h6]
            have go : ∀ (m w : Nat) (h1 : rHp), m + w = 100 → Fr 1 h h1 → (∀ h', Fr 1 h h' → f (fW (fun w => sGs n k (sW σ (11 + 5 * o) (nI w)) 4) (nI v) m w) h') →
                rR E (rCall E 39) mLa_worthFor (rPi SH f) 46 [some (pR 0), some (pI (nI o)), some (pI (nI k)), some (pI (nI v)), some (pI (nI w))] [] SH h1 0 0 := by
              intro m
              induction m with
              | zero =>
                intro w h1 hm hF H
                exact vLa_worthFor_46 (br_t (nI_lt (a := 99) (by omega) (by omega)) ⟨rfl, H _ hF⟩)
              | succ m ih =>
                intro w h1 hm hF H
                refine vLa_worthFor_46 (br_f (nI_nlt (a := 99) (by omega) (by omega)) (c_bec10 hn (S0_1 hS hF) (fun h2 a2 b2 => ⟨vo, ?_⟩)))
                rw [co]
                refine c_passYears (t := 1) (by omega) t1 (Wf_fr hW (by omega)) (U1_w a2) (fun h3 a3 b3 => ?_)
                have hF2 := Fr_tr hF (Fr_tr b2 (Fr_tr (FrU1 (by omega) (by omega)) b3))
                rw [S1_o a3]
                refine ⟨fun c => ?_, fun c => ⟨rfl, ?_⟩⟩
                · simp only [fW, if_pos c] at H
                  rw [← nI_succ]
                  exact ih (w + 1) h3 (by omega) hF2 H
                · simp only [fW, if_neg c] at H
                  exact H _ hF2
            exact o1 (go 100 0 h rfl Fr_refl H)
          · rw [ix1, ca]
            refine ⟨va, ?_⟩
            have go : ∀ (m w : Nat) (h1 : rHp), m + w = 100 → Al (11 + 5 * o) h h1 → (∀ h', (∀ k, k < 10 + 5 * n → h' 36 k = h 36 k) → FrM h h' → f (fW (fun w => sGs n k (sW σ (11 + 5 * o) (nI w)) 4) (nI v) m w) h') →
                rR E (rCall E 39) mMo_worthFor (rPi SH f) 55 [some (pR 35), some (pI (nI o)), some (pI (nI k)), some (pI (nI v)), some (pI (nI (11 + 5 * o))), some (pI (h 36 (11 + 5 * o))), some (pI (-3)), some (pI (nI w))] [] SH h1 0 0 := by
              intro m
              induction m with
              | zero =>
                intro w h1 hm hF H
                refine vMo_worthFor_55 (br_t (nI_lt (a := 99) (by omega) (by omega)) ⟨va, rfl, ?_⟩)
                rw [ca]
                obtain ⟨e1, e2⟩ := Al_end hF
                exact H _ (fun j hj => e1 j (by omega)) (FrM_of e2)
              | succ m ih =>
                intro w h1 hm hF H
                have h6' : ¬ h1 36 (13 + 5 * o) = 6 := by
                  obtain ⟨⟨y, q1⟩, _⟩ := hF
                  rw [q1 _ (by omega), sW_ne (by omega), hM _ (by omega)]
                  exact h6
                refine vMo_worthFor_55 (br_f (nI_nlt (a := 99) (by omega) (by omega)) (br_f (by decide) (m_it3 (σ := h1 36) (n := n) AG_rf hn ho (br_f h6' ⟨va, ?_⟩))))
                rw [ca]
                refine m_thought (by omega) (Wf_fr hW (by omega)) (Al_Mo hn hM hF) (fun h2 a2 b2 => ?_)
                have hF2 := Al_th (Al_up hF) a2 b2
                refine ⟨fun c => ?_, fun c => ?_⟩
                · simp only [fW, if_pos c] at H
                  rw [← nI_succ]
                  exact ih (w + 1) h2 (by omega) hF2 H
                · simp only [fW, if_neg c] at H
                  obtain ⟨e1, e2⟩ := Al_end hF2
                  rw [← nI_succ]
                  refine vMo_worthFor_55 ⟨fun _ => ⟨va, rfl, ?_⟩, fun _ => br_t (nI_le (a := 0) (by omega) (by omega)) ⟨va, rfl, ?_⟩⟩
                  · rw [ca]
                    exact H _ (fun j hj => e1 j (by omega)) (FrM_of e2)
                  · rw [ca]
                    exact H _ (fun j hj => e1 j (by omega)) (FrM_of e2)
            exact go 100 0 h rfl Al_rf H
      · exact op_no hB hW (-1) (fun h f hS H => vLa_worthFor (c_has1 (t := 0) t0 hW hS ho (o1 (c_near1 hk1 hk (o1 (c_wi0 (m := 99) hb (by omega) (o0 ⟨rfl, hN H⟩))))))) (fun h f hM H => vMo_worthFor (m_one1 hW hM ho (o1 (m_short1 hk1 hk (o1 (m_in0 (lo := 0) (hi := 99) hb (by omega) (by omega) (o0 ⟨rfl, mN H⟩)))))))
    · exact op_no hB hW (-1) (fun h f hS H => vLa_worthFor (c_has1 (t := 0) t0 hW hS ho (o1 (c_near0 hb (o0 ⟨rfl, hN H⟩))))) (fun h f hM H => vMo_worthFor (m_one1 hW hM ho (o1 (m_short0 hb (o0 ⟨rfl, mN H⟩)))))
  · exact op_no hB hW (-1) (fun h f hS H => vLa_worthFor (c_has0 (t := 0) t0 hW hS hb (o0 ⟨rfl, hN H⟩))) (fun h f hM H => vMo_worthFor (m_one0 hW hM hb (o0 ⟨rfl, mN H⟩)))
end
