/-! rows of years, and what fits a sheet -/
theorem two_no {E : rE} {B : Nat} {h : rHp} {Mc Mm : rM} {as : List rPV} (hB : B + 1 < 1000000) (hR : Rel B h) (a : Int32)
    (hc : ∀ f : Int32 → rHp → Prop, (∀ h', Fr 1 h h' → f a h') → rCall E 40 Mc (pR 0 :: as) SH h (rPi SH f))
    (hm : ∀ (h1 : rHp) (f : Int32 → rHp → Prop), (∀ b, 15 ≤ b → h1 b = h b) → (∀ h', (∀ k, k < 50 → h' 36 k = h1 36 k) → FrM h1 h' → f a h') → rCall E 40 Mm (pR 35 :: as) SH h1 (rPi SH f)) : Two E B h Mc Mm as := by
  obtain ⟨⟨n, σ, hW, hS, hM⟩, hr⟩ := hR
  refine hc _ (fun h1 f1 => hm h1 _ (fun b hb => f1 b (by omega)) (fun h2 e2 f2 => ⟨rfl, ⟨n, σ, Wf_le hW (by omega) hB, ?_, ?_⟩, ?_⟩))
  · exact St_far (S0_1 hS f1) (fun b c d => f2 b (by omega) (by omega) (by omega) (by omega))
  · exact Mo_as (Mo_far hM (f1 36 (by omega))) hW.1.1 e2
  · exact Rest_far hB hr (fun b hb => (f2 b (by omega) (by omega) (by omega) (by omega)).trans (f1 b (by omega)))
theorem hN0 {h : rHp} {f : Int32 → rHp → Prop} {a : Int32} (H : ∀ h', Fr 1 h h' → f a h') : f a h := H h Fr_refl
theorem mN0 {h : rHp} {f : Int32 → rHp → Prop} {a : Int32} (H : ∀ h', (∀ k, k < 50 → h' 36 k = h 36 k) → FrM h h' → f a h') : f a h := H h (fun _ _ => rfl) FrM_rf
theorem mB0 {h h' : rHp} {f : Int32 → rHp → Prop} {a : Int32} (H : ∀ h', (∀ k, k < 50 → h' 36 k = h 36 k) → FrM h h' → f a h') (e : ∀ k, k < 50 → h' 36 k = h 36 k) (g : F38 h h') : f a h' := H h' e (FrM_of g)
theorem jx3 (r w : Nat) : nI r * (3:Int32) + nI w = nI (3 * r + w) := by
  rw [show (3:Int32) = nI 3 from rfl, pk_mul, nI_add, Nat.mul_comm]
theorem kx3 (r w : Nat) : (3:Int32) * nI r + nI w = nI (3 * r + w) := by
  rw [show (3:Int32) = nI 3 from rfl, pk_mul, nI_add]
theorem kx30 (r : Nat) : (3:Int32) * nI r = nI (3 * r) := by
  rw [show (3:Int32) = nI 3 from rfl, pk_mul]
theorem kx31 (r : Nat) : (3:Int32) * nI r + (1:Int32) = nI (3 * r + 1) := kx3 r 1
theorem kx32 (r : Nat) : (3:Int32) * nI r + (2:Int32) = nI (3 * r + 2) := kx3 r 2
theorem jx40 (r w : Nat) : nI r * (40:Int32) + nI w = nI (40 * r + w) := by
  rw [show (40:Int32) = nI 40 from rfl, pk_mul, nI_add, Nat.mul_comm]
theorem kx40 (r w : Nat) : (40:Int32) * nI r + nI w = nI (40 * r + w) := by
  rw [show (40:Int32) = nI 40 from rfl, pk_mul, nI_add]
theorem sGs_s (n : Nat) : ∀ (k : Nat) (σ : Nat → Int32), sGs n (k + 1) σ = sGo n (sGs n k σ)
  | 0, _ => rfl
  | k + 1, σ => by
    show sGs n (k + 1) (sGo n σ) = _
    rw [sGs_s n k (sGo n σ)]
    rfl
/-- a row of years -/
def prR (n o : Nat) (σ : Nat → Int32) (j : Nat) : Int32 :=
  if j % 3 = 0 then (if sGs n (j / 3 + 1) σ (13 + 5 * o) = 6 then 0 else 1) else if j % 3 = 1 then sGs n (j / 3 + 1) σ 4 else sGs n (j / 3 + 1) σ 3
def lyI (o : Nat) (τ : Nat → Int32) : Int32 := if τ (13 + 5 * o) = 6 then 0 else 1
def jdg (n o : Nat) (T : Nat → Int32) : Nat → Nat → (Nat → Int32) → Int32
  | 0, _, _ => 0
  | m + 1, i, σ => if T (3 * i) = lyI o (sGo n σ) ∧ T (3 * i + 1) = sGo n σ 4 ∧ T (3 * i + 2) = sGo n σ 3 then jdg n o T m (i + 1) (sGo n σ) else nI (i + 1)
def tld (n : Nat) (T : Nat → Int32) : Nat → Nat → (Nat → Int32) → Bool
  | 0, _, _ => true
  | m + 1, i, σ => if T i = -1 ∨ T i = sGo n σ 4 then tld n T m (i + 1) (sGo n σ) else false
def ftM (g : Nat → Bool) : Nat → Nat × Int32
  | 0 => (0, -3)
  | i + 1 => if g (99 - i) = true then ((ftM g i).1 + 1, nI (99 - i)) else ftM g i
section
variable {E : rE} {d B n : Nat} {σ : Nat → Int32} {h : rHp} {f : Int32 → rHp → Prop} {fn : rHp → Prop}
theorem m_inR1 {o r : Nat} (h1 : o < r) (hr : r < 2 ^ 30) (H : f 1 h) : rCall E (d + 1) mMo_isIn [pL (nI o).toInt64, pL (0:Int64), pL (nI r - 1).toInt64] SH h (rPi SH f) := by
  have e := pk_sub_toInt (a := r) (b := 1) hr (by omega)
  rw [show nI r - 1 = nI (r - 1) from pk_sub (a := r) (b := 1) (by omega), nI_l (n := r - 1) (by omega)]
  exact m_in1 (lo := 0) (hi := r - 1) (by omega) (by omega) (by omega) H
theorem m_inR0 {a : Int32} {r : Nat} (ha : a < 0 ∨ (¬ a < 0 ∧ nI r ≤ a)) (hr : r < 2 ^ 30) (H : f 0 h) : rCall E (d + 1) mMo_isIn [pL a.toInt64, pL (0:Int64), pL (nI r - 1).toInt64] SH h (rPi SH f) := by
  have e : (nI r - 1).toInt = (r : Int) - 1 := pk_sub_toInt (a := r) (b := 1) hr (by omega)
  refine vMo_isIn ⟨fun _ => ⟨rfl, H⟩, fun e1 => ⟨fun _ => ⟨rfl, H⟩, fun e2 => ?_⟩⟩
  exfalso
  rw [lg_cmp_lt, Int64.lt_iff_toInt_lt, Int32.toInt_toInt64, show (0:Int64).toInt = 0 by decide] at e1
  rw [lg_cmp_gt, Int64.lt_iff_toInt_lt, Int32.toInt_toInt64, Int32.toInt_toInt64, e] at e2
  rw [Int32.lt_iff_toInt_lt, Int32.le_iff_toInt_le, i0, nI_toInt (by omega)] at ha
  omega
theorem m_sheet1 {o : Nat} (h2 : o ≤ 3) (H : f 1 h) : rCall E (d + 2) mMo_isSheet [pI (nI o)] SH h (rPi SH f) :=
  vMo_isSheet (m_in1 (lo := 0) (hi := 3) (by omega) h2 (by omega) ⟨Or.inr rfl, rfl, H⟩)
theorem m_sheet0 {a : Int32} (hb : Bd a 0 3) (H : f 0 h) : rCall E (d + 2) mMo_isSheet [pI a] SH h (rPi SH f) :=
  vMo_isSheet (m_in0 (lo := 0) (hi := 3) hb (by omega) (by omega) ⟨Or.inl rfl, rfl, H⟩)
theorem m_shelf1 {o : Nat} (h2 : o ≤ 3) (H : f 1 h) : rCall E (d + 2) mMo_isShelf [pI (nI o)] SH h (rPi SH f) :=
  vMo_isShelf (m_in1 (lo := 0) (hi := 3) (by omega) h2 (by omega) ⟨Or.inr rfl, rfl, H⟩)
theorem m_shelf0 {a : Int32} (hb : Bd a 0 3) (H : f 0 h) : rCall E (d + 2) mMo_isShelf [pI a] SH h (rPi SH f) :=
  vMo_isShelf (m_in0 (lo := 0) (hi := 3) hb (by omega) (by omega) ⟨Or.inl rfl, rfl, H⟩)
theorem c_row1 {i w r : Nat} (hr : h 0 8 = nI r) (hr2 : r ≤ 10) (hi : i < r) (hw : w ≤ 2) (H : f 1 h) : rCall E (d + 2) mLa_hasRow [pR 0, pI (nI i), pI (nI w)] SH h (rPi SH f) :=
  vLa_hasRow (br_f (nI_pos (by omega)) (br_f (by rw [hr]; exact nI_ge hi (by omega)) (c_wi1 (m := 2) hw (by omega) (o1 ⟨rfl, H⟩))))
theorem c_row0 {a : Int32} {a2 : Int32} {r : Nat} (hr : h 0 8 = nI r) (ha : a < 0 ∨ (¬ a < 0 ∧ nI r ≤ a)) (H : f 0 h) : rCall E (d + 2) mLa_hasRow [pR 0, pI a, pI a2] SH h (rPi SH f) :=
  vLa_hasRow ⟨fun _ => ⟨rfl, H⟩, fun e => br_t (by rw [hr]; rcases ha with q | q; exact absurd q e; exact q.2) ⟨rfl, H⟩⟩
theorem c_row2 {i r : Nat} {a2 : Int32} (hr : h 0 8 = nI r) (hr2 : r ≤ 10) (hi : i < r) (hb : Bd a2 0 2) (H : f 0 h) : rCall E (d + 2) mLa_hasRow [pR 0, pI (nI i), pI a2] SH h (rPi SH f) :=
  vLa_hasRow (br_f (nI_pos (by omega)) (br_f (by rw [hr]; exact nI_ge hi (by omega)) (c_wi0 (m := 2) hb (by omega) (o0 ⟨rfl, H⟩))))
theorem m_row1 {i w r : Nat} (hr : h 35 14 = nI r) (hr2 : r ≤ 10) (hi : i < r) (hw : w ≤ 2) (H : f 1 h) : rCall E (d + 2) mMo_isRow [pR 35, pI (nI i), pI (nI w)] SH h (rPi SH f) := by
  apply vMo_isRow
  rw [hr]
  exact m_inR1 hi (by omega) (o1 (m_in1 (lo := 0) (hi := 2) (by omega) hw (by omega) (o1 ⟨rfl, H⟩)))
theorem m_row0 {a : Int32} {a2 : Int32} {r : Nat} (hr : h 35 14 = nI r) (hr2 : r ≤ 10) (ha : a < 0 ∨ (¬ a < 0 ∧ nI r ≤ a)) (H : f 0 h) : rCall E (d + 2) mMo_isRow [pR 35, pI a, pI a2] SH h (rPi SH f) := by
  apply vMo_isRow
  rw [hr]
  exact m_inR0 ha (by omega) (o0 ⟨rfl, H⟩)
theorem m_row2 {i r : Nat} {a2 : Int32} (hr : h 35 14 = nI r) (hr2 : r ≤ 10) (hi : i < r) (hb : Bd a2 0 2) (H : f 0 h) : rCall E (d + 2) mMo_isRow [pR 35, pI (nI i), pI a2] SH h (rPi SH f) := by
  apply vMo_isRow
  rw [hr]
  exact m_inR1 hi (by omega) (o1 (m_in0 (lo := 0) (hi := 2) hb (by omega) (by omega) (o0 ⟨rfl, H⟩)))
theorem two_row (hB : B + 1 < 1000000) (hR : Rel B h) (a1 a2 : Int32) : Two E B h mLa_row mMo_row [pI a1, pI a2] := by
  obtain ⟨r, hr, e1, e2, e3⟩ := hR.2.2.2.1
  rcases qa a1 r (by omega) with ⟨i, hi, rfl⟩ | hb
  · rcases qr a2 0 2 (by omega) with ⟨w, _, hw, rfl⟩ | hb
    · refine two_no hB hR (h 34 (3 * i + w)) (fun f H => vLa_row (c_row1 e1 hr hi hw (o1 ?_))) (fun h1 f e H => vMo_row (m_row1 ((congrFun (e 35 (by omega)) 14).trans e2) hr hi hw (o1 ?_)))
      · rw [jx3, nI_clamp (by omega)]
        exact ⟨vp_in_nI (by omega) (by omega), rfl, hN0 H⟩
      · rw [kx3, nI_clamp (by omega), e 42 (by omega), ← e3 _ (by omega)]
        exact ⟨vp_in_nI (by omega) (by omega), rfl, mN0 H⟩
    · exact two_no hB hR (-9) (fun f H => vLa_row (c_row2 e1 hr hi hb (o0 ⟨rfl, hN0 H⟩))) (fun h1 f e H => vMo_row (m_row2 ((congrFun (e 35 (by omega)) 14).trans e2) hr hi hb (o0 ⟨rfl, mN0 H⟩)))
  · exact two_no hB hR (-9) (fun f H => vLa_row (c_row0 e1 hb (o0 ⟨rfl, hN0 H⟩))) (fun h1 f e H => vMo_row (m_row0 ((congrFun (e 35 (by omega)) 14).trans e2) hr hb (o0 ⟨rfl, mN0 H⟩)))
theorem two_alterRow (hB : B + 1 < 1000000) (hR : Rel B h) (a1 a2 a3 : Int32) : Two E B h mLa_alterRow mMo_alterRow [pI a1, pI a2, pI a3] := by
  obtain ⟨r, hr, e1, e2, e3⟩ := hR.2.2.2.1
  rcases qa a1 r (by omega) with ⟨i, hi, rfl⟩ | hb
  · rcases qr a2 0 2 (by omega) with ⟨w, _, hw, rfl⟩ | hb
    · refine vLa_alterRow (c_row1 e1 hr hi hw (o1 ?_))
      rw [jx3, nI_clamp (by omega)]
      refine ⟨vp_in_nI (by omega) (by omega), vp_in_nI (by omega) (by omega), rfl, vMo_alterRow (m_row1 (r := r) ?_ hr hi hw (o1 ?_))⟩
      · rw [rUp_o (by omega)]; exact e2
      · rw [kx3, nI_clamp (by omega), rUp_o (show (42:Nat) ≠ 34 by omega), ← e3 _ (by omega)]
        refine ⟨vp_in_nI (by omega) (by omega), vp_in_nI (by omega) (by omega), rfl, rfl, ?_⟩
        obtain ⟨⟨n, σ, hW, hS, hM⟩, h1, h2, h3, h4, h5, h6⟩ := hR
        have q : ∀ b, b ≠ 34 → b ≠ 42 → rUp (rUp h 34 (3 * i + w) a3) 42 (3 * i + w) a3 b = h b := fun b c1 c2 => (rUp_o c2).trans (rUp_o c1)
        refine ⟨⟨n, σ, Wf_le hW (by omega) hB, St_far hS (fun b c1 c2 => q b (by omega) (by omega)), Mo_far hM (q 36 (by omega) (by omega))⟩, RK_far (RK_le hB h1) (congrFun (q 0 (by omega) (by omega)) 9) (congrFun (q 35 (by omega) (by omega)) 5) (fun b c1 c2 => q b (by omega) (by omega)) (q 37 (by omega) (by omega)), RT_far h2 (congrFun (q 22 (by omega) (by omega)) 1) (congrFun (q 35 (by omega) (by omega)) 7) (q 23 (by omega) (by omega)) (q 41 (by omega) (by omega)), ?_, RS_far h4 (q 25 (by omega) (by omega)) (q 26 (by omega) (by omega)) (q 27 (by omega) (by omega)) (q 43 (by omega) (by omega)) (q 44 (by omega) (by omega)) (q 45 (by omega) (by omega)), RV_far h5 (q 29 (by omega) (by omega)) (q 30 (by omega) (by omega)) (q 31 (by omega) (by omega)) (q 46 (by omega) (by omega)) (q 47 (by omega) (by omega)) (q 48 (by omega) (by omega)), RA_far h6 (congrFun (q 32 (by omega) (by omega)) 1) (congrFun (q 35 (by omega) (by omega)) 22) (q 33 (by omega) (by omega)) (q 49 (by omega) (by omega))⟩
        refine ⟨r, hr, (congrFun (q 0 (by omega) (by omega)) 8).trans e1, (congrFun (q 35 (by omega) (by omega)) 14).trans e2, fun j hj => ?_⟩
        rw [rUp_o (show (34:Nat) ≠ 42 by omega), rUp_a, rUp_a, rUp_o (show (42:Nat) ≠ 34 by omega)]
        by_cases c : j = 3 * i + w
        · subst c; rw [sW_eq, sW_eq]
        · rw [sW_ne c, sW_ne c]; exact e3 j hj
    · exact two_no hB hR (-9) (fun f H => vLa_alterRow (c_row2 e1 hr hi hb (o0 ⟨rfl, hN0 H⟩))) (fun h1 f e H => vMo_alterRow (m_row2 ((congrFun (e 35 (by omega)) 14).trans e2) hr hi hb (o0 ⟨rfl, mN0 H⟩)))
  · exact two_no hB hR (-9) (fun f H => vLa_alterRow (c_row0 e1 hb (o0 ⟨rfl, hN0 H⟩))) (fun h1 f e H => vMo_alterRow (m_row0 ((congrFun (e 35 (by omega)) 14).trans e2) hr hb (o0 ⟨rfl, mN0 H⟩)))
theorem c_part {o w : Nat} (hW : Wf B n σ) (hS : St 1 n σ h) (ho : o < n) (hw : w < 3) (H : f (if w = 0 then lyI o σ else if w = 1 then σ 4 else σ 3) h) : rCall E (d + 2) mLa_triedPart [pR 0, pI (nI o), pI (nI w)] SH h (rPi SH f) := by
  rcases (by omega : w = 0 ∨ w = 1 ∨ w = 2) with rfl | rfl | rfl
  · refine vLa_triedPart (br_t rfl (c_lies (t := 1) t1 hW hS ho ?_))
    unfold lyI at H
    by_cases c : σ (13 + 5 * o) = 6
    · simp only [if_pos c, if_true] at H
      rw [if_pos c]
      exact o0 ⟨rfl, H⟩
    · simp only [if_neg c, if_true] at H
      rw [if_neg c]
      exact o1 ⟨rfl, H⟩
  · refine vLa_triedPart (br_f (by decide) (br_t rfl ⟨rfl, ?_⟩))
    rw [S1_o hS]
    exact H
  · refine vLa_triedPart (br_f (by decide) (br_f (by decide) ⟨rfl, ?_⟩))
    rw [S1_a hS]
    exact H
theorem two_judge (hB : B + 1 < 1000000) (hR : Rel B h) (a1 : Int32) : Two E B h mLa_judge mMo_judge [pI a1] := by
  have hR' := hR
  obtain ⟨⟨n, σ, hW, hS, hM⟩, _, _, ⟨r, hr, e1, e2, e3⟩, _⟩ := hR'
  have hn := hW.1.1
  rcases qa a1 n (by omega) with ⟨o, ho, rfl⟩ | hb
  · refine two_no hB hR (jdg n o (h 34) r 0 σ) (fun f H => vLa_judge (c_has1 (t := 0) t0 hW hS ho (o1 (c_bec10 hn hS (fun h1 a1 b1 => ?_))))) (fun h0 f e H => vMo_judge (m_one1 hW (Mo_far hM (e 36 (by omega))) ho (o1 (m_save hn (Mo_far hM (e 36 (by omega))) (fun h1 a1 b1 => ?_)))))
    · have go : ∀ (m i : Nat) (τ : Nat → Int32) (h1 : rHp) (o3 : Option Int32), m + i = r → Wf B n τ → St 1 n τ h1 → Fr 1 h h1 → (∀ h', Fr 1 h h' → f (jdg n o (h 34) m i τ) h') →
          rR E (rCall E 39) mLa_judge (rPi SH f) 26 [some (pR 0), some (pI (nI o)), some (pI (nI i)), oI o3] [] SH h1 0 0 := by
        intro m
        induction m with
        | zero =>
          intro i τ h1 o3 hm hW hS hF H
          exact vLa_judge_26 (br_t (by rw [hF 0 (by omega), e1]; exact nI_le (by omega) (by omega)) ⟨rfl, H _ hF⟩)
        | succ m ih =>
          intro i τ h1 o3 hm hW hS hF H
          refine vLa_judge_26 (br_f (by rw [hF 0 (by omega), e1]; exact nI_ge (by omega) (by omega)) (c_passYear (t := 1) t1 hW hS (fun h2 a2 b2 => ?_)))
          have hF2 := Fr_tr hF b2
          have e34 : h2 34 = h 34 := hF2 34 (by omega)
          have hW2 := Wf_sGo hW
          simp only [jdg] at H
          have s3 : (h 34 (3 * i + 2) = sGo n τ 3 → ∀ o3, rR E (rCall E 39) mLa_judge (rPi SH f) 26 [some (pR 0), some (pI (nI o)), some (pI (nI i + 1)), oI o3] [] SH h2 0 0) → (¬ h 34 (3 * i + 2) = sGo n τ 3 → f (nI i + 1) h2) → rR E (rCall E 39) mLa_judge (rPi SH f) 43 [some (pR 0), some (pI (nI o)), some (pI (nI i)), some (pI (nI 2))] [] SH h2 0 0 := by
            intro k1 k2
            refine vLa_judge_43 (br_f (by decide) ?_)
            rw [jx3, nI_clamp (by omega), e34]
            refine ⟨vp_in_nI (by omega) (by omega), c_part (w := 2) hW2 a2 ho (by omega) ⟨fun c => ?_, fun c => ⟨rfl, k2 c⟩⟩⟩
            exact vLa_judge_43 (br_t (by decide) (k1 c (some _)))
          have s2 : (h 34 (3 * i + 1) = sGo n τ 4 → rR E (rCall E 39) mLa_judge (rPi SH f) 43 [some (pR 0), some (pI (nI o)), some (pI (nI i)), some (pI (nI 2))] [] SH h2 0 0) → (¬ h 34 (3 * i + 1) = sGo n τ 4 → f (nI i + 1) h2) → rR E (rCall E 39) mLa_judge (rPi SH f) 43 [some (pR 0), some (pI (nI o)), some (pI (nI i)), some (pI (nI 1))] [] SH h2 0 0 := by
            intro k1 k2
            refine vLa_judge_43 (br_f (by decide) ?_)
            rw [jx3, nI_clamp (by omega), e34]
            exact ⟨vp_in_nI (by omega) (by omega), c_part (w := 1) hW2 a2 ho (by omega) ⟨fun c => k1 c, fun c => ⟨rfl, k2 c⟩⟩⟩
          have s1 : (h 34 (3 * i) = lyI o (sGo n τ) → rR E (rCall E 39) mLa_judge (rPi SH f) 43 [some (pR 0), some (pI (nI o)), some (pI (nI i)), some (pI (nI 1))] [] SH h2 0 0) → (¬ h 34 (3 * i) = lyI o (sGo n τ) → f (nI i + 1) h2) → rR E (rCall E 39) mLa_judge (rPi SH f) 43 [some (pR 0), some (pI (nI o)), some (pI (nI i)), some (pI (nI 0))] [] SH h2 0 0 := by
            intro k1 k2
            refine vLa_judge_43 (br_f (by decide) ?_)
            rw [jx3, nI_clamp (by omega), e34]
            exact ⟨vp_in_nI (by omega) (by omega), c_part (w := 0) hW2 a2 ho (by omega) ⟨fun c => k1 c, fun c => ⟨rfl, k2 c⟩⟩⟩
          rw [nI_succ] at H
          refine s1 (fun c1 => s2 (fun c2 => s3 (fun c3 o3 => ?_) (fun c3 => ?_)) (fun c2 => ?_)) (fun c1 => ?_)
          · rw [if_pos ⟨c1, c2, c3⟩] at H
            rw [← nI_succ]
            exact ih (i + 1) _ h2 o3 (by omega) hW2 a2 hF2 H
          · rw [if_neg (fun q => c3 q.2.2)] at H
            exact H h2 hF2
          · rw [if_neg (fun q => c2 q.2.1)] at H
            exact H h2 hF2
          · rw [if_neg (fun q => c1 q.1)] at H
            exact H h2 hF2
      exact go r 0 σ h1 none (by omega) hW a1 b1 H
    · have go : ∀ (m i : Nat) (τ : Nat → Int32) (h1 : rHp), m + i = r → Wf B n τ → Mo n τ h1 → Sv h0 h1 → (∀ h', (∀ k, k < 50 → h' 36 k = h0 36 k) → FrM h0 h' → f (jdg n o (h 34) m i τ) h') →
          rR E (rCall E 39) mMo_judge (rPi SH f) 25 [some (pR 35), some (pI (nI o)), some (pI (nI i)), some (pI 1)] [] SH h1 0 0 := by
        intro m
        induction m with
        | zero =>
          intro i τ h1 hm hW hM hF H
          exact vMo_judge_25 (br_t (by rw [hF.2 35 (by omega) (by omega), e 35 (by omega), e2]; exact nI_le (by omega) (by omega)) (m_back hF (fun h' a b => o1 ⟨rfl, mB0 H a b⟩)))
        | succ m ih =>
          intro i τ h1 hm hW hM hF H
          have e14 : ∀ h2 : rHp, F38 h0 h2 → h2 35 14 = nI r := fun h2 g => by rw [g 35 (by omega) (by omega), e 35 (by omega), e2]
          refine vMo_judge_25 (br_f (by rw [e14 h1 hF.2]; exact nI_ge (by omega) (by omega)) (o1 (m_goesOn hW hM (fun h2 a2 b2 => ?_))))
          have hF2 := Sv_36 hF b2
          have e42 : ∀ j, j < 3 * r → h2 42 j = h 34 j := fun j hj => by rw [hF2.2 42 (by omega) (by omega), e 42 (by omega), e3 j hj]
          have hW2 := Wf_sGo hW
          simp only [jdg] at H
          have no : (∀ h', (∀ k, k < 50 → h' 36 k = h0 36 k) → FrM h0 h' → f (nI (i + 1)) h') → rR E (rCall E 39) mMo_judge (rPi SH f) 25 [some (pR 35), some (pI (nI o)), some (pI (nI i + 1)), some (pI 0)] [] SH h2 0 0 := by
            intro H
            rw [← nI_succ]
            exact vMo_judge_25 ⟨fun _ => m_back hF2 (fun h' a b => o0 ⟨rfl, mB0 H a b⟩), fun _ => o0 (m_back hF2 (fun h' a b => o0 ⟨rfl, mB0 H a b⟩))⟩
          rw [kx31, kx32, kx30, nI_clamp (by omega), nI_clamp (by omega), nI_clamp (by omega), e42 _ (by omega)]
          refine ⟨vp_in_nI (by omega) (by omega), m_it3 a2 hn ho ?_⟩
          rw [e42 _ (by omega), e42 _ (by omega), a2 4 (by omega), a2 3 (by omega)]
          have v1 : vp_in (nI (3 * i + 1)) 30 := vp_in_nI (by omega) (by omega)
          have v2 : vp_in (nI (3 * i + 2)) 30 := vp_in_nI (by omega) (by omega)
          unfold lyI at H
          refine ⟨fun c => ?_, fun c => ?_⟩
          · rw [if_pos c] at H
            refine ⟨fun c1 => ⟨v1, fun c2 => ⟨v2, fun c3 => ?_, fun c3 => ?_⟩, fun c2 => ?_⟩, fun c1 => ?_⟩
            · rw [if_pos ⟨c1, c2, c3⟩] at H
              rw [← nI_succ]
              exact ih (i + 1) _ h2 (by omega) hW2 a2 hF2 H
            · rw [if_neg (fun q => c3 q.2.2)] at H
              exact no H
            · rw [if_neg (fun q => c2 q.2.1)] at H
              exact no H
            · rw [if_neg (fun q => c1 q.1)] at H
              exact no H
          · rw [if_neg c] at H
            refine ⟨fun c1 => ⟨v1, fun c2 => ⟨v2, fun c3 => ?_, fun c3 => ?_⟩, fun c2 => ?_⟩, fun c1 => ?_⟩
            · rw [if_pos ⟨c1, c2, c3⟩] at H
              rw [← nI_succ]
              exact ih (i + 1) _ h2 (by omega) hW2 a2 hF2 H
            · rw [if_neg (fun q => c3 q.2.2)] at H
              exact no H
            · rw [if_neg (fun q => c2 q.2.1)] at H
              exact no H
            · rw [if_neg (fun q => c1 q.1)] at H
              exact no H
      exact go r 0 σ h1 (by omega) hW a1 b1 H
  · exact two_no hB hR (-1) (fun f H => vLa_judge (c_has0 (t := 0) t0 hW hS hb (o0 ⟨rfl, hN0 H⟩))) (fun h1 f e H => vMo_judge (m_one0 hW (Mo_far hM (e 36 (by omega))) hb (o0 ⟨rfl, mN0 H⟩)))
end
