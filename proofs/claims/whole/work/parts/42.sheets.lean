/-! sheets -/
theorem two_st {E : rE} {B : Nat} {h : rHp} {Mc Mm : rM} {as : List rPV} (hB : B + 1 < 1000000) (hR : Rel B h) (a : Int32) (n' : Nat) (σ' : Nat → Int32) (hW' : Wf (B + 1) n' σ')
    (hc : ∀ f : Int32 → rHp → Prop, (∀ h', St 0 n' σ' h' → FrC h h' → f a h') → rCall E 40 Mc (pR 0 :: as) SH h (rPi SH f))
    (hm : ∀ (h1 : rHp) (f : Int32 → rHp → Prop), (∀ b, 15 ≤ b → h1 b = h b) → (∀ h', Mo n' σ' h' → FrM h1 h' → f a h') → rCall E 40 Mm (pR 35 :: as) SH h1 (rPi SH f)) : Two E B h Mc Mm as := by
  obtain ⟨_, hr⟩ := hR
  refine hc _ (fun h1 s1 f1 => hm h1 _ (fun b hb => f1 b (by omega)) (fun h2 s2 f2 => ⟨rfl, ⟨n', σ', hW', St_far s1 (fun b c d => f2 b (by omega) (by omega) (by omega) (by omega)), s2⟩, ?_⟩))
  exact Rest_far hB hr (fun b hb => (f2 b (by omega) (by omega) (by omega) (by omega)).trans (f1 b (by omega)))
theorem nm1 {q : Nat} (hq : q < 2 ^ 31) : ¬ nI q = -1 := by
  intro e
  have := nI_pos (n := q) hq
  rw [e] at this
  exact this (by decide)
def nv (q : Nat) (x : Int32) : Int32 := if q = 0 then x.toInt8.toInt32 else if q = 1 then x.toInt16.toInt32 else x
/-- the row that a sheet's numbers make -/
def mdR (σ : Nat → Int32) (T : Nat → Int32) (o : Nat) : Nat → (Nat → Int32)
  | 0 => σ
  | j + 1 => sW (mdR σ T o j) (11 + 5 * (o + j)) (wit (T j))
theorem Wf_mdR {B n o : Nat} {σ T : Nat → Int32} (hW : Wf B n σ) : ∀ j, Wf B n (mdR σ T o j)
  | 0 => hW
  | j + 1 => Wf_fr (Wf_mdR hW j) (by omega)
section
variable {E : rE} {d B n : Nat} {σ : Nat → Int32} {h : rHp} {f : Int32 → rHp → Prop} {fn : rHp → Prop}
theorem c_holds1 {t i q z : Nat} (ht : t < 4) (hq : q < 4) (hz : z ≤ 40) (e25 : h 25 t = nI q) (e26 : h 26 t = nI z) (hi : i < z) (H : f 1 h) : rCall E (d + 1) mSe_holds [pR 24, pI (nI t), pI (nI i)] SH h (rPi SH f) := by
  apply vSe_holds
  rw [nI_clamp (by omega), e25, e26]
  exact ⟨vp_in_nI ht (by omega), br_f (nm1 (by omega)) (br_f (nI_pos (by omega)) ⟨vp_in_nI ht (by omega), br_f (nI_ge hi (by omega)) ⟨rfl, H⟩⟩)⟩
theorem c_holds0 {t q z : Nat} {a : Int32} (ht : t < 4) (hq : q < 4) (e25 : h 25 t = nI q) (e26 : h 26 t = nI z) (ha : a < 0 ∨ (¬ a < 0 ∧ nI z ≤ a)) (H : f 0 h) : rCall E (d + 1) mSe_holds [pR 24, pI (nI t), pI a] SH h (rPi SH f) := by
  apply vSe_holds
  rw [nI_clamp (by omega), e25, e26]
  refine ⟨vp_in_nI ht (by omega), br_f (nm1 (by omega)) ⟨fun _ => ⟨rfl, H⟩, fun e => ⟨vp_in_nI ht (by omega), br_t ?_ ⟨rfl, H⟩⟩⟩⟩
  rcases ha with c | c
  · exact absurd c e
  · exact c.2
theorem m_lacks1 {t q s : Nat} (ht : t < 4) (hq : q < 4) (hs : s < 4) (e43 : h 43 t = nI q) (H : f (if q = s then 0 else -13) h) : rCall E (d + 1) mMo_lacks [pR 35, pI (nI t), pI (nI s)] SH h (rPi SH f) := by
  apply vMo_lacks
  rw [nI_clamp (by omega), e43]
  refine ⟨vp_in_nI ht (by omega), br_t (nI_pos' (by omega)) ⟨vp_in_nI ht (by omega), fun e => ⟨rfl, ?_⟩, fun e => ⟨rfl, ?_⟩⟩⟩
  · rwa [if_pos ((nI_eq (by omega) (by omega)).1 e)] at H
  · rwa [if_neg (fun c => e (by rw [c]))] at H
theorem m_lacks0 {t : Nat} {s : Int32} (ht : t < 4) (e43 : h 43 t = -1) (H : f (-11) h) : rCall E (d + 1) mMo_lacks [pR 35, pI (nI t), pI s] SH h (rPi SH f) := by
  apply vMo_lacks
  rw [nI_clamp (by omega), e43]
  exact ⟨vp_in_nI ht (by omega), br_f (by decide) ⟨rfl, H⟩⟩
theorem two_item (hB : B + 1 < 1000000) (hR : Rel B h) (a1 a2 a3 : Int32) : Two E B h mLa_item mMo_item [pI a1, pI a2, pI a3] := by
  have h4 := hR.2.2.2.2.1
  rcases qr a1 0 3 (by omega) with ⟨t, _, ht, rfl⟩ | hb
  · have vt : vp_in (nI t) 4 := vp_in_nI (by omega) (by omega)
    have ct : (nI t).toNatClampNeg = t := nI_clamp (by omega)
    rcases qr a2 0 3 (by omega) with ⟨s, _, hs, rfl⟩ | hb
    · rcases h4 t (by omega) with ⟨s1, s2⟩ | ⟨q, z, hq, hz, s1, s2, s3, s4, s5⟩
      · refine two_no hB hR (-11) (fun f H => vLa_item (c_wi1 (m := 3) ht (by omega) (o1 (c_wi1 (m := 3) hs (by omega) (o1 ⟨vt, br_t ?_ ⟨rfl, hN0 H⟩⟩))))) (fun h0 f e H => vMo_item (m_sheet1 ht (o1 (m_in1 (lo := 0) (hi := 3) (by omega) hs (by omega) (o1 (m_lacks0 (by omega) (by rw [e 43 (by omega), s2]) (br_f (by decide) (m_lacks0 (by omega) (by rw [e 43 (by omega), s2]) ⟨rfl, mN0 H⟩))))))))
        rw [ct, s1]
      · by_cases c : q = s
        · subst c
          rcases qa a3 z (by omega) with ⟨i, hi, rfl⟩ | hb
          · refine two_no hB hR (h 27 (40 * t + i)) (fun f H => vLa_item (c_wi1 (m := 3) ht (by omega) (o1 (c_wi1 (m := 3) hs (by omega) (o1 ⟨vt, br_f ?_ ⟨vt, br_t ?_ (c_holds1 (by omega) hq hz s1 s3 hi (o1 (c_number (by omega) (by omega) ⟨rfl, hN0 H⟩)))⟩⟩))))) (fun h0 f e H => vMo_item (m_sheet1 ht (o1 (m_in1 (lo := 0) (hi := 3) (by omega) hs (by omega) (o1 (m_lacks1 (by omega) hq hq (by rw [e 43 (by omega), s2]) ?_))))))
            · rw [ct, s1]; exact nm1 (by omega)
            · rw [ct, s1]
            · rw [if_pos rfl, ct, e 44 (by omega), s4]
              refine o0 ⟨vt, m_inR1 hi (by omega) (o1 ?_)⟩
              rw [kx40, nI_clamp (by omega), e 45 (by omega), ← s5 i hi]
              exact ⟨vp_in_nI (by omega) (by omega), rfl, mN0 H⟩
          · refine two_no hB hR (-12) (fun f H => vLa_item (c_wi1 (m := 3) ht (by omega) (o1 (c_wi1 (m := 3) hs (by omega) (o1 ⟨vt, br_f ?_ ⟨vt, br_t ?_ (c_holds0 (by omega) hq s1 s3 hb (o0 ⟨rfl, hN0 H⟩))⟩⟩))))) (fun h0 f e H => vMo_item (m_sheet1 ht (o1 (m_in1 (lo := 0) (hi := 3) (by omega) hs (by omega) (o1 (m_lacks1 (by omega) hq hq (by rw [e 43 (by omega), s2]) ?_))))))
            · rw [ct, s1]; exact nm1 (by omega)
            · rw [ct, s1]
            · rw [if_pos rfl, ct, e 44 (by omega), s4]
              exact o0 ⟨vt, m_inR0 hb (by omega) (o0 ⟨rfl, mN0 H⟩)⟩
        · refine two_no hB hR (-13) (fun f H => vLa_item (c_wi1 (m := 3) ht (by omega) (o1 (c_wi1 (m := 3) hs (by omega) (o1 ⟨vt, br_f ?_ ⟨vt, br_f ?_ ⟨rfl, hN0 H⟩⟩⟩))))) (fun h0 f e H => vMo_item (m_sheet1 ht (o1 (m_in1 (lo := 0) (hi := 3) (by omega) hs (by omega) (o1 (m_lacks1 (by omega) hq (by omega) (by rw [e 43 (by omega), s2]) ?_))))))
          · rw [ct, s1]; exact nm1 (by omega)
          · rw [ct, s1]
            exact fun e => c ((nI_eq (by omega) (by omega)).1 e)
          · rw [if_neg c]
            refine br_f (by decide) (m_lacks1 (by omega) hq (by omega) (by rw [e 43 (by omega), s2]) ?_)
            rw [if_neg c]
            exact ⟨rfl, mN0 H⟩
    · exact two_no hB hR (-1) (fun f H => vLa_item (c_wi1 (m := 3) ht (by omega) (o1 (c_wi0 (m := 3) hb (by omega) (o0 ⟨rfl, hN0 H⟩))))) (fun h0 f e H => vMo_item (m_sheet1 ht (o1 (m_in0 (lo := 0) (hi := 3) hb (by omega) (by omega) (o0 ⟨rfl, mN0 H⟩)))))
  · exact two_no hB hR (-1) (fun f H => vLa_item (c_wi0 (m := 3) hb (by omega) (o0 ⟨rfl, hN0 H⟩))) (fun h0 f e H => vMo_item (m_sheet0 hb (o0 ⟨rfl, mN0 H⟩)))
theorem c_write {t i q : Nat} {x : Int32} (ht : t < 4) (hq : q < 4) (hi : i < 40) (e25 : h 25 t = nI q) (H : fn (rUp h 27 (40 * t + i) (nv q x))) : rCall E (d + 1) mSe_write [pR 24, pI (nI t), pI (nI i), pI x] SH h (rPn SH fn) := by
  apply vSe_write
  rw [nI_clamp (n := t) (by omega), e25, jx40, nI_clamp (n := 40 * t + i) (by omega)]
  have vi : vp_in (nI (40 * t + i)) 160 := vp_in_nI (by omega) (by omega)
  unfold nv at H
  refine ⟨vp_in_nI ht (by omega), fun e => ⟨vi, rfl, ?_⟩, fun e => ⟨vp_in_nI ht (by omega), fun e1 => ⟨vi, rfl, ?_⟩, fun e1 => ⟨vi, rfl, ?_⟩⟩⟩
  · rwa [if_pos ((nI_eq (b := 0) (by omega) (by omega)).1 e)] at H
  · rwa [if_neg (fun c => e (by rw [c]; rfl)), if_pos ((nI_eq (b := 1) (by omega) (by omega)).1 e1)] at H
  · rwa [if_neg (fun c => e (by rw [c]; rfl)), if_neg (fun c => e1 (by rw [c]; rfl))] at H
theorem two_put (hB : B + 1 < 1000000) (hR : Rel B h) (a1 a2 a3 : Int32) : Two E B h mLa_put mMo_put [pI a1, pI a2, pI a3] := by
  have h4 := hR.2.2.2.2.1
  rcases qr a1 0 3 (by omega) with ⟨t, _, ht, rfl⟩ | hb
  · have vt : vp_in (nI t) 4 := vp_in_nI (by omega) (by omega)
    have ct : (nI t).toNatClampNeg = t := nI_clamp (by omega)
    rcases h4 t (by omega) with ⟨s1, s2⟩ | ⟨q, z, hq, hz, s1, s2, s3, s4, s5⟩
    · refine two_no hB hR (-11) (fun f H => vLa_put (c_wi1 (m := 3) ht (by omega) (o1 ⟨vt, br_t ?_ ⟨rfl, hN0 H⟩⟩))) (fun h0 f e H => vMo_put (m_sheet1 ht (o1 ⟨vt, br_f ?_ ⟨rfl, mN0 H⟩⟩)))
      · rw [ct, s1]
      · rw [ct, e 43 (by omega), s2]; decide
    · rcases qa a2 z (by omega) with ⟨i, hi, rfl⟩ | hb
      · refine vLa_put (c_wi1 (m := 3) ht (by omega) (o1 ⟨vt, br_f ?_ (c_holds1 (by omega) hq hz s1 s3 hi (o1 (c_write (by omega) hq (by omega) s1 ⟨rfl, vMo_put (m_sheet1 ht (o1 ⟨vt, br_t ?_ ⟨vt, ?_⟩⟩))⟩)))⟩))
        · rw [ct, s1]; exact nm1 (by omega)
        · rw [ct, rUp_o (by omega), s2]; exact nI_pos' (by omega)
        · rw [ct, rUp_o (show (44:Nat) ≠ 27 by omega), s4, kx40, nI_clamp (n := 40 * t + i) (by omega)]
          have vi : vp_in (nI (40 * t + i)) 160 := vp_in_nI (by omega) (by omega)
          have key : ∀ x, x = nv q a3 → Rel (B + 1) (rUp (rUp h 27 (40 * t + i) (nv q a3)) 45 (40 * t + i) x) := by
            intro x hx
            subst hx
            obtain ⟨⟨n, σ, hW, hS, hM⟩, h1, h2, h3, h4, h5, h6⟩ := hR
            have q : ∀ b, b ≠ 27 ∧ b ≠ 45 → rUp (rUp h 27 (40 * t + i) (nv q a3)) 45 (40 * t + i) (nv q a3) b = h b := fun b c => (rUp_o c.2).trans (rUp_o c.1)
            refine ⟨⟨n, σ, Wf_le hW (by omega) hB, St_far hS (fun b c1 c2 => q b (by omega)), Mo_far hM (q 36 (by omega))⟩, RK_far (RK_le hB h1) (congrFun (q 0 (by omega)) 9) (congrFun (q 35 (by omega)) 5) (fun b c1 c2 => q b (by omega)) (q 37 (by omega)), RT_far h2 (congrFun (q 22 (by omega)) 1) (congrFun (q 35 (by omega)) 7) (q 23 (by omega)) (q 41 (by omega)), RR_far h3 (congrFun (q 0 (by omega)) 8) (congrFun (q 35 (by omega)) 14) (q 34 (by omega)) (q 42 (by omega)), ?_, RV_far h5 (q 29 (by omega)) (q 30 (by omega)) (q 31 (by omega)) (q 46 (by omega)) (q 47 (by omega)) (q 48 (by omega)), RA_far h6 (congrFun (q 32 (by omega)) 1) (congrFun (q 35 (by omega)) 22) (q 33 (by omega)) (q 49 (by omega))⟩
            intro u hu
            rw [q 25 (by omega), q 43 (by omega), q 26 (by omega), q 44 (by omega), rUp_o (show (27:Nat) ≠ 45 by omega), rUp_a, rUp_a, rUp_o (show (45:Nat) ≠ 27 by omega)]
            rcases h4 u hu with c | ⟨q', z', c1, c2, c3, c4, c5, c6, c7⟩
            · exact Or.inl c
            · refine Or.inr ⟨q', z', c1, c2, c3, c4, c5, c6, fun j hj => ?_⟩
              by_cases e : 40 * u + j = 40 * t + i
              · rw [e, sW_eq, sW_eq]
              · rw [sW_ne e, sW_ne e]; exact c7 j hj
          refine m_inR1 hi (by omega) (o1 ⟨vt, fun e => ⟨vi, rfl, rfl, key _ ?_⟩, fun e => ⟨vt, fun e1 => ⟨vi, rfl, rfl, key _ ?_⟩, fun e1 => ⟨vi, rfl, rfl, key _ ?_⟩⟩⟩)
          · unfold nv
            rw [if_pos]
            rw [rUp_o (by omega), s2] at e
            exact (nI_eq (b := 0) (by omega) (by omega)).1 e
          · unfold nv
            rw [rUp_o (by omega), s2] at e e1
            rw [if_neg (fun c => e (by rw [c]; rfl)), if_pos ((nI_eq (b := 1) (by omega) (by omega)).1 e1)]
          · unfold nv
            rw [rUp_o (by omega), s2] at e e1
            rw [if_neg (fun c => e (by rw [c]; rfl)), if_neg (fun c => e1 (by rw [c]; rfl))]
      · refine two_no hB hR (-12) (fun f H => vLa_put (c_wi1 (m := 3) ht (by omega) (o1 ⟨vt, br_f ?_ (c_holds0 (by omega) hq s1 s3 hb (o0 ⟨rfl, hN0 H⟩))⟩))) (fun h0 f e H => vMo_put (m_sheet1 ht (o1 ⟨vt, br_t ?_ ⟨vt, ?_⟩⟩)))
        · rw [ct, s1]; exact nm1 (by omega)
        · rw [ct, e 43 (by omega), s2]; exact nI_pos' (by omega)
        · rw [ct, e 44 (by omega), s4]
          exact m_inR0 hb (by omega) (o0 ⟨rfl, mN0 H⟩)
  · exact two_no hB hR (-1) (fun f H => vLa_put (c_wi0 (m := 3) hb (by omega) (o0 ⟨rfl, hN0 H⟩))) (fun h0 f e H => vMo_put (m_sheet0 hb (o0 ⟨rfl, mN0 H⟩)))
theorem m_inS0 {a : Int32} (hb : a.toInt < -1 ∨ 3 < a.toInt) (H : f 0 h) : rCall E (d + 1) mMo_isIn [pL a.toInt64, pL (-1:Int64), pL (3:Int64)] SH h (rPi SH f) := by
  refine vMo_isIn ⟨fun _ => ⟨rfl, H⟩, fun e => ⟨fun _ => ⟨rfl, H⟩, fun e2 => ?_⟩⟩
  exfalso
  rw [lg_cmp_lt, Int64.lt_iff_toInt_lt, Int32.toInt_toInt64, show (-1:Int64).toInt = -1 by decide] at e
  rw [lg_cmp_gt, Int64.lt_iff_toInt_lt, Int32.toInt_toInt64, show (3:Int64).toInt = 3 by decide] at e2
  omega
theorem m_inS1 {a : Int32} (hb : -1 ≤ a.toInt ∧ a.toInt ≤ 3) (H : f 1 h) : rCall E (d + 1) mMo_isIn [pL a.toInt64, pL (-1:Int64), pL (3:Int64)] SH h (rPi SH f) := by
  refine vMo_isIn (br_f ?_ (br_f ?_ ⟨rfl, H⟩))
  · rw [lg_cmp_lt, Int64.lt_iff_toInt_lt, Int32.toInt_toInt64, show (-1:Int64).toInt = -1 by decide]
    omega
  · rw [lg_cmp_gt, Int64.lt_iff_toInt_lt, Int32.toInt_toInt64, show (3:Int64).toInt = 3 by decide]
    omega
theorem c_begin0 {t s z : Nat} (ht : t < 4) (H : ∀ h', (∀ b, b ≠ 25 ∧ b ≠ 26 ∧ b ≠ 27 → h' b = h b) → h' 25 = sW (h 25) t (nI s) → h' 26 = sW (h 26) t (nI z) → (∀ j, j < 40 → h' 27 (40 * t + j) = 0) → (∀ j, (j < 40 * t ∨ 40 * t + 40 ≤ j) → h' 27 j = h 27 j) → fn h') : rCall E (d + 1) mSe_begin [pR 24, pI (nI t), pI (nI s), pI (nI z)] SH h (rPn SH fn) := by
  have vt : vp_in (nI t) 4 := vp_in_nI ht (by omega)
  apply vSe_begin
  rw [nI_clamp (by omega)]
  refine ⟨vt, vt, ?_⟩
  refine loopUp (P := fun i => ∀ h1, (∀ b, b ≠ 25 ∧ b ≠ 26 ∧ b ≠ 27 → h1 b = h b) → h1 25 = sW (h 25) t (nI s) → h1 26 = sW (h 26) t (nI z) → (∀ j, j < i → h1 27 (40 * t + j) = 0) → (∀ j, (j < 40 * t ∨ 40 * t + 40 ≤ j) → h1 27 j = h 27 j) → rR E (rCall E d) mSe_begin (rPn SH fn) 17 [some (pR 24), some (pI (nI t)), some (pI (nI s)), some (pI (nI z)), some (pI (nI i))] [] SH h1 0 0) 40 ?_ ?_ _ (fun b hb => (rUp_o hb.2.1).trans (rUp_o hb.1)) ?_ ?_ (fun j hj => absurd hj (by omega)) (fun j hj => ?_)
  · intro i hi hP h1 e1 e2 e3 e4 e5
    refine vSe_begin_17 (br_f (nI_ge (b := 40) hi (by omega)) ?_)
    rw [jx40, nI_clamp (by omega), ← nI_succ]
    refine ⟨vp_in_nI (by omega) (by omega), hP _ (fun b hb => (rUp_o hb.2.2).trans (e1 b hb)) ((rUp_o (by omega)).trans e2) ((rUp_o (by omega)).trans e3) (fun j hj => ?_) (fun j hj => ?_)⟩
    · rw [rUp_a]
      by_cases e : j = i
      · subst e; rw [sW_eq]
      · rw [sW_ne (by omega)]; exact e4 j (by omega)
    · rw [rUp_a, sW_ne (by omega)]; exact e5 j hj
  · intro h1 e1 e2 e3 e4 e5
    exact vSe_begin_17 (br_t (nI_le (a := 40) (b := 40) (by omega) (by omega)) ⟨rfl, H h1 e1 e2 e3 e4 e5⟩)
  · rw [rUp_o (by omega), rUp_a]
  · rw [rUp_a, rUp_o (by omega)]
  · rw [rUp_o (by omega), rUp_o (by omega)]
theorem m_zero {t : Nat} {a b : Int32} (ht : t < 4) (H : ∀ h', (∀ b, b ≠ 45 → h' b = h b) → (∀ j, j < 40 → h' 45 (40 * t + j) = 0) → (∀ j, (j < 40 * t ∨ 40 * t + 40 ≤ j) → h' 45 j = h 45 j) → f 1 h') : rR E (rCall E d) mMo_sheet (rPi SH f) 69 [some (pR 35), some (pI (nI t)), some (pI a), some (pI b), some (pI 0)] [] SH h 0 0 := by
  refine loopUp (P := fun i => ∀ h1, (∀ b, b ≠ 45 → h1 b = h b) → (∀ j, j < i → h1 45 (40 * t + j) = 0) → (∀ j, (j < 40 * t ∨ 40 * t + 40 ≤ j) → h1 45 j = h 45 j) → rR E (rCall E d) mMo_sheet (rPi SH f) 69 [some (pR 35), some (pI (nI t)), some (pI a), some (pI b), some (pI (nI i))] [] SH h1 0 0) 40 ?_ ?_ h (fun _ _ => rfl) (fun j hj => absurd hj (by omega)) (fun _ _ => rfl)
  · intro i hi hP h1 e1 e4 e5
    refine vMo_sheet_69 (br_f (nI_ge (b := 40) hi (by omega)) ?_)
    rw [kx40, nI_clamp (by omega), ← nI_succ]
    refine ⟨vp_in_nI (by omega) (by omega), hP _ (fun b hb => (rUp_o hb).trans (e1 b hb)) (fun j hj => ?_) (fun j hj => ?_)⟩
    · rw [rUp_a]
      by_cases e : j = i
      · subst e; rw [sW_eq]
      · rw [sW_ne (by omega)]; exact e4 j (by omega)
    · rw [rUp_a, sW_ne (by omega)]; exact e5 j hj
  · intro h1 e1 e4 e5
    exact vMo_sheet_69 (br_t (nI_le (a := 40) (b := 40) (by omega) (by omega)) ⟨rfl, H h1 e1 e4 e5⟩)
theorem two_sheet (hB : B + 1 < 1000000) (hR : Rel B h) (a1 a2 a3 : Int32) : Two E B h mLa_sheet mMo_sheet [pI a1, pI a2, pI a3] := by
  have hR' := hR
  obtain ⟨⟨n, σ, hW, hS, hM⟩, h1, h2, h3, h4, h5, h6⟩ := hR'
  have em1 : (-1:Int32).toInt = -1 := by decide
  have e3 : (3:Int32).toInt = 3 := by decide
  rcases qr a1 0 3 (by omega) with ⟨t, _, ht, rfl⟩ | hb
  · have vt : vp_in (nI t) 4 := vp_in_nI (by omega) (by omega)
    have ct : (nI t).toNatClampNeg = t := nI_clamp (by omega)
    by_cases hb : a2.toInt < -1 ∨ 3 < a2.toInt
    · refine two_no hB hR (-1) (fun f H => vLa_sheet (c_wi1 (m := 3) ht (by omega) (o1 ⟨fun _ => ⟨rfl, hN0 H⟩, fun c1 => ⟨fun c2 => ?_, fun _ => ⟨rfl, hN0 H⟩⟩⟩))) (fun h0 f e H => vMo_sheet (m_sheet1 ht (o1 (m_inS0 hb (o0 ⟨rfl, mN0 H⟩)))))
      rw [Int32.lt_iff_toInt_lt, em1] at c1
      rw [Int32.le_iff_toInt_le, e3] at c2
      omega
    · have c1 : ¬ a2 < -1 := by rw [Int32.lt_iff_toInt_lt, em1]; omega
      have c2 : a2 ≤ 3 := by rw [Int32.le_iff_toInt_le, e3]; omega
      by_cases cm : a2 = -1
      · subst cm
        refine vLa_sheet (c_wi1 (m := 3) ht (by omega) (o1 (br_f c1 (br_t c2 (br_t rfl ⟨vt, rfl, vMo_sheet (m_sheet1 ht (o1 (m_inS1 (by rw [em1]; omega) (o1 (br_t (by decide) (br_t (by decide) ⟨vt, br_f (by decide) ⟨vt, m_zero (by omega) (fun g p1 p2 p3 => ⟨rfl, ?_⟩)⟩⟩))))))⟩)))))
        rw [ct] at p1 p3
        have q : ∀ b, b ≠ 25 ∧ b ≠ 43 ∧ b ≠ 44 ∧ b ≠ 45 → g b = h b := fun b c => (p1 b c.2.2.2).trans ((rUp_o c.2.2.1).trans ((rUp_o c.2.1).trans (rUp_o c.1)))
        refine ⟨⟨n, σ, Wf_le hW (by omega) hB, St_far hS (fun b c1 c2 => q b (by omega)), Mo_far hM (q 36 (by omega))⟩, RK_far (RK_le hB h1) (congrFun (q 0 (by omega)) 9) (congrFun (q 35 (by omega)) 5) (fun b c1 c2 => q b (by omega)) (q 37 (by omega)), RT_far h2 (congrFun (q 22 (by omega)) 1) (congrFun (q 35 (by omega)) 7) (q 23 (by omega)) (q 41 (by omega)), RR_far h3 (congrFun (q 0 (by omega)) 8) (congrFun (q 35 (by omega)) 14) (q 34 (by omega)) (q 42 (by omega)), ?_, RV_far h5 (q 29 (by omega)) (q 30 (by omega)) (q 31 (by omega)) (q 46 (by omega)) (q 47 (by omega)) (q 48 (by omega)), RA_far h6 (congrFun (q 32 (by omega)) 1) (congrFun (q 35 (by omega)) 22) (q 33 (by omega)) (q 49 (by omega))⟩
        have g25 : g 25 = sW (h 25) t (-1) := by rw [p1 25 (by omega), rUp_o (by omega), rUp_o (by omega), rUp_a]
        have g43 : g 43 = sW (h 43) t (-1) := by rw [p1 43 (by omega), rUp_o (by omega), rUp_a, rUp_o (by omega)]
        have g44 : g 44 = sW (h 44) t 0 := by rw [p1 44 (by omega), rUp_a, rUp_o (by omega), rUp_o (by omega)]
        intro u hu
        rw [g25, g43, g44, q 26 (by omega), q 27 (by omega)]
        by_cases e : u = t
        · subst e
          exact Or.inl ⟨sW_eq, sW_eq⟩
        · rw [sW_ne e, sW_ne e, sW_ne e]
          rcases h4 u hu with c | ⟨q', z', c1, c2, c3, c4, c5, c6, c7⟩
          · exact Or.inl c
          · refine Or.inr ⟨q', z', c1, c2, c3, c4, c5, c6, fun j hj => ?_⟩
            rw [p3 _ (by omega), rUp_o (by omega), rUp_o (by omega), rUp_o (by omega)]
            exact c7 j hj
      · have c0 : ¬ a2 < 0 := by
          rw [Int32.lt_iff_toInt_lt, i0]
          intro c
          exact cm (Int32.toInt_inj.1 (by rw [em1]; omega))
        obtain ⟨s, hs31, rfl⟩ := nI_of c0
        have hs : s ≤ 3 := by
          have := nI_toInt hs31
          omega
        have k1 : 0 ≤ nI s := nI_pos' hs31
        rcases qr a3 0 40 (by omega) with ⟨z, _, hz, rfl⟩ | hb3
        · refine vLa_sheet (c_wi1 (m := 3) ht (by omega) (o1 (br_f c1 (br_t c2 (br_f cm (br_t (nI_le (b := 40) hz (by omega)) (br_t (nI_pos' (by omega)) (c_begin0 (by omega) (fun g1 p1 p2 p3 p4 p5 => ⟨rfl, vMo_sheet (m_sheet1 ht (o1 (m_inS1 (by omega) (o1 (br_f c0 (br_t (nI_le (b := 40) hz (by omega)) (br_f c0 (br_t (nI_pos' (by omega)) ⟨vt, br_t k1 ⟨vt, m_zero (by omega) (fun g r1 r2 r3 => ⟨rfl, ?_⟩)⟩⟩))))))))⟩)))))))))
          rw [ct] at r1 r3
          have q : ∀ b, b ≠ 25 ∧ b ≠ 26 ∧ b ≠ 27 ∧ b ≠ 43 ∧ b ≠ 44 ∧ b ≠ 45 → g b = h b := fun b c => (r1 b c.2.2.2.2.2).trans ((rUp_o c.2.2.2.2.1).trans ((rUp_o c.2.2.2.1).trans (p1 b ⟨c.1, c.2.1, c.2.2.1⟩)))
          refine ⟨⟨n, σ, Wf_le hW (by omega) hB, St_far hS (fun b c1 c2 => q b (by omega)), Mo_far hM (q 36 (by omega))⟩, RK_far (RK_le hB h1) (congrFun (q 0 (by omega)) 9) (congrFun (q 35 (by omega)) 5) (fun b c1 c2 => q b (by omega)) (q 37 (by omega)), RT_far h2 (congrFun (q 22 (by omega)) 1) (congrFun (q 35 (by omega)) 7) (q 23 (by omega)) (q 41 (by omega)), RR_far h3 (congrFun (q 0 (by omega)) 8) (congrFun (q 35 (by omega)) 14) (q 34 (by omega)) (q 42 (by omega)), ?_, RV_far h5 (q 29 (by omega)) (q 30 (by omega)) (q 31 (by omega)) (q 46 (by omega)) (q 47 (by omega)) (q 48 (by omega)), RA_far h6 (congrFun (q 32 (by omega)) 1) (congrFun (q 35 (by omega)) 22) (q 33 (by omega)) (q 49 (by omega))⟩
          have g25 : g 25 = sW (h 25) t (nI s) := by rw [r1 25 (by omega), rUp_o (by omega), rUp_o (by omega), p2]
          have g26 : g 26 = sW (h 26) t (nI z) := by rw [r1 26 (by omega), rUp_o (by omega), rUp_o (by omega), p3]
          have g27 : g 27 = g1 27 := by rw [r1 27 (by omega), rUp_o (by omega), rUp_o (by omega)]
          have g43 : g 43 = sW (h 43) t (nI s) := by rw [r1 43 (by omega), rUp_o (by omega), rUp_a, p1 43 (by omega)]
          have g44 : g 44 = sW (h 44) t (nI z) := by rw [r1 44 (by omega), rUp_a, rUp_o (by omega), p1 44 (by omega)]
          intro u hu
          rw [g25, g43, g44, g26, g27]
          by_cases e : u = t
          · subst e
            refine Or.inr ⟨s, z, by omega, hz, sW_eq, sW_eq, sW_eq, sW_eq, fun j hj => ?_⟩
            rw [p4 j (by omega), r2 j (by omega)]
          · rw [sW_ne e, sW_ne e, sW_ne e, sW_ne e]
            rcases h4 u hu with c | ⟨q', z', c1, c2, c3, c4, c5, c6, c7⟩
            · exact Or.inl c
            · refine Or.inr ⟨q', z', c1, c2, c3, c4, c5, c6, fun j hj => ?_⟩
              rw [p5 _ (by omega), r3 _ (by omega), rUp_o (by omega), rUp_o (by omega), p1 45 (by omega)]
              exact c7 j hj
        · by_cases c40 : a3 ≤ 40
          · have c30 : ¬ 0 ≤ a3 := by
              rw [Int32.le_iff_toInt_le, show (40:Int32).toInt = 40 by decide] at c40
              rw [Int32.le_iff_toInt_le, i0]
              unfold Bd at hb3
              omega
            exact two_no hB hR (-14) (fun f H => vLa_sheet (c_wi1 (m := 3) ht (by omega) (o1 (br_f c1 (br_t c2 (br_f cm (br_t c40 (br_f c30 ⟨rfl, hN0 H⟩)))))))) (fun h0 f e H => vMo_sheet (m_sheet1 ht (o1 (m_inS1 (by omega) (o1 (br_f c0 (br_t c40 (br_f c0 (br_f c30 ⟨rfl, mN0 H⟩)))))))))
          · exact two_no hB hR (-1) (fun f H => vLa_sheet (c_wi1 (m := 3) ht (by omega) (o1 (br_f c1 (br_t c2 (br_f cm (br_f c40 ⟨rfl, hN0 H⟩))))))) (fun h0 f e H => vMo_sheet (m_sheet1 ht (o1 (m_inS1 (by omega) (o1 (br_f c0 (br_f c40 ⟨rfl, mN0 H⟩)))))))
  · exact two_no hB hR (-1) (fun f H => vLa_sheet (c_wi0 (m := 3) hb (by omega) (o0 ⟨rfl, hN0 H⟩))) (fun h0 f e H => vMo_sheet (m_sheet0 hb (o0 ⟨rfl, mN0 H⟩)))
end
