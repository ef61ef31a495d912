theorem feed_g (x : Int64) (s : Nat) (K : Int64) (K' : UInt64) (hK : (K.toBitVec.smod 64).toNat = s) (hK' : (K'.toBitVec % 64).toNat = s) (hs : s + 8 ≤ 64) : ∃ c, c < 256 ∧ ((x >>> K) &&& (255:Int64)).toInt32 = nI c ∧ ((((x.toUInt64 >>> K').toInt64).toInt32).toInt8.toInt32).toInt8.toInt32 = (nI c).toInt8.toInt32 := by
  have hc : ((x >>> K) &&& (255:Int64)).toBitVec.toNat < 256 := by
    rw [Int64.toBitVec_and, BitVec.toNat_and]
    have := Nat.and_le_right (n := (x >>> K).toBitVec.toNat) (m := (255:Int64).toBitVec.toNat)
    have e : (255:Int64).toBitVec.toNat = 255 := by decide
    omega
  have ev : (x >>> K) &&& (255:Int64) = lN ((x >>> K) &&& (255:Int64)).toBitVec.toNat := by
    apply Int64.toBitVec_inj.1
    apply BitVec.eq_of_toNat_eq
    show _ = (BitVec.ofNat 64 ((x >>> K) &&& (255:Int64)).toBitVec.toNat).toNat
    rw [BitVec.toNat_ofNat, Nat.mod_eq_of_lt (by omega)]
  have e1 : ((x >>> K) &&& (255:Int64)).toInt32 = nI ((x >>> K) &&& (255:Int64)).toBitVec.toNat := (congrArg Int64.toInt32 ev).trans (lN_i _)
  refine ⟨_, hc, e1, ?_⟩
  rw [← e1]
  have e2 : ((x.toUInt64 >>> K').toInt64).toInt32.toInt8 = ((x >>> K) &&& (255:Int64)).toInt32.toInt8 := by
    apply Int8.toBitVec_inj.1
    have b := bits8 x.toBitVec s hs
    have k1 : (x.toUInt64 >>> K').toInt64.toBitVec = x.toBitVec >>> s := by
      rw [← hK']
      rfl
    have k2 : ((x >>> K) &&& (255:Int64)).toBitVec = (x.toBitVec.sshiftRight s) &&& 255#64 := by
      rw [← hK]
      rfl
    show ((x.toUInt64 >>> K').toInt64.toBitVec.signExtend 32).signExtend 8 = (((x >>> K) &&& (255:Int64)).toBitVec.signExtend 32).signExtend 8
    rw [k1, k2]
    exact b
  rw [e2, Int8.toInt8_toInt32]
def fdC (x : Int64) (j : Nat) : Int32 := ((((x.toUInt64 >>> (((8:Int32) * nI j).toInt64.toUInt64 &&& Int64.toUInt64 63)).toInt64).toInt32).toInt8.toInt32).toInt8.toInt32
def fdM (x : Int64) (j : Nat) : Int32 := ((x >>> (((8:Int32) * nI j).toInt64 &&& 63)) &&& (255:Int64)).toInt32
theorem feed_b (x : Int64) : ∀ j, j < 8 → ∃ c, c < 256 ∧ fdM x j = nI c ∧ fdC x j = (nI c).toInt8.toInt32
  | 0, _ => feed_g x 0 _ _ (by decide) (by decide) (by omega)
  | 1, _ => feed_g x 8 _ _ (by decide) (by decide) (by omega)
  | 2, _ => feed_g x 16 _ _ (by decide) (by decide) (by omega)
  | 3, _ => feed_g x 24 _ _ (by decide) (by decide) (by omega)
  | 4, _ => feed_g x 32 _ _ (by decide) (by decide) (by omega)
  | 5, _ => feed_g x 40 _ _ (by decide) (by decide) (by omega)
  | 6, _ => feed_g x 48 _ _ (by decide) (by decide) (by omega)
  | 7, _ => feed_g x 56 _ _ (by decide) (by decide) (by omega)
section
variable {E : rE} {d B n : Nat} {σ : Nat → Int32} {h : rHp} {f : Int32 → rHp → Prop} {fn : rHp → Prop}
theorem two_feed (hB : B + 1 < 1000000) (hR : Rel B h) (x : Int64) (a2 : Int32) : Two E B h mLa_feed mMo_feed [pL x, pI a2] := by
  have hR' := hR
  obtain ⟨⟨n, σ, hW, hS, hM⟩, h1, ⟨s, hs, t1, t2, t3⟩, h3, h4, h5, h6⟩ := hR'
  rcases qr a2 1 8 (by omega) with ⟨k, hk1, hk, rfl⟩ | hb
  · by_cases c : k ≤ 200 - s
    · refine vLa_feed (br_f (nI_nlt (b := 1) hk1 (by omega)) (br_t (nI_le (b := 8) hk (by omega)) (vTx_append (br_t ?_ ?_))))
      · rw [t1, show (200:Int32) - nI s = nI (200 - s) from pk_sub (a := 200) hs]
        exact nI_le c (by omega)
      · refine loopUp (P := fun i => ∀ g, (∀ b, b ≠ 22 ∧ b ≠ 23 → g b = h b) → g 22 1 = nI (s + i) → (∀ j, j < s → g 23 j = h 23 j) → (∀ j, j < i → g 23 (s + j) = fdC x j) → rR E (rCall E 38) mTx_append (rPi SH (fun x2 g1 => rPi SH (fun x_1 h1 => rCall E 40 mMo_feed (pR 35 :: [pL x, pI (nI k)]) SH h1 (rPi SH (fun y h2 => x_1 = y ∧ Rel (B + 1) h2))) (some (pI x2)) SH g1)) 18 [some (pR 22), some (pL x), none, some (pI (nI k)), some (pI (nI i))] [] SH g 0 0) k ?_ ?_ h (fun _ _ => rfl) t1 (fun _ _ => rfl) (fun j hj => absurd hj (by omega))
        · intro i hi hP g e1 e2 e3 e4
          refine vTx_append_18 (br_f (nI_ge hi (by omega)) ?_)
          rw [e2, nI_clamp (by omega), ← nI_succ, ← nI_succ]
          refine ⟨vp_in_nI (by omega) (by omega), hP _ (fun b hb => (rUp_o hb.1).trans ((rUp_o hb.2).trans (e1 b hb))) ?_ (fun j hj => ?_) (fun j hj => ?_)⟩
          · rw [rUp_a, sW_eq]
            rfl
          · rw [rUp_o (by omega), rUp_a, sW_ne (by omega)]
            exact e3 j hj
          · rw [rUp_o (by omega), rUp_a]
            by_cases e : j = i
            · subst e; rw [sW_eq]; rfl
            · rw [sW_ne (by omega)]; exact e4 j (by omega)
        · intro g e1 e2 e3 e4
          refine vTx_append_18 (br_t (nI_le (Nat.le_refl k) (by omega)) ⟨rfl, rfl, ?_⟩)
          rw [e2]
          refine vMo_feed (m_in1 (lo := 1) (hi := 8) hk1 hk (by omega) (o1 (br_t ?_ ?_)))
          · rw [e1 35 (by omega), t2, nI_add]
            exact nI_le (b := 200) (by omega) (by omega)
          · refine loopUp (P := fun i => ∀ w, (∀ b, b ≠ 35 ∧ b ≠ 41 → w b = g b) → (∀ j, j ≠ 7 → w 35 j = h 35 j) → w 35 7 = nI (s + i) → (∀ j, j < s → w 41 j = h 41 j) → (∀ j, j < i → w 41 (s + j) = fdM x j) → rR E (rCall E 39) mMo_feed (rPi SH (fun y h2 => nI (s + k) = y ∧ Rel (B + 1) h2)) 32 [some (pR 35), some (pL x), none, some (pI (nI k)), some (pI (nI i))] [] SH w 0 0) k ?_ ?_ g (fun _ _ => rfl) (fun j _ => by rw [e1 35 (by omega)]) (by rw [e1 35 (by omega)]; exact t2) (fun j _ => by rw [e1 41 (by omega)]) (fun j hj => absurd hj (by omega))
            · intro i hi hP w q1 q0 q2 q3 q4
              refine vMo_feed_32 (br_f (nI_ge hi (by omega)) ?_)
              rw [q2, nI_clamp (by omega), ← nI_succ, ← nI_succ]
              refine ⟨vp_in_nI (by omega) (by omega), hP _ (fun b hb => (rUp_o hb.1).trans ((rUp_o hb.2).trans (q1 b hb))) (fun j hj => ?_) ?_ (fun j hj => ?_) (fun j hj => ?_)⟩
              · rw [rUp_a, sW_ne hj, rUp_o (by omega)]
                exact q0 j hj
              · rw [rUp_a, sW_eq]
                rfl
              · rw [rUp_o (by omega), rUp_a, sW_ne (by omega)]
                exact q3 j hj
              · rw [rUp_o (by omega), rUp_a]
                by_cases e : j = i
                · subst e; rw [sW_eq]; rfl
                · rw [sW_ne (by omega)]; exact q4 j (by omega)
            · intro w q1 q0 q2 q3 q4
              refine vMo_feed_32 (br_t (nI_le (Nat.le_refl k) (by omega)) ⟨rfl, q2.symm, ?_⟩)
              have q : ∀ b, b ≠ 22 ∧ b ≠ 23 ∧ b ≠ 35 ∧ b ≠ 41 → w b = h b := fun b hb => (q1 b ⟨hb.2.2.1, hb.2.2.2⟩).trans (e1 b ⟨hb.1, hb.2.1⟩)
              refine ⟨⟨n, σ, Wf_le hW (by omega) hB, St_far hS (fun b c1 c2 => q b (by omega)), Mo_far hM (q 36 (by omega))⟩, RK_far (RK_le hB h1) (congrFun (q 0 (by omega)) 9) (q0 5 (by omega)) (fun b c1 c2 => q b (by omega)) (q 37 (by omega)), ⟨s + k, by omega, ?_, q2, fun i hi => ?_⟩, RR_far h3 (congrFun (q 0 (by omega)) 8) (q0 14 (by omega)) (q 34 (by omega)) (q 42 (by omega)), RS_far h4 (q 25 (by omega)) (q 26 (by omega)) (q 27 (by omega)) (q 43 (by omega)) (q 44 (by omega)) (q 45 (by omega)), RV_far h5 (q 29 (by omega)) (q 30 (by omega)) (q 31 (by omega)) (q 46 (by omega)) (q 47 (by omega)) (q 48 (by omega)), RA_far h6 (congrFun (q 32 (by omega)) 1) (q0 22 (by omega)) (q 33 (by omega)) (q 49 (by omega))⟩
              · rw [q1 22 (by omega)]; exact e2
              · rw [q1 23 (by omega)]
                by_cases ci : i < s
                · rw [q3 i ci, e3 i ci]; exact t3 i ci
                · have f1 := q4 (i - s) (by omega)
                  have f2 := e4 (i - s) (by omega)
                  rw [show s + (i - s) = i by omega] at f1 f2
                  rw [f1, f2]
                  exact feed_b x (i - s) (by omega)
    · refine two_no hB hR (-2) (fun f H => vLa_feed (br_f (nI_nlt (b := 1) hk1 (by omega)) (br_t (nI_le (b := 8) hk (by omega)) (vTx_append (br_f ?_ ⟨rfl, rfl, hN0 H⟩))))) (fun h0 f e H => vMo_feed (m_in1 (lo := 1) (hi := 8) hk1 hk (by omega) (o1 (br_f ?_ ⟨rfl, mN0 H⟩))))
      · rw [t1, show (200:Int32) - nI s = nI (200 - s) from pk_sub (a := 200) hs]
        exact nI_ge (by omega) (by omega)
      · rw [e 35 (by omega), t2, nI_add]
        exact nI_ge (b := s + k) (a := 200) (by omega) (by omega)
  · exact two_no hB hR (-1) (fun f H => vLa_feed (bd_t (lo := 1) (hi := 8) hb (by omega) (by omega) ⟨rfl, hN0 H⟩)) (fun h0 f e H => vMo_feed (m_in0 (lo := 1) (hi := 8) hb (by omega) (by omega) (o0 ⟨rfl, mN0 H⟩)))
end
