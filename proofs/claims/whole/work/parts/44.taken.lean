def undF : Nat → Nat → Nat → Int32
  | 0, _, _ => 0
  | m + 1, k, u => if k = u then 1 else if k = 0 then 0 else undF m (if k = 3 then 1 else if k = 4 then 2 else 0) u
theorem und_sp : ∀ k, k < 6 → ∀ u, u < 6 → undF 6 k u = (if u = 0 then 1 else if k = u then 1 else if u = 1 then (if k = 3 then 1 else 0) else if u = 2 then (if k = 4 then 1 else 0) else 0) := by decide +kernel
theorem rU : ∀ k, k < 6 → rUnder.getD k 0 = (if k = 0 then -1 else nI (if k = 3 then 1 else if k = 4 then 2 else 0)) := by decide +kernel
section
variable {E : rE} {d B n : Nat} {σ : Nat → Int32} {h : rHp} {f : Int32 → rHp → Prop} {fn : rHp → Prop}
theorem c_under {k u : Nat} (hk : k < 6) (hu : u < 6) (H : f (undF 6 k u) h) : rCall E (d + 2) mLa_isUnder [pI (nI k), pI (nI u)] SH h (rPi SH f) := by
  apply vLa_isUnder
  have go : ∀ (m s k : Nat) (v0 : Int32), m + s = 6 → k < 6 → f (undF m k u) h → rR E (rCall E (d + 1)) mLa_isUnder (rPi SH f) 4 [some (pI v0), some (pI (nI u)), some (pI (nI k)), some (pI (nI s))] [] SH h 0 0 := by
    intro m
    induction m with
    | zero =>
      intro s k v0 hs hk H
      exact vLa_isUnder_4 (br_t (nI_le (a := 6) (by omega) (by omega)) ⟨rfl, H⟩)
    | succ m ih =>
      intro s k v0 hs hk H
      unfold undF at H
      refine vLa_isUnder_4 (br_f (nI_ge (b := 6) (by omega) (by omega)) (c_wi1 (m := 5) (by omega) (by omega) (o1 ⟨fun e => ⟨rfl, ?_⟩, fun e => ⟨vp_in_nI hk (by omega), ?_⟩⟩)))
      · rwa [if_pos ((nI_eq (by omega) (by omega)).1 e)] at H
      · rw [if_neg (fun c => e (by rw [c]))] at H
        rw [nI_clamp (by omega), rU k hk, ← nI_succ]
        by_cases k0 : k = 0
        · rw [if_pos k0] at H ⊢
          cases m with
          | zero => exact vLa_isUnder_4 (br_t (nI_le (a := 6) (by omega) (by omega)) ⟨rfl, H⟩)
          | succ m => exact vLa_isUnder_4 (br_f (nI_ge (b := 6) (by omega) (by omega)) (c_wi0 (m := 5) (by unfold Bd; decide) (by omega) (o0 ⟨rfl, H⟩)))
        · rw [if_neg k0] at H ⊢
          exact ih (s + 1) _ v0 (by omega) (by split <;> (try split) <;> omega) H
  exact go 6 0 k (nI k) rfl hk H
theorem m_under {k u : Nat} (hk : k < 6) (hu : u < 6) (H : f (undF 6 k u) h) : rCall E (d + 1) mMo_isUnder [pI (nI k), pI (nI u)] SH h (rPi SH f) := by
  rw [und_sp k hk u hu] at H
  have e0 : nI u = 0 ↔ u = 0 := nI_eq (b := 0) (by omega) (by omega)
  have ek : nI k = nI u ↔ k = u := nI_eq (by omega) (by omega)
  have e1 : nI u = 1 ↔ u = 1 := nI_eq (b := 1) (by omega) (by omega)
  have e2 : nI u = 2 ↔ u = 2 := nI_eq (b := 2) (by omega) (by omega)
  have e3 : nI k = 3 ↔ k = 3 := nI_eq (b := 3) (by omega) (by omega)
  have e4 : nI k = 4 ↔ k = 4 := nI_eq (b := 4) (by omega) (by omega)
  apply vMo_isUnder
  rw [e0, ek, e1, e2, e3, e4]
  refine ⟨fun c0 => ⟨rfl, ?_⟩, fun c0 => ⟨fun ck => ⟨rfl, ?_⟩, fun ck => ⟨fun c1 => ⟨fun c3 => ⟨rfl, ?_⟩, fun c3 => ⟨fun c2 => absurd (c1.symm.trans c2) (by omega), fun c2 => ⟨rfl, ?_⟩⟩⟩, fun c1 => ⟨fun c2 => ⟨fun c4 => ⟨rfl, ?_⟩, fun c4 => ⟨rfl, ?_⟩⟩, fun c2 => ⟨rfl, ?_⟩⟩⟩⟩⟩
  · rwa [if_pos c0] at H
  · rwa [if_neg c0, if_pos ck] at H
  · rwa [if_neg c0, if_neg ck, if_pos c1, if_pos c3] at H
  · rwa [if_neg c0, if_neg ck, if_pos c1, if_neg c3] at H
  · rwa [if_neg c0, if_neg ck, if_neg c1, if_pos c2, if_pos c4] at H
  · rwa [if_neg c0, if_neg ck, if_neg c1, if_pos c2, if_neg c4] at H
  · rwa [if_neg c0, if_neg ck, if_neg c1, if_neg c2] at H
theorem c_hrow0 {s : Nat} (hs : s < 4) (e : h 30 s = -1) (H : f 0 h) : rCall E (d + 1) mSf_holdsRow [pR 28, pI (nI s)] SH h (rPi SH f) := by
  apply vSf_holdsRow
  rw [nI_clamp (by omega), e]
  exact ⟨vp_in_nI hs (by omega), br_t rfl ⟨rfl, H⟩⟩
theorem c_hrow1 {s q : Nat} (hs : s < 4) (hq : q < 4) (e : h 30 s = nI q) (H : f 1 h) : rCall E (d + 1) mSf_holdsRow [pR 28, pI (nI s)] SH h (rPi SH f) := by
  apply vSf_holdsRow
  rw [nI_clamp (by omega), e]
  exact ⟨vp_in_nI hs (by omega), br_f (nm1 (by omega)) ⟨rfl, H⟩⟩
theorem m_held0 {s : Nat} {x : Int32} (hs : s < 4) (e : h 46 s = x) (hx : ¬ x = 1) (H : f x h) : rCall E (d + 2) mMo_heldOn [pR 35, pI (nI s)] SH h (rPi SH f) := by
  apply vMo_heldOn
  rw [nI_clamp (by omega), e]
  exact ⟨vp_in_nI hs (by omega), br_f hx ⟨vp_in_nI hs (by omega), rfl, H⟩⟩
theorem m_held1 {s o : Nat} (hW : Wf B n σ) (hM : Mo n σ h) (hs : s < 4) (e : h 46 s = 1) (e2 : h 47 s = nI o) (ho : o < n) (H : f 1 h) : rCall E (d + 2) mMo_heldOn [pR 35, pI (nI s)] SH h (rPi SH f) := by
  apply vMo_heldOn
  rw [nI_clamp (by omega), e, e2]
  refine ⟨vp_in_nI hs (by omega), br_t rfl ⟨vp_in_nI hs (by omega), m_one1 hW hM ho (o1 ⟨vp_in_nI hs (by omega), rfl, ?_⟩)⟩⟩
  rw [e]
  exact H
theorem m_held2 {s o : Nat} (hW : Wf B n σ) (hM : Mo n σ h) (hs : s < 4) (e : h 46 s = 1) (e2 : h 47 s = nI o) (h8 : o < 8) (ho : ¬ o < n) (H : f 0 h) : rCall E (d + 2) mMo_heldOn [pR 35, pI (nI s)] SH h (rPi SH f) := by
  have hn := hW.1.1
  apply vMo_heldOn
  rw [nI_clamp (by omega), e, e2]
  exact ⟨vp_in_nI hs (by omega), br_t rfl ⟨vp_in_nI hs (by omega), m_one0 hW hM (Or.inr ⟨nI_pos (by omega), nI_le (by omega) (by omega)⟩) (o0 ⟨rfl, H⟩)⟩⟩
theorem two_taken (hB : B + 1 < 1000000) (hR : Rel B h) (a1 a2 : Int32) : Two E B h mLa_taken mMo_taken [pI a1, pI a2] := by
  have hR' := hR
  obtain ⟨⟨n, σ, hW, hS, hM⟩, h1, h2, h3, h4, h5, h6⟩ := hR'
  have hn := hW.1.1
  have e10 : (10:Int32).toInt = 10 := by decide
  have e13 : (13:Int32).toInt = 13 := by decide
  rcases qr a1 0 3 (by omega) with ⟨s, _, hs, rfl⟩ | hb
  · have vs : vp_in (nI s) 4 := vp_in_nI (by omega) (by omega)
    have cs : (nI s).toNatClampNeg = s := nI_clamp (by omega)
    rcases qr a2 0 5 (by omega) with ⟨u, _, hu, rfl⟩ | hb5
    · have mIn : ∀ (h0 : rHp) (f : Int32 → rHp → Prop), rCall E 39 mMo_heldOn [pR 35, pI (nI s)] SH h0 (rPi SH (fun x8 g7 => (x8 = 0 → f (-11) g7) ∧ (¬ x8 = 0 → f x8 g7))) → True := fun _ _ _ => trivial
      have l10 : nI u < 10 := nI_lt (b := 10) (by omega) (by omega)
      have n10 : ¬ (10:Int32) ≤ nI u := nI_ge (b := 10) (by omega) (by omega)
      have b69 : Bd (nI u) 6 9 := by unfold Bd; rw [nI_toInt (by omega)]; omega
      rcases h5 s (by omega) with ⟨s1, s2, s3⟩ | ⟨o, ho8, s1, s2, s3, s4⟩ | ⟨q, z, hq, hz, s1, s2, s3, s4, s5, s6⟩
      · refine two_no hB hR (-11) (fun f H => vLa_taken (c_wi1 (m := 5) hu (by omega) (br_t l10 (c_wi1 (m := 3) hs (by omega) (o1 (o1 (c_hrow0 (by omega) s2 (o0 ⟨vs, ?_⟩)))))))) (fun h0 f e H => vMo_taken (m_shelf1 hs (o1 (m_in1 (lo := 0) (hi := 13) (by omega) (by omega) (by omega) (o1 (m_in0 (lo := 6) (hi := 9) b69 (by omega) (by omega) (o0 (m_held0 (by omega) (by rw [e 46 (by omega), s3]) (by decide) (o0 ⟨rfl, mN0 H⟩)))))))))
        rw [cs, s1]
        exact c_has0 (t := 0) t0 hW hS (Or.inl (by decide)) (o0 ⟨rfl, hN0 H⟩)
      · by_cases ho : o < n
        · obtain ⟨k, hk, hk2⟩ := hW.2.2.2.2.1 o ho
          refine two_no hB hR (if undF 6 k u = 0 then -13 else nI o) (fun f H => vLa_taken (c_wi1 (m := 5) hu (by omega) (br_t l10 (c_wi1 (m := 3) hs (by omega) (o1 (o1 (c_hrow0 (by omega) s2 (o0 ⟨vs, ?_⟩)))))))) (fun h0 f e H => vMo_taken (m_shelf1 hs (o1 (m_in1 (lo := 0) (hi := 13) (by omega) (by omega) (by omega) (o1 (m_in0 (lo := 6) (hi := 9) b69 (by omega) (by omega) (o0 (m_held1 hW (Mo_far hM (e 36 (by omega))) (by omega) (by rw [e 46 (by omega), s3]) (by rw [e 47 (by omega), s4]) ho (o1 (br_f n10 (br_t rfl ⟨vs, ?_⟩)))))))))))
          · rw [cs, s1]
            refine c_has1 (t := 0) t0 hW hS ho (o1 (o1 ⟨vp_in_nI (by omega) (by omega), ?_⟩))
            rw [nI_clamp (by omega), S0_k hS ho, hk2]
            refine c_under hk (by omega) ⟨fun c => ⟨rfl, ?_⟩, fun c => ⟨rfl, ?_⟩⟩
            · rw [if_pos c] at H; exact hN0 H
            · rw [if_neg c] at H; exact hN0 H
          · rw [cs, e 47 (by omega), s4]
            refine m_it0 (Mo_far hM (e 36 (by omega))) hn ho ?_
            rw [hk2]
            refine m_under hk (by omega) ⟨fun c => ⟨rfl, ?_⟩, fun c => ⟨vs, rfl, ?_⟩⟩
            · rw [if_pos c] at H; exact mN0 H
            · rw [if_neg c] at H
              rw [e 47 (by omega), s4]
              exact mN0 H
        · refine two_no hB hR (-11) (fun f H => vLa_taken (c_wi1 (m := 5) hu (by omega) (br_t l10 (c_wi1 (m := 3) hs (by omega) (o1 (o1 (c_hrow0 (by omega) s2 (o0 ⟨vs, ?_⟩)))))))) (fun h0 f e H => vMo_taken (m_shelf1 hs (o1 (m_in1 (lo := 0) (hi := 13) (by omega) (by omega) (by omega) (o1 (m_in0 (lo := 6) (hi := 9) b69 (by omega) (by omega) (o0 (m_held2 hW (Mo_far hM (e 36 (by omega))) (by omega) (by rw [e 46 (by omega), s3]) (by rw [e 47 (by omega), s4]) ho8 ho (o0 ⟨rfl, mN0 H⟩)))))))))
          rw [cs, s1]
          exact c_has0 (t := 0) t0 hW hS (Or.inr ⟨nI_pos (by omega), nI_le (by omega) (by omega)⟩) (o0 ⟨rfl, hN0 H⟩)
      · exact two_no hB hR (-13) (fun f H => vLa_taken (c_wi1 (m := 5) hu (by omega) (br_t l10 (c_wi1 (m := 3) hs (by omega) (o1 (o1 (c_hrow1 (by omega) hq s2 (o1 ⟨rfl, hN0 H⟩)))))))) (fun h0 f e H => vMo_taken (m_shelf1 hs (o1 (m_in1 (lo := 0) (hi := 13) (by omega) (by omega) (by omega) (o1 (m_in0 (lo := 6) (hi := 9) b69 (by omega) (by omega) (o0 (m_held0 (by omega) (by rw [e 46 (by omega), s4]) (by decide) (br_f (by decide) (br_f n10 (br_f (by decide) ⟨rfl, mN0 H⟩)))))))))))
    · rcases qr a2 10 13 (by omega) with ⟨w, hw1, hw, rfl⟩ | hb13
      · have l10 : ¬ nI w < 10 := nI_nlt (b := 10) (by omega) (by omega)
        have l13 : ¬ 13 < nI w := nI_nlt (a := 13) (by omega) (by omega)
        have n10 : (10:Int32) ≤ nI w := nI_le (a := 10) (by omega) (by omega)
        have em : nI w - 10 = nI (w - 10) := pk_sub (b := 10) (by omega)
        have b69 : Bd (nI w) 6 9 := by unfold Bd; rw [nI_toInt (by omega)]; omega
        rcases h5 s (by omega) with ⟨s1, s2, s3⟩ | ⟨o, ho8, s1, s2, s3, s4⟩ | ⟨q, z, hq, hz, s1, s2, s3, s4, s5, s6⟩
        · refine two_no hB hR (-11) (fun f H => vLa_taken (c_wi0 (m := 5) hb5 (by omega) (br_f l10 (br_f l13 (c_wi1 (m := 3) hs (by omega) (o1 (o0 (c_hrow0 (by omega) s2 (o0 ⟨vs, ?_⟩))))))))) (fun h0 f e H => vMo_taken (m_shelf1 hs (o1 (m_in1 (lo := 0) (hi := 13) (by omega) (by omega) (by omega) (o1 (m_in0 (lo := 6) (hi := 9) b69 (by omega) (by omega) (o0 (m_held0 (by omega) (by rw [e 46 (by omega), s3]) (by decide) (o0 ⟨rfl, mN0 H⟩)))))))))
          rw [cs, s1]
          exact c_has0 (t := 0) t0 hW hS (Or.inl (by decide)) (o0 ⟨rfl, hN0 H⟩)
        · by_cases ho : o < n
          · refine two_no hB hR (-13) (fun f H => vLa_taken (c_wi0 (m := 5) hb5 (by omega) (br_f l10 (br_f l13 (c_wi1 (m := 3) hs (by omega) (o1 (o0 (c_hrow0 (by omega) s2 (o0 ⟨vs, ?_⟩))))))))) (fun h0 f e H => vMo_taken (m_shelf1 hs (o1 (m_in1 (lo := 0) (hi := 13) (by omega) (by omega) (by omega) (o1 (m_in0 (lo := 6) (hi := 9) b69 (by omega) (by omega) (o0 (m_held1 hW (Mo_far hM (e 36 (by omega))) (by omega) (by rw [e 46 (by omega), s3]) (by rw [e 47 (by omega), s4]) ho (o1 (br_t n10 (br_f (by decide) ⟨rfl, mN0 H⟩)))))))))))
            rw [cs, s1]
            exact c_has1 (t := 0) t0 hW hS ho (o1 (o0 ⟨rfl, hN0 H⟩))
          · refine two_no hB hR (-11) (fun f H => vLa_taken (c_wi0 (m := 5) hb5 (by omega) (br_f l10 (br_f l13 (c_wi1 (m := 3) hs (by omega) (o1 (o0 (c_hrow0 (by omega) s2 (o0 ⟨vs, ?_⟩))))))))) (fun h0 f e H => vMo_taken (m_shelf1 hs (o1 (m_in1 (lo := 0) (hi := 13) (by omega) (by omega) (by omega) (o1 (m_in0 (lo := 6) (hi := 9) b69 (by omega) (by omega) (o0 (m_held2 hW (Mo_far hM (e 36 (by omega))) (by omega) (by rw [e 46 (by omega), s3]) (by rw [e 47 (by omega), s4]) ho8 ho (o0 ⟨rfl, mN0 H⟩)))))))))
            rw [cs, s1]
            exact c_has0 (t := 0) t0 hW hS (Or.inr ⟨nI_pos (by omega), nI_le (by omega) (by omega)⟩) (o0 ⟨rfl, hN0 H⟩)
        · refine two_no hB hR (if nI q = nI (w - 10) then nI z else -13) (fun f H => vLa_taken (c_wi0 (m := 5) hb5 (by omega) (br_f l10 (br_f l13 (c_wi1 (m := 3) hs (by omega) (o1 (o0 (c_hrow1 (by omega) hq s2 (o1 ⟨vs, ?_⟩))))))))) (fun h0 f e H => vMo_taken (m_shelf1 hs (o1 (m_in1 (lo := 0) (hi := 13) (by omega) (by omega) (by omega) (o1 (m_in0 (lo := 6) (hi := 9) b69 (by omega) (by omega) (o0 (m_held0 (by omega) (by rw [e 46 (by omega), s4]) (by decide) (br_f (by decide) (br_t n10 (br_t rfl ⟨vs, ?_⟩)))))))))))
          · rw [cs, s2, s3, em]
            refine ⟨fun c => ⟨vs, rfl, ?_⟩, fun c => ⟨rfl, ?_⟩⟩
            · rw [if_pos c] at H; exact hN0 H
            · rw [if_neg c] at H; exact hN0 H
          · rw [cs, e 47 (by omega), s5, e 48 (by omega), s6, em]
            refine ⟨fun c => ⟨vs, rfl, ?_⟩, fun c => ⟨rfl, ?_⟩⟩
            · rw [if_pos c] at H; exact mN0 H
            · rw [if_neg c] at H; exact mN0 H
      · refine two_no hB hR (-1) (fun f H => vLa_taken (c_wi0 (m := 5) hb5 (by omega) ⟨fun _ => c_wi1 (m := 3) hs (by omega) (o1 (o0 ⟨rfl, hN0 H⟩)), fun c1 => ⟨fun _ => c_wi1 (m := 3) hs (by omega) (o1 (o0 ⟨rfl, hN0 H⟩)), fun c2 => ?_⟩⟩)) (fun h0 f e H => vMo_taken (m_shelf1 hs (o1 ?_)))
        · exfalso
          rw [Int32.lt_iff_toInt_lt, e10] at c1
          rw [Int32.lt_iff_toInt_lt, e13] at c2
          unfold Bd at hb13
          omega
        · rcases qr a2 6 9 (by omega) with ⟨w, hw1, hw, rfl⟩ | hb69
          · exact m_in1 (lo := 0) (hi := 13) (by omega) (by omega) (by omega) (o1 (m_in1 (lo := 6) (hi := 9) (by omega) (by omega) (by omega) (o1 ⟨rfl, mN0 H⟩)))
          · refine m_in0 (lo := 0) (hi := 13) ?_ (by omega) (by omega) (o0 ⟨rfl, mN0 H⟩)
            unfold Bd at hb5 hb13 hb69 ⊢
            omega
  · refine two_no hB hR (-1) (fun f H => vLa_taken ?_) (fun h0 f e H => vMo_taken (m_shelf0 hb (o0 ⟨rfl, mN0 H⟩)))
    rcases qr a2 0 5 (by omega) with ⟨u, _, hu, rfl⟩ | hb5
    · exact c_wi1 (m := 5) hu (by omega) (br_t (nI_lt (b := 10) (by omega) (by omega)) (c_wi0 (m := 3) hb (by omega) (o0 ⟨rfl, hN0 H⟩)))
    · exact c_wi0 (m := 5) hb5 (by omega) ⟨fun _ => c_wi0 (m := 3) hb (by omega) (o0 ⟨rfl, hN0 H⟩), fun _ => ⟨fun _ => c_wi0 (m := 3) hb (by omega) (o0 ⟨rfl, hN0 H⟩), fun _ => c_wi0 (m := 3) hb (by omega) (o0 ⟨rfl, hN0 H⟩)⟩⟩
theorem c_clearS {s : Nat} (hs : s < 4) (H : fn (rUp (rUp (rUp h 29 s (-1)) 30 s (-1)) 31 s 0)) : rCall E (d + 1) mSf_clear [pR 28, pI (nI s)] SH h (rPn SH fn) := by
  have vs : vp_in (nI s) 4 := vp_in_nI (by omega) (by omega)
  apply vSf_clear
  rw [nI_clamp (by omega)]
  exact ⟨vs, vs, vs, rfl, H⟩
/-- a shelf altered on both sides -/
theorem rel_shelf {s : Nat} {x29 x30 x31 x46 x47 x48 : Int32} {h2 : rHp} (hB : B + 1 < 1000000) (hR : Rel B h) (hs : s < 4) (q : ∀ b, b ≠ 29 ∧ b ≠ 30 ∧ b ≠ 31 ∧ b ≠ 46 ∧ b ≠ 47 ∧ b ≠ 48 → h2 b = h b) (e29 : h2 29 = sW (h 29) s x29) (e30 : h2 30 = sW (h 30) s x30) (e31 : h2 31 = sW (h 31) s x31) (e46 : h2 46 = sW (h 46) s x46) (e47 : h2 47 = sW (h 47) s x47) (e48 : h2 48 = sW (h 48) s x48)
    (H : (x29 = -1 ∧ x30 = -1 ∧ x46 = 0) ∨ (∃ o, o < 8 ∧ x29 = nI o ∧ x30 = -1 ∧ x46 = 1 ∧ x47 = nI o) ∨ ∃ q z, q < 4 ∧ z ≤ 40 ∧ x29 = -1 ∧ x30 = nI q ∧ x31 = nI z ∧ x46 = 2 ∧ x47 = nI q ∧ x48 = nI z) : Rel (B + 1) h2 := by
  have q := q
  obtain ⟨⟨n, σ, hW, hS, hM⟩, h1, h2', h3, h4, h5, h6⟩ := hR
  refine ⟨⟨n, σ, Wf_le hW (by omega) hB, St_far hS (fun b c1 c2 => q b (by omega)), Mo_far hM (q 36 (by omega))⟩, RK_far (RK_le hB h1) (congrFun (q 0 (by omega)) 9) (congrFun (q 35 (by omega)) 5) (fun b c1 c2 => q b (by omega)) (q 37 (by omega)), RT_far h2' (congrFun (q 22 (by omega)) 1) (congrFun (q 35 (by omega)) 7) (q 23 (by omega)) (q 41 (by omega)), RR_far h3 (congrFun (q 0 (by omega)) 8) (congrFun (q 35 (by omega)) 14) (q 34 (by omega)) (q 42 (by omega)), RS_far h4 (q 25 (by omega)) (q 26 (by omega)) (q 27 (by omega)) (q 43 (by omega)) (q 44 (by omega)) (q 45 (by omega)), ?_, RA_far h6 (congrFun (q 32 (by omega)) 1) (congrFun (q 35 (by omega)) 22) (q 33 (by omega)) (q 49 (by omega))⟩
  intro u hu
  rw [e29, e30, e31, e46, e47, e48]
  by_cases c : u = s
  · subst c
    rw [sW_eq, sW_eq, sW_eq, sW_eq, sW_eq, sW_eq]
    exact H
  · rw [sW_ne c, sW_ne c, sW_ne c, sW_ne c, sW_ne c, sW_ne c]
    exact h5 u hu
theorem m_shelf45 {s : Nat} {v2 v3 x46 x47 x48 : Int32} (hs : s < 4) (hc : (v2 = 0 ∧ x46 = 1 ∧ x47 = v3 ∧ x48 = 0) ∨ (v2 = 2 ∧ x46 = 0 ∧ x47 = 0 ∧ x48 = 0) ∨ (∃ t, t < 4 ∧ v2 = 1 ∧ v3 = nI t ∧ h 43 t = -1 ∧ x46 = 0 ∧ x47 = 0 ∧ x48 = 0) ∨ (∃ t q z, t < 4 ∧ q < 4 ∧ v2 = 1 ∧ v3 = nI t ∧ h 43 t = nI q ∧ h 44 t = nI z ∧ x46 = 2 ∧ x47 = nI q ∧ x48 = nI z))
    (H : f 1 (rUp (rUp (rUp h 46 s x46) 47 s x47) 48 s x48)) : rR E (rCall E d) mMo_shelf (rPi SH f) 45 [some (pR 35), some (pI (nI s)), some (pI v2), some (pI v3), none] [] SH h 0 0 := by
  have vs : vp_in (nI s) 4 := vp_in_nI (by omega) (by omega)
  have cs : (nI s).toNatClampNeg = s := nI_clamp (by omega)
  have fin : ∀ v4, rR E (rCall E d) mMo_shelf (rPi SH f) 139 [some (pR 35), some (pI (nI s)), some (pI v2), some (pI v3), some (pI v4)] [pI x48, pI (nI s), pR 48] SH (rUp (rUp h 46 s x46) 47 s x47) 0 0 := fun v4 => vMo_shelf_139 ⟨vs, by rw [cs]; exact ⟨rfl, H⟩⟩
  have no : x48 = 0 → ∀ v4, v4 = 0 → rR E (rCall E d) mMo_shelf (rPi SH f) 118 [some (pR 35), some (pI (nI s)), some (pI v2), some (pI v3), some (pI v4)] [pI x47, pI (nI s), pR 47] SH (rUp h 46 s x46) 0 0 := fun e v4 e4 => vMo_shelf_118 ⟨vs, br_t e4 (by rw [cs, ← e]; exact fin v4)⟩
  rcases hc with ⟨c1, c2, c3, c4⟩ | ⟨c1, c2, c3, c4⟩ | ⟨t, ht, c1, c5, c6, c2, c3, c4⟩ | ⟨t, q, z, ht, hq, c1, c5, c6, c7, c2, c3, c4⟩
  · refine vMo_shelf_45 (br_f (by rw [c1]; decide) (vMo_shelf_64 (br_t c1 (vMo_shelf_89 ⟨vs, br_t c1 ?_⟩))))
    rw [cs]
    have := no c4 0 rfl
    rw [c2, c3] at this
    exact this
  · refine vMo_shelf_45 (br_f (by rw [c1]; decide) (vMo_shelf_64 (br_f (by rw [c1]; decide) (br_t rfl (vMo_shelf_89 ⟨vs, br_f (by rw [c1]; decide) (br_t rfl ?_)⟩)))))
    rw [cs]
    have := no c4 0 rfl
    rw [c2, c3] at this
    exact this
  · have vt : vp_in (nI t) 4 := vp_in_nI (by omega) (by omega)
    refine vMo_shelf_45 (br_t c1 ⟨by rw [c5]; exact vt, br_t (by rw [c5, nI_clamp (by omega), c6]; decide) (vMo_shelf_64 (br_f (by rw [c1]; decide) (br_t rfl (vMo_shelf_89 ⟨vs, br_f (by rw [c1]; decide) (br_t rfl ?_)⟩))))⟩)
    rw [cs]
    have := no c4 0 rfl
    rw [c2, c3] at this
    exact this
  · have vt : vp_in (nI t) 4 := vp_in_nI (by omega) (by omega)
    have ct : v3.toNatClampNeg = t := by rw [c5]; exact nI_clamp (by omega)
    refine vMo_shelf_45 (br_t c1 ⟨by rw [c5]; exact vt, br_f (by rw [ct, c6]; exact nI_pos (by omega)) (vMo_shelf_64 (br_f (by rw [c1]; decide) (br_f (by decide) (vMo_shelf_89 ⟨vs, br_f (by rw [c1]; decide) (br_f (by decide) ⟨by rw [c5]; exact vt, vMo_shelf_118 ⟨vs, br_f (by decide) ⟨by rw [c5]; exact vt, ?_⟩⟩⟩)⟩))))⟩)
    rw [cs, ct, rUp_o (show (44:Nat) ≠ 46 by omega), c6, c7]
    have := fin 1
    rw [c2, c3, c4] at this
    exact this
theorem two_shelf (hB : B + 1 < 1000000) (hR : Rel B h) (a1 a2 a3 : Int32) : Two E B h mLa_shelf mMo_shelf [pI a1, pI a2, pI a3] := by
  have hR' := hR
  obtain ⟨⟨n, σ, hW, hS, hM⟩, h1, h2, h3, h4, h5, h6⟩ := hR'
  have hn := hW.1.1
  rcases qr a1 0 3 (by omega) with ⟨s, _, hs, rfl⟩ | hb
  · have vs : vp_in (nI s) 4 := vp_in_nI (by omega) (by omega)
    have cs : (nI s).toNatClampNeg = s := nI_clamp (by omega)
    rcases qr a2 0 2 (by omega) with ⟨w, _, hw, rfl⟩ | hb2
    · rcases (by omega : w = 0 ∨ w = 1 ∨ w = 2) with rfl | rfl | rfl
      · rcases qa a3 n (by omega) with ⟨o, ho, rfl⟩ | hb3
        · refine vLa_shelf (c_wi1 (m := 3) hs (by omega) (o1 (br_t rfl (c_has1 (t := 0) t0 hW hS ho (o1 (vSf_holdThing (c_clearS (by omega) ⟨vs, rfl, rfl, vMo_shelf (m_shelf1 hs (o1 (m_in1 (lo := 0) (hi := 2) (by omega) hw (by omega) (o1 (br_t rfl (m_one1 hW (Mo_far hM ?_) ho (o1 (br_f (by decide) (m_shelf45 (x46 := 1) (x47 := nI o) (x48 := 0) (by omega) (Or.inl ⟨rfl, rfl, rfl, rfl⟩) ⟨rfl, ?_⟩)))))))))⟩)))))))
          · rw [cs, rUp_o (by omega), rUp_o (by omega), rUp_o (by omega), rUp_o (by omega)]
          · rw [cs]
            refine rel_shelf (x29 := nI o) (x30 := -1) (x31 := 0) (x46 := 1) (x47 := nI o) (x48 := 0) hB hR (show s < 4 by omega) (fun b c => ?_) ?_ ?_ ?_ ?_ ?_ ?_ (Or.inr (Or.inl ⟨o, by omega, rfl, rfl, rfl, rfl⟩))
            · rw [rUp_o (by omega), rUp_o (by omega), rUp_o (by omega), rUp_o (by omega), rUp_o (by omega), rUp_o (by omega), rUp_o (by omega)]
            · rw [rUp_o (by omega), rUp_o (by omega), rUp_o (by omega), rUp_a, rUp_o (by omega), rUp_o (by omega), rUp_a, sW_sW]
            · rw [rUp_o (by omega), rUp_o (by omega), rUp_o (by omega), rUp_o (by omega), rUp_o (by omega), rUp_a, rUp_o (by omega)]
            · rw [rUp_o (by omega), rUp_o (by omega), rUp_o (by omega), rUp_o (by omega), rUp_a, rUp_o (by omega), rUp_o (by omega)]
            · rw [rUp_o (by omega), rUp_o (by omega), rUp_a, rUp_o (by omega), rUp_o (by omega), rUp_o (by omega), rUp_o (by omega)]
            · rw [rUp_o (by omega), rUp_a, rUp_o (by omega), rUp_o (by omega), rUp_o (by omega), rUp_o (by omega), rUp_o (by omega)]
            · rw [rUp_a, rUp_o (by omega), rUp_o (by omega), rUp_o (by omega), rUp_o (by omega), rUp_o (by omega), rUp_o (by omega)]
        · exact two_no hB hR (-1) (fun f H => vLa_shelf (c_wi1 (m := 3) hs (by omega) (o1 (br_t rfl (c_has0 (t := 0) t0 hW hS hb3 (o0 ⟨rfl, hN0 H⟩)))))) (fun h0 f e H => vMo_shelf (m_shelf1 hs (o1 (m_in1 (lo := 0) (hi := 2) (by omega) hw (by omega) (o1 (br_t rfl (m_one0 hW (Mo_far hM (e 36 (by omega))) hb3 (o0 ⟨rfl, mN0 H⟩))))))))
      · rcases qr a3 0 3 (by omega) with ⟨t, _, ht, rfl⟩ | hb3
        · have vt : vp_in (nI t) 4 := vp_in_nI (by omega) (by omega)
          have ct : (nI t).toNatClampNeg = t := nI_clamp (by omega)
          refine vLa_shelf (c_wi1 (m := 3) hs (by omega) (o1 (br_f (by decide) (br_t rfl (c_wi1 (m := 3) ht (by omega) (o1 ⟨vt, vt, vSf_holdRow (c_clearS (by omega) ⟨vs, vs, rfl, rfl, vMo_shelf (m_shelf1 hs (o1 (m_in1 (lo := 0) (hi := 2) (by omega) hw (by omega) (o1 (br_f (by decide) (br_t rfl (m_sheet1 ht (o1 ?_))))))))⟩)⟩))))))
          rw [cs, ct]
          have fin : ∀ x30 x31 x46 x47 x48, (((-1:Int32) = -1 ∧ x30 = -1 ∧ x46 = 0) ∨ (∃ o, o < 8 ∧ (-1:Int32) = nI o ∧ x30 = -1 ∧ x46 = 1 ∧ x47 = nI o) ∨ ∃ q z, q < 4 ∧ z ≤ 40 ∧ (-1:Int32) = -1 ∧ x30 = nI q ∧ x31 = nI z ∧ x46 = 2 ∧ x47 = nI q ∧ x48 = nI z) → Rel (B + 1) (rUp (rUp (rUp (rUp (rUp (rUp (rUp (rUp h 29 s (-1)) 30 s (-1)) 31 s 0) 30 s x30) 31 s x31) 46 s x46) 47 s x47) 48 s x48) := by
            intro x30 x31 x46 x47 x48 hx
            refine rel_shelf (x29 := -1) (x30 := x30) (x31 := x31) (x46 := x46) (x47 := x47) (x48 := x48) hB hR (show s < 4 by omega) (fun b c => ?_) ?_ ?_ ?_ ?_ ?_ ?_ hx
            · rw [rUp_o (by omega), rUp_o (by omega), rUp_o (by omega), rUp_o (by omega), rUp_o (by omega), rUp_o (by omega), rUp_o (by omega), rUp_o (by omega)]
            · rw [rUp_o (by omega), rUp_o (by omega), rUp_o (by omega), rUp_o (by omega), rUp_o (by omega), rUp_o (by omega), rUp_o (by omega), rUp_a]
            · rw [rUp_o (by omega), rUp_o (by omega), rUp_o (by omega), rUp_o (by omega), rUp_a, rUp_o (by omega), rUp_a, rUp_o (by omega), sW_sW]
            · rw [rUp_o (by omega), rUp_o (by omega), rUp_o (by omega), rUp_a, rUp_o (by omega), rUp_a, rUp_o (by omega), rUp_o (by omega), sW_sW]
            · rw [rUp_o (by omega), rUp_o (by omega), rUp_a, rUp_o (by omega), rUp_o (by omega), rUp_o (by omega), rUp_o (by omega), rUp_o (by omega)]
            · rw [rUp_o (by omega), rUp_a, rUp_o (by omega), rUp_o (by omega), rUp_o (by omega), rUp_o (by omega), rUp_o (by omega), rUp_o (by omega)]
            · rw [rUp_a, rUp_o (by omega), rUp_o (by omega), rUp_o (by omega), rUp_o (by omega), rUp_o (by omega), rUp_o (by omega), rUp_o (by omega)]
          rcases h4 t (by omega) with ⟨s1, s2⟩ | ⟨q, z, hq, hz, s1, s2, s3, s4, s5⟩
          · refine m_shelf45 (x46 := 0) (x47 := 0) (x48 := 0) (by omega) (Or.inr (Or.inr (Or.inl ⟨t, by omega, rfl, rfl, ?_, rfl, rfl, rfl⟩))) ⟨rfl, fin _ _ _ _ _ (Or.inl ⟨rfl, s1, rfl⟩)⟩
            rw [rUp_o (by omega), rUp_o (by omega), rUp_o (by omega), rUp_o (by omega), rUp_o (by omega), s2]
          · refine m_shelf45 (x46 := 2) (x47 := nI q) (x48 := nI z) (by omega) (Or.inr (Or.inr (Or.inr ⟨t, q, z, by omega, hq, rfl, rfl, ?_, ?_, rfl, rfl, rfl⟩))) ⟨rfl, fin _ _ _ _ _ (Or.inr (Or.inr ⟨q, z, hq, hz, rfl, s1, s3, rfl, rfl, rfl⟩))⟩
            · rw [rUp_o (by omega), rUp_o (by omega), rUp_o (by omega), rUp_o (by omega), rUp_o (by omega), s2]
            · rw [rUp_o (by omega), rUp_o (by omega), rUp_o (by omega), rUp_o (by omega), rUp_o (by omega), s4]
        · exact two_no hB hR (-1) (fun f H => vLa_shelf (c_wi1 (m := 3) hs (by omega) (o1 (br_f (by decide) (br_t rfl (c_wi0 (m := 3) hb3 (by omega) (o0 ⟨rfl, hN0 H⟩))))))) (fun h0 f e H => vMo_shelf (m_shelf1 hs (o1 (m_in1 (lo := 0) (hi := 2) (by omega) hw (by omega) (o1 (br_f (by decide) (br_t rfl (m_sheet0 hb3 (o0 ⟨rfl, mN0 H⟩)))))))))
      · refine vLa_shelf (c_wi1 (m := 3) hs (by omega) (o1 (br_f (by decide) (br_f (by decide) (br_t rfl (c_clearS (by omega) ⟨rfl, vMo_shelf (m_shelf1 hs (o1 (m_in1 (lo := 0) (hi := 2) (by omega) hw (by omega) (o1 (br_f (by decide) (br_f (by decide) (m_shelf45 (x46 := 0) (x47 := 0) (x48 := 0) (by omega) (Or.inr (Or.inl ⟨rfl, rfl, rfl, rfl⟩)) ⟨rfl, ?_⟩)))))))⟩))))))
        refine rel_shelf (x29 := -1) (x30 := -1) (x31 := 0) (x46 := 0) (x47 := 0) (x48 := 0) hB hR (show s < 4 by omega) (fun b c => ?_) ?_ ?_ ?_ ?_ ?_ ?_ (Or.inl ⟨rfl, rfl, rfl⟩)
        · rw [rUp_o (by omega), rUp_o (by omega), rUp_o (by omega), rUp_o (by omega), rUp_o (by omega), rUp_o (by omega)]
        · rw [rUp_o (by omega), rUp_o (by omega), rUp_o (by omega), rUp_o (by omega), rUp_o (by omega), rUp_a]
        · rw [rUp_o (by omega), rUp_o (by omega), rUp_o (by omega), rUp_o (by omega), rUp_a, rUp_o (by omega)]
        · rw [rUp_o (by omega), rUp_o (by omega), rUp_o (by omega), rUp_a, rUp_o (by omega), rUp_o (by omega)]
        · rw [rUp_o (by omega), rUp_o (by omega), rUp_a, rUp_o (by omega), rUp_o (by omega), rUp_o (by omega)]
        · rw [rUp_o (by omega), rUp_a, rUp_o (by omega), rUp_o (by omega), rUp_o (by omega), rUp_o (by omega)]
        · rw [rUp_a, rUp_o (by omega), rUp_o (by omega), rUp_o (by omega), rUp_o (by omega), rUp_o (by omega)]
    · exact two_no hB hR (-1) (fun f H => vLa_shelf (c_wi1 (m := 3) hs (by omega) (o1 (br_f (bd_ne hb2 0 (by omega) (by omega) (by omega)) (br_f (bd_ne hb2 1 (by omega) (by omega) (by omega)) (br_f (bd_ne hb2 2 (by omega) (by omega) (by omega)) ⟨rfl, hN0 H⟩)))))) (fun h0 f e H => vMo_shelf (m_shelf1 hs (o1 (m_in0 (lo := 0) (hi := 2) hb2 (by omega) (by omega) (o0 ⟨rfl, mN0 H⟩)))))
  · exact two_no hB hR (-1) (fun f H => vLa_shelf (c_wi0 (m := 3) hb (by omega) (o0 ⟨rfl, hN0 H⟩))) (fun h0 f e H => vMo_shelf (m_shelf0 hb (o0 ⟨rfl, mN0 H⟩)))
end
