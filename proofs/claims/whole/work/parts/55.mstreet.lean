def Fp (h h' : rHp) : Prop := (∀ b, b ≠ 35 ∧ b ≠ 36 → h' b = h b) ∧ ∀ j, j < 8 ∨ 12 < j → h' 35 j = h 35 j
theorem Fp_n {h h' : rHp} (a : Fn h h') : Fp h h' := ⟨fun b hb => a.1 b hb.1, a.2⟩
theorem Fp_tr {h h' h2 : rHp} (a : Fp h h') (b : Fp h' h2) : Fp h h2 := ⟨fun c hc => (b.1 c hc).trans (a.1 c hc), fun j hj => (b.2 j hj).trans (a.2 j hj)⟩
theorem Fp_rf {h : rHp} : Fp h h := ⟨fun _ _ => rfl, fun _ _ => rfl⟩
theorem Fp_36 {h h' : rHp} (a : F36 h h') : Fp h h' := ⟨fun b hb => a b hb.2, fun j _ => by rw [a 35 (by omega)]⟩
theorem TpM_p {s : Nat} {τ : Nat → Nat} {h h' : rHp} (H : TpM s τ h) (a : Fp h h') : TpM s τ h' := by
  unfold TpM
  rw [a.1 41 (by omega), a.2 7 (by omega)]
  exact H
def WM (s : Nat) (τ : Nat → Nat) (q : Nat) (h : rHp) : Prop := h 35 12 = 1 ∧ ∃ p, p ≤ s ∧ MTK s τ p h ∧ tkA s τ p = q
theorem sAdd_p {σ : Nat → Int32} {n : Nat} {k w u p p' : Int32} : sW (sAdd σ n k w u p) (13 + 5 * n) p' = sAdd σ n k w u p' := by
  unfold sAdd sLay
  rw [sW_comm (i := 14 + 5 * n) (j := 13 + 5 * n) (by omega), sW_sW]
theorem sAdd_w {σ : Nat → Int32} {n : Nat} {k w u p w' : Int32} : sW (sAdd σ n k w u p) (11 + 5 * n) w' = sAdd σ n k w' u p := by
  unfold sAdd sLay
  rw [sW_comm (i := 14 + 5 * n) (j := 11 + 5 * n) (by omega), sW_comm (i := 13 + 5 * n) (j := 11 + 5 * n) (by omega), sW_comm (i := 9) (j := 11 + 5 * n) (by omega), sW_comm (i := 12 + 5 * n) (j := 11 + 5 * n) (by omega), sW_sW, sW_ne (k := 12 + 5 * n) (i := 9) (by omega), sW_ne (k := 12 + 5 * n) (i := 9) (by omega), sW_ne (k := 11 + 5 * n) (i := 9) (by omega), sW_ne (k := 11 + 5 * n) (i := 9) (by omega)]
theorem sAdd_u {σ : Nat → Int32} {n : Nat} {k w u p u' : Int32} : sW (sAdd σ n k w u p) (12 + 5 * n) u' = sAdd σ n k w u' p := by
  unfold sAdd sLay
  rw [sW_comm (i := 14 + 5 * n) (j := 12 + 5 * n) (by omega), sW_comm (i := 13 + 5 * n) (j := 12 + 5 * n) (by omega), sW_comm (i := 9) (j := 12 + 5 * n) (by omega), sW_sW, sW_ne (k := 12 + 5 * n) (i := 9) (by omega), sW_ne (k := 12 + 5 * n) (i := 9) (by omega)]
section
variable {E : rE} {d s p n : Nat} {τ : Nat → Nat} {σ : Nat → Int32} {h : rHp} {f : Int32 → rHp → Prop} {fn : rHp → Prop}
theorem m_need1 (hT : TpM s τ h) (hK : MTK s τ p h) (hp : p ≤ s) (h12 : h 35 12 = 0) (H : ∀ h', Fn h h' → MTK s τ (tkE s τ p) h' → h' 35 12 = 0 → fn h') : rCall E (d + 3) mMo_needs [pR 35, pI 1] SH h (rPn SH fn) := by
  have hE := tk_E (τ := τ) hp
  refine vMo_needs (br_t h12 (br_f (by decide) (br_t rfl (m_next (TpM_n hT (Fn_up Fn_rf (by omega))) (p := tkE s τ p) ?_ hE.2.1 (fun h' a b c => ⟨rfl, H h' (Fn_tr (Fn_up Fn_rf (by omega)) a) c ?_⟩)))))
  · rw [rUp_a, sW_ne (by omega)]; exact hK.2.2.1
  · rw [b, rUp_a, sW_eq]
theorem MTK_12 {x : Int32} (hK : MTK s τ p h) : MTK s τ p (rUp h 35 12 x) := by
  unfold MTK
  rw [rUp_a, sW_ne (by omega), sW_ne (by omega), sW_ne (by omega), sW_ne (by omega)]
  exact hK
theorem m_need0 (hK : MTK s τ p h) (h12 : h 35 12 = 0) (H : ∀ h', Fn h h' → MTK s τ p h' → h' 35 12 = 1 → fn h') : rCall E (d + 1) mMo_needs [pR 35, pI 0] SH h (rPn SH fn) :=
  vMo_needs (br_t h12 (br_t rfl (br_f (by decide) ⟨rfl, H _ (Fn_up Fn_rf (by omega)) (MTK_12 hK) (by rw [rUp_a, sW_eq])⟩)))
theorem m_needW {x : Int32} (hK : MTK s τ p h) (h12 : h 35 12 = 1) (H : ∀ h', Fn h h' → MTK s τ p h' → h' 35 12 = 1 → fn h') : rCall E (d + 1) mMo_needs [pR 35, pI x] SH h (rPn SH fn) :=
  vMo_needs (br_f (by rw [h12]; decide) (br_f (by decide) ⟨rfl, H _ (Fn_up Fn_rf (by omega)) (MTK_12 hK) (by rw [rUp_a, sW_eq])⟩))
theorem m_num {a most : Nat} (hT : TpM s τ h) (hK : MTK s τ p h) (hp : p ≤ s) (h12 : h 35 12 = 0) (ha : a < 50) (hm : most < 1000)
    (H1 : numOK s τ p most → ∀ h', Fp h h' → h' 36 = sW (h 36) a (nI (numV s τ p)) → MTK s τ (tkE s τ p) h' → h' 35 12 = 0 → fn h')
    (H0 : ¬ numOK s τ p most → ∀ h', Fn h h' → MTK s τ p h' → h' 35 12 = 1 → fn h') : rCall E (d + 4) mMo_numberTo [pR 35, pI (nI a), pI (nI most)] SH h (rPn SH fn) := by
  have hs := hT.1
  have hE := tk_E (τ := τ) hp
  have hTT := tk_T (s := s) (τ := τ) p
  apply vMo_numberTo
  rw [hK.1, hK.2.1, hK.2.2.1, pk_sub hE.1, nI_clamp (by omega)]
  refine ⟨fun c => ?_, fun c => m_need0 hK h12 (fun h' a b e => ⟨rfl, H0 (fun q => c (by rw [q.1]; rfl)) h' a b e⟩)⟩
  have t2 : tkT s τ p = 2 := (nI_eq (b := 2) (by omega) (by omega)).1 c
  refine ⟨fun c2 => m_need0 hK h12 (fun h' a b e => ⟨rfl, H0 (fun q => ?_) h' a b e⟩), fun c2 => ?_⟩
  · have := (nI_ltI (a := 3) (by omega) (by omega)).1 c2
    have := q.2.1
    omega
  · have t3 : tkE s τ p - tkA s τ p ≤ 3 := Nat.le_of_not_lt (fun q => c2 (nI_lt (a := 3) q (by omega)))
    have hv := numV_b hp (fun i hi => (hT.2.2 i hi).1) t2 t3
    rw [hK.2.2.2 t2 t3]
    refine ⟨fun c3 => m_need0 hK h12 (fun h' a b e => ⟨rfl, H0 (fun q => ?_) h' a b e⟩), fun c3 => br_t h12 ⟨vp_in_nI ha (by omega), ?_⟩⟩
    · have := (nI_ltI (by omega) (by omega)).1 c3
      have := q.2.2
      omega
    · have t4 : numV s τ p ≤ most := Nat.le_of_not_lt (fun q => c3 (nI_lt q (by omega)))
      have up : Fp h (rUp h 36 a (nI (numV s τ p))) := ⟨fun b hb => rUp_o hb.2, fun j _ => by rw [rUp_o (by omega)]⟩
      have e35 : rUp h 36 a (nI (numV s τ p)) 35 = h 35 := rUp_o (by omega)
      refine m_need1 (TpM_p hT up) (p := p) ?_ hp (by rw [e35]; exact h12) (fun h' q1 q2 q3 => ⟨rfl, H1 ⟨t2, t3, t4⟩ h' (Fp_tr up (Fp_n q1)) ?_ q2 q3⟩)
      · unfold MTK
        rw [e35]
        exact hK
      · rw [q1.1 36 (by omega), rUp_a]
theorem m_numW {x y : Int32} (hK : MTK s τ p h) (h12 : h 35 12 = 1) (H : ∀ h', Fn h h' → MTK s τ p h' → h' 35 12 = 1 → fn h') : rCall E (d + 2) mMo_numberTo [pR 35, pI x, pI y] SH h (rPn SH fn) := by
  have k : ∀ z : Int32, rCall E (d + 1) mMo_needs [pR 35, pI z] SH h (rPn SH (fun g => rPn SH fn none SH g)) := fun z => m_needW hK h12 (fun h' a b e => ⟨rfl, H h' a b e⟩)
  exact vMo_numberTo ⟨fun _ => ⟨fun _ => k 0, fun _ => ⟨fun _ => k 0, fun _ => br_f (by rw [h12]; decide) (k 1)⟩⟩, fun _ => k 0⟩
/-- once it is wrong -/
def FW (s : Nat) (τ : Nat → Nat) (q : Nat) (h : rHp) (fn : rHp → Prop) : Prop := ∀ h', Fp h h' → WM s τ q h' → fn h'
theorem FW_n {q : Nat} {h h' : rHp} (a : Fp h h') (H : FW s τ q h fn) : FW s τ q h' fn := fun h2 b c => H h2 (Fp_tr a b) c
theorem w121 {v1 v2 s0 : Int32} (hT : TpM s τ h) (hK : MTK s τ p h) (hp : p ≤ s) (h12 : h 35 12 = 1) (H : FW s τ (tkA s τ p) h fn) : rR E (rCall E (d + 9)) mMo_thingHere (rPn SH fn) 121 [some (pR 35), some (pI v1), some (pI v2)] [pI s0, pR 35] SH h 0 0 := by
  refine vMo_thingHere_121 (m_numW hK h12 (fun h1 a1 b1 c1 => ?_))
  have hT1 := TpM_n hT a1
  have last : ∀ x : Int32, rCall E (d + 9) mMo_perhaps [pR 35, pI x, pI (v2 + 2), pI 9] SH h1 (rPn SH (fun g7 => rPn SH fn none SH g7)) := fun x => vMo_perhaps (br_f (by rw [c1]; decide) ⟨rfl, rfl, H h1 (Fp_n a1) ⟨c1, p, hp, b1, rfl⟩⟩)
  have mid : ∀ x : Int32, rCall E (d + 9) mMo_perhaps [pR 35, pI x, pI (v2 + 1), pI 99] SH h1 (rPn SH (fun g4 => rCall E (d + 9) mMo_isFive [pR 35, pI 116, pI 114, pI 117, pI 116, pI 104] SH g4 (rPi SH (fun x6 g5 => rCall E (d + 9) mMo_perhaps [pR 35, pI x6, pI (v2 + 2), pI 9] SH g5 (rPn SH (fun g7 => rPn SH fn none SH g7)))))) := fun x => vMo_perhaps (br_f (by rw [c1]; decide) ⟨rfl, m_five (w := 8) (a := 116) (b := 114) (c := 117) (e := 116) (g := 104) rfl hT1 b1 hp (by omega) (by omega) (by omega) (by omega) (by omega) (fun _ => last 1) (fun _ => last 0)⟩)
  exact m_five (w := 7) (a := 119) (b := 111) (c := 114) (e := 116) (g := 104) rfl hT1 b1 hp (by omega) (by omega) (by omega) (by omega) (by omega) (fun _ => mid 1) (fun _ => mid 0)
theorem w87 {v1 v2 s0 : Int32} (hT : TpM s τ h) (hK : MTK s τ p h) (hp : p ≤ s) (h12 : h 35 12 = 1) (H : FW s τ (tkA s τ p) h fn) : rR E (rCall E (d + 9)) mMo_thingHere (rPn SH fn) 87 [some (pR 35), some (pI v1), some (pI v2)] [pI s0, pR 35] SH h 0 0 :=
  vMo_thingHere_87 (m_needW hK h12 (fun h1 a1 b1 c1 => br_f (by rw [c1]; decide) (vMo_thingHere_106 (br_f (by rw [c1]; decide) (w121 (TpM_n hT a1) b1 hp c1 (FW_n (Fp_n a1) H))))))
/-- whether "in" stands here -/
theorem m_in {v1 v2 : Int32} (hT : TpM s τ h) (hK : MTK s τ p h) (hp : p ≤ s) (H1 : nameIs s τ p 6 → rR E (rCall E (d + 1)) mMo_thingHere (rPn SH fn) 87 [some (pR 35), some (pI v1), some (pI v2)] [pI 1, pR 35] SH h 0 0) (H0 : ¬ nameIs s τ p 6 → rR E (rCall E (d + 1)) mMo_thingHere (rPn SH fn) 87 [some (pR 35), some (pI v1), some (pI v2)] [pI 0, pR 35] SH h 0 0) : rR E (rCall E (d + 1)) mMo_thingHere (rPn SH fn) 32 [some (pR 35), some (pI v1), some (pI v2)] [] SH h 0 0 := by
  have hs := hT.1
  have hE := tk_E (τ := τ) hp
  have hTT := tk_T (s := s) (τ := τ) p
  have hl : lt 6 = [105, 110] := rfl
  apply vMo_thingHere_32
  rw [hK.1, hK.2.1, hK.2.2.1, pk_sub hE.1]
  refine ⟨fun q1 => ⟨fun q2 => ?_, fun q2 => H0 (fun q => q2 (by rw [(nm_2 hl q).2.1]; rfl))⟩, fun q1 => H0 (fun q => q1 (by rw [q.1]; rfl))⟩
  have t1 : tkT s τ p = 1 := (nI_eq (b := 1) (by omega) (by omega)).1 q1
  have t2 : tkE s τ p - tkA s τ p = 2 := (nI_eq (b := 2) (by omega) (by omega)).1 q2
  refine m_byteAt hT (by omega) ⟨fun q3 => ?_, fun q3 => H0 (fun q => q3 ?_)⟩
  · have q3' := (bt_eq (c := 105) hT (by omega) (by omega)).1 q3
    rw [hK.2.1, ← nI_succ]
    refine m_byteAt hT (by omega) ⟨fun q4 => H1 (nm_1 hl t1 t2 (fun j hj => ?_)), fun q4 => H0 (fun q => q4 ?_)⟩
    · have q4' := (bt_eq (c := 110) hT (by omega) (by omega)).1 q4
      have hj2 : j < 2 := hj
      rcases (by omega : j = 0 ∨ j = 1) with rfl | rfl
      · exact q3'
      · exact q4'
    · exact (bt_eq (c := 110) hT (by omega) (by omega)).2 ((nm_2 hl q).2.2 1 (by simp))
  · exact (bt_eq (c := 105) hT (by omega) (by omega)).2 ((nm_2 hl q).2.2 0 (by simp))
theorem w32 {v1 v2 : Int32} (hT : TpM s τ h) (hK : MTK s τ p h) (hp : p ≤ s) (h12 : h 35 12 = 1) (H : FW s τ (tkA s τ p) h fn) : rR E (rCall E (d + 9)) mMo_thingHere (rPn SH fn) 32 [some (pR 35), some (pI v1), some (pI v2)] [] SH h 0 0 :=
  m_in hT hK hp (fun _ => w87 hT hK hp h12 H) (fun _ => w87 hT hK hp h12 H)
/-- what a thing's telling comes to, up to what must end it -/
def OT (s : Nat) (τ : Nat → Nat) (n : Nat) (σ : Nat → Int32) (k : Nat) (r : rRes) (h : rHp) (fn : rHp → Prop) : Prop :=
  (∀ q, r = .inl q → FW s τ q h fn) ∧ (∀ pl w u q, pTh4 s τ n σ k pl w u q r → q ≤ s → ∀ h', Fp h h' → Mo (n + 1) (sAdd σ n (nI k) (nI w) (nI u) (nI pl)) h' → MTK s τ q h' → h' 35 12 = 0 → fn h')
theorem OT_p {k : Nat} {r : rRes} {h h' : rHp} (a : Fp h h') (H : OT s τ n σ k r h fn) : OT s τ n σ k r h' fn := ⟨fun q e => FW_n a (H.1 q e), fun pl w u q e1 e2 h2 b => H.2 pl w u q e1 e2 h2 (Fp_tr a b)⟩
theorem WM_mk {h' : rHp} (b : MTK s τ p h') (hp : p ≤ s) (c : h' 35 12 = 1) : WM s τ (tkA s τ p) h' := ⟨c, p, hp, b, rfl⟩
theorem m_truth {k pl w : Nat} {x : Int32} {r : rRes} (hn : n < 8) (hr : pTh3 s τ n σ k pl w p r) (hT : TpM s τ h) (hK : MTK s τ p h) (hp : p ≤ s) (h12 : h 35 12 = 0) (hM : Mo (n + 1) (sAdd σ n (nI k) (nI w) (nI 0) (nI pl)) h) (hx : (nameIs s τ p 8 ∧ x = 1) ∨ (¬ nameIs s τ p 8 ∧ x = 0)) (H : OT s τ n σ k r h fn) : rCall E (d + 6) mMo_perhaps [pR 35, pI x, pI (nI (10 + 5 * n) + 2), pI 9] SH h (rPn SH fn) := by
  have hE := tk_E (τ := τ) hp
  have hE2 := tk_E (τ := τ) hE.2.1
  rw [show nI (10 + 5 * n) + (2:Int32) = nI (12 + 5 * n) from (nI_add _ 2).trans (congrArg nI (by omega))]
  refine vMo_perhaps (br_t h12 ⟨fun c => ?_, fun c => ?_⟩)
  · rcases hx with ⟨_, hx⟩ | ⟨c8, _⟩
    · rw [hx] at c
      exact absurd c (by decide)
    · rcases hr with ⟨_, h4⟩ | ⟨x8, _⟩
      · exact ⟨rfl, H.2 _ _ _ _ h4 hp h Fp_rf hM hK h12⟩
      · exact absurd x8 c8
  · rcases hx with ⟨c8, _⟩ | ⟨_, hx⟩
    · rcases hr with ⟨x8, _⟩ | ⟨_, hr⟩
      · exact absurd c8 x8
      · refine m_next hT hK.2.2.1 hE.2.1 (fun h1 a1 b1 c1 => m_num (a := 12 + 5 * n) (most := 9) (TpM_n hT a1) c1 hE.2.1 (b1.trans h12) (by omega) (by omega) (fun ok h2 a2 b2 c2 e2 => ?_) (fun ok h2 a2 b2 c2 => ?_))
        · rcases hr with ⟨z, _⟩ | ⟨_, h4⟩
          · exact absurd ok z
          · refine ⟨rfl, H.2 _ _ _ _ h4 hE2.2.1 h2 (Fp_tr (Fp_n a1) a2) ?_ c2 e2⟩
            show AG _ (h2 36) _
            rw [b2, a1.1 36 (by omega), ← sAdd_u]
            exact AG_w hM
        · rcases hr with ⟨_, rfl⟩ | ⟨z, _⟩
          · exact ⟨rfl, H.1 _ rfl h2 (Fp_n (Fn_tr a1 a2)) (WM_mk b2 hE.2.1 c2)⟩
          · exact absurd z ok
    · exact absurd hx c
theorem m_truthW {x y : Int32} {q : Nat} (hw : WM s τ q h) (H : FW s τ q h fn) : rCall E (d + 6) mMo_perhaps [pR 35, pI x, pI y, pI 9] SH h (rPn SH fn) :=
  vMo_perhaps (br_f (by rw [hw.1]; decide) ⟨rfl, H h Fp_rf hw⟩)
theorem n121 {k : Nat} {r : rRes} (hn : n < 8) (hr : pTh1 s τ n σ k p r) (hT : TpM s τ h) (hK : MTK s τ p h) (hp : p ≤ s) (h12 : h 35 12 = 0) (hM : Mo (n + 1) (sAdd σ n (nI k) (nI 10) (nI 0) (nI 0)) h) (H : OT s τ n σ k r h fn) : rR E (rCall E (d + 9)) mMo_thingHere (rPn SH fn) 121 [some (pR 35), some (pI (nI k)), some (pI (nI (10 + 5 * n)))] [pI (nI (13 + 5 * n)), pR 35] SH h 0 0 := by
  have hE := tk_E (τ := τ) hp
  have hE2 := tk_E (τ := τ) hE.2.1
  have hE3 := tk_E (τ := τ) hE2.2.1
  refine vMo_thingHere_121 (m_num (a := 13 + 5 * n) (most := 5) hT hK hp h12 (by omega) (by omega) (fun ok h1 a1 b1 c1 e1 => ?_) (fun ok h1 a1 b1 c1 => ?_))
  · rcases hr with ⟨z, _⟩ | ⟨_, hr⟩
    · exact absurd ok z
    · have hT1 := TpM_p hT a1
      have hM1 : Mo (n + 1) (sAdd σ n (nI k) (nI 10) (nI 0) (nI (numV s τ p))) h1 := by
        show AG _ (h1 36) _
        rw [b1, ← sAdd_p]
        exact AG_w hM
      have tr : ∀ (g : rHp) (q w : Nat), Fp h g → pTh3 s τ n σ k (numV s τ p) w q r → q ≤ s → MTK s τ q g → g 35 12 = 0 → Mo (n + 1) (sAdd σ n (nI k) (nI w) (nI 0) (nI (numV s τ p))) g → rCall E (d + 9) mMo_isFive [pR 35, pI 116, pI 114, pI 117, pI 116, pI 104] SH g (rPi SH (fun x6 g5 => rCall E (d + 9) mMo_perhaps [pR 35, pI x6, pI (nI (10 + 5 * n) + 2), pI 9] SH g5 (rPn SH (fun g7 => rPn SH fn none SH g7)))) := by
        intro g q w a hr3 hq kq g12 hMg
        have HO : OT s τ n σ k r g (fun g7 => rPn SH fn none SH g7) := ⟨fun q e h' b c => ⟨rfl, (OT_p a H).1 q e h' b c⟩, fun pl w u q e1 e2 h' b c e g => ⟨rfl, (OT_p a H).2 pl w u q e1 e2 h' b c e g⟩⟩
        exact m_five (w := 8) (a := 116) (b := 114) (c := 117) (e := 116) (g := 104) rfl (TpM_p hT a) kq hq (by omega) (by omega) (by omega) (by omega) (by omega) (fun y => m_truth hn hr3 (TpM_p hT a) kq hq g12 hMg (Or.inl ⟨y, rfl⟩) HO) (fun y => m_truth hn hr3 (TpM_p hT a) kq hq g12 hMg (Or.inr ⟨y, rfl⟩) HO)
      have trW : ∀ (g : rHp) (q : Nat), Fp h g → r = .inl q → WM s τ q g → rCall E (d + 9) mMo_isFive [pR 35, pI 116, pI 114, pI 117, pI 116, pI 104] SH g (rPi SH (fun x6 g5 => rCall E (d + 9) mMo_perhaps [pR 35, pI x6, pI (nI (10 + 5 * n) + 2), pI 9] SH g5 (rPn SH (fun g7 => rPn SH fn none SH g7)))) := by
        intro g q a er hw
        have hw' := hw
        obtain ⟨w12, p', hp', kp', _⟩ := hw'
        have HF : FW s τ q g (fun g7 => rPn SH fn none SH g7) := fun h' b c => ⟨rfl, (OT_p a H).1 q er h' b c⟩
        exact m_five (w := 8) (a := 116) (b := 114) (c := 117) (e := 116) (g := 104) rfl (TpM_p hT a) kp' hp' (by omega) (by omega) (by omega) (by omega) (by omega) (fun y => m_truthW hw HF) (fun y => m_truthW hw HF)
      refine m_five (w := 7) (a := 119) (b := 111) (c := 114) (e := 116) (g := 104) rfl hT1 c1 hE.2.1 (by omega) (by omega) (by omega) (by omega) (by omega) (fun y => ?_) (fun y => ?_)
      · rw [show nI (10 + 5 * n) + (1:Int32) = nI (11 + 5 * n) from (nI_add _ 1).trans (congrArg nI (by omega))]
        rcases hr with ⟨z, _⟩ | ⟨_, hr⟩
        · exact absurd y z
        · refine vMo_perhaps (br_t e1 (br_f (by decide) (m_next hT1 c1.2.2.1 hE2.2.1 (fun h2 a2 b2 c2 => m_num (a := 11 + 5 * n) (most := 99) (TpM_n hT1 a2) c2 hE2.2.1 (b2.trans e1) (by omega) (by omega) (fun ok2 h3 a3 b3 c3 e3 => ?_) (fun ok2 h3 a3 b3 c3 => ?_)))))
          · rcases hr with ⟨z, _⟩ | ⟨_, h4⟩
            · exact absurd ok2 z
            · refine ⟨rfl, tr h3 _ _ (Fp_tr a1 (Fp_tr (Fp_n a2) a3)) h4 hE3.2.1 c3 e3 ?_⟩
              show AG _ (h3 36) _
              rw [b3, a2.1 36 (by omega), ← sAdd_w]
              exact AG_w hM1
          · rcases hr with ⟨_, er⟩ | ⟨z, _⟩
            · exact ⟨rfl, trW h3 _ (Fp_tr a1 (Fp_n (Fn_tr a2 a3))) er (WM_mk b3 hE2.2.1 c3)⟩
            · exact absurd z ok2
      · rcases hr with ⟨_, h4⟩ | ⟨z, _⟩
        · exact vMo_perhaps (br_t e1 (br_t rfl ⟨rfl, tr h1 _ _ a1 h4 hE.2.1 c1 e1 hM1⟩))
        · exact absurd z y
  · rcases hr with ⟨_, er⟩ | ⟨z, _⟩
    · have hT1 := TpM_n hT a1
      have HF := FW_n (Fp_n a1) (H.1 _ er)
      have last : ∀ x : Int32, rCall E (d + 9) mMo_perhaps [pR 35, pI x, pI (nI (10 + 5 * n) + 2), pI 9] SH h1 (rPn SH (fun g7 => rPn SH fn none SH g7)) := fun x => vMo_perhaps (br_f (by rw [c1]; decide) ⟨rfl, rfl, HF h1 Fp_rf (WM_mk b1 hp c1)⟩)
      have mid : ∀ x : Int32, rCall E (d + 9) mMo_perhaps [pR 35, pI x, pI (nI (10 + 5 * n) + 1), pI 99] SH h1 (rPn SH (fun g4 => rCall E (d + 9) mMo_isFive [pR 35, pI 116, pI 114, pI 117, pI 116, pI 104] SH g4 (rPi SH (fun x6 g5 => rCall E (d + 9) mMo_perhaps [pR 35, pI x6, pI (nI (10 + 5 * n) + 2), pI 9] SH g5 (rPn SH (fun g7 => rPn SH fn none SH g7)))))) := fun x => vMo_perhaps (br_f (by rw [c1]; decide) ⟨rfl, m_five (w := 8) (a := 116) (b := 114) (c := 117) (e := 116) (g := 104) rfl hT1 b1 hp (by omega) (by omega) (by omega) (by omega) (by omega) (fun _ => last 1) (fun _ => last 0)⟩)
      exact m_five (w := 7) (a := 119) (b := 111) (c := 114) (e := 116) (g := 104) rfl hT1 b1 hp (by omega) (by omega) (by omega) (by omega) (by omega) (fun _ => mid 1) (fun _ => mid 0)
    · exact absurd z ok
theorem m_thingHere {k : Nat} {r : rRes} (hW : Wf n n σ) (hr : pTh s τ n σ k p r) (hT : TpM s τ h) (hK : MTK s τ p h) (hp : p ≤ s) (h12 : h 35 12 = 0) (hM : Mo n σ h) (H : OT s τ n σ k r h fn) : rCall E (d + 10) mMo_thingHere [pR 35, pI (nI k)] SH h (rPn SH fn) := by
  have hn := hW.1.1
  have hE := tk_E (τ := τ) hp
  have hE2 := tk_E (τ := τ) hE.2.1
  apply vMo_thingHere
  rw [Mo_n hW hM, ix0]
  refine ⟨fun c => ?_, fun c => ?_⟩
  · have hn8 := (nI_leI (a := 8) (by omega) (by omega)).1 c
    rcases hr with ⟨_, er⟩ | ⟨z, _⟩
    · exact m_need0 hK h12 (fun h1 a1 b1 c1 => w32 (TpM_n hT a1) b1 hp c1 (FW_n (Fp_n a1) (H.1 _ er)))
    · omega
  · have hn8 : n < 8 := Nat.lt_of_not_le (fun q => c (nI_le (a := 8) q (by omega)))
    rcases hr with ⟨z, _⟩ | ⟨_, hr⟩
    · omega
    · refine m_need1 hT hK hp h12 (fun h1 a1 b1 c1 => m_in (TpM_n hT a1) b1 hE.2.1 (fun y => ?_) (fun y => ?_))
      · rcases hr with ⟨z, _⟩ | ⟨_, hr⟩
        · exact absurd y z
        · have hT1 := TpM_n hT a1
          refine vMo_thingHere_87 (m_need1 hT1 b1 hE.2.1 c1 (fun h2 a2 b2 c2 => br_t c2 (m_comes (n := n) (σ := σ) hW hn8 (Mo_far hM (by rw [a2.1 36 (by omega), a1.1 36 (by omega)])) (fun h3 a3 b3 => ?_))))
          have e35 : h3 35 = h2 35 := b3 35 (by omega)
          refine vMo_thingHere_106 (br_t (by rw [e35]; exact c2) ?_)
          rw [show nI (10 + 5 * n) + (3:Int32) = nI (13 + 5 * n) from (nI_add _ 3).trans (congrArg nI (by omega))]
          have aa : Fp h h3 := Fp_tr (Fp_n (Fn_tr a1 a2)) (Fp_36 b3)
          refine n121 hn8 hr (TpM_p hT aa) ?_ hE2.2.1 (by rw [e35]; exact c2) a3 (OT_p aa H)
          unfold MTK
          rw [e35]
          exact b2
      · rcases hr with ⟨_, er⟩ | ⟨z, _⟩
        · exact vMo_thingHere_87 (m_need0 b1 c1 (fun h2 a2 b2 c2 => br_f (by rw [c2]; decide) (vMo_thingHere_106 (br_f (by rw [c2]; decide) (w121 (TpM_n hT (Fn_tr a1 a2)) b2 hE.2.1 c2 (FW_n (Fp_n (Fn_tr a1 a2)) (H.1 _ er)))))))
        · exact absurd z y
end
