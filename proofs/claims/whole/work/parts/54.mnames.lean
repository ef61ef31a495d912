section
variable {E : rE} {d s p n : Nat} {τ : Nat → Nat} {σ : Nat → Int32} {h : rHp} {f : Int32 → rHp → Prop} {fn : rHp → Prop}
theorem m_isName {l a b c z : Nat} (hT : TpM s τ h) (hK : MTK s τ p h) (hp : p ≤ s) (hl : 3 ≤ l ∧ l ≤ 7) (ha : a < 200) (hb : b < 200) (hc : c < 200) (hz : z < 200)
    (H1 : tkT s τ p = 1 → tkE s τ p - tkA s τ p = l → τ (tkA s τ p) = a → τ (tkA s τ p + 1) = b → τ (tkA s τ p + 2) = c → τ (tkA s τ p + (l - 1)) = z → f 1 h)
    (H0 : ¬ (tkT s τ p = 1 ∧ tkE s τ p - tkA s τ p = l ∧ τ (tkA s τ p) = a ∧ τ (tkA s τ p + 1) = b ∧ τ (tkA s τ p + 2) = c ∧ τ (tkA s τ p + (l - 1)) = z) → f 0 h) :
    rCall E (d + 2) mMo_isName [pR 35, pI (nI l), pI (nI a), pI (nI b), pI (nI c), pI (nI z)] SH h (rPi SH f) := by
  have hs := hT.1
  have hA := tk_A (τ := τ) hp
  have hE := tk_E (τ := τ) hp
  have hTT := tk_T (s := s) (τ := τ) p
  apply vMo_isName
  rw [hK.1, hK.2.1, hK.2.2.1, pk_sub hE.1]
  refine ⟨fun q1 => ⟨fun q2 => ?_, fun q2 => ⟨rfl, H0 (fun q => q2 (by rw [q.2.1]))⟩⟩, fun q1 => ⟨rfl, H0 (fun q => q1 (by rw [q.1]; rfl))⟩⟩
  have t1 : tkT s τ p = 1 := (nI_eq (b := 1) (by omega) (by omega)).1 q1
  have t2 : tkE s τ p - tkA s τ p = l := (nI_eq (by omega) (by omega)).1 q2
  refine m_byteAt hT (by omega) ?_
  rw [bt_eq hT (by omega) (by omega)]
  refine ⟨fun q3 => ?_, fun q3 => ⟨rfl, H0 (fun q => q3 q.2.2.1)⟩⟩
  rw [hK.2.1, ← nI_succ]
  refine m_byteAt hT (by omega) ?_
  rw [bt_eq hT (by omega) (by omega)]
  refine ⟨fun q4 => ?_, fun q4 => ⟨rfl, H0 (fun q => q4 q.2.2.2.1)⟩⟩
  rw [hK.2.1, show nI (tkA s τ p) + (2:Int32) = nI (tkA s τ p + 2) from nI_add _ 2]
  refine m_byteAt hT (by omega) ?_
  rw [bt_eq hT (by omega) (by omega)]
  refine ⟨fun q5 => ?_, fun q5 => ⟨rfl, H0 (fun q => q5 q.2.2.2.2.1)⟩⟩
  rw [hK.2.2.1, show nI (tkE s τ p) - (1:Int32) = nI (tkE s τ p - 1) from pk_sub (b := 1) (by omega)]
  refine m_byteAt hT (by omega) ?_
  rw [bt_eq hT (by omega) (by omega), show tkE s τ p - 1 = tkA s τ p + (l - 1) by omega]
  exact ⟨fun q6 => ⟨rfl, H1 t1 t2 q3 q4 q5 q6⟩, fun q6 => ⟨rfl, H0 (fun q => q6 q.2.2.2.2.2)⟩⟩
theorem m_isSame {i a b c : Nat} (hT : TpM s τ h) (hK : MTK s τ p h) (hp : p ≤ s) (hi : i + 2 < tkE s τ p - tkA s τ p) (ha : a < 200) (hb : b < 200) (hc : c < 200)
    (H1 : τ (tkA s τ p + i) = a → τ (tkA s τ p + i + 1) = b → τ (tkA s τ p + i + 2) = c → f 1 h)
    (H0 : ¬ (τ (tkA s τ p + i) = a ∧ τ (tkA s τ p + i + 1) = b ∧ τ (tkA s τ p + i + 2) = c) → f 0 h) :
    rCall E (d + 2) mMo_isSame [pR 35, pI (nI i), pI (nI a), pI (nI b), pI (nI c)] SH h (rPi SH f) := by
  have hs := hT.1
  have hE := tk_E (τ := τ) hp
  apply vMo_isSame
  rw [hK.2.1, nI_add]
  refine m_byteAt hT (by omega) ?_
  rw [bt_eq hT (by omega) (by omega)]
  refine ⟨fun q3 => ?_, fun q3 => ⟨rfl, H0 (fun q => q3 q.1)⟩⟩
  rw [hK.2.1, nI_add, ← nI_succ]
  refine m_byteAt hT (by omega) ?_
  rw [bt_eq hT (by omega) (by omega)]
  refine ⟨fun q4 => ?_, fun q4 => ⟨rfl, H0 (fun q => q4 q.2.1)⟩⟩
  rw [hK.2.1, nI_add, show nI (tkA s τ p + i) + (2:Int32) = nI (tkA s τ p + i + 2) from nI_add _ 2]
  refine m_byteAt hT (by omega) ?_
  rw [bt_eq hT (by omega) (by omega)]
  exact ⟨fun q5 => ⟨rfl, H1 q3 q4 q5⟩, fun q5 => ⟨rfl, H0 (fun q => q5 q.2.2)⟩⟩
theorem nm_1 {w : Nat} {l : List Nat} (hl : lt w = l) (h1 : tkT s τ p = 1) (h2 : tkE s τ p - tkA s τ p = l.length) (h3 : ∀ j, j < l.length → τ (tkA s τ p + j) = l.getD j 0) : nameIs s τ p w := by
  unfold nameIs
  rw [hl]
  exact ⟨h1, h2, h3⟩
theorem nm_2 {w : Nat} {l : List Nat} (hl : lt w = l) (q : nameIs s τ p w) : tkT s τ p = 1 ∧ tkE s τ p - tkA s τ p = l.length ∧ ∀ j, j < l.length → τ (tkA s τ p + j) = l.getD j 0 := by
  unfold nameIs at q
  rw [hl] at q
  exact q
theorem m_five {w a b c e g : Nat} (hl : lt w = [a, b, c, e, g]) (hT : TpM s τ h) (hK : MTK s τ p h) (hp : p ≤ s) (ha : a < 200) (hb : b < 200) (hc : c < 200) (he : e < 200) (hg : g < 200) (H1 : nameIs s τ p w → f 1 h) (H0 : ¬ nameIs s τ p w → f 0 h) : rCall E (d + 3) mMo_isFive [pR 35, pI (nI a), pI (nI b), pI (nI c), pI (nI e), pI (nI g)] SH h (rPi SH f) := by
  have hs := hT.1
  have hE := tk_E (τ := τ) hp
  refine vMo_isFive (m_isName (l := 5) hT hK hp (by omega) ha hb hc hg (fun q1 q2 q3 q4 q5 q6 => o1 ?_) (fun q => o0 ⟨rfl, H0 (fun z => q ?_)⟩))
  · rw [hK.2.1, show nI (tkA s τ p) + (3:Int32) = nI (tkA s τ p + 3) from nI_add _ 3]
    refine m_byteAt hT (by omega) ?_
    rw [bt_eq hT (by omega) (by omega)]
    refine ⟨fun q7 => ⟨rfl, H1 (nm_1 hl q1 q2 (all5 q3 q4 q5 q7 q6))⟩, fun q7 => ⟨rfl, H0 (fun z => q7 ((nm_2 hl z).2.2 3 (by simp)))⟩⟩
  · have z := nm_2 hl z
    exact ⟨z.1, z.2.1, z.2.2 0 (by simp), z.2.2 1 (by simp), z.2.2 2 (by simp), z.2.2 4 (by simp)⟩
theorem m_four {w a b c e : Nat} (hl : lt w = [a, b, c, e]) (hT : TpM s τ h) (hK : MTK s τ p h) (hp : p ≤ s) (ha : a < 200) (hb : b < 200) (hc : c < 200) (he : e < 200) (H1 : nameIs s τ p w → f 1 h) (H0 : ¬ nameIs s τ p w → f 0 h) : rCall E (d + 3) mMo_isFour [pR 35, pI (nI a), pI (nI b), pI (nI c), pI (nI e)] SH h (rPi SH f) := by
  refine vMo_isFour (m_isName (l := 4) hT hK hp (by omega) ha hb hc he (fun q1 q2 q3 q4 q5 q6 => ⟨Or.inr rfl, rfl, H1 (nm_1 hl q1 q2 (all4 q3 q4 q5 q6))⟩) (fun q => ⟨Or.inl rfl, rfl, H0 (fun z => q ?_)⟩))
  have z := nm_2 hl z
  exact ⟨z.1, z.2.1, z.2.2 0 (by simp), z.2.2 1 (by simp), z.2.2 2 (by simp), z.2.2 3 (by simp)⟩
theorem m_n3 {w a b c : Nat} {N Y : rHp → Prop} (hl : lt w = [a, b, c]) (hT : TpM s τ h) (hK : MTK s τ p h) (hp : p ≤ s) (ha : a < 200) (hb : b < 200) (hc : c < 200) (H1 : nameIs s τ p w → Y h) (H0 : ¬ nameIs s τ p w → N h) : rCall E (d + 3) mMo_isName [pR 35, pI (nI 3), pI (nI a), pI (nI b), pI (nI c), pI (nI c)] SH h (rPi SH (fun x2 g1 => (x2 = 0 → N g1) ∧ (¬ x2 = 0 → Y g1))) := by
  refine m_isName (l := 3) hT hK hp (by omega) ha hb hc hc (fun q1 q2 q3 q4 q5 q6 => o1 (H1 (nm_1 hl q1 q2 (all3 q3 q4 q5)))) (fun q => o0 (H0 (fun z => q ?_)))
  have z := nm_2 hl z
  exact ⟨z.1, z.2.1, z.2.2 0 (by simp), z.2.2 1 (by simp), z.2.2 2 (by simp), z.2.2 2 (by simp)⟩
theorem m_n6 {w a b c e g i : Nat} {N Y : rHp → Prop} (hl : lt w = [a, b, c, e, g, i]) (hT : TpM s τ h) (hK : MTK s τ p h) (hp : p ≤ s) (ha : a < 200) (hb : b < 200) (hc : c < 200) (he : e < 200) (hg : g < 200) (hi : i < 200) (H1 : nameIs s τ p w → Y h) (H0 : ¬ nameIs s τ p w → N h) : rCall E (d + 3) mMo_isName [pR 35, pI (nI 6), pI (nI a), pI (nI b), pI (nI c), pI (nI i)] SH h (rPi SH (fun x2 g1 => (x2 = 0 → N g1) ∧ (¬ x2 = 0 → rCall E (d + 3) mMo_isSame [pR 35, pI (nI 2), pI (nI c), pI (nI e), pI (nI g)] SH g1 (rPi SH (fun x3 g3 => (x3 = 0 → N g3) ∧ (¬ x3 = 0 → Y g3)))))) := by
  refine m_isName (l := 6) hT hK hp (by omega) ha hb hc hi (fun q1 q2 q3 q4 q5 q6 => o1 (m_isSame hT hK hp (by omega) hc he hg (fun r1 r2 r3 => o1 (H1 (nm_1 hl q1 q2 (all6 q3 q4 q5 r2 r3 q6)))) (fun r => o0 (H0 (fun z => r ?_))))) (fun q => o0 (H0 (fun z => q ?_)))
  · have z := nm_2 hl z
    exact ⟨z.2.2 2 (by simp), z.2.2 3 (by simp), z.2.2 4 (by simp)⟩
  · have z := nm_2 hl z
    exact ⟨z.1, z.2.1, z.2.2 0 (by simp), z.2.2 1 (by simp), z.2.2 2 (by simp), z.2.2 5 (by simp)⟩
theorem m_n7 {w a b c e g i j : Nat} {N Y : rHp → Prop} (hl : lt w = [a, b, c, e, g, i, j]) (hT : TpM s τ h) (hK : MTK s τ p h) (hp : p ≤ s) (ha : a < 200) (hb : b < 200) (hc : c < 200) (he : e < 200) (hg : g < 200) (hi : i < 200) (hj : j < 200) (H1 : nameIs s τ p w → Y h) (H0 : ¬ nameIs s τ p w → N h) : rCall E (d + 3) mMo_isName [pR 35, pI (nI 7), pI (nI a), pI (nI b), pI (nI c), pI (nI j)] SH h (rPi SH (fun x2 g1 => (x2 = 0 → N g1) ∧ (¬ x2 = 0 → rCall E (d + 3) mMo_isSame [pR 35, pI (nI 3), pI (nI e), pI (nI g), pI (nI i)] SH g1 (rPi SH (fun x3 g3 => (x3 = 0 → N g3) ∧ (¬ x3 = 0 → Y g3)))))) := by
  refine m_isName (l := 7) hT hK hp (by omega) ha hb hc hj (fun q1 q2 q3 q4 q5 q6 => o1 (m_isSame hT hK hp (by omega) he hg hi (fun r1 r2 r3 => o1 (H1 (nm_1 hl q1 q2 (all7 q3 q4 q5 r1 r2 r3 q6)))) (fun r => o0 (H0 (fun z => r ?_))))) (fun q => o0 (H0 (fun z => q ?_)))
  · have z := nm_2 hl z
    exact ⟨z.2.2 3 (by simp), z.2.2 4 (by simp), z.2.2 5 (by simp)⟩
  · have z := nm_2 hl z
    exact ⟨z.1, z.2.1, z.2.2 0 (by simp), z.2.2 1 (by simp), z.2.2 2 (by simp), z.2.2 6 (by simp)⟩
theorem m_kindN_0 (hT : TpM s τ h) (hK : MTK s τ p h) (hp : p ≤ s) (hit : nameIs s τ p 0) (H : f 0 h) : rCall E (d + 4) mMo_kindHere [pR 35] SH h (rPi SH f) :=
  vMo_kindHere (m_five (w := 0) (a := 116) (b := 104) (c := 105) (e := 110) (g := 103) rfl hT hK hp (by omega) (by omega) (by omega) (by omega) (by omega) (fun q => o1 (⟨rfl, H⟩)) (fun q => o0 (absurd hit q)))
theorem m_kindN_1 (hT : TpM s τ h) (hK : MTK s τ p h) (hp : p ≤ s) (hit : nameIs s τ p 1) (H : f 1 h) : rCall E (d + 4) mMo_kindHere [pR 35] SH h (rPi SH f) :=
  vMo_kindHere (m_five (w := 0) (a := 116) (b := 104) (c := 105) (e := 110) (g := 103) rfl hT hK hp (by omega) (by omega) (by omega) (by omega) (by omega) (fun q => o1 (absurd (name_1 (by omega) (by omega) q hit) (by omega))) (fun q => o0 (m_n6 (w := 1) (a := 118) (b := 101) (c := 115) (e := 115) (g := 101) (i := 108) rfl hT hK hp (by omega) (by omega) (by omega) (by omega) (by omega) (by omega) (fun q => ⟨rfl, H⟩) (fun q => absurd hit q))))
theorem m_kindN_2 (hT : TpM s τ h) (hK : MTK s τ p h) (hp : p ≤ s) (hit : nameIs s τ p 2) (H : f 2 h) : rCall E (d + 4) mMo_kindHere [pR 35] SH h (rPi SH f) :=
  vMo_kindHere (m_five (w := 0) (a := 116) (b := 104) (c := 105) (e := 110) (g := 103) rfl hT hK hp (by omega) (by omega) (by omega) (by omega) (by omega) (fun q => o1 (absurd (name_1 (by omega) (by omega) q hit) (by omega))) (fun q => o0 (m_n6 (w := 1) (a := 118) (b := 101) (c := 115) (e := 115) (g := 101) (i := 108) rfl hT hK hp (by omega) (by omega) (by omega) (by omega) (by omega) (by omega) (fun q => absurd (name_1 (by omega) (by omega) q hit) (by omega)) (fun q => m_n7 (w := 2) (a := 114) (b := 117) (c := 98) (e := 98) (g := 105) (i := 115) (j := 104) rfl hT hK hp (by omega) (by omega) (by omega) (by omega) (by omega) (by omega) (by omega) (fun q => ⟨rfl, H⟩) (fun q => absurd hit q)))))
theorem m_kindN_3 (hT : TpM s τ h) (hK : MTK s τ p h) (hp : p ≤ s) (hit : nameIs s τ p 3) (H : f 3 h) : rCall E (d + 4) mMo_kindHere [pR 35] SH h (rPi SH f) :=
  vMo_kindHere (m_five (w := 0) (a := 116) (b := 104) (c := 105) (e := 110) (g := 103) rfl hT hK hp (by omega) (by omega) (by omega) (by omega) (by omega) (fun q => o1 (absurd (name_1 (by omega) (by omega) q hit) (by omega))) (fun q => o0 (m_n6 (w := 1) (a := 118) (b := 101) (c := 115) (e := 115) (g := 101) (i := 108) rfl hT hK hp (by omega) (by omega) (by omega) (by omega) (by omega) (by omega) (fun q => absurd (name_1 (by omega) (by omega) q hit) (by omega)) (fun q => m_n7 (w := 2) (a := 114) (b := 117) (c := 98) (e := 98) (g := 105) (i := 115) (j := 104) rfl hT hK hp (by omega) (by omega) (by omega) (by omega) (by omega) (by omega) (by omega) (fun q => absurd (name_1 (by omega) (by omega) q hit) (by omega)) (fun q => m_n6 (w := 3) (a := 109) (b := 111) (c := 115) (e := 97) (g := 105) (i := 99) rfl hT hK hp (by omega) (by omega) (by omega) (by omega) (by omega) (by omega) (fun q => ⟨rfl, H⟩) (fun q => absurd hit q))))))
theorem m_kindN_4 (hT : TpM s τ h) (hK : MTK s τ p h) (hp : p ≤ s) (hit : nameIs s τ p 4) (H : f 4 h) : rCall E (d + 4) mMo_kindHere [pR 35] SH h (rPi SH f) :=
  vMo_kindHere (m_five (w := 0) (a := 116) (b := 104) (c := 105) (e := 110) (g := 103) rfl hT hK hp (by omega) (by omega) (by omega) (by omega) (by omega) (fun q => o1 (absurd (name_1 (by omega) (by omega) q hit) (by omega))) (fun q => o0 (m_n6 (w := 1) (a := 118) (b := 101) (c := 115) (e := 115) (g := 101) (i := 108) rfl hT hK hp (by omega) (by omega) (by omega) (by omega) (by omega) (by omega) (fun q => absurd (name_1 (by omega) (by omega) q hit) (by omega)) (fun q => m_n7 (w := 2) (a := 114) (b := 117) (c := 98) (e := 98) (g := 105) (i := 115) (j := 104) rfl hT hK hp (by omega) (by omega) (by omega) (by omega) (by omega) (by omega) (by omega) (fun q => absurd (name_1 (by omega) (by omega) q hit) (by omega)) (fun q => m_n6 (w := 3) (a := 109) (b := 111) (c := 115) (e := 97) (g := 105) (i := 99) rfl hT hK hp (by omega) (by omega) (by omega) (by omega) (by omega) (by omega) (fun q => absurd (name_1 (by omega) (by omega) q hit) (by omega)) (fun q => m_four (w := 4) (a := 115) (b := 104) (c := 111) (e := 101) rfl hT hK hp (by omega) (by omega) (by omega) (by omega) (fun q => o1 (⟨rfl, H⟩)) (fun q => o0 (absurd hit q))))))))
theorem m_kindN_5 (hT : TpM s τ h) (hK : MTK s τ p h) (hp : p ≤ s) (hit : nameIs s τ p 5) (H : f 5 h) : rCall E (d + 4) mMo_kindHere [pR 35] SH h (rPi SH f) :=
  vMo_kindHere (m_five (w := 0) (a := 116) (b := 104) (c := 105) (e := 110) (g := 103) rfl hT hK hp (by omega) (by omega) (by omega) (by omega) (by omega) (fun q => o1 (absurd (name_1 (by omega) (by omega) q hit) (by omega))) (fun q => o0 (m_n6 (w := 1) (a := 118) (b := 101) (c := 115) (e := 115) (g := 101) (i := 108) rfl hT hK hp (by omega) (by omega) (by omega) (by omega) (by omega) (by omega) (fun q => absurd (name_1 (by omega) (by omega) q hit) (by omega)) (fun q => m_n7 (w := 2) (a := 114) (b := 117) (c := 98) (e := 98) (g := 105) (i := 115) (j := 104) rfl hT hK hp (by omega) (by omega) (by omega) (by omega) (by omega) (by omega) (by omega) (fun q => absurd (name_1 (by omega) (by omega) q hit) (by omega)) (fun q => m_n6 (w := 3) (a := 109) (b := 111) (c := 115) (e := 97) (g := 105) (i := 99) rfl hT hK hp (by omega) (by omega) (by omega) (by omega) (by omega) (by omega) (fun q => absurd (name_1 (by omega) (by omega) q hit) (by omega)) (fun q => m_four (w := 4) (a := 115) (b := 104) (c := 111) (e := 101) rfl hT hK hp (by omega) (by omega) (by omega) (by omega) (fun q => o1 (absurd (name_1 (by omega) (by omega) q hit) (by omega))) (fun q => o0 (m_four (w := 5) (a := 115) (b := 97) (c := 110) (e := 100) rfl hT hK hp (by omega) (by omega) (by omega) (by omega) (fun q => o1 (⟨rfl, H⟩)) (fun q => o0 (absurd hit q))))))))))
theorem m_kindN_no (hT : TpM s τ h) (hK : MTK s τ p h) (hp : p ≤ s) (no : ∀ k, k < 6 → ¬ nameIs s τ p (0 + k)) (H : f (-1) h) : rCall E (d + 4) mMo_kindHere [pR 35] SH h (rPi SH f) :=
  vMo_kindHere (m_five (w := 0) (a := 116) (b := 104) (c := 105) (e := 110) (g := 103) rfl hT hK hp (by omega) (by omega) (by omega) (by omega) (by omega) (fun q => o1 (absurd q (no 0 (by omega)))) (fun q => o0 (m_n6 (w := 1) (a := 118) (b := 101) (c := 115) (e := 115) (g := 101) (i := 108) rfl hT hK hp (by omega) (by omega) (by omega) (by omega) (by omega) (by omega) (fun q => absurd q (no 1 (by omega))) (fun q => m_n7 (w := 2) (a := 114) (b := 117) (c := 98) (e := 98) (g := 105) (i := 115) (j := 104) rfl hT hK hp (by omega) (by omega) (by omega) (by omega) (by omega) (by omega) (by omega) (fun q => absurd q (no 2 (by omega))) (fun q => m_n6 (w := 3) (a := 109) (b := 111) (c := 115) (e := 97) (g := 105) (i := 99) rfl hT hK hp (by omega) (by omega) (by omega) (by omega) (by omega) (by omega) (fun q => absurd q (no 3 (by omega))) (fun q => m_four (w := 4) (a := 115) (b := 104) (c := 111) (e := 101) rfl hT hK hp (by omega) (by omega) (by omega) (by omega) (fun q => o1 (absurd q (no 4 (by omega)))) (fun q => o0 (m_four (w := 5) (a := 115) (b := 97) (c := 110) (e := 100) rfl hT hK hp (by omega) (by omega) (by omega) (by omega) (fun q => o1 (absurd q (no 5 (by omega)))) (fun q => o0 (⟨rfl, H⟩))))))))))
theorem m_ownN_0 (hT : TpM s τ h) (hK : MTK s τ p h) (hp : p ≤ s) (hit : nameIs s τ p 9) (H : f 3 h) : rCall E (d + 4) mMo_ownHere [pR 35] SH h (rPi SH f) :=
  vMo_ownHere (m_n6 (w := 9) (a := 114) (b := 101) (c := 97) (e := 100) (g := 101) (i := 114) rfl hT hK hp (by omega) (by omega) (by omega) (by omega) (by omega) (by omega) (fun q => ⟨rfl, H⟩) (fun q => absurd hit q))
theorem m_ownN_1 (hT : TpM s τ h) (hK : MTK s τ p h) (hp : p ≤ s) (hit : nameIs s τ p 10) (H : f 4 h) : rCall E (d + 4) mMo_ownHere [pR 35] SH h (rPi SH f) :=
  vMo_ownHere (m_n6 (w := 9) (a := 114) (b := 101) (c := 97) (e := 100) (g := 101) (i := 114) rfl hT hK hp (by omega) (by omega) (by omega) (by omega) (by omega) (by omega) (fun q => absurd (name_1 (by omega) (by omega) q hit) (by omega)) (fun q => m_n7 (w := 10) (a := 111) (b := 112) (c := 105) (e := 110) (g := 105) (i := 111) (j := 110) rfl hT hK hp (by omega) (by omega) (by omega) (by omega) (by omega) (by omega) (by omega) (fun q => ⟨rfl, H⟩) (fun q => absurd hit q)))
theorem m_ownN_2 (hT : TpM s τ h) (hK : MTK s τ p h) (hp : p ≤ s) (hit : nameIs s τ p 11) (H : f 5 h) : rCall E (d + 4) mMo_ownHere [pR 35] SH h (rPi SH f) :=
  vMo_ownHere (m_n6 (w := 9) (a := 114) (b := 101) (c := 97) (e := 100) (g := 101) (i := 114) rfl hT hK hp (by omega) (by omega) (by omega) (by omega) (by omega) (by omega) (fun q => absurd (name_1 (by omega) (by omega) q hit) (by omega)) (fun q => m_n7 (w := 10) (a := 111) (b := 112) (c := 105) (e := 110) (g := 105) (i := 111) (j := 110) rfl hT hK hp (by omega) (by omega) (by omega) (by omega) (by omega) (by omega) (by omega) (fun q => absurd (name_1 (by omega) (by omega) q hit) (by omega)) (fun q => m_n3 (w := 11) (a := 100) (b := 105) (c := 103) rfl hT hK hp (by omega) (by omega) (by omega) (fun q => ⟨rfl, H⟩) (fun q => absurd hit q))))
theorem m_ownN_3 (hT : TpM s τ h) (hK : MTK s τ p h) (hp : p ≤ s) (hit : nameIs s τ p 12) (H : f 6 h) : rCall E (d + 4) mMo_ownHere [pR 35] SH h (rPi SH f) :=
  vMo_ownHere (m_n6 (w := 9) (a := 114) (b := 101) (c := 97) (e := 100) (g := 101) (i := 114) rfl hT hK hp (by omega) (by omega) (by omega) (by omega) (by omega) (by omega) (fun q => absurd (name_1 (by omega) (by omega) q hit) (by omega)) (fun q => m_n7 (w := 10) (a := 111) (b := 112) (c := 105) (e := 110) (g := 105) (i := 111) (j := 110) rfl hT hK hp (by omega) (by omega) (by omega) (by omega) (by omega) (by omega) (by omega) (fun q => absurd (name_1 (by omega) (by omega) q hit) (by omega)) (fun q => m_n3 (w := 11) (a := 100) (b := 105) (c := 103) rfl hT hK hp (by omega) (by omega) (by omega) (fun q => absurd (name_1 (by omega) (by omega) q hit) (by omega)) (fun q => m_five (w := 12) (a := 115) (b := 104) (c := 105) (e := 110) (g := 101) rfl hT hK hp (by omega) (by omega) (by omega) (by omega) (by omega) (fun q => o1 (⟨rfl, H⟩)) (fun q => o0 (absurd hit q))))))
theorem m_ownN_4 (hT : TpM s τ h) (hK : MTK s τ p h) (hp : p ≤ s) (hit : nameIs s τ p 13) (H : f 7 h) : rCall E (d + 4) mMo_ownHere [pR 35] SH h (rPi SH f) :=
  vMo_ownHere (m_n6 (w := 9) (a := 114) (b := 101) (c := 97) (e := 100) (g := 101) (i := 114) rfl hT hK hp (by omega) (by omega) (by omega) (by omega) (by omega) (by omega) (fun q => absurd (name_1 (by omega) (by omega) q hit) (by omega)) (fun q => m_n7 (w := 10) (a := 111) (b := 112) (c := 105) (e := 110) (g := 105) (i := 111) (j := 110) rfl hT hK hp (by omega) (by omega) (by omega) (by omega) (by omega) (by omega) (by omega) (fun q => absurd (name_1 (by omega) (by omega) q hit) (by omega)) (fun q => m_n3 (w := 11) (a := 100) (b := 105) (c := 103) rfl hT hK hp (by omega) (by omega) (by omega) (fun q => absurd (name_1 (by omega) (by omega) q hit) (by omega)) (fun q => m_five (w := 12) (a := 115) (b := 104) (c := 105) (e := 110) (g := 101) rfl hT hK hp (by omega) (by omega) (by omega) (by omega) (by omega) (fun q => o1 (absurd (name_1 (by omega) (by omega) q hit) (by omega))) (fun q => o0 (m_five (w := 13) (a := 102) (b := 105) (c := 108) (e := 116) (g := 104) rfl hT hK hp (by omega) (by omega) (by omega) (by omega) (by omega) (fun q => o1 (⟨rfl, H⟩)) (fun q => o0 (absurd hit q))))))))
theorem m_ownN_5 (hT : TpM s τ h) (hK : MTK s τ p h) (hp : p ≤ s) (hit : nameIs s τ p 14) (H : f 8 h) : rCall E (d + 4) mMo_ownHere [pR 35] SH h (rPi SH f) :=
  vMo_ownHere (m_n6 (w := 9) (a := 114) (b := 101) (c := 97) (e := 100) (g := 101) (i := 114) rfl hT hK hp (by omega) (by omega) (by omega) (by omega) (by omega) (by omega) (fun q => absurd (name_1 (by omega) (by omega) q hit) (by omega)) (fun q => m_n7 (w := 10) (a := 111) (b := 112) (c := 105) (e := 110) (g := 105) (i := 111) (j := 110) rfl hT hK hp (by omega) (by omega) (by omega) (by omega) (by omega) (by omega) (by omega) (fun q => absurd (name_1 (by omega) (by omega) q hit) (by omega)) (fun q => m_n3 (w := 11) (a := 100) (b := 105) (c := 103) rfl hT hK hp (by omega) (by omega) (by omega) (fun q => absurd (name_1 (by omega) (by omega) q hit) (by omega)) (fun q => m_five (w := 12) (a := 115) (b := 104) (c := 105) (e := 110) (g := 101) rfl hT hK hp (by omega) (by omega) (by omega) (by omega) (by omega) (fun q => o1 (absurd (name_1 (by omega) (by omega) q hit) (by omega))) (fun q => o0 (m_five (w := 13) (a := 102) (b := 105) (c := 108) (e := 116) (g := 104) rfl hT hK hp (by omega) (by omega) (by omega) (by omega) (by omega) (fun q => o1 (absurd (name_1 (by omega) (by omega) q hit) (by omega))) (fun q => o0 (m_four (w := 14) (a := 115) (b := 108) (c := 105) (e := 112) rfl hT hK hp (by omega) (by omega) (by omega) (by omega) (fun q => o1 (⟨rfl, H⟩)) (fun q => o0 (absurd hit q))))))))))
theorem m_ownN_no (hT : TpM s τ h) (hK : MTK s τ p h) (hp : p ≤ s) (no : ∀ k, k < 6 → ¬ nameIs s τ p (9 + k)) (H : f (-1) h) : rCall E (d + 4) mMo_ownHere [pR 35] SH h (rPi SH f) :=
  vMo_ownHere (m_n6 (w := 9) (a := 114) (b := 101) (c := 97) (e := 100) (g := 101) (i := 114) rfl hT hK hp (by omega) (by omega) (by omega) (by omega) (by omega) (by omega) (fun q => absurd q (no 0 (by omega))) (fun q => m_n7 (w := 10) (a := 111) (b := 112) (c := 105) (e := 110) (g := 105) (i := 111) (j := 110) rfl hT hK hp (by omega) (by omega) (by omega) (by omega) (by omega) (by omega) (by omega) (fun q => absurd q (no 1 (by omega))) (fun q => m_n3 (w := 11) (a := 100) (b := 105) (c := 103) rfl hT hK hp (by omega) (by omega) (by omega) (fun q => absurd q (no 2 (by omega))) (fun q => m_five (w := 12) (a := 115) (b := 104) (c := 105) (e := 110) (g := 101) rfl hT hK hp (by omega) (by omega) (by omega) (by omega) (by omega) (fun q => o1 (absurd q (no 3 (by omega)))) (fun q => o0 (m_five (w := 13) (a := 102) (b := 105) (c := 108) (e := 116) (g := 104) rfl hT hK hp (by omega) (by omega) (by omega) (by omega) (by omega) (fun q => o1 (absurd q (no 4 (by omega)))) (fun q => o0 (m_four (w := 14) (a := 115) (b := 108) (c := 105) (e := 112) rfl hT hK hp (by omega) (by omega) (by omega) (by omega) (fun q => o1 (absurd q (no 5 (by omega)))) (fun q => o0 (⟨rfl, H⟩))))))))))
end
