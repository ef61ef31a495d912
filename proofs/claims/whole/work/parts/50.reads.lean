section
variable {E : rE} {d s p : Nat} {τ : Nat → Nat} {h : rHp} {f : Int32 → rHp → Prop} {fn : rHp → Prop} {fo : Option Nat}
theorem c_isName {w : Nat} (hw : w < 15) (hT : TpC s τ h) (hK : TK s τ p h) (hp : p ≤ s) (H1 : nameIs s τ p w → f 1 h) (H0 : ¬ nameIs s τ p w → f 0 h) : rCall E (d + 5) mTx_isName [pR 22, pC (w+10)] SH h (rPi SH f) := by
  have hs := hT.1
  have hA := tk_A (τ := τ) hp
  have hE := tk_E (τ := τ) hp
  have hTT := tk_T (s := s) (τ := τ) p
  have hl := (lt_len w hw).2
  apply vTx_isName hw
  rw [hK.1, hK.2.1, hK.2.2, pk_sub hE.1]
  refine ⟨fun c => c_length hw ⟨fun c2 => ?_, fun c2 => ⟨rfl, H0 ?_⟩⟩, fun c => ⟨rfl, H0 ?_⟩⟩
  · have t1 : tkT s τ p = 1 := by
      have := (nI_eq (b := 0) (by omega) (by omega)).1 c
      omega
    have t2 : tkE s τ p - tkA s τ p = (lt w).length := (nI_eq (by omega) (by omega)).1 c2
    have go : ∀ (m j : Nat), j + m = (lt w).length → (∀ i, i < j → τ (tkA s τ p + i) = (lt w).getD i 0) → rR E (rCall E (d + 4)) mTx_isName (rPi SH f) 27 [some (pR 22), some (pC (w+10)), some (pI (nI j))] [] SH h 0 0 := by
      intro m
      induction m with
      | zero =>
        intro j hj hi
        exact vTx_isName_27 hw (c_length hw (br_t (nI_le (by omega) (by omega)) ⟨rfl, H1 ⟨t1, t2, fun i hi' => hi i (by omega)⟩⟩))
      | succ m ih =>
        intro j hj hi
        have hb := hT.2.2 (tkA s τ p + j) (by omega)
        have hc := lt_chr w hw j (by omega)
        refine vTx_isName_27 hw (c_length hw (br_f (nI_ge (by omega) (by omega)) ?_))
        rw [hK.2.1, nI_add, nI_clamp (by omega), hb.2]
        refine ⟨vp_in_nI (by omega) (by omega), c_charAt hw (by omega) ⟨fun e => ?_, fun e => ⟨rfl, H0 (fun q => ?_)⟩⟩⟩
        · rw [← nI_succ]
          refine ih (j + 1) (by omega) (fun i hi' => ?_)
          by_cases ei : i = j
          · rw [ei]; exact (sb_let _ hb.1 _ hc.2.2 hc.2.1).1 e
          · exact hi i (by omega)
        · exact e ((sb_let _ hb.1 _ hc.2.2 hc.2.1).2 (q.2.2 j (by omega)))
    exact go (lt w).length 0 (Nat.zero_add _) (fun i hi => absurd hi (by omega))
  · exact fun q => c2 (by rw [q.2.1])
  · exact fun q => c (by rw [q.1]; rfl)
theorem nV_b (hp : p ≤ s) (hd : ∀ i, tkA s τ p ≤ i → i < tkE s τ p → 48 ≤ τ i ∧ τ i ≤ 57) : ∀ j, j ≤ 3 → tkA s τ p + j ≤ tkE s τ p → nV τ (tkA s τ p) j < 10 ^ j
  | 0, _, _ => Nat.zero_lt_one
  | j + 1, hj, he => by
    have ih := nV_b hp hd j (by omega) (by omega)
    have := hd (tkA s τ p + j) (by omega) (by omega)
    show nV τ (tkA s τ p) j * 10 + (τ (tkA s τ p + j) - 48) < 10 ^ (j + 1)
    rw [Nat.pow_succ]
    omega
theorem numV_b (hp : p ≤ s) (hT : ∀ i, i < s → τ i < 256) (t : tkT s τ p = 2) (h3 : tkE s τ p - tkA s τ p ≤ 3) : numV s τ p < 1000 := by
  have hE := tk_E (τ := τ) hp
  have := nV_b (s := s) (τ := τ) hp (fun i h1 h2 => (sb_dig _ (hT i (by omega)) (tk_dig t i h1 h2)).2) (tkE s τ p - tkA s τ p) h3 (by omega)
  unfold numV
  have e : 10 ^ (tkE s τ p - tkA s τ p) ≤ 10 ^ 3 := Nat.pow_le_pow_right (by omega) h3
  omega
theorem c_readNumber {most : Nat} (hm : most < 1000) (hT : TpC s τ h) (h4 : h 22 4 = nI p) (hp : p ≤ s) (hf : h 22 5 = foI fo) (hfo : foB s fo)
    (H1 : numOK s τ p most → ∀ h', Fq h h' → TpC s τ h' → TK s τ p h' → h' 22 5 = foI fo → f (nI (numV s τ p)) h')
    (H0 : ¬ numOK s τ p most → ∀ h', Fq h h' → TpC s τ h' → TK s τ p h' → h' 22 5 = foI (orF fo (tkA s τ p)) → f 0 h') : rCall E (d + 3) mTx_readNumber [pR 22, pI (nI most)] SH h (rPi SH f) := by
  have hs := hT.1
  have hA := tk_A (τ := τ) hp
  have hE := tk_E (τ := τ) hp
  have hTT := tk_T (s := s) (τ := τ) p
  refine vTx_readNumber (c_next hT h4 hp (fun h1 a1 a2 a3 a4 => ?_))
  have bad : ¬ numOK s τ p most → ∀ (g : rHp), g = h1 → rCall E (d + 2) mTx_fail [pR 22] SH g (rPn SH (fun g2 => rPi SH f (some (pI 0)) SH g2)) := by
    intro q g eg
    subst eg
    exact c_fail a2 a4 hp (a3.trans hf) hfo (fun h2 b1 b2 b3 b4 => ⟨rfl, H0 q h2 (Fq_tr a1 b1) b2 b4 b3⟩)
  rw [a4.1, a4.2.1, a4.2.2, pk_sub hE.1]
  refine ⟨fun c => ⟨fun c2 => ?_, fun c2 => bad (fun q => c2 (nI_le (b := 3) q.2.1 (by omega))) h1 rfl⟩, fun c => bad (fun q => c (by rw [q.1]; rfl)) h1 rfl⟩
  have t2 : tkT s τ p = 2 := by
    have := (nI_eq (b := 1) (by omega) (by omega)).1 c
    omega
  have t3 : tkE s τ p - tkA s τ p ≤ 3 := (nI_leI (b := 3) (by omega) (by omega)).1 c2
  have hd : ∀ i, tkA s τ p ≤ i → i < tkE s τ p → 48 ≤ τ i ∧ τ i ≤ 57 := fun i q1 q2 => (sb_dig _ (hT.2.2 i (by omega)).1 (tk_dig t2 i q1 q2)).2
  have hv := numV_b hp (fun i hi => (hT.2.2 i hi).1) t2 t3
  have go : ∀ (m j : Nat), j + m = tkE s τ p - tkA s τ p → rR E (rCall E (d + 2)) mTx_readNumber (rPi SH f) 38 [some (pR 22), some (pI (nI most)), some (pI (nI (nV τ (tkA s τ p) j))), some (pI (nI (tkA s τ p + j)))] [] SH h1 0 0 := by
    intro m
    induction m with
    | zero =>
      intro j hj
      have ej : j = tkE s τ p - tkA s τ p := by omega
      refine vTx_readNumber_38 (br_t (by rw [a4.2.2]; exact nI_le (by omega) (by omega)) ⟨fun c => ⟨rfl, ?_⟩, fun c => bad (fun q => c ?_) h1 rfl⟩)
      · have hc := (nI_leI (by subst ej; unfold numV at hv; omega) (by omega)).1 c
        subst ej
        exact H1 ⟨t2, t3, hc⟩ h1 a1 a2 a4 (a3.trans hf)
      · have := q.2.2
        unfold numV at this hv
        rw [← ej] at this hv
        exact nI_le this (by omega)
    | succ m ih =>
      intro j hj
      have hb := hT.2.2 (tkA s τ p + j) (by omega)
      have hb2 := a2.2.2 (tkA s τ p + j) (by omega)
      have hdj := hd (tkA s τ p + j) (by omega) (by omega)
      have e1 := (sb_dig _ hb.1 (tk_dig t2 (tkA s τ p + j) (by omega) (by omega))).1
      refine vTx_readNumber_38 (br_f (by rw [a4.2.2]; exact nI_ge (by omega) (by omega)) ⟨vp_in_nI (by omega) (by omega), ?_⟩)
      rw [nI_clamp (by omega), hb2.2, e1, show nI (nV τ (tkA s τ p) j) * (10:Int32) + nI (τ (tkA s τ p + j)) - 48 = nI (nV τ (tkA s τ p) (j + 1)) from ?_, ← nI_succ]
      · exact ih (j + 1) (by omega)
      · rw [show (10:Int32) = nI 10 from rfl, pk_mul, nI_add, show (48:Int32) = nI 48 from rfl, pk_sub (by omega)]
        show _ = nI (nV τ (tkA s τ p) j * 10 + (τ (tkA s τ p + j) - 48))
        congr 1
        omega
  exact go (tkE s τ p - tkA s τ p) 0 (Nat.zero_add _)
theorem lt_inj : ∀ a, a < 15 → ∀ b, b < 15 → (lt a).length = (lt b).length → (∀ j, j < (lt a).length → (lt a).getD j 0 = (lt b).getD j 0) → a = b := by decide +kernel
theorem name_1 {a b : Nat} (ha : a < 15) (hb : b < 15) (h1 : nameIs s τ p a) (h2 : nameIs s τ p b) : a = b :=
  lt_inj a ha b hb (h1.2.1.symm.trans h2.2.1) (fun j hj => (h1.2.2 j hj).symm.trans (h2.2.2 j (by rw [← h2.2.1, h1.2.1]; exact hj)))
theorem c_kindN_0 (hT : TpC s τ h) (hK : TK s τ p h) (hp : p ≤ s) (hit : nameIs s τ p 0) (H : f 0 h) : rCall E (d + 6) mTx_kindNamed [pR 22] SH h (rPi SH f) :=
  vTx_kindNamed (c_isName (w := 0) (by omega) hT hK hp (fun _ => o1 ⟨rfl, H⟩) (fun q => absurd hit q))
theorem c_kindN_1 (hT : TpC s τ h) (hK : TK s τ p h) (hp : p ≤ s) (hit : nameIs s τ p 1) (H : f 1 h) : rCall E (d + 6) mTx_kindNamed [pR 22] SH h (rPi SH f) :=
  vTx_kindNamed (c_isName (w := 0) (by omega) hT hK hp (fun q => absurd (name_1 (by omega) (by omega) q hit) (by omega)) (fun _ => o0 (c_isName (w := 1) (by omega) hT hK hp (fun _ => o1 ⟨rfl, H⟩) (fun q => absurd hit q))))
theorem c_kindN_2 (hT : TpC s τ h) (hK : TK s τ p h) (hp : p ≤ s) (hit : nameIs s τ p 2) (H : f 2 h) : rCall E (d + 6) mTx_kindNamed [pR 22] SH h (rPi SH f) :=
  vTx_kindNamed (c_isName (w := 0) (by omega) hT hK hp (fun q => absurd (name_1 (by omega) (by omega) q hit) (by omega)) (fun _ => o0 (c_isName (w := 1) (by omega) hT hK hp (fun q => absurd (name_1 (by omega) (by omega) q hit) (by omega)) (fun _ => o0 (c_isName (w := 2) (by omega) hT hK hp (fun _ => o1 ⟨rfl, H⟩) (fun q => absurd hit q))))))
theorem c_kindN_3 (hT : TpC s τ h) (hK : TK s τ p h) (hp : p ≤ s) (hit : nameIs s τ p 3) (H : f 3 h) : rCall E (d + 6) mTx_kindNamed [pR 22] SH h (rPi SH f) :=
  vTx_kindNamed (c_isName (w := 0) (by omega) hT hK hp (fun q => absurd (name_1 (by omega) (by omega) q hit) (by omega)) (fun _ => o0 (c_isName (w := 1) (by omega) hT hK hp (fun q => absurd (name_1 (by omega) (by omega) q hit) (by omega)) (fun _ => o0 (c_isName (w := 2) (by omega) hT hK hp (fun q => absurd (name_1 (by omega) (by omega) q hit) (by omega)) (fun _ => o0 (c_isName (w := 3) (by omega) hT hK hp (fun _ => o1 ⟨rfl, H⟩) (fun q => absurd hit q))))))))
theorem c_kindN_4 (hT : TpC s τ h) (hK : TK s τ p h) (hp : p ≤ s) (hit : nameIs s τ p 4) (H : f 4 h) : rCall E (d + 6) mTx_kindNamed [pR 22] SH h (rPi SH f) :=
  vTx_kindNamed (c_isName (w := 0) (by omega) hT hK hp (fun q => absurd (name_1 (by omega) (by omega) q hit) (by omega)) (fun _ => o0 (c_isName (w := 1) (by omega) hT hK hp (fun q => absurd (name_1 (by omega) (by omega) q hit) (by omega)) (fun _ => o0 (c_isName (w := 2) (by omega) hT hK hp (fun q => absurd (name_1 (by omega) (by omega) q hit) (by omega)) (fun _ => o0 (c_isName (w := 3) (by omega) hT hK hp (fun q => absurd (name_1 (by omega) (by omega) q hit) (by omega)) (fun _ => o0 (c_isName (w := 4) (by omega) hT hK hp (fun _ => o1 ⟨rfl, H⟩) (fun q => absurd hit q))))))))))
theorem c_kindN_5 (hT : TpC s τ h) (hK : TK s τ p h) (hp : p ≤ s) (hit : nameIs s τ p 5) (H : f 5 h) : rCall E (d + 6) mTx_kindNamed [pR 22] SH h (rPi SH f) :=
  vTx_kindNamed (c_isName (w := 0) (by omega) hT hK hp (fun q => absurd (name_1 (by omega) (by omega) q hit) (by omega)) (fun _ => o0 (c_isName (w := 1) (by omega) hT hK hp (fun q => absurd (name_1 (by omega) (by omega) q hit) (by omega)) (fun _ => o0 (c_isName (w := 2) (by omega) hT hK hp (fun q => absurd (name_1 (by omega) (by omega) q hit) (by omega)) (fun _ => o0 (c_isName (w := 3) (by omega) hT hK hp (fun q => absurd (name_1 (by omega) (by omega) q hit) (by omega)) (fun _ => o0 (c_isName (w := 4) (by omega) hT hK hp (fun q => absurd (name_1 (by omega) (by omega) q hit) (by omega)) (fun _ => o0 (c_isName (w := 5) (by omega) hT hK hp (fun _ => o1 ⟨rfl, H⟩) (fun q => absurd hit q))))))))))))
theorem c_kindN_no (hT : TpC s τ h) (hK : TK s τ p h) (hp : p ≤ s) (no : ∀ k, k < 6 → ¬ nameIs s τ p (0 + k)) (H : f (-1) h) : rCall E (d + 6) mTx_kindNamed [pR 22] SH h (rPi SH f) :=
  vTx_kindNamed (c_isName (w := 0) (by omega) hT hK hp (fun q => absurd q (no 0 (by omega))) (fun _ => o0 (c_isName (w := 1) (by omega) hT hK hp (fun q => absurd q (no 1 (by omega))) (fun _ => o0 (c_isName (w := 2) (by omega) hT hK hp (fun q => absurd q (no 2 (by omega))) (fun _ => o0 (c_isName (w := 3) (by omega) hT hK hp (fun q => absurd q (no 3 (by omega))) (fun _ => o0 (c_isName (w := 4) (by omega) hT hK hp (fun q => absurd q (no 4 (by omega))) (fun _ => o0 (c_isName (w := 5) (by omega) hT hK hp (fun q => absurd q (no 5 (by omega))) (fun _ => o0 (⟨rfl, H⟩)))))))))))))
theorem c_setN_0 (hT : TpC s τ h) (hK : TK s τ p h) (hp : p ≤ s) (hit : nameIs s τ p 9) (H : f 4 h) : rCall E (d + 6) mTx_settingNamed [pR 22] SH h (rPi SH f) :=
  vTx_settingNamed (c_isName (w := 9) (by omega) hT hK hp (fun _ => o1 ⟨rfl, H⟩) (fun q => absurd hit q))
theorem c_setN_1 (hT : TpC s τ h) (hK : TK s τ p h) (hp : p ≤ s) (hit : nameIs s τ p 10) (H : f 5 h) : rCall E (d + 6) mTx_settingNamed [pR 22] SH h (rPi SH f) :=
  vTx_settingNamed (c_isName (w := 9) (by omega) hT hK hp (fun q => absurd (name_1 (by omega) (by omega) q hit) (by omega)) (fun _ => o0 (c_isName (w := 10) (by omega) hT hK hp (fun _ => o1 ⟨rfl, H⟩) (fun q => absurd hit q))))
theorem c_setN_2 (hT : TpC s τ h) (hK : TK s τ p h) (hp : p ≤ s) (hit : nameIs s τ p 11) (H : f 0 h) : rCall E (d + 6) mTx_settingNamed [pR 22] SH h (rPi SH f) :=
  vTx_settingNamed (c_isName (w := 9) (by omega) hT hK hp (fun q => absurd (name_1 (by omega) (by omega) q hit) (by omega)) (fun _ => o0 (c_isName (w := 10) (by omega) hT hK hp (fun q => absurd (name_1 (by omega) (by omega) q hit) (by omega)) (fun _ => o0 (c_isName (w := 11) (by omega) hT hK hp (fun _ => o1 ⟨rfl, H⟩) (fun q => absurd hit q))))))
theorem c_setN_3 (hT : TpC s τ h) (hK : TK s τ p h) (hp : p ≤ s) (hit : nameIs s τ p 12) (H : f 1 h) : rCall E (d + 6) mTx_settingNamed [pR 22] SH h (rPi SH f) :=
  vTx_settingNamed (c_isName (w := 9) (by omega) hT hK hp (fun q => absurd (name_1 (by omega) (by omega) q hit) (by omega)) (fun _ => o0 (c_isName (w := 10) (by omega) hT hK hp (fun q => absurd (name_1 (by omega) (by omega) q hit) (by omega)) (fun _ => o0 (c_isName (w := 11) (by omega) hT hK hp (fun q => absurd (name_1 (by omega) (by omega) q hit) (by omega)) (fun _ => o0 (c_isName (w := 12) (by omega) hT hK hp (fun _ => o1 ⟨rfl, H⟩) (fun q => absurd hit q))))))))
theorem c_setN_4 (hT : TpC s τ h) (hK : TK s τ p h) (hp : p ≤ s) (hit : nameIs s τ p 13) (H : f 2 h) : rCall E (d + 6) mTx_settingNamed [pR 22] SH h (rPi SH f) :=
  vTx_settingNamed (c_isName (w := 9) (by omega) hT hK hp (fun q => absurd (name_1 (by omega) (by omega) q hit) (by omega)) (fun _ => o0 (c_isName (w := 10) (by omega) hT hK hp (fun q => absurd (name_1 (by omega) (by omega) q hit) (by omega)) (fun _ => o0 (c_isName (w := 11) (by omega) hT hK hp (fun q => absurd (name_1 (by omega) (by omega) q hit) (by omega)) (fun _ => o0 (c_isName (w := 12) (by omega) hT hK hp (fun q => absurd (name_1 (by omega) (by omega) q hit) (by omega)) (fun _ => o0 (c_isName (w := 13) (by omega) hT hK hp (fun _ => o1 ⟨rfl, H⟩) (fun q => absurd hit q))))))))))
theorem c_setN_5 (hT : TpC s τ h) (hK : TK s τ p h) (hp : p ≤ s) (hit : nameIs s τ p 14) (H : f 3 h) : rCall E (d + 6) mTx_settingNamed [pR 22] SH h (rPi SH f) :=
  vTx_settingNamed (c_isName (w := 9) (by omega) hT hK hp (fun q => absurd (name_1 (by omega) (by omega) q hit) (by omega)) (fun _ => o0 (c_isName (w := 10) (by omega) hT hK hp (fun q => absurd (name_1 (by omega) (by omega) q hit) (by omega)) (fun _ => o0 (c_isName (w := 11) (by omega) hT hK hp (fun q => absurd (name_1 (by omega) (by omega) q hit) (by omega)) (fun _ => o0 (c_isName (w := 12) (by omega) hT hK hp (fun q => absurd (name_1 (by omega) (by omega) q hit) (by omega)) (fun _ => o0 (c_isName (w := 13) (by omega) hT hK hp (fun q => absurd (name_1 (by omega) (by omega) q hit) (by omega)) (fun _ => o0 (c_isName (w := 14) (by omega) hT hK hp (fun _ => o1 ⟨rfl, H⟩) (fun q => absurd hit q))))))))))))
theorem c_setN_no (hT : TpC s τ h) (hK : TK s τ p h) (hp : p ≤ s) (no : ∀ k, k < 6 → ¬ nameIs s τ p (9 + k)) (H : f (-1) h) : rCall E (d + 6) mTx_settingNamed [pR 22] SH h (rPi SH f) :=
  vTx_settingNamed (c_isName (w := 9) (by omega) hT hK hp (fun q => absurd q (no 0 (by omega))) (fun _ => o0 (c_isName (w := 10) (by omega) hT hK hp (fun q => absurd q (no 1 (by omega))) (fun _ => o0 (c_isName (w := 11) (by omega) hT hK hp (fun q => absurd q (no 2 (by omega))) (fun _ => o0 (c_isName (w := 12) (by omega) hT hK hp (fun q => absurd q (no 3 (by omega))) (fun _ => o0 (c_isName (w := 13) (by omega) hT hK hp (fun q => absurd q (no 4 (by omega))) (fun _ => o0 (c_isName (w := 14) (by omega) hT hK hp (fun q => absurd q (no 5 (by omega))) (fun _ => o0 (⟨rfl, H⟩)))))))))))))
end
