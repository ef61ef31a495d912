def OM (s : Nat) (τ : Nat → Nat) (r : rRes) (h : rHp) (fn : rHp → Prop) : Prop :=
  (∀ q, r = .inl q → FW s τ q h fn) ∧ (∀ n' σ' p', r = .inr (n', σ', p') → ∀ h', Fp h h' → Mo n' σ' h' → MTK s τ p' h' → h' 35 12 = 0 → fn h')
theorem OM_p {s : Nat} {τ : Nat → Nat} {r : rRes} {h h' : rHp} {fn : rHp → Prop} (a : Fp h h') (H : OM s τ r h fn) : OM s τ r h' fn := ⟨fun q e => FW_n a (H.1 q e), fun n' σ' p' e h2 b => H.2 n' σ' p' e h2 (Fp_tr a b)⟩
section
variable {E : rE} {d s p n : Nat} {τ : Nat → Nat} {σ : Nat → Int32} {h : rHp} {f : Int32 → rHp → Prop} {fn : rHp → Prop}
theorem i70 {x y : Int32} (hT : TpM s τ h) (hK : MTK s τ p h) (hp : p ≤ s) (H1 : semi s τ p → rR E (rCall E (d + 1)) mMo_itemHere (rPn SH fn) 97 [some (pR 35), some (pI x), some (pI y)] [pI 1, pR 35] SH h 0 0) (H0 : ¬ semi s τ p → rR E (rCall E (d + 1)) mMo_itemHere (rPn SH fn) 97 [some (pR 35), some (pI x), some (pI y)] [pI 0, pR 35] SH h 0 0) : rR E (rCall E (d + 1)) mMo_itemHere (rPn SH fn) 70 [some (pR 35), some (pI x), some (pI y)] [] SH h 0 0 := by
  have hs := hT.1
  have hTT := tk_T (s := s) (τ := τ) p
  apply vMo_itemHere_70
  rw [hK.1, hK.2.1]
  refine ⟨fun q1 => ?_, fun q1 => H0 (fun q => q1 (by rw [q.1]; rfl))⟩
  have t3 : tkT s τ p = 3 := (nI_eq (b := 3) (by omega) (by omega)).1 q1
  exact m_byteAt hT (by omega) ⟨fun q2 => H1 ⟨t3, (bt_eq (c := 59) hT (by omega) (by omega)).1 q2⟩, fun q2 => H0 (fun q => q2 ((bt_eq (c := 59) hT (by omega) (by omega)).2 q.2))⟩
theorem i70W {x y : Int32} {q : Nat} (hT : TpM s τ h) (hw : WM s τ q h) (H : FW s τ q h fn) : rR E (rCall E (d + 3)) mMo_itemHere (rPn SH fn) 70 [some (pR 35), some (pI x), some (pI y)] [] SH h 0 0 := by
  obtain ⟨w12, p, hp, kp, eq⟩ := hw
  have k : ∀ z : Int32, rR E (rCall E (d + 3)) mMo_itemHere (rPn SH fn) 97 [some (pR 35), some (pI x), some (pI y)] [pI z, pR 35] SH h 0 0 := fun z => vMo_itemHere_97 (m_needW kp w12 (fun h' a b c => ⟨rfl, H h' (Fp_n a) ⟨c, p, hp, b, eq⟩⟩))
  exact i70 hT kp hp (fun _ => k 1) (fun _ => k 0)
theorem i70N {x y : Int32} (hT : TpM s τ h) (hK : MTK s τ p h) (hp : p ≤ s) (h12 : h 35 12 = 0) (H1 : semi s τ p → ∀ h', Fn h h' → MTK s τ (tkE s τ p) h' → h' 35 12 = 0 → fn h') (H0 : ¬ semi s τ p → FW s τ (tkA s τ p) h fn) : rR E (rCall E (d + 3)) mMo_itemHere (rPn SH fn) 70 [some (pR 35), some (pI x), some (pI y)] [] SH h 0 0 :=
  i70 hT hK hp (fun c => vMo_itemHere_97 (m_need1 hT hK hp h12 (fun h' a b e => ⟨rfl, H1 c h' a b e⟩))) (fun c => vMo_itemHere_97 (m_need0 hK h12 (fun h' a b e => ⟨rfl, H0 c h' (Fp_n a) (WM_mk b hp e)⟩)))
theorem i_thing {k : Nat} {y : Int32} {r : rRes} (hW : Wf n n σ) (hr : pTh s τ n σ k p r) (hT : TpM s τ h) (hK : MTK s τ p h) (hp : p ≤ s) (h12 : h 35 12 = 0) (hM : Mo n σ h) (H : OM s τ r h fn) : rCall E (d + 12) mMo_thingHere [pR 35, pI (nI k)] SH h (rPn SH (fun g7 => rR E (rCall E (d + 12)) mMo_itemHere (rPn SH fn) 70 [some (pR 35), some (pI (nI k)), some (pI y)] [] SH g7 0 0)) := by
  refine m_thingHere hW hr hT hK hp h12 hM ⟨fun q er h1 a1 w1 => i70W (TpM_p hT a1) w1 (FW_n a1 (H.1 q er)), fun pl w u q h4 hq h1 a1 m1 k1 e1 => i70N (TpM_p hT a1) k1 hq e1 (fun c h2 a2 k2 e2 => ?_) (fun c => ?_)⟩
  · rcases h4 with ⟨_, er⟩ | ⟨z, _⟩
    · exact H.2 _ _ _ er h2 (Fp_tr a1 (Fp_n a2)) (Mo_far m1 (a2.1 36 (by omega))) k2 e2
    · exact absurd c z
  · rcases h4 with ⟨z, _⟩ | ⟨_, er⟩
    · exact absurd z c
    · exact FW_n a1 (H.1 _ er)
theorem i_set {j : Nat} {x y : Int32} {r : rRes} (hW : Wf n n σ) (hj : j < 6) (hr : pSe s τ n σ j p r) (hT : TpM s τ h) (hK : MTK s τ p h) (hp : p ≤ s) (h12 : h 35 12 = 0) (hM : Mo n σ h) (H : OM s τ r h fn) : rCall E (d + 12) mMo_nextToken [pR 35] SH h (rPn SH (fun g6 => rR E (rCall E (d + 12)) mMo_itemHere (rPn SH fn) 59 [some (pR 35), some (pI x), some (pI y)] [pI (nI (mst j)), pI (nI (3 + j)), pR 35] SH g6 0 0)) := by
  have hn := hW.1.1
  have hE := tk_E (τ := τ) hp
  have hE2 := tk_E (τ := τ) hE.2.1
  have hm : mst j < 1000 := by unfold mst; split <;> (try split) <;> (try split) <;> omega
  refine m_next hT hK.2.2.1 hE.2.1 (fun h1 a1 b1 k1 => vMo_itemHere_59 (m_num (TpM_n hT a1) k1 hE.2.1 (b1.trans h12) (by omega) hm (fun ok h2 a2 b2 k2 e2 => ?_) (fun ok h2 a2 k2 e2 => ?_)))
  · rcases hr with ⟨z, _⟩ | ⟨_, hr⟩
    · exact absurd ok z
    · have aa := Fp_tr (Fp_n a1) a2
      refine i70N (TpM_p hT aa) k2 hE2.2.1 e2 (fun c h3 a3 k3 e3 => ?_) (fun c => ?_)
      · rcases hr with ⟨z, _⟩ | ⟨_, er⟩
        · exact absurd c z
        · refine H.2 _ _ _ er h3 (Fp_tr aa (Fp_n a3)) ?_ k3 e3
          show AG _ (h3 36) _
          rw [a3.1 36 (by omega), b2, a1.1 36 (by omega)]
          exact AG_w hM
      · rcases hr with ⟨_, er⟩ | ⟨z, _⟩
        · exact FW_n aa (H.1 _ er)
        · exact absurd z c
  · rcases hr with ⟨_, er⟩ | ⟨z, _⟩
    · have aa := Fn_tr a1 a2
      exact i70W (TpM_n hT aa) (WM_mk k2 hE.2.1 e2) (FW_n (Fp_n aa) (H.1 _ er))
    · exact absurd z ok
theorem m_itemHere {r : rRes} (hW : Wf n n σ) (hr : pS s τ n σ p r) (hT : TpM s τ h) (hK : MTK s τ p h) (hp : p ≤ s) (h12 : h 35 12 = 0) (hM : Mo n σ h) (H : OM s τ r h fn) : rCall E (d + 13) mMo_itemHere [pR 35] SH h (rPn SH fn) := by
  rcases hr with ⟨k, hk, hit, hr⟩ | ⟨no, ⟨j, hj, hit, hr⟩ | ⟨no2, er⟩⟩
  · have no2 : ∀ j, j < 6 → ¬ nameIs s τ p (9 + j) := fun j hj q => absurd (name_1 (by omega) (by omega) q hit) (by omega)
    rcases (by omega : k = 0 ∨ k = 1 ∨ k = 2 ∨ k = 3 ∨ k = 4 ∨ k = 5) with rfl | rfl | rfl | rfl | rfl | rfl
    · exact vMo_itemHere (m_kindN_0 hT hK hp hit (m_ownN_no hT hK hp no2 (br_f (by decide) (i_thing (k := 0) hW hr hT hK hp h12 hM H))))
    · exact vMo_itemHere (m_kindN_1 hT hK hp hit (m_ownN_no hT hK hp no2 (br_f (by decide) (i_thing (k := 1) hW hr hT hK hp h12 hM H))))
    · exact vMo_itemHere (m_kindN_2 hT hK hp hit (m_ownN_no hT hK hp no2 (br_f (by decide) (i_thing (k := 2) hW hr hT hK hp h12 hM H))))
    · exact vMo_itemHere (m_kindN_3 hT hK hp hit (m_ownN_no hT hK hp no2 (br_f (by decide) (i_thing (k := 3) hW hr hT hK hp h12 hM H))))
    · exact vMo_itemHere (m_kindN_4 hT hK hp hit (m_ownN_no hT hK hp no2 (br_f (by decide) (i_thing (k := 4) hW hr hT hK hp h12 hM H))))
    · exact vMo_itemHere (m_kindN_5 hT hK hp hit (m_ownN_no hT hK hp no2 (br_f (by decide) (i_thing (k := 5) hW hr hT hK hp h12 hM H))))
  · rcases (by omega : j = 0 ∨ j = 1 ∨ j = 2 ∨ j = 3 ∨ j = 4 ∨ j = 5) with rfl | rfl | rfl | rfl | rfl | rfl
    · exact vMo_itemHere (m_kindN_no hT hK hp no (m_ownN_0 hT hK hp hit (br_t (by decide) (br_f (by decide) (rCall_mono (rPn_mono (fun g6 q => br_t rfl q)) (i_set (j := 0) hW (by omega) hr hT hK hp h12 hM H))))))
    · exact vMo_itemHere (m_kindN_no hT hK hp no (m_ownN_1 hT hK hp hit (br_t (by decide) (br_f (by decide) (rCall_mono (rPn_mono (fun g6 q => br_f (by decide) (br_t rfl q))) (i_set (j := 1) hW (by omega) hr hT hK hp h12 hM H))))))
    · exact vMo_itemHere (m_kindN_no hT hK hp no (m_ownN_2 hT hK hp hit (br_t (by decide) (br_f (by decide) (rCall_mono (rPn_mono (fun g6 q => br_f (by decide) (br_f (by decide) (br_f (by decide) q)))) (i_set (j := 2) hW (by omega) hr hT hK hp h12 hM H))))))
    · exact vMo_itemHere (m_kindN_no hT hK hp no (m_ownN_3 hT hK hp hit (br_t (by decide) (br_f (by decide) (rCall_mono (rPn_mono (fun g6 q => br_f (by decide) (br_f (by decide) (br_f (by decide) q)))) (i_set (j := 3) hW (by omega) hr hT hK hp h12 hM H))))))
    · exact vMo_itemHere (m_kindN_no hT hK hp no (m_ownN_4 hT hK hp hit (br_t (by decide) (br_f (by decide) (rCall_mono (rPn_mono (fun g6 q => br_f (by decide) (br_f (by decide) (br_f (by decide) q)))) (i_set (j := 4) hW (by omega) hr hT hK hp h12 hM H))))))
    · exact vMo_itemHere (m_kindN_no hT hK hp no (m_ownN_5 hT hK hp hit (br_t (by decide) (br_f (by decide) (rCall_mono (rPn_mono (fun g6 q => br_f (by decide) (br_f (by decide) (br_t rfl q)))) (i_set (j := 5) hW (by omega) hr hT hK hp h12 hM H))))))
  · exact vMo_itemHere (m_kindN_no hT hK hp no (m_ownN_no hT hK hp no2 (br_t (by decide) (br_t (by decide) (m_need0 hK h12 (fun h1 a1 b1 c1 => i70W (TpM_n hT a1) (WM_mk b1 hp c1) (FW_n (Fp_n a1) (H.1 _ er))))))))
theorem m_begins (H : ∀ h', F36 h h' → Mo 0 (sBeg (h 36 2)) h' → (∀ k, k < 50 → h' 36 k = sBeg (h 36 2) k) → fn h') : rCall E (d + 1) mMo_begins [pR 35] SH h (rPn SH fn) := by
  apply vMo_begins
  refine loopUp (P := fun i => ∀ h1, F36 h h1 → (∀ j, j < i → h1 36 j = 0) → rR E (rCall E d) mMo_begins (rPn SH fn) 9 [some (pR 35), some (pI (h 36 2)), some (pI (nI i))] [] SH h1 0 0) 50 ?_ ?_ h F36_rf (fun j hj => absurd hj (by omega))
  · intro i hi hP h1 a1 e1
    refine vMo_begins_9 (br_f (nI_ge (b := 50) hi (by omega)) ⟨vp_in_nI hi (by omega), ?_⟩)
    rw [nI_clamp (by omega), ← nI_succ]
    refine hP _ (F36_up a1) (fun j hj => ?_)
    rw [rUp_a]
    by_cases c : j = i
    · subst c; rw [sW_eq]
    · rw [sW_ne c]; exact e1 j (by omega)
  · intro h1 a1 e1
    have ek : ∀ k, k < 50 → rUp (rUp (rUp (rUp (rUp (rUp h1 36 2 (h 36 2)) 36 4 50) 36 5 3) 36 6 2) 36 7 2) 36 8 20 36 k = sBeg (h 36 2) k := by
      intro k hk
      rw [rUp_a, rUp_a, rUp_a, rUp_a, rUp_a, rUp_a]
      unfold sBeg
      by_cases c2 : k = 2
      · subst c2; rfl
      · by_cases c4 : k = 4
        · subst c4; rfl
        · by_cases c5 : k = 5
          · subst c5; rfl
          · by_cases c6 : k = 6
            · subst c6; rfl
            · by_cases c7 : k = 7
              · subst c7; rfl
              · by_cases c8 : k = 8
                · subst c8; rfl
                · rw [sW_ne c8, sW_ne c7, sW_ne c6, sW_ne c5, sW_ne c4, sW_ne c2, if_neg c2, if_neg c4, if_neg c5, if_neg c6, if_neg c7, if_neg c8]
                  exact e1 k hk
    exact vMo_begins_9 (br_t (nI_le (a := 50) (b := 50) (by omega) (by omega)) ⟨rfl, H _ (F36_up (F36_up (F36_up (F36_up (F36_up (F36_up a1)))))) (fun k hk => ek k (by omega)) ek⟩)
/-- the same text over a street with other draws -/
def mapR (y : Int32) : rRes → rRes
  | .inl q => .inl q
  | .inr (n', σ', p') => .inr (n', sW σ' 2 y, p')
theorem sAdd_2 {k w u pl y : Int32} : sAdd (sW σ 2 y) n k w u pl = sW (sAdd σ n k w u pl) 2 y := by
  unfold sAdd sLay
  rw [sW_comm (i := 14 + 5 * n) (j := 2) (by omega), sW_comm (i := 13 + 5 * n) (j := 2) (by omega), sW_comm (i := 9) (j := 2) (by omega), sW_comm (i := 12 + 5 * n) (j := 2) (by omega), sW_comm (i := 11 + 5 * n) (j := 2) (by omega), sW_comm (i := 10 + 5 * n) (j := 2) (by omega), sW_comm (i := 0) (j := 2) (by omega)]
  have e9 : sW (sW (sW (sW (sW σ 2 y) 0 (nI (n + 1))) (10 + 5 * n) k) (11 + 5 * n) w) (12 + 5 * n) u 9 = sW (sW (sW (sW σ 0 (nI (n + 1))) (10 + 5 * n) k) (11 + 5 * n) w) (12 + 5 * n) u 9 := by
    rw [sW_ne (by omega), sW_ne (by omega), sW_ne (by omega), sW_ne (by omega), sW_ne (by omega), sW_ne (by omega), sW_ne (by omega), sW_ne (by omega), sW_ne (by omega)]
  rw [e9]
theorem pTh4_m {k pl w u q : Nat} {r : rRes} (y : Int32) (hr : pTh4 s τ n σ k pl w u q r) : pTh4 s τ n (sW σ 2 y) k pl w u q (mapR y r) := by
  rcases hr with ⟨c, rfl⟩ | ⟨c, rfl⟩
  · refine Or.inl ⟨c, ?_⟩
    show Sum.inr _ = _
    rw [sAdd_2]
  · exact Or.inr ⟨c, rfl⟩
theorem pTh3_m {k pl w q : Nat} {r : rRes} (y : Int32) (hr : pTh3 s τ n σ k pl w q r) : pTh3 s τ n (sW σ 2 y) k pl w q (mapR y r) := by
  rcases hr with ⟨c, h⟩ | ⟨c, ⟨c2, rfl⟩ | ⟨c2, h⟩⟩
  · exact Or.inl ⟨c, pTh4_m y h⟩
  · exact Or.inr ⟨c, Or.inl ⟨c2, rfl⟩⟩
  · exact Or.inr ⟨c, Or.inr ⟨c2, pTh4_m y h⟩⟩
theorem pTh2_m {k pl q : Nat} {r : rRes} (y : Int32) (hr : pTh2 s τ n σ k pl q r) : pTh2 s τ n (sW σ 2 y) k pl q (mapR y r) := by
  rcases hr with ⟨c, h⟩ | ⟨c, ⟨c2, rfl⟩ | ⟨c2, h⟩⟩
  · exact Or.inl ⟨c, pTh3_m y h⟩
  · exact Or.inr ⟨c, Or.inl ⟨c2, rfl⟩⟩
  · exact Or.inr ⟨c, Or.inr ⟨c2, pTh3_m y h⟩⟩
theorem pS_m {r : rRes} (y : Int32) (hr : pS s τ n σ p r) : pS s τ n (sW σ 2 y) p (mapR y r) := by
  rcases hr with ⟨k, hk, hit, hr⟩ | ⟨no, ⟨j, hj, hit, hr⟩ | ⟨no2, rfl⟩⟩
  · refine Or.inl ⟨k, hk, hit, ?_⟩
    rcases hr with ⟨c, rfl⟩ | ⟨c, ⟨c2, rfl⟩ | ⟨c2, ⟨c3, rfl⟩ | ⟨c3, h⟩⟩⟩
    · exact Or.inl ⟨c, rfl⟩
    · exact Or.inr ⟨c, Or.inl ⟨c2, rfl⟩⟩
    · exact Or.inr ⟨c, Or.inr ⟨c2, Or.inl ⟨c3, rfl⟩⟩⟩
    · exact Or.inr ⟨c, Or.inr ⟨c2, Or.inr ⟨c3, pTh2_m y h⟩⟩⟩
  · refine Or.inr ⟨no, Or.inl ⟨j, hj, hit, ?_⟩⟩
    rcases hr with ⟨c, rfl⟩ | ⟨c, ⟨c2, rfl⟩ | ⟨c2, rfl⟩⟩
    · exact Or.inl ⟨c, rfl⟩
    · exact Or.inr ⟨c, Or.inl ⟨c2, rfl⟩⟩
    · refine Or.inr ⟨c, Or.inr ⟨c2, ?_⟩⟩
      show Sum.inr _ = _
      rw [sW_comm (i := 3 + j) (j := 2) (by omega)]
  · exact Or.inr ⟨no, Or.inr ⟨no2, rfl⟩⟩
theorem pP_m (y : Int32) : ∀ (m p n : Nat) (σ : Nat → Int32) (r : rRes), pP s τ m p n σ r → pP s τ m p n (sW σ 2 y) (mapR y r)
  | 0, _, _, _, _, h => h
  | m + 1, p, n, σ, r, h => by
    rcases h with ⟨c, rfl⟩ | ⟨c, r1, h1, ⟨q, rfl, rfl⟩ | ⟨n', σ', p', rfl, h2⟩⟩
    · exact Or.inl ⟨c, rfl⟩
    · exact Or.inr ⟨c, _, pS_m y h1, Or.inl ⟨q, rfl, rfl⟩⟩
    · exact Or.inr ⟨c, _, pS_m y h1, Or.inr ⟨n', sW σ' 2 y, p', rfl, pP_m y m p' n' σ' r h2⟩⟩
theorem sBeg_2 {x y : Int32} : sW (sBeg x) 2 y = sBeg y := by
  funext k
  by_cases c : k = 2
  · subst c; rw [sW_eq]; rfl
  · rw [sW_ne c]
    unfold sBeg
    rw [if_neg c, if_neg c]
/-- the loop of the model's street() -/
theorem m_street29 {r : rRes} (hT : TpM s τ h) (H1 : ∀ q, r = .inl q → ∀ h', Fp h h' → WM s τ q h' → rCall E (d + 14) mMo_copyRow [pR 39, pR 36] SH (rUp h' 35 7 0) (rPn SH (fun g5 => rPi SH f (some (pI (-100 - g5 35 9))) SH g5))) (H2 : ∀ n' σ' p', r = .inr (n', σ', p') → ∀ h', Fp h h' → Mo n' σ' h' → f (h' 36 0) (rUp (rUp h' 35 7 0) 35 14 0)) :
    ∀ (m p n : Nat) (σ : Nat → Int32) (h1 : rHp), p ≤ s → Wf n n σ → pP s τ m p n σ r → Fp h h1 → Mo n σ h1 → MTK s τ p h1 → h1 35 12 = 0 → rR E (rCall E (d + 14)) mMo_street (rPi SH f) 29 [some (pR 35)] [] SH h1 0 0 := by
  intro m
  induction m with
  | zero =>
    intro p n σ h1 hp hW hr
    exact hr.elim
  | succ m ih =>
    intro p n σ h1 hp hW hr a1 m1 k1 e1
    have hTT := tk_T (s := s) (τ := τ) p
    refine vMo_street_29 (br_t e1 ?_)
    rw [k1.1]
    rcases hr with ⟨t0, er⟩ | ⟨t0, r1, g1, hr⟩
    · exact br_t (by rw [t0]; rfl) (br_t e1 ⟨rfl, H2 _ _ _ er h1 a1 m1⟩)
    · have ok := pS_ok hW hp g1
      refine br_f (nI_ne0 (by omega) (by omega)) (m_itemHere hW g1 (TpM_p hT a1) k1 hp e1 m1 ⟨fun q eq h2 a2 w2 => ?_, fun n' σ' p' eq h2 a2 m2 k2 e2 => ?_⟩)
      · rcases hr with ⟨q', z1, z2⟩ | ⟨n', σ', p', z1, _⟩
        · rw [z1] at eq
          cases eq
          exact vMo_street_29 (br_f (by rw [w2.1]; decide) (br_f (by rw [w2.1]; decide) (H1 _ z2 h2 (Fp_tr a1 a2) w2)))
        · rw [z1] at eq
          cases eq
      · rcases hr with ⟨q', z1, z2⟩ | ⟨n2, σ2, p2, z1, g2⟩
        · rw [z1] at eq
          cases eq
        · rw [z1] at eq
          cases eq
          have o := ok.2 _ _ _ z1
          exact ih _ _ _ h2 o.2.1 o.2.2 g2 (Fp_tr a1 a2) m2 k2 e2
end
section
variable {E : rE} {B : Nat} {h : rHp}
theorem two_street (hB : B + 1 < 1000000) (hB8 : 8 ≤ B) (hR : Rel B h) : Two E B h mLa_street mMo_street [] := by
  obtain ⟨⟨n, σ, hW, hS, hM⟩, h1, ⟨s, hs, t1, t2, t3⟩, h3, h4, h5, h6⟩ := hR
  obtain ⟨τ, hτ⟩ : ∃ τ : Nat → Nat, ∀ i, i < s → τ i < 256 ∧ h 41 i = nI (τ i) ∧ h 23 i = sb (τ i) := by
    refine ⟨fun i => (h 41 i).toNatClampNeg, fun i hi => ?_⟩
    obtain ⟨c, hc, e1, e2⟩ := t3 i hi
    show (h 41 i).toNatClampNeg < 256 ∧ h 41 i = nI (h 41 i).toNatClampNeg ∧ h 23 i = sb (h 41 i).toNatClampNeg
    rw [e1, nI_clamp (by omega)]
    exact ⟨hc, rfl, e2⟩
  have hTC : TpC s τ h := ⟨hs, t1, fun i hi => ⟨(hτ i hi).1, (hτ i hi).2.2⟩⟩
  have hTM : TpM s τ h := ⟨hs, t2, fun i hi => ⟨(hτ i hi).1, (hτ i hi).2.1⟩⟩
  obtain ⟨r, hr⟩ := pP_ex (s := s) (τ := τ) (s + 1) 0 0 (sBeg (h 8 11)) (by omega) (Nat.zero_le s) (Wf_sBeg (by omega))
  have hr2 := pP_m (σ 2) _ _ _ _ _ hr
  rw [sBeg_2] at hr2
  have ok := pP_ok (s + 1) 0 0 (sBeg (h 8 11)) r (Nat.zero_le s) (Wf_sBeg (by omega)) hr
  -- the model's own beginning
  have mod : ∀ (g : rHp) (f : Int32 → rHp → Prop), g 36 = h 36 → (∀ j, j < 8 → g 35 j = h 35 j) → g 41 = h 41 →
      (∀ q, mapR (σ 2) r = .inl q → ∀ g', (∀ b, b ≠ 35 ∧ b ≠ 36 ∧ b ≠ 39 → g' b = g b) → (∀ j, (j < 8 ∨ 12 < j) ∧ j ≠ 7 → g' 35 j = g 35 j) → g' 35 7 = 0 → (∀ k, k < 50 → g' 36 k = h 36 k) → f (-100 - nI q) g') →
      (∀ n' σ' p', mapR (σ 2) r = .inr (n', σ', p') → ∀ g', (∀ b, b ≠ 35 ∧ b ≠ 36 ∧ b ≠ 39 → g' b = g b) → (∀ j, (j < 8 ∨ 12 < j) ∧ j ≠ 7 ∧ j ≠ 14 → g' 35 j = g 35 j) → g' 35 7 = 0 → g' 35 14 = 0 → Mo n' σ' g' → f (g' 36 0) g') →
      rCall E 40 mMo_street [pR 35] SH g (rPi SH f) := by
    intro g f e36 e35 e41 H1 H2
    refine vMo_street (m_copyRow (u := 0) (w := 3) (by omega) (by omega) (by omega) (fun g1 a1 b1 => m_begins (fun g2 a2 m2 _ => ?_)))
    have ez : g1 36 2 = σ 2 := by rw [b1 36 (by omega), e36]; exact hM 2 (by omega)
    rw [ez] at m2
    have eN : ∀ b, b ≠ 36 ∧ b ≠ 39 → g2 b = g b := fun b hb => (a2 b hb.1).trans (b1 b hb.2)
    have g39 : ∀ k, k < 50 → g2 39 k = h 36 k := fun k hk => by rw [a2 39 (by omega), a1 k hk, e36]
    have a3 : Fn g2 (rUp (rUp g2 35 10 0) 35 12 0) := Fn_up (Fn_up Fn_rf (by omega)) (by omega)
    have hTg : TpM s τ g2 := by
      unfold TpM
      rw [eN 41 (by omega), eN 35 (by omega), e35 7 (by omega), e41]
      exact hTM
    refine m_next (p := 0) (TpM_n hTg a3) ?_ (Nat.zero_le s) (fun g4 a4 b4 k4 => ?_)
    · rw [rUp_a, sW_ne (by omega), rUp_a, sW_eq]
      rfl
    · have a5 : Fn g2 g4 := Fn_tr a3 a4
      refine m_street29 (h := g2) hTg (fun q er g6 a6 w6 => ?_) (fun n' σ' p' er g6 a6 m6 => ?_) (s + 1) 0 0 _ g4 (Nat.zero_le s) (Wf_sBeg (by omega)) hr2 (Fp_n a5) (Mo_far m2 (a5.1 36 (by omega))) k4 ?_
      · refine m_copyRow (u := 3) (w := 0) (by omega) (by omega) (by omega) (fun g7 a7 b7 => ⟨rfl, ?_⟩)
        obtain ⟨w12, p', hp', kp', eq'⟩ := w6
        have e9 : g7 35 9 = nI q := by rw [b7 35 (by omega), rUp_a, sW_ne (by omega), kp'.2.1, eq']
        rw [e9]
        refine H1 q er g7 (fun b hb => ?_) (fun j hj => ?_) ?_ (fun k hk => ?_)
        · rw [b7 b hb.2.1, rUp_o hb.1, a6.1 b ⟨hb.1, hb.2.1⟩, eN b hb.2]
        · rw [b7 35 (by omega), rUp_a, sW_ne hj.2, a6.2 j hj.1, eN 35 (by omega)]
        · rw [b7 35 (by omega), rUp_a, sW_eq]
        · rw [a7 k hk, rUp_o (by omega), a6.1 39 (by omega)]
          exact g39 k hk
      · have e36' : rUp (rUp g6 35 7 0) 35 14 0 36 = g6 36 := by rw [rUp_o (by omega), rUp_o (by omega)]
        have := H2 n' σ' p' er (rUp (rUp g6 35 7 0) 35 14 0) (fun b hb => ?_) (fun j hj => ?_) ?_ ?_ (Mo_far m6 e36')
        · rw [e36'] at this
          exact this
        · rw [rUp_o hb.1, rUp_o hb.1, a6.1 b ⟨hb.1, hb.2.1⟩, eN b hb.2]
        · rw [rUp_a, sW_ne hj.2.2, rUp_a, sW_ne hj.2.1, a6.2 j hj.1, eN 35 (by omega)]
        · rw [rUp_a, sW_ne (by omega), rUp_a, sW_eq]
        · rw [rUp_a, sW_eq]
      · rw [b4, rUp_a, sW_eq]
  refine vLa_street (c_readInto (s := s) (τ := τ) (r := r) hr hTC (fun q er g1 a1 b1 => vTx_clear ⟨rfl, ?_⟩) (fun n' σ' p' er g1 a1 b1 s1 => vTx_clear ⟨rfl, ?_⟩))
  · have qs := ok.1 q er
    refine br_f (nI_pos (by omega)) ⟨rfl, ?_⟩
    have g36 : rUp g1 22 1 0 36 = h 36 := by rw [rUp_o (by omega), a1 36 (by omega)]
    refine mod _ _ g36 (fun j hj => by rw [rUp_o (by omega), a1 35 (by omega)]) (by rw [rUp_o (by omega), a1 41 (by omega)]) (fun q2 er2 g2 c1 c2 c3 c4 => ?_) (fun n' σ' p' er2 => ?_)
    · rw [er] at er2
      cases er2
      refine ⟨rfl, ?_⟩
      have q : ∀ b, (b < 8 ∨ 14 < b) ∧ b ≠ 22 ∧ b ≠ 35 ∧ b ≠ 36 ∧ b ≠ 39 → g2 b = h b := fun b hb => (c1 b (by omega)).trans ((rUp_o (by omega)).trans (a1 b (by omega)))
      have q35 : ∀ j, (j < 8 ∨ 12 < j) ∧ j ≠ 7 → g2 35 j = h 35 j := fun j hj => by rw [c2 j hj, rUp_o (by omega), a1 35 (by omega)]
      have z22 : g2 22 1 = 0 := by rw [c1 22 (by omega), rUp_a, sW_eq]
      exact ⟨⟨n, σ, Wf_le hW (by omega) hB, St_far hS (fun b x1 x2 => q b (by omega)), fun k hk => (c4 k (by have := hW.1.1; omega)).trans (hM k hk)⟩, RK_far (RK_le hB h1) (congrFun (q 0 (by omega)) 9) (q35 5 (by omega)) (fun b c1 c2 => q b (by omega)) (q 37 (by omega)), ⟨0, by omega, z22, c3, fun i hi => absurd hi (by omega)⟩, RR_far h3 (congrFun (q 0 (by omega)) 8) (q35 14 (by omega)) (q 34 (by omega)) (q 42 (by omega)), RS_far h4 (q 25 (by omega)) (q 26 (by omega)) (q 27 (by omega)) (q 43 (by omega)) (q 44 (by omega)) (q 45 (by omega)), RV_far h5 (q 29 (by omega)) (q 30 (by omega)) (q 31 (by omega)) (q 46 (by omega)) (q 47 (by omega)) (q 48 (by omega)), RA_far h6 (congrFun (q 32 (by omega)) 1) (q35 22 (by omega)) (q 33 (by omega)) (q 49 (by omega))⟩
    · rw [er] at er2
      cases er2
  · refine br_t (by decide) ?_
    have hW' := ok.2 n' σ' p' er
    have hn' := hW'.1.1
    have e11 : rUp g1 22 1 0 1 11 = σ 2 := by rw [rUp_o (by omega), a1 1 (by omega)]; exact S0_z hS
    rw [e11]
    have sT : St 1 n' (sW σ' 2 (σ 2)) (rUp (rUp g1 22 1 0) 8 11 (σ 2)) := U1_z (St_far s1 (fun b x1 x2 => rUp_o (by omega)))
    refine c_bec01 hn' sT (fun g2 s2 f2 => ⟨rfl, ?_⟩)
    have hWz : Wf n' n' (sW σ' 2 (σ 2)) := Wf_z hW'
    have far : ∀ b, (b < 1 ∨ 14 < b) ∧ b ≠ 22 → g2 b = h b := fun b hb => (f2 b (by omega)).trans ((rUp_o (by omega)).trans ((rUp_o (by omega)).trans (a1 b (by omega))))
    have s3 : St 0 n' (sW σ' 2 (σ 2)) (rUp g2 0 8 0) := St_far s2 (fun b x1 x2 => rUp_o (by omega))
    rw [S0_n hWz s2]
    refine mod _ _ ?_ (fun j hj => ?_) ?_ (fun q2 er2 => ?_) (fun n2 σ2 p2 er2 g3 c1 c2 c3 c4 c5 => ?_)
    · rw [rUp_o (by omega), far 36 (by omega)]
    · rw [rUp_o (by omega), far 35 (by omega)]
    · rw [rUp_o (by omega), far 41 (by omega)]
    · rw [er] at er2
      cases er2
    · rw [er] at er2
      cases er2
      rw [Mo_n hWz c5]
      refine ⟨rfl, ?_⟩
      have q : ∀ b, (b < 1 ∨ 14 < b) ∧ b ≠ 0 ∧ b ≠ 22 ∧ b ≠ 35 ∧ b ≠ 36 ∧ b ≠ 39 → g3 b = h b := fun b hb => (c1 b (by omega)).trans ((rUp_o (by omega)).trans (far b (by omega)))
      have q35 : ∀ j, (j < 8 ∨ 12 < j) ∧ j ≠ 7 ∧ j ≠ 14 → g3 35 j = h 35 j := fun j hj => by rw [c2 j hj, rUp_o (by omega), far 35 (by omega)]
      have q0 : g3 0 9 = h 0 9 := by rw [c1 0 (by omega), rUp_a, sW_ne (by omega), far 0 (by omega)]
      have z22 : g3 22 1 = 0 := by rw [c1 22 (by omega), rUp_o (by omega), f2 22 (by omega), rUp_o (by omega), rUp_a, sW_eq]
      have z0 : g3 0 8 = 0 := by rw [c1 0 (by omega), rUp_a, sW_eq]
      exact ⟨⟨n', _, Wf_le hWz (by omega) hB, St_far s3 (fun b x1 x2 => c1 b (by omega)), c5⟩, RK_far (RK_le hB h1) q0 (q35 5 (by omega)) (fun b c1 c2 => q b (by omega)) (q 37 (by omega)), ⟨0, by omega, z22, c3, fun i hi => absurd hi (by omega)⟩, ⟨0, by omega, z0, c4, fun j hj => absurd hj (by omega)⟩, RS_far h4 (q 25 (by omega)) (q 26 (by omega)) (q 27 (by omega)) (q 43 (by omega)) (q 44 (by omega)) (q 45 (by omega)), RV_far h5 (q 29 (by omega)) (q 30 (by omega)) (q 31 (by omega)) (q 46 (by omega)) (q 47 (by omega)) (q 48 (by omega)), RA_far h6 (congrFun (q 32 (by omega)) 1) (q35 22 (by omega)) (q 33 (by omega)) (q 49 (by omega))⟩
end
