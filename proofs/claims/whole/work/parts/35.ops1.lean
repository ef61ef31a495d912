/-! the calls that ask and alter the street alone -/
section
variable {B n i : Nat} {σ : Nat → Int32} {h : rHp} {x : Int32}
theorem S0_n (hW : Wf B n σ) (H : St 0 n σ h) : h 1 6 = nI n := St_n hW H
theorem S0_y (H : St 0 n σ h) : h 1 8 = σ 1 := St_y H
theorem U0_y (H : St 0 n σ h) : St 0 n (sW σ 1 x) (rUp h 1 8 x) := by
  show AG _ (vS 0 (rUp h (7*0+1) 8 x)) _
  rw [vS_up_1]
  exact AG_w H
theorem S0_z (H : St 0 n σ h) : h 1 11 = σ 2 := St_z H
theorem U0_z (H : St 0 n σ h) : St 0 n (sW σ 2 x) (rUp h 1 11 x) := by
  show AG _ (vS 0 (rUp h (7*0+1) 11 x)) _
  rw [vS_up_2]
  exact AG_w H
theorem S0_a (H : St 0 n σ h) : h 1 9 = σ 3 := St_a H
theorem U0_a (H : St 0 n σ h) : St 0 n (sW σ 3 x) (rUp h 1 9 x) := by
  show AG _ (vS 0 (rUp h (7*0+1) 9 x)) _
  rw [vS_up_3]
  exact AG_w H
theorem S0_o (H : St 0 n σ h) : h 1 10 = σ 4 := St_o H
theorem U0_o (H : St 0 n σ h) : St 0 n (sW σ 4 x) (rUp h 1 10 x) := by
  show AG _ (vS 0 (rUp h (7*0+1) 10 x)) _
  rw [vS_up_4]
  exact AG_w H
theorem S0_L (H : St 0 n σ h) : h 1 7 = σ 9 := St_L H
theorem U0_L (H : St 0 n σ h) : St 0 n (sW σ 9 x) (rUp h 1 7 x) := by
  show AG _ (vS 0 (rUp h (7*0+1) 7 x)) _
  rw [vS_up_9]
  exact AG_w H
theorem S0_l (H : St 0 n σ h) (hi : i < 4) : h 7 i = σ (5 + i) := St_l H hi
theorem U0_l (H : St 0 n σ h) (hi : i < 4) : St 0 n (sW σ (5 + i) x) (rUp h 7 i x) := by
  show AG _ (vS 0 (rUp h (7*0+7) i x)) _
  rw [vS_up_l hi]
  exact AG_w H
theorem S0_k (H : St 0 n σ h) (hi : i < n) : h 2 i = σ (10 + 5 * i) := St_k H hi
theorem U0_k (H : St 0 n σ h) : St 0 n (sW σ (10 + 5 * i) x) (rUp h 2 i x) := by
  show AG _ (vS 0 (rUp h (7*0+2) i x)) _
  rw [vS_up_k]
  exact AG_w H
theorem S0_w (H : St 0 n σ h) (hi : i < n) : h 3 i = σ (11 + 5 * i) := St_w H hi
theorem U0_w (H : St 0 n σ h) : St 0 n (sW σ (11 + 5 * i) x) (rUp h 3 i x) := by
  show AG _ (vS 0 (rUp h (7*0+3) i x)) _
  rw [vS_up_w]
  exact AG_w H
theorem S0_u (H : St 0 n σ h) (hi : i < n) : h 4 i = σ (12 + 5 * i) := St_u H hi
theorem U0_u (H : St 0 n σ h) : St 0 n (sW σ (12 + 5 * i) x) (rUp h 4 i x) := by
  show AG _ (vS 0 (rUp h (7*0+4) i x)) _
  rw [vS_up_u]
  exact AG_w H
theorem S0_p (H : St 0 n σ h) (hi : i < n) : h 5 i = σ (13 + 5 * i) := St_p H hi
theorem U0_p (H : St 0 n σ h) : St 0 n (sW σ (13 + 5 * i) x) (rUp h 5 i x) := by
  show AG _ (vS 0 (rUp h (7*0+5) i x)) _
  rw [vS_up_p]
  exact AG_w H
theorem S1_n (hW : Wf B n σ) (H : St 1 n σ h) : h 8 6 = nI n := St_n hW H
theorem S1_y (H : St 1 n σ h) : h 8 8 = σ 1 := St_y H
theorem U1_y (H : St 1 n σ h) : St 1 n (sW σ 1 x) (rUp h 8 8 x) := by
  show AG _ (vS 1 (rUp h (7*1+1) 8 x)) _
  rw [vS_up_1]
  exact AG_w H
theorem S1_z (H : St 1 n σ h) : h 8 11 = σ 2 := St_z H
theorem U1_z (H : St 1 n σ h) : St 1 n (sW σ 2 x) (rUp h 8 11 x) := by
  show AG _ (vS 1 (rUp h (7*1+1) 11 x)) _
  rw [vS_up_2]
  exact AG_w H
theorem S1_a (H : St 1 n σ h) : h 8 9 = σ 3 := St_a H
theorem U1_a (H : St 1 n σ h) : St 1 n (sW σ 3 x) (rUp h 8 9 x) := by
  show AG _ (vS 1 (rUp h (7*1+1) 9 x)) _
  rw [vS_up_3]
  exact AG_w H
theorem S1_o (H : St 1 n σ h) : h 8 10 = σ 4 := St_o H
theorem U1_o (H : St 1 n σ h) : St 1 n (sW σ 4 x) (rUp h 8 10 x) := by
  show AG _ (vS 1 (rUp h (7*1+1) 10 x)) _
  rw [vS_up_4]
  exact AG_w H
theorem S1_L (H : St 1 n σ h) : h 8 7 = σ 9 := St_L H
theorem U1_L (H : St 1 n σ h) : St 1 n (sW σ 9 x) (rUp h 8 7 x) := by
  show AG _ (vS 1 (rUp h (7*1+1) 7 x)) _
  rw [vS_up_9]
  exact AG_w H
theorem S1_l (H : St 1 n σ h) (hi : i < 4) : h 14 i = σ (5 + i) := St_l H hi
theorem U1_l (H : St 1 n σ h) (hi : i < 4) : St 1 n (sW σ (5 + i) x) (rUp h 14 i x) := by
  show AG _ (vS 1 (rUp h (7*1+7) i x)) _
  rw [vS_up_l hi]
  exact AG_w H
theorem S1_k (H : St 1 n σ h) (hi : i < n) : h 9 i = σ (10 + 5 * i) := St_k H hi
theorem U1_k (H : St 1 n σ h) : St 1 n (sW σ (10 + 5 * i) x) (rUp h 9 i x) := by
  show AG _ (vS 1 (rUp h (7*1+2) i x)) _
  rw [vS_up_k]
  exact AG_w H
theorem S1_w (H : St 1 n σ h) (hi : i < n) : h 10 i = σ (11 + 5 * i) := St_w H hi
theorem U1_w (H : St 1 n σ h) : St 1 n (sW σ (11 + 5 * i) x) (rUp h 10 i x) := by
  show AG _ (vS 1 (rUp h (7*1+3) i x)) _
  rw [vS_up_w]
  exact AG_w H
theorem S1_u (H : St 1 n σ h) (hi : i < n) : h 11 i = σ (12 + 5 * i) := St_u H hi
theorem U1_u (H : St 1 n σ h) : St 1 n (sW σ (12 + 5 * i) x) (rUp h 11 i x) := by
  show AG _ (vS 1 (rUp h (7*1+4) i x)) _
  rw [vS_up_u]
  exact AG_w H
theorem S1_p (H : St 1 n σ h) (hi : i < n) : h 12 i = σ (13 + 5 * i) := St_p H hi
theorem U1_p (H : St 1 n σ h) : St 1 n (sW σ (13 + 5 * i) x) (rUp h 12 i x) := by
  show AG _ (vS 1 (rUp h (7*1+5) i x)) _
  rw [vS_up_p]
  exact AG_w H
end
theorem FrU0 {h : rHp} {a j : Nat} {x : Int32} (h1 : 1 ≤ a) (h2 : a ≤ 7) : FrC h (rUp h a j x) := FrC_0 (Fr_up Fr_refl (by omega) (by omega))
theorem FrU1 {h : rHp} {a j : Nat} {x : Int32} (h1 : 8 ≤ a) (h2 : a ≤ 14) : Fr 1 h (rUp h a j x) := Fr_up Fr_refl (by omega) (by omega)
theorem hN {h : rHp} {f : Int32 → rHp → Prop} {a : Int32} (H : ∀ h', Fr 1 h h' → f a h') : f a h := H h Fr_refl
theorem mN {n : Nat} {h : rHp} {f : Int32 → rHp → Prop} {a : Int32} (H : ∀ h', (∀ k, k < 10 + 5 * n → h' 36 k = h 36 k) → FrM h h' → f a h') : f a h := H h (fun _ _ => rfl) FrM_rf
theorem bd_ne {a : Int32} {lo hi : Nat} (hb : Bd a lo hi) (k : Nat) (h1 : lo ≤ k) (h2 : k ≤ hi) (hh : hi < 2 ^ 31) : ¬ a = nI k := by
  intro e
  subst e
  unfold Bd at hb
  rw [nI_toInt (by omega)] at hb
  omega
/-- a row with a free number altered -/
theorem Wf_fr {B n k : Nat} {σ : Nat → Int32} {x : Int32} (hW : Wf B n σ) (hk : k ≠ 0 ∧ k ≠ 3 ∧ k ≠ 9 ∧ k ≠ 8 ∧ (k < 10 ∨ (k - 10) % 5 = 1 ∨ (k - 10) % 5 = 2)) : Wf B n (sW σ k x) := by
  obtain ⟨h1, h2, h3, ⟨L, hL, hL2, hg⟩, h5, h6, h7⟩ := hW
  refine ⟨h1, ?_, ?_, ⟨L, hL, ?_, ?_⟩, ?_, ?_, ?_⟩
  · rw [sW_ne (by omega)]; exact h2
  · rw [sW_ne (by omega)]; exact h3
  · rw [sW_ne (by omega)]; exact hL2
  · intro i hi; rw [sW_ne (by omega)]; exact hg i hi
  · intro i hi; rw [sW_ne (by omega)]; exact h5 i hi
  · intro i hi; rw [sW_ne (by omega)]; exact h6 i hi
  · rw [sW_ne (by omega)]; exact h7
theorem Wf_law {B n l v : Nat} {σ : Nat → Int32} (hW : Wf B n σ) (hl : l ≤ 3) (hv : v ≤ if l = 3 then 99 else 9) : Wf B n (sW σ (5 + l) (nI v)) := by
  by_cases c : l = 3
  · subst c
    rw [if_pos rfl] at hv
    obtain ⟨h1, h2, h3, ⟨L, hL, hL2, hg⟩, h5, h6, h7⟩ := hW
    refine ⟨h1, ?_, ?_, ⟨L, hL, ?_, ?_⟩, ?_, ?_, ⟨v, hv, sW_eq⟩⟩
    · rw [sW_ne (by omega)]; exact h2
    · rw [sW_ne (by omega)]; exact h3
    · rw [sW_ne (by omega)]; exact hL2
    · intro i hi; rw [sW_ne (by omega)]; exact hg i hi
    · intro i hi; rw [sW_ne (by omega)]; exact h5 i hi
    · intro i hi; rw [sW_ne (by omega)]; exact h6 i hi
  · exact Wf_fr hW (by omega)
theorem Wf_at {B n p : Nat} {σ : Nat → Int32} (hW : Wf B n σ) (hp : p < 6) : Wf B n (sW σ 3 (nI p)) := by
  obtain ⟨h1, h2, h3, ⟨L, hL, hL2, hg⟩, h5, h6, h7⟩ := hW
  refine ⟨h1, ?_, ⟨p, hp, sW_eq⟩, ⟨L, hL, ?_, ?_⟩, ?_, ?_, ?_⟩
  · rw [sW_ne (by omega)]; exact h2
  · rw [sW_ne (by omega)]; exact hL2
  · intro i hi; rw [sW_ne (by omega)]; exact hg i hi
  · intro i hi; rw [sW_ne (by omega)]; exact h5 i hi
  · intro i hi; rw [sW_ne (by omega)]; exact h6 i hi
  · rw [sW_ne (by omega)]; exact h7
theorem Wf_kd {B n o k : Nat} {σ : Nat → Int32} (hW : Wf B n σ) (hk : k < 6) : Wf B n (sW σ (10 + 5 * o) (nI k)) := by
  obtain ⟨h1, h2, h3, ⟨L, hL, hL2, hg⟩, h5, h6, h7⟩ := hW
  refine ⟨h1, ?_, ?_, ⟨L, hL, ?_, ?_⟩, ?_, ?_, ?_⟩
  · rw [sW_ne (by omega)]; exact h2
  · rw [sW_ne (by omega)]; exact h3
  · rw [sW_ne (by omega)]; exact hL2
  · intro i hi; rw [sW_ne (by omega)]; exact hg i hi
  · intro i hi
    by_cases e : i = o
    · subst e; rw [sW_eq]; exact ⟨k, hk, rfl⟩
    · rw [sW_ne (by omega)]; exact h5 i hi
  · intro i hi; rw [sW_ne (by omega)]; exact h6 i hi
  · rw [sW_ne (by omega)]; exact h7
theorem Wf_pt {B n o p : Nat} {σ : Nat → Int32} (hW : Wf B n σ) (hp : p ≤ 6) : Wf B n (sW σ (13 + 5 * o) (nI p)) := by
  obtain ⟨h1, h2, h3, ⟨L, hL, hL2, hg⟩, h5, h6, h7⟩ := hW
  refine ⟨h1, ?_, ?_, ⟨L, hL, ?_, ?_⟩, ?_, ?_, ?_⟩
  · rw [sW_ne (by omega)]; exact h2
  · rw [sW_ne (by omega)]; exact h3
  · rw [sW_ne (by omega)]; exact hL2
  · intro i hi; rw [sW_ne (by omega)]; exact hg i hi
  · intro i hi; rw [sW_ne (by omega)]; exact h5 i hi
  · intro i hi
    by_cases e : i = o
    · subst e; rw [sW_eq]; exact ⟨p, hp, rfl⟩
    · rw [sW_ne (by omega)]; exact h6 i hi
  · rw [sW_ne (by omega)]; exact h7
theorem sLay_0 {a : Nat → Int32} {n : Nat} {p y : Int32} : sW (sLay a n p) 0 y = sLay (sW a 0 y) n p := by
  unfold sLay
  rw [sW_comm (i := 14 + 5 * n) (j := 0) (by omega), sW_comm (i := 13 + 5 * n) (j := 0) (by omega), sW_comm (i := 9) (j := 0) (by omega), sW_ne (σ := a) (k := 0) (i := 9) (by omega)]
section
variable {E : rE} {d B n : Nat} {σ : Nat → Int32} {h : rHp} {f : Int32 → rHp → Prop} {fn : rHp → Prop}
theorem m_comes {k w u p : Int32} (hW : Wf B n σ) (hn : n < 8) (hM : Mo n σ h) (H : ∀ h', Mo (n + 1) (sAdd σ n k w u p) h' → F36 h h' → fn h') : rCall E (d + 2) mMo_comes [pR 35, pI k, pI w, pI u, pI p] SH h (rPn SH fn) := by
  apply vMo_comes
  rw [Mo_n hW hM, ix1, ix2, ix0, nI_clamp (by omega), nI_clamp (by omega), nI_clamp (by omega)]
  refine ⟨vp_in_nI (by omega) (by omega), vp_in_nI (by omega) (by omega), vp_in_nI (by omega) (by omega), ?_⟩
  have e0 : rUp (rUp (rUp h 36 (10 + 5 * n) k) 36 (11 + 5 * n) w) 36 (12 + 5 * n) u 36 0 = nI n := by
    rw [rUp_a, sW_ne (by omega), rUp_a, sW_ne (by omega), rUp_a, sW_ne (by omega)]
    exact Mo_n hW hM
  rw [e0]
  refine m_lies (n := n + 1) (σ := rUp (rUp (rUp h 36 (10 + 5 * n) k) 36 (11 + 5 * n) w) 36 (12 + 5 * n) u 36) (by omega) AG_rf (by omega) (fun h' a b => ⟨rfl, H _ ?_ (F36_up (F36_tr (F36_up (F36_up (F36_up F36_rf))) b))⟩)
  have e1 : h' 36 0 = nI n := (a 0 (by omega)).trans (by
    unfold sLay
    rw [sW_ne (by omega), sW_ne (by omega), sW_ne (by omega)]
    exact e0)
  rw [e1, ← nI_succ]
  show AG _ (rUp h' 36 0 (nI (n + 1)) 36) _
  rw [rUp_a]
  refine AG_tr (AG_w a) ?_
  rw [sLay_0, rUp_a, rUp_a, rUp_a, sW_comm (i := 12 + 5 * n) (j := 0) (by omega), sW_comm (i := 11 + 5 * n) (j := 0) (by omega), sW_comm (i := 10 + 5 * n) (j := 0) (by omega)]
  unfold sAdd
  refine AG_lay ?_
  have q := AG_w (k := 0) (x := nI (n + 1)) hM
  have q1 := AG_w1 (x := k) q
  rw [show 10 + 5 * n + 1 = 11 + 5 * n by omega] at q1
  have q2 := AG_w1 (x := w) q1
  rw [show 11 + 5 * n + 1 = 12 + 5 * n by omega] at q2
  have q3 := AG_w1 (x := u) q2
  exact AG_le q3 (by omega)
theorem op_lawOf (hB : B + 1 < 1000000) (a1 : Int32) : Op E B mLa_lawOf mMo_lawOf [pI a1] := by
  intro n σ hW
  rcases qr a1 0 3 (by omega) with ⟨l, _, hl, rfl⟩ | hb
  · refine op_no hB hW (σ (5 + l)) (fun h f hS H => vLa_lawOf (c_wi1 (m := 3) hl (by omega) (o1 ⟨vp_in_nI (by omega) (by omega), rfl, ?_⟩))) (fun h f hM H => vMo_lawOf (m_in1 (lo := 0) (hi := 3) (by omega) hl (by omega) (o1 ?_)))
    · rw [nI_clamp (by omega), S0_l hS (by omega)]
      exact hN H
    · rw [show (5:Int32) + nI l = nI (5 + l) from nI_add 5 l, nI_clamp (by omega), hM _ (by omega)]
      exact ⟨vp_in_nI (by omega) (by omega), rfl, mN H⟩
  · exact op_no hB hW (-1) (fun h f hS H => vLa_lawOf (c_wi0 (m := 3) hb (by omega) (o0 ⟨rfl, hN H⟩))) (fun h f hM H => vMo_lawOf (m_in0 (lo := 0) (hi := 3) hb (by omega) (by omega) (o0 ⟨rfl, mN H⟩)))
theorem op_set (hB : B + 1 < 1000000) (a1 a2 : Int32) : Op E B mLa_set mMo_set [pI a1, pI a2] := by
  intro n σ hW
  have hn := hW.1.1
  rcases qr a1 0 3 (by omega) with ⟨l, _, hl, rfl⟩ | hb
  · rcases qr a2 0 (if l = 3 then 99 else 9) (by split <;> omega) with ⟨v, _, hv, rfl⟩ | hb
    · refine ⟨σ (5 + l), n, sW σ (5 + l) (nI v), Wf_law (Wf_le hW (by omega) hB) hl hv, fun h f hS H => vLa_set (c_wi1 (m := 3) hl (by omega) (o1 (c_mol (by omega) (c_wi1 hv (by split <;> omega) (o1 ⟨vp_in_nI (by omega) (by omega), vp_in_nI (by omega) (by omega), rfl, ?_⟩))))), fun h f hM H => vMo_set (m_in1 (lo := 0) (hi := 3) (by omega) hl (by omega) (o1 ⟨fun e => ?_, fun e => ?_⟩))⟩
      · rw [nI_clamp (by omega), S0_l hS (by omega)]
        exact H _ (U0_l hS (by omega)) (FrU0 (by omega) (by omega))
      · have l3 : l = 3 := (nI_eq (b := 3) (by omega) (by omega)).1 e
        rw [if_pos l3] at hv
        refine m_in1 (lo := 0) (hi := 99) (by omega) hv (by omega) (o1 ?_)
        rw [show (5:Int32) + nI l = nI (5 + l) from nI_add 5 l]
        exact m_becomes hM hn (by omega) (fun h' a b => ⟨rfl, H h' a (FrM_o6 b)⟩)
      · have l3 : ¬ l = 3 := fun q => e (by rw [q]; rfl)
        rw [if_neg l3] at hv
        refine m_in1 (lo := 0) (hi := 9) (by omega) hv (by omega) (o1 ?_)
        rw [show (5:Int32) + nI l = nI (5 + l) from nI_add 5 l]
        exact m_becomes hM hn (by omega) (fun h' a b => ⟨rfl, H h' a (FrM_o6 b)⟩)
    · refine op_no hB hW (-1) (fun h f hS H => vLa_set (c_wi1 (m := 3) hl (by omega) (o1 (c_mol (by omega) (c_wi0 hb (by split <;> omega) (o0 ⟨rfl, hN H⟩)))))) (fun h f hM H => vMo_set (m_in1 (lo := 0) (hi := 3) (by omega) hl (by omega) (o1 ⟨fun e => ?_, fun e => ?_⟩)))
      · have l3 : l = 3 := (nI_eq (b := 3) (by omega) (by omega)).1 e
        rw [if_pos l3] at hb
        exact m_in0 (lo := 0) (hi := 99) hb (by omega) (by omega) (o0 ⟨rfl, mN H⟩)
      · have l3 : ¬ l = 3 := fun q => e (by rw [q]; rfl)
        rw [if_neg l3] at hb
        exact m_in0 (lo := 0) (hi := 9) hb (by omega) (by omega) (o0 ⟨rfl, mN H⟩)
  · exact op_no hB hW (-1) (fun h f hS H => vLa_set (c_wi0 (m := 3) hb (by omega) (o0 ⟨rfl, hN H⟩))) (fun h f hM H => vMo_set (m_in0 (lo := 0) (hi := 3) hb (by omega) (by omega) (o0 ⟨rfl, mN H⟩)))
theorem op_thing (hB : B + 1 < 1000000) (a1 a2 a3 a4 : Int32) : Op E B mLa_thing mMo_thing [pI a1, pI a2, pI a3, pI a4] := by
  intro n σ hW
  have hn := hW.1.1
  rcases qr a1 0 5 (by omega) with ⟨k, _, hk, rfl⟩ | hb
  · rcases qr a2 0 99 (by omega) with ⟨w, _, hw, rfl⟩ | hb
    · rcases qr a3 0 9 (by omega) with ⟨u, _, hu, rfl⟩ | hb
      · rcases qr a4 0 5 (by omega) with ⟨p, _, hp, rfl⟩ | hb
        · by_cases h8 : n < 8
          · refine ⟨nI n, n + 1, sAdd σ n (nI k) (nI w) (nI u) (nI p), Wf_sAdd hW hB h8 (by omega) (by omega), fun h f hS H => vLa_thing (c_wi1 (m := 5) hk (by omega) (o1 (c_wi1 (m := 99) hw (by omega) (o1 (c_wi1 (m := 9) hu (by omega) (o1 (c_wi1 (m := 5) hp (by omega) (o1 (br_t ?_ ?_))))))))), fun h f hM H => vMo_thing (m_in1 (lo := 0) (hi := 5) (by omega) hk (by omega) (o1 (m_in1 (lo := 0) (hi := 99) (by omega) hw (by omega) (o1 (m_in1 (lo := 0) (hi := 9) (by omega) hu (by omega) (o1 (m_pit1 (by omega) (o1 (br_f ?_ ?_)))))))))⟩
            · rw [S0_n hW hS]
              exact nI_lt (b := 8) h8 (by omega)
            · exact c_add (t := 0) t0 hW h8 hS (fun h' a b => ⟨rfl, H h' a (FrC_0 b)⟩)
            · rw [Mo_n hW hM]
              exact fun e => absurd ((nI_eq (b := 8) (by omega) (by omega)).1 e) (by omega)
            · refine m_comes hW h8 hM (fun h' a b => ⟨rfl, ?_⟩)
              rw [Mo_n (Wf_sAdd hW hB h8 (by omega) (by omega)) a, nI_pred]
              exact H h' a (FrM_o6 b)
          · refine op_no hB hW (-2) (fun h f hS H => vLa_thing (c_wi1 (m := 5) hk (by omega) (o1 (c_wi1 (m := 99) hw (by omega) (o1 (c_wi1 (m := 9) hu (by omega) (o1 (c_wi1 (m := 5) hp (by omega) (o1 (br_f ?_ ⟨rfl, hN H⟩)))))))))) (fun h f hM H => vMo_thing (m_in1 (lo := 0) (hi := 5) (by omega) hk (by omega) (o1 (m_in1 (lo := 0) (hi := 99) (by omega) hw (by omega) (o1 (m_in1 (lo := 0) (hi := 9) (by omega) hu (by omega) (o1 (m_pit1 (by omega) (o1 (br_t ?_ ⟨rfl, mN H⟩))))))))))
            · rw [S0_n hW hS]
              exact nI_nlt (b := 8) (by omega) (by omega)
            · rw [Mo_n hW hM, show n = 8 by omega]
              rfl
        · exact op_no hB hW (-1) (fun h f hS H => vLa_thing (c_wi1 (m := 5) hk (by omega) (o1 (c_wi1 (m := 99) hw (by omega) (o1 (c_wi1 (m := 9) hu (by omega) (o1 (c_wi0 (m := 5) hb (by omega) (o0 ⟨rfl, hN H⟩))))))))) (fun h f hM H => vMo_thing (m_in1 (lo := 0) (hi := 5) (by omega) hk (by omega) (o1 (m_in1 (lo := 0) (hi := 99) (by omega) hw (by omega) (o1 (m_in1 (lo := 0) (hi := 9) (by omega) hu (by omega) (o1 (m_pit0 hb (o0 ⟨rfl, mN H⟩)))))))))
      · exact op_no hB hW (-1) (fun h f hS H => vLa_thing (c_wi1 (m := 5) hk (by omega) (o1 (c_wi1 (m := 99) hw (by omega) (o1 (c_wi0 (m := 9) hb (by omega) (o0 ⟨rfl, hN H⟩))))))) (fun h f hM H => vMo_thing (m_in1 (lo := 0) (hi := 5) (by omega) hk (by omega) (o1 (m_in1 (lo := 0) (hi := 99) (by omega) hw (by omega) (o1 (m_in0 (lo := 0) (hi := 9) hb (by omega) (by omega) (o0 ⟨rfl, mN H⟩)))))))
    · exact op_no hB hW (-1) (fun h f hS H => vLa_thing (c_wi1 (m := 5) hk (by omega) (o1 (c_wi0 (m := 99) hb (by omega) (o0 ⟨rfl, hN H⟩))))) (fun h f hM H => vMo_thing (m_in1 (lo := 0) (hi := 5) (by omega) hk (by omega) (o1 (m_in0 (lo := 0) (hi := 99) hb (by omega) (by omega) (o0 ⟨rfl, mN H⟩)))))
  · exact op_no hB hW (-1) (fun h f hS H => vLa_thing (c_wi0 (m := 5) hb (by omega) (o0 ⟨rfl, hN H⟩))) (fun h f hM H => vMo_thing (m_in0 (lo := 0) (hi := 5) hb (by omega) (by omega) (o0 ⟨rfl, mN H⟩)))
theorem op_of (hB : B + 1 < 1000000) (a1 a2 : Int32) : Op E B mLa_of mMo_of [pI a1, pI a2] := by
  intro n σ hW
  have hn := hW.1.1
  rcases qa a1 n (by omega) with ⟨o, ho, rfl⟩ | hb
  · have vo : vp_in (nI o) 8 := vp_in_nI (by omega) (by omega)
    have co : (nI o).toNatClampNeg = o := nI_clamp (by omega)
    rcases qr a2 0 4 (by omega) with ⟨w, _, hw, rfl⟩ | hb
    · rcases (by omega : w = 0 ∨ w = 1 ∨ w = 2 ∨ w = 3 ∨ w = 4) with rfl | rfl | rfl | rfl | rfl
      · refine op_no hB hW (σ (10 + 5 * o)) (fun h f hS H => vLa_of (c_has1 (t := 0) t0 hW hS ho (o1 (br_t rfl ⟨vo, rfl, ?_⟩)))) (fun h f hM H => vMo_of (m_one1 hW hM ho (o1 (m_in1 (lo := 0) (hi := 4) (by omega) hw (by omega) (o1 (br_f (by decide) (m_it0 hM hn ho ⟨rfl, mN H⟩)))))))
        rw [co, S0_k hS ho]
        exact hN H
      · refine op_no hB hW (σ (11 + 5 * o)) (fun h f hS H => vLa_of (c_has1 (t := 0) t0 hW hS ho (o1 (br_f (by decide) (br_t rfl ⟨vo, rfl, ?_⟩))))) (fun h f hM H => vMo_of (m_one1 hW hM ho (o1 (m_in1 (lo := 0) (hi := 4) (by omega) hw (by omega) (o1 (br_f (by decide) (m_it1 hM hn ho ⟨rfl, mN H⟩)))))))
        rw [co, S0_w hS ho]
        exact hN H
      · refine op_no hB hW (σ (12 + 5 * o)) (fun h f hS H => vLa_of (c_has1 (t := 0) t0 hW hS ho (o1 (br_f (by decide) (br_f (by decide) (br_t rfl ⟨vo, rfl, ?_⟩)))))) (fun h f hM H => vMo_of (m_one1 hW hM ho (o1 (m_in1 (lo := 0) (hi := 4) (by omega) hw (by omega) (o1 (br_f (by decide) (m_it2 hM hn ho ⟨rfl, mN H⟩)))))))
        rw [co, S0_u hS ho]
        exact hN H
      · refine op_no hB hW (σ (13 + 5 * o)) (fun h f hS H => vLa_of (c_has1 (t := 0) t0 hW hS ho (o1 (br_f (by decide) (br_f (by decide) (br_f (by decide) (br_t rfl ⟨vo, rfl, ?_⟩))))))) (fun h f hM H => vMo_of (m_one1 hW hM ho (o1 (m_in1 (lo := 0) (hi := 4) (by omega) hw (by omega) (o1 (br_f (by decide) (m_it3 hM hn ho ⟨rfl, mN H⟩)))))))
        rw [co, S0_p hS ho]
        exact hN H
      · have hl : nAbv σ n o < 256 := Nat.lt_of_lt_of_le (nAbv_lt σ n o) (q2 hn)
        exact op_no hB hW (nI (pc (nAbv σ n o))) (fun h f hS H => vLa_of (c_has1 (t := 0) t0 hW hS ho (o1 (br_f (by decide) (br_f (by decide) (br_f (by decide) (br_f (by decide) (br_t rfl (c_setAbove (t := 0) t0 hW hS ho (c_bit hl ⟨rfl, hN H⟩)))))))))) (fun h f hM H => vMo_of (m_one1 hW hM ho (o1 (m_in1 (lo := 0) (hi := 4) (by omega) hw (by omega) (o1 (br_t (by decide) (m_aboveOf hW hM ho (m_size hl ⟨rfl, mN H⟩))))))))
    · exact op_no hB hW (-1) (fun h f hS H => vLa_of (c_has1 (t := 0) t0 hW hS ho (o1 (br_f (bd_ne hb 0 (by omega) (by omega) (by omega)) (br_f (bd_ne hb 1 (by omega) (by omega) (by omega)) (br_f (bd_ne hb 2 (by omega) (by omega) (by omega)) (br_f (bd_ne hb 3 (by omega) (by omega) (by omega)) (br_f (bd_ne hb 4 (by omega) (by omega) (by omega)) ⟨rfl, hN H⟩)))))))) (fun h f hM H => vMo_of (m_one1 hW hM ho (o1 (m_in0 (lo := 0) (hi := 4) hb (by omega) (by omega) (o0 ⟨rfl, mN H⟩)))))
  · exact op_no hB hW (-1) (fun h f hS H => vLa_of (c_has0 (t := 0) t0 hW hS hb (o0 ⟨rfl, hN H⟩))) (fun h f hM H => vMo_of (m_one0 hW hM hb (o0 ⟨rfl, mN H⟩)))
theorem op_does (hB : B + 1 < 1000000) (a1 a2 : Int32) : Op E B mLa_does mMo_does [pI a1, pI a2] := by
  intro n σ hW
  have hn := hW.1.1
  rcases qa a1 n (by omega) with ⟨o, ho, rfl⟩ | hb
  · rcases qr a2 0 1 (by omega) with ⟨w, _, hw, rfl⟩ | hb
    · by_cases w0 : w = 0
      · subst w0
        exact op_no hB hW (1000 + spk σ o) (fun h f hS H => vLa_does (c_has1 (t := 0) t0 hW hS ho (o1 (c_wi1 (m := 1) hw (by omega) (o1 (br_t rfl (c_speaking (t := 0) t0 hW hS ho ⟨rfl, hN H⟩))))))) (fun h f hM H => vMo_does (m_one1 hW hM ho (o1 (m_in1 (lo := 0) (hi := 1) (by omega) hw (by omega) (o1 (br_t rfl (m_speaks hW hM ho ⟨rfl, mN H⟩)))))))
      · exact op_no hB hW (1000 + hid σ n o) (fun h f hS H => vLa_does (c_has1 (t := 0) t0 hW hS ho (o1 (c_wi1 (m := 1) hw (by omega) (o1 (br_f (nI_ne0 (by omega) (by omega)) (c_hiding (t := 0) t0 hW hS ho ⟨rfl, hN H⟩))))))) (fun h f hM H => vMo_does (m_one1 hW hM ho (o1 (m_in1 (lo := 0) (hi := 1) (by omega) hw (by omega) (o1 (br_f (nI_ne0 (by omega) (by omega)) (m_hides hW hM ho ⟨rfl, mN H⟩)))))))
    · exact op_no hB hW (-1) (fun h f hS H => vLa_does (c_has1 (t := 0) t0 hW hS ho (o1 (c_wi0 (m := 1) hb (by omega) (o0 ⟨rfl, hN H⟩))))) (fun h f hM H => vMo_does (m_one1 hW hM ho (o1 (m_in0 (lo := 0) (hi := 1) hb (by omega) (by omega) (o0 ⟨rfl, mN H⟩)))))
  · exact op_no hB hW (-1) (fun h f hS H => vLa_does (c_has0 (t := 0) t0 hW hS hb (o0 ⟨rfl, hN H⟩))) (fun h f hM H => vMo_does (m_one0 hW hM hb (o0 ⟨rfl, mN H⟩)))
end
