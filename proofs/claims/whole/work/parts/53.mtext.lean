/-! the model's reading -/
def TpM (s : Nat) (τ : Nat → Nat) (h : rHp) : Prop := s ≤ 200 ∧ h 35 7 = nI s ∧ ∀ i, i < s → τ i < 256 ∧ h 41 i = nI (τ i)
def bt (s : Nat) (τ : Nat → Nat) (i : Nat) : Int32 := if i < s then nI (τ i) else -1
def MTK (s : Nat) (τ : Nat → Nat) (p : Nat) (h : rHp) : Prop := h 35 8 = nI (tkT s τ p) ∧ h 35 9 = nI (tkA s τ p) ∧ h 35 10 = nI (tkE s τ p) ∧ (tkT s τ p = 2 → tkE s τ p - tkA s τ p ≤ 3 → h 35 11 = nI (numV s τ p))
/-- what reading leaves: all but the object's own five -/
def Fn (h h' : rHp) : Prop := (∀ b, b ≠ 35 → h' b = h b) ∧ ∀ j, j < 8 ∨ 12 < j → h' 35 j = h 35 j
theorem Fn_rf {h : rHp} : Fn h h := ⟨fun _ _ => rfl, fun _ _ => rfl⟩
theorem Fn_tr {h h' h2 : rHp} (a : Fn h h') (b : Fn h' h2) : Fn h h2 := ⟨fun c hc => (b.1 c hc).trans (a.1 c hc), fun j hj => (b.2 j hj).trans (a.2 j hj)⟩
theorem Fn_up {h h' : rHp} {j : Nat} {x : Int32} (a : Fn h h') (hj : 8 ≤ j ∧ j ≤ 12) : Fn h (rUp h' 35 j x) := ⟨fun b hb => (rUp_o hb).trans (a.1 b hb), fun i hi => by rw [rUp_a, sW_ne (by omega)]; exact a.2 i hi⟩
theorem TpM_n {s : Nat} {τ : Nat → Nat} {h h' : rHp} (H : TpM s τ h) (a : Fn h h') : TpM s τ h' := by
  unfold TpM
  rw [a.1 41 (by omega), a.2 7 (by omega)]
  exact H
theorem cl_1 {c : Nat} : cl c = 1 ↔ 97 ≤ c ∧ c ≤ 122 := by
  unfold cl
  constructor
  · intro h
    split at h
    · assumption
    · split at h <;> omega
  · intro h
    rw [if_pos h]
theorem cl_2 {c : Nat} : cl c = 2 ↔ 48 ≤ c ∧ c ≤ 57 := by
  unfold cl
  constructor
  · intro h
    split at h
    · omega
    · split at h
      · assumption
      · omega
  · intro h
    rw [if_neg (by omega), if_pos h]
theorem all3 {P : Nat → Prop} (h0 : P 0) (h1 : P 1) (h2 : P 2) : ∀ j, j < 3 → P j := fun j hj => by
  rcases (by omega : j = 0 ∨ j = 1 ∨ j = 2) with rfl | rfl | rfl <;> assumption
theorem all4 {P : Nat → Prop} (h0 : P 0) (h1 : P 1) (h2 : P 2) (h3 : P 3) : ∀ j, j < 4 → P j := fun j hj => by
  rcases (by omega : j = 0 ∨ j = 1 ∨ j = 2 ∨ j = 3) with rfl | rfl | rfl | rfl <;> assumption
theorem all5 {P : Nat → Prop} (h0 : P 0) (h1 : P 1) (h2 : P 2) (h3 : P 3) (h4 : P 4) : ∀ j, j < 5 → P j := fun j hj => by
  rcases (by omega : j = 0 ∨ j = 1 ∨ j = 2 ∨ j = 3 ∨ j = 4) with rfl | rfl | rfl | rfl | rfl <;> assumption
theorem all6 {P : Nat → Prop} (h0 : P 0) (h1 : P 1) (h2 : P 2) (h3 : P 3) (h4 : P 4) (h5 : P 5) : ∀ j, j < 6 → P j := fun j hj => by
  rcases (by omega : j = 0 ∨ j = 1 ∨ j = 2 ∨ j = 3 ∨ j = 4 ∨ j = 5) with rfl | rfl | rfl | rfl | rfl | rfl <;> assumption
theorem all7 {P : Nat → Prop} (h0 : P 0) (h1 : P 1) (h2 : P 2) (h3 : P 3) (h4 : P 4) (h5 : P 5) (h6 : P 6) : ∀ j, j < 7 → P j := fun j hj => by
  rcases (by omega : j = 0 ∨ j = 1 ∨ j = 2 ∨ j = 3 ∨ j = 4 ∨ j = 5 ∨ j = 6) with rfl | rfl | rfl | rfl | rfl | rfl | rfl <;> assumption
section
variable {E : rE} {d s p n : Nat} {τ : Nat → Nat} {σ : Nat → Int32} {h : rHp} {f : Int32 → rHp → Prop} {fn : rHp → Prop}
theorem m_byteAt {i : Nat} (hT : TpM s τ h) (hi : i < 1000) (H : f (bt s τ i) h) : rCall E (d + 1) mMo_byteAt [pR 35, pI (nI i)] SH h (rPi SH f) := by
  have hs := hT.1
  apply vMo_byteAt
  rw [hT.2.1]
  unfold bt at H
  by_cases c : i < s
  · rw [if_pos c] at H
    refine br_f (nI_ge c (by omega)) ⟨vp_in_nI (by omega) (by omega), ?_⟩
    rw [nI_clamp (by omega), (hT.2.2 i c).2]
    exact ⟨rfl, H⟩
  · rw [if_neg c] at H
    exact br_t (nI_le (by omega) (by omega)) ⟨rfl, H⟩
theorem bt_eq {i c : Nat} (hT : TpM s τ h) (hi : i < s) (hc : c < 2 ^ 31) : bt s τ i = nI c ↔ τ i = c := by
  unfold bt
  rw [if_pos hi, nI_eq (by have := (hT.2.2 i hi).1; omega) hc]
theorem m_alpha {i : Nat} (hT : TpM s τ h) (H : (i < s ∧ cl (τ i) = 1 → f 1 h) ∧ (¬ (i < s ∧ cl (τ i) = 1) → f 0 h)) : rCall E (d + 1) mMo_isAlpha [pI (bt s τ i)] SH h (rPi SH f) := by
  unfold bt
  by_cases c : i < s
  · have hb := (hT.2.2 i c).1
    rw [if_pos c]
    refine vMo_isAlpha ⟨fun e => ⟨rfl, H.2 (fun q => ?_)⟩, fun e => ⟨fun e2 => ⟨rfl, H.2 (fun q => ?_)⟩, fun e2 => ⟨rfl, H.1 ⟨c, ?_⟩⟩⟩⟩
    · have := (nI_ltI (b := 97) (by omega) (by omega)).1 e
      have := cl_1.1 q.2
      omega
    · have := (nI_ltI (a := 122) (by omega) (by omega)).1 e2
      have := cl_1.1 q.2
      omega
    · rw [cl_1]
      refine ⟨Nat.le_of_not_lt (fun q => e (nI_lt (b := 97) q (by omega))), Nat.le_of_not_lt (fun q => e2 (nI_lt (a := 122) q (by omega)))⟩
  · rw [if_neg c]
    exact vMo_isAlpha (br_t (by decide) ⟨rfl, H.2 (fun q => c q.1)⟩)
theorem m_digit {i : Nat} (hT : TpM s τ h) (H : (i < s ∧ cl (τ i) = 2 → f 1 h) ∧ (¬ (i < s ∧ cl (τ i) = 2) → f 0 h)) : rCall E (d + 1) mMo_isDigit [pI (bt s τ i)] SH h (rPi SH f) := by
  unfold bt
  by_cases c : i < s
  · have hb := (hT.2.2 i c).1
    rw [if_pos c]
    refine vMo_isDigit ⟨fun e => ⟨rfl, H.2 (fun q => ?_)⟩, fun e => ⟨fun e2 => ⟨rfl, H.2 (fun q => ?_)⟩, fun e2 => ⟨rfl, H.1 ⟨c, ?_⟩⟩⟩⟩
    · have := (nI_ltI (b := 48) (by omega) (by omega)).1 e
      have := cl_2.1 q.2
      omega
    · have := (nI_ltI (a := 57) (by omega) (by omega)).1 e2
      have := cl_2.1 q.2
      omega
    · rw [cl_2]
      refine ⟨Nat.le_of_not_lt (fun q => e (nI_lt (b := 48) q (by omega))), Nat.le_of_not_lt (fun q => e2 (nI_lt (a := 57) q (by omega)))⟩
  · rw [if_neg c]
    exact vMo_isDigit (br_t (by decide) ⟨rfl, H.2 (fun q => c q.1)⟩)
theorem m_next (hT : TpM s τ h) (h4 : h 35 10 = nI p) (hp : p ≤ s) (H : ∀ h', Fn h h' → h' 35 12 = h 35 12 → MTK s τ p h' → fn h') : rCall E (d + 2) mMo_nextToken [pR 35] SH h (rPn SH fn) := by
  have hs : s ≤ 200 := hT.1
  have hA := tk_A (τ := τ) hp
  have hTT := tk_T (s := s) (τ := τ) p
  have hE := tk_E (τ := τ) hp
  -- digits, and the end
  have go126 : ∀ (m j v : Nat) (v1 : Int32) (g : rHp), tkT s τ p = 2 → s - (tkA s τ p + j) ≤ m → tkA s τ p + j ≤ s → Fn h g → g 35 12 = h 35 12 → g 35 8 = nI 2 → g 35 9 = nI (tkA s τ p) → g 35 10 = nI (tkA s τ p + j) → g 35 11 = nI v → v ≤ 9999 → (j ≤ 3 → v = nV τ (tkA s τ p) j ∧ v < 10 ^ j) → tkE s τ p = kE s τ 2 (s - (tkA s τ p + j)) (tkA s τ p + j) →
      rR E (rCall E (d + 1)) mMo_nextToken (rPn SH fn) 126 [some (pR 35), some (pI v1)] [] SH g 0 0 := by
    intro m
    induction m with
    | zero =>
      intro j v v1 g t2 hm hb a a12 e8 e9 e10 e11 hv hv3 eE
      have hEb : tkE s τ p = tkA s τ p + j := by rw [eE, show s - (tkA s τ p + j) = 0 by omega]; rfl
      refine vMo_nextToken_126 (br_t e8 ?_)
      rw [e10]
      refine m_byteAt (TpM_n hT a) (by omega) (m_digit (TpM_n hT a) ⟨fun q => by omega, fun q => o0 (br_t (by rw [e8]; decide) ⟨rfl, H _ (Fn_up a (by omega)) ?_ ⟨?_, ?_, ?_, fun _ q3 => ?_⟩⟩)⟩)
      · rw [rUp_a, sW_ne (by omega)]; exact a12
      · rw [rUp_a, sW_ne (by omega), t2]; exact e8
      · rw [rUp_a, sW_ne (by omega)]; exact e9
      · rw [rUp_a, sW_eq, e10, Int32.add_zero, hEb]
      · rw [rUp_a, sW_ne (by omega), e11]
        unfold numV
        rw [hEb, show tkA s τ p + j - tkA s τ p = j by omega] at q3 ⊢
        rw [← (hv3 q3).1]
    | succ m ih =>
      intro j v v1 g t2 hm hb a a12 e8 e9 e10 e11 hv hv3 eE
      refine vMo_nextToken_126 (br_t e8 ?_)
      rw [e10]
      refine m_byteAt (TpM_n hT a) (by omega) (m_digit (TpM_n hT a) ⟨fun q => o1 ?_, fun q => o0 (br_t (by rw [e8]; decide) ⟨rfl, H _ (Fn_up a (by omega)) ?_ ⟨?_, ?_, ?_, fun _ q3 => ?_⟩⟩)⟩)
      · have hc := cl_2.1 q.2
        rw [kE_1 q.1 q.2] at eE
        rw [e11]
        refine ⟨fun c => ?_, fun c => ?_⟩
        · have cv := (nI_leI (b := 999) (by omega) (by omega)).1 c
          rw [e10]
          refine m_byteAt (TpM_n hT a) (by omega) ?_
          have ev : (10:Int32) * nI v + bt s τ (tkA s τ p + j) - 48 = nI (v * 10 + (τ (tkA s τ p + j) - 48)) := by
            unfold bt
            rw [if_pos q.1, show (10:Int32) = nI 10 from rfl, pk_mul, nI_add, show (48:Int32) = nI 48 from rfl, pk_sub (by omega)]
            congr 1
            omega
          have e10' : rUp g 35 11 (nI (v * 10 + (τ (tkA s τ p + j) - 48))) 35 10 = nI (tkA s τ p + j) := by rw [rUp_a, sW_ne (by omega)]; exact e10
          rw [ev, e10, ← nI_succ]
          refine ih (j + 1) (v * 10 + (τ (tkA s τ p + j) - 48)) v1 _ t2 (by omega) (by omega) (Fn_up (Fn_up a (by omega)) (by omega)) ?_ ?_ ?_ ?_ ?_ (by omega) (fun q3 => ?_) eE
          · rw [rUp_a, sW_ne (by omega), rUp_a, sW_ne (by omega)]; exact a12
          · rw [rUp_a, sW_ne (by omega), rUp_a, sW_ne (by omega)]; exact e8
          · rw [rUp_a, sW_ne (by omega), rUp_a, sW_ne (by omega)]; exact e9
          · rw [rUp_a, sW_eq]; rfl
          · rw [rUp_a, sW_ne (by omega), rUp_a, sW_eq]
          · have h3 := hv3 (by omega)
            refine ⟨by rw [h3.1]; rfl, ?_⟩
            rw [Nat.pow_succ]
            omega
        · have cv : ¬ v ≤ 999 := fun z => c (nI_le (b := 999) z (by omega))
          have nj : ¬ j ≤ 2 := by
            intro z
            have h3 := (hv3 (by omega)).2
            have h4 : 10 ^ j ≤ 10 ^ 2 := Nat.pow_le_pow_right (by omega) z
            omega
          rw [e10, ← nI_succ]
          refine ih (j + 1) v v1 _ t2 (by omega) (by omega) (Fn_up (Fn_up a (by omega)) (by omega)) ?_ ?_ ?_ ?_ ?_ hv (fun q3 => by omega) eE
          · rw [rUp_a, sW_ne (by omega), rUp_a, sW_ne (by omega)]; exact a12
          · rw [rUp_a, sW_ne (by omega), rUp_a, sW_ne (by omega)]; exact e8
          · rw [rUp_a, sW_ne (by omega), rUp_a, sW_ne (by omega)]; exact e9
          · rw [rUp_a, sW_eq]; rfl
          · rw [rUp_a, sW_ne (by omega), rUp_a, sW_eq]
      · rw [rUp_a, sW_ne (by omega)]; exact a12
      · rw [rUp_a, sW_ne (by omega), t2]; exact e8
      · rw [rUp_a, sW_ne (by omega)]; exact e9
      · rw [rUp_a, sW_eq, e10, Int32.add_zero, eE, kE_0 q]
      · rw [rUp_a, sW_ne (by omega), e11]
        have hEb : tkE s τ p = tkA s τ p + j := by rw [eE, kE_0 q]
        unfold numV
        rw [hEb, show tkA s τ p + j - tkA s τ p = j by omega] at q3 ⊢
        rw [← (hv3 q3).1]
  -- letters
  have go91 : ∀ (m b : Nat) (v1 : Int32) (g : rHp), tkT s τ p = 1 → s - b ≤ m → b ≤ s → Fn h g → g 35 12 = h 35 12 → g 35 8 = nI 1 → g 35 9 = nI (tkA s τ p) → g 35 10 = nI b → tkE s τ p = kE s τ 1 (s - b) b →
      rR E (rCall E (d + 1)) mMo_nextToken (rPn SH fn) 91 [some (pR 35), some (pI v1)] [] SH g 0 0 := by
    intro m
    have fin : ∀ (b : Nat) (v1 : Int32) (g : rHp), tkT s τ p = 1 → Fn h g → g 35 12 = h 35 12 → g 35 8 = nI 1 → g 35 9 = nI (tkA s τ p) → g 35 10 = nI b → tkE s τ p = b → rR E (rCall E (d + 1)) mMo_nextToken (rPn SH fn) 126 [some (pR 35), some (pI v1)] [] SH g 0 0 := by
      intro b v1 g t1 a a12 e8 e9 e10 eE
      refine vMo_nextToken_126 (br_f (by rw [e8]; decide) (br_t (by rw [e8]; decide) ⟨rfl, H _ (Fn_up a (by omega)) ?_ ⟨?_, ?_, ?_, fun q => by omega⟩⟩))
      · rw [rUp_a, sW_ne (by omega)]; exact a12
      · rw [rUp_a, sW_ne (by omega), t1]; exact e8
      · rw [rUp_a, sW_ne (by omega)]; exact e9
      · rw [rUp_a, sW_eq, e10, Int32.add_zero, eE]
    induction m with
    | zero =>
      intro b v1 g t1 hm hb a a12 e8 e9 e10 eE
      have hEb : tkE s τ p = b := by rw [eE, show s - b = 0 by omega]; rfl
      refine vMo_nextToken_91 (br_t e8 ?_)
      rw [e10]
      exact m_byteAt (TpM_n hT a) (by omega) (m_alpha (TpM_n hT a) ⟨fun q => by omega, fun q => o0 (fin b v1 g t1 a a12 e8 e9 e10 hEb)⟩)
    | succ m ih =>
      intro b v1 g t1 hm hb a a12 e8 e9 e10 eE
      refine vMo_nextToken_91 (br_t e8 ?_)
      rw [e10]
      refine m_byteAt (TpM_n hT a) (by omega) (m_alpha (TpM_n hT a) ⟨fun q => o1 ?_, fun q => o0 (fin b v1 g t1 a a12 e8 e9 e10 (by rw [eE, kE_0 q]))⟩)
      rw [e10, ← nI_succ]
      refine ih (b + 1) v1 _ t1 (by omega) (by omega) (Fn_up a (by omega)) ?_ ?_ ?_ ?_ (by rw [eE, kE_1 q.1 q.2])
      · rw [rUp_a, sW_ne (by omega)]; exact a12
      · rw [rUp_a, sW_ne (by omega)]; exact e8
      · rw [rUp_a, sW_ne (by omega)]; exact e9
      · rw [rUp_a, sW_eq]
  -- blanks
  have go8 : ∀ (m q : Nat) (g : rHp), s - q ≤ m → q ≤ s → Fn h g → g 35 12 = h 35 12 → g 35 9 = nI q → kS s τ (s - q) q = tkA s τ p → rR E (rCall E (d + 1)) mMo_nextToken (rPn SH fn) 8 [some (pR 35), none] [] SH g 0 0 := by
    intro m
    induction m with
    | zero =>
      intro q g hm hq a a12 e9 eA
      have hqs : q = s := by omega
      have a5 : tkA s τ p = s := by rw [← eA, hqs, Nat.sub_self]; rfl
      have t5 : tkT s τ p = 0 := by omega
      have E5 : tkE s τ p = s := by unfold tkE; rw [if_pos t5, a5]
      have eb : bt s τ q = -1 := by unfold bt; rw [if_neg (by omega)]
      apply vMo_nextToken_8
      rw [e9]
      refine m_byteAt (TpM_n hT a) (by omega) ?_
      rw [eb]
      refine br_f (by decide) ?_
      rw [e9]
      refine m_byteAt (TpM_n hT (Fn_up a (by omega))) (by omega) ?_
      rw [eb]
      refine br_f (by decide) (vMo_nextToken_91 (br_f ?_ (vMo_nextToken_126 (br_f ?_ (br_t ?_ ⟨rfl, H _ (Fn_up (Fn_up (Fn_up (Fn_up a (by omega)) (by omega)) (by omega)) (by omega)) ?_ ⟨?_, ?_, ?_, fun q => by omega⟩⟩)))))
      · rw [rUp_a, sW_ne (by omega), rUp_a, sW_eq]; decide
      · rw [rUp_a, sW_ne (by omega), rUp_a, sW_eq]; decide
      · rw [rUp_a, sW_ne (by omega), rUp_a, sW_eq]; decide
      · rw [rUp_a, sW_ne (by omega), rUp_a, sW_ne (by omega), rUp_a, sW_ne (by omega), rUp_a, sW_ne (by omega)]; exact a12
      · rw [rUp_a, sW_ne (by omega), rUp_a, sW_ne (by omega), rUp_a, sW_eq, t5]; rfl
      · rw [rUp_a, sW_ne (by omega), rUp_a, sW_ne (by omega), rUp_a, sW_ne (by omega), rUp_a, sW_ne (by omega), e9, a5, hqs]
      · rw [rUp_a, sW_eq, rUp_a, sW_ne (by omega), rUp_a, sW_ne (by omega), rUp_a, sW_eq, Int32.add_zero, E5, hqs]
    | succ m ih =>
      intro q g hm hq a a12 e9 eA
      by_cases cq : q < s
      · have hb := hT.2.2 q cq
        have eb : bt s τ q = nI (τ q) := by unfold bt; rw [if_pos cq]
        apply vMo_nextToken_8
        rw [e9]
        refine m_byteAt (TpM_n hT a) (by omega) ?_
        rw [eb]
        refine ⟨fun c => ?_, fun c => ?_⟩
        · have c32 := (nI_eq (b := 32) (by omega) (by omega)).1 c
          rw [e9, ← nI_succ]
          refine ih (q + 1) _ (by omega) (by omega) (Fn_up a (by omega)) ?_ ?_ (by rw [← eA, kS_1 cq c32])
          · rw [rUp_a, sW_ne (by omega)]; exact a12
          · rw [rUp_a, sW_eq]
        · have n32 : ¬ τ q = 32 := fun z => c (by rw [z]; rfl)
          have a5 : tkA s τ p = q := by rw [← eA, kS_0 (fun z => n32 z.2)]
          have t5 : tkT s τ p = cl (τ q) := by unfold tkT; rw [a5, if_pos cq]
          rw [e9]
          have aT := Fn_up (j := 10) (x := nI q) a (by omega)
          refine m_byteAt (TpM_n hT aT) (by omega) ?_
          rw [eb]
          refine br_t (nI_pos' (by omega)) ?_
          have st : ∀ x, Fn h (rUp (rUp (rUp g 35 10 (nI q)) 35 8 x) 35 11 0) ∧ rUp (rUp (rUp g 35 10 (nI q)) 35 8 x) 35 11 0 35 12 = h 35 12 ∧ rUp (rUp (rUp g 35 10 (nI q)) 35 8 x) 35 11 0 35 8 = x ∧ rUp (rUp (rUp g 35 10 (nI q)) 35 8 x) 35 11 0 35 9 = nI (tkA s τ p) ∧ rUp (rUp (rUp g 35 10 (nI q)) 35 8 x) 35 11 0 35 10 = nI q ∧ rUp (rUp (rUp g 35 10 (nI q)) 35 8 x) 35 11 0 35 11 = 0 := by
            intro x
            refine ⟨Fn_up (Fn_up aT (by omega)) (by omega), ?_, ?_, ?_, ?_, ?_⟩
            · rw [rUp_a, sW_ne (by omega), rUp_a, sW_ne (by omega), rUp_a, sW_ne (by omega)]; exact a12
            · rw [rUp_a, sW_ne (by omega), rUp_a, sW_eq]
            · rw [rUp_a, sW_ne (by omega), rUp_a, sW_ne (by omega), rUp_a, sW_ne (by omega), e9, a5]
            · rw [rUp_a, sW_ne (by omega), rUp_a, sW_ne (by omega), rUp_a, sW_eq]
            · rw [rUp_a, sW_eq]
          rw [← eb]
          refine m_alpha (TpM_n hT aT) ⟨fun c1 => o1 ?_, fun c1 => o0 (m_digit (TpM_n hT aT) ⟨fun c2 => o1 ?_, fun c2 => o0 ?_⟩)⟩
          · obtain ⟨f1, f2, f3, f4, f5, f6⟩ := st 1
            have t1 : tkT s τ p = 1 := t5.trans c1.2
            refine go91 (s - q) q _ _ t1 (Nat.le_refl _) hq f1 f2 f3 f4 f5 ?_
            unfold tkE
            rw [t1, if_neg (by omega), if_neg (by omega), a5, kE_1 cq c1.2]
          · obtain ⟨f1, f2, f3, f4, f5, f6⟩ := st 2
            have t2 : tkT s τ p = 2 := t5.trans c2.2
            refine vMo_nextToken_91 (br_f (by rw [f3]; decide) (go126 (s - q) 0 0 _ _ t2 (by omega) (by omega) f1 f2 f3 f4 (by rw [a5]; exact f5) f6 (by omega) (fun _ => ⟨rfl, by decide⟩) ?_))
            unfold tkE
            rw [t2, if_neg (by omega), if_neg (by omega), a5]
            exact (kE_1 cq c2.2).symm
          · obtain ⟨f1, f2, f3, f4, f5, f6⟩ := st 3
            have h3 := cl_3 (τ q)
            have t3 : tkT s τ p = 3 := by
              rw [t5]
              rcases h3 with z | z | z
              · exact absurd ⟨cq, z⟩ c1
              · exact absurd ⟨cq, z⟩ c2
              · exact z
            refine vMo_nextToken_91 (br_f (by rw [f3]; decide) (vMo_nextToken_126 (br_f (by rw [f3]; decide) (br_f (by rw [f3]; decide) ⟨rfl, H _ (Fn_up f1 (by omega)) ?_ ⟨?_, ?_, ?_, fun z => by omega⟩⟩))))
            · rw [rUp_a, sW_ne (by omega)]; exact f2
            · rw [rUp_a, sW_ne (by omega), f3, t3]; rfl
            · rw [rUp_a, sW_ne (by omega)]; exact f4
            · rw [rUp_a, sW_eq, f5, ← nI_succ]
              unfold tkE
              rw [t3, if_neg (by omega), if_pos rfl, a5]
      · exact ih q g (by omega) hq a a12 e9 eA
  refine vMo_nextToken (go8 (s - p) p _ (Nat.le_refl _) hp (Fn_up Fn_rf (by omega)) ?_ ?_ rfl)
  · rw [rUp_a, sW_ne (by omega)]
  · rw [rUp_a, sW_eq]; exact h4
end
