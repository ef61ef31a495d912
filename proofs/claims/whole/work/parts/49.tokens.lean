/-! names, numbers and what stands between them -/
def cl (c : Nat) : Nat := if 97 ≤ c ∧ c ≤ 122 then 1 else if 48 ≤ c ∧ c ≤ 57 then 2 else 3
def sb (c : Nat) : Int32 := (nI c).toInt8.toInt32
def ltT : List (List Nat) := [[116, 104, 105, 110, 103], [118, 101, 115, 115, 101, 108], [114, 117, 98, 98, 105, 115, 104], [109, 111, 115, 97, 105, 99], [115, 104, 111, 101], [115, 97, 110, 100], [105, 110], [119, 111, 114, 116, 104], [116, 114, 117, 116, 104], [114, 101, 97, 100, 101, 114], [111, 112, 105, 110, 105, 111, 110], [100, 105, 103], [115, 104, 105, 110, 101], [102, 105, 108, 116, 104], [115, 108, 105, 112]]
def lt (w : Nat) : List Nat := ltT.getD w []
theorem cl_3 (c : Nat) : cl c = 1 ∨ cl c = 2 ∨ cl c = 3 := by
  unfold cl
  split
  · exact Or.inl rfl
  · split
    · exact Or.inr (Or.inl rfl)
    · exact Or.inr (Or.inr rfl)
theorem cl_sb1 : ∀ c, c < 256 → (cl c = 1 ↔ (¬ sb c < 97 ∧ ¬ 122 < sb c)) := by decide +kernel
theorem cl_sb2 : ∀ c, c < 256 → (cl c = 2 ↔ (¬ sb c < 48 ∧ ¬ 57 < sb c)) := by decide +kernel
theorem sb_32 : ∀ c, c < 256 → (sb c = 32 ↔ c = 32) := by decide +kernel
theorem sb_59 : ∀ c, c < 256 → (sb c = 59 ↔ c = 59) := by decide +kernel
theorem sb_dig : ∀ c, c < 256 → cl c = 2 → sb c = nI c ∧ 48 ≤ c ∧ c ≤ 57 := by decide +kernel
theorem sb_let : ∀ c, c < 256 → ∀ l, l < 123 → 97 ≤ l → (sb c = nI l ↔ c = l) := by decide +kernel
theorem lt_len : ∀ w, w < 15 → rLen.getD w 0 = (lt w).length ∧ (lt w).length < 10 := by decide +kernel
theorem lt_chr : ∀ w, w < 15 → ∀ j, j < (lt w).length → (((((rByt.getD w []).getD j 0) &&& (255:Int32)).toUInt32 % 65536).toInt32) = nI ((lt w).getD j 0) ∧ 97 ≤ (lt w).getD j 0 ∧ (lt w).getD j 0 < 123 := by decide +kernel
section
variable (s : Nat) (τ : Nat → Nat)
def kS : Nat → Nat → Nat
  | 0, p => p
  | m + 1, p => if p < s ∧ τ p = 32 then kS m (p + 1) else p
def kE (ty : Nat) : Nat → Nat → Nat
  | 0, p => p
  | m + 1, p => if p < s ∧ cl (τ p) = ty then kE ty m (p + 1) else p
def tkA (p : Nat) : Nat := kS s τ (s - p) p
def tkT (p : Nat) : Nat := if tkA s τ p < s then cl (τ (tkA s τ p)) else 0
def tkE (p : Nat) : Nat := if tkT s τ p = 0 then tkA s τ p else if tkT s τ p = 3 then tkA s τ p + 1 else kE s τ (tkT s τ p) (s - (tkA s τ p + 1)) (tkA s τ p + 1)
def nameIs (p w : Nat) : Prop := tkT s τ p = 1 ∧ tkE s τ p - tkA s τ p = (lt w).length ∧ ∀ j, j < (lt w).length → τ (tkA s τ p + j) = (lt w).getD j 0
def nV (a : Nat) : Nat → Nat
  | 0 => 0
  | j + 1 => nV a j * 10 + (τ (a + j) - 48)
def numV (p : Nat) : Nat := nV τ (tkA s τ p) (tkE s τ p - tkA s τ p)
def numOK (p most : Nat) : Prop := tkT s τ p = 2 ∧ tkE s τ p - tkA s τ p ≤ 3 ∧ numV s τ p ≤ most
def semi (p : Nat) : Prop := tkT s τ p = 3 ∧ τ (tkA s τ p) = 59
end
section
variable {s : Nat} {τ : Nat → Nat}
theorem kS_b : ∀ m p, p ≤ s → p ≤ kS s τ m p ∧ kS s τ m p ≤ s
  | 0, p, h => ⟨Nat.le_refl p, h⟩
  | m + 1, p, h => by
    unfold kS
    split
    · rename_i c
      have := kS_b m (p + 1) (by omega)
      omega
    · omega
theorem kE_b (ty : Nat) : ∀ m p, p ≤ s → p ≤ kE s τ ty m p ∧ kE s τ ty m p ≤ s
  | 0, p, h => ⟨Nat.le_refl p, h⟩
  | m + 1, p, h => by
    unfold kE
    split
    · rename_i c
      have := kE_b ty m (p + 1) (by omega)
      omega
    · omega
theorem kE_in (ty : Nat) : ∀ m p j, p ≤ j → j < kE s τ ty m p → cl (τ j) = ty
  | 0, p, j, h1, h2 => by
    unfold kE at h2
    omega
  | m + 1, p, j, h1, h2 => by
    unfold kE at h2
    split at h2
    · rename_i c
      by_cases e : j = p
      · rw [e]; exact c.2
      · exact kE_in ty m (p + 1) j (by omega) h2
    · omega
theorem kS_1 {p : Nat} (h : p < s) (c : τ p = 32) : kS s τ (s - p) p = kS s τ (s - (p + 1)) (p + 1) := by
  rw [show s - p = s - (p + 1) + 1 by omega]
  show (if p < s ∧ τ p = 32 then kS s τ (s - (p + 1)) (p + 1) else p) = _
  rw [if_pos ⟨h, c⟩]
theorem kS_0 {p : Nat} (c : ¬ (p < s ∧ τ p = 32)) : kS s τ (s - p) p = p := by
  cases e : s - p with
  | zero => rfl
  | succ m =>
    show (if p < s ∧ τ p = 32 then kS s τ m (p + 1) else p) = p
    rw [if_neg c]
theorem kE_1 {p ty : Nat} (h : p < s) (c : cl (τ p) = ty) : kE s τ ty (s - p) p = kE s τ ty (s - (p + 1)) (p + 1) := by
  rw [show s - p = s - (p + 1) + 1 by omega]
  show (if p < s ∧ cl (τ p) = ty then kE s τ ty (s - (p + 1)) (p + 1) else p) = _
  rw [if_pos ⟨h, c⟩]
theorem kE_0 {p ty : Nat} (c : ¬ (p < s ∧ cl (τ p) = ty)) : kE s τ ty (s - p) p = p := by
  cases e : s - p with
  | zero => rfl
  | succ m =>
    show (if p < s ∧ cl (τ p) = ty then kE s τ ty m (p + 1) else p) = p
    rw [if_neg c]
theorem tk_A {p : Nat} (h : p ≤ s) : p ≤ tkA s τ p ∧ tkA s τ p ≤ s := kS_b _ p h
theorem tk_T (p : Nat) : (tkT s τ p = 0 ∧ ¬ tkA s τ p < s) ∨ ((tkT s τ p = 1 ∨ tkT s τ p = 2 ∨ tkT s τ p = 3) ∧ tkA s τ p < s) := by
  unfold tkT
  by_cases c : tkA s τ p < s
  · rw [if_pos c]
    exact Or.inr ⟨cl_3 _, c⟩
  · rw [if_neg c]
    exact Or.inl ⟨rfl, c⟩
theorem tk_E {p : Nat} (h : p ≤ s) : tkA s τ p ≤ tkE s τ p ∧ tkE s τ p ≤ s ∧ (¬ tkT s τ p = 0 → tkA s τ p < tkE s τ p) := by
  have hA := tk_A (τ := τ) h
  have hT := tk_T (s := s) (τ := τ) p
  unfold tkE
  by_cases c : tkT s τ p = 0
  · rw [if_pos c]
    omega
  · rw [if_neg c]
    by_cases c3 : tkT s τ p = 3
    · rw [if_pos c3]
      omega
    · rw [if_neg c3]
      have := kE_b (s := s) (τ := τ) (tkT s τ p) (s - (tkA s τ p + 1)) (tkA s τ p + 1) (by omega)
      omega
theorem tk_dig {p : Nat} (c : tkT s τ p = 2) : ∀ j, tkA s τ p ≤ j → j < tkE s τ p → cl (τ j) = 2 := by
  intro j h1 h2
  have hT := tk_T (s := s) (τ := τ) p
  by_cases e : j = tkA s τ p
  · rw [e, ← c]
    unfold tkT
    rw [if_pos (by omega)]
  · unfold tkE at h2
    rw [c, if_neg (by omega), if_neg (by omega)] at h2
    exact kE_in 2 _ (tkA s τ p + 1) j (by omega) h2
end
def foI : Option Nat → Int32
  | none => -1
  | some q => nI q
def orF (fo : Option Nat) (a : Nat) : Option Nat := match fo with
  | none => some a
  | some q => some q
def foB (s : Nat) (fo : Option Nat) : Prop := ∀ q, fo = some q → q ≤ s
def TpC (s : Nat) (τ : Nat → Nat) (h : rHp) : Prop := s ≤ 200 ∧ h 22 1 = nI s ∧ ∀ i, i < s → τ i < 256 ∧ h 23 i = sb (τ i)
def TK (s : Nat) (τ : Nat → Nat) (p : Nat) (h : rHp) : Prop := h 22 2 = nI ((tkT s τ p + 3) % 4) ∧ h 22 3 = nI (tkA s τ p) ∧ h 22 4 = nI (tkE s τ p)
def Fq (h h' : rHp) : Prop := ∀ b, b ≠ 22 → h' b = h b
theorem Fq_rf {h : rHp} : Fq h h := fun _ _ => rfl
theorem Fq_tr {h h' h2 : rHp} (a : Fq h h') (b : Fq h' h2) : Fq h h2 := fun c hc => (b c hc).trans (a c hc)
theorem Fq_up {h h' : rHp} {j : Nat} {x : Int32} (a : Fq h h') : Fq h (rUp h' 22 j x) := fun b hb => (rUp_o hb).trans (a b hb)
theorem TpC_up {s j : Nat} {τ : Nat → Nat} {h : rHp} {x : Int32} (H : TpC s τ h) (hj : j ≠ 1) : TpC s τ (rUp h 22 j x) := by
  refine ⟨H.1, ?_, fun i hi => ?_⟩
  · rw [rUp_a, sW_ne (Ne.symm hj)]; exact H.2.1
  · rw [rUp_o (by omega)]; exact H.2.2 i hi
section
variable {E : rE} {d s p : Nat} {τ : Nat → Nat} {h : rHp} {f : Int32 → rHp → Prop} {fn : rHp → Prop} {fo : Option Nat}
theorem c_sortOf {c : Nat} (hc : c < 256) (H : f (nI ((cl c + 3) % 4)) h) : rCall E (d + 1) mTx_sortOf [pI (sb c)] SH h (rPi SH f) := by
  have e1 := cl_sb1 c hc
  have e2 := cl_sb2 c hc
  have e3 := cl_3 c
  have k1 : cl c = 1 → f 0 h := fun e => by rw [e] at H; exact H
  have k2 : cl c = 2 → f 1 h := fun e => by rw [e] at H; exact H
  have k3 : ¬ cl c = 1 → ¬ cl c = 2 → f 2 h := fun a b => by
    rw [show cl c = 3 by omega] at H
    exact H
  refine vTx_sortOf ⟨fun a => ⟨fun b => ⟨rfl, k3 ?_ ?_⟩, fun b => ⟨fun q => ⟨rfl, k3 ?_ ?_⟩, fun q => ⟨rfl, k2 ?_⟩⟩⟩, fun a => ⟨fun b => ⟨fun q => ⟨rfl, k3 ?_ ?_⟩, fun q => ⟨fun z => ⟨rfl, k3 ?_ ?_⟩, fun z => ⟨rfl, k2 ?_⟩⟩⟩, fun b => ⟨rfl, k1 ?_⟩⟩⟩
  · rw [e1]; exact fun q => q.1 a
  · rw [e2]; exact fun q => q.1 b
  · rw [e1]; exact fun z => z.1 a
  · rw [e2]; exact fun z => z.2 q
  · rw [e2]; exact ⟨b, q⟩
  · rw [e1]; exact fun z => z.2 b
  · rw [e2]; exact fun z => z.1 q
  · rw [e1]; exact fun y => y.2 b
  · rw [e2]; exact fun y => y.2 z
  · rw [e2]; exact ⟨q, z⟩
  · rw [e1]; exact ⟨a, b⟩
theorem c_next (hT : TpC s τ h) (h4 : h 22 4 = nI p) (hp : p ≤ s) (H : ∀ h', Fq h h' → TpC s τ h' → h' 22 5 = h 22 5 → TK s τ p h' → fn h') : rCall E (d + 2) mTx_next [pR 22] SH h (rPn SH fn) := by
  have hs : s ≤ 200 := hT.1
  have hA := tk_A (τ := τ) hp
  -- the end of a row of one sort
  have go89 : ∀ (m b : Nat) (h1 : rHp), s - b ≤ m → b ≤ s → Fq h h1 → TpC s τ h1 → h1 22 5 = h 22 5 → h1 22 2 = nI ((tkT s τ p + 3) % 4) → h1 22 3 = nI (tkA s τ p) → h1 22 4 = nI b →
      (tkT s τ p = 3 → tkE s τ p = b) → (tkT s τ p ≠ 3 → tkE s τ p = kE s τ (tkT s τ p) (s - b) b) → tkT s τ p ≠ 0 → rR E (rCall E (d + 1)) mTx_next (rPn SH fn) 89 [some (pR 22)] [] SH h1 0 0 := by
    intro m
    induction m with
    | zero =>
      intro b h1 hm hb e1 e2 e3 e4 e5 e6 e7 e8 e9
      have hbs : b = s := by omega
      have hk : tkE s τ p = b := by
        by_cases c : tkT s τ p = 3
        · exact e7 c
        · rw [e8 c, hbs, Nat.sub_self]; rfl
      refine vTx_next_89 ⟨fun _ => ⟨rfl, H h1 e1 e2 e3 ⟨e4, e5, by rw [hk]; exact e6⟩⟩, fun _ => br_t ?_ ⟨rfl, H h1 e1 e2 e3 ⟨e4, e5, by rw [hk]; exact e6⟩⟩⟩
      rw [e2.2.1, e6]
      exact nI_le (by omega) (by omega)
    | succ m ih =>
      intro b h1 hm hb e1 e2 e3 e4 e5 e6 e7 e8 e9
      have hTT := tk_T (s := s) (τ := τ) p
      by_cases c3 : tkT s τ p = 3
      · refine vTx_next_89 (br_t ?_ ⟨rfl, H h1 e1 e2 e3 ⟨e4, e5, by rw [e7 c3]; exact e6⟩⟩)
        rw [e4, c3]; rfl
      · have n2 : ¬ h1 22 2 = 2 := by
          rw [e4]
          intro q
          have := (nI_eq (b := 2) (by omega) (by omega)).1 q
          omega
        by_cases cb : b < s
        · refine vTx_next_89 (br_f n2 (br_f ?_ ⟨?_, ?_⟩))
          · rw [e2.2.1, e6]; exact nI_ge cb (by omega)
          · rw [e6]; exact vp_in_nI (by omega) (by omega)
          · rw [e6, nI_clamp (by omega), (e2.2.2 b cb).2]
            refine c_sortOf (e2.2.2 b cb).1 ⟨fun q => ?_, fun q => ⟨rfl, H h1 e1 e2 e3 ⟨e4, e5, ?_⟩⟩⟩
            · rw [e4] at q
              have h3 := cl_3 (τ b)
              have q' := (nI_eq (by omega) (by omega)).1 q
              have q2 : cl (τ b) = tkT s τ p := by omega
              rw [e6, ← nI_succ]
              refine ih (b + 1) _ (by omega) (by omega) (Fq_up e1) (TpC_up e2 (by omega)) ?_ ?_ ?_ ?_ (fun c => absurd c c3) (fun c => ?_) e9
              · rw [rUp_a, sW_ne (by omega)]; exact e3
              · rw [rUp_a, sW_ne (by omega)]; exact e4
              · rw [rUp_a, sW_ne (by omega)]; exact e5
              · rw [rUp_a, sW_eq]
              · rw [e8 c, kE_1 cb q2]
            · rw [e8 c3, kE_0]
              · exact e6
              · intro z
                apply q
                rw [e4, z.2]
        · refine vTx_next_89 (br_f n2 (br_t ?_ ⟨rfl, H h1 e1 e2 e3 ⟨e4, e5, ?_⟩⟩))
          · rw [e2.2.1, e6]; exact nI_le (by omega) (by omega)
          · rw [e8 c3, kE_0 (by omega)]
            exact e6
  have go0 : ∀ (m q : Nat) (h1 : rHp), s - q ≤ m → q ≤ s → Fq h h1 → TpC s τ h1 → h1 22 5 = h 22 5 → h1 22 4 = nI q → kS s τ (s - q) q = tkA s τ p → (h1 22 1 ≤ h1 22 4 → (h1 22 4 < h1 22 1 → vp_in (h1 22 4) 200 ∧ rCall E (d + 1) mTx_sortOf [pI (h1 23 (h1 22 4).toNatClampNeg)] SH (rUp h1 22 3 (h1 22 4)) (rPi SH (fun x2 g1 => rR E (rCall E (d + 1)) mTx_next (rPn SH fn) 89 [some (pR 22)] [] SH (rUp (rUp g1 22 2 x2) 22 4 (g1 22 4 + 1)) 0 0))) ∧ (¬ h1 22 4 < h1 22 1 → rPn SH fn none SH (rUp (rUp h1 22 3 (h1 22 4)) 22 2 3))) ∧ (¬ h1 22 1 ≤ h1 22 4 → vp_in (h1 22 4) 200 ∧ (h1 23 (h1 22 4).toNatClampNeg = 32 → rR E (rCall E (d + 1)) mTx_next (rPn SH fn) 0 [some (pR 22)] [] SH (rUp h1 22 4 (h1 22 4 + 1)) 0 0) ∧ (¬ h1 23 (h1 22 4).toNatClampNeg = 32 → (h1 22 4 < h1 22 1 → vp_in (h1 22 4) 200 ∧ rCall E (d + 1) mTx_sortOf [pI (h1 23 (h1 22 4).toNatClampNeg)] SH (rUp h1 22 3 (h1 22 4)) (rPi SH (fun x4 g3 => rR E (rCall E (d + 1)) mTx_next (rPn SH fn) 89 [some (pR 22)] [] SH (rUp (rUp g3 22 2 x4) 22 4 (g3 22 4 + 1)) 0 0))) ∧ (¬ h1 22 4 < h1 22 1 → rPn SH fn none SH (rUp (rUp h1 22 3 (h1 22 4)) 22 2 3)))) := by
    intro m
    induction m with
    | zero =>
      intro q h1 hm hq e1 e2 e3 e4 e5
      have hqs : q = s := by omega
      have a5 : tkA s τ p = s := by rw [← e5, hqs, Nat.sub_self]; rfl
      have hTT := tk_T (s := s) (τ := τ) p
      have t5 : tkT s τ p = 0 := by omega
      have E5 : tkE s τ p = s := by unfold tkE; rw [if_pos t5, a5]
      rw [e2.2.1, e4, hqs]
      refine br_t (nI_le (Nat.le_refl s) (by omega)) (br_f (nI_nlt (Nat.le_refl s) (by omega)) ⟨rfl, H _ (Fq_up (Fq_up e1)) (TpC_up (TpC_up e2 (by omega)) (by omega)) ?_ ⟨?_, ?_, ?_⟩⟩)
      · rw [rUp_a, sW_ne (by omega), rUp_a, sW_ne (by omega)]; exact e3
      · rw [rUp_a, sW_eq, t5]; rfl
      · rw [rUp_a, sW_ne (by omega), rUp_a, sW_eq, a5]
      · rw [rUp_a, sW_ne (by omega), rUp_a, sW_ne (by omega), e4, E5, hqs]
    | succ m ih =>
      intro q h1 hm hq e1 e2 e3 e4 e5
      by_cases cq : q < s
      · have hb := e2.2.2 q cq
        rw [e2.2.1, e4, nI_clamp (by omega), hb.2]
        refine br_f (nI_ge cq (by omega)) ⟨vp_in_nI (by omega) (by omega), fun c => ?_, fun c => br_t (nI_lt cq (by omega)) ⟨vp_in_nI (by omega) (by omega), c_sortOf hb.1 ?_⟩⟩
        · have c32 := (sb_32 _ hb.1).1 c
          rw [← nI_succ]
          refine vTx_next_0 (ih (q + 1) _ (by omega) (by omega) (Fq_up e1) (TpC_up e2 (by omega)) ?_ ?_ ?_)
          · rw [rUp_a, sW_ne (by omega)]; exact e3
          · rw [rUp_a, sW_eq]
          · rw [← e5, kS_1 cq c32]
        · have n32 : ¬ τ q = 32 := fun z => c ((sb_32 _ hb.1).2 z)
          have a5 : tkA s τ p = q := by rw [← e5, kS_0 (fun z => n32 z.2)]
          have t5 : tkT s τ p = cl (τ q) := by unfold tkT; rw [a5, if_pos cq]
          have h3 := cl_3 (τ q)
          rw [show rUp h1 22 3 (nI q) 22 4 = nI q by rw [rUp_a, sW_ne (by omega)]; exact e4, ← nI_succ]
          refine go89 (s - (q + 1)) (q + 1) _ (Nat.le_refl _) (by omega) (Fq_up (Fq_up (Fq_up e1))) (TpC_up (TpC_up (TpC_up e2 (by omega)) (by omega)) (by omega)) ?_ ?_ ?_ ?_ (fun z => ?_) (fun z => ?_) (by omega)
          · rw [rUp_a, sW_ne (by omega), rUp_a, sW_ne (by omega), rUp_a, sW_ne (by omega)]; exact e3
          · rw [rUp_a, sW_ne (by omega), rUp_a, sW_eq, t5]
          · rw [rUp_a, sW_ne (by omega), rUp_a, sW_ne (by omega), rUp_a, sW_eq, a5]
          · rw [rUp_a, sW_eq]
          · unfold tkE
            rw [if_neg (by omega), if_pos z, a5]
          · unfold tkE
            rw [if_neg (by omega), if_neg z, a5]
      · exact ih q h1 (by omega) hq e1 e2 e3 e4 e5
  exact vTx_next (go0 (s - p) p h (Nat.le_refl _) hp Fq_rf hT rfl h4 rfl)
theorem c_fail (hT : TpC s τ h) (hK : TK s τ p h) (hp : p ≤ s) (hf : h 22 5 = foI fo) (hfo : foB s fo) (H : ∀ h', Fq h h' → TpC s τ h' → h' 22 5 = foI (orF fo (tkA s τ p)) → TK s τ p h' → fn h') : rCall E (d + 1) mTx_fail [pR 22] SH h (rPn SH fn) := by
  have hs := hT.1
  apply vTx_fail
  rw [hf, hK.2.1]
  cases fo with
  | none =>
    refine br_f (by decide) ⟨rfl, H _ (Fq_up Fq_rf) (TpC_up hT (by omega)) ?_ ⟨?_, ?_, ?_⟩⟩
    · rw [rUp_a, sW_eq]; rfl
    · rw [rUp_a, sW_ne (by omega)]; exact hK.1
    · rw [rUp_a, sW_ne (by omega)]; exact hK.2.1
    · rw [rUp_a, sW_ne (by omega)]; exact hK.2.2
  | some q => exact br_t (nI_pos' (by have := hfo q rfl; omega)) ⟨rfl, H h Fq_rf hT hf hK⟩
theorem orF_b (hp : p ≤ s) (hfo : foB s fo) : foB s (orF fo (tkA s τ p)) := by
  intro q e
  cases fo with
  | none =>
    cases e
    exact (tk_A hp).2
  | some q' => exact hfo q e
theorem c_needEnd (hT : TpC s τ h) (hK : TK s τ p h) (hp : p ≤ s) (hf : h 22 5 = foI fo) (hfo : foB s fo) (H1 : semi s τ p → fn h) (H2 : ¬ semi s τ p → ∀ h', Fq h h' → TpC s τ h' → h' 22 5 = foI (orF fo (tkA s τ p)) → TK s τ p h' → fn h') : rCall E (d + 2) mTx_needEndOfStatement [pR 22] SH h (rPn SH fn) := by
  have hs := hT.1
  have hA := tk_A (τ := τ) hp
  have hTT := tk_T (s := s) (τ := τ) p
  apply vTx_needEndOfStatement
  rw [hK.1, hK.2.1]
  refine ⟨fun c => ?_, fun c => c_fail hT hK hp hf hfo (fun h' a b e g => ⟨rfl, H2 ?_ h' a b e g⟩)⟩
  · have t3 : tkT s τ p = 3 := by
      have := (nI_eq (b := 2) (by omega) (by omega)).1 c
      omega
    have hb := hT.2.2 (tkA s τ p) (by omega)
    rw [nI_clamp (by omega), hb.2]
    refine ⟨vp_in_nI (by omega) (by omega), fun e => ⟨rfl, H1 ⟨t3, (sb_59 _ hb.1).1 e⟩⟩, fun e => c_fail hT hK hp hf hfo (fun h' a b e' g => ⟨rfl, H2 ?_ h' a b e' g⟩)⟩
    exact fun z => e ((sb_59 _ hb.1).2 z.2)
  · intro z
    apply c
    rw [z.1]
    rfl
theorem c_length {w : Nat} (hw : w < 15) (H : f (nI (lt w).length) h) : rCall E (d + 2) mJs_length [pC (w+10)] SH h (rPi SH f) := by
  refine vJs_length hw (vJs_coder hw ⟨rfl, rfl, rfl, ?_⟩)
  have e : (Int32.ofNat (rLen.getD w 0)) >>> ((0:Int32) &&& 31) = nI (lt w).length := by
    rw [(lt_len w hw).1]
    have hl := (lt_len w hw).2
    rw [show (0:Int32) &&& 31 = 0 from by decide]
    exact (pk_shrN (n := (lt w).length) (by omega) 0 0 (by decide)).trans (by rw [Nat.pow_zero, Nat.div_one])
  rw [e]
  exact H
theorem c_charAt {w j : Nat} (hw : w < 15) (hj : j < (lt w).length) (H : f (nI ((lt w).getD j 0)) h) : rCall E (d + 4) mJs_charAt [pC (w+10), pI (nI j)] SH h (rPi SH f) := by
  have hl := lt_len w hw
  have hc := lt_chr w hw j hj
  have nw : narrow .char (.int (nI ((lt w).getD j 0))) = .int (nI ((lt w).getD j 0)) := (pk_charN (by omega)).1
  refine vJs_charAt hw (vJs_isLatin1 hw ⟨rfl, o1 (vJl_charAt hw (vJs_checkIndex (vJp_checkIndex ?_)))⟩)
  rw [hl.1]
  refine br_f (nI_pos (by omega)) (br_t (nI_lt hj (by omega)) ?_)
  rw [nI_clamp (by omega), hc.1]
  exact ⟨rfl, rfl, vp_in_nI hj (by omega), nw, rfl, nw, rfl, H⟩
end
