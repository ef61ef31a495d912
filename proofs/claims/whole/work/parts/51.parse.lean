/-! what a text makes of a street -/
abbrev rRes : Type := Nat ⊕ (Nat × (Nat → Int32) × Nat)
section
variable (s : Nat) (τ : Nat → Nat) (n : Nat) (σ : Nat → Int32)
def pTh4 (k pl w u q : Nat) (r : rRes) : Prop := (semi s τ q ∧ r = .inr (n + 1, sAdd σ n (nI k) (nI w) (nI u) (nI pl), tkE s τ q)) ∨ (¬ semi s τ q ∧ r = .inl (tkA s τ q))
def pTh3 (k pl w q : Nat) (r : rRes) : Prop := (¬ nameIs s τ q 8 ∧ pTh4 s τ n σ k pl w 0 q r) ∨ (nameIs s τ q 8 ∧ ((¬ numOK s τ (tkE s τ q) 9 ∧ r = .inl (tkA s τ (tkE s τ q))) ∨ (numOK s τ (tkE s τ q) 9 ∧ pTh4 s τ n σ k pl w (numV s τ (tkE s τ q)) (tkE s τ (tkE s τ q)) r)))
def pTh2 (k pl q : Nat) (r : rRes) : Prop := (¬ nameIs s τ q 7 ∧ pTh3 s τ n σ k pl 10 q r) ∨ (nameIs s τ q 7 ∧ ((¬ numOK s τ (tkE s τ q) 99 ∧ r = .inl (tkA s τ (tkE s τ q))) ∨ (numOK s τ (tkE s τ q) 99 ∧ pTh3 s τ n σ k pl (numV s τ (tkE s τ q)) (tkE s τ (tkE s τ q)) r)))
def pTh1 (k q : Nat) (r : rRes) : Prop := (¬ numOK s τ q 5 ∧ r = .inl (tkA s τ q)) ∨ (numOK s τ q 5 ∧ pTh2 s τ n σ k (numV s τ q) (tkE s τ q) r)
def pTh (k p : Nat) (r : rRes) : Prop := (8 ≤ n ∧ r = .inl (tkA s τ p)) ∨ (n < 8 ∧ ((¬ nameIs s τ (tkE s τ p) 6 ∧ r = .inl (tkA s τ (tkE s τ p))) ∨ (nameIs s τ (tkE s τ p) 6 ∧ pTh1 s τ n σ k (tkE s τ (tkE s τ p)) r)))
def mst (j : Nat) : Nat := if j = 0 then 5 else if j = 1 then 99 else if j = 5 then 99 else 9
def pSe (j p : Nat) (r : rRes) : Prop := (¬ numOK s τ (tkE s τ p) (mst j) ∧ r = .inl (tkA s τ (tkE s τ p))) ∨ (numOK s τ (tkE s τ p) (mst j) ∧ ((¬ semi s τ (tkE s τ (tkE s τ p)) ∧ r = .inl (tkA s τ (tkE s τ (tkE s τ p)))) ∨ (semi s τ (tkE s τ (tkE s τ p)) ∧ r = .inr (n, sW σ (3 + j) (nI (numV s τ (tkE s τ p))), tkE s τ (tkE s τ (tkE s τ p))))))
def pS (p : Nat) (r : rRes) : Prop := (∃ k, k < 6 ∧ nameIs s τ p k ∧ pTh s τ n σ k p r) ∨ ((∀ k, k < 6 → ¬ nameIs s τ p (0 + k)) ∧ ((∃ j, j < 6 ∧ nameIs s τ p (9 + j) ∧ pSe s τ n σ j p r) ∨ ((∀ j, j < 6 → ¬ nameIs s τ p (9 + j)) ∧ r = .inl (tkA s τ p))))
end
def pP (s : Nat) (τ : Nat → Nat) : Nat → Nat → Nat → (Nat → Int32) → rRes → Prop
  | 0, _, _, _, _ => False
  | m + 1, p, n, σ, r => (tkT s τ p = 0 ∧ r = .inr (n, σ, p)) ∨ (¬ tkT s τ p = 0 ∧ ∃ r1, pS s τ n σ p r1 ∧ ((∃ q, r1 = .inl q ∧ r = .inl q) ∨ (∃ n' σ' p', r1 = .inr (n', σ', p') ∧ pP s τ m p' n' σ' r)))
section
variable {s : Nat} {τ : Nat → Nat} {n : Nat} {σ : Nat → Int32}
theorem pTh4_ex (k pl w u q : Nat) : ∃ r, pTh4 s τ n σ k pl w u q r := by
  by_cases c : semi s τ q
  · exact ⟨_, Or.inl ⟨c, rfl⟩⟩
  · exact ⟨_, Or.inr ⟨c, rfl⟩⟩
theorem pTh3_ex (k pl w q : Nat) : ∃ r, pTh3 s τ n σ k pl w q r := by
  by_cases c : nameIs s τ q 8
  · by_cases c2 : numOK s τ (tkE s τ q) 9
    · obtain ⟨r, hr⟩ := pTh4_ex (s := s) (τ := τ) (n := n) (σ := σ) k pl w (numV s τ (tkE s τ q)) (tkE s τ (tkE s τ q))
      exact ⟨r, Or.inr ⟨c, Or.inr ⟨c2, hr⟩⟩⟩
    · exact ⟨_, Or.inr ⟨c, Or.inl ⟨c2, rfl⟩⟩⟩
  · obtain ⟨r, hr⟩ := pTh4_ex (s := s) (τ := τ) (n := n) (σ := σ) k pl w 0 q
    exact ⟨r, Or.inl ⟨c, hr⟩⟩
theorem pTh2_ex (k pl q : Nat) : ∃ r, pTh2 s τ n σ k pl q r := by
  by_cases c : nameIs s τ q 7
  · by_cases c2 : numOK s τ (tkE s τ q) 99
    · obtain ⟨r, hr⟩ := pTh3_ex (s := s) (τ := τ) (n := n) (σ := σ) k pl (numV s τ (tkE s τ q)) (tkE s τ (tkE s τ q))
      exact ⟨r, Or.inr ⟨c, Or.inr ⟨c2, hr⟩⟩⟩
    · exact ⟨_, Or.inr ⟨c, Or.inl ⟨c2, rfl⟩⟩⟩
  · obtain ⟨r, hr⟩ := pTh3_ex (s := s) (τ := τ) (n := n) (σ := σ) k pl 10 q
    exact ⟨r, Or.inl ⟨c, hr⟩⟩
theorem pTh_ex (k p : Nat) : ∃ r, pTh s τ n σ k p r := by
  by_cases c : n < 8
  · by_cases c1 : nameIs s τ (tkE s τ p) 6
    · by_cases c2 : numOK s τ (tkE s τ (tkE s τ p)) 5
      · obtain ⟨r, hr⟩ := pTh2_ex (s := s) (τ := τ) (n := n) (σ := σ) k (numV s τ (tkE s τ (tkE s τ p))) (tkE s τ (tkE s τ (tkE s τ p)))
        exact ⟨r, Or.inr ⟨c, Or.inr ⟨c1, Or.inr ⟨c2, hr⟩⟩⟩⟩
      · exact ⟨_, Or.inr ⟨c, Or.inr ⟨c1, Or.inl ⟨c2, rfl⟩⟩⟩⟩
    · exact ⟨_, Or.inr ⟨c, Or.inl ⟨c1, rfl⟩⟩⟩
  · exact ⟨_, Or.inl ⟨by omega, rfl⟩⟩
theorem pSe_ex (j p : Nat) : ∃ r, pSe s τ n σ j p r := by
  by_cases c : numOK s τ (tkE s τ p) (mst j)
  · by_cases c2 : semi s τ (tkE s τ (tkE s τ p))
    · exact ⟨_, Or.inr ⟨c, Or.inr ⟨c2, rfl⟩⟩⟩
    · exact ⟨_, Or.inr ⟨c, Or.inl ⟨c2, rfl⟩⟩⟩
  · exact ⟨_, Or.inl ⟨c, rfl⟩⟩
theorem pS_ex (p : Nat) : ∃ r, pS s τ n σ p r := by
  by_cases c : ∃ k, k < 6 ∧ nameIs s τ p k
  · obtain ⟨k, hk, hk2⟩ := c
    obtain ⟨r, hr⟩ := pTh_ex (s := s) (τ := τ) (n := n) (σ := σ) k p
    exact ⟨r, Or.inl ⟨k, hk, hk2, hr⟩⟩
  · have no : ∀ k, k < 6 → ¬ nameIs s τ p (0 + k) := fun k hk q => c ⟨k, hk, by rw [Nat.zero_add] at q; exact q⟩
    by_cases c2 : ∃ j, j < 6 ∧ nameIs s τ p (9 + j)
    · obtain ⟨j, hj, hj2⟩ := c2
      obtain ⟨r, hr⟩ := pSe_ex (s := s) (τ := τ) (n := n) (σ := σ) j p
      exact ⟨r, Or.inr ⟨no, Or.inl ⟨j, hj, hj2, hr⟩⟩⟩
    · exact ⟨_, Or.inr ⟨no, Or.inr ⟨fun j hj q => c2 ⟨j, hj, q⟩, rfl⟩⟩⟩
/-- where a statement ends, and that its street can be -/
def okR (s p : Nat) (r : rRes) : Prop := (∀ q, r = .inl q → q ≤ s) ∧ ∀ n' σ' p', r = .inr (n', σ', p') → p < p' ∧ p' ≤ s ∧ Wf n' n' σ'
theorem semi_E {q : Nat} (hq : q ≤ s) (c : semi s τ q) : q < tkE s τ q ∧ tkE s τ q ≤ s := by
  have hA := tk_A (τ := τ) hq
  have hE := tk_E (τ := τ) hq
  have := hE.2.2 (by rw [c.1]; decide)
  omega
theorem pTh4_ok {p k pl w u q : Nat} {r : rRes} (hW : Wf n n σ) (hn : n < 8) (hk : k < 6) (hpl : pl ≤ 5) (hp : p ≤ q) (hq : q ≤ s) (hr : pTh4 s τ n σ k pl w u q r) : okR s p r := by
  rcases hr with ⟨c, rfl⟩ | ⟨c, rfl⟩
  · refine ⟨fun q e => (by cases e), fun n' σ' p' e => ?_⟩
    cases e
    have := semi_E hq c
    exact ⟨by omega, by omega, Wf_sAdd hW (by omega) hn hk (by omega)⟩
  · exact ⟨fun q e => by cases e; exact (tk_A hq).2, fun n' σ' p' e => by cases e⟩
theorem pTh3_ok {p k pl w q : Nat} {r : rRes} (hW : Wf n n σ) (hn : n < 8) (hk : k < 6) (hpl : pl ≤ 5) (hp : p ≤ q) (hq : q ≤ s) (hr : pTh3 s τ n σ k pl w q r) : okR s p r := by
  have hE := tk_E (τ := τ) hq
  have hA := tk_A (τ := τ) hq
  have hE2 := tk_E (τ := τ) hE.2.1
  have hA2 := tk_A (τ := τ) hE.2.1
  rcases hr with ⟨_, h1⟩ | ⟨_, ⟨_, rfl⟩ | ⟨_, h1⟩⟩
  · exact pTh4_ok hW hn hk hpl hp hq h1
  · exact ⟨fun q e => by cases e; exact (tk_A hE.2.1).2, fun n' σ' p' e => by cases e⟩
  · exact pTh4_ok hW hn hk hpl (by omega) hE2.2.1 h1
theorem pTh_ok {k p : Nat} {r : rRes} (hW : Wf n n σ) (hk : k < 6) (hp : p ≤ s) (hr : pTh s τ n σ k p r) : okR s p r := by
  have hE := tk_E (τ := τ) hp
  have hA := tk_A (τ := τ) hp
  have hE2 := tk_E (τ := τ) hE.2.1
  have hA2 := tk_A (τ := τ) hE.2.1
  have hE3 := tk_E (τ := τ) hE2.2.1
  have hA3 := tk_A (τ := τ) hE2.2.1
  have hE4 := tk_E (τ := τ) hE3.2.1
  have hA4 := tk_A (τ := τ) hE3.2.1
  have hE5 := tk_E (τ := τ) hE4.2.1
  have hA5 := tk_A (τ := τ) hE4.2.1
  have bad : ∀ q, q ≤ s → okR s p (.inl q) := fun q hq => ⟨fun q' e => by cases e; exact hq, fun n' σ' p' e => by cases e⟩
  rcases hr with ⟨_, rfl⟩ | ⟨hn, ⟨_, rfl⟩ | ⟨_, ⟨_, rfl⟩ | ⟨ok, ⟨_, h1⟩ | ⟨_, ⟨_, rfl⟩ | ⟨_, h1⟩⟩⟩⟩⟩
  · exact bad _ hA.2
  · exact bad _ hA2.2
  · exact bad _ hA3.2
  · exact pTh3_ok hW hn hk ok.2.2 (by omega) hE3.2.1 h1
  · exact bad _ hA5.2
  · exact pTh3_ok hW hn hk ok.2.2 (by omega) hE5.2.1 h1
theorem Wf_set {j v : Nat} (hW : Wf n n σ) (hj : j < 6) (hv : v ≤ mst j) : Wf n n (sW σ (3 + j) (nI v)) := by
  rcases (by omega : j = 0 ∨ j = 1 ∨ j = 2 ∨ j = 3 ∨ j = 4 ∨ j = 5) with rfl | rfl | rfl | rfl | rfl | rfl
  · exact Wf_at hW (by have : v ≤ 5 := hv; omega)
  · exact Wf_fr hW (by omega)
  · exact Wf_fr hW (by omega)
  · exact Wf_fr hW (by omega)
  · exact Wf_fr hW (by omega)
  · exact Wf_law (l := 3) hW (by omega) (by have : v ≤ 99 := hv; exact this)
theorem pSe_ok {j p : Nat} {r : rRes} (hW : Wf n n σ) (hj : j < 6) (hp : p ≤ s) (hr : pSe s τ n σ j p r) : okR s p r := by
  have hE := tk_E (τ := τ) hp
  have hA := tk_A (τ := τ) hp
  have hE2 := tk_E (τ := τ) hE.2.1
  have hA2 := tk_A (τ := τ) hE.2.1
  have bad : ∀ q, q ≤ s → okR s p (.inl q) := fun q hq => ⟨fun q' e => by cases e; exact hq, fun n' σ' p' e => by cases e⟩
  rcases hr with ⟨_, rfl⟩ | ⟨ok, ⟨_, rfl⟩ | ⟨c, rfl⟩⟩
  · exact bad _ hA2.2
  · exact bad _ (tk_A hE2.2.1).2
  · refine ⟨fun q e => (by cases e), fun n' σ' p' e => ?_⟩
    cases e
    have := semi_E hE2.2.1 c
    exact ⟨by omega, by omega, Wf_set hW hj ok.2.2⟩
theorem pS_ok {p : Nat} {r : rRes} (hW : Wf n n σ) (hp : p ≤ s) (hr : pS s τ n σ p r) : okR s p r := by
  rcases hr with ⟨k, hk, _, h1⟩ | ⟨_, ⟨j, hj, _, h1⟩ | ⟨_, rfl⟩⟩
  · exact pTh_ok hW hk hp h1
  · exact pSe_ok hW hj hp h1
  · exact ⟨fun q' e => by cases e; exact (tk_A hp).2, fun n' σ' p' e => by cases e⟩
theorem pP_ex : ∀ (m p n : Nat) (σ : Nat → Int32), s - p < m → p ≤ s → Wf n n σ → ∃ r, pP s τ m p n σ r
  | 0, p, n, σ, h, _, _ => absurd h (by omega)
  | m + 1, p, n, σ, hm, hp, hW => by
    by_cases c : tkT s τ p = 0
    · exact ⟨_, Or.inl ⟨c, rfl⟩⟩
    · obtain ⟨r1, h1⟩ := pS_ex (s := s) (τ := τ) (n := n) (σ := σ) p
      have ok := pS_ok hW hp h1
      cases r1 with
      | inl q => exact ⟨.inl q, Or.inr ⟨c, _, h1, Or.inl ⟨q, rfl, rfl⟩⟩⟩
      | inr x =>
        obtain ⟨n', σ', p'⟩ := x
        have o := ok.2 n' σ' p' rfl
        obtain ⟨r, hr⟩ := pP_ex m p' n' σ' (by omega) o.2.1 o.2.2
        exact ⟨r, Or.inr ⟨c, _, h1, Or.inr ⟨n', σ', p', rfl, hr⟩⟩⟩
theorem pP_ok : ∀ (m p n : Nat) (σ : Nat → Int32) (r : rRes), p ≤ s → Wf n n σ → pP s τ m p n σ r → (∀ q, r = .inl q → q ≤ s) ∧ ∀ n' σ' p', r = .inr (n', σ', p') → Wf n' n' σ'
  | 0, _, _, _, _, _, _, h => h.elim
  | m + 1, p, n, σ, r, hp, hW, h => by
    rcases h with ⟨_, rfl⟩ | ⟨_, r1, h1, ⟨q, rfl, rfl⟩ | ⟨n', σ', p', rfl, h2⟩⟩
    · exact ⟨fun q e => (by cases e), fun n' σ' p' e => by cases e; exact hW⟩
    · exact ⟨fun q' e => by cases e; exact (pS_ok hW hp h1).1 q rfl, fun n' σ' p' e => by cases e⟩
    · have o := (pS_ok hW hp h1).2 n' σ' p' rfl
      exact pP_ok m p' n' σ' r o.2.1 o.2.2 h2
end
/-- cells that reading a text on the class's side leaves -/
def Gq (h h' : rHp) : Prop := ∀ b, (b < 8 ∨ 14 < b) ∧ b ≠ 22 → h' b = h b
theorem Gq_tr {h h' h2 : rHp} (a : Gq h h') (b : Gq h' h2) : Gq h h2 := fun c hc => (b c hc).trans (a c hc)
theorem Gq_q {h h' : rHp} (a : Fq h h') : Gq h h' := fun b hb => a b hb.2
theorem Gq_1 {h h' : rHp} (a : Fr 1 h h') : Gq h h' := fun b hb => a b (by omega)
theorem Gq_rf {h : rHp} : Gq h h := fun _ _ => rfl
theorem TpC_g {s : Nat} {τ : Nat → Nat} {h h' : rHp} (H : TpC s τ h) (a : Fr 1 h h') : TpC s τ h' := by
  unfold TpC
  rw [a 22 (by omega), a 23 (by omega)]
  exact H
section
variable {E : rE} {d s p n : Nat} {τ : Nat → Nat} {σ : Nat → Int32} {h : rHp} {f : Int32 → rHp → Prop} {fn : rHp → Prop} {fo : Option Nat}
/-- behind a fault -/
def FM (s : Nat) (τ : Nat → Nat) (q : Nat) (h : rHp) (fn : rHp → Prop) : Prop := ∀ h', Fq h h' → TpC s τ h' → h' 22 5 = nI q → (∃ b, b ≤ s ∧ h' 22 4 = nI b) → fn h'
theorem FM_q {q : Nat} {h h' : rHp} (a : Fq h h') (H : FM s τ q h fn) : FM s τ q h' fn := fun h2 b c e g => H h2 (Fq_tr a b) c e g
theorem foB_s {q : Nat} (hq : q ≤ s) : foB s (some q) := fun q' e => by cases e; exact hq
theorem fm90 {q : Nat} {v2 v3 v4 v5 : Int32} (hT : TpC s τ h) (hK : TK s τ p h) (hp : p ≤ s) (hf : h 22 5 = nI q) (hq : q ≤ s) (H : FM s τ q h fn) : rR E (rCall E (d + 10)) mTx_readThing (rPn SH fn) 90 [some (pR 22), some (pR 8), some (pI v2), some (pI v3), some (pI v4), some (pI v5)] [] SH h 0 0 := by
  have hs := hT.1
  have hE := tk_E (τ := τ) hp
  refine vTx_readThing_90 (c_needEnd (fo := some q) hT hK hp hf (foB_s hq) (fun _ => br_t ?_ ⟨rfl, H h Fq_rf hT hf ⟨_, hE.2.1, hK.2.2⟩⟩) (fun _ h1 a b c e => br_t ?_ ⟨rfl, H h1 a b c ⟨_, hE.2.1, e.2.2⟩⟩))
  · rw [hf]; exact nI_pos' (by omega)
  · rw [c]; exact nI_pos' (by omega)
theorem fm69 {q : Nat} {v2 v3 v4 v5 : Int32} (hT : TpC s τ h) (hK : TK s τ p h) (hp : p ≤ s) (hf : h 22 5 = nI q) (hq : q ≤ s) (H : FM s τ q h fn) : rR E (rCall E (d + 10)) mTx_readThing (rPn SH fn) 69 [some (pR 22), some (pR 8), some (pI v2), some (pI v3), some (pI v4), some (pI v5)] [] SH h 0 0 := by
  have hE := tk_E (τ := τ) hp
  have hE2 := tk_E (τ := τ) hE.2.1
  have nx : ∀ (x : Int32) (h1 : rHp), Fq h h1 → TpC s τ h1 → TK s τ (tkE s τ p) h1 → h1 22 5 = nI q → rCall E (d + 10) mTx_next [pR 22] SH h1 (rPn SH (fun g5 => rR E (rCall E (d + 10)) mTx_readThing (rPn SH fn) 90 [some (pR 22), some (pR 8), some (pI v2), some (pI v3), some (pI v4), some (pI x)] [] SH g5 0 0)) := fun x h1 a b c e => c_next b c.2.2 hE2.2.1 (fun h2 a2 b2 c2 e2 => fm90 b2 e2 hE2.2.1 (c2.trans e) hq (FM_q (Fq_tr a a2) H))
  refine vTx_readThing_69 (c_isName (w := 8) (by omega) hT hK hp (fun _ => o1 ?_) (fun _ => o0 (fm90 hT hK hp hf hq H)))
  exact c_readNumber (most := 9) (fo := some q) (by omega) hT hK.2.2 hE.2.1 hf (foB_s hq) (fun _ h1 a b c e => nx _ h1 a b c e) (fun _ h1 a b c e => nx _ h1 a b c e)
theorem fm31 {q : Nat} {v2 : Int32} (hT : TpC s τ h) (hK : TK s τ p h) (hp : p ≤ s) (hf : h 22 5 = nI q) (hq : q ≤ s) (H : FM s τ q h fn) : rR E (rCall E (d + 10)) mTx_readThing (rPn SH fn) 31 [some (pR 22), some (pR 8), some (pI v2), none, none, none] [] SH h 0 0 := by
  have hE := tk_E (τ := τ) hp
  have hE2 := tk_E (τ := τ) hE.2.1
  have hE3 := tk_E (τ := τ) hE2.2.1
  have hE4 := tk_E (τ := τ) hE3.2.1
  have nx2 : ∀ (x y : Int32) (h1 : rHp), Fq h h1 → TpC s τ h1 → TK s τ (tkE s τ (tkE s τ (tkE s τ p))) h1 → h1 22 5 = nI q → rCall E (d + 10) mTx_next [pR 22] SH h1 (rPn SH (fun g5 => rR E (rCall E (d + 10)) mTx_readThing (rPn SH fn) 69 [some (pR 22), some (pR 8), some (pI v2), some (pI x), some (pI y), some (pI 0)] [] SH g5 0 0)) := fun x y h1 a b c e => c_next b c.2.2 hE4.2.1 (fun h2 a2 b2 c2 e2 => fm69 b2 e2 hE4.2.1 (c2.trans e) hq (FM_q (Fq_tr a a2) H))
  have nx1 : ∀ (x : Int32) (h1 : rHp), Fq h h1 → TpC s τ h1 → TK s τ (tkE s τ p) h1 → h1 22 5 = nI q → rCall E (d + 10) mTx_next [pR 22] SH h1 (rPn SH (fun g3 => rCall E (d + 10) mTx_isName [pR 22, pC 17] SH g3 (rPi SH (fun x5 g4 => (x5 = 0 → rR E (rCall E (d + 10)) mTx_readThing (rPn SH fn) 69 [some (pR 22), some (pR 8), some (pI v2), some (pI x), some (pI 10), some (pI 0)] [] SH g4 0 0) ∧ (¬ x5 = 0 → rCall E (d + 10) mTx_readNumber [pR 22, pI 99] SH g4 (rPi SH (fun x7 g6 => rCall E (d + 10) mTx_next [pR 22] SH g6 (rPn SH (fun g8 => rR E (rCall E (d + 10)) mTx_readThing (rPn SH fn) 69 [some (pR 22), some (pR 8), some (pI v2), some (pI x), some (pI x7), some (pI 0)] [] SH g8 0 0))))))))) := by
    intro x h1 a b c e
    refine c_next b c.2.2 hE2.2.1 (fun h2 a2 b2 c2 e2 => c_isName (w := 7) (by omega) b2 e2 hE2.2.1 (fun _ => o1 ?_) (fun _ => o0 (fm69 b2 e2 hE2.2.1 (c2.trans e) hq (FM_q (Fq_tr a a2) H))))
    exact c_readNumber (most := 99) (fo := some q) (by omega) b2 e2.2.2 hE3.2.1 (c2.trans e) (foB_s hq) (fun _ h3 a3 b3 c3 e3 => nx2 _ _ h3 (Fq_tr a (Fq_tr a2 a3)) b3 c3 e3) (fun _ h3 a3 b3 c3 e3 => nx2 _ _ h3 (Fq_tr a (Fq_tr a2 a3)) b3 c3 e3)
  exact vTx_readThing_31 (c_readNumber (most := 5) (fo := some q) (by omega) hT hK.2.2 hE.2.1 hf (foB_s hq) (fun _ h1 a b c e => nx1 _ h1 a b c e) (fun _ h1 a b c e => nx1 _ h1 a b c e))
/-- what a statement comes to on the class's side -/
def OC (s : Nat) (τ : Nat → Nat) (r : rRes) (h : rHp) (fn : rHp → Prop) : Prop :=
  (∀ q, r = .inl q → ∀ h', Gq h h' → TpC s τ h' → h' 22 5 = nI q → (∃ b, b ≤ s ∧ h' 22 4 = nI b) → fn h') ∧
  (∀ n' σ' p', r = .inr (n', σ', p') → ∀ h', Gq h h' → TpC s τ h' → h' 22 5 = -1 → h' 22 4 = nI p' → St 1 n' σ' h' → fn h')
theorem OC_q {r : rRes} {h h' : rHp} (a : Gq h h') (H : OC s τ r h fn) : OC s τ r h' fn := ⟨fun q e h2 b c g i => H.1 q e h2 (Gq_tr a b) c g i, fun n' σ' p' e h2 b c g i j => H.2 n' σ' p' e h2 (Gq_tr a b) c g i j⟩
theorem OC_f {q : Nat} {h : rHp} (H : OC s τ (.inl q) h fn) : FM s τ q h fn := fun h' a b c e => H.1 q rfl h' (Gq_q a) b c e
theorem St_q {h h' : rHp} (hS : St 1 n σ h) (a : Fq h h') : St 1 n σ h' := St_far hS (fun b h1 h2 => a b (by omega))
theorem nm90 {k pl w u : Nat} {r : rRes} (hr : pTh4 s τ n σ k pl w u p r) (hW : Wf n n σ) (hn : n < 8) (hT : TpC s τ h) (hK : TK s τ p h) (hp : p ≤ s) (hf : h 22 5 = -1) (hS : St 1 n σ h) (H : OC s τ r h fn) : rR E (rCall E (d + 10)) mTx_readThing (rPn SH fn) 90 [some (pR 22), some (pR 8), some (pI (nI k)), some (pI (nI pl)), some (pI (nI w)), some (pI (nI u))] [] SH h 0 0 := by
  have hs := hT.1
  have hA := tk_A (τ := τ) hp
  have hE := tk_E (τ := τ) hp
  refine vTx_readThing_90 (c_needEnd (fo := none) hT hK hp hf (fun q e => by cases e) (fun c => ?_) (fun c h1 a b e g => ?_))
  · rcases hr with ⟨_, rfl⟩ | ⟨c2, _⟩
    · refine br_f (by rw [hf]; decide) (c_add (t := 1) t1 hW hn hS (fun h1 a b => ⟨rfl, H.2 _ _ _ rfl h1 (Gq_1 b) (TpC_g hT b) ?_ ?_ a⟩))
      · rw [b 22 (by omega)]; exact hf
      · rw [b 22 (by omega)]; exact hK.2.2
    · exact absurd c c2
  · rcases hr with ⟨c2, _⟩ | ⟨_, rfl⟩
    · exact absurd c2 c
    · exact br_t (by rw [e]; exact nI_pos' (by omega)) ⟨rfl, H.1 _ rfl h1 (Gq_q a) b e ⟨_, hE.2.1, g.2.2⟩⟩
theorem nm69 {k pl w : Nat} {r : rRes} (hr : pTh3 s τ n σ k pl w p r) (hW : Wf n n σ) (hn : n < 8) (hT : TpC s τ h) (hK : TK s τ p h) (hp : p ≤ s) (hf : h 22 5 = -1) (hS : St 1 n σ h) (H : OC s τ r h fn) : rR E (rCall E (d + 10)) mTx_readThing (rPn SH fn) 69 [some (pR 22), some (pR 8), some (pI (nI k)), some (pI (nI pl)), some (pI (nI w)), some (pI (nI 0))] [] SH h 0 0 := by
  have hE := tk_E (τ := τ) hp
  have hE2 := tk_E (τ := τ) hE.2.1
  have hA2 := tk_A (τ := τ) hE.2.1
  refine vTx_readThing_69 (c_isName (w := 8) (by omega) hT hK hp (fun c => o1 ?_) (fun c => o0 ?_))
  · refine c_readNumber (most := 9) (fo := none) (by omega) hT hK.2.2 hE.2.1 hf (fun q e => by cases e) (fun c2 h1 a b e g => ?_) (fun c2 h1 a b e g => ?_)
    · rcases hr with ⟨x, _⟩ | ⟨_, ⟨x, _⟩ | ⟨_, h4⟩⟩
      · exact absurd c x
      · exact absurd c2 x
      · exact c_next b e.2.2 hE2.2.1 (fun h2 a2 b2 c3 e2 => nm90 h4 hW hn b2 e2 hE2.2.1 (c3.trans g) (St_q hS (Fq_tr a a2)) (OC_q (Gq_q (Fq_tr a a2)) H))
    · rcases hr with ⟨x, _⟩ | ⟨_, ⟨_, rfl⟩ | ⟨x, _⟩⟩
      · exact absurd c x
      · exact c_next b e.2.2 hE2.2.1 (fun h2 a2 b2 c3 e2 => fm90 b2 e2 hE2.2.1 (c3.trans g) hA2.2 (FM_q (Fq_tr a a2) (OC_f H)))
      · exact absurd x c2
  · rcases hr with ⟨_, h4⟩ | ⟨x, _⟩
    · exact nm90 h4 hW hn hT hK hp hf hS H
    · exact absurd x c
theorem nm31 {k : Nat} {r : rRes} (hr : pTh1 s τ n σ k (tkE s τ p) r) (hW : Wf n n σ) (hn : n < 8) (hT : TpC s τ h) (hK : TK s τ p h) (hp : p ≤ s) (hf : h 22 5 = -1) (hS : St 1 n σ h) (H : OC s τ r h fn) : rR E (rCall E (d + 10)) mTx_readThing (rPn SH fn) 31 [some (pR 22), some (pR 8), some (pI (nI k)), none, none, none] [] SH h 0 0 := by
  have hE := tk_E (τ := τ) hp
  have hE2 := tk_E (τ := τ) hE.2.1
  have hA2 := tk_A (τ := τ) hE.2.1
  have hE3 := tk_E (τ := τ) hE2.2.1
  have hE4 := tk_E (τ := τ) hE3.2.1
  have hA4 := tk_A (τ := τ) hE3.2.1
  refine vTx_readThing_31 (c_readNumber (most := 5) (fo := none) (by omega) hT hK.2.2 hE.2.1 hf (fun q e => by cases e) (fun c h1 a b e g => ?_) (fun c h1 a b e g => ?_))
  · rcases hr with ⟨x, _⟩ | ⟨_, hr⟩
    · exact absurd c x
    · refine c_next b e.2.2 hE2.2.1 (fun h2 a2 b2 c2 e2 => c_isName (w := 7) (by omega) b2 e2 hE2.2.1 (fun c3 => o1 ?_) (fun c3 => o0 ?_))
      · refine c_readNumber (most := 99) (fo := none) (by omega) b2 e2.2.2 hE3.2.1 (c2.trans g) (fun q e => by cases e) (fun c4 h3 a3 b3 e3 g3 => ?_) (fun c4 h3 a3 b3 e3 g3 => ?_)
        · rcases hr with ⟨x, _⟩ | ⟨_, ⟨x, _⟩ | ⟨_, h4⟩⟩
          · exact absurd c3 x
          · exact absurd c4 x
          · exact c_next b3 e3.2.2 hE4.2.1 (fun h5 a5 b5 c5 e5 => nm69 h4 hW hn b5 e5 hE4.2.1 (c5.trans g3) (St_q hS (Fq_tr a (Fq_tr a2 (Fq_tr a3 a5)))) (OC_q (Gq_q (Fq_tr a (Fq_tr a2 (Fq_tr a3 a5)))) H))
        · rcases hr with ⟨x, _⟩ | ⟨_, ⟨_, rfl⟩ | ⟨x, _⟩⟩
          · exact absurd c3 x
          · exact c_next b3 e3.2.2 hE4.2.1 (fun h5 a5 b5 c5 e5 => fm69 b5 e5 hE4.2.1 (c5.trans g3) hA4.2 (FM_q (Fq_tr a (Fq_tr a2 (Fq_tr a3 a5))) (OC_f H)))
          · exact absurd x c4
      · rcases hr with ⟨_, h4⟩ | ⟨x, _⟩
        · exact nm69 h4 hW hn b2 e2 hE2.2.1 (c2.trans g) (St_q hS (Fq_tr a a2)) (OC_q (Gq_q (Fq_tr a a2)) H)
        · exact absurd x c3
  · rcases hr with ⟨_, rfl⟩ | ⟨x, _⟩
    · refine c_next b e.2.2 hE2.2.1 (fun h2 a2 b2 c2 e2 => c_isName (w := 7) (by omega) b2 e2 hE2.2.1 (fun c3 => o1 ?_) (fun c3 => o0 (fm69 b2 e2 hE2.2.1 (c2.trans g) hA2.2 (FM_q (Fq_tr a a2) (OC_f H)))))
      have nx2 : ∀ (y : Int32) (h3 : rHp), Fq h2 h3 → TpC s τ h3 → TK s τ (tkE s τ (tkE s τ (tkE s τ p))) h3 → h3 22 5 = nI (tkA s τ (tkE s τ p)) → rCall E (d + 10) mTx_next [pR 22] SH h3 (rPn SH (fun g5 => rR E (rCall E (d + 10)) mTx_readThing (rPn SH fn) 69 [some (pR 22), some (pR 8), some (pI (nI k)), some (pI 0), some (pI y), some (pI 0)] [] SH g5 0 0)) := fun y h3 a3 b3 e3 g3 => c_next b3 e3.2.2 hE4.2.1 (fun h5 a5 b5 c5 e5 => fm69 b5 e5 hE4.2.1 (c5.trans g3) hA2.2 (FM_q (Fq_tr a (Fq_tr a2 (Fq_tr a3 a5))) (OC_f H)))
      exact c_readNumber (most := 99) (fo := some _) (by omega) b2 e2.2.2 hE3.2.1 (c2.trans g) (foB_s hA2.2) (fun c4 h3 a3 b3 e3 g3 => nx2 _ h3 a3 b3 e3 g3) (fun c4 h3 a3 b3 e3 g3 => nx2 _ h3 a3 b3 e3 g3)
    · exact absurd x c
theorem c_readThing {k : Nat} {r : rRes} (hr : pTh s τ n σ k p r) (hW : Wf n n σ) (hT : TpC s τ h) (hK : TK s τ p h) (hp : p ≤ s) (hf : h 22 5 = -1) (hS : St 1 n σ h) (H : OC s τ r h fn) : rCall E (d + 11) mTx_readThing [pR 22, pR 8, pI (nI k)] SH h (rPn SH fn) := by
  have hs := hT.1
  have hn := hW.1.1
  have hE := tk_E (τ := τ) hp
  have hA2 := tk_A (τ := τ) hE.2.1
  have hA := tk_A (τ := τ) hp
  apply vTx_readThing
  rw [S1_n hW hS]
  refine ⟨fun c => ?_, fun c => ?_⟩
  · have hn8 := (nI_ltI (b := 8) (by omega) (by omega)).1 c
    rcases hr with ⟨x, _⟩ | ⟨_, hr⟩
    · omega
    · refine c_next hT hK.2.2 hE.2.1 (fun h1 a b c1 e => c_isName (w := 6) (by omega) b e hE.2.1 (fun c2 => o1 ?_) (fun c2 => o0 ?_))
      · rcases hr with ⟨x, _⟩ | ⟨_, h1'⟩
        · exact absurd c2 x
        · exact nm31 h1' hW hn8 b e hE.2.1 (c1.trans hf) (St_q hS a) (OC_q (Gq_q a) H)
      · rcases hr with ⟨_, rfl⟩ | ⟨x, _⟩
        · exact c_fail (fo := none) b e hE.2.1 (c1.trans hf) (fun q e => by cases e) (fun h2 a2 b2 c3 e2 => fm31 b2 e2 hE.2.1 c3 hA2.2 (FM_q (Fq_tr a a2) (OC_f H)))
        · exact absurd x c2
  · have hn8 : 8 ≤ n := Nat.le_of_not_lt (fun q => c (nI_lt (b := 8) q (by omega)))
    rcases hr with ⟨_, rfl⟩ | ⟨x, _⟩
    · exact c_fail (fo := none) hT hK hp hf (fun q e => by cases e) (fun h2 a2 b2 c3 e2 => ⟨rfl, H.1 _ rfl h2 (Gq_q a2) b2 c3 ⟨_, hE.2.1, e2.2.2⟩⟩)
    · omega
end
