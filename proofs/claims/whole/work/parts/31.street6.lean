/-- one more thing -/
def sAdd (σ : Nat → Int32) (n : Nat) (k w u p : Int32) : Nat → Int32 := sLay (sW (sW (sW (sW σ 0 (nI (n + 1))) (10 + 5 * n) k) (11 + 5 * n) w) (12 + 5 * n) u) n p
theorem AG_le {m m' : Nat} {a b : Nat → Int32} (h : AG m a b) (hm : m' ≤ m) : AG m' a b := fun k hk => h k (by omega)
theorem AG_tr {m : Nat} {a b c : Nat → Int32} (h : AG m a b) (g : AG m b c) : AG m a c := fun k hk => (h k hk).trans (g k hk)
theorem AG_rf {m : Nat} {a : Nat → Int32} : AG m a a := fun _ _ => rfl
/-- as far as a thing's pit and height are written anew, what stood there is nothing -/
theorem AG_lay {n : Nat} {a b : Nat → Int32} {p : Int32} (h : AG (10 + 5 * n + 3) a b) : AG (10 + 5 * (n + 1)) (sLay a n p) (sLay b n p) := by
  intro k hk
  unfold sLay
  have e9 : a 9 = b 9 := h 9 (by omega)
  rw [e9]
  by_cases e1 : k = 14 + 5 * n
  · subst e1; rw [sW_eq, sW_eq]
  · rw [sW_ne e1, sW_ne e1]
    by_cases e2 : k = 13 + 5 * n
    · subst e2; rw [sW_eq, sW_eq]
    · rw [sW_ne e2, sW_ne e2]
      by_cases e3 : k = 9
      · subst e3; rw [sW_eq, sW_eq]
      · rw [sW_ne e3, sW_ne e3]; exact h k (by omega)
theorem AG_w1 {m : Nat} {x : Int32} {a b : Nat → Int32} (h : AG m a b) : AG (m + 1) (sW a m x) (sW b m x) := by
  intro j hj
  by_cases e : j = m
  · subst e; rw [sW_eq, sW_eq]
  · rw [sW_ne e, sW_ne e]; exact h j (by omega)
theorem Wf_sAdd {B n k p : Nat} {σ : Nat → Int32} {w u : Int32} (hW : Wf B n σ) (hB : B + 1 < 1000000) (hn : n < 8) (hk : k < 6) (hp : p ≤ 6) : Wf (B + 1) (n + 1) (sAdd σ n (nI k) w u (nI p)) := by
  obtain ⟨⟨h1, _⟩, h2, h3, ⟨L, hL, hL2, hg⟩, h5, h6, h7⟩ := hW
  refine ⟨⟨by omega, hB⟩, ?_, ?_, ⟨L + 1, by omega, ?_, ?_⟩, ?_, ?_, ?_⟩ <;> unfold sAdd sLay
  · rw [sW_ne (by omega), sW_ne (by omega), sW_ne (by omega), sW_ne (by omega), sW_ne (by omega), sW_ne (by omega), sW_eq]
  · rw [sW_ne (by omega), sW_ne (by omega), sW_ne (by omega), sW_ne (by omega), sW_ne (by omega), sW_ne (by omega), sW_ne (by omega)]; exact h3
  · rw [sW_ne (by omega), sW_ne (by omega), sW_eq, sW_ne (by omega), sW_ne (by omega), sW_ne (by omega), sW_ne (by omega), hL2, nI_succ]
  · intro i hi
    by_cases e : i = n
    · subst e
      rw [sW_eq, sW_ne (by omega), sW_ne (by omega), sW_ne (by omega), sW_ne (by omega), hL2, ← nI_succ]
      exact ⟨L + 1, by omega, by omega, rfl⟩
    · rw [sW_ne (by omega), sW_ne (by omega), sW_ne (by omega), sW_ne (by omega), sW_ne (by omega), sW_ne (by omega), sW_ne (by omega)]
      obtain ⟨g, g1, g2, g3⟩ := hg i (by omega)
      exact ⟨g, g1, by omega, g3⟩
  · intro i hi
    rw [sW_ne (by omega), sW_ne (by omega), sW_ne (by omega), sW_ne (by omega), sW_ne (by omega)]
    by_cases e : i = n
    · subst e; rw [sW_eq]; exact ⟨k, hk, rfl⟩
    · rw [sW_ne (by omega), sW_ne (by omega)]; exact h5 i (by omega)
  · intro i hi
    by_cases e : i = n
    · subst e; rw [sW_ne (by omega), sW_eq]; exact ⟨p, hp, rfl⟩
    · rw [sW_ne (by omega), sW_ne (by omega), sW_ne (by omega), sW_ne (by omega), sW_ne (by omega), sW_ne (by omega), sW_ne (by omega)]; exact h6 i (by omega)
  · rw [sW_ne (by omega), sW_ne (by omega), sW_ne (by omega), sW_ne (by omega), sW_ne (by omega), sW_ne (by omega), sW_ne (by omega)]; exact h7
/-- as at first -/
def sBeg (z : Int32) : Nat → Int32 := fun k => if k = 2 then z else if k = 4 then 50 else if k = 5 then 3 else if k = 6 then 2 else if k = 7 then 2 else if k = 8 then 20 else 0
theorem Wf_sBeg {B : Nat} {z : Int32} (hB : B < 1000000) : Wf B 0 (sBeg z) :=
  ⟨⟨by omega, hB⟩, rfl, ⟨0, by omega, rfl⟩, ⟨0, by omega, rfl, fun i hi => absurd hi (by omega)⟩, fun i hi => absurd hi (by omega), fun i hi => absurd hi (by omega), ⟨20, by omega, rfl⟩⟩
theorem Wf_z {B n : Nat} {σ : Nat → Int32} {z : Int32} (hW : Wf B n σ) : Wf B n (sW σ 2 z) := by
  obtain ⟨h1, h2, h3, ⟨L, hL, hL2, hg⟩, h5, h6, h7⟩ := hW
  refine ⟨h1, ?_, ?_, ⟨L, hL, ?_, ?_⟩, ?_, ?_, ?_⟩
  · rw [sW_ne (by omega)]; exact h2
  · rw [sW_ne (by omega)]; exact h3
  · rw [sW_ne (by omega)]; exact hL2
  · intro i hi; rw [sW_ne (by omega)]; exact hg i hi
  · intro i hi; rw [sW_ne (by omega)]; exact h5 i hi
  · intro i hi; rw [sW_ne (by omega)]; exact h6 i hi
  · rw [sW_ne (by omega)]; exact h7
def dN (z : Int32) : Nat := z.toBitVec.toNat / 65536
theorem dN_lt (z : Int32) : dN z < 65536 := by
  have := z.toBitVec.isLt
  unfold dN
  omega
theorem dR_N (z : Int32) : dR z = nI (dN z) := by
  apply Int32.toBitVec_inj.1
  apply BitVec.eq_of_toNat_eq
  rw [pk_tn (by have := dN_lt z; omega)]
  exact pk_ushr z 16 16 (by decide)
theorem dR_m (z : Int32) {k : Nat} (h0 : 0 < k) (hk : k < 1000) : dR z - dR z / nI k * nI k = nI (dN z % k) := by
  have := dN_lt z
  rw [dR_N]
  exact pk_rem (by omega) h0 (by omega)
/-- a year by draws -/
def sYr (n : Nat) (σ : Nat → Int32) : Nat → Int32 :=
  if n = 0 then sGo n σ
  else if σ 8 ≤ nI (dN (dZ (dZ (σ 2))) % 100) then sGo n (sW σ 2 (dZ (dZ (σ 2))))
  else if σ (13 + 5 * (dN (dZ (σ 2)) % n)) = 6 then sGo n (sW σ 2 (dZ (dZ (σ 2))))
  else sGo n (sLay (sW σ 2 (dZ (dZ (dZ (σ 2))))) (dN (dZ (σ 2)) % n) (nI (dN (dZ (dZ (dZ (σ 2)))) % 6)))
theorem Wf_sYr {B n : Nat} {σ : Nat → Int32} (hW : Wf B n σ) (hB : B + 1 < 1000000) : Wf (B + 1) n (sYr n σ) := by
  have hW1 : Wf (B + 1) n σ := Wf_le hW (by omega) hB
  unfold sYr
  split
  · exact Wf_sGo hW1
  · split
    · exact Wf_sGo (Wf_z hW1)
    · split
      · exact Wf_sGo (Wf_z hW1)
      · exact Wf_sGo (Wf_sLay (Wf_z hW) hB (by have := Nat.mod_lt (dN (dZ (dZ (dZ (σ 2))))) (show 6 > 0 by omega); omega))
/-- in how many pits one lies -/
def nPu (σ : Nat → Int32) (n : Nat) : Nat → Nat
  | 0 => 0
  | i + 1 => if nIn σ (nI i) n = 0 then nPu σ n i else nPu σ n i + 1
/-- the least of the fewest, going up and going down -/
def cUp (K : Nat → Int32) (due : Int32) : Nat → Nat × Nat
  | 0 => (0, 7)
  | i + 1 => if pc i < (cUp K due i).2 ∧ K i = due then (i, pc i) else cUp K due i
def cDn (K : Nat → Int32) (due : Int32) : Nat → Nat
  | 0 => 63
  | m + 1 => if K (63 - m) = due ∧ pc (63 - m) ≤ pc (cDn K due m) then 63 - m else cDn K due m
theorem pc_6 : ∀ v, v < 64 → pc v < 7 := by decide +kernel
theorem cUp_ok (K : Nat → Int32) (due : Int32) : ∀ i, i ≤ 64 → ((∀ S, S < i → K S ≠ due) ∧ cUp K due i = (0, 7)) ∨ ((cUp K due i).1 < i ∧ K (cUp K due i).1 = due ∧ (cUp K due i).2 = pc (cUp K due i).1 ∧ ∀ S, S < i → K S = due → pc (cUp K due i).1 ≤ pc S ∧ (pc S = pc (cUp K due i).1 → (cUp K due i).1 ≤ S))
  | 0, _ => Or.inl ⟨fun S hS => absurd hS (by omega), rfl⟩
  | i + 1, hi => by
    have ih := cUp_ok K due i (by omega)
    have h7 := pc_6 i (by omega)
    unfold cUp
    rcases ih with ⟨a, b⟩ | ⟨a, b, c, e⟩
    · rw [b]
      by_cases k : K i = due
      · rw [if_pos ⟨h7, k⟩]
        refine Or.inr ⟨by show i < i + 1; omega, k, rfl, fun S hS kS => ?_⟩
        by_cases q : S = i
        · subst q; exact ⟨Nat.le_refl _, fun _ => Nat.le_refl _⟩
        · exact absurd kS (a S (by omega))
      · rw [if_neg (fun q => k q.2)]
        refine Or.inl ⟨fun S hS => ?_, rfl⟩
        by_cases q : S = i
        · subst q; exact k
        · exact a S (by omega)
    · by_cases k : pc i < (cUp K due i).2 ∧ K i = due
      · rw [if_pos k]
        refine Or.inr ⟨by show i < i + 1; omega, k.2, rfl, fun S hS kS => ?_⟩
        show pc i ≤ pc S ∧ (pc S = pc i → i ≤ S)
        by_cases q : S = i
        · subst q; exact ⟨Nat.le_refl _, fun _ => Nat.le_refl _⟩
        · have := e S (by omega) kS
          rw [c] at k
          omega
      · rw [if_neg k]
        refine Or.inr ⟨by omega, b, c, fun S hS kS => ?_⟩
        by_cases q : S = i
        · subst q
          have : ¬ pc S < (cUp K due S).2 := fun l => k ⟨l, kS⟩
          rw [c] at this
          omega
        · exact e S (by omega) kS
theorem cDn_ok (K : Nat → Int32) (due : Int32) (h63 : K 63 = due) : ∀ m, m ≤ 64 → cDn K due m < 64 ∧ K (cDn K due m) = due ∧ (m = 0 ∨ (64 - m ≤ cDn K due m ∧ ∀ S, 64 - m ≤ S → S < 64 → K S = due → pc (cDn K due m) ≤ pc S ∧ (pc S = pc (cDn K due m) → cDn K due m ≤ S)))
  | 0, _ => ⟨by show 63 < 64; omega, h63, Or.inl rfl⟩
  | m + 1, hm => by
    obtain ⟨a, b, c⟩ := cDn_ok K due h63 m (by omega)
    unfold cDn
    by_cases k : K (63 - m) = due ∧ pc (63 - m) ≤ pc (cDn K due m)
    · rw [if_pos k]
      refine ⟨by omega, k.1, Or.inr ⟨by omega, fun S h1 h2 kS => ?_⟩⟩
      by_cases q : S = 63 - m
      · subst q; exact ⟨Nat.le_refl _, fun _ => Nat.le_refl _⟩
      · rcases c with c | ⟨_, c⟩
        · subst c; omega
        · have := c S (by omega) h2 kS
          omega
    · rw [if_neg k]
      refine ⟨a, b, Or.inr ⟨?_, fun S h1 h2 kS => ?_⟩⟩
      · rcases c with c | ⟨c, _⟩
        · subst c
          exact absurd ⟨h63, Nat.le_refl _⟩ k
        · omega
      · rcases c with c | ⟨_, c⟩
        · subst c
          exact absurd ⟨h63, Nat.le_refl _⟩ k
        · by_cases q : S = 63 - m
          · subst q
            have : ¬ pc (63 - m) ≤ pc (cDn K due m) := fun l => k ⟨kS, l⟩
            omega
          · exact c S (by omega) h2 kS
theorem cov_eq (K : Nat → Int32) (due : Int32) (h63 : K 63 = due) : (cUp K due 64).1 = cDn K due 64 := by
  obtain ⟨a, b, c⟩ := cDn_ok K due h63 64 (by omega)
  rcases c with c | ⟨_, c⟩
  · omega
  · rcases cUp_ok K due 64 (by omega) with ⟨u, _⟩ | ⟨u, v, _, w⟩
    · exact absurd h63 (u 63 (by omega))
    · have c1 := c _ (by omega) u v
      have w1 := w _ a b
      omega
section
variable {E : rE} {d B t n : Nat} {σ : Nat → Int32} {h : rHp} {f : Int32 → rHp → Prop} {fn : rHp → Prop}
theorem c_begin (ht : t < 3) (H : ∀ h', St t 0 (sBeg (h (7*t+1) 11)) h' → Fr t h h' → fn h') : rCall E (d + 1) mSt_begin [pR (7*t+1)] SH h (rPn SH fn) := by
  refine vSt_begin ht ⟨rfl, H _ (St_mk ?_ ?_ ?_ ?_ ?_ ?_ (fun i hi => ?_) (fun i hi => absurd hi (by omega)) (fun i hi => absurd hi (by omega)) (fun i hi => absurd hi (by omega)) (fun i hi => absurd hi (by omega)) (fun i hi => absurd hi (by omega))) (fun b hb => ?_)⟩
  · simp [rUp, sBeg]
  · simp [rUp, sBeg]
  · simp [rUp, sBeg]
  · simp [rUp, sBeg]
  · simp [rUp, sBeg]
  · simp [rUp, sBeg]
  · match i, hi with
    | 0, _ => simp [rUp, sBeg]
    | 1, _ => simp [rUp, sBeg]
    | 2, _ => simp [rUp, sBeg]
    | 3, _ => simp [rUp, sBeg]
  · rw [rUp_o (by omega), rUp_o (by omega), rUp_o (by omega), rUp_o (by omega), rUp_o (by omega), rUp_o (by omega), rUp_o (by omega), rUp_o (by omega), rUp_o (by omega)]
theorem c_add {k w u p : Int32} (ht : t < 3) (hW : Wf B n σ) (hn : n < 8) (hS : St t n σ h) (H : ∀ h', St t (n + 1) (sAdd σ n k w u p) h' → Fr t h h' → f (nI n) h') : rCall E (d + 2) mSt_add [pR (7*t+1), pI k, pI w, pI u, pI p] SH h (rPi SH f) := by
  apply vSt_add ht
  rw [St_n hW hS, nI_clamp (by omega), ← nI_succ]
  refine br_t (nI_lt (b := 8) hn (by omega)) ⟨vp_in_nI hn (by omega), vp_in_nI hn (by omega), vp_in_nI hn (by omega), ?_⟩
  refine c_layIn (n := n + 1) (σ := vS t (rUp (rUp (rUp (rUp h (7*t+1) 6 (nI (n + 1))) (7*t+2) n k) (7*t+3) n w) (7*t+4) n u)) ht (by omega) AG_rf (by omega) (fun h' a b => ⟨rfl, H h' ?_ ?_⟩)
  · refine AG_tr a ?_
    rw [vS_up_u, vS_up_w, vS_up_k, vS_up_0]
    unfold sAdd
    refine AG_lay ?_
    have e := AG_w (k := 0) (x := nI (n + 1)) hS
    have e1 := AG_w1 (x := k) e
    rw [show 10 + 5 * n + 1 = 11 + 5 * n by omega] at e1
    have e2 := AG_w1 (x := w) e1
    rw [show 11 + 5 * n + 1 = 12 + 5 * n by omega] at e2
    have e3 := AG_w1 (x := u) e2
    exact AG_le e3 (by omega)
  · exact Fr_tr (Fr_up (Fr_up (Fr_up (Fr_up Fr_refl (by omega) (by omega)) (by omega) (by omega)) (by omega) (by omega)) (by omega) (by omega)) b
theorem c_passDrawnYear (ht : t < 3) (hW : Wf B n σ) (hB : B + 1 < 1000000) (hS : St t n σ h) (H : ∀ h', St t n (sYr n σ) h' → Fr t h h' → fn h') : rCall E (d + 5) mSt_passDrawnYear [pR (7*t+1)] SH h (rPn SH fn) := by
  have hn := hW.1.1
  apply vSt_passDrawnYear ht
  rw [St_n hW hS]
  unfold sYr at H
  by_cases h0 : n = 0
  · rw [if_pos h0] at H
    exact br_t (nI_le (b := 0) (by omega) (by omega)) (c_passYear ht hW hS (fun h' a b => ⟨rfl, H h' a b⟩))
  · rw [if_neg h0] at H
    have hq : dN (dZ (σ 2)) % n < n := Nat.mod_lt _ (by omega)
    refine br_f (nI_nle (by omega) (by omega)) (c_draw ht hS (fun h1 a1 b1 => ⟨?_, c_draw ht a1 (fun h2 a2 b2 => ?_)⟩))
    · rw [St_n (Wf_z hW) a1]
      exact nI_ne0 (by omega) (by omega)
    · rw [St_n (Wf_z hW) a1]
      rw [sW_eq, sW_sW] at a2
      have e8 : h2 (7*t+7) 3 = σ 8 := (St_l a2 (i := 3) (by omega)).trans (sW_ne (by omega))
      rw [e8, sW_eq, dR_m _ (by omega) (by omega), show dR (dZ (dZ (σ 2))) - dR (dZ (dZ (σ 2))) / 100 * 100 = nI (dN (dZ (dZ (σ 2))) % 100) from dR_m _ (k := 100) (by omega) (by omega)]
      refine ⟨fun c => ?_, fun c => ?_⟩
      · rw [if_pos c] at H
        exact c_passYear ht (Wf_z hW) a2 (fun h' a b => ⟨rfl, H h' a (Fr_tr b1 (Fr_tr b2 b))⟩)
      · rw [if_neg c] at H
        refine c_lies ht (Wf_z hW) a2 hq ?_
        rw [sW_ne (by omega)]
        by_cases c6 : σ (13 + 5 * (dN (dZ (σ 2)) % n)) = 6
        · rw [if_pos c6] at H
          rw [if_pos c6]
          exact o0 (c_passYear ht (Wf_z hW) a2 (fun h' a b => ⟨rfl, H h' a (Fr_tr b1 (Fr_tr b2 b))⟩))
        · rw [if_neg c6] at H
          rw [if_neg c6]
          refine o1 (c_draw ht a2 (fun h3 a3 b3 => ?_))
          rw [sW_eq, show dR (dZ (dZ (dZ (σ 2)))) - dR (dZ (dZ (dZ (σ 2)))) / 6 * 6 = nI (dN (dZ (dZ (dZ (σ 2)))) % 6) from dR_m _ (k := 6) (by omega) (by omega)]
          rw [sW_eq, sW_sW] at a3
          refine c_layIn ht (by omega) a3 hq (fun h4 a4 b4 => ?_)
          exact c_passYear ht (Wf_sLay (Wf_z hW) hB (by have := Nat.mod_lt (dN (dZ (dZ (dZ (σ 2))))) (show 6 > 0 by omega); omega)) a4 (fun h' a b => ⟨rfl, H h' a (Fr_tr b1 (Fr_tr b2 (Fr_tr b3 (Fr_tr b4 b))))⟩)
theorem c_pitsInUse (ht : t < 3) (hW : Wf B n σ) (hS : St t n σ h) (H : f (nI (nPu σ n 6)) h) : rCall E (d + 2) mSt_pitsInUse [pR (7*t+1)] SH h (rPi SH f) := by
  have hn := hW.1.1
  apply vSt_pitsInUse ht
  refine loopUp (P := fun i => rR E (rCall E (d + 1)) mSt_pitsInUse (rPi SH f) 4 [some (pR (7*t+1)), some (pI (nI (nPu σ n i))), some (pI (nI i))] [] SH h 0 0) 6 ?_ ?_
  · intro i hi hP
    refine vSt_pitsInUse_4 ht (br_f (nI_ge (b := 6) hi (by omega)) (c_setIn ht hW hS ?_))
    have hl : nIn σ (nI i) n < 256 := Nat.lt_of_lt_of_le (nIn_lt σ (nI i) n) (q2 hn)
    by_cases e : nIn σ (nI i) n = 0
    · simp only [nPu, if_pos e, nI_succ] at hP
      rw [e]
      exact o0 hP
    · simp only [nPu, if_neg e, nI_succ] at hP
      exact br_f (nI_ne0 (by omega) (by omega)) hP
  · exact vSt_pitsInUse_4 ht (br_t (nI_le (a := 6) (b := 6) (by omega) (by omega)) ⟨rfl, H⟩)
theorem cUp_b (K : Nat → Int32) (due : Int32) : ∀ i, i ≤ 64 → (cUp K due i).1 < 64 ∧ (cUp K due i).2 < 8
  | 0, _ => by unfold cUp; omega
  | i + 1, hi => by
    have := cUp_b K due i (by omega)
    have h7 := pc_6 i (by omega)
    unfold cUp
    split
    · show i < 64 ∧ pc i < 8
      omega
    · exact this
theorem c_cover (ht : t < 3) (hW : Wf B n σ) (hS : St t n σ h) (H : f (nI (cUp (fun S => qKd σ (nI S) n) (qKd σ (nI 63) n) 64).1) h) : rCall E (d + 2) mSt_cover [pR (7*t+1)] SH h (rPi SH f) := by
  apply vSt_cover ht
  refine c_kindsIn (S := nI 63) ht hW hS ?_
  refine loopUp (P := fun i => ∀ o5, rR E (rCall E (d + 1)) mSt_cover (rPi SH f) 15 [some (pR (7*t+1)), some (pI (qKd σ (nI 63) n)), some (pI (nI (cUp (fun S => qKd σ (nI S) n) (qKd σ (nI 63) n) i).1)), some (pI (nI (cUp (fun S => qKd σ (nI S) n) (qKd σ (nI 63) n) i).2)), some (pI (nI i)), oI o5] [] SH h 0 0) 64 ?_ ?_ none
  · intro i hi hP o5
    have hb := cUp_b (fun S => qKd σ (nI S) n) (qKd σ (nI 63) n) i (by omega)
    have h7 := pc_6 i (by omega)
    have hP := hP (some (nI (pc i)))
    refine vSt_cover_15 ht (br_f (nI_ge (b := 64) hi (by omega)) (c_bit (by omega) ⟨fun e => ?_, fun e => ?_⟩))
    · rw [nI_leI (by omega) (by omega)] at e
      have c : ¬ (pc i < (cUp (fun S => qKd σ (nI S) n) (qKd σ (nI 63) n) i).2 ∧ qKd σ (nI i) n = qKd σ (nI 63) n) := fun q => by omega
      simp only [cUp, if_neg c] at hP
      rw [show nI (i + 1) = nI i + 1 from nI_succ i] at hP
      exact hP
    · rw [nI_leI (by omega) (by omega)] at e
      refine c_kindsIn ht hW hS ⟨fun e2 => ?_, fun e2 => ?_⟩
      · have c : pc i < (cUp (fun S => qKd σ (nI S) n) (qKd σ (nI 63) n) i).2 ∧ qKd σ (nI i) n = qKd σ (nI 63) n := ⟨by omega, e2⟩
        simp only [cUp, if_pos c] at hP
        rw [show nI (i + 1) = nI i + 1 from nI_succ i] at hP
        exact hP
      · have c : ¬ (pc i < (cUp (fun S => qKd σ (nI S) n) (qKd σ (nI 63) n) i).2 ∧ qKd σ (nI i) n = qKd σ (nI 63) n) := fun q => e2 q.2
        simp only [cUp, if_neg c] at hP
        rw [show nI (i + 1) = nI i + 1 from nI_succ i] at hP
        exact hP
  · intro o5
    exact vSt_cover_15 ht (br_t (nI_le (a := 64) (b := 64) (by omega) (by omega)) ⟨rfl, H⟩)
end
