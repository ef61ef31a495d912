/-! the acts -/
def TC (L : List Int32) (h : rHp) : Prop := h 32 1 = nI (min L.length 30) ∧ ∀ j, j < min L.length 30 → h 33 j = L.getD j 0
def TM (L : List Int32) (h : rHp) : Prop := h 35 22 = nI (min L.length 30) ∧ ∀ j, j < min L.length 30 → h 49 j = L.getD j 0
def AC (k : Nat) (nn aa : Int32) (L : List Int32) (s : Int32) (h0 h : rHp) : Prop := (∀ b, b ≠ 32 ∧ b ≠ 33 → h b = h0 b) ∧ h 32 2 = nn ∧ h 32 3 = nI k ∧ h 32 4 = aa ∧ h 32 5 = s ∧ TC L h
def AM (k : Nat) (nn aa : Int32) (L : List Int32) (s : Int32) (h0 h : rHp) : Prop := (∀ b, b ≠ 35 ∧ b ≠ 49 → h b = h0 b) ∧ (∀ j, j < 22 → h 35 j = h0 35 j) ∧ h 35 23 = nI k ∧ h 35 24 = nn ∧ h 35 25 = aa ∧ h 35 26 = s ∧ TM L h
def kL (k : Nat) (L : List Int32) : List Int32 := if k = 2 then L ++ [30] ++ [10] else if k = 3 then L ++ [51] ++ [10] else if k = 4 then L ++ [40] ++ [30] ++ [10] else L ++ [10]
def kV (k : Nat) (nn x : Int32) : Int32 := if k = 2 then 0 - (x * 2 + nn) else if k = 3 then x * 2 + nn - nn else if k = 4 then (0 - (x * 2 + nn)) ^^^ 5 else x * 2 + nn
def jL (k : Nat) (L : List Int32) : List Int32 := if k = 1 ∨ k = 3 then kL k (L ++ [20] ++ [11]) else if k = 4 then kL k (kL k (L ++ [41] ++ [11])) else kL k (L ++ [11])
def jV (k : Nat) (nn aa x : Int32) : Int32 := if k = 1 ∨ k = 3 then kV k nn x * 3 - aa + 8 else if k = 4 then kV k nn x * 3 - aa - kV k nn aa else kV k nn x * 3 - aa
def pLs (k : Nat) (nn aa : Int32) (L : List Int32) : List Int32 := if k = 3 then L ++ [50] ++ [12] else if k = 5 then (if nn = aa then L ++ [61] ++ [12] else kL 5 (L ++ [61] ++ [12])) else L ++ [12]
def pVs (k : Nat) (nn aa x : Int32) : Int32 := if k = 3 then (x + 9) / (aa - nn) * 2 else if k = 5 then (x / (aa - nn)) ^^^ kV 5 nn nn else x / (aa - nn)
def aLs (k : Nat) (nn aa : Int32) (L : List Int32) : List Int32 := if k = 2 ∨ k = 4 then pLs k nn aa (jL k (L ++ [31] ++ [13])) else if k = 5 then jL k (L ++ [60] ++ [13]) else jL k (L ++ [13])
def aVs (k : Nat) (nn aa x : Int32) : Int32 := if k = 2 ∨ k = 4 then (jV k nn aa x ^^^ 70) - pVs k nn aa nn else if k = 5 then (jV k nn aa x ^^^ 70) + aa else jV k nn aa x ^^^ 70
def bF : Nat → Nat → Nat → Int32
  | 0, _, _ => 0
  | m + 1, k, a => if rOwn.getD (4 * k + a) 0 = 0 then (if k = 0 then 0 else bF m (if k = 3 then 1 else if k = 4 then 2 else 0) a) else rOwn.getD (4 * k + a) 0
theorem own0 : ∀ a, a < 4 → ¬ rOwn.getD (4 * 0 + a) 0 = 0 := by decide +kernel
theorem jx4 (r w : Nat) : nI r * (4:Int32) + nI w = nI (4 * r + w) := by
  rw [show (4:Int32) = nI 4 from rfl, pk_mul, nI_add, Nat.mul_comm]
theorem sub0 {a b : Int32} : a - b = 0 ↔ b = a := by
  constructor
  · intro e
    have := congrArg (fun x => x + b) e
    simp only [Int32.sub_add_cancel, Int32.zero_add] at this
    exact this.symm
  · intro e
    rw [e, Int32.sub_self]
theorem getD_snoc {L : List Int32} {b : Int32} {j : Nat} : (L ++ [b]).getD j 0 = if j < L.length then L.getD j 0 else if j = L.length then b else 0 := by
  by_cases c : j < L.length
  · rw [if_pos c, List.getD_eq_getElem?_getD, List.getD_eq_getElem?_getD, List.getElem?_append_left c]
  · rw [if_neg c, List.getD_eq_getElem?_getD, List.getElem?_append_right (by omega)]
    by_cases e : j = L.length
    · subst e; simp
    · rw [if_neg e, List.getElem?_eq_none (by simp; omega)]
      rfl
section
variable {E : rE} {d B n k D : Nat} {nn aa x s : Int32} {L : List Int32} {h h0 : rHp} {f : Int32 → rHp → Prop} {fn : rHp → Prop}
theorem c_note {b : Int32} (hA : AC k nn aa L s h0 h) (H : ∀ h', AC k nn aa (L ++ [b]) s h0 h' → fn h') : rCall E (d + 1) mAc_note [pR 32, pI b] SH h (rPn SH fn) := by
  obtain ⟨h1, h2, h3, h4, h5, h6, h7⟩ := hA
  have el : (L ++ [b]).length = L.length + 1 := by simp
  apply vAc_note
  rw [h6]
  by_cases c : L.length < 30
  · rw [nI_clamp (by omega), ← nI_succ, show min L.length 30 = L.length by omega] at *
    refine br_f (nI_ge (b := 30) c (by omega)) ⟨vp_in_nI c (by omega), rfl, H _ ⟨fun b hb => (rUp_o hb.1).trans ((rUp_o hb.2).trans (h1 b hb)), ?_, ?_, ?_, ?_, ?_, fun j hj => ?_⟩⟩
    · rw [rUp_a, sW_ne (by omega), rUp_o (by omega)]; exact h2
    · rw [rUp_a, sW_ne (by omega), rUp_o (by omega)]; exact h3
    · rw [rUp_a, sW_ne (by omega), rUp_o (by omega)]; exact h4
    · rw [rUp_a, sW_ne (by omega), rUp_o (by omega)]; exact h5
    · rw [rUp_a, sW_eq, el, show min (L.length + 1) 30 = L.length + 1 by omega]
    · rw [el] at hj
      rw [rUp_o (by omega), rUp_a, getD_snoc]
      by_cases e : j = L.length
      · rw [e, sW_eq, if_neg (by omega), if_pos rfl]
      · rw [sW_ne e, if_pos (by omega)]
        exact h7 j (by omega)
  · refine br_t (by rw [show min L.length 30 = 30 by omega]; decide) ⟨rfl, H _ ⟨h1, h2, h3, h4, h5, ?_, fun j hj => ?_⟩⟩
    · rw [h6, el, show min L.length 30 = 30 by omega, show min (L.length + 1) 30 = 30 by omega]
    · rw [el] at hj
      rw [getD_snoc, if_pos (by omega)]
      exact h7 j (by omega)
theorem m_runs {b : Int32} (hA : AM k nn aa L s h0 h) (H : ∀ h', AM k nn aa (L ++ [b]) s h0 h' → fn h') : rCall E (d + 1) mMo_runs [pR 35, pI b] SH h (rPn SH fn) := by
  obtain ⟨h1, h1', h2, h3, h4, h5, h6, h7⟩ := hA
  have el : (L ++ [b]).length = L.length + 1 := by simp
  apply vMo_runs
  rw [h6]
  by_cases c : L.length < 30
  · rw [nI_clamp (by omega), ← nI_succ, show min L.length 30 = L.length by omega] at *
    refine br_f (nI_ge (b := 30) c (by omega)) ⟨vp_in_nI c (by omega), rfl, H _ ⟨fun b hb => (rUp_o hb.1).trans ((rUp_o hb.2).trans (h1 b hb)), fun j hj => ?_, ?_, ?_, ?_, ?_, ?_, fun j hj => ?_⟩⟩
    · rw [rUp_a, sW_ne (by omega), rUp_o (by omega)]; exact h1' j hj
    · rw [rUp_a, sW_ne (by omega), rUp_o (by omega)]; exact h2
    · rw [rUp_a, sW_ne (by omega), rUp_o (by omega)]; exact h3
    · rw [rUp_a, sW_ne (by omega), rUp_o (by omega)]; exact h4
    · rw [rUp_a, sW_ne (by omega), rUp_o (by omega)]; exact h5
    · rw [rUp_a, sW_eq, el, show min (L.length + 1) 30 = L.length + 1 by omega]
    · rw [el] at hj
      rw [rUp_o (by omega), rUp_a, getD_snoc]
      by_cases e : j = L.length
      · rw [e, sW_eq, if_neg (by omega), if_pos rfl]
      · rw [sW_ne e, if_pos (by omega)]
        exact h7 j (by omega)
  · refine br_t (by rw [show min L.length 30 = 30 by omega]; decide) ⟨rfl, H _ ⟨h1, h1', h2, h3, h4, h5, ?_, fun j hj => ?_⟩⟩
    · rw [h6, el, show min L.length 30 = 30 by omega, show min (L.length + 1) 30 = 30 by omega]
    · rw [el] at hj
      rw [getD_snoc, if_pos (by omega)]
      exact h7 j (by omega)
theorem c_body {k a : Nat} (hk : k < 6) (ha : a < 4) (H : f (bF 6 k a) h) : rCall E (d + 2) mAc_bodyFor [pI (nI k), pI (nI a)] SH h (rPi SH f) := by
  apply vAc_bodyFor
  have go : ∀ (m s k : Nat) (v0 : Int32) (o4 : Option Int32), m + s = 6 → k < 6 → f (bF m k a) h → rR E (rCall E (d + 1)) mAc_bodyFor (rPi SH f) 4 [some (pI v0), some (pI (nI a)), some (pI (nI k)), some (pI (nI s)), oI o4] [] SH h 0 0 := by
    intro m
    induction m with
    | zero =>
      intro s k v0 o4 hs hk H
      exact vAc_bodyFor_4 (br_t (nI_le (a := 6) (by omega) (by omega)) ⟨rfl, H⟩)
    | succ m ih =>
      intro s k v0 o4 hs hk H
      unfold bF at H
      refine vAc_bodyFor_4 (br_f (nI_ge (b := 6) (by omega) (by omega)) (c_wi1 (m := 5) (by omega) (by omega) (o1 ?_)))
      rw [jx4, nI_clamp (n := 4 * k + a) (by omega)]
      refine ⟨vp_in_nI (by omega) (by omega), fun e => ⟨vp_in_nI hk (by omega), ?_⟩, fun e => ⟨rfl, ?_⟩⟩
      · rw [if_pos e] at H
        by_cases k0 : k = 0
        · subst k0
          exact absurd e (own0 a ha)
        · rw [if_neg k0] at H
          rw [nI_clamp (by omega), rU k hk, if_neg k0, ← nI_succ]
          exact ih (s + 1) _ v0 (some _) (by omega) (by split <;> (try split) <;> omega) H
      · rwa [if_neg e] at H
  exact go 6 0 k (nI k) none rfl hk H
theorem c_own {k a : Nat} {b : Int32} (hA : AC k nn aa L s h0 h) (hk : k < 6) (ha : a < 4) (hb : bF 6 k a = b) (H : rCall E (d + 2) mAc_run [pR 32, pI b, pI x, pI (nI D)] SH h (rPi SH (fun x4 g3 => rPi SH f (some (pI x4)) SH g3))) : rCall E (d + 3) mAc_own [pR 32, pI (nI a), pI x, pI (nI D)] SH h (rPi SH f) := by
  apply vAc_own
  rw [hA.2.2.1]
  refine c_body hk ha ?_
  rw [hb]
  exact H
theorem c_inh {k k' a : Nat} {b : Int32} (hk : k < 6) (hu : rUnder.getD k 0 = nI k') (hk' : k' < 6) (ha : a < 4) (hb : bF 6 k' a = b) (H : rCall E (d + 2) mAc_run [pR 32, pI b, pI x, pI (nI D)] SH h (rPi SH (fun x4 g3 => rPi SH f (some (pI x4)) SH g3))) : rCall E (d + 3) mAc_inherited [pR 32, pI (nI k), pI (nI a), pI x, pI (nI D)] SH h (rPi SH f) := by
  apply vAc_inherited
  rw [nI_clamp (by omega), hu]
  refine ⟨vp_in_nI hk (by omega), c_body hk' ha ?_⟩
  rw [hb]
  exact H

theorem c_run10 (hA : AC k nn aa L 0 h0 h) (hD : D ≤ 40) (H : ∀ h', AC k nn aa (L ++ [10]) 0 h0 h' → f (x * 2 + nn) h') : rCall E (d + 2) mAc_run [pR 32, pI 10, pI x, pI (nI D)] SH h (rPi SH f) := by
  refine vAc_run (br_t hA.2.2.2.2.1 (br_t (nI_le (b := 40) hD (by omega)) (c_note hA (fun h1 a1 => br_t rfl (⟨rfl, ?_⟩)))))
  rw [a1.2.1]
  exact H h1 a1
theorem c_run0 {b : Int32} (hA : AC k nn aa L 1 h0 h) (H : f 0 h) : rCall E (d + 1) mAc_run [pR 32, pI b, pI x, pI (nI D)] SH h (rPi SH f) :=
  vAc_run (br_f (by rw [hA.2.2.2.2.1]; decide) ⟨rfl, H⟩)
theorem c_run30 (hA : AC k nn aa L 0 h0 h) (hD : D ≤ 39) (H : ∀ h', AC k nn aa (L ++ [30] ++ [10]) 0 h0 h' → f (0 - (x * 2 + nn)) h') : rCall E (d + 4) mAc_run [pR 32, pI 30, pI x, pI (nI D)] SH h (rPi SH f) := by
  refine vAc_run (br_t hA.2.2.2.2.1 (br_t (nI_le (b := 40) (by omega) (by omega)) (c_note hA (fun h1 a1 => br_f (by decide) (br_f (by decide) (br_f (by decide) (br_f (by decide) (br_f (by decide) (br_t rfl (?_))))))))))
  rw [← nI_succ]
  exact c_inh (k := 2) (k' := 0) (a := 0) (by omega) rfl (by omega) (by omega) rfl (c_run10 a1 (by omega) (fun h2 a2 => ⟨rfl, rfl, H h2 a2⟩))
theorem c_run40 (hA : AC k nn aa L 0 h0 h) (hD : D ≤ 38) (H : ∀ h', AC k nn aa (L ++ [40] ++ [30] ++ [10]) 0 h0 h' → f ((0 - (x * 2 + nn)) ^^^ 5) h') : rCall E (d + 6) mAc_run [pR 32, pI 40, pI x, pI (nI D)] SH h (rPi SH f) := by
  refine vAc_run (br_t hA.2.2.2.2.1 (br_t (nI_le (b := 40) (by omega) (by omega)) (c_note hA (fun h1 a1 => br_f (by decide) (br_f (by decide) (br_f (by decide) (br_f (by decide) (br_f (by decide) (br_f (by decide) (br_f (by decide) (br_t rfl (?_))))))))))))
  rw [← nI_succ]
  exact c_inh (k := 4) (k' := 2) (a := 0) (by omega) rfl (by omega) (by omega) rfl (c_run30 a1 (by omega) (fun h2 a2 => ⟨rfl, rfl, H h2 a2⟩))
theorem c_run51 (hA : AC k nn aa L 0 h0 h) (hD : D ≤ 39) (H : ∀ h', AC k nn aa (L ++ [51] ++ [10]) 0 h0 h' → f (x * 2 + nn - nn) h') : rCall E (d + 4) mAc_run [pR 32, pI 51, pI x, pI (nI D)] SH h (rPi SH f) := by
  refine vAc_run (br_t hA.2.2.2.2.1 (br_t (nI_le (b := 40) (by omega) (by omega)) (c_note hA (fun h1 a1 => br_f (by decide) (br_f (by decide) (br_f (by decide) (br_f (by decide) (br_f (by decide) (br_f (by decide) (br_f (by decide) (br_f (by decide) (br_f (by decide) (br_f (by decide) (br_t rfl (?_)))))))))))))))
  rw [← nI_succ]
  refine c_inh (k := 3) (k' := 1) (a := 0) (by omega) rfl (by omega) (by omega) rfl (c_run10 a1 (by omega) (fun h2 a2 => ⟨rfl, rfl, ?_⟩))
  rw [a2.2.1]
  exact H h2 a2
theorem c_sinks (hA : AC k nn aa L 0 h0 h) (hk : k < 6) (hD : D ≤ 38) (H : ∀ h', AC k nn aa (kL k L) 0 h0 h' → f (kV k nn x) h') : rCall E (d + 7) mAc_own [pR 32, pI 0, pI x, pI (nI D)] SH h (rPi SH f) := by
  rcases (by omega : k = 0 ∨ k = 1 ∨ k = 2 ∨ k = 3 ∨ k = 4 ∨ k = 5) with rfl | rfl | rfl | rfl | rfl | rfl
  · exact c_own (a := 0) hA (by omega) (by omega) rfl (c_run10 hA (by omega) (fun h2 a2 => ⟨rfl, H h2 a2⟩))
  · exact c_own (a := 0) hA (by omega) (by omega) rfl (c_run10 hA (by omega) (fun h2 a2 => ⟨rfl, H h2 a2⟩))
  · exact c_own (a := 0) hA (by omega) (by omega) rfl (c_run30 hA (by omega) (fun h2 a2 => ⟨rfl, H h2 a2⟩))
  · exact c_own (a := 0) hA (by omega) (by omega) rfl (c_run51 hA (by omega) (fun h2 a2 => ⟨rfl, H h2 a2⟩))
  · exact c_own (a := 0) hA (by omega) (by omega) rfl (c_run40 hA (by omega) (fun h2 a2 => ⟨rfl, H h2 a2⟩))
  · exact c_own (a := 0) hA (by omega) (by omega) rfl (c_run10 hA (by omega) (fun h2 a2 => ⟨rfl, H h2 a2⟩))
theorem c_run11 (hA : AC k nn aa L 0 h0 h) (hk : k < 6) (hD : D ≤ 37) (H : ∀ h', AC k nn aa (kL k (L ++ [11])) 0 h0 h' → f (kV k nn x * 3 - aa) h') : rCall E (d + 8) mAc_run [pR 32, pI 11, pI x, pI (nI D)] SH h (rPi SH f) := by
  refine vAc_run (br_t hA.2.2.2.2.1 (br_t (nI_le (b := 40) (by omega) (by omega)) (c_note hA (fun h1 a1 => br_f (by decide) (br_t rfl (?_))))))
  rw [← nI_succ]
  refine c_sinks a1 hk (by omega) (fun h2 a2 => ⟨rfl, ?_⟩)
  rw [a2.2.2.2.1]
  exact H h2 a2
theorem c_run20 (hA : AC k nn aa L 0 h0 h) (hk : k < 6) (hD : D ≤ 36) (H : ∀ h', AC k nn aa (kL k (L ++ [20] ++ [11])) 0 h0 h' → f (kV k nn x * 3 - aa + 8) h') : rCall E (d + 10) mAc_run [pR 32, pI 20, pI x, pI (nI D)] SH h (rPi SH f) := by
  refine vAc_run (br_t hA.2.2.2.2.1 (br_t (nI_le (b := 40) (by omega) (by omega)) (c_note hA (fun h1 a1 => br_f (by decide) (br_f (by decide) (br_f (by decide) (br_f (by decide) (br_t rfl (?_)))))))))
  rw [← nI_succ]
  exact c_inh (k := 1) (k' := 0) (a := 1) (by omega) rfl (by omega) (by omega) rfl (c_run11 a1 hk (by omega) (fun h2 a2 => ⟨rfl, rfl, H h2 a2⟩))
theorem c_run41 (hA : AC k nn aa L 0 h0 h) (hk : k < 6) (hD : D ≤ 36) (H : ∀ h', AC k nn aa (kL k (kL k (L ++ [41] ++ [11]))) 0 h0 h' → f (kV k nn x * 3 - aa - kV k nn aa) h') : rCall E (d + 10) mAc_run [pR 32, pI 41, pI x, pI (nI D)] SH h (rPi SH f) := by
  refine vAc_run (br_t hA.2.2.2.2.1 (br_t (nI_le (b := 40) (by omega) (by omega)) (c_note hA (fun h1 a1 => br_f (by decide) (br_f (by decide) (br_f (by decide) (br_f (by decide) (br_f (by decide) (br_f (by decide) (br_f (by decide) (br_f (by decide) (br_t rfl (?_)))))))))))))
  rw [← nI_succ]
  refine c_inh (k := 4) (k' := 2) (a := 1) (by omega) rfl (by omega) (by omega) rfl (c_run11 a1 hk (by omega) (fun h2 a2 => ⟨rfl, ?_⟩))
  dsimp only
  rw [a2.2.2.2.1]
  exact c_sinks a2 hk (by omega) (fun h3 a3 => ⟨rfl, H h3 a3⟩)
theorem c_shows (hA : AC k nn aa L 0 h0 h) (hk : k < 6) (hD : D ≤ 36) (H : ∀ h', AC k nn aa (jL k L) 0 h0 h' → f (jV k nn aa x) h') : rCall E (d + 11) mAc_own [pR 32, pI 1, pI x, pI (nI D)] SH h (rPi SH f) := by
  rcases (by omega : k = 0 ∨ k = 1 ∨ k = 2 ∨ k = 3 ∨ k = 4 ∨ k = 5) with rfl | rfl | rfl | rfl | rfl | rfl
  · exact c_own (a := 1) hA (by omega) (by omega) rfl (c_run11 hA (by omega) (by omega) (fun h2 a2 => ⟨rfl, H h2 a2⟩))
  · exact c_own (a := 1) hA (by omega) (by omega) rfl (c_run20 hA (by omega) (by omega) (fun h2 a2 => ⟨rfl, H h2 a2⟩))
  · exact c_own (a := 1) hA (by omega) (by omega) rfl (c_run11 hA (by omega) (by omega) (fun h2 a2 => ⟨rfl, H h2 a2⟩))
  · exact c_own (a := 1) hA (by omega) (by omega) rfl (c_run20 hA (by omega) (by omega) (fun h2 a2 => ⟨rfl, H h2 a2⟩))
  · exact c_own (a := 1) hA (by omega) (by omega) rfl (c_run41 hA (by omega) (by omega) (fun h2 a2 => ⟨rfl, H h2 a2⟩))
  · exact c_own (a := 1) hA (by omega) (by omega) rfl (c_run11 hA (by omega) (by omega) (fun h2 a2 => ⟨rfl, H h2 a2⟩))
/-- a part by 0, and none -/
theorem c_run12 (hA : AC k nn aa L 0 h0 h) (hD : D ≤ 40) (H : (nn = aa → ∀ h', AC k nn aa (L ++ [12]) 1 h0 h' → f 0 h') ∧ (¬ nn = aa → ∀ h', AC k nn aa (L ++ [12]) 0 h0 h' → f (x / (aa - nn)) h')) : rCall E (d + 2) mAc_run [pR 32, pI 12, pI x, pI (nI D)] SH h (rPi SH f) := by
  refine vAc_run (br_t hA.2.2.2.2.1 (br_t (nI_le (b := 40) hD (by omega)) (c_note hA (fun h1 a1 => br_f (by decide) (br_f (by decide) (br_t rfl (vAc_part ?_)))))))
  rw [a1.2.1, a1.2.2.2.1, sub0]
  refine ⟨fun e => ⟨rfl, rfl, H.1 e _ ?_⟩, fun e => ⟨e, rfl, rfl, H.2 e h1 a1⟩⟩
  obtain ⟨h1, h2, h3, h4, h5, h6, h7⟩ := a1
  refine ⟨fun b hb => (rUp_o hb.1).trans (h1 b hb), ?_, ?_, ?_, ?_, ?_, fun j hj => ?_⟩
  · rw [rUp_a, sW_ne (by omega)]; exact h2
  · rw [rUp_a, sW_ne (by omega)]; exact h3
  · rw [rUp_a, sW_ne (by omega)]; exact h4
  · rw [rUp_a, sW_eq]
  · rw [rUp_a, sW_ne (by omega)]; exact h6
  · rw [rUp_o (by omega)]; exact h7 j hj
theorem c_run50 (hA : AC k nn aa L 0 h0 h) (hD : D ≤ 39) (H : (nn = aa → ∀ v h', AC k nn aa (L ++ [50] ++ [12]) 1 h0 h' → f v h') ∧ (¬ nn = aa → ∀ h', AC k nn aa (L ++ [50] ++ [12]) 0 h0 h' → f ((x + 9) / (aa - nn) * 2) h')) : rCall E (d + 4) mAc_run [pR 32, pI 50, pI x, pI (nI D)] SH h (rPi SH f) := by
  refine vAc_run (br_t hA.2.2.2.2.1 (br_t (nI_le (b := 40) (by omega) (by omega)) (c_note hA (fun h1 a1 => br_f (by decide) (br_f (by decide) (br_f (by decide) (br_f (by decide) (br_f (by decide) (br_f (by decide) (br_f (by decide) (br_f (by decide) (br_f (by decide) (br_t rfl (?_))))))))))))))
  rw [← nI_succ]
  exact c_inh (k := 3) (k' := 1) (a := 2) (by omega) rfl (by omega) (by omega) rfl (c_run12 a1 (by omega) ⟨fun e h2 a2 => ⟨rfl, rfl, H.1 e _ h2 a2⟩, fun e h2 a2 => ⟨rfl, rfl, H.2 e h2 a2⟩⟩)
theorem c_run61 (hA : AC 5 nn aa L 0 h0 h) (hD : D ≤ 36) (H : (nn = aa → ∀ v h', AC 5 nn aa (L ++ [61] ++ [12]) 1 h0 h' → f v h') ∧ (¬ nn = aa → ∀ h', AC 5 nn aa (kL 5 (L ++ [61] ++ [12])) 0 h0 h' → f ((x / (aa - nn)) ^^^ kV 5 nn nn) h')) : rCall E (d + 8) mAc_run [pR 32, pI 61, pI x, pI (nI D)] SH h (rPi SH f) := by
  refine vAc_run (br_t hA.2.2.2.2.1 (br_t (nI_le (b := 40) (by omega) (by omega)) (c_note hA (fun h1 a1 => br_f (by decide) (br_f (by decide) (br_f (by decide) (br_f (by decide) (br_f (by decide) (br_f (by decide) (br_f (by decide) (br_f (by decide) (br_f (by decide) (br_f (by decide) (br_f (by decide) (br_f (by decide) (br_t rfl (?_)))))))))))))))))
  rw [← nI_succ]
  refine c_inh (k := 5) (k' := 0) (a := 2) (by omega) rfl (by omega) (by omega) rfl (c_run12 a1 (by omega) ⟨fun e h2 a2 => ⟨rfl, ?_⟩, fun e h2 a2 => ⟨rfl, ?_⟩⟩)
  · exact c_own (a := 0) a2 (by omega) (by omega) rfl (c_run0 a2 ⟨rfl, rfl, H.1 e _ h2 a2⟩)
  · dsimp only
    rw [a2.2.1]
    exact c_sinks a2 (by omega) (by omega) (fun h3 a3 => ⟨rfl, H.2 e h3 a3⟩)
theorem pLs5 {nn aa : Int32} {L : List Int32} : (nn = aa → pLs 5 nn aa L = L ++ [61] ++ [12]) ∧ (¬ nn = aa → pLs 5 nn aa L = kL 5 (L ++ [61] ++ [12])) := by
  unfold pLs
  rw [if_neg (by decide), if_pos rfl]
  exact ⟨fun e => if_pos e, fun e => if_neg e⟩
theorem c_parts (hA : AC k nn aa L 0 h0 h) (hk : k < 6) (hD : D ≤ 36) (H : (nn = aa → ∀ v h', AC k nn aa (pLs k nn aa L) 1 h0 h' → f v h') ∧ (¬ nn = aa → ∀ h', AC k nn aa (pLs k nn aa L) 0 h0 h' → f (pVs k nn aa x) h')) : rCall E (d + 9) mAc_own [pR 32, pI 2, pI x, pI (nI D)] SH h (rPi SH f) := by
  rcases (by omega : k = 0 ∨ k = 1 ∨ k = 2 ∨ k = 3 ∨ k = 4 ∨ k = 5) with rfl | rfl | rfl | rfl | rfl | rfl
  · exact c_own (a := 2) hA (by omega) (by omega) rfl (c_run12 hA (by omega) ⟨fun e h2 a2 => ⟨rfl, H.1 e _ h2 a2⟩, fun e h2 a2 => ⟨rfl, H.2 e h2 a2⟩⟩)
  · exact c_own (a := 2) hA (by omega) (by omega) rfl (c_run12 hA (by omega) ⟨fun e h2 a2 => ⟨rfl, H.1 e _ h2 a2⟩, fun e h2 a2 => ⟨rfl, H.2 e h2 a2⟩⟩)
  · exact c_own (a := 2) hA (by omega) (by omega) rfl (c_run12 hA (by omega) ⟨fun e h2 a2 => ⟨rfl, H.1 e _ h2 a2⟩, fun e h2 a2 => ⟨rfl, H.2 e h2 a2⟩⟩)
  · exact c_own (a := 2) hA (by omega) (by omega) rfl (c_run50 hA (by omega) ⟨fun e v h2 a2 => ⟨rfl, H.1 e v h2 a2⟩, fun e h2 a2 => ⟨rfl, H.2 e h2 a2⟩⟩)
  · exact c_own (a := 2) hA (by omega) (by omega) rfl (c_run12 hA (by omega) ⟨fun e h2 a2 => ⟨rfl, H.1 e _ h2 a2⟩, fun e h2 a2 => ⟨rfl, H.2 e h2 a2⟩⟩)
  · refine c_own (a := 2) hA (by omega) (by omega) rfl (c_run61 hA (by omega) ⟨fun e v h2 a2 => ⟨rfl, H.1 e v h2 ?_⟩, fun e h2 a2 => ⟨rfl, H.2 e h2 ?_⟩⟩)
    · rw [pLs5.1 e]; exact a2
    · rw [pLs5.2 e]; exact a2
theorem c_run13 (hA : AC k nn aa L 0 h0 h) (hk : k < 6) (hD : D ≤ 35) (H : ∀ h', AC k nn aa (jL k (L ++ [13])) 0 h0 h' → f (jV k nn aa x ^^^ 70) h') : rCall E (d + 12) mAc_run [pR 32, pI 13, pI x, pI (nI D)] SH h (rPi SH f) := by
  refine vAc_run (br_t hA.2.2.2.2.1 (br_t (nI_le (b := 40) (by omega) (by omega)) (c_note hA (fun h1 a1 => br_f (by decide) (br_f (by decide) (br_f (by decide) (br_t rfl (?_))))))))
  rw [← nI_succ]
  exact c_shows a1 hk (by omega) (fun h2 a2 => ⟨rfl, H h2 a2⟩)
theorem c_run31 (hA : AC k nn aa L 0 h0 h) (hk : k < 6) (hD : D ≤ 34) (H : (nn = aa → ∀ v h', AC k nn aa (pLs k nn aa (jL k (L ++ [31] ++ [13]))) 1 h0 h' → f v h') ∧ (¬ nn = aa → ∀ h', AC k nn aa (pLs k nn aa (jL k (L ++ [31] ++ [13]))) 0 h0 h' → f ((jV k nn aa x ^^^ 70) - pVs k nn aa nn) h')) : rCall E (d + 14) mAc_run [pR 32, pI 31, pI x, pI (nI D)] SH h (rPi SH f) := by
  refine vAc_run (br_t hA.2.2.2.2.1 (br_t (nI_le (b := 40) (by omega) (by omega)) (c_note hA (fun h1 a1 => br_f (by decide) (br_f (by decide) (br_f (by decide) (br_f (by decide) (br_f (by decide) (br_f (by decide) (br_t rfl (?_)))))))))))
  rw [← nI_succ]
  refine c_inh (k := 2) (k' := 0) (a := 3) (by omega) rfl (by omega) (by omega) rfl (c_run13 a1 hk (by omega) (fun h2 a2 => ⟨rfl, ?_⟩))
  dsimp only
  rw [a2.2.1]
  exact c_parts a2 hk (by omega) ⟨fun e v h3 a3 => ⟨rfl, H.1 e _ h3 a3⟩, fun e h3 a3 => ⟨rfl, H.2 e h3 a3⟩⟩
theorem c_run60 (hA : AC k nn aa L 0 h0 h) (hk : k < 6) (hD : D ≤ 34) (H : ∀ h', AC k nn aa (jL k (L ++ [60] ++ [13])) 0 h0 h' → f ((jV k nn aa x ^^^ 70) + aa) h') : rCall E (d + 14) mAc_run [pR 32, pI 60, pI x, pI (nI D)] SH h (rPi SH f) := by
  refine vAc_run (br_t hA.2.2.2.2.1 (br_t (nI_le (b := 40) (by omega) (by omega)) (c_note hA (fun h1 a1 => br_f (by decide) (br_f (by decide) (br_f (by decide) (br_f (by decide) (br_f (by decide) (br_f (by decide) (br_f (by decide) (br_f (by decide) (br_f (by decide) (br_f (by decide) (br_f (by decide) (br_t rfl (?_))))))))))))))))
  rw [← nI_succ]
  refine c_inh (k := 5) (k' := 0) (a := 3) (by omega) rfl (by omega) (by omega) rfl (c_run13 a1 hk (by omega) (fun h2 a2 => ⟨rfl, rfl, ?_⟩))
  rw [a2.2.2.2.1]
  exact H h2 a2
theorem c_asks (hA : AC k nn aa L 0 h0 h) (hk : k < 6) (hD : D ≤ 34) (H : (nn = aa ∧ (k = 2 ∨ k = 4) → ∀ v h', AC k nn aa (aLs k nn aa L) 1 h0 h' → f v h') ∧ (¬ (nn = aa ∧ (k = 2 ∨ k = 4)) → ∀ h', AC k nn aa (aLs k nn aa L) 0 h0 h' → f (aVs k nn aa x) h')) : rCall E (d + 15) mAc_own [pR 32, pI 3, pI x, pI (nI D)] SH h (rPi SH f) := by
  rcases (by omega : k = 0 ∨ k = 1 ∨ k = 2 ∨ k = 3 ∨ k = 4 ∨ k = 5) with rfl | rfl | rfl | rfl | rfl | rfl
  · exact c_own (a := 3) hA (by omega) (by omega) rfl (c_run13 hA (by omega) (by omega) (fun h2 a2 => ⟨rfl, H.2 (fun q => by omega) h2 a2⟩))
  · exact c_own (a := 3) hA (by omega) (by omega) rfl (c_run13 hA (by omega) (by omega) (fun h2 a2 => ⟨rfl, H.2 (fun q => by omega) h2 a2⟩))
  · exact c_own (a := 3) hA (by omega) (by omega) rfl (c_run31 hA (by omega) (by omega) ⟨fun e v h2 a2 => ⟨rfl, H.1 ⟨e, Or.inl rfl⟩ v h2 a2⟩, fun e h2 a2 => ⟨rfl, H.2 (fun q => e q.1) h2 a2⟩⟩)
  · exact c_own (a := 3) hA (by omega) (by omega) rfl (c_run13 hA (by omega) (by omega) (fun h2 a2 => ⟨rfl, H.2 (fun q => by omega) h2 a2⟩))
  · exact c_own (a := 3) hA (by omega) (by omega) rfl (c_run31 hA (by omega) (by omega) ⟨fun e v h2 a2 => ⟨rfl, H.1 ⟨e, Or.inr rfl⟩ v h2 a2⟩, fun e h2 a2 => ⟨rfl, H.2 (fun q => e q.1) h2 a2⟩⟩)
  · exact c_own (a := 3) hA (by omega) (by omega) rfl (c_run60 hA (by omega) (by omega) (fun h2 a2 => ⟨rfl, H.2 (fun q => by omega) h2 a2⟩))
end
