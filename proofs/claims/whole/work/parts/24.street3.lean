def spk (σ : Nat → Int32) (o : Nat) : Int32 :=
  if σ (10 + 5 * o) = 1 then σ (11 + 5 * o) / 10 + σ 6
  else if σ (10 + 5 * o) = 2 then σ (11 + 5 * o) / 10 - σ 7
  else if σ (10 + 5 * o) = 3 then (σ (11 + 5 * o) / 10 + σ 6) * 2
  else if σ (10 + 5 * o) = 4 then σ (11 + 5 * o) / 10 - σ 7 + σ (12 + 5 * o)
  else if σ (10 + 5 * o) = 5 then (if σ 1 - σ 1 / 3 * 3 = 0 then σ (11 + 5 * o) / 10 else -σ (12 + 5 * o))
  else σ (11 + 5 * o) / 10
def hid (σ : Nat → Int32) (n o : Nat) : Int32 :=
  if σ (10 + 5 * o) = 1 then 2 else if σ (10 + 5 * o) = 2 then 0 else if σ (10 + 5 * o) = 3 then 2 + σ (12 + 5 * o)
  else if σ (10 + 5 * o) = 4 then 2 else if σ (10 + 5 * o) = 5 then 1 + nI (pc (nAbv σ n o)) else 1
/-- the digging of one year: at most so many, with so much strength left -/
def sDg (n : Nat) : Nat → Int32 → (Nat → Int32) → (Nat → Int32)
  | 0, _, σ => σ
  | m + 1, g, σ => if qTop σ (σ 3) n = 8 then σ else if hid σ n (qTop σ (σ 3) n) ≤ g then
      sDg n m (g - hid σ n (qTop σ (σ 3) n)) (sW (sW σ 4 (wit (σ 4 + spk σ (qTop σ (σ 3) n)))) (13 + 5 * qTop σ (σ 3) n) 6) else σ
def sGo (n : Nat) (σ : Nat → Int32) : Nat → Int32 :=
  sW (sW (sDg n 8 (σ 5) σ) 3 (sDg n 8 (σ 5) σ 3 + 1 - (sDg n 8 (σ 5) σ 3 + 1) / 6 * 6)) 1 (sDg n 8 (σ 5) σ 1 + 1)
/-- all that stands outside a street stays -/
def Fr (t : Nat) (h h' : rHp) : Prop := ∀ b, (b < 7*t+1 ∨ 7*t+7 < b) → h' b = h b
theorem Fr_refl {t : Nat} {h : rHp} : Fr t h h := fun _ _ => rfl
theorem Fr_tr {t : Nat} {h h' h2 : rHp} (a : Fr t h h') (b : Fr t h' h2) : Fr t h h2 := fun c hc => (b c hc).trans (a c hc)
theorem Fr_up {t a j : Nat} {x : Int32} {h h' : rHp} (k : Fr t h h') (h1 : 7*t+1 ≤ a) (h2 : a ≤ 7*t+7) : Fr t h (rUp h' a j x) := fun b hb => by
  rw [rUp_o (by omega)]
  exact k b hb
theorem Wf_dug {B n o : Nat} {σ : Nat → Int32} {x : Int32} (hW : Wf B n σ) : Wf B n (sW (sW σ 4 x) (13 + 5 * o) 6) := by
  obtain ⟨h1, h2, h3, ⟨L, hL, hL2, hg⟩, h5, h6, h7⟩ := hW
  refine ⟨h1, ?_, ?_, ⟨L, hL, ?_, ?_⟩, ?_, ?_, ?_⟩
  · rw [sW_ne (by omega), sW_ne (by omega)]; exact h2
  · rw [sW_ne (by omega), sW_ne (by omega)]; exact h3
  · rw [sW_ne (by omega), sW_ne (by omega)]; exact hL2
  · intro i hi; rw [sW_ne (by omega), sW_ne (by omega)]; exact hg i hi
  · intro i hi; rw [sW_ne (by omega), sW_ne (by omega)]; exact h5 i hi
  · intro i hi
    by_cases e : i = o
    · subst e; rw [sW_eq]; exact ⟨6, by omega, rfl⟩
    · rw [sW_ne (by omega), sW_ne (by omega)]; exact h6 i hi
  · rw [sW_ne (by omega), sW_ne (by omega)]; exact h7
theorem Wf_sDg {B n : Nat} : ∀ (m : Nat) (g : Int32) (σ : Nat → Int32), Wf B n σ → Wf B n (sDg n m g σ)
  | 0, _, _, h => h
  | m + 1, g, σ, h => by
    unfold sDg
    split
    · exact h
    · split
      · exact Wf_sDg m _ _ (Wf_dug h)
      · exact h
theorem q6 : ∀ p, p < 6 → nI p + 1 - (nI p + 1) / 6 * 6 = nI ((p + 1) % 6) := by decide +kernel
theorem Wf_sGo {B n : Nat} {σ : Nat → Int32} (h : Wf B n σ) : Wf B n (sGo n σ) := by
  have hW := Wf_sDg 8 (σ 5) σ h
  obtain ⟨h1, h2, ⟨p, hp, hp2⟩, ⟨L, hL, hL2, hg⟩, h5, h6, h7⟩ := hW
  refine ⟨h1, ?_, ⟨(p + 1) % 6, Nat.mod_lt _ (by omega), ?_⟩, ⟨L, hL, ?_, ?_⟩, ?_, ?_, ?_⟩ <;> unfold sGo
  · rw [sW_ne (by omega), sW_ne (by omega)]; exact h2
  · rw [sW_ne (by omega), sW_eq, hp2]; exact q6 p hp
  · rw [sW_ne (by omega), sW_ne (by omega)]; exact hL2
  · intro i hi; rw [sW_ne (by omega), sW_ne (by omega)]; exact hg i hi
  · intro i hi; rw [sW_ne (by omega), sW_ne (by omega)]; exact h5 i hi
  · intro i hi; rw [sW_ne (by omega), sW_ne (by omega)]; exact h6 i hi
  · rw [sW_ne (by omega), sW_ne (by omega)]; exact h7
section
variable {E : rE} {d B t n : Nat} {σ : Nat → Int32} {h : rHp} {f : Int32 → rHp → Prop}
theorem c_held {v : Int32} (H : f (wit v) h) : rCall E (d + 1) mLa_held [pI v, pI 99] SH h (rPi SH f) := by
  refine vLa_held ⟨rfl, ?_⟩
  have e : (if (0:Int32) < (if v < 99 then v else 99) then (if v < 99 then v else 99) else (0:Int32)) = wit v := by
    have L : ∀ a b : Int32, a < b ↔ a.toInt < b.toInt := fun a b => Int32.lt_iff_toInt_lt
    have e0 : (0:Int32).toInt = 0 := by decide
    have e99 : (99:Int32).toInt = 99 := by decide
    unfold wit
    by_cases c : v < 99
    · have c' := (L _ _).1 c
      rw [e99] at c'
      simp only [if_pos c]
      have h99 : ¬ 99 < v := fun q => by
        have q' := (L _ _).1 q
        rw [e99] at q'
        omega
      by_cases c0 : v < 0
      · have h0 : ¬ 0 < v := fun q => by
          have q' := (L _ _).1 q
          have c1 := (L _ _).1 c0
          rw [e0] at q' c1
          omega
        rw [if_neg h0, if_pos c0]
      · rw [if_neg c0, if_neg h99]
        by_cases c1 : 0 < v
        · rw [if_pos c1]
        · rw [if_neg c1]
          rw [L, e0] at c0 c1
          exact Int32.toInt_inj.1 (by rw [e0]; omega)
    · have c' : ¬ v.toInt < 99 := fun q => c ((L _ _).2 (by rw [e99]; exact q))
      have c0 : ¬ v < 0 := fun q => by
        have q' := (L _ _).1 q
        rw [e0] at q'
        omega
      simp only [if_neg c]
      rw [if_pos (by decide), if_neg c0]
      by_cases c1 : 99 < v
      · rw [if_pos c1]
      · rw [if_neg c1]
        rw [L, e99] at c1
        exact Int32.toInt_inj.1 (by rw [e99]; omega)
  rw [e]
  exact H
theorem c_speaking {o : Nat} (ht : t < 3) (hW : Wf B n σ) (hS : St t n σ h) (ho : o < n) (H : f (spk σ o) h) : rCall E (d + 1) mSt_speaking [pR (7*t+1), pI (nI o)] SH h (rPi SH f) := by
  have hn := hW.1.1
  have vo : vp_in (nI o) 8 := vp_in_nI (by omega) (by omega)
  have co : (nI o).toNatClampNeg = o := nI_clamp (by omega)
  have l1 : h (7*t+7) 1 = σ 6 := St_l hS (by omega)
  have l2 : h (7*t+7) 2 = σ 7 := St_l hS (by omega)
  apply vSt_speaking ht
  rw [co, St_k hS ho, St_w hS ho, St_u hS ho, l1, l2, St_y hS]
  unfold spk at H
  refine ⟨vo, vo, fun e => ⟨rfl, ?_⟩, fun e1 => ⟨fun e => ⟨rfl, ?_⟩, fun e2 => ⟨fun e => ⟨rfl, ?_⟩, fun e3 => ⟨fun e => ⟨vo, rfl, ?_⟩, fun e4 => ⟨fun e => ⟨fun y => ⟨rfl, ?_⟩, fun y => ⟨vo, rfl, ?_⟩⟩, fun e => ⟨rfl, ?_⟩⟩⟩⟩⟩⟩
  · rwa [if_pos e] at H
  · rwa [if_neg e1, if_pos e] at H
  · rwa [if_neg e1, if_neg e2, if_pos e] at H
  · rwa [if_neg e1, if_neg e2, if_neg e3, if_pos e] at H
  · rwa [if_neg e1, if_neg e2, if_neg e3, if_neg e4, if_pos e, if_pos y] at H
  · rwa [if_neg e1, if_neg e2, if_neg e3, if_neg e4, if_pos e, if_neg y] at H
  · rwa [if_neg e1, if_neg e2, if_neg e3, if_neg e4, if_neg e] at H
theorem c_hiding {o : Nat} (ht : t < 3) (hW : Wf B n σ) (hS : St t n σ h) (ho : o < n) (H : f (hid σ n o) h) : rCall E (d + 2) mSt_hiding [pR (7*t+1), pI (nI o)] SH h (rPi SH f) := by
  have hn := hW.1.1
  have vo : vp_in (nI o) 8 := vp_in_nI (by omega) (by omega)
  have co : (nI o).toNatClampNeg = o := nI_clamp (by omega)
  apply vSt_hiding ht
  rw [co, St_k hS ho, St_u hS ho]
  unfold hid at H
  refine ⟨vo, fun e => ⟨rfl, ?_⟩, fun e1 => ⟨fun e => ⟨rfl, ?_⟩, fun e2 => ⟨fun e => ⟨vo, rfl, ?_⟩, fun e3 => ⟨fun e => ⟨rfl, ?_⟩, fun e4 => ⟨fun e => ?_, fun e => ⟨rfl, ?_⟩⟩⟩⟩⟩⟩
  · rwa [if_pos e] at H
  · rwa [if_neg e1, if_pos e] at H
  · rwa [if_neg e1, if_neg e2, if_pos e] at H
  · rwa [if_neg e1, if_neg e2, if_neg e3, if_pos e] at H
  · rw [if_neg e1, if_neg e2, if_neg e3, if_neg e4, if_pos e] at H
    exact c_setAbove ht hW hS ho (c_bit (Nat.lt_of_lt_of_le (nAbv_lt σ n o) (q2 hn)) ⟨rfl, H⟩)
  · rwa [if_neg e1, if_neg e2, if_neg e3, if_neg e4, if_neg e] at H
end
theorem c_dig9 {E : rE} {d B t n : Nat} (ht : t < 3) {f : rHp → Prop} : ∀ (m i : Nat) (_ : i + m = 8) (g : Int32) (σ : Nat → Int32) (h : rHp) (o3 o4 : Option Int32) (_ : Wf B n σ) (_ : St t n σ h)
    (_ : ∀ h', St t n (sDg n m g σ) h' → Fr t h h' → f h'), rR E (rCall E (d + 2)) mSt_dig (rPn SH f) 9 [some (pR (7*t+1)), some (pI g), some (pI (nI i)), oI o3, oI o4] [] SH h 0 0 := by
  intro m
  induction m with
  | zero =>
    intro i hi g σ h o3 o4 hW hS H
    refine vSt_dig_9 ht ⟨fun _ => ⟨rfl, H h hS Fr_refl⟩, fun e => absurd ?_ e⟩
    rw [show i = 8 by omega]
    decide
  | succ m ih =>
    intro i hi g σ h o3 o4 hW hS H
    have hn := hW.1.1
    refine vSt_dig_9 ht ⟨fun e => absurd e (nI_ge (a := i) (b := 8) (by omega) (by omega)), fun _ => ?_⟩
    rw [St_a hS]
    refine c_uppermost ht hW hS ⟨fun e => ⟨rfl, ?_⟩, fun e => ?_⟩
    · have e8 : qTop σ (σ 3) n = 8 := by
        rcases qTop_lt σ (σ 3) n with q | q
        · exact q
        · exact (nI_eq (by omega) (by omega)).1 e
      unfold sDg at H
      rw [if_pos e8] at H
      exact H h hS Fr_refl
    · have e8 : ¬ qTop σ (σ 3) n = 8 := fun q => e (by rw [q]; rfl)
      have ho : qTop σ (σ 3) n < n := (qTop_lt σ (σ 3) n).resolve_left e8
      unfold sDg at H
      rw [if_neg e8] at H
      refine c_hiding ht hW hS ho ⟨fun e2 => ?_, fun e2 => ⟨rfl, ?_⟩⟩
      · rw [if_pos e2] at H
        refine c_speaking ht hW hS ho (c_held ⟨vp_in_nI (by omega) (by omega), ?_⟩)
        rw [St_o hS, nI_clamp (by omega), ← nI_succ]
        refine ih (i + 1) (by omega) _ (sW (sW σ 4 (wit (σ 4 + spk σ (qTop σ (σ 3) n)))) (13 + 5 * qTop σ (σ 3) n) 6) _ (some _) (some _) (Wf_dug hW) ?_ ?_
        · show AG _ (vS t _) _
          rw [vS_up_p, vS_up_4]
          exact AG_w (AG_w hS)
        · intro h' a b
          exact H h' a (Fr_tr (Fr_up (Fr_up Fr_refl (by omega) (by omega)) (by omega) (by omega)) b)
      · rw [if_neg e2] at H
        exact H h hS Fr_refl
section
variable {E : rE} {d B t n : Nat} {σ : Nat → Int32} {h : rHp} {f : rHp → Prop}
theorem c_dig (ht : t < 3) (hW : Wf B n σ) (hS : St t n σ h) (H : ∀ h', St t n (sDg n 8 (σ 5) σ) h' → Fr t h h' → f h') : rCall E (d + 3) mSt_dig [pR (7*t+1)] SH h (rPn SH f) := by
  apply vSt_dig ht
  rw [St_l hS (i := 0) (by omega)]
  exact c_dig9 ht 8 0 rfl (σ 5) σ h none none hW hS H
theorem c_passYear (ht : t < 3) (hW : Wf B n σ) (hS : St t n σ h) (H : ∀ h', St t n (sGo n σ) h' → Fr t h h' → f h') : rCall E (d + 4) mSt_passYear [pR (7*t+1)] SH h (rPn SH f) := by
  apply vSt_passYear ht
  refine c_dig ht hW hS (fun h' a b => ⟨rfl, H _ ?_ (Fr_up (Fr_up b (by omega) (by omega)) (by omega) (by omega))⟩)
  show AG _ (vS t _) _
  rw [vS_up_1, vS_up_3, St_a a, St_y a]
  exact AG_w (AG_w a)
end
