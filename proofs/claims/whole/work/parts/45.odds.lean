/-! odds, hope, bytes -/
theorem Wf_slip {B n : Nat} {σ : Nat → Int32} (hW : Wf B n σ) : ∃ s, s ≤ 99 ∧ σ 8 = nI s := hW.2.2.2.2.2.2
def TwoL (E : rE) (B : Nat) (h : rHp) (Mc Mm : rM) (as : List rPV) : Prop := rCall E 40 Mc (pR 0 :: as) SH h (rPl SH (fun x h1 => rCall E 40 Mm (pR 35 :: as) SH h1 (rPl SH (fun y h2 => x = y ∧ Rel (B + 1) h2))))
theorem twoL_no {E : rE} {B : Nat} {h : rHp} {Mc Mm : rM} {as : List rPV} (hB : B + 1 < 1000000) (hR : Rel B h) (a : Int64)
    (hc : ∀ f : Int64 → rHp → Prop, f a h → rCall E 40 Mc (pR 0 :: as) SH h (rPl SH f))
    (hm : ∀ f : Int64 → rHp → Prop, f a h → rCall E 40 Mm (pR 35 :: as) SH h (rPl SH f)) : TwoL E B h Mc Mm as := by
  obtain ⟨⟨n, σ, hW, hS, hM⟩, hr⟩ := hR
  exact hc _ (hm _ ⟨rfl, ⟨n, σ, Wf_le hW (by omega) hB, hS, hM⟩, Rest_far hB hr (fun _ _ => rfl)⟩)
def wN (n k : Nat) : Nat → Nat
  | 0 => 1
  | i + 1 => wN n k i * (n - k + (i + 1)) / (i + 1)
def fN : Nat → Nat
  | 0 => 1
  | m + 1 => fN m * (m + 1)
theorem wN_b : ∀ n, n ≤ 8 → ∀ k, k ≤ n → ∀ i, i ≤ k → wN n k i ≤ 100 := by decide +kernel
theorem wN_f : ∀ n, n ≤ 8 → ∀ k, k ≤ n → fN n / fN k / fN (n - k) = wN n k k := by decide +kernel
theorem fN_b : ∀ n, n ≤ 8 → 0 < fN n ∧ fN n ≤ 40320 := by decide +kernel
theorem mod_half {r q : Nat} (h0 : 0 < q) (h : q ≤ r) : 2 * (r % q) < r := by
  have h1 := Nat.div_add_mod r q
  have h2 : 0 < r / q := Nat.div_pos h h0
  have h3 : q * 1 ≤ q * (r / q) := Nat.mul_le_mul_left q h2
  have h4 := Nat.mod_lt r h0
  omega
theorem gcd_step (c r : Nat) : Nat.gcd r (c % r) = Nat.gcd c r := by
  rw [Nat.gcd_comm r, ← Nat.gcd_rec, Nat.gcd_comm]
section
variable {E : rE} {d B n : Nat} {σ : Nat → Int32} {h : rHp} {f : Int64 → rHp → Prop} {fn : rHp → Prop}
theorem c_partOf {a b w : Nat} (ha : a < 2 ^ 63) (hb0 : 0 < b) (hb : b < 2 ^ 63) (hw : w ≤ 1) (H : f (lN ((if w = 0 then a else b) / Nat.gcd b a)) h) : rCall E (d + 1) mLa_partOf [pL (lN a), pL (lN b), pI (nI w)] SH h (rPl SH f) := by
  have fin : ∀ c, 0 < c → c < 2 ^ 63 → c = Nat.gcd b a → (lg_cmp (lN c) 0 = 0 → rPl SH f (some (pL (-1))) SH h) ∧ (¬ lg_cmp (lN c) 0 = 0 → (nI w = 0 → ¬ lN c = 0 ∧ rPl SH f (some (pL (lN a / lN c))) SH h) ∧ (¬ nI w = 0 → ¬ lN c = 0 ∧ rPl SH f (some (pL (lN b / lN c))) SH h)) := by
    intro c h0 hc e
    have c0 : ¬ lN c = 0 := fun q => absurd ((pk_lEQ (b := 0) hc (by omega)).1 q) (by omega)
    refine br_f (by rw [lg_cmp_eq]; exact c0) ⟨fun q => ⟨c0, rfl, ?_⟩, fun q => ⟨c0, rfl, ?_⟩⟩
    · rw [if_pos ((nI_eq (b := 0) (by omega) (by omega)).1 q), ← e] at H
      rw [pk_lDiv ha h0 hc]
      exact H
    · rw [if_neg (fun z => q (by rw [z]; rfl)), ← e] at H
      rw [pk_lDiv hb h0 hc]
      exact H
  apply vLa_partOf
  have go : ∀ (m c r i : Nat) (o10 : Option Int64), r < 2 ^ m → i + 2 * m < 1000 → 0 < c → c < 2 ^ 63 → r < 2 ^ 63 → Nat.gcd c r = Nat.gcd b a →
      rR E (rCall E d) mLa_partOf (rPl SH f) 9 [some (pL (lN a)), none, some (pL (lN b)), none, some (pI (nI w)), some (pL (lN c)), none, some (pL (lN r)), none, some (pI (nI i)), oL o10, none] [] SH h 0 0 := by
    intro m
    induction m with
    | zero =>
      intro c r i o10 hr hi h0 hc hr2 hg
      have : r = 0 := by omega
      subst this
      rw [Nat.gcd_zero_right] at hg
      exact vLa_partOf_9 (br_f (nI_ge (b := 1000) (by omega) (by omega)) (br_t ((lg_cmp_eq _ _).2 rfl) (fin c h0 hc hg)))
    | succ m ih =>
      intro c r i o10 hr hi h0 hc hr2 hg
      by_cases r0 : r = 0
      · subst r0
        rw [Nat.gcd_zero_right] at hg
        exact vLa_partOf_9 (br_f (nI_ge (b := 1000) (by omega) (by omega)) (br_t ((lg_cmp_eq _ _).2 rfl) (fin c h0 hc hg)))
      · have n0 : ¬ lN r = 0 := fun q => absurd ((pk_lEQ (b := 0) hr2 (by omega)).1 q) r0
        refine vLa_partOf_9 (br_f (nI_ge (b := 1000) (by omega) (by omega)) (br_f (by rw [lg_cmp_eq]; exact n0) ⟨n0, ?_⟩))
        rw [pk_lRem hc (by omega) hr2, ← nI_succ]
        have hm := Nat.mod_lt c (show r > 0 by omega)
        by_cases q0 : c % r = 0
        · rw [q0]
          have hg2 := gcd_step c r
          rw [q0, Nat.gcd_zero_right] at hg2
          exact vLa_partOf_9 (v7 := lN 0) (v9 := nI (i + 1)) (o10 := some (lN 0)) (br_f (nI_ge (a := i + 1) (b := 1000) (by omega) (by omega)) (br_t ((lg_cmp_eq _ _).2 rfl) (fin r (by omega) hr2 (hg2.trans hg))))
        · have n1 : ¬ lN (c % r) = 0 := fun q => absurd ((pk_lEQ (b := 0) (by omega) (by omega)).1 q) q0
          have hh := mod_half (r := r) (q := c % r) (by omega) (by omega)
          have e2 : 2 ^ (m + 1) = 2 * 2 ^ m := by rw [Nat.pow_succ]; omega
          refine vLa_partOf_9 (o10 := some _) (br_f (nI_ge (b := 1000) (by omega) (by omega)) (br_f (by rw [lg_cmp_eq]; exact n1) ⟨n1, ?_⟩))
          rw [pk_lRem hr2 (by omega) (by omega), ← nI_succ]
          exact ih (c % r) (r % (c % r)) (i + 1 + 1) (some _) (by omega) (by omega) (by omega) (by omega) (by omega) ((gcd_step r (c % r)).trans ((gcd_step c r).trans hg))
  exact go 63 b a 0 none ha (by omega) hb0 hb ha rfl
theorem m_partOf {a b w : Nat} (ha : a < 2 ^ 63) (hb0 : 0 < b) (hb : b < 2 ^ 63) (hw : w ≤ 1) (H : f (lN ((if w = 0 then a else b) / Nat.gcd b a)) h) : rCall E (d + 1) mMo_partOf [pL (lN a), pL (lN b), pI (nI w)] SH h (rPl SH f) := by
  apply vMo_partOf
  have go : ∀ (m c r : Nat) (o9 : Option Int64), r ≤ m → 0 < c → c < 2 ^ 63 → r < 2 ^ 63 → Nat.gcd c r = Nat.gcd b a →
      rR E (rCall E d) mMo_partOf (rPl SH f) 6 [some (pL (lN a)), none, some (pL (lN b)), none, some (pI (nI w)), some (pL (lN c)), none, some (pL (lN r)), none, oL o9, none] [] SH h 0 0 := by
    intro m
    induction m with
    | zero =>
      intro c r o9 hr h0 hc hr2 hg
      have : r = 0 := by omega
      subst this
      rw [Nat.gcd_zero_right] at hg
      have c0 : ¬ lN c = 0 := fun q => absurd ((pk_lEQ (b := 0) hc (by omega)).1 q) (by omega)
      refine vMo_partOf_6 (br_t ((lg_cmp_eq _ _).2 rfl) ⟨fun q => ⟨c0, rfl, ?_⟩, fun q => ⟨c0, rfl, ?_⟩⟩)
      · rw [if_pos ((nI_eq (b := 0) (by omega) (by omega)).1 q), ← hg] at H
        rw [pk_lDiv ha h0 hc]
        exact H
      · rw [if_neg (fun z => q (by rw [z]; rfl)), ← hg] at H
        rw [pk_lDiv hb h0 hc]
        exact H
    | succ m ih =>
      intro c r o9 hr h0 hc hr2 hg
      by_cases r0 : r = 0
      · exact ih c r o9 (by omega) h0 hc hr2 hg
      · have n0 : ¬ lN r = 0 := fun q => absurd ((pk_lEQ (b := 0) hr2 (by omega)).1 q) r0
        refine vMo_partOf_6 (br_f (by rw [lg_cmp_eq]; exact n0) ⟨n0, ?_⟩)
        rw [pk_lRem hc (by omega) hr2]
        have hm := Nat.mod_lt c (show r > 0 by omega)
        exact ih r (c % r) (some _) (by omega) (by omega) hr2 (by omega) ((gcd_step c r).trans hg)
  exact go a b a none (Nat.le_refl a) hb0 hb ha rfl
theorem c_power {b k : Nat} (hk : k < 1000) (H : f (lN (b ^ k)) h) : rCall E (d + 1) mLa_power [pL (lN b), pI (nI k)] SH h (rPl SH f) := by
  apply vLa_power
  refine loopUp (P := fun i => rR E (rCall E d) mLa_power (rPl SH f) 5 [some (pL (lN b)), none, some (pI (nI k)), some (pL (lN (b ^ i))), none, some (pI (nI i))] [] SH h 0 0) k ?_ ?_
  · intro i hi hP
    refine vLa_power_5 (br_f (nI_ge hi (by omega)) ?_)
    rw [lN_mul, ← Nat.pow_succ, ← nI_succ]
    exact hP
  · exact vLa_power_5 (br_t (nI_le (Nat.le_refl k) (by omega)) ⟨rfl, H⟩)
theorem c_ways {k : Nat} (hn : n ≤ 8) (hk : k ≤ n) (H : f (lN (wN n k k)) h) : rCall E (d + 1) mLa_ways [pI (nI n), pI (nI k)] SH h (rPl SH f) := by
  apply vLa_ways
  refine loopUp (P := fun i => rR E (rCall E d) mLa_ways (rPl SH f) 5 [some (pI (nI n)), some (pI (nI k)), some (pL (lN (wN n k i))), none, some (pI (nI (i + 1)))] [] SH h 0 0) k ?_ ?_
  · intro i hi hP
    have hb := wN_b n hn k hk i (by omega)
    have hm : wN n k i * (n - k + (i + 1)) ≤ 100 * 8 := Nat.mul_le_mul hb (by omega)
    refine vLa_ways_5 (br_f (nI_nlt (by omega) (by omega)) ⟨?_, ?_⟩)
    · rw [nI_l (by omega)]
      exact fun q => absurd ((pk_lEQ (a := i + 1) (b := 0) (by omega) (by omega)).1 q) (by omega)
    · rw [pk_sub hk, nI_add, nI_l (n := n - k + (i + 1)) (by omega), nI_l (n := i + 1) (by omega), lN_mul, pk_lDiv (by omega) (by omega) (by omega), ← nI_succ (i + 1)]
      exact hP
  · exact vLa_ways_5 (br_t (nI_lt (by omega) (by omega)) ⟨rfl, H⟩)
theorem m_product {k : Nat} (hk : k ≤ 8) (H : f (lN (fN k)) h) : rCall E (d + 1) mMo_product [pI (nI k)] SH h (rPl SH f) := by
  apply vMo_product
  by_cases k0 : k = 0
  · subst k0
    exact vMo_product_4 (br_t (by decide) ⟨rfl, H⟩)
  · refine loopUp (P := fun i => rR E (rCall E d) mMo_product (rPl SH f) 4 [some (pI (nI k)), some (pL (lN (fN (i + 1)))), none, some (pI (nI (i + 2)))] [] SH h 0 0) (k - 1) ?_ ?_
    · intro i hi hP
      refine vMo_product_4 (br_f (nI_nlt (by omega) (by omega)) ?_)
      rw [nI_l (by omega), lN_mul, ← nI_succ (i + 2)]
      exact hP
    · rw [show k - 1 + 1 = k by omega, show k - 1 + 2 = k + 1 by omega]
      exact vMo_product_4 (br_t (nI_lt (by omega) (by omega)) ⟨rfl, H⟩)
theorem pow_b {s m : Nat} (hs : s ≤ 100) : s ^ m ≤ 100 ^ m := Nat.pow_le_pow_left hs m
theorem over_b {W s k m : Nat} (hW : W ≤ 100) (hs : s ≤ 99) (hm : k + m ≤ 8) : W * s ^ k * (100 - s) ^ m < 2 ^ 63 := by
  have h1 : s ^ k ≤ 100 ^ k := pow_b (by omega)
  have h2 : (100 - s) ^ m ≤ 100 ^ m := pow_b (by omega)
  have h3 : W * s ^ k * (100 - s) ^ m ≤ 100 * 100 ^ k * 100 ^ m := Nat.mul_le_mul (Nat.mul_le_mul hW h1) h2
  have h4 : 100 * 100 ^ k * 100 ^ m = 100 ^ (k + m + 1) := by
    rw [Nat.mul_assoc, ← Nat.pow_add, Nat.mul_comm, ← Nat.pow_succ]
  have h5 : 100 ^ (k + m + 1) ≤ 100 ^ 9 := Nat.pow_le_pow_right (by omega) (by omega)
  have h6 : (100:Nat) ^ 9 < 2 ^ 63 := by decide
  omega
theorem two_odds (hB : B + 1 < 1000000) (hR : Rel B h) (a1 a2 a3 : Int32) : TwoL E B h mLa_odds mMo_odds [pI a1, pI a2, pI a3] := by
  have hR' := hR
  obtain ⟨⟨n, σ, hW, hS, hM⟩, _⟩ := hR'
  obtain ⟨s, hs, hs2⟩ := Wf_slip hW
  have e3 : h 7 3 = nI s := (S0_l hS (i := 3) (by omega)).trans hs2
  have e8 : h 36 8 = nI s := (hM 8 (by omega)).trans hs2
  rcases qr a1 0 8 (by omega) with ⟨m, _, hm, rfl⟩ | hb
  · rcases qr a2 0 m (by omega) with ⟨k, _, hk, rfl⟩ | hb
    · rcases qr a3 0 1 (by omega) with ⟨w, _, hw, rfl⟩ | hb
      · have hWb := wN_b m hm k hk k (Nat.le_refl k)
        have hov := over_b (W := wN m k k) (s := s) (k := k) (m := m - k) hWb hs (by omega)
        have hu0 : 0 < 100 ^ m := Nat.pow_pos (by omega)
        have hu : 100 ^ m < 2 ^ 63 := by
          have h5 : 100 ^ m ≤ 100 ^ 9 := Nat.pow_le_pow_right (by omega) (by omega)
          have h6 : (100:Nat) ^ 9 < 2 ^ 63 := by decide
          omega
        refine twoL_no hB hR (lN ((if w = 0 then wN m k k * s ^ k * (100 - s) ^ (m - k) else 100 ^ m) / Nat.gcd (100 ^ m) (wN m k k * s ^ k * (100 - s) ^ (m - k)))) (fun f H => vLa_odds (c_wi1 (m := 8) hm (by omega) (o1 (c_wi1 hk (by omega) (o1 (c_wi1 (m := 1) hw (by omega) (o1 (c_ways hm hk ?_)))))))) (fun f H => vMo_odds (m_in1 (lo := 0) (hi := 8) (by omega) hm (by omega) (o1 ?_)))
        · rw [e3, nI_l (n := s) (by omega), show (100:Int64) - lN s = lN (100 - s) from lN_sub (a := 100) (b := s) (by omega)]
          refine c_power (by omega) ?_
          rw [pk_sub hk]
          refine c_power (by omega) (c_power (b := 100) (by omega) ?_)
          rw [lN_mul, lN_mul]
          exact c_partOf hov hu0 hu hw ⟨rfl, H⟩
        · rw [nI_l (n := m) (by omega)]
          refine m_in1 (lo := 0) (by omega) hk (by omega) (o1 (m_in1 (lo := 0) (hi := 1) (by omega) hw (by omega) (o1 (m_product hm (m_product (k := k) (by omega) ⟨?_, ?_⟩)))))
          · exact fun q => absurd ((pk_lEQ (b := 0) (by have := fN_b k (by omega); omega) (by omega)).1 q) (by have := fN_b k (by omega); omega)
          · rw [pk_sub hk]
            refine m_product (k := m - k) (by omega) ⟨?_, ?_⟩
            · exact fun q => absurd ((pk_lEQ (b := 0) (by have := fN_b (m - k) (by omega); omega) (by omega)).1 q) (by have := fN_b (m - k) (by omega); omega)
            · have b1 := fN_b m hm
              have b2 := fN_b k (by omega)
              have b3 := fN_b (m - k) (by omega)
              have b4 := Nat.div_le_self (fN m) (fN k)
              rw [pk_lDiv (by omega) (by omega) (by omega), pk_lDiv (by omega) (by omega) (by omega), wN_f m hm k hk]
              have st : rR E (rCall E 39) mMo_odds (rPl SH f) 61 [some (pR 35), some (pI (nI m)), some (pI (nI k)), some (pI (nI w)), some (pL (lN (wN m k k * s ^ (min 0 k) * (100 - s) ^ (0 - k)))), none, some (pL (lN (100 ^ 0))), none, some (pI (nI 0))] [] SH h 0 0 := by
                refine loopUp (P := fun i => rR E (rCall E 39) mMo_odds (rPl SH f) 61 [some (pR 35), some (pI (nI m)), some (pI (nI k)), some (pI (nI w)), some (pL (lN (wN m k k * s ^ (min i k) * (100 - s) ^ (i - k)))), none, some (pL (lN (100 ^ i))), none, some (pI (nI i))] [] SH h 0 0) m ?_ ?_
                · intro i hi hP
                  refine vMo_odds_61 (br_f (nI_ge hi (by omega)) ⟨fun c => ?_, fun c => ?_⟩)
                  · have ck := (nI_leI (by omega) (by omega)).1 c
                    rw [e8, show (100:Int32) - nI s = nI (100 - s) from pk_sub (a := 100) (by omega), nI_l (n := 100 - s) (by omega), lN_mul, show lN (100 ^ i) * (100:Int64) = lN (100 ^ (i + 1)) from lN_mul (100 ^ i) 100, ← nI_succ, Nat.mul_assoc, ← Nat.pow_succ]
                    rw [show min (i + 1) k = min i k by omega, show i + 1 - k = i - k + 1 by omega] at hP
                    exact hP
                  · have ck : ¬ k ≤ i := fun q => c (nI_le q (by omega))
                    rw [e8, nI_l (n := s) (by omega), lN_mul, show lN (100 ^ i) * (100:Int64) = lN (100 ^ (i + 1)) from lN_mul (100 ^ i) 100, ← nI_succ]
                    rw [show min (i + 1) k = i + 1 by omega, show i + 1 - k = 0 by omega, Nat.pow_zero, Nat.mul_one, Nat.pow_succ, ← Nat.mul_assoc] at hP
                    rw [show min i k = i by omega, show i - k = 0 by omega, Nat.pow_zero, Nat.mul_one]
                    exact hP
                · rw [show min m k = k by omega]
                  exact vMo_odds_61 (br_t (nI_le (Nat.le_refl m) (by omega)) (m_partOf hov hu0 hu hw ⟨rfl, H⟩))
              rw [show min 0 k = 0 by omega, show 0 - k = 0 by omega, Nat.pow_zero, Nat.pow_zero, Nat.mul_one, Nat.mul_one] at st
              exact st
      · refine twoL_no hB hR (-1) (fun f H => vLa_odds (c_wi1 (m := 8) hm (by omega) (o1 (c_wi1 hk (by omega) (o1 (c_wi0 (m := 1) hb (by omega) (o0 ⟨rfl, H⟩))))))) (fun f H => vMo_odds (m_in1 (lo := 0) (hi := 8) (by omega) hm (by omega) (o1 ?_)))
        rw [nI_l (n := m) (by omega)]
        exact m_in1 (lo := 0) (by omega) hk (by omega) (o1 (m_in0 (lo := 0) (hi := 1) hb (by omega) (by omega) (o0 ⟨rfl, H⟩)))
    · refine twoL_no hB hR (-1) (fun f H => vLa_odds (c_wi1 (m := 8) hm (by omega) (o1 (c_wi0 hb (by omega) (o0 ⟨rfl, H⟩))))) (fun f H => vMo_odds (m_in1 (lo := 0) (hi := 8) (by omega) hm (by omega) (o1 ?_)))
      rw [nI_l (n := m) (by omega)]
      exact m_in0 (lo := 0) hb (by omega) (by omega) (o0 ⟨rfl, H⟩)
  · exact twoL_no hB hR (-1) (fun f H => vLa_odds (c_wi0 (m := 8) hb (by omega) (o0 ⟨rfl, H⟩))) (fun f H => vMo_odds (m_in0 (lo := 0) (hi := 8) hb (by omega) (by omega) (o0 ⟨rfl, H⟩)))
theorem two_hope (hB : B + 1 < 1000000) (hR : Rel B h) (a1 a2 : Int32) : TwoL E B h mLa_hope mMo_hope [pI a1, pI a2] := by
  have hR' := hR
  obtain ⟨⟨n, σ, hW, hS, hM⟩, _⟩ := hR'
  obtain ⟨s, hs, hs2⟩ := Wf_slip hW
  have e3 : h 7 3 = nI s := (S0_l hS (i := 3) (by omega)).trans hs2
  have e8 : h 36 8 = nI s := (hM 8 (by omega)).trans hs2
  rcases qr a1 0 99 (by omega) with ⟨m, _, hm, rfl⟩ | hb
  · rcases qr a2 0 1 (by omega) with ⟨w, _, hw, rfl⟩ | hb
    · have hb1 : m * s ≤ 99 * 99 := Nat.mul_le_mul hm hs
      refine twoL_no hB hR (lN ((if w = 0 then m * s else 100) / Nat.gcd 100 (m * s))) (fun f H => vLa_hope (c_wi1 (m := 99) hm (by omega) (o1 (c_wi1 (m := 1) hw (by omega) (o1 ?_))))) (fun f H => vMo_hope (m_in1 (lo := 0) (hi := 99) (by omega) hm (by omega) (o1 (m_in1 (lo := 0) (hi := 1) (by omega) hw (by omega) (o1 ?_)))))
      · rw [e3, nI_l (n := s) (by omega), nI_l (n := m) (by omega), lN_mul]
        exact c_partOf (b := 100) (by omega) (by omega) (by omega) hw ⟨rfl, H⟩
      · rw [e8, nI_l (n := s) (by omega), nI_l (n := m) (by omega), lN_mul]
        exact m_partOf (b := 100) (by omega) (by omega) (by omega) hw ⟨rfl, H⟩
    · exact twoL_no hB hR (-1) (fun f H => vLa_hope (c_wi1 (m := 99) hm (by omega) (o1 (c_wi0 (m := 1) hb (by omega) (o0 ⟨rfl, H⟩))))) (fun f H => vMo_hope (m_in1 (lo := 0) (hi := 99) (by omega) hm (by omega) (o1 (m_in0 (lo := 0) (hi := 1) hb (by omega) (by omega) (o0 ⟨rfl, H⟩)))))
  · exact twoL_no hB hR (-1) (fun f H => vLa_hope (c_wi0 (m := 99) hb (by omega) (o0 ⟨rfl, H⟩))) (fun f H => vMo_hope (m_in0 (lo := 0) (hi := 99) hb (by omega) (by omega) (o0 ⟨rfl, H⟩)))
end
theorem b255 : ∀ i, i < 8 → (255#64).getLsbD i = true := by decide
theorem bits8 (U : BitVec 64) (s : Nat) (hs : s + 8 ≤ 64) : ((U >>> s).signExtend 32).signExtend 8 = (((U.sshiftRight s) &&& 255#64).signExtend 32).signExtend 8 := by
  apply BitVec.eq_of_getLsbD_eq
  intro i hi
  have h1 : i < 32 := by omega
  have h2 : i < 64 := by omega
  have h3 : s + i < 64 := by omega
  have h4 : ¬ 64 ≤ i := by omega
  simp only [BitVec.getLsbD_signExtend, BitVec.getLsbD_and, BitVec.getLsbD_sshiftRight, BitVec.getLsbD_ushiftRight, hi, h1, h2, h3, h4, b255 i hi, if_true, if_false, decide_true, decide_false, Bool.true_and, Bool.and_true, Bool.not_false]

