theorem rR_fold {E : rE} {K : rM → List rPV → rSh → rHp → rPost → Prop} {M : rM} {Post : rPost} {pc : Nat} {ls : rLs} {st : List rPV} {sh : rSh} {h : rHp} {n k : Nat} (Z : Nat → rLs → List rPV → rSh → rHp → Nat → Nat → Prop) (hZ : ∀ pc ls st sh h n k, Z pc ls st sh h n k → rR E K M Post pc ls st sh h n k) (H : rStp E K M Post Z pc ls st sh h n k) : rR E K M Post pc ls st sh h n k :=
  fun X hX => hX _ _ _ _ _ _ _ ⟨Z, Post, fun pc ls st sh h n k z => hZ pc ls st sh h n k z X hX, fun _ _ _ p => p, H⟩
theorem rR_mono {E : rE} {K : rM → List rPV → rSh → rHp → rPost → Prop} {M : rM} {P Q : rPost} (hPQ : ∀ v sh h, P v sh h → Q v sh h) {pc : Nat} {ls : rLs} {st : List rPV} {sh : rSh} {h : rHp} {n k : Nat} (H : rR E K M P pc ls st sh h n k) : rR E K M Q pc ls st sh h n k :=
  fun X hX => H X (fun pc ls st sh h n k ⟨Z, P', a, b, c⟩ => hX pc ls st sh h n k ⟨Z, P', a, fun v s t p => hPQ v s t (b v s t p), c⟩)
theorem rEx_ok {E : rE} {K : rM → List rPV → rSh → rHp → rPost → Prop} {M : rM} {Post : rPost} (cut : Nat → Bool) : ∀ (f : Nat) {pc : Nat} {ls : rLs} {st : List rPV} {sh : rSh} {h : rHp} {n k : Nat}, rEx E K M Post cut f pc ls st sh h n k → rR E K M Post pc ls st sh h n k := by
  intro f
  induction f with
  | zero => intro pc ls st sh h n k H; exact H
  | succ f ih =>
    intro pc ls st sh h n k H
    refine rR_fold (fun pc ls st sh h n k => cond (cut pc) (rR E K M Post pc ls st sh h n k) (rEx E K M Post cut f pc ls st sh h n k)) (fun pc ls st sh h n k z => ?_) H
    cases hc : cut pc with
    | true => rw [hc] at z; exact z
    | false => rw [hc] at z; exact ih z
def zCut (l : List Nat) (pc : Nat) : Bool := l.any (fun a => Nat.beq a pc)
section TRY
variable {E : rE} {K : rM → List rPV → rSh → rHp → rPost → Prop} {Post : rPost}
abbrev shT : rSh := [.inl (5, [some (some 1), some none, some none, some none, some none, some none, some none, some none, none, none]), .inl (3, [some (some 2), some (some 3), some (some 4), some (some 5), some (some 7), some (some 6), none, none, none, none, none, none]), .inr (false, 8), .inr (false, 8), .inr (false, 8), .inr (false, 8), .inr (false, 8), .inr (false, 4)]
theorem zt_setLying_0 {h : rHp} (H : rR E K mSt_setLying Post 4 [some (pR 1), some (pI 0), some (pI 0)] [] shT h 0 0) : rR E K mSt_setLying Post 0 [some (pR 1), none, none] [] shT h 0 0 := rEx_ok (zCut [4]) 20 H
theorem zt_setLying_4 {h : rHp} {x1 x2 : Int32}
  (H : (h 1 6 ≤ x2 → Post (some (pI x1)) shT h) ∧ (¬ h 1 6 ≤ x2 → vp_in x2 8 ∧ (h 5 x2.toNatClampNeg = 6 → rR E K mSt_setLying Post 4 [some (pR 1), some (pI x1), some (pI (x2 + 1))] [] shT h 0 0) ∧ (¬ h 5 x2.toNatClampNeg = 6 → rR E K mSt_setLying Post 4 [some (pR 1), some (pI (x1 ||| (1 <<< (x2 &&& 31)))), some (pI (x2 + 1))] [] shT h 0 0))) :
  rR E K mSt_setLying Post 4 [some (pR 1), some (pI x1), some (pI x2)] [] shT h 0 0 := rEx_ok (zCut [4]) 40 H
end TRY
