theorem rR_fold {E : rE} {K : rM → List rPV → rSh → rHp → rPost → Prop} {M : rM} {Post : rPost} {pc : Nat} {ls : rLs} {st : List rPV} {sh : rSh} {h : rHp} {n k : Nat} (Z : Nat → rLs → List rPV → rSh → rHp → Nat → Nat → Prop) (hZ : ∀ pc ls st sh h n k, Z pc ls st sh h n k → rR E K M Post pc ls st sh h n k) (H : rStp E K M Post Z pc ls st sh h n k) : rR E K M Post pc ls st sh h n k :=
  fun X hX => hX _ _ _ _ _ _ _ ⟨Z, Post, fun pc ls st sh h n k z => hZ pc ls st sh h n k z X hX, fun _ _ _ p => p, H⟩
theorem rR_mono {E : rE} {K : rM → List rPV → rSh → rHp → rPost → Prop} {M : rM} {P Q : rPost} (hPQ : ∀ v sh h, P v sh h → Q v sh h) {pc : Nat} {ls : rLs} {st : List rPV} {sh : rSh} {h : rHp} {n k : Nat} (H : rR E K M P pc ls st sh h n k) : rR E K M Q pc ls st sh h n k :=
  fun X hX => H X (fun pc ls st sh h n k ⟨Z, P', a, b, c⟩ => hX pc ls st sh h n k ⟨Z, P', a, fun v s t p => hPQ v s t (b v s t p), c⟩)
theorem rEx_ok {E : rE} {K : rM → List rPV → rSh → rHp → rPost → Prop} {M : rM} {Post : rPost} (cut : Nat → Bool) : ∀ (f : Nat) {pc : Nat} {ls : rLs} {st : List rPV} {sh : rSh} {h : rHp} {n k : Nat}, rEx E K M Post cut f pc ls st sh h n k → rR E K M Post pc ls st sh h n k := by
  intro f
  induction f with
  | zero => intro pc ls st sh h n k H; exact H
  | succ f ih =>
    intro pc ls st sh h n k H
    refine rR_fold (fun pc ls st sh h n k => cond (cut pc) (rR E K M Post pc ls st sh h n k) (rEx E K M Post cut f pc ls st sh h n k)) (fun pc ls st sh h n k z => ?_) H
    cases hc : cut pc with
    | true => rw [hc] at z; exact z
    | false => rw [hc] at z; exact ih z
def zCut (l : List Nat) (pc : Nat) : Bool := l.any (fun a => Nat.beq a pc)
