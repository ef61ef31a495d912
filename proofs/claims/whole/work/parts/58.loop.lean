/-! the law's loop: each of the 47 branches, and on to the script's end -/
theorem Rel_up {B : Nat} {h : rHp} (hB : B + 1 < 1000000) (hR : Rel B h) : Rel (B + 1) h := by
  obtain ⟨⟨n, σ, hW, hS, hM⟩, hr⟩ := hR
  exact ⟨⟨n, σ, Wf_le hW (by omega) hB, hS, hM⟩, Rest_far hB hr (fun _ _ => rfl)⟩
section
variable {E : rE} {B : Nat} {h : rHp} {P Q : rHp → Prop} {Mc Mm : rM} {as : List rPV} {A1 A2 A3 A4 : Prop}
theorem lawT0 (H2 : Two E B h Mc Mm as) (H : ∀ h', Rel (B + 1) h' → P h') : rCall E 40 Mc (pR 0 :: as) SH h (rPi SH (fun x g1 => rCall E 40 Mm (pR 35 :: as) SH g1 (rPi SH (fun y g3 => (x = y → P g3) ∧ (¬ x = y → Q g3))))) :=
  rCall_mono (rPi_mono (fun x g1 k1 => rCall_mono (rPi_mono (fun y g3 k3 => ⟨fun _ => H _ k3.2, fun n => absurd k3.1 n⟩)) k1)) H2
theorem lawT1 (a1 : A1) (H2 : Two E B h Mc Mm as) (H : ∀ h', Rel (B + 1) h' → P h') : A1 ∧ rCall E 40 Mc (pR 0 :: as) SH h (rPi SH (fun x g1 => A1 ∧ rCall E 40 Mm (pR 35 :: as) SH g1 (rPi SH (fun y g3 => (x = y → P g3) ∧ (¬ x = y → Q g3))))) :=
  ⟨a1, rCall_mono (rPi_mono (fun x g1 k1 => ⟨a1, rCall_mono (rPi_mono (fun y g3 k3 => ⟨fun _ => H _ k3.2, fun n => absurd k3.1 n⟩)) k1⟩)) H2⟩
theorem lawT2 (a1 : A1) (a2 : A2) (H2 : Two E B h Mc Mm as) (H : ∀ h', Rel (B + 1) h' → P h') : A1 ∧ A2 ∧ rCall E 40 Mc (pR 0 :: as) SH h (rPi SH (fun x g1 => A1 ∧ A2 ∧ rCall E 40 Mm (pR 35 :: as) SH g1 (rPi SH (fun y g3 => (x = y → P g3) ∧ (¬ x = y → Q g3))))) :=
  ⟨a1, a2, rCall_mono (rPi_mono (fun x g1 k1 => ⟨a1, a2, rCall_mono (rPi_mono (fun y g3 k3 => ⟨fun _ => H _ k3.2, fun n => absurd k3.1 n⟩)) k1⟩)) H2⟩
theorem lawT3 (a1 : A1) (a2 : A2) (a3 : A3) (H2 : Two E B h Mc Mm as) (H : ∀ h', Rel (B + 1) h' → P h') : A1 ∧ A2 ∧ A3 ∧ rCall E 40 Mc (pR 0 :: as) SH h (rPi SH (fun x g1 => A1 ∧ A2 ∧ A3 ∧ rCall E 40 Mm (pR 35 :: as) SH g1 (rPi SH (fun y g3 => (x = y → P g3) ∧ (¬ x = y → Q g3))))) :=
  ⟨a1, a2, a3, rCall_mono (rPi_mono (fun x g1 k1 => ⟨a1, a2, a3, rCall_mono (rPi_mono (fun y g3 k3 => ⟨fun _ => H _ k3.2, fun n => absurd k3.1 n⟩)) k1⟩)) H2⟩
theorem lawT4 (a1 : A1) (a2 : A2) (a3 : A3) (a4 : A4) (H2 : Two E B h Mc Mm as) (H : ∀ h', Rel (B + 1) h' → P h') : A1 ∧ A2 ∧ A3 ∧ A4 ∧ rCall E 40 Mc (pR 0 :: as) SH h (rPi SH (fun x g1 => A1 ∧ A2 ∧ A3 ∧ A4 ∧ rCall E 40 Mm (pR 35 :: as) SH g1 (rPi SH (fun y g3 => (x = y → P g3) ∧ (¬ x = y → Q g3))))) :=
  ⟨a1, a2, a3, a4, rCall_mono (rPi_mono (fun x g1 k1 => ⟨a1, a2, a3, a4, rCall_mono (rPi_mono (fun y g3 k3 => ⟨fun _ => H _ k3.2, fun n => absurd k3.1 n⟩)) k1⟩)) H2⟩
theorem lawL2 (a1 : A1) (a2 : A2) (H2 : TwoL E B h Mc Mm as) (H : ∀ h', Rel (B + 1) h' → P h') : A1 ∧ A2 ∧ rCall E 40 Mc (pR 0 :: as) SH h (rPl SH (fun x g1 => A1 ∧ A2 ∧ rCall E 40 Mm (pR 35 :: as) SH g1 (rPl SH (fun y g3 => (lg_cmp x y = 0 → P g3) ∧ (¬ lg_cmp x y = 0 → Q g3))))) :=
  ⟨a1, a2, rCall_mono (rPl_mono (fun x g1 k1 => ⟨a1, a2, rCall_mono (rPl_mono (fun y g3 k3 => ⟨fun _ => H _ k3.2, fun n => absurd ((lg_cmp_eq _ _).mpr k3.1) n⟩)) k1⟩)) H2⟩
theorem lawL3 (a1 : A1) (a2 : A2) (a3 : A3) (H2 : TwoL E B h Mc Mm as) (H : ∀ h', Rel (B + 1) h' → P h') : A1 ∧ A2 ∧ A3 ∧ rCall E 40 Mc (pR 0 :: as) SH h (rPl SH (fun x g1 => A1 ∧ A2 ∧ A3 ∧ rCall E 40 Mm (pR 35 :: as) SH g1 (rPl SH (fun y g3 => (lg_cmp x y = 0 → P g3) ∧ (¬ lg_cmp x y = 0 → Q g3))))) :=
  ⟨a1, a2, a3, rCall_mono (rPl_mono (fun x g1 k1 => ⟨a1, a2, a3, rCall_mono (rPl_mono (fun y g3 k3 => ⟨fun _ => H _ k3.2, fun n => absurd ((lg_cmp_eq _ _).mpr k3.1) n⟩)) k1⟩)) H2⟩
end
section
variable {E : rE} {B : Nat} {h : rHp} {Post : rPost} {v : Int32}
theorem law_236 (hB : B + 1 < 1000000) (hB8 : 8 ≤ B) (hR : Rel B h) (a1 : vp_in (v + 1) E.1) (a2 : vp_in (v + 2) E.1) (a3 : vp_in (v + 3) E.1) (a4 : vp_in (v + 4) E.1) (H : ∀ h', Rel (B + 1) h' → rR E (rCall E 40) mLw_law Post 1699 [some (pC 0), some (pR 0), some (pR 35), some (pI v)] [] SH h' 50 1353) : rR E (rCall E 40) mLw_law Post 236 [some (pC 0), some (pR 0), some (pR 35), some (pI v)] [] SH h 50 1353 :=
  vLw_236 (lawT3 a1 a2 a3 (two_feed hB hR _ _) H)
theorem law_299 (hB : B + 1 < 1000000) (hB8 : 8 ≤ B) (hR : Rel B h) (a1 : vp_in (v + 1) E.1) (a2 : vp_in (v + 2) E.1) (a3 : vp_in (v + 3) E.1) (a4 : vp_in (v + 4) E.1) (H : ∀ h', Rel (B + 1) h' → rR E (rCall E 40) mLw_law Post 1699 [some (pC 0), some (pR 0), some (pR 35), some (pI v)] [] SH h' 50 1353) : rR E (rCall E 40) mLw_law Post 299 [some (pC 0), some (pR 0), some (pR 35), some (pI v)] [] SH h 50 1353 :=
  vLw_299 (lawT0 (two_street hB hB8 hR) H)
theorem law_312 (hB : B + 1 < 1000000) (hB8 : 8 ≤ B) (hR : Rel B h) (a1 : vp_in (v + 1) E.1) (a2 : vp_in (v + 2) E.1) (a3 : vp_in (v + 3) E.1) (a4 : vp_in (v + 4) E.1) (H : ∀ h', Rel (B + 1) h' → rR E (rCall E 40) mLw_law Post 1699 [some (pC 0), some (pR 0), some (pR 35), some (pI v)] [] SH h' 50 1353) : rR E (rCall E 40) mLw_law Post 312 [some (pC 0), some (pR 0), some (pR 35), some (pI v)] [] SH h 50 1353 :=
  vLw_312 (lawT2 a1 a2 (op_st hB hR (op_set hB _ _)) H)
theorem law_345 (hB : B + 1 < 1000000) (hB8 : 8 ≤ B) (hR : Rel B h) (a1 : vp_in (v + 1) E.1) (a2 : vp_in (v + 2) E.1) (a3 : vp_in (v + 3) E.1) (a4 : vp_in (v + 4) E.1) (H : ∀ h', Rel (B + 1) h' → rR E (rCall E 40) mLw_law Post 1699 [some (pC 0), some (pR 0), some (pR 35), some (pI v)] [] SH h' 50 1353) : rR E (rCall E 40) mLw_law Post 345 [some (pC 0), some (pR 0), some (pR 35), some (pI v)] [] SH h 50 1353 :=
  vLw_345 (lawT1 a1 (op_st hB hR (op_lawOf hB _)) H)
theorem law_368 (hB : B + 1 < 1000000) (hB8 : 8 ≤ B) (hR : Rel B h) (a1 : vp_in (v + 1) E.1) (a2 : vp_in (v + 2) E.1) (a3 : vp_in (v + 3) E.1) (a4 : vp_in (v + 4) E.1) (H : ∀ h', Rel (B + 1) h' → rR E (rCall E 40) mLw_law Post 1699 [some (pC 0), some (pR 0), some (pR 35), some (pI v)] [] SH h' 50 1353) : rR E (rCall E 40) mLw_law Post 368 [some (pC 0), some (pR 0), some (pR 35), some (pI v)] [] SH h 50 1353 :=
  vLw_368 (lawT4 a1 a2 a3 a4 (op_st hB hR (op_thing hB _ _ _ _)) H)
theorem law_421 (hB : B + 1 < 1000000) (hB8 : 8 ≤ B) (hR : Rel B h) (a1 : vp_in (v + 1) E.1) (a2 : vp_in (v + 2) E.1) (a3 : vp_in (v + 3) E.1) (a4 : vp_in (v + 4) E.1) (H : ∀ h', Rel (B + 1) h' → rR E (rCall E 40) mLw_law Post 1699 [some (pC 0), some (pR 0), some (pR 35), some (pI v)] [] SH h' 50 1353) : rR E (rCall E 40) mLw_law Post 421 [some (pC 0), some (pR 0), some (pR 35), some (pI v)] [] SH h 50 1353 :=
  vLw_421 (lawT2 a1 a2 (op_st hB hR (op_of hB _ _)) H)
theorem law_454 (hB : B + 1 < 1000000) (hB8 : 8 ≤ B) (hR : Rel B h) (a1 : vp_in (v + 1) E.1) (a2 : vp_in (v + 2) E.1) (a3 : vp_in (v + 3) E.1) (a4 : vp_in (v + 4) E.1) (H : ∀ h', Rel (B + 1) h' → rR E (rCall E 40) mLw_law Post 1699 [some (pC 0), some (pR 0), some (pR 35), some (pI v)] [] SH h' 50 1353) : rR E (rCall E 40) mLw_law Post 454 [some (pC 0), some (pR 0), some (pR 35), some (pI v)] [] SH h 50 1353 :=
  vLw_454 (lawT2 a1 a2 (op_st hB hR (op_does hB _ _)) H)
theorem law_487 (hB : B + 1 < 1000000) (hB8 : 8 ≤ B) (hR : Rel B h) (a1 : vp_in (v + 1) E.1) (a2 : vp_in (v + 2) E.1) (a3 : vp_in (v + 3) E.1) (a4 : vp_in (v + 4) E.1) (H : ∀ h', Rel (B + 1) h' → rR E (rCall E 40) mLw_law Post 1699 [some (pC 0), some (pR 0), some (pR 35), some (pI v)] [] SH h' 50 1353) : rR E (rCall E 40) mLw_law Post 487 [some (pC 0), some (pR 0), some (pR 35), some (pI v)] [] SH h 50 1353 :=
  vLw_487 (lawT3 a1 a2 a3 (op_st hB hR (op_mind hB _ _ _)) H)
theorem law_530 (hB : B + 1 < 1000000) (hB8 : 8 ≤ B) (hR : Rel B h) (a1 : vp_in (v + 1) E.1) (a2 : vp_in (v + 2) E.1) (a3 : vp_in (v + 3) E.1) (a4 : vp_in (v + 4) E.1) (H : ∀ h', Rel (B + 1) h' → rR E (rCall E 40) mLw_law Post 1699 [some (pC 0), some (pR 0), some (pR 35), some (pI v)] [] SH h' 50 1353) : rR E (rCall E 40) mLw_law Post 530 [some (pC 0), some (pR 0), some (pR 35), some (pI v)] [] SH h 50 1353 :=
  vLw_530 (lawT2 a1 a2 (op_st hB hR (op_value hB _ _)) H)
theorem law_563 (hB : B + 1 < 1000000) (hB8 : 8 ≤ B) (hR : Rel B h) (a1 : vp_in (v + 1) E.1) (a2 : vp_in (v + 2) E.1) (a3 : vp_in (v + 3) E.1) (a4 : vp_in (v + 4) E.1) (H : ∀ h', Rel (B + 1) h' → rR E (rCall E 40) mLw_law Post 1699 [some (pC 0), some (pR 0), some (pR 35), some (pI v)] [] SH h' 50 1353) : rR E (rCall E 40) mLw_law Post 563 [some (pC 0), some (pR 0), some (pR 35), some (pI v)] [] SH h 50 1353 :=
  vLw_563 (lawT2 a1 a2 (op_st hB hR (op_lay hB _ _)) H)
theorem law_596 (hB : B + 1 < 1000000) (hB8 : 8 ≤ B) (hR : Rel B h) (a1 : vp_in (v + 1) E.1) (a2 : vp_in (v + 2) E.1) (a3 : vp_in (v + 3) E.1) (a4 : vp_in (v + 4) E.1) (H : ∀ h', Rel (B + 1) h' → rR E (rCall E 40) mLw_law Post 1699 [some (pC 0), some (pR 0), some (pR 35), some (pI v)] [] SH h' 50 1353) : rR E (rCall E 40) mLw_law Post 596 [some (pC 0), some (pR 0), some (pR 35), some (pI v)] [] SH h 50 1353 :=
  vLw_596 (lawT1 a1 (op_st hB hR (op_take hB _)) H)
theorem law_619 (hB : B + 1 < 1000000) (hB8 : 8 ≤ B) (hR : Rel B h) (a1 : vp_in (v + 1) E.1) (a2 : vp_in (v + 2) E.1) (a3 : vp_in (v + 3) E.1) (a4 : vp_in (v + 4) E.1) (H : ∀ h', Rel (B + 1) h' → rR E (rCall E 40) mLw_law Post 1699 [some (pC 0), some (pR 0), some (pR 35), some (pI v)] [] SH h' 50 1353) : rR E (rCall E 40) mLw_law Post 619 [some (pC 0), some (pR 0), some (pR 35), some (pI v)] [] SH h 50 1353 :=
  vLw_619 (lawT1 a1 (op_st hB hR (op_bring hB _)) H)
theorem law_642 (hB : B + 1 < 1000000) (hB8 : 8 ≤ B) (hR : Rel B h) (a1 : vp_in (v + 1) E.1) (a2 : vp_in (v + 2) E.1) (a3 : vp_in (v + 3) E.1) (a4 : vp_in (v + 4) E.1) (H : ∀ h', Rel (B + 1) h' → rR E (rCall E 40) mLw_law Post 1699 [some (pC 0), some (pR 0), some (pR 35), some (pI v)] [] SH h' 50 1353) : rR E (rCall E 40) mLw_law Post 642 [some (pC 0), some (pR 0), some (pR 35), some (pI v)] [] SH h 50 1353 :=
  vLw_642 (lawT1 a1 (op_st hB hR (op_think hB _)) H)
theorem law_665 (hB : B + 1 < 1000000) (hB8 : 8 ≤ B) (hR : Rel B h) (a1 : vp_in (v + 1) E.1) (a2 : vp_in (v + 2) E.1) (a3 : vp_in (v + 3) E.1) (a4 : vp_in (v + 4) E.1) (H : ∀ h', Rel (B + 1) h' → rR E (rCall E 40) mLw_law Post 1699 [some (pC 0), some (pR 0), some (pR 35), some (pI v)] [] SH h' 50 1353) : rR E (rCall E 40) mLw_law Post 665 [some (pC 0), some (pR 0), some (pR 35), some (pI v)] [] SH h 50 1353 :=
  vLw_665 (lawT2 a1 a2 (op_st hB hR (op_pit hB _ _)) H)
theorem law_698 (hB : B + 1 < 1000000) (hB8 : 8 ≤ B) (hR : Rel B h) (a1 : vp_in (v + 1) E.1) (a2 : vp_in (v + 2) E.1) (a3 : vp_in (v + 3) E.1) (a4 : vp_in (v + 4) E.1) (H : ∀ h', Rel (B + 1) h' → rR E (rCall E 40) mLw_law Post 1699 [some (pC 0), some (pR 0), some (pR 35), some (pI v)] [] SH h' 50 1353) : rR E (rCall E 40) mLw_law Post 698 [some (pC 0), some (pR 0), some (pR 35), some (pI v)] [] SH h 50 1353 :=
  vLw_698 (lawT1 a1 (op_st hB hR (op_years hB _)) H)
theorem law_721 (hB : B + 1 < 1000000) (hB8 : 8 ≤ B) (hR : Rel B h) (a1 : vp_in (v + 1) E.1) (a2 : vp_in (v + 2) E.1) (a3 : vp_in (v + 3) E.1) (a4 : vp_in (v + 4) E.1) (H : ∀ h', Rel (B + 1) h' → rR E (rCall E 40) mLw_law Post 1699 [some (pC 0), some (pR 0), some (pR 35), some (pI v)] [] SH h' 50 1353) : rR E (rCall E 40) mLw_law Post 721 [some (pC 0), some (pR 0), some (pR 35), some (pI v)] [] SH h 50 1353 :=
  vLw_721 (lawT1 a1 (op_st hB hR (op_seed hB _)) H)
theorem law_744 (hB : B + 1 < 1000000) (hB8 : 8 ≤ B) (hR : Rel B h) (a1 : vp_in (v + 1) E.1) (a2 : vp_in (v + 2) E.1) (a3 : vp_in (v + 3) E.1) (a4 : vp_in (v + 4) E.1) (H : ∀ h', Rel (B + 1) h' → rR E (rCall E 40) mLw_law Post 1699 [some (pC 0), some (pR 0), some (pR 35), some (pI v)] [] SH h' 50 1353) : rR E (rCall E 40) mLw_law Post 744 [some (pC 0), some (pR 0), some (pR 35), some (pI v)] [] SH h 50 1353 :=
  vLw_744 (lawT0 (op_st hB hR (op_year hB)) H)
theorem law_757 (hB : B + 1 < 1000000) (hB8 : 8 ≤ B) (hR : Rel B h) (a1 : vp_in (v + 1) E.1) (a2 : vp_in (v + 2) E.1) (a3 : vp_in (v + 3) E.1) (a4 : vp_in (v + 4) E.1) (H : ∀ h', Rel (B + 1) h' → rR E (rCall E 40) mLw_law Post 1699 [some (pC 0), some (pR 0), some (pR 35), some (pI v)] [] SH h' 50 1353) : rR E (rCall E 40) mLw_law Post 757 [some (pC 0), some (pR 0), some (pR 35), some (pI v)] [] SH h 50 1353 :=
  vLw_757 (lawT1 a1 (op_st hB hR (op_luck hB _)) H)
theorem law_780 (hB : B + 1 < 1000000) (hB8 : 8 ≤ B) (hR : Rel B h) (a1 : vp_in (v + 1) E.1) (a2 : vp_in (v + 2) E.1) (a3 : vp_in (v + 3) E.1) (a4 : vp_in (v + 4) E.1) (H : ∀ h', Rel (B + 1) h' → rR E (rCall E 40) mLw_law Post 1699 [some (pC 0), some (pR 0), some (pR 35), some (pI v)] [] SH h' 50 1353) : rR E (rCall E 40) mLw_law Post 780 [some (pC 0), some (pR 0), some (pR 35), some (pI v)] [] SH h 50 1353 :=
  vLw_780 (lawT1 a1 (op_st hB hR (op_state hB _)) H)
theorem law_803 (hB : B + 1 < 1000000) (hB8 : 8 ≤ B) (hR : Rel B h) (a1 : vp_in (v + 1) E.1) (a2 : vp_in (v + 2) E.1) (a3 : vp_in (v + 3) E.1) (a4 : vp_in (v + 4) E.1) (H : ∀ h', Rel (B + 1) h' → rR E (rCall E 40) mLw_law Post 1699 [some (pC 0), some (pR 0), some (pR 35), some (pI v)] [] SH h' 50 1353) : rR E (rCall E 40) mLw_law Post 803 [some (pC 0), some (pR 0), some (pR 35), some (pI v)] [] SH h 50 1353 :=
  vLw_803 (lawT1 a1 (op_st hB hR (op_thought hB _)) H)
theorem law_826 (hB : B + 1 < 1000000) (hB8 : 8 ≤ B) (hR : Rel B h) (a1 : vp_in (v + 1) E.1) (a2 : vp_in (v + 2) E.1) (a3 : vp_in (v + 3) E.1) (a4 : vp_in (v + 4) E.1) (H : ∀ h', Rel (B + 1) h' → rR E (rCall E 40) mLw_law Post 1699 [some (pC 0), some (pR 0), some (pR 35), some (pI v)] [] SH h' 50 1353) : rR E (rCall E 40) mLw_law Post 826 [some (pC 0), some (pR 0), some (pR 35), some (pI v)] [] SH h 50 1353 :=
  vLw_826 (lawT1 a1 (op_st hB hR (op_dug hB _)) H)
theorem law_849 (hB : B + 1 < 1000000) (hB8 : 8 ≤ B) (hR : Rel B h) (a1 : vp_in (v + 1) E.1) (a2 : vp_in (v + 2) E.1) (a3 : vp_in (v + 3) E.1) (a4 : vp_in (v + 4) E.1) (H : ∀ h', Rel (B + 1) h' → rR E (rCall E 40) mLw_law Post 1699 [some (pC 0), some (pR 0), some (pR 35), some (pI v)] [] SH h' 50 1353) : rR E (rCall E 40) mLw_law Post 849 [some (pC 0), some (pR 0), some (pR 35), some (pI v)] [] SH h 50 1353 :=
  vLw_849 (lawT0 (op_st hB hR (op_empty hB)) H)
theorem law_862 (hB : B + 1 < 1000000) (hB8 : 8 ≤ B) (hR : Rel B h) (a1 : vp_in (v + 1) E.1) (a2 : vp_in (v + 2) E.1) (a3 : vp_in (v + 3) E.1) (a4 : vp_in (v + 4) E.1) (H : ∀ h', Rel (B + 1) h' → rR E (rCall E 40) mLw_law Post 1699 [some (pC 0), some (pR 0), some (pR 35), some (pI v)] [] SH h' 50 1353) : rR E (rCall E 40) mLw_law Post 862 [some (pC 0), some (pR 0), some (pR 35), some (pI v)] [] SH h 50 1353 :=
  vLw_862 (lawT1 a1 (op_st hB hR (op_praised hB _)) H)
theorem law_885 (hB : B + 1 < 1000000) (hB8 : 8 ≤ B) (hR : Rel B h) (a1 : vp_in (v + 1) E.1) (a2 : vp_in (v + 2) E.1) (a3 : vp_in (v + 3) E.1) (a4 : vp_in (v + 4) E.1) (H : ∀ h', Rel (B + 1) h' → rR E (rCall E 40) mLw_law Post 1699 [some (pC 0), some (pR 0), some (pR 35), some (pI v)] [] SH h' 50 1353) : rR E (rCall E 40) mLw_law Post 885 [some (pC 0), some (pR 0), some (pR 35), some (pI v)] [] SH h 50 1353 :=
  vLw_885 (lawT2 a1 a2 (op_st hB hR (op_pitFor hB _ _)) H)
theorem law_918 (hB : B + 1 < 1000000) (hB8 : 8 ≤ B) (hR : Rel B h) (a1 : vp_in (v + 1) E.1) (a2 : vp_in (v + 2) E.1) (a3 : vp_in (v + 3) E.1) (a4 : vp_in (v + 4) E.1) (H : ∀ h', Rel (B + 1) h' → rR E (rCall E 40) mLw_law Post 1699 [some (pC 0), some (pR 0), some (pR 35), some (pI v)] [] SH h' 50 1353) : rR E (rCall E 40) mLw_law Post 918 [some (pC 0), some (pR 0), some (pR 35), some (pI v)] [] SH h 50 1353 :=
  vLw_918 (lawT2 a1 a2 (op_st hB hR (op_kindFor hB _ _)) H)
theorem law_951 (hB : B + 1 < 1000000) (hB8 : 8 ≤ B) (hR : Rel B h) (a1 : vp_in (v + 1) E.1) (a2 : vp_in (v + 2) E.1) (a3 : vp_in (v + 3) E.1) (a4 : vp_in (v + 4) E.1) (H : ∀ h', Rel (B + 1) h' → rR E (rCall E 40) mLw_law Post 1699 [some (pC 0), some (pR 0), some (pR 35), some (pI v)] [] SH h' 50 1353) : rR E (rCall E 40) mLw_law Post 951 [some (pC 0), some (pR 0), some (pR 35), some (pI v)] [] SH h 50 1353 :=
  vLw_951 (lawT3 a1 a2 a3 (op_st hB hR (op_worthFor hB _ _ _)) H)
theorem law_994 (hB : B + 1 < 1000000) (hB8 : 8 ≤ B) (hR : Rel B h) (a1 : vp_in (v + 1) E.1) (a2 : vp_in (v + 2) E.1) (a3 : vp_in (v + 3) E.1) (a4 : vp_in (v + 4) E.1) (H : ∀ h', Rel (B + 1) h' → rR E (rCall E 40) mLw_law Post 1699 [some (pC 0), some (pR 0), some (pR 35), some (pI v)] [] SH h' 50 1353) : rR E (rCall E 40) mLw_law Post 994 [some (pC 0), some (pR 0), some (pR 35), some (pI v)] [] SH h 50 1353 :=
  vLw_994 (lawT1 a1 (op_st hB hR (op_beginFor hB _)) H)
theorem law_1017 (hB : B + 1 < 1000000) (hB8 : 8 ≤ B) (hR : Rel B h) (a1 : vp_in (v + 1) E.1) (a2 : vp_in (v + 2) E.1) (a3 : vp_in (v + 3) E.1) (a4 : vp_in (v + 4) E.1) (H : ∀ h', Rel (B + 1) h' → rR E (rCall E 40) mLw_law Post 1699 [some (pC 0), some (pR 0), some (pR 35), some (pI v)] [] SH h' 50 1353) : rR E (rCall E 40) mLw_law Post 1017 [some (pC 0), some (pR 0), some (pR 35), some (pI v)] [] SH h 50 1353 :=
  vLw_1017 (lawT2 a1 a2 (op_st hB hR (op_awayFor hB _ _)) H)
theorem law_1050 (hB : B + 1 < 1000000) (hB8 : 8 ≤ B) (hR : Rel B h) (a1 : vp_in (v + 1) E.1) (a2 : vp_in (v + 2) E.1) (a3 : vp_in (v + 3) E.1) (a4 : vp_in (v + 4) E.1) (H : ∀ h', Rel (B + 1) h' → rR E (rCall E 40) mLw_law Post 1699 [some (pC 0), some (pR 0), some (pR 35), some (pI v)] [] SH h' 50 1353) : rR E (rCall E 40) mLw_law Post 1050 [some (pC 0), some (pR 0), some (pR 35), some (pI v)] [] SH h 50 1353 :=
  vLw_1050 (lawT1 a1 (op_st hB hR (op_above hB _)) H)
theorem law_1073 (hB : B + 1 < 1000000) (hB8 : 8 ≤ B) (hR : Rel B h) (a1 : vp_in (v + 1) E.1) (a2 : vp_in (v + 2) E.1) (a3 : vp_in (v + 3) E.1) (a4 : vp_in (v + 4) E.1) (H : ∀ h', Rel (B + 1) h' → rR E (rCall E 40) mLw_law Post 1699 [some (pC 0), some (pR 0), some (pR 35), some (pI v)] [] SH h' 50 1353) : rR E (rCall E 40) mLw_law Post 1073 [some (pC 0), some (pR 0), some (pR 35), some (pI v)] [] SH h 50 1353 :=
  vLw_1073 (lawT3 a1 a2 a3 (two_fits hB hR _ _ _) H)
theorem law_1116 (hB : B + 1 < 1000000) (hB8 : 8 ≤ B) (hR : Rel B h) (a1 : vp_in (v + 1) E.1) (a2 : vp_in (v + 2) E.1) (a3 : vp_in (v + 3) E.1) (a4 : vp_in (v + 4) E.1) (H : ∀ h', Rel (B + 1) h' → rR E (rCall E 40) mLw_law Post 1699 [some (pC 0), some (pR 0), some (pR 35), some (pI v)] [] SH h' 50 1353) : rR E (rCall E 40) mLw_law Post 1116 [some (pC 0), some (pR 0), some (pR 35), some (pI v)] [] SH h 50 1353 :=
  vLw_1116 (lawL3 a1 a2 a3 (two_odds hB hR _ _ _) H)
theorem law_1160 (hB : B + 1 < 1000000) (hB8 : 8 ≤ B) (hR : Rel B h) (a1 : vp_in (v + 1) E.1) (a2 : vp_in (v + 2) E.1) (a3 : vp_in (v + 3) E.1) (a4 : vp_in (v + 4) E.1) (H : ∀ h', Rel (B + 1) h' → rR E (rCall E 40) mLw_law Post 1699 [some (pC 0), some (pR 0), some (pR 35), some (pI v)] [] SH h' 50 1353) : rR E (rCall E 40) mLw_law Post 1160 [some (pC 0), some (pR 0), some (pR 35), some (pI v)] [] SH h 50 1353 :=
  vLw_1160 (lawL2 a1 a2 (two_hope hB hR _ _) H)
theorem law_1194 (hB : B + 1 < 1000000) (hB8 : 8 ≤ B) (hR : Rel B h) (a1 : vp_in (v + 1) E.1) (a2 : vp_in (v + 2) E.1) (a3 : vp_in (v + 3) E.1) (a4 : vp_in (v + 4) E.1) (H : ∀ h', Rel (B + 1) h' → rR E (rCall E 40) mLw_law Post 1699 [some (pC 0), some (pR 0), some (pR 35), some (pI v)] [] SH h' 50 1353) : rR E (rCall E 40) mLw_law Post 1194 [some (pC 0), some (pR 0), some (pR 35), some (pI v)] [] SH h 50 1353 :=
  vLw_1194 (lawT2 a1 a2 (two_prove hB hR _ _) H)
theorem law_1227 (hB : B + 1 < 1000000) (hB8 : 8 ≤ B) (hR : Rel B h) (a1 : vp_in (v + 1) E.1) (a2 : vp_in (v + 2) E.1) (a3 : vp_in (v + 3) E.1) (a4 : vp_in (v + 4) E.1) (H : ∀ h', Rel (B + 1) h' → rR E (rCall E 40) mLw_law Post 1699 [some (pC 0), some (pR 0), some (pR 35), some (pI v)] [] SH h' 50 1353) : rR E (rCall E 40) mLw_law Post 1227 [some (pC 0), some (pR 0), some (pR 35), some (pI v)] [] SH h 50 1353 :=
  vLw_1227 (lawT2 a1 a2 (two_row hB hR _ _) H)
theorem law_1260 (hB : B + 1 < 1000000) (hB8 : 8 ≤ B) (hR : Rel B h) (a1 : vp_in (v + 1) E.1) (a2 : vp_in (v + 2) E.1) (a3 : vp_in (v + 3) E.1) (a4 : vp_in (v + 4) E.1) (H : ∀ h', Rel (B + 1) h' → rR E (rCall E 40) mLw_law Post 1699 [some (pC 0), some (pR 0), some (pR 35), some (pI v)] [] SH h' 50 1353) : rR E (rCall E 40) mLw_law Post 1260 [some (pC 0), some (pR 0), some (pR 35), some (pI v)] [] SH h 50 1353 :=
  vLw_1260 (lawT3 a1 a2 a3 (two_alterRow hB hR _ _ _) H)
theorem law_1303 (hB : B + 1 < 1000000) (hB8 : 8 ≤ B) (hR : Rel B h) (a1 : vp_in (v + 1) E.1) (a2 : vp_in (v + 2) E.1) (a3 : vp_in (v + 3) E.1) (a4 : vp_in (v + 4) E.1) (H : ∀ h', Rel (B + 1) h' → rR E (rCall E 40) mLw_law Post 1699 [some (pC 0), some (pR 0), some (pR 35), some (pI v)] [] SH h' 50 1353) : rR E (rCall E 40) mLw_law Post 1303 [some (pC 0), some (pR 0), some (pR 35), some (pI v)] [] SH h 50 1353 :=
  vLw_1303 (lawT1 a1 (two_judge hB hR _) H)
theorem law_1326 (hB : B + 1 < 1000000) (hB8 : 8 ≤ B) (hR : Rel B h) (a1 : vp_in (v + 1) E.1) (a2 : vp_in (v + 2) E.1) (a3 : vp_in (v + 3) E.1) (a4 : vp_in (v + 4) E.1) (H : ∀ h', Rel (B + 1) h' → rR E (rCall E 40) mLw_law Post 1699 [some (pC 0), some (pR 0), some (pR 35), some (pI v)] [] SH h' 50 1353) : rR E (rCall E 40) mLw_law Post 1326 [some (pC 0), some (pR 0), some (pR 35), some (pI v)] [] SH h 50 1353 :=
  vLw_1326 (lawT4 a1 a2 a3 a4 (two_minds hB hR _ _ _ _) H)
theorem law_1379 (hB : B + 1 < 1000000) (hB8 : 8 ≤ B) (hR : Rel B h) (a1 : vp_in (v + 1) E.1) (a2 : vp_in (v + 2) E.1) (a3 : vp_in (v + 3) E.1) (a4 : vp_in (v + 4) E.1) (H : ∀ h', Rel (B + 1) h' → rR E (rCall E 40) mLw_law Post 1699 [some (pC 0), some (pR 0), some (pR 35), some (pI v)] [] SH h' 50 1353) : rR E (rCall E 40) mLw_law Post 1379 [some (pC 0), some (pR 0), some (pR 35), some (pI v)] [] SH h 50 1353 :=
  vLw_1379 (lawT3 a1 a2 a3 (two_sheet hB hR _ _ _) H)
theorem law_1422 (hB : B + 1 < 1000000) (hB8 : 8 ≤ B) (hR : Rel B h) (a1 : vp_in (v + 1) E.1) (a2 : vp_in (v + 2) E.1) (a3 : vp_in (v + 3) E.1) (a4 : vp_in (v + 4) E.1) (H : ∀ h', Rel (B + 1) h' → rR E (rCall E 40) mLw_law Post 1699 [some (pC 0), some (pR 0), some (pR 35), some (pI v)] [] SH h' 50 1353) : rR E (rCall E 40) mLw_law Post 1422 [some (pC 0), some (pR 0), some (pR 35), some (pI v)] [] SH h 50 1353 :=
  vLw_1422 (lawT3 a1 a2 a3 (two_put hB hR _ _ _) H)
theorem law_1465 (hB : B + 1 < 1000000) (hB8 : 8 ≤ B) (hR : Rel B h) (a1 : vp_in (v + 1) E.1) (a2 : vp_in (v + 2) E.1) (a3 : vp_in (v + 3) E.1) (a4 : vp_in (v + 4) E.1) (H : ∀ h', Rel (B + 1) h' → rR E (rCall E 40) mLw_law Post 1699 [some (pC 0), some (pR 0), some (pR 35), some (pI v)] [] SH h' 50 1353) : rR E (rCall E 40) mLw_law Post 1465 [some (pC 0), some (pR 0), some (pR 35), some (pI v)] [] SH h 50 1353 :=
  vLw_1465 (lawT3 a1 a2 a3 (two_item hB hR _ _ _) H)
theorem law_1508 (hB : B + 1 < 1000000) (hB8 : 8 ≤ B) (hR : Rel B h) (a1 : vp_in (v + 1) E.1) (a2 : vp_in (v + 2) E.1) (a3 : vp_in (v + 3) E.1) (a4 : vp_in (v + 4) E.1) (H : ∀ h', Rel (B + 1) h' → rR E (rCall E 40) mLw_law Post 1699 [some (pC 0), some (pR 0), some (pR 35), some (pI v)] [] SH h' 50 1353) : rR E (rCall E 40) mLw_law Post 1508 [some (pC 0), some (pR 0), some (pR 35), some (pI v)] [] SH h 50 1353 :=
  vLw_1508 (lawT3 a1 a2 a3 (two_shelf hB hR _ _ _) H)
theorem law_1551 (hB : B + 1 < 1000000) (hB8 : 8 ≤ B) (hR : Rel B h) (a1 : vp_in (v + 1) E.1) (a2 : vp_in (v + 2) E.1) (a3 : vp_in (v + 3) E.1) (a4 : vp_in (v + 4) E.1) (H : ∀ h', Rel (B + 1) h' → rR E (rCall E 40) mLw_law Post 1699 [some (pC 0), some (pR 0), some (pR 35), some (pI v)] [] SH h' 50 1353) : rR E (rCall E 40) mLw_law Post 1551 [some (pC 0), some (pR 0), some (pR 35), some (pI v)] [] SH h 50 1353 :=
  vLw_1551 (lawT2 a1 a2 (two_taken hB hR _ _) H)
theorem law_1584 (hB : B + 1 < 1000000) (hB8 : 8 ≤ B) (hR : Rel B h) (a1 : vp_in (v + 1) E.1) (a2 : vp_in (v + 2) E.1) (a3 : vp_in (v + 3) E.1) (a4 : vp_in (v + 4) E.1) (H : ∀ h', Rel (B + 1) h' → rR E (rCall E 40) mLw_law Post 1699 [some (pC 0), some (pR 0), some (pR 35), some (pI v)] [] SH h' 50 1353) : rR E (rCall E 40) mLw_law Post 1584 [some (pC 0), some (pR 0), some (pR 35), some (pI v)] [] SH h 50 1353 :=
  vLw_1584 (lawT3 a1 a2 a3 (two_act hB hR _ _ _) H)
theorem law_1627 (hB : B + 1 < 1000000) (hB8 : 8 ≤ B) (hR : Rel B h) (a1 : vp_in (v + 1) E.1) (a2 : vp_in (v + 2) E.1) (a3 : vp_in (v + 3) E.1) (a4 : vp_in (v + 4) E.1) (H : ∀ h', Rel (B + 1) h' → rR E (rCall E 40) mLw_law Post 1699 [some (pC 0), some (pR 0), some (pR 35), some (pI v)] [] SH h' 50 1353) : rR E (rCall E 40) mLw_law Post 1627 [some (pC 0), some (pR 0), some (pR 35), some (pI v)] [] SH h 50 1353 :=
  vLw_1627 (lawT1 a1 (two_trace hB hR _) H)
theorem law_1650 (hB : B + 1 < 1000000) (hB8 : 8 ≤ B) (hR : Rel B h) (a1 : vp_in (v + 1) E.1) (a2 : vp_in (v + 2) E.1) (a3 : vp_in (v + 3) E.1) (a4 : vp_in (v + 4) E.1) (H : ∀ h', Rel (B + 1) h' → rR E (rCall E 40) mLw_law Post 1699 [some (pC 0), some (pR 0), some (pR 35), some (pI v)] [] SH h' 50 1353) : rR E (rCall E 40) mLw_law Post 1650 [some (pC 0), some (pR 0), some (pR 35), some (pI v)] [] SH h 50 1353 :=
  vLw_1650 (lawT1 a1 (two_many hB hR _) H)
theorem law_1673 (hB : B + 1 < 1000000) (hB8 : 8 ≤ B) (hR : Rel B h) (a1 : vp_in (v + 1) E.1) (a2 : vp_in (v + 2) E.1) (a3 : vp_in (v + 3) E.1) (a4 : vp_in (v + 4) E.1) (H : ∀ h', Rel (B + 1) h' → rR E (rCall E 40) mLw_law Post 1699 [some (pC 0), some (pR 0), some (pR 35), some (pI v)] [] SH h' 50 1353) : rR E (rCall E 40) mLw_law Post 1673 [some (pC 0), some (pR 0), some (pR 35), some (pI v)] [] SH h 50 1353 :=
  vLw_1673 (lawT0 (two_keep hB hR) H)
theorem law_1686 (hB : B + 1 < 1000000) (hB8 : 8 ≤ B) (hR : Rel B h) (a1 : vp_in (v + 1) E.1) (a2 : vp_in (v + 2) E.1) (a3 : vp_in (v + 3) E.1) (a4 : vp_in (v + 4) E.1) (H : ∀ h', Rel (B + 1) h' → rR E (rCall E 40) mLw_law Post 1699 [some (pC 0), some (pR 0), some (pR 35), some (pI v)] [] SH h' 50 1353) : rR E (rCall E 40) mLw_law Post 1686 [some (pC 0), some (pR 0), some (pR 35), some (pI v)] [] SH h 50 1353 :=
  vLw_1686 (lawT0 (two_again hB hR) H)
set_option maxRecDepth 10000 in
theorem law_go (hB : B + 1 < 1000000) (hB8 : 8 ≤ B) (hR : Rel B h) (a0 : vp_in v E.1) (a1 : vp_in (v + 1) E.1) (a2 : vp_in (v + 2) E.1) (a3 : vp_in (v + 3) E.1) (a4 : vp_in (v + 4) E.1) (a5 : ¬ Int32.ofNat E.1 - 5 < v) (H : ∀ h', Rel (B + 1) h' → rR E (rCall E 40) mLw_law Post 1699 [some (pC 0), some (pR 0), some (pR 35), some (pI v)] [] SH h' 50 1353) : rR E (rCall E 40) mLw_law Post 18 [some (pC 0), some (pR 0), some (pR 35), some (pI v)] [] SH h 50 1353 :=
  vLw_18 ⟨fun c => absurd c a5, fun _ => And.intro a0 (And.intro (fun _ => law_236 hB hB8 hR a1 a2 a3 a4 H) (fun _ => And.intro (fun _ => law_299 hB hB8 hR a1 a2 a3 a4 H) (fun _ => And.intro (fun _ => law_312 hB hB8 hR a1 a2 a3 a4 H) (fun _ => And.intro (fun _ => law_345 hB hB8 hR a1 a2 a3 a4 H) (fun _ => And.intro (fun _ => law_368 hB hB8 hR a1 a2 a3 a4 H) (fun _ => And.intro (fun _ => law_421 hB hB8 hR a1 a2 a3 a4 H) (fun _ => And.intro (fun _ => law_454 hB hB8 hR a1 a2 a3 a4 H) (fun _ => And.intro (fun _ => law_487 hB hB8 hR a1 a2 a3 a4 H) (fun _ => And.intro (fun _ => law_530 hB hB8 hR a1 a2 a3 a4 H) (fun _ => And.intro (fun _ => law_563 hB hB8 hR a1 a2 a3 a4 H) (fun _ => And.intro (fun _ => law_596 hB hB8 hR a1 a2 a3 a4 H) (fun _ => And.intro (fun _ => law_619 hB hB8 hR a1 a2 a3 a4 H) (fun _ => And.intro (fun _ => law_642 hB hB8 hR a1 a2 a3 a4 H) (fun _ => And.intro (fun _ => law_665 hB hB8 hR a1 a2 a3 a4 H) (fun _ => And.intro (fun _ => law_698 hB hB8 hR a1 a2 a3 a4 H) (fun _ => And.intro (fun _ => law_721 hB hB8 hR a1 a2 a3 a4 H) (fun _ => And.intro (fun _ => law_744 hB hB8 hR a1 a2 a3 a4 H) (fun _ => And.intro (fun _ => law_757 hB hB8 hR a1 a2 a3 a4 H) (fun _ => And.intro (fun _ => law_780 hB hB8 hR a1 a2 a3 a4 H) (fun _ => And.intro (fun _ => law_803 hB hB8 hR a1 a2 a3 a4 H) (fun _ => And.intro (fun _ => law_826 hB hB8 hR a1 a2 a3 a4 H) (fun _ => And.intro (fun _ => law_849 hB hB8 hR a1 a2 a3 a4 H) (fun _ => And.intro (fun _ => law_862 hB hB8 hR a1 a2 a3 a4 H) (fun _ => And.intro (fun _ => law_885 hB hB8 hR a1 a2 a3 a4 H) (fun _ => And.intro (fun _ => law_918 hB hB8 hR a1 a2 a3 a4 H) (fun _ => And.intro (fun _ => law_951 hB hB8 hR a1 a2 a3 a4 H) (fun _ => And.intro (fun _ => law_994 hB hB8 hR a1 a2 a3 a4 H) (fun _ => And.intro (fun _ => law_1017 hB hB8 hR a1 a2 a3 a4 H) (fun _ => And.intro (fun _ => law_1050 hB hB8 hR a1 a2 a3 a4 H) (fun _ => And.intro (fun _ => law_1073 hB hB8 hR a1 a2 a3 a4 H) (fun _ => And.intro (fun _ => law_1116 hB hB8 hR a1 a2 a3 a4 H) (fun _ => And.intro (fun _ => law_1160 hB hB8 hR a1 a2 a3 a4 H) (fun _ => And.intro (fun _ => law_1194 hB hB8 hR a1 a2 a3 a4 H) (fun _ => And.intro (fun _ => law_1227 hB hB8 hR a1 a2 a3 a4 H) (fun _ => And.intro (fun _ => law_1260 hB hB8 hR a1 a2 a3 a4 H) (fun _ => And.intro (fun _ => law_1303 hB hB8 hR a1 a2 a3 a4 H) (fun _ => And.intro (fun _ => law_1326 hB hB8 hR a1 a2 a3 a4 H) (fun _ => And.intro (fun _ => law_1379 hB hB8 hR a1 a2 a3 a4 H) (fun _ => And.intro (fun _ => law_1422 hB hB8 hR a1 a2 a3 a4 H) (fun _ => And.intro (fun _ => law_1465 hB hB8 hR a1 a2 a3 a4 H) (fun _ => And.intro (fun _ => law_1508 hB hB8 hR a1 a2 a3 a4 H) (fun _ => And.intro (fun _ => law_1551 hB hB8 hR a1 a2 a3 a4 H) (fun _ => And.intro (fun _ => law_1584 hB hB8 hR a1 a2 a3 a4 H) (fun _ => And.intro (fun _ => law_1627 hB hB8 hR a1 a2 a3 a4 H) (fun _ => And.intro (fun _ => law_1650 hB hB8 hR a1 a2 a3 a4 H) (fun _ => And.intro (fun _ => law_1673 hB hB8 hR a1 a2 a3 a4 H) (fun _ => And.intro (fun _ => law_1686 hB hB8 hR a1 a2 a3 a4 H) (fun _ => H h (Rel_up hB hR)))))))))))))))))))))))))))))))))))))))))))))))))⟩
theorem fiv {L i : Nat} (hL : L ≤ 2560) (hi : i ≤ 2565) : Int32.ofNat L - 5 < nI i ↔ L < i + 5 := by
  rcases Nat.lt_or_ge L 5 with c | c
  · refine ⟨fun _ => by omega, fun _ => ?_⟩
    rw [Int32.lt_iff_toInt_lt, nI_toInt (by omega)]
    have : (Int32.ofNat L - 5).toInt < 0 := by
      rcases (show L = 0 ∨ L = 1 ∨ L = 2 ∨ L = 3 ∨ L = 4 by omega) with e | e | e | e | e <;> subst e <;> decide
    omega
  · have e : Int32.ofNat L - 5 = nI (L - 5) := by
      have := nI_add (L - 5) 5
      rw [show L - 5 + 5 = L by omega] at this
      show nI L - 5 = _
      rw [← this]
      exact Int32.add_sub_cancel _ _
    rw [e, nI_ltI (by omega) (by omega)]
    omega
theorem law_loop (hL : E.1 ≤ 2560) (hP : ∀ h, Post (some (pI 1)) SH h) : ∀ (m j : Nat) (h : rHp), j + m = 513 → Rel (8 + j) h → rR E (rCall E 40) mLw_law Post 18 [some (pC 0), some (pR 0), some (pR 35), some (pI (nI (5 * j)))] [] SH h 50 1353 := by
  intro m
  induction m with
  | zero =>
    intro j h e hR
    refine vLw_18 ⟨fun _ => hP h, fun c => absurd ?_ c⟩
    exact (fiv hL (by omega)).mpr (by omega)
  | succ m ih =>
    intro j h e hR
    by_cases c : E.1 < 5 * j + 5
    · exact vLw_18 ⟨fun _ => hP h, fun c2 => absurd ((fiv hL (by omega)).mpr c) c2⟩
    · have vi : ∀ k, k < 5 → vp_in (nI (5 * j) + nI k) E.1 := fun k hk => by
        rw [nI_add]
        exact nI_in (by omega) (by omega)
      have v0 : vp_in (nI (5 * j)) E.1 := nI_in (by omega) (by omega)
      refine law_go (B := 8 + j) (by omega) (by omega) hR v0 (vi 1 (by omega)) (vi 2 (by omega)) (vi 3 (by omega)) (vi 4 (by omega)) (fun c2 => c ((fiv hL (by omega)).mp c2)) (fun h' hR' => vLw_1699 ?_)
      have : nI (5 * j) + (5:Int32) = nI (5 * (j + 1)) := nI_add (5 * j) 5
      rw [this]
      exact ih (j + 1) h' (by omega) hR'
end
