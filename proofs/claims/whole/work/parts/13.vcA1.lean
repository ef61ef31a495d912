/-! what each method's code asks (by program, out of the printed decode rows): the walk between loop heads is the kernel's -/
def SH : rSh := [.inl (5, [some (some 1), some (some 8), some (some 15), some (some 22), some (some 24), some (some 28), some (some 32), some (some 34), none, none]), .inl (3, [some (some 2), some (some 3), some (some 4), some (some 5), some (some 7), some (some 6), none, none, none, none, none, none]), .inr (false, 8), .inr (false, 8), .inr (false, 8), .inr (false, 8), .inr (false, 8), .inr (false, 4), .inl (3, [some (some 9), some (some 10), some (some 11), some (some 12), some (some 14), some (some 13), none, none, none, none, none, none]), .inr (false, 8), .inr (false, 8), .inr (false, 8), .inr (false, 8), .inr (false, 8), .inr (false, 4), .inl (3, [some (some 16), some (some 17), some (some 18), some (some 19), some (some 21), some (some 20), none, none, none, none, none, none]), .inr (false, 8), .inr (false, 8), .inr (false, 8), .inr (false, 8), .inr (false, 8), .inr (false, 4), .inl (4, [some (some 23), none, none, none, none, none]), .inr (true, 200), .inl (1, [some (some 25), some (some 26), some (some 27)]), .inr (false, 4), .inr (false, 4), .inr (false, 160), .inl (2, [some (some 29), some (some 30), some (some 31)]), .inr (false, 4), .inr (false, 4), .inr (false, 4), .inl (0, [some (some 33), none, none, none, none, none]), .inr (false, 30), .inr (false, 30), .inl (6, [some (some 36), some (some 37), some (some 38), some (some 39), some (some 40), none, some (some 41), none, none, none, none, none, none, some (some 42), none, some (some 43), some (some 44), some (some 45), some (some 46), some (some 47), some (some 48), some (some 49), none, none, none, none, none]), .inr (false, 50), .inr (false, 50), .inr (false, 50), .inr (false, 50), .inr (false, 50), .inr (false, 200), .inr (false, 30), .inr (false, 4), .inr (false, 4), .inr (false, 160), .inr (false, 4), .inr (false, 4), .inr (false, 4), .inr (false, 30)]
def oI (o : Option Int32) : Option rPV := match o with | none => none | some x => some (pI x)
def oL (o : Option Int64) : Option rPV := match o with | none => none | some x => some (pL x)
theorem rCall_mono {E : rE} {d : Nat} {M : rM} {as : List rPV} {sh : rSh} {h : rHp} {P Q : rPost} (hPQ : ∀ v sh h, P v sh h → Q v sh h) (H : rCall E d M as sh h P) : rCall E d M as sh h Q := by
  cases d with
  | zero => exact H
  | succ d =>
    obtain ⟨h1, h2⟩ := bB_ok H
    show bB _ _
    rw [h1]
    exact rR_mono hPQ h2
theorem rPi_mono {sh : rSh} {f g : Int32 → rHp → Prop} (h : ∀ x h, f x h → g x h) : ∀ v s t, rPi sh f v s t → rPi sh g v s t := by
  intro v s t ⟨h1, h2⟩
  refine ⟨h1, ?_⟩
  split at h2
  · exact h _ _ h2
  · exact h2.elim
theorem rPl_mono {sh : rSh} {f g : Int64 → rHp → Prop} (h : ∀ x h, f x h → g x h) : ∀ v s t, rPl sh f v s t → rPl sh g v s t := by
  intro v s t ⟨h1, h2⟩
  refine ⟨h1, ?_⟩
  split at h2
  · exact h _ _ h2
  · exact h2.elim
theorem rPn_mono {sh : rSh} {f g : rHp → Prop} (h : ∀ h, f h → g h) : ∀ v s t, rPn sh f v s t → rPn sh g v s t := by
  intro v s t ⟨h1, h2⟩
  refine ⟨h1, ?_⟩
  split at h2
  · exact h _ h2
  · exact h2.elim
theorem kc_bm100 : (Int8.ofInt (-100)).toInt32 = (-100:Int32) := by decide +kernel
theorem kc_bm11 : (Int8.ofInt (-11)).toInt32 = (-11:Int32) := by decide +kernel
theorem kc_bm12 : (Int8.ofInt (-12)).toInt32 = (-12:Int32) := by decide +kernel
theorem kc_bm13 : (Int8.ofInt (-13)).toInt32 = (-13:Int32) := by decide +kernel
theorem kc_bm14 : (Int8.ofInt (-14)).toInt32 = (-14:Int32) := by decide +kernel
theorem kc_bm15 : (Int8.ofInt (-15)).toInt32 = (-15:Int32) := by decide +kernel
theorem kc_bm2 : (Int8.ofInt (-2)).toInt32 = (-2:Int32) := by decide +kernel
theorem kc_bm3 : (Int8.ofInt (-3)).toInt32 = (-3:Int32) := by decide +kernel
theorem kc_bm9 : (Int8.ofInt (-9)).toInt32 = (-9:Int32) := by decide +kernel
theorem kc_b100 : (Int8.ofInt 100).toInt32 = (100:Int32) := by decide +kernel
theorem kc_b101 : (Int8.ofInt 101).toInt32 = (101:Int32) := by decide +kernel
theorem kc_b102 : (Int8.ofInt 102).toInt32 = (102:Int32) := by decide +kernel
theorem kc_b103 : (Int8.ofInt 103).toInt32 = (103:Int32) := by decide +kernel
theorem kc_b104 : (Int8.ofInt 104).toInt32 = (104:Int32) := by decide +kernel
theorem kc_b105 : (Int8.ofInt 105).toInt32 = (105:Int32) := by decide +kernel
theorem kc_b108 : (Int8.ofInt 108).toInt32 = (108:Int32) := by decide +kernel
theorem kc_b109 : (Int8.ofInt 109).toInt32 = (109:Int32) := by decide +kernel
theorem kc_b10 : (Int8.ofInt 10).toInt32 = (10:Int32) := by decide +kernel
theorem kc_b110 : (Int8.ofInt 110).toInt32 = (110:Int32) := by decide +kernel
theorem kc_b111 : (Int8.ofInt 111).toInt32 = (111:Int32) := by decide +kernel
theorem kc_b112 : (Int8.ofInt 112).toInt32 = (112:Int32) := by decide +kernel
theorem kc_b114 : (Int8.ofInt 114).toInt32 = (114:Int32) := by decide +kernel
theorem kc_b115 : (Int8.ofInt 115).toInt32 = (115:Int32) := by decide +kernel
theorem kc_b116 : (Int8.ofInt 116).toInt32 = (116:Int32) := by decide +kernel
theorem kc_b117 : (Int8.ofInt 117).toInt32 = (117:Int32) := by decide +kernel
theorem kc_b118 : (Int8.ofInt 118).toInt32 = (118:Int32) := by decide +kernel
theorem kc_b119 : (Int8.ofInt 119).toInt32 = (119:Int32) := by decide +kernel
theorem kc_b11 : (Int8.ofInt 11).toInt32 = (11:Int32) := by decide +kernel
theorem kc_b122 : (Int8.ofInt 122).toInt32 = (122:Int32) := by decide +kernel
theorem kc_b12 : (Int8.ofInt 12).toInt32 = (12:Int32) := by decide +kernel
theorem kc_b13 : (Int8.ofInt 13).toInt32 = (13:Int32) := by decide +kernel
theorem kc_b16 : (Int8.ofInt 16).toInt32 = (16:Int32) := by decide +kernel
theorem kc_b20 : (Int8.ofInt 20).toInt32 = (20:Int32) := by decide +kernel
theorem kc_b30 : (Int8.ofInt 30).toInt32 = (30:Int32) := by decide +kernel
theorem kc_b31 : (Int8.ofInt 31).toInt32 = (31:Int32) := by decide +kernel
theorem kc_b32 : (Int8.ofInt 32).toInt32 = (32:Int32) := by decide +kernel
theorem kc_b40 : (Int8.ofInt 40).toInt32 = (40:Int32) := by decide +kernel
theorem kc_b41 : (Int8.ofInt 41).toInt32 = (41:Int32) := by decide +kernel
theorem kc_b48 : (Int8.ofInt 48).toInt32 = (48:Int32) := by decide +kernel
theorem kc_b50 : (Int8.ofInt 50).toInt32 = (50:Int32) := by decide +kernel
theorem kc_b51 : (Int8.ofInt 51).toInt32 = (51:Int32) := by decide +kernel
theorem kc_b57 : (Int8.ofInt 57).toInt32 = (57:Int32) := by decide +kernel
theorem kc_b59 : (Int8.ofInt 59).toInt32 = (59:Int32) := by decide +kernel
theorem kc_b60 : (Int8.ofInt 60).toInt32 = (60:Int32) := by decide +kernel
theorem kc_b61 : (Int8.ofInt 61).toInt32 = (61:Int32) := by decide +kernel
theorem kc_b63 : (Int8.ofInt 63).toInt32 = (63:Int32) := by decide +kernel
theorem kc_b64 : (Int8.ofInt 64).toInt32 = (64:Int32) := by decide +kernel
theorem kc_b6 : (Int8.ofInt 6).toInt32 = (6:Int32) := by decide +kernel
theorem kc_b70 : (Int8.ofInt 70).toInt32 = (70:Int32) := by decide +kernel
theorem kc_b7 : (Int8.ofInt 7).toInt32 = (7:Int32) := by decide +kernel
theorem kc_b8 : (Int8.ofInt 8).toInt32 = (8:Int32) := by decide +kernel
theorem kc_b97 : (Int8.ofInt 97).toInt32 = (97:Int32) := by decide +kernel
theorem kc_b98 : (Int8.ofInt 98).toInt32 = (98:Int32) := by decide +kernel
theorem kc_b99 : (Int8.ofInt 99).toInt32 = (99:Int32) := by decide +kernel
theorem kc_b9 : (Int8.ofInt 9).toInt32 = (9:Int32) := by decide +kernel
theorem kc_s1000 : (Int16.ofInt 1000).toInt32 = (1000:Int32) := by decide +kernel
theorem kc_s12345 : (Int16.ofInt 12345).toInt32 = (12345:Int32) := by decide +kernel
theorem kc_s200 : (Int16.ofInt 200).toInt32 = (200:Int32) := by decide +kernel
theorem kc_s255 : (Int16.ofInt 255).toInt32 = (255:Int32) := by decide +kernel
theorem kc_s999 : (Int16.ofInt 999).toInt32 = (999:Int32) := by decide +kernel

set_option maxRecDepth 100000 in
set_option maxHeartbeats 1000000 in
theorem vAc_clear {E : rE} {d : Nat} {Post : rPost} {h : rHp} (H : Post none SH (rUp (rUp h 32 1 (0:Int32)) 32 5 (0:Int32))) : rCall E (d + 1) mAc_clear [pR 32] SH h Post := rEx_ok (zCut []) 8 (⟨Or.inl rfl, H⟩)
set_option maxRecDepth 100000 in
set_option maxHeartbeats 1000000 in
theorem vAc_holdOne {E : rE} {d : Nat} {Post : rPost} {h : rHp} {a1 : Int32} {a2 : Int32} {a3 : Int32} (H : Post none SH (rUp (rUp (rUp h 32 2 a1) 32 3 a2) 32 4 a3)) : rCall E (d + 1) mAc_holdOne [pR 32, pI a1, pI a2, pI a3] SH h Post := rEx_ok (zCut []) 11 H
set_option maxRecDepth 100000 in
set_option maxHeartbeats 1000000 in
theorem vAc_answer {E : rE} {d : Nat} {Post : rPost} {h : rHp} {a1 : Int32} {a2 : Int32} (H : rCall E d mAc_own [pR 32, pI a1, pI a2, pI (0:Int32)] SH h (rPi SH (fun x2 g1 => ((g1 32 5) = 0 → Post (some (pI x2)) SH g1) ∧ (¬ (g1 32 5) = 0 → Post (some (pI (-15:Int32))) SH g1)))) : rCall E (d + 1) mAc_answer [pR 32, pI a1, pI a2] SH h Post := by
  have H : rCall E d mAc_own [pR 32, pI a1, pI a2, pI (0:Int32)] SH h (rPi SH (fun x2 g1 => ((g1 32 5) = 0 → Post (some (pI x2)) SH g1) ∧ (¬ (g1 32 5) = 0 → Post (some (pI (Int8.ofInt (-15)).toInt32)) SH g1))) := by simp only [kc_bm15]; exact H
  exact rEx_ok (zCut []) 13 H
set_option maxRecDepth 100000 in
set_option maxHeartbeats 1000000 in
theorem vAc_own {E : rE} {d : Nat} {Post : rPost} {h : rHp} {a1 : Int32} {a2 : Int32} {a3 : Int32} (H : rCall E d mAc_bodyFor [pI (h 32 3), pI a1] SH h (rPi SH (fun x2 g1 => rCall E d mAc_run [pR 32, pI x2, pI a2, pI a3] SH g1 (rPi SH (fun x4 g3 => Post (some (pI x4)) SH g3))))) : rCall E (d + 1) mAc_own [pR 32, pI a1, pI a2, pI a3] SH h Post := rEx_ok (zCut []) 10 H
set_option maxRecDepth 100000 in
set_option maxHeartbeats 1000000 in
theorem vAc_inherited {E : rE} {d : Nat} {Post : rPost} {h : rHp} {a1 : Int32} {a2 : Int32} {a3 : Int32} {a4 : Int32} (H : vp_in a1 6 ∧ rCall E d mAc_bodyFor [pI (rUnder.getD a1.toNatClampNeg 0), pI a2] SH h (rPi SH (fun x2 g1 => rCall E d mAc_run [pR 32, pI x2, pI a3, pI a4] SH g1 (rPi SH (fun x4 g3 => Post (some (pI x4)) SH g3))))) : rCall E (d + 1) mAc_inherited [pR 32, pI a1, pI a2, pI a3, pI a4] SH h Post := rEx_ok (zCut []) 11 H
set_option maxRecDepth 100000 in
set_option maxHeartbeats 1000000 in
theorem vAc_bodyFor {E : rE} {d : Nat} {Post : rPost} {h : rHp} {a1 : Int32} {a2 : Int32} (H : rR E (rCall E d) mAc_bodyFor Post 4 [some (pI a1), some (pI a2), some (pI a1), some (pI (0:Int32)), none] [] SH h 0 0) : rCall E (d + 1) mAc_bodyFor [pI a1, pI a2] SH h Post := rEx_ok (zCut [4]) 6 H
set_option maxRecDepth 100000 in
set_option maxHeartbeats 1000000 in
theorem vAc_bodyFor_4 {E : rE} {d : Nat} {Post : rPost} {h : rHp} {v0 : Int32} {v1 : Int32} {v2 : Int32} {v3 : Int32} {o4 : Option Int32} (H : ((6:Int32) ≤ v3 → Post (some (pI (0:Int32))) SH h) ∧ (¬ (6:Int32) ≤ v3 → rCall E d mLa_within [pI v2, pI (5:Int32)] SH h (rPi SH (fun x2 g1 => (x2 = 0 → Post (some (pI (0:Int32))) SH g1) ∧ (¬ x2 = 0 → vp_in ((v2 * (4:Int32)) + v1) 24 ∧ ((rOwn.getD ((v2 * (4:Int32)) + v1).toNatClampNeg 0) = 0 → vp_in v2 6 ∧ rR E (rCall E d) mAc_bodyFor Post 4 [some (pI v0), some (pI v1), some (pI (rUnder.getD v2.toNatClampNeg 0)), some (pI (v3 + (1:Int32))), some (pI (rOwn.getD ((v2 * (4:Int32)) + v1).toNatClampNeg 0))] [] SH g1 0 0) ∧ (¬ (rOwn.getD ((v2 * (4:Int32)) + v1).toNatClampNeg 0) = 0 → Post (some (pI (rOwn.getD ((v2 * (4:Int32)) + v1).toNatClampNeg 0))) SH g1)))))) : rR E (rCall E d) mAc_bodyFor Post 4 [some (pI v0), some (pI v1), some (pI v2), some (pI v3), oI o4] [] SH h 0 0 := by
  have H : ((Int8.ofInt 6).toInt32 ≤ v3 → Post (some (pI (0:Int32))) SH h) ∧ (¬ (Int8.ofInt 6).toInt32 ≤ v3 → rCall E d mLa_within [pI v2, pI (5:Int32)] SH h (rPi SH (fun x2 g1 => (x2 = 0 → Post (some (pI (0:Int32))) SH g1) ∧ (¬ x2 = 0 → vp_in ((v2 * (4:Int32)) + v1) 24 ∧ ((rOwn.getD ((v2 * (4:Int32)) + v1).toNatClampNeg 0) = 0 → vp_in v2 6 ∧ rR E (rCall E d) mAc_bodyFor Post 4 [some (pI v0), some (pI v1), some (pI (rUnder.getD v2.toNatClampNeg 0)), some (pI (v3 + (1:Int32))), some (pI (rOwn.getD ((v2 * (4:Int32)) + v1).toNatClampNeg 0))] [] SH g1 0 0) ∧ (¬ (rOwn.getD ((v2 * (4:Int32)) + v1).toNatClampNeg 0) = 0 → Post (some (pI (rOwn.getD ((v2 * (4:Int32)) + v1).toNatClampNeg 0))) SH g1))))) := by simp only [kc_b6]; exact H
  exact (match o4, H with | none, H => rEx_ok (zCut [4]) 25 H | some _, H => rEx_ok (zCut [4]) 25 H)
set_option maxRecDepth 100000 in
set_option maxHeartbeats 1000000 in
theorem vAc_run {E : rE} {d : Nat} {Post : rPost} {h : rHp} {a1 : Int32} {a2 : Int32} {a3 : Int32} (H : ((h 32 5) = 0 → (a3 ≤ (40:Int32) → rCall E d mAc_note [pR 32, pI a1] SH h (rPn SH (fun g1 => (a1 = (10:Int32) → Post (some (pI ((a2 * (2:Int32)) + (g1 32 2)))) SH g1) ∧ (¬ a1 = (10:Int32) → (a1 = (11:Int32) → rCall E d mAc_own [pR 32, pI (0:Int32), pI a2, pI (a3 + (1:Int32))] SH g1 (rPi SH (fun x3 g2 => Post (some (pI ((x3 * (3:Int32)) - (g2 32 4)))) SH g2))) ∧ (¬ a1 = (11:Int32) → (a1 = (12:Int32) → rCall E d mAc_part [pR 32, pI a2] SH g1 (rPi SH (fun x5 g4 => Post (some (pI x5)) SH g4))) ∧ (¬ a1 = (12:Int32) → (a1 = (13:Int32) → rCall E d mAc_own [pR 32, pI (1:Int32), pI a2, pI (a3 + (1:Int32))] SH g1 (rPi SH (fun x7 g6 => Post (some (pI (x7 ^^^ (70:Int32)))) SH g6))) ∧ (¬ a1 = (13:Int32) → (a1 = (20:Int32) → rCall E d mAc_inherited [pR 32, pI (1:Int32), pI (1:Int32), pI a2, pI (a3 + (1:Int32))] SH g1 (rPi SH (fun x9 g8 => Post (some (pI (x9 + (8:Int32)))) SH g8))) ∧ (¬ a1 = (20:Int32) → (a1 = (30:Int32) → rCall E d mAc_inherited [pR 32, pI (2:Int32), pI (0:Int32), pI a2, pI (a3 + (1:Int32))] SH g1 (rPi SH (fun x11 g10 => Post (some (pI ((0:Int32) - x11))) SH g10))) ∧ (¬ a1 = (30:Int32) → (a1 = (31:Int32) → rCall E d mAc_inherited [pR 32, pI (2:Int32), pI (3:Int32), pI a2, pI (a3 + (1:Int32))] SH g1 (rPi SH (fun x13 g12 => rCall E d mAc_own [pR 32, pI (2:Int32), pI (g12 32 2), pI (a3 + (1:Int32))] SH g12 (rPi SH (fun x15 g14 => Post (some (pI (x13 - x15))) SH g14))))) ∧ (¬ a1 = (31:Int32) → (a1 = (40:Int32) → rCall E d mAc_inherited [pR 32, pI (4:Int32), pI (0:Int32), pI a2, pI (a3 + (1:Int32))] SH g1 (rPi SH (fun x17 g16 => Post (some (pI (x17 ^^^ (5:Int32)))) SH g16))) ∧ (¬ a1 = (40:Int32) → (a1 = (41:Int32) → rCall E d mAc_inherited [pR 32, pI (4:Int32), pI (1:Int32), pI a2, pI (a3 + (1:Int32))] SH g1 (rPi SH (fun x19 g18 => rCall E d mAc_own [pR 32, pI (0:Int32), pI (g18 32 4), pI (a3 + (1:Int32))] SH g18 (rPi SH (fun x21 g20 => Post (some (pI (x19 - x21))) SH g20))))) ∧ (¬ a1 = (41:Int32) → (a1 = (50:Int32) → rCall E d mAc_inherited [pR 32, pI (3:Int32), pI (2:Int32), pI (a2 + (9:Int32)), pI (a3 + (1:Int32))] SH g1 (rPi SH (fun x23 g22 => Post (some (pI (x23 * (2:Int32)))) SH g22))) ∧ (¬ a1 = (50:Int32) → (a1 = (51:Int32) → rCall E d mAc_inherited [pR 32, pI (3:Int32), pI (0:Int32), pI a2, pI (a3 + (1:Int32))] SH g1 (rPi SH (fun x25 g24 => Post (some (pI (x25 - (g24 32 2)))) SH g24))) ∧ (¬ a1 = (51:Int32) → (a1 = (60:Int32) → rCall E d mAc_inherited [pR 32, pI (5:Int32), pI (3:Int32), pI a2, pI (a3 + (1:Int32))] SH g1 (rPi SH (fun x27 g26 => Post (some (pI (x27 + (g26 32 4)))) SH g26))) ∧ (¬ a1 = (60:Int32) → (a1 = (61:Int32) → rCall E d mAc_inherited [pR 32, pI (5:Int32), pI (2:Int32), pI a2, pI (a3 + (1:Int32))] SH g1 (rPi SH (fun x29 g28 => rCall E d mAc_own [pR 32, pI (0:Int32), pI (g28 32 2), pI (a3 + (1:Int32))] SH g28 (rPi SH (fun x31 g30 => Post (some (pI (x29 ^^^ x31))) SH g30))))) ∧ (¬ a1 = (61:Int32) → Post (some (pI (0:Int32))) SH g1)))))))))))))))) ∧ (¬ a3 ≤ (40:Int32) → Post (some (pI (0:Int32))) SH h)) ∧ (¬ (h 32 5) = 0 → Post (some (pI (0:Int32))) SH h)) : rCall E (d + 1) mAc_run [pR 32, pI a1, pI a2, pI a3] SH h Post := by
  have H : ((h 32 5) = 0 → (a3 ≤ (Int8.ofInt 40).toInt32 → rCall E d mAc_note [pR 32, pI a1] SH h (rPn SH (fun g1 => (a1 = (10:Int32) → Post (some (pI ((a2 * (2:Int32)) + (g1 32 2)))) SH g1) ∧ (¬ a1 = (10:Int32) → (a1 = (11:Int32) → rCall E d mAc_own [pR 32, pI (0:Int32), pI a2, pI (a3 + (1:Int32))] SH g1 (rPi SH (fun x3 g2 => Post (some (pI ((x3 * (3:Int32)) - (g2 32 4)))) SH g2))) ∧ (¬ a1 = (11:Int32) → (a1 = (12:Int32) → rCall E d mAc_part [pR 32, pI a2] SH g1 (rPi SH (fun x5 g4 => Post (some (pI x5)) SH g4))) ∧ (¬ a1 = (12:Int32) → (a1 = (13:Int32) → rCall E d mAc_own [pR 32, pI (1:Int32), pI a2, pI (a3 + (1:Int32))] SH g1 (rPi SH (fun x7 g6 => Post (some (pI (x7 ^^^ (Int8.ofInt 70).toInt32))) SH g6))) ∧ (¬ a1 = (13:Int32) → (a1 = (20:Int32) → rCall E d mAc_inherited [pR 32, pI (1:Int32), pI (1:Int32), pI a2, pI (a3 + (1:Int32))] SH g1 (rPi SH (fun x9 g8 => Post (some (pI (x9 + (Int8.ofInt 8).toInt32))) SH g8))) ∧ (¬ a1 = (20:Int32) → (a1 = (30:Int32) → rCall E d mAc_inherited [pR 32, pI (2:Int32), pI (0:Int32), pI a2, pI (a3 + (1:Int32))] SH g1 (rPi SH (fun x11 g10 => Post (some (pI ((0:Int32) - x11))) SH g10))) ∧ (¬ a1 = (30:Int32) → (a1 = (31:Int32) → rCall E d mAc_inherited [pR 32, pI (2:Int32), pI (3:Int32), pI a2, pI (a3 + (1:Int32))] SH g1 (rPi SH (fun x13 g12 => rCall E d mAc_own [pR 32, pI (2:Int32), pI (g12 32 2), pI (a3 + (1:Int32))] SH g12 (rPi SH (fun x15 g14 => Post (some (pI (x13 - x15))) SH g14))))) ∧ (¬ a1 = (31:Int32) → (a1 = (40:Int32) → rCall E d mAc_inherited [pR 32, pI (4:Int32), pI (0:Int32), pI a2, pI (a3 + (1:Int32))] SH g1 (rPi SH (fun x17 g16 => Post (some (pI (x17 ^^^ (5:Int32)))) SH g16))) ∧ (¬ a1 = (40:Int32) → (a1 = (41:Int32) → rCall E d mAc_inherited [pR 32, pI (4:Int32), pI (1:Int32), pI a2, pI (a3 + (1:Int32))] SH g1 (rPi SH (fun x19 g18 => rCall E d mAc_own [pR 32, pI (0:Int32), pI (g18 32 4), pI (a3 + (1:Int32))] SH g18 (rPi SH (fun x21 g20 => Post (some (pI (x19 - x21))) SH g20))))) ∧ (¬ a1 = (41:Int32) → (a1 = (50:Int32) → rCall E d mAc_inherited [pR 32, pI (3:Int32), pI (2:Int32), pI (a2 + (Int8.ofInt 9).toInt32), pI (a3 + (1:Int32))] SH g1 (rPi SH (fun x23 g22 => Post (some (pI (x23 * (2:Int32)))) SH g22))) ∧ (¬ a1 = (50:Int32) → (a1 = (51:Int32) → rCall E d mAc_inherited [pR 32, pI (3:Int32), pI (0:Int32), pI a2, pI (a3 + (1:Int32))] SH g1 (rPi SH (fun x25 g24 => Post (some (pI (x25 - (g24 32 2)))) SH g24))) ∧ (¬ a1 = (51:Int32) → (a1 = (60:Int32) → rCall E d mAc_inherited [pR 32, pI (5:Int32), pI (3:Int32), pI a2, pI (a3 + (1:Int32))] SH g1 (rPi SH (fun x27 g26 => Post (some (pI (x27 + (g26 32 4)))) SH g26))) ∧ (¬ a1 = (60:Int32) → (a1 = (61:Int32) → rCall E d mAc_inherited [pR 32, pI (5:Int32), pI (2:Int32), pI a2, pI (a3 + (1:Int32))] SH g1 (rPi SH (fun x29 g28 => rCall E d mAc_own [pR 32, pI (0:Int32), pI (g28 32 2), pI (a3 + (1:Int32))] SH g28 (rPi SH (fun x31 g30 => Post (some (pI (x29 ^^^ x31))) SH g30))))) ∧ (¬ a1 = (61:Int32) → Post (some (pI (0:Int32))) SH g1)))))))))))))))) ∧ (¬ a3 ≤ (Int8.ofInt 40).toInt32 → Post (some (pI (0:Int32))) SH h)) ∧ (¬ (h 32 5) = 0 → Post (some (pI (0:Int32))) SH h) := by simp only [kc_b40, kc_b70, kc_b8, kc_b9]; exact H
  exact rEx_ok (zCut []) 30 H
set_option maxRecDepth 100000 in
set_option maxHeartbeats 1000000 in
theorem vAc_part {E : rE} {d : Nat} {Post : rPost} {h : rHp} {a1 : Int32} (H : (((h 32 4) - (h 32 2)) = 0 → Post (some (pI (0:Int32))) SH (rUp h 32 5 (1:Int32))) ∧ (¬ ((h 32 4) - (h 32 2)) = 0 → ¬ ((h 32 4) - (h 32 2)) = 0 ∧ Post (some (pI (a1 / ((h 32 4) - (h 32 2))))) SH h)) : rCall E (d + 1) mAc_part [pR 32, pI a1] SH h Post := rEx_ok (zCut []) 14 (And.intro (fun k1 => ⟨Or.inr rfl, (H.1 k1)⟩) (fun k1 => H.2 k1))
set_option maxRecDepth 100000 in
set_option maxHeartbeats 1000000 in
theorem vAc_note {E : rE} {d : Nat} {Post : rPost} {h : rHp} {a1 : Int32} (H : ((30:Int32) ≤ (h 32 1) → Post none SH h) ∧ (¬ (30:Int32) ≤ (h 32 1) → vp_in (h 32 1) 30 ∧ Post none SH (rUp (rUp h 33 (h 32 1).toNatClampNeg a1) 32 1 ((h 32 1) + (1:Int32))))) : rCall E (d + 1) mAc_note [pR 32, pI a1] SH h Post := by
  have H : ((Int8.ofInt 30).toInt32 ≤ (h 32 1) → Post none SH h) ∧ (¬ (Int8.ofInt 30).toInt32 ≤ (h 32 1) → vp_in (h 32 1) 30 ∧ Post none SH (rUp (rUp h 33 (h 32 1).toNatClampNeg a1) 32 1 ((h 32 1) + (1:Int32)))) := by simp only [kc_b30]; exact H
  exact rEx_ok (zCut []) 18 H
set_option maxRecDepth 100000 in
set_option maxHeartbeats 1000000 in
theorem vSe_begin {E : rE} {d : Nat} {Post : rPost} {h : rHp} {a1 : Int32} {a2 : Int32} {a3 : Int32} (H : vp_in a1 4 ∧ vp_in a1 4 ∧ rR E (rCall E d) mSe_begin Post 17 [some (pR 24), some (pI a1), some (pI a2), some (pI a3), some (pI (0:Int32))] [] SH (rUp (rUp h 25 a1.toNatClampNeg a2) 26 a1.toNatClampNeg a3) 0 0) : rCall E (d + 1) mSe_begin [pR 24, pI a1, pI a2, pI a3] SH h Post := rEx_ok (zCut [17]) 14 H
set_option maxRecDepth 100000 in
set_option maxHeartbeats 1000000 in
theorem vSe_begin_17 {E : rE} {d : Nat} {Post : rPost} {h : rHp} {v1 : Int32} {v2 : Int32} {v3 : Int32} {v4 : Int32} (H : ((40:Int32) ≤ v4 → Post none SH h) ∧ (¬ (40:Int32) ≤ v4 → vp_in ((v1 * (40:Int32)) + v4) 160 ∧ rR E (rCall E d) mSe_begin Post 17 [some (pR 24), some (pI v1), some (pI v2), some (pI v3), some (pI (v4 + (1:Int32)))] [] SH (rUp h 27 ((v1 * (40:Int32)) + v4).toNatClampNeg (0:Int32)) 0 0)) : rR E (rCall E d) mSe_begin Post 17 [some (pR 24), some (pI v1), some (pI v2), some (pI v3), some (pI v4)] [] SH h 0 0 := by
  have H : ((Int8.ofInt 40).toInt32 ≤ v4 → Post none SH h) ∧ (¬ (Int8.ofInt 40).toInt32 ≤ v4 → vp_in ((v1 * (Int8.ofInt 40).toInt32) + v4) 160 ∧ rR E (rCall E d) mSe_begin Post 17 [some (pR 24), some (pI v1), some (pI v2), some (pI v3), some (pI (v4 + (1:Int32)))] [] SH (rUp h 27 ((v1 * (Int8.ofInt 40).toInt32) + v4).toNatClampNeg (0:Int32)) 0 0) := by simp only [kc_b40]; exact H
  exact rEx_ok (zCut [17]) 16 H
set_option maxRecDepth 100000 in
set_option maxHeartbeats 1000000 in
theorem vSe_holds {E : rE} {d : Nat} {Post : rPost} {h : rHp} {a1 : Int32} {a2 : Int32} (H : vp_in a1 4 ∧ ((h 25 a1.toNatClampNeg) = (-1:Int32) → Post (some (pI (0:Int32))) SH h) ∧ (¬ (h 25 a1.toNatClampNeg) = (-1:Int32) → (a2 < 0 → Post (some (pI (0:Int32))) SH h) ∧ (¬ a2 < 0 → vp_in a1 4 ∧ ((h 26 a1.toNatClampNeg) ≤ a2 → Post (some (pI (0:Int32))) SH h) ∧ (¬ (h 26 a1.toNatClampNeg) ≤ a2 → Post (some (pI (1:Int32))) SH h)))) : rCall E (d + 1) mSe_holds [pR 24, pI a1, pI a2] SH h Post := rEx_ok (zCut []) 18 (⟨H.1, And.intro (fun k3 => ⟨Or.inl rfl, (H.2.1 k3)⟩) (fun k3 => And.intro (fun k2 => ⟨Or.inl rfl, ((H.2.2 k3).1 k2)⟩) (fun k2 => ⟨((H.2.2 k3).2 k2).1, And.intro (fun k1 => ⟨Or.inl rfl, (((H.2.2 k3).2 k2).2.1 k1)⟩) (fun k1 => ⟨Or.inr rfl, (((H.2.2 k3).2 k2).2.2 k1)⟩)⟩))⟩)
set_option maxRecDepth 100000 in
set_option maxHeartbeats 1000000 in
theorem vSe_number {E : rE} {d : Nat} {Post : rPost} {h : rHp} {a1 : Int32} {a2 : Int32} (H : vp_in ((a1 * (40:Int32)) + a2) 160 ∧ Post (some (pI (h 27 ((a1 * (40:Int32)) + a2).toNatClampNeg))) SH h) : rCall E (d + 1) mSe_number [pR 24, pI a1, pI a2] SH h Post := by
  have H : vp_in ((a1 * (Int8.ofInt 40).toInt32) + a2) 160 ∧ Post (some (pI (h 27 ((a1 * (Int8.ofInt 40).toInt32) + a2).toNatClampNeg))) SH h := by simp only [kc_b40]; exact H
  exact rEx_ok (zCut []) 10 H
set_option maxRecDepth 100000 in
set_option maxHeartbeats 1000000 in
theorem vSe_write {E : rE} {d : Nat} {Post : rPost} {h : rHp} {a1 : Int32} {a2 : Int32} {a3 : Int32} (H : vp_in a1 4 ∧ ((h 25 a1.toNatClampNeg) = 0 → vp_in ((a1 * (40:Int32)) + a2) 160 ∧ Post none SH (rUp h 27 ((a1 * (40:Int32)) + a2).toNatClampNeg a3.toInt8.toInt32)) ∧ (¬ (h 25 a1.toNatClampNeg) = 0 → vp_in a1 4 ∧ ((h 25 a1.toNatClampNeg) = (1:Int32) → vp_in ((a1 * (40:Int32)) + a2) 160 ∧ Post none SH (rUp h 27 ((a1 * (40:Int32)) + a2).toNatClampNeg a3.toInt16.toInt32)) ∧ (¬ (h 25 a1.toNatClampNeg) = (1:Int32) → vp_in ((a1 * (40:Int32)) + a2) 160 ∧ Post none SH (rUp h 27 ((a1 * (40:Int32)) + a2).toNatClampNeg a3)))) : rCall E (d + 1) mSe_write [pR 24, pI a1, pI a2, pI a3] SH h Post := by
  have H : vp_in a1 4 ∧ ((h 25 a1.toNatClampNeg) = 0 → vp_in ((a1 * (Int8.ofInt 40).toInt32) + a2) 160 ∧ Post none SH (rUp h 27 ((a1 * (Int8.ofInt 40).toInt32) + a2).toNatClampNeg a3.toInt8.toInt32)) ∧ (¬ (h 25 a1.toNatClampNeg) = 0 → vp_in a1 4 ∧ ((h 25 a1.toNatClampNeg) = (1:Int32) → vp_in ((a1 * (Int8.ofInt 40).toInt32) + a2) 160 ∧ Post none SH (rUp h 27 ((a1 * (Int8.ofInt 40).toInt32) + a2).toNatClampNeg a3.toInt16.toInt32)) ∧ (¬ (h 25 a1.toNatClampNeg) = (1:Int32) → vp_in ((a1 * (Int8.ofInt 40).toInt32) + a2) 160 ∧ Post none SH (rUp h 27 ((a1 * (Int8.ofInt 40).toInt32) + a2).toNatClampNeg a3))) := by simp only [kc_b40]; exact H
  exact rEx_ok (zCut []) 27 H
set_option maxRecDepth 100000 in
set_option maxHeartbeats 1000000 in
theorem vSf_clear {E : rE} {d : Nat} {Post : rPost} {h : rHp} {a1 : Int32} (H : vp_in a1 4 ∧ vp_in a1 4 ∧ vp_in a1 4 ∧ Post none SH (rUp (rUp (rUp h 29 a1.toNatClampNeg (-1:Int32)) 30 a1.toNatClampNeg (-1:Int32)) 31 a1.toNatClampNeg (0:Int32))) : rCall E (d + 1) mSf_clear [pR 28, pI a1] SH h Post := rEx_ok (zCut []) 17 H
set_option maxRecDepth 100000 in
set_option maxHeartbeats 1000000 in
theorem vSf_holdThing {E : rE} {d : Nat} {Post : rPost} {h : rHp} {a1 : Int32} {a2 : Int32} (H : rCall E d mSf_clear [pR 28, pI a1] SH h (rPn SH (fun g1 => vp_in a1 4 ∧ Post none SH (rUp g1 29 a1.toNatClampNeg a2)))) : rCall E (d + 1) mSf_holdThing [pR 28, pI a1, pI a2] SH h Post := rEx_ok (zCut []) 10 H
set_option maxRecDepth 100000 in
set_option maxHeartbeats 1000000 in
theorem vSf_holdRow {E : rE} {d : Nat} {Post : rPost} {h : rHp} {a1 : Int32} {a2 : Int32} {a3 : Int32} (H : rCall E d mSf_clear [pR 28, pI a1] SH h (rPn SH (fun g1 => vp_in a1 4 ∧ vp_in a1 4 ∧ Post none SH (rUp (rUp g1 30 a1.toNatClampNeg a2) 31 a1.toNatClampNeg a3)))) : rCall E (d + 1) mSf_holdRow [pR 28, pI a1, pI a2, pI a3] SH h Post := rEx_ok (zCut []) 15 H
set_option maxRecDepth 100000 in
set_option maxHeartbeats 1000000 in
theorem vSf_holdsRow {E : rE} {d : Nat} {Post : rPost} {h : rHp} {a1 : Int32} (H : vp_in a1 4 ∧ ((h 30 a1.toNatClampNeg) = (-1:Int32) → Post (some (pI (0:Int32))) SH h) ∧ (¬ (h 30 a1.toNatClampNeg) = (-1:Int32) → Post (some (pI (1:Int32))) SH h)) : rCall E (d + 1) mSf_holdsRow [pR 28, pI a1] SH h Post := rEx_ok (zCut []) 10 (⟨H.1, And.intro (fun k1 => ⟨Or.inl rfl, (H.2.1 k1)⟩) (fun k1 => ⟨Or.inr rfl, (H.2.2 k1)⟩)⟩)
set_option maxRecDepth 100000 in
set_option maxHeartbeats 1000000 in
theorem vJi_bitCount {E : rE} {d : Nat} {Post : rPost} {h : rHp} {a1 : Int32} (H : Post (some (pI ((((((((a1 - (((a1.toUInt32 >>> ((1:Int32).toUInt32 &&& Int32.toUInt32 31)).toInt32) &&& (1431655765:Int32))) &&& (858993459:Int32)) + ((((a1 - (((a1.toUInt32 >>> ((1:Int32).toUInt32 &&& Int32.toUInt32 31)).toInt32) &&& (1431655765:Int32))).toUInt32 >>> ((2:Int32).toUInt32 &&& Int32.toUInt32 31)).toInt32) &&& (858993459:Int32))) + (((((a1 - (((a1.toUInt32 >>> ((1:Int32).toUInt32 &&& Int32.toUInt32 31)).toInt32) &&& (1431655765:Int32))) &&& (858993459:Int32)) + ((((a1 - (((a1.toUInt32 >>> ((1:Int32).toUInt32 &&& Int32.toUInt32 31)).toInt32) &&& (1431655765:Int32))).toUInt32 >>> ((2:Int32).toUInt32 &&& Int32.toUInt32 31)).toInt32) &&& (858993459:Int32))).toUInt32 >>> ((4:Int32).toUInt32 &&& Int32.toUInt32 31)).toInt32)) &&& (252645135:Int32)) + (((((((a1 - (((a1.toUInt32 >>> ((1:Int32).toUInt32 &&& Int32.toUInt32 31)).toInt32) &&& (1431655765:Int32))) &&& (858993459:Int32)) + ((((a1 - (((a1.toUInt32 >>> ((1:Int32).toUInt32 &&& Int32.toUInt32 31)).toInt32) &&& (1431655765:Int32))).toUInt32 >>> ((2:Int32).toUInt32 &&& Int32.toUInt32 31)).toInt32) &&& (858993459:Int32))) + (((((a1 - (((a1.toUInt32 >>> ((1:Int32).toUInt32 &&& Int32.toUInt32 31)).toInt32) &&& (1431655765:Int32))) &&& (858993459:Int32)) + ((((a1 - (((a1.toUInt32 >>> ((1:Int32).toUInt32 &&& Int32.toUInt32 31)).toInt32) &&& (1431655765:Int32))).toUInt32 >>> ((2:Int32).toUInt32 &&& Int32.toUInt32 31)).toInt32) &&& (858993459:Int32))).toUInt32 >>> ((4:Int32).toUInt32 &&& Int32.toUInt32 31)).toInt32)) &&& (252645135:Int32)).toUInt32 >>> ((8:Int32).toUInt32 &&& Int32.toUInt32 31)).toInt32)) + ((((((((a1 - (((a1.toUInt32 >>> ((1:Int32).toUInt32 &&& Int32.toUInt32 31)).toInt32) &&& (1431655765:Int32))) &&& (858993459:Int32)) + ((((a1 - (((a1.toUInt32 >>> ((1:Int32).toUInt32 &&& Int32.toUInt32 31)).toInt32) &&& (1431655765:Int32))).toUInt32 >>> ((2:Int32).toUInt32 &&& Int32.toUInt32 31)).toInt32) &&& (858993459:Int32))) + (((((a1 - (((a1.toUInt32 >>> ((1:Int32).toUInt32 &&& Int32.toUInt32 31)).toInt32) &&& (1431655765:Int32))) &&& (858993459:Int32)) + ((((a1 - (((a1.toUInt32 >>> ((1:Int32).toUInt32 &&& Int32.toUInt32 31)).toInt32) &&& (1431655765:Int32))).toUInt32 >>> ((2:Int32).toUInt32 &&& Int32.toUInt32 31)).toInt32) &&& (858993459:Int32))).toUInt32 >>> ((4:Int32).toUInt32 &&& Int32.toUInt32 31)).toInt32)) &&& (252645135:Int32)) + (((((((a1 - (((a1.toUInt32 >>> ((1:Int32).toUInt32 &&& Int32.toUInt32 31)).toInt32) &&& (1431655765:Int32))) &&& (858993459:Int32)) + ((((a1 - (((a1.toUInt32 >>> ((1:Int32).toUInt32 &&& Int32.toUInt32 31)).toInt32) &&& (1431655765:Int32))).toUInt32 >>> ((2:Int32).toUInt32 &&& Int32.toUInt32 31)).toInt32) &&& (858993459:Int32))) + (((((a1 - (((a1.toUInt32 >>> ((1:Int32).toUInt32 &&& Int32.toUInt32 31)).toInt32) &&& (1431655765:Int32))) &&& (858993459:Int32)) + ((((a1 - (((a1.toUInt32 >>> ((1:Int32).toUInt32 &&& Int32.toUInt32 31)).toInt32) &&& (1431655765:Int32))).toUInt32 >>> ((2:Int32).toUInt32 &&& Int32.toUInt32 31)).toInt32) &&& (858993459:Int32))).toUInt32 >>> ((4:Int32).toUInt32 &&& Int32.toUInt32 31)).toInt32)) &&& (252645135:Int32)).toUInt32 >>> ((8:Int32).toUInt32 &&& Int32.toUInt32 31)).toInt32)).toUInt32 >>> ((16:Int32).toUInt32 &&& Int32.toUInt32 31)).toInt32)) &&& (63:Int32)))) SH h) : rCall E (d + 1) mJi_bitCount [pI a1] SH h Post := by
  have H : Post (some (pI ((((((((a1 - (((a1.toUInt32 >>> ((1:Int32).toUInt32 &&& Int32.toUInt32 31)).toInt32) &&& (1431655765:Int32))) &&& (858993459:Int32)) + ((((a1 - (((a1.toUInt32 >>> ((1:Int32).toUInt32 &&& Int32.toUInt32 31)).toInt32) &&& (1431655765:Int32))).toUInt32 >>> ((2:Int32).toUInt32 &&& Int32.toUInt32 31)).toInt32) &&& (858993459:Int32))) + (((((a1 - (((a1.toUInt32 >>> ((1:Int32).toUInt32 &&& Int32.toUInt32 31)).toInt32) &&& (1431655765:Int32))) &&& (858993459:Int32)) + ((((a1 - (((a1.toUInt32 >>> ((1:Int32).toUInt32 &&& Int32.toUInt32 31)).toInt32) &&& (1431655765:Int32))).toUInt32 >>> ((2:Int32).toUInt32 &&& Int32.toUInt32 31)).toInt32) &&& (858993459:Int32))).toUInt32 >>> ((4:Int32).toUInt32 &&& Int32.toUInt32 31)).toInt32)) &&& (252645135:Int32)) + (((((((a1 - (((a1.toUInt32 >>> ((1:Int32).toUInt32 &&& Int32.toUInt32 31)).toInt32) &&& (1431655765:Int32))) &&& (858993459:Int32)) + ((((a1 - (((a1.toUInt32 >>> ((1:Int32).toUInt32 &&& Int32.toUInt32 31)).toInt32) &&& (1431655765:Int32))).toUInt32 >>> ((2:Int32).toUInt32 &&& Int32.toUInt32 31)).toInt32) &&& (858993459:Int32))) + (((((a1 - (((a1.toUInt32 >>> ((1:Int32).toUInt32 &&& Int32.toUInt32 31)).toInt32) &&& (1431655765:Int32))) &&& (858993459:Int32)) + ((((a1 - (((a1.toUInt32 >>> ((1:Int32).toUInt32 &&& Int32.toUInt32 31)).toInt32) &&& (1431655765:Int32))).toUInt32 >>> ((2:Int32).toUInt32 &&& Int32.toUInt32 31)).toInt32) &&& (858993459:Int32))).toUInt32 >>> ((4:Int32).toUInt32 &&& Int32.toUInt32 31)).toInt32)) &&& (252645135:Int32)).toUInt32 >>> ((Int8.ofInt 8).toInt32.toUInt32 &&& Int32.toUInt32 31)).toInt32)) + ((((((((a1 - (((a1.toUInt32 >>> ((1:Int32).toUInt32 &&& Int32.toUInt32 31)).toInt32) &&& (1431655765:Int32))) &&& (858993459:Int32)) + ((((a1 - (((a1.toUInt32 >>> ((1:Int32).toUInt32 &&& Int32.toUInt32 31)).toInt32) &&& (1431655765:Int32))).toUInt32 >>> ((2:Int32).toUInt32 &&& Int32.toUInt32 31)).toInt32) &&& (858993459:Int32))) + (((((a1 - (((a1.toUInt32 >>> ((1:Int32).toUInt32 &&& Int32.toUInt32 31)).toInt32) &&& (1431655765:Int32))) &&& (858993459:Int32)) + ((((a1 - (((a1.toUInt32 >>> ((1:Int32).toUInt32 &&& Int32.toUInt32 31)).toInt32) &&& (1431655765:Int32))).toUInt32 >>> ((2:Int32).toUInt32 &&& Int32.toUInt32 31)).toInt32) &&& (858993459:Int32))).toUInt32 >>> ((4:Int32).toUInt32 &&& Int32.toUInt32 31)).toInt32)) &&& (252645135:Int32)) + (((((((a1 - (((a1.toUInt32 >>> ((1:Int32).toUInt32 &&& Int32.toUInt32 31)).toInt32) &&& (1431655765:Int32))) &&& (858993459:Int32)) + ((((a1 - (((a1.toUInt32 >>> ((1:Int32).toUInt32 &&& Int32.toUInt32 31)).toInt32) &&& (1431655765:Int32))).toUInt32 >>> ((2:Int32).toUInt32 &&& Int32.toUInt32 31)).toInt32) &&& (858993459:Int32))) + (((((a1 - (((a1.toUInt32 >>> ((1:Int32).toUInt32 &&& Int32.toUInt32 31)).toInt32) &&& (1431655765:Int32))) &&& (858993459:Int32)) + ((((a1 - (((a1.toUInt32 >>> ((1:Int32).toUInt32 &&& Int32.toUInt32 31)).toInt32) &&& (1431655765:Int32))).toUInt32 >>> ((2:Int32).toUInt32 &&& Int32.toUInt32 31)).toInt32) &&& (858993459:Int32))).toUInt32 >>> ((4:Int32).toUInt32 &&& Int32.toUInt32 31)).toInt32)) &&& (252645135:Int32)).toUInt32 >>> ((Int8.ofInt 8).toInt32.toUInt32 &&& Int32.toUInt32 31)).toInt32)).toUInt32 >>> ((Int8.ofInt 16).toInt32.toUInt32 &&& Int32.toUInt32 31)).toInt32)) &&& (Int8.ofInt 63).toInt32))) SH h := by simp only [kc_b16, kc_b63, kc_b8]; exact H
  exact rEx_ok (zCut []) 43 H
set_option maxRecDepth 100000 in
set_option maxHeartbeats 1000000 in
theorem vJs_length {E : rE} {d : Nat} {Post : rPost} {h : rHp} {i : Nat} (hi : i < 15) (H : rCall E d mJs_coder [pC (i+10)] SH h (rPi SH (fun x2 g1 => Post (some (pI ((Int32.ofNat (rLen.getD i 0)) >>> (x2 &&& 31)))) SH g1))) : rCall E (d + 1) mJs_length [pC (i+10)] SH h Post := by
  rcases (show i = 0 ∨ i = 1 ∨ i = 2 ∨ i = 3 ∨ i = 4 ∨ i = 5 ∨ i = 6 ∨ i = 7 ∨ i = 8 ∨ i = 9 ∨ i = 10 ∨ i = 11 ∨ i = 12 ∨ i = 13 ∨ i = 14 by omega) with e | e | e | e | e | e | e | e | e | e | e | e | e | e | e <;> subst e <;> simp only [Nat.reduceMul, Nat.reduceAdd] at H ⊢ <;> exact rEx_ok (zCut []) 8 H
set_option maxRecDepth 100000 in
set_option maxHeartbeats 1000000 in
theorem vJs_charAt {E : rE} {d : Nat} {Post : rPost} {h : rHp} {i : Nat} (hi : i < 15) {a1 : Int32} (H : rCall E d mJs_isLatin1 [pC (i+10)] SH h (rPi SH (fun x2 g1 => (x2 = 0 → False) ∧ (¬ x2 = 0 → rCall E d mJl_charAt [pC (i+40), pI a1] SH g1 (rPi SH (fun x4 g3 => narrow .char (.int x4) = .int x4 ∧ Post (some (pI x4)) SH g3)))))) : rCall E (d + 1) mJs_charAt [pC (i+10), pI a1] SH h Post := by
  rcases (show i = 0 ∨ i = 1 ∨ i = 2 ∨ i = 3 ∨ i = 4 ∨ i = 5 ∨ i = 6 ∨ i = 7 ∨ i = 8 ∨ i = 9 ∨ i = 10 ∨ i = 11 ∨ i = 12 ∨ i = 13 ∨ i = 14 by omega) with e | e | e | e | e | e | e | e | e | e | e | e | e | e | e <;> subst e <;> simp only [Nat.reduceMul, Nat.reduceAdd] at H ⊢ <;> exact rEx_ok (zCut []) 9 H
set_option maxRecDepth 100000 in
set_option maxHeartbeats 1000000 in
theorem vJs_coder {E : rE} {d : Nat} {Post : rPost} {h : rHp} {i : Nat} (hi : i < 15) (H : narrow .byte (.int (0:Int32)) = .int (0:Int32) ∧ Post (some (pI (0:Int32))) SH h) : rCall E (d + 1) mJs_coder [pC (i+10)] SH h Post := by
  rcases (show i = 0 ∨ i = 1 ∨ i = 2 ∨ i = 3 ∨ i = 4 ∨ i = 5 ∨ i = 6 ∨ i = 7 ∨ i = 8 ∨ i = 9 ∨ i = 10 ∨ i = 11 ∨ i = 12 ∨ i = 13 ∨ i = 14 by omega) with e | e | e | e | e | e | e | e | e | e | e | e | e | e | e <;> subst e <;> simp only [Nat.reduceMul, Nat.reduceAdd] at H ⊢ <;> exact rEx_ok (zCut []) 7 (And.intro (fun h0 => absurd h0 (by decide)) (fun _ => H))
set_option maxRecDepth 100000 in
set_option maxHeartbeats 1000000 in
theorem vJs_isLatin1 {E : rE} {d : Nat} {Post : rPost} {h : rHp} {i : Nat} (hi : i < 15) (H : Post (some (pI (1:Int32))) SH h) : rCall E (d + 1) mJs_isLatin1 [pC (i+10)] SH h Post := by
  rcases (show i = 0 ∨ i = 1 ∨ i = 2 ∨ i = 3 ∨ i = 4 ∨ i = 5 ∨ i = 6 ∨ i = 7 ∨ i = 8 ∨ i = 9 ∨ i = 10 ∨ i = 11 ∨ i = 12 ∨ i = 13 ∨ i = 14 by omega) with e | e | e | e | e | e | e | e | e | e | e | e | e | e | e <;> subst e <;> simp only [Nat.reduceMul, Nat.reduceAdd] at H ⊢ <;> exact rEx_ok (zCut []) 9 (And.intro (fun h0 => absurd h0 (by decide)) (fun _ => And.intro (fun _ => ⟨Or.inr rfl, H⟩) (fun h0 => absurd (by decide) h0)))
set_option maxRecDepth 100000 in
set_option maxHeartbeats 1000000 in
theorem vJs_checkIndex {E : rE} {d : Nat} {Post : rPost} {h : rHp} {a1 : Int32} {a2 : Int32} (H : rCall E d mJp_checkIndex [pI a1, pI a2, pC 3] SH h (rPi SH (fun x2 g1 => Post none SH g1))) : rCall E (d + 1) mJs_checkIndex [pI a1, pI a2] SH h Post := rEx_ok (zCut []) 7 H
set_option maxRecDepth 100000 in
set_option maxHeartbeats 1000000 in
theorem vJl_charAt {E : rE} {d : Nat} {Post : rPost} {h : rHp} {i : Nat} (hi : i < 15) {a2 : Int32} (H : rCall E d mJs_checkIndex [pI a2, pI (Int32.ofNat (rLen.getD i 0))] SH h (rPn SH (fun g1 => vp_in a2 (rLen.getD i 0) ∧ narrow .char (.int (((((rByt.getD i []).getD a2.toNatClampNeg 0) &&& (255:Int32)).toUInt32 % 65536).toInt32)) = .int (((((rByt.getD i []).getD a2.toNatClampNeg 0) &&& (255:Int32)).toUInt32 % 65536).toInt32) ∧ Post (some (pI (((((rByt.getD i []).getD a2.toNatClampNeg 0) &&& (255:Int32)).toUInt32 % 65536).toInt32))) SH g1))) : rCall E (d + 1) mJl_charAt [pC (i+40), pI a2] SH h Post := by
  have H : rCall E d mJs_checkIndex [pI a2, pI (Int32.ofNat (rLen.getD i 0))] SH h (rPn SH (fun g1 => vp_in a2 (rLen.getD i 0) ∧ narrow .char (.int (((((rByt.getD i []).getD a2.toNatClampNeg 0) &&& (Int16.ofInt 255).toInt32).toUInt32 % 65536).toInt32)) = .int (((((rByt.getD i []).getD a2.toNatClampNeg 0) &&& (Int16.ofInt 255).toInt32).toUInt32 % 65536).toInt32) ∧ Post (some (pI (((((rByt.getD i []).getD a2.toNatClampNeg 0) &&& (Int16.ofInt 255).toInt32).toUInt32 % 65536).toInt32))) SH g1)) := by simp only [kc_s255]; exact H
  rcases (show i = 0 ∨ i = 1 ∨ i = 2 ∨ i = 3 ∨ i = 4 ∨ i = 5 ∨ i = 6 ∨ i = 7 ∨ i = 8 ∨ i = 9 ∨ i = 10 ∨ i = 11 ∨ i = 12 ∨ i = 13 ∨ i = 14 by omega) with e | e | e | e | e | e | e | e | e | e | e | e | e | e | e <;> subst e <;> simp only [Nat.reduceMul, Nat.reduceAdd] at H ⊢ <;> exact rEx_ok (zCut []) 12 H
set_option maxRecDepth 100000 in
set_option maxHeartbeats 1000000 in
theorem vJp_checkIndex {E : rE} {d : Nat} {Post : rPost} {h : rHp} {a1 : Int32} {a2 : Int32} (H : (a1 < 0 → False) ∧ (¬ a1 < 0 → (a1 < a2 → Post (some (pI a1)) SH h) ∧ (¬ a1 < a2 → False))) : rCall E (d + 1) mJp_checkIndex [pI a1, pI a2, pC 3] SH h Post := rEx_ok (zCut []) 8 H
