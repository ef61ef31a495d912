/-- a new object's slots are its fields' first values -/
theorem rBlank_ok {ci N : Nat} {CC : String} {T : u_T} {ty : Nat → FieldType} {sl : List (Option (Option Nat))} (hKc : rKc ci CC T N ty) (hsl : rNth rBlank ci = some sl) : sl.length = N ∧ ∀ (b j : Nat), j < N → defaultValue (ty j) = vp_V (rFs b (fun _ => 0) sl 0) j := by
  have key : ∀ i : Nat, i < 7 → ∀ (C2 : String) (T2 : u_T) (N2 : Nat) (ty2 : Nat → FieldType), rKc i C2 T2 N2 ty2 → ∀ sl, rNth rBlank i = some sl → sl.length = N2 ∧ ∀ j, j < N2 → sl[j]? = some (if (ty2 j).isReference = true then some none else none) ∧ defaultValue (ty2 j) = (if (ty2 j).isReference = true then .null else .int 0) := by
    intro i hi C2 T2 N2 ty2 hK sl hsl
    match i, hi, hK, hsl with
    | 0, hi, hK, hsl =>
      have e := hK.1
      cases e
      cases hsl
      refine ⟨rfl, fun j hj => ?_⟩
      have e2 : ty2 j = tyX0 j := Option.some.inj ((hK.2.2.2.2.1 j hj).symm.trans (tyX0_ok j hj))
      rw [e2]
      rcases (show j = 0 ∨ j = 1 ∨ j = 2 ∨ j = 3 ∨ j = 4 ∨ j = 5 by omega) with rfl | rfl | rfl | rfl | rfl | rfl <;> exact ⟨rfl, rfl⟩
    | 1, hi, hK, hsl =>
      have e := hK.1
      cases e
      cases hsl
      refine ⟨rfl, fun j hj => ?_⟩
      have e2 : ty2 j = tyX1 j := Option.some.inj ((hK.2.2.2.2.1 j hj).symm.trans (tyX1_ok j hj))
      rw [e2]
      rcases (show j = 0 ∨ j = 1 ∨ j = 2 by omega) with rfl | rfl | rfl <;> exact ⟨rfl, rfl⟩
    | 2, hi, hK, hsl =>
      have e := hK.1
      cases e
      cases hsl
      refine ⟨rfl, fun j hj => ?_⟩
      have e2 : ty2 j = tyX2 j := Option.some.inj ((hK.2.2.2.2.1 j hj).symm.trans (tyX2_ok j hj))
      rw [e2]
      rcases (show j = 0 ∨ j = 1 ∨ j = 2 by omega) with rfl | rfl | rfl <;> exact ⟨rfl, rfl⟩
    | 3, hi, hK, hsl =>
      have e := hK.1
      cases e
      cases hsl
      refine ⟨rfl, fun j hj => ?_⟩
      have e2 : ty2 j = tyX3 j := Option.some.inj ((hK.2.2.2.2.1 j hj).symm.trans (tyX3_ok j hj))
      rw [e2]
      rcases (show j = 0 ∨ j = 1 ∨ j = 2 ∨ j = 3 ∨ j = 4 ∨ j = 5 ∨ j = 6 ∨ j = 7 ∨ j = 8 ∨ j = 9 ∨ j = 10 ∨ j = 11 by omega) with rfl | rfl | rfl | rfl | rfl | rfl | rfl | rfl | rfl | rfl | rfl | rfl <;> exact ⟨rfl, rfl⟩
    | 4, hi, hK, hsl =>
      have e := hK.1
      cases e
      cases hsl
      refine ⟨rfl, fun j hj => ?_⟩
      have e2 : ty2 j = tyX4 j := Option.some.inj ((hK.2.2.2.2.1 j hj).symm.trans (tyX4_ok j hj))
      rw [e2]
      rcases (show j = 0 ∨ j = 1 ∨ j = 2 ∨ j = 3 ∨ j = 4 ∨ j = 5 by omega) with rfl | rfl | rfl | rfl | rfl | rfl <;> exact ⟨rfl, rfl⟩
    | 5, hi, hK, hsl =>
      have e := hK.1
      cases e
      cases hsl
      refine ⟨rfl, fun j hj => ?_⟩
      have e2 : ty2 j = tyX5 j := Option.some.inj ((hK.2.2.2.2.1 j hj).symm.trans (tyX5_ok j hj))
      rw [e2]
      rcases (show j = 0 ∨ j = 1 ∨ j = 2 ∨ j = 3 ∨ j = 4 ∨ j = 5 ∨ j = 6 ∨ j = 7 ∨ j = 8 ∨ j = 9 by omega) with rfl | rfl | rfl | rfl | rfl | rfl | rfl | rfl | rfl | rfl <;> exact ⟨rfl, rfl⟩
    | 6, hi, hK, hsl =>
      have e := hK.1
      cases e
      cases hsl
      refine ⟨rfl, fun j hj => ?_⟩
      have e2 : ty2 j = tyX6 j := Option.some.inj ((hK.2.2.2.2.1 j hj).symm.trans (tyX6_ok j hj))
      rw [e2]
      rcases (show j = 0 ∨ j = 1 ∨ j = 2 ∨ j = 3 ∨ j = 4 ∨ j = 5 ∨ j = 6 ∨ j = 7 ∨ j = 8 ∨ j = 9 ∨ j = 10 ∨ j = 11 ∨ j = 12 ∨ j = 13 ∨ j = 14 ∨ j = 15 ∨ j = 16 ∨ j = 17 ∨ j = 18 ∨ j = 19 ∨ j = 20 ∨ j = 21 ∨ j = 22 ∨ j = 23 ∨ j = 24 ∨ j = 25 ∨ j = 26 by omega) with rfl | rfl | rfl | rfl | rfl | rfl | rfl | rfl | rfl | rfl | rfl | rfl | rfl | rfl | rfl | rfl | rfl | rfl | rfl | rfl | rfl | rfl | rfl | rfl | rfl | rfl | rfl <;> exact ⟨rfl, rfl⟩
    | n + 7, hi, _, _ => exact absurd hi (by omega)
  have h7 : ci < 7 := (List.getElem?_eq_some_iff.mp hKc.1).1
  obtain ⟨h1, h2⟩ := key ci h7 CC T N ty hKc sl hsl
  refine ⟨h1, fun b j hj => ?_⟩
  obtain ⟨h3, h4⟩ := h2 j hj
  have h5 : vp_V (rFs b (fun _ => 0) sl 0) j = rSv b (fun _ => 0) j (if (ty j).isReference = true then some none else none) := by
    unfold vp_V
    rw [List.getD_eq_getElem?_getD, rFs_at h3]
    rfl
  rw [h4, h5]
  by_cases hr : (ty j).isReference = true
  · rw [if_pos hr, if_pos hr]; rfl
  · rw [if_neg hr, if_neg hr]; rfl
theorem rNat : nativeFrameWords "java/lang/System" "arraycopy" 5 + 11 ≤ 40 := by decide +kernel
theorem rByint {n : Nat} (h : n ≤ 1000) : n * componentBytes .int ≤ 536870912 := by
  have e : componentBytes .int = 4 := rfl
  rw [e]; omega
theorem rBybyte {n : Nat} (h : n ≤ 1000) : n * componentBytes .byte ≤ 536870912 := by
  have e : componentBytes .byte = 1 := rfl
  rw [e]; omega
section SND2
variable {p : Program} {l : Launch} {e : Env} {R : Room} {s : State} {m : MethodId} {args : Array Value} {below : List Frame} {meth : Method} {c : Code} {cc : ByteArray} {Q : State → Prop} {M : rM} {E : rE} {D : va_G} {cI cB : ClassId} {b : Nat} {cv : Nat → Nat} {fm : Value} {d : Nat} {K : rM → List rPV → rSh → rHp → rPost → Prop} {Post : rPost} {Z : Nat → rLs → List rPV → rSh → rHp → Nat → Nat → Prop}
set_option maxHeartbeats 4000000 in
set_option maxRecDepth 20000 in
theorem rG_step {pc : Nat} {ls : rLs} {st : List rPV} {sh : rSh} {h : rHp} {n k : Nat} (C : rCx p R s m args meth c cc M E D cI cB b cv fm d) (hZ : ∀ pc ls st sh h n k, Z pc ls st sh h n k → rG p l e R s m args below meth c Q D cI cB b cv fm M.2.2.2.2.2.2.2.1 pc ls st sh h n k) (hKM : ∀ (M' : rM) (i : Nat), rOkM M' i → rNth rMs i = some M' → ∀ as sh h P, K M' as sh h P → rMet l D cI cB b cv fm E d M' as sh h P)
    (hI : ∀ (x : Int32) (ty : FieldType) (pc : Nat) (sh : rSh) (h : rHp) (n k : Nat) (H : Heap) (locs : List Loc) (la : Array Slot), M.2.2.2.2.1 = some ty → (ty = .int ∨ ty = .boolean ∨ ty = .byte ∨ ty = .char) → narrow ty (.int x) = .int x → decode cc pc = .ok (.ireturn, 1) → Post (some (pI x)) sh h → n ≤ M.2.2.2.2.2.1 → k ≤ M.2.2.2.2.2.2.1 → va_P D classes (rW b cI cB sh h) H → va_S (rA b) s.heap H locs → W p l e R s m args below meth c H locs n k Q (F0 m pc la [.int x]))
    (hL0 : ∀ (x : Int64) (pc : Nat) (sh : rSh) (h : rHp) (n k : Nat) (H : Heap) (locs : List Loc) (la : Array Slot), M.2.2.2.2.1 = some .long → decode cc pc = .ok (.lreturn, 1) → Post (some (pL x)) sh h → n ≤ M.2.2.2.2.2.1 → k ≤ M.2.2.2.2.2.2.1 → va_P D classes (rW b cI cB sh h) H → va_S (rA b) s.heap H locs → W p l e R s m args below meth c H locs n k Q (F0 m pc la [.long x]))
    (hV0 : ∀ (pc : Nat) (sh : rSh) (h : rHp) (n k : Nat) (H : Heap) (locs : List Loc) (la : Array Slot), M.2.2.2.2.1 = none → decode cc pc = .ok (.return_, 1) → Post none sh h → n ≤ M.2.2.2.2.2.1 → k ≤ M.2.2.2.2.2.2.1 → va_P D classes (rW b cI cB sh h) H → va_S (rA b) s.heap H locs → W p l e R s m args below meth c H locs n k Q (F0 m pc la []))
    (H00 : rStp E K M Post Z pc ls st sh h n k) : rG p l e R s m args below meth c Q D cI cB b cv fm M.2.2.2.2.2.2.2.1 pc ls st sh h n k := by
  have C0 := C
  obtain ⟨hx, hb, hml, hown, hts, hK, hbs, hcon, hfm, hin, hR, hcode⟩ := C
  obtain ⟨⟨i, len⟩, hf, H⟩ := oM_ok H00
  clear H00
  obtain ⟨hd, hck⟩ := hcode _ (rFet_ok _ _ _ hf)
  intro Hh locs la hP hz hS hL hn
  have hDD : va_D (rA b) (rW b cI cB sh h) := rW_D (fun q h => h)
  have hoff := rChk_off hck
  have hlen := rChk_len hck
  clear hck
  dsimp only at H hd hlen hoff
  cases i with
  | iconst z =>
    obtain rfl : len = 1 := hlen (show ¬ (1 : Nat) = 0 by decide)
    exact lv_iconst hx hb hd rfl (hZ _ _ _ _ _ _ _ H Hh locs la hP hz hS hL hn)
  | bipush z =>
    obtain rfl : len = 2 := hlen (show ¬ (2 : Nat) = 0 by decide)
    exact lv_bipush hx hb hd rfl (hZ _ _ _ _ _ _ _ H Hh locs la hP hz hS hL hn)
  | sipush z =>
    obtain rfl : len = 3 := hlen (show ¬ (3 : Nat) = 0 by decide)
    exact lv_sipush hx hb hd rfl (hZ _ _ _ _ _ _ _ H Hh locs la hP hz hS hL hn)
  | lconst z =>
    obtain rfl : len = 1 := hlen (show ¬ (1 : Nat) = 0 by decide)
    exact lv_lconst hx hb hd rfl (hZ _ _ _ _ _ _ _ H Hh locs la hP hz hS hL hn)
  | ldc x =>
    obtain rfl : len = 2 := hlen (show ¬ (2 : Nat) = 0 by decide)
    rcases oE_ok H with ⟨v, hv, H⟩ | ⟨-, H⟩
    · obtain ⟨l1, h1, h2⟩ := rLk2_ok hv
      exact lv_ldc hx hb hown (hts _ (rIall _ _ h1 _ h2)) hd (hZ _ _ _ _ _ _ _ H Hh locs la hP hz hS hL hn)
    · obtain ⟨i, hi, H⟩ := oM_ok H
      obtain ⟨l1, h1, h2⟩ := rLk2_ok hi
      obtain ⟨e1, tx, e2, e3⟩ := rSall _ _ h1 _ h2
      have hk := hZ _ _ _ _ _ _ _ H Hh locs la hP hz hS hL hn
      have e4 : rV b cv fm (pC (i + 10)) = .ref (cv (10 + i)) := by
        show (if i + 10 = 3 then fm else Value.ref (cv (i + 10))) = _
        rw [if_neg (by omega), Nat.add_comm]
      rw [List.map_cons, e4] at hk
      exact va_ldcS hx hb (own := rCn M.2.2.1) hown (by rw [e1]; exact hcon.2.2.2.2.2.2.1 i (x, tx) e2) hd hk
  | ldc_w x =>
    obtain rfl : len = 3 := hlen (show ¬ (3 : Nat) = 0 by decide)
    obtain ⟨v, hv, H⟩ := oM_ok H
    obtain ⟨l1, h1, h2⟩ := rLk2_ok hv
    exact lv_ldcw hx hb hown (hts _ (rIall _ _ h1 _ h2)) hd (hZ _ _ _ _ _ _ _ H Hh locs la hP hz hS hL hn)
  | ldc2_w x =>
    obtain rfl : len = 3 := hlen (show ¬ (3 : Nat) = 0 by decide)
    obtain ⟨v, hv, H⟩ := oM_ok H
    obtain ⟨l1, h1, h2⟩ := rLk2_ok hv
    exact lv_ldc2 hx hb hown (hts _ (rJall _ _ h1 _ h2)) hd (hZ _ _ _ _ _ _ _ H Hh locs la hP hz hS hL hn)
  | iload_n j =>
    obtain rfl : len = 1 := hlen (show ¬ (1 : Nat) = 0 by decide)
    obtain ⟨x, hj, H⟩ := lI_ok H
    exact lv_iload_n hx hb hd rfl (hL.2.2 _ _ hj) (hZ _ _ _ _ _ _ _ H Hh locs la hP hz hS hL hn)
  | iload j =>
    obtain rfl : len = 2 := hlen (show ¬ (2 : Nat) = 0 by decide)
    obtain ⟨x, hj, H⟩ := lI_ok H
    exact lv_iload hx hb hd (hL.2.2 _ _ hj) (hZ _ _ _ _ _ _ _ H Hh locs la hP hz hS hL hn)
  | lload_n j =>
    obtain rfl : len = 1 := hlen (show ¬ (1 : Nat) = 0 by decide)
    obtain ⟨x, hj, H⟩ := lL_ok H
    exact lv_lload_n hx hb hd rfl (hL.2.2 _ _ hj) (hZ _ _ _ _ _ _ _ H Hh locs la hP hz hS hL hn)
  | lload j =>
    obtain rfl : len = 2 := hlen (show ¬ (2 : Nat) = 0 by decide)
    obtain ⟨x, hj, H⟩ := lL_ok H
    exact lv_lload hx hb hd (hL.2.2 _ _ hj) (hZ _ _ _ _ _ _ _ H Hh locs la hP hz hS hL hn)
  | aload_n j =>
    obtain rfl : len = 1 := hlen (show ¬ (1 : Nat) = 0 by decide)
    rcases lRC_ok H with ⟨x, hj, H⟩ | ⟨x, hj, h3, H⟩
    · exact lv_aload_n hx hb hd rfl (hL.2.2 _ _ hj) (hZ _ _ _ _ _ _ _ H Hh locs la hP hz hS hL hn)
    · have hk := hZ _ _ _ _ _ _ _ H Hh locs la hP hz hS hL hn
      have e4 : rV b cv fm (pC x) = .ref (cv x) := if_neg h3
      have hj2 := hL.2.2 _ _ hj
      rw [e4] at hj2
      rw [List.map_cons, e4] at hk
      exact lv_aload_n hx hb hd rfl hj2 hk
  | istore_n j =>
    obtain rfl : len = 1 := hlen (show ¬ (1 : Nat) = 0 by decide)
    obtain ⟨x, r, rfl, H⟩ := sI_ok H
    obtain ⟨hj, H⟩ := bB_ok H
    have hj := Nat.le_of_ble_eq_true hj
    exact lv_istore_n hx hb hd rfl (rLH_has hL) hj rfl (fun la1 hl1 => hZ _ _ _ _ _ _ _ H Hh locs la1 hP hz hS (rLH_set1 (v := pI x) hfm hj hl1) (by rw [rSet1_len]; exact hn))
  | istore j =>
    obtain rfl : len = 2 := hlen (show ¬ (2 : Nat) = 0 by decide)
    obtain ⟨x, r, rfl, H⟩ := sI_ok H
    obtain ⟨hj, H⟩ := bB_ok H
    have hj := Nat.le_of_ble_eq_true hj
    exact lv_istore hx hb hd (rLH_has hL) hj rfl (fun la1 hl1 => hZ _ _ _ _ _ _ _ H Hh locs la1 hP hz hS (rLH_set1 (v := pI x) hfm hj hl1) (by rw [rSet1_len]; exact hn))
  | lstore_n j =>
    obtain rfl : len = 1 := hlen (show ¬ (1 : Nat) = 0 by decide)
    obtain ⟨x, r, rfl, H⟩ := sL_ok H
    obtain ⟨hj, H⟩ := bB_ok H
    have hj := Nat.le_of_ble_eq_true hj
    exact lv_lstore_n hx hb hd rfl (rLH_has hL) hj rfl (fun la1 hl1 => hZ _ _ _ _ _ _ _ H Hh locs la1 hP hz hS (rLH_set2 hfm hj hl1) (by rw [rSet2_len]; exact hn))
  | lstore j =>
    obtain rfl : len = 2 := hlen (show ¬ (2 : Nat) = 0 by decide)
    obtain ⟨x, r, rfl, H⟩ := sL_ok H
    obtain ⟨hj, H⟩ := bB_ok H
    have hj := Nat.le_of_ble_eq_true hj
    exact lv_lstore hx hb hd (rLH_has hL) hj rfl (fun la1 hl1 => hZ _ _ _ _ _ _ _ H Hh locs la1 hP hz hS (rLH_set2 hfm hj hl1) (by rw [rSet2_len]; exact hn))
  | astore_n j =>
    obtain rfl : len = 1 := hlen (show ¬ (1 : Nat) = 0 by decide)
    obtain ⟨x, r, rfl, H⟩ := sR_ok H
    obtain ⟨hj, H⟩ := bB_ok H
    have hj := Nat.le_of_ble_eq_true hj
    exact lv_astore_n hx hb hd rfl (rLH_has hL) hj rfl (fun la1 hl1 => hZ _ _ _ _ _ _ _ H Hh locs la1 hP hz hS (rLH_set1 (v := pR x) hfm hj hl1) (by rw [rSet1_len]; exact hn))
  | iinc j z =>
    obtain rfl : len = 3 := hlen (show ¬ (3 : Nat) = 0 by decide)
    obtain ⟨x, hj0, H⟩ := lI_ok H
    obtain ⟨hj, H⟩ := bB_ok H
    have hj := Nat.le_of_ble_eq_true hj
    obtain ⟨i1, hi1⟩ := List.getElem?_of_mem (rLv_of (b := b) (cv := cv) (fm := fm) ls 0 j _ (by rw [← rNth_eq]; exact hj0))
    rw [Nat.zero_add] at hi1
    exact lv_iinc hx hb hd (rLH_has hL) hi1 rfl hj rfl (fun la1 hl1 => hZ _ _ _ _ _ _ _ H Hh locs la1 hP hz hS (rLH_set1 (v := pI (x + Int32.ofInt z)) hfm hj hl1) (by rw [rSet1_len]; exact hn))
  | iadd =>
    obtain rfl : len = 1 := hlen (show ¬ (1 : Nat) = 0 by decide)
    obtain ⟨y, r, rfl, H⟩ := sI_ok H
    obtain ⟨x, r, rfl, H⟩ := sI_ok H
    exact lv_iadd hx hb hd (hZ _ _ _ _ _ _ _ H Hh locs la hP hz hS hL hn)
  | isub =>
    obtain rfl : len = 1 := hlen (show ¬ (1 : Nat) = 0 by decide)
    obtain ⟨y, r, rfl, H⟩ := sI_ok H
    obtain ⟨x, r, rfl, H⟩ := sI_ok H
    exact lv_isub hx hb hd (hZ _ _ _ _ _ _ _ H Hh locs la hP hz hS hL hn)
  | imul =>
    obtain rfl : len = 1 := hlen (show ¬ (1 : Nat) = 0 by decide)
    obtain ⟨y, r, rfl, H⟩ := sI_ok H
    obtain ⟨x, r, rfl, H⟩ := sI_ok H
    exact lv_imul hx hb hd (hZ _ _ _ _ _ _ _ H Hh locs la hP hz hS hL hn)
  | iand =>
    obtain rfl : len = 1 := hlen (show ¬ (1 : Nat) = 0 by decide)
    obtain ⟨y, r, rfl, H⟩ := sI_ok H
    obtain ⟨x, r, rfl, H⟩ := sI_ok H
    exact lv_iand hx hb hd (hZ _ _ _ _ _ _ _ H Hh locs la hP hz hS hL hn)
  | ior =>
    obtain rfl : len = 1 := hlen (show ¬ (1 : Nat) = 0 by decide)
    obtain ⟨y, r, rfl, H⟩ := sI_ok H
    obtain ⟨x, r, rfl, H⟩ := sI_ok H
    exact lv_ior hx hb hd (hZ _ _ _ _ _ _ _ H Hh locs la hP hz hS hL hn)
  | ixor =>
    obtain rfl : len = 1 := hlen (show ¬ (1 : Nat) = 0 by decide)
    obtain ⟨y, r, rfl, H⟩ := sI_ok H
    obtain ⟨x, r, rfl, H⟩ := sI_ok H
    exact lv_ixor hx hb hd (hZ _ _ _ _ _ _ _ H Hh locs la hP hz hS hL hn)
  | ishl =>
    obtain rfl : len = 1 := hlen (show ¬ (1 : Nat) = 0 by decide)
    obtain ⟨y, r, rfl, H⟩ := sI_ok H
    obtain ⟨x, r, rfl, H⟩ := sI_ok H
    exact lv_ishl hx hb hd (hZ _ _ _ _ _ _ _ H Hh locs la hP hz hS hL hn)
  | ishr =>
    obtain rfl : len = 1 := hlen (show ¬ (1 : Nat) = 0 by decide)
    obtain ⟨y, r, rfl, H⟩ := sI_ok H
    obtain ⟨x, r, rfl, H⟩ := sI_ok H
    exact lv_ishr hx hb hd (hZ _ _ _ _ _ _ _ H Hh locs la hP hz hS hL hn)
  | idiv =>
    obtain rfl : len = 1 := hlen (show ¬ (1 : Nat) = 0 by decide)
    obtain ⟨y, r, rfl, H⟩ := sI_ok H
    obtain ⟨x, r, rfl, hy, H⟩ := sI_ok H
    exact lv_idiv hx hb hd hy (hZ _ _ _ _ _ _ _ H Hh locs la hP hz hS hL hn)
  | irem =>
    obtain rfl : len = 1 := hlen (show ¬ (1 : Nat) = 0 by decide)
    obtain ⟨y, r, rfl, H⟩ := sI_ok H
    obtain ⟨x, r, rfl, hy, H⟩ := sI_ok H
    exact lv_irem hx hb hd hy (hZ _ _ _ _ _ _ _ H Hh locs la hP hz hS hL hn)
  | ineg =>
    obtain rfl : len = 1 := hlen (show ¬ (1 : Nat) = 0 by decide)
    obtain ⟨x, r, rfl, H⟩ := sI_ok H
    exact lv_ineg hx hb hd (hZ _ _ _ _ _ _ _ H Hh locs la hP hz hS hL hn)
  | iushr =>
    obtain rfl : len = 1 := hlen (show ¬ (1 : Nat) = 0 by decide)
    obtain ⟨y, r, rfl, H⟩ := sI_ok H
    obtain ⟨x, r, rfl, H⟩ := sI_ok H
    exact lv_iushr hx hb hd rfl (hZ _ _ _ _ _ _ _ H Hh locs la hP hz hS hL hn)
  | ladd =>
    obtain rfl : len = 1 := hlen (show ¬ (1 : Nat) = 0 by decide)
    obtain ⟨y, r, rfl, H⟩ := sL_ok H
    obtain ⟨x, r, rfl, H⟩ := sL_ok H
    exact lv_ladd hx hb hd (hZ _ _ _ _ _ _ _ H Hh locs la hP hz hS hL hn)
  | lsub =>
    obtain rfl : len = 1 := hlen (show ¬ (1 : Nat) = 0 by decide)
    obtain ⟨y, r, rfl, H⟩ := sL_ok H
    obtain ⟨x, r, rfl, H⟩ := sL_ok H
    exact lv_lsub hx hb hd (hZ _ _ _ _ _ _ _ H Hh locs la hP hz hS hL hn)
  | lmul =>
    obtain rfl : len = 1 := hlen (show ¬ (1 : Nat) = 0 by decide)
    obtain ⟨y, r, rfl, H⟩ := sL_ok H
    obtain ⟨x, r, rfl, H⟩ := sL_ok H
    exact lv_lmul hx hb hd (hZ _ _ _ _ _ _ _ H Hh locs la hP hz hS hL hn)
  | land =>
    obtain rfl : len = 1 := hlen (show ¬ (1 : Nat) = 0 by decide)
    obtain ⟨y, r, rfl, H⟩ := sL_ok H
    obtain ⟨x, r, rfl, H⟩ := sL_ok H
    exact lv_land hx hb hd (hZ _ _ _ _ _ _ _ H Hh locs la hP hz hS hL hn)
  | lor =>
    obtain rfl : len = 1 := hlen (show ¬ (1 : Nat) = 0 by decide)
    obtain ⟨y, r, rfl, H⟩ := sL_ok H
    obtain ⟨x, r, rfl, H⟩ := sL_ok H
    exact lv_lor hx hb hd (hZ _ _ _ _ _ _ _ H Hh locs la hP hz hS hL hn)
  | ldiv =>
    obtain rfl : len = 1 := hlen (show ¬ (1 : Nat) = 0 by decide)
    obtain ⟨y, r, rfl, H⟩ := sL_ok H
    obtain ⟨x, r, rfl, hy, H⟩ := sL_ok H
    exact lv_ldiv hx hb hd hy (hZ _ _ _ _ _ _ _ H Hh locs la hP hz hS hL hn)
  | lrem =>
    obtain rfl : len = 1 := hlen (show ¬ (1 : Nat) = 0 by decide)
    obtain ⟨y, r, rfl, H⟩ := sL_ok H
    obtain ⟨x, r, rfl, hy, H⟩ := sL_ok H
    exact lv_lrem hx hb hd hy (hZ _ _ _ _ _ _ _ H Hh locs la hP hz hS hL hn)
  | lshl =>
    obtain rfl : len = 1 := hlen (show ¬ (1 : Nat) = 0 by decide)
    obtain ⟨y, r, rfl, H⟩ := sI_ok H
    obtain ⟨x, r, rfl, H⟩ := sL_ok H
    exact lv_lshl hx hb hd rfl (hZ _ _ _ _ _ _ _ H Hh locs la hP hz hS hL hn)
  | lshr =>
    obtain rfl : len = 1 := hlen (show ¬ (1 : Nat) = 0 by decide)
    obtain ⟨y, r, rfl, H⟩ := sI_ok H
    obtain ⟨x, r, rfl, H⟩ := sL_ok H
    exact lv_lshr hx hb hd rfl (hZ _ _ _ _ _ _ _ H Hh locs la hP hz hS hL hn)
  | lushr =>
    obtain rfl : len = 1 := hlen (show ¬ (1 : Nat) = 0 by decide)
    obtain ⟨y, r, rfl, H⟩ := sI_ok H
    obtain ⟨x, r, rfl, H⟩ := sL_ok H
    exact lv_lushr hx hb hd rfl (hZ _ _ _ _ _ _ _ H Hh locs la hP hz hS hL hn)
  | i2l =>
    obtain rfl : len = 1 := hlen (show ¬ (1 : Nat) = 0 by decide)
    obtain ⟨x, r, rfl, H⟩ := sI_ok H
    exact lv_i2l hx hb hd rfl (hZ _ _ _ _ _ _ _ H Hh locs la hP hz hS hL hn)
  | l2i =>
    obtain rfl : len = 1 := hlen (show ¬ (1 : Nat) = 0 by decide)
    obtain ⟨x, r, rfl, H⟩ := sL_ok H
    exact lv_l2i hx hb hd rfl (hZ _ _ _ _ _ _ _ H Hh locs la hP hz hS hL hn)
  | i2b =>
    obtain rfl : len = 1 := hlen (show ¬ (1 : Nat) = 0 by decide)
    obtain ⟨x, r, rfl, H⟩ := sI_ok H
    exact lv_i2b hx hb hd rfl (hZ _ _ _ _ _ _ _ H Hh locs la hP hz hS hL hn)
  | i2s =>
    obtain rfl : len = 1 := hlen (show ¬ (1 : Nat) = 0 by decide)
    obtain ⟨x, r, rfl, H⟩ := sI_ok H
    exact lv_i2s hx hb hd rfl (hZ _ _ _ _ _ _ _ H Hh locs la hP hz hS hL hn)
  | i2c =>
    obtain rfl : len = 1 := hlen (show ¬ (1 : Nat) = 0 by decide)
    obtain ⟨x, r, rfl, H⟩ := sI_ok H
    exact lv_i2c hx hb hd rfl (hZ _ _ _ _ _ _ _ H Hh locs la hP hz hS hL hn)
  | lcmp =>
    obtain rfl : len = 1 := hlen (show ¬ (1 : Nat) = 0 by decide)
    obtain ⟨y, r, rfl, H⟩ := sL_ok H
    obtain ⟨x, r, rfl, H⟩ := sL_ok H
    exact W.lcmp hx hb hd (hZ _ _ _ _ _ _ _ H Hh locs la hP hz hS hL hn)
  | dup =>
    obtain rfl : len = 1 := hlen (show ¬ (1 : Nat) = 0 by decide)
    obtain ⟨v, r, rfl, hv, H⟩ := sV_ok (f := fun v r => Z (pc + 1) ls (v :: v :: r) sh h n k) H
    have hc : ∀ v : rPV, (∀ x, v ≠ pL x) → (rV b cv fm v).category = 1 := fun v hv => by
      rcases lv_cat (rV b cv fm v) with e | e
      · exact e
      · obtain ⟨x, hx⟩ := rV_cat hfm v e
        exact absurd hx (hv x)
    exact lv_dup hx hb hd (hc v hv) (hZ _ _ _ _ _ _ _ H Hh locs la hP hz hS hL hn)
  | pop =>
    obtain rfl : len = 1 := hlen (show ¬ (1 : Nat) = 0 by decide)
    obtain ⟨v, r, rfl, hv, H⟩ := sV_ok (f := fun _ r => Z (pc + 1) ls r sh h n k) H
    have hc : ∀ v : rPV, (∀ x, v ≠ pL x) → (rV b cv fm v).category = 1 := fun v hv => by
      rcases lv_cat (rV b cv fm v) with e | e
      · exact e
      · obtain ⟨x, hx⟩ := rV_cat hfm v e
        exact absurd hx (hv x)
    exact lv_pop hx hb hd (hc v hv) (hZ _ _ _ _ _ _ _ H Hh locs la hP hz hS hL hn)
  | dup2 =>
    obtain rfl : len = 1 := hlen (show ¬ (1 : Nat) = 0 by decide)
    obtain ⟨v, r, rfl, hv, H⟩ := sV_ok (f := fun v r => sV r (fun u r => Z (pc + 1) ls (v :: u :: v :: u :: r) sh h n k)) H
    obtain ⟨u, r, rfl, hu, H⟩ := sV_ok (f := fun u r => Z (pc + 1) ls (v :: u :: v :: u :: r) sh h n k) H
    have hc : ∀ v : rPV, (∀ x, v ≠ pL x) → (rV b cv fm v).category = 1 := fun v hv => by
      rcases lv_cat (rV b cv fm v) with e | e
      · exact e
      · obtain ⟨x, hx⟩ := rV_cat hfm v e
        exact absurd hx (hv x)
    exact lv_dup2_11 hx hb hd (hc v hv) (hc u hu) (hZ _ _ _ _ _ _ _ H Hh locs la hP hz hS hL hn)
  | ifCond cnd o =>
    obtain rfl : len = 3 := hlen (show ¬ (3 : Nat) = 0 by decide)
    cases cnd with
    | eq =>
      obtain ⟨x, r, rfl, H⟩ := sI_ok H
      exact lv_if_eq hx hb hd (rT_eq (of_decide_eq_true hoff)) (fun hq => hZ _ _ _ _ _ _ _ (H.1 hq) Hh locs la hP hz hS hL hn) (fun hq => hZ _ _ _ _ _ _ _ (H.2 hq) Hh locs la hP hz hS hL hn)
    | ne =>
      obtain ⟨x, r, rfl, H⟩ := sI_ok H
      exact lv_if_ne hx hb hd (rT_eq (of_decide_eq_true hoff)) (fun hq => hZ _ _ _ _ _ _ _ (H.2 hq) Hh locs la hP hz hS hL hn) (fun hq => hZ _ _ _ _ _ _ _ (H.1 hq) Hh locs la hP hz hS hL hn)
    | lt =>
      obtain ⟨x, r, rfl, H⟩ := sI_ok H
      exact lv_if_lt hx hb hd (rT_eq (of_decide_eq_true hoff)) (fun hq => hZ _ _ _ _ _ _ _ (H.1 hq) Hh locs la hP hz hS hL hn) (fun hq => hZ _ _ _ _ _ _ _ (H.2 hq) Hh locs la hP hz hS hL hn)
    | ge =>
      obtain ⟨x, r, rfl, H⟩ := sI_ok H
      exact lv_if_ge hx hb hd (rT_eq (of_decide_eq_true hoff)) (fun hq => hZ _ _ _ _ _ _ _ (H.1 hq) Hh locs la hP hz hS hL hn) (fun hq => hZ _ _ _ _ _ _ _ (H.2 hq) Hh locs la hP hz hS hL hn)
    | gt =>
      obtain ⟨x, r, rfl, H⟩ := sI_ok H
      exact lv_if_gt hx hb hd (rT_eq (of_decide_eq_true hoff)) (fun hq => hZ _ _ _ _ _ _ _ (H.1 hq) Hh locs la hP hz hS hL hn) (fun hq => hZ _ _ _ _ _ _ _ (H.2 hq) Hh locs la hP hz hS hL hn)
    | le =>
      obtain ⟨x, r, rfl, H⟩ := sI_ok H
      exact lv_if_le hx hb hd (rT_eq (of_decide_eq_true hoff)) (fun hq => hZ _ _ _ _ _ _ _ (H.1 hq) Hh locs la hP hz hS hL hn) (fun hq => hZ _ _ _ _ _ _ _ (H.2 hq) Hh locs la hP hz hS hL hn)
  | if_icmp cnd o =>
    obtain rfl : len = 3 := hlen (show ¬ (3 : Nat) = 0 by decide)
    cases cnd with
    | eq =>
      obtain ⟨y, r, rfl, H⟩ := sI_ok H
      obtain ⟨x, r, rfl, H⟩ := sI_ok H
      exact lv_icmp_eq hx hb hd (rT_eq (of_decide_eq_true hoff)) (fun hq => hZ _ _ _ _ _ _ _ (H.1 hq) Hh locs la hP hz hS hL hn) (fun hq => hZ _ _ _ _ _ _ _ (H.2 hq) Hh locs la hP hz hS hL hn)
    | ne =>
      obtain ⟨y, r, rfl, H⟩ := sI_ok H
      obtain ⟨x, r, rfl, H⟩ := sI_ok H
      exact lv_icmp_ne hx hb hd (rT_eq (of_decide_eq_true hoff)) (fun hq => hZ _ _ _ _ _ _ _ (H.2 hq) Hh locs la hP hz hS hL hn) (fun hq => hZ _ _ _ _ _ _ _ (H.1 hq) Hh locs la hP hz hS hL hn)
    | lt =>
      obtain ⟨y, r, rfl, H⟩ := sI_ok H
      obtain ⟨x, r, rfl, H⟩ := sI_ok H
      exact lv_icmp_lt hx hb hd (rT_eq (of_decide_eq_true hoff)) (fun hq => hZ _ _ _ _ _ _ _ (H.1 hq) Hh locs la hP hz hS hL hn) (fun hq => hZ _ _ _ _ _ _ _ (H.2 hq) Hh locs la hP hz hS hL hn)
    | ge =>
      obtain ⟨y, r, rfl, H⟩ := sI_ok H
      obtain ⟨x, r, rfl, H⟩ := sI_ok H
      exact lv_icmp_ge hx hb hd (rT_eq (of_decide_eq_true hoff)) (fun hq => hZ _ _ _ _ _ _ _ (H.1 hq) Hh locs la hP hz hS hL hn) (fun hq => hZ _ _ _ _ _ _ _ (H.2 hq) Hh locs la hP hz hS hL hn)
    | gt =>
      obtain ⟨y, r, rfl, H⟩ := sI_ok H
      obtain ⟨x, r, rfl, H⟩ := sI_ok H
      exact lv_icmp_gt hx hb hd (rT_eq (of_decide_eq_true hoff)) (fun hq => hZ _ _ _ _ _ _ _ (H.1 hq) Hh locs la hP hz hS hL hn) (fun hq => hZ _ _ _ _ _ _ _ (H.2 hq) Hh locs la hP hz hS hL hn)
    | le =>
      obtain ⟨y, r, rfl, H⟩ := sI_ok H
      obtain ⟨x, r, rfl, H⟩ := sI_ok H
      exact lv_icmp_le hx hb hd (rT_eq (of_decide_eq_true hoff)) (fun hq => hZ _ _ _ _ _ _ _ (H.1 hq) Hh locs la hP hz hS hL hn) (fun hq => hZ _ _ _ _ _ _ _ (H.2 hq) Hh locs la hP hz hS hL hn)
  | goto o =>
    obtain rfl : len = 3 := hlen (show ¬ (3 : Nat) = 0 by decide)
    exact lv_goto hx hb hd (rT_eq (of_decide_eq_true hoff)) (hZ _ _ _ _ _ _ _ H Hh locs la hP hz hS hL hn)
  | tableswitch df lo hi os =>
    obtain ⟨x, r, rfl, H⟩ := sI_ok H
    simp only [rOff, Bool.and_eq_true, List.all_eq_true, decide_eq_true_eq] at hoff
    obtain ⟨o1, o2, o3, o4, o5⟩ := hoff
    obtain ⟨g1, g2⟩ := rTab_ok os.toList lo o4 (by omega) H
    by_cases hxx : x.toInt < lo ∨ hi < x.toInt
    · exact lv_tableOut hx hb hd hxx (rT_eq o1) (hZ _ _ _ _ _ _ _ (g1 (by omega)) Hh locs la hP hz hS hL hn)
    · have hj : (x.toInt - lo).toNat < os.toList.length := by omega
      have hj2 : os.toList[(x.toInt - lo).toNat]? = some (os.toList[(x.toInt - lo).toNat]'hj) := List.getElem?_eq_getElem hj
      exact lv_tableIn hx hb hd (by omega) (by omega) (by rw [← Array.getElem?_toList]; exact hj2) (rT_eq (o2 _ (List.mem_of_getElem? hj2))) (hZ _ _ _ _ _ _ _ (g2 _ _ hj2 (by omega)) Hh locs la hP hz hS hL hn)
  | lookupswitch df ps =>
    obtain ⟨x, r, rfl, H⟩ := sI_ok H
    unfold rOff at hoff
    rw [Bool.and_eq_true, Bool.and_eq_true] at hoff
    obtain ⟨o1, o2, o3⟩ := hoff
    have o1 := of_decide_eq_true o1
    simp only [List.all_eq_true, Bool.and_eq_true, decide_eq_true_eq] at o2
    have hk := rSw_ok ps.toList (fun q hq => ⟨(o2 q hq).2.1, (o2 q hq).2.2⟩) H
    refine lv_lookup hx hb hd o3 rfl (rT_eq ?_) (hZ _ _ _ _ _ _ _ hk Hh locs la hP hz hS hL hn)
    rcases rSw_mem (d := df) (x := x.toInt) ps.toList with e | ⟨q, h1, h2⟩
    · rw [e]; exact o1
    · rw [h2]; exact (o2 q h1).1
  | getfield x =>
    obtain rfl : len = 3 := hlen (show ¬ (3 : Nat) = 0 by decide)
    rcases sRC_ok H with ⟨a, r, rfl, H⟩ | ⟨a, r, rfl, H⟩
    · obtain ⟨⟨ci, j, kd⟩, hq, H⟩ := oM_ok H
      obtain ⟨l1, h1, h2⟩ := rLk2_ok hq
      obtain ⟨CC, T, N, ty, hKc, hjN, hlk, -⟩ := rFall _ _ h1 _ h2
      obtain ⟨sl, hsh, H⟩ := fO_ok H
      have hsame : ∀ x, s.fieldFound? (T j).1 (T j).2.1 (T j).2.2.1 = some x → s.fieldFound? CC (T j).2.1 (T j).2.2.1 = some x := fun x hx => by rw [← hKc.2.2.2.2.2.1 j hjN]; exact hx
      rcases fS_ok H with ⟨hj, H⟩ | ⟨o, hj, H⟩
      · exact va_get (C := CC) (T := T) (N := N) hx hb hts hKc.2.2.1 hown hK hP a (rW_at hsh) hKc.1 j hjN (hts _ hlk) hsame (rFs_at hj) hd (hZ _ _ _ _ _ _ _ H Hh locs la hP hz hS hL hn)
      · have hk := hZ _ _ _ _ _ _ _ H Hh locs la hP hz hS hL hn
        rw [List.map_cons, ← rVo b cv fm (h a) j o] at hk
        exact va_get (C := CC) (T := T) (N := N) hx hb hts hKc.2.2.1 hown hK hP a (rW_at hsh) hKc.1 j hjN (hts _ hlk) hsame (rFs_at hj) hd hk
    · obtain ⟨i, hi, H1⟩ := oM_ok H
      clear H
      obtain ⟨rfl, hi15⟩ := rSt_ok hi
      obtain ⟨bb, hq, H2⟩ := oM_ok H1
      obtain ⟨l1, h1, h2⟩ := rLk2_ok hq
      have hlk := rZall _ _ h1 _ h2
      have e4 : rV b cv fm (pC (10 + i)) = .ref (cv (10 + i)) := if_neg (by omega)
      rw [List.map_cons, e4]
      have hstr := hcon.2.2.2.2.2.1.1 i hi15
      cases bb with
      | true =>
        have hk := hZ _ _ _ _ _ _ _ H2 Hh locs la hP hz hS hL hn
        have e5 : rV b cv fm (pC (i + 40)) = .ref (cv (40 + i)) := by
          show (if i + 40 = 3 then fm else Value.ref (cv (i + 40))) = _
          rw [if_neg (by omega), Nat.add_comm]
        rw [List.map_cons, e5] at hk
        exact vk_getf hx hb hstr.2.2.1 hS hown (hts _ hlk) (fun x hx => hx) hd hk
      | false =>
        exact vk_getf hx hb hstr.2.1 hS hown (hts _ hlk) (fun x hx => hx) hd (hZ _ _ _ _ _ _ _ H2 Hh locs la hP hz hS hL hn)
  | putfield x =>
    obtain rfl : len = 3 := hlen (show ¬ (3 : Nat) = 0 by decide)
    obtain ⟨⟨ci, j, kd⟩, hq, H⟩ := oM_ok H
    obtain ⟨l1, h1, h2⟩ := rLk2_ok hq
    obtain ⟨CC, T, N, ty, hKc, hjN, hlk, hfin⟩ := rFall _ _ h1 _ h2
    have hsame : ∀ x, s.fieldFound? (T j).1 (T j).2.1 (T j).2.2.1 = some x → s.fieldFound? CC (T j).2.1 (T j).2.2.1 = some x := fun x hx => by rw [← hKc.2.2.2.2.2.1 j hjN]; exact hx
    dsimp only at H hfin hjN hlk hKc
    match kd, H, hfin with
    | 0, H, hfin =>
      obtain ⟨v, r, rfl, H1⟩ := sI_ok (f := fun v r => sR r (fun a r => fO sh a ci (fun sl => fS sl j (Z (pc + 3) ls r sh (rUp h a j v) n k) (fun _ => False)))) H
      clear H
      obtain ⟨a, r, rfl, H2⟩ := sR_ok H1
      clear H1
      obtain ⟨sl, hsh, H⟩ := fO_ok H2
      rcases fS_ok H with ⟨hj, H⟩ | ⟨o, hj, H⟩
      · refine va_put (C := CC) (T := T) (N := N) hx hb hts hKc.2.2.1 ty hKc.2.2.2.2.1 hKc.2.2.2.1 hown hK hP hDD hS a (rW_at hsh) hKc.1 j hjN (hts _ hlk) hsame hfin.1 (ty := .int) (v := .int v) (by rw [hKc.2.2.2.2.1 j hjN, hfin.2]) rfl rfl (by rw [rFs_len]; exact (List.getElem?_eq_some_iff.mp hj).1) hd (fun H1 locs1 hP1 hD1 hS1 => ?_)
        rw [rW_put hsh hj] at hP1
        exact hZ _ _ _ _ _ _ _ H H1 locs1 la hP1 hz hS1 hL hn
      · exact H.elim
    | 1, H, hfin =>
      obtain ⟨v, r, rfl, H1⟩ := sI_ok (f := fun v r => sR r (fun a r => fO sh a ci (fun sl => fS sl j ((v = 0 ∨ v = 1) ∧ Z (pc + 3) ls r sh (rUp h a j v) n k) (fun _ => False)))) H
      clear H
      obtain ⟨a, r, rfl, H2⟩ := sR_ok H1
      clear H1
      obtain ⟨sl, hsh, H⟩ := fO_ok H2
      rcases fS_ok H with ⟨hj, H⟩ | ⟨o, hj, H⟩
      · obtain ⟨hv, H⟩ := H
        refine va_put (C := CC) (T := T) (N := N) hx hb hts hKc.2.2.1 ty hKc.2.2.2.2.1 hKc.2.2.2.1 hown hK hP hDD hS a (rW_at hsh) hKc.1 j hjN (hts _ hlk) hsame hfin.1 (ty := .boolean) (v := .int v) (by rw [hKc.2.2.2.2.1 j hjN, hfin.2]) (by rcases hv with rfl | rfl <;> rfl) (by rcases hv with rfl | rfl <;> rfl) (by rw [rFs_len]; exact (List.getElem?_eq_some_iff.mp hj).1) hd (fun H1 locs1 hP1 hD1 hS1 => ?_)
        rw [rW_put hsh hj] at hP1
        exact hZ _ _ _ _ _ _ _ H H1 locs1 la hP1 hz hS1 hL hn
      · exact H.elim
    | kd + 2, H, hfin =>
      obtain ⟨y, r, rfl, H1⟩ := sR_ok (f := fun y r => sR r (fun a r => fO sh a ci (fun sl => fS sl j False (fun _ => bB (M.2.2.2.1 && Nat.beq ci M.2.2.1) (Z (pc + 3) ls r (sh.set a (.inl (ci, sl.set j (some (some y))))) h n k))))) H
      clear H
      obtain ⟨a, r, rfl, H2⟩ := sR_ok H1
      clear H1
      obtain ⟨sl, hsh, H⟩ := fO_ok H2
      rcases fS_ok H with ⟨hj, H⟩ | ⟨o, hj, H⟩
      · exact H.elim
      · obtain ⟨hb1, H⟩ := bB_ok H
        rw [Bool.and_eq_true] at hb1
        have hci : ci = M.2.2.1 := Nat.eq_of_beq_eq_true hb1.2
        have hjl := (List.getElem?_eq_some_iff.mp hj).1
        refine va_putF (C := CC) (T := T) (N := N) hx hb hts hKc.2.2.1 ty hKc.2.2.2.2.1 hKc.2.2.2.1 hown hK hP hDD hS a (rW_at hsh) hKc.1 j hjN (hts _ hlk) hsame hfin.1 (hin hb1.1) (by rw [hKc.2.2.2.2.2.1 j hjN, hKc.2.1, hci]) (ty := ty j) (v := .ref (b + y)) (hKc.2.2.2.2.1 j hjN) (hfin.2 _).1 (hfin.2 _).2 (by rw [rFs_len]; exact hjl) hd (fun H1 locs1 hP1 hD1 hS1 => ?_)
        rw [rW_putR hsh hjl] at hP1
        exact hZ _ _ _ _ _ _ _ H H1 locs1 la hP1 (by rw [List.length_set]; exact hz) hS1 hL hn
  | getstatic x =>
    obtain rfl : len = 3 := hlen (show ¬ (3 : Nat) = 0 by decide)
    obtain ⟨⟨v, bb⟩, hq, H⟩ := oM_ok H
    obtain ⟨l1, h1, h2⟩ := rLk2_ok hq
    obtain ⟨hv, hlk⟩ := rGall _ _ h1 _ h2
    dsimp only at hv hlk H
    obtain ⟨-, ⟨hz1, -⟩, ⟨hz2, -⟩, hz3, hz4, -, -, hn0, hn1, hn2, hn3, hn4⟩ := hcon
    have key : va_Z (rGs v).1 (rGs v).2.1 (rGs v).2.2 (rV b cv fm v) (rA b) s s.heap := by
      rcases hv with rfl | rfl | rfl | rfl
      · exact hz3
      · exact hz1
      · exact hz2
      · exact hz4
    cases bb with
    | false => exact va_gets hx hb key hS hown (hts _ hlk) (fun x hx => hx) hd (hZ _ _ _ _ _ _ _ H Hh locs la hP hz hS hL hn)
    | true =>
      have hw : (Cond.fieldLinkNest (rCn M.2.2.1) x (rGs v).1 (rGs v).2.1 (rGs v).2.2 "SampleLayers").before args s = true := by
        have hlk2 : Cond.fieldLinkNest (rCn M.2.2.1) x (rGs v).1 (rGs v).2.1 (rGs v).2.2 "SampleLayers" ∈ [rN0, rN1, rN2, rN3, rN4] := hlk
        simp only [List.mem_cons, List.not_mem_nil, or_false] at hlk2
        rcases hlk2 with q | q | q | q | q
        · cases q
        · cases q
        · cases q
        · cases q
        · rw [q]; exact va_Nw.use rfl hn4
      exact va_getsN hx hb key hS hown hw (fun x hx => hx) hd (hZ _ _ _ _ _ _ _ H Hh locs la hP hz hS hL hn)
  | iaload =>
    obtain rfl : len = 1 := hlen (show ¬ (1 : Nat) = 0 by decide)
    obtain ⟨j, r, rfl, H⟩ := sI_ok H
    rcases sRC_ok H with ⟨a, r, rfl, H⟩ | ⟨a, r, rfl, H⟩
    · rcases fA_ok H with ⟨mm, hsh, hv, H⟩ | ⟨mm, hsh, H⟩
      · exact va_iald hx hb hK hP a 0 (rW_at hsh) rfl hv hd (hZ _ _ _ _ _ _ _ H Hh locs la hP hz hS hL hn)
      · exact H.elim
    · obtain ⟨q, hq, hv, H⟩ := oM_ok H
      have hk := hZ _ _ _ _ _ _ _ H Hh locs la hP hz hS hL hn
      match a, hq with
      | 0, hq =>
        cases hq
        exact va_sld hx hb hcon.1.2 (by have := hcon.1.1; omega) (by have := hcon.1.1; unfold rA; omega) hS hv hd hk
      | 1, hq =>
        cases hq
        exact va_ti hx hb hcon.2.1.2 hS hv rfl hd hk
      | 2, hq =>
        cases hq
        exact va_ti hx hb hcon.2.2.1.2 hS hv rfl hd hk
      | a + 3, hq => cases hq
  | baload =>
    obtain rfl : len = 1 := hlen (show ¬ (1 : Nat) = 0 by decide)
    obtain ⟨j, r, rfl, H⟩ := sI_ok H
    rcases sRC_ok H with ⟨a, r, rfl, H⟩ | ⟨a, r, rfl, H⟩
    · rcases fA_ok H with ⟨mm, hsh, H⟩ | ⟨mm, hsh, hv, H⟩
      · exact H.elim
      · exact va_bald hx hb hK hP a 1 (rW_at hsh) rfl hv hd (hZ _ _ _ _ _ _ _ H Hh locs la hP hz hS hL hn)
    · obtain ⟨i, hi, hv, H1⟩ := oM_ok H
      clear H
      obtain ⟨rfl, hi15⟩ := rSb_ok hi
      have e4 : rV b cv fm (pC (40 + i)) = .ref (cv (40 + i)) := if_neg (by omega)
      have hstr := (hcon.2.2.2.2.2.1.1 i hi15).2.2.2
      rw [List.map_cons, List.map_cons, e4]
      exact va_tb hx hb hstr hS hv rfl hd (hZ _ _ _ _ _ _ _ H1 Hh locs la hP hz hS hL hn)
  | iastore =>
    obtain rfl : len = 1 := hlen (show ¬ (1 : Nat) = 0 by decide)
    obtain ⟨v, r, rfl, H⟩ := sI_ok H
    obtain ⟨j, r, rfl, H⟩ := sI_ok H
    obtain ⟨a, r, rfl, H⟩ := sR_ok H
    rcases fA_ok H with ⟨mm, hsh, hv, H⟩ | ⟨mm, hsh, H⟩
    · refine va_iast hx hb hK hP hDD hS a 0 (rW_at hsh) rfl hv hd (fun H1 locs1 hP1 hD1 hS1 => ?_)
      have e := rW_putA (b := b) (cI := cI) (cB := cB) (h := h) (j := j.toNatClampNeg) (x := v) hsh
      rw [e] at hP1
      exact hZ _ _ _ _ _ _ _ H H1 locs1 la hP1 hz hS1 hL hn
    · exact H.elim
  | bastore =>
    obtain rfl : len = 1 := hlen (show ¬ (1 : Nat) = 0 by decide)
    obtain ⟨v, r, rfl, H⟩ := sI_ok H
    obtain ⟨j, r, rfl, H⟩ := sI_ok H
    obtain ⟨a, r, rfl, H⟩ := sR_ok H
    rcases fA_ok H with ⟨mm, hsh, H⟩ | ⟨mm, hsh, hv, H⟩
    · exact H.elim
    · refine va_bast hx hb hK hP hDD hS a 1 (rW_at hsh) rfl hv hd (fun H1 locs1 hP1 hD1 hS1 => ?_)
      have e := rW_putA (b := b) (cI := cI) (cB := cB) (h := h) (j := j.toNatClampNeg) (x := v.toInt8.toInt32) hsh
      rw [vp_nar_byte, e] at hP1
      exact hZ _ _ _ _ _ _ _ H H1 locs1 la hP1 hz hS1 hL hn
  | arraylength =>
    obtain rfl : len = 1 := hlen (show ¬ (1 : Nat) = 0 by decide)
    rcases sRC_ok H with ⟨a, r, rfl, H⟩ | ⟨a, r, rfl, H⟩
    · rcases fA_ok H with ⟨mm, hsh, H⟩ | ⟨mm, hsh, H⟩
      · exact va_alen hx hb hK hP a 0 (rW_at hsh) rfl rfl hd (hZ _ _ _ _ _ _ _ H Hh locs la hP hz hS hL hn)
      · exact va_alen hx hb hK hP a 1 (rW_at hsh) rfl rfl hd (hZ _ _ _ _ _ _ _ H Hh locs la hP hz hS hL hn)
    · rcases oE_ok H with ⟨i, hi, H1⟩ | ⟨-, H1⟩
      · clear H
        obtain ⟨rfl, hi15⟩ := rSb_ok hi
        have e4 : rV b cv fm (pC (40 + i)) = .ref (cv (40 + i)) := if_neg (by omega)
        have hstr := (hcon.2.2.2.2.2.1.1 i hi15).2.2.2
        rw [List.map_cons, e4]
        exact va_tlen hx hb hstr hS rfl hd (hZ _ _ _ _ _ _ _ H1 Hh locs la hP hz hS hL hn)
      · obtain ⟨h0, H2⟩ := bB_ok H1
        clear H H1
        have h0 : a = 0 := Nat.eq_of_beq_eq_true h0
        subst h0
        exact va_slen hx hb hcon.1.2 (by have := hcon.1.1; omega) (by have := hcon.1.1; unfold rA; omega) hS hd (hZ _ _ _ _ _ _ _ H2 Hh locs la hP hz hS hL hn)
  | newarray ty =>
    obtain rfl : len = 2 := hlen (show ¬ (2 : Nat) = 0 by decide)
    cases ty with
    | int =>
      obtain ⟨mm, r, rfl, ⟨hm1, hm2⟩, H⟩ := sI_ok H
      obtain ⟨hn1, hk1, H⟩ := rBk_ok H
      refine rSize hbs hP hz hS (fun hsz => ?_)
      refine va_newaK hx hb (atype := .int) (hts _ rArrI) rfl hd rfl hm1 rfl (rByint hm2) (by omega) (by omega) rfl (fun H1 cA e1 z1 o1 hAr hNm => ?_)
      have hcA : cA = cI := by
        have h3 := (hK.2 0 _ rfl).2
        exact Option.some.inj (hNm.symm.trans h3)
      subst hcA
      have hP1 : va_P D classes (rW b cA cB (sh ++ [.inr (false, mm.toNatClampNeg)]) (rZ h sh.length)) H1 := by
        rw [rW_push]
        refine (hP.kept (fun k x hx => o1 x.1 (hP k x hx).lt)).app (fun k x hx => ?_)
        have hz0 : k < 1 := (List.getElem?_eq_some_iff.mp hx).1
        rw [show k = 0 by omega] at hx
        cases hx
        rw [hsz] at e1
        exact e1
      have hk := hZ _ _ _ _ _ _ _ H H1 locs la hP1 (by rw [List.length_append]; simp only [List.length_cons, List.length_nil]; omega) ⟨Nat.le_trans hS.1 (by omega), fun x h1 h2 => (o1 x (Nat.lt_of_lt_of_le h1 hS.1)).trans (hS.2.1 x h1 h2), hS.2.2⟩ hL hn
      rw [List.map_cons] at hk
      have e6 : rV b cv fm (pR sh.length) = .ref Hh.size := by rw [hsz]; rfl
      rw [e6] at hk
      exact hk
    | byte =>
      obtain ⟨mm, r, rfl, ⟨hm1, hm2⟩, H⟩ := sI_ok H
      obtain ⟨hn1, hk1, H⟩ := rBk_ok H
      refine rSize hbs hP hz hS (fun hsz => ?_)
      refine va_newaK hx hb (atype := .byte) (hts _ rArrB) rfl hd rfl hm1 rfl (rBybyte hm2) (by omega) (by omega) rfl (fun H1 cA e1 z1 o1 hAr hNm => ?_)
      have hcA : cA = cB := by
        have h3 := (hK.2 1 _ rfl).2
        exact Option.some.inj (hNm.symm.trans h3)
      subst hcA
      have hP1 : va_P D classes (rW b cI cA (sh ++ [.inr (true, mm.toNatClampNeg)]) (rZ h sh.length)) H1 := by
        rw [rW_push]
        refine (hP.kept (fun k x hx => o1 x.1 (hP k x hx).lt)).app (fun k x hx => ?_)
        have hz0 : k < 1 := (List.getElem?_eq_some_iff.mp hx).1
        rw [show k = 0 by omega] at hx
        cases hx
        rw [hsz] at e1
        exact e1
      have hk := hZ _ _ _ _ _ _ _ H H1 locs la hP1 (by rw [List.length_append]; simp only [List.length_cons, List.length_nil]; omega) ⟨Nat.le_trans hS.1 (by omega), fun x h1 h2 => (o1 x (Nat.lt_of_lt_of_le h1 hS.1)).trans (hS.2.1 x h1 h2), hS.2.2⟩ hL hn
      rw [List.map_cons] at hk
      have e6 : rV b cv fm (pR sh.length) = .ref Hh.size := by rw [hsz]; rfl
      rw [e6] at hk
      exact hk
    | _ => exact (show False from H).elim
  | new x =>
    obtain rfl : len = 3 := hlen (show ¬ (3 : Nat) = 0 by decide)
    obtain ⟨ci, hq, H⟩ := oM_ok H
    obtain ⟨l1, h1, h2⟩ := rLk2_ok hq
    obtain ⟨hc7, hlk⟩ := rCnew _ _ h1 _ h2
    obtain ⟨sl, hsl, H⟩ := oM_ok H
    obtain ⟨hn1, hk1, H⟩ := rBk_ok H
    obtain ⟨CC, T, N, ty, hKc⟩ := rKcl ci hc7
    obtain ⟨hN, hdf⟩ := rBlank_ok hKc hsl
    have hKn := hK.1 ci _ hKc.1
    refine rSize hbs hP hz hS (fun hsz => ?_)
    refine W.newcK hx hb hown (by rw [hKc.2.1]; exact hts _ hlk) (hts _ hKc.2.2.2.2.2.2.1) (hts _ hKc.2.2.2.2.2.2.2) rfl hd (by omega) (by omega) hKn.2.1 rfl (fun H1 kC hkC e1 z1 o1 => ?_)
    have hP1 : va_P D classes (rW b cI cB (sh ++ [.inl (ci, sl)]) (rZ h sh.length)) H1 := by
      rw [rW_push]
      refine (hP.kept (fun k x hx => o1 x.1 (hP k x hx).lt)).app (fun k x hx => ?_)
      have hz0 : k < 1 := (List.getElem?_eq_some_iff.mp hx).1
      rw [show k = 0 by omega] at hx
      cases hx
      rw [hsz] at e1
      exact ⟨_, hKc.1, (u_born ty hts hKc.2.2.1 hKn hkC e1 hKc.2.2.2.2.1).to (fun j hj => hdf b j hj)⟩
    have hk := hZ _ _ _ _ _ _ _ H H1 locs la hP1 (by rw [List.length_append]; simp only [List.length_cons, List.length_nil]; omega) ⟨Nat.le_trans hS.1 (by omega), fun x h1 h2 => (o1 x (Nat.lt_of_lt_of_le h1 hS.1)).trans (hS.2.1 x h1 h2), hS.2.2⟩ hL hn
    rw [List.map_cons] at hk
    have e6 : rV b cv fm (pR sh.length) = .ref Hh.size := by rw [hsz]; rfl
    rw [e6, hN] at hk
    exact hk
  | invokevirtual x =>
    obtain rfl : len = 3 := hlen (show ¬ (3 : Nat) = 0 by decide)
    obtain ⟨⟨kd, cm⟩, hq, H⟩ := oM_ok H
    obtain ⟨l1, h1, h2⟩ := rLk2_ok hq
    have hMk := rMall _ _ h1 _ h2
    obtain ⟨h0, H⟩ := bB_ok H
    have h0 : kd = 0 := Nat.eq_of_beq_eq_true h0
    subst h0
    obtain ⟨M', hM', hM, hna, hlk, hins, hsel⟩ := hMk
    dsimp only at hM' hM hna hlk hins hsel
    obtain ⟨M2, hM2, H⟩ := oM_ok H
    dsimp only at hM2 H
    cases hM'.symm.trans hM2
    refine rInv_ok C0 hZ hKM hM hM' H (fun H0 locs la as pre r Pst hlen hst has hrecv hP hS hla hsum hc1 hc2 hMet hPre => ?_) Hh locs la hP hz hS hL hn
    subst hst
    subst has
    have hin4 : ∀ w ∈ ([.methodLink (rCn M.2.2.1) x (rYn M'.1), .instanceMethod (rYn M'.1), .selects (rYn M'.1).cls (rYn M'.1) (rYn M'.1), .initialized (rYn M'.1).cls] : List Cond), w ∈ rTT := by
      rw [hM.1]
      exact List.forall_mem_cons.mpr ⟨hlk, List.forall_mem_cons.mpr ⟨hins, List.forall_mem_cons.mpr ⟨hsel, List.forall_mem_cons.mpr ⟨hM.2.2.1, fun _ h => absurd h List.not_mem_nil⟩⟩⟩⟩
    have hy := hM.2.2.2.2.2.1
    rw [← hM.1] at hy hna
    obtain ⟨a0, tl, hpre, b0, hb0, hrc⟩ : ∃ a0 tl, pre.reverse = a0 :: tl ∧ ∃ b0, rV b cv fm a0 = .ref b0 ∧ ∃ cellB : Cell, H0[b0]? = some cellB ∧ cellB.vm.isStatics = false ∧ s.vm.findClass (rYn M'.1).cls = some cellB.cls := by
      rw [show (rYn M'.1).cls = rCn M'.2.2.1 by rw [hM.1]; exact hM.2.2.2.1]
      revert hrecv
      cases pre.reverse with
      | nil => intro hrecv; cases hrecv
      | cons a0 tl =>
        intro hrecv
        refine ⟨a0, tl, rfl, ?_⟩
        match a0, hrecv with
        | .inr (.inr (.inl (some a))), hrecv =>
          refine ⟨b + a, rfl, ?_⟩
          change (match rNth sh a with | some (.inl (cj, _)) => Nat.beq cj M'.2.2.1 | _ => false) = true at hrecv
          split at hrecv
          · rename_i cj sl hcj
            rw [rNth_eq] at hcj
            have e9 : cj = M'.2.2.1 := Nat.eq_of_beq_eq_true hrecv
            have hat := hP a _ (rW_at hcj)
            obtain ⟨q', g1, cell, g2, g3, g4, -⟩ := hat
            have hq7 : cj < 7 := (List.getElem?_eq_some_iff.mp g1).1
            obtain ⟨CC, T, N, ty, hKc⟩ := rKcl cj hq7
            cases g1.symm.trans hKc.1
            refine ⟨cell, g2, by rw [g4]; rfl, ?_⟩
            rw [← e9, ← hKc.2.1, g3]
            exact (hK.1 cj _ hKc.1).2.1
          · cases hrecv
        | .inr (.inr (.inr cc0)), hrecv =>
          change (match rSt cc0 with | some _ => Nat.beq 8 M'.2.2.1 | none => false) = true at hrecv
          split at hrecv
          · rename_i i0 hi0
            obtain ⟨rfl, hi15⟩ := rSt_ok hi0
            have e9 : 8 = M'.2.2.1 := Nat.eq_of_beq_eq_true hrecv
            refine ⟨cv (10 + i0), if_neg (by omega), ?_⟩
            rw [← e9]
            exact vk_recv (adK := fun i => cv (10 + i)) (adV := fun i => cv (40 + i)) hcon.2.2.2.2.2.1 hi15 hS
          · cases hrecv
        | .inl _, hrecv => cases hrecv
        | .inr (.inl _), hrecv => cases hrecv
        | .inr (.inr (.inl none)), hrecv => cases hrecv
    have hpre2 : pre = tl.reverse ++ [a0] := by
      have := congrArg List.reverse hpre
      rw [List.reverse_reverse, List.reverse_cons] at this
      exact this
    have hlen2 : tl.length + 1 = M'.2.2.2.2.2.2.2.2 := by
      rw [← hlen, ← List.length_reverse (as := pre), hpre]; rfl
    rw [hpre]
    have hrunV := va_runV (e := e) (below := below) (meth := meth) (locs := locs) (cells := n) (slots := k) (As := tl.map (rV b cv fm)) (rest := r.map (rV b cv fm)) (g := F0 m pc la ((pre ++ r).map (rV b cv fm))) (b := b0) ⟨hx, hb, hml, hown, hts⟩ hMet (cwV tl.length hts (rGoodX hM hin4) rfl rfl rfl ⟨rfl, hy.1, hy.2, by
      rw [← hlen2] at hna
      revert hna
      cases parseMethodDescriptor (rYn M'.1).desc with
      | none => intro hna; cases hna
      | some dd => intro hna; simpa using hna⟩ ⟨by show d + 1 ≤ R.frames; omega, by show 8 + (_ + 11) + 64 * d ≤ R.locals; have := hM.2.2.2.2.2.2.2.1; omega⟩) ⟨rBlind, hrc, fun U hU hW => ⟨by rw [hpre, List.map_cons, hb0], hPre U hU hW⟩⟩ rfl (by rw [List.length_map]) hla (by rw [hpre2]; simp [hb0]) (lv_room hsum) hd ⟨hc1, hc2⟩
    rw [List.map_cons, hb0]
    exact hrunV
  | invokestatic x =>
    obtain rfl : len = 3 := hlen (show ¬ (3 : Nat) = 0 by decide)
    obtain ⟨⟨kd, cm⟩, hq, H⟩ := oM_ok H
    obtain ⟨l1, h1, h2⟩ := rLk2_ok hq
    have hMk := rMall _ _ h1 _ h2
    dsimp only at H
    match kd, H, hMk with
    | 0, H, _ => exact (show False from H).elim
    | 1, H, hMk =>
      obtain ⟨M', hM', hM, hna, hlk, hst⟩ := hMk
      dsimp only at hM' hM hna hlk hst
      obtain ⟨M2, hM2, H⟩ := oM_ok H
      cases hM'.symm.trans hM2
      refine rInv_ok C0 hZ hKM hM hM' H (fun H0 locs la as pre r Pst hlen hst0 has hrecv hP hS hla hsum hc1 hc2 hMet hPre => ?_) Hh locs la hP hz hS hL hn
      subst hst0
      subst has
      have hin4 : ∀ w ∈ ([.methodLink (rCn M.2.2.1) x (rYn M'.1), .static (rYn M'.1), .initialized (rYn M'.1).cls] : List Cond), w ∈ rTT := by
        rw [hM.1]
        exact List.forall_mem_cons.mpr ⟨hlk, List.forall_mem_cons.mpr ⟨hst, List.forall_mem_cons.mpr ⟨hM.2.2.1, fun _ h => absurd h List.not_mem_nil⟩⟩⟩
      have hy := hM.2.2.2.2.2.1
      rw [← hM.1] at hy hna
      exact va_runS (As := pre.reverse.map (rV b cv fm)) ⟨hx, hb, hml, hown, hts⟩ hMet (va_cwS M'.2.2.2.2.2.2.2.2 hts (rGoodX hM hin4) rfl rfl rfl ⟨hy.1, hy.2, hna⟩ ⟨by show d + 1 ≤ R.frames; omega, by show 8 + (_ + 11) + 64 * d ≤ R.locals; have := hM.2.2.2.2.2.2.2.1; omega⟩) ⟨rBlind, fun U hU hW => ⟨rfl, hPre U hU hW⟩⟩ rfl (by simp [hlen]) hla (by simp) (lv_room hsum) hd ⟨hc1, hc2⟩
    | 2, H, _ => exact (show False from H).elim
    | 3, H, hMk =>
      obtain ⟨M', hM', hM, hna, hlk, hst⟩ := hMk
      dsimp only at hM' hM hna hlk hst
      obtain ⟨M2, hM2, H⟩ := oM_ok H
      cases hM'.symm.trans hM2
      refine rInv_ok C0 hZ hKM hM hM' H (fun H0 locs la as pre r Pst hlen hst0 has hrecv hP hS hla hsum hc1 hc2 hMet hPre => ?_) Hh locs la hP hz hS hL hn
      subst hst0
      subst has
      have hw : va_Nw (.methodLinkNest (rCn M.2.2.1) x (rYn M'.1) "SampleLayers") s := by
        rw [hM.1]
        obtain ⟨-, -, -, -, -, -, -, hn0, hn1, hn2, hn3, hn4⟩ := hcon
        have hlk2 : Cond.methodLinkNest (rCn M.2.2.1) x (rYn cm) "SampleLayers" ∈ [rN0, rN1, rN2, rN3, rN4] := hlk
        simp only [List.mem_cons, List.not_mem_nil, or_false] at hlk2
        rcases hlk2 with q | q | q | q | q
        · rw [q]; exact hn0
        · rw [q]; exact hn1
        · rw [q]; exact hn2
        · rw [q]; exact hn3
        · cases q
      have hy := hM.2.2.2.2.2.1
      rw [← hM.1] at hy hna hst
      exact va_runSN (As := pre.reverse.map (rV b cv fm)) ⟨hx, hb, hml, hown, hts⟩ hMet ⟨va_cnB M'.2.2.2.2.2.2.2.2 hts (rGoodC hM) rfl rfl rfl hw (by rw [hM.1]; exact hts _ hM.2.2.1) ⟨hy.1, hy.2, hna⟩ ⟨by show d + 1 ≤ R.frames; omega, by show 8 + (_ + 11) + 64 * d ≤ R.locals; have := hM.2.2.2.2.2.2.2.1; omega⟩, hts _ hst, trivial⟩ ⟨rBlind, fun U hU hW => ⟨rfl, hPre U hU hW⟩⟩ rfl (by simp [hlen]) hla (by simp) (lv_room hsum) hd ⟨hc1, hc2⟩
    | 4, H, hMk =>
      obtain ⟨mm, r, rfl, H1⟩ := sI_ok H
      clear H
      obtain ⟨dp, r, rfl, H2⟩ := sI_ok H1
      clear H1
      obtain ⟨o, r, rfl, H3⟩ := sR_ok H2
      clear H2
      obtain ⟨sp, r, rfl, H4⟩ := sI_ok H3
      clear H3
      obtain ⟨i, r, rfl, H5⟩ := sR_ok H4
      clear H4
      rcases fA_ok H5 with ⟨ni, hi, H6⟩ | ⟨ni, hi, H6⟩
      · rcases fA_ok H6 with ⟨no, ho, ⟨c1, c2, c3, c4, c5⟩, H7⟩ | ⟨no, ho, H7⟩
        · obtain ⟨hb1, H8⟩ := bB_ok H7
          have hr4 := Nat.le_of_ble_eq_true hb1
          have hsum := rCatSum (b := b) (cv := cv) hfm r
          refine va_copyi hx hb (by rw [hml, hL.1, hn]) hown (hts _ hMk.1) (hts _ hMk.2.1) (hts _ hMk.2.2.1) (hts _ hMk.2.2.2) hK hP hDD hS i o 0 0 (rW_at hi) (rW_at ho) rfl rfl rfl c1 c2 c3 c4 c5 (fun _ _ => rfl) (by omega) (by have := rNat; omega) hd (fun H1 locs1 hP1 hD1 hS1 => ?_)
          have e := rW_cpy (b := b) (cI := cI) (cB := cB) (h := h) (i := i) (sp := sp.toNatClampNeg) (dp := dp.toNatClampNeg) (m := mm.toNatClampNeg) ho
          rw [e] at hP1
          exact hZ _ _ _ _ _ _ _ H8 H1 locs1 la hP1 hz hS1 hL hn
        · exact H7.elim
      · exact H6.elim
    | 5, H, _ => exact (show False from H).elim
    | 6, H, hMk =>
      obtain ⟨yy, r, rfl, H1⟩ := sI_ok H
      clear H
      obtain ⟨xx, r, rfl, H2⟩ := sI_ok H1
      clear H1
      obtain ⟨hb1, H3⟩ := bB_ok H2
      obtain ⟨hcn, hsn, H⟩ := rBk_ok H3
      have hr4 := Nat.le_of_ble_eq_true hb1
      have hsum := rCatSum (b := b) (cv := cv) hfm r
      exact va_mmax hx hb (by rw [hml, hL.1, hn]) hown (hts _ hMk.1) (hts _ hMk.2.1) (hts _ hMk.2.2.1) (hts _ hMk.2.2.2) (by omega) (by omega) (by omega) (by omega) hd (hZ _ _ _ _ _ _ _ H Hh locs la hP hz hS hL hn)
    | 7, H, hMk =>
      obtain ⟨yy, r, rfl, H1⟩ := sI_ok H
      clear H
      obtain ⟨xx, r, rfl, H2⟩ := sI_ok H1
      clear H1
      obtain ⟨hb1, H3⟩ := bB_ok H2
      obtain ⟨hcn, hsn, H⟩ := rBk_ok H3
      have hr4 := Nat.le_of_ble_eq_true hb1
      have hsum := rCatSum (b := b) (cv := cv) hfm r
      exact va_mmin hx hb (by rw [hml, hL.1, hn]) hown (hts _ hMk.1) (hts _ hMk.2.1) (hts _ hMk.2.2.1) (hts _ hMk.2.2.2) (by omega) (by omega) (by omega) (by omega) hd (hZ _ _ _ _ _ _ _ H Hh locs la hP hz hS hL hn)
    | kd + 8, H, _ => exact (show False from H).elim
  | invokespecial x =>
    obtain rfl : len = 3 := hlen (show ¬ (3 : Nat) = 0 by decide)
    obtain ⟨⟨kd, cm⟩, hq, H⟩ := oM_ok H
    obtain ⟨l1, h1, h2⟩ := rLk2_ok hq
    have hMk := rMall _ _ h1 _ h2
    dsimp only at H
    match kd, H, hMk with
    | 0, H, _ => exact (show False from H).elim
    | 1, H, _ => exact (show False from H).elim
    | 2, H, hMk =>
      obtain ⟨M', hM', hM, hna, hlk, hins, hnm⟩ := hMk
      dsimp only at hM' hM hna hlk hins hnm
      obtain ⟨M2, hM2, H⟩ := oM_ok H
      cases hM'.symm.trans hM2
      have hret := hM.2.2.2.2.2.2.2.2 (hM.2.2.2.2.2.2.1.mpr hnm)
      refine rInv_ok C0 hZ hKM hM hM' H (fun H0 locs la as pre r Pst hlen hst0 has hrecv hP hS hla hsum hc1 hc2 hMet hPre => ?_) Hh locs la hP hz hS hL hn
      subst hst0
      subst has
      have hy := hM.2.2.2.2.2.1
      rw [← hM.1] at hy hna hnm hlk hins
      obtain ⟨a0, tl, hpre, b0, hb0⟩ : ∃ a0 tl, pre.reverse = a0 :: tl ∧ ∃ b0, rV b cv fm a0 = .ref b0 := by
        revert hrecv
        cases pre.reverse with
        | nil => intro hrecv; cases hrecv
        | cons a0 tl =>
          intro hrecv
          refine ⟨a0, tl, rfl, ?_⟩
          match a0, hrecv with
          | .inr (.inr (.inl (some a))), hrecv => exact ⟨b + a, rfl⟩
          | .inr (.inr (.inr cc0)), hrecv => cases hrecv
          | .inl _, hrecv => cases hrecv
          | .inr (.inl _), hrecv => cases hrecv
          | .inr (.inr (.inl none)), hrecv => cases hrecv
      have hpre2 : pre = tl.reverse ++ [a0] := by
        have := congrArg List.reverse hpre
        rw [List.reverse_reverse, List.reverse_cons] at this
        exact this
      have hlen2 : tl.length + 1 = M'.2.2.2.2.2.2.2.2 := by
        rw [← hlen, ← List.length_reverse (as := pre), hpre]; rfl
      have hrunI := va_runI (e := e) (below := below) (meth := meth) (locs := locs) (cells := n) (slots := k) (As := tl.map (rV b cv fm)) (rest := r.map (rV b cv fm)) (g := F0 m pc la ((pre ++ r).map (rV b cv fm))) (b := b0) ⟨hx, hb, hml, hown, hts⟩ hMet (cwI tl.length hts (rGoodC hM) (by rw [rWs, hret]) rfl rfl (by rw [hM.1]; exact hts _ hM.2.2.1) (hts _ hlk) (hts _ hins) hnm ⟨hy.1, hy.2, by
        rw [← hlen2] at hna
        revert hna
        cases parseMethodDescriptor (rYn M'.1).desc with
        | none => intro hna; cases hna
        | some dd => intro hna; simpa using hna⟩ ⟨by show d + 1 ≤ R.frames; omega, by show 8 + (_ + 11) + 64 * d ≤ R.locals; have := hM.2.2.2.2.2.2.2.1; omega⟩) ⟨rBlind, fun U hU hW => ⟨by rw [hpre, List.map_cons, hb0], hPre U hU hW⟩⟩ rfl (by rw [List.length_map]) hla (by rw [hpre2]; simp [hb0]) (lv_room hsum) hd ⟨hc1, hc2⟩
      rw [hpre, List.map_cons, hb0]
      exact hrunI
    | 3, H, _ => exact (show False from H).elim
    | 4, H, _ => exact (show False from H).elim
    | 5, H, hMk =>
      obtain ⟨a, r, rfl, H1⟩ := sR_ok H
      clear H
      obtain ⟨hb1, H⟩ := bB_ok H1
      have hr4 := Nat.le_of_ble_eq_true hb1
      have hsum := rCatSum (b := b) (cv := cv) hfm r
      exact W.objInit hx hb hown (hts _ hMk.1) (hts _ hMk.2.1) (hts _ hMk.2.2) rfl (by rw [hml, ← hn, ← hL.1]) rfl hd (by omega) (by show 2 * 0 + _ + 12 ≤ _; omega) (hZ _ _ _ _ _ _ _ H Hh locs la hP hz hS hL hn)
    | kd + 6, H, _ => exact (show False from H).elim
  | ireturn =>
    obtain rfl : len = 1 := hlen (show ¬ (1 : Nat) = 0 by decide)
    obtain ⟨x, r, rfl, H1⟩ := sI_ok H
    clear H
    obtain ⟨rfl, H⟩ := sN_ok H1
    clear H1
    cases hret : M.2.2.2.2.1 with
    | none => rw [hret] at H; exact (show False from H).elim
    | some ty =>
      rw [hret] at H
      match ty, hret, H with
      | .int, hret, H =>
        obtain ⟨h1, h2, H⟩ := rBk_ok H
        exact hI x _ pc sh h n k Hh locs la hret (Or.inl rfl) rfl hd H h1 h2 hP hS
      | .boolean, hret, H =>
        obtain ⟨hv, H⟩ := H
        obtain ⟨h1, h2, H⟩ := rBk_ok H
        exact hI x _ pc sh h n k Hh locs la hret (Or.inr (Or.inl rfl)) (by rcases hv with rfl | rfl <;> rfl) hd H h1 h2 hP hS
      | .byte, hret, H =>
        obtain ⟨hv, H⟩ := H
        obtain ⟨h1, h2, H⟩ := rBk_ok H
        exact hI x _ pc sh h n k Hh locs la hret (Or.inr (Or.inr (Or.inl rfl))) hv hd H h1 h2 hP hS
      | .char, hret, H =>
        obtain ⟨hv, H⟩ := H
        obtain ⟨h1, h2, H⟩ := rBk_ok H
        exact hI x _ pc sh h n k Hh locs la hret (Or.inr (Or.inr (Or.inr rfl))) hv hd H h1 h2 hP hS
      | .short, hret, H => exact (show False from H).elim
      | .long, hret, H => exact (show False from H).elim
      | .float, hret, H => exact (show False from H).elim
      | .double, hret, H => exact (show False from H).elim
      | .object _, hret, H => exact (show False from H).elim
      | .array _, hret, H => exact (show False from H).elim
  | lreturn =>
    obtain rfl : len = 1 := hlen (show ¬ (1 : Nat) = 0 by decide)
    obtain ⟨x, r, rfl, H1⟩ := sL_ok H
    clear H
    obtain ⟨rfl, H⟩ := sN_ok H1
    clear H1
    cases hret : M.2.2.2.2.1 with
    | none => rw [hret] at H; exact (show False from H).elim
    | some ty =>
      rw [hret] at H
      match ty, hret, H with
      | .long, hret, H =>
        obtain ⟨h1, h2, H⟩ := rBk_ok H
        exact hL0 x pc sh h n k Hh locs la hret hd H h1 h2 hP hS
      | .int, hret, H => exact (show False from H).elim
      | .boolean, hret, H => exact (show False from H).elim
      | .byte, hret, H => exact (show False from H).elim
      | .char, hret, H => exact (show False from H).elim
      | .short, hret, H => exact (show False from H).elim
      | .float, hret, H => exact (show False from H).elim
      | .double, hret, H => exact (show False from H).elim
      | .object _, hret, H => exact (show False from H).elim
      | .array _, hret, H => exact (show False from H).elim
  | return_ =>
    obtain rfl : len = 1 := hlen (show ¬ (1 : Nat) = 0 by decide)
    obtain ⟨rfl, H1⟩ := sN_ok H
    clear H
    have H := H1
    clear H1
    cases hret : M.2.2.2.2.1 with
    | some ty => rw [hret] at H; exact (show False from H).elim
    | none =>
      rw [hret] at H
      obtain ⟨h1, h2, H⟩ := rBk_ok H
      exact hV0 pc sh h n k Hh locs la hret hd H h1 h2 hP hS
  | _ => exact (show False from H).elim
end SND2
