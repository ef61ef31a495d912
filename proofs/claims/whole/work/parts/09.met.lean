/-! a method that comes to its end in R meets its contract on the machine -/
section MET
variable {p : Program} {l : Launch} {e : Env} {R : Room} {s : State} {m : MethodId} {args : Array Value} {below : List Frame} {meth : Method} {c : Code} {cc : ByteArray} {Q : State → Prop} {M : rM} {E : rE} {D : va_G} {cI cB : ClassId} {b : Nat} {cv : Nat → Nat} {fm : Value} {d : Nat} {K : rM → List rPV → rSh → rHp → rPost → Prop} {Post : rPost}
theorem rG_body {pc : Nat} {ls : rLs} {st : List rPV} {sh : rSh} {h : rHp} {n k : Nat} (C : rCx p R s m args meth c cc M E D cI cB b cv fm d) (hKM : ∀ (M' : rM) (i : Nat), rOkM M' i → rNth rMs i = some M' → ∀ as sh h P, K M' as sh h P → rMet l D cI cB b cv fm E d M' as sh h P)
    (hI : ∀ (x : Int32) (ty : FieldType) (pc : Nat) (sh : rSh) (h : rHp) (n k : Nat) (H : Heap) (locs : List Loc) (la : Array Slot), M.2.2.2.2.1 = some ty → (ty = .int ∨ ty = .boolean ∨ ty = .byte ∨ ty = .char) → narrow ty (.int x) = .int x → decode cc pc = .ok (.ireturn, 1) → Post (some (pI x)) sh h → n ≤ M.2.2.2.2.2.1 → k ≤ M.2.2.2.2.2.2.1 → va_P D classes (rW b cI cB sh h) H → va_S (rA b) s.heap H locs → W p l e R s m args below meth c H locs n k Q (F0 m pc la [.int x]))
    (hL0 : ∀ (x : Int64) (pc : Nat) (sh : rSh) (h : rHp) (n k : Nat) (H : Heap) (locs : List Loc) (la : Array Slot), M.2.2.2.2.1 = some .long → decode cc pc = .ok (.lreturn, 1) → Post (some (pL x)) sh h → n ≤ M.2.2.2.2.2.1 → k ≤ M.2.2.2.2.2.2.1 → va_P D classes (rW b cI cB sh h) H → va_S (rA b) s.heap H locs → W p l e R s m args below meth c H locs n k Q (F0 m pc la [.long x]))
    (hV0 : ∀ (pc : Nat) (sh : rSh) (h : rHp) (n k : Nat) (H : Heap) (locs : List Loc) (la : Array Slot), M.2.2.2.2.1 = none → decode cc pc = .ok (.return_, 1) → Post none sh h → n ≤ M.2.2.2.2.2.1 → k ≤ M.2.2.2.2.2.2.1 → va_P D classes (rW b cI cB sh h) H → va_S (rA b) s.heap H locs → W p l e R s m args below meth c H locs n k Q (F0 m pc la []))
    (H : rR E K M Post pc ls st sh h n k) : rG p l e R s m args below meth c Q D cI cB b cv fm M.2.2.2.2.2.2.2.1 pc ls st sh h n k := by
  refine H (rG p l e R s m args below meth c Q D cI cB b cv fm M.2.2.2.2.2.2.2.1) (fun pc ls st sh h n k ⟨Z, P, hZ, hP, hs⟩ => ?_)
  exact rG_step (Post := P) (Z := Z) C hZ hKM (fun x ty pc sh h n k H locs la a1 a2 a3 a4 a5 => hI x ty pc sh h n k H locs la a1 a2 a3 a4 (hP _ _ _ a5)) (fun x pc sh h n k H locs la a1 a2 a3 => hL0 x pc sh h n k H locs la a1 a2 (hP _ _ _ a3)) (fun pc sh h n k H locs la a1 a2 a3 => hV0 pc sh h n k H locs la a1 a2 (hP _ _ _ a3)) hs
theorem rLoc_len {M : rM} {as : List rPV} (h : (rEnt as).length ≤ M.2.2.2.2.2.2.2.1) : (rLoc M as).length = M.2.2.2.2.2.2.2.1 := by
  unfold rLoc
  rw [List.length_append, List.length_replicate]
  omega
theorem rLoc_has {M : rM} {as : List rPV} (hfm : fm.category = 1) (h : (rEnt as).length ≤ M.2.2.2.2.2.2.2.1) {la : Array Slot} (hl : lv_has la M.2.2.2.2.2.2.2.1 (lv_args 0 (as.map (rV b cv fm)))) : rLH b cv fm la (rLoc M as) := by
  refine ⟨by rw [hl.1, rLoc_len h], hl.2.1, fun i v hv => ?_⟩
  rw [rNth_eq] at hv
  unfold rLoc at hv
  by_cases hi : i < (rEnt as).length
  · rw [List.getElem?_append_left hi] at hv
    have := rEnt_ok (b := b) (cv := cv) hfm as 0 i v hv
    rw [Nat.zero_add] at this
    exact hl.2.2 _ this
  · rw [List.getElem?_append_right (by omega)] at hv
    have := List.eq_of_mem_replicate (List.mem_of_getElem? hv)
    cases this
set_option maxHeartbeats 1000000 in
theorem rMet_ok (hfm : fm.category = 1) (hcd : ∀ (M' : rM) (i : Nat), rOkM M' i → rNth rMs i = some M' → rCode M'.2.1 (rBy i)) : ∀ (d : Nat) (M' : rM) (i : Nat), rOkM M' i → rNth rMs i = some M' → ∀ as sh h P, rCall E d M' as sh h P → rMet l D cI cB b cv fm E d M' as sh h P := by
  intro d
  induction d with
  | zero => intro M' i hM hMs as sh h P H; exact H.elim
  | succ d ih =>
    intro M' i hM hMs as sh h P H
    obtain ⟨hb1, H⟩ := bB_ok H
    have hlen := Nat.le_of_ble_eq_true hb1
    refine Met.ofW (cc := rBy M'.1) (maxL := M'.2.2.2.2.2.2.2.1) (ret := M'.2.2.2.2.1) (by rw [hM.1]; exact hM.2.2.2.2.1) rfl ?_
    intro p e s m args below meth c s₁ B hml hv
    obtain ⟨rfl, hP, hK, hsz, hcon⟩ := hv
    have hx := B.exec
    have hb := B.bytes
    have hr := B.returns
    have hts := atoms_spec (ws := rWs M') B.pre
    have hown : s.vm.findClass (rYn M'.1).cls = some m.cls := findClass_of_methodNamed B.named
    have hlocks := B.notSynchronized
    have hin : meth.name = (rYn M'.1).name := (name_of_methodNamed B.named B.method).1
    have hl := lv_entry (as.map (rV b cv fm)) (n := M'.2.2.2.2.2.2.2.1) (by rw [rEnt_len hfm]; exact hlen)
    rw [lg_entry_eq]
    generalize (lg_sl (as.map (rV b cv fm)) ++ List.replicate (M'.2.2.2.2.2.2.2.1 - (lg_sl (as.map (rV b cv fm))).length) Slot.unset).toArray = la at hl ⊢
    have hLH := rLoc_has hfm hlen hl
    have C : rCx p (headSpec (rWs M') (rRm (d + 1) M')).room s m (as.map (rV b cv fm)).toArray meth c (rBy M'.1) M' E D cI cB b cv fm d := by
      refine ⟨hx, hb, hml, ?_, fun w hw => hts w (List.mem_cons_of_mem _ hw), hK, by omega, hcon, hfm, fun h1 => ?_, ⟨Nat.le_refl _, Nat.le_refl _, Nat.le_refl _, Nat.le_refl _⟩, ?_⟩
      · rw [← hM.2.2.2.1, ← hM.1]; exact hown
      · rw [hin, hM.1]; exact hM.2.2.2.2.2.2.1.mp h1
      · rw [hM.1]; exact hcd M' i hM hMs
    refine rG_body (Q := MQ below (rQ D cI cB b M'.2.2.2.2.1 P) (as.map (rV b cv fm)).toArray s M'.2.2.2.2.2.1 M'.2.2.2.2.2.2.1 (rA b)) C (fun M2 i2 h1 h2 as sh h P hc => ih M2 i2 h1 h2 as sh h P hc) ?_ ?_ ?_ H s.heap [] la hP (by omega) va_S.rf hLH (rLoc_len hlen)
    · intro x ty pc sh1 h1 n k H1 locs la hret hty hn hd hpost hn1 hk1 hP1 hS1
      refine W.widen hn1 hk1 ?_
      refine W.zret hx hb (by rw [hr, hret]) hn (fun t ht hW => ?_) hS1.2.2 hd
      rw [hret]
      rcases hty with rfl | rfl | rfl | rfl <;> exact ⟨⟨x, (sh1, h1), rfl, hpost, by show va_P D classes _ t.heap; rw [ht]; exact hP1⟩, hS1.F ht⟩
    · intro x pc sh1 h1 n k H1 locs la hret hd hpost hn1 hk1 hP1 hS1
      refine W.widen hn1 hk1 ?_
      refine W.lret hx hb (by rw [hr, hret]) (fun t ht hW => ?_) hS1.2.2 hd
      rw [hret]
      exact ⟨⟨x, (sh1, h1), rfl, hpost, by show va_P D classes _ t.heap; rw [ht]; exact hP1⟩, hS1.F ht⟩
    · intro pc sh1 h1 n k H1 locs la hret hd hpost hn1 hk1 hP1 hS1
      refine W.widen hn1 hk1 ?_
      refine W.vret hx hb (by rw [hr, hret]) (fun t ht hW => ?_) hS1.2.2 hd
      rw [hret]
      exact ⟨⟨(sh1, h1), rfl, hpost, by show va_P D classes _ t.heap; rw [ht]; exact hP1⟩, hS1.F ht⟩
end MET
