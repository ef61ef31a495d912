/-! how many bits -/
def qBC (a1 : Int32) : Int32 := ((((((((a1 - (((a1.toUInt32 >>> ((1:Int32).toUInt32 &&& Int32.toUInt32 31)).toInt32) &&& (1431655765:Int32))) &&& (858993459:Int32)) + ((((a1 - (((a1.toUInt32 >>> ((1:Int32).toUInt32 &&& Int32.toUInt32 31)).toInt32) &&& (1431655765:Int32))).toUInt32 >>> ((2:Int32).toUInt32 &&& Int32.toUInt32 31)).toInt32) &&& (858993459:Int32))) + (((((a1 - (((a1.toUInt32 >>> ((1:Int32).toUInt32 &&& Int32.toUInt32 31)).toInt32) &&& (1431655765:Int32))) &&& (858993459:Int32)) + ((((a1 - (((a1.toUInt32 >>> ((1:Int32).toUInt32 &&& Int32.toUInt32 31)).toInt32) &&& (1431655765:Int32))).toUInt32 >>> ((2:Int32).toUInt32 &&& Int32.toUInt32 31)).toInt32) &&& (858993459:Int32))).toUInt32 >>> ((4:Int32).toUInt32 &&& Int32.toUInt32 31)).toInt32)) &&& (252645135:Int32)) + (((((((a1 - (((a1.toUInt32 >>> ((1:Int32).toUInt32 &&& Int32.toUInt32 31)).toInt32) &&& (1431655765:Int32))) &&& (858993459:Int32)) + ((((a1 - (((a1.toUInt32 >>> ((1:Int32).toUInt32 &&& Int32.toUInt32 31)).toInt32) &&& (1431655765:Int32))).toUInt32 >>> ((2:Int32).toUInt32 &&& Int32.toUInt32 31)).toInt32) &&& (858993459:Int32))) + (((((a1 - (((a1.toUInt32 >>> ((1:Int32).toUInt32 &&& Int32.toUInt32 31)).toInt32) &&& (1431655765:Int32))) &&& (858993459:Int32)) + ((((a1 - (((a1.toUInt32 >>> ((1:Int32).toUInt32 &&& Int32.toUInt32 31)).toInt32) &&& (1431655765:Int32))).toUInt32 >>> ((2:Int32).toUInt32 &&& Int32.toUInt32 31)).toInt32) &&& (858993459:Int32))).toUInt32 >>> ((4:Int32).toUInt32 &&& Int32.toUInt32 31)).toInt32)) &&& (252645135:Int32)).toUInt32 >>> ((8:Int32).toUInt32 &&& Int32.toUInt32 31)).toInt32)) + ((((((((a1 - (((a1.toUInt32 >>> ((1:Int32).toUInt32 &&& Int32.toUInt32 31)).toInt32) &&& (1431655765:Int32))) &&& (858993459:Int32)) + ((((a1 - (((a1.toUInt32 >>> ((1:Int32).toUInt32 &&& Int32.toUInt32 31)).toInt32) &&& (1431655765:Int32))).toUInt32 >>> ((2:Int32).toUInt32 &&& Int32.toUInt32 31)).toInt32) &&& (858993459:Int32))) + (((((a1 - (((a1.toUInt32 >>> ((1:Int32).toUInt32 &&& Int32.toUInt32 31)).toInt32) &&& (1431655765:Int32))) &&& (858993459:Int32)) + ((((a1 - (((a1.toUInt32 >>> ((1:Int32).toUInt32 &&& Int32.toUInt32 31)).toInt32) &&& (1431655765:Int32))).toUInt32 >>> ((2:Int32).toUInt32 &&& Int32.toUInt32 31)).toInt32) &&& (858993459:Int32))).toUInt32 >>> ((4:Int32).toUInt32 &&& Int32.toUInt32 31)).toInt32)) &&& (252645135:Int32)) + (((((((a1 - (((a1.toUInt32 >>> ((1:Int32).toUInt32 &&& Int32.toUInt32 31)).toInt32) &&& (1431655765:Int32))) &&& (858993459:Int32)) + ((((a1 - (((a1.toUInt32 >>> ((1:Int32).toUInt32 &&& Int32.toUInt32 31)).toInt32) &&& (1431655765:Int32))).toUInt32 >>> ((2:Int32).toUInt32 &&& Int32.toUInt32 31)).toInt32) &&& (858993459:Int32))) + (((((a1 - (((a1.toUInt32 >>> ((1:Int32).toUInt32 &&& Int32.toUInt32 31)).toInt32) &&& (1431655765:Int32))) &&& (858993459:Int32)) + ((((a1 - (((a1.toUInt32 >>> ((1:Int32).toUInt32 &&& Int32.toUInt32 31)).toInt32) &&& (1431655765:Int32))).toUInt32 >>> ((2:Int32).toUInt32 &&& Int32.toUInt32 31)).toInt32) &&& (858993459:Int32))).toUInt32 >>> ((4:Int32).toUInt32 &&& Int32.toUInt32 31)).toInt32)) &&& (252645135:Int32)).toUInt32 >>> ((8:Int32).toUInt32 &&& Int32.toUInt32 31)).toInt32)).toUInt32 >>> ((16:Int32).toUInt32 &&& Int32.toUInt32 31)).toInt32)) &&& (63:Int32))
def pcn : Nat → Nat → Nat
  | 0, _ => 0
  | f + 1, v => v % 2 + pcn f (v / 2)
def pc (v : Nat) : Nat := pcn 8 v
theorem qBC_pc : ∀ v, v < 256 → qBC (nI v) = nI (pc v) := by decide +kernel
theorem pc_le : ∀ v, v < 256 → pc v ≤ 8 := by decide +kernel
/-- without the lowest bit -/
def nx : Nat → Nat → Nat
  | 0, _ => 0
  | f + 1, v => if v % 2 = 1 then v - 1 else 2 * nx f (v / 2)
theorem nx_ok : ∀ v, v < 256 → v ≠ 0 → nI v &&& (nI v - 1) = nI (nx 8 v) ∧ nx 8 v < v ∧ pc (nx 8 v) + 1 = pc v := by decide +kernel
section
variable {E : rE} {d : Nat} {h : rHp} {f : Int32 → rHp → Prop}
theorem c_bit {v : Nat} (hv : v < 256) (H : f (nI (pc v)) h) : rCall E (d + 1) mJi_bitCount [pI (nI v)] SH h (rPi SH f) := by
  rw [← qBC_pc v hv] at H
  exact vJi_bitCount ⟨rfl, H⟩
/-- an opinion kept between 0 and 99 -/
def wit (v : Int32) : Int32 := if v < 0 then 0 else if 99 < v then 99 else v
end
