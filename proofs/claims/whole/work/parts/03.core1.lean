/-! A LITTLE MACHINE OVER WHOLE NUMBERS: values, memory, shapes; how they stand in the real one -/
abbrev zV : Type := (Int ⊕ Int) ⊕ Option (Int ⊕ Nat)
abbrev zI (x : Int) : zV := Sum.inl (Sum.inl x)
abbrev zJ (x : Int) : zV := Sum.inl (Sum.inr x)
abbrev zP (a : Int) : zV := Sum.inr (some (Sum.inl a))
abbrev zQ (k : Nat) : zV := Sum.inr (some (Sum.inr k))
abbrev zN : zV := Sum.inr none
/-- memory: a cell's address, a place in it -/
abbrev zM : Type := Int → Int → Int
/-- shapes (kind, length), how many cells, how many slots -/
abbrev zE : Type := (Int → Nat × Int) × Nat × Nat
/-- where the first cell lies; the classes; the array classes; the script: cell, length, ints; the String constants and their bytes -/
abbrev zG : Type := Nat × va_G × (Nat → ClassId) × Nat × Nat × (Nat → Int32) × (Nat → Nat) × (Nat → Nat)
abbrev zY : Type := MethodName × ByteArray × Nat × Option FieldType
def ze (G : zG) : zV → Value
  | .inl (.inl x) => .int (Int32.ofInt x)
  | .inl (.inr x) => .long (Int64.ofInt x)
  | .inr (some (.inl a)) => .ref (G.1 + a.toNat)
  | .inr (some (.inr 0)) => .ref G.2.2.2.1
  | .inr (some (.inr (k + 1))) => .ref (G.2.2.2.2.2.2.1 k)
  | .inr none => .null
def zr32 (x : Int) : Prop := -2147483648 ≤ x ∧ x < 2147483648
def zr64 (x : Int) : Prop := -9223372036854775808 ≤ x ∧ x < 9223372036854775808
def zok : zV → Prop
  | .inl (.inl x) => zr32 x
  | .inl (.inr x) => zr64 x
  | .inr _ => True
def w32 (x : Int) : Int := (Int32.ofInt x).toInt
def w64 (x : Int) : Int := (Int64.ofInt x).toInt
theorem w32_id {x : Int} (h : -2147483648 ≤ x ∧ x < 2147483648) : w32 x = x := Int32.toInt_ofInt_of_le h.1 h.2
theorem w64_id {x : Int} (h : -9223372036854775808 ≤ x ∧ x < 9223372036854775808) : w64 x = x := Int64.toInt_ofInt_of_le h.1 h.2
theorem zr32_of (x : Int32) : zr32 x.toInt := ⟨Int32.le_toInt x, Int32.toInt_lt x⟩
theorem zr64_of (x : Int64) : zr64 x.toInt := ⟨Int64.le_toInt x, Int64.toInt_lt x⟩
theorem zr32_w (x : Int) : zr32 (w32 x) := zr32_of _
theorem zr64_w (x : Int) : zr64 (w64 x) := zr64_of _
theorem w32_of (x : Int) : Int32.ofInt (w32 x) = Int32.ofInt x := Int32.ofInt_toInt _
theorem w64_of (x : Int) : Int64.ofInt (w64 x) = Int64.ofInt x := Int64.ofInt_toInt _
theorem z32_toInt {x : Int} (h : zr32 x) : (Int32.ofInt x).toInt = x := w32_id h
theorem z64_toInt {x : Int} (h : zr64 x) : (Int64.ofInt x).toInt = x := w64_id h
theorem z32_eq {a b : Int} (ha : zr32 a) (hb : zr32 b) : Int32.ofInt a = Int32.ofInt b ↔ a = b := by
  refine ⟨fun h => ?_, fun h => by rw [h]⟩
  have := congrArg Int32.toInt h
  rwa [z32_toInt ha, z32_toInt hb] at this
theorem z32_lt {a b : Int} (ha : zr32 a) (hb : zr32 b) : Int32.ofInt a < Int32.ofInt b ↔ a < b := by
  rw [Int32.lt_iff_toInt_lt, z32_toInt ha, z32_toInt hb]
theorem z32_le {a b : Int} (ha : zr32 a) (hb : zr32 b) : Int32.ofInt a ≤ Int32.ofInt b ↔ a ≤ b := by
  rw [Int32.le_iff_toInt_le, z32_toInt ha, z32_toInt hb]
theorem z32_0 : (0 : Int32) = Int32.ofInt 0 := rfl
theorem zr32_0 : zr32 0 := ⟨by decide, by decide⟩
theorem z64_eq {a b : Int} (ha : zr64 a) (hb : zr64 b) : Int64.ofInt a = Int64.ofInt b ↔ a = b := by
  refine ⟨fun h => ?_, fun h => by rw [h]⟩
  have := congrArg Int64.toInt h
  rwa [z64_toInt ha, z64_toInt hb] at this
theorem z64_lt {a b : Int} (ha : zr64 a) (hb : zr64 b) : Int64.ofInt a < Int64.ofInt b ↔ a < b := by
  rw [Int64.lt_iff_toInt_lt, z64_toInt ha, z64_toInt hb]
/-- an index in its row -/
theorem z32_clamp {i : Int} (h : zr32 i) (h0 : 0 ≤ i) : (Int32.ofInt i).toNatClampNeg = i.toNat := by
  show (Int32.ofInt i).toInt.toNat = i.toNat
  rw [z32_toInt h]
theorem z32_in {i n : Int} (h : zr32 i) (h0 : 0 ≤ i) (hn : i < n) : vp_in (Int32.ofInt i) n.toNat := by
  rw [vp_in_iff, z32_toInt h]
  omega
-- what instructions do
def zand (a b : Int) : Int := (Int32.ofInt a &&& Int32.ofInt b).toInt
def zor (a b : Int) : Int := (Int32.ofInt a ||| Int32.ofInt b).toInt
def zxor (a b : Int) : Int := (Int32.ofInt a ^^^ Int32.ofInt b).toInt
def zshl (a b : Int) : Int := (Int32.ofInt a <<< (Int32.ofInt b &&& 31)).toInt
def zshr (a b : Int) : Int := (Int32.ofInt a >>> (Int32.ofInt b &&& 31)).toInt
def zdiv (a b : Int) : Int := (Int32.ofInt a / Int32.ofInt b).toInt
def zrem (a b : Int) : Int := (Int32.ofInt a - Int32.ofInt a / Int32.ofInt b * Int32.ofInt b).toInt
def zneg (a : Int) : Int := w32 (-a)
def zland (a b : Int) : Int := (Int64.ofInt a &&& Int64.ofInt b).toInt
def zlor (a b : Int) : Int := (Int64.ofInt a ||| Int64.ofInt b).toInt
def zldiv (a b : Int) : Int := (Int64.ofInt a / Int64.ofInt b).toInt
def zlshl (a b : Int) : Int := (Int64.ofInt a <<< ((Int32.ofInt b).toInt64 &&& 63)).toInt
def zlshr (a b : Int) : Int := (Int64.ofInt a >>> ((Int32.ofInt b).toInt64 &&& 63)).toInt
def zlushr (a b : Int) : Int := ((Int64.ofInt a).toUInt64 >>> ((Int32.ofInt b).toInt64.toUInt64 &&& Int64.toUInt64 63)).toInt64.toInt
def zcmp (a b : Int) : Int := if a < b then -1 else if a = b then 0 else 1
def zl2i (a : Int) : Int := (Int64.ofInt a).toInt32.toInt
def zi2b (a : Int) : Int := (Int32.ofInt a).toInt8.toInt32.toInt
-- cells
def zfk : FieldType → Nat
  | .long => 1
  | .object _ => 2
  | .array _ => 2
  | _ => 0
def zef (G : zG) (ty : FieldType) (x : Int) : Value := match zfk ty with
  | 0 => .int (Int32.ofInt x)
  | 1 => .long (Int64.ofInt x)
  | _ => if x < 0 then .null else .ref (G.1 + x.toNat)
def zcl : List vw_C := [(RX0, TX0, 20), (RX1, TX1, 5), (RX2, TX2, 3), (RX3, TX3, 4), (RX4, TX4, 7), (RX5, TX5, 4), (RX6, TX6, 2), (RX7, TX7, 16), (RX8, TX8, 0), (RX9, TX9, 10), (RX10, TX10, 3), (RX11, TX11, 12), (RX12, TX12, 54)]
def zty : Nat → Nat → FieldType
  | 0 => tyX0
  | 1 => tyX1
  | 2 => tyX2
  | 3 => tyX3
  | 4 => tyX4
  | 5 => tyX5
  | 6 => tyX6
  | 7 => tyX7
  | 8 => tyX8
  | 9 => tyX9
  | 10 => tyX10
  | 11 => tyX11
  | _ => tyX12
def znf (ci : Nat) : Nat := ((zcl[ci]?).map fun q => q.2.2).getD 0
def zent (G : zG) (E : zE) (m : zM) (a : Int) : va_E := match (E.1 a).1 with
  | 0 => .inl (G.2.2.1 0, 0, .inl fun _ => 0)
  | 1 => .inl (G.2.2.1 0, (E.1 a).2.toNat, .inl fun j => Int32.ofInt (m a j))
  | 2 => .inl (G.2.2.1 1, (E.1 a).2.toNat, .inr (.inl fun j => Int64.ofInt (m a j)))
  | 3 => .inl (G.2.2.1 2, (E.1 a).2.toNat, .inl fun j => Int32.ofInt (m a j))
  | 4 => .inl (G.2.2.1 3, (E.1 a).2.toNat, .inl fun j => Int32.ofInt (m a j))
  | 5 => .inl (G.2.2.1 4, (E.1 a).2.toNat, .inr (.inr (.inr (.inr fun j => if m a j < 0 then none else some (G.1 + (m a j).toNat)))))
  | k + 6 => .inr (k, (List.range (znf k)).map fun j => zef G (zty k j) (m a j))
def zwl (G : zG) (E : zE) (m : zM) : va_W := (List.range E.2.1).map fun a => (G.1 + a, zent G E m a)
def ztys (G : zG) : List (ClassId × FieldType) := [(G.2.2.1 0, .int), (G.2.2.1 1, .long), (G.2.2.1 2, .byte), (G.2.2.1 3, .boolean), (G.2.2.1 4, .object RX5)]
/-- what kind of number a place holds: 0 an int, 1 a long, 2 an address -/
def zsk (E : zE) (a : Int) (j : Nat) : Nat := match (E.1 a).1 with
  | 2 => 1
  | 5 => 2
  | k + 6 => zfk (zty k j)
  | _ => 0
def zokS (k : Nat) (x : Int) : Prop := match k with
  | 0 => zr32 x
  | 1 => zr64 x
  | _ => True
def zokM (E : zE) (m : zM) : Prop := (∀ (a : Int) (j : Nat), zokS (zsk E a j) (m a j)) ∧ ∀ a : Int, (E.1 a).1 ≠ 0 → 0 ≤ a ∧ a < E.2.1 ∧ 0 ≤ (E.1 a).2 ∧ (E.1 a).2 < 2147483648
def zH (G : zG) (E : zE) (m : zM) (H : Heap) : Prop := va_P G.2.1 zcl (zwl G E m) H ∧ H.size = G.1 + E.2.1 ∧ zokM E m
theorem zwl_at {G : zG} {E : zE} {m : zM} {k : Nat} (h : k < E.2.1) : (zwl G E m)[k]? = some (G.1 + k, zent G E m k) := by
  simp [zwl, h]
theorem zwl_D (G : zG) (E : zE) (m : zM) : va_D (fun q => G.1 ≤ q) (zwl G E m) := by
  have key : ∀ (k : Nat) (q : Nat × va_E), (zwl G E m)[k]? = some q → q.1 = G.1 + k := by
    intro k q h
    have hk : k < E.2.1 := by
      have := (List.getElem?_eq_some_iff.mp h).1
      simpa [zwl] using this
    rw [zwl_at hk] at h
    cases h
    rfl
  refine ⟨fun i j p q hp hq e => ?_, fun k q h => ?_⟩
  · have h1 := key i p hp
    have h2 := key j q hq
    omega
  · rw [key k q h]
    omega
/-- one place of the memory changes -/
def zu (m : zM) (a j x : Int) : zM := fun b i => if b = a ∧ i = j then x else m b i
theorem zu_s {m : zM} {a j x : Int} : zu m a j x a j = x := by simp [zu]
theorem zu_a {m : zM} {a j x b i : Int} (h : b ≠ a) : zu m a j x b i = m b i := by simp [zu, h]
theorem zu_j {m : zM} {a j x b i : Int} (h : i ≠ j) : zu m a j x b i = m b i := by simp [zu, h]
theorem zwl_set {G : zG} {E : zE} {m : zM} {a j x : Int} (h0 : 0 ≤ a) (h : a < E.2.1) {v : va_E} (hv : v = zent G E (zu m a j x) a) : (zwl G E m).set a.toNat (G.1 + a.toNat, v) = zwl G E (zu m a j x) := by
  subst hv
  apply List.ext_getElem?
  intro k
  rw [List.getElem?_set]
  by_cases hk : a.toNat = k
  · subst hk
    have h1 : a.toNat < E.2.1 := by omega
    have h2 : ((a.toNat : Nat) : Int) = a := by omega
    rw [if_pos rfl, if_pos (by simpa [zwl] using h1), zwl_at h1, h2]
  · rw [if_neg hk]
    by_cases h1 : k < E.2.1
    · rw [zwl_at h1, zwl_at h1]
      have hne : (k : Int) ≠ a := by omega
      have : zent G E (zu m a j x) k = zent G E m k := by
        simp only [zent, zu_a hne]
      rw [this]
    · rw [List.getElem?_eq_none (by simpa [zwl] using h1), List.getElem?_eq_none (by simpa [zwl] using h1)]
