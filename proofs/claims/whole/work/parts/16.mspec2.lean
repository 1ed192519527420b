/-! pairings, as the model lays them: mt tells with which letter a letter is (below 0: with none) -/
def sUp (mt : Int → Int) (i j : Int) : Int → Int := fun x => if x = j then i else if x = i then j else mt x
/-- free letters below n -/
def sFree (mt : Int → Int) : Nat → Nat
  | 0 => 0
  | n + 1 => sFree mt n + (if mt n < 0 then 1 else 0)
/-- the first free letter, -1 if there is none -/
def sFst (mt : Int → Int) (n : Nat) : Int := zfst (fun i => decide (mt i < 0)) n 0
/-- g j from j = k on, s of them, one behind the other -/
def sCat {α : Type} (g : Int → List α) : Nat → Int → List α
  | 0, _ => []
  | s + 1, k => g k ++ sCat g s (k + 1)
/-- all pairings that go on from mt, in their order -/
def sLay (n : Nat) (may : Int → Int → Bool) : Nat → (Int → Int) → List (Int → Int)
  | 0, mt => if sFst mt n < 0 then [mt] else []
  | u + 1, mt => if sFst mt n < 0 then [mt] else sCat (fun j => if mt j < 0 ∧ may (sFst mt n) j = true then sLay n may u (sUp mt (sFst mt n) j) else []) (n - 1 - (sFst mt n).toNat) (sFst mt n + 1)
/-- couples of lines that cross -/
def sX (mt : Int → Int) (i j : Int) : Bool := decide (i < j ∧ j < mt i ∧ mt i < mt j)
def sCross (n : Nat) (mt : Int → Int) : Int := zsum (fun i => zsum (fun j => zb (i < mt i ∧ j < mt j ∧ sX mt i j = true)) (n - 1 - i.toNat) (i + 1)) n 0
/-- how often the sign turns; od: odd letters, br: bars of pairs -/
def sTurn (n : Nat) (od br : Int → Bool) (mt : Int → Int) : Int := zsum (fun i => if i ≤ mt i ∧ od i = true then zb (br i = true) + zsum (fun j => zb (j < mt j ∧ od j = true ∧ sX mt i j = true)) (n - 1 - i.toNat) (i + 1) else 0) n 0
def zpar (x : Int) : Int := if x % 2 = 0 then 1 else -1
def sSign (n : Nat) (od br : Int → Bool) (mt : Int → Int) : Int := zpar (sTurn n od br mt)
/-- letters not yet seen -/
def sUn (seen : Nat) : Nat → Nat
  | 0 => 0
  | n + 1 => sUn seen n + (if seen.testBit n then 0 else 1)
/-- on and on until one that was seen -/
def sTrace (nx : Nat → Nat) : Nat → Nat → Nat → Nat
  | 0, seen, _ => seen
  | u + 1, seen, at' => if seen.testBit at' then seen else sTrace nx u (seen ||| 2 ^ at') (nx at')
/-- rings: from letter k on, s of them -/
def sRings (nx : Nat → Nat) (n : Nat) : Nat → Nat → Nat → Nat
  | 0, _, _ => 0
  | s + 1, k, seen => if seen.testBit k then sRings nx n s (k + 1) seen else 1 + sRings nx n s (k + 1) (sTrace nx n seen k)
def sNx (n : Nat) (mt : Int → Int) (a : Nat) : Nat := ((mt a + 1) % n).toNat
def sRounds (n : Nat) (mt : Int → Int) : Int := (sRings (sNx n mt) n n 0 0 : Nat)
theorem sUn_or {seen n at' : Nat} (ha : at' < n) (h : seen.testBit at' = false) : sUn (seen ||| 2 ^ at') n + 1 = sUn seen n := by
  induction n with
  | zero => omega
  | succ n ih =>
    have e : (seen ||| 2 ^ at').testBit n = (seen.testBit n || decide (at' = n)) := by rw [Nat.testBit_or, Nat.testBit_two_pow]
    simp only [sUn, e]
    by_cases hn : at' = n
    · subst hn
      have key : ∀ k, k ≤ at' → sUn (seen ||| 2 ^ at') k = sUn seen k := by
        intro k
        induction k with
        | zero => intro _; rfl
        | succ k ih2 =>
          intro hk
          have e2 : (seen ||| 2 ^ at').testBit k = seen.testBit k := by
            rw [Nat.testBit_or, Nat.testBit_two_pow]
            have : ¬ at' = k := by omega
            simp [this]
          simp only [sUn, e2, ih2 (by omega)]
      rw [key at' (Nat.le_refl _)]
      simp [h]
    · have := ih (by omega)
      simp only [hn, decide_false, Bool.or_false]
      omega
theorem sUn_0 {seen n at' : Nat} (ha : at' < n) (h : sUn seen n = 0) : seen.testBit at' = true := by
  cases hb : seen.testBit at' with
  | true => rfl
  | false => have := sUn_or ha hb; omega
theorem sUn_le (seen : Nat) : ∀ n, sUn seen n ≤ n
  | 0 => Nat.le_refl _
  | n + 1 => by have := sUn_le seen n; simp only [sUn]; split <;> omega
