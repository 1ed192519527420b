def tmS (i : Nat) : Term := .string RX8 ((zstr.getD i (0, "")).1)
theorem law_S {args : Array Value} {s : State} {A : Nat → Prop} (hs : ∀ c ∈ flatC (Jvm.Cond.and given_1 narrow_1), c.before args s = true) (hA : ∀ a : Nat, a < s.heap.size → ¬ A a) : ∃ adK adV : Nat → Nat, vk_S 8 zlen zbyt adK adV A s s.heap ∧ ∀ i : Nat, i < 8 → (tmS i).eval args s none [] s = some (.ref (adK i)) := by
  refine vk_Sof (tm := tmS) (N := 8) (len := zlen) (byt := zbyt) (by decide) (fun i hi => ?_) (fun i hi => ?_) (fun i hi => ?_) (fun i hi => ?_) (fun i hi j hj => ?_) (fun i j hi hj hij => ?_) hA
  · exact (match i, hi with
    | 0, _ => hs _ (by decide +kernel)
    | 1, _ => hs _ (by decide +kernel)
    | 2, _ => hs _ (by decide +kernel)
    | 3, _ => hs _ (by decide +kernel)
    | 4, _ => hs _ (by decide +kernel)
    | 5, _ => hs _ (by decide +kernel)
    | 6, _ => hs _ (by decide +kernel)
    | 7, _ => hs _ (by decide +kernel)
    | q + 8, h => absurd h (by omega))
  · exact (match i, hi with
    | 0, _ => hs _ (by decide +kernel)
    | 1, _ => hs _ (by decide +kernel)
    | 2, _ => hs _ (by decide +kernel)
    | 3, _ => hs _ (by decide +kernel)
    | 4, _ => hs _ (by decide +kernel)
    | 5, _ => hs _ (by decide +kernel)
    | 6, _ => hs _ (by decide +kernel)
    | 7, _ => hs _ (by decide +kernel)
    | q + 8, h => absurd h (by omega))
  · exact (match i, hi with
    | 0, _ => hs _ (by decide +kernel)
    | 1, _ => hs _ (by decide +kernel)
    | 2, _ => hs _ (by decide +kernel)
    | 3, _ => hs _ (by decide +kernel)
    | 4, _ => hs _ (by decide +kernel)
    | 5, _ => hs _ (by decide +kernel)
    | 6, _ => hs _ (by decide +kernel)
    | 7, _ => hs _ (by decide +kernel)
    | q + 8, h => absurd h (by omega))
  · exact (match i, hi with
    | 0, _ => hs _ (by decide +kernel)
    | 1, _ => hs _ (by decide +kernel)
    | 2, _ => hs _ (by decide +kernel)
    | 3, _ => hs _ (by decide +kernel)
    | 4, _ => hs _ (by decide +kernel)
    | 5, _ => hs _ (by decide +kernel)
    | 6, _ => hs _ (by decide +kernel)
    | 7, _ => hs _ (by decide +kernel)
    | q + 8, h => absurd h (by omega))
  · have h : ∀ i : Nat, i < 8 → ∀ j : Nat, j < zlen.getD i 0 → Cond.eq (.elem (.field (tmS i) "java/lang/String" "value" "[B") (.int (Int32.ofNat j))) (.int ((zbyt.getD i []).getD j 0)) ∈ flatC (Jvm.Cond.and given_1 narrow_1) := by decide +kernel
    exact hs _ (h i hi j hj)
  · have h : ∀ i : Nat, i < 8 → ∀ j : Nat, j < 8 → i ≠ j → Cond.not (Cond.eq (tmS i) (tmS j)) ∈ flatC (Jvm.Cond.and given_1 narrow_1) ∨ Cond.not (Cond.eq (tmS j) (tmS i)) ∈ flatC (Jvm.Cond.and given_1 narrow_1) := by decide +kernel
    rcases h i hi j hj hij with z | z
    · exact Or.inl (hs _ z)
    · exact Or.inr (hs _ z)
theorem kn_of {own : String} {idx ci N : Nat} {args : Array Value} {s : State} (h : zNw own idx ci N) (htz : ∀ w ∈ zgood, w.before args s = true) : ∃ q : ClassId × (Nat → Nat), ∀ w, zcl[ci]? = some w → u_Kn s w.1 w.2.1 w.2.2 q.1 q.2 := by
  obtain ⟨C, T, h1, -, h3, -⟩ := h
  obtain ⟨cC, iS, hk⟩ := u_known htz (zcl_in h1) (htz _ h3)
  exact ⟨(cC, iS), fun w hw => by rw [h1] at hw; cases hw; exact hk⟩
theorem ar_of {args : Array Value} {s : State} {ty : FieldType} (h : (Cond.arrayClass ty).before args s = true) : ∃ cA : ClassId, ArrOfT s cA ty ∧ s.vm.findClass ("[" ++ ty.toString) = some cA := by
  obtain ⟨cA, kA, comp, h1, h2, h3⟩ := Cond.arrayClass_spec h
  exact ⟨cA, fun n z => ⟨fun k h => (by cases h), kA, h2, comp, h3⟩, h1⟩
theorem law_K {args : Array Value} {s : State} (htz : ∀ w ∈ zgood, w.before args s = true) (hao : va_AO RX5 s) : ∃ (D : va_G) (ty : Nat → ClassId), va_K D zcl [(ty 0, .int), (ty 1, .long), (ty 2, .byte), (ty 3, .boolean), (ty 4, .object RX5)] s := by
  have key : ∀ c : Nat, ∃ q : ClassId × (Nat → Nat), ∀ w, zcl[c]? = some w → u_Kn s w.1 w.2.1 w.2.2 q.1 q.2 := fun c => by
    by_cases hc : c < 13
    · exact (match c, hc with
      | 0, _ => kn_of nwX11_47 htz
      | 1, _ => kn_of nwX11_54 htz
      | 2, _ => kn_of nwX0_9 htz
      | 3, _ => kn_of nwX11_23 htz
      | 4, _ => kn_of nwX11_37 htz
      | 5, _ => kn_of nwX7_28 htz
      | 6, _ => kn_of nwX11_61 htz
      | 7, _ => kn_of nwX11_68 htz
      | 8, _ => kn_of nwX11_16 htz
      | 9, _ => kn_of nwX11_7 htz
      | 10, _ => kn_of nwX11_30 htz
      | 11, _ => kn_of nwL_7 htz
      | 12, _ => kn_of nwL_10 htz
      | q + 13, h => absurd h (by omega))
    · exact ⟨(0, fun _ => 0), fun w hw => absurd (List.getElem?_eq_some_iff.mp hw).1 (show ¬ c < 13 from hc)⟩
  obtain ⟨f, hf⟩ := Classical.axiomOfChoice key
  obtain ⟨c0, a0, b0⟩ := ar_of (htz _ ac_int)
  obtain ⟨c1, a1, b1⟩ := ar_of (htz _ ac_long)
  obtain ⟨c2, a2, b2⟩ := ar_of (htz _ ac_byte)
  obtain ⟨c3, a3, b3⟩ := ar_of (htz _ ac_boolean)
  obtain ⟨c4, a4⟩ : ∃ cA : ClassId, ArrOfT s cA (.object RX5) ∧ va_RA s cA (.object RX5) := by
    obtain ⟨comp, cA, kA, h1, h2, h3, h4, h5⟩ := Cond.arrayOver_spec hao
    exact ⟨cA, fun n z => ⟨fun k h => (by cases h), kA, by first | exact h3 | exact h2 | exact h4, comp, by first | exact h4 | exact h3 | exact h5⟩, kA, comp, by first | exact h3 | exact h2 | exact h4, by first | exact h4 | exact h3 | exact h5, by first | exact h1 | exact h2 | exact h5, by first | exact h2 | exact h1 | exact h5⟩
  refine ⟨(fun c => (f c).1, fun c => (f c).2), fun k => if k = 0 then c0 else if k = 1 then c1 else if k = 2 then c2 else if k = 3 then c3 else c4, fun c q hq => hf c q hq, fun k q hq => ?_⟩
  match k, hq with
  | 0, hq => cases hq; exact ⟨a0, b0⟩
  | 1, hq => cases hq; exact ⟨a1, b1⟩
  | 2, hq => cases hq; exact ⟨a2, b2⟩
  | 3, hq => cases hq; exact ⟨a3, b3⟩
  | 4, hq => cases hq; exact a4
  | q + 5, hq => simp at hq
theorem zgood_in {w : Cond} (h : w ∈ zgood) : w ∈ lw_tbl := (List.mem_filter.mp h).1
