def lw_P (b : Addr) (xs : List Int32) (args : Array Value) (s : State) : Prop := args = #[.ref b] ∧ s.IntsAt b xs ∧ xs.length ≤ 3072 ∧ (Jvm.Cond.and given_1 narrow_1).before args s = true
def lw_Q (_ : Array Value) (s : State) (o : Outcome) (t : State) : Prop := o = .returned (some (.int 1)) ∧ Framed s o t [] 600000 7302250
def lw_Z (below : List Frame) (a : Array Value) (s : State) : State → Prop := fun t => ∃ o, t.status = .running ∧ Ended t below o ∧ lw_Q a s o t
/-- the law's own end, with 1 on the stack, nothing written that was there before, its room as the claim has it -/
theorem lw_ret {p : Program} {l : Launch} {e : Env} {s : State} {m : MethodId} {below : List Frame} {meth : Method} {c : Code} {b : Nat} (hx : p.tables.exec = Jvm.exec) (hb : c.code = code) (hr : meth.sig.returnType = ret) (hlocks : meth.locks = false) {pc : Nat} {H : Heap} {ls : Array Slot} (hdg : decode code pc = .ok (.ireturn, 1)) : W p l e room_1 s m #[Value.ref b] below meth c H [] 600000 7302250 (lw_Z below #[Value.ref b] s) (F0 m pc ls [.int 1]) := by
  intro T hT X
  obtain ⟨fs, hret, hrun, hended, hW, hframe⟩ := X.leave (v := some (.int 1)) (hlocks := hlocks) (fun h => by rw [hr] at h; cases h)
  have hmeth' : T.vm.method? m = some meth := X.method'
  refine ⟨T.setFrames fs, ?_, .returned (some (.int 1)), hrun, hended, rfl, ⟨_, rfl⟩, hW, hframe⟩
  jvm_step X.here [X.here.top, hx, hb, hdg, hmeth', hr, ret, narrow_b1]
  (try refine ⟨rfl, ?_⟩); (try refine ⟨rfl, ?_⟩)
  first | (intro acts; rw [hret _ acts rfl rfl rfl]) | rw [hret _ _ rfl rfl rfl]
  exact Steps.refl _
/-- what holds at the law's entry: the machine, the code, the tables' words (any of lw_tbl by 'hts w (by decide +kernel)'), the script of L ints xs at the cell b, what the Statement gives of the start (any of its parts by flat_of_before) -/
def lw_At (p : Program) (s : State) (m : MethodId) (meth : Method) (c : Code) (b L : Nat) (xs : Nat → Int32) : Prop :=
  p.tables.exec = Jvm.exec ∧ c.code = code ∧ meth.sig.returnType = ret ∧ c.maxLocals = 4 ∧ s.vm.findClass R_law = some m.cls ∧ (∀ w ∈ lw_tbl, w.before #[Value.ref b] s = true) ∧ va_X b L xs s s.heap ∧ b < s.heap.size ∧ meth.locks = false ∧ (Jvm.Cond.and given_1 narrow_1).before #[Value.ref b] s = true
theorem law_cx {p : Program} {s : State} {m : MethodId} {meth : Method} {c : Code} {b L : Nat} {xs : Nat → Int32} (C0 : lw_At p s m meth c b L xs) : ∃ G : zG, G.2.2.2.1 = b ∧ G.2.2.2.2.1 = L ∧ zCx G (yL meth.name) (eC 0) p s m #[Value.ref b] meth c := by
  obtain ⟨hx, hb, hr, hml, hown, hts, hX, hbl, hlocks, hgv⟩ := C0
  have htz : ∀ w ∈ zgood, w.before #[Value.ref b] s = true := fun w hw => hts w (List.mem_filter.mp hw).1
  have hs := flat_of_before _ hgv
  have hA : ∀ a : Nat, a < s.heap.size → ¬ (fun q : Nat => s.heap.size ≤ q) a := fun a ha => Nat.not_le.mpr ha
  have hao : va_AO RX5 s := va_AO.of (hts _ (zn2 46 (by decide +kernel)))
  obtain ⟨D, ty, hK⟩ := law_K htz hao
  obtain ⟨adK, adV, hV, hE⟩ := law_S (A := fun q : Nat => s.heap.size ≤ q) hs hA
  refine ⟨(s.heap.size, D, ty, b, L, xs, fun k => if k < 8 then adK k else adV (k - 8), adV), rfl, rfl, hx, hb, hml, hr, hown, htz, hlocks, rfl, hK, ⟨fun w hw hn => ?_, hX, hbl, ⟨fun i hi => ?_, fun i j hi hj e => ?_⟩, hao, fun i q hq => ?_, ⟨?_, ?_, fun i hi => ?_⟩⟩, rfl⟩
  · have h := hts w hw
    cases w <;> first | (cases hn; done) | exact va_Nw.of rfl h
  · have h := hV.1 i hi
    show va_O "java/lang/String" (if i < 8 then adK i else adV (i - 8)) _ _ _ ∧ va_OF "java/lang/String" "coder" "B" (.int 0) (if i < 8 then adK i else adV (i - 8)) _ _ _ ∧ va_OF "java/lang/String" "value" "[B" (.ref (adV i)) (if i < 8 then adK i else adV (i - 8)) _ _ _ ∧ _
    rw [if_pos hi]
    exact h
  · have e : (if i < 8 then adK i else adV (i - 8)) = (if j < 8 then adK j else adV (j - 8)) := e
    rw [if_pos hi, if_pos hj] at e
    exact hV.2 i j hi hj e
  · have hi : i < 8 := (List.getElem?_eq_some_iff.mp hq).1
    show vk_R RX8 q.1 q.2 (if i < 8 then adK i else adV (i - 8)) s
    rw [if_pos hi]
    have he := hE i hi
    match i, hi, hq, he with
    | 0, _, hq, he => cases hq; exact vk_R.of (hts _ (zn3 28 (by decide +kernel))) he
    | 1, _, hq, he => cases hq; exact vk_R.of (hts _ (zn3 110 (by decide +kernel))) he
    | 2, _, hq, he => cases hq; exact vk_R.of (hts _ (zn3 111 (by decide +kernel))) he
    | 3, _, hq, he => cases hq; exact vk_R.of (hts _ (zn3 112 (by decide +kernel))) he
    | 4, _, hq, he => cases hq; exact vk_R.of (hts _ (zn3 117 (by decide +kernel))) he
    | 5, _, hq, he => cases hq; exact vk_R.of (hts _ (zn3 135 (by decide +kernel))) he
    | 6, _, hq, he => cases hq; exact vk_R.of (hts _ (zn3 136 (by decide +kernel))) he
    | 7, _, hq, he => cases hq; exact vk_R.of (hts _ (zn3 137 (by decide +kernel))) he
    | q + 8, h, _, _ => exact absurd h (by omega)
  · exact va_Zof (hts _ (zn3 46 (by decide +kernel))) (hts _ (zn1 16 (by decide +kernel))) (va_eqt (hs _ (by decide +kernel))) hA
  · exact va_Zqof (hts _ (zn3 62 (by decide +kernel))) (hts _ (zn1 18 (by decide +kernel))) (hs _ (by decide +kernel)) hA
  · show (if 8 + i < 8 then adK (8 + i) else adV (8 + i - 8)) = adV i
    rw [if_neg (by omega), show 8 + i - 8 = i by omega]
