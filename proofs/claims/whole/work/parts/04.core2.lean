/-! words, what stays, a method's contract (zR), a place in its walk (zA) -/
def zNest : Cond → Bool
  | .fieldLinkNest .. => true
  | .methodLinkNest .. => true
  | _ => false
def zgood : List Cond := lw_tbl.filter goodWord
theorem zgood_mem {w : Cond} (h : w ∈ lw_tbl) (hg : goodWord w = true) : w ∈ zgood := List.mem_filter.mpr ⟨h, hg⟩
theorem zgood_all : GoodIn zgood zgood := fun w hw => ⟨hw, good_of_word (List.mem_filter.mp hw).2⟩
def zstr : List (Nat × String) := [(20, "field"), (71, "pair"), (73, "real"), (75, "odd"), (32, "mix"), (106, "normal"), (111, "vertex"), (113, "outer")]
def zlen : List Nat := [5, 4, 4, 3, 3, 6, 6, 5]
def zbyt : List (List Int32) := [[102, 105, 101, 108, 100], [112, 97, 105, 114], [114, 101, 97, 108], [111, 100, 100], [109, 105, 120], [110, 111, 114, 109, 97, 108], [118, 101, 114, 116, 101, 120], [111, 117, 116, 101, 114]]
/-- statics of the JDK that Strings need; the rows of the constants' bytes -/
def zWs (G : zG) (U : State) : Prop := va_Z "java/lang/String" "COMPACT_STRINGS" "Z" (.int 1) (fun q => G.1 ≤ q) U U.heap ∧ va_Zq "jdk/internal/util/Preconditions" "SIOOBE_FORMATTER" "Ljava/util/function/BiFunction;" (fun q => G.1 ≤ q) U U.heap ∧ ∀ i : Nat, i < 8 → G.2.2.2.2.2.2.1 (8 + i) = G.2.2.2.2.2.2.2 i
theorem zWs_mv {G : zG} {s U : State} (h : zWs G s) (hvm : s.vm.Alike U.vm) (hh : ∀ a : Nat, a < s.heap.size → ¬ G.1 ≤ a → U.heap[a]? = s.heap[a]?) : zWs G U := by
  exact ⟨(h.1.moved hvm).kept hh, (h.2.1.moved hvm).kept hh, h.2.2⟩
/-- what lies below the first cell, and the nest mates' words -/
def zZ (G : zG) (U : State) : Prop := (∀ w ∈ lw_tbl, zNest w = true → va_Nw w U) ∧ va_X G.2.2.2.1 G.2.2.2.2.1 G.2.2.2.2.2.1 U U.heap ∧ G.2.2.2.1 < G.1 ∧ vk_S 8 zlen zbyt G.2.2.2.2.2.2.1 G.2.2.2.2.2.2.2 (fun q => G.1 ≤ q) U U.heap ∧ va_AO RX5 U ∧
  (∀ (i : Nat) (q : Nat × String), zstr[i]? = some q → vk_R RX8 q.1 q.2 (G.2.2.2.2.2.2.1 i) U) ∧ zWs G U
theorem zZ_warm {G : zG} {s U : State} (h : zZ G s) (hW : s.WarmedH U.vm) (hz : G.1 ≤ s.heap.size) (hh : ∀ q, q < G.1 → U.heap[q]? = s.heap[q]?) : zZ G U := by
  obtain ⟨h1, h2, h3, h4, h5, h6, h7⟩ := h
  refine ⟨fun w hw hn => ?_, ?_, h3, ?_, ?_, fun i q hq => (h6 i q hq).warm hW, zWs_mv h7 hW.alike (fun a _ hA => hh a (Nat.not_le.mp hA))⟩
  · have h := h1 w hw hn
    cases w <;> first | (cases hn; done) | exact va_Nw.warmF hW h | exact va_Nw.warmM hW h
  · exact (h2.moved hW.alike).kept (hh _ h3)
  · refine (h4.moved hW.alike).kept (fun a ha hA => hh a (Nat.not_le.mp hA))
  · exact va_AO.moved hW.alike h5
def zPc (G : zG) (av : List zV) (E : zE) (m : zM) : Array Value → State → Prop := va_Pc (av.map (ze G)) (fun U => zH G E m U.heap ∧ va_K G.2.1 zcl (ztys G) U ∧ zZ G U ∧ ∀ v ∈ av, zok v)
def zQc (G : zG) (E' : zE) (P : Option zV → zM → Prop) : Array Value → State → Outcome → State → Prop := fun _ st oc t => ∃ (r : Option zV) (m' : zM), oc = .returned (r.map (ze G)) ∧ P r m' ∧ zH G E' m' t.heap ∧ (∀ v, r = some v → zok v) ∧ va_F (fun q => G.1 ≤ q) st t
def zrm (d : Nat) (E E' : zE) : Room := { frames := d, cells := E'.2.1 - E.2.1, slots := E'.2.2 - E.2.2, locals := 64 * d }
def zws (y : zY) : List Cond := .code y.1 y.2.1 y.2.2.1 y.2.2.2 :: zgood
/-- METHOD y, called with av in the memory m, shapes E, d frames being left: returns; the shapes are E'; P of the answer and the memory -/
def zR (y : zY) (d : Nat) (av : List zV) (m : zM) (E E' : zE) (P : Option zV → zM → Prop) : Prop :=
  ∀ (l : Launch) (G : zG), Met l y.1 (zws y) (zrm d E E') (zPc G av E m) (zQc G E' P) (E'.2.1 - E.2.1) (E'.2.2 - E.2.2) (fun q => G.1 ≤ q)
def zCx (G : zG) (y : zY) (E0 : zE) (p : Program) (s : State) (mid : MethodId) (args : Array Value) (meth : Method) (c : Code) : Prop :=
  p.tables.exec = Jvm.exec ∧ c.code = y.2.1 ∧ c.maxLocals = y.2.2.1 ∧ meth.sig.returnType = y.2.2.2 ∧ s.vm.findClass y.1.cls = some mid.cls ∧ (∀ w ∈ zgood, w.before args s = true) ∧ meth.locks = false ∧ meth.name = y.1.name ∧ va_K G.2.1 zcl (ztys G) s ∧ zZ G s ∧ s.heap.size = G.1 + E0.2.1
def zLs (G : zG) : Nat → List zV → List (Nat × Value)
  | _, [] => []
  | i, .inr none :: L => zLs G (i + 1) L
  | i, v :: L => (i, ze G v) :: zLs G (i + 1) L
/-- A PLACE IN THE WALK of method y: from pc, with these locals, stack, memory, shapes, it returns, and P holds of answer and memory -/
def zA (y : zY) (d : Nat) (E0 E' : zE) (P : Option zV → zM → Prop) (pc : Nat) (L S : List zV) (m : zM) (E : zE) : Prop :=
  ∀ (G : zG) (p : Program) (l : Launch) (e : Env) (s : State) (mid : MethodId) (args : Array Value) (below : List Frame) (meth : Method) (c : Code) (H : Heap) (locs : List Loc) (ls : Array Slot),
    zCx G y E0 p s mid args meth c → zH G E m H → va_S (fun q => G.1 ≤ q) s.heap H locs → lv_has ls y.2.2.1 (zLs G 0 L) → L.length = y.2.2.1 → (∀ v ∈ L, zok v) → (∀ v ∈ S, zok v) → E0.2.1 ≤ E.2.1 → E0.2.2 ≤ E.2.2 →
    W p l e (zrm d E0 E') s mid args below meth c H locs (E.2.1 - E0.2.1) (E.2.2 - E0.2.2) (MQ below (zQc G E' P) args s (E'.2.1 - E0.2.1) (E'.2.2 - E0.2.2) (fun q => G.1 ≤ q)) (F0 mid pc ls (S.map (ze G)))
theorem zLs_mem (G : zG) : ∀ (L : List zV) (i k : Nat) (v : zV), L[k]? = some v → v ≠ .inr none → (i + k, ze G v) ∈ zLs G i L := by
  intro L
  induction L with
  | nil => intro i k v h; simp at h
  | cons w L ih =>
    intro i k v h hv
    cases k with
    | zero =>
      simp only [List.getElem?_cons_zero, Option.some.injEq] at h
      subst h
      rcases w with w | (_ | w)
      · simp [zLs]
      · exact absurd rfl hv
      · simp [zLs]
    | succ k =>
      simp only [List.getElem?_cons_succ] at h
      have h2 := ih (i + 1) k v h hv
      rw [show i + 1 + k = i + (k + 1) by omega] at h2
      rcases w with w | (_ | w)
      · exact List.mem_cons_of_mem _ h2
      · exact h2
      · exact List.mem_cons_of_mem _ h2
theorem zLs_of (G : zG) : ∀ (L : List zV) (i : Nat) (q : Nat × Value), q ∈ zLs G i L → ∃ (k : Nat) (v : zV), q = (i + k, ze G v) ∧ L[k]? = some v ∧ v ≠ .inr none := by
  intro L
  induction L with
  | nil => intro i q h; simp [zLs] at h
  | cons w L ih =>
    intro i q h
    have next : q ∈ zLs G (i + 1) L → ∃ (k : Nat) (v : zV), q = (i + k, ze G v) ∧ (w :: L)[k]? = some v ∧ v ≠ .inr none := by
      intro h
      obtain ⟨k, v, h1, h2, h3⟩ := ih (i + 1) q h
      exact ⟨k + 1, v, by rw [h1]; congr 1; omega, by simpa using h2, h3⟩
    rcases w with w | (_ | w)
    · simp only [zLs, List.mem_cons] at h
      rcases h with h | h
      · exact ⟨0, _, by simpa using h, rfl, by simp⟩
      · exact next h
    · exact next h
    · simp only [zLs, List.mem_cons] at h
      rcases h with h | h
      · exact ⟨0, _, by simpa using h, rfl, by simp⟩
      · exact next h
/-- the walk of the body gives the contract -/
theorem zR_of {y : zY} {d : Nat} {av : List zV} {m : zM} {E E' : zE} {P : Option zV → zM → Prop} {L : List zV} (hy : plainName y.1.cls = true) (hav : ∀ G : zG, lv_args 0 (av.map (ze G)) = zLs G 0 L) (hL : L.length = y.2.2.1) (hn : ∀ G : zG, (lg_sl (av.map (ze G))).length ≤ y.2.2.1) (hok : (∀ v ∈ av, zok v) → ∀ v ∈ L, zok v)
    (k : zA y d E E' P 0 L [] m E) : zR y d av m E E' P := by
  intro l G
  refine Met.ofW (cc := y.2.1) (maxL := y.2.2.1) (ret := y.2.2.2) hy rfl ?_
  intro p e s mid args below meth c s₁ B hml hv
  obtain ⟨rfl, hH, hK, hZ, ha⟩ := hv
  have hts := atoms_spec (ws := zws y) B.pre
  have hl := lv_entry (av.map (ze G)) (n := y.2.2.1) (hn G)
  rw [lg_entry_eq]
  rw [hav G] at hl
  have := k G p l e s mid ((av.map (ze G)).toArray) below meth c s.heap [] _ ⟨B.exec, B.bytes, hml, B.returns, findClass_of_methodNamed B.named, fun w hw => hts w (List.mem_cons_of_mem _ hw), B.notSynchronized, (name_of_methodNamed B.named B.method).1, hK, hZ, hH.2.1⟩ hH va_S.rf hl hL (hok ha) (by simp) (Nat.le_refl _) (Nat.le_refl _)
  simp only [Nat.sub_self] at this
  exact this
/-- the numbers of a place are in their ranges -/
theorem zA_okL {y : zY} {d : Nat} {E0 E' : zE} {P : Option zV → zM → Prop} {pc : Nat} {L S : List zV} {m : zM} {E : zE} (k : (∀ v ∈ L, zok v) → (∀ v ∈ S, zok v) → zokM E m → zA y d E0 E' P pc L S m E) : zA y d E0 E' P pc L S m E := by
  intro G p l e s mid args below meth c H locs ls cx hH hS hl hL okL okS
  exact k okL okS hH.2.2 G p l e s mid args below meth c H locs ls cx hH hS hl hL okL okS
