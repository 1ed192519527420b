/-! calls -/
theorem zZ_same {G : zG} {s U : State} (h : zZ G s) (hv : U.vm = s.vm) (hh : U.heap = s.heap) : zZ G U := by
  obtain ⟨h1, h2, h3, h4, h5, h6, h7⟩ := h
  have ha : s.vm.Alike U.vm := by rw [hv]; exact Vm.Alike.refl _
  refine ⟨fun w hw hn => ?_, ?_, h3, ?_, va_AO.moved ha h5, fun i q hq => (h6 i q hq).same hv, zWs_mv h7 ha (fun a _ _ => by rw [hh])⟩
  · have h := h1 w hw hn
    cases w <;> first | (cases hn; done) | exact va_Nw.same rfl hv.symm h
  · rw [hh]; exact h2.moved ha
  · rw [hh]; exact h4.moved ha
theorem zPc_blind (G : zG) (av : List zV) (E : zE) (m : zM) : FrameBlind (zPc G av E m) := by
  intro a U g mk h
  obtain ⟨h1, h2, h3, h4, h5⟩ := h
  exact ⟨h1, h2, va_K.moved (u := U) (U := U.calling g mk a) (Vm.Alike.refl U.vm) h3, zZ_same h4 rfl rfl, h5⟩
def zcat : zV → Nat
  | .inl (.inr _) => 2
  | _ => 1
theorem zcat_le (G : zG) : ∀ S : List zV, ((S.map (ze G)).map fun v => v.category).sum ≤ (S.map zcat).sum
  | [] => Nat.le_refl _
  | v :: S => by
    have := zcat_le G S
    have h : (ze G v).category ≤ zcat v := by
      rcases v with (v | v) | (_ | (v | (_ | v))) <;> simp [ze, Value.category, zcat]
    simp only [List.map_cons, List.sum_cons]
    omega
/-- the words of a call, by its link in a class's pool; n: how many arguments beside the receiver -/
def zMw0 (z : zY) (n : Nat) : Prop := Cond.code z.1 z.2.1 z.2.2.1 z.2.2.2 ∈ zgood ∧ Cond.initialized z.1.cls ∈ zgood ∧ (z.1.cls ≠ "java/lang/invoke/MethodHandle" ∧ z.1.cls ≠ "java/lang/invoke/VarHandle" ∧ (parseMethodDescriptor z.1.desc).map (fun d => d.parameters.length) = some n) ∧ z.2.2.1 ≤ 45
def zMb (own : String) (idx : Nat) (z : zY) (n : Nat) : Prop := (Cond.methodLink own idx z.1 ∈ zgood ∨ ∃ host, Cond.methodLinkNest own idx z.1 host ∈ lw_tbl) ∧ zMw0 z n
def zMv (own : String) (idx : Nat) (z : zY) (ci n : Nat) : Prop := zMb own idx z n ∧ Cond.instanceMethod z.1 ∈ zgood ∧ Cond.selects z.1.cls z.1 z.1 ∈ zgood ∧ ∃ (T : u_T) (N : Nat), zcl[ci]? = some (z.1.cls, T, N)
def zMs (own : String) (idx : Nat) (z : zY) (n : Nat) : Prop := zMb own idx z n ∧ Cond.static z.1 ∈ zgood
def zMi (own : String) (idx : Nat) (z : zY) (n : Nat) : Prop := zMb own idx z n ∧ z.1.name = "<init>" ∧ Cond.instanceMethod z.1 ∈ zgood ∧ z.2.2.2 = none
section ZR4
variable {y : zY} {d : Nat} {E0 E' E : zE} {P : Option zV → zM → Prop} {pc : Nat} {L S S0 : List zV} {m : zM}
/-- behind a call -/
theorem z_back {G : zG} {p : Program} {l : Launch} {e : Env} {s : State} {mid : MethodId} {args : Array Value} {below : List Frame} {meth : Method} {c : Code} {H : Heap} {locs : List Loc} {ls : Array Slot} {E1 : zE} {P' : Option zV → zM → Prop} {st : List Value} {a : Array Value}
    (hr : va_Run p l e (zrm d E0 E') s mid args below meth c H locs (E.2.1 - E0.2.1) (E.2.2 - E0.2.2) (E1.2.1 - E.2.1) (E1.2.2 - E.2.2) (F0 mid pc ls st) (S.map (ze G)) (zQc G E1 P' a) (fun q => G.1 ≤ q))
    (cx : zCx G y E0 p s mid args meth c) (hS : va_S (fun q => G.1 ≤ q) s.heap H locs) (hl : lv_has ls y.2.2.1 (zLs G 0 L)) (hL : L.length = y.2.2.1) (okL : ∀ v ∈ L, zok v) (okS : ∀ v ∈ S, zok v) (g1 : E0.2.1 ≤ E.2.1) (g2 : E0.2.2 ≤ E.2.2) (q1 : E.2.1 ≤ E1.2.1) (q2 : E.2.2 ≤ E1.2.2)
    (kk : ∀ r m', P' r m' → zA y d E0 E' P (pc + 3) L (r.toList ++ S) m' E1) :
    W p l e (zrm d E0 E') s mid args below meth c H locs (E.2.1 - E0.2.1) (E.2.2 - E0.2.2) (MQ below (zQc G E' P) args s (E'.2.1 - E0.2.1) (E'.2.2 - E0.2.2) (fun q => G.1 ≤ q)) (F0 mid pc ls st) := by
  intro T hT X
  obtain ⟨v, st₀, t, T', L1, h0, X', hL1, e1, e2, ⟨r, m', hv, hp, hH1, hok, hz, hF⟩, st⟩ := hr T hT X
  rw [h0] at hz hF
  have hv : v = r.map (ze G) := by cases hv; rfl
  subst hv
  have c1 : E.2.1 - E0.2.1 + (E1.2.1 - E.2.1) = E1.2.1 - E0.2.1 := by omega
  have c2 : E.2.2 - E0.2.2 + (E1.2.2 - E.2.2) = E1.2.2 - E0.2.2 := by omega
  rw [c1, c2] at X'
  have okS' : ∀ w ∈ r.toList ++ S, zok w := by
    intro w hw
    rcases List.mem_append.mp hw with h | h
    · cases r with
      | none => simp at h
      | some x => simp at h; subst h; exact hok _ rfl
    · exact okS w h
  obtain ⟨t2, a1, b1⟩ := kk r m' hp G p l e s mid args below meth c T'.heap (locs ++ L1) ls cx (by rw [e1]; exact hH1)
    ⟨Nat.le_trans hS.1 (by rw [e1]; exact hz), fun q h1 h2 => by rw [e1, hF q (Nat.lt_of_lt_of_le h1 hS.1) h2]; exact hS.2.1 q h1 h2, fun q hq => by
      rcases List.mem_append.mp hq with h | h
      · exact hS.2.2 q h
      · exact hL1 q h⟩ hl hL okL okS' (by omega) (by omega) T' rfl X'
  refine ⟨t2, st t2 ?_, b1⟩
  have e3 : (r.toList ++ S).map (ze G) = (r.map (ze G)).toList ++ S.map (ze G) := by cases r <;> simp
  rw [e3] at a1
  exact a1
theorem z_pre {G : zG} {s : State} {args : Array Value} {p : Program} {mid : MethodId} {meth : Method} {c : Code} {H : Heap} {locs : List Loc} (cx : zCx G y E0 p s mid args meth c) (hH : zH G E m H) (hS : va_S (fun q => G.1 ≤ q) s.heap H locs) {av : List zV} (ok : ∀ v ∈ av, zok v) (U : State) (hU : U.heap = H) (hW : s.WarmedH U.vm) : zPc G av E m (av.map (ze G)).toArray U := by
  have hz : s.heap.size = G.1 + E0.2.1 := cx.2.2.2.2.2.2.2.2.2.2
  refine ⟨rfl, by rw [hU]; exact hH, va_K.moved hW.alike cx.2.2.2.2.2.2.2.2.1, zZ_warm cx.2.2.2.2.2.2.2.2.2.1 hW (by omega) (fun q hq => ?_), ok⟩
  rw [hU]
  exact hS.2.1 q (by omega) (Nat.not_le.mpr hq)
theorem z_goodws (z : zY) (h : Cond.code z.1 z.2.1 z.2.2.1 z.2.2.2 ∈ zgood) : GoodIn zgood (zws z) := by
  intro w hw
  rcases List.mem_cons.mp hw with rfl | h1
  · exact zgood_all _ h
  · exact zgood_all _ h1
theorem z_callV {z : zY} {idx ci n : Nat} {a na : Int} {av : List zV} {E1 : zE} {P' : Option zV → zM → Prop} (hm : zMv y.1.cls idx z ci n) (hd : decode y.2.1 pc = .ok (.invokevirtual idx, 3)) (hs : E.1 a = (ci + 6, na)) (hst : S0 = av.reverse ++ zP a :: S) (hn : av.length = n) (hW : (S.map zcat).sum ≤ 8)
    (hR : zR z d (zP a :: av) m E E1 P') (q1 : E.2.1 ≤ E1.2.1) (q2 : E.2.2 ≤ E1.2.2) (q3 : E1.2.1 ≤ E'.2.1) (q4 : E1.2.2 ≤ E'.2.2) (kk : ∀ r m', P' r m' → zA y (d + 1) E0 E' P (pc + 3) L (r.toList ++ S) m' E1) : zA y (d + 1) E0 E' P pc L S0 m E := by
  intro G p l e s mid args below meth c H locs ls cx hH hS hl hL okL okS g1 g2
  subst hst
  obtain ⟨⟨hlk, hco, hini, hdd, h45⟩, hin, hse, T, N, hc⟩ := hm
  have hts := cx.2.2.2.2.2.1
  obtain ⟨b1, b2, -, -⟩ := zH_in hH hs
  have hat := zwl_atI (G := G) (m := m) b1 b2
  rw [zent_obj hs] at hat
  have okav : ∀ v ∈ zP a :: av, zok v := fun v hv => by
    rcases List.mem_cons.mp hv with rfl | h
    · trivial
    · exact okS v (by simp [h])
  have hrec : ∃ cellB : Cell, H[G.1 + a.toNat]? = some cellB ∧ cellB.vm.isStatics = false ∧ s.vm.findClass z.1.cls = some cellB.cls := va_recv cx.2.2.2.2.2.2.2.2.1 hH.1 hc hat
  have hRm : (zrm d E E1).frames + 1 ≤ (zrm (d + 1) E0 E').frames ∧ 8 + (z.2.2.1 + 11) + (zrm d E E1).locals ≤ (zrm (d + 1) E0 E').locals := ⟨Nat.le_refl _, by show 8 + (z.2.2.1 + 11) + 64 * d ≤ 64 * (d + 1); omega⟩
  have hf : E.2.1 - E0.2.1 + (E1.2.1 - E.2.1) ≤ (zrm (d + 1) E0 E').cells ∧ E.2.2 - E0.2.2 + (E1.2.2 - E.2.2) ≤ (zrm (d + 1) E0 E').slots := ⟨by show _ ≤ E'.2.1 - E0.2.1; omega, by show _ ≤ E'.2.2 - E0.2.2; omega⟩
  have hstk : (F0 mid pc ls ((av.reverse ++ zP a :: S).map (ze G))).stack = (av.map (ze G)).reverse ++ .ref (G.1 + a.toNat) :: S.map (ze G) := by
    show (av.reverse ++ zP a :: S).map (ze G) = _
    rw [List.map_append, List.map_reverse, List.map_cons]
    rfl
  have hmr : 2 * (F0 mid pc ls ((av.reverse ++ zP a :: S).map (ze G))).monitorRoom + ((S.map (ze G)).map fun v => v.category).sum ≤ 8 := lv_room (Nat.le_trans (zcat_le G S) hW)
  have okS2 : ∀ v ∈ S, zok v := fun v hv => okS v (by simp [hv])
  rcases hlk with h | ⟨host, h⟩
  · have cb := callB_of (R := zrm (d + 1) E0 E') (rm := zrm d E E1) (ws := zws z) n hts (z_goodws z hco) rfl rfl rfl (hts _ hini) (hts _ h) hdd hRm
    exact z_back (va_runV ⟨cx.1, cx.2.1, cx.2.2.1, cx.2.2.2.2.1, hts⟩ (hR l G) ⟨cb, hts _ hin, hts _ hse⟩ ⟨zPc_blind G _ E m, hrec, z_pre cx hH hS okav⟩ rfl (by simp [hn]) hl.1 hstk hmr hd hf) cx hS hl hL okL okS2 g1 g2 q1 q2 kk
  · have cb := va_cnB (R := zrm (d + 1) E0 E') (rm := zrm d E E1) (ws := zws z) n hts (z_goodws z hco) rfl rfl rfl (cx.2.2.2.2.2.2.2.2.2.1.1 _ h rfl) (hts _ hini) hdd hRm
    exact z_back (va_runVN ⟨cx.1, cx.2.1, cx.2.2.1, cx.2.2.2.2.1, hts⟩ (hR l G) ⟨cb, hts _ hin, hts _ hse⟩ ⟨zPc_blind G _ E m, hrec, z_pre cx hH hS okav⟩ rfl (by simp [hn]) hl.1 hstk hmr hd hf) cx hS hl hL okL okS2 g1 g2 q1 q2 kk
theorem z_callS {z : zY} {idx n : Nat} {av : List zV} {E1 : zE} {P' : Option zV → zM → Prop} (hm : zMs y.1.cls idx z n) (hd : decode y.2.1 pc = .ok (.invokestatic idx, 3)) (hst : S0 = av.reverse ++ S) (hn : av.length = n) (hW : (S.map zcat).sum ≤ 8)
    (hR : zR z d av m E E1 P') (q1 : E.2.1 ≤ E1.2.1) (q2 : E.2.2 ≤ E1.2.2) (q3 : E1.2.1 ≤ E'.2.1) (q4 : E1.2.2 ≤ E'.2.2) (kk : ∀ r m', P' r m' → zA y (d + 1) E0 E' P (pc + 3) L (r.toList ++ S) m' E1) : zA y (d + 1) E0 E' P pc L S0 m E := by
  intro G p l e s mid args below meth c H locs ls cx hH hS hl hL okL okS g1 g2
  subst hst
  obtain ⟨⟨hlk, hco, hini, hdd, h45⟩, hst⟩ := hm
  have hts := cx.2.2.2.2.2.1
  have okav : ∀ v ∈ av, zok v := fun v hv => okS v (by simp [hv])
  have hRm : (zrm d E E1).frames + 1 ≤ (zrm (d + 1) E0 E').frames ∧ 8 + (z.2.2.1 + 11) + (zrm d E E1).locals ≤ (zrm (d + 1) E0 E').locals := ⟨Nat.le_refl _, by show 8 + (z.2.2.1 + 11) + 64 * d ≤ 64 * (d + 1); omega⟩
  have hf : E.2.1 - E0.2.1 + (E1.2.1 - E.2.1) ≤ (zrm (d + 1) E0 E').cells ∧ E.2.2 - E0.2.2 + (E1.2.2 - E.2.2) ≤ (zrm (d + 1) E0 E').slots := ⟨by show _ ≤ E'.2.1 - E0.2.1; omega, by show _ ≤ E'.2.2 - E0.2.2; omega⟩
  have hstk : (F0 mid pc ls ((av.reverse ++ S).map (ze G))).stack = (av.map (ze G)).reverse ++ S.map (ze G) := by
    show (av.reverse ++ S).map (ze G) = _
    rw [List.map_append, List.map_reverse]
  have hmr : 2 * (F0 mid pc ls ((av.reverse ++ S).map (ze G))).monitorRoom + ((S.map (ze G)).map fun v => v.category).sum ≤ 8 := lv_room (Nat.le_trans (zcat_le G S) hW)
  have okS2 : ∀ v ∈ S, zok v := fun v hv => okS v (by simp [hv])
  rcases hlk with h | ⟨host, h⟩
  · have cb := callB_of (R := zrm (d + 1) E0 E') (rm := zrm d E E1) (ws := zws z) n hts (z_goodws z hco) rfl rfl rfl (hts _ hini) (hts _ h) hdd hRm
    exact z_back (va_runS ⟨cx.1, cx.2.1, cx.2.2.1, cx.2.2.2.2.1, hts⟩ (hR l G) ⟨cb, hts _ hst⟩ ⟨zPc_blind G _ E m, z_pre cx hH hS okav⟩ rfl (by simp [hn]) hl.1 hstk hmr hd hf) cx hS hl hL okL okS2 g1 g2 q1 q2 kk
  · have cb := va_cnB (R := zrm (d + 1) E0 E') (rm := zrm d E E1) (ws := zws z) n hts (z_goodws z hco) rfl rfl rfl (cx.2.2.2.2.2.2.2.2.2.1.1 _ h rfl) (hts _ hini) hdd hRm
    exact z_back (va_runSN ⟨cx.1, cx.2.1, cx.2.2.1, cx.2.2.2.2.1, hts⟩ (hR l G) ⟨cb, hts _ hst, trivial⟩ ⟨zPc_blind G _ E m, z_pre cx hH hS okav⟩ rfl (by simp [hn]) hl.1 hstk hmr hd hf) cx hS hl hL okL okS2 g1 g2 q1 q2 kk
theorem z_callI {z : zY} {idx n : Nat} {a : Int} {av : List zV} {E1 : zE} {P' : Option zV → zM → Prop} (hm : zMi y.1.cls idx z n) (hd : decode y.2.1 pc = .ok (.invokespecial idx, 3)) (hst : S0 = av.reverse ++ zP a :: S) (hn : av.length = n) (hW : (S.map zcat).sum ≤ 8)
    (hR : zR z d (zP a :: av) m E E1 P') (q1 : E.2.1 ≤ E1.2.1) (q2 : E.2.2 ≤ E1.2.2) (q3 : E1.2.1 ≤ E'.2.1) (q4 : E1.2.2 ≤ E'.2.2) (kk : ∀ r m', P' r m' → zA y (d + 1) E0 E' P (pc + 3) L (r.toList ++ S) m' E1) : zA y (d + 1) E0 E' P pc L S0 m E := by
  intro G p l e s mid args below meth c H locs ls cx hH hS hl hL okL okS g1 g2
  subst hst
  obtain ⟨⟨hlk, hco, hini, hdd, h45⟩, hnm, hin, hret⟩ := hm
  have hts := cx.2.2.2.2.2.1
  have okav : ∀ v ∈ zP a :: av, zok v := fun v hv => by
    rcases List.mem_cons.mp hv with rfl | h
    · trivial
    · exact okS v (by simp [h])
  have hRm : (zrm d E E1).frames + 1 ≤ (zrm (d + 1) E0 E').frames ∧ 8 + (z.2.2.1 + 11) + (zrm d E E1).locals ≤ (zrm (d + 1) E0 E').locals := ⟨Nat.le_refl _, by show 8 + (z.2.2.1 + 11) + 64 * d ≤ 64 * (d + 1); omega⟩
  have hf : E.2.1 - E0.2.1 + (E1.2.1 - E.2.1) ≤ (zrm (d + 1) E0 E').cells ∧ E.2.2 - E0.2.2 + (E1.2.2 - E.2.2) ≤ (zrm (d + 1) E0 E').slots := ⟨by show _ ≤ E'.2.1 - E0.2.1; omega, by show _ ≤ E'.2.2 - E0.2.2; omega⟩
  have hstk : (F0 mid pc ls ((av.reverse ++ zP a :: S).map (ze G))).stack = (av.map (ze G)).reverse ++ .ref (G.1 + a.toNat) :: S.map (ze G) := by
    show (av.reverse ++ zP a :: S).map (ze G) = _
    rw [List.map_append, List.map_reverse, List.map_cons]
    rfl
  have hmr : 2 * (F0 mid pc ls ((av.reverse ++ zP a :: S).map (ze G))).monitorRoom + ((S.map (ze G)).map fun v => v.category).sum ≤ 8 := lv_room (Nat.le_trans (zcat_le G S) hW)
  have okS2 : ∀ v ∈ S, zok v := fun v hv => okS v (by simp [hv])
  have hR := hR l G
  unfold zws at hR
  rw [hret] at hR hco
  have hgw : GoodIn zgood (Cond.code z.1 z.2.1 z.2.2.1 none :: zgood) := by
    intro w hw
    rcases List.mem_cons.mp hw with rfl | h1
    · exact zgood_all _ hco
    · exact zgood_all _ h1
  rcases hlk with h | ⟨host, h⟩
  · have cb := callB_of (R := zrm (d + 1) E0 E') (rm := zrm d E E1) (ws := Cond.code z.1 z.2.1 z.2.2.1 none :: zgood) n hts hgw rfl rfl rfl (hts _ hini) (hts _ h) hdd hRm
    exact z_back (va_runI ⟨cx.1, cx.2.1, cx.2.2.1, cx.2.2.2.2.1, hts⟩ hR ⟨cb, hnm, hts _ hin⟩ ⟨zPc_blind G _ E m, z_pre cx hH hS okav⟩ rfl (by simp [hn]) hl.1 hstk hmr hd hf) cx hS hl hL okL okS2 g1 g2 q1 q2 kk
  · have cb := va_cnB (R := zrm (d + 1) E0 E') (rm := zrm d E E1) (ws := Cond.code z.1 z.2.1 z.2.2.1 none :: zgood) n hts hgw rfl rfl rfl (cx.2.2.2.2.2.2.2.2.2.1.1 _ h rfl) (hts _ hini) hdd hRm
    exact z_back (va_runIN ⟨cx.1, cx.2.1, cx.2.2.1, cx.2.2.2.2.1, hts⟩ hR ⟨cb, hnm, hts _ hin⟩ ⟨zPc_blind G _ E m, z_pre cx hH hS okav⟩ rfl (by simp [hn]) hl.1 hstk hmr hd hf) cx hS hl hL okL okS2 g1 g2 q1 q2 kk
end ZR4
