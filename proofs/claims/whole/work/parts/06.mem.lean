/-! fields and arrays -/

theorem zin0 : ∀ w ∈ u_ws RX0 TX0 20, w ∈ lw_tbl := by decide +kernel
theorem zin1 : ∀ w ∈ u_ws RX1 TX1 5, w ∈ lw_tbl := by decide +kernel
theorem zin2 : ∀ w ∈ u_ws RX2 TX2 3, w ∈ lw_tbl := by decide +kernel
theorem zin3 : ∀ w ∈ u_ws RX3 TX3 4, w ∈ lw_tbl := by decide +kernel
theorem zin4 : ∀ w ∈ u_ws RX4 TX4 7, w ∈ lw_tbl := by decide +kernel
theorem zin5 : ∀ w ∈ u_ws RX5 TX5 4, w ∈ lw_tbl := by decide +kernel
theorem zin6 : ∀ w ∈ u_ws RX6 TX6 2, w ∈ lw_tbl := by decide +kernel
theorem zin7 : ∀ w ∈ u_ws RX7 TX7 16, w ∈ lw_tbl := by decide +kernel
theorem zin8 : ∀ w ∈ u_ws RX8 TX8 0, w ∈ lw_tbl := by decide +kernel
theorem zin9 : ∀ w ∈ u_ws RX9 TX9 10, w ∈ lw_tbl := by decide +kernel
theorem zin10 : ∀ w ∈ u_ws RX10 TX10 3, w ∈ lw_tbl := by decide +kernel
theorem zin11 : ∀ w ∈ u_ws RX11 TX11 12, w ∈ lw_tbl := by decide +kernel
theorem zin12 : ∀ w ∈ u_ws RX12 TX12 54, w ∈ lw_tbl := by decide +kernel
theorem zgw (C : String) (T : u_T) (N : Nat) : ∀ w ∈ u_ws C T N, goodWord w = true := by
  intro w hw
  obtain ⟨k, -, rfl⟩ := List.mem_map.mp hw
  unfold u_lay
  split <;> rfl
theorem zcl_in {ci : Nat} {C : String} {T : u_T} {N : Nat} (h : zcl[ci]? = some (C, T, N)) : ∀ w ∈ u_ws C T N, w ∈ zgood := by
  intro w hw
  refine zgood_mem ?_ (zgw C T N w hw)
  match ci, h with
  | 0, h => cases h; exact zin0 w hw
  | 1, h => cases h; exact zin1 w hw
  | 2, h => cases h; exact zin2 w hw
  | 3, h => cases h; exact zin3 w hw
  | 4, h => cases h; exact zin4 w hw
  | 5, h => cases h; exact zin5 w hw
  | 6, h => cases h; exact zin6 w hw
  | 7, h => cases h; exact zin7 w hw
  | 8, h => cases h; exact zin8 w hw
  | 9, h => cases h; exact zin9 w hw
  | 10, h => cases h; exact zin10 w hw
  | 11, h => cases h; exact zin11 w hw
  | 12, h => cases h; exact zin12 w hw
  | k + 13, h => cases h
theorem zcl_ty {ci : Nat} {C : String} {T : u_T} {N : Nat} (h : zcl[ci]? = some (C, T, N)) : ∀ k, k < N → parseFieldDescriptor (T k).2.2.1 = some (zty ci k) := by
  match ci, h with
  | 0, h => cases h; exact tyX0_ok
  | 1, h => cases h; exact tyX1_ok
  | 2, h => cases h; exact tyX2_ok
  | 3, h => cases h; exact tyX3_ok
  | 4, h => cases h; exact tyX4_ok
  | 5, h => cases h; exact tyX5_ok
  | 6, h => cases h; exact tyX6_ok
  | 7, h => cases h; exact tyX7_ok
  | 8, h => cases h; exact tyX8_ok
  | 9, h => cases h; exact tyX9_ok
  | 10, h => cases h; exact tyX10_ok
  | 11, h => cases h; exact tyX11_ok
  | 12, h => cases h; exact tyX12_ok
  | k + 13, h => cases h
theorem zcl_nm {ci : Nat} {C : String} {T : u_T} {N : Nat} (h : zcl[ci]? = some (C, T, N)) : ∀ a, a < N → ∀ b, b < N → a ≠ b → (T a).2.1 ≠ (T b).2.1 := by
  match ci, h with
  | 0, h => cases h; exact nmX0
  | 1, h => cases h; exact nmX1
  | 2, h => cases h; exact nmX2
  | 3, h => cases h; exact nmX3
  | 4, h => cases h; exact nmX4
  | 5, h => cases h; exact nmX5
  | 6, h => cases h; exact nmX6
  | 7, h => cases h; exact nmX7
  | 8, h => cases h; exact nmX8
  | 9, h => cases h; exact nmX9
  | 10, h => cases h; exact nmX10
  | 11, h => cases h; exact nmX11
  | 12, h => cases h; exact nmX12
  | k + 13, h => cases h
theorem zcl_nf {ci : Nat} {C : String} {T : u_T} {N : Nat} (h : zcl[ci]? = some (C, T, N)) : znf ci = N := by simp [znf, h]
/-- a field, by its link in a class's pool -/
def zFl (own : String) (idx ci k : Nat) : Prop := ∃ (C : String) (T : u_T) (N : Nat), zcl[ci]? = some (C, T, N) ∧ k < N ∧ (Cond.fieldLink own idx (T k).1 (T k).2.1 (T k).2.2.1 ∈ zgood ∨ ∃ host, Cond.fieldLinkNest own idx (T k).1 (T k).2.1 (T k).2.2.1 host ∈ lw_tbl)
/-- a field that this method may write -/
def zFp (own nm : String) (idx ci k : Nat) : Prop := ∃ (C : String) (T : u_T) (N : Nat), zcl[ci]? = some (C, T, N) ∧ k < N ∧ ((Cond.fieldLink own idx (T k).1 (T k).2.1 (T k).2.2.1 ∈ zgood ∧ ((T k).2.2.2 = false ∨ (T k).2.2.2 = true ∧ nm = "<init>" ∧ (T k).1 = own)) ∨ ∃ host, Cond.fieldLinkNest own idx (T k).1 (T k).2.1 (T k).2.2.1 host ∈ lw_tbl ∧ (T k).2.2.2 = false)
theorem zent_obj {G : zG} {E : zE} {m : zM} {a n : Int} {ci : Nat} (hs : E.1 a = (ci + 6, n)) : zent G E m a = .inr (ci, (List.range (znf ci)).map fun (j : Nat) => zef G (zty ci j) (m a j)) := by simp [zent, hs]
theorem zent_1 {G : zG} {E : zE} {m : zM} {a n : Int} (hs : E.1 a = (1, n)) : zent G E m a = .inl (G.2.2.1 0, n.toNat, .inl fun j => Int32.ofInt (m a j)) := by simp [zent, hs]
theorem zent_2 {G : zG} {E : zE} {m : zM} {a n : Int} (hs : E.1 a = (2, n)) : zent G E m a = .inl (G.2.2.1 1, n.toNat, .inr (.inl fun j => Int64.ofInt (m a j))) := by simp [zent, hs]
theorem zent_3 {G : zG} {E : zE} {m : zM} {a n : Int} (hs : E.1 a = (3, n)) : zent G E m a = .inl (G.2.2.1 2, n.toNat, .inl fun j => Int32.ofInt (m a j)) := by simp [zent, hs]
theorem zent_4 {G : zG} {E : zE} {m : zM} {a n : Int} (hs : E.1 a = (4, n)) : zent G E m a = .inl (G.2.2.1 3, n.toNat, .inl fun j => Int32.ofInt (m a j)) := by simp [zent, hs]
theorem zent_5 {G : zG} {E : zE} {m : zM} {a n : Int} (hs : E.1 a = (5, n)) : zent G E m a = .inl (G.2.2.1 4, n.toNat, .inr (.inr (.inr (.inr fun (j : Nat) => if m a j < 0 then none else some (G.1 + (m a j).toNat))))) := by simp [zent, hs]
theorem zH_in {G : zG} {E : zE} {m : zM} {H : Heap} {a n : Int} {k : Nat} (hH : zH G E m H) (hs : E.1 a = (k + 1, n)) : 0 ≤ a ∧ a < E.2.1 ∧ 0 ≤ n ∧ n < 2147483648 := by
  have := hH.2.2.2 a (by rw [hs]; simp)
  rw [hs] at this
  exact this
theorem zwl_atI {G : zG} {E : zE} {m : zM} {a : Int} (h0 : 0 ≤ a) (h : a < E.2.1) : (zwl G E m)[a.toNat]? = some (G.1 + a.toNat, zent G E m a) := by
  have h1 : a.toNat < E.2.1 := by omega
  rw [zwl_at h1, show ((a.toNat : Nat) : Int) = a by omega]
theorem zokM_u {E : zE} {m : zM} {a j x : Int} (h : zokM E m) (hx : zokS (zsk E a j.toNat) x) : zokM E (zu m a j x) := by
  refine ⟨fun b i => ?_, h.2⟩
  by_cases hb : b = a ∧ (i : Int) = j
  · obtain ⟨rfl, rfl⟩ := hb
    rw [zu_s]
    simpa using hx
  · have : zu m a j x b i = m b i := by simp only [zu, if_neg hb]
    rw [this]
    exact h.1 b i
theorem zH_set {G : zG} {E : zE} {m : zM} {H H1 : Heap} {a j x : Int} (hH : zH G E m H) (h0 : 0 ≤ a) (ha : a < E.2.1) (he : va_at G.2.1 zcl (G.1 + a.toNat, zent G E (zu m a j x) a) H1) (z : H1.size = H.size) (oq : ∀ q, q ≠ G.1 + a.toNat → H1[q]? = H[q]?) (hx : zokS (zsk E a j.toNat) x) : zH G E (zu m a j x) H1 := by
  refine ⟨?_, z.trans hH.2.1, zokM_u hH.2.2 hx⟩
  rw [← zwl_set (G := G) (E := E) (m := m) (j := j) (x := x) h0 ha rfl]
  exact hH.1.set (zwl_D G E m) (zwl_atI h0 ha) he oq
section ZR2
variable {y : zY} {d : Nat} {E0 E' E : zE} {P : Option zV → zM → Prop} {pc : Nat} {L S : List zV} {m : zM}
theorem z_get0 {ci k idx : Nat} {a n : Int} {v : zV} (hf : zFl y.1.cls idx ci k) (hd : decode y.2.1 pc = .ok (.getfield idx, 3)) (hs : E.1 a = (ci + 6, n)) (hv : ∀ G, ze G v = zef G (zty ci k) (m a k)) (hok : zokS (zfk (zty ci k)) (m a k) → zok v) (kk : zA y d E0 E' P (pc + 3) L (v :: S) m E) : zA y d E0 E' P pc L (zP a :: S) m E := by
  intro G p l e s mid args below meth c H locs ls cx hH hS hl hL okL okS g1 g2
  obtain ⟨C, T, N, hc, hk, hlk⟩ := hf
  obtain ⟨b1, b2, -, -⟩ := zH_in hH hs
  have ok1 : zok v := hok (by have := hH.2.2.1 a k; simpa [zsk, hs] using this)
  have kk := kk G p l e s mid args below meth c H locs ls cx hH hS hl hL okL (zok_p ok1 (zok_t okS)) g1 g2
  have hat := zwl_atI (G := G) (m := m) b1 b2
  rw [zent_obj hs] at hat
  have hfs : ((List.range (znf ci)).map fun (j : Nat) => zef G (zty ci j) (m a j))[k]? = some (ze G v) := by
    rw [hv]
    simp [zcl_nf hc, hk]
  simp only [List.map_cons] at kk ⊢
  show W _ _ _ _ _ _ _ _ _ _ _ _ _ _ _ (F0 mid pc ls (.ref (G.1 + a.toNat) :: _))
  rcases hlk with h | ⟨host, h⟩
  · exact va_get cx.1 cx.2.1 cx.2.2.2.2.2.1 (zcl_in hc) cx.2.2.2.2.1 cx.2.2.2.2.2.2.2.2.1 hH.1 a.toNat hat hc k hk (cx.2.2.2.2.2.1 _ h) (fun _ h9 => h9) hfs hd kk
  · exact va_getN cx.1 cx.2.1 cx.2.2.2.2.2.1 (zcl_in hc) cx.2.2.2.2.1 cx.2.2.2.2.2.2.2.2.1 hH.1 a.toNat hat hc k hk (va_Nw.use rfl (cx.2.2.2.2.2.2.2.2.2.1.1 _ h rfl)) (fun _ h9 => h9) hfs hd kk
theorem z_getI {ci k idx : Nat} {a n : Int} (hf : zFl y.1.cls idx ci k) (hd : decode y.2.1 pc = .ok (.getfield idx, 3)) (hs : E.1 a = (ci + 6, n)) (hk : zfk (zty ci k) = 0) (kk : zA y d E0 E' P (pc + 3) L (zI (m a k) :: S) m E) : zA y d E0 E' P pc L (zP a :: S) m E :=
  z_get0 hf hd hs (fun G => by simp [ze, zef, hk]) (fun h => by rw [hk] at h; exact h) kk
theorem z_getJ {ci k idx : Nat} {a n : Int} (hf : zFl y.1.cls idx ci k) (hd : decode y.2.1 pc = .ok (.getfield idx, 3)) (hs : E.1 a = (ci + 6, n)) (hk : zfk (zty ci k) = 1) (kk : zA y d E0 E' P (pc + 3) L (zJ (m a k) :: S) m E) : zA y d E0 E' P pc L (zP a :: S) m E :=
  z_get0 hf hd hs (fun G => by simp [ze, zef, hk]) (fun h => by rw [hk] at h; exact h) kk
theorem z_getP {ci k idx : Nat} {a n r : Int} (hf : zFl y.1.cls idx ci k) (hd : decode y.2.1 pc = .ok (.getfield idx, 3)) (hs : E.1 a = (ci + 6, n)) (hk : zfk (zty ci k) = 2) (hr : m a k = r) (h0 : 0 ≤ r) (kk : zA y d E0 E' P (pc + 3) L (zP r :: S) m E) : zA y d E0 E' P pc L (zP a :: S) m E :=
  z_get0 (v := zP r) hf hd hs (fun G => by rw [hr]; simp [ze, zef, hk, Int.not_lt.mpr h0]) (fun h => trivial) kk
theorem z_put0 {ci k idx : Nat} {a n x : Int} {v : zV} (hf : zFp y.1.cls y.1.name idx ci k) (hd : decode y.2.1 pc = .ok (.putfield idx, 3)) (hs : E.1 a = (ci + 6, n)) (hv : ∀ G, ze G v = zef G (zty ci k) x) (hn : ∀ G, narrow (zty ci k) (ze G v) = ze G v) (hfit : ∀ G, fits (zty ci k) (ze G v) = true) (hok : zok v → zokS (zfk (zty ci k)) x) (kk : zA y d E0 E' P (pc + 3) L S (zu m a k x) E) : zA y d E0 E' P pc L (v :: zP a :: S) m E := by
  intro G p l e s mid args below meth c H locs ls cx hH hS hl hL okL okS g1 g2
  obtain ⟨C, T, N, hc, hk, hlk⟩ := hf
  obtain ⟨b1, b2, -, -⟩ := zH_in hH hs
  have hat := zwl_atI (G := G) (m := m) b1 b2
  rw [zent_obj hs] at hat
  have hts := cx.2.2.2.2.2.1
  have hK := cx.2.2.2.2.2.2.2.2.1
  have hown := cx.2.2.2.2.1
  have hin := zcl_in hc
  have hty := zcl_ty hc
  have hap := va_apart (own := y.1.cls) hts hin (zty ci) hty (zcl_nm hc) hK hc
  obtain ⟨r, h1, cell, q1, q2, q3, q4⟩ := hH.1 a.toNat _ hat
  have hr : r = (C, T, N) := Option.some.inj (h1.symm.trans hc)
  subst hr
  obtain ⟨hS2, hfc, kC, hkC, hkind⟩ := hK.1 ci _ hc
  obtain ⟨cf, kf, fi, f, hi, hsl⟩ := hS2 k hk
  have hlay := hts _ (hin _ (u_in_lay hk))
  unfold u_lay at hlay
  have hst := (u_facts hfc hkC (u_lays hts hin hk) hi).1
  have hxs : zokS (zsk E a (k : Int).toNat) x := by
    have := hok (zok_h okS)
    simpa [zsk, hs] using this
  have hlen : k < ((List.range (znf ci)).map fun (j : Nat) => zef G (zty ci j) (m a j)).length := by simp [zcl_nf hc, hk]
  have fin : ∀ (H' : Heap) (locs1 : List Loc), H'[G.1 + a.toNat]? = some (cell.setSlot f.slot (ze G v)) → H'.size = H.size → (∀ q, q ≠ G.1 + a.toNat → H'[q]? = H[q]?) → va_S (fun q => G.1 ≤ q) s.heap H' locs1 →
      W p l e (zrm d E0 E') s mid args below meth c H' locs1 (E.2.1 - E0.2.1) (E.2.2 - E0.2.2) (MQ below (zQc G E' P) args s (E'.2.1 - E0.2.1) (E'.2.2 - E0.2.2) (fun q => G.1 ≤ q)) (F0 mid (pc + 3) ls (S.map (ze G))) := by
    intro H' locs1 e1 e2 e3 hS1
    refine kk G p l e s mid args below meth c H' locs1 ls cx (zH_set hH b1 b2 ?_ e2 e3 hxs) hS1 hl hL okL (zok_t (zok_t okS)) g1 g2
    rw [zent_obj hs]
    rw [hsl] at e1
    refine ⟨_, hc, t_OB.to (V := updV (vp_V ((List.range (znf ci)).map fun (j : Nat) => zef G (zty ci j) (m a j))) k (ze G v)) ⟨_, e1, q2, q3, t_set q4 hap hk _⟩ (fun j hj => ?_)⟩
    rw [vp_updV_set hlen]
    congr 1
    apply List.ext_getElem?
    intro i
    rw [List.getElem?_set]
    by_cases hik : k = i
    · subst hik
      rw [if_pos rfl, if_pos hlen, hv]
      simp [zcl_nf hc, hk, zu_s]
    · rw [if_neg hik]
      by_cases hi2 : i < N
      · have hne : (i : Int) ≠ (k : Int) := by omega
        simp [zcl_nf hc, hi2, zu_j hne]
      · rw [List.getElem?_eq_none (by simp [zcl_nf hc]; omega), List.getElem?_eq_none (by simp [zcl_nf hc]; omega)]
  have hA : ∀ {H' : Heap}, H'.size = H.size → (∀ q, q ≠ G.1 + a.toNat → H'[q]? = H[q]?) → va_S (fun q => G.1 ≤ q) s.heap H' (locs ++ [⟨G.1 + a.toNat, f.slot⟩]) := fun e2 e3 => hS.put e2 e3 (by show G.1 ≤ _; omega)
  show W _ _ _ _ _ _ _ _ _ _ _ _ _ _ _ (F0 mid pc ls (ze G v :: .ref (G.1 + a.toNat) :: S.map (ze G)))
  rcases hlk with ⟨h, hfin | ⟨hfin, hnm, hdecl⟩⟩ | ⟨host, h, hfin⟩
  · rw [if_neg (by rw [hfin]; decide)] at hlay
    have h6 := u_store hfc hkC hkind hlay hi (hty k hk) (hn G) (hfit G)
    exact W.putK cx.1 cx.2.1 (f := f) ⟨hown, hts _ h, ⟨_, _, _, hi⟩, hst⟩ (by rw [q2]; exact h6) q1 q3 (by rw [hsl]; exact k2_hasslot (q4 k hk)) rfl rfl hd fun H' e1 e2 e3 => fin H' _ e1 e2 e3 (hA e2 e3)
  · rw [if_pos hfin] at hlay
    have hcf : mid.cls = cf := by
      obtain ⟨_, _, c', _, _, _, -, -, hf', -, -, -, hown2, -⟩ := Cond.laysFinal_spec hlay
      have e1 : c' = cf := by have := hi.symm.trans hf'; simp at this; exact this.1.symm
      rw [hdecl] at hown2
      rw [← e1]; exact Option.some.inj (hown.symm.trans hown2)
    have h6 := u_fits hfc hkC hkind (Or.inr hlay) hi (hty k hk) (hn G) (hfit G)
    exact W.putFinK cx.1 cx.2.1 hown (hts _ h) hi hst hcf (cx.2.2.2.2.2.2.2.1.trans hnm) (by rw [q2]; exact h6) q1 q3 (by rw [hsl]; exact k2_hasslot (q4 k hk)) rfl rfl hd fun H' e1 e2 e3 => fin H' _ e1 e2 e3 (hA e2 e3)
  · rw [if_neg (by rw [hfin]; decide)] at hlay
    have h6 := u_store hfc hkC hkind hlay hi (hty k hk) (hn G) (hfit G)
    exact va_WputK cx.1 cx.2.1 (f := f) hown (va_Nw.use rfl (cx.2.2.2.2.2.2.2.2.2.1.1 _ h rfl)) hi hst (by rw [q2]; exact h6) q1 q3 (by rw [hsl]; exact k2_hasslot (q4 k hk)) rfl rfl hd fun H' e1 e2 e3 => fin H' _ e1 e2 e3 (hA e2 e3)
theorem z_putI {ci k idx : Nat} {a n x : Int} (hf : zFp y.1.cls y.1.name idx ci k) (hd : decode y.2.1 pc = .ok (.putfield idx, 3)) (hs : E.1 a = (ci + 6, n)) (ht : zty ci k = .int) (kk : zA y d E0 E' P (pc + 3) L S (zu m a k x) E) : zA y d E0 E' P pc L (zI x :: zP a :: S) m E :=
  z_put0 (v := zI x) hf hd hs (fun G => by rw [ht]; rfl) (fun G => by rw [ht]; rfl) (fun G => by rw [ht]; rfl) (fun h => by rw [ht]; exact h) kk
theorem z_putZ {ci k idx : Nat} {a n x : Int} (hf : zFp y.1.cls y.1.name idx ci k) (hd : decode y.2.1 pc = .ok (.putfield idx, 3)) (hs : E.1 a = (ci + 6, n)) (ht : zty ci k = .boolean) (hx : x = 0 ∨ x = 1) (kk : zA y d E0 E' P (pc + 3) L S (zu m a k x) E) : zA y d E0 E' P pc L (zI x :: zP a :: S) m E :=
  z_put0 (v := zI x) hf hd hs (fun G => by rw [ht]; rfl) (fun G => by rw [ht]; rcases hx with rfl | rfl <;> rfl) (fun G => by rw [ht]; rcases hx with rfl | rfl <;> rfl) (fun h => by rw [ht]; exact h) kk
theorem z_putJ {ci k idx : Nat} {a n x : Int} (hf : zFp y.1.cls y.1.name idx ci k) (hd : decode y.2.1 pc = .ok (.putfield idx, 3)) (hs : E.1 a = (ci + 6, n)) (ht : zty ci k = .long) (kk : zA y d E0 E' P (pc + 3) L S (zu m a k x) E) : zA y d E0 E' P pc L (zJ x :: zP a :: S) m E :=
  z_put0 (v := zJ x) hf hd hs (fun G => by rw [ht]; rfl) (fun G => by rw [ht]; rfl) (fun G => by rw [ht]; rfl) (fun h => by rw [ht]; exact h) kk
theorem z_putP {ci k idx : Nat} {a n x : Int} (hf : zFp y.1.cls y.1.name idx ci k) (hd : decode y.2.1 pc = .ok (.putfield idx, 3)) (hs : E.1 a = (ci + 6, n)) (ht : zfk (zty ci k) = 2) (hx : 0 ≤ x) (kk : zA y d E0 E' P (pc + 3) L S (zu m a k x) E) : zA y d E0 E' P pc L (zP x :: zP a :: S) m E := by
  refine z_put0 (v := zP x) hf hd hs (fun G => ?_) (fun G => ?_) (fun G => ?_) (fun h => by rw [ht]; exact trivial) kk
  · simp [ze, zef, ht, Int.not_lt.mpr hx]
  · cases h : zty ci k <;> rw [h] at ht <;> first | (cases ht; done) | rfl
  · cases h : zty ci k <;> rw [h] at ht <;> first | (cases ht; done) | rfl

theorem z_iald {a n i : Int} (hd : decode y.2.1 pc = .ok (.iaload, 1)) (hs : E.1 a = (1, n)) (h0 : 0 ≤ i) (hn : i < n) (kk : zA y d E0 E' P (pc + 1) L (zI (m a i) :: S) m E) : zA y d E0 E' P pc L (zI i :: zP a :: S) m E := by
  intro G p l e s mid args below meth c H locs ls cx hH hS hl hL okL okS g1 g2
  obtain ⟨b1, b2, -, -⟩ := zH_in (k := 0) hH hs
  have hi : zr32 i := zok_h okS
  have ei : ((i.toNat : Nat) : Int) = i := by omega
  have ok1 : zok (zI (m a i)) := by
    have := hH.2.2.1 a i.toNat
    rw [ei, show zsk E a i.toNat = 0 by simp [zsk, hs]] at this
    exact this
  have kk := kk G p l e s mid args below meth c H locs ls cx hH hS hl hL okL (zok_p ok1 (zok_t (zok_t okS))) g1 g2
  have hat := zwl_atI (G := G) (m := m) b1 b2
  rw [zent_1 hs] at hat
  refine va_iald cx.1 cx.2.1 cx.2.2.2.2.2.2.2.2.1 hH.1 a.toNat 0 hat rfl (z32_in hi h0 hn) hd ?_
  rw [z32_clamp hi h0, ei]
  exact kk

theorem z_lald {a n i : Int} (hd : decode y.2.1 pc = .ok (.laload, 1)) (hs : E.1 a = (2, n)) (h0 : 0 ≤ i) (hn : i < n) (kk : zA y d E0 E' P (pc + 1) L (zJ (m a i) :: S) m E) : zA y d E0 E' P pc L (zI i :: zP a :: S) m E := by
  intro G p l e s mid args below meth c H locs ls cx hH hS hl hL okL okS g1 g2
  obtain ⟨b1, b2, -, -⟩ := zH_in (k := 1) hH hs
  have hi : zr32 i := zok_h okS
  have ei : ((i.toNat : Nat) : Int) = i := by omega
  have ok1 : zok (zJ (m a i)) := by
    have := hH.2.2.1 a i.toNat
    rw [ei, show zsk E a i.toNat = 1 by simp [zsk, hs]] at this
    exact this
  have kk := kk G p l e s mid args below meth c H locs ls cx hH hS hl hL okL (zok_p ok1 (zok_t (zok_t okS))) g1 g2
  have hat := zwl_atI (G := G) (m := m) b1 b2
  rw [zent_2 hs] at hat
  refine va_lald cx.1 cx.2.1 cx.2.2.2.2.2.2.2.2.1 hH.1 a.toNat 1 hat rfl (z32_in hi h0 hn) hd ?_
  rw [z32_clamp hi h0, ei]
  exact kk

theorem z_bald {a n i : Int} (hd : decode y.2.1 pc = .ok (.baload, 1)) (hs : E.1 a = (3, n)) (h0 : 0 ≤ i) (hn : i < n) (kk : zA y d E0 E' P (pc + 1) L (zI (m a i) :: S) m E) : zA y d E0 E' P pc L (zI i :: zP a :: S) m E := by
  intro G p l e s mid args below meth c H locs ls cx hH hS hl hL okL okS g1 g2
  obtain ⟨b1, b2, -, -⟩ := zH_in (k := 2) hH hs
  have hi : zr32 i := zok_h okS
  have ei : ((i.toNat : Nat) : Int) = i := by omega
  have ok1 : zok (zI (m a i)) := by
    have := hH.2.2.1 a i.toNat
    rw [ei, show zsk E a i.toNat = 0 by simp [zsk, hs]] at this
    exact this
  have kk := kk G p l e s mid args below meth c H locs ls cx hH hS hl hL okL (zok_p ok1 (zok_t (zok_t okS))) g1 g2
  have hat := zwl_atI (G := G) (m := m) b1 b2
  rw [zent_3 hs] at hat
  refine va_bald cx.1 cx.2.1 cx.2.2.2.2.2.2.2.2.1 hH.1 a.toNat 2 hat rfl (z32_in hi h0 hn) hd ?_
  rw [z32_clamp hi h0, ei]
  exact kk

theorem z_zald {a n i : Int} (hd : decode y.2.1 pc = .ok (.baload, 1)) (hs : E.1 a = (4, n)) (h0 : 0 ≤ i) (hn : i < n) (kk : zA y d E0 E' P (pc + 1) L (zI (m a i) :: S) m E) : zA y d E0 E' P pc L (zI i :: zP a :: S) m E := by
  intro G p l e s mid args below meth c H locs ls cx hH hS hl hL okL okS g1 g2
  obtain ⟨b1, b2, -, -⟩ := zH_in (k := 3) hH hs
  have hi : zr32 i := zok_h okS
  have ei : ((i.toNat : Nat) : Int) = i := by omega
  have ok1 : zok (zI (m a i)) := by
    have := hH.2.2.1 a i.toNat
    rw [ei, show zsk E a i.toNat = 0 by simp [zsk, hs]] at this
    exact this
  have kk := kk G p l e s mid args below meth c H locs ls cx hH hS hl hL okL (zok_p ok1 (zok_t (zok_t okS))) g1 g2
  have hat := zwl_atI (G := G) (m := m) b1 b2
  rw [zent_4 hs] at hat
  refine va_zald cx.1 cx.2.1 cx.2.2.2.2.2.2.2.2.1 hH.1 a.toNat 3 hat rfl (z32_in hi h0 hn) hd ?_
  rw [z32_clamp hi h0, ei]
  exact kk

theorem z_aald {a n i r : Int} (hd : decode y.2.1 pc = .ok (.aaload, 1)) (hs : E.1 a = (5, n)) (h0 : 0 ≤ i) (hn : i < n) (hr : m a i = r) (hr0 : 0 ≤ r) (kk : zA y d E0 E' P (pc + 1) L (zP r :: S) m E) : zA y d E0 E' P pc L (zI i :: zP a :: S) m E := by
  intro G p l e s mid args below meth c H locs ls cx hH hS hl hL okL okS g1 g2
  obtain ⟨b1, b2, -, -⟩ := zH_in (k := 4) hH hs
  have hi : zr32 i := zok_h okS
  have ei : ((i.toNat : Nat) : Int) = i := by omega
  have kk := kk G p l e s mid args below meth c H locs ls cx hH hS hl hL okL (zok_p trivial (zok_t (zok_t okS))) g1 g2
  have hat := zwl_atI (G := G) (m := m) b1 b2
  rw [zent_5 hs] at hat
  refine va_aldq cx.1 cx.2.1 cx.2.2.2.2.2.2.2.2.1 hH.1 a.toNat 4 hat rfl (z32_in hi h0 hn) hd ?_
  rw [z32_clamp hi h0, ei, hr, if_neg (Int.not_lt.mpr hr0)]
  exact kk
theorem z_alen {a n : Int} {kd : Nat} (hd : decode y.2.1 pc = .ok (.arraylength, 1)) (hs : E.1 a = (kd, n)) (hk : kd = 1 ∨ kd = 2 ∨ kd = 3 ∨ kd = 4 ∨ kd = 5) (kk : zA y d E0 E' P (pc + 1) L (zI n :: S) m E) : zA y d E0 E' P pc L (zP a :: S) m E := by
  intro G p l e s mid args below meth c H locs ls cx hH hS hl hL okL okS g1 g2
  obtain ⟨kd', rfl⟩ : ∃ q, kd = q + 1 := ⟨kd - 1, by omega⟩
  obtain ⟨b1, b2, b3, b4⟩ := zH_in hH hs
  have kk := kk G p l e s mid args below meth c H locs ls cx hH hS hl hL okL (zok_p (show zok (zI n) from ⟨by omega, b4⟩) (zok_t okS)) g1 g2
  have hat := zwl_atI (G := G) (m := m) b1 b2
  have hv : Int32.ofNat n.toNat = Int32.ofInt n := by
    rw [show Int32.ofNat n.toNat = Int32.ofInt (n.toNat : Int) from rfl, show ((n.toNat : Nat) : Int) = n by omega]
  rcases hk with h | h | h | h | h
  · rw [h] at hs; rw [zent_1 hs] at hat
    exact va_alen cx.1 cx.2.1 cx.2.2.2.2.2.2.2.2.1 hH.1 a.toNat 0 hat rfl hv hd kk
  · rw [h] at hs; rw [zent_2 hs] at hat
    exact va_alen cx.1 cx.2.1 cx.2.2.2.2.2.2.2.2.1 hH.1 a.toNat 1 hat rfl hv hd kk
  · rw [h] at hs; rw [zent_3 hs] at hat
    exact va_alen cx.1 cx.2.1 cx.2.2.2.2.2.2.2.2.1 hH.1 a.toNat 2 hat rfl hv hd kk
  · rw [h] at hs; rw [zent_4 hs] at hat
    exact va_alen cx.1 cx.2.1 cx.2.2.2.2.2.2.2.2.1 hH.1 a.toNat 3 hat rfl hv hd kk
  · rw [h] at hs; rw [zent_5 hs] at hat
    exact va_alen cx.1 cx.2.1 cx.2.2.2.2.2.2.2.2.1 hH.1 a.toNat 4 hat rfl hv hd kk

theorem z_iast {a n i x : Int} (hd : decode y.2.1 pc = .ok (.iastore, 1)) (hs : E.1 a = (1, n)) (h0 : 0 ≤ i) (hn : i < n) (kk : zA y d E0 E' P (pc + 1) L S (zu m a i x) E) : zA y d E0 E' P pc L (zI x :: zI i :: zP a :: S) m E := by
  intro G p l e s mid args below meth c H locs ls cx hH hS hl hL okL okS g1 g2
  obtain ⟨b1, b2, -, -⟩ := zH_in (k := 0) hH hs
  have hi : zr32 i := zok_h (zok_t okS)
  have ei : ((i.toNat : Nat) : Int) = i := by omega
  have hat := zwl_atI (G := G) (m := m) b1 b2
  rw [zent_1 hs] at hat
  have hK := cx.2.2.2.2.2.2.2.2.1
  have nv : Value.int (Int32.ofInt x) = Value.int (Int32.ofInt x) := rfl
  refine W.iast cx.1 cx.2.1 (hH.1 a.toNat _ hat) ((hK.2 0 _ rfl).1 n.toNat (fun (j : Nat) => .int (Int32.ofInt (m a j)))) (fun q => by cases q) (by show ¬ (_ ∨ (arrV _ _ _).slots.size ≤ _); rw [arrV_size]; exact z32_in hi h0 hn) rfl rfl hd fun H1 e z oq => ?_
  have okx : zokS 0 x := zok_h okS
  refine kk G p l _ s mid args below meth c H1 _ ls cx (zH_set hH b1 b2 ?_ z oq (by simpa [zsk, hs] using okx)) (hS.put z oq (by show G.1 ≤ _; omega)) hl hL okL (zok_t (zok_t (zok_t okS))) g1 g2
  rw [zent_1 hs]
  show H1[G.1 + a.toNat]? = some (vp_cell _ _)
  rw [e, nv, z32_clamp hi h0]
  dsimp only
  rw [vp_cell_i, vp_cell_i, arrV_store]
  congr 2
  funext q
  by_cases hq : q = i.toNat
  · subst hq
    simp [updV, ei, zu_s]
  · have hne : (q : Int) ≠ i := by omega
    simp [updV, hq, zu_j hne]

theorem z_last {a n i x : Int} (hd : decode y.2.1 pc = .ok (.lastore, 1)) (hs : E.1 a = (2, n)) (h0 : 0 ≤ i) (hn : i < n) (kk : zA y d E0 E' P (pc + 1) L S (zu m a i x) E) : zA y d E0 E' P pc L (zJ x :: zI i :: zP a :: S) m E := by
  intro G p l e s mid args below meth c H locs ls cx hH hS hl hL okL okS g1 g2
  obtain ⟨b1, b2, -, -⟩ := zH_in (k := 1) hH hs
  have hi : zr32 i := zok_h (zok_t okS)
  have ei : ((i.toNat : Nat) : Int) = i := by omega
  have hat := zwl_atI (G := G) (m := m) b1 b2
  rw [zent_2 hs] at hat
  have hK := cx.2.2.2.2.2.2.2.2.1
  have nv : Value.long (Int64.ofInt x) = Value.long (Int64.ofInt x) := rfl
  refine W.last cx.1 cx.2.1 (hH.1 a.toNat _ hat) ((hK.2 1 _ rfl).1 n.toNat (fun (j : Nat) => .long (Int64.ofInt (m a j)))) (fun q => by cases q) (by show ¬ (_ ∨ (arrV _ _ _).slots.size ≤ _); rw [arrV_size]; exact z32_in hi h0 hn) rfl rfl hd fun H1 e z oq => ?_
  have okx : zokS 1 x := zok_h okS
  refine kk G p l _ s mid args below meth c H1 _ ls cx (zH_set hH b1 b2 ?_ z oq (by simpa [zsk, hs] using okx)) (hS.put z oq (by show G.1 ≤ _; omega)) hl hL okL (zok_t (zok_t (zok_t okS))) g1 g2
  rw [zent_2 hs]
  show H1[G.1 + a.toNat]? = some (vp_cell _ _)
  rw [e, nv, z32_clamp hi h0]
  dsimp only
  rw [vp_cell_l, vp_cell_l, arrV_store]
  congr 2
  funext q
  by_cases hq : q = i.toNat
  · subst hq
    simp [updV, ei, zu_s]
  · have hne : (q : Int) ≠ i := by omega
    simp [updV, hq, zu_j hne]

theorem z_bast {a n i x : Int} (hd : decode y.2.1 pc = .ok (.bastore, 1)) (hs : E.1 a = (3, n)) (h0 : 0 ≤ i) (hn : i < n) (kk : zA y d E0 E' P (pc + 1) L S (zu m a i (zi2b x)) E) : zA y d E0 E' P pc L (zI x :: zI i :: zP a :: S) m E := by
  intro G p l e s mid args below meth c H locs ls cx hH hS hl hL okL okS g1 g2
  obtain ⟨b1, b2, -, -⟩ := zH_in (k := 2) hH hs
  have hi : zr32 i := zok_h (zok_t okS)
  have ei : ((i.toNat : Nat) : Int) = i := by omega
  have hat := zwl_atI (G := G) (m := m) b1 b2
  rw [zent_3 hs] at hat
  have hK := cx.2.2.2.2.2.2.2.2.1
  have nv : narrow .byte (.int (Int32.ofInt x)) = Value.int (Int32.ofInt (zi2b x)) := (by show _ = Value.int (Int32.ofInt (zi2b x)); rw [show Int32.ofInt (zi2b x) = (Int32.ofInt x).toInt8.toInt32 from Int32.ofInt_toInt _]; rfl)
  refine W.bast cx.1 cx.2.1 (hH.1 a.toNat _ hat) ((hK.2 2 _ rfl).1 n.toNat (fun (j : Nat) => .int (Int32.ofInt (m a j)))) (fun q => by cases q) (by show ¬ (_ ∨ (arrV _ _ _).slots.size ≤ _); rw [arrV_size]; exact z32_in hi h0 hn) rfl rfl hd fun H1 e z oq => ?_
  have okx : zokS 0 (zi2b x) := zr32_of _
  refine kk G p l _ s mid args below meth c H1 _ ls cx (zH_set hH b1 b2 ?_ z oq (by simpa [zsk, hs] using okx)) (hS.put z oq (by show G.1 ≤ _; omega)) hl hL okL (zok_t (zok_t (zok_t okS))) g1 g2
  rw [zent_3 hs]
  show H1[G.1 + a.toNat]? = some (vp_cell _ _)
  rw [e, nv, z32_clamp hi h0]
  dsimp only
  rw [vp_cell_i, vp_cell_i, arrV_store]
  congr 2
  funext q
  by_cases hq : q = i.toNat
  · subst hq
    simp [updV, ei, zu_s]
  · have hne : (q : Int) ≠ i := by omega
    simp [updV, hq, zu_j hne]

theorem z_zast {a n i x : Int} (hd : decode y.2.1 pc = .ok (.bastore, 1)) (hs : E.1 a = (4, n)) (h0 : 0 ≤ i) (hn : i < n) (hx : x = 0 ∨ x = 1) (kk : zA y d E0 E' P (pc + 1) L S (zu m a i x) E) : zA y d E0 E' P pc L (zI x :: zI i :: zP a :: S) m E := by
  intro G p l e s mid args below meth c H locs ls cx hH hS hl hL okL okS g1 g2
  obtain ⟨b1, b2, -, -⟩ := zH_in (k := 3) hH hs
  have hi : zr32 i := zok_h (zok_t okS)
  have ei : ((i.toNat : Nat) : Int) = i := by omega
  have hat := zwl_atI (G := G) (m := m) b1 b2
  rw [zent_4 hs] at hat
  have hK := cx.2.2.2.2.2.2.2.2.1
  have nv : narrow .boolean (.int (Int32.ofInt x)) = Value.int (Int32.ofInt x) := (by rcases hx with rfl | rfl <;> rfl)
  refine W.zast cx.1 cx.2.1 (hH.1 a.toNat _ hat) ((hK.2 3 _ rfl).1 n.toNat (fun (j : Nat) => .int (Int32.ofInt (m a j)))) (fun q => by cases q) (by show ¬ (_ ∨ (arrV _ _ _).slots.size ≤ _); rw [arrV_size]; exact z32_in hi h0 hn) rfl rfl hd fun H1 e z oq => ?_
  have okx : zokS 0 x := zok_h okS
  refine kk G p l _ s mid args below meth c H1 _ ls cx (zH_set hH b1 b2 ?_ z oq (by simpa [zsk, hs] using okx)) (hS.put z oq (by show G.1 ≤ _; omega)) hl hL okL (zok_t (zok_t (zok_t okS))) g1 g2
  rw [zent_4 hs]
  show H1[G.1 + a.toNat]? = some (vp_cell _ _)
  rw [e, nv, z32_clamp hi h0]
  dsimp only
  rw [vp_cell_i, vp_cell_i, arrV_store]
  congr 2
  funext q
  by_cases hq : q = i.toNat
  · subst hq
    simp [updV, ei, zu_s]
  · have hne : (q : Int) ≠ i := by omega
    simp [updV, hq, zu_j hne]

theorem z_aast {a n i x nx : Int} (hd : decode y.2.1 pc = .ok (.aastore, 1)) (hs : E.1 a = (5, n)) (h0 : 0 ≤ i) (hn : i < n) (hx : E.1 x = (11, nx)) (kk : zA y d E0 E' P (pc + 1) L S (zu m a i x) E) : zA y d E0 E' P pc L (zP x :: zI i :: zP a :: S) m E := by
  intro G p l e s mid args below meth c H locs ls cx hH hS hl hL okL okS g1 g2
  obtain ⟨b1, b2, -, -⟩ := zH_in (k := 4) hH hs
  obtain ⟨x1, x2, -, -⟩ := zH_in (k := 10) hH hx
  have hi : zr32 i := zok_h (zok_t okS)
  have ei : ((i.toNat : Nat) : Int) = i := by omega
  have hat := zwl_atI (G := G) (m := m) b1 b2
  have hav := zwl_atI (G := G) (m := m) x1 x2
  rw [zent_5 hs] at hat
  rw [zent_obj (ci := 5) hx] at hav
  have hK := cx.2.2.2.2.2.2.2.2.1
  have hin := z32_in hi h0 hn
  obtain ⟨r', hr', cellV, q1, q2, q3, -⟩ := hH.1 x.toNat _ hav
  have hc : zcl[5]? = some (RX5, TX5, 4) := rfl
  have hcls := (hK.1 5 _ hc).2
  obtain ⟨kA, comp, k1, k2, k3, -⟩ := (hK.2 4 _ rfl).2
  have hcomp : comp = G.2.1.1 5 := Option.some.inj (k3.symm.trans hcls.1)
  subst hcomp
  obtain ⟨kC, hkC, -⟩ := hcls.2
  have hlt : (Int32.ofInt i).toNatClampNeg < n.toNat := Nat.not_le.mp fun q => hin (Or.inr q)
  refine W.aast cx.1 cx.2.1 (hH.1 a.toNat _ hat) (fun q h => by cases h) (fun h => by cases h) k1 k2 rfl hkC ⟨fun q => hin (Or.inl q), by show _ < (arrV _ _ _).slots.size; rw [arrV_size]; exact hlt⟩ q1 (fun q h => by rw [q3] at h; cases h) (by rw [q2]; exact hkC) (by rw [q2]; exact va_assign hcls) rfl rfl hd fun H1 e z oq => ?_
  refine kk G p l _ s mid args below meth c H1 _ ls cx (zH_set hH b1 b2 ?_ z oq (by simp [zsk, hs, zokS])) (hS.put z oq (by show G.1 ≤ _; omega)) hl hL okL (zok_t (zok_t (zok_t okS))) g1 g2
  rw [zent_5 hs]
  show H1[G.1 + a.toNat]? = some (vp_cell _ _)
  rw [e, z32_clamp hi h0]
  dsimp only
  rw [vp_cell_q, vp_cell_q, arrV_store]
  congr 2
  funext q
  by_cases hq : q = i.toNat
  · subst hq
    simp [updV, ei, zu_s, Int.not_lt.mpr x1, va_rf]
  · have hne : (q : Int) ≠ i := by omega
    simp [updV, hq, zu_j hne]
end ZR2
