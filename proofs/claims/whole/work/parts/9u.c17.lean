theorem c_isWd (d : Nat) {E : zE} {m : zM} (sK : shK E) (K : zK) (hK : kTx m K) (p : Int) (hp : kAt m K p) (i : Nat) (hi : i < 8) (v : Int) (hv : qcd i = v) : zR zX9_isWord (d + 4) [zP 1, zQ (i + 1)] m E E (fun r m' => r = some (zI (zb (kWd K p v))) ∧ m = m') := by
  subst hv
  exact c_isWord d sK K hK p hp i hi
def cOK (c : Int → Int) : Prop := wfD c ∧ cMz c ∧ cPre c (c 2).toNat ≤ 12
/-- the class's reader, a theory at t -/
def rS (m : zM) (K : zK) (t : Int) (c : Int → Int) (n p : Int) : Prop := kTx m K ∧ kAt m K p ∧ ptT m t ∧ cTh m t c ∧ m t 14 = n ∧ wfD c
def fRT (t : Int) : List (Int × Option Int) := fTk ++ fE t
def fRB (t : Int) : List (Int × Option Int) := (1, some 8) :: (1, some 9) :: fRT t
theorem kAt_1 {m m' : zM} {K : zK} {p : Int} (h : kAt m K p) (e : ∀ j, 4 ≤ j → j ≤ 7 → m' 1 j = m 1 j) : kAt m' K p := by
  obtain ⟨h1, h2, h3, h4, h5, h6, h7⟩ := h
  refine ⟨h1, ?_, ?_, ?_, ?_⟩
  · rw [e 4 (by omega) (by omega)]; exact h2
  · rw [e 5 (by omega) (by omega)]; exact h3
  · rw [e 6 (by omega) (by omega)]; exact h4
  · rw [e 7 (by omega) (by omega)]; exact ⟨h5, h6, h7⟩
theorem kTx_1 {m m' : zM} {K : zK} (h : kTx m K) (e : ∀ j, j ≤ 3 → m' 1 j = m 1 j) (e2 : ∀ j, m' 2 j = m 2 j) : kTx m' K := by
  obtain ⟨h1, h2, h3, h4, h5, h6⟩ := h
  exact ⟨h1, fun k q0 q1 => by rw [e2]; exact h2 k q0 q1, by rw [e 0 (by omega)]; exact h3, by rw [e 2 (by omega)]; exact h4, by rw [e 3 (by omega)]; exact h5, h6⟩
theorem rS_tk {m m' : zM} {K : zK} {t : Int} {c : Int → Int} {n p p' : Int} (h : rS m K t c n p) (f : zfr fTk m m') (a : kAt m' K p') (t3 : 3 < t) : rS m' K t c n p' := by
  obtain ⟨h1, h2, h3, h4, h5, h6⟩ := h
  have hs : ∀ a j, t ≤ a → m' a j = m a j := fun a j ha => fTk_at f (by omega)
  exact ⟨kTx_fr h1 f, a, ptT_of h3 hs, cTh_of h3 h6 h4 hs, by rw [hs _ _ (by omega)]; exact h5, h6⟩
theorem rS_th {m m' : zM} {K : zK} {t : Int} {c c' : Int → Int} {n p : Int} (h : rS m K t c n p) (t3 : 3 < t) (f : zfr (fE t) m m') (pt : ptT m' t) (ct : cTh m' t c') (ln : m' t 14 = m t 14) (hw : wfD c') : rS m' K t c' n p := by
  obtain ⟨h1, h2, h3, h4, h5, -⟩ := h
  exact ⟨kTx_1 h1 (fun j _ => fE_at f (by omega)) (fun j => fE_at f (by omega)), kAt_1 h2 (fun j _ _ => fE_at f (by omega)), pt, ct, ln.trans h5, hw⟩
theorem fRT_tk {m m1 m2 : zM} {t : Int} (g : zfr (fRT t) m m1) (f : zfr fTk m1 m2) : zfr (fRT t) m m2 := zfr_tr g (zfr_sub f (fun q hq => List.mem_append_left _ hq))
theorem fRT_th {m m1 m2 : zM} {t : Int} (g : zfr (fRT t) m m1) (f : zfr (fE t) m1 m2) : zfr (fRT t) m m2 := zfr_tr g (zfr_sub f (fun q hq => List.mem_append_right _ hq))
def rF (m : zM) (t : Int) : Prop := ptT m t ∧ ∃ c', cOK c' ∧ cTh m t c'
/-- how a piece of a theory's text was read -/
def rOut (m m' : zM) (ret : Option zV) (K : zK) (t : Int) (r : zPr) : Prop := (r.1 = 0 ∧ ret = some (zI 1) ∧ zfr (fRT t) m m' ∧ rS m' K t r.2.2.1 (cPre r.2.2.1 (r.2.2.1 2).toNat) r.2.2.2) ∨ (r.1 ≠ 0 ∧ ret = some (zI 0) ∧ zfr (fRB t) m m' ∧ m' 1 8 = r.1 ∧ m' 1 9 = r.2.1 ∧ rF m' t)
theorem rOut_ok {m m' : zM} {K : zK} {t : Int} {c : Int → Int} {p : Int} {r : zPr} (e : r = (0, 0, c, p)) (g : zfr (fRT t) m m') (h : rS m' K t c (cPre c (c 2).toNat) p) : rOut m m' (some (zI 1)) K t r := by
  subst e
  exact Or.inl ⟨rfl, rfl, g, h⟩
theorem rF_bad {m : zM} {K : zK} {t : Int} {c : Int → Int} {n p k q : Int} (t3 : 3 < t) (h : rS m K t c n p) (hO : cOK c) : rF (kBad m k q) t := by
  have hs : ∀ a j, t ≤ a → kBad m k q a j = m a j := fun a j ha => by show zu (zu m 1 8 k) 1 9 q a j = _; rw [zu_a (by omega), zu_a (by omega)]
  exact ⟨ptT_of h.2.2.1 hs, c, hO, cTh_of h.2.2.1 hO.1 h.2.2.2.1 hs⟩
theorem fRB_bad {m m1 : zM} {t k q : Int} (g : zfr (fRT t) m m1) : zfr (fRB t) m (kBad m1 k q) := zfr_uj (zfr_uj (zfr_sub g (fun q hq => List.mem_cons_of_mem _ (List.mem_cons_of_mem _ hq))) (by simp [fRB])) (by simp [fRB])
theorem rOut_bad0 {m m1 : zM} {K : zK} {t : Int} {c c2 : Int → Int} {n p p2 k q : Int} {r : zPr} (t3 : 3 < t) (h : rS m1 K t c n p) (g : zfr (fRT t) m m1) (hO : cOK c) (e : r = (k, q, c2, p2)) (hk : k ≠ 0) : rOut m (kBad m1 k q) (some (zI 0)) K t r := by
  subst e
  exact Or.inr ⟨hk, rfl, fRB_bad g, (zu_j (by decide)).trans zu_s, zu_s, rF_bad t3 h hO⟩
theorem cFld_lt {c : Int → Int} {v : Int} (hw : wfD c) : cFld c v < c 0 := by
  have := hw.1
  unfold cFld
  rcases zfst_ge (p := fun f => decide (c (4 + 3 * f) = v)) (j := (c 0).toNat) (k := 0) (by omega) with ⟨h, -⟩ | ⟨-, h, -⟩ <;> omega
theorem cPre_eq {c c' : Int → Int} (h2 : c' 2 = c 2) (h : ∀ x, 32 ≤ x → c' x = c x) : cPre c' (c' 2).toNat = cPre c (c 2).toNat := by
  rw [h2]
  exact zsum_congr (fun i q0 q1 => h _ (by omega))
theorem cAddF_pre {c : Int → Int} {l a b : Int} (h : 0 ≤ c 0 ∧ c 0 < 6) : cPre (cAddF c l a b) (cAddF c l a b 2).toNat = cPre c (c 2).toNat := by
  have eo : ∀ x, x ≠ 0 → x ≠ 4 + 3 * c 0 + 2 → x ≠ 4 + 3 * c 0 + 1 → x ≠ 4 + 3 * c 0 → cAddF c l a b x = c x := fun x q0 q1 q2 q3 => by unfold cAddF; rw [if_neg q0, if_neg q1, if_neg q2, if_neg q3]
  exact cPre_eq (eo 2 (by omega) (by omega) (by omega) (by omega)) (fun x hx => eo x (by omega) (by omega) (by omega) (by omega))
theorem cAddM_pre {c : Int → Int} {f g : Int} (h : 0 ≤ c 1 ∧ c 1 < 4) : cPre (cAddM c f g) (cAddM c f g 2).toNat = cPre c (c 2).toNat := by
  have eo : ∀ x, x ≠ 1 → x ≠ 24 + 2 * c 1 + 1 → x ≠ 24 + 2 * c 1 → cAddM c f g x = c x := fun x q0 q1 q2 => by unfold cAddM; rw [if_neg q0, if_neg q1, if_neg q2]
  exact cPre_eq (eo 2 (by omega) (by omega) (by omega)) (fun x hx => eo x (by omega) (by omega) (by omega))
theorem zb_iff01 {x y : Int} (h : zb (x = 1) = zb (y = 1)) : x = 1 ↔ y = 1 := by
  unfold zb at h
  split at h <;> split at h <;> simp_all
theorem pEnd_ne {K : zK} {k q : Int} {c : Int → Int} {p : Int} (h : k ≠ 0) : pEnd K (k, q, c, p) = (k, q, c, p) := if_pos h
/-- a point was read, or what stands in its place; a line must end behind it -/
def rOut1 (m m' : zM) (ret : Option zV) (K : zK) (t : Int) (r : zPr) : Prop := (r.1 = 0 ∧ ret = some (zI 1) ∧ zfr (fRT t) m m' ∧ rS m' K t r.2.2.1 (cPre r.2.2.1 (r.2.2.1 2).toNat) r.2.2.2) ∨ ((pEnd K r).1 ≠ 0 ∧ ret = some (zI 0) ∧ zfr (fRB t) m m' ∧ m' 1 8 = (pEnd K r).1 ∧ m' 1 9 = (pEnd K r).2.1 ∧ rF m' t)
theorem rOut1_of {m m' : zM} {ret : Option zV} {K : zK} {t : Int} {r : zPr} (h : rOut m m' ret K t r) : rOut1 m m' ret K t r := by
  rcases h with h | h
  · exact Or.inl h
  · have e : pEnd K r = r := if_pos h.1
    right
    rw [e]
    exact h
theorem rOut1_tr {m m1 m' : zM} {ret : Option zV} {K : zK} {t : Int} {r : zPr} (g : zfr (fRT t) m m1) (h : rOut1 m1 m' ret K t r) : rOut1 m m' ret K t r := by
  rcases h with ⟨h1, h2, h3, h4⟩ | ⟨h1, h2, h3, h4⟩
  · exact Or.inl ⟨h1, h2, zfr_tr g h3, h4⟩
  · exact Or.inr ⟨h1, h2, zfr_tr (zfr_sub g (fun q hq => List.mem_cons_of_mem _ (List.mem_cons_of_mem _ hq))) h3, h4⟩
theorem rOut_ok1 {m m' : zM} {K : zK} {t : Int} {c : Int → Int} {p : Int} {r : zPr} (e : r = (0, 0, c, p)) (g : zfr (fRT t) m m') (h : rS m' K t c (cPre c (c 2).toNat) p) : rOut1 m m' (some (zI 1)) K t r := rOut1_of (rOut_ok e g h)
theorem rOut_bad1 {m m1 : zM} {K : zK} {t : Int} {c c2 : Int → Int} {n p p2 k q : Int} {r : zPr} (t3 : 3 < t) (h : rS m1 K t c n p) (g : zfr (fRT t) m m1) (hO : cOK c) (e : pEnd K r = (k, q, c2, p2)) (hk : k ≠ 0) : rOut1 m (kBad m1 k q) (some (zI 0)) K t r := by
  right
  rw [e]
  exact ⟨hk, rfl, fRB_bad g, (zu_j (by decide)).trans zu_s, zu_s, rF_bad t3 h hO⟩
theorem half_0 {c0 : Int → Int} : cHalf c0 c0 0 := ⟨fun _ _ => rfl, fun k q0 q1 => by omega⟩
theorem half_next {c0 c : Int → Int} {n v : Int} (h : cHalf c0 c n) (n0 : 0 ≤ n) (n1 : n < 6) (v0 : 0 ≤ v) (v1 : v < 2 * c0 0) : cHalf c0 (eU c (32 + 9 * c0 2 + 3 + n) v) (n + 1) := by
  refine ⟨fun x hx => by rw [eU_o (by omega)]; exact h.1 x hx, fun k q0 q1 => ?_⟩
  by_cases e : k = n
  · rw [e, eU_s]; exact ⟨v0, v1⟩
  · rw [eU_o (by omega)]; exact h.2 k q0 (by omega)
theorem cAddP_off {c : Int → Int} {b n v o x : Int} (h0 : x ≠ 2) (h1 : x < b ∨ b + 2 < x) : cAddP c b n v o x = c x := by unfold cAddP; rw [if_neg h0, if_neg (by omega), if_neg (by omega), if_neg (by omega)]
theorem cFld_eq {c c' : Int → Int} {v : Int} (h6 : c 0 ≤ 6) (e0 : c' 0 = c 0) (e : ∀ x, 3 ≤ x → x < 32 → c' x = c x) : cFld c' v = cFld c v := by
  unfold cFld
  rw [e0]
  exact zfst_congr (fun i q0 q1 => by rw [e _ (by omega) (by omega)])
theorem cFld_lt0 {c : Int → Int} {v : Int} (h : 0 ≤ c 0) : cFld c v < c 0 := by
  unfold cFld
  rcases zfst_ge (p := fun f => decide (c (4 + 3 * f) = v)) (j := (c 0).toNat) (k := 0) (by omega) with ⟨h, -⟩ | ⟨-, h, -⟩ <;> omega
theorem half_pre {c0 c : Int → Int} {n ve no : Int} (hI : cInv c0) (hc : cHalf c0 c n) (h2 : c0 2 < 8) (n0 : 0 ≤ n) : cPre (cAddP c (32 + 9 * c0 2) n ve no) (cAddP c (32 + 9 * c0 2) n ve no 2).toNat = cPre c0 (c0 2).toNat + n := by
  have w2 := hI.1.2.2.1
  have e2 : cAddP c (32 + 9 * c0 2) n ve no 2 = c0 2 + 1 := by rw [cAddP_2, hc.1 2 (by omega)]
  rw [e2, show (c0 2 + 1).toNat = (c0 2).toNat + 1 by omega, cPre_s, show 32 + 9 * (((c0 2).toNat : Nat) : Int) = 32 + 9 * c0 2 by omega, cAddP_b (by omega)]
  congr 1
  exact zsum_congr (fun i q0 q1 => by rw [cAddP_off (by omega) (by omega), hc.1 _ (by omega)])
theorem half_OK {c0 c : Int → Int} {n ve no : Int} (hI : cInv c0) (hz : cMz c0) (h2 : c0 2 < 8) (hve : ve = 0 ∨ ve = 1) (hno : no = 0 ∨ no = 1) (hc : cHalf c0 c n) (hn : 0 ≤ n ∧ n ≤ 6) (h12 : cPre c0 (c0 2).toNat + n ≤ 12) : cOK (cAddP c (32 + 9 * c0 2) n ve no) := by
  have hp := half_pre (ve := ve) (no := no) hI hc h2 hn.1
  obtain ⟨⟨w1, w2, w3, w4, w5, w6⟩, -, -⟩ := hI
  have e2 : cAddP c (32 + 9 * c0 2) n ve no 2 = c0 2 + 1 := by rw [cAddP_2, hc.1 2 (by omega)]
  have eo : ∀ x, x ≠ 2 → x < 32 + 9 * c0 2 → cAddP c (32 + 9 * c0 2) n ve no x = c0 x := fun x q0 q1 => by rw [cAddP_off q0 (by omega), hc.1 x (by omega)]
  have eb : cAddP c (32 + 9 * c0 2) n ve no (32 + 9 * c0 2) = n := cAddP_b (by omega)
  have eb1 : cAddP c (32 + 9 * c0 2) n ve no (32 + 9 * c0 2 + 1) = ve := cAddP_b1 (by omega)
  have eb2 : cAddP c (32 + 9 * c0 2) n ve no (32 + 9 * c0 2 + 2) = no := cAddP_b2 (by omega)
  refine ⟨⟨by rw [eo 0 (by omega) (by omega)]; exact w1, by rw [eo 1 (by omega) (by omega)]; exact w2, by rw [e2]; omega, fun f q0 q1 => ?_, fun k q0 q1 => ?_, fun p q0 q1 => ?_⟩, fun k q0 q1 => ?_, by rw [hp]; exact h12⟩
  · rw [eo 0 (by omega) (by omega)] at q1
    rw [eo _ (by omega) (by omega), eo _ (by omega) (by omega), eo _ (by omega) (by omega)]
    exact w4 f q0 q1
  · rw [eo 1 (by omega) (by omega)] at q1
    rw [eo (24 + 2 * k) (by omega) (by omega), eo (24 + 2 * k + 1) (by omega) (by omega), eo 0 (by omega) (by omega)]
    exact w5 k q0 q1
  · rw [e2] at q1
    rw [eo 0 (by omega) (by omega)]
    by_cases e : p = c0 2
    · subst e
      rw [eb, eb1, eb2]
      refine ⟨hn, hve, hno, fun k r0 r1 => ?_⟩
      rw [cAddP_off (by omega) (by omega)]
      exact hc.2 k r0 r1
    · have h := w6 p q0 (by omega)
      rw [eo (32 + 9 * p) (by omega) (by omega), eo (32 + 9 * p + 1) (by omega) (by omega), eo (32 + 9 * p + 2) (by omega) (by omega)]
      refine ⟨by omega, h.2.1, h.2.2.1, fun k r0 r1 => ?_⟩
      rw [eo _ (by omega) (by omega)]
      exact h.2.2.2 k r0 r1
  · rw [eo 1 (by omega) (by omega)] at q1
    have h := w5 k q0 q1
    rw [eo (24 + 2 * k) (by omega) (by omega), eo (24 + 2 * k + 1) (by omega) (by omega), eo _ (by omega) (by omega), eo _ (by omega) (by omega)]
    exact hz k q0 q1
theorem row_step {E : zE} {m1 m9 : zM} {K : zK} {t o : Int} {c0 c : Int → Int} {n ve no p v : Int} (t3 : 3 < t) (sT : shT E t) (hI : cInv c0) (hz : cMz c0) (h2 : c0 2 < 8) (hve : ve = 0 ∨ ve = 1) (hno : no = 0 ∨ no = 1) (hc : cHalf c0 c n) (n0 : 0 ≤ n) (n1 : n < 6) (h12 : cPre c0 (c0 2).toNat + n < 12) (hS : rS m1 K t (cAddP c (32 + 9 * c0 2) n ve no) (cPre c0 (c0 2).toNat + n) p) (hoo : m1 (t + 6) (c0 2) = o) (v0 : 0 ≤ v) (v1 : v < 2 * c0 0) (e : m9 = zu (zu (zu m1 (o + 1) n v) o 1 (n + 1)) t 14 (cPre c0 (c0 2).toNat + n + 1)) : rS m9 K t (cAddP (eU c (32 + 9 * c0 2 + 3 + n) v) (32 + 9 * c0 2) (n + 1) ve no) (cPre c0 (c0 2).toNat + (n + 1)) p ∧ zfr (fE t) m1 m9 ∧ m9 (t + 6) (c0 2) = o := by
  have w3 := hI.1.2.2.1
  obtain ⟨h1, hp, h3, h4, h5, h6⟩ := hS
  obtain ⟨i, i0, i1, i2⟩ := h3.2.2.1 (c0 2) (by omega) h2
  rw [hoo] at i2
  have hc' := half_next hc n0 n1 v0 v1
  have hOK' := half_OK (ve := ve) (no := no) hI hz h2 hve hno hc' (by omega) (by omega)
  have f : zfr (fE t) m1 m9 := by rw [e]; exact zfr_ut (zfr_uO (zfr_uO' zfr_rf (by omega)) (by omega)) (by decide)
  have hd : ∀ x, x ≠ 2 → x < 32 + 9 * c0 2 → cAddP (eU c (32 + 9 * c0 2 + 3 + n) v) (32 + 9 * c0 2) (n + 1) ve no x = cAddP c (32 + 9 * c0 2) n ve no x := fun x q0 q1 => by rw [cAddP_off q0 (by omega), cAddP_off q0 (by omega), eU_o (by omega)]
  have e2 : cAddP c (32 + 9 * c0 2) n ve no 2 = c0 2 + 1 := by rw [cAddP_2, hc.1 2 (by omega)]
  have e2' : cAddP (eU c (32 + 9 * c0 2 + 3 + n) v) (32 + 9 * c0 2) (n + 1) ve no 2 = c0 2 + 1 := by rw [cAddP_2, hc'.1 2 (by omega)]
  have ct : cTh m9 t (cAddP (eU c (32 + 9 * c0 2 + 3 + n) v) (32 + 9 * c0 2) (n + 1) ve no) := by
    rw [e]
    refine cTh_pt (p := c0 2) h3 h6 h4 (hd 0 (by omega) (by omega)) (hd 1 (by omega) (by omega)) (fun x q0 q1 => hd x (by omega) (by omega)) (by rw [zu_j (by decide), zu_a (by omega), zu_a (by omega)]) (by rw [zu_j (by decide), zu_a (by omega), zu_a (by omega)]) (by rw [zu_j (by decide), zu_a (by omega), zu_a (by omega), e2', ← e2]; exact h4.2.2.1) (by rw [e2']; omega) (fun a j q0 q1 => by rw [zu_a (by omega), zu_a (by omega), zu_a (by omega)]) (by omega) h2 (fun _ => ?_) (fun b q0 q1 q2 => ⟨by rw [e2'] at q1; omega, fun k r0 r1 => hd _ (by omega) (by rw [e2'] at q1; omega)⟩) (fun a j q0 q1 q2 q3 => by rw [hoo] at q2 q3; rw [zu_a (by omega), zu_a q2, zu_a q3])
    have hb := h4.2.2.2.2.2 (c0 2) (by omega) (by omega)
    rw [hoo] at hb ⊢
    unfold cPt at hb ⊢
    rw [cAddP_b (by omega), cAddP_b1 (by omega), cAddP_b2 (by omega)] at hb ⊢
    rw [zu_a (by omega), zu_s, zu_a (by omega), zu_j (by decide), zu_a (by omega), zu_a (by omega), zu_j (by decide), zu_a (by omega)]
    refine ⟨rfl, hb.2.1, hb.2.2.1, fun k r0 r1 => ?_⟩
    rw [zu_a (by omega), zu_a (by omega), cAddP_off (by omega) (by omega)]
    by_cases ek : k = n
    · rw [ek, zu_s, eU_s]
    · rw [zu_j ek, eU_o (by omega)]
      have := hb.2.2.2 k r0 (by omega)
      rw [cAddP_off (by omega) (by omega)] at this
      exact this
  have pt : ptT m9 t := by rw [e]; exact ptT_t (ptT_o (ptT_r h3 ⟨i, i2, i0, i1⟩) (by omega) (by decide)) (by decide)
  refine ⟨⟨kTx_1 h1 (fun j _ => fE_at f (by omega)) (fun j => fE_at f (by omega)), kAt_1 hp (fun j _ _ => fE_at f (by omega)), pt, ct, by rw [e, zu_s, Int.add_assoc], hOK'.1⟩, f, ?_⟩
  rw [e, zu_a (by omega), zu_a (by omega), zu_a (by omega)]
  exact hoo
/-- a point, or no line at all -/
def pPt (K : zK) (c : Int → Int) (p : Int) : zPr := if kWd K p 209220123 ∨ kWd K p 8399691 ∨ kWd K p 318702192 then pPoint K c p else (kMis K p, p, c, p)
theorem pPt_1 {K : zK} {c : Int → Int} {p : Int} (h : kWd K p 209220123 ∨ kWd K p 8399691 ∨ kWd K p 318702192) : pPt K c p = pPoint K c p := if_pos h
theorem pPt_0 {K : zK} {c : Int → Int} {p : Int} (h : ¬ (kWd K p 209220123 ∨ kWd K p 8399691 ∨ kWd K p 318702192)) : pPt K c p = (kMis K p, p, c, p) := if_neg h
theorem c_readKnown (d : Nat) {E : zE} {m : zM} (t : Int) (t3 : 3 < t) (sK : shK E) (sR : E.1 3 = (14, 0)) (sT : shT E t) (K : zK) (c : Int → Int) (n p : Int) (hS0 : rS m K t c n p) : zR zX8_readKnownField (d + 2) [zP 3, zP 1, zP t] m E E (fun r m' => ((kSo K p = 1 ∧ kSz K p = 1) ∧ 0 ≤ cFld c (kW K p) ∧ r = some (zI (cFld c (kW K p))) ∧ m = m') ∨ (¬ (kSo K p = 1 ∧ kSz K p = 1) ∧ r = some (zI (-1)) ∧ m' = kBad m (kMis K p) p) ∨ ((kSo K p = 1 ∧ kSz K p = 1) ∧ cFld c (kW K p) < 0 ∧ r = some (zI (cFld c (kW K p))) ∧ m' = kBad m 3 p)) := by
  refine zR_go [zP 3, zP 1, zP t, zN] (by decide +kernel) (Nat.le_of_ble_eq_true rfl) rfl rfl ?_
  refine z_aload_n dX8_readKnownField_0 rfl ?_
  refine z_callV mlX8_57 dX8_readKnownField_1 sK.1 (av := _) rfl rfl (Nat.le_of_ble_eq_true rfl) (c_isSingle _ sK K p hS0.2.1 hS0.1.1) (Nat.le_refl _) (Nat.le_refl _) (Nat.le_refl _) (Nat.le_refl _) ?_
  rintro _ _ ⟨rfl, rfl⟩
  refine z_ifz_ne (tgt := 14) dX8_readKnownField_4 rfl (fun h4 => ?_) (fun h4 => ?_)
  · refine z_aload_n dX8_readKnownField_14 rfl ?_
    refine z_aload_n dX8_readKnownField_15 rfl ?_
    refine z_gIv 7 rfl flX8_64 dX8_readKnownField_16 sK.1 rfl ((hS0.2.1.2.2.2.2.1 h4.1).trans (kW_1 h4).1.symm) ?_
    refine z_callV mlX8_67 dX8_readKnownField_19 (sT0 sT) (av := [_]) rfl rfl (Nat.le_of_ble_eq_true rfl) (c_fieldOf _ t (by omega) sT hS0.2.2.1 c hS0.2.2.2.2.2 hS0.2.2.2.1 (kW K p)) (Nat.le_refl _) (Nat.le_refl _) (Nat.le_refl _) (Nat.le_refl _) ?_
    rintro _ _ ⟨rfl, rfl⟩
    refine z_ist 3 dX8_readKnownField_22 rfl (Nat.le_of_ble_eq_true rfl) ?_
    refine z_iload_n dX8_readKnownField_23 rfl ?_
    try dsimp only [zs0, zsI, zsP, zsN, zsJ, zsS, zst2, Nat.reduceAdd]
    refine z_if_ge (tgt := 33) dX8_readKnownField_24 rfl (fun h24 => ?_) (fun h24 => ?_)
    · refine z_iload_n dX8_readKnownField_33 rfl ?_
      refine z_iret dX8_readKnownField_34 rfl rfl ?_
      exact Or.inl ⟨h4, by omega, rfl, rfl⟩
    · refine z_aload_n dX8_readKnownField_27 rfl ?_
      refine z_iconst dX8_readKnownField_28 (by decide) ?_
      refine z_callV mlX8_50 dX8_readKnownField_29 sK.1 (av := [_]) rfl rfl (Nat.le_of_ble_eq_true rfl) (c_failHere _ sK K p hS0.2.1 3) (Nat.le_refl _) (Nat.le_refl _) (Nat.le_refl _) (Nat.le_refl _) ?_
      rintro _ _ ⟨rfl, rfl⟩
      refine z_pop dX8_readKnownField_32 rfl ?_
      refine z_iload_n dX8_readKnownField_33 rfl ?_
      refine z_iret dX8_readKnownField_34 rfl rfl ?_
      exact Or.inr (Or.inr ⟨h4, by omega, rfl, rfl⟩)
  · refine z_aload_n dX8_readKnownField_7 rfl ?_
    refine z_callV mlX8_61 dX8_readKnownField_8 sK.1 (av := _) rfl rfl (Nat.le_of_ble_eq_true rfl) (c_misplaced _ sK K p hS0.2.1) (Nat.le_refl _) (Nat.le_refl _) (Nat.le_refl _) (Nat.le_refl _) ?_
    rintro _ _ ⟨rfl, rfl⟩
    refine z_pop dX8_readKnownField_11 rfl ?_
    refine z_iconst dX8_readKnownField_12 (by decide) ?_
    refine z_iret dX8_readKnownField_13 rfl rfl ?_
    exact Or.inr (Or.inl ⟨h4, rfl, rfl⟩)

theorem c_readField (d : Nat) {E : zE} {m : zM} (t : Int) (t3 : 3 < t) (sK : shK E) (sR : E.1 3 = (14, 0)) (sT : shT E t) (K : zK) (c : Int → Int) (p : Int) (hI : cInv c) (hz : cMz c) (hS0 : rS m K t c (cPre c (c 2).toNat) p) (hne : kSo K p ≠ 0) : zR zX8_readField (d + 5) [zP 3, zP 1, zP t] m E E (fun r m' => rOut m m' r K t (pField K c p)) := by
  have hO : cOK c := ⟨wfD_of hI.1, hz, hI.2.1⟩
  have hw := hO.1
  have b1 := hw.1
  have b2 := hw.2.1
  have b3 := hw.2.2.1
  have g0 : zfr (fRT t) m m := zfr_rf
  refine zR_go [zP 3, zP 1, zP t, zN, zN, zN] (by decide +kernel) (Nat.le_of_ble_eq_true rfl) rfl rfl ?_
  refine z_aload_n dX8_readField_0 rfl ?_
  refine z_gIv 11 rfl flX8_47 dX8_readField_1 (sT0 sT) rfl hS0.2.2.2.1.1 ?_
  refine z_bipush dX8_readField_4 rfl (by decide) ?_
  refine z_icmp_lt (tgt := 16) dX8_readField_6 rfl (fun h6 => ?_) (fun h6 => ?_)
  · refine z_aload_n dX8_readField_16 rfl ?_
    refine z_callV mlX8_54 dX8_readField_17 sK.1 (av := _) rfl rfl (Nat.le_of_ble_eq_true rfl) (c_next _ sK K hS0.1 p hS0.2.1 hne) (Nat.le_refl _) (Nat.le_refl _) (Nat.le_refl _) (Nat.le_refl _) ?_
    rintro _ y1 ⟨rfl, f1, a1⟩
    have hS1 := rS_tk hS0 f1 a1 t3
    have g1 := fRT_tk g0 f1
    refine z_aload_n dX8_readField_20 rfl ?_
    refine z_callV mlX8_57 dX8_readField_21 sK.1 (av := _) rfl rfl (Nat.le_of_ble_eq_true rfl) (c_isSingle _ sK K (kR K p) hS1.2.1 hS1.1.1) (Nat.le_refl _) (Nat.le_refl _) (Nat.le_refl _) (Nat.le_refl _) ?_
    rintro _ _ ⟨rfl, rfl⟩
    refine z_ifz_ne (tgt := 32) dX8_readField_24 rfl (fun h24 => ?_) (fun h24 => ?_)
    · refine z_aload_n dX8_readField_32 rfl ?_
      refine z_gIv 7 rfl flX8_64 dX8_readField_33 sK.1 rfl ((hS1.2.1.2.2.2.2.1 h24.1).trans (kW_1 h24).1.symm) ?_
      refine z_ist 3 dX8_readField_36 rfl (Nat.le_of_ble_eq_true rfl) ?_
      refine z_aload_n dX8_readField_37 rfl ?_
      refine z_iload_n dX8_readField_38 rfl ?_
      try dsimp only [zs0, zsI, zsP, zsN, zsJ, zsS, zst2, Nat.reduceAdd]
      refine z_callV mlX8_67 dX8_readField_39 (sT0 sT) (av := [_]) rfl rfl (Nat.le_of_ble_eq_true rfl) (c_fieldOf _ t (by omega) sT hS1.2.2.1 c hw hS1.2.2.2.1 (kW K (kR K p))) (Nat.le_refl _) (Nat.le_refl _) (Nat.le_refl _) (Nat.le_refl _) ?_
      rintro _ _ ⟨rfl, rfl⟩
      refine z_if_lt (tgt := 51) dX8_readField_42 rfl (fun h42 => ?_) (fun h42 => ?_)
      · refine z_aload_n dX8_readField_51 rfl ?_
        refine z_callV mlX8_54 dX8_readField_52 sK.1 (av := _) rfl rfl (Nat.le_of_ble_eq_true rfl) (c_next _ sK K hS1.1 (kR K p) hS1.2.1 (by have := h24.1; omega)) (Nat.le_refl _) (Nat.le_refl _) (Nat.le_refl _) (Nat.le_refl _) ?_
        rintro _ y2 ⟨rfl, f2, a2⟩
        have hS2 := rS_tk hS1 f2 a2 t3
        have g2 := fRT_tk g1 f2
        refine z_aload_n dX8_readField_55 rfl ?_
        refine z_ldcS (i := 1) rfl rfl dX8_readField_56 ?_
        refine z_callV mlX8_22 dX8_readField_58 sK.1 (av := [_]) rfl rfl (Nat.le_of_ble_eq_true rfl) (c_isWd _ sK K hS2.1 (kR K (kR K p)) hS2.2.1 1 (by decide) 315918 rfl) (Nat.le_refl _) (Nat.le_refl _) (Nat.le_refl _) (Nat.le_refl _) ?_
        rintro _ _ ⟨rfl, rfl⟩
        refine z_istore dX8_readField_61 (Nat.le_of_ble_eq_true rfl) ?_
        refine z_iload dX8_readField_63 rfl ?_
        try dsimp only [zs0, zsI, zsP, zsN, zsJ, zsS, zst2, Nat.reduceAdd]
        refine z_ifz_ne (tgt := 82) dX8_readField_65 rfl (fun h65 => ?_) (fun h65 => ?_)
        · refine z_aload_n dX8_readField_82 rfl ?_
          refine z_callV mlX8_54 dX8_readField_83 sK.1 (av := _) rfl rfl (Nat.le_of_ble_eq_true rfl) (c_next _ sK K hS2.1 (kR K (kR K p)) hS2.2.1 (by have := h65.1; omega)) (Nat.le_refl _) (Nat.le_refl _) (Nat.le_refl _) (Nat.le_refl _) ?_
          rintro _ y3 ⟨rfl, f3, a3⟩
          have hS3 := rS_tk hS2 f3 a3 t3
          have g3 := fRT_tk g2 f3
          refine z_aload_n dX8_readField_86 rfl ?_
          refine z_ldcS (i := 3) rfl rfl dX8_readField_87 ?_
          refine z_callV mlX8_22 dX8_readField_89 sK.1 (av := [_]) rfl rfl (Nat.le_of_ble_eq_true rfl) (c_isWd _ sK K hS3.1 (kR K (kR K (kR K p))) hS3.2.1 3 (by decide) 11047 rfl) (Nat.le_refl _) (Nat.le_refl _) (Nat.le_refl _) (Nat.le_refl _) ?_
          rintro _ _ ⟨rfl, rfl⟩
          refine z_istore dX8_readField_92 (Nat.le_of_ble_eq_true rfl) ?_
          refine z_iload dX8_readField_94 rfl ?_
          try dsimp only [zs0, zsI, zsP, zsN, zsJ, zsS, zst2, Nat.reduceAdd]
          refine z_ifz_eq (tgt := 103) dX8_readField_96 rfl (fun h96 => ?_) (fun h96 => ?_)
          · refine z_aload_n dX8_readField_103 rfl ?_
            refine z_iload_n dX8_readField_104 rfl ?_
            refine z_iload dX8_readField_105 rfl ?_
            refine z_iload dX8_readField_107 rfl ?_
            refine z_callV mlX8_77 dX8_readField_109 (sT0 sT) (av := [_, _, _]) rfl rfl (Nat.le_of_ble_eq_true rfl) (c_addField _ t (by omega) sT hS3.2.2.1 c hw hS3.2.2.2.1 _ _ _ (by omega) (zb01 _) (zb01 _)) (Nat.le_refl _) (Nat.le_refl _) (Nat.le_refl _) (Nat.le_refl _) ?_
            rintro _ m9 ⟨rfl, f9, p9, c9, n9⟩
            refine z_iconst dX8_readField_112 (by decide) ?_
            refine z_zret dX8_readField_113 rfl (by first | omega | exact zb01 _) rfl ?_
            have e : pField K c p = (0, 0, cAddF c (kW K (kR K p)) (zb (kWd K (kR K (kR K p)) 315918)) (zb (kWd K (kR K (kR K (kR K p))) 11047)), (kR K (kR K (kR K p)))) := by unfold pField; rw [if_neg (by omega), if_neg (fun h => h h24), if_neg (by omega), if_neg (fun h => h (Or.inl h65)), if_neg h96]
            exact rOut_ok e (fRT_th g3 f9) (by have := rS_th hS3 t3 f9 p9 c9 n9 (wfD_of (by have q := pField_ok hS0.1.1 hI (by rw [e]); rw [e] at q; exact q.1.1)); rw [← cAddF_pre (l := _) (a := _) (b := _) (by omega)] at this; exact this)
          · refine z_aload_n dX8_readField_99 rfl ?_
            refine z_callV mlX8_54 dX8_readField_100 sK.1 (av := _) rfl rfl (Nat.le_of_ble_eq_true rfl) (c_next _ sK K hS3.1 (kR K (kR K (kR K p))) hS3.2.1 (by have := h96.1; omega)) (Nat.le_refl _) (Nat.le_refl _) (Nat.le_refl _) (Nat.le_refl _) ?_
            rintro _ y4 ⟨rfl, f4, a4⟩
            have hS4 := rS_tk hS3 f4 a4 t3
            have g4 := fRT_tk g3 f4
            refine z_aload_n dX8_readField_103 rfl ?_
            refine z_iload_n dX8_readField_104 rfl ?_
            refine z_iload dX8_readField_105 rfl ?_
            refine z_iload dX8_readField_107 rfl ?_
            refine z_callV mlX8_77 dX8_readField_109 (sT0 sT) (av := [_, _, _]) rfl rfl (Nat.le_of_ble_eq_true rfl) (c_addField _ t (by omega) sT hS4.2.2.1 c hw hS4.2.2.2.1 _ _ _ (by omega) (zb01 _) (zb01 _)) (Nat.le_refl _) (Nat.le_refl _) (Nat.le_refl _) (Nat.le_refl _) ?_
            rintro _ m9 ⟨rfl, f9, p9, c9, n9⟩
            refine z_iconst dX8_readField_112 (by decide) ?_
            refine z_zret dX8_readField_113 rfl (by first | omega | exact zb01 _) rfl ?_
            have e : pField K c p = (0, 0, cAddF c (kW K (kR K p)) (zb (kWd K (kR K (kR K p)) 315918)) (zb (kWd K (kR K (kR K (kR K p))) 11047)), kR K (kR K (kR K (kR K p)))) := by unfold pField; rw [if_neg (by omega), if_neg (fun h => h h24), if_neg (by omega), if_neg (fun h => h (Or.inl h65)), if_pos h96]
            exact rOut_ok e (fRT_th g4 f9) (by have := rS_th hS4 t3 f9 p9 c9 n9 (wfD_of (by have q := pField_ok hS0.1.1 hI (by rw [e]); rw [e] at q; exact q.1.1)); rw [← cAddF_pre (l := _) (a := _) (b := _) (by omega)] at this; exact this)
        · refine z_aload_n dX8_readField_68 rfl ?_
          refine z_ldcS (i := 2) rfl rfl dX8_readField_69 ?_
          refine z_callV mlX8_22 dX8_readField_71 sK.1 (av := [_]) rfl rfl (Nat.le_of_ble_eq_true rfl) (c_isWd _ sK K hS2.1 (kR K (kR K p)) hS2.2.1 2 (by decide) 357978 rfl) (Nat.le_refl _) (Nat.le_refl _) (Nat.le_refl _) (Nat.le_refl _) ?_
          rintro _ _ ⟨rfl, rfl⟩
          refine z_ifz_ne (tgt := 82) dX8_readField_74 rfl (fun h74 => ?_) (fun h74 => ?_)
          · refine z_aload_n dX8_readField_82 rfl ?_
            refine z_callV mlX8_54 dX8_readField_83 sK.1 (av := _) rfl rfl (Nat.le_of_ble_eq_true rfl) (c_next _ sK K hS2.1 (kR K (kR K p)) hS2.2.1 (by have := h74.1; omega)) (Nat.le_refl _) (Nat.le_refl _) (Nat.le_refl _) (Nat.le_refl _) ?_
            rintro _ y3 ⟨rfl, f3, a3⟩
            have hS3 := rS_tk hS2 f3 a3 t3
            have g3 := fRT_tk g2 f3
            refine z_aload_n dX8_readField_86 rfl ?_
            refine z_ldcS (i := 3) rfl rfl dX8_readField_87 ?_
            refine z_callV mlX8_22 dX8_readField_89 sK.1 (av := [_]) rfl rfl (Nat.le_of_ble_eq_true rfl) (c_isWd _ sK K hS3.1 (kR K (kR K (kR K p))) hS3.2.1 3 (by decide) 11047 rfl) (Nat.le_refl _) (Nat.le_refl _) (Nat.le_refl _) (Nat.le_refl _) ?_
            rintro _ _ ⟨rfl, rfl⟩
            refine z_istore dX8_readField_92 (Nat.le_of_ble_eq_true rfl) ?_
            refine z_iload dX8_readField_94 rfl ?_
            try dsimp only [zs0, zsI, zsP, zsN, zsJ, zsS, zst2, Nat.reduceAdd]
            refine z_ifz_eq (tgt := 103) dX8_readField_96 rfl (fun h96 => ?_) (fun h96 => ?_)
            · refine z_aload_n dX8_readField_103 rfl ?_
              refine z_iload_n dX8_readField_104 rfl ?_
              refine z_iload dX8_readField_105 rfl ?_
              refine z_iload dX8_readField_107 rfl ?_
              refine z_callV mlX8_77 dX8_readField_109 (sT0 sT) (av := [_, _, _]) rfl rfl (Nat.le_of_ble_eq_true rfl) (c_addField _ t (by omega) sT hS3.2.2.1 c hw hS3.2.2.2.1 _ _ _ (by omega) (zb01 _) (zb01 _)) (Nat.le_refl _) (Nat.le_refl _) (Nat.le_refl _) (Nat.le_refl _) ?_
              rintro _ m9 ⟨rfl, f9, p9, c9, n9⟩
              refine z_iconst dX8_readField_112 (by decide) ?_
              refine z_zret dX8_readField_113 rfl (by first | omega | exact zb01 _) rfl ?_
              have e : pField K c p = (0, 0, cAddF c (kW K (kR K p)) (zb (kWd K (kR K (kR K p)) 315918)) (zb (kWd K (kR K (kR K (kR K p))) 11047)), (kR K (kR K (kR K p)))) := by unfold pField; rw [if_neg (by omega), if_neg (fun h => h h24), if_neg (by omega), if_neg (fun h => h (Or.inr h74)), if_neg h96]
              exact rOut_ok e (fRT_th g3 f9) (by have := rS_th hS3 t3 f9 p9 c9 n9 (wfD_of (by have q := pField_ok hS0.1.1 hI (by rw [e]); rw [e] at q; exact q.1.1)); rw [← cAddF_pre (l := _) (a := _) (b := _) (by omega)] at this; exact this)
            · refine z_aload_n dX8_readField_99 rfl ?_
              refine z_callV mlX8_54 dX8_readField_100 sK.1 (av := _) rfl rfl (Nat.le_of_ble_eq_true rfl) (c_next _ sK K hS3.1 (kR K (kR K (kR K p))) hS3.2.1 (by have := h96.1; omega)) (Nat.le_refl _) (Nat.le_refl _) (Nat.le_refl _) (Nat.le_refl _) ?_
              rintro _ y4 ⟨rfl, f4, a4⟩
              have hS4 := rS_tk hS3 f4 a4 t3
              have g4 := fRT_tk g3 f4
              refine z_aload_n dX8_readField_103 rfl ?_
              refine z_iload_n dX8_readField_104 rfl ?_
              refine z_iload dX8_readField_105 rfl ?_
              refine z_iload dX8_readField_107 rfl ?_
              refine z_callV mlX8_77 dX8_readField_109 (sT0 sT) (av := [_, _, _]) rfl rfl (Nat.le_of_ble_eq_true rfl) (c_addField _ t (by omega) sT hS4.2.2.1 c hw hS4.2.2.2.1 _ _ _ (by omega) (zb01 _) (zb01 _)) (Nat.le_refl _) (Nat.le_refl _) (Nat.le_refl _) (Nat.le_refl _) ?_
              rintro _ m9 ⟨rfl, f9, p9, c9, n9⟩
              refine z_iconst dX8_readField_112 (by decide) ?_
              refine z_zret dX8_readField_113 rfl (by first | omega | exact zb01 _) rfl ?_
              have e : pField K c p = (0, 0, cAddF c (kW K (kR K p)) (zb (kWd K (kR K (kR K p)) 315918)) (zb (kWd K (kR K (kR K (kR K p))) 11047)), kR K (kR K (kR K (kR K p)))) := by unfold pField; rw [if_neg (by omega), if_neg (fun h => h h24), if_neg (by omega), if_neg (fun h => h (Or.inr h74)), if_pos h96]
              exact rOut_ok e (fRT_th g4 f9) (by have := rS_th hS4 t3 f9 p9 c9 n9 (wfD_of (by have q := pField_ok hS0.1.1 hI (by rw [e]); rw [e] at q; exact q.1.1)); rw [← cAddF_pre (l := _) (a := _) (b := _) (by omega)] at this; exact this)
          · refine z_aload_n dX8_readField_77 rfl ?_
            refine z_callV mlX8_61 dX8_readField_78 sK.1 (av := _) rfl rfl (Nat.le_of_ble_eq_true rfl) (c_misplaced _ sK K (kR K (kR K p)) hS2.2.1) (Nat.le_refl _) (Nat.le_refl _) (Nat.le_refl _) (Nat.le_refl _) ?_
            rintro _ _ ⟨rfl, rfl⟩
            refine z_zret dX8_readField_81 rfl (by first | omega | exact zb01 _) rfl ?_
            exact rOut_bad0 t3 hS2 g2 hO (show pField K c p = (kMis K (kR K (kR K p)), (kR K (kR K p)), c, p) by unfold pField; rw [if_neg (by omega), if_neg (fun h => h h24), if_neg (by omega), if_pos (fun h => h.elim h65 h74)]) (kMis_ne)
      · refine z_aload_n dX8_readField_45 rfl ?_
        refine z_iconst dX8_readField_46 (by decide) ?_
        refine z_callV mlX8_50 dX8_readField_47 sK.1 (av := [_]) rfl rfl (Nat.le_of_ble_eq_true rfl) (c_failHere _ sK K (kR K p) hS1.2.1 5) (Nat.le_refl _) (Nat.le_refl _) (Nat.le_refl _) (Nat.le_refl _) ?_
        rintro _ _ ⟨rfl, rfl⟩
        refine z_zret dX8_readField_50 rfl (by first | omega | exact zb01 _) rfl ?_
        exact rOut_bad0 t3 hS1 g1 hO (show pField K c p = (5, (kR K p), c, p) by unfold pField; rw [if_neg (by omega), if_neg (fun h => h h24), if_pos (by omega)]) (by decide)
    · refine z_aload_n dX8_readField_27 rfl ?_
      refine z_callV mlX8_61 dX8_readField_28 sK.1 (av := _) rfl rfl (Nat.le_of_ble_eq_true rfl) (c_misplaced _ sK K (kR K p) hS1.2.1) (Nat.le_refl _) (Nat.le_refl _) (Nat.le_refl _) (Nat.le_refl _) ?_
      rintro _ _ ⟨rfl, rfl⟩
      refine z_zret dX8_readField_31 rfl (by first | omega | exact zb01 _) rfl ?_
      exact rOut_bad0 t3 hS1 g1 hO (show pField K c p = (kMis K (kR K p), (kR K p), c, p) by unfold pField; rw [if_neg (by omega), if_pos h24]) (kMis_ne)
  · refine z_aload_n dX8_readField_9 rfl ?_
    refine z_bipush dX8_readField_10 rfl (by decide) ?_
    refine z_callV mlX8_50 dX8_readField_12 sK.1 (av := [_]) rfl rfl (Nat.le_of_ble_eq_true rfl) (c_failHere _ sK K p hS0.2.1 6) (Nat.le_refl _) (Nat.le_refl _) (Nat.le_refl _) (Nat.le_refl _) ?_
    rintro _ _ ⟨rfl, rfl⟩
    refine z_zret dX8_readField_15 rfl (by first | omega | exact zb01 _) rfl ?_
    exact rOut_bad0 t3 hS0 g0 hO (show pField K c p = (6, p, c, p) by unfold pField; rw [if_pos (by omega)]) (by decide)

theorem c_readMix (d : Nat) {E : zE} {m : zM} (t : Int) (t3 : 3 < t) (sK : shK E) (sR : E.1 3 = (14, 0)) (sT : shT E t) (K : zK) (c : Int → Int) (p : Int) (hI : cInv c) (hz : cMz c) (hS0 : rS m K t c (cPre c (c 2).toNat) p) (hne : kSo K p ≠ 0) : zR zX8_readMix (d + 4) [zP 3, zP 1, zP t] m E E (fun r m' => rOut m m' r K t (pMix K c p)) := by
  have hO : cOK c := ⟨wfD_of hI.1, hz, hI.2.1⟩
  have hw := hO.1
  have b1 := hw.1
  have b2 := hw.2.1
  have b3 := hw.2.2.1
  have g0 : zfr (fRT t) m m := zfr_rf
  refine zR_go [zP 3, zP 1, zP t, zN, zN, zN] (by decide +kernel) (Nat.le_of_ble_eq_true rfl) rfl rfl ?_
  refine z_aload_n dX8_readMix_0 rfl ?_
  refine z_gIv 12 rfl flX8_81 dX8_readMix_1 (sT0 sT) rfl hS0.2.2.2.1.2.1 ?_
  refine z_iconst dX8_readMix_4 (by decide) ?_
  refine z_icmp_lt (tgt := 15) dX8_readMix_5 rfl (fun h5 => ?_) (fun h5 => ?_)
  · refine z_aload_n dX8_readMix_15 rfl ?_
    refine z_callV mlX8_54 dX8_readMix_16 sK.1 (av := _) rfl rfl (Nat.le_of_ble_eq_true rfl) (c_next _ sK K hS0.1 p hS0.2.1 hne) (Nat.le_refl _) (Nat.le_refl _) (Nat.le_refl _) (Nat.le_refl _) ?_
    rintro _ y1 ⟨rfl, f1, a1⟩
    have hS1 := rS_tk hS0 f1 a1 t3
    have g1 := fRT_tk g0 f1
    refine z_aload_n dX8_readMix_19 rfl ?_
    refine z_aload_n dX8_readMix_20 rfl ?_
    refine z_aload_n dX8_readMix_21 rfl ?_
    refine z_callV mlX8_84 dX8_readMix_22 sR (av := [_, _]) rfl rfl (Nat.le_of_ble_eq_true rfl) (c_readKnown _ t t3 sK sR sT K c _ (kR K p) hS1) (Nat.le_refl _) (Nat.le_refl _) (Nat.le_refl _) (Nat.le_refl _) ?_
    rintro r7 m7 (⟨uA, vA, rfl, rfl⟩ | ⟨uA, rfl, rfl⟩ | ⟨uA, vA, rfl, rfl⟩)
    · refine z_ist 3 dX8_readMix_25 rfl (Nat.le_of_ble_eq_true rfl) ?_
      refine z_iload_n dX8_readMix_26 rfl ?_
      try dsimp only [zs0, zsI, zsP, zsN, zsJ, zsS, zst2, Nat.reduceAdd]
      refine z_if_ge (tgt := 32) dX8_readMix_27 rfl (fun h27 => ?_) (fun h => absurd (by omega) h)
      refine z_aload_n dX8_readMix_32 rfl ?_
      have ltA := cFld_lt (c := c) (v := kW K (kR K p)) hw
      have fA := hw.2.2.2.1 (cFld c (kW K (kR K p))) (by omega) ltA
      refine z_gP 1 rfl (r := t + 2) flX8_88 dX8_readMix_33 (sT0 sT) rfl (pT1 hS1.2.2.1) (by omega) ?_
      refine z_iload_n dX8_readMix_36 rfl ?_
      refine z_zald dX8_readMix_37 (sT2 sT) (by omega) (by omega) ?_
      rw [(hS1.2.2.2.1.2.2.2.1 (cFld c (kW K (kR K p))) (by omega) ltA).2.1]
      refine z_if_eq (tgt := 47) dX8_readMix_38 rfl (fun h38 => ?_) (fun h38 => ?_)
      · refine z_aload_n dX8_readMix_47 rfl ?_
        refine z_callV mlX8_54 dX8_readMix_48 sK.1 (av := _) rfl rfl (Nat.le_of_ble_eq_true rfl) (c_next _ sK K hS1.1 (kR K p) hS1.2.1 (by have := uA.1; omega)) (Nat.le_refl _) (Nat.le_refl _) (Nat.le_refl _) (Nat.le_refl _) ?_
        rintro _ y2 ⟨rfl, f2, a2⟩
        have hS2 := rS_tk hS1 f2 a2 t3
        have g2 := fRT_tk g1 f2
        refine z_aload_n dX8_readMix_51 rfl ?_
        refine z_aload_n dX8_readMix_52 rfl ?_
        refine z_aload_n dX8_readMix_53 rfl ?_
        refine z_callV mlX8_84 dX8_readMix_54 sR (av := [_, _]) rfl rfl (Nat.le_of_ble_eq_true rfl) (c_readKnown _ t t3 sK sR sT K c _ (kR K (kR K p)) hS2) (Nat.le_refl _) (Nat.le_refl _) (Nat.le_refl _) (Nat.le_refl _) ?_
        rintro r7 m7 (⟨uB, vB, rfl, rfl⟩ | ⟨uB, rfl, rfl⟩ | ⟨uB, vB, rfl, rfl⟩)
        · refine z_istore dX8_readMix_57 (Nat.le_of_ble_eq_true rfl) ?_
          refine z_iload dX8_readMix_59 rfl ?_
          try dsimp only [zs0, zsI, zsP, zsN, zsJ, zsS, zst2, Nat.reduceAdd]
          refine z_if_ge (tgt := 66) dX8_readMix_61 rfl (fun h61 => ?_) (fun h => absurd (by omega) h)
          refine z_aload_n dX8_readMix_66 rfl ?_
          have ltB := cFld_lt (c := c) (v := kW K (kR K (kR K p))) hw
          have fB := hw.2.2.2.1 (cFld c (kW K (kR K (kR K p)))) (by omega) ltB
          refine z_gP 1 rfl (r := t + 2) flX8_88 dX8_readMix_67 (sT0 sT) rfl (pT1 hS2.2.2.1) (by omega) ?_
          refine z_iload dX8_readMix_70 rfl ?_
          refine z_zald dX8_readMix_72 (sT2 sT) (by omega) (by omega) ?_
          rw [(hS2.2.2.2.1.2.2.2.1 (cFld c (kW K (kR K (kR K p)))) (by omega) ltB).2.1]
          refine z_if_ne (tgt := 92) dX8_readMix_73 rfl (fun h73 => ?_) (fun h73 => ?_)
          · refine z_iconst dX8_readMix_92 (by decide) ?_
            refine z_goto (tgt := 97) dX8_readMix_93 rfl ?_
            refine z_istore dX8_readMix_97 (Nat.le_of_ble_eq_true rfl) ?_
            refine z_iload dX8_readMix_99 rfl ?_
            try dsimp only [zs0, zsI, zsP, zsN, zsJ, zsS, zst2, Nat.reduceAdd]
            refine z_if_ne (tgt := 120) dX8_readMix_101 rfl (fun h101 => ?_) (fun h => absurd (by decide) h)
            refine z_aload_n dX8_readMix_120 rfl ?_
            refine z_iconst dX8_readMix_121 (by decide) ?_
            refine z_callV mlX8_50 dX8_readMix_122 sK.1 (av := [_]) rfl rfl (Nat.le_of_ble_eq_true rfl) (c_failHere _ sK K (kR K (kR K p)) hS2.2.1 4) (Nat.le_refl _) (Nat.le_refl _) (Nat.le_refl _) (Nat.le_refl _) ?_
            rintro _ _ ⟨rfl, rfl⟩
            refine z_zret dX8_readMix_125 rfl (by first | omega | exact zb01 _) rfl ?_
            exact rOut_bad0 t3 hS2 g2 hO (show pMix K c p = (4, (kR K (kR K p)), c, p) by unfold pMix; rw [if_neg (by omega), if_neg (fun h => h uA), if_neg (by omega), if_neg (by omega), if_neg (fun h => h uB), if_neg (by omega), if_pos (fun h => by obtain ⟨x1, x2, x3, x4⟩ := h; have := zb_iff01 x3; omega)]) (by decide)
          · refine z_aload_n dX8_readMix_76 rfl ?_
            refine z_gP 2 rfl (r := t + 3) flX8_92 dX8_readMix_77 (sT0 sT) rfl (pT2 hS2.2.2.1) (by omega) ?_
            refine z_iload_n dX8_readMix_80 rfl ?_
            refine z_zald dX8_readMix_81 (sT3 sT) (by omega) (by omega) ?_
            rw [(hS2.2.2.2.1.2.2.2.1 (cFld c (kW K (kR K p))) (by omega) ltA).2.2]
            refine z_aload_n dX8_readMix_82 rfl ?_
            refine z_gP 2 rfl (r := t + 3) flX8_92 dX8_readMix_83 (sT0 sT) rfl (pT2 hS2.2.2.1) (by omega) ?_
            refine z_iload dX8_readMix_86 rfl ?_
            refine z_zald dX8_readMix_88 (sT3 sT) (by omega) (by omega) ?_
            rw [(hS2.2.2.2.1.2.2.2.1 (cFld c (kW K (kR K (kR K p)))) (by omega) ltB).2.2]
            refine z_icmp_eq (tgt := 96) dX8_readMix_89 rfl (fun h89 => ?_) (fun h89 => ?_)
            · refine z_iconst dX8_readMix_96 (by decide) ?_
              refine z_istore dX8_readMix_97 (Nat.le_of_ble_eq_true rfl) ?_
              refine z_iload dX8_readMix_99 rfl ?_
              try dsimp only [zs0, zsI, zsP, zsN, zsJ, zsS, zst2, Nat.reduceAdd]
              refine z_if_ne (tgt := 120) dX8_readMix_101 rfl (fun h => absurd h (by decide)) (fun h101 => ?_)
              refine z_iload_n dX8_readMix_104 rfl ?_
              refine z_iload dX8_readMix_105 rfl ?_
              refine z_icmp_eq (tgt := 120) dX8_readMix_107 rfl (fun h107 => ?_) (fun h107 => ?_)
              · refine z_aload_n dX8_readMix_120 rfl ?_
                refine z_iconst dX8_readMix_121 (by decide) ?_
                refine z_callV mlX8_50 dX8_readMix_122 sK.1 (av := [_]) rfl rfl (Nat.le_of_ble_eq_true rfl) (c_failHere _ sK K (kR K (kR K p)) hS2.2.1 4) (Nat.le_refl _) (Nat.le_refl _) (Nat.le_refl _) (Nat.le_refl _) ?_
                rintro _ _ ⟨rfl, rfl⟩
                refine z_zret dX8_readMix_125 rfl (by first | omega | exact zb01 _) rfl ?_
                exact rOut_bad0 t3 hS2 g2 hO (show pMix K c p = (4, (kR K (kR K p)), c, p) by unfold pMix; rw [if_neg (by omega), if_neg (fun h => h uA), if_neg (by omega), if_neg (by omega), if_neg (fun h => h uB), if_neg (by omega), if_pos (fun h => by obtain ⟨x1, x2, x3, x4⟩ := h; have := zb_iff01 x3; omega)]) (by decide)
              · refine z_aload_n dX8_readMix_110 rfl ?_
                refine z_iload_n dX8_readMix_111 rfl ?_
                refine z_iload dX8_readMix_112 rfl ?_
                refine z_callV mlX8_95 dX8_readMix_114 (sT0 sT) (av := [_, _]) rfl rfl (Nat.le_of_ble_eq_true rfl) (c_mixOf _ t (by omega) sT hS2.2.2.1 c hw hS2.2.2.2.1 (cFld c (kW K (kR K p))) (cFld c (kW K (kR K (kR K p))))) (Nat.le_refl _) (Nat.le_refl _) (Nat.le_refl _) (Nat.le_refl _) ?_
                rintro _ _ ⟨rfl, rfl⟩
                refine z_if_lt (tgt := 126) dX8_readMix_117 rfl (fun h117 => ?_) (fun h117 => ?_)
                · refine z_aload_n dX8_readMix_126 rfl ?_
                  refine z_callV mlX8_54 dX8_readMix_127 sK.1 (av := _) rfl rfl (Nat.le_of_ble_eq_true rfl) (c_next _ sK K hS2.1 (kR K (kR K p)) hS2.2.1 (by have := uB.1; omega)) (Nat.le_refl _) (Nat.le_refl _) (Nat.le_refl _) (Nat.le_refl _) ?_
                  rintro _ y3 ⟨rfl, f3, a3⟩
                  have hS3 := rS_tk hS2 f3 a3 t3
                  have g3 := fRT_tk g2 f3
                  refine z_aload_n dX8_readMix_130 rfl ?_
                  refine z_iload_n dX8_readMix_131 rfl ?_
                  refine z_iload dX8_readMix_132 rfl ?_
                  refine z_callV mlX8_99 dX8_readMix_134 (sT0 sT) (av := [_, _]) rfl rfl (Nat.le_of_ble_eq_true rfl) (c_addMix _ t (by omega) sT hS3.2.2.1 c hw hS3.2.2.2.1 _ _ (by omega)) (Nat.le_refl _) (Nat.le_refl _) (Nat.le_refl _) (Nat.le_refl _) ?_
                  rintro _ m9 ⟨rfl, f9, p9, c9, n9⟩
                  refine z_iconst dX8_readMix_137 (by decide) ?_
                  refine z_zret dX8_readMix_138 rfl (by first | omega | exact zb01 _) rfl ?_
                  have e : pMix K c p = (0, 0, cAddM c (cFld c (kW K (kR K p))) (cFld c (kW K (kR K (kR K p)))), kR K (kR K (kR K p))) := by unfold pMix; rw [if_neg (by omega), if_neg (fun h => h uA), if_neg (by omega), if_neg (by omega), if_neg (fun h => h uB), if_neg (by omega), if_neg (fun h => h ⟨by omega, by omega, zb_congr (by omega), by omega⟩)]
                  exact rOut_ok e (fRT_th g3 f9) (by have := rS_th hS3 t3 f9 p9 c9 n9 (wfD_of (by have q := pMix_ok hS0.1.1 hI (by rw [e]); rw [e] at q; exact q.1.1)); rw [← cAddM_pre (f := _) (g := _) (by omega)] at this; exact this)
                · refine z_aload_n dX8_readMix_120 rfl ?_
                  refine z_iconst dX8_readMix_121 (by decide) ?_
                  refine z_callV mlX8_50 dX8_readMix_122 sK.1 (av := [_]) rfl rfl (Nat.le_of_ble_eq_true rfl) (c_failHere _ sK K (kR K (kR K p)) hS2.2.1 4) (Nat.le_refl _) (Nat.le_refl _) (Nat.le_refl _) (Nat.le_refl _) ?_
                  rintro _ _ ⟨rfl, rfl⟩
                  refine z_zret dX8_readMix_125 rfl (by first | omega | exact zb01 _) rfl ?_
                  exact rOut_bad0 t3 hS2 g2 hO (show pMix K c p = (4, (kR K (kR K p)), c, p) by unfold pMix; rw [if_neg (by omega), if_neg (fun h => h uA), if_neg (by omega), if_neg (by omega), if_neg (fun h => h uB), if_neg (by omega), if_pos (fun h => by obtain ⟨x1, x2, x3, x4⟩ := h; have := zb_iff01 x3; omega)]) (by decide)
            · refine z_iconst dX8_readMix_92 (by decide) ?_
              refine z_goto (tgt := 97) dX8_readMix_93 rfl ?_
              refine z_istore dX8_readMix_97 (Nat.le_of_ble_eq_true rfl) ?_
              refine z_iload dX8_readMix_99 rfl ?_
              try dsimp only [zs0, zsI, zsP, zsN, zsJ, zsS, zst2, Nat.reduceAdd]
              refine z_if_ne (tgt := 120) dX8_readMix_101 rfl (fun h101 => ?_) (fun h => absurd (by decide) h)
              refine z_aload_n dX8_readMix_120 rfl ?_
              refine z_iconst dX8_readMix_121 (by decide) ?_
              refine z_callV mlX8_50 dX8_readMix_122 sK.1 (av := [_]) rfl rfl (Nat.le_of_ble_eq_true rfl) (c_failHere _ sK K (kR K (kR K p)) hS2.2.1 4) (Nat.le_refl _) (Nat.le_refl _) (Nat.le_refl _) (Nat.le_refl _) ?_
              rintro _ _ ⟨rfl, rfl⟩
              refine z_zret dX8_readMix_125 rfl (by first | omega | exact zb01 _) rfl ?_
              exact rOut_bad0 t3 hS2 g2 hO (show pMix K c p = (4, (kR K (kR K p)), c, p) by unfold pMix; rw [if_neg (by omega), if_neg (fun h => h uA), if_neg (by omega), if_neg (by omega), if_neg (fun h => h uB), if_neg (by omega), if_pos (fun h => by obtain ⟨x1, x2, x3, x4⟩ := h; have := zb_iff01 x3; omega)]) (by decide)
        · refine z_istore dX8_readMix_57 (Nat.le_of_ble_eq_true rfl) ?_
          refine z_iload dX8_readMix_59 rfl ?_
          try dsimp only [zs0, zsI, zsP, zsN, zsJ, zsS, zst2, Nat.reduceAdd]
          refine z_if_ge (tgt := 66) dX8_readMix_61 rfl (fun h => absurd h (by decide)) (fun h61 => ?_)
          refine z_iconst dX8_readMix_64 (by decide) ?_
          refine z_zret dX8_readMix_65 rfl (by first | omega | exact zb01 _) rfl ?_
          exact rOut_bad0 t3 hS2 g2 hO (show pMix K c p = (kMis K (kR K (kR K p)), (kR K (kR K p)), c, p) by unfold pMix; rw [if_neg (by omega), if_neg (fun h => h uA), if_neg (by omega), if_neg (by omega), if_pos uB]) (kMis_ne)
        · refine z_istore dX8_readMix_57 (Nat.le_of_ble_eq_true rfl) ?_
          refine z_iload dX8_readMix_59 rfl ?_
          try dsimp only [zs0, zsI, zsP, zsN, zsJ, zsS, zst2, Nat.reduceAdd]
          refine z_if_ge (tgt := 66) dX8_readMix_61 rfl (fun h => absurd h (by omega)) (fun h61 => ?_)
          refine z_iconst dX8_readMix_64 (by decide) ?_
          refine z_zret dX8_readMix_65 rfl (by first | omega | exact zb01 _) rfl ?_
          exact rOut_bad0 t3 hS2 g2 hO (show pMix K c p = (3, (kR K (kR K p)), c, p) by unfold pMix; rw [if_neg (by omega), if_neg (fun h => h uA), if_neg (by omega), if_neg (by omega), if_neg (fun h => h uB), if_pos (by omega)]) (by decide)
      · refine z_aload_n dX8_readMix_41 rfl ?_
        refine z_iconst dX8_readMix_42 (by decide) ?_
        refine z_callV mlX8_50 dX8_readMix_43 sK.1 (av := [_]) rfl rfl (Nat.le_of_ble_eq_true rfl) (c_failHere _ sK K (kR K p) hS1.2.1 4) (Nat.le_refl _) (Nat.le_refl _) (Nat.le_refl _) (Nat.le_refl _) ?_
        rintro _ _ ⟨rfl, rfl⟩
        refine z_zret dX8_readMix_46 rfl (by first | omega | exact zb01 _) rfl ?_
        exact rOut_bad0 t3 hS1 g1 hO (show pMix K c p = (4, (kR K p), c, p) by unfold pMix; rw [if_neg (by omega), if_neg (fun h => h uA), if_neg (by omega), if_pos (by omega)]) (by decide)
    · refine z_ist 3 dX8_readMix_25 rfl (Nat.le_of_ble_eq_true rfl) ?_
      refine z_iload_n dX8_readMix_26 rfl ?_
      try dsimp only [zs0, zsI, zsP, zsN, zsJ, zsS, zst2, Nat.reduceAdd]
      refine z_if_ge (tgt := 32) dX8_readMix_27 rfl (fun h => absurd h (by decide)) (fun h27 => ?_)
      refine z_iconst dX8_readMix_30 (by decide) ?_
      refine z_zret dX8_readMix_31 rfl (by first | omega | exact zb01 _) rfl ?_
      exact rOut_bad0 t3 hS1 g1 hO (show pMix K c p = (kMis K (kR K p), (kR K p), c, p) by unfold pMix; rw [if_neg (by omega), if_pos uA]) (kMis_ne)
    · refine z_ist 3 dX8_readMix_25 rfl (Nat.le_of_ble_eq_true rfl) ?_
      refine z_iload_n dX8_readMix_26 rfl ?_
      try dsimp only [zs0, zsI, zsP, zsN, zsJ, zsS, zst2, Nat.reduceAdd]
      refine z_if_ge (tgt := 32) dX8_readMix_27 rfl (fun h => absurd h (by omega)) (fun h27 => ?_)
      refine z_iconst dX8_readMix_30 (by decide) ?_
      refine z_zret dX8_readMix_31 rfl (by first | omega | exact zb01 _) rfl ?_
      exact rOut_bad0 t3 hS1 g1 hO (show pMix K c p = (3, (kR K p), c, p) by unfold pMix; rw [if_neg (by omega), if_neg (fun h => h uA), if_pos (by omega)]) (by decide)
  · refine z_aload_n dX8_readMix_8 rfl ?_
    refine z_bipush dX8_readMix_9 rfl (by decide) ?_
    refine z_callV mlX8_50 dX8_readMix_11 sK.1 (av := [_]) rfl rfl (Nat.le_of_ble_eq_true rfl) (c_failHere _ sK K p hS0.2.1 6) (Nat.le_refl _) (Nat.le_refl _) (Nat.le_refl _) (Nat.le_refl _) ?_
    rintro _ _ ⟨rfl, rfl⟩
    refine z_zret dX8_readMix_14 rfl (by first | omega | exact zb01 _) rfl ?_
    exact rOut_bad0 t3 hS0 g0 hO (show pMix K c p = (6, p, c, p) by unfold pMix; rw [if_pos (by omega)]) (by decide)

theorem l_readRow (d : Nat) {E : zE} {m : zM} {P : Option zV → zM → Prop} (t : Int) (t3 : 3 < t) (sK : shK E) (sR : E.1 3 = (14, 0)) (sT : shT E t) (K : zK) (c0 : Int → Int) (hI : cInv c0) (hz : cMz c0) (h2 : c0 2 < 8) (ve no : Int) (hve : ve = 0 ∨ ve = 1) (hno : no = 0 ∨ no = 1) (o : Int) : ∀ (j : Nat) (n p : Int) (m1 : zM) (c : Int → Int), (0 ≤ n ∧ n ≤ 6) → (n + j = 7) → (cHalf c0 c n) → ((cPre c0 (c0 2).toNat) + n ≤ 12) → (rS m1 K t (cAddP c (32 + 9 * c0 2) n ve no) ((cPre c0 (c0 2).toNat) + n) p) → (zfr (fRT t) m m1) → (m1 (t + 6) (c0 2) = o) → (∀ r m', rOut1 m m' r K t (pRow K (32 + 9 * c0 2) (cPre c0 (c0 2).toNat) ve no j c n p) → P r m') → zA zX8_readRow (d + 4) E E P 3 [zP 3, zP 1, zP t, zP o, zI n, zN, zN] [] m1 E := by
  intro j
  induction j with
  | zero =>
    intro n p m1 c n0 hn hc hle hS0 g0 ho0 hP
    omega
  | succ j ih =>
    intro n p m1 c n0 hn hc hle hS0 g0 ho0 hP
    have b2c := hc.1
    have hwI := hI.1
    have w0 := hwI.1
    have w2 := hwI.2.2.1
    have hpp := cPre_nn (wfD_of hwI) (a := (c0 2).toNat) (by omega)
    have hOK := half_OK hI hz h2 hve hno hc (by omega) (by omega)
    have hfl : cFld (cAddP c (32 + 9 * c0 2) n ve no) (kW K p) = cFld c (kW K p) := cFld_eq (by rw [hc.1 0 (by omega)]; omega) (cAddP_off (by decide) (by omega)) (fun x q0 q1 => cAddP_off (by omega) (by omega))
    have hcl := cFld_lt0 (c := c) (v := kW K p) (by rw [hc.1 0 (by omega)]; exact w0.1)
    rw [hc.1 0 (by omega)] at hcl
    have hcf := fun h0 => hwI.2.2.2.1 (cFld c (kW K p)) h0 hcl
    refine z_iload dX8_readRow_3 rfl ?_
    refine z_bipush dX8_readRow_5 rfl (by decide) ?_
    refine z_icmp_gt (tgt := 136) dX8_readRow_7 rfl (fun h => absurd h (by omega)) (fun h7 => ?_)
    refine z_iload dX8_readRow_10 rfl ?_
    refine z_if_le (tgt := 26) dX8_readRow_12 rfl (fun h12 => ?_) (fun h12 => ?_)
    · refine z_aload_n dX8_readRow_26 rfl ?_
      refine z_aload_n dX8_readRow_27 rfl ?_
      refine z_aload_n dX8_readRow_28 rfl ?_
      refine z_callV mlX8_84 dX8_readRow_29 sR (av := [_, _]) rfl rfl (Nat.le_of_ble_eq_true rfl) (c_readKnown _ t t3 sK sR sT K (cAddP c (32 + 9 * c0 2) n ve no) _ p hS0) (Nat.le_refl _) (Nat.le_refl _) (Nat.le_refl _) (Nat.le_refl _) ?_
      rw [hfl]
      rintro r7 m7 (⟨uA, vA, rfl, rfl⟩ | ⟨uA, rfl, rfl⟩ | ⟨uA, vA, rfl, rfl⟩)
      · refine z_istore dX8_readRow_32 (Nat.le_of_ble_eq_true rfl) ?_
        refine z_iload dX8_readRow_34 rfl ?_
        try dsimp only [zs0, zsI, zsP, zsN, zsJ, zsS, zst2, Nat.reduceAdd]
        refine z_if_ge (tgt := 41) dX8_readRow_36 rfl (fun h36 => ?_) (fun h => absurd (by omega) h)
        refine z_iload dX8_readRow_41 rfl ?_
        refine z_bipush dX8_readRow_43 rfl (by decide) ?_
        refine z_icmp_ge (tgt := 57) dX8_readRow_45 rfl (fun h45 => ?_) (fun h45 => ?_)
        · refine z_aload_n dX8_readRow_57 rfl ?_
          refine z_bipush dX8_readRow_58 rfl (by decide) ?_
          refine z_callV mlX8_50 dX8_readRow_60 sK.1 (av := [_]) rfl rfl (Nat.le_of_ble_eq_true rfl) (c_failHere _ sK K p hS0.2.1 6) (Nat.le_refl _) (Nat.le_refl _) (Nat.le_refl _) (Nat.le_refl _) ?_
          rintro _ _ ⟨rfl, rfl⟩
          refine z_zret dX8_readRow_63 rfl (by first | omega | exact zb01 _) rfl ?_
          exact hP _ _ (rOut_bad1 t3 hS0 g0 hOK (by rw [pRow_s, if_neg (fun h => h.2 uA.1), if_neg (fun h => h uA), if_neg (by omega), if_pos (by omega)]; exact pEnd_ne (by decide)) (by decide))
        · refine z_aload_n dX8_readRow_48 rfl ?_
          refine z_gIv 14 rfl flX8_134 dX8_readRow_49 (sT0 sT) rfl hS0.2.2.2.2.1 ?_
          refine z_bipush dX8_readRow_52 rfl (by decide) ?_
          refine z_icmp_lt (tgt := 64) dX8_readRow_54 rfl (fun h54 => ?_) (fun h54 => ?_)
          · refine z_aload_n dX8_readRow_64 rfl ?_
            refine z_callV mlX8_54 dX8_readRow_65 sK.1 (av := _) rfl rfl (Nat.le_of_ble_eq_true rfl) (c_next _ sK K hS0.1 p hS0.2.1 (by have := uA.1; omega)) (Nat.le_refl _) (Nat.le_refl _) (Nat.le_refl _) (Nat.le_refl _) ?_
            rintro _ y1 ⟨rfl, f1, a1⟩
            have hS1 := rS_tk hS0 f1 a1 t3
            have g1 := fRT_tk g0 f1
            have ho1 : y1 (t + 6) (c0 2) = o := (fTk_at f1 (by omega)).trans ho0
            refine z_aload_n dX8_readRow_68 rfl ?_
            refine z_bipush dX8_readRow_69 rfl (by decide) ?_
            refine z_callV mlX8_131 dX8_readRow_71 sK.1 (av := [_]) rfl rfl (Nat.le_of_ble_eq_true rfl) (c_isSign _ sK K (kR K p) hS1.2.1 39) (Nat.le_refl _) (Nat.le_refl _) (Nat.le_refl _) (Nat.le_refl _) ?_
            rintro _ _ ⟨rfl, rfl⟩
            refine z_istore dX8_readRow_74 (Nat.le_of_ble_eq_true rfl) ?_
            refine z_iload dX8_readRow_76 rfl ?_
            try dsimp only [zs0, zsI, zsP, zsN, zsJ, zsS, zst2, Nat.reduceAdd]
            refine z_ifz_eq (tgt := 101) dX8_readRow_78 rfl (fun h78 => ?_) (fun h78 => ?_)
            · have hoo : y1 (t + 6) (c0 2) = o := ho1
              have hOo := pO sT hS1.2.2.1 (p := c0 2) (by omega) (by omega)
              rw [hoo] at hOo
              have hPt1 := hS1.2.2.2.1.2.2.2.2.2 (c0 2) (by omega) (by rw [cAddP_2, hc.1 2 (by omega)]; omega)
              refine z_aload_n dX8_readRow_101 rfl ?_
              refine z_iconst dX8_readRow_102 (by decide) ?_
              refine z_iload dX8_readRow_103 rfl ?_
              refine z_mul dX8_readRow_105 (by omega) ?_
              refine z_iload dX8_readRow_106 rfl ?_
              refine z_ifz_eq (tgt := 115) dX8_readRow_108 rfl (fun h108 => ?_) (fun h => absurd h h78)
              refine z_iconst dX8_readRow_115 (by decide) ?_
              refine z_add dX8_readRow_116 (by omega) ?_
              refine z_callV mlX8_137 dX8_readRow_117 hOo.1 (av := [_]) rfl rfl (Nat.le_of_ble_eq_true rfl) (c_addKind _ o (by omega) hOo.1 hOo.2.1 (by rw [← hoo]; exact (pO sT hS1.2.2.1 (p := c0 2) (by omega) (by omega)).2.2.1) (2 * cFld c (kW K p) + 0) n (by rw [← hoo]; exact hPt1.1.trans (cAddP_b (by omega))) (by omega) (by omega)) (Nat.le_refl _) (Nat.le_refl _) (Nat.le_refl _) (Nat.le_refl _) ?_
              rintro _ m8 ⟨rfl, e8⟩
              refine z_aload_n dX8_readRow_120 rfl ?_
              refine z_dup dX8_readRow_121 rfl ?_
              refine z_gIv (v := (cPre c0 (c0 2).toNat) + n) 14 rfl flX8_134 dX8_readRow_122 (sT0 sT) rfl (by rw [e8, zu_a (by omega), zu_a (by omega)]; exact hS1.2.2.2.2.1) ?_
              refine z_iconst dX8_readRow_125 (by decide) ?_
              refine z_add dX8_readRow_126 (by omega) ?_
              refine z_pI 14 rfl (fpX8_134 _) dX8_readRow_127 (sT0 sT) rfl ?_
              obtain ⟨m9, em9⟩ : ∃ x, x = zu m8 t 14 ((cPre c0 (c0 2).toNat) + n + 1) := ⟨_, rfl⟩
              rw [← em9]
              have hak := row_step (m9 := m9) t3 sT hI hz h2 hve hno hc (by omega) (by omega) (by omega) hS1 hoo (v := (2 * cFld c (kW K p) + 0)) (by omega) (by omega) (by rw [em9, e8])
              have hS9 := hak.1
              have g9 := fRT_th g1 hak.2.1
              have ho9 := hak.2.2
              refine z_inc dX8_readRow_130 rfl (by omega) ?_
              refine z_goto (tgt := 3) dX8_readRow_133 rfl ?_
              try dsimp only [zs0, zsI, zsP, zsN, zsJ, zsS, zst2, Nat.reduceAdd]
              have e : pRow K (32 + 9 * c0 2) (cPre c0 (c0 2).toNat) ve no (j + 1) c n p = pRow K (32 + 9 * c0 2) (cPre c0 (c0 2).toNat) ve no j (eU c ((32 + 9 * c0 2) + 3 + n) (2 * cFld c (kW K p) + 0)) (n + 1) (kR K p) := by
                rw [pRow_s, if_neg (fun h => h.2 uA.1), if_neg (fun h => h uA), if_neg (by omega), if_neg (by omega), if_neg (fun h => h78 h.1), if_neg h78, zb_f h78]
              rw [e] at hP
              refine zA_wk [_, _, _, _, _, zN, zN] (by exact ⟨Or.inr rfl, Or.inr rfl, Or.inr rfl, Or.inr rfl, Or.inr rfl, Or.inl rfl, Or.inl rfl, trivial⟩) ?_
              exact ih (n + 1) (kR K p) _ (eU c ((32 + 9 * c0 2) + 3 + n) (2 * cFld c (kW K p) + 0)) (by omega) (by omega) (half_next hc (by omega) (by omega) (by omega) (by omega)) (by omega) hS9 g9 ho9 hP
            · refine z_aload_n dX8_readRow_81 rfl ?_
              refine z_gP 1 rfl (r := t + 2) flX8_88 dX8_readRow_82 (sT0 sT) rfl (pT1 hS1.2.2.1) (by omega) ?_
              refine z_iload dX8_readRow_85 rfl ?_
              refine z_zald dX8_readRow_87 (sT2 sT) (by omega) (by omega) ?_
              rw [(hS1.2.2.2.1.2.2.2.1 (cFld c (kW K p)) (by omega) (by rw [cAddP_off (by decide) (by omega), hc.1 0 (by omega)]; exact hcl)).2.1, cAddP_off (by omega) (by omega)]
              refine z_if_ne (tgt := 97) dX8_readRow_88 rfl (fun h88 => ?_) (fun h88 => ?_)
              · refine z_aload_n dX8_readRow_97 rfl ?_
                refine z_callV mlX8_54 dX8_readRow_98 sK.1 (av := _) rfl rfl (Nat.le_of_ble_eq_true rfl) (c_next _ sK K hS1.1 (kR K p) hS1.2.1 (by have := h78.1; omega)) (Nat.le_refl _) (Nat.le_refl _) (Nat.le_refl _) (Nat.le_refl _) ?_
                rintro _ y2 ⟨rfl, f2, a2⟩
                have hS2 := rS_tk hS1 f2 a2 t3
                have g2 := fRT_tk g1 f2
                have ho2 : y2 (t + 6) (c0 2) = o := (fTk_at f2 (by omega)).trans ho1
                have hoo : y2 (t + 6) (c0 2) = o := ho2
                have hOo := pO sT hS2.2.2.1 (p := c0 2) (by omega) (by omega)
                rw [hoo] at hOo
                have hPt2 := hS2.2.2.2.1.2.2.2.2.2 (c0 2) (by omega) (by rw [cAddP_2, hc.1 2 (by omega)]; omega)
                refine z_aload_n dX8_readRow_101 rfl ?_
                refine z_iconst dX8_readRow_102 (by decide) ?_
                refine z_iload dX8_readRow_103 rfl ?_
                refine z_mul dX8_readRow_105 (by omega) ?_
                refine z_iload dX8_readRow_106 rfl ?_
                refine z_ifz_eq (tgt := 115) dX8_readRow_108 rfl (fun h => absurd h78 h) (fun h108 => ?_)
                refine z_iconst dX8_readRow_111 (by decide) ?_
                refine z_goto (tgt := 116) dX8_readRow_112 rfl ?_
                refine z_add dX8_readRow_116 (by omega) ?_
                refine z_callV mlX8_137 dX8_readRow_117 hOo.1 (av := [_]) rfl rfl (Nat.le_of_ble_eq_true rfl) (c_addKind _ o (by omega) hOo.1 hOo.2.1 (by rw [← hoo]; exact (pO sT hS2.2.2.1 (p := c0 2) (by omega) (by omega)).2.2.1) (2 * cFld c (kW K p) + 1) n (by rw [← hoo]; exact hPt2.1.trans (cAddP_b (by omega))) (by omega) (by omega)) (Nat.le_refl _) (Nat.le_refl _) (Nat.le_refl _) (Nat.le_refl _) ?_
                rintro _ m8 ⟨rfl, e8⟩
                refine z_aload_n dX8_readRow_120 rfl ?_
                refine z_dup dX8_readRow_121 rfl ?_
                refine z_gIv (v := (cPre c0 (c0 2).toNat) + n) 14 rfl flX8_134 dX8_readRow_122 (sT0 sT) rfl (by rw [e8, zu_a (by omega), zu_a (by omega)]; exact hS2.2.2.2.2.1) ?_
                refine z_iconst dX8_readRow_125 (by decide) ?_
                refine z_add dX8_readRow_126 (by omega) ?_
                refine z_pI 14 rfl (fpX8_134 _) dX8_readRow_127 (sT0 sT) rfl ?_
                obtain ⟨m9, em9⟩ : ∃ x, x = zu m8 t 14 ((cPre c0 (c0 2).toNat) + n + 1) := ⟨_, rfl⟩
                rw [← em9]
                have hak := row_step (m9 := m9) t3 sT hI hz h2 hve hno hc (by omega) (by omega) (by omega) hS2 hoo (v := (2 * cFld c (kW K p) + 1)) (by omega) (by omega) (by rw [em9, e8])
                have hS9 := hak.1
                have g9 := fRT_th g2 hak.2.1
                have ho9 := hak.2.2
                refine z_inc dX8_readRow_130 rfl (by omega) ?_
                refine z_goto (tgt := 3) dX8_readRow_133 rfl ?_
                try dsimp only [zs0, zsI, zsP, zsN, zsJ, zsS, zst2, Nat.reduceAdd]
                have e : pRow K (32 + 9 * c0 2) (cPre c0 (c0 2).toNat) ve no (j + 1) c n p = pRow K (32 + 9 * c0 2) (cPre c0 (c0 2).toNat) ve no j (eU c ((32 + 9 * c0 2) + 3 + n) (2 * cFld c (kW K p) + 1)) (n + 1) (kR K (kR K p)) := by
                  rw [pRow_s, if_neg (fun h => h.2 uA.1), if_neg (fun h => h uA), if_neg (by omega), if_neg (by omega), if_neg (fun h => h.2 (by have := hcf (by omega); have := b2c (4 + 3 * cFld c (kW K p) + 1) (by omega); omega)), if_pos h78, zb_t h78]
                rw [e] at hP
                refine zA_wk [_, _, _, _, _, zN, zN] (by exact ⟨Or.inr rfl, Or.inr rfl, Or.inr rfl, Or.inr rfl, Or.inr rfl, Or.inl rfl, Or.inl rfl, trivial⟩) ?_
                exact ih (n + 1) (kR K (kR K p)) _ (eU c ((32 + 9 * c0 2) + 3 + n) (2 * cFld c (kW K p) + 1)) (by omega) (by omega) (half_next hc (by omega) (by omega) (by omega) (by omega)) (by omega) hS9 g9 ho9 hP
              · refine z_aload_n dX8_readRow_91 rfl ?_
                refine z_iconst dX8_readRow_92 (by decide) ?_
                refine z_callV mlX8_50 dX8_readRow_93 sK.1 (av := [_]) rfl rfl (Nat.le_of_ble_eq_true rfl) (c_failHere _ sK K (kR K p) hS1.2.1 4) (Nat.le_refl _) (Nat.le_refl _) (Nat.le_refl _) (Nat.le_refl _) ?_
                rintro _ _ ⟨rfl, rfl⟩
                refine z_zret dX8_readRow_96 rfl (by first | omega | exact zb01 _) rfl ?_
                exact hP _ _ (rOut_bad1 t3 hS1 g1 hOK (by rw [pRow_s, if_neg (fun h => h.2 uA.1), if_neg (fun h => h uA), if_neg (by omega), if_neg (by omega), if_pos ⟨h78, by omega⟩]; exact pEnd_ne (by decide)) (by decide))
          · refine z_aload_n dX8_readRow_57 rfl ?_
            refine z_bipush dX8_readRow_58 rfl (by decide) ?_
            refine z_callV mlX8_50 dX8_readRow_60 sK.1 (av := [_]) rfl rfl (Nat.le_of_ble_eq_true rfl) (c_failHere _ sK K p hS0.2.1 6) (Nat.le_refl _) (Nat.le_refl _) (Nat.le_refl _) (Nat.le_refl _) ?_
            rintro _ _ ⟨rfl, rfl⟩
            refine z_zret dX8_readRow_63 rfl (by first | omega | exact zb01 _) rfl ?_
            exact hP _ _ (rOut_bad1 t3 hS0 g0 hOK (by rw [pRow_s, if_neg (fun h => h.2 uA.1), if_neg (fun h => h uA), if_neg (by omega), if_pos (by omega)]; exact pEnd_ne (by decide)) (by decide))
      · refine z_istore dX8_readRow_32 (Nat.le_of_ble_eq_true rfl) ?_
        refine z_iload dX8_readRow_34 rfl ?_
        try dsimp only [zs0, zsI, zsP, zsN, zsJ, zsS, zst2, Nat.reduceAdd]
        refine z_if_ge (tgt := 41) dX8_readRow_36 rfl (fun h => absurd h (by decide)) (fun h36 => ?_)
        refine z_iconst dX8_readRow_39 (by decide) ?_
        refine z_zret dX8_readRow_40 rfl (by first | omega | exact zb01 _) rfl ?_
        exact hP _ _ (rOut_bad1 t3 hS0 g0 hOK (by rw [pRow_s, if_neg (fun h => h.1 (by omega)), if_pos uA]; exact pEnd_ne (kMis_ne)) (kMis_ne))
      · refine z_istore dX8_readRow_32 (Nat.le_of_ble_eq_true rfl) ?_
        refine z_iload dX8_readRow_34 rfl ?_
        try dsimp only [zs0, zsI, zsP, zsN, zsJ, zsS, zst2, Nat.reduceAdd]
        refine z_if_ge (tgt := 41) dX8_readRow_36 rfl (fun h => absurd h (by omega)) (fun h36 => ?_)
        refine z_iconst dX8_readRow_39 (by decide) ?_
        refine z_zret dX8_readRow_40 rfl (by first | omega | exact zb01 _) rfl ?_
        exact hP _ _ (rOut_bad1 t3 hS0 g0 hOK (by rw [pRow_s, if_neg (fun h => h.2 uA.1), if_neg (fun h => h uA), if_pos (by omega)]; exact pEnd_ne (by decide)) (by decide))
    · refine z_aload_n dX8_readRow_15 rfl ?_
      refine z_bipush dX8_readRow_16 rfl (by decide) ?_
      refine z_callV mlX8_131 dX8_readRow_18 sK.1 (av := [_]) rfl rfl (Nat.le_of_ble_eq_true rfl) (c_isSign _ sK K p hS0.2.1 59) (Nat.le_refl _) (Nat.le_refl _) (Nat.le_refl _) (Nat.le_refl _) ?_
      rintro _ _ ⟨rfl, rfl⟩
      refine z_ifz_eq (tgt := 26) dX8_readRow_21 rfl (fun h21 => ?_) (fun h21 => ?_)
      · refine z_aload_n dX8_readRow_26 rfl ?_
        refine z_aload_n dX8_readRow_27 rfl ?_
        refine z_aload_n dX8_readRow_28 rfl ?_
        refine z_callV mlX8_84 dX8_readRow_29 sR (av := [_, _]) rfl rfl (Nat.le_of_ble_eq_true rfl) (c_readKnown _ t t3 sK sR sT K (cAddP c (32 + 9 * c0 2) n ve no) _ p hS0) (Nat.le_refl _) (Nat.le_refl _) (Nat.le_refl _) (Nat.le_refl _) ?_
        rw [hfl]
        rintro r7 m7 (⟨uA, vA, rfl, rfl⟩ | ⟨uA, rfl, rfl⟩ | ⟨uA, vA, rfl, rfl⟩)
        · refine z_istore dX8_readRow_32 (Nat.le_of_ble_eq_true rfl) ?_
          refine z_iload dX8_readRow_34 rfl ?_
          try dsimp only [zs0, zsI, zsP, zsN, zsJ, zsS, zst2, Nat.reduceAdd]
          refine z_if_ge (tgt := 41) dX8_readRow_36 rfl (fun h36 => ?_) (fun h => absurd (by omega) h)
          refine z_iload dX8_readRow_41 rfl ?_
          refine z_bipush dX8_readRow_43 rfl (by decide) ?_
          refine z_icmp_ge (tgt := 57) dX8_readRow_45 rfl (fun h45 => ?_) (fun h45 => ?_)
          · refine z_aload_n dX8_readRow_57 rfl ?_
            refine z_bipush dX8_readRow_58 rfl (by decide) ?_
            refine z_callV mlX8_50 dX8_readRow_60 sK.1 (av := [_]) rfl rfl (Nat.le_of_ble_eq_true rfl) (c_failHere _ sK K p hS0.2.1 6) (Nat.le_refl _) (Nat.le_refl _) (Nat.le_refl _) (Nat.le_refl _) ?_
            rintro _ _ ⟨rfl, rfl⟩
            refine z_zret dX8_readRow_63 rfl (by first | omega | exact zb01 _) rfl ?_
            exact hP _ _ (rOut_bad1 t3 hS0 g0 hOK (by rw [pRow_s, if_neg (fun h => h.2 uA.1), if_neg (fun h => h uA), if_neg (by omega), if_pos (by omega)]; exact pEnd_ne (by decide)) (by decide))
          · refine z_aload_n dX8_readRow_48 rfl ?_
            refine z_gIv 14 rfl flX8_134 dX8_readRow_49 (sT0 sT) rfl hS0.2.2.2.2.1 ?_
            refine z_bipush dX8_readRow_52 rfl (by decide) ?_
            refine z_icmp_lt (tgt := 64) dX8_readRow_54 rfl (fun h54 => ?_) (fun h54 => ?_)
            · refine z_aload_n dX8_readRow_64 rfl ?_
              refine z_callV mlX8_54 dX8_readRow_65 sK.1 (av := _) rfl rfl (Nat.le_of_ble_eq_true rfl) (c_next _ sK K hS0.1 p hS0.2.1 (by have := uA.1; omega)) (Nat.le_refl _) (Nat.le_refl _) (Nat.le_refl _) (Nat.le_refl _) ?_
              rintro _ y1 ⟨rfl, f1, a1⟩
              have hS1 := rS_tk hS0 f1 a1 t3
              have g1 := fRT_tk g0 f1
              have ho1 : y1 (t + 6) (c0 2) = o := (fTk_at f1 (by omega)).trans ho0
              refine z_aload_n dX8_readRow_68 rfl ?_
              refine z_bipush dX8_readRow_69 rfl (by decide) ?_
              refine z_callV mlX8_131 dX8_readRow_71 sK.1 (av := [_]) rfl rfl (Nat.le_of_ble_eq_true rfl) (c_isSign _ sK K (kR K p) hS1.2.1 39) (Nat.le_refl _) (Nat.le_refl _) (Nat.le_refl _) (Nat.le_refl _) ?_
              rintro _ _ ⟨rfl, rfl⟩
              refine z_istore dX8_readRow_74 (Nat.le_of_ble_eq_true rfl) ?_
              refine z_iload dX8_readRow_76 rfl ?_
              try dsimp only [zs0, zsI, zsP, zsN, zsJ, zsS, zst2, Nat.reduceAdd]
              refine z_ifz_eq (tgt := 101) dX8_readRow_78 rfl (fun h78 => ?_) (fun h78 => ?_)
              · have hoo : y1 (t + 6) (c0 2) = o := ho1
                have hOo := pO sT hS1.2.2.1 (p := c0 2) (by omega) (by omega)
                rw [hoo] at hOo
                have hPt1 := hS1.2.2.2.1.2.2.2.2.2 (c0 2) (by omega) (by rw [cAddP_2, hc.1 2 (by omega)]; omega)
                refine z_aload_n dX8_readRow_101 rfl ?_
                refine z_iconst dX8_readRow_102 (by decide) ?_
                refine z_iload dX8_readRow_103 rfl ?_
                refine z_mul dX8_readRow_105 (by omega) ?_
                refine z_iload dX8_readRow_106 rfl ?_
                refine z_ifz_eq (tgt := 115) dX8_readRow_108 rfl (fun h108 => ?_) (fun h => absurd h h78)
                refine z_iconst dX8_readRow_115 (by decide) ?_
                refine z_add dX8_readRow_116 (by omega) ?_
                refine z_callV mlX8_137 dX8_readRow_117 hOo.1 (av := [_]) rfl rfl (Nat.le_of_ble_eq_true rfl) (c_addKind _ o (by omega) hOo.1 hOo.2.1 (by rw [← hoo]; exact (pO sT hS1.2.2.1 (p := c0 2) (by omega) (by omega)).2.2.1) (2 * cFld c (kW K p) + 0) n (by rw [← hoo]; exact hPt1.1.trans (cAddP_b (by omega))) (by omega) (by omega)) (Nat.le_refl _) (Nat.le_refl _) (Nat.le_refl _) (Nat.le_refl _) ?_
                rintro _ m8 ⟨rfl, e8⟩
                refine z_aload_n dX8_readRow_120 rfl ?_
                refine z_dup dX8_readRow_121 rfl ?_
                refine z_gIv (v := (cPre c0 (c0 2).toNat) + n) 14 rfl flX8_134 dX8_readRow_122 (sT0 sT) rfl (by rw [e8, zu_a (by omega), zu_a (by omega)]; exact hS1.2.2.2.2.1) ?_
                refine z_iconst dX8_readRow_125 (by decide) ?_
                refine z_add dX8_readRow_126 (by omega) ?_
                refine z_pI 14 rfl (fpX8_134 _) dX8_readRow_127 (sT0 sT) rfl ?_
                obtain ⟨m9, em9⟩ : ∃ x, x = zu m8 t 14 ((cPre c0 (c0 2).toNat) + n + 1) := ⟨_, rfl⟩
                rw [← em9]
                have hak := row_step (m9 := m9) t3 sT hI hz h2 hve hno hc (by omega) (by omega) (by omega) hS1 hoo (v := (2 * cFld c (kW K p) + 0)) (by omega) (by omega) (by rw [em9, e8])
                have hS9 := hak.1
                have g9 := fRT_th g1 hak.2.1
                have ho9 := hak.2.2
                refine z_inc dX8_readRow_130 rfl (by omega) ?_
                refine z_goto (tgt := 3) dX8_readRow_133 rfl ?_
                try dsimp only [zs0, zsI, zsP, zsN, zsJ, zsS, zst2, Nat.reduceAdd]
                have e : pRow K (32 + 9 * c0 2) (cPre c0 (c0 2).toNat) ve no (j + 1) c n p = pRow K (32 + 9 * c0 2) (cPre c0 (c0 2).toNat) ve no j (eU c ((32 + 9 * c0 2) + 3 + n) (2 * cFld c (kW K p) + 0)) (n + 1) (kR K p) := by
                  rw [pRow_s, if_neg (fun h => h.2 uA.1), if_neg (fun h => h uA), if_neg (by omega), if_neg (by omega), if_neg (fun h => h78 h.1), if_neg h78, zb_f h78]
                rw [e] at hP
                refine zA_wk [_, _, _, _, _, zN, zN] (by exact ⟨Or.inr rfl, Or.inr rfl, Or.inr rfl, Or.inr rfl, Or.inr rfl, Or.inl rfl, Or.inl rfl, trivial⟩) ?_
                exact ih (n + 1) (kR K p) _ (eU c ((32 + 9 * c0 2) + 3 + n) (2 * cFld c (kW K p) + 0)) (by omega) (by omega) (half_next hc (by omega) (by omega) (by omega) (by omega)) (by omega) hS9 g9 ho9 hP
              · refine z_aload_n dX8_readRow_81 rfl ?_
                refine z_gP 1 rfl (r := t + 2) flX8_88 dX8_readRow_82 (sT0 sT) rfl (pT1 hS1.2.2.1) (by omega) ?_
                refine z_iload dX8_readRow_85 rfl ?_
                refine z_zald dX8_readRow_87 (sT2 sT) (by omega) (by omega) ?_
                rw [(hS1.2.2.2.1.2.2.2.1 (cFld c (kW K p)) (by omega) (by rw [cAddP_off (by decide) (by omega), hc.1 0 (by omega)]; exact hcl)).2.1, cAddP_off (by omega) (by omega)]
                refine z_if_ne (tgt := 97) dX8_readRow_88 rfl (fun h88 => ?_) (fun h88 => ?_)
                · refine z_aload_n dX8_readRow_97 rfl ?_
                  refine z_callV mlX8_54 dX8_readRow_98 sK.1 (av := _) rfl rfl (Nat.le_of_ble_eq_true rfl) (c_next _ sK K hS1.1 (kR K p) hS1.2.1 (by have := h78.1; omega)) (Nat.le_refl _) (Nat.le_refl _) (Nat.le_refl _) (Nat.le_refl _) ?_
                  rintro _ y2 ⟨rfl, f2, a2⟩
                  have hS2 := rS_tk hS1 f2 a2 t3
                  have g2 := fRT_tk g1 f2
                  have ho2 : y2 (t + 6) (c0 2) = o := (fTk_at f2 (by omega)).trans ho1
                  have hoo : y2 (t + 6) (c0 2) = o := ho2
                  have hOo := pO sT hS2.2.2.1 (p := c0 2) (by omega) (by omega)
                  rw [hoo] at hOo
                  have hPt2 := hS2.2.2.2.1.2.2.2.2.2 (c0 2) (by omega) (by rw [cAddP_2, hc.1 2 (by omega)]; omega)
                  refine z_aload_n dX8_readRow_101 rfl ?_
                  refine z_iconst dX8_readRow_102 (by decide) ?_
                  refine z_iload dX8_readRow_103 rfl ?_
                  refine z_mul dX8_readRow_105 (by omega) ?_
                  refine z_iload dX8_readRow_106 rfl ?_
                  refine z_ifz_eq (tgt := 115) dX8_readRow_108 rfl (fun h => absurd h78 h) (fun h108 => ?_)
                  refine z_iconst dX8_readRow_111 (by decide) ?_
                  refine z_goto (tgt := 116) dX8_readRow_112 rfl ?_
                  refine z_add dX8_readRow_116 (by omega) ?_
                  refine z_callV mlX8_137 dX8_readRow_117 hOo.1 (av := [_]) rfl rfl (Nat.le_of_ble_eq_true rfl) (c_addKind _ o (by omega) hOo.1 hOo.2.1 (by rw [← hoo]; exact (pO sT hS2.2.2.1 (p := c0 2) (by omega) (by omega)).2.2.1) (2 * cFld c (kW K p) + 1) n (by rw [← hoo]; exact hPt2.1.trans (cAddP_b (by omega))) (by omega) (by omega)) (Nat.le_refl _) (Nat.le_refl _) (Nat.le_refl _) (Nat.le_refl _) ?_
                  rintro _ m8 ⟨rfl, e8⟩
                  refine z_aload_n dX8_readRow_120 rfl ?_
                  refine z_dup dX8_readRow_121 rfl ?_
                  refine z_gIv (v := (cPre c0 (c0 2).toNat) + n) 14 rfl flX8_134 dX8_readRow_122 (sT0 sT) rfl (by rw [e8, zu_a (by omega), zu_a (by omega)]; exact hS2.2.2.2.2.1) ?_
                  refine z_iconst dX8_readRow_125 (by decide) ?_
                  refine z_add dX8_readRow_126 (by omega) ?_
                  refine z_pI 14 rfl (fpX8_134 _) dX8_readRow_127 (sT0 sT) rfl ?_
                  obtain ⟨m9, em9⟩ : ∃ x, x = zu m8 t 14 ((cPre c0 (c0 2).toNat) + n + 1) := ⟨_, rfl⟩
                  rw [← em9]
                  have hak := row_step (m9 := m9) t3 sT hI hz h2 hve hno hc (by omega) (by omega) (by omega) hS2 hoo (v := (2 * cFld c (kW K p) + 1)) (by omega) (by omega) (by rw [em9, e8])
                  have hS9 := hak.1
                  have g9 := fRT_th g2 hak.2.1
                  have ho9 := hak.2.2
                  refine z_inc dX8_readRow_130 rfl (by omega) ?_
                  refine z_goto (tgt := 3) dX8_readRow_133 rfl ?_
                  try dsimp only [zs0, zsI, zsP, zsN, zsJ, zsS, zst2, Nat.reduceAdd]
                  have e : pRow K (32 + 9 * c0 2) (cPre c0 (c0 2).toNat) ve no (j + 1) c n p = pRow K (32 + 9 * c0 2) (cPre c0 (c0 2).toNat) ve no j (eU c ((32 + 9 * c0 2) + 3 + n) (2 * cFld c (kW K p) + 1)) (n + 1) (kR K (kR K p)) := by
                    rw [pRow_s, if_neg (fun h => h.2 uA.1), if_neg (fun h => h uA), if_neg (by omega), if_neg (by omega), if_neg (fun h => h.2 (by have := hcf (by omega); have := b2c (4 + 3 * cFld c (kW K p) + 1) (by omega); omega)), if_pos h78, zb_t h78]
                  rw [e] at hP
                  refine zA_wk [_, _, _, _, _, zN, zN] (by exact ⟨Or.inr rfl, Or.inr rfl, Or.inr rfl, Or.inr rfl, Or.inr rfl, Or.inl rfl, Or.inl rfl, trivial⟩) ?_
                  exact ih (n + 1) (kR K (kR K p)) _ (eU c ((32 + 9 * c0 2) + 3 + n) (2 * cFld c (kW K p) + 1)) (by omega) (by omega) (half_next hc (by omega) (by omega) (by omega) (by omega)) (by omega) hS9 g9 ho9 hP
                · refine z_aload_n dX8_readRow_91 rfl ?_
                  refine z_iconst dX8_readRow_92 (by decide) ?_
                  refine z_callV mlX8_50 dX8_readRow_93 sK.1 (av := [_]) rfl rfl (Nat.le_of_ble_eq_true rfl) (c_failHere _ sK K (kR K p) hS1.2.1 4) (Nat.le_refl _) (Nat.le_refl _) (Nat.le_refl _) (Nat.le_refl _) ?_
                  rintro _ _ ⟨rfl, rfl⟩
                  refine z_zret dX8_readRow_96 rfl (by first | omega | exact zb01 _) rfl ?_
                  exact hP _ _ (rOut_bad1 t3 hS1 g1 hOK (by rw [pRow_s, if_neg (fun h => h.2 uA.1), if_neg (fun h => h uA), if_neg (by omega), if_neg (by omega), if_pos ⟨h78, by omega⟩]; exact pEnd_ne (by decide)) (by decide))
            · refine z_aload_n dX8_readRow_57 rfl ?_
              refine z_bipush dX8_readRow_58 rfl (by decide) ?_
              refine z_callV mlX8_50 dX8_readRow_60 sK.1 (av := [_]) rfl rfl (Nat.le_of_ble_eq_true rfl) (c_failHere _ sK K p hS0.2.1 6) (Nat.le_refl _) (Nat.le_refl _) (Nat.le_refl _) (Nat.le_refl _) ?_
              rintro _ _ ⟨rfl, rfl⟩
              refine z_zret dX8_readRow_63 rfl (by first | omega | exact zb01 _) rfl ?_
              exact hP _ _ (rOut_bad1 t3 hS0 g0 hOK (by rw [pRow_s, if_neg (fun h => h.2 uA.1), if_neg (fun h => h uA), if_neg (by omega), if_pos (by omega)]; exact pEnd_ne (by decide)) (by decide))
        · refine z_istore dX8_readRow_32 (Nat.le_of_ble_eq_true rfl) ?_
          refine z_iload dX8_readRow_34 rfl ?_
          try dsimp only [zs0, zsI, zsP, zsN, zsJ, zsS, zst2, Nat.reduceAdd]
          refine z_if_ge (tgt := 41) dX8_readRow_36 rfl (fun h => absurd h (by decide)) (fun h36 => ?_)
          refine z_iconst dX8_readRow_39 (by decide) ?_
          refine z_zret dX8_readRow_40 rfl (by first | omega | exact zb01 _) rfl ?_
          by_cases q : n ≠ 0 ∧ kSo K p ≠ 1
          · exact hP _ _ (rOut_bad1 t3 hS0 g0 hOK (by rw [pRow_s, if_pos q]; unfold pEnd; rw [if_neg (fun h => h rfl), if_neg h21]) kMis_ne)
          · exact hP _ _ (rOut_bad1 t3 hS0 g0 hOK (by rw [pRow_s, if_neg q, if_pos uA]; exact pEnd_ne kMis_ne) kMis_ne)
        · refine z_istore dX8_readRow_32 (Nat.le_of_ble_eq_true rfl) ?_
          refine z_iload dX8_readRow_34 rfl ?_
          try dsimp only [zs0, zsI, zsP, zsN, zsJ, zsS, zst2, Nat.reduceAdd]
          refine z_if_ge (tgt := 41) dX8_readRow_36 rfl (fun h => absurd h (by omega)) (fun h36 => ?_)
          refine z_iconst dX8_readRow_39 (by decide) ?_
          refine z_zret dX8_readRow_40 rfl (by first | omega | exact zb01 _) rfl ?_
          exact hP _ _ (rOut_bad1 t3 hS0 g0 hOK (by rw [pRow_s, if_neg (fun h => h.2 uA.1), if_neg (fun h => h uA), if_pos (by omega)]; exact pEnd_ne (by decide)) (by decide))
      · refine z_iconst dX8_readRow_24 (by decide) ?_
        refine z_zret dX8_readRow_25 rfl (by first | omega | exact zb01 _) rfl ?_
        refine hP _ _ (rOut_ok1 (by rw [pRow_s, if_pos ⟨by omega, by have := h21.1; omega⟩]) g0 ?_)
        rw [half_pre hI hc h2 (by omega)]
        exact hS0

theorem c_readRow (d : Nat) {E : zE} {m : zM} (t : Int) (t3 : 3 < t) (sK : shK E) (sR : E.1 3 = (14, 0)) (sT : shT E t) (K : zK) (c0 : Int → Int) (hI : cInv c0) (hz : cMz c0) (h2 : c0 2 < 8) (ve no : Int) (hve : ve = 0 ∨ ve = 1) (hno : no = 0 ∨ no = 1) (o : Int) (p : Int) (hS0 : rS m K t (cAddP c0 (32 + 9 * c0 2) 0 ve no) (cPre c0 (c0 2).toNat) p) (ho : m (t + 6) (c0 2) = o) : zR zX8_readRow (d + 4) [zP 3, zP 1, zP t, zP o] m E E (fun r m' => rOut1 m m' r K t (pRow K (32 + 9 * c0 2) (cPre c0 (c0 2).toNat) ve no 7 c0 0 p)) := by
  refine zR_go [zP 3, zP 1, zP t, zP o, zN, zN, zN] (by decide +kernel) (Nat.le_of_ble_eq_true rfl) rfl rfl ?_
  refine z_iconst dX8_readRow_0 (by decide) ?_
  refine z_istore dX8_readRow_1 (Nat.le_of_ble_eq_true rfl) ?_
  try dsimp only [zs0, zsI, zsP, zsN, zsJ, zsS, zst2, Nat.reduceAdd]
  exact l_readRow d t t3 sK sR sT K c0 hI hz h2 ve no hve hno o 7 0 p m c0 (by omega) (by omega) half_0 (by have := hI.2.1; omega) (by rw [Int.add_zero]; exact hS0) zfr_rf ho (fun r m' h => h)

theorem c_readPoint (d : Nat) {E : zE} {m : zM} (t : Int) (t3 : 3 < t) (sK : shK E) (sR : E.1 3 = (14, 0)) (sT : shT E t) (K : zK) (c : Int → Int) (p : Int) (hI : cInv c) (hz : cMz c) (hS0 : rS m K t c (cPre c (c 2).toNat) p) : zR zX8_readPoint (d + 5) [zP 3, zP 1, zP t] m E E (fun r m' => rOut1 m m' r K t (pPt K c p)) := by
  have hO : cOK c := ⟨wfD_of hI.1, hz, hI.2.1⟩
  have hw := hO.1
  have b1 := hw.1
  have b2 := hw.2.1
  have b3 := hw.2.2.1
  have g0 : zfr (fRT t) m m := zfr_rf
  have hv5 := hI.2.2
  refine zR_go [zP 3, zP 1, zP t, zN, zN, zN, zN] (by decide +kernel) (Nat.le_of_ble_eq_true rfl) rfl rfl ?_
  refine z_aload_n dX8_readPoint_0 rfl ?_
  refine z_gIv 4 rfl flX8_103 dX8_readPoint_1 sK.1 rfl hS0.2.1.2.1 ?_
  refine z_ist 3 dX8_readPoint_4 rfl (Nat.le_of_ble_eq_true rfl) ?_
  refine z_aload_n dX8_readPoint_5 rfl ?_
  refine z_ldcS (i := 5) rfl rfl dX8_readPoint_6 ?_
  try dsimp only [zs0, zsI, zsP, zsN, zsJ, zsS, zst2, Nat.reduceAdd]
  refine z_callV mlX8_22 dX8_readPoint_8 sK.1 (av := [_]) rfl rfl (Nat.le_of_ble_eq_true rfl) (c_isWd _ sK K hS0.1 p hS0.2.1 5 (by decide) 209220123 rfl) (Nat.le_refl _) (Nat.le_refl _) (Nat.le_refl _) (Nat.le_refl _) ?_
  rintro _ _ ⟨rfl, rfl⟩
  refine z_istore dX8_readPoint_11 (Nat.le_of_ble_eq_true rfl) ?_
  refine z_iload dX8_readPoint_13 rfl ?_
  try dsimp only [zs0, zsI, zsP, zsN, zsJ, zsS, zst2, Nat.reduceAdd]
  refine z_ifz_eq (tgt := 38) dX8_readPoint_15 rfl (fun h15 => ?_) (fun h15 => ?_)
  · refine z_aload_n dX8_readPoint_38 rfl ?_
    refine z_ldcS (i := 6) rfl rfl dX8_readPoint_39 ?_
    refine z_callV mlX8_22 dX8_readPoint_41 sK.1 (av := [_]) rfl rfl (Nat.le_of_ble_eq_true rfl) (c_isWd _ sK K hS0.1 p hS0.2.1 6 (by decide) 318702192 rfl) (Nat.le_refl _) (Nat.le_refl _) (Nat.le_refl _) (Nat.le_refl _) ?_
    rintro _ _ ⟨rfl, rfl⟩
    refine z_istore dX8_readPoint_44 (Nat.le_of_ble_eq_true rfl) ?_
    refine z_iload dX8_readPoint_46 rfl ?_
    try dsimp only [zs0, zsI, zsP, zsN, zsJ, zsS, zst2, Nat.reduceAdd]
    refine z_ifz_ne (tgt := 65) dX8_readPoint_48 rfl (fun h48 => ?_) (fun h48 => ?_)
    · refine z_iload dX8_readPoint_65 rfl ?_
      refine z_ifz_eq (tgt := 82) dX8_readPoint_67 rfl (fun h => absurd h48 h) (fun h67 => ?_)
      refine z_aload_n dX8_readPoint_70 rfl ?_
      refine z_callV mlX8_115 dX8_readPoint_71 (sT0 sT) (av := _) rfl rfl (Nat.le_of_ble_eq_true rfl) (c_vertexCount _ t (by omega) sT hS0.2.2.1 c hw hS0.2.2.2.1) (Nat.le_refl _) (Nat.le_refl _) (Nat.le_refl _) (Nat.le_refl _) ?_
      rintro _ _ ⟨rfl, rfl⟩
      refine z_iconst dX8_readPoint_74 (by decide) ?_
      refine z_icmp_lt (tgt := 82) dX8_readPoint_75 rfl (fun h75 => ?_) (fun h75 => ?_)
      · refine z_iconst dX8_readPoint_82 (by decide) ?_
        refine z_istore dX8_readPoint_83 (Nat.le_of_ble_eq_true rfl) ?_
        refine z_iload dX8_readPoint_85 rfl ?_
        try dsimp only [zs0, zsI, zsP, zsN, zsJ, zsS, zst2, Nat.reduceAdd]
        refine z_if_ne (tgt := 99) dX8_readPoint_87 rfl (fun h => absurd h (by decide)) (fun h87 => ?_)
        refine z_aload_n dX8_readPoint_90 rfl ?_
        refine z_gIv 13 rfl flX8_108 dX8_readPoint_91 (sT0 sT) rfl hS0.2.2.2.1.2.2.1 ?_
        refine z_bipush dX8_readPoint_94 rfl (by decide) ?_
        refine z_icmp_lt (tgt := 107) dX8_readPoint_96 rfl (fun h96 => ?_) (fun h96 => ?_)
        · refine z_aload_n dX8_readPoint_107 rfl ?_
          refine z_callV mlX8_54 dX8_readPoint_108 sK.1 (av := _) rfl rfl (Nat.le_of_ble_eq_true rfl) (c_next _ sK K hS0.1 p hS0.2.1 (by have := h48.1; omega)) (Nat.le_refl _) (Nat.le_refl _) (Nat.le_refl _) (Nat.le_refl _) ?_
          rintro _ y1 ⟨rfl, f1, a1⟩
          have hS1 := rS_tk hS0 f1 a1 t3
          have g1 := fRT_tk g0 f1
          refine z_aload_n dX8_readPoint_111 rfl ?_
          refine z_aload_n dX8_readPoint_112 rfl ?_
          refine z_aload_n dX8_readPoint_113 rfl ?_
          refine z_aload_n dX8_readPoint_114 rfl ?_
          refine z_iload dX8_readPoint_115 rfl ?_
          refine z_iload dX8_readPoint_117 rfl ?_
          refine z_callV mlX8_123 dX8_readPoint_119 (sT0 sT) (av := [_, _]) rfl rfl (Nat.le_of_ble_eq_true rfl) (c_openPoint _ t (by omega) sT hS1.2.2.1 c hw hS1.2.2.2.1 _ _ (by omega) (zb01 _) (zb01 _)) (Nat.le_refl _) (Nat.le_refl _) (Nat.le_refl _) (Nat.le_refl _) ?_
          rintro _ m9 ⟨rfl, f9, p9, c9, n9, z9, o9⟩
          have hS9 := rS_th hS1 t3 f9 p9 c9 n9 (half_OK (n := 0) hI hz (by omega) (zb01 _) (zb01 _) half_0 (by omega) (by have := hI.2.1; omega)).1
          have gA := fRT_th g1 f9
          refine z_callV mlX8_127 dX8_readPoint_122 sR (av := [_, _, _]) rfl rfl (Nat.le_of_ble_eq_true rfl) (c_readRow d t t3 sK sR sT K c hI hz (by omega) _ _ (zb01 _) (zb01 _) _ _ hS9 o9) (Nat.le_refl _) (Nat.le_refl _) (Nat.le_refl _) (Nat.le_refl _) ?_
          rintro r7 m7 o7
          have h7 := o7
          rcases h7 with ⟨-, rfl, -, -⟩ | ⟨-, rfl, -, -⟩
          · refine z_zret dX8_readPoint_125 rfl (by first | omega | exact zb01 _) rfl ?_
            have e : pPt K c p = pRow K (32 + 9 * c 2) (cPre c (c 2).toNat) (zb (kWd K p 318702192)) (zb (kWd K p 209220123)) 7 c 0 (kR K p) := by
              rw [pPt_1 (Or.inr (Or.inr h48))]
              unfold pPoint pVe pP1
              rw [if_neg h15, if_neg h15, if_neg (fun h => h ⟨by omega, fun q => by unfold cVx at *; omega⟩), if_neg (fun h => h (Or.inl h48))]
            rw [e]
            exact rOut1_tr gA o7
          · refine z_zret dX8_readPoint_125 rfl (by first | omega | exact zb01 _) rfl ?_
            have e : pPt K c p = pRow K (32 + 9 * c 2) (cPre c (c 2).toNat) (zb (kWd K p 318702192)) (zb (kWd K p 209220123)) 7 c 0 (kR K p) := by
              rw [pPt_1 (Or.inr (Or.inr h48))]
              unfold pPoint pVe pP1
              rw [if_neg h15, if_neg h15, if_neg (fun h => h ⟨by omega, fun q => by unfold cVx at *; omega⟩), if_neg (fun h => h (Or.inl h48))]
            rw [e]
            exact rOut1_tr gA o7
        · refine z_aload_n dX8_readPoint_99 rfl ?_
          refine z_iload_n dX8_readPoint_100 rfl ?_
          refine z_bipush dX8_readPoint_101 rfl (by decide) ?_
          refine z_callV mlX8_119 dX8_readPoint_103 sK.1 (av := [_, _]) rfl rfl (Nat.le_of_ble_eq_true rfl) (c_failAt _ sK p 6) (Nat.le_refl _) (Nat.le_refl _) (Nat.le_refl _) (Nat.le_refl _) ?_
          rintro _ _ ⟨rfl, rfl⟩
          refine z_zret dX8_readPoint_106 rfl (by first | omega | exact zb01 _) rfl ?_
          exact rOut_bad1 t3 hS0 g0 hO (by rw [pPt_1 (Or.inr (Or.inr h48))]; unfold pPoint pVe; rw [if_neg h15, zb_t h48]; rw [if_pos (fun h => by have := h.2; have := h.1; unfold cVx at *; omega)]; exact pEnd_ne (by decide)) (by decide)
      · refine z_iconst dX8_readPoint_78 (by decide) ?_
        refine z_goto (tgt := 83) dX8_readPoint_79 rfl ?_
        refine z_istore dX8_readPoint_83 (Nat.le_of_ble_eq_true rfl) ?_
        refine z_iload dX8_readPoint_85 rfl ?_
        try dsimp only [zs0, zsI, zsP, zsN, zsJ, zsS, zst2, Nat.reduceAdd]
        refine z_if_ne (tgt := 99) dX8_readPoint_87 rfl (fun h87 => ?_) (fun h => absurd (by decide) h)
        refine z_aload_n dX8_readPoint_99 rfl ?_
        refine z_iload_n dX8_readPoint_100 rfl ?_
        refine z_bipush dX8_readPoint_101 rfl (by decide) ?_
        refine z_callV mlX8_119 dX8_readPoint_103 sK.1 (av := [_, _]) rfl rfl (Nat.le_of_ble_eq_true rfl) (c_failAt _ sK p 6) (Nat.le_refl _) (Nat.le_refl _) (Nat.le_refl _) (Nat.le_refl _) ?_
        rintro _ _ ⟨rfl, rfl⟩
        refine z_zret dX8_readPoint_106 rfl (by first | omega | exact zb01 _) rfl ?_
        exact rOut_bad1 t3 hS0 g0 hO (by rw [pPt_1 (Or.inr (Or.inr h48))]; unfold pPoint pVe; rw [if_neg h15, zb_t h48]; rw [if_pos (fun h => by have := h.2; have := h.1; unfold cVx at *; omega)]; exact pEnd_ne (by decide)) (by decide)
    · refine z_aload_n dX8_readPoint_51 rfl ?_
      refine z_ldcS (i := 7) rfl rfl dX8_readPoint_52 ?_
      refine z_callV mlX8_22 dX8_readPoint_54 sK.1 (av := [_]) rfl rfl (Nat.le_of_ble_eq_true rfl) (c_isWd _ sK K hS0.1 p hS0.2.1 7 (by decide) 8399691 rfl) (Nat.le_refl _) (Nat.le_refl _) (Nat.le_refl _) (Nat.le_refl _) ?_
      rintro _ _ ⟨rfl, rfl⟩
      refine z_ifz_ne (tgt := 65) dX8_readPoint_57 rfl (fun h57 => ?_) (fun h57 => ?_)
      · refine z_iload dX8_readPoint_65 rfl ?_
        refine z_ifz_eq (tgt := 82) dX8_readPoint_67 rfl (fun h67 => ?_) (fun h => absurd h h48)
        refine z_iconst dX8_readPoint_82 (by decide) ?_
        refine z_istore dX8_readPoint_83 (Nat.le_of_ble_eq_true rfl) ?_
        refine z_iload dX8_readPoint_85 rfl ?_
        try dsimp only [zs0, zsI, zsP, zsN, zsJ, zsS, zst2, Nat.reduceAdd]
        refine z_if_ne (tgt := 99) dX8_readPoint_87 rfl (fun h => absurd h (by decide)) (fun h87 => ?_)
        refine z_aload_n dX8_readPoint_90 rfl ?_
        refine z_gIv 13 rfl flX8_108 dX8_readPoint_91 (sT0 sT) rfl hS0.2.2.2.1.2.2.1 ?_
        refine z_bipush dX8_readPoint_94 rfl (by decide) ?_
        refine z_icmp_lt (tgt := 107) dX8_readPoint_96 rfl (fun h96 => ?_) (fun h96 => ?_)
        · refine z_aload_n dX8_readPoint_107 rfl ?_
          refine z_callV mlX8_54 dX8_readPoint_108 sK.1 (av := _) rfl rfl (Nat.le_of_ble_eq_true rfl) (c_next _ sK K hS0.1 p hS0.2.1 (by have := h57.1; omega)) (Nat.le_refl _) (Nat.le_refl _) (Nat.le_refl _) (Nat.le_refl _) ?_
          rintro _ y1 ⟨rfl, f1, a1⟩
          have hS1 := rS_tk hS0 f1 a1 t3
          have g1 := fRT_tk g0 f1
          refine z_aload_n dX8_readPoint_111 rfl ?_
          refine z_aload_n dX8_readPoint_112 rfl ?_
          refine z_aload_n dX8_readPoint_113 rfl ?_
          refine z_aload_n dX8_readPoint_114 rfl ?_
          refine z_iload dX8_readPoint_115 rfl ?_
          refine z_iload dX8_readPoint_117 rfl ?_
          refine z_callV mlX8_123 dX8_readPoint_119 (sT0 sT) (av := [_, _]) rfl rfl (Nat.le_of_ble_eq_true rfl) (c_openPoint _ t (by omega) sT hS1.2.2.1 c hw hS1.2.2.2.1 _ _ (by omega) (zb01 _) (zb01 _)) (Nat.le_refl _) (Nat.le_refl _) (Nat.le_refl _) (Nat.le_refl _) ?_
          rintro _ m9 ⟨rfl, f9, p9, c9, n9, z9, o9⟩
          have hS9 := rS_th hS1 t3 f9 p9 c9 n9 (half_OK (n := 0) hI hz (by omega) (zb01 _) (zb01 _) half_0 (by omega) (by have := hI.2.1; omega)).1
          have gA := fRT_th g1 f9
          refine z_callV mlX8_127 dX8_readPoint_122 sR (av := [_, _, _]) rfl rfl (Nat.le_of_ble_eq_true rfl) (c_readRow d t t3 sK sR sT K c hI hz (by omega) _ _ (zb01 _) (zb01 _) _ _ hS9 o9) (Nat.le_refl _) (Nat.le_refl _) (Nat.le_refl _) (Nat.le_refl _) ?_
          rintro r7 m7 o7
          have h7 := o7
          rcases h7 with ⟨-, rfl, -, -⟩ | ⟨-, rfl, -, -⟩
          · refine z_zret dX8_readPoint_125 rfl (by first | omega | exact zb01 _) rfl ?_
            have e : pPt K c p = pRow K (32 + 9 * c 2) (cPre c (c 2).toNat) (zb (kWd K p 318702192)) (zb (kWd K p 209220123)) 7 c 0 (kR K p) := by
              rw [pPt_1 (Or.inr (Or.inl h57))]
              unfold pPoint pVe pP1
              rw [if_neg h15, if_neg h15, if_neg (fun h => h ⟨by omega, fun q => by have := q.1; rw [zb_f h48] at this; omega⟩), if_neg (fun h => h (Or.inr h57))]
            rw [e]
            exact rOut1_tr gA o7
          · refine z_zret dX8_readPoint_125 rfl (by first | omega | exact zb01 _) rfl ?_
            have e : pPt K c p = pRow K (32 + 9 * c 2) (cPre c (c 2).toNat) (zb (kWd K p 318702192)) (zb (kWd K p 209220123)) 7 c 0 (kR K p) := by
              rw [pPt_1 (Or.inr (Or.inl h57))]
              unfold pPoint pVe pP1
              rw [if_neg h15, if_neg h15, if_neg (fun h => h ⟨by omega, fun q => by have := q.1; rw [zb_f h48] at this; omega⟩), if_neg (fun h => h (Or.inr h57))]
            rw [e]
            exact rOut1_tr gA o7
        · refine z_aload_n dX8_readPoint_99 rfl ?_
          refine z_iload_n dX8_readPoint_100 rfl ?_
          refine z_bipush dX8_readPoint_101 rfl (by decide) ?_
          refine z_callV mlX8_119 dX8_readPoint_103 sK.1 (av := [_, _]) rfl rfl (Nat.le_of_ble_eq_true rfl) (c_failAt _ sK p 6) (Nat.le_refl _) (Nat.le_refl _) (Nat.le_refl _) (Nat.le_refl _) ?_
          rintro _ _ ⟨rfl, rfl⟩
          refine z_zret dX8_readPoint_106 rfl (by first | omega | exact zb01 _) rfl ?_
          exact rOut_bad1 t3 hS0 g0 hO (by rw [pPt_1 (Or.inr (Or.inl h57))]; unfold pPoint pVe; rw [if_neg h15, zb_f h48]; rw [if_pos (fun h => by have := h.2; have := h.1; unfold cVx at *; omega)]; exact pEnd_ne (by decide)) (by decide)
      · refine z_aload_n dX8_readPoint_60 rfl ?_
        refine z_callV mlX8_61 dX8_readPoint_61 sK.1 (av := _) rfl rfl (Nat.le_of_ble_eq_true rfl) (c_misplaced _ sK K p hS0.2.1) (Nat.le_refl _) (Nat.le_refl _) (Nat.le_refl _) (Nat.le_refl _) ?_
        rintro _ _ ⟨rfl, rfl⟩
        refine z_zret dX8_readPoint_64 rfl (by first | omega | exact zb01 _) rfl ?_
        exact rOut_bad1 t3 hS0 g0 hO (by rw [pPt_0 (fun h => h.elim h15 (fun h => h.elim h57 h48))]; exact pEnd_ne kMis_ne) kMis_ne
  · refine z_aload_n dX8_readPoint_18 rfl ?_
    refine z_gIv 13 rfl flX8_108 dX8_readPoint_19 (sT0 sT) rfl hS0.2.2.2.1.2.2.1 ?_
    refine z_bipush dX8_readPoint_22 rfl (by decide) ?_
    refine z_icmp_lt (tgt := 34) dX8_readPoint_24 rfl (fun h24 => ?_) (fun h24 => ?_)
    · refine z_aload_n dX8_readPoint_34 rfl ?_
      refine z_callV mlX8_54 dX8_readPoint_35 sK.1 (av := _) rfl rfl (Nat.le_of_ble_eq_true rfl) (c_next _ sK K hS0.1 p hS0.2.1 (by have := h15.1; omega)) (Nat.le_refl _) (Nat.le_refl _) (Nat.le_refl _) (Nat.le_refl _) ?_
      rintro _ y1 ⟨rfl, f1, a1⟩
      have hS1 := rS_tk hS0 f1 a1 t3
      have g1 := fRT_tk g0 f1
      refine z_aload_n dX8_readPoint_38 rfl ?_
      refine z_ldcS (i := 6) rfl rfl dX8_readPoint_39 ?_
      refine z_callV mlX8_22 dX8_readPoint_41 sK.1 (av := [_]) rfl rfl (Nat.le_of_ble_eq_true rfl) (c_isWd _ sK K hS1.1 (kR K p) hS1.2.1 6 (by decide) 318702192 rfl) (Nat.le_refl _) (Nat.le_refl _) (Nat.le_refl _) (Nat.le_refl _) ?_
      rintro _ _ ⟨rfl, rfl⟩
      refine z_istore dX8_readPoint_44 (Nat.le_of_ble_eq_true rfl) ?_
      refine z_iload dX8_readPoint_46 rfl ?_
      try dsimp only [zs0, zsI, zsP, zsN, zsJ, zsS, zst2, Nat.reduceAdd]
      refine z_ifz_ne (tgt := 65) dX8_readPoint_48 rfl (fun h48 => ?_) (fun h48 => ?_)
      · refine z_iload dX8_readPoint_65 rfl ?_
        refine z_ifz_eq (tgt := 82) dX8_readPoint_67 rfl (fun h => absurd h48 h) (fun h67 => ?_)
        refine z_aload_n dX8_readPoint_70 rfl ?_
        refine z_callV mlX8_115 dX8_readPoint_71 (sT0 sT) (av := _) rfl rfl (Nat.le_of_ble_eq_true rfl) (c_vertexCount _ t (by omega) sT hS1.2.2.1 c hw hS1.2.2.2.1) (Nat.le_refl _) (Nat.le_refl _) (Nat.le_refl _) (Nat.le_refl _) ?_
        rintro _ _ ⟨rfl, rfl⟩
        refine z_iconst dX8_readPoint_74 (by decide) ?_
        refine z_icmp_lt (tgt := 82) dX8_readPoint_75 rfl (fun h75 => ?_) (fun h75 => ?_)
        · refine z_iconst dX8_readPoint_82 (by decide) ?_
          refine z_istore dX8_readPoint_83 (Nat.le_of_ble_eq_true rfl) ?_
          refine z_iload dX8_readPoint_85 rfl ?_
          try dsimp only [zs0, zsI, zsP, zsN, zsJ, zsS, zst2, Nat.reduceAdd]
          refine z_if_ne (tgt := 99) dX8_readPoint_87 rfl (fun h => absurd h (by decide)) (fun h87 => ?_)
          refine z_aload_n dX8_readPoint_90 rfl ?_
          refine z_gIv 13 rfl flX8_108 dX8_readPoint_91 (sT0 sT) rfl hS1.2.2.2.1.2.2.1 ?_
          refine z_bipush dX8_readPoint_94 rfl (by decide) ?_
          refine z_icmp_lt (tgt := 107) dX8_readPoint_96 rfl (fun h96 => ?_) (fun h96 => ?_)
          · refine z_aload_n dX8_readPoint_107 rfl ?_
            refine z_callV mlX8_54 dX8_readPoint_108 sK.1 (av := _) rfl rfl (Nat.le_of_ble_eq_true rfl) (c_next _ sK K hS1.1 (kR K p) hS1.2.1 (by have := h48.1; omega)) (Nat.le_refl _) (Nat.le_refl _) (Nat.le_refl _) (Nat.le_refl _) ?_
            rintro _ y2 ⟨rfl, f2, a2⟩
            have hS2 := rS_tk hS1 f2 a2 t3
            have g2 := fRT_tk g1 f2
            refine z_aload_n dX8_readPoint_111 rfl ?_
            refine z_aload_n dX8_readPoint_112 rfl ?_
            refine z_aload_n dX8_readPoint_113 rfl ?_
            refine z_aload_n dX8_readPoint_114 rfl ?_
            refine z_iload dX8_readPoint_115 rfl ?_
            refine z_iload dX8_readPoint_117 rfl ?_
            refine z_callV mlX8_123 dX8_readPoint_119 (sT0 sT) (av := [_, _]) rfl rfl (Nat.le_of_ble_eq_true rfl) (c_openPoint _ t (by omega) sT hS2.2.2.1 c hw hS2.2.2.2.1 _ _ (by omega) (zb01 _) (zb01 _)) (Nat.le_refl _) (Nat.le_refl _) (Nat.le_refl _) (Nat.le_refl _) ?_
            rintro _ m9 ⟨rfl, f9, p9, c9, n9, z9, o9⟩
            have hS9 := rS_th hS2 t3 f9 p9 c9 n9 (half_OK (n := 0) hI hz (by omega) (zb01 _) (zb01 _) half_0 (by omega) (by have := hI.2.1; omega)).1
            have gA := fRT_th g2 f9
            refine z_callV mlX8_127 dX8_readPoint_122 sR (av := [_, _, _]) rfl rfl (Nat.le_of_ble_eq_true rfl) (c_readRow d t t3 sK sR sT K c hI hz (by omega) _ _ (zb01 _) (zb01 _) _ _ hS9 o9) (Nat.le_refl _) (Nat.le_refl _) (Nat.le_refl _) (Nat.le_refl _) ?_
            rintro r7 m7 o7
            have h7 := o7
            rcases h7 with ⟨-, rfl, -, -⟩ | ⟨-, rfl, -, -⟩
            · refine z_zret dX8_readPoint_125 rfl (by first | omega | exact zb01 _) rfl ?_
              have e : pPt K c p = pRow K (32 + 9 * c 2) (cPre c (c 2).toNat) (zb (kWd K (kR K p) 318702192)) (zb (kWd K p 209220123)) 7 c 0 (kR K (kR K p)) := by
                rw [pPt_1 (Or.inl h15)]
                unfold pPoint pVe pP1
                rw [if_pos h15, if_pos h15, if_neg (fun h => h ⟨by omega, fun q => by unfold cVx at *; omega⟩), if_neg (fun h => h (Or.inl h48))]
              rw [e]
              exact rOut1_tr gA o7
            · refine z_zret dX8_readPoint_125 rfl (by first | omega | exact zb01 _) rfl ?_
              have e : pPt K c p = pRow K (32 + 9 * c 2) (cPre c (c 2).toNat) (zb (kWd K (kR K p) 318702192)) (zb (kWd K p 209220123)) 7 c 0 (kR K (kR K p)) := by
                rw [pPt_1 (Or.inl h15)]
                unfold pPoint pVe pP1
                rw [if_pos h15, if_pos h15, if_neg (fun h => h ⟨by omega, fun q => by unfold cVx at *; omega⟩), if_neg (fun h => h (Or.inl h48))]
              rw [e]
              exact rOut1_tr gA o7
          · refine z_aload_n dX8_readPoint_99 rfl ?_
            refine z_iload_n dX8_readPoint_100 rfl ?_
            refine z_bipush dX8_readPoint_101 rfl (by decide) ?_
            refine z_callV mlX8_119 dX8_readPoint_103 sK.1 (av := [_, _]) rfl rfl (Nat.le_of_ble_eq_true rfl) (c_failAt _ sK p 6) (Nat.le_refl _) (Nat.le_refl _) (Nat.le_refl _) (Nat.le_refl _) ?_
            rintro _ _ ⟨rfl, rfl⟩
            refine z_zret dX8_readPoint_106 rfl (by first | omega | exact zb01 _) rfl ?_
            exact rOut_bad1 t3 hS1 g1 hO (by rw [pPt_1 (Or.inl h15)]; unfold pPoint pVe; rw [if_pos h15, zb_t h48]; rw [if_pos (fun h => by have := h.2; have := h.1; unfold cVx at *; omega)]; exact pEnd_ne (by decide)) (by decide)
        · refine z_iconst dX8_readPoint_78 (by decide) ?_
          refine z_goto (tgt := 83) dX8_readPoint_79 rfl ?_
          refine z_istore dX8_readPoint_83 (Nat.le_of_ble_eq_true rfl) ?_
          refine z_iload dX8_readPoint_85 rfl ?_
          try dsimp only [zs0, zsI, zsP, zsN, zsJ, zsS, zst2, Nat.reduceAdd]
          refine z_if_ne (tgt := 99) dX8_readPoint_87 rfl (fun h87 => ?_) (fun h => absurd (by decide) h)
          refine z_aload_n dX8_readPoint_99 rfl ?_
          refine z_iload_n dX8_readPoint_100 rfl ?_
          refine z_bipush dX8_readPoint_101 rfl (by decide) ?_
          refine z_callV mlX8_119 dX8_readPoint_103 sK.1 (av := [_, _]) rfl rfl (Nat.le_of_ble_eq_true rfl) (c_failAt _ sK p 6) (Nat.le_refl _) (Nat.le_refl _) (Nat.le_refl _) (Nat.le_refl _) ?_
          rintro _ _ ⟨rfl, rfl⟩
          refine z_zret dX8_readPoint_106 rfl (by first | omega | exact zb01 _) rfl ?_
          exact rOut_bad1 t3 hS1 g1 hO (by rw [pPt_1 (Or.inl h15)]; unfold pPoint pVe; rw [if_pos h15, zb_t h48]; rw [if_pos (fun h => by have := h.2; have := h.1; unfold cVx at *; omega)]; exact pEnd_ne (by decide)) (by decide)
      · refine z_aload_n dX8_readPoint_51 rfl ?_
        refine z_ldcS (i := 7) rfl rfl dX8_readPoint_52 ?_
        refine z_callV mlX8_22 dX8_readPoint_54 sK.1 (av := [_]) rfl rfl (Nat.le_of_ble_eq_true rfl) (c_isWd _ sK K hS1.1 (kR K p) hS1.2.1 7 (by decide) 8399691 rfl) (Nat.le_refl _) (Nat.le_refl _) (Nat.le_refl _) (Nat.le_refl _) ?_
        rintro _ _ ⟨rfl, rfl⟩
        refine z_ifz_ne (tgt := 65) dX8_readPoint_57 rfl (fun h57 => ?_) (fun h57 => ?_)
        · refine z_iload dX8_readPoint_65 rfl ?_
          refine z_ifz_eq (tgt := 82) dX8_readPoint_67 rfl (fun h67 => ?_) (fun h => absurd h h48)
          refine z_iconst dX8_readPoint_82 (by decide) ?_
          refine z_istore dX8_readPoint_83 (Nat.le_of_ble_eq_true rfl) ?_
          refine z_iload dX8_readPoint_85 rfl ?_
          try dsimp only [zs0, zsI, zsP, zsN, zsJ, zsS, zst2, Nat.reduceAdd]
          refine z_if_ne (tgt := 99) dX8_readPoint_87 rfl (fun h => absurd h (by decide)) (fun h87 => ?_)
          refine z_aload_n dX8_readPoint_90 rfl ?_
          refine z_gIv 13 rfl flX8_108 dX8_readPoint_91 (sT0 sT) rfl hS1.2.2.2.1.2.2.1 ?_
          refine z_bipush dX8_readPoint_94 rfl (by decide) ?_
          refine z_icmp_lt (tgt := 107) dX8_readPoint_96 rfl (fun h96 => ?_) (fun h96 => ?_)
          · refine z_aload_n dX8_readPoint_107 rfl ?_
            refine z_callV mlX8_54 dX8_readPoint_108 sK.1 (av := _) rfl rfl (Nat.le_of_ble_eq_true rfl) (c_next _ sK K hS1.1 (kR K p) hS1.2.1 (by have := h57.1; omega)) (Nat.le_refl _) (Nat.le_refl _) (Nat.le_refl _) (Nat.le_refl _) ?_
            rintro _ y2 ⟨rfl, f2, a2⟩
            have hS2 := rS_tk hS1 f2 a2 t3
            have g2 := fRT_tk g1 f2
            refine z_aload_n dX8_readPoint_111 rfl ?_
            refine z_aload_n dX8_readPoint_112 rfl ?_
            refine z_aload_n dX8_readPoint_113 rfl ?_
            refine z_aload_n dX8_readPoint_114 rfl ?_
            refine z_iload dX8_readPoint_115 rfl ?_
            refine z_iload dX8_readPoint_117 rfl ?_
            refine z_callV mlX8_123 dX8_readPoint_119 (sT0 sT) (av := [_, _]) rfl rfl (Nat.le_of_ble_eq_true rfl) (c_openPoint _ t (by omega) sT hS2.2.2.1 c hw hS2.2.2.2.1 _ _ (by omega) (zb01 _) (zb01 _)) (Nat.le_refl _) (Nat.le_refl _) (Nat.le_refl _) (Nat.le_refl _) ?_
            rintro _ m9 ⟨rfl, f9, p9, c9, n9, z9, o9⟩
            have hS9 := rS_th hS2 t3 f9 p9 c9 n9 (half_OK (n := 0) hI hz (by omega) (zb01 _) (zb01 _) half_0 (by omega) (by have := hI.2.1; omega)).1
            have gA := fRT_th g2 f9
            refine z_callV mlX8_127 dX8_readPoint_122 sR (av := [_, _, _]) rfl rfl (Nat.le_of_ble_eq_true rfl) (c_readRow d t t3 sK sR sT K c hI hz (by omega) _ _ (zb01 _) (zb01 _) _ _ hS9 o9) (Nat.le_refl _) (Nat.le_refl _) (Nat.le_refl _) (Nat.le_refl _) ?_
            rintro r7 m7 o7
            have h7 := o7
            rcases h7 with ⟨-, rfl, -, -⟩ | ⟨-, rfl, -, -⟩
            · refine z_zret dX8_readPoint_125 rfl (by first | omega | exact zb01 _) rfl ?_
              have e : pPt K c p = pRow K (32 + 9 * c 2) (cPre c (c 2).toNat) (zb (kWd K (kR K p) 318702192)) (zb (kWd K p 209220123)) 7 c 0 (kR K (kR K p)) := by
                rw [pPt_1 (Or.inl h15)]
                unfold pPoint pVe pP1
                rw [if_pos h15, if_pos h15, if_neg (fun h => h ⟨by omega, fun q => by have := q.1; rw [zb_f h48] at this; omega⟩), if_neg (fun h => h (Or.inr h57))]
              rw [e]
              exact rOut1_tr gA o7
            · refine z_zret dX8_readPoint_125 rfl (by first | omega | exact zb01 _) rfl ?_
              have e : pPt K c p = pRow K (32 + 9 * c 2) (cPre c (c 2).toNat) (zb (kWd K (kR K p) 318702192)) (zb (kWd K p 209220123)) 7 c 0 (kR K (kR K p)) := by
                rw [pPt_1 (Or.inl h15)]
                unfold pPoint pVe pP1
                rw [if_pos h15, if_pos h15, if_neg (fun h => h ⟨by omega, fun q => by have := q.1; rw [zb_f h48] at this; omega⟩), if_neg (fun h => h (Or.inr h57))]
              rw [e]
              exact rOut1_tr gA o7
          · refine z_aload_n dX8_readPoint_99 rfl ?_
            refine z_iload_n dX8_readPoint_100 rfl ?_
            refine z_bipush dX8_readPoint_101 rfl (by decide) ?_
            refine z_callV mlX8_119 dX8_readPoint_103 sK.1 (av := [_, _]) rfl rfl (Nat.le_of_ble_eq_true rfl) (c_failAt _ sK p 6) (Nat.le_refl _) (Nat.le_refl _) (Nat.le_refl _) (Nat.le_refl _) ?_
            rintro _ _ ⟨rfl, rfl⟩
            refine z_zret dX8_readPoint_106 rfl (by first | omega | exact zb01 _) rfl ?_
            exact rOut_bad1 t3 hS1 g1 hO (by rw [pPt_1 (Or.inl h15)]; unfold pPoint pVe; rw [if_pos h15, zb_f h48]; rw [if_pos (fun h => by have := h.2; have := h.1; unfold cVx at *; omega)]; exact pEnd_ne (by decide)) (by decide)
        · refine z_aload_n dX8_readPoint_60 rfl ?_
          refine z_callV mlX8_61 dX8_readPoint_61 sK.1 (av := _) rfl rfl (Nat.le_of_ble_eq_true rfl) (c_misplaced _ sK K (kR K p) hS1.2.1) (Nat.le_refl _) (Nat.le_refl _) (Nat.le_refl _) (Nat.le_refl _) ?_
          rintro _ _ ⟨rfl, rfl⟩
          refine z_zret dX8_readPoint_64 rfl (by first | omega | exact zb01 _) rfl ?_
          exact rOut_bad1 t3 hS1 g1 hO (by rw [pPt_1 (Or.inl h15)]; unfold pPoint pVe pP1; rw [if_pos h15, if_pos h15, zb_f h48, if_neg (by omega), if_pos (fun h => h.elim h48 h57)]; exact pEnd_ne kMis_ne) kMis_ne
    · refine z_aload_n dX8_readPoint_27 rfl ?_
      refine z_bipush dX8_readPoint_28 rfl (by decide) ?_
      refine z_callV mlX8_50 dX8_readPoint_30 sK.1 (av := [_]) rfl rfl (Nat.le_of_ble_eq_true rfl) (c_failHere _ sK K p hS0.2.1 6) (Nat.le_refl _) (Nat.le_refl _) (Nat.le_refl _) (Nat.le_refl _) ?_
      rintro _ _ ⟨rfl, rfl⟩
      refine z_zret dX8_readPoint_33 rfl (by first | omega | exact zb01 _) rfl ?_
      exact rOut_bad1 t3 hS0 g0 hO (by rw [pPt_1 (Or.inl h15)]; unfold pPoint; rw [if_pos (by omega)]; exact pEnd_ne (by decide)) (by decide)
