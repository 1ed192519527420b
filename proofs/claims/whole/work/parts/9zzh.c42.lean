def dE1 (E : zE) (bcap R : Int) : zE := if bcap < R then nwN E R 8 else E
def kRm (kcap x : Int) : Int := if ((2 ^ (kEx x 10 0) : Nat) : Int) < (if 16384 < 4 * kcap then 16384 else 4 * kcap) then (if 16384 < 4 * kcap then 16384 else 4 * kcap) else ((2 ^ (kEx x 10 0) : Nat) : Int)
def kE1 (E : zE) (kcap x : Int) : zE := if kcap < ((2 ^ (kEx x 10 0) : Nat) : Int) then znew (znew E 2 (kRm kcap x) (kRm kcap x).toNat) 1 (kRm kcap x) (kRm kcap x).toNat else E
theorem dE1_le (E : zE) (bcap R : Int) : E.2.1 ≤ (dE1 E bcap R).2.1 ∧ E.2.2 ≤ (dE1 E bcap R).2.2 := by
  unfold dE1
  split
  · rw [nwN_c, nwN_s]; omega
  · omega
theorem kE1_le (E : zE) (kcap x : Int) : E.2.1 ≤ (kE1 E kcap x).2.1 ∧ E.2.2 ≤ (kE1 E kcap x).2.2 := by
  unfold kE1
  split
  · exact ⟨by show E.2.1 ≤ E.2.1 + 1 + 1; omega, by show E.2.2 ≤ E.2.2 + (kRm kcap x).toNat + (kRm kcap x).toNat; omega⟩
  · omega
theorem dE1_o {E : zE} {bcap R c : Int} (h : c < (E.2.1 : Int)) : (dE1 E bcap R).1 c = E.1 c := by
  unfold dE1
  split
  · exact nwN_o h rfl
  · rfl
theorem kE1_o {E : zE} {kcap x c : Int} (h : c < (E.2.1 : Int)) : (kE1 E kcap x).1 c = E.1 c := by
  unfold kE1
  split
  · rw [znew_o (by show c ≠ ((E.2.1 + 1 : Nat) : Int); omega), znew_o (by omega)]
  · rfl
theorem shDg_in {E E' : zE} {b cap : Int} (h : shDg E b cap) (e : ∀ x : Int, b ≤ x → x < b + 8 → E'.1 x = E.1 x) : shDg E' b cap := by
  unfold shDg at *
  rw [e b (by omega) (by omega), e (b + 1) (by omega) (by omega), e (b + 2) (by omega) (by omega), e (b + 3) (by omega) (by omega), e (b + 4) (by omega) (by omega), e (b + 5) (by omega) (by omega), e (b + 6) (by omega) (by omega), e (b + 7) (by omega) (by omega)]
  exact h
theorem dS_eq2 {m m' : zM} {b : Int} {T : zT} {L R : zLr} {D : List Int} (h : dS m b T L R D) (e : ∀ x i : Int, 0 ≤ x → x < 5 ∨ x = 7 → m' (b + x) i = m (b + x) i) : dS m' b T L R D := by
  refine ⟨fun i v hv => dP_eq (h.1 i v hv) (fun x x0 x1 => e x _ x0 (by omega)), fun k r hr => ?_⟩
  obtain ⟨i, h1, h2⟩ := h.2 k r hr
  exact ⟨i, by rw [e 7 _ (by decide) (by decide)]; exact h1, h2⟩
/-- the table as build leaves it -/
def dRw (m : zM) (b ka : Int) (e : Nat) (T : zT) (D : List Int) (F : Int → Int) (cc : Int) : Prop := bS T (tPairs T) D F ∧ kT m ka e F cc ∧ m 14 18 = (D.length : Int) ∧ D.length ≤ (tPairs T).length ∧ dS m b T (tPairs T) (tPairs T) D ∧ pmI (m (b + 5)) D.length ∧ (∀ i k : Nat, i < k → k < D.length → m b (m (b + 5) (i : Int)) ≤ m b (m (b + 5) (k : Int))) ∧ ∀ x : Nat, x < D.length → m (b + 6) (m (b + 5) (x : Int)) = (x : Int)
theorem dDj_g {t p a ka b ka1 b1 : Int} {N N1 : Nat} (h : dDj t p a ka b) (hN : 95 < N ∧ N ≤ N1 ∧ t + 28 ≤ N ∧ a + 2 ≤ N ∧ ka + 2 ≤ N ∧ b + 8 ≤ N) (hb : b1 = b ∨ (b1 = N ∧ b1 + 8 ≤ N1)) (hk : ka1 = ka ∨ ka1 = N1) : dDj t p a ka1 b1 := by
  obtain ⟨dj1, dj2, dj3, dj4, dj5, dj6, dj7, dj8, dj9, dj10⟩ := h
  refine ⟨?_, ?_, ?_, ?_, ?_, ?_, dj7, dj8, ?_, ?_⟩ <;> omega
theorem c_mkR (d : Nat) {E : zE} {m : zM} (s14 : E.1 14 = (6, 20)) (b bcap : Int) (sB : shDg E b bcap) (qB_ : qDg m 14 b) (b24 : 24 < b) (hb : b + 8 ≤ E.2.1) (R : Int) (hR : 0 ≤ R ∧ R ≤ 10395) (hN : 95 < E.2.1) : zR zX0_makeRoom d [zP 14, zI R] m E (dE1 E bcap R) (fun r m' => r = none ∧ ∃ b1 bc1 : Int, shDg (dE1 E bcap R) b1 bc1 ∧ R ≤ bc1 ∧ bc1 = (if bcap < R then R else bcap) ∧ qDg m' 14 b1 ∧ (b1 = b ∨ (b1 = E.2.1 ∧ b1 + 8 ≤ (dE1 E bcap R).2.1)) ∧ ∀ c k : Int, c < (E.2.1 : Int) → (c ≠ 14 ∨ k < 5 ∨ 12 < k) → m' c k = m c k) := by
  unfold dE1
  by_cases h : bcap < R
  · rw [if_pos h, if_pos h]
    refine zR_imp (c_makeRoom1 d s14 b bcap sB qB_ b24 R h hR hN) (fun r m' hh => ?_)
    obtain ⟨h1, h2, h3⟩ := hh
    refine ⟨h1, E.2.1, R, nwN_sh, Int.le_refl _, rfl, h3, Or.inr ⟨rfl, by rw [nwN_c]; omega⟩, fun c k c1 c2 => h2 c k ?_ ?_⟩
    · simp [fMk]; omega
    · simp [fMk]; omega
  · rw [if_neg h, if_neg h]
    refine zR_imp (c_makeRoom0 d s14 b bcap sB qB_ b24 R (by omega)) (fun r m' hh => ?_)
    obtain ⟨h1, rfl⟩ := hh
    exact ⟨h1, b, bcap, sB, by omega, rfl, qB_, Or.inl rfl, fun _ _ _ _ => rfl⟩
theorem c_kcl (d : Nat) {E : zE} {m : zM} (so : E.1 15 = (8, 3)) (ka kcap : Int) (ska : E.1 ka = (2, kcap)) (skb : E.1 (ka + 1) = (1, kcap)) (ka0 : 15 < ka) (q0 : m 15 0 = ka) (q1 : m 15 1 = ka + 1) (hcap : 32 ≤ kcap ∧ kcap ≤ 16384) (hk : ka + 2 ≤ E.2.1) (hN : 95 < E.2.1) (x : Int) (hx : 0 ≤ x ∧ x ≤ 10395) : zR zX2_clear (d + 2) [zP 15, zI x] m E (kE1 E kcap x) (fun r m' => r = none ∧ ∃ ka1 kc1 : Int, (kE1 E kcap x).1 ka1 = (2, kc1) ∧ (kE1 E kcap x).1 (ka1 + 1) = (1, kc1) ∧ (ka1 = ka ∨ (ka1 = E.2.1 ∧ ka1 + 2 ≤ (kE1 E kcap x).2.1)) ∧ ((2 ^ (kEx x 10 0) : Nat) : Int) ≤ kc1 ∧ (32 ≤ kc1 ∧ kc1 ≤ 16384) ∧ kc1 = (if kcap < ((2 ^ (kEx x 10 0) : Nat) : Int) then kRm kcap x else kcap) ∧ m' 15 0 = ka1 ∧ m' 15 1 = ka1 + 1 ∧ m' 15 2 = ((2 ^ (kEx x 10 0) : Nat) : Int) ∧ kT m' ka1 (kEx x 10 0) (fun _ => -1) 0 ∧ ∀ c k : Int, c < (E.2.1 : Int) → c ≠ 15 → c ≠ ka + 1 → m' c k = m c k) := by
  have hke := (kEx_ok hx).1
  have hk14 : 2 ^ kEx x 10 0 ≤ 2 ^ 14 := Nat.pow_le_pow_right (by decide) hke
  have hk5 : 2 ^ 5 ≤ 2 ^ kEx x 10 0 := Nat.pow_le_pow_right (by decide) (kEx_5 x 10 0)
  unfold kE1
  by_cases h : kcap < ((2 ^ (kEx x 10 0) : Nat) : Int)
  · rw [if_pos h, if_pos h]
    have hr : ((2 ^ (kEx x 10 0) : Nat) : Int) ≤ kRm kcap x ∧ (32 ≤ kRm kcap x ∧ kRm kcap x ≤ 16384) := by
      unfold kRm
      have hI : 32 ≤ ((2 ^ (kEx x 10 0) : Nat) : Int) ∧ ((2 ^ (kEx x 10 0) : Nat) : Int) ≤ 16384 := by omega
      generalize ((2 ^ (kEx x 10 0) : Nat) : Int) = z at *
      repeat' split
      all_goals omega
    refine zR_imp (c_kclear1 d 15 ka kcap so ska skb (by omega) q0 q1 (by omega) (by omega) hcap x hx hN (by decide) h (kRm kcap x) rfl) (fun r m' hh => ?_)
    obtain ⟨h1, h2, h3, h4, h5, h6⟩ := hh
    refine ⟨h1, E.2.1, kRm kcap x, ?_, ?_, Or.inr ⟨rfl, ?_⟩, hr.1, hr.2, rfl, h3, h4, h5, h6, fun c k c1 c2 c3 => h2 c k (by simp; omega) (by simp)⟩
    · rw [znew_o (by show (E.2.1 : Int) ≠ ((E.2.1 + 1 : Nat) : Int); omega), znew_n]
    · exact znew_n (E := znew E 2 (kRm kcap x) (kRm kcap x).toNat)
    · show (E.2.1 : Int) + 2 ≤ ((E.2.1 + 1 + 1 : Nat) : Int)
      omega
  · rw [if_neg h, if_neg h]
    refine zR_imp (c_kclear0 d 15 ka kcap so ska skb (by omega) q0 q1 (by omega) (by omega) hcap x hx (by omega)) (fun r m' hh => ?_)
    obtain ⟨h1, h2, h3, h4, h5, h6⟩ := hh
    exact ⟨h1, ka, kcap, ska, skb, Or.inl rfl, by omega, hcap, rfl, h3, h4, h5, h6, fun c k c1 c2 c3 => h2 c k (by simp; omega) (by simp)⟩
theorem c_listAll (d : Nat) {E : zE} {m : zM} (s14 : E.1 14 = (6, 20)) (s22 : E.1 22 = (1, 120)) (s23 : E.1 23 = (1, 6)) (s24 : E.1 24 = (1, 6)) (q22 : m 14 2 = 22) (q23 : m 14 3 = 23) (q24 : m 14 4 = 24) (t : Int) (t7 : 24 < t) (sT : shT E t) (pT : ptT m t) (c : Int → Int) (hw : wfC c) (hc : cTh m t c) (hV : zsum (fun p => zb (c (32 + 9 * p + 1) = 1)) (c 2).toNat 0 ≤ 5) (h13 : m 14 13 = 0) : zR zX0_listChanges (d + 9) [zP 14, zP t, zI 0, zI 0, zI 0] m E E (fun r m' => r = none ∧ zfr [(22, none), (14, some 13)] m m' ∧ xC m' (allCh c)) := by
  have hc2 := hw.2.2.1
  have hl := allCh_len hV
  have h := c_listChanges (d + (8 - (c 2).toNat)) s14 s22 s23 s24 q22 q23 q24 t t7 sT pT c hw hc (c 2).toNat m 0 0 0 [] (by omega) (by decide) (by decide) zfr_rf ⟨h13, fun i ch hh => by cases hh⟩ (by show 0 + (allCh c).length ≤ 120; omega)
  rw [show d + (8 - (c 2).toNat) + (c 2).toNat + 1 = d + 9 by omega, List.nil_append] at h
  exact h
theorem l_bd163 (d : Nat) {E0 E : zE} {m4 : zM} {P : Option zV → zM → Prop} (s14 : E.1 14 = (6, 20)) (T : zT) (ka b bcap : Int) (sB : shDg E b bcap) (qB_ : qDg m4 14 b) (b24 : 24 < b) (bk : ka + 1 < b ∨ b + 8 ≤ ka) (ka0 : 15 < ka) (hLc : ((tPairs T).length : Int) ≤ bcap) (hLb : (tPairs T).length ≤ 10395) (e : Nat) (D : zLi) (F : zFn) (cc : Int) (hB : bS T (tPairs T) D F) (hK : kT m4 ka e F cc) (hD : m4 14 18 = (D.length : Int)) (hDl : D.length ≤ (tPairs T).length) (hS : dS m4 b T (tPairs T) (tPairs T) D) {t p : Int} (hP : ∀ m', (∀ c k : Int, (c ≠ b + 5 ∧ c ≠ b + 6) → (c ≠ 14 ∨ k ≠ 19) → m' c k = m4 c k) ∧ m' 14 19 = 1 ∧ dRw m' b ka e T D F cc → P none m') : zA zX0_build (d + 3) E0 E P 163 [zP 14, zP t, zP p, zN, zN, zN, zN] [] m4 E := by
  refine z_aload_n dX0_build_163 rfl ?_
  refine z_callV mlX0_124 dX0_build_164 s14 (av := _) rfl rfl (Nat.le_of_ble_eq_true rfl) (c_sortByName _ 14 b bcap s14 sB (by omega) qB_ (by omega) D.length (by omega) (by omega) hD) (Nat.le_refl _) (Nat.le_refl _) (Nat.le_refl _) (Nat.le_refl _) ?_
  rintro _ m5 ⟨rfl, g5, hpm, hso, hrk⟩
  refine z_aload_n dX0_build_167 rfl ?_
  refine z_iconst dX0_build_168 (by decide) ?_
  refine z_pZ 19 rfl (fpX0_127 _) dX0_build_169 s14 rfl (by first | omega | exact zb01 _) ?_
  refine z_vret dX0_build_172 rfl rfl ?_
  refine hP _ ?_
  have o : ∀ c k : Int, (c ≠ b + 5 ∧ c ≠ b + 6) → (c ≠ 14 ∨ k ≠ 19) → zu m5 14 19 1 c k = m4 c k := fun c k h1 h2 => by
    rw [show zu m5 14 19 1 c k = m5 c k from if_neg (by omega)]
    exact g5 c k (by simp; omega) (by simp)
  refine ⟨fun c k h1 h2 => o c k h1 h2, zu_s, ⟨hB, kT_fr hK (funext fun x => o _ x (by omega) (by omega)) (funext fun x => o _ x (by omega) (by omega)), (o _ _ (by omega) (by omega)).trans hD, hDl, dS_eq2 hS (fun x i x0 x1 => o _ i (by omega) (by omega)), ?_, ?_, ?_⟩⟩
  · rw [show zu m5 14 19 1 (b + 5) = m5 (b + 5) from funext fun x => zu_a (by omega)]; exact hpm
  · intro i k h1 h2
    have hb0 : ∀ k, zu m5 14 19 1 b k = m4 b k := fun k => o b k (by omega) (by omega)
    have hb5 : ∀ k, zu m5 14 19 1 (b + 5) k = m5 (b + 5) k := fun k => zu_a (by omega)
    rw [hb0, hb0, hb5, hb5]
    exact hso i k h1 h2
  · intro x hx
    rw [zu_a (by omega), zu_a (by omega)]
    exact hrk x hx

theorem c_build (d : Nat) {E : zE} {m : zM} (s14 : E.1 14 = (6, 20)) (s22 : E.1 22 = (1, 120)) (s23 : E.1 23 = (1, 6)) (s24 : E.1 24 = (1, 6)) (q22 : m 14 2 = 22) (q23 : m 14 3 = 23) (q24 : m 14 4 = 24) (q12 : m 14 0 = 15) (t : Int) (t7 : 24 < t) (sT : shT E t) (pT : ptT m t) (T : zT) (hw : wfC T.1) (hl : wfL T.1 T.2.1 T.2.2.1 T.2.2.2) (hfl : isFlat T.1 T.2.1 T.2.2.1 T.2.2.2) (hc : cTh m t T.1) (hF : cFl m t T.1 T.2.1 T.2.2.1 T.2.2.2) (hod : tOdd T) (hV : zsum (fun p => zb (T.1 (32 + 9 * p + 1) = 1)) (T.1 2).toNat 0 ≤ 5) (hcp : cPre T.1 (T.1 2).toNat ≤ 12) (p a cap : Int) (sp : E.1 p = (10, 7)) (sa : E.1 a = (2, cap)) (sb : E.1 (a + 1) = (1, cap)) (ρ : Int) (hTb : pTb m p a T.2.2.2.toNat (cOd T.1 T.2.1) (cBr T.1 T.2.1) (fA T.2.2.2.toNat) (tPairs T) ρ) (hok : ∀ r ∈ tPairs T, rOk T.2.2.2.toNat (cMay T.1 T.2.1 T.2.2.1) (fA T.2.2.2.toNat) r) (hL : ((tPairs T).length : Int) ≤ cap) (hLb : (tPairs T).length ≤ 10395) (hρ : 0 ≤ ρ ∧ ρ ≤ 1) (so : E.1 15 = (8, 3)) (ka kcap : Int) (ska : E.1 ka = (2, kcap)) (skb : E.1 (ka + 1) = (1, kcap)) (k0 : m 15 0 = ka) (k1 : m 15 1 = ka + 1) (hkc : 32 ≤ kcap ∧ kcap ≤ 16384) (b bcap : Int) (sB : shDg E b bcap) (qB_ : qDg m 14 b) (dj : dDj t p a ka b) (hN : 95 < E.2.1 ∧ t + 28 ≤ E.2.1 ∧ a + 2 ≤ E.2.1 ∧ ka + 2 ≤ E.2.1 ∧ b + 8 ≤ E.2.1) : zR zX0_build (d + 10) [zP 14, zP t, zP p] m E (kE1 (dE1 E bcap (rm ((tPairs T).length : Int))) kcap ((tPairs T).length : Int)) (fun r m' => r = none ∧ ∃ b1 bc1 ka1 kc1 : Int, shDg (kE1 (dE1 E bcap (rm ((tPairs T).length : Int))) kcap ((tPairs T).length : Int)) b1 bc1 ∧ (kE1 (dE1 E bcap (rm ((tPairs T).length : Int))) kcap ((tPairs T).length : Int)).1 ka1 = (2, kc1) ∧ (kE1 (dE1 E bcap (rm ((tPairs T).length : Int))) kcap ((tPairs T).length : Int)).1 (ka1 + 1) = (1, kc1) ∧ dDj t p a ka1 b1 ∧ ((b1 = b ∨ E.2.1 ≤ b1) ∧ (ka1 = ka ∨ E.2.1 ≤ ka1) ∧ (b1 + 8 ≤ (kE1 (dE1 E bcap (rm ((tPairs T).length : Int))) kcap ((tPairs T).length : Int)).2.1 ∧ ka1 + 2 ≤ (kE1 (dE1 E bcap (rm ((tPairs T).length : Int))) kcap ((tPairs T).length : Int)).2.1)) ∧ (bc1 = (if bcap < rm ((tPairs T).length : Int) then rm ((tPairs T).length : Int) else bcap) ∧ (tPairs T).length ≤ bc1 ∧ kc1 = (if kcap < ((2 ^ (kEx ((tPairs T).length : Int) 10 0) : Nat) : Int) then kRm kcap ((tPairs T).length : Int) else kcap) ∧ 32 ≤ kc1 ∧ kc1 ≤ 16384) ∧ qDg m' 14 b1 ∧ m' 14 19 = 1 ∧ (m' 14 14 = (tH T : Int) ∧ m' 14 15 = ((tAll T.1 : Nat) : Int) ∧ m' 14 16 = ((tOut T.1 : Nat) : Int) ∧ m' 14 17 = oTh T.1 (T.1 2).toNat) ∧ m' 15 0 = ka1 ∧ m' 15 1 = ka1 + 1 ∧ m' 15 2 = ((2 ^ (kEx ((tPairs T).length : Int) 10 0) : Nat) : Int) ∧ ((∀ c k : Int, c < (E.2.1 : Int) → (c < 14 ∨ (15 < c ∧ c < 22) ∨ 24 < c) → (c < ka ∨ ka + 1 < c) → (c < b ∨ b + 8 ≤ c) → m' c k = m c k) ∧ ∀ k : Int, k < 5 → m' 14 k = m 14 k) ∧ ∃ D F cc, dRw m' b1 ka1 (kEx ((tPairs T).length : Int) 10 0) T D F cc) := by
  have dj0 := dj
  obtain ⟨dj1, dj2, dj3, dj4, dj5, dj6, dj7, dj8, dj9, dj10⟩ := dj
  have hn := hl.1
  have hrm := rm_ge (x := ((tPairs T).length : Int)) (by omega)
  have hrm2 := rm_le ((tPairs T).length : Int)
  have hrm3 := rm_16 ((tPairs T).length : Int)
  have l1 := dE1_le E bcap (rm ((tPairs T).length : Int))
  have l2 := kE1_le (dE1 E bcap (rm ((tPairs T).length : Int))) kcap ((tPairs T).length : Int)
  have lA : E.2.1 ≤ (kE1 (dE1 E bcap (rm ((tPairs T).length : Int))) kcap ((tPairs T).length : Int)).2.1 := by omega
  have lB : E.2.2 ≤ (kE1 (dE1 E bcap (rm ((tPairs T).length : Int))) kcap ((tPairs T).length : Int)).2.2 := by omega
  refine zR_go [zP 14, zP t, zP p, zN, zN, zN, zN] (by decide +kernel) (Nat.le_of_ble_eq_true rfl) rfl rfl ?_
  refine z_aload_n dX0_build_0 rfl ?_
  refine z_aload_n dX0_build_1 rfl ?_
  refine z_gIv 2 rfl flX0_60 dX0_build_2 sp rfl hTb.2.2.1 ?_
  refine z_callS mlX0_66 dX0_build_5 (av := [_]) rfl rfl (Nat.le_of_ble_eq_true rfl) (c_roomFor _ ((tPairs T).length : Int) (by omega)) (Nat.le_refl _) (Nat.le_refl _) lA lB ?_
  rintro _ _ ⟨rfl, rfl⟩
  refine z_callV mlX0_70 dX0_build_8 s14 (av := [_]) rfl rfl (Nat.le_of_ble_eq_true rfl) (c_mkR _ s14 b bcap sB qB_ (by omega) (by omega) (rm ((tPairs T).length : Int)) (by omega) hN.1) (show E.2.1 ≤ (dE1 E bcap (rm ((tPairs T).length : Int))).2.1 from l1.1) (show E.2.2 ≤ (dE1 E bcap (rm ((tPairs T).length : Int))).2.2 from l1.2) l2.1 l2.2 ?_
  rintro _ m1 ⟨rfl, b1, bc1, sB1, hbc, hbce, qB1, hb1, fr1⟩
  have eo := fun c (h : c < (E.2.1 : Int)) => dE1_o (E := E) (bcap := bcap) (R := rm ((tPairs T).length : Int)) h
  have s14 := (eo 14 (by omega)).trans s14
  have s22 := (eo 22 (by omega)).trans s22
  have s23 := (eo 23 (by omega)).trans s23
  have s24 := (eo 24 (by omega)).trans s24
  have so := (eo 15 (by omega)).trans so
  have sp := (eo p (by omega)).trans sp
  have sa := (eo a (by omega)).trans sa
  have sb := (eo (a + 1) (by omega)).trans sb
  have ska := (eo ka (by omega)).trans ska
  have skb := (eo (ka + 1) (by omega)).trans skb
  have sT := shT_in sT (fun b' h1 h2 => eo b' (by omega))
  have ht1 : ∀ b' j, t ≤ b' → b' < t + 28 → m1 b' j = m b' j := fun b' j h1 h2 => fr1 b' j (by omega) (by omega)
  refine z_aload_n dX0_build_11 rfl ?_
  refine z_aload_n dX0_build_12 rfl ?_
  refine z_gIv 14 rfl flX0_74 dX0_build_13 (sT0 sT) rfl ((ht1 t 14 (by omega) (by omega)).trans hF.1) ?_
  refine z_iconst dX0_build_16 (by decide) ?_
  refine z_div dX0_build_17 (by omega) (by omega) ?_
  refine z_pI 14 rfl (fpX0_79 _) dX0_build_18 s14 rfl ?_
  refine z_aload_n dX0_build_21 rfl ?_
  refine z_aload_n dX0_build_22 rfl ?_
  refine z_callV mlX0_82 dX0_build_23 (sT0 sT) (av := _) rfl rfl (Nat.le_of_ble_eq_true rfl) (c_allPoints _ t (by omega) sT (ptT_in pT (fun b' j h1 h2 => ((zu_a (by omega)).trans (ht1 b' j h1 h2)))) T.1 (wfD_of hw) (cTh_in pT (wfD_of hw) hc (fun b' j h1 h2 => ((zu_a (by omega)).trans (ht1 b' j h1 h2))))) (Nat.le_refl _) (Nat.le_refl _) l2.1 l2.2 ?_
  rintro _ _ ⟨rfl, rfl⟩
  refine z_pI 15 rfl (fpX0_86 _) dX0_build_26 s14 rfl ?_
  refine z_aload_n dX0_build_29 rfl ?_
  refine z_aload_n dX0_build_30 rfl ?_
  refine z_callV mlX0_88 dX0_build_31 (sT0 sT) (av := _) rfl rfl (Nat.le_of_ble_eq_true rfl) (c_outerPoints _ t (by omega) sT (ptT_in pT (fun b' j h1 h2 => ((zu_a (by omega)).trans ((zu_a (by omega)).trans (ht1 b' j h1 h2))))) T.1 (wfD_of hw) (cTh_in pT (wfD_of hw) hc (fun b' j h1 h2 => ((zu_a (by omega)).trans ((zu_a (by omega)).trans (ht1 b' j h1 h2)))))) (Nat.le_refl _) (Nat.le_refl _) l2.1 l2.2 ?_
  rintro _ _ ⟨rfl, rfl⟩
  refine z_pI 16 rfl (fpX0_91 _) dX0_build_34 s14 rfl ?_
  refine z_aload_n dX0_build_37 rfl ?_
  refine z_aload_n dX0_build_38 rfl ?_
  refine z_callV mlX0_93 dX0_build_39 (sT0 sT) (av := _) rfl rfl (Nat.le_of_ble_eq_true rfl) (c_tOrders _ t (by omega) sT (ptT_in pT (fun b' j h1 h2 => ((zu_a (by omega)).trans ((zu_a (by omega)).trans ((zu_a (by omega)).trans (ht1 b' j h1 h2)))))) T.1 hw (cTh_in pT (wfD_of hw) hc (fun b' j h1 h2 => ((zu_a (by omega)).trans ((zu_a (by omega)).trans ((zu_a (by omega)).trans (ht1 b' j h1 h2)))))) hcp hV) (Nat.le_refl _) (Nat.le_refl _) l2.1 l2.2 ?_
  rintro _ _ ⟨rfl, rfl⟩
  refine z_pI 17 rfl (fpX0_96 _) dX0_build_42 s14 rfl ?_
  refine z_aload_n dX0_build_45 rfl ?_
  refine z_iconst dX0_build_46 (by decide) ?_
  refine z_pI 13 rfl (fpX0_98 _) dX0_build_47 s14 rfl ?_
  refine z_aload_n dX0_build_50 rfl ?_
  refine z_aload_n dX0_build_51 rfl ?_
  refine z_iconst dX0_build_52 (by decide) ?_
  refine z_iconst dX0_build_53 (by decide) ?_
  refine z_iconst dX0_build_54 (by decide) ?_
  refine z_callV mlX0_101 dX0_build_55 s14 (av := [_, _, _, _]) rfl rfl (Nat.le_of_ble_eq_true rfl) (c_listAll d s14 s22 s23 s24 ((zu_j (by omega)).trans ((zu_j (by omega)).trans ((zu_j (by omega)).trans ((zu_j (by omega)).trans ((zu_j (by omega)).trans ((fr1 _ _ (by omega) (by omega)).trans q22)))))) ((zu_j (by omega)).trans ((zu_j (by omega)).trans ((zu_j (by omega)).trans ((zu_j (by omega)).trans ((zu_j (by omega)).trans ((fr1 _ _ (by omega) (by omega)).trans q23)))))) ((zu_j (by omega)).trans ((zu_j (by omega)).trans ((zu_j (by omega)).trans ((zu_j (by omega)).trans ((zu_j (by omega)).trans ((fr1 _ _ (by omega) (by omega)).trans q24)))))) t t7 sT (ptT_in pT (fun b' j h1 h2 => ((zu_a (by omega)).trans ((zu_a (by omega)).trans ((zu_a (by omega)).trans ((zu_a (by omega)).trans ((zu_a (by omega)).trans (ht1 b' j h1 h2)))))))) T.1 hw (cTh_in pT (wfD_of hw) hc (fun b' j h1 h2 => ((zu_a (by omega)).trans ((zu_a (by omega)).trans ((zu_a (by omega)).trans ((zu_a (by omega)).trans ((zu_a (by omega)).trans (ht1 b' j h1 h2)))))))) hV zu_s) (Nat.le_refl _) (Nat.le_refl _) l2.1 l2.2 ?_
  rintro _ m2 ⟨rfl, g2, hx2⟩
  have o2 : ∀ c k : Int, c ≠ 22 → (c ≠ 14 ∨ k < 13 ∨ 17 < k) → m2 c k = m1 c k := fun c k h1 h2 => by
    rw [fC_o g2 (by omega)]
    by_cases z : c = 14
    · rw [z, zu_j (by omega), zu_j (by omega), zu_j (by omega), zu_j (by omega), zu_j (by omega)]
    · rw [zu_a z, zu_a z, zu_a z, zu_a z, zu_a z]
  have v14 : m2 14 14 = (tH T : Int) := (fC_o g2 (by omega)).trans ((zu_j (by omega)).trans ((zu_j (by omega)).trans ((zu_j (by omega)).trans ((zu_j (by omega)).trans (zu_s.trans (by unfold tH; omega))))))
  have v15 : m2 14 15 = ((tAll T.1 : Nat) : Int) := (fC_o g2 (by omega)).trans ((zu_j (by omega)).trans ((zu_j (by omega)).trans ((zu_j (by omega)).trans zu_s)))
  have v16 : m2 14 16 = ((tOut T.1 : Nat) : Int) := (fC_o g2 (by omega)).trans ((zu_j (by omega)).trans ((zu_j (by omega)).trans zu_s))
  have v17 : m2 14 17 = oTh T.1 (T.1 2).toNat := (fC_o g2 (by omega)).trans ((zu_j (by omega)).trans zu_s)
  clear g2
  refine z_aload_n dX0_build_58 rfl ?_
  refine z_gP 0 rfl (r := 15) flX0_12 dX0_build_59 s14 rfl ((o2 _ _ (by omega) (by omega)).trans ((fr1 _ _ (by omega) (by omega)).trans q12)) (by omega) ?_
  refine z_aload_n dX0_build_62 rfl ?_
  refine z_gIv 2 rfl flX0_60 dX0_build_63 sp rfl ((o2 _ _ (by omega) (by omega)).trans ((fr1 _ _ (by omega) (by omega)).trans hTb.2.2.1)) ?_
  refine z_callV mlX0_105 dX0_build_66 so (av := [_]) rfl rfl (Nat.le_of_ble_eq_true rfl) (c_kcl _ so ka kcap ska skb (by omega) ((o2 _ _ (by omega) (by omega)).trans ((fr1 _ _ (by omega) (by omega)).trans k0)) ((o2 _ _ (by omega) (by omega)).trans ((fr1 _ _ (by omega) (by omega)).trans k1)) hkc (by have := hN; omega) (by omega) ((tPairs T).length : Int) (by omega)) l2.1 l2.2 (Nat.le_refl _) (Nat.le_refl _) ?_
  rintro _ m3 ⟨rfl, ka1, kc1, ska1, skb1, hka1, hkc1, hkc2, hkce, u0, u1, u2, hK3, fr3⟩
  have eo2 := fun c (h : c < ((dE1 E bcap (rm ((tPairs T).length : Int))).2.1 : Int)) => kE1_o (E := (dE1 E bcap (rm ((tPairs T).length : Int)))) (kcap := kcap) (x := ((tPairs T).length : Int)) h
  have s14 := (eo2 14 (by omega)).trans s14
  have s22 := (eo2 22 (by omega)).trans s22
  have s23 := (eo2 23 (by omega)).trans s23
  have s24 := (eo2 24 (by omega)).trans s24
  have so := (eo2 15 (by omega)).trans so
  have sp := (eo2 p (by omega)).trans sp
  have sa := (eo2 a (by omega)).trans sa
  have sb := (eo2 (a + 1) (by omega)).trans sb
  have sT := shT_in sT (fun b' h1 h2 => eo2 b' (by omega))
  have sB1 := shDg_in sB1 (fun x h1 h2 => eo2 x (by omega))
  have hcl : ∀ c k : Int, c < (E.2.1 : Int) → (c < 14 ∨ (15 < c ∧ c < 22) ∨ 24 < c) → (c < ka ∨ ka + 1 < c) → m3 c k = m c k := fun c k h1 h2 h3 => (fr3 c k (by omega) (by omega) (by omega)).trans ((o2 c k (by omega) (by omega)).trans (fr1 c k h1 (by omega)))
  have h14 : ∀ k : Int, (k < 5 ∨ 18 < k) → m3 14 k = m 14 k := fun k h1 => (fr3 14 k (by omega) (by omega) (by omega)).trans ((o2 14 k (by omega) (by omega)).trans (fr1 14 k (by omega) (by omega)))
  have h14b : ∀ k : Int, m3 14 k = m2 14 k := fun k => fr3 14 k (by omega) (by omega) (by omega)
  have ht3 : ∀ b' j, t ≤ b' → b' < t + 28 → m3 b' j = m b' j := fun b' j h1 h2 => hcl b' j (by omega) (by omega) (by omega)
  have dj1 : dDj t p a ka1 b1 := dDj_g dj0 (by have := hN; omega) hb1 (by omega)
  refine z_aload_n dX0_build_69 rfl ?_
  refine z_iconst dX0_build_70 (by decide) ?_
  refine z_pI 18 rfl (fpX0_108 _) dX0_build_71 s14 rfl ?_
  refine z_iconst dX0_build_74 (by decide) ?_
  refine z_ist 3 dX0_build_75 rfl (Nat.le_of_ble_eq_true rfl) ?_
  try dsimp only [zs0, zsI, zsP, zsN, zsJ, zsS, zst2, Nat.reduceAdd]
  refine zA_wk [_, _, _, _, zN, zN, zN] (by exact ⟨Or.inr rfl, Or.inr rfl, Or.inr rfl, Or.inr rfl, Or.inl rfl, Or.inl rfl, Or.inl rfl, trivial⟩) ?_
  have kz := kEx_ok (x := ((tPairs T).length : Int)) (by omega)
  have kl := kEx_lt (x := ((tPairs T).length : Int)) (by omega)
  have hq : ∀ k : Int, k < 5 → zu m3 14 18 0 14 k = m 14 k := fun k h => (zu_j (by omega)).trans (h14 k (by omega))
  have ht4 : ∀ b' j, t ≤ b' → b' < t + 28 → zu m3 14 18 0 b' j = m b' j := fun b' j h1 h2 => (zu_a (by omega)).trans (ht3 b' j h1 h2)
  have hTb4 : pTb (zu m3 14 18 0) p a T.2.2.2.toNat (cOd T.1 T.2.1) (cBr T.1 T.2.1) (fA T.2.2.2.toNat) (tPairs T) ρ := pTb_e hTb (fun x => (zu_a (by omega)).trans (hcl p x (by have := hN; omega) (by omega) (by omega))) (fun x => (zu_a (by omega)).trans (hcl a x (by have := hN; omega) (by omega) (by omega))) (fun x => (zu_a (by omega)).trans (hcl (a + 1) x (by have := hN; omega) (by omega) (by omega)))
  have qB4 : qDg (zu m3 14 18 0) 14 b1 := qDg_f qB1 (fun x x0 x1 => (zu_j (by omega)).trans ((h14b x).trans (o2 14 x (by omega) (by omega))))
  have dj1' := dj1
  obtain ⟨e1, e2, e3, e4, e5, e6, e7, e8, e9, e10⟩ := dj1'
  refine l_build (d + 7) s14 s22 s23 s24 ((hq 2 (by decide)).trans q22) ((hq 3 (by decide)).trans q23) ((hq 4 (by decide)).trans q24) ((hq 0 (by decide)).trans q12) t t7 sT (ptT_in pT ht4) T hw hl hfl (cTh_in pT (wfD_of hw) hc ht4) (cFl_in hF ht4) hod hV p a cap sp sa sb ρ hTb4 hok hL hLb hρ so ka1 kc1 ska1 skb1 ((zu_a (by omega)).trans u0) ((zu_a (by omega)).trans u1) (kEx ((tPairs T).length : Int) 10 0) kz.1 ((zu_a (by omega)).trans u2) hkc1 kl b1 bc1 sB1 qB4 (by omega) dj1 ((zu_j (by omega)).trans ((h14b 14).trans v14)) (xC_f hx2 ((zu_j (by omega)).trans (h14b 13)) (fun x => (zu_a (by omega)).trans (fr3 22 x (by omega) (by omega) (by omega)))) (tPairs T).length 0 [] (fun _ => -1) 0 (zu m3 14 18 0) (by omega) (Nat.le_refl _) zfr_rf ?_ ?_ zu_s ?_ ?_
  · exact bS_0 T
  · exact kT_fr hK3 (funext fun x => zu_a (by omega)) (funext fun x => zu_a (by omega))
  · exact ⟨fun i v hv => (by cases hv), fun k r hr => (by rw [List.take_zero] at hr; cases hr)⟩
  intro m4 D F cc f4 hB hK hD hDl hS
  have f14 : ∀ k : Int, k ≠ 18 → m4 14 k = m3 14 k := fun k hk => (fBd_o f4 (by omega)).trans (zu_j hk)
  have f15 : ∀ k : Int, m4 15 k = m3 15 k := fun k => (fBd_o f4 (by omega)).trans (zu_a (by omega))
  refine l_bd163 (d + 7) s14 T ka1 b1 bc1 sB1 (qDg_f qB4 (fun x x0 x1 => fBd_o f4 (by omega))) e3 e5 e1 (by omega) hLb _ D F cc hB hK hD hDl hS ?_
  rintro m5 ⟨o5, r5, hR⟩
  refine ⟨rfl, b1, bc1, ka1, kc1, sB1, ska1, skb1, dj1, ⟨?_, ?_, ?_⟩, ⟨hbce, by omega, hkce, hkc2⟩, ?_, r5, ⟨?_, ?_, ?_, ?_⟩, ?_, ?_, ?_, ?_, ⟨D, F, cc, hR⟩⟩
  · omega
  · omega
  · omega
  · exact qDg_f qB4 (fun x x0 x1 => (o5 14 x (by omega) (by omega)).trans (fBd_o f4 (by omega)))
  · exact (o5 14 14 (by omega) (by omega)).trans ((f14 14 (by decide)).trans ((h14b 14).trans v14))
  · exact (o5 14 15 (by omega) (by omega)).trans ((f14 15 (by decide)).trans ((h14b 15).trans v15))
  · exact (o5 14 16 (by omega) (by omega)).trans ((f14 16 (by decide)).trans ((h14b 16).trans v16))
  · exact (o5 14 17 (by omega) (by omega)).trans ((f14 17 (by decide)).trans ((h14b 17).trans v17))
  · exact (o5 15 0 (by omega) (by omega)).trans ((f15 0).trans u0)
  · exact (o5 15 1 (by omega) (by omega)).trans ((f15 1).trans u1)
  · exact (o5 15 2 (by omega) (by omega)).trans ((f15 2).trans u2)
  · refine ⟨fun c k h1 h2 h3 h4 => ?_, fun k hk => ?_⟩
    · have hx : c ≠ 14 ∧ c ≠ 15 ∧ c ≠ 22 ∧ c ≠ 23 ∧ c ≠ 24 := by clear e1 e2 e3 e4 e5 e6 e7 e8 e9 e10 h3 h4 hb1 hka1 dj0 dj1 hN; omega
      have hy : c ≠ ka1 ∧ c ≠ ka1 + 1 := by clear e1 e2 e3 e4 e5 e6 e7 e8 e9 e10 h2 h4 hb1 dj0 dj1 hN; omega
      have hz : c < b1 ∨ b1 + 8 ≤ c := by clear e1 e2 e3 e4 e5 e6 e7 e8 e9 e10 h2 h3 hka1 dj0 dj1 hN; omega
      clear e1 e2 e3 e4 e5 e6 e7 e8 e9 e10 h4 hb1 hka1 dj0 dj1
      exact (o5 c k (by omega) (by omega)).trans ((fBd_o f4 ⟨hx.2.2.2.1, hx.2.2.2.2, hy.1, hy.2, hz, Or.inl hx.1⟩).trans ((zu_a (by omega)).trans (hcl c k h1 h2 h3)))
    · exact (o5 14 k (by omega) (by omega)).trans ((f14 k (by omega)).trans (h14 k (by omega)))
