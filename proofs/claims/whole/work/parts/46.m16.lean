def fLeast : List (Int × Option Int) := (aM, some f_wantedName) :: fTries
theorem sCat_lenb {α : Type} {g : Int → List α} {b : Nat} : ∀ {s : Nat} {k : Int}, (∀ j, (g j).length ≤ b) → (sCat g s k).length ≤ s * b
  | 0, _, _ => by simp [sCat]
  | s + 1, k, h => by
    have h1 := sCat_lenb (g := g) (b := b) (s := s) (k := k + 1) h
    have h2 := h k
    rw [sCat_s, List.length_append, Nat.add_mul, Nat.one_mul]
    omega
theorem sPlc_pow {nP : Nat} (al : Int → Int → Bool) (V : (Int → Int) → Int) : ∀ (s p used : Nat) (pl : Int → Int), (sPlc nP al V s p used pl).length ≤ nP ^ s
  | 0, _, _, _ => by simp [sPlc]
  | s + 1, p, used, pl => by
    rw [Nat.pow_succ, Nat.mul_comm]
    refine sCat_lenb (fun q => ?_)
    split
    · exact sPlc_pow al V s _ _ _
    · simp
theorem sPlc_len {nP : Nat} (hn : nP ≤ 8) (al : Int → Int → Bool) (V : (Int → Int) → Int) (s : Nat) (hs : s ≤ 8) (p used : Nat) (pl : Int → Int) : (sPlc nP al V s p used pl).length ≤ 16777216 := by
  refine Nat.le_trans (sPlc_pow al V s p used pl) ?_
  have : ∀ n, n < 9 → ∀ s, s < 9 → n ^ s ≤ 16777216 := by decide +kernel
  exact this nP (by omega) s (by omega)
theorem r_tries (d : Nat) {E : zE} (hE : shM E) : ∀ (s : Nat) {m : zM} (hm : ptM m) (hw : wfC (m a_c)) (hln : 0 ≤ m aM f_lines ∧ m aM f_lines ≤ 6) (hcd : ∀ k : Int, 0 ≤ k → k < m aM f_lines → 0 ≤ m a_codes k ∧ m a_codes k / 100 < m a_c 2 ∧ m a_codes k / 10 % 10 < m a_c 2) (p used : Nat) (hs : (p : Int) + s = m a_c 2) (hus : used < 256) (pl : Int → Int) (hag : ∀ x : Int, 0 ≤ x → x < p → m a_places x = pl x) (hpl : ∀ x : Int, 0 ≤ x → x < 8 → 0 ≤ m a_places x ∧ m a_places x < 8) (hsm : 0 ≤ m aM f_sameNames ∧ m aM f_sameNames + ((sPlc (m a_c 2).toNat (cAlike (m a_c)) (sV (m a_c) (m a_codes) (m aM f_lines).toNat) s p used pl).length : Int) ≤ 2000000000), zR zX12_tries (s + (d + 3)) [zP aM, zI (p : Nat), zI (used : Nat)] m E E (fun r m' => r = none ∧ zfr fTries m m' ∧ m' aM f_leastName = sLeast (m aM f_leastName) (sPlc (m a_c 2).toNat (cAlike (m a_c)) (sV (m a_c) (m a_codes) (m aM f_lines).toNat) s p used pl) ∧ m' aM f_sameNames = m aM f_sameNames + sSame (m aM f_wantedName) (sPlc (m a_c 2).toNat (cAlike (m a_c)) (sV (m a_c) (m a_codes) (m aM f_lines).toNat) s p used pl) ∧ (∀ x : Int, 0 ≤ x → x < 8 → 0 ≤ m' a_places x ∧ m' a_places x < 8) ∧ ∀ x : Int, 0 ≤ x → x < p → m' a_places x = m a_places x) := by
  intro s
  induction s with
  | zero =>
    intro m hm hw hln hcd p used hs hus pl hag hpl hsm
    exact r_tries_step d hE hm hw hln hcd 0 p used hs hus pl hag hpl hsm (fun h => absurd h (by omega))
  | succ s ih =>
    intro m hm hw hln hcd p used hs hus pl hag hpl hsm
    refine r_tries_step d hE hm hw hln hcd (s + 1) p used hs hus pl hag hpl hsm (fun _ q m2 hm2 hq hf hag2 hpl2 hsm2 => ?_)
    have hb3 := hw.2.2.1
    have e1 : m2 a_c = m a_c := zfr_cell hf (by decide)
    have e2 : m2 a_codes = m a_codes := zfr_cell hf (by decide)
    have e3 : m2 aM f_lines = m aM f_lines := zfr_at hf (by decide)
    have e4 : m2 aM f_wantedName = m aM f_wantedName := zfr_at hf (by decide)
    have q1 : (2 : Nat) ^ q < 256 := Nat.pow_lt_pow_right (n := 8) (by omega) (by omega)
    have h := ih hm2 (by rw [e1]; exact hw) (by rw [e3]; exact hln) (by rw [e1, e2, e3]; exact hcd) (p + 1) (used ||| 2 ^ q) (by rw [e1]; omega) (Nat.or_lt_two_pow (n := 8) hus q1) (fun x => if x = (p : Int) then (q : Int) else pl x) (fun x a1 a2 => hag2 x a1 (by omega)) hpl2 (by rw [e1, e2, e3]; exact hsm2)
    rw [e1, e2, e3, e4] at h
    rw [show s + 1 + (d + 2) = s + (d + 3) by omega]
    exact h

theorem r_leastOf (d : Nat) {E : zE} {m : zM} (hE : shM E) (hm : ptM m) (hw : wfC (m a_c)) (hln : 0 ≤ m aM f_lines ∧ m aM f_lines ≤ 6) (hcd : ∀ k : Int, 0 ≤ k → k < m aM f_lines → 0 ≤ m a_codes k ∧ m a_codes k / 100 < m a_c 2 ∧ m a_codes k / 10 % 10 < m a_c 2) (hpl : ∀ x : Int, 0 ≤ x → x < 8 → 0 ≤ m a_places x ∧ m a_places x < 8) (wn : Int) : zR zX12_leastOf (d + 12) [zP aM, zJ wn] m E E (fun r m' => r = some (zJ (sLeast (-1) (sPlc (m a_c 2).toNat (cAlike (m a_c)) (sV (m a_c) (m a_codes) (m aM f_lines).toNat) (m a_c 2).toNat 0 0 (fun _ => 0)))) ∧ zfr fLeast m m' ∧ m' aM f_sameNames = sSame wn (sPlc (m a_c 2).toNat (cAlike (m a_c)) (sV (m a_c) (m a_codes) (m aM f_lines).toNat) (m a_c 2).toNat 0 0 (fun _ => 0)) ∧ ∀ x : Int, 0 ≤ x → x < 8 → 0 ≤ m' a_places x ∧ m' a_places x < 8) := by
  have hb3 := hw.2.2.1
  obtain ⟨D, hD⟩ : ∃ D, d + 12 = ((m a_c 2).toNat + (D + 3)) + 1 := ⟨d + 8 - (m a_c 2).toNat, by omega⟩
  rw [hD]
  have ec : (zu (zu (zu m aM f_leastName (-1)) aM f_wantedName wn) aM f_sameNames 0) a_c = m a_c := by rw [zu_fn (by decide), zu_fn (by decide), zu_fn (by decide)]
  have eo : (zu (zu (zu m aM f_leastName (-1)) aM f_wantedName wn) aM f_sameNames 0) a_codes = m a_codes := by rw [zu_fn (by decide), zu_fn (by decide), zu_fn (by decide)]
  have ep : (zu (zu (zu m aM f_leastName (-1)) aM f_wantedName wn) aM f_sameNames 0) a_places = m a_places := by rw [zu_fn (by decide), zu_fn (by decide), zu_fn (by decide)]
  have el : (zu (zu (zu m aM f_leastName (-1)) aM f_wantedName wn) aM f_sameNames 0) aM f_lines = m aM f_lines := by rw [zu_j (by decide), zu_j (by decide), zu_j (by decide)]
  have ew : (zu (zu (zu m aM f_leastName (-1)) aM f_wantedName wn) aM f_sameNames 0) aM f_wantedName = wn := by rw [zu_j (by decide), zu_s]
  have hm3 : ptM (zu (zu (zu m aM f_leastName (-1)) aM f_wantedName wn) aM f_sameNames 0) := ptM_j (ptM_j (ptM_j hm (by decide)) (by decide)) (by decide)
  have htr := r_tries D hE (m a_c 2).toNat (m := (zu (zu (zu m aM f_leastName (-1)) aM f_wantedName wn) aM f_sameNames 0)) hm3 (by rw [ec]; exact hw) (by rw [el]; exact hln) (by rw [ec, eo, el]; exact hcd) 0 0 (by rw [ec]; omega) (by omega) (fun _ => 0) (fun x a1 a2 => by omega) (by rw [ep]; exact hpl) (by rw [zu_s]; have := sPlc_len (nP := ((zu (zu (zu m aM f_leastName (-1)) aM f_wantedName wn) aM f_sameNames 0) a_c 2).toNat) (by rw [ec]; omega) (cAlike ((zu (zu (zu m aM f_leastName (-1)) aM f_wantedName wn) aM f_sameNames 0) a_c)) (sV ((zu (zu (zu m aM f_leastName (-1)) aM f_wantedName wn) aM f_sameNames 0) a_c) ((zu (zu (zu m aM f_leastName (-1)) aM f_wantedName wn) aM f_sameNames 0) a_codes) ((zu (zu (zu m aM f_leastName (-1)) aM f_wantedName wn) aM f_sameNames 0) aM f_lines).toNat) (m a_c 2).toNat (by omega) 0 0 (fun _ => 0); omega)
  rw [ec, eo, el, ew] at htr
  refine zR_go [zP aM, zJ wn, zN] (by decide +kernel) (Nat.le_of_ble_eq_true rfl) rfl rfl ?_
  refine z_aload_n dX12_leastOf_0 rfl ?_
  refine z_ldc2 dX12_leastOf_1 kcX12_241 (by decide) ?_
  refine z_pJ f_leastName rfl (fpX12_224 _) dX12_leastOf_4 (sh_M hE) rfl ?_
  refine z_aload_n dX12_leastOf_7 rfl ?_
  refine z_lload_n dX12_leastOf_8 rfl ?_
  refine z_pJ f_wantedName rfl (fpX12_231 _) dX12_leastOf_9 (sh_M hE) rfl ?_
  refine z_aload_n dX12_leastOf_12 rfl ?_
  refine z_iconst dX12_leastOf_13 (by decide) ?_
  refine z_pI f_sameNames rfl (fpX12_228 _) dX12_leastOf_14 (sh_M hE) rfl ?_
  refine z_aload_n dX12_leastOf_17 rfl ?_
  refine z_iconst dX12_leastOf_18 (by decide) ?_
  refine z_iconst dX12_leastOf_19 (by decide) ?_
  refine z_callV mlX12_237 dX12_leastOf_20 (sh_M hE) (av := [_, _]) rfl rfl (Nat.le_of_ble_eq_true rfl) htr (Nat.le_refl _) (Nat.le_refl _) (Nat.le_refl _) (Nat.le_refl _) ?_
  rintro _ m3 ⟨rfl, p1, p2, p3, p4, -⟩
  refine z_aload_n dX12_leastOf_23 rfl ?_
  refine z_gJ f_leastName rfl flX12_224 dX12_leastOf_24 (sh_M hE) rfl ?_
  refine z_lret dX12_leastOf_27 rfl rfl ?_
  refine ⟨?_, zfr_tr (zfr_uj (zfr_uj (zfr_uj zfr_rf (by decide)) (by decide)) (by decide)) (zfr_sub p1 (by decide)), ?_, p4⟩
  · rw [p2, zu_j (by decide), zu_j (by decide), zu_s]
  · rw [p3, zu_s, Int.zero_add]
