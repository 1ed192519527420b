def fTries : List (Int × Option Int) := [(a_places, none), (a_moved, none), (aM, some f_leastName), (aM, some f_sameNames)]
/-- the name that places give to codes -/
noncomputable def sV (c co : Int → Int) (L : Nat) (pl : Int → Int) : Int := sKey (fun k => cImg c pl (co k)) L
/-- the names by all changes of places from point p on, s of them left -/
def sPlc (nP : Nat) (al : Int → Int → Bool) (V : (Int → Int) → Int) : Nat → Nat → Nat → (Int → Int) → List Int
  | 0, _, _, pl => [V pl]
  | s + 1, p, used, pl => sCat (fun q => if used.testBit q.toNat = false ∧ (q = p ∨ al p q = true) then sPlc nP al V s (p + 1) (used ||| 2 ^ q.toNat) (fun x => if x = (p : Int) then q else pl x) else []) nP 0
def sLeast (b : Int) (vs : List Int) : Int := vs.foldl (fun b v => if b < 0 ∨ v < b then v else b) b
def sSame (w : Int) : List Int → Int
  | [] => 0
  | v :: vs => zb (v = w) + sSame w vs
theorem sLeast_app (b : Int) (xs ys : List Int) : sLeast b (xs ++ ys) = sLeast (sLeast b xs) ys := by unfold sLeast; rw [List.foldl_append]
theorem sSame_app (w : Int) : ∀ xs ys : List Int, sSame w (xs ++ ys) = sSame w xs + sSame w ys
  | [], ys => by simp [sSame]
  | x :: xs, ys => by simp only [List.cons_append, sSame, sSame_app w xs ys]; omega
theorem sSame_bd (w : Int) : ∀ xs : List Int, 0 ≤ sSame w xs ∧ sSame w xs ≤ xs.length
  | [] => by simp [sSame]
  | x :: xs => by have := sSame_bd w xs; have := zb01 (x = w); simp only [sSame, List.length_cons]; omega
theorem ptM_t {m m1 : zM} (h : ptM m) (b : zfr fTries m m1) : ptM m1 := fun q hq => by
  have hq2 : ∀ q ∈ mPt, fTries.all (fun r => r.1 != aM || (r.2 != none && r.2 != some q.1)) = true := by decide
  rw [zfr_at b (hq2 q hq)]
  exact h q hq
theorem zcmp_lt {a b : Int} : zcmp a b < 0 ↔ a < b := by unfold zcmp; split <;> (try split) <;> omega
theorem zcmp_eq {a b : Int} : zcmp a b = 0 ↔ a = b := by unfold zcmp; split <;> (try split) <;> omega
theorem zcmp_gt {a b : Int} : 0 < zcmp a b ↔ b < a := by unfold zcmp; split <;> (try split) <;> omega
theorem zcmp_ge {a b : Int} : 0 ≤ zcmp a b ↔ b ≤ a := by unfold zcmp; split <;> (try split) <;> omega
theorem zcmp_le {a b : Int} : zcmp a b ≤ 0 ↔ a ≤ b := by unfold zcmp; split <;> (try split) <;> omega
theorem l_tries_q (d : Nat) {E : zE} {m : zM} {P : Option zV → zM → Prop} (hE : shM E) (hw : wfC (m a_c)) (hln : 0 ≤ m aM f_lines ∧ m aM f_lines ≤ 6) (hcd : ∀ k : Int, 0 ≤ k → k < m aM f_lines → 0 ≤ m a_codes k ∧ m a_codes k / 100 < m a_c 2 ∧ m a_codes k / 10 % 10 < m a_c 2) (s : Nat) (p used : Nat) (hs : (p : Int) + s = m a_c 2) (hus : used < 256) (pl : Int → Int) (hag : ∀ x : Int, 0 ≤ x → x < p → m a_places x = pl x) (hpl : ∀ x : Int, 0 ≤ x → x < 8 → 0 ≤ m a_places x ∧ m a_places x < 8) (hs0 : 0 < s) (hsm0 : 0 ≤ m aM f_sameNames) (rec : ∀ (q : Nat) (m2 : zM), ptM m2 → (q : Int) < m a_c 2 → zfr fTries m m2 → (∀ x : Int, 0 ≤ x → x < p + 1 → m2 a_places x = (if x = (p : Int) then (q : Int) else pl x)) → (∀ x : Int, 0 ≤ x → x < 8 → 0 ≤ m2 a_places x ∧ m2 a_places x < 8) → 0 ≤ m2 aM f_sameNames ∧ m2 aM f_sameNames + ((sPlc (m a_c 2).toNat (cAlike (m a_c)) (sV (m a_c) (m a_codes) (m aM f_lines).toNat) (s - 1) (p + 1) (used ||| 2 ^ q) (fun x => if x = (p : Int) then (q : Int) else pl x)).length : Int) ≤ 2000000000 → zR zX12_tries (s + (d + 2)) [zP aM, zI ((p + 1 : Nat) : Int), zI ((used ||| 2 ^ q : Nat) : Int)] m2 E E (fun r m3 => r = none ∧ zfr fTries m2 m3 ∧ m3 aM f_leastName = sLeast (m2 aM f_leastName) (sPlc (m a_c 2).toNat (cAlike (m a_c)) (sV (m a_c) (m a_codes) (m aM f_lines).toNat) (s - 1) (p + 1) (used ||| 2 ^ q) (fun x => if x = (p : Int) then (q : Int) else pl x)) ∧ m3 aM f_sameNames = m2 aM f_sameNames + sSame (m aM f_wantedName) (sPlc (m a_c 2).toNat (cAlike (m a_c)) (sV (m a_c) (m a_codes) (m aM f_lines).toNat) (s - 1) (p + 1) (used ||| 2 ^ q) (fun x => if x = (p : Int) then (q : Int) else pl x)) ∧ (∀ x : Int, 0 ≤ x → x < 8 → 0 ≤ m3 a_places x ∧ m3 a_places x < 8) ∧ ∀ x : Int, 0 ≤ x → x < p + 1 → m3 a_places x = m2 a_places x)) : ∀ (j k : Nat) (m1 : zM) (done : List Int), ptM m1 → (k : Int) + j = m a_c 2 → (zfr fTries m m1 ∧ m1 aM f_leastName = sLeast (m aM f_leastName) done ∧ m1 aM f_sameNames = m aM f_sameNames + sSame (m aM f_wantedName) done ∧ (∀ x : Int, 0 ≤ x → x < 8 → 0 ≤ m1 a_places x ∧ m1 a_places x < 8) ∧ ∀ x : Int, 0 ≤ x → x < p → m1 a_places x = m a_places x) → m aM f_sameNames + ((done.length + (sCat (fun q => if used.testBit q.toNat = false ∧ (q = p ∨ (cAlike (m a_c)) p q = true) then (sPlc (m a_c 2).toNat (cAlike (m a_c)) (sV (m a_c) (m a_codes) (m aM f_lines).toNat) (s - 1) (p + 1) (used ||| 2 ^ q.toNat) (fun x => if x = (p : Int) then q else pl x)) else []) j k).length : Nat) : Int) ≤ 2000000000 → (∀ m2, (zfr fTries m m2 ∧ m2 aM f_leastName = sLeast (m aM f_leastName) (done ++ sCat (fun q => if used.testBit q.toNat = false ∧ (q = p ∨ (cAlike (m a_c)) p q = true) then (sPlc (m a_c 2).toNat (cAlike (m a_c)) (sV (m a_c) (m a_codes) (m aM f_lines).toNat) (s - 1) (p + 1) (used ||| 2 ^ q.toNat) (fun x => if x = (p : Int) then q else pl x)) else []) j k) ∧ m2 aM f_sameNames = m aM f_sameNames + sSame (m aM f_wantedName) (done ++ sCat (fun q => if used.testBit q.toNat = false ∧ (q = p ∨ (cAlike (m a_c)) p q = true) then (sPlc (m a_c 2).toNat (cAlike (m a_c)) (sV (m a_c) (m a_codes) (m aM f_lines).toNat) (s - 1) (p + 1) (used ||| 2 ^ q.toNat) (fun x => if x = (p : Int) then q else pl x)) else []) j k) ∧ (∀ x : Int, 0 ≤ x → x < 8 → 0 ≤ m2 a_places x ∧ m2 a_places x < 8) ∧ ∀ x : Int, 0 ≤ x → x < p → m2 a_places x = m a_places x) → P none m2) → zA zX12_tries (s + (d + 3)) E E P 71 [zP aM, zI (p : Nat), zI (used : Nat), zI (k : Nat), zN] [] m1 E := by
  intro j
  induction j with
  | zero =>
    intro k m1 done hm1 hk hI hcap hP
    obtain ⟨i1, i2, i3, i4, i5⟩ := hI
    have ec : m1 a_c = m a_c := zfr_cell i1 (by decide)
    have hb3 := hw.2.2.1
    refine z_iload_n dX12_tries_71 rfl ?_
    refine z_aload_n dX12_tries_72 rfl ?_
    refine z_gP 0 rfl (r := a_c) flX12_7 dX12_tries_73 (sh_M hE) rfl (pt_c hm1) (by decide) ?_
    refine z_iconst dX12_tries_76 (by decide) ?_
    refine z_ialv dX12_tries_77 (sh_c hE) (by omega) (by omega) (congrFun ec _) ?_
    refine z_icmp_ge (tgt := 131) dX12_tries_78 rfl (fun h78 => ?_) (fun h => absurd (by omega) h)
    refine z_vret dX12_tries_131 rfl rfl ?_
    exact hP m1 (by simpa [sCat] using (⟨i1, i2, i3, i4, i5⟩ : zfr fTries m m1 ∧ m1 aM f_leastName = sLeast (m aM f_leastName) done ∧ m1 aM f_sameNames = m aM f_sameNames + sSame (m aM f_wantedName) done ∧ (∀ x : Int, 0 ≤ x → x < 8 → 0 ≤ m1 a_places x ∧ m1 a_places x < 8) ∧ ∀ x : Int, 0 ≤ x → x < p → m1 a_places x = m a_places x))
  | succ j ih =>
    intro k m1 done hm1 hk hI hcap hP
    obtain ⟨i1, i2, i3, i4, i5⟩ := hI
    have ec : m1 a_c = m a_c := zfr_cell i1 (by decide)
    have hb3 := hw.2.2.1
    refine z_iload_n dX12_tries_71 rfl ?_
    refine z_aload_n dX12_tries_72 rfl ?_
    refine z_gP 0 rfl (r := a_c) flX12_7 dX12_tries_73 (sh_M hE) rfl (pt_c hm1) (by decide) ?_
    refine z_iconst dX12_tries_76 (by decide) ?_
    refine z_ialv dX12_tries_77 (sh_c hE) (by omega) (by omega) (congrFun ec _) ?_
    refine z_icmp_ge (tgt := 131) dX12_tries_78 rfl (fun h => absurd h (by omega)) (fun h78 => ?_)
    refine z_iload_n dX12_tries_81 rfl ?_
    refine z_iload_n dX12_tries_82 rfl ?_
    refine z_callS mlX12_158 dX12_tries_83 (av := [_, _]) rfl rfl (Nat.le_of_ble_eq_true rfl) (r_has _ hE hm1 used k (by omega) (by omega)) (Nat.le_refl _) (Nat.le_refl _) (Nat.le_refl _) (Nat.le_refl _) ?_
    rintro _ _ ⟨rfl, rfl⟩
    refine z_ifz_ne (tgt := 125) dX12_tries_86 rfl (fun h86 => ?_) (fun h86 => ?_)
    · refine z_inc dX12_tries_125 rfl (by omega) ?_
      refine z_goto (tgt := 71) dX12_tries_128 rfl ?_
      try dsimp only [zs0, zsI, zsP, zsN, zsJ, zsS, zst2, Nat.reduceAdd]
      rw [show (k : Int) + 1 = ((k + 1 : Nat) : Int) by omega]
      rw [sCat_s, if_neg (fun q => by rw [Int.toNat_natCast] at q; rw [h86] at q; exact absurd q.1 (by decide)), List.nil_append] at hcap hP
      exact ih (k + 1) m1 done hm1 (by omega) ⟨i1, i2, i3, i4, i5⟩ hcap hP
    · refine z_iload_n dX12_tries_89 rfl ?_
      refine z_iload_n dX12_tries_90 rfl ?_
      refine z_icmp_eq (tgt := 106) dX12_tries_91 rfl (fun h91 => ?_) (fun h91 => ?_)
      · refine z_aload_n dX12_tries_106 rfl ?_
        refine z_gP 20 rfl (r := a_places) flX12_50 dX12_tries_107 (sh_M hE) rfl (pt_places hm1) (by decide) ?_
        refine z_iload_n dX12_tries_110 rfl ?_
        refine z_iload_n dX12_tries_111 rfl ?_
        refine z_iast dX12_tries_112 (sh_places hE) (by omega) (by omega) ?_
        rw [sCat_s, if_pos ⟨by rw [Int.toNat_natCast]; simpa using h86, Or.inl (by omega)⟩, Int.toNat_natCast] at hcap hP
        have q1 : (2 : Nat) ^ k < 256 := Nat.pow_lt_pow_right (n := 8) (by omega) (by omega)
        have hag2 : ∀ x : Int, 0 ≤ x → x < p + 1 → zu m1 a_places p k a_places x = (if x = (p : Int) then (k : Int) else pl x) := fun x a1 a2 => by
          by_cases e : x = (p : Int)
          · rw [if_pos e, e, zu_s]
          · rw [if_neg e, zu_j e, i5 x a1 (by omega)]; exact hag x a1 (by omega)
        refine z_aload_n dX12_tries_113 rfl ?_
        refine z_iload_n dX12_tries_114 rfl ?_
        refine z_iconst dX12_tries_115 (by decide) ?_
        refine z_add dX12_tries_116 (by omega) ?_
        rw [show (p : Int) + 1 = ((p + 1 : Nat) : Int) by omega]
        refine z_iload_n dX12_tries_117 rfl ?_
        refine z_iconst dX12_tries_118 (by decide) ?_
        refine z_iload_n dX12_tries_119 rfl ?_
        refine z_ishl dX12_tries_120 ?_
        refine z_ior dX12_tries_121 ?_
        rw [zor_b (by omega) (by omega)]
        refine z_callV mlX12_237 dX12_tries_122 (sh_M hE) (av := [_, _]) rfl rfl (Nat.le_of_ble_eq_true rfl) (rec k (zu m1 a_places p k) (ptM_a hm1 (by decide)) (by omega) (zfr_ua i1 (by decide)) hag2 (fun x a1 a2 => by by_cases e : x = (p : Int); (rw [e, zu_s]; omega); (rw [zu_j e]; exact i4 x a1 a2)) (by rw [zu_a (by decide), i3]; have := sSame_bd (m aM f_wantedName) done; rw [List.length_append] at hcap; omega)) (Nat.le_refl _) (Nat.le_refl _) (Nat.le_refl _) (Nat.le_refl _) ?_
        rintro _ m3 ⟨rfl, p1, p2, p3, p4, p5⟩
        rw [zu_a (by decide), i2] at p2
        rw [zu_a (by decide), i3] at p3
        refine z_inc dX12_tries_125 rfl (by omega) ?_
        refine z_goto (tgt := 71) dX12_tries_128 rfl ?_
        try dsimp only [zs0, zsI, zsP, zsN, zsJ, zsS, zst2, Nat.reduceAdd]
        rw [show (k : Int) + 1 = ((k + 1 : Nat) : Int) by omega]
        have hf3 : zfr fTries m m3 := zfr_tr (zfr_ua i1 (by decide)) p1
        refine ih (k + 1) m3 (done ++ (sPlc (m a_c 2).toNat (cAlike (m a_c)) (sV (m a_c) (m a_codes) (m aM f_lines).toNat) (s - 1) (p + 1) (used ||| 2 ^ k) (fun x => if x = (p : Int) then (k : Int) else pl x))) (ptM_t (ptM_a hm1 (by decide)) p1) (by omega) ⟨hf3, ?_, ?_, p4, fun x a1 a2 => ?_⟩ ?_ (fun m2 h2 => hP m2 (by rw [List.append_assoc] at h2; exact h2))
        · rw [p2, sLeast_app]
        · rw [p3, sSame_app]; omega
        · rw [p5 x a1 (by omega), zu_j (by omega)]; exact i5 x a1 a2
        · rw [List.length_append] at hcap ⊢
          rw [show ((k + 1 : Nat) : Int) = (k : Int) + 1 by omega]
          omega
      · refine z_aload_n dX12_tries_94 rfl ?_
        refine z_iload_n dX12_tries_95 rfl ?_
        refine z_iload_n dX12_tries_96 rfl ?_
        refine z_callV mlX12_234 dX12_tries_97 (sh_M hE) (av := [_, _]) rfl rfl (Nat.le_of_ble_eq_true rfl) (r_areAlike _ hE hm1 (p : Int) (k : Int) (by omega) (by rw [ec]; omega) (by omega) (by rw [ec]; omega) (by rw [ec]; exact hw)) (Nat.le_refl _) (Nat.le_refl _) (Nat.le_refl _) (Nat.le_refl _) ?_
        rw [ec]
        rintro _ _ ⟨rfl, rfl⟩
        refine z_ifz_ne (tgt := 106) dX12_tries_100 rfl (fun h100 => ?_) (fun h100 => ?_)
        · refine z_aload_n dX12_tries_106 rfl ?_
          refine z_gP 20 rfl (r := a_places) flX12_50 dX12_tries_107 (sh_M hE) rfl (pt_places hm1) (by decide) ?_
          refine z_iload_n dX12_tries_110 rfl ?_
          refine z_iload_n dX12_tries_111 rfl ?_
          refine z_iast dX12_tries_112 (sh_places hE) (by omega) (by omega) ?_
          rw [sCat_s, if_pos ⟨by rw [Int.toNat_natCast]; simpa using h86, Or.inr h100⟩, Int.toNat_natCast] at hcap hP
          have q1 : (2 : Nat) ^ k < 256 := Nat.pow_lt_pow_right (n := 8) (by omega) (by omega)
          have hag2 : ∀ x : Int, 0 ≤ x → x < p + 1 → zu m1 a_places p k a_places x = (if x = (p : Int) then (k : Int) else pl x) := fun x a1 a2 => by
            by_cases e : x = (p : Int)
            · rw [if_pos e, e, zu_s]
            · rw [if_neg e, zu_j e, i5 x a1 (by omega)]; exact hag x a1 (by omega)
          refine z_aload_n dX12_tries_113 rfl ?_
          refine z_iload_n dX12_tries_114 rfl ?_
          refine z_iconst dX12_tries_115 (by decide) ?_
          refine z_add dX12_tries_116 (by omega) ?_
          rw [show (p : Int) + 1 = ((p + 1 : Nat) : Int) by omega]
          refine z_iload_n dX12_tries_117 rfl ?_
          refine z_iconst dX12_tries_118 (by decide) ?_
          refine z_iload_n dX12_tries_119 rfl ?_
          refine z_ishl dX12_tries_120 ?_
          refine z_ior dX12_tries_121 ?_
          rw [zor_b (by omega) (by omega)]
          refine z_callV mlX12_237 dX12_tries_122 (sh_M hE) (av := [_, _]) rfl rfl (Nat.le_of_ble_eq_true rfl) (rec k (zu m1 a_places p k) (ptM_a hm1 (by decide)) (by omega) (zfr_ua i1 (by decide)) hag2 (fun x a1 a2 => by by_cases e : x = (p : Int); (rw [e, zu_s]; omega); (rw [zu_j e]; exact i4 x a1 a2)) (by rw [zu_a (by decide), i3]; have := sSame_bd (m aM f_wantedName) done; rw [List.length_append] at hcap; omega)) (Nat.le_refl _) (Nat.le_refl _) (Nat.le_refl _) (Nat.le_refl _) ?_
          rintro _ m3 ⟨rfl, p1, p2, p3, p4, p5⟩
          rw [zu_a (by decide), i2] at p2
          rw [zu_a (by decide), i3] at p3
          refine z_inc dX12_tries_125 rfl (by omega) ?_
          refine z_goto (tgt := 71) dX12_tries_128 rfl ?_
          try dsimp only [zs0, zsI, zsP, zsN, zsJ, zsS, zst2, Nat.reduceAdd]
          rw [show (k : Int) + 1 = ((k + 1 : Nat) : Int) by omega]
          have hf3 : zfr fTries m m3 := zfr_tr (zfr_ua i1 (by decide)) p1
          refine ih (k + 1) m3 (done ++ (sPlc (m a_c 2).toNat (cAlike (m a_c)) (sV (m a_c) (m a_codes) (m aM f_lines).toNat) (s - 1) (p + 1) (used ||| 2 ^ k) (fun x => if x = (p : Int) then (k : Int) else pl x))) (ptM_t (ptM_a hm1 (by decide)) p1) (by omega) ⟨hf3, ?_, ?_, p4, fun x a1 a2 => ?_⟩ ?_ (fun m2 h2 => hP m2 (by rw [List.append_assoc] at h2; exact h2))
          · rw [p2, sLeast_app]
          · rw [p3, sSame_app]; omega
          · rw [p5 x a1 (by omega), zu_j (by omega)]; exact i5 x a1 a2
          · rw [List.length_append] at hcap ⊢
            rw [show ((k + 1 : Nat) : Int) = (k : Int) + 1 by omega]
            omega
        · refine z_goto (tgt := 125) dX12_tries_103 rfl ?_
          refine z_inc dX12_tries_125 rfl (by omega) ?_
          refine z_goto (tgt := 71) dX12_tries_128 rfl ?_
          try dsimp only [zs0, zsI, zsP, zsN, zsJ, zsS, zst2, Nat.reduceAdd]
          rw [show (k : Int) + 1 = ((k + 1 : Nat) : Int) by omega]
          rw [sCat_s, if_neg (fun q => by rcases q.2 with q | q; (omega); (exact h100 q)), List.nil_append] at hcap hP
          exact ih (k + 1) m1 done hm1 (by omega) ⟨i1, i2, i3, i4, i5⟩ hcap hP
