abbrev zFn := Int → Int
def fOp (ka : Int) : List (Int × Option Int) := [(24, none), (ka, none), (ka + 1, none)]
theorem fOp_o {m m' : zM} {ka b k : Int} (f : zfr (fOp ka) m m') (h : b ≠ 24 ∧ b ≠ ka ∧ b ≠ ka + 1) : m' b k = m b k := f b k (by simp [fOp]; omega) (by simp [fOp])
theorem fOp_24 {m m1 m2 : zM} {ka : Int} (f : zfr (fOp ka) m m1) (g : zfr [(24, none)] m1 m2) : zfr (fOp ka) m m2 := zfr_tr f (zfr_sub g (by simp [fOp]))
theorem fOp_k {m m1 m2 : zM} {ka : Int} (f : zfr (fOp ka) m m1) (g : zfr [(ka, none), (ka + 1, none)] m1 m2) : zfr (fOp ka) m m2 := zfr_tr f (zfr_sub g (by simp [fOp]))
theorem kT_fr {m m' : zM} {a : Int} {e : Nat} {F : Int → Int} {c : Int} (h : kT m a e F c) (h1 : m' a = m a) (h2 : m' (a + 1) = m (a + 1)) : kT m' a e F c := by
  unfold kT kI at *
  rw [h1, h2]
  exact h
/-- all put under one mark -/
def pA (sz : Int) : (Int → Int) → List Int → (Int → Int)
  | F, [] => F
  | F, v :: l => pA sz (if F v ≠ -1 then F else fun k => if k = v then sz else F k) l
def lM : Int → List Int → Int
  | b, [] => b
  | b, v :: l => lM (if v < b then v else b) l
theorem pA_at {sz : Int} (hs : sz ≠ -1) : ∀ (l : List Int) (F : Int → Int) (k : Int), pA sz F l k = if F k ≠ -1 then F k else if k ∈ l then sz else -1
  | [], F, k => by
    show F k = _
    by_cases z : F k = -1
    · rw [if_neg (fun y => y z), if_neg (by simp), z]
    · rw [if_pos z]
  | v :: l, F, k => by
    show pA sz (if F v ≠ -1 then F else fun k => if k = v then sz else F k) l k = _
    rw [pA_at hs l]
    by_cases z : F v ≠ -1
    · rw [if_pos z]
      by_cases y : F k ≠ -1
      · rw [if_pos y, if_pos y]
      · rw [if_neg y, if_neg y]
        have hkv : k ≠ v := fun e => y (by rw [e]; exact z)
        by_cases x : k ∈ l
        · rw [if_pos x, if_pos (List.mem_cons_of_mem _ x)]
        · rw [if_neg x, if_neg (fun q => by rcases List.mem_cons.mp q with q | q; exact hkv q; exact x q)]
    · rw [if_neg z]
      by_cases y : k = v
      · have e1 : (if k = v then sz else F k) = sz := if_pos y
        show (if (if k = v then sz else F k) ≠ -1 then (if k = v then sz else F k) else _) = _
        rw [e1, if_pos hs, if_neg (fun q => z (by rw [← y]; exact q)), if_pos (by rw [y]; exact List.mem_cons_self)]
      · have e1 : (if k = v then sz else F k) = F k := if_neg y
        show (if (if k = v then sz else F k) ≠ -1 then (if k = v then sz else F k) else _) = _
        rw [e1]
        by_cases x : F k ≠ -1
        · rw [if_pos x, if_pos x]
        · rw [if_neg x, if_neg x]
          by_cases w : k ∈ l
          · rw [if_pos w, if_pos (List.mem_cons_of_mem _ w)]
          · rw [if_neg w, if_neg (fun q => by rcases List.mem_cons.mp q with q | q; exact y q; exact w q)]
theorem lM_is : ∀ (l : List Int) (b : Int), (lM b l = b ∨ lM b l ∈ l) ∧ lM b l ≤ b ∧ ∀ v ∈ l, lM b l ≤ v
  | [], b => ⟨Or.inl rfl, Int.le_refl _, fun v hv => by cases hv⟩
  | v :: l, b => by
    show (lM (if v < b then v else b) l = b ∨ lM (if v < b then v else b) l ∈ v :: l) ∧ lM (if v < b then v else b) l ≤ b ∧ ∀ u ∈ v :: l, lM (if v < b then v else b) l ≤ u
    obtain ⟨h1, h2, h3⟩ := lM_is l (if v < b then v else b)
    refine ⟨?_, ?_, fun u hu => ?_⟩
    · rcases h1 with h1 | h1
      · rw [h1]
        split
        · exact Or.inr List.mem_cons_self
        · exact Or.inl rfl
      · exact Or.inr (List.mem_cons_of_mem _ h1)
    · split at h2 <;> split <;> omega
    · rcases List.mem_cons.mp hu with z | z
      · rw [z]; split at h2 <;> split <;> omega
      · exact h3 u z
theorem l_open (d : Nat) {E : zE} {m : zM} {P : Option zV → zM → Prop} (s14 : E.1 14 = (6, 20)) (s22 : E.1 22 = (1, 120)) (s23 : E.1 23 = (1, 6)) (s24 : E.1 24 = (1, 6)) (q22 : m 14 2 = 22) (q23 : m 14 3 = 23) (q24 : m 14 4 = 24) (t : Int) (t7 : 24 < t) (sT : shT E t) (pT : ptT m t) (c : Int → Int) (hw : wfC c) (hc : cTh m t c) (h : Nat) (h6 : h ≤ 6) (q14 : m 14 14 = (h : Int)) (hco : ∀ x : Int, 0 ≤ x → x < h → cCodeOk c (m 23 x) = true) (so : E.1 15 = (8, 3)) (ka kcap : Int) (sa : E.1 ka = (2, kcap)) (sb : E.1 (ka + 1) = (1, kcap)) (ka0 : 15 < ka) (kt : ka + 1 < t ∨ t + 28 ≤ ka) (kd : ka ≠ 22 ∧ ka ≠ 23 ∧ ka ≠ 24 ∧ ka + 1 ≠ 22 ∧ ka + 1 ≠ 23 ∧ ka + 1 ≠ 24) (q12 : m 14 0 = 15) (k0 : m 15 0 = ka) (k1 : m 15 1 = ka + 1) (e : Nat) (he : e ≤ 14) (k2 : m 15 2 = ((2 ^ e : Nat) : Int)) (hs : ((2 ^ e : Nat) : Int) ≤ kcap) (sz : Int) (hsz : 0 ≤ sz ∧ sz ≤ 10395) (q18 : m 14 18 = sz) (Ls : zLn) (hLs : xC m Ls) (hLn : Ls.length ≤ 120) (hLb : ∀ ch ∈ Ls, ch < 16777216) (Q : List Int) (hQn : (Q.length : Int) < ((2 ^ e : Nat) : Int)) (hQ : ∀ ch ∈ Ls, sV c (m 23) h (chP ch) ∈ Q) (key : Int) (k : Int) : ∀ (j : Nat) (i : Nat) (le fx : Int) (F : zFn) (cc : Int) (m1 : zM), (i + j = Ls.length) → (0 ≤ fx ∧ fx ≤ i) → (zfr (fOp ka) m m1) → (kT m1 ka e F cc) → (∀ k2, F k2 ≠ -1 → k2 ∈ Q) → (∀ m', zfr (fOp ka) m m' → (∃ c', kT m' ka e (pA sz F ((Ls.map (fun ch => sV c (m 23) h (chP ch))).drop i)) c') → zA zX0_open (d + 2) E E P 77 [zP 14, zP t, zJ key, zN, zI k, zJ (lM le ((Ls.map (fun ch => sV c (m 23) h (chP ch))).drop i)), zN, zI (fx + sSame key ((Ls.map (fun ch => sV c (m 23) h (chP ch))).drop i)), zN, zN, zN] [] m' E) → zA zX0_open (d + 2) E E P 9 [zP 14, zP t, zJ key, zN, zI k, zJ le, zN, zI fx, zI (i : Nat), zN, zN] [] m1 E := by
  intro j
  induction j with
  | zero =>
    intro i le fx F cc m1 hj hfx hf hK hFQ hP
    refine z_iload dX0_open_9 rfl ?_
    refine z_aload_n dX0_open_11 rfl ?_
    refine z_gIv 13 rfl flX0_98 dX0_open_12 s14 rfl ((fOp_o hf (by omega)).trans hLs.1) ?_
    refine z_icmp_ge (tgt := 77) dX0_open_15 rfl (fun h15 => ?_) (fun h => absurd (by omega) h)
    refine zA_wk [_, _, _, _, _, _, _, _, zN, zN, zN] (by exact ⟨Or.inr rfl, Or.inr rfl, Or.inr rfl, Or.inr rfl, Or.inr rfl, Or.inr rfl, Or.inr rfl, Or.inr rfl, Or.inl rfl, Or.inl rfl, Or.inl rfl, trivial⟩) ?_
    have hh := hP m1 hf
    rw [List.drop_eq_nil_of_le (by rw [List.length_map]; omega)] at hh
    rw [show lM le [] = le from rfl, show sSame key [] = 0 from rfl, Int.add_zero] at hh
    exact hh ⟨cc, hK⟩
  | succ j ih =>
    intro i le fx F cc m1 hj hfx hf hK hFQ hP
    obtain ⟨ch, hch⟩ : ∃ ch, Ls[i]? = some ch := ⟨Ls[i]'(by omega), List.getElem?_eq_getElem (by omega)⟩
    have hmem := List.mem_of_getElem? hch
    have hcb := hLb ch hmem
    have ht1 : ∀ b j, t ≤ b → b < t + 28 → m1 b j = m b j := fun b j h1 h2 => fOp_o hf (by omega)
    obtain ⟨v, ev⟩ : ∃ v, v = sV c (m 23) h (chP ch) := ⟨_, rfl⟩
    have hdr : ((Ls.map (fun ch => sV c (m 23) h (chP ch))).drop i) = v :: (Ls.map (fun ch => sV c (m 23) h (chP ch))).drop (i + 1) := drop_at (by rw [List.getElem?_map, hch, ev]; rfl)
    rw [hdr] at hP
    have hvQ : v ∈ Q := by rw [ev]; exact hQ ch hmem
    refine z_iload dX0_open_9 rfl ?_
    refine z_aload_n dX0_open_11 rfl ?_
    refine z_gIv 13 rfl flX0_98 dX0_open_12 s14 rfl ((fOp_o hf (by omega)).trans hLs.1) ?_
    refine z_icmp_ge (tgt := 77) dX0_open_15 rfl (fun h => absurd h (by omega)) (fun h15 => ?_)
    refine z_aload_n dX0_open_18 rfl ?_
    refine z_aload_n dX0_open_19 rfl ?_
    refine z_aload_n dX0_open_20 rfl ?_
    refine z_gP 2 rfl (r := 22) flX0_25 dX0_open_21 s14 rfl ((fOp_o hf (by omega)).trans q22) (by omega) ?_
    refine z_iload dX0_open_24 rfl ?_
    refine z_ialv (v := (ch : Int)) dX0_open_26 s22 (by omega) (by omega) (((fOp_o hf (by omega)).trans (hLs.2 i ch hch))) ?_
    refine z_callV mlX0_155 dX0_open_27 s14 (av := [_, _]) rfl rfl (Nat.le_of_ble_eq_true rfl) (c_imageOf _ s14 s22 s23 s24 ((fOp_o hf (by omega)).trans q22) ((fOp_o hf (by omega)).trans q23) ((fOp_o hf (by omega)).trans q24) t t7 sT (ptT_in pT ht1) c hw (cTh_in pT (wfD_of hw) hc ht1) h h6 ((fOp_o hf (by omega)).trans q14) (fun x x0 x1 => by rw [fOp_o hf (by omega)]; exact hco x x0 x1) ch hcb) (Nat.le_refl _) (Nat.le_refl _) (Nat.le_refl _) (Nat.le_refl _) ?_
    rintro _ m2 ⟨rfl, g2⟩
    rw [show m1 23 = m 23 from funext fun x => fOp_o hf (by omega)]
    have f2 : zfr (fOp ka) m m2 := fOp_24 hf g2
    have hK2 : kT m2 ka e F cc := kT_fr hK (funext fun x => fB_o g2 (by omega)) (funext fun x => fB_o g2 (by omega))
    have hcc := kT_cnt hK2 Q hFQ
    rw [← ev]
    refine z_lstore dX0_open_30 (Nat.le_of_ble_eq_true rfl) ?_
    refine z_lload dX0_open_32 rfl ?_
    refine z_lload dX0_open_34 rfl ?_
    try dsimp only [zs0, zsI, zsP, zsN, zsJ, zsS, zst2, Nat.reduceAdd]
    refine z_minL (zg4 141 (by decide +kernel) rfl) dX0_open_36 (Nat.le_of_ble_eq_true rfl) (Nat.le_refl _) (Nat.le_refl _) ?_
    refine z_lstore dX0_open_39 (Nat.le_of_ble_eq_true rfl) ?_
    refine z_iload dX0_open_41 rfl ?_
    refine z_lload dX0_open_43 rfl ?_
    refine z_lload_n dX0_open_45 rfl ?_
    refine z_lcmp dX0_open_46 ?_
    try dsimp only [zs0, zsI, zsP, zsN, zsJ, zsS, zst2, Nat.reduceAdd]
    refine z_if_ne (tgt := 54) dX0_open_47 rfl (fun h47 => ?_) (fun h47 => ?_)
    · refine z_iconst dX0_open_54 (by decide) ?_
      refine z_add dX0_open_55 (by omega) ?_
      refine z_istore dX0_open_56 (Nat.le_of_ble_eq_true rfl) ?_
      refine z_aload_n dX0_open_58 rfl ?_
      refine z_gP 0 rfl (r := 15) flX0_12 dX0_open_59 s14 rfl ((fOp_o f2 (by omega)).trans q12) (by omega) ?_
      refine z_lload dX0_open_62 rfl ?_
      refine z_aload_n dX0_open_64 rfl ?_
      refine z_gIv 18 rfl flX0_108 dX0_open_65 s14 rfl ((fOp_o f2 (by omega)).trans q18) ?_
      try dsimp only [zs0, zsI, zsP, zsN, zsJ, zsS, zst2, Nat.reduceAdd]
      refine z_callV mlX0_165 dX0_open_68 so (av := [_, _]) rfl rfl (Nat.le_of_ble_eq_true rfl) (c_kput _ 15 ka kcap so sa sb (by omega) ((fOp_o f2 (by omega)).trans k0) ((fOp_o f2 (by omega)).trans k1) e he ((fOp_o f2 (by omega)).trans k2) hs (by omega) (by omega) F cc hK2 (by omega) v sz hsz) (Nat.le_refl _) (Nat.le_refl _) (Nat.le_refl _) (Nat.le_refl _) ?_
      rintro _ m3 ⟨rfl, g3, hK3⟩
      refine z_inc dX0_open_71 rfl (by omega) ?_
      refine z_goto (tgt := 9) dX0_open_74 rfl ?_
      try dsimp only [zs0, zsI, zsP, zsN, zsJ, zsS, zst2, Nat.reduceAdd]
      refine zA_wk [_, _, _, _, _, _, _, _, _, zN, zN] (by exact ⟨Or.inr rfl, Or.inr rfl, Or.inr rfl, Or.inr rfl, Or.inr rfl, Or.inr rfl, Or.inr rfl, Or.inr rfl, Or.inr rfl, Or.inl rfl, Or.inl rfl, trivial⟩) ?_
      rw [show (i : Int) + 1 = ((i + 1 : Nat) : Int) by omega]
      refine ih (i + 1) _ _ _ _ m3 (by omega) (by omega) (fOp_k f2 g3) hK3 (fun k2 hk2 => ?_) (fun m4 g4 h4 => ?_)
      · by_cases z : F v ≠ -1
        · rw [if_pos z] at hk2; exact hFQ k2 hk2
        · rw [if_neg z] at hk2
          by_cases y : k2 = v
          · rw [y]; exact hvQ
          · have hk3 : F k2 ≠ -1 := by
              have : (if k2 = v then sz else F k2) ≠ -1 := hk2
              rw [if_neg y] at this; exact this
            exact hFQ k2 hk3
      · have hh := hP m4 g4 h4
        rw [show lM le (v :: (Ls.map (fun ch => sV c (m 23) h (chP ch))).drop (i + 1)) = lM (if v < le then v else le) ((Ls.map (fun ch => sV c (m 23) h (chP ch))).drop (i + 1)) from rfl, show sSame key (v :: (Ls.map (fun ch => sV c (m 23) h (chP ch))).drop (i + 1)) = zb (v = key) + sSame key ((Ls.map (fun ch => sV c (m 23) h (chP ch))).drop (i + 1)) from rfl, zb_f (fun z => h47 (by rw [z]; unfold zcmp; rw [if_neg (by omega), if_pos rfl])), ← Int.add_assoc] at hh
        exact hh
    · refine z_iconst dX0_open_50 (by decide) ?_
      refine z_goto (tgt := 55) dX0_open_51 rfl ?_
      refine z_add dX0_open_55 (by omega) ?_
      refine z_istore dX0_open_56 (Nat.le_of_ble_eq_true rfl) ?_
      refine z_aload_n dX0_open_58 rfl ?_
      refine z_gP 0 rfl (r := 15) flX0_12 dX0_open_59 s14 rfl ((fOp_o f2 (by omega)).trans q12) (by omega) ?_
      refine z_lload dX0_open_62 rfl ?_
      refine z_aload_n dX0_open_64 rfl ?_
      refine z_gIv 18 rfl flX0_108 dX0_open_65 s14 rfl ((fOp_o f2 (by omega)).trans q18) ?_
      try dsimp only [zs0, zsI, zsP, zsN, zsJ, zsS, zst2, Nat.reduceAdd]
      refine z_callV mlX0_165 dX0_open_68 so (av := [_, _]) rfl rfl (Nat.le_of_ble_eq_true rfl) (c_kput _ 15 ka kcap so sa sb (by omega) ((fOp_o f2 (by omega)).trans k0) ((fOp_o f2 (by omega)).trans k1) e he ((fOp_o f2 (by omega)).trans k2) hs (by omega) (by omega) F cc hK2 (by omega) v sz hsz) (Nat.le_refl _) (Nat.le_refl _) (Nat.le_refl _) (Nat.le_refl _) ?_
      rintro _ m3 ⟨rfl, g3, hK3⟩
      refine z_inc dX0_open_71 rfl (by omega) ?_
      refine z_goto (tgt := 9) dX0_open_74 rfl ?_
      try dsimp only [zs0, zsI, zsP, zsN, zsJ, zsS, zst2, Nat.reduceAdd]
      refine zA_wk [_, _, _, _, _, _, _, _, _, zN, zN] (by exact ⟨Or.inr rfl, Or.inr rfl, Or.inr rfl, Or.inr rfl, Or.inr rfl, Or.inr rfl, Or.inr rfl, Or.inr rfl, Or.inr rfl, Or.inl rfl, Or.inl rfl, trivial⟩) ?_
      rw [show (i : Int) + 1 = ((i + 1 : Nat) : Int) by omega]
      refine ih (i + 1) _ _ _ _ m3 (by omega) (by omega) (fOp_k f2 g3) hK3 (fun k2 hk2 => ?_) (fun m4 g4 h4 => ?_)
      · by_cases z : F v ≠ -1
        · rw [if_pos z] at hk2; exact hFQ k2 hk2
        · rw [if_neg z] at hk2
          by_cases y : k2 = v
          · rw [y]; exact hvQ
          · have hk3 : F k2 ≠ -1 := by
              have : (if k2 = v then sz else F k2) ≠ -1 := hk2
              rw [if_neg y] at this; exact this
            exact hFQ k2 hk3
      · have hh := hP m4 g4 h4
        rw [show lM le (v :: (Ls.map (fun ch => sV c (m 23) h (chP ch))).drop (i + 1)) = lM (if v < le then v else le) ((Ls.map (fun ch => sV c (m 23) h (chP ch))).drop (i + 1)) from rfl, show sSame key (v :: (Ls.map (fun ch => sV c (m 23) h (chP ch))).drop (i + 1)) = zb (v = key) + sSame key ((Ls.map (fun ch => sV c (m 23) h (chP ch))).drop (i + 1)) from rfl, zb_t (show v = key from zcE (Classical.byContradiction fun z => h47 z)), ← Int.add_assoc] at hh
        exact hh

theorem c_open (d : Nat) {E : zE} {m : zM} (s14 : E.1 14 = (6, 20)) (s22 : E.1 22 = (1, 120)) (s23 : E.1 23 = (1, 6)) (s24 : E.1 24 = (1, 6)) (q22 : m 14 2 = 22) (q23 : m 14 3 = 23) (q24 : m 14 4 = 24) (t : Int) (t7 : 24 < t) (sT : shT E t) (pT : ptT m t) (c : Int → Int) (hw : wfC c) (hc : cTh m t c) (h : Nat) (h6 : h ≤ 6) (q14 : m 14 14 = (h : Int)) (hco : ∀ x : Int, 0 ≤ x → x < h → cCodeOk c (m 23 x) = true) (so : E.1 15 = (8, 3)) (ka kcap : Int) (sa : E.1 ka = (2, kcap)) (sb : E.1 (ka + 1) = (1, kcap)) (ka0 : 15 < ka) (kt : ka + 1 < t ∨ t + 28 ≤ ka) (kd : ka ≠ 22 ∧ ka ≠ 23 ∧ ka ≠ 24 ∧ ka + 1 ≠ 22 ∧ ka + 1 ≠ 23 ∧ ka + 1 ≠ 24) (q12 : m 14 0 = 15) (k0 : m 15 0 = ka) (k1 : m 15 1 = ka + 1) (e : Nat) (he : e ≤ 14) (k2 : m 15 2 = ((2 ^ e : Nat) : Int)) (hs : ((2 ^ e : Nat) : Int) ≤ kcap) (sz : Int) (hsz : 0 ≤ sz ∧ sz ≤ 10395) (q18 : m 14 18 = sz) (Ls : zLn) (hLs : xC m Ls) (hLn : Ls.length ≤ 120) (hLb : ∀ ch ∈ Ls, ch < 16777216) (Q : List Int) (hQn : (Q.length : Int) < ((2 ^ e : Nat) : Int)) (hQ : ∀ ch ∈ Ls, sV c (m 23) h (chP ch) ∈ Q) (key : Int) (b bcap : Int) (sB : shDg E b bcap) (qB_ : qDg m 14 b) (b24 : 24 < b) (bk : ka + 1 < b ∨ b + 8 ≤ ka) (hszc : sz < bcap) (F : zFn) (cc : Int) (hK : kT m ka e F cc) (hFQ : ∀ k2, F k2 ≠ -1 → k2 ∈ Q) (k : Int) : zR zX0_open (d + 2) [zP 14, zP t, zJ key, zI k] m E E (fun r m' => r = none ∧ ∃ m4, zfr (fOp ka) m m4 ∧ (∃ c', kT m4 ka e (pA sz F (Ls.map (fun ch => sV c (m 23) h (chP ch)))) c') ∧ m' = zu (zu (zu (zu (zu (zu m4 b sz (lM key (Ls.map (fun ch => sV c (m 23) h (chP ch))))) (b + 1) sz 0) (b + 2) sz 0) (b + 3) sz k) (b + 4) sz (sSame key (Ls.map (fun ch => sV c (m 23) h (chP ch))))) 14 18 (sz + 1)) := by
  refine zR_go [zP 14, zP t, zJ key, zN, zI k, zN, zN, zN, zN, zN, zN] (by decide +kernel) (Nat.le_of_ble_eq_true rfl) rfl rfl ?_
  refine z_lload_n dX0_open_0 rfl ?_
  refine z_lstore dX0_open_1 (Nat.le_of_ble_eq_true rfl) ?_
  refine z_iconst dX0_open_3 (by decide) ?_
  refine z_istore dX0_open_4 (Nat.le_of_ble_eq_true rfl) ?_
  refine z_iconst dX0_open_6 (by decide) ?_
  refine z_istore dX0_open_7 (Nat.le_of_ble_eq_true rfl) ?_
  try dsimp only [zs0, zsI, zsP, zsN, zsJ, zsS, zst2, Nat.reduceAdd]
  refine l_open d s14 s22 s23 s24 q22 q23 q24 t t7 sT pT c hw hc h h6 q14 hco so ka kcap sa sb ka0 kt kd q12 k0 k1 e he k2 hs sz hsz q18 Ls hLs hLn hLb Q hQn hQ key k Ls.length 0 key 0 F cc m (by omega) (by omega) zfr_rf hK hFQ (fun m4 g4 h4 => ?_)
  rw [List.drop_zero, Int.zero_add] at *
  refine z_aload_n dX0_open_77 rfl ?_
  refine z_gP 5 rfl (r := b) flX0_35 dX0_open_78 s14 rfl ((fOp_o g4 (by omega)).trans qB_.1) (by omega) ?_
  refine z_aload_n dX0_open_81 rfl ?_
  refine z_gIv 18 rfl flX0_108 dX0_open_82 s14 rfl ((fOp_o g4 (by omega)).trans q18) ?_
  refine z_lload dX0_open_85 rfl ?_
  refine z_last dX0_open_87 sB.1 (by omega) (by omega) ?_
  refine z_aload_n dX0_open_88 rfl ?_
  refine z_gP 6 rfl (r := b + 1) flX0_39 dX0_open_89 s14 rfl ((zu_a (by omega)).trans ((fOp_o g4 (by omega)).trans qB_.2.1)) (by omega) ?_
  refine z_aload_n dX0_open_92 rfl ?_
  refine z_gIv 18 rfl flX0_108 dX0_open_93 s14 rfl ((zu_a (by omega)).trans ((fOp_o g4 (by omega)).trans q18)) ?_
  refine z_iconst dX0_open_96 (by decide) ?_
  refine z_iast dX0_open_97 sB.2.1 (by omega) (by omega) ?_
  refine z_aload_n dX0_open_98 rfl ?_
  refine z_gP 7 rfl (r := b + 2) flX0_42 dX0_open_99 s14 rfl ((zu_a (by omega)).trans ((zu_a (by omega)).trans ((fOp_o g4 (by omega)).trans qB_.2.2.1))) (by omega) ?_
  refine z_aload_n dX0_open_102 rfl ?_
  refine z_gIv 18 rfl flX0_108 dX0_open_103 s14 rfl ((zu_a (by omega)).trans ((zu_a (by omega)).trans ((fOp_o g4 (by omega)).trans q18))) ?_
  refine z_iconst dX0_open_106 (by decide) ?_
  refine z_iast dX0_open_107 sB.2.2.1 (by omega) (by omega) ?_
  refine z_aload_n dX0_open_108 rfl ?_
  refine z_gP 8 rfl (r := b + 3) flX0_45 dX0_open_109 s14 rfl ((zu_a (by omega)).trans ((zu_a (by omega)).trans ((zu_a (by omega)).trans ((fOp_o g4 (by omega)).trans qB_.2.2.2.1)))) (by omega) ?_
  refine z_aload_n dX0_open_112 rfl ?_
  refine z_gIv 18 rfl flX0_108 dX0_open_113 s14 rfl ((zu_a (by omega)).trans ((zu_a (by omega)).trans ((zu_a (by omega)).trans ((fOp_o g4 (by omega)).trans q18)))) ?_
  refine z_iload dX0_open_116 rfl ?_
  refine z_iast dX0_open_118 sB.2.2.2.1 (by omega) (by omega) ?_
  refine z_aload_n dX0_open_119 rfl ?_
  refine z_gP 9 rfl (r := b + 4) flX0_48 dX0_open_120 s14 rfl ((zu_a (by omega)).trans ((zu_a (by omega)).trans ((zu_a (by omega)).trans ((zu_a (by omega)).trans ((fOp_o g4 (by omega)).trans qB_.2.2.2.2.1))))) (by omega) ?_
  refine z_aload_n dX0_open_123 rfl ?_
  refine z_gIv 18 rfl flX0_108 dX0_open_124 s14 rfl ((zu_a (by omega)).trans ((zu_a (by omega)).trans ((zu_a (by omega)).trans ((zu_a (by omega)).trans ((fOp_o g4 (by omega)).trans q18))))) ?_
  refine z_iload dX0_open_127 rfl ?_
  refine z_iast dX0_open_129 sB.2.2.2.2.1 (by omega) (by omega) ?_
  refine z_aload_n dX0_open_130 rfl ?_
  refine z_dup dX0_open_131 rfl ?_
  refine z_gIv 18 rfl flX0_108 dX0_open_132 s14 rfl ((zu_a (by omega)).trans ((zu_a (by omega)).trans ((zu_a (by omega)).trans ((zu_a (by omega)).trans ((zu_a (by omega)).trans ((fOp_o g4 (by omega)).trans q18)))))) ?_
  refine z_iconst dX0_open_135 (by decide) ?_
  refine z_add dX0_open_136 (by omega) ?_
  refine z_pI 18 rfl (fpX0_108 _) dX0_open_137 s14 rfl ?_
  refine z_vret dX0_open_140 rfl rfl ?_
  exact ⟨rfl, m4, g4, h4, rfl⟩
