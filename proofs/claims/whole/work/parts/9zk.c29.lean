theorem or32 : ∀ x : Nat, x < 32 → ∀ r : Nat, r < 13 → x ||| (r * 2 ^ 5) = x + 32 * r := by decide +kernel
theorem dg_n {n : Nat} {M : Int → Int} (h : pIv n M) {x : Nat} (hx : x < n) : dg M n x < n := by
  unfold dg
  split
  · rename_i q; have := (h x (by omega) (by omega) q.2).1; omega
  · omega
theorem rounds_is {n : Nat} {M : Int → Int} (h : pIv n M) (h0 : ∀ x : Nat, x < n → 0 ≤ M (x : Int)) : sRounds n M = ((sRiG (fun x => 2 ^ x) (rnx (dg M n) n) n n 0 0 : Nat) : Int) := by
  unfold sRounds
  rw [rings_is]
  congr 1
  refine (sRiG_cg (fun x hx => rnx_lt hx) (fun _ _ => rfl) (fun x hx => ?_) n 0 0 (by omega)).symm
  have hm := (h (x : Int) (by omega) (by omega) (h0 x hx)).1
  have hp := h0 x hx
  unfold rnx dg sNx
  rw [if_pos (show (x : Int) < n ∧ 0 ≤ M (x : Int) from ⟨by omega, hp⟩)]
  by_cases e : (M (x : Int)).toNat + 1 < n
  · rw [if_pos e, Int.emod_eq_of_lt (by omega) (by omega)]; omega
  · rw [if_neg e, show M (x : Int) + 1 = (n : Int) by omega, Int.emod_self]; rfl
theorem fA_o {m m' : zM} {a b k : Int} (f : zfr [(a + 1, none)] m m') (h : b ≠ a + 1) : m' b k = m b k := f b k (by simp; omega) (by simp)
theorem zcN_lt {a b : Nat} (h : ¬ zcmp (a : Int) (b : Int) ≥ 0) : a < b := by unfold zcmp at h; split at h; omega; split at h <;> omega
theorem zcN_eq {a b : Nat} (h : ¬ zcmp (a : Int) (b : Int) ≠ 0) : a = b := by unfold zcmp at h; split at h; omega; split at h <;> omega
theorem zcN_gt {a b : Nat} (h1 : zcmp (a : Int) (b : Int) ≠ 0) (h : zcmp (a : Int) (b : Int) ≥ 0) : b < a := by unfold zcmp at h h1; split at h; omega; split at h <;> split at h1 <;> omega
theorem l_trace (d : Nat) {E : zE} {m : zM} {P : Option zV → zM → Prop} (p a cap : Int) (sp : E.1 p = (10, 7)) (sa : E.1 a = (2, cap)) (sb : E.1 (a + 1) = (1, cap)) (a0 : 0 < a) (pa : p ≠ a) (pb : p ≠ a + 1) (n : Nat) (hn : n ≤ 12) (may : Int → Int → Bool) (od br : Int → Bool) (A : Nat) (hAf : ∀ x, x < n → A.testBit x = true) (L : zLr) (hT : pTb m p a n od br A L 0) (hok : ∀ r ∈ L, rOk n may A r) (hL : (L.length : Int) ≤ cap) (hLb : L.length ≤ 10395) : ∀ (j : Nat) (k : Nat) (m1 : zM), (k + j = L.length) → (zfr [(a + 1, none)] m m1) → (∀ (t : Nat) (mt : Int → Int), L[t]? = some mt → m1 (a + 1) (t : Int) = pF n od br (sMk A mt) + 32 * ((if t < k then 1 else 0) * sRounds n (sMk A mt))) → (∀ m', zfr [(a + 1, none)] m m' → (∀ (t : Nat) (mt : Int → Int), L[t]? = some mt → m' (a + 1) (t : Int) = pF n od br (sMk A mt) + 32 * ((if t < L.length then 1 else 0) * sRounds n (sMk A mt))) → P none (zu m' p 6 1)) → zA zX4_traceRounds (d + 3) E E P 2 [zP p, zI (k : Nat)] [] m1 E := by
  intro j
  induction j with
  | zero =>
    intro k m1 hj hf hrw hP
    refine z_iload_n dX4_traceRounds_2 rfl ?_
    refine z_aload_n dX4_traceRounds_3 rfl ?_
    refine z_gIv 2 rfl flX4_28 dX4_traceRounds_4 sp rfl ((fA_o hf pb).trans hT.2.2.1) ?_
    refine z_icmp_ge (tgt := 39) dX4_traceRounds_7 rfl (fun h7 => ?_) (fun h => absurd (by omega) h)
    refine z_aload_n dX4_traceRounds_39 rfl ?_
    refine z_iconst dX4_traceRounds_40 (by decide) ?_
    refine z_pZ 6 rfl (fpX4_49 _) dX4_traceRounds_41 sp rfl (by first | omega | exact zb01 _) ?_
    refine z_vret dX4_traceRounds_44 rfl rfl ?_
    exact hP m1 hf (by rw [show k = L.length by omega] at hrw; exact hrw)
  | succ j ih =>
    intro k m1 hj hf hrw hP
    obtain ⟨mt, hk⟩ : ∃ mt, L[k]? = some mt := ⟨L[k]'(by omega), List.getElem?_eq_getElem (by omega)⟩
    have hr := hok mt (List.mem_of_getElem? hk)
    have hrow := hT.2.2.2.2.2.2 k mt hk
    have hnow := hrw k mt hk
    rw [if_neg (Nat.lt_irrefl k)] at hnow
    have hf0 := fN_is (od := od) (br := br) (ρ := 0) (M := sMk A mt) hn hr.2.1 (by decide)
    have hDn : ∀ x, x < n → dg (sMk A mt) n x < n := fun x hx => dg_n hr.1 hx
    have hrd := rounds_is hr.1 (fun x hx => hr.2.2.1 x hx (hAf x hx))
    have hrg := sRounds_rg n (sMk A mt)
    refine z_iload_n dX4_traceRounds_2 rfl ?_
    refine z_aload_n dX4_traceRounds_3 rfl ?_
    refine z_gIv 2 rfl flX4_28 dX4_traceRounds_4 sp rfl ((fA_o hf pb).trans hT.2.2.1) ?_
    refine z_icmp_ge (tgt := 39) dX4_traceRounds_7 rfl (fun h => absurd h (by omega)) (fun h7 => ?_)
    refine z_aload_n dX4_traceRounds_10 rfl ?_
    refine z_gP 1 rfl (r := a + 1) flX4_15 dX4_traceRounds_11 sp rfl ((fA_o hf pb).trans hT.2.1) (by omega) ?_
    refine z_iload_n dX4_traceRounds_14 rfl ?_
    refine z_aload_n dX4_traceRounds_15 rfl ?_
    refine z_gP 1 rfl (r := a + 1) flX4_15 dX4_traceRounds_16 sp rfl ((fA_o hf pb).trans hT.2.1) (by omega) ?_
    refine z_iload_n dX4_traceRounds_19 rfl ?_
    refine z_ialv dX4_traceRounds_20 sb (by omega) (by omega) (hnow.trans hf0.1.symm) ?_
    refine z_bipush dX4_traceRounds_21 rfl (by decide) ?_
    refine z_iand dX4_traceRounds_23 ?_
    rw [(f512 _ hf0.2.1).2.2.2]
    refine z_aload_n dX4_traceRounds_24 rfl ?_
    refine z_iload_n dX4_traceRounds_25 rfl ?_
    refine z_callV mlX4_81 dX4_traceRounds_26 sp (av := [_]) rfl rfl (Nat.le_of_ble_eq_true rfl) (c_countRounds _ p a cap sp sa sb a0 ((fA_o hf pb).trans hT.1) ((fA_o hf pb).trans hT.2.1) n hn ((fA_o hf pb).trans hT.2.2.2.2.1) (k : Int) (by omega) (by omega) (dg (sMk A mt) n) (dg_16 hr.1 hn) ((fA_o hf (by omega)).trans hrow.1) hDn) (Nat.le_refl _) (Nat.le_refl _) (Nat.le_refl _) (Nat.le_refl _) ?_
    rintro _ _ ⟨rfl, rfl⟩
    refine z_iconst dX4_traceRounds_29 (by decide) ?_
    refine z_ishl dX4_traceRounds_30 ?_
    rw [show (5 : Int) = ((5 : Nat) : Int) from rfl, zshl_N (by omega) (by omega)]
    refine z_ior dX4_traceRounds_31 ?_
    rw [zor_N (by omega) (by omega), or32 _ (Nat.mod_lt _ (by decide)) _ (show sRiG (fun x => 2 ^ x) (rnx (dg (sMk A mt) n) n) n n 0 0 < 13 by omega)]
    refine z_iast dX4_traceRounds_32 sb (by omega) (by omega) ?_
    refine z_inc dX4_traceRounds_33 rfl (by omega) ?_
    refine z_goto (tgt := 2) dX4_traceRounds_36 rfl ?_
    try dsimp only [zs0, zsI, zsP, zsN, zsJ, zsS, zst2, Nat.reduceAdd]
    rw [show (k : Int) + 1 = ((k + 1 : Nat) : Int) by omega]
    refine ih (k + 1) _ (by omega) (zfr_ua hf (by simp)) (fun t mu ht => ?_) hP
    by_cases e : t = k
    · subst e
      rw [hk] at ht
      cases ht
      rw [zu_s, if_pos (by omega), Int.one_mul, hrd]
      have h1 := hf0.1
      have h2 := hf0.2.2.2.2
      rw [Int.zero_mul] at h1 h2
      omega
    · rw [zu_j (by omega), hrw t mu ht]
      by_cases g : t < k
      · rw [if_pos g, if_pos (by omega)]
      · rw [if_neg g, if_neg (by omega)]

theorem c_traceRounds (d : Nat) {E : zE} {m : zM} (p a cap : Int) (sp : E.1 p = (10, 7)) (sa : E.1 a = (2, cap)) (sb : E.1 (a + 1) = (1, cap)) (a0 : 0 < a) (pa : p ≠ a) (pb : p ≠ a + 1) (n : Nat) (hn : n ≤ 12) (may : Int → Int → Bool) (od br : Int → Bool) (A : Nat) (hAf : ∀ x, x < n → A.testBit x = true) (L : zLr) (hT : pTb m p a n od br A L 0) (hok : ∀ r ∈ L, rOk n may A r) (hL : (L.length : Int) ≤ cap) (hLb : L.length ≤ 10395) : zR zX4_traceRounds (d + 3) [zP p] m E E (fun r m' => r = none ∧ zfr [(a + 1, none), (p, some 6)] m m' ∧ pTb m' p a n od br A L 1) := by
  refine zR_go [zP p, zN] (by decide +kernel) (Nat.le_of_ble_eq_true rfl) rfl rfl ?_
  refine z_iconst dX4_traceRounds_0 (by decide) ?_
  refine z_ist 1 dX4_traceRounds_1 rfl (Nat.le_of_ble_eq_true rfl) ?_
  try dsimp only [zs0, zsI, zsP, zsN, zsJ, zsS, zst2, Nat.reduceAdd]
  exact l_trace d p a cap sp sa sb a0 pa pb n hn may od br A hAf L hT hok hL hLb L.length 0 m (by omega) zfr_rf (fun t mt ht => by rw [if_neg (by omega)]; exact (hT.2.2.2.2.2.2 t mt ht).2) (fun m2 f2 r2 => ⟨rfl, zfr_uj (zfr_sub f2 (by simp)) (by simp), ⟨(zu_j (by decide)).trans ((fA_o f2 pb).trans hT.1), (zu_j (by decide)).trans ((fA_o f2 pb).trans hT.2.1), (zu_j (by decide)).trans ((fA_o f2 pb).trans hT.2.2.1), (zu_j (by decide)).trans ((fA_o f2 pb).trans hT.2.2.2.1), (zu_j (by decide)).trans ((fA_o f2 pb).trans hT.2.2.2.2.1), zu_s, fun t mt ht => ⟨(zu_a (Ne.symm pa)).trans ((fA_o f2 (by omega)).trans (hT.2.2.2.2.2.2 t mt ht).1), (zu_a (Ne.symm pb)).trans ((r2 t mt ht).trans (by rw [if_pos (List.getElem?_eq_some_iff.mp ht).1]))⟩⟩⟩)

theorem l_find (d : Nat) {E : zE} {m : zM} {P : Option zV → zM → Prop} (p a cap : Int) (sp : E.1 p = (10, 7)) (sa : E.1 a = (2, cap)) (a0 : 0 < a) (q0 : m p 0 = a) (s : Nat) (q2 : m p 2 = (s : Int)) (hs : (s : Int) ≤ cap) (hb : s ≤ 10395) (V : Nat → Nat) (hV : ∀ t : Nat, t < s → m a (t : Int) = ((V t : Nat) : Int)) (hM : ∀ t u : Nat, t < u → u < s → V t < V u) (v : Nat) : ∀ (j : Nat) (lo_ hi_ : Int) (st : Nat), (st + j = 32) → (0 ≤ lo_ ∧ lo_ ≤ s) → (hi_ < s ∧ -1 ≤ hi_) → (hi_ - lo_ + 1 < 2 ^ j) → (∀ t : Nat, (t : Int) < lo_ → t < s → V t < v) → (∀ t : Nat, hi_ < (t : Int) → t < s → v < V t) → (∀ x : Int, ((x = -1 ∧ ∀ t : Nat, t < s → V t ≠ v) ∨ ∃ t : Nat, t < s ∧ x = (t : Int) ∧ V t = v) → P (some (zI x)) m) → zA zX4_find (d) E E P 13 [zP p, zJ ((v : Nat) : Int), zN, zI lo_, zI hi_, zI (st : Nat), zN] [] m E := by
  intro j
  induction j with
  | zero =>
    intro lo_ hi_ st hj hl hh hw h1 h2 hP
    refine z_iload dX4_find_13 rfl ?_
    refine z_bipush dX4_find_15 rfl (by decide) ?_
    refine z_icmp_ge (tgt := 81) dX4_find_17 rfl (fun h17 => ?_) (fun h => absurd (by omega) h)
    refine z_iconst dX4_find_81 (by decide) ?_
    refine z_iret dX4_find_82 rfl rfl ?_
    have hw0 : hi_ - lo_ + 1 < 1 := hw
    exact hP (-1) (Or.inl ⟨rfl, fun t ht e => by
      rcases Int.lt_or_le (t : Int) lo_ with g | g
      · have := h1 t g ht; omega
      · have := h2 t (by omega) ht; omega⟩)
  | succ j ih =>
    intro lo_ hi_ st hj hl hh hw h1 h2 hP
    refine z_iload dX4_find_13 rfl ?_
    refine z_bipush dX4_find_15 rfl (by decide) ?_
    refine z_icmp_ge (tgt := 81) dX4_find_17 rfl (fun h => absurd h (by omega)) (fun h17 => ?_)
    refine z_iload_n dX4_find_20 rfl ?_
    refine z_iload dX4_find_21 rfl ?_
    refine z_icmp_gt (tgt := 81) dX4_find_23 rfl (fun h23 => ?_) (fun h23 => ?_)
    · refine z_iconst dX4_find_81 (by decide) ?_
      refine z_iret dX4_find_82 rfl rfl ?_
      exact hP (-1) (Or.inl ⟨rfl, fun t ht e => by
        rcases Int.lt_or_le (t : Int) lo_ with g | g
        · have := h1 t g ht; omega
        · have := h2 t (by omega) ht; omega⟩)
    · have hmd : (lo_ + hi_) / 2 = ((((lo_ + hi_) / 2).toNat : Nat) : Int) := by omega
      refine z_iload_n dX4_find_26 rfl ?_
      refine z_iload dX4_find_27 rfl ?_
      refine z_add dX4_find_29 (by omega) ?_
      refine z_iconst dX4_find_30 (by decide) ?_
      refine z_div dX4_find_31 (by omega) (by omega) ?_
      refine z_istore dX4_find_32 (Nat.le_of_ble_eq_true rfl) ?_
      refine z_aload_n dX4_find_34 rfl ?_
      refine z_gP 0 rfl (r := a) flX4_9 dX4_find_35 sp rfl q0 (by omega) ?_
      refine z_iload dX4_find_38 rfl ?_
      refine z_lalv (v := ((V ((lo_ + hi_) / 2).toNat : Nat) : Int)) dX4_find_40 sa (by omega) (by omega) (by have hv := hV ((lo_ + hi_) / 2).toNat (by omega); rw [← hmd] at hv; exact hv) ?_
      refine z_lload_n dX4_find_41 rfl ?_
      refine z_lcmp dX4_find_42 ?_
      try dsimp only [zs0, zsI, zsP, zsN, zsJ, zsS, zst2, Nat.reduceAdd]
      refine z_if_ne (tgt := 49) dX4_find_43 rfl (fun h43 => ?_) (fun h43 => ?_)
      · refine z_aload_n dX4_find_49 rfl ?_
        refine z_gP 0 rfl (r := a) flX4_9 dX4_find_50 sp rfl q0 (by omega) ?_
        refine z_iload dX4_find_53 rfl ?_
        refine z_lalv (v := ((V ((lo_ + hi_) / 2).toNat : Nat) : Int)) dX4_find_55 sa (by omega) (by omega) (by have hv := hV ((lo_ + hi_) / 2).toNat (by omega); rw [← hmd] at hv; exact hv) ?_
        refine z_lload_n dX4_find_56 rfl ?_
        refine z_lcmp dX4_find_57 ?_
        refine z_if_ge (tgt := 69) dX4_find_58 rfl (fun h58 => ?_) (fun h58 => ?_)
        · refine z_iload dX4_find_69 rfl ?_
          refine z_iconst dX4_find_71 (by decide) ?_
          refine z_sub dX4_find_72 (by omega) ?_
          refine z_istore dX4_find_73 (Nat.le_of_ble_eq_true rfl) ?_
          refine z_inc dX4_find_75 rfl (by omega) ?_
          refine z_goto (tgt := 13) dX4_find_78 rfl ?_
          try dsimp only [zs0, zsI, zsP, zsN, zsJ, zsS, zst2, Nat.reduceAdd]
          refine zA_wk [_, _, zN, _, _, _, zN] (by exact ⟨Or.inr rfl, Or.inr rfl, Or.inl rfl, Or.inr rfl, Or.inr rfl, Or.inr rfl, Or.inl rfl, trivial⟩) ?_
          rw [show (st : Int) + 1 = ((st + 1 : Nat) : Int) by omega]
          refine ih _ _ (st + 1) (by omega) (by omega) (by omega) (by rw [Int.pow_succ] at hw; omega) h1 (fun t g ht => ?_) hP
          have hvm := zcN_gt h43 h58
          rcases Nat.lt_or_ge ((lo_ + hi_) / 2).toNat t with z | z
          · have := hM _ t z (by omega); omega
          · rw [show t = ((lo_ + hi_) / 2).toNat by omega]; omega
        · refine z_iload dX4_find_61 rfl ?_
          refine z_iconst dX4_find_63 (by decide) ?_
          refine z_add dX4_find_64 (by omega) ?_
          refine z_ist 3 dX4_find_65 rfl (Nat.le_of_ble_eq_true rfl) ?_
          refine z_goto (tgt := 75) dX4_find_66 rfl ?_
          refine z_inc dX4_find_75 rfl (by omega) ?_
          refine z_goto (tgt := 13) dX4_find_78 rfl ?_
          try dsimp only [zs0, zsI, zsP, zsN, zsJ, zsS, zst2, Nat.reduceAdd]
          refine zA_wk [_, _, zN, _, _, _, zN] (by exact ⟨Or.inr rfl, Or.inr rfl, Or.inl rfl, Or.inr rfl, Or.inr rfl, Or.inr rfl, Or.inl rfl, trivial⟩) ?_
          rw [show (st : Int) + 1 = ((st + 1 : Nat) : Int) by omega]
          refine ih _ _ (st + 1) (by omega) (by omega) (by omega) (by rw [Int.pow_succ] at hw; omega) (fun t g ht => ?_) h2 hP
          have hvm := zcN_lt h58
          rcases Nat.lt_or_ge t ((lo_ + hi_) / 2).toNat with z | z
          · have := hM t _ z (by omega); omega
          · rw [show t = ((lo_ + hi_) / 2).toNat by omega]; omega
      · refine z_iload dX4_find_46 rfl ?_
        refine z_iret dX4_find_48 rfl rfl ?_
        exact hP _ (Or.inr ⟨((lo_ + hi_) / 2).toNat, by omega, hmd, zcN_eq h43⟩)

theorem c_find (d : Nat) {E : zE} {m : zM} (p a cap : Int) (sp : E.1 p = (10, 7)) (sa : E.1 a = (2, cap)) (a0 : 0 < a) (q0 : m p 0 = a) (s : Nat) (q2 : m p 2 = (s : Int)) (hs : (s : Int) ≤ cap) (hb : s ≤ 10395) (V : Nat → Nat) (hV : ∀ t : Nat, t < s → m a (t : Int) = ((V t : Nat) : Int)) (hM : ∀ t u : Nat, t < u → u < s → V t < V u) (v : Nat) : zR zX4_find (d) [zP p, zJ ((v : Nat) : Int)] m E E (fun r m' => ∃ x : Int, r = some (zI x) ∧ m = m' ∧ ((x = -1 ∧ ∀ t : Nat, t < s → V t ≠ v) ∨ ∃ t : Nat, t < s ∧ x = (t : Int) ∧ V t = v)) := by
  refine zR_go [zP p, zJ ((v : Nat) : Int), zN, zN, zN, zN, zN] (by decide +kernel) (Nat.le_of_ble_eq_true rfl) rfl rfl ?_
  refine z_iconst dX4_find_0 (by decide) ?_
  refine z_ist 3 dX4_find_1 rfl (Nat.le_of_ble_eq_true rfl) ?_
  refine z_aload_n dX4_find_2 rfl ?_
  refine z_gIv 2 rfl flX4_28 dX4_find_3 sp rfl q2 ?_
  refine z_iconst dX4_find_6 (by decide) ?_
  refine z_sub dX4_find_7 (by omega) ?_
  refine z_istore dX4_find_8 (Nat.le_of_ble_eq_true rfl) ?_
  refine z_iconst dX4_find_10 (by decide) ?_
  refine z_istore dX4_find_11 (Nat.le_of_ble_eq_true rfl) ?_
  try dsimp only [zs0, zsI, zsP, zsN, zsJ, zsS, zst2, Nat.reduceAdd]
  refine zA_wk [_, _, _, _, _, _, _] (by exact ⟨Or.inr rfl, Or.inr rfl, Or.inr rfl, Or.inr rfl, Or.inr rfl, Or.inr rfl, Or.inr rfl, trivial⟩) ?_
  exact l_find d p a cap sp sa a0 q0 s q2 hs hb V hV hM v 32 0 ((s : Int) - 1) 0 (by omega) (by omega) (by omega) (Int.lt_of_lt_of_le (show (s : Int) - 1 - 0 + 1 < 4294967296 by omega) (by decide)) (fun t g _ => by omega) (fun t g ht => by omega) (fun x hx => ⟨x, rfl, rfl, hx⟩)
