/-- one step away: lines k and on, j of them -/
def gStp (co : Int → Int) (was : Nat) : Nat → Nat → Nat → Nat
  | 0, _, S => S
  | j + 1, k, S => gStp co was j (k + 1) (if was.testBit (gFr co k) = true ∨ was.testBit (gTo co k) = true then S ||| (2 ^ gFr co k ||| 2 ^ gTo co k) else S)
theorem gStp_s (co : Int → Int) (was j k S : Nat) : gStp co was (j + 1) k S = gStp co was j (k + 1) (if was.testBit (gFr co k) = true ∨ was.testBit (gTo co k) = true then S ||| (2 ^ gFr co k ||| 2 ^ gTo co k) else S) := rfl
def gIt (L : Nat) (co : Int → Int) (p : Nat) : Nat → Nat
  | 0 => 2 ^ p
  | n + 1 => gStp co (gIt L co p n) L 0 (gIt L co p n)
theorem gSub_or {a b : Nat} : gSub a (a ||| b) := fun v hv => by rw [Nat.testBit_or, hv, Bool.true_or]
theorem gStp_sub (co : Int → Int) (was : Nat) : ∀ j k S, gSub S (gStp co was j k S)
  | 0, _, _ => fun _ h => h
  | j + 1, k, S => fun v hv => by
    rw [gStp_s]
    refine gStp_sub co was j (k + 1) _ v ?_
    split
    · exact gSub_or v hv
    · exact hv
theorem gStp_lt {co : Int → Int} {was : Nat} : ∀ {j k S : Nat}, S < 256 → (∀ x, k ≤ x → x < k + j → gFr co x < 8 ∧ gTo co x < 8) → gStp co was j k S < 256
  | 0, _, _, h, _ => h
  | j + 1, k, S, h, hr => by
    rw [gStp_s]
    refine gStp_lt ?_ (fun x q1 q2 => hr x (by omega) (by omega))
    split
    · have g := hr k (by omega) (by omega)
      exact Nat.or_lt_two_pow (n := 8) h (Nat.or_lt_two_pow (n := 8) (Nat.pow_lt_pow_right (by omega) g.1) (Nat.pow_lt_pow_right (by omega) g.2))
    · exact h
theorem gIt_lt {L : Nat} {co : Int → Int} {p : Nat} (hp : p < 8) (hr : ∀ x, x < L → gFr co x < 8 ∧ gTo co x < 8) : ∀ n, gIt L co p n < 256
  | 0 => Nat.pow_lt_pow_right (n := 8) (by omega) hp
  | n + 1 => gStp_lt (gIt_lt hp hr n) (fun x _ q => hr x (by omega))
theorem gIt_sub {L : Nat} {co : Int → Int} {p : Nat} (n : Nat) : gSub (gIt L co p n) (gIt L co p (n + 1)) := gStp_sub _ _ _ _ _
theorem gIt_stable {L : Nat} {co : Int → Int} {p n : Nat} (h : gIt L co p (n + 1) = gIt L co p n) : ∀ i, n ≤ i → gIt L co p i = gIt L co p n := by
  intro i hi
  obtain ⟨k, rfl⟩ : ∃ k, i = n + k := ⟨i - n, by omega⟩
  induction k with
  | zero => rfl
  | succ k ih =>
    have e := ih (by omega)
    show gStp co (gIt L co p (n + k)) L 0 (gIt L co p (n + k)) = _
    rw [e]
    exact h
theorem gStp_co {co co2 : Int → Int} {was : Nat} : ∀ {j k S : Nat}, (∀ x : Nat, k ≤ x → x < k + j → co x = co2 x) → gStp co was j k S = gStp co2 was j k S
  | 0, _, _, _ => rfl
  | j + 1, k, S, h => by
    have e : gFr co k = gFr co2 k ∧ gTo co k = gTo co2 k := by unfold gFr gTo; rw [h k (by omega) (by omega)]; exact ⟨rfl, rfl⟩
    rw [gStp_s, gStp_s, e.1, e.2]
    exact gStp_co (fun x q1 q2 => h x (by omega) (by omega))
theorem gIt_co {L : Nat} {co co2 : Int → Int} {p : Nat} (h : ∀ x : Nat, x < L → co x = co2 x) : gIt L co p = gIt L co2 p := by
  funext n
  induction n with
  | zero => rfl
  | succ n ih =>
    show gStp co (gIt L co p n) L 0 (gIt L co p n) = gStp co2 (gIt L co2 p n) L 0 (gIt L co2 p n)
    rw [ih]
    exact gStp_co (fun x _ q => h x (by omega))
theorem zfst_at {p : Int → Bool} {n N : Nat} (h : ∀ i : Nat, i < n → p i = false) (h1 : p n = true) (h2 : n < N) : zfst p N 0 = (n : Int) := by
  rcases zfst_ge (p := p) (j := N) (k := 0) (by omega) with ⟨e, g⟩ | ⟨e1, e2, e3, e4⟩
  · have := g n (by omega) (by omega)
    rw [this] at h1
    cases h1
  · by_cases q1 : zfst p N 0 < n
    · have := h (zfst p N 0).toNat (by omega)
      rw [show (((zfst p N 0).toNat : Nat) : Int) = zfst p N 0 by omega] at this
      rw [this] at e3
      cases e3
    · by_cases q2 : (n : Int) < zfst p N 0
      · have := e4 n (by omega) q2
        rw [this] at h1
        cases h1
      · omega
theorem zfst_none {p : Int → Bool} {N : Nat} (h : ∀ i : Nat, i < N → p i = false) : zfst p N 0 = -1 := by
  rcases zfst_ge (p := p) (j := N) (k := 0) (by omega) with ⟨e, g⟩ | ⟨e1, e2, e3, e4⟩
  · exact e
  · have := h (zfst p N 0).toNat (by omega)
    rw [show (((zfst p N 0).toNat : Nat) : Int) = zfst p N 0 by omega] at this
    rw [this] at e3
    cases e3
theorem sUn_two : ∀ {p : Nat}, p < 8 → sUn (2 ^ p) 8 = 7 := by decide
theorem nbit_ex {a : Nat} (h : a ≠ 0) (h8 : a < 256) : ∃ x : Nat, x < 8 ∧ a.testBit x = true := by
  refine Classical.byContradiction (fun hn => h (zset_ext (fun i => ?_)))
  rw [Nat.zero_testBit]
  rcases Nat.lt_or_ge i 8 with q | q
  · cases hb : a.testBit i with
    | false => rfl
    | true => exact absurd ⟨i, q, hb⟩ hn
  · exact Nat.testBit_lt_two_pow (Nat.lt_of_lt_of_le h8 (Nat.pow_le_pow_right (n := 2) (by omega) q))
def tFar (h : Nat) (co : Int → Int) (p q : Nat) : Int := zfst (fun i => (gIt h co p i.toNat).testBit q) 8 0
noncomputable def aFar (T : zT) (dd p q : Int) : Int × Int := if ¬ ((0 ≤ dd ∧ dd < ((tD T).length : Int)) ∧ (0 ≤ p ∧ p ≤ T.1 2 - 1) ∧ (0 ≤ q ∧ q ≤ T.1 2 - 1)) then (2, -1) else if tFar (tH T) (tCo T dd) p.toNat q.toNat = -1 then (5, -1) else (0, tFar (tH T) (tCo T dd) p.toNat q.toNat)
/-- does a point hold its part together -/
noncomputable def tHf (h : Nat) (co : Int → Int) (p : Nat) : Bool := decide ((tR h co (-1) (-1) p ^^^ (tR h co (-1) (-1) p &&& 2 ^ p)) ≠ 0 ∧ tR h co (-1) (p : Int) (zfst (fun x => ((tR h co (-1) (-1) p ^^^ (tR h co (-1) (-1) p &&& 2 ^ p))).testBit x.toNat) 8 0).toNat ≠ (tR h co (-1) (-1) p ^^^ (tR h co (-1) (-1) p &&& 2 ^ p)))
noncomputable def aHolds (T : zT) (dd : Int) : Int × Int := if ¬ (0 ≤ dd ∧ dd < ((tD T).length : Int)) then (2, -1) else (0, (zmask (tHf (tH T) (tCo T dd)) (T.1 2).toNat : Nat))
theorem l_far_in (d : Nat) {E : zE} {m : zM} {P : Option zV → zM → Prop} (hE : shM E) (hm : ptM m) (dd : Int) (p q was : Nat) (n : Int) (hwas : was < 256) (hln : 0 ≤ m aM f_lines ∧ m aM f_lines ≤ 6) (hcd : ∀ k : Nat, (k : Int) < m aM f_lines → 0 ≤ m a_codes k ∧ gFr (m a_codes) k < 8 ∧ gTo (m a_codes) k < 8) : ∀ (j : Nat) (k S : Nat), ((k : Int) + j = m aM f_lines) → (S < 256) → (zA zX12_far (d + 1) E E P 142 [zP aM, zI dd, zI (p : Nat), zI (q : Nat), zI (gStp (m a_codes) was j k S : Nat), zI (was : Nat), zI n, zN] [] m E) → zA zX12_far (d + 1) E E P 77 [zP aM, zI dd, zI (p : Nat), zI (q : Nat), zI (S : Nat), zI (was : Nat), zI n, zI (k : Nat)] [] m E := by
  intro j
  induction j with
  | zero =>
    intro k S hk hS hP
    refine z_iload dX12_far_77 rfl ?_
    refine z_aload_n dX12_far_79 rfl ?_
    refine z_gI f_lines rfl flX12_197 dX12_far_80 (sh_M hE) rfl ?_
    refine z_icmp_ge (tgt := 142) dX12_far_83 rfl (fun h83 => ?_) (fun h => absurd (by omega) h)
    refine zA_wk [_, _, _, _, _, _, _, zN] (by exact ⟨Or.inr rfl, Or.inr rfl, Or.inr rfl, Or.inr rfl, Or.inr rfl, Or.inr rfl, Or.inr rfl, Or.inl rfl, trivial⟩) ?_
    exact hP
  | succ j ih =>
    intro k S hk hS hP
    have hc := hcd k (by omega)
    refine z_iload dX12_far_77 rfl ?_
    refine z_aload_n dX12_far_79 rfl ?_
    refine z_gI f_lines rfl flX12_197 dX12_far_80 (sh_M hE) rfl ?_
    refine z_icmp_ge (tgt := 142) dX12_far_83 rfl (fun h => absurd h (by omega)) (fun h83 => ?_)
    refine z_iload dX12_far_86 rfl ?_
    refine z_aload_n dX12_far_88 rfl ?_
    refine z_iload dX12_far_89 rfl ?_
    refine z_callV mlX12_276 dX12_far_91 (sh_M hE) (av := [_]) rfl rfl (Nat.le_of_ble_eq_true rfl) (r_fromOf _ hE hm (k : Int) (by omega) (by omega) hc.1) (Nat.le_refl _) (Nat.le_refl _) (Nat.le_refl _) (Nat.le_refl _) ?_
    rw [gFr_eq hc.1]
    rintro _ _ ⟨rfl, rfl⟩
    refine z_callS mlX12_158 dX12_far_94 (av := [_, _]) rfl rfl (Nat.le_of_ble_eq_true rfl) (r_has _ hE hm was (gFr (m a_codes) k) (by omega) (by omega)) (Nat.le_refl _) (Nat.le_refl _) (Nat.le_refl _) (Nat.le_refl _) ?_
    rintro _ _ ⟨rfl, rfl⟩
    refine z_ifz_ne (tgt := 114) dX12_far_97 rfl (fun h97 => ?_) (fun h97 => ?_)
    · refine z_iload dX12_far_114 rfl ?_
      refine z_iconst dX12_far_116 (by decide) ?_
      refine z_aload_n dX12_far_117 rfl ?_
      refine z_iload dX12_far_118 rfl ?_
      refine z_callV mlX12_276 dX12_far_120 (sh_M hE) (av := [_]) rfl rfl (Nat.le_of_ble_eq_true rfl) (r_fromOf _ hE hm (k : Int) (by omega) (by omega) hc.1) (Nat.le_refl _) (Nat.le_refl _) (Nat.le_refl _) (Nat.le_refl _) ?_
      rw [gFr_eq hc.1]
      rintro _ _ ⟨rfl, rfl⟩
      refine z_ishl dX12_far_123 ?_
      rw [zshl_1 (by omega)]
      refine z_iconst dX12_far_124 (by decide) ?_
      refine z_aload_n dX12_far_125 rfl ?_
      refine z_iload dX12_far_126 rfl ?_
      refine z_callV mlX12_279 dX12_far_128 (sh_M hE) (av := [_]) rfl rfl (Nat.le_of_ble_eq_true rfl) (r_toOf _ hE hm (k : Int) (by omega) (by omega) hc.1) (Nat.le_refl _) (Nat.le_refl _) (Nat.le_refl _) (Nat.le_refl _) ?_
      rw [gTo_eq hc.1]
      rintro _ _ ⟨rfl, rfl⟩
      refine z_ishl dX12_far_131 ?_
      rw [zshl_1 (by omega)]
      have q1 : (2 : Nat) ^ gFr (m a_codes) k < 256 := Nat.pow_lt_pow_right (n := 8) (by omega) hc.2.1
      have q2 : (2 : Nat) ^ gTo (m a_codes) k < 256 := Nat.pow_lt_pow_right (n := 8) (by omega) hc.2.2
      refine z_ior dX12_far_132 ?_
      rw [zor_N (by omega) (by omega)]
      have q3 := Nat.or_lt_two_pow (n := 8) q1 q2
      refine z_ior dX12_far_133 ?_
      rw [zor_N (by omega) (by omega)]
      refine z_istore dX12_far_134 (Nat.le_of_ble_eq_true rfl) ?_
      refine z_inc dX12_far_136 rfl (by omega) ?_
      refine z_goto (tgt := 77) dX12_far_139 rfl ?_
      try dsimp only [zs0, zsI, zsP, zsN, zsJ, zsS, zst2, Nat.reduceAdd]
      rw [show (k : Int) + 1 = ((k + 1 : Nat) : Int) by omega]
      rw [gStp_s, if_pos (Or.inl h97)] at hP
      exact ih (k + 1) _ (by omega) (Nat.or_lt_two_pow (n := 8) hS q3) hP
    · refine z_iload dX12_far_100 rfl ?_
      refine z_aload_n dX12_far_102 rfl ?_
      refine z_iload dX12_far_103 rfl ?_
      refine z_callV mlX12_279 dX12_far_105 (sh_M hE) (av := [_]) rfl rfl (Nat.le_of_ble_eq_true rfl) (r_toOf _ hE hm (k : Int) (by omega) (by omega) hc.1) (Nat.le_refl _) (Nat.le_refl _) (Nat.le_refl _) (Nat.le_refl _) ?_
      rw [gTo_eq hc.1]
      rintro _ _ ⟨rfl, rfl⟩
      refine z_callS mlX12_158 dX12_far_108 (av := [_, _]) rfl rfl (Nat.le_of_ble_eq_true rfl) (r_has _ hE hm was (gTo (m a_codes) k) (by omega) (by omega)) (Nat.le_refl _) (Nat.le_refl _) (Nat.le_refl _) (Nat.le_refl _) ?_
      rintro _ _ ⟨rfl, rfl⟩
      refine z_ifz_eq (tgt := 136) dX12_far_111 rfl (fun h111 => ?_) (fun h111 => ?_)
      · refine z_inc dX12_far_136 rfl (by omega) ?_
        refine z_goto (tgt := 77) dX12_far_139 rfl ?_
        try dsimp only [zs0, zsI, zsP, zsN, zsJ, zsS, zst2, Nat.reduceAdd]
        rw [show (k : Int) + 1 = ((k + 1 : Nat) : Int) by omega]
        rw [gStp_s, if_neg (by rintro (h | h); exact h97 h; exact h111 h)] at hP
        exact ih (k + 1) S (by omega) hS hP
      · refine z_iload dX12_far_114 rfl ?_
        refine z_iconst dX12_far_116 (by decide) ?_
        refine z_aload_n dX12_far_117 rfl ?_
        refine z_iload dX12_far_118 rfl ?_
        refine z_callV mlX12_276 dX12_far_120 (sh_M hE) (av := [_]) rfl rfl (Nat.le_of_ble_eq_true rfl) (r_fromOf _ hE hm (k : Int) (by omega) (by omega) hc.1) (Nat.le_refl _) (Nat.le_refl _) (Nat.le_refl _) (Nat.le_refl _) ?_
        rw [gFr_eq hc.1]
        rintro _ _ ⟨rfl, rfl⟩
        refine z_ishl dX12_far_123 ?_
        rw [zshl_1 (by omega)]
        refine z_iconst dX12_far_124 (by decide) ?_
        refine z_aload_n dX12_far_125 rfl ?_
        refine z_iload dX12_far_126 rfl ?_
        refine z_callV mlX12_279 dX12_far_128 (sh_M hE) (av := [_]) rfl rfl (Nat.le_of_ble_eq_true rfl) (r_toOf _ hE hm (k : Int) (by omega) (by omega) hc.1) (Nat.le_refl _) (Nat.le_refl _) (Nat.le_refl _) (Nat.le_refl _) ?_
        rw [gTo_eq hc.1]
        rintro _ _ ⟨rfl, rfl⟩
        refine z_ishl dX12_far_131 ?_
        rw [zshl_1 (by omega)]
        have q1 : (2 : Nat) ^ gFr (m a_codes) k < 256 := Nat.pow_lt_pow_right (n := 8) (by omega) hc.2.1
        have q2 : (2 : Nat) ^ gTo (m a_codes) k < 256 := Nat.pow_lt_pow_right (n := 8) (by omega) hc.2.2
        refine z_ior dX12_far_132 ?_
        rw [zor_N (by omega) (by omega)]
        have q3 := Nat.or_lt_two_pow (n := 8) q1 q2
        refine z_ior dX12_far_133 ?_
        rw [zor_N (by omega) (by omega)]
        refine z_istore dX12_far_134 (Nat.le_of_ble_eq_true rfl) ?_
        refine z_inc dX12_far_136 rfl (by omega) ?_
        refine z_goto (tgt := 77) dX12_far_139 rfl ?_
        try dsimp only [zs0, zsI, zsP, zsN, zsJ, zsS, zst2, Nat.reduceAdd]
        rw [show (k : Int) + 1 = ((k + 1 : Nat) : Int) by omega]
        rw [gStp_s, if_pos (Or.inr h111)] at hP
        exact ih (k + 1) _ (by omega) (Nat.or_lt_two_pow (n := 8) hS q3) hP

theorem l_far (d : Nat) {E : zE} {m : zM} {P : Option zV → zM → Prop} (hE : shM E) (hm : ptM m) (hln : 0 ≤ m aM f_lines ∧ m aM f_lines ≤ 6) (hcd : ∀ k : Nat, (k : Int) < m aM f_lines → 0 ≤ m a_codes k ∧ gFr (m a_codes) k < 8 ∧ gTo (m a_codes) k < 8) (dd : Int) (p q : Nat) (hp : p < 8) (hq : q < 8) (hP1 : (zfst (fun i => (gIt (m aM f_lines).toNat (m a_codes) p i.toNat).testBit q) 8 0) ≠ -1 → P (some (zI (zfst (fun i => (gIt (m aM f_lines).toNat (m a_codes) p i.toNat).testBit q) 8 0))) m) (hP2 : (zfst (fun i => (gIt (m aM f_lines).toNat (m a_codes) p i.toNat).testBit q) 8 0) = -1 → P (some (zI (-1))) (zu m aM f_status 5)) : ∀ (j n was : Nat), n + j = 9 → (n = 0 → was = 0) → (n ≠ 0 → was = gIt (m aM f_lines).toNat (m a_codes) p (n - 1)) → (n ≠ 0 → sUn was 8 + n ≤ 8) → (∀ i, i < n → (gIt (m aM f_lines).toNat (m a_codes) p i).testBit q = false) → zA zX12_far (d + 1) E E P 54 [zP aM, zI dd, zI (p : Nat), zI (q : Nat), zI (gIt (m aM f_lines).toNat (m a_codes) p n : Nat), zI (was : Nat), zI (n : Nat), zN] [] m E := by
  have hlt := gIt_lt (L := (m aM f_lines).toNat) (co := m a_codes) hp (fun x hx => ⟨(hcd x (by omega)).2.1, (hcd x (by omega)).2.2⟩)
  intro j
  induction j with
  | zero =>
    intro n was hj hw0 hws hwz hno
    have := hwz (by omega)
    omega
  | succ j ih =>
    intro n was hj hw0 hws hwz hno
    have hwl : was < 256 := by
      by_cases e : n = 0
      · rw [hw0 e]; decide
      · rw [hws e]; exact hlt _
    have hln2 := hlt n
    refine z_iload dX12_far_54 rfl ?_
    refine z_iload_n dX12_far_56 rfl ?_
    refine z_callS mlX12_158 dX12_far_57 (av := [_, _]) rfl rfl (Nat.le_of_ble_eq_true rfl) (r_has _ hE hm (gIt (m aM f_lines).toNat (m a_codes) p n) q (by have := hlt n; omega) (by omega)) (Nat.le_refl _) (Nat.le_refl _) (Nat.le_refl _) (Nat.le_refl _) ?_
    rintro _ _ ⟨rfl, rfl⟩
    refine z_ifz_ne (tgt := 148) dX12_far_60 rfl (fun h60 => ?_) (fun h60 => ?_)
    · have e8 : n < 8 := by
        rcases Nat.lt_or_ge n 8 with e | e
        · exact e
        · exfalso
          have e9 : n = 8 := by have := hwz; omega
          have hs := hws (by omega)
          have h1 := hno (n - 1) (by omega)
          have hz : sUn was 8 = 0 := by omega
          have hsub : gSub was (gIt (m aM f_lines).toNat (m a_codes) p n) := by
            rw [hs, show n = n - 1 + 1 by omega]
            exact gIt_sub _
          have hu := sUn_0 (show q < 8 by omega) hz
          rw [hs] at hu
          rw [hu] at h1
          cases h1
      have e := zfst_at (p := fun i => (gIt (m aM f_lines).toNat (m a_codes) p i.toNat).testBit q) (n := n) (N := 8) (fun i hi => by simpa using hno i hi) (by simpa using h60) e8
      refine z_iload dX12_far_148 rfl ?_
      refine z_iload_n dX12_far_150 rfl ?_
      refine z_callS mlX12_158 dX12_far_151 (av := [_, _]) rfl rfl (Nat.le_of_ble_eq_true rfl) (r_has _ hE hm (gIt (m aM f_lines).toNat (m a_codes) p n) q (by have := hlt n; omega) (by omega)) (Nat.le_refl _) (Nat.le_refl _) (Nat.le_refl _) (Nat.le_refl _) ?_
      rintro _ _ ⟨rfl, rfl⟩
      refine z_ifz_eq (tgt := 162) dX12_far_154 rfl (fun h => absurd h60 h) (fun h154 => ?_)
      refine z_iload dX12_far_157 rfl ?_
      refine z_goto (tgt := 167) dX12_far_159 rfl ?_
      refine z_iret dX12_far_167 rfl rfl ?_
      rw [e] at hP1
      exact hP1 (by omega)
    · refine z_iload dX12_far_63 rfl ?_
      refine z_iload dX12_far_65 rfl ?_
      refine z_icmp_eq (tgt := 148) dX12_far_67 rfl (fun h67 => ?_) (fun h67 => ?_)
      · have hs : n ≠ 0 ∧ was = gIt (m aM f_lines).toNat (m a_codes) p (n - 1) := by
          by_cases e : n = 0
          · exfalso
            subst e
            have h1 := hw0 rfl
            rw [h1] at h67
            have h3 : gIt (m aM f_lines).toNat (m a_codes) p 0 = 2 ^ p := rfl
            have h2 : (0 : Nat) = 2 ^ p := by omega
            have := Nat.two_pow_pos p
            omega
          · exact ⟨e, hws e⟩
        have e := zfst_none (p := fun i => (gIt (m aM f_lines).toNat (m a_codes) p i.toNat).testBit q) (N := 8) (fun i hi => by
          have e3 : gIt (m aM f_lines).toNat (m a_codes) p (n - 1 + 1) = gIt (m aM f_lines).toNat (m a_codes) p (n - 1) := by rw [show n - 1 + 1 = n by omega, ← hs.2]; omega
          rcases Nat.lt_or_ge i n with q1 | q1
          · simpa using hno i q1
          · have := gIt_stable e3 i (by omega)
            simp only [Int.toNat_natCast]
            rw [this]
            exact hno (n - 1) (by omega))
        refine z_iload dX12_far_148 rfl ?_
        refine z_iload_n dX12_far_150 rfl ?_
        refine z_callS mlX12_158 dX12_far_151 (av := [_, _]) rfl rfl (Nat.le_of_ble_eq_true rfl) (r_has _ hE hm (gIt (m aM f_lines).toNat (m a_codes) p n) q (by have := hlt n; omega) (by omega)) (Nat.le_refl _) (Nat.le_refl _) (Nat.le_refl _) (Nat.le_refl _) ?_
        rintro _ _ ⟨rfl, rfl⟩
        refine z_ifz_eq (tgt := 162) dX12_far_154 rfl (fun h154 => ?_) (fun h => absurd h h60)
        refine z_aload_n dX12_far_162 rfl ?_
        refine z_iconst dX12_far_163 (by decide) ?_
        refine z_callV mlX12_426 dX12_far_164 (sh_M hE) (av := [_]) rfl rfl (Nat.le_of_ble_eq_true rfl) (r_refuse _ hE hm 5) (Nat.le_refl _) (Nat.le_refl _) (Nat.le_refl _) (Nat.le_refl _) ?_
        rintro _ _ ⟨rfl, rfl⟩
        refine z_iret dX12_far_167 rfl rfl ?_
        exact hP2 e
      · refine z_iload dX12_far_70 rfl ?_
        refine z_istore dX12_far_72 (Nat.le_of_ble_eq_true rfl) ?_
        refine z_iconst dX12_far_74 (by decide) ?_
        refine z_istore dX12_far_75 (Nat.le_of_ble_eq_true rfl) ?_
        try dsimp only [zs0, zsI, zsP, zsN, zsJ, zsS, zst2, Nat.reduceAdd]
        refine l_far_in d hE hm dd p q (gIt (m aM f_lines).toNat (m a_codes) p n) (n : Int) (hlt n) hln hcd (m aM f_lines).toNat 0 (gIt (m aM f_lines).toNat (m a_codes) p n) (by omega) (hlt n) ?_
        refine z_inc dX12_far_142 rfl (by omega) ?_
        refine z_goto (tgt := 54) dX12_far_145 rfl ?_
        try dsimp only [zs0, zsI, zsP, zsN, zsJ, zsS, zst2, Nat.reduceAdd]
        rw [show (n : Int) + 1 = ((n + 1 : Nat) : Int) by omega]
        refine ih (n + 1) _ (by omega) (fun h => absurd h (by omega)) (fun _ => by rw [Nat.add_sub_cancel]) (fun _ => ?_) (fun i hi => ?_)
        · by_cases e : n = 0
          · subst e
            have := sUn_two hp
            show sUn (2 ^ p) 8 + (0 + 1) ≤ 8
            omega
          · have h1 := hwz e
            have h2 : gSub was (gIt (m aM f_lines).toNat (m a_codes) p n) := by
              rw [hws e]
              have := gIt_sub (L := (m aM f_lines).toNat) (co := m a_codes) (p := p) (n - 1)
              rw [show n - 1 + 1 = n by omega] at this
              exact this
            have := sUn_grow h2 (hlt n) (by omega)
            omega
        · by_cases e : i = n
          · rw [e]; simpa using h60
          · exact hno i (by omega)

theorem q_far (d : Nat) {E : zE} {m : zM} (hE : shM E) (hI : mI m) (dd p q : Int)  : zR zX12_far (d + 15) [zP aM, zI dd, zI p, zI q] m E E (fun r m' => r = some (zI (aFar (mT m) dd p q).2) ∧ mQ m m' (aFar (mT m) dd p q).1) := by
  have hm := hI.1.1
  obtain ⟨hw, hl, hn⟩ := mI_wl hI
  have hq0 := mQ_rf hI
  have eT0 : mT m = mT m := rfl
  have t4 : (mT m).2.2.2 = m aM f_letters := rfl
  have t0 : (mT m).1 0 = m a_c 0 := rfl
  have t1 : (mT m).1 1 = m a_c 1 := rfl
  have t2 : (mT m).1 2 = m a_c 2 := rfl
  have b1 := hw.1
  have b2 := hw.2.1
  have b3 := hw.2.2.1
  refine zR_go [zP aM, zI dd, zI p, zI q, zN, zN, zN, zN] (by decide +kernel) (Nat.le_of_ble_eq_true rfl) rfl rfl ?_
  refine z_aload_n dX12_far_0 rfl ?_
  refine z_aload_n dX12_far_1 rfl ?_
  refine z_iload_n dX12_far_2 rfl ?_
  refine z_callV mlX12_420 dX12_far_3 (sh_M hE) (av := [_]) rfl rfl (Nat.le_of_ble_eq_true rfl) (q_isDiagram _ hE hI dd) (Nat.le_refl _) (Nat.le_refl _) (Nat.le_refl _) (Nat.le_refl _) ?_
  rintro _ m1 ⟨rfl, g1, f1, hL1, hN1⟩
  have hq1 := mQ_names hq0 g1 f1
  have hI1 := hq1.1
  have hm1 := hI1.1.1
  have eT1 := mQ_T hq1
  have ec1 : m1 a_c = m a_c := congrArg (fun q => q.1) eT1
  have ec21 : m1 a_c 2 = m a_c 2 := congrFun ec1 2
  have ew1 : m1 a_what = m a_what := congrArg (fun q => q.2.1) eT1
  have ep1 : m1 a_pointOf = m a_pointOf := congrArg (fun q => q.2.2.1) eT1
  have en1 : m1 aM f_letters = m aM f_letters := congrArg (fun q => q.2.2.2) eT1
  obtain ⟨hw1, hl1, hn1⟩ := mI_wl hI1
  have hlen1 := mL_len hI1.1 hL1
  have hsg1 := mL_sg hI1.1 hL1
  have nD1 := mN_D hN1
  refine z_ifz_eq (tgt := 29) dX12_far_6 rfl (fun h6 => ?_) (fun h6 => ?_)
  · refine z_iconst dX12_far_29 (by decide) ?_
    refine z_callV mlX12_310 dX12_far_30 (sh_M hE) (av := [_]) rfl rfl (Nat.le_of_ble_eq_true rfl) (r_is _ hE hm1 _) (Nat.le_refl _) (Nat.le_refl _) (Nat.le_refl _) (Nat.le_refl _) ?_
    rintro _ m2 ⟨rfl, e2⟩
    have hq2 : mQ m m2 2 := e2 ▸ mQ_is hq1
    have hI2 := hq2.1
    have hm2 := hI2.1.1
    have eT2 := mQ_T hq2
    have ec2 : m2 a_c = m a_c := congrArg (fun q => q.1) eT2
    have ec22 : m2 a_c 2 = m a_c 2 := congrFun ec2 2
    have ew2 : m2 a_what = m a_what := congrArg (fun q => q.2.1) eT2
    have ep2 : m2 a_pointOf = m a_pointOf := congrArg (fun q => q.2.2.1) eT2
    have en2 : m2 aM f_letters = m aM f_letters := congrArg (fun q => q.2.2.2) eT2
    obtain ⟨hw2, hl2, hn2⟩ := mI_wl hI2
    have hL2 : mL m2 := e2 ▸ mL_S hL1
    have hN2 : mN m2 := e2 ▸ mN_S hN1
    refine z_ifz_ne (tgt := 38) dX12_far_33 rfl (fun h => absurd h (by decide)) (fun h33 => ?_)
    refine z_iconst dX12_far_36 (by decide) ?_
    refine z_iret dX12_far_37 rfl rfl ?_
    have eA : aFar (mT m) dd p q = (2, -1) := by unfold aFar; rw [if_pos (by omega)]
    rw [eA]
    exact ⟨rfl, hq2⟩
  · refine z_aload_n dX12_far_9 rfl ?_
    refine z_iload_n dX12_far_10 rfl ?_
    refine z_callV mlX12_332 dX12_far_11 (sh_M hE) (av := [_]) rfl rfl (Nat.le_of_ble_eq_true rfl) (r_isPoint _ hE hm1 p hw1) (Nat.le_refl _) (Nat.le_refl _) (Nat.le_refl _) (Nat.le_refl _) ?_
    rintro _ _ ⟨rfl, rfl⟩
    refine z_ifz_eq (tgt := 29) dX12_far_14 rfl (fun h14 => ?_) (fun h14 => ?_)
    · refine z_iconst dX12_far_29 (by decide) ?_
      refine z_callV mlX12_310 dX12_far_30 (sh_M hE) (av := [_]) rfl rfl (Nat.le_of_ble_eq_true rfl) (r_is _ hE hm1 _) (Nat.le_refl _) (Nat.le_refl _) (Nat.le_refl _) (Nat.le_refl _) ?_
      rintro _ m2 ⟨rfl, e2⟩
      have hq2 : mQ m m2 2 := e2 ▸ mQ_is hq1
      have hI2 := hq2.1
      have hm2 := hI2.1.1
      have eT2 := mQ_T hq2
      have ec2 : m2 a_c = m a_c := congrArg (fun q => q.1) eT2
      have ec22 : m2 a_c 2 = m a_c 2 := congrFun ec2 2
      have ew2 : m2 a_what = m a_what := congrArg (fun q => q.2.1) eT2
      have ep2 : m2 a_pointOf = m a_pointOf := congrArg (fun q => q.2.2.1) eT2
      have en2 : m2 aM f_letters = m aM f_letters := congrArg (fun q => q.2.2.2) eT2
      obtain ⟨hw2, hl2, hn2⟩ := mI_wl hI2
      have hL2 : mL m2 := e2 ▸ mL_S hL1
      have hN2 : mN m2 := e2 ▸ mN_S hN1
      refine z_ifz_ne (tgt := 38) dX12_far_33 rfl (fun h => absurd h (by decide)) (fun h33 => ?_)
      refine z_iconst dX12_far_36 (by decide) ?_
      refine z_iret dX12_far_37 rfl rfl ?_
      have eA : aFar (mT m) dd p q = (2, -1) := by unfold aFar; rw [if_pos (by omega)]
      rw [eA]
      exact ⟨rfl, hq2⟩
    · refine z_aload_n dX12_far_17 rfl ?_
      refine z_iload_n dX12_far_18 rfl ?_
      refine z_callV mlX12_332 dX12_far_19 (sh_M hE) (av := [_]) rfl rfl (Nat.le_of_ble_eq_true rfl) (r_isPoint _ hE hm1 q hw1) (Nat.le_refl _) (Nat.le_refl _) (Nat.le_refl _) (Nat.le_refl _) ?_
      rintro _ _ ⟨rfl, rfl⟩
      refine z_ifz_eq (tgt := 29) dX12_far_22 rfl (fun h22 => ?_) (fun h22 => ?_)
      · refine z_iconst dX12_far_29 (by decide) ?_
        refine z_callV mlX12_310 dX12_far_30 (sh_M hE) (av := [_]) rfl rfl (Nat.le_of_ble_eq_true rfl) (r_is _ hE hm1 _) (Nat.le_refl _) (Nat.le_refl _) (Nat.le_refl _) (Nat.le_refl _) ?_
        rintro _ m2 ⟨rfl, e2⟩
        have hq2 : mQ m m2 2 := e2 ▸ mQ_is hq1
        have hI2 := hq2.1
        have hm2 := hI2.1.1
        have eT2 := mQ_T hq2
        have ec2 : m2 a_c = m a_c := congrArg (fun q => q.1) eT2
        have ec22 : m2 a_c 2 = m a_c 2 := congrFun ec2 2
        have ew2 : m2 a_what = m a_what := congrArg (fun q => q.2.1) eT2
        have ep2 : m2 a_pointOf = m a_pointOf := congrArg (fun q => q.2.2.1) eT2
        have en2 : m2 aM f_letters = m aM f_letters := congrArg (fun q => q.2.2.2) eT2
        obtain ⟨hw2, hl2, hn2⟩ := mI_wl hI2
        have hL2 : mL m2 := e2 ▸ mL_S hL1
        have hN2 : mN m2 := e2 ▸ mN_S hN1
        refine z_ifz_ne (tgt := 38) dX12_far_33 rfl (fun h => absurd h (by decide)) (fun h33 => ?_)
        refine z_iconst dX12_far_36 (by decide) ?_
        refine z_iret dX12_far_37 rfl rfl ?_
        have eA : aFar (mT m) dd p q = (2, -1) := by unfold aFar; rw [if_pos (by omega)]
        rw [eA]
        exact ⟨rfl, hq2⟩
      · refine z_iconst dX12_far_25 (by decide) ?_
        refine z_goto (tgt := 30) dX12_far_26 rfl ?_
        refine z_callV mlX12_310 dX12_far_30 (sh_M hE) (av := [_]) rfl rfl (Nat.le_of_ble_eq_true rfl) (r_is _ hE hm1 _) (Nat.le_refl _) (Nat.le_refl _) (Nat.le_refl _) (Nat.le_refl _) ?_
        rintro _ m2 ⟨rfl, e2⟩
        have hq2 : mQ m m2 0 := e2 ▸ mQ_is hq1
        have hI2 := hq2.1
        have hm2 := hI2.1.1
        have eT2 := mQ_T hq2
        have ec2 : m2 a_c = m a_c := congrArg (fun q => q.1) eT2
        have ec22 : m2 a_c 2 = m a_c 2 := congrFun ec2 2
        have ew2 : m2 a_what = m a_what := congrArg (fun q => q.2.1) eT2
        have ep2 : m2 a_pointOf = m a_pointOf := congrArg (fun q => q.2.2.1) eT2
        have en2 : m2 aM f_letters = m aM f_letters := congrArg (fun q => q.2.2.2) eT2
        obtain ⟨hw2, hl2, hn2⟩ := mI_wl hI2
        have hL2 : mL m2 := e2 ▸ mL_S hL1
        have hN2 : mN m2 := e2 ▸ mN_S hN1
        refine z_ifz_ne (tgt := 38) dX12_far_33 rfl (fun h33 => ?_) (fun h => absurd (by decide) h)
        refine z_aload_n dX12_far_38 rfl ?_
        refine z_iload_n dX12_far_39 rfl ?_
        refine z_callV mlX12_289 dX12_far_40 (sh_M hE) (av := [_]) rfl rfl (Nat.le_of_ble_eq_true rfl) (q_opens _ hE hI2 dd hN2 (by omega) (by rw [eT2]; omega)) (Nat.le_refl _) (Nat.le_refl _) (Nat.le_refl _) (Nat.le_refl _) ?_
        rintro _ m3 ⟨rfl, f3, o3⟩
        have hq3 := mQ_fr hq2 f3
        have hI3 := hq3.1
        have hm3 := hI3.1.1
        have eT3 := mQ_T hq3
        have ec3 : m3 a_c = m a_c := congrArg (fun q => q.1) eT3
        have ec23 : m3 a_c 2 = m a_c 2 := congrFun ec3 2
        have ew3 : m3 a_what = m a_what := congrArg (fun q => q.2.1) eT3
        have ep3 : m3 a_pointOf = m a_pointOf := congrArg (fun q => q.2.2.1) eT3
        have en3 : m3 aM f_letters = m aM f_letters := congrArg (fun q => q.2.2.2) eT3
        obtain ⟨hw3, hl3, hn3⟩ := mI_wl hI3
        rw [eT2] at o3
        have hL3 := mL_kept f3 hL2
        have hN3 := mN_keptW f3 hN2
        have hA3 := tAll_lt hw3
        have nD3 := mN_D hN3
        have hlen3 := mL_len hI3.1 hL3
        obtain ⟨p, rfl⟩ : ∃ n : Nat, p = n := ⟨p.toNat, by omega⟩
        obtain ⟨q, rfl⟩ : ∃ n : Nat, q = n := ⟨q.toNat, by omega⟩
        refine z_iconst dX12_far_43 (by decide) ?_
        refine z_iload_n dX12_far_44 rfl ?_
        refine z_ishl dX12_far_45 ?_
        rw [zshl_1 (by omega)]
        refine z_istore dX12_far_46 (Nat.le_of_ble_eq_true rfl) ?_
        refine z_iconst dX12_far_48 (by decide) ?_
        refine z_istore dX12_far_49 (Nat.le_of_ble_eq_true rfl) ?_
        refine z_iconst dX12_far_51 (by decide) ?_
        refine z_istore dX12_far_52 (Nat.le_of_ble_eq_true rfl) ?_
        try dsimp only [zs0, zsI, zsP, zsN, zsJ, zsS, zst2, Nat.reduceAdd]
        have eG : gIt (m3 aM f_lines).toNat (m3 a_codes) p = gIt (tH (mT m)) (tCo (mT m) dd) p := by rw [show (m3 aM f_lines).toNat = tH (mT m) by have := o3.1; omega]; exact gIt_co (fun i hi => o3.2.2.1 i (by omega) (by omega))
        refine l_far (d + 14) hE hm3 (mOp_ln o3) (mOp_rg hw3 o3) dd p q (by omega) (by omega) ?_ ?_ 9 0 0 (by omega) (fun _ => rfl) (fun h => absurd rfl h) (fun h => absurd rfl h) (fun i hi => absurd hi (by omega))
        · rw [eG]
          intro hne
          have eA : aFar (mT m) dd (p : Int) (q : Int) = (0, tFar (tH (mT m)) (tCo (mT m) dd) p q) := by unfold aFar; rw [if_neg (by omega), Int.toNat_natCast, Int.toNat_natCast, if_neg (show tFar (tH (mT m)) (tCo (mT m) dd) p q ≠ -1 from hne)]
          rw [eA]
          exact ⟨rfl, hq3⟩
        · rw [eG]
          intro hne
          have eA : aFar (mT m) dd (p : Int) (q : Int) = (5, -1) := by unfold aFar; rw [if_neg (by omega), Int.toNat_natCast, Int.toNat_natCast, if_pos (show tFar (tH (mT m)) (tCo (mT m) dd) p q = -1 from hne)]
          rw [eA]
          exact ⟨rfl, mQ_st hq3⟩

theorem l_holds_in (d : Nat) {E : zE} {m : zM} {P : Option zV → zM → Prop} (hE : shM E) (hm : ptM m) (dd p : Int) (set : Int) (o : Nat) (ho : o < 256)  : ∀ (j : Nat) (i : Nat), (i + j = 8) → (∃ x : Nat, i ≤ x ∧ x < 8 ∧ o.testBit x = true) → (zA zX12_holds (d + 2) E E P 83 [zP aM, zI dd, zI set, zI p, zI (o : Nat), zI (zfst (fun x => o.testBit x.toNat) j (i : Int))] [] m E) → zA zX12_holds (d + 2) E E P 67 [zP aM, zI dd, zI set, zI p, zI (o : Nat), zI (i : Nat)] [] m E := by
  intro j
  induction j with
  | zero =>
    intro i hi hex hP
    obtain ⟨x, x1, x2, x3⟩ := hex
    omega
  | succ j ih =>
    intro i hi hex hP
    refine z_iload dX12_holds_67 rfl ?_
    refine z_iload dX12_holds_69 rfl ?_
    refine z_callS mlX12_158 dX12_holds_71 (av := [_, _]) rfl rfl (Nat.le_of_ble_eq_true rfl) (r_has _ hE hm o i (by omega) (by omega)) (Nat.le_refl _) (Nat.le_refl _) (Nat.le_refl _) (Nat.le_refl _) ?_
    rintro _ _ ⟨rfl, rfl⟩
    refine z_ifz_ne (tgt := 83) dX12_holds_74 rfl (fun h74 => ?_) (fun h74 => ?_)
    · rw [zfst_t (by simpa using h74)] at hP
      exact hP
    · refine z_inc dX12_holds_77 rfl (by omega) ?_
      refine z_goto (tgt := 67) dX12_holds_80 rfl ?_
      try dsimp only [zs0, zsI, zsP, zsN, zsJ, zsS, zst2, Nat.reduceAdd]
      rw [zfst_f (by simpa using h74)] at hP
      rw [show (i : Int) + 1 = ((i + 1 : Nat) : Int) by omega] at hP ⊢
      exact ih (i + 1) (by omega) (by obtain ⟨x, x1, x2, x3⟩ := hex; refine ⟨x, ?_, x2, x3⟩; by_cases e : x = i; (subst e; exact absurd x3 h74); omega) hP

theorem l_holds_p (d : Nat) {E : zE} {m : zM} {P : Option zV → zM → Prop} (hE : shM E) (hm : ptM m) (co : Int → Int) (h : Nat) (ho : mOp m co h) (hw : wfC (m a_c)) (dd : Int)  : ∀ (j : Nat) (p : Nat), ((p : Int) + j = m a_c 2) → (P (some (zI (zmask (tHf h co) (m a_c 2).toNat : Nat))) m) → zA zX12_holds (d + 2) E E P 31 [zP aM, zI dd, zI (zmask (tHf h co) p : Nat), zI (p : Nat), zN, zN] [] m E := by
  intro j
  induction j with
  | zero =>
    intro p hk hP
    have hb3 := hw.2.2.1
    have hmk := zmask_lt (tHf h co) p
    have hp8 : 2 ^ p ≤ 2 ^ 8 := Nat.pow_le_pow_right (by decide) (by omega)
    refine z_iload_n dX12_holds_31 rfl ?_
    refine z_aload_n dX12_holds_32 rfl ?_
    refine z_gP 0 rfl (r := a_c) flX12_7 dX12_holds_33 (sh_M hE) rfl (pt_c hm) (by decide) ?_
    refine z_iconst dX12_holds_36 (by decide) ?_
    refine z_iald dX12_holds_37 (sh_c hE) (by omega) (by omega) ?_
    refine z_icmp_ge (tgt := 112) dX12_holds_38 rfl (fun h38 => ?_) (fun h => absurd (by omega) h)
    refine z_iload_n dX12_holds_112 rfl ?_
    refine z_iret dX12_holds_113 rfl rfl ?_
    rw [show (m a_c 2).toNat = p by omega] at hP
    exact hP
  | succ j ih =>
    intro p hk hP
    have hb3 := hw.2.2.1
    have hmk := zmask_lt (tHf h co) p
    have hp8 : 2 ^ p ≤ 2 ^ 8 := Nat.pow_le_pow_right (by decide) (by omega)
    refine z_iload_n dX12_holds_31 rfl ?_
    refine z_aload_n dX12_holds_32 rfl ?_
    refine z_gP 0 rfl (r := a_c) flX12_7 dX12_holds_33 (sh_M hE) rfl (pt_c hm) (by decide) ?_
    refine z_iconst dX12_holds_36 (by decide) ?_
    refine z_iald dX12_holds_37 (sh_c hE) (by omega) (by omega) ?_
    refine z_icmp_ge (tgt := 112) dX12_holds_38 rfl (fun h => absurd h (by omega)) (fun h38 => ?_)
    refine z_aload_n dX12_holds_41 rfl ?_
    refine z_iload_n dX12_holds_42 rfl ?_
    refine z_iconst dX12_holds_43 (by decide) ?_
    refine z_iconst dX12_holds_44 (by decide) ?_
    refine z_callV mlX12_282 dX12_holds_45 (sh_M hE) (av := [_, _, _]) rfl rfl (Nat.le_of_ble_eq_true rfl) (q_reached _ hE hm hw ho p (-1) (-1) (by omega)) (Nat.le_refl _) (Nat.le_refl _) (Nat.le_refl _) (Nat.le_refl _) ?_
    rintro _ _ ⟨rfl, rfl⟩
    have hRl := @gR_lt h (gFr co) (gTo co) (gSk co (-1) (-1)) p
    have hRl : tR h co (-1) (-1) p < 256 := hRl
    have hol : (tR h co (-1) (-1) p ^^^ (tR h co (-1) (-1) p &&& 2 ^ p)) < 256 := Nat.xor_lt_two_pow (n := 8) hRl (Nat.lt_of_le_of_lt Nat.and_le_left hRl)
    refine z_iconst dX12_holds_48 (by decide) ?_
    refine z_iload_n dX12_holds_49 rfl ?_
    refine z_ishl dX12_holds_50 ?_
    rw [zshl_1 (by omega)]
    refine z_iconst dX12_holds_51 (by decide) ?_
    refine z_ixor dX12_holds_52 ?_
    have hpp : (2 : Nat) ^ p < 256 := Nat.pow_lt_pow_right (n := 8) (by omega) (by omega)
    refine z_iand dX12_holds_53 ?_
    rw [zandn_N (by omega) (by omega)]
    refine z_istore dX12_holds_54 (Nat.le_of_ble_eq_true rfl) ?_
    refine z_iload dX12_holds_56 rfl ?_
    try dsimp only [zs0, zsI, zsP, zsN, zsJ, zsS, zst2, Nat.reduceAdd]
    refine z_if_ne (tgt := 64) dX12_holds_58 rfl (fun h58 => ?_) (fun h58 => ?_)
    · refine z_iconst dX12_holds_64 (by decide) ?_
      refine z_istore dX12_holds_65 (Nat.le_of_ble_eq_true rfl) ?_
      try dsimp only [zs0, zsI, zsP, zsN, zsJ, zsS, zst2, Nat.reduceAdd]
      have hne : (tR h co (-1) (-1) p ^^^ (tR h co (-1) (-1) p &&& 2 ^ p)) ≠ 0 := fun e => h58 (by rw [e]; rfl)
      have hex := nbit_ex hne hol
      have hlo := zfst_ge (p := fun x => ((tR h co (-1) (-1) p ^^^ (tR h co (-1) (-1) p &&& 2 ^ p))).testBit x.toNat) (j := 8) (k := 0) (by omega)
      have hlo2 : 0 ≤ zfst (fun x => ((tR h co (-1) (-1) p ^^^ (tR h co (-1) (-1) p &&& 2 ^ p))).testBit x.toNat) 8 0 ∧ zfst (fun x => ((tR h co (-1) (-1) p ^^^ (tR h co (-1) (-1) p &&& 2 ^ p))).testBit x.toNat) 8 0 < 8 := by
        rcases hlo with h | h
        · obtain ⟨x, x1, x2⟩ := hex
          have := h.2 x (by omega) (by omega)
          rw [Int.toNat_natCast] at this
          rw [this] at x2
          cases x2
        · omega
      have hf8 : (zfst (fun x => ((tR h co (-1) (-1) p ^^^ (tR h co (-1) (-1) p &&& 2 ^ p))).testBit x.toNat) 8 0).toNat < 8 := by omega
      have hfc : zfst (fun x => ((tR h co (-1) (-1) p ^^^ (tR h co (-1) (-1) p &&& 2 ^ p))).testBit x.toNat) 8 0 = (((zfst (fun x => ((tR h co (-1) (-1) p ^^^ (tR h co (-1) (-1) p &&& 2 ^ p))).testBit x.toNat) 8 0).toNat : Nat) : Int) := by omega
      refine l_holds_in d hE hm dd (p : Int) _ (tR h co (-1) (-1) p ^^^ (tR h co (-1) (-1) p &&& 2 ^ p)) hol 8 0 (by omega) (by obtain ⟨x, x1, x2⟩ := hex; exact ⟨x, by omega, x1, x2⟩) ?_
      refine z_iload_n dX12_holds_83 rfl ?_
      refine z_aload_n dX12_holds_84 rfl ?_
      refine z_iload dX12_holds_85 rfl ?_
      refine z_iconst dX12_holds_87 (by decide) ?_
      refine z_iload_n dX12_holds_88 rfl ?_
      refine z_callV mlX12_282 dX12_holds_89 (sh_M hE) (av := [_, _, _]) rfl rfl (Nat.le_of_ble_eq_true rfl) (by have h := q_reached d hE hm hw ho _ (-1) (p : Int) hf8; rw [← hfc] at h; exact h) (Nat.le_refl _) (Nat.le_refl _) (Nat.le_refl _) (Nat.le_refl _) ?_
      rintro _ _ ⟨rfl, rfl⟩
      refine z_iload dX12_holds_92 rfl ?_
      refine z_icmp_eq (tgt := 103) dX12_holds_94 rfl (fun h94 => ?_) (fun h94 => ?_)
      · refine z_iconst dX12_holds_103 (by decide) ?_
        refine z_ior dX12_holds_104 ?_
        rw [zor_0 (by omega)]
        refine z_ist 2 dX12_holds_105 rfl (Nat.le_of_ble_eq_true rfl) ?_
        refine z_inc dX12_holds_106 rfl (by omega) ?_
        refine z_goto (tgt := 31) dX12_holds_109 rfl ?_
        try dsimp only [zs0, zsI, zsP, zsN, zsJ, zsS, zst2, Nat.reduceAdd]
        refine zA_wk [_, _, _, _, zN, zN] (by exact ⟨Or.inr rfl, Or.inr rfl, Or.inr rfl, Or.inr rfl, Or.inl rfl, Or.inl rfl, trivial⟩) ?_
        rw [show (p : Int) + 1 = ((p + 1 : Nat) : Int) by omega, ← zmask_n (show (tHf h co) p = false by simp only [tHf, decide_eq_false_iff_not]; exact fun e => e.2 (by omega))]
        exact ih (p + 1) (by omega) hP
      · refine z_iconst dX12_holds_97 (by decide) ?_
        refine z_iload_n dX12_holds_98 rfl ?_
        refine z_ishl dX12_holds_99 ?_
        refine z_goto (tgt := 104) dX12_holds_100 rfl ?_
        refine z_ior dX12_holds_104 ?_
        rw [zor_b (by omega) (by omega)]
        refine z_ist 2 dX12_holds_105 rfl (Nat.le_of_ble_eq_true rfl) ?_
        refine z_inc dX12_holds_106 rfl (by omega) ?_
        refine z_goto (tgt := 31) dX12_holds_109 rfl ?_
        try dsimp only [zs0, zsI, zsP, zsN, zsJ, zsS, zst2, Nat.reduceAdd]
        refine zA_wk [_, _, _, _, zN, zN] (by exact ⟨Or.inr rfl, Or.inr rfl, Or.inr rfl, Or.inr rfl, Or.inl rfl, Or.inl rfl, trivial⟩) ?_
        rw [show (p : Int) + 1 = ((p + 1 : Nat) : Int) by omega, ← zmask_s (show (tHf h co) p = true by simp only [tHf, decide_eq_true_eq]; exact ⟨hne, fun e => h94 (by rw [e])⟩)]
        exact ih (p + 1) (by omega) hP
    · refine z_goto (tgt := 106) dX12_holds_61 rfl ?_
      refine z_inc dX12_holds_106 rfl (by omega) ?_
      refine z_goto (tgt := 31) dX12_holds_109 rfl ?_
      try dsimp only [zs0, zsI, zsP, zsN, zsJ, zsS, zst2, Nat.reduceAdd]
      refine zA_wk [_, _, _, _, zN, zN] (by exact ⟨Or.inr rfl, Or.inr rfl, Or.inr rfl, Or.inr rfl, Or.inl rfl, Or.inl rfl, trivial⟩) ?_
      rw [show (p : Int) + 1 = ((p + 1 : Nat) : Int) by omega, ← zmask_n (show (tHf h co) p = false by simp only [tHf, decide_eq_false_iff_not]; exact fun e => e.1 (by omega))]
      exact ih (p + 1) (by omega) hP

theorem q_holds (d : Nat) {E : zE} {m : zM} (hE : shM E) (hI : mI m) (dd : Int)  : zR zX12_holds (d + 15) [zP aM, zI dd] m E E (fun r m' => r = some (zI (aHolds (mT m) dd).2) ∧ mQ m m' (aHolds (mT m) dd).1) := by
  have hm := hI.1.1
  obtain ⟨hw, hl, hn⟩ := mI_wl hI
  have hq0 := mQ_rf hI
  have eT0 : mT m = mT m := rfl
  have t4 : (mT m).2.2.2 = m aM f_letters := rfl
  have t0 : (mT m).1 0 = m a_c 0 := rfl
  have t1 : (mT m).1 1 = m a_c 1 := rfl
  have t2 : (mT m).1 2 = m a_c 2 := rfl
  have b1 := hw.1
  have b2 := hw.2.1
  have b3 := hw.2.2.1
  refine zR_go [zP aM, zI dd, zN, zN, zN, zN] (by decide +kernel) (Nat.le_of_ble_eq_true rfl) rfl rfl ?_
  refine z_aload_n dX12_holds_0 rfl ?_
  refine z_aload_n dX12_holds_1 rfl ?_
  refine z_iload_n dX12_holds_2 rfl ?_
  refine z_callV mlX12_420 dX12_holds_3 (sh_M hE) (av := [_]) rfl rfl (Nat.le_of_ble_eq_true rfl) (q_isDiagram _ hE hI dd) (Nat.le_refl _) (Nat.le_refl _) (Nat.le_refl _) (Nat.le_refl _) ?_
  rintro _ m1 ⟨rfl, g1, f1, hL1, hN1⟩
  have hq1 := mQ_names hq0 g1 f1
  have hI1 := hq1.1
  have hm1 := hI1.1.1
  have eT1 := mQ_T hq1
  have ec1 : m1 a_c = m a_c := congrArg (fun q => q.1) eT1
  have ec21 : m1 a_c 2 = m a_c 2 := congrFun ec1 2
  have ew1 : m1 a_what = m a_what := congrArg (fun q => q.2.1) eT1
  have ep1 : m1 a_pointOf = m a_pointOf := congrArg (fun q => q.2.2.1) eT1
  have en1 : m1 aM f_letters = m aM f_letters := congrArg (fun q => q.2.2.2) eT1
  obtain ⟨hw1, hl1, hn1⟩ := mI_wl hI1
  have hlen1 := mL_len hI1.1 hL1
  have hsg1 := mL_sg hI1.1 hL1
  have nD1 := mN_D hN1
  refine z_ifz_eq (tgt := 13) dX12_holds_6 rfl (fun h6 => ?_) (fun h6 => ?_)
  · refine z_iconst dX12_holds_13 (by decide) ?_
    refine z_callV mlX12_310 dX12_holds_14 (sh_M hE) (av := [_]) rfl rfl (Nat.le_of_ble_eq_true rfl) (r_is _ hE hm1 _) (Nat.le_refl _) (Nat.le_refl _) (Nat.le_refl _) (Nat.le_refl _) ?_
    rintro _ m2 ⟨rfl, e2⟩
    have hq2 : mQ m m2 2 := e2 ▸ mQ_is hq1
    have hI2 := hq2.1
    have hm2 := hI2.1.1
    have eT2 := mQ_T hq2
    have ec2 : m2 a_c = m a_c := congrArg (fun q => q.1) eT2
    have ec22 : m2 a_c 2 = m a_c 2 := congrFun ec2 2
    have ew2 : m2 a_what = m a_what := congrArg (fun q => q.2.1) eT2
    have ep2 : m2 a_pointOf = m a_pointOf := congrArg (fun q => q.2.2.1) eT2
    have en2 : m2 aM f_letters = m aM f_letters := congrArg (fun q => q.2.2.2) eT2
    obtain ⟨hw2, hl2, hn2⟩ := mI_wl hI2
    have hL2 : mL m2 := e2 ▸ mL_S hL1
    have hN2 : mN m2 := e2 ▸ mN_S hN1
    refine z_ifz_ne (tgt := 22) dX12_holds_17 rfl (fun h => absurd h (by decide)) (fun h17 => ?_)
    refine z_iconst dX12_holds_20 (by decide) ?_
    refine z_iret dX12_holds_21 rfl rfl ?_
    have eA : aHolds (mT m) dd = (2, -1) := by unfold aHolds; rw [if_pos (by omega)]
    rw [eA]
    exact ⟨rfl, hq2⟩
  · refine z_iconst dX12_holds_9 (by decide) ?_
    refine z_goto (tgt := 14) dX12_holds_10 rfl ?_
    refine z_callV mlX12_310 dX12_holds_14 (sh_M hE) (av := [_]) rfl rfl (Nat.le_of_ble_eq_true rfl) (r_is _ hE hm1 _) (Nat.le_refl _) (Nat.le_refl _) (Nat.le_refl _) (Nat.le_refl _) ?_
    rintro _ m2 ⟨rfl, e2⟩
    have hq2 : mQ m m2 0 := e2 ▸ mQ_is hq1
    have hI2 := hq2.1
    have hm2 := hI2.1.1
    have eT2 := mQ_T hq2
    have ec2 : m2 a_c = m a_c := congrArg (fun q => q.1) eT2
    have ec22 : m2 a_c 2 = m a_c 2 := congrFun ec2 2
    have ew2 : m2 a_what = m a_what := congrArg (fun q => q.2.1) eT2
    have ep2 : m2 a_pointOf = m a_pointOf := congrArg (fun q => q.2.2.1) eT2
    have en2 : m2 aM f_letters = m aM f_letters := congrArg (fun q => q.2.2.2) eT2
    obtain ⟨hw2, hl2, hn2⟩ := mI_wl hI2
    have hL2 : mL m2 := e2 ▸ mL_S hL1
    have hN2 : mN m2 := e2 ▸ mN_S hN1
    refine z_ifz_ne (tgt := 22) dX12_holds_17 rfl (fun h17 => ?_) (fun h => absurd (by decide) h)
    refine z_aload_n dX12_holds_22 rfl ?_
    refine z_iload_n dX12_holds_23 rfl ?_
    refine z_callV mlX12_289 dX12_holds_24 (sh_M hE) (av := [_]) rfl rfl (Nat.le_of_ble_eq_true rfl) (q_opens _ hE hI2 dd hN2 (by omega) (by rw [eT2]; omega)) (Nat.le_refl _) (Nat.le_refl _) (Nat.le_refl _) (Nat.le_refl _) ?_
    rintro _ m3 ⟨rfl, f3, o3⟩
    have hq3 := mQ_fr hq2 f3
    have hI3 := hq3.1
    have hm3 := hI3.1.1
    have eT3 := mQ_T hq3
    have ec3 : m3 a_c = m a_c := congrArg (fun q => q.1) eT3
    have ec23 : m3 a_c 2 = m a_c 2 := congrFun ec3 2
    have ew3 : m3 a_what = m a_what := congrArg (fun q => q.2.1) eT3
    have ep3 : m3 a_pointOf = m a_pointOf := congrArg (fun q => q.2.2.1) eT3
    have en3 : m3 aM f_letters = m aM f_letters := congrArg (fun q => q.2.2.2) eT3
    obtain ⟨hw3, hl3, hn3⟩ := mI_wl hI3
    rw [eT2] at o3
    have hL3 := mL_kept f3 hL2
    have hN3 := mN_keptW f3 hN2
    have hA3 := tAll_lt hw3
    have nD3 := mN_D hN3
    have hlen3 := mL_len hI3.1 hL3
    refine z_iconst dX12_holds_27 (by decide) ?_
    refine z_ist 2 dX12_holds_28 rfl (Nat.le_of_ble_eq_true rfl) ?_
    refine z_iconst dX12_holds_29 (by decide) ?_
    refine z_ist 3 dX12_holds_30 rfl (Nat.le_of_ble_eq_true rfl) ?_
    try dsimp only [zs0, zsI, zsP, zsN, zsJ, zsS, zst2, Nat.reduceAdd]
    refine l_holds_p (d + 13) hE hm3 _ _ o3 hw3 dd (m3 a_c 2).toNat 0 (by omega) ?_
    rw [ec3]
    have eA : aHolds (mT m) dd = (0, ((zmask (tHf (tH (mT m)) (tCo (mT m) dd)) ((mT m).1 2).toNat : Nat) : Int)) := by unfold aHolds; rw [if_neg (by omega)]
    rw [eA]
    exact ⟨rfl, hq3⟩
